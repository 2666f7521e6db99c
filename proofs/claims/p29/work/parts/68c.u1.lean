/-! a unit meets two vertices of both faces at most -/
theorem con_hit2 {G : xG} {A : Nat → Bool} {x s t : Nat} (ht : t < 10) (hst : s ≠ t) (hxs : x ≠ s) (hxt : x ≠ t) (h : con G A x t) : con G (fun v => A v && but s v) x t ∨ con G (fun v => A v && but t v) x s := by
  have key : con G (fun v => (A v && but s v) && but t v) x t ∨ con G (fun v => A v && but s v) x t ∨ con G (fun v => A v && but t v) x s := by
    refine con_ind (G := G) (A := A) (x := x) (fun v => con G (fun v => (A v && but s v) && but t v) x v ∨ con G (fun v => A v && but s v) x t ∨ con G (fun v => A v && but t v) x s) (fun hA => Or.inl (con_rfl (by rw [hA, but_iff.mpr hxs, but_iff.mpr hxt]; rfl))) (fun u v hu hv hp hg hA => ?_) ht h
    rcases hp with h1 | h1
    · have hx10 : True := trivial
      by_cases e1 : v = t
      · subst e1
        refine Or.inr (Or.inl ?_)
        refine con_step (y := u) ?_ hu hv hg (by rw [hA, but_iff.mpr (fun e => hst e.symm)]; rfl)
        refine con_ind (G := G) (A := fun w => (A w && but s w) && but v w) (x := x) (fun w => con G (fun v => A v && but s v) x w) (fun q => con_rfl (by rw [Bool.and_eq_true] at q; exact q.1)) (fun a b ha hb q g hAb => con_step q ha hb g (by rw [Bool.and_eq_true] at hAb; exact hAb.1)) hu h1
      · by_cases e2 : v = s
        · subst e2
          refine Or.inr (Or.inr ?_)
          refine con_step (y := u) ?_ hu hv hg (by rw [hA, but_iff.mpr e1]; rfl)
          refine con_ind (G := G) (A := fun w => (A w && but v w) && but t w) (x := x) (fun w => con G (fun v => A v && but t v) x w) (fun q => con_rfl (by rw [Bool.and_eq_true, Bool.and_eq_true] at q; rw [q.1.1, q.2]; rfl)) (fun a b ha hb q g hAb => con_step q ha hb g (by rw [Bool.and_eq_true, Bool.and_eq_true] at hAb; rw [hAb.1.1, hAb.2]; rfl)) hu h1
        · exact Or.inl (con_step h1 hu hv hg (by rw [hA, but_iff.mpr e2, but_iff.mpr e1]; rfl))
    · exact Or.inr h1
  rcases key with h1 | h1
  · have := con_in h1
    rw [Bool.and_eq_true, but_iff] at this
    exact absurd rfl this.2
  · exact h1
/-- a chain from z to t away from two others -/
def aw (P : xG) (z t s s' : Nat) : Prop := ∃ K, ch P K ∧ (∀ v, od K v = (decide (v = z) ^^ decide (v = t))) ∧ (∀ y, K s y = false) ∧ ∀ y, K s' y = false
theorem aw_two {P : xG} {PV : Nat → Bool} (hB : BIC P PV) (hV : ∀ v, PV v = true → v < 10) {z d1 d2 d3 : Nat} (hz : PV z = true) (h1 : PV d1 = true) (h2 : PV d2 = true) (h3 : PV d3 = true) (n12 : d1 ≠ d2) (n13 : d1 ≠ d3) (z1 : z ≠ d1) (z2 : z ≠ d2) (z3 : z ≠ d3) : aw P z d1 d2 d3 ∨ aw P z d2 d1 d3 := by
  have hg := BIC_gok hB
  have hc := hB.2.2.2 z d1 d3 (hV z hz) (hV d1 h1) (hV d3 h3) hz h1 z3 n13
  have mk1 : ∀ s t, s < 10 → t < 10 → con P (fun v => (PV v && but d3 v) && but s v) z t → aw P z t s d3 := fun s t hs ht hc => by
    obtain ⟨K, c1, c2⟩ := con_chain hg (hV z hz) ht hc
    have no : ∀ w y, K w y = true → w ≠ s ∧ w ≠ d3 := fun w y e => by
      have := (bH_iff.mp (c1.2 w y e)).2.1
      rw [Bool.and_eq_true, Bool.and_eq_true, but_iff, but_iff] at this
      exact ⟨this.2, this.1.2⟩
    refine ⟨K, ch_mono (fun a b g => (bH_iff.mp g).1) c1, c2, fun y => ?_, fun y => ?_⟩
    · cases e : K s y with
      | false => rfl
      | true => exact absurd rfl (no s y e).1
    · cases e : K d3 y with
      | false => rfl
      | true => exact absurd rfl (no d3 y e).2
  rcases con_hit2 (s := d2) (hV d1 h1) (fun e => n12 e.symm) z2 z1 hc with h | h
  · exact Or.inl (mk1 d2 d1 (hV d2 h2) (hV d1 h1) h)
  · exact Or.inr (mk1 d1 d2 (hV d1 h1) (hV d2 h2) h)
section
variable {G : xG} {S : Nat → Bool} {P : xG} {PV : Nat → Bool} {L : List (List Nat)} {E m : Nat} {Z : Nat → xG} {c : Nat → Nat} {p q : Nat}
theorem bth_PV (h : SW G S P PV L E m Z c p q) {v : Nat} (hv : bth L p q v) : PV v = true := by
  obtain ⟨⟨y, hy⟩, _⟩ := hv
  have := ((SW_FS h).1 p h.2.2.2.2.2.2.1.1).1.2 v y hy
  exact (h.2.2.2.1.2.1 v y this).2
/-- the arc of the face p from d1 to d2 that d3 is not on: d3 lies on the other side -/
theorem arc_ex (h : SW G S P PV L E m Z c p q) {d1 d2 d3 : Nat} (h1 : bth L p q d1) (h2 : bth L p q d2) (h3 : bth L p q d3) (n12 : d1 ≠ d2) (n13 : d1 ≠ d3) (n23 : d2 ≠ d3) :
    ∃ al, LK P PV L.length (FZ L) p q d1 d2 al ∧ (∀ y, al d3 y = false) ∧ sdr P (FZ L) L.length p q d1 d2 al d3 true := by
  have hF := SW_FS h
  obtain ⟨hb, hS, hB, hI, hG, hX, ⟨hp, hq, hpq⟩, _⟩ := id h
  obtain ⟨y, hy⟩ := h1.1
  obtain ⟨l, l1, l2, l3, l4⟩ := FS_cyc hB (SW_PV h) hF hp hy
  have mem : ∀ v, bth L p q v → v ∈ l := fun v hv => by
    obtain ⟨⟨y, hy⟩, _⟩ := hv
    rw [l4] at hy
    exact (eS_mem hy).1
  have m1 := mem d1 h1
  have m2 := mem d2 h2
  have m3 := mem d3 h3
  have hC := BIC_cycle l1 l2 l3
  have hgC := BIC_gok hC
  have hsub : ∀ x y, eSQ l x y = true → P x y = true := fun x y g => (hF.1 p hp).1.2 x y (by rw [l4]; exact g)
  obtain ⟨al, a1, a2⟩ := con_chain hgC (l3 d1 m1) (l3 d2 m2) (hC.2.2.2 d1 d2 d3 (l3 d1 m1) (l3 d2 m2) (l3 d3 m3) (decide_eq_true m1) (decide_eq_true m2) n13 n23)
  have a1' : ch (eSQ l) al := ch_mono (fun a b g => (bH_iff.mp g).1) a1
  have a3 : ∀ y, al d3 y = false := fun y => by
    cases e : al d3 y with
    | false => rfl
    | true =>
      have := (bH_iff.mp (a1.2 d3 y e)).2.1
      rw [Bool.and_eq_true, but_iff] at this
      exact absurd rfl this.2
  have hk := SW_LK h h1 h2 n12 (ch_mono hsub a1') a2
  refine ⟨al, hk, a3, ?_⟩
  -- the edge of the arc at d1, and the other one
  obtain ⟨y0, y1, hy01, hal, hface⟩ : ∃ y0 y1, y0 ≠ y1 ∧ (∀ z, al d1 z = decide (z = y0)) ∧ ∀ z, FZ L p d1 z = (decide (z = y0) ^^ decide (z = y1)) := by
    obtain ⟨u, n, hun, ⟨hul, hnl⟩, hdeg⟩ := eS_deg l1 l2 m1
    have ho := a2 d1
    rw [decide_eq_true rfl, decide_eq_false n12] at ho
    have hz : ∀ z, z ≠ u → z ≠ n → al d1 z = false := fun z e1 e2 => by
      cases e : al d1 z with
      | false => rfl
      | true => have := a1'.2 d1 z e; rw [hdeg] at this; simp [e1, e2] at this
    unfold od at ho
    rw [xs_two (l3 u hul) (l3 n hnl) hun (fun z _ e1 e2 => hz z e1 e2)] at ho
    cases eu : al d1 u with
    | true =>
      rw [eu] at ho
      have en : al d1 n = false := by revert ho; cases al d1 n <;> simp
      refine ⟨u, n, hun, fun z => ?_, fun z => by rw [l4, hdeg]⟩
      by_cases e1 : z = u
      · rw [e1, eu, decide_eq_true rfl]
      · rw [decide_eq_false e1]
        by_cases e2 : z = n
        · rw [e2]; exact en
        · exact hz z e1 e2
    | false =>
      rw [eu] at ho
      have en : al d1 n = true := by revert ho; cases al d1 n <;> simp
      refine ⟨n, u, fun e => hun e.symm, fun z => ?_, fun z => by rw [l4, hdeg, Bool.xor_comm]⟩
      by_cases e1 : z = n
      · rw [e1, en, decide_eq_true rfl]
      · rw [decide_eq_false e1]
        by_cases e2 : z = u
        · rw [e2]; exact eu
        · exact hz z e2 e1
  have hsym := a1.1
  have t0 : tp P (FZ L) L.length p q d1 d2 al y0 false := ⟨al, ch_mono hsub a1', a2, hal, by rw [xr_self]; exact lam_0⟩
  have t1 : tp P (FZ L) L.length p q d1 d2 al y1 true := by
    have := tp_face hk hp hface t0
    rw [decide_eq_true rfl, decide_eq_false hpq] at this
    exact this
  obtain ⟨y, hy10, hye, hyc⟩ := con_hit (l3 d1 m1) (hC.2.2.2 d3 d1 d2 (l3 d3 m3) (l3 d1 m1) (l3 d2 m2) (decide_eq_true m3) (decide_eq_true m1) (fun e => n23 e.symm) n12) (fun e => n13 e.symm)
  have hyA := con_in hyc
  rw [Bool.and_eq_true, Bool.and_eq_true, but_iff, but_iff, decide_eq_true_eq] at hyA
  have hAA : ∀ v, ((decide (v ∈ l) && but d2 v) && but d1 v) = true → v ≠ d1 ∧ v ≠ d2 := fun v g => by
    rw [Bool.and_eq_true, Bool.and_eq_true, but_iff, but_iff] at g
    exact ⟨g.2, g.1.2⟩
  have hcs := con_sym hC.1 (l3 d3 m3) hy10 hyc
  have hyn : y = y0 ∨ y = y1 := by
    rw [hC.1, ← l4, hface] at hye
    by_cases e : y = y0
    · exact Or.inl e
    · rw [decide_eq_false e] at hye
      exact Or.inr (by simpa using hye)
  have hPy : ∀ y, (y = y0 ∨ y = y1) → P d1 y = true := fun y hy => hsub d1 y (by
    rw [← l4, hface]
    rcases hy with e | e
    · subst e; simp [hy01]
    · subst e
      have : ¬ y = y0 := fun z => hy01 z.symm
      simp [this])
  rcases hyn with e | e
  · -- along the arc d3 would be on it
    exfalso
    subst e
    have hstart : ∃ z, al y z = true := ⟨d1, by rw [hsym, hal]; simp⟩
    have key : (d3 ≠ d1 ∧ d3 ≠ d2) ∧ ∃ z, al d3 z = true := con_ind (G := eSQ l) (A := fun v => (decide (v ∈ l) && but d2 v) && but d1 v) (x := y) (fun v => (v ≠ d1 ∧ v ≠ d2) ∧ ∃ z, al v z = true) (fun hA => ⟨hAA y hA, hstart⟩) (fun u v hu hv hp hg hA => ⟨hAA v hA, by
      obtain ⟨⟨e1, e2⟩, z, hz⟩ := hp
      have hul := (eS_mem hg).1
      obtain ⟨s, t, hst, ⟨hs, ht⟩, hd⟩ := eS_deg l1 l2 hul
      have hz2 : ∀ z, z ≠ s → z ≠ t → al u z = false := fun z q1 q2 => by
        cases e : al u z with
        | false => rfl
        | true => have := a1'.2 u z e; rw [hd] at this; simp [q1, q2] at this
      have ho := a2 u
      rw [decide_eq_false e1, decide_eq_false e2] at ho
      unfold od at ho
      rw [xs_two (l3 s hs) (l3 t ht) hst (fun z _ q1 q2 => hz2 z q1 q2)] at ho
      have hval : al u s = true ∧ al u t = true := by
        have hzst : z = s ∨ z = t := by
          by_cases q1 : z = s
          · exact Or.inl q1
          · exact Or.inr (Classical.byContradiction fun q2 => by rw [hz2 z q1 q2] at hz; cases hz)
        rcases hzst with e | e
        · rw [e] at hz
          rw [hz] at ho ⊢
          revert ho; cases al u t <;> simp
        · rw [e] at hz
          rw [hz] at ho ⊢
          revert ho; cases al u s <;> simp
      refine ⟨u, ?_⟩
      rw [hsym]
      rw [hd] at hg
      by_cases q1 : v = s
      · rw [q1]; exact hval.1
      · rw [decide_eq_false q1] at hg
        have : v = t := by simpa using hg
        rw [this]; exact hval.2⟩) (l3 d3 m3) hcs
    obtain ⟨_, z, hz⟩ := key
    rw [a3] at hz
    cases hz
  · subst e
    have hG := hPy y (Or.inr rfl)
    have s1 := (tp_sdr hk hG hyA.1.2).mp t1
    exact sdr_con hk hsub hAA (l3 d3 m3) hcs ⟨hyA.2, hyA.1.2⟩ s1
/-- what meets d3 lies with d3 -/
theorem U_side (h : SW G S P PV L E m Z c p q) {a b d1 d2 d3 y3 : Nat} {al : xG} (h0 : g1 G S P PV L m Z c p q a b) (h1 : bth L p q d1) (h2 : bth L p q d2) (h3 : bth L p q d3) (n13 : d1 ≠ d3) (n23 : d2 ≠ d3) (hk : LK P PV L.length (FZ L) p q d1 d2 al) (hs : sdr P (FZ L) L.length p q d1 d2 al d3 true) (hu : Un G S P PV L m Z c p q a b d3 y3) {x y : Nat} (hxy : Un G S P PV L m Z c p q a b x y) : Om G S P PV L m Z c p q d1 d2 al true x y :=
  Un_trans (Un_back hu) hxy _ (Om_cl h hk h1 h2 true) ((Om_at h hk h1 h2 (bth_PV h h3) ⟨fun e => n13 e.symm, fun e => n23 e.symm⟩ (Un_g1 h h0 hu)).mpr hs)
theorem U_no (h : SW G S P PV L E m Z c p q) {d1 d2 d3 z w : Nat} {al : xG} (h3 : bth L p q d3) (n13 : d1 ≠ d3) (n23 : d2 ≠ d3) (hk : LK P PV L.length (FZ L) p q d1 d2 al) (ha : ∀ y, al d3 y = false) (hz : z ≠ d1 ∧ z ≠ d2) (hP : P z w = true) (ho : Om G S P PV L m Z c p q d1 d2 al true z w) (w1 : aw P z d1 d2 d3) (w2 : aw P z d2 d1 d3) : False := by
  obtain ⟨hb, hS, hB, hI, hG, hX, ⟨hp, hq, hpq⟩, _⟩ := id h
  have hF := SW_FS h
  obtain ⟨K, k1, k2, k3, k4⟩ := w1
  obtain ⟨J, j1, j2, j3, j4⟩ := w2
  have hal := hk.2.2.2.2.2.2
  obtain ⟨b, hb2⟩ := lam_ex (p := p) (q := q) hF (X := xr (xr K J) al) ⟨ch_xr (ch_xr k1 j1) hal.1, fun v _ => by
    rw [od_xr, od_xr, k2, j2, hal.2]
    cases decide (v = z) <;> cases decide (v = d1) <;> cases decide (v = d2) <;> rfl⟩
  have hbf := lam_away hB hF hp hq h3.1 h3.2 hb2 (fun y => by simp only [xr, k4, j4, ha]; rfl)
  have hs : sdr P (FZ L) L.length p q d1 d2 al z b := ⟨K, J, ⟨k1, k2, k3⟩, ⟨j1, j2, j3⟩, hb2⟩
  have ht := (ho.1 hP).1 hz
  have := sdr_fun hk hs ht
  rw [hbf] at this
  cases this
theorem U_edge (h : SW G S P PV L E m Z c p q) {d1 d2 d3 : Nat} {al : xG} (h3 : bth L p q d3) (n13 : d1 ≠ d3) (n23 : d2 ≠ d3) (hk : LK P PV L.length (FZ L) p q d1 d2 al) (ha : ∀ y, al d3 y = false) (hP : P d1 d2 = true) (ho : Om G S P PV L m Z c p q d1 d2 al true d1 d2) : False := by
  obtain ⟨hb, hS, hB, hI, hG, hX, ⟨hp, hq, hpq⟩, _⟩ := id h
  have hF := SW_FS h
  have hg := BIC_gok hB
  have h10 := hg.2.2 d1 d2 hP
  have hne := ne_edge hg hP
  have ht := (ho.1 hP).2.2.1 ⟨rfl, rfl⟩
  have hod : ∀ v, od (eg d1 d2) v = (decide (v = d1) ^^ decide (v = d2)) := fun v => od_eg h10.1 h10.2 hne v
  obtain ⟨b, hb2⟩ := lam_ex (p := p) (q := q) hF (chain_ev hk (ch_eg hg.1 hP) hod)
  have e1 : ¬ d3 = d1 := fun e => n13 e.symm
  have e2 : ¬ d3 = d2 := fun e => n23 e.symm
  have hbf := lam_away hB hF hp hq h3.1 h3.2 hb2 (fun y => by simp [xr, ha, eg, e1, e2])
  have hs : tp P (FZ L) L.length p q d1 d2 al d2 b := ⟨eg d1 d2, ch_eg hg.1 hP, hod, fun z => by simp [eg, hne], hb2⟩
  have := tp_fun hk hs ht
  rw [hbf] at this
  cases this
theorem U1 (h : SW G S P PV L E m Z c p q) {a b d1 d2 d3 y1 y2 y3 : Nat} (h0 : g1 G S P PV L m Z c p q a b) (h1 : bth L p q d1) (h2 : bth L p q d2) (h3 : bth L p q d3) (n12 : d1 ≠ d2) (n13 : d1 ≠ d3) (n23 : d2 ≠ d3)
    (u1 : Un G S P PV L m Z c p q a b d1 y1) (u2 : Un G S P PV L m Z c p q a b d2 y2) (u3 : Un G S P PV L m Z c p q a b d3 y3) : False := by
  obtain ⟨hb, hS, hB, hI, hG, hX, ⟨hp, hq, hpq⟩, _⟩ := id h
  have n21 : d2 ≠ d1 := fun e => n12 e.symm
  have n31 : d3 ≠ d1 := fun e => n13 e.symm
  have n32 : d3 ≠ d2 := fun e => n23 e.symm
  obtain ⟨A, kA, A3, sA⟩ := arc_ex h h1 h2 h3 n12 n13 n23
  obtain ⟨B, kB, B1, sB⟩ := arc_ex h h2 h3 h1 n23 n21 n31
  obtain ⟨C, kC, C2, sC⟩ := arc_ex h h3 h1 h2 n31 n32 n12
  obtain ⟨z, w, hzw, hP⟩ := Un_P h h0
  have oA : ∀ {x y}, Un G S P PV L m Z c p q a b x y → _ := fun {x y} hxy => U_side h h0 h1 h2 h3 n13 n23 kA sA u3 (x := x) (y := y) hxy
  have oB : ∀ {x y}, Un G S P PV L m Z c p q a b x y → _ := fun {x y} hxy => U_side h h0 h2 h3 h1 n21 n31 kB sB u1 (x := x) (y := y) hxy
  have oC : ∀ {x y}, Un G S P PV L m Z c p q a b x y → _ := fun {x y} hxy => U_side h h0 h3 h1 h2 n32 n12 kC sC u2 (x := x) (y := y) hxy
  have p1 := bth_PV h h1
  have p2 := bth_PV h h2
  have p3 := bth_PV h h3
  have hV := SW_PV h
  have sw : ∀ {z t s s'}, aw P z t s s' → aw P z t s' s := fun ⟨K, a1, a2, a3, a4⟩ => ⟨K, a1, a2, a4, a3⟩
  have free : ∀ z w, Un G S P PV L m Z c p q a b z w → P z w = true → z ≠ d1 → z ≠ d2 → z ≠ d3 → False := fun z w hzw hP z1 z2 z3 => by
    have hz := (hI.2.1 z w hP).2
    have t1 := aw_two hB hV hz p1 p2 p3 n12 n13 z1 z2 z3
    have t2 := aw_two hB hV hz p2 p3 p1 n23 n21 z2 z3 z1
    have t3 := aw_two hB hV hz p3 p1 p2 n31 n32 z3 z1 z2
    have f12 : aw P z d1 d2 d3 → aw P z d2 d1 d3 → False := U_no h h3 n13 n23 kA A3 ⟨z1, z2⟩ hP (oA hzw)
    have f23 : aw P z d2 d3 d1 → aw P z d3 d2 d1 → False := U_no h h1 n21 n31 kB B1 ⟨z2, z3⟩ hP (oB hzw)
    have f31 : aw P z d3 d1 d2 → aw P z d1 d3 d2 → False := U_no h h2 n32 n12 kC C2 ⟨z3, z1⟩ hP (oC hzw)
    rcases t1 with t1 | t1
    · rcases t2 with t2 | t2
      · exact f12 t1 (sw t2)
      · exact f31 (sw t2) (sw t1)
    · rcases t3 with t3 | t3
      · exact f23 (sw t1) (sw t3)
      · exact f12 (sw t3) t1
  by_cases f : z = d1 ∨ z = d2 ∨ z = d3
  · by_cases g : w = d1 ∨ w = d2 ∨ w = d3
    · have hne := ne_edge (BIC_gok hB) hP
      have hP' : P w z = true := by rw [hI.1]; exact hP
      have hwz := (Un_cl a b).1 z w hzw
      rcases f with rfl | rfl | rfl <;> rcases g with rfl | rfl | rfl
      · exact hne rfl
      · exact U_edge h h3 n13 n23 kA A3 hP (oA hzw)
      · exact U_edge h h2 n32 n12 kC C2 hP' (oC hwz)
      · exact U_edge h h3 n13 n23 kA A3 hP' (oA hwz)
      · exact hne rfl
      · exact U_edge h h1 n21 n31 kB B1 hP (oB hzw)
      · exact U_edge h h2 n32 n12 kC C2 hP (oC hzw)
      · exact U_edge h h1 n21 n31 kB B1 hP' (oB hwz)
      · exact hne rfl
    · exact free w z ((Un_cl a b).1 z w hzw) (by rw [hI.1]; exact hP) (fun e => g (Or.inl e)) (fun e => g (Or.inr (Or.inl e))) (fun e => g (Or.inr (Or.inr e)))
  · exact free z w hzw hP (fun e => f (Or.inl e)) (fun e => f (Or.inr (Or.inl e))) (fun e => f (Or.inr (Or.inr e)))
end
