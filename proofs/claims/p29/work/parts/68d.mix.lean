/-! the two faces that a unit shares with what is outside -/
noncomputable def inD (X : xG) (D : Nat → Nat → Prop) : xG := fun x y => X x y && bo (D x y)
theorem inD_iff {X : xG} {D : Nat → Nat → Prop} {x y : Nat} : inD X D x y = true ↔ X x y = true ∧ D x y := by
  unfold inD
  rw [Bool.and_eq_true, bo_iff]
theorem inD_ch {G X : xG} {D : Nat → Nat → Prop} (hX : ch G X) (hD : ∀ x y, D x y → D y x) : ch G (inD X D) := ⟨fun x y => by
  rw [Bool.eq_iff_iff, inD_iff, inD_iff, hX.1 x y]
  constructor <;> rintro ⟨a, b⟩ <;> exact ⟨a, hD _ _ b⟩, fun x y e => hX.2 x y (inD_iff.mp e).1⟩
/-- all or nothing around a vertex: even there -/
theorem inD_od {G X : xG} {D : Nat → Nat → Prop} {w : Nat} (ho : od X w = false) (hall : ∀ y y', X w y = true → X w y' = true → D w y → D w y') : od (inD X D) w = false := by
  by_cases e : ∃ y, X w y = true ∧ D w y
  · obtain ⟨y, h1, h2⟩ := e
    have : od (inD X D) w = od X w := xs_ext fun z _ => by
      rw [Bool.eq_iff_iff, inD_iff]
      exact ⟨fun q => q.1, fun q => ⟨q, hall y z h1 q h2⟩⟩
    rw [this]; exact ho
  · refine xs_0 fun z _ => ?_
    cases q : inD X D w z with
    | false => rfl
    | true => exact absurd ⟨z, inD_iff.mp q⟩ e
theorem od_out {G X : xG} (hg : gok G) (h : ch G X) {v : Nat} (hv : ¬ v < 10) : od X v = false := xs_0 fun y _ => by
  cases e : X v y with
  | false => rfl
  | true => exact absurd (hg.2.2 v y (h.2 v y e)).1 hv
section
variable {G : xG} {S : Nat → Bool} {P : xG} {PV : Nat → Bool} {L : List (List Nat)} {E m : Nat} {Z : Nat → xG} {c : Nat → Nat} {p q : Nat}
/-- a third class meets a unit evenly -/
theorem third_even (h : SW G S P PV L E m Z c p q) {a b k : Nat} (hk : k < L.length) (hkp : k ≠ p) (hkq : k ≠ q) : ∀ v, v < 10 → od (inD (FZ L k) (Un G S P PV L m Z c p q a b)) v = false := by
  obtain ⟨hb, hS, hB, hI, hG, hX, _, _⟩ := id h
  have e : inD (FZ L k) (Un G S P PV L m Z c p q a b) = sU Z (fun i => decide (c i = k) && bo (∃ x y, Un G S P PV L m Z c p q a b x y ∧ Z i x y = true)) m := by
    funext x y
    show (FZ L k x y && bo (Un G S P PV L m Z c p q a b x y)) = _
    rw [hX.2.2 k hk]
    show (xs _ m && _) = xs _ m
    rw [Bool.and_comm, ← xs_and]
    refine xs_ext fun i hi => ?_
    show (bo _ && (decide (c i = k) && Z i x y)) = ((decide (c i = k) && bo _) && Z i x y)
    cases eZ : Z i x y with
    | false => simp
    | true =>
      by_cases ec : c i = k
      · rw [decide_eq_true ec]
        simp only [Bool.true_and, Bool.and_true]
        rw [Bool.eq_iff_iff, bo_iff, bo_iff]
        constructor
        · exact fun u => ⟨x, y, u, eZ⟩
        · rintro ⟨x', y', u, hZ'⟩
          exact (Un_cl a b).2.2 i x' y' x y hi (by omega) (by omega) hZ' eZ u
      · rw [decide_eq_false ec]; simp
  intro v hv
  rw [e]
  exact (sU_ev (G := G) fun i hi _ => hX.1.1 i hi).2 v hv
/-- the faces p and q pass through a unit -/
theorem U2 (h : SW G S P PV L E m Z c p q) {a b d d' : Nat} (h0 : g1 G S P PV L m Z c p q a b) (hd : bth L p q d) (hd' : bth L p q d') (hne : d ≠ d')
    (ht : ∀ w y, Un G S P PV L m Z c p q a b w y → bth L p q w → w = d ∨ w = d') :
    od (inD (FZ L p) (Un G S P PV L m Z c p q a b)) d = true ∧ od (inD (FZ L q) (Un G S P PV L m Z c p q a b)) d = true := by
  obtain ⟨hb, hS, hB, hI, hG, hX, ⟨hp, hq, hpq⟩, _⟩ := id h
  have hF := SW_FS h
  have hg := BIC_gok hB
  have hUs := (Un_cl (G := G) (S := S) (P := P) (PV := PV) (L := L) (m := m) (Z := Z) (c := c) (p := p) (q := q) a b).1
  have hV := SW_PV h
  have hPd := bth_PV h hd
  have hPd' := bth_PV h hd'
  -- at any vertex the two agree
  have hsum : ∀ v, v < 10 → od (inD (FZ L p) (Un G S P PV L m Z c p q a b)) v = od (inD (FZ L q) (Un G S P PV L m Z c p q a b)) v := fun v hv => by
    have e1 := sU_lin (FZ L) (fun _ => true) L.length (fun y => bo (Un G S P PV L m Z c p q a b v y)) v 10
    rw [tw_all hF.2.1] at e1
    have e2 : xs (fun y => x0 v y && bo (Un G S P PV L m Z c p q a b v y)) 10 = false := xs_0 fun _ _ => rfl
    rw [e2] at e1
    have e3 : xs (fun i => true && xs (fun y => FZ L i v y && bo (Un G S P PV L m Z c p q a b v y)) 10) L.length = (od (inD (FZ L p) (Un G S P PV L m Z c p q a b)) v ^^ od (inD (FZ L q) (Un G S P PV L m Z c p q a b)) v) := by
      rw [xs_two hp hq hpq (fun k hk n1 n2 => by
        rw [Bool.true_and]
        exact third_even h hk n1 n2 v hv)]
      simp only [Bool.true_and]
      rfl
    rw [e3] at e1
    revert e1
    cases od (inD (FZ L p) (Un G S P PV L m Z c p q a b)) v <;> cases od (inD (FZ L q) (Un G S P PV L m Z c p q a b)) v <;> simp
  -- where the face p is even at d or d', the unit has no placed edge there
  have none : ∀ d d', bth L p q d → bth L p q d' → d ≠ d' → od (inD (FZ L p) (Un G S P PV L m Z c p q a b)) d = false → ∀ y, P d y = true → ¬Un G S P PV L m Z c p q a b d y := by
    intro d d' hd hd' hne ho y hy hu
    have hPd := bth_PV h hd
    have hPd' := bth_PV h hd'
    obtain ⟨al, c1, c2⟩ := con_chain hg (hV d hPd) (hV d' hPd') (BIC_con hB hV hPd hPd')
    have hk := SW_LK h hd hd' hne (ch_mono (fun a b g => (bH_iff.mp g).1) c1) c2
    have hLF := fun y y' => LF hB hF.2.2.1 (w := d) (D := fun y => bo (Un G S P PV L m Z c p q a b d y)) (y := y) (y' := y') (fun k hk => by
      show od (inD (FZ L k) (Un G S P PV L m Z c p q a b)) d = false
      by_cases e1 : k = p
      · rw [e1]; exact ho
      · by_cases e2 : k = q
        · rw [e2, ← hsum d (hV d hPd)]; exact ho
        · exact third_even h hk e1 e2 d (hV d hPd))
    have hall : ∀ y', P d y' = true → Un G S P PV L m Z c p q a b d y' := fun y' hy' => by
      have := hLF y y' hy hy'
      rw [bo_iff.mpr hu] at this
      exact bo_iff.mp this.symm
    obtain ⟨u, hu1⟩ := hd.1
    obtain ⟨n, hn, hdeg⟩ := FS_deg hB hV hF hp hu1
    have hPu : P d u = true := (hF.1 p hp).1.2 d u hu1
    have hPn : P d n = true := (hF.1 p hp).1.2 d n (by rw [hdeg]; simp [hn])
    obtain ⟨b0, t0⟩ := tp_ex hk hPu
    have t1 := tp_face hk hp hdeg t0
    have hom : Om G S P PV L m Z c p q d d' al b0 d u := ⟨fun _ => (eV_c hk hPu).mpr t0, fun e => by rw [hPu] at e; cases e⟩
    have hom2 := Un_trans (Un_back (hall u hPu)) (hall n hPn) _ (Om_cl h hk hd hd' b0) hom
    have t2 := (eV_c hk hPn).mp (hom2.1 hPn)
    have := tp_fun hk t1 t2
    rw [decide_eq_true rfl, decide_eq_false hpq] at this
    revert this
    cases b0 <;> simp
  -- elsewhere it is even
  have helse : ∀ w, w < 10 → w ≠ d → w ≠ d' → od (inD (FZ L p) (Un G S P PV L m Z c p q a b)) w = false := fun w hw n1 n2 => by
    refine inD_od (G := G) ((hF.1 p hp).2 w hw) (fun y y' e1 e2 hu => ?_)
    by_cases hbw : bth L p q w
    · rcases ht w y hu hbw with e | e <;> contradiction
    · exact (Un_cl a b).2.1 w y y' hbw (Un_g1 h h0 hu) (g1_P h ((hF.1 p hp).1.2 w y' e2)) hu
  have hchp : ch P (inD (FZ L p) (Un G S P PV L m Z c p q a b)) := inD_ch (hF.1 p hp).1 hUs
  have htot := od_sum hg hchp (A := fun _ => true) (fun _ _ _ => rfl)
  simp only [Bool.true_and] at htot
  rw [xs_two (hV d hPd) (hV d' hPd') hne (fun v hv n1 n2 => helse v hv n1 n2)] at htot
  cases eo : od (inD (FZ L p) (Un G S P PV L m Z c p q a b)) d with
  | true => exact ⟨rfl, by rw [← hsum d (hV d hPd)]; exact eo⟩
  | false =>
    exfalso
    rw [eo, Bool.false_xor] at htot
    have no1 := none d d' hd hd' hne eo
    have no2 := none d' d hd' hd (fun e => hne e.symm) htot
    have no : ∀ w y, bth L p q w → P w y = true → ¬Un G S P PV L m Z c p q a b w y := fun w y hbw hP hu => by
      rcases ht w y hu hbw with e | e
      · rw [e] at hP hu; exact no1 y hP hu
      · rw [e] at hP hu; exact no2 y hP hu
    obtain ⟨z, w, hzw, hP⟩ := Un_P h h0
    have hPz := (hI.2.1 z w hP).2
    have hnz : ¬bth L p q z := fun e => no z w e hP hzw
    have key : ¬bth L p q d ∧ ∀ y, P d y = true → Un G S P PV L m Z c p q a b d y := con_ind (G := P) (A := PV) (x := z) (fun v => ¬bth L p q v ∧ ∀ y, P v y = true → Un G S P PV L m Z c p q a b v y) (fun _ => ⟨hnz, fun y hy => (Un_cl a b).2.1 z w y hnz (g1_P h hP) (g1_P h hy) hzw⟩) (fun u v _ _ hp2 hguv _ => by
      have huv := hUs _ _ (hp2.2 v hguv)
      have hvu : P v u = true := by rw [hI.1]; exact hguv
      have hnv : ¬bth L p q v := fun e => no v u e hvu huv
      exact ⟨hnv, fun y hy => (Un_cl a b).2.1 v u y hnv (g1_P h hvu) (g1_P h hy) huv⟩) (hV d hPd) (BIC_con hB hV hPz hPd)
    exact key.1 hd
/-- a face that a unit shares -/
def mixd (G : xG) (S : Nat → Bool) (P : xG) (PV : Nat → Bool) (L : List (List Nat)) (m : Nat) (Z : Nat → xG) (c : Nat → Nat) (p q a b i : Nat) : Prop := (∃ x y, Un G S P PV L m Z c p q a b x y ∧ Z i x y = true) ∧ ∃ x y, Z i x y = true ∧ ¬Un G S P PV L m Z c p q a b x y
theorem mixd_cls (h : SW G S P PV L E m Z c p q) {a b i : Nat} (hi : i < m) (hm : mixd G S P PV L m Z c p q a b i) : c i = p ∨ c i = q := by
  obtain ⟨⟨x, y, hu, hZ⟩, x', y', hZ', hn⟩ := hm
  refine Classical.byContradiction fun hc => hn ((Un_cl a b).2.2 i x y x' y' hi (fun e => hc (Or.inl e)) (fun e => hc (Or.inr e)) hZ hZ' hu)
/-- around a vertex that isn't on both faces all or none of a face is of the unit -/
theorem Un_around (h : SW G S P PV L E m Z c p q) {a b w y y' i : Nat} (h0 : g1 G S P PV L m Z c p q a b) (hi : i < m) (hw : ¬bth L p q w) (h1 : Z i w y = true) (h2 : Z i w y' = true) (hu : Un G S P PV L m Z c p q a b w y) : Un G S P PV L m Z c p q a b w y' := by
  obtain ⟨hb, hS, hB, hI, hG, hX, _, _⟩ := id h
  have hG1 := (hX.1.1 i hi).1.2 w y h1
  have hG2 := (hX.1.1 i hi).1.2 w y' h2
  have hgy := Un_g1 h h0 hu
  refine (Un_cl a b).2.1 w y y' hw hgy ⟨hG2, fun hx => ?_⟩ hu
  obtain ⟨e, ⟨k, hk, hkZ, hc⟩, hall⟩ := hx
  cases hPw : PV w with
  | true => exact hw (hall w (ctE_end h hPw hG2))
  | false =>
    refine hgy.2 ⟨SW_un h hPw, ⟨i, hi, h1, ?_⟩, fun a ha => hall a ((ctE_un h hPw hG2).mpr ((ctE_un h hPw hG1).mp ha))⟩
    rw [← SW_A h e hi hk h2 hkZ]
    exact hc
/-- a shared face is odd at two vertices -/
theorem mixd_odd (h : SW G S P PV L E m Z c p q) {a b i : Nat} (h0 : g1 G S P PV L m Z c p q a b) (hi : i < m) (hm : mixd G S P PV L m Z c p q a b i) : ∃ d d', d ≠ d' ∧ bth L p q d ∧ bth L p q d' ∧ od (inD (Z i) (Un G S P PV L m Z c p q a b)) d = true ∧ od (inD (Z i) (Un G S P PV L m Z c p q a b)) d' = true := by
  obtain ⟨hb, hS, hB, hI, hG, hX, _, _⟩ := id h
  have hg := BIC_gok hb
  have hUs := (Un_cl (G := G) (S := S) (P := P) (PV := PV) (L := L) (m := m) (Z := Z) (c := c) (p := p) (q := q) a b).1
  have hZi := hX.1.1 i hi
  have hch : ch G (inD (Z i) (Un G S P PV L m Z c p q a b)) := inD_ch hZi.1 hUs
  have hbt : ∀ w, w < 10 → od (inD (Z i) (Un G S P PV L m Z c p q a b)) w = true → bth L p q w := fun w hw ho => Classical.byContradiction fun hn => by
    rw [inD_od (G := G) (hZi.2 w hw) (fun y y' e1 e2 hu => Un_around h h0 hi hn e1 e2 hu)] at ho
    cases ho
  obtain ⟨⟨x, y, hu, hZ⟩, x', y', hZ', hn⟩ := hm
  have hex : ∃ d, d < 10 ∧ od (inD (Z i) (Un G S P PV L m Z c p q a b)) d = true := Classical.byContradiction fun hno => by
    have hev : ev G (inD (Z i) (Un G S P PV L m Z c p q a b)) := ⟨hch, fun v hv => by
      cases e : od (inD (Z i) (Un G S P PV L m Z c p q a b)) v with
      | false => rfl
      | true => exact absurd ⟨v, hv, e⟩ hno⟩
    rcases FS_cir hb hS hX.1 hi hev (fun x y e => (inD_iff.mp e).1) with e | e
    · have : inD (Z i) (Un G S P PV L m Z c p q a b) x y = true := inD_iff.mpr ⟨hZ, hu⟩
      rw [e] at this
      cases this
    · have : inD (Z i) (Un G S P PV L m Z c p q a b) x' y' = true := by rw [e]; exact hZ'
      exact hn (inD_iff.mp this).2
  obtain ⟨d, hd, ho⟩ := hex
  obtain ⟨d', hd', hne, ho', _⟩ := od_mate hg hch hd ho
  exact ⟨d, d', fun e => hne e.symm, hbt d hd ho, hbt d' hd' ho', ho, ho'⟩
/-- the side of an edge in the whole, between two shared faces -/
theorem eV_cl (h : SW G S P PV L E m Z c p q) {i1 i2 d d' : Nat} {al : xG} (hk : LK G S m Z i1 i2 d d' al) (hd : bth L p q d) (hd' : bth L p q d') (hc1 : c i1 = p ∨ c i1 = q) (hc2 : c i2 = p ∨ c i2 = q) (b : Bool) : CL G S P PV L m Z c p q (fun x y => eV G Z m i1 i2 d d' al b x y) := by
  refine ⟨fun x y e => eV_sym e, fun w y y' hw g g' e => ?_, fun i x y x' y' hi hcp hcq hZ hZ' e => ?_⟩
  · have hn := nb_of hd hd' hw
    exact (eV_at hk g'.1 hn).mpr ((eV_at hk g.1 hn).mp e)
  · have n1 : i ≠ i1 := fun e => by rw [e] at hcp hcq; rcases hc1 with q | q <;> contradiction
    have n2 : i ≠ i2 := fun e => by rw [e] at hcp hcq; rcases hc2 with q | q <;> contradiction
    exact eV_of hk hi n1 n2 hZ' (fV_of hk hi n1 n2 hZ e)
theorem xs_three {f : Nat → Bool} {i j k n : Nat} (hi : i < n) (hj : j < n) (hk : k < n) (n1 : i ≠ j) (n2 : i ≠ k) (n3 : j ≠ k) (h : ∀ l, l < n → l ≠ i → l ≠ j → l ≠ k → f l = false) : xs f n = ((f i ^^ f j) ^^ f k) := by
  have e : xs f n = xs (fun l => (decide (l ≠ k) && f l) ^^ (decide (l = k) && f l)) n := xs_ext fun l _ => by
    by_cases q : l = k <;> simp [q]
  rw [e, xs_xor, xs_two hi hj n1 (fun l hl a b => by
    by_cases q : l = k
    · simp [q]
    · simp [h l hl a b q]), xs_one hk (fun l _ q => by simp [q])]
  simp [n2, n3]
/-- not three of them -/
theorem mixd_three (h : SW G S P PV L E m Z c p q) {a b i1 i2 i3 d d' : Nat} (h0 : g1 G S P PV L m Z c p q a b) (hd : bth L p q d) (hd' : bth L p q d') (hne : d ≠ d') (l1 : i1 < m) (l2 : i2 < m) (l3 : i3 < m) (n12 : i1 ≠ i2) (n13 : i1 ≠ i3) (n23 : i2 ≠ i3)
    (m1 : mixd G S P PV L m Z c p q a b i1) (m2 : mixd G S P PV L m Z c p q a b i2) (m3 : mixd G S P PV L m Z c p q a b i3)
    (o1 : od (inD (Z i1) (Un G S P PV L m Z c p q a b)) d = true ∧ od (inD (Z i1) (Un G S P PV L m Z c p q a b)) d' = true) (o2 : od (inD (Z i2) (Un G S P PV L m Z c p q a b)) d = true ∧ od (inD (Z i2) (Un G S P PV L m Z c p q a b)) d' = true) (o3 : od (inD (Z i3) (Un G S P PV L m Z c p q a b)) d = true ∧ od (inD (Z i3) (Un G S P PV L m Z c p q a b)) d' = true) : False := by
  obtain ⟨hb, hS, hB, hI, hG, hX, ⟨hp, hq, hpq⟩, _⟩ := id h
  have hg := BIC_gok hb
  have hF := hX.1
  have hSd := hI.2.2.1 d (bth_PV h hd)
  have hSd' := hI.2.2.1 d' (bth_PV h hd')
  obtain ⟨al, c1, c2⟩ := con_chain hg (hS d hSd) (hS d' hSd') (BIC_con hb hS hSd hSd')
  have c1' : ch G al := ch_mono (fun a b g => (bH_iff.mp g).1) c1
  -- each passes d by an edge of the unit and another one
  have pass : ∀ i, i < m → od (inD (Z i) (Un G S P PV L m Z c p q a b)) d = true → ∃ u n, u ≠ n ∧ (∀ z, Z i d z = (decide (z = u) ^^ decide (z = n))) ∧ Un G S P PV L m Z c p q a b d u ∧ ¬Un G S P PV L m Z c p q a b d n := fun i hi ho => by
    obtain ⟨u, _, hu⟩ := xs_ex ho
    obtain ⟨hZu, hDu⟩ := inD_iff.mp hu
    obtain ⟨n, hn, hdeg⟩ := FS_deg hb hS hF hi hZu
    refine ⟨u, n, fun e => hn e.symm, hdeg, hDu, fun hDn => ?_⟩
    have hZn : Z i d n = true := by rw [hdeg]; simp [hn]
    have h10 := hg.2.2 d u ((hF.1 i hi).1.2 d u hZu)
    have h10' := hg.2.2 d n ((hF.1 i hi).1.2 d n hZn)
    unfold od at ho
    rw [xs_two h10.2 h10'.2 (fun e => hn e.symm) (fun z _ e1 e2 => by
      cases e : inD (Z i) (Un G S P PV L m Z c p q a b) d z with
      | false => rfl
      | true => have := (inD_iff.mp e).1; rw [hdeg] at this; simp [e1, e2] at this), hu, inD_iff.mpr ⟨hZn, hDn⟩] at ho
    cases ho
  have touch : ∀ i v, od (inD (Z i) (Un G S P PV L m Z c p q a b)) v = true → ∃ y, Z i v y = true := fun i v ho => by
    obtain ⟨u, _, hu⟩ := xs_ex ho
    exact ⟨u, (inD_iff.mp hu).1⟩
  obtain ⟨u1, v1, e1, g1, w1, x1⟩ := pass i1 l1 o1.1
  obtain ⟨u2, v2, e2, g2, w2, x2⟩ := pass i2 l2 o2.1
  obtain ⟨u3, v3, e3, g3, w3, x3⟩ := pass i3 l3 o3.1
  have k12 : LK G S m Z i1 i2 d d' al := ⟨hb, hS, hF, ⟨l1, l2, n12⟩, ⟨hne, hSd, hSd'⟩, ⟨touch i1 d o1.1, touch i2 d o2.1, touch i1 d' o1.2, touch i2 d' o2.2⟩, c1', c2⟩
  have k13 : LK G S m Z i1 i3 d d' al := ⟨hb, hS, hF, ⟨l1, l3, n13⟩, ⟨hne, hSd, hSd'⟩, ⟨touch i1 d o1.1, touch i3 d o3.1, touch i1 d' o1.2, touch i3 d' o3.2⟩, c1', c2⟩
  have q1 := mixd_cls h l1 m1
  have q2 := mixd_cls h l2 m2
  have q3 := mixd_cls h l3 m3
  have Gu1 : G d u1 = true := (hF.1 i1 l1).1.2 d u1 (by rw [g1]; simp [e1])
  obtain ⟨b12, t12⟩ := tp_ex k12 Gu1
  obtain ⟨b13, t13⟩ := tp_ex k13 Gu1
  have all12 : ∀ y, Un G S P PV L m Z c p q a b d y → tp G Z m i1 i2 d d' al y b12 := fun y hu => (eV_c k12 (Un_g1 h h0 hu).1).mp (Un_trans (Un_back w1) hu _ (eV_cl h k12 hd hd' q1 q2 b12) ((eV_c k12 Gu1).mpr t12))
  have all13 : ∀ y, Un G S P PV L m Z c p q a b d y → tp G Z m i1 i3 d d' al y b13 := fun y hu => (eV_c k13 (Un_g1 h h0 hu).1).mp (Un_trans (Un_back w1) hu _ (eV_cl h k13 hd hd' q1 q3 b13) ((eV_c k13 Gu1).mpr t13))
  have hd10 := hS d hSd
  -- the functional
  have e0 := sU_lin Z (fun _ => true) m (fun y => bo (tp G Z m i1 i2 d d' al y b12 ∧ tp G Z m i1 i3 d d' al y b13)) d 10
  rw [tw_all hF.2.1] at e0
  have ez : xs (fun y => x0 d y && bo (tp G Z m i1 i2 d d' al y b12 ∧ tp G Z m i1 i3 d d' al y b13)) 10 = false := xs_0 fun _ _ => rfl
  rw [ez] at e0
  have val : ∀ i u n, i < m → u ≠ n → (∀ z, Z i d z = (decide (z = u) ^^ decide (z = n))) → xs (fun y => Z i d y && bo (tp G Z m i1 i2 d d' al y b12 ∧ tp G Z m i1 i3 d d' al y b13)) 10 = (bo (tp G Z m i1 i2 d d' al u b12 ∧ tp G Z m i1 i3 d d' al u b13) ^^ bo (tp G Z m i1 i2 d d' al n b12 ∧ tp G Z m i1 i3 d d' al n b13)) := fun i u n hi hun hdeg => by
    have hZu : Z i d u = true := by rw [hdeg]; simp [hun]
    have hZn : Z i d n = true := by rw [hdeg]; have : ¬ n = u := fun e => hun e.symm; simp [this]
    have h10 := hg.2.2 d u ((hF.1 i hi).1.2 d u hZu)
    have h10' := hg.2.2 d n ((hF.1 i hi).1.2 d n hZn)
    rw [xs_two h10.2 h10'.2 hun (fun z _ a1 a2 => by rw [hdeg]; simp [a1, a2]), hZu, hZn]
    simp
  have one : ∀ i u n, i < m → u ≠ n → (∀ z, Z i d z = (decide (z = u) ^^ decide (z = n))) → Un G S P PV L m Z c p q a b d u → (i = i1 ∨ i = i2 ∨ i = i3) → xs (fun y => Z i d y && bo (tp G Z m i1 i2 d d' al y b12 ∧ tp G Z m i1 i3 d d' al y b13)) 10 = true := fun i u n hi hun hdeg hu hi3 => by
    rw [val i u n hi hun hdeg, bo_iff.mpr ⟨all12 u hu, all13 u hu⟩]
    have : bo (tp G Z m i1 i2 d d' al n b12 ∧ tp G Z m i1 i3 d d' al n b13) = false := bo_no.mpr fun ⟨a1, a2⟩ => by
      have t1 := tp_fun k12 a1 (tp_face k12 hi hdeg (all12 u hu))
      have t2 := tp_fun k13 a2 (tp_face k13 hi hdeg (all13 u hu))
      rcases hi3 with e | e | e
      · rw [e, decide_eq_true rfl, decide_eq_false n12] at t1
        revert t1; cases b12 <;> simp
      · rw [e, decide_eq_true rfl, decide_eq_false (fun e : i2 = i1 => n12 e.symm)] at t1
        revert t1; cases b12 <;> simp
      · rw [e, decide_eq_true rfl, decide_eq_false (fun e : i3 = i1 => n13 e.symm)] at t2
        revert t2; cases b13 <;> simp
    rw [this]
    rfl
  rw [xs_three l1 l2 l3 n12 n13 n23 (fun i hi a1 a2 a3 => by
    rw [Bool.true_and]
    by_cases ex : ∃ u, Z i d u = true
    · obtain ⟨u, hZu⟩ := ex
      obtain ⟨n, hn, hdeg⟩ := FS_deg hb hS hF hi hZu
      rw [val i u n hi (fun e => hn e.symm) hdeg]
      have hd2 : ∀ z, Z i d z = (decide (z = n) ^^ decide (z = u)) := fun z => by rw [hdeg, Bool.xor_comm]
      have f12 : (decide (i = i1) ^^ decide (i = i2)) = false := by rw [decide_eq_false a1, decide_eq_false a2]; rfl
      have f13 : (decide (i = i1) ^^ decide (i = i3)) = false := by rw [decide_eq_false a1, decide_eq_false a3]; rfl
      have go : ∀ u n, (∀ z, Z i d z = (decide (z = u) ^^ decide (z = n))) → (tp G Z m i1 i2 d d' al u b12 ∧ tp G Z m i1 i3 d d' al u b13) → (tp G Z m i1 i2 d d' al n b12 ∧ tp G Z m i1 i3 d d' al n b13) := fun u n hdeg ⟨s1, s2⟩ => by
        have r1 := tp_face k12 hi hdeg s1
        have r2 := tp_face k13 hi hdeg s2
        rw [f12, Bool.xor_false] at r1
        rw [f13, Bool.xor_false] at r2
        exact ⟨r1, r2⟩
      have : bo (tp G Z m i1 i2 d d' al u b12 ∧ tp G Z m i1 i3 d d' al u b13) = bo (tp G Z m i1 i2 d d' al n b12 ∧ tp G Z m i1 i3 d d' al n b13) := by
        rw [Bool.eq_iff_iff, bo_iff, bo_iff]
        exact ⟨go u n hdeg, go n u hd2⟩
      rw [this]
      simp
    · refine xs_0 fun y _ => ?_
      cases e : Z i d y with
      | false => rfl
      | true => exact absurd ⟨y, e⟩ ex), one i1 u1 v1 l1 e1 g1 w1 (Or.inl rfl), one i2 u2 v2 l2 e2 g2 w2 (Or.inr (Or.inl rfl)), one i3 u3 v3 l3 e3 g3 w3 (Or.inr (Or.inr rfl))] at e0
  cases e0
/-- where one is shared there are two, one of each class -/
theorem U5 (h : SW G S P PV L E m Z c p q) {a b i : Nat} (h0 : g1 G S P PV L m Z c p q a b) (hi : i < m) (hm : mixd G S P PV L m Z c p q a b i) : ∃ R R', R < m ∧ R' < m ∧ c R = p ∧ c R' = q ∧ mixd G S P PV L m Z c p q a b R ∧ mixd G S P PV L m Z c p q a b R' ∧ ∀ k, k < m → mixd G S P PV L m Z c p q a b k → k = R ∨ k = R' := by
  obtain ⟨hb, hS, hB, hI, hG, hX, ⟨hp, hq, hpq⟩, _⟩ := id h
  obtain ⟨d, d', hne, hd, hd', o1, o2⟩ := mixd_odd h h0 hi hm
  have tch : ∀ i v, od (inD (Z i) (Un G S P PV L m Z c p q a b)) v = true → ∃ y, Un G S P PV L m Z c p q a b v y := fun i v ho => by
    obtain ⟨u, _, hu⟩ := xs_ex ho
    exact ⟨u, (inD_iff.mp hu).2⟩
  obtain ⟨y1, t1⟩ := tch i d o1
  obtain ⟨y2, t2⟩ := tch i d' o2
  have ht : ∀ w y, Un G S P PV L m Z c p q a b w y → bth L p q w → w = d ∨ w = d' := fun w y hu hbw => Classical.byContradiction fun hno => U1 h h0 hd hd' hbw hne (fun e => hno (Or.inl e.symm)) (fun e => hno (Or.inr e.symm)) t1 t2 hu
  have odd : ∀ k, k < m → mixd G S P PV L m Z c p q a b k → od (inD (Z k) (Un G S P PV L m Z c p q a b)) d = true ∧ od (inD (Z k) (Un G S P PV L m Z c p q a b)) d' = true := fun k hk hmk => by
    obtain ⟨u, u', une, hu, hu', s1, s2⟩ := mixd_odd h h0 hk hmk
    obtain ⟨z1, r1⟩ := tch k u s1
    obtain ⟨z2, r2⟩ := tch k u' s2
    rcases ht u z1 r1 hu with e1 | e1 <;> rcases ht u' z2 r2 hu' with e2 | e2
    · exact absurd (e1.trans e2.symm) une
    · rw [e1] at s1; rw [e2] at s2; exact ⟨s1, s2⟩
    · rw [e1] at s1; rw [e2] at s2; exact ⟨s2, s1⟩
    · exact absurd (e1.trans e2.symm) une
  obtain ⟨f1, f2⟩ := U2 h h0 hd hd' hne ht
  -- a class that passes oddly has a shared face
  have hV := SW_PV h
  have get : ∀ j, j < L.length → od (inD (FZ L j) (Un G S P PV L m Z c p q a b)) d = true → ∃ R, R < m ∧ c R = j ∧ mixd G S P PV L m Z c p q a b R := fun j hj ho => by
    have e : od (inD (FZ L j) (Un G S P PV L m Z c p q a b)) d = xs (fun i => cls c j i && od (inD (Z i) (Un G S P PV L m Z c p q a b)) d) m := by
      have := sU_lin Z (cls c j) m (fun y => bo (Un G S P PV L m Z c p q a b d y)) d 10
      rw [← hX.2.2 j hj] at this
      exact this
    rw [e] at ho
    obtain ⟨R, hR, hR2⟩ := xs_ex ho
    rw [Bool.and_eq_true] at hR2
    refine ⟨R, hR, of_decide_eq_true hR2.1, ?_, ?_⟩
    · obtain ⟨u, _, hu⟩ := xs_ex hR2.2
      exact ⟨d, u, (inD_iff.mp hu).2, (inD_iff.mp hu).1⟩
    · refine Classical.byContradiction fun hno => ?_
      have hall : ∀ y, Z R d y = true → Un G S P PV L m Z c p q a b d y := fun y hy => Classical.byContradiction fun n => hno ⟨d, y, hy, n⟩
      rw [inD_od (G := G) ((hX.1.1 R hR).2 d (hV d (bth_PV h hd))) (fun y y' _ e2 _ => hall y' e2)] at hR2
      cases hR2.2
  obtain ⟨R, r1, r2, r3⟩ := get p hp f1
  obtain ⟨R', s1, s2, s3⟩ := get q hq f2
  have hRR : R ≠ R' := fun e => hpq (by rw [← r2, ← s2, e])
  refine ⟨R, R', r1, s1, r2, s2, r3, s3, fun k hk hmk => Classical.byContradiction fun hno => ?_⟩
  exact mixd_three h h0 hd hd' hne r1 s1 hk hRR (fun e => hno (Or.inl e.symm)) (fun e => hno (Or.inr e.symm)) r3 s3 hmk (odd R r1 r3) (odd R' s1 s3) (odd k hk hmk)
end
