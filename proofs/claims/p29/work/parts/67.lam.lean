/-! what two faces part: even sets that do not meet a vertex of both do not part them -/
def lam (Z : Nat → xG) (m p q : Nat) (X : xG) (b : Bool) : Prop := ∃ V, X = sU Z V m ∧ b = (V p ^^ V q)
def LK (G : xG) (S : Nat → Bool) (m : Nat) (Z : Nat → xG) (p q c c' : Nat) (al : xG) : Prop := BIC G S ∧ (∀ v, S v = true → v < 10) ∧ FS G m Z ∧ (p < m ∧ q < m ∧ p ≠ q) ∧ (c ≠ c' ∧ S c = true ∧ S c' = true) ∧ ((∃ y, Z p c y = true) ∧ (∃ y, Z q c y = true) ∧ (∃ y, Z p c' y = true) ∧ ∃ y, Z q c' y = true) ∧ ch G al ∧ ∀ v, od al v = (decide (v = c) ^^ decide (v = c'))
/-- the type of a neighbor of c -/
def tp (G : xG) (Z : Nat → xG) (m p q c c' : Nat) (al : xG) (y : Nat) (b : Bool) : Prop := ∃ K, ch G K ∧ (∀ v, od K v = (decide (v = c) ^^ decide (v = c'))) ∧ (∀ z, K c z = decide (z = y)) ∧ lam Z m p q (xr K al) b
/-- the side of a vertex -/
def sdr (G : xG) (Z : Nat → xG) (m p q c c' : Nat) (al : xG) (z : Nat) (b : Bool) : Prop := ∃ K K', (ch G K ∧ (∀ v, od K v = (decide (v = z) ^^ decide (v = c))) ∧ ∀ y, K c' y = false) ∧ (ch G K' ∧ (∀ v, od K' v = (decide (v = z) ^^ decide (v = c'))) ∧ ∀ y, K' c y = false) ∧ lam Z m p q (xr (xr K K') al) b
theorem lam_add {Z : Nat → xG} {m p q : Nat} {X Y : xG} {b b' : Bool} (h1 : lam Z m p q X b) (h2 : lam Z m p q Y b') : lam Z m p q (xr X Y) (b ^^ b') := by
  obtain ⟨V, v1, v2⟩ := h1
  obtain ⟨W, w1, w2⟩ := h2
  refine ⟨fun i => V i ^^ W i, by rw [sU_xor, ← v1, ← w1], ?_⟩
  show _ = ((V p ^^ W p) ^^ (V q ^^ W q))
  rw [v2, w2]
  cases V p <;> cases V q <;> cases W p <;> cases W q <;> rfl
theorem lam_face {Z : Nat → xG} {m p q i : Nat} (hi : i < m) : lam Z m p q (Z i) (decide (i = p) ^^ decide (i = q)) := by
  refine ⟨fun k => decide (k = i), (sU_one hi).symm, ?_⟩
  have e1 : decide (p = i) = decide (i = p) := by rw [Bool.eq_iff_iff, decide_eq_true_eq, decide_eq_true_eq]; exact ⟨Eq.symm, Eq.symm⟩
  have e2 : decide (q = i) = decide (i = q) := by rw [Bool.eq_iff_iff, decide_eq_true_eq, decide_eq_true_eq]; exact ⟨Eq.symm, Eq.symm⟩
  show _ = (decide (p = i) ^^ decide (q = i))
  rw [e1, e2]
theorem lam_0 {Z : Nat → xG} {m p q : Nat} : lam Z m p q x0 false := ⟨fun _ => false, (sU_none fun _ _ => rfl).symm, rfl⟩
theorem con_hit {G : xG} {A : Nat → Bool} {x t : Nat} (ht : t < 10) (h : con G A x t) (hne : x ≠ t) : ∃ y, y < 10 ∧ G y t = true ∧ con G (fun v => A v && but t v) x y := by
  have key : (t ≠ t ∧ con G (fun v => A v && but t v) x t) ∨ ∃ y, y < 10 ∧ G y t = true ∧ con G (fun v => A v && but t v) x y := by
    refine con_ind (G := G) (A := A) (x := x) (fun v => (v ≠ t ∧ con G (fun v => A v && but t v) x v) ∨ ∃ y, y < 10 ∧ G y t = true ∧ con G (fun v => A v && but t v) x y) (fun hA => Or.inl ⟨hne, con_rfl (by rw [hA, but_iff.mpr hne]; rfl)⟩) (fun u v hu hv hp hg hA => ?_) ht h
    rcases hp with ⟨h1, h2⟩ | h
    · by_cases e : v = t
      · subst e
        exact Or.inr ⟨u, hu, hg, h2⟩
      · exact Or.inl ⟨e, con_step h2 hu hv hg (by rw [hA, but_iff.mpr e]; rfl)⟩
    · exact Or.inr h
  rcases key with ⟨h, _⟩ | h
  · exact absurd rfl h
  · exact h
theorem eS_deg {l : List Nat} (h : l.Nodup) (h3 : 3 ≤ l.length) {c : Nat} (hc : c ∈ l) : ∃ p n, p ≠ n ∧ (p ∈ l ∧ n ∈ l) ∧ ∀ z, eSQ l c z = (decide (z = p) ^^ decide (z = n)) := by
  obtain ⟨n, hn⟩ := dts_ex hc
  obtain ⟨p, hp⟩ := dts_ex (l := l.reverse) (List.mem_reverse.mpr hc)
  have hp2 := (dts_rev l c p).mp hp
  have hne : p ≠ n := fun e => dts_asym h h3 hn (e ▸ hp2)
  refine ⟨p, n, hne, ⟨(dts_mem hp2).1, (dts_mem hn).2⟩, fun z => ?_⟩
  have e : eSQ l c z = (decide (z = p) || decide (z = n)) := by
    rw [Bool.eq_iff_iff, eS_iff, Bool.or_eq_true, decide_eq_true_eq, decide_eq_true_eq]
    constructor
    · rintro (g | g)
      · exact Or.inr (dts_fun h g hn)
      · exact Or.inl (dts_inj h g hp2)
    · rintro (g | g)
      · rw [g]; exact Or.inr hp2
      · rw [g]; exact Or.inl hn
  rw [e]
  by_cases e1 : z = p
  · subst e1
    simp [hne]
  · simp [e1]
/-- a face passes a vertex by two edges -/
theorem FS_deg {G : xG} {S : Nat → Bool} (hb : BIC G S) (hS : ∀ v, S v = true → v < 10) {m : Nat} {Z : Nat → xG} (hF : FS G m Z) {i c y : Nat} (hi : i < m) (h : Z i c y = true) : ∃ y', y' ≠ y ∧ ∀ z, Z i c z = (decide (z = y) ^^ decide (z = y')) := by
  obtain ⟨l, l1, l2, l3, l4⟩ := FS_cyc hb hS hF hi h
  have hc : c ∈ l := by rw [l4] at h; exact (eS_mem h).1
  obtain ⟨p, n, hne, _, hz⟩ := eS_deg l1 l2 hc
  have hy := h
  rw [l4, hz] at hy
  by_cases e : y = p
  · subst e
    exact ⟨n, fun e => hne e.symm, fun z => by rw [l4, hz]⟩
  · have : y = n := by
      rw [decide_eq_false e] at hy
      simpa using hy
    subst this
    exact ⟨p, hne, fun z => by rw [l4, hz, Bool.xor_comm]⟩
section
variable {G : xG} {S : Nat → Bool} {m : Nat} {Z : Nat → xG} {p q c c' : Nat} {al : xG}
theorem lam_fun (hF : FS G m Z) (hp : p < m) (hq : q < m) {X : xG} {b b' : Bool} (h1 : lam Z m p q X b) (h2 : lam Z m p q X b') : b = b' := by
  obtain ⟨V, v1, v2⟩ := h1
  obtain ⟨W, w1, w2⟩ := h2
  have := hF.2.2.2 (fun i => V i ^^ W i) (by rw [sU_xor, ← v1, ← w1, xr_self]) p q hp hq
  rw [v2, w2]
  revert this
  cases V p <;> cases V q <;> cases W p <;> cases W q <;> simp
theorem lam_ex (hF : FS G m Z) {X : xG} (hX : ev G X) : ∃ b, lam Z m p q X b := by
  obtain ⟨V, hV⟩ := hF.2.2.1 X hX
  exact ⟨_, V, hV, rfl⟩
/-- an even set away from c -/
theorem lam_away (hb : BIC G S) (hF : FS G m Z) (hp : p < m) (hq : q < m) {w : Nat} (h1 : ∃ y, Z p w y = true) (h2 : ∃ y, Z q w y = true) {X : xG} {b : Bool} (hX : lam Z m p q X b) (hw : ∀ y, X w y = false) : b = false := by
  obtain ⟨V, v1, v2⟩ := hX
  obtain ⟨f1, f2, f3, f4⟩ := hF
  have hV : ∀ k l y, k < m → l < m → Z k w y = true → Z l w y = true → V k = V l := fun k l y hk hl a1 a2 => by
    obtain ⟨j, hj, hne, hjZ, hu⟩ := f2 w y k hk a1
    have h0 := hw y
    rw [v1, tw_sum V hk hj hne a1 hjZ hu] at h0
    have hkj : V k = V j := by revert h0; cases V k <;> cases V j <;> simp
    rcases hu l hl a2 with e | e
    · rw [e]
    · rw [e]; exact hkj
  obtain ⟨y0, hy0⟩ := h1
  obtain ⟨y1, hy1⟩ := h2
  have hw10 := ((BIC_gok hb).2.2 w y0 ((f1 p hp).1.2 w y0 hy0)).1
  have key := LF hb f3 (w := w) (D := fun z => anyv (fun k => V k && Z k w z) m) (y := y0) (y' := y1) (fun k hk => by
    rw [xs_ext (g := fun y => V k && Z k w y) (fun y _ => ?_), xs_and]
    · have : xs (fun y => Z k w y) 10 = false := (f1 k hk).2 w hw10
      rw [this]; simp
    · cases eZ : Z k w y with
      | false => simp
      | true =>
        rw [Bool.true_and, Bool.and_true, Bool.eq_iff_iff, anyv_iff]
        constructor
        · rintro ⟨l, hl, g⟩
          rw [Bool.and_eq_true] at g
          rw [hV k l y hk hl eZ g.2]; exact g.1
        · exact fun g => ⟨k, hk, by rw [g, eZ]; rfl⟩) ((f1 p hp).1.2 w y0 hy0) ((f1 q hq).1.2 w y1 hy1)
  have hval : ∀ k y, k < m → Z k w y = true → anyv (fun l => V l && Z l w y) m = V k := fun k y hk a => by
    rw [Bool.eq_iff_iff, anyv_iff]
    constructor
    · rintro ⟨l, hl, g⟩
      rw [Bool.and_eq_true] at g
      rw [hV k l y hk hl a g.2]; exact g.1
    · exact fun g => ⟨k, hk, by rw [g, a]; rfl⟩
  rw [hval p y0 hp hy0, hval q y1 hq hy1] at key
  rw [v2, key]
  simp
theorem chain_ev (hk : LK G S m Z p q c c' al) {K : xG} (h1 : ch G K) (h2 : ∀ v, od K v = (decide (v = c) ^^ decide (v = c'))) : ev G (xr K al) := by
  obtain ⟨_, _, _, _, _, _, a1, a2⟩ := hk
  exact ⟨ch_xr h1 a1, fun v _ => by rw [od_xr, h2, a2]; simp⟩
theorem tp_ex (hk : LK G S m Z p q c c' al) {y : Nat} (h : G c y = true) : ∃ b, tp G Z m p q c c' al y b := by
  obtain ⟨hb, hS, hF, _, ⟨hcc, hc, hc'⟩, _, a1, a2⟩ := id hk
  have hg := BIC_gok hb
  obtain ⟨hc10, hy10⟩ := hg.2.2 c y h
  have hne := ne_edge hg h
  obtain ⟨K, k1, k2, k3⟩ : ∃ K, ch G K ∧ (∀ v, od K v = (decide (v = c) ^^ decide (v = c'))) ∧ ∀ z, K c z = decide (z = y) := by
    by_cases e : y = c'
    · subst e
      exact ⟨eg c y, ch_eg hg.1 h, fun v => od_eg hc10 hy10 hne v, fun z => by simp [eg, hne]⟩
    · have hSy := (hb.2.2.1 c y h).2.2.2
      obtain ⟨K, c1, c2⟩ := con_chain hg hy10 (hS c' hc') (hb.2.2.2 y c' c hy10 (hS c' hc') hc10 hSy hc' (fun e => hne e.symm) (fun e => hcc e.symm))
      have hK0 : ∀ z, K c z = false := fun z => by
        cases e2 : K c z with
        | false => rfl
        | true =>
          have := (bH_iff.mp (c1.2 c z e2)).2.1
          rw [Bool.and_eq_true, but_iff] at this
          exact absurd rfl this.2
      refine ⟨xr (eg c y) K, ch_xr (ch_eg hg.1 h) (ch_mono (fun a b g => (bH_iff.mp g).1) c1), fun v => ?_, fun z => ?_⟩
      · rw [od_xr, c2, od_eg hc10 hy10 hne]
        cases decide (v = c) <;> cases decide (v = y) <;> cases decide (v = c') <;> rfl
      · simp only [xr, hK0, eg]
        simp [hne]
  obtain ⟨b, hb2⟩ := lam_ex (p := p) (q := q) hF (chain_ev hk k1 k2)
  exact ⟨b, K, k1, k2, k3, hb2⟩
theorem tp_fun (hk : LK G S m Z p q c c' al) {y : Nat} {b b' : Bool} (h1 : tp G Z m p q c c' al y b) (h2 : tp G Z m p q c c' al y b') : b = b' := by
  obtain ⟨hb, hS, hF, ⟨hp, hq, _⟩, _, ⟨n1, n2, _, _⟩, _⟩ := id hk
  obtain ⟨K, k1, k2, k3, k4⟩ := h1
  obtain ⟨J, j1, j2, j3, j4⟩ := h2
  have h := lam_add k4 j4
  have := lam_away hb hF hp hq n1 n2 h (fun y => by
    simp only [xr, k3, j3]
    cases decide (y = _) <;> cases al c y <;> rfl)
  revert this
  cases b <;> cases b' <;> simp
/-- across a face: the type changes at p and q alone -/
theorem tp_face (hk : LK G S m Z p q c c' al) {i y y' : Nat} (hi : i < m) (hz : ∀ z, Z i c z = (decide (z = y) ^^ decide (z = y'))) {b : Bool} (h : tp G Z m p q c c' al y b) : tp G Z m p q c c' al y' (b ^^ (decide (i = p) ^^ decide (i = q))) := by
  obtain ⟨hb, hS, hF, _⟩ := id hk
  obtain ⟨K, k1, k2, k3, k4⟩ := h
  have hZ := hF.1 i hi
  refine ⟨xr K (Z i), ch_xr k1 hZ.1, fun v => ?_, fun z => ?_, ?_⟩
  · rw [od_xr, k2]
    by_cases hv : v < 10
    · rw [hZ.2 v hv]; simp
    · have : od (Z i) v = false := xs_0 fun y _ => by
        cases e : Z i v y with
        | false => rfl
        | true => exact absurd ((BIC_gok hb).2.2 v y (hZ.1.2 v y e)).1 hv
      rw [this]; simp
  · simp only [xr, k3, hz]
    cases decide (z = y) <;> cases decide (z = y') <;> rfl
  · have e : xr (xr K (Z i)) al = xr (xr K al) (Z i) := by
      funext x y
      simp only [xr]
      cases K x y <;> cases Z i x y <;> cases al x y <;> rfl
    rw [e]
    exact lam_add k4 (lam_face hi)
theorem sdr_ex (hk : LK G S m Z p q c c' al) {z : Nat} (hz : S z = true) (h1 : z ≠ c) (h2 : z ≠ c') : ∃ b, sdr G Z m p q c c' al z b := by
  obtain ⟨hb, hS, hF, _, ⟨hcc, hc, hc'⟩, _, a1, a2⟩ := id hk
  have hg := BIC_gok hb
  have go : ∀ d d', S d = true → S d' = true → z ≠ d' → d ≠ d' → ∃ K, ch G K ∧ (∀ v, od K v = (decide (v = z) ^^ decide (v = d))) ∧ ∀ y, K d' y = false := fun d d' hd hd' n1 n2 => by
    obtain ⟨K, c1, c2⟩ := con_chain hg (hS z hz) (hS d hd) (hb.2.2.2 z d d' (hS z hz) (hS d hd) (hS d' hd') hz hd n1 n2)
    refine ⟨K, ch_mono (fun a b g => (bH_iff.mp g).1) c1, c2, fun y => ?_⟩
    cases e2 : K d' y with
    | false => rfl
    | true =>
      have := (bH_iff.mp (c1.2 d' y e2)).2.1
      rw [Bool.and_eq_true, but_iff] at this
      exact absurd rfl this.2
  obtain ⟨K, k1, k2, k3⟩ := go c c' hc hc' h2 hcc
  obtain ⟨J, j1, j2, j3⟩ := go c' c hc' hc h1 (fun e => hcc e.symm)
  obtain ⟨b, hb2⟩ := lam_ex (p := p) (q := q) hF (X := xr (xr K J) al) ⟨ch_xr (ch_xr k1 j1) a1, fun v _ => by
    rw [od_xr, od_xr, k2, j2, a2]
    cases decide (v = z) <;> cases decide (v = c) <;> cases decide (v = c') <;> rfl⟩
  exact ⟨b, K, J, ⟨k1, k2, k3⟩, ⟨j1, j2, j3⟩, hb2⟩
theorem sdr_fun (hk : LK G S m Z p q c c' al) {z : Nat} {b b' : Bool} (h1 : sdr G Z m p q c c' al z b) (h2 : sdr G Z m p q c c' al z b') : b = b' := by
  obtain ⟨hb, hS, hF, ⟨hp, hq, _⟩, ⟨_, hc, hc'⟩, ⟨n1, n2, n3, n4⟩, _⟩ := id hk
  obtain ⟨K, J, ⟨k1, k2, k3⟩, ⟨j1, j2, j3⟩, hl⟩ := h1
  obtain ⟨K', J', ⟨k1', k2', k3'⟩, ⟨j1', j2', j3'⟩, hl'⟩ := h2
  obtain ⟨d, hd⟩ := lam_ex (p := p) (q := q) hF (X := xr K K') ⟨ch_xr k1 k1', fun v _ => by rw [od_xr, k2, k2']; simp⟩
  obtain ⟨d', hd'⟩ := lam_ex (p := p) (q := q) hF (X := xr J J') ⟨ch_xr j1 j1', fun v _ => by rw [od_xr, j2, j2']; simp⟩
  have e1 := lam_away hb hF hp hq n3 n4 hd (fun y => by simp only [xr, k3, k3']; rfl)
  have e2 := lam_away hb hF hp hq n1 n2 hd' (fun y => by simp only [xr, j3, j3']; rfl)
  have h := lam_add hl hl'
  have e : xr (xr (xr K J) al) (xr (xr K' J') al) = xr (xr K K') (xr J J') := by
    funext x y
    simp only [xr]
    cases K x y <;> cases J x y <;> cases K' x y <;> cases J' x y <;> cases al x y <;> rfl
  rw [e] at h
  have := lam_fun hF hp hq h (lam_add hd hd')
  rw [e1, e2] at this
  revert this
  cases b <;> cases b' <;> simp
theorem sdr_step (hk : LK G S m Z p q c c' al) {z z' : Nat} (h : G z z' = true) (h1 : z ≠ c ∧ z ≠ c') (h2 : z' ≠ c ∧ z' ≠ c') {b : Bool} (hz : sdr G Z m p q c c' al z b) : sdr G Z m p q c c' al z' b := by
  obtain ⟨hb, hS, hF, _⟩ := id hk
  have hg := BIC_gok hb
  obtain ⟨hz10, hz10'⟩ := hg.2.2 z z' h
  have hne := ne_edge hg h
  obtain ⟨K, J, ⟨k1, k2, k3⟩, ⟨j1, j2, j3⟩, hl⟩ := hz
  have hno : ∀ d, d ≠ z → d ≠ z' → ∀ y, eg z z' d y = false := fun d n1 n2 y => by simp [eg, n1, n2]
  refine ⟨xr K (eg z z'), xr J (eg z z'), ⟨ch_xr k1 (ch_eg hg.1 h), fun v => ?_, fun y => ?_⟩, ⟨ch_xr j1 (ch_eg hg.1 h), fun v => ?_, fun y => ?_⟩, ?_⟩
  · rw [od_xr, k2, od_eg hz10 hz10' hne]
    cases decide (v = z) <;> cases decide (v = z') <;> cases decide (v = c) <;> rfl
  · simp only [xr, k3, hno c' (fun e => h1.2 e.symm) (fun e => h2.2 e.symm) y]; rfl
  · rw [od_xr, j2, od_eg hz10 hz10' hne]
    cases decide (v = z) <;> cases decide (v = z') <;> cases decide (v = c') <;> rfl
  · simp only [xr, j3, hno c (fun e => h1.1 e.symm) (fun e => h2.1 e.symm) y]; rfl
  · have e : xr (xr (xr K (eg z z')) (xr J (eg z z'))) al = xr (xr K J) al := by
      funext x y
      simp only [xr]
      cases K x y <;> cases J x y <;> cases eg z z' x y <;> cases al x y <;> rfl
    rw [e]; exact hl
theorem sdr_con (hk : LK G S m Z p q c c' al) {A : Nat → Bool} {H : xG} (hH : ∀ x y, H x y = true → G x y = true) (hA : ∀ v, A v = true → v ≠ c ∧ v ≠ c') {z z' : Nat} (hz' : z' < 10) (h : con H A z z') (hzc : z ≠ c ∧ z ≠ c') {b : Bool} (hz : sdr G Z m p q c c' al z b) : sdr G Z m p q c c' al z' b := by
  have : (z' ≠ c ∧ z' ≠ c') ∧ sdr G Z m p q c c' al z' b := con_ind (G := H) (A := A) (x := z) (fun v => (v ≠ c ∧ v ≠ c') ∧ sdr G Z m p q c c' al v b) (fun _ => ⟨hzc, hz⟩) (fun u v _ _ hp hg hAv => ⟨hA v hAv, sdr_step hk (hH u v hg) hp.1 (hA v hAv) hp.2⟩) hz' h
  exact this.2
/-- the type of a neighbor is its side -/
theorem tp_sdr (hk : LK G S m Z p q c c' al) {y : Nat} (h : G c y = true) (hy : y ≠ c') {b : Bool} : tp G Z m p q c c' al y b ↔ sdr G Z m p q c c' al y b := by
  obtain ⟨hb, hS, hF, _, ⟨hcc, hc, hc'⟩, _, a1, a2⟩ := id hk
  have hg := BIC_gok hb
  obtain ⟨hc10, hy10⟩ := hg.2.2 c y h
  have hne := ne_edge hg h
  have hSy := (hb.2.2.1 c y h).2.2.2
  have main : ∃ b, tp G Z m p q c c' al y b ∧ sdr G Z m p q c c' al y b := by
    obtain ⟨K, c1, c2⟩ := con_chain hg hy10 (hS c' hc') (hb.2.2.2 y c' c hy10 (hS c' hc') hc10 hSy hc' (fun e => hne e.symm) (fun e => hcc e.symm))
    have hK0 : ∀ z, K c z = false := fun z => by
      cases e2 : K c z with
      | false => rfl
      | true =>
        have := (bH_iff.mp (c1.2 c z e2)).2.1
        rw [Bool.and_eq_true, but_iff] at this
        exact absurd rfl this.2
    have c1' : ch G K := ch_mono (fun a b g => (bH_iff.mp g).1) c1
    have hod : ∀ v, od (xr (eg c y) K) v = (decide (v = c) ^^ decide (v = c')) := fun v => by
      rw [od_xr, c2, od_eg hc10 hy10 hne]
      cases decide (v = c) <;> cases decide (v = y) <;> cases decide (v = c') <;> rfl
    obtain ⟨b, hb2⟩ := lam_ex (p := p) (q := q) hF (chain_ev hk (ch_xr (ch_eg hg.1 h) c1') hod)
    refine ⟨b, ⟨xr (eg c y) K, ch_xr (ch_eg hg.1 h) c1', hod, fun z => ?_, hb2⟩, ⟨eg c y, K, ⟨ch_eg hg.1 h, fun v => ?_, fun z => ?_⟩, ⟨c1', c2, hK0⟩, hb2⟩⟩
    · simp only [xr, hK0, eg]
      simp [hne]
    · rw [od_eg hc10 hy10 hne, Bool.xor_comm]
    · have e1 : ¬ c' = c := fun e => hcc e.symm
      have e2 : ¬ c' = y := fun e => hy e.symm
      simp [eg, e1, e2]
  obtain ⟨b0, t0, s0⟩ := main
  constructor
  · intro t; rw [tp_fun hk t t0]; exact s0
  · intro s; rw [sdr_fun hk s s0]; exact t0
/-- on a face other than p and q there is one side -/
theorem sdr_face (hk : LK G S m Z p q c c' al) {i : Nat} (hi : i < m) (hip : i ≠ p) (hiq : i ≠ q) {z z' y y' : Nat} (h1 : Z i z y = true) (h2 : Z i z' y' = true) (hz : z ≠ c ∧ z ≠ c') (hz' : z' ≠ c ∧ z' ≠ c') {b : Bool} (hs : sdr G Z m p q c c' al z b) : sdr G Z m p q c c' al z' b := by
  obtain ⟨hb, hS, hF, _, ⟨hcc, hc, hc'⟩, _⟩ := id hk
  obtain ⟨l, l1, l2, l3, l4⟩ := FS_cyc hb hS hF hi h1
  have hzl : z ∈ l := by rw [l4] at h1; exact (eS_mem h1).1
  have hzl' : z' ∈ l := by rw [l4] at h2; exact (eS_mem h2).1
  have hB := BIC_cycle l1 l2 l3
  have hsub : ∀ x y, eSQ l x y = true → G x y = true := fun x y g => (hF.1 i hi).1.2 x y (by rw [l4]; exact g)
  by_cases hcl : c ∈ l
  · -- each is joined with a neighbor of c
    obtain ⟨u, n, hun, ⟨hul, hnl⟩, hdeg⟩ := eS_deg l1 l2 hcl
    have hdegZ : ∀ z, Z i c z = (decide (z = u) ^^ decide (z = n)) := fun z => by rw [l4]; exact hdeg z
    have hGu : G c u = true := hsub c u (by rw [hdeg]; simp [hun])
    have hGn : G c n = true := hsub c n (by rw [hdeg]; have : ¬ n = u := fun e => hun e.symm; simp [this])
    have near : ∀ z, z ∈ l → z ≠ c → z ≠ c' → ∃ y, (y = u ∨ y = n) ∧ y ≠ c' ∧ y ≠ c ∧ con (eSQ l) (fun v => (decide (v ∈ l) && but c' v) && but c v) z y := by
      intro z hzl n1 n2
      have hcon := hB.2.2.2 z c c' (l3 z hzl) (l3 c hcl) (hS c' hc') (decide_eq_true hzl) (decide_eq_true hcl) n2 hcc
      obtain ⟨y, hy10, hy1, hy2⟩ := con_hit (l3 c hcl) hcon n1
      have hyA := con_in hy2
      rw [Bool.and_eq_true, Bool.and_eq_true, but_iff, but_iff] at hyA
      refine ⟨y, ?_, hyA.1.2, hyA.2, hy2⟩
      rw [eS_sym, hdeg] at hy1
      by_cases e : y = u
      · exact Or.inl e
      · rw [decide_eq_false e] at hy1
        exact Or.inr (by simpa using hy1)
    have hAA : ∀ v, ((decide (v ∈ l) && but c' v) && but c v) = true → v ≠ c ∧ v ≠ c' := fun v g => by
      rw [Bool.and_eq_true, Bool.and_eq_true, but_iff, but_iff] at g
      exact ⟨g.2, g.1.2⟩
    obtain ⟨a, ha, a1, a2, a3⟩ := near z hzl hz.1 hz.2
    obtain ⟨a', ha', a1', a2', a3'⟩ := near z' hzl' hz'.1 hz'.2
    have hal : a < 10 := by rcases ha with e | e <;> rw [e] <;> apply l3 <;> assumption
    have hal' : a' < 10 := by rcases ha' with e | e <;> rw [e] <;> apply l3 <;> assumption
    have sa := sdr_con hk hsub hAA hal a3 hz hs
    have step : sdr G Z m p q c c' al a' b := by
      by_cases e : a' = a
      · rw [e]; exact sa
      · have hGa : G c a = true := by rcases ha with e | e <;> rw [e] <;> assumption
        have hGa' : G c a' = true := by rcases ha' with e | e <;> rw [e] <;> assumption
        have t1 := (tp_sdr hk hGa a1).mpr sa
        have hd2 : ∀ z, Z i c z = (decide (z = a) ^^ decide (z = a')) := fun z => by
          rw [hdegZ]
          rcases ha with e1 | e1 <;> rcases ha' with e2 | e2
          · exact absurd (e2.trans e1.symm) e
          · rw [e1, e2]
          · rw [e1, e2, Bool.xor_comm]
          · exact absurd (e2.trans e1.symm) e
        have t2 := tp_face hk hi hd2 t1
        rw [decide_eq_false hip, decide_eq_false hiq] at t2
        simp only [bne_self_eq_false, Bool.xor_false] at t2
        exact (tp_sdr hk hGa' a1').mp t2
    exact sdr_con hk hsub hAA (l3 z' hzl') (con_sym (eS_sym l) (l3 z' hzl') hal' a3') ⟨a2', a1'⟩ step
  · have hcon := hB.2.2.2 z z' c' (l3 z hzl) (l3 z' hzl') (hS c' hc') (decide_eq_true hzl) (decide_eq_true hzl') hz.2 hz'.2
    refine sdr_con hk hsub (fun v g => ?_) (l3 z' hzl') hcon hz hs
    rw [Bool.and_eq_true, but_iff, decide_eq_true_eq] at g
    exact ⟨fun e => hcl (e ▸ g.1), g.2⟩
end
