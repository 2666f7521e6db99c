/-! the least cycle between two vertices that lie on no common face -/
def SEPU (m : Nat) (Z : Nat → xG) (u w : Nat) (X : xG) (U : Nat → Bool) : Prop := X = sU Z U m ∧ ((∀ y, X u y = false) ∧ ∀ y, X w y = false) ∧ (∀ k, k < m → (∃ y, Z k u y = true) → U k = true) ∧ ∀ k, k < m → (∃ y, Z k w y = true) → U k = false
def cyl (C : List Nat) : Prop := C.Nodup ∧ 3 ≤ C.length ∧ ∀ z ∈ C, z < 10
/-- a cycle that parts u from w, with as few faces at u's side as can be -/
def CUT (m : Nat) (Z : Nat → xG) (u w : Nat) (C : List Nat) (U : Nat → Bool) : Prop := cyl C ∧ SEPU m Z u w (eSQ C) U ∧ ∀ C' U', cyl C' → SEPU m Z u w (eSQ C') U' → cnt U m ≤ cnt U' m
section
variable {P : xG} {PV : Nat → Bool} {m : Nat} {Z : Nat → xG} {u w : Nat}
theorem away_const (hB : BIC P PV) (hF : FS P m Z) {V : Nat → Bool} {v k l : Nat} (hk : k < m) (hl : l < m) (h1 : ∃ y, Z k v y = true) (h2 : ∃ y, Z l v y = true) (hv : ∀ y, sU Z V m v y = false) : V k = V l := by
  have := lam_away hB hF hk hl h1 h2 ⟨V, rfl, rfl⟩ hv
  revert this
  cases V k <;> cases V l <;> simp
theorem sep_ex (hB : BIC P PV) (hF : FS P m Z) (hu : ∃ k, k < m ∧ ∃ y, Z k u y = true) (hw : ∃ k, k < m ∧ ∃ y, Z k w y = true) (hno : ∀ k, k < m → (∃ y, Z k u y = true) → (∃ y, Z k w y = true) → False) : ∃ C U, cyl C ∧ SEPU m Z u w (eSQ C) U := by
  have hg := BIC_gok hB
  have h0 : ∃ n X U, SEPU m Z u w X U ∧ sm (fun x => cnt (X x) 10) 10 = n := by
    refine ⟨_, sU Z (fun k => bo (∃ y, Z k u y = true)) m, _, ⟨rfl, ⟨fun y => ?_, fun y => ?_⟩, fun k _ h => bo_iff.mpr h, fun k hk h => bo_no.mpr fun h2 => hno k hk h2 h⟩, rfl⟩
    · cases e : sU Z (fun k => bo (∃ y, Z k u y = true)) m u y with
      | false => rfl
      | true =>
        exfalso
        obtain ⟨i, hi, h⟩ := xs_ex e
        rw [Bool.and_eq_true] at h
        obtain ⟨j, hj, hne, hjZ, huu⟩ := hF.2.1 u y i hi h.2
        rw [tw_sum _ hi hj hne h.2 hjZ huu] at e
        rw [bo_iff.mpr ⟨y, h.2⟩, bo_iff.mpr ⟨y, hjZ⟩] at e
        cases e
    · refine xs_0 fun i hi => ?_
      cases eZ : Z i w y with
      | false => simp
      | true =>
        rw [Bool.and_true]
        exact bo_no.mpr fun h => hno i hi h ⟨y, eZ⟩
  obtain ⟨n, ⟨X, U, hX, hn⟩, hmin⟩ := nmin h0
  obtain ⟨x1, ⟨x2, x3⟩, x4, x5⟩ := id hX
  obtain ⟨ku, hku, yu, hyu⟩ := hu
  obtain ⟨kw, hkw, yw, hyw⟩ := hw
  have hev : ev P X := by rw [x1]; exact sU_ev fun i hi _ => hF.1 i hi
  have hne : ∃ a b, X a b = true := Classical.byContradiction fun hno2 => by
    have : X = x0 := by
      funext a b
      cases e : X a b with
      | false => rfl
      | true => exact absurd ⟨a, b, e⟩ hno2
    have := hF.2.2.2 U (by rw [← x1]; exact this) ku kw hku hkw
    rw [x4 ku hku ⟨yu, hyu⟩, x5 kw hkw ⟨yw, hyw⟩] at this
    cases this
  obtain ⟨a, b, hab⟩ := hne
  obtain ⟨C, c1, c2, c3, c4, c5⟩ := ev_cyc hg hev hab
  have hCP : ∀ q ∈ dts C, P q.1 q.2 = true := fun q hq => hev.1.2 _ _ (c4 _ _ (eS_iff.mpr (Or.inl hq)))
  obtain ⟨V, hV⟩ := hF.2.2.1 _ (ev_eS hg.1 c1 c2 c3 hCP)
  have hCu : ∀ y, eSQ C u y = false := fun y => by
    cases e : eSQ C u y with
    | false => rfl
    | true => have := c4 u y e; rw [x2] at this; cases this
  have hCw : ∀ y, eSQ C w y = false := fun y => by
    cases e : eSQ C w y with
    | false => rfl
    | true => have := c4 w y e; rw [x3] at this; cases this
  have cu : ∀ k, k < m → (∃ y, Z k u y = true) → V k = V ku := fun k hk h => away_const hB hF hk hku h ⟨yu, hyu⟩ (by rw [← hV]; exact hCu)
  have cw : ∀ k, k < m → (∃ y, Z k w y = true) → V k = V kw := fun k hk h => away_const hB hF hk hkw h ⟨yw, hyw⟩ (by rw [← hV]; exact hCw)
  -- with the side of u chosen
  obtain ⟨W, hW, wu, ww⟩ : ∃ W, eSQ C = sU Z W m ∧ (∀ k, k < m → (∃ y, Z k u y = true) → W k = W ku) ∧ W kw = false ∧ (∀ k, k < m → (∃ y, Z k w y = true) → W k = false) := by
    cases e : V kw with
    | false => exact ⟨V, hV, cu, e, fun k hk h => by rw [cw k hk h]; exact e⟩
    | true => exact ⟨fun i => !V i, by rw [sU_compl hF.2.1]; exact hV, fun k hk h => by dsimp only; rw [cu k hk h], by dsimp only; rw [e]; rfl, fun k hk h => by dsimp only; rw [cw k hk h, e]; rfl⟩
  cases eW : W ku with
  | true => exact ⟨C, W, ⟨c1, c2, c3⟩, hW, ⟨hCu, hCw⟩, fun k hk h => by rw [wu k hk h]; exact eW, ww.2⟩
  | false =>
    exfalso
    have hX' : SEPU m Z u w (xr X (eSQ C)) (fun i => U i ^^ W i) := ⟨by rw [sU_xor, ← x1, ← hW], ⟨fun y => by simp only [xr, x2, hCu]; rfl, fun y => by simp only [xr, x3, hCw]; rfl⟩, fun k hk h => by dsimp only; rw [x4 k hk h, wu k hk h, eW]; rfl, fun k hk h => by dsimp only; rw [x5 k hk h, ww.2 k hk h]; rfl⟩
    have hle := hmin _ ⟨_, _, hX', rfl⟩
    have hlt : sm (fun x => cnt (xr X (eSQ C) x) 10) 10 < sm (fun x => cnt (X x) 10) 10 := by
      have hsub : ∀ i v, xr X (eSQ C) i v = true → X i v = true := fun i v h => by
        cases e : X i v with
        | true => rfl
        | false =>
          simp only [xr, e, Bool.false_xor] at h
          rw [c4 i v h] at e
          cases e
      have h10 := hg.2.2 a b (hev.1.2 a b hab)
      exact sm_lt (fun i _ => cnt_mono fun v _ q => hsub i v q) ⟨a, h10.1, cnt_lt (fun v _ q => hsub a v q) ⟨b, h10.2, by simp only [xr, hab, c5]; rfl, hab⟩⟩
    omega
theorem cut_ex (hB : BIC P PV) (hF : FS P m Z) (hu : ∃ k, k < m ∧ ∃ y, Z k u y = true) (hw : ∃ k, k < m ∧ ∃ y, Z k w y = true) (hno : ∀ k, k < m → (∃ y, Z k u y = true) → (∃ y, Z k w y = true) → False) : ∃ C U, CUT m Z u w C U := by
  obtain ⟨C, U, h1, h2⟩ := sep_ex hB hF hu hw hno
  obtain ⟨n, ⟨C, U, h1, h2, h3⟩, hmin⟩ := nmin (P := fun n => ∃ C U, cyl C ∧ SEPU m Z u w (eSQ C) U ∧ cnt U m = n) ⟨_, C, U, h1, h2, rfl⟩
  exact ⟨C, U, h1, h2, fun C' U' a b => by rw [h3]; exact hmin _ ⟨C', U', a, b, rfl⟩⟩
/-- the two sides of the cycle, as classes -/
def cU (U : Nat → Bool) : Nat → Nat := fun i => if U i = true then 0 else 1
theorem cU_0 {U : Nat → Bool} {i : Nat} : cU U i = 0 ↔ U i = true := by
  unfold cU
  cases h : U i <;> simp
theorem cU_1 {U : Nat → Bool} {i : Nat} : cU U i = 1 ↔ U i = false := by
  unfold cU
  cases h : U i <;> simp
theorem cut_EXS (hB : BIC P PV) (hF : FS P m Z) {C : List Nat} {U : Nat → Bool} (hC : CUT m Z u w C U) :
    INV P PV (eSQ C) (fun v => decide (v ∈ C)) [C, C.reverse] C.length ∧ GR (eSQ C) [C, C.reverse] ∧ BIC (eSQ C) (fun v => decide (v ∈ C)) ∧ EXS P (eSQ C) [C, C.reverse] m Z (cU U) := by
  obtain ⟨⟨c1, c2, c3⟩, ⟨hU, _⟩, _⟩ := hC
  have hev : ev P (eSQ C) := by rw [hU]; exact sU_ev fun i hi _ => hF.1 i hi
  refine ⟨INV_cycle hB.1 c1 c2 (fun v hv => ⟨c3 v hv, ?_⟩) (fun q hq => hev.1.2 _ _ (eS_iff.mpr (Or.inl hq))), GR_cycle c1 c2 c3, BIC_cycle c1 c2 c3, hF, fun i _ => ?_, fun j hj => ?_⟩
  · obtain ⟨y, hy⟩ := dts_ex hv
    exact (hB.2.2.1 v y (hev.1.2 _ _ (eS_iff.mpr (Or.inl hy)))).2.2.1
  · show (if U i = true then 0 else 1) < 2
    split <;> omega
  · have h2 : j < 2 := hj
    rcases (by omega : j = 0 ∨ j = 1) with rfl | rfl
    · show eSQ C = _
      rw [hU]
      refine sU_ext fun i _ => ?_
      rw [Bool.eq_iff_iff]
      unfold cls
      rw [decide_eq_true_eq, cU_0]
    · show eSQ C.reverse = _
      rw [eS_rev, hU, ← sU_compl hF.2.1]
      refine sU_ext fun i _ => ?_
      rw [Bool.eq_iff_iff]
      unfold cls
      rw [decide_eq_true_eq, cU_1, Bool.not_eq_true']
theorem off_C {C : List Nat} {v : Nat} (h3 : 3 ≤ C.length) (h : ∀ y, eSQ C v y = false) : v ∉ C := fun hv => by
  obtain ⟨y, hy⟩ := dts_ex hv
  have := h y
  rw [eS_iff.mpr (Or.inl hy)] at this
  cases this
/-- a path through u's side that misses u would part them with fewer faces -/
theorem no_path (hB : BIC P PV) (hV : ∀ v, PV v = true → v < 10) (hF : FS P m Z) {C : List Nat} {U : Nat → Bool} (hC : CUT m Z u w C U) (hcu : ∃ k, k < m ∧ ∃ y, Z k u y = true) {s t : Nat} {ps : List Nat}
    (hs : s ∈ C) (ht : t ∈ C) (hst : s ≠ t) (hps : ps.Nodup) (hpv : ∀ p ∈ ps, p ∉ C ∧ PV p = true) (hpe : ∀ q ∈ pd (s :: ps ++ [t]), P q.1 q.2 = true ∧ eSQ C q.1 q.2 = false)
    (hup : u ∉ ps) (hwp : w ∉ ps) (hcl : ∀ x y i, ePQ (s :: ps ++ [t]) x y = true → i < m → Z i x y = true → U i = true) : False := by
  obtain ⟨hI, hG, hBC, hX⟩ := cut_EXS hB hF hC
  obtain ⟨⟨c1, c2, c3⟩, ⟨hU, ⟨hCu, hCw⟩, hUu, hUw⟩, hmin⟩ := id hC
  have hu := off_C c2 hCu
  have hw := off_C c2 hCw
  obtain ⟨A, B, e1⟩ := List.append_of_mem hs
  have htr : t ∈ B ++ A := by
    rw [e1] at ht
    simp only [List.mem_append, List.mem_cons] at ht ⊢
    rcases ht with h | h | h
    · exact Or.inr h
    · exact absurd h.symm hst
    · exact Or.inl h
  obtain ⟨as, bs, e2⟩ := List.append_of_mem htr
  have hAB : (s :: B) ++ A = s :: as ++ t :: bs := by rw [List.cons_append, e2]; rfl
  have hlist : [C, C.reverse] = [] ++ (A ++ s :: B) :: [C.reverse] := by rw [← e1]; rfl
  have hI2 := hI
  have hG2 := hG
  have hX2 := hX
  rw [hlist] at hI2 hG2 hX2
  have hpv2 : ∀ p ∈ ps, p < 10 ∧ (fun v => decide (v ∈ C)) p = false ∧ PV p = true := fun p hp => ⟨hV p (hpv p hp).2, decide_eq_false (hpv p hp).1, (hpv p hp).2⟩
  obtain ⟨c', hX', hc'⟩ := EXS_3 hB hV hI2 hG2 hX2 hAB hps hpv2 hpe (fun x y i h1 h2 h3 => cU_0.mpr (hcl x y i h1 h2 h3))
  have hI3 := INV_step hB.1 hI2 hAB hps hpv2 hpe
  obtain ⟨_, _, _, i4, _⟩ := hI3
  have cyc : ∀ f, f ∈ [] ++ (s :: as ++ t :: ps.reverse) :: [C.reverse] ++ [t :: bs ++ s :: ps] → cyl f := fun f hf => by
    obtain ⟨n1, n2, n3⟩ := i4 f hf
    refine ⟨n1, n2, fun z hz => ?_⟩
    rcases addV_iff.mp (n3 z hz) with g | g
    · exact c3 z (of_decide_eq_true g)
    · exact (hpv2 z g).1
  have hCm : ∀ z, z ∈ s :: as ++ t :: bs → z ∈ C := fun z hz => by
    rw [← hAB] at hz
    rw [e1]
    simp only [List.cons_append, List.mem_append, List.mem_cons] at hz ⊢
    rcases hz with h | h | h
    · exact Or.inr (Or.inl h)
    · exact Or.inr (Or.inr h)
    · exact Or.inl h
  have offf : ∀ v, v ∉ C → v ∉ ps → (∀ y, eSQ (s :: as ++ t :: ps.reverse) v y = false) ∧ ∀ y, eSQ (t :: bs ++ s :: ps) v y = false := fun v h1 h2 => by
    constructor
    · intro y
      cases e : eSQ (s :: as ++ t :: ps.reverse) v y with
      | false => rfl
      | true =>
        exfalso
        have := (eS_mem e).1
        simp only [List.cons_append, List.mem_append, List.mem_cons, List.mem_reverse] at this
        rcases this with g | g | g | g
        · exact h1 (hCm v (by simp [g]))
        · exact h1 (hCm v (by simp [g]))
        · exact h1 (hCm v (by simp [g]))
        · exact h2 g
    · intro y
      cases e : eSQ (t :: bs ++ s :: ps) v y with
      | false => rfl
      | true =>
        exfalso
        have := (eS_mem e).1
        simp only [List.cons_append, List.mem_append, List.mem_cons] at this
        rcases this with g | g | g | g
        · exact h1 (hCm v (by simp [g]))
        · exact h1 (hCm v (by simp [g]))
        · exact h1 (hCm v (by simp [g]))
        · exact h2 g
  have hf1 : eSQ (s :: as ++ t :: ps.reverse) = sU Z (cls c' 0) m := hX'.2.2 0 (by simp)
  have hf2 : eSQ (t :: bs ++ s :: ps) = sU Z (cls c' 2) m := hX'.2.2 2 (by simp)
  obtain ⟨ou1, ou2⟩ := offf u hu hup
  obtain ⟨ow1, ow2⟩ := offf w hw hwp
  have hold : ∀ i, i < m → (c' i = 0 ∨ c' i = 2) → U i = true := fun i hi h => by
    cases e : U i with
    | true => rfl
    | false =>
      have h1 := cU_1.mpr e
      have h2 := (hc' i hi).1 (by rw [h1]; simp)
      rw [h1] at h2
      omega
  have hsplit : ∀ i, i < m → U i = true → c' i = 0 ∨ c' i = 2 := fun i hi h => (hc' i hi).2 (cU_0.mpr h)
  have hwf : ∀ k, k < m → (∃ y, Z k w y = true) → c' k = 1 := fun k hk h => by
    have h1 := cU_1.mpr (hUw k hk h)
    rw [(hc' k hk).1 (by rw [h1]; simp)]
    exact h1
  have small : ∀ j j' (f g : List Nat), (j = 0 ∨ j = 2) → (j' = 0 ∨ j' = 2) → j ≠ j' → eSQ g = sU Z (cls c' j') m → cyl g → cnt (cls c' j) m < cnt U m := fun j j' f g hj hj' hne hg hcg => by
    obtain ⟨a, b, hab⟩ : ∃ a b, eSQ g a b = true := by
      obtain ⟨_, g2, _⟩ := hcg
      match g, g2 with
      | a :: b :: t, _ => exact ⟨a, b, eS_iff.mpr (Or.inl (by show (a, b) ∈ pd (a :: b :: (t ++ [a])); exact List.mem_cons_self))⟩
    rw [hg] at hab
    obtain ⟨i, hi, h1⟩ := xs_ex hab
    rw [Bool.and_eq_true] at h1
    have hci : c' i = j' := of_decide_eq_true h1.1
    refine cnt_lt (fun k hk q => hold k hk (by have : c' k = j := of_decide_eq_true q; omega)) ⟨i, hi, decide_eq_false (by omega), hold i hi (by omega)⟩
  have cy1 := cyc (s :: as ++ t :: ps.reverse) (by simp)
  have cy2 := cyc (t :: bs ++ s :: ps) (by simp)
  obtain ⟨ku, hku, yu, hyu⟩ := hcu
  have fin : ∀ j j' (f g : List Nat), (j = 0 ∨ j = 2) → (j' = 0 ∨ j' = 2) → j ≠ j' → eSQ f = sU Z (cls c' j) m → eSQ g = sU Z (cls c' j') m → cyl f → cyl g → (∀ y, eSQ f u y = false) → (∀ y, eSQ f w y = false) → c' ku = j → False := fun j j' f g hj hj' hne hf hg hcf hcg fu fw hk => by
    have := small j j' f g hj hj' hne hg hcg
    have hle := hmin f (cls c' j) hcf ⟨hf, ⟨fu, fw⟩, fun k hk2 h => ?_, fun k hk2 h => ?_⟩
    · omega
    · have := away_const hB hF hk2 hku h ⟨yu, hyu⟩ (V := cls c' j) (by rw [← hf]; exact fu)
      rw [this]
      exact decide_eq_true hk
    · exact decide_eq_false (by rw [hwf k hk2 h]; omega)
  rcases hsplit ku hku (hUu ku hku ⟨yu, hyu⟩) with h | h
  · exact fin 0 2 _ _ (Or.inl rfl) (Or.inr rfl) (by omega) hf1 hf2 cy1 cy2 ou1 ow1 h
  · exact fin 2 0 _ _ (Or.inr rfl) (Or.inl rfl) (by omega) hf2 hf1 cy2 cy1 ou2 ow2 h
end
