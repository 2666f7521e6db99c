/-! the reference: placePath -/
def pE (p : List Nat) (P : Nat → Nat → Bool) : Nat → Nat → Nat → Bool
  | 0 => P
  | e + 1 => adP (pE p P e) (p.getD e 0) (p.getD (e + 1) 0)
def vE (p : List Nat) (V : Nat → Bool) : Nat → Nat → Bool
  | 0 => V
  | e + 1 => adV (vE p V e) (p.getD e 0) (p.getD (e + 1) 0)
theorem pE_iff (p : List Nat) (P : Nat → Nat → Bool) (x y : Nat) : ∀ e, pE p P e x y = true ↔ P x y = true ∨ ∃ i, i < e ∧ ab (p.getD i 0) (p.getD (i + 1) 0) x y = true
  | 0 => ⟨fun h => Or.inl h, fun h => h.elim id (fun ⟨i, hi, _⟩ => absurd hi (Nat.not_lt_zero _))⟩
  | e + 1 => by
    show (pE p P e x y || ab (p.getD e 0) (p.getD (e + 1) 0) x y) = true ↔ _
    rw [Bool.or_eq_true, pE_iff p P x y e]
    constructor
    · rintro ((h | ⟨i, hi, h⟩) | h)
      · exact Or.inl h
      · exact Or.inr ⟨i, by omega, h⟩
      · exact Or.inr ⟨e, by omega, h⟩
    · rintro (h | ⟨i, hi, h⟩)
      · exact Or.inl (Or.inl h)
      · by_cases e2 : i = e
        · rw [e2] at h; exact Or.inr h
        · exact Or.inl (Or.inr ⟨i, by omega, h⟩)
theorem vE_iff (p : List Nat) (V : Nat → Bool) (x : Nat) : ∀ e, vE p V e x = true ↔ V x = true ∨ ∃ i, i < e ∧ (x = p.getD i 0 ∨ x = p.getD (i + 1) 0)
  | 0 => ⟨fun h => Or.inl h, fun h => h.elim id (fun ⟨i, hi, _⟩ => absurd hi (Nat.not_lt_zero _))⟩
  | e + 1 => by
    show (vE p V e x || (decide (x = p.getD e 0) || decide (x = p.getD (e + 1) 0))) = true ↔ _
    rw [Bool.or_eq_true, vE_iff p V x e, Bool.or_eq_true, decide_eq_true_iff, decide_eq_true_iff]
    constructor
    · rintro ((h | ⟨i, hi, h⟩) | h)
      · exact Or.inl h
      · exact Or.inr ⟨i, by omega, h⟩
      · exact Or.inr ⟨e, by omega, h⟩
    · rintro (h | ⟨i, hi, h⟩)
      · exact Or.inl (Or.inl h)
      · by_cases e2 : i = e
        · rw [e2] at h; exact Or.inr h
        · exact Or.inl (Or.inr ⟨i, by omega, h⟩)
theorem pE_all {p : List Nat} {P : Nat → Nat → Bool} : pE p P (p.length - 1) = addP P p := by
  have key : ∀ x y, (x, y) ∈ pd p ↔ ∃ i, i < p.length - 1 ∧ x = p.getD i 0 ∧ y = p.getD (i + 1) 0 := fun x y => by
    constructor
    · intro h
      obtain ⟨i, h1, h2⟩ := pd_ex h
      have := (List.getElem?_eq_some_iff.mp h2).1
      exact ⟨i, by omega, by rw [List.getD_eq_getElem?_getD, h1]; rfl, by rw [List.getD_eq_getElem?_getD, h2]; rfl⟩
    · rintro ⟨i, hi, h1, h2⟩
      exact pd_get p i x y (by rw [h1]; exact getD_of (by omega) 0) (by rw [h2]; exact getD_of (by omega) 0)
  funext x y
  apply Bool.eq_iff_iff.mpr
  rw [pE_iff, addP_iff, key, key]
  constructor
  · rintro (h | ⟨i, hi, h⟩)
    · exact Or.inl h
    · rcases ab_iff.mp h with ⟨e1, e2⟩ | ⟨e1, e2⟩
      · exact Or.inr (Or.inl ⟨i, hi, e1, e2⟩)
      · exact Or.inr (Or.inr ⟨i, hi, e2, e1⟩)
  · rintro (h | ⟨i, hi, e1, e2⟩ | ⟨i, hi, e1, e2⟩)
    · exact Or.inl h
    · exact Or.inr ⟨i, hi, ab_iff.mpr (Or.inl ⟨e1, e2⟩)⟩
    · exact Or.inr ⟨i, hi, ab_iff.mpr (Or.inr ⟨e2, e1⟩)⟩
theorem vE_all {p : List Nat} {V : Nat → Bool} (h2 : 2 ≤ p.length) : vE p V (p.length - 1) = addV V p := by
  funext x
  apply Bool.eq_iff_iff.mpr
  rw [vE_iff, addV_iff]
  constructor
  · rintro (h | ⟨i, hi, h | h⟩)
    · exact Or.inl h
    · rw [h]; exact Or.inr (List.mem_of_getElem? (getD_of (by omega) 0))
    · rw [h]; exact Or.inr (List.mem_of_getElem? (getD_of (by omega) 0))
  · rintro (h | h)
    · exact Or.inl h
    · obtain ⟨i, hi, e⟩ := List.mem_iff_getElem.mp h
      have hg := getD_of hi 0
      rw [List.getElem?_eq_getElem hi, e] at hg
      have hx := Option.some.inj hg
      by_cases h0 : i + 1 < p.length
      · exact Or.inr ⟨i, by omega, Or.inl hx⟩
      · refine Or.inr ⟨i - 1, by omega, Or.inr ?_⟩
        rw [show i - 1 + 1 = i by omega]
        exact hx
/-- a face, begun at one of its vertices, by places -/
theorem rot_get {A B : List Nat} {u k : Nat} (hk : k < (A ++ u :: B).length) : (A ++ u :: B)[(A.length + k) % (A ++ u :: B).length]? = (u :: B ++ A)[k]? := by
  have hl : (A ++ u :: B).length = A.length + (B.length + 1) := by simp
  by_cases h : k < B.length + 1
  · rw [Nat.mod_eq_of_lt (by omega), List.getElem?_append_right (by omega), show A.length + k - A.length = k by omega, List.getElem?_append_left (by simp; omega)]
  · have : (A.length + k) % (A ++ u :: B).length = k - (B.length + 1) := by
      rw [hl, show A.length + k = (k - (B.length + 1)) + (A.length + (B.length + 1)) by omega, Nat.add_mod_right, Nat.mod_eq_of_lt (by omega)]
    rw [this, List.getElem?_append_left (by omega), List.getElem?_append_right (by simp; omega)]
    simp
theorem m_placeP {w : xW} {P : Nat → Nat → Bool} {PV : Nat → Bool} {E : Nat} {L : List (List Nat)} {cf u z : Nat} {f A B xs ys inn : List Nat} (hL : fM w L) (hS : fS L) (hL16 : L.length < 16) (hcf : L[cf]? = some f) (hf : f = A ++ u :: B) (huA : u ∉ A) (hBA : B ++ A = xs ++ z :: ys) (hzx : z ∉ u :: xs) (hp : lM w (u :: inn ++ [z])) (h27 : w.1 45 27 = nI cf) (hP : pM w P PV E) (hn1 : (u :: xs ++ z :: inn.reverse).length ≤ 10) (hn2 : (z :: ys ++ u :: inn).length ≤ 10) (hpv : ∀ v ∈ u :: inn ++ [z], v < 10) (hpn : (u :: inn ++ [z]).Nodup) : xD MX8_placePath [.ref 45] w (fun r w1 => r = none ∧ pM w1 (addP P (u :: inn ++ [z])) (addV PV (u :: inn ++ [z])) (E + (inn.length + 1)) ∧ fM w1 (L.set cf (u :: xs ++ z :: inn.reverse) ++ [z :: ys ++ u :: inn]) ∧ xkq [(45, some 19), (45, some 20), (45, some 21), (56, none), (57, none), (58, none), (63, none)] w w1) := by
  have hcl := (List.getElem?_eq_some_iff.mp hcf).1
  have hfm := List.mem_of_getElem? hcf
  obtain ⟨hf10, hfv⟩ := hS.2 f hfm
  have hfc := hL.2 cf f hcf
  obtain ⟨R, hR⟩ : ∃ R, R = u :: xs ++ z :: ys := ⟨_, rfl⟩
  have hRB : u :: B ++ A = R := by rw [hR]; show u :: (B ++ A) = u :: (xs ++ z :: ys); rw [hBA]
  have hRl : R.length = f.length := by rw [← hRB, hf]; simp; omega
  have hRf : ∀ k, k < f.length → f[(A.length + k) % f.length]? = some (R.getD k 0) := fun k hk => by
    have h1 := rot_get (A := A) (B := B) (u := u) (k := k) (by rw [← hf]; exact hk)
    rw [← hf, hRB] at h1
    rw [h1]
    exact getD_of (by omega) 0
  have hfA : f[A.length]? = some u := by rw [hf]; simp
  have hAl : A.length < f.length := by rw [hf]; simp
  have hRv : ∀ k, k < R.length → R.getD k 0 < 10 := fun k hk => hfv _ (List.mem_of_getElem? (hRf k (by omega)))
  have hRz : R.getD (xs.length + 1) 0 = z := by
    rw [hR, List.getD_eq_getElem?_getD, List.getElem?_append_right (by simp)]
    simp
  have hRlt : xs.length + 1 < R.length := by rw [hR]; simp
  have hRne : ∀ k, k < xs.length + 1 → R.getD k 0 ≠ z := fun k hk e => by
    refine hzx ?_
    rw [← e, hR, List.getD_eq_getElem?_getD, List.getElem?_append_left (by simp; omega), List.getElem?_eq_getElem (by simp; omega)]
    exact List.getElem_mem _
  have hRt : R.take (xs.length + 1) = u :: xs := by rw [hR, List.take_append_of_le_length (by simp), List.take_of_length_le (by simp)]
  have hRd : R.drop (xs.length + 1) = z :: ys := by rw [hR, List.drop_append_of_le_length (by simp), List.drop_of_length_le (by simp)]; rfl
  have hxl : xs.length + 1 + (inn.length + 1) ≤ 10 := by have h := hn1; simp at h; omega
  have hyl : ys.length + 1 + (inn.length + 1) ≤ 10 := by have h := hn2; simp at h; omega
  obtain ⟨p, hpp⟩ : ∃ p, p = u :: inn ++ [z] := ⟨_, rfl⟩
  have hpl : p.length = inn.length + 2 := by rw [hpp]; simp
  have hp0 : p.getD 0 0 = u := by rw [hpp]; rfl
  have hplast : p.getD (inn.length + 1) 0 = z := by
    rw [hpp, List.getD_eq_getElem?_getD, List.getElem?_append_right (by simp)]
    simp
  have hprev : p.reverse.take (inn.length + 1) = z :: inn.reverse := by
    have e : (u :: inn ++ [z]).reverse = z :: (inn.reverse ++ [u]) := by simp
    rw [hpp, e, List.take_succ_cons, List.take_append_of_le_length (by simp), List.take_of_length_le (by simp)]
  have hptake : p.take (inn.length + 1) = u :: inn := by rw [hpp, List.take_append_of_le_length (by simp), List.take_of_length_le (by simp)]
  rw [← hpp] at hp hpv hpn ⊢
  have hpv2 : ∀ k, k < p.length → p.getD k 0 < 10 := fun k hk => hpv _ (List.mem_of_getElem? (getD_of hk 0))
  have hu10 : u < 10 := by rw [← hp0]; exact hpv2 0 (by omega)
  have hz10 : z < 10 := by rw [← hplast]; exact hpv2 _ (by omega)
  have hpc := fun k (hk : k < p.length) => hp.2 k _ (getD_of hk 0)
  rw [show inn.length + 1 = p.length - 1 by omega, ← pE_all, ← vE_all (by omega)]
  rw [show p.length - 1 = inn.length + 1 by omega]
  clear hpp
  refine xD.of ?_
  show xQ MX8_placePath (0, [some (.ref 45), none, none, none, none, none, none], [], w) _
  refine xQ.go 4 (F1 := (6, [some (.ref 45), none, none, none, none, none, none], [.int (w.1 61 0)], w)) rfl ?_
  rw [show w.1 61 0 = nI u by rw [← hp0]; exact hpc 0 (by omega)]
  refine xQ.go 7 (F1 := (17, [some (.ref 45), some (.int (nI u)), none, none, none, none, none], [.int ((w.1 45 29) - 1), .ref 61], w)) rfl ?_
  rw [hp.1, show (nI p.length - 1 : Int32) = nI (inn.length + 1) by rw [hpl]; exact nI_pred _]
  refine xQ.iald rfl (k := (inn.length + 1)) (rfl) (⟨by omega, by omega⟩) rfl ?_
  show xQ MX8_placePath (18, [some (.ref 45), some (.int (nI u)), none, none, none, none, none], [.int (w.1 61 (inn.length + 1))], w) _
  rw [hpc _ (by omega), hplast]
  refine xQ.go 5 (F1 := (27, [some (.ref 45), some (.int (nI u)), some (.int (nI z)), none, none, none, none], [.int (w.1 45 27), .ref 57], w)) rfl ?_
  rw [h27]
  have hl16 := hS.1
  refine xQ.iald rfl (k := cf) (rfl) (⟨by omega, by omega⟩) rfl ?_
  show xQ MX8_placePath (28, [some (.ref 45), some (.int (nI u)), some (.int (nI z)), none, none, none, none], [.int (w.1 57 cf)], w) _
  rw [hfc.1]
  refine xQ.go 3 (F1 := (32, [some (.ref 45), some (.int (nI u)), some (.int (nI z)), some (.int (nI f.length)), some (.int 0), none, none], [], w)) rfl ?_
  refine xQ.loop (S := Unit) (fun k s => (32, [some (.ref 45), some (.int (nI u)), some (.int (nI z)), some (.int (nI f.length)), some (.int (nI k)), none, none], [], w)) (fun _ _ => True) A.length () (rfl) (trivial) ?_ ?_
  · intro k s hk hI K
    have hfk : f[k]? = some (f.getD k 0) := getD_of (by omega) 0
    have hne : f.getD k 0 ≠ u := fun e => by
      refine huA ?_
      have h1 : A[k]? = some u := by
        rw [← e, ← hfk, hf, List.getElem?_append_left hk]
      exact List.mem_of_getElem? h1
    have hv := hfv _ (List.mem_of_getElem? hfk)
    refine xQ.go 8 (F1 := (46, [some (.ref 45), some (.int (nI u)), some (.int (nI z)), some (.int (nI f.length)), some (.int (nI k)), none, none], [.int ((10 * (w.1 45 27)) + (nI k)), .ref 58], w)) rfl ?_
    rw [h27, show (10 : Int32) = nI 10 from rfl, jI_mul, jI_add]
    refine xQ.iald rfl (k := (10 * cf + k)) (rfl) (⟨by omega, by omega⟩) rfl ?_
    show xQ MX8_placePath (47, [some (.ref 45), some (.int (nI u)), some (.int (nI z)), some (.int (nI f.length)), some (.int (nI k)), none, none], [.int (w.1 58 (10 * cf + k))], w) _
    rw [hfc.2 k _ hfk]
    refine xQ.go 2 (F1 := (bif decide ((nI (f.getD k 0)) = (nI u)) then 57 else 51, [some (.ref 45), some (.int (nI u)), some (.int (nI z)), some (.int (nI f.length)), some (.int (nI k)), none, none], [], w)) rfl ?_
    refine xQ.brF (by rw [nI_dec (by omega) (by omega)]; exact decide_eq_false hne) ?_
    refine xQ.go 2 (F1 := (32, [some (.ref 45), some (.int (nI u)), some (.int (nI z)), some (.int (nI f.length)), some (.int ((nI k) + 1)), none, none], [], w)) rfl ?_
    rw [← nI_succ]
    exact K () trivial
  · intro s hI
    refine xQ.go 8 (F1 := (46, [some (.ref 45), some (.int (nI u)), some (.int (nI z)), some (.int (nI f.length)), some (.int (nI A.length)), none, none], [.int ((10 * (w.1 45 27)) + (nI A.length)), .ref 58], w)) rfl ?_
    rw [h27, show (10 : Int32) = nI 10 from rfl, jI_mul, jI_add]
    refine xQ.iald rfl (k := (10 * cf + A.length)) (rfl) (⟨by omega, by omega⟩) rfl ?_
    show xQ MX8_placePath (47, [some (.ref 45), some (.int (nI u)), some (.int (nI z)), some (.int (nI f.length)), some (.int (nI A.length)), none, none], [.int (w.1 58 (10 * cf + A.length))], w) _
    rw [hfc.2 _ _ hfA]
    refine xQ.go 2 (F1 := (bif decide ((nI u) = (nI u)) then 57 else 51, [some (.ref 45), some (.int (nI u)), some (.int (nI z)), some (.int (nI f.length)), some (.int (nI A.length)), none, none], [], w)) rfl ?_
    refine xQ.brT (decide_eq_true rfl) ?_
    refine xQ.go 2 (F1 := (60, [some (.ref 45), some (.int (nI u)), some (.int (nI z)), some (.int (nI f.length)), some (.int (nI A.length)), some (.int 0), none], [], w)) rfl ?_
    refine xQ.loop (S := xW) (fun k s => (60, [some (.ref 45), some (.int (nI u)), some (.int (nI z)), some (.int (nI f.length)), some (.int (nI A.length)), some (.int (nI k)), none], [], s)) (fun k t => (∀ j, j < k → t.1 63 j = nI (R.getD j 0)) ∧ xkq [(63, none)] w t) f.length w (rfl) (⟨(fun j hj => absurd hj (by omega)), xkq_rfl⟩) ?_ ?_
    · intro k t hk hI K
      obtain ⟨i1, i2⟩ := hI
      have hm := Nat.mod_lt (A.length + k) (show 0 < f.length by omega)
      refine xQ.go 3 (F1 := (bif decide ((nI f.length) ≤ (nI k)) then 99 else 66, [some (.ref 45), some (.int (nI u)), some (.int (nI z)), some (.int (nI f.length)), some (.int (nI A.length)), some (.int (nI k)), none], [], t)) rfl ?_
      refine xQ.brF (decide_eq_false (nI_ge hk (by omega))) ?_
      refine xQ.go 13 (F1 := (89, [some (.ref 45), some (.int (nI u)), some (.int (nI z)), some (.int (nI f.length)), some (.int (nI A.length)), some (.int (nI k)), none], [.int (nI f.length), .int ((nI A.length) + (nI k)), .int (10 * (t.1 45 27)), .ref 58, .int (nI k), .ref 63], t)) rfl ?_
      refine xQ.irem rfl (nI_ne0 (by omega) (by omega)) (show nI A.length + nI k - (nI A.length + nI k) / nI f.length * nI f.length = nI ((A.length + k) % f.length) by rw [jI_add]; exact rem_all _ (by omega) (by omega) _ (by omega)) ?_
      show xQ MX8_placePath (90, [some (.ref 45), some (.int (nI u)), some (.int (nI z)), some (.int (nI f.length)), some (.int (nI A.length)), some (.int (nI k)), none], [.int (nI ((A.length + k) % f.length)), .int (10 * (t.1 45 27)), .ref 58, .int (nI k), .ref 63], t) _
      refine xQ.go 1 (F1 := (91, [some (.ref 45), some (.int (nI u)), some (.int (nI z)), some (.int (nI f.length)), some (.int (nI A.length)), some (.int (nI k)), none], [.int ((10 * (t.1 45 27)) + (nI ((A.length + k) % f.length))), .ref 58, .int (nI k), .ref 63], t)) rfl ?_
      rw [xkq_at i2 45 27, h27, show (10 : Int32) = nI 10 from rfl, jI_mul, jI_add]
      refine xQ.iald rfl (k := (10 * cf + (A.length + k) % f.length)) (rfl) (⟨by omega, by omega⟩) rfl ?_
      show xQ MX8_placePath (92, [some (.ref 45), some (.int (nI u)), some (.int (nI z)), some (.int (nI f.length)), some (.int (nI A.length)), some (.int (nI k)), none], [.int (t.1 58 (10 * cf + (A.length + k) % f.length)), .int (nI k), .ref 63], t) _
      rw [(fc1_kq hfc i2).2 _ _ (hRf k hk)]
      refine xQ.iast rfl (k := k) (rfl) (⟨by omega, by omega⟩) rfl ?_
      show xQ MX8_placePath (93, [some (.ref 45), some (.int (nI u)), some (.int (nI z)), some (.int (nI f.length)), some (.int (nI A.length)), some (.int (nI k)), none], [], (xuI t 63 k (nI (R.getD k 0)))) _
      refine xQ.go 2 (F1 := (60, [some (.ref 45), some (.int (nI u)), some (.int (nI z)), some (.int (nI f.length)), some (.int (nI A.length)), some (.int ((nI k) + 1)), none], [], (xuI t 63 k (nI (R.getD k 0))))) rfl ?_
      rw [← nI_succ]
      refine K _ ⟨fun j hj => ?_, xkq_I i2 rfl⟩
      rw [uI1]
      by_cases e : j = k
      · rw [if_pos ⟨rfl, e⟩, e]
      · rw [if_neg (fun h => e h.2)]
        exact i1 j (by omega)
    · intro t hI
      obtain ⟨i1, i2⟩ := hI
      refine xQ.go 3 (F1 := (bif decide ((nI f.length) ≤ (nI f.length)) then 99 else 66, [some (.ref 45), some (.int (nI u)), some (.int (nI z)), some (.int (nI f.length)), some (.int (nI A.length)), some (.int (nI f.length)), none], [], t)) rfl ?_
      refine xQ.brT (decide_eq_true (Int32.le_refl _)) ?_
      refine xQ.go 4 (F1 := (107, [some (.ref 45), some (.int (nI u)), some (.int (nI z)), some (.int (nI f.length)), some (.int (nI A.length)), some (.int (nI f.length)), none], [.int (t.1 45 27), .ref 57], t)) rfl ?_
      rw [xkq_at i2 45 27, h27]
      refine xQ.go 1 (F1 := (108, [some (.ref 45), some (.int (nI u)), some (.int (nI z)), some (.int (nI f.length)), some (.int (nI A.length)), some (.int (nI f.length)), none], [.int 0, .int (nI cf), .ref 57], t)) rfl ?_
      refine xQ.iast rfl (k := cf) (rfl) (⟨by omega, by omega⟩) rfl ?_
      show xQ MX8_placePath (109, [some (.ref 45), some (.int (nI u)), some (.int (nI z)), some (.int (nI f.length)), some (.int (nI A.length)), some (.int (nI f.length)), none], [], (xuI t 57 cf 0)) _
      refine xQ.go 4 (F1 := (117, [some (.ref 45), some (.int (nI u)), some (.int (nI z)), some (.int (nI f.length)), some (.int (nI A.length)), some (.int (nI f.length)), none], [.int (t.1 45 21), .ref 57], (xuI t 57 cf 0))) rfl ?_
      rw [xkq_at i2 45 21, hL.1]
      refine xQ.go 1 (F1 := (118, [some (.ref 45), some (.int (nI u)), some (.int (nI z)), some (.int (nI f.length)), some (.int (nI A.length)), some (.int (nI f.length)), none], [.int 0, .int (nI L.length), .ref 57], (xuI t 57 cf 0))) rfl ?_
      refine xQ.iast rfl (k := L.length) (rfl) (⟨by omega, by omega⟩) rfl ?_
      show xQ MX8_placePath (119, [some (.ref 45), some (.int (nI u)), some (.int (nI z)), some (.int (nI f.length)), some (.int (nI A.length)), some (.int (nI f.length)), none], [], (xuI (xuI t 57 cf 0) 57 L.length 0)) _
      obtain ⟨t2, et⟩ : ∃ t2, t2 = (xuI (xuI t 57 cf 0) 57 L.length 0) := ⟨_, rfl⟩
      have k2 : xkq [(57, none)] t t2 := by rw [et]; exact xkq_I (xkq_I xkq_rfl rfl) rfl
      have kw2 : xkq [(57, none), (63, none)] w t2 := xkq_trans (xkq_mono rfl i2) (xkq_mono rfl k2)
      have c1 : fc1 t2 cf [] := ⟨by rw [et, uI1, if_neg (by omega), uI1, if_pos ⟨rfl, rfl⟩]; rfl, fun k x h => by cases h⟩
      have c2 : fc1 t2 L.length [] := ⟨by rw [et, uI1, if_pos ⟨rfl, rfl⟩]; rfl, fun k x h => by cases h⟩
      have c3 : ∀ j c, j ≠ cf → L[j]? = some c → fc1 t2 j c := fun j c hj hc => by
        have hjl := (List.getElem?_eq_some_iff.mp hc).1
        have h := fc1_kq (hL.2 j c hc) i2
        exact ⟨by rw [et, uI1, if_neg (by omega), uI1, if_neg (fun h => hj h.2)]; exact h.1, fun k x hk => by rw [et, uI1, if_neg (by omega), uI1, if_neg (by omega)]; exact h.2 k x hk⟩
      have c4 : ∀ j, j < f.length → t2.1 63 j = nI (R.getD j 0) := fun j hj => (xkq_at k2 63 j).trans (i1 j hj)
      rw [← et]
      refine xQ.go 2 (F1 := (122, [some (.ref 45), some (.int (nI u)), some (.int (nI z)), some (.int (nI f.length)), some (.int (nI A.length)), some (.int 0), none], [], t2)) rfl ?_
      refine xQ.loop (S := xW) (fun k s => (122, [some (.ref 45), some (.int (nI u)), some (.int (nI z)), some (.int (nI f.length)), some (.int (nI A.length)), some (.int (nI k)), none], [], s)) (fun k s => fc1 s cf (R.take k) ∧ fc1 s L.length [] ∧ (∀ j c, j ≠ cf → L[j]? = some c → fc1 s j c) ∧ xkq [(57, none), (58, none)] t2 s) (xs.length + 1) t2 (rfl) (⟨c1, c2, c3, xkq_rfl⟩) ?_ ?_
      · intro k t3 hk hI K
        obtain ⟨j1, j2, j3, j4⟩ := hI
        have hv := hRv k (by omega)
        refine xQ.go 3 (F1 := (128, [some (.ref 45), some (.int (nI u)), some (.int (nI z)), some (.int (nI f.length)), some (.int (nI A.length)), some (.int (nI k)), none], [.int (nI k), .ref 63], t3)) rfl ?_
        refine xQ.iald rfl (k := k) (rfl) (⟨by omega, by omega⟩) rfl ?_
        show xQ MX8_placePath (129, [some (.ref 45), some (.int (nI u)), some (.int (nI z)), some (.int (nI f.length)), some (.int (nI A.length)), some (.int (nI k)), none], [.int (t3.1 63 k)], t3) _
        rw [xkq_at j4 63 k, c4 k (by omega)]
        refine xQ.go 2 (F1 := (bif decide ((nI (R.getD k 0)) = (nI z)) then 154 else 133, [some (.ref 45), some (.int (nI u)), some (.int (nI z)), some (.int (nI f.length)), some (.int (nI A.length)), some (.int (nI k)), none], [], t3)) rfl ?_
        refine xQ.brF (by rw [nI_dec (by omega) (by omega)]; exact decide_eq_false (hRne k hk)) ?_
        refine xQ.go 3 (F1 := (138, [some (.ref 45), some (.int (nI u)), some (.int (nI z)), some (.int (nI f.length)), some (.int (nI A.length)), some (.int (nI k)), none], [.int (t3.1 45 27), .ref 45], t3)) rfl ?_
        rw [xkq_at j4 45 27, xkq_at kw2 45 27, h27]
        refine xQ.go 3 (F1 := (144, [some (.ref 45), some (.int (nI u)), some (.int (nI z)), some (.int (nI f.length)), some (.int (nI A.length)), some (.int (nI k)), none], [.int (nI k), .ref 63, .int (nI cf), .ref 45], t3)) rfl ?_
        refine xQ.iald rfl (k := k) (rfl) (⟨by omega, by omega⟩) rfl ?_
        show xQ MX8_placePath (145, [some (.ref 45), some (.int (nI u)), some (.int (nI z)), some (.int (nI f.length)), some (.int (nI A.length)), some (.int (nI k)), none], [.int (t3.1 63 k), .int (nI cf), .ref 45], t3) _
        rw [xkq_at j4 63 k, c4 k (by omega)]
        have htl : (R.take k).length < 10 := by rw [List.length_take]; omega
        obtain ⟨r5, s5, hc5, hr5, f5, fo5, k5⟩ := m_addF (w := t3) (i := cf) (x := R.getD k 0) j1 (by omega) htl
        subst hr5
        refine xQ.call rfl (hc5) ?_
        show xQ MX8_placePath (148, [some (.ref 45), some (.int (nI u)), some (.int (nI z)), some (.int (nI f.length)), some (.int (nI A.length)), some (.int (nI k)), none], [], s5) _
        refine xQ.go 2 (F1 := (122, [some (.ref 45), some (.int (nI u)), some (.int (nI z)), some (.int (nI f.length)), some (.int (nI A.length)), some (.int ((nI k) + 1)), none], [], s5)) rfl ?_
        rw [← nI_succ]
        have htk : R.take (k + 1) = R.take k ++ [R.getD k 0] := by
          rw [List.take_add_one, getD_of (show k < R.length by omega) 0]
          rfl
        rw [htk] at K
        refine K s5 ⟨f5, fo5 _ _ (by omega) (by simp) j2, fun j c hj hc => fo5 j c hj ?_ (j3 j c hj hc), xkq_trans j4 k5⟩
        exact (hS.2 c (List.mem_of_getElem? hc)).1
      · intro t3 hI
        obtain ⟨j1, j2, j3, j4⟩ := hI
        rw [hRt] at j1
        refine xQ.go 3 (F1 := (128, [some (.ref 45), some (.int (nI u)), some (.int (nI z)), some (.int (nI f.length)), some (.int (nI A.length)), some (.int (nI (xs.length + 1))), none], [.int (nI (xs.length + 1)), .ref 63], t3)) rfl ?_
        refine xQ.iald rfl (k := (xs.length + 1)) (rfl) (⟨by omega, by omega⟩) rfl ?_
        show xQ MX8_placePath (129, [some (.ref 45), some (.int (nI u)), some (.int (nI z)), some (.int (nI f.length)), some (.int (nI A.length)), some (.int (nI (xs.length + 1))), none], [.int (t3.1 63 (xs.length + 1))], t3) _
        rw [xkq_at j4 63 _, c4 _ (by omega), hRz]
        refine xQ.go 2 (F1 := (bif decide ((nI z) = (nI z)) then 154 else 133, [some (.ref 45), some (.int (nI u)), some (.int (nI z)), some (.int (nI f.length)), some (.int (nI A.length)), some (.int (nI (xs.length + 1))), none], [], t3)) rfl ?_
        refine xQ.brT (decide_eq_true rfl) ?_
        refine xQ.go 2 (F1 := (158, [some (.ref 45), some (.int (nI u)), some (.int (nI z)), some (.int (nI f.length)), some (.int (nI A.length)), some (.int (nI (xs.length + 1))), none], [.int (t3.1 45 29)], t3)) rfl ?_
        have hpc2 : ∀ s, xkq [(45, some 19), (45, some 20), (56, none), (57, none), (58, none), (63, none)] w s → s.1 45 29 = nI p.length ∧ ∀ k, k < p.length → s.1 61 k = nI (p.getD k 0) := fun s hk => ⟨(xkq_at hk 45 29).trans hp.1, fun k hk2 => (xkq_at hk 61 k).trans (hpc k hk2)⟩
        have kw3 : xkq [(57, none), (58, none), (63, none)] w t3 := xkq_trans (xkq_mono rfl kw2) (xkq_mono rfl j4)
        rw [(hpc2 t3 (xkq_mono rfl kw3)).1, hpl]
        refine xQ.go 2 (F1 := (160, [some (.ref 45), some (.int (nI u)), some (.int (nI z)), some (.int (nI f.length)), some (.int (nI A.length)), some (.int (nI (xs.length + 1))), none], [.int ((nI (inn.length + 2)) - 1)], t3)) rfl ?_
        rw [show (nI (inn.length + 2) - 1 : Int32) = nI (inn.length + 1) from nI_pred _]
        refine xQ.go 1 (F1 := (162, [some (.ref 45), some (.int (nI u)), some (.int (nI z)), some (.int (nI f.length)), some (.int (nI A.length)), some (.int (nI (xs.length + 1))), some (.int (nI (inn.length + 1)))], [], t3)) rfl ?_
        refine xQ.loop (S := xW) (fun k s => (162, [some (.ref 45), some (.int (nI u)), some (.int (nI z)), some (.int (nI f.length)), some (.int (nI A.length)), some (.int (nI (xs.length + 1))), some (.int (nI (inn.length + 1 - k)))], [], s)) (fun k s => fc1 s cf (u :: xs ++ p.reverse.take k) ∧ fc1 s L.length [] ∧ (∀ j c, j ≠ cf → L[j]? = some c → fc1 s j c) ∧ xkq [(57, none), (58, none)] t3 s) (inn.length + 1) t3 (rfl) (⟨by rw [List.take_zero, List.append_nil]; exact j1, j2, j3, xkq_rfl⟩) ?_ ?_
        · intro k t4 hk hI K
          obtain ⟨q1, q2, q3, q4⟩ := hI
          have kw4 : xkq [(57, none), (58, none), (63, none)] w t4 := xkq_trans kw3 (xkq_mono rfl q4)
          refine xQ.go 2 (F1 := (bif decide ((nI (inn.length + 1 - k)) ≤ 0) then 188 else 167, [some (.ref 45), some (.int (nI u)), some (.int (nI z)), some (.int (nI f.length)), some (.int (nI A.length)), some (.int (nI (xs.length + 1))), some (.int (nI (inn.length + 1 - k)))], [], t4)) rfl ?_
          refine xQ.brF (decide_eq_false (nI_nle (by omega) (by omega))) ?_
          refine xQ.go 3 (F1 := (172, [some (.ref 45), some (.int (nI u)), some (.int (nI z)), some (.int (nI f.length)), some (.int (nI A.length)), some (.int (nI (xs.length + 1))), some (.int (nI (inn.length + 1 - k)))], [.int (t4.1 45 27), .ref 45], t4)) rfl ?_
          rw [xkq_at kw4 45 27, h27]
          refine xQ.go 3 (F1 := (178, [some (.ref 45), some (.int (nI u)), some (.int (nI z)), some (.int (nI f.length)), some (.int (nI A.length)), some (.int (nI (xs.length + 1))), some (.int (nI (inn.length + 1 - k)))], [.int (nI (inn.length + 1 - k)), .ref 61, .int (nI cf), .ref 45], t4)) rfl ?_
          refine xQ.iald rfl (k := (inn.length + 1 - k)) (rfl) (⟨by omega, by omega⟩) rfl ?_
          show xQ MX8_placePath (179, [some (.ref 45), some (.int (nI u)), some (.int (nI z)), some (.int (nI f.length)), some (.int (nI A.length)), some (.int (nI (xs.length + 1))), some (.int (nI (inn.length + 1 - k)))], [.int (t4.1 61 (inn.length + 1 - k)), .int (nI cf), .ref 45], t4) _
          rw [(hpc2 t4 (xkq_mono rfl kw4)).2 _ (by omega)]
          have htl : (u :: xs ++ p.reverse.take k).length < 10 := by
            rw [List.length_append, List.length_cons, List.length_take]
            omega
          obtain ⟨r5, s5, hc5, hr5, f5, fo5, k5⟩ := m_addF (w := t4) (i := cf) (x := p.getD (inn.length + 1 - k) 0) q1 (by omega) htl
          subst hr5
          refine xQ.call rfl (hc5) ?_
          show xQ MX8_placePath (182, [some (.ref 45), some (.int (nI u)), some (.int (nI z)), some (.int (nI f.length)), some (.int (nI A.length)), some (.int (nI (xs.length + 1))), some (.int (nI (inn.length + 1 - k)))], [], s5) _
          refine xQ.go 2 (F1 := (162, [some (.ref 45), some (.int (nI u)), some (.int (nI z)), some (.int (nI f.length)), some (.int (nI A.length)), some (.int (nI (xs.length + 1))), some (.int ((nI (inn.length + 1 - k)) + (-1)))], [], s5)) rfl ?_
          have hdn : nI (inn.length + 1 - k) + -1 = nI (inn.length + 1 - (k + 1)) := by
            rw [show inn.length + 1 - k = (inn.length + 1 - (k + 1)) + 1 by omega, nI_succ, Int32.add_assoc]
            rw [show (1 : Int32) + -1 = 0 by decide, Int32.add_zero]
          rw [hdn]
          have htk : u :: xs ++ p.reverse.take (k + 1) = u :: xs ++ p.reverse.take k ++ [p.getD (inn.length + 1 - k) 0] := by
            rw [List.take_add_one, List.getElem?_reverse (by omega), show p.length - 1 - k = inn.length + 1 - k by omega, getD_of (show inn.length + 1 - k < p.length by omega) 0, List.append_assoc]
            rfl
          rw [htk] at K
          refine K s5 ⟨f5, fo5 _ _ (by omega) (by simp) q2, fun j c hj hc => fo5 j c hj ?_ (q3 j c hj hc), xkq_trans q4 k5⟩
          exact (hS.2 c (List.mem_of_getElem? hc)).1
        · intro t4 hI
          obtain ⟨q1, q2, q3, q4⟩ := hI
          rw [hprev] at q1
          have kw4 : xkq [(57, none), (58, none), (63, none)] w t4 := xkq_trans kw3 (xkq_mono rfl q4)
          rw [Nat.sub_self]
          refine xQ.go 2 (F1 := (bif decide ((nI 0) ≤ 0) then 188 else 167, [some (.ref 45), some (.int (nI u)), some (.int (nI z)), some (.int (nI f.length)), some (.int (nI A.length)), some (.int (nI (xs.length + 1))), some (.int (nI 0))], [], t4)) rfl ?_
          refine xQ.brT (rfl) ?_
          refine xQ.less [some (.ref 45), some (.int (nI u)), some (.int (nI z)), some (.int (nI f.length)), some (.int (nI A.length)), some (.int (nI (xs.length + 1))), none] (by simp [xleb]) ?_
          have c44 : ∀ j, j < f.length → t4.1 63 j = nI (R.getD j 0) := fun j hj => (xkq_at q4 63 j).trans ((xkq_at j4 63 j).trans (c4 j hj))
          refine xQ.loop (S := xW) (fun k s => (188, [some (.ref 45), some (.int (nI u)), some (.int (nI z)), some (.int (nI f.length)), some (.int (nI A.length)), some (.int (nI (xs.length + 1 + k))), none], [], s)) (fun k s => fc1 s L.length ((z :: ys).take k) ∧ fc1 s cf (u :: xs ++ z :: inn.reverse) ∧ (∀ j c, j ≠ cf → L[j]? = some c → fc1 s j c) ∧ xkq [(57, none), (58, none)] t4 s) (f.length - (xs.length + 1)) t4 (rfl) (⟨q2, q1, q3, xkq_rfl⟩) ?_ ?_
          · intro k t5 hk hI K
            obtain ⟨n1, n2, n3, n4⟩ := hI
            refine xQ.go 3 (F1 := (bif decide ((nI f.length) ≤ (nI (xs.length + 1 + k))) then 215 else 194, [some (.ref 45), some (.int (nI u)), some (.int (nI z)), some (.int (nI f.length)), some (.int (nI A.length)), some (.int (nI (xs.length + 1 + k))), none], [], t5)) rfl ?_
            refine xQ.brF (decide_eq_false (nI_ge (by omega) (by omega))) ?_
            refine xQ.go 3 (F1 := (199, [some (.ref 45), some (.int (nI u)), some (.int (nI z)), some (.int (nI f.length)), some (.int (nI A.length)), some (.int (nI (xs.length + 1 + k))), none], [.int (t5.1 45 21), .ref 45], t5)) rfl ?_
            rw [xkq_at n4 45 21, xkq_at kw4 45 21, hL.1]
            refine xQ.go 3 (F1 := (205, [some (.ref 45), some (.int (nI u)), some (.int (nI z)), some (.int (nI f.length)), some (.int (nI A.length)), some (.int (nI (xs.length + 1 + k))), none], [.int (nI (xs.length + 1 + k)), .ref 63, .int (nI L.length), .ref 45], t5)) rfl ?_
            refine xQ.iald rfl (k := (xs.length + 1 + k)) (rfl) (⟨by omega, by omega⟩) rfl ?_
            show xQ MX8_placePath (206, [some (.ref 45), some (.int (nI u)), some (.int (nI z)), some (.int (nI f.length)), some (.int (nI A.length)), some (.int (nI (xs.length + 1 + k))), none], [.int (t5.1 63 (xs.length + 1 + k)), .int (nI L.length), .ref 45], t5) _
            rw [xkq_at n4 63 _, c44 _ (by omega)]
            have hyk : (z :: ys)[k]? = some (R.getD (xs.length + 1 + k) 0) := by
              rw [← hRd, List.getElem?_drop]
              exact getD_of (by omega) 0
            have hylen : (z :: ys).length = f.length - (xs.length + 1) := by rw [← hRd, List.length_drop, hRl]
            have htl : ((z :: ys).take k).length < 10 := by rw [List.length_take]; omega
            obtain ⟨r5, s5, hc5, hr5, f5, fo5, k5⟩ := m_addF (w := t5) (i := L.length) (x := R.getD (xs.length + 1 + k) 0) n1 (by omega) htl
            subst hr5
            refine xQ.call rfl (hc5) ?_
            show xQ MX8_placePath (209, [some (.ref 45), some (.int (nI u)), some (.int (nI z)), some (.int (nI f.length)), some (.int (nI A.length)), some (.int (nI (xs.length + 1 + k))), none], [], s5) _
            refine xQ.go 2 (F1 := (188, [some (.ref 45), some (.int (nI u)), some (.int (nI z)), some (.int (nI f.length)), some (.int (nI A.length)), some (.int ((nI (xs.length + 1 + k)) + 1)), none], [], s5)) rfl ?_
            rw [← nI_succ]
            have htk : (z :: ys).take (k + 1) = (z :: ys).take k ++ [R.getD (xs.length + 1 + k) 0] := by
              rw [List.take_add_one, hyk]
              rfl
            rw [htk] at K
            refine K s5 ⟨f5, fo5 _ _ (by omega) hn1 n2, fun j c hj hc => fo5 j c ?_ ?_ (n3 j c hj hc), xkq_trans n4 k5⟩
            · have := (List.getElem?_eq_some_iff.mp hc).1
              omega
            · exact (hS.2 c (List.mem_of_getElem? hc)).1
          · intro t5 hI
            obtain ⟨n1, n2, n3, n4⟩ := hI
            rw [List.take_of_length_le (by rw [← hRd, List.length_drop, hRl]; omega)] at n1
            have kw5 : xkq [(57, none), (58, none), (63, none)] w t5 := xkq_trans kw4 (xkq_mono rfl n4)
            rw [show xs.length + 1 + (f.length - (xs.length + 1)) = f.length by omega]
            refine xQ.go 3 (F1 := (bif decide ((nI f.length) ≤ (nI f.length)) then 215 else 194, [some (.ref 45), some (.int (nI u)), some (.int (nI z)), some (.int (nI f.length)), some (.int (nI A.length)), some (.int (nI f.length)), none], [], t5)) rfl ?_
            refine xQ.brT (decide_eq_true (Int32.le_refl _)) ?_
            refine xQ.go 2 (F1 := (218, [some (.ref 45), some (.int (nI u)), some (.int (nI z)), some (.int (nI f.length)), some (.int (nI A.length)), some (.int (nI f.length)), some (.int 0)], [], t5)) rfl ?_
            have hP5 := pM_kq hP kw5
            refine xQ.loop (S := xW) (fun k s => (218, [some (.ref 45), some (.int (nI u)), some (.int (nI z)), some (.int (nI f.length)), some (.int (nI A.length)), some (.int (nI f.length)), some (.int (nI k))], [], s)) (fun k s => fc1 s L.length (z :: ys ++ p.take k) ∧ fc1 s cf (u :: xs ++ z :: inn.reverse) ∧ (∀ j c, j ≠ cf → L[j]? = some c → fc1 s j c) ∧ pM s (pE p P k) (vE p PV k) (E + k) ∧ xkq [(45, some 19), (45, some 20), (56, none), (57, none), (58, none)] t5 s) (inn.length + 1) t5 (rfl) (⟨by rw [List.take_zero, List.append_nil]; exact n1, n2, n3, hP5, xkq_rfl⟩) ?_ ?_
            · intro k t6 hk hI K
              obtain ⟨v1, v2, v3, v4, v5⟩ := hI
              have kw6 : xkq [(45, some 19), (45, some 20), (56, none), (57, none), (58, none), (63, none)] w t6 := xkq_trans (xkq_mono rfl kw5) (xkq_mono rfl v5)
              refine xQ.go 5 (F1 := (226, [some (.ref 45), some (.int (nI u)), some (.int (nI z)), some (.int (nI f.length)), some (.int (nI A.length)), some (.int (nI f.length)), some (.int (nI k))], [.int ((t6.1 45 29) - 1), .int (nI k)], t6)) rfl ?_
              rw [(hpc2 t6 kw6).1, show (nI p.length - 1 : Int32) = nI (inn.length + 1) by rw [hpl]; exact nI_pred _]
              refine xQ.go 1 (F1 := (bif decide ((nI (inn.length + 1)) ≤ (nI k)) then 270 else 229, [some (.ref 45), some (.int (nI u)), some (.int (nI z)), some (.int (nI f.length)), some (.int (nI A.length)), some (.int (nI f.length)), some (.int (nI k))], [], t6)) rfl ?_
              refine xQ.brF (decide_eq_false (nI_ge hk (by omega))) ?_
              refine xQ.go 3 (F1 := (234, [some (.ref 45), some (.int (nI u)), some (.int (nI z)), some (.int (nI f.length)), some (.int (nI A.length)), some (.int (nI f.length)), some (.int (nI k))], [.int (t6.1 45 21), .ref 45], t6)) rfl ?_
              rw [xkq_at kw6 45 21, hL.1]
              refine xQ.go 3 (F1 := (240, [some (.ref 45), some (.int (nI u)), some (.int (nI z)), some (.int (nI f.length)), some (.int (nI A.length)), some (.int (nI f.length)), some (.int (nI k))], [.int (nI k), .ref 61, .int (nI L.length), .ref 45], t6)) rfl ?_
              refine xQ.iald rfl (k := k) (rfl) (⟨by omega, by omega⟩) rfl ?_
              show xQ MX8_placePath (241, [some (.ref 45), some (.int (nI u)), some (.int (nI z)), some (.int (nI f.length)), some (.int (nI A.length)), some (.int (nI f.length)), some (.int (nI k))], [.int (t6.1 61 k), .int (nI L.length), .ref 45], t6) _
              rw [(hpc2 t6 kw6).2 k (by omega)]
              have htl : (z :: ys ++ p.take k).length < 10 := by
                rw [List.length_append, List.length_cons, List.length_take]
                omega
              obtain ⟨r5, s5, hc5, hr5, f5, fo5, k5⟩ := m_addF (w := t6) (i := L.length) (x := p.getD k 0) v1 (by omega) htl
              subst hr5
              refine xQ.call rfl (hc5) ?_
              show xQ MX8_placePath (244, [some (.ref 45), some (.int (nI u)), some (.int (nI z)), some (.int (nI f.length)), some (.int (nI A.length)), some (.int (nI f.length)), some (.int (nI k))], [], s5) _
              have kws5 : xkq [(45, some 19), (45, some 20), (56, none), (57, none), (58, none), (63, none)] w s5 := xkq_trans kw6 (xkq_mono rfl k5)
              refine xQ.go 4 (F1 := (251, [some (.ref 45), some (.int (nI u)), some (.int (nI z)), some (.int (nI f.length)), some (.int (nI A.length)), some (.int (nI f.length)), some (.int (nI k))], [.int (nI k), .ref 61, .ref 45], s5)) rfl ?_
              refine xQ.iald rfl (k := k) (rfl) (⟨by omega, by omega⟩) rfl ?_
              show xQ MX8_placePath (252, [some (.ref 45), some (.int (nI u)), some (.int (nI z)), some (.int (nI f.length)), some (.int (nI A.length)), some (.int (nI f.length)), some (.int (nI k))], [.int (s5.1 61 k), .ref 45], s5) _
              rw [(hpc2 s5 kws5).2 k (by omega)]
              refine xQ.go 5 (F1 := (260, [some (.ref 45), some (.int (nI u)), some (.int (nI z)), some (.int (nI f.length)), some (.int (nI A.length)), some (.int (nI f.length)), some (.int (nI k))], [.int ((nI k) + 1), .ref 61, .int (nI (p.getD k 0)), .ref 45], s5)) rfl ?_
              rw [← nI_succ]
              refine xQ.iald rfl (k := (k + 1)) (rfl) (⟨by omega, by omega⟩) rfl ?_
              show xQ MX8_placePath (261, [some (.ref 45), some (.int (nI u)), some (.int (nI z)), some (.int (nI f.length)), some (.int (nI A.length)), some (.int (nI f.length)), some (.int (nI k))], [.int (s5.1 61 (k + 1)), .int (nI (p.getD k 0)), .ref 45], s5) _
              rw [(hpc2 s5 kws5).2 (k + 1) (by omega)]
              have hne : p.getD k 0 ≠ p.getD (k + 1) 0 := fun e => by
                have := nodup_ix hpn (getD_of (show k < p.length by omega) 0) (by rw [e]; exact getD_of (show k + 1 < p.length by omega) 0)
                omega
              obtain ⟨r6, s6, hc6, hr6, g1, g2⟩ := m_plE (w := s5) (pM_kq v4 k5) (hpv2 k (by omega)) (hpv2 (k + 1) (by omega)) hne
              subst hr6
              refine xQ.call rfl (hc6) ?_
              show xQ MX8_placePath (264, [some (.ref 45), some (.int (nI u)), some (.int (nI z)), some (.int (nI f.length)), some (.int (nI A.length)), some (.int (nI f.length)), some (.int (nI k))], [], s6) _
              refine xQ.go 2 (F1 := (218, [some (.ref 45), some (.int (nI u)), some (.int (nI z)), some (.int (nI f.length)), some (.int (nI A.length)), some (.int (nI f.length)), some (.int ((nI k) + 1))], [], s6)) rfl ?_
              rw [← nI_succ]
              have htk : z :: ys ++ p.take (k + 1) = z :: ys ++ p.take k ++ [p.getD k 0] := by
                rw [List.take_add_one, getD_of (show k < p.length by omega) 0, List.append_assoc]
                rfl
              rw [htk] at K
              refine K s6 ⟨fc1_kq f5 g2, fc1_kq (fo5 _ _ (by omega) hn1 v2) g2, fun j c hj hc => fc1_kq (fo5 j c ?_ ?_ (v3 j c hj hc)) g2, g1, xkq_trans v5 (xkq_trans (xkq_mono rfl k5) (xkq_mono rfl g2))⟩
              · have := (List.getElem?_eq_some_iff.mp hc).1
                omega
              · exact (hS.2 c (List.mem_of_getElem? hc)).1
            · intro t6 hI
              obtain ⟨v1, v2, v3, v4, v5⟩ := hI
              rw [hptake] at v1
              have kw6 : xkq [(45, some 19), (45, some 20), (56, none), (57, none), (58, none), (63, none)] w t6 := xkq_trans (xkq_mono rfl kw5) (xkq_mono rfl v5)
              refine xQ.go 5 (F1 := (226, [some (.ref 45), some (.int (nI u)), some (.int (nI z)), some (.int (nI f.length)), some (.int (nI A.length)), some (.int (nI f.length)), some (.int (nI (inn.length + 1)))], [.int ((t6.1 45 29) - 1), .int (nI (inn.length + 1))], t6)) rfl ?_
              rw [(hpc2 t6 kw6).1, show (nI p.length - 1 : Int32) = nI (inn.length + 1) by rw [hpl]; exact nI_pred _]
              refine xQ.go 1 (F1 := (bif decide ((nI (inn.length + 1)) ≤ (nI (inn.length + 1))) then 270 else 229, [some (.ref 45), some (.int (nI u)), some (.int (nI z)), some (.int (nI f.length)), some (.int (nI A.length)), some (.int (nI f.length)), some (.int (nI (inn.length + 1)))], [], t6)) rfl ?_
              refine xQ.brT (decide_eq_true (Int32.le_refl _)) ?_
              refine xQ.go 5 (F1 := (277, [some (.ref 45), some (.int (nI u)), some (.int (nI z)), some (.int (nI f.length)), some (.int (nI A.length)), some (.int (nI f.length)), some (.int (nI (inn.length + 1)))], [.int ((t6.1 45 21) + 1), .ref 45], t6)) rfl ?_
              rw [xkq_at kw6 45 21, hL.1, ← nI_succ]
              refine xQ.go 1 (F1 := (280, [some (.ref 45), some (.int (nI u)), some (.int (nI z)), some (.int (nI f.length)), some (.int (nI A.length)), some (.int (nI f.length)), some (.int (nI (inn.length + 1)))], [], (xuI t6 45 21 (nI (L.length + 1))))) rfl ?_
              refine xQ.vret 1 rfl rfl ?_
              have kf : xkq [(45, some 21)] t6 (xuI t6 45 21 (nI (L.length + 1))) := xkq_I xkq_rfl rfl
              refine ⟨rfl, pM_kq v4 kf, ⟨?_, fun j c hj => ?_⟩, xkq_trans (xkq_mono rfl kw6) (xkq_mono rfl kf)⟩
              · rw [uI1, if_pos ⟨rfl, rfl⟩, List.length_append, List.length_set]
                rfl
              · by_cases ej : j = L.length
                · have : c = z :: ys ++ u :: inn := by
                    rw [ej, List.getElem?_append_right (by rw [List.length_set]; omega), List.length_set, Nat.sub_self] at hj
                    exact (Option.some.inj hj).symm
                  rw [this, ej]
                  exact fc1_kq v1 kf
                · have hjl := (List.getElem?_eq_some_iff.mp hj).1
                  rw [List.length_append, List.length_set] at hjl
                  simp only [List.length_cons, List.length_nil] at hjl
                  rw [List.getElem?_append_left (by rw [List.length_set]; omega)] at hj
                  by_cases ec : j = cf
                  · rw [ec, List.getElem?_set_self (by omega)] at hj
                    rw [← Option.some.inj hj, ec]
                    exact fc1_kq v2 kf
                  · rw [List.getElem?_set_ne (fun h => ec h.symm)] at hj
                    exact fc1_kq (v3 j c ec hj) kf
