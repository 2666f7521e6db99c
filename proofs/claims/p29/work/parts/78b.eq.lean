/-! a least graph without a weak family is K33 or K5 but for vertices on its edges -/
theorem P33_ok : PRok 6 P33 := by unfold PRok P33; decide +kernel
theorem P5_ok : PRok 5 P5 := by unfold PRok P5; decide +kernel
theorem k33_min : ∀ b0 b1 b2 b3 b4 b5 b6 b7 b8 : Bool, (∀ i, i < 6 → xs (fun t => [b0, b1, b2, b3, b4, b5, b6, b7, b8].getD t false && inc P33 t i) 9 = false) → (∀ t, t < 9 → [b0, b1, b2, b3, b4, b5, b6, b7, b8].getD t false = false) ∨ 4 ≤ cnt (fun t => [b0, b1, b2, b3, b4, b5, b6, b7, b8].getD t false) 9 := by decide +kernel
theorem k5_min : ∀ b0 b1 b2 b3 b4 b5 b6 b7 b8 b9 : Bool, (∀ i, i < 5 → xs (fun t => [b0, b1, b2, b3, b4, b5, b6, b7, b8, b9].getD t false && inc P5 t i) 10 = false) → (∀ t, t < 10 → [b0, b1, b2, b3, b4, b5, b6, b7, b8, b9].getD t false = false) ∨ 3 ≤ cnt (fun t => [b0, b1, b2, b3, b4, b5, b6, b7, b8, b9].getD t false) 10 := by decide +kernel
theorem list9 (be : Nat → Bool) : ∀ t, t < 9 → [be 0, be 1, be 2, be 3, be 4, be 5, be 6, be 7, be 8].getD t false = be t := fun t ht => by
  match t, ht with
  | 0, _ => rfl
  | 1, _ => rfl
  | 2, _ => rfl
  | 3, _ => rfl
  | 4, _ => rfl
  | 5, _ => rfl
  | 6, _ => rfl
  | 7, _ => rfl
  | 8, _ => rfl
  | t + 9, h => omega
theorem list10 (be : Nat → Bool) : ∀ t, t < 10 → [be 0, be 1, be 2, be 3, be 4, be 5, be 6, be 7, be 8, be 9].getD t false = be t := fun t ht => by
  match t, ht with
  | 0, _ => rfl
  | 1, _ => rfl
  | 2, _ => rfl
  | 3, _ => rfl
  | 4, _ => rfl
  | 5, _ => rfl
  | 6, _ => rfl
  | 7, _ => rfl
  | 8, _ => rfl
  | 9, _ => rfl
  | t + 10, h => omega
theorem min33 (be : Nat → Bool) (h : ∀ i, i < 6 → xs (fun t => be t && inc P33 t i) P33.length = false) : (∀ t, t < P33.length → be t = false) ∨ 4 ≤ cnt be P33.length := by
  have hl : P33.length = 9 := rfl
  rw [hl] at h ⊢
  have := k33_min (be 0) (be 1) (be 2) (be 3) (be 4) (be 5) (be 6) (be 7) (be 8) (fun i hi => by
    refine (xs_ext fun t ht => ?_).trans (h i hi)
    rw [list9 be t ht])
  rcases this with g | g
  · exact Or.inl fun t ht => by rw [← list9 be t ht]; exact g t ht
  · exact Or.inr (by rw [cnt_ext (fun t ht => list9 be t ht)] at g; exact g)
theorem min5 (be : Nat → Bool) (h : ∀ i, i < 5 → xs (fun t => be t && inc P5 t i) P5.length = false) : (∀ t, t < P5.length → be t = false) ∨ 3 ≤ cnt be P5.length := by
  have hl : P5.length = 10 := rfl
  rw [hl] at h ⊢
  have := k5_min (be 0) (be 1) (be 2) (be 3) (be 4) (be 5) (be 6) (be 7) (be 8) (be 9) (fun i hi => by
    refine (xs_ext fun t ht => ?_).trans (h i hi)
    rw [list10 be t ht])
  rcases this with g | g
  · exact Or.inl fun t ht => by rw [← list10 be t ht]; exact g t ht
  · exact Or.inr (by rw [cnt_ext (fun t ht => list10 be t ht)] at g; exact g)
def v33 (k t : Nat) : Bool := [((k.testBit 0 ^^ k.testBit 1) ^^ (k.testBit 2 ^^ k.testBit 3)), (k.testBit 0 ^^ k.testBit 2), (k.testBit 1 ^^ k.testBit 3), (k.testBit 0 ^^ k.testBit 1), k.testBit 0, k.testBit 1, (k.testBit 2 ^^ k.testBit 3), k.testBit 2, k.testBit 3].getD t false
def v5 (k t : Nat) : Bool := [((k.testBit 0 ^^ k.testBit 1) ^^ k.testBit 2), ((k.testBit 0 ^^ k.testBit 3) ^^ k.testBit 4), ((k.testBit 1 ^^ k.testBit 3) ^^ k.testBit 5), ((k.testBit 2 ^^ k.testBit 4) ^^ k.testBit 5), k.testBit 0, k.testBit 1, k.testBit 2, k.testBit 3, k.testBit 4, k.testBit 5].getD t false
theorem v33_ok : ∀ k, k < 2 ^ 4 → ∀ i, i < 6 → xs (fun t => v33 k t && inc P33 t i) P33.length = false := by decide +kernel
theorem v5_ok : ∀ k, k < 2 ^ 6 → ∀ i, i < 5 → xs (fun t => v5 k t && inc P5 t i) P5.length = false := by decide +kernel
theorem v33_inj : ∀ k l, k < 2 ^ 4 → l < 2 ^ 4 → (∀ t, t < P33.length → v33 k t = v33 l t) → k = l := by
  have h : ∀ k, k < 2 ^ 4 → k = 8 * (v33 k 8).toNat + 4 * (v33 k 7).toNat + 2 * (v33 k 5).toNat + (v33 k 4).toNat := by decide +kernel
  intro k l hk hl e
  rw [h k hk, h l hl, e 8 (by decide), e 7 (by decide), e 5 (by decide), e 4 (by decide)]
theorem v5_inj : ∀ k l, k < 2 ^ 6 → l < 2 ^ 6 → (∀ t, t < P5.length → v5 k t = v5 l t) → k = l := by
  have h : ∀ k, k < 2 ^ 6 → k = 32 * (v5 k 9).toNat + 16 * (v5 k 8).toNat + 8 * (v5 k 7).toNat + 4 * (v5 k 6).toNat + 2 * (v5 k 5).toNat + (v5 k 4).toNat := by decide +kernel
  intro k l hk hl e
  rw [h k hk, h l hl, e 9 (by decide), e 8 (by decide), e 7 (by decide), e 6 (by decide), e 5 (by decide), e 4 (by decide)]
theorem noPW33 {F : xG} {br : Nat → Nat} {M : Nat → List Nat} (hM : MOD F 6 P33 br M) : ¬PW (gM P33 br M) := MOD_noPW (d := 4) (g := 4) P33_ok hM min33 v33_ok v33_inj (by decide) (by decide)
theorem noPW5 {F : xG} {br : Nat → Nat} {M : Nat → List Nat} (hM : MOD F 5 P5 br M) : ¬PW (gM P5 br M) := MOD_noPW (d := 6) (g := 3) P5_ok hM min5 v5_ok v5_inj (by decide) (by decide)
theorem kur_eq {F : xG} (hgF : gok F) (hno : ¬PW F) (hmin : ∀ a b, F a b = true → PW (rm F a b)) : (∃ br M, MOD F 6 P33 br M ∧ F = gM P33 br M) ∨ ∃ br M, MOD F 5 P5 br M ∧ F = gM P5 br M := by
  have main : ∀ n prs br M, MOD F n prs br M → ¬PW (gM prs br M) → F = gM prs br M := fun n prs br M hM hn => by
    funext x y
    rw [Bool.eq_iff_iff]
    constructor
    · intro h
      cases e : gM prs br M x y with
      | true => rfl
      | false => exact absurd (PW_proper hgF gM_sym (fun a b q => gM_sub hgF.1 hM q) hmin h e) hn
    · exact fun h => gM_sub hgF.1 hM h
  rcases kur hgF hno hmin with ⟨br, M, hM⟩ | ⟨br, M, hM⟩
  · exact Or.inl ⟨br, M, hM, main _ _ _ _ hM (noPW33 hM)⟩
  · exact Or.inr ⟨br, M, hM, main _ _ _ _ hM (noPW5 hM)⟩
