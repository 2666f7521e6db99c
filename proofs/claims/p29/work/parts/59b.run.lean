/-! run -/
theorem scn_mem {T : List Nat} : ∀ (k s : Nat) (p : xPr), p ∈ (scn T k s).2 → (tch T p.1 = 97 ∨ tch T p.1 = 100 ∨ tch T p.1 = 102) ∧ p.1 < T.length ∧ 7 ≤ p.2 ∧ p.2 ≤ T.length ∧ ∃ a b, a < 10 ∧ b < 10 ∧ a ≠ b ∧ tch T (p.2 - 3) = 48 + a ∧ tch T (p.2 - 1) = 48 + b
  | 0, s, p, h => by cases h
  | k + 1, s, p, h => by
    by_cases h1 : foL (tch T s) = [] ∨ rgt T s < (foL (tch T s)).length
    · rw [scn_bad h1] at h
      cases h
    · obtain ⟨r1, r2, r3, r4⟩ := rgt_ok h1
      have one : (tch T s = 97 ∨ tch T s = 100 ∨ tch T s = 102) ∧ s < T.length ∧ 7 ≤ s + rgt T s ∧ s + rgt T s ≤ T.length ∧ ∃ a b, a < 10 ∧ b < 10 ∧ a ≠ b ∧ tch T (s + rgt T s - 3) = 48 + a ∧ tch T (s + rgt T s - 1) = 48 + b := ⟨r1, by omega, by omega, r3, r4⟩
      by_cases h2 : T.length ≤ s + rgt T s
      · rw [scn_end h1 h2] at h
        rw [List.mem_singleton.mp h]
        exact one
      · by_cases h3 : tch T (s + rgt T s) = 59
        · rw [scn_next h1 h2 h3] at h
          rcases List.mem_cons.mp h with e | e
          · rw [e]; exact one
          · exact scn_mem k _ p e
        · rw [scn_sep h1 h2 h3] at h
          rw [List.mem_singleton.mp h]
          exact one
theorem runE_skip {s : xSt × Nat} {q : Nat × Nat × Nat} (h : (q.1 = 97 ∧ gr s.1.1 q.2.1 q.2.2 = true) ∨ (q.1 = 100 ∧ gr s.1.1 q.2.1 q.2.2 = false)) : runE s q = s := by unfold runE; rw [if_pos h]
theorem runE_do {s : xSt × Nat} {q : Nat × Nat × Nat} (h : ¬ ((q.1 = 97 ∧ gr s.1.1 q.2.1 q.2.2 = true) ∨ (q.1 = 100 ∧ gr s.1.1 q.2.1 q.2.2 = false))) : runE s q = (flipS s.1 q.2.1 q.2.2, s.2 + 1) := by unfold runE; rw [if_neg h]
theorem runE_le (l : List (Nat × Nat × Nat)) : ∀ s, (l.foldl runE s).2 ≤ s.2 + l.length := by
  induction l with
  | nil => intro s; exact Nat.le_refl _
  | cons q t ih =>
    intro s
    have h := ih (runE s q)
    have : (runE s q).2 ≤ s.2 + 1 := by
      unfold runE
      split
      · omega
      · exact Nat.le_refl _
    show (t.foldl runE (runE s q)).2 ≤ s.2 + (t.length + 1)
    omega