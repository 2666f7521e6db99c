/-! the reference: reads an edit -/
theorem wch : ∀ c, c < 127 → (if (48 : Int32) ≤ nI c ∧ nI c ≤ 57 then (1 : Int32) else 0) = if (decide (48 ≤ c) && decide (c ≤ 57)) = true then 1 else 0 := by decide +kernel
def edP (w : xW) (T : List Nat) (s : Nat) (r : Option Value) (w1 : xW) : Prop := xkq kR w w1 ∧ w1.1 45 8 = nI (tch T s) ∧ ((¬ (foL (tch T s) = [] ∨ rgt T s < (foL (tch T s)).length) ∧ r = some (.int 1) ∧ w1.1 45 7 = nI (s + rgt T s) ∧ w1.1 45 9 = nI (tch T (s + rgt T s - 3) - 48) ∧ w1.1 45 10 = nI (tch T (s + rgt T s - 1) - 48)) ∨ ((foL (tch T s) = [] ∨ rgt T s < (foL (tch T s)).length) ∧ r = some (.int 0) ∧ w1.1 45 7 = nI (s + rgt T s)))
theorem m_edit {w : xW} {T : List Nat} {s : Nat} (hT : mT w T) (ha : w.1 45 7 = nI s) (hs : s < 100) : xD MX8_readsEdit [.ref 45] w (edP w T s) := by
  refine xD.of ?_
  show xQ MX8_readsEdit (0, [some (.ref 45)], [], w) _
  obtain ⟨r1, t1, hc1, b1, k1, h⟩ := m_word hT ha hs
  rcases h with ⟨m, em, m4, g0, g1, g2, g3, R0, hr1, a1⟩ | ⟨hb, hr1, a1⟩
  rotate_left
  · subst hr1
    refine xQ.go 1 (F1 := (1, [some (.ref 45)], [.ref 45], w)) rfl ?_
    refine xQ.call rfl (hc1) ?_
    show xQ MX8_readsEdit (4, [some (.ref 45)], [.int 0], t1) _
    refine xQ.go 1 (F1 := (bif decide (0 = 0) then 30 else 7, [some (.ref 45)], [], t1)) rfl ?_
    refine xQ.brT (rfl) ?_
    refine xQ.go 1 (F1 := (31, [some (.ref 45)], [.int 0], t1)) rfl ?_
    refine xQ.iret .boolean 1 rfl rfl (rfl) ?_
    exact ⟨k1, b1, Or.inr ⟨hb, rfl, a1⟩⟩
  subst hr1
  refine xQ.go 1 (F1 := (1, [some (.ref 45)], [.ref 45], w)) rfl ?_
  refine xQ.call rfl (hc1) ?_
  show xQ MX8_readsEdit (4, [some (.ref 45)], [.int 1], t1) _
  have f30 : ∀ (i : Nat) (t : xW), i < 4 → rgt T s = m + i → t.1 45 8 = nI (tch T s) → t.1 45 7 = nI (s + m + i) → xkq kR w t → xQ MX8_readsEdit (30, [some (.ref 45)], [], t) (edP w T s) := by
    intro i t hi hr h8 h7 hk
    refine xQ.go 1 (F1 := (31, [some (.ref 45)], [.int 0], t)) rfl ?_
    refine xQ.iret .boolean 1 rfl rfl (rfl) ?_
    exact ⟨hk, h8, Or.inr ⟨Or.inr (by omega), rfl, by rw [hr, ← Nat.add_assoc]; exact h7⟩⟩
  have f90 : ∀ (i : Nat) (t : xW), i < 4 → rgt T s = m + i → t.1 45 8 = nI (tch T s) → t.1 45 7 = nI (s + m + i) → xkq kR w t → xQ MX8_readsEdit (90, [some (.ref 45)], [], t) (edP w T s) := by
    intro i t hi hr h8 h7 hk
    refine xQ.go 1 (F1 := (91, [some (.ref 45)], [.int 0], t)) rfl ?_
    refine xQ.iret .boolean 1 rfl rfl (rfl) ?_
    exact ⟨hk, h8, Or.inr ⟨Or.inr (by omega), rfl, by rw [hr, ← Nat.add_assoc]; exact h7⟩⟩
  refine xQ.go 1 (F1 := (bif decide (1 = 0) then 30 else 7, [some (.ref 45)], [], t1)) rfl ?_
  refine xQ.brF (rfl) ?_
  have q0 : okA T s (foL (tch T s)) m = decide (tch T (s + m) = 32) := by
    unfold okA
    rw [g0, em, decide_eq_false (show ¬ m + 1 = m + 4 by omega)]
    simp
  have q1 : okA T s (foL (tch T s)) (m + 1) = (decide (48 ≤ tch T (s + m + 1)) && decide (tch T (s + m + 1) ≤ 57)) := by
    unfold okA
    rw [g1, em, decide_eq_false (show ¬ m + 1 + 1 = m + 4 by omega), ← Nat.add_assoc]
    simp
  have q2 : okA T s (foL (tch T s)) (m + 2) = decide (tch T (s + m + 2) = 45) := by
    unfold okA
    rw [g2, em, decide_eq_false (show ¬ m + 2 + 1 = m + 4 by omega), ← Nat.add_assoc]
    simp
  have q3 : okA T s (foL (tch T s)) (m + 3) = ((decide (48 ≤ tch T (s + m + 3)) && decide (tch T (s + m + 3) ≤ 57)) && !decide (tch T (s + m + 3) = tch T (s + m + 1))) := by
    unfold okA
    rw [g3, em, decide_eq_true (show m + 3 + 1 = m + 4 by omega), show s + (m + 3) - 2 = s + m + 1 by omega, ← Nat.add_assoc]
    simp
  generalize okA T s (foL (tch T s)) = p at *
  have c1 := tch_le hT.2.1 (s + m + 1)
  have c3 := tch_le hT.2.1 (s + m + 3)
  obtain ⟨r2, t2, hc2, o2, j2⟩ := m_takes (c := 32) (mT_of hT k1) a1 (by omega) (by omega) rfl
  have b2 : t2.1 45 8 = nI (tch T s) := (xkq_at j2 45 8).trans b1
  have k2 : xkq kR w t2 := xkq_trans k1 (xkq_mono rfl j2)
  rcases o2 with ⟨o2, hr2, a2⟩ | ⟨o2, hr2, a2⟩
  rotate_left
  · subst hr2
    refine xQ.go 2 (F1 := (10, [some (.ref 45)], [.int 32, .ref 45], t1)) rfl ?_
    refine xQ.call rfl (hc2) ?_
    show xQ MX8_readsEdit (13, [some (.ref 45)], [.int 0], t2) _
    refine xQ.go 1 (F1 := (bif decide (0 = 0) then 30 else 16, [some (.ref 45)], [], t2)) rfl ?_
    refine xQ.brT (rfl) ?_
    exact f30 0 t2 (by omega) (R0.trans (ffl_f (by rw [q0]; exact decide_eq_false o2))) b2 a2 k2
  subst hr2
  refine xQ.go 2 (F1 := (10, [some (.ref 45)], [.int 32, .ref 45], t1)) rfl ?_
  refine xQ.call rfl (hc2) ?_
  show xQ MX8_readsEdit (13, [some (.ref 45)], [.int 1], t2) _
  have R1 : rgt T s = ffl p 3 (m + 1) := R0.trans (ffl_t (by rw [q0]; exact decide_eq_true o2))
  refine xQ.go 1 (F1 := (bif decide (1 = 0) then 30 else 16, [some (.ref 45)], [], t2)) rfl ?_
  refine xQ.brF (rfl) ?_
  refine xQ.go 1 (F1 := (17, [some (.ref 45)], [.ref 45], t2)) rfl ?_
  refine xQ.call rfl (m_nextC (mT_of hT k2) a2 (by omega)) ?_
  show xQ MX8_readsEdit (20, [some (.ref 45)], [.int (nI (tch T (s + m + 1)))], t2) _
  refine xQ.go 2 (F1 := (24, [some (.ref 45)], [.int 57, .int 48, .int (nI (tch T (s + m + 1)))], t2)) rfl ?_
  refine xQ.call rfl (m_within) ?_
  show xQ MX8_readsEdit (27, [some (.ref 45)], [.int (if 48 ≤ nI (tch T (s + m + 1)) ∧ nI (tch T (s + m + 1)) ≤ 57 then 1 else 0)], t2) _
  rw [wch _ (by omega), ← q1]
  refine xQ.go 1 (F1 := (bif !decide ((if p (m + 1) = true then 1 else 0) = 0) then 32 else 30, [some (.ref 45)], [], t2)) rfl ?_
  cases hp1 : p (m + 1) with
  | false =>
    refine xQ.brF rfl ?_
    exact f30 1 t2 (by omega) (R1.trans (ffl_f hp1)) b2 a2 k2
  | true =>
    have R2 : rgt T s = ffl p 2 (m + 2) := R1.trans (ffl_t hp1)
    rw [hp1] at q1
    have q1 := q1.symm
    rw [Bool.and_eq_true, decide_eq_true_iff, decide_eq_true_iff] at q1
    refine xQ.brT rfl ?_
    refine xQ.go 2 (F1 := (34, [some (.ref 45)], [.ref 45, .ref 45], t2)) rfl ?_
    refine xQ.call rfl (m_nextC (mT_of hT k2) a2 (by omega)) ?_
    show xQ MX8_readsEdit (37, [some (.ref 45)], [.int (nI (tch T (s + m + 1))), .ref 45], t2) _
    refine xQ.go 2 (F1 := (40, [some (.ref 45)], [.int ((nI (tch T (s + m + 1))) - 48), .ref 45], t2)) rfl ?_
    rw [show (48 : Int32) = nI 48 from rfl, jI_sub q1.1]
    refine xQ.go 1 (F1 := (43, [some (.ref 45)], [], (xuI t2 45 9 (nI (tch T (s + m + 1) - 48))))) rfl ?_
    obtain ⟨t3, e3⟩ : ∃ t3, t3 = xuI t2 45 9 (nI (tch T (s + m + 1) - 48)) := ⟨_, rfl⟩
    rw [← e3]
    have a3 : t3.1 45 7 = nI (s + m + 1) := by rw [e3]; simpa [uI1] using a2
    have b3 : t3.1 45 8 = nI (tch T s) := by rw [e3]; simpa [uI1] using b2
    have d3 : t3.1 45 9 = nI (tch T (s + m + 1) - 48) := by rw [e3]; simp [uI1]
    have k3 : xkq kR w t3 := by rw [e3]; exact xkq_I k2 rfl
    clear e3
    refine xQ.go 5 (F1 := (50, [some (.ref 45)], [.int ((t3.1 45 7) + 1), .ref 45], t3)) rfl ?_
    rw [a3, ← nI_succ]
    refine xQ.go 1 (F1 := (53, [some (.ref 45)], [], (xuI t3 45 7 (nI (s + m + 2))))) rfl ?_
    obtain ⟨t4, e4⟩ : ∃ t4, t4 = xuI t3 45 7 (nI (s + m + 2)) := ⟨_, rfl⟩
    rw [← e4]
    have a4 : t4.1 45 7 = nI (s + m + 2) := by rw [e4]; simp [uI1]
    have b4 : t4.1 45 8 = nI (tch T s) := by rw [e4]; simpa [uI1] using b3
    have d4 : t4.1 45 9 = nI (tch T (s + m + 1) - 48) := by rw [e4]; simpa [uI1] using d3
    have k4 : xkq kR w t4 := by rw [e4]; exact xkq_I k3 rfl
    clear e4
    obtain ⟨r5, t5, hc5, o5, j5⟩ := m_takes (c := 45) (mT_of hT k4) a4 (by omega) (by omega) rfl
    have b5 : t5.1 45 8 = nI (tch T s) := (xkq_at j5 45 8).trans b4
    have d5 : t5.1 45 9 = nI (tch T (s + m + 1) - 48) := (xkq_at j5 45 9).trans d4
    have k5 : xkq kR w t5 := xkq_trans k4 (xkq_mono rfl j5)
    rcases o5 with ⟨o5, hr5, a5⟩ | ⟨o5, hr5, a5⟩
    rotate_left
    · subst hr5
      refine xQ.go 2 (F1 := (56, [some (.ref 45)], [.int 45, .ref 45], t4)) rfl ?_
      refine xQ.call rfl (hc5) ?_
      show xQ MX8_readsEdit (59, [some (.ref 45)], [.int 0], t5) _
      refine xQ.go 1 (F1 := (bif decide (0 = 0) then 90 else 62, [some (.ref 45)], [], t5)) rfl ?_
      refine xQ.brT (rfl) ?_
      exact f90 2 t5 (by omega) (R2.trans (ffl_f (by rw [q2]; exact decide_eq_false o5))) b5 a5 k5
    subst hr5
    refine xQ.go 2 (F1 := (56, [some (.ref 45)], [.int 45, .ref 45], t4)) rfl ?_
    refine xQ.call rfl (hc5) ?_
    show xQ MX8_readsEdit (59, [some (.ref 45)], [.int 1], t5) _
    have R3 : rgt T s = ffl p 1 (m + 3) := R2.trans (ffl_t (by rw [q2]; exact decide_eq_true o5))
    refine xQ.go 1 (F1 := (bif decide (1 = 0) then 90 else 62, [some (.ref 45)], [], t5)) rfl ?_
    refine xQ.brF (rfl) ?_
    refine xQ.go 1 (F1 := (63, [some (.ref 45)], [.ref 45], t5)) rfl ?_
    refine xQ.call rfl (m_nextC (mT_of hT k5) a5 (by omega)) ?_
    show xQ MX8_readsEdit (66, [some (.ref 45)], [.int (nI (tch T (s + m + 3)))], t5) _
    refine xQ.go 2 (F1 := (70, [some (.ref 45)], [.int 57, .int 48, .int (nI (tch T (s + m + 3)))], t5)) rfl ?_
    refine xQ.call rfl (m_within) ?_
    show xQ MX8_readsEdit (73, [some (.ref 45)], [.int (if 48 ≤ nI (tch T (s + m + 3)) ∧ nI (tch T (s + m + 3)) ≤ 57 then 1 else 0)], t5) _
    rw [wch _ (by omega)]
    refine xQ.go 1 (F1 := (bif decide ((if (decide (48 ≤ tch T (s + m + 3)) && decide (tch T (s + m + 3) ≤ 57)) = true then 1 else 0) = 0) then 90 else 76, [some (.ref 45)], [], t5)) rfl ?_
    cases hd : (decide (48 ≤ tch T (s + m + 3)) && decide (tch T (s + m + 3) ≤ 57)) with
    | false =>
      refine xQ.brT rfl ?_
      exact f90 3 t5 (by omega) (R3.trans (ffl_f (by rw [q3, hd]; rfl))) b5 a5 k5
    | true =>
      refine xQ.brF rfl ?_
      rw [hd, Bool.true_and] at q3
      rw [Bool.and_eq_true, decide_eq_true_iff, decide_eq_true_iff] at hd
      refine xQ.go 1 (F1 := (77, [some (.ref 45)], [.ref 45], t5)) rfl ?_
      refine xQ.call rfl (m_nextC (mT_of hT k5) a5 (by omega)) ?_
      show xQ MX8_readsEdit (80, [some (.ref 45)], [.int (nI (tch T (s + m + 3)))], t5) _
      refine xQ.go 2 (F1 := (83, [some (.ref 45)], [.int ((nI (tch T (s + m + 3))) - 48)], t5)) rfl ?_
      rw [show (48 : Int32) = nI 48 from rfl, jI_sub hd.1]
      refine xQ.go 3 (F1 := (bif !decide ((nI (tch T (s + m + 3) - 48)) = (t5.1 45 9)) then 92 else 90, [some (.ref 45)], [], t5)) rfl ?_
      rw [d5, nI_dec (by omega) (by omega)]
      by_cases e : tch T (s + m + 3) = tch T (s + m + 1)
      · refine xQ.brF (by rw [decide_eq_true (show tch T (s + m + 3) - 48 = tch T (s + m + 1) - 48 by omega)]; rfl) ?_
        exact f90 3 t5 (by omega) (R3.trans (ffl_f (by rw [q3, decide_eq_true e]; rfl))) b5 a5 k5
      · refine xQ.brT (by rw [decide_eq_false (show ¬ tch T (s + m + 3) - 48 = tch T (s + m + 1) - 48 by omega)]; rfl) ?_
        have R4 : rgt T s = m + 4 := R3.trans (ffl_t (by rw [q3, decide_eq_false e]; rfl))
        refine xQ.go 2 (F1 := (94, [some (.ref 45)], [.ref 45, .ref 45], t5)) rfl ?_
        refine xQ.call rfl (m_nextC (mT_of hT k5) a5 (by omega)) ?_
        show xQ MX8_readsEdit (97, [some (.ref 45)], [.int (nI (tch T (s + m + 3))), .ref 45], t5) _
        refine xQ.go 2 (F1 := (100, [some (.ref 45)], [.int ((nI (tch T (s + m + 3))) - 48), .ref 45], t5)) rfl ?_
        rw [show (48 : Int32) = nI 48 from rfl, jI_sub hd.1]
        refine xQ.go 1 (F1 := (103, [some (.ref 45)], [], (xuI t5 45 10 (nI (tch T (s + m + 3) - 48))))) rfl ?_
        obtain ⟨t6, e6⟩ : ∃ t6, t6 = xuI t5 45 10 (nI (tch T (s + m + 3) - 48)) := ⟨_, rfl⟩
        rw [← e6]
        have a6 : t6.1 45 7 = nI (s + m + 3) := by rw [e6]; simpa [uI1] using a5
        have b6 : t6.1 45 8 = nI (tch T s) := by rw [e6]; simpa [uI1] using b5
        have d6 : t6.1 45 9 = nI (tch T (s + m + 1) - 48) := by rw [e6]; simpa [uI1] using d5
        have f6 : t6.1 45 10 = nI (tch T (s + m + 3) - 48) := by rw [e6]; simp [uI1]
        have k6 : xkq kR w t6 := by rw [e6]; exact xkq_I k5 rfl
        clear e6
        refine xQ.go 5 (F1 := (110, [some (.ref 45)], [.int ((t6.1 45 7) + 1), .ref 45], t6)) rfl ?_
        rw [a6, ← nI_succ]
        refine xQ.go 2 (F1 := (114, [some (.ref 45)], [.int 1], (xuI t6 45 7 (nI (s + m + 4))))) rfl ?_
        refine xQ.iret .boolean 1 rfl rfl (rfl) ?_
        refine ⟨xkq_I k6 rfl, by simpa [uI1] using b6, Or.inl ⟨fun h => ?_, rfl, ?_, ?_, ?_⟩⟩
        · rcases h with h | h
          · rw [h] at em
            simp at em
          · omega
        · rw [R4, ← Nat.add_assoc]
          simp [uI1]
        · rw [R4, show s + (m + 4) - 3 = s + m + 1 by omega]
          simpa [uI1] using d6
        · rw [R4, show s + (m + 4) - 1 = s + m + 3 by omega]
          simpa [uI1] using f6
