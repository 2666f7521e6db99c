theorem c_hsize {w : xW} : xC MX2_size [.ref 3] w (some (.int (w.1 3 3))) w := by
  unfold xC
  show xE MX2_size (0, [some (.ref 3)], [], w) _ _
  refine xE.go 2 (F1 := (4, [some (.ref 3)], [.int (w.1 3 3)], w)) rfl ?_
  exact xE.iret .int 1 rfl rfl (rfl)
theorem c_forget {w : xW} : xD MX2_forgetOldest [.ref 3] w (fun r w1 => r = none ∧ w1.1 3 3 = 4 ∧ (∀ i, i < 4 → w1.2 4 i = w.2 4 (i + 1) ∧ w1.1 5 i = w.1 5 (i + 1) ∧ w1.1 6 i = w.1 6 (i + 1)) ∧ xkq [(3, some 3), (4, none), (5, none), (6, none)] w w1) := by
  refine xD.of ?_
  show xQ MX2_forgetOldest (0, [some (.ref 3), none], [], w) _
  refine xQ.go 2 (F1 := (2, [some (.ref 3), some (.int 1)], [], w)) rfl ?_
  refine xQ.loop (S := xW) (fun k s => (2, [some (.ref 3), some (.int (nI (k + 1)))], [], s)) (fun k s => xkq [(4, none), (5, none), (6, none)] w s ∧ (∀ i, i < k → s.2 4 i = w.2 4 (i + 1) ∧ s.1 5 i = w.1 5 (i + 1) ∧ s.1 6 i = w.1 6 (i + 1)) ∧ ∀ i, k ≤ i → s.2 4 i = w.2 4 i ∧ s.1 5 i = w.1 5 i ∧ s.1 6 i = w.1 6 i) 4 w (rfl) (⟨xkq_rfl, fun i hi => absurd hi (by omega), fun i _ => ⟨rfl, rfl, rfl⟩⟩) ?_ ?_
  · intro k s hk hI K
    obtain ⟨i1, i2, i3⟩ := hI
    have hm : nI (k + 1) - 1 = nI k := jI_sub (b := 1) (by omega)
    refine xQ.go 3 (F1 := (bif decide (5 ≤ (nI (k + 1))) then 55 else 7, [some (.ref 3), some (.int (nI (k + 1)))], [], s)) rfl ?_
    refine xQ.brF (decide_eq_false (nI_ge (b := 5) (by omega) (by omega))) ?_
    refine xQ.go 8 (F1 := (19, [some (.ref 3), some (.int (nI (k + 1)))], [.int (nI (k + 1)), .ref 4, .int ((nI (k + 1)) - 1), .ref 4], s)) rfl ?_
    refine xQ.lald rfl (k := (k + 1)) (rfl) (⟨by omega, by omega⟩) rfl ?_
    show xQ MX2_forgetOldest (20, [some (.ref 3), some (.int (nI (k + 1)))], [.long (s.2 4 (k + 1)), .int ((nI (k + 1)) - 1), .ref 4], s) _
    refine xQ.last rfl (k := k) (hm) (⟨by omega, by omega⟩) rfl ?_
    show xQ MX2_forgetOldest (21, [some (.ref 3), some (.int (nI (k + 1)))], [], (xuJ s 4 k (s.2 4 (k + 1)))) _
    refine xQ.go 8 (F1 := (33, [some (.ref 3), some (.int (nI (k + 1)))], [.int (nI (k + 1)), .ref 5, .int ((nI (k + 1)) - 1), .ref 5], (xuJ s 4 k (s.2 4 (k + 1))))) rfl ?_
    refine xQ.iald rfl (k := (k + 1)) (rfl) (⟨by omega, by omega⟩) rfl ?_
    show xQ MX2_forgetOldest (34, [some (.ref 3), some (.int (nI (k + 1)))], [.int (s.1 5 (k + 1)), .int ((nI (k + 1)) - 1), .ref 5], (xuJ s 4 k (s.2 4 (k + 1)))) _
    refine xQ.iast rfl (k := k) (hm) (⟨by omega, by omega⟩) rfl ?_
    show xQ MX2_forgetOldest (35, [some (.ref 3), some (.int (nI (k + 1)))], [], (xuI (xuJ s 4 k (s.2 4 (k + 1))) 5 k (s.1 5 (k + 1)))) _
    refine xQ.go 8 (F1 := (47, [some (.ref 3), some (.int (nI (k + 1)))], [.int (nI (k + 1)), .ref 6, .int ((nI (k + 1)) - 1), .ref 6], (xuI (xuJ s 4 k (s.2 4 (k + 1))) 5 k (s.1 5 (k + 1))))) rfl ?_
    refine xQ.iald rfl (k := (k + 1)) (rfl) (⟨by omega, by omega⟩) rfl ?_
    show xQ MX2_forgetOldest (48, [some (.ref 3), some (.int (nI (k + 1)))], [.int (s.1 6 (k + 1)), .int ((nI (k + 1)) - 1), .ref 6], (xuI (xuJ s 4 k (s.2 4 (k + 1))) 5 k (s.1 5 (k + 1)))) _
    refine xQ.iast rfl (k := k) (hm) (⟨by omega, by omega⟩) rfl ?_
    show xQ MX2_forgetOldest (49, [some (.ref 3), some (.int (nI (k + 1)))], [], (xuI (xuI (xuJ s 4 k (s.2 4 (k + 1))) 5 k (s.1 5 (k + 1))) 6 k (s.1 6 (k + 1)))) _
    refine xQ.go 2 (F1 := (2, [some (.ref 3), some (.int ((nI (k + 1)) + 1))], [], (xuI (xuI (xuJ s 4 k (s.2 4 (k + 1))) 5 k (s.1 5 (k + 1))) 6 k (s.1 6 (k + 1))))) rfl ?_
    rw [← nI_succ]
    have h := i3 (k + 1) (by omega)
    refine K _ ⟨xkq_I (xkq_I (xkq_J i1 rfl) rfl) rfl, fun i hi => ?_, fun i hi => ?_⟩
    · by_cases e : i = k
      · subst e
        simp [uI1, uJ2, uI2, uJ1, h]
      · have := i2 i (by omega)
        simp [uI1, uJ2, uI2, uJ1, e, this]
    · have := i3 i (by omega)
      have e : i ≠ k := by omega
      simp [uI1, uJ2, uI2, uJ1, e, this]
  · intro s hI
    obtain ⟨i1, i2, i3⟩ := hI
    refine xQ.go 3 (F1 := (bif decide (5 ≤ (nI (4 + 1))) then 55 else 7, [some (.ref 3), some (.int (nI (4 + 1)))], [], s)) rfl ?_
    refine xQ.brT (rfl) ?_
    refine xQ.go 3 (F1 := (60, [some (.ref 3), some (.int (nI (4 + 1)))], [], (xuI s 3 3 4))) rfl ?_
    refine xQ.vret 1 rfl rfl ?_
    refine ⟨rfl, by simp [uI1], fun i hi => ?_, xkq_I (xkq_mono rfl i1) rfl⟩
    have := i2 i hi
    simp [uI1, uI2, this]
theorem c_remember {w : xW} {n : Nat} (hn : w.1 3 3 = nI n) (h5 : n ≤ 5) : xD MX2_remember [.ref 3, .ref 1] w (fun r w1 => r = none ∧ w1.1 3 3 = nI ((if n = 5 then 4 else n) + 1) ∧ (w1.2 4 (if n = 5 then 4 else n) = w.2 1 0 ∧ w1.1 5 (if n = 5 then 4 else n) = w.1 1 1 ∧ w1.1 6 (if n = 5 then 4 else n) = w.1 1 2) ∧ (∀ i, i < (if n = 5 then 4 else n) → w1.2 4 i = w.2 4 (if n = 5 then i + 1 else i) ∧ w1.1 5 i = w.1 5 (if n = 5 then i + 1 else i) ∧ w1.1 6 i = w.1 6 (if n = 5 then i + 1 else i)) ∧ xkq [(3, some 3), (4, none), (5, none), (6, none)] w w1) := by
  have com : ∀ (w2 : xW) (m : Nat), m < 5 → w2.1 3 3 = nI m → xkq [(3, some 3), (4, none), (5, none), (6, none)] w w2 → xQ MX2_remember (12, [some (.ref 3), some (.ref 1)], [], w2) (fun r w1 => r = none ∧ w1.1 3 3 = nI (m + 1) ∧ (w1.2 4 m = w.2 1 0 ∧ w1.1 5 m = w.1 1 1 ∧ w1.1 6 m = w.1 1 2) ∧ (∀ i, i < m → w1.2 4 i = w2.2 4 i ∧ w1.1 5 i = w2.1 5 i ∧ w1.1 6 i = w2.1 6 i) ∧ xkq [(3, some 3), (4, none), (5, none), (6, none)] w w1) := by
    intro w2 m hm hm2 hk
    refine xQ.go 3 (F1 := (bif decide ((w2.1 3 3) < 0) then 76 else 19, [some (.ref 3), some (.ref 1)], [], w2)) rfl ?_
    refine xQ.brF (by rw [hm2]; exact decide_eq_false (nI_pos (by omega))) ?_
    refine xQ.go 4 (F1 := (bif decide (5 ≤ (w2.1 3 3)) then 76 else 27, [some (.ref 3), some (.ref 1)], [], w2)) rfl ?_
    refine xQ.brF (by rw [hm2]; exact decide_eq_false (nI_ge (b := 5) hm (by omega))) ?_
    refine xQ.go 5 (F1 := (36, [some (.ref 3), some (.ref 1)], [.ref 1, .int (w2.1 3 3), .ref 4], w2)) rfl ?_
    refine xQ.call rfl (c_edges1) ?_
    show xQ MX2_remember (39, [some (.ref 3), some (.ref 1)], [.long (w2.2 1 0), .int (w2.1 3 3), .ref 4], w2) _
    refine xQ.last rfl (k := m) (hm2) (⟨hm, by omega⟩) rfl ?_
    show xQ MX2_remember (40, [some (.ref 3), some (.ref 1)], [], (xuJ w2 4 m (w2.2 1 0))) _
    refine xQ.go 5 (F1 := (49, [some (.ref 3), some (.ref 1)], [.ref 1, .int (w2.1 3 3), .ref 5], (xuJ w2 4 m (w2.2 1 0)))) rfl ?_
    refine xQ.call rfl (c_added1) ?_
    show xQ MX2_remember (52, [some (.ref 3), some (.ref 1)], [.int ((xuJ w2 4 m (w2.2 1 0)).1 1 1), .int (w2.1 3 3), .ref 5], (xuJ w2 4 m (w2.2 1 0))) _
    refine xQ.iast rfl (k := m) (hm2) (⟨hm, by omega⟩) rfl ?_
    show xQ MX2_remember (53, [some (.ref 3), some (.ref 1)], [], (xuI (xuJ w2 4 m (w2.2 1 0)) 5 m ((xuJ w2 4 m (w2.2 1 0)).1 1 1))) _
    refine xQ.go 5 (F1 := (62, [some (.ref 3), some (.ref 1)], [.ref 1, .int (w2.1 3 3), .ref 6], (xuI (xuJ w2 4 m (w2.2 1 0)) 5 m ((xuJ w2 4 m (w2.2 1 0)).1 1 1)))) rfl ?_
    refine xQ.call rfl (c_dropped1) ?_
    show xQ MX2_remember (65, [some (.ref 3), some (.ref 1)], [.int ((xuI (xuJ w2 4 m (w2.2 1 0)) 5 m ((xuJ w2 4 m (w2.2 1 0)).1 1 1)).1 1 2), .int (w2.1 3 3), .ref 6], (xuI (xuJ w2 4 m (w2.2 1 0)) 5 m ((xuJ w2 4 m (w2.2 1 0)).1 1 1))) _
    refine xQ.iast rfl (k := m) (by simp [uI1, uJ1, hm2]) (⟨hm, by omega⟩) rfl ?_
    show xQ MX2_remember (66, [some (.ref 3), some (.ref 1)], [], (xuI (xuI (xuJ w2 4 m (w2.2 1 0)) 5 m ((xuJ w2 4 m (w2.2 1 0)).1 1 1)) 6 m ((xuI (xuJ w2 4 m (w2.2 1 0)) 5 m ((xuJ w2 4 m (w2.2 1 0)).1 1 1)).1 1 2))) _
    refine xQ.go 6 (F1 := (76, [some (.ref 3), some (.ref 1)], [], (xuI (xuI (xuI (xuJ w2 4 m (w2.2 1 0)) 5 m ((xuJ w2 4 m (w2.2 1 0)).1 1 1)) 6 m ((xuI (xuJ w2 4 m (w2.2 1 0)) 5 m ((xuJ w2 4 m (w2.2 1 0)).1 1 1)).1 1 2)) 3 3 ((w2.1 3 3) + 1)))) rfl ?_
    refine xQ.vret 1 rfl rfl ?_
    refine ⟨rfl, by simp [uI1, uJ1, hm2, nI_succ], ?_, fun i hi => ?_, xkq_I (xkq_I (xkq_I (xkq_J hk rfl) rfl) rfl) rfl⟩
    · simp [uI1, uI2, uJ1, uJ2, xkq_at hk 1 1, xkq_at hk 1 2, xkq_atJ hk 1 0]
    · have e : i ≠ m := by omega
      simp [uI1, uI2, uJ1, uJ2, e]
  refine xD.of ?_
  show xQ MX2_remember (0, [some (.ref 3), some (.ref 1)], [], w) _
  by_cases e5 : n = 5
  · refine xQ.go 4 (F1 := (bif decide ((w.1 3 3) < 5) then 12 else 8, [some (.ref 3), some (.ref 1)], [], w)) rfl ?_
    refine xQ.brF (by rw [hn, e5]; decide) ?_
    obtain ⟨r2, w2, hc, hr, h1, h2, h3⟩ := c_forget (w := w)
    subst hr
    refine xQ.go 1 (F1 := (9, [some (.ref 3), some (.ref 1)], [.ref 3], w)) rfl ?_
    refine xQ.call rfl (hc) ?_
    show xQ MX2_remember (12, [some (.ref 3), some (.ref 1)], [], w2) _
    simp only [if_pos e5]
    obtain ⟨r3, w3, g0, g1, g2, g3, g4, g5⟩ := com w2 4 (by omega) h1 h3
    refine ⟨r3, w3, g0, g1, g2, g3, fun i hi => ?_, g5⟩
    obtain ⟨a1, a2, a3⟩ := g4 i hi
    obtain ⟨b1, b2, b3⟩ := h2 i hi
    exact ⟨a1.trans b1, a2.trans b2, a3.trans b3⟩
  · refine xQ.go 4 (F1 := (bif decide ((w.1 3 3) < 5) then 12 else 8, [some (.ref 3), some (.ref 1)], [], w)) rfl ?_
    refine xQ.brT (by rw [hn]; exact decide_eq_true (nI_lt (b := 5) (by omega) (by omega))) ?_
    simp only [if_neg e5]
    exact com w n (by omega) hn xkq_rfl
