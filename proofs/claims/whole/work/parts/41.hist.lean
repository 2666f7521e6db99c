theorem c_hsize {w : xW} : xC MX2_size [.ref 3] w (some (.int (w.1 3 3))) w := by
  unfold xC
  show xE MX2_size (0, [some (.ref 3)], [], w) _ _
  refine xE.go 2 (F1 := (4, [some (.ref 3)], [.int (w.1 3 3)], w)) rfl ?_
  exact xE.iret .int 1 rfl rfl (rfl)
theorem c_give_0 {w : xW} (hn : w.1 3 3 = 0) : xC MX2_giveBack [.ref 3, .ref 1] w (some (.int 0)) w := by
  unfold xC
  show xE MX2_giveBack (0, [some (.ref 3), some (.ref 1), none], [], w) _ _
  refine xE.go 5 (F1 := (7, [some (.ref 3), some (.ref 1), some (.int ((w.1 3 3) - 1))], [], w)) rfl ?_
  rw [hn]
  show xE MX2_giveBack (7, [some (.ref 3), some (.ref 1), some (.int (-1))], [], w) _ _
  refine xE.go 2 (F1 := (bif decide ((-1) < 0) then 16 else 11, [some (.ref 3), some (.ref 1), some (.int (-1))], [], w)) rfl ?_
  refine xE.brT (rfl) ?_
  refine xE.go 1 (F1 := (17, [some (.ref 3), some (.ref 1), some (.int (-1))], [.int 0], w)) rfl ?_
  exact xE.iret .boolean 1 rfl rfl (rfl)
theorem c_give {w : xW} {m : Nat} (hn : w.1 3 3 = nI (m + 1)) (hm : m < 5) : xC MX2_giveBack [.ref 3, .ref 1] w (some (.int 1)) (xuI (xuI (xuI (xuJ w 1 0 (w.2 4 m)) 1 1 (w.1 5 m)) 1 2 (w.1 6 m)) 3 3 (nI m)) := by
  unfold xC
  show xE MX2_giveBack (0, [some (.ref 3), some (.ref 1), none], [], w) _ _
  refine xE.go 5 (F1 := (7, [some (.ref 3), some (.ref 1), some (.int ((w.1 3 3) - 1))], [], w)) rfl ?_
  rw [hn, show nI (m + 1) - 1 = nI m from jI_sub (b := 1) (by omega)]
  refine xE.go 2 (F1 := (bif decide ((nI m) < 0) then 16 else 11, [some (.ref 3), some (.ref 1), some (.int (nI m))], [], w)) rfl ?_
  refine xE.brF (decide_eq_false (nI_pos (by omega))) ?_
  refine xE.go 3 (F1 := (bif decide ((nI m) < 5) then 18 else 16, [some (.ref 3), some (.ref 1), some (.int (nI m))], [], w)) rfl ?_
  refine xE.brT (decide_eq_true (nI_lt (b := 5) hm (by omega))) ?_
  refine xE.go 4 (F1 := (24, [some (.ref 3), some (.ref 1), some (.int (nI m))], [.int (nI m), .ref 4, .ref 1], w)) rfl ?_
  refine xE.lald rfl (k := m) (rfl) (⟨hm, by omega⟩) rfl ?_
  show xE MX2_giveBack (25, [some (.ref 3), some (.ref 1), some (.int (nI m))], [.long (w.2 4 m), .ref 1], w) _ _
  refine xE.go 3 (F1 := (30, [some (.ref 3), some (.ref 1), some (.int (nI m))], [.int (nI m), .ref 5, .long (w.2 4 m), .ref 1], w)) rfl ?_
  refine xE.iald rfl (k := m) (rfl) (⟨hm, by omega⟩) rfl ?_
  show xE MX2_giveBack (31, [some (.ref 3), some (.ref 1), some (.int (nI m))], [.int (w.1 5 m), .long (w.2 4 m), .ref 1], w) _ _
  refine xE.go 3 (F1 := (36, [some (.ref 3), some (.ref 1), some (.int (nI m))], [.int (nI m), .ref 6, .int (w.1 5 m), .long (w.2 4 m), .ref 1], w)) rfl ?_
  refine xE.iald rfl (k := m) (rfl) (⟨hm, by omega⟩) rfl ?_
  show xE MX2_giveBack (37, [some (.ref 3), some (.ref 1), some (.int (nI m))], [.int (w.1 6 m), .int (w.1 5 m), .long (w.2 4 m), .ref 1], w) _ _
  refine xE.call rfl (c_become) ?_
  show xE MX2_giveBack (40, [some (.ref 3), some (.ref 1), some (.int (nI m))], [], (xuI (xuI (xuJ w 1 0 (w.2 4 m)) 1 1 (w.1 5 m)) 1 2 (w.1 6 m))) _ _
  refine xE.go 4 (F1 := (46, [some (.ref 3), some (.ref 1), some (.int (nI m))], [.int 1], (xuI (xuI (xuI (xuJ w 1 0 (w.2 4 m)) 1 1 (w.1 5 m)) 1 2 (w.1 6 m)) 3 3 (nI m)))) rfl ?_
  exact xE.iret .boolean 1 rfl rfl (rfl)
