theorem c_tlen {w : xW} : xC MX0_length [.ref 7] w (some (.int (w.1 7 1))) w := by
  unfold xC
  show xE MX0_length (0, [some (.ref 7)], [], w) _ _
  refine xE.go 2 (F1 := (4, [some (.ref 7)], [.int (w.1 7 1)], w)) rfl ?_
  exact xE.iret .int 1 rfl rfl (rfl)
theorem c_tedits {w : xW} : xC MX0_edits [.ref 7] w (some (.int (w.1 7 4))) w := by
  unfold xC
  show xE MX0_edits (0, [some (.ref 7)], [], w) _ _
  refine xE.go 2 (F1 := (4, [some (.ref 7)], [.int (w.1 7 4)], w)) rfl ?_
  exact xE.iret .int 1 rfl rfl (rfl)
theorem c_terase {w : xW} : xC MX0_erase [.ref 7] w none (xuI w 7 1 0) := by
  unfold xC
  show xE MX0_erase (0, [some (.ref 7)], [], w) _ _
  refine xE.go 3 (F1 := (5, [some (.ref 7)], [], (xuI w 7 1 0))) rfl ?_
  exact xE.vret 1 rfl rfl
theorem c_twrite_0 {w : xW} {x : Int32} (hn : w.1 7 1 = nI 80) : xC MX0_write [.ref 7, .int x] w (some (.int 0)) w := by
  unfold xC
  show xE MX0_write (0, [some (.ref 7), some (.int x)], [], w) _ _
  refine xE.go 4 (F1 := (bif decide ((w.1 7 1) < 80) then 11 else 9, [some (.ref 7), some (.int x)], [], w)) rfl ?_
  refine xE.brF (by rw [hn]; decide) ?_
  refine xE.go 1 (F1 := (10, [some (.ref 7), some (.int x)], [.int 0], w)) rfl ?_
  exact xE.iret .boolean 1 rfl rfl (rfl)
theorem c_twrite {w : xW} {x : Int32} {n : Nat} (hn : w.1 7 1 = nI n) (h : n < 80) : xC MX0_write [.ref 7, .int x] w (some (.int 1)) (xuI (xuI w 8 n x) 7 1 (nI (n + 1))) := by
  unfold xC
  show xE MX0_write (0, [some (.ref 7), some (.int x)], [], w) _ _
  refine xE.go 4 (F1 := (bif decide ((w.1 7 1) < 80) then 11 else 9, [some (.ref 7), some (.int x)], [], w)) rfl ?_
  refine xE.brT (by rw [hn]; exact decide_eq_true (nI_lt (b := 80) h (by omega))) ?_
  refine xE.go 4 (F1 := (19, [some (.ref 7), some (.int x)], [.int (w.1 7 1), .ref 8], w)) rfl ?_
  rw [hn]
  refine xE.go 1 (F1 := (20, [some (.ref 7), some (.int x)], [.int x, .int (nI n), .ref 8], w)) rfl ?_
  refine xE.call rfl (c_put rfl h (by omega)) ?_
  show xE MX0_write (23, [some (.ref 7), some (.int x)], [], (xuI w 8 n x)) _ _
  refine xE.go 5 (F1 := (30, [some (.ref 7), some (.int x)], [.int (((xuI w 8 n x).1 7 1) + 1), .ref 7], (xuI w 8 n x))) rfl ?_
  rw [show (xuI w 8 n x).1 7 1 = nI n by rw [uI1, if_neg (by omega), hn], ← nI_succ]
  refine xE.go 2 (F1 := (34, [some (.ref 7), some (.int x)], [.int 1], (xuI (xuI w 8 n x) 7 1 (nI (n + 1))))) rfl ?_
  exact xE.iret .boolean 1 rfl rfl (rfl)
theorem c_tsign {w : xW} {n k : Nat} (hn : w.1 7 1 = nI n) (h : n ≤ 80) (hk : k < 2 ^ 31) : xC MX0_signAt [.ref 7, .int (nI k)] w (some (.int (if k < n then w.1 8 k else 0))) w := by
  unfold xC
  show xE MX0_signAt (0, [some (.ref 7), some (.int (nI k))], [], w) _ _
  by_cases hkn : k < n
  · rw [if_pos hkn]
    refine xE.go 4 (F1 := (bif decide ((w.1 7 1) ≤ (nI k)) then 19 else 8, [some (.ref 7), some (.int (nI k))], [], w)) rfl ?_
    refine xE.brF (by rw [hn]; exact decide_eq_false (nI_ge hkn (by omega))) ?_
    refine xE.go 3 (F1 := (13, [some (.ref 7), some (.int (nI k))], [.int (nI k), .ref 8], w)) rfl ?_
    refine xE.call rfl (c_at rfl (by omega) (by omega)) ?_
    show xE MX0_signAt (16, [some (.ref 7), some (.int (nI k))], [.int (w.1 8 k)], w) _ _
    refine xE.go 1 (F1 := (20, [some (.ref 7), some (.int (nI k))], [.int (w.1 8 k)], w)) rfl ?_
    exact xE.iret .int 1 rfl rfl (rfl)
  · rw [if_neg hkn]
    refine xE.go 4 (F1 := (bif decide ((w.1 7 1) ≤ (nI k)) then 19 else 8, [some (.ref 7), some (.int (nI k))], [], w)) rfl ?_
    refine xE.brT (by rw [hn]; exact decide_eq_true (nI_le (by omega) hk)) ?_
    refine xE.go 1 (F1 := (20, [some (.ref 7), some (.int (nI k))], [.int 0], w)) rfl ?_
    exact xE.iret .int 1 rfl rfl (rfl)
