theorem c_tlen {w : xW} : xC MX0_length [.ref 7] w (some (.int (w.1 7 1))) w := by
  unfold xC
  show xE MX0_length (0, [some (.ref 7)], [], w) _ _
  refine xE.go 2 (F1 := (4, [some (.ref 7)], [.int (w.1 7 1)], w)) rfl ?_
  exact xE.iret .int 1 rfl rfl (rfl)