theorem c_pedges_p {w : xW} : xC MX4_edges [.ref 11] w (some (.long (w.2 11 9))) w := by
  unfold xC
  show xE MX4_edges (0, [some (.ref 11)], [], w) _ _
  refine xE.go 2 (F1 := (4, [some (.ref 11)], [.long (w.2 11 9)], w)) rfl ?_
  exact xE.lret 1 rfl rfl
theorem c_pblocks_p {w : xW} : xC MX4_blocks [.ref 11] w (some (.int (w.1 11 7))) w := by
  unfold xC
  show xE MX4_blocks (0, [some (.ref 11)], [], w) _ _
  refine xE.go 2 (F1 := (4, [some (.ref 11)], [.int (w.1 11 7)], w)) rfl ?_
  exact xE.iret .int 1 rfl rfl (rfl)
theorem c_pnear_p {w : xW} {v : Nat} (hv : v < 10) : xC MX4_near [.ref 11, .int (nI v)] w (some (.int (w.1 12 v))) w := by
  unfold xC
  show xE MX4_near (0, [some (.ref 11), some (.int (nI v))], [], w) _ _
  refine xE.go 3 (F1 := (5, [some (.ref 11), some (.int (nI v))], [.int (nI v), .ref 12], w)) rfl ?_
  refine xE.call rfl (c_at rfl hv (by omega)) ?_
  show xE MX4_near (8, [some (.ref 11), some (.int (nI v))], [.int (w.1 12 v)], w) _ _
  exact xE.iret .int 1 rfl rfl (rfl)
theorem c_pverts_p {w : xW} {v : Nat} (hv : v < 9) : xC MX4_verticesOf [.ref 11, .int (nI v)] w (some (.int (w.1 13 v))) w := by
  unfold xC
  show xE MX4_verticesOf (0, [some (.ref 11), some (.int (nI v))], [], w) _ _
  refine xE.go 3 (F1 := (5, [some (.ref 11), some (.int (nI v))], [.int (nI v), .ref 13], w)) rfl ?_
  refine xE.call rfl (c_at rfl hv (by omega)) ?_
  show xE MX4_verticesOf (8, [some (.ref 11), some (.int (nI v))], [.int (w.1 13 v)], w) _ _
  exact xE.iret .int 1 rfl rfl (rfl)
theorem c_psucc_p {w : xW} {v x : Nat} (hv : v < 10) (hx : x < 10) : xC MX4_successor [.ref 11, .int (nI v), .int (nI x)] w (some (.int (w.1 17 (10 * v + x)))) w := by
  unfold xC
  show xE MX4_successor (0, [some (.ref 11), some (.int (nI v)), some (.int (nI x))], [], w) _ _
  refine xE.go 4 (F1 := (6, [some (.ref 11), some (.int (nI v)), some (.int (nI x))], [.int (nI x), .int (nI v), .ref 17], w)) rfl ?_
  refine xE.call rfl (c_cell) ?_
  show xE MX4_successor (9, [some (.ref 11), some (.int (nI v)), some (.int (nI x))], [.int (nI (10 * v + x)), .ref 17], w) _ _
  refine xE.call rfl (c_at rfl (by omega) (by omega)) ?_
  show xE MX4_successor (12, [some (.ref 11), some (.int (nI v)), some (.int (nI x))], [.int (w.1 17 (10 * v + x))], w) _ _
  exact xE.iret .int 1 rfl rfl (rfl)

theorem c_pedges_t {w : xW} : xC MX4_edges [.ref 25] w (some (.long (w.2 25 9))) w := by
  unfold xC
  show xE MX4_edges (0, [some (.ref 25)], [], w) _ _
  refine xE.go 2 (F1 := (4, [some (.ref 25)], [.long (w.2 25 9)], w)) rfl ?_
  exact xE.lret 1 rfl rfl
theorem c_pblocks_t {w : xW} : xC MX4_blocks [.ref 25] w (some (.int (w.1 25 7))) w := by
  unfold xC
  show xE MX4_blocks (0, [some (.ref 25)], [], w) _ _
  refine xE.go 2 (F1 := (4, [some (.ref 25)], [.int (w.1 25 7)], w)) rfl ?_
  exact xE.iret .int 1 rfl rfl (rfl)
theorem c_pnear_t {w : xW} {v : Nat} (hv : v < 10) : xC MX4_near [.ref 25, .int (nI v)] w (some (.int (w.1 26 v))) w := by
  unfold xC
  show xE MX4_near (0, [some (.ref 25), some (.int (nI v))], [], w) _ _
  refine xE.go 3 (F1 := (5, [some (.ref 25), some (.int (nI v))], [.int (nI v), .ref 26], w)) rfl ?_
  refine xE.call rfl (c_at rfl hv (by omega)) ?_
  show xE MX4_near (8, [some (.ref 25), some (.int (nI v))], [.int (w.1 26 v)], w) _ _
  exact xE.iret .int 1 rfl rfl (rfl)
theorem c_pverts_t {w : xW} {v : Nat} (hv : v < 9) : xC MX4_verticesOf [.ref 25, .int (nI v)] w (some (.int (w.1 27 v))) w := by
  unfold xC
  show xE MX4_verticesOf (0, [some (.ref 25), some (.int (nI v))], [], w) _ _
  refine xE.go 3 (F1 := (5, [some (.ref 25), some (.int (nI v))], [.int (nI v), .ref 27], w)) rfl ?_
  refine xE.call rfl (c_at rfl hv (by omega)) ?_
  show xE MX4_verticesOf (8, [some (.ref 25), some (.int (nI v))], [.int (w.1 27 v)], w) _ _
  exact xE.iret .int 1 rfl rfl (rfl)
theorem c_psucc_t {w : xW} {v x : Nat} (hv : v < 10) (hx : x < 10) : xC MX4_successor [.ref 25, .int (nI v), .int (nI x)] w (some (.int (w.1 31 (10 * v + x)))) w := by
  unfold xC
  show xE MX4_successor (0, [some (.ref 25), some (.int (nI v)), some (.int (nI x))], [], w) _ _
  refine xE.go 4 (F1 := (6, [some (.ref 25), some (.int (nI v)), some (.int (nI x))], [.int (nI x), .int (nI v), .ref 31], w)) rfl ?_
  refine xE.call rfl (c_cell) ?_
  show xE MX4_successor (9, [some (.ref 25), some (.int (nI v)), some (.int (nI x))], [.int (nI (10 * v + x)), .ref 31], w) _ _
  refine xE.call rfl (c_at rfl (by omega) (by omega)) ?_
  show xE MX4_successor (12, [some (.ref 25), some (.int (nI v)), some (.int (nI x))], [.int (w.1 31 (10 * v + x))], w) _ _
  exact xE.iret .int 1 rfl rfl (rfl)
