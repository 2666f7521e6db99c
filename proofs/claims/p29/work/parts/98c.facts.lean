/-! printed by a program of mine: what each link rests on, by its place in the tables -/
set_option maxRecDepth 20000 in
theorem xcl_0 : xclOK 0 := by
  have h1 : ∀ w ∈ u_ws RX0 TX0 5, w ∈ lw_tbl := by decide +kernel
  have h2 : (u_ws RX0 TX0 5).all goodWord = true := by decide +kernel
  exact ⟨RX0, TX0, 5, tyX0, rfl, fun w hw => List.mem_filter.mpr ⟨h1 w hw, List.all_eq_true.mp h2 w hw⟩, tyX0_ok, nmX0⟩
set_option maxRecDepth 20000 in
theorem xcl_1 : xclOK 1 := by
  have h1 : ∀ w ∈ u_ws RX1 TX1 16, w ∈ lw_tbl := by decide +kernel
  have h2 : (u_ws RX1 TX1 16).all goodWord = true := by decide +kernel
  exact ⟨RX1, TX1, 16, tyX1, rfl, fun w hw => List.mem_filter.mpr ⟨h1 w hw, List.all_eq_true.mp h2 w hw⟩, tyX1_ok, nmX1⟩
set_option maxRecDepth 20000 in
theorem xcl_2 : xclOK 2 := by
  have h1 : ∀ w ∈ u_ws RX2 TX2 4, w ∈ lw_tbl := by decide +kernel
  have h2 : (u_ws RX2 TX2 4).all goodWord = true := by decide +kernel
  exact ⟨RX2, TX2, 4, tyX2, rfl, fun w hw => List.mem_filter.mpr ⟨h1 w hw, List.all_eq_true.mp h2 w hw⟩, tyX2_ok, nmX2⟩
set_option maxRecDepth 20000 in
theorem xcl_3 : xclOK 3 := by
  have h1 : ∀ w ∈ u_ws RX3 TX3 3, w ∈ lw_tbl := by decide +kernel
  have h2 : (u_ws RX3 TX3 3).all goodWord = true := by decide +kernel
  exact ⟨RX3, TX3, 3, tyX3, rfl, fun w hw => List.mem_filter.mpr ⟨h1 w hw, List.all_eq_true.mp h2 w hw⟩, tyX3_ok, nmX3⟩
set_option maxRecDepth 20000 in
theorem xcl_4 : xclOK 4 := by
  have h1 : ∀ w ∈ u_ws RX4 TX4 11, w ∈ lw_tbl := by decide +kernel
  have h2 : (u_ws RX4 TX4 11).all goodWord = true := by decide +kernel
  exact ⟨RX4, TX4, 11, tyX4, rfl, fun w hw => List.mem_filter.mpr ⟨h1 w hw, List.all_eq_true.mp h2 w hw⟩, tyX4_ok, nmX4⟩
set_option maxRecDepth 20000 in
theorem xcl_5 : xclOK 5 := by
  have h1 : ∀ w ∈ u_ws RX5 TX5 3, w ∈ lw_tbl := by decide +kernel
  have h2 : (u_ws RX5 TX5 3).all goodWord = true := by decide +kernel
  exact ⟨RX5, TX5, 3, tyX5, rfl, fun w hw => List.mem_filter.mpr ⟨h1 w hw, List.all_eq_true.mp h2 w hw⟩, tyX5_ok, nmX5⟩
set_option maxRecDepth 20000 in
theorem xcl_6 : xclOK 6 := by
  have h1 : ∀ w ∈ u_ws RX6 TX6 8, w ∈ lw_tbl := by decide +kernel
  have h2 : (u_ws RX6 TX6 8).all goodWord = true := by decide +kernel
  exact ⟨RX6, TX6, 8, tyX6, rfl, fun w hw => List.mem_filter.mpr ⟨h1 w hw, List.all_eq_true.mp h2 w hw⟩, tyX6_ok, nmX6⟩
set_option maxRecDepth 20000 in
theorem xcl_7 : xclOK 7 := by
  have h1 : ∀ w ∈ u_ws RX7 TX7 9, w ∈ lw_tbl := by decide +kernel
  have h2 : (u_ws RX7 TX7 9).all goodWord = true := by decide +kernel
  exact ⟨RX7, TX7, 9, tyX7, rfl, fun w hw => List.mem_filter.mpr ⟨h1 w hw, List.all_eq_true.mp h2 w hw⟩, tyX7_ok, nmX7⟩
theorem xfl_0_0 : xflOK 0 (9, 0, 0) := ⟨xcl_0, RX0, TX0, 5, rfl, by decide, xtb 78 (by decide +kernel) (by decide +kernel)⟩
theorem xfl_0_1 : xflOK 0 (15, 0, 2) := ⟨xcl_0, RX0, TX0, 5, rfl, by decide, xtb 80 (by decide +kernel) (by decide +kernel)⟩
theorem xfl_0_2 : xflOK 0 (18, 0, 3) := ⟨xcl_0, RX0, TX0, 5, rfl, by decide, xtb 81 (by decide +kernel) (by decide +kernel)⟩
theorem xfl_0_3 : xflOK 0 (21, 0, 1) := ⟨xcl_0, RX0, TX0, 5, rfl, by decide, xtb 79 (by decide +kernel) (by decide +kernel)⟩
theorem xfl_0 : ∀ q ∈ xflkL0, xflOK 0 q := List.forall_mem_cons.mpr ⟨xfl_0_0, List.forall_mem_cons.mpr ⟨xfl_0_1, List.forall_mem_cons.mpr ⟨xfl_0_2, List.forall_mem_cons.mpr ⟨xfl_0_3, fun _ h => absurd h List.not_mem_nil⟩⟩⟩⟩
theorem xfl_1_0 : xflOK 1 (9, 1, 0) := ⟨xcl_1, RX1, TX1, 16, rfl, by decide, xtb 105 (by decide +kernel) (by decide +kernel)⟩
theorem xfl_1_1 : xflOK 1 (15, 1, 1) := ⟨xcl_1, RX1, TX1, 16, rfl, by decide, xtb 106 (by decide +kernel) (by decide +kernel)⟩
theorem xfl_1_2 : xflOK 1 (18, 1, 6) := ⟨xcl_1, RX1, TX1, 16, rfl, by decide, xtb 111 (by decide +kernel) (by decide +kernel)⟩
theorem xfl_1_3 : xflOK 1 (21, 1, 7) := ⟨xcl_1, RX1, TX1, 16, rfl, by decide, xtb 112 (by decide +kernel) (by decide +kernel)⟩
theorem xfl_1_4 : xflOK 1 (24, 1, 13) := ⟨xcl_1, RX1, TX1, 16, rfl, by decide, xtb 118 (by decide +kernel) (by decide +kernel)⟩
theorem xfl_1_5 : xflOK 1 (27, 1, 15) := ⟨xcl_1, RX1, TX1, 16, rfl, by decide, xtb 120 (by decide +kernel) (by decide +kernel)⟩
theorem xfl_1_6 : xflOK 1 (30, 1, 4) := ⟨xcl_1, RX1, TX1, 16, rfl, by decide, xtb 109 (by decide +kernel) (by decide +kernel)⟩
theorem xfl_1_7 : xflOK 1 (34, 1, 5) := ⟨xcl_1, RX1, TX1, 16, rfl, by decide, xtb 110 (by decide +kernel) (by decide +kernel)⟩
theorem xfl_1_8 : xflOK 1 (37, 1, 8) := ⟨xcl_1, RX1, TX1, 16, rfl, by decide, xtb 113 (by decide +kernel) (by decide +kernel)⟩
theorem xfl_1_9 : xflOK 1 (57, 1, 2) := ⟨xcl_1, RX1, TX1, 16, rfl, by decide, xtb 107 (by decide +kernel) (by decide +kernel)⟩
theorem xfl_1_10 : xflOK 1 (83, 1, 3) := ⟨xcl_1, RX1, TX1, 16, rfl, by decide, xtb 108 (by decide +kernel) (by decide +kernel)⟩
theorem xfl_1_11 : xflOK 1 (99, 1, 14) := ⟨xcl_1, RX1, TX1, 16, rfl, by decide, xtb 119 (by decide +kernel) (by decide +kernel)⟩
theorem xfl_1_12 : xflOK 1 (105, 1, 12) := ⟨xcl_1, RX1, TX1, 16, rfl, by decide, xtb 117 (by decide +kernel) (by decide +kernel)⟩
theorem xfl_1_13 : xflOK 1 (115, 1, 9) := ⟨xcl_1, RX1, TX1, 16, rfl, by decide, xtb 114 (by decide +kernel) (by decide +kernel)⟩
theorem xfl_1_14 : xflOK 1 (118, 1, 10) := ⟨xcl_1, RX1, TX1, 16, rfl, by decide, xtb 115 (by decide +kernel) (by decide +kernel)⟩
theorem xfl_1_15 : xflOK 1 (121, 1, 11) := ⟨xcl_1, RX1, TX1, 16, rfl, by decide, xtb 116 (by decide +kernel) (by decide +kernel)⟩
theorem xfl_1 : ∀ q ∈ xflkL1, xflOK 1 q := List.forall_mem_cons.mpr ⟨xfl_1_0, List.forall_mem_cons.mpr ⟨xfl_1_1, List.forall_mem_cons.mpr ⟨xfl_1_2, List.forall_mem_cons.mpr ⟨xfl_1_3, List.forall_mem_cons.mpr ⟨xfl_1_4, List.forall_mem_cons.mpr ⟨xfl_1_5, List.forall_mem_cons.mpr ⟨xfl_1_6, List.forall_mem_cons.mpr ⟨xfl_1_7, List.forall_mem_cons.mpr ⟨xfl_1_8, List.forall_mem_cons.mpr ⟨xfl_1_9, List.forall_mem_cons.mpr ⟨xfl_1_10, List.forall_mem_cons.mpr ⟨xfl_1_11, List.forall_mem_cons.mpr ⟨xfl_1_12, List.forall_mem_cons.mpr ⟨xfl_1_13, List.forall_mem_cons.mpr ⟨xfl_1_14, List.forall_mem_cons.mpr ⟨xfl_1_15, fun _ h => absurd h List.not_mem_nil⟩⟩⟩⟩⟩⟩⟩⟩⟩⟩⟩⟩⟩⟩⟩⟩
theorem xfl_2_0 : xflOK 2 (9, 2, 0) := ⟨xcl_2, RX2, TX2, 4, rfl, by decide, xtb 57 (by decide +kernel) (by decide +kernel)⟩
theorem xfl_2_1 : xflOK 2 (15, 2, 1) := ⟨xcl_2, RX2, TX2, 4, rfl, by decide, xtb 58 (by decide +kernel) (by decide +kernel)⟩
theorem xfl_2_2 : xflOK 2 (19, 2, 2) := ⟨xcl_2, RX2, TX2, 4, rfl, by decide, xtb 59 (by decide +kernel) (by decide +kernel)⟩
theorem xfl_2_3 : xflOK 2 (22, 2, 3) := ⟨xcl_2, RX2, TX2, 4, rfl, by decide, xtb 60 (by decide +kernel) (by decide +kernel)⟩
theorem xfl_2 : ∀ q ∈ xflkL2, xflOK 2 q := List.forall_mem_cons.mpr ⟨xfl_2_0, List.forall_mem_cons.mpr ⟨xfl_2_1, List.forall_mem_cons.mpr ⟨xfl_2_2, List.forall_mem_cons.mpr ⟨xfl_2_3, fun _ h => absurd h List.not_mem_nil⟩⟩⟩⟩
theorem xfl_3_0 : xflOK 3 (9, 3, 2) := ⟨xcl_3, RX3, TX3, 3, rfl, by decide, xtb 227 (by decide +kernel) (by decide +kernel)⟩
theorem xfl_3_1 : xflOK 3 (15, 3, 1) := ⟨xcl_3, RX3, TX3, 3, rfl, by decide, xtb 226 (by decide +kernel) (by decide +kernel)⟩
theorem xfl_3_2 : xflOK 3 (19, 3, 0) := ⟨xcl_3, RX3, TX3, 3, rfl, by decide, xtb 225 (by decide +kernel) (by decide +kernel)⟩
theorem xfl_3 : ∀ q ∈ xflkL3, xflOK 3 q := List.forall_mem_cons.mpr ⟨xfl_3_0, List.forall_mem_cons.mpr ⟨xfl_3_1, List.forall_mem_cons.mpr ⟨xfl_3_2, fun _ h => absurd h List.not_mem_nil⟩⟩⟩
theorem xfl_4_0 : xflOK 4 (9, 4, 0) := ⟨xcl_4, RX4, TX4, 11, rfl, by decide, xtb 154 (by decide +kernel) (by decide +kernel)⟩
theorem xfl_4_1 : xflOK 4 (15, 4, 1) := ⟨xcl_4, RX4, TX4, 11, rfl, by decide, xtb 155 (by decide +kernel) (by decide +kernel)⟩
theorem xfl_4_2 : xflOK 4 (18, 4, 2) := ⟨xcl_4, RX4, TX4, 11, rfl, by decide, xtb 156 (by decide +kernel) (by decide +kernel)⟩
theorem xfl_4_3 : xflOK 4 (21, 4, 3) := ⟨xcl_4, RX4, TX4, 11, rfl, by decide, xtb 157 (by decide +kernel) (by decide +kernel)⟩
theorem xfl_4_4 : xflOK 4 (24, 4, 4) := ⟨xcl_4, RX4, TX4, 11, rfl, by decide, xtb 158 (by decide +kernel) (by decide +kernel)⟩
theorem xfl_4_5 : xflOK 4 (27, 4, 5) := ⟨xcl_4, RX4, TX4, 11, rfl, by decide, xtb 159 (by decide +kernel) (by decide +kernel)⟩
theorem xfl_4_6 : xflOK 4 (33, 4, 6) := ⟨xcl_4, RX4, TX4, 11, rfl, by decide, xtb 160 (by decide +kernel) (by decide +kernel)⟩
theorem xfl_4_7 : xflOK 4 (37, 4, 10) := ⟨xcl_4, RX4, TX4, 11, rfl, by decide, xtb 164 (by decide +kernel) (by decide +kernel)⟩
theorem xfl_4_8 : xflOK 4 (41, 4, 9) := ⟨xcl_4, RX4, TX4, 11, rfl, by decide, xtb 163 (by decide +kernel) (by decide +kernel)⟩
theorem xfl_4_9 : xflOK 4 (45, 4, 8) := ⟨xcl_4, RX4, TX4, 11, rfl, by decide, xtb 162 (by decide +kernel) (by decide +kernel)⟩
theorem xfl_4_10 : xflOK 4 (48, 4, 7) := ⟨xcl_4, RX4, TX4, 11, rfl, by decide, xtb 161 (by decide +kernel) (by decide +kernel)⟩
theorem xfl_4 : ∀ q ∈ xflkL4, xflOK 4 q := List.forall_mem_cons.mpr ⟨xfl_4_0, List.forall_mem_cons.mpr ⟨xfl_4_1, List.forall_mem_cons.mpr ⟨xfl_4_2, List.forall_mem_cons.mpr ⟨xfl_4_3, List.forall_mem_cons.mpr ⟨xfl_4_4, List.forall_mem_cons.mpr ⟨xfl_4_5, List.forall_mem_cons.mpr ⟨xfl_4_6, List.forall_mem_cons.mpr ⟨xfl_4_7, List.forall_mem_cons.mpr ⟨xfl_4_8, List.forall_mem_cons.mpr ⟨xfl_4_9, List.forall_mem_cons.mpr ⟨xfl_4_10, fun _ h => absurd h List.not_mem_nil⟩⟩⟩⟩⟩⟩⟩⟩⟩⟩⟩
theorem xfl_5_0 : xflOK 5 (7, 5, 0) := ⟨xcl_5, RX5, TX5, 3, rfl, by decide, xtb 41 (by decide +kernel) (by decide +kernel)⟩
theorem xfl_5_1 : xflOK 5 (13, 5, 1) := ⟨xcl_5, RX5, TX5, 3, rfl, by decide, xtb 42 (by decide +kernel) (by decide +kernel)⟩
theorem xfl_5_2 : xflOK 5 (17, 5, 2) := ⟨xcl_5, RX5, TX5, 3, rfl, by decide, xtb 43 (by decide +kernel) (by decide +kernel)⟩
theorem xfl_5 : ∀ q ∈ xflkL5, xflOK 5 q := List.forall_mem_cons.mpr ⟨xfl_5_0, List.forall_mem_cons.mpr ⟨xfl_5_1, List.forall_mem_cons.mpr ⟨xfl_5_2, fun _ h => absurd h List.not_mem_nil⟩⟩⟩
theorem xfl_6_0 : xflOK 6 (9, 6, 0) := ⟨xcl_6, RX6, TX6, 8, rfl, by decide, xtb 194 (by decide +kernel) (by decide +kernel)⟩
theorem xfl_6_1 : xflOK 6 (15, 6, 1) := ⟨xcl_6, RX6, TX6, 8, rfl, by decide, xtb 195 (by decide +kernel) (by decide +kernel)⟩
theorem xfl_6_2 : xflOK 6 (18, 6, 2) := ⟨xcl_6, RX6, TX6, 8, rfl, by decide, xtb 196 (by decide +kernel) (by decide +kernel)⟩
theorem xfl_6_3 : xflOK 6 (21, 6, 3) := ⟨xcl_6, RX6, TX6, 8, rfl, by decide, xtb 197 (by decide +kernel) (by decide +kernel)⟩
theorem xfl_6_4 : xflOK 6 (24, 6, 7) := ⟨xcl_6, RX6, TX6, 8, rfl, by decide, xtb 201 (by decide +kernel) (by decide +kernel)⟩
theorem xfl_6_5 : xflOK 6 (28, 6, 6) := ⟨xcl_6, RX6, TX6, 8, rfl, by decide, xtb 200 (by decide +kernel) (by decide +kernel)⟩
theorem xfl_6_6 : xflOK 6 (37, 6, 4) := ⟨xcl_6, RX6, TX6, 8, rfl, by decide, xtb 198 (by decide +kernel) (by decide +kernel)⟩
theorem xfl_6_7 : xflOK 6 (41, 6, 5) := ⟨xcl_6, RX6, TX6, 8, rfl, by decide, xtb 199 (by decide +kernel) (by decide +kernel)⟩
theorem xfl_6 : ∀ q ∈ xflkL6, xflOK 6 q := List.forall_mem_cons.mpr ⟨xfl_6_0, List.forall_mem_cons.mpr ⟨xfl_6_1, List.forall_mem_cons.mpr ⟨xfl_6_2, List.forall_mem_cons.mpr ⟨xfl_6_3, List.forall_mem_cons.mpr ⟨xfl_6_4, List.forall_mem_cons.mpr ⟨xfl_6_5, List.forall_mem_cons.mpr ⟨xfl_6_6, List.forall_mem_cons.mpr ⟨xfl_6_7, fun _ h => absurd h List.not_mem_nil⟩⟩⟩⟩⟩⟩⟩⟩
theorem xfl_7_0 : xflOK 7 (12, 7, 0) := ⟨xcl_7, RX7, TX7, 9, rfl, by decide, xtb 235 (by decide +kernel) (by decide +kernel)⟩
theorem xfl_7_1 : xflOK 7 (16, 7, 1) := ⟨xcl_7, RX7, TX7, 9, rfl, by decide, xtb 236 (by decide +kernel) (by decide +kernel)⟩
theorem xfl_7_2 : xflOK 7 (22, 7, 3) := ⟨xcl_7, RX7, TX7, 9, rfl, by decide, xtb 237 (by decide +kernel) (by decide +kernel)⟩
theorem xfl_7_3 : xflOK 7 (29, 7, 4) := ⟨xcl_7, RX7, TX7, 9, rfl, by decide, xtb 238 (by decide +kernel) (by decide +kernel)⟩
theorem xfl_7_4 : xflOK 7 (36, 7, 5) := ⟨xcl_7, RX7, TX7, 9, rfl, by decide, xtb 239 (by decide +kernel) (by decide +kernel)⟩
theorem xfl_7_5 : xflOK 7 (40, 7, 6) := ⟨xcl_7, RX7, TX7, 9, rfl, by decide, xtb 240 (by decide +kernel) (by decide +kernel)⟩
theorem xfl_7_6 : xflOK 7 (46, 7, 7) := ⟨xcl_7, RX7, TX7, 9, rfl, by decide, xtb 241 (by decide +kernel) (by decide +kernel)⟩
theorem xfl_7_7 : xflOK 7 (53, 7, 8) := ⟨xcl_7, RX7, TX7, 9, rfl, by decide, xtb 242 (by decide +kernel) (by decide +kernel)⟩
theorem xfl_7 : ∀ q ∈ xflkL7, xflOK 7 q := List.forall_mem_cons.mpr ⟨xfl_7_0, List.forall_mem_cons.mpr ⟨xfl_7_1, List.forall_mem_cons.mpr ⟨xfl_7_2, List.forall_mem_cons.mpr ⟨xfl_7_3, List.forall_mem_cons.mpr ⟨xfl_7_4, List.forall_mem_cons.mpr ⟨xfl_7_5, List.forall_mem_cons.mpr ⟨xfl_7_6, List.forall_mem_cons.mpr ⟨xfl_7_7, fun _ h => absurd h List.not_mem_nil⟩⟩⟩⟩⟩⟩⟩⟩
theorem xflk_ok {c idx : Nat} {v : Nat × Nat} (h : xflk c idx = some v) : xflOK c (idx, v) := by
  unfold xflk at h
  split at h
  · exact xfl_0 _ (xfind_mem h)
  · exact xfl_1 _ (xfind_mem h)
  · exact xfl_2 _ (xfind_mem h)
  · exact xfl_3 _ (xfind_mem h)
  · exact xfl_4 _ (xfind_mem h)
  · exact xfl_5 _ (xfind_mem h)
  · exact xfl_6 _ (xfind_mem h)
  · exact xfl_7 _ (xfind_mem h)
  · cases h
theorem xcn_3_0 : xconOK 3 (26, .long (-1)) := xtb 520 (by decide +kernel) (by decide +kernel)
theorem xcn_3 : ∀ q ∈ xconL3, xconOK 3 q := List.forall_mem_cons.mpr ⟨xcn_3_0, fun _ h => absurd h List.not_mem_nil⟩
theorem xcn_7_0 : xconOK 7 (214, .double 4627448617123184640) := xtb 502 (by decide +kernel) (by decide +kernel)
theorem xcn_7 : ∀ q ∈ xconL7, xconOK 7 q := List.forall_mem_cons.mpr ⟨xcn_7_0, fun _ h => absurd h List.not_mem_nil⟩
theorem xcn_9_0 : xconOK 9 (7, .int (37199)) := xtb 324 (by decide +kernel) (by decide +kernel)
theorem xcn_9_1 : xconOK 9 (8, .int (1801525)) := xtb 325 (by decide +kernel) (by decide +kernel)
theorem xcn_9_2 : xconOK 9 (9, .int (2147483647)) := xtb 329 (by decide +kernel) (by decide +kernel)
theorem xcn_9_3 : xconOK 9 (70, .double 4627448617123184640) := xtb 503 (by decide +kernel) (by decide +kernel)
theorem xcn_9 : ∀ q ∈ xconL9, xconOK 9 q := List.forall_mem_cons.mpr ⟨xcn_9_0, List.forall_mem_cons.mpr ⟨xcn_9_1, List.forall_mem_cons.mpr ⟨xcn_9_2, List.forall_mem_cons.mpr ⟨xcn_9_3, fun _ h => absurd h List.not_mem_nil⟩⟩⟩⟩
theorem xcn_20_0 : xconOK 20 (265, .int (1431655765)) := xtb 399 (by decide +kernel) (by decide +kernel)
theorem xcn_20_1 : xconOK 20 (266, .int (858993459)) := xtb 400 (by decide +kernel) (by decide +kernel)
theorem xcn_20_2 : xconOK 20 (267, .int (252645135)) := xtb 401 (by decide +kernel) (by decide +kernel)
theorem xcn_20 : ∀ q ∈ xconL20, xconOK 20 q := List.forall_mem_cons.mpr ⟨xcn_20_0, List.forall_mem_cons.mpr ⟨xcn_20_1, List.forall_mem_cons.mpr ⟨xcn_20_2, fun _ h => absurd h List.not_mem_nil⟩⟩⟩
theorem xcn_21_0 : xconOK 21 (314, .long (6148914691236517205)) := xtb 314 (by decide +kernel) (by decide +kernel)
theorem xcn_21_1 : xconOK 21 (316, .long (3689348814741910323)) := xtb 315 (by decide +kernel) (by decide +kernel)
theorem xcn_21_2 : xconOK 21 (318, .long (1085102592571150095)) := xtb 316 (by decide +kernel) (by decide +kernel)
theorem xcn_21 : ∀ q ∈ xconL21, xconOK 21 q := List.forall_mem_cons.mpr ⟨xcn_21_0, List.forall_mem_cons.mpr ⟨xcn_21_1, List.forall_mem_cons.mpr ⟨xcn_21_2, fun _ h => absurd h List.not_mem_nil⟩⟩⟩
theorem xcon_ok {c idx : Nat} {v : Value} (h : xcon c idx = some v) : xconOK c (idx, v) := by
  unfold xcon at h
  split at h
  · exact xcn_3 _ (xfind_mem h)
  · exact xcn_7 _ (xfind_mem h)
  · exact xcn_9 _ (xfind_mem h)
  · exact xcn_20 _ (xfind_mem h)
  · exact xcn_21 _ (xfind_mem h)
  · cases h
def xprmOK (c : Nat) (q : Nat × Bool) : Prop := Cond.methodLink (xcls c) q.1 (bif q.2 then Lib.Math.min.name else Lib.Math.max.name) ∈ xTB ∧ Cond.static (bif q.2 then Lib.Math.min.name else Lib.Math.max.name) ∈ xTB ∧ Cond.initialized "java/lang/Math" ∈ xTB ∧ Cond.code (bif q.2 then Lib.Math.min.name else Lib.Math.max.name) (bif q.2 then Lib.Math.min.code else Lib.Math.max.code) 2 (some .int) ∈ xTB
set_option maxRecDepth 100000 in
theorem xpr_7_220 : xprmOK 7 (220, true) := ⟨xtb 276 (by decide +kernel) (by decide +kernel), xtb 277 (by decide +kernel) (by decide +kernel), xtb 24 (by decide +kernel) (by decide +kernel), xtb 278 rfl rfl⟩
set_option maxRecDepth 100000 in
theorem xpr_7_225 : xprmOK 7 (225, false) := ⟨xtb 279 (by decide +kernel) (by decide +kernel), xtb 280 (by decide +kernel) (by decide +kernel), xtb 24 (by decide +kernel) (by decide +kernel), xtb 281 rfl rfl⟩
theorem xpr_7 : ∀ q ∈ xprmL7, xprmOK 7 q := List.forall_mem_cons.mpr ⟨xpr_7_220, List.forall_mem_cons.mpr ⟨xpr_7_225, fun _ h => absurd h List.not_mem_nil⟩⟩
theorem xprm_ok {c idx : Nat} {v : Bool} (h : xprm c idx = some v) : xprmOK c (idx, v) := by
  unfold xprm at h
  split at h
  · exact xpr_7 _ (xfind_mem h)
  · cases h
/-- a method of the table -/
def xmOK (M : xMI) : Prop := xok M ∧ plainName (xm_y M).cls = true ∧ ((xm_y M).cls ≠ "java/lang/invoke/MethodHandle" ∧ (xm_y M).cls ≠ "java/lang/invoke/VarHandle" ∧ (parseMethodDescriptor (xm_y M).desc).map (fun d => d.parameters.length) = some (xm_a M)) ∧ Cond.code (xm_y M) (xm_b M) (xm_n M) (xm_r M) ∈ xTB ∧ Cond.initialized (xm_y M).cls ∈ xTB ∧ (xm_y M).cls = xcls (xm_c M)
def xlkOK (c : Nat) (q : Nat × Nat × xMI) : Prop := xmOK q.2.2 ∧
  ((q.2.1 = 0 ∧ Cond.methodLink (xcls c) q.1 (xm_y q.2.2) ∈ xTB ∧ Cond.static (xm_y q.2.2) ∈ xTB) ∨ (q.2.1 = 1 ∧ Cond.methodLinkNest (xcls c) q.1 (xm_y q.2.2) RX7 ∈ lw_tbl ∧ Cond.static (xm_y q.2.2) ∈ xTB) ∨
    (q.2.1 = 2 ∧ Cond.methodLink (xcls c) q.1 (xm_y q.2.2) ∈ xTB ∧ Cond.instanceMethod (xm_y q.2.2) ∈ xTB ∧ Cond.selects (xm_y q.2.2).cls (xm_y q.2.2) (xm_y q.2.2) ∈ xTB ∧ ∃ (T : u_T) (N : Nat), vwCl[xm_c q.2.2]? = some (xcls (xm_c q.2.2), T, N)))
set_option maxRecDepth 100000 in
theorem mkX0_length : xmOK MX0_length := ⟨by unfold xok; decide +kernel, by decide +kernel, ⟨by decide +kernel, by decide +kernel, by decide +kernel⟩, xtb 497 rfl rfl, xtb 19 (by decide +kernel) (by decide +kernel), rfl⟩
set_option maxRecDepth 100000 in
theorem mkX1_edges : xmOK MX1_edges := ⟨by unfold xok; decide +kernel, by decide +kernel, ⟨by decide +kernel, by decide +kernel, by decide +kernel⟩, xtb 446 rfl rfl, xtb 21 (by decide +kernel) (by decide +kernel), rfl⟩
set_option maxRecDepth 100000 in
theorem mkX1_placedEdges : xmOK MX1_placedEdges := ⟨by unfold xok; decide +kernel, by decide +kernel, ⟨by decide +kernel, by decide +kernel, by decide +kernel⟩, xtb 450 rfl rfl, xtb 21 (by decide +kernel) (by decide +kernel), rfl⟩
set_option maxRecDepth 100000 in
theorem mkX1_faces : xmOK MX1_faces := ⟨by unfold xok; decide +kernel, by decide +kernel, ⟨by decide +kernel, by decide +kernel, by decide +kernel⟩, xtb 454 rfl rfl, xtb 21 (by decide +kernel) (by decide +kernel), rfl⟩
set_option maxRecDepth 100000 in
theorem mkX1_embed : xmOK MX1_embed := ⟨by unfold xok; decide +kernel, by decide +kernel, ⟨by decide +kernel, by decide +kernel, by decide +kernel⟩, xtb 388 rfl rfl, xtb 21 (by decide +kernel) (by decide +kernel), rfl⟩
set_option maxRecDepth 100000 in
theorem mkX1_writeSuccessors : xmOK MX1_writeSuccessors := ⟨by unfold xok; decide +kernel, by decide +kernel, ⟨by decide +kernel, by decide +kernel, by decide +kernel⟩, xtb 462 rfl rfl, xtb 21 (by decide +kernel) (by decide +kernel), rfl⟩
set_option maxRecDepth 100000 in
theorem mkX1_start : xmOK MX1_start := ⟨by unfold xok; decide +kernel, by decide +kernel, ⟨by decide +kernel, by decide +kernel, by decide +kernel⟩, xtb 392 rfl rfl, xtb 21 (by decide +kernel) (by decide +kernel), rfl⟩
set_option maxRecDepth 100000 in
theorem mkX1_placeCycle : xmOK MX1_placeCycle := ⟨by unfold xok; decide +kernel, by decide +kernel, ⟨by decide +kernel, by decide +kernel, by decide +kernel⟩, xtb 405 rfl rfl, xtb 21 (by decide +kernel) (by decide +kernel), rfl⟩
set_option maxRecDepth 100000 in
theorem mkX1_placeEdge : xmOK MX1_placeEdge := ⟨by unfold xok; decide +kernel, by decide +kernel, ⟨by decide +kernel, by decide +kernel, by decide +kernel⟩, xtb 421 rfl rfl, xtb 21 (by decide +kernel) (by decide +kernel), rfl⟩
set_option maxRecDepth 100000 in
theorem mkX1_findPath : xmOK MX1_findPath := ⟨by unfold xok; decide +kernel, by decide +kernel, ⟨by decide +kernel, by decide +kernel, by decide +kernel⟩, xtb 413 rfl rfl, xtb 21 (by decide +kernel) (by decide +kernel), rfl⟩
set_option maxRecDepth 100000 in
theorem mkX1_chooseFragment : xmOK MX1_chooseFragment := ⟨by unfold xok; decide +kernel, by decide +kernel, ⟨by decide +kernel, by decide +kernel, by decide +kernel⟩, xtb 425 rfl rfl, xtb 21 (by decide +kernel) (by decide +kernel), rfl⟩
set_option maxRecDepth 100000 in
theorem mkX1_weigh : xmOK MX1_weigh := ⟨by unfold xok; decide +kernel, by decide +kernel, ⟨by decide +kernel, by decide +kernel, by decide +kernel⟩, xtb 430 rfl rfl, xtb 21 (by decide +kernel) (by decide +kernel), rfl⟩
set_option maxRecDepth 100000 in
theorem mkX1_choosePath : xmOK MX1_choosePath := ⟨by unfold xok; decide +kernel, by decide +kernel, ⟨by decide +kernel, by decide +kernel, by decide +kernel⟩, xtb 434 rfl rfl, xtb 21 (by decide +kernel) (by decide +kernel), rfl⟩
set_option maxRecDepth 100000 in
theorem mkX1_splitFace : xmOK MX1_splitFace := ⟨by unfold xok; decide +kernel, by decide +kernel, ⟨by decide +kernel, by decide +kernel, by decide +kernel⟩, xtb 438 rfl rfl, xtb 21 (by decide +kernel) (by decide +kernel), rfl⟩
set_option maxRecDepth 100000 in
theorem mkX2_size : xmOK MX2_size := ⟨by unfold xok; decide +kernel, by decide +kernel, ⟨by decide +kernel, by decide +kernel, by decide +kernel⟩, xtb 493 rfl rfl, xtb 18 (by decide +kernel) (by decide +kernel), rfl⟩
set_option maxRecDepth 100000 in
theorem mkX2_remember : xmOK MX2_remember := ⟨by unfold xok; decide +kernel, by decide +kernel, ⟨by decide +kernel, by decide +kernel, by decide +kernel⟩, xtb 285 rfl rfl, xtb 18 (by decide +kernel) (by decide +kernel), rfl⟩
set_option maxRecDepth 100000 in
theorem mkX2_forgetOldest : xmOK MX2_forgetOldest := ⟨by unfold xok; decide +kernel, by decide +kernel, ⟨by decide +kernel, by decide +kernel, by decide +kernel⟩, xtb 289 rfl rfl, xtb 18 (by decide +kernel) (by decide +kernel), rfl⟩
set_option maxRecDepth 100000 in
theorem mkX3_find : xmOK MX3_find := ⟨by unfold xok; decide +kernel, by decide +kernel, ⟨by decide +kernel, by decide +kernel, by decide +kernel⟩, xtb 518 rfl rfl, xtb 23 (by decide +kernel) (by decide +kernel), rfl⟩
set_option maxRecDepth 100000 in
theorem mkX3_size : xmOK MX3_size := ⟨by unfold xok; decide +kernel, by decide +kernel, ⟨by decide +kernel, by decide +kernel, by decide +kernel⟩, xtb 533 rfl rfl, xtb 23 (by decide +kernel) (by decide +kernel), rfl⟩
set_option maxRecDepth 100000 in
theorem mkX3_holds : xmOK MX3_holds := ⟨by unfold xok; decide +kernel, by decide +kernel, ⟨by decide +kernel, by decide +kernel, by decide +kernel⟩, xtb 525 rfl rfl, xtb 23 (by decide +kernel) (by decide +kernel), rfl⟩
set_option maxRecDepth 100000 in
theorem mkX3_verticesInMoreThan : xmOK MX3_verticesInMoreThan := ⟨by unfold xok; decide +kernel, by decide +kernel, ⟨by decide +kernel, by decide +kernel, by decide +kernel⟩, xtb 538 rfl rfl, xtb 23 (by decide +kernel) (by decide +kernel), rfl⟩
set_option maxRecDepth 100000 in
theorem mkX4_read : xmOK MX4_read := ⟨by unfold xok; decide +kernel, by decide +kernel, ⟨by decide +kernel, by decide +kernel, by decide +kernel⟩, xtb 353 rfl rfl, xtb 20 (by decide +kernel) (by decide +kernel), rfl⟩
set_option maxRecDepth 100000 in
theorem mkX4_edges : xmOK MX4_edges := ⟨by unfold xok; decide +kernel, by decide +kernel, ⟨by decide +kernel, by decide +kernel, by decide +kernel⟩, xtb 563 rfl rfl, xtb 20 (by decide +kernel) (by decide +kernel), rfl⟩
set_option maxRecDepth 100000 in
theorem mkX4_near : xmOK MX4_near := ⟨by unfold xok; decide +kernel, by decide +kernel, ⟨by decide +kernel, by decide +kernel, by decide +kernel⟩, xtb 466 rfl rfl, xtb 20 (by decide +kernel) (by decide +kernel), rfl⟩
set_option maxRecDepth 100000 in
theorem mkX4_blocks : xmOK MX4_blocks := ⟨by unfold xok; decide +kernel, by decide +kernel, ⟨by decide +kernel, by decide +kernel, by decide +kernel⟩, xtb 478 rfl rfl, xtb 20 (by decide +kernel) (by decide +kernel), rfl⟩
set_option maxRecDepth 100000 in
theorem mkX4_verticesOf : xmOK MX4_verticesOf := ⟨by unfold xok; decide +kernel, by decide +kernel, ⟨by decide +kernel, by decide +kernel, by decide +kernel⟩, xtb 573 rfl rfl, xtb 20 (by decide +kernel) (by decide +kernel), rfl⟩
set_option maxRecDepth 100000 in
theorem mkX4_isPlanar : xmOK MX4_isPlanar := ⟨by unfold xok; decide +kernel, by decide +kernel, ⟨by decide +kernel, by decide +kernel, by decide +kernel⟩, xtb 458 rfl rfl, xtb 20 (by decide +kernel) (by decide +kernel), rfl⟩
set_option maxRecDepth 100000 in
theorem mkX4_successor : xmOK MX4_successor := ⟨by unfold xok; decide +kernel, by decide +kernel, ⟨by decide +kernel, by decide +kernel, by decide +kernel⟩, xtb 582 rfl rfl, xtb 20 (by decide +kernel) (by decide +kernel), rfl⟩
set_option maxRecDepth 100000 in
theorem mkX4_blockOf : xmOK MX4_blockOf := ⟨by unfold xok; decide +kernel, by decide +kernel, ⟨by decide +kernel, by decide +kernel, by decide +kernel⟩, xtb 374 rfl rfl, xtb 20 (by decide +kernel) (by decide +kernel), rfl⟩
set_option maxRecDepth 100000 in
theorem mkX4_components : xmOK MX4_components := ⟨by unfold xok; decide +kernel, by decide +kernel, ⟨by decide +kernel, by decide +kernel, by decide +kernel⟩, xtb 474 rfl rfl, xtb 20 (by decide +kernel) (by decide +kernel), rfl⟩
set_option maxRecDepth 100000 in
theorem mkX4_cutVertices : xmOK MX4_cutVertices := ⟨by unfold xok; decide +kernel, by decide +kernel, ⟨by decide +kernel, by decide +kernel, by decide +kernel⟩, xtb 482 rfl rfl, xtb 20 (by decide +kernel) (by decide +kernel), rfl⟩
set_option maxRecDepth 100000 in
theorem mkX4_bridges : xmOK MX4_bridges := ⟨by unfold xok; decide +kernel, by decide +kernel, ⟨by decide +kernel, by decide +kernel, by decide +kernel⟩, xtb 487 rfl rfl, xtb 20 (by decide +kernel) (by decide +kernel), rfl⟩
set_option maxRecDepth 100000 in
theorem mkX4_fillNear : xmOK MX4_fillNear := ⟨by unfold xok; decide +kernel, by decide +kernel, ⟨by decide +kernel, by decide +kernel, by decide +kernel⟩, xtb 357 rfl rfl, xtb 20 (by decide +kernel) (by decide +kernel), rfl⟩
set_option maxRecDepth 100000 in
theorem mkX4_blockAround : xmOK MX4_blockAround := ⟨by unfold xok; decide +kernel, by decide +kernel, ⟨by decide +kernel, by decide +kernel, by decide +kernel⟩, xtb 378 rfl rfl, xtb 20 (by decide +kernel) (by decide +kernel), rfl⟩
set_option maxRecDepth 100000 in
theorem mkX4_keepBlock : xmOK MX4_keepBlock := ⟨by unfold xok; decide +kernel, by decide +kernel, ⟨by decide +kernel, by decide +kernel, by decide +kernel⟩, xtb 442 rfl rfl, xtb 20 (by decide +kernel) (by decide +kernel), rfl⟩
set_option maxRecDepth 100000 in
theorem mkX5_edges : xmOK MX5_edges := ⟨by unfold xok; decide +kernel, by decide +kernel, ⟨by decide +kernel, by decide +kernel, by decide +kernel⟩, xtb 293 rfl rfl, xtb 17 (by decide +kernel) (by decide +kernel), rfl⟩
set_option maxRecDepth 100000 in
theorem mkX5_added : xmOK MX5_added := ⟨by unfold xok; decide +kernel, by decide +kernel, ⟨by decide +kernel, by decide +kernel, by decide +kernel⟩, xtb 297 rfl rfl, xtb 17 (by decide +kernel) (by decide +kernel), rfl⟩
set_option maxRecDepth 100000 in
theorem mkX5_dropped : xmOK MX5_dropped := ⟨by unfold xok; decide +kernel, by decide +kernel, ⟨by decide +kernel, by decide +kernel, by decide +kernel⟩, xtb 301 rfl rfl, xtb 17 (by decide +kernel) (by decide +kernel), rfl⟩
set_option maxRecDepth 100000 in
theorem mkX5_size : xmOK MX5_size := ⟨by unfold xok; decide +kernel, by decide +kernel, ⟨by decide +kernel, by decide +kernel, by decide +kernel⟩, xtb 310 rfl rfl, xtb 17 (by decide +kernel) (by decide +kernel), rfl⟩
set_option maxRecDepth 100000 in
theorem mkX5_joins : xmOK MX5_joins := ⟨by unfold xok; decide +kernel, by decide +kernel, ⟨by decide +kernel, by decide +kernel, by decide +kernel⟩, xtb 272 rfl rfl, xtb 17 (by decide +kernel) (by decide +kernel), rfl⟩
set_option maxRecDepth 100000 in
theorem mkX5_flip : xmOK MX5_flip := ⟨by unfold xok; decide +kernel, by decide +kernel, ⟨by decide +kernel, by decide +kernel, by decide +kernel⟩, xtb 305 rfl rfl, xtb 17 (by decide +kernel) (by decide +kernel), rfl⟩
set_option maxRecDepth 100000 in
theorem mkX6_trace : xmOK MX6_trace := ⟨by unfold xok; decide +kernel, by decide +kernel, ⟨by decide +kernel, by decide +kernel, by decide +kernel⟩, xtb 559 rfl rfl, xtb 22 (by decide +kernel) (by decide +kernel), rfl⟩
set_option maxRecDepth 100000 in
theorem mkX6_size : xmOK MX6_size := ⟨by unfold xok; decide +kernel, by decide +kernel, ⟨by decide +kernel, by decide +kernel, by decide +kernel⟩, xtb 600 rfl rfl, xtb 22 (by decide +kernel) (by decide +kernel), rfl⟩
set_option maxRecDepth 100000 in
theorem mkX6_holds : xmOK MX6_holds := ⟨by unfold xok; decide +kernel, by decide +kernel, ⟨by decide +kernel, by decide +kernel, by decide +kernel⟩, xtb 608 rfl rfl, xtb 22 (by decide +kernel) (by decide +kernel), rfl⟩
set_option maxRecDepth 100000 in
theorem mkX6_lengthOf : xmOK MX6_lengthOf := ⟨by unfold xok; decide +kernel, by decide +kernel, ⟨by decide +kernel, by decide +kernel, by decide +kernel⟩, xtb 612 rfl rfl, xtb 22 (by decide +kernel) (by decide +kernel), rfl⟩
set_option maxRecDepth 100000 in
theorem mkX6_vertexOf : xmOK MX6_vertexOf := ⟨by unfold xok; decide +kernel, by decide +kernel, ⟨by decide +kernel, by decide +kernel, by decide +kernel⟩, xtb 620 rfl rfl, xtb 22 (by decide +kernel) (by decide +kernel), rfl⟩
set_option maxRecDepth 100000 in
theorem mkX6_ofDart : xmOK MX6_ofDart := ⟨by unfold xok; decide +kernel, by decide +kernel, ⟨by decide +kernel, by decide +kernel, by decide +kernel⟩, xtb 587 rfl rfl, xtb 22 (by decide +kernel) (by decide +kernel), rfl⟩
set_option maxRecDepth 100000 in
theorem mkX6_behind : xmOK MX6_behind := ⟨by unfold xok; decide +kernel, by decide +kernel, ⟨by decide +kernel, by decide +kernel, by decide +kernel⟩, xtb 596 rfl rfl, xtb 22 (by decide +kernel) (by decide +kernel), rfl⟩
set_option maxRecDepth 100000 in
theorem mkX6_orderAround : xmOK MX6_orderAround := ⟨by unfold xok; decide +kernel, by decide +kernel, ⟨by decide +kernel, by decide +kernel, by decide +kernel⟩, xtb 568 rfl rfl, xtb 22 (by decide +kernel) (by decide +kernel), rfl⟩
set_option maxRecDepth 100000 in
theorem mkX6_follow : xmOK MX6_follow := ⟨by unfold xok; decide +kernel, by decide +kernel, ⟨by decide +kernel, by decide +kernel, by decide +kernel⟩, xtb 592 rfl rfl, xtb 22 (by decide +kernel) (by decide +kernel), rfl⟩
set_option maxRecDepth 100000 in
theorem mkX7_add : xmOK MX7_add := ⟨by unfold xok; decide +kernel, by decide +kernel, ⟨by decide +kernel, by decide +kernel, by decide +kernel⟩, xtb 265 rfl rfl, xtb 16 (by decide +kernel) (by decide +kernel), rfl⟩
set_option maxRecDepth 100000 in
theorem mkX7_drop : xmOK MX7_drop := ⟨by unfold xok; decide +kernel, by decide +kernel, ⟨by decide +kernel, by decide +kernel, by decide +kernel⟩, xtb 320 rfl rfl, xtb 16 (by decide +kernel) (by decide +kernel), rfl⟩
set_option maxRecDepth 100000 in
theorem mkX7_neighbors : xmOK MX7_neighbors := ⟨by unfold xok; decide +kernel, by decide +kernel, ⟨by decide +kernel, by decide +kernel, by decide +kernel⟩, xtb 348 rfl rfl, xtb 16 (by decide +kernel) (by decide +kernel), rfl⟩
set_option maxRecDepth 100000 in
theorem mkX7_count : xmOK MX7_count := ⟨by unfold xok; decide +kernel, by decide +kernel, ⟨by decide +kernel, by decide +kernel, by decide +kernel⟩, xtb 470 rfl rfl, xtb 16 (by decide +kernel) (by decide +kernel), rfl⟩
set_option maxRecDepth 100000 in
theorem mkX7_planar : xmOK MX7_planar := ⟨by unfold xok; decide +kernel, by decide +kernel, ⟨by decide +kernel, by decide +kernel, by decide +kernel⟩, xtb 507 rfl rfl, xtb 16 (by decide +kernel) (by decide +kernel), rfl⟩
set_option maxRecDepth 100000 in
theorem mkX7_next : xmOK MX7_next := ⟨by unfold xok; decide +kernel, by decide +kernel, ⟨by decide +kernel, by decide +kernel, by decide +kernel⟩, xtb 624 rfl rfl, xtb 16 (by decide +kernel) (by decide +kernel), rfl⟩
set_option maxRecDepth 100000 in
theorem mkX7_walks : xmOK MX7_walks := ⟨by unfold xok; decide +kernel, by decide +kernel, ⟨by decide +kernel, by decide +kernel, by decide +kernel⟩, xtb 551 rfl rfl, xtb 16 (by decide +kernel) (by decide +kernel), rfl⟩
set_option maxRecDepth 100000 in
theorem mkX7_walkLength : xmOK MX7_walkLength := ⟨by unfold xok; decide +kernel, by decide +kernel, ⟨by decide +kernel, by decide +kernel, by decide +kernel⟩, xtb 604 rfl rfl, xtb 16 (by decide +kernel) (by decide +kernel), rfl⟩
set_option maxRecDepth 100000 in
theorem mkX7_walkVertex : xmOK MX7_walkVertex := ⟨by unfold xok; decide +kernel, by decide +kernel, ⟨by decide +kernel, by decide +kernel, by decide +kernel⟩, xtb 616 rfl rfl, xtb 16 (by decide +kernel) (by decide +kernel), rfl⟩
set_option maxRecDepth 100000 in
theorem mkX7_walkOf : xmOK MX7_walkOf := ⟨by unfold xok; decide +kernel, by decide +kernel, ⟨by decide +kernel, by decide +kernel, by decide +kernel⟩, xtb 629 rfl rfl, xtb 16 (by decide +kernel) (by decide +kernel), rfl⟩
set_option maxRecDepth 100000 in
theorem mkX7_forbidden : xmOK MX7_forbidden := ⟨by unfold xok; decide +kernel, by decide +kernel, ⟨by decide +kernel, by decide +kernel, by decide +kernel⟩, xtb 529 rfl rfl, xtb 16 (by decide +kernel) (by decide +kernel), rfl⟩
set_option maxRecDepth 100000 in
theorem mkX7_inForbidden : xmOK MX7_inForbidden := ⟨by unfold xok; decide +kernel, by decide +kernel, ⟨by decide +kernel, by decide +kernel, by decide +kernel⟩, xtb 514 rfl rfl, xtb 16 (by decide +kernel) (by decide +kernel), rfl⟩
set_option maxRecDepth 100000 in
theorem mkX7_density : xmOK MX7_density := ⟨by unfold xok; decide +kernel, by decide +kernel, ⟨by decide +kernel, by decide +kernel, by decide +kernel⟩, xtb 501 rfl rfl, xtb 16 (by decide +kernel) (by decide +kernel), rfl⟩
set_option maxRecDepth 100000 in
theorem mkX7_traced : xmOK MX7_traced := ⟨by unfold xok; decide +kernel, by decide +kernel, ⟨by decide +kernel, by decide +kernel, by decide +kernel⟩, xtb 555 rfl rfl, xtb 16 (by decide +kernel) (by decide +kernel), rfl⟩
set_option maxRecDepth 100000 in
theorem mkX7_isVertex : xmOK MX7_isVertex := ⟨by unfold xok; decide +kernel, by decide +kernel, ⟨by decide +kernel, by decide +kernel, by decide +kernel⟩, xtb 268 rfl rfl, xtb 16 (by decide +kernel) (by decide +kernel), rfl⟩
set_option maxRecDepth 100000 in
theorem mkX7_bit : xmOK MX7_bit := ⟨by unfold xok; decide +kernel, by decide +kernel, ⟨by decide +kernel, by decide +kernel, by decide +kernel⟩, xtb 361 rfl rfl, xtb 16 (by decide +kernel) (by decide +kernel), rfl⟩
set_option maxRecDepth 100000 in
theorem mkX7_has : xmOK MX7_has := ⟨by unfold xok; decide +kernel, by decide +kernel, ⟨by decide +kernel, by decide +kernel, by decide +kernel⟩, xtb 370 rfl rfl, xtb 16 (by decide +kernel) (by decide +kernel), rfl⟩
set_option maxRecDepth 100000 in
theorem mkX7_least : xmOK MX7_least := ⟨by unfold xok; decide +kernel, by decide +kernel, ⟨by decide +kernel, by decide +kernel, by decide +kernel⟩, xtb 408 rfl rfl, xtb 16 (by decide +kernel) (by decide +kernel), rfl⟩
set_option maxRecDepth 100000 in
theorem mkX7_pairBit : xmOK MX7_pairBit := ⟨by unfold xok; decide +kernel, by decide +kernel, ⟨by decide +kernel, by decide +kernel, by decide +kernel⟩, xtb 275 rfl rfl, xtb 16 (by decide +kernel) (by decide +kernel), rfl⟩
set_option maxRecDepth 100000 in
theorem mkX7_cell : xmOK MX7_cell := ⟨by unfold xok; decide +kernel, by decide +kernel, ⟨by decide +kernel, by decide +kernel, by decide +kernel⟩, xtb 417 rfl rfl, xtb 16 (by decide +kernel) (by decide +kernel), rfl⟩
set_option maxRecDepth 100000 in
theorem mkX7_at : xmOK MX7_at := ⟨by unfold xok; decide +kernel, by decide +kernel, ⟨by decide +kernel, by decide +kernel, by decide +kernel⟩, xtb 367 rfl rfl, xtb 16 (by decide +kernel) (by decide +kernel), rfl⟩
set_option maxRecDepth 100000 in
theorem mkX7_put : xmOK MX7_put := ⟨by unfold xok; decide +kernel, by decide +kernel, ⟨by decide +kernel, by decide +kernel, by decide +kernel⟩, xtb 364 rfl rfl, xtb 16 (by decide +kernel) (by decide +kernel), rfl⟩
set_option maxRecDepth 100000 in
theorem mkX7_around : xmOK MX7_around := ⟨by unfold xok; decide +kernel, by decide +kernel, ⟨by decide +kernel, by decide +kernel, by decide +kernel⟩, xtb 384 rfl rfl, xtb 16 (by decide +kernel) (by decide +kernel), rfl⟩
set_option maxRecDepth 100000 in
theorem mkX7_reach : xmOK MX7_reach := ⟨by unfold xok; decide +kernel, by decide +kernel, ⟨by decide +kernel, by decide +kernel, by decide +kernel⟩, xtb 381 rfl rfl, xtb 16 (by decide +kernel) (by decide +kernel), rfl⟩
set_option maxRecDepth 100000 in
theorem mkL_cell : xmOK ML_cell := ⟨by unfold xok; decide +kernel, by decide +kernel, ⟨by decide +kernel, by decide +kernel, by decide +kernel⟩, xtb 323 rfl rfl, xtb 15 (by decide +kernel) (by decide +kernel), rfl⟩
set_option maxRecDepth 100000 in
theorem mkL_low : xmOK ML_low := ⟨by unfold xok; decide +kernel, by decide +kernel, ⟨by decide +kernel, by decide +kernel, by decide +kernel⟩, xtb 328 rfl rfl, xtb 15 (by decide +kernel) (by decide +kernel), rfl⟩
set_option maxRecDepth 100000 in
theorem mkL_ones : xmOK ML_ones := ⟨by unfold xok; decide +kernel, by decide +kernel, ⟨by decide +kernel, by decide +kernel, by decide +kernel⟩, xtb 335 rfl rfl, xtb 15 (by decide +kernel) (by decide +kernel), rfl⟩
set_option maxRecDepth 100000 in
theorem mkL_lowest : xmOK ML_lowest := ⟨by unfold xok; decide +kernel, by decide +kernel, ⟨by decide +kernel, by decide +kernel, by decide +kernel⟩, xtb 344 rfl rfl, xtb 15 (by decide +kernel) (by decide +kernel), rfl⟩
set_option maxRecDepth 100000 in
theorem mkL_joined : xmOK ML_joined := ⟨by unfold xok; decide +kernel, by decide +kernel, ⟨by decide +kernel, by decide +kernel, by decide +kernel⟩, xtb 341 rfl rfl, xtb 15 (by decide +kernel) (by decide +kernel), rfl⟩
set_option maxRecDepth 100000 in
theorem mkL_edges : xmOK ML_edges := ⟨by unfold xok; decide +kernel, by decide +kernel, ⟨by decide +kernel, by decide +kernel, by decide +kernel⟩, xtb 332 rfl rfl, xtb 15 (by decide +kernel) (by decide +kernel), rfl⟩
set_option maxRecDepth 100000 in
theorem mkL_isDrawn : xmOK ML_isDrawn := ⟨by unfold xok; decide +kernel, by decide +kernel, ⟨by decide +kernel, by decide +kernel, by decide +kernel⟩, xtb 633 rfl rfl, xtb 15 (by decide +kernel) (by decide +kernel), rfl⟩
set_option maxRecDepth 100000 in
theorem mkL_isWalk : xmOK ML_isWalk := ⟨by unfold xok; decide +kernel, by decide +kernel, ⟨by decide +kernel, by decide +kernel, by decide +kernel⟩, xtb 636 rfl rfl, xtb 15 (by decide +kernel) (by decide +kernel), rfl⟩
set_option maxRecDepth 100000 in
theorem mkL_end : xmOK ML_end := ⟨by unfold xok; decide +kernel, by decide +kernel, ⟨by decide +kernel, by decide +kernel, by decide +kernel⟩, xtb 547 rfl rfl, xtb 15 (by decide +kernel) (by decide +kernel), rfl⟩
set_option maxRecDepth 100000 in
theorem mkL_ends : xmOK ML_ends := ⟨by unfold xok; decide +kernel, by decide +kernel, ⟨by decide +kernel, by decide +kernel, by decide +kernel⟩, xtb 544 rfl rfl, xtb 15 (by decide +kernel) (by decide +kernel), rfl⟩
set_option maxRecDepth 100000 in
theorem mkL_isForbidden : xmOK ML_isForbidden := ⟨by unfold xok; decide +kernel, by decide +kernel, ⟨by decide +kernel, by decide +kernel, by decide +kernel⟩, xtb 510 rfl rfl, xtb 15 (by decide +kernel) (by decide +kernel), rfl⟩
set_option maxRecDepth 100000 in
theorem mkL_isSo : xmOK ML_isSo := ⟨by unfold xok; decide +kernel, by decide +kernel, ⟨by decide +kernel, by decide +kernel, by decide +kernel⟩, xtb 338 rfl rfl, xtb 15 (by decide +kernel) (by decide +kernel), rfl⟩
set_option maxRecDepth 100000 in
theorem mkJ6_bitCount_0f7a4 : xmOK MJ6_bitCount_0f7a4 := ⟨by unfold xok; decide +kernel, by decide +kernel, ⟨by decide +kernel, by decide +kernel, by decide +kernel⟩, xtb 398 rfl rfl, xtb 25 (by decide +kernel) (by decide +kernel), rfl⟩
set_option maxRecDepth 100000 in
theorem mkJ13_bitCount_95d88 : xmOK MJ13_bitCount_95d88 := ⟨by unfold xok; decide +kernel, by decide +kernel, ⟨by decide +kernel, by decide +kernel, by decide +kernel⟩, xtb 313 rfl rfl, xtb 26 (by decide +kernel) (by decide +kernel), rfl⟩
theorem xlk_1_40 : xlkOK 1 (40, 2, MX1_start) := ⟨mkX1_start, Or.inr (Or.inr ⟨rfl, xtb 389 (by decide +kernel) (by decide +kernel), xtb 391 (by decide +kernel) (by decide +kernel), xtb 3 (by decide +kernel) (by decide +kernel), TX1, 16, rfl⟩)⟩
theorem xlk_1_44 : xlkOK 1 (44, 2, MX1_placeCycle) := ⟨mkX1_placeCycle, Or.inr (Or.inr ⟨rfl, xtb 402 (by decide +kernel) (by decide +kernel), xtb 404 (by decide +kernel) (by decide +kernel), xtb 4 (by decide +kernel) (by decide +kernel), TX1, 16, rfl⟩)⟩
theorem xlk_1_48 : xlkOK 1 (48, 2, MX1_chooseFragment) := ⟨mkX1_chooseFragment, Or.inr (Or.inr ⟨rfl, xtb 422 (by decide +kernel) (by decide +kernel), xtb 424 (by decide +kernel) (by decide +kernel), xtb 7 (by decide +kernel) (by decide +kernel), TX1, 16, rfl⟩)⟩
theorem xlk_1_51 : xlkOK 1 (51, 2, MX1_choosePath) := ⟨mkX1_choosePath, Or.inr (Or.inr ⟨rfl, xtb 431 (by decide +kernel) (by decide +kernel), xtb 433 (by decide +kernel) (by decide +kernel), xtb 9 (by decide +kernel) (by decide +kernel), TX1, 16, rfl⟩)⟩
theorem xlk_1_54 : xlkOK 1 (54, 2, MX1_splitFace) := ⟨mkX1_splitFace, Or.inr (Or.inr ⟨rfl, xtb 435 (by decide +kernel) (by decide +kernel), xtb 437 (by decide +kernel) (by decide +kernel), xtb 10 (by decide +kernel) (by decide +kernel), TX1, 16, rfl⟩)⟩
theorem xlk_1_60 : xlkOK 1 (60, 1, MX7_least) := ⟨mkX7_least, Or.inr (Or.inl ⟨rfl, List.mem_of_getElem? (i := 406) (by decide +kernel), xtb 407 (by decide +kernel) (by decide +kernel)⟩)⟩
theorem xlk_1_64 : xlkOK 1 (64, 1, MX7_bit) := ⟨mkX7_bit, Or.inr (Or.inl ⟨rfl, List.mem_of_getElem? (i := 409) (by decide +kernel), xtb 360 (by decide +kernel) (by decide +kernel)⟩)⟩
theorem xlk_1_67 : xlkOK 1 (67, 1, MX7_cell) := ⟨mkX7_cell, Or.inr (Or.inl ⟨rfl, List.mem_of_getElem? (i := 415) (by decide +kernel), xtb 416 (by decide +kernel) (by decide +kernel)⟩)⟩
theorem xlk_1_71 : xlkOK 1 (71, 1, MX7_put) := ⟨mkX7_put, Or.inr (Or.inl ⟨rfl, List.mem_of_getElem? (i := 395) (by decide +kernel), xtb 363 (by decide +kernel) (by decide +kernel)⟩)⟩
theorem xlk_1_75 : xlkOK 1 (75, 1, MX7_at) := ⟨mkX7_at, Or.inr (Or.inl ⟨rfl, List.mem_of_getElem? (i := 394) (by decide +kernel), xtb 366 (by decide +kernel) (by decide +kernel)⟩)⟩
theorem xlk_1_79 : xlkOK 1 (79, 1, MX7_has) := ⟨mkX7_has, Or.inr (Or.inl ⟨rfl, List.mem_of_getElem? (i := 393) (by decide +kernel), xtb 369 (by decide +kernel) (by decide +kernel)⟩)⟩
theorem xlk_1_86 : xlkOK 1 (86, 0, MJ6_bitCount_0f7a4) := ⟨mkJ6_bitCount_0f7a4, Or.inl ⟨rfl, xtb 396 (by decide +kernel) (by decide +kernel), xtb 397 (by decide +kernel) (by decide +kernel)⟩⟩
theorem xlk_1_91 : xlkOK 1 (91, 2, MX1_findPath) := ⟨mkX1_findPath, Or.inr (Or.inr ⟨rfl, xtb 410 (by decide +kernel) (by decide +kernel), xtb 412 (by decide +kernel) (by decide +kernel), xtb 5 (by decide +kernel) (by decide +kernel), TX1, 16, rfl⟩)⟩
theorem xlk_1_95 : xlkOK 1 (95, 2, MX1_placeEdge) := ⟨mkX1_placeEdge, Or.inr (Or.inr ⟨rfl, xtb 418 (by decide +kernel) (by decide +kernel), xtb 420 (by decide +kernel) (by decide +kernel), xtb 6 (by decide +kernel) (by decide +kernel), TX1, 16, rfl⟩)⟩
theorem xlk_1_102 : xlkOK 1 (102, 1, MX7_around) := ⟨mkX7_around, Or.inr (Or.inl ⟨rfl, List.mem_of_getElem? (i := 414) (by decide +kernel), xtb 383 (by decide +kernel) (by decide +kernel)⟩)⟩
theorem xlk_1_108 : xlkOK 1 (108, 1, MX7_reach) := ⟨mkX7_reach, Or.inr (Or.inl ⟨rfl, List.mem_of_getElem? (i := 426) (by decide +kernel), xtb 380 (by decide +kernel) (by decide +kernel)⟩)⟩
theorem xlk_1_112 : xlkOK 1 (112, 2, MX1_weigh) := ⟨mkX1_weigh, Or.inr (Or.inr ⟨rfl, xtb 427 (by decide +kernel) (by decide +kernel), xtb 429 (by decide +kernel) (by decide +kernel), xtb 8 (by decide +kernel) (by decide +kernel), TX1, 16, rfl⟩)⟩
theorem xlk_1 : ∀ q ∈ xlnkL1, xlkOK 1 q := List.forall_mem_cons.mpr ⟨xlk_1_40, List.forall_mem_cons.mpr ⟨xlk_1_44, List.forall_mem_cons.mpr ⟨xlk_1_48, List.forall_mem_cons.mpr ⟨xlk_1_51, List.forall_mem_cons.mpr ⟨xlk_1_54, List.forall_mem_cons.mpr ⟨xlk_1_60, List.forall_mem_cons.mpr ⟨xlk_1_64, List.forall_mem_cons.mpr ⟨xlk_1_67, List.forall_mem_cons.mpr ⟨xlk_1_71, List.forall_mem_cons.mpr ⟨xlk_1_75, List.forall_mem_cons.mpr ⟨xlk_1_79, List.forall_mem_cons.mpr ⟨xlk_1_86, List.forall_mem_cons.mpr ⟨xlk_1_91, List.forall_mem_cons.mpr ⟨xlk_1_95, List.forall_mem_cons.mpr ⟨xlk_1_102, List.forall_mem_cons.mpr ⟨xlk_1_108, List.forall_mem_cons.mpr ⟨xlk_1_112, fun _ h => absurd h List.not_mem_nil⟩⟩⟩⟩⟩⟩⟩⟩⟩⟩⟩⟩⟩⟩⟩⟩⟩
theorem xlk_2_26 : xlkOK 2 (26, 2, MX2_forgetOldest) := ⟨mkX2_forgetOldest, Or.inr (Or.inr ⟨rfl, xtb 286 (by decide +kernel) (by decide +kernel), xtb 288 (by decide +kernel) (by decide +kernel), xtb 0 (by decide +kernel) (by decide +kernel), TX2, 4, rfl⟩)⟩
theorem xlk_2_29 : xlkOK 2 (29, 2, MX5_edges) := ⟨mkX5_edges, Or.inr (Or.inr ⟨rfl, xtb 290 (by decide +kernel) (by decide +kernel), xtb 291 (by decide +kernel) (by decide +kernel), xtb 292 (by decide +kernel) (by decide +kernel), TX5, 3, rfl⟩)⟩
theorem xlk_2_34 : xlkOK 2 (34, 2, MX5_added) := ⟨mkX5_added, Or.inr (Or.inr ⟨rfl, xtb 294 (by decide +kernel) (by decide +kernel), xtb 295 (by decide +kernel) (by decide +kernel), xtb 296 (by decide +kernel) (by decide +kernel), TX5, 3, rfl⟩)⟩
theorem xlk_2_37 : xlkOK 2 (37, 2, MX5_dropped) := ⟨mkX5_dropped, Or.inr (Or.inr ⟨rfl, xtb 298 (by decide +kernel) (by decide +kernel), xtb 299 (by decide +kernel) (by decide +kernel), xtb 300 (by decide +kernel) (by decide +kernel), TX5, 3, rfl⟩)⟩
theorem xlk_2 : ∀ q ∈ xlnkL2, xlkOK 2 q := List.forall_mem_cons.mpr ⟨xlk_2_26, List.forall_mem_cons.mpr ⟨xlk_2_29, List.forall_mem_cons.mpr ⟨xlk_2_34, List.forall_mem_cons.mpr ⟨xlk_2_37, fun _ h => absurd h List.not_mem_nil⟩⟩⟩⟩
theorem xlk_3_22 : xlkOK 3 (22, 1, MX7_pairBit) := ⟨mkX7_pairBit, Or.inr (Or.inl ⟨rfl, List.mem_of_getElem? (i := 519) (by decide +kernel), xtb 274 (by decide +kernel) (by decide +kernel)⟩)⟩
theorem xlk_3_28 : xlkOK 3 (28, 2, MX4_read) := ⟨mkX4_read, Or.inr (Or.inr ⟨rfl, xtb 521 (by decide +kernel) (by decide +kernel), xtb 351 (by decide +kernel) (by decide +kernel), xtb 352 (by decide +kernel) (by decide +kernel), TX4, 11, rfl⟩)⟩
theorem xlk_3_34 : xlkOK 3 (34, 0, MJ13_bitCount_95d88) := ⟨mkJ13_bitCount_95d88, Or.inl ⟨rfl, xtb 534 (by decide +kernel) (by decide +kernel), xtb 312 (by decide +kernel) (by decide +kernel)⟩⟩
theorem xlk_3_40 : xlkOK 3 (40, 2, MX3_holds) := ⟨mkX3_holds, Or.inr (Or.inr ⟨rfl, xtb 539 (by decide +kernel) (by decide +kernel), xtb 523 (by decide +kernel) (by decide +kernel), xtb 524 (by decide +kernel) (by decide +kernel), TX3, 3, rfl⟩)⟩
theorem xlk_3_44 : xlkOK 3 (44, 1, MX7_bit) := ⟨mkX7_bit, Or.inr (Or.inl ⟨rfl, List.mem_of_getElem? (i := 540) (by decide +kernel), xtb 360 (by decide +kernel) (by decide +kernel)⟩)⟩
theorem xlk_3 : ∀ q ∈ xlnkL3, xlkOK 3 q := List.forall_mem_cons.mpr ⟨xlk_3_22, List.forall_mem_cons.mpr ⟨xlk_3_28, List.forall_mem_cons.mpr ⟨xlk_3_34, List.forall_mem_cons.mpr ⟨xlk_3_40, List.forall_mem_cons.mpr ⟨xlk_3_44, fun _ h => absurd h List.not_mem_nil⟩⟩⟩⟩⟩
theorem xlk_4_52 : xlkOK 4 (52, 2, MX4_fillNear) := ⟨mkX4_fillNear, Or.inr (Or.inr ⟨rfl, xtb 354 (by decide +kernel) (by decide +kernel), xtb 356 (by decide +kernel) (by decide +kernel), xtb 1 (by decide +kernel) (by decide +kernel), TX4, 11, rfl⟩)⟩
theorem xlk_4_55 : xlkOK 4 (55, 1, MX7_at) := ⟨mkX7_at, Or.inr (Or.inl ⟨rfl, List.mem_of_getElem? (i := 365) (by decide +kernel), xtb 366 (by decide +kernel) (by decide +kernel)⟩)⟩
theorem xlk_4_59 : xlkOK 4 (59, 1, MX7_has) := ⟨mkX7_has, Or.inr (Or.inl ⟨rfl, List.mem_of_getElem? (i := 368) (by decide +kernel), xtb 369 (by decide +kernel) (by decide +kernel)⟩)⟩
theorem xlk_4_63 : xlkOK 4 (63, 2, MX4_blockOf) := ⟨mkX4_blockOf, Or.inr (Or.inr ⟨rfl, xtb 371 (by decide +kernel) (by decide +kernel), xtb 372 (by decide +kernel) (by decide +kernel), xtb 373 (by decide +kernel) (by decide +kernel), TX4, 11, rfl⟩)⟩
theorem xlk_4_67 : xlkOK 4 (67, 2, MX4_blockAround) := ⟨mkX4_blockAround, Or.inr (Or.inr ⟨rfl, xtb 375 (by decide +kernel) (by decide +kernel), xtb 377 (by decide +kernel) (by decide +kernel), xtb 2 (by decide +kernel) (by decide +kernel), TX4, 11, rfl⟩)⟩
theorem xlk_4_70 : xlkOK 4 (70, 2, MX1_embed) := ⟨mkX1_embed, Or.inr (Or.inr ⟨rfl, xtb 385 (by decide +kernel) (by decide +kernel), xtb 386 (by decide +kernel) (by decide +kernel), xtb 387 (by decide +kernel) (by decide +kernel), TX1, 16, rfl⟩)⟩
theorem xlk_4_74 : xlkOK 4 (74, 2, MX4_keepBlock) := ⟨mkX4_keepBlock, Or.inr (Or.inr ⟨rfl, xtb 439 (by decide +kernel) (by decide +kernel), xtb 441 (by decide +kernel) (by decide +kernel), xtb 11 (by decide +kernel) (by decide +kernel), TX4, 11, rfl⟩)⟩
theorem xlk_4_78 : xlkOK 4 (78, 1, MX7_cell) := ⟨mkX7_cell, Or.inr (Or.inl ⟨rfl, List.mem_of_getElem? (i := 583) (by decide +kernel), xtb 416 (by decide +kernel) (by decide +kernel)⟩)⟩
theorem xlk_4_81 : xlkOK 4 (81, 1, MX7_bit) := ⟨mkX7_bit, Or.inr (Or.inl ⟨rfl, List.mem_of_getElem? (i := 359) (by decide +kernel), xtb 360 (by decide +kernel) (by decide +kernel)⟩)⟩
theorem xlk_4_85 : xlkOK 4 (85, 1, MX7_reach) := ⟨mkX7_reach, Or.inr (Or.inl ⟨rfl, List.mem_of_getElem? (i := 379) (by decide +kernel), xtb 380 (by decide +kernel) (by decide +kernel)⟩)⟩
theorem xlk_4_89 : xlkOK 4 (89, 0, MJ6_bitCount_0f7a4) := ⟨mkJ6_bitCount_0f7a4, Or.inl ⟨rfl, xtb 483 (by decide +kernel) (by decide +kernel), xtb 397 (by decide +kernel) (by decide +kernel)⟩⟩
theorem xlk_4_94 : xlkOK 4 (94, 1, MX7_pairBit) := ⟨mkX7_pairBit, Or.inr (Or.inl ⟨rfl, List.mem_of_getElem? (i := 358) (by decide +kernel), xtb 274 (by decide +kernel) (by decide +kernel)⟩)⟩
theorem xlk_4_98 : xlkOK 4 (98, 1, MX7_put) := ⟨mkX7_put, Or.inr (Or.inl ⟨rfl, List.mem_of_getElem? (i := 362) (by decide +kernel), xtb 363 (by decide +kernel) (by decide +kernel)⟩)⟩
theorem xlk_4_102 : xlkOK 4 (102, 2, MX1_edges) := ⟨mkX1_edges, Or.inr (Or.inr ⟨rfl, xtb 443 (by decide +kernel) (by decide +kernel), xtb 444 (by decide +kernel) (by decide +kernel), xtb 445 (by decide +kernel) (by decide +kernel), TX1, 16, rfl⟩)⟩
theorem xlk_4_105 : xlkOK 4 (105, 2, MX1_placedEdges) := ⟨mkX1_placedEdges, Or.inr (Or.inr ⟨rfl, xtb 447 (by decide +kernel) (by decide +kernel), xtb 448 (by decide +kernel) (by decide +kernel), xtb 449 (by decide +kernel) (by decide +kernel), TX1, 16, rfl⟩)⟩
theorem xlk_4_108 : xlkOK 4 (108, 2, MX1_faces) := ⟨mkX1_faces, Or.inr (Or.inr ⟨rfl, xtb 451 (by decide +kernel) (by decide +kernel), xtb 452 (by decide +kernel) (by decide +kernel), xtb 453 (by decide +kernel) (by decide +kernel), TX1, 16, rfl⟩)⟩
theorem xlk_4_111 : xlkOK 4 (111, 2, MX4_isPlanar) := ⟨mkX4_isPlanar, Or.inr (Or.inr ⟨rfl, xtb 455 (by decide +kernel) (by decide +kernel), xtb 456 (by decide +kernel) (by decide +kernel), xtb 457 (by decide +kernel) (by decide +kernel), TX4, 11, rfl⟩)⟩
theorem xlk_4_115 : xlkOK 4 (115, 2, MX1_writeSuccessors) := ⟨mkX1_writeSuccessors, Or.inr (Or.inr ⟨rfl, xtb 459 (by decide +kernel) (by decide +kernel), xtb 460 (by decide +kernel) (by decide +kernel), xtb 461 (by decide +kernel) (by decide +kernel), TX1, 16, rfl⟩)⟩
theorem xlk_4 : ∀ q ∈ xlnkL4, xlkOK 4 q := List.forall_mem_cons.mpr ⟨xlk_4_52, List.forall_mem_cons.mpr ⟨xlk_4_55, List.forall_mem_cons.mpr ⟨xlk_4_59, List.forall_mem_cons.mpr ⟨xlk_4_63, List.forall_mem_cons.mpr ⟨xlk_4_67, List.forall_mem_cons.mpr ⟨xlk_4_70, List.forall_mem_cons.mpr ⟨xlk_4_74, List.forall_mem_cons.mpr ⟨xlk_4_78, List.forall_mem_cons.mpr ⟨xlk_4_81, List.forall_mem_cons.mpr ⟨xlk_4_85, List.forall_mem_cons.mpr ⟨xlk_4_89, List.forall_mem_cons.mpr ⟨xlk_4_94, List.forall_mem_cons.mpr ⟨xlk_4_98, List.forall_mem_cons.mpr ⟨xlk_4_102, List.forall_mem_cons.mpr ⟨xlk_4_105, List.forall_mem_cons.mpr ⟨xlk_4_108, List.forall_mem_cons.mpr ⟨xlk_4_111, List.forall_mem_cons.mpr ⟨xlk_4_115, fun _ h => absurd h List.not_mem_nil⟩⟩⟩⟩⟩⟩⟩⟩⟩⟩⟩⟩⟩⟩⟩⟩⟩⟩
theorem xlk_5_20 : xlkOK 5 (20, 0, MJ13_bitCount_95d88) := ⟨mkJ13_bitCount_95d88, Or.inl ⟨rfl, xtb 311 (by decide +kernel) (by decide +kernel), xtb 312 (by decide +kernel) (by decide +kernel)⟩⟩
theorem xlk_5_26 : xlkOK 5 (26, 1, MX7_pairBit) := ⟨mkX7_pairBit, Or.inr (Or.inl ⟨rfl, List.mem_of_getElem? (i := 273) (by decide +kernel), xtb 274 (by decide +kernel) (by decide +kernel)⟩)⟩
theorem xlk_5_32 : xlkOK 5 (32, 2, MX5_joins) := ⟨mkX5_joins, Or.inr (Or.inr ⟨rfl, xtb 306 (by decide +kernel) (by decide +kernel), xtb 270 (by decide +kernel) (by decide +kernel), xtb 271 (by decide +kernel) (by decide +kernel), TX5, 3, rfl⟩)⟩
theorem xlk_5 : ∀ q ∈ xlnkL5, xlkOK 5 q := List.forall_mem_cons.mpr ⟨xlk_5_20, List.forall_mem_cons.mpr ⟨xlk_5_26, List.forall_mem_cons.mpr ⟨xlk_5_32, fun _ h => absurd h List.not_mem_nil⟩⟩⟩
theorem xlk_6_32 : xlkOK 6 (32, 2, MX4_edges) := ⟨mkX4_edges, Or.inr (Or.inr ⟨rfl, xtb 560 (by decide +kernel) (by decide +kernel), xtb 561 (by decide +kernel) (by decide +kernel), xtb 562 (by decide +kernel) (by decide +kernel), TX4, 11, rfl⟩)⟩
theorem xlk_6_44 : xlkOK 6 (44, 1, MX7_put) := ⟨mkX7_put, Or.inr (Or.inl ⟨rfl, List.mem_of_getElem? (i := 564) (by decide +kernel), xtb 363 (by decide +kernel) (by decide +kernel)⟩)⟩
theorem xlk_6_48 : xlkOK 6 (48, 2, MX6_orderAround) := ⟨mkX6_orderAround, Or.inr (Or.inr ⟨rfl, xtb 565 (by decide +kernel) (by decide +kernel), xtb 567 (by decide +kernel) (by decide +kernel), xtb 13 (by decide +kernel) (by decide +kernel), TX6, 8, rfl⟩)⟩
theorem xlk_6_52 : xlkOK 6 (52, 2, MX4_near) := ⟨mkX4_near, Or.inr (Or.inr ⟨rfl, xtb 575 (by decide +kernel) (by decide +kernel), xtb 464 (by decide +kernel) (by decide +kernel), xtb 465 (by decide +kernel) (by decide +kernel), TX4, 11, rfl⟩)⟩
theorem xlk_6_56 : xlkOK 6 (56, 1, MX7_has) := ⟨mkX7_has, Or.inr (Or.inl ⟨rfl, List.mem_of_getElem? (i := 574) (by decide +kernel), xtb 369 (by decide +kernel) (by decide +kernel)⟩)⟩
theorem xlk_6_60 : xlkOK 6 (60, 2, MX6_ofDart) := ⟨mkX6_ofDart, Or.inr (Or.inr ⟨rfl, xtb 584 (by decide +kernel) (by decide +kernel), xtb 585 (by decide +kernel) (by decide +kernel), xtb 586 (by decide +kernel) (by decide +kernel), TX6, 8, rfl⟩)⟩
theorem xlk_6_64 : xlkOK 6 (64, 2, MX6_follow) := ⟨mkX6_follow, Or.inr (Or.inr ⟨rfl, xtb 589 (by decide +kernel) (by decide +kernel), xtb 591 (by decide +kernel) (by decide +kernel), xtb 14 (by decide +kernel) (by decide +kernel), TX6, 8, rfl⟩)⟩
theorem xlk_6_68 : xlkOK 6 (68, 1, MX7_at) := ⟨mkX7_at, Or.inr (Or.inl ⟨rfl, List.mem_of_getElem? (i := 588) (by decide +kernel), xtb 366 (by decide +kernel) (by decide +kernel)⟩)⟩
theorem xlk_6_72 : xlkOK 6 (72, 1, MX7_cell) := ⟨mkX7_cell, Or.inr (Or.inl ⟨rfl, List.mem_of_getElem? (i := 577) (by decide +kernel), xtb 416 (by decide +kernel) (by decide +kernel)⟩)⟩
theorem xlk_6_75 : xlkOK 6 (75, 2, MX4_blocks) := ⟨mkX4_blocks, Or.inr (Or.inr ⟨rfl, xtb 569 (by decide +kernel) (by decide +kernel), xtb 476 (by decide +kernel) (by decide +kernel), xtb 477 (by decide +kernel) (by decide +kernel), TX4, 11, rfl⟩)⟩
theorem xlk_6_79 : xlkOK 6 (79, 2, MX4_verticesOf) := ⟨mkX4_verticesOf, Or.inr (Or.inr ⟨rfl, xtb 570 (by decide +kernel) (by decide +kernel), xtb 571 (by decide +kernel) (by decide +kernel), xtb 572 (by decide +kernel) (by decide +kernel), TX4, 11, rfl⟩)⟩
theorem xlk_6_82 : xlkOK 6 (82, 1, MX7_least) := ⟨mkX7_least, Or.inr (Or.inl ⟨rfl, List.mem_of_getElem? (i := 576) (by decide +kernel), xtb 407 (by decide +kernel) (by decide +kernel)⟩)⟩
theorem xlk_6_85 : xlkOK 6 (85, 1, MX7_bit) := ⟨mkX7_bit, Or.inr (Or.inl ⟨rfl, List.mem_of_getElem? (i := 578) (by decide +kernel), xtb 360 (by decide +kernel) (by decide +kernel)⟩)⟩
theorem xlk_6_88 : xlkOK 6 (88, 2, MX4_successor) := ⟨mkX4_successor, Or.inr (Or.inr ⟨rfl, xtb 579 (by decide +kernel) (by decide +kernel), xtb 580 (by decide +kernel) (by decide +kernel), xtb 581 (by decide +kernel) (by decide +kernel), TX4, 11, rfl⟩)⟩
theorem xlk_6_91 : xlkOK 6 (91, 2, MX6_behind) := ⟨mkX6_behind, Or.inr (Or.inr ⟨rfl, xtb 593 (by decide +kernel) (by decide +kernel), xtb 594 (by decide +kernel) (by decide +kernel), xtb 595 (by decide +kernel) (by decide +kernel), TX6, 8, rfl⟩)⟩
theorem xlk_6 : ∀ q ∈ xlnkL6, xlkOK 6 q := List.forall_mem_cons.mpr ⟨xlk_6_32, List.forall_mem_cons.mpr ⟨xlk_6_44, List.forall_mem_cons.mpr ⟨xlk_6_48, List.forall_mem_cons.mpr ⟨xlk_6_52, List.forall_mem_cons.mpr ⟨xlk_6_56, List.forall_mem_cons.mpr ⟨xlk_6_60, List.forall_mem_cons.mpr ⟨xlk_6_64, List.forall_mem_cons.mpr ⟨xlk_6_68, List.forall_mem_cons.mpr ⟨xlk_6_72, List.forall_mem_cons.mpr ⟨xlk_6_75, List.forall_mem_cons.mpr ⟨xlk_6_79, List.forall_mem_cons.mpr ⟨xlk_6_82, List.forall_mem_cons.mpr ⟨xlk_6_85, List.forall_mem_cons.mpr ⟨xlk_6_88, List.forall_mem_cons.mpr ⟨xlk_6_91, fun _ h => absurd h List.not_mem_nil⟩⟩⟩⟩⟩⟩⟩⟩⟩⟩⟩⟩⟩⟩⟩
theorem xlk_7_57 : xlkOK 7 (57, 0, MX7_isVertex) := ⟨mkX7_isVertex, Or.inl ⟨rfl, xtb 266 (by decide +kernel) (by decide +kernel), xtb 267 (by decide +kernel) (by decide +kernel)⟩⟩
theorem xlk_7_61 : xlkOK 7 (61, 2, MX5_joins) := ⟨mkX5_joins, Or.inr (Or.inr ⟨rfl, xtb 269 (by decide +kernel) (by decide +kernel), xtb 270 (by decide +kernel) (by decide +kernel), xtb 271 (by decide +kernel) (by decide +kernel), TX5, 3, rfl⟩)⟩
theorem xlk_7_65 : xlkOK 7 (65, 2, MX2_remember) := ⟨mkX2_remember, Or.inr (Or.inr ⟨rfl, xtb 282 (by decide +kernel) (by decide +kernel), xtb 283 (by decide +kernel) (by decide +kernel), xtb 284 (by decide +kernel) (by decide +kernel), TX2, 4, rfl⟩)⟩
theorem xlk_7_69 : xlkOK 7 (69, 2, MX5_flip) := ⟨mkX5_flip, Or.inr (Or.inr ⟨rfl, xtb 302 (by decide +kernel) (by decide +kernel), xtb 303 (by decide +kernel) (by decide +kernel), xtb 304 (by decide +kernel) (by decide +kernel), TX5, 3, rfl⟩)⟩
theorem xlk_7_73 : xlkOK 7 (73, 2, MX5_size) := ⟨mkX5_size, Or.inr (Or.inr ⟨rfl, xtb 307 (by decide +kernel) (by decide +kernel), xtb 308 (by decide +kernel) (by decide +kernel), xtb 309 (by decide +kernel) (by decide +kernel), TX5, 3, rfl⟩)⟩
theorem xlk_7_80 : xlkOK 7 (80, 2, MX5_edges) := ⟨mkX5_edges, Or.inr (Or.inr ⟨rfl, xtb 349 (by decide +kernel) (by decide +kernel), xtb 291 (by decide +kernel) (by decide +kernel), xtb 292 (by decide +kernel) (by decide +kernel), TX5, 3, rfl⟩)⟩
theorem xlk_7_84 : xlkOK 7 (84, 2, MX4_read) := ⟨mkX4_read, Or.inr (Or.inr ⟨rfl, xtb 350 (by decide +kernel) (by decide +kernel), xtb 351 (by decide +kernel) (by decide +kernel), xtb 352 (by decide +kernel) (by decide +kernel), TX4, 11, rfl⟩)⟩
theorem xlk_7_96 : xlkOK 7 (96, 2, MX0_length) := ⟨mkX0_length, Or.inr (Or.inr ⟨rfl, xtb 494 (by decide +kernel) (by decide +kernel), xtb 495 (by decide +kernel) (by decide +kernel), xtb 496 (by decide +kernel) (by decide +kernel), TX0, 5, rfl⟩)⟩
theorem xlk_7_127 : xlkOK 7 (127, 2, MX2_size) := ⟨mkX2_size, Or.inr (Or.inr ⟨rfl, xtb 490 (by decide +kernel) (by decide +kernel), xtb 491 (by decide +kernel) (by decide +kernel), xtb 492 (by decide +kernel) (by decide +kernel), TX2, 4, rfl⟩)⟩
theorem xlk_7_128 : xlkOK 7 (128, 2, MX5_added) := ⟨mkX5_added, Or.inr (Or.inr ⟨rfl, xtb 488 (by decide +kernel) (by decide +kernel), xtb 295 (by decide +kernel) (by decide +kernel), xtb 296 (by decide +kernel) (by decide +kernel), TX5, 3, rfl⟩)⟩
theorem xlk_7_131 : xlkOK 7 (131, 2, MX5_dropped) := ⟨mkX5_dropped, Or.inr (Or.inr ⟨rfl, xtb 489 (by decide +kernel) (by decide +kernel), xtb 299 (by decide +kernel) (by decide +kernel), xtb 300 (by decide +kernel) (by decide +kernel), TX5, 3, rfl⟩)⟩
theorem xlk_7_142 : xlkOK 7 (142, 2, MX4_near) := ⟨mkX4_near, Or.inr (Or.inr ⟨rfl, xtb 463 (by decide +kernel) (by decide +kernel), xtb 464 (by decide +kernel) (by decide +kernel), xtb 465 (by decide +kernel) (by decide +kernel), TX4, 11, rfl⟩)⟩
theorem xlk_7_145 : xlkOK 7 (145, 2, MX4_components) := ⟨mkX4_components, Or.inr (Or.inr ⟨rfl, xtb 471 (by decide +kernel) (by decide +kernel), xtb 472 (by decide +kernel) (by decide +kernel), xtb 473 (by decide +kernel) (by decide +kernel), TX4, 11, rfl⟩)⟩
theorem xlk_7_148 : xlkOK 7 (148, 2, MX4_blocks) := ⟨mkX4_blocks, Or.inr (Or.inr ⟨rfl, xtb 475 (by decide +kernel) (by decide +kernel), xtb 476 (by decide +kernel) (by decide +kernel), xtb 477 (by decide +kernel) (by decide +kernel), TX4, 11, rfl⟩)⟩
theorem xlk_7_151 : xlkOK 7 (151, 2, MX4_cutVertices) := ⟨mkX4_cutVertices, Or.inr (Or.inr ⟨rfl, xtb 479 (by decide +kernel) (by decide +kernel), xtb 480 (by decide +kernel) (by decide +kernel), xtb 481 (by decide +kernel) (by decide +kernel), TX4, 11, rfl⟩)⟩
theorem xlk_7_154 : xlkOK 7 (154, 2, MX4_bridges) := ⟨mkX4_bridges, Or.inr (Or.inr ⟨rfl, xtb 484 (by decide +kernel) (by decide +kernel), xtb 485 (by decide +kernel) (by decide +kernel), xtb 486 (by decide +kernel) (by decide +kernel), TX4, 11, rfl⟩)⟩
theorem xlk_7_176 : xlkOK 7 (176, 2, MX7_traced) := ⟨mkX7_traced, Or.inr (Or.inr ⟨rfl, xtb 552 (by decide +kernel) (by decide +kernel), xtb 554 (by decide +kernel) (by decide +kernel), xtb 12 (by decide +kernel) (by decide +kernel), TX7, 9, rfl⟩)⟩
theorem xlk_7_180 : xlkOK 7 (180, 2, MX6_behind) := ⟨mkX6_behind, Or.inr (Or.inr ⟨rfl, xtb 625 (by decide +kernel) (by decide +kernel), xtb 594 (by decide +kernel) (by decide +kernel), xtb 595 (by decide +kernel) (by decide +kernel), TX6, 8, rfl⟩)⟩
theorem xlk_7_183 : xlkOK 7 (183, 2, MX6_size) := ⟨mkX6_size, Or.inr (Or.inr ⟨rfl, xtb 597 (by decide +kernel) (by decide +kernel), xtb 598 (by decide +kernel) (by decide +kernel), xtb 599 (by decide +kernel) (by decide +kernel), TX6, 8, rfl⟩)⟩
theorem xlk_7_184 : xlkOK 7 (184, 2, MX6_holds) := ⟨mkX6_holds, Or.inr (Or.inr ⟨rfl, xtb 605 (by decide +kernel) (by decide +kernel), xtb 606 (by decide +kernel) (by decide +kernel), xtb 607 (by decide +kernel) (by decide +kernel), TX6, 8, rfl⟩)⟩
theorem xlk_7_187 : xlkOK 7 (187, 2, MX6_lengthOf) := ⟨mkX6_lengthOf, Or.inr (Or.inr ⟨rfl, xtb 609 (by decide +kernel) (by decide +kernel), xtb 610 (by decide +kernel) (by decide +kernel), xtb 611 (by decide +kernel) (by decide +kernel), TX6, 8, rfl⟩)⟩
theorem xlk_7_190 : xlkOK 7 (190, 2, MX6_vertexOf) := ⟨mkX6_vertexOf, Or.inr (Or.inr ⟨rfl, xtb 617 (by decide +kernel) (by decide +kernel), xtb 618 (by decide +kernel) (by decide +kernel), xtb 619 (by decide +kernel) (by decide +kernel), TX6, 8, rfl⟩)⟩
theorem xlk_7_193 : xlkOK 7 (193, 2, MX6_ofDart) := ⟨mkX6_ofDart, Or.inr (Or.inr ⟨rfl, xtb 630 (by decide +kernel) (by decide +kernel), xtb 585 (by decide +kernel) (by decide +kernel), xtb 586 (by decide +kernel) (by decide +kernel), TX6, 8, rfl⟩)⟩
theorem xlk_7_196 : xlkOK 7 (196, 2, MX3_find) := ⟨mkX3_find, Or.inr (Or.inr ⟨rfl, xtb 515 (by decide +kernel) (by decide +kernel), xtb 516 (by decide +kernel) (by decide +kernel), xtb 517 (by decide +kernel) (by decide +kernel), TX3, 3, rfl⟩)⟩
theorem xlk_7_200 : xlkOK 7 (200, 2, MX3_size) := ⟨mkX3_size, Or.inr (Or.inr ⟨rfl, xtb 530 (by decide +kernel) (by decide +kernel), xtb 531 (by decide +kernel) (by decide +kernel), xtb 532 (by decide +kernel) (by decide +kernel), TX3, 3, rfl⟩)⟩
theorem xlk_7_201 : xlkOK 7 (201, 2, MX3_verticesInMoreThan) := ⟨mkX3_verticesInMoreThan, Or.inr (Or.inr ⟨rfl, xtb 535 (by decide +kernel) (by decide +kernel), xtb 536 (by decide +kernel) (by decide +kernel), xtb 537 (by decide +kernel) (by decide +kernel), TX3, 3, rfl⟩)⟩
theorem xlk_7_204 : xlkOK 7 (204, 0, MJ6_bitCount_0f7a4) := ⟨mkJ6_bitCount_0f7a4, Or.inl ⟨rfl, xtb 541 (by decide +kernel) (by decide +kernel), xtb 397 (by decide +kernel) (by decide +kernel)⟩⟩
theorem xlk_7_209 : xlkOK 7 (209, 2, MX3_holds) := ⟨mkX3_holds, Or.inr (Or.inr ⟨rfl, xtb 522 (by decide +kernel) (by decide +kernel), xtb 523 (by decide +kernel) (by decide +kernel), xtb 524 (by decide +kernel) (by decide +kernel), TX3, 3, rfl⟩)⟩
theorem xlk_7_216 : xlkOK 7 (216, 2, MX6_trace) := ⟨mkX6_trace, Or.inr (Or.inr ⟨rfl, xtb 556 (by decide +kernel) (by decide +kernel), xtb 557 (by decide +kernel) (by decide +kernel), xtb 558 (by decide +kernel) (by decide +kernel), TX6, 8, rfl⟩)⟩
theorem xlk_7_228 : xlkOK 7 (228, 0, MX7_around) := ⟨mkX7_around, Or.inl ⟨rfl, xtb 382 (by decide +kernel) (by decide +kernel), xtb 383 (by decide +kernel) (by decide +kernel)⟩⟩
theorem xlk_7 : ∀ q ∈ xlnkL7, xlkOK 7 q := List.forall_mem_cons.mpr ⟨xlk_7_57, List.forall_mem_cons.mpr ⟨xlk_7_61, List.forall_mem_cons.mpr ⟨xlk_7_65, List.forall_mem_cons.mpr ⟨xlk_7_69, List.forall_mem_cons.mpr ⟨xlk_7_73, List.forall_mem_cons.mpr ⟨xlk_7_80, List.forall_mem_cons.mpr ⟨xlk_7_84, List.forall_mem_cons.mpr ⟨xlk_7_96, List.forall_mem_cons.mpr ⟨xlk_7_127, List.forall_mem_cons.mpr ⟨xlk_7_128, List.forall_mem_cons.mpr ⟨xlk_7_131, List.forall_mem_cons.mpr ⟨xlk_7_142, List.forall_mem_cons.mpr ⟨xlk_7_145, List.forall_mem_cons.mpr ⟨xlk_7_148, List.forall_mem_cons.mpr ⟨xlk_7_151, List.forall_mem_cons.mpr ⟨xlk_7_154, List.forall_mem_cons.mpr ⟨xlk_7_176, List.forall_mem_cons.mpr ⟨xlk_7_180, List.forall_mem_cons.mpr ⟨xlk_7_183, List.forall_mem_cons.mpr ⟨xlk_7_184, List.forall_mem_cons.mpr ⟨xlk_7_187, List.forall_mem_cons.mpr ⟨xlk_7_190, List.forall_mem_cons.mpr ⟨xlk_7_193, List.forall_mem_cons.mpr ⟨xlk_7_196, List.forall_mem_cons.mpr ⟨xlk_7_200, List.forall_mem_cons.mpr ⟨xlk_7_201, List.forall_mem_cons.mpr ⟨xlk_7_204, List.forall_mem_cons.mpr ⟨xlk_7_209, List.forall_mem_cons.mpr ⟨xlk_7_216, List.forall_mem_cons.mpr ⟨xlk_7_228, fun _ h => absurd h List.not_mem_nil⟩⟩⟩⟩⟩⟩⟩⟩⟩⟩⟩⟩⟩⟩⟩⟩⟩⟩⟩⟩⟩⟩⟩⟩⟩⟩⟩⟩⟩⟩
theorem xlk_9_10 : xlkOK 9 (10, 0, ML_ones) := ⟨mkL_ones, Or.inl ⟨rfl, xtb 333 (by decide +kernel) (by decide +kernel), xtb 334 (by decide +kernel) (by decide +kernel)⟩⟩
theorem xlk_9_16 : xlkOK 9 (16, 0, ML_edges) := ⟨mkL_edges, Or.inl ⟨rfl, xtb 330 (by decide +kernel) (by decide +kernel), xtb 331 (by decide +kernel) (by decide +kernel)⟩⟩
theorem xlk_9_20 : xlkOK 9 (20, 0, ML_lowest) := ⟨mkL_lowest, Or.inl ⟨rfl, xtb 342 (by decide +kernel) (by decide +kernel), xtb 343 (by decide +kernel) (by decide +kernel)⟩⟩
theorem xlk_9_23 : xlkOK 9 (23, 2, MX7_next) := ⟨mkX7_next, Or.inr (Or.inr ⟨rfl, xtb 621 (by decide +kernel) (by decide +kernel), xtb 622 (by decide +kernel) (by decide +kernel), xtb 623 (by decide +kernel) (by decide +kernel), TX7, 9, rfl⟩)⟩
theorem xlk_9_29 : xlkOK 9 (29, 0, ML_joined) := ⟨mkL_joined, Or.inl ⟨rfl, xtb 339 (by decide +kernel) (by decide +kernel), xtb 340 (by decide +kernel) (by decide +kernel)⟩⟩
theorem xlk_9_33 : xlkOK 9 (33, 2, MX7_walks) := ⟨mkX7_walks, Or.inr (Or.inr ⟨rfl, xtb 548 (by decide +kernel) (by decide +kernel), xtb 549 (by decide +kernel) (by decide +kernel), xtb 550 (by decide +kernel) (by decide +kernel), TX7, 9, rfl⟩)⟩
theorem xlk_9_37 : xlkOK 9 (37, 2, MX7_walkLength) := ⟨mkX7_walkLength, Or.inr (Or.inr ⟨rfl, xtb 601 (by decide +kernel) (by decide +kernel), xtb 602 (by decide +kernel) (by decide +kernel), xtb 603 (by decide +kernel) (by decide +kernel), TX7, 9, rfl⟩)⟩
theorem xlk_9_40 : xlkOK 9 (40, 2, MX7_walkVertex) := ⟨mkX7_walkVertex, Or.inr (Or.inr ⟨rfl, xtb 613 (by decide +kernel) (by decide +kernel), xtb 614 (by decide +kernel) (by decide +kernel), xtb 615 (by decide +kernel) (by decide +kernel), TX7, 9, rfl⟩)⟩
theorem xlk_9_43 : xlkOK 9 (43, 2, MX7_walkOf) := ⟨mkX7_walkOf, Or.inr (Or.inr ⟨rfl, xtb 626 (by decide +kernel) (by decide +kernel), xtb 627 (by decide +kernel) (by decide +kernel), xtb 628 (by decide +kernel) (by decide +kernel), TX7, 9, rfl⟩)⟩
theorem xlk_9_46 : xlkOK 9 (46, 0, ML_end) := ⟨mkL_end, Or.inl ⟨rfl, xtb 545 (by decide +kernel) (by decide +kernel), xtb 546 (by decide +kernel) (by decide +kernel)⟩⟩
theorem xlk_9_50 : xlkOK 9 (50, 2, MX7_inForbidden) := ⟨mkX7_inForbidden, Or.inr (Or.inr ⟨rfl, xtb 511 (by decide +kernel) (by decide +kernel), xtb 512 (by decide +kernel) (by decide +kernel), xtb 513 (by decide +kernel) (by decide +kernel), TX7, 9, rfl⟩)⟩
theorem xlk_9_53 : xlkOK 9 (53, 2, MX7_forbidden) := ⟨mkX7_forbidden, Or.inr (Or.inr ⟨rfl, xtb 526 (by decide +kernel) (by decide +kernel), xtb 527 (by decide +kernel) (by decide +kernel), xtb 528 (by decide +kernel) (by decide +kernel), TX7, 9, rfl⟩)⟩
theorem xlk_9_56 : xlkOK 9 (56, 0, ML_ends) := ⟨mkL_ends, Or.inl ⟨rfl, xtb 542 (by decide +kernel) (by decide +kernel), xtb 543 (by decide +kernel) (by decide +kernel)⟩⟩
theorem xlk_9_60 : xlkOK 9 (60, 2, MX7_neighbors) := ⟨mkX7_neighbors, Or.inr (Or.inr ⟨rfl, xtb 345 (by decide +kernel) (by decide +kernel), xtb 346 (by decide +kernel) (by decide +kernel), xtb 347 (by decide +kernel) (by decide +kernel), TX7, 9, rfl⟩)⟩
theorem xlk_9_63 : xlkOK 9 (63, 2, MX7_count) := ⟨mkX7_count, Or.inr (Or.inr ⟨rfl, xtb 467 (by decide +kernel) (by decide +kernel), xtb 468 (by decide +kernel) (by decide +kernel), xtb 469 (by decide +kernel) (by decide +kernel), TX7, 9, rfl⟩)⟩
theorem xlk_9_66 : xlkOK 9 (66, 2, MX7_density) := ⟨mkX7_density, Or.inr (Or.inr ⟨rfl, xtb 498 (by decide +kernel) (by decide +kernel), xtb 499 (by decide +kernel) (by decide +kernel), xtb 500 (by decide +kernel) (by decide +kernel), TX7, 9, rfl⟩)⟩
theorem xlk_9_72 : xlkOK 9 (72, 0, ML_low) := ⟨mkL_low, Or.inl ⟨rfl, xtb 326 (by decide +kernel) (by decide +kernel), xtb 327 (by decide +kernel) (by decide +kernel)⟩⟩
theorem xlk_9_75 : xlkOK 9 (75, 2, MX7_planar) := ⟨mkX7_planar, Or.inr (Or.inr ⟨rfl, xtb 504 (by decide +kernel) (by decide +kernel), xtb 505 (by decide +kernel) (by decide +kernel), xtb 506 (by decide +kernel) (by decide +kernel), TX7, 9, rfl⟩)⟩
theorem xlk_9_78 : xlkOK 9 (78, 0, ML_isForbidden) := ⟨mkL_isForbidden, Or.inl ⟨rfl, xtb 508 (by decide +kernel) (by decide +kernel), xtb 509 (by decide +kernel) (by decide +kernel)⟩⟩
theorem xlk_9_82 : xlkOK 9 (82, 0, ML_isDrawn) := ⟨mkL_isDrawn, Or.inl ⟨rfl, xtb 631 (by decide +kernel) (by decide +kernel), xtb 632 (by decide +kernel) (by decide +kernel)⟩⟩
theorem xlk_9_85 : xlkOK 9 (85, 0, ML_isWalk) := ⟨mkL_isWalk, Or.inl ⟨rfl, xtb 634 (by decide +kernel) (by decide +kernel), xtb 635 (by decide +kernel) (by decide +kernel)⟩⟩
theorem xlk_9 : ∀ q ∈ xlnkL9, xlkOK 9 q := List.forall_mem_cons.mpr ⟨xlk_9_10, List.forall_mem_cons.mpr ⟨xlk_9_16, List.forall_mem_cons.mpr ⟨xlk_9_20, List.forall_mem_cons.mpr ⟨xlk_9_23, List.forall_mem_cons.mpr ⟨xlk_9_29, List.forall_mem_cons.mpr ⟨xlk_9_33, List.forall_mem_cons.mpr ⟨xlk_9_37, List.forall_mem_cons.mpr ⟨xlk_9_40, List.forall_mem_cons.mpr ⟨xlk_9_43, List.forall_mem_cons.mpr ⟨xlk_9_46, List.forall_mem_cons.mpr ⟨xlk_9_50, List.forall_mem_cons.mpr ⟨xlk_9_53, List.forall_mem_cons.mpr ⟨xlk_9_56, List.forall_mem_cons.mpr ⟨xlk_9_60, List.forall_mem_cons.mpr ⟨xlk_9_63, List.forall_mem_cons.mpr ⟨xlk_9_66, List.forall_mem_cons.mpr ⟨xlk_9_72, List.forall_mem_cons.mpr ⟨xlk_9_75, List.forall_mem_cons.mpr ⟨xlk_9_78, List.forall_mem_cons.mpr ⟨xlk_9_82, List.forall_mem_cons.mpr ⟨xlk_9_85, fun _ h => absurd h List.not_mem_nil⟩⟩⟩⟩⟩⟩⟩⟩⟩⟩⟩⟩⟩⟩⟩⟩⟩⟩⟩⟩⟩
theorem xlnk_ok {c idx : Nat} {v : Nat × xMI} (h : xlnk c idx = some v) : xlkOK c (idx, v) := by
  unfold xlnk at h
  split at h
  · exact xlk_1 _ (xfind_mem h)
  · exact xlk_2 _ (xfind_mem h)
  · exact xlk_3 _ (xfind_mem h)
  · exact xlk_4 _ (xfind_mem h)
  · exact xlk_5 _ (xfind_mem h)
  · exact xlk_6 _ (xfind_mem h)
  · exact xlk_7 _ (xfind_mem h)
  · exact xlk_9 _ (xfind_mem h)
  · cases h
