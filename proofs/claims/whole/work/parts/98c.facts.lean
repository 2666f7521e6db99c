/-! printed by a program of mine: what each link rests on, by its place in the tables -/
set_option maxRecDepth 20000 in
theorem xcl_0 : xclOK 0 := by
  have h1 : ∀ w ∈ u_ws RX0 TX0 5, w ∈ lw_tbl := by decide +kernel
  have h2 : (u_ws RX0 TX0 5).all goodWord = true := by decide +kernel
  exact ⟨RX0, TX0, 5, tyX0, rfl, fun w hw => List.mem_filter.mpr ⟨h1 w hw, List.all_eq_true.mp h2 w hw⟩, tyX0_ok, nmX0⟩
set_option maxRecDepth 20000 in
theorem xcl_1 : xclOK 1 := by
  have h1 : ∀ w ∈ u_ws RX1 TX1 16, w ∈ lw_tbl := by decide +kernel
  have h2 : (u_ws RX1 TX1 16).all goodWord = true := by decide +kernel
  exact ⟨RX1, TX1, 16, tyX1, rfl, fun w hw => List.mem_filter.mpr ⟨h1 w hw, List.all_eq_true.mp h2 w hw⟩, tyX1_ok, nmX1⟩
set_option maxRecDepth 20000 in
theorem xcl_2 : xclOK 2 := by
  have h1 : ∀ w ∈ u_ws RX2 TX2 4, w ∈ lw_tbl := by decide +kernel
  have h2 : (u_ws RX2 TX2 4).all goodWord = true := by decide +kernel
  exact ⟨RX2, TX2, 4, tyX2, rfl, fun w hw => List.mem_filter.mpr ⟨h1 w hw, List.all_eq_true.mp h2 w hw⟩, tyX2_ok, nmX2⟩
set_option maxRecDepth 20000 in
theorem xcl_3 : xclOK 3 := by
  have h1 : ∀ w ∈ u_ws RX3 TX3 3, w ∈ lw_tbl := by decide +kernel
  have h2 : (u_ws RX3 TX3 3).all goodWord = true := by decide +kernel
  exact ⟨RX3, TX3, 3, tyX3, rfl, fun w hw => List.mem_filter.mpr ⟨h1 w hw, List.all_eq_true.mp h2 w hw⟩, tyX3_ok, nmX3⟩
set_option maxRecDepth 20000 in
theorem xcl_4 : xclOK 4 := by
  have h1 : ∀ w ∈ u_ws RX4 TX4 11, w ∈ lw_tbl := by decide +kernel
  have h2 : (u_ws RX4 TX4 11).all goodWord = true := by decide +kernel
  exact ⟨RX4, TX4, 11, tyX4, rfl, fun w hw => List.mem_filter.mpr ⟨h1 w hw, List.all_eq_true.mp h2 w hw⟩, tyX4_ok, nmX4⟩
set_option maxRecDepth 20000 in
theorem xcl_5 : xclOK 5 := by
  have h1 : ∀ w ∈ u_ws RX5 TX5 3, w ∈ lw_tbl := by decide +kernel
  have h2 : (u_ws RX5 TX5 3).all goodWord = true := by decide +kernel
  exact ⟨RX5, TX5, 3, tyX5, rfl, fun w hw => List.mem_filter.mpr ⟨h1 w hw, List.all_eq_true.mp h2 w hw⟩, tyX5_ok, nmX5⟩
set_option maxRecDepth 20000 in
theorem xcl_6 : xclOK 6 := by
  have h1 : ∀ w ∈ u_ws RX6 TX6 8, w ∈ lw_tbl := by decide +kernel
  have h2 : (u_ws RX6 TX6 8).all goodWord = true := by decide +kernel
  exact ⟨RX6, TX6, 8, tyX6, rfl, fun w hw => List.mem_filter.mpr ⟨h1 w hw, List.all_eq_true.mp h2 w hw⟩, tyX6_ok, nmX6⟩
set_option maxRecDepth 20000 in
theorem xcl_7 : xclOK 7 := by
  have h1 : ∀ w ∈ u_ws RX7 TX7 9, w ∈ lw_tbl := by decide +kernel
  have h2 : (u_ws RX7 TX7 9).all goodWord = true := by decide +kernel
  exact ⟨RX7, TX7, 9, tyX7, rfl, fun w hw => List.mem_filter.mpr ⟨h1 w hw, List.all_eq_true.mp h2 w hw⟩, tyX7_ok, nmX7⟩
set_option maxRecDepth 20000 in
theorem xcl_8 : xclOK 8 := by
  have h1 : ∀ w ∈ u_ws RX8 TX8 35, w ∈ lw_tbl := by decide +kernel
  have h2 : (u_ws RX8 TX8 35).all goodWord = true := by decide +kernel
  exact ⟨RX8, TX8, 35, tyX8, rfl, fun w hw => List.mem_filter.mpr ⟨h1 w hw, List.all_eq_true.mp h2 w hw⟩, tyX8_ok, nmX8⟩
theorem xfl_0_0 : xflOK 0 (9, 0, 0) := ⟨xcl_0, RX0, TX0, 5, rfl, by decide, xtb 134 (by decide +kernel) (by decide +kernel)⟩
theorem xfl_0_1 : xflOK 0 (15, 0, 2) := ⟨xcl_0, RX0, TX0, 5, rfl, by decide, xtb 136 (by decide +kernel) (by decide +kernel)⟩
theorem xfl_0_2 : xflOK 0 (18, 0, 3) := ⟨xcl_0, RX0, TX0, 5, rfl, by decide, xtb 137 (by decide +kernel) (by decide +kernel)⟩
theorem xfl_0_3 : xflOK 0 (21, 0, 1) := ⟨xcl_0, RX0, TX0, 5, rfl, by decide, xtb 135 (by decide +kernel) (by decide +kernel)⟩
theorem xfl_0_4 : xflOK 0 (25, 0, 4) := ⟨xcl_0, RX0, TX0, 5, rfl, by decide, xtb 138 (by decide +kernel) (by decide +kernel)⟩
theorem xfl_0 : ∀ q ∈ xflkL0, xflOK 0 q := List.forall_mem_cons.mpr ⟨xfl_0_0, List.forall_mem_cons.mpr ⟨xfl_0_1, List.forall_mem_cons.mpr ⟨xfl_0_2, List.forall_mem_cons.mpr ⟨xfl_0_3, List.forall_mem_cons.mpr ⟨xfl_0_4, fun _ h => absurd h List.not_mem_nil⟩⟩⟩⟩⟩
theorem xfl_1_0 : xflOK 1 (9, 1, 0) := ⟨xcl_1, RX1, TX1, 16, rfl, by decide, xtb 162 (by decide +kernel) (by decide +kernel)⟩
theorem xfl_1_1 : xflOK 1 (15, 1, 1) := ⟨xcl_1, RX1, TX1, 16, rfl, by decide, xtb 163 (by decide +kernel) (by decide +kernel)⟩
theorem xfl_1_2 : xflOK 1 (18, 1, 6) := ⟨xcl_1, RX1, TX1, 16, rfl, by decide, xtb 168 (by decide +kernel) (by decide +kernel)⟩
theorem xfl_1_3 : xflOK 1 (21, 1, 7) := ⟨xcl_1, RX1, TX1, 16, rfl, by decide, xtb 169 (by decide +kernel) (by decide +kernel)⟩
theorem xfl_1_4 : xflOK 1 (24, 1, 13) := ⟨xcl_1, RX1, TX1, 16, rfl, by decide, xtb 175 (by decide +kernel) (by decide +kernel)⟩
theorem xfl_1_5 : xflOK 1 (27, 1, 15) := ⟨xcl_1, RX1, TX1, 16, rfl, by decide, xtb 177 (by decide +kernel) (by decide +kernel)⟩
theorem xfl_1_6 : xflOK 1 (30, 1, 4) := ⟨xcl_1, RX1, TX1, 16, rfl, by decide, xtb 166 (by decide +kernel) (by decide +kernel)⟩
theorem xfl_1_7 : xflOK 1 (34, 1, 5) := ⟨xcl_1, RX1, TX1, 16, rfl, by decide, xtb 167 (by decide +kernel) (by decide +kernel)⟩
theorem xfl_1_8 : xflOK 1 (37, 1, 8) := ⟨xcl_1, RX1, TX1, 16, rfl, by decide, xtb 170 (by decide +kernel) (by decide +kernel)⟩
theorem xfl_1_9 : xflOK 1 (57, 1, 2) := ⟨xcl_1, RX1, TX1, 16, rfl, by decide, xtb 164 (by decide +kernel) (by decide +kernel)⟩
theorem xfl_1_10 : xflOK 1 (83, 1, 3) := ⟨xcl_1, RX1, TX1, 16, rfl, by decide, xtb 165 (by decide +kernel) (by decide +kernel)⟩
theorem xfl_1_11 : xflOK 1 (99, 1, 14) := ⟨xcl_1, RX1, TX1, 16, rfl, by decide, xtb 176 (by decide +kernel) (by decide +kernel)⟩
theorem xfl_1_12 : xflOK 1 (105, 1, 12) := ⟨xcl_1, RX1, TX1, 16, rfl, by decide, xtb 174 (by decide +kernel) (by decide +kernel)⟩
theorem xfl_1_13 : xflOK 1 (115, 1, 9) := ⟨xcl_1, RX1, TX1, 16, rfl, by decide, xtb 171 (by decide +kernel) (by decide +kernel)⟩
theorem xfl_1_14 : xflOK 1 (118, 1, 10) := ⟨xcl_1, RX1, TX1, 16, rfl, by decide, xtb 172 (by decide +kernel) (by decide +kernel)⟩
theorem xfl_1_15 : xflOK 1 (121, 1, 11) := ⟨xcl_1, RX1, TX1, 16, rfl, by decide, xtb 173 (by decide +kernel) (by decide +kernel)⟩
theorem xfl_1 : ∀ q ∈ xflkL1, xflOK 1 q := List.forall_mem_cons.mpr ⟨xfl_1_0, List.forall_mem_cons.mpr ⟨xfl_1_1, List.forall_mem_cons.mpr ⟨xfl_1_2, List.forall_mem_cons.mpr ⟨xfl_1_3, List.forall_mem_cons.mpr ⟨xfl_1_4, List.forall_mem_cons.mpr ⟨xfl_1_5, List.forall_mem_cons.mpr ⟨xfl_1_6, List.forall_mem_cons.mpr ⟨xfl_1_7, List.forall_mem_cons.mpr ⟨xfl_1_8, List.forall_mem_cons.mpr ⟨xfl_1_9, List.forall_mem_cons.mpr ⟨xfl_1_10, List.forall_mem_cons.mpr ⟨xfl_1_11, List.forall_mem_cons.mpr ⟨xfl_1_12, List.forall_mem_cons.mpr ⟨xfl_1_13, List.forall_mem_cons.mpr ⟨xfl_1_14, List.forall_mem_cons.mpr ⟨xfl_1_15, fun _ h => absurd h List.not_mem_nil⟩⟩⟩⟩⟩⟩⟩⟩⟩⟩⟩⟩⟩⟩⟩⟩
theorem xfl_2_0 : xflOK 2 (9, 2, 0) := ⟨xcl_2, RX2, TX2, 4, rfl, by decide, xtb 113 (by decide +kernel) (by decide +kernel)⟩
theorem xfl_2_1 : xflOK 2 (15, 2, 1) := ⟨xcl_2, RX2, TX2, 4, rfl, by decide, xtb 114 (by decide +kernel) (by decide +kernel)⟩
theorem xfl_2_2 : xflOK 2 (19, 2, 2) := ⟨xcl_2, RX2, TX2, 4, rfl, by decide, xtb 115 (by decide +kernel) (by decide +kernel)⟩
theorem xfl_2_3 : xflOK 2 (22, 2, 3) := ⟨xcl_2, RX2, TX2, 4, rfl, by decide, xtb 116 (by decide +kernel) (by decide +kernel)⟩
theorem xfl_2 : ∀ q ∈ xflkL2, xflOK 2 q := List.forall_mem_cons.mpr ⟨xfl_2_0, List.forall_mem_cons.mpr ⟨xfl_2_1, List.forall_mem_cons.mpr ⟨xfl_2_2, List.forall_mem_cons.mpr ⟨xfl_2_3, fun _ h => absurd h List.not_mem_nil⟩⟩⟩⟩
theorem xfl_3_0 : xflOK 3 (9, 3, 2) := ⟨xcl_3, RX3, TX3, 3, rfl, by decide, xtb 284 (by decide +kernel) (by decide +kernel)⟩
theorem xfl_3_1 : xflOK 3 (15, 3, 1) := ⟨xcl_3, RX3, TX3, 3, rfl, by decide, xtb 283 (by decide +kernel) (by decide +kernel)⟩
theorem xfl_3_2 : xflOK 3 (19, 3, 0) := ⟨xcl_3, RX3, TX3, 3, rfl, by decide, xtb 282 (by decide +kernel) (by decide +kernel)⟩
theorem xfl_3 : ∀ q ∈ xflkL3, xflOK 3 q := List.forall_mem_cons.mpr ⟨xfl_3_0, List.forall_mem_cons.mpr ⟨xfl_3_1, List.forall_mem_cons.mpr ⟨xfl_3_2, fun _ h => absurd h List.not_mem_nil⟩⟩⟩
theorem xfl_4_0 : xflOK 4 (9, 4, 0) := ⟨xcl_4, RX4, TX4, 11, rfl, by decide, xtb 211 (by decide +kernel) (by decide +kernel)⟩
theorem xfl_4_1 : xflOK 4 (15, 4, 1) := ⟨xcl_4, RX4, TX4, 11, rfl, by decide, xtb 212 (by decide +kernel) (by decide +kernel)⟩
theorem xfl_4_2 : xflOK 4 (18, 4, 2) := ⟨xcl_4, RX4, TX4, 11, rfl, by decide, xtb 213 (by decide +kernel) (by decide +kernel)⟩
theorem xfl_4_3 : xflOK 4 (21, 4, 3) := ⟨xcl_4, RX4, TX4, 11, rfl, by decide, xtb 214 (by decide +kernel) (by decide +kernel)⟩
theorem xfl_4_4 : xflOK 4 (24, 4, 4) := ⟨xcl_4, RX4, TX4, 11, rfl, by decide, xtb 215 (by decide +kernel) (by decide +kernel)⟩
theorem xfl_4_5 : xflOK 4 (27, 4, 5) := ⟨xcl_4, RX4, TX4, 11, rfl, by decide, xtb 216 (by decide +kernel) (by decide +kernel)⟩
theorem xfl_4_6 : xflOK 4 (33, 4, 6) := ⟨xcl_4, RX4, TX4, 11, rfl, by decide, xtb 217 (by decide +kernel) (by decide +kernel)⟩
theorem xfl_4_7 : xflOK 4 (37, 4, 10) := ⟨xcl_4, RX4, TX4, 11, rfl, by decide, xtb 221 (by decide +kernel) (by decide +kernel)⟩
theorem xfl_4_8 : xflOK 4 (41, 4, 9) := ⟨xcl_4, RX4, TX4, 11, rfl, by decide, xtb 220 (by decide +kernel) (by decide +kernel)⟩
theorem xfl_4_9 : xflOK 4 (45, 4, 8) := ⟨xcl_4, RX4, TX4, 11, rfl, by decide, xtb 219 (by decide +kernel) (by decide +kernel)⟩
theorem xfl_4_10 : xflOK 4 (48, 4, 7) := ⟨xcl_4, RX4, TX4, 11, rfl, by decide, xtb 218 (by decide +kernel) (by decide +kernel)⟩
theorem xfl_4 : ∀ q ∈ xflkL4, xflOK 4 q := List.forall_mem_cons.mpr ⟨xfl_4_0, List.forall_mem_cons.mpr ⟨xfl_4_1, List.forall_mem_cons.mpr ⟨xfl_4_2, List.forall_mem_cons.mpr ⟨xfl_4_3, List.forall_mem_cons.mpr ⟨xfl_4_4, List.forall_mem_cons.mpr ⟨xfl_4_5, List.forall_mem_cons.mpr ⟨xfl_4_6, List.forall_mem_cons.mpr ⟨xfl_4_7, List.forall_mem_cons.mpr ⟨xfl_4_8, List.forall_mem_cons.mpr ⟨xfl_4_9, List.forall_mem_cons.mpr ⟨xfl_4_10, fun _ h => absurd h List.not_mem_nil⟩⟩⟩⟩⟩⟩⟩⟩⟩⟩⟩
theorem xfl_5_0 : xflOK 5 (7, 5, 0) := ⟨xcl_5, RX5, TX5, 3, rfl, by decide, xtb 97 (by decide +kernel) (by decide +kernel)⟩
theorem xfl_5_1 : xflOK 5 (13, 5, 1) := ⟨xcl_5, RX5, TX5, 3, rfl, by decide, xtb 98 (by decide +kernel) (by decide +kernel)⟩
theorem xfl_5_2 : xflOK 5 (17, 5, 2) := ⟨xcl_5, RX5, TX5, 3, rfl, by decide, xtb 99 (by decide +kernel) (by decide +kernel)⟩
theorem xfl_5 : ∀ q ∈ xflkL5, xflOK 5 q := List.forall_mem_cons.mpr ⟨xfl_5_0, List.forall_mem_cons.mpr ⟨xfl_5_1, List.forall_mem_cons.mpr ⟨xfl_5_2, fun _ h => absurd h List.not_mem_nil⟩⟩⟩
theorem xfl_6_0 : xflOK 6 (9, 6, 0) := ⟨xcl_6, RX6, TX6, 8, rfl, by decide, xtb 251 (by decide +kernel) (by decide +kernel)⟩
theorem xfl_6_1 : xflOK 6 (15, 6, 1) := ⟨xcl_6, RX6, TX6, 8, rfl, by decide, xtb 252 (by decide +kernel) (by decide +kernel)⟩
theorem xfl_6_2 : xflOK 6 (18, 6, 2) := ⟨xcl_6, RX6, TX6, 8, rfl, by decide, xtb 253 (by decide +kernel) (by decide +kernel)⟩
theorem xfl_6_3 : xflOK 6 (21, 6, 3) := ⟨xcl_6, RX6, TX6, 8, rfl, by decide, xtb 254 (by decide +kernel) (by decide +kernel)⟩
theorem xfl_6_4 : xflOK 6 (24, 6, 7) := ⟨xcl_6, RX6, TX6, 8, rfl, by decide, xtb 258 (by decide +kernel) (by decide +kernel)⟩
theorem xfl_6_5 : xflOK 6 (28, 6, 6) := ⟨xcl_6, RX6, TX6, 8, rfl, by decide, xtb 257 (by decide +kernel) (by decide +kernel)⟩
theorem xfl_6_6 : xflOK 6 (37, 6, 4) := ⟨xcl_6, RX6, TX6, 8, rfl, by decide, xtb 255 (by decide +kernel) (by decide +kernel)⟩
theorem xfl_6_7 : xflOK 6 (41, 6, 5) := ⟨xcl_6, RX6, TX6, 8, rfl, by decide, xtb 256 (by decide +kernel) (by decide +kernel)⟩
theorem xfl_6 : ∀ q ∈ xflkL6, xflOK 6 q := List.forall_mem_cons.mpr ⟨xfl_6_0, List.forall_mem_cons.mpr ⟨xfl_6_1, List.forall_mem_cons.mpr ⟨xfl_6_2, List.forall_mem_cons.mpr ⟨xfl_6_3, List.forall_mem_cons.mpr ⟨xfl_6_4, List.forall_mem_cons.mpr ⟨xfl_6_5, List.forall_mem_cons.mpr ⟨xfl_6_6, List.forall_mem_cons.mpr ⟨xfl_6_7, fun _ h => absurd h List.not_mem_nil⟩⟩⟩⟩⟩⟩⟩⟩
theorem xfl_7_0 : xflOK 7 (12, 7, 0) := ⟨xcl_7, RX7, TX7, 9, rfl, by decide, xtb 292 (by decide +kernel) (by decide +kernel)⟩
theorem xfl_7_1 : xflOK 7 (16, 7, 1) := ⟨xcl_7, RX7, TX7, 9, rfl, by decide, xtb 293 (by decide +kernel) (by decide +kernel)⟩
theorem xfl_7_2 : xflOK 7 (22, 7, 3) := ⟨xcl_7, RX7, TX7, 9, rfl, by decide, xtb 295 (by decide +kernel) (by decide +kernel)⟩
theorem xfl_7_3 : xflOK 7 (29, 7, 4) := ⟨xcl_7, RX7, TX7, 9, rfl, by decide, xtb 296 (by decide +kernel) (by decide +kernel)⟩
theorem xfl_7_4 : xflOK 7 (36, 7, 5) := ⟨xcl_7, RX7, TX7, 9, rfl, by decide, xtb 297 (by decide +kernel) (by decide +kernel)⟩
theorem xfl_7_5 : xflOK 7 (40, 7, 6) := ⟨xcl_7, RX7, TX7, 9, rfl, by decide, xtb 298 (by decide +kernel) (by decide +kernel)⟩
theorem xfl_7_6 : xflOK 7 (46, 7, 7) := ⟨xcl_7, RX7, TX7, 9, rfl, by decide, xtb 299 (by decide +kernel) (by decide +kernel)⟩
theorem xfl_7_7 : xflOK 7 (53, 7, 8) := ⟨xcl_7, RX7, TX7, 9, rfl, by decide, xtb 300 (by decide +kernel) (by decide +kernel)⟩
theorem xfl_7_8 : xflOK 7 (138, 7, 2) := ⟨xcl_7, RX7, TX7, 9, rfl, by decide, xtb 294 (by decide +kernel) (by decide +kernel)⟩
theorem xfl_7 : ∀ q ∈ xflkL7, xflOK 7 q := List.forall_mem_cons.mpr ⟨xfl_7_0, List.forall_mem_cons.mpr ⟨xfl_7_1, List.forall_mem_cons.mpr ⟨xfl_7_2, List.forall_mem_cons.mpr ⟨xfl_7_3, List.forall_mem_cons.mpr ⟨xfl_7_4, List.forall_mem_cons.mpr ⟨xfl_7_5, List.forall_mem_cons.mpr ⟨xfl_7_6, List.forall_mem_cons.mpr ⟨xfl_7_7, List.forall_mem_cons.mpr ⟨xfl_7_8, fun _ h => absurd h List.not_mem_nil⟩⟩⟩⟩⟩⟩⟩⟩⟩
theorem xfl_8_0 : xflOK 8 (7, 8, 0) := ⟨xcl_8, RX8, TX8, 35, rfl, by decide, xtb 847 (by decide +kernel) (by decide +kernel)⟩
theorem xfl_8_1 : xflOK 8 (13, 8, 1) := ⟨xcl_8, RX8, TX8, 35, rfl, by decide, xtb 848 (by decide +kernel) (by decide +kernel)⟩
theorem xfl_8_2 : xflOK 8 (16, 8, 3) := ⟨xcl_8, RX8, TX8, 35, rfl, by decide, xtb 850 (by decide +kernel) (by decide +kernel)⟩
theorem xfl_8_3 : xflOK 8 (19, 8, 5) := ⟨xcl_8, RX8, TX8, 35, rfl, by decide, xtb 852 (by decide +kernel) (by decide +kernel)⟩
theorem xfl_8_4 : xflOK 8 (22, 8, 11) := ⟨xcl_8, RX8, TX8, 35, rfl, by decide, xtb 858 (by decide +kernel) (by decide +kernel)⟩
theorem xfl_8_5 : xflOK 8 (25, 8, 12) := ⟨xcl_8, RX8, TX8, 35, rfl, by decide, xtb 859 (by decide +kernel) (by decide +kernel)⟩
theorem xfl_8_6 : xflOK 8 (28, 8, 14) := ⟨xcl_8, RX8, TX8, 35, rfl, by decide, xtb 861 (by decide +kernel) (by decide +kernel)⟩
theorem xfl_8_7 : xflOK 8 (31, 8, 15) := ⟨xcl_8, RX8, TX8, 35, rfl, by decide, xtb 862 (by decide +kernel) (by decide +kernel)⟩
theorem xfl_8_8 : xflOK 8 (34, 8, 16) := ⟨xcl_8, RX8, TX8, 35, rfl, by decide, xtb 863 (by decide +kernel) (by decide +kernel)⟩
theorem xfl_8_9 : xflOK 8 (37, 8, 17) := ⟨xcl_8, RX8, TX8, 35, rfl, by decide, xtb 864 (by decide +kernel) (by decide +kernel)⟩
theorem xfl_8_10 : xflOK 8 (40, 8, 18) := ⟨xcl_8, RX8, TX8, 35, rfl, by decide, xtb 865 (by decide +kernel) (by decide +kernel)⟩
theorem xfl_8_11 : xflOK 8 (43, 8, 22) := ⟨xcl_8, RX8, TX8, 35, rfl, by decide, xtb 869 (by decide +kernel) (by decide +kernel)⟩
theorem xfl_8_12 : xflOK 8 (46, 8, 23) := ⟨xcl_8, RX8, TX8, 35, rfl, by decide, xtb 870 (by decide +kernel) (by decide +kernel)⟩
theorem xfl_8_13 : xflOK 8 (49, 8, 25) := ⟨xcl_8, RX8, TX8, 35, rfl, by decide, xtb 872 (by decide +kernel) (by decide +kernel)⟩
theorem xfl_8_14 : xflOK 8 (52, 8, 26) := ⟨xcl_8, RX8, TX8, 35, rfl, by decide, xtb 873 (by decide +kernel) (by decide +kernel)⟩
theorem xfl_8_15 : xflOK 8 (55, 8, 28) := ⟨xcl_8, RX8, TX8, 35, rfl, by decide, xtb 875 (by decide +kernel) (by decide +kernel)⟩
theorem xfl_8_16 : xflOK 8 (58, 8, 30) := ⟨xcl_8, RX8, TX8, 35, rfl, by decide, xtb 877 (by decide +kernel) (by decide +kernel)⟩
theorem xfl_8_17 : xflOK 8 (61, 8, 31) := ⟨xcl_8, RX8, TX8, 35, rfl, by decide, xtb 878 (by decide +kernel) (by decide +kernel)⟩
theorem xfl_8_18 : xflOK 8 (64, 8, 32) := ⟨xcl_8, RX8, TX8, 35, rfl, by decide, xtb 879 (by decide +kernel) (by decide +kernel)⟩
theorem xfl_8_19 : xflOK 8 (67, 8, 33) := ⟨xcl_8, RX8, TX8, 35, rfl, by decide, xtb 880 (by decide +kernel) (by decide +kernel)⟩
theorem xfl_8_20 : xflOK 8 (70, 8, 4) := ⟨xcl_8, RX8, TX8, 35, rfl, by decide, xtb 851 (by decide +kernel) (by decide +kernel)⟩
theorem xfl_8_21 : xflOK 8 (86, 8, 2) := ⟨xcl_8, RX8, TX8, 35, rfl, by decide, xtb 849 (by decide +kernel) (by decide +kernel)⟩
theorem xfl_8_22 : xflOK 8 (113, 8, 13) := ⟨xcl_8, RX8, TX8, 35, rfl, by decide, xtb 860 (by decide +kernel) (by decide +kernel)⟩
theorem xfl_8_23 : xflOK 8 (119, 8, 19) := ⟨xcl_8, RX8, TX8, 35, rfl, by decide, xtb 866 (by decide +kernel) (by decide +kernel)⟩
theorem xfl_8_24 : xflOK 8 (122, 8, 20) := ⟨xcl_8, RX8, TX8, 35, rfl, by decide, xtb 867 (by decide +kernel) (by decide +kernel)⟩
theorem xfl_8_25 : xflOK 8 (140, 8, 21) := ⟨xcl_8, RX8, TX8, 35, rfl, by decide, xtb 868 (by decide +kernel) (by decide +kernel)⟩
theorem xfl_8_26 : xflOK 8 (143, 8, 24) := ⟨xcl_8, RX8, TX8, 35, rfl, by decide, xtb 871 (by decide +kernel) (by decide +kernel)⟩
theorem xfl_8_27 : xflOK 8 (162, 8, 27) := ⟨xcl_8, RX8, TX8, 35, rfl, by decide, xtb 874 (by decide +kernel) (by decide +kernel)⟩
theorem xfl_8_28 : xflOK 8 (165, 8, 29) := ⟨xcl_8, RX8, TX8, 35, rfl, by decide, xtb 876 (by decide +kernel) (by decide +kernel)⟩
theorem xfl_8_29 : xflOK 8 (220, 8, 6) := ⟨xcl_8, RX8, TX8, 35, rfl, by decide, xtb 853 (by decide +kernel) (by decide +kernel)⟩
theorem xfl_8_30 : xflOK 8 (223, 8, 7) := ⟨xcl_8, RX8, TX8, 35, rfl, by decide, xtb 854 (by decide +kernel) (by decide +kernel)⟩
theorem xfl_8_31 : xflOK 8 (229, 8, 8) := ⟨xcl_8, RX8, TX8, 35, rfl, by decide, xtb 855 (by decide +kernel) (by decide +kernel)⟩
theorem xfl_8_32 : xflOK 8 (238, 8, 9) := ⟨xcl_8, RX8, TX8, 35, rfl, by decide, xtb 856 (by decide +kernel) (by decide +kernel)⟩
theorem xfl_8_33 : xflOK 8 (241, 8, 10) := ⟨xcl_8, RX8, TX8, 35, rfl, by decide, xtb 857 (by decide +kernel) (by decide +kernel)⟩
theorem xfl_8_34 : xflOK 8 (271, 8, 34) := ⟨xcl_8, RX8, TX8, 35, rfl, by decide, xtb 881 (by decide +kernel) (by decide +kernel)⟩
theorem xfl_8 : ∀ q ∈ xflkL8, xflOK 8 q := List.forall_mem_cons.mpr ⟨xfl_8_0, List.forall_mem_cons.mpr ⟨xfl_8_1, List.forall_mem_cons.mpr ⟨xfl_8_2, List.forall_mem_cons.mpr ⟨xfl_8_3, List.forall_mem_cons.mpr ⟨xfl_8_4, List.forall_mem_cons.mpr ⟨xfl_8_5, List.forall_mem_cons.mpr ⟨xfl_8_6, List.forall_mem_cons.mpr ⟨xfl_8_7, List.forall_mem_cons.mpr ⟨xfl_8_8, List.forall_mem_cons.mpr ⟨xfl_8_9, List.forall_mem_cons.mpr ⟨xfl_8_10, List.forall_mem_cons.mpr ⟨xfl_8_11, List.forall_mem_cons.mpr ⟨xfl_8_12, List.forall_mem_cons.mpr ⟨xfl_8_13, List.forall_mem_cons.mpr ⟨xfl_8_14, List.forall_mem_cons.mpr ⟨xfl_8_15, List.forall_mem_cons.mpr ⟨xfl_8_16, List.forall_mem_cons.mpr ⟨xfl_8_17, List.forall_mem_cons.mpr ⟨xfl_8_18, List.forall_mem_cons.mpr ⟨xfl_8_19, List.forall_mem_cons.mpr ⟨xfl_8_20, List.forall_mem_cons.mpr ⟨xfl_8_21, List.forall_mem_cons.mpr ⟨xfl_8_22, List.forall_mem_cons.mpr ⟨xfl_8_23, List.forall_mem_cons.mpr ⟨xfl_8_24, List.forall_mem_cons.mpr ⟨xfl_8_25, List.forall_mem_cons.mpr ⟨xfl_8_26, List.forall_mem_cons.mpr ⟨xfl_8_27, List.forall_mem_cons.mpr ⟨xfl_8_28, List.forall_mem_cons.mpr ⟨xfl_8_29, List.forall_mem_cons.mpr ⟨xfl_8_30, List.forall_mem_cons.mpr ⟨xfl_8_31, List.forall_mem_cons.mpr ⟨xfl_8_32, List.forall_mem_cons.mpr ⟨xfl_8_33, List.forall_mem_cons.mpr ⟨xfl_8_34, fun _ h => absurd h List.not_mem_nil⟩⟩⟩⟩⟩⟩⟩⟩⟩⟩⟩⟩⟩⟩⟩⟩⟩⟩⟩⟩⟩⟩⟩⟩⟩⟩⟩⟩⟩⟩⟩⟩⟩⟩⟩
theorem xflk_ok {c idx : Nat} {v : Nat × Nat} (h : xflk c idx = some v) : xflOK c (idx, v) := by
  unfold xflk at h
  split at h
  · exact xfl_0 _ (xfind_mem h)
  · exact xfl_1 _ (xfind_mem h)
  · exact xfl_2 _ (xfind_mem h)
  · exact xfl_3 _ (xfind_mem h)
  · exact xfl_4 _ (xfind_mem h)
  · exact xfl_5 _ (xfind_mem h)
  · exact xfl_6 _ (xfind_mem h)
  · exact xfl_7 _ (xfind_mem h)
  · exact xfl_8 _ (xfind_mem h)
  · cases h
theorem xcn_0_0 : xconOK 0 (57, .ref 100) := fun ad adV s h => ⟨"add #-#", h.2.1.1⟩
theorem xcn_0_1 : xconOK 0 (59, .ref 101) := fun ad adV s h => ⟨"drop #-#", h.2.1.2.1⟩
theorem xcn_0_2 : xconOK 0 (61, .ref 102) := fun ad adV s h => ⟨"flip #-#", h.2.1.2.2.1⟩
theorem xcn_0_3 : xconOK 0 (63, .ref 103) := fun ad adV s h => ⟨"", h.2.1.2.2.2⟩
theorem xcn_0 : ∀ q ∈ xconL0, xconOK 0 q := List.forall_mem_cons.mpr ⟨xcn_0_0, List.forall_mem_cons.mpr ⟨xcn_0_1, List.forall_mem_cons.mpr ⟨xcn_0_2, List.forall_mem_cons.mpr ⟨xcn_0_3, fun _ h => absurd h List.not_mem_nil⟩⟩⟩⟩
theorem xcn_3_0 : xconOK 3 (26, .long (-1)) := xtb 805 (by decide +kernel) (by decide +kernel)
theorem xcn_3 : ∀ q ∈ xconL3, xconOK 3 q := List.forall_mem_cons.mpr ⟨xcn_3_0, fun _ h => absurd h List.not_mem_nil⟩
theorem xcn_7_0 : xconOK 7 (214, .double 4627448617123184640) := xtb 840 (by decide +kernel) (by decide +kernel)
theorem xcn_7 : ∀ q ∈ xconL7, xconOK 7 q := List.forall_mem_cons.mpr ⟨xcn_7_0, fun _ h => absurd h List.not_mem_nil⟩
theorem xcn_8_0 : xconOK 8 (283, .double 4627448617123184640) := xtb 1260 (by decide +kernel) (by decide +kernel)
theorem xcn_8 : ∀ q ∈ xconL8, xconOK 8 q := List.forall_mem_cons.mpr ⟨xcn_8_0, fun _ h => absurd h List.not_mem_nil⟩
theorem xcn_20_0 : xconOK 20 (265, .int (1431655765)) := xtb 442 (by decide +kernel) (by decide +kernel)
theorem xcn_20_1 : xconOK 20 (266, .int (858993459)) := xtb 443 (by decide +kernel) (by decide +kernel)
theorem xcn_20_2 : xconOK 20 (267, .int (252645135)) := xtb 444 (by decide +kernel) (by decide +kernel)
theorem xcn_20 : ∀ q ∈ xconL20, xconOK 20 q := List.forall_mem_cons.mpr ⟨xcn_20_0, List.forall_mem_cons.mpr ⟨xcn_20_1, List.forall_mem_cons.mpr ⟨xcn_20_2, fun _ h => absurd h List.not_mem_nil⟩⟩⟩
theorem xcn_21_0 : xconOK 21 (314, .long (6148914691236517205)) := xtb 372 (by decide +kernel) (by decide +kernel)
theorem xcn_21_1 : xconOK 21 (316, .long (3689348814741910323)) := xtb 373 (by decide +kernel) (by decide +kernel)
theorem xcn_21_2 : xconOK 21 (318, .long (1085102592571150095)) := xtb 374 (by decide +kernel) (by decide +kernel)
theorem xcn_21 : ∀ q ∈ xconL21, xconOK 21 q := List.forall_mem_cons.mpr ⟨xcn_21_0, List.forall_mem_cons.mpr ⟨xcn_21_1, List.forall_mem_cons.mpr ⟨xcn_21_2, fun _ h => absurd h List.not_mem_nil⟩⟩⟩
theorem xcon_ok {c idx : Nat} {v : Value} (h : xcon c idx = some v) : xconOK c (idx, v) := by
  unfold xcon at h
  split at h
  · exact xcn_0 _ (xfind_mem h)
  · exact xcn_3 _ (xfind_mem h)
  · exact xcn_7 _ (xfind_mem h)
  · exact xcn_8 _ (xfind_mem h)
  · exact xcn_20 _ (xfind_mem h)
  · exact xcn_21 _ (xfind_mem h)
  · cases h
def xprmOK (c : Nat) (q : Nat × Bool) : Prop := Cond.methodLink (xcls c) q.1 (bif q.2 then Lib.Math.min.name else Lib.Math.max.name) ∈ xTB ∧ Cond.static (bif q.2 then Lib.Math.min.name else Lib.Math.max.name) ∈ xTB ∧ Cond.initialized "java/lang/Math" ∈ xTB ∧ Cond.code (bif q.2 then Lib.Math.min.name else Lib.Math.max.name) (bif q.2 then Lib.Math.min.code else Lib.Math.max.code) 2 (some .int) ∈ xTB
set_option maxRecDepth 100000 in
theorem xpr_7_220 : xprmOK 7 (220, true) := ⟨xtb 334 (by decide +kernel) (by decide +kernel), xtb 335 (by decide +kernel) (by decide +kernel), xtb 76 (by decide +kernel) (by decide +kernel), xtb 336 rfl rfl⟩
set_option maxRecDepth 100000 in
theorem xpr_7_225 : xprmOK 7 (225, false) := ⟨xtb 337 (by decide +kernel) (by decide +kernel), xtb 338 (by decide +kernel) (by decide +kernel), xtb 76 (by decide +kernel) (by decide +kernel), xtb 339 rfl rfl⟩
theorem xpr_7 : ∀ q ∈ xprmL7, xprmOK 7 q := List.forall_mem_cons.mpr ⟨xpr_7_220, List.forall_mem_cons.mpr ⟨xpr_7_225, fun _ h => absurd h List.not_mem_nil⟩⟩
theorem xprm_ok {c idx : Nat} {v : Bool} (h : xprm c idx = some v) : xprmOK c (idx, v) := by
  unfold xprm at h
  split at h
  · exact xpr_7 _ (xfind_mem h)
  · cases h
/-- a method of the table -/
def xmOK (M : xMI) : Prop := xok M ∧ plainName (xm_y M).cls = true ∧ ((xm_y M).cls ≠ "java/lang/invoke/MethodHandle" ∧ (xm_y M).cls ≠ "java/lang/invoke/VarHandle" ∧ (parseMethodDescriptor (xm_y M).desc).map (fun d => d.parameters.length) = some (xm_a M)) ∧ Cond.code (xm_y M) (xm_b M) (xm_n M) (xm_r M) ∈ xTB ∧ Cond.initialized (xm_y M).cls ∈ xTB ∧ (xm_y M).cls = xcls (xm_c M)
def xlkOK (c : Nat) (q : Nat × Nat × xMI) : Prop := xmOK q.2.2 ∧
  ((q.2.1 = 0 ∧ Cond.methodLink (xcls c) q.1 (xm_y q.2.2) ∈ xTB ∧ Cond.static (xm_y q.2.2) ∈ xTB) ∨ (q.2.1 = 1 ∧ Cond.methodLinkNest (xcls c) q.1 (xm_y q.2.2) RX7 ∈ lw_tbl ∧ Cond.static (xm_y q.2.2) ∈ xTB) ∨
    (q.2.1 = 2 ∧ Cond.methodLink (xcls c) q.1 (xm_y q.2.2) ∈ xTB ∧ Cond.instanceMethod (xm_y q.2.2) ∈ xTB ∧ Cond.selects (xm_y q.2.2).cls (xm_y q.2.2) (xm_y q.2.2) ∈ xTB ∧ ∃ (T : u_T) (N : Nat), vwCl[xm_c q.2.2]? = some (xcls (xm_c q.2.2), T, N)))
set_option maxRecDepth 100000 in
theorem mkX0_length : xmOK MX0_length := ⟨by unfold xok; decide +kernel, by decide +kernel, ⟨by decide +kernel, by decide +kernel, by decide +kernel⟩, xtb 519 rfl rfl, xtb 70 (by decide +kernel) (by decide +kernel), rfl⟩
set_option maxRecDepth 100000 in
theorem mkX0_edits : xmOK MX0_edits := ⟨by unfold xok; decide +kernel, by decide +kernel, ⟨by decide +kernel, by decide +kernel, by decide +kernel⟩, xtb 613 rfl rfl, xtb 70 (by decide +kernel) (by decide +kernel), rfl⟩
set_option maxRecDepth 100000 in
theorem mkX0_kindOf : xmOK MX0_kindOf := ⟨by unfold xok; decide +kernel, by decide +kernel, ⟨by decide +kernel, by decide +kernel, by decide +kernel⟩, xtb 617 rfl rfl, xtb 70 (by decide +kernel) (by decide +kernel), rfl⟩
set_option maxRecDepth 100000 in
theorem mkX0_firstOf : xmOK MX0_firstOf := ⟨by unfold xok; decide +kernel, by decide +kernel, ⟨by decide +kernel, by decide +kernel, by decide +kernel⟩, xtb 621 rfl rfl, xtb 70 (by decide +kernel) (by decide +kernel), rfl⟩
set_option maxRecDepth 100000 in
theorem mkX0_secondOf : xmOK MX0_secondOf := ⟨by unfold xok; decide +kernel, by decide +kernel, ⟨by decide +kernel, by decide +kernel, by decide +kernel⟩, xtb 625 rfl rfl, xtb 70 (by decide +kernel) (by decide +kernel), rfl⟩
set_option maxRecDepth 100000 in
theorem mkX0_write : xmOK MX0_write := ⟨by unfold xok; decide +kernel, by decide +kernel, ⟨by decide +kernel, by decide +kernel, by decide +kernel⟩, xtb 514 rfl rfl, xtb 70 (by decide +kernel) (by decide +kernel), rfl⟩
set_option maxRecDepth 100000 in
theorem mkX0_erase : xmOK MX0_erase := ⟨by unfold xok; decide +kernel, by decide +kernel, ⟨by decide +kernel, by decide +kernel, by decide +kernel⟩, xtb 527 rfl rfl, xtb 70 (by decide +kernel) (by decide +kernel), rfl⟩
set_option maxRecDepth 100000 in
theorem mkX0_scan : xmOK MX0_scan := ⟨by unfold xok; decide +kernel, by decide +kernel, ⟨by decide +kernel, by decide +kernel, by decide +kernel⟩, xtb 535 rfl rfl, xtb 70 (by decide +kernel) (by decide +kernel), rfl⟩
set_option maxRecDepth 100000 in
theorem mkX0_signAt : xmOK MX0_signAt := ⟨by unfold xok; decide +kernel, by decide +kernel, ⟨by decide +kernel, by decide +kernel, by decide +kernel⟩, xtb 543 rfl rfl, xtb 70 (by decide +kernel) (by decide +kernel), rfl⟩
set_option maxRecDepth 100000 in
theorem mkX0_formAt : xmOK MX0_formAt := ⟨by unfold xok; decide +kernel, by decide +kernel, ⟨by decide +kernel, by decide +kernel, by decide +kernel⟩, xtb 539 rfl rfl, xtb 70 (by decide +kernel) (by decide +kernel), rfl⟩
set_option maxRecDepth 100000 in
theorem mkX0_signsRight : xmOK MX0_signsRight := ⟨by unfold xok; decide +kernel, by decide +kernel, ⟨by decide +kernel, by decide +kernel, by decide +kernel⟩, xtb 552 rfl rfl, xtb 70 (by decide +kernel) (by decide +kernel), rfl⟩
set_option maxRecDepth 100000 in
theorem mkX1_edges : xmOK MX1_edges := ⟨by unfold xok; decide +kernel, by decide +kernel, ⟨by decide +kernel, by decide +kernel, by decide +kernel⟩, xtb 489 rfl rfl, xtb 72 (by decide +kernel) (by decide +kernel), rfl⟩
set_option maxRecDepth 100000 in
theorem mkX1_placedEdges : xmOK MX1_placedEdges := ⟨by unfold xok; decide +kernel, by decide +kernel, ⟨by decide +kernel, by decide +kernel, by decide +kernel⟩, xtb 493 rfl rfl, xtb 72 (by decide +kernel) (by decide +kernel), rfl⟩
set_option maxRecDepth 100000 in
theorem mkX1_faces : xmOK MX1_faces := ⟨by unfold xok; decide +kernel, by decide +kernel, ⟨by decide +kernel, by decide +kernel, by decide +kernel⟩, xtb 497 rfl rfl, xtb 72 (by decide +kernel) (by decide +kernel), rfl⟩
set_option maxRecDepth 100000 in
theorem mkX1_embed : xmOK MX1_embed := ⟨by unfold xok; decide +kernel, by decide +kernel, ⟨by decide +kernel, by decide +kernel, by decide +kernel⟩, xtb 431 rfl rfl, xtb 72 (by decide +kernel) (by decide +kernel), rfl⟩
set_option maxRecDepth 100000 in
theorem mkX1_writeSuccessors : xmOK MX1_writeSuccessors := ⟨by unfold xok; decide +kernel, by decide +kernel, ⟨by decide +kernel, by decide +kernel, by decide +kernel⟩, xtb 505 rfl rfl, xtb 72 (by decide +kernel) (by decide +kernel), rfl⟩
set_option maxRecDepth 100000 in
theorem mkX1_start : xmOK MX1_start := ⟨by unfold xok; decide +kernel, by decide +kernel, ⟨by decide +kernel, by decide +kernel, by decide +kernel⟩, xtb 435 rfl rfl, xtb 72 (by decide +kernel) (by decide +kernel), rfl⟩
set_option maxRecDepth 100000 in
theorem mkX1_placeCycle : xmOK MX1_placeCycle := ⟨by unfold xok; decide +kernel, by decide +kernel, ⟨by decide +kernel, by decide +kernel, by decide +kernel⟩, xtb 448 rfl rfl, xtb 72 (by decide +kernel) (by decide +kernel), rfl⟩
set_option maxRecDepth 100000 in
theorem mkX1_placeEdge : xmOK MX1_placeEdge := ⟨by unfold xok; decide +kernel, by decide +kernel, ⟨by decide +kernel, by decide +kernel, by decide +kernel⟩, xtb 464 rfl rfl, xtb 72 (by decide +kernel) (by decide +kernel), rfl⟩
set_option maxRecDepth 100000 in
theorem mkX1_findPath : xmOK MX1_findPath := ⟨by unfold xok; decide +kernel, by decide +kernel, ⟨by decide +kernel, by decide +kernel, by decide +kernel⟩, xtb 456 rfl rfl, xtb 72 (by decide +kernel) (by decide +kernel), rfl⟩
set_option maxRecDepth 100000 in
theorem mkX1_chooseFragment : xmOK MX1_chooseFragment := ⟨by unfold xok; decide +kernel, by decide +kernel, ⟨by decide +kernel, by decide +kernel, by decide +kernel⟩, xtb 468 rfl rfl, xtb 72 (by decide +kernel) (by decide +kernel), rfl⟩
set_option maxRecDepth 100000 in
theorem mkX1_weigh : xmOK MX1_weigh := ⟨by unfold xok; decide +kernel, by decide +kernel, ⟨by decide +kernel, by decide +kernel, by decide +kernel⟩, xtb 473 rfl rfl, xtb 72 (by decide +kernel) (by decide +kernel), rfl⟩
set_option maxRecDepth 100000 in
theorem mkX1_choosePath : xmOK MX1_choosePath := ⟨by unfold xok; decide +kernel, by decide +kernel, ⟨by decide +kernel, by decide +kernel, by decide +kernel⟩, xtb 477 rfl rfl, xtb 72 (by decide +kernel) (by decide +kernel), rfl⟩
set_option maxRecDepth 100000 in
theorem mkX1_splitFace : xmOK MX1_splitFace := ⟨by unfold xok; decide +kernel, by decide +kernel, ⟨by decide +kernel, by decide +kernel, by decide +kernel⟩, xtb 481 rfl rfl, xtb 72 (by decide +kernel) (by decide +kernel), rfl⟩
set_option maxRecDepth 100000 in
theorem mkX2_size : xmOK MX2_size := ⟨by unfold xok; decide +kernel, by decide +kernel, ⟨by decide +kernel, by decide +kernel, by decide +kernel⟩, xtb 645 rfl rfl, xtb 69 (by decide +kernel) (by decide +kernel), rfl⟩
set_option maxRecDepth 100000 in
theorem mkX2_remember : xmOK MX2_remember := ⟨by unfold xok; decide +kernel, by decide +kernel, ⟨by decide +kernel, by decide +kernel, by decide +kernel⟩, xtb 343 rfl rfl, xtb 69 (by decide +kernel) (by decide +kernel), rfl⟩
set_option maxRecDepth 100000 in
theorem mkX2_giveBack : xmOK MX2_giveBack := ⟨by unfold xok; decide +kernel, by decide +kernel, ⟨by decide +kernel, by decide +kernel, by decide +kernel⟩, xtb 637 rfl rfl, xtb 69 (by decide +kernel) (by decide +kernel), rfl⟩
set_option maxRecDepth 100000 in
theorem mkX2_forgetOldest : xmOK MX2_forgetOldest := ⟨by unfold xok; decide +kernel, by decide +kernel, ⟨by decide +kernel, by decide +kernel, by decide +kernel⟩, xtb 347 rfl rfl, xtb 69 (by decide +kernel) (by decide +kernel), rfl⟩
set_option maxRecDepth 100000 in
theorem mkX3_find : xmOK MX3_find := ⟨by unfold xok; decide +kernel, by decide +kernel, ⟨by decide +kernel, by decide +kernel, by decide +kernel⟩, xtb 803 rfl rfl, xtb 74 (by decide +kernel) (by decide +kernel), rfl⟩
set_option maxRecDepth 100000 in
theorem mkX3_size : xmOK MX3_size := ⟨by unfold xok; decide +kernel, by decide +kernel, ⟨by decide +kernel, by decide +kernel, by decide +kernel⟩, xtb 810 rfl rfl, xtb 74 (by decide +kernel) (by decide +kernel), rfl⟩
set_option maxRecDepth 100000 in
theorem mkX3_holds : xmOK MX3_holds := ⟨by unfold xok; decide +kernel, by decide +kernel, ⟨by decide +kernel, by decide +kernel, by decide +kernel⟩, xtb 819 rfl rfl, xtb 74 (by decide +kernel) (by decide +kernel), rfl⟩
set_option maxRecDepth 100000 in
theorem mkX3_verticesInMoreThan : xmOK MX3_verticesInMoreThan := ⟨by unfold xok; decide +kernel, by decide +kernel, ⟨by decide +kernel, by decide +kernel, by decide +kernel⟩, xtb 815 rfl rfl, xtb 74 (by decide +kernel) (by decide +kernel), rfl⟩
set_option maxRecDepth 100000 in
theorem mkX4_read : xmOK MX4_read := ⟨by unfold xok; decide +kernel, by decide +kernel, ⟨by decide +kernel, by decide +kernel, by decide +kernel⟩, xtb 396 rfl rfl, xtb 71 (by decide +kernel) (by decide +kernel), rfl⟩
set_option maxRecDepth 100000 in
theorem mkX4_edges : xmOK MX4_edges := ⟨by unfold xok; decide +kernel, by decide +kernel, ⟨by decide +kernel, by decide +kernel, by decide +kernel⟩, xtb 731 rfl rfl, xtb 71 (by decide +kernel) (by decide +kernel), rfl⟩
set_option maxRecDepth 100000 in
theorem mkX4_near : xmOK MX4_near := ⟨by unfold xok; decide +kernel, by decide +kernel, ⟨by decide +kernel, by decide +kernel, by decide +kernel⟩, xtb 664 rfl rfl, xtb 71 (by decide +kernel) (by decide +kernel), rfl⟩
set_option maxRecDepth 100000 in
theorem mkX4_blocks : xmOK MX4_blocks := ⟨by unfold xok; decide +kernel, by decide +kernel, ⟨by decide +kernel, by decide +kernel, by decide +kernel⟩, xtb 676 rfl rfl, xtb 71 (by decide +kernel) (by decide +kernel), rfl⟩
set_option maxRecDepth 100000 in
theorem mkX4_verticesOf : xmOK MX4_verticesOf := ⟨by unfold xok; decide +kernel, by decide +kernel, ⟨by decide +kernel, by decide +kernel, by decide +kernel⟩, xtb 698 rfl rfl, xtb 71 (by decide +kernel) (by decide +kernel), rfl⟩
set_option maxRecDepth 100000 in
theorem mkX4_edgesOf : xmOK MX4_edgesOf := ⟨by unfold xok; decide +kernel, by decide +kernel, ⟨by decide +kernel, by decide +kernel, by decide +kernel⟩, xtb 702 rfl rfl, xtb 71 (by decide +kernel) (by decide +kernel), rfl⟩
set_option maxRecDepth 100000 in
theorem mkX4_facesOf : xmOK MX4_facesOf := ⟨by unfold xok; decide +kernel, by decide +kernel, ⟨by decide +kernel, by decide +kernel, by decide +kernel⟩, xtb 707 rfl rfl, xtb 71 (by decide +kernel) (by decide +kernel), rfl⟩
set_option maxRecDepth 100000 in
theorem mkX4_placedOf : xmOK MX4_placedOf := ⟨by unfold xok; decide +kernel, by decide +kernel, ⟨by decide +kernel, by decide +kernel, by decide +kernel⟩, xtb 711 rfl rfl, xtb 71 (by decide +kernel) (by decide +kernel), rfl⟩
set_option maxRecDepth 100000 in
theorem mkX4_isPlanar : xmOK MX4_isPlanar := ⟨by unfold xok; decide +kernel, by decide +kernel, ⟨by decide +kernel, by decide +kernel, by decide +kernel⟩, xtb 501 rfl rfl, xtb 71 (by decide +kernel) (by decide +kernel), rfl⟩
set_option maxRecDepth 100000 in
theorem mkX4_successor : xmOK MX4_successor := ⟨by unfold xok; decide +kernel, by decide +kernel, ⟨by decide +kernel, by decide +kernel, by decide +kernel⟩, xtb 747 rfl rfl, xtb 71 (by decide +kernel) (by decide +kernel), rfl⟩
set_option maxRecDepth 100000 in
theorem mkX4_blockOf : xmOK MX4_blockOf := ⟨by unfold xok; decide +kernel, by decide +kernel, ⟨by decide +kernel, by decide +kernel, by decide +kernel⟩, xtb 417 rfl rfl, xtb 71 (by decide +kernel) (by decide +kernel), rfl⟩
set_option maxRecDepth 100000 in
theorem mkX4_components : xmOK MX4_components := ⟨by unfold xok; decide +kernel, by decide +kernel, ⟨by decide +kernel, by decide +kernel, by decide +kernel⟩, xtb 672 rfl rfl, xtb 71 (by decide +kernel) (by decide +kernel), rfl⟩
set_option maxRecDepth 100000 in
theorem mkX4_cutVertices : xmOK MX4_cutVertices := ⟨by unfold xok; decide +kernel, by decide +kernel, ⟨by decide +kernel, by decide +kernel, by decide +kernel⟩, xtb 680 rfl rfl, xtb 71 (by decide +kernel) (by decide +kernel), rfl⟩
set_option maxRecDepth 100000 in
theorem mkX4_bridges : xmOK MX4_bridges := ⟨by unfold xok; decide +kernel, by decide +kernel, ⟨by decide +kernel, by decide +kernel, by decide +kernel⟩, xtb 685 rfl rfl, xtb 71 (by decide +kernel) (by decide +kernel), rfl⟩
set_option maxRecDepth 100000 in
theorem mkX4_fillNear : xmOK MX4_fillNear := ⟨by unfold xok; decide +kernel, by decide +kernel, ⟨by decide +kernel, by decide +kernel, by decide +kernel⟩, xtb 400 rfl rfl, xtb 71 (by decide +kernel) (by decide +kernel), rfl⟩
set_option maxRecDepth 100000 in
theorem mkX4_blockAround : xmOK MX4_blockAround := ⟨by unfold xok; decide +kernel, by decide +kernel, ⟨by decide +kernel, by decide +kernel, by decide +kernel⟩, xtb 421 rfl rfl, xtb 71 (by decide +kernel) (by decide +kernel), rfl⟩
set_option maxRecDepth 100000 in
theorem mkX4_keepBlock : xmOK MX4_keepBlock := ⟨by unfold xok; decide +kernel, by decide +kernel, ⟨by decide +kernel, by decide +kernel, by decide +kernel⟩, xtb 485 rfl rfl, xtb 71 (by decide +kernel) (by decide +kernel), rfl⟩
set_option maxRecDepth 100000 in
theorem mkX5_edges : xmOK MX5_edges := ⟨by unfold xok; decide +kernel, by decide +kernel, ⟨by decide +kernel, by decide +kernel, by decide +kernel⟩, xtb 351 rfl rfl, xtb 68 (by decide +kernel) (by decide +kernel), rfl⟩
set_option maxRecDepth 100000 in
theorem mkX5_added : xmOK MX5_added := ⟨by unfold xok; decide +kernel, by decide +kernel, ⟨by decide +kernel, by decide +kernel, by decide +kernel⟩, xtb 355 rfl rfl, xtb 68 (by decide +kernel) (by decide +kernel), rfl⟩
set_option maxRecDepth 100000 in
theorem mkX5_dropped : xmOK MX5_dropped := ⟨by unfold xok; decide +kernel, by decide +kernel, ⟨by decide +kernel, by decide +kernel, by decide +kernel⟩, xtb 359 rfl rfl, xtb 68 (by decide +kernel) (by decide +kernel), rfl⟩
set_option maxRecDepth 100000 in
theorem mkX5_size : xmOK MX5_size := ⟨by unfold xok; decide +kernel, by decide +kernel, ⟨by decide +kernel, by decide +kernel, by decide +kernel⟩, xtb 368 rfl rfl, xtb 68 (by decide +kernel) (by decide +kernel), rfl⟩
set_option maxRecDepth 100000 in
theorem mkX5_joins : xmOK MX5_joins := ⟨by unfold xok; decide +kernel, by decide +kernel, ⟨by decide +kernel, by decide +kernel, by decide +kernel⟩, xtb 330 rfl rfl, xtb 68 (by decide +kernel) (by decide +kernel), rfl⟩
set_option maxRecDepth 100000 in
theorem mkX5_become : xmOK MX5_become := ⟨by unfold xok; decide +kernel, by decide +kernel, ⟨by decide +kernel, by decide +kernel, by decide +kernel⟩, xtb 641 rfl rfl, xtb 68 (by decide +kernel) (by decide +kernel), rfl⟩
set_option maxRecDepth 100000 in
theorem mkX5_flip : xmOK MX5_flip := ⟨by unfold xok; decide +kernel, by decide +kernel, ⟨by decide +kernel, by decide +kernel, by decide +kernel⟩, xtb 363 rfl rfl, xtb 68 (by decide +kernel) (by decide +kernel), rfl⟩
set_option maxRecDepth 100000 in
theorem mkX5_removeAll : xmOK MX5_removeAll := ⟨by unfold xok; decide +kernel, by decide +kernel, ⟨by decide +kernel, by decide +kernel, by decide +kernel⟩, xtb 386 rfl rfl, xtb 68 (by decide +kernel) (by decide +kernel), rfl⟩
set_option maxRecDepth 100000 in
theorem mkX6_trace : xmOK MX6_trace := ⟨by unfold xok; decide +kernel, by decide +kernel, ⟨by decide +kernel, by decide +kernel, by decide +kernel⟩, xtb 727 rfl rfl, xtb 73 (by decide +kernel) (by decide +kernel), rfl⟩
set_option maxRecDepth 100000 in
theorem mkX6_size : xmOK MX6_size := ⟨by unfold xok; decide +kernel, by decide +kernel, ⟨by decide +kernel, by decide +kernel, by decide +kernel⟩, xtb 770 rfl rfl, xtb 73 (by decide +kernel) (by decide +kernel), rfl⟩
set_option maxRecDepth 100000 in
theorem mkX6_holds : xmOK MX6_holds := ⟨by unfold xok; decide +kernel, by decide +kernel, ⟨by decide +kernel, by decide +kernel, by decide +kernel⟩, xtb 778 rfl rfl, xtb 73 (by decide +kernel) (by decide +kernel), rfl⟩
set_option maxRecDepth 100000 in
theorem mkX6_lengthOf : xmOK MX6_lengthOf := ⟨by unfold xok; decide +kernel, by decide +kernel, ⟨by decide +kernel, by decide +kernel, by decide +kernel⟩, xtb 782 rfl rfl, xtb 73 (by decide +kernel) (by decide +kernel), rfl⟩
set_option maxRecDepth 100000 in
theorem mkX6_vertexOf : xmOK MX6_vertexOf := ⟨by unfold xok; decide +kernel, by decide +kernel, ⟨by decide +kernel, by decide +kernel, by decide +kernel⟩, xtb 790 rfl rfl, xtb 73 (by decide +kernel) (by decide +kernel), rfl⟩
set_option maxRecDepth 100000 in
theorem mkX6_ofDart : xmOK MX6_ofDart := ⟨by unfold xok; decide +kernel, by decide +kernel, ⟨by decide +kernel, by decide +kernel, by decide +kernel⟩, xtb 752 rfl rfl, xtb 73 (by decide +kernel) (by decide +kernel), rfl⟩
set_option maxRecDepth 100000 in
theorem mkX6_behind : xmOK MX6_behind := ⟨by unfold xok; decide +kernel, by decide +kernel, ⟨by decide +kernel, by decide +kernel, by decide +kernel⟩, xtb 761 rfl rfl, xtb 73 (by decide +kernel) (by decide +kernel), rfl⟩
set_option maxRecDepth 100000 in
theorem mkX6_orderAround : xmOK MX6_orderAround := ⟨by unfold xok; decide +kernel, by decide +kernel, ⟨by decide +kernel, by decide +kernel, by decide +kernel⟩, xtb 736 rfl rfl, xtb 73 (by decide +kernel) (by decide +kernel), rfl⟩
set_option maxRecDepth 100000 in
theorem mkX6_follow : xmOK MX6_follow := ⟨by unfold xok; decide +kernel, by decide +kernel, ⟨by decide +kernel, by decide +kernel, by decide +kernel⟩, xtb 757 rfl rfl, xtb 73 (by decide +kernel) (by decide +kernel), rfl⟩
set_option maxRecDepth 100000 in
theorem mkX7_add : xmOK MX7_add := ⟨by unfold xok; decide +kernel, by decide +kernel, ⟨by decide +kernel, by decide +kernel, by decide +kernel⟩, xtb 323 rfl rfl, xtb 67 (by decide +kernel) (by decide +kernel), rfl⟩
set_option maxRecDepth 100000 in
theorem mkX7_drop : xmOK MX7_drop := ⟨by unfold xok; decide +kernel, by decide +kernel, ⟨by decide +kernel, by decide +kernel, by decide +kernel⟩, xtb 378 rfl rfl, xtb 67 (by decide +kernel) (by decide +kernel), rfl⟩
set_option maxRecDepth 100000 in
theorem mkX7_clear : xmOK MX7_clear := ⟨by unfold xok; decide +kernel, by decide +kernel, ⟨by decide +kernel, by decide +kernel, by decide +kernel⟩, xtb 382 rfl rfl, xtb 67 (by decide +kernel) (by decide +kernel), rfl⟩
set_option maxRecDepth 100000 in
theorem mkX7_complete : xmOK MX7_complete := ⟨by unfold xok; decide +kernel, by decide +kernel, ⟨by decide +kernel, by decide +kernel, by decide +kernel⟩, xtb 391 rfl rfl, xtb 67 (by decide +kernel) (by decide +kernel), rfl⟩
set_option maxRecDepth 100000 in
theorem mkX7_append : xmOK MX7_append := ⟨by unfold xok; decide +kernel, by decide +kernel, ⟨by decide +kernel, by decide +kernel, by decide +kernel⟩, xtb 510 rfl rfl, xtb 67 (by decide +kernel) (by decide +kernel), rfl⟩
set_option maxRecDepth 100000 in
theorem mkX7_clearText : xmOK MX7_clearText := ⟨by unfold xok; decide +kernel, by decide +kernel, ⟨by decide +kernel, by decide +kernel, by decide +kernel⟩, xtb 523 rfl rfl, xtb 67 (by decide +kernel) (by decide +kernel), rfl⟩
set_option maxRecDepth 100000 in
theorem mkX7_fault : xmOK MX7_fault := ⟨by unfold xok; decide +kernel, by decide +kernel, ⟨by decide +kernel, by decide +kernel, by decide +kernel⟩, xtb 531 rfl rfl, xtb 67 (by decide +kernel) (by decide +kernel), rfl⟩
set_option maxRecDepth 100000 in
theorem mkX7_run : xmOK MX7_run := ⟨by unfold xok; decide +kernel, by decide +kernel, ⟨by decide +kernel, by decide +kernel, by decide +kernel⟩, xtb 609 rfl rfl, xtb 67 (by decide +kernel) (by decide +kernel), rfl⟩
set_option maxRecDepth 100000 in
theorem mkX7_undo : xmOK MX7_undo := ⟨by unfold xok; decide +kernel, by decide +kernel, ⟨by decide +kernel, by decide +kernel, by decide +kernel⟩, xtb 633 rfl rfl, xtb 67 (by decide +kernel) (by decide +kernel), rfl⟩
set_option maxRecDepth 100000 in
theorem mkX7_save : xmOK MX7_save := ⟨by unfold xok; decide +kernel, by decide +kernel, ⟨by decide +kernel, by decide +kernel, by decide +kernel⟩, xtb 649 rfl rfl, xtb 67 (by decide +kernel) (by decide +kernel), rfl⟩
set_option maxRecDepth 100000 in
theorem mkX7_restore : xmOK MX7_restore := ⟨by unfold xok; decide +kernel, by decide +kernel, ⟨by decide +kernel, by decide +kernel, by decide +kernel⟩, xtb 656 rfl rfl, xtb 67 (by decide +kernel) (by decide +kernel), rfl⟩
set_option maxRecDepth 100000 in
theorem mkX7_neighbors : xmOK MX7_neighbors := ⟨by unfold xok; decide +kernel, by decide +kernel, ⟨by decide +kernel, by decide +kernel, by decide +kernel⟩, xtb 660 rfl rfl, xtb 67 (by decide +kernel) (by decide +kernel), rfl⟩
set_option maxRecDepth 100000 in
theorem mkX7_count : xmOK MX7_count := ⟨by unfold xok; decide +kernel, by decide +kernel, ⟨by decide +kernel, by decide +kernel, by decide +kernel⟩, xtb 668 rfl rfl, xtb 67 (by decide +kernel) (by decide +kernel), rfl⟩
set_option maxRecDepth 100000 in
theorem mkX7_block : xmOK MX7_block := ⟨by unfold xok; decide +kernel, by decide +kernel, ⟨by decide +kernel, by decide +kernel, by decide +kernel⟩, xtb 689 rfl rfl, xtb 67 (by decide +kernel) (by decide +kernel), rfl⟩
set_option maxRecDepth 100000 in
theorem mkX7_blockInfo : xmOK MX7_blockInfo := ⟨by unfold xok; decide +kernel, by decide +kernel, ⟨by decide +kernel, by decide +kernel, by decide +kernel⟩, xtb 694 rfl rfl, xtb 67 (by decide +kernel) (by decide +kernel), rfl⟩
set_option maxRecDepth 100000 in
theorem mkX7_planar : xmOK MX7_planar := ⟨by unfold xok; decide +kernel, by decide +kernel, ⟨by decide +kernel, by decide +kernel, by decide +kernel⟩, xtb 715 rfl rfl, xtb 67 (by decide +kernel) (by decide +kernel), rfl⟩
set_option maxRecDepth 100000 in
theorem mkX7_next : xmOK MX7_next := ⟨by unfold xok; decide +kernel, by decide +kernel, ⟨by decide +kernel, by decide +kernel, by decide +kernel⟩, xtb 719 rfl rfl, xtb 67 (by decide +kernel) (by decide +kernel), rfl⟩
set_option maxRecDepth 100000 in
theorem mkX7_walks : xmOK MX7_walks := ⟨by unfold xok; decide +kernel, by decide +kernel, ⟨by decide +kernel, by decide +kernel, by decide +kernel⟩, xtb 766 rfl rfl, xtb 67 (by decide +kernel) (by decide +kernel), rfl⟩
set_option maxRecDepth 100000 in
theorem mkX7_walkLength : xmOK MX7_walkLength := ⟨by unfold xok; decide +kernel, by decide +kernel, ⟨by decide +kernel, by decide +kernel, by decide +kernel⟩, xtb 774 rfl rfl, xtb 67 (by decide +kernel) (by decide +kernel), rfl⟩
set_option maxRecDepth 100000 in
theorem mkX7_walkVertex : xmOK MX7_walkVertex := ⟨by unfold xok; decide +kernel, by decide +kernel, ⟨by decide +kernel, by decide +kernel, by decide +kernel⟩, xtb 786 rfl rfl, xtb 67 (by decide +kernel) (by decide +kernel), rfl⟩
set_option maxRecDepth 100000 in
theorem mkX7_walkOf : xmOK MX7_walkOf := ⟨by unfold xok; decide +kernel, by decide +kernel, ⟨by decide +kernel, by decide +kernel, by decide +kernel⟩, xtb 794 rfl rfl, xtb 67 (by decide +kernel) (by decide +kernel), rfl⟩
set_option maxRecDepth 100000 in
theorem mkX7_forbidden : xmOK MX7_forbidden := ⟨by unfold xok; decide +kernel, by decide +kernel, ⟨by decide +kernel, by decide +kernel, by decide +kernel⟩, xtb 799 rfl rfl, xtb 67 (by decide +kernel) (by decide +kernel), rfl⟩
set_option maxRecDepth 100000 in
theorem mkX7_inForbidden : xmOK MX7_inForbidden := ⟨by unfold xok; decide +kernel, by decide +kernel, ⟨by decide +kernel, by decide +kernel, by decide +kernel⟩, xtb 825 rfl rfl, xtb 67 (by decide +kernel) (by decide +kernel), rfl⟩
set_option maxRecDepth 100000 in
theorem mkX7_ifFlipped : xmOK MX7_ifFlipped := ⟨by unfold xok; decide +kernel, by decide +kernel, ⟨by decide +kernel, by decide +kernel, by decide +kernel⟩, xtb 830 rfl rfl, xtb 67 (by decide +kernel) (by decide +kernel), rfl⟩
set_option maxRecDepth 100000 in
theorem mkX7_joinable : xmOK MX7_joinable := ⟨by unfold xok; decide +kernel, by decide +kernel, ⟨by decide +kernel, by decide +kernel, by decide +kernel⟩, xtb 834 rfl rfl, xtb 67 (by decide +kernel) (by decide +kernel), rfl⟩
set_option maxRecDepth 100000 in
theorem mkX7_density : xmOK MX7_density := ⟨by unfold xok; decide +kernel, by decide +kernel, ⟨by decide +kernel, by decide +kernel, by decide +kernel⟩, xtb 839 rfl rfl, xtb 67 (by decide +kernel) (by decide +kernel), rfl⟩
set_option maxRecDepth 100000 in
theorem mkX7_carryOut : xmOK MX7_carryOut := ⟨by unfold xok; decide +kernel, by decide +kernel, ⟨by decide +kernel, by decide +kernel, by decide +kernel⟩, xtb 629 rfl rfl, xtb 67 (by decide +kernel) (by decide +kernel), rfl⟩
set_option maxRecDepth 100000 in
theorem mkX7_traced : xmOK MX7_traced := ⟨by unfold xok; decide +kernel, by decide +kernel, ⟨by decide +kernel, by decide +kernel, by decide +kernel⟩, xtb 723 rfl rfl, xtb 67 (by decide +kernel) (by decide +kernel), rfl⟩
set_option maxRecDepth 100000 in
theorem mkX7_isVertex : xmOK MX7_isVertex := ⟨by unfold xok; decide +kernel, by decide +kernel, ⟨by decide +kernel, by decide +kernel, by decide +kernel⟩, xtb 326 rfl rfl, xtb 67 (by decide +kernel) (by decide +kernel), rfl⟩
set_option maxRecDepth 100000 in
theorem mkX7_bit : xmOK MX7_bit := ⟨by unfold xok; decide +kernel, by decide +kernel, ⟨by decide +kernel, by decide +kernel, by decide +kernel⟩, xtb 404 rfl rfl, xtb 67 (by decide +kernel) (by decide +kernel), rfl⟩
set_option maxRecDepth 100000 in
theorem mkX7_has : xmOK MX7_has := ⟨by unfold xok; decide +kernel, by decide +kernel, ⟨by decide +kernel, by decide +kernel, by decide +kernel⟩, xtb 413 rfl rfl, xtb 67 (by decide +kernel) (by decide +kernel), rfl⟩
set_option maxRecDepth 100000 in
theorem mkX7_least : xmOK MX7_least := ⟨by unfold xok; decide +kernel, by decide +kernel, ⟨by decide +kernel, by decide +kernel, by decide +kernel⟩, xtb 451 rfl rfl, xtb 67 (by decide +kernel) (by decide +kernel), rfl⟩
set_option maxRecDepth 100000 in
theorem mkX7_pairBit : xmOK MX7_pairBit := ⟨by unfold xok; decide +kernel, by decide +kernel, ⟨by decide +kernel, by decide +kernel, by decide +kernel⟩, xtb 333 rfl rfl, xtb 67 (by decide +kernel) (by decide +kernel), rfl⟩
set_option maxRecDepth 100000 in
theorem mkX7_cell : xmOK MX7_cell := ⟨by unfold xok; decide +kernel, by decide +kernel, ⟨by decide +kernel, by decide +kernel, by decide +kernel⟩, xtb 460 rfl rfl, xtb 67 (by decide +kernel) (by decide +kernel), rfl⟩
set_option maxRecDepth 100000 in
theorem mkX7_at : xmOK MX7_at := ⟨by unfold xok; decide +kernel, by decide +kernel, ⟨by decide +kernel, by decide +kernel, by decide +kernel⟩, xtb 410 rfl rfl, xtb 67 (by decide +kernel) (by decide +kernel), rfl⟩
set_option maxRecDepth 100000 in
theorem mkX7_put : xmOK MX7_put := ⟨by unfold xok; decide +kernel, by decide +kernel, ⟨by decide +kernel, by decide +kernel, by decide +kernel⟩, xtb 407 rfl rfl, xtb 67 (by decide +kernel) (by decide +kernel), rfl⟩
set_option maxRecDepth 100000 in
theorem mkX7_around : xmOK MX7_around := ⟨by unfold xok; decide +kernel, by decide +kernel, ⟨by decide +kernel, by decide +kernel, by decide +kernel⟩, xtb 427 rfl rfl, xtb 67 (by decide +kernel) (by decide +kernel), rfl⟩
set_option maxRecDepth 100000 in
theorem mkX7_reach : xmOK MX7_reach := ⟨by unfold xok; decide +kernel, by decide +kernel, ⟨by decide +kernel, by decide +kernel, by decide +kernel⟩, xtb 424 rfl rfl, xtb 67 (by decide +kernel) (by decide +kernel), rfl⟩
set_option maxRecDepth 100000 in
theorem mkX8_within : xmOK MX8_within := ⟨by unfold xok; decide +kernel, by decide +kernel, ⟨by decide +kernel, by decide +kernel, by decide +kernel⟩, xtb 985 rfl rfl, xtb 75 (by decide +kernel) (by decide +kernel), rfl⟩
set_option maxRecDepth 100000 in
theorem mkX8_isVertex : xmOK MX8_isVertex := ⟨by unfold xok; decide +kernel, by decide +kernel, ⟨by decide +kernel, by decide +kernel, by decide +kernel⟩, xtb 982 rfl rfl, xtb 75 (by decide +kernel) (by decide +kernel), rfl⟩
set_option maxRecDepth 100000 in
theorem mkX8_pair : xmOK MX8_pair := ⟨by unfold xok; decide +kernel, by decide +kernel, ⟨by decide +kernel, by decide +kernel, by decide +kernel⟩, xtb 1024 rfl rfl, xtb 75 (by decide +kernel) (by decide +kernel), rfl⟩
set_option maxRecDepth 100000 in
theorem mkX8_ones : xmOK MX8_ones := ⟨by unfold xok; decide +kernel, by decide +kernel, ⟨by decide +kernel, by decide +kernel, by decide +kernel⟩, xtb 967 rfl rfl, xtb 75 (by decide +kernel) (by decide +kernel), rfl⟩
set_option maxRecDepth 100000 in
theorem mkX8_lowest : xmOK MX8_lowest := ⟨by unfold xok; decide +kernel, by decide +kernel, ⟨by decide +kernel, by decide +kernel, by decide +kernel⟩, xtb 1051 rfl rfl, xtb 75 (by decide +kernel) (by decide +kernel), rfl⟩
set_option maxRecDepth 100000 in
theorem mkX8_isEdge : xmOK MX8_isEdge := ⟨by unfold xok; decide +kernel, by decide +kernel, ⟨by decide +kernel, by decide +kernel, by decide +kernel⟩, xtb 989 rfl rfl, xtb 75 (by decide +kernel) (by decide +kernel), rfl⟩
set_option maxRecDepth 100000 in
theorem mkX8_edges : xmOK MX8_edges := ⟨by unfold xok; decide +kernel, by decide +kernel, ⟨by decide +kernel, by decide +kernel, by decide +kernel⟩, xtb 964 rfl rfl, xtb 75 (by decide +kernel) (by decide +kernel), rfl⟩
set_option maxRecDepth 100000 in
theorem mkX8_record : xmOK MX8_record := ⟨by unfold xok; decide +kernel, by decide +kernel, ⟨by decide +kernel, by decide +kernel, by decide +kernel⟩, xtb 975 rfl rfl, xtb 75 (by decide +kernel) (by decide +kernel), rfl⟩
set_option maxRecDepth 100000 in
theorem mkX8_undo : xmOK MX8_undo := ⟨by unfold xok; decide +kernel, by decide +kernel, ⟨by decide +kernel, by decide +kernel, by decide +kernel⟩, xtb 956 rfl rfl, xtb 75 (by decide +kernel) (by decide +kernel), rfl⟩
set_option maxRecDepth 100000 in
theorem mkX8_save : xmOK MX8_save := ⟨by unfold xok; decide +kernel, by decide +kernel, ⟨by decide +kernel, by decide +kernel, by decide +kernel⟩, xtb 960 rfl rfl, xtb 75 (by decide +kernel) (by decide +kernel), rfl⟩
set_option maxRecDepth 100000 in
theorem mkX8_restore : xmOK MX8_restore := ⟨by unfold xok; decide +kernel, by decide +kernel, ⟨by decide +kernel, by decide +kernel, by decide +kernel⟩, xtb 971 rfl rfl, xtb 75 (by decide +kernel) (by decide +kernel), rfl⟩
set_option maxRecDepth 100000 in
theorem mkX8_takeGraph : xmOK MX8_takeGraph := ⟨by unfold xok; decide +kernel, by decide +kernel, ⟨by decide +kernel, by decide +kernel, by decide +kernel⟩, xtb 1013 rfl rfl, xtb 75 (by decide +kernel) (by decide +kernel), rfl⟩
set_option maxRecDepth 100000 in
theorem mkX8_flipInGraph : xmOK MX8_flipInGraph := ⟨by unfold xok; decide +kernel, by decide +kernel, ⟨by decide +kernel, by decide +kernel, by decide +kernel⟩, xtb 1123 rfl rfl, xtb 75 (by decide +kernel) (by decide +kernel), rfl⟩
set_option maxRecDepth 100000 in
theorem mkX8_joined : xmOK MX8_joined := ⟨by unfold xok; decide +kernel, by decide +kernel, ⟨by decide +kernel, by decide +kernel, by decide +kernel⟩, xtb 1032 rfl rfl, xtb 75 (by decide +kernel) (by decide +kernel), rfl⟩
set_option maxRecDepth 100000 in
theorem mkX8_joinBlocks : xmOK MX8_joinBlocks := ⟨by unfold xok; decide +kernel, by decide +kernel, ⟨by decide +kernel, by decide +kernel, by decide +kernel⟩, xtb 1036 rfl rfl, xtb 75 (by decide +kernel) (by decide +kernel), rfl⟩
set_option maxRecDepth 100000 in
theorem mkX8_joinAround : xmOK MX8_joinAround := ⟨by unfold xok; decide +kernel, by decide +kernel, ⟨by decide +kernel, by decide +kernel, by decide +kernel⟩, xtb 1028 rfl rfl, xtb 75 (by decide +kernel) (by decide +kernel), rfl⟩
set_option maxRecDepth 100000 in
theorem mkX8_findBlocks : xmOK MX8_findBlocks := ⟨by unfold xok; decide +kernel, by decide +kernel, ⟨by decide +kernel, by decide +kernel, by decide +kernel⟩, xtb 1021 rfl rfl, xtb 75 (by decide +kernel) (by decide +kernel), rfl⟩
set_option maxRecDepth 100000 in
theorem mkX8_isInBlock : xmOK MX8_isInBlock := ⟨by unfold xok; decide +kernel, by decide +kernel, ⟨by decide +kernel, by decide +kernel, by decide +kernel⟩, xtb 1048 rfl rfl, xtb 75 (by decide +kernel) (by decide +kernel), rfl⟩
set_option maxRecDepth 100000 in
theorem mkX8_neighborsIn : xmOK MX8_neighborsIn := ⟨by unfold xok; decide +kernel, by decide +kernel, ⟨by decide +kernel, by decide +kernel, by decide +kernel⟩, xtb 1044 rfl rfl, xtb 75 (by decide +kernel) (by decide +kernel), rfl⟩
set_option maxRecDepth 100000 in
theorem mkX8_addToFace : xmOK MX8_addToFace := ⟨by unfold xok; decide +kernel, by decide +kernel, ⟨by decide +kernel, by decide +kernel, by decide +kernel⟩, xtb 1063 rfl rfl, xtb 75 (by decide +kernel) (by decide +kernel), rfl⟩
set_option maxRecDepth 100000 in
theorem mkX8_isOnFace : xmOK MX8_isOnFace := ⟨by unfold xok; decide +kernel, by decide +kernel, ⟨by decide +kernel, by decide +kernel, by decide +kernel⟩, xtb 1099 rfl rfl, xtb 75 (by decide +kernel) (by decide +kernel), rfl⟩
set_option maxRecDepth 100000 in
theorem mkX8_placeEdge : xmOK MX8_placeEdge := ⟨by unfold xok; decide +kernel, by decide +kernel, ⟨by decide +kernel, by decide +kernel, by decide +kernel⟩, xtb 1071 rfl rfl, xtb 75 (by decide +kernel) (by decide +kernel), rfl⟩
set_option maxRecDepth 100000 in
theorem mkX8_layDistances : xmOK MX8_layDistances := ⟨by unfold xok; decide +kernel, by decide +kernel, ⟨by decide +kernel, by decide +kernel, by decide +kernel⟩, xtb 1059 rfl rfl, xtb 75 (by decide +kernel) (by decide +kernel), rfl⟩
set_option maxRecDepth 100000 in
theorem mkX8_lowestAt : xmOK MX8_lowestAt := ⟨by unfold xok; decide +kernel, by decide +kernel, ⟨by decide +kernel, by decide +kernel, by decide +kernel⟩, xtb 1067 rfl rfl, xtb 75 (by decide +kernel) (by decide +kernel), rfl⟩
set_option maxRecDepth 100000 in
theorem mkX8_placeCycle : xmOK MX8_placeCycle := ⟨by unfold xok; decide +kernel, by decide +kernel, ⟨by decide +kernel, by decide +kernel, by decide +kernel⟩, xtb 1055 rfl rfl, xtb 75 (by decide +kernel) (by decide +kernel), rfl⟩
set_option maxRecDepth 100000 in
theorem mkX8_isFragment : xmOK MX8_isFragment := ⟨by unfold xok; decide +kernel, by decide +kernel, ⟨by decide +kernel, by decide +kernel, by decide +kernel⟩, xtb 1083 rfl rfl, xtb 75 (by decide +kernel) (by decide +kernel), rfl⟩
set_option maxRecDepth 100000 in
theorem mkX8_addFragment : xmOK MX8_addFragment := ⟨by unfold xok; decide +kernel, by decide +kernel, ⟨by decide +kernel, by decide +kernel, by decide +kernel⟩, xtb 1079 rfl rfl, xtb 75 (by decide +kernel) (by decide +kernel), rfl⟩
set_option maxRecDepth 100000 in
theorem mkX8_contactsOf : xmOK MX8_contactsOf := ⟨by unfold xok; decide +kernel, by decide +kernel, ⟨by decide +kernel, by decide +kernel, by decide +kernel⟩, xtb 1087 rfl rfl, xtb 75 (by decide +kernel) (by decide +kernel), rfl⟩
set_option maxRecDepth 100000 in
theorem mkX8_findFragments : xmOK MX8_findFragments := ⟨by unfold xok; decide +kernel, by decide +kernel, ⟨by decide +kernel, by decide +kernel, by decide +kernel⟩, xtb 1075 rfl rfl, xtb 75 (by decide +kernel) (by decide +kernel), rfl⟩
set_option maxRecDepth 100000 in
theorem mkX8_fitting : xmOK MX8_fitting := ⟨by unfold xok; decide +kernel, by decide +kernel, ⟨by decide +kernel, by decide +kernel, by decide +kernel⟩, xtb 1095 rfl rfl, xtb 75 (by decide +kernel) (by decide +kernel), rfl⟩
set_option maxRecDepth 100000 in
theorem mkX8_chooseFragment : xmOK MX8_chooseFragment := ⟨by unfold xok; decide +kernel, by decide +kernel, ⟨by decide +kernel, by decide +kernel, by decide +kernel⟩, xtb 1091 rfl rfl, xtb 75 (by decide +kernel) (by decide +kernel), rfl⟩
set_option maxRecDepth 100000 in
theorem mkX8_addToPath : xmOK MX8_addToPath := ⟨by unfold xok; decide +kernel, by decide +kernel, ⟨by decide +kernel, by decide +kernel, by decide +kernel⟩, xtb 1107 rfl rfl, xtb 75 (by decide +kernel) (by decide +kernel), rfl⟩
set_option maxRecDepth 100000 in
theorem mkX8_layPath : xmOK MX8_layPath := ⟨by unfold xok; decide +kernel, by decide +kernel, ⟨by decide +kernel, by decide +kernel, by decide +kernel⟩, xtb 1103 rfl rfl, xtb 75 (by decide +kernel) (by decide +kernel), rfl⟩
set_option maxRecDepth 100000 in
theorem mkX8_placePath : xmOK MX8_placePath := ⟨by unfold xok; decide +kernel, by decide +kernel, ⟨by decide +kernel, by decide +kernel, by decide +kernel⟩, xtb 1111 rfl rfl, xtb 75 (by decide +kernel) (by decide +kernel), rfl⟩
set_option maxRecDepth 100000 in
theorem mkX8_laySuccessors : xmOK MX8_laySuccessors := ⟨by unfold xok; decide +kernel, by decide +kernel, ⟨by decide +kernel, by decide +kernel, by decide +kernel⟩, xtb 1115 rfl rfl, xtb 75 (by decide +kernel) (by decide +kernel), rfl⟩
set_option maxRecDepth 100000 in
theorem mkX8_embed : xmOK MX8_embed := ⟨by unfold xok; decide +kernel, by decide +kernel, ⟨by decide +kernel, by decide +kernel, by decide +kernel⟩, xtb 1040 rfl rfl, xtb 75 (by decide +kernel) (by decide +kernel), rfl⟩
set_option maxRecDepth 100000 in
theorem mkX8_isPlanar : xmOK MX8_isPlanar := ⟨by unfold xok; decide +kernel, by decide +kernel, ⟨by decide +kernel, by decide +kernel, by decide +kernel⟩, xtb 1017 rfl rfl, xtb 75 (by decide +kernel) (by decide +kernel), rfl⟩
set_option maxRecDepth 100000 in
theorem mkX8_isPlanarNow : xmOK MX8_isPlanarNow := ⟨by unfold xok; decide +kernel, by decide +kernel, ⟨by decide +kernel, by decide +kernel, by decide +kernel⟩, xtb 1009 rfl rfl, xtb 75 (by decide +kernel) (by decide +kernel), rfl⟩
set_option maxRecDepth 100000 in
theorem mkX8_isPlanarIfFlipped : xmOK MX8_isPlanarIfFlipped := ⟨by unfold xok; decide +kernel, by decide +kernel, ⟨by decide +kernel, by decide +kernel, by decide +kernel⟩, xtb 1119 rfl rfl, xtb 75 (by decide +kernel) (by decide +kernel), rfl⟩
set_option maxRecDepth 100000 in
theorem mkX8_flip : xmOK MX8_flip := ⟨by unfold xok; decide +kernel, by decide +kernel, ⟨by decide +kernel, by decide +kernel, by decide +kernel⟩, xtb 993 rfl rfl, xtb 75 (by decide +kernel) (by decide +kernel), rfl⟩
set_option maxRecDepth 100000 in
theorem mkX8_add : xmOK MX8_add := ⟨by unfold xok; decide +kernel, by decide +kernel, ⟨by decide +kernel, by decide +kernel, by decide +kernel⟩, xtb 979 rfl rfl, xtb 75 (by decide +kernel) (by decide +kernel), rfl⟩
set_option maxRecDepth 100000 in
theorem mkX8_drop : xmOK MX8_drop := ⟨by unfold xok; decide +kernel, by decide +kernel, ⟨by decide +kernel, by decide +kernel, by decide +kernel⟩, xtb 997 rfl rfl, xtb 75 (by decide +kernel) (by decide +kernel), rfl⟩
set_option maxRecDepth 100000 in
theorem mkX8_clear : xmOK MX8_clear := ⟨by unfold xok; decide +kernel, by decide +kernel, ⟨by decide +kernel, by decide +kernel, by decide +kernel⟩, xtb 1001 rfl rfl, xtb 75 (by decide +kernel) (by decide +kernel), rfl⟩
set_option maxRecDepth 100000 in
theorem mkX8_complete : xmOK MX8_complete := ⟨by unfold xok; decide +kernel, by decide +kernel, ⟨by decide +kernel, by decide +kernel, by decide +kernel⟩, xtb 1005 rfl rfl, xtb 75 (by decide +kernel) (by decide +kernel), rfl⟩
set_option maxRecDepth 100000 in
theorem mkX8_append : xmOK MX8_append := ⟨by unfold xok; decide +kernel, by decide +kernel, ⟨by decide +kernel, by decide +kernel, by decide +kernel⟩, xtb 1127 rfl rfl, xtb 75 (by decide +kernel) (by decide +kernel), rfl⟩
set_option maxRecDepth 100000 in
theorem mkX8_clearText : xmOK MX8_clearText := ⟨by unfold xok; decide +kernel, by decide +kernel, ⟨by decide +kernel, by decide +kernel, by decide +kernel⟩, xtb 1131 rfl rfl, xtb 75 (by decide +kernel) (by decide +kernel), rfl⟩
set_option maxRecDepth 100000 in
theorem mkX8_nextCharacter : xmOK MX8_nextCharacter := ⟨by unfold xok; decide +kernel, by decide +kernel, ⟨by decide +kernel, by decide +kernel, by decide +kernel⟩, xtb 1151 rfl rfl, xtb 75 (by decide +kernel) (by decide +kernel), rfl⟩
set_option maxRecDepth 100000 in
theorem mkX8_takes : xmOK MX8_takes := ⟨by unfold xok; decide +kernel, by decide +kernel, ⟨by decide +kernel, by decide +kernel, by decide +kernel⟩, xtb 1155 rfl rfl, xtb 75 (by decide +kernel) (by decide +kernel), rfl⟩
set_option maxRecDepth 100000 in
theorem mkX8_readsWord : xmOK MX8_readsWord := ⟨by unfold xok; decide +kernel, by decide +kernel, ⟨by decide +kernel, by decide +kernel, by decide +kernel⟩, xtb 1147 rfl rfl, xtb 75 (by decide +kernel) (by decide +kernel), rfl⟩
set_option maxRecDepth 100000 in
theorem mkX8_readsEdit : xmOK MX8_readsEdit := ⟨by unfold xok; decide +kernel, by decide +kernel, ⟨by decide +kernel, by decide +kernel, by decide +kernel⟩, xtb 1143 rfl rfl, xtb 75 (by decide +kernel) (by decide +kernel), rfl⟩
set_option maxRecDepth 100000 in
theorem mkX8_findFault : xmOK MX8_findFault := ⟨by unfold xok; decide +kernel, by decide +kernel, ⟨by decide +kernel, by decide +kernel, by decide +kernel⟩, xtb 1139 rfl rfl, xtb 75 (by decide +kernel) (by decide +kernel), rfl⟩
set_option maxRecDepth 100000 in
theorem mkX8_fault : xmOK MX8_fault := ⟨by unfold xok; decide +kernel, by decide +kernel, ⟨by decide +kernel, by decide +kernel, by decide +kernel⟩, xtb 1135 rfl rfl, xtb 75 (by decide +kernel) (by decide +kernel), rfl⟩
set_option maxRecDepth 100000 in
theorem mkX8_run : xmOK MX8_run := ⟨by unfold xok; decide +kernel, by decide +kernel, ⟨by decide +kernel, by decide +kernel, by decide +kernel⟩, xtb 1159 rfl rfl, xtb 75 (by decide +kernel) (by decide +kernel), rfl⟩
set_option maxRecDepth 100000 in
theorem mkX8_neighbors : xmOK MX8_neighbors := ⟨by unfold xok; decide +kernel, by decide +kernel, ⟨by decide +kernel, by decide +kernel, by decide +kernel⟩, xtb 1163 rfl rfl, xtb 75 (by decide +kernel) (by decide +kernel), rfl⟩
set_option maxRecDepth 100000 in
theorem mkX8_components : xmOK MX8_components := ⟨by unfold xok; decide +kernel, by decide +kernel, ⟨by decide +kernel, by decide +kernel, by decide +kernel⟩, xtb 1171 rfl rfl, xtb 75 (by decide +kernel) (by decide +kernel), rfl⟩
set_option maxRecDepth 100000 in
theorem mkX8_blocksNow : xmOK MX8_blocksNow := ⟨by unfold xok; decide +kernel, by decide +kernel, ⟨by decide +kernel, by decide +kernel, by decide +kernel⟩, xtb 1175 rfl rfl, xtb 75 (by decide +kernel) (by decide +kernel), rfl⟩
set_option maxRecDepth 100000 in
theorem mkX8_cutVertices : xmOK MX8_cutVertices := ⟨by unfold xok; decide +kernel, by decide +kernel, ⟨by decide +kernel, by decide +kernel, by decide +kernel⟩, xtb 1179 rfl rfl, xtb 75 (by decide +kernel) (by decide +kernel), rfl⟩
set_option maxRecDepth 100000 in
theorem mkX8_edgesOf : xmOK MX8_edgesOf := ⟨by unfold xok; decide +kernel, by decide +kernel, ⟨by decide +kernel, by decide +kernel, by decide +kernel⟩, xtb 1187 rfl rfl, xtb 75 (by decide +kernel) (by decide +kernel), rfl⟩
set_option maxRecDepth 100000 in
theorem mkX8_bridges : xmOK MX8_bridges := ⟨by unfold xok; decide +kernel, by decide +kernel, ⟨by decide +kernel, by decide +kernel, by decide +kernel⟩, xtb 1183 rfl rfl, xtb 75 (by decide +kernel) (by decide +kernel), rfl⟩
set_option maxRecDepth 100000 in
theorem mkX8_count : xmOK MX8_count := ⟨by unfold xok; decide +kernel, by decide +kernel, ⟨by decide +kernel, by decide +kernel, by decide +kernel⟩, xtb 1167 rfl rfl, xtb 75 (by decide +kernel) (by decide +kernel), rfl⟩
set_option maxRecDepth 100000 in
theorem mkX8_block : xmOK MX8_block := ⟨by unfold xok; decide +kernel, by decide +kernel, ⟨by decide +kernel, by decide +kernel, by decide +kernel⟩, xtb 1191 rfl rfl, xtb 75 (by decide +kernel) (by decide +kernel), rfl⟩
set_option maxRecDepth 100000 in
theorem mkX8_verticesOf : xmOK MX8_verticesOf := ⟨by unfold xok; decide +kernel, by decide +kernel, ⟨by decide +kernel, by decide +kernel, by decide +kernel⟩, xtb 1199 rfl rfl, xtb 75 (by decide +kernel) (by decide +kernel), rfl⟩
set_option maxRecDepth 100000 in
theorem mkX8_blockInfo : xmOK MX8_blockInfo := ⟨by unfold xok; decide +kernel, by decide +kernel, ⟨by decide +kernel, by decide +kernel, by decide +kernel⟩, xtb 1195 rfl rfl, xtb 75 (by decide +kernel) (by decide +kernel), rfl⟩
set_option maxRecDepth 100000 in
theorem mkX8_planar : xmOK MX8_planar := ⟨by unfold xok; decide +kernel, by decide +kernel, ⟨by decide +kernel, by decide +kernel, by decide +kernel⟩, xtb 1203 rfl rfl, xtb 75 (by decide +kernel) (by decide +kernel), rfl⟩
set_option maxRecDepth 100000 in
theorem mkX8_behind : xmOK MX8_behind := ⟨by unfold xok; decide +kernel, by decide +kernel, ⟨by decide +kernel, by decide +kernel, by decide +kernel⟩, xtb 1211 rfl rfl, xtb 75 (by decide +kernel) (by decide +kernel), rfl⟩
set_option maxRecDepth 100000 in
theorem mkX8_next : xmOK MX8_next := ⟨by unfold xok; decide +kernel, by decide +kernel, ⟨by decide +kernel, by decide +kernel, by decide +kernel⟩, xtb 1207 rfl rfl, xtb 75 (by decide +kernel) (by decide +kernel), rfl⟩
set_option maxRecDepth 100000 in
theorem mkX8_findWalks : xmOK MX8_findWalks := ⟨by unfold xok; decide +kernel, by decide +kernel, ⟨by decide +kernel, by decide +kernel, by decide +kernel⟩, xtb 1219 rfl rfl, xtb 75 (by decide +kernel) (by decide +kernel), rfl⟩
set_option maxRecDepth 100000 in
theorem mkX8_walks : xmOK MX8_walks := ⟨by unfold xok; decide +kernel, by decide +kernel, ⟨by decide +kernel, by decide +kernel, by decide +kernel⟩, xtb 1215 rfl rfl, xtb 75 (by decide +kernel) (by decide +kernel), rfl⟩
set_option maxRecDepth 100000 in
theorem mkX8_lengthOf : xmOK MX8_lengthOf := ⟨by unfold xok; decide +kernel, by decide +kernel, ⟨by decide +kernel, by decide +kernel, by decide +kernel⟩, xtb 1227 rfl rfl, xtb 75 (by decide +kernel) (by decide +kernel), rfl⟩
set_option maxRecDepth 100000 in
theorem mkX8_walkLength : xmOK MX8_walkLength := ⟨by unfold xok; decide +kernel, by decide +kernel, ⟨by decide +kernel, by decide +kernel, by decide +kernel⟩, xtb 1223 rfl rfl, xtb 75 (by decide +kernel) (by decide +kernel), rfl⟩
set_option maxRecDepth 100000 in
theorem mkX8_walkVertex : xmOK MX8_walkVertex := ⟨by unfold xok; decide +kernel, by decide +kernel, ⟨by decide +kernel, by decide +kernel, by decide +kernel⟩, xtb 1231 rfl rfl, xtb 75 (by decide +kernel) (by decide +kernel), rfl⟩
set_option maxRecDepth 100000 in
theorem mkX8_walkOf : xmOK MX8_walkOf := ⟨by unfold xok; decide +kernel, by decide +kernel, ⟨by decide +kernel, by decide +kernel, by decide +kernel⟩, xtb 1235 rfl rfl, xtb 75 (by decide +kernel) (by decide +kernel), rfl⟩
set_option maxRecDepth 100000 in
theorem mkX8_findForbidden : xmOK MX8_findForbidden := ⟨by unfold xok; decide +kernel, by decide +kernel, ⟨by decide +kernel, by decide +kernel, by decide +kernel⟩, xtb 1243 rfl rfl, xtb 75 (by decide +kernel) (by decide +kernel), rfl⟩
set_option maxRecDepth 100000 in
theorem mkX8_forbidden : xmOK MX8_forbidden := ⟨by unfold xok; decide +kernel, by decide +kernel, ⟨by decide +kernel, by decide +kernel, by decide +kernel⟩, xtb 1239 rfl rfl, xtb 75 (by decide +kernel) (by decide +kernel), rfl⟩
set_option maxRecDepth 100000 in
theorem mkX8_inForbidden : xmOK MX8_inForbidden := ⟨by unfold xok; decide +kernel, by decide +kernel, ⟨by decide +kernel, by decide +kernel, by decide +kernel⟩, xtb 1247 rfl rfl, xtb 75 (by decide +kernel) (by decide +kernel), rfl⟩
set_option maxRecDepth 100000 in
theorem mkX8_ifFlipped : xmOK MX8_ifFlipped := ⟨by unfold xok; decide +kernel, by decide +kernel, ⟨by decide +kernel, by decide +kernel, by decide +kernel⟩, xtb 1251 rfl rfl, xtb 75 (by decide +kernel) (by decide +kernel), rfl⟩
set_option maxRecDepth 100000 in
theorem mkX8_joinable : xmOK MX8_joinable := ⟨by unfold xok; decide +kernel, by decide +kernel, ⟨by decide +kernel, by decide +kernel, by decide +kernel⟩, xtb 1255 rfl rfl, xtb 75 (by decide +kernel) (by decide +kernel), rfl⟩
set_option maxRecDepth 100000 in
theorem mkX8_density : xmOK MX8_density := ⟨by unfold xok; decide +kernel, by decide +kernel, ⟨by decide +kernel, by decide +kernel, by decide +kernel⟩, xtb 1259 rfl rfl, xtb 75 (by decide +kernel) (by decide +kernel), rfl⟩
set_option maxRecDepth 100000 in
theorem mkJ6_bitCount_0f7a4 : xmOK MJ6_bitCount_0f7a4 := ⟨by unfold xok; decide +kernel, by decide +kernel, ⟨by decide +kernel, by decide +kernel, by decide +kernel⟩, xtb 441 rfl rfl, xtb 78 (by decide +kernel) (by decide +kernel), rfl⟩
set_option maxRecDepth 100000 in
theorem mkJ13_bitCount_95d88 : xmOK MJ13_bitCount_95d88 := ⟨by unfold xok; decide +kernel, by decide +kernel, ⟨by decide +kernel, by decide +kernel, by decide +kernel⟩, xtb 371 rfl rfl, xtb 77 (by decide +kernel) (by decide +kernel), rfl⟩
theorem xlk_0_28 : xlkOK 0 (28, 1, MX7_at) := ⟨mkX7_at, Or.inr (Or.inl ⟨rfl, List.mem_of_getElem? (i := 544) (by decide +kernel), xtb 409 (by decide +kernel) (by decide +kernel)⟩)⟩
theorem xlk_0_32 : xlkOK 0 (32, 1, MX7_put) := ⟨mkX7_put, Or.inr (Or.inl ⟨rfl, List.mem_of_getElem? (i := 515) (by decide +kernel), xtb 406 (by decide +kernel) (by decide +kernel)⟩)⟩
theorem xlk_0_36 : xlkOK 0 (36, 2, MX0_formAt) := ⟨mkX0_formAt, Or.inr (Or.inr ⟨rfl, xtb 536 (by decide +kernel) (by decide +kernel), xtb 538 (by decide +kernel) (by decide +kernel), xtb 12 (by decide +kernel) (by decide +kernel), TX0, 5, rfl⟩)⟩
theorem xlk_0_40 : xlkOK 0 (40, 2, MX0_signsRight) := ⟨mkX0_signsRight, Or.inr (Or.inr ⟨rfl, xtb 549 (by decide +kernel) (by decide +kernel), xtb 551 (by decide +kernel) (by decide +kernel), xtb 14 (by decide +kernel) (by decide +kernel), TX0, 5, rfl⟩)⟩
theorem xlk_0_53 : xlkOK 0 (53, 2, MX0_signAt) := ⟨mkX0_signAt, Or.inr (Or.inr ⟨rfl, xtb 540 (by decide +kernel) (by decide +kernel), xtb 542 (by decide +kernel) (by decide +kernel), xtb 13 (by decide +kernel) (by decide +kernel), TX0, 5, rfl⟩)⟩
theorem xlk_0 : ∀ q ∈ xlnkL0, xlkOK 0 q := List.forall_mem_cons.mpr ⟨xlk_0_28, List.forall_mem_cons.mpr ⟨xlk_0_32, List.forall_mem_cons.mpr ⟨xlk_0_36, List.forall_mem_cons.mpr ⟨xlk_0_40, List.forall_mem_cons.mpr ⟨xlk_0_53, fun _ h => absurd h List.not_mem_nil⟩⟩⟩⟩⟩
theorem xlk_1_40 : xlkOK 1 (40, 2, MX1_start) := ⟨mkX1_start, Or.inr (Or.inr ⟨rfl, xtb 432 (by decide +kernel) (by decide +kernel), xtb 434 (by decide +kernel) (by decide +kernel), xtb 3 (by decide +kernel) (by decide +kernel), TX1, 16, rfl⟩)⟩
theorem xlk_1_44 : xlkOK 1 (44, 2, MX1_placeCycle) := ⟨mkX1_placeCycle, Or.inr (Or.inr ⟨rfl, xtb 445 (by decide +kernel) (by decide +kernel), xtb 447 (by decide +kernel) (by decide +kernel), xtb 4 (by decide +kernel) (by decide +kernel), TX1, 16, rfl⟩)⟩
theorem xlk_1_48 : xlkOK 1 (48, 2, MX1_chooseFragment) := ⟨mkX1_chooseFragment, Or.inr (Or.inr ⟨rfl, xtb 465 (by decide +kernel) (by decide +kernel), xtb 467 (by decide +kernel) (by decide +kernel), xtb 7 (by decide +kernel) (by decide +kernel), TX1, 16, rfl⟩)⟩
theorem xlk_1_51 : xlkOK 1 (51, 2, MX1_choosePath) := ⟨mkX1_choosePath, Or.inr (Or.inr ⟨rfl, xtb 474 (by decide +kernel) (by decide +kernel), xtb 476 (by decide +kernel) (by decide +kernel), xtb 9 (by decide +kernel) (by decide +kernel), TX1, 16, rfl⟩)⟩
theorem xlk_1_54 : xlkOK 1 (54, 2, MX1_splitFace) := ⟨mkX1_splitFace, Or.inr (Or.inr ⟨rfl, xtb 478 (by decide +kernel) (by decide +kernel), xtb 480 (by decide +kernel) (by decide +kernel), xtb 10 (by decide +kernel) (by decide +kernel), TX1, 16, rfl⟩)⟩
theorem xlk_1_60 : xlkOK 1 (60, 1, MX7_least) := ⟨mkX7_least, Or.inr (Or.inl ⟨rfl, List.mem_of_getElem? (i := 449) (by decide +kernel), xtb 450 (by decide +kernel) (by decide +kernel)⟩)⟩
theorem xlk_1_64 : xlkOK 1 (64, 1, MX7_bit) := ⟨mkX7_bit, Or.inr (Or.inl ⟨rfl, List.mem_of_getElem? (i := 452) (by decide +kernel), xtb 403 (by decide +kernel) (by decide +kernel)⟩)⟩
theorem xlk_1_67 : xlkOK 1 (67, 1, MX7_cell) := ⟨mkX7_cell, Or.inr (Or.inl ⟨rfl, List.mem_of_getElem? (i := 458) (by decide +kernel), xtb 459 (by decide +kernel) (by decide +kernel)⟩)⟩
theorem xlk_1_71 : xlkOK 1 (71, 1, MX7_put) := ⟨mkX7_put, Or.inr (Or.inl ⟨rfl, List.mem_of_getElem? (i := 438) (by decide +kernel), xtb 406 (by decide +kernel) (by decide +kernel)⟩)⟩
theorem xlk_1_75 : xlkOK 1 (75, 1, MX7_at) := ⟨mkX7_at, Or.inr (Or.inl ⟨rfl, List.mem_of_getElem? (i := 437) (by decide +kernel), xtb 409 (by decide +kernel) (by decide +kernel)⟩)⟩
theorem xlk_1_79 : xlkOK 1 (79, 1, MX7_has) := ⟨mkX7_has, Or.inr (Or.inl ⟨rfl, List.mem_of_getElem? (i := 436) (by decide +kernel), xtb 412 (by decide +kernel) (by decide +kernel)⟩)⟩
theorem xlk_1_86 : xlkOK 1 (86, 0, MJ6_bitCount_0f7a4) := ⟨mkJ6_bitCount_0f7a4, Or.inl ⟨rfl, xtb 439 (by decide +kernel) (by decide +kernel), xtb 440 (by decide +kernel) (by decide +kernel)⟩⟩
theorem xlk_1_91 : xlkOK 1 (91, 2, MX1_findPath) := ⟨mkX1_findPath, Or.inr (Or.inr ⟨rfl, xtb 453 (by decide +kernel) (by decide +kernel), xtb 455 (by decide +kernel) (by decide +kernel), xtb 5 (by decide +kernel) (by decide +kernel), TX1, 16, rfl⟩)⟩
theorem xlk_1_95 : xlkOK 1 (95, 2, MX1_placeEdge) := ⟨mkX1_placeEdge, Or.inr (Or.inr ⟨rfl, xtb 461 (by decide +kernel) (by decide +kernel), xtb 463 (by decide +kernel) (by decide +kernel), xtb 6 (by decide +kernel) (by decide +kernel), TX1, 16, rfl⟩)⟩
theorem xlk_1_102 : xlkOK 1 (102, 1, MX7_around) := ⟨mkX7_around, Or.inr (Or.inl ⟨rfl, List.mem_of_getElem? (i := 457) (by decide +kernel), xtb 426 (by decide +kernel) (by decide +kernel)⟩)⟩
theorem xlk_1_108 : xlkOK 1 (108, 1, MX7_reach) := ⟨mkX7_reach, Or.inr (Or.inl ⟨rfl, List.mem_of_getElem? (i := 469) (by decide +kernel), xtb 423 (by decide +kernel) (by decide +kernel)⟩)⟩
theorem xlk_1_112 : xlkOK 1 (112, 2, MX1_weigh) := ⟨mkX1_weigh, Or.inr (Or.inr ⟨rfl, xtb 470 (by decide +kernel) (by decide +kernel), xtb 472 (by decide +kernel) (by decide +kernel), xtb 8 (by decide +kernel) (by decide +kernel), TX1, 16, rfl⟩)⟩
theorem xlk_1 : ∀ q ∈ xlnkL1, xlkOK 1 q := List.forall_mem_cons.mpr ⟨xlk_1_40, List.forall_mem_cons.mpr ⟨xlk_1_44, List.forall_mem_cons.mpr ⟨xlk_1_48, List.forall_mem_cons.mpr ⟨xlk_1_51, List.forall_mem_cons.mpr ⟨xlk_1_54, List.forall_mem_cons.mpr ⟨xlk_1_60, List.forall_mem_cons.mpr ⟨xlk_1_64, List.forall_mem_cons.mpr ⟨xlk_1_67, List.forall_mem_cons.mpr ⟨xlk_1_71, List.forall_mem_cons.mpr ⟨xlk_1_75, List.forall_mem_cons.mpr ⟨xlk_1_79, List.forall_mem_cons.mpr ⟨xlk_1_86, List.forall_mem_cons.mpr ⟨xlk_1_91, List.forall_mem_cons.mpr ⟨xlk_1_95, List.forall_mem_cons.mpr ⟨xlk_1_102, List.forall_mem_cons.mpr ⟨xlk_1_108, List.forall_mem_cons.mpr ⟨xlk_1_112, fun _ h => absurd h List.not_mem_nil⟩⟩⟩⟩⟩⟩⟩⟩⟩⟩⟩⟩⟩⟩⟩⟩⟩
theorem xlk_2_26 : xlkOK 2 (26, 2, MX2_forgetOldest) := ⟨mkX2_forgetOldest, Or.inr (Or.inr ⟨rfl, xtb 344 (by decide +kernel) (by decide +kernel), xtb 346 (by decide +kernel) (by decide +kernel), xtb 0 (by decide +kernel) (by decide +kernel), TX2, 4, rfl⟩)⟩
theorem xlk_2_29 : xlkOK 2 (29, 2, MX5_edges) := ⟨mkX5_edges, Or.inr (Or.inr ⟨rfl, xtb 348 (by decide +kernel) (by decide +kernel), xtb 349 (by decide +kernel) (by decide +kernel), xtb 350 (by decide +kernel) (by decide +kernel), TX5, 3, rfl⟩)⟩
theorem xlk_2_34 : xlkOK 2 (34, 2, MX5_added) := ⟨mkX5_added, Or.inr (Or.inr ⟨rfl, xtb 352 (by decide +kernel) (by decide +kernel), xtb 353 (by decide +kernel) (by decide +kernel), xtb 354 (by decide +kernel) (by decide +kernel), TX5, 3, rfl⟩)⟩
theorem xlk_2_37 : xlkOK 2 (37, 2, MX5_dropped) := ⟨mkX5_dropped, Or.inr (Or.inr ⟨rfl, xtb 356 (by decide +kernel) (by decide +kernel), xtb 357 (by decide +kernel) (by decide +kernel), xtb 358 (by decide +kernel) (by decide +kernel), TX5, 3, rfl⟩)⟩
theorem xlk_2_39 : xlkOK 2 (39, 2, MX5_become) := ⟨mkX5_become, Or.inr (Or.inr ⟨rfl, xtb 638 (by decide +kernel) (by decide +kernel), xtb 639 (by decide +kernel) (by decide +kernel), xtb 640 (by decide +kernel) (by decide +kernel), TX5, 3, rfl⟩)⟩
theorem xlk_2 : ∀ q ∈ xlnkL2, xlkOK 2 q := List.forall_mem_cons.mpr ⟨xlk_2_26, List.forall_mem_cons.mpr ⟨xlk_2_29, List.forall_mem_cons.mpr ⟨xlk_2_34, List.forall_mem_cons.mpr ⟨xlk_2_37, List.forall_mem_cons.mpr ⟨xlk_2_39, fun _ h => absurd h List.not_mem_nil⟩⟩⟩⟩⟩
theorem xlk_3_22 : xlkOK 3 (22, 1, MX7_pairBit) := ⟨mkX7_pairBit, Or.inr (Or.inl ⟨rfl, List.mem_of_getElem? (i := 804) (by decide +kernel), xtb 332 (by decide +kernel) (by decide +kernel)⟩)⟩
theorem xlk_3_28 : xlkOK 3 (28, 2, MX4_read) := ⟨mkX4_read, Or.inr (Or.inr ⟨rfl, xtb 806 (by decide +kernel) (by decide +kernel), xtb 394 (by decide +kernel) (by decide +kernel), xtb 395 (by decide +kernel) (by decide +kernel), TX4, 11, rfl⟩)⟩
theorem xlk_3_34 : xlkOK 3 (34, 0, MJ13_bitCount_95d88) := ⟨mkJ13_bitCount_95d88, Or.inl ⟨rfl, xtb 811 (by decide +kernel) (by decide +kernel), xtb 370 (by decide +kernel) (by decide +kernel)⟩⟩
theorem xlk_3_40 : xlkOK 3 (40, 2, MX3_holds) := ⟨mkX3_holds, Or.inr (Or.inr ⟨rfl, xtb 816 (by decide +kernel) (by decide +kernel), xtb 817 (by decide +kernel) (by decide +kernel), xtb 818 (by decide +kernel) (by decide +kernel), TX3, 3, rfl⟩)⟩
theorem xlk_3_44 : xlkOK 3 (44, 1, MX7_bit) := ⟨mkX7_bit, Or.inr (Or.inl ⟨rfl, List.mem_of_getElem? (i := 820) (by decide +kernel), xtb 403 (by decide +kernel) (by decide +kernel)⟩)⟩
theorem xlk_3 : ∀ q ∈ xlnkL3, xlkOK 3 q := List.forall_mem_cons.mpr ⟨xlk_3_22, List.forall_mem_cons.mpr ⟨xlk_3_28, List.forall_mem_cons.mpr ⟨xlk_3_34, List.forall_mem_cons.mpr ⟨xlk_3_40, List.forall_mem_cons.mpr ⟨xlk_3_44, fun _ h => absurd h List.not_mem_nil⟩⟩⟩⟩⟩
theorem xlk_4_52 : xlkOK 4 (52, 2, MX4_fillNear) := ⟨mkX4_fillNear, Or.inr (Or.inr ⟨rfl, xtb 397 (by decide +kernel) (by decide +kernel), xtb 399 (by decide +kernel) (by decide +kernel), xtb 1 (by decide +kernel) (by decide +kernel), TX4, 11, rfl⟩)⟩
theorem xlk_4_55 : xlkOK 4 (55, 1, MX7_at) := ⟨mkX7_at, Or.inr (Or.inl ⟨rfl, List.mem_of_getElem? (i := 408) (by decide +kernel), xtb 409 (by decide +kernel) (by decide +kernel)⟩)⟩
theorem xlk_4_59 : xlkOK 4 (59, 1, MX7_has) := ⟨mkX7_has, Or.inr (Or.inl ⟨rfl, List.mem_of_getElem? (i := 411) (by decide +kernel), xtb 412 (by decide +kernel) (by decide +kernel)⟩)⟩
theorem xlk_4_63 : xlkOK 4 (63, 2, MX4_blockOf) := ⟨mkX4_blockOf, Or.inr (Or.inr ⟨rfl, xtb 414 (by decide +kernel) (by decide +kernel), xtb 415 (by decide +kernel) (by decide +kernel), xtb 416 (by decide +kernel) (by decide +kernel), TX4, 11, rfl⟩)⟩
theorem xlk_4_67 : xlkOK 4 (67, 2, MX4_blockAround) := ⟨mkX4_blockAround, Or.inr (Or.inr ⟨rfl, xtb 418 (by decide +kernel) (by decide +kernel), xtb 420 (by decide +kernel) (by decide +kernel), xtb 2 (by decide +kernel) (by decide +kernel), TX4, 11, rfl⟩)⟩
theorem xlk_4_70 : xlkOK 4 (70, 2, MX1_embed) := ⟨mkX1_embed, Or.inr (Or.inr ⟨rfl, xtb 428 (by decide +kernel) (by decide +kernel), xtb 429 (by decide +kernel) (by decide +kernel), xtb 430 (by decide +kernel) (by decide +kernel), TX1, 16, rfl⟩)⟩
theorem xlk_4_74 : xlkOK 4 (74, 2, MX4_keepBlock) := ⟨mkX4_keepBlock, Or.inr (Or.inr ⟨rfl, xtb 482 (by decide +kernel) (by decide +kernel), xtb 484 (by decide +kernel) (by decide +kernel), xtb 11 (by decide +kernel) (by decide +kernel), TX4, 11, rfl⟩)⟩
theorem xlk_4_78 : xlkOK 4 (78, 1, MX7_cell) := ⟨mkX7_cell, Or.inr (Or.inl ⟨rfl, List.mem_of_getElem? (i := 748) (by decide +kernel), xtb 459 (by decide +kernel) (by decide +kernel)⟩)⟩
theorem xlk_4_81 : xlkOK 4 (81, 1, MX7_bit) := ⟨mkX7_bit, Or.inr (Or.inl ⟨rfl, List.mem_of_getElem? (i := 402) (by decide +kernel), xtb 403 (by decide +kernel) (by decide +kernel)⟩)⟩
theorem xlk_4_85 : xlkOK 4 (85, 1, MX7_reach) := ⟨mkX7_reach, Or.inr (Or.inl ⟨rfl, List.mem_of_getElem? (i := 422) (by decide +kernel), xtb 423 (by decide +kernel) (by decide +kernel)⟩)⟩
theorem xlk_4_89 : xlkOK 4 (89, 0, MJ6_bitCount_0f7a4) := ⟨mkJ6_bitCount_0f7a4, Or.inl ⟨rfl, xtb 681 (by decide +kernel) (by decide +kernel), xtb 440 (by decide +kernel) (by decide +kernel)⟩⟩
theorem xlk_4_94 : xlkOK 4 (94, 1, MX7_pairBit) := ⟨mkX7_pairBit, Or.inr (Or.inl ⟨rfl, List.mem_of_getElem? (i := 401) (by decide +kernel), xtb 332 (by decide +kernel) (by decide +kernel)⟩)⟩
theorem xlk_4_98 : xlkOK 4 (98, 1, MX7_put) := ⟨mkX7_put, Or.inr (Or.inl ⟨rfl, List.mem_of_getElem? (i := 405) (by decide +kernel), xtb 406 (by decide +kernel) (by decide +kernel)⟩)⟩
theorem xlk_4_102 : xlkOK 4 (102, 2, MX1_edges) := ⟨mkX1_edges, Or.inr (Or.inr ⟨rfl, xtb 486 (by decide +kernel) (by decide +kernel), xtb 487 (by decide +kernel) (by decide +kernel), xtb 488 (by decide +kernel) (by decide +kernel), TX1, 16, rfl⟩)⟩
theorem xlk_4_105 : xlkOK 4 (105, 2, MX1_placedEdges) := ⟨mkX1_placedEdges, Or.inr (Or.inr ⟨rfl, xtb 490 (by decide +kernel) (by decide +kernel), xtb 491 (by decide +kernel) (by decide +kernel), xtb 492 (by decide +kernel) (by decide +kernel), TX1, 16, rfl⟩)⟩
theorem xlk_4_108 : xlkOK 4 (108, 2, MX1_faces) := ⟨mkX1_faces, Or.inr (Or.inr ⟨rfl, xtb 494 (by decide +kernel) (by decide +kernel), xtb 495 (by decide +kernel) (by decide +kernel), xtb 496 (by decide +kernel) (by decide +kernel), TX1, 16, rfl⟩)⟩
theorem xlk_4_111 : xlkOK 4 (111, 2, MX4_isPlanar) := ⟨mkX4_isPlanar, Or.inr (Or.inr ⟨rfl, xtb 498 (by decide +kernel) (by decide +kernel), xtb 499 (by decide +kernel) (by decide +kernel), xtb 500 (by decide +kernel) (by decide +kernel), TX4, 11, rfl⟩)⟩
theorem xlk_4_115 : xlkOK 4 (115, 2, MX1_writeSuccessors) := ⟨mkX1_writeSuccessors, Or.inr (Or.inr ⟨rfl, xtb 502 (by decide +kernel) (by decide +kernel), xtb 503 (by decide +kernel) (by decide +kernel), xtb 504 (by decide +kernel) (by decide +kernel), TX1, 16, rfl⟩)⟩
theorem xlk_4 : ∀ q ∈ xlnkL4, xlkOK 4 q := List.forall_mem_cons.mpr ⟨xlk_4_52, List.forall_mem_cons.mpr ⟨xlk_4_55, List.forall_mem_cons.mpr ⟨xlk_4_59, List.forall_mem_cons.mpr ⟨xlk_4_63, List.forall_mem_cons.mpr ⟨xlk_4_67, List.forall_mem_cons.mpr ⟨xlk_4_70, List.forall_mem_cons.mpr ⟨xlk_4_74, List.forall_mem_cons.mpr ⟨xlk_4_78, List.forall_mem_cons.mpr ⟨xlk_4_81, List.forall_mem_cons.mpr ⟨xlk_4_85, List.forall_mem_cons.mpr ⟨xlk_4_89, List.forall_mem_cons.mpr ⟨xlk_4_94, List.forall_mem_cons.mpr ⟨xlk_4_98, List.forall_mem_cons.mpr ⟨xlk_4_102, List.forall_mem_cons.mpr ⟨xlk_4_105, List.forall_mem_cons.mpr ⟨xlk_4_108, List.forall_mem_cons.mpr ⟨xlk_4_111, List.forall_mem_cons.mpr ⟨xlk_4_115, fun _ h => absurd h List.not_mem_nil⟩⟩⟩⟩⟩⟩⟩⟩⟩⟩⟩⟩⟩⟩⟩⟩⟩⟩
theorem xlk_5_20 : xlkOK 5 (20, 0, MJ13_bitCount_95d88) := ⟨mkJ13_bitCount_95d88, Or.inl ⟨rfl, xtb 369 (by decide +kernel) (by decide +kernel), xtb 370 (by decide +kernel) (by decide +kernel)⟩⟩
theorem xlk_5_26 : xlkOK 5 (26, 1, MX7_pairBit) := ⟨mkX7_pairBit, Or.inr (Or.inl ⟨rfl, List.mem_of_getElem? (i := 331) (by decide +kernel), xtb 332 (by decide +kernel) (by decide +kernel)⟩)⟩
theorem xlk_5_32 : xlkOK 5 (32, 2, MX5_joins) := ⟨mkX5_joins, Or.inr (Or.inr ⟨rfl, xtb 364 (by decide +kernel) (by decide +kernel), xtb 328 (by decide +kernel) (by decide +kernel), xtb 329 (by decide +kernel) (by decide +kernel), TX5, 3, rfl⟩)⟩
theorem xlk_5_36 : xlkOK 5 (36, 2, MX5_size) := ⟨mkX5_size, Or.inr (Or.inr ⟨rfl, xtb 387 (by decide +kernel) (by decide +kernel), xtb 366 (by decide +kernel) (by decide +kernel), xtb 367 (by decide +kernel) (by decide +kernel), TX5, 3, rfl⟩)⟩
theorem xlk_5 : ∀ q ∈ xlnkL5, xlkOK 5 q := List.forall_mem_cons.mpr ⟨xlk_5_20, List.forall_mem_cons.mpr ⟨xlk_5_26, List.forall_mem_cons.mpr ⟨xlk_5_32, List.forall_mem_cons.mpr ⟨xlk_5_36, fun _ h => absurd h List.not_mem_nil⟩⟩⟩⟩
theorem xlk_6_32 : xlkOK 6 (32, 2, MX4_edges) := ⟨mkX4_edges, Or.inr (Or.inr ⟨rfl, xtb 728 (by decide +kernel) (by decide +kernel), xtb 729 (by decide +kernel) (by decide +kernel), xtb 730 (by decide +kernel) (by decide +kernel), TX4, 11, rfl⟩)⟩
theorem xlk_6_44 : xlkOK 6 (44, 1, MX7_put) := ⟨mkX7_put, Or.inr (Or.inl ⟨rfl, List.mem_of_getElem? (i := 732) (by decide +kernel), xtb 406 (by decide +kernel) (by decide +kernel)⟩)⟩
theorem xlk_6_48 : xlkOK 6 (48, 2, MX6_orderAround) := ⟨mkX6_orderAround, Or.inr (Or.inr ⟨rfl, xtb 733 (by decide +kernel) (by decide +kernel), xtb 735 (by decide +kernel) (by decide +kernel), xtb 17 (by decide +kernel) (by decide +kernel), TX6, 8, rfl⟩)⟩
theorem xlk_6_52 : xlkOK 6 (52, 2, MX4_near) := ⟨mkX4_near, Or.inr (Or.inr ⟨rfl, xtb 740 (by decide +kernel) (by decide +kernel), xtb 662 (by decide +kernel) (by decide +kernel), xtb 663 (by decide +kernel) (by decide +kernel), TX4, 11, rfl⟩)⟩
theorem xlk_6_56 : xlkOK 6 (56, 1, MX7_has) := ⟨mkX7_has, Or.inr (Or.inl ⟨rfl, List.mem_of_getElem? (i := 739) (by decide +kernel), xtb 412 (by decide +kernel) (by decide +kernel)⟩)⟩
theorem xlk_6_60 : xlkOK 6 (60, 2, MX6_ofDart) := ⟨mkX6_ofDart, Or.inr (Or.inr ⟨rfl, xtb 749 (by decide +kernel) (by decide +kernel), xtb 750 (by decide +kernel) (by decide +kernel), xtb 751 (by decide +kernel) (by decide +kernel), TX6, 8, rfl⟩)⟩
theorem xlk_6_64 : xlkOK 6 (64, 2, MX6_follow) := ⟨mkX6_follow, Or.inr (Or.inr ⟨rfl, xtb 754 (by decide +kernel) (by decide +kernel), xtb 756 (by decide +kernel) (by decide +kernel), xtb 18 (by decide +kernel) (by decide +kernel), TX6, 8, rfl⟩)⟩
theorem xlk_6_68 : xlkOK 6 (68, 1, MX7_at) := ⟨mkX7_at, Or.inr (Or.inl ⟨rfl, List.mem_of_getElem? (i := 753) (by decide +kernel), xtb 409 (by decide +kernel) (by decide +kernel)⟩)⟩
theorem xlk_6_72 : xlkOK 6 (72, 1, MX7_cell) := ⟨mkX7_cell, Or.inr (Or.inl ⟨rfl, List.mem_of_getElem? (i := 742) (by decide +kernel), xtb 459 (by decide +kernel) (by decide +kernel)⟩)⟩
theorem xlk_6_75 : xlkOK 6 (75, 2, MX4_blocks) := ⟨mkX4_blocks, Or.inr (Or.inr ⟨rfl, xtb 737 (by decide +kernel) (by decide +kernel), xtb 674 (by decide +kernel) (by decide +kernel), xtb 675 (by decide +kernel) (by decide +kernel), TX4, 11, rfl⟩)⟩
theorem xlk_6_79 : xlkOK 6 (79, 2, MX4_verticesOf) := ⟨mkX4_verticesOf, Or.inr (Or.inr ⟨rfl, xtb 738 (by decide +kernel) (by decide +kernel), xtb 696 (by decide +kernel) (by decide +kernel), xtb 697 (by decide +kernel) (by decide +kernel), TX4, 11, rfl⟩)⟩
theorem xlk_6_82 : xlkOK 6 (82, 1, MX7_least) := ⟨mkX7_least, Or.inr (Or.inl ⟨rfl, List.mem_of_getElem? (i := 741) (by decide +kernel), xtb 450 (by decide +kernel) (by decide +kernel)⟩)⟩
theorem xlk_6_85 : xlkOK 6 (85, 1, MX7_bit) := ⟨mkX7_bit, Or.inr (Or.inl ⟨rfl, List.mem_of_getElem? (i := 743) (by decide +kernel), xtb 403 (by decide +kernel) (by decide +kernel)⟩)⟩
theorem xlk_6_88 : xlkOK 6 (88, 2, MX4_successor) := ⟨mkX4_successor, Or.inr (Or.inr ⟨rfl, xtb 744 (by decide +kernel) (by decide +kernel), xtb 745 (by decide +kernel) (by decide +kernel), xtb 746 (by decide +kernel) (by decide +kernel), TX4, 11, rfl⟩)⟩
theorem xlk_6_91 : xlkOK 6 (91, 2, MX6_behind) := ⟨mkX6_behind, Or.inr (Or.inr ⟨rfl, xtb 758 (by decide +kernel) (by decide +kernel), xtb 759 (by decide +kernel) (by decide +kernel), xtb 760 (by decide +kernel) (by decide +kernel), TX6, 8, rfl⟩)⟩
theorem xlk_6 : ∀ q ∈ xlnkL6, xlkOK 6 q := List.forall_mem_cons.mpr ⟨xlk_6_32, List.forall_mem_cons.mpr ⟨xlk_6_44, List.forall_mem_cons.mpr ⟨xlk_6_48, List.forall_mem_cons.mpr ⟨xlk_6_52, List.forall_mem_cons.mpr ⟨xlk_6_56, List.forall_mem_cons.mpr ⟨xlk_6_60, List.forall_mem_cons.mpr ⟨xlk_6_64, List.forall_mem_cons.mpr ⟨xlk_6_68, List.forall_mem_cons.mpr ⟨xlk_6_72, List.forall_mem_cons.mpr ⟨xlk_6_75, List.forall_mem_cons.mpr ⟨xlk_6_79, List.forall_mem_cons.mpr ⟨xlk_6_82, List.forall_mem_cons.mpr ⟨xlk_6_85, List.forall_mem_cons.mpr ⟨xlk_6_88, List.forall_mem_cons.mpr ⟨xlk_6_91, fun _ h => absurd h List.not_mem_nil⟩⟩⟩⟩⟩⟩⟩⟩⟩⟩⟩⟩⟩⟩⟩
theorem xlk_7_57 : xlkOK 7 (57, 0, MX7_isVertex) := ⟨mkX7_isVertex, Or.inl ⟨rfl, xtb 324 (by decide +kernel) (by decide +kernel), xtb 325 (by decide +kernel) (by decide +kernel)⟩⟩
theorem xlk_7_61 : xlkOK 7 (61, 2, MX5_joins) := ⟨mkX5_joins, Or.inr (Or.inr ⟨rfl, xtb 327 (by decide +kernel) (by decide +kernel), xtb 328 (by decide +kernel) (by decide +kernel), xtb 329 (by decide +kernel) (by decide +kernel), TX5, 3, rfl⟩)⟩
theorem xlk_7_65 : xlkOK 7 (65, 2, MX2_remember) := ⟨mkX2_remember, Or.inr (Or.inr ⟨rfl, xtb 340 (by decide +kernel) (by decide +kernel), xtb 341 (by decide +kernel) (by decide +kernel), xtb 342 (by decide +kernel) (by decide +kernel), TX2, 4, rfl⟩)⟩
theorem xlk_7_69 : xlkOK 7 (69, 2, MX5_flip) := ⟨mkX5_flip, Or.inr (Or.inr ⟨rfl, xtb 360 (by decide +kernel) (by decide +kernel), xtb 361 (by decide +kernel) (by decide +kernel), xtb 362 (by decide +kernel) (by decide +kernel), TX5, 3, rfl⟩)⟩
theorem xlk_7_73 : xlkOK 7 (73, 2, MX5_size) := ⟨mkX5_size, Or.inr (Or.inr ⟨rfl, xtb 365 (by decide +kernel) (by decide +kernel), xtb 366 (by decide +kernel) (by decide +kernel), xtb 367 (by decide +kernel) (by decide +kernel), TX5, 3, rfl⟩)⟩
theorem xlk_7_77 : xlkOK 7 (77, 2, MX5_removeAll) := ⟨mkX5_removeAll, Or.inr (Or.inr ⟨rfl, xtb 383 (by decide +kernel) (by decide +kernel), xtb 384 (by decide +kernel) (by decide +kernel), xtb 385 (by decide +kernel) (by decide +kernel), TX5, 3, rfl⟩)⟩
theorem xlk_7_80 : xlkOK 7 (80, 2, MX5_edges) := ⟨mkX5_edges, Or.inr (Or.inr ⟨rfl, xtb 392 (by decide +kernel) (by decide +kernel), xtb 349 (by decide +kernel) (by decide +kernel), xtb 350 (by decide +kernel) (by decide +kernel), TX5, 3, rfl⟩)⟩
theorem xlk_7_84 : xlkOK 7 (84, 2, MX4_read) := ⟨mkX4_read, Or.inr (Or.inr ⟨rfl, xtb 393 (by decide +kernel) (by decide +kernel), xtb 394 (by decide +kernel) (by decide +kernel), xtb 395 (by decide +kernel) (by decide +kernel), TX4, 11, rfl⟩)⟩
theorem xlk_7_88 : xlkOK 7 (88, 0, MX7_pairBit) := ⟨mkX7_pairBit, Or.inl ⟨rfl, xtb 506 (by decide +kernel) (by decide +kernel), xtb 332 (by decide +kernel) (by decide +kernel)⟩⟩
theorem xlk_7_92 : xlkOK 7 (92, 2, MX0_write) := ⟨mkX0_write, Or.inr (Or.inr ⟨rfl, xtb 511 (by decide +kernel) (by decide +kernel), xtb 512 (by decide +kernel) (by decide +kernel), xtb 513 (by decide +kernel) (by decide +kernel), TX0, 5, rfl⟩)⟩
theorem xlk_7_96 : xlkOK 7 (96, 2, MX0_length) := ⟨mkX0_length, Or.inr (Or.inr ⟨rfl, xtb 516 (by decide +kernel) (by decide +kernel), xtb 517 (by decide +kernel) (by decide +kernel), xtb 518 (by decide +kernel) (by decide +kernel), TX0, 5, rfl⟩)⟩
theorem xlk_7_99 : xlkOK 7 (99, 2, MX0_erase) := ⟨mkX0_erase, Or.inr (Or.inr ⟨rfl, xtb 524 (by decide +kernel) (by decide +kernel), xtb 525 (by decide +kernel) (by decide +kernel), xtb 526 (by decide +kernel) (by decide +kernel), TX0, 5, rfl⟩)⟩
theorem xlk_7_102 : xlkOK 7 (102, 2, MX0_scan) := ⟨mkX0_scan, Or.inr (Or.inr ⟨rfl, xtb 532 (by decide +kernel) (by decide +kernel), xtb 533 (by decide +kernel) (by decide +kernel), xtb 534 (by decide +kernel) (by decide +kernel), TX0, 5, rfl⟩)⟩
theorem xlk_7_105 : xlkOK 7 (105, 2, MX0_edits) := ⟨mkX0_edits, Or.inr (Or.inr ⟨rfl, xtb 610 (by decide +kernel) (by decide +kernel), xtb 611 (by decide +kernel) (by decide +kernel), xtb 612 (by decide +kernel) (by decide +kernel), TX0, 5, rfl⟩)⟩
theorem xlk_7_108 : xlkOK 7 (108, 2, MX0_kindOf) := ⟨mkX0_kindOf, Or.inr (Or.inr ⟨rfl, xtb 614 (by decide +kernel) (by decide +kernel), xtb 615 (by decide +kernel) (by decide +kernel), xtb 616 (by decide +kernel) (by decide +kernel), TX0, 5, rfl⟩)⟩
theorem xlk_7_112 : xlkOK 7 (112, 2, MX0_firstOf) := ⟨mkX0_firstOf, Or.inr (Or.inr ⟨rfl, xtb 618 (by decide +kernel) (by decide +kernel), xtb 619 (by decide +kernel) (by decide +kernel), xtb 620 (by decide +kernel) (by decide +kernel), TX0, 5, rfl⟩)⟩
theorem xlk_7_116 : xlkOK 7 (116, 2, MX0_secondOf) := ⟨mkX0_secondOf, Or.inr (Or.inr ⟨rfl, xtb 622 (by decide +kernel) (by decide +kernel), xtb 623 (by decide +kernel) (by decide +kernel), xtb 624 (by decide +kernel) (by decide +kernel), TX0, 5, rfl⟩)⟩
theorem xlk_7_119 : xlkOK 7 (119, 2, MX7_carryOut) := ⟨mkX7_carryOut, Or.inr (Or.inr ⟨rfl, xtb 626 (by decide +kernel) (by decide +kernel), xtb 628 (by decide +kernel) (by decide +kernel), xtb 15 (by decide +kernel) (by decide +kernel), TX7, 9, rfl⟩)⟩
theorem xlk_7_123 : xlkOK 7 (123, 2, MX2_giveBack) := ⟨mkX2_giveBack, Or.inr (Or.inr ⟨rfl, xtb 634 (by decide +kernel) (by decide +kernel), xtb 635 (by decide +kernel) (by decide +kernel), xtb 636 (by decide +kernel) (by decide +kernel), TX2, 4, rfl⟩)⟩
theorem xlk_7_127 : xlkOK 7 (127, 2, MX2_size) := ⟨mkX2_size, Or.inr (Or.inr ⟨rfl, xtb 642 (by decide +kernel) (by decide +kernel), xtb 643 (by decide +kernel) (by decide +kernel), xtb 644 (by decide +kernel) (by decide +kernel), TX2, 4, rfl⟩)⟩
theorem xlk_7_128 : xlkOK 7 (128, 2, MX5_added) := ⟨mkX5_added, Or.inr (Or.inr ⟨rfl, xtb 650 (by decide +kernel) (by decide +kernel), xtb 353 (by decide +kernel) (by decide +kernel), xtb 354 (by decide +kernel) (by decide +kernel), TX5, 3, rfl⟩)⟩
theorem xlk_7_131 : xlkOK 7 (131, 2, MX5_dropped) := ⟨mkX5_dropped, Or.inr (Or.inr ⟨rfl, xtb 651 (by decide +kernel) (by decide +kernel), xtb 357 (by decide +kernel) (by decide +kernel), xtb 358 (by decide +kernel) (by decide +kernel), TX5, 3, rfl⟩)⟩
theorem xlk_7_134 : xlkOK 7 (134, 2, MX5_become) := ⟨mkX5_become, Or.inr (Or.inr ⟨rfl, xtb 652 (by decide +kernel) (by decide +kernel), xtb 639 (by decide +kernel) (by decide +kernel), xtb 640 (by decide +kernel) (by decide +kernel), TX5, 3, rfl⟩)⟩
theorem xlk_7_142 : xlkOK 7 (142, 2, MX4_near) := ⟨mkX4_near, Or.inr (Or.inr ⟨rfl, xtb 661 (by decide +kernel) (by decide +kernel), xtb 662 (by decide +kernel) (by decide +kernel), xtb 663 (by decide +kernel) (by decide +kernel), TX4, 11, rfl⟩)⟩
theorem xlk_7_145 : xlkOK 7 (145, 2, MX4_components) := ⟨mkX4_components, Or.inr (Or.inr ⟨rfl, xtb 669 (by decide +kernel) (by decide +kernel), xtb 670 (by decide +kernel) (by decide +kernel), xtb 671 (by decide +kernel) (by decide +kernel), TX4, 11, rfl⟩)⟩
theorem xlk_7_148 : xlkOK 7 (148, 2, MX4_blocks) := ⟨mkX4_blocks, Or.inr (Or.inr ⟨rfl, xtb 673 (by decide +kernel) (by decide +kernel), xtb 674 (by decide +kernel) (by decide +kernel), xtb 675 (by decide +kernel) (by decide +kernel), TX4, 11, rfl⟩)⟩
theorem xlk_7_151 : xlkOK 7 (151, 2, MX4_cutVertices) := ⟨mkX4_cutVertices, Or.inr (Or.inr ⟨rfl, xtb 677 (by decide +kernel) (by decide +kernel), xtb 678 (by decide +kernel) (by decide +kernel), xtb 679 (by decide +kernel) (by decide +kernel), TX4, 11, rfl⟩)⟩
theorem xlk_7_154 : xlkOK 7 (154, 2, MX4_bridges) := ⟨mkX4_bridges, Or.inr (Or.inr ⟨rfl, xtb 682 (by decide +kernel) (by decide +kernel), xtb 683 (by decide +kernel) (by decide +kernel), xtb 684 (by decide +kernel) (by decide +kernel), TX4, 11, rfl⟩)⟩
theorem xlk_7_157 : xlkOK 7 (157, 2, MX4_blockOf) := ⟨mkX4_blockOf, Or.inr (Or.inr ⟨rfl, xtb 690 (by decide +kernel) (by decide +kernel), xtb 415 (by decide +kernel) (by decide +kernel), xtb 416 (by decide +kernel) (by decide +kernel), TX4, 11, rfl⟩)⟩
theorem xlk_7_161 : xlkOK 7 (161, 2, MX4_verticesOf) := ⟨mkX4_verticesOf, Or.inr (Or.inr ⟨rfl, xtb 695 (by decide +kernel) (by decide +kernel), xtb 696 (by decide +kernel) (by decide +kernel), xtb 697 (by decide +kernel) (by decide +kernel), TX4, 11, rfl⟩)⟩
theorem xlk_7_164 : xlkOK 7 (164, 2, MX4_edgesOf) := ⟨mkX4_edgesOf, Or.inr (Or.inr ⟨rfl, xtb 699 (by decide +kernel) (by decide +kernel), xtb 700 (by decide +kernel) (by decide +kernel), xtb 701 (by decide +kernel) (by decide +kernel), TX4, 11, rfl⟩)⟩
theorem xlk_7_167 : xlkOK 7 (167, 2, MX4_isPlanar) := ⟨mkX4_isPlanar, Or.inr (Or.inr ⟨rfl, xtb 703 (by decide +kernel) (by decide +kernel), xtb 499 (by decide +kernel) (by decide +kernel), xtb 500 (by decide +kernel) (by decide +kernel), TX4, 11, rfl⟩)⟩
theorem xlk_7_170 : xlkOK 7 (170, 2, MX4_facesOf) := ⟨mkX4_facesOf, Or.inr (Or.inr ⟨rfl, xtb 704 (by decide +kernel) (by decide +kernel), xtb 705 (by decide +kernel) (by decide +kernel), xtb 706 (by decide +kernel) (by decide +kernel), TX4, 11, rfl⟩)⟩
theorem xlk_7_173 : xlkOK 7 (173, 2, MX4_placedOf) := ⟨mkX4_placedOf, Or.inr (Or.inr ⟨rfl, xtb 708 (by decide +kernel) (by decide +kernel), xtb 709 (by decide +kernel) (by decide +kernel), xtb 710 (by decide +kernel) (by decide +kernel), TX4, 11, rfl⟩)⟩
theorem xlk_7_176 : xlkOK 7 (176, 2, MX7_traced) := ⟨mkX7_traced, Or.inr (Or.inr ⟨rfl, xtb 720 (by decide +kernel) (by decide +kernel), xtb 722 (by decide +kernel) (by decide +kernel), xtb 16 (by decide +kernel) (by decide +kernel), TX7, 9, rfl⟩)⟩
theorem xlk_7_180 : xlkOK 7 (180, 2, MX6_behind) := ⟨mkX6_behind, Or.inr (Or.inr ⟨rfl, xtb 762 (by decide +kernel) (by decide +kernel), xtb 759 (by decide +kernel) (by decide +kernel), xtb 760 (by decide +kernel) (by decide +kernel), TX6, 8, rfl⟩)⟩
theorem xlk_7_183 : xlkOK 7 (183, 2, MX6_size) := ⟨mkX6_size, Or.inr (Or.inr ⟨rfl, xtb 767 (by decide +kernel) (by decide +kernel), xtb 768 (by decide +kernel) (by decide +kernel), xtb 769 (by decide +kernel) (by decide +kernel), TX6, 8, rfl⟩)⟩
theorem xlk_7_184 : xlkOK 7 (184, 2, MX6_holds) := ⟨mkX6_holds, Or.inr (Or.inr ⟨rfl, xtb 775 (by decide +kernel) (by decide +kernel), xtb 776 (by decide +kernel) (by decide +kernel), xtb 777 (by decide +kernel) (by decide +kernel), TX6, 8, rfl⟩)⟩
theorem xlk_7_187 : xlkOK 7 (187, 2, MX6_lengthOf) := ⟨mkX6_lengthOf, Or.inr (Or.inr ⟨rfl, xtb 779 (by decide +kernel) (by decide +kernel), xtb 780 (by decide +kernel) (by decide +kernel), xtb 781 (by decide +kernel) (by decide +kernel), TX6, 8, rfl⟩)⟩
theorem xlk_7_190 : xlkOK 7 (190, 2, MX6_vertexOf) := ⟨mkX6_vertexOf, Or.inr (Or.inr ⟨rfl, xtb 787 (by decide +kernel) (by decide +kernel), xtb 788 (by decide +kernel) (by decide +kernel), xtb 789 (by decide +kernel) (by decide +kernel), TX6, 8, rfl⟩)⟩
theorem xlk_7_193 : xlkOK 7 (193, 2, MX6_ofDart) := ⟨mkX6_ofDart, Or.inr (Or.inr ⟨rfl, xtb 795 (by decide +kernel) (by decide +kernel), xtb 750 (by decide +kernel) (by decide +kernel), xtb 751 (by decide +kernel) (by decide +kernel), TX6, 8, rfl⟩)⟩
theorem xlk_7_196 : xlkOK 7 (196, 2, MX3_find) := ⟨mkX3_find, Or.inr (Or.inr ⟨rfl, xtb 800 (by decide +kernel) (by decide +kernel), xtb 801 (by decide +kernel) (by decide +kernel), xtb 802 (by decide +kernel) (by decide +kernel), TX3, 3, rfl⟩)⟩
theorem xlk_7_200 : xlkOK 7 (200, 2, MX3_size) := ⟨mkX3_size, Or.inr (Or.inr ⟨rfl, xtb 807 (by decide +kernel) (by decide +kernel), xtb 808 (by decide +kernel) (by decide +kernel), xtb 809 (by decide +kernel) (by decide +kernel), TX3, 3, rfl⟩)⟩
theorem xlk_7_201 : xlkOK 7 (201, 2, MX3_verticesInMoreThan) := ⟨mkX3_verticesInMoreThan, Or.inr (Or.inr ⟨rfl, xtb 812 (by decide +kernel) (by decide +kernel), xtb 813 (by decide +kernel) (by decide +kernel), xtb 814 (by decide +kernel) (by decide +kernel), TX3, 3, rfl⟩)⟩
theorem xlk_7_204 : xlkOK 7 (204, 0, MJ6_bitCount_0f7a4) := ⟨mkJ6_bitCount_0f7a4, Or.inl ⟨rfl, xtb 821 (by decide +kernel) (by decide +kernel), xtb 440 (by decide +kernel) (by decide +kernel)⟩⟩
theorem xlk_7_209 : xlkOK 7 (209, 2, MX3_holds) := ⟨mkX3_holds, Or.inr (Or.inr ⟨rfl, xtb 826 (by decide +kernel) (by decide +kernel), xtb 817 (by decide +kernel) (by decide +kernel), xtb 818 (by decide +kernel) (by decide +kernel), TX3, 3, rfl⟩)⟩
theorem xlk_7_211 : xlkOK 7 (211, 0, MX7_bit) := ⟨mkX7_bit, Or.inl ⟨rfl, xtb 835 (by decide +kernel) (by decide +kernel), xtb 403 (by decide +kernel) (by decide +kernel)⟩⟩
theorem xlk_7_216 : xlkOK 7 (216, 2, MX6_trace) := ⟨mkX6_trace, Or.inr (Or.inr ⟨rfl, xtb 724 (by decide +kernel) (by decide +kernel), xtb 725 (by decide +kernel) (by decide +kernel), xtb 726 (by decide +kernel) (by decide +kernel), TX6, 8, rfl⟩)⟩
theorem xlk_7_228 : xlkOK 7 (228, 0, MX7_around) := ⟨mkX7_around, Or.inl ⟨rfl, xtb 425 (by decide +kernel) (by decide +kernel), xtb 426 (by decide +kernel) (by decide +kernel)⟩⟩
theorem xlk_7 : ∀ q ∈ xlnkL7, xlkOK 7 q := List.forall_mem_cons.mpr ⟨xlk_7_57, List.forall_mem_cons.mpr ⟨xlk_7_61, List.forall_mem_cons.mpr ⟨xlk_7_65, List.forall_mem_cons.mpr ⟨xlk_7_69, List.forall_mem_cons.mpr ⟨xlk_7_73, List.forall_mem_cons.mpr ⟨xlk_7_77, List.forall_mem_cons.mpr ⟨xlk_7_80, List.forall_mem_cons.mpr ⟨xlk_7_84, List.forall_mem_cons.mpr ⟨xlk_7_88, List.forall_mem_cons.mpr ⟨xlk_7_92, List.forall_mem_cons.mpr ⟨xlk_7_96, List.forall_mem_cons.mpr ⟨xlk_7_99, List.forall_mem_cons.mpr ⟨xlk_7_102, List.forall_mem_cons.mpr ⟨xlk_7_105, List.forall_mem_cons.mpr ⟨xlk_7_108, List.forall_mem_cons.mpr ⟨xlk_7_112, List.forall_mem_cons.mpr ⟨xlk_7_116, List.forall_mem_cons.mpr ⟨xlk_7_119, List.forall_mem_cons.mpr ⟨xlk_7_123, List.forall_mem_cons.mpr ⟨xlk_7_127, List.forall_mem_cons.mpr ⟨xlk_7_128, List.forall_mem_cons.mpr ⟨xlk_7_131, List.forall_mem_cons.mpr ⟨xlk_7_134, List.forall_mem_cons.mpr ⟨xlk_7_142, List.forall_mem_cons.mpr ⟨xlk_7_145, List.forall_mem_cons.mpr ⟨xlk_7_148, List.forall_mem_cons.mpr ⟨xlk_7_151, List.forall_mem_cons.mpr ⟨xlk_7_154, List.forall_mem_cons.mpr ⟨xlk_7_157, List.forall_mem_cons.mpr ⟨xlk_7_161, List.forall_mem_cons.mpr ⟨xlk_7_164, List.forall_mem_cons.mpr ⟨xlk_7_167, List.forall_mem_cons.mpr ⟨xlk_7_170, List.forall_mem_cons.mpr ⟨xlk_7_173, List.forall_mem_cons.mpr ⟨xlk_7_176, List.forall_mem_cons.mpr ⟨xlk_7_180, List.forall_mem_cons.mpr ⟨xlk_7_183, List.forall_mem_cons.mpr ⟨xlk_7_184, List.forall_mem_cons.mpr ⟨xlk_7_187, List.forall_mem_cons.mpr ⟨xlk_7_190, List.forall_mem_cons.mpr ⟨xlk_7_193, List.forall_mem_cons.mpr ⟨xlk_7_196, List.forall_mem_cons.mpr ⟨xlk_7_200, List.forall_mem_cons.mpr ⟨xlk_7_201, List.forall_mem_cons.mpr ⟨xlk_7_204, List.forall_mem_cons.mpr ⟨xlk_7_209, List.forall_mem_cons.mpr ⟨xlk_7_211, List.forall_mem_cons.mpr ⟨xlk_7_216, List.forall_mem_cons.mpr ⟨xlk_7_228, fun _ h => absurd h List.not_mem_nil⟩⟩⟩⟩⟩⟩⟩⟩⟩⟩⟩⟩⟩⟩⟩⟩⟩⟩⟩⟩⟩⟩⟩⟩⟩⟩⟩⟩⟩⟩⟩⟩⟩⟩⟩⟩⟩⟩⟩⟩⟩⟩⟩⟩⟩⟩⟩⟩⟩
theorem xlk_8_74 : xlkOK 8 (74, 0, MX8_within) := ⟨mkX8_within, Or.inl ⟨rfl, xtb 983 (by decide +kernel) (by decide +kernel), xtb 984 (by decide +kernel) (by decide +kernel)⟩⟩
theorem xlk_8_78 : xlkOK 8 (78, 0, MX8_isVertex) := ⟨mkX8_isVertex, Or.inl ⟨rfl, xtb 980 (by decide +kernel) (by decide +kernel), xtb 981 (by decide +kernel) (by decide +kernel)⟩⟩
theorem xlk_8_82 : xlkOK 8 (82, 0, MX8_ones) := ⟨mkX8_ones, Or.inl ⟨rfl, xtb 965 (by decide +kernel) (by decide +kernel), xtb 966 (by decide +kernel) (by decide +kernel)⟩⟩
theorem xlk_8_90 : xlkOK 8 (90, 2, MX8_edges) := ⟨mkX8_edges, Or.inr (Or.inr ⟨rfl, xtb 961 (by decide +kernel) (by decide +kernel), xtb 963 (by decide +kernel) (by decide +kernel), xtb 19 (by decide +kernel) (by decide +kernel), TX8, 35, rfl⟩)⟩
theorem xlk_8_94 : xlkOK 8 (94, 2, MX8_record) := ⟨mkX8_record, Or.inr (Or.inr ⟨rfl, xtb 972 (by decide +kernel) (by decide +kernel), xtb 974 (by decide +kernel) (by decide +kernel), xtb 20 (by decide +kernel) (by decide +kernel), TX8, 35, rfl⟩)⟩
theorem xlk_8_97 : xlkOK 8 (97, 2, MX8_joined) := ⟨mkX8_joined, Or.inr (Or.inr ⟨rfl, xtb 1029 (by decide +kernel) (by decide +kernel), xtb 1031 (by decide +kernel) (by decide +kernel), xtb 28 (by decide +kernel) (by decide +kernel), TX8, 35, rfl⟩)⟩
theorem xlk_8_101 : xlkOK 8 (101, 0, MX8_pair) := ⟨mkX8_pair, Or.inl ⟨rfl, xtb 1022 (by decide +kernel) (by decide +kernel), xtb 1023 (by decide +kernel) (by decide +kernel)⟩⟩
theorem xlk_8_105 : xlkOK 8 (105, 2, MX8_joinBlocks) := ⟨mkX8_joinBlocks, Or.inr (Or.inr ⟨rfl, xtb 1033 (by decide +kernel) (by decide +kernel), xtb 1035 (by decide +kernel) (by decide +kernel), xtb 29 (by decide +kernel) (by decide +kernel), TX8, 35, rfl⟩)⟩
theorem xlk_8_109 : xlkOK 8 (109, 2, MX8_joinAround) := ⟨mkX8_joinAround, Or.inr (Or.inr ⟨rfl, xtb 1025 (by decide +kernel) (by decide +kernel), xtb 1027 (by decide +kernel) (by decide +kernel), xtb 27 (by decide +kernel) (by decide +kernel), TX8, 35, rfl⟩)⟩
theorem xlk_8_116 : xlkOK 8 (116, 2, MX8_isInBlock) := ⟨mkX8_isInBlock, Or.inr (Or.inr ⟨rfl, xtb 1045 (by decide +kernel) (by decide +kernel), xtb 1047 (by decide +kernel) (by decide +kernel), xtb 32 (by decide +kernel) (by decide +kernel), TX8, 35, rfl⟩)⟩
theorem xlk_8_125 : xlkOK 8 (125, 0, MX8_lowest) := ⟨mkX8_lowest, Or.inl ⟨rfl, xtb 1049 (by decide +kernel) (by decide +kernel), xtb 1050 (by decide +kernel) (by decide +kernel)⟩⟩
theorem xlk_8_128 : xlkOK 8 (128, 2, MX8_layDistances) := ⟨mkX8_layDistances, Or.inr (Or.inr ⟨rfl, xtb 1056 (by decide +kernel) (by decide +kernel), xtb 1058 (by decide +kernel) (by decide +kernel), xtb 34 (by decide +kernel) (by decide +kernel), TX8, 35, rfl⟩)⟩
theorem xlk_8_131 : xlkOK 8 (131, 2, MX8_addToFace) := ⟨mkX8_addToFace, Or.inr (Or.inr ⟨rfl, xtb 1060 (by decide +kernel) (by decide +kernel), xtb 1062 (by decide +kernel) (by decide +kernel), xtb 35 (by decide +kernel) (by decide +kernel), TX8, 35, rfl⟩)⟩
theorem xlk_8_134 : xlkOK 8 (134, 2, MX8_lowestAt) := ⟨mkX8_lowestAt, Or.inr (Or.inr ⟨rfl, xtb 1064 (by decide +kernel) (by decide +kernel), xtb 1066 (by decide +kernel) (by decide +kernel), xtb 36 (by decide +kernel) (by decide +kernel), TX8, 35, rfl⟩)⟩
theorem xlk_8_137 : xlkOK 8 (137, 2, MX8_placeEdge) := ⟨mkX8_placeEdge, Or.inr (Or.inr ⟨rfl, xtb 1068 (by decide +kernel) (by decide +kernel), xtb 1070 (by decide +kernel) (by decide +kernel), xtb 37 (by decide +kernel) (by decide +kernel), TX8, 35, rfl⟩)⟩
theorem xlk_8_146 : xlkOK 8 (146, 2, MX8_addFragment) := ⟨mkX8_addFragment, Or.inr (Or.inr ⟨rfl, xtb 1076 (by decide +kernel) (by decide +kernel), xtb 1078 (by decide +kernel) (by decide +kernel), xtb 39 (by decide +kernel) (by decide +kernel), TX8, 35, rfl⟩)⟩
theorem xlk_8_149 : xlkOK 8 (149, 2, MX8_isFragment) := ⟨mkX8_isFragment, Or.inr (Or.inr ⟨rfl, xtb 1080 (by decide +kernel) (by decide +kernel), xtb 1082 (by decide +kernel) (by decide +kernel), xtb 40 (by decide +kernel) (by decide +kernel), TX8, 35, rfl⟩)⟩
theorem xlk_8_152 : xlkOK 8 (152, 2, MX8_contactsOf) := ⟨mkX8_contactsOf, Or.inr (Or.inr ⟨rfl, xtb 1084 (by decide +kernel) (by decide +kernel), xtb 1086 (by decide +kernel) (by decide +kernel), xtb 41 (by decide +kernel) (by decide +kernel), TX8, 35, rfl⟩)⟩
theorem xlk_8_155 : xlkOK 8 (155, 2, MX8_isOnFace) := ⟨mkX8_isOnFace, Or.inr (Or.inr ⟨rfl, xtb 1096 (by decide +kernel) (by decide +kernel), xtb 1098 (by decide +kernel) (by decide +kernel), xtb 44 (by decide +kernel) (by decide +kernel), TX8, 35, rfl⟩)⟩
theorem xlk_8_159 : xlkOK 8 (159, 2, MX8_fitting) := ⟨mkX8_fitting, Or.inr (Or.inr ⟨rfl, xtb 1092 (by decide +kernel) (by decide +kernel), xtb 1094 (by decide +kernel) (by decide +kernel), xtb 43 (by decide +kernel) (by decide +kernel), TX8, 35, rfl⟩)⟩
theorem xlk_8_168 : xlkOK 8 (168, 2, MX8_addToPath) := ⟨mkX8_addToPath, Or.inr (Or.inr ⟨rfl, xtb 1104 (by decide +kernel) (by decide +kernel), xtb 1106 (by decide +kernel) (by decide +kernel), xtb 46 (by decide +kernel) (by decide +kernel), TX8, 35, rfl⟩)⟩
theorem xlk_8_171 : xlkOK 8 (171, 2, MX8_neighborsIn) := ⟨mkX8_neighborsIn, Or.inr (Or.inr ⟨rfl, xtb 1041 (by decide +kernel) (by decide +kernel), xtb 1043 (by decide +kernel) (by decide +kernel), xtb 31 (by decide +kernel) (by decide +kernel), TX8, 35, rfl⟩)⟩
theorem xlk_8_174 : xlkOK 8 (174, 2, MX8_placeCycle) := ⟨mkX8_placeCycle, Or.inr (Or.inr ⟨rfl, xtb 1052 (by decide +kernel) (by decide +kernel), xtb 1054 (by decide +kernel) (by decide +kernel), xtb 33 (by decide +kernel) (by decide +kernel), TX8, 35, rfl⟩)⟩
theorem xlk_8_177 : xlkOK 8 (177, 2, MX8_findFragments) := ⟨mkX8_findFragments, Or.inr (Or.inr ⟨rfl, xtb 1072 (by decide +kernel) (by decide +kernel), xtb 1074 (by decide +kernel) (by decide +kernel), xtb 38 (by decide +kernel) (by decide +kernel), TX8, 35, rfl⟩)⟩
theorem xlk_8_180 : xlkOK 8 (180, 2, MX8_chooseFragment) := ⟨mkX8_chooseFragment, Or.inr (Or.inr ⟨rfl, xtb 1088 (by decide +kernel) (by decide +kernel), xtb 1090 (by decide +kernel) (by decide +kernel), xtb 42 (by decide +kernel) (by decide +kernel), TX8, 35, rfl⟩)⟩
theorem xlk_8_183 : xlkOK 8 (183, 2, MX8_layPath) := ⟨mkX8_layPath, Or.inr (Or.inr ⟨rfl, xtb 1100 (by decide +kernel) (by decide +kernel), xtb 1102 (by decide +kernel) (by decide +kernel), xtb 45 (by decide +kernel) (by decide +kernel), TX8, 35, rfl⟩)⟩
theorem xlk_8_186 : xlkOK 8 (186, 2, MX8_placePath) := ⟨mkX8_placePath, Or.inr (Or.inr ⟨rfl, xtb 1108 (by decide +kernel) (by decide +kernel), xtb 1110 (by decide +kernel) (by decide +kernel), xtb 47 (by decide +kernel) (by decide +kernel), TX8, 35, rfl⟩)⟩
theorem xlk_8_189 : xlkOK 8 (189, 2, MX8_laySuccessors) := ⟨mkX8_laySuccessors, Or.inr (Or.inr ⟨rfl, xtb 1112 (by decide +kernel) (by decide +kernel), xtb 1114 (by decide +kernel) (by decide +kernel), xtb 48 (by decide +kernel) (by decide +kernel), TX8, 35, rfl⟩)⟩
theorem xlk_8_192 : xlkOK 8 (192, 2, MX8_findBlocks) := ⟨mkX8_findBlocks, Or.inr (Or.inr ⟨rfl, xtb 1018 (by decide +kernel) (by decide +kernel), xtb 1020 (by decide +kernel) (by decide +kernel), xtb 26 (by decide +kernel) (by decide +kernel), TX8, 35, rfl⟩)⟩
theorem xlk_8_195 : xlkOK 8 (195, 2, MX8_embed) := ⟨mkX8_embed, Or.inr (Or.inr ⟨rfl, xtb 1037 (by decide +kernel) (by decide +kernel), xtb 1039 (by decide +kernel) (by decide +kernel), xtb 30 (by decide +kernel) (by decide +kernel), TX8, 35, rfl⟩)⟩
theorem xlk_8_198 : xlkOK 8 (198, 2, MX8_takeGraph) := ⟨mkX8_takeGraph, Or.inr (Or.inr ⟨rfl, xtb 1010 (by decide +kernel) (by decide +kernel), xtb 1012 (by decide +kernel) (by decide +kernel), xtb 24 (by decide +kernel) (by decide +kernel), TX8, 35, rfl⟩)⟩
theorem xlk_8_201 : xlkOK 8 (201, 2, MX8_isPlanar) := ⟨mkX8_isPlanar, Or.inr (Or.inr ⟨rfl, xtb 1014 (by decide +kernel) (by decide +kernel), xtb 1016 (by decide +kernel) (by decide +kernel), xtb 25 (by decide +kernel) (by decide +kernel), TX8, 35, rfl⟩)⟩
theorem xlk_8_205 : xlkOK 8 (205, 2, MX8_flipInGraph) := ⟨mkX8_flipInGraph, Or.inr (Or.inr ⟨rfl, xtb 1120 (by decide +kernel) (by decide +kernel), xtb 1122 (by decide +kernel) (by decide +kernel), xtb 50 (by decide +kernel) (by decide +kernel), TX8, 35, rfl⟩)⟩
theorem xlk_8_208 : xlkOK 8 (208, 2, MX8_isEdge) := ⟨mkX8_isEdge, Or.inr (Or.inr ⟨rfl, xtb 986 (by decide +kernel) (by decide +kernel), xtb 988 (by decide +kernel) (by decide +kernel), xtb 21 (by decide +kernel) (by decide +kernel), TX8, 35, rfl⟩)⟩
theorem xlk_8_211 : xlkOK 8 (211, 2, MX8_flip) := ⟨mkX8_flip, Or.inr (Or.inr ⟨rfl, xtb 990 (by decide +kernel) (by decide +kernel), xtb 992 (by decide +kernel) (by decide +kernel), xtb 22 (by decide +kernel) (by decide +kernel), TX8, 35, rfl⟩)⟩
theorem xlk_8_214 : xlkOK 8 (214, 2, MX8_isPlanarNow) := ⟨mkX8_isPlanarNow, Or.inr (Or.inr ⟨rfl, xtb 1006 (by decide +kernel) (by decide +kernel), xtb 1008 (by decide +kernel) (by decide +kernel), xtb 23 (by decide +kernel) (by decide +kernel), TX8, 35, rfl⟩)⟩
theorem xlk_8_217 : xlkOK 8 (217, 2, MX8_isPlanarIfFlipped) := ⟨mkX8_isPlanarIfFlipped, Or.inr (Or.inr ⟨rfl, xtb 1116 (by decide +kernel) (by decide +kernel), xtb 1118 (by decide +kernel) (by decide +kernel), xtb 49 (by decide +kernel) (by decide +kernel), TX8, 35, rfl⟩)⟩
theorem xlk_8_226 : xlkOK 8 (226, 2, MX8_nextCharacter) := ⟨mkX8_nextCharacter, Or.inr (Or.inr ⟨rfl, xtb 1148 (by decide +kernel) (by decide +kernel), xtb 1150 (by decide +kernel) (by decide +kernel), xtb 54 (by decide +kernel) (by decide +kernel), TX8, 35, rfl⟩)⟩
theorem xlk_8_232 : xlkOK 8 (232, 2, MX8_takes) := ⟨mkX8_takes, Or.inr (Or.inr ⟨rfl, xtb 1152 (by decide +kernel) (by decide +kernel), xtb 1154 (by decide +kernel) (by decide +kernel), xtb 55 (by decide +kernel) (by decide +kernel), TX8, 35, rfl⟩)⟩
theorem xlk_8_235 : xlkOK 8 (235, 2, MX8_readsWord) := ⟨mkX8_readsWord, Or.inr (Or.inr ⟨rfl, xtb 1144 (by decide +kernel) (by decide +kernel), xtb 1146 (by decide +kernel) (by decide +kernel), xtb 53 (by decide +kernel) (by decide +kernel), TX8, 35, rfl⟩)⟩
theorem xlk_8_244 : xlkOK 8 (244, 2, MX8_readsEdit) := ⟨mkX8_readsEdit, Or.inr (Or.inr ⟨rfl, xtb 1140 (by decide +kernel) (by decide +kernel), xtb 1142 (by decide +kernel) (by decide +kernel), xtb 52 (by decide +kernel) (by decide +kernel), TX8, 35, rfl⟩)⟩
theorem xlk_8_247 : xlkOK 8 (247, 2, MX8_findFault) := ⟨mkX8_findFault, Or.inr (Or.inr ⟨rfl, xtb 1136 (by decide +kernel) (by decide +kernel), xtb 1138 (by decide +kernel) (by decide +kernel), xtb 51 (by decide +kernel) (by decide +kernel), TX8, 35, rfl⟩)⟩
theorem xlk_8_250 : xlkOK 8 (250, 2, MX8_blocksNow) := ⟨mkX8_blocksNow, Or.inr (Or.inr ⟨rfl, xtb 1172 (by decide +kernel) (by decide +kernel), xtb 1174 (by decide +kernel) (by decide +kernel), xtb 57 (by decide +kernel) (by decide +kernel), TX8, 35, rfl⟩)⟩
theorem xlk_8_253 : xlkOK 8 (253, 2, MX8_edgesOf) := ⟨mkX8_edgesOf, Or.inr (Or.inr ⟨rfl, xtb 1184 (by decide +kernel) (by decide +kernel), xtb 1186 (by decide +kernel) (by decide +kernel), xtb 60 (by decide +kernel) (by decide +kernel), TX8, 35, rfl⟩)⟩
theorem xlk_8_256 : xlkOK 8 (256, 2, MX8_components) := ⟨mkX8_components, Or.inr (Or.inr ⟨rfl, xtb 1168 (by decide +kernel) (by decide +kernel), xtb 1170 (by decide +kernel) (by decide +kernel), xtb 56 (by decide +kernel) (by decide +kernel), TX8, 35, rfl⟩)⟩
theorem xlk_8_259 : xlkOK 8 (259, 2, MX8_cutVertices) := ⟨mkX8_cutVertices, Or.inr (Or.inr ⟨rfl, xtb 1176 (by decide +kernel) (by decide +kernel), xtb 1178 (by decide +kernel) (by decide +kernel), xtb 58 (by decide +kernel) (by decide +kernel), TX8, 35, rfl⟩)⟩
theorem xlk_8_262 : xlkOK 8 (262, 2, MX8_bridges) := ⟨mkX8_bridges, Or.inr (Or.inr ⟨rfl, xtb 1180 (by decide +kernel) (by decide +kernel), xtb 1182 (by decide +kernel) (by decide +kernel), xtb 59 (by decide +kernel) (by decide +kernel), TX8, 35, rfl⟩)⟩
theorem xlk_8_265 : xlkOK 8 (265, 2, MX8_verticesOf) := ⟨mkX8_verticesOf, Or.inr (Or.inr ⟨rfl, xtb 1196 (by decide +kernel) (by decide +kernel), xtb 1198 (by decide +kernel) (by decide +kernel), xtb 61 (by decide +kernel) (by decide +kernel), TX8, 35, rfl⟩)⟩
theorem xlk_8_268 : xlkOK 8 (268, 2, MX8_behind) := ⟨mkX8_behind, Or.inr (Or.inr ⟨rfl, xtb 1208 (by decide +kernel) (by decide +kernel), xtb 1210 (by decide +kernel) (by decide +kernel), xtb 62 (by decide +kernel) (by decide +kernel), TX8, 35, rfl⟩)⟩
theorem xlk_8_274 : xlkOK 8 (274, 2, MX8_findWalks) := ⟨mkX8_findWalks, Or.inr (Or.inr ⟨rfl, xtb 1216 (by decide +kernel) (by decide +kernel), xtb 1218 (by decide +kernel) (by decide +kernel), xtb 63 (by decide +kernel) (by decide +kernel), TX8, 35, rfl⟩)⟩
theorem xlk_8_277 : xlkOK 8 (277, 2, MX8_lengthOf) := ⟨mkX8_lengthOf, Or.inr (Or.inr ⟨rfl, xtb 1224 (by decide +kernel) (by decide +kernel), xtb 1226 (by decide +kernel) (by decide +kernel), xtb 64 (by decide +kernel) (by decide +kernel), TX8, 35, rfl⟩)⟩
theorem xlk_8_280 : xlkOK 8 (280, 2, MX8_findForbidden) := ⟨mkX8_findForbidden, Or.inr (Or.inr ⟨rfl, xtb 1240 (by decide +kernel) (by decide +kernel), xtb 1242 (by decide +kernel) (by decide +kernel), xtb 65 (by decide +kernel) (by decide +kernel), TX8, 35, rfl⟩)⟩
theorem xlk_8 : ∀ q ∈ xlnkL8, xlkOK 8 q := List.forall_mem_cons.mpr ⟨xlk_8_74, List.forall_mem_cons.mpr ⟨xlk_8_78, List.forall_mem_cons.mpr ⟨xlk_8_82, List.forall_mem_cons.mpr ⟨xlk_8_90, List.forall_mem_cons.mpr ⟨xlk_8_94, List.forall_mem_cons.mpr ⟨xlk_8_97, List.forall_mem_cons.mpr ⟨xlk_8_101, List.forall_mem_cons.mpr ⟨xlk_8_105, List.forall_mem_cons.mpr ⟨xlk_8_109, List.forall_mem_cons.mpr ⟨xlk_8_116, List.forall_mem_cons.mpr ⟨xlk_8_125, List.forall_mem_cons.mpr ⟨xlk_8_128, List.forall_mem_cons.mpr ⟨xlk_8_131, List.forall_mem_cons.mpr ⟨xlk_8_134, List.forall_mem_cons.mpr ⟨xlk_8_137, List.forall_mem_cons.mpr ⟨xlk_8_146, List.forall_mem_cons.mpr ⟨xlk_8_149, List.forall_mem_cons.mpr ⟨xlk_8_152, List.forall_mem_cons.mpr ⟨xlk_8_155, List.forall_mem_cons.mpr ⟨xlk_8_159, List.forall_mem_cons.mpr ⟨xlk_8_168, List.forall_mem_cons.mpr ⟨xlk_8_171, List.forall_mem_cons.mpr ⟨xlk_8_174, List.forall_mem_cons.mpr ⟨xlk_8_177, List.forall_mem_cons.mpr ⟨xlk_8_180, List.forall_mem_cons.mpr ⟨xlk_8_183, List.forall_mem_cons.mpr ⟨xlk_8_186, List.forall_mem_cons.mpr ⟨xlk_8_189, List.forall_mem_cons.mpr ⟨xlk_8_192, List.forall_mem_cons.mpr ⟨xlk_8_195, List.forall_mem_cons.mpr ⟨xlk_8_198, List.forall_mem_cons.mpr ⟨xlk_8_201, List.forall_mem_cons.mpr ⟨xlk_8_205, List.forall_mem_cons.mpr ⟨xlk_8_208, List.forall_mem_cons.mpr ⟨xlk_8_211, List.forall_mem_cons.mpr ⟨xlk_8_214, List.forall_mem_cons.mpr ⟨xlk_8_217, List.forall_mem_cons.mpr ⟨xlk_8_226, List.forall_mem_cons.mpr ⟨xlk_8_232, List.forall_mem_cons.mpr ⟨xlk_8_235, List.forall_mem_cons.mpr ⟨xlk_8_244, List.forall_mem_cons.mpr ⟨xlk_8_247, List.forall_mem_cons.mpr ⟨xlk_8_250, List.forall_mem_cons.mpr ⟨xlk_8_253, List.forall_mem_cons.mpr ⟨xlk_8_256, List.forall_mem_cons.mpr ⟨xlk_8_259, List.forall_mem_cons.mpr ⟨xlk_8_262, List.forall_mem_cons.mpr ⟨xlk_8_265, List.forall_mem_cons.mpr ⟨xlk_8_268, List.forall_mem_cons.mpr ⟨xlk_8_274, List.forall_mem_cons.mpr ⟨xlk_8_277, List.forall_mem_cons.mpr ⟨xlk_8_280, fun _ h => absurd h List.not_mem_nil⟩⟩⟩⟩⟩⟩⟩⟩⟩⟩⟩⟩⟩⟩⟩⟩⟩⟩⟩⟩⟩⟩⟩⟩⟩⟩⟩⟩⟩⟩⟩⟩⟩⟩⟩⟩⟩⟩⟩⟩⟩⟩⟩⟩⟩⟩⟩⟩⟩⟩⟩⟩
theorem xlnk_ok {c idx : Nat} {v : Nat × xMI} (h : xlnk c idx = some v) : xlkOK c (idx, v) := by
  unfold xlnk at h
  split at h
  · exact xlk_0 _ (xfind_mem h)
  · exact xlk_1 _ (xfind_mem h)
  · exact xlk_2 _ (xfind_mem h)
  · exact xlk_3 _ (xfind_mem h)
  · exact xlk_4 _ (xfind_mem h)
  · exact xlk_5 _ (xfind_mem h)
  · exact xlk_6 _ (xfind_mem h)
  · exact xlk_7 _ (xfind_mem h)
  · exact xlk_8 _ (xfind_mem h)
  · cases h
