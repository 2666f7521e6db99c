/-! the law's own method, as far as its objects are made -/
def ML_law : xMI := (x, code, 12, ret, 9, (11, 468), 1, [(17, .aload_n 1, 1), (18, .iconst 0, 1), (19, .iconst 1, 1), (20, .aload_n 2, 1), (21, .aload_n 3, 1), (22, .invokestatic 90, 3), (25, .ifCond .ne 5, 30), (28, .iconst 0, 1), (29, .ireturn, 1), (30, .bipush 8, 2), (32, .aload_n 0, 1), (33, .iconst 0, 1), (34, .invokestatic 94, 3), (37, .bipush 24, 2), (39, .invokestatic 72, 3), (42, .iadd, 1), (43, .istore 4, 2), (45, .iconst 0, 1), (46, .istore 5, 2), (48, .iload 5, 2), (50, .bipush 44, 2), (52, .if_icmp .ge 305, 357), (55, .aload_n 0, 1), (56, .iconst 1, 1), (57, .iload 5, 2), (59, .iadd, 1), (60, .invokestatic 94, 3), (63, .istore 6, 2), (65, .iload 6, 2), (67, .bipush 10, 2), (69, .invokestatic 72, 3), (72, .istore 7, 2), (74, .iload 6, 2), (76, .iconst 4, 1), (77, .ishr, 1), (78, .bipush 10, 2), (80, .invokestatic 72, 3), (83, .istore 8, 2), (85, .iload 5, 2), (87, .iload 4, 2), (89, .if_icmp .ge 7, 96), (92, .iconst 0, 1), (93, .goto 13, 106), (96, .iload 6, 2), (98, .bipush 8, 2), (100, .ishr, 1), (101, .bipush 8, 2), (103, .invokestatic 72, 3), (106, .istore 9, 2), (108, .aload_n 2, 1), (109, .iload 7, 2), (111, .iaload, 1), (112, .iload 8, 2), (114, .ishr, 1), (115, .iconst 1, 1), (116, .iand, 1), (117, .iconst 1, 1), (118, .if_icmp .ne 7, 125), (121, .iconst 1, 1), (122, .goto 4, 126), (125, .iconst 0, 1), (126, .istore 10, 2), (128, .iload 9, 2), (130, .iconst 5, 1), (131, .if_icmp .ge 107, 238), (134, .iload 7, 2), (136, .iload 8, 2), (138, .if_icmp .ne 8, 146), (141, .bipush (-2), 2), (143, .goto 19, 162), (146, .iload 10, 2), (148, .ifCond .eq 8, 156), (151, .bipush (-4), 2), (153, .goto 9, 162), (156, .aload_n 2, 1), (157, .invokestatic 16, 3), (160, .iconst 1, 1), (161, .iadd, 1), (162, .istore 11, 2), (164, .aload_n 1, 1), (165, .iload 7, 2), (167, .iload 8, 2), (169, .invokevirtual 98, 3), (172, .iload 11, 2), (174, .if_icmp .eq 5, 179), (177, .iconst 0, 1), (178, .ireturn, 1), (179, .aload_n 2, 1), (180, .iload 7, 2), (182, .dup2, 1), (183, .iaload, 1), (184, .iload 11, 2), (186, .ifCond .le 10, 196), (189, .iconst 1, 1), (190, .iload 8, 2), (192, .ishl, 1), (193, .goto 4, 197), (196, .iconst 0, 1), (197, .ior, 1), (198, .iastore, 1), (199, .aload_n 2, 1), (200, .iload 8, 2), (202, .dup2, 1), (203, .iaload, 1), (204, .iload 11, 2), (206, .ifCond .le 10, 216), (209, .iconst 1, 1), (210, .iload 7, 2), (212, .ishl, 1), (213, .goto 4, 217), (216, .iconst 0, 1), (217, .ior, 1), (218, .iastore, 1), (219, .aload_n 3, 1), (220, .iconst 0, 1), (221, .dup2, 1), (222, .iaload, 1), (223, .iload 11, 2), (225, .ifCond .le 7, 232), (228, .iconst 1, 1), (229, .goto 4, 233), (232, .iconst 0, 1), (233, .iadd, 1), (234, .iastore, 1), (235, .goto 73, 308), (238, .aload_n 1, 1), (239, .iload 7, 2), (241, .iload 8, 2), (243, .invokevirtual 101, 3), (246, .iload 10, 2), (248, .ifCond .eq 12, 260), (251, .aload_n 2, 1), (252, .invokestatic 16, 3), (255, .iconst 1, 1), (256, .isub, 1), (257, .goto 4, 261), (260, .iconst (-1), 1), (261, .if_icmp .eq 5, 266), (264, .iconst 0, 1), (265, .ireturn, 1), (266, .aload_n 2, 1), (267, .iload 7, 2), (269, .dup2, 1), (270, .iaload, 1), (271, .iconst 1, 1), (272, .iload 8, 2), (274, .ishl, 1), (275, .iconst (-1), 1), (276, .ixor, 1), (277, .iand, 1), (278, .iastore, 1), (279, .aload_n 2, 1), (280, .iload 8, 2), (282, .dup2, 1), (283, .iaload, 1), (284, .iconst 1, 1), (285, .iload 7, 2), (287, .ishl, 1), (288, .iconst (-1), 1), (289, .ixor, 1), (290, .iand, 1), (291, .iastore, 1), (292, .aload_n 3, 1), (293, .iconst 1, 1), (294, .dup2, 1), (295, .iaload, 1), (296, .iload 10, 2), (298, .ifCond .eq 7, 305), (301, .iconst 1, 1), (302, .goto 4, 306), (305, .iconst 0, 1), (306, .iadd, 1), (307, .iastore, 1), (308, .iload 5, 2), (310, .iload 4, 2), (312, .if_icmp .ge 11, 323), (315, .iload 5, 2), (317, .iconst 5, 1), (318, .irem, 1), (319, .iconst 4, 1), (320, .if_icmp .ne 31, 351), (323, .aload_n 1, 1), (324, .iload 6, 2), (326, .bipush 9, 2), (328, .ishr, 1), (329, .iload 5, 2), (331, .iload 4, 2), (333, .if_icmp .ne 7, 340), (336, .iconst 1, 1), (337, .goto 4, 341), (340, .iconst 0, 1), (341, .aload_n 2, 1), (342, .aload_n 3, 1), (343, .invokestatic 90, 3), (346, .ifCond .ne 5, 351), (349, .iconst 0, 1), (350, .ireturn, 1), (351, .iinc 5 1, 3), (354, .goto (-306), 48), (357, .aload_n 1, 1), (358, .aload_n 0, 1), (359, .bipush 45, 2), (361, .invokestatic 94, 3), (364, .iconst 1, 1), (365, .aload_n 2, 1), (366, .aload_n 3, 1), (367, .invokestatic 90, 3), (370, .ireturn, 1)])
set_option maxRecDepth 100000 in
theorem mkL_law : xok ML_law := by unfold xok; decide +kernel
def xlnkLwL : List (Nat × Nat × xMI) := [(16, 0, ML_edges), (72, 0, ML_low), (90, 0, ML_isSo), (98, 2, MX7_add), (101, 2, MX7_drop)]
def xlnkLw (k : Nat) : Option (Nat × xMI) := xfind xlnkLwL k
theorem xlw_16 : xlkOK 9 (16, 0, ML_edges) := ⟨mkL_edges, Or.inl ⟨rfl, xtb 330 (by decide +kernel) (by decide +kernel), xtb 331 (by decide +kernel) (by decide +kernel)⟩⟩
theorem xlw_72 : xlkOK 9 (72, 0, ML_low) := ⟨mkL_low, Or.inl ⟨rfl, xtb 326 (by decide +kernel) (by decide +kernel), xtb 327 (by decide +kernel) (by decide +kernel)⟩⟩
theorem xlw_90 : xlkOK 9 (90, 0, ML_isSo) := ⟨mkL_isSo, Or.inl ⟨rfl, xtb 336 (by decide +kernel) (by decide +kernel), xtb 337 (by decide +kernel) (by decide +kernel)⟩⟩
theorem xlw_98 : xlkOK 9 (98, 2, MX7_add) := ⟨mkX7_add, Or.inr (Or.inr ⟨rfl, xtb 262 (by decide +kernel) (by decide +kernel), xtb 263 (by decide +kernel) (by decide +kernel), xtb 264 (by decide +kernel) (by decide +kernel), TX7, 9, rfl⟩)⟩
theorem xlw_101 : xlkOK 9 (101, 2, MX7_drop) := ⟨mkX7_drop, Or.inr (Or.inr ⟨rfl, xtb 317 (by decide +kernel) (by decide +kernel), xtb 318 (by decide +kernel) (by decide +kernel), xtb 319 (by decide +kernel) (by decide +kernel), TX7, 9, rfl⟩)⟩
theorem xlw_all : ∀ q ∈ xlnkLwL, xlkOK 9 q := List.forall_mem_cons.mpr ⟨xlw_16, List.forall_mem_cons.mpr ⟨xlw_72, List.forall_mem_cons.mpr ⟨xlw_90, List.forall_mem_cons.mpr ⟨xlw_98, List.forall_mem_cons.mpr ⟨xlw_101, fun _ h => absurd h List.not_mem_nil⟩⟩⟩⟩⟩
theorem xlks_law : xlks xlnkLw ML_law := fun k v h => xlw_all _ (xfind_mem h)
theorem xlw_cell : Cond.methodLink RL 94 (xm_y ML_cell) ∈ xTB ∧ Cond.static (xm_y ML_cell) ∈ xTB := ⟨xtb 321 (by decide +kernel) (by decide +kernel), xtb 322 (by decide +kernel) (by decide +kernel)⟩
/-- what the script's place j is -/
def cvl (xs : Nat → Int32) (L j : Nat) : Int32 := if j < L then xs j else 37199 * (nI j + 11) + 1801525
section
variable {D : va_G} {cI cJ : ClassId} {sz uc vc : Nat} {R : Room} {ad : Nat → Nat} {M : xMI}
variable {p : Program} {l : Launch} {e : Env} {s : State} {m : MethodId} {args : Array Value} {below : List Frame} {meth : Method} {c : Code} {Q : State → Prop} {F F1 : xF}
theorem met_cell {b L j : Nat} {xs : Nat → Int32} (hL : L < 2 ^ 31) (hj : j < 2 ^ 31) : Met l (xm_y ML_cell) (xwsM ML_cell) (xrm ML_cell 0) (va_Pc [.ref b, .int (nI j)] (fun U => va_X b L xs U U.heap ∧ b < U.heap.size)) (fun _ st o t => o = .returned (some (.int (cvl xs L j))) ∧ t.heap = st.heap) 0 0 (fun _ => False) := by
  have hM := mkL_cell
  refine Met.ofW (cc := xm_b ML_cell) (maxL := 2) (ret := some .int) hM.2.1 rfl ?_
  intro p e s m args below meth c s₁ B hml hv
  obtain ⟨rfl, hX, hbl⟩ := hv
  have hts := atoms_spec (ws := xwsM ML_cell) B.pre
  have hT : ∀ w ∈ xTB, w.before _ s = true := fun w hw => hts w (List.mem_cons_of_mem _ hw)
  have hown : s.vm.findClass RL = some m.cls := findClass_of_methodNamed B.named
  have hl := lv_entry ([.ref b, .int (nI j)]) (n := 2) (Nat.le_of_ble_eq_true rfl)
  rw [lg_entry_eq]
  generalize (lg_sl ([.ref b, .int (nI j)]) ++ List.replicate (2 - (lg_sl ([.ref b, .int (nI j)])).length) Slot.unset).toArray = ls at hl ⊢
  have hl : lv_has ls 2 [(0, .ref b), (1, .int (nI j))] := hl
  have hx := B.exec
  have hb : c.code = xm_b ML_cell := B.bytes
  have hlocks := B.notSynchronized
  have dd : ∀ {pc : Nat} {i : Instr} {n : Nat}, xfind (xm_t ML_cell) pc = some (i, n) → decode (xm_b ML_cell) pc = .ok (i, xlen i n) := fun h => (xdec hM.1 h).1
  have hbA : ¬ (fun _ : Nat => False) b := fun z => z
  have hS : va_S (fun _ : Nat => False) s.heap s.heap [] := va_S.rf
  refine lv_iload_n hx hb (dd (pc := 0) (i := .iload_n 1) (n := 1) rfl) rfl (lv_at hl 1 rfl) ?_
  refine lv_aload_n hx hb (dd (pc := 1) (i := .aload_n 0) (n := 1) rfl) rfl (lv_at hl 0 rfl) ?_
  refine va_slen hx hb hX hbl hbA hS (dd (pc := 2) (i := .arraylength) (n := 1) rfl) ?_
  refine lv_icmp_ge (tgt := 12) hx hb (dd (pc := 3) (i := .if_icmp .ge 9) (n := 12) rfl) (by decide) (fun h => ?_) (fun h => ?_)
  · have h : nI L ≤ nI j := h
    rw [nI_leI hL hj] at h
    refine lv_ldc (v := 37199) hx hb hown (hT _ xcn_9_0) (dd (pc := 12) (i := .ldc 7) (n := 2) rfl) ?_
    refine lv_iload_n hx hb (dd (pc := 14) (i := .iload_n 1) (n := 1) rfl) rfl (lv_at hl 1 rfl) ?_
    refine lv_bipush (v := 11) hx hb (dd (pc := 15) (i := .bipush 11) (n := 2) rfl) rfl ?_
    refine lv_iadd hx hb (dd (pc := 17) (i := .iadd) (n := 1) rfl) ?_
    refine lv_imul hx hb (dd (pc := 18) (i := .imul) (n := 1) rfl) ?_
    refine lv_ldc (v := 1801525) hx hb hown (hT _ xcn_9_1) (dd (pc := 19) (i := .ldc 8) (n := 2) rfl) ?_
    refine lv_iadd hx hb (dd (pc := 21) (i := .iadd) (n := 1) rfl) ?_
    exact W.iret hx hb B.returns (fun t ht hW => ⟨by unfold cvl; rw [if_neg (by omega)], ht⟩) (fun q hq => by cases hq) (dd (pc := 22) (i := .ireturn) (n := 1) rfl) hlocks
  · have h : ¬ nI L ≤ nI j := h
    rw [nI_leI hL hj] at h
    refine lv_aload_n hx hb (dd (pc := 6) (i := .aload_n 0) (n := 1) rfl) rfl (lv_at hl 0 rfl) ?_
    refine lv_iload_n hx hb (dd (pc := 7) (i := .iload_n 1) (n := 1) rfl) rfl (lv_at hl 1 rfl) ?_
    refine va_sld hx hb hX hbl hbA hS (xin_vp (xin_nI (n := L) (by omega) hL)) (dd (pc := 8) (i := .iaload) (n := 1) rfl) ?_
    rw [nI_clamp (by omega)]
    refine lv_goto (tgt := 22) hx hb (dd (pc := 9) (i := .goto 13) (n := 22) rfl) (by decide) ?_
    exact W.iret hx hb B.returns (fun t ht hW => ⟨by unfold cvl; rw [if_pos (by omega)], ht⟩) (fun q hq => by cases hq) (dd (pc := 22) (i := .ireturn) (n := 1) rfl) hlocks
end
/-! runs of the law's body -/
abbrev xZ : Type := (Nat → Int32) × (xF → Prop)
/-- what is closed under steps, calls, fewer locals, and cell's call -/
def xYr (M : xMI) (C : xZ) : Prop :=
  (∀ F F1, xs1 M F = some F1 → C.2 F1 → C.2 F) ∧
  (∀ F M2 as F1 r2 w2, xcalk xlnkLw M F = some (M2, as, F1) → xC M2 as F.2.2.2 r2 w2 → C.2 (xpsh F1 r2 w2) → C.2 F) ∧
  (∀ pc L1 L2 st w, L1.length = L2.length → xle L1 L2 → C.2 (pc, L1, st, w) → C.2 (pc, L2, st, w)) ∧
  (∀ pc L j st w, j < 1000 → xfind (xm_t M) pc = some (.invokestatic 94, 3) → (st.map fun v => v.category).sum ≤ 8 → C.2 (pc + 3, L, .int (C.1 j) :: st, w) → C.2 (pc, L, .int (nI j) :: .ref 200 :: st, w))
def xY (M : xMI) (F : xF) (C : xZ) : Prop := xYr M C → C.2 F
theorem xY.step {M : xMI} {F F1 : xF} {C : xZ} (h : xs1 M F = some F1) (k : xY M F1 C) : xY M F C := fun hr => hr.1 F F1 h (k hr)
theorem xY.go {M : xMI} {C : xZ} : ∀ (n : Nat) {F F1 : xF}, xsn M n F = some F1 → xY M F1 C → xY M F C
  | 0, F, F1, h, k => by cases h; exact k
  | n + 1, F, F1, h, k => by
    unfold xsn at h
    cases h1 : xs1 M F with
    | none => rw [h1] at h; cases h
    | some F2 =>
      rw [h1] at h
      exact xY.step h1 (xY.go n h k)
theorem xY.call {M : xMI} {F : xF} {M2 : xMI} {as : List Value} {F1 : xF} {r2 : Option Value} {w2 : xW} {C : xZ} (h : xcalk xlnkLw M F = some (M2, as, F1)) (h2 : xC M2 as F.2.2.2 r2 w2) (k : xY M (xpsh F1 r2 w2) C) : xY M F C := fun hr => hr.2.1 F M2 as F1 r2 w2 h h2 (k hr)
theorem xY.br {M : xMI} {c : Bool} {a b : Nat} {L : xL} {st : List Value} {w : xW} {C : xZ} (kt : c = true → xY M (a, L, st, w) C) (kf : c = false → xY M (b, L, st, w) C) : xY M (bif c then a else b, L, st, w) C := by
  cases c with
  | true => exact kt rfl
  | false => exact kf rfl
theorem xY.brT {M : xMI} {c : Bool} {a b : Nat} {L : xL} {st : List Value} {w : xW} {C : xZ} (h : c = true) (k : xY M (a, L, st, w) C) : xY M (bif c then a else b, L, st, w) C := by
  subst h
  exact k
theorem xY.brF {M : xMI} {c : Bool} {a b : Nat} {L : xL} {st : List Value} {w : xW} {C : xZ} (h : c = false) (k : xY M (b, L, st, w) C) : xY M (bif c then a else b, L, st, w) C := by
  subst h
  exact k
theorem xY.less {M : xMI} {pc : Nat} {L2 : xL} {st : List Value} {w : xW} {C : xZ} (L1 : xL) (h : xleb L1 L2) (k : xY M (pc, L1, st, w) C) : xY M (pc, L2, st, w) C := fun hr => hr.2.2.1 pc L1 L2 st w (xleb_le h).1 (xleb_le h).2 (k hr)
theorem xY.iald {M : xMI} {pc a n : Nat} {L : xL} {st : List Value} {w : xW} {C : xZ} {i : Int32} (hs : xshp a = some (.inl n)) {k : Nat} (hi : i = nI k) (hk : k < n ∧ n < 2 ^ 31) (h : xfind (xm_t M) pc = some (.iaload, 1)) (kk : xY M (pc + 1, L, .int (w.1 a k) :: st, w) C) : xY M (pc, L, .int i :: .ref a :: st, w) C := by
  subst hi
  refine xY.step ((xs1_of h).trans ?_) kk
  simp only [xs1i, xiald, hs, xin_nI hk.1 hk.2, cond_true, nI_clamp (n := k) (by omega)]
theorem xY.iast {M : xMI} {pc a n : Nat} {L : xL} {st : List Value} {w : xW} {C : xZ} {i x : Int32} (hs : xshp a = some (.inl n)) {k : Nat} (hi : i = nI k) (hk : k < n ∧ n < 2 ^ 31) (h : xfind (xm_t M) pc = some (.iastore, 1)) (kk : xY M (pc + 1, L, st, xuI w a k x) C) : xY M (pc, L, .int x :: .int i :: .ref a :: st, w) C := by
  subst hi
  refine xY.step ((xs1_of h).trans ?_) kk
  simp only [xs1i, xiast, hs, xin_nI hk.1 hk.2, cond_true, nI_clamp (n := k) (by omega)]
theorem xY.cell {M : xMI} {pc j : Nat} {L : xL} {st : List Value} {w : xW} {C : xZ} (hj : j < 1000) (h : xfind (xm_t M) pc = some (.invokestatic 94, 3)) (hs : (st.map fun v => v.category).sum ≤ 8) (k : xY M (pc + 3, L, .int (C.1 j) :: st, w) C) : xY M (pc, L, .int (nI j) :: .ref 200 :: st, w) C := fun hr => hr.2.2.2 pc L j st w hj h hs (k hr)
