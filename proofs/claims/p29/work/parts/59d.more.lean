/-! more queries of the class -/
theorem xE.tin {M : xMI} {pc n : Nat} {d hi : Int} {offs : Array Int} {x : Int32} {L : xL} {st : List Value} {w : xW} {r : Option Value} {w1 : xW} (h : xfind (xm_t M) pc = some (.tableswitch d 0 hi offs, n)) (t : Nat) {k : Nat} {o : Int} (hx : (x = nI k ∧ k < 2 ^ 31) ∧ ((k : Int) ≤ hi ∧ offs.toList[k]? = some o) ∧ (pc : Int) + o = t) (kk : xE M (t, L, st, w) r w1) : xE M (pc, L, .int x :: st, w) r w1 := by
  refine xE.step ((xs1_of h).trans ?_) kk
  obtain ⟨⟨h1, h2⟩, ⟨h3, h4⟩, h5⟩ := hx
  have e0 : x.toInt = (k : Int) := by rw [h1]; exact nI_toInt h2
  have e : (decide (x.toInt < 0) || decide (hi < x.toInt)) = false := by
    rw [Bool.or_eq_false_iff, decide_eq_false_iff_not, decide_eq_false_iff_not, e0]
    omega
  simp only [xs1i, xtsw]
  rw [e, e0, Int.sub_zero, Int.toNat_natCast, h4]
  simp only [cond_false, h5]
  rw [decide_eq_true (Int.natCast_nonneg t)]
  rfl
theorem xQ.tin {M : xMI} {pc n : Nat} {d hi : Int} {offs : Array Int} {x : Int32} {L : xL} {st : List Value} {w : xW} {Q : Option Value → xW → Prop} (h : xfind (xm_t M) pc = some (.tableswitch d 0 hi offs, n)) (t : Nat) {k : Nat} {o : Int} (hx : (x = nI k ∧ k < 2 ^ 31) ∧ ((k : Int) ≤ hi ∧ offs.toList[k]? = some o) ∧ (pc : Int) + o = t) (kk : xQ M (t, L, st, w) Q) : xQ M (pc, L, .int x :: st, w) Q := xQ.lift (fun _ _ => xE.tin h t hx) kk
theorem kI_out {n : Nat} {x : Int32} (hn : n < 2 ^ 31) (h : kI n x = none) : x.toInt < 0 ∨ (n : Int) ≤ x.toInt := by
  by_cases h0 : x < 0
  · refine Or.inl ?_
    have := Int32.lt_iff_toInt_lt.mp h0
    exact this
  · refine Or.inr ?_
    have hge : nI n ≤ x := Classical.byContradiction fun hc => by
      obtain ⟨k, hk, e⟩ := i_of (N := n) hn (Int32.not_lt.mp h0) hc
      exact kI_none h k hk e
    have := Int32.le_iff_toInt_le.mp hge
    rw [nI_toInt hn] at this
    exact this
theorem bl_rows {w : xW} {e : Int64} (h : pN_p w e) {i : Nat} (hi : i < (bl e).length) : w.1 13 i = mk (bS (gr e) ((bl e).getD i (0, 0))) ∧ w.1 14 i = nI (bE (gr e) ((bl e).getD i (0, 0))) ∧ w.1 15 i = nI (bFa (gr e) ((bl e).getD i (0, 0))) ∧ w.1 16 i = nI (bPl (gr e) ((bl e).getD i (0, 0))) := h.2.2.2.2.2.1 i _ (getD_of hi (0, 0))
theorem bl_nine (e : Int64) : (bl e).length ≤ 9 := blk_nine (gr_gok e) (blks_ok (gr_gok e) 100 (Nat.le_refl _))
theorem bl_edge (e : Int64) {i : Nat} (hi : i < (bl e).length) : gr e ((bl e).getD i (0, 0)).1 ((bl e).getD i (0, 0)).2 = true := by
  have h := getD_of hi ((0, 0) : xPr)
  exact ((blks_ok (gr_gok e) 100 (Nat.le_refl _)).1 _ (List.mem_of_getElem? h)).1
theorem C_count {w : xW} {A : xAb} {x : Int32} (hI : cI w A) : xD MX7_count [.ref 0, .int x] w (cV w A (qCount A x)) := by
  refine xD.of ?_
  show xQ MX7_count (0, [some (.ref 0), some (.int x)], [], w) _
  refine xQ.go 4 (F1 := (8, [some (.ref 0), some (.int x)], [.ref 1, .ref 11], w)) rfl ?_
  refine xQ.call rfl (c_edgesA hI) ?_
  show xQ MX7_count (11, [some (.ref 0), some (.int x)], [.long A.1.1, .ref 11], w) _
  obtain ⟨r1, w1, hc1, hr1, i1, n1, k1⟩ := c_readP (e := A.1.1) hI
  subst hr1
  refine xQ.call rfl (hc1) ?_
  show xQ MX7_count (14, [some (.ref 0), some (.int x)], [.int (if fl A.1.1 = true then 1 else 0)], w1) _
  refine xQ.go 2 (F1 := (16, [some (.ref 0), some (.int x)], [.int x], w1)) rfl ?_
  have h9 := bl_nine A.1.1
  have hk := kA_C k1
  cases hx : kI 9 x with
  | none =>
    have es : qCount A x = -2 := by unfold qCount; rw [hx]
    rw [es]
    refine xQ.tsw rfl 140 (⟨(kI_out (by omega) hx).imp id (fun h => by omega), rfl⟩) ?_
    show xQ MX7_count (140, [some (.ref 0), some (.int x)], [], w1) _
    refine xQ.go 1 (F1 := (142, [some (.ref 0), some (.int x)], [.int (-2)], w1)) rfl ?_
    refine xQ.iret .int 1 rfl rfl (rfl) ?_
    exact ⟨rfl, i1, hk⟩
  | some k =>
    obtain ⟨hk9, ex⟩ := kI_some hx
    rw [ex] at hx ⊢
    match k, hk9, hx with
    | 0, _, hx =>
      rw [show qCount A (nI 0) = nEd A.1 by unfold qCount; rw [hx]; rfl]
      refine xQ.tin rfl 68 (⟨⟨rfl, by omega⟩, ⟨by decide, rfl⟩, rfl⟩) ?_
      show xQ MX7_count (68, [some (.ref 0), some (.int (nI 0))], [], w1) _
      refine xQ.go 2 (F1 := (72, [some (.ref 0), some (.int (nI 0))], [.ref 1], w1)) rfl ?_
      refine xQ.call rfl (c_sizeA i1) ?_
      show xQ MX7_count (75, [some (.ref 0), some (.int (nI 0))], [.int (nEd A.1)], w1) _
      refine xQ.iret .int 1 rfl rfl (rfl) ?_
      exact ⟨rfl, i1, hk⟩
    | 1, _, hx =>
      rw [show qCount A (nI 1) = nI (cmpS (gr A.1.1) 10).2 by unfold qCount; rw [hx]; rfl]
      refine xQ.tin rfl 76 (⟨⟨rfl, by omega⟩, ⟨by decide, rfl⟩, rfl⟩) ?_
      show xQ MX7_count (76, [some (.ref 0), some (.int (nI 1))], [], w1) _
      refine xQ.go 2 (F1 := (80, [some (.ref 0), some (.int (nI 1))], [.ref 11], w1)) rfl ?_
      refine xQ.call rfl (c_pcomp_p n1.2.2.1) ?_
      show xQ MX7_count (83, [some (.ref 0), some (.int (nI 1))], [.int (nI (cmpS (gr A.1.1) 10).2)], w1) _
      refine xQ.iret .int 1 rfl rfl (rfl) ?_
      exact ⟨rfl, i1, hk⟩
    | 2, _, hx =>
      rw [show qCount A (nI 2) = nI (bl A.1.1).length by unfold qCount; rw [hx]; rfl]
      refine xQ.tin rfl 84 (⟨⟨rfl, by omega⟩, ⟨by decide, rfl⟩, rfl⟩) ?_
      show xQ MX7_count (84, [some (.ref 0), some (.int (nI 2))], [], w1) _
      refine xQ.go 2 (F1 := (88, [some (.ref 0), some (.int (nI 2))], [.ref 11], w1)) rfl ?_
      refine xQ.call rfl (c_pblocks_p) ?_
      show xQ MX7_count (91, [some (.ref 0), some (.int (nI 2))], [.int (w1.1 11 7)], w1) _
      rw [show w1.1 11 7 = nI (bl A.1.1).length from n1.2.2.2.1]
      refine xQ.iret .int 1 rfl rfl (rfl) ?_
      exact ⟨rfl, i1, hk⟩
    | 3, _, hx =>
      rw [show qCount A (nI 3) = nI (cnt (cvS (fun i => bS (gr A.1.1) ((bl A.1.1).getD i (0, 0))) (bl A.1.1).length).2 10) by unfold qCount; rw [hx]; rfl]
      refine xQ.tin rfl 92 (⟨⟨rfl, by omega⟩, ⟨by decide, rfl⟩, rfl⟩) ?_
      show xQ MX7_count (92, [some (.ref 0), some (.int (nI 3))], [], w1) _
      refine xQ.go 2 (F1 := (96, [some (.ref 0), some (.int (nI 3))], [.ref 11], w1)) rfl ?_
      refine xQ.call rfl (c_pcut_p (f := fun i => bS (gr A.1.1) ((bl A.1.1).getD i (0, 0))) n1.2.2.2.1 h9 (fun i hi => (bl_rows n1 hi).1)) ?_
      show xQ MX7_count (99, [some (.ref 0), some (.int (nI 3))], [.int (nI (cnt (cvS (fun i => bS (gr A.1.1) ((bl A.1.1).getD i (0, 0))) (bl A.1.1).length).2 10))], w1) _
      refine xQ.iret .int 1 rfl rfl (rfl) ?_
      exact ⟨rfl, i1, hk⟩
    | 4, _, hx =>
      rw [show qCount A (nI 4) = nI (cnt (fun i => decide (bE (gr A.1.1) ((bl A.1.1).getD i (0, 0)) = 1)) (bl A.1.1).length) by unfold qCount; rw [hx]; rfl]
      refine xQ.tin rfl 100 (⟨⟨rfl, by omega⟩, ⟨by decide, rfl⟩, rfl⟩) ?_
      show xQ MX7_count (100, [some (.ref 0), some (.int (nI 4))], [], w1) _
      refine xQ.go 2 (F1 := (104, [some (.ref 0), some (.int (nI 4))], [.ref 11], w1)) rfl ?_
      refine xQ.call rfl (c_pbridge_p (f := fun i => bE (gr A.1.1) ((bl A.1.1).getD i (0, 0))) n1.2.2.2.1 h9 (fun i hi => ⟨(bl_rows n1 hi).2.1, ec_45 _⟩)) ?_
      show xQ MX7_count (107, [some (.ref 0), some (.int (nI 4))], [.int (nI (cnt (fun i => decide (bE (gr A.1.1) ((bl A.1.1).getD i (0, 0)) = 1)) (bl A.1.1).length))], w1) _
      refine xQ.iret .int 1 rfl rfl (rfl) ?_
      exact ⟨rfl, i1, hk⟩
    | 5, _, hx =>
      rw [show qCount A (nI 5) = A.1.2.1 by unfold qCount; rw [hx]; rfl]
      refine xQ.tin rfl 108 (⟨⟨rfl, by omega⟩, ⟨by decide, rfl⟩, rfl⟩) ?_
      show xQ MX7_count (108, [some (.ref 0), some (.int (nI 5))], [], w1) _
      refine xQ.go 2 (F1 := (112, [some (.ref 0), some (.int (nI 5))], [.ref 1], w1)) rfl ?_
      refine xQ.call rfl (c_added1) ?_
      show xQ MX7_count (115, [some (.ref 0), some (.int (nI 5))], [.int (w1.1 1 1)], w1) _
      rw [i1.2.1.2.1]
      refine xQ.iret .int 1 rfl rfl (rfl) ?_
      exact ⟨rfl, i1, hk⟩
    | 6, _, hx =>
      rw [show qCount A (nI 6) = A.1.2.2 by unfold qCount; rw [hx]; rfl]
      refine xQ.tin rfl 116 (⟨⟨rfl, by omega⟩, ⟨by decide, rfl⟩, rfl⟩) ?_
      show xQ MX7_count (116, [some (.ref 0), some (.int (nI 6))], [], w1) _
      refine xQ.go 2 (F1 := (120, [some (.ref 0), some (.int (nI 6))], [.ref 1], w1)) rfl ?_
      refine xQ.call rfl (c_dropped1) ?_
      show xQ MX7_count (123, [some (.ref 0), some (.int (nI 6))], [.int (w1.1 1 2)], w1) _
      rw [i1.2.1.2.2]
      refine xQ.iret .int 1 rfl rfl (rfl) ?_
      exact ⟨rfl, i1, hk⟩
    | 7, _, hx =>
      rw [show qCount A (nI 7) = nI A.2.1.length by unfold qCount; rw [hx]; rfl]
      refine xQ.tin rfl 124 (⟨⟨rfl, by omega⟩, ⟨by decide, rfl⟩, rfl⟩) ?_
      show xQ MX7_count (124, [some (.ref 0), some (.int (nI 7))], [], w1) _
      refine xQ.go 2 (F1 := (128, [some (.ref 0), some (.int (nI 7))], [.ref 3], w1)) rfl ?_
      refine xQ.call rfl (c_hsize) ?_
      show xQ MX7_count (131, [some (.ref 0), some (.int (nI 7))], [.int (w1.1 3 3)], w1) _
      rw [i1.2.2.1.1]
      refine xQ.iret .int 1 rfl rfl (rfl) ?_
      exact ⟨rfl, i1, hk⟩
    | 8, _, hx =>
      rw [show qCount A (nI 8) = nI A.2.2.2.length by unfold qCount; rw [hx]; rfl]
      refine xQ.tin rfl 132 (⟨⟨rfl, by omega⟩, ⟨by decide, rfl⟩, rfl⟩) ?_
      show xQ MX7_count (132, [some (.ref 0), some (.int (nI 8))], [], w1) _
      refine xQ.go 2 (F1 := (136, [some (.ref 0), some (.int (nI 8))], [.ref 7], w1)) rfl ?_
      refine xQ.call rfl (c_tlen) ?_
      show xQ MX7_count (139, [some (.ref 0), some (.int (nI 8))], [.int (w1.1 7 1)], w1) _
      rw [i1.2.2.2.2.1.1]
      refine xQ.iret .int 1 rfl rfl (rfl) ?_
      exact ⟨rfl, i1, hk⟩
theorem C_forb {w : xW} {A : xAb} {x : Int32} (hI : cI w A) : xD MX7_forbidden [.ref 0, .int x] w (cV w A (qForb A x)) := by
  refine xD.of ?_
  show xQ MX7_forbidden (0, [some (.ref 0), some (.int x)], [], w) _
  unfold qForb
  refine xQ.go 2 (F1 := (bif decide (x < 0) then 9 else 4, [some (.ref 0), some (.int x)], [], w)) rfl ?_
  cases hx : kI 4 x with
  | none =>
    have hno := kI_none hx
    by_cases h0 : x < 0
    · refine xQ.brT (decide_eq_true h0) ?_
      refine xQ.go 1 (F1 := (11, [some (.ref 0), some (.int x)], [.int (-2)], w)) rfl ?_
      refine xQ.iret .int 1 rfl rfl (rfl) ?_
      exact ⟨rfl, hI, xkq_rfl⟩
    · refine xQ.brF (decide_eq_false h0) ?_
      have hge : nI 4 ≤ x := Classical.byContradiction fun hc => by
        obtain ⟨j, hj, e⟩ := i_of (N := 4) (by omega) (Int32.not_lt.mp h0) hc
        exact hno j hj e
      refine xQ.go 3 (F1 := (bif decide (x ≤ 3) then 12 else 9, [some (.ref 0), some (.int x)], [], w)) rfl ?_
      refine xQ.brF (decide_eq_false (Int32.not_le.mpr (Int32.lt_of_lt_of_le (by decide) hge))) ?_
      refine xQ.go 1 (F1 := (11, [some (.ref 0), some (.int x)], [.int (-2)], w)) rfl ?_
      refine xQ.iret .int 1 rfl rfl (rfl) ?_
      exact ⟨rfl, hI, xkq_rfl⟩
  | some k =>
    obtain ⟨hk4, ex⟩ := kI_some hx
    rw [ex]
    refine xQ.brF (decide_eq_false (nI_pos (by omega))) ?_
    refine xQ.go 3 (F1 := (bif decide ((nI k) ≤ 3) then 12 else 9, [some (.ref 0), some (.int (nI k))], [], w)) rfl ?_
    refine xQ.brT (by rw [show (3 : Int32) = nI 3 from rfl, nI_decle (by omega) (by omega)]; exact decide_eq_true (by omega)) ?_
    refine xQ.go 4 (F1 := (20, [some (.ref 0), some (.int (nI k))], [.ref 1, .ref 11], w)) rfl ?_
    refine xQ.call rfl (c_edgesA hI) ?_
    show xQ MX7_forbidden (23, [some (.ref 0), some (.int (nI k))], [.long A.1.1, .ref 11], w) _
    obtain ⟨r1, w1, hc1, hr1, i1, n1, k1⟩ := c_readP (e := A.1.1) hI
    subst hr1
    refine xQ.call rfl (hc1) ?_
    show xQ MX7_forbidden (26, [some (.ref 0), some (.int (nI k))], [.int (if fl A.1.1 = true then 1 else 0)], w1) _
    simp only
    refine xQ.go 1 (F1 := (bif decide ((if fl A.1.1 = true then 1 else 0) = 0) then 32 else 29, [some (.ref 0), some (.int (nI k))], [], w1)) rfl ?_
    by_cases hf : fl A.1.1 = true
    · rw [if_pos hf, if_pos hf]
      refine xQ.brF rfl ?_
      refine xQ.go 1 (F1 := (31, [some (.ref 0), some (.int (nI k))], [.int (-5)], w1)) rfl ?_
      refine xQ.iret .int 1 rfl rfl (rfl) ?_
      exact ⟨rfl, i1, kA_C k1⟩
    · rw [if_neg hf, if_neg hf]
      refine xQ.brT rfl ?_
      refine xQ.go 4 (F1 := (40, [some (.ref 0), some (.int (nI k))], [.ref 1, .ref 44], w1)) rfl ?_
      refine xQ.call rfl (c_edgesA i1) ?_
      show xQ MX7_forbidden (43, [some (.ref 0), some (.int (nI k))], [.long A.1.1, .ref 44], w1) _
      obtain ⟨r2, w2, hc2, hr2, i2, n2, k2⟩ := c_findA (e := A.1.1) i1
      subst hr2
      refine xQ.go 2 (F1 := (47, [some (.ref 0), some (.int (nI k))], [.ref 25, .long A.1.1, .ref 44], w1)) rfl ?_
      refine xQ.call rfl (hc2) ?_
      show xQ MX7_forbidden (50, [some (.ref 0), some (.int (nI k))], [], w2) _
      have hk := xkq_trans (kA_C k1) (kO_C k2)
      have hob := n2.2.2
      refine xQ.go 1 (F1 := (51, [some (.ref 0), some (.int (nI k))], [.int (nI k)], w2)) rfl ?_
      match k, hk4 with
      | 0, _ =>
        refine xQ.tin rfl 76 (⟨⟨rfl, by omega⟩, ⟨by decide, rfl⟩, rfl⟩) ?_
        show xQ MX7_forbidden (76, [some (.ref 0), some (.int (nI 0))], [], w2) _
        refine xQ.go 2 (F1 := (80, [some (.ref 0), some (.int (nI 0))], [.ref 44], w2)) rfl ?_
        refine xQ.call rfl (c_osize (by rw [hob]; exact obs_jok hI.1.1 100 (Nat.le_refl _))) ?_
        show xQ MX7_forbidden (83, [some (.ref 0), some (.int (nI 0))], [.int (nI (ec (gr (w2.2 44 0))))], w2) _
        rw [hob]
        refine xQ.iret .int 1 rfl rfl (rfl) ?_
        exact ⟨rfl, i2, hk⟩
      | 1, _ =>
        refine xQ.tin rfl 84 (⟨⟨rfl, by omega⟩, ⟨by decide, rfl⟩, rfl⟩) ?_
        show xQ MX7_forbidden (84, [some (.ref 0), some (.int (nI 1))], [], w2) _
        refine xQ.go 3 (F1 := (89, [some (.ref 0), some (.int (nI 1))], [.int 0, .ref 44], w2)) rfl ?_
        refine xQ.call rfl (c_overts (m := 0) (by omega)) ?_
        show xQ MX7_forbidden (92, [some (.ref 0), some (.int (nI 1))], [.int (mk (fun v => decide (0 < cnt (gr (w2.2 44 0) v) 10)))], w2) _
        rw [hob]
        refine xQ.iret .int 1 rfl rfl (rfl) ?_
        exact ⟨rfl, i2, hk⟩
      | 2, _ =>
        refine xQ.tin rfl 93 (⟨⟨rfl, by omega⟩, ⟨by decide, rfl⟩, rfl⟩) ?_
        show xQ MX7_forbidden (93, [some (.ref 0), some (.int (nI 2))], [], w2) _
        refine xQ.go 3 (F1 := (98, [some (.ref 0), some (.int (nI 2))], [.int 2, .ref 44], w2)) rfl ?_
        refine xQ.call rfl (c_overts (m := 2) (by omega)) ?_
        show xQ MX7_forbidden (101, [some (.ref 0), some (.int (nI 2))], [.int (mk (fun v => decide (2 < cnt (gr (w2.2 44 0) v) 10)))], w2) _
        rw [hob]
        refine xQ.iret .int 1 rfl rfl (rfl) ?_
        exact ⟨rfl, i2, hk⟩
      | 3, _ =>
        refine xQ.tsw rfl 102 (⟨Or.inr (by decide), rfl⟩) ?_
        show xQ MX7_forbidden (102, [some (.ref 0), some (.int (nI 3))], [], w2) _
        refine xQ.go 3 (F1 := (107, [some (.ref 0), some (.int (nI 3))], [.int 2, .ref 44], w2)) rfl ?_
        refine xQ.call rfl (c_overts (m := 2) (by omega)) ?_
        show xQ MX7_forbidden (110, [some (.ref 0), some (.int (nI 3))], [.int (mk (fun v => decide (2 < cnt (gr (w2.2 44 0) v) 10)))], w2) _
        refine xQ.call rfl (c_ones) ?_
        show xQ MX7_forbidden (113, [some (.ref 0), some (.int (nI 3))], [.int (nI (cnt (fun v => decide (2 < cnt (gr (w2.2 44 0) v) 10)) 10))], w2) _
        rw [hob]
        refine xQ.iret .int 1 rfl rfl (rfl) ?_
        exact ⟨rfl, i2, hk⟩
theorem C_inf {w : xW} {A : xAb} {x y : Int32} (hI : cI w A) : xD MX7_inForbidden [.ref 0, .int x, .int y] w (cV w A (qInF A x y)) := by
  refine xD.of ?_
  show xQ MX7_inForbidden (0, [some (.ref 0), some (.int x), some (.int y)], [], w) _
  refine xQ.go 4 (F1 := (6, [some (.ref 0), some (.int x), some (.int y)], [.int y, .int x, .ref 1], w)) rfl ?_
  refine xQ.call rfl (c_joinsA hI) ?_
  show xQ MX7_inForbidden (9, [some (.ref 0), some (.int x), some (.int y)], [.int (if jn A.1.1 x y = true then 1 else 0)], w) _
  refine xQ.go 1 (F1 := (bif !decide ((if jn A.1.1 x y = true then 1 else 0) = 0) then 14 else 12, [some (.ref 0), some (.int x), some (.int y)], [], w)) rfl ?_
  by_cases hj : jn A.1.1 x y = true
  · obtain ⟨a, b, ha, hb, hne, ex, ey, hx, hy, hg⟩ := jn_true hj
    unfold qInF
    rw [if_pos hj, hx, hy]
    simp only
    rw [if_pos hg]
    refine xQ.brT rfl ?_
    refine xQ.go 4 (F1 := (22, [some (.ref 0), some (.int x), some (.int y)], [.ref 1, .ref 11], w)) rfl ?_
    refine xQ.call rfl (c_edgesA hI) ?_
    show xQ MX7_inForbidden (25, [some (.ref 0), some (.int x), some (.int y)], [.long A.1.1, .ref 11], w) _
    obtain ⟨r1, w1, hc1, hr1, i1, n1, k1⟩ := c_readP (e := A.1.1) hI
    subst hr1
    refine xQ.call rfl (hc1) ?_
    show xQ MX7_inForbidden (28, [some (.ref 0), some (.int x), some (.int y)], [.int (if fl A.1.1 = true then 1 else 0)], w1) _
    refine xQ.go 1 (F1 := (bif decide ((if fl A.1.1 = true then 1 else 0) = 0) then 34 else 31, [some (.ref 0), some (.int x), some (.int y)], [], w1)) rfl ?_
    by_cases hf : fl A.1.1 = true
    · rw [if_pos hf, if_pos hf]
      refine xQ.brF rfl ?_
      refine xQ.go 1 (F1 := (33, [some (.ref 0), some (.int x), some (.int y)], [.int (-5)], w1)) rfl ?_
      refine xQ.iret .int 1 rfl rfl (rfl) ?_
      exact ⟨rfl, i1, kA_C k1⟩
    · rw [if_neg hf, if_neg hf]
      refine xQ.brT rfl ?_
      refine xQ.go 4 (F1 := (42, [some (.ref 0), some (.int x), some (.int y)], [.ref 1, .ref 44], w1)) rfl ?_
      refine xQ.call rfl (c_edgesA i1) ?_
      show xQ MX7_inForbidden (45, [some (.ref 0), some (.int x), some (.int y)], [.long A.1.1, .ref 44], w1) _
      obtain ⟨r2, w2, hc2, hr2, i2, n2, k2⟩ := c_findA (e := A.1.1) i1
      subst hr2
      refine xQ.go 2 (F1 := (49, [some (.ref 0), some (.int x), some (.int y)], [.ref 25, .long A.1.1, .ref 44], w1)) rfl ?_
      refine xQ.call rfl (hc2) ?_
      show xQ MX7_inForbidden (52, [some (.ref 0), some (.int x), some (.int y)], [], w2) _
      have hk := xkq_trans (kA_C k1) (kO_C k2)
      have hob := n2.2.2
      rw [ex, ey]
      refine xQ.go 4 (F1 := (58, [some (.ref 0), some (.int (nI a)), some (.int (nI b))], [.int (nI b), .int (nI a), .ref 44], w2)) rfl ?_
      refine xQ.call rfl (c_oholds ha hb) ?_
      show xQ MX7_inForbidden (61, [some (.ref 0), some (.int (nI a)), some (.int (nI b))], [.int (if gr (w2.2 44 0) a b then 1 else 0)], w2) _
      rw [hob]
      refine xQ.go 1 (F1 := (bif decide ((if gr (obs A.1.1 100) a b then 1 else 0) = 0) then 68 else 64, [some (.ref 0), some (.int (nI a)), some (.int (nI b))], [], w2)) rfl ?_
      cases ho : gr (obs A.1.1 100) a b with
      | true =>
        refine xQ.brF rfl ?_
        refine xQ.go 2 (F1 := (69, [some (.ref 0), some (.int (nI a)), some (.int (nI b))], [.int 1], w2)) rfl ?_
        refine xQ.iret .int 1 rfl rfl (rfl) ?_
        exact ⟨rfl, i2, hk⟩
      | false =>
        refine xQ.brT rfl ?_
        refine xQ.go 1 (F1 := (69, [some (.ref 0), some (.int (nI a)), some (.int (nI b))], [.int 0], w2)) rfl ?_
        refine xQ.iret .int 1 rfl rfl (rfl) ?_
        exact ⟨rfl, i2, hk⟩
  · have es : qInF A x y = -1 := by
      unfold qInF
      rcases jn_no hj with h | ⟨a, h, h2⟩ | ⟨a, b, h, h2, h3⟩
      · simp [h]
      · simp [h, h2]
      · simp [h, h2, h3]
    rw [if_neg hj, es]
    refine xQ.brF rfl ?_
    refine xQ.go 1 (F1 := (13, [some (.ref 0), some (.int x), some (.int y)], [.int (-1)], w)) rfl ?_
    refine xQ.iret .int 1 rfl rfl (rfl) ?_
    exact ⟨rfl, hI, xkq_rfl⟩