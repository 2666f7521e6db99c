/-! queries of the class -/
abbrev cV (w : xW) (A : xAb) (v : Int32) (r : Option Value) (w1 : xW) : Prop := r = some (.int v) ∧ cI w1 A ∧ xkq kC w w1
theorem C_nb {w : xW} {A : xAb} {x : Int32} (hI : cI w A) : xD MX7_neighbors [.ref 0, .int x] w (cV w A (qNb A x)) := by
  refine xD.of ?_
  show xQ MX7_neighbors (0, [some (.ref 0), some (.int x)], [], w) _
  refine xQ.go 1 (F1 := (1, [some (.ref 0), some (.int x)], [.int x], w)) rfl ?_
  refine xQ.call rfl (c_isV) ?_
  show xQ MX7_neighbors (4, [some (.ref 0), some (.int x)], [.int (if (vI x).isSome = true then 1 else 0)], w) _
  refine xQ.go 1 (F1 := (bif !decide ((if (vI x).isSome = true then 1 else 0) = 0) then 9 else 7, [some (.ref 0), some (.int x)], [], w)) rfl ?_
  unfold qNb
  cases hx : vI x with
  | none =>
    refine xQ.brF rfl ?_
    refine xQ.go 1 (F1 := (8, [some (.ref 0), some (.int x)], [.int (-1)], w)) rfl ?_
    refine xQ.iret .int 1 rfl rfl (rfl) ?_
    exact ⟨rfl, hI, xkq_rfl⟩
  | some v =>
    refine xQ.brT rfl ?_
    obtain ⟨hv, ex⟩ := kI_some hx
    refine xQ.go 4 (F1 := (17, [some (.ref 0), some (.int x)], [.ref 1, .ref 11], w)) rfl ?_
    refine xQ.call rfl (c_edgesA hI) ?_
    show xQ MX7_neighbors (20, [some (.ref 0), some (.int x)], [.long A.1.1, .ref 11], w) _
    obtain ⟨r1, w1, hc1, hr1, i1, n1, k1⟩ := c_readP (e := A.1.1) hI
    subst hr1
    refine xQ.call rfl (hc1) ?_
    show xQ MX7_neighbors (23, [some (.ref 0), some (.int x)], [.int (if fl A.1.1 = true then 1 else 0)], w1) _
    rw [ex]
    refine xQ.go 4 (F1 := (29, [some (.ref 0), some (.int (nI v))], [.int (nI v), .ref 11], w1)) rfl ?_
    refine xQ.call rfl (c_pnear_p hv) ?_
    show xQ MX7_neighbors (32, [some (.ref 0), some (.int (nI v))], [.int (w1.1 12 v)], w1) _
    rw [n1.2.2.1 v hv]
    refine xQ.iret .int 1 rfl rfl (rfl) ?_
    exact ⟨rfl, i1, kA_C k1⟩
theorem C_plan {w : xW} {A : xAb} (hI : cI w A) : xD MX7_planar [.ref 0] w (cV w A (qPlan A)) := by
  refine xD.of ?_
  show xQ MX7_planar (0, [some (.ref 0)], [], w) _
  refine xQ.go 4 (F1 := (8, [some (.ref 0)], [.ref 1, .ref 11], w)) rfl ?_
  refine xQ.call rfl (c_edgesA hI) ?_
  show xQ MX7_planar (11, [some (.ref 0)], [.long A.1.1, .ref 11], w) _
  obtain ⟨r1, w1, hc1, hr1, i1, n1, k1⟩ := c_readP (e := A.1.1) hI
  subst hr1
  refine xQ.call rfl (hc1) ?_
  show xQ MX7_planar (14, [some (.ref 0)], [.int (if fl A.1.1 = true then 1 else 0)], w1) _
  unfold qPlan
  refine xQ.go 1 (F1 := (bif decide ((if fl A.1.1 = true then 1 else 0) = 0) then 21 else 17, [some (.ref 0)], [], w1)) rfl ?_
  by_cases hf : fl A.1.1 = true
  · rw [if_pos hf]
    refine xQ.brF rfl ?_
    refine xQ.go 2 (F1 := (22, [some (.ref 0)], [.int 1], w1)) rfl ?_
    refine xQ.iret .int 1 rfl rfl (rfl) ?_
    exact ⟨rfl, i1, kA_C k1⟩
  · rw [if_neg hf]
    refine xQ.brT rfl ?_
    refine xQ.go 1 (F1 := (22, [some (.ref 0)], [.int 0], w1)) rfl ?_
    refine xQ.iret .int 1 rfl rfl (rfl) ?_
    exact ⟨rfl, i1, kA_C k1⟩
theorem c_tracedA {w : xW} {A : xAb} (hI : cI w A) : xD MX7_traced [.ref 0] w (fun r w1 => r = some (.int (if fl A.1.1 = true then 1 else 0)) ∧ cI w1 A ∧ (fl A.1.1 = true → wN w1 A.1.1) ∧ xkq kC w w1) := by
  refine xD.of ?_
  show xQ MX7_traced (0, [some (.ref 0)], [], w) _
  refine xQ.go 4 (F1 := (8, [some (.ref 0)], [.ref 1, .ref 11], w)) rfl ?_
  refine xQ.call rfl (c_edgesA hI) ?_
  show xQ MX7_traced (11, [some (.ref 0)], [.long A.1.1, .ref 11], w) _
  obtain ⟨r1, w1, hc1, hr1, i1, n1, k1⟩ := c_readP (e := A.1.1) hI
  subst hr1
  refine xQ.call rfl (hc1) ?_
  show xQ MX7_traced (14, [some (.ref 0)], [.int (if fl A.1.1 = true then 1 else 0)], w1) _
  refine xQ.go 1 (F1 := (bif !decide ((if fl A.1.1 = true then 1 else 0) = 0) then 19 else 17, [some (.ref 0)], [], w1)) rfl ?_
  by_cases hf : fl A.1.1 = true
  · rw [if_pos hf]
    refine xQ.brT rfl ?_
    obtain ⟨r2, w2, hc2, hr2, i2, n2, k2⟩ := c_traceA i1 n1 hf
    subst hr2
    refine xQ.go 4 (F1 := (27, [some (.ref 0)], [.ref 11, .ref 39], w1)) rfl ?_
    refine xQ.call rfl (hc2) ?_
    show xQ MX7_traced (30, [some (.ref 0)], [], w2) _
    refine xQ.go 1 (F1 := (31, [some (.ref 0)], [.int 1], w2)) rfl ?_
    refine xQ.iret .boolean 1 rfl rfl (rfl) ?_
    exact ⟨rfl, i2, fun _ => n2, xkq_trans (kA_C k1) (kW_C k2)⟩
  · rw [if_neg hf]
    refine xQ.brF rfl ?_
    refine xQ.go 1 (F1 := (18, [some (.ref 0)], [.int 0], w1)) rfl ?_
    refine xQ.iret .boolean 1 rfl rfl (rfl) ?_
    exact ⟨rfl, i1, fun h => absurd h hf, kA_C k1⟩
theorem C_walks {w : xW} {A : xAb} (hI : cI w A) : xD MX7_walks [.ref 0] w (cV w A (qWalks A)) := by
  refine xD.of ?_
  show xQ MX7_walks (0, [some (.ref 0)], [], w) _
  obtain ⟨r1, w1, hc1, hr1, i1, n1, k1⟩ := c_tracedA hI
  subst hr1
  refine xQ.go 1 (F1 := (1, [some (.ref 0)], [.ref 0], w)) rfl ?_
  refine xQ.call rfl (hc1) ?_
  show xQ MX7_walks (4, [some (.ref 0)], [.int (if fl A.1.1 = true then 1 else 0)], w1) _
  unfold qWalks
  refine xQ.go 1 (F1 := (bif decide ((if fl A.1.1 = true then 1 else 0) = 0) then 17 else 7, [some (.ref 0)], [], w1)) rfl ?_
  by_cases hf : fl A.1.1 = true
  · rw [if_pos hf, if_pos hf]
    refine xQ.brF rfl ?_
    refine xQ.go 2 (F1 := (11, [some (.ref 0)], [.ref 39], w1)) rfl ?_
    refine xQ.call rfl (c_wsize) ?_
    show xQ MX7_walks (14, [some (.ref 0)], [.int (w1.1 39 4)], w1) _
    rw [(n1 hf).2.2.2.2.1]
    refine xQ.go 1 (F1 := (19, [some (.ref 0)], [.int (nI (trG A.1.1 100).2.length)], w1)) rfl ?_
    refine xQ.iret .int 1 rfl rfl (rfl) ?_
    exact ⟨rfl, i1, k1⟩
  · rw [if_neg hf, if_neg hf]
    refine xQ.brT rfl ?_
    refine xQ.go 1 (F1 := (19, [some (.ref 0)], [.int (-4)], w1)) rfl ?_
    refine xQ.iret .int 1 rfl rfl (rfl) ?_
    exact ⟨rfl, i1, k1⟩
theorem jn_no {e : Int64} {x y : Int32} (h : ¬ jn e x y = true) : vI x = none ∨ (∃ a, vI x = some a ∧ vI y = none) ∨ ∃ a b, vI x = some a ∧ vI y = some b ∧ gr e a b = false := by
  unfold jn at h
  cases hx : vI x with
  | none => exact Or.inl rfl
  | some a =>
    cases hy : vI y with
    | none => exact Or.inr (Or.inl ⟨a, rfl, rfl⟩)
    | some b =>
      rw [hx, hy] at h
      exact Or.inr (Or.inr ⟨a, b, rfl, rfl, Bool.eq_false_iff.mpr h⟩)
theorem C_next {w : xW} {A : xAb} {x y : Int32} (hI : cI w A) : xD MX7_next [.ref 0, .int x, .int y] w (cV w A (qNext A x y)) := by
  refine xD.of ?_
  show xQ MX7_next (0, [some (.ref 0), some (.int x), some (.int y)], [], w) _
  refine xQ.go 4 (F1 := (6, [some (.ref 0), some (.int x), some (.int y)], [.int y, .int x, .ref 1], w)) rfl ?_
  refine xQ.call rfl (c_joinsA hI) ?_
  show xQ MX7_next (9, [some (.ref 0), some (.int x), some (.int y)], [.int (if jn A.1.1 x y = true then 1 else 0)], w) _
  refine xQ.go 1 (F1 := (bif !decide ((if jn A.1.1 x y = true then 1 else 0) = 0) then 14 else 12, [some (.ref 0), some (.int x), some (.int y)], [], w)) rfl ?_
  by_cases hj : jn A.1.1 x y = true
  · obtain ⟨a, b, ha, hb, hne, ex, ey, hx, hy, hg⟩ := jn_true hj
    unfold qNext
    rw [if_pos hj, hx, hy]
    simp only
    rw [if_pos hg]
    refine xQ.brT rfl ?_
    obtain ⟨r1, w1, hc1, hr1, i1, n1, k1⟩ := c_tracedA hI
    subst hr1
    refine xQ.go 1 (F1 := (15, [some (.ref 0), some (.int x), some (.int y)], [.ref 0], w)) rfl ?_
    refine xQ.call rfl (hc1) ?_
    show xQ MX7_next (18, [some (.ref 0), some (.int x), some (.int y)], [.int (if fl A.1.1 = true then 1 else 0)], w1) _
    refine xQ.go 1 (F1 := (bif decide ((if fl A.1.1 = true then 1 else 0) = 0) then 33 else 21, [some (.ref 0), some (.int x), some (.int y)], [], w1)) rfl ?_
    by_cases hf : fl A.1.1 = true
    · rw [if_pos hf, if_pos hf]
      refine xQ.brF rfl ?_
      rw [ex, ey]
      refine xQ.go 4 (F1 := (27, [some (.ref 0), some (.int (nI a)), some (.int (nI b))], [.int (nI b), .int (nI a), .ref 39], w1)) rfl ?_
      refine xQ.call rfl (c_behind ha hb) ?_
      show xQ MX7_next (30, [some (.ref 0), some (.int (nI a)), some (.int (nI b))], [.int (w1.1 40 (10 * a + b))], w1) _
      rw [(n1 hf).2.2.1 a b hg]
      refine xQ.go 1 (F1 := (35, [some (.ref 0), some (.int (nI a)), some (.int (nI b))], [.int (nI (nxt (gr A.1.1) a b))], w1)) rfl ?_
      refine xQ.iret .int 1 rfl rfl (rfl) ?_
      exact ⟨rfl, i1, k1⟩
    · rw [if_neg hf, if_neg hf]
      refine xQ.brT rfl ?_
      refine xQ.go 1 (F1 := (35, [some (.ref 0), some (.int x), some (.int y)], [.int (-4)], w1)) rfl ?_
      refine xQ.iret .int 1 rfl rfl (rfl) ?_
      exact ⟨rfl, i1, k1⟩
  · have es : qNext A x y = -1 := by
      unfold qNext
      rcases jn_no hj with h | ⟨a, h, h2⟩ | ⟨a, b, h, h2, h3⟩
      · simp [h]
      · simp [h, h2]
      · simp [h, h2, h3]
    rw [if_neg hj, es]
    refine xQ.brF rfl ?_
    refine xQ.go 1 (F1 := (13, [some (.ref 0), some (.int x), some (.int y)], [.int (-1)], w)) rfl ?_
    refine xQ.iret .int 1 rfl rfl (rfl) ?_
    exact ⟨rfl, hI, xkq_rfl⟩
theorem C_wof {w : xW} {A : xAb} {x y : Int32} (hI : cI w A) : xD MX7_walkOf [.ref 0, .int x, .int y] w (cV w A (qWOf A x y)) := by
  refine xD.of ?_
  show xQ MX7_walkOf (0, [some (.ref 0), some (.int x), some (.int y)], [], w) _
  refine xQ.go 4 (F1 := (6, [some (.ref 0), some (.int x), some (.int y)], [.int y, .int x, .ref 1], w)) rfl ?_
  refine xQ.call rfl (c_joinsA hI) ?_
  show xQ MX7_walkOf (9, [some (.ref 0), some (.int x), some (.int y)], [.int (if jn A.1.1 x y = true then 1 else 0)], w) _
  refine xQ.go 1 (F1 := (bif !decide ((if jn A.1.1 x y = true then 1 else 0) = 0) then 14 else 12, [some (.ref 0), some (.int x), some (.int y)], [], w)) rfl ?_
  by_cases hj : jn A.1.1 x y = true
  · obtain ⟨a, b, ha, hb, hne, ex, ey, hx, hy, hg⟩ := jn_true hj
    unfold qWOf
    rw [if_pos hj, hx, hy]
    simp only
    rw [if_pos hg]
    refine xQ.brT rfl ?_
    obtain ⟨r1, w1, hc1, hr1, i1, n1, k1⟩ := c_tracedA hI
    subst hr1
    refine xQ.go 1 (F1 := (15, [some (.ref 0), some (.int x), some (.int y)], [.ref 0], w)) rfl ?_
    refine xQ.call rfl (hc1) ?_
    show xQ MX7_walkOf (18, [some (.ref 0), some (.int x), some (.int y)], [.int (if fl A.1.1 = true then 1 else 0)], w1) _
    refine xQ.go 1 (F1 := (bif decide ((if fl A.1.1 = true then 1 else 0) = 0) then 33 else 21, [some (.ref 0), some (.int x), some (.int y)], [], w1)) rfl ?_
    by_cases hf : fl A.1.1 = true
    · rw [if_pos hf, if_pos hf]
      refine xQ.brF rfl ?_
      rw [ex, ey]
      refine xQ.go 4 (F1 := (27, [some (.ref 0), some (.int (nI a)), some (.int (nI b))], [.int (nI b), .int (nI a), .ref 39], w1)) rfl ?_
      refine xQ.call rfl (c_ofDart ha hb) ?_
      show xQ MX7_walkOf (30, [some (.ref 0), some (.int (nI a)), some (.int (nI b))], [.int (w1.1 41 (10 * a + b))], w1) _
      rw [(n1 hf).2.2.2.1 (10 * a + b) (by omega)]
      refine xQ.go 1 (F1 := (35, [some (.ref 0), some (.int (nI a)), some (.int (nI b))], [.int (labI (-1) ((trG A.1.1 100).1 (10 * a + b)))], w1)) rfl ?_
      refine xQ.iret .int 1 rfl rfl (rfl) ?_
      exact ⟨rfl, i1, k1⟩
    · rw [if_neg hf, if_neg hf]
      refine xQ.brT rfl ?_
      refine xQ.go 1 (F1 := (35, [some (.ref 0), some (.int x), some (.int y)], [.int (-4)], w1)) rfl ?_
      refine xQ.iret .int 1 rfl rfl (rfl) ?_
      exact ⟨rfl, i1, k1⟩
  · have es : qWOf A x y = -1 := by
      unfold qWOf
      rcases jn_no hj with h | ⟨a, h, h2⟩ | ⟨a, b, h, h2, h3⟩
      · simp [h]
      · simp [h, h2]
      · simp [h, h2, h3]
    rw [if_neg hj, es]
    refine xQ.brF rfl ?_
    refine xQ.go 1 (F1 := (13, [some (.ref 0), some (.int x), some (.int y)], [.int (-1)], w)) rfl ?_
    refine xQ.iret .int 1 rfl rfl (rfl) ?_
    exact ⟨rfl, hI, xkq_rfl⟩
theorem trG_len {e : Int64} (hf : fl e = true) : (trG e 100).2.length ≤ (trG e 100).2.flatten.length ∧ (trG e 100).2.flatten.length ≤ 48 := by
  have hg := gr_gok e
  have hT : TOK (nxt (gr e)) (gr e) 100 (trG e 100) := trc_ok (nxt_hG hg hf) 100
  have h48 := flat_48 hg hf
  have h4 := hT.2.2.2
  exact ⟨(TOK_len hT).2, by omega⟩
theorem off_le {ws : List (List xPr)} {k : Nat} {L : List xPr} (h : ws[k]? = some L) : off ws (k + 1) ≤ ws.flatten.length ∧ off ws k + L.length ≤ ws.flatten.length := by
  have e := off_succ h
  have : off ws (k + 1) ≤ ws.flatten.length := by
    have e2 : ws.flatten.length = (ws.take (k + 1)).flatten.length + (ws.drop (k + 1)).flatten.length := by rw [← List.length_append, ← List.flatten_append, List.take_append_drop]
    unfold off
    omega
  omega
theorem getD_of {α : Type} {l : List α} {k : Nat} (h : k < l.length) (d : α) : l[k]? = some (l.getD k d) := by
  rw [List.getD_eq_getElem?_getD, List.getElem?_eq_getElem h]
  rfl
theorem C_wlen {w : xW} {A : xAb} {x : Int32} (hI : cI w A) : xD MX7_walkLength [.ref 0, .int x] w (cV w A (qWLen A x)) := by
  refine xD.of ?_
  show xQ MX7_walkLength (0, [some (.ref 0), some (.int x)], [], w) _
  obtain ⟨r1, w1, hc1, hr1, i1, n1, k1⟩ := c_tracedA hI
  subst hr1
  refine xQ.go 1 (F1 := (1, [some (.ref 0), some (.int x)], [.ref 0], w)) rfl ?_
  refine xQ.call rfl (hc1) ?_
  show xQ MX7_walkLength (4, [some (.ref 0), some (.int x)], [.int (if fl A.1.1 = true then 1 else 0)], w1) _
  unfold qWLen
  refine xQ.go 1 (F1 := (bif !decide ((if fl A.1.1 = true then 1 else 0) = 0) then 10 else 7, [some (.ref 0), some (.int x)], [], w1)) rfl ?_
  by_cases hf : fl A.1.1 = true
  · rw [if_pos hf, if_pos hf]
    refine xQ.brT rfl ?_
    obtain ⟨l1, l2⟩ := trG_len hf
    obtain ⟨_, _, _, wk⟩ := n1 hf
    generalize (trG A.1.1 100).2 = ws at *
    cases hx : kI ws.length x with
    | none =>
      refine xQ.go 3 (F1 := (15, [some (.ref 0), some (.int x)], [.int x, .ref 39], w1)) rfl ?_
      refine xQ.call rfl (c_wholds_0 wk.2.1 (kI_none hx) (by omega)) ?_
      show xQ MX7_walkLength (18, [some (.ref 0), some (.int x)], [.int 0], w1) _
      refine xQ.go 1 (F1 := (bif decide (0 = 0) then 32 else 21, [some (.ref 0), some (.int x)], [], w1)) rfl ?_
      refine xQ.brT (rfl) ?_
      refine xQ.go 1 (F1 := (33, [some (.ref 0), some (.int x)], [.int (-1)], w1)) rfl ?_
      refine xQ.iret .int 1 rfl rfl (rfl) ?_
      exact ⟨rfl, i1, k1⟩
    | some k =>
      obtain ⟨hk, ex⟩ := kI_some hx
      rw [ex]
      refine xQ.go 3 (F1 := (15, [some (.ref 0), some (.int (nI k))], [.int (nI k), .ref 39], w1)) rfl ?_
      refine xQ.call rfl (c_wholds wk.2.1 hk (by omega)) ?_
      show xQ MX7_walkLength (18, [some (.ref 0), some (.int (nI k))], [.int 1], w1) _
      refine xQ.go 1 (F1 := (bif decide (1 = 0) then 32 else 21, [some (.ref 0), some (.int (nI k))], [], w1)) rfl ?_
      refine xQ.brF (rfl) ?_
      have hL := getD_of hk ([] : List xPr)
      obtain ⟨o1, o2⟩ := wk.2.2.2.2 k hk
      have oe := off_succ hL
      refine xQ.go 3 (F1 := (26, [some (.ref 0), some (.int (nI k))], [.int (nI k), .ref 39], w1)) rfl ?_
      refine xQ.call rfl (c_wlen (show k < 48 by omega) o1 o2 (by omega)) ?_
      show xQ MX7_walkLength (29, [some (.ref 0), some (.int (nI k))], [.int (nI (off ws (k + 1) - off ws k))], w1) _
      refine xQ.go 1 (F1 := (33, [some (.ref 0), some (.int (nI k))], [.int (nI (off ws (k + 1) - off ws k))], w1)) rfl ?_
      rw [oe, Nat.add_sub_cancel_left]
      refine xQ.iret .int 1 rfl rfl (rfl) ?_
      exact ⟨rfl, i1, k1⟩
  · rw [if_neg hf, if_neg hf]
    refine xQ.brF rfl ?_
    refine xQ.go 1 (F1 := (9, [some (.ref 0), some (.int x)], [.int (-4)], w1)) rfl ?_
    refine xQ.iret .int 1 rfl rfl (rfl) ?_
    exact ⟨rfl, i1, k1⟩
theorem C_wvert {w : xW} {A : xAb} {x y : Int32} (hI : cI w A) : xD MX7_walkVertex [.ref 0, .int x, .int y] w (cV w A (qWVert A x y)) := by
  refine xD.of ?_
  show xQ MX7_walkVertex (0, [some (.ref 0), some (.int x), some (.int y)], [], w) _
  obtain ⟨r1, w1, hc1, hr1, i1, n1, k1⟩ := c_tracedA hI
  subst hr1
  refine xQ.go 1 (F1 := (1, [some (.ref 0), some (.int x), some (.int y)], [.ref 0], w)) rfl ?_
  refine xQ.call rfl (hc1) ?_
  show xQ MX7_walkVertex (4, [some (.ref 0), some (.int x), some (.int y)], [.int (if fl A.1.1 = true then 1 else 0)], w1) _
  unfold qWVert
  refine xQ.go 1 (F1 := (bif !decide ((if fl A.1.1 = true then 1 else 0) = 0) then 10 else 7, [some (.ref 0), some (.int x), some (.int y)], [], w1)) rfl ?_
  by_cases hf : fl A.1.1 = true
  · rw [if_pos hf, if_pos hf]
    refine xQ.brT rfl ?_
    obtain ⟨l1, l2⟩ := trG_len hf
    obtain ⟨_, _, _, wk⟩ := n1 hf
    generalize (trG A.1.1 100).2 = ws at *
    cases hx : kI ws.length x with
    | none =>
      refine xQ.go 3 (F1 := (15, [some (.ref 0), some (.int x), some (.int y)], [.int x, .ref 39], w1)) rfl ?_
      refine xQ.call rfl (c_wholds_0 wk.2.1 (kI_none hx) (by omega)) ?_
      show xQ MX7_walkVertex (18, [some (.ref 0), some (.int x), some (.int y)], [.int 0], w1) _
      refine xQ.go 1 (F1 := (bif decide (0 = 0) then 37 else 21, [some (.ref 0), some (.int x), some (.int y)], [], w1)) rfl ?_
      refine xQ.brT (rfl) ?_
      refine xQ.go 1 (F1 := (38, [some (.ref 0), some (.int x), some (.int y)], [.int (-1)], w1)) rfl ?_
      refine xQ.iret .int 1 rfl rfl (rfl) ?_
      exact ⟨rfl, i1, k1⟩
    | some k =>
      obtain ⟨hk, ex⟩ := kI_some hx
      rw [ex]
      refine xQ.go 3 (F1 := (15, [some (.ref 0), some (.int (nI k)), some (.int y)], [.int (nI k), .ref 39], w1)) rfl ?_
      refine xQ.call rfl (c_wholds wk.2.1 hk (by omega)) ?_
      show xQ MX7_walkVertex (18, [some (.ref 0), some (.int (nI k)), some (.int y)], [.int 1], w1) _
      refine xQ.go 1 (F1 := (bif decide (1 = 0) then 37 else 21, [some (.ref 0), some (.int (nI k)), some (.int y)], [], w1)) rfl ?_
      refine xQ.brF (rfl) ?_
      have hL := getD_of hk ([] : List xPr)
      obtain ⟨o1, o2⟩ := wk.2.2.2.2 k hk
      have oe := off_succ hL
      obtain ⟨ol1, ol2⟩ := off_le hL
      simp only
      generalize ws.getD k [] = L at *
      refine xQ.go 2 (F1 := (bif decide (y < 0) then 37 else 25, [some (.ref 0), some (.int (nI k)), some (.int y)], [], w1)) rfl ?_
      have lenc : xC MX6_lengthOf [.ref 39, .int (nI k)] w1 (some (.int (nI L.length))) w1 := by
        have := c_wlen (w := w1) (show k < 48 by omega) o1 o2 (by omega)
        rw [oe, Nat.add_sub_cancel_left] at this
        exact this
      cases hy : kI L.length y with
      | none =>
        have hno := kI_none hy
        by_cases h0 : y < 0
        · refine xQ.brT (decide_eq_true h0) ?_
          refine xQ.go 1 (F1 := (38, [some (.ref 0), some (.int (nI k)), some (.int y)], [.int (-1)], w1)) rfl ?_
          refine xQ.iret .int 1 rfl rfl (rfl) ?_
          exact ⟨rfl, i1, k1⟩
        · refine xQ.brF (decide_eq_false h0) ?_
          refine xQ.go 4 (F1 := (31, [some (.ref 0), some (.int (nI k)), some (.int y)], [.int (nI k), .ref 39, .int y], w1)) rfl ?_
          refine xQ.call rfl (lenc) ?_
          show xQ MX7_walkVertex (34, [some (.ref 0), some (.int (nI k)), some (.int y)], [.int (nI L.length), .int y], w1) _
          have hge : nI L.length ≤ y := Classical.byContradiction fun hc => by
            obtain ⟨j, hj, e⟩ := i_of (N := L.length) (by omega) (Int32.not_lt.mp h0) hc
            exact hno j hj e
          refine xQ.go 1 (F1 := (bif decide (y < (nI L.length)) then 39 else 37, [some (.ref 0), some (.int (nI k)), some (.int y)], [], w1)) rfl ?_
          refine xQ.brF (decide_eq_false (Int32.not_lt.mpr hge)) ?_
          refine xQ.go 1 (F1 := (38, [some (.ref 0), some (.int (nI k)), some (.int y)], [.int (-1)], w1)) rfl ?_
          refine xQ.iret .int 1 rfl rfl (rfl) ?_
          exact ⟨rfl, i1, k1⟩
      | some j =>
        obtain ⟨hj, ey⟩ := kI_some hy
        rw [ey]
        refine xQ.brF (decide_eq_false (nI_pos (by omega))) ?_
        refine xQ.go 4 (F1 := (31, [some (.ref 0), some (.int (nI k)), some (.int (nI j))], [.int (nI k), .ref 39, .int (nI j)], w1)) rfl ?_
        refine xQ.call rfl (lenc) ?_
        show xQ MX7_walkVertex (34, [some (.ref 0), some (.int (nI k)), some (.int (nI j))], [.int (nI L.length), .int (nI j)], w1) _
        refine xQ.go 1 (F1 := (bif decide ((nI j) < (nI L.length)) then 39 else 37, [some (.ref 0), some (.int (nI k)), some (.int (nI j))], [], w1)) rfl ?_
        refine xQ.brT (decide_eq_true (nI_lt hj (by omega))) ?_
        refine xQ.go 4 (F1 := (45, [some (.ref 0), some (.int (nI k)), some (.int (nI j))], [.int (nI j), .int (nI k), .ref 39], w1)) rfl ?_
        refine xQ.call rfl (c_wvert (show k < 49 by omega) o1 (show off ws k + j < 48 by omega)) ?_
        show xQ MX7_walkVertex (48, [some (.ref 0), some (.int (nI k)), some (.int (nI j))], [.int (w1.1 43 (off ws k + j))], w1) _
        rw [wk.2.2.2.1 _ _ (flat_get hL hj)]
        refine xQ.iret .int 1 rfl rfl (rfl) ?_
        refine ⟨?_, i1, k1⟩
        have := getD_of hj ((0, 0) : xPr)
        rw [List.getElem?_eq_getElem hj] at this
        simp only
        rw [← Option.some.inj this]
  · rw [if_neg hf, if_neg hf]
    refine xQ.brF rfl ?_
    refine xQ.go 1 (F1 := (9, [some (.ref 0), some (.int x), some (.int y)], [.int (-4)], w1)) rfl ?_
    refine xQ.iret .int 1 rfl rfl (rfl) ?_
    exact ⟨rfl, i1, k1⟩