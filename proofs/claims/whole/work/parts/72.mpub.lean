/-! the reference: public actions without an embedding -/
abbrev mQ (w : xW) (v : Int32 × xAb) (r : Option Value) (w1 : xW) : Prop := r = some (.int v.1) ∧ mI w1 v.2 ∧ xkq kM w w1
abbrev mV (w : xW) (A : xAb) (v : Int32) (r : Option Value) (w1 : xW) : Prop := r = some (.int v) ∧ mI w1 A ∧ xkq kM w w1
theorem M_add {w : xW} {A : xAb} {x y : Int32} (hI : mI w A) : xD MX8_add [.ref 45, .int x, .int y] w (mQ w (sAdd A x y)) := by
  refine xD.of ?_
  show xQ MX8_add (0, [some (.ref 45), some (.int x), some (.int y)], [], w) _
  refine xQ.go 1 (F1 := (1, [some (.ref 45), some (.int x), some (.int y)], [.int x], w)) rfl ?_
  refine xQ.call rfl (m_isV) ?_
  show xQ MX8_add (4, [some (.ref 45), some (.int x), some (.int y)], [.int (if (vI x).isSome = true then 1 else 0)], w) _
  refine xQ.go 1 (F1 := (bif decide ((if (vI x).isSome = true then 1 else 0) = 0) then 14 else 7, [some (.ref 45), some (.int x), some (.int y)], [], w)) rfl ?_
  unfold sAdd
  cases hx : vI x with
  | none =>
    refine xQ.brT rfl ?_
    refine xQ.go 1 (F1 := (15, [some (.ref 45), some (.int x), some (.int y)], [.int (-1)], w)) rfl ?_
    refine xQ.iret .int 1 rfl rfl (rfl) ?_
    exact ⟨rfl, hI, xkq_rfl⟩
  | some a =>
    refine xQ.brF rfl ?_
    obtain ⟨ha, ex⟩ := kI_some hx
    refine xQ.go 1 (F1 := (8, [some (.ref 45), some (.int x), some (.int y)], [.int y], w)) rfl ?_
    refine xQ.call rfl (m_isV) ?_
    show xQ MX8_add (11, [some (.ref 45), some (.int x), some (.int y)], [.int (if (vI y).isSome = true then 1 else 0)], w) _
    refine xQ.go 1 (F1 := (bif !decide ((if (vI y).isSome = true then 1 else 0) = 0) then 16 else 14, [some (.ref 45), some (.int x), some (.int y)], [], w)) rfl ?_
    cases hy : vI y with
    | none =>
      refine xQ.brF rfl ?_
      refine xQ.go 1 (F1 := (15, [some (.ref 45), some (.int x), some (.int y)], [.int (-1)], w)) rfl ?_
      refine xQ.iret .int 1 rfl rfl (rfl) ?_
      exact ⟨rfl, hI, xkq_rfl⟩
    | some b =>
      refine xQ.brT rfl ?_
      obtain ⟨hb, ey⟩ := kI_some hy
      simp only
      refine xQ.go 3 (F1 := (bif !decide (x = y) then 24 else 21, [some (.ref 45), some (.int x), some (.int y)], [], w)) rfl ?_
      by_cases e : a = b
      · rw [if_pos e]
        refine xQ.brF (by rw [ex, ey, e]; simp) ?_
        refine xQ.go 1 (F1 := (23, [some (.ref 45), some (.int x), some (.int y)], [.int (-2)], w)) rfl ?_
        refine xQ.iret .int 1 rfl rfl (rfl) ?_
        exact ⟨rfl, hI, xkq_rfl⟩
      · rw [if_neg e]
        have hne : x ≠ y := fun h => e (jI_inj (a := a) (b := b) (by omega) (by omega) (by rw [← ex, ← ey, h]))
        refine xQ.brT (by rw [decide_eq_false hne]; rfl) ?_
        refine xQ.go 3 (F1 := (27, [some (.ref 45), some (.int x), some (.int y)], [.int y, .int x, .ref 45], w)) rfl ?_
        refine xQ.call rfl (m_isEdge hI) ?_
        show xQ MX8_add (30, [some (.ref 45), some (.int x), some (.int y)], [.int (if jn A.1.1 x y = true then 1 else 0)], w) _
        have ej : jn A.1.1 x y = gr A.1.1 a b := by unfold jn; rw [hx, hy]
        rw [ej]
        refine xQ.go 1 (F1 := (bif decide ((if gr A.1.1 a b = true then 1 else 0) = 0) then 36 else 33, [some (.ref 45), some (.int x), some (.int y)], [], w)) rfl ?_
        by_cases hg : gr A.1.1 a b = true
        · rw [if_pos hg, if_pos hg]
          refine xQ.brF rfl ?_
          refine xQ.go 1 (F1 := (35, [some (.ref 45), some (.int x), some (.int y)], [.int (-4)], w)) rfl ?_
          refine xQ.iret .int 1 rfl rfl (rfl) ?_
          exact ⟨rfl, hI, xkq_rfl⟩
        · rw [if_neg hg, if_neg hg]
          refine xQ.brT rfl ?_
          obtain ⟨r2, w2, hc2, hr2, i2, k2⟩ := m_record hI
          subst hr2
          refine xQ.go 1 (F1 := (37, [some (.ref 45), some (.int x), some (.int y)], [.ref 45], w)) rfl ?_
          refine xQ.call rfl (hc2) ?_
          show xQ MX8_add (40, [some (.ref 45), some (.int x), some (.int y)], [], w2) _
          obtain ⟨r3, w3, hc3, hr3, i3, k3⟩ := m_flip (a := a) (b := b) i2 ha hb e
          rw [← ex, ← ey] at hc3
          subst hr3
          refine xQ.go 3 (F1 := (43, [some (.ref 45), some (.int x), some (.int y)], [.int y, .int x, .ref 45], w2)) rfl ?_
          refine xQ.call rfl (hc3) ?_
          show xQ MX8_add (46, [some (.ref 45), some (.int x), some (.int y)], [], w3) _
          refine xQ.go 1 (F1 := (47, [some (.ref 45), some (.int x), some (.int y)], [.ref 45], w3)) rfl ?_
          refine xQ.call rfl (m_edges i3) ?_
          show xQ MX8_add (50, [some (.ref 45), some (.int x), some (.int y)], [.int (nEd (flipS A.1 a b))], w3) _
          refine xQ.iret .int 1 rfl rfl (rfl) ?_
          exact ⟨rfl, i3, xkq_trans (xkq_mono rfl k2) (xkq_mono rfl k3)⟩
theorem M_drop {w : xW} {A : xAb} {x y : Int32} (hI : mI w A) : xD MX8_drop [.ref 45, .int x, .int y] w (mQ w (sDrop A x y)) := by
  refine xD.of ?_
  show xQ MX8_drop (0, [some (.ref 45), some (.int x), some (.int y)], [], w) _
  refine xQ.go 3 (F1 := (3, [some (.ref 45), some (.int x), some (.int y)], [.int y, .int x, .ref 45], w)) rfl ?_
  refine xQ.call rfl (m_isEdge hI) ?_
  show xQ MX8_drop (6, [some (.ref 45), some (.int x), some (.int y)], [.int (if jn A.1.1 x y = true then 1 else 0)], w) _
  refine xQ.go 1 (F1 := (bif !decide ((if jn A.1.1 x y = true then 1 else 0) = 0) then 11 else 9, [some (.ref 45), some (.int x), some (.int y)], [], w)) rfl ?_
  by_cases hj : jn A.1.1 x y = true
  · obtain ⟨a, b, ha, hb, hne, ex, ey, hx, hy, hg⟩ := jn_true hj
    rw [if_pos hj]
    refine xQ.brT rfl ?_
    have es : sDrop A x y = (nEd (flipS A.1 a b), (flipS A.1 a b, recH A.2.1 A.1, A.2.2)) := by
      unfold sDrop
      rw [hx, hy]
      simp only
      rw [if_pos hg]
    rw [es]
    obtain ⟨r2, w2, hc2, hr2, i2, k2⟩ := m_record hI
    subst hr2
    refine xQ.go 1 (F1 := (12, [some (.ref 45), some (.int x), some (.int y)], [.ref 45], w)) rfl ?_
    refine xQ.call rfl (hc2) ?_
    show xQ MX8_drop (15, [some (.ref 45), some (.int x), some (.int y)], [], w2) _
    obtain ⟨r3, w3, hc3, hr3, i3, k3⟩ := m_flip (a := a) (b := b) i2 ha hb hne
    rw [← ex, ← ey] at hc3
    subst hr3
    refine xQ.go 3 (F1 := (18, [some (.ref 45), some (.int x), some (.int y)], [.int y, .int x, .ref 45], w2)) rfl ?_
    refine xQ.call rfl (hc3) ?_
    show xQ MX8_drop (21, [some (.ref 45), some (.int x), some (.int y)], [], w3) _
    refine xQ.go 1 (F1 := (22, [some (.ref 45), some (.int x), some (.int y)], [.ref 45], w3)) rfl ?_
    refine xQ.call rfl (m_edges i3) ?_
    show xQ MX8_drop (25, [some (.ref 45), some (.int x), some (.int y)], [.int (nEd (flipS A.1 a b))], w3) _
    refine xQ.iret .int 1 rfl rfl (rfl) ?_
    exact ⟨rfl, i3, xkq_trans (xkq_mono rfl k2) (xkq_mono rfl k3)⟩
  · have es : sDrop A x y = (-1, A) := by
      unfold sDrop
      rcases jn_no hj with h | ⟨a, h, h2⟩ | ⟨a, b, h, h2, h3⟩
      · simp [h]
      · simp [h, h2]
      · simp [h, h2, h3]
    rw [if_neg hj, es]
    refine xQ.brF rfl ?_
    refine xQ.go 1 (F1 := (10, [some (.ref 45), some (.int x), some (.int y)], [.int (-1)], w)) rfl ?_
    refine xQ.iret .int 1 rfl rfl (rfl) ?_
    exact ⟨rfl, hI, xkq_rfl⟩
theorem M_clear {w : xW} {A : xAb} (hM : mI w A) : xD MX8_clear [.ref 45] w (mQ w (sClear A)) := by
  refine xD.of ?_
  show xQ MX8_clear (0, [some (.ref 45), none, none], [], w) _
  obtain ⟨r2, w2, hc2, hr2, i2, k2⟩ := m_record hM
  subst hr2
  refine xQ.go 1 (F1 := (1, [some (.ref 45), none, none], [.ref 45], w)) rfl ?_
  refine xQ.call rfl (hc2) ?_
  show xQ MX8_clear (4, [some (.ref 45), none, none], [], w2) _
  refine xQ.go 1 (F1 := (5, [some (.ref 45), none, none], [.ref 45], w2)) rfl ?_
  refine xQ.call rfl (m_edges i2) ?_
  show xQ MX8_clear (8, [some (.ref 45), none, none], [.int (nEd A.1)], w2) _
  refine xQ.go 3 (F1 := (11, [some (.ref 45), some (.int (nEd A.1)), some (.int 0)], [], w2)) rfl ?_
  refine xQ.loop (S := xW) (fun k s => (11, [some (.ref 45), some (.int (nEd A.1)), some (.int (nI k))], [], s)) (fun k s => (∀ j, j < k → s.1 46 j = 0) ∧ (∀ j, 10 ≤ j → s.1 46 j = w2.1 46 j) ∧ xkq [(46, none)] w2 s) 10 w2 (rfl) (⟨(fun j hj => absurd hj (by omega)), (fun j hj => rfl), xkq_rfl⟩) ?_ ?_
  · intro k s hk hI K
    obtain ⟨j1, j2, j3⟩ := hI
    refine xQ.go 3 (F1 := (bif decide (10 ≤ (nI k)) then 30 else 17, [some (.ref 45), some (.int (nEd A.1)), some (.int (nI k))], [], s)) rfl ?_
    refine xQ.brF (decide_eq_false (nI_ge (b := 10) (by omega) (by omega))) ?_
    refine xQ.go 4 (F1 := (23, [some (.ref 45), some (.int (nEd A.1)), some (.int (nI k))], [.int 0, .int (nI k), .ref 46], s)) rfl ?_
    refine xQ.iast rfl (k := k) (rfl) (⟨by omega, by omega⟩) rfl ?_
    show xQ MX8_clear (24, [some (.ref 45), some (.int (nEd A.1)), some (.int (nI k))], [], (xuI s 46 k 0)) _
    refine xQ.go 2 (F1 := (11, [some (.ref 45), some (.int (nEd A.1)), some (.int ((nI k) + 1))], [], (xuI s 46 k 0))) rfl ?_
    rw [← nI_succ]
    refine K _ ⟨fun j hj => ?_, fun j hj => ?_, xkq_I j3 rfl⟩
    · rw [uI1]
      by_cases e : j = k
      · rw [if_pos ⟨rfl, e⟩]
      · rw [if_neg (fun h => e h.2)]
        exact j1 j (by omega)
    · rw [uI1, if_neg (by omega)]
      exact j2 j hj
  · intro s hI
    obtain ⟨j1, j2, j3⟩ := hI
    obtain ⟨ak, n, hh, ss, t⟩ := i2
    have r11 : s.1 46 11 = A.1.2.2 := by rw [j2 11 (by omega)]; exact n.2.2
    refine xQ.go 3 (F1 := (bif decide (10 ≤ (nI 10)) then 30 else 17, [some (.ref 45), some (.int (nEd A.1)), some (.int (nI 10))], [], s)) rfl ?_
    refine xQ.brT (rfl) ?_
    refine xQ.go 6 (F1 := (39, [some (.ref 45), some (.int (nEd A.1)), some (.int (nI 10))], [.int (nEd A.1), .int (s.1 46 11), .int 11, .ref 46], s)) rfl ?_
    rw [r11]
    refine xQ.go 3 (F1 := (42, [some (.ref 45), some (.int (nEd A.1)), some (.int (nI 10))], [.int (nEd A.1)], (xuI s 46 11 (A.1.2.2 + (nEd A.1))))) rfl ?_
    refine xQ.iret .int 1 rfl rfl (rfl) ?_
    have kk : xkq [(46, none)] w2 (xuI s 46 11 (A.1.2.2 + nEd A.1)) := xkq_I j3 rfl
    refine ⟨rfl, ⟨⟨jok_0, ak.2⟩, ⟨fun v hv => ?_, ?_, ?_⟩, mH_kq hh kk, mS_kq ss kk, mT_kq t kk⟩, xkq_trans (xkq_mono rfl k2) (xkq_mono rfl kk)⟩
    · rw [uI1, if_neg (by omega), Nat.zero_add, j1 v hv, mk_0]
      exact mk_ext fun z _ => (gr_zero v z).symm
    · rw [uI1, if_neg (by omega), j2 _ (by omega)]
      exact n.2.1
    · rw [uI1, if_pos ⟨rfl, by omega⟩]
      rfl
theorem M_app {w : xW} {A : xAb} {x : Int32} (hI : mI w A) : xD MX8_append [.ref 45, .int x] w (mQ w (sApp A x)) := by
  refine xD.of ?_
  show xQ MX8_append (0, [some (.ref 45), some (.int x)], [], w) _
  refine xQ.go 3 (F1 := (5, [some (.ref 45), some (.int x)], [.int 126, .int 32, .int x], w)) rfl ?_
  refine xQ.call rfl (m_within) ?_
  show xQ MX8_append (8, [some (.ref 45), some (.int x)], [.int (if 32 ≤ x ∧ x ≤ 126 then 1 else 0)], w) _
  unfold sApp
  refine xQ.go 1 (F1 := (bif !decide ((if 32 ≤ x ∧ x ≤ 126 then 1 else 0) = 0) then 14 else 11, [some (.ref 45), some (.int x)], [], w)) rfl ?_
  by_cases hr : 32 ≤ x ∧ x ≤ 126
  · rw [if_pos hr, if_neg (fun h => h.elim (fun g => Int32.not_lt.mpr hr.1 g) (fun g => Int32.not_lt.mpr hr.2 g))]
    refine xQ.brT rfl ?_
    obtain ⟨c, hc127, ec⟩ := i_of (x := x) (N := 127) (by omega) (Int32.le_trans (by decide) hr.1) (fun h => absurd (Int32.le_trans h hr.2) (by decide))
    have hc32 : 32 ≤ c := by
      refine Nat.le_of_not_lt fun h => ?_
      have := hr.1
      rw [ec] at this
      exact nI_ge (a := c) (b := 32) h (by omega) this
    have ecl : x.toNatClampNeg = c := by rw [ec]; exact nI_clamp (by omega)
    obtain ⟨ak, n, hh, s, t⟩ := hI
    have h80 := t.2.1.1
    refine xQ.go 4 (F1 := (bif !decide ((w.1 45 6) = 80) then 26 else 23, [some (.ref 45), some (.int x)], [], w)) rfl ?_
    rw [t.1, show (80 : Int32) = nI 80 from rfl, nI_dec (by omega) (by omega)]
    by_cases e80 : A.2.2.2.length = 80
    · rw [if_pos e80]
      refine xQ.brF (by rw [decide_eq_true e80]; rfl) ?_
      refine xQ.go 1 (F1 := (25, [some (.ref 45), some (.int x)], [.int (-3)], w)) rfl ?_
      refine xQ.iret .int 1 rfl rfl (rfl) ?_
      exact ⟨rfl, ⟨ak, n, hh, s, t⟩, xkq_rfl⟩
    · rw [if_neg e80]
      refine xQ.brT (by rw [decide_eq_false e80]; rfl) ?_
      refine xQ.go 5 (F1 := (35, [some (.ref 45), some (.int x)], [.int x, .int (w.1 45 6), .ref 49], w)) rfl ?_
      refine xQ.iast rfl (k := A.2.2.2.length) (t.1) (⟨by omega, by omega⟩) rfl ?_
      show xQ MX8_append (36, [some (.ref 45), some (.int x)], [], (xuI w 49 A.2.2.2.length x)) _
      refine xQ.go 5 (F1 := (43, [some (.ref 45), some (.int x)], [.int ((w.1 45 6) + 1), .ref 45], (xuI w 49 A.2.2.2.length x))) rfl ?_
      rw [t.1, ← nI_succ]
      refine xQ.go 3 (F1 := (50, [some (.ref 45), some (.int x)], [.int (nI (A.2.2.2.length + 1))], (xuI (xuI w 49 A.2.2.2.length x) 45 6 (nI (A.2.2.2.length + 1))))) rfl ?_
      refine xQ.iret .int 1 rfl rfl (rfl) ?_
      have k : xkq [(45, some 6), (49, none)] w (xuI (xuI w 49 A.2.2.2.length x) 45 6 (nI (A.2.2.2.length + 1))) := xkq_I (xkq_I xkq_rfl rfl) rfl
      refine ⟨rfl, ⟨ak, rowM_kq n k rfl, mH_kq hh k, mS_kq s k, ⟨?_, ⟨?_, fun z hz => ?_⟩, fun i z hz => ?_⟩⟩, xkq_mono rfl k⟩
      · simp [uI1]
      · show (A.2.2.2 ++ [x.toNatClampNeg]).length ≤ 80
        rw [List.length_append]
        show A.2.2.2.length + 1 ≤ 80
        omega
      · rcases List.mem_append.mp hz with h | h
        · exact t.2.1.2 z h
        · rw [List.mem_singleton.mp h, ecl]
          exact ⟨hc32, by omega⟩
      · by_cases ei : i = A.2.2.2.length
        · subst ei
          have : (A.2.2.2 ++ [x.toNatClampNeg])[A.2.2.2.length]? = some x.toNatClampNeg := by simp
          rw [this] at hz
          cases hz
          rw [ecl, ← ec]
          simp [uI1]
        · have hl := (List.getElem?_eq_some_iff.mp hz).1
          rw [List.length_append] at hl
          simp only [List.length_cons, List.length_nil] at hl
          rw [List.getElem?_append_left (by omega)] at hz
          rw [← t.2.2 i z hz]
          simp [uI1, ei]
  · rw [if_neg hr, if_pos (by
      by_cases h : 32 ≤ x
      · exact Or.inr (Int32.not_le.mp (fun g => hr ⟨h, g⟩))
      · exact Or.inl (Int32.not_le.mp h))]
    refine xQ.brF rfl ?_
    refine xQ.go 1 (F1 := (13, [some (.ref 45), some (.int x)], [.int (-2)], w)) rfl ?_
    refine xQ.iret .int 1 rfl rfl (rfl) ?_
    exact ⟨rfl, hI, xkq_rfl⟩
theorem M_ct {w : xW} {A : xAb} (hI : mI w A) : xD MX8_clearText [.ref 45] w (mQ w (sCT A)) := by
  obtain ⟨ak, n, hh, s, t⟩ := hI
  refine xD.of ?_
  show xQ MX8_clearText (0, [some (.ref 45), none], [], w) _
  refine xQ.go 2 (F1 := (4, [some (.ref 45), none], [.int (w.1 45 6)], w)) rfl ?_
  rw [t.1]
  refine xQ.go 5 (F1 := (11, [some (.ref 45), some (.int (nI A.2.2.2.length))], [.int (nI A.2.2.2.length)], (xuI w 45 6 0))) rfl ?_
  refine xQ.iret .int 1 rfl rfl (rfl) ?_
  have k : xkq [(45, some 6)] w (xuI w 45 6 0) := xkq_I xkq_rfl rfl
  exact ⟨rfl, ⟨ak, rowM_kq n k rfl, mH_kq hh k, mS_kq s k, ⟨by simp [uI1]; rfl, ⟨Nat.zero_le _, fun z hz => by cases hz⟩, fun i z hz => by cases hz⟩⟩, xkq_mono rfl k⟩
theorem M_undo {w : xW} {A : xAb} (hM : mI w A) : xD MX8_undo [.ref 45] w (mQ w (sUndo A)) := by
  obtain ⟨ak, n, hh, ss, t⟩ := hM
  refine xD.of ?_
  show xQ MX8_undo (0, [some (.ref 45), none], [], w) _
  unfold sUndo
  cases hl : A.2.1.getLast? with
  | none =>
    have e0 : A.2.1 = [] := List.getLast?_eq_none_iff.mp hl
    refine xQ.go 3 (F1 := (bif !decide ((w.1 45 2) = 0) then 10 else 7, [some (.ref 45), none], [], w)) rfl ?_
    refine xQ.brF (by rw [hh.1, e0]; rfl) ?_
    refine xQ.go 1 (F1 := (9, [some (.ref 45), none], [.int (-5)], w)) rfl ?_
    refine xQ.iret .int 1 rfl rfl (rfl) ?_
    exact ⟨rfl, ⟨ak, n, hh, ss, t⟩, xkq_rfl⟩
  | some z =>
    have hne : A.2.1 ≠ [] := fun e => by rw [e] at hl; cases hl
    have hlen : A.2.1.length - 1 + 1 = A.2.1.length := by
      have := List.length_pos_iff.mpr hne
      omega
    have h5 := ak.2.1.1
    obtain ⟨m, hm⟩ : ∃ m, m = A.2.1.length - 1 := ⟨_, rfl⟩
    rw [← hm] at hlen
    have hz : A.2.1[m]? = some z := by rw [hm, ← List.getLast?_eq_getElem?]; exact hl
    have hzm : z ∈ A.2.1 := List.mem_of_getElem? hz
    refine xQ.go 3 (F1 := (bif !decide ((w.1 45 2) = 0) then 10 else 7, [some (.ref 45), none], [], w)) rfl ?_
    refine xQ.brT (by rw [hh.1, ← hlen]; rw [decide_eq_false (nI_ne0 (by omega) (by omega))]; rfl) ?_
    refine xQ.go 5 (F1 := (17, [some (.ref 45), none], [.int ((w.1 45 2) - 1), .ref 45], w)) rfl ?_
    rw [hh.1, ← hlen, nI_pred]
    refine xQ.go 3 (F1 := (22, [some (.ref 45), some (.int 0)], [], (xuI w 45 2 (nI m)))) rfl ?_
    refine xQ.loop (S := xW) (fun k s => (22, [some (.ref 45), some (.int (nI k))], [], s)) (fun k s => (∀ j, j < k → s.1 46 j = w.1 47 (12 * m + j)) ∧ xkq [(46, none)] (xuI w 45 2 (nI m)) s) 12 (xuI w 45 2 (nI m)) (rfl) (⟨(fun j hj => absurd hj (by omega)), xkq_rfl⟩) ?_ ?_
    · intro k s hk hI K
      obtain ⟨i1, i2⟩ := hI
      refine xQ.go 3 (F1 := (bif decide (12 ≤ (nI k)) then 54 else 28, [some (.ref 45), some (.int (nI k))], [], s)) rfl ?_
      refine xQ.brF (decide_eq_false (nI_ge (b := 12) (by omega) (by omega))) ?_
      refine xQ.go 11 (F1 := (46, [some (.ref 45), some (.int (nI k))], [.int (((s.1 45 2) * 12) + (nI k)), .ref 47, .int (nI k), .ref 46], s)) rfl ?_
      rw [xkq_at i2 45 2, show (xuI w 45 2 (nI m)).1 45 2 = nI m by simp [uI1], show (12 : Int32) = nI 12 from rfl, jI_mul, jI_add, Nat.mul_comm m 12]
      refine xQ.iald rfl (k := (12 * m + k)) (rfl) (⟨by omega, by omega⟩) rfl ?_
      show xQ MX8_undo (47, [some (.ref 45), some (.int (nI k))], [.int (s.1 47 (12 * m + k)), .int (nI k), .ref 46], s) _
      rw [xkq_at i2 47 _, show (xuI w 45 2 (nI m)).1 47 (12 * m + k) = w.1 47 (12 * m + k) by rw [uI1, if_neg (by omega)]]
      refine xQ.iast rfl (k := k) (rfl) (⟨by omega, by omega⟩) rfl ?_
      show xQ MX8_undo (48, [some (.ref 45), some (.int (nI k))], [], (xuI s 46 k (w.1 47 (12 * m + k)))) _
      refine xQ.go 2 (F1 := (22, [some (.ref 45), some (.int ((nI k) + 1))], [], (xuI s 46 k (w.1 47 (12 * m + k))))) rfl ?_
      rw [← nI_succ]
      refine K _ ⟨fun j hj => ?_, xkq_I i2 rfl⟩
      rw [uI1]
      by_cases e : j = k
      · rw [if_pos ⟨rfl, e⟩, e]
      · rw [if_neg (fun h => e h.2)]
        exact i1 j (by omega)
    · intro s hI
      obtain ⟨i1, i2⟩ := hI
      refine xQ.go 3 (F1 := (bif decide (12 ≤ (nI 12)) then 54 else 28, [some (.ref 45), some (.int (nI 12))], [], s)) rfl ?_
      refine xQ.brT (rfl) ?_
      refine xQ.go 2 (F1 := (58, [some (.ref 45), some (.int (nI 12))], [.int (s.1 45 2)], s)) rfl ?_
      rw [xkq_at i2 45 2, show (xuI w 45 2 (nI m)).1 45 2 = nI m by simp [uI1]]
      refine xQ.iret .int 1 rfl rfl (rfl) ?_
      have k : xkq [(45, some 2), (46, none)] w s := xkq_trans (xkq_I xkq_rfl rfl) (xkq_mono rfl i2)
      refine ⟨rfl, ⟨⟨ak.2.1.2 z hzm, ⟨?_, fun y hy => ak.2.1.2 y ((List.dropLast_sublist A.2.1).subset hy)⟩, ak.2.2⟩, rowM_of (hh.2 m z hz) (fun j hj => by rw [Nat.zero_add]; exact i1 j hj), ⟨?_, fun i y hy => ?_⟩, mS_kq ss k, mT_kq t k⟩, xkq_mono rfl k⟩
      · show A.2.1.dropLast.length ≤ 5
        rw [List.length_dropLast]
        omega
      · show _ = nI A.2.1.dropLast.length
        rw [List.length_dropLast, ← hm, xkq_at i2 45 2]
        simp [uI1]
      · have hy2 : A.2.1[i]? = some y := by
          rw [List.getElem?_dropLast] at hy
          by_cases e : i < A.2.1.length - 1
          · rw [if_pos e] at hy; exact hy
          · rw [if_neg e] at hy; cases hy
        exact rowM_kq (hh.2 i y hy2) k rfl
theorem M_save {w : xW} {A : xAb} (hM : mI w A) : xD MX8_save [.ref 45] w (mQ w (sSave A)) := by
  obtain ⟨ak, n, hh, ss, t⟩ := hM
  refine xD.of ?_
  show xQ MX8_save (0, [some (.ref 45), none], [], w) _
  refine xQ.go 2 (F1 := (2, [some (.ref 45), some (.int 0)], [], w)) rfl ?_
  refine xQ.loop (S := xW) (fun k s => (2, [some (.ref 45), some (.int (nI k))], [], s)) (fun k s => (∀ j, j < k → s.1 48 j = w.1 46 j) ∧ xkq [(48, none)] w s) 12 w (rfl) (⟨(fun j hj => absurd hj (by omega)), xkq_rfl⟩) ?_ ?_
  · intro k s hk hI K
    obtain ⟨i1, i2⟩ := hI
    refine xQ.go 3 (F1 := (bif decide (12 ≤ (nI k)) then 26 else 8, [some (.ref 45), some (.int (nI k))], [], s)) rfl ?_
    refine xQ.brF (decide_eq_false (nI_ge (b := 12) (by omega) (by omega))) ?_
    refine xQ.go 6 (F1 := (18, [some (.ref 45), some (.int (nI k))], [.int (nI k), .ref 46, .int (nI k), .ref 48], s)) rfl ?_
    refine xQ.iald rfl (k := k) (rfl) (⟨by omega, by omega⟩) rfl ?_
    show xQ MX8_save (19, [some (.ref 45), some (.int (nI k))], [.int (s.1 46 k), .int (nI k), .ref 48], s) _
    rw [xkq_at i2 46 k]
    refine xQ.iast rfl (k := k) (rfl) (⟨by omega, by omega⟩) rfl ?_
    show xQ MX8_save (20, [some (.ref 45), some (.int (nI k))], [], (xuI s 48 k (w.1 46 k))) _
    refine xQ.go 2 (F1 := (2, [some (.ref 45), some (.int ((nI k) + 1))], [], (xuI s 48 k (w.1 46 k)))) rfl ?_
    rw [← nI_succ]
    refine K _ ⟨fun j hj => ?_, xkq_I i2 rfl⟩
    rw [uI1]
    by_cases e : j = k
    · rw [if_pos ⟨rfl, e⟩, e]
    · rw [if_neg (fun h => e h.2)]
      exact i1 j (by omega)
  · intro s hI
    obtain ⟨i1, i2⟩ := hI
    refine xQ.go 3 (F1 := (bif decide (12 ≤ (nI 12)) then 26 else 8, [some (.ref 45), some (.int (nI 12))], [], s)) rfl ?_
    refine xQ.brT (rfl) ?_
    refine xQ.go 3 (F1 := (31, [some (.ref 45), some (.int (nI 12))], [], (xuI s 45 4 1))) rfl ?_
    have k : xkq [(45, some 4), (48, none)] w (xuI s 45 4 1) := xkq_I (xkq_mono rfl i2) rfl
    have hI1 : mI (xuI s 45 4 1) (A.1, A.2.1, some A.1, A.2.2.2) := ⟨⟨ak.1, ak.2.1, fun z hz => by cases hz; exact ak.1⟩, rowM_kq n k rfl, mH_kq hh k, ⟨by simp [uI1], rowM_of n (fun j hj => by rw [uI1, if_neg (by omega), Nat.zero_add]; exact i1 j hj)⟩, mT_kq t k⟩
    refine xQ.go 1 (F1 := (32, [some (.ref 45), some (.int (nI 12))], [.ref 45], (xuI s 45 4 1))) rfl ?_
    refine xQ.call rfl (m_edges hI1) ?_
    show xQ MX8_save (35, [some (.ref 45), some (.int (nI 12))], [.int (nEd A.1)], (xuI s 45 4 1)) _
    refine xQ.iret .int 1 rfl rfl (rfl) ?_
    exact ⟨rfl, hI1, xkq_mono rfl k⟩
theorem M_rest {w : xW} {A : xAb} (hM : mI w A) : xD MX8_restore [.ref 45] w (mQ w (sRest A)) := by
  have hs := hM.2.2.2.1
  refine xD.of ?_
  show xQ MX8_restore (0, [some (.ref 45), none], [], w) _
  unfold sRest
  cases hA : A.2.2.1 with
  | none =>
    rw [hA] at hs
    refine xQ.go 3 (F1 := (bif !decide ((w.1 45 4) = 0) then 10 else 7, [some (.ref 45), none], [], w)) rfl ?_
    refine xQ.brF (by rw [show w.1 45 4 = 0 from hs]; rfl) ?_
    refine xQ.go 1 (F1 := (9, [some (.ref 45), none], [.int (-4)], w)) rfl ?_
    refine xQ.iret .int 1 rfl rfl (rfl) ?_
    exact ⟨rfl, hM, xkq_rfl⟩
  | some z =>
    rw [hA] at hs
    refine xQ.go 3 (F1 := (bif !decide ((w.1 45 4) = 0) then 10 else 7, [some (.ref 45), none], [], w)) rfl ?_
    refine xQ.brT (by rw [hs.1]; rfl) ?_
    obtain ⟨r2, w2, hc2, hr2, i2, k2⟩ := m_record hM
    subst hr2
    refine xQ.go 1 (F1 := (11, [some (.ref 45), none], [.ref 45], w)) rfl ?_
    refine xQ.call rfl (hc2) ?_
    show xQ MX8_restore (14, [some (.ref 45), none], [], w2) _
    refine xQ.go 2 (F1 := (16, [some (.ref 45), some (.int 0)], [], w2)) rfl ?_
    refine xQ.loop (S := xW) (fun k s => (16, [some (.ref 45), some (.int (nI k))], [], s)) (fun k s => (∀ j, j < k → s.1 46 j = w2.1 48 j) ∧ xkq [(46, none)] w2 s) 12 w2 (rfl) (⟨(fun j hj => absurd hj (by omega)), xkq_rfl⟩) ?_ ?_
    · intro k s hk hI K
      obtain ⟨i1, i3⟩ := hI
      refine xQ.go 3 (F1 := (bif decide (12 ≤ (nI k)) then 40 else 22, [some (.ref 45), some (.int (nI k))], [], s)) rfl ?_
      refine xQ.brF (decide_eq_false (nI_ge (b := 12) (by omega) (by omega))) ?_
      refine xQ.go 6 (F1 := (32, [some (.ref 45), some (.int (nI k))], [.int (nI k), .ref 48, .int (nI k), .ref 46], s)) rfl ?_
      refine xQ.iald rfl (k := k) (rfl) (⟨by omega, by omega⟩) rfl ?_
      show xQ MX8_restore (33, [some (.ref 45), some (.int (nI k))], [.int (s.1 48 k), .int (nI k), .ref 46], s) _
      rw [xkq_at i3 48 k]
      refine xQ.iast rfl (k := k) (rfl) (⟨by omega, by omega⟩) rfl ?_
      show xQ MX8_restore (34, [some (.ref 45), some (.int (nI k))], [], (xuI s 46 k (w2.1 48 k))) _
      refine xQ.go 2 (F1 := (16, [some (.ref 45), some (.int ((nI k) + 1))], [], (xuI s 46 k (w2.1 48 k)))) rfl ?_
      rw [← nI_succ]
      refine K _ ⟨fun j hj => ?_, xkq_I i3 rfl⟩
      rw [uI1]
      by_cases e : j = k
      · rw [if_pos ⟨rfl, e⟩, e]
      · rw [if_neg (fun h => e h.2)]
        exact i1 j (by omega)
    · intro s hI
      obtain ⟨i1, i3⟩ := hI
      obtain ⟨ak, n, hh, s4, t⟩ := i2
      simp only at s4
      have s5 := s4
      rw [hA] at s5
      refine xQ.go 3 (F1 := (bif decide (12 ≤ (nI 12)) then 40 else 22, [some (.ref 45), some (.int (nI 12))], [], s)) rfl ?_
      refine xQ.brT (rfl) ?_
      have hI1 : mI s (z, recH A.2.1 A.1, A.2.2) := ⟨⟨ak.2.2 z hA, ak.2⟩, rowM_of s5.2 (fun j hj => by rw [Nat.zero_add]; exact i1 j hj), mH_kq hh i3, mS_kq s4 i3, mT_kq t i3⟩
      refine xQ.go 1 (F1 := (41, [some (.ref 45), some (.int (nI 12))], [.ref 45], s)) rfl ?_
      refine xQ.call rfl (m_edges hI1) ?_
      show xQ MX8_restore (44, [some (.ref 45), some (.int (nI 12))], [.int (nEd z)], s) _
      refine xQ.iret .int 1 rfl rfl (rfl) ?_
      exact ⟨rfl, hI1, xkq_trans (xkq_mono rfl k2) (xkq_mono rfl i3)⟩
theorem M_nb {w : xW} {A : xAb} {x : Int32} (hI : mI w A) : xD MX8_neighbors [.ref 45, .int x] w (mV w A (qNb A x)) := by
  refine xD.of ?_
  show xQ MX8_neighbors (0, [some (.ref 45), some (.int x)], [], w) _
  refine xQ.go 1 (F1 := (1, [some (.ref 45), some (.int x)], [.int x], w)) rfl ?_
  refine xQ.call rfl (m_isV) ?_
  show xQ MX8_neighbors (4, [some (.ref 45), some (.int x)], [.int (if (vI x).isSome = true then 1 else 0)], w) _
  refine xQ.go 1 (F1 := (bif decide ((if (vI x).isSome = true then 1 else 0) = 0) then 16 else 7, [some (.ref 45), some (.int x)], [], w)) rfl ?_
  unfold qNb
  cases hx : vI x with
  | none =>
    refine xQ.brT rfl ?_
    refine xQ.go 1 (F1 := (17, [some (.ref 45), some (.int x)], [.int (-1)], w)) rfl ?_
    refine xQ.iret .int 1 rfl rfl (rfl) ?_
    exact ⟨rfl, hI, xkq_rfl⟩
  | some v =>
    refine xQ.brF rfl ?_
    obtain ⟨hv, ex⟩ := kI_some hx
    rw [ex]
    refine xQ.go 3 (F1 := (12, [some (.ref 45), some (.int (nI v))], [.int (nI v), .ref 46], w)) rfl ?_
    refine xQ.iald rfl (k := v) (rfl) (⟨by omega, by omega⟩) rfl ?_
    show xQ MX8_neighbors (13, [some (.ref 45), some (.int (nI v))], [.int (w.1 46 v)], w) _
    have hr := hI.2.1.1 v hv
    rw [Nat.zero_add] at hr
    rw [hr]
    refine xQ.go 1 (F1 := (17, [some (.ref 45), some (.int (nI v))], [.int (mk (gr A.1.1 v))], w)) rfl ?_
    refine xQ.iret .int 1 rfl rfl (rfl) ?_
    exact ⟨rfl, hI, xkq_rfl⟩
/-! the graph that is looked at -/
def gM (w : xW) (G : Nat → Nat → Bool) : Prop := ∀ v, v < 10 → w.1 50 v = mk (G v)
theorem m_take {w : xW} {A : xAb} (hM : mI w A) : xD MX8_takeGraph [.ref 45] w (fun r w1 => r = none ∧ gM w1 (gr A.1.1) ∧ xkq [(50, none)] w w1) := by
  refine xD.of ?_
  show xQ MX8_takeGraph (0, [some (.ref 45), none], [], w) _
  refine xQ.go 2 (F1 := (2, [some (.ref 45), some (.int 0)], [], w)) rfl ?_
  refine xQ.loop (S := xW) (fun k s => (2, [some (.ref 45), some (.int (nI k))], [], s)) (fun k s => (∀ j, j < k → s.1 50 j = w.1 46 j) ∧ xkq [(50, none)] w s) 10 w (rfl) (⟨(fun j hj => absurd hj (by omega)), xkq_rfl⟩) ?_ ?_
  · intro k s hk hI K
    obtain ⟨i1, i2⟩ := hI
    refine xQ.go 3 (F1 := (bif decide (10 ≤ (nI k)) then 26 else 8, [some (.ref 45), some (.int (nI k))], [], s)) rfl ?_
    refine xQ.brF (decide_eq_false (nI_ge (b := 10) (by omega) (by omega))) ?_
    refine xQ.go 6 (F1 := (18, [some (.ref 45), some (.int (nI k))], [.int (nI k), .ref 46, .int (nI k), .ref 50], s)) rfl ?_
    refine xQ.iald rfl (k := k) (rfl) (⟨by omega, by omega⟩) rfl ?_
    show xQ MX8_takeGraph (19, [some (.ref 45), some (.int (nI k))], [.int (s.1 46 k), .int (nI k), .ref 50], s) _
    rw [xkq_at i2 46 k]
    refine xQ.iast rfl (k := k) (rfl) (⟨by omega, by omega⟩) rfl ?_
    show xQ MX8_takeGraph (20, [some (.ref 45), some (.int (nI k))], [], (xuI s 50 k (w.1 46 k))) _
    refine xQ.go 2 (F1 := (2, [some (.ref 45), some (.int ((nI k) + 1))], [], (xuI s 50 k (w.1 46 k)))) rfl ?_
    rw [← nI_succ]
    refine K _ ⟨fun j hj => ?_, xkq_I i2 rfl⟩
    rw [uI1]
    by_cases e : j = k
    · rw [if_pos ⟨rfl, e⟩, e]
    · rw [if_neg (fun h => e h.2)]
      exact i1 j (by omega)
  · intro s hI
    obtain ⟨i1, i2⟩ := hI
    refine xQ.go 3 (F1 := (bif decide (10 ≤ (nI 10)) then 26 else 8, [some (.ref 45), some (.int (nI 10))], [], s)) rfl ?_
    refine xQ.brT (rfl) ?_
    refine xQ.vret 1 rfl rfl ?_
    refine ⟨rfl, fun v hv => ?_, i2⟩
    have := hM.2.1.1 v hv
    rw [Nat.zero_add] at this
    rw [i1 v hv, this]
theorem m_flipG {w : xW} {e : Int64} {a b : Nat} (hG : gM w (gr e)) (ha : a < 10) (hb : b < 10) (hne : a ≠ b) : xD MX8_flipInGraph [.ref 45, .int (nI a), .int (nI b)] w (fun r w1 => r = none ∧ gM w1 (gr (e ^^^ pbit a b)) ∧ xkq [(50, none)] w w1) := by
  refine xD.of ?_
  show xQ MX8_flipInGraph (0, [some (.ref 45), some (.int (nI a)), some (.int (nI b))], [], w) _
  refine xQ.go 4 (F1 := (6, [some (.ref 45), some (.int (nI a)), some (.int (nI b))], [.int (nI a), .ref 50, .int (nI a), .ref 50], w)) rfl ?_
  refine xQ.iald rfl (k := a) (rfl) (⟨by omega, by omega⟩) rfl ?_
  show xQ MX8_flipInGraph (7, [some (.ref 45), some (.int (nI a)), some (.int (nI b))], [.int (w.1 50 a), .int (nI a), .ref 50], w) _
  rw [hG a ha]
  refine xQ.go 4 (F1 := (11, [some (.ref 45), some (.int (nI a)), some (.int (nI b))], [.int ((mk (gr e a)) ^^^ (1 <<< ((nI b) &&& 31))), .int (nI a), .ref 50], w)) rfl ?_
  rw [mk_bit hb, row_xor ha hb hne]
  refine xQ.iast rfl (k := a) (rfl) (⟨by omega, by omega⟩) rfl ?_
  show xQ MX8_flipInGraph (12, [some (.ref 45), some (.int (nI a)), some (.int (nI b))], [], (xuI w 50 a (mk (gr (e ^^^ pbit a b) a)))) _
  refine xQ.go 4 (F1 := (18, [some (.ref 45), some (.int (nI a)), some (.int (nI b))], [.int (nI b), .ref 50, .int (nI b), .ref 50], (xuI w 50 a (mk (gr (e ^^^ pbit a b) a))))) rfl ?_
  refine xQ.iald rfl (k := b) (rfl) (⟨by omega, by omega⟩) rfl ?_
  show xQ MX8_flipInGraph (19, [some (.ref 45), some (.int (nI a)), some (.int (nI b))], [.int ((xuI w 50 a (mk (gr (e ^^^ pbit a b) a))).1 50 b), .int (nI b), .ref 50], (xuI w 50 a (mk (gr (e ^^^ pbit a b) a)))) _
  rw [show (xuI w 50 a (mk (gr (e ^^^ pbit a b) a))).1 50 b = mk (gr e b) by rw [uI1, if_neg (by omega), hG b hb]]
  refine xQ.go 4 (F1 := (23, [some (.ref 45), some (.int (nI a)), some (.int (nI b))], [.int ((mk (gr e b)) ^^^ (1 <<< ((nI a) &&& 31))), .int (nI b), .ref 50], (xuI w 50 a (mk (gr (e ^^^ pbit a b) a))))) rfl ?_
  rw [mk_bit ha, row_xor2 ha hb hne]
  refine xQ.iast rfl (k := b) (rfl) (⟨by omega, by omega⟩) rfl ?_
  show xQ MX8_flipInGraph (24, [some (.ref 45), some (.int (nI a)), some (.int (nI b))], [], (xuI (xuI w 50 a (mk (gr (e ^^^ pbit a b) a))) 50 b (mk (gr (e ^^^ pbit a b) b)))) _
  refine xQ.vret 1 rfl rfl ?_
  refine ⟨rfl, fun v hv => ?_, xkq_I (xkq_I xkq_rfl rfl) rfl⟩
  rw [uI1]
  by_cases eb : v = b
  · rw [if_pos ⟨rfl, eb⟩, eb]
  · rw [if_neg (fun h => eb h.2), uI1]
    by_cases ea : v = a
    · rw [if_pos ⟨rfl, ea⟩, ea]
    · rw [if_neg (fun h => ea h.2), hG v hv, row_same ha hb hne ea eb]
