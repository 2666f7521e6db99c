/-! the class's parts, over the state -/
theorem c_readP {w : xW} {A : xAb} {e : Int64} (hI : cI w A) : xD MX4_read [.ref 11, .long e] w (fun r w1 => r = some (.int (if fl e = true then 1 else 0)) ∧ cI w1 A ∧ pN_p w1 e ∧ xkq kA_p w w1) := by
  obtain ⟨a, n, hh, s, t, p, q, u, o⟩ := hI
  obtain ⟨r, w1, hc, hr, h1, h2⟩ := c_read_p (e := e) p
  exact ⟨r, w1, hc, hr, ⟨a, nowC_kq n h2, hisC_kq hh h2, snpC_kq s h2, tX_kq2 t h2, pOK_of_p h1, pOK_kq_t q h2, wOK_kq u h2, oOK_kq o h2⟩, h1, h2⟩
theorem c_readT {w : xW} {A : xAb} {e : Int64} (hI : cI w A) : xD MX4_read [.ref 25, .long e] w (fun r w1 => r = some (.int (if fl e = true then 1 else 0)) ∧ cI w1 A ∧ xkq kA_t w w1) := by
  obtain ⟨a, n, hh, s, t, p, q, u, o⟩ := hI
  obtain ⟨r, w1, hc, hr, h1, h2⟩ := c_read_t (e := e) q
  exact ⟨r, w1, hc, hr, ⟨a, nowC_kq n h2, hisC_kq hh h2, snpC_kq s h2, tX_kq2 t h2, pOK_kq_p p h2, pOK_of_t h1, wOK_kq u h2, oOK_kq o h2⟩, h2⟩
theorem c_findA {w : xW} {A : xAb} {e : Int64} (hI : cI w A) : xD MX3_find [.ref 44, .long e, .ref 25] w (fun r w1 => r = none ∧ cI w1 A ∧ oN w1 e ∧ xkq ((44, none) :: kA_t) w w1) := by
  obtain ⟨a, n, hh, s, t, p, q, u, o⟩ := hI
  obtain ⟨r, w1, hc, hr, h1, h2, h3⟩ := c_find (e := e) q o
  exact ⟨r, w1, hc, hr, ⟨a, nowC_kq n h3, hisC_kq hh h3, snpC_kq s h3, tX_kq2 t h3, pOK_kq_p p h3, h2, wOK_kq u h3, Or.inr ⟨e, h1⟩⟩, h1, h3⟩
theorem c_traceA {w : xW} {A : xAb} {e : Int64} (hI : cI w A) (hN : pN_p w e) (hf : fl e = true) : xD MX6_trace [.ref 39, .ref 11] w (fun r w1 => r = none ∧ cI w1 A ∧ wN w1 e ∧ xkq [(39, none), (40, none), (41, none), (42, none), (43, none)] w w1) := by
  obtain ⟨a, n, hh, s, t, p, q, u, o⟩ := hI
  obtain ⟨r, w1, hc, hr, h1, h2⟩ := c_trace hN hf u
  exact ⟨r, w1, hc, hr, ⟨a, nowC_kq n h2, hisC_kq hh h2, snpC_kq s h2, tX_kq2 t h2, pOK_kq_p p h2, pOK_kq_t q h2, Or.inr ⟨e, h1⟩, oOK_kq o h2⟩, h1, h2⟩
theorem c_sizeA {w : xW} {A : xAb} (hI : cI w A) : xC MX5_size [.ref 1] w (some (.int (nEd A.1))) w := by
  have h := c_size1 (w := w) (by rw [hI.2.1.1]; exact hI.1.1)
  rw [hI.2.1.1] at h
  exact h
theorem c_edgesA {w : xW} {A : xAb} (hI : cI w A) : xC MX5_edges [.ref 1] w (some (.long A.1.1)) w := by
  have h := c_edges1 (w := w)
  rw [hI.2.1.1] at h
  exact h
theorem c_joinsA {w : xW} {A : xAb} {x y : Int32} (hI : cI w A) : xC MX5_joins [.ref 1, .int x, .int y] w (some (.int (if jn A.1.1 x y = true then 1 else 0))) w := by
  rw [← hI.2.1.1]
  by_cases hp : prI x y
  · obtain ⟨a, b, ha, hb, hne, e1, e2⟩ := hp
    have h := c_joins (w := w) ha hb hne
    have ej : jn (w.2 1 0) (nI a) (nI b) = gr (w.2 1 0) a b := by
      unfold jn vI
      rw [kI_of ha (by omega), kI_of hb (by omega)]
    rw [e1, e2, ej]
    exact h
  · have h := c_joins_0 (w := w) hp
    rw [if_neg (fun hj => by
      obtain ⟨a, b, ha, hb, hne, e1, e2, _⟩ := jn_true hj
      exact hp ⟨a, b, ha, hb, hne, e1, e2⟩)]
    exact h
theorem c_isV {w : xW} {x : Int32} : xC MX7_isVertex [.int x] w (some (.int (if (vI x).isSome = true then 1 else 0))) w := by
  cases hx : vI x with
  | none => exact c_isVertex_0 (kI_none hx)
  | some a =>
    obtain ⟨h1, h2⟩ := kI_some hx
    rw [h2]
    exact c_isVertex_1 h1
theorem recH_len {H : List xSt} {s : xSt} (h : H.length ≤ 5) : (recH H s).length = (if H.length = 5 then 4 else H.length) + 1 ∧ (recH H s).length ≤ 5 := by
  unfold recH
  by_cases e : H.length = 5
  · rw [if_pos e, if_pos e, List.length_append, List.length_tail, e]
    exact ⟨rfl, Nat.le_refl 5⟩
  · rw [if_neg e, if_neg e, List.length_append]
    show H.length + 1 = H.length + 1 ∧ H.length + 1 ≤ 5
    exact ⟨rfl, by omega⟩
theorem recH_mem {H : List xSt} {s t : xSt} (h : t ∈ recH H s) : t ∈ H ∨ t = s := by
  unfold recH at h
  rcases List.mem_append.mp h with h | h
  · by_cases e : H.length = 5
    · rw [if_pos e] at h
      exact Or.inl (List.mem_of_mem_tail h)
    · rw [if_neg e] at h
      exact Or.inl h
  · exact Or.inr (List.mem_singleton.mp h)
theorem c_remA {w : xW} {A : xAb} (hI : cI w A) : xD MX2_remember [.ref 3, .ref 1] w (fun r w1 => r = none ∧ cI w1 (A.1, recH A.2.1 A.1, A.2.2) ∧ xkq [(3, none), (4, none), (5, none), (6, none)] w w1) := by
  obtain ⟨a, n, hh, s, t, p, q, u, o⟩ := hI
  obtain ⟨r, w1, hc, hr, h1, h2, h3, h4⟩ := c_remember hh.1 a.2.1.1
  have k : xkq [(3, none), (4, none), (5, none), (6, none)] w w1 := xkq_mono rfl h4
  refine ⟨r, w1, hc, hr, ⟨⟨a.1, ⟨(recH_len a.2.1.1).2, fun z hz => ?_⟩, a.2.2⟩, nowC_kq n k, ⟨?_, fun i z hz => ?_⟩, snpC_kq s k, tX_kq2 t k, pOK_kq_p p k, pOK_kq_t q k, wOK_kq u k, oOK_kq o k⟩, k⟩
  · rcases recH_mem hz with h | h
    · exact a.2.1.2 z h
    · rw [h]; exact a.1
  · rw [h1, (recH_len a.2.1.1).1]
  · have hl := (List.getElem?_eq_some_iff.mp hz).1
    rw [(recH_len a.2.1.1).1] at hl
    generalize hm : (if A.2.1.length = 5 then 4 else A.2.1.length) = m at *
    have hH : (if A.2.1.length = 5 then A.2.1.tail else A.2.1).length = m := by
      rw [← hm]
      by_cases e : A.2.1.length = 5
      · rw [if_pos e, if_pos e, List.length_tail, e]
      · rw [if_neg e, if_neg e]
    by_cases ei : i = m
    · subst ei
      have : (recH A.2.1 A.1)[i]? = some A.1 := by
        unfold recH
        rw [← hH]
        simp
      rw [this] at hz
      cases hz
      rw [h2.1, h2.2.1, h2.2.2]
      exact n
    · have hi : i < m := by omega
      have e2 : A.2.1[if A.2.1.length = 5 then i + 1 else i]? = some z := by
        rw [← hz]
        unfold recH
        rw [List.getElem?_append_left (by rw [hH]; exact hi)]
        by_cases e : A.2.1.length = 5
        · rw [if_pos e, if_pos e, List.getElem?_tail]
        · rw [if_neg e, if_neg e]
      obtain ⟨g1, g2, g3⟩ := h3 i hi
      rw [g1, g2, g3]
      exact hh.2 _ z e2
theorem flipS_jok {s : xSt} {a b : Nat} (h : jok s.1) (ha : a < 10) (hb : b < 10) (hne : a ≠ b) : jok (flipS s a b).1 := jok_xor h (jok_bit ha hb hne)
theorem c_flipA {w : xW} {A : xAb} {a b : Nat} (hI : cI w A) (ha : a < 10) (hb : b < 10) (hne : a ≠ b) : xD MX5_flip [.ref 1, .int (nI a), .int (nI b)] w (fun r w1 => r = none ∧ cI w1 (flipS A.1 a b, A.2) ∧ xkq [(1, none)] w w1) := by
  obtain ⟨ak, n, hh, s, t, p, q, u, o⟩ := hI
  have hc := c_flip (w := w) ha hb hne
  obtain ⟨w1, e1⟩ : ∃ w1, w1 = (xuJ (if gr (w.2 1 0) a b then xuI w 1 2 (w.1 1 2 + 1) else xuI w 1 1 (w.1 1 1 + 1)) 1 0 (w.2 1 0 ^^^ pbit a b)) := ⟨_, rfl⟩
  rw [← e1] at hc
  have k : xkq [(1, none)] w w1 := by
    rw [e1]
    by_cases hg : gr (w.2 1 0) a b = true
    · rw [if_pos hg]; exact xkq_J (xkq_I xkq_rfl rfl) rfl
    · rw [if_neg hg]; exact xkq_J (xkq_I xkq_rfl rfl) rfl
  refine ⟨none, w1, hc, rfl, ⟨⟨flipS_jok ak.1 ha hb hne, ak.2⟩, ?_, hisC_kq hh k, snpC_kq s k, tX_kq2 t k, pOK_kq_p p k, pOK_kq_t q k, wOK_kq u k, oOK_kq o k⟩, k⟩
  obtain ⟨n1, n2, n3⟩ := n
  rw [e1]
  unfold nowC flipS
  rw [n1]
  by_cases hg : gr A.1.1 a b = true
  · rw [if_pos hg, if_pos hg, if_pos hg]
    simp [uI1, uI2, uJ1, uJ2, n2, n3]
  · rw [if_neg hg, if_neg hg, if_neg hg]
    simp [uI1, uI2, uJ1, uJ2, n2, n3]
theorem kA_C {w w1 : xW} (h : xkq kA_p w w1) : xkq kC w w1 := xkq_mono rfl h
theorem kT_C {w w1 : xW} (h : xkq kA_t w w1) : xkq kC w w1 := xkq_mono rfl h
theorem k1_C {w w1 : xW} (h : xkq [(1, none)] w w1) : xkq kC w w1 := xkq_mono rfl h
theorem kR_C {w w1 : xW} (h : xkq [(3, none), (4, none), (5, none), (6, none)] w w1) : xkq kC w w1 := xkq_mono rfl h
theorem kW_C {w w1 : xW} (h : xkq [(39, none), (40, none), (41, none), (42, none), (43, none)] w w1) : xkq kC w w1 := xkq_mono rfl h
theorem kO_C {w w1 : xW} (h : xkq ((44, none) :: kA_t) w w1) : xkq kC w w1 := xkq_mono rfl h
/-- the class answers r in the state A and comes to B -/
abbrev cQ (w : xW) (v : Int32 × xAb) (r : Option Value) (w1 : xW) : Prop := r = some (.int v.1) ∧ cI w1 v.2 ∧ xkq kC w w1
theorem C_add {w : xW} {A : xAb} {x y : Int32} (hI : cI w A) : xD MX7_add [.ref 0, .int x, .int y] w (cQ w (sAdd A x y)) := by
  refine xD.of ?_
  show xQ MX7_add (0, [some (.ref 0), some (.int x), some (.int y)], [], w) _
  refine xQ.go 1 (F1 := (1, [some (.ref 0), some (.int x), some (.int y)], [.int x], w)) rfl ?_
  refine xQ.call rfl (c_isV) ?_
  show xQ MX7_add (4, [some (.ref 0), some (.int x), some (.int y)], [.int (if (vI x).isSome = true then 1 else 0)], w) _
  refine xQ.go 1 (F1 := (bif decide ((if (vI x).isSome = true then 1 else 0) = 0) then 14 else 7, [some (.ref 0), some (.int x), some (.int y)], [], w)) rfl ?_
  unfold sAdd
  cases hx : vI x with
  | none =>
    refine xQ.brT rfl ?_
    refine xQ.go 1 (F1 := (15, [some (.ref 0), some (.int x), some (.int y)], [.int (-1)], w)) rfl ?_
    refine xQ.iret .int 1 rfl rfl (rfl) ?_
    exact ⟨rfl, hI, xkq_rfl⟩
  | some a =>
    refine xQ.brF rfl ?_
    obtain ⟨ha, ex⟩ := kI_some hx
    refine xQ.go 1 (F1 := (8, [some (.ref 0), some (.int x), some (.int y)], [.int y], w)) rfl ?_
    refine xQ.call rfl (c_isV) ?_
    show xQ MX7_add (11, [some (.ref 0), some (.int x), some (.int y)], [.int (if (vI y).isSome = true then 1 else 0)], w) _
    refine xQ.go 1 (F1 := (bif !decide ((if (vI y).isSome = true then 1 else 0) = 0) then 16 else 14, [some (.ref 0), some (.int x), some (.int y)], [], w)) rfl ?_
    cases hy : vI y with
    | none =>
      refine xQ.brF rfl ?_
      refine xQ.go 1 (F1 := (15, [some (.ref 0), some (.int x), some (.int y)], [.int (-1)], w)) rfl ?_
      refine xQ.iret .int 1 rfl rfl (rfl) ?_
      exact ⟨rfl, hI, xkq_rfl⟩
    | some b =>
      refine xQ.brT rfl ?_
      obtain ⟨hb, ey⟩ := kI_some hy
      simp only
      refine xQ.go 3 (F1 := (bif !decide (x = y) then 24 else 21, [some (.ref 0), some (.int x), some (.int y)], [], w)) rfl ?_
      by_cases e : a = b
      · rw [if_pos e]
        refine xQ.brF (by rw [ex, ey, e]; simp) ?_
        refine xQ.go 1 (F1 := (23, [some (.ref 0), some (.int x), some (.int y)], [.int (-2)], w)) rfl ?_
        refine xQ.iret .int 1 rfl rfl (rfl) ?_
        exact ⟨rfl, hI, xkq_rfl⟩
      · rw [if_neg e]
        have hne : x ≠ y := fun h => e (jI_inj (a := a) (b := b) (by omega) (by omega) (by rw [← ex, ← ey, h]))
        refine xQ.brT (by rw [decide_eq_false hne]; rfl) ?_
        refine xQ.go 4 (F1 := (30, [some (.ref 0), some (.int x), some (.int y)], [.int y, .int x, .ref 1], w)) rfl ?_
        refine xQ.call rfl (c_joinsA hI) ?_
        show xQ MX7_add (33, [some (.ref 0), some (.int x), some (.int y)], [.int (if jn A.1.1 x y = true then 1 else 0)], w) _
        have ej : jn A.1.1 x y = gr A.1.1 a b := by unfold jn; rw [hx, hy]
        rw [ej]
        refine xQ.go 1 (F1 := (bif decide ((if gr A.1.1 a b = true then 1 else 0) = 0) then 39 else 36, [some (.ref 0), some (.int x), some (.int y)], [], w)) rfl ?_
        by_cases hg : gr A.1.1 a b = true
        · rw [if_pos hg, if_pos hg]
          refine xQ.brF rfl ?_
          refine xQ.go 1 (F1 := (38, [some (.ref 0), some (.int x), some (.int y)], [.int (-4)], w)) rfl ?_
          refine xQ.iret .int 1 rfl rfl (rfl) ?_
          exact ⟨rfl, hI, xkq_rfl⟩
        · rw [if_neg hg, if_neg hg]
          refine xQ.brT rfl ?_
          obtain ⟨r2, w2, hc2, hr2, i2, k2⟩ := c_remA hI
          subst hr2
          refine xQ.go 4 (F1 := (47, [some (.ref 0), some (.int x), some (.int y)], [.ref 1, .ref 3], w)) rfl ?_
          refine xQ.call rfl (hc2) ?_
          show xQ MX7_add (50, [some (.ref 0), some (.int x), some (.int y)], [], w2) _
          obtain ⟨r3, w3, hc3, hr3, i3, k3⟩ := c_flipA (a := a) (b := b) i2 ha hb e
          rw [← ex, ← ey] at hc3
          subst hr3
          refine xQ.go 4 (F1 := (56, [some (.ref 0), some (.int x), some (.int y)], [.int y, .int x, .ref 1], w2)) rfl ?_
          refine xQ.call rfl (hc3) ?_
          show xQ MX7_add (59, [some (.ref 0), some (.int x), some (.int y)], [], w3) _
          refine xQ.go 2 (F1 := (63, [some (.ref 0), some (.int x), some (.int y)], [.ref 1], w3)) rfl ?_
          refine xQ.call rfl (c_sizeA i3) ?_
          show xQ MX7_add (66, [some (.ref 0), some (.int x), some (.int y)], [.int (nEd (flipS A.1 a b))], w3) _
          refine xQ.iret .int 1 rfl rfl (rfl) ?_
          exact ⟨rfl, i3, xkq_trans (kR_C k2) (k1_C k3)⟩
theorem C_drop {w : xW} {A : xAb} {x y : Int32} (hI : cI w A) : xD MX7_drop [.ref 0, .int x, .int y] w (cQ w (sDrop A x y)) := by
  refine xD.of ?_
  show xQ MX7_drop (0, [some (.ref 0), some (.int x), some (.int y)], [], w) _
  refine xQ.go 4 (F1 := (6, [some (.ref 0), some (.int x), some (.int y)], [.int y, .int x, .ref 1], w)) rfl ?_
  refine xQ.call rfl (c_joinsA hI) ?_
  show xQ MX7_drop (9, [some (.ref 0), some (.int x), some (.int y)], [.int (if jn A.1.1 x y = true then 1 else 0)], w) _
  refine xQ.go 1 (F1 := (bif !decide ((if jn A.1.1 x y = true then 1 else 0) = 0) then 14 else 12, [some (.ref 0), some (.int x), some (.int y)], [], w)) rfl ?_
  by_cases hj : jn A.1.1 x y = true
  · obtain ⟨a, b, ha, hb, hne, ex, ey, hx, hy, hg⟩ := jn_true hj
    rw [if_pos hj]
    refine xQ.brT rfl ?_
    have es : sDrop A x y = (nEd (flipS A.1 a b), (flipS A.1 a b, recH A.2.1 A.1, A.2.2)) := by
      unfold sDrop
      rw [hx, hy]
      simp only
      rw [if_pos hg]
    rw [es]
    obtain ⟨r2, w2, hc2, hr2, i2, k2⟩ := c_remA hI
    subst hr2
    refine xQ.go 4 (F1 := (22, [some (.ref 0), some (.int x), some (.int y)], [.ref 1, .ref 3], w)) rfl ?_
    refine xQ.call rfl (hc2) ?_
    show xQ MX7_drop (25, [some (.ref 0), some (.int x), some (.int y)], [], w2) _
    obtain ⟨r3, w3, hc3, hr3, i3, k3⟩ := c_flipA (a := a) (b := b) i2 ha hb hne
    rw [← ex, ← ey] at hc3
    subst hr3
    refine xQ.go 4 (F1 := (31, [some (.ref 0), some (.int x), some (.int y)], [.int y, .int x, .ref 1], w2)) rfl ?_
    refine xQ.call rfl (hc3) ?_
    show xQ MX7_drop (34, [some (.ref 0), some (.int x), some (.int y)], [], w3) _
    refine xQ.go 2 (F1 := (38, [some (.ref 0), some (.int x), some (.int y)], [.ref 1], w3)) rfl ?_
    refine xQ.call rfl (c_sizeA i3) ?_
    show xQ MX7_drop (41, [some (.ref 0), some (.int x), some (.int y)], [.int (nEd (flipS A.1 a b))], w3) _
    refine xQ.iret .int 1 rfl rfl (rfl) ?_
    exact ⟨rfl, i3, xkq_trans (kR_C k2) (k1_C k3)⟩
  · rw [if_neg hj]
    refine xQ.brF rfl ?_
    have es : sDrop A x y = (-1, A) := by
      unfold sDrop
      unfold jn at hj
      cases hx : vI x with
      | none => rfl
      | some a =>
        cases hy : vI y with
        | none => rfl
        | some b =>
          rw [hx, hy] at hj
          simp only at hj ⊢
          rw [if_neg hj]
    rw [es]
    refine xQ.go 1 (F1 := (13, [some (.ref 0), some (.int x), some (.int y)], [.int (-1)], w)) rfl ?_
    refine xQ.iret .int 1 rfl rfl (rfl) ?_
    exact ⟨rfl, hI, xkq_rfl⟩