/-! the reference: count, block -/
theorem kN_M {w w1 : xW} (h : xkq kN w w1) : xkq kM w w1 := xkq_mono rfl h
theorem M_count {w : xW} {A : xAb} {x : Int32} (hM : mI w A) : xD MX8_count [.ref 45, .int x] w (mV w A (qCount A x)) := by
  refine xD.of ?_
  show xQ MX8_count (0, [some (.ref 45), some (.int x)], [], w) _
  refine xQ.go 1 (F1 := (1, [some (.ref 45), some (.int x)], [.int x], w)) rfl ?_
  cases hx : kI 9 x with
  | none =>
    have es : qCount A x = -2 := by unfold qCount; rw [hx]
    rw [es]
    refine xQ.tsw rfl 103 (⟨(kI_out (by omega) hx).imp id (fun h => by omega), rfl⟩) ?_
    show xQ MX8_count (103, [some (.ref 45), some (.int x)], [], w) _
    refine xQ.go 1 (F1 := (105, [some (.ref 45), some (.int x)], [.int (-2)], w)) rfl ?_
    refine xQ.iret .int 1 rfl rfl (rfl) ?_
    exact ⟨rfl, hM, xkq_rfl⟩
  | some k =>
    obtain ⟨hk9, ex⟩ := kI_some hx
    rw [ex] at hx ⊢
    match k, hk9, hx with
    | 0, _, hx =>
      rw [show qCount A (nI 0) = nEd A.1 by unfold qCount; rw [hx]; rfl]
      refine xQ.tin rfl 52 (⟨⟨rfl, by omega⟩, ⟨by decide, rfl⟩, rfl⟩) ?_
      show xQ MX8_count (52, [some (.ref 45), some (.int (nI 0))], [], w) _
      refine xQ.go 1 (F1 := (53, [some (.ref 45), some (.int (nI 0))], [.ref 45], w)) rfl ?_
      refine xQ.call rfl (m_edges hM) ?_
      show xQ MX8_count (56, [some (.ref 45), some (.int (nI 0))], [.int (nEd A.1)], w) _
      refine xQ.iret .int 1 rfl rfl (rfl) ?_
      exact ⟨rfl, hM, xkq_rfl⟩
    | 1, _, hx =>
      rw [show qCount A (nI 1) = nI (cmpS (gr A.1.1) 10).2 by unfold qCount; rw [hx]; rfl]
      refine xQ.tin rfl 57 (⟨⟨rfl, by omega⟩, ⟨by decide, rfl⟩, rfl⟩) ?_
      show xQ MX8_count (57, [some (.ref 45), some (.int (nI 1))], [], w) _
      obtain ⟨r1, w1, hc1, hr1, i1, k1⟩ := m_comp hM
      subst hr1
      refine xQ.go 1 (F1 := (58, [some (.ref 45), some (.int (nI 1))], [.ref 45], w)) rfl ?_
      refine xQ.call rfl (hc1) ?_
      show xQ MX8_count (61, [some (.ref 45), some (.int (nI 1))], [.int (nI (cmpS (gr A.1.1) 10).2)], w1) _
      refine xQ.iret .int 1 rfl rfl (rfl) ?_
      exact ⟨rfl, i1, kN_M k1⟩
    | 2, _, hx =>
      rw [show qCount A (nI 2) = nI (bl A.1.1).length by unfold qCount; rw [hx]; rfl]
      refine xQ.tin rfl 62 (⟨⟨rfl, by omega⟩, ⟨by decide, rfl⟩, rfl⟩) ?_
      show xQ MX8_count (62, [some (.ref 45), some (.int (nI 2))], [], w) _
      obtain ⟨r1, w1, hc1, hr1, i1, _, _, k1⟩ := m_blkNow hM
      subst hr1
      refine xQ.go 1 (F1 := (63, [some (.ref 45), some (.int (nI 2))], [.ref 45], w)) rfl ?_
      refine xQ.call rfl (hc1) ?_
      show xQ MX8_count (66, [some (.ref 45), some (.int (nI 2))], [.int (nI (bl A.1.1).length)], w1) _
      refine xQ.iret .int 1 rfl rfl (rfl) ?_
      exact ⟨rfl, i1, kN_M k1⟩
    | 3, _, hx =>
      rw [show qCount A (nI 3) = nI (cnt (cvS (fun i => bS (gr A.1.1) ((bl A.1.1).getD i (0, 0))) (bl A.1.1).length).2 10) by unfold qCount; rw [hx]; rfl]
      refine xQ.tin rfl 67 (⟨⟨rfl, by omega⟩, ⟨by decide, rfl⟩, rfl⟩) ?_
      show xQ MX8_count (67, [some (.ref 45), some (.int (nI 3))], [], w) _
      obtain ⟨r1, w1, hc1, hr1, i1, k1⟩ := m_cut hM
      subst hr1
      refine xQ.go 1 (F1 := (68, [some (.ref 45), some (.int (nI 3))], [.ref 45], w)) rfl ?_
      refine xQ.call rfl (hc1) ?_
      show xQ MX8_count (71, [some (.ref 45), some (.int (nI 3))], [.int (nI (cnt (cvS (fun i => bS (gr A.1.1) ((bl A.1.1).getD i (0, 0))) (bl A.1.1).length).2 10))], w1) _
      refine xQ.iret .int 1 rfl rfl (rfl) ?_
      exact ⟨rfl, i1, kN_M k1⟩
    | 4, _, hx =>
      rw [show qCount A (nI 4) = nI (cnt (fun i => decide (bE (gr A.1.1) ((bl A.1.1).getD i (0, 0)) = 1)) (bl A.1.1).length) by unfold qCount; rw [hx]; rfl]
      refine xQ.tin rfl 72 (⟨⟨rfl, by omega⟩, ⟨by decide, rfl⟩, rfl⟩) ?_
      show xQ MX8_count (72, [some (.ref 45), some (.int (nI 4))], [], w) _
      obtain ⟨r1, w1, hc1, hr1, i1, k1⟩ := m_bridge hM
      subst hr1
      refine xQ.go 1 (F1 := (73, [some (.ref 45), some (.int (nI 4))], [.ref 45], w)) rfl ?_
      refine xQ.call rfl (hc1) ?_
      show xQ MX8_count (76, [some (.ref 45), some (.int (nI 4))], [.int (nI (cnt (fun i => decide (bE (gr A.1.1) ((bl A.1.1).getD i (0, 0)) = 1)) (bl A.1.1).length))], w1) _
      refine xQ.iret .int 1 rfl rfl (rfl) ?_
      exact ⟨rfl, i1, kN_M k1⟩
    | 5, _, hx =>
      rw [show qCount A (nI 5) = A.1.2.1 by unfold qCount; rw [hx]; rfl]
      refine xQ.tin rfl 77 (⟨⟨rfl, by omega⟩, ⟨by decide, rfl⟩, rfl⟩) ?_
      show xQ MX8_count (77, [some (.ref 45), some (.int (nI 5))], [], w) _
      refine xQ.go 4 (F1 := (84, [some (.ref 45), some (.int (nI 5))], [.int (w.1 46 10)], w)) rfl ?_
      rw [show w.1 46 10 = A.1.2.1 from hM.2.1.2.1]
      refine xQ.iret .int 1 rfl rfl (rfl) ?_
      exact ⟨rfl, hM, xkq_rfl⟩
    | 6, _, hx =>
      rw [show qCount A (nI 6) = A.1.2.2 by unfold qCount; rw [hx]; rfl]
      refine xQ.tin rfl 85 (⟨⟨rfl, by omega⟩, ⟨by decide, rfl⟩, rfl⟩) ?_
      show xQ MX8_count (85, [some (.ref 45), some (.int (nI 6))], [], w) _
      refine xQ.go 4 (F1 := (92, [some (.ref 45), some (.int (nI 6))], [.int (w.1 46 11)], w)) rfl ?_
      rw [show w.1 46 11 = A.1.2.2 from hM.2.1.2.2]
      refine xQ.iret .int 1 rfl rfl (rfl) ?_
      exact ⟨rfl, hM, xkq_rfl⟩
    | 7, _, hx =>
      rw [show qCount A (nI 7) = nI A.2.1.length by unfold qCount; rw [hx]; rfl]
      refine xQ.tin rfl 93 (⟨⟨rfl, by omega⟩, ⟨by decide, rfl⟩, rfl⟩) ?_
      show xQ MX8_count (93, [some (.ref 45), some (.int (nI 7))], [], w) _
      refine xQ.go 2 (F1 := (97, [some (.ref 45), some (.int (nI 7))], [.int (w.1 45 2)], w)) rfl ?_
      rw [hM.2.2.1.1]
      refine xQ.iret .int 1 rfl rfl (rfl) ?_
      exact ⟨rfl, hM, xkq_rfl⟩
    | 8, _, hx =>
      rw [show qCount A (nI 8) = nI A.2.2.2.length by unfold qCount; rw [hx]; rfl]
      refine xQ.tin rfl 98 (⟨⟨rfl, by omega⟩, ⟨by decide, rfl⟩, rfl⟩) ?_
      show xQ MX8_count (98, [some (.ref 45), some (.int (nI 8))], [], w) _
      refine xQ.go 2 (F1 := (102, [some (.ref 45), some (.int (nI 8))], [.int (w.1 45 6)], w)) rfl ?_
      rw [hM.2.2.2.2.1]
      refine xQ.iret .int 1 rfl rfl (rfl) ?_
      exact ⟨rfl, hM, xkq_rfl⟩
theorem bix_find {G : Nat → Nat → Bool} (hg : gok G) {a b : Nat} (ha : a < 10) (hb : b < 10) (hne : a ≠ b) (hab : G a b = true) : (blks G 100).findIdx? (fun p => bS G p a && bS G p b) = some (bix G (blks G 100) (pix a b)) := by
  have he : (fun p => bS G p (pa (pix a b)) && bS G p (pb (pix a b))) = fun p => bS G p a && bS G p b := by
    by_cases h : a < b
    · obtain ⟨h1, h2, _, _⟩ := pab_of a ha b hb h
      rw [h1, h2]
    · obtain ⟨_, _, h1, h2⟩ := pab_of b hb a ha (by omega)
      rw [h1, h2]
      funext p
      exact Bool.and_comm _ _
  obtain ⟨q, hq, h1, h2⟩ := blks_all hg hab
  unfold bix
  rw [he]
  exact List.findIdx?_eq_some_of_exists ⟨q, hq, by rw [h1, h2]; rfl⟩
theorem M_block {w : xW} {A : xAb} {x y : Int32} (hM : mI w A) : xD MX8_block [.ref 45, .int x, .int y] w (mV w A (qBlock A x y)) := by
  refine xD.of ?_
  show xQ MX8_block (0, [some (.ref 45), some (.int x), some (.int y), none], [], w) _
  refine xQ.go 3 (F1 := (3, [some (.ref 45), some (.int x), some (.int y), none], [.int y, .int x, .ref 45], w)) rfl ?_
  refine xQ.call rfl (m_isEdge hM) ?_
  show xQ MX8_block (6, [some (.ref 45), some (.int x), some (.int y), none], [.int (if jn A.1.1 x y = true then 1 else 0)], w) _
  refine xQ.go 1 (F1 := (bif !decide ((if jn A.1.1 x y = true then 1 else 0) = 0) then 11 else 9, [some (.ref 45), some (.int x), some (.int y), none], [], w)) rfl ?_
  by_cases hj : jn A.1.1 x y = true
  · obtain ⟨a, b, ha, hb, hne, ex, ey, hx, hy, hg⟩ := jn_true hj
    have hgk := gr_gok A.1.1
    unfold qBlock
    rw [if_pos hj, hx, hy]
    simp only
    rw [if_pos hg, show (bl A.1.1).findIdx? (fun p => bS (gr A.1.1) p a && bS (gr A.1.1) p b) = some (bix (gr A.1.1) (bl A.1.1) (pix a b)) from bix_find hgk ha hb hne hg]
    refine xQ.brT rfl ?_
    obtain ⟨r1, w1, hc1, hr1, i1, g1, f1, k1⟩ := m_blkNow hM
    subst hr1
    refine xQ.go 1 (F1 := (12, [some (.ref 45), some (.int x), some (.int y), none], [.ref 45], w)) rfl ?_
    refine xQ.call rfl (hc1) ?_
    show xQ MX8_block (15, [some (.ref 45), some (.int x), some (.int y), none], [.int (nI (bl A.1.1).length)], w1) _
    have h9 := bl_nine A.1.1
    have hpos : 0 < (bl A.1.1).length := by
      obtain ⟨q, hq, _⟩ := blks_all hgk hg
      exact List.length_pos_of_mem hq
    refine xQ.go 3 (F1 := (bif decide ((nI (bl A.1.1).length) ≤ 0) then 33 else 20, [some (.ref 45), some (.int x), some (.int y), some (.int (nI (bl A.1.1).length))], [], w1)) rfl ?_
    refine xQ.brF (decide_eq_false (nI_nle hpos (by omega))) ?_
    rw [ex, ey]
    have hpl := pix_lt ha hb hne
    refine xQ.go 4 (F1 := (26, [some (.ref 45), some (.int (nI a)), some (.int (nI b)), some (.int (nI (bl A.1.1).length))], [.int (nI b), .int (nI a), .ref 51], w1)) rfl ?_
    refine xQ.call rfl (m_pair ha hb hne) ?_
    show xQ MX8_block (29, [some (.ref 45), some (.int (nI a)), some (.int (nI b)), some (.int (nI (bl A.1.1).length))], [.int (nI (pix a b)), .ref 51], w1) _
    refine xQ.iald rfl (k := (pix a b)) (rfl) (⟨by omega, by omega⟩) rfl ?_
    show xQ MX8_block (30, [some (.ref 45), some (.int (nI a)), some (.int (nI b)), some (.int (nI (bl A.1.1).length))], [.int (w1.1 51 (pix a b))], w1) _
    rw [f1.2 _ hpl, if_pos (by rw [ed_pix hgk ha hb hne]; exact hg)]
    show xQ MX8_block (30, [some (.ref 45), some (.int (nI a)), some (.int (nI b)), some (.int (nI (bl A.1.1).length))], [.int (nI (bix (gr A.1.1) (bl A.1.1) (pix a b)))], w1) _
    refine xQ.go 1 (F1 := (34, [some (.ref 45), some (.int (nI a)), some (.int (nI b)), some (.int (nI (bl A.1.1).length))], [.int (nI (bix (gr A.1.1) (bl A.1.1) (pix a b)))], w1)) rfl ?_
    refine xQ.iret .int 1 rfl rfl (rfl) ?_
    exact ⟨rfl, i1, kN_M k1⟩
  · have es : qBlock A x y = -1 := by
      unfold qBlock
      rcases jn_no hj with h | ⟨a, h, h2⟩ | ⟨a, b, h, h2, h3⟩
      · simp [h]
      · simp [h, h2]
      · simp [h, h2, h3]
    rw [if_neg hj, es]
    refine xQ.brF rfl ?_
    refine xQ.go 1 (F1 := (10, [some (.ref 45), some (.int x), some (.int y), none], [.int (-1)], w)) rfl ?_
    refine xQ.iret .int 1 rfl rfl (rfl) ?_
    exact ⟨rfl, hM, xkq_rfl⟩
