/-! the reference: is it planar -/
abbrev kP : xCS := (45, some 13) :: (51, none) :: kE
theorem fB_kq {w w1 : xW} {G : Nat → Nat → Bool} {L : xCS} (h : fB w G) (k : xkq L w w1) (h1 : cin L 45 13 = false := by rfl) (hL : cno L [51] = true := by rfl) : fB w1 G := ⟨(k 45 13 h1).1.trans h.1, fun e he => (k 51 e (cno_at hL (by simp) e)).1.trans (h.2 e he)⟩
theorem gM_kq {w w1 : xW} {G : Nat → Nat → Bool} {L : xCS} (h : gM w G) (k : xkq L w w1) (hL : cno L [50] = true := by rfl) : gM w1 G := fun v hv => (k 50 v (cno_at hL (by simp) v)).1.trans (h v hv)
/-- the successors of the planar blocks in the list -/
def scM (w : xW) (G : Nat → Nat → Bool) (l : List xPr) : Prop := ∀ p ∈ l, bPl G p = bE G p → ∀ v x y, bSc G p v x y → w.1 64 (10 * v + x) = nI y
theorem m_isPl {w : xW} {G : Nat → Nat → Bool} (hg : gok G) (hG : gM w G) : xD MX8_isPlanar [.ref 45] w (fun r w1 => r = some (.int (if flt G (blks G 100) = true then 1 else 0)) ∧ gM w1 G ∧ fB w1 G ∧ scM w1 G (blks G 100) ∧ xkq kP w w1) := by
  have hO := blks_ok hg 100 (Nat.le_refl _)
  have h9 := blk_nine hg hO
  have nar : ∀ b : Bool, narrow .boolean (.int (if b = true then 1 else 0)) = .int (if b = true then 1 else 0) := fun b => by cases b <;> rfl
  refine xD.of ?_
  show xQ MX8_isPlanar (0, [some (.ref 45), none, none], [], w) _
  obtain ⟨r1, w1, hc1, hr1, f1, k1⟩ := m_findB hg hG
  subst hr1
  refine xQ.go 1 (F1 := (1, [some (.ref 45), none, none], [.ref 45], w)) rfl ?_
  refine xQ.call rfl (hc1) ?_
  show xQ MX8_isPlanar (4, [some (.ref 45), none, none], [], w1) _
  refine xQ.go 4 (F1 := (8, [some (.ref 45), some (.int 1), some (.int 0)], [], w1)) rfl ?_
  refine xQ.loop (S := xW) (fun k s => (8, [some (.ref 45), some (.int (if flt G ((blks G 100).take k) = true then 1 else 0)), some (.int (nI k))], [], s)) (fun k s => scM s G ((blks G 100).take k) ∧ xkq kE w1 s) ((blks G 100).length) w1 (rfl) (⟨(fun p hp => by simp at hp), xkq_rfl⟩) ?_ ?_
  · intro k s hk hI K
    obtain ⟨i1, i2⟩ := hI
    have hp : (blks G 100)[k]? = some (blks G 100)[k] := List.getElem?_eq_getElem hk
    have hpe := blk_at hg hp
    have hGs : gM s G := gM_kq (gM_kq hG k1) i2
    have hFs : fB s G := fB_kq f1 i2
    have htk : (blks G 100).take (k + 1) = (blks G 100).take k ++ [(blks G 100)[k]] := by rw [List.take_add_one, hp]; rfl
    rw [htk] at K
    rw [flt_app] at K
    refine xQ.go 4 (F1 := (bif decide ((s.1 45 13) ≤ (nI k)) then 47 else 16, [some (.ref 45), some (.int (if flt G ((blks G 100).take k) = true then 1 else 0)), some (.int (nI k))], [], s)) rfl ?_
    refine xQ.brF (by rw [hFs.1]; exact decide_eq_false (nI_ge hk (by omega))) ?_
    obtain ⟨r2, s2, hc2, hr2, ⟨e1, e2, e3⟩, e4, e5, e6, e7⟩ := m_embed hg hGs hFs hp
    subst hr2
    refine xQ.go 2 (F1 := (18, [some (.ref 45), some (.int (if flt G ((blks G 100).take k) = true then 1 else 0)), some (.int (nI k))], [.int (nI k), .ref 45], s)) rfl ?_
    refine xQ.call rfl (hc2) ?_
    show xQ MX8_isPlanar (21, [some (.ref 45), some (.int (if flt G ((blks G 100).take k) = true then 1 else 0)), some (.int (nI k))], [], s2) _
    have hsc : scM s2 G ((blks G 100).take k ++ [(blks G 100)[k]]) := fun q hq hqf v x y hs => by
      rcases List.mem_append.mp hq with h | h
      · have hqm : q ∈ blks G 100 := List.mem_of_mem_take h
        have hed := (bSc_edge hg (hO.1 q hqm).1 hqf hs).1
        have h10 := hg.2.2 _ _ (bH_iff.mp hed).1
        rw [e5 v x h10.1 h10.2 ?_]
        · exact i1 q h hqf v x y hs
        · cases hc : bH G (bS G (blks G 100)[k]) v x with
          | false => rfl
          | true =>
            exfalso
            obtain ⟨i, hi, ei⟩ := List.mem_iff_getElem.mp h
            rw [List.length_take] at hi
            have hqi : (blks G 100)[i]? = some q := by
              rw [← ei, List.getElem_take]
              exact List.getElem?_eq_getElem _
            have b1 := bH_iff.mp hed
            have b2 := bH_iff.mp hc
            have := BOK_one hg hO hqi hp b1.1 b1.2.1 b1.2.2 b2.2.1 b2.2.2
            omega
      · rw [List.mem_singleton.mp h] at hqf hs
        exact e4 hqf v x y hs
    have K := K s2 ⟨hsc, xkq_trans i2 e7⟩
    refine xQ.go 2 (F1 := (bif decide ((if flt G ((blks G 100).take k) = true then 1 else 0) = 0) then 39 else 25, [some (.ref 45), some (.int (if flt G ((blks G 100).take k) = true then 1 else 0)), some (.int (nI k))], [], s2)) rfl ?_
    cases hfl : flt G ((blks G 100).take k) with
    | false =>
      rw [hfl, Bool.false_and] at K
      refine xQ.brT rfl ?_
      refine xQ.go 4 (F1 := (8, [some (.ref 45), some (.int 0), some (.int ((nI k) + 1))], [], s2)) rfl ?_
      rw [← nI_succ]
      exact K
    | true =>
      rw [hfl, Bool.true_and] at K
      refine xQ.brF rfl ?_
      refine xQ.go 3 (F1 := (30, [some (.ref 45), some (.int (if true = true then 1 else 0)), some (.int (nI k))], [.int (nI k), .ref 52], s2)) rfl ?_
      refine xQ.iald rfl (k := k) (rfl) (⟨by omega, by omega⟩) rfl ?_
      show xQ MX8_isPlanar (31, [some (.ref 45), some (.int (if true = true then 1 else 0)), some (.int (nI k))], [.int (s2.1 52 k)], s2) _
      rw [e1]
      refine xQ.go 2 (F1 := (bif !decide ((if bPl G (blks G 100)[k] = bE G (blks G 100)[k] then 1 else 0) = 1) then 39 else 35, [some (.ref 45), some (.int (if true = true then 1 else 0)), some (.int (nI k))], [], s2)) rfl ?_
      by_cases hf : bPl G (blks G 100)[k] = bE G (blks G 100)[k]
      · rw [decide_eq_true hf] at K
        rw [if_pos hf]
        refine xQ.brF rfl ?_
        refine xQ.go 5 (F1 := (8, [some (.ref 45), some (.int 1), some (.int ((nI k) + 1))], [], s2)) rfl ?_
        rw [← nI_succ]
        exact K
      · rw [decide_eq_false hf] at K
        rw [if_neg hf]
        refine xQ.brT rfl ?_
        refine xQ.go 4 (F1 := (8, [some (.ref 45), some (.int 0), some (.int ((nI k) + 1))], [], s2)) rfl ?_
        rw [← nI_succ]
        exact K
  · intro s hI
    obtain ⟨i1, i2⟩ := hI
    rw [List.take_length] at *
    refine xQ.go 4 (F1 := (bif decide ((s.1 45 13) ≤ (nI ((blks G 100).length))) then 47 else 16, [some (.ref 45), some (.int (if flt G (blks G 100) = true then 1 else 0)), some (.int (nI ((blks G 100).length)))], [], s)) rfl ?_
    refine xQ.brT (by rw [(fB_kq f1 i2).1]; exact decide_eq_true (Int32.le_refl _)) ?_
    refine xQ.go 1 (F1 := (48, [some (.ref 45), some (.int (if flt G (blks G 100) = true then 1 else 0)), some (.int (nI ((blks G 100).length)))], [.int (if flt G (blks G 100) = true then 1 else 0)], s)) rfl ?_
    refine xQ.iret .boolean 1 rfl rfl (nar _) ?_
    exact ⟨rfl, gM_kq (gM_kq hG k1) i2, fB_kq f1 i2, i1, xkq_trans (xkq_mono rfl k1) (xkq_mono rfl i2)⟩
theorem nar_b : ∀ b : Bool, narrow .boolean (.int (if b = true then 1 else 0)) = .int (if b = true then 1 else 0) := fun b => by cases b <;> rfl
theorem kP_N {w w1 : xW} (h : xkq kP w w1) : xkq kN w w1 := xkq_mono rfl h
theorem m_plNow {w : xW} {A : xAb} (hM : mI w A) : xD MX8_isPlanarNow [.ref 45] w (fun r w1 => r = some (.int (if fl A.1.1 = true then 1 else 0)) ∧ mI w1 A ∧ gM w1 (gr A.1.1) ∧ fB w1 (gr A.1.1) ∧ scM w1 (gr A.1.1) (bl A.1.1) ∧ xkq kN w w1) := by
  refine xD.of ?_
  show xQ MX8_isPlanarNow (0, [some (.ref 45)], [], w) _
  obtain ⟨r1, w1, hc1, hr1, g1, k1⟩ := m_take hM
  subst hr1
  refine xQ.go 1 (F1 := (1, [some (.ref 45)], [.ref 45], w)) rfl ?_
  refine xQ.call rfl (hc1) ?_
  show xQ MX8_isPlanarNow (4, [some (.ref 45)], [], w1) _
  obtain ⟨r2, w2, hc2, hr2, g2, f2, s2, k2⟩ := m_isPl (gr_gok A.1.1) g1
  subst hr2
  refine xQ.go 1 (F1 := (5, [some (.ref 45)], [.ref 45], w1)) rfl ?_
  refine xQ.call rfl (hc2) ?_
  show xQ MX8_isPlanarNow (8, [some (.ref 45)], [.int (if fl A.1.1 = true then 1 else 0)], w2) _
  refine xQ.iret .boolean 1 rfl rfl (nar_b _) ?_
  have kk : xkq kN w w2 := xkq_trans (xkq_mono rfl k1) (kP_N k2)
  exact ⟨rfl, mI_N hM kk, g2, f2, s2, kk⟩
theorem m_plIf {w : xW} {A : xAb} {a b : Nat} (hM : mI w A) (ha : a < 10) (hb : b < 10) (hne : a ≠ b) : xD MX8_isPlanarIfFlipped [.ref 45, .int (nI a), .int (nI b)] w (fun r w1 => r = some (.int (if fl (A.1.1 ^^^ pbit a b) = true then 1 else 0)) ∧ mI w1 A ∧ xkq kN w w1) := by
  refine xD.of ?_
  show xQ MX8_isPlanarIfFlipped (0, [some (.ref 45), some (.int (nI a)), some (.int (nI b))], [], w) _
  obtain ⟨r1, w1, hc1, hr1, g1, k1⟩ := m_take hM
  subst hr1
  refine xQ.go 1 (F1 := (1, [some (.ref 45), some (.int (nI a)), some (.int (nI b))], [.ref 45], w)) rfl ?_
  refine xQ.call rfl (hc1) ?_
  show xQ MX8_isPlanarIfFlipped (4, [some (.ref 45), some (.int (nI a)), some (.int (nI b))], [], w1) _
  obtain ⟨r2, w2, hc2, hr2, g2, k2⟩ := m_flipG g1 ha hb hne
  subst hr2
  refine xQ.go 3 (F1 := (7, [some (.ref 45), some (.int (nI a)), some (.int (nI b))], [.int (nI b), .int (nI a), .ref 45], w1)) rfl ?_
  refine xQ.call rfl (hc2) ?_
  show xQ MX8_isPlanarIfFlipped (10, [some (.ref 45), some (.int (nI a)), some (.int (nI b))], [], w2) _
  obtain ⟨r3, w3, hc3, hr3, g3, f3, s3, k3⟩ := m_isPl (gr_gok (A.1.1 ^^^ pbit a b)) g2
  subst hr3
  refine xQ.go 1 (F1 := (11, [some (.ref 45), some (.int (nI a)), some (.int (nI b))], [.ref 45], w2)) rfl ?_
  refine xQ.call rfl (hc3) ?_
  show xQ MX8_isPlanarIfFlipped (14, [some (.ref 45), some (.int (nI a)), some (.int (nI b))], [.int (if fl (A.1.1 ^^^ pbit a b) = true then 1 else 0)], w3) _
  refine xQ.iret .boolean 1 rfl rfl (nar_b _) ?_
  have kk : xkq kN w w3 := xkq_trans (xkq_mono rfl k1) (xkq_trans (xkq_mono rfl k2) (kP_N k3))
  exact ⟨rfl, mI_N hM kk, kk⟩
theorem M_plan {w : xW} {A : xAb} (hM : mI w A) : xD MX8_planar [.ref 45] w (mV w A (qPlan A)) := by
  refine xD.of ?_
  show xQ MX8_planar (0, [some (.ref 45)], [], w) _
  obtain ⟨r1, w1, hc1, hr1, i1, _, _, _, k1⟩ := m_plNow hM
  subst hr1
  refine xQ.go 1 (F1 := (1, [some (.ref 45)], [.ref 45], w)) rfl ?_
  refine xQ.call rfl (hc1) ?_
  show xQ MX8_planar (4, [some (.ref 45)], [.int (if fl A.1.1 = true then 1 else 0)], w1) _
  unfold qPlan
  refine xQ.go 1 (F1 := (bif decide ((if fl A.1.1 = true then 1 else 0) = 0) then 11 else 7, [some (.ref 45)], [], w1)) rfl ?_
  by_cases hf : fl A.1.1 = true
  · rw [if_pos hf]
    refine xQ.brF rfl ?_
    refine xQ.go 2 (F1 := (12, [some (.ref 45)], [.int 1], w1)) rfl ?_
    refine xQ.iret .int 1 rfl rfl (rfl) ?_
    exact ⟨rfl, i1, kN_M k1⟩
  · rw [if_neg hf]
    refine xQ.brT rfl ?_
    refine xQ.go 1 (F1 := (12, [some (.ref 45)], [.int 0], w1)) rfl ?_
    refine xQ.iret .int 1 rfl rfl (rfl) ?_
    exact ⟨rfl, i1, kN_M k1⟩
theorem M_iff {w : xW} {A : xAb} {x y : Int32} (hM : mI w A) : xD MX8_ifFlipped [.ref 45, .int x, .int y] w (mV w A (qIfF A x y)) := by
  refine xD.of ?_
  show xQ MX8_ifFlipped (0, [some (.ref 45), some (.int x), some (.int y)], [], w) _
  refine xQ.go 1 (F1 := (1, [some (.ref 45), some (.int x), some (.int y)], [.int x], w)) rfl ?_
  refine xQ.call rfl (m_isV) ?_
  show xQ MX8_ifFlipped (4, [some (.ref 45), some (.int x), some (.int y)], [.int (if (vI x).isSome = true then 1 else 0)], w) _
  refine xQ.go 1 (F1 := (bif decide ((if (vI x).isSome = true then 1 else 0) = 0) then 14 else 7, [some (.ref 45), some (.int x), some (.int y)], [], w)) rfl ?_
  unfold qIfF
  cases hx : vI x with
  | none =>
    refine xQ.brT rfl ?_
    refine xQ.go 1 (F1 := (15, [some (.ref 45), some (.int x), some (.int y)], [.int (-1)], w)) rfl ?_
    refine xQ.iret .int 1 rfl rfl (rfl) ?_
    exact ⟨rfl, hM, xkq_rfl⟩
  | some a =>
    refine xQ.brF rfl ?_
    obtain ⟨ha, ex⟩ := kI_some hx
    refine xQ.go 1 (F1 := (8, [some (.ref 45), some (.int x), some (.int y)], [.int y], w)) rfl ?_
    refine xQ.call rfl (m_isV) ?_
    show xQ MX8_ifFlipped (11, [some (.ref 45), some (.int x), some (.int y)], [.int (if (vI y).isSome = true then 1 else 0)], w) _
    refine xQ.go 1 (F1 := (bif !decide ((if (vI y).isSome = true then 1 else 0) = 0) then 16 else 14, [some (.ref 45), some (.int x), some (.int y)], [], w)) rfl ?_
    cases hy : vI y with
    | none =>
      refine xQ.brF rfl ?_
      refine xQ.go 1 (F1 := (15, [some (.ref 45), some (.int x), some (.int y)], [.int (-1)], w)) rfl ?_
      refine xQ.iret .int 1 rfl rfl (rfl) ?_
      exact ⟨rfl, hM, xkq_rfl⟩
    | some b =>
      refine xQ.brT rfl ?_
      obtain ⟨hb, ey⟩ := kI_some hy
      simp only
      refine xQ.go 3 (F1 := (bif !decide (x = y) then 24 else 21, [some (.ref 45), some (.int x), some (.int y)], [], w)) rfl ?_
      by_cases e : a = b
      · rw [if_pos e]
        refine xQ.brF (by rw [ex, ey, e]; simp) ?_
        refine xQ.go 1 (F1 := (23, [some (.ref 45), some (.int x), some (.int y)], [.int (-2)], w)) rfl ?_
        refine xQ.iret .int 1 rfl rfl (rfl) ?_
        exact ⟨rfl, hM, xkq_rfl⟩
      · rw [if_neg e]
        have hne : x ≠ y := fun h => e (jI_inj (a := a) (b := b) (by omega) (by omega) (by rw [← ex, ← ey, h]))
        refine xQ.brT (by rw [decide_eq_false hne]; rfl) ?_
        obtain ⟨r1, w1, hc1, hr1, i1, k1⟩ := m_plIf hM ha hb e
        rw [← ex, ← ey] at hc1
        subst hr1
        refine xQ.go 3 (F1 := (27, [some (.ref 45), some (.int x), some (.int y)], [.int y, .int x, .ref 45], w)) rfl ?_
        refine xQ.call rfl (hc1) ?_
        show xQ MX8_ifFlipped (30, [some (.ref 45), some (.int x), some (.int y)], [.int (if fl (A.1.1 ^^^ pbit a b) = true then 1 else 0)], w1) _
        refine xQ.go 1 (F1 := (bif decide ((if fl (A.1.1 ^^^ pbit a b) = true then 1 else 0) = 0) then 37 else 33, [some (.ref 45), some (.int x), some (.int y)], [], w1)) rfl ?_
        by_cases hf : fl (A.1.1 ^^^ pbit a b) = true
        · rw [if_pos hf]
          refine xQ.brF rfl ?_
          refine xQ.go 2 (F1 := (38, [some (.ref 45), some (.int x), some (.int y)], [.int 1], w1)) rfl ?_
          refine xQ.iret .int 1 rfl rfl (rfl) ?_
          exact ⟨rfl, i1, kN_M k1⟩
        · rw [if_neg hf]
          refine xQ.brT rfl ?_
          refine xQ.go 1 (F1 := (38, [some (.ref 45), some (.int x), some (.int y)], [.int 0], w1)) rfl ?_
          refine xQ.iret .int 1 rfl rfl (rfl) ?_
          exact ⟨rfl, i1, kN_M k1⟩
theorem M_join {w : xW} {A : xAb} {x : Int32} (hM : mI w A) : xD MX8_joinable [.ref 45, .int x] w (mV w A (qJoin A x)) := by
  refine xD.of ?_
  show xQ MX8_joinable (0, [some (.ref 45), some (.int x), none, none, none], [], w) _
  refine xQ.go 1 (F1 := (1, [some (.ref 45), some (.int x), none, none, none], [.int x], w)) rfl ?_
  refine xQ.call rfl (m_isV) ?_
  show xQ MX8_joinable (4, [some (.ref 45), some (.int x), none, none, none], [.int (if (vI x).isSome = true then 1 else 0)], w) _
  refine xQ.go 1 (F1 := (bif !decide ((if (vI x).isSome = true then 1 else 0) = 0) then 9 else 7, [some (.ref 45), some (.int x), none, none, none], [], w)) rfl ?_
  unfold qJoin
  cases hx : vI x with
  | none =>
    refine xQ.brF rfl ?_
    refine xQ.go 1 (F1 := (8, [some (.ref 45), some (.int x), none, none, none], [.int (-1)], w)) rfl ?_
    refine xQ.iret .int 1 rfl rfl (rfl) ?_
    exact ⟨rfl, hM, xkq_rfl⟩
  | some v =>
    refine xQ.brT rfl ?_
    obtain ⟨hv, ex⟩ := kI_some hx
    rw [ex]
    simp only
    refine xQ.go 4 (F1 := (13, [some (.ref 45), some (.int (nI v)), some (.int 0), some (.int 0), none], [], w)) rfl ?_
    obtain ⟨F, hF⟩ : ∃ F : Nat → Bool, F = fun z => !decide (z = v) && !gr A.1.1 v z && fl (A.1.1 ^^^ pbit v z) := ⟨_, rfl⟩
    rw [← hF]
    refine xQ.loop (S := xW) (fun k s => (13, [some (.ref 45), some (.int (nI v)), some (.int (mk (fun z => decide (z < k) && F z))), some (.int (nI k)), none], [], s)) (fun k s => mI s A ∧ xkq kN w s) 10 w (by rw [show mk (fun z => decide (z < 0) && F z) = 0 by rw [mk_0]; exact mk_ext fun z _ => by simp]; rfl) (⟨hM, xkq_rfl⟩) ?_ ?_
    · intro k s hk hI K
      obtain ⟨i1, k1⟩ := hI
      have nx0 : ∀ (s2 : xW) (o : Option Value), mI s2 A → xkq kN w s2 → F k = false → xQ MX8_joinable (62, [some (.ref 45), some (.int (nI v)), some (.int (mk (fun z => decide (z < k) && F z))), some (.int (nI k)), o], [.int 0, .int (mk (fun z => decide (z < k) && F z))], s2) (mV w A (mk F)) := by
        intro s2 o m1 m2 hFk
        refine xQ.less [some (.ref 45), some (.int (nI v)), some (.int (mk (fun z => decide (z < k) && F z))), some (.int (nI k)), none] (by simp [xleb]) ?_
        refine xQ.go 1 (F1 := (63, [some (.ref 45), some (.int (nI v)), some (.int (mk (fun z => decide (z < k) && F z))), some (.int (nI k)), none], [.int ((mk (fun z => decide (z < k) && F z)) ||| 0)], s2)) rfl ?_
        rw [Int32.or_zero]
        refine xQ.go 3 (F1 := (13, [some (.ref 45), some (.int (nI v)), some (.int (mk (fun z => decide (z < k) && F z))), some (.int ((nI k) + 1)), none], [], s2)) rfl ?_
        rw [← nI_succ, show mk (fun z => decide (z < k) && F z) = mk (fun z => decide (z < k + 1) && F z) from mk_ext fun z _ => by
          by_cases e : z = k
          · rw [e, hFk, Bool.and_false, Bool.and_false]
          · rw [show decide (z < k) = decide (z < k + 1) from decide_eq_decide.mpr (by omega)]]
        exact K s2 ⟨m1, m2⟩
      have shut : F k = false → xQ MX8_joinable (37, [some (.ref 45), some (.int (nI v)), some (.int (mk (fun z => decide (z < k) && F z))), some (.int (nI k)), none], [], s) (mV w A (mk F)) := by
        intro hFk
        refine xQ.go 2 (F1 := (40, [some (.ref 45), some (.int (nI v)), some (.int (mk (fun z => decide (z < k) && F z))), some (.int (nI k)), some (.int 0)], [], s)) rfl ?_
        refine xQ.go 3 (F1 := (bif decide (0 = 0) then 61 else 46, [some (.ref 45), some (.int (nI v)), some (.int (mk (fun z => decide (z < k) && F z))), some (.int (nI k)), some (.int 0)], [.int (mk (fun z => decide (z < k) && F z))], s)) rfl ?_
        refine xQ.brT (rfl) ?_
        refine xQ.go 1 (F1 := (62, [some (.ref 45), some (.int (nI v)), some (.int (mk (fun z => decide (z < k) && F z))), some (.int (nI k)), some (.int 0)], [.int 0, .int (mk (fun z => decide (z < k) && F z))], s)) rfl ?_
        exact nx0 s _ i1 k1 hFk
      refine xQ.go 3 (F1 := (bif decide (10 ≤ (nI k)) then 70 else 19, [some (.ref 45), some (.int (nI v)), some (.int (mk (fun z => decide (z < k) && F z))), some (.int (nI k)), none], [], s)) rfl ?_
      refine xQ.brF (decide_eq_false (nI_ge (b := 10) (by omega) (by omega))) ?_
      refine xQ.go 3 (F1 := (bif decide ((nI k) = (nI v)) then 37 else 24, [some (.ref 45), some (.int (nI v)), some (.int (mk (fun z => decide (z < k) && F z))), some (.int (nI k)), none], [], s)) rfl ?_
      rw [nI_dec (by omega) (by omega)]
      by_cases e : k = v
      · refine xQ.brT (decide_eq_true e) ?_
        exact shut (by rw [hF]; simp [e])
      · refine xQ.brF (decide_eq_false e) ?_
        refine xQ.go 3 (F1 := (27, [some (.ref 45), some (.int (nI v)), some (.int (mk (fun z => decide (z < k) && F z))), some (.int (nI k)), none], [.int (nI k), .int (nI v), .ref 45], s)) rfl ?_
        refine xQ.call rfl (m_isEdge i1) ?_
        show xQ MX8_joinable (30, [some (.ref 45), some (.int (nI v)), some (.int (mk (fun z => decide (z < k) && F z))), some (.int (nI k)), none], [.int (if jn A.1.1 (nI v) (nI k) = true then 1 else 0)], s) _
        rw [jn_nI hv (by omega)]
        refine xQ.go 1 (F1 := (bif !decide ((if gr A.1.1 v k = true then 1 else 0) = 0) then 37 else 33, [some (.ref 45), some (.int (nI v)), some (.int (mk (fun z => decide (z < k) && F z))), some (.int (nI k)), none], [], s)) rfl ?_
        cases hg : gr A.1.1 v k with
        | true =>
          refine xQ.brT rfl ?_
          exact shut (by rw [hF]; simp [hg])
        | false =>
          refine xQ.brF rfl ?_
          have hvk : v ≠ k := fun h => e h.symm
          refine xQ.go 3 (F1 := (40, [some (.ref 45), some (.int (nI v)), some (.int (mk (fun z => decide (z < k) && F z))), some (.int (nI k)), some (.int 1)], [], s)) rfl ?_
          refine xQ.go 3 (F1 := (bif decide (1 = 0) then 61 else 46, [some (.ref 45), some (.int (nI v)), some (.int (mk (fun z => decide (z < k) && F z))), some (.int (nI k)), some (.int 1)], [.int (mk (fun z => decide (z < k) && F z))], s)) rfl ?_
          refine xQ.brF (rfl) ?_
          obtain ⟨r3, s3, hc3, hr3, i3, k3⟩ := m_plIf i1 hv hk hvk
          subst hr3
          refine xQ.go 3 (F1 := (49, [some (.ref 45), some (.int (nI v)), some (.int (mk (fun z => decide (z < k) && F z))), some (.int (nI k)), some (.int 1)], [.int (nI k), .int (nI v), .ref 45, .int (mk (fun z => decide (z < k) && F z))], s)) rfl ?_
          refine xQ.call rfl (hc3) ?_
          show xQ MX8_joinable (52, [some (.ref 45), some (.int (nI v)), some (.int (mk (fun z => decide (z < k) && F z))), some (.int (nI k)), some (.int 1)], [.int (if fl (A.1.1 ^^^ pbit v k) = true then 1 else 0), .int (mk (fun z => decide (z < k) && F z))], s3) _
          refine xQ.go 1 (F1 := (bif decide ((if fl (A.1.1 ^^^ pbit v k) = true then 1 else 0) = 0) then 61 else 55, [some (.ref 45), some (.int (nI v)), some (.int (mk (fun z => decide (z < k) && F z))), some (.int (nI k)), some (.int 1)], [.int (mk (fun z => decide (z < k) && F z))], s3)) rfl ?_
          cases hfl : fl (A.1.1 ^^^ pbit v k) with
          | false =>
            refine xQ.brT rfl ?_
            refine xQ.go 1 (F1 := (62, [some (.ref 45), some (.int (nI v)), some (.int (mk (fun z => decide (z < k) && F z))), some (.int (nI k)), some (.int 1)], [.int 0, .int (mk (fun z => decide (z < k) && F z))], s3)) rfl ?_
            exact nx0 s3 _ i3 (xkq_trans k1 k3) (by rw [hF]; simp [hfl])
          | true =>
            refine xQ.brF rfl ?_
            refine xQ.go 4 (F1 := (62, [some (.ref 45), some (.int (nI v)), some (.int (mk (fun z => decide (z < k) && F z))), some (.int (nI k)), some (.int 1)], [.int (1 <<< ((nI k) &&& 31)), .int (mk (fun z => decide (z < k) && F z))], s3)) rfl ?_
            rw [mk_bit hk]
            refine xQ.go 1 (F1 := (63, [some (.ref 45), some (.int (nI v)), some (.int (mk (fun z => decide (z < k) && F z))), some (.int (nI k)), some (.int 1)], [.int ((mk (fun z => decide (z < k) && F z)) ||| (mk (fun u => decide (u = k))))], s3)) rfl ?_
            rw [mk_or]
            refine xQ.go 3 (F1 := (13, [some (.ref 45), some (.int (nI v)), some (.int (mk (fun z => (decide (z < k) && F z) || decide (z = k)))), some (.int ((nI k) + 1)), some (.int 1)], [], s3)) rfl ?_
            refine xQ.less [some (.ref 45), some (.int (nI v)), some (.int (mk (fun z => (decide (z < k) && F z) || decide (z = k)))), some (.int ((nI k) + 1)), none] (by simp [xleb]) ?_
            rw [← nI_succ, show mk (fun z => (decide (z < k) && F z) || decide (z = k)) = mk (fun z => decide (z < k + 1) && F z) from mk_ext fun z _ => by
              by_cases e2 : z = k
              · rw [e2, hF]; simp [hg, hfl, e]
              · rw [show decide (z < k) = decide (z < k + 1) from decide_eq_decide.mpr (by omega), decide_eq_false e2, Bool.or_false]]
            exact K s3 ⟨i3, xkq_trans k1 k3⟩
    · intro s hI
      refine xQ.go 3 (F1 := (bif decide (10 ≤ (nI 10)) then 70 else 19, [some (.ref 45), some (.int (nI v)), some (.int (mk (fun z => decide (z < 10) && F z))), some (.int (nI 10)), none], [], s)) rfl ?_
      refine xQ.brT (rfl) ?_
      rw [show mk (fun z => decide (z < 10) && F z) = mk F from mk_ext fun z hz => by rw [decide_eq_true hz, Bool.true_and]]
      refine xQ.go 1 (F1 := (71, [some (.ref 45), some (.int (nI v)), some (.int (mk F)), some (.int (nI 10)), none], [.int (mk F)], s)) rfl ?_
      refine xQ.iret .int 1 rfl rfl (rfl) ?_
      exact ⟨rfl, hI.1, kN_M hI.2⟩
theorem ec_flip {e : Int64} {a b : Nat} (ha : a < 10) (hb : b < 10) (hne : a ≠ b) (hg : gr e a b = false) : ec (gr (e ^^^ pbit a b)) = ec (gr e) + 1 := by
  rw [gr_of ha hb hne] at hg
  rw [ec_bits, ec_bits, ← cnt_add1 (pix_lt ha hb hne) hg]
  refine cnt_ext fun v hv => ?_
  rw [tJ_xor, tJ_pbit ha hb hne (by omega)]
  by_cases h : v = pix a b
  · rw [h, hg]; simp
  · rw [decide_eq_false h]; simp
theorem M_comp {w : xW} {A : xAb} (hM : mI w A) : xD MX8_complete [.ref 45] w (mQ w (sComp A)) := by
  refine xD.of ?_
  show xQ MX8_complete (0, [some (.ref 45), none, none, none], [], w) _
  obtain ⟨r1, w1, hc1, hr1, i1, _, _, _, k1⟩ := m_plNow hM
  subst hr1
  refine xQ.go 1 (F1 := (1, [some (.ref 45), none, none, none], [.ref 45], w)) rfl ?_
  refine xQ.call rfl (hc1) ?_
  show xQ MX8_complete (4, [some (.ref 45), none, none, none], [.int (if fl A.1.1 = true then 1 else 0)], w1) _
  unfold sComp
  refine xQ.go 1 (F1 := (bif !decide ((if fl A.1.1 = true then 1 else 0) = 0) then 10 else 7, [some (.ref 45), none, none, none], [], w1)) rfl ?_
  by_cases hf : fl A.1.1 = true
  · rw [if_pos hf, if_pos hf]
    refine xQ.brT rfl ?_
    obtain ⟨r2, w2, hc2, hr2, i2, k2⟩ := m_record i1
    subst hr2
    refine xQ.go 1 (F1 := (11, [some (.ref 45), none, none, none], [.ref 45], w1)) rfl ?_
    refine xQ.call rfl (hc2) ?_
    show xQ MX8_complete (14, [some (.ref 45), none, none, none], [], w2) _
    refine xQ.go 4 (F1 := (18, [some (.ref 45), some (.int 0), some (.int 0), none], [], w2)) rfl ?_
    refine xQ.loop (S := xW × Nat) (fun k s => (18, [some (.ref 45), some (.int (nI s.2)), some (.int (nI k)), none], [], s.1)) (fun k s => mI s.1 (pfold cmpF A.1 (10 * k), recH A.2.1 A.1, A.2.2) ∧ ec (gr (pfold cmpF A.1 (10 * k)).1) = ec (gr A.1.1) + s.2 ∧ xkq kM w s.1) 10 (w2, 0) (rfl) (⟨i2, rfl, xkq_trans (kN_M k1) (xkq_mono rfl k2)⟩) ?_ ?_
    · intro k s hk hI K
      obtain ⟨s, c⟩ := s
      show xQ MX8_complete (18, [some (.ref 45), some (.int (nI c)), some (.int (nI k)), none], [], s) _
      refine xQ.go 3 (F1 := (bif decide (10 ≤ (nI k)) then 73 else 24, [some (.ref 45), some (.int (nI c)), some (.int (nI k)), none], [], s)) rfl ?_
      refine xQ.brF (decide_eq_false (nI_ge (b := 10) (by omega) (by omega))) ?_
      refine xQ.go 4 (F1 := (28, [some (.ref 45), some (.int (nI c)), some (.int (nI k)), some (.int ((nI k) + 1))], [], s)) rfl ?_
      rw [show nI k + 1 = nI (k + 1) from (nI_succ k).symm]
      have hsk : ∀ n, n = k + 1 → pfold cmpF A.1 (10 * k + n) = pfold cmpF A.1 (10 * k) := fun n hn => pfold_skip (by omega) (by omega)
      refine xQ.loop (S := xW × Nat) (fun k2 s2 => (28, [some (.ref 45), some (.int (nI s2.2)), some (.int (nI k)), some (.int (nI (k + 1 + k2)))], [], s2.1)) (fun k2 s2 => mI s2.1 (pfold cmpF A.1 (10 * k + (k + 1 + k2)), recH A.2.1 A.1, A.2.2) ∧ ec (gr (pfold cmpF A.1 (10 * k + (k + 1 + k2))).1) = ec (gr A.1.1) + s2.2 ∧ xkq kM w s2.1) (9 - k) (s, c) (rfl) (by rw [hsk (k + 1 + 0) rfl]; exact hI) ?_ ?_
      · intro k2 s2 hk2 hI2 K2
        obtain ⟨s2, c2⟩ := s2
        obtain ⟨b, hbe⟩ : ∃ b, b = k + 1 + k2 := ⟨_, rfl⟩
        rw [show k + 1 + (k2 + 1) = b + 1 by omega] at K2
        rw [← hbe] at hI2 ⊢
        obtain ⟨j1, jc, j2⟩ := hI2
        have hnx : pfold cmpF A.1 (10 * k + (b + 1)) = cmpF (pfold cmpF A.1 (10 * k + b)) k b := pfold_next (by omega) (by omega)
        rw [hnx] at K2
        have hk10 : k < 10 := by omega
        have hb10 : b < 10 := by omega
        have hkb : k ≠ b := by omega
        generalize pfold cmpF A.1 (10 * k + b) = t at *
        simp only at j1 jc j2
        show xQ MX8_complete (28, [some (.ref 45), some (.int (nI c2)), some (.int (nI k)), some (.int (nI b))], [], s2) _
        have nx : ∀ s3 : xW, cmpF t k b = t → mI s3 (t, recH A.2.1 A.1, A.2.2) → xkq kM w s3 → xQ MX8_complete (61, [some (.ref 45), some (.int (nI c2)), some (.int (nI k)), some (.int (nI b))], [], s3) (mQ w (nEd (pfold cmpF A.1 100) - nEd A.1, (pfold cmpF A.1 100, recH A.2.1 A.1, A.2.2))) := by
          intro s3 m0 m1 m2
          refine xQ.go 2 (F1 := (28, [some (.ref 45), some (.int (nI c2)), some (.int (nI k)), some (.int ((nI b) + 1))], [], s3)) rfl ?_
          rw [← nI_succ]
          rw [m0] at K2
          exact K2 (s3, c2) ⟨m1, jc, m2⟩
        refine xQ.go 3 (F1 := (bif decide (10 ≤ (nI b)) then 67 else 34, [some (.ref 45), some (.int (nI c2)), some (.int (nI k)), some (.int (nI b))], [], s2)) rfl ?_
        refine xQ.brF (decide_eq_false (nI_ge (b := 10) (by omega) (by omega))) ?_
        refine xQ.go 3 (F1 := (37, [some (.ref 45), some (.int (nI c2)), some (.int (nI k)), some (.int (nI b))], [.int (nI b), .int (nI k), .ref 45], s2)) rfl ?_
        refine xQ.call rfl (m_isEdge j1) ?_
        show xQ MX8_complete (40, [some (.ref 45), some (.int (nI c2)), some (.int (nI k)), some (.int (nI b))], [.int (if jn t.1 (nI k) (nI b) = true then 1 else 0)], s2) _
        rw [jn_nI hk10 hb10]
        refine xQ.go 1 (F1 := (bif !decide ((if gr t.1 k b = true then 1 else 0) = 0) then 61 else 43, [some (.ref 45), some (.int (nI c2)), some (.int (nI k)), some (.int (nI b))], [], s2)) rfl ?_
        cases hg : gr t.1 k b with
        | true =>
          refine xQ.brT rfl ?_
          exact nx s2 (by unfold cmpF; rw [if_neg (by rw [hg]; simp)]) j1 j2
        | false =>
          refine xQ.brF rfl ?_
          obtain ⟨r3, s3, hc3, hr3, i3, k3⟩ := m_plIf j1 hk10 hb10 hkb
          subst hr3
          refine xQ.go 3 (F1 := (46, [some (.ref 45), some (.int (nI c2)), some (.int (nI k)), some (.int (nI b))], [.int (nI b), .int (nI k), .ref 45], s2)) rfl ?_
          refine xQ.call rfl (hc3) ?_
          show xQ MX8_complete (49, [some (.ref 45), some (.int (nI c2)), some (.int (nI k)), some (.int (nI b))], [.int (if fl (t.1 ^^^ pbit k b) = true then 1 else 0)], s3) _
          refine xQ.go 1 (F1 := (bif decide ((if fl (t.1 ^^^ pbit k b) = true then 1 else 0) = 0) then 61 else 52, [some (.ref 45), some (.int (nI c2)), some (.int (nI k)), some (.int (nI b))], [], s3)) rfl ?_
          cases hF : fl (t.1 ^^^ pbit k b) with
          | false =>
            refine xQ.brT rfl ?_
            exact nx s3 (by unfold cmpF; rw [if_neg (by rw [hF]; simp)]) i3 (xkq_trans j2 (kN_M k3))
          | true =>
            refine xQ.brF rfl ?_
            obtain ⟨r4, s4, hc4, hr4, i4, k4⟩ := m_flip (a := k) (b := b) i3 hk10 hb10 hkb
            subst hr4
            refine xQ.go 3 (F1 := (55, [some (.ref 45), some (.int (nI c2)), some (.int (nI k)), some (.int (nI b))], [.int (nI b), .int (nI k), .ref 45], s3)) rfl ?_
            refine xQ.call rfl (hc4) ?_
            show xQ MX8_complete (58, [some (.ref 45), some (.int (nI c2)), some (.int (nI k)), some (.int (nI b))], [], s4) _
            have hcm : cmpF t k b = flipS t k b := by unfold cmpF; rw [if_pos ⟨hg, hF⟩]
            rw [hcm] at K2
            refine xQ.go 3 (F1 := (28, [some (.ref 45), some (.int ((nI c2) + 1)), some (.int (nI k)), some (.int ((nI b) + 1))], [], s4)) rfl ?_
            rw [← nI_succ, ← nI_succ]
            refine K2 (s4, c2 + 1) ⟨i4, ?_, xkq_trans j2 (xkq_trans (kN_M k3) (xkq_mono rfl k4))⟩
            show ec (gr (t.1 ^^^ pbit k b)) = _
            rw [ec_flip hk10 hb10 hkb hg, jc]
            rfl
      · intro s2 hI2
        obtain ⟨s2, c2⟩ := s2
        rw [show 10 * k + (k + 1 + (9 - k)) = 10 * (k + 1) by omega, show k + 1 + (9 - k) = 10 by omega] at *
        show xQ MX8_complete (28, [some (.ref 45), some (.int (nI c2)), some (.int (nI k)), some (.int (nI 10))], [], s2) _
        refine xQ.go 3 (F1 := (bif decide (10 ≤ (nI 10)) then 67 else 34, [some (.ref 45), some (.int (nI c2)), some (.int (nI k)), some (.int (nI 10))], [], s2)) rfl ?_
        refine xQ.brT (rfl) ?_
        refine xQ.go 2 (F1 := (18, [some (.ref 45), some (.int (nI c2)), some (.int ((nI k) + 1)), some (.int (nI 10))], [], s2)) rfl ?_
        refine xQ.less [some (.ref 45), some (.int (nI c2)), some (.int ((nI k) + 1)), none] (by simp [xleb]) ?_
        rw [← nI_succ]
        exact K (s2, c2) hI2
    · intro s hI
      obtain ⟨s, c⟩ := s
      obtain ⟨j1, jc, j2⟩ := hI
      simp only at j1 jc j2
      show xQ MX8_complete (18, [some (.ref 45), some (.int (nI c)), some (.int (nI 10)), none], [], s) _
      refine xQ.go 3 (F1 := (bif decide (10 ≤ (nI 10)) then 73 else 24, [some (.ref 45), some (.int (nI c)), some (.int (nI 10)), none], [], s)) rfl ?_
      refine xQ.brT (rfl) ?_
      refine xQ.go 1 (F1 := (74, [some (.ref 45), some (.int (nI c)), some (.int (nI 10)), none], [.int (nI c)], s)) rfl ?_
      refine xQ.iret .int 1 rfl rfl (rfl) ?_
      refine ⟨?_, j1, j2⟩
      have h1 : ec (gr (pfold cmpF A.1 100).1) = ec (gr A.1.1) + c := jc
      show some (Value.int (nI c)) = some (.int (nI (ec (gr (pfold cmpF A.1 100).1)) - nI (ec (gr A.1.1))))
      rw [h1, jI_sub (by omega), Nat.add_sub_cancel_left]
  · rw [if_neg hf, if_neg hf]
    refine xQ.brF rfl ?_
    refine xQ.go 1 (F1 := (9, [some (.ref 45), none, none, none], [.int (-4)], w1)) rfl ?_
    refine xQ.iret .int 1 rfl rfl (rfl) ?_
    exact ⟨rfl, i1, kN_M k1⟩
