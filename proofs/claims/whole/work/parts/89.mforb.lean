/-! the reference: block info, the forbidden subgraph, density -/
theorem kI_w {n : Nat} (hn : n < 1000) (x : Int32) : (if 0 ≤ x ∧ x ≤ nI n - 1 then (1 : Int32) else 0) = if (kI n x).isSome = true then 1 else 0 := by
  have hs : (nI n - 1).toInt = (n : Int) - 1 := by
    match n, hn with
    | 0, _ => rfl
    | m + 1, h => rw [show nI (m + 1) - 1 = nI m by rw [show (1 : Int32) = nI 1 from rfl, jI_sub (by omega)]; rfl, nI_toInt (by omega)]; omega
  cases h : kI n x with
  | none =>
    refine (if_neg ?_ : _ = (0 : Int32))
    rintro ⟨h1, h2⟩
    have h1 := Int32.le_iff_toInt_le.mp h1
    have h2 := Int32.le_iff_toInt_le.mp h2
    rw [hs] at h2
    rw [Int32.toInt_zero] at h1
    rcases kI_out (by omega) h with h3 | h3 <;> omega
  | some k =>
    obtain ⟨hk, ex⟩ := kI_some h
    refine (if_pos ?_ : _ = (1 : Int32))
    rw [ex, Int32.le_iff_toInt_le, Int32.le_iff_toInt_le, hs, nI_toInt (by omega), Int32.toInt_zero]
    omega
theorem M_info {w : xW} {A : xAb} {x y : Int32} (hM : mI w A) : xD MX8_blockInfo [.ref 45, .int x, .int y] w (mV w A (qInfo A x y)) := by
  refine xD.of ?_
  show xQ MX8_blockInfo (0, [some (.ref 45), some (.int x), some (.int y)], [], w) _
  obtain ⟨r1, w1, hc1, hr1, i1, g1, f1, k1⟩ := m_blkNow hM
  subst hr1
  refine xQ.go 3 (F1 := (3, [some (.ref 45), some (.int x), some (.int y)], [.ref 45, .int 0, .int x], w)) rfl ?_
  refine xQ.call rfl (hc1) ?_
  show xQ MX8_blockInfo (6, [some (.ref 45), some (.int x), some (.int y)], [.int (nI (bl A.1.1).length), .int 0, .int x], w1) _
  have h9 := bl_nine A.1.1
  refine xQ.go 2 (F1 := (8, [some (.ref 45), some (.int x), some (.int y)], [.int ((nI (bl A.1.1).length) - 1), .int 0, .int x], w1)) rfl ?_
  refine xQ.call rfl (m_within) ?_
  show xQ MX8_blockInfo (11, [some (.ref 45), some (.int x), some (.int y)], [.int (if 0 ≤ x ∧ x ≤ nI (bl A.1.1).length - 1 then 1 else 0)], w1) _
  rw [kI_w (by omega)]
  refine xQ.go 1 (F1 := (bif !decide ((if (kI (bl A.1.1).length x).isSome = true then 1 else 0) = 0) then 16 else 14, [some (.ref 45), some (.int x), some (.int y)], [], w1)) rfl ?_
  unfold qInfo
  cases hx : kI (bl A.1.1).length x with
  | none =>
    refine xQ.brF rfl ?_
    refine xQ.go 1 (F1 := (15, [some (.ref 45), some (.int x), some (.int y)], [.int (-1)], w1)) rfl ?_
    refine xQ.iret .int 1 rfl rfl (rfl) ?_
    exact ⟨rfl, i1, kN_M k1⟩
  | some i =>
    obtain ⟨hi, ex⟩ := kI_some hx
    refine xQ.brT rfl ?_
    rw [ex]
    obtain ⟨r2, w2, hc2, hr2, ⟨e1, e2, e3⟩, _, _, _, k2⟩ := m_embed (gr_gok A.1.1) g1 f1 (getD_of hi ((0, 0) : xPr))
    have f2 := fB_kq f1 k2
    have g2 := gM_kq g1 k2
    subst hr2
    refine xQ.go 2 (F1 := (18, [some (.ref 45), some (.int (nI i)), some (.int y)], [.int (nI i), .ref 45], w1)) rfl ?_
    refine xQ.call rfl (hc2) ?_
    show xQ MX8_blockInfo (21, [some (.ref 45), some (.int (nI i)), some (.int y)], [], w2) _
    have kk : xkq kN w w2 := xkq_trans k1 (xkq_mono rfl k2)
    have i2 : mI w2 A := mI_N hM kk
    have ho := getD_of hi ((0, 0) : xPr)
    simp only
    generalize (bl A.1.1).getD i (0, 0) = p at *
    refine xQ.go 1 (F1 := (22, [some (.ref 45), some (.int (nI i)), some (.int y)], [.int y], w2)) rfl ?_
    cases hy : kI 5 y with
    | none =>
      refine xQ.tsw rfl 104 (⟨(kI_out (by omega) hy).imp id (fun h => by omega), rfl⟩) ?_
      show xQ MX8_blockInfo (104, [some (.ref 45), some (.int (nI i)), some (.int y)], [], w2) _
      refine xQ.go 1 (F1 := (106, [some (.ref 45), some (.int (nI i)), some (.int y)], [.int (-2)], w2)) rfl ?_
      refine xQ.iret .int 1 rfl rfl (rfl) ?_
      exact ⟨rfl, i2, kN_M kk⟩
    | some k =>
      obtain ⟨hk5, ey⟩ := kI_some hy
      rw [ey]
      match k, hk5 with
      | 0, _ =>
        refine xQ.tin rfl 56 (⟨⟨rfl, by omega⟩, ⟨by decide, rfl⟩, rfl⟩) ?_
        show xQ MX8_blockInfo (56, [some (.ref 45), some (.int (nI i)), some (.int (nI 0))], [], w2) _
        refine xQ.go 2 (F1 := (58, [some (.ref 45), some (.int (nI i)), some (.int (nI 0))], [.int (nI i), .ref 45], w2)) rfl ?_
        refine xQ.call rfl (m_vertsOf (gr_gok A.1.1) g2 f2 ho) ?_
        show xQ MX8_blockInfo (61, [some (.ref 45), some (.int (nI i)), some (.int (nI 0))], [.int (mk (bS (gr A.1.1) p))], w2) _
        refine xQ.iret .int 1 rfl rfl (rfl) ?_
        exact ⟨rfl, i2, kN_M kk⟩
      | 1, _ =>
        refine xQ.tin rfl 62 (⟨⟨rfl, by omega⟩, ⟨by decide, rfl⟩, rfl⟩) ?_
        show xQ MX8_blockInfo (62, [some (.ref 45), some (.int (nI i)), some (.int (nI 1))], [], w2) _
        refine xQ.go 2 (F1 := (64, [some (.ref 45), some (.int (nI i)), some (.int (nI 1))], [.int (nI i), .ref 45], w2)) rfl ?_
        refine xQ.call rfl (m_edgesOf (gr_gok A.1.1) f2 ho) ?_
        show xQ MX8_blockInfo (67, [some (.ref 45), some (.int (nI i)), some (.int (nI 1))], [.int (nI (bE (gr A.1.1) p))], w2) _
        refine xQ.iret .int 1 rfl rfl (rfl) ?_
        exact ⟨rfl, i2, kN_M kk⟩
      | 2, _ =>
        refine xQ.tin rfl 68 (⟨⟨rfl, by omega⟩, ⟨by decide, rfl⟩, rfl⟩) ?_
        show xQ MX8_blockInfo (68, [some (.ref 45), some (.int (nI i)), some (.int (nI 2))], [], w2) _
        refine xQ.go 3 (F1 := (73, [some (.ref 45), some (.int (nI i)), some (.int (nI 2))], [.int (nI i), .ref 52], w2)) rfl ?_
        refine xQ.iald rfl (k := i) (rfl) (⟨by omega, by omega⟩) rfl ?_
        show xQ MX8_blockInfo (74, [some (.ref 45), some (.int (nI i)), some (.int (nI 2))], [.int (w2.1 52 i)], w2) _
        rw [e1]
        refine xQ.iret .int 1 rfl rfl (rfl) ?_
        exact ⟨rfl, i2, kN_M kk⟩
      | 3, _ =>
        refine xQ.tin rfl 75 (⟨⟨rfl, by omega⟩, ⟨by decide, rfl⟩, rfl⟩) ?_
        show xQ MX8_blockInfo (75, [some (.ref 45), some (.int (nI i)), some (.int (nI 3))], [], w2) _
        refine xQ.go 3 (F1 := (80, [some (.ref 45), some (.int (nI i)), some (.int (nI 3))], [.int (nI i), .ref 52], w2)) rfl ?_
        refine xQ.iald rfl (k := i) (rfl) (⟨by omega, by omega⟩) rfl ?_
        show xQ MX8_blockInfo (81, [some (.ref 45), some (.int (nI i)), some (.int (nI 3))], [.int (w2.1 52 i)], w2) _
        rw [e1]
        refine xQ.go 2 (F1 := (bif !decide ((if bPl (gr A.1.1) p = bE (gr A.1.1) p then 1 else 0) = 1) then 94 else 85, [some (.ref 45), some (.int (nI i)), some (.int (nI 3))], [], w2)) rfl ?_
        by_cases e : bPl (gr A.1.1) p = bE (gr A.1.1) p
        · rw [if_pos e]
          refine xQ.brF rfl ?_
          refine xQ.go 3 (F1 := (90, [some (.ref 45), some (.int (nI i)), some (.int (nI 3))], [.int (nI i), .ref 54], w2)) rfl ?_
          refine xQ.iald rfl (k := i) (rfl) (⟨by omega, by omega⟩) rfl ?_
          show xQ MX8_blockInfo (91, [some (.ref 45), some (.int (nI i)), some (.int (nI 3))], [.int (w2.1 54 i)], w2) _
          rw [e3]
          refine xQ.go 1 (F1 := (96, [some (.ref 45), some (.int (nI i)), some (.int (nI 3))], [.int (nI (bFa (gr A.1.1) p))], w2)) rfl ?_
          refine xQ.iret .int 1 rfl rfl (rfl) ?_
          exact ⟨by simp only; rw [if_pos e], i2, kN_M kk⟩
        · rw [if_neg e]
          refine xQ.brT rfl ?_
          refine xQ.go 1 (F1 := (96, [some (.ref 45), some (.int (nI i)), some (.int (nI 3))], [.int (-5)], w2)) rfl ?_
          refine xQ.iret .int 1 rfl rfl (rfl) ?_
          exact ⟨by simp only; rw [if_neg e], i2, kN_M kk⟩
      | 4, _ =>
        refine xQ.tin rfl 97 (⟨⟨rfl, by omega⟩, ⟨by decide, rfl⟩, rfl⟩) ?_
        show xQ MX8_blockInfo (97, [some (.ref 45), some (.int (nI i)), some (.int (nI 4))], [], w2) _
        refine xQ.go 3 (F1 := (102, [some (.ref 45), some (.int (nI i)), some (.int (nI 4))], [.int (nI i), .ref 53], w2)) rfl ?_
        refine xQ.iald rfl (k := i) (rfl) (⟨by omega, by omega⟩) rfl ?_
        show xQ MX8_blockInfo (103, [some (.ref 45), some (.int (nI i)), some (.int (nI 4))], [.int (w2.1 53 i)], w2) _
        rw [e2]
        refine xQ.iret .int 1 rfl rfl (rfl) ?_
        exact ⟨rfl, i2, kN_M kk⟩
theorem wo_xor {t : Int64} {a b : Nat} (ha : a < 10) (hb : b < 10) (h : a ≠ b) (hg : gr t a b = true) : wo t a b = t ^^^ pbit a b := by
  refine tJ_ext fun v hv => ?_
  unfold wo
  rw [tJ_and, tJ_xor, tJ_m1 hv, tJ_xor, tJ_pbit ha hb h hv]
  by_cases e1 : v = pix a b
  · rw [gr_of ha hb h] at hg
    rw [e1, hg]
    simp
  · rw [decide_eq_false e1]
    simp
theorem xor2 (t p : Int64) : t ^^^ p ^^^ p = t := by rw [Int64.xor_assoc, Int64.xor_self, Int64.xor_zero]
theorem m_findF {w : xW} {A : xAb} (hM : mI w A) : xD MX8_findForbidden [.ref 45] w (fun r w1 => r = some (.int (if fl A.1.1 = true then 0 else 1)) ∧ mI w1 A ∧ (fl A.1.1 = false → gM w1 (gr (obs A.1.1 100))) ∧ xkq kN w w1) := by
  refine xD.of ?_
  show xQ MX8_findForbidden (0, [some (.ref 45), none, none], [], w) _
  obtain ⟨r1, w1, hc1, hr1, i1, g1, _, _, k1⟩ := m_plNow hM
  subst hr1
  refine xQ.go 1 (F1 := (1, [some (.ref 45), none, none], [.ref 45], w)) rfl ?_
  refine xQ.call rfl (hc1) ?_
  show xQ MX8_findForbidden (4, [some (.ref 45), none, none], [.int (if fl A.1.1 = true then 1 else 0)], w1) _
  refine xQ.go 1 (F1 := (bif decide ((if fl A.1.1 = true then 1 else 0) = 0) then 9 else 7, [some (.ref 45), none, none], [], w1)) rfl ?_
  cases hf : fl A.1.1 with
  | true =>
    refine xQ.brF rfl ?_
    refine xQ.go 1 (F1 := (8, [some (.ref 45), none, none], [.int 0], w1)) rfl ?_
    refine xQ.iret .boolean 1 rfl rfl (rfl) ?_
    exact ⟨rfl, i1, fun h => Bool.noConfusion h, k1⟩
  | false =>
    refine xQ.brT rfl ?_
    refine xQ.go 2 (F1 := (11, [some (.ref 45), some (.int 0), none], [], w1)) rfl ?_
    refine xQ.loop (S := xW) (fun k s => (11, [some (.ref 45), some (.int (nI k)), none], [], s)) (fun k s => gM s (gr (obs A.1.1 (10 * k))) ∧ xkq kN w s) 10 w1 (rfl) (⟨g1, k1⟩) ?_ ?_
    · intro k s hk hI K
      refine xQ.go 3 (F1 := (bif decide (10 ≤ (nI k)) then 72 else 17, [some (.ref 45), some (.int (nI k)), none], [], s)) rfl ?_
      refine xQ.brF (decide_eq_false (nI_ge (b := 10) (by omega) (by omega))) ?_
      refine xQ.go 4 (F1 := (21, [some (.ref 45), some (.int (nI k)), some (.int ((nI k) + 1))], [], s)) rfl ?_
      rw [show nI k + 1 = nI (k + 1) from (nI_succ k).symm]
      have hsk : ∀ n, n = k + 1 → obs A.1.1 (10 * k + n) = obs A.1.1 (10 * k) := fun n hn => pfold_skip (by omega) (by omega)
      refine xQ.loop (S := xW) (fun k2 s2 => (21, [some (.ref 45), some (.int (nI k)), some (.int (nI (k + 1 + k2)))], [], s2)) (fun k2 s2 => gM s2 (gr (obs A.1.1 (10 * k + (k + 1 + k2)))) ∧ xkq kN w s2) (9 - k) s (rfl) (by rw [hsk (k + 1 + 0) rfl]; exact hI) ?_ ?_
      · intro k2 s2 hk2 hI2 K2
        obtain ⟨b, hbe⟩ : ∃ b, b = k + 1 + k2 := ⟨_, rfl⟩
        rw [show k + 1 + (k2 + 1) = b + 1 by omega] at K2
        rw [← hbe] at hI2 ⊢
        obtain ⟨j1, j2⟩ := hI2
        have hnx : obs A.1.1 (10 * k + (b + 1)) = obF (obs A.1.1 (10 * k + b)) k b := pfold_next (by omega) (by omega)
        rw [hnx] at K2
        have hk10 : k < 10 := by omega
        have hb10 : b < 10 := by omega
        have hkb : k ≠ b := by omega
        generalize obs A.1.1 (10 * k + b) = t at *
        show xQ MX8_findForbidden (21, [some (.ref 45), some (.int (nI k)), some (.int (nI b))], [], s2) _
        have nx : ∀ s3 : xW, gM s3 (gr (obF t k b)) → xkq kN w s3 → xQ MX8_findForbidden (60, [some (.ref 45), some (.int (nI k)), some (.int (nI b))], [], s3) (fun r w1 => r = some (.int (if false = true then 0 else 1)) ∧ mI w1 A ∧ (false = false → gM w1 (gr (obs A.1.1 100))) ∧ xkq kN w w1) := by
          intro s3 m1 m2
          refine xQ.go 2 (F1 := (21, [some (.ref 45), some (.int (nI k)), some (.int ((nI b) + 1))], [], s3)) rfl ?_
          rw [← nI_succ]
          exact K2 s3 ⟨m1, m2⟩
        refine xQ.go 3 (F1 := (bif decide (10 ≤ (nI b)) then 66 else 27, [some (.ref 45), some (.int (nI k)), some (.int (nI b))], [], s2)) rfl ?_
        refine xQ.brF (decide_eq_false (nI_ge (b := 10) (by omega) (by omega))) ?_
        refine xQ.go 3 (F1 := (32, [some (.ref 45), some (.int (nI k)), some (.int (nI b))], [.int (nI k), .ref 50], s2)) rfl ?_
        refine xQ.iald rfl (k := k) (rfl) (⟨by omega, by omega⟩) rfl ?_
        show xQ MX8_findForbidden (33, [some (.ref 45), some (.int (nI k)), some (.int (nI b))], [.int (s2.1 50 k)], s2) _
        rw [j1 k hk10]
        refine xQ.go 6 (F1 := (bif !decide ((((mk (gr t k)) >>> ((nI b) &&& 31)) &&& 1) = 1) then 60 else 41, [some (.ref 45), some (.int (nI k)), some (.int (nI b))], [], s2)) rfl ?_
        rw [mk_get _ hb10, b01e]
        cases hg : gr t k b with
        | false =>
          refine xQ.brT rfl ?_
          exact nx s2 (by unfold obF; rw [if_neg (by rw [hg]; simp)]; exact j1) j2
        | true =>
          refine xQ.brF rfl ?_
          obtain ⟨r2, s3, hc2, hr2, g2, k2⟩ := m_flipG j1 hk10 hb10 hkb
          subst hr2
          refine xQ.go 3 (F1 := (44, [some (.ref 45), some (.int (nI k)), some (.int (nI b))], [.int (nI b), .int (nI k), .ref 45], s2)) rfl ?_
          refine xQ.call rfl (hc2) ?_
          show xQ MX8_findForbidden (47, [some (.ref 45), some (.int (nI k)), some (.int (nI b))], [], s3) _
          obtain ⟨r3, s4, hc3, hr3, g3, f3, sc3, k3⟩ := m_isPl (gr_gok (t ^^^ pbit k b)) g2
          subst hr3
          refine xQ.go 1 (F1 := (48, [some (.ref 45), some (.int (nI k)), some (.int (nI b))], [.ref 45], s3)) rfl ?_
          refine xQ.call rfl (hc3) ?_
          show xQ MX8_findForbidden (51, [some (.ref 45), some (.int (nI k)), some (.int (nI b))], [.int (if flt (gr (t ^^^ pbit k b)) (blks (gr (t ^^^ pbit k b)) 100) = true then 1 else 0)], s4) _
          have kk : xkq kN w s4 := xkq_trans j2 (xkq_trans (xkq_mono rfl k2) (kP_N k3))
          rw [show flt (gr (t ^^^ pbit k b)) (blks (gr (t ^^^ pbit k b)) 100) = fl (wo t k b) by rw [wo_xor hk10 hb10 hkb hg]; rfl]
          refine xQ.go 1 (F1 := (bif decide ((if fl (wo t k b) = true then 1 else 0) = 0) then 60 else 54, [some (.ref 45), some (.int (nI k)), some (.int (nI b))], [], s4)) rfl ?_
          cases hF : fl (wo t k b) with
          | false =>
            refine xQ.brT rfl ?_
            exact nx s4 (by unfold obF; rw [if_pos ⟨hg, hF⟩, wo_xor hk10 hb10 hkb hg]; exact g3) kk
          | true =>
            refine xQ.brF rfl ?_
            obtain ⟨r4, s5, hc4, hr4, g4, k4⟩ := m_flipG g3 hk10 hb10 hkb
            subst hr4
            refine xQ.go 3 (F1 := (57, [some (.ref 45), some (.int (nI k)), some (.int (nI b))], [.int (nI b), .int (nI k), .ref 45], s4)) rfl ?_
            refine xQ.call rfl (hc4) ?_
            show xQ MX8_findForbidden (60, [some (.ref 45), some (.int (nI k)), some (.int (nI b))], [], s5) _
            rw [xor2] at g4
            exact nx s5 (by unfold obF; rw [if_neg (by rw [hF]; simp)]; exact g4) (xkq_trans kk (xkq_mono rfl k4))
      · intro s2 hI2
        rw [show 10 * k + (k + 1 + (9 - k)) = 10 * (k + 1) by omega, show k + 1 + (9 - k) = 10 by omega] at *
        show xQ MX8_findForbidden (21, [some (.ref 45), some (.int (nI k)), some (.int (nI 10))], [], s2) _
        refine xQ.go 3 (F1 := (bif decide (10 ≤ (nI 10)) then 66 else 27, [some (.ref 45), some (.int (nI k)), some (.int (nI 10))], [], s2)) rfl ?_
        refine xQ.brT (rfl) ?_
        refine xQ.go 2 (F1 := (11, [some (.ref 45), some (.int ((nI k) + 1)), some (.int (nI 10))], [], s2)) rfl ?_
        refine xQ.less [some (.ref 45), some (.int ((nI k) + 1)), none] (by simp [xleb]) ?_
        rw [← nI_succ]
        exact K s2 hI2
    · intro s hI
      obtain ⟨j1, j2⟩ := hI
      refine xQ.go 3 (F1 := (bif decide (10 ≤ (nI 10)) then 72 else 17, [some (.ref 45), some (.int (nI 10)), none], [], s)) rfl ?_
      refine xQ.brT (rfl) ?_
      refine xQ.go 1 (F1 := (73, [some (.ref 45), some (.int (nI 10)), none], [.int 1], s)) rfl ?_
      refine xQ.iret .boolean 1 rfl rfl (rfl) ?_
      exact ⟨rfl, mI_N hM j2, fun _ => j1, j2⟩
