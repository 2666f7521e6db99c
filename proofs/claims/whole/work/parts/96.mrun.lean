/-! the reference: fault, run -/
theorem nI_m5 {a : Nat} (h : a < 1000) : nI a ≠ -5 := fun e => nI_pos (n := a) (by omega) (by rw [e]; decide)
theorem rgt_8 (T : List Nat) (s : Nat) : rgt T s ≤ 8 := by
  have h := rgt_le T s
  rcases foL_cases (tch T s) with ⟨_, _, _, e⟩ | ⟨_, _, e, _⟩
  · rw [e] at h
    exact Nat.le_trans h (by decide)
  · omega
theorem m_flt {w : xW} {T : List Nat} (hT : mT w T) : xD MX8_findFault [.ref 45] w (fun r w1 => r = some (.int (scn T 11 0).1) ∧ xkq kR w w1) := by
  have h80 := hT.2.1.1
  refine xD.of ?_
  show xQ MX8_findFault (0, [some (.ref 45)], [], w) _
  refine xQ.go 3 (F1 := (5, [some (.ref 45)], [], (xuI w 45 7 0))) rfl ?_
  refine xQ.loop (S := xW × Nat) (fun k s => (5, [some (.ref 45)], [], s.1)) (fun k s => (scn T 11 0).1 = (scn T (11 - k) s.2).1 ∧ 8 * k ≤ s.2 ∧ s.2 ≤ 80 ∧ s.1.1 45 7 = nI s.2 ∧ xkq kR w s.1) 11 ((xuI w 45 7 0), 0) (rfl) (⟨rfl, Nat.le_refl _, Nat.zero_le _, by simp [uI1]; rfl, xkq_I xkq_rfl rfl⟩) ?_ ?_
  · intro k s hk hI K
    obtain ⟨t, st⟩ := s
    obtain ⟨i1, i2, i3, i4, i5⟩ := hI
    simp only at i1 i2 i3 i4 i5 ⊢
    rw [show 11 - k = (10 - k) + 1 by omega] at i1
    rw [show 11 - (k + 1) = 10 - k by omega] at K
    show xQ MX8_findFault (5, [some (.ref 45)], [], t) _
    obtain ⟨r1, t1, hc1, k1, b1, h⟩ := m_edit (mT_of hT i5) i4 (by omega)
    have kk : xkq kR w t1 := xkq_trans i5 k1
    have h8 := rgt_8 T st
    rcases h with ⟨hok, hr, a1, _, _⟩ | ⟨hbad, hr, a1⟩
    · subst hr
      refine xQ.go 1 (F1 := (6, [some (.ref 45)], [.ref 45], t)) rfl ?_
      refine xQ.call rfl (hc1) ?_
      show xQ MX8_findFault (9, [some (.ref 45)], [.int 1], t1) _
      refine xQ.go 1 (F1 := (bif decide (1 = 0) then 40 else 12, [some (.ref 45)], [], t1)) rfl ?_
      refine xQ.brF (rfl) ?_
      obtain ⟨_, r7, rT, _⟩ := rgt_ok hok
      refine xQ.go 5 (F1 := (bif !decide ((t1.1 45 7) = (t1.1 45 6)) then 26 else 23, [some (.ref 45)], [], t1)) rfl ?_
      rw [a1, (mT_of hT kk).1, nI_dec (by omega) (by omega)]
      by_cases e : st + rgt T st = T.length
      · refine xQ.brF (by rw [decide_eq_true e]; rfl) ?_
        refine xQ.go 1 (F1 := (25, [some (.ref 45)], [.int (-5)], t1)) rfl ?_
        refine xQ.iret .int 1 rfl rfl (rfl) ?_
        exact ⟨by rw [i1, scn_end hok (by omega)], kk⟩
      · refine xQ.brT (by rw [decide_eq_false e]; rfl) ?_
        obtain ⟨r2, t2, hc2, o2, j2⟩ := m_takes (c := 59) (mT_of hT kk) a1 (by omega) (by omega) rfl
        have kk2 : xkq kR w t2 := xkq_trans kk (xkq_mono rfl j2)
        rcases o2 with ⟨o2, hr2, a2⟩ | ⟨o2, hr2, a2⟩
        · subst hr2
          refine xQ.go 2 (F1 := (29, [some (.ref 45)], [.int 59, .ref 45], t1)) rfl ?_
          refine xQ.call rfl (hc2) ?_
          show xQ MX8_findFault (32, [some (.ref 45)], [.int 1], t2) _
          refine xQ.go 1 (F1 := (bif !decide (1 = 0) then 5 else 35, [some (.ref 45)], [], t2)) rfl ?_
          refine xQ.brT (rfl) ?_
          rw [scn_next hok (by omega) o2] at i1
          exact K (t2, st + rgt T st + 1) ⟨i1, by simp only; omega, by simp only; omega, a2, kk2⟩
        · subst hr2
          refine xQ.go 2 (F1 := (29, [some (.ref 45)], [.int 59, .ref 45], t1)) rfl ?_
          refine xQ.call rfl (hc2) ?_
          show xQ MX8_findFault (32, [some (.ref 45)], [.int 0], t2) _
          refine xQ.go 1 (F1 := (bif !decide (0 = 0) then 5 else 35, [some (.ref 45)], [], t2)) rfl ?_
          refine xQ.brF (rfl) ?_
          refine xQ.go 2 (F1 := (39, [some (.ref 45)], [.int (t2.1 45 7)], t2)) rfl ?_
          rw [a2]
          refine xQ.iret .int 1 rfl rfl (rfl) ?_
          exact ⟨by rw [i1, scn_sep hok (by omega) o2], kk2⟩
    · subst hr
      refine xQ.go 1 (F1 := (6, [some (.ref 45)], [.ref 45], t)) rfl ?_
      refine xQ.call rfl (hc1) ?_
      show xQ MX8_findFault (9, [some (.ref 45)], [.int 0], t1) _
      refine xQ.go 1 (F1 := (bif decide (0 = 0) then 40 else 12, [some (.ref 45)], [], t1)) rfl ?_
      refine xQ.brT (rfl) ?_
      refine xQ.go 2 (F1 := (44, [some (.ref 45)], [.int (t1.1 45 7)], t1)) rfl ?_
      rw [a1]
      refine xQ.iret .int 1 rfl rfl (rfl) ?_
      exact ⟨by rw [i1, scn_bad hbad], kk⟩
  · intro s hI
    obtain ⟨i1, i2, i3, i4, i5⟩ := hI
    omega
theorem mI_T {w : xW} {A : xAb} (h : mI w A) : mT w A.2.2.2 := h.2.2.2.2
theorem kR_N {w w1 : xW} (h : xkq kR w w1) : xkq kN w w1 := xkq_mono rfl h
theorem M_fault {w : xW} {A : xAb} (hM : mI w A) : xD MX8_fault [.ref 45] w (mQ w (sFault A)) := by
  refine xD.of ?_
  show xQ MX8_fault (0, [some (.ref 45)], [], w) _
  obtain ⟨r1, w1, hc1, hr1, k1⟩ := m_flt (mI_T hM)
  subst hr1
  refine xQ.go 1 (F1 := (1, [some (.ref 45)], [.ref 45], w)) rfl ?_
  refine xQ.call rfl (hc1) ?_
  show xQ MX8_fault (4, [some (.ref 45)], [.int ((scn A.2.2.2 11 0).1)], w1) _
  refine xQ.iret .int 1 rfl rfl (rfl) ?_
  exact ⟨rfl, mI_N hM (kR_N k1), kN_M (kR_N k1)⟩
def edT (T : List Nat) (p : xPr) : Nat × Nat × Nat := (tch T p.1, tch T (p.2 - 3) - 48, tch T (p.2 - 1) - 48)
theorem M_run {w : xW} {A : xAb} (hM : mI w A) : xD MX8_run [.ref 45] w (mQ w (sRun A)) := by
  have h80 := (mI_T hM).2.1.1
  refine xD.of ?_
  show xQ MX8_run (0, [some (.ref 45), none, none, none, none, none], [], w) _
  obtain ⟨r1, w1, hc1, hr1, k1⟩ := m_flt (mI_T hM)
  subst hr1
  have i1 : mI w1 A := mI_N hM (kR_N k1)
  refine xQ.go 1 (F1 := (1, [some (.ref 45), none, none, none, none, none], [.ref 45], w)) rfl ?_
  refine xQ.call rfl (hc1) ?_
  show xQ MX8_run (4, [some (.ref 45), none, none, none, none, none], [.int ((scn A.2.2.2 11 0).1)], w1) _
  unfold sRun
  refine xQ.go 4 (F1 := (bif decide (((scn A.2.2.2 11 0).1) = (-5)) then 16 else 11, [some (.ref 45), some (.int ((scn A.2.2.2 11 0).1)), none, none, none, none], [], w1)) rfl ?_
  by_cases hs : (scn A.2.2.2 11 0).1 = -5
  · refine xQ.brT (decide_eq_true hs) ?_
    rw [if_pos hs]
    obtain ⟨r2, w2, hc2, hr2, i2, k2⟩ := m_record i1
    subst hr2
    refine xQ.go 1 (F1 := (17, [some (.ref 45), some (.int ((scn A.2.2.2 11 0).1)), none, none, none, none], [.ref 45], w1)) rfl ?_
    refine xQ.call rfl (hc2) ?_
    show xQ MX8_run (20, [some (.ref 45), some (.int ((scn A.2.2.2 11 0).1)), none, none, none, none], [], w2) _
    refine xQ.go 5 (F1 := (27, [some (.ref 45), some (.int ((scn A.2.2.2 11 0).1)), some (.int 0), none, none, none], [], (xuI w2 45 7 0))) rfl ?_
    have i3 : mI (xuI w2 45 7 0) (A.1, recH A.2.1 A.1, A.2.2) := mI_N i2 (xkq_I xkq_rfl rfl)
    have k3 : xkq kM w (xuI w2 45 7 0) := xkq_I (xkq_trans (kN_M (kR_N k1)) (xkq_mono rfl k2)) rfl
    have a3 : (xuI w2 45 7 0).1 45 7 = nI 0 := by simp [uI1]; rfl
    have go : ∀ (k s : Nat) (st : xSt × Nat) (t : xW), (scn A.2.2.2 k s).1 = -5 → s < 100 → t.1 45 7 = nI s → mI t (st.1, recH A.2.1 A.1, A.2.2) → xkq kM w t → xQ MX8_run (27, [some (.ref 45), some (.int (scn A.2.2.2 11 0).1), some (.int (nI st.2)), none, none, none], [], t) (mQ w (nI (((scn A.2.2.2 k s).2.map (edT A.2.2.2)).foldl runE st).2, ((((scn A.2.2.2 k s).2.map (edT A.2.2.2)).foldl runE st).1, recH A.2.1 A.1, A.2.2))) := by
      intro k
      induction k with
      | zero => intro s st t h hs; exact absurd h (nI_m5 (by omega))
      | succ k ih =>
        intro s st t h hs ha hI hk
        obtain ⟨s0, c⟩ := st
        simp only at hI
        have hT := mI_T hI
        simp only at hT
        have h8 := rgt_8 A.2.2.2 s
        by_cases hb : foL (tch A.2.2.2 s) = [] ∨ rgt A.2.2.2 s < (foL (tch A.2.2.2 s)).length
        · rw [scn_bad hb] at h
          exact absurd h (nI_m5 (by omega))
        · obtain ⟨hkd, r7, rT, a, b, ha10, hb10, hab, ea, eb⟩ := rgt_ok hb
          obtain ⟨r4, t4, hc4, k4, b4, hcase⟩ := m_edit hT ha hs
          rcases hcase with ⟨_, hr4, a4, f4, g4⟩ | ⟨h2, _⟩
          rotate_left
          · exact absurd h2 hb
          have ee : edT A.2.2.2 (s, s + rgt A.2.2.2 s) = (tch A.2.2.2 s, a, b) := by
            unfold edT
            simp only
            rw [ea, eb, Nat.add_sub_cancel_left, Nat.add_sub_cancel_left]
          rw [ea, Nat.add_sub_cancel_left] at f4
          rw [eb, Nat.add_sub_cancel_left] at g4
          subst hr4
          have i4 : mI t4 (s0, recH A.2.1 A.1, A.2.2) := mI_N hI (kR_N k4)
          have kk4 : xkq kM w t4 := xkq_trans hk (kN_M (kR_N k4))
          have hh : ∃ l, (scn A.2.2.2 (k + 1) s).2 = (s, s + rgt A.2.2.2 s) :: l ∧ ((s + rgt A.2.2.2 s = A.2.2.2.length ∧ l = []) ∨ (s + rgt A.2.2.2 s < A.2.2.2.length ∧ (scn A.2.2.2 k (s + rgt A.2.2.2 s + 1)).1 = -5 ∧ l = (scn A.2.2.2 k (s + rgt A.2.2.2 s + 1)).2)) := by
            by_cases e1 : A.2.2.2.length ≤ s + rgt A.2.2.2 s
            · rw [scn_end hb e1]
              exact ⟨[], rfl, Or.inl ⟨by omega, rfl⟩⟩
            · by_cases e2 : tch A.2.2.2 (s + rgt A.2.2.2 s) = 59
              · rw [scn_next hb e1 e2] at h ⊢
                exact ⟨_, rfl, Or.inr ⟨by omega, h, rfl⟩⟩
              · rw [scn_sep hb e1 e2] at h
                exact absurd h (nI_m5 (by omega))
          obtain ⟨l, hl, hcs⟩ := hh
          rw [hl, List.map_cons, List.foldl_cons, ee]
          have fin : ∀ (t2 : xW) (st2 : xSt × Nat) (o3 o4 o5 : Option Value), runE (s0, c) (tch A.2.2.2 s, a, b) = st2 → t2.1 45 7 = nI (s + rgt A.2.2.2 s) → mI t2 (st2.1, recH A.2.1 A.1, A.2.2) → xkq kM w t2 → xQ MX8_run (116, [some (.ref 45), some (.int (scn A.2.2.2 11 0).1), some (.int (nI st2.2)), o3, o4, o5], [], t2) (mQ w (nI ((l.map (edT A.2.2.2)).foldl runE (runE (s0, c) (tch A.2.2.2 s, a, b))).2, (((l.map (edT A.2.2.2)).foldl runE (runE (s0, c) (tch A.2.2.2 s, a, b))).1, recH A.2.1 A.1, A.2.2))) := by
            intro t2 st2 o3 o4 o5 hrun h7 hI2 hk2
            rw [hrun]
            refine xQ.less [some (.ref 45), some (.int (scn A.2.2.2 11 0).1), some (.int (nI st2.2)), none, none, none] (by simp [xleb]) ?_
            refine xQ.go 5 (F1 := (123, [some (.ref 45), some (.int ((scn A.2.2.2 11 0).1)), some (.int (nI st2.2)), none, none, none], [.int ((t2.1 45 7) + 1), .ref 45], t2)) rfl ?_
            rw [h7, ← nI_succ]
            refine xQ.go 2 (F1 := (27, [some (.ref 45), some (.int ((scn A.2.2.2 11 0).1)), some (.int (nI st2.2)), none, none, none], [], (xuI t2 45 7 (nI (s + rgt A.2.2.2 s + 1))))) rfl ?_
            have h7' : (xuI t2 45 7 (nI (s + rgt A.2.2.2 s + 1))).1 45 7 = nI (s + rgt A.2.2.2 s + 1) := by simp [uI1]
            have hI2' : mI (xuI t2 45 7 (nI (s + rgt A.2.2.2 s + 1))) (st2.1, recH A.2.1 A.1, A.2.2) := mI_N hI2 (xkq_I xkq_rfl rfl)
            have hk2' : xkq kM w (xuI t2 45 7 (nI (s + rgt A.2.2.2 s + 1))) := xkq_I hk2 rfl
            rcases hcs with ⟨e1, e2⟩ | ⟨e1, e2, e3⟩
            · rw [e2]
              generalize xuI t2 45 7 (nI (s + rgt A.2.2.2 s + 1)) = t3 at *
              refine xQ.go 5 (F1 := (bif decide ((t3.1 45 6) ≤ (t3.1 45 7)) then 129 else 38, [some (.ref 45), some (.int ((scn A.2.2.2 11 0).1)), some (.int (nI st2.2)), none, none, none], [], t3)) rfl ?_
              refine xQ.brT (by rw [h7', (mI_T hI2').1]; exact decide_eq_true ((nI_leI (by simp only; omega) (by omega)).mpr (by simp only; omega))) ?_
              refine xQ.go 1 (F1 := (130, [some (.ref 45), some (.int ((scn A.2.2.2 11 0).1)), some (.int (nI st2.2)), none, none, none], [.int (nI st2.2)], t3)) rfl ?_
              refine xQ.iret .int 1 rfl rfl (rfl) ?_
              exact ⟨rfl, hI2', hk2'⟩
            · rw [e3]
              exact ih _ st2 _ e2 (by omega) h7' hI2' hk2'
          refine xQ.go 5 (F1 := (bif decide ((t.1 45 6) ≤ (t.1 45 7)) then 129 else 38, [some (.ref 45), some (.int ((scn A.2.2.2 11 0).1)), some (.int (nI c)), none, none, none], [], t)) rfl ?_
          refine xQ.brF (by rw [ha, hT.1]; exact decide_eq_false (nI_ge (show s < A.2.2.2.length by omega) (by omega))) ?_
          refine xQ.go 1 (F1 := (39, [some (.ref 45), some (.int ((scn A.2.2.2 11 0).1)), some (.int (nI c)), none, none, none], [.ref 45], t)) rfl ?_
          refine xQ.call rfl (hc4) ?_
          show xQ MX8_run (42, [some (.ref 45), some (.int ((scn A.2.2.2 11 0).1)), some (.int (nI c)), none, none, none], [.int 1], t4) _
          refine xQ.go 6 (F1 := (52, [some (.ref 45), some (.int ((scn A.2.2.2 11 0).1)), some (.int (nI c)), some (.int 1), none, none], [.int (t4.1 45 10), .int (t4.1 45 9), .ref 45], t4)) rfl ?_
          rw [f4, g4]
          refine xQ.call rfl (m_isEdge i4) ?_
          show xQ MX8_run (55, [some (.ref 45), some (.int ((scn A.2.2.2 11 0).1)), some (.int (nI c)), some (.int 1), none, none], [.int (if jn s0.1 (nI a) (nI b) = true then 1 else 0)], t4) _
          rw [jn_nI ha10 hb10]
          refine xQ.go 3 (F1 := (bif decide (1 = 0) then 93 else 61, [some (.ref 45), some (.int ((scn A.2.2.2 11 0).1)), some (.int (nI c)), some (.int 1), some (.int (if gr s0.1 a b = true then 1 else 0)), none], [], t4)) rfl ?_
          refine xQ.brF (rfl) ?_
          have no : ∀ (o3 o4 : Option Value), ((tch A.2.2.2 s = 97 ∧ gr s0.1 a b = true) ∨ (tch A.2.2.2 s = 100 ∧ gr s0.1 a b = false)) → xQ MX8_run (93, [some (.ref 45), some (.int (scn A.2.2.2 11 0).1), some (.int (nI c)), o3, o4, none], [], t4) (mQ w (nI ((l.map (edT A.2.2.2)).foldl runE (runE (s0, c) (tch A.2.2.2 s, a, b))).2, (((l.map (edT A.2.2.2)).foldl runE (runE (s0, c) (tch A.2.2.2 s, a, b))).1, recH A.2.1 A.1, A.2.2))) := by
            intro o3 o4 hno
            refine xQ.less [some (.ref 45), some (.int (scn A.2.2.2 11 0).1), some (.int (nI c)), none, none, none] (by simp [xleb]) ?_
            refine xQ.go 2 (F1 := (96, [some (.ref 45), some (.int ((scn A.2.2.2 11 0).1)), some (.int (nI c)), none, none, some (.int 0)], [], t4)) rfl ?_
            refine xQ.go 2 (F1 := (bif decide (0 = 0) then 116 else 101, [some (.ref 45), some (.int ((scn A.2.2.2 11 0).1)), some (.int (nI c)), none, none, some (.int 0)], [], t4)) rfl ?_
            refine xQ.brT (rfl) ?_
            exact fin t4 (s0, c) _ _ _ (runE_skip hno) a4 i4 kk4
          have yes : ∀ (o3 o4 : Option Value), ¬ ((tch A.2.2.2 s = 97 ∧ gr s0.1 a b = true) ∨ (tch A.2.2.2 s = 100 ∧ gr s0.1 a b = false)) → xQ MX8_run (89, [some (.ref 45), some (.int (scn A.2.2.2 11 0).1), some (.int (nI c)), o3, o4, none], [], t4) (mQ w (nI ((l.map (edT A.2.2.2)).foldl runE (runE (s0, c) (tch A.2.2.2 s, a, b))).2, (((l.map (edT A.2.2.2)).foldl runE (runE (s0, c) (tch A.2.2.2 s, a, b))).1, recH A.2.1 A.1, A.2.2))) := by
            intro o3 o4 hno
            refine xQ.less [some (.ref 45), some (.int (scn A.2.2.2 11 0).1), some (.int (nI c)), none, none, none] (by simp [xleb]) ?_
            refine xQ.go 3 (F1 := (96, [some (.ref 45), some (.int ((scn A.2.2.2 11 0).1)), some (.int (nI c)), none, none, some (.int 1)], [], t4)) rfl ?_
            refine xQ.go 2 (F1 := (bif decide (1 = 0) then 116 else 101, [some (.ref 45), some (.int ((scn A.2.2.2 11 0).1)), some (.int (nI c)), none, none, some (.int 1)], [], t4)) rfl ?_
            refine xQ.brF (rfl) ?_
            refine xQ.go 5 (F1 := (110, [some (.ref 45), some (.int ((scn A.2.2.2 11 0).1)), some (.int (nI c)), none, none, some (.int 1)], [.int (t4.1 45 10), .int (t4.1 45 9), .ref 45], t4)) rfl ?_
            rw [f4, g4]
            obtain ⟨r5, t5, hc5, hr5, i5, k5⟩ := m_flip (a := a) (b := b) i4 ha10 hb10 hab
            subst hr5
            refine xQ.call rfl (hc5) ?_
            show xQ MX8_run (113, [some (.ref 45), some (.int ((scn A.2.2.2 11 0).1)), some (.int (nI c)), none, none, some (.int 1)], [], t5) _
            refine xQ.go 1 (F1 := (116, [some (.ref 45), some (.int ((scn A.2.2.2 11 0).1)), some (.int ((nI c) + 1)), none, none, some (.int 1)], [], t5)) rfl ?_
            rw [← nI_succ]
            exact fin t5 (flipS s0 a b, c + 1) _ _ _ (runE_do hno) ((xkq_at k5 45 7).trans a4) i5 (xkq_trans kk4 (xkq_mono rfl k5))
          rcases hkd with e | e | e
          · rw [e] at b4
            refine xQ.go 4 (F1 := (bif decide ((t4.1 45 8) = 102) then 89 else 70, [some (.ref 45), some (.int ((scn A.2.2.2 11 0).1)), some (.int (nI c)), some (.int 1), some (.int (if gr s0.1 a b = true then 1 else 0)), none], [], t4)) rfl ?_
            refine xQ.brF (by rw [b4]; rfl) ?_
            refine xQ.go 4 (F1 := (bif !decide ((t4.1 45 8) = 100) then 83 else 79, [some (.ref 45), some (.int ((scn A.2.2.2 11 0).1)), some (.int (nI c)), some (.int 1), some (.int (if gr s0.1 a b = true then 1 else 0)), none], [], t4)) rfl ?_
            refine xQ.brT (by rw [b4]; rfl) ?_
            refine xQ.go 3 (F1 := (bif !decide (0 = (if gr s0.1 a b = true then 1 else 0)) then 93 else 89, [some (.ref 45), some (.int ((scn A.2.2.2 11 0).1)), some (.int (nI c)), some (.int 1), some (.int (if gr s0.1 a b = true then 1 else 0)), none], [], t4)) rfl ?_
            cases hg : gr s0.1 a b with
            | true =>
              refine xQ.brT rfl ?_
              exact no _ _ (Or.inl ⟨e, hg⟩)
            | false =>
              refine xQ.brF rfl ?_
              exact yes _ _ (by rw [e, hg]; decide)
          · rw [e] at b4
            refine xQ.go 4 (F1 := (bif decide ((t4.1 45 8) = 102) then 89 else 70, [some (.ref 45), some (.int ((scn A.2.2.2 11 0).1)), some (.int (nI c)), some (.int 1), some (.int (if gr s0.1 a b = true then 1 else 0)), none], [], t4)) rfl ?_
            refine xQ.brF (by rw [b4]; rfl) ?_
            refine xQ.go 4 (F1 := (bif !decide ((t4.1 45 8) = 100) then 83 else 79, [some (.ref 45), some (.int ((scn A.2.2.2 11 0).1)), some (.int (nI c)), some (.int 1), some (.int (if gr s0.1 a b = true then 1 else 0)), none], [], t4)) rfl ?_
            refine xQ.brF (by rw [b4]; rfl) ?_
            refine xQ.go 4 (F1 := (bif !decide (1 = (if gr s0.1 a b = true then 1 else 0)) then 93 else 89, [some (.ref 45), some (.int ((scn A.2.2.2 11 0).1)), some (.int (nI c)), some (.int 1), some (.int (if gr s0.1 a b = true then 1 else 0)), none], [], t4)) rfl ?_
            cases hg : gr s0.1 a b with
            | true =>
              refine xQ.brF rfl ?_
              exact yes _ _ (by rw [e, hg]; decide)
            | false =>
              refine xQ.brT rfl ?_
              exact no _ _ (Or.inr ⟨e, hg⟩)
          · rw [e] at b4
            refine xQ.go 4 (F1 := (bif decide ((t4.1 45 8) = 102) then 89 else 70, [some (.ref 45), some (.int ((scn A.2.2.2 11 0).1)), some (.int (nI c)), some (.int 1), some (.int (if gr s0.1 a b = true then 1 else 0)), none], [], t4)) rfl ?_
            refine xQ.brT (by rw [b4]; rfl) ?_
            exact yes _ _ (by rw [e]; simp)
    exact go 11 0 (A.1, 0) _ hs (by decide) a3 i3 k3
  · refine xQ.brF (decide_eq_false hs) ?_
    rw [if_neg hs]
    refine xQ.go 3 (F1 := (15, [some (.ref 45), some (.int ((scn A.2.2.2 11 0).1)), none, none, none, none], [.int ((-100) - ((scn A.2.2.2 11 0).1))], w1)) rfl ?_
    refine xQ.iret .int 1 rfl rfl (rfl) ?_
    exact ⟨rfl, i1, kN_M (kR_N k1)⟩
