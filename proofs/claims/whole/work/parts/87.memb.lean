/-! the reference: embed -/
theorem EOK_fS {H : Nat → Nat → Bool} {S : Nat → Bool} (hS : ∀ v, S v = true → v < 10) {s : xSg} (h : EOK H S s) : fS s.2.2.1 := by
  obtain ⟨i1, i2, i3, i4, i5, i6, i7, i8, i9⟩ := h.1
  refine ⟨(EOK_max h).1, fun f hf => ?_⟩
  obtain ⟨f1, f2, f3⟩ := i4 f hf
  have h10 : ∀ v ∈ f, v < 10 := fun v hv => hS v (i3 v (f3 v hv))
  refine ⟨?_, h10⟩
  rw [← cnt_list f1 h10]
  exact cnt_le _ _
theorem frs_45 {H : Nat → Nat → Bool} {S : Nat → Bool} {P : Nat → Nat → Bool} {PV : Nat → Bool} : (frs H S P PV 100).length ≤ 45 := Nat.le_trans (frs_len 100) (by decide +kernel)
abbrev kE : xCS := [(45, some 19), (45, some 20), (45, some 21), (45, some 24), (45, some 27), (45, some 29), (52, none), (53, none), (54, none), (55, none), (56, none), (57, none), (58, none), (59, none), (60, none), (61, none), (62, none), (63, none), (64, none)]
abbrev kF : xCS := [(45, some 19), (45, some 20), (45, some 21), (45, some 24), (45, some 27), (45, some 29), (55, none), (56, none), (57, none), (58, none), (59, none), (60, none), (61, none), (62, none), (63, none)]
theorem fM_two {w : xW} {a b : List Nat} (h : w.1 45 21 = nI 2) (h0 : fc1 w 0 a) (h1 : fc1 w 1 b) : fM w [a, b] := ⟨h, fun i c hi => by
  match i, hi with
  | 0, hi => cases hi; exact h0
  | 1, hi => cases hi; exact h1
  | n + 2, hi => cases hi⟩
theorem m_embed {w : xW} {G : Nat → Nat → Bool} {j : Nat} {p : xPr} (hg : gok G) (hG : gM w G) (hF : fB w G) (hj : (blks G 100)[j]? = some p) : xD MX8_embed [.ref 45, .int (nI j)] w (fun r w1 => r = none ∧ (w1.1 52 j = (if bPl G p = bE G p then 1 else 0) ∧ w1.1 53 j = nI (bPl G p) ∧ w1.1 54 j = nI (bFa G p)) ∧ (bPl G p = bE G p → ∀ v x y, bSc G p v x y → w1.1 64 (10 * v + x) = nI y) ∧ (∀ v x, v < 10 → x < 10 → bH G (bS G p) v x = false → w1.1 64 (10 * v + x) = w.1 64 (10 * v + x)) ∧ (∀ i, i ≠ j → w1.1 52 i = w.1 52 i ∧ w1.1 53 i = w.1 53 i ∧ w1.1 54 i = w.1 54 i) ∧ xkq kE w w1) := by
  obtain ⟨_, hj9, hp⟩ := blk_at hg hj
  have hb := bS_bic hg hp
  have hpe := bE_pos hg hp
  have h10 := hg.2.2 _ _ hp
  have hlt12 : p.1 < p.2 := ((blks_ok hg 100 (Nat.le_refl _)).1 p (List.mem_of_getElem? hj)).2
  obtain ⟨hple, h45⟩ := bPl_le hg hp
  have hSv : ∀ v, bS G p v = true → v < 10 := fun v hv => (bS_iff.mp hv).1
  have hScE := fun v x y (hf : bPl G p = bE G p) (h : bSc G p v x y) => bSc_edge hg hp hf h
  -- what is done at the end
  have tail : ∀ (s : xW) (a b : Option Value), s.1 45 20 = nI (bPl G p) → s.1 45 21 = nI (bFa G p) → (bPl G p = bE G p → ∀ v x y, bSc G p v x y → s.1 64 (10 * v + x) = nI y) → (∀ v x, v < 10 → x < 10 → bH G (bS G p) v x = false → s.1 64 (10 * v + x) = w.1 64 (10 * v + x)) → xkq ((64, none) :: kF) w s → xQ MX8_embed (223, [some (.ref 45), some (.int (nI j)), some (.int (mk (bS G p))), some (.int (nI (bE G p))), a, b], [], s) (fun r w1 => r = none ∧ (w1.1 52 j = (if bPl G p = bE G p then 1 else 0) ∧ w1.1 53 j = nI (bPl G p) ∧ w1.1 54 j = nI (bFa G p)) ∧ (bPl G p = bE G p → ∀ v x y, bSc G p v x y → w1.1 64 (10 * v + x) = nI y) ∧ (∀ v x, v < 10 → x < 10 → bH G (bS G p) v x = false → w1.1 64 (10 * v + x) = w.1 64 (10 * v + x)) ∧ (∀ i, i ≠ j → w1.1 52 i = w.1 52 i ∧ w1.1 53 i = w.1 53 i ∧ w1.1 54 i = w.1 54 i) ∧ xkq kE w w1) := by
    intro s a b t1 t2 t3 t4 t5
    refine xQ.less [some (.ref 45), some (.int (nI j)), some (.int (mk (bS G p))), some (.int (nI (bE G p))), none, none] (by simp [xleb]) ?_
    have com : ∀ y : Int32, y = (if bPl G p = bE G p then 1 else 0) → xQ MX8_embed (241, [some (.ref 45), some (.int (nI j)), some (.int (mk (bS G p))), some (.int (nI (bE G p))), none, none], [.int y, .int (nI j), .ref 52], s) (fun r w1 => r = none ∧ (w1.1 52 j = (if bPl G p = bE G p then 1 else 0) ∧ w1.1 53 j = nI (bPl G p) ∧ w1.1 54 j = nI (bFa G p)) ∧ (bPl G p = bE G p → ∀ v x y, bSc G p v x y → w1.1 64 (10 * v + x) = nI y) ∧ (∀ v x, v < 10 → x < 10 → bH G (bS G p) v x = false → w1.1 64 (10 * v + x) = w.1 64 (10 * v + x)) ∧ (∀ i, i ≠ j → w1.1 52 i = w.1 52 i ∧ w1.1 53 i = w.1 53 i ∧ w1.1 54 i = w.1 54 i) ∧ xkq kE w w1) := by
      intro y hy
      refine xQ.iast rfl (k := j) (rfl) (⟨by omega, by omega⟩) rfl ?_
      show xQ MX8_embed (242, [some (.ref 45), some (.int (nI j)), some (.int (mk (bS G p))), some (.int (nI (bE G p))), none, none], [], (xuI s 52 j y)) _
      refine xQ.go 5 (F1 := (251, [some (.ref 45), some (.int (nI j)), some (.int (mk (bS G p))), some (.int (nI (bE G p))), none, none], [.int (s.1 45 20), .int (nI j), .ref 53], (xuI s 52 j y))) rfl ?_
      refine xQ.iast rfl (k := j) (rfl) (⟨by omega, by omega⟩) rfl ?_
      show xQ MX8_embed (252, [some (.ref 45), some (.int (nI j)), some (.int (mk (bS G p))), some (.int (nI (bE G p))), none, none], [], (xuI (xuI s 52 j y) 53 j (s.1 45 20))) _
      refine xQ.go 5 (F1 := (261, [some (.ref 45), some (.int (nI j)), some (.int (mk (bS G p))), some (.int (nI (bE G p))), none, none], [.int (s.1 45 21), .int (nI j), .ref 54], (xuI (xuI s 52 j y) 53 j (s.1 45 20)))) rfl ?_
      refine xQ.iast rfl (k := j) (rfl) (⟨by omega, by omega⟩) rfl ?_
      show xQ MX8_embed (262, [some (.ref 45), some (.int (nI j)), some (.int (mk (bS G p))), some (.int (nI (bE G p))), none, none], [], (xuI (xuI (xuI s 52 j y) 53 j (s.1 45 20)) 54 j (s.1 45 21))) _
      refine xQ.vret 1 rfl rfl ?_
      refine ⟨rfl, ⟨?_, ?_, ?_⟩, fun hfl v x y2 h => ?_, fun v x hv hx h => ?_, fun i hi => ⟨?_, ?_, ?_⟩, xkq_I (xkq_I (xkq_I (xkq_mono rfl t5) rfl) rfl) rfl⟩
      · simp [uI1, hy]
      · simp [uI1, t1]
      · simp [uI1, t2]
      · have := t3 hfl v x y2 h
        simpa [uI1] using this
      · have := t4 v x hv hx h
        simpa [uI1] using this
      · simp [uI1, hi, xkq_at t5 52 i]
      · simp [uI1, hi, xkq_at t5 53 i]
      · simp [uI1, hi, xkq_at t5 54 i]
    refine xQ.go 7 (F1 := (bif !decide ((s.1 45 20) = (nI (bE G p))) then 240 else 236, [some (.ref 45), some (.int (nI j)), some (.int (mk (bS G p))), some (.int (nI (bE G p))), none, none], [.int (nI j), .ref 52], s)) rfl ?_
    rw [t1, nI_dec (by omega) (by omega)]
    by_cases e : bPl G p = bE G p
    · refine xQ.brF (by rw [decide_eq_true e]; rfl) ?_
      refine xQ.go 2 (F1 := (241, [some (.ref 45), some (.int (nI j)), some (.int (mk (bS G p))), some (.int (nI (bE G p))), none, none], [.int 1, .int (nI j), .ref 52], s)) rfl ?_
      exact com 1 (by rw [if_pos e])
    · refine xQ.brT (by rw [decide_eq_false e]; rfl) ?_
      refine xQ.go 1 (F1 := (241, [some (.ref 45), some (.int (nI j)), some (.int (mk (bS G p))), some (.int (nI (bE G p))), none, none], [.int 0, .int (nI j), .ref 52], s)) rfl ?_
      exact com 0 (by rw [if_neg e])
  refine xD.of ?_
  show xQ MX8_embed (0, [some (.ref 45), some (.int (nI j)), none, none, none, none], [], w) _
  refine xQ.go 6 (F1 := (7, [some (.ref 45), some (.int (nI j)), some (.int 0), some (.int 0), some (.int 0), none], [], w)) rfl ?_
  refine xQ.loop (S := xW) (fun k s => (7, [some (.ref 45), some (.int (nI j)), some (.int (mk (fun z => decide (z < k) && bS G p z))), some (.int (nI (sm (fun v => cnt (bH G (bS G p) v) 10) k))), some (.int (nI k)), none], [], s)) (fun k s => (∀ v, v < k → s.1 55 v = mk (bH G (bS G p) v) ∧ s.1 56 v = 0) ∧ xkq [(55, none), (56, none)] w s) 10 w (by rw [show mk (fun z => decide (z < 0) && bS G p z) = 0 by rw [mk_0]; exact mk_ext fun z _ => by simp]; rfl) (⟨(fun v hv => absurd hv (by omega)), xkq_rfl⟩) ?_ ?_
  · intro k s hk hI K
    obtain ⟨i1, i2⟩ := hI
    have hGs : gM s G := fun u hu => (xkq_at i2 50 u).trans (hG u hu)
    have hFs : fB s G := ⟨(xkq_at i2 45 13).trans hF.1, fun e he => (xkq_at i2 51 e).trans (hF.2 e he)⟩
    refine xQ.go 3 (F1 := (bif decide (10 ≤ (nI k)) then 76 else 14, [some (.ref 45), some (.int (nI j)), some (.int (mk (fun z => decide (z < k) && bS G p z))), some (.int (nI (sm (fun v => cnt (bH G (bS G p) v) 10) k))), some (.int (nI k)), none], [], s)) rfl ?_
    refine xQ.brF (decide_eq_false (nI_ge (b := 10) (by omega) (by omega))) ?_
    refine xQ.go 6 (F1 := (24, [some (.ref 45), some (.int (nI j)), some (.int (mk (fun z => decide (z < k) && bS G p z))), some (.int (nI (sm (fun v => cnt (bH G (bS G p) v) 10) k))), some (.int (nI k)), none], [.int (nI j), .int (nI k), .ref 45, .int (nI k), .ref 55], s)) rfl ?_
    refine xQ.call rfl (m_nbIn hg hGs hFs hj hk) ?_
    show xQ MX8_embed (27, [some (.ref 45), some (.int (nI j)), some (.int (mk (fun z => decide (z < k) && bS G p z))), some (.int (nI (sm (fun v => cnt (bH G (bS G p) v) 10) k))), some (.int (nI k)), none], [.int (mk (bH G (bS G p) k)), .int (nI k), .ref 55], s) _
    refine xQ.iast rfl (k := k) (rfl) (⟨by omega, by omega⟩) rfl ?_
    show xQ MX8_embed (28, [some (.ref 45), some (.int (nI j)), some (.int (mk (fun z => decide (z < k) && bS G p z))), some (.int (nI (sm (fun v => cnt (bH G (bS G p) v) 10) k))), some (.int (nI k)), none], [], (xuI s 55 k (mk (bH G (bS G p) k)))) _
    refine xQ.go 4 (F1 := (35, [some (.ref 45), some (.int (nI j)), some (.int (mk (fun z => decide (z < k) && bS G p z))), some (.int (nI (sm (fun v => cnt (bH G (bS G p) v) 10) k))), some (.int (nI k)), none], [.int 0, .int (nI k), .ref 56], (xuI s 55 k (mk (bH G (bS G p) k))))) rfl ?_
    refine xQ.iast rfl (k := k) (rfl) (⟨by omega, by omega⟩) rfl ?_
    show xQ MX8_embed (36, [some (.ref 45), some (.int (nI j)), some (.int (mk (fun z => decide (z < k) && bS G p z))), some (.int (nI (sm (fun v => cnt (bH G (bS G p) v) 10) k))), some (.int (nI k)), none], [], (xuI (xuI s 55 k (mk (bH G (bS G p) k))) 56 k 0)) _
    obtain ⟨s2, es2⟩ : ∃ s2, s2 = (xuI (xuI s 55 k (mk (bH G (bS G p) k))) 56 k 0) := ⟨_, rfl⟩
    have c55 : s2.1 55 k = mk (bH G (bS G p) k) := by rw [es2]; simp [uI1]
    have hs2 : (∀ v, v < k + 1 → s2.1 55 v = mk (bH G (bS G p) v) ∧ s2.1 56 v = 0) ∧ xkq [(55, none), (56, none)] w s2 := by
      refine ⟨fun v hv => ?_, by rw [es2]; exact xkq_I (xkq_I i2 rfl) rfl⟩
      rw [es2]
      by_cases e : v = k
      · rw [e]; simp [uI1]
      · have := i1 v (by omega)
        simpa [uI1, e] using this
    rw [← es2]
    refine xQ.go 4 (F1 := (43, [some (.ref 45), some (.int (nI j)), some (.int (mk (fun z => decide (z < k) && bS G p z))), some (.int (nI (sm (fun v => cnt (bH G (bS G p) v) 10) k))), some (.int (nI k)), none], [.int (nI k), .ref 55, .int (mk (fun z => decide (z < k) && bS G p z))], s2)) rfl ?_
    refine xQ.iald rfl (k := k) (rfl) (⟨by omega, by omega⟩) rfl ?_
    show xQ MX8_embed (44, [some (.ref 45), some (.int (nI j)), some (.int (mk (fun z => decide (z < k) && bS G p z))), some (.int (nI (sm (fun v => cnt (bH G (bS G p) v) 10) k))), some (.int (nI k)), none], [.int (s2.1 55 k), .int (mk (fun z => decide (z < k) && bS G p z))], s2) _
    rw [c55]
    have K := K s2 hs2
    rw [show sm (fun v => cnt (bH G (bS G p) v) 10) (k + 1) = sm (fun v => cnt (bH G (bS G p) v) 10) k + cnt (bH G (bS G p) k) 10 from rfl] at K
    have com : ∀ X : Int32, mk (fun z => decide (z < k) && bS G p z) ||| X = mk (fun z => decide (z < k + 1) && bS G p z) → xQ MX8_embed (55, [some (.ref 45), some (.int (nI j)), some (.int (mk (fun z => decide (z < k) && bS G p z))), some (.int (nI (sm (fun v => cnt (bH G (bS G p) v) 10) k))), some (.int (nI k)), none], [.int X, .int (mk (fun z => decide (z < k) && bS G p z))], s2) (fun r w1 => r = none ∧ (w1.1 52 j = (if bPl G p = bE G p then 1 else 0) ∧ w1.1 53 j = nI (bPl G p) ∧ w1.1 54 j = nI (bFa G p)) ∧ (bPl G p = bE G p → ∀ v x y, bSc G p v x y → w1.1 64 (10 * v + x) = nI y) ∧ (∀ v x, v < 10 → x < 10 → bH G (bS G p) v x = false → w1.1 64 (10 * v + x) = w.1 64 (10 * v + x)) ∧ (∀ i, i ≠ j → w1.1 52 i = w.1 52 i ∧ w1.1 53 i = w.1 53 i ∧ w1.1 54 i = w.1 54 i) ∧ xkq kE w w1) := by
      intro X hX
      refine xQ.go 1 (F1 := (56, [some (.ref 45), some (.int (nI j)), some (.int (mk (fun z => decide (z < k) && bS G p z))), some (.int (nI (sm (fun v => cnt (bH G (bS G p) v) 10) k))), some (.int (nI k)), none], [.int ((mk (fun z => decide (z < k) && bS G p z)) ||| X)], s2)) rfl ?_
      rw [hX]
      refine xQ.go 5 (F1 := (64, [some (.ref 45), some (.int (nI j)), some (.int (mk (fun z => decide (z < k + 1) && bS G p z))), some (.int (nI (sm (fun v => cnt (bH G (bS G p) v) 10) k))), some (.int (nI k)), none], [.int (nI k), .ref 55, .int (nI (sm (fun v => cnt (bH G (bS G p) v) 10) k))], s2)) rfl ?_
      refine xQ.iald rfl (k := k) (rfl) (⟨by omega, by omega⟩) rfl ?_
      show xQ MX8_embed (65, [some (.ref 45), some (.int (nI j)), some (.int (mk (fun z => decide (z < k + 1) && bS G p z))), some (.int (nI (sm (fun v => cnt (bH G (bS G p) v) 10) k))), some (.int (nI k)), none], [.int (s2.1 55 k), .int (nI (sm (fun v => cnt (bH G (bS G p) v) 10) k))], s2) _
      rw [c55]
      refine xQ.call rfl (m_ones) ?_
      show xQ MX8_embed (68, [some (.ref 45), some (.int (nI j)), some (.int (mk (fun z => decide (z < k + 1) && bS G p z))), some (.int (nI (sm (fun v => cnt (bH G (bS G p) v) 10) k))), some (.int (nI k)), none], [.int (nI (cnt (bH G (bS G p) k) 10)), .int (nI (sm (fun v => cnt (bH G (bS G p) v) 10) k))], s2) _
      refine xQ.go 1 (F1 := (69, [some (.ref 45), some (.int (nI j)), some (.int (mk (fun z => decide (z < k + 1) && bS G p z))), some (.int (nI (sm (fun v => cnt (bH G (bS G p) v) 10) k))), some (.int (nI k)), none], [.int ((nI (sm (fun v => cnt (bH G (bS G p) v) 10) k)) + (nI (cnt (bH G (bS G p) k) 10)))], s2)) rfl ?_
      rw [jI_add]
      refine xQ.go 3 (F1 := (7, [some (.ref 45), some (.int (nI j)), some (.int (mk (fun z => decide (z < k + 1) && bS G p z))), some (.int (nI (sm (fun v => cnt (bH G (bS G p) v) 10) k + cnt (bH G (bS G p) k) 10))), some (.int ((nI k) + 1)), none], [], s2)) rfl ?_
      rw [← nI_succ]
      exact K
    refine xQ.go 1 (F1 := (bif decide ((mk (bH G (bS G p) k)) = 0) then 54 else 47, [some (.ref 45), some (.int (nI j)), some (.int (mk (fun z => decide (z < k) && bS G p z))), some (.int (nI (sm (fun v => cnt (bH G (bS G p) v) 10) k))), some (.int (nI k)), none], [.int (mk (fun z => decide (z < k) && bS G p z))], s2)) rfl ?_
    rw [bH_nz hg hp]
    cases hh : bS G p k with
    | true =>
      refine xQ.brF rfl ?_
      refine xQ.go 3 (F1 := (51, [some (.ref 45), some (.int (nI j)), some (.int (mk (fun z => decide (z < k) && bS G p z))), some (.int (nI (sm (fun v => cnt (bH G (bS G p) v) 10) k))), some (.int (nI k)), none], [.int (1 <<< ((nI k) &&& 31)), .int (mk (fun z => decide (z < k) && bS G p z))], s2)) rfl ?_
      rw [mk_bit hk]
      refine xQ.go 1 (F1 := (55, [some (.ref 45), some (.int (nI j)), some (.int (mk (fun z => decide (z < k) && bS G p z))), some (.int (nI (sm (fun v => cnt (bH G (bS G p) v) 10) k))), some (.int (nI k)), none], [.int (mk (fun u => decide (u = k))), .int (mk (fun z => decide (z < k) && bS G p z))], s2)) rfl ?_
      refine com _ ?_
      rw [mk_or]
      refine mk_ext fun z _ => ?_
      by_cases e2 : z = k
      · rw [e2, hh]; simp
      · rw [show decide (z < k) = decide (z < k + 1) from decide_eq_decide.mpr (by omega), decide_eq_false e2, Bool.or_false]
    | false =>
      refine xQ.brT rfl ?_
      refine xQ.go 1 (F1 := (55, [some (.ref 45), some (.int (nI j)), some (.int (mk (fun z => decide (z < k) && bS G p z))), some (.int (nI (sm (fun v => cnt (bH G (bS G p) v) 10) k))), some (.int (nI k)), none], [.int 0, .int (mk (fun z => decide (z < k) && bS G p z))], s2)) rfl ?_
      refine com 0 ?_
      rw [Int32.or_zero]
      refine mk_ext fun z _ => ?_
      by_cases e2 : z = k
      · rw [e2, hh]; simp
      · rw [show decide (z < k) = decide (z < k + 1) from decide_eq_decide.mpr (by omega)]
  · intro s hI
    obtain ⟨i1, i2⟩ := hI
    rw [show mk (fun z => decide (z < 10) && bS G p z) = mk (bS G p) from mk_ext fun z hz => by rw [decide_eq_true hz, Bool.true_and], sm_even hb.1 hb.2.1 10, show sm (fun x => cnt (bH G (bS G p) x) x) 10 = bE G p from rfl]
    refine xQ.go 3 (F1 := (bif decide (10 ≤ (nI 10)) then 76 else 14, [some (.ref 45), some (.int (nI j)), some (.int (mk (bS G p))), some (.int (nI (2 * bE G p))), some (.int (nI 10)), none], [], s)) rfl ?_
    refine xQ.brT (rfl) ?_
    refine xQ.go 3 (F1 := (79, [some (.ref 45), some (.int (nI j)), some (.int (mk (bS G p))), some (.int (nI (2 * bE G p))), some (.int (nI 10)), none], [.int ((nI (2 * bE G p)) / 2)], s)) rfl ?_
    rw [i_half (by omega)]
    refine xQ.go 7 (F1 := (90, [some (.ref 45), some (.int (nI j)), some (.int (mk (bS G p))), some (.int (nI (bE G p))), some (.int (nI 10)), none], [], (xuI (xuI s 45 19 0) 45 20 0))) rfl ?_
    obtain ⟨s2, es2⟩ : ∃ s2, s2 = (xuI (xuI s 45 19 0) 45 20 0) := ⟨_, rfl⟩
    have k2 : xkq [(45, some 19), (45, some 20), (55, none), (56, none)] w s2 := by rw [es2]; exact xkq_I (xkq_I (xkq_mono rfl i2) rfl) rfl
    have hH2 : iB s2 (bH G (bS G p)) := fun v hv => by rw [es2, uI1, if_neg (by omega), uI1, if_neg (by omega)]; exact (i1 v hv).1
    have hP2 : pM s2 (fun _ _ => false) (fun _ => false) 0 := ⟨fun v hv => by rw [es2, uI1, if_neg (by omega), uI1, if_neg (by omega), (i1 v hv).2]; exact mk_0, by rw [es2, uI1, if_neg (by omega), uI1, if_pos ⟨rfl, rfl⟩]; exact mk_0, by rw [es2, uI1, if_pos ⟨rfl, rfl⟩]; rfl⟩
    rw [← es2]
    refine xQ.go 3 (F1 := (bif !decide ((nI (bE G p)) = 1) then 156 else 95, [some (.ref 45), some (.int (nI j)), some (.int (mk (bS G p))), some (.int (nI (bE G p))), some (.int (nI 10)), none], [], s2)) rfl ?_
    rw [show (1 : Int32) = nI 1 from rfl, nI_dec (by omega) (by omega)]
    by_cases he : bE G p = 1
    · have hone := bS_one hg hp he
      have hl1 : low (bS G p) = p.1 := low_eq h10.1 (by rw [hone]; exact two_iff.mpr (Or.inl rfl)) (fun v hv => by
        rw [hone]
        cases h : two p.1 p.2 v with
        | false => rfl
        | true => rcases two_iff.mp h with e | e <;> omega)
      have hb1 : bS G p p.1 = true := by rw [hone]; exact two_iff.mpr (Or.inl rfl)
      have hb2 : bS G p p.2 = true := by rw [hone]; exact two_iff.mpr (Or.inr rfl)
      have hl2 : low (bH G (bS G p) p.1) = p.2 := low_eq h10.2 (bH_iff.mpr ⟨hp, hb1, hb2⟩) (fun v hv => by
        cases h : bH G (bS G p) p.1 v with
        | false => rfl
        | true =>
          have h3 := (bH_iff.mp h).2.2
          rw [hone] at h3
          rcases two_iff.mp h3 with e | e
          · have h4 := (bH_iff.mp h).1
            rw [e, hg.2.1] at h4
            cases h4
          · omega)
      refine xQ.brF (by rw [decide_eq_true he]; rfl) ?_
      refine xQ.go 1 (F1 := (96, [some (.ref 45), some (.int (nI j)), some (.int (mk (bS G p))), some (.int (nI (bE G p))), some (.int (nI 10)), none], [.int (mk (bS G p))], s2)) rfl ?_
      refine xQ.call rfl (m_lowest (by rw [hl1]; exact h10.1)) ?_
      show xQ MX8_embed (99, [some (.ref 45), some (.int (nI j)), some (.int (mk (bS G p))), some (.int (nI (bE G p))), some (.int (nI 10)), none], [.int (nI (low (bS G p)))], s2) _
      rw [hl1]
      refine xQ.go 4 (F1 := (107, [some (.ref 45), some (.int (nI j)), some (.int (mk (bS G p))), some (.int (nI (bE G p))), some (.int (nI p.1)), none], [.int (nI p.1), .ref 55], s2)) rfl ?_
      refine xQ.iald rfl (k := p.1) (rfl) (⟨by omega, by omega⟩) rfl ?_
      show xQ MX8_embed (108, [some (.ref 45), some (.int (nI j)), some (.int (mk (bS G p))), some (.int (nI (bE G p))), some (.int (nI p.1)), none], [.int (s2.1 55 p.1)], s2) _
      rw [hH2 _ h10.1]
      refine xQ.call rfl (m_lowest (by rw [hl2]; exact h10.2)) ?_
      show xQ MX8_embed (111, [some (.ref 45), some (.int (nI j)), some (.int (mk (bS G p))), some (.int (nI (bE G p))), some (.int (nI p.1)), none], [.int (nI (low (bH G (bS G p) p.1)))], s2) _
      rw [hl2]
      refine xQ.go 8 (F1 := (125, [some (.ref 45), some (.int (nI j)), some (.int (mk (bS G p))), some (.int (nI (bE G p))), some (.int (nI p.1)), some (.int (nI p.2))], [.int ((10 * (nI p.1)) + (nI p.2)), .ref 64], s2)) rfl ?_
      rw [show (10 : Int32) = nI 10 from rfl, jI_mul, jI_add]
      refine xQ.go 1 (F1 := (127, [some (.ref 45), some (.int (nI j)), some (.int (mk (bS G p))), some (.int (nI (bE G p))), some (.int (nI p.1)), some (.int (nI p.2))], [.int (nI p.2), .int (nI (10 * p.1 + p.2)), .ref 64], s2)) rfl ?_
      refine xQ.iast rfl (k := (10 * p.1 + p.2)) (rfl) (⟨by omega, by omega⟩) rfl ?_
      show xQ MX8_embed (128, [some (.ref 45), some (.int (nI j)), some (.int (mk (bS G p))), some (.int (nI (bE G p))), some (.int (nI p.1)), some (.int (nI p.2))], [], (xuI s2 64 (10 * p.1 + p.2) (nI p.2))) _
      refine xQ.go 7 (F1 := (140, [some (.ref 45), some (.int (nI j)), some (.int (mk (bS G p))), some (.int (nI (bE G p))), some (.int (nI p.1)), some (.int (nI p.2))], [.int ((10 * (nI p.2)) + (nI p.1)), .ref 64], (xuI s2 64 (10 * p.1 + p.2) (nI p.2)))) rfl ?_
      rw [show (10 : Int32) = nI 10 from rfl, jI_mul, jI_add]
      refine xQ.go 1 (F1 := (142, [some (.ref 45), some (.int (nI j)), some (.int (mk (bS G p))), some (.int (nI (bE G p))), some (.int (nI p.1)), some (.int (nI p.2))], [.int (nI p.1), .int (nI (10 * p.2 + p.1)), .ref 64], (xuI s2 64 (10 * p.1 + p.2) (nI p.2)))) rfl ?_
      refine xQ.iast rfl (k := (10 * p.2 + p.1)) (rfl) (⟨by omega, by omega⟩) rfl ?_
      show xQ MX8_embed (143, [some (.ref 45), some (.int (nI j)), some (.int (mk (bS G p))), some (.int (nI (bE G p))), some (.int (nI p.1)), some (.int (nI p.2))], [], (xuI (xuI s2 64 (10 * p.1 + p.2) (nI p.2)) 64 (10 * p.2 + p.1) (nI p.1))) _
      refine xQ.go 7 (F1 := (223, [some (.ref 45), some (.int (nI j)), some (.int (mk (bS G p))), some (.int (nI (bE G p))), some (.int (nI p.1)), some (.int (nI p.2))], [], (xuI (xuI (xuI (xuI s2 64 (10 * p.1 + p.2) (nI p.2)) 64 (10 * p.2 + p.1) (nI p.1)) 45 20 1) 45 21 1))) rfl ?_
      have hpl : bPl G p = 1 := by unfold bPl; rw [if_pos he]
      have hfa : bFa G p = 1 := by unfold bFa; rw [if_pos he]
      refine tail _ _ _ ?_ ?_ (fun _ v x y hs => ?_) (fun v x hv hx h => ?_) ?_
      · rw [uI1, if_neg (by omega), uI1, if_pos ⟨rfl, rfl⟩, hpl]; rfl
      · rw [uI1, if_pos ⟨rfl, rfl⟩, hfa]; rfl
      · unfold bSc at hs
        rw [if_pos he] at hs
        rw [uI1, if_neg (by omega), uI1, if_neg (by omega), uI1]
        rcases hs with ⟨e1, e2, e3⟩ | ⟨e1, e2, e3⟩
        · rw [if_neg (by rw [e1, e2]; omega), uI1, if_pos ⟨rfl, by rw [e1, e2]⟩, e3]
        · rw [if_pos ⟨rfl, by rw [e1, e2]⟩, e3]
      · have hH1 : bH G (bS G p) p.1 p.2 = true := bH_iff.mpr ⟨hp, hb1, hb2⟩
        have hH3 : bH G (bS G p) p.2 p.1 = true := by rw [hb.1]; exact hH1
        rw [uI1, if_neg (by omega), uI1, if_neg (by omega), uI1, if_neg, uI1, if_neg]
        · exact xkq_at k2 64 _
        · rintro ⟨_, e⟩
          have e1 : v = p.1 := by omega
          have e2 : x = p.2 := by omega
          rw [e1, e2, hH1] at h
          cases h
        · rintro ⟨_, e⟩
          have e1 : v = p.2 := by omega
          have e2 : x = p.1 := by omega
          rw [e1, e2, hH3] at h
          cases h
      · exact xkq_I (xkq_I (xkq_I (xkq_I (xkq_mono rfl k2) rfl) rfl) rfl) rfl
    · refine xQ.brT (by rw [decide_eq_false he]; rfl) ?_
      obtain ⟨r3, w3, hc3, hr3, c1, c2, c3, c4, c5, c6⟩ := m_cycle (w := s2) hb hSv (show 2 ≤ ec (bH G (bS G p)) by unfold bE at he hpe; omega) hH2 hP2
      subst hr3
      refine xQ.go 2 (F1 := (158, [some (.ref 45), some (.int (nI j)), some (.int (mk (bS G p))), some (.int (nI (bE G p))), some (.int (nI 10)), none], [.int (mk (bS G p)), .ref 45], s2)) rfl ?_
      refine xQ.call rfl (hc3) ?_
      show xQ MX8_embed (161, [some (.ref 45), some (.int (nI j)), some (.int (mk (bS G p))), some (.int (nI (bE G p))), some (.int (nI 10)), none], [], w3) _
      obtain ⟨_, _, _, _, _, _, _, _, _, _, _, _, _, _, _, _, hEO⟩ := cyc0_ok hb hSv (show 2 ≤ ec (bH G (bS G p)) by unfold bE at he hpe; omega)
      have kw3 : xkq kF w w3 := xkq_trans (xkq_mono rfl k2) (xkq_mono rfl c6)
      have hfin : bR G p = erun (bH G (bS G p)) (bS G p) (bE G p) 45 (cyc1 (bH G (bS G p)) (bS G p)) := rfl
      have hpl : bPl G p = (bR G p).2.2.2 := by unfold bPl; rw [if_neg he]
      have hfa : bFa G p = (bR G p).2.2.1.length := by unfold bFa; rw [if_neg he]
      have hRok := bR_ok hg hp he
      have hscR : ∀ v x y, bSc G p v x y ↔ ∃ f ∈ (bR G p).2.2.1, (x, v) ∈ dts f ∧ (v, y) ∈ dts f := fun v x y => by unfold bSc; rw [if_neg he]
      have hbE : bE G p = ec (bH G (bS G p)) := rfl
      have f3 : fM w3 (cyc1 (bH G (bS G p)) (bS G p)).2.2.1 := fM_two c2 c3 c4
      generalize bR G p = fin at *
      generalize hHH : bH G (bS G p) = H at *
      generalize hSS : bS G p = S at *
      have done : ∀ (t : xW) (a b : Option Value), pM t fin.1 fin.2.1 fin.2.2.2 → fM t fin.2.2.1 → xkq kF w t → xQ MX8_embed (219, [some (.ref 45), some (.int (nI j)), some (.int (mk S)), some (.int (nI (bE G p))), a, b], [], t) (fun r w1 => r = none ∧ (w1.1 52 j = (if bPl G p = bE G p then 1 else 0) ∧ w1.1 53 j = nI (bPl G p) ∧ w1.1 54 j = nI (bFa G p)) ∧ (bPl G p = bE G p → ∀ v x y, bSc G p v x y → w1.1 64 (10 * v + x) = nI y) ∧ (∀ v x, v < 10 → x < 10 → H v x = false → w1.1 64 (10 * v + x) = w.1 64 (10 * v + x)) ∧ (∀ i, i ≠ j → w1.1 52 i = w.1 52 i ∧ w1.1 53 i = w.1 53 i ∧ w1.1 54 i = w.1 54 i) ∧ xkq kE w w1) := by
        intro t a b d1 d2 d3
        refine xQ.less [some (.ref 45), some (.int (nI j)), some (.int (mk S)), some (.int (nI (bE G p))), none, none] (by simp [xleb]) ?_
        have hIV := hRok.1
        obtain ⟨r5, w5, hc5, hr5, s51, s52⟩ := m_laySucc d2 (EOK_fS hSv hRok) hIV.2.2.2.2.1 (fun f hf => (hIV.2.2.2.1 f hf).1)
        subst hr5
        refine xQ.go 1 (F1 := (220, [some (.ref 45), some (.int (nI j)), some (.int (mk S)), some (.int (nI (bE G p))), none, none], [.ref 45], t)) rfl ?_
        refine xQ.call rfl (hc5) ?_
        show xQ MX8_embed (223, [some (.ref 45), some (.int (nI j)), some (.int (mk S)), some (.int (nI (bE G p))), none, none], [], w5) _
        refine tail w5 _ _ ?_ ?_ (fun _ v x y hs => ?_) (fun v x hv hx h => ?_) (xkq_trans (xkq_mono rfl d3) (xkq_mono rfl s52))
        · rw [xkq_at s52 45 20, hpl]; exact d1.2.2
        · rw [xkq_at s52 45 21, hfa]; exact d2.1
        · obtain ⟨f, q1, q2, q3⟩ := (hscR v x y).mp hs
          exact s51.1 f q1 x v y q2 q3
        · rw [s51.2 v x hv hx (fun f hf hm => ?_)]
          · exact xkq_at d3 64 _
          · have h1 := (hIV.2.2.2.2.2.1 x v).mp (List.mem_flatMap.mpr ⟨f, hf, hm⟩)
            have h2 := (hIV.2.1 x v h1).1
            rw [hb.1, h] at h2
            cases h2
      refine xQ.less [some (.ref 45), some (.int (nI j)), some (.int (mk S)), some (.int (nI (bE G p))), none, none] (by simp [xleb]) ?_
      refine xQ.go 2 (F1 := (164, [some (.ref 45), some (.int (nI j)), some (.int (mk S)), some (.int (nI (bE G p))), some (.int 1), none], [], w3)) rfl ?_
      refine xQ.loop (S := xW × xSg × Bool) (fun k s => (164, [some (.ref 45), some (.int (nI j)), some (.int (mk S)), some (.int (nI (bE G p))), some (.int (if s.2.2 = true then 1 else 0)), none], [], s.1)) (fun k s => pM s.1 s.2.1.1 s.2.1.2.1 s.2.1.2.2.2 ∧ fM s.1 s.2.1.2.2.1 ∧ iB s.1 H ∧ EOK H S s.2.1 ∧ (s.2.2 = true → erun H S (bE G p) (45 - k) s.2.1 = fin ∧ k ≤ s.2.1.2.2.2) ∧ (s.2.2 = false → s.2.1 = fin) ∧ xkq kF w s.1) 45 (w3, cyc1 H S, true) (rfl) (⟨c1, f3, c5, hEO, (fun _ => ⟨hfin.symm, Nat.zero_le _⟩), (fun h => by cases h), kw3⟩) ?_ ?_
      · intro k s hk hI K
        obtain ⟨t, sg, g⟩ := s
        obtain ⟨j1, j2, j3, j4, j5, j6, j7⟩ := hI
        simp only at j1 j2 j3 j4 j5 j6 j7
        show xQ MX8_embed (164, [some (.ref 45), some (.int (nI j)), some (.int (mk S)), some (.int (nI (bE G p))), some (.int (if g = true then 1 else 0)), none], [], t) _
        cases g with
        | false =>
          refine xQ.go 2 (F1 := (bif decide ((if false = true then 1 else 0) = 0) then 219 else 169, [some (.ref 45), some (.int (nI j)), some (.int (mk S)), some (.int (nI (bE G p))), some (.int (if false = true then 1 else 0)), none], [], t)) rfl ?_
          refine xQ.brT (rfl) ?_
          rw [j6 rfl] at j1 j2
          exact done t _ _ j1 j2 j7
        | true =>
          obtain ⟨j51, j52⟩ := j5 rfl
          have hle : sg.2.2.2 ≤ ec H := EOK_le hb j4
          refine xQ.go 2 (F1 := (bif decide ((if true = true then 1 else 0) = 0) then 219 else 169, [some (.ref 45), some (.int (nI j)), some (.int (mk S)), some (.int (nI (bE G p))), some (.int (if true = true then 1 else 0)), none], [], t)) rfl ?_
          refine xQ.brF (rfl) ?_
          by_cases hlt : sg.2.2.2 < bE G p
          · refine xQ.go 4 (F1 := (bif decide ((nI (bE G p)) ≤ (t.1 45 20)) then 219 else 177, [some (.ref 45), some (.int (nI j)), some (.int (mk S)), some (.int (nI (bE G p))), some (.int (if true = true then 1 else 0)), none], [], t)) rfl ?_
            refine xQ.brF (by rw [j1.2.2]; exact decide_eq_false (nI_ge hlt (by omega))) ?_
            obtain ⟨r4, w4, hc4, hr4, g1, g2⟩ := m_frags (w := t) hb j3 j1
            subst hr4
            refine xQ.go 1 (F1 := (178, [some (.ref 45), some (.int (nI j)), some (.int (mk S)), some (.int (nI (bE G p))), some (.int (if true = true then 1 else 0)), none], [.ref 45], t)) rfl ?_
            refine xQ.call rfl (hc4) ?_
            show xQ MX8_embed (181, [some (.ref 45), some (.int (nI j)), some (.int (mk S)), some (.int (nI (bE G p))), some (.int (if true = true then 1 else 0)), none], [], w4) _
            have hIV := j4.1
            have hne : frs H S sg.1 sg.2.1 100 ≠ [] := frs_some hb hIV.1 (EOK_left hb j4 (by omega))
            have hfo := frs_ok hb (P := sg.1) (PV := sg.2.1) 100 (Nat.le_refl _)
            have hfS := EOK_fS hSv j4
            obtain ⟨r5, w5, hc5, n1, n2, n3⟩ := m_choose (w := w4) g1 (fM_kq j2 g2) hfS frs_45 (fun q hq => (FOK_mk (hfo q hq)).2) hne
            cases hch : chs sg.2.2.1 (frs H S sg.1 sg.2.1 100) with
            | none =>
              have := n1 hch
              subst this
              refine xQ.go 1 (F1 := (182, [some (.ref 45), some (.int (nI j)), some (.int (mk S)), some (.int (nI (bE G p))), some (.int (if true = true then 1 else 0)), none], [.ref 45], w4)) rfl ?_
              refine xQ.call rfl (hc5) ?_
              show xQ MX8_embed (185, [some (.ref 45), some (.int (nI j)), some (.int (mk S)), some (.int (nI (bE G p))), some (.int (if true = true then 1 else 0)), none], [.int (-5)], w5) _
              refine xQ.go 4 (F1 := (bif decide ((-5) = (-5)) then 198 else 194, [some (.ref 45), some (.int (nI j)), some (.int (mk S)), some (.int (nI (bE G p))), some (.int (if true = true then 1 else 0)), some (.int (-5))], [], w5)) rfl ?_
              refine xQ.brT (rfl) ?_
              refine xQ.go 3 (F1 := (203, [some (.ref 45), some (.int (nI j)), some (.int (mk S)), some (.int (nI (bE G p))), some (.int 0), some (.int (-5))], [.int 0], w5)) rfl ?_
              refine xQ.go 1 (F1 := (bif decide (0 = 0) then 216 else 206, [some (.ref 45), some (.int (nI j)), some (.int (mk S)), some (.int (nI (bE G p))), some (.int 0), some (.int (-5))], [], w5)) rfl ?_
              refine xQ.brT (rfl) ?_
              refine xQ.go 1 (F1 := (164, [some (.ref 45), some (.int (nI j)), some (.int (mk S)), some (.int (nI (bE G p))), some (.int 0), some (.int (-5))], [], w5)) rfl ?_
              refine xQ.less [some (.ref 45), some (.int (nI j)), some (.int (mk S)), some (.int (nI (bE G p))), some (.int 0), none] (by simp [xleb]) ?_
              have hst : estep H S sg = none := by
                unfold estep
                rw [hch]
              rw [erun_none hst] at j51
              exact K (w5, sg, false) ⟨pM_kq (pM_kq j1 g2) n3, fM_kq (fM_kq j2 g2) n3, iB_kq (iB_kq j3 g2) n3, j4, (fun h => by cases h), (fun _ => j51), xkq_trans j7 (xkq_trans (xkq_mono rfl g2) (xkq_mono rfl n3))⟩
            | some q =>
              obtain ⟨i, hi, hr5, h27⟩ := n2 q hch
              subst hr5
              obtain ⟨u, inn, z, f, A, B, xs, ys, e1, e2, e3, e4, e5, e6, e7, e8, e9⟩ := estep_ok hb hSv j4 hch
              have hil := (List.getElem?_eq_some_iff.mp hi).1
              have h45f := frs_45 (H := H) (S := S) (P := sg.1) (PV := sg.2.1)
              refine xQ.go 1 (F1 := (182, [some (.ref 45), some (.int (nI j)), some (.int (mk S)), some (.int (nI (bE G p))), some (.int (if true = true then 1 else 0)), none], [.ref 45], w4)) rfl ?_
              refine xQ.call rfl (hc5) ?_
              show xQ MX8_embed (185, [some (.ref 45), some (.int (nI j)), some (.int (mk S)), some (.int (nI (bE G p))), some (.int (if true = true then 1 else 0)), none], [.int (nI i)], w5) _
              refine xQ.go 4 (F1 := (bif decide ((nI i) = (-5)) then 198 else 194, [some (.ref 45), some (.int (nI j)), some (.int (mk S)), some (.int (nI (bE G p))), some (.int (if true = true then 1 else 0)), some (.int (nI i))], [], w5)) rfl ?_
              refine xQ.brF (decide_eq_false (fun e => ng_3 i (by omega) e.symm)) ?_
              refine xQ.go 4 (F1 := (203, [some (.ref 45), some (.int (nI j)), some (.int (mk S)), some (.int (nI (bE G p))), some (.int 1), some (.int (nI i))], [.int 1], w5)) rfl ?_
              refine xQ.go 1 (F1 := (bif decide (1 = 0) then 216 else 206, [some (.ref 45), some (.int (nI j)), some (.int (mk S)), some (.int (nI (bE G p))), some (.int 1), some (.int (nI i))], [], w5)) rfl ?_
              refine xQ.brF (rfl) ?_
              have hfoq := hfo q (List.mem_of_getElem? hi)
              obtain ⟨r6, w6, hc6, hr6, l6, k6⟩ := m_layPath (w := w5) hb (iB_kq (iB_kq j3 g2) n3) (gF_kq g1 n3) hi frs_45 hfoq e1
              subst hr6
              refine xQ.go 2 (F1 := (209, [some (.ref 45), some (.int (nI j)), some (.int (mk S)), some (.int (nI (bE G p))), some (.int 1), some (.int (nI i))], [.int (nI i), .ref 45], w5)) rfl ?_
              refine xQ.call rfl (hc6) ?_
              show xQ MX8_embed (212, [some (.ref 45), some (.int (nI j)), some (.int (mk S)), some (.int (nI (bE G p))), some (.int 1), some (.int (nI i))], [], w6) _
              rw [e1.1] at l6
              have hS9 := EOK_fS hSv e9
              have hmx := EOK_max e9
              have hlen : sg.2.2.1.length < 16 := by
                have := hmx.1
                simp only [List.length_append, List.length_set, List.length_cons, List.length_nil] at this
                omega
              have hcfl := (List.getElem?_eq_some_iff.mp e2).1
              have hnf1 := (hS9.2 (u :: xs ++ z :: inn.reverse) (List.mem_append_left _ (List.mem_of_getElem? (List.getElem?_set_self (by omega))))).1
              have hnf2 := (hS9.2 (z :: ys ++ u :: inn) (List.mem_append_right _ List.mem_cons_self)).1
              have hfm : f ∈ sg.2.2.1 := List.mem_of_getElem? e2
              have hff := hIV.2.2.2.1 f hfm
              have hmem : ∀ v, v ∈ u :: xs ++ z :: ys → v ∈ f := fun v hv => by
                have hrot : u :: xs ++ z :: ys = (u :: B) ++ A := by rw [List.cons_append, List.cons_append, e6]
                rw [hrot] at hv
                rw [e3]
                rcases List.mem_append.mp hv with h | h
                · exact List.mem_append_right _ h
                · exact List.mem_append_left _ h
              have hPu : sg.2.1 u = true := hff.2.2 u (hmem u (by simp))
              have hPz : sg.2.1 z = true := hff.2.2 z (hmem z (by simp))
              have hinn := e1.2.2.2.2.2.2.2.2.1
              have hpv : ∀ v ∈ u :: inn ++ [z], v < 10 := fun v hv => by
                rcases List.mem_append.mp hv with h | h
                · rcases List.mem_cons.mp h with h | h
                  · rw [h]; exact e1.2.2.1
                  · exact (hinn v h).1
                · rw [List.mem_singleton.mp h]; exact e1.2.2.2.1
              have hpn : (u :: inn ++ [z]).Nodup := by
                have hu : u ∉ inn := fun h => by
                  have := (hinn u h).2.1
                  rw [hPu] at this
                  cases this
                have hz : z ∉ inn := fun h => by
                  have := (hinn z h).2.1
                  rw [hPz] at this
                  cases this
                refine List.nodup_append.mpr ⟨List.nodup_cons.mpr ⟨hu, e1.2.2.2.2.2.2.2.1⟩, by simp, fun x hx y hy e => ?_⟩
                rw [List.mem_singleton] at hy
                rw [e, hy] at hx
                rcases List.mem_cons.mp hx with h | h
                · exact e1.2.2.2.2.1 h.symm
                · exact hz h
              obtain ⟨r7, w7, hc7, hr7, p7, f7, k7⟩ := m_placeP (w := w6) (fM_kq (fM_kq (fM_kq j2 g2) n3) k6) hfS hlen e2 e3 e4 e6 e7 l6 ((xkq_at k6 45 27).trans h27) (pM_kq (pM_kq (pM_kq j1 g2) n3) k6) hnf1 hnf2 hpv hpn
              subst hr7
              refine xQ.go 1 (F1 := (213, [some (.ref 45), some (.int (nI j)), some (.int (mk S)), some (.int (nI (bE G p))), some (.int 1), some (.int (nI i))], [.ref 45], w6)) rfl ?_
              refine xQ.call rfl (hc7) ?_
              show xQ MX8_embed (216, [some (.ref 45), some (.int (nI j)), some (.int (mk S)), some (.int (nI (bE G p))), some (.int 1), some (.int (nI i))], [], w7) _
              refine xQ.go 1 (F1 := (164, [some (.ref 45), some (.int (nI j)), some (.int (mk S)), some (.int (nI (bE G p))), some (.int 1), some (.int (nI i))], [], w7)) rfl ?_
              refine xQ.less [some (.ref 45), some (.int (nI j)), some (.int (mk S)), some (.int (nI (bE G p))), some (.int 1), none] (by simp [xleb]) ?_
              have hn45 : 45 - k = (45 - (k + 1)) + 1 := by omega
              rw [hn45, erun_some hlt e8] at j51
              refine K (w7, (addP sg.1 (u :: inn ++ [z]), addV sg.2.1 inn, sg.2.2.1.set (ffit q.2 sg.2.2.1) (u :: xs ++ z :: inn.reverse) ++ [z :: ys ++ u :: inn], sg.2.2.2 + inn.length + 1), true) ⟨⟨p7.1, ?_, p7.2.2⟩, f7, iB_kq (iB_kq (iB_kq (iB_kq j3 g2) n3) k6) k7, e9, fun _ => ⟨j51, ?_⟩, (fun h => by cases h), xkq_trans j7 (xkq_trans (xkq_mono rfl g2) (xkq_trans (xkq_mono rfl n3) (xkq_trans (xkq_mono rfl k6) (xkq_mono rfl k7))))⟩
              · rw [p7.2.1]
                refine mk_ext fun v _ => Bool.eq_iff_iff.mpr ?_
                rw [addV_iff, addV_iff]
                simp only [List.cons_append, List.mem_cons, List.mem_append, List.not_mem_nil, or_false]
                constructor
                · rintro (h | h | h | h)
                  · exact Or.inl h
                  · rw [h]; exact Or.inl hPu
                  · exact Or.inr h
                  · rw [h]; exact Or.inl hPz
                · rintro (h | h)
                  · exact Or.inl h
                  · exact Or.inr (Or.inr (Or.inl h))
              · show k + 1 ≤ sg.2.2.2 + inn.length + 1
                omega
          · refine xQ.go 4 (F1 := (bif decide ((nI (bE G p)) ≤ (t.1 45 20)) then 219 else 177, [some (.ref 45), some (.int (nI j)), some (.int (mk S)), some (.int (nI (bE G p))), some (.int (if true = true then 1 else 0)), none], [], t)) rfl ?_
            refine xQ.brT (by rw [j1.2.2]; exact decide_eq_true (nI_le (by omega) (by omega))) ?_
            rw [erun_no hlt] at j51
            rw [j51] at j1 j2
            exact done t _ _ j1 j2 j7
      · intro s hI
        obtain ⟨t, sg, g⟩ := s
        obtain ⟨j1, j2, j3, j4, j5, j6, j7⟩ := hI
        simp only at j1 j2 j3 j4 j5 j6 j7
        show xQ MX8_embed (164, [some (.ref 45), some (.int (nI j)), some (.int (mk S)), some (.int (nI (bE G p))), some (.int (if g = true then 1 else 0)), none], [], t) _
        cases g with
        | false =>
          refine xQ.go 2 (F1 := (bif decide ((if false = true then 1 else 0) = 0) then 219 else 169, [some (.ref 45), some (.int (nI j)), some (.int (mk S)), some (.int (nI (bE G p))), some (.int (if false = true then 1 else 0)), none], [], t)) rfl ?_
          refine xQ.brT (rfl) ?_
          rw [j6 rfl] at j1 j2
          exact done t _ _ j1 j2 j7
        | true =>
          obtain ⟨j51, j52⟩ := j5 rfl
          have hle : sg.2.2.2 ≤ ec H := EOK_le hb j4
          refine xQ.go 2 (F1 := (bif decide ((if true = true then 1 else 0) = 0) then 219 else 169, [some (.ref 45), some (.int (nI j)), some (.int (mk S)), some (.int (nI (bE G p))), some (.int (if true = true then 1 else 0)), none], [], t)) rfl ?_
          refine xQ.brF (rfl) ?_
          refine xQ.go 4 (F1 := (bif decide ((nI (bE G p)) ≤ (t.1 45 20)) then 219 else 177, [some (.ref 45), some (.int (nI j)), some (.int (mk S)), some (.int (nI (bE G p))), some (.int (if true = true then 1 else 0)), none], [], t)) rfl ?_
          refine xQ.brT (by rw [j1.2.2]; exact decide_eq_true (nI_le (by omega) (by omega))) ?_
          have j51 : sg = fin := j51
          rw [j51] at j1 j2
          exact done t _ _ j1 j2 j7
