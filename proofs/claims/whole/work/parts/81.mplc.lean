/-! the reference: placeCycle -/
theorem pC_next (c : List Nat) (k : Nat) : pC c (k + 1) = adP (pC c k) (c.getD k 0) (c.getD ((k + 1) % c.length) 0) := rfl
theorem vC_next (c : List Nat) (k : Nat) : vC c (k + 1) = adV (vC c k) (c.getD k 0) (c.getD ((k + 1) % c.length) 0) := rfl
theorem xE.irem {M : xMI} {pc : Nat} {x y z : Int32} {L : xL} {st : List Value} {w : xW} {r : Option Value} {w1 : xW} (h : xfind (xm_t M) pc = some (.irem, 1)) (hy : y ≠ 0) (hz : x - x / y * y = z) (k : xE M (pc + 1, L, .int z :: st, w) r w1) : xE M (pc, L, .int y :: .int x :: st, w) r w1 := by
  refine xE.step ((xs1_of h).trans ?_) k
  simp only [xs1i, xb0]
  rw [decide_eq_false hy, hz]
  rfl
theorem xQ.irem {M : xMI} {pc : Nat} {x y z : Int32} {L : xL} {st : List Value} {w : xW} {Q : Option Value → xW → Prop} (h : xfind (xm_t M) pc = some (.irem, 1)) (hy : y ≠ 0) (hz : x - x / y * y = z) (k : xQ M (pc + 1, L, .int z :: st, w) Q) : xQ M (pc, L, .int y :: .int x :: st, w) Q := xQ.lift (fun _ _ => xE.irem h hy hz) k
theorem rem_all : ∀ n, n < 11 → 0 < n → ∀ k, k < 22 → nI k - nI k / nI n * nI n = nI (k % n) := by decide +kernel
theorem rem_nI {k n : Nat} (h0 : 0 < n) (hn : n < 11) (hk : k + 1 < 22) : nI k + 1 - (nI k + 1) / nI n * nI n = nI ((k + 1) % n) := by
  have := rem_all n hn h0 (k + 1) hk
  rw [nI_succ] at this
  exact this
theorem m_cycle {w : xW} {H : Nat → Nat → Bool} {S : Nat → Bool} (hb : BIC H S) (hS : ∀ v, S v = true → v < 10) (he : 2 ≤ ec H) (hH : iB w H) (hP : pM w (fun _ _ => false) (fun _ => false) 0) : xD MX8_placeCycle [.ref 45, .int (mk S)] w (fun r w1 => r = none ∧ pM w1 (cyc1 H S).1 (cyc1 H S).2.1 (cyc1 H S).2.2.2 ∧ w1.1 45 21 = nI 2 ∧ fc1 w1 0 (cyc0 H S) ∧ fc1 w1 1 (cyc0 H S).reverse ∧ iB w1 H ∧ xkq [(45, some 19), (45, some 20), (45, some 21), (55, none), (56, none), (57, none), (58, none), (62, none)] w w1) := by
  obtain ⟨a, b, inn, ea, eb, hc, ha, hb10, hab, hSa, hHab, hi1, hi8, hcn, hcm, hst⟩ := cyc_dd hb hS he
  have hHba : H b a = true := by rw [hb.1]; exact hHab
  have hcl : (cyc0 H S).length = inn.length + 2 := by rw [hc]; rfl
  have hcy1 : (cyc1 H S).1 = cycP (cyc0 H S) ∧ (cyc1 H S).2.1 = (fun v => decide (v ∈ cyc0 H S)) ∧ (cyc1 H S).2.2.2 = (cyc0 H S).length := ⟨rfl, rfl, rfl⟩
  rw [hcy1.1, hcy1.2.1, hcy1.2.2]
  obtain ⟨d, hd⟩ : ∃ d : Nat → Nat, d = dd (cutE H a b) S (fun v => decide (v = a)) 10 := ⟨_, rfl⟩
  rw [← hd] at hst
  have hdl : ∀ v, v < 10 → d v < 2 ^ 31 := fun v _ => by
    rw [hd]
    rcases dd_le (cutE H a b) S (fun v => decide (v = a)) 10 v with h | h <;> omega
  obtain ⟨q, hq⟩ : ∃ q, q = b :: inn ++ [a] := ⟨_, rfl⟩
  rw [← hq] at hst
  have hql : q.length = inn.length + 2 := by rw [hq]; simp
  have hqm : ∀ i, i < q.length → q.getD i 0 < 10 := fun i hi => by
    have h1 := List.mem_of_getElem? (getD_of hi 0)
    rw [hq] at h1
    refine (hcm _ ?_).1
    rw [hc]
    rcases List.mem_append.mp h1 with h | h
    · rw [hq]; exact List.mem_cons_of_mem _ h
    · rw [hq, List.mem_singleton.mp h]; exact List.mem_cons_self
  have hqa : ∀ i, i ≤ inn.length → q.getD i 0 ≠ a := fun i hi e => by
    rw [hc] at hcn
    have h1 := (List.nodup_cons.mp hcn).1
    refine h1 ?_
    rw [← e, hq, List.getD_eq_getElem?_getD, List.getElem?_append_left (by simp; omega)]
    rw [List.getElem?_eq_getElem (by simp; omega)]
    exact List.getElem_mem _
  have hqlast : q.getD (inn.length + 1) 0 = a := by
    rw [hq, List.getD_eq_getElem?_getD, List.getElem?_append_right (by simp)]
    simp
  have hqtake : a :: q.take (inn.length + 1) = cyc0 H S := by
    rw [hc, hq, List.take_append_of_le_length (by simp), List.take_of_length_le (by simp)]
  have hqb : q.getD 0 0 = b := by rw [hq]; rfl
  clear hq
  refine xD.of ?_
  show xQ MX8_placeCycle (0, [some (.ref 45), some (.int (mk S)), none, none, none, none, none], [], w) _
  refine xQ.go 1 (F1 := (1, [some (.ref 45), some (.int (mk S)), none, none, none, none, none], [.int (mk S)], w)) rfl ?_
  refine xQ.call rfl (m_lowest (by rw [← ea]; exact ha)) ?_
  show xQ MX8_placeCycle (4, [some (.ref 45), some (.int (mk S)), none, none, none, none, none], [.int (nI (low S))], w) _
  rw [← ea]
  refine xQ.go 4 (F1 := (10, [some (.ref 45), some (.int (mk S)), some (.int (nI a)), none, none, none, none], [.int (nI a), .ref 55], w)) rfl ?_
  refine xQ.iald rfl (k := a) (rfl) (⟨by omega, by omega⟩) rfl ?_
  show xQ MX8_placeCycle (11, [some (.ref 45), some (.int (mk S)), some (.int (nI a)), none, none, none, none], [.int (w.1 55 a)], w) _
  rw [hH a ha]
  refine xQ.call rfl (m_lowest (by rw [← eb]; exact hb10)) ?_
  show xQ MX8_placeCycle (14, [some (.ref 45), some (.int (mk S)), some (.int (nI a)), none, none, none, none], [.int (nI (low (H a)))], w) _
  rw [← eb]
  refine xQ.go 5 (F1 := (21, [some (.ref 45), some (.int (mk S)), some (.int (nI a)), some (.int (nI b)), none, none, none], [.int (nI a), .ref 55, .int (nI a), .ref 55], w)) rfl ?_
  refine xQ.iald rfl (k := a) (rfl) (⟨by omega, by omega⟩) rfl ?_
  show xQ MX8_placeCycle (22, [some (.ref 45), some (.int (mk S)), some (.int (nI a)), some (.int (nI b)), none, none, none], [.int (w.1 55 a), .int (nI a), .ref 55], w) _
  rw [hH a ha]
  refine xQ.go 3 (F1 := (25, [some (.ref 45), some (.int (mk S)), some (.int (nI a)), some (.int (nI b)), none, none, none], [.int (1 <<< ((nI b) &&& 31)), .int (mk (H a)), .int (nI a), .ref 55], w)) rfl ?_
  rw [mk_bit hb10]
  refine xQ.go 1 (F1 := (26, [some (.ref 45), some (.int (mk S)), some (.int (nI a)), some (.int (nI b)), none, none, none], [.int ((mk (H a)) ^^^ (mk (fun u => decide (u = b)))), .int (nI a), .ref 55], w)) rfl ?_
  rw [cut_go hHab hab]
  refine xQ.iast rfl (k := a) (rfl) (⟨by omega, by omega⟩) rfl ?_
  show xQ MX8_placeCycle (27, [some (.ref 45), some (.int (mk S)), some (.int (nI a)), some (.int (nI b)), none, none, none], [], (xuI w 55 a (mk (cutE H a b a)))) _
  refine xQ.go 4 (F1 := (33, [some (.ref 45), some (.int (mk S)), some (.int (nI a)), some (.int (nI b)), none, none, none], [.int (nI b), .ref 55, .int (nI b), .ref 55], (xuI w 55 a (mk (cutE H a b a))))) rfl ?_
  refine xQ.iald rfl (k := b) (rfl) (⟨by omega, by omega⟩) rfl ?_
  show xQ MX8_placeCycle (34, [some (.ref 45), some (.int (mk S)), some (.int (nI a)), some (.int (nI b)), none, none, none], [.int ((xuI w 55 a (mk (cutE H a b a))).1 55 b), .int (nI b), .ref 55], (xuI w 55 a (mk (cutE H a b a)))) _
  rw [show (xuI w 55 a (mk (cutE H a b a))).1 55 b = mk (H b) by rw [uI1, if_neg (by omega)]; exact hH b hb10]
  refine xQ.go 3 (F1 := (37, [some (.ref 45), some (.int (mk S)), some (.int (nI a)), some (.int (nI b)), none, none, none], [.int (1 <<< ((nI a) &&& 31)), .int (mk (H b)), .int (nI b), .ref 55], (xuI w 55 a (mk (cutE H a b a))))) rfl ?_
  rw [mk_bit ha]
  refine xQ.go 1 (F1 := (38, [some (.ref 45), some (.int (mk S)), some (.int (nI a)), some (.int (nI b)), none, none, none], [.int ((mk (H b)) ^^^ (mk (fun u => decide (u = a)))), .int (nI b), .ref 55], (xuI w 55 a (mk (cutE H a b a))))) rfl ?_
  rw [cut_go hHba (fun h => hab h.symm), ← cutE_swap]
  refine xQ.iast rfl (k := b) (rfl) (⟨by omega, by omega⟩) rfl ?_
  show xQ MX8_placeCycle (39, [some (.ref 45), some (.int (mk S)), some (.int (nI a)), some (.int (nI b)), none, none, none], [], (xuI (xuI w 55 a (mk (cutE H a b a))) 55 b (mk (cutE H a b b)))) _
  obtain ⟨w1, e1⟩ : ∃ w1, w1 = (xuI (xuI w 55 a (mk (cutE H a b a))) 55 b (mk (cutE H a b b))) := ⟨_, rfl⟩
  have k1 : xkq [(55, none)] w w1 := by rw [e1]; exact xkq_I (xkq_I xkq_rfl rfl) rfl
  have hH1 : iB w1 (cutE H a b) := fun v hv => by
    rw [e1, uI1]
    by_cases h1 : v = b
    · rw [if_pos ⟨rfl, h1⟩, h1]
    · rw [if_neg (fun h => h1 h.2), uI1]
      by_cases h2 : v = a
      · rw [if_pos ⟨rfl, h2⟩, h2]
      · rw [if_neg (fun h => h2 h.2), hH v hv, cut_same h2 h1]
  rw [← e1]
  refine xQ.go 4 (F1 := (43, [some (.ref 45), some (.int (mk S)), some (.int (nI a)), some (.int (nI b)), none, none, none], [.int (1 <<< ((nI a) &&& 31)), .ref 45], w1)) rfl ?_
  rw [mk_bit ha]
  obtain ⟨r2, w2, hc2, hr2, d2, k2⟩ := m_dist (w := w1) (A := S) (T := fun u => decide (u = a)) hH1
  subst hr2
  refine xQ.go 1 (F1 := (44, [some (.ref 45), some (.int (mk S)), some (.int (nI a)), some (.int (nI b)), none, none, none], [.int (mk S), .int (mk (fun u => decide (u = a))), .ref 45], w1)) rfl ?_
  refine xQ.call rfl (hc2) ?_
  show xQ MX8_placeCycle (47, [some (.ref 45), some (.int (mk S)), some (.int (nI a)), some (.int (nI b)), none, none, none], [], w2) _
  rw [← hd] at d2
  refine xQ.go 10 (F1 := (61, [some (.ref 45), some (.int (mk S)), some (.int (nI a)), some (.int (nI b)), none, none, none], [], (xuI (xuI w2 57 0 0) 57 1 0))) rfl ?_
  obtain ⟨w3, e3⟩ : ∃ w3, w3 = (xuI (xuI w2 57 0 0) 57 1 0) := ⟨_, rfl⟩
  have k3 : xkq [(57, none)] w2 w3 := by rw [e3]; exact xkq_I (xkq_I xkq_rfl rfl) rfl
  have f30 : fc1 w3 0 [] := ⟨by rw [e3]; simp [uI1]; rfl, fun k x h => by cases h⟩
  have f31 : fc1 w3 1 [] := ⟨by rw [e3]; simp [uI1]; rfl, fun k x h => by cases h⟩
  rw [← e3]
  obtain ⟨r4, w4, hc4, hr4, f40, fo4, k4⟩ := m_addF (w := w3) (i := 0) (x := a) f30 (by omega) (by simp)
  subst hr4
  refine xQ.go 3 (F1 := (64, [some (.ref 45), some (.int (mk S)), some (.int (nI a)), some (.int (nI b)), none, none, none], [.int (nI a), .int 0, .ref 45], w3)) rfl ?_
  refine xQ.call rfl (hc4) ?_
  show xQ MX8_placeCycle (67, [some (.ref 45), some (.int (mk S)), some (.int (nI a)), some (.int (nI b)), none, none, none], [], w4) _
  have f41 := fo4 1 [] (by omega) (by simp) f31
  refine xQ.go 2 (F1 := (70, [some (.ref 45), some (.int (mk S)), some (.int (nI a)), some (.int (nI b)), some (.int (nI b)), none, none], [], w4)) rfl ?_
  have kq4 : xkq [(55, none), (57, none), (58, none), (62, none)] w w4 := xkq_trans (xkq_trans (xkq_trans (xkq_mono rfl k1) (xkq_mono rfl k2)) (xkq_mono rfl k3)) (xkq_mono rfl k4)
  have kw4 : xkq [(57, none), (58, none)] w2 w4 := xkq_trans (xkq_mono rfl k3) k4
  have hH4 : iB w4 (cutE H a b) := iB_kq (iB_kq hH1 k2) kw4
  have d4 : dB w4 d := fun v hv => (xkq_at kw4 62 v).trans (d2 v hv)
  refine xQ.loop (S := xW) (fun k s => (70, [some (.ref 45), some (.int (mk S)), some (.int (nI a)), some (.int (nI b)), some (.int (nI (q.getD k 0))), none, none], [], s)) (fun k s => fc1 s 0 (a :: q.take k) ∧ fc1 s 1 [] ∧ iB s (cutE H a b) ∧ dB s d ∧ xkq [(57, none), (58, none)] w4 s) (inn.length + 1) w4 (by simp only [hqb]) (⟨f40, f41, hH4, d4, xkq_rfl⟩) ?_ ?_
  · intro k s hk hI K
    obtain ⟨i1, i2, i3, i4, i5⟩ := hI
    obtain ⟨s1, s2⟩ := hst k (by omega)
    have hv10 := hqm k (by omega)
    have hn10 := hqm (k + 1) (by omega)
    refine xQ.go 3 (F1 := (bif decide ((nI (q.getD k 0)) = (nI a)) then 108 else 76, [some (.ref 45), some (.int (mk S)), some (.int (nI a)), some (.int (nI b)), some (.int (nI (q.getD k 0))), none, none], [], s)) rfl ?_
    refine xQ.brF (by rw [nI_dec (by omega) (by omega)]; exact decide_eq_false (hqa k (by omega))) ?_
    have htl : (a :: q.take k).length < 10 := by
      rw [List.length_cons, List.length_take]
      omega
    obtain ⟨r5, s5, hc5, hr5, f50, fo5, k5⟩ := m_addF (w := s) (i := 0) (x := q.getD k 0) i1 (by omega) htl
    subst hr5
    refine xQ.go 3 (F1 := (80, [some (.ref 45), some (.int (mk S)), some (.int (nI a)), some (.int (nI b)), some (.int (nI (q.getD k 0))), none, none], [.int (nI (q.getD k 0)), .int 0, .ref 45], s)) rfl ?_
    refine xQ.call rfl (hc5) ?_
    show xQ MX8_placeCycle (83, [some (.ref 45), some (.int (mk S)), some (.int (nI a)), some (.int (nI b)), some (.int (nI (q.getD k 0))), none, none], [], s5) _
    refine xQ.go 4 (F1 := (90, [some (.ref 45), some (.int (mk S)), some (.int (nI a)), some (.int (nI b)), some (.int (nI (q.getD k 0))), none, none], [.int (nI (q.getD k 0)), .ref 55, .ref 45], s5)) rfl ?_
    refine xQ.iald rfl (k := (q.getD k 0)) (rfl) (⟨by omega, by omega⟩) rfl ?_
    show xQ MX8_placeCycle (91, [some (.ref 45), some (.int (mk S)), some (.int (nI a)), some (.int (nI b)), some (.int (nI (q.getD k 0))), none, none], [.int (s5.1 55 (q.getD k 0)), .ref 45], s5) _
    rw [iB_kq i3 k5 rfl _ hv10]
    refine xQ.go 3 (F1 := (97, [some (.ref 45), some (.int (mk S)), some (.int (nI a)), some (.int (nI b)), some (.int (nI (q.getD k 0))), none, none], [.int (nI (q.getD k 0)), .ref 62, .int (mk (cutE H a b (q.getD k 0))), .ref 45], s5)) rfl ?_
    refine xQ.iald rfl (k := (q.getD k 0)) (rfl) (⟨by omega, by omega⟩) rfl ?_
    show xQ MX8_placeCycle (98, [some (.ref 45), some (.int (mk S)), some (.int (nI a)), some (.int (nI b)), some (.int (nI (q.getD k 0))), none, none], [.int (s5.1 62 (q.getD k 0)), .int (mk (cutE H a b (q.getD k 0))), .ref 45], s5) _
    have d5 : dB s5 d := fun v hv => (xkq_at k5 62 v).trans (i4 v hv)
    rw [d5 _ hv10, s1]
    refine xQ.go 2 (F1 := (100, [some (.ref 45), some (.int (mk S)), some (.int (nI a)), some (.int (nI b)), some (.int (nI (q.getD k 0))), none, none], [.int ((nI (inn.length + 1 - k)) - 1), .int (mk (cutE H a b (q.getD k 0))), .ref 45], s5)) rfl ?_
    rw [show (nI (inn.length + 1 - k) - 1 : Int32) = nI (inn.length - k) by rw [show inn.length + 1 - k = (inn.length - k) + 1 by omega]; exact nI_pred _]
    refine xQ.call rfl (m_lowAt d5 hdl (by omega) (by rw [s2]; exact hn10)) ?_
    show xQ MX8_placeCycle (103, [some (.ref 45), some (.int (mk S)), some (.int (nI a)), some (.int (nI b)), some (.int (nI (q.getD k 0))), none, none], [.int (nI (low (fun v => cutE H a b (q.getD k 0) v && decide (d v = inn.length - k))))], s5) _
    rw [s2]
    refine xQ.go 2 (F1 := (70, [some (.ref 45), some (.int (mk S)), some (.int (nI a)), some (.int (nI b)), some (.int (nI (q.getD (k + 1) 0))), none, none], [], s5)) rfl ?_
    have htk : a :: q.take (k + 1) = a :: q.take k ++ [q.getD k 0] := by
      rw [List.take_add_one, getD_of (show k < q.length by omega) 0]
      rfl
    rw [htk] at K
    exact K s5 ⟨f50, fo5 1 [] (by omega) (by simp) i2, iB_kq i3 k5, d5, xkq_trans i5 k5⟩
  · intro s hI
    obtain ⟨i1, i2, i3, i4, i5⟩ := hI
    rw [hqtake] at i1
    rw [hqlast]
    refine xQ.go 3 (F1 := (bif decide ((nI a) = (nI a)) then 108 else 76, [some (.ref 45), some (.int (mk S)), some (.int (nI a)), some (.int (nI b)), some (.int (nI a)), none, none], [], s)) rfl ?_
    refine xQ.brT (decide_eq_true rfl) ?_
    refine xQ.go 4 (F1 := (114, [some (.ref 45), some (.int (mk S)), some (.int (nI a)), some (.int (nI b)), some (.int (nI a)), none, none], [.int (nI a), .ref 55, .int (nI a), .ref 55], s)) rfl ?_
    refine xQ.iald rfl (k := a) (rfl) (⟨by omega, by omega⟩) rfl ?_
    show xQ MX8_placeCycle (115, [some (.ref 45), some (.int (mk S)), some (.int (nI a)), some (.int (nI b)), some (.int (nI a)), none, none], [.int (s.1 55 a), .int (nI a), .ref 55], s) _
    rw [i3 a ha]
    refine xQ.go 3 (F1 := (118, [some (.ref 45), some (.int (mk S)), some (.int (nI a)), some (.int (nI b)), some (.int (nI a)), none, none], [.int (1 <<< ((nI b) &&& 31)), .int (mk (cutE H a b a)), .int (nI a), .ref 55], s)) rfl ?_
    rw [mk_bit hb10]
    refine xQ.go 1 (F1 := (119, [some (.ref 45), some (.int (mk S)), some (.int (nI a)), some (.int (nI b)), some (.int (nI a)), none, none], [.int ((mk (cutE H a b a)) ^^^ (mk (fun u => decide (u = b)))), .int (nI a), .ref 55], s)) rfl ?_
    rw [cut_back hHab hab]
    refine xQ.iast rfl (k := a) (rfl) (⟨by omega, by omega⟩) rfl ?_
    show xQ MX8_placeCycle (120, [some (.ref 45), some (.int (mk S)), some (.int (nI a)), some (.int (nI b)), some (.int (nI a)), none, none], [], (xuI s 55 a (mk (H a)))) _
    refine xQ.go 4 (F1 := (126, [some (.ref 45), some (.int (mk S)), some (.int (nI a)), some (.int (nI b)), some (.int (nI a)), none, none], [.int (nI b), .ref 55, .int (nI b), .ref 55], (xuI s 55 a (mk (H a))))) rfl ?_
    refine xQ.iald rfl (k := b) (rfl) (⟨by omega, by omega⟩) rfl ?_
    show xQ MX8_placeCycle (127, [some (.ref 45), some (.int (mk S)), some (.int (nI a)), some (.int (nI b)), some (.int (nI a)), none, none], [.int ((xuI s 55 a (mk (H a))).1 55 b), .int (nI b), .ref 55], (xuI s 55 a (mk (H a)))) _
    rw [show (xuI s 55 a (mk (H a))).1 55 b = mk (cutE H a b b) by rw [uI1, if_neg (by omega)]; exact i3 b hb10]
    refine xQ.go 3 (F1 := (130, [some (.ref 45), some (.int (mk S)), some (.int (nI a)), some (.int (nI b)), some (.int (nI a)), none, none], [.int (1 <<< ((nI a) &&& 31)), .int (mk (cutE H a b b)), .int (nI b), .ref 55], (xuI s 55 a (mk (H a))))) rfl ?_
    rw [mk_bit ha, cutE_swap]
    refine xQ.go 1 (F1 := (131, [some (.ref 45), some (.int (mk S)), some (.int (nI a)), some (.int (nI b)), some (.int (nI a)), none, none], [.int ((mk (cutE H b a b)) ^^^ (mk (fun u => decide (u = a)))), .int (nI b), .ref 55], (xuI s 55 a (mk (H a))))) rfl ?_
    rw [cut_back hHba (fun h => hab h.symm)]
    refine xQ.iast rfl (k := b) (rfl) (⟨by omega, by omega⟩) rfl ?_
    show xQ MX8_placeCycle (132, [some (.ref 45), some (.int (mk S)), some (.int (nI a)), some (.int (nI b)), some (.int (nI a)), none, none], [], (xuI (xuI s 55 a (mk (H a))) 55 b (mk (H b)))) _
    obtain ⟨t, et⟩ : ∃ t, t = (xuI (xuI s 55 a (mk (H a))) 55 b (mk (H b))) := ⟨_, rfl⟩
    have kt : xkq [(55, none)] s t := by rw [et]; exact xkq_I (xkq_I xkq_rfl rfl) rfl
    have hHt : iB t H := fun v hv => by
      rw [et, uI1]
      by_cases h1 : v = b
      · rw [if_pos ⟨rfl, h1⟩, h1]
      · rw [if_neg (fun h => h1 h.2), uI1]
        by_cases h2 : v = a
        · rw [if_pos ⟨rfl, h2⟩, h2]
        · rw [if_neg (fun h => h2 h.2), i3 v hv, cut_same h2 h1]
    have f0 : fc1 t 0 (cyc0 H S) := fc1_kq i1 kt
    have f1 : fc1 t 1 [] := fc1_kq i2 kt
    have kqt : xkq [(55, none), (57, none), (58, none), (62, none)] w t := xkq_trans (xkq_trans kq4 (xkq_mono rfl i5)) (xkq_mono rfl kt)
    have hPt := pM_kq hP kqt
    rw [← et]
    refine xQ.go 4 (F1 := (138, [some (.ref 45), some (.int (mk S)), some (.int (nI a)), some (.int (nI b)), some (.int (nI a)), none, none], [.int (t.1 57 0)], t)) rfl ?_
    rw [f0.1]
    generalize hcc : cyc0 H S = c at *
    have hc10 : c.length ≤ 10 := by omega
    have hv : ∀ k, k < c.length → c.getD k 0 < 10 := fun k hk => (hcm _ (List.mem_of_getElem? (getD_of hk 0))).1
    refine xQ.go 3 (F1 := (143, [some (.ref 45), some (.int (mk S)), some (.int (nI a)), some (.int (nI b)), some (.int (nI a)), some (.int (nI c.length)), some (.int 0)], [], t)) rfl ?_
    refine xQ.loop (S := xW) (fun k s => (143, [some (.ref 45), some (.int (mk S)), some (.int (nI a)), some (.int (nI b)), some (.int (nI a)), some (.int (nI c.length)), some (.int (nI k))], [], s)) (fun k s => pM s (pC c k) (vC c k) k ∧ fc1 s 0 c ∧ fc1 s 1 (c.reverse.take k) ∧ iB s H ∧ xkq [(45, some 19), (45, some 20), (56, none), (57, none), (58, none)] t s) c.length t (rfl) (⟨hPt, f0, f1, hHt, xkq_rfl⟩) ?_ ?_
    · intro k s hk hI K
      obtain ⟨j1, j2, j3, j4, j5⟩ := hI
      refine xQ.go 3 (F1 := (bif decide ((nI c.length) ≤ (nI k)) then 196 else 150, [some (.ref 45), some (.int (mk S)), some (.int (nI a)), some (.int (nI b)), some (.int (nI a)), some (.int (nI c.length)), some (.int (nI k))], [], s)) rfl ?_
      refine xQ.brF (decide_eq_false (nI_ge hk (by omega))) ?_
      refine xQ.go 9 (F1 := (163, [some (.ref 45), some (.int (mk S)), some (.int (nI a)), some (.int (nI b)), some (.int (nI a)), some (.int (nI c.length)), some (.int (nI k))], [.int (((nI c.length) - 1) - (nI k)), .ref 58, .int 1, .ref 45], s)) rfl ?_
      rw [show (nI c.length - 1 - nI k : Int32) = nI (c.length - 1 - k) by rw [show (nI c.length - 1 : Int32) = nI (c.length - 1) from jI_sub (b := 1) (by omega)]; exact jI_sub (by omega)]
      refine xQ.iald rfl (k := (c.length - 1 - k)) (rfl) (⟨by omega, by omega⟩) rfl ?_
      show xQ MX8_placeCycle (164, [some (.ref 45), some (.int (mk S)), some (.int (nI a)), some (.int (nI b)), some (.int (nI a)), some (.int (nI c.length)), some (.int (nI k))], [.int (s.1 58 (c.length - 1 - k)), .int 1, .ref 45], s) _
      have hr0 := j2.2 (c.length - 1 - k) _ (getD_of (show c.length - 1 - k < c.length by omega) 0)
      rw [Nat.mul_zero, Nat.zero_add] at hr0
      rw [hr0]
      have htl : (c.reverse.take k).length < 10 := by rw [List.length_take, List.length_reverse]; omega
      obtain ⟨r5, s5, hc5, hr5, f50, fo5, k5⟩ := m_addF (w := s) (i := 1) (x := c.getD (c.length - 1 - k) 0) j3 (by omega) htl
      subst hr5
      refine xQ.call rfl (hc5) ?_
      show xQ MX8_placeCycle (167, [some (.ref 45), some (.int (mk S)), some (.int (nI a)), some (.int (nI b)), some (.int (nI a)), some (.int (nI c.length)), some (.int (nI k))], [], s5) _
      have f5c := fo5 0 c (by omega) hc10 j2
      refine xQ.go 4 (F1 := (174, [some (.ref 45), some (.int (mk S)), some (.int (nI a)), some (.int (nI b)), some (.int (nI a)), some (.int (nI c.length)), some (.int (nI k))], [.int (nI k), .ref 58, .ref 45], s5)) rfl ?_
      refine xQ.iald rfl (k := k) (rfl) (⟨by omega, by omega⟩) rfl ?_
      show xQ MX8_placeCycle (175, [some (.ref 45), some (.int (mk S)), some (.int (nI a)), some (.int (nI b)), some (.int (nI a)), some (.int (nI c.length)), some (.int (nI k))], [.int (s5.1 58 k), .ref 45], s5) _
      have hr1 := f5c.2 k _ (getD_of hk 0)
      rw [Nat.mul_zero, Nat.zero_add] at hr1
      rw [hr1]
      have hm := Nat.mod_lt (k + 1) (show 0 < c.length by omega)
      refine xQ.go 6 (F1 := (185, [some (.ref 45), some (.int (mk S)), some (.int (nI a)), some (.int (nI b)), some (.int (nI a)), some (.int (nI c.length)), some (.int (nI k))], [.int (nI c.length), .int ((nI k) + 1), .ref 58, .int (nI (c.getD k 0)), .ref 45], s5)) rfl ?_
      refine xQ.irem rfl (nI_ne0 (by omega) (by omega)) (rem_nI (by omega) (by omega) (by omega)) ?_
      show xQ MX8_placeCycle (186, [some (.ref 45), some (.int (mk S)), some (.int (nI a)), some (.int (nI b)), some (.int (nI a)), some (.int (nI c.length)), some (.int (nI k))], [.int (nI ((k + 1) % c.length)), .ref 58, .int (nI (c.getD k 0)), .ref 45], s5) _
      refine xQ.iald rfl (k := ((k + 1) % c.length)) (rfl) (⟨by omega, by omega⟩) rfl ?_
      show xQ MX8_placeCycle (187, [some (.ref 45), some (.int (mk S)), some (.int (nI a)), some (.int (nI b)), some (.int (nI a)), some (.int (nI c.length)), some (.int (nI k))], [.int (s5.1 58 ((k + 1) % c.length)), .int (nI (c.getD k 0)), .ref 45], s5) _
      have hr2 := f5c.2 ((k + 1) % c.length) _ (getD_of hm 0)
      rw [Nat.mul_zero, Nat.zero_add] at hr2
      rw [hr2]
      have hne : c.getD k 0 ≠ c.getD ((k + 1) % c.length) 0 := fun e => by
        have := nodup_ix hcn (getD_of hk 0) (by rw [e]; exact getD_of hm 0)
        by_cases h : k + 1 < c.length
        · rw [Nat.mod_eq_of_lt h] at this
          omega
        · rw [show k + 1 = c.length by omega, Nat.mod_self] at this
          omega
      obtain ⟨r6, s6, hc6, hr6, g1, g2⟩ := m_plE (w := s5) (pM_kq j1 k5) (hv k hk) (hv _ hm) hne
      subst hr6
      refine xQ.call rfl (hc6) ?_
      show xQ MX8_placeCycle (190, [some (.ref 45), some (.int (mk S)), some (.int (nI a)), some (.int (nI b)), some (.int (nI a)), some (.int (nI c.length)), some (.int (nI k))], [], s6) _
      refine xQ.go 2 (F1 := (143, [some (.ref 45), some (.int (mk S)), some (.int (nI a)), some (.int (nI b)), some (.int (nI a)), some (.int (nI c.length)), some (.int ((nI k) + 1))], [], s6)) rfl ?_
      rw [← nI_succ]
      have hrev : c.reverse.take (k + 1) = c.reverse.take k ++ [c.getD (c.length - 1 - k) 0] := by
        rw [List.take_add_one, List.getElem?_reverse hk, getD_of (show c.length - 1 - k < c.length by omega) 0]
        rfl
      rw [pC_next, vC_next, hrev] at K
      exact K s6 ⟨g1, fc1_kq f5c g2, fc1_kq f50 g2, iB_kq (iB_kq j4 k5) g2, xkq_trans j5 (xkq_trans (xkq_mono rfl k5) (xkq_mono rfl g2))⟩
    · intro s hI
      obtain ⟨j1, j2, j3, j4, j5⟩ := hI
      rw [show c.reverse.take c.length = c.reverse from List.take_of_length_le (by simp)] at j3
      refine xQ.go 3 (F1 := (bif decide ((nI c.length) ≤ (nI c.length)) then 196 else 150, [some (.ref 45), some (.int (mk S)), some (.int (nI a)), some (.int (nI b)), some (.int (nI a)), some (.int (nI c.length)), some (.int (nI c.length))], [], s)) rfl ?_
      refine xQ.brT (decide_eq_true (Int32.le_refl _)) ?_
      refine xQ.go 3 (F1 := (201, [some (.ref 45), some (.int (mk S)), some (.int (nI a)), some (.int (nI b)), some (.int (nI a)), some (.int (nI c.length)), some (.int (nI c.length))], [], (xuI s 45 21 2))) rfl ?_
      refine xQ.vret 1 rfl rfl ?_
      have kf : xkq [(45, some 21)] s (xuI s 45 21 2) := xkq_I xkq_rfl rfl
      have hpm := pM_kq j1 kf
      refine ⟨rfl, ⟨fun v hv => ?_, ?_, hpm.2.2⟩, by rw [uI1, if_pos ⟨rfl, rfl⟩]; rfl, fc1_kq j2 kf, fc1_kq j3 kf, iB_kq j4 kf, xkq_trans (xkq_mono rfl kqt) (xkq_trans (xkq_mono rfl j5) (xkq_mono rfl kf))⟩
      · rw [hpm.1 v hv]
        exact mk_ext fun u _ => pC_all v u
      · rw [hpm.2.1]
        exact mk_ext fun u _ => vC_all u
