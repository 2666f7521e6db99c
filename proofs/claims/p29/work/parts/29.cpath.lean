theorem mk_tb (C : Nat → Bool) : mk (tb (mk C)) = mk C := mk_ext fun _ hv => tb_mk' C hv
theorem FOK_mk {H : Nat → Nat → Bool} {S : Nat → Bool} {P : Nat → Nat → Bool} {PV : Nat → Bool} {q : xFr} (h : FOK H S P PV q) : mk (tb q.1) = q.1 ∧ mk (tb q.2) = q.2 := by
  rcases h with ⟨h0, a, b, _, _, _, _, _, _, h1⟩ | ⟨x, _, _, _, h3, h4⟩
  · rw [h0, h1]
    exact ⟨by rw [mk_0]; exact mk_tb _, mk_tb _⟩
  · rw [h3, h4]
    exact ⟨mk_tb _, mk_tb _⟩
theorem FOK_con {H : Nat → Nat → Bool} {S : Nat → Bool} {P : Nat → Nat → Bool} {PV : Nat → Bool} {q : xFr} (h : FOK H S P PV q) {v : Nat} (hv : v < 10) (ht : tb q.2 v = true) : PV v = true := by
  rcases h with ⟨_, a, b, _, _, _, _, h2, h3, h1⟩ | ⟨x, _, _, _, _, h4⟩
  · rw [h1, tb_mk' _ hv] at ht
    rcases two_iff.mp ht with e | e <;> rw [e] <;> assumption
  · rw [h4, tb_mk' _ hv] at ht
    exact ((Bool.and_eq_true _ _).mp ht).2
theorem PTH_len {H : Nat → Nat → Bool} {S : Nat → Bool} {P : Nat → Nat → Bool} {PV : Nat → Bool} {q : xFr} {u z : Nat} {inn : List Nat} (hq : FOK H S P PV q) (h : PTH H S P PV q u inn z) : inn.length ≤ 8 := by
  obtain ⟨_, _, h3, h4, h5, h6, h7, h8, h9, _⟩ := h
  have hn : (u :: z :: inn).Nodup := by
    have f1 := FOK_con hq h3 h6
    have f2 := FOK_con hq h4 h7
    refine List.nodup_cons.mpr ⟨fun hm => ?_, List.nodup_cons.mpr ⟨fun hm => ?_, h8⟩⟩
    · rcases List.mem_cons.mp hm with e | e
      · exact h5 e
      · rw [(h9 u e).2.1] at f1; cases f1
    · rw [(h9 z hm).2.1] at f2; cases f2
  have hc := cnt_list hn (fun v hv => by
    rcases List.mem_cons.mp hv with e | e
    · omega
    · rcases List.mem_cons.mp e with e | e
      · omega
      · exact (h9 v e).1)
  have := cnt_le (fun v => decide (v ∈ u :: z :: inn)) 10
  rw [hc] at this
  simp only [List.length_cons] at this
  omega
theorem c_cpath_p {w : xW} {H : Nat → Nat → Bool} {S : Nat → Bool} {P : Nat → Nat → Bool} {PV : Nat → Bool} {L : List (List Nat)} {q : xFr} {u z : Nat} {inn : List Nat} (hb : BIC H S) (hG : eG 18 19 w H S) (hC : eC 18 w L (some q)) (hq : FOK H S P PV q) (hp : PTH H S P PV q u inn z) : xD MX1_choosePath [.ref 18] w (fun r w1 => r = some (.int 1) ∧ eL 18 23 w1 (pth H q) ∧ xkq [(18, some 14), (23, none), (24, none)] w w1) := by
  have h8 := PTH_len hq hp
  obtain ⟨p1, p2, p3, p4, p5, p6, p7, p8, p9, p10, p11, p12⟩ := hp
  obtain ⟨m1, m2⟩ := FOK_mk hq
  have hlow : low (tb q.2) < 10 := by omega
  refine xD.of ?_
  show xQ MX1_choosePath (0, [some (.ref 18), none, none], [], w) _
  refine xQ.go 2 (F1 := (4, [some (.ref 18), none, none], [.int (w.1 18 10)], w)) rfl ?_
  rw [hC.2.1, ← m2]
  refine xQ.call rfl (c_least hlow) ?_
  show xQ MX1_choosePath (7, [some (.ref 18), none, none], [.int (nI (low (tb q.2)))], w) _
  rw [← p2]
  refine xQ.go 4 (F1 := (13, [some (.ref 18), some (.int (nI u)), none], [.int (nI u), .int (w.1 18 10)], w)) rfl ?_
  refine xQ.call rfl (c_bit p3) ?_
  show xQ MX1_choosePath (16, [some (.ref 18), some (.int (nI u)), none], [.int (mk (fun v => decide (v = u))), .int (w.1 18 10)], w) _
  refine xQ.go 3 (F1 := (19, [some (.ref 18), some (.int (nI u)), none], [.int ((w.1 18 10) &&& ((mk (fun v => decide (v = u))) ^^^ (-1)))], w)) rfl ?_
  rw [hC.2.1, ← m2, mk_andn]
  by_cases h0 : q.1 = 0
  · refine xQ.go 4 (F1 := (bif decide ((w.1 18 9) = 0) then 38 else 27, [some (.ref 18), some (.int (nI u)), some (.int (mk (fun v => tb q.2 v && !decide (v = u))))], [], w)) rfl ?_
    refine xQ.brT (by rw [hC.1, h0]; rfl) ?_
    have hi := p11 h0
    have hpt : pth H q = [u, low (fun v => tb q.2 v && !decide (v = u))] := by
      unfold pth
      rw [if_pos h0, ← p2]
    have hz : low (fun v => tb q.2 v && !decide (v = u)) = z := by
      rw [hpt, hi] at p1
      injection p1 with e1 e2
      injection e2
    refine xQ.go 4 (F1 := (44, [some (.ref 18), some (.int (nI u)), some (.int (mk (fun v => tb q.2 v && !decide (v = u))))], [.int (nI u), .int 0, .ref 23], w)) rfl ?_
    refine xQ.call rfl (c_put rfl (k := 0) (by omega) (by omega)) ?_
    show xQ MX1_choosePath (47, [some (.ref 18), some (.int (nI u)), some (.int (mk (fun v => tb q.2 v && !decide (v = u))))], [], (xuI w 23 0 (nI u))) _
    refine xQ.go 4 (F1 := (53, [some (.ref 18), some (.int (nI u)), some (.int (mk (fun v => tb q.2 v && !decide (v = u))))], [.int (mk (fun v => tb q.2 v && !decide (v = u))), .int 1, .ref 23], (xuI w 23 0 (nI u)))) rfl ?_
    refine xQ.call rfl (c_least (by rw [hz]; exact p4)) ?_
    show xQ MX1_choosePath (56, [some (.ref 18), some (.int (nI u)), some (.int (mk (fun v => tb q.2 v && !decide (v = u))))], [.int (nI (low (fun v => tb q.2 v && !decide (v = u)))), .int 1, .ref 23], (xuI w 23 0 (nI u))) _
    refine xQ.call rfl (c_put rfl (k := 1) (by omega) (by omega)) ?_
    show xQ MX1_choosePath (59, [some (.ref 18), some (.int (nI u)), some (.int (mk (fun v => tb q.2 v && !decide (v = u))))], [], (xuI (xuI w 23 0 (nI u)) 23 1 (nI (low (fun v => tb q.2 v && !decide (v = u)))))) _
    refine xQ.go 4 (F1 := (65, [some (.ref 18), some (.int (nI u)), some (.int (mk (fun v => tb q.2 v && !decide (v = u))))], [.int 1], (xuI (xuI (xuI w 23 0 (nI u)) 23 1 (nI (low (fun v => tb q.2 v && !decide (v = u))))) 18 14 2))) rfl ?_
    refine xQ.iret .boolean 1 rfl rfl (rfl) ?_
    refine ⟨rfl, ⟨?_, ?_⟩, xkq_I (xkq_I (xkq_I xkq_rfl rfl) rfl) rfl⟩
    · rw [hpt]
      simp [uI1]
      rfl
    · rw [hpt]
      intro i x hx
      match i, hx with
      | 0, hx => cases hx; simp [uI1]
      | 1, hx => cases hx; simp [uI1]
  · have hpt : pth H q = u :: dsc H (tb q.1) (fun v => tb q.2 v && !decide (v = u)) (fdep H (tb q.1) (fun v => tb q.2 v && !decide (v = u)) u 9) u := by
      unfold pth
      rw [if_neg h0, ← p2]
    obtain ⟨q1, q2⟩ := p12 h0
    refine xQ.go 4 (F1 := (bif decide ((w.1 18 9) = 0) then 38 else 27, [some (.ref 18), some (.int (nI u)), some (.int (mk (fun v => tb q.2 v && !decide (v = u))))], [], w)) rfl ?_
    refine xQ.brF (by rw [hC.1]; exact decide_eq_false h0) ?_
    refine xQ.go 5 (F1 := (34, [some (.ref 18), some (.int (nI u)), some (.int (mk (fun v => tb q.2 v && !decide (v = u))))], [.int (w.1 18 9), .int (mk (fun v => tb q.2 v && !decide (v = u))), .int (nI u), .ref 18], w)) rfl ?_
    rw [hC.1, ← m1]
    obtain ⟨r2, w2, hc, hr, hl, hk⟩ := c_findPath_p (T := fun v => tb q.2 v && !decide (v = u)) (A := tb q.1) hb.1 hG.1 p3 (by omega) (by omega)
    subst hr
    refine xQ.call rfl (hc) ?_
    show xQ MX1_choosePath (37, [some (.ref 18), some (.int (nI u)), some (.int (mk (fun v => tb q.2 v && !decide (v = u))))], [.int 1], w2) _
    refine xQ.iret .boolean 1 rfl rfl (rfl) ?_
    refine ⟨rfl, ?_, hk⟩
    rw [hpt]
    exact hl

theorem c_cpath_t {w : xW} {H : Nat → Nat → Bool} {S : Nat → Bool} {P : Nat → Nat → Bool} {PV : Nat → Bool} {L : List (List Nat)} {q : xFr} {u z : Nat} {inn : List Nat} (hb : BIC H S) (hG : eG 32 33 w H S) (hC : eC 32 w L (some q)) (hq : FOK H S P PV q) (hp : PTH H S P PV q u inn z) : xD MX1_choosePath [.ref 32] w (fun r w1 => r = some (.int 1) ∧ eL 32 37 w1 (pth H q) ∧ xkq [(32, some 14), (37, none), (38, none)] w w1) := by
  have h8 := PTH_len hq hp
  obtain ⟨p1, p2, p3, p4, p5, p6, p7, p8, p9, p10, p11, p12⟩ := hp
  obtain ⟨m1, m2⟩ := FOK_mk hq
  have hlow : low (tb q.2) < 10 := by omega
  refine xD.of ?_
  show xQ MX1_choosePath (0, [some (.ref 32), none, none], [], w) _
  refine xQ.go 2 (F1 := (4, [some (.ref 32), none, none], [.int (w.1 32 10)], w)) rfl ?_
  rw [hC.2.1, ← m2]
  refine xQ.call rfl (c_least hlow) ?_
  show xQ MX1_choosePath (7, [some (.ref 32), none, none], [.int (nI (low (tb q.2)))], w) _
  rw [← p2]
  refine xQ.go 4 (F1 := (13, [some (.ref 32), some (.int (nI u)), none], [.int (nI u), .int (w.1 32 10)], w)) rfl ?_
  refine xQ.call rfl (c_bit p3) ?_
  show xQ MX1_choosePath (16, [some (.ref 32), some (.int (nI u)), none], [.int (mk (fun v => decide (v = u))), .int (w.1 32 10)], w) _
  refine xQ.go 3 (F1 := (19, [some (.ref 32), some (.int (nI u)), none], [.int ((w.1 32 10) &&& ((mk (fun v => decide (v = u))) ^^^ (-1)))], w)) rfl ?_
  rw [hC.2.1, ← m2, mk_andn]
  by_cases h0 : q.1 = 0
  · refine xQ.go 4 (F1 := (bif decide ((w.1 32 9) = 0) then 38 else 27, [some (.ref 32), some (.int (nI u)), some (.int (mk (fun v => tb q.2 v && !decide (v = u))))], [], w)) rfl ?_
    refine xQ.brT (by rw [hC.1, h0]; rfl) ?_
    have hi := p11 h0
    have hpt : pth H q = [u, low (fun v => tb q.2 v && !decide (v = u))] := by
      unfold pth
      rw [if_pos h0, ← p2]
    have hz : low (fun v => tb q.2 v && !decide (v = u)) = z := by
      rw [hpt, hi] at p1
      injection p1 with e1 e2
      injection e2
    refine xQ.go 4 (F1 := (44, [some (.ref 32), some (.int (nI u)), some (.int (mk (fun v => tb q.2 v && !decide (v = u))))], [.int (nI u), .int 0, .ref 37], w)) rfl ?_
    refine xQ.call rfl (c_put rfl (k := 0) (by omega) (by omega)) ?_
    show xQ MX1_choosePath (47, [some (.ref 32), some (.int (nI u)), some (.int (mk (fun v => tb q.2 v && !decide (v = u))))], [], (xuI w 37 0 (nI u))) _
    refine xQ.go 4 (F1 := (53, [some (.ref 32), some (.int (nI u)), some (.int (mk (fun v => tb q.2 v && !decide (v = u))))], [.int (mk (fun v => tb q.2 v && !decide (v = u))), .int 1, .ref 37], (xuI w 37 0 (nI u)))) rfl ?_
    refine xQ.call rfl (c_least (by rw [hz]; exact p4)) ?_
    show xQ MX1_choosePath (56, [some (.ref 32), some (.int (nI u)), some (.int (mk (fun v => tb q.2 v && !decide (v = u))))], [.int (nI (low (fun v => tb q.2 v && !decide (v = u)))), .int 1, .ref 37], (xuI w 37 0 (nI u))) _
    refine xQ.call rfl (c_put rfl (k := 1) (by omega) (by omega)) ?_
    show xQ MX1_choosePath (59, [some (.ref 32), some (.int (nI u)), some (.int (mk (fun v => tb q.2 v && !decide (v = u))))], [], (xuI (xuI w 37 0 (nI u)) 37 1 (nI (low (fun v => tb q.2 v && !decide (v = u)))))) _
    refine xQ.go 4 (F1 := (65, [some (.ref 32), some (.int (nI u)), some (.int (mk (fun v => tb q.2 v && !decide (v = u))))], [.int 1], (xuI (xuI (xuI w 37 0 (nI u)) 37 1 (nI (low (fun v => tb q.2 v && !decide (v = u))))) 32 14 2))) rfl ?_
    refine xQ.iret .boolean 1 rfl rfl (rfl) ?_
    refine ⟨rfl, ⟨?_, ?_⟩, xkq_I (xkq_I (xkq_I xkq_rfl rfl) rfl) rfl⟩
    · rw [hpt]
      simp [uI1]
      rfl
    · rw [hpt]
      intro i x hx
      match i, hx with
      | 0, hx => cases hx; simp [uI1]
      | 1, hx => cases hx; simp [uI1]
  · have hpt : pth H q = u :: dsc H (tb q.1) (fun v => tb q.2 v && !decide (v = u)) (fdep H (tb q.1) (fun v => tb q.2 v && !decide (v = u)) u 9) u := by
      unfold pth
      rw [if_neg h0, ← p2]
    obtain ⟨q1, q2⟩ := p12 h0
    refine xQ.go 4 (F1 := (bif decide ((w.1 32 9) = 0) then 38 else 27, [some (.ref 32), some (.int (nI u)), some (.int (mk (fun v => tb q.2 v && !decide (v = u))))], [], w)) rfl ?_
    refine xQ.brF (by rw [hC.1]; exact decide_eq_false h0) ?_
    refine xQ.go 5 (F1 := (34, [some (.ref 32), some (.int (nI u)), some (.int (mk (fun v => tb q.2 v && !decide (v = u))))], [.int (w.1 32 9), .int (mk (fun v => tb q.2 v && !decide (v = u))), .int (nI u), .ref 32], w)) rfl ?_
    rw [hC.1, ← m1]
    obtain ⟨r2, w2, hc, hr, hl, hk⟩ := c_findPath_t (T := fun v => tb q.2 v && !decide (v = u)) (A := tb q.1) hb.1 hG.1 p3 (by omega) (by omega)
    subst hr
    refine xQ.call rfl (hc) ?_
    show xQ MX1_choosePath (37, [some (.ref 32), some (.int (nI u)), some (.int (mk (fun v => tb q.2 v && !decide (v = u))))], [.int 1], w2) _
    refine xQ.iret .boolean 1 rfl rfl (rfl) ?_
    refine ⟨rfl, ?_, hk⟩
    rw [hpt]
    exact hl
