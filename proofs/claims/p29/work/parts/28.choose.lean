theorem frAdd_sub {H : Nat → Nat → Bool} {S : Nat → Bool} {P : Nat → Nat → Bool} {PV : Nat → Bool} {l : List xFr} {a b : Nat} {q : xFr} (h : q ∈ l) : q ∈ frAdd H S P PV l a b := by
  unfold frAdd
  split
  · split
    · exact List.mem_append_left _ h
    · split
      · exact h
      · exact List.mem_append_left _ h
  · exact h
theorem chs_pick {L : List (List Nat)} {l : List xFr} (h : ∀ q ∈ l, nfit q.2 L ≠ 0) : chs L l = pick L l := by
  unfold chs
  rw [if_neg]
  · rfl
  · intro e
    obtain ⟨q, hq, e2⟩ := List.any_eq_true.mp e
    exact h q hq (Nat.eq_of_beq_eq_true e2)
theorem chs_no {L : List (List Nat)} {l : List xFr} {q : xFr} (h : q ∈ l) (h0 : nfit q.2 L = 0) : chs L l = none := by
  unfold chs
  rw [if_pos (List.any_eq_true.mpr ⟨q, h, by rw [h0]; rfl⟩)]
theorem c_choose_p {w : xW} {H : Nat → Nat → Bool} {S : Nat → Bool} {P : Nat → Nat → Bool} {PV : Nat → Bool} {E : Nat} {L : List (List Nat)} (hb : BIC H S) (hG : eG 18 19 w H S) (hP : eP 18 20 w P PV E) (hF : eF 18 21 22 w L) (hL : L.length ≤ 16) : xD MX1_chooseFragment [.ref 18] w (fun r w1 => r = some (.int (if (chs L (frs H S P PV 100)).isSome then 1 else 0)) ∧ (∀ q, chs L (frs H S P PV 100) = some q → eC 18 w1 L (some q)) ∧ xkq [(18, some 9), (18, some 10), (18, some 11), (18, some 12)] w w1) := by
  refine xD.of ?_
  show xQ MX1_chooseFragment (0, [some (.ref 18), none, none, none, none, none, none, none, none], [], w) _
  refine xQ.go 10 (F1 := (16, [some (.ref 18), none, none, none, none, none, none, none, none], [.int ((w.1 18 2) &&& ((w.1 18 3) ^^^ (-1)))], (xuI w 18 12 0))) rfl ?_
  rw [hG.2.1, hP.2.1, mk_andn]
  refine xQ.go 5 (F1 := (21, [some (.ref 18), some (.int (mk (fun v => S v && !PV v))), some (.int 0), some (.int 0), none, none, none, none, none], [], (xuI w 18 12 0))) rfl ?_
  refine xQ.loop (S := xW) (fun k s => (21, [some (.ref 18), some (.int (mk (fun v => S v && !PV v))), some (.int (mk (snn (frs H S P PV (10 * k))))), some (.int (nI k)), none, none, none, none, none], [], s)) (fun k s => (∀ q ∈ frs H S P PV (10 * k), nfit q.2 L ≠ 0) ∧ eC 18 s L (pick L (frs H S P PV (10 * k))) ∧ xkq [(18, some 9), (18, some 10), (18, some 11), (18, some 12)] w s) 10 (xuI w 18 12 0) (by rw [show mk (snn (frs H S P PV (10 * 0))) = 0 from mk_0.symm]; rfl) (⟨(fun q hq => by cases hq), by show (xuI w 18 12 0).1 18 12 = 0; simp [uI1], xkq_I xkq_rfl rfl⟩) ?_ ?_
  · intro k s hk hI K
    refine xQ.go 3 (F1 := (bif decide (10 ≤ (nI k)) then 172 else 27, [some (.ref 18), some (.int (mk (fun v => S v && !PV v))), some (.int (mk (snn (frs H S P PV (10 * k))))), some (.int (nI k)), none, none, none, none, none], [], s)) rfl ?_
    refine xQ.brF (decide_eq_false (nI_ge (b := 10) (by omega) (by omega))) ?_
    refine xQ.go 4 (F1 := (32, [some (.ref 18), some (.int (mk (fun v => S v && !PV v))), some (.int (mk (snn (frs H S P PV (10 * k))))), some (.int (nI k)), some (.int ((nI k) + 1)), none, none, none, none], [], s)) rfl ?_
    rw [show nI k + 1 = nI (k + 1) from (nI_succ k).symm]
    have hsk : ∀ n, n = k + 1 → frs H S P PV (10 * k + n) = frs H S P PV (10 * k) := fun n hn => pfold_skip (by omega) (by omega)
    refine xQ.loop (S := xW) (fun k2 s2 => (32, [some (.ref 18), some (.int (mk (fun v => S v && !PV v))), some (.int (mk (snn (frs H S P PV (10 * k + (k + 1 + k2)))))), some (.int (nI k)), some (.int (nI (k + 1 + k2))), none, none, none, none], [], s2)) (fun k2 s2 => (∀ q ∈ frs H S P PV (10 * k + (k + 1 + k2)), nfit q.2 L ≠ 0) ∧ eC 18 s2 L (pick L (frs H S P PV (10 * k + (k + 1 + k2)))) ∧ xkq [(18, some 9), (18, some 10), (18, some 11), (18, some 12)] w s2) (9 - k) s (by rw [hsk (k + 1 + 0) rfl]) (by rw [hsk (k + 1 + 0) rfl]; exact hI) ?_ ?_
    · intro k2 s2 hk2 hI2 K2
      obtain ⟨b, hbe⟩ : ∃ b, b = k + 1 + k2 := ⟨_, rfl⟩
      rw [show k + 1 + (k2 + 1) = b + 1 by omega] at K2
      rw [← hbe] at hI2 ⊢
      obtain ⟨i1, i2, i3⟩ := hI2
      have hfo : ∀ q ∈ frs H S P PV (10 * k + b), FOK H S P PV q := frs_ok hb _ (by omega)
      have hnx : frs H S P PV (10 * k + (b + 1)) = frAdd H S P PV (frs H S P PV (10 * k + b)) k b := pfold_next (by omega) (by omega)
      rw [hnx] at K2
      have hmono : ∀ q ∈ frAdd H S P PV (frs H S P PV (10 * k + b)) k b, q ∈ frs H S P PV 100 := fun q hq => by
        rw [← hnx] at hq
        exact pfold_mono (fun l => q ∈ l) (fun _ _ _ _ _ h => frAdd_sub h) hq 100 (by omega) (Nat.le_refl _)
      generalize frs H S P PV (10 * k + b) = l at *
      have skip : frAdd H S P PV l k b = l → ∀ x y z u : Option Value, xQ MX1_chooseFragment (160, [some (.ref 18), some (.int (mk (fun v => S v && !PV v))), some (.int (mk (snn l))), some (.int (nI k)), some (.int (nI b)), x, y, z, u], [], s2) (fun r w1 => r = some (.int (if (chs L (frs H S P PV 100)).isSome then 1 else 0)) ∧ (∀ q, chs L (frs H S P PV 100) = some q → eC 18 w1 L (some q)) ∧ xkq [(18, some 9), (18, some 10), (18, some 11), (18, some 12)] w w1) := by
        intro hsame x y z u
        refine xQ.less [some (.ref 18), some (.int (mk (fun v => S v && !PV v))), some (.int (mk (snn l))), some (.int (nI k)), some (.int (nI b)), none, none, none, none] (by simp [xleb]) ?_
        refine xQ.go 2 (F1 := (32, [some (.ref 18), some (.int (mk (fun v => S v && !PV v))), some (.int (mk (snn l))), some (.int (nI k)), some (.int ((nI b) + 1)), none, none, none, none], [], s2)) rfl ?_
        rw [← nI_succ]
        rw [hsame] at K2
        exact K2 s2 ⟨i1, i2, i3⟩
      refine xQ.go 3 (F1 := (bif decide (10 ≤ (nI b)) then 166 else 39, [some (.ref 18), some (.int (mk (fun v => S v && !PV v))), some (.int (mk (snn l))), some (.int (nI k)), some (.int (nI b)), none, none, none, none], [], s2)) rfl ?_
      refine xQ.brF (decide_eq_false (nI_ge (b := 10) (by omega) (by omega))) ?_
      refine xQ.go 1 (F1 := (40, [some (.ref 18), some (.int (mk (fun v => S v && !PV v))), some (.int (mk (snn l))), some (.int (nI k)), some (.int (nI b)), none, none, none, none], [.int (nI k)], s2)) rfl ?_
      refine xQ.call rfl (c_bit (show k < 10 by omega)) ?_
      show xQ MX1_chooseFragment (43, [some (.ref 18), some (.int (mk (fun v => S v && !PV v))), some (.int (mk (snn l))), some (.int (nI k)), some (.int (nI b)), none, none, none, none], [.int (mk (fun v => decide (v = k)))], s2) _
      refine xQ.go 1 (F1 := (45, [some (.ref 18), some (.int (mk (fun v => S v && !PV v))), some (.int (mk (snn l))), some (.int (nI k)), some (.int (nI b)), none, none, none, none], [.int (nI b), .int (mk (fun v => decide (v = k)))], s2)) rfl ?_
      refine xQ.call rfl (c_bit (show b < 10 by omega)) ?_
      show xQ MX1_chooseFragment (48, [some (.ref 18), some (.int (mk (fun v => S v && !PV v))), some (.int (mk (snn l))), some (.int (nI k)), some (.int (nI b)), none, none, none, none], [.int (mk (fun v => decide (v = b))), .int (mk (fun v => decide (v = k)))], s2) _
      refine xQ.go 1 (F1 := (49, [some (.ref 18), some (.int (mk (fun v => S v && !PV v))), some (.int (mk (snn l))), some (.int (nI k)), some (.int (nI b)), none, none, none, none], [.int ((mk (fun v => decide (v = k))) ||| (mk (fun v => decide (v = b))))], s2)) rfl ?_
      rw [mk_or, show (fun v => decide (v = k) || decide (v = b)) = two k b from rfl]
      refine xQ.go 4 (F1 := (56, [some (.ref 18), some (.int (mk (fun v => S v && !PV v))), some (.int (mk (snn l))), some (.int (nI k)), some (.int (nI b)), some (.int (mk (two k b))), none, none, none], [.int (nI k), .ref 19], s2)) rfl ?_
      refine xQ.call rfl (c_at rfl (by omega) (by omega)) ?_
      show xQ MX1_chooseFragment (59, [some (.ref 18), some (.int (mk (fun v => S v && !PV v))), some (.int (mk (snn l))), some (.int (nI k)), some (.int (nI b)), some (.int (mk (two k b))), none, none, none], [.int (s2.1 19 k)], s2) _
      rw [xkq_at i3 19 k, hG.1 k (by omega)]
      refine xQ.go 1 (F1 := (61, [some (.ref 18), some (.int (mk (fun v => S v && !PV v))), some (.int (mk (snn l))), some (.int (nI k)), some (.int (nI b)), some (.int (mk (two k b))), none, none, none], [.int (nI b), .int (mk (H k))], s2)) rfl ?_
      refine xQ.call rfl (c_has (show b < 10 by omega)) ?_
      show xQ MX1_chooseFragment (64, [some (.ref 18), some (.int (mk (fun v => S v && !PV v))), some (.int (mk (snn l))), some (.int (nI k)), some (.int (nI b)), some (.int (mk (two k b))), none, none, none], [.int (if H k b then 1 else 0)], s2) _
      refine xQ.go 1 (F1 := (bif decide ((if H k b then 1 else 0) = 0) then 87 else 67, [some (.ref 18), some (.int (mk (fun v => S v && !PV v))), some (.int (mk (snn l))), some (.int (nI k)), some (.int (nI b)), some (.int (mk (two k b))), none, none, none], [], s2)) rfl ?_
      cases hHk : H k b with
      | false =>
        refine xQ.brT (by decide) ?_
        refine xQ.go 4 (F1 := (bif decide (0 = 0) then 160 else 95, [some (.ref 18), some (.int (mk (fun v => S v && !PV v))), some (.int (mk (snn l))), some (.int (nI k)), some (.int (nI b)), some (.int (mk (two k b))), some (.int 0), none, none], [], s2)) rfl ?_
        refine xQ.brT (rfl) ?_
        exact skip (by unfold frAdd; rw [hHk]; rfl) _ _ _ _
      | true =>
        refine xQ.brF (by decide) ?_
        refine xQ.go 3 (F1 := (72, [some (.ref 18), some (.int (mk (fun v => S v && !PV v))), some (.int (mk (snn l))), some (.int (nI k)), some (.int (nI b)), some (.int (mk (two k b))), none, none, none], [.int (nI k), .ref 20], s2)) rfl ?_
        refine xQ.call rfl (c_at rfl (by omega) (by omega)) ?_
        show xQ MX1_chooseFragment (75, [some (.ref 18), some (.int (mk (fun v => S v && !PV v))), some (.int (mk (snn l))), some (.int (nI k)), some (.int (nI b)), some (.int (mk (two k b))), none, none, none], [.int (s2.1 20 k)], s2) _
        rw [xkq_at i3 20 k, hP.1 k (by omega)]
        refine xQ.go 1 (F1 := (77, [some (.ref 18), some (.int (mk (fun v => S v && !PV v))), some (.int (mk (snn l))), some (.int (nI k)), some (.int (nI b)), some (.int (mk (two k b))), none, none, none], [.int (nI b), .int (mk (P k))], s2)) rfl ?_
        refine xQ.call rfl (c_has (show b < 10 by omega)) ?_
        show xQ MX1_chooseFragment (80, [some (.ref 18), some (.int (mk (fun v => S v && !PV v))), some (.int (mk (snn l))), some (.int (nI k)), some (.int (nI b)), some (.int (mk (two k b))), none, none, none], [.int (if P k b then 1 else 0)], s2) _
        refine xQ.go 1 (F1 := (bif !decide ((if P k b then 1 else 0) = 0) then 87 else 83, [some (.ref 18), some (.int (mk (fun v => S v && !PV v))), some (.int (mk (snn l))), some (.int (nI k)), some (.int (nI b)), some (.int (mk (two k b))), none, none, none], [], s2)) rfl ?_
        cases hPk : P k b with
        | true =>
          refine xQ.brT (by decide) ?_
          refine xQ.go 4 (F1 := (bif decide (0 = 0) then 160 else 95, [some (.ref 18), some (.int (mk (fun v => S v && !PV v))), some (.int (mk (snn l))), some (.int (nI k)), some (.int (nI b)), some (.int (mk (two k b))), some (.int 0), none, none], [], s2)) rfl ?_
          refine xQ.brT (rfl) ?_
          exact skip (by unfold frAdd; rw [hHk, hPk]; rfl) _ _ _ _
        | false =>
          refine xQ.brF (by decide) ?_
          refine xQ.go 5 (F1 := (bif decide (1 = 0) then 160 else 95, [some (.ref 18), some (.int (mk (fun v => S v && !PV v))), some (.int (mk (snn l))), some (.int (nI k)), some (.int (nI b)), some (.int (mk (two k b))), some (.int 1), none, none], [], s2)) rfl ?_
          refine xQ.brF (rfl) ?_
          obtain ⟨fa, fb⟩ := frAdd_class hb hfo (show k < b by omega) (by omega) hHk hPk
          refine xQ.go 4 (F1 := (bif !decide (((mk (two k b)) &&& (mk (snn l))) = 0) then 160 else 102, [some (.ref 18), some (.int (mk (fun v => S v && !PV v))), some (.int (mk (snn l))), some (.int (nI k)), some (.int (nI b)), some (.int (mk (two k b))), some (.int 1), none, none], [], s2)) rfl ?_
          rw [mk_and]
          cases hm : meet (two k b) (snn l) with
          | true =>
            refine xQ.brT ?_ ?_
            · obtain ⟨z, z1, z2, z3⟩ := meet_iff.mp hm
              rw [decide_eq_false]
              · rfl
              · intro e
                have := mk_zero.mp e z z1
                rw [z2, z3] at this
                cases this
            exact skip (fa hm) _ _ _ _
          | false =>
            refine xQ.brF ?_ ?_
            · rw [decide_eq_true]
              · rfl
              · refine mk_zero.mpr (fun z hz => ?_)
                cases hq : (two k b z && snn l z) with
                | false => rfl
                | true =>
                  rw [Bool.and_eq_true] at hq
                  rw [meet_iff.mpr ⟨z, hz, hq.1, hq.2⟩] at hm
                  cases hm
            have fb := fb hm
            rw [fb] at K2 hmono
            refine xQ.go 5 (F1 := (110, [some (.ref 18), some (.int (mk (fun v => S v && !PV v))), some (.int (mk (snn l))), some (.int (nI k)), some (.int (nI b)), some (.int (mk (two k b))), some (.int 1), none, none], [.int ((mk (two k b)) &&& (mk (fun v => S v && !PV v))), .ref 19], s2)) rfl ?_
            rw [mk_and]
            refine xQ.go 1 (F1 := (111, [some (.ref 18), some (.int (mk (fun v => S v && !PV v))), some (.int (mk (snn l))), some (.int (nI k)), some (.int (nI b)), some (.int (mk (two k b))), some (.int 1), none, none], [.int (mk (fun v => S v && !PV v)), .int (mk (fun v => two k b v && (S v && !PV v))), .ref 19], s2)) rfl ?_
            refine xQ.call rfl (c_reach rfl (fun v hv => by rw [xkq_at i3 19 v]; exact hG.1 v hv)) ?_
            show xQ MX1_chooseFragment (114, [some (.ref 18), some (.int (mk (fun v => S v && !PV v))), some (.int (mk (snn l))), some (.int (nI k)), some (.int (nI b)), some (.int (mk (two k b))), some (.int 1), none, none], [.int (mk (cpo H S PV k b))], s2) _
            have com : ∀ (C : Nat → Bool), mk C = mk (if mk (cpo H S PV k b) = 0 then two k b else fun v => nb H (cpo H S PV k b) v && PV v) → xQ MX1_chooseFragment (140, [some (.ref 18), some (.int (mk (fun v => S v && !PV v))), some (.int (mk (snn l))), some (.int (nI k)), some (.int (nI b)), some (.int (mk (two k b))), some (.int 1), some (.int (mk (cpo H S PV k b))), none], [.int (mk C)], s2) (fun r w1 => r = some (.int (if (chs L (frs H S P PV 100)).isSome then 1 else 0)) ∧ (∀ q, chs L (frs H S P PV 100) = some q → eC 18 w1 L (some q)) ∧ xkq [(18, some 9), (18, some 10), (18, some 11), (18, some 12)] w w1) := by
              intro C hC
              rw [← hC] at K2 hmono
              refine xQ.go 5 (F1 := (147, [some (.ref 18), some (.int (mk (fun v => S v && !PV v))), some (.int ((mk (snn l)) ||| (mk (cpo H S PV k b)))), some (.int (nI k)), some (.int (nI b)), some (.int (mk (two k b))), some (.int 1), some (.int (mk (cpo H S PV k b))), some (.int (mk C))], [], s2)) rfl ?_
              have es : mk (snn l) ||| mk (cpo H S PV k b) = mk (snn (l ++ [(mk (cpo H S PV k b), mk C)])) := by
                rw [mk_or]
                exact mk_ext fun v hv => by rw [snn_add, tb_mk' _ hv]
              rw [es]
              obtain ⟨r2, w2, hc, hr2, hw2, hk3⟩ := c_weigh_p (w := s2) (x := mk (cpo H S PV k b)) (C := C) ⟨(xkq_at i3 18 8).trans hF.1, fun i c hi => ⟨(xkq_at i3 21 i).trans (hF.2 i c hi).1, fun x y hxy => (xkq_at i3 22 _).trans ((hF.2 i c hi).2 x y hxy)⟩⟩ hL i2
              subst hr2
              refine xQ.go 3 (F1 := (152, [some (.ref 18), some (.int (mk (fun v => S v && !PV v))), some (.int (mk (snn (l ++ [(mk (cpo H S PV k b), mk C)])))), some (.int (nI k)), some (.int (nI b)), some (.int (mk (two k b))), some (.int 1), some (.int (mk (cpo H S PV k b))), some (.int (mk C))], [.int (mk C), .int (mk (cpo H S PV k b)), .ref 18], s2)) rfl ?_
              refine xQ.call rfl (hc) ?_
              show xQ MX1_chooseFragment (155, [some (.ref 18), some (.int (mk (fun v => S v && !PV v))), some (.int (mk (snn (l ++ [(mk (cpo H S PV k b), mk C)])))), some (.int (nI k)), some (.int (nI b)), some (.int (mk (two k b))), some (.int 1), some (.int (mk (cpo H S PV k b))), some (.int (mk C))], [.int (if nfit (mk C) L = 0 then 0 else 1)], w2) _
              by_cases hn : nfit (mk C) L = 0
              · rw [if_pos hn]
                refine xQ.go 1 (F1 := (bif !decide (0 = 0) then 160 else 158, [some (.ref 18), some (.int (mk (fun v => S v && !PV v))), some (.int (mk (snn (l ++ [(mk (cpo H S PV k b), mk C)])))), some (.int (nI k)), some (.int (nI b)), some (.int (mk (two k b))), some (.int 1), some (.int (mk (cpo H S PV k b))), some (.int (mk C))], [], w2)) rfl ?_
                refine xQ.brF (rfl) ?_
                refine xQ.go 1 (F1 := (159, [some (.ref 18), some (.int (mk (fun v => S v && !PV v))), some (.int (mk (snn (l ++ [(mk (cpo H S PV k b), mk C)])))), some (.int (nI k)), some (.int (nI b)), some (.int (mk (two k b))), some (.int 1), some (.int (mk (cpo H S PV k b))), some (.int (mk C))], [.int 0], w2)) rfl ?_
                refine xQ.iret .boolean 1 rfl rfl (rfl) ?_
                have hno := chs_no (hmono _ (List.mem_append_right _ List.mem_cons_self)) hn
                rw [hno]
                exact ⟨rfl, (fun q hq => by cases hq), xkq_trans i3 hk3⟩
              · rw [if_neg hn]
                refine xQ.go 1 (F1 := (bif !decide (1 = 0) then 160 else 158, [some (.ref 18), some (.int (mk (fun v => S v && !PV v))), some (.int (mk (snn (l ++ [(mk (cpo H S PV k b), mk C)])))), some (.int (nI k)), some (.int (nI b)), some (.int (mk (two k b))), some (.int 1), some (.int (mk (cpo H S PV k b))), some (.int (mk C))], [], w2)) rfl ?_
                refine xQ.brT (rfl) ?_
                refine xQ.less [some (.ref 18), some (.int (mk (fun v => S v && !PV v))), some (.int (mk (snn (l ++ [(mk (cpo H S PV k b), mk C)])))), some (.int (nI k)), some (.int (nI b)), none, none, none, none] (by simp [xleb]) ?_
                refine xQ.go 2 (F1 := (32, [some (.ref 18), some (.int (mk (fun v => S v && !PV v))), some (.int (mk (snn (l ++ [(mk (cpo H S PV k b), mk C)])))), some (.int (nI k)), some (.int ((nI b) + 1)), none, none, none, none], [], w2)) rfl ?_
                rw [← nI_succ]
                refine K2 w2 ⟨fun q hq => ?_, hw2 hn, xkq_trans i3 hk3⟩
                rcases List.mem_append.mp hq with h | h
                · exact i1 q h
                · rw [List.mem_singleton.mp h]
                  exact hn
            by_cases hz : mk (cpo H S PV k b) = 0
            · refine xQ.go 3 (F1 := (bif !decide ((mk (cpo H S PV k b)) = 0) then 126 else 121, [some (.ref 18), some (.int (mk (fun v => S v && !PV v))), some (.int (mk (snn l))), some (.int (nI k)), some (.int (nI b)), some (.int (mk (two k b))), some (.int 1), some (.int (mk (cpo H S PV k b))), none], [], s2)) rfl ?_
              refine xQ.brF (by rw [hz]; rfl) ?_
              refine xQ.go 2 (F1 := (140, [some (.ref 18), some (.int (mk (fun v => S v && !PV v))), some (.int (mk (snn l))), some (.int (nI k)), some (.int (nI b)), some (.int (mk (two k b))), some (.int 1), some (.int (mk (cpo H S PV k b))), none], [.int (mk (two k b))], s2)) rfl ?_
              exact com _ (by rw [if_pos hz])
            · refine xQ.go 3 (F1 := (bif !decide ((mk (cpo H S PV k b)) = 0) then 126 else 121, [some (.ref 18), some (.int (mk (fun v => S v && !PV v))), some (.int (mk (snn l))), some (.int (nI k)), some (.int (nI b)), some (.int (mk (two k b))), some (.int 1), some (.int (mk (cpo H S PV k b))), none], [], s2)) rfl ?_
              refine xQ.brT (by rw [decide_eq_false hz]; rfl) ?_
              refine xQ.go 3 (F1 := (132, [some (.ref 18), some (.int (mk (fun v => S v && !PV v))), some (.int (mk (snn l))), some (.int (nI k)), some (.int (nI b)), some (.int (mk (two k b))), some (.int 1), some (.int (mk (cpo H S PV k b))), none], [.int (mk (cpo H S PV k b)), .ref 19], s2)) rfl ?_
              refine xQ.call rfl (c_around rfl (fun v hv => by rw [xkq_at i3 19 v]; exact hG.1 v hv)) ?_
              show xQ MX1_chooseFragment (135, [some (.ref 18), some (.int (mk (fun v => S v && !PV v))), some (.int (mk (snn l))), some (.int (nI k)), some (.int (nI b)), some (.int (mk (two k b))), some (.int 1), some (.int (mk (cpo H S PV k b))), none], [.int (mk (nb H (cpo H S PV k b)))], s2) _
              refine xQ.go 3 (F1 := (140, [some (.ref 18), some (.int (mk (fun v => S v && !PV v))), some (.int (mk (snn l))), some (.int (nI k)), some (.int (nI b)), some (.int (mk (two k b))), some (.int 1), some (.int (mk (cpo H S PV k b))), none], [.int ((mk (nb H (cpo H S PV k b))) &&& (s2.1 18 3))], s2)) rfl ?_
              rw [xkq_at i3 18 3, hP.2.1, mk_and]
              exact com _ (by rw [if_neg hz])
    · intro s2 hI2
      rw [show 10 * k + (k + 1 + (9 - k)) = 10 * (k + 1) by omega, show k + 1 + (9 - k) = 10 by omega] at *
      refine xQ.go 3 (F1 := (bif decide (10 ≤ (nI 10)) then 166 else 39, [some (.ref 18), some (.int (mk (fun v => S v && !PV v))), some (.int (mk (snn (frs H S P PV (10 * (k + 1)))))), some (.int (nI k)), some (.int (nI 10)), none, none, none, none], [], s2)) rfl ?_
      refine xQ.brT (rfl) ?_
      refine xQ.less [some (.ref 18), some (.int (mk (fun v => S v && !PV v))), some (.int (mk (snn (frs H S P PV (10 * (k + 1)))))), some (.int (nI k)), none, none, none, none, none] (by simp [xleb]) ?_
      refine xQ.go 2 (F1 := (21, [some (.ref 18), some (.int (mk (fun v => S v && !PV v))), some (.int (mk (snn (frs H S P PV (10 * (k + 1)))))), some (.int ((nI k) + 1)), none, none, none, none, none], [], s2)) rfl ?_
      rw [← nI_succ]
      exact K s2 hI2
  · intro s hI
    obtain ⟨i1, i2, i3⟩ := hI
    refine xQ.go 3 (F1 := (bif decide (10 ≤ (nI 10)) then 172 else 27, [some (.ref 18), some (.int (mk (fun v => S v && !PV v))), some (.int (mk (snn (frs H S P PV (10 * 10))))), some (.int (nI 10)), none, none, none, none, none], [], s)) rfl ?_
    refine xQ.brT (rfl) ?_
    rw [← chs_pick i1] at i2
    show xQ MX1_chooseFragment _ (fun r w1 => r = some (.int (if (chs L (frs H S P PV (10 * 10))).isSome then 1 else 0)) ∧ (∀ q, chs L (frs H S P PV (10 * 10)) = some q → eC 18 w1 L (some q)) ∧ xkq [(18, some 9), (18, some 10), (18, some 11), (18, some 12)] w w1)
    refine xQ.go 3 (F1 := (bif decide ((s.1 18 12) ≤ 0) then 183 else 179, [some (.ref 18), some (.int (mk (fun v => S v && !PV v))), some (.int (mk (snn (frs H S P PV (10 * 10))))), some (.int (nI 10)), none, none, none, none, none], [], s)) rfl ?_
    cases hc : chs L (frs H S P PV (10 * 10)) with
    | none =>
      rw [hc] at i2
      refine xQ.brT (by rw [show s.1 18 12 = 0 from i2]; rfl) ?_
      refine xQ.go 1 (F1 := (184, [some (.ref 18), some (.int (mk (fun v => S v && !PV v))), some (.int (mk (snn (frs H S P PV (10 * 10))))), some (.int (nI 10)), none, none, none, none, none], [.int 0], s)) rfl ?_
      refine xQ.iret .boolean 1 rfl rfl (rfl) ?_
      exact ⟨rfl, (fun q hq => by cases hq), i3⟩
    | some q =>
      rw [hc] at i2
      have hle : nfit q.2 L ≤ 16 := Nat.le_trans (List.length_filter_le _ _) hL
      have h0 := i2.2.2.2.2
      refine xQ.brF (by rw [i2.2.2.2.1]; exact decide_eq_false (nI_ge (a := 0) (by omega) (by omega))) ?_
      refine xQ.go 2 (F1 := (184, [some (.ref 18), some (.int (mk (fun v => S v && !PV v))), some (.int (mk (snn (frs H S P PV (10 * 10))))), some (.int (nI 10)), none, none, none, none, none], [.int 1], s)) rfl ?_
      refine xQ.iret .boolean 1 rfl rfl (rfl) ?_
      exact ⟨rfl, fun q2 hq => by cases hq; exact i2, i3⟩

theorem c_choose_t {w : xW} {H : Nat → Nat → Bool} {S : Nat → Bool} {P : Nat → Nat → Bool} {PV : Nat → Bool} {E : Nat} {L : List (List Nat)} (hb : BIC H S) (hG : eG 32 33 w H S) (hP : eP 32 34 w P PV E) (hF : eF 32 35 36 w L) (hL : L.length ≤ 16) : xD MX1_chooseFragment [.ref 32] w (fun r w1 => r = some (.int (if (chs L (frs H S P PV 100)).isSome then 1 else 0)) ∧ (∀ q, chs L (frs H S P PV 100) = some q → eC 32 w1 L (some q)) ∧ xkq [(32, some 9), (32, some 10), (32, some 11), (32, some 12)] w w1) := by
  refine xD.of ?_
  show xQ MX1_chooseFragment (0, [some (.ref 32), none, none, none, none, none, none, none, none], [], w) _
  refine xQ.go 10 (F1 := (16, [some (.ref 32), none, none, none, none, none, none, none, none], [.int ((w.1 32 2) &&& ((w.1 32 3) ^^^ (-1)))], (xuI w 32 12 0))) rfl ?_
  rw [hG.2.1, hP.2.1, mk_andn]
  refine xQ.go 5 (F1 := (21, [some (.ref 32), some (.int (mk (fun v => S v && !PV v))), some (.int 0), some (.int 0), none, none, none, none, none], [], (xuI w 32 12 0))) rfl ?_
  refine xQ.loop (S := xW) (fun k s => (21, [some (.ref 32), some (.int (mk (fun v => S v && !PV v))), some (.int (mk (snn (frs H S P PV (10 * k))))), some (.int (nI k)), none, none, none, none, none], [], s)) (fun k s => (∀ q ∈ frs H S P PV (10 * k), nfit q.2 L ≠ 0) ∧ eC 32 s L (pick L (frs H S P PV (10 * k))) ∧ xkq [(32, some 9), (32, some 10), (32, some 11), (32, some 12)] w s) 10 (xuI w 32 12 0) (by rw [show mk (snn (frs H S P PV (10 * 0))) = 0 from mk_0.symm]; rfl) (⟨(fun q hq => by cases hq), by show (xuI w 32 12 0).1 32 12 = 0; simp [uI1], xkq_I xkq_rfl rfl⟩) ?_ ?_
  · intro k s hk hI K
    refine xQ.go 3 (F1 := (bif decide (10 ≤ (nI k)) then 172 else 27, [some (.ref 32), some (.int (mk (fun v => S v && !PV v))), some (.int (mk (snn (frs H S P PV (10 * k))))), some (.int (nI k)), none, none, none, none, none], [], s)) rfl ?_
    refine xQ.brF (decide_eq_false (nI_ge (b := 10) (by omega) (by omega))) ?_
    refine xQ.go 4 (F1 := (32, [some (.ref 32), some (.int (mk (fun v => S v && !PV v))), some (.int (mk (snn (frs H S P PV (10 * k))))), some (.int (nI k)), some (.int ((nI k) + 1)), none, none, none, none], [], s)) rfl ?_
    rw [show nI k + 1 = nI (k + 1) from (nI_succ k).symm]
    have hsk : ∀ n, n = k + 1 → frs H S P PV (10 * k + n) = frs H S P PV (10 * k) := fun n hn => pfold_skip (by omega) (by omega)
    refine xQ.loop (S := xW) (fun k2 s2 => (32, [some (.ref 32), some (.int (mk (fun v => S v && !PV v))), some (.int (mk (snn (frs H S P PV (10 * k + (k + 1 + k2)))))), some (.int (nI k)), some (.int (nI (k + 1 + k2))), none, none, none, none], [], s2)) (fun k2 s2 => (∀ q ∈ frs H S P PV (10 * k + (k + 1 + k2)), nfit q.2 L ≠ 0) ∧ eC 32 s2 L (pick L (frs H S P PV (10 * k + (k + 1 + k2)))) ∧ xkq [(32, some 9), (32, some 10), (32, some 11), (32, some 12)] w s2) (9 - k) s (by rw [hsk (k + 1 + 0) rfl]) (by rw [hsk (k + 1 + 0) rfl]; exact hI) ?_ ?_
    · intro k2 s2 hk2 hI2 K2
      obtain ⟨b, hbe⟩ : ∃ b, b = k + 1 + k2 := ⟨_, rfl⟩
      rw [show k + 1 + (k2 + 1) = b + 1 by omega] at K2
      rw [← hbe] at hI2 ⊢
      obtain ⟨i1, i2, i3⟩ := hI2
      have hfo : ∀ q ∈ frs H S P PV (10 * k + b), FOK H S P PV q := frs_ok hb _ (by omega)
      have hnx : frs H S P PV (10 * k + (b + 1)) = frAdd H S P PV (frs H S P PV (10 * k + b)) k b := pfold_next (by omega) (by omega)
      rw [hnx] at K2
      have hmono : ∀ q ∈ frAdd H S P PV (frs H S P PV (10 * k + b)) k b, q ∈ frs H S P PV 100 := fun q hq => by
        rw [← hnx] at hq
        exact pfold_mono (fun l => q ∈ l) (fun _ _ _ _ _ h => frAdd_sub h) hq 100 (by omega) (Nat.le_refl _)
      generalize frs H S P PV (10 * k + b) = l at *
      have skip : frAdd H S P PV l k b = l → ∀ x y z u : Option Value, xQ MX1_chooseFragment (160, [some (.ref 32), some (.int (mk (fun v => S v && !PV v))), some (.int (mk (snn l))), some (.int (nI k)), some (.int (nI b)), x, y, z, u], [], s2) (fun r w1 => r = some (.int (if (chs L (frs H S P PV 100)).isSome then 1 else 0)) ∧ (∀ q, chs L (frs H S P PV 100) = some q → eC 32 w1 L (some q)) ∧ xkq [(32, some 9), (32, some 10), (32, some 11), (32, some 12)] w w1) := by
        intro hsame x y z u
        refine xQ.less [some (.ref 32), some (.int (mk (fun v => S v && !PV v))), some (.int (mk (snn l))), some (.int (nI k)), some (.int (nI b)), none, none, none, none] (by simp [xleb]) ?_
        refine xQ.go 2 (F1 := (32, [some (.ref 32), some (.int (mk (fun v => S v && !PV v))), some (.int (mk (snn l))), some (.int (nI k)), some (.int ((nI b) + 1)), none, none, none, none], [], s2)) rfl ?_
        rw [← nI_succ]
        rw [hsame] at K2
        exact K2 s2 ⟨i1, i2, i3⟩
      refine xQ.go 3 (F1 := (bif decide (10 ≤ (nI b)) then 166 else 39, [some (.ref 32), some (.int (mk (fun v => S v && !PV v))), some (.int (mk (snn l))), some (.int (nI k)), some (.int (nI b)), none, none, none, none], [], s2)) rfl ?_
      refine xQ.brF (decide_eq_false (nI_ge (b := 10) (by omega) (by omega))) ?_
      refine xQ.go 1 (F1 := (40, [some (.ref 32), some (.int (mk (fun v => S v && !PV v))), some (.int (mk (snn l))), some (.int (nI k)), some (.int (nI b)), none, none, none, none], [.int (nI k)], s2)) rfl ?_
      refine xQ.call rfl (c_bit (show k < 10 by omega)) ?_
      show xQ MX1_chooseFragment (43, [some (.ref 32), some (.int (mk (fun v => S v && !PV v))), some (.int (mk (snn l))), some (.int (nI k)), some (.int (nI b)), none, none, none, none], [.int (mk (fun v => decide (v = k)))], s2) _
      refine xQ.go 1 (F1 := (45, [some (.ref 32), some (.int (mk (fun v => S v && !PV v))), some (.int (mk (snn l))), some (.int (nI k)), some (.int (nI b)), none, none, none, none], [.int (nI b), .int (mk (fun v => decide (v = k)))], s2)) rfl ?_
      refine xQ.call rfl (c_bit (show b < 10 by omega)) ?_
      show xQ MX1_chooseFragment (48, [some (.ref 32), some (.int (mk (fun v => S v && !PV v))), some (.int (mk (snn l))), some (.int (nI k)), some (.int (nI b)), none, none, none, none], [.int (mk (fun v => decide (v = b))), .int (mk (fun v => decide (v = k)))], s2) _
      refine xQ.go 1 (F1 := (49, [some (.ref 32), some (.int (mk (fun v => S v && !PV v))), some (.int (mk (snn l))), some (.int (nI k)), some (.int (nI b)), none, none, none, none], [.int ((mk (fun v => decide (v = k))) ||| (mk (fun v => decide (v = b))))], s2)) rfl ?_
      rw [mk_or, show (fun v => decide (v = k) || decide (v = b)) = two k b from rfl]
      refine xQ.go 4 (F1 := (56, [some (.ref 32), some (.int (mk (fun v => S v && !PV v))), some (.int (mk (snn l))), some (.int (nI k)), some (.int (nI b)), some (.int (mk (two k b))), none, none, none], [.int (nI k), .ref 33], s2)) rfl ?_
      refine xQ.call rfl (c_at rfl (by omega) (by omega)) ?_
      show xQ MX1_chooseFragment (59, [some (.ref 32), some (.int (mk (fun v => S v && !PV v))), some (.int (mk (snn l))), some (.int (nI k)), some (.int (nI b)), some (.int (mk (two k b))), none, none, none], [.int (s2.1 33 k)], s2) _
      rw [xkq_at i3 33 k, hG.1 k (by omega)]
      refine xQ.go 1 (F1 := (61, [some (.ref 32), some (.int (mk (fun v => S v && !PV v))), some (.int (mk (snn l))), some (.int (nI k)), some (.int (nI b)), some (.int (mk (two k b))), none, none, none], [.int (nI b), .int (mk (H k))], s2)) rfl ?_
      refine xQ.call rfl (c_has (show b < 10 by omega)) ?_
      show xQ MX1_chooseFragment (64, [some (.ref 32), some (.int (mk (fun v => S v && !PV v))), some (.int (mk (snn l))), some (.int (nI k)), some (.int (nI b)), some (.int (mk (two k b))), none, none, none], [.int (if H k b then 1 else 0)], s2) _
      refine xQ.go 1 (F1 := (bif decide ((if H k b then 1 else 0) = 0) then 87 else 67, [some (.ref 32), some (.int (mk (fun v => S v && !PV v))), some (.int (mk (snn l))), some (.int (nI k)), some (.int (nI b)), some (.int (mk (two k b))), none, none, none], [], s2)) rfl ?_
      cases hHk : H k b with
      | false =>
        refine xQ.brT (by decide) ?_
        refine xQ.go 4 (F1 := (bif decide (0 = 0) then 160 else 95, [some (.ref 32), some (.int (mk (fun v => S v && !PV v))), some (.int (mk (snn l))), some (.int (nI k)), some (.int (nI b)), some (.int (mk (two k b))), some (.int 0), none, none], [], s2)) rfl ?_
        refine xQ.brT (rfl) ?_
        exact skip (by unfold frAdd; rw [hHk]; rfl) _ _ _ _
      | true =>
        refine xQ.brF (by decide) ?_
        refine xQ.go 3 (F1 := (72, [some (.ref 32), some (.int (mk (fun v => S v && !PV v))), some (.int (mk (snn l))), some (.int (nI k)), some (.int (nI b)), some (.int (mk (two k b))), none, none, none], [.int (nI k), .ref 34], s2)) rfl ?_
        refine xQ.call rfl (c_at rfl (by omega) (by omega)) ?_
        show xQ MX1_chooseFragment (75, [some (.ref 32), some (.int (mk (fun v => S v && !PV v))), some (.int (mk (snn l))), some (.int (nI k)), some (.int (nI b)), some (.int (mk (two k b))), none, none, none], [.int (s2.1 34 k)], s2) _
        rw [xkq_at i3 34 k, hP.1 k (by omega)]
        refine xQ.go 1 (F1 := (77, [some (.ref 32), some (.int (mk (fun v => S v && !PV v))), some (.int (mk (snn l))), some (.int (nI k)), some (.int (nI b)), some (.int (mk (two k b))), none, none, none], [.int (nI b), .int (mk (P k))], s2)) rfl ?_
        refine xQ.call rfl (c_has (show b < 10 by omega)) ?_
        show xQ MX1_chooseFragment (80, [some (.ref 32), some (.int (mk (fun v => S v && !PV v))), some (.int (mk (snn l))), some (.int (nI k)), some (.int (nI b)), some (.int (mk (two k b))), none, none, none], [.int (if P k b then 1 else 0)], s2) _
        refine xQ.go 1 (F1 := (bif !decide ((if P k b then 1 else 0) = 0) then 87 else 83, [some (.ref 32), some (.int (mk (fun v => S v && !PV v))), some (.int (mk (snn l))), some (.int (nI k)), some (.int (nI b)), some (.int (mk (two k b))), none, none, none], [], s2)) rfl ?_
        cases hPk : P k b with
        | true =>
          refine xQ.brT (by decide) ?_
          refine xQ.go 4 (F1 := (bif decide (0 = 0) then 160 else 95, [some (.ref 32), some (.int (mk (fun v => S v && !PV v))), some (.int (mk (snn l))), some (.int (nI k)), some (.int (nI b)), some (.int (mk (two k b))), some (.int 0), none, none], [], s2)) rfl ?_
          refine xQ.brT (rfl) ?_
          exact skip (by unfold frAdd; rw [hHk, hPk]; rfl) _ _ _ _
        | false =>
          refine xQ.brF (by decide) ?_
          refine xQ.go 5 (F1 := (bif decide (1 = 0) then 160 else 95, [some (.ref 32), some (.int (mk (fun v => S v && !PV v))), some (.int (mk (snn l))), some (.int (nI k)), some (.int (nI b)), some (.int (mk (two k b))), some (.int 1), none, none], [], s2)) rfl ?_
          refine xQ.brF (rfl) ?_
          obtain ⟨fa, fb⟩ := frAdd_class hb hfo (show k < b by omega) (by omega) hHk hPk
          refine xQ.go 4 (F1 := (bif !decide (((mk (two k b)) &&& (mk (snn l))) = 0) then 160 else 102, [some (.ref 32), some (.int (mk (fun v => S v && !PV v))), some (.int (mk (snn l))), some (.int (nI k)), some (.int (nI b)), some (.int (mk (two k b))), some (.int 1), none, none], [], s2)) rfl ?_
          rw [mk_and]
          cases hm : meet (two k b) (snn l) with
          | true =>
            refine xQ.brT ?_ ?_
            · obtain ⟨z, z1, z2, z3⟩ := meet_iff.mp hm
              rw [decide_eq_false]
              · rfl
              · intro e
                have := mk_zero.mp e z z1
                rw [z2, z3] at this
                cases this
            exact skip (fa hm) _ _ _ _
          | false =>
            refine xQ.brF ?_ ?_
            · rw [decide_eq_true]
              · rfl
              · refine mk_zero.mpr (fun z hz => ?_)
                cases hq : (two k b z && snn l z) with
                | false => rfl
                | true =>
                  rw [Bool.and_eq_true] at hq
                  rw [meet_iff.mpr ⟨z, hz, hq.1, hq.2⟩] at hm
                  cases hm
            have fb := fb hm
            rw [fb] at K2 hmono
            refine xQ.go 5 (F1 := (110, [some (.ref 32), some (.int (mk (fun v => S v && !PV v))), some (.int (mk (snn l))), some (.int (nI k)), some (.int (nI b)), some (.int (mk (two k b))), some (.int 1), none, none], [.int ((mk (two k b)) &&& (mk (fun v => S v && !PV v))), .ref 33], s2)) rfl ?_
            rw [mk_and]
            refine xQ.go 1 (F1 := (111, [some (.ref 32), some (.int (mk (fun v => S v && !PV v))), some (.int (mk (snn l))), some (.int (nI k)), some (.int (nI b)), some (.int (mk (two k b))), some (.int 1), none, none], [.int (mk (fun v => S v && !PV v)), .int (mk (fun v => two k b v && (S v && !PV v))), .ref 33], s2)) rfl ?_
            refine xQ.call rfl (c_reach rfl (fun v hv => by rw [xkq_at i3 33 v]; exact hG.1 v hv)) ?_
            show xQ MX1_chooseFragment (114, [some (.ref 32), some (.int (mk (fun v => S v && !PV v))), some (.int (mk (snn l))), some (.int (nI k)), some (.int (nI b)), some (.int (mk (two k b))), some (.int 1), none, none], [.int (mk (cpo H S PV k b))], s2) _
            have com : ∀ (C : Nat → Bool), mk C = mk (if mk (cpo H S PV k b) = 0 then two k b else fun v => nb H (cpo H S PV k b) v && PV v) → xQ MX1_chooseFragment (140, [some (.ref 32), some (.int (mk (fun v => S v && !PV v))), some (.int (mk (snn l))), some (.int (nI k)), some (.int (nI b)), some (.int (mk (two k b))), some (.int 1), some (.int (mk (cpo H S PV k b))), none], [.int (mk C)], s2) (fun r w1 => r = some (.int (if (chs L (frs H S P PV 100)).isSome then 1 else 0)) ∧ (∀ q, chs L (frs H S P PV 100) = some q → eC 32 w1 L (some q)) ∧ xkq [(32, some 9), (32, some 10), (32, some 11), (32, some 12)] w w1) := by
              intro C hC
              rw [← hC] at K2 hmono
              refine xQ.go 5 (F1 := (147, [some (.ref 32), some (.int (mk (fun v => S v && !PV v))), some (.int ((mk (snn l)) ||| (mk (cpo H S PV k b)))), some (.int (nI k)), some (.int (nI b)), some (.int (mk (two k b))), some (.int 1), some (.int (mk (cpo H S PV k b))), some (.int (mk C))], [], s2)) rfl ?_
              have es : mk (snn l) ||| mk (cpo H S PV k b) = mk (snn (l ++ [(mk (cpo H S PV k b), mk C)])) := by
                rw [mk_or]
                exact mk_ext fun v hv => by rw [snn_add, tb_mk' _ hv]
              rw [es]
              obtain ⟨r2, w2, hc, hr2, hw2, hk3⟩ := c_weigh_t (w := s2) (x := mk (cpo H S PV k b)) (C := C) ⟨(xkq_at i3 32 8).trans hF.1, fun i c hi => ⟨(xkq_at i3 35 i).trans (hF.2 i c hi).1, fun x y hxy => (xkq_at i3 36 _).trans ((hF.2 i c hi).2 x y hxy)⟩⟩ hL i2
              subst hr2
              refine xQ.go 3 (F1 := (152, [some (.ref 32), some (.int (mk (fun v => S v && !PV v))), some (.int (mk (snn (l ++ [(mk (cpo H S PV k b), mk C)])))), some (.int (nI k)), some (.int (nI b)), some (.int (mk (two k b))), some (.int 1), some (.int (mk (cpo H S PV k b))), some (.int (mk C))], [.int (mk C), .int (mk (cpo H S PV k b)), .ref 32], s2)) rfl ?_
              refine xQ.call rfl (hc) ?_
              show xQ MX1_chooseFragment (155, [some (.ref 32), some (.int (mk (fun v => S v && !PV v))), some (.int (mk (snn (l ++ [(mk (cpo H S PV k b), mk C)])))), some (.int (nI k)), some (.int (nI b)), some (.int (mk (two k b))), some (.int 1), some (.int (mk (cpo H S PV k b))), some (.int (mk C))], [.int (if nfit (mk C) L = 0 then 0 else 1)], w2) _
              by_cases hn : nfit (mk C) L = 0
              · rw [if_pos hn]
                refine xQ.go 1 (F1 := (bif !decide (0 = 0) then 160 else 158, [some (.ref 32), some (.int (mk (fun v => S v && !PV v))), some (.int (mk (snn (l ++ [(mk (cpo H S PV k b), mk C)])))), some (.int (nI k)), some (.int (nI b)), some (.int (mk (two k b))), some (.int 1), some (.int (mk (cpo H S PV k b))), some (.int (mk C))], [], w2)) rfl ?_
                refine xQ.brF (rfl) ?_
                refine xQ.go 1 (F1 := (159, [some (.ref 32), some (.int (mk (fun v => S v && !PV v))), some (.int (mk (snn (l ++ [(mk (cpo H S PV k b), mk C)])))), some (.int (nI k)), some (.int (nI b)), some (.int (mk (two k b))), some (.int 1), some (.int (mk (cpo H S PV k b))), some (.int (mk C))], [.int 0], w2)) rfl ?_
                refine xQ.iret .boolean 1 rfl rfl (rfl) ?_
                have hno := chs_no (hmono _ (List.mem_append_right _ List.mem_cons_self)) hn
                rw [hno]
                exact ⟨rfl, (fun q hq => by cases hq), xkq_trans i3 hk3⟩
              · rw [if_neg hn]
                refine xQ.go 1 (F1 := (bif !decide (1 = 0) then 160 else 158, [some (.ref 32), some (.int (mk (fun v => S v && !PV v))), some (.int (mk (snn (l ++ [(mk (cpo H S PV k b), mk C)])))), some (.int (nI k)), some (.int (nI b)), some (.int (mk (two k b))), some (.int 1), some (.int (mk (cpo H S PV k b))), some (.int (mk C))], [], w2)) rfl ?_
                refine xQ.brT (rfl) ?_
                refine xQ.less [some (.ref 32), some (.int (mk (fun v => S v && !PV v))), some (.int (mk (snn (l ++ [(mk (cpo H S PV k b), mk C)])))), some (.int (nI k)), some (.int (nI b)), none, none, none, none] (by simp [xleb]) ?_
                refine xQ.go 2 (F1 := (32, [some (.ref 32), some (.int (mk (fun v => S v && !PV v))), some (.int (mk (snn (l ++ [(mk (cpo H S PV k b), mk C)])))), some (.int (nI k)), some (.int ((nI b) + 1)), none, none, none, none], [], w2)) rfl ?_
                rw [← nI_succ]
                refine K2 w2 ⟨fun q hq => ?_, hw2 hn, xkq_trans i3 hk3⟩
                rcases List.mem_append.mp hq with h | h
                · exact i1 q h
                · rw [List.mem_singleton.mp h]
                  exact hn
            by_cases hz : mk (cpo H S PV k b) = 0
            · refine xQ.go 3 (F1 := (bif !decide ((mk (cpo H S PV k b)) = 0) then 126 else 121, [some (.ref 32), some (.int (mk (fun v => S v && !PV v))), some (.int (mk (snn l))), some (.int (nI k)), some (.int (nI b)), some (.int (mk (two k b))), some (.int 1), some (.int (mk (cpo H S PV k b))), none], [], s2)) rfl ?_
              refine xQ.brF (by rw [hz]; rfl) ?_
              refine xQ.go 2 (F1 := (140, [some (.ref 32), some (.int (mk (fun v => S v && !PV v))), some (.int (mk (snn l))), some (.int (nI k)), some (.int (nI b)), some (.int (mk (two k b))), some (.int 1), some (.int (mk (cpo H S PV k b))), none], [.int (mk (two k b))], s2)) rfl ?_
              exact com _ (by rw [if_pos hz])
            · refine xQ.go 3 (F1 := (bif !decide ((mk (cpo H S PV k b)) = 0) then 126 else 121, [some (.ref 32), some (.int (mk (fun v => S v && !PV v))), some (.int (mk (snn l))), some (.int (nI k)), some (.int (nI b)), some (.int (mk (two k b))), some (.int 1), some (.int (mk (cpo H S PV k b))), none], [], s2)) rfl ?_
              refine xQ.brT (by rw [decide_eq_false hz]; rfl) ?_
              refine xQ.go 3 (F1 := (132, [some (.ref 32), some (.int (mk (fun v => S v && !PV v))), some (.int (mk (snn l))), some (.int (nI k)), some (.int (nI b)), some (.int (mk (two k b))), some (.int 1), some (.int (mk (cpo H S PV k b))), none], [.int (mk (cpo H S PV k b)), .ref 33], s2)) rfl ?_
              refine xQ.call rfl (c_around rfl (fun v hv => by rw [xkq_at i3 33 v]; exact hG.1 v hv)) ?_
              show xQ MX1_chooseFragment (135, [some (.ref 32), some (.int (mk (fun v => S v && !PV v))), some (.int (mk (snn l))), some (.int (nI k)), some (.int (nI b)), some (.int (mk (two k b))), some (.int 1), some (.int (mk (cpo H S PV k b))), none], [.int (mk (nb H (cpo H S PV k b)))], s2) _
              refine xQ.go 3 (F1 := (140, [some (.ref 32), some (.int (mk (fun v => S v && !PV v))), some (.int (mk (snn l))), some (.int (nI k)), some (.int (nI b)), some (.int (mk (two k b))), some (.int 1), some (.int (mk (cpo H S PV k b))), none], [.int ((mk (nb H (cpo H S PV k b))) &&& (s2.1 32 3))], s2)) rfl ?_
              rw [xkq_at i3 32 3, hP.2.1, mk_and]
              exact com _ (by rw [if_neg hz])
    · intro s2 hI2
      rw [show 10 * k + (k + 1 + (9 - k)) = 10 * (k + 1) by omega, show k + 1 + (9 - k) = 10 by omega] at *
      refine xQ.go 3 (F1 := (bif decide (10 ≤ (nI 10)) then 166 else 39, [some (.ref 32), some (.int (mk (fun v => S v && !PV v))), some (.int (mk (snn (frs H S P PV (10 * (k + 1)))))), some (.int (nI k)), some (.int (nI 10)), none, none, none, none], [], s2)) rfl ?_
      refine xQ.brT (rfl) ?_
      refine xQ.less [some (.ref 32), some (.int (mk (fun v => S v && !PV v))), some (.int (mk (snn (frs H S P PV (10 * (k + 1)))))), some (.int (nI k)), none, none, none, none, none] (by simp [xleb]) ?_
      refine xQ.go 2 (F1 := (21, [some (.ref 32), some (.int (mk (fun v => S v && !PV v))), some (.int (mk (snn (frs H S P PV (10 * (k + 1)))))), some (.int ((nI k) + 1)), none, none, none, none, none], [], s2)) rfl ?_
      rw [← nI_succ]
      exact K s2 hI2
  · intro s hI
    obtain ⟨i1, i2, i3⟩ := hI
    refine xQ.go 3 (F1 := (bif decide (10 ≤ (nI 10)) then 172 else 27, [some (.ref 32), some (.int (mk (fun v => S v && !PV v))), some (.int (mk (snn (frs H S P PV (10 * 10))))), some (.int (nI 10)), none, none, none, none, none], [], s)) rfl ?_
    refine xQ.brT (rfl) ?_
    rw [← chs_pick i1] at i2
    show xQ MX1_chooseFragment _ (fun r w1 => r = some (.int (if (chs L (frs H S P PV (10 * 10))).isSome then 1 else 0)) ∧ (∀ q, chs L (frs H S P PV (10 * 10)) = some q → eC 32 w1 L (some q)) ∧ xkq [(32, some 9), (32, some 10), (32, some 11), (32, some 12)] w w1)
    refine xQ.go 3 (F1 := (bif decide ((s.1 32 12) ≤ 0) then 183 else 179, [some (.ref 32), some (.int (mk (fun v => S v && !PV v))), some (.int (mk (snn (frs H S P PV (10 * 10))))), some (.int (nI 10)), none, none, none, none, none], [], s)) rfl ?_
    cases hc : chs L (frs H S P PV (10 * 10)) with
    | none =>
      rw [hc] at i2
      refine xQ.brT (by rw [show s.1 32 12 = 0 from i2]; rfl) ?_
      refine xQ.go 1 (F1 := (184, [some (.ref 32), some (.int (mk (fun v => S v && !PV v))), some (.int (mk (snn (frs H S P PV (10 * 10))))), some (.int (nI 10)), none, none, none, none, none], [.int 0], s)) rfl ?_
      refine xQ.iret .boolean 1 rfl rfl (rfl) ?_
      exact ⟨rfl, (fun q hq => by cases hq), i3⟩
    | some q =>
      rw [hc] at i2
      have hle : nfit q.2 L ≤ 16 := Nat.le_trans (List.length_filter_le _ _) hL
      have h0 := i2.2.2.2.2
      refine xQ.brF (by rw [i2.2.2.2.1]; exact decide_eq_false (nI_ge (a := 0) (by omega) (by omega))) ?_
      refine xQ.go 2 (F1 := (184, [some (.ref 32), some (.int (mk (fun v => S v && !PV v))), some (.int (mk (snn (frs H S P PV (10 * 10))))), some (.int (nI 10)), none, none, none, none, none], [.int 1], s)) rfl ?_
      refine xQ.iret .boolean 1 rfl rfl (rfl) ?_
      exact ⟨rfl, fun q2 hq => by cases hq; exact i2, i3⟩
