/-! the reference: forbidden, inForbidden, density -/
theorem mk_stepT {F : Nat → Bool} {k : Nat} (hk : k < 10) (h : F k = true) : mk (fun v => decide (v < k) && F v) ||| (1 <<< (nI k &&& 31)) = mk (fun v => decide (v < k + 1) && F v) := by
  rw [mk_bit hk, mk_or]
  refine mk_ext fun v _ => ?_
  by_cases e : v = k
  · rw [e, h]; simp
  · rw [show decide (v < k) = decide (v < k + 1) from decide_eq_decide.mpr (by omega), decide_eq_false e, Bool.or_false]
theorem mk_stepF {F : Nat → Bool} {k : Nat} (h : F k = false) : mk (fun v => decide (v < k) && F v) ||| 0 = mk (fun v => decide (v < k + 1) && F v) := by
  rw [Int32.or_zero]
  refine mk_ext fun v _ => ?_
  by_cases e : v = k
  · rw [e, h, Bool.and_false, Bool.and_false]
  · rw [show decide (v < k) = decide (v < k + 1) from decide_eq_decide.mpr (by omega)]
theorem mk_st0 {F : Nat → Bool} : mk (fun v => decide (v < 0) && F v) = 0 := by rw [mk_0]; exact mk_ext fun z _ => by simp
theorem mk_stE {F : Nat → Bool} : mk (fun v => decide (v < 10) && F v) = mk F := mk_ext fun z hz => by rw [decide_eq_true hz, Bool.true_and]
theorem cnt_all0 {S : Nat → Bool} : ∀ n, (∀ v, v < n → S v = false) → cnt S n = 0
  | 0, _ => rfl
  | n + 1, h => by
    show cnt S n + _ = 0
    rw [cnt_all0 n (fun v hv => h v (by omega)), h n (by omega)]
    rfl
theorem cnt_some : ∀ {S : Nat → Bool} {n v : Nat}, v < n → S v = true → 0 < cnt S n := fun {S n v} hv h => by
  have := cnt_lt (S := fun _ => false) (T := S) (n := n) (fun _ _ h => by cases h) ⟨v, hv, rfl, h⟩
  omega
theorem mk_nzd (S : Nat → Bool) : decide (mk S = 0) = !decide (0 < cnt S 10) := by
  by_cases h : mk S = 0
  · rw [decide_eq_true h, cnt_all0 10 (mk_zero.mp h)]
    rfl
  · rw [decide_eq_false h]
    cases hc : decide (0 < cnt S 10) with
    | true => rfl
    | false =>
      exfalso
      refine h (mk_zero.mpr fun v hv => ?_)
      cases hs : S v with
      | false => rfl
      | true => exact absurd (cnt_some hv hs) (of_decide_eq_false hc)
def qFo (G : Nat → Nat → Bool) : Nat → Int32
  | 0 => nI (ec G)
  | 1 => mk (fun v => decide (0 < cnt (G v) 10))
  | 2 => mk (fun v => decide (2 < cnt (G v) 10))
  | _ => nI (cnt (fun v => decide (2 < cnt (G v) 10)) 10)
theorem M_forb {w : xW} {A : xAb} {x : Int32} (hM : mI w A) : xD MX8_forbidden [.ref 45, .int x] w (mV w A (qForb A x)) := by
  refine xD.of ?_
  show xQ MX8_forbidden (0, [some (.ref 45), some (.int x), none, none, none, none], [], w) _
  refine xQ.go 3 (F1 := (3, [some (.ref 45), some (.int x), none, none, none, none], [.int 3, .int 0, .int x], w)) rfl ?_
  refine xQ.call rfl (m_within) ?_
  show xQ MX8_forbidden (6, [some (.ref 45), some (.int x), none, none, none, none], [.int (if 0 ≤ x ∧ x ≤ 3 then 1 else 0)], w) _
  rw [show (if 0 ≤ x ∧ x ≤ 3 then (1 : Int32) else 0) = if (kI 4 x).isSome = true then 1 else 0 from kI_w (n := 4) (by omega) x]
  refine xQ.go 1 (F1 := (bif !decide ((if (kI 4 x).isSome = true then 1 else 0) = 0) then 12 else 9, [some (.ref 45), some (.int x), none, none, none, none], [], w)) rfl ?_
  unfold qForb
  cases hx : kI 4 x with
  | none =>
    refine xQ.brF rfl ?_
    refine xQ.go 1 (F1 := (11, [some (.ref 45), some (.int x), none, none, none, none], [.int (-2)], w)) rfl ?_
    refine xQ.iret .int 1 rfl rfl (rfl) ?_
    exact ⟨rfl, hM, xkq_rfl⟩
  | some q =>
    obtain ⟨hq4, ex⟩ := kI_some hx
    refine xQ.brT rfl ?_
    rw [ex]
    obtain ⟨r1, w1, hc1, hr1, i1, g1, k1⟩ := m_findF hM
    subst hr1
    refine xQ.go 1 (F1 := (13, [some (.ref 45), some (.int (nI q)), none, none, none, none], [.ref 45], w)) rfl ?_
    refine xQ.call rfl (hc1) ?_
    show xQ MX8_forbidden (16, [some (.ref 45), some (.int (nI q)), none, none, none, none], [.int (if fl A.1.1 = true then 0 else 1)], w1) _
    refine xQ.go 1 (F1 := (bif !decide ((if fl A.1.1 = true then 0 else 1) = 0) then 22 else 19, [some (.ref 45), some (.int (nI q)), none, none, none, none], [], w1)) rfl ?_
    simp only
    cases hf : fl A.1.1 with
    | true =>
      refine xQ.brF rfl ?_
      refine xQ.go 1 (F1 := (21, [some (.ref 45), some (.int (nI q)), none, none, none, none], [.int (-5)], w1)) rfl ?_
      refine xQ.iret .int 1 rfl rfl (rfl) ?_
      exact ⟨rfl, i1, kN_M k1⟩
    | false =>
      refine xQ.brT rfl ?_
      have g1 := g1 hf
      simp only [Bool.false_eq_true, if_false]
      have hG := gr_gok (obs A.1.1 100)
      generalize gr (obs A.1.1 100) = G at *
      change xQ MX8_forbidden _ (mV w A (qFo G q))
      refine xQ.go 8 (F1 := (32, [some (.ref 45), some (.int (nI q)), some (.int 0), some (.int 0), some (.int 0), some (.int 0)], [], w1)) rfl ?_
      refine xQ.loop (S := Unit) (fun k s => (32, [some (.ref 45), some (.int (nI q)), some (.int (nI (sm (fun v => cnt (G v) 10) k))), some (.int (mk (fun v => decide (v < k) && decide (0 < cnt (G v) 10)))), some (.int (mk (fun v => decide (v < k) && decide (2 < cnt (G v) 10)))), some (.int (nI k))], [], w1)) (fun _ _ => True) 10 () (by rw [mk_st0, mk_st0]; rfl) (trivial) ?_ ?_
      · intro k s hk hI K
        have K := K () trivial
        rw [show sm (fun v => cnt (G v) 10) (k + 1) = sm (fun v => cnt (G v) 10) k + cnt (G k) 10 from rfl] at K
        refine xQ.go 3 (F1 := (bif decide (10 ≤ (nI k)) then 106 else 39, [some (.ref 45), some (.int (nI q)), some (.int (nI (sm (fun v => cnt (G v) 10) k))), some (.int (mk (fun v => decide (v < k) && decide (0 < cnt (G v) 10)))), some (.int (mk (fun v => decide (v < k) && decide (2 < cnt (G v) 10)))), some (.int (nI k))], [], w1)) rfl ?_
        refine xQ.brF (decide_eq_false (nI_ge (b := 10) (by omega) (by omega))) ?_
        refine xQ.go 4 (F1 := (46, [some (.ref 45), some (.int (nI q)), some (.int (nI (sm (fun v => cnt (G v) 10) k))), some (.int (mk (fun v => decide (v < k) && decide (0 < cnt (G v) 10)))), some (.int (mk (fun v => decide (v < k) && decide (2 < cnt (G v) 10)))), some (.int (nI k))], [.int (nI k), .ref 50, .int (nI (sm (fun v => cnt (G v) 10) k))], w1)) rfl ?_
        refine xQ.iald rfl (k := k) (rfl) (⟨by omega, by omega⟩) rfl ?_
        show xQ MX8_forbidden (47, [some (.ref 45), some (.int (nI q)), some (.int (nI (sm (fun v => cnt (G v) 10) k))), some (.int (mk (fun v => decide (v < k) && decide (0 < cnt (G v) 10)))), some (.int (mk (fun v => decide (v < k) && decide (2 < cnt (G v) 10)))), some (.int (nI k))], [.int (w1.1 50 k), .int (nI (sm (fun v => cnt (G v) 10) k))], w1) _
        rw [g1 k hk]
        refine xQ.call rfl (m_ones) ?_
        show xQ MX8_forbidden (50, [some (.ref 45), some (.int (nI q)), some (.int (nI (sm (fun v => cnt (G v) 10) k))), some (.int (mk (fun v => decide (v < k) && decide (0 < cnt (G v) 10)))), some (.int (mk (fun v => decide (v < k) && decide (2 < cnt (G v) 10)))), some (.int (nI k))], [.int (nI (cnt (G k) 10)), .int (nI (sm (fun v => cnt (G v) 10) k))], w1) _
        refine xQ.go 1 (F1 := (51, [some (.ref 45), some (.int (nI q)), some (.int (nI (sm (fun v => cnt (G v) 10) k))), some (.int (mk (fun v => decide (v < k) && decide (0 < cnt (G v) 10)))), some (.int (mk (fun v => decide (v < k) && decide (2 < cnt (G v) 10)))), some (.int (nI k))], [.int ((nI (sm (fun v => cnt (G v) 10) k)) + (nI (cnt (G k) 10)))], w1)) rfl ?_
        rw [jI_add]
        refine xQ.go 1 (F1 := (52, [some (.ref 45), some (.int (nI q)), some (.int (nI (sm (fun v => cnt (G v) 10) k + cnt (G k) 10))), some (.int (mk (fun v => decide (v < k) && decide (0 < cnt (G v) 10)))), some (.int (mk (fun v => decide (v < k) && decide (2 < cnt (G v) 10)))), some (.int (nI k))], [], w1)) rfl ?_
        have c2 : ∀ y : Int32, mk (fun v => decide (v < k) && decide (2 < cnt (G v) 10)) ||| y = mk (fun v => decide (v < k + 1) && decide (2 < cnt (G v) 10)) → xQ MX8_forbidden (97, [some (.ref 45), some (.int (nI q)), some (.int (nI (sm (fun v => cnt (G v) 10) k + cnt (G k) 10))), some (.int (mk (fun v => decide (v < k + 1) && decide (0 < cnt (G v) 10)))), some (.int (mk (fun v => decide (v < k) && decide (2 < cnt (G v) 10)))), some (.int (nI k))], [.int y, .int (mk (fun v => decide (v < k) && decide (2 < cnt (G v) 10)))], w1) (mV w A (qFo G q)) := by
          intro y hy
          refine xQ.go 1 (F1 := (98, [some (.ref 45), some (.int (nI q)), some (.int (nI (sm (fun v => cnt (G v) 10) k + cnt (G k) 10))), some (.int (mk (fun v => decide (v < k + 1) && decide (0 < cnt (G v) 10)))), some (.int (mk (fun v => decide (v < k) && decide (2 < cnt (G v) 10)))), some (.int (nI k))], [.int ((mk (fun v => decide (v < k) && decide (2 < cnt (G v) 10))) ||| y)], w1)) rfl ?_
          rw [hy]
          refine xQ.go 3 (F1 := (32, [some (.ref 45), some (.int (nI q)), some (.int (nI (sm (fun v => cnt (G v) 10) k + cnt (G k) 10))), some (.int (mk (fun v => decide (v < k + 1) && decide (0 < cnt (G v) 10)))), some (.int (mk (fun v => decide (v < k + 1) && decide (2 < cnt (G v) 10)))), some (.int ((nI k) + 1))], [], w1)) rfl ?_
          rw [← nI_succ]
          exact K
        have c1 : ∀ y : Int32, mk (fun v => decide (v < k) && decide (0 < cnt (G v) 10)) ||| y = mk (fun v => decide (v < k + 1) && decide (0 < cnt (G v) 10)) → xQ MX8_forbidden (71, [some (.ref 45), some (.int (nI q)), some (.int (nI (sm (fun v => cnt (G v) 10) k + cnt (G k) 10))), some (.int (mk (fun v => decide (v < k) && decide (0 < cnt (G v) 10)))), some (.int (mk (fun v => decide (v < k) && decide (2 < cnt (G v) 10)))), some (.int (nI k))], [.int y, .int (mk (fun v => decide (v < k) && decide (0 < cnt (G v) 10)))], w1) (mV w A (qFo G q)) := by
          intro y hy
          refine xQ.go 1 (F1 := (72, [some (.ref 45), some (.int (nI q)), some (.int (nI (sm (fun v => cnt (G v) 10) k + cnt (G k) 10))), some (.int (mk (fun v => decide (v < k) && decide (0 < cnt (G v) 10)))), some (.int (mk (fun v => decide (v < k) && decide (2 < cnt (G v) 10)))), some (.int (nI k))], [.int ((mk (fun v => decide (v < k) && decide (0 < cnt (G v) 10))) ||| y)], w1)) rfl ?_
          rw [hy]
          refine xQ.go 5 (F1 := (81, [some (.ref 45), some (.int (nI q)), some (.int (nI (sm (fun v => cnt (G v) 10) k + cnt (G k) 10))), some (.int (mk (fun v => decide (v < k + 1) && decide (0 < cnt (G v) 10)))), some (.int (mk (fun v => decide (v < k) && decide (2 < cnt (G v) 10)))), some (.int (nI k))], [.int (nI k), .ref 50, .int (mk (fun v => decide (v < k) && decide (2 < cnt (G v) 10)))], w1)) rfl ?_
          refine xQ.iald rfl (k := k) (rfl) (⟨by omega, by omega⟩) rfl ?_
          show xQ MX8_forbidden (82, [some (.ref 45), some (.int (nI q)), some (.int (nI (sm (fun v => cnt (G v) 10) k + cnt (G k) 10))), some (.int (mk (fun v => decide (v < k + 1) && decide (0 < cnt (G v) 10)))), some (.int (mk (fun v => decide (v < k) && decide (2 < cnt (G v) 10)))), some (.int (nI k))], [.int (w1.1 50 k), .int (mk (fun v => decide (v < k) && decide (2 < cnt (G v) 10)))], w1) _
          rw [g1 k hk]
          refine xQ.call rfl (m_ones) ?_
          show xQ MX8_forbidden (85, [some (.ref 45), some (.int (nI q)), some (.int (nI (sm (fun v => cnt (G v) 10) k + cnt (G k) 10))), some (.int (mk (fun v => decide (v < k + 1) && decide (0 < cnt (G v) 10)))), some (.int (mk (fun v => decide (v < k) && decide (2 < cnt (G v) 10)))), some (.int (nI k))], [.int (nI (cnt (G k) 10)), .int (mk (fun v => decide (v < k) && decide (2 < cnt (G v) 10)))], w1) _
          refine xQ.go 2 (F1 := (bif decide ((nI (cnt (G k) 10)) ≤ 2) then 96 else 89, [some (.ref 45), some (.int (nI q)), some (.int (nI (sm (fun v => cnt (G v) 10) k + cnt (G k) 10))), some (.int (mk (fun v => decide (v < k + 1) && decide (0 < cnt (G v) 10)))), some (.int (mk (fun v => decide (v < k) && decide (2 < cnt (G v) 10)))), some (.int (nI k))], [.int (mk (fun v => decide (v < k) && decide (2 < cnt (G v) 10)))], w1)) rfl ?_
          have e2 : decide (nI (cnt (G k) 10) ≤ 2) = !decide (2 < cnt (G k) 10) := by
            have := cnt_le (G k) 10
            rw [show (2 : Int32) = nI 2 from rfl, nI_decle (by omega) (by omega)]
            by_cases h : 2 < cnt (G k) 10
            · rw [decide_eq_true h, decide_eq_false (by omega)]; rfl
            · rw [decide_eq_false h, decide_eq_true (by omega)]; rfl
          rw [e2]
          cases hd : decide (2 < cnt (G k) 10) with
          | true =>
            refine xQ.brF rfl ?_
            refine xQ.go 4 (F1 := (97, [some (.ref 45), some (.int (nI q)), some (.int (nI (sm (fun v => cnt (G v) 10) k + cnt (G k) 10))), some (.int (mk (fun v => decide (v < k + 1) && decide (0 < cnt (G v) 10)))), some (.int (mk (fun v => decide (v < k) && decide (2 < cnt (G v) 10)))), some (.int (nI k))], [.int (1 <<< ((nI k) &&& 31)), .int (mk (fun v => decide (v < k) && decide (2 < cnt (G v) 10)))], w1)) rfl ?_
            exact c2 _ (mk_stepT (F := fun v => decide (2 < cnt (G v) 10)) hk hd)
          | false =>
            refine xQ.brT rfl ?_
            refine xQ.go 1 (F1 := (97, [some (.ref 45), some (.int (nI q)), some (.int (nI (sm (fun v => cnt (G v) 10) k + cnt (G k) 10))), some (.int (mk (fun v => decide (v < k + 1) && decide (0 < cnt (G v) 10)))), some (.int (mk (fun v => decide (v < k) && decide (2 < cnt (G v) 10)))), some (.int (nI k))], [.int 0, .int (mk (fun v => decide (v < k) && decide (2 < cnt (G v) 10)))], w1)) rfl ?_
            exact c2 _ (mk_stepF (F := fun v => decide (2 < cnt (G v) 10)) hd)
        refine xQ.go 4 (F1 := (59, [some (.ref 45), some (.int (nI q)), some (.int (nI (sm (fun v => cnt (G v) 10) k + cnt (G k) 10))), some (.int (mk (fun v => decide (v < k) && decide (0 < cnt (G v) 10)))), some (.int (mk (fun v => decide (v < k) && decide (2 < cnt (G v) 10)))), some (.int (nI k))], [.int (nI k), .ref 50, .int (mk (fun v => decide (v < k) && decide (0 < cnt (G v) 10)))], w1)) rfl ?_
        refine xQ.iald rfl (k := k) (rfl) (⟨by omega, by omega⟩) rfl ?_
        show xQ MX8_forbidden (60, [some (.ref 45), some (.int (nI q)), some (.int (nI (sm (fun v => cnt (G v) 10) k + cnt (G k) 10))), some (.int (mk (fun v => decide (v < k) && decide (0 < cnt (G v) 10)))), some (.int (mk (fun v => decide (v < k) && decide (2 < cnt (G v) 10)))), some (.int (nI k))], [.int (w1.1 50 k), .int (mk (fun v => decide (v < k) && decide (0 < cnt (G v) 10)))], w1) _
        rw [g1 k hk]
        refine xQ.go 1 (F1 := (bif decide ((mk (G k)) = 0) then 70 else 63, [some (.ref 45), some (.int (nI q)), some (.int (nI (sm (fun v => cnt (G v) 10) k + cnt (G k) 10))), some (.int (mk (fun v => decide (v < k) && decide (0 < cnt (G v) 10)))), some (.int (mk (fun v => decide (v < k) && decide (2 < cnt (G v) 10)))), some (.int (nI k))], [.int (mk (fun v => decide (v < k) && decide (0 < cnt (G v) 10)))], w1)) rfl ?_
        rw [mk_nzd]
        cases hd : decide (0 < cnt (G k) 10) with
        | true =>
          refine xQ.brF rfl ?_
          refine xQ.go 4 (F1 := (71, [some (.ref 45), some (.int (nI q)), some (.int (nI (sm (fun v => cnt (G v) 10) k + cnt (G k) 10))), some (.int (mk (fun v => decide (v < k) && decide (0 < cnt (G v) 10)))), some (.int (mk (fun v => decide (v < k) && decide (2 < cnt (G v) 10)))), some (.int (nI k))], [.int (1 <<< ((nI k) &&& 31)), .int (mk (fun v => decide (v < k) && decide (0 < cnt (G v) 10)))], w1)) rfl ?_
          exact c1 _ (mk_stepT (F := fun v => decide (0 < cnt (G v) 10)) hk hd)
        | false =>
          refine xQ.brT rfl ?_
          refine xQ.go 1 (F1 := (71, [some (.ref 45), some (.int (nI q)), some (.int (nI (sm (fun v => cnt (G v) 10) k + cnt (G k) 10))), some (.int (mk (fun v => decide (v < k) && decide (0 < cnt (G v) 10)))), some (.int (mk (fun v => decide (v < k) && decide (2 < cnt (G v) 10)))), some (.int (nI k))], [.int 0, .int (mk (fun v => decide (v < k) && decide (0 < cnt (G v) 10)))], w1)) rfl ?_
          exact c1 _ (mk_stepF (F := fun v => decide (0 < cnt (G v) 10)) hd)
      · intro s hI
        refine xQ.go 3 (F1 := (bif decide (10 ≤ (nI 10)) then 106 else 39, [some (.ref 45), some (.int (nI q)), some (.int (nI (sm (fun v => cnt (G v) 10) 10))), some (.int (mk (fun v => decide (v < 10) && decide (0 < cnt (G v) 10)))), some (.int (mk (fun v => decide (v < 10) && decide (2 < cnt (G v) 10)))), some (.int (nI 10))], [], w1)) rfl ?_
        refine xQ.brT (rfl) ?_
        rw [mk_stE, mk_stE, sm_even hG.1 hG.2.1 10]
        match q, hq4 with
        | 0, _ =>
          refine xQ.go 2 (F1 := (bif !decide ((nI 0) = 0) then 116 else 110, [some (.ref 45), some (.int (nI 0)), some (.int (nI (2 * ec G))), some (.int (mk (fun v => decide (0 < cnt (G v) 10)))), some (.int (mk (fun v => decide (2 < cnt (G v) 10)))), some (.int (nI 10))], [], w1)) rfl ?_
          refine xQ.brF (rfl) ?_
          refine xQ.go 3 (F1 := (113, [some (.ref 45), some (.int (nI 0)), some (.int (nI (2 * ec G))), some (.int (mk (fun v => decide (0 < cnt (G v) 10)))), some (.int (mk (fun v => decide (2 < cnt (G v) 10)))), some (.int (nI 10))], [.int ((nI (2 * ec G)) / 2)], w1)) rfl ?_
          rw [i_half (ec_le hG.1 hG.2.1)]
          refine xQ.go 1 (F1 := (140, [some (.ref 45), some (.int (nI 0)), some (.int (nI (2 * ec G))), some (.int (mk (fun v => decide (0 < cnt (G v) 10)))), some (.int (mk (fun v => decide (2 < cnt (G v) 10)))), some (.int (nI 10))], [.int (nI (ec G))], w1)) rfl ?_
          refine xQ.iret .int 1 rfl rfl (rfl) ?_
          exact ⟨rfl, i1, kN_M k1⟩
        | 1, _ =>
          refine xQ.go 2 (F1 := (bif !decide ((nI 1) = 0) then 116 else 110, [some (.ref 45), some (.int (nI 1)), some (.int (nI (2 * ec G))), some (.int (mk (fun v => decide (0 < cnt (G v) 10)))), some (.int (mk (fun v => decide (2 < cnt (G v) 10)))), some (.int (nI 10))], [], w1)) rfl ?_
          refine xQ.brT (rfl) ?_
          refine xQ.go 3 (F1 := (bif !decide ((nI 1) = 1) then 125 else 121, [some (.ref 45), some (.int (nI 1)), some (.int (nI (2 * ec G))), some (.int (mk (fun v => decide (0 < cnt (G v) 10)))), some (.int (mk (fun v => decide (2 < cnt (G v) 10)))), some (.int (nI 10))], [], w1)) rfl ?_
          refine xQ.brF (rfl) ?_
          refine xQ.go 2 (F1 := (140, [some (.ref 45), some (.int (nI 1)), some (.int (nI (2 * ec G))), some (.int (mk (fun v => decide (0 < cnt (G v) 10)))), some (.int (mk (fun v => decide (2 < cnt (G v) 10)))), some (.int (nI 10))], [.int (mk (fun v => decide (0 < cnt (G v) 10)))], w1)) rfl ?_
          refine xQ.iret .int 1 rfl rfl (rfl) ?_
          exact ⟨rfl, i1, kN_M k1⟩
        | 2, _ =>
          refine xQ.go 2 (F1 := (bif !decide ((nI 2) = 0) then 116 else 110, [some (.ref 45), some (.int (nI 2)), some (.int (nI (2 * ec G))), some (.int (mk (fun v => decide (0 < cnt (G v) 10)))), some (.int (mk (fun v => decide (2 < cnt (G v) 10)))), some (.int (nI 10))], [], w1)) rfl ?_
          refine xQ.brT (rfl) ?_
          refine xQ.go 3 (F1 := (bif !decide ((nI 2) = 1) then 125 else 121, [some (.ref 45), some (.int (nI 2)), some (.int (nI (2 * ec G))), some (.int (mk (fun v => decide (0 < cnt (G v) 10)))), some (.int (mk (fun v => decide (2 < cnt (G v) 10)))), some (.int (nI 10))], [], w1)) rfl ?_
          refine xQ.brT (rfl) ?_
          refine xQ.go 3 (F1 := (bif !decide ((nI 2) = 2) then 135 else 130, [some (.ref 45), some (.int (nI 2)), some (.int (nI (2 * ec G))), some (.int (mk (fun v => decide (0 < cnt (G v) 10)))), some (.int (mk (fun v => decide (2 < cnt (G v) 10)))), some (.int (nI 10))], [], w1)) rfl ?_
          refine xQ.brF (rfl) ?_
          refine xQ.go 2 (F1 := (140, [some (.ref 45), some (.int (nI 2)), some (.int (nI (2 * ec G))), some (.int (mk (fun v => decide (0 < cnt (G v) 10)))), some (.int (mk (fun v => decide (2 < cnt (G v) 10)))), some (.int (nI 10))], [.int (mk (fun v => decide (2 < cnt (G v) 10)))], w1)) rfl ?_
          refine xQ.iret .int 1 rfl rfl (rfl) ?_
          exact ⟨rfl, i1, kN_M k1⟩
        | 3, _ =>
          refine xQ.go 2 (F1 := (bif !decide ((nI 3) = 0) then 116 else 110, [some (.ref 45), some (.int (nI 3)), some (.int (nI (2 * ec G))), some (.int (mk (fun v => decide (0 < cnt (G v) 10)))), some (.int (mk (fun v => decide (2 < cnt (G v) 10)))), some (.int (nI 10))], [], w1)) rfl ?_
          refine xQ.brT (rfl) ?_
          refine xQ.go 3 (F1 := (bif !decide ((nI 3) = 1) then 125 else 121, [some (.ref 45), some (.int (nI 3)), some (.int (nI (2 * ec G))), some (.int (mk (fun v => decide (0 < cnt (G v) 10)))), some (.int (mk (fun v => decide (2 < cnt (G v) 10)))), some (.int (nI 10))], [], w1)) rfl ?_
          refine xQ.brT (rfl) ?_
          refine xQ.go 3 (F1 := (bif !decide ((nI 3) = 2) then 135 else 130, [some (.ref 45), some (.int (nI 3)), some (.int (nI (2 * ec G))), some (.int (mk (fun v => decide (0 < cnt (G v) 10)))), some (.int (mk (fun v => decide (2 < cnt (G v) 10)))), some (.int (nI 10))], [], w1)) rfl ?_
          refine xQ.brT (rfl) ?_
          refine xQ.go 1 (F1 := (137, [some (.ref 45), some (.int (nI 3)), some (.int (nI (2 * ec G))), some (.int (mk (fun v => decide (0 < cnt (G v) 10)))), some (.int (mk (fun v => decide (2 < cnt (G v) 10)))), some (.int (nI 10))], [.int (mk (fun v => decide (2 < cnt (G v) 10)))], w1)) rfl ?_
          refine xQ.call rfl (m_ones) ?_
          show xQ MX8_forbidden (140, [some (.ref 45), some (.int (nI 3)), some (.int (nI (2 * ec G))), some (.int (mk (fun v => decide (0 < cnt (G v) 10)))), some (.int (mk (fun v => decide (2 < cnt (G v) 10)))), some (.int (nI 10))], [.int (nI (cnt (fun v => decide (2 < cnt (G v) 10)) 10))], w1) _
          refine xQ.iret .int 1 rfl rfl (rfl) ?_
          exact ⟨rfl, i1, kN_M k1⟩
theorem M_inf {w : xW} {A : xAb} {x y : Int32} (hM : mI w A) : xD MX8_inForbidden [.ref 45, .int x, .int y] w (mV w A (qInF A x y)) := by
  refine xD.of ?_
  show xQ MX8_inForbidden (0, [some (.ref 45), some (.int x), some (.int y)], [], w) _
  refine xQ.go 3 (F1 := (3, [some (.ref 45), some (.int x), some (.int y)], [.int y, .int x, .ref 45], w)) rfl ?_
  refine xQ.call rfl (m_isEdge hM) ?_
  show xQ MX8_inForbidden (6, [some (.ref 45), some (.int x), some (.int y)], [.int (if jn A.1.1 x y = true then 1 else 0)], w) _
  refine xQ.go 1 (F1 := (bif !decide ((if jn A.1.1 x y = true then 1 else 0) = 0) then 11 else 9, [some (.ref 45), some (.int x), some (.int y)], [], w)) rfl ?_
  by_cases hj : jn A.1.1 x y = true
  · obtain ⟨a, b, ha, hb, hne, ex, ey, hx, hy, hg⟩ := jn_true hj
    unfold qInF
    rw [if_pos hj, hx, hy]
    simp only
    rw [if_pos hg]
    refine xQ.brT rfl ?_
    obtain ⟨r1, w1, hc1, hr1, i1, g1, k1⟩ := m_findF hM
    subst hr1
    refine xQ.go 1 (F1 := (12, [some (.ref 45), some (.int x), some (.int y)], [.ref 45], w)) rfl ?_
    refine xQ.call rfl (hc1) ?_
    show xQ MX8_inForbidden (15, [some (.ref 45), some (.int x), some (.int y)], [.int (if fl A.1.1 = true then 0 else 1)], w1) _
    refine xQ.go 1 (F1 := (bif decide ((if fl A.1.1 = true then 0 else 1) = 0) then 31 else 18, [some (.ref 45), some (.int x), some (.int y)], [], w1)) rfl ?_
    cases hf : fl A.1.1 with
    | true =>
      refine xQ.brT rfl ?_
      refine xQ.go 1 (F1 := (33, [some (.ref 45), some (.int x), some (.int y)], [.int (-5)], w1)) rfl ?_
      refine xQ.iret .int 1 rfl rfl (rfl) ?_
      exact ⟨rfl, i1, kN_M k1⟩
    | false =>
      refine xQ.brF rfl ?_
      have g1 := g1 hf
      rw [ex, ey]
      refine xQ.go 3 (F1 := (23, [some (.ref 45), some (.int (nI a)), some (.int (nI b))], [.int (nI a), .ref 50], w1)) rfl ?_
      refine xQ.iald rfl (k := a) (rfl) (⟨by omega, by omega⟩) rfl ?_
      show xQ MX8_inForbidden (24, [some (.ref 45), some (.int (nI a)), some (.int (nI b))], [.int (w1.1 50 a)], w1) _
      rw [g1 a ha]
      refine xQ.go 4 (F1 := (28, [some (.ref 45), some (.int (nI a)), some (.int (nI b))], [.int (((mk (gr (obs A.1.1 100) a)) >>> ((nI b) &&& 31)) &&& 1)], w1)) rfl ?_
      rw [mk_get _ hb]
      refine xQ.go 1 (F1 := (33, [some (.ref 45), some (.int (nI a)), some (.int (nI b))], [.int (if gr (obs A.1.1 100) a b = true then 1 else 0)], w1)) rfl ?_
      refine xQ.iret .int 1 rfl rfl (rfl) ?_
      exact ⟨rfl, i1, kN_M k1⟩
  · have es : qInF A x y = -1 := by
      unfold qInF
      rcases jn_no hj with h | ⟨a, h, h2⟩ | ⟨a, b, h, h2, h3⟩
      · simp [h]
      · simp [h, h2]
      · simp [h, h2, h3]
    rw [if_neg hj, es]
    refine xQ.brF rfl ?_
    refine xQ.go 1 (F1 := (10, [some (.ref 45), some (.int x), some (.int y)], [.int (-1)], w)) rfl ?_
    refine xQ.iret .int 1 rfl rfl (rfl) ?_
    exact ⟨rfl, hM, xkq_rfl⟩
theorem M_dens {w : xW} {A : xAb} (hM : mI w A) : xC MX8_density [.ref 45] w (some (.double (qDens A))) w := by
  unfold xC
  show xE MX8_density (0, [some (.ref 45)], [], w) _ _
  refine xE.go 1 (F1 := (1, [some (.ref 45)], [.ref 45], w)) rfl ?_
  refine xE.call rfl (m_edges hM) ?_
  show xE MX8_density (4, [some (.ref 45)], [.int (nEd A.1)], w) _ _
  refine xE.go 2 (F1 := (8, [some (.ref 45)], [.double 4627448617123184640, .double (FP.i2d (nEd A.1))], w)) rfl ?_
  refine xE.go 1 (F1 := (9, [some (.ref 45)], [.double (qDens A)], w)) ?_ ?_
  · have h : decide (FP.ddiv (FP.i2d (nEd A.1)) 4627448617123184640 &&& 0x7fffffffffffffff ≤ 0x7ff0000000000000) = true := dens_ok _ (ec_45 _)
    show (match xddiv (8, [some (.ref 45)], [.double 4627448617123184640, .double (FP.i2d (nEd A.1))], w) with | some F1 => some F1 | none => none) = _
    unfold xddiv
    simp only
    rw [h]
    rfl
  exact xE.dret 1 rfl rfl
