/-! isSo, of a planar graph -/
theorem jn_pl {A : xAb} {u v : Nat} (hu : u < 10) (hv : v < 10) (hf : fl A.1.1 = true) : qInF A (nI u) (nI v) = (if gr A.1.1 u v = true then -5 else -1) ∧ (gr A.1.1 u v = false → qNext A (nI u) (nI v) = -1 ∧ qWOf A (nI u) (nI v) = -1) := by
  refine ⟨?_, fun h => ⟨?_, ?_⟩⟩
  · unfold qInF vI
    rw [kI_of hu (by omega), kI_of hv (by omega)]
    dsimp only
    rw [if_pos hf]
  · unfold qNext vI
    rw [kI_of hu (by omega), kI_of hv (by omega)]
    dsimp only
    rw [h, if_neg Bool.false_ne_true]
  · unfold qWOf vI
    rw [kI_of hu (by omega), kI_of hv (by omega)]
    dsimp only
    rw [h, if_neg Bool.false_ne_true]
set_option maxRecDepth 10000 in
theorem c_so6 {w : xW} {A : xAb} {x b x7 x8 x9 : Int32} {Q : Option Value → xW → Prop} (hf : fl A.1.1 = true) (hI : cI w A) (hG : gI w (gr A.1.1)) (K0 : ∀ w1, cI w1 A → xkq kC w w1 → Q (some (.int 1)) w1) : xQ ML_isSo (338, [some (.ref 0), some (.int x), some (.int b), some (.ref 45), some (.ref 46), none, some (.int (nI (ec (gr A.1.1)))), some (.int x7), some (.int x8), some (.int x9), none], [], w) Q := by
  have h45 := ec_45 (gr A.1.1)
  refine xQ.go 5 (F1 := (bif decide (1 = 0) then 385 else 350, [some (.ref 0), some (.int x), some (.int b), some (.ref 45), some (.ref 46), none, some (.int (nI (ec (gr A.1.1)))), some (.int x7), some (.int x8), some (.int x9), some (.int 1)], [], w)) rfl ?_
  refine xQ.brF (by decide) ?_
  obtain ⟨r1, w1, hc1, hr1, i1, kq1⟩ := c_isDrawn hI hG hf
  subst hr1
  refine xQ.go 2 (F1 := (352, [some (.ref 0), some (.int x), some (.int b), some (.ref 45), some (.ref 46), none, some (.int (nI (ec (gr A.1.1)))), some (.int x7), some (.int x8), some (.int x9), some (.int 1)], [.ref 45, .ref 0], w)) rfl ?_
  refine xQ.call rfl (hc1) ?_
  show xQ ML_isSo (355, [some (.ref 0), some (.int x), some (.int b), some (.ref 45), some (.ref 46), none, some (.int (nI (ec (gr A.1.1)))), some (.int x7), some (.int x8), some (.int x9), some (.int 1)], [.int 1], w1) _
  refine xQ.go 1 (F1 := (bif decide (1 = 0) then 385 else 358, [some (.ref 0), some (.int x), some (.int b), some (.ref 45), some (.ref 46), none, some (.int (nI (ec (gr A.1.1)))), some (.int x7), some (.int x8), some (.int x9), some (.int 1)], [], w1)) rfl ?_
  refine xQ.brF (by decide) ?_
  refine xQ.go 2 (F1 := (bif decide ((nI (ec (gr A.1.1))) = 0) then 381 else 363, [some (.ref 0), some (.int x), some (.int b), some (.ref 45), some (.ref 46), none, some (.int (nI (ec (gr A.1.1)))), some (.int x7), some (.int x8), some (.int x9), some (.int 1)], [], w1)) rfl ?_
  by_cases h0 : ec (gr A.1.1) = 0
  · refine xQ.brT (by rw [h0]; rfl) ?_
    refine xQ.go 2 (F1 := (386, [some (.ref 0), some (.int x), some (.int b), some (.ref 45), some (.ref 46), none, some (.int (nI (ec (gr A.1.1)))), some (.int x7), some (.int x8), some (.int x9), some (.int 1)], [.int 1], w1)) rfl ?_
    refine xQ.iret .boolean 1 rfl rfl (rfl) ?_
    exact K0 w1 i1 kq1
  · refine xQ.brF (decide_eq_false (jI_ne0 (by omega) (by omega))) ?_
    obtain ⟨r1, w2, hc2, hr1, i2, kq2⟩ := C_walks i1
    subst hr1
    rw [show qWalks A = nI (trG A.1.1 100).2.length by unfold qWalks; rw [if_pos hf]] at hc2
    have hpos : 0 < (trG A.1.1 100).2.length := by
      have hs := sum_len hf
      cases e : (trG A.1.1 100).2 with
      | nil =>
        rw [e] at hs
        have hs : 0 = 2 * ec (gr A.1.1) := hs
        omega
      | cons a l => simp
    have hlen := trG_len hf
    refine xQ.go 5 (F1 := (369, [some (.ref 0), some (.int x), some (.int b), some (.ref 45), some (.ref 46), none, some (.int (nI (ec (gr A.1.1)))), some (.int x7), some (.int x8), some (.int x9), some (.int 1)], [.ref 0, .int (x >>> (8 &&& 31)), .ref 0], w1)) rfl ?_
    refine xQ.call rfl (hc2) ?_
    show xQ ML_isSo (372, [some (.ref 0), some (.int x), some (.int b), some (.ref 45), some (.ref 46), none, some (.int (nI (ec (gr A.1.1)))), some (.int x7), some (.int x8), some (.int x9), some (.int 1)], [.int (nI (trG A.1.1 100).2.length), .int (x >>> (8 &&& 31)), .ref 0], w2) _
    refine xQ.call rfl (c_low hpos (by omega)) ?_
    show xQ ML_isSo (375, [some (.ref 0), some (.int x), some (.int b), some (.ref 45), some (.ref 46), none, some (.int (nI (ec (gr A.1.1)))), some (.int x7), some (.int x8), some (.int x9), some (.int 1)], [.int (nI (lowN (x >>> (8 &&& 31)) (trG A.1.1 100).2.length)), .ref 0], w2) _
    obtain ⟨r1, w3, hc3, hr1, i3, kq3⟩ := c_isWalk i2 hf (lowN_lt (x := x >>> (8 &&& 31)) hpos)
    subst hr1
    refine xQ.call rfl (hc3) ?_
    show xQ ML_isSo (378, [some (.ref 0), some (.int x), some (.int b), some (.ref 45), some (.ref 46), none, some (.int (nI (ec (gr A.1.1)))), some (.int x7), some (.int x8), some (.int x9), some (.int 1)], [.int 1], w3) _
    refine xQ.go 1 (F1 := (bif decide (1 = 0) then 385 else 381, [some (.ref 0), some (.int x), some (.int b), some (.ref 45), some (.ref 46), none, some (.int (nI (ec (gr A.1.1)))), some (.int x7), some (.int x8), some (.int x9), some (.int 1)], [], w3)) rfl ?_
    refine xQ.brF (by decide) ?_
    refine xQ.go 2 (F1 := (386, [some (.ref 0), some (.int x), some (.int b), some (.ref 45), some (.ref 46), none, some (.int (nI (ec (gr A.1.1)))), some (.int x7), some (.int x8), some (.int x9), some (.int 1)], [.int 1], w3)) rfl ?_
    refine xQ.iret .boolean 1 rfl rfl (rfl) ?_
    exact K0 w3 i3 (xkq_trans kq1 (xkq_trans kq2 kq3))
set_option maxRecDepth 10000 in
theorem c_so5 {w : xW} {A : xAb} {x b : Int32} {u v : Nat} {Q : Option Value → xW → Prop} (hf : fl A.1.1 = true) (hu : u < 10) (hv : v < 10) (hI : cI w A) (hG : gI w (gr A.1.1)) (K0 : ∀ w1, cI w1 A → xkq kC w w1 → Q (some (.int 1)) w1) : xQ ML_isSo (269, [some (.ref 0), some (.int x), some (.int b), some (.ref 45), some (.ref 46), none, some (.int (nI (ec (gr A.1.1)))), some (.int (nI u)), some (.int (nI v)), some (.int (if gr A.1.1 u v = true then 1 else 0)), none], [], w) Q := by
  obtain ⟨j1, j2⟩ := jn_pl hu hv hf
  obtain ⟨r1, w1, hc1, hr1, i1, kq1⟩ := C_plan hI
  subst hr1
  rw [show qPlan A = 1 from if_pos hf] at hc1
  refine xQ.go 1 (F1 := (270, [some (.ref 0), some (.int x), some (.int b), some (.ref 45), some (.ref 46), none, some (.int (nI (ec (gr A.1.1)))), some (.int (nI u)), some (.int (nI v)), some (.int (if gr A.1.1 u v = true then 1 else 0)), none], [.ref 0], w)) rfl ?_
  refine xQ.call rfl (hc1) ?_
  show xQ ML_isSo (273, [some (.ref 0), some (.int x), some (.int b), some (.ref 45), some (.ref 46), none, some (.int (nI (ec (gr A.1.1)))), some (.int (nI u)), some (.int (nI v)), some (.int (if gr A.1.1 u v = true then 1 else 0)), none], [.int 1], w1) _
  refine xQ.go 2 (F1 := (bif !decide (1 = 1) then 342 else 277, [some (.ref 0), some (.int x), some (.int b), some (.ref 45), some (.ref 46), none, some (.int (nI (ec (gr A.1.1)))), some (.int (nI u)), some (.int (nI v)), some (.int (if gr A.1.1 u v = true then 1 else 0)), none], [], w1)) rfl ?_
  refine xQ.brF (by decide) ?_
  obtain ⟨r1, w2, hc2, hr1, i2, kq2⟩ := C_forb (x := 0) i1
  subst hr1
  rw [show qForb A 0 = -5 by unfold qForb; rw [show (0 : Int32) = nI 0 from rfl, kI_of (by omega) (by omega)]; exact if_pos hf] at hc2
  refine xQ.go 2 (F1 := (279, [some (.ref 0), some (.int x), some (.int b), some (.ref 45), some (.ref 46), none, some (.int (nI (ec (gr A.1.1)))), some (.int (nI u)), some (.int (nI v)), some (.int (if gr A.1.1 u v = true then 1 else 0)), none], [.int 0, .ref 0], w1)) rfl ?_
  refine xQ.call rfl (hc2) ?_
  show xQ ML_isSo (282, [some (.ref 0), some (.int x), some (.int b), some (.ref 45), some (.ref 46), none, some (.int (nI (ec (gr A.1.1)))), some (.int (nI u)), some (.int (nI v)), some (.int (if gr A.1.1 u v = true then 1 else 0)), none], [.int (-5)], w2) _
  refine xQ.go 2 (F1 := (bif !decide ((-5) = (-5)) then 342 else 287, [some (.ref 0), some (.int x), some (.int b), some (.ref 45), some (.ref 46), none, some (.int (nI (ec (gr A.1.1)))), some (.int (nI u)), some (.int (nI v)), some (.int (if gr A.1.1 u v = true then 1 else 0)), none], [], w2)) rfl ?_
  refine xQ.brF (by decide) ?_
  obtain ⟨r1, w3, hc3, hr1, i3, kq3⟩ := C_inf (x := nI u) (y := nI v) i2
  subst hr1
  rw [j1] at hc3
  refine xQ.go 3 (F1 := (292, [some (.ref 0), some (.int x), some (.int b), some (.ref 45), some (.ref 46), none, some (.int (nI (ec (gr A.1.1)))), some (.int (nI u)), some (.int (nI v)), some (.int (if gr A.1.1 u v = true then 1 else 0)), none], [.int (nI v), .int (nI u), .ref 0], w2)) rfl ?_
  refine xQ.call rfl (hc3) ?_
  show xQ ML_isSo (295, [some (.ref 0), some (.int x), some (.int b), some (.ref 45), some (.ref 46), none, some (.int (nI (ec (gr A.1.1)))), some (.int (nI u)), some (.int (nI v)), some (.int (if gr A.1.1 u v = true then 1 else 0)), none], [.int (if gr A.1.1 u v = true then -5 else -1)], w3) _
  have k3 := xkq_trans kq1 (xkq_trans kq2 kq3)
  refine xQ.go 2 (F1 := (bif decide ((if gr A.1.1 u v = true then 1 else 0) = 0) then 305 else 300, [some (.ref 0), some (.int x), some (.int b), some (.ref 45), some (.ref 46), none, some (.int (nI (ec (gr A.1.1)))), some (.int (nI u)), some (.int (nI v)), some (.int (if gr A.1.1 u v = true then 1 else 0)), none], [.int (if gr A.1.1 u v = true then -5 else -1)], w3)) rfl ?_
  cases e : gr A.1.1 u v with
  | true =>
    refine xQ.brF (by decide) ?_
    show xQ ML_isSo (300, [some (.ref 0), some (.int x), some (.int b), some (.ref 45), some (.ref 46), none, some (.int (nI (ec (gr A.1.1)))), some (.int (nI u)), some (.int (nI v)), some (.int 1), none], [.int (-5)], w3) _
    refine xQ.go 3 (F1 := (bif !decide ((-5) = (-5)) then 342 else 309, [some (.ref 0), some (.int x), some (.int b), some (.ref 45), some (.ref 46), none, some (.int (nI (ec (gr A.1.1)))), some (.int (nI u)), some (.int (nI v)), some (.int 1), none], [], w3)) rfl ?_
    refine xQ.brF (by decide) ?_
    refine xQ.go 2 (F1 := (bif !decide (1 = 0) then 338 else 314, [some (.ref 0), some (.int x), some (.int b), some (.ref 45), some (.ref 46), none, some (.int (nI (ec (gr A.1.1)))), some (.int (nI u)), some (.int (nI v)), some (.int 1), none], [], w3)) rfl ?_
    refine xQ.brT (by decide) ?_
    exact c_so6 hf i3 (gI_kq hG k3) fun w4 a b => K0 w4 a (xkq_trans k3 b)
  | false =>
    refine xQ.brT (by decide) ?_
    show xQ ML_isSo (305, [some (.ref 0), some (.int x), some (.int b), some (.ref 45), some (.ref 46), none, some (.int (nI (ec (gr A.1.1)))), some (.int (nI u)), some (.int (nI v)), some (.int 0), none], [.int (-1)], w3) _
    refine xQ.go 2 (F1 := (bif !decide ((-1) = (-1)) then 342 else 309, [some (.ref 0), some (.int x), some (.int b), some (.ref 45), some (.ref 46), none, some (.int (nI (ec (gr A.1.1)))), some (.int (nI u)), some (.int (nI v)), some (.int 0), none], [], w3)) rfl ?_
    refine xQ.brF (by decide) ?_
    refine xQ.go 2 (F1 := (bif !decide (0 = 0) then 338 else 314, [some (.ref 0), some (.int x), some (.int b), some (.ref 45), some (.ref 46), none, some (.int (nI (ec (gr A.1.1)))), some (.int (nI u)), some (.int (nI v)), some (.int 0), none], [], w3)) rfl ?_
    refine xQ.brF (by decide) ?_
    obtain ⟨m1, m2⟩ := j2 e
    obtain ⟨r1, w4, hc4, hr1, i4, kq4⟩ := C_next (x := nI u) (y := nI v) i3
    subst hr1
    rw [m1] at hc4
    refine xQ.go 3 (F1 := (319, [some (.ref 0), some (.int x), some (.int b), some (.ref 45), some (.ref 46), none, some (.int (nI (ec (gr A.1.1)))), some (.int (nI u)), some (.int (nI v)), some (.int 0), none], [.int (nI v), .int (nI u), .ref 0], w3)) rfl ?_
    refine xQ.call rfl (hc4) ?_
    show xQ ML_isSo (322, [some (.ref 0), some (.int x), some (.int b), some (.ref 45), some (.ref 46), none, some (.int (nI (ec (gr A.1.1)))), some (.int (nI u)), some (.int (nI v)), some (.int 0), none], [.int (-1)], w4) _
    refine xQ.go 2 (F1 := (bif !decide ((-1) = (-1)) then 342 else 326, [some (.ref 0), some (.int x), some (.int b), some (.ref 45), some (.ref 46), none, some (.int (nI (ec (gr A.1.1)))), some (.int (nI u)), some (.int (nI v)), some (.int 0), none], [], w4)) rfl ?_
    refine xQ.brF (by decide) ?_
    obtain ⟨r1, w5, hc5, hr1, i5, kq5⟩ := C_wof (x := nI u) (y := nI v) i4
    subst hr1
    rw [m2] at hc5
    refine xQ.go 3 (F1 := (331, [some (.ref 0), some (.int x), some (.int b), some (.ref 45), some (.ref 46), none, some (.int (nI (ec (gr A.1.1)))), some (.int (nI u)), some (.int (nI v)), some (.int 0), none], [.int (nI v), .int (nI u), .ref 0], w4)) rfl ?_
    refine xQ.call rfl (hc5) ?_
    show xQ ML_isSo (334, [some (.ref 0), some (.int x), some (.int b), some (.ref 45), some (.ref 46), none, some (.int (nI (ec (gr A.1.1)))), some (.int (nI u)), some (.int (nI v)), some (.int 0), none], [.int (-1)], w5) _
    refine xQ.go 2 (F1 := (bif !decide ((-1) = (-1)) then 342 else 338, [some (.ref 0), some (.int x), some (.int b), some (.ref 45), some (.ref 46), none, some (.int (nI (ec (gr A.1.1)))), some (.int (nI u)), some (.int (nI v)), some (.int 0), none], [], w5)) rfl ?_
    refine xQ.brF (by decide) ?_
    have k5 := xkq_trans k3 (xkq_trans kq4 kq5)
    exact c_so6 hf i5 (gI_kq hG k5) fun w4 a b => K0 w4 a (xkq_trans k5 b)
/-- what isSo leaves behind -/
abbrev sV (w : xW) (A : xAb) (r : Option Value) (w1 : xW) : Prop := r = some (.int 1) ∧ cI w1 A ∧ xkq kS w w1 ∧ w1.1 48 0 = 0
set_option maxRecDepth 10000 in
theorem c_isSo {w : xW} {A : xAb} {x b : Int32} (hI : cI w A) (hG : gI w (gr A.1.1)) (hq : w.1 46 0 = A.1.2.1 ∧ w.1 46 1 = A.1.2.2) (h0 : w.1 48 0 = 0) (h1 : w.1 48 1 = 0) : xD ML_isSo [.ref 0, .int x, .int b, .ref 45, .ref 46] w (sV w A) := by
  refine xD.of ?_
  show xQ ML_isSo (0, [some (.ref 0), some (.int x), some (.int b), some (.ref 45), some (.ref 46), none, none, none, none, none, none], [], w) _
  refine c_so1 hI hG fun s1 ⟨i1, k1⟩ => ?_
  refine c_so2 i1 (gI_kq hG k1) ⟨((k1 46 0 rfl).1).trans hq.1, ((k1 46 1 rfl).1).trans hq.2⟩ fun s2 ⟨i2, k2⟩ => ?_
  have k2 := xkq_trans k1 k2
  refine c_so3 i2 (gI_kq hG k2) fun s u v hu hv i3 k3 => ?_
  have k3 := xkq_trans k2 k3
  have hG3 := gI_kq hG k3
  have h00 : s.1 48 0 = 0 := ((k3 48 0 rfl).1).trans h0
  have h11 : s.1 48 1 = 0 := ((k3 48 1 rfl).1).trans h1
  cases hf : fl A.1.1 with
  | true =>
    rw [show qPlan A = 1 from if_pos hf]
    refine xQ.go 1 (F1 := (bif !decide (1 = 0) then 269 else 171, [some (.ref 0), some (.int x), some (.int b), some (.ref 45), some (.ref 46), none, some (.int (nI (ec (gr A.1.1)))), some (.int (nI u)), some (.int (nI v)), some (.int (if gr A.1.1 u v = true then 1 else 0)), none], [], s)) rfl ?_
    refine xQ.brT (by decide) ?_
    exact c_so5 hf hu hv i3 hG3 fun w1 a c => ⟨rfl, a, kS_of (xkq_trans k3 c), ((c 48 0 rfl).1).trans h00⟩
  | false =>
    have hnf : ¬ fl A.1.1 = true := by rw [hf]; exact Bool.false_ne_true
    rw [show qPlan A = 0 from if_neg hnf]
    refine xQ.go 1 (F1 := (bif !decide (0 = 0) then 269 else 171, [some (.ref 0), some (.int x), some (.int b), some (.ref 45), some (.ref 46), none, some (.int (nI (ec (gr A.1.1)))), some (.int (nI u)), some (.int (nI v)), some (.int (if gr A.1.1 u v = true then 1 else 0)), none], [], s)) rfl ?_
    refine xQ.brF (by decide) ?_
    refine xQ.go 2 (F1 := (bif decide (b = 0) then 183 else 175, [some (.ref 0), some (.int x), some (.int b), some (.ref 45), some (.ref 46), none, some (.int (nI (ec (gr A.1.1)))), some (.int (nI u)), some (.int (nI v)), some (.int (if gr A.1.1 u v = true then 1 else 0)), none], [], s)) rfl ?_
    by_cases hb : b = 0
    · refine xQ.brT (decide_eq_true hb) ?_
      exact c_so4 hf hu hv i3 fun w1 a c => ⟨rfl, a, kS_of (xkq_trans k3 c), ((c 48 0 rfl).1).trans h00⟩
    · refine xQ.brF (decide_eq_false hb) ?_
      refine xQ.go 2 (F1 := (177, [some (.ref 0), some (.int x), some (.int b), some (.ref 45), some (.ref 46), none, some (.int (nI (ec (gr A.1.1)))), some (.int (nI u)), some (.int (nI v)), some (.int (if gr A.1.1 u v = true then 1 else 0)), none], [.ref 45, .ref 0], s)) rfl ?_
      have kn := xnew_kq s
      have iN : cI (xnew s) A := cI_kq i3 kn
      obtain ⟨r2, w3, hbd, hr2, i4, k4⟩ := c_isForb iN (fun a ha => ((kn 45 a rfl).1).trans (hG3 a ha)) (fun _ _ => rfl) hf
      subst hr2
      have e0 : w3.1 48 0 = 1 := (k4 48 0 rfl).1
      have e1 : w3.1 48 1 = 0 := ((k4 48 1 rfl).1).trans h11
      have ke := xend_kq w3
      refine xQ.forb (r2 := some (.int 1)) rfl h00 h11 e0 e1 hbd ?_
      show xQ ML_isSo (180, [some (.ref 0), some (.int x), some (.int b), some (.ref 45), some (.ref 46), none, some (.int (nI (ec (gr A.1.1)))), some (.int (nI u)), some (.int (nI v)), some (.int (if gr A.1.1 u v = true then 1 else 0)), none], [.int 1], xend w3) _
      refine xQ.go 1 (F1 := (bif decide (1 = 0) then 267 else 183, [some (.ref 0), some (.int x), some (.int b), some (.ref 45), some (.ref 46), none, some (.int (nI (ec (gr A.1.1)))), some (.int (nI u)), some (.int (nI v)), some (.int (if gr A.1.1 u v = true then 1 else 0)), none], [], xend w3)) rfl ?_
      refine xQ.brF (by decide) ?_
      exact c_so4 hf hu hv (cI_kq i4 ke) fun w1 a c => ⟨rfl, a, xkq_trans (kS_of k3) (xkq_trans (kS_8 kn) (xkq_trans (kS_F k4) (xkq_trans (kS_8 ke) (kS_of c)))), ((c 48 0 rfl).1).trans rfl⟩
