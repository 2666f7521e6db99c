abbrev kS : xCS := (47, none) :: (48, none) :: kC
theorem kS_of {w w1 : xW} (h : xkq kC w w1) : xkq kS w w1 := xkq_mono (by decide +kernel) h
theorem kS_F {w w1 : xW} (h : xkq kF w w1) : xkq kS w w1 := xkq_mono (by decide +kernel) h
theorem kS_8 {w w1 : xW} (h : xkq [(47, none), (48, none)] w w1) : xkq kS w w1 := xkq_mono (by decide +kernel) h
theorem xnew_kq (w : xW) : xkq [(47, none), (48, none)] w (xnew w) := fun a j h => by
  have h7 : a ≠ 47 := fun e => by rw [e] at h; cases h
  have h8 : a ≠ 48 := fun e => by rw [e] at h; cases h
  refine ⟨?_, rfl⟩
  show xup (xup w.1 47 (fun _ => 0)) 48 _ a j = _
  rw [xup_ne _ _ h8, xup_ne _ _ h7]
theorem xend_kq (w : xW) : xkq [(47, none), (48, none)] w (xend w) := fun a j h => by
  have h8 : a ≠ 48 := fun e => by rw [e] at h; cases h
  refine ⟨?_, rfl⟩
  show xup w.1 48 _ a j = _
  rw [xup_ne _ _ h8]
theorem xQ.forb {M : xMI} {F F1 : xF} {r2 : Option Value} {w3 : xW} {Q : Option Value → xW → Prop} (h : xcal M F = some (ML_isForbidden, [.ref 0, .ref 45], F1)) (h0 : F.2.2.2.1 48 0 = 0) (h1 : F.2.2.2.1 48 1 = 0) (h2 : w3.1 48 0 = 1) (h3 : w3.1 48 1 = 0) (b : xE ML_isForbidden (xfe F.2.2.2) r2 w3) (k : xQ M (xpsh F1 r2 (xend w3)) Q) : xQ M F Q := xQ.lift (fun _ _ => xE.forb h h0 h1 h2 h3 b) k
/-- what an edge's question answers -/
theorem jn_at {A : xAb} {u v : Nat} (hu : u < 10) (hv : v < 10) (hf : fl A.1.1 = false) : qNext A (nI u) (nI v) = (if gr A.1.1 u v = true then -4 else -1) ∧ qWOf A (nI u) (nI v) = (if gr A.1.1 u v = true then -4 else -1) ∧ (gr A.1.1 u v = false → qInF A (nI u) (nI v) = -1) := by
  have hnf : ¬ fl A.1.1 = true := by rw [hf]; exact Bool.false_ne_true
  refine ⟨?_, ?_, fun h => ?_⟩
  · unfold qNext vI
    rw [kI_of hu (by omega), kI_of hv (by omega)]
    dsimp only
    rw [if_neg hnf]
  · unfold qWOf vI
    rw [kI_of hu (by omega), kI_of hv (by omega)]
    dsimp only
    rw [if_neg hnf]
  · unfold qInF vI
    rw [kI_of hu (by omega), kI_of hv (by omega)]
    dsimp only
    rw [h, if_neg Bool.false_ne_true]
theorem ec_obs (e : Int64) : ec (gr (obs e 100)) ≤ ec (gr e) := sm_le fun i _ => cnt_mono fun v _ h => obs_sub e h
set_option maxRecDepth 10000 in
theorem c_so3 {w : xW} {A : xAb} {x b : Int32} {Q : Option Value → xW → Prop} (hI : cI w A) (hG : gI w (gr A.1.1)) (K0 : ∀ (s : xW) (u v : Nat), u < 10 → v < 10 → cI s A → xkq kC w s → xQ ML_isSo (168, [some (.ref 0), some (.int x), some (.int b), some (.ref 45), some (.ref 46), none, some (.int (nI (ec (gr A.1.1)))), some (.int (nI u)), some (.int (nI v)), some (.int (if gr A.1.1 u v = true then 1 else 0)), none], [.int (qPlan A)], s) Q) : xQ ML_isSo (126, [some (.ref 0), some (.int x), some (.int b), some (.ref 45), some (.ref 46), none, some (.int (nI (ec (gr A.1.1)))), none, none, none, none], [], w) Q := by
  refine xQ.go 2 (F1 := (129, [some (.ref 0), some (.int x), some (.int b), some (.ref 45), some (.ref 46), none, some (.int (nI (ec (gr A.1.1)))), none, none, none, none], [.int 10, .int x], w)) rfl ?_
  refine xQ.call rfl (c_low (m := 10) (by omega) (by omega)) ?_
  show xQ ML_isSo (132, [some (.ref 0), some (.int x), some (.int b), some (.ref 45), some (.ref 46), none, some (.int (nI (ec (gr A.1.1)))), none, none, none, none], [.int (nI (lowN x 10))], w) _
  refine xQ.go 5 (F1 := (139, [some (.ref 0), some (.int x), some (.int b), some (.ref 45), some (.ref 46), none, some (.int (nI (ec (gr A.1.1)))), some (.int (nI (lowN x 10))), none, none, none], [.int 10, .int (x >>> (4 &&& 31))], w)) rfl ?_
  refine xQ.call rfl (c_low (m := 10) (by omega) (by omega)) ?_
  show xQ ML_isSo (142, [some (.ref 0), some (.int x), some (.int b), some (.ref 45), some (.ref 46), none, some (.int (nI (ec (gr A.1.1)))), some (.int (nI (lowN x 10))), none, none, none], [.int (nI (lowN (x >>> (4 &&& 31)) 10))], w) _
  have hu : lowN x 10 < 10 := lowN_lt (by omega)
  have hv : lowN (x >>> (4 &&& 31)) 10 < 10 := lowN_lt (by omega)
  generalize lowN x 10 = u at hu ⊢
  generalize lowN (x >>> (4 &&& 31)) 10 = v at hv ⊢
  show xQ ML_isSo (142, [some (.ref 0), some (.int x), some (.int b), some (.ref 45), some (.ref 46), none, some (.int (nI (ec (gr A.1.1)))), some (.int (nI u)), none, none, none], [.int (nI v)], w) _
  obtain ⟨r1, w1, hc1, hr1, i1, kq1⟩ := C_plan hI
  subst hr1
  have K1 := K0 w1 u v hu hv i1 kq1
  refine xQ.go 3 (F1 := (147, [some (.ref 0), some (.int x), some (.int b), some (.ref 45), some (.ref 46), none, some (.int (nI (ec (gr A.1.1)))), some (.int (nI u)), some (.int (nI v)), none, none], [.int (nI u), .ref 45], w)) rfl ?_
  refine xQ.iald rfl (k := u) (rfl) (⟨by omega, by omega⟩) rfl ?_
  show xQ ML_isSo (148, [some (.ref 0), some (.int x), some (.int b), some (.ref 45), some (.ref 46), none, some (.int (nI (ec (gr A.1.1)))), some (.int (nI u)), some (.int (nI v)), none, none], [.int (w.1 45 u)], w) _
  rw [hG u hu]
  refine xQ.go 6 (F1 := (bif !decide ((((mk (gr A.1.1 u)) >>> ((nI v) &&& 31)) &&& 1) = 1) then 161 else 157, [some (.ref 0), some (.int x), some (.int b), some (.ref 45), some (.ref 46), none, some (.int (nI (ec (gr A.1.1)))), some (.int (nI u)), some (.int (nI v)), none, none], [], w)) rfl ?_
  rw [mk_get _ hv]
  cases e : gr A.1.1 u v with
  | true =>
    rw [e] at K1
    refine xQ.brF (by decide) ?_
    refine xQ.go 4 (F1 := (165, [some (.ref 0), some (.int x), some (.int b), some (.ref 45), some (.ref 46), none, some (.int (nI (ec (gr A.1.1)))), some (.int (nI u)), some (.int (nI v)), some (.int 1), none], [.ref 0], w)) rfl ?_
    refine xQ.call rfl (hc1) ?_
    show xQ ML_isSo (168, [some (.ref 0), some (.int x), some (.int b), some (.ref 45), some (.ref 46), none, some (.int (nI (ec (gr A.1.1)))), some (.int (nI u)), some (.int (nI v)), some (.int 1), none], [.int (qPlan A)], w1) _
    exact K1
  | false =>
    rw [e] at K1
    refine xQ.brT (by decide) ?_
    refine xQ.go 3 (F1 := (165, [some (.ref 0), some (.int x), some (.int b), some (.ref 45), some (.ref 46), none, some (.int (nI (ec (gr A.1.1)))), some (.int (nI u)), some (.int (nI v)), some (.int 0), none], [.ref 0], w)) rfl ?_
    refine xQ.call rfl (hc1) ?_
    show xQ ML_isSo (168, [some (.ref 0), some (.int x), some (.int b), some (.ref 45), some (.ref 46), none, some (.int (nI (ec (gr A.1.1)))), some (.int (nI u)), some (.int (nI v)), some (.int 0), none], [.int (qPlan A)], w1) _
    exact K1
set_option maxRecDepth 10000 in
theorem c_so4 {w : xW} {A : xAb} {x b : Int32} {u v : Nat} {Q : Option Value → xW → Prop} (hf : fl A.1.1 = false) (hu : u < 10) (hv : v < 10) (hI : cI w A) (K0 : ∀ w1, cI w1 A → xkq kC w w1 → Q (some (.int 1)) w1) : xQ ML_isSo (183, [some (.ref 0), some (.int x), some (.int b), some (.ref 45), some (.ref 46), none, some (.int (nI (ec (gr A.1.1)))), some (.int (nI u)), some (.int (nI v)), some (.int (if gr A.1.1 u v = true then 1 else 0)), none], [], w) Q := by
  have h45 := ec_45 (gr A.1.1)
  have hle := ec_obs A.1.1
  have hnf : ¬ fl A.1.1 = true := by rw [hf]; exact Bool.false_ne_true
  obtain ⟨j1, j2, j3⟩ := jn_at hu hv hf
  obtain ⟨r1, w1, hc1, hr1, i1, kq1⟩ := C_forb (x := 0) hI
  subst hr1
  rw [show qForb A 0 = nI (ec (gr (obs A.1.1 100))) from qForb_at (k := 0) hf (by omega)] at hc1
  refine xQ.go 2 (F1 := (185, [some (.ref 0), some (.int x), some (.int b), some (.ref 45), some (.ref 46), none, some (.int (nI (ec (gr A.1.1)))), some (.int (nI u)), some (.int (nI v)), some (.int (if gr A.1.1 u v = true then 1 else 0)), none], [.int 0, .ref 0], w)) rfl ?_
  refine xQ.call rfl (hc1) ?_
  show xQ ML_isSo (188, [some (.ref 0), some (.int x), some (.int b), some (.ref 45), some (.ref 46), none, some (.int (nI (ec (gr A.1.1)))), some (.int (nI u)), some (.int (nI v)), some (.int (if gr A.1.1 u v = true then 1 else 0)), none], [.int (nI (ec (gr (obs A.1.1 100))))], w1) _
  refine xQ.go 2 (F1 := (bif decide ((nI (ec (gr A.1.1))) < (nI (ec (gr (obs A.1.1 100))))) then 267 else 193, [some (.ref 0), some (.int x), some (.int b), some (.ref 45), some (.ref 46), none, some (.int (nI (ec (gr A.1.1)))), some (.int (nI u)), some (.int (nI v)), some (.int (if gr A.1.1 u v = true then 1 else 0)), none], [], w1)) rfl ?_
  refine xQ.brF (by rw [nI_declt (by omega) (by omega)]; exact decide_eq_false (by omega)) ?_
  obtain ⟨r1, w2, hc2, hr1, i2, kq2⟩ := C_walks i1
  subst hr1
  rw [show qWalks A = -4 from if_neg hnf] at hc2
  refine xQ.go 1 (F1 := (194, [some (.ref 0), some (.int x), some (.int b), some (.ref 45), some (.ref 46), none, some (.int (nI (ec (gr A.1.1)))), some (.int (nI u)), some (.int (nI v)), some (.int (if gr A.1.1 u v = true then 1 else 0)), none], [.ref 0], w1)) rfl ?_
  refine xQ.call rfl (hc2) ?_
  show xQ ML_isSo (197, [some (.ref 0), some (.int x), some (.int b), some (.ref 45), some (.ref 46), none, some (.int (nI (ec (gr A.1.1)))), some (.int (nI u)), some (.int (nI v)), some (.int (if gr A.1.1 u v = true then 1 else 0)), none], [.int (-4)], w2) _
  refine xQ.go 2 (F1 := (bif !decide ((-4) = (-4)) then 267 else 202, [some (.ref 0), some (.int x), some (.int b), some (.ref 45), some (.ref 46), none, some (.int (nI (ec (gr A.1.1)))), some (.int (nI u)), some (.int (nI v)), some (.int (if gr A.1.1 u v = true then 1 else 0)), none], [], w2)) rfl ?_
  refine xQ.brF (by decide) ?_
  obtain ⟨r1, w3, hc3, hr1, i3, kq3⟩ := C_next (x := nI u) (y := nI v) i2
  subst hr1
  rw [j1] at hc3
  refine xQ.go 3 (F1 := (207, [some (.ref 0), some (.int x), some (.int b), some (.ref 45), some (.ref 46), none, some (.int (nI (ec (gr A.1.1)))), some (.int (nI u)), some (.int (nI v)), some (.int (if gr A.1.1 u v = true then 1 else 0)), none], [.int (nI v), .int (nI u), .ref 0], w2)) rfl ?_
  refine xQ.call rfl (hc3) ?_
  show xQ ML_isSo (210, [some (.ref 0), some (.int x), some (.int b), some (.ref 45), some (.ref 46), none, some (.int (nI (ec (gr A.1.1)))), some (.int (nI u)), some (.int (nI v)), some (.int (if gr A.1.1 u v = true then 1 else 0)), none], [.int (if gr A.1.1 u v = true then -4 else -1)], w3) _
  obtain ⟨r1, w4, hc4, hr1, i4, kq4⟩ := C_wof (x := nI u) (y := nI v) i3
  subst hr1
  rw [j2] at hc4
  have k4 := xkq_trans kq1 (xkq_trans kq2 (xkq_trans kq3 kq4))
  refine xQ.go 2 (F1 := (bif decide ((if gr A.1.1 u v = true then 1 else 0) = 0) then 220 else 215, [some (.ref 0), some (.int x), some (.int b), some (.ref 45), some (.ref 46), none, some (.int (nI (ec (gr A.1.1)))), some (.int (nI u)), some (.int (nI v)), some (.int (if gr A.1.1 u v = true then 1 else 0)), none], [.int (if gr A.1.1 u v = true then -4 else -1)], w3)) rfl ?_
  cases e : gr A.1.1 u v with
  | true =>
    refine xQ.brF (by decide) ?_
    show xQ ML_isSo (215, [some (.ref 0), some (.int x), some (.int b), some (.ref 45), some (.ref 46), none, some (.int (nI (ec (gr A.1.1)))), some (.int (nI u)), some (.int (nI v)), some (.int 1), none], [.int (-4)], w3) _
    refine xQ.go 3 (F1 := (bif !decide ((-4) = (-4)) then 267 else 224, [some (.ref 0), some (.int x), some (.int b), some (.ref 45), some (.ref 46), none, some (.int (nI (ec (gr A.1.1)))), some (.int (nI u)), some (.int (nI v)), some (.int 1), none], [], w3)) rfl ?_
    refine xQ.brF (by decide) ?_
    rw [e] at hc4
    refine xQ.go 3 (F1 := (229, [some (.ref 0), some (.int x), some (.int b), some (.ref 45), some (.ref 46), none, some (.int (nI (ec (gr A.1.1)))), some (.int (nI u)), some (.int (nI v)), some (.int 1), none], [.int (nI v), .int (nI u), .ref 0], w3)) rfl ?_
    refine xQ.call rfl (hc4) ?_
    show xQ ML_isSo (232, [some (.ref 0), some (.int x), some (.int b), some (.ref 45), some (.ref 46), none, some (.int (nI (ec (gr A.1.1)))), some (.int (nI u)), some (.int (nI v)), some (.int 1), none], [.int (-4)], w4) _
    refine xQ.go 2 (F1 := (bif decide (1 = 0) then 242 else 237, [some (.ref 0), some (.int x), some (.int b), some (.ref 45), some (.ref 46), none, some (.int (nI (ec (gr A.1.1)))), some (.int (nI u)), some (.int (nI v)), some (.int 1), none], [.int (-4)], w4)) rfl ?_
    refine xQ.brF (by decide) ?_
    refine xQ.go 3 (F1 := (bif !decide ((-4) = (-4)) then 267 else 246, [some (.ref 0), some (.int x), some (.int b), some (.ref 45), some (.ref 46), none, some (.int (nI (ec (gr A.1.1)))), some (.int (nI u)), some (.int (nI v)), some (.int 1), none], [], w4)) rfl ?_
    refine xQ.brF (by decide) ?_
    refine xQ.go 2 (F1 := (bif !decide (1 = 0) then 263 else 251, [some (.ref 0), some (.int x), some (.int b), some (.ref 45), some (.ref 46), none, some (.int (nI (ec (gr A.1.1)))), some (.int (nI u)), some (.int (nI v)), some (.int 1), none], [], w4)) rfl ?_
    refine xQ.brT (by decide) ?_
    refine xQ.go 2 (F1 := (268, [some (.ref 0), some (.int x), some (.int b), some (.ref 45), some (.ref 46), none, some (.int (nI (ec (gr A.1.1)))), some (.int (nI u)), some (.int (nI v)), some (.int 1), none], [.int 1], w4)) rfl ?_
    refine xQ.iret .boolean 1 rfl rfl (rfl) ?_
    exact K0 w4 i4 k4
  | false =>
    refine xQ.brT (by decide) ?_
    show xQ ML_isSo (220, [some (.ref 0), some (.int x), some (.int b), some (.ref 45), some (.ref 46), none, some (.int (nI (ec (gr A.1.1)))), some (.int (nI u)), some (.int (nI v)), some (.int 0), none], [.int (-1)], w3) _
    refine xQ.go 2 (F1 := (bif !decide ((-1) = (-1)) then 267 else 224, [some (.ref 0), some (.int x), some (.int b), some (.ref 45), some (.ref 46), none, some (.int (nI (ec (gr A.1.1)))), some (.int (nI u)), some (.int (nI v)), some (.int 0), none], [], w3)) rfl ?_
    refine xQ.brF (by decide) ?_
    rw [e] at hc4
    refine xQ.go 3 (F1 := (229, [some (.ref 0), some (.int x), some (.int b), some (.ref 45), some (.ref 46), none, some (.int (nI (ec (gr A.1.1)))), some (.int (nI u)), some (.int (nI v)), some (.int 0), none], [.int (nI v), .int (nI u), .ref 0], w3)) rfl ?_
    refine xQ.call rfl (hc4) ?_
    show xQ ML_isSo (232, [some (.ref 0), some (.int x), some (.int b), some (.ref 45), some (.ref 46), none, some (.int (nI (ec (gr A.1.1)))), some (.int (nI u)), some (.int (nI v)), some (.int 0), none], [.int (-1)], w4) _
    refine xQ.go 2 (F1 := (bif decide (0 = 0) then 242 else 237, [some (.ref 0), some (.int x), some (.int b), some (.ref 45), some (.ref 46), none, some (.int (nI (ec (gr A.1.1)))), some (.int (nI u)), some (.int (nI v)), some (.int 0), none], [.int (-1)], w4)) rfl ?_
    refine xQ.brT (by decide) ?_
    refine xQ.go 2 (F1 := (bif !decide ((-1) = (-1)) then 267 else 246, [some (.ref 0), some (.int x), some (.int b), some (.ref 45), some (.ref 46), none, some (.int (nI (ec (gr A.1.1)))), some (.int (nI u)), some (.int (nI v)), some (.int 0), none], [], w4)) rfl ?_
    refine xQ.brF (by decide) ?_
    refine xQ.go 2 (F1 := (bif !decide (0 = 0) then 263 else 251, [some (.ref 0), some (.int x), some (.int b), some (.ref 45), some (.ref 46), none, some (.int (nI (ec (gr A.1.1)))), some (.int (nI u)), some (.int (nI v)), some (.int 0), none], [], w4)) rfl ?_
    refine xQ.brF (by decide) ?_
    obtain ⟨r1, w5, hc5, hr1, i5, kq5⟩ := C_inf (x := nI u) (y := nI v) i4
    subst hr1
    rw [j3 e] at hc5
    refine xQ.go 3 (F1 := (256, [some (.ref 0), some (.int x), some (.int b), some (.ref 45), some (.ref 46), none, some (.int (nI (ec (gr A.1.1)))), some (.int (nI u)), some (.int (nI v)), some (.int 0), none], [.int (nI v), .int (nI u), .ref 0], w4)) rfl ?_
    refine xQ.call rfl (hc5) ?_
    show xQ ML_isSo (259, [some (.ref 0), some (.int x), some (.int b), some (.ref 45), some (.ref 46), none, some (.int (nI (ec (gr A.1.1)))), some (.int (nI u)), some (.int (nI v)), some (.int 0), none], [.int (-1)], w5) _
    refine xQ.go 2 (F1 := (bif !decide ((-1) = (-1)) then 267 else 263, [some (.ref 0), some (.int x), some (.int b), some (.ref 45), some (.ref 46), none, some (.int (nI (ec (gr A.1.1)))), some (.int (nI u)), some (.int (nI v)), some (.int 0), none], [], w5)) rfl ?_
    refine xQ.brF (by decide) ?_
    refine xQ.go 2 (F1 := (268, [some (.ref 0), some (.int x), some (.int b), some (.ref 45), some (.ref 46), none, some (.int (nI (ec (gr A.1.1)))), some (.int (nI u)), some (.int (nI v)), some (.int 0), none], [.int 1], w5)) rfl ?_
    refine xQ.iret .boolean 1 rfl rfl (rfl) ?_
    exact K0 w5 i5 (xkq_trans k4 kq5)
