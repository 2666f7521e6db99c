/-! isSo -/
theorem cmp_rep {G : Nat → Nat → Bool} (hg : gok G) : ∀ k, k ≤ 10 → (cmpS G k).2 = cnt (rep G) k ∧ ∀ v, v < 10 → ((cmpS G k).1 v = true ↔ ∃ u, u < k ∧ kc G u v = true)
  | 0, _ => ⟨rfl, fun v _ => ⟨(fun h => by cases h), (fun ⟨u, h, _⟩ => by omega)⟩⟩
  | k + 1, hk => by
    obtain ⟨h1, h2⟩ := cmp_rep hg k (by omega)
    have e : cmpS G (k + 1) = if (cmpS G k).1 k then cmpS G k else (fun v => (cmpS G k).1 v || rch G (fun _ => true) (fun z => decide (z = k)) v, (cmpS G k).2 + 1) := rfl
    have ec : cnt (rep G) (k + 1) = cnt (rep G) k + (bif rep G k then 1 else 0) := rfl
    have sym : ∀ u v, u < 10 → v < 10 → kc G u v = true → kc G v u = true := fun u v hu hv h => con_sym (A := fun _ => true) hg.1 hu hv h
    have tr : ∀ u v z, z < 10 → kc G u v = true → kc G v z = true → kc G u z = true := fun u v z hz a b => con_trans (A := fun _ => true) a b hz
    cases hs : (cmpS G k).1 k with
    | true =>
      obtain ⟨u, hu, hk1⟩ := (h2 k (by omega)).mp hs
      rw [e, hs, ec, if_pos rfl]
      have hr : rep G k = false := by
        unfold rep
        refine decide_eq_false fun z => ?_
        have := low_of (sym u k (by omega) (by omega) hk1) (by omega)
        omega
      rw [hr]
      refine ⟨h1, fun v hv => ⟨fun h => ?_, fun ⟨x, hx, h⟩ => ?_⟩⟩
      · obtain ⟨x, hx, h⟩ := (h2 v hv).mp h
        exact ⟨x, by omega, h⟩
      · by_cases hxk : x = k
        · rw [hxk] at h
          exact (h2 v hv).mpr ⟨u, hu, tr _ _ _ hv hk1 h⟩
        · exact (h2 v hv).mpr ⟨x, by omega, h⟩
    | false =>
      rw [e, hs, ec, if_neg Bool.false_ne_true]
      have hr : rep G k = true := by
        unfold rep
        refine decide_eq_true (low_eq (by omega) (kc_self G k) fun u hu => ?_)
        cases q : kc G k u with
        | false => rfl
        | true =>
          rw [(h2 k (by omega)).mpr ⟨u, hu, sym k u (by omega) (by omega) q⟩] at hs
          cases hs
      rw [hr]
      refine ⟨by show (cmpS G k).2 + 1 = _; rw [h1]; rfl, fun v hv => ?_⟩
      show ((cmpS G k).1 v || kc G k v) = true ↔ _
      rw [Bool.or_eq_true, h2 v hv]
      constructor
      · rintro (⟨x, hx, h⟩ | h)
        · exact ⟨x, by omega, h⟩
        · exact ⟨k, by omega, h⟩
      · rintro ⟨x, hx, h⟩
        by_cases hxk : x = k
        · rw [hxk] at h
          exact Or.inr h
        · exact Or.inl ⟨x, by omega, h⟩
theorem cnt_sc (S : Nat → Bool) (k : Nat) : nI (cnt S k) + (if S k = true then 1 else 0) = nI (cnt S (k + 1)) := by
  show _ = nI (cnt S k + (bif S k then 1 else 0))
  cases S k with
  | true => exact (nI_succ _).symm
  | false => exact Int32.add_zero _
theorem qNb_at {A : xAb} {k : Nat} (hk : k < 10) : qNb A (nI k) = mk (gr A.1.1 k) := by
  unfold qNb vI
  rw [kI_of hk (by omega)]
set_option maxRecDepth 10000 in
theorem c_so1 {w : xW} {A : xAb} {x b : Int32} {Q : Option Value → xW → Prop} (hI : cI w A) (hG : gI w (gr A.1.1)) (K0 : ∀ s, cI s A ∧ xkq kC w s → xQ ML_isSo (58, [some (.ref 0), some (.int x), some (.int b), some (.ref 45), some (.ref 46), some (.int (nI (cnt (rep (gr A.1.1)) 10))), none, none, none, none, none], [], s) Q) : xQ ML_isSo (0, [some (.ref 0), some (.int x), some (.int b), some (.ref 45), some (.ref 46), none, none, none, none, none, none], [], w) Q := by
  refine xQ.go 4 (F1 := (6, [some (.ref 0), some (.int x), some (.int b), some (.ref 45), some (.ref 46), some (.int 0), some (.int 0), none, none, none, none], [], w)) rfl ?_
  refine xQ.loop (S := xW) (fun k s => (6, [some (.ref 0), some (.int x), some (.int b), some (.ref 45), some (.ref 46), some (.int (nI (cnt (rep (gr A.1.1)) k))), some (.int (nI k)), none, none, none, none], [], s)) (fun _ s => cI s A ∧ xkq kC w s) 10 w (rfl) (⟨hI, xkq_rfl⟩) ?_ ?_
  · intro k s hk hI K
    obtain ⟨hI1, hk1⟩ := hI
    have hG1 := gI_kq hG hk1
    have rest : xQ ML_isSo (34, [some (.ref 0), some (.int x), some (.int b), some (.ref 45), some (.ref 46), some (.int (nI (cnt (rep (gr A.1.1)) k))), some (.int (nI k)), none, none, none, none], [.int (if rep (gr A.1.1) k = true then 1 else 0), .int (nI (cnt (rep (gr A.1.1)) k))], s) Q := by
      refine xQ.go 1 (F1 := (35, [some (.ref 0), some (.int x), some (.int b), some (.ref 45), some (.ref 46), some (.int (nI (cnt (rep (gr A.1.1)) k))), some (.int (nI k)), none, none, none, none], [.int ((nI (cnt (rep (gr A.1.1)) k)) + (if rep (gr A.1.1) k = true then 1 else 0))], s)) rfl ?_
      rw [cnt_sc]
      obtain ⟨r1, w1, hc1, hr1, i1, kq1⟩ := C_nb (x := nI k) hI1
      subst hr1
      rw [qNb_at hk] at hc1
      refine xQ.go 3 (F1 := (40, [some (.ref 0), some (.int x), some (.int b), some (.ref 45), some (.ref 46), some (.int (nI (cnt (rep (gr A.1.1)) (k + 1)))), some (.int (nI k)), none, none, none, none], [.int (nI k), .ref 0], s)) rfl ?_
      refine xQ.call rfl (hc1) ?_
      show xQ ML_isSo (43, [some (.ref 0), some (.int x), some (.int b), some (.ref 45), some (.ref 46), some (.int (nI (cnt (rep (gr A.1.1)) (k + 1)))), some (.int (nI k)), none, none, none, none], [.int (mk (gr A.1.1 k))], w1) _
      refine xQ.go 2 (F1 := (46, [some (.ref 0), some (.int x), some (.int b), some (.ref 45), some (.ref 46), some (.int (nI (cnt (rep (gr A.1.1)) (k + 1)))), some (.int (nI k)), none, none, none, none], [.int (nI k), .ref 45, .int (mk (gr A.1.1 k))], w1)) rfl ?_
      refine xQ.iald rfl (k := k) (rfl) (⟨by omega, by omega⟩) rfl ?_
      show xQ ML_isSo (47, [some (.ref 0), some (.int x), some (.int b), some (.ref 45), some (.ref 46), some (.int (nI (cnt (rep (gr A.1.1)) (k + 1)))), some (.int (nI k)), none, none, none, none], [.int (w1.1 45 k), .int (mk (gr A.1.1 k))], w1) _
      rw [gI_kq hG1 kq1 k hk]
      refine xQ.go 1 (F1 := (bif decide ((mk (gr A.1.1 k)) = (mk (gr A.1.1 k))) then 52 else 50, [some (.ref 0), some (.int x), some (.int b), some (.ref 45), some (.ref 46), some (.int (nI (cnt (rep (gr A.1.1)) (k + 1)))), some (.int (nI k)), none, none, none, none], [], w1)) rfl ?_
      refine xQ.brT (by simp) ?_
      refine xQ.go 2 (F1 := (6, [some (.ref 0), some (.int x), some (.int b), some (.ref 45), some (.ref 46), some (.int (nI (cnt (rep (gr A.1.1)) (k + 1)))), some (.int ((nI k) + 1)), none, none, none, none], [], w1)) rfl ?_
      rw [← nI_succ]
      exact K w1 ⟨i1, xkq_trans hk1 kq1⟩
    refine xQ.go 3 (F1 := (bif decide (10 ≤ (nI k)) then 58 else 13, [some (.ref 0), some (.int x), some (.int b), some (.ref 45), some (.ref 46), some (.int (nI (cnt (rep (gr A.1.1)) k))), some (.int (nI k)), none, none, none, none], [], s)) rfl ?_
    refine xQ.brF (decide_eq_false (nI_ge (b := 10) (by omega) (by omega))) ?_
    refine xQ.go 3 (F1 := (18, [some (.ref 0), some (.int x), some (.int b), some (.ref 45), some (.ref 46), some (.int (nI (cnt (rep (gr A.1.1)) k))), some (.int (nI k)), none, none, none, none], [.ref 45, .int (nI k), .int (nI (cnt (rep (gr A.1.1)) k))], s)) rfl ?_
    refine xQ.call rfl (c_joined hk hG1) ?_
    show xQ ML_isSo (21, [some (.ref 0), some (.int x), some (.int b), some (.ref 45), some (.ref 46), some (.int (nI (cnt (rep (gr A.1.1)) k))), some (.int (nI k)), none, none, none, none], [.int (mk (kc (gr A.1.1) k)), .int (nI (cnt (rep (gr A.1.1)) k))], s) _
    refine xQ.call rfl (c_lowest hk (kc_self _ k)) ?_
    show xQ ML_isSo (24, [some (.ref 0), some (.int x), some (.int b), some (.ref 45), some (.ref 46), some (.int (nI (cnt (rep (gr A.1.1)) k))), some (.int (nI k)), none, none, none, none], [.int (nI (low (kc (gr A.1.1) k))), .int (nI (cnt (rep (gr A.1.1)) k))], s) _
    refine xQ.go 2 (F1 := (bif !decide ((nI (low (kc (gr A.1.1) k))) = (nI k)) then 33 else 29, [some (.ref 0), some (.int x), some (.int b), some (.ref 45), some (.ref 46), some (.int (nI (cnt (rep (gr A.1.1)) k))), some (.int (nI k)), none, none, none, none], [.int (nI (cnt (rep (gr A.1.1)) k))], s)) rfl ?_
    have hlow := kc_low (G := gr A.1.1) hk
    by_cases hr : low (kc (gr A.1.1) k) = k
    · have hrep : rep (gr A.1.1) k = true := decide_eq_true hr
      rw [hrep] at rest
      rw [hr]
      refine xQ.brF (by simp) ?_
      refine xQ.go 2 (F1 := (34, [some (.ref 0), some (.int x), some (.int b), some (.ref 45), some (.ref 46), some (.int (nI (cnt (rep (gr A.1.1)) k))), some (.int (nI k)), none, none, none, none], [.int 1, .int (nI (cnt (rep (gr A.1.1)) k))], s)) rfl ?_
      exact rest
    · have hrep : rep (gr A.1.1) k = false := decide_eq_false hr
      rw [hrep] at rest
      refine xQ.brT (by rw [Bool.not_eq_true', decide_eq_false_iff_not]; exact fun z => hr (jI_inj (by omega) (by omega) z)) ?_
      refine xQ.go 1 (F1 := (34, [some (.ref 0), some (.int x), some (.int b), some (.ref 45), some (.ref 46), some (.int (nI (cnt (rep (gr A.1.1)) k))), some (.int (nI k)), none, none, none, none], [.int 0, .int (nI (cnt (rep (gr A.1.1)) k))], s)) rfl ?_
      exact rest
  · intro s hI
    refine xQ.go 3 (F1 := (bif decide (10 ≤ (nI 10)) then 58 else 13, [some (.ref 0), some (.int x), some (.int b), some (.ref 45), some (.ref 46), some (.int (nI (cnt (rep (gr A.1.1)) 10))), some (.int (nI 10)), none, none, none, none], [], s)) rfl ?_
    refine xQ.brT (rfl) ?_
    refine xQ.less [some (.ref 0), some (.int x), some (.int b), some (.ref 45), some (.ref 46), some (.int (nI (cnt (rep (gr A.1.1)) 10))), none, none, none, none, none] (by simp [xleb]) ?_
    exact K0 s hI
theorem dens_c0 : ∀ n, n ≤ 45 → Op.cmpValue (FP.dcmp (FP.ddiv (FP.i2d (nI n)) 4627448617123184640) (FP.ddiv (FP.i2d (nI n)) 4627448617123184640)) .l = 0 := by decide +kernel
theorem qCount_0 (A : xAb) : qCount A 0 = nI (ec (gr A.1.1)) := by
  unfold qCount
  rw [show (0 : Int32) = nI 0 from rfl, kI_of (by omega) (by omega)]
  rfl
theorem qCount_1 (A : xAb) : qCount A 1 = nI (cnt (rep (gr A.1.1)) 10) := by
  unfold qCount
  rw [show (1 : Int32) = nI 1 from rfl, kI_of (by omega) (by omega)]
  show nI (cmpS (gr A.1.1) 10).2 = _
  rw [(cmp_rep (gr_gok _) 10 (Nat.le_refl _)).1]
theorem qCount_5 (A : xAb) : qCount A 5 = A.1.2.1 := by
  unfold qCount
  rw [show (5 : Int32) = nI 5 from rfl, kI_of (by omega) (by omega)]
  rfl
theorem qCount_6 (A : xAb) : qCount A 6 = A.1.2.2 := by
  unfold qCount
  rw [show (6 : Int32) = nI 6 from rfl, kI_of (by omega) (by omega)]
  rfl
set_option maxRecDepth 10000 in
theorem c_so2 {w : xW} {A : xAb} {x b : Int32} {Q : Option Value → xW → Prop} (hI : cI w A) (hG : gI w (gr A.1.1)) (hq : w.1 46 0 = A.1.2.1 ∧ w.1 46 1 = A.1.2.2) (K0 : ∀ s, cI s A ∧ xkq kC w s → xQ ML_isSo (126, [some (.ref 0), some (.int x), some (.int b), some (.ref 45), some (.ref 46), none, some (.int (nI (ec (gr A.1.1)))), none, none, none, none], [], s) Q) : xQ ML_isSo (58, [some (.ref 0), some (.int x), some (.int b), some (.ref 45), some (.ref 46), some (.int (nI (cnt (rep (gr A.1.1)) 10))), none, none, none, none, none], [], w) Q := by
  have hg := gr_gok A.1.1
  have h45 := ec_45 (gr A.1.1)
  refine xQ.go 1 (F1 := (59, [some (.ref 0), some (.int x), some (.int b), some (.ref 45), some (.ref 46), some (.int (nI (cnt (rep (gr A.1.1)) 10))), none, none, none, none, none], [.ref 45], w)) rfl ?_
  refine xQ.call rfl (c_ledges hg hG) ?_
  show xQ ML_isSo (62, [some (.ref 0), some (.int x), some (.int b), some (.ref 45), some (.ref 46), some (.int (nI (cnt (rep (gr A.1.1)) 10))), none, none, none, none, none], [.int (nI (ec (gr A.1.1)))], w) _
  obtain ⟨r1, w1, hc1, hr1, i1, kq1⟩ := C_count (x := 0) hI
  subst hr1
  rw [qCount_0] at hc1
  refine xQ.go 3 (F1 := (66, [some (.ref 0), some (.int x), some (.int b), some (.ref 45), some (.ref 46), some (.int (nI (cnt (rep (gr A.1.1)) 10))), some (.int (nI (ec (gr A.1.1)))), none, none, none, none], [.int 0, .ref 0], w)) rfl ?_
  refine xQ.call rfl (hc1) ?_
  show xQ ML_isSo (69, [some (.ref 0), some (.int x), some (.int b), some (.ref 45), some (.ref 46), some (.int (nI (cnt (rep (gr A.1.1)) 10))), some (.int (nI (ec (gr A.1.1)))), none, none, none, none], [.int (nI (ec (gr A.1.1)))], w1) _
  refine xQ.go 2 (F1 := (bif !decide ((nI (ec (gr A.1.1))) = (nI (ec (gr A.1.1)))) then 124 else 74, [some (.ref 0), some (.int x), some (.int b), some (.ref 45), some (.ref 46), some (.int (nI (cnt (rep (gr A.1.1)) 10))), some (.int (nI (ec (gr A.1.1)))), none, none, none, none], [], w1)) rfl ?_
  refine xQ.brF (by simp) ?_
  obtain ⟨r1, w2, hc2, hr1, i2, kq2⟩ := C_count (x := 1) i1
  subst hr1
  rw [qCount_1] at hc2
  refine xQ.go 2 (F1 := (76, [some (.ref 0), some (.int x), some (.int b), some (.ref 45), some (.ref 46), some (.int (nI (cnt (rep (gr A.1.1)) 10))), some (.int (nI (ec (gr A.1.1)))), none, none, none, none], [.int 1, .ref 0], w1)) rfl ?_
  refine xQ.call rfl (hc2) ?_
  show xQ ML_isSo (79, [some (.ref 0), some (.int x), some (.int b), some (.ref 45), some (.ref 46), some (.int (nI (cnt (rep (gr A.1.1)) 10))), some (.int (nI (ec (gr A.1.1)))), none, none, none, none], [.int (nI (cnt (rep (gr A.1.1)) 10))], w2) _
  refine xQ.go 2 (F1 := (bif !decide ((nI (cnt (rep (gr A.1.1)) 10)) = (nI (cnt (rep (gr A.1.1)) 10))) then 124 else 84, [some (.ref 0), some (.int x), some (.int b), some (.ref 45), some (.ref 46), some (.int (nI (cnt (rep (gr A.1.1)) 10))), some (.int (nI (ec (gr A.1.1)))), none, none, none, none], [], w2)) rfl ?_
  refine xQ.brF (by simp) ?_
  obtain ⟨r1, w3, hc3, hr1, i3, kq3⟩ := C_count (x := 5) i2
  subst hr1
  rw [qCount_5] at hc3
  refine xQ.go 2 (F1 := (86, [some (.ref 0), some (.int x), some (.int b), some (.ref 45), some (.ref 46), some (.int (nI (cnt (rep (gr A.1.1)) 10))), some (.int (nI (ec (gr A.1.1)))), none, none, none, none], [.int 5, .ref 0], w2)) rfl ?_
  refine xQ.call rfl (hc3) ?_
  show xQ ML_isSo (89, [some (.ref 0), some (.int x), some (.int b), some (.ref 45), some (.ref 46), some (.int (nI (cnt (rep (gr A.1.1)) 10))), some (.int (nI (ec (gr A.1.1)))), none, none, none, none], [.int A.1.2.1], w3) _
  have k3 := xkq_trans kq1 (xkq_trans kq2 kq3)
  have e1 : w3.1 46 0 = A.1.2.1 := ((k3 46 0 rfl).1).trans hq.1
  refine xQ.go 4 (F1 := (bif !decide (A.1.2.1 = (w3.1 46 0)) then 124 else 96, [some (.ref 0), some (.int x), some (.int b), some (.ref 45), some (.ref 46), some (.int (nI (cnt (rep (gr A.1.1)) 10))), some (.int (nI (ec (gr A.1.1)))), none, none, none, none], [], w3)) rfl ?_
  refine xQ.brF (by rw [e1]; simp) ?_
  obtain ⟨r1, w4, hc4, hr1, i4, kq4⟩ := C_count (x := 6) i3
  subst hr1
  rw [qCount_6] at hc4
  refine xQ.go 2 (F1 := (99, [some (.ref 0), some (.int x), some (.int b), some (.ref 45), some (.ref 46), some (.int (nI (cnt (rep (gr A.1.1)) 10))), some (.int (nI (ec (gr A.1.1)))), none, none, none, none], [.int 6, .ref 0], w3)) rfl ?_
  refine xQ.call rfl (hc4) ?_
  show xQ ML_isSo (102, [some (.ref 0), some (.int x), some (.int b), some (.ref 45), some (.ref 46), some (.int (nI (cnt (rep (gr A.1.1)) 10))), some (.int (nI (ec (gr A.1.1)))), none, none, none, none], [.int A.1.2.2], w4) _
  have k4 := xkq_trans k3 kq4
  have e2 : w4.1 46 1 = A.1.2.2 := ((k4 46 1 rfl).1).trans hq.2
  refine xQ.go 4 (F1 := (bif !decide (A.1.2.2 = (w4.1 46 1)) then 124 else 109, [some (.ref 0), some (.int x), some (.int b), some (.ref 45), some (.ref 46), some (.int (nI (cnt (rep (gr A.1.1)) 10))), some (.int (nI (ec (gr A.1.1)))), none, none, none, none], [], w4)) rfl ?_
  refine xQ.brF (by rw [e2]; simp) ?_
  refine xQ.go 1 (F1 := (110, [some (.ref 0), some (.int x), some (.int b), some (.ref 45), some (.ref 46), some (.int (nI (cnt (rep (gr A.1.1)) 10))), some (.int (nI (ec (gr A.1.1)))), none, none, none, none], [.ref 0], w4)) rfl ?_
  refine xQ.call rfl (C_dens i4) ?_
  show xQ ML_isSo (113, [some (.ref 0), some (.int x), some (.int b), some (.ref 45), some (.ref 46), some (.int (nI (cnt (rep (gr A.1.1)) 10))), some (.int (nI (ec (gr A.1.1)))), none, none, none, none], [.double (qDens A)], w4) _
  refine xQ.go 3 (F1 := (119, [some (.ref 0), some (.int x), some (.int b), some (.ref 45), some (.ref 46), some (.int (nI (cnt (rep (gr A.1.1)) 10))), some (.int (nI (ec (gr A.1.1)))), none, none, none, none], [.double 4627448617123184640, .double (FP.i2d (nI (ec (gr A.1.1)))), .double (qDens A)], w4)) rfl ?_
  refine xQ.go 1 (F1 := (120, [some (.ref 0), some (.int x), some (.int b), some (.ref 45), some (.ref 46), some (.int (nI (cnt (rep (gr A.1.1)) 10))), some (.int (nI (ec (gr A.1.1)))), none, none, none, none], [.double (qDens A), .double (qDens A)], w4)) ?_ ?_
  · have h : decide (FP.ddiv (FP.i2d (nI (ec (gr A.1.1)))) 4627448617123184640 &&& 0x7fffffffffffffff ≤ 0x7ff0000000000000) = true := dens_ok _ h45
    show (match xddiv (119, [some (.ref 0), some (.int x), some (.int b), some (.ref 45), some (.ref 46), some (.int (nI (cnt (rep (gr A.1.1)) 10))), some (.int (nI (ec (gr A.1.1)))), none, none, none, none], [.double 4627448617123184640, .double (FP.i2d (nI (ec (gr A.1.1)))), .double (qDens A)], w4) with | some F1 => some F1 | none => none) = _
    unfold xddiv
    simp only
    rw [h]
    rfl
  refine xQ.go 2 (F1 := (bif decide ((Op.cmpValue (FP.dcmp (qDens A) (qDens A)) .l) = 0) then 126 else 124, [some (.ref 0), some (.int x), some (.int b), some (.ref 45), some (.ref 46), some (.int (nI (cnt (rep (gr A.1.1)) 10))), some (.int (nI (ec (gr A.1.1)))), none, none, none, none], [], w4)) rfl ?_
  refine xQ.brT (decide_eq_true (dens_c0 _ h45)) ?_
  refine xQ.less [some (.ref 0), some (.int x), some (.int b), some (.ref 45), some (.ref 46), none, some (.int (nI (ec (gr A.1.1)))), none, none, none, none] (by simp [xleb]) ?_
  exact K0 w4 ⟨i4, k4⟩
