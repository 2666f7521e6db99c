/-! the law's body: add, and a turn -/
set_option maxRecDepth 10000 in
theorem l_add {w : xW} {A : xAb} {m t a b : Nat} {x x9 : Int32} {C : xZ} (ha : a < 10) (hb : b < 10) (hI : lI w A) (h0 : gh0 w) (K : ∀ w1 A1, lI w1 A1 → w1.1 48 0 = 0 → xY ML_law (48, [some (.ref 200), some (.ref 0), some (.ref 45), some (.ref 46), some (.int (nI m)), some (.int (nI (t + 1))), none, none, none, none, none, none], [], w1) C) : xY ML_law (134, [some (.ref 200), some (.ref 0), some (.ref 45), some (.ref 46), some (.int (nI m)), some (.int (nI t)), some (.int x), some (.int (nI a)), some (.int (nI b)), some (.int x9), some (.int (if gr A.1.1 a b = true then 1 else 0)), none], [], w) C := by
  have hgk := gr_gok A.1.1
  have h45 := ec_45 (gr A.1.1)
  obtain ⟨r1, w1, hc, hr1, i1, k1⟩ := C_add (x := nI a) (y := nI b) hI.1
  subst hr1
  have hG1 := gI_kq hI.2.1 k1
  have hq1 : w1.1 46 0 = A.1.2.1 ∧ w1.1 46 1 = A.1.2.2 := ⟨((k1 46 0 rfl).1).trans hI.2.2.1, ((k1 46 1 rfl).1).trans hI.2.2.2⟩
  have g1 := gh0_kq h0 k1
  rw [sAdd_eq ha hb] at hc i1
  -- what adds nothing
  have no : ∀ (d x10 : Int32), ¬ 0 < d → cI w1 A → xY ML_law (179, [some (.ref 200), some (.ref 0), some (.ref 45), some (.ref 46), some (.int (nI m)), some (.int (nI t)), some (.int x), some (.int (nI a)), some (.int (nI b)), some (.int x9), some (.int x10), some (.int d)], [], w1) C := fun d x10 hd hA => by
    have hd : d ≤ 0 := Int32.not_lt.mp hd
    refine xY.go 3 (F1 := (183, [some (.ref 200), some (.ref 0), some (.ref 45), some (.ref 46), some (.int (nI m)), some (.int (nI t)), some (.int x), some (.int (nI a)), some (.int (nI b)), some (.int x9), some (.int x10), some (.int d)], [.int (nI a), .ref 45, .int (nI a), .ref 45], w1)) rfl ?_
    refine xY.iald rfl (k := a) (rfl) (⟨by omega, by omega⟩) rfl ?_
    show xY ML_law (184, [some (.ref 200), some (.ref 0), some (.ref 45), some (.ref 46), some (.int (nI m)), some (.int (nI t)), some (.int x), some (.int (nI a)), some (.int (nI b)), some (.int x9), some (.int x10), some (.int d)], [.int (w1.1 45 a), .int (nI a), .ref 45], w1) _
    rw [hG1 a ha]
    refine xY.go 2 (F1 := (bif decide (d ≤ 0) then 196 else 189, [some (.ref 200), some (.ref 0), some (.ref 45), some (.ref 46), some (.int (nI m)), some (.int (nI t)), some (.int x), some (.int (nI a)), some (.int (nI b)), some (.int x9), some (.int x10), some (.int d)], [.int (mk (gr A.1.1 a)), .int (nI a), .ref 45], w1)) rfl ?_
    refine xY.brT (decide_eq_true hd) ?_
    refine xY.go 2 (F1 := (198, [some (.ref 200), some (.ref 0), some (.ref 45), some (.ref 46), some (.int (nI m)), some (.int (nI t)), some (.int x), some (.int (nI a)), some (.int (nI b)), some (.int x9), some (.int x10), some (.int d)], [.int ((mk (gr A.1.1 a)) ||| 0), .int (nI a), .ref 45], w1)) rfl ?_
    rw [show mk (gr A.1.1 a) ||| 0 = mk (gr A.1.1 a) from Int32.or_zero]
    refine xY.iast rfl (k := a) (rfl) (⟨by omega, by omega⟩) rfl ?_
    show xY ML_law (199, [some (.ref 200), some (.ref 0), some (.ref 45), some (.ref 46), some (.int (nI m)), some (.int (nI t)), some (.int x), some (.int (nI a)), some (.int (nI b)), some (.int x9), some (.int x10), some (.int d)], [], (xuI w1 45 a (mk (gr A.1.1 a)))) _
    refine xY.go 3 (F1 := (203, [some (.ref 200), some (.ref 0), some (.ref 45), some (.ref 46), some (.int (nI m)), some (.int (nI t)), some (.int x), some (.int (nI a)), some (.int (nI b)), some (.int x9), some (.int x10), some (.int d)], [.int (nI b), .ref 45, .int (nI b), .ref 45], (xuI w1 45 a (mk (gr A.1.1 a))))) rfl ?_
    refine xY.iald rfl (k := b) (rfl) (⟨by omega, by omega⟩) rfl ?_
    show xY ML_law (204, [some (.ref 200), some (.ref 0), some (.ref 45), some (.ref 46), some (.int (nI m)), some (.int (nI t)), some (.int x), some (.int (nI a)), some (.int (nI b)), some (.int x9), some (.int x10), some (.int d)], [.int ((xuI w1 45 a (mk (gr A.1.1 a))).1 45 b), .int (nI b), .ref 45], (xuI w1 45 a (mk (gr A.1.1 a)))) _
    rw [gI_ld hb hG1]
    refine xY.go 2 (F1 := (bif decide (d ≤ 0) then 216 else 209, [some (.ref 200), some (.ref 0), some (.ref 45), some (.ref 46), some (.int (nI m)), some (.int (nI t)), some (.int x), some (.int (nI a)), some (.int (nI b)), some (.int x9), some (.int x10), some (.int d)], [.int (mk (gr A.1.1 b)), .int (nI b), .ref 45], (xuI w1 45 a (mk (gr A.1.1 a))))) rfl ?_
    refine xY.brT (decide_eq_true hd) ?_
    refine xY.go 2 (F1 := (218, [some (.ref 200), some (.ref 0), some (.ref 45), some (.ref 46), some (.int (nI m)), some (.int (nI t)), some (.int x), some (.int (nI a)), some (.int (nI b)), some (.int x9), some (.int x10), some (.int d)], [.int ((mk (gr A.1.1 b)) ||| 0), .int (nI b), .ref 45], (xuI w1 45 a (mk (gr A.1.1 a))))) rfl ?_
    rw [show mk (gr A.1.1 b) ||| 0 = mk (gr A.1.1 b) from Int32.or_zero]
    refine xY.iast rfl (k := b) (rfl) (⟨by omega, by omega⟩) rfl ?_
    show xY ML_law (219, [some (.ref 200), some (.ref 0), some (.ref 45), some (.ref 46), some (.int (nI m)), some (.int (nI t)), some (.int x), some (.int (nI a)), some (.int (nI b)), some (.int x9), some (.int x10), some (.int d)], [], (xuI (xuI w1 45 a (mk (gr A.1.1 a))) 45 b (mk (gr A.1.1 b)))) _
    refine xY.go 6 (F1 := (bif decide (d ≤ 0) then 232 else 228, [some (.ref 200), some (.ref 0), some (.ref 45), some (.ref 46), some (.int (nI m)), some (.int (nI t)), some (.int x), some (.int (nI a)), some (.int (nI b)), some (.int x9), some (.int x10), some (.int d)], [.int (w1.1 46 0), .int 0, .ref 46], (xuI (xuI w1 45 a (mk (gr A.1.1 a))) 45 b (mk (gr A.1.1 b))))) rfl ?_
    refine xY.brT (decide_eq_true hd) ?_
    refine xY.go 4 (F1 := (308, [some (.ref 200), some (.ref 0), some (.ref 45), some (.ref 46), some (.int (nI m)), some (.int (nI t)), some (.int x), some (.int (nI a)), some (.int (nI b)), some (.int x9), some (.int x10), some (.int d)], [], (xuI (xuI (xuI w1 45 a (mk (gr A.1.1 a))) 45 b (mk (gr A.1.1 b))) 46 0 ((w1.1 46 0) + 0)))) rfl ?_
    refine xY.less [some (.ref 200), some (.ref 0), some (.ref 45), some (.ref 46), some (.int (nI m)), some (.int (nI t)), some (.int x), none, none, none, none, none] (by simp [xleb]) ?_
    exact l_308 (lI_same ⟨hA, hG1, hq1⟩ (Or.inl rfl) (Int32.add_zero _)) (up_48 g1) (fun w2 a b => K w2 _ a b)
  refine xY.go 3 (F1 := (bif !decide ((nI a) = (nI b)) then 146 else 141, [some (.ref 200), some (.ref 0), some (.ref 45), some (.ref 46), some (.int (nI m)), some (.int (nI t)), some (.int x), some (.int (nI a)), some (.int (nI b)), some (.int x9), some (.int (if gr A.1.1 a b = true then 1 else 0)), none], [], w)) rfl ?_
  by_cases hab : a = b
  · rw [if_pos hab] at hc i1
    refine xY.brF (by rw [hab]; simp) ?_
    refine xY.go 6 (F1 := (169, [some (.ref 200), some (.ref 0), some (.ref 45), some (.ref 46), some (.int (nI m)), some (.int (nI t)), some (.int x), some (.int (nI a)), some (.int (nI b)), some (.int x9), some (.int (if gr A.1.1 a b = true then 1 else 0)), some (.int (-2))], [.int (nI b), .int (nI a), .ref 0], w)) rfl ?_
    refine xY.call rfl (hc) ?_
    show xY ML_law (172, [some (.ref 200), some (.ref 0), some (.ref 45), some (.ref 46), some (.int (nI m)), some (.int (nI t)), some (.int x), some (.int (nI a)), some (.int (nI b)), some (.int x9), some (.int (if gr A.1.1 a b = true then 1 else 0)), some (.int (-2))], [.int (-2)], w1) _
    refine xY.go 2 (F1 := (bif decide ((-2) = (-2)) then 179 else 177, [some (.ref 200), some (.ref 0), some (.ref 45), some (.ref 46), some (.int (nI m)), some (.int (nI t)), some (.int x), some (.int (nI a)), some (.int (nI b)), some (.int x9), some (.int (if gr A.1.1 a b = true then 1 else 0)), some (.int (-2))], [], w1)) rfl ?_
    refine xY.brT (by decide) ?_
    exact no _ _ (by decide) i1
  · rw [if_neg hab] at hc i1
    refine xY.brT (by rw [Bool.not_eq_true', decide_eq_false_iff_not]; exact fun z => hab (jI_inj (by omega) (by omega) z)) ?_
    cases e : gr A.1.1 a b with
    | true =>
      rw [e, if_pos rfl] at hc i1
      show xY ML_law (146, [some (.ref 200), some (.ref 0), some (.ref 45), some (.ref 46), some (.int (nI m)), some (.int (nI t)), some (.int x), some (.int (nI a)), some (.int (nI b)), some (.int x9), some (.int 1), none], [], w) _
      refine xY.go 2 (F1 := (bif decide (1 = 0) then 156 else 151, [some (.ref 200), some (.ref 0), some (.ref 45), some (.ref 46), some (.int (nI m)), some (.int (nI t)), some (.int x), some (.int (nI a)), some (.int (nI b)), some (.int x9), some (.int 1), none], [], w)) rfl ?_
      refine xY.brF (by decide) ?_
      refine xY.go 6 (F1 := (169, [some (.ref 200), some (.ref 0), some (.ref 45), some (.ref 46), some (.int (nI m)), some (.int (nI t)), some (.int x), some (.int (nI a)), some (.int (nI b)), some (.int x9), some (.int 1), some (.int (-4))], [.int (nI b), .int (nI a), .ref 0], w)) rfl ?_
      refine xY.call rfl (hc) ?_
      show xY ML_law (172, [some (.ref 200), some (.ref 0), some (.ref 45), some (.ref 46), some (.int (nI m)), some (.int (nI t)), some (.int x), some (.int (nI a)), some (.int (nI b)), some (.int x9), some (.int 1), some (.int (-4))], [.int (-4)], w1) _
      refine xY.go 2 (F1 := (bif decide ((-4) = (-4)) then 179 else 177, [some (.ref 200), some (.ref 0), some (.ref 45), some (.ref 46), some (.int (nI m)), some (.int (nI t)), some (.int x), some (.int (nI a)), some (.int (nI b)), some (.int x9), some (.int 1), some (.int (-4))], [], w1)) rfl ?_
      refine xY.brT (by decide) ?_
      exact no _ _ (by decide) i1
    | false =>
      rw [e, if_neg Bool.false_ne_true] at hc i1
      show xY ML_law (146, [some (.ref 200), some (.ref 0), some (.ref 45), some (.ref 46), some (.int (nI m)), some (.int (nI t)), some (.int x), some (.int (nI a)), some (.int (nI b)), some (.int x9), some (.int 0), none], [], w) _
      refine xY.go 2 (F1 := (bif decide (0 = 0) then 156 else 151, [some (.ref 200), some (.ref 0), some (.ref 45), some (.ref 46), some (.int (nI m)), some (.int (nI t)), some (.int x), some (.int (nI a)), some (.int (nI b)), some (.int x9), some (.int 0), none], [], w)) rfl ?_
      refine xY.brT (by decide) ?_
      refine xY.go 1 (F1 := (157, [some (.ref 200), some (.ref 0), some (.ref 45), some (.ref 46), some (.int (nI m)), some (.int (nI t)), some (.int x), some (.int (nI a)), some (.int (nI b)), some (.int x9), some (.int 0), none], [.ref 45], w)) rfl ?_
      refine xY.call rfl (c_ledges hgk hI.2.1) ?_
      show xY ML_law (160, [some (.ref 200), some (.ref 0), some (.ref 45), some (.ref 46), some (.int (nI m)), some (.int (nI t)), some (.int x), some (.int (nI a)), some (.int (nI b)), some (.int x9), some (.int 0), none], [.int (nI (ec (gr A.1.1)))], w) _
      refine xY.go 2 (F1 := (162, [some (.ref 200), some (.ref 0), some (.ref 45), some (.ref 46), some (.int (nI m)), some (.int (nI t)), some (.int x), some (.int (nI a)), some (.int (nI b)), some (.int x9), some (.int 0), none], [.int ((nI (ec (gr A.1.1))) + 1)], w)) rfl ?_
      rw [← nI_succ]
      refine xY.go 4 (F1 := (169, [some (.ref 200), some (.ref 0), some (.ref 45), some (.ref 46), some (.int (nI m)), some (.int (nI t)), some (.int x), some (.int (nI a)), some (.int (nI b)), some (.int x9), some (.int 0), some (.int (nI (ec (gr A.1.1) + 1)))], [.int (nI b), .int (nI a), .ref 0], w)) rfl ?_
      refine xY.call rfl (hc) ?_
      show xY ML_law (172, [some (.ref 200), some (.ref 0), some (.ref 45), some (.ref 46), some (.int (nI m)), some (.int (nI t)), some (.int x), some (.int (nI a)), some (.int (nI b)), some (.int x9), some (.int 0), some (.int (nI (ec (gr A.1.1) + 1)))], [.int (nI (ec (gr A.1.1) + 1))], w1) _
      have hd : decide (nI (ec (gr A.1.1) + 1) ≤ 0) = false := by
        rw [show (0 : Int32) = nI 0 from rfl, nI_decle (by omega) (by omega)]
        exact decide_eq_false (by omega)
      refine xY.go 2 (F1 := (bif decide ((nI (ec (gr A.1.1) + 1)) = (nI (ec (gr A.1.1) + 1))) then 179 else 177, [some (.ref 200), some (.ref 0), some (.ref 45), some (.ref 46), some (.int (nI m)), some (.int (nI t)), some (.int x), some (.int (nI a)), some (.int (nI b)), some (.int x9), some (.int 0), some (.int (nI (ec (gr A.1.1) + 1)))], [], w1)) rfl ?_
      refine xY.brT (by simp) ?_
      refine xY.go 3 (F1 := (183, [some (.ref 200), some (.ref 0), some (.ref 45), some (.ref 46), some (.int (nI m)), some (.int (nI t)), some (.int x), some (.int (nI a)), some (.int (nI b)), some (.int x9), some (.int 0), some (.int (nI (ec (gr A.1.1) + 1)))], [.int (nI a), .ref 45, .int (nI a), .ref 45], w1)) rfl ?_
      refine xY.iald rfl (k := a) (rfl) (⟨by omega, by omega⟩) rfl ?_
      show xY ML_law (184, [some (.ref 200), some (.ref 0), some (.ref 45), some (.ref 46), some (.int (nI m)), some (.int (nI t)), some (.int x), some (.int (nI a)), some (.int (nI b)), some (.int x9), some (.int 0), some (.int (nI (ec (gr A.1.1) + 1)))], [.int (w1.1 45 a), .int (nI a), .ref 45], w1) _
      rw [hG1 a ha]
      refine xY.go 2 (F1 := (bif decide ((nI (ec (gr A.1.1) + 1)) ≤ 0) then 196 else 189, [some (.ref 200), some (.ref 0), some (.ref 45), some (.ref 46), some (.int (nI m)), some (.int (nI t)), some (.int x), some (.int (nI a)), some (.int (nI b)), some (.int x9), some (.int 0), some (.int (nI (ec (gr A.1.1) + 1)))], [.int (mk (gr A.1.1 a)), .int (nI a), .ref 45], w1)) rfl ?_
      refine xY.brF (hd) ?_
      refine xY.go 3 (F1 := (193, [some (.ref 200), some (.ref 0), some (.ref 45), some (.ref 46), some (.int (nI m)), some (.int (nI t)), some (.int x), some (.int (nI a)), some (.int (nI b)), some (.int x9), some (.int 0), some (.int (nI (ec (gr A.1.1) + 1)))], [.int (1 <<< ((nI b) &&& 31)), .int (mk (gr A.1.1 a)), .int (nI a), .ref 45], w1)) rfl ?_
      rw [mk_bit hb]
      refine xY.go 2 (F1 := (198, [some (.ref 200), some (.ref 0), some (.ref 45), some (.ref 46), some (.int (nI m)), some (.int (nI t)), some (.int x), some (.int (nI a)), some (.int (nI b)), some (.int x9), some (.int 0), some (.int (nI (ec (gr A.1.1) + 1)))], [.int ((mk (gr A.1.1 a)) ||| (mk (fun u => decide (u = b)))), .int (nI a), .ref 45], w1)) rfl ?_
      rw [mk_or]
      refine xY.iast rfl (k := a) (rfl) (⟨by omega, by omega⟩) rfl ?_
      show xY ML_law (199, [some (.ref 200), some (.ref 0), some (.ref 45), some (.ref 46), some (.int (nI m)), some (.int (nI t)), some (.int x), some (.int (nI a)), some (.int (nI b)), some (.int x9), some (.int 0), some (.int (nI (ec (gr A.1.1) + 1)))], [], (xuI w1 45 a (mk (fun v => gr A.1.1 a v || decide (v = b))))) _
      refine xY.go 3 (F1 := (203, [some (.ref 200), some (.ref 0), some (.ref 45), some (.ref 46), some (.int (nI m)), some (.int (nI t)), some (.int x), some (.int (nI a)), some (.int (nI b)), some (.int x9), some (.int 0), some (.int (nI (ec (gr A.1.1) + 1)))], [.int (nI b), .ref 45, .int (nI b), .ref 45], (xuI w1 45 a (mk (fun v => gr A.1.1 a v || decide (v = b)))))) rfl ?_
      refine xY.iald rfl (k := b) (rfl) (⟨by omega, by omega⟩) rfl ?_
      show xY ML_law (204, [some (.ref 200), some (.ref 0), some (.ref 45), some (.ref 46), some (.int (nI m)), some (.int (nI t)), some (.int x), some (.int (nI a)), some (.int (nI b)), some (.int x9), some (.int 0), some (.int (nI (ec (gr A.1.1) + 1)))], [.int ((xuI w1 45 a (mk (fun v => gr A.1.1 a v || decide (v = b)))).1 45 b), .int (nI b), .ref 45], (xuI w1 45 a (mk (fun v => gr A.1.1 a v || decide (v = b))))) _
      rw [uI1, if_neg (fun z => hab z.2.symm), hG1 b hb]
      refine xY.go 2 (F1 := (bif decide ((nI (ec (gr A.1.1) + 1)) ≤ 0) then 216 else 209, [some (.ref 200), some (.ref 0), some (.ref 45), some (.ref 46), some (.int (nI m)), some (.int (nI t)), some (.int x), some (.int (nI a)), some (.int (nI b)), some (.int x9), some (.int 0), some (.int (nI (ec (gr A.1.1) + 1)))], [.int (mk (gr A.1.1 b)), .int (nI b), .ref 45], (xuI w1 45 a (mk (fun v => gr A.1.1 a v || decide (v = b)))))) rfl ?_
      refine xY.brF (hd) ?_
      refine xY.go 3 (F1 := (213, [some (.ref 200), some (.ref 0), some (.ref 45), some (.ref 46), some (.int (nI m)), some (.int (nI t)), some (.int x), some (.int (nI a)), some (.int (nI b)), some (.int x9), some (.int 0), some (.int (nI (ec (gr A.1.1) + 1)))], [.int (1 <<< ((nI a) &&& 31)), .int (mk (gr A.1.1 b)), .int (nI b), .ref 45], (xuI w1 45 a (mk (fun v => gr A.1.1 a v || decide (v = b)))))) rfl ?_
      rw [mk_bit ha]
      refine xY.go 2 (F1 := (218, [some (.ref 200), some (.ref 0), some (.ref 45), some (.ref 46), some (.int (nI m)), some (.int (nI t)), some (.int x), some (.int (nI a)), some (.int (nI b)), some (.int x9), some (.int 0), some (.int (nI (ec (gr A.1.1) + 1)))], [.int ((mk (gr A.1.1 b)) ||| (mk (fun u => decide (u = a)))), .int (nI b), .ref 45], (xuI w1 45 a (mk (fun v => gr A.1.1 a v || decide (v = b)))))) rfl ?_
      rw [mk_or]
      refine xY.iast rfl (k := b) (rfl) (⟨by omega, by omega⟩) rfl ?_
      show xY ML_law (219, [some (.ref 200), some (.ref 0), some (.ref 45), some (.ref 46), some (.int (nI m)), some (.int (nI t)), some (.int x), some (.int (nI a)), some (.int (nI b)), some (.int x9), some (.int 0), some (.int (nI (ec (gr A.1.1) + 1)))], [], (xuI (xuI w1 45 a (mk (fun v => gr A.1.1 a v || decide (v = b)))) 45 b (mk (fun v => gr A.1.1 b v || decide (v = a))))) _
      refine xY.go 6 (F1 := (bif decide ((nI (ec (gr A.1.1) + 1)) ≤ 0) then 232 else 228, [some (.ref 200), some (.ref 0), some (.ref 45), some (.ref 46), some (.int (nI m)), some (.int (nI t)), some (.int x), some (.int (nI a)), some (.int (nI b)), some (.int x9), some (.int 0), some (.int (nI (ec (gr A.1.1) + 1)))], [.int (w1.1 46 0), .int 0, .ref 46], (xuI (xuI w1 45 a (mk (fun v => gr A.1.1 a v || decide (v = b)))) 45 b (mk (fun v => gr A.1.1 b v || decide (v = a)))))) rfl ?_
      refine xY.brF (hd) ?_
      refine xY.go 5 (F1 := (308, [some (.ref 200), some (.ref 0), some (.ref 45), some (.ref 46), some (.int (nI m)), some (.int (nI t)), some (.int x), some (.int (nI a)), some (.int (nI b)), some (.int x9), some (.int 0), some (.int (nI (ec (gr A.1.1) + 1)))], [], (xuI (xuI (xuI w1 45 a (mk (fun v => gr A.1.1 a v || decide (v = b)))) 45 b (mk (fun v => gr A.1.1 b v || decide (v = a)))) 46 0 ((w1.1 46 0) + 1)))) rfl ?_
      refine xY.less [some (.ref 200), some (.ref 0), some (.ref 45), some (.ref 46), some (.int (nI m)), some (.int (nI t)), some (.int x), none, none, none, none, none] (by simp [xleb]) ?_
      exact l_308 (lI_add ha hb hab e i1 hG1 hq1) (up_48 g1) (fun w2 a b => K w2 _ a b)
set_option maxRecDepth 10000 in
theorem l_turn {w : xW} {A : xAb} {m t : Nat} {C : xZ} (ht : t < 44) (hm : m < 100) (hI : lI w A) (h0 : gh0 w) (K : ∀ w1 A1, lI w1 A1 → w1.1 48 0 = 0 → xY ML_law (48, [some (.ref 200), some (.ref 0), some (.ref 45), some (.ref 46), some (.int (nI m)), some (.int (nI (t + 1))), none, none, none, none, none, none], [], w1) C) : xY ML_law (48, [some (.ref 200), some (.ref 0), some (.ref 45), some (.ref 46), some (.int (nI m)), some (.int (nI t)), none, none, none, none, none, none], [], w) C := by
  refine xY.go 3 (F1 := (bif decide (44 ≤ (nI t)) then 357 else 55, [some (.ref 200), some (.ref 0), some (.ref 45), some (.ref 46), some (.int (nI m)), some (.int (nI t)), none, none, none, none, none, none], [], w)) rfl ?_
  refine xY.brF (decide_eq_false (nI_ge (b := 44) (by omega) (by omega))) ?_
  refine xY.go 4 (F1 := (60, [some (.ref 200), some (.ref 0), some (.ref 45), some (.ref 46), some (.int (nI m)), some (.int (nI t)), none, none, none, none, none, none], [.int (1 + (nI t)), .ref 200], w)) rfl ?_
  rw [show (1 : Int32) + nI t = nI (1 + t) from jI_add 1 t]
  refine xY.cell (j := 1 + t) (by omega) rfl (Nat.le_of_ble_eq_true rfl) ?_
  show xY ML_law (63, [some (.ref 200), some (.ref 0), some (.ref 45), some (.ref 46), some (.int (nI m)), some (.int (nI t)), none, none, none, none, none, none], [.int (C.1 (1 + t))], w) _
  generalize C.1 (1 + t) = x
  show xY ML_law (63, [some (.ref 200), some (.ref 0), some (.ref 45), some (.ref 46), some (.int (nI m)), some (.int (nI t)), none, none, none, none, none, none], [.int x], w) _
  refine xY.go 3 (F1 := (69, [some (.ref 200), some (.ref 0), some (.ref 45), some (.ref 46), some (.int (nI m)), some (.int (nI t)), some (.int x), none, none, none, none, none], [.int 10, .int x], w)) rfl ?_
  refine xY.call rfl (c_low (m := 10) (by omega) (by omega)) ?_
  show xY ML_law (72, [some (.ref 200), some (.ref 0), some (.ref 45), some (.ref 46), some (.int (nI m)), some (.int (nI t)), some (.int x), none, none, none, none, none], [.int (nI (lowN x 10))], w) _
  refine xY.go 5 (F1 := (80, [some (.ref 200), some (.ref 0), some (.ref 45), some (.ref 46), some (.int (nI m)), some (.int (nI t)), some (.int x), some (.int (nI (lowN x 10))), none, none, none, none], [.int 10, .int (x >>> (4 &&& 31))], w)) rfl ?_
  refine xY.call rfl (c_low (m := 10) (by omega) (by omega)) ?_
  show xY ML_law (83, [some (.ref 200), some (.ref 0), some (.ref 45), some (.ref 46), some (.int (nI m)), some (.int (nI t)), some (.int x), some (.int (nI (lowN x 10))), none, none, none, none], [.int (nI (lowN (x >>> (4 &&& 31)) 10))], w) _
  have ha : lowN x 10 < 10 := lowN_lt (by omega)
  have hb : lowN (x >>> (4 &&& 31)) 10 < 10 := lowN_lt (by omega)
  generalize lowN x 10 = a at ha ⊢
  generalize lowN (x >>> (4 &&& 31)) 10 = b at hb ⊢
  show xY ML_law (83, [some (.ref 200), some (.ref 0), some (.ref 45), some (.ref 46), some (.int (nI m)), some (.int (nI t)), some (.int x), some (.int (nI a)), none, none, none, none], [.int (nI b)], w) _
  have rest : ∀ k, k < 8 → xY ML_law (106, [some (.ref 200), some (.ref 0), some (.ref 45), some (.ref 46), some (.int (nI m)), some (.int (nI t)), some (.int x), some (.int (nI a)), some (.int (nI b)), none, none, none], [.int (nI k)], w) C := fun k hk => by
    refine xY.go 3 (F1 := (111, [some (.ref 200), some (.ref 0), some (.ref 45), some (.ref 46), some (.int (nI m)), some (.int (nI t)), some (.int x), some (.int (nI a)), some (.int (nI b)), some (.int (nI k)), none, none], [.int (nI a), .ref 45], w)) rfl ?_
    refine xY.iald rfl (k := a) (rfl) (⟨by omega, by omega⟩) rfl ?_
    show xY ML_law (112, [some (.ref 200), some (.ref 0), some (.ref 45), some (.ref 46), some (.int (nI m)), some (.int (nI t)), some (.int x), some (.int (nI a)), some (.int (nI b)), some (.int (nI k)), none, none], [.int (w.1 45 a)], w) _
    rw [hI.2.1 a ha]
    have go2 : xY ML_law (126, [some (.ref 200), some (.ref 0), some (.ref 45), some (.ref 46), some (.int (nI m)), some (.int (nI t)), some (.int x), some (.int (nI a)), some (.int (nI b)), some (.int (nI k)), none, none], [.int (if gr A.1.1 a b = true then 1 else 0)], w) C := by
      refine xY.go 4 (F1 := (bif decide (5 ≤ (nI k)) then 238 else 134, [some (.ref 200), some (.ref 0), some (.ref 45), some (.ref 46), some (.int (nI m)), some (.int (nI t)), some (.int x), some (.int (nI a)), some (.int (nI b)), some (.int (nI k)), some (.int (if gr A.1.1 a b = true then 1 else 0)), none], [], w)) rfl ?_
      refine xY.br (fun h3 => ?_) (fun h3 => ?_)
      · exact l_drop ha hb hI h0 K
      · exact l_add ha hb hI h0 K
    refine xY.go 6 (F1 := (bif !decide ((((mk (gr A.1.1 a)) >>> ((nI b) &&& 31)) &&& 1) = 1) then 125 else 121, [some (.ref 200), some (.ref 0), some (.ref 45), some (.ref 46), some (.int (nI m)), some (.int (nI t)), some (.int x), some (.int (nI a)), some (.int (nI b)), some (.int (nI k)), none, none], [], w)) rfl ?_
    rw [mk_get _ hb]
    cases e : gr A.1.1 a b with
    | true =>
      rw [e] at go2
      refine xY.brF (by decide) ?_
      refine xY.go 2 (F1 := (126, [some (.ref 200), some (.ref 0), some (.ref 45), some (.ref 46), some (.int (nI m)), some (.int (nI t)), some (.int x), some (.int (nI a)), some (.int (nI b)), some (.int (nI k)), none, none], [.int 1], w)) rfl ?_
      exact go2
    | false =>
      rw [e] at go2
      refine xY.brT (by decide) ?_
      refine xY.go 1 (F1 := (126, [some (.ref 200), some (.ref 0), some (.ref 45), some (.ref 46), some (.int (nI m)), some (.int (nI t)), some (.int x), some (.int (nI a)), some (.int (nI b)), some (.int (nI k)), none, none], [.int 0], w)) rfl ?_
      exact go2
  refine xY.go 4 (F1 := (bif decide ((nI m) ≤ (nI t)) then 96 else 92, [some (.ref 200), some (.ref 0), some (.ref 45), some (.ref 46), some (.int (nI m)), some (.int (nI t)), some (.int x), some (.int (nI a)), some (.int (nI b)), none, none, none], [], w)) rfl ?_
  refine xY.br (fun h2 => ?_) (fun h2 => ?_)
  · refine xY.go 4 (F1 := (103, [some (.ref 200), some (.ref 0), some (.ref 45), some (.ref 46), some (.int (nI m)), some (.int (nI t)), some (.int x), some (.int (nI a)), some (.int (nI b)), none, none, none], [.int 8, .int (x >>> (8 &&& 31))], w)) rfl ?_
    refine xY.call rfl (c_low (m := 8) (by omega) (by omega)) ?_
    show xY ML_law (106, [some (.ref 200), some (.ref 0), some (.ref 45), some (.ref 46), some (.int (nI m)), some (.int (nI t)), some (.int x), some (.int (nI a)), some (.int (nI b)), none, none, none], [.int (nI (lowN (x >>> (8 &&& 31)) 8))], w) _
    exact rest _ (lowN_lt (by omega))
  · refine xY.go 2 (F1 := (106, [some (.ref 200), some (.ref 0), some (.ref 45), some (.ref 46), some (.int (nI m)), some (.int (nI t)), some (.int x), some (.int (nI a)), some (.int (nI b)), none, none, none], [.int 0], w)) rfl ?_
    exact rest 0 (by omega)
set_option maxRecDepth 10000 in
/-- the law's end -/
theorem l_end {w : xW} {A : xAb} {m : Nat} {C : xZ} (hI : lI w A) (h0 : gh0 w) (K : ∀ L w1, xY ML_law (370, L, [.int 1], w1) C) : xY ML_law (48, [some (.ref 200), some (.ref 0), some (.ref 45), some (.ref 46), some (.int (nI m)), some (.int (nI 44)), none, none, none, none, none, none], [], w) C := by
  refine xY.go 3 (F1 := (bif decide (44 ≤ (nI 44)) then 357 else 55, [some (.ref 200), some (.ref 0), some (.ref 45), some (.ref 46), some (.int (nI m)), some (.int (nI 44)), none, none, none, none, none, none], [], w)) rfl ?_
  refine xY.brT (rfl) ?_
  refine xY.go 3 (F1 := (361, [some (.ref 200), some (.ref 0), some (.ref 45), some (.ref 46), some (.int (nI m)), some (.int (nI 44)), none, none, none, none, none, none], [.int 45, .ref 200, .ref 0], w)) rfl ?_
  refine xY.cell (j := 45) (by omega) rfl (Nat.le_of_ble_eq_true rfl) ?_
  show xY ML_law (364, [some (.ref 200), some (.ref 0), some (.ref 45), some (.ref 46), some (.int (nI m)), some (.int (nI 44)), none, none, none, none, none, none], [.int (C.1 45), .ref 0], w) _
  obtain ⟨r1, w1, hc, hr1, i1, k1, g1⟩ := c_isSo (x := C.1 45) (b := 1) hI.1 hI.2.1 hI.2.2 h0.1 h0.2
  subst hr1
  refine xY.go 3 (F1 := (367, [some (.ref 200), some (.ref 0), some (.ref 45), some (.ref 46), some (.int (nI m)), some (.int (nI 44)), none, none, none, none, none, none], [.ref 46, .ref 45, .int 1, .int (C.1 45), .ref 0], w)) rfl ?_
  refine xY.call rfl (hc) ?_
  show xY ML_law (370, [some (.ref 200), some (.ref 0), some (.ref 45), some (.ref 46), some (.int (nI m)), some (.int (nI 44)), none, none, none, none, none, none], [.int 1], w1) _
  exact K _ w1
set_option maxRecDepth 10000 in
/-- the law's first question -/
theorem l_first {w : xW} {A : xAb} {C : xZ} (hI : lI w A) (h0 : gh0 w) (K : ∀ w1, lI w1 A → w1.1 48 0 = 0 → xY ML_law (30, [some (.ref 200), some (.ref 0), some (.ref 45), some (.ref 46), none, none, none, none, none, none, none, none], [], w1) C) : xY ML_law (17, [some (.ref 200), some (.ref 0), some (.ref 45), some (.ref 46), none, none, none, none, none, none, none, none], [], w) C := by
  obtain ⟨r1, w1, hc, hr1, i1, k1, g1⟩ := c_isSo (x := 0) (b := 1) hI.1 hI.2.1 hI.2.2 h0.1 h0.2
  subst hr1
  refine xY.go 5 (F1 := (22, [some (.ref 200), some (.ref 0), some (.ref 45), some (.ref 46), none, none, none, none, none, none, none, none], [.ref 46, .ref 45, .int 1, .int 0, .ref 0], w)) rfl ?_
  refine xY.call rfl (hc) ?_
  show xY ML_law (25, [some (.ref 200), some (.ref 0), some (.ref 45), some (.ref 46), none, none, none, none, none, none, none, none], [.int 1], w1) _
  refine xY.go 1 (F1 := (bif !decide (1 = 0) then 30 else 28, [some (.ref 200), some (.ref 0), some (.ref 45), some (.ref 46), none, none, none, none, none, none, none, none], [], w1)) rfl ?_
  refine xY.brT (by decide) ?_
  exact K w1 ⟨i1, fun v hv => ((k1 45 v rfl).1).trans (hI.2.1 v hv), ((k1 46 0 rfl).1).trans hI.2.2.1, ((k1 46 1 rfl).1).trans hI.2.2.2⟩ g1
set_option maxRecDepth 10000 in
theorem l_many {w : xW} {C : xZ} (K : ∀ m, m < 100 → xY ML_law (48, [some (.ref 200), some (.ref 0), some (.ref 45), some (.ref 46), some (.int (nI m)), some (.int (nI 0)), none, none, none, none, none, none], [], w) C) : xY ML_law (30, [some (.ref 200), some (.ref 0), some (.ref 45), some (.ref 46), none, none, none, none, none, none, none, none], [], w) C := by
  refine xY.go 3 (F1 := (34, [some (.ref 200), some (.ref 0), some (.ref 45), some (.ref 46), none, none, none, none, none, none, none, none], [.int 0, .ref 200, .int 8], w)) rfl ?_
  refine xY.cell (j := 0) (by omega) rfl (Nat.le_of_ble_eq_true rfl) ?_
  show xY ML_law (37, [some (.ref 200), some (.ref 0), some (.ref 45), some (.ref 46), none, none, none, none, none, none, none, none], [.int (C.1 0), .int 8], w) _
  refine xY.go 1 (F1 := (39, [some (.ref 200), some (.ref 0), some (.ref 45), some (.ref 46), none, none, none, none, none, none, none, none], [.int 24, .int (C.1 0), .int 8], w)) rfl ?_
  refine xY.call rfl (c_low (m := 24) (by omega) (by omega)) ?_
  show xY ML_law (42, [some (.ref 200), some (.ref 0), some (.ref 45), some (.ref 46), none, none, none, none, none, none, none, none], [.int (nI (lowN (C.1 0) 24)), .int 8], w) _
  have hm : lowN (C.1 0) 24 < 24 := lowN_lt (by omega)
  generalize lowN (C.1 0) 24 = m at hm ⊢
  show xY ML_law (42, [some (.ref 200), some (.ref 0), some (.ref 45), some (.ref 46), none, none, none, none, none, none, none, none], [.int (nI m), .int 8], w) _
  refine xY.go 1 (F1 := (43, [some (.ref 200), some (.ref 0), some (.ref 45), some (.ref 46), none, none, none, none, none, none, none, none], [.int (8 + (nI m))], w)) rfl ?_
  rw [show (8 : Int32) + nI m = nI (8 + m) from jI_add 8 m]
  refine xY.go 3 (F1 := (48, [some (.ref 200), some (.ref 0), some (.ref 45), some (.ref 46), some (.int (nI (8 + m))), some (.int 0), none, none, none, none, none, none], [], w)) rfl ?_
  exact K (8 + m) (by omega)
