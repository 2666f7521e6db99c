/-! the law's body: add and drop -/
theorem sAdd_eq {A : xAb} {a b : Nat} (ha : a < 10) (hb : b < 10) : sAdd A (nI a) (nI b) = if a = b then (-2, A) else if gr A.1.1 a b = true then (-4, A) else (nI (ec (gr A.1.1) + 1), (flipS A.1 a b, recH A.2.1 A.1, A.2.2)) := by
  unfold sAdd vI
  rw [kI_of ha (by omega), kI_of hb (by omega)]
  dsimp only
  by_cases h : a = b
  · rw [if_pos h, if_pos h]
  · rw [if_neg h, if_neg h]
    by_cases hg : gr A.1.1 a b = true
    · rw [if_pos hg, if_pos hg]
    · rw [if_neg hg, if_neg hg]
      unfold nEd
      rw [show (flipS A.1 a b).1 = A.1.1 ^^^ pbit a b from rfl, ec_flip1 ha hb h (Bool.eq_false_iff.mpr hg)]
theorem sDrop_eq {A : xAb} {a b : Nat} (ha : a < 10) (hb : b < 10) : sDrop A (nI a) (nI b) = if gr A.1.1 a b = true then (nI (ec (gr A.1.1)) - 1, (flipS A.1 a b, recH A.2.1 A.1, A.2.2)) else (-1, A) := by
  unfold sDrop vI
  rw [kI_of ha (by omega), kI_of hb (by omega)]
  dsimp only
  by_cases hg : gr A.1.1 a b = true
  · rw [if_pos hg, if_pos hg]
    have hne := (gr_out hg).2.2
    have e := ec_flip0 ha hb hne hg
    unfold nEd
    rw [show (flipS A.1 a b).1 = A.1.1 ^^^ pbit a b from rfl, ← e, show (1 : Int32) = nI 1 from rfl, jI_sub (by omega), Nat.add_sub_cancel]
  · rw [if_neg hg, if_neg hg]
/-- the law's own writing behind an add that adds -/
theorem lI_add {w : xW} {A : xAb} {a b : Nat} {H : List xSt} {T : Option xSt × List Nat} (ha : a < 10) (hb : b < 10) (h : a ≠ b) (hg : gr A.1.1 a b = false) (hc : cI w (flipS A.1 a b, H, T)) (hG : gI w (gr A.1.1)) (hq : w.1 46 0 = A.1.2.1 ∧ w.1 46 1 = A.1.2.2) : lI (xuI (xuI (xuI w 45 a (mk (fun v => gr A.1.1 a v || decide (v = b)))) 45 b (mk (fun v => gr A.1.1 b v || decide (v = a)))) 46 0 (w.1 46 0 + 1)) (flipS A.1 a b, H, T) := by
  have hx : ∀ x y, gr (A.1.1 ^^^ pbit a b) x y = (gr A.1.1 x y ^^ ab a b x y) := fun x y => gr_xor ha hb h
  have hs := (gr_gok A.1.1).1
  refine ⟨cI_ups hc, up_45 (gI_up hG (fun _ => ?_) ?_ fun v h1 h2 u => ?_), ?_, ?_⟩
  · refine mk_ext fun u _ => ?_
    show _ = gr (A.1.1 ^^^ pbit a b) a u
    rw [hx]
    by_cases e : u = b
    · rw [e, hg, ab_iff.mpr (Or.inl ⟨rfl, rfl⟩), decide_eq_true rfl]
      rfl
    · rw [decide_eq_false e, Bool.or_false, show ab a b a u = false from Bool.eq_false_iff.mpr fun z => by rcases ab_iff.mp z with q | q; exact e q.2; exact h q.1, Bool.xor_false]
  · refine mk_ext fun u _ => ?_
    show _ = gr (A.1.1 ^^^ pbit a b) b u
    rw [hx]
    by_cases e : u = a
    · rw [e, hs b a, hg, ab_iff.mpr (Or.inr ⟨rfl, rfl⟩), decide_eq_true rfl]
      rfl
    · rw [decide_eq_false e, Bool.or_false, show ab a b b u = false from Bool.eq_false_iff.mpr fun z => by rcases ab_iff.mp z with q | q; exact h q.1.symm; exact e q.2, Bool.xor_false]
  · show _ = gr (A.1.1 ^^^ pbit a b) v u
    rw [hx, show ab a b v u = false from Bool.eq_false_iff.mpr fun z => by rcases ab_iff.mp z with q | q; exact h1 q.1; exact h2 q.1, Bool.xor_false]
  · rw [up_46, if_pos rfl, hq.1]
    show _ = if gr A.1.1 a b = true then A.1.2.1 else A.1.2.1 + 1
    rw [hg]
    rfl
  · rw [up_46, if_neg (by decide), hq.2]
    show _ = if gr A.1.1 a b = true then A.1.2.2 + 1 else A.1.2.2
    rw [hg]
    rfl
/-- behind a drop that drops -/
theorem lI_drop {w : xW} {A : xAb} {a b : Nat} {H : List xSt} {T : Option xSt × List Nat} (ha : a < 10) (hb : b < 10) (hg : gr A.1.1 a b = true) (hc : cI w (flipS A.1 a b, H, T)) (hG : gI w (gr A.1.1)) (hq : w.1 46 0 = A.1.2.1 ∧ w.1 46 1 = A.1.2.2) : lI (xuI (xuI (xuI w 45 a (mk (fun v => gr A.1.1 a v && !decide (v = b)))) 45 b (mk (fun v => gr A.1.1 b v && !decide (v = a)))) 46 1 (w.1 46 1 + 1)) (flipS A.1 a b, H, T) := by
  have h := (gr_out hg).2.2
  have hx : ∀ x y, gr (A.1.1 ^^^ pbit a b) x y = (gr A.1.1 x y ^^ ab a b x y) := fun x y => gr_xor ha hb h
  have hs := (gr_gok A.1.1).1
  refine ⟨cI_ups hc, up_45 (gI_up hG (fun _ => ?_) ?_ fun v h1 h2 u => ?_), ?_, ?_⟩
  · refine mk_ext fun u _ => ?_
    show _ = gr (A.1.1 ^^^ pbit a b) a u
    rw [hx]
    by_cases e : u = b
    · rw [e, hg, ab_iff.mpr (Or.inl ⟨rfl, rfl⟩), decide_eq_true rfl]
      rfl
    · rw [decide_eq_false e, Bool.not_false, Bool.and_true, show ab a b a u = false from Bool.eq_false_iff.mpr fun z => by rcases ab_iff.mp z with q | q; exact e q.2; exact h q.1, Bool.xor_false]
  · refine mk_ext fun u _ => ?_
    show _ = gr (A.1.1 ^^^ pbit a b) b u
    rw [hx]
    by_cases e : u = a
    · rw [e, hs b a, hg, ab_iff.mpr (Or.inr ⟨rfl, rfl⟩), decide_eq_true rfl]
      rfl
    · rw [decide_eq_false e, Bool.not_false, Bool.and_true, show ab a b b u = false from Bool.eq_false_iff.mpr fun z => by rcases ab_iff.mp z with q | q; exact h q.1.symm; exact e q.2, Bool.xor_false]
  · show _ = gr (A.1.1 ^^^ pbit a b) v u
    rw [hx, show ab a b v u = false from Bool.eq_false_iff.mpr fun z => by rcases ab_iff.mp z with q | q; exact h1 q.1; exact h2 q.1, Bool.xor_false]
  · rw [up_46, if_neg (by decide), hq.1]
    show _ = if gr A.1.1 a b = true then A.1.2.1 else A.1.2.1 + 1
    rw [hg]
    rfl
  · rw [up_46, if_pos rfl, hq.2]
    show _ = if gr A.1.1 a b = true then A.1.2.2 + 1 else A.1.2.2
    rw [hg]
    rfl
/-- nothing but what stands there is written -/
theorem lI_same {w : xW} {A : xAb} {a b j : Nat} {Z : Int32} (h : lI w A) (hj : j = 0 ∨ j = 1) (hZ : Z = w.1 46 j) : lI (xuI (xuI (xuI w 45 a (mk (gr A.1.1 a))) 45 b (mk (gr A.1.1 b))) 46 j Z) A := by
  obtain ⟨hc, hG, h1, h2⟩ := h
  refine ⟨cI_ups hc, up_45 (gI_up hG (fun _ => rfl) rfl fun v _ _ u => rfl), ?_, ?_⟩
  · rw [up_46]
    by_cases e : 0 = j
    · rw [if_pos e, hZ, ← e, h1]
    · rw [if_neg e, h1]
  · rw [up_46]
    by_cases e : 1 = j
    · rw [if_pos e, hZ, ← e, h2]
    · rw [if_neg e, h2]
set_option maxRecDepth 10000 in
theorem l_drop {w : xW} {A : xAb} {m t a b : Nat} {x x9 : Int32} {C : xZ} (ha : a < 10) (hb : b < 10) (hI : lI w A) (h0 : gh0 w) (K : ∀ w1 A1, lI w1 A1 → w1.1 48 0 = 0 → xY ML_law (48, [some (.ref 200), some (.ref 0), some (.ref 45), some (.ref 46), some (.int (nI m)), some (.int (nI (t + 1))), none, none, none, none, none, none], [], w1) C) : xY ML_law (238, [some (.ref 200), some (.ref 0), some (.ref 45), some (.ref 46), some (.int (nI m)), some (.int (nI t)), some (.int x), some (.int (nI a)), some (.int (nI b)), some (.int x9), some (.int (if gr A.1.1 a b = true then 1 else 0)), none], [], w) C := by
  have hgk := gr_gok A.1.1
  obtain ⟨r1, w1, hc, hr1, i1, k1⟩ := C_drop (x := nI a) (y := nI b) hI.1
  subst hr1
  have hG1 := gI_kq hI.2.1 k1
  have hq1 : w1.1 46 0 = A.1.2.1 ∧ w1.1 46 1 = A.1.2.2 := ⟨((k1 46 0 rfl).1).trans hI.2.2.1, ((k1 46 1 rfl).1).trans hI.2.2.2⟩
  have g1 := gh0_kq h0 k1
  rw [sDrop_eq ha hb] at hc i1
  cases e : gr A.1.1 a b with
  | true =>
    rw [e] at hc i1
    show xY ML_law (238, [some (.ref 200), some (.ref 0), some (.ref 45), some (.ref 46), some (.int (nI m)), some (.int (nI t)), some (.int x), some (.int (nI a)), some (.int (nI b)), some (.int x9), some (.int 1), none], [], w) _
    refine xY.go 3 (F1 := (243, [some (.ref 200), some (.ref 0), some (.ref 45), some (.ref 46), some (.int (nI m)), some (.int (nI t)), some (.int x), some (.int (nI a)), some (.int (nI b)), some (.int x9), some (.int 1), none], [.int (nI b), .int (nI a), .ref 0], w)) rfl ?_
    refine xY.call rfl (hc) ?_
    show xY ML_law (246, [some (.ref 200), some (.ref 0), some (.ref 45), some (.ref 46), some (.int (nI m)), some (.int (nI t)), some (.int x), some (.int (nI a)), some (.int (nI b)), some (.int x9), some (.int 1), none], [.int (nI (ec (gr A.1.1)) - 1)], w1) _
    refine xY.go 2 (F1 := (bif decide (1 = 0) then 260 else 251, [some (.ref 200), some (.ref 0), some (.ref 45), some (.ref 46), some (.int (nI m)), some (.int (nI t)), some (.int x), some (.int (nI a)), some (.int (nI b)), some (.int x9), some (.int 1), none], [.int (nI (ec (gr A.1.1)) - 1)], w1)) rfl ?_
    refine xY.brF (by decide) ?_
    refine xY.go 1 (F1 := (252, [some (.ref 200), some (.ref 0), some (.ref 45), some (.ref 46), some (.int (nI m)), some (.int (nI t)), some (.int x), some (.int (nI a)), some (.int (nI b)), some (.int x9), some (.int 1), none], [.ref 45, .int (nI (ec (gr A.1.1)) - 1)], w1)) rfl ?_
    refine xY.call rfl (c_ledges hgk hG1) ?_
    show xY ML_law (255, [some (.ref 200), some (.ref 0), some (.ref 45), some (.ref 46), some (.int (nI m)), some (.int (nI t)), some (.int x), some (.int (nI a)), some (.int (nI b)), some (.int x9), some (.int 1), none], [.int (nI (ec (gr A.1.1))), .int (nI (ec (gr A.1.1)) - 1)], w1) _
    refine xY.go 4 (F1 := (bif decide ((nI (ec (gr A.1.1)) - 1) = ((nI (ec (gr A.1.1))) - 1)) then 266 else 264, [some (.ref 200), some (.ref 0), some (.ref 45), some (.ref 46), some (.int (nI m)), some (.int (nI t)), some (.int x), some (.int (nI a)), some (.int (nI b)), some (.int x9), some (.int 1), none], [], w1)) rfl ?_
    refine xY.brT (by simp) ?_
    refine xY.go 3 (F1 := (270, [some (.ref 200), some (.ref 0), some (.ref 45), some (.ref 46), some (.int (nI m)), some (.int (nI t)), some (.int x), some (.int (nI a)), some (.int (nI b)), some (.int x9), some (.int 1), none], [.int (nI a), .ref 45, .int (nI a), .ref 45], w1)) rfl ?_
    refine xY.iald rfl (k := a) (rfl) (⟨by omega, by omega⟩) rfl ?_
    show xY ML_law (271, [some (.ref 200), some (.ref 0), some (.ref 45), some (.ref 46), some (.int (nI m)), some (.int (nI t)), some (.int x), some (.int (nI a)), some (.int (nI b)), some (.int x9), some (.int 1), none], [.int (w1.1 45 a), .int (nI a), .ref 45], w1) _
    rw [hG1 a ha]
    refine xY.go 3 (F1 := (275, [some (.ref 200), some (.ref 0), some (.ref 45), some (.ref 46), some (.int (nI m)), some (.int (nI t)), some (.int x), some (.int (nI a)), some (.int (nI b)), some (.int x9), some (.int 1), none], [.int (1 <<< ((nI b) &&& 31)), .int (mk (gr A.1.1 a)), .int (nI a), .ref 45], w1)) rfl ?_
    rw [mk_bit hb]
    refine xY.go 3 (F1 := (278, [some (.ref 200), some (.ref 0), some (.ref 45), some (.ref 46), some (.int (nI m)), some (.int (nI t)), some (.int x), some (.int (nI a)), some (.int (nI b)), some (.int x9), some (.int 1), none], [.int ((mk (gr A.1.1 a)) &&& ((mk (fun u => decide (u = b))) ^^^ (-1))), .int (nI a), .ref 45], w1)) rfl ?_
    rw [mk_andn]
    refine xY.iast rfl (k := a) (rfl) (⟨by omega, by omega⟩) rfl ?_
    show xY ML_law (279, [some (.ref 200), some (.ref 0), some (.ref 45), some (.ref 46), some (.int (nI m)), some (.int (nI t)), some (.int x), some (.int (nI a)), some (.int (nI b)), some (.int x9), some (.int 1), none], [], (xuI w1 45 a (mk (fun v => gr A.1.1 a v && !decide (v = b))))) _
    refine xY.go 3 (F1 := (283, [some (.ref 200), some (.ref 0), some (.ref 45), some (.ref 46), some (.int (nI m)), some (.int (nI t)), some (.int x), some (.int (nI a)), some (.int (nI b)), some (.int x9), some (.int 1), none], [.int (nI b), .ref 45, .int (nI b), .ref 45], (xuI w1 45 a (mk (fun v => gr A.1.1 a v && !decide (v = b)))))) rfl ?_
    refine xY.iald rfl (k := b) (rfl) (⟨by omega, by omega⟩) rfl ?_
    show xY ML_law (284, [some (.ref 200), some (.ref 0), some (.ref 45), some (.ref 46), some (.int (nI m)), some (.int (nI t)), some (.int x), some (.int (nI a)), some (.int (nI b)), some (.int x9), some (.int 1), none], [.int ((xuI w1 45 a (mk (fun v => gr A.1.1 a v && !decide (v = b)))).1 45 b), .int (nI b), .ref 45], (xuI w1 45 a (mk (fun v => gr A.1.1 a v && !decide (v = b))))) _
    rw [uI1, if_neg (fun z => (gr_out e).2.2 z.2.symm), hG1 b hb]
    refine xY.go 3 (F1 := (288, [some (.ref 200), some (.ref 0), some (.ref 45), some (.ref 46), some (.int (nI m)), some (.int (nI t)), some (.int x), some (.int (nI a)), some (.int (nI b)), some (.int x9), some (.int 1), none], [.int (1 <<< ((nI a) &&& 31)), .int (mk (gr A.1.1 b)), .int (nI b), .ref 45], (xuI w1 45 a (mk (fun v => gr A.1.1 a v && !decide (v = b)))))) rfl ?_
    rw [mk_bit ha]
    refine xY.go 3 (F1 := (291, [some (.ref 200), some (.ref 0), some (.ref 45), some (.ref 46), some (.int (nI m)), some (.int (nI t)), some (.int x), some (.int (nI a)), some (.int (nI b)), some (.int x9), some (.int 1), none], [.int ((mk (gr A.1.1 b)) &&& ((mk (fun u => decide (u = a))) ^^^ (-1))), .int (nI b), .ref 45], (xuI w1 45 a (mk (fun v => gr A.1.1 a v && !decide (v = b)))))) rfl ?_
    rw [mk_andn]
    refine xY.iast rfl (k := b) (rfl) (⟨by omega, by omega⟩) rfl ?_
    show xY ML_law (292, [some (.ref 200), some (.ref 0), some (.ref 45), some (.ref 46), some (.int (nI m)), some (.int (nI t)), some (.int x), some (.int (nI a)), some (.int (nI b)), some (.int x9), some (.int 1), none], [], (xuI (xuI w1 45 a (mk (fun v => gr A.1.1 a v && !decide (v = b)))) 45 b (mk (fun v => gr A.1.1 b v && !decide (v = a))))) _
    refine xY.go 6 (F1 := (bif decide (1 = 0) then 305 else 301, [some (.ref 200), some (.ref 0), some (.ref 45), some (.ref 46), some (.int (nI m)), some (.int (nI t)), some (.int x), some (.int (nI a)), some (.int (nI b)), some (.int x9), some (.int 1), none], [.int (w1.1 46 1), .int 1, .ref 46], (xuI (xuI w1 45 a (mk (fun v => gr A.1.1 a v && !decide (v = b)))) 45 b (mk (fun v => gr A.1.1 b v && !decide (v = a)))))) rfl ?_
    refine xY.brF (by decide) ?_
    refine xY.go 4 (F1 := (308, [some (.ref 200), some (.ref 0), some (.ref 45), some (.ref 46), some (.int (nI m)), some (.int (nI t)), some (.int x), some (.int (nI a)), some (.int (nI b)), some (.int x9), some (.int 1), none], [], (xuI (xuI (xuI w1 45 a (mk (fun v => gr A.1.1 a v && !decide (v = b)))) 45 b (mk (fun v => gr A.1.1 b v && !decide (v = a)))) 46 1 ((w1.1 46 1) + 1)))) rfl ?_
    refine xY.less [some (.ref 200), some (.ref 0), some (.ref 45), some (.ref 46), some (.int (nI m)), some (.int (nI t)), some (.int x), none, none, none, none, none] (by simp [xleb]) ?_
    exact l_308 (lI_drop ha hb e i1 hG1 hq1) (up_48 g1) (fun w2 a b => K w2 _ a b)
  | false =>
    rw [e] at hc i1
    show xY ML_law (238, [some (.ref 200), some (.ref 0), some (.ref 45), some (.ref 46), some (.int (nI m)), some (.int (nI t)), some (.int x), some (.int (nI a)), some (.int (nI b)), some (.int x9), some (.int 0), none], [], w) _
    refine xY.go 3 (F1 := (243, [some (.ref 200), some (.ref 0), some (.ref 45), some (.ref 46), some (.int (nI m)), some (.int (nI t)), some (.int x), some (.int (nI a)), some (.int (nI b)), some (.int x9), some (.int 0), none], [.int (nI b), .int (nI a), .ref 0], w)) rfl ?_
    refine xY.call rfl (hc) ?_
    show xY ML_law (246, [some (.ref 200), some (.ref 0), some (.ref 45), some (.ref 46), some (.int (nI m)), some (.int (nI t)), some (.int x), some (.int (nI a)), some (.int (nI b)), some (.int x9), some (.int 0), none], [.int (-1)], w1) _
    refine xY.go 2 (F1 := (bif decide (0 = 0) then 260 else 251, [some (.ref 200), some (.ref 0), some (.ref 45), some (.ref 46), some (.int (nI m)), some (.int (nI t)), some (.int x), some (.int (nI a)), some (.int (nI b)), some (.int x9), some (.int 0), none], [.int (-1)], w1)) rfl ?_
    refine xY.brT (by decide) ?_
    refine xY.go 2 (F1 := (bif decide ((-1) = (-1)) then 266 else 264, [some (.ref 200), some (.ref 0), some (.ref 45), some (.ref 46), some (.int (nI m)), some (.int (nI t)), some (.int x), some (.int (nI a)), some (.int (nI b)), some (.int x9), some (.int 0), none], [], w1)) rfl ?_
    refine xY.brT (by decide) ?_
    refine xY.go 3 (F1 := (270, [some (.ref 200), some (.ref 0), some (.ref 45), some (.ref 46), some (.int (nI m)), some (.int (nI t)), some (.int x), some (.int (nI a)), some (.int (nI b)), some (.int x9), some (.int 0), none], [.int (nI a), .ref 45, .int (nI a), .ref 45], w1)) rfl ?_
    refine xY.iald rfl (k := a) (rfl) (⟨by omega, by omega⟩) rfl ?_
    show xY ML_law (271, [some (.ref 200), some (.ref 0), some (.ref 45), some (.ref 46), some (.int (nI m)), some (.int (nI t)), some (.int x), some (.int (nI a)), some (.int (nI b)), some (.int x9), some (.int 0), none], [.int (w1.1 45 a), .int (nI a), .ref 45], w1) _
    rw [hG1 a ha]
    refine xY.go 3 (F1 := (275, [some (.ref 200), some (.ref 0), some (.ref 45), some (.ref 46), some (.int (nI m)), some (.int (nI t)), some (.int x), some (.int (nI a)), some (.int (nI b)), some (.int x9), some (.int 0), none], [.int (1 <<< ((nI b) &&& 31)), .int (mk (gr A.1.1 a)), .int (nI a), .ref 45], w1)) rfl ?_
    rw [mk_bit hb]
    refine xY.go 3 (F1 := (278, [some (.ref 200), some (.ref 0), some (.ref 45), some (.ref 46), some (.int (nI m)), some (.int (nI t)), some (.int x), some (.int (nI a)), some (.int (nI b)), some (.int x9), some (.int 0), none], [.int ((mk (gr A.1.1 a)) &&& ((mk (fun u => decide (u = b))) ^^^ (-1))), .int (nI a), .ref 45], w1)) rfl ?_
    rw [mk_andn, show mk (fun v => gr A.1.1 a v && !decide (v = b)) = mk (gr A.1.1 a) from mk_ext fun u _ => by
      by_cases q : u = b
      · rw [q, e]; rfl
      · rw [decide_eq_false q, Bool.not_false, Bool.and_true]]
    refine xY.iast rfl (k := a) (rfl) (⟨by omega, by omega⟩) rfl ?_
    show xY ML_law (279, [some (.ref 200), some (.ref 0), some (.ref 45), some (.ref 46), some (.int (nI m)), some (.int (nI t)), some (.int x), some (.int (nI a)), some (.int (nI b)), some (.int x9), some (.int 0), none], [], (xuI w1 45 a (mk (gr A.1.1 a)))) _
    refine xY.go 3 (F1 := (283, [some (.ref 200), some (.ref 0), some (.ref 45), some (.ref 46), some (.int (nI m)), some (.int (nI t)), some (.int x), some (.int (nI a)), some (.int (nI b)), some (.int x9), some (.int 0), none], [.int (nI b), .ref 45, .int (nI b), .ref 45], (xuI w1 45 a (mk (gr A.1.1 a))))) rfl ?_
    refine xY.iald rfl (k := b) (rfl) (⟨by omega, by omega⟩) rfl ?_
    show xY ML_law (284, [some (.ref 200), some (.ref 0), some (.ref 45), some (.ref 46), some (.int (nI m)), some (.int (nI t)), some (.int x), some (.int (nI a)), some (.int (nI b)), some (.int x9), some (.int 0), none], [.int ((xuI w1 45 a (mk (gr A.1.1 a))).1 45 b), .int (nI b), .ref 45], (xuI w1 45 a (mk (gr A.1.1 a)))) _
    rw [gI_ld hb hG1]
    refine xY.go 3 (F1 := (288, [some (.ref 200), some (.ref 0), some (.ref 45), some (.ref 46), some (.int (nI m)), some (.int (nI t)), some (.int x), some (.int (nI a)), some (.int (nI b)), some (.int x9), some (.int 0), none], [.int (1 <<< ((nI a) &&& 31)), .int (mk (gr A.1.1 b)), .int (nI b), .ref 45], (xuI w1 45 a (mk (gr A.1.1 a))))) rfl ?_
    rw [mk_bit ha]
    refine xY.go 3 (F1 := (291, [some (.ref 200), some (.ref 0), some (.ref 45), some (.ref 46), some (.int (nI m)), some (.int (nI t)), some (.int x), some (.int (nI a)), some (.int (nI b)), some (.int x9), some (.int 0), none], [.int ((mk (gr A.1.1 b)) &&& ((mk (fun u => decide (u = a))) ^^^ (-1))), .int (nI b), .ref 45], (xuI w1 45 a (mk (gr A.1.1 a))))) rfl ?_
    rw [mk_andn, show mk (fun v => gr A.1.1 b v && !decide (v = a)) = mk (gr A.1.1 b) from mk_ext fun u _ => by
      by_cases q : u = a
      · rw [q, hgk.1 b a, e]; rfl
      · rw [decide_eq_false q, Bool.not_false, Bool.and_true]]
    refine xY.iast rfl (k := b) (rfl) (⟨by omega, by omega⟩) rfl ?_
    show xY ML_law (292, [some (.ref 200), some (.ref 0), some (.ref 45), some (.ref 46), some (.int (nI m)), some (.int (nI t)), some (.int x), some (.int (nI a)), some (.int (nI b)), some (.int x9), some (.int 0), none], [], (xuI (xuI w1 45 a (mk (gr A.1.1 a))) 45 b (mk (gr A.1.1 b)))) _
    refine xY.go 6 (F1 := (bif decide (0 = 0) then 305 else 301, [some (.ref 200), some (.ref 0), some (.ref 45), some (.ref 46), some (.int (nI m)), some (.int (nI t)), some (.int x), some (.int (nI a)), some (.int (nI b)), some (.int x9), some (.int 0), none], [.int (w1.1 46 1), .int 1, .ref 46], (xuI (xuI w1 45 a (mk (gr A.1.1 a))) 45 b (mk (gr A.1.1 b))))) rfl ?_
    refine xY.brT (by decide) ?_
    refine xY.go 3 (F1 := (308, [some (.ref 200), some (.ref 0), some (.ref 45), some (.ref 46), some (.int (nI m)), some (.int (nI t)), some (.int x), some (.int (nI a)), some (.int (nI b)), some (.int x9), some (.int 0), none], [], (xuI (xuI (xuI w1 45 a (mk (gr A.1.1 a))) 45 b (mk (gr A.1.1 b))) 46 1 ((w1.1 46 1) + 0)))) rfl ?_
    refine xY.less [some (.ref 200), some (.ref 0), some (.ref 45), some (.ref 46), some (.int (nI m)), some (.int (nI t)), some (.int x), none, none, none, none, none] (by simp [xleb]) ?_
    exact l_308 (lI_same ⟨i1, hG1, hq1⟩ (Or.inr rfl) (Int32.add_zero _)) (up_48 g1) (fun w2 a b => K w2 _ a b)
