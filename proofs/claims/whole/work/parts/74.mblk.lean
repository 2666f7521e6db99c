/-! the reference: what is joined, and the blocks -/
theorem rchn_1 {N : Nat → Nat → Bool} {S : Nat → Bool} (n : Nat) (X : Nat → Bool) : rchn N S (n + 1) X = rst N S (rchn N S n X) := by
  rw [rchn_add]
  rfl
theorem rchn_stop {N : Nat → Nat → Bool} {S X : Nat → Bool} {n : Nat} (hn : n ≤ 10) (h : ∀ v, v < 10 → rchn N S (n + 1) X v = rchn N S n X v) : ∀ v, v < 10 → rchn N S (n + 1) X v = rchn N S 10 X v := by
  intro v hv
  rw [h v hv]
  have e : rchn N S 10 X = rchn N S (10 - n) (rchn N S n X) := by rw [← rchn_add]; congr 1; omega
  rw [e]
  exact (rchn_fix (fun u hu => by rw [← rchn_1]; exact h u hu) (10 - n) v hv).symm
def prv (N : Nat → Nat → Bool) (S X : Nat → Bool) : Nat → Int32
  | 0 => 0
  | j + 1 => mk (rchn N S j X)
theorem m_joined {w : xW} {N : Nat → Nat → Bool} {S : Nat → Bool} {x : Nat} (of : Bool) (hx : x < 10) (hS : S x = true) (hN : ∀ v, v < 10 → w.1 (bif of then 55 else 50) v = mk (N v)) : xC MX8_joined [.ref 45, .int (nI x), .int (mk S), .int (if of then 1 else 0)] w (some (.int (mk (rch N S (fun v => decide (v = x)))))) w := by
  obtain ⟨X, hX⟩ : ∃ X : Nat → Bool, X = fun v => decide (v = x) && S v := ⟨_, rfl⟩
  have hx0 : mk (fun v => decide (v = x)) = mk X := mk_ext fun v _ => by
    rw [hX]
    by_cases e : v = x
    · rw [e]; simp [hS]
    · simp [e]
  have hne0 : mk X ≠ 0 := fun e => by
    have := mk_zero.mp e x hx
    rw [hX] at this
    simp [hS] at this
  have hrch : rch N S (fun v => decide (v = x)) = rchn N S 10 X := by rw [hX]; rfl
  rw [hrch]
  unfold xC
  show xE MX8_joined (0, [some (.ref 45), some (.int (nI x)), some (.int (mk S)), some (.int (if of then 1 else 0)), none, none, none], [], w) _ _
  refine xE.go 3 (F1 := (3, [some (.ref 45), some (.int (nI x)), some (.int (mk S)), some (.int (if of then 1 else 0)), none, none, none], [.int (1 <<< ((nI x) &&& 31))], w)) rfl ?_
  rw [mk_bit hx, hx0]
  refine xE.go 3 (F1 := (8, [some (.ref 45), some (.int (nI x)), some (.int (mk S)), some (.int (if of then 1 else 0)), some (.int (mk X)), some (.int 0), none], [], w)) rfl ?_
  refine xE.loop (S := Unit) (fun k s => (8, [some (.ref 45), some (.int (nI x)), some (.int (mk S)), some (.int (if of then 1 else 0)), some (.int (mk (rchn N S k X))), some (.int (prv N S X k)), none], [], w)) (fun _ _ => True) 11 () (rfl) (trivial) ?_ ?_
  · intro k s hk hI K
    have K := K () trivial
    have goon : ∀ b : Int32, xE MX8_joined (15, [some (.ref 45), some (.int (nI x)), some (.int (mk S)), some (.int (if of then 1 else 0)), some (.int (mk (rchn N S k X))), some (.int b), none], [], w) (some (.int (mk (rchn N S 10 X)))) w := by
      intro b
      refine xE.go 4 (F1 := (22, [some (.ref 45), some (.int (nI x)), some (.int (mk S)), some (.int (if of then 1 else 0)), some (.int (mk (rchn N S k X))), some (.int (mk (rchn N S k X))), some (.int 0)], [], w)) rfl ?_
      refine xE.loop (S := Unit) (fun k2 s2 => (22, [some (.ref 45), some (.int (nI x)), some (.int (mk S)), some (.int (if of then 1 else 0)), some (.int (mk (fun z => rchn N S k X z || (anyv (fun u => rchn N S k X u && N u z) k2 && S z)))), some (.int (mk (rchn N S k X))), some (.int (nI k2))], [], w)) (fun _ _ => True) 10 () (by rw [show mk (fun z => rchn N S k X z || (anyv (fun u => rchn N S k X u && N u z) 0 && S z)) = mk (rchn N S k X) from mk_ext fun z _ => by simp [anyv]]; rfl) (trivial) ?_ ?_
      · intro k2 s2 hk2 hI2 K2
        have K2 := K2 () trivial
        refine xE.go 3 (F1 := (bif decide (10 ≤ (nI k2)) then 74 else 29, [some (.ref 45), some (.int (nI x)), some (.int (mk S)), some (.int (if of then 1 else 0)), some (.int (mk (fun z => rchn N S k X z || (anyv (fun u => rchn N S k X u && N u z) k2 && S z)))), some (.int (mk (rchn N S k X))), some (.int (nI k2))], [], w)) rfl ?_
        refine xE.brF (decide_eq_false (nI_ge (b := 10) (by omega) (by omega))) ?_
        refine xE.go 7 (F1 := (bif !decide ((((mk (rchn N S k X)) >>> ((nI k2) &&& 31)) &&& 1) = 1) then 68 else 40, [some (.ref 45), some (.int (nI x)), some (.int (mk S)), some (.int (if of then 1 else 0)), some (.int (mk (fun z => rchn N S k X z || (anyv (fun u => rchn N S k X u && N u z) k2 && S z)))), some (.int (mk (rchn N S k X))), some (.int (nI k2))], [], w)) rfl ?_
        rw [mk_get _ hk2, b01e]
        have hst : mk (fun z => rchn N S k X z || (anyv (fun u => rchn N S k X u && N u z) (k2 + 1) && S z)) = if rchn N S k X k2 = true then mk (fun z => (rchn N S k X z || (anyv (fun u => rchn N S k X u && N u z) k2 && S z)) || (N k2 z && S z)) else mk (fun z => rchn N S k X z || (anyv (fun u => rchn N S k X u && N u z) k2 && S z)) := by
          by_cases hr : rchn N S k X k2 = true
          · rw [if_pos hr]
            refine mk_ext fun z _ => ?_
            show (_ || ((anyv _ k2 || (rchn N S k X k2 && N k2 z)) && S z)) = _
            rw [hr]
            cases rchn N S k X z <;> cases anyv (fun u => rchn N S k X u && N u z) k2 <;> cases N k2 z <;> cases S z <;> rfl
          · rw [if_neg hr]
            refine mk_ext fun z _ => ?_
            show (_ || ((anyv _ k2 || (rchn N S k X k2 && N k2 z)) && S z)) = _
            rw [Bool.eq_false_iff.mpr hr]
            simp
        rw [hst] at K2
        by_cases hr : rchn N S k X k2 = true
        · rw [if_pos hr] at K2
          rw [hr]
          refine xE.brF rfl ?_
          refine xE.go 3 (F1 := (bif decide ((if of then 1 else 0) = 0) then 56 else 46, [some (.ref 45), some (.int (nI x)), some (.int (mk S)), some (.int (if of then 1 else 0)), some (.int (mk (fun z => rchn N S k X z || (anyv (fun u => rchn N S k X u && N u z) k2 && S z)))), some (.int (mk (rchn N S k X))), some (.int (nI k2))], [.int (mk (fun z => rchn N S k X z || (anyv (fun u => rchn N S k X u && N u z) k2 && S z)))], w)) rfl ?_
          cases of with
          | true =>
            refine xE.brF rfl ?_
            refine xE.go 3 (F1 := (52, [some (.ref 45), some (.int (nI x)), some (.int (mk S)), some (.int (if true then 1 else 0)), some (.int (mk (fun z => rchn N S k X z || (anyv (fun u => rchn N S k X u && N u z) k2 && S z)))), some (.int (mk (rchn N S k X))), some (.int (nI k2))], [.int (nI k2), .ref 55, .int (mk (fun z => rchn N S k X z || (anyv (fun u => rchn N S k X u && N u z) k2 && S z)))], w)) rfl ?_
            refine xE.iald rfl (k := k2) (rfl) (⟨by omega, by omega⟩) rfl ?_
            show xE MX8_joined (53, [some (.ref 45), some (.int (nI x)), some (.int (mk S)), some (.int (if true then 1 else 0)), some (.int (mk (fun z => rchn N S k X z || (anyv (fun u => rchn N S k X u && N u z) k2 && S z)))), some (.int (mk (rchn N S k X))), some (.int (nI k2))], [.int (w.1 55 k2), .int (mk (fun z => rchn N S k X z || (anyv (fun u => rchn N S k X u && N u z) k2 && S z)))], w) _ _
            rw [show w.1 55 k2 = mk (N k2) from hN k2 hk2]
            refine xE.go 4 (F1 := (66, [some (.ref 45), some (.int (nI x)), some (.int (mk S)), some (.int (if true then 1 else 0)), some (.int (mk (fun z => rchn N S k X z || (anyv (fun u => rchn N S k X u && N u z) k2 && S z)))), some (.int (mk (rchn N S k X))), some (.int (nI k2))], [.int ((mk (fun z => rchn N S k X z || (anyv (fun u => rchn N S k X u && N u z) k2 && S z))) ||| ((mk (N k2)) &&& (mk S)))], w)) rfl ?_
            rw [mk_and, mk_or]
            refine xE.go 3 (F1 := (22, [some (.ref 45), some (.int (nI x)), some (.int (mk S)), some (.int (if true then 1 else 0)), some (.int (mk (fun z => (rchn N S k X z || (anyv (fun u => rchn N S k X u && N u z) k2 && S z)) || (N k2 z && S z)))), some (.int (mk (rchn N S k X))), some (.int ((nI k2) + 1))], [], w)) rfl ?_
            rw [← nI_succ]
            exact K2
          | false =>
            refine xE.brT rfl ?_
            refine xE.go 3 (F1 := (62, [some (.ref 45), some (.int (nI x)), some (.int (mk S)), some (.int (if false then 1 else 0)), some (.int (mk (fun z => rchn N S k X z || (anyv (fun u => rchn N S k X u && N u z) k2 && S z)))), some (.int (mk (rchn N S k X))), some (.int (nI k2))], [.int (nI k2), .ref 50, .int (mk (fun z => rchn N S k X z || (anyv (fun u => rchn N S k X u && N u z) k2 && S z)))], w)) rfl ?_
            refine xE.iald rfl (k := k2) (rfl) (⟨by omega, by omega⟩) rfl ?_
            show xE MX8_joined (63, [some (.ref 45), some (.int (nI x)), some (.int (mk S)), some (.int (if false then 1 else 0)), some (.int (mk (fun z => rchn N S k X z || (anyv (fun u => rchn N S k X u && N u z) k2 && S z)))), some (.int (mk (rchn N S k X))), some (.int (nI k2))], [.int (w.1 50 k2), .int (mk (fun z => rchn N S k X z || (anyv (fun u => rchn N S k X u && N u z) k2 && S z)))], w) _ _
            rw [show w.1 50 k2 = mk (N k2) from hN k2 hk2]
            refine xE.go 3 (F1 := (66, [some (.ref 45), some (.int (nI x)), some (.int (mk S)), some (.int (if false then 1 else 0)), some (.int (mk (fun z => rchn N S k X z || (anyv (fun u => rchn N S k X u && N u z) k2 && S z)))), some (.int (mk (rchn N S k X))), some (.int (nI k2))], [.int ((mk (fun z => rchn N S k X z || (anyv (fun u => rchn N S k X u && N u z) k2 && S z))) ||| ((mk (N k2)) &&& (mk S)))], w)) rfl ?_
            rw [mk_and, mk_or]
            refine xE.go 3 (F1 := (22, [some (.ref 45), some (.int (nI x)), some (.int (mk S)), some (.int (if false then 1 else 0)), some (.int (mk (fun z => (rchn N S k X z || (anyv (fun u => rchn N S k X u && N u z) k2 && S z)) || (N k2 z && S z)))), some (.int (mk (rchn N S k X))), some (.int ((nI k2) + 1))], [], w)) rfl ?_
            rw [← nI_succ]
            exact K2
        · rw [if_neg hr] at K2
          rw [Bool.eq_false_iff.mpr hr]
          refine xE.brT rfl ?_
          refine xE.go 2 (F1 := (22, [some (.ref 45), some (.int (nI x)), some (.int (mk S)), some (.int (if of then 1 else 0)), some (.int (mk (fun z => rchn N S k X z || (anyv (fun u => rchn N S k X u && N u z) k2 && S z)))), some (.int (mk (rchn N S k X))), some (.int ((nI k2) + 1))], [], w)) rfl ?_
          rw [← nI_succ]
          exact K2
      · intro s2 hI2
        refine xE.go 3 (F1 := (bif decide (10 ≤ (nI 10)) then 74 else 29, [some (.ref 45), some (.int (nI x)), some (.int (mk S)), some (.int (if of then 1 else 0)), some (.int (mk (fun z => rchn N S k X z || (anyv (fun u => rchn N S k X u && N u z) 10 && S z)))), some (.int (mk (rchn N S k X))), some (.int (nI 10))], [], w)) rfl ?_
        refine xE.brT (rfl) ?_
        rw [show mk (fun z => rchn N S k X z || (anyv (fun u => rchn N S k X u && N u z) 10 && S z)) = mk (rchn N S (k + 1) X) by rw [rchn_1]; rfl]
        refine xE.go 1 (F1 := (8, [some (.ref 45), some (.int (nI x)), some (.int (mk S)), some (.int (if of then 1 else 0)), some (.int (mk (rchn N S (k + 1) X))), some (.int (mk (rchn N S k X))), some (.int (nI 10))], [], w)) rfl ?_
        refine xE.less [some (.ref 45), some (.int (nI x)), some (.int (mk S)), some (.int (if of then 1 else 0)), some (.int (mk (rchn N S (k + 1) X))), some (.int (mk (rchn N S k X))), none] (by simp [xleb]) ?_
        exact K
    refine xE.go 3 (F1 := (bif decide ((mk (rchn N S k X)) = (prv N S X k)) then 77 else 15, [some (.ref 45), some (.int (nI x)), some (.int (mk S)), some (.int (if of then 1 else 0)), some (.int (mk (rchn N S k X))), some (.int (prv N S X k)), none], [], w)) rfl ?_
    cases k with
    | zero =>
      refine xE.brF (decide_eq_false hne0) ?_
      exact goon 0
    | succ j =>
      by_cases he : mk (rchn N S (j + 1) X) = mk (rchn N S j X)
      · refine xE.brT (decide_eq_true he) ?_
        rw [show mk (rchn N S 10 X) = mk (rchn N S (j + 1) X) from mk_ext fun v hv => (rchn_stop (by omega) (mk_inj he) v hv).symm]
        refine xE.go 1 (F1 := (79, [some (.ref 45), some (.int (nI x)), some (.int (mk S)), some (.int (if of then 1 else 0)), some (.int (mk (rchn N S (j + 1) X))), some (.int (mk (rchn N S j X))), none], [.int (mk (rchn N S (j + 1) X))], w)) rfl ?_
        exact xE.iret .int 1 rfl rfl (rfl)
      · refine xE.brF (decide_eq_false he) ?_
        exact goon _
  · intro s hI
    have he : mk (rchn N S 11 X) = mk (rchn N S 10 X) := mk_ext fun v hv => by
      rw [rchn_1, hX]
      exact rch_fix N S (fun v => decide (v = x)) v hv
    show xE MX8_joined (8, [some (.ref 45), some (.int (nI x)), some (.int (mk S)), some (.int (if of then 1 else 0)), some (.int (mk (rchn N S 11 X))), some (.int (mk (rchn N S 10 X))), none], [], w) _ _
    refine xE.go 3 (F1 := (bif decide ((mk (rchn N S 11 X)) = (mk (rchn N S 10 X))) then 77 else 15, [some (.ref 45), some (.int (nI x)), some (.int (mk S)), some (.int (if of then 1 else 0)), some (.int (mk (rchn N S 11 X))), some (.int (mk (rchn N S 10 X))), none], [], w)) rfl ?_
    refine xE.brT (decide_eq_true he) ?_
    rw [← he]
    refine xE.go 1 (F1 := (79, [some (.ref 45), some (.int (nI x)), some (.int (mk S)), some (.int (if of then 1 else 0)), some (.int (mk (rchn N S 11 X))), some (.int (mk (rchn N S 11 X))), none], [.int (mk (rchn N S 11 X))], w)) rfl ?_
    exact xE.iret .int 1 rfl rfl (rfl)
theorem m_jBlk {w : xW} {i j p q : Nat} (hi : i < 45) (hj : j < 45) (hp : w.1 51 i = nI p) (hq : w.1 51 j = nI q) (p45 : p < 45) (q45 : q < 45) : xD MX8_joinBlocks [.ref 45, .int (nI i), .int (nI j)] w (fun r w1 => r = none ∧ (∀ e, e < 45 → w1.1 51 e = if w.1 51 e = nI (max p q) then nI (min p q) else w.1 51 e) ∧ xkq [(51, none)] w w1) := by
  refine xD.of ?_
  show xQ MX8_joinBlocks (0, [some (.ref 45), some (.int (nI i)), some (.int (nI j)), none, none, none], [], w) _
  have com : xQ MX8_joinBlocks (66, [some (.ref 45), some (.int (nI i)), some (.int (nI j)), some (.int (nI (min p q))), some (.int (nI (max p q))), some (.int 0)], [], w) (fun r w1 => r = none ∧ (∀ e, e < 45 → w1.1 51 e = if w.1 51 e = nI (max p q) then nI (min p q) else w.1 51 e) ∧ xkq [(51, none)] w w1) := by
    refine xQ.loop (S := xW) (fun k s => (66, [some (.ref 45), some (.int (nI i)), some (.int (nI j)), some (.int (nI (min p q))), some (.int (nI (max p q))), some (.int (nI k))], [], s)) (fun k s => (∀ e, e < k → s.1 51 e = if w.1 51 e = nI (max p q) then nI (min p q) else w.1 51 e) ∧ (∀ e, k ≤ e → s.1 51 e = w.1 51 e) ∧ xkq [(51, none)] w s) 45 w (rfl) (⟨(fun e he => absurd he (by omega)), (fun e he => rfl), xkq_rfl⟩) ?_ ?_
    · intro k s hk hI K
      obtain ⟨i1, i2, i3⟩ := hI
      have com2 : ∀ y : Int32, y = (if w.1 51 k = nI (max p q) then nI (min p q) else w.1 51 k) → xQ MX8_joinBlocks (102, [some (.ref 45), some (.int (nI i)), some (.int (nI j)), some (.int (nI (min p q))), some (.int (nI (max p q))), some (.int (nI k))], [.int y, .int (nI k), .ref 51], s) (fun r w1 => r = none ∧ (∀ e, e < 45 → w1.1 51 e = if w.1 51 e = nI (max p q) then nI (min p q) else w.1 51 e) ∧ xkq [(51, none)] w w1) := by
        intro y hy
        refine xQ.iast rfl (k := k) (rfl) (⟨by omega, by omega⟩) rfl ?_
        show xQ MX8_joinBlocks (103, [some (.ref 45), some (.int (nI i)), some (.int (nI j)), some (.int (nI (min p q))), some (.int (nI (max p q))), some (.int (nI k))], [], (xuI s 51 k y)) _
        refine xQ.go 2 (F1 := (66, [some (.ref 45), some (.int (nI i)), some (.int (nI j)), some (.int (nI (min p q))), some (.int (nI (max p q))), some (.int ((nI k) + 1))], [], (xuI s 51 k y))) rfl ?_
        rw [← nI_succ]
        refine K _ ⟨fun e he => ?_, fun e he => ?_, xkq_I i3 rfl⟩
        · rw [uI1]
          by_cases ee : e = k
          · rw [if_pos ⟨rfl, ee⟩, ee]; exact hy
          · rw [if_neg (fun h => ee h.2)]
            exact i1 e (by omega)
        · rw [uI1, if_neg (by omega)]
          exact i2 e (by omega)
      refine xQ.go 3 (F1 := (bif decide (45 ≤ (nI k)) then 109 else 73, [some (.ref 45), some (.int (nI i)), some (.int (nI j)), some (.int (nI (min p q))), some (.int (nI (max p q))), some (.int (nI k))], [], s)) rfl ?_
      refine xQ.brF (decide_eq_false (nI_ge (b := 45) (by omega) (by omega))) ?_
      refine xQ.go 6 (F1 := (85, [some (.ref 45), some (.int (nI i)), some (.int (nI j)), some (.int (nI (min p q))), some (.int (nI (max p q))), some (.int (nI k))], [.int (nI k), .ref 51, .int (nI k), .ref 51], s)) rfl ?_
      refine xQ.iald rfl (k := k) (rfl) (⟨by omega, by omega⟩) rfl ?_
      show xQ MX8_joinBlocks (86, [some (.ref 45), some (.int (nI i)), some (.int (nI j)), some (.int (nI (min p q))), some (.int (nI (max p q))), some (.int (nI k))], [.int (s.1 51 k), .int (nI k), .ref 51], s) _
      rw [i2 k (Nat.le_refl _)]
      refine xQ.go 2 (F1 := (bif !decide ((w.1 51 k) = (nI (max p q))) then 95 else 91, [some (.ref 45), some (.int (nI i)), some (.int (nI j)), some (.int (nI (min p q))), some (.int (nI (max p q))), some (.int (nI k))], [.int (nI k), .ref 51], s)) rfl ?_
      by_cases hc : w.1 51 k = nI (max p q)
      · refine xQ.brF (by rw [decide_eq_true hc]; rfl) ?_
        refine xQ.go 2 (F1 := (102, [some (.ref 45), some (.int (nI i)), some (.int (nI j)), some (.int (nI (min p q))), some (.int (nI (max p q))), some (.int (nI k))], [.int (nI (min p q)), .int (nI k), .ref 51], s)) rfl ?_
        exact com2 _ (by rw [if_pos hc])
      · refine xQ.brT (by rw [decide_eq_false hc]; rfl) ?_
        refine xQ.go 3 (F1 := (101, [some (.ref 45), some (.int (nI i)), some (.int (nI j)), some (.int (nI (min p q))), some (.int (nI (max p q))), some (.int (nI k))], [.int (nI k), .ref 51, .int (nI k), .ref 51], s)) rfl ?_
        refine xQ.iald rfl (k := k) (rfl) (⟨by omega, by omega⟩) rfl ?_
        show xQ MX8_joinBlocks (102, [some (.ref 45), some (.int (nI i)), some (.int (nI j)), some (.int (nI (min p q))), some (.int (nI (max p q))), some (.int (nI k))], [.int (s.1 51 k), .int (nI k), .ref 51], s) _
        rw [i2 k (Nat.le_refl _)]
        exact com2 _ (by rw [if_neg hc])
    · intro s hI
      refine xQ.go 3 (F1 := (bif decide (45 ≤ (nI 45)) then 109 else 73, [some (.ref 45), some (.int (nI i)), some (.int (nI j)), some (.int (nI (min p q))), some (.int (nI (max p q))), some (.int (nI 45))], [], s)) rfl ?_
      refine xQ.brT (rfl) ?_
      refine xQ.vret 1 rfl rfl ?_
      exact ⟨rfl, hI.1, hI.2.2⟩
  refine xQ.go 3 (F1 := (5, [some (.ref 45), some (.int (nI i)), some (.int (nI j)), none, none, none], [.int (nI i), .ref 51], w)) rfl ?_
  refine xQ.iald rfl (k := i) (rfl) (⟨by omega, by omega⟩) rfl ?_
  show xQ MX8_joinBlocks (6, [some (.ref 45), some (.int (nI i)), some (.int (nI j)), none, none, none], [.int (w.1 51 i)], w) _
  refine xQ.go 3 (F1 := (11, [some (.ref 45), some (.int (nI i)), some (.int (nI j)), none, none, none], [.int (nI j), .ref 51, .int (w.1 51 i)], w)) rfl ?_
  refine xQ.iald rfl (k := j) (rfl) (⟨by omega, by omega⟩) rfl ?_
  show xQ MX8_joinBlocks (12, [some (.ref 45), some (.int (nI i)), some (.int (nI j)), none, none, none], [.int (w.1 51 j), .int (w.1 51 i)], w) _
  rw [hp, hq]
  refine xQ.go 1 (F1 := (bif decide ((nI q) ≤ (nI p)) then 24 else 15, [some (.ref 45), some (.int (nI i)), some (.int (nI j)), none, none, none], [], w)) rfl ?_
  by_cases hlt : p < q
  · rw [Nat.min_eq_left (by omega), Nat.max_eq_right (by omega)] at com ⊢
    refine xQ.brF (decide_eq_false (nI_ge hlt (by omega))) ?_
    refine xQ.go 3 (F1 := (20, [some (.ref 45), some (.int (nI i)), some (.int (nI j)), none, none, none], [.int (nI i), .ref 51], w)) rfl ?_
    refine xQ.iald rfl (k := i) (rfl) (⟨by omega, by omega⟩) rfl ?_
    show xQ MX8_joinBlocks (21, [some (.ref 45), some (.int (nI i)), some (.int (nI j)), none, none, none], [.int (w.1 51 i)], w) _
    rw [hp]
    refine xQ.go 5 (F1 := (36, [some (.ref 45), some (.int (nI i)), some (.int (nI j)), some (.int (nI p)), none, none], [.int (nI i), .ref 51], w)) rfl ?_
    refine xQ.iald rfl (k := i) (rfl) (⟨by omega, by omega⟩) rfl ?_
    show xQ MX8_joinBlocks (37, [some (.ref 45), some (.int (nI i)), some (.int (nI j)), some (.int (nI p)), none, none], [.int (w.1 51 i)], w) _
    refine xQ.go 3 (F1 := (42, [some (.ref 45), some (.int (nI i)), some (.int (nI j)), some (.int (nI p)), none, none], [.int (nI j), .ref 51, .int (w.1 51 i)], w)) rfl ?_
    refine xQ.iald rfl (k := j) (rfl) (⟨by omega, by omega⟩) rfl ?_
    show xQ MX8_joinBlocks (43, [some (.ref 45), some (.int (nI i)), some (.int (nI j)), some (.int (nI p)), none, none], [.int (w.1 51 j), .int (w.1 51 i)], w) _
    rw [hp, hq]
    refine xQ.go 1 (F1 := (bif decide ((nI q) ≤ (nI p)) then 55 else 46, [some (.ref 45), some (.int (nI i)), some (.int (nI j)), some (.int (nI p)), none, none], [], w)) rfl ?_
    refine xQ.brF (decide_eq_false (nI_ge hlt (by omega))) ?_
    refine xQ.go 3 (F1 := (51, [some (.ref 45), some (.int (nI i)), some (.int (nI j)), some (.int (nI p)), none, none], [.int (nI j), .ref 51], w)) rfl ?_
    refine xQ.iald rfl (k := j) (rfl) (⟨by omega, by omega⟩) rfl ?_
    show xQ MX8_joinBlocks (52, [some (.ref 45), some (.int (nI i)), some (.int (nI j)), some (.int (nI p)), none, none], [.int (w.1 51 j)], w) _
    rw [hq]
    refine xQ.go 4 (F1 := (66, [some (.ref 45), some (.int (nI i)), some (.int (nI j)), some (.int (nI p)), some (.int (nI q)), some (.int 0)], [], w)) rfl ?_
    exact com
  · rw [Nat.min_eq_right (by omega), Nat.max_eq_left (by omega)] at com ⊢
    refine xQ.brT (decide_eq_true (nI_le (by omega) (by omega))) ?_
    refine xQ.go 3 (F1 := (29, [some (.ref 45), some (.int (nI i)), some (.int (nI j)), none, none, none], [.int (nI j), .ref 51], w)) rfl ?_
    refine xQ.iald rfl (k := j) (rfl) (⟨by omega, by omega⟩) rfl ?_
    show xQ MX8_joinBlocks (30, [some (.ref 45), some (.int (nI i)), some (.int (nI j)), none, none, none], [.int (w.1 51 j)], w) _
    rw [hq]
    refine xQ.go 4 (F1 := (36, [some (.ref 45), some (.int (nI i)), some (.int (nI j)), some (.int (nI q)), none, none], [.int (nI i), .ref 51], w)) rfl ?_
    refine xQ.iald rfl (k := i) (rfl) (⟨by omega, by omega⟩) rfl ?_
    show xQ MX8_joinBlocks (37, [some (.ref 45), some (.int (nI i)), some (.int (nI j)), some (.int (nI q)), none, none], [.int (w.1 51 i)], w) _
    refine xQ.go 3 (F1 := (42, [some (.ref 45), some (.int (nI i)), some (.int (nI j)), some (.int (nI q)), none, none], [.int (nI j), .ref 51, .int (w.1 51 i)], w)) rfl ?_
    refine xQ.iald rfl (k := j) (rfl) (⟨by omega, by omega⟩) rfl ?_
    show xQ MX8_joinBlocks (43, [some (.ref 45), some (.int (nI i)), some (.int (nI j)), some (.int (nI q)), none, none], [.int (w.1 51 j), .int (w.1 51 i)], w) _
    rw [hp, hq]
    refine xQ.go 1 (F1 := (bif decide ((nI q) ≤ (nI p)) then 55 else 46, [some (.ref 45), some (.int (nI i)), some (.int (nI j)), some (.int (nI q)), none, none], [], w)) rfl ?_
    refine xQ.brT (decide_eq_true (nI_le (by omega) (by omega))) ?_
    refine xQ.go 3 (F1 := (60, [some (.ref 45), some (.int (nI i)), some (.int (nI j)), some (.int (nI q)), none, none], [.int (nI i), .ref 51], w)) rfl ?_
    refine xQ.iald rfl (k := i) (rfl) (⟨by omega, by omega⟩) rfl ?_
    show xQ MX8_joinBlocks (61, [some (.ref 45), some (.int (nI i)), some (.int (nI j)), some (.int (nI q)), none, none], [.int (w.1 51 i)], w) _
    rw [hp]
    refine xQ.go 3 (F1 := (66, [some (.ref 45), some (.int (nI i)), some (.int (nI j)), some (.int (nI q)), some (.int (nI p)), some (.int 0)], [], w)) rfl ?_
    exact com
/-- the labels in the row of blocks; what has been joined -/
def lbM (w : xW) (G : Nat → Nat → Bool) (D : Nat → Nat → Nat → Prop) : Prop := ∃ m : Nat → Nat, LOK G m ∧ (∀ v x y, D v x y → m (pix v x) = m (pix v y)) ∧ (∀ e, e < 45 → w.1 51 e = if ed G e = true then nI (m e) else -5)
/-- the pairs around vertices that have been joined so far -/
def dUp (G : Nat → Nat → Bool) (n : Nat) (v x y : Nat) : Prop := v < 10 ∧ x < y ∧ y < 10 ∧ G v x = true ∧ G v y = true ∧ con G (but v) x y ∧ 100 * v + 10 * x + y < n
theorem lbM_kq {w w1 : xW} {G : Nat → Nat → Bool} {D : Nat → Nat → Nat → Prop} {L : xCS} (h : lbM w G D) (k : xkq L w w1) (hL : cno L [51] = true := by rfl) : lbM w1 G D := by
  obtain ⟨m, h1, h2, h3⟩ := h
  exact ⟨m, h1, h2, fun e he => (k 51 e (cno_at hL (by simp) e)).1.trans (h3 e he)⟩
theorem lbM_mono {w : xW} {G : Nat → Nat → Bool} {D E : Nat → Nat → Nat → Prop} (h : lbM w G D) (hD : ∀ v x y, E v x y → D v x y) : lbM w G E := by
  obtain ⟨m, h1, h2, h3⟩ := h
  exact ⟨m, h1, fun v x y h => h2 v x y (hD v x y h), h3⟩
theorem dig3 {a c d v k b : Nat} (hc : c < 10) (hd : d < 10) (hk : k < 10) (hb : b < 10) (h : 100 * a + 10 * c + d = 100 * v + 10 * k + b) : a = v ∧ c = k ∧ d = b := by
  have h1 : a = v := by
    have e1 : (100 * a + 10 * c + d) / 100 = a := by omega
    have e2 : (100 * v + 10 * k + b) / 100 = v := by omega
    rw [← e1, h, e2]
  subst h1
  omega
theorem m_jAround {w : xW} {G : Nat → Nat → Bool} {v : Nat} (hg : gok G) (hG : gM w G) (hv : v < 10) (hL : lbM w G (dUp G (100 * v))) : xD MX8_joinAround [.ref 45, .int (nI v)] w (fun r w1 => r = none ∧ lbM w1 G (dUp G (100 * (v + 1))) ∧ xkq [(51, none)] w w1) := by
  refine xD.of ?_
  show xQ MX8_joinAround (0, [some (.ref 45), some (.int (nI v)), none, none, none], [], w) _
  refine xQ.go 2 (F1 := (2, [some (.ref 45), some (.int (nI v)), some (.int 0), none, none], [], w)) rfl ?_
  refine xQ.loop (S := xW) (fun k s => (2, [some (.ref 45), some (.int (nI v)), some (.int (nI k)), none, none], [], s)) (fun k s => lbM s G (dUp G (100 * v + 10 * k)) ∧ xkq [(51, none)] w s) 10 w (rfl) (⟨hL, xkq_rfl⟩) ?_ ?_
  · intro k s hk hI K
    obtain ⟨i1, i2⟩ := hI
    have hGs : gM s G := fun u hu => (xkq_at i2 50 u).trans (hG u hu)
    have skip : ∀ (s2 : xW) (a b : Option Value), lbM s2 G (dUp G (100 * v + 10 * (k + 1))) → xkq [(51, none)] w s2 → xQ MX8_joinAround (88, [some (.ref 45), some (.int (nI v)), some (.int (nI k)), a, b], [], s2) (fun r w1 => r = none ∧ lbM w1 G (dUp G (100 * (v + 1))) ∧ xkq [(51, none)] w w1) := by
      intro s2 a b m1 m2
      refine xQ.less [some (.ref 45), some (.int (nI v)), some (.int (nI k)), none, none] (by simp [xleb]) ?_
      refine xQ.go 2 (F1 := (2, [some (.ref 45), some (.int (nI v)), some (.int ((nI k) + 1)), none, none], [], s2)) rfl ?_
      rw [← nI_succ]
      exact K s2 ⟨m1, m2⟩
    refine xQ.go 3 (F1 := (bif decide (10 ≤ (nI k)) then 94 else 8, [some (.ref 45), some (.int (nI v)), some (.int (nI k)), none, none], [], s)) rfl ?_
    refine xQ.brF (decide_eq_false (nI_ge (b := 10) (by omega) (by omega))) ?_
    refine xQ.go 3 (F1 := (13, [some (.ref 45), some (.int (nI v)), some (.int (nI k)), none, none], [.int (nI v), .ref 50], s)) rfl ?_
    refine xQ.iald rfl (k := v) (rfl) (⟨by omega, by omega⟩) rfl ?_
    show xQ MX8_joinAround (14, [some (.ref 45), some (.int (nI v)), some (.int (nI k)), none, none], [.int (s.1 50 v)], s) _
    rw [hGs v hv]
    refine xQ.go 6 (F1 := (bif !decide ((((mk (G v)) >>> ((nI k) &&& 31)) &&& 1) = 1) then 88 else 22, [some (.ref 45), some (.int (nI v)), some (.int (nI k)), none, none], [], s)) rfl ?_
    rw [mk_get _ hk, b01e]
    cases hvk : G v k with
    | false =>
      refine xQ.brT rfl ?_
      refine skip s _ _ (lbM_mono i1 (fun a b c h => ?_)) i2
      obtain ⟨d1, d2, d3, d4, d5, d6, d7⟩ := h
      refine ⟨d1, d2, d3, d4, d5, d6, ?_⟩
      refine Nat.lt_of_not_le fun hc => ?_
      have : a = v ∧ b = k := by omega
      rw [this.1, this.2, hvk] at d4
      cases d4
    | true =>
      refine xQ.brF rfl ?_
      have hvne : k ≠ v := fun e => by rw [e, hg.2.1] at hvk; cases hvk
      refine xQ.go 8 (F1 := (32, [some (.ref 45), some (.int (nI v)), some (.int (nI k)), none, none], [.int ((1 <<< ((nI v) &&& 31)) ^^^ (-1)), .int 1023, .int (nI k), .ref 45], s)) rfl ?_
      rw [mk_bit hv]
      refine xQ.go 1 (F1 := (33, [some (.ref 45), some (.int (nI v)), some (.int (nI k)), none, none], [.int (1023 &&& (mk (fun u => decide (u = v)) ^^^ -1)), .int (nI k), .ref 45], s)) rfl ?_
      rw [mk_all, mk_andn, show (fun u => true && !decide (u = v)) = but v from funext fun u => by simp [but]]
      refine xQ.go 1 (F1 := (34, [some (.ref 45), some (.int (nI v)), some (.int (nI k)), none, none], [.int 0, .int (mk (but v)), .int (nI k), .ref 45], s)) rfl ?_
      refine xQ.call rfl (m_joined false hk (but_iff.mpr hvne) hGs) ?_
      show xQ MX8_joinAround (37, [some (.ref 45), some (.int (nI v)), some (.int (nI k)), none, none], [.int (mk (rch G (but v) (fun u => decide (u = k))))], s) _
      refine xQ.go 3 (F1 := (42, [some (.ref 45), some (.int (nI v)), some (.int (nI k)), none, none], [.int (nI v), .ref 50, .int (mk (rch G (but v) (fun u => decide (u = k))))], s)) rfl ?_
      refine xQ.iald rfl (k := v) (rfl) (⟨by omega, by omega⟩) rfl ?_
      show xQ MX8_joinAround (43, [some (.ref 45), some (.int (nI v)), some (.int (nI k)), none, none], [.int (s.1 50 v), .int (mk (rch G (but v) (fun u => decide (u = k))))], s) _
      rw [hGs v hv]
      refine xQ.go 1 (F1 := (44, [some (.ref 45), some (.int (nI v)), some (.int (nI k)), none, none], [.int ((mk (rch G (but v) (fun u => decide (u = k)))) &&& (mk (G v)))], s)) rfl ?_
      rw [mk_and]
      refine xQ.go 5 (F1 := (50, [some (.ref 45), some (.int (nI v)), some (.int (nI k)), some (.int (mk (fun z => rch G (but v) (fun u => decide (u = k)) z && G v z))), some (.int ((nI k) + 1))], [], s)) rfl ?_
      rw [show nI k + 1 = nI (k + 1) from (nI_succ k).symm]
      have d0 : lbM s G (dUp G (100 * v + 10 * k + (k + 1))) := lbM_mono i1 (fun a b c h => by
        obtain ⟨d1, d2, d3, d4, d5, d6, d7⟩ := h
        exact ⟨d1, d2, d3, d4, d5, d6, by omega⟩)
      refine xQ.loop (S := xW) (fun k2 s2 => (50, [some (.ref 45), some (.int (nI v)), some (.int (nI k)), some (.int (mk (fun z => rch G (but v) (fun u => decide (u = k)) z && G v z))), some (.int (nI (k + 1 + k2)))], [], s2)) (fun k2 s2 => lbM s2 G (dUp G (100 * v + 10 * k + (k + 1 + k2))) ∧ xkq [(51, none)] w s2) (9 - k) s (rfl) (⟨d0, i2⟩) ?_ ?_
      · intro k2 s2 hk2 hI2 K2
        obtain ⟨b, hbe⟩ : ∃ b, b = k + 1 + k2 := ⟨_, rfl⟩
        rw [show k + 1 + (k2 + 1) = b + 1 by omega] at K2
        rw [← hbe] at hI2 ⊢
        obtain ⟨j1, j2⟩ := hI2
        have hb10 : b < 10 := by omega
        have nx : ∀ s3 : xW, lbM s3 G (dUp G (100 * v + 10 * k + (b + 1))) → xkq [(51, none)] w s3 → xQ MX8_joinAround (82, [some (.ref 45), some (.int (nI v)), some (.int (nI k)), some (.int (mk (fun z => rch G (but v) (fun u => decide (u = k)) z && G v z))), some (.int (nI b))], [], s3) (fun r w1 => r = none ∧ lbM w1 G (dUp G (100 * (v + 1))) ∧ xkq [(51, none)] w w1) := by
          intro s3 m1 m2
          refine xQ.go 2 (F1 := (50, [some (.ref 45), some (.int (nI v)), some (.int (nI k)), some (.int (mk (fun z => rch G (but v) (fun u => decide (u = k)) z && G v z))), some (.int ((nI b) + 1))], [], s3)) rfl ?_
          rw [← nI_succ]
          exact K2 s3 ⟨m1, m2⟩
        refine xQ.go 3 (F1 := (bif decide (10 ≤ (nI b)) then 88 else 57, [some (.ref 45), some (.int (nI v)), some (.int (nI k)), some (.int (mk (fun z => rch G (but v) (fun u => decide (u = k)) z && G v z))), some (.int (nI b))], [], s2)) rfl ?_
        refine xQ.brF (decide_eq_false (nI_ge (b := 10) (by omega) (by omega))) ?_
        refine xQ.go 7 (F1 := (bif !decide ((((mk (fun z => rch G (but v) (fun u => decide (u = k)) z && G v z)) >>> ((nI b) &&& 31)) &&& 1) = 1) then 82 else 67, [some (.ref 45), some (.int (nI v)), some (.int (nI k)), some (.int (mk (fun z => rch G (but v) (fun u => decide (u = k)) z && G v z))), some (.int (nI b))], [], s2)) rfl ?_
        rw [mk_get _ hb10, b01e]
        cases hr : (rch G (but v) (fun u => decide (u = k)) b && G v b) with
        | false =>
          refine xQ.brT rfl ?_
          refine nx s2 (lbM_mono j1 (fun a c d h => ?_)) j2
          obtain ⟨d1, d2, d3, d4, d5, d6, d7⟩ := h
          refine ⟨d1, d2, d3, d4, d5, d6, ?_⟩
          refine Nat.lt_of_not_le fun hc => ?_
          obtain ⟨q1, q2, q3⟩ := dig3 (show c < 10 by omega) d3 (show k < 10 by omega) hb10 (show 100 * a + 10 * c + d = 100 * v + 10 * k + b by omega)
          subst q1; subst q2; subst q3
          have : (rch G (but a) (fun u => decide (u = c)) d && G a d) = true := by
            rw [Bool.and_eq_true]
            exact ⟨d6, d5⟩
          rw [hr] at this
          cases this
        | true =>
          rw [Bool.and_eq_true] at hr
          refine xQ.brF rfl ?_
          have hvb : v ≠ b := fun e => by
            have := hr.2
            rw [← e, hg.2.1] at this
            cases this
          refine xQ.go 3 (F1 := (70, [some (.ref 45), some (.int (nI v)), some (.int (nI k)), some (.int (mk (fun z => rch G (but v) (fun u => decide (u = k)) z && G v z))), some (.int (nI b))], [.int (nI k), .int (nI v), .ref 45], s2)) rfl ?_
          refine xQ.call rfl (m_pair hv hk (fun e => hvne e.symm)) ?_
          show xQ MX8_joinAround (73, [some (.ref 45), some (.int (nI v)), some (.int (nI k)), some (.int (mk (fun z => rch G (but v) (fun u => decide (u = k)) z && G v z))), some (.int (nI b))], [.int (nI (pix v k)), .ref 45], s2) _
          refine xQ.go 2 (F1 := (76, [some (.ref 45), some (.int (nI v)), some (.int (nI k)), some (.int (mk (fun z => rch G (but v) (fun u => decide (u = k)) z && G v z))), some (.int (nI b))], [.int (nI b), .int (nI v), .int (nI (pix v k)), .ref 45], s2)) rfl ?_
          refine xQ.call rfl (m_pair hv hb10 hvb) ?_
          show xQ MX8_joinAround (79, [some (.ref 45), some (.int (nI v)), some (.int (nI k)), some (.int (mk (fun z => rch G (but v) (fun u => decide (u = k)) z && G v z))), some (.int (nI b))], [.int (nI (pix v b)), .int (nI (pix v k)), .ref 45], s2) _
          have pk := pix_lt hv hk (fun e => hvne e.symm)
          have pb2 := pix_lt hv hb10 hvb
          obtain ⟨m, l1, l2, l3⟩ := j1
          have ek : ed G (pix v k) = true := by rw [ed_pix hg hv hk (fun e => hvne e.symm)]; exact hvk
          have eb : ed G (pix v b) = true := by rw [ed_pix hg hv hb10 hvb]; exact hr.2
          have ck := l3 _ pk
          have cb := l3 _ pb2
          rw [if_pos ek] at ck
          rw [if_pos eb] at cb
          have lk := (l1 _ pk ek).1
          have lb := (l1 _ pb2 eb).1
          obtain ⟨r4, s4, hc4, hr4, g1, g2⟩ := m_jBlk (w := s2) pk pb2 ck cb (by omega) (by omega)
          subst hr4
          refine xQ.call rfl (hc4) ?_
          show xQ MX8_joinAround (82, [some (.ref 45), some (.int (nI v)), some (.int (nI k)), some (.int (mk (fun z => rch G (but v) (fun u => decide (u = k)) z && G v z))), some (.int (nI b))], [], s4) _
          refine nx s4 ⟨mrg m (pix v k) (pix v b), LOK_mrg hg l1 pk pb2 ek eb (sb_J hg hvk hr.2 hr.1), fun a c d h => ?_, fun e he => ?_⟩ (xkq_trans j2 g2)
          · obtain ⟨d1, d2, d3, d4, d5, d6, d7⟩ := h
            by_cases hc : a = v ∧ c = k ∧ d = b
            · obtain ⟨q1, q2, q3⟩ := hc
              rw [q1, q2, q3]
              exact mrg_ij m _ _
            · refine mrg_eq (l2 a c d ⟨d1, d2, d3, d4, d5, d6, Nat.lt_of_not_le fun hc2 => hc ?_⟩)
              exact dig3 (show c < 10 by omega) d3 (show k < 10 by omega) hb10 (show 100 * a + 10 * c + d = 100 * v + 10 * k + b by omega)
          · rw [g1 e he, l3 e he]
            by_cases hee : ed G e = true
            · have le := (l1 e he hee).1
              rw [if_pos hee, if_pos hee]
              unfold mrg
              by_cases hm : m e = max (m (pix v k)) (m (pix v b))
              · rw [if_pos hm, if_pos (by rw [hm])]
              · rw [if_neg hm, if_neg (fun h => hm (jI_inj (by omega) (by omega) h))]
            · rw [if_neg hee, if_neg hee, if_neg]
              intro h
              exact nI_pos (n := max (m (pix v k)) (m (pix v b))) (by omega) (by rw [← h]; decide)
      · intro s2 hI2
        obtain ⟨j1, j2⟩ := hI2
        rw [show k + 1 + (9 - k) = 10 by omega] at *
        refine xQ.go 3 (F1 := (bif decide (10 ≤ (nI 10)) then 88 else 57, [some (.ref 45), some (.int (nI v)), some (.int (nI k)), some (.int (mk (fun z => rch G (but v) (fun u => decide (u = k)) z && G v z))), some (.int (nI 10))], [], s2)) rfl ?_
        refine xQ.brT (rfl) ?_
        exact skip s2 _ _ (lbM_mono j1 (fun a c d h => by
          obtain ⟨d1, d2, d3, d4, d5, d6, d7⟩ := h
          exact ⟨d1, d2, d3, d4, d5, d6, by omega⟩)) j2
  · intro s hI
    obtain ⟨i1, i2⟩ := hI
    refine xQ.go 3 (F1 := (bif decide (10 ≤ (nI 10)) then 94 else 8, [some (.ref 45), some (.int (nI v)), some (.int (nI 10)), none, none], [], s)) rfl ?_
    refine xQ.brT (rfl) ?_
    refine xQ.vret 1 rfl rfl ?_
    exact ⟨rfl, lbM_mono i1 (fun a c d h => by
      obtain ⟨d1, d2, d3, d4, d5, d6, d7⟩ := h
      exact ⟨d1, d2, d3, d4, d5, d6, by omega⟩), i2⟩
