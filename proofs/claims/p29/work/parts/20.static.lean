/-! the small helpers of the class -/
theorem i_lt0 {x : Int32} (h : decide (x < 0) = false) : 0 ≤ x := Int32.not_lt.mp (of_decide_eq_false h)
/-- an int from 0 to N - 1 -/
theorem i_of {x : Int32} {N : Nat} (hN : N < 2 ^ 31) (h0 : 0 ≤ x) (h : ¬ nI N ≤ x) : ∃ k, k < N ∧ x = nI k := by
  have h1 := Int32.le_iff_toInt_le.mp h0
  rw [Int32.toInt_zero] at h1
  rw [Int32.le_iff_toInt_le, nI_toInt hN] at h
  refine ⟨x.toInt.toNat, by omega, ?_⟩
  apply Int32.toInt_inj.mp
  rw [nI_toInt (by omega)]
  omega
theorem jI_inj {a b : Nat} (ha : a < 2 ^ 31) (hb : b < 2 ^ 31) (h : nI a = nI b) : a = b := by
  have h1 := nI_toInt ha
  rw [h, nI_toInt hb] at h1
  omega
theorem jI_add (a b : Nat) : nI a + nI b = nI (a + b) := (Int32.ofNat_add a b).symm
theorem jI_mul (a b : Nat) : nI a * nI b = nI (a * b) := (Int32.ofNat_mul a b).symm
theorem jI_sub {a b : Nat} (h : b ≤ a) : nI a - nI b = nI (a - b) := by
  have e : nI a = nI (a - b) + nI b := by rw [jI_add, Nat.sub_add_cancel h]
  rw [e, Int32.add_sub_cancel]
theorem c_isVertex_1 {w : xW} {k : Nat} (hk : k < 10) : xC MX7_isVertex [.int (nI k)] w (some (.int 1)) w := by
  unfold xC
  show xE MX7_isVertex (0, [some (.int (nI k))], [], w) _ _
  refine xE.go 2 (F1 := (bif decide ((nI k) < 0) then 14 else 4, [some (.int (nI k))], [], w)) rfl ?_
  refine xE.brF (decide_eq_false (nI_pos (by omega))) ?_
  refine xE.go 3 (F1 := (bif decide (10 ≤ (nI k)) then 14 else 10, [some (.int (nI k))], [], w)) rfl ?_
  refine xE.brF (decide_eq_false (nI_ge (b := 10) hk (by omega))) ?_
  refine xE.go 2 (F1 := (15, [some (.int (nI k))], [.int 1], w)) rfl ?_
  exact xE.iret .boolean 1 rfl rfl (rfl)
theorem c_isVertex_0 {w : xW} {x : Int32} (h : ∀ k, k < 10 → x ≠ nI k) : xC MX7_isVertex [.int x] w (some (.int 0)) w := by
  unfold xC
  show xE MX7_isVertex (0, [some (.int x)], [], w) _ _
  refine xE.go 2 (F1 := (bif decide (x < 0) then 14 else 4, [some (.int x)], [], w)) rfl ?_
  refine xE.br (fun h0 => ?_) (fun h0 => ?_)
  · refine xE.go 1 (F1 := (15, [some (.int x)], [.int 0], w)) rfl ?_
    exact xE.iret .boolean 1 rfl rfl (rfl)
  · have h1 : 10 ≤ x := by
      refine Decidable.byContradiction (fun z => ?_)
      obtain ⟨k, hk, e⟩ := i_of (N := 10) (by omega) (i_lt0 h0) z
      exact h k hk e
    refine xE.go 3 (F1 := (bif decide (10 ≤ x) then 14 else 10, [some (.int x)], [], w)) rfl ?_
    refine xE.brT (decide_eq_true h1) ?_
    refine xE.go 1 (F1 := (15, [some (.int x)], [.int 0], w)) rfl ?_
    exact xE.iret .boolean 1 rfl rfl (rfl)
theorem c_bit {w : xW} {k : Nat} (hk : k < 10) : xC MX7_bit [.int (nI k)] w (some (.int (mk (fun v => decide (v = k))))) w := by
  unfold xC
  show xE MX7_bit (0, [some (.int (nI k))], [], w) _ _
  refine xE.go 2 (F1 := (bif decide ((nI k) < 0) then 16 else 4, [some (.int (nI k))], [], w)) rfl ?_
  refine xE.brF (decide_eq_false (nI_pos (by omega))) ?_
  refine xE.go 3 (F1 := (bif decide (10 ≤ (nI k)) then 16 else 10, [some (.int (nI k))], [], w)) rfl ?_
  refine xE.brF (decide_eq_false (nI_ge (b := 10) hk (by omega))) ?_
  refine xE.go 4 (F1 := (17, [some (.int (nI k))], [.int (1 <<< ((nI k) &&& 31))], w)) rfl ?_
  rw [mk_bit hk]
  exact xE.iret .int 1 rfl rfl (rfl)
theorem c_has {w : xW} {S : Nat → Bool} {k : Nat} (hk : k < 10) : xC MX7_has [.int (mk S), .int (nI k)] w (some (.int (if S k then 1 else 0))) w := by
  unfold xC
  show xE MX7_has (0, [some (.int (mk S)), some (.int (nI k))], [], w) _ _
  refine xE.go 2 (F1 := (bif decide ((nI k) < 0) then 22 else 4, [some (.int (mk S)), some (.int (nI k))], [], w)) rfl ?_
  refine xE.brF (decide_eq_false (nI_pos (by omega))) ?_
  refine xE.go 3 (F1 := (bif decide (10 ≤ (nI k)) then 22 else 10, [some (.int (mk S)), some (.int (nI k))], [], w)) rfl ?_
  refine xE.brF (decide_eq_false (nI_ge (b := 10) hk (by omega))) ?_
  refine xE.go 6 (F1 := (bif decide ((((mk S) >>> ((nI k) &&& 31)) &&& 1) = 0) then 22 else 18, [some (.int (mk S)), some (.int (nI k))], [], w)) rfl ?_
  rw [mk_get S hk]
  cases hS : S k with
  | true =>
    refine xE.brF (by decide) ?_
    refine xE.go 2 (F1 := (23, [some (.int (mk S)), some (.int (nI k))], [.int 1], w)) rfl ?_
    exact xE.iret .boolean 1 rfl rfl (rfl)
  | false =>
    refine xE.brT (by decide) ?_
    refine xE.go 1 (F1 := (23, [some (.int (mk S)), some (.int (nI k))], [.int 0], w)) rfl ?_
    exact xE.iret .boolean 1 rfl rfl (rfl)
theorem c_least {w : xW} {S : Nat → Bool} (h : low S < 10) : xC MX7_least [.int (mk S)] w (some (.int (nI (low S)))) w := by
  unfold xC
  show xE MX7_least (0, [some (.int (mk S)), none], [], w) _ _
  refine xE.go 2 (F1 := (2, [some (.int (mk S)), some (.int 0)], [], w)) rfl ?_
  refine xE.up (S := Unit) (hd := fun k _ => (2, [some (.int (mk S)), some (.int (nI k))], [], w)) (fun k _ => k ≤ low S) 10 ?_ ?_ 0 () (by omega) (Nat.zero_le _)
  · intro k _ hk hI K
    refine xE.go 3 (F1 := (bif decide (10 ≤ (nI k)) then 24 else 8, [some (.int (mk S)), some (.int (nI k))], [], w)) rfl ?_
    refine xE.brF (decide_eq_false (nI_ge (b := 10) hk (by omega))) ?_
    refine xE.go 6 (F1 := (bif decide ((((mk S) >>> ((nI k) &&& 31)) &&& 1) = 0) then 18 else 16, [some (.int (mk S)), some (.int (nI k))], [], w)) rfl ?_
    rw [mk_get S hk]
    cases hS : S k with
    | true =>
      refine xE.brF (by decide) ?_
      have e : low S = k := by
        have := low_of hS hk
        omega
      rw [e]
      refine xE.go 1 (F1 := (17, [some (.int (mk S)), some (.int (nI k))], [.int (nI k)], w)) rfl ?_
      exact xE.iret .int 1 rfl rfl (rfl)
    | false =>
      refine xE.brT (by decide) ?_
      refine xE.go 2 (F1 := (2, [some (.int (mk S)), some (.int ((nI k) + 1))], [], w)) rfl ?_
      have e : k ≠ low S := by
        intro e
        have := low_in h
        rw [← e, hS] at this
        cases this
      rw [show nI k + 1 = nI (k + 1) from (nI_succ k).symm]
      exact K () (by omega)
  · intro _ hI
    omega
theorem c_cell {w : xW} {a b : Nat} : xC MX7_cell [.int (nI a), .int (nI b)] w (some (.int (nI (10 * a + b)))) w := by
  unfold xC
  show xE MX7_cell (0, [some (.int (nI a)), some (.int (nI b))], [], w) _ _
  refine xE.go 5 (F1 := (6, [some (.int (nI a)), some (.int (nI b))], [.int (((nI a) * 10) + (nI b))], w)) rfl ?_
  have e : nI a * 10 + nI b = nI (10 * a + b) := by
    rw [show (10 : Int32) = nI 10 from rfl, jI_mul, jI_add, Nat.mul_comm]
  rw [e]
  exact xE.iret .int 1 rfl rfl (rfl)
theorem c_at {w : xW} {a n k : Nat} (hs : xshp a = some (.inl n)) (hk : k < n) (hn : n < 2 ^ 31) : xC MX7_at [.ref a, .int (nI k)] w (some (.int (w.1 a k))) w := by
  unfold xC
  show xE MX7_at (0, [some (.ref a), some (.int (nI k))], [], w) _ _
  refine xE.go 2 (F1 := (bif decide ((nI k) < 0) then 16 else 4, [some (.ref a), some (.int (nI k))], [], w)) rfl ?_
  refine xE.brF (decide_eq_false (nI_pos (by omega))) ?_
  refine xE.go 2 (F1 := (6, [some (.ref a), some (.int (nI k))], [.ref a, .int (nI k)], w)) rfl ?_
  refine xE.alen (hs) rfl ?_
  show xE MX7_at (7, [some (.ref a), some (.int (nI k))], [.int (nI n), .int (nI k)], w) _ _
  refine xE.go 1 (F1 := (bif decide ((nI n) ≤ (nI k)) then 16 else 10, [some (.ref a), some (.int (nI k))], [], w)) rfl ?_
  refine xE.brF (decide_eq_false (nI_ge (b := n) hk (by omega))) ?_
  refine xE.go 2 (F1 := (12, [some (.ref a), some (.int (nI k))], [.int (nI k), .ref a], w)) rfl ?_
  refine xE.iald hs (k := k) (rfl) (⟨hk, hn⟩) rfl ?_
  show xE MX7_at (13, [some (.ref a), some (.int (nI k))], [.int (w.1 a k)], w) _ _
  refine xE.go 1 (F1 := (17, [some (.ref a), some (.int (nI k))], [.int (w.1 a k)], w)) rfl ?_
  exact xE.iret .int 1 rfl rfl (rfl)
theorem c_at_out {w : xW} {a n k : Nat} (hs : xshp a = some (.inl n)) (hk : n ≤ k) (hn : k < 2 ^ 31) : xC MX7_at [.ref a, .int (nI k)] w (some (.int 0)) w := by
  unfold xC
  show xE MX7_at (0, [some (.ref a), some (.int (nI k))], [], w) _ _
  refine xE.go 2 (F1 := (bif decide ((nI k) < 0) then 16 else 4, [some (.ref a), some (.int (nI k))], [], w)) rfl ?_
  refine xE.brF (decide_eq_false (nI_pos (by omega))) ?_
  refine xE.go 2 (F1 := (6, [some (.ref a), some (.int (nI k))], [.ref a, .int (nI k)], w)) rfl ?_
  refine xE.alen (hs) rfl ?_
  show xE MX7_at (7, [some (.ref a), some (.int (nI k))], [.int (nI n), .int (nI k)], w) _ _
  refine xE.go 1 (F1 := (bif decide ((nI n) ≤ (nI k)) then 16 else 10, [some (.ref a), some (.int (nI k))], [], w)) rfl ?_
  refine xE.brT (decide_eq_true (nI_le hk (by omega))) ?_
  refine xE.go 1 (F1 := (17, [some (.ref a), some (.int (nI k))], [.int 0], w)) rfl ?_
  exact xE.iret .int 1 rfl rfl (rfl)
theorem c_put {w : xW} {a n k : Nat} {x : Int32} (hs : xshp a = some (.inl n)) (hk : k < n) (hn : n < 2 ^ 31) : xC MX7_put [.ref a, .int (nI k), .int x] w none (xuI w a k x) := by
  unfold xC
  show xE MX7_put (0, [some (.ref a), some (.int (nI k)), some (.int x)], [], w) _ _
  refine xE.go 2 (F1 := (bif decide ((nI k) < 0) then 14 else 4, [some (.ref a), some (.int (nI k)), some (.int x)], [], w)) rfl ?_
  refine xE.brF (decide_eq_false (nI_pos (by omega))) ?_
  refine xE.go 2 (F1 := (6, [some (.ref a), some (.int (nI k)), some (.int x)], [.ref a, .int (nI k)], w)) rfl ?_
  refine xE.alen (hs) rfl ?_
  show xE MX7_put (7, [some (.ref a), some (.int (nI k)), some (.int x)], [.int (nI n), .int (nI k)], w) _ _
  refine xE.go 1 (F1 := (bif decide ((nI n) ≤ (nI k)) then 14 else 10, [some (.ref a), some (.int (nI k)), some (.int x)], [], w)) rfl ?_
  refine xE.brF (decide_eq_false (nI_ge (b := n) hk (by omega))) ?_
  refine xE.go 3 (F1 := (13, [some (.ref a), some (.int (nI k)), some (.int x)], [.int x, .int (nI k), .ref a], w)) rfl ?_
  refine xE.iast hs (k := k) (rfl) (⟨hk, hn⟩) rfl ?_
  show xE MX7_put (14, [some (.ref a), some (.int (nI k)), some (.int x)], [], (xuI w a k x)) _ _
  exact xE.vret 1 rfl rfl
theorem c_put_out {w : xW} {a n k : Nat} {x : Int32} (hs : xshp a = some (.inl n)) (hk : n ≤ k) (hn : k < 2 ^ 31) : xC MX7_put [.ref a, .int (nI k), .int x] w none w := by
  unfold xC
  show xE MX7_put (0, [some (.ref a), some (.int (nI k)), some (.int x)], [], w) _ _
  refine xE.go 2 (F1 := (bif decide ((nI k) < 0) then 14 else 4, [some (.ref a), some (.int (nI k)), some (.int x)], [], w)) rfl ?_
  refine xE.brF (decide_eq_false (nI_pos (by omega))) ?_
  refine xE.go 2 (F1 := (6, [some (.ref a), some (.int (nI k)), some (.int x)], [.ref a, .int (nI k)], w)) rfl ?_
  refine xE.alen (hs) rfl ?_
  show xE MX7_put (7, [some (.ref a), some (.int (nI k)), some (.int x)], [.int (nI n), .int (nI k)], w) _ _
  refine xE.go 1 (F1 := (bif decide ((nI n) ≤ (nI k)) then 14 else 10, [some (.ref a), some (.int (nI k)), some (.int x)], [], w)) rfl ?_
  refine xE.brT (decide_eq_true (nI_le hk (by omega))) ?_
  exact xE.vret 1 rfl rfl
