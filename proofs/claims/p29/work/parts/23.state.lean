/-! pairs and states of the class -/
theorem i_min {a b : Nat} (ha : a < 10) (hb : b < 10) : (if nI b < nI a then nI b else nI a) = nI (min a b) := by
  by_cases h : b < a
  · rw [if_pos (nI_lt h (by omega)), Nat.min_eq_right (by omega)]
  · rw [if_neg (nI_nlt (by omega) (by omega)), Nat.min_eq_left (by omega)]
theorem i_max {a b : Nat} (ha : a < 10) (hb : b < 10) : (if nI a < nI b then nI b else nI a) = nI (max a b) := by
  by_cases h : a < b
  · rw [if_pos (nI_lt h (by omega)), Nat.max_eq_right (by omega)]
  · rw [if_neg (nI_nlt (by omega) (by omega)), Nat.max_eq_left (by omega)]
theorem pbit_mm {a b : Nat} : pbit (min a b) (max a b) = pbit a b := by
  by_cases h : a ≤ b
  · rw [Nat.min_eq_left h, Nat.max_eq_right h]
  · rw [Nat.min_eq_right (by omega), Nat.max_eq_left (by omega), pbit_sym]
theorem pb_all {l h : Nat} (hl : l < 10) (hh : h < 10) (hlt : l < h) : (1 : Int64) <<< ((nI l * (19 - nI l) / 2 + nI h - nI l - 1).toInt64 &&& 63) = pbit l h := by
  have : ∀ l, l < 10 → ∀ h, h < 10 → l < h → (1 : Int64) <<< ((nI l * (19 - nI l) / 2 + nI h - nI l - 1).toInt64 &&& 63) = pbit l h := by decide +kernel
  exact this l hl h hh hlt
theorem c_pb {w : xW} {a b : Nat} (ha : a < 10) (hb : b < 10) (h : a ≠ b) : xC MX7_pairBit [.int (nI a), .int (nI b)] w (some (.long (pbit a b))) w := by
  unfold xC
  show xE MX7_pairBit (0, [some (.int (nI a)), some (.int (nI b)), none, none, none], [], w) _ _
  refine xE.go 8 (F1 := (12, [some (.int (nI a)), some (.int (nI b)), some (.int (if nI b < nI a then nI b else nI a)), some (.int (if nI a < nI b then nI b else nI a)), none], [], w)) rfl ?_
  rw [i_min ha hb, i_max ha hb]
  refine xE.go 2 (F1 := (bif decide ((nI (min a b)) < 0) then 27 else 16, [some (.int (nI a)), some (.int (nI b)), some (.int (nI (min a b))), some (.int (nI (max a b))), none], [], w)) rfl ?_
  refine xE.brF (decide_eq_false (nI_pos (by omega))) ?_
  refine xE.go 3 (F1 := (bif decide (10 ≤ (nI (max a b))) then 27 else 22, [some (.int (nI a)), some (.int (nI b)), some (.int (nI (min a b))), some (.int (nI (max a b))), none], [], w)) rfl ?_
  refine xE.brF (decide_eq_false (nI_ge (b := 10) (by omega) (by omega))) ?_
  refine xE.go 3 (F1 := (bif !decide ((nI (min a b)) = (nI (max a b))) then 29 else 27, [some (.int (nI a)), some (.int (nI b)), some (.int (nI (min a b))), some (.int (nI (max a b))), none], [], w)) rfl ?_
  refine xE.brT (by rw [decide_eq_false (fun e => by have := jI_inj (by omega) (by omega) e; omega)]; rfl) ?_
  refine xE.go 17 (F1 := (49, [some (.int (nI a)), some (.int (nI b)), some (.int (nI (min a b))), some (.int (nI (max a b))), some (.int (((nI (min a b)) * (19 - (nI (min a b)))) / 2))], [.long (1 <<< (((((((nI (min a b)) * (19 - (nI (min a b)))) / 2) + (nI (max a b))) - (nI (min a b))) - 1).toInt64 &&& 63))], w)) rfl ?_
  rw [pb_all (by omega) (by omega) (by omega), pbit_mm]
  exact xE.lret 1 rfl rfl
theorem c_pb_0 {w : xW} {x y : Int32} (hn : ∀ a b, a < 10 → b < 10 → a ≠ b → x = nI a → y = nI b → False) : xC MX7_pairBit [.int x, .int y] w (some (.long 0)) w := by
  unfold xC
  show xE MX7_pairBit (0, [some (.int x), some (.int y), none, none, none], [], w) _ _
  refine xE.go 8 (F1 := (12, [some (.int x), some (.int y), some (.int (if y < x then y else x)), some (.int (if x < y then y else x)), none], [], w)) rfl ?_
  have e1 : ∃ lo hi : Int32, (lo = if y < x then y else x) ∧ hi = if x < y then y else x := ⟨_, _, rfl, rfl⟩
  obtain ⟨lo, hi, e1, e2⟩ := e1
  rw [← e1, ← e2]
  refine xE.go 2 (F1 := (bif decide (lo < 0) then 27 else 16, [some (.int x), some (.int y), some (.int lo), some (.int hi), none], [], w)) rfl ?_
  refine xE.br (fun h1 => ?_) (fun h1 => ?_)
  · refine xE.go 1 (F1 := (28, [some (.int x), some (.int y), some (.int lo), some (.int hi), none], [.long 0], w)) rfl ?_
    exact xE.lret 1 rfl rfl
  · refine xE.go 3 (F1 := (bif decide (10 ≤ hi) then 27 else 22, [some (.int x), some (.int y), some (.int lo), some (.int hi), none], [], w)) rfl ?_
    refine xE.br (fun h2 => ?_) (fun h2 => ?_)
    · refine xE.go 1 (F1 := (28, [some (.int x), some (.int y), some (.int lo), some (.int hi), none], [.long 0], w)) rfl ?_
      exact xE.lret 1 rfl rfl
    · refine xE.go 3 (F1 := (bif !decide (lo = hi) then 29 else 27, [some (.int x), some (.int y), some (.int lo), some (.int hi), none], [], w)) rfl ?_
      refine xE.br (fun h3 => ?_) (fun h3 => ?_)
      · exfalso
        have f1 := Int32.le_iff_toInt_le.mp (i_lt0 h1)
        have f2 : ¬ (10 : Int32) ≤ hi := of_decide_eq_false h2
        have f3 : lo ≠ hi := fun e => by rw [decide_eq_true e] at h3; cases h3
        have e10 : (10 : Int32).toInt = 10 := rfl
        rw [Int32.toInt_zero] at f1
        rw [Int32.le_iff_toInt_le, e10] at f2
        have fx : ∀ z : Int32, 0 ≤ z.toInt → z.toInt < 10 → ∃ k, k < 10 ∧ z = nI k := fun z g1 g2 => i_of (N := 10) (by omega) (Int32.le_iff_toInt_le.mpr (by rw [Int32.toInt_zero]; exact g1)) (by rw [Int32.le_iff_toInt_le, nI_toInt (by omega)]; omega)
        by_cases c1 : y < x
        · have c2 : ¬ x < y := fun e => by rw [Int32.lt_iff_toInt_lt] at c1 e; omega
          rw [if_pos c1] at e1
          rw [if_neg c2] at e2
          subst e1; subst e2
          rw [Int32.lt_iff_toInt_lt] at c1
          obtain ⟨k1, hk1, q1⟩ := fx lo (by omega) (by omega)
          obtain ⟨k2, hk2, q2⟩ := fx hi (by omega) (by omega)
          exact hn k2 k1 hk2 hk1 (fun e => f3 (by rw [q1, q2, e])) q2 q1
        · rw [if_neg c1] at e1
          by_cases c2 : x < y
          · rw [if_pos c2] at e2
            subst e1; subst e2
            rw [Int32.lt_iff_toInt_lt] at c2
            obtain ⟨k1, hk1, q1⟩ := fx lo (by omega) (by omega)
            obtain ⟨k2, hk2, q2⟩ := fx hi (by omega) (by omega)
            exact hn k1 k2 hk1 hk2 (fun e => f3 (by rw [q1, q2, e])) q1 q2
          · rw [if_neg c2] at e2
            exact f3 (by rw [e1, e2])
      · refine xE.go 1 (F1 := (28, [some (.int x), some (.int y), some (.int lo), some (.int hi), none], [.long 0], w)) rfl ?_
        exact xE.lret 1 rfl rfl
/-- the two ints are a pair of vertices -/
def prI (x y : Int32) : Prop := ∃ a b, a < 10 ∧ b < 10 ∧ a ≠ b ∧ x = nI a ∧ y = nI b
theorem c_edges1 {w : xW} : xC MX5_edges [.ref 1] w (some (.long (w.2 1 0))) w := by
  unfold xC
  show xE MX5_edges (0, [some (.ref 1)], [], w) _ _
  refine xE.go 2 (F1 := (4, [some (.ref 1)], [.long (w.2 1 0)], w)) rfl ?_
  exact xE.lret 1 rfl rfl
theorem c_edges2 {w : xW} : xC MX5_edges [.ref 2] w (some (.long (w.2 2 0))) w := by
  unfold xC
  show xE MX5_edges (0, [some (.ref 2)], [], w) _ _
  refine xE.go 2 (F1 := (4, [some (.ref 2)], [.long (w.2 2 0)], w)) rfl ?_
  exact xE.lret 1 rfl rfl
theorem c_added1 {w : xW} : xC MX5_added [.ref 1] w (some (.int (w.1 1 1))) w := by
  unfold xC
  show xE MX5_added (0, [some (.ref 1)], [], w) _ _
  refine xE.go 2 (F1 := (4, [some (.ref 1)], [.int (w.1 1 1)], w)) rfl ?_
  exact xE.iret .int 1 rfl rfl (rfl)
theorem c_added2 {w : xW} : xC MX5_added [.ref 2] w (some (.int (w.1 2 1))) w := by
  unfold xC
  show xE MX5_added (0, [some (.ref 2)], [], w) _ _
  refine xE.go 2 (F1 := (4, [some (.ref 2)], [.int (w.1 2 1)], w)) rfl ?_
  exact xE.iret .int 1 rfl rfl (rfl)
theorem c_dropped1 {w : xW} : xC MX5_dropped [.ref 1] w (some (.int (w.1 1 2))) w := by
  unfold xC
  show xE MX5_dropped (0, [some (.ref 1)], [], w) _ _
  refine xE.go 2 (F1 := (4, [some (.ref 1)], [.int (w.1 1 2)], w)) rfl ?_
  exact xE.iret .int 1 rfl rfl (rfl)
theorem c_dropped2 {w : xW} : xC MX5_dropped [.ref 2] w (some (.int (w.1 2 2))) w := by
  unfold xC
  show xE MX5_dropped (0, [some (.ref 2)], [], w) _ _
  refine xE.go 2 (F1 := (4, [some (.ref 2)], [.int (w.1 2 2)], w)) rfl ?_
  exact xE.iret .int 1 rfl rfl (rfl)
theorem c_joins {w : xW} {a b : Nat} (ha : a < 10) (hb : b < 10) (h : a ≠ b) : xC MX5_joins [.ref 1, .int (nI a), .int (nI b)] w (some (.int (if gr (w.2 1 0) a b then 1 else 0))) w := by
  unfold xC
  show xE MX5_joins (0, [some (.ref 1), some (.int (nI a)), some (.int (nI b))], [], w) _ _
  refine xE.go 4 (F1 := (6, [some (.ref 1), some (.int (nI a)), some (.int (nI b))], [.int (nI b), .int (nI a), .long (w.2 1 0)], w)) rfl ?_
  refine xE.call rfl (c_pb ha hb h) ?_
  show xE MX5_joins (9, [some (.ref 1), some (.int (nI a)), some (.int (nI b))], [.long (pbit a b), .long (w.2 1 0)], w) _ _
  refine xE.go 4 (F1 := (bif decide ((lg_cmp ((w.2 1 0) &&& (pbit a b)) 0) = 0) then 19 else 15, [some (.ref 1), some (.int (nI a)), some (.int (nI b))], [], w)) rfl ?_
  rw [lg_cmp0]
  cases hg : gr (w.2 1 0) a b with
  | true =>
    refine xE.brF (decide_eq_false (fun e => by rw [(and_zero _ ha hb h).mp e] at hg; cases hg)) ?_
    refine xE.go 2 (F1 := (20, [some (.ref 1), some (.int (nI a)), some (.int (nI b))], [.int 1], w)) rfl ?_
    exact xE.iret .boolean 1 rfl rfl (rfl)
  | false =>
    refine xE.brT (decide_eq_true ((and_zero _ ha hb h).mpr hg)) ?_
    refine xE.go 1 (F1 := (20, [some (.ref 1), some (.int (nI a)), some (.int (nI b))], [.int 0], w)) rfl ?_
    exact xE.iret .boolean 1 rfl rfl (rfl)
theorem c_joins_0 {w : xW} {x y : Int32} (hn : ¬ prI x y) : xC MX5_joins [.ref 1, .int x, .int y] w (some (.int 0)) w := by
  unfold xC
  show xE MX5_joins (0, [some (.ref 1), some (.int x), some (.int y)], [], w) _ _
  refine xE.go 4 (F1 := (6, [some (.ref 1), some (.int x), some (.int y)], [.int y, .int x, .long (w.2 1 0)], w)) rfl ?_
  refine xE.call rfl (c_pb_0 (fun a b ha hb h e1 e2 => hn ⟨a, b, ha, hb, h, e1, e2⟩)) ?_
  show xE MX5_joins (9, [some (.ref 1), some (.int x), some (.int y)], [.long 0, .long (w.2 1 0)], w) _ _
  refine xE.go 4 (F1 := (bif decide ((lg_cmp ((w.2 1 0) &&& 0) 0) = 0) then 19 else 15, [some (.ref 1), some (.int x), some (.int y)], [], w)) rfl ?_
  rw [lg_cmp0]
  refine xE.brT (decide_eq_true (by simp)) ?_
  refine xE.go 1 (F1 := (20, [some (.ref 1), some (.int x), some (.int y)], [.int 0], w)) rfl ?_
  exact xE.iret .boolean 1 rfl rfl (rfl)
theorem c_flip {w : xW} {a b : Nat} (ha : a < 10) (hb : b < 10) (h : a ≠ b) : xC MX5_flip [.ref 1, .int (nI a), .int (nI b)] w none (xuJ (if gr (w.2 1 0) a b then xuI w 1 2 (w.1 1 2 + 1) else xuI w 1 1 (w.1 1 1 + 1)) 1 0 (w.2 1 0 ^^^ pbit a b)) := by
  unfold xC
  show xE MX5_flip (0, [some (.ref 1), some (.int (nI a)), some (.int (nI b))], [], w) _ _
  refine xE.go 3 (F1 := (3, [some (.ref 1), some (.int (nI a)), some (.int (nI b))], [.int (nI b), .int (nI a), .ref 1], w)) rfl ?_
  refine xE.call rfl (c_joins ha hb h) ?_
  show xE MX5_flip (6, [some (.ref 1), some (.int (nI a)), some (.int (nI b))], [.int (if gr (w.2 1 0) a b then 1 else 0)], w) _ _
  refine xE.go 1 (F1 := (bif decide ((if gr (w.2 1 0) a b then 1 else 0) = 0) then 22 else 9, [some (.ref 1), some (.int (nI a)), some (.int (nI b))], [], w)) rfl ?_
  cases hg : gr (w.2 1 0) a b with
  | true =>
    refine xE.brF (by decide) ?_
    refine xE.go 12 (F1 := (39, [some (.ref 1), some (.int (nI a)), some (.int (nI b))], [.int (nI b), .int (nI a), .long (w.2 1 0), .ref 1], (xuI w 1 2 ((w.1 1 2) + 1)))) rfl ?_
    refine xE.call rfl (c_pb ha hb h) ?_
    show xE MX5_flip (42, [some (.ref 1), some (.int (nI a)), some (.int (nI b))], [.long (pbit a b), .long (w.2 1 0), .ref 1], (xuI w 1 2 ((w.1 1 2) + 1))) _ _
    refine xE.go 2 (F1 := (46, [some (.ref 1), some (.int (nI a)), some (.int (nI b))], [], (xuJ (xuI w 1 2 ((w.1 1 2) + 1)) 1 0 ((w.2 1 0) ^^^ (pbit a b))))) rfl ?_
    exact xE.vret 1 rfl rfl
  | false =>
    refine xE.brT (by decide) ?_
    refine xE.go 11 (F1 := (39, [some (.ref 1), some (.int (nI a)), some (.int (nI b))], [.int (nI b), .int (nI a), .long (w.2 1 0), .ref 1], (xuI w 1 1 ((w.1 1 1) + 1)))) rfl ?_
    refine xE.call rfl (c_pb ha hb h) ?_
    show xE MX5_flip (42, [some (.ref 1), some (.int (nI a)), some (.int (nI b))], [.long (pbit a b), .long (w.2 1 0), .ref 1], (xuI w 1 1 ((w.1 1 1) + 1))) _ _
    refine xE.go 2 (F1 := (46, [some (.ref 1), some (.int (nI a)), some (.int (nI b))], [], (xuJ (xuI w 1 1 ((w.1 1 1) + 1)) 1 0 ((w.2 1 0) ^^^ (pbit a b))))) rfl ?_
    exact xE.vret 1 rfl rfl
