/-! Long.bitCount over sets of pairs; the number of edges -/
theorem ec_bits (e : Int64) : ec (gr e) = cnt (fun v => tJ e v) 45 := by
  have h1 : ec (gr e) = ((((((((((0 + 0) + (0 + (bif tJ e 0 then 1 else 0))) + ((0 + (bif tJ e 1 then 1 else 0)) + (bif tJ e 9 then 1 else 0))) + (((0 + (bif tJ e 2 then 1 else 0)) + (bif tJ e 10 then 1 else 0)) + (bif tJ e 17 then 1 else 0))) + ((((0 + (bif tJ e 3 then 1 else 0)) + (bif tJ e 11 then 1 else 0)) + (bif tJ e 18 then 1 else 0)) + (bif tJ e 24 then 1 else 0))) + (((((0 + (bif tJ e 4 then 1 else 0)) + (bif tJ e 12 then 1 else 0)) + (bif tJ e 19 then 1 else 0)) + (bif tJ e 25 then 1 else 0)) + (bif tJ e 30 then 1 else 0))) + ((((((0 + (bif tJ e 5 then 1 else 0)) + (bif tJ e 13 then 1 else 0)) + (bif tJ e 20 then 1 else 0)) + (bif tJ e 26 then 1 else 0)) + (bif tJ e 31 then 1 else 0)) + (bif tJ e 35 then 1 else 0))) + (((((((0 + (bif tJ e 6 then 1 else 0)) + (bif tJ e 14 then 1 else 0)) + (bif tJ e 21 then 1 else 0)) + (bif tJ e 27 then 1 else 0)) + (bif tJ e 32 then 1 else 0)) + (bif tJ e 36 then 1 else 0)) + (bif tJ e 39 then 1 else 0))) + ((((((((0 + (bif tJ e 7 then 1 else 0)) + (bif tJ e 15 then 1 else 0)) + (bif tJ e 22 then 1 else 0)) + (bif tJ e 28 then 1 else 0)) + (bif tJ e 33 then 1 else 0)) + (bif tJ e 37 then 1 else 0)) + (bif tJ e 40 then 1 else 0)) + (bif tJ e 42 then 1 else 0))) + (((((((((0 + (bif tJ e 8 then 1 else 0)) + (bif tJ e 16 then 1 else 0)) + (bif tJ e 23 then 1 else 0)) + (bif tJ e 29 then 1 else 0)) + (bif tJ e 34 then 1 else 0)) + (bif tJ e 38 then 1 else 0)) + (bif tJ e 41 then 1 else 0)) + (bif tJ e 43 then 1 else 0)) + (bif tJ e 44 then 1 else 0))) := rfl
  have h2 : cnt (fun v => tJ e v) 45 = (((((((((((((((((((((((((((((((((((((((((((((0 + (bif tJ e 0 then 1 else 0)) + (bif tJ e 1 then 1 else 0)) + (bif tJ e 2 then 1 else 0)) + (bif tJ e 3 then 1 else 0)) + (bif tJ e 4 then 1 else 0)) + (bif tJ e 5 then 1 else 0)) + (bif tJ e 6 then 1 else 0)) + (bif tJ e 7 then 1 else 0)) + (bif tJ e 8 then 1 else 0)) + (bif tJ e 9 then 1 else 0)) + (bif tJ e 10 then 1 else 0)) + (bif tJ e 11 then 1 else 0)) + (bif tJ e 12 then 1 else 0)) + (bif tJ e 13 then 1 else 0)) + (bif tJ e 14 then 1 else 0)) + (bif tJ e 15 then 1 else 0)) + (bif tJ e 16 then 1 else 0)) + (bif tJ e 17 then 1 else 0)) + (bif tJ e 18 then 1 else 0)) + (bif tJ e 19 then 1 else 0)) + (bif tJ e 20 then 1 else 0)) + (bif tJ e 21 then 1 else 0)) + (bif tJ e 22 then 1 else 0)) + (bif tJ e 23 then 1 else 0)) + (bif tJ e 24 then 1 else 0)) + (bif tJ e 25 then 1 else 0)) + (bif tJ e 26 then 1 else 0)) + (bif tJ e 27 then 1 else 0)) + (bif tJ e 28 then 1 else 0)) + (bif tJ e 29 then 1 else 0)) + (bif tJ e 30 then 1 else 0)) + (bif tJ e 31 then 1 else 0)) + (bif tJ e 32 then 1 else 0)) + (bif tJ e 33 then 1 else 0)) + (bif tJ e 34 then 1 else 0)) + (bif tJ e 35 then 1 else 0)) + (bif tJ e 36 then 1 else 0)) + (bif tJ e 37 then 1 else 0)) + (bif tJ e 38 then 1 else 0)) + (bif tJ e 39 then 1 else 0)) + (bif tJ e 40 then 1 else 0)) + (bif tJ e 41 then 1 else 0)) + (bif tJ e 42 then 1 else 0)) + (bif tJ e 43 then 1 else 0)) + (bif tJ e 44 then 1 else 0)) := rfl
  rw [h1, h2]
  clear h1 h2
  generalize (bif tJ e 0 then 1 else 0 : Nat) = t0 at *
  generalize (bif tJ e 1 then 1 else 0 : Nat) = t1 at *
  generalize (bif tJ e 2 then 1 else 0 : Nat) = t2 at *
  generalize (bif tJ e 3 then 1 else 0 : Nat) = t3 at *
  generalize (bif tJ e 4 then 1 else 0 : Nat) = t4 at *
  generalize (bif tJ e 5 then 1 else 0 : Nat) = t5 at *
  generalize (bif tJ e 6 then 1 else 0 : Nat) = t6 at *
  generalize (bif tJ e 7 then 1 else 0 : Nat) = t7 at *
  generalize (bif tJ e 8 then 1 else 0 : Nat) = t8 at *
  generalize (bif tJ e 9 then 1 else 0 : Nat) = t9 at *
  generalize (bif tJ e 10 then 1 else 0 : Nat) = t10 at *
  generalize (bif tJ e 11 then 1 else 0 : Nat) = t11 at *
  generalize (bif tJ e 12 then 1 else 0 : Nat) = t12 at *
  generalize (bif tJ e 13 then 1 else 0 : Nat) = t13 at *
  generalize (bif tJ e 14 then 1 else 0 : Nat) = t14 at *
  generalize (bif tJ e 15 then 1 else 0 : Nat) = t15 at *
  generalize (bif tJ e 16 then 1 else 0 : Nat) = t16 at *
  generalize (bif tJ e 17 then 1 else 0 : Nat) = t17 at *
  generalize (bif tJ e 18 then 1 else 0 : Nat) = t18 at *
  generalize (bif tJ e 19 then 1 else 0 : Nat) = t19 at *
  generalize (bif tJ e 20 then 1 else 0 : Nat) = t20 at *
  generalize (bif tJ e 21 then 1 else 0 : Nat) = t21 at *
  generalize (bif tJ e 22 then 1 else 0 : Nat) = t22 at *
  generalize (bif tJ e 23 then 1 else 0 : Nat) = t23 at *
  generalize (bif tJ e 24 then 1 else 0 : Nat) = t24 at *
  generalize (bif tJ e 25 then 1 else 0 : Nat) = t25 at *
  generalize (bif tJ e 26 then 1 else 0 : Nat) = t26 at *
  generalize (bif tJ e 27 then 1 else 0 : Nat) = t27 at *
  generalize (bif tJ e 28 then 1 else 0 : Nat) = t28 at *
  generalize (bif tJ e 29 then 1 else 0 : Nat) = t29 at *
  generalize (bif tJ e 30 then 1 else 0 : Nat) = t30 at *
  generalize (bif tJ e 31 then 1 else 0 : Nat) = t31 at *
  generalize (bif tJ e 32 then 1 else 0 : Nat) = t32 at *
  generalize (bif tJ e 33 then 1 else 0 : Nat) = t33 at *
  generalize (bif tJ e 34 then 1 else 0 : Nat) = t34 at *
  generalize (bif tJ e 35 then 1 else 0 : Nat) = t35 at *
  generalize (bif tJ e 36 then 1 else 0 : Nat) = t36 at *
  generalize (bif tJ e 37 then 1 else 0 : Nat) = t37 at *
  generalize (bif tJ e 38 then 1 else 0 : Nat) = t38 at *
  generalize (bif tJ e 39 then 1 else 0 : Nat) = t39 at *
  generalize (bif tJ e 40 then 1 else 0 : Nat) = t40 at *
  generalize (bif tJ e 41 then 1 else 0 : Nat) = t41 at *
  generalize (bif tJ e 42 then 1 else 0 : Nat) = t42 at *
  generalize (bif tJ e 43 then 1 else 0 : Nat) = t43 at *
  generalize (bif tJ e 44 then 1 else 0 : Nat) = t44 at *
  omega
theorem uj_shr (x : Int64) (c : UInt64) : (x.toUInt64 >>> c).toInt64.toBitVec.toNat = x.toBitVec.toNat / 2 ^ (c.toNat % 64) := by
  show (x.toUInt64 >>> c).toNat = _
  rw [UInt64.toNat_shiftRight, Nat.shiftRight_eq_div_pow]
  rfl
theorem uj_sub {x y : Int64} (h : y.toBitVec.toNat ≤ x.toBitVec.toNat) : (x - y).toBitVec.toNat = x.toBitVec.toNat - y.toBitVec.toNat := by
  rw [Int64.toBitVec_sub, BitVec.toNat_sub]
  have := x.toBitVec.isLt
  omega
theorem uj_add {x y : Int64} (h : x.toBitVec.toNat + y.toBitVec.toNat < 2 ^ 64) : (x + y).toBitVec.toNat = x.toBitVec.toNat + y.toBitVec.toNat := by
  rw [Int64.toBitVec_add, BitVec.toNat_add, Nat.mod_eq_of_lt h]
theorem uj_and (x y : Int64) : (x &&& y).toBitVec.toNat = x.toBitVec.toNat &&& y.toBitVec.toNat := by
  rw [Int64.toBitVec_and, BitVec.toNat_and]
theorem uj_127 (x : Int64) : x.toInt32 &&& 127 = nI (x.toBitVec.toNat % 128) := by
  apply tb_ext
  intro v hv
  have h7 : tb 127 v = decide (v < 7) := by
    have : ∀ v, v < 32 → tb 127 v = decide (v < 7) := by decide +kernel
    exact this v hv
  rw [tb_and, h7]
  have e1 : tb x.toInt32 v = x.toBitVec.toNat.testBit v := by
    unfold tb
    rw [Int64.toBitVec_toInt32, BitVec.getLsbD_signExtend]
    simp [hv, show v < 64 by omega, BitVec.getLsbD]
  have e2 : tb (nI (x.toBitVec.toNat % 128)) v = (x.toBitVec.toNat % 128).testBit v := by
    unfold tb nI
    rw [Int32.toBitVec_ofNat', BitVec.getLsbD_ofNat, decide_eq_true hv, Bool.true_and]
  rw [e1, e2, show (128 : Nat) = 2 ^ 7 from rfl, Nat.testBit_mod_two_pow, Bool.and_comm]
def js (x : Int64) (k : Int32) : Int64 := (x.toUInt64 >>> ((Int32.toInt64 k).toUInt64 &&& Int64.toUInt64 63)).toInt64
def jc1 (x : Int64) : Int64 := x - (js x 1 &&& 6148914691236517205)
def jc2 (x : Int64) : Int64 := (x &&& 3689348814741910323) + (js x 2 &&& 3689348814741910323)
def jc3 (x : Int64) : Int64 := (x + js x 4) &&& 1085102592571150095
def jc4 (x : Int64) : Int64 := x + js x 8
def jc5 (x : Int64) : Int64 := x + js x 16
def jc6 (x : Int64) : Int64 := x + js x 32
theorem jc_all {e : Int64} (hx : e.toBitVec.toNat < 2 ^ 45) : (jc6 (jc5 (jc4 (jc3 (jc2 (jc1 e)))))).toInt32 &&& 127 = nI (cnt (fun v => e.toBitVec.toNat.testBit v) 45) := by
  obtain ⟨p1, p2⟩ := pop_nat _ hx
  rw [uj_127, ← p1]
  have s1 : ∀ x, (js x 1).toBitVec.toNat = x.toBitVec.toNat / 2 ^ 1 := fun x => uj_shr x _
  have s2 : ∀ x, (js x 2).toBitVec.toNat = x.toBitVec.toNat / 2 ^ 2 := fun x => uj_shr x _
  have s4 : ∀ x, (js x 4).toBitVec.toNat = x.toBitVec.toNat / 16 := fun x => uj_shr x _
  have s8 : ∀ x, (js x 8).toBitVec.toNat = x.toBitVec.toNat / 256 := fun x => uj_shr x _
  have s16 : ∀ x, (js x 16).toBitVec.toNat = x.toBitVec.toNat / 65536 := fun x => uj_shr x _
  have s32 : ∀ x, (js x 32).toBitVec.toNat = x.toBitVec.toNat / 4294967296 := fun x => uj_shr x _
  have m1 : (6148914691236517205 : Int64).toBitVec.toNat = byM 85 8 := by decide +kernel
  have m2 : (3689348814741910323 : Int64).toBitVec.toNat = byM 51 8 := by decide +kernel
  have m3 : (1085102592571150095 : Int64).toBitVec.toNat = byM 15 8 := by decide +kernel
  generalize hn : e.toBitVec.toNat = n at *
  have hid : byD (fun d => d) 8 n = n := byD_id 8 n (Nat.lt_of_lt_of_le hx (by decide))
  have f1 : (jc1 e).toBitVec.toNat = byD pc1 8 n := by
    have h1 : (js e 1 &&& 6148914691236517205).toBitVec.toNat = byD (fun d => d / 2 &&& 85) 8 n := by
      rw [uj_and, s1, m1, hn]
      have := byM_shr 85 1 (by decide) (Or.inl rfl) (by decide +kernel) (fun d => d) (fun d hd => hd) 8 n
      rw [hid] at this
      exact this
    have h2 := byD_add pc1 (fun d => d / 2 &&& 85) 8 n
    rw [byD_ext (g := fun d => d) (fun d hd => (pc1_ok d hd).2), hid] at h2
    unfold jc1
    rw [uj_sub (by rw [h1, hn]; omega), h1, hn]
    omega
  have f2 : (jc2 (jc1 e)).toBitVec.toNat = byD pc2 8 n := by
    have h1 : (jc1 e &&& 3689348814741910323).toBitVec.toNat = byD (fun d => pc1 d &&& 51) 8 n := by
      rw [uj_and, m2, f1]
      exact byM_and 51 (by decide) pc1 (fun d hd => (pc1_ok d hd).1) 8 n
    have h2 : (js (jc1 e) 2 &&& 3689348814741910323).toBitVec.toNat = byD (fun d => pc1 d / 4 &&& 51) 8 n := by
      rw [uj_and, s2, m2, f1]
      exact byM_shr 51 2 (by decide) (Or.inr rfl) (by decide +kernel) pc1 (fun d hd => (pc1_ok d hd).1) 8 n
    have h3 : byD pc2 8 n = byD (fun d => pc1 d &&& 51) 8 n + byD (fun d => pc1 d / 4 &&& 51) 8 n := byD_add (fun d => pc1 d &&& 51) (fun d => pc1 d / 4 &&& 51) 8 n
    have h4 := byD_lt (f := pc2) (fun d hd => by have := (pc2_ok d hd).2; omega) 8 n
    unfold jc2
    rw [uj_add (by rw [h1, h2, ← h3]; exact Nat.lt_of_lt_of_le h4 (by decide)), h1, h2, h3]
  have f3 : (jc3 (jc2 (jc1 e))).toBitVec.toNat = byD pc3 8 n := by
    have h4 : byD pc2 8 n < 256 ^ 8 / 2 := by
      have : ∀ k x, 2 * byD pc2 k x < 256 ^ k ∨ k = 0 := by
        intro k x
        cases k with
        | zero => exact Or.inr rfl
        | succ k =>
          refine Or.inl ?_
          have h5 := byD_lt (f := pc2) (fun d hd => by have := (pc2_ok d hd).2; omega) k (x / 256)
          have h6 : ∀ k x, 3 * byD pc2 k x + 1 ≤ 256 ^ k := by
            intro k
            induction k with
            | zero => intro x; simp [byD]
            | succ k ih =>
              intro x
              have h7 := ih (x / 256)
              have h8 := (pc2_ok (x % 256) (Nat.mod_lt _ (by decide))).2
              unfold byD
              rw [Nat.pow_succ]
              omega
          have h7 := h6 (k + 1) x
          omega
      rcases this 8 n with h | h
      · omega
      · cases h
    unfold jc3
    rw [uj_and, m3, uj_add (by rw [s4, f2]; omega), s4, f2]
    exact byM_nib 8 n
  have f4 : (jc4 (jc3 (jc2 (jc1 e)))).toBitVec.toNat = byD pc3 8 n + byD pc3 8 n / 256 := by
    unfold jc4
    rw [uj_add (by rw [s8, f3]; omega), s8, f3]
  have f5 : (jc5 (jc4 (jc3 (jc2 (jc1 e))))).toBitVec.toNat = (byD pc3 8 n + byD pc3 8 n / 256) + (byD pc3 8 n + byD pc3 8 n / 256) / 65536 := by
    unfold jc5
    rw [uj_add (by rw [s16, f4]; omega), s16, f4]
  unfold jc6
  rw [uj_add (by rw [s32, f5]; omega), s32, f5]
theorem jok_lt {e : Int64} (h : jok e) : e.toBitVec.toNat < 2 ^ 45 := by
  refine Nat.lt_pow_two_of_testBit (n := 45) _ (fun v hv => ?_)
  by_cases h6 : v < 64
  · exact h v hv h6
  · exact BitVec.getLsbD_of_ge _ _ (by omega)
theorem c_jones {w : xW} {e : Int64} (hj : jok e) : xC MJ13_bitCount_95d88 [.long e] w (some (.int (nI (ec (gr e))))) w := by
  have e1 := jc_all (jok_lt hj)
  rw [ec_bits, show cnt (fun v => tJ e v) 45 = cnt (fun v => e.toBitVec.toNat.testBit v) 45 from rfl, ← e1]
  unfold xC
  show xE MJ13_bitCount_95d88 (0, [some (.long e), none], [], w) _ _
  refine xE.go 8 (F1 := (10, [some (.long (e - (((e.toUInt64 >>> ((Int32.toInt64 1).toUInt64 &&& Int64.toUInt64 63)).toInt64) &&& (6148914691236517205)))), none], [], w)) rfl ?_
  show xE MJ13_bitCount_95d88 (10, [some (.long (jc1 e)), none], [], w) _ _
  refine xE.go 10 (F1 := (24, [some (.long (((jc1 e) &&& (3689348814741910323)) + ((((jc1 e).toUInt64 >>> ((Int32.toInt64 2).toUInt64 &&& Int64.toUInt64 63)).toInt64) &&& (3689348814741910323)))), none], [], w)) rfl ?_
  show xE MJ13_bitCount_95d88 (24, [some (.long (jc2 (jc1 e))), none], [], w) _ _
  refine xE.go 8 (F1 := (34, [some (.long (((jc2 (jc1 e)) + (((jc2 (jc1 e)).toUInt64 >>> ((Int32.toInt64 4).toUInt64 &&& Int64.toUInt64 63)).toInt64)) &&& (1085102592571150095))), none], [], w)) rfl ?_
  show xE MJ13_bitCount_95d88 (34, [some (.long (jc3 (jc2 (jc1 e)))), none], [], w) _ _
  refine xE.go 6 (F1 := (41, [some (.long ((jc3 (jc2 (jc1 e))) + (((jc3 (jc2 (jc1 e))).toUInt64 >>> ((Int32.toInt64 8).toUInt64 &&& Int64.toUInt64 63)).toInt64))), none], [], w)) rfl ?_
  show xE MJ13_bitCount_95d88 (41, [some (.long (jc4 (jc3 (jc2 (jc1 e))))), none], [], w) _ _
  refine xE.go 6 (F1 := (48, [some (.long ((jc4 (jc3 (jc2 (jc1 e)))) + (((jc4 (jc3 (jc2 (jc1 e)))).toUInt64 >>> ((Int32.toInt64 16).toUInt64 &&& Int64.toUInt64 63)).toInt64))), none], [], w)) rfl ?_
  show xE MJ13_bitCount_95d88 (48, [some (.long (jc5 (jc4 (jc3 (jc2 (jc1 e)))))), none], [], w) _ _
  refine xE.go 6 (F1 := (55, [some (.long ((jc5 (jc4 (jc3 (jc2 (jc1 e))))) + (((jc5 (jc4 (jc3 (jc2 (jc1 e))))).toUInt64 >>> ((Int32.toInt64 32).toUInt64 &&& Int64.toUInt64 63)).toInt64))), none], [], w)) rfl ?_
  show xE MJ13_bitCount_95d88 (55, [some (.long (jc6 (jc5 (jc4 (jc3 (jc2 (jc1 e))))))), none], [], w) _ _
  refine xE.go 4 (F1 := (60, [some (.long (jc6 (jc5 (jc4 (jc3 (jc2 (jc1 e))))))), none], [.int (((jc6 (jc5 (jc4 (jc3 (jc2 (jc1 e)))))).toInt32) &&& 127)], w)) rfl ?_
  exact xE.iret .int 1 rfl rfl (rfl)
theorem c_size1 {w : xW} (hj : jok (w.2 1 0)) : xC MX5_size [.ref 1] w (some (.int (nI (ec (gr (w.2 1 0)))))) w := by
  unfold xC
  show xE MX5_size (0, [some (.ref 1)], [], w) _ _
  refine xE.go 2 (F1 := (4, [some (.ref 1)], [.long (w.2 1 0)], w)) rfl ?_
  refine xE.call rfl (c_jones hj) ?_
  show xE MX5_size (7, [some (.ref 1)], [.int (nI (ec (gr (w.2 1 0))))], w) _ _
  exact xE.iret .int 1 rfl rfl (rfl)