/-! Integer.bitCount over masks -/
theorem cnt_bits {S : Nat → Bool} : cnt (fun v => (mkB 10 S).toNat.testBit v) 10 = cnt S 10 := cnt_ext fun v hv => by
  rw [← BitVec.getLsbD, mkB_get S 10 v (by omega), decide_eq_true hv, Bool.true_and]
theorem mkB_lt (S : Nat → Bool) : (mkB 10 S).toNat < 1024 := by
  refine Nat.lt_pow_two_of_testBit (n := 10) _ (fun v hv => ?_)
  by_cases h : v < 32
  · rw [← BitVec.getLsbD, mkB_get S 10 v h, decide_eq_false (by omega), Bool.false_and]
  · exact BitVec.getLsbD_of_ge _ _ (by omega)
theorem mk_nI (S : Nat → Bool) : mk S = nI (mkB 10 S).toNat := by
  unfold mk nI
  apply Int32.toBitVec_inj.mp
  rw [Int32.toBitVec_ofBitVec, Int32.toBitVec_ofNat', BitVec.ofNat_toNat]
  simp
def bc1 (x : Int32) : Int32 := x - ((x.toUInt32 >>> (Int32.toUInt32 1 &&& Int32.toUInt32 31)).toInt32 &&& 1431655765)
def bc2 (x : Int32) : Int32 := (x &&& 858993459) + ((x.toUInt32 >>> (Int32.toUInt32 2 &&& Int32.toUInt32 31)).toInt32 &&& 858993459)
def bc3 (x : Int32) : Int32 := (x + (x.toUInt32 >>> (Int32.toUInt32 4 &&& Int32.toUInt32 31)).toInt32) &&& 252645135
def bc4 (x : Int32) : Int32 := x + (x.toUInt32 >>> (Int32.toUInt32 8 &&& Int32.toUInt32 31)).toInt32
def bc5 (x : Int32) : Int32 := x + (x.toUInt32 >>> (Int32.toUInt32 16 &&& Int32.toUInt32 31)).toInt32
theorem bc_all {m : Nat} (hm : m < 1024) : bc5 (bc4 (bc3 (bc2 (bc1 (nI m))))) &&& 63 = nI (cnt (fun v => m.testBit v) 10) := by
  have : ∀ m, m < 1024 → bc5 (bc4 (bc3 (bc2 (bc1 (nI m))))) &&& 63 = nI (cnt (fun v => m.testBit v) 10) := by decide +kernel
  exact this m hm
theorem c_ones {w : xW} {S : Nat → Bool} : xC MJ6_bitCount_0f7a4 [.int (mk S)] w (some (.int (nI (cnt S 10)))) w := by
  rw [mk_nI]
  have e := bc_all (mkB_lt S)
  rw [cnt_bits] at e
  rw [← e]
  obtain ⟨x, hx⟩ : ∃ x, x = nI (mkB 10 S).toNat := ⟨_, rfl⟩
  rw [← hx]
  unfold xC
  show xE MJ6_bitCount_0f7a4 (0, [some (.int x)], [], w) _ _
  refine xE.go 8 (F1 := (10, [some (.int (x - (((x.toUInt32 >>> (Int32.toUInt32 1 &&& Int32.toUInt32 31)).toInt32) &&& (1431655765))))], [], w)) rfl ?_
  show xE MJ6_bitCount_0f7a4 (10, [some (.int (bc1 x))], [], w) _ _
  refine xE.go 10 (F1 := (24, [some (.int (((bc1 x) &&& (858993459)) + ((((bc1 x).toUInt32 >>> (Int32.toUInt32 2 &&& Int32.toUInt32 31)).toInt32) &&& (858993459))))], [], w)) rfl ?_
  show xE MJ6_bitCount_0f7a4 (24, [some (.int (bc2 (bc1 x)))], [], w) _ _
  refine xE.go 8 (F1 := (34, [some (.int (((bc2 (bc1 x)) + (((bc2 (bc1 x)).toUInt32 >>> (Int32.toUInt32 4 &&& Int32.toUInt32 31)).toInt32)) &&& (252645135)))], [], w)) rfl ?_
  show xE MJ6_bitCount_0f7a4 (34, [some (.int (bc3 (bc2 (bc1 x))))], [], w) _ _
  refine xE.go 6 (F1 := (41, [some (.int ((bc3 (bc2 (bc1 x))) + (((bc3 (bc2 (bc1 x))).toUInt32 >>> (Int32.toUInt32 8 &&& Int32.toUInt32 31)).toInt32)))], [], w)) rfl ?_
  show xE MJ6_bitCount_0f7a4 (41, [some (.int (bc4 (bc3 (bc2 (bc1 x)))))], [], w) _ _
  refine xE.go 6 (F1 := (48, [some (.int ((bc4 (bc3 (bc2 (bc1 x)))) + (((bc4 (bc3 (bc2 (bc1 x)))).toUInt32 >>> (Int32.toUInt32 16 &&& Int32.toUInt32 31)).toInt32)))], [], w)) rfl ?_
  show xE MJ6_bitCount_0f7a4 (48, [some (.int (bc5 (bc4 (bc3 (bc2 (bc1 x))))))], [], w) _ _
  refine xE.go 3 (F1 := (52, [some (.int (bc5 (bc4 (bc3 (bc2 (bc1 x))))))], [.int ((bc5 (bc4 (bc3 (bc2 (bc1 x))))) &&& 63)], w)) rfl ?_
  exact xE.iret .int 1 rfl rfl (rfl)
