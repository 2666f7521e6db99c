/-! counting the bits of a long, byte by byte -/
def byD (f : Nat → Nat) : Nat → Nat → Nat
  | 0, _ => 0
  | k + 1, n => f (n % 256) + 256 * byD f k (n / 256)
def byM (c : Nat) : Nat → Nat
  | 0 => 0
  | k + 1 => c + 256 * byM c k
theorem and_256 (x y : Nat) : x &&& y = (x % 256 &&& y % 256) + 256 * (x / 256 &&& y / 256) := by
  have h1 : (x &&& y) % 256 = x % 256 &&& y % 256 := Nat.and_mod_two_pow (n := 8)
  have h2 : (x &&& y) / 256 = x / 256 &&& y / 256 := Nat.and_div_two_pow (n := 8)
  rw [← h1, ← h2]
  omega
theorem byD_id : ∀ (k x : Nat), x < 256 ^ k → byD (fun d => d) k x = x
  | 0, x, h => by
    have : x = 0 := by simpa using h
    rw [this]; rfl
  | k + 1, x, h => by
    unfold byD
    rw [byD_id k (x / 256) (by rw [Nat.pow_succ] at h; omega)]
    omega
theorem byD_add (f g : Nat → Nat) : ∀ k x, byD (fun d => f d + g d) k x = byD f k x + byD g k x
  | 0, _ => rfl
  | k + 1, x => by
    unfold byD
    rw [byD_add f g k]
    omega
theorem byD_ext {f g : Nat → Nat} (h : ∀ d, d < 256 → f d = g d) : ∀ k x, byD f k x = byD g k x
  | 0, _ => rfl
  | k + 1, x => by
    unfold byD
    rw [byD_ext h k, h _ (Nat.mod_lt _ (by decide))]
theorem byD_lt {f : Nat → Nat} (h : ∀ d, d < 256 → f d < 256) : ∀ k x, byD f k x < 256 ^ k
  | 0, _ => by simp [byD]
  | k + 1, x => by
    have h1 := byD_lt h k (x / 256)
    have h2 := h (x % 256) (Nat.mod_lt _ (by decide))
    unfold byD
    rw [Nat.pow_succ]
    omega
/-- what is masked, byte by byte -/
theorem byM_and (c : Nat) (hc : c < 256) (f : Nat → Nat) (hf : ∀ d, d < 256 → f d < 256) : ∀ k x, byD f k x &&& byM c k = byD (fun d => f d &&& c) k x
  | 0, _ => by simp [byD, byM]
  | k + 1, x => by
    unfold byD byM
    have h2 := hf (x % 256) (Nat.mod_lt _ (by decide))
    rw [and_256, show (f (x % 256) + 256 * byD f k (x / 256)) % 256 = f (x % 256) by omega, show (f (x % 256) + 256 * byD f k (x / 256)) / 256 = byD f k (x / 256) by omega, show (c + 256 * byM c k) % 256 = c by omega, show (c + 256 * byM c k) / 256 = byM c k by omega, byM_and c hc f hf k]
/-- a shift behind which the mask drops what comes from the next byte -/
theorem byM_shr (c s : Nat) (hc : c < 256) (hs : s = 1 ∨ s = 2) (h : ∀ d, d < 256 → ∀ b, b < 2 ^ s → (d / 2 ^ s + 2 ^ (8 - s) * b) &&& c = d / 2 ^ s &&& c) (f : Nat → Nat) (hf : ∀ d, d < 256 → f d < 256) : ∀ k x, (byD f k x / 2 ^ s) &&& byM c k = byD (fun d => f d / 2 ^ s &&& c) k x
  | 0, _ => by simp [byD, byM]
  | k + 1, x => by
    unfold byD byM
    have h2 := hf (x % 256) (Nat.mod_lt _ (by decide))
    have h3 := byM_shr c s hc hs h f hf k (x / 256)
    generalize byD f k (x / 256) = Y at *
    generalize byD (fun d => f d / 2 ^ s &&& c) k (x / 256) = Z at *
    generalize f (x % 256) = d at *
    rw [and_256, show (c + 256 * byM c k) % 256 = c by omega, show (c + 256 * byM c k) / 256 = byM c k by omega]
    rcases hs with e | e
    · subst e
      rw [show (d + 256 * Y) / 2 ^ 1 / 256 = Y / 2 ^ 1 by omega, h3, show (d + 256 * Y) / 2 ^ 1 % 256 = d / 2 ^ 1 + 2 ^ (8 - 1) * (Y % 2) by omega, h d h2 _ (by omega)]
    · subst e
      rw [show (d + 256 * Y) / 2 ^ 2 / 256 = Y / 2 ^ 2 by omega, h3, show (d + 256 * Y) / 2 ^ 2 % 256 = d / 2 ^ 2 + 2 ^ (8 - 2) * (Y % 4) by omega, h d h2 _ (by omega)]
def pc1 (d : Nat) : Nat := d - (d / 2 &&& 85)
def pc2 (d : Nat) : Nat := (pc1 d &&& 51) + (pc1 d / 4 &&& 51)
def pc3 (d : Nat) : Nat := (pc2 d + pc2 d / 16) % 16
theorem pc1_ok : ∀ d, d < 256 → pc1 d < 256 ∧ pc1 d + (d / 2 &&& 85) = d := by decide +kernel
theorem pc2_ok : ∀ d, d < 256 → pc2 d % 16 ≤ 4 ∧ pc2 d ≤ 68 := by decide +kernel
theorem pc3_ok : ∀ d, d < 256 → pc3 d = cnt (fun v => d.testBit v) 8 := by decide +kernel
theorem pc3_le : ∀ d, d < 256 → pc3 d ≤ 8 := by decide +kernel
theorem byM_nib : ∀ k x, (byD pc2 k x + byD pc2 k x / 16) &&& byM 15 k = byD pc3 k x
  | 0, _ => by simp [byD, byM]
  | k + 1, x => by
    unfold byD byM
    have h2 := pc2_ok (x % 256) (Nat.mod_lt _ (by decide))
    have h3 := byM_nib k (x / 256)
    have h4 : byD pc2 k (x / 256) % 16 ≤ 4 := by
      cases k with
      | zero => exact Nat.zero_le _
      | succ k =>
        have := (pc2_ok (x / 256 % 256) (Nat.mod_lt _ (by decide))).1
        unfold byD
        omega
    rw [show pc3 (x % 256) = (pc2 (x % 256) + pc2 (x % 256) / 16) % 16 from rfl, ← h3]
    generalize byD pc2 k (x / 256) = Y at *
    generalize pc2 (x % 256) = d at *
    have h5 : ∀ z, z &&& 15 = z % 16 := fun z => Nat.and_two_pow_sub_one_eq_mod z 4
    rw [and_256, show (15 + 256 * byM 15 k) % 256 = 15 by omega, show (15 + 256 * byM 15 k) / 256 = byM 15 k by omega, h5, show (d + 256 * Y + (d + 256 * Y) / 16) / 256 = Y + Y / 16 by omega]
    congr 1
    omega
theorem byD_six (f : Nat → Nat) (x : Nat) : byD f 8 x = f (x % 256) + 256 * f (x / 256 % 256) + 65536 * f (x / 65536 % 256) + 16777216 * f (x / 16777216 % 256) + 4294967296 * f (x / 4294967296 % 256) + 1099511627776 * f (x / 1099511627776 % 256) + 281474976710656 * f (x / 281474976710656 % 256) + 72057594037927936 * f (x / 72057594037927936 % 256) := by
  simp only [byD, Nat.div_div_eq_div_mul]
  simp only [Nat.reduceMul]
  omega
theorem bit_byte (x j v : Nat) (hv : v < 8) : (x / 2 ^ (8 * j) % 256).testBit v = x.testBit (8 * j + v) := by
  rw [show (256 : Nat) = 2 ^ 8 from rfl, Nat.testBit_mod_two_pow, decide_eq_true hv, Bool.true_and, Nat.testBit_div_two_pow, Nat.add_comm]
/-- the run of Long.bitCount, over Nat -/
theorem pop_nat (x : Nat) (hx : x < 2 ^ 45) : ((byD pc3 8 x + byD pc3 8 x / 256) + (byD pc3 8 x + byD pc3 8 x / 256) / 65536 + ((byD pc3 8 x + byD pc3 8 x / 256) + (byD pc3 8 x + byD pc3 8 x / 256) / 65536) / 4294967296) % 128 = cnt (fun v => x.testBit v) 45 ∧ byD pc3 8 x < 2 ^ 48 := by
  have hlt : ∀ i, x / i % 256 < 256 := fun i => Nat.mod_lt _ (by decide)
  have c : ∀ j, pc3 (x / 2 ^ (8 * j) % 256) = cnt (fun v => x.testBit (8 * j + v)) 8 := fun j => by
    rw [pc3_ok _ (hlt _)]
    exact cnt_ext fun v hv => bit_byte x j v hv
  have hs : cnt (fun v => x.testBit v) 48 = cnt (fun v => x.testBit v) 45 := by
    have h : cnt (fun v => x.testBit v) 48 = cnt (fun v => x.testBit v) 45 + _ := cnt_plus (fun v => x.testBit v) 45 3
    have : cnt (fun w => x.testBit (45 + w)) 3 = 0 := by
      rw [show cnt (fun w => x.testBit (45 + w)) 3 = cnt (fun _ => false) 3 from cnt_ext fun w _ => Nat.testBit_lt_two_pow (Nat.lt_of_lt_of_le hx (Nat.pow_le_pow_right (by decide) (by omega)))]
      rfl
    omega
  have h0 := c 0
  have h1 := c 1
  have h2 := c 2
  have h3 := c 3
  have h4 := c 4
  have h5 := c 5
  simp only [Nat.mul_zero, Nat.pow_zero, Nat.div_one, Nat.zero_add, Nat.mul_one, Nat.reduceMul, Nat.reducePow] at h0 h1 h2 h3 h4 h5
  have p0 := cnt_plus (fun v => x.testBit v) 8 8
  have p1 := cnt_plus (fun v => x.testBit v) 16 8
  have p2 := cnt_plus (fun v => x.testBit v) 24 8
  have p3 := cnt_plus (fun v => x.testBit v) 32 8
  have p4 := cnt_plus (fun v => x.testBit v) 40 8
  simp only [Nat.reduceAdd] at p0 p1 p2 p3 p4
  have l0 := pc3_le (x % 256) (Nat.mod_lt _ (by decide))
  have l1 := pc3_le _ (hlt 256)
  have l2 := pc3_le _ (hlt 65536)
  have l3 := pc3_le _ (hlt 16777216)
  have l4 := pc3_le _ (hlt 4294967296)
  have l5 := pc3_le _ (hlt 1099511627776)
  have z6 : x / 281474976710656 = 0 := Nat.div_eq_of_lt (by omega)
  have z7 : x / 72057594037927936 = 0 := Nat.div_eq_of_lt (by omega)
  have zz : pc3 0 = 0 := by decide +kernel
  rw [byD_six, z6, z7, Nat.zero_mod, zz]
  rw [← hs]
  generalize pc3 (x % 256) = a0 at *
  generalize pc3 (x / 256 % 256) = a1 at *
  generalize pc3 (x / 65536 % 256) = a2 at *
  generalize pc3 (x / 16777216 % 256) = a3 at *
  generalize pc3 (x / 4294967296 % 256) = a4 at *
  generalize pc3 (x / 1099511627776 % 256) = a5 at *
  generalize cnt (fun v => x.testBit v) 48 = t at *
  generalize cnt (fun v => x.testBit v) 8 = t0 at *
  generalize cnt (fun v => x.testBit v) 16 = t1 at *
  generalize cnt (fun v => x.testBit v) 24 = t2 at *
  generalize cnt (fun v => x.testBit v) 32 = t3 at *
  generalize cnt (fun v => x.testBit v) 40 = t4 at *
  generalize cnt (fun w => x.testBit (8 + w)) 8 = u1 at *
  generalize cnt (fun w => x.testBit (16 + w)) 8 = u2 at *
  generalize cnt (fun w => x.testBit (24 + w)) 8 = u3 at *
  generalize cnt (fun w => x.testBit (32 + w)) 8 = u4 at *
  generalize cnt (fun w => x.testBit (40 + w)) 8 = u5 at *
  have ht : t = a0 + a1 + a2 + a3 + a4 + a5 := by omega
  clear p0 p1 p2 p3 p4 h0 h1 h2 h3 h4 h5 hs z6 z7 hlt hx c
  refine ⟨?_, by omega⟩
  subst ht
  have e1 : (a0 + 256 * a1 + 65536 * a2 + 16777216 * a3 + 4294967296 * a4 + 1099511627776 * a5 + 281474976710656 * 0 + 72057594037927936 * 0) / 256 = a1 + 256 * a2 + 65536 * a3 + 16777216 * a4 + 4294967296 * a5 := by omega
  rw [e1]
  have e2 : (a0 + 256 * a1 + 65536 * a2 + 16777216 * a3 + 4294967296 * a4 + 1099511627776 * a5 + 281474976710656 * 0 + 72057594037927936 * 0 + (a1 + 256 * a2 + 65536 * a3 + 16777216 * a4 + 4294967296 * a5)) / 65536 = (a2 + a3) + 256 * (a3 + a4) + 65536 * (a4 + a5) + 16777216 * a5 := by omega
  rw [e2]
  have e3 : (a0 + 256 * a1 + 65536 * a2 + 16777216 * a3 + 4294967296 * a4 + 1099511627776 * a5 + 281474976710656 * 0 + 72057594037927936 * 0 + (a1 + 256 * a2 + 65536 * a3 + 16777216 * a4 + 4294967296 * a5) + ((a2 + a3) + 256 * (a3 + a4) + 65536 * (a4 + a5) + 16777216 * a5)) / 4294967296 = (a4 + a5) + 256 * a5 := by omega
  rw [e3]
  omega
