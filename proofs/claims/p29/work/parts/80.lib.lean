/-! the law's helpers -/
theorem xE.irem {M : xMI} {pc : Nat} {x y z : Int32} {L : xL} {st : List Value} {w : xW} {r : Option Value} {w1 : xW} (h : xfind (xm_t M) pc = some (.irem, 1)) (hy : y ≠ 0) (hz : x - x / y * y = z) (k : xE M (pc + 1, L, .int z :: st, w) r w1) : xE M (pc, L, .int y :: .int x :: st, w) r w1 := by
  refine xE.step ((xs1_of h).trans ?_) k
  simp only [xs1i, xb0]
  rw [decide_eq_false hy, hz]
  rfl
theorem xQ.irem {M : xMI} {pc : Nat} {x y z : Int32} {L : xL} {st : List Value} {w : xW} {Q : Option Value → xW → Prop} (h : xfind (xm_t M) pc = some (.irem, 1)) (hy : y ≠ 0) (hz : x - x / y * y = z) (k : xQ M (pc + 1, L, .int z :: st, w) Q) : xQ M (pc, L, .int y :: .int x :: st, w) Q := xQ.lift (fun _ _ => xE.irem h hy hz) k
theorem jI_rem {a d : Nat} (ha : a < 2 ^ 31) (h0 : 0 < d) (hd : d < 2 ^ 31) : nI a - nI a / nI d * nI d = nI (a % d) := by
  rw [pk_div ha h0 hd, jI_mul, jI_sub (Nat.div_mul_le_self a d)]
  congr 1
  have := Nat.div_add_mod a d
  rw [Nat.mul_comm] at this
  omega
theorem jI_ne0 {d : Nat} (h0 : 0 < d) (hd : d < 2 ^ 31) : nI d ≠ 0 := fun z => by
  have := jI_inj hd (by omega) (z.trans (show (0 : Int32) = nI 0 from rfl))
  omega
theorem jI_nat (x : Int32) : nI x.toBitVec.toNat = x := by
  unfold nI
  apply Int32.toBitVec_inj.mp
  rw [Int32.toBitVec_ofNat', BitVec.ofNat_toNat]
  simp
def lowN (x : Int32) (m : Nat) : Nat := (x &&& 2147483647).toBitVec.toNat % m
theorem lowN_lt {x : Int32} {m : Nat} (h : 0 < m) : lowN x m < m := Nat.mod_lt _ h
theorem and_lt31 (x : Int32) : (x &&& 2147483647).toBitVec.toNat < 2 ^ 31 := by
  rw [Int32.toBitVec_and, BitVec.toNat_and]
  have h : x.toBitVec.toNat &&& (2147483647 : Int32).toBitVec.toNat ≤ (2147483647 : Int32).toBitVec.toNat := Nat.and_le_right
  have e : (2147483647 : Int32).toBitVec.toNat = 2147483647 := by decide
  omega
theorem low_rem {x : Int32} {m : Nat} (h0 : 0 < m) (hm : m < 2 ^ 31) : (x &&& 2147483647) - (x &&& 2147483647) / nI m * nI m = nI (lowN x m) := by
  have := jI_rem (and_lt31 x) h0 hm
  rw [jI_nat] at this
  exact this
theorem c_low {w : xW} {x : Int32} {m : Nat} (h0 : 0 < m) (hm : m < 2 ^ 31) : xC ML_low [.int x, .int (nI m)] w (some (.int (nI (lowN x m)))) w := by
  unfold xC
  show xE ML_low (0, [some (.int x), some (.int (nI m))], [], w) _ _
  refine xE.go 4 (F1 := (5, [some (.int x), some (.int (nI m))], [.int (nI m), .int (x &&& (2147483647))], w)) rfl ?_
  refine xE.irem rfl (jI_ne0 h0 hm) (low_rem h0 hm) ?_
  show xE ML_low (6, [some (.int x), some (.int (nI m))], [.int (nI (lowN x m))], w) _ _
  exact xE.iret .int 1 rfl rfl (rfl)
/-- how many bits, by taking the least away -/
def pc10 (n : Nat) : Nat := cnt (fun v => n.testBit v) 10
theorem kern_all : ∀ n, n < 1024 → nI n &&& (nI n - 1) = nI (n &&& (n - 1)) ∧ (n ≠ 0 → pc10 (n &&& (n - 1)) + 1 = pc10 n) ∧ n &&& (n - 1) < 1024 := by decide +kernel
theorem pc10_le (n : Nat) : pc10 n ≤ 10 := cnt_le _ _
theorem pc10_0 {n : Nat} (hn : n < 1024) (h : pc10 n = 0) : n = 0 := by
  refine Classical.byContradiction fun z => ?_
  have := (kern_all n hn).2.1 z
  omega
theorem c_lones0 {w : xW} {n : Nat} (hn : n < 1024) : xC ML_ones [.int (nI n)] w (some (.int (nI (pc10 n)))) w := by
  unfold xC
  show xE ML_ones (0, [some (.int (nI n)), none, none], [], w) _ _
  refine xE.go 4 (F1 := (4, [some (.int (nI n)), some (.int 0), some (.int (nI n))], [], w)) rfl ?_
  have key : ∀ (k d m : Nat), m < 1024 → pc10 m = k → d + k = pc10 n → d ≤ 10 → xE ML_ones (4, [some (.int (nI n)), some (.int (nI d)), some (.int (nI m))], [], w) (some (.int (nI (pc10 n)))) w := by
    intro k
    induction k with
    | zero =>
      intro d m hm hk hd hd10
      have e0 := pc10_0 hm hk
      subst e0
      refine xE.go 2 (F1 := (bif decide ((nI 0) = 0) then 20 else 8, [some (.int (nI n)), some (.int (nI d)), some (.int (nI 0))], [], w)) rfl ?_
      refine xE.brT (rfl) ?_
      rw [show d = pc10 n by omega]
      show xE ML_ones (20, [some (.int (nI n)), some (.int (nI (pc10 n))), some (.int (nI 0))], [], w) _ _
      refine xE.go 1 (F1 := (21, [some (.int (nI n)), some (.int (nI (pc10 n))), some (.int (nI 0))], [.int (nI (pc10 n))], w)) rfl ?_
      exact xE.iret .int 1 rfl rfl (rfl)
    | succ k ih =>
      intro d m hm hk hd hd10
      have hne : m ≠ 0 := fun z => by rw [z] at hk; exact absurd hk (by rw [show pc10 0 = 0 by decide +kernel]; omega)
      obtain ⟨a1, a2, a3⟩ := kern_all m hm
      have a2 := a2 hne
      refine xE.go 2 (F1 := (bif decide ((nI m) = 0) then 20 else 8, [some (.int (nI n)), some (.int (nI d)), some (.int (nI m))], [], w)) rfl ?_
      refine xE.brF (decide_eq_false (jI_ne0 (by omega) (by omega))) ?_
      refine xE.go 8 (F1 := (4, [some (.int (nI n)), some (.int ((nI d) + 1)), some (.int ((nI m) &&& ((nI m) - 1)))], [], w)) rfl ?_
      rw [a1, ← nI_succ]
      exact ih (d + 1) (m &&& (m - 1)) a3 (by omega) (by omega) (by have := pc10_le n; omega)
  exact key (pc10 n) 0 n hn rfl (by omega) (by omega)
theorem c_lones {w : xW} {S : Nat → Bool} : xC ML_ones [.int (mk S)] w (some (.int (nI (cnt S 10)))) w := by
  rw [mk_nI]
  have := c_lones0 (w := w) (mkB_lt S)
  unfold pc10 at this
  rw [cnt_bits] at this
  exact this
def lb (n : Nat) : Nat := low (fun v => n.testBit v)
theorem low_all : ∀ n, n < 1024 → n ≠ 0 → (nI n &&& -(nI n)) - 1 = nI (2 ^ lb n - 1) ∧ pc10 (2 ^ lb n - 1) = lb n ∧ 2 ^ lb n - 1 < 1024 := by decide +kernel
theorem c_lowest {w : xW} {S : Nat → Bool} {v : Nat} (hv : v < 10) (h : S v = true) : xC ML_lowest [.int (mk S)] w (some (.int (nI (low S)))) w := by
  have hne : (mkB 10 S).toNat ≠ 0 := fun z => by
    have h1 : mk S = 0 := by rw [mk_nI, z]; rfl
    rw [mk_zero.mp h1 v hv] at h
    cases h
  obtain ⟨a1, a2, a3⟩ := low_all _ (mkB_lt S) hne
  have e : lb (mkB 10 S).toNat = low S := low_ext fun u hu => by
    rw [← BitVec.getLsbD, mkB_get S 10 u (by omega), decide_eq_true hu, Bool.true_and]
  rw [e] at a1 a2 a3
  rw [mk_nI]
  obtain ⟨x, hx⟩ : ∃ x, x = nI (mkB 10 S).toNat := ⟨_, rfl⟩
  rw [← hx] at a1 ⊢
  unfold xC
  show xE ML_lowest (0, [some (.int x)], [], w) _ _
  refine xE.go 6 (F1 := (6, [some (.int x)], [.int ((x &&& (-x)) - 1)], w)) rfl ?_
  rw [a1]
  refine xE.call rfl ((a2 ▸ c_lones0 a3)) ?_
  show xE ML_lowest (9, [some (.int x)], [.int (nI (low S))], w) _ _
  exact xE.iret .int 1 rfl rfl (rfl)
/-- cell 45 holds the graph -/
def gI (w : xW) (G : Nat → Nat → Bool) : Prop := ∀ v, v < 10 → w.1 45 v = mk (G v)
theorem kc_step {G : Nat → Nat → Bool} {v u z : Nat} (h : kc G v u = true) (hu : u < 10) (hz : z < 10) (hg : G u z = true) : kc G v z = true := con_step (A := fun _ => true) (show con G (fun _ => true) v u from h) hu hz hg rfl
theorem c_joined {w : xW} {G : Nat → Nat → Bool} {v : Nat} (hv : v < 10) (hG : gI w G) : xC ML_joined [.int (nI v), .ref 45] w (some (.int (mk (kc G v)))) w := by
  unfold xC
  show xE ML_joined (0, [some (.int (nI v)), some (.ref 45), none, none, none], [], w) _ _
  refine xE.go 3 (F1 := (3, [some (.int (nI v)), some (.ref 45), none, none, none], [.int (1 <<< ((nI v) &&& 31))], w)) rfl ?_
  rw [mk_bit hv]
  refine xE.go 3 (F1 := (6, [some (.int (nI v)), some (.ref 45), some (.int (mk (fun u => decide (u = v)))), some (.int 0), none], [], w)) rfl ?_
  refine xE.loop (S := Nat → Bool) (fun k s => (6, [some (.int (nI v)), some (.ref 45), some (.int (mk s)), some (.int (nI k)), none], [], w)) (fun t s => (∀ u, u < 10 → s u = true → kc G v u = true) ∧ ∀ u, u < 10 → rchn G (fun _ => true) t (fun z => decide (z = v) && true) u = true → s u = true) 10 (fun u => decide (u = v)) (rfl) (⟨fun u _ hu => by rw [of_decide_eq_true hu]; exact kc_self G v, fun u _ hu => by have hu : (decide (u = v) && true) = true := hu; simpa using hu⟩) ?_ ?_
  · intro k s hk hI K
    obtain ⟨hI1, hI2⟩ := hI
    refine xE.go 3 (F1 := (bif decide (10 ≤ (nI k)) then 55 else 12, [some (.int (nI v)), some (.ref 45), some (.int (mk s)), some (.int (nI k)), none], [], w)) rfl ?_
    refine xE.brF (decide_eq_false (nI_ge (b := 10) (by omega) (by omega))) ?_
    refine xE.go 2 (F1 := (15, [some (.int (nI v)), some (.ref 45), some (.int (mk s)), some (.int (nI k)), some (.int 0)], [], w)) rfl ?_
    refine xE.loop (S := Nat → Bool) (fun k2 s2 => (15, [some (.int (nI v)), some (.ref 45), some (.int (mk s2)), some (.int (nI k)), some (.int (nI k2))], [], w)) (fun t s2 => (∀ u, u < 10 → s u = true → s2 u = true) ∧ (∀ u, u < 10 → s2 u = true → kc G v u = true) ∧ ∀ u z, u < t → z < 10 → s u = true → G u z = true → s2 z = true) 10 s (rfl) (⟨fun u _ h => h, hI1, fun u z h => absurd h (by omega)⟩) ?_ ?_
    · intro k2 s2 hk2 hI2 K2
      obtain ⟨hJ1, hJ2, hJ3⟩ := hI2
      refine xE.go 3 (F1 := (bif decide (10 ≤ (nI k2)) then 49 else 22, [some (.int (nI v)), some (.ref 45), some (.int (mk s2)), some (.int (nI k)), some (.int (nI k2))], [], w)) rfl ?_
      refine xE.brF (decide_eq_false (nI_ge (b := 10) (by omega) (by omega))) ?_
      refine xE.go 8 (F1 := (bif !decide ((((mk s2) >>> ((nI k2) &&& 31)) &&& 1) = 1) then 40 else 33, [some (.int (nI v)), some (.ref 45), some (.int (mk s2)), some (.int (nI k)), some (.int (nI k2))], [.int (mk s2)], w)) rfl ?_
      rw [mk_get _ hk2]
      cases hs : s2 k2 with
      | true =>
        refine xE.brF (by decide) ?_
        refine xE.go 2 (F1 := (36, [some (.int (nI v)), some (.ref 45), some (.int (mk s2)), some (.int (nI k)), some (.int (nI k2))], [.int (nI k2), .ref 45, .int (mk s2)], w)) rfl ?_
        refine xE.iald rfl (k := k2) (rfl) (⟨by omega, by omega⟩) rfl ?_
        show xE ML_joined (37, [some (.int (nI v)), some (.ref 45), some (.int (mk s2)), some (.int (nI k)), some (.int (nI k2))], [.int (w.1 45 k2), .int (mk s2)], w) _ _
        rw [hG k2 hk2]
        refine xE.go 2 (F1 := (42, [some (.int (nI v)), some (.ref 45), some (.int (mk s2)), some (.int (nI k)), some (.int (nI k2))], [.int ((mk s2) ||| (mk (G k2)))], w)) rfl ?_
        rw [mk_or]
        refine xE.go 3 (F1 := (15, [some (.int (nI v)), some (.ref 45), some (.int (mk (fun u => s2 u || G k2 u))), some (.int (nI k)), some (.int ((nI k2) + 1))], [], w)) rfl ?_
        rw [← nI_succ]
        refine K2 (fun u => s2 u || G k2 u) ⟨fun u hu h => by rw [hJ1 u hu h]; rfl, fun u hu h => ?_, fun u z hu hz h1 h2 => ?_⟩
        · rcases Bool.or_eq_true_iff.mp h with h | h
          · exact hJ2 u hu h
          · exact kc_step (hJ2 k2 hk2 hs) hk2 hu h
        · by_cases e : u = k2
          · rw [e] at h2
            rw [h2]
            simp
          · rw [hJ3 u z (by omega) hz h1 h2]
            rfl
      | false =>
        refine xE.brT (by decide) ?_
        refine xE.go 2 (F1 := (42, [some (.int (nI v)), some (.ref 45), some (.int (mk s2)), some (.int (nI k)), some (.int (nI k2))], [.int ((mk s2) ||| 0)], w)) rfl ?_
        rw [show mk s2 ||| 0 = mk s2 from Int32.or_zero]
        refine xE.go 3 (F1 := (15, [some (.int (nI v)), some (.ref 45), some (.int (mk s2)), some (.int (nI k)), some (.int ((nI k2) + 1))], [], w)) rfl ?_
        rw [← nI_succ]
        refine K2 s2 ⟨hJ1, hJ2, fun u z hu hz h1 h2 => ?_⟩
        by_cases e : u = k2
        · rw [e] at h1
          rw [hJ1 k2 hk2 h1] at hs
          cases hs
        · exact hJ3 u z (by omega) hz h1 h2
    · intro s2 hI2
      obtain ⟨hJ1, hJ2, hJ3⟩ := hI2
      refine xE.go 3 (F1 := (bif decide (10 ≤ (nI 10)) then 49 else 22, [some (.int (nI v)), some (.ref 45), some (.int (mk s2)), some (.int (nI k)), some (.int (nI 10))], [], w)) rfl ?_
      refine xE.brT (rfl) ?_
      refine xE.go 2 (F1 := (6, [some (.int (nI v)), some (.ref 45), some (.int (mk s2)), some (.int ((nI k) + 1)), some (.int (nI 10))], [], w)) rfl ?_
      rw [← nI_succ]
      refine xE.less [some (.int (nI v)), some (.ref 45), some (.int (mk s2)), some (.int (nI (k + 1))), none] (by simp [xleb]) ?_
      refine K s2 ⟨hJ2, fun u hu h => ?_⟩
      rw [rchn_add k 1] at h
      rcases Bool.or_eq_true_iff.mp (show (rchn G (fun _ => true) k (fun z => decide (z = v) && true) u || (nb G (rchn G (fun _ => true) k (fun z => decide (z = v) && true)) u && true)) = true from h) with h | h
      · exact hJ1 u hu (hI2 u hu h)
      · rw [Bool.and_true, nb_iff] at h
        obtain ⟨x, x1, x2, x3⟩ := h
        exact hJ3 x u x1 hu (hI2 x x1 x2) x3
  · intro s hI
    refine xE.go 3 (F1 := (bif decide (10 ≤ (nI 10)) then 55 else 12, [some (.int (nI v)), some (.ref 45), some (.int (mk s)), some (.int (nI 10)), none], [], w)) rfl ?_
    refine xE.brT (rfl) ?_
    rw [show mk s = mk (kc G v) from mk_ext fun u hu => by
      cases h : kc G v u with
      | true => exact hI.2 u hu h
      | false =>
        cases h2 : s u with
        | false => rfl
        | true =>
          rw [hI.1 u hu h2] at h
          cases h]
    show xE ML_joined (55, [some (.int (nI v)), some (.ref 45), some (.int (mk (kc G v))), some (.int (nI 10)), none], [], w) _ _
    refine xE.go 1 (F1 := (56, [some (.int (nI v)), some (.ref 45), some (.int (mk (kc G v))), some (.int (nI 10)), none], [.int (mk (kc G v))], w)) rfl ?_
    exact xE.iret .int 1 rfl rfl (rfl)
theorem sm_cle' {f : Nat → Nat} {c : Nat} (h : ∀ i, f i ≤ c) : ∀ k, sm f k ≤ c * k
  | 0 => Nat.le_refl _
  | k + 1 => by
    have := sm_cle' h k
    have := h k
    show sm f k + f k ≤ c * (k + 1)
    rw [Nat.mul_succ]
    omega
theorem c_ledges {w : xW} {G : Nat → Nat → Bool} (hg : gok G) (hG : gI w G) : xC ML_edges [.ref 45] w (some (.int (nI (ec G)))) w := by
  have hb : ∀ k, sm (fun x => cnt (G x) 10) k ≤ 10 * k := sm_cle' (fun i => cnt_le _ _)
  unfold xC
  show xE ML_edges (0, [some (.ref 45), none, none], [], w) _ _
  refine xE.go 4 (F1 := (4, [some (.ref 45), some (.int 0), some (.int 0)], [], w)) rfl ?_
  refine xE.loop (S := Unit) (fun k s => (4, [some (.ref 45), some (.int (nI (sm (fun x => cnt (G x) 10) k))), some (.int (nI k))], [], w)) (fun _ _ => True) 10 () (rfl) (trivial) ?_ ?_
  · intro k s hk hI K
    have K := K () trivial
    refine xE.go 3 (F1 := (bif decide (10 ≤ (nI k)) then 25 else 10, [some (.ref 45), some (.int (nI (sm (fun x => cnt (G x) 10) k))), some (.int (nI k))], [], w)) rfl ?_
    refine xE.brF (decide_eq_false (nI_ge (b := 10) (by omega) (by omega))) ?_
    refine xE.go 3 (F1 := (13, [some (.ref 45), some (.int (nI (sm (fun x => cnt (G x) 10) k))), some (.int (nI k))], [.int (nI k), .ref 45, .int (nI (sm (fun x => cnt (G x) 10) k))], w)) rfl ?_
    refine xE.iald rfl (k := k) (rfl) (⟨by omega, by omega⟩) rfl ?_
    show xE ML_edges (14, [some (.ref 45), some (.int (nI (sm (fun x => cnt (G x) 10) k))), some (.int (nI k))], [.int (w.1 45 k), .int (nI (sm (fun x => cnt (G x) 10) k))], w) _ _
    rw [hG k hk]
    refine xE.call rfl (c_lones) ?_
    show xE ML_edges (17, [some (.ref 45), some (.int (nI (sm (fun x => cnt (G x) 10) k))), some (.int (nI k))], [.int (nI (cnt (G k) 10)), .int (nI (sm (fun x => cnt (G x) 10) k))], w) _ _
    refine xE.go 1 (F1 := (18, [some (.ref 45), some (.int (nI (sm (fun x => cnt (G x) 10) k))), some (.int (nI k))], [.int ((nI (sm (fun x => cnt (G x) 10) k)) + (nI (cnt (G k) 10)))], w)) rfl ?_
    rw [jI_add]
    refine xE.go 3 (F1 := (4, [some (.ref 45), some (.int (nI (sm (fun x => cnt (G x) 10) k + cnt (G k) 10))), some (.int ((nI k) + 1))], [], w)) rfl ?_
    rw [← nI_succ]
    exact K
  · intro s hI
    refine xE.go 3 (F1 := (bif decide (10 ≤ (nI 10)) then 25 else 10, [some (.ref 45), some (.int (nI (sm (fun x => cnt (G x) 10) 10))), some (.int (nI 10))], [], w)) rfl ?_
    refine xE.brT (rfl) ?_
    refine xE.go 3 (F1 := (28, [some (.ref 45), some (.int (nI (sm (fun x => cnt (G x) 10) 10))), some (.int (nI 10))], [.int ((nI (sm (fun x => cnt (G x) 10) 10)) / 2)], w)) rfl ?_
    rw [show (2 : Int32) = nI 2 from rfl, pk_div (by have := hb 10; omega) (by omega) (by omega), sm_even hg.1 hg.2.1 10, Nat.mul_div_cancel_left _ (by omega)]
    show xE ML_edges (28, [some (.ref 45), some (.int (nI (2 * ec G))), some (.int (nI 10))], [.int (nI (ec G))], w) _ _
    exact xE.iret .int 1 rfl rfl (rfl)
