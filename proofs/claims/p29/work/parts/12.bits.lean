/-! sets of the vertices 0 .. 9 as ints, bit by bit -/
def tb (s : Int32) (v : Nat) : Bool := s.toBitVec.getLsbD v
theorem tb_ext {s t : Int32} (h : ∀ v, v < 32 → tb s v = tb t v) : s = t := Int32.toBitVec_inj.mp (BitVec.eq_of_getLsbD_eq h)
theorem tb_and (s t : Int32) (v : Nat) : tb (s &&& t) v = (tb s v && tb t v) := by simp [tb]
theorem tb_or (s t : Int32) (v : Nat) : tb (s ||| t) v = (tb s v || tb t v) := by simp [tb]
theorem tb_xor (s t : Int32) (v : Nat) : tb (s ^^^ t) v = (tb s v ^^ tb t v) := by simp [tb]
theorem tb_0 (v : Nat) : tb 0 v = false := by simp [tb]
theorem tb_m1 {v : Nat} (h : v < 32) : tb (-1) v = true := by
  have : (-1 : Int32).toBitVec = BitVec.allOnes 32 := by decide
  rw [tb, this, BitVec.getLsbD_allOnes]
  exact decide_eq_true h
theorem nI_sh {v : Nat} (h : v < 32) : ((nI v &&& 31).toBitVec.smod 32) = BitVec.ofNat 32 v := by
  have k : ∀ u : Fin 32, ((nI u &&& 31).toBitVec.smod 32) = BitVec.ofNat 32 u := by decide +kernel
  exact k ⟨v, h⟩
theorem tb_shr (s : Int32) {v i : Nat} (h : v + i < 32) : tb (s >>> (nI v &&& 31)) i = tb s (v + i) := by
  rw [tb, Int32.toBitVec_shiftRight, nI_sh (by omega), BitVec.getLsbD_sshiftRight', BitVec.toNat_ofNat]
  have hv : v % 2 ^ 32 = v := Nat.mod_eq_of_lt (by omega)
  rw [hv, if_pos h]
  simp [tb]
  omega
theorem tb_1 (i : Nat) : tb 1 i = decide (i = 0) := by
  simp [tb]
theorem tb_shl1 {v i : Nat} (hv : v < 32) (hi : i < 32) : tb (1 <<< (nI v &&& 31)) i = decide (i = v) := by
  rw [tb, Int32.toBitVec_shiftLeft, nI_sh hv, BitVec.getLsbD_shiftLeft', BitVec.toNat_ofNat]
  have hv2 : v % 2 ^ 32 = v := Nat.mod_eq_of_lt (by omega)
  rw [hv2]
  simp
  by_cases h : i = v
  · simp [h]; omega
  · simp [h]; omega
theorem sh1 (s : Int32) {v : Nat} (h : v < 32) : (s >>> (nI v &&& 31)) &&& 1 = if tb s v then 1 else 0 := by
  apply tb_ext
  intro i hi
  rw [tb_and, tb_1]
  by_cases h0 : i = 0
  · subst h0
    rw [tb_shr s (by omega)]
    simp
    cases tb s v <;> simp [tb_0, tb_1]
  · simp [h0]
    cases tb s v <;> simp [tb_0, tb_1, h0]
/-- the mask of a set -/
def mkB : Nat → (Nat → Bool) → BitVec 32
  | 0, _ => 0
  | n + 1, S => mkB n S ||| (bif S n then BitVec.twoPow 32 n else 0)
theorem mkB_get (S : Nat → Bool) : ∀ (n v : Nat), v < 32 → (mkB n S).getLsbD v = (decide (v < n) && S v)
  | 0, v, _ => by simp [mkB]
  | n + 1, v, h => by
    have ih := mkB_get S n v h
    unfold mkB
    rw [BitVec.getLsbD_or, ih]
    by_cases hv : v = n
    · subst hv
      cases hS : S v <;> simp [BitVec.getLsbD_twoPow, h]
    · have h1 : (bif S n then BitVec.twoPow 32 n else 0).getLsbD v = false := by
        cases S n
        · simp
        · simp [BitVec.getLsbD_twoPow]
          omega
      rw [h1]
      have h2 : decide (v < n + 1) = decide (v < n) := by
        by_cases q : v < n
        · simp [q]; omega
        · simp [q]; omega
      rw [h2]
      simp
def mk (S : Nat → Bool) : Int32 := Int32.ofBitVec (mkB 10 S)
theorem tb_mk (S : Nat → Bool) {v : Nat} (h : v < 32) : tb (mk S) v = (decide (v < 10) && S v) := mkB_get S 10 v h
theorem tb_mk' (S : Nat → Bool) {v : Nat} (h : v < 10) : tb (mk S) v = S v := by rw [tb_mk S (by omega), decide_eq_true h, Bool.true_and]
theorem mk_ext {S T : Nat → Bool} (h : ∀ v, v < 10 → S v = T v) : mk S = mk T := by
  apply tb_ext
  intro v hv
  rw [tb_mk S hv, tb_mk T hv]
  by_cases q : v < 10
  · rw [h v q]
  · simp [q]
theorem mk_eq {s : Int32} {S : Nat → Bool} (h1 : ∀ v, v < 10 → tb s v = S v) (h2 : ∀ v, 10 ≤ v → v < 32 → tb s v = false) : s = mk S := by
  apply tb_ext
  intro v hv
  rw [tb_mk S hv]
  by_cases q : v < 10
  · rw [h1 v q]; simp [q]
  · rw [h2 v (by omega) hv]; simp [q]
theorem mk_inj {S T : Nat → Bool} (h : mk S = mk T) : ∀ v, v < 10 → S v = T v := fun v hv => by rw [← tb_mk' S hv, h, tb_mk' T hv]
theorem mk_and (S T : Nat → Bool) : mk S &&& mk T = mk (fun v => S v && T v) := by
  apply mk_eq
  · intro v hv; rw [tb_and, tb_mk' S hv, tb_mk' T hv]
  · intro v h1 h2; rw [tb_and, tb_mk S h2]; simp [Nat.not_lt.mpr h1]
theorem mk_or (S T : Nat → Bool) : mk S ||| mk T = mk (fun v => S v || T v) := by
  apply mk_eq
  · intro v hv; rw [tb_or, tb_mk' S hv, tb_mk' T hv]
  · intro v h1 h2; rw [tb_or, tb_mk S h2, tb_mk T h2]; simp [Nat.not_lt.mpr h1]
theorem mk_xor (S T : Nat → Bool) : mk S ^^^ mk T = mk (fun v => S v ^^ T v) := by
  apply mk_eq
  · intro v hv; rw [tb_xor, tb_mk' S hv, tb_mk' T hv]
  · intro v h1 h2; rw [tb_xor, tb_mk S h2, tb_mk T h2]; simp [Nat.not_lt.mpr h1]
theorem mk_andn (S T : Nat → Bool) : mk S &&& (mk T ^^^ -1) = mk (fun v => S v && !T v) := by
  apply mk_eq
  · intro v hv; rw [tb_and, tb_xor, tb_m1 (by omega), tb_mk' S hv, tb_mk' T hv]; simp
  · intro v h1 h2; rw [tb_and, tb_mk S h2]; simp [Nat.not_lt.mpr h1]
theorem mk_0 : (0 : Int32) = mk (fun _ => false) := mk_eq (fun v _ => tb_0 v) (fun v _ _ => tb_0 v)
theorem mk_all : (1023 : Int32) = mk (fun _ => true) := by decide +kernel
theorem mk_bit {v : Nat} (h : v < 10) : 1 <<< (nI v &&& 31) = mk (fun u => decide (u = v)) := by
  apply mk_eq
  · intro u hu; rw [tb_shl1 (by omega) (by omega)]
  · intro u h1 h2; rw [tb_shl1 (by omega) h2]; exact decide_eq_false (by omega)
theorem mk_get (S : Nat → Bool) {v : Nat} (h : v < 10) : (mk S >>> (nI v &&& 31)) &&& 1 = if S v then 1 else 0 := by rw [sh1 _ (by omega), tb_mk' S h]
theorem mk_zero {S : Nat → Bool} : mk S = 0 ↔ ∀ v, v < 10 → S v = false := by
  rw [mk_0]
  exact ⟨fun h => mk_inj h, fun h => mk_ext h⟩
/-- the least of a set of vertices; 10 where it is empty -/
def lst (S : Nat → Bool) : Nat → Nat
  | 0 => 10
  | n + 1 => bif S (9 - n) then 9 - n else lst S n
theorem lst_spec (S : Nat → Bool) : ∀ n, n ≤ 10 → (∀ v, 10 - n ≤ v → v < lst S n → v < 10 → S v = false) ∧ (lst S n < 10 → S (lst S n) = true ∧ 10 - n ≤ lst S n) ∧ lst S n ≤ 10
  | 0, _ => ⟨fun v h1 _ h3 => by omega, fun h => by simp [lst] at h, Nat.le_refl _⟩
  | n + 1, h => by
    obtain ⟨h1, h2, h3⟩ := lst_spec S n (by omega)
    unfold lst
    cases hS : S (9 - n) with
    | true => exact ⟨fun v a b c => by simp at b; omega, fun _ => ⟨hS, by simp only [cond_true]; omega⟩, by simp only [cond_true]; omega⟩
    | false =>
      refine ⟨fun v a b c => ?_, fun q => ⟨(h2 q).1, by have := (h2 q).2; simp; omega⟩, h3⟩
      by_cases e : v = 9 - n
      · subst e; exact hS
      · exact h1 v (by omega) b c
/-- the least vertex of a set -/
def low (S : Nat → Bool) : Nat := lst S 10
theorem low_lt {S : Nat → Bool} {v : Nat} (h : v < low S) (hv : v < 10) : S v = false := (lst_spec S 10 (Nat.le_refl _)).1 v (by omega) h hv
theorem low_in {S : Nat → Bool} (h : low S < 10) : S (low S) = true := ((lst_spec S 10 (Nat.le_refl _)).2.1 h).1
theorem low_le (S : Nat → Bool) : low S ≤ 10 := (lst_spec S 10 (Nat.le_refl _)).2.2
theorem low_of {S : Nat → Bool} {v : Nat} (h : S v = true) (hv : v < 10) : low S ≤ v := by
  rcases Nat.lt_or_ge v (low S) with q | q
  · rw [low_lt q hv] at h; cases h
  · exact q
theorem low_eq {S : Nat → Bool} {v : Nat} (hv : v < 10) (h : S v = true) (hl : ∀ u, u < v → S u = false) : low S = v := by
  have h1 := low_of h hv
  rcases Nat.lt_or_ge (low S) v with q | q
  · have := low_in (S := S) (by omega)
    rw [hl _ q] at this; cases this
  · omega
theorem low_ext {S T : Nat → Bool} (h : ∀ v, v < 10 → S v = T v) : low S = low T := by
  rcases Nat.lt_or_ge (low T) 10 with q | q
  · exact low_eq q (by rw [h _ q]; exact low_in q) (fun u hu => by rw [h u (by omega)]; exact low_lt hu (by omega))
  · have h1 := low_le S
    rcases Nat.lt_or_ge (low S) 10 with z | z
    · have h2 := low_in z
      rw [h _ z] at h2
      have := low_of h2 z
      omega
    · have := low_le T
      omega
theorem low_none {S : Nat → Bool} (h : ∀ v, v < 10 → S v = false) : low S = 10 := by
  rcases Nat.lt_or_ge (low S) 10 with q | q
  · have := low_in q
    rw [h _ q] at this; cases this
  · have := low_le S
    omega
