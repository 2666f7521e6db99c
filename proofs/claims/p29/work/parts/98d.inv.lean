/-! every step of the small machine, one row of the kit each -/
section
variable {pc t n : Nat} {L : xL} {st : List Value} {w : xW} {F1 : xF}
theorem xpush_inv {v : Value} (h : xpush (pc, L, st, w) n v = some F1) : F1 = (pc + n, L, v :: st, w) := (Option.some.inj h).symm
theorem xld1_inv {i : Nat} (h : xld1 (pc, L, st, w) n i = some F1) : ∃ x, L[i]? = some (some (.int x)) ∧ F1 = (pc + n, L, .int x :: st, w) := by
  unfold xld1 at h
  split at h
  · next x heq => exact ⟨x, heq, (Option.some.inj h).symm⟩
  · cases h
theorem xld2_inv {i : Nat} (h : xld2 (pc, L, st, w) n i = some F1) : ∃ x, L[i]? = some (some (.long x)) ∧ F1 = (pc + n, L, .long x :: st, w) := by
  unfold xld2 at h
  split at h
  · next x heq => exact ⟨x, heq, (Option.some.inj h).symm⟩
  · cases h
theorem xlda_inv {i : Nat} (h : xlda (pc, L, st, w) n i = some F1) : ∃ x, L[i]? = some (some (.ref x)) ∧ F1 = (pc + n, L, .ref x :: st, w) := by
  unfold xlda at h
  split at h
  · next x heq => exact ⟨x, heq, (Option.some.inj h).symm⟩
  · cases h
theorem xsti_inv {i : Nat} (h : xsti (pc, L, st, w) n i = some F1) : ∃ x st1, st = .int x :: st1 ∧ i < L.length ∧ F1 = (pc + n, (xclr L i).set i (some (.int x)), st1, w) := by
  unfold xsti at h
  split at h
  · next x st1 heq =>
    cases hl : Nat.blt i L.length with
    | true => rw [hl] at h; exact ⟨x, st1, heq, Nat.le_of_ble_eq_true hl, (Option.some.inj h).symm⟩
    | false => rw [hl] at h; cases h
  · cases h
theorem xsta_inv {i : Nat} (h : xsta (pc, L, st, w) n i = some F1) : ∃ x st1, st = .ref x :: st1 ∧ i < L.length ∧ F1 = (pc + n, (xclr L i).set i (some (.ref x)), st1, w) := by
  unfold xsta at h
  split at h
  · next x st1 heq =>
    cases hl : Nat.blt i L.length with
    | true => rw [hl] at h; exact ⟨x, st1, heq, Nat.le_of_ble_eq_true hl, (Option.some.inj h).symm⟩
    | false => rw [hl] at h; cases h
  · cases h
theorem xstl_inv {i : Nat} (h : xstl (pc, L, st, w) n i = some F1) : ∃ x st1, st = .long x :: st1 ∧ i + 1 < L.length ∧ F1 = (pc + n, ((xclr L i).set (i + 1) none).set i (some (.long x)), st1, w) := by
  unfold xstl at h
  split at h
  · next x st1 heq =>
    cases hl : Nat.blt (i + 1) L.length with
    | true => rw [hl] at h; exact ⟨x, st1, heq, Nat.le_of_ble_eq_true hl, (Option.some.inj h).symm⟩
    | false => rw [hl] at h; cases h
  · cases h
theorem xinc_inv {i : Nat} {k : Int} (h : xinc (pc, L, st, w) i k = some F1) : ∃ x, L[i]? = some (some (.int x)) ∧ i < L.length ∧ F1 = (pc + 3, (xclr L i).set i (some (.int (x + Int32.ofInt k))), st, w) := by
  unfold xinc at h
  split at h
  · next x heq =>
    cases hl : Nat.blt i L.length with
    | true => rw [hl] at h; exact ⟨x, heq, Nat.le_of_ble_eq_true hl, (Option.some.inj h).symm⟩
    | false => rw [hl] at h; cases h
  · cases h
theorem xb2_inv {f : Int32 → Int32 → Int32} (h : xb2 (pc, L, st, w) f = some F1) : ∃ y x st1, st = .int y :: .int x :: st1 ∧ F1 = (pc + 1, L, .int (f x y) :: st1, w) := by
  unfold xb2 at h
  split at h
  · next y x st1 heq => exact ⟨y, x, st1, heq, (Option.some.inj h).symm⟩
  · cases h
theorem xb1_inv {f : Int32 → Int32} (h : xb1 (pc, L, st, w) f = some F1) : ∃ x st1, st = .int x :: st1 ∧ F1 = (pc + 1, L, .int (f x) :: st1, w) := by
  unfold xb1 at h
  split at h
  · next x st1 heq => exact ⟨x, st1, heq, (Option.some.inj h).symm⟩
  · cases h
theorem xj2_inv {f : Int64 → Int64 → Int64} (h : xj2 (pc, L, st, w) f = some F1) : ∃ y x st1, st = .long y :: .long x :: st1 ∧ F1 = (pc + 1, L, .long (f x y) :: st1, w) := by
  unfold xj2 at h
  split at h
  · next y x st1 heq => exact ⟨y, x, st1, heq, (Option.some.inj h).symm⟩
  · cases h
theorem xji_inv {f : Int64 → Int32 → Int64} (h : xji (pc, L, st, w) f = some F1) : ∃ y x st1, st = .int y :: .long x :: st1 ∧ F1 = (pc + 1, L, .long (f x y) :: st1, w) := by
  unfold xji at h
  split at h
  · next y x st1 heq => exact ⟨y, x, st1, heq, (Option.some.inj h).symm⟩
  · cases h
theorem xlcmp_inv (h : xlcmp (pc, L, st, w) = some F1) : ∃ y x st1, st = .long y :: .long x :: st1 ∧ F1 = (pc + 1, L, .int (lg_cmp x y) :: st1, w) := by
  unfold xlcmp at h
  split at h
  · next y x st1 heq => exact ⟨y, x, st1, heq, (Option.some.inj h).symm⟩
  · cases h
theorem xl2i_inv (h : xl2i (pc, L, st, w) = some F1) : ∃ x st1, st = .long x :: st1 ∧ F1 = (pc + 1, L, .int x.toInt32 :: st1, w) := by
  unfold xl2i at h
  split at h
  · next x st1 heq => exact ⟨x, st1, heq, (Option.some.inj h).symm⟩
  · cases h
theorem xi2d_inv (h : xi2d (pc, L, st, w) = some F1) : ∃ x st1, st = .int x :: st1 ∧ F1 = (pc + 1, L, .double (FP.i2d x) :: st1, w) := by
  unfold xi2d at h
  split at h
  · next x st1 heq => exact ⟨x, st1, heq, (Option.some.inj h).symm⟩
  · cases h
theorem xdup2_inv (h : xdup2 (pc, L, st, w) = some F1) : ∃ y x st1, st = .int y :: .ref x :: st1 ∧ F1 = (pc + 1, L, .int y :: .ref x :: .int y :: .ref x :: st1, w) := by
  unfold xdup2 at h
  split at h
  · next y x st1 heq => exact ⟨y, x, st1, heq, (Option.some.inj h).symm⟩
  · cases h
theorem xpop_inv (h : xpop (pc, L, st, w) = some F1) : ∃ x st1, st = .int x :: st1 ∧ F1 = (pc + 1, L, st1, w) := by
  unfold xpop at h
  split at h
  · next x st1 heq => exact ⟨x, st1, heq, (Option.some.inj h).symm⟩
  · cases h
theorem xbr1_inv {f : Int32 → Bool} (h : xbr1 (pc, L, st, w) t f = some F1) : ∃ x st1, st = .int x :: st1 ∧ F1 = (bif f x then t else pc + 3, L, st1, w) := by
  unfold xbr1 at h
  split at h
  · next x st1 heq => exact ⟨x, st1, heq, (Option.some.inj h).symm⟩
  · cases h
theorem xbr2_inv {f : Int32 → Int32 → Bool} (h : xbr2 (pc, L, st, w) t f = some F1) : ∃ y x st1, st = .int y :: .int x :: st1 ∧ F1 = (bif f x y then t else pc + 3, L, st1, w) := by
  unfold xbr2 at h
  split at h
  · next y x st1 heq => exact ⟨y, x, st1, heq, (Option.some.inj h).symm⟩
  · cases h
theorem xb0_inv {f : Int32 → Int32 → Int32} (h : xb0 (pc, L, st, w) f = some F1) : ∃ y x st1, st = .int y :: .int x :: st1 ∧ ¬ y = 0 ∧ F1 = (pc + 1, L, .int (f x y) :: st1, w) := by
  unfold xb0 at h
  split at h
  · next y x st1 heq =>
    by_cases hy : y = 0
    · rw [decide_eq_true hy] at h; cases h
    · rw [decide_eq_false hy] at h; exact ⟨y, x, st1, heq, hy, (Option.some.inj h).symm⟩
  · cases h
theorem xddiv_inv (h : xddiv (pc, L, st, w) = some F1) : ∃ y x st1, st = .double y :: .double x :: st1 ∧ vf_n64 (FP.ddiv x y) ∧ F1 = (pc + 1, L, .double (FP.ddiv x y) :: st1, w) := by
  unfold xddiv at h
  split at h
  · next y x st1 heq =>
    by_cases hy : FP.ddiv x y &&& 0x7fffffffffffffff ≤ 0x7ff0000000000000
    · rw [decide_eq_true hy] at h; exact ⟨y, x, st1, heq, hy, (Option.some.inj h).symm⟩
    · rw [decide_eq_false hy] at h; cases h
  · cases h
theorem xdup_inv (h : xdup (pc, L, st, w) = some F1) : (∃ x st1, st = .int x :: st1 ∧ F1 = (pc + 1, L, .int x :: .int x :: st1, w)) ∨ ∃ x st1, st = .ref x :: st1 ∧ F1 = (pc + 1, L, .ref x :: .ref x :: st1, w) := by
  unfold xdup at h
  split at h
  · next x st1 heq => exact Or.inl ⟨x, st1, heq, (Option.some.inj h).symm⟩
  · next x st1 heq => exact Or.inr ⟨x, st1, heq, (Option.some.inj h).symm⟩
  · cases h
theorem xgetf_inv {c : Nat} {lk : Option (Nat × Nat)} (h : xgetf c lk (pc, L, st, w) = some F1) : ∃ cj k a st1 ks kd, lk = some (cj, k) ∧ st = .ref a :: st1 ∧ xshp a = some (.inr (.inr (cj, ks))) ∧ ks[k]? = some kd ∧ F1 = (pc + 3, L, xval w a k kd :: st1, w) := by
  unfold xgetf at h
  split at h
  · next cj k a st1 heq =>
    split at h
    · next ck ks hs =>
      cases hc : Nat.beq ck cj with
      | true =>
        rw [hc] at h
        have hcc := Nat.eq_of_beq_eq_true hc
        subst hcc
        dsimp only [cond_true] at h
        split at h
        · next kd hk => exact ⟨ck, k, a, st1, ks, kd, rfl, heq, hs, hk, (Option.some.inj h).symm⟩
        · cases h
      | false => rw [hc] at h; cases h
    · cases h
  · cases h
theorem xputf_inv {lk : Option (Nat × Nat)} (h : xputf lk (pc, L, st, w) = some F1) : ∃ cj k a st1 ks, lk = some (cj, k) ∧ xshp a = some (.inr (.inr (cj, ks))) ∧
    ((∃ x, st = .int x :: .ref a :: st1 ∧ ks[k]? = some none ∧ (xbool cj k = true → x = 0 ∨ x = 1) ∧ F1 = (pc + 3, L, st1, xuI w a k x)) ∨ ∃ x, st = .long x :: .ref a :: st1 ∧ ks[k]? = some (some none) ∧ F1 = (pc + 3, L, st1, xuJ w a k x)) := by
  unfold xputf at h
  split at h
  · next cj k x a st1 heq =>
    split at h
    · next ck ks hs =>
      cases hc : Nat.beq ck cj with
      | true =>
        rw [hc] at h
        have hcc := Nat.eq_of_beq_eq_true hc
        subst hcc
        dsimp only [cond_true] at h
        split at h
        · next hk =>
          refine ⟨ck, k, a, st1, ks, rfl, hs, Or.inl ⟨x, heq, hk, ?_⟩⟩
          cases hb : xbool ck k with
          | false => rw [hb] at h; exact ⟨(fun z => by cases z), (Option.some.inj h).symm⟩
          | true =>
            rw [hb] at h
            dsimp only [cond_true] at h
            cases hv : decide (x = 0) || decide (x = 1) with
            | false => rw [hv] at h; cases h
            | true =>
              rw [hv] at h
              simp only [Bool.or_eq_true, decide_eq_true_eq] at hv
              exact ⟨fun _ => hv, (Option.some.inj h).symm⟩
        · cases h
      | false => rw [hc] at h; cases h
    · cases h
  · next cj k x a st1 heq =>
    split at h
    · next ck ks hs =>
      cases hc : Nat.beq ck cj with
      | true =>
        rw [hc] at h
        have hcc := Nat.eq_of_beq_eq_true hc
        subst hcc
        dsimp only [cond_true] at h
        split at h
        · next hk => exact ⟨ck, k, a, st1, ks, rfl, hs, Or.inr ⟨x, heq, hk, (Option.some.inj h).symm⟩⟩
        · cases h
      | false => rw [hc] at h; cases h
    · cases h
  · cases h
theorem xin_vp {i : Int32} {n : Nat} (h : xin i n = true) : vp_in i n := by
  unfold xin at h
  rw [Bool.and_eq_true] at h
  rintro (z | z)
  · rw [decide_eq_true z] at h
    cases h.1
  · have := Nat.le_of_ble_eq_true h.2
    omega
theorem xiald_inv (h : xiald (pc, L, st, w) = some F1) : ∃ i a st1 n, st = .int i :: .ref a :: st1 ∧ xshp a = some (.inl n) ∧ vp_in i n ∧ F1 = (pc + 1, L, .int (w.1 a i.toNatClampNeg) :: st1, w) := by
  unfold xiald at h
  split at h
  · next i a st1 heq =>
    split at h
    · next n hs =>
      cases hc : xin i n with
      | true => rw [hc] at h; exact ⟨i, a, st1, n, heq, hs, xin_vp hc, (Option.some.inj h).symm⟩
      | false => rw [hc] at h; cases h
    · cases h
  · cases h
theorem xlald_inv (h : xlald (pc, L, st, w) = some F1) : ∃ i a st1 n, st = .int i :: .ref a :: st1 ∧ xshp a = some (.inr (.inl n)) ∧ vp_in i n ∧ F1 = (pc + 1, L, .long (w.2 a i.toNatClampNeg) :: st1, w) := by
  unfold xlald at h
  split at h
  · next i a st1 heq =>
    split at h
    · next n hs =>
      cases hc : xin i n with
      | true => rw [hc] at h; exact ⟨i, a, st1, n, heq, hs, xin_vp hc, (Option.some.inj h).symm⟩
      | false => rw [hc] at h; cases h
    · cases h
  · cases h
theorem xiast_inv (h : xiast (pc, L, st, w) = some F1) : ∃ x i a st1 n, st = .int x :: .int i :: .ref a :: st1 ∧ xshp a = some (.inl n) ∧ vp_in i n ∧ F1 = (pc + 1, L, st1, xuI w a i.toNatClampNeg x) := by
  unfold xiast at h
  split at h
  · next x i a st1 heq =>
    split at h
    · next n hs =>
      cases hc : xin i n with
      | true => rw [hc] at h; exact ⟨x, i, a, st1, n, heq, hs, xin_vp hc, (Option.some.inj h).symm⟩
      | false => rw [hc] at h; cases h
    · cases h
  · cases h
theorem xlast_inv (h : xlast (pc, L, st, w) = some F1) : ∃ x i a st1 n, st = .long x :: .int i :: .ref a :: st1 ∧ xshp a = some (.inr (.inl n)) ∧ vp_in i n ∧ F1 = (pc + 1, L, st1, xuJ w a i.toNatClampNeg x) := by
  unfold xlast at h
  split at h
  · next x i a st1 heq =>
    split at h
    · next n hs =>
      cases hc : xin i n with
      | true => rw [hc] at h; exact ⟨x, i, a, st1, n, heq, hs, xin_vp hc, (Option.some.inj h).symm⟩
      | false => rw [hc] at h; cases h
    · cases h
  · cases h
theorem xalen_inv (h : xalen (pc, L, st, w) = some F1) : ∃ a st1 n, st = .ref a :: st1 ∧ (xshp a = some (.inl n) ∨ xshp a = some (.inr (.inl n))) ∧ F1 = (pc + 1, L, .int (Int32.ofNat n) :: st1, w) := by
  unfold xalen at h
  split at h
  · next a st1 heq =>
    split at h
    · next n hs => exact ⟨a, st1, n, heq, Or.inl hs, (Option.some.inj h).symm⟩
    · next n hs => exact ⟨a, st1, n, heq, Or.inr hs, (Option.some.inj h).symm⟩
    · cases h
  · cases h
theorem xtsw_inv {d lo hi : Int} {offs : Array Int} (h : xtsw (pc, L, st, w) d lo hi offs = some F1) : ∃ x st1 tg, st = .int x :: st1 ∧ F1 = (tg, L, st1, w) ∧ (((x.toInt < lo ∨ hi < x.toInt) ∧ (pc : Int) + d = (tg : Int)) ∨ (¬ x.toInt < lo ∧ ¬ hi < x.toInt ∧ ∃ o, offs[(x.toInt - lo).toNat]? = some o ∧ (pc : Int) + o = (tg : Int))) := by
  unfold xtsw at h
  split at h
  · next x st1 heq =>
    by_cases hx : x.toInt < lo ∨ hi < x.toInt
    · have hb : (decide (x.toInt < lo) || decide (hi < x.toInt)) = true := by simpa using hx
      rw [hb] at h
      by_cases h0 : 0 ≤ (pc : Int) + d
      · have h0' : decide (0 ≤ (((pc, L, st, w) : xF).1 : Int) + d) = true := decide_eq_true h0
        rw [cond_true, h0'] at h
        exact ⟨x, st1, _, heq, (Option.some.inj h).symm, Or.inl ⟨hx, (Int.toNat_of_nonneg h0).symm⟩⟩
      · have h0' : decide (0 ≤ (((pc, L, st, w) : xF).1 : Int) + d) = false := decide_eq_false h0
        rw [cond_true, h0'] at h
        cases h
    · have hb : (decide (x.toInt < lo) || decide (hi < x.toInt)) = false := by simpa using hx
      rw [hb, cond_false] at h
      split at h
      · next o ho =>
        by_cases h0 : 0 ≤ (pc : Int) + o
        · have h0' : decide (0 ≤ (((pc, L, st, w) : xF).1 : Int) + o) = true := decide_eq_true h0
          rw [h0'] at h
          exact ⟨x, st1, _, heq, (Option.some.inj h).symm, Or.inr ⟨fun z => hx (Or.inl z), fun z => hx (Or.inr z), o, by rw [← Array.getElem?_toList]; exact ho, (Int.toNat_of_nonneg h0).symm⟩⟩
        · have h0' : decide (0 ≤ (((pc, L, st, w) : xF).1 : Int) + o) = false := decide_eq_false h0
          rw [h0'] at h
          cases h
      · cases h
  · cases h
theorem xlsw_inv {d : Int} {ps : Array (Int × Int)} (h : xlsw (pc, L, st, w) d ps = some F1) : ∃ x st1 tg, st = .int x :: st1 ∧ F1 = (tg, L, st1, w) ∧ (ps.toList.zip (ps.toList.drop 1)).all (fun (a, next) => a.1 < next.1) = true ∧ (pc : Int) + Op.lookupswitch.offset ps.toList d x.toInt = (tg : Int) := by
  unfold xlsw at h
  split at h
  · next x st1 heq =>
    cases hb : (ps.toList.zip (ps.toList.drop 1)).all (fun q => decide (q.1.1 < q.2.1)) && decide (0 ≤ (((pc, L, st, w) : xF).1 : Int) + Op.lookupswitch.offset ps.toList d x.toInt) with
    | true =>
      rw [hb] at h
      rw [Bool.and_eq_true, decide_eq_true_eq] at hb
      exact ⟨x, st1, _, heq, (Option.some.inj h).symm, hb.1, (Int.toNat_of_nonneg hb.2).symm⟩
    | false => rw [hb] at h; cases h
  · cases h
theorem xmath_inv {M : xMI} {pr : Option Bool} (h : xmath M pr (pc, L, st, w) = some F1) : ∃ b y x st1, pr = some b ∧ st = .int y :: .int x :: st1 ∧ 1 ≤ xm_f M ∧ (st1.map fun v => v.category).sum + 13 ≤ xm_l M ∧ F1 = (pc + 3, L, .int (bif b then (if y < x then y else x) else (if x < y then y else x)) :: st1, w) := by
  unfold xmath at h
  split at h
  · next b y x st1 heq =>
    cases hb : Nat.ble 1 (xm_f M) && Nat.ble ((st1.map fun v => v.category).sum + 13) (xm_l M) with
    | true =>
      rw [hb] at h
      rw [Bool.and_eq_true] at hb
      exact ⟨b, y, x, st1, rfl, heq, Nat.le_of_ble_eq_true hb.1, Nat.le_of_ble_eq_true hb.2, (Option.some.inj h).symm⟩
    | false => rw [hb] at h; cases h
  · cases h
theorem xldc1_inv {lk : Option Value} (h : xldc1 lk (pc, L, st, w) = some F1) : (∃ v, lk = some (.int v) ∧ F1 = (pc + 2, L, .int v :: st, w)) ∨ ∃ v, lk = some (.ref v) ∧ F1 = (pc + 2, L, .ref v :: st, w) := by
  unfold xldc1 at h
  split at h
  · next v => exact Or.inl ⟨v, rfl, (Option.some.inj h).symm⟩
  · next v => exact Or.inr ⟨v, rfl, (Option.some.inj h).symm⟩
  · cases h
theorem xldcw_inv {lk : Option Value} (h : xldcw lk (pc, L, st, w) = some F1) : ∃ v, lk = some (.int v) ∧ F1 = (pc + 3, L, .int v :: st, w) := by
  unfold xldcw at h
  split at h
  · next v => exact ⟨v, rfl, (Option.some.inj h).symm⟩
  · cases h
theorem xldc2_inv {lk : Option Value} (h : xldc2 lk (pc, L, st, w) = some F1) : (∃ v, lk = some (.long v) ∧ F1 = (pc + 3, L, .long v :: st, w)) ∨ ∃ v, lk = some (.double v) ∧ F1 = (pc + 3, L, .double v :: st, w) := by
  unfold xldc2 at h
  split at h
  · next v => exact Or.inl ⟨v, rfl, (Option.some.inj h).symm⟩
  · next v => exact Or.inr ⟨v, rfl, (Option.some.inj h).symm⟩
  · cases h
end
