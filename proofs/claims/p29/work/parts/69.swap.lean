/-! what lies on two faces alone changes its side -/
def ins (G : xG) (S : Nat → Bool) (P : xG) (PV : Nat → Bool) (L : List (List Nat)) (m : Nat) (Z : Nat → xG) (c : Nat → Nat) (p q i : Nat) : Prop := ∃ a b, Z i a b = true ∧ g1 G S P PV L m Z c p q a b ∧ ∀ x y, Z i x y = true → Un G S P PV L m Z c p q a b x y
noncomputable def AA (G : xG) (S : Nat → Bool) (P : xG) (PV : Nat → Bool) (L : List (List Nat)) (m : Nat) (Z : Nat → xG) (c : Nat → Nat) (p q i k : Nat) : Bool := bo (¬ins G S P PV L m Z c p q i ∧ ins G S P PV L m Z c p q k ∧ ∃ a b x y, Z k a b = true ∧ Un G S P PV L m Z c p q a b x y ∧ Z i x y = true)
noncomputable def Zs (G : xG) (S : Nat → Bool) (P : xG) (PV : Nat → Bool) (L : List (List Nat)) (m : Nat) (Z : Nat → xG) (c : Nat → Nat) (p q i : Nat) : xG := xr (Z i) (sU Z (AA G S P PV L m Z c p q i) m)
noncomputable def cS (G : xG) (S : Nat → Bool) (P : xG) (PV : Nat → Bool) (L : List (List Nat)) (m : Nat) (Z : Nat → xG) (c : Nat → Nat) (p q i : Nat) : Nat := bif bo (ins G S P PV L m Z c p q i) then c i else if c i = p then q else if c i = q then p else c i
def sw (a b i : Nat) : Nat := if i = a then b else if i = b then a else i
theorem sw_sw (a b i : Nat) : sw a b (sw a b i) = i := by
  unfold sw
  by_cases h1 : i = a
  · subst h1
    rw [if_pos rfl]
    by_cases h2 : b = i
    · rw [if_pos h2, h2]
    · rw [if_neg h2, if_pos rfl]
  · rw [if_neg h1]
    by_cases h2 : i = b
    · subst h2
      rw [if_pos rfl, if_pos rfl]
    · rw [if_neg h2, if_neg h1, if_neg h2]
theorem sw_lt {a b i m : Nat} (ha : a < m) (hb : b < m) (hi : i < m) : sw a b i < m := by
  unfold sw
  split
  · exact hb
  · split
    · exact ha
    · exact hi
theorem xs_sw {a b m : Nat} (ha : a < m) (hb : b < m) (f : Nat → Bool) : xs (fun i => f (sw a b i)) m = xs f m := by
  by_cases hab : a = b
  · subst hab
    refine xs_ext fun i _ => ?_
    congr 1
    unfold sw
    by_cases h : i = a
    · rw [if_pos h, h]
    · rw [if_neg h, if_neg h]
  · have e : xs (fun i => f (sw a b i)) m = xs (fun i => f i ^^ ((decide (i = a) && (f a ^^ f b)) ^^ (decide (i = b) && (f a ^^ f b)))) m := xs_ext fun i _ => by
      unfold sw
      by_cases h1 : i = a
      · subst h1
        simp only [if_true, decide_true, decide_eq_false hab, Bool.true_and, Bool.false_and, Bool.xor_false]
        cases f i <;> cases f b <;> rfl
      · by_cases h2 : i = b
        · subst h2
          simp only [if_neg h1, if_true, decide_true, decide_eq_false h1, Bool.true_and, Bool.false_and, Bool.false_xor]
          cases f i <;> cases f a <;> rfl
        · simp [h1, h2]
    have x1 : xs (fun i => decide (i = a) && (f a ^^ f b)) m = (f a ^^ f b) := by
      rw [xs_one ha (fun i _ n => by simp [n])]
      simp
    have x2 : xs (fun i => decide (i = b) && (f a ^^ f b)) m = (f a ^^ f b) := by
      rw [xs_one hb (fun i _ n => by simp [n])]
      simp
    rw [e, xs_xor, xs_xor, x1, x2]
    simp
section
variable {G : xG} {S : Nat → Bool} {P : xG} {PV : Nat → Bool} {L : List (List Nat)} {E m : Nat} {Z : Nat → xG} {c : Nat → Nat} {p q : Nat}
theorem ins_mixd (h : SW G S P PV L E m Z c p q) {x y i : Nat} (h0 : g1 G S P PV L m Z c p q x y) (hu : ∃ a b, Un G S P PV L m Z c p q x y a b ∧ Z i a b = true) : mixd G S P PV L m Z c p q x y i ↔ ¬ins G S P PV L m Z c p q i := by
  obtain ⟨a, b, hab, hZ⟩ := hu
  constructor
  · rintro ⟨_, x', y', hZ', hn⟩ ⟨u, v, huv, _, hall⟩
    exact hn (Un_trans hab (Un_trans (Un_back (hall a b hZ)) (hall x' y' hZ')))
  · intro hni
    refine ⟨⟨a, b, hab, hZ⟩, Classical.byContradiction fun hno => hni ⟨a, b, hZ, Un_g1 h h0 hab, fun x' y' hZ' => ?_⟩⟩
    exact Un_trans (Un_back hab) (Classical.byContradiction fun n => hno ⟨x', y', hZ', n⟩)
theorem ins_cls (h : SW G S P PV L E m Z c p q) {i x y : Nat} (hi : i < m) (hZ : Z i x y = true) (hni : ¬ins G S P PV L m Z c p q i) : c i = p ∨ c i = q := by
  refine Classical.byContradiction fun hc => hni ⟨x, y, hZ, ⟨(h.2.2.2.2.2.1.1.1 i hi).1.2 x y hZ, fun hx => ?_⟩, fun x' y' hZ' => ?_⟩
  · obtain ⟨e, ⟨k, hk, hkZ, hck⟩, _⟩ := hx
    rw [SW_A h e hi hk hZ hkZ] at hck
    exact hc hck
  · exact (Un_cl x y).2.2 i x y x' y' hi (fun e => hc (Or.inl e)) (fun e => hc (Or.inr e)) hZ hZ' (Un_rfl x y)
/-- a face inside has no edge that changes its side -/
theorem ins_g1 (h : SW G S P PV L E m Z c p q) {i x y : Nat} (hin : ins G S P PV L m Z c p q i) (hZ : Z i x y = true) : g1 G S P PV L m Z c p q x y := by
  obtain ⟨a, b, _, h0, hall⟩ := hin
  exact Un_g1 h h0 (hall x y hZ)
/-- at an edge that stays -/
theorem AA_at (h : SW G S P PV L E m Z c p q) {x y i k : Nat} (h0 : g1 G S P PV L m Z c p q x y) (hk : Z k x y = true) (hin : ins G S P PV L m Z c p q k) : AA G S P PV L m Z c p q i k = bo (mixd G S P PV L m Z c p q x y i) := by
  unfold AA
  rw [Bool.eq_iff_iff, bo_iff, bo_iff]
  obtain ⟨u, v, huv, hg, hall⟩ := id hin
  constructor
  · rintro ⟨hni, _, a, b, x', y', hab, hu, hZ'⟩
    have hxa : Un G S P PV L m Z c p q x y a b := Un_trans (Un_back (hall x y hk)) (hall a b hab)
    exact (ins_mixd h h0 ⟨x', y', Un_trans hxa hu, hZ'⟩).mpr hni
  · intro hm
    obtain ⟨a, b, hab, hZ'⟩ := hm.1
    exact ⟨(ins_mixd h h0 hm.1).mp hm, hin, x, y, a, b, hk, hab, hZ'⟩
theorem Zs_x (h : SW G S P PV L E m Z c p q) {x y i : Nat} (hx : ¬g1 G S P PV L m Z c p q x y) : Zs G S P PV L m Z c p q i x y = Z i x y := by
  show (Z i x y ^^ xs _ m) = _
  rw [xs_0 (fun k _ => ?_)]
  · simp
  · cases e : Z k x y with
    | false => simp
    | true =>
      have : AA G S P PV L m Z c p q i k = false := bo_no.mpr fun ⟨_, hin, _⟩ => hx (ins_g1 h hin e)
      rw [this]; rfl
theorem Zs_g (h : SW G S P PV L E m Z c p q) {x y : Nat} (h0 : g1 G S P PV L m Z c p q x y) : ∃ R R', R < m ∧ R' < m ∧ (∀ i, i < m → Zs G S P PV L m Z c p q i x y = Z (sw R R' i) x y) ∧ ∀ i, i < m → Z (sw R R' i) x y = true → cS G S P PV L m Z c p q i = c (sw R R' i) := by
  obtain ⟨hb, hS, hB, hI, hG, hX, ⟨hp, hq, hpq⟩, _⟩ := id h
  have hform : ∀ i, Zs G S P PV L m Z c p q i x y = (Z i x y ^^ (bo (mixd G S P PV L m Z c p q x y i) && xs (fun k => bo (mixd G S P PV L m Z c p q x y k) && Z k x y) m)) := fun i => by
    show (Z i x y ^^ xs _ m) = _
    congr 1
    have e1 : xs (fun k => AA G S P PV L m Z c p q i k && Z k x y) m = (bo (mixd G S P PV L m Z c p q x y i) && xs (fun k => bo (ins G S P PV L m Z c p q k) && Z k x y) m) := by
      rw [← xs_and]
      refine xs_ext fun k hk => ?_
      cases e : Z k x y with
      | false => simp
      | true =>
        by_cases hin : ins G S P PV L m Z c p q k
        · rw [AA_at h h0 e hin, bo_iff.mpr hin]; simp
        · have : AA G S P PV L m Z c p q i k = false := bo_no.mpr fun q => hin q.2.1
          rw [this, bo_no.mpr hin]; simp
    rw [e1]
    congr 1
    have e2 : xs (fun k => bo (ins G S P PV L m Z c p q k) && Z k x y) m = xs (fun k => !bo (mixd G S P PV L m Z c p q x y k) && Z k x y) m := xs_ext fun k hk => by
      cases e : Z k x y with
      | false => simp
      | true =>
        have := ins_mixd h h0 (i := k) ⟨x, y, Un_rfl x y, e⟩
        by_cases hin : ins G S P PV L m Z c p q k
        · rw [bo_iff.mpr hin, bo_no.mpr (fun q => this.mp q hin)]; rfl
        · rw [bo_no.mpr hin, bo_iff.mpr (this.mpr hin)]; rfl
    rw [e2, xs_not]
    have e3 : xs (fun k => Z k x y) m = false := by
      have h1 : xs (fun k => true && Z k x y) m = false := congrFun (congrFun (tw_all hX.1.2.1) x) y
      exact (xs_ext fun k _ => (Bool.true_and _).symm).trans h1
    rw [e3, Bool.false_xor]
  by_cases hex : ∃ i, i < m ∧ mixd G S P PV L m Z c p q x y i
  · obtain ⟨i, hi, hm⟩ := hex
    obtain ⟨R, R', r1, r2, r3, r4, r5, r6, r7⟩ := U5 h h0 hi hm
    have hne : R ≠ R' := fun e => hpq (by rw [← r3, ← r4, e])
    have hsum : xs (fun k => bo (mixd G S P PV L m Z c p q x y k) && Z k x y) m = (Z R x y ^^ Z R' x y) := by
      rw [xs_two r1 r2 hne (fun k hk n1 n2 => by
        have : ¬mixd G S P PV L m Z c p q x y k := fun e => by rcases r7 k hk e with e | e <;> contradiction
        rw [bo_no.mpr this]; rfl), bo_iff.mpr r5, bo_iff.mpr r6]
      simp
    refine ⟨R, R', r1, r2, fun i hi => ?_, fun i hi hZ => ?_⟩
    · rw [hform, hsum]
      unfold sw
      by_cases e1 : i = R
      · subst e1
        rw [if_pos rfl, bo_iff.mpr r5]
        cases Z i x y <;> cases Z R' x y <;> rfl
      · by_cases e2 : i = R'
        · subst e2
          rw [if_neg e1, if_pos rfl, bo_iff.mpr r6]
          cases Z R x y <;> cases Z i x y <;> rfl
        · have : ¬mixd G S P PV L m Z c p q x y i := fun e => by rcases r7 i hi e with e | e <;> contradiction
          rw [if_neg e1, if_neg e2, bo_no.mpr this]
          simp
    · unfold cS
      unfold sw at hZ ⊢
      by_cases e1 : i = R
      · subst e1
        have hni := (ins_mixd h h0 r5.1).mp r5
        rw [bo_no.mpr hni, if_pos rfl, r3, r4]
        simp
      · by_cases e2 : i = R'
        · subst e2
          have hni := (ins_mixd h h0 r6.1).mp r6
          rw [bo_no.mpr hni, if_neg e1, if_pos rfl, r4, r3]
          simp [fun e : q = p => hpq e.symm]
        · rw [if_neg e1, if_neg e2] at hZ ⊢
          have hin : ins G S P PV L m Z c p q i := Classical.byContradiction fun n => by
            rcases r7 i hi ((ins_mixd h h0 ⟨x, y, Un_rfl x y, hZ⟩).mpr n) with e | e <;> contradiction
          rw [bo_iff.mpr hin]
          rfl
  · obtain ⟨i0, hi0, _⟩ := SW_cov h h0.1
    have hnm : ∀ i, i < m → ¬mixd G S P PV L m Z c p q x y i := fun i hi e => hex ⟨i, hi, e⟩
    have hsw : ∀ i, sw i0 i0 i = i := fun i => by
      unfold sw
      by_cases e : i = i0
      · rw [if_pos e, e]
      · rw [if_neg e, if_neg e]
    refine ⟨i0, i0, hi0, hi0, fun i hi => ?_, fun i hi hZ => ?_⟩
    · rw [hform, bo_no.mpr (hnm i hi), hsw]
      simp
    · rw [hsw] at hZ ⊢
      have hin : ins G S P PV L m Z c p q i := Classical.byContradiction fun n => hnm i hi ((ins_mixd h h0 ⟨x, y, Un_rfl x y, hZ⟩).mpr n)
      unfold cS
      rw [bo_iff.mpr hin]
      rfl
theorem AA_sum (h : SW G S P PV L E m Z c p q) {k : Nat} : xs (fun i => AA G S P PV L m Z c p q i k) m = false := by
  by_cases hin : ins G S P PV L m Z c p q k
  · obtain ⟨a, b, hab, h0, hall⟩ := id hin
    rw [xs_ext (g := fun i => bo (mixd G S P PV L m Z c p q a b i)) (fun i _ => AA_at h h0 hab hin)]
    by_cases hex : ∃ i, i < m ∧ mixd G S P PV L m Z c p q a b i
    · obtain ⟨i, hi, hm⟩ := hex
      obtain ⟨R, R', r1, r2, r3, r4, r5, r6, r7⟩ := U5 h h0 hi hm
      have hne : R ≠ R' := fun e => h.2.2.2.2.2.2.1.2.2 (by rw [← r3, ← r4, e])
      rw [xs_two r1 r2 hne (fun l hl n1 n2 => bo_no.mpr fun e => by rcases r7 l hl e with e | e <;> contradiction), bo_iff.mpr r5, bo_iff.mpr r6]
      rfl
    · exact xs_0 fun i hi => bo_no.mpr fun e => hex ⟨i, hi, e⟩
  · exact xs_0 fun i _ => bo_no.mpr fun e => hin e.2.1
noncomputable def TT (G : xG) (S : Nat → Bool) (P : xG) (PV : Nat → Bool) (L : List (List Nat)) (m : Nat) (Z : Nat → xG) (c : Nat → Nat) (p q : Nat) (U : Nat → Bool) : Nat → Bool := fun k => U k ^^ xs (fun i => U i && AA G S P PV L m Z c p q i k) m
theorem Zs_sU (U : Nat → Bool) : sU (Zs G S P PV L m Z c p q) U m = sU Z (TT G S P PV L m Z c p q U) m := by
  funext x y
  show xs (fun i => U i && (Z i x y ^^ xs (fun k => AA G S P PV L m Z c p q i k && Z k x y) m)) m = xs (fun k => (U k ^^ xs (fun i => U i && AA G S P PV L m Z c p q i k) m) && Z k x y) m
  have e1 : xs (fun i => U i && (Z i x y ^^ xs (fun k => AA G S P PV L m Z c p q i k && Z k x y) m)) m = (xs (fun i => U i && Z i x y) m ^^ xs (fun i => xs (fun k => (U i && AA G S P PV L m Z c p q i k) && Z k x y) m) m) := by
    rw [← xs_xor]
    refine xs_ext fun i _ => ?_
    have : xs (fun k => (U i && AA G S P PV L m Z c p q i k) && Z k x y) m = (U i && xs (fun k => AA G S P PV L m Z c p q i k && Z k x y) m) := by
      rw [← xs_and]
      exact xs_ext fun k _ => Bool.and_assoc _ _ _
    rw [this]
    cases U i <;> simp
  have e2 : xs (fun k => (U k ^^ xs (fun i => U i && AA G S P PV L m Z c p q i k) m) && Z k x y) m = (xs (fun i => U i && Z i x y) m ^^ xs (fun k => xs (fun i => (U i && AA G S P PV L m Z c p q i k) && Z k x y) m) m) := by
    rw [← xs_xor]
    refine xs_ext fun k _ => ?_
    have : xs (fun i => (U i && AA G S P PV L m Z c p q i k) && Z k x y) m = (Z k x y && xs (fun i => U i && AA G S P PV L m Z c p q i k) m) := by
      rw [← xs_and]
      exact xs_ext fun i _ => Bool.and_comm _ _
    rw [this]
    cases Z k x y <;> simp
  rw [e1, e2, xs_swap]
theorem TT_TT (U : Nat → Bool) (k : Nat) : TT G S P PV L m Z c p q (TT G S P PV L m Z c p q U) k = U k := by
  have e : xs (fun i => TT G S P PV L m Z c p q U i && AA G S P PV L m Z c p q i k) m = xs (fun i => U i && AA G S P PV L m Z c p q i k) m := xs_ext fun i hi => by
    cases eA : AA G S P PV L m Z c p q i k with
    | false => simp
    | true =>
      have hni := (bo_iff.mp eA).1
      have : TT G S P PV L m Z c p q U i = U i := by
        show (U i ^^ xs _ m) = U i
        rw [xs_0 (fun j _ => ?_)]
        · simp
        · have : AA G S P PV L m Z c p q j i = false := bo_no.mpr fun e => hni e.2.1
          rw [this]; simp
      rw [this]
  show (TT G S P PV L m Z c p q U k ^^ xs _ m) = U k
  rw [e]
  show ((U k ^^ xs _ m) ^^ xs _ m) = U k
  cases U k <;> cases xs (fun i => U i && AA G S P PV L m Z c p q i k) m <;> rfl
theorem SWAP (h : SW G S P PV L E m Z c p q) : EXS G P L m (Zs G S P PV L m Z c p q) (cS G S P PV L m Z c p q) ∧ ∀ x y i, xX G S P PV L m Z c p q x y → i < m → Zs G S P PV L m Z c p q i x y = true → (c i = p ∧ cS G S P PV L m Z c p q i = q) ∨ (c i = q ∧ cS G S P PV L m Z c p q i = p) := by
  obtain ⟨hb, hS, hB, hI, hG, hX, ⟨hp, hq, hpq⟩, _⟩ := id h
  obtain ⟨f1, f2, f3, f4⟩ := hX.1
  have hside : ∀ x y i, ¬g1 G S P PV L m Z c p q x y → i < m → Z i x y = true → (c i = p ∧ cS G S P PV L m Z c p q i = q) ∨ (c i = q ∧ cS G S P PV L m Z c p q i = p) := fun x y i hx hi hZ => by
    have hni : ¬ins G S P PV L m Z c p q i := fun hin => hx (ins_g1 h hin hZ)
    unfold cS
    rw [bo_no.mpr hni]
    rcases ins_cls h hi hZ hni with e | e
    · exact Or.inl ⟨e, by simp [e]⟩
    · exact Or.inr ⟨e, by simp [e, fun z : q = p => hpq z.symm]⟩
  refine ⟨⟨⟨fun i hi => ?_, fun x y i hi hZ => ?_, fun X hX2 => ?_, fun U hU => ?_⟩, fun i hi => ?_, fun j hj => ?_⟩, fun x y i hx hi hZ => ?_⟩
  · exact ev_xr (f1 i hi) (sU_ev fun k hk _ => f1 k hk)
  · by_cases hg : g1 G S P PV L m Z c p q x y
    · obtain ⟨R, R', r1, r2, r3, r4⟩ := Zs_g h hg
      rw [r3 i hi] at hZ
      obtain ⟨j, hj, hne, hjZ, hu⟩ := f2 x y _ (sw_lt r1 r2 hi) hZ
      refine ⟨sw R R' j, sw_lt r1 r2 hj, fun e => hne ?_, ?_, fun k hk hkZ => ?_⟩
      · rw [← e, sw_sw]
      · rw [r3 _ (sw_lt r1 r2 hj), sw_sw]; exact hjZ
      · rw [r3 k hk] at hkZ
        rcases hu _ (sw_lt r1 r2 hk) hkZ with e | e
        · left; rw [← sw_sw R R' k, e, sw_sw]
        · right; rw [← e, sw_sw]
    · rw [Zs_x h hg] at hZ
      obtain ⟨j, hj, hne, hjZ, hu⟩ := f2 x y i hi hZ
      exact ⟨j, hj, hne, by rw [Zs_x h hg]; exact hjZ, fun k hk hkZ => hu k hk (by rw [Zs_x h hg] at hkZ; exact hkZ)⟩
  · obtain ⟨U, hU⟩ := f3 X hX2
    refine ⟨TT G S P PV L m Z c p q U, ?_⟩
    rw [Zs_sU, hU]
    exact sU_ext fun i _ => (TT_TT U i).symm
  · rw [Zs_sU] at hU
    have hc := f4 _ hU
    intro i j hi hj
    have key : ∀ k, k < m → U k = TT G S P PV L m Z c p q U i := fun k hk => by
      rw [← TT_TT (G := G) (S := S) (P := P) (PV := PV) (L := L) (m := m) (Z := Z) (c := c) (p := p) (q := q) U k]
      show (TT G S P PV L m Z c p q U k ^^ xs _ m) = _
      rw [hc k i hk hi]
      have : xs (fun l => TT G S P PV L m Z c p q U l && AA G S P PV L m Z c p q l k) m = false := by
        rw [xs_ext (g := fun l => TT G S P PV L m Z c p q U i && AA G S P PV L m Z c p q l k) (fun l hl => by rw [hc l i hl hi]), xs_and, AA_sum h]
        simp
      rw [this]
      simp
    rw [key i hi, key j hj]
  · have := hX.2.1 i hi
    unfold cS
    cases bo (ins G S P PV L m Z c p q i) with
    | true => exact this
    | false =>
      simp only [cond_false]
      split
      · exact hq
      · split
        · exact hp
        · exact this
  · rw [hX.2.2 j hj]
    funext x y
    show xs (fun i => cls c j i && Z i x y) m = xs (fun i => cls (cS G S P PV L m Z c p q) j i && Zs G S P PV L m Z c p q i x y) m
    by_cases hg : g1 G S P PV L m Z c p q x y
    · obtain ⟨R, R', r1, r2, r3, r4⟩ := Zs_g h hg
      rw [← xs_sw r1 r2 (fun i => cls c j i && Z i x y)]
      refine xs_ext fun i hi => ?_
      rw [r3 i hi]
      cases e : Z (sw R R' i) x y with
      | false => simp
      | true =>
        show (decide (_ = j) && _) = (decide (_ = j) && _)
        rw [r4 i hi e]
    · by_cases hGxy : G x y = true
      · obtain ⟨i, hi, hZ⟩ := SW_cov h hGxy
        obtain ⟨k, hk, hne, hkZ, hu⟩ := f2 x y i hi hZ
        have hP : P x y = false := by
          cases e : P x y with
          | false => rfl
          | true => exact absurd (g1_P h e) hg
        have hck : c k = c i := SW_A h hP hi hk hZ hkZ
        have hcs : cS G S P PV L m Z c p q k = cS G S P PV L m Z c p q i := by
          rcases hside x y i hg hi hZ with ⟨a1, a2⟩ | ⟨a1, a2⟩ <;> rcases hside x y k hg hk hkZ with ⟨b1, b2⟩ | ⟨b1, b2⟩
          · rw [a2, b2]
          · exact absurd (a1.symm.trans (hck.symm.trans b1)) hpq
          · exact absurd (b1.symm.trans (hck.trans a1)) hpq
          · rw [a2, b2]
        have t1 := tw_sum (cls c j) hi hk hne hZ hkZ hu
        have t2 := tw_sum (cls (cS G S P PV L m Z c p q) j) hi hk hne hZ hkZ hu
        have e3 : xs (fun i => cls (cS G S P PV L m Z c p q) j i && Zs G S P PV L m Z c p q i x y) m = xs (fun i => cls (cS G S P PV L m Z c p q) j i && Z i x y) m := xs_ext fun l _ => by rw [Zs_x h hg]
        rw [e3]
        show sU Z (cls c j) m x y = sU Z (cls (cS G S P PV L m Z c p q) j) m x y
        rw [t1, t2]
        unfold cls
        rw [hck, hcs]
        simp
      · have hno : ∀ i, i < m → Z i x y = false := fun i hi => by
          cases e : Z i x y with
          | false => rfl
          | true => exact absurd ((f1 i hi).1.2 x y e) hGxy
        rw [xs_0 (fun i hi => by rw [hno i hi]; simp), xs_0 (fun i hi => by rw [Zs_x h hg, hno i hi]; simp)]
  · have hg : ¬g1 G S P PV L m Z c p q x y := fun e => e.2 hx
    rw [Zs_x h hg] at hZ
    exact hside x y i hg hi hZ
end
