/-! families of even sets, each edge in two of them at most -/
def sU (Z : Nat → xG) (U : Nat → Bool) (m : Nat) : xG := fun x y => xs (fun i => U i && Z i x y) m
theorem sU_ext {Z : Nat → xG} {U V : Nat → Bool} {m : Nat} (h : ∀ i, i < m → U i = V i) : sU Z U m = sU Z V m := by
  funext x y
  exact xs_ext fun i hi => by rw [h i hi]
theorem sU_extZ {Z Z' : Nat → xG} {U : Nat → Bool} {m : Nat} (h : ∀ i, i < m → Z i = Z' i) : sU Z U m = sU Z' U m := by
  funext x y
  exact xs_ext fun i hi => by rw [h i hi]
theorem sU_xor (Z : Nat → xG) (U V : Nat → Bool) (m : Nat) : sU Z (fun i => U i ^^ V i) m = xr (sU Z U m) (sU Z V m) := by
  funext x y
  show xs _ m = (xs _ m ^^ xs _ m)
  rw [← xs_xor]
  exact xs_ext fun i _ => by dsimp only; cases U i <;> cases V i <;> cases Z i x y <;> rfl
theorem sU_none {Z : Nat → xG} {U : Nat → Bool} {m : Nat} (h : ∀ i, i < m → U i = false) : sU Z U m = x0 := by
  funext x y
  exact xs_0 fun i hi => by rw [h i hi]; rfl
theorem sU_one {Z : Nat → xG} {p m : Nat} (hp : p < m) : sU Z (fun i => decide (i = p)) m = Z p := by
  funext x y
  show xs _ m = _
  rw [xs_one hp (fun i _ hne => by simp [hne])]
  simp
/-- a functional over a sum -/
theorem sU_lin (Z : Nat → xG) (U : Nat → Bool) (m : Nat) (D : Nat → Bool) (v n : Nat) : xs (fun y => sU Z U m v y && D y) n = xs (fun i => U i && xs (fun y => Z i v y && D y) n) m := by
  have e : xs (fun y => sU Z U m v y && D y) n = xs (fun y => xs (fun i => U i && (Z i v y && D y)) m) n := xs_ext fun y _ => by
    show (xs _ m && D y) = _
    rw [Bool.and_comm, ← xs_and]
    exact xs_ext fun i _ => by cases U i <;> cases Z i v y <;> cases D y <;> rfl
  rw [e, xs_swap]
  exact xs_ext fun i _ => by rw [xs_and]
theorem sU_od (Z : Nat → xG) (U : Nat → Bool) (m v : Nat) : od (sU Z U m) v = xs (fun i => U i && od (Z i) v) m := by
  have := sU_lin Z U m (fun _ => true) v 10
  simp only [Bool.and_true] at this
  exact this
theorem sU_ev {G : xG} {Z : Nat → xG} {U : Nat → Bool} : ∀ {m : Nat}, (∀ i, i < m → U i = true → ev G (Z i)) → ev G (sU Z U m)
  | 0, _ => ev_x0 G
  | m + 1, h => by
    have ih := sU_ev (m := m) (fun i hi => h i (by omega))
    have e : sU Z U (m + 1) = xr (sU Z U m) (fun x y => U m && Z m x y) := rfl
    rw [e]
    refine ev_xr ih ?_
    cases hU : U m with
    | true => simp only [Bool.true_and]; exact h m (by omega) hU
    | false => simp only [Bool.false_and]; exact ev_x0 G
/-- weak: each edge in two at most, all even sets are sums -/
def two2 (Z : Nat → xG) (m : Nat) : Prop := ∀ x y i j k, i < j → j < k → k < m → Z i x y = true → Z j x y = true → Z k x y = true → False
def FW (G : xG) (m : Nat) (Z : Nat → xG) : Prop := (∀ i, i < m → ev G (Z i)) ∧ two2 Z m ∧ ∀ X, ev G X → ∃ U, X = sU Z U m
def PW (G : xG) : Prop := ∃ m Z, FW G m Z
/-- strong: each edge in none or two, one relation alone -/
def tw (Z : Nat → xG) (m : Nat) : Prop := ∀ x y i, i < m → Z i x y = true → ∃ j, j < m ∧ j ≠ i ∧ Z j x y = true ∧ ∀ k, k < m → Z k x y = true → k = i ∨ k = j
def rl (Z : Nat → xG) (m : Nat) : Prop := ∀ U, sU Z U m = x0 → ∀ i j, i < m → j < m → U i = U j
def FS (G : xG) (m : Nat) (Z : Nat → xG) : Prop := (∀ i, i < m → ev G (Z i)) ∧ tw Z m ∧ (∀ X, ev G X → ∃ U, X = sU Z U m) ∧ rl Z m
theorem two2_of {Z : Nat → xG} {m : Nat} (h : two2 Z m) {x y i j k : Nat} (hi : i < m) (hj : j < m) (hk : k < m) (h1 : Z i x y = true) (h2 : Z j x y = true) (h3 : Z k x y = true) : i = j ∨ i = k ∨ j = k := by
  refine Classical.byContradiction fun hno => ?_
  have n1 : i ≠ j := fun e => hno (Or.inl e)
  have n2 : i ≠ k := fun e => hno (Or.inr (Or.inl e))
  have n3 : j ≠ k := fun e => hno (Or.inr (Or.inr e))
  rcases Nat.lt_or_gt_of_ne n1 with a | a <;> rcases Nat.lt_or_gt_of_ne n2 with b | b <;> rcases Nat.lt_or_gt_of_ne n3 with c | c
  · exact h x y i j k a c hk h1 h2 h3
  · exact h x y i k j b c hj h1 h3 h2
  · omega
  · exact h x y k i j b a hj h3 h1 h2
  · exact h x y j i k a b hk h2 h1 h3
  · omega
  · exact h x y j k i c b hi h2 h3 h1
  · exact h x y k j i c a hi h3 h2 h1
theorem two2_mk {Z : Nat → xG} {m : Nat} (h : ∀ x y i j k, i < m → j < m → k < m → Z i x y = true → Z j x y = true → Z k x y = true → i = j ∨ i = k ∨ j = k) : two2 Z m := fun x y i j k h1 h2 h3 a b c => by
  rcases h x y i j k (by omega) (by omega) h3 a b c with e | e | e <;> omega
theorem tw_two2 {Z : Nat → xG} {m : Nat} (h : tw Z m) : two2 Z m := two2_mk fun x y i j k hi hj hk h1 h2 h3 => by
  obtain ⟨l, _, _, _, h4⟩ := h x y i hi h1
  have a := h4 j hj h2
  have b := h4 k hk h3
  omega
theorem FS_PW {G : xG} {m : Nat} {Z : Nat → xG} (h : FS G m Z) : PW G := ⟨m, Z, h.1, tw_two2 h.2.1, h.2.2.1⟩
/-- the sum of all is nothing -/
theorem tw_all {Z : Nat → xG} {m : Nat} (h : tw Z m) : sU Z (fun _ => true) m = x0 := by
  funext x y
  show xs _ m = false
  cases e : xs (fun i => true && Z i x y) m with
  | false => rfl
  | true =>
    exfalso
    obtain ⟨i, hi, h1⟩ := xs_ex e
    rw [Bool.true_and] at h1
    obtain ⟨j, hj, hne, h2, h3⟩ := h x y i hi h1
    rw [xs_two hi hj (fun z => hne z.symm) (fun k hk n1 n2 => by
      rw [Bool.true_and]
      cases e2 : Z k x y with
      | false => rfl
      | true => rcases h3 k hk e2 with q | q <;> contradiction), h1, h2] at e
    cases e
theorem sU_compl {Z : Nat → xG} {m : Nat} (h : tw Z m) (U : Nat → Bool) : sU Z (fun i => !U i) m = sU Z U m := by
  have e : (fun i => !U i) = fun i => true ^^ U i := by funext i; simp
  rw [e, sU_xor Z (fun _ => true) U m, tw_all h, xr_0l]
/-- in how many of a set of faces an edge of two faces lies -/
theorem tw_sum {Z : Nat → xG} {m : Nat} {x y i j : Nat} (U : Nat → Bool) (hi : i < m) (hj : j < m) (hne : j ≠ i) (h1 : Z i x y = true) (h2 : Z j x y = true) (h3 : ∀ k, k < m → Z k x y = true → k = i ∨ k = j) : sU Z U m x y = (U i ^^ U j) := by
  show xs _ m = _
  rw [xs_two hi hj (fun z => hne z.symm) (fun k hk n1 n2 => by
    cases e2 : Z k x y with
    | false => simp
    | true => rcases h3 k hk e2 with q | q <;> contradiction), h1, h2]
  simp
/-- without an edge -/
def rm (G : xG) (a b : Nat) : xG := fun x y => G x y && !eg a b x y
theorem rm_iff {G : xG} {a b x y : Nat} : rm G a b x y = true ↔ G x y = true ∧ eg a b x y = false := by simp [rm]
theorem eg_sym (a b x y : Nat) : eg a b x y = eg a b y x := by
  rw [Bool.eq_iff_iff, eg_iff, eg_iff]
  constructor <;> rintro (⟨h1, h2⟩ | ⟨h1, h2⟩)
  · exact Or.inr ⟨h2, h1⟩
  · exact Or.inl ⟨h2, h1⟩
  · exact Or.inr ⟨h2, h1⟩
  · exact Or.inl ⟨h2, h1⟩
theorem ev_rm {G X : xG} {a b : Nat} (h : ev G X) (h1 : X a b = false) : ev (rm G a b) X := by
  refine ⟨⟨h.1.1, fun x y q => rm_iff.mpr ⟨h.1.2 x y q, ?_⟩⟩, h.2⟩
  cases e : eg a b x y with
  | false => rfl
  | true =>
    rcases eg_iff.mp e with ⟨rfl, rfl⟩ | ⟨rfl, rfl⟩
    · rw [h1] at q; cases q
    · rw [h.1.1, h1] at q; cases q
theorem ev_rm' {G X : xG} {a b : Nat} (h : ev (rm G a b) X) : ev G X ∧ X a b = false := by
  refine ⟨ev_mono (fun x y q => (rm_iff.mp q).1) h, ?_⟩
  cases e : X a b with
  | false => rfl
  | true =>
    have := (rm_iff.mp (h.1.2 a b e)).2
    rw [show eg a b a b = true from eg_iff.mpr (Or.inl ⟨rfl, rfl⟩)] at this
    cases this
theorem sU_at {Z : Nat → xG} {U : Nat → Bool} {m a b : Nat} : sU Z U m a b = xs (fun i => U i && Z i a b) m := rfl
/-- weak families pass to a graph without one edge -/
theorem PW_rm {G : xG} {a b : Nat} (h : PW G) : PW (rm G a b) := by
  obtain ⟨m, Z, h1, h2, h3⟩ := h
  by_cases h0 : ∃ i, i < m ∧ Z i a b = true
  · obtain ⟨i, hi, hia⟩ := h0
    by_cases hj0 : ∃ j, j < m ∧ j ≠ i ∧ Z j a b = true
    · obtain ⟨j, hj, hji, hja⟩ := hj0
      -- i and j are joined
      refine ⟨m, fun k => if k = i then xr (Z i) (Z j) else if k = j then x0 else Z k, fun k hk => ?_, two2_mk fun x y k l n hk hl hn q1 q2 q3 => ?_, fun X hX => ?_⟩
      · have hoth : k ≠ i → k ≠ j → Z k a b = false := fun n1 n2 => by
          cases e : Z k a b with
          | false => rfl
          | true => rcases two2_of h2 hi hj hk hia hja e with q | q | q <;> omega
        dsimp only
        split
        · refine ev_rm (ev_xr (h1 i hi) (h1 j hj)) ?_
          show (Z i a b ^^ Z j a b) = false
          rw [hia, hja]; rfl
        · split
          · exact ev_x0 _
          · exact ev_rm (h1 k hk) (hoth (by assumption) (by assumption))
      · have key : ∀ k, k < m → (if k = i then xr (Z i) (Z j) else if k = j then x0 else Z k) x y = true → k ≠ j ∧ (k = i → Z i x y = true ∨ Z j x y = true) ∧ (k ≠ i → Z k x y = true) := by
          intro k hk q
          split at q
          · next e =>
            refine ⟨by omega, fun _ => ?_, fun n => absurd e n⟩
            simp only [xr] at q
            cases hz : Z i x y with
            | true => exact Or.inl rfl
            | false => rw [hz, Bool.false_xor] at q; exact Or.inr q
          · next e =>
            split at q
            · cases q
            · next e2 => exact ⟨e2, fun n => absurd n e, fun _ => q⟩
        obtain ⟨a1, b1, c1⟩ := key k hk q1
        obtain ⟨a2, b2, c2⟩ := key l hl q2
        obtain ⟨a3, b3, c3⟩ := key n hn q3
        by_cases e1 : k = i
        · by_cases e2 : l = i
          · omega
          · by_cases e3 : n = i
            · omega
            · rcases b1 e1 with q | q
              · rcases two2_of h2 hi hl hn q (c2 e2) (c3 e3) with z | z | z <;> omega
              · rcases two2_of h2 hj hl hn q (c2 e2) (c3 e3) with z | z | z <;> omega
        · by_cases e2 : l = i
          · by_cases e3 : n = i
            · omega
            · rcases b2 e2 with q | q
              · rcases two2_of h2 hi hk hn q (c1 e1) (c3 e3) with z | z | z <;> omega
              · rcases two2_of h2 hj hk hn q (c1 e1) (c3 e3) with z | z | z <;> omega
          · by_cases e3 : n = i
            · rcases b3 e3 with q | q
              · rcases two2_of h2 hi hk hl q (c1 e1) (c2 e2) with z | z | z <;> omega
              · rcases two2_of h2 hj hk hl q (c1 e1) (c2 e2) with z | z | z <;> omega
            · exact two2_of h2 hk hl hn (c1 e1) (c2 e2) (c3 e3)
      · obtain ⟨hX1, hX2⟩ := ev_rm' hX
        obtain ⟨U, hU⟩ := h3 X hX1
        have hij : U i = U j := by
          rw [hU, sU_at, xs_two hi hj (fun z => hji z.symm) (fun k hk n1 n2 => by
            cases e : Z k a b with
            | false => simp
            | true => rcases two2_of h2 hi hj hk hia hja e with q | q | q <;> omega), hia, hja] at hX2
          revert hX2
          cases U i <;> cases U j <;> simp
        refine ⟨U, ?_⟩
        rw [hU]
        funext x y
        have e1 : xs (fun k => U k && (if k = i then xr (Z i) (Z j) else if k = j then x0 else Z k) x y) m = xs (fun k => (U k && Z k x y) ^^ ((decide (k = i) && (U j && Z j x y)) ^^ (decide (k = j) && (U j && Z j x y)))) m := xs_ext fun k _ => by
          by_cases e1 : k = i
          · subst e1
            have : ¬ k = j := fun z => hji z.symm
            simp only [if_true, decide_true, decide_eq_false this, Bool.true_and, Bool.false_and, Bool.xor_false, xr]
            rw [hij]
            cases U j <;> cases Z k x y <;> cases Z j x y <;> rfl
          · by_cases e2 : k = j
            · subst e2
              rw [if_neg e1, if_pos rfl]
              simp only [e1, decide_false, decide_true, Bool.false_and, Bool.true_and, Bool.false_xor, x0, Bool.and_false]
              simp
            · simp [e1, e2]
        show _ = xs _ m
        have a1 : xs (fun k => decide (k = i) && (U j && Z j x y)) m = (U j && Z j x y) := by
          rw [xs_one hi (fun k _ n => by simp [n])]
          simp
        have a2 : xs (fun k => decide (k = j) && (U j && Z j x y)) m = (U j && Z j x y) := by
          rw [xs_one hj (fun k _ n => by simp [n])]
          simp
        rw [e1, xs_xor, xs_xor, a1, a2]
        simp only [bne_self_eq_false, Bool.xor_false]
        rfl
    · -- i alone
      have hoth : ∀ k, k < m → k ≠ i → Z k a b = false := fun k hk n => by
        cases e : Z k a b with
        | false => rfl
        | true => exact absurd ⟨k, hk, n, e⟩ hj0
      refine ⟨m, fun k => if k = i then x0 else Z k, fun k hk => ?_, two2_mk fun x y k l n hk hl hn q1 q2 q3 => ?_, fun X hX => ?_⟩
      · dsimp only
        split
        · exact ev_x0 _
        · exact ev_rm (h1 k hk) (hoth k hk (by assumption))
      · have key : ∀ k, (if k = i then x0 else Z k) x y = true → Z k x y = true := fun k q => by
          split at q
          · cases q
          · exact q
        exact two2_of h2 hk hl hn (key k q1) (key l q2) (key n q3)
      · obtain ⟨hX1, hX2⟩ := ev_rm' hX
        obtain ⟨U, hU⟩ := h3 X hX1
        have hUi : U i = false := by
          rw [hU, sU_at, xs_one hi (fun k hk n => by rw [hoth k hk n]; simp), hia] at hX2
          simpa using hX2
        refine ⟨U, ?_⟩
        rw [hU]
        funext x y
        exact xs_ext fun k _ => by
          by_cases e : k = i
          · subst e; rw [hUi]; rfl
          · show (U k && Z k x y) = (U k && (if k = i then x0 else Z k) x y)
            rw [if_neg e]
  · have hoth : ∀ k, k < m → Z k a b = false := fun k hk => by
      cases e : Z k a b with
      | false => rfl
      | true => exact absurd ⟨k, hk, e⟩ h0
    exact ⟨m, Z, fun k hk => ev_rm (h1 k hk) (hoth k hk), h2, fun X hX => h3 X (ev_rm' hX).1⟩
theorem PW_ext {G G' : xG} (h : ∀ x y, G x y = G' x y) (hp : PW G) : PW G' := by
  have : G = G' := by funext x y; exact h x y
  rw [← this]; exact hp
/-- how many pairs are in one and not in the other -/
def dif (G G' : xG) : Nat := sm (fun x => cnt (fun y => G x y && !G' x y) 10) 10
theorem PW_sub {G' : xG} (hs' : ∀ x y, G' x y = G' y x) : ∀ (n : Nat) (G : xG), gok G → (∀ x y, G' x y = true → G x y = true) → dif G G' ≤ n → PW G → PW G' := by
  intro n
  induction n with
  | zero =>
    intro G hg hsub hd hp
    refine PW_ext (fun x y => ?_) hp
    cases hG : G x y with
    | false =>
      cases hG' : G' x y with
      | false => rfl
      | true => rw [hsub x y hG'] at hG; cases hG
    | true =>
      cases hG' : G' x y with
      | true => rfl
      | false =>
        exfalso
        obtain ⟨hx, hy⟩ := hg.2.2 x y hG
        have h1 : sm (fun _ => 0) 10 < dif G G' := sm_lt (fun i _ => Nat.zero_le _) ⟨x, hx, Nat.lt_of_le_of_lt (Nat.zero_le (cnt (fun _ => false) 10)) (cnt_lt (S := fun _ => false) (fun v _ q => by cases q) ⟨y, hy, rfl, by rw [hG, hG']; rfl⟩)⟩
        omega
  | succ n ih =>
    intro G hg hsub hd hp
    by_cases he : ∃ x y, G x y = true ∧ G' x y = false
    · obtain ⟨a, b, h1, h2⟩ := he
      obtain ⟨ha, hb⟩ := hg.2.2 a b h1
      have hab : G' b a = false := by rw [hs']; exact h2
      have hsub2 : ∀ x y, G' x y = true → rm G a b x y = true := fun x y q => rm_iff.mpr ⟨hsub x y q, by
        cases e : eg a b x y with
        | false => rfl
        | true =>
          rcases eg_iff.mp e with ⟨rfl, rfl⟩ | ⟨rfl, rfl⟩
          · rw [h2] at q; cases q
          · rw [hab] at q; cases q⟩
      have hg2 : gok (rm G a b) := ⟨fun x y => by unfold rm; rw [hg.1 x y, eg_sym], fun v => by unfold rm; rw [hg.2.1]; rfl, fun x y q => hg.2.2 x y (rm_iff.mp q).1⟩
      have hlt : dif (rm G a b) G' < dif G G' := by
        refine sm_lt (fun i _ => cnt_mono fun v _ q => ?_) ⟨a, ha, cnt_lt (fun v _ q => ?_) ⟨b, hb, ?_, by rw [h1, h2]; rfl⟩⟩
        · rw [Bool.and_eq_true] at q
          rw [(rm_iff.mp q.1).1, q.2]; rfl
        · rw [Bool.and_eq_true] at q
          rw [(rm_iff.mp q.1).1, q.2]; rfl
        · unfold rm
          rw [show eg a b a b = true from eg_iff.mpr (Or.inl ⟨rfl, rfl⟩)]
          simp
      exact ih _ hg2 hsub2 (by omega) (PW_rm hp)
    · refine PW_ext (fun x y => ?_) hp
      cases hG : G x y with
      | false =>
        cases hG' : G' x y with
        | false => rfl
        | true => rw [hsub x y hG'] at hG; cases hG
      | true =>
        cases hG' : G' x y with
        | true => rfl
        | false => exact absurd ⟨x, y, hG, hG'⟩ he
theorem PW_mono {G G' : xG} (hg : gok G) (hs' : ∀ x y, G' x y = G' y x) (hsub : ∀ x y, G' x y = true → G x y = true) (hp : PW G) : PW G' := PW_sub hs' _ G hg hsub (Nat.le_refl _) hp
