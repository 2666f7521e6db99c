/-! reaching, counted and by closure -/
def anyv (P : Nat → Bool) : Nat → Bool
  | 0 => false
  | n + 1 => anyv P n || P n
theorem anyv_iff {P : Nat → Bool} : ∀ {n : Nat}, anyv P n = true ↔ ∃ u, u < n ∧ P u = true
  | 0 => by simp [anyv]
  | n + 1 => by
    unfold anyv
    rw [Bool.or_eq_true, anyv_iff]
    constructor
    · rintro (⟨u, h1, h2⟩ | h)
      · exact ⟨u, by omega, h2⟩
      · exact ⟨n, by omega, h⟩
    · rintro ⟨u, h1, h2⟩
      by_cases e : u = n
      · subst e; exact Or.inr h2
      · exact Or.inl ⟨u, by omega, h2⟩
theorem anyv_ext {P Q : Nat → Bool} {n : Nat} (h : ∀ u, u < n → P u = Q u) : anyv P n = anyv Q n := by
  cases hq : anyv Q n with
  | true =>
    obtain ⟨u, h1, h2⟩ := anyv_iff.mp hq
    exact anyv_iff.mpr ⟨u, h1, by rw [h u h1]; exact h2⟩
  | false =>
    cases hp : anyv P n with
    | false => rfl
    | true =>
      obtain ⟨u, h1, h2⟩ := anyv_iff.mp hp
      rw [anyv_iff.mpr ⟨u, h1, by rw [← h u h1]; exact h2⟩] at hq
      cases hq
/-- how many below n -/
def cnt (S : Nat → Bool) : Nat → Nat
  | 0 => 0
  | n + 1 => cnt S n + (bif S n then 1 else 0)
theorem cnt_le (S : Nat → Bool) : ∀ n, cnt S n ≤ n
  | 0 => Nat.le_refl _
  | n + 1 => by
    have := cnt_le S n
    unfold cnt
    cases S n <;> simp only [cond_true, cond_false] <;> omega
theorem cnt_mono {S T : Nat → Bool} : ∀ {n : Nat}, (∀ v, v < n → S v = true → T v = true) → cnt S n ≤ cnt T n
  | 0, _ => Nat.le_refl _
  | n + 1, h => by
    have ih := cnt_mono (n := n) (fun v hv => h v (by omega))
    unfold cnt
    cases hS : S n with
    | false => simp only [cond_false]; omega
    | true => rw [h n (by omega) hS]; simp only [cond_true]; omega
theorem cnt_lt {S T : Nat → Bool} : ∀ {n : Nat}, (∀ v, v < n → S v = true → T v = true) → (∃ v, v < n ∧ S v = false ∧ T v = true) → cnt S n < cnt T n
  | 0, _, ⟨v, h, _⟩ => by omega
  | n + 1, h, ⟨v, h1, h2, h3⟩ => by
    unfold cnt
    by_cases e : v = n
    · subst e
      have := cnt_mono (S := S) (T := T) (n := v) (fun u hu => h u (by omega))
      rw [h2, h3]
      simp only [cond_true, cond_false]
      omega
    · have ih := cnt_lt (n := n) (fun u hu => h u (by omega)) ⟨v, by omega, h2, h3⟩
      cases hS : S n with
      | false => simp only [cond_false]; omega
      | true => rw [h n (by omega) hS]; simp only [cond_true]; omega
theorem cnt_all {S : Nat → Bool} : ∀ {n : Nat}, n ≤ cnt S n → ∀ v, v < n → S v = true
  | 0, _, v, h => by omega
  | n + 1, h, v, hv => by
    unfold cnt at h
    have := cnt_le S n
    cases hS : S n with
    | false => rw [hS] at h; simp only [cond_false] at h; omega
    | true =>
      rw [hS] at h
      simp only [cond_true] at h
      by_cases e : v = n
      · subst e; exact hS
      · exact cnt_all (n := n) (by omega) v (by omega)
theorem cnt_ext {S T : Nat → Bool} : ∀ {n : Nat}, (∀ v, v < n → S v = T v) → cnt S n = cnt T n
  | 0, _ => rfl
  | n + 1, h => by
    unfold cnt
    rw [cnt_ext (n := n) (fun v hv => h v (by omega)), h n (by omega)]
/-- the neighbors of a set -/
def nb (G : Nat → Nat → Bool) (X : Nat → Bool) : Nat → Bool := fun v => anyv (fun u => X u && G u v) 10
def rst (G : Nat → Nat → Bool) (A X : Nat → Bool) : Nat → Bool := fun v => X v || (nb G X v && A v)
def rchn (G : Nat → Nat → Bool) (A : Nat → Bool) : Nat → (Nat → Bool) → Nat → Bool
  | 0, X => X
  | n + 1, X => rchn G A n (rst G A X)
/-- what is reached inside A from what of X lies in A -/
def rch (G : Nat → Nat → Bool) (A X : Nat → Bool) : Nat → Bool := rchn G A 10 (fun v => X v && A v)
theorem nb_iff {G : Nat → Nat → Bool} {X : Nat → Bool} {v : Nat} : nb G X v = true ↔ ∃ u, u < 10 ∧ X u = true ∧ G u v = true := by
  unfold nb
  rw [anyv_iff]
  simp only [Bool.and_eq_true]
theorem nb_ext {G : Nat → Nat → Bool} {X Y : Nat → Bool} (h : ∀ v, v < 10 → X v = Y v) (v : Nat) : nb G X v = nb G Y v := anyv_ext fun u hu => by rw [h u hu]
theorem rst_ext {G : Nat → Nat → Bool} {A X Y : Nat → Bool} (h : ∀ v, v < 10 → X v = Y v) : ∀ v, v < 10 → rst G A X v = rst G A Y v := fun v hv => by
  unfold rst
  rw [h v hv, nb_ext h v]
theorem rchn_ext {G : Nat → Nat → Bool} {A : Nat → Bool} : ∀ (n : Nat) {X Y : Nat → Bool}, (∀ v, v < 10 → X v = Y v) → ∀ v, v < 10 → rchn G A n X v = rchn G A n Y v
  | 0, _, _, h => h
  | n + 1, _, _, h => rchn_ext n (rst_ext h)
theorem rchn_fix {G : Nat → Nat → Bool} {A X : Nat → Bool} (h : ∀ v, v < 10 → rst G A X v = X v) : ∀ (n : Nat) (v : Nat), v < 10 → rchn G A n X v = X v
  | 0, _, _ => rfl
  | n + 1, v, hv => by
    unfold rchn
    rw [rchn_ext n h v hv]
    exact rchn_fix h n v hv
theorem rchn_add {G : Nat → Nat → Bool} {A : Nat → Bool} : ∀ (n m : Nat) (X : Nat → Bool), rchn G A (n + m) X = rchn G A m (rchn G A n X)
  | 0, m, X => by rw [Nat.zero_add]; rfl
  | n + 1, m, X => by
    rw [show n + 1 + m = n + m + 1 by omega]
    show rchn G A (n + m) (rst G A X) = rchn G A m (rchn G A n (rst G A X))
    exact rchn_add n m _
theorem rchn_sub {G : Nat → Nat → Bool} {A : Nat → Bool} : ∀ (n : Nat) (X : Nat → Bool) (v : Nat), X v = true → rchn G A n X v = true
  | 0, _, _, h => h
  | n + 1, X, v, h => rchn_sub n _ v (by unfold rst; rw [h]; rfl)
theorem rchn_in {G : Nat → Nat → Bool} {A : Nat → Bool} : ∀ (n : Nat) (X : Nat → Bool), (∀ v, X v = true → A v = true) → ∀ v, rchn G A n X v = true → A v = true
  | 0, _, h => h
  | n + 1, X, h => rchn_in n _ (fun v hv => by
      unfold rst at hv
      rw [Bool.or_eq_true, Bool.and_eq_true] at hv
      rcases hv with hv | hv
      · exact h v hv
      · exact hv.2)
theorem rchn_big (G : Nat → Nat → Bool) (A : Nat → Bool) : ∀ (n : Nat) (X : Nat → Bool), (∀ v, v < 10 → rst G A (rchn G A n X) v = rchn G A n X v) ∨ n ≤ cnt (rchn G A n X) 10
  | 0, X => Or.inr (Nat.zero_le _)
  | n + 1, X => by
    have e : rchn G A (n + 1) X = rst G A (rchn G A n X) := by rw [rchn_add n 1 X]; rfl
    rcases rchn_big G A n X with h | h
    · refine Or.inl (fun v hv => ?_)
      rw [e]
      exact rst_ext h v hv
    · by_cases q : ∀ v, v < 10 → rst G A (rchn G A n X) v = rchn G A n X v
      · refine Or.inl (fun v hv => ?_)
        rw [e]
        exact rst_ext q v hv
      · refine Or.inr ?_
        rw [e]
        have sub : ∀ v, v < 10 → rchn G A n X v = true → rst G A (rchn G A n X) v = true := fun v _ hv => by unfold rst; rw [hv]; rfl
        have ex : ∃ v, v < 10 ∧ rchn G A n X v = false ∧ rst G A (rchn G A n X) v = true := by
          refine Decidable.byContradiction (fun z => q (fun v hv => ?_))
          cases h1 : rchn G A n X v with
          | true => exact sub v hv h1
          | false =>
            cases h2 : rst G A (rchn G A n X) v with
            | false => rfl
            | true => exact absurd ⟨v, hv, h1, h2⟩ z
        have := cnt_lt sub ex
        omega
theorem rch_fix (G : Nat → Nat → Bool) (A X : Nat → Bool) : ∀ v, v < 10 → rst G A (rch G A X) v = rch G A X v := by
  rcases rchn_big G A 10 (fun v => X v && A v) with h | h
  · exact h
  · intro v hv
    have h1 : rch G A X v = true := cnt_all (S := rch G A X) h v hv
    unfold rst
    rw [h1]
    rfl
theorem rch_in {G : Nat → Nat → Bool} {A X : Nat → Bool} {v : Nat} (h : rch G A X v = true) : A v = true := rchn_in 10 _ (fun v hv => by rw [Bool.and_eq_true] at hv; exact hv.2) v h
theorem rch_start {G : Nat → Nat → Bool} {A X : Nat → Bool} {v : Nat} (h : X v = true) (hA : A v = true) : rch G A X v = true := rchn_sub 10 _ v (by rw [h, hA]; rfl)
theorem rch_step {G : Nat → Nat → Bool} {A X : Nat → Bool} {u v : Nat} (hu : u < 10) (hv : v < 10) (h : rch G A X u = true) (hg : G u v = true) (hA : A v = true) : rch G A X v = true := by
  rw [← rch_fix G A X v hv]
  unfold rst
  rw [nb_iff.mpr ⟨u, hu, h, hg⟩, hA]
  simp
theorem rch_ind {G : Nat → Nat → Bool} {A X : Nat → Bool} (P : Nat → Prop) (h0 : ∀ v, v < 10 → X v = true → A v = true → P v) (hs : ∀ u v, u < 10 → v < 10 → P u → G u v = true → A v = true → P v) : ∀ v, v < 10 → rch G A X v = true → P v := by
  have key : ∀ (n : Nat) (Y : Nat → Bool), (∀ v, v < 10 → Y v = true → P v) → ∀ v, v < 10 → rchn G A n Y v = true → P v := by
    intro n
    induction n with
    | zero => exact fun Y h => h
    | succ n ih =>
      intro Y h
      refine ih _ (fun v hv q => ?_)
      unfold rst at q
      rw [Bool.or_eq_true, Bool.and_eq_true] at q
      rcases q with q | ⟨q1, q2⟩
      · exact h v hv q
      · obtain ⟨u, a, b, c⟩ := nb_iff.mp q1
        exact hs u v a hv (h u a b) c q2
  exact key 10 _ (fun v hv q => by rw [Bool.and_eq_true] at q; exact h0 v hv q.1 q.2)
theorem rch_ext {G G' : Nat → Nat → Bool} {A A' X X' : Nat → Bool} (hG : ∀ u v, u < 10 → v < 10 → G u v = G' u v) (hA : ∀ v, v < 10 → A v = A' v) (hX : ∀ v, v < 10 → X v = X' v) : ∀ v, v < 10 → rch G A X v = rch G' A' X' v := by
  have h1 : ∀ {G G' : Nat → Nat → Bool} {A A' X X' : Nat → Bool}, (∀ u v, u < 10 → v < 10 → G u v = G' u v) → (∀ v, v < 10 → A v = A' v) → (∀ v, v < 10 → X v = X' v) → ∀ v, v < 10 → rch G A X v = true → rch G' A' X' v = true := by
    intro G G' A A' X X' hG hA hX
    refine rch_ind _ (fun v hv a b => rch_start (by rw [← hX v hv]; exact a) (by rw [← hA v hv]; exact b)) (fun u v hu hv a b c => rch_step hu hv a (by rw [← hG u v hu hv]; exact b) (by rw [← hA v hv]; exact c))
  intro v hv
  cases h : rch G' A' X' v with
  | true => exact h1 (fun u v a b => (hG u v a b).symm) (fun v a => (hA v a).symm) (fun v a => (hX v a).symm) v hv h
  | false =>
    cases h2 : rch G A X v with
    | false => rfl
    | true => rw [h1 hG hA hX v hv h2] at h; cases h
/-- from one to the other inside A -/
def con (G : Nat → Nat → Bool) (A : Nat → Bool) (x y : Nat) : Prop := rch G A (fun v => decide (v = x)) y = true
theorem con_in {G : Nat → Nat → Bool} {A : Nat → Bool} {x y : Nat} (h : con G A x y) : A y = true := rch_in h
theorem con_rfl {G : Nat → Nat → Bool} {A : Nat → Bool} {x : Nat} (h : A x = true) : con G A x x := rch_start (by simp) h
theorem con_step {G : Nat → Nat → Bool} {A : Nat → Bool} {x y z : Nat} (h : con G A x y) (hy : y < 10) (hz : z < 10) (hg : G y z = true) (hA : A z = true) : con G A x z := rch_step hy hz h hg hA
theorem con_ind {G : Nat → Nat → Bool} {A : Nat → Bool} {x : Nat} (P : Nat → Prop) (h0 : A x = true → P x) (hs : ∀ u v, u < 10 → v < 10 → P u → G u v = true → A v = true → P v) {y : Nat} (hy : y < 10) (h : con G A x y) : P y :=
  rch_ind P (fun v _ a b => by have := of_decide_eq_true a; subst this; exact h0 b) hs y hy h
theorem con_trans {G : Nat → Nat → Bool} {A : Nat → Bool} {x y z : Nat} (h1 : con G A x y) (h2 : con G A y z) (hz : z < 10) : con G A x z :=
  con_ind (fun v => con G A x v) (fun _ => h1) (fun u v a b c d e => con_step c a b d e) hz h2
theorem con_start {G : Nat → Nat → Bool} {A : Nat → Bool} {x y : Nat} (hx : x < 10) (hy : y < 10) (h : con G A x y) : A x = true := by
  refine Decidable.byContradiction (fun z => ?_)
  exact con_ind (G := G) (A := A) (x := x) (fun _ => False) (fun q => z q) (fun _ _ _ _ q _ _ => q) hy h
theorem con_sym {G : Nat → Nat → Bool} {A : Nat → Bool} (hs : ∀ u v, G u v = G v u) {x y : Nat} (hx : x < 10) (hy : y < 10) (h : con G A x y) : con G A y x := by
  have hAx := con_start hx hy h
  have key : A y = true ∧ con G A y x := con_ind (fun v => A v = true ∧ con G A v x) (fun q => ⟨q, con_rfl q⟩) (fun u v hu hv q hg hA => ⟨hA, by
    have h1 : con G A v u := con_step (con_rfl hA) hv hu (by rw [hs]; exact hg) q.1
    exact con_trans h1 q.2 hx⟩) hy h
  exact key.2
theorem con_mono {G : Nat → Nat → Bool} {A B : Nat → Bool} (hAB : ∀ v, v < 10 → A v = true → B v = true) {x y : Nat} (hx : x < 10) (hy : y < 10) (h : con G A x y) : con G B x y :=
  con_ind (fun v => con G B x v) (fun q => con_rfl (hAB x hx q)) (fun u v a b c d e => con_step c a b d (hAB v b e)) hy h
theorem rch_con {G : Nat → Nat → Bool} {A X : Nat → Bool} {y : Nat} (hy : y < 10) : rch G A X y = true ↔ ∃ x, x < 10 ∧ X x = true ∧ A x = true ∧ con G A x y := by
  constructor
  · intro h
    exact rch_ind (fun v => ∃ x, x < 10 ∧ X x = true ∧ A x = true ∧ con G A x v) (fun v hv a b => ⟨v, hv, a, b, con_rfl b⟩) (fun u v hu hv ⟨x, a, b, c, d⟩ e f => ⟨x, a, b, c, con_step d hu hv e f⟩) y hy h
  · rintro ⟨x, a, b, c, d⟩
    exact con_ind (fun v => rch G A X v = true) (fun _ => rch_start b c) (fun u v hu hv q e f => rch_step hu hv q e f) hy d
