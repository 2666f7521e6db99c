/-! shortest paths, layer by layer from the targets -/
/-- the layer k and what is left of A behind it -/
def lyr (H : Nat → Nat → Bool) (A T : Nat → Bool) : Nat → (Nat → Bool) × (Nat → Bool)
  | 0 => (T, A)
  | k + 1 => (fun v => nb H (lyr H A T k).1 v && (lyr H A T k).2 v, fun v => (lyr H A T k).2 v && !(nb H (lyr H A T k).1 v && (lyr H A T k).2 v))
def lay (H : Nat → Nat → Bool) (A T : Nat → Bool) (k : Nat) : Nat → Bool := (lyr H A T k).1
def lft (H : Nat → Nat → Bool) (A T : Nat → Bool) (k : Nat) : Nat → Bool := (lyr H A T k).2
section
variable {H : Nat → Nat → Bool} {A T : Nat → Bool}
theorem lay_0 : lay H A T 0 = T := rfl
theorem lay_s {k v : Nat} : lay H A T (k + 1) v = (nb H (lay H A T k) v && lft H A T k v) := rfl
theorem lft_s {k v : Nat} : lft H A T (k + 1) v = (lft H A T k v && !lay H A T (k + 1) v) := rfl
theorem lft_A : ∀ {k v : Nat}, lft H A T k v = true → A v = true
  | 0, _, h => h
  | k + 1, v, h => by
    rw [lft_s, Bool.and_eq_true] at h
    exact lft_A h.1
theorem lay_A {k v : Nat} (hk : 1 ≤ k) (h : lay H A T k v = true) : A v = true := by
  obtain ⟨j, rfl⟩ : ∃ j, k = j + 1 := ⟨k - 1, by omega⟩
  rw [lay_s, Bool.and_eq_true] at h
  exact lft_A h.2
theorem lft_no : ∀ {k v : Nat}, lft H A T k v = true → ∀ j, 1 ≤ j → j ≤ k → lay H A T j v = false
  | 0, _, _, j, h1, h2 => by omega
  | k + 1, v, h, j, h1, h2 => by
    rw [lft_s, Bool.and_eq_true] at h
    by_cases e : j = k + 1
    · subst e
      simpa using h.2
    · exact lft_no h.1 j h1 (by omega)
theorem lay_apart {i j v : Nat} (hi : 1 ≤ i) (hij : i < j) (h : lay H A T j v = true) : lay H A T i v = false := by
  obtain ⟨m, rfl⟩ : ∃ m, j = m + 1 := ⟨j - 1, by omega⟩
  rw [lay_s, Bool.and_eq_true] at h
  exact lft_no h.2 i hi (by omega)
theorem lft_or : ∀ {k v : Nat}, A v = true → lft H A T k v = true ∨ ∃ j, 1 ≤ j ∧ j ≤ k ∧ lay H A T j v = true
  | 0, _, h => Or.inl h
  | k + 1, v, h => by
    rcases lft_or (k := k) h with q | ⟨j, q1, q2, q3⟩
    · cases e : lay H A T (k + 1) v with
      | true => exact Or.inr ⟨k + 1, by omega, Nat.le_refl _, e⟩
      | false => exact Or.inl (by rw [lft_s, q, e]; rfl)
    · exact Or.inr ⟨j, q1, by omega, q3⟩
theorem lay_back {k v : Nat} (h : lay H A T (k + 1) v = true) : ∃ u, u < 10 ∧ lay H A T k u = true ∧ H u v = true := by
  rw [lay_s, Bool.and_eq_true] at h
  exact nb_iff.mp h.1
/-- all that is joined with a neighbor of a target lies in some layer -/
theorem lay_all {x y : Nat} (hx : x < 10) (hy : y < 10) (hc : con H A x y) (ht : ∃ t, t < 10 ∧ T t = true ∧ H t x = true) : ∃ k, 1 ≤ k ∧ lay H A T k y = true := by
  refine con_ind (fun z => ∃ k, 1 ≤ k ∧ lay H A T k z = true) (fun hA => ?_) (fun u v hu hv ⟨k, k1, k2⟩ hg hA => ?_) hy hc
  · obtain ⟨t, t1, t2, t3⟩ := ht
    have e : nb H (lay H A T 0) x = true := nb_iff.mpr ⟨t, t1, t2, t3⟩
    exact ⟨0 + 1, Nat.le_refl _, by rw [lay_s, e]; exact hA⟩
  · rcases lft_or (H := H) (T := T) (k := k) hA with q | ⟨j, q1, _, q3⟩
    · exact ⟨k + 1, by omega, by rw [lay_s, nb_iff.mpr ⟨u, hu, k2, hg⟩, q]; rfl⟩
    · exact ⟨j, q1, q3⟩
/-- a layer that holds something is not farther than A has vertices -/
theorem lay_deep : ∀ {k v : Nat}, v < 10 → lay H A T (k + 1) v = true → cnt (lft H A T (k + 1)) 10 + (k + 1) ≤ cnt A 10
  | 0, v, hv, h => by
    have h1 : cnt (lft H A T (0 + 1)) 10 < cnt (lft H A T 0) 10 := cnt_lt (fun u _ q => by rw [lft_s, Bool.and_eq_true] at q; exact q.1) ⟨v, hv, by rw [lft_s, h]; simp, by rw [lay_s, Bool.and_eq_true] at h; exact h.2⟩
    have h2 : cnt (lft H A T 0) 10 = cnt A 10 := rfl
    omega
  | k + 1, v, hv, h => by
    obtain ⟨u, hu, q, _⟩ := lay_back h
    have ih := lay_deep hu q
    have h1 : cnt (lft H A T (k + 1 + 1)) 10 < cnt (lft H A T (k + 1)) 10 := cnt_lt (fun u _ q => by rw [lft_s, Bool.and_eq_true] at q; exact q.1) ⟨v, hv, by rw [lft_s, h]; simp, by rw [lay_s, Bool.and_eq_true] at h; exact h.2⟩
    omega
end
/-- does a set meet another -/
def meet (X Y : Nat → Bool) : Bool := anyv (fun v => X v && Y v) 10
theorem meet_iff {X Y : Nat → Bool} : meet X Y = true ↔ ∃ v, v < 10 ∧ X v = true ∧ Y v = true := by
  unfold meet
  rw [anyv_iff]
  simp only [Bool.and_eq_true]
/-- down the layers, to the lowest vertex each time -/
def dsc (H : Nat → Nat → Bool) (A T : Nat → Bool) : Nat → Nat → List Nat
  | 0, v => [low (fun z => H v z && T z)]
  | k + 1, v => low (fun z => H v z && lay H A T (k + 1) z) :: dsc H A T k (low (fun z => H v z && lay H A T (k + 1) z))
theorem low_some {S : Nat → Bool} {z : Nat} (hz : z < 10) (h : S z = true) : low S < 10 ∧ S (low S) = true := by
  have := low_of h hz
  exact ⟨by omega, low_in (by omega)⟩
theorem dsc_spec {H : Nat → Nat → Bool} {A T : Nat → Bool} (hs : ∀ u v, H u v = H v u) : ∀ (k v : Nat), (∃ z, z < 10 ∧ H v z = true ∧ lay H A T k z = true) →
    ∃ (inn : List Nat) (t : Nat), dsc H A T k v = inn ++ [t] ∧ inn.length = k ∧ t < 10 ∧ T t = true ∧ (∀ x ∈ inn, x < 10 ∧ ∃ j, 1 ≤ j ∧ j ≤ k ∧ lay H A T j x = true) ∧ inn.Nodup ∧ ∀ p ∈ pd (v :: dsc H A T k v), H p.1 p.2 = true
  | 0, v, ⟨z, h1, h2, h3⟩ => by
    obtain ⟨q1, q2⟩ := low_some (S := fun z => H v z && T z) h1 (by show (_ && _) = true; rw [h2, show T z = true from h3]; rfl)
    rw [Bool.and_eq_true] at q2
    refine ⟨[], _, rfl, rfl, q1, q2.2, (fun x hx => by cases hx), List.nodup_nil, fun p hp => ?_⟩
    rw [show pd (v :: dsc H A T 0 v) = [(v, low (fun z => H v z && T z))] from rfl, List.mem_singleton] at hp
    subst hp
    exact q2.1
  | k + 1, v, ⟨z, h1, h2, h3⟩ => by
    obtain ⟨q1, q2⟩ := low_some (S := fun z => H v z && lay H A T (k + 1) z) h1 (by show (_ && _) = true; rw [h2, h3]; rfl)
    rw [Bool.and_eq_true] at q2
    generalize hz : low (fun z => H v z && lay H A T (k + 1) z) = z2 at q1 q2
    obtain ⟨u, u1, u2, u3⟩ := lay_back q2.2
    obtain ⟨inn, t, e1, e2, e3, e4, e5, e6, e7⟩ := dsc_spec hs k z2 ⟨u, u1, by rw [hs]; exact u3, u2⟩
    have ed : dsc H A T (k + 1) v = z2 :: dsc H A T k z2 := by
      show _ :: dsc H A T k _ = _
      rw [hz]
    refine ⟨z2 :: inn, t, by rw [ed, e1]; rfl, by rw [List.length_cons, e2], e3, e4, fun x hx => ?_, ?_, fun p hp => ?_⟩
    · rcases List.mem_cons.mp hx with rfl | hx
      · exact ⟨q1, k + 1, by omega, Nat.le_refl _, q2.2⟩
      · obtain ⟨a, j, b, c, d⟩ := e5 x hx
        exact ⟨a, j, b, by omega, d⟩
    · refine List.nodup_cons.mpr ⟨fun hx => ?_, e6⟩
      obtain ⟨_, j, b, c, d⟩ := e5 _ hx
      rw [lay_apart b (by omega : j < k + 1) q2.2] at d
      cases d
    · rw [ed] at hp
      rcases List.mem_cons.mp hp with hp | hp
      · subst hp
        exact q2.1
      · exact e7 p hp
/-- from u to a target, through A: u, the vertices between, the target -/
def pok (H : Nat → Nat → Bool) (A T : Nat → Bool) (u : Nat) (inn : List Nat) (t : Nat) : Prop := t < 10 ∧ T t = true ∧ (∀ x ∈ inn, x < 10 ∧ A x = true) ∧ inn.Nodup ∧ ∀ p ∈ pd (u :: inn ++ [t]), H p.1 p.2 = true
theorem dsc_pok {H : Nat → Nat → Bool} {A T : Nat → Bool} (hs : ∀ u v, H u v = H v u) {k v : Nat} (h : ∃ z, z < 10 ∧ H v z = true ∧ lay H A T k z = true) : ∃ (inn : List Nat) (t : Nat), dsc H A T k v = inn ++ [t] ∧ inn.length = k ∧ pok H A T v inn t := by
  obtain ⟨inn, t, e1, e2, e3, e4, e5, e6, e7⟩ := dsc_spec hs k v h
  refine ⟨inn, t, e1, e2, e3, e4, fun x hx => ?_, e6, ?_⟩
  · obtain ⟨a, j, b, c, d⟩ := e5 x hx
    exact ⟨a, lay_A b d⟩
  · rw [e1] at e7
    exact e7
/-- the first layer from 1 on that meets the neighbors of u; 0 if none does below n + 1 -/
def fdep (H : Nat → Nat → Bool) (A T : Nat → Bool) (u : Nat) : Nat → Nat
  | 0 => 0
  | n + 1 => if fdep H A T u n ≠ 0 then fdep H A T u n else bif meet (lay H A T (n + 1)) (H u) then n + 1 else 0
theorem fdep_spec {H : Nat → Nat → Bool} {A T : Nat → Bool} {u : Nat} : ∀ n, (fdep H A T u n ≠ 0 → 1 ≤ fdep H A T u n ∧ fdep H A T u n ≤ n ∧ meet (lay H A T (fdep H A T u n)) (H u) = true ∧ ∀ j, 1 ≤ j → j < fdep H A T u n → meet (lay H A T j) (H u) = false) ∧ (fdep H A T u n = 0 → ∀ j, 1 ≤ j → j ≤ n → meet (lay H A T j) (H u) = false)
  | 0 => ⟨fun h => absurd rfl h, fun _ j h1 h2 => by omega⟩
  | n + 1 => by
    obtain ⟨i1, i2⟩ := fdep_spec (H := H) (A := A) (T := T) (u := u) n
    unfold fdep
    by_cases h : fdep H A T u n ≠ 0
    · rw [if_pos h]
      obtain ⟨a, b, c, d⟩ := i1 h
      exact ⟨fun _ => ⟨a, by omega, c, d⟩, fun e => absurd e h⟩
    · rw [if_neg h]
      have h0 : fdep H A T u n = 0 := Decidable.of_not_not h
      cases hm : meet (lay H A T (n + 1)) (H u) with
      | true =>
        refine ⟨fun _ => ⟨?_, ?_, hm, fun j h1 h2 => ?_⟩, fun e => ?_⟩
        · simp only [cond_true]; omega
        · simp only [cond_true]; omega
        · simp only [cond_true] at h2
          exact i2 h0 j h1 (by omega)
        · simp only [cond_true] at e
          omega
      | false =>
        refine ⟨fun e => absurd rfl e, fun _ j h1 h2 => ?_⟩
        by_cases e : j = n + 1
        · subst e; exact hm
        · exact i2 h0 j h1 (by omega)
