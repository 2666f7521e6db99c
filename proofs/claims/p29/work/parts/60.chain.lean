/-! sums modulo two, chains of edges -/
def xs (f : Nat → Bool) : Nat → Bool
  | 0 => false
  | n + 1 => xs f n ^^ f n
theorem xs_ext {f g : Nat → Bool} : ∀ {n : Nat}, (∀ i, i < n → f i = g i) → xs f n = xs g n
  | 0, _ => rfl
  | n + 1, h => by
    unfold xs
    rw [xs_ext (n := n) (fun i hi => h i (by omega)), h n (by omega)]
theorem xs_0 {f : Nat → Bool} : ∀ {n : Nat}, (∀ i, i < n → f i = false) → xs f n = false
  | 0, _ => rfl
  | n + 1, h => by
    unfold xs
    rw [xs_0 (n := n) (fun i hi => h i (by omega)), h n (by omega)]
    rfl
theorem xor4 (a b c d : Bool) : ((a ^^ b) ^^ (c ^^ d)) = ((a ^^ c) ^^ (b ^^ d)) := by cases a <;> cases b <;> cases c <;> cases d <;> rfl
theorem xs_xor (f g : Nat → Bool) : ∀ n, xs (fun i => f i ^^ g i) n = (xs f n ^^ xs g n)
  | 0 => rfl
  | n + 1 => by
    show (xs (fun i => f i ^^ g i) n ^^ (f n ^^ g n)) = ((xs f n ^^ f n) ^^ (xs g n ^^ g n))
    rw [xs_xor f g n, xor4]
theorem xs_and (b : Bool) (f : Nat → Bool) : ∀ n, xs (fun i => b && f i) n = (b && xs f n)
  | 0 => by cases b <;> rfl
  | n + 1 => by
    show (xs (fun i => b && f i) n ^^ (b && f n)) = (b && (xs f n ^^ f n))
    rw [xs_and b f n]
    cases b <;> simp
theorem xs_one {f : Nat → Bool} {p : Nat} : ∀ {n : Nat}, p < n → (∀ i, i < n → i ≠ p → f i = false) → xs f n = f p
  | 0, h, _ => by omega
  | n + 1, h, hz => by
    unfold xs
    by_cases e : p = n
    · subst e
      rw [xs_0 (fun i hi => hz i (by omega) (by omega))]
      simp
    · rw [xs_one (n := n) (by omega) (fun i hi => hz i (by omega)), hz n (by omega) (fun z => e z.symm)]
      simp
theorem xs_two {f : Nat → Bool} {p q n : Nat} (hp : p < n) (hq : q < n) (hpq : p ≠ q) (h : ∀ i, i < n → i ≠ p → i ≠ q → f i = false) : xs f n = (f p ^^ f q) := by
  have e : xs f n = xs (fun i => (decide (i = p) && f p) ^^ (decide (i = q) && f q)) n := xs_ext fun i hi => by
    by_cases h1 : i = p
    · subst h1
      simp [hpq]
    · by_cases h2 : i = q
      · subst h2
        simp [h1]
      · simp [h1, h2, h i hi h1 h2]
  rw [e, xs_xor, xs_one hp (fun i _ hne => by simp [hne]), xs_one hq (fun i _ hne => by simp [hne])]
  simp
theorem xs_swap (F : Nat → Nat → Bool) (m : Nat) : ∀ n, xs (fun i => xs (F i) n) m = xs (fun j => xs (fun i => F i j) m) n
  | 0 => by
    show xs (fun _ => false) m = false
    exact xs_0 fun _ _ => rfl
  | n + 1 => by
    show xs (fun i => xs (F i) n ^^ F i n) m = (xs (fun j => xs (fun i => F i j) m) n ^^ xs (fun i => F i n) m)
    rw [xs_xor, xs_swap F m n]
theorem xs_ex {f : Nat → Bool} : ∀ {n : Nat}, xs f n = true → ∃ i, i < n ∧ f i = true
  | 0, h => by cases h
  | n + 1, h => by
    unfold xs at h
    cases hn : f n with
    | true => exact ⟨n, by omega, hn⟩
    | false =>
      rw [hn, Bool.xor_false] at h
      obtain ⟨i, h1, h2⟩ := xs_ex h
      exact ⟨i, by omega, h2⟩
theorem xs_mate {f : Nat → Bool} {n p : Nat} (hp : p < n) (h : xs f n = false) (hf : f p = true) : ∃ i, i < n ∧ i ≠ p ∧ f i = true := by
  refine Classical.byContradiction fun hno => ?_
  have := xs_one hp (f := f) (fun i hi hne => by
    cases e : f i with
    | false => rfl
    | true => exact absurd ⟨i, hi, hne, e⟩ hno)
  rw [this, hf] at h
  cases h
theorem xs_sym {F : Nat → Nat → Bool} (hs : ∀ i j, F i j = F j i) (hd : ∀ i, F i i = false) : ∀ n, xs (fun i => xs (F i) n) n = false
  | 0 => rfl
  | n + 1 => by
    show (xs (fun i => xs (F i) n ^^ F i n) n ^^ (xs (F n) n ^^ F n n)) = false
    rw [xs_xor, xs_sym hs hd n, hd, xs_ext (f := fun i => F i n) (g := F n) (fun i _ => hs i n)]
    simp
theorem xs_not (U f : Nat → Bool) (n : Nat) : xs (fun i => !U i && f i) n = (xs f n ^^ xs (fun i => U i && f i) n) := by
  rw [← xs_xor]
  exact xs_ext fun i _ => by cases U i <;> cases f i <;> rfl
/-! chains -/
abbrev xG : Type := Nat → Nat → Bool
def ch (G X : xG) : Prop := (∀ x y, X x y = X y x) ∧ ∀ x y, X x y = true → G x y = true
def od (X : xG) (v : Nat) : Bool := xs (X v) 10
def ev (G X : xG) : Prop := ch G X ∧ ∀ v, v < 10 → od X v = false
def xr (X Y : xG) : xG := fun x y => X x y ^^ Y x y
def x0 : xG := fun _ _ => false
def eg (a b : Nat) : xG := fun x y => (decide (x = a) && decide (y = b)) || (decide (x = b) && decide (y = a))
theorem eg_iff {a b x y : Nat} : eg a b x y = true ↔ (x = a ∧ y = b) ∨ (x = b ∧ y = a) := by simp [eg]
theorem xr_self (X : xG) : xr X X = x0 := by funext x y; simp [xr, x0]
theorem xr_0 (X : xG) : xr X x0 = X := by funext x y; simp [xr, x0]
theorem xr_0l (X : xG) : xr x0 X = X := by funext x y; simp [xr, x0]
theorem xr_comm (X Y : xG) : xr X Y = xr Y X := by funext x y; simp [xr, Bool.xor_comm]
theorem xr_assoc (X Y Z : xG) : xr (xr X Y) Z = xr X (xr Y Z) := by funext x y; simp [xr, Bool.xor_assoc]
theorem xr_cancel (X Y : xG) : xr X (xr X Y) = Y := by rw [← xr_assoc, xr_self, xr_0l]
theorem xr_eq {X Y : xG} (h : xr X Y = x0) : X = Y := by
  funext x y
  have := congrFun (congrFun h x) y
  simp only [xr, x0] at this
  revert this
  cases X x y <;> cases Y x y <;> simp
theorem od_xr (X Y : xG) (v : Nat) : od (xr X Y) v = (od X v ^^ od Y v) := xs_xor (X v) (Y v) 10
theorem od_x0 (v : Nat) : od x0 v = false := xs_0 fun _ _ => rfl
theorem od_eg {a b : Nat} (ha : a < 10) (hb : b < 10) (hab : a ≠ b) (v : Nat) : od (eg a b) v = (decide (v = a) ^^ decide (v = b)) := by
  unfold od
  by_cases h1 : v = a
  · subst h1
    rw [xs_one hb (fun i _ hne => by simp [eg, hne, hab])]
    simp [eg, hab]
  · by_cases h2 : v = b
    · subst h2
      rw [xs_one ha (fun i _ hne => by simp [eg, hne, h1])]
      simp [eg, h1]
    · rw [xs_0 (fun i _ => by simp [eg, h1, h2])]
      simp [h1, h2]
theorem ch_x0 (G : xG) : ch G x0 := ⟨fun _ _ => rfl, fun _ _ h => by cases h⟩
theorem ch_xr {G X Y : xG} (h1 : ch G X) (h2 : ch G Y) : ch G (xr X Y) := by
  refine ⟨fun x y => by simp only [xr, h1.1 x y, h2.1 x y], fun x y h => ?_⟩
  simp only [xr] at h
  cases hX : X x y with
  | true => exact h1.2 x y hX
  | false =>
    rw [hX, Bool.false_xor] at h
    exact h2.2 x y h
theorem ch_mono {G G' X : xG} (hG : ∀ x y, G x y = true → G' x y = true) (h : ch G X) : ch G' X := ⟨h.1, fun x y q => hG x y (h.2 x y q)⟩
theorem ch_eg {G : xG} (hs : ∀ x y, G x y = G y x) {a b : Nat} (h : G a b = true) : ch G (eg a b) := by
  refine ⟨fun x y => by simp only [eg]; rw [Bool.or_comm, Bool.and_comm (decide (x = b)), Bool.and_comm (decide (x = a))], fun x y q => ?_⟩
  rcases eg_iff.mp q with ⟨rfl, rfl⟩ | ⟨rfl, rfl⟩
  · exact h
  · rw [hs]; exact h
theorem ev_xr {G X Y : xG} (h1 : ev G X) (h2 : ev G Y) : ev G (xr X Y) := ⟨ch_xr h1.1 h2.1, fun v hv => by rw [od_xr, h1.2 v hv, h2.2 v hv]; rfl⟩
theorem ev_x0 (G : xG) : ev G x0 := ⟨ch_x0 G, fun v _ => od_x0 v⟩
theorem ev_mono {G G' X : xG} (hG : ∀ x y, G x y = true → G' x y = true) (h : ev G X) : ev G' X := ⟨ch_mono hG h.1, h.2⟩
theorem gok_ch {G X : xG} (hg : gok G) (h : ch G X) : gok X := by
  refine ⟨h.1, fun v => ?_, fun u v e => hg.2.2 u v (h.2 u v e)⟩
  cases e : X v v with
  | false => rfl
  | true =>
    have := h.2 v v e
    rw [hg.2.1] at this
    cases this
/-- a chain inside A from x to y -/
theorem con_chain {G : xG} {A : Nat → Bool} (hg : gok G) {x y : Nat} (hx : x < 10) (hy : y < 10) (h : con G A x y) : ∃ X, ch (bH G A) X ∧ ∀ v, od X v = (decide (v = x) ^^ decide (v = y)) := by
  have hs : ∀ x y, bH G A x y = bH G A y x := fun x y => by unfold bH; rw [hg.1 x y, Bool.and_comm (A x)]
  have key : A y = true ∧ ∃ X, ch (bH G A) X ∧ ∀ v, od X v = (decide (v = x) ^^ decide (v = y)) := by
    refine con_ind (fun y => A y = true ∧ ∃ X, ch (bH G A) X ∧ ∀ v, od X v = (decide (v = x) ^^ decide (v = y))) (fun hA => ⟨hA, x0, ch_x0 _, fun v => by rw [od_x0]; simp⟩) (fun u v hu hv ⟨hA, X, h1, h2⟩ hguv hAv => ⟨hAv, ?_⟩) hy h
    have hne : u ≠ v := fun e => by rw [e, hg.2.1] at hguv; cases hguv
    refine ⟨xr X (eg u v), ch_xr h1 (ch_eg hs (bH_iff.mpr ⟨hguv, hA, hAv⟩)), fun w => ?_⟩
    rw [od_xr, h2, od_eg hu hv hne]
    cases decide (w = x) <;> cases decide (w = u) <;> cases decide (w = v) <;> rfl
  exact key.2
/-- the sum of the degrees over what no edge leaves -/
theorem od_sum {G X : xG} (hg : gok G) (h : ch G X) {A : Nat → Bool} (hA : ∀ x y, X x y = true → A x = A y) : xs (fun v => A v && od X v) 10 = false := by
  have e : xs (fun v => A v && od X v) 10 = xs (fun v => xs ((fun v y => A v && X v y) v) 10) 10 := xs_ext fun v _ => by
    unfold od
    rw [← xs_and]
  rw [e]
  refine xs_sym (F := fun v y => A v && X v y) (fun i j => ?_) (fun i => ?_) 10
  · show (A i && X i j) = (A j && X j i)
    rw [h.1 j i]
    cases hX : X i j with
    | false => simp
    | true => rw [hA i j hX]
  · show (A i && X i i) = false
    rw [(gok_ch hg h).2.1]
    simp
theorem od_mate {G X : xG} (hg : gok G) (h : ch G X) {a : Nat} (ha : a < 10) (ho : od X a = true) : ∃ b, b < 10 ∧ b ≠ a ∧ od X b = true ∧ con X (fun _ => true) a b := by
  have hX := gok_ch hg h
  have hs := od_sum hg h (A := fun v => rch X (fun _ => true) (fun z => decide (z = a)) v) (fun x y e => by
    obtain ⟨hx, hy⟩ := hX.2.2 x y e
    rw [Bool.eq_iff_iff]
    constructor
    · intro q; exact rch_step hx hy q e rfl
    · intro q; exact rch_step hy hx q (by rw [h.1]; exact e) rfl)
  obtain ⟨b, h1, h2, h3⟩ := xs_mate ha hs (by rw [ho, Bool.and_true]; exact con_rfl (x := a) rfl)
  rw [Bool.and_eq_true] at h3
  exact ⟨b, h1, h2, h3.2, h3.1⟩
/-! paths as lists -/
def PA (G : xG) (A : Nat → Bool) (l : List Nat) : Prop := l.Nodup ∧ (∀ z ∈ l, z < 10 ∧ A z = true) ∧ ∀ e ∈ pd l, G e.1 e.2 = true
theorem con_PA {G : xG} {A : Nat → Bool} {x y : Nat} (hx : x < 10) (hy : y < 10) (h : con G A x y) : ∃ L, PA G A (L ++ [y]) ∧ (L ++ [y]).head? = some x := by
  refine con_ind (fun y => ∃ L, PA G A (L ++ [y]) ∧ (L ++ [y]).head? = some x) (fun hA => ⟨[], ⟨by simp, fun z hz => ?_, fun e he => by cases he⟩, rfl⟩) (fun u v hu hv ⟨L, ⟨p1, p2, p3⟩, p4⟩ hg hA => ?_) hy h
  · have : z = x := by simpa using hz
    subst this
    exact ⟨hx, hA⟩
  · by_cases e : v ∈ L ++ [u]
    · obtain ⟨B, C, hBC⟩ := List.append_of_mem e
      refine ⟨B, ⟨?_, fun z hz => p2 z ?_, fun q hq => p3 q ?_⟩, ?_⟩
      · rw [hBC] at p1
        exact p1.sublist (List.Sublist.append_left (by simp) _)
      · rw [hBC]
        rcases List.mem_append.mp hz with h | h
        · exact List.mem_append_left _ h
        · exact List.mem_append_right _ (by rw [List.mem_singleton.mp h]; exact List.mem_cons_self)
      · rw [hBC, pd_app]
        exact List.mem_append_left _ hq
      · rw [hBC] at p4
        cases B with
        | nil => simpa using p4
        | cons b B => simpa using p4
    · refine ⟨L ++ [u], ⟨?_, fun z hz => ?_, fun q hq => ?_⟩, ?_⟩
      · exact List.nodup_append.mpr ⟨p1, by simp, fun a ha b hb q => by
          rw [List.mem_singleton] at hb
          subst hb; subst q
          exact e ha⟩
      · rcases List.mem_append.mp hz with h | h
        · exact p2 z h
        · rw [List.mem_singleton] at h
          subst h
          exact ⟨hv, hA⟩
      · have : L ++ [u] ++ [v] = L ++ u :: [v] := by simp
        rw [this, pd_app] at hq
        rcases List.mem_append.mp hq with h | h
        · exact p3 q h
        · have : q = (u, v) := by simpa [pd] using h
          subst this
          exact hg
      · cases L with
        | nil => simpa using p4
        | cons b B => simpa using p4
/-- a path as a chain, a cycle as a chain -/
def ePQ (l : List Nat) : xG := fun x y => decide ((x, y) ∈ pd l) || decide ((y, x) ∈ pd l)
def eSQ (c : List Nat) : xG := fun x y => decide ((x, y) ∈ dts c) || decide ((y, x) ∈ dts c)
theorem eP_iff {l : List Nat} {x y : Nat} : ePQ l x y = true ↔ (x, y) ∈ pd l ∨ (y, x) ∈ pd l := by simp [ePQ]
theorem eS_iff {l : List Nat} {x y : Nat} : eSQ l x y = true ↔ (x, y) ∈ dts l ∨ (y, x) ∈ dts l := by simp [eSQ]
theorem eP_sym (l : List Nat) (x y : Nat) : ePQ l x y = ePQ l y x := Bool.or_comm _ _
theorem eS_sym (l : List Nat) (x y : Nat) : eSQ l x y = eSQ l y x := Bool.or_comm _ _
theorem eP_mem {l : List Nat} {x y : Nat} (h : ePQ l x y = true) : x ∈ l ∧ y ∈ l := by
  rcases eP_iff.mp h with h | h
  · exact pd_mem h
  · exact (pd_mem h).symm
theorem eS_mem {l : List Nat} {x y : Nat} (h : eSQ l x y = true) : x ∈ l ∧ y ∈ l := by
  rcases eS_iff.mp h with h | h
  · exact dts_mem h
  · exact (dts_mem h).symm
theorem eP_cons {x y : Nat} {t : List Nat} (h : (x :: y :: t).Nodup) : ePQ (x :: y :: t) = xr (eg x y) (ePQ (y :: t)) := by
  have hn := (List.nodup_cons.mp h).1
  funext a b
  have h1 : eg x y a b = true → ePQ (y :: t) a b = false := fun q => by
    cases e : ePQ (y :: t) a b with
    | false => rfl
    | true =>
      have := eP_mem e
      rcases eg_iff.mp q with ⟨rfl, rfl⟩ | ⟨rfl, rfl⟩
      · exact absurd this.1 hn
      · exact absurd this.2 hn
  have h2 : ePQ (x :: y :: t) a b = (eg x y a b || ePQ (y :: t) a b) := by
    rw [Bool.eq_iff_iff, Bool.or_eq_true, eP_iff, eP_iff, eg_iff, pd_cons2, List.mem_cons, List.mem_cons, Prod.mk.injEq, Prod.mk.injEq]
    constructor
    · rintro ((h | h) | (h | h))
      · exact Or.inl (Or.inl h)
      · exact Or.inr (Or.inl h)
      · exact Or.inl (Or.inr ⟨h.2, h.1⟩)
      · exact Or.inr (Or.inr h)
    · rintro ((h | h) | (h | h))
      · exact Or.inl (Or.inl h)
      · exact Or.inr (Or.inl ⟨h.2, h.1⟩)
      · exact Or.inl (Or.inr h)
      · exact Or.inr (Or.inr h)
  show _ = (eg x y a b ^^ ePQ (y :: t) a b)
  rw [h2]
  cases e : eg x y a b with
  | true => rw [h1 e]; rfl
  | false => simp
theorem od_eP : ∀ (x : Nat) (t : List Nat), (x :: t).Nodup → (∀ z ∈ x :: t, z < 10) → ∀ v, od (ePQ (x :: t)) v = (decide (v = x) ^^ decide (v = (x :: t).getLastD 0))
  | x, [], _, _, v => by
    have : ePQ [x] = x0 := by funext a b; simp [ePQ, pd, x0]
    rw [this, od_x0]
    simp
  | x, y :: t, h, h10, v => by
    have hne : x ≠ y := fun e => (List.nodup_cons.mp h).1 (by rw [e]; exact List.mem_cons_self)
    rw [eP_cons h, od_xr, od_eg (h10 x List.mem_cons_self) (h10 y (List.mem_cons_of_mem _ List.mem_cons_self)) hne, od_eP y t (List.nodup_cons.mp h).2 (fun z hz => h10 z (List.mem_cons_of_mem _ hz))]
    have : (x :: y :: t).getLastD 0 = (y :: t).getLastD 0 := by cases t <;> rfl
    rw [this]
    cases decide (v = x) <;> cases decide (v = y) <;> cases decide (v = (y :: t).getLastD 0) <;> rfl
theorem od_path {u w : Nat} {inn : List Nat} (h : (u :: inn ++ [w]).Nodup) (h10 : ∀ z ∈ u :: inn ++ [w], z < 10) (v : Nat) : od (ePQ (u :: inn ++ [w])) v = (decide (v = u) ^^ decide (v = w)) := by
  have := od_eP u (inn ++ [w]) h h10 v
  rw [show u :: inn ++ [w] = u :: (inn ++ [w]) from rfl, this]
  have e : (u :: (inn ++ [w])).getLastD 0 = w := by
    rw [show u :: (inn ++ [w]) = (u :: inn) ++ [w] from rfl, List.getLastD_eq_getLast?, List.getLast?_concat]
    rfl
  rw [e]
theorem eP_rev (l : List Nat) : ePQ l.reverse = ePQ l := by
  funext x y
  rw [Bool.eq_iff_iff, eP_iff, eP_iff, pd_rev, pd_rev]
  exact Or.comm
/-- a cycle: two paths -/
theorem eS_two {u w : Nat} {xs1 ys1 : List Nat} (h : (u :: xs1 ++ w :: ys1).Nodup) (h3 : 3 ≤ (u :: xs1 ++ w :: ys1).length) : eSQ (u :: xs1 ++ w :: ys1) = xr (ePQ (u :: xs1 ++ [w])) (ePQ (w :: ys1 ++ [u])) := by
  funext a b
  have hor : eSQ (u :: xs1 ++ w :: ys1) a b = (ePQ (u :: xs1 ++ [w]) a b || ePQ (w :: ys1 ++ [u]) a b) := by
    rw [Bool.eq_iff_iff, Bool.or_eq_true, eS_iff, eP_iff, eP_iff, dts_two, List.mem_append, List.mem_append]
    constructor
    · rintro ((h | h) | (h | h))
      · exact Or.inl (Or.inl h)
      · exact Or.inr (Or.inl h)
      · exact Or.inl (Or.inr h)
      · exact Or.inr (Or.inr h)
    · rintro ((h | h) | (h | h))
      · exact Or.inl (Or.inl h)
      · exact Or.inr (Or.inl h)
      · exact Or.inl (Or.inr h)
      · exact Or.inr (Or.inr h)
  have hd : ePQ (u :: xs1 ++ [w]) a b = true → ePQ (w :: ys1 ++ [u]) a b = false := by
    intro q
    cases e : ePQ (w :: ys1 ++ [u]) a b with
    | false => rfl
    | true =>
      exfalso
      have hnd := dts_nodup h
      rw [dts_two] at hnd
      obtain ⟨_, _, hdis⟩ := List.nodup_append.mp hnd
      have hmem : ∀ p, p ∈ pd (u :: xs1 ++ [w]) ++ pd (w :: ys1 ++ [u]) → p ∈ dts (u :: xs1 ++ w :: ys1) := fun p hp => by rw [dts_two]; exact hp
      rcases eP_iff.mp q with q | q <;> rcases eP_iff.mp e with e | e
      · exact hdis _ q _ e rfl
      · exact dts_asym h h3 (hmem _ (List.mem_append_left _ q)) (hmem _ (List.mem_append_right _ e))
      · exact dts_asym h h3 (hmem _ (List.mem_append_left _ q)) (hmem _ (List.mem_append_right _ e))
      · exact hdis _ q _ e rfl
  show _ = (ePQ (u :: xs1 ++ [w]) a b ^^ ePQ (w :: ys1 ++ [u]) a b)
  rw [hor]
  cases e : ePQ (u :: xs1 ++ [w]) a b with
  | true => rw [hd e]; rfl
  | false => simp
theorem eS_dts {c c' : List Nat} (h : ∀ p, p ∈ dts c ↔ p ∈ dts c') : eSQ c = eSQ c' := by
  funext x y
  rw [Bool.eq_iff_iff, eS_iff, eS_iff, h, h]
theorem eS_rot (A B : List Nat) : eSQ (A ++ B) = eSQ (B ++ A) := eS_dts fun p => dts_rot A B p
theorem eS_rev (c : List Nat) : eSQ c.reverse = eSQ c := by
  funext x y
  rw [Bool.eq_iff_iff, eS_iff, eS_iff, dts_rev, dts_rev]
  exact Or.comm
theorem od_eS {c : List Nat} (h : c.Nodup) (h3 : 3 ≤ c.length) (h10 : ∀ z ∈ c, z < 10) (v : Nat) : od (eSQ c) v = false := by
  match c, h, h3, h10 with
  | [], _, h3, _ => simp at h3
  | [_], _, h3, _ => simp at h3
  | a :: b :: t, h, h3, h10 =>
    have e := eS_two (u := a) (w := b) (xs1 := []) (ys1 := t) h h3
    have e2 : a :: [] ++ b :: t = a :: b :: t := rfl
    rw [e2] at e
    have hab : (a :: [] ++ [b]).Nodup := h.sublist (by simp)
    have hba : (b :: t ++ [a]).Nodup := (List.perm_append_comm (l₁ := [a]) (l₂ := b :: t)).nodup_iff.mp h
    rw [e, od_xr, od_path hab (fun z hz => h10 z (by simp at hz ⊢; rcases hz with h | h <;> simp [h])), od_path hba (fun z hz => h10 z (by simp at hz ⊢; rcases hz with h | h | h <;> simp [h]))]
    cases decide (v = a) <;> cases decide (v = b) <;> rfl
/-- all or nothing along a list -/
theorem pd_const {X : xG} : ∀ (l : List Nat), (∀ A a b c B, l = A ++ a :: b :: c :: B → X a b = X b c) → ∀ x y t, l = x :: y :: t → ∀ e ∈ pd l, X e.1 e.2 = X x y
  | [], _, _, _, _, h, _, _ => by cases h
  | [_], _, _, _, _, h, _, _ => by cases h
  | [a, b], _, x, y, t, h, e, he => by
    cases h
    have : e = (a, b) := by simpa [pd] using he
    rw [this]
  | a :: b :: c :: l, hX, x, y, t, h, e, he => by
    cases h
    rw [pd_cons2] at he
    rcases List.mem_cons.mp he with q | q
    · rw [q]
    · have := pd_const (X := X) (b :: c :: l) (fun A a' b' c' B q => hX (a :: A) a' b' c' B (by rw [q]; rfl)) b c l rfl e q
      rw [this]
      exact (hX [] a b c l rfl).symm
