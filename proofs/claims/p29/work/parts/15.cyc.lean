/-! lists read as cycles -/
abbrev xPr : Type := Nat × Nat
def pd : List Nat → List xPr
  | x :: y :: t => (x, y) :: pd (y :: t)
  | _ => []
/-- the pairs of a vertex and the one behind it -/
def dts : List Nat → List xPr
  | [] => []
  | x :: t => pd (x :: t ++ [x])
theorem pd_app : ∀ (A : List Nat) (m : Nat) (B : List Nat), pd (A ++ m :: B) = pd (A ++ [m]) ++ pd (m :: B)
  | [], m, B => rfl
  | [a], m, B => rfl
  | a :: a2 :: A, m, B => by
    have := pd_app (a2 :: A) m B
    show (a, a2) :: pd (a2 :: A ++ m :: B) = (a, a2) :: (pd (a2 :: A ++ [m]) ++ pd (m :: B))
    rw [this]
theorem pd_len : ∀ (x : Nat) (l : List Nat), (pd (x :: l)).length = l.length
  | _, [] => rfl
  | x, y :: t => by
    show (pd (y :: t)).length + 1 = t.length + 1
    rw [pd_len y t]
theorem dts_len : ∀ l : List Nat, (dts l).length = l.length
  | [] => rfl
  | x :: t => by
    show (pd (x :: (t ++ [x]))).length = _
    rw [pd_len]
    simp
theorem pd_rev : ∀ (l : List Nat) (p : xPr), p ∈ pd l.reverse ↔ (p.2, p.1) ∈ pd l
  | [], p => by simp [pd]
  | [x], p => by simp [pd]
  | x :: y :: t, p => by
    have ih := pd_rev (y :: t) p
    have e : (x :: y :: t).reverse = t.reverse ++ y :: [x] := by simp
    have e2 : (y :: t).reverse = t.reverse ++ [y] := by simp
    rw [e, pd_app, List.mem_append, ← e2, ih]
    show _ ∨ p ∈ [(y, x)] ↔ (p.2, p.1) ∈ (x, y) :: pd (y :: t)
    rw [List.mem_singleton, List.mem_cons]
    constructor
    · rintro (h | h)
      · exact Or.inr h
      · subst h; exact Or.inl rfl
    · rintro (h | h)
      · refine Or.inr ?_
        have h1 := congrArg Prod.fst h
        have h2 := congrArg Prod.snd h
        exact Prod.ext h2 h1
      · exact Or.inl h
theorem pd_mem : ∀ {l : List Nat} {p : xPr}, p ∈ pd l → p.1 ∈ l ∧ p.2 ∈ l
  | x :: y :: t, p, h => by
    rcases List.mem_cons.mp h with h | h
    · subst h; exact ⟨List.mem_cons_self, List.mem_cons_of_mem _ List.mem_cons_self⟩
    · have := pd_mem (l := y :: t) h
      exact ⟨List.mem_cons_of_mem _ this.1, List.mem_cons_of_mem _ this.2⟩
  | [_], p, h => by cases h
  | [], p, h => by cases h
theorem dts_mem {l : List Nat} {p : xPr} (h : p ∈ dts l) : p.1 ∈ l ∧ p.2 ∈ l := by
  cases l with
  | nil => cases h
  | cons x t =>
    have := pd_mem h
    simp only [List.cons_append, List.mem_cons, List.mem_append, List.not_mem_nil, or_false] at this
    have k : ∀ z : Nat, (z = x ∨ z ∈ t ∨ z = x) → z ∈ x :: t := fun z q => by
      rcases q with q | q | q
      · exact q ▸ List.mem_cons_self
      · exact List.mem_cons_of_mem _ q
      · exact q ▸ List.mem_cons_self
    exact ⟨k _ this.1, k _ this.2⟩
/-- first places of the pairs -/
theorem pd_fst : ∀ (x : Nat) (l : List Nat), (pd (x :: l)).map Prod.fst = (x :: l).dropLast
  | _, [] => rfl
  | x, y :: t => by
    show x :: (pd (y :: t)).map Prod.fst = _
    rw [pd_fst y t]
    rfl
theorem pd_snd : ∀ (x : Nat) (l : List Nat), (pd (x :: l)).map Prod.snd = l
  | _, [] => rfl
  | x, y :: t => by
    show y :: (pd (y :: t)).map Prod.snd = _
    rw [pd_snd y t]
theorem dts_fst (l : List Nat) : (dts l).map Prod.fst = l := by
  cases l with
  | nil => rfl
  | cons x t =>
    show (pd (x :: (t ++ [x]))).map Prod.fst = _
    rw [pd_fst]
    simp [List.dropLast_cons_of_ne_nil]
theorem dts_snd (x : Nat) (t : List Nat) : (dts (x :: t)).map Prod.snd = t ++ [x] := by
  show (pd (x :: (t ++ [x]))).map Prod.snd = _
  rw [pd_snd]
theorem nodup_map_inj {l : List xPr} {f : xPr → Nat} (h : (l.map f).Nodup) : ∀ p q, p ∈ l → q ∈ l → f p = f q → p = q := by
  induction l with
  | nil => intro p q hp; cases hp
  | cons a t ih =>
    rw [List.map_cons, List.nodup_cons] at h
    intro p q hp hq e
    rcases List.mem_cons.mp hp with rfl | hp2 <;> rcases List.mem_cons.mp hq with rfl | hq2
    · rfl
    · exact absurd (by rw [e]; exact List.mem_map.mpr ⟨q, hq2, rfl⟩) h.1
    · exact absurd (by rw [← e]; exact List.mem_map.mpr ⟨p, hp2, rfl⟩) h.1
    · exact ih h.2 p q hp2 hq2 e
theorem dts_fun {l : List Nat} (h : l.Nodup) {x y y' : Nat} (h1 : (x, y) ∈ dts l) (h2 : (x, y') ∈ dts l) : y = y' :=
  congrArg Prod.snd (nodup_map_inj (f := Prod.fst) (by rw [dts_fst]; exact h) _ _ h1 h2 rfl)
theorem dts_inj {l : List Nat} (h : l.Nodup) {x x' y : Nat} (h1 : (x, y) ∈ dts l) (h2 : (x', y) ∈ dts l) : x = x' := by
  cases l with
  | nil => cases h1
  | cons a t =>
    have hn : ((dts (a :: t)).map Prod.snd).Nodup := by
      rw [dts_snd]
      have := List.nodup_cons.mp h
      exact List.nodup_append.mpr ⟨this.2, List.nodup_cons.mpr ⟨List.not_mem_nil, List.nodup_nil⟩, fun u hu v hv e => by
        rw [List.mem_singleton] at hv
        subst hv
        subst e
        exact this.1 hu⟩
    exact congrArg Prod.fst (nodup_map_inj (f := Prod.snd) hn _ _ h1 h2 rfl)
theorem dts_nodup {l : List Nat} (h : l.Nodup) : (dts l).Nodup := by
  have h1 : ((dts l).map Prod.fst).Nodup := by rw [dts_fst]; exact h
  generalize dts l = m at h1
  induction m with
  | nil => exact List.nodup_nil
  | cons a t ih =>
    rw [List.map_cons, List.nodup_cons] at h1
    exact List.nodup_cons.mpr ⟨fun z => h1.1 (List.mem_map.mpr ⟨a, z, rfl⟩), ih h1.2⟩
theorem dts_ex {l : List Nat} {x : Nat} (h : x ∈ l) : ∃ y, (x, y) ∈ dts l := by
  rw [← dts_fst l] at h
  obtain ⟨p, h1, h2⟩ := List.mem_map.mp h
  exact ⟨p.2, by rw [← h2]; exact h1⟩
/-- turned: the same cycle -/
theorem dts_rot (A B : List Nat) (p : xPr) : p ∈ dts (A ++ B) ↔ p ∈ dts (B ++ A) := by
  cases A with
  | nil => rw [List.append_nil]; rfl
  | cons a A =>
    cases B with
    | nil => rw [List.append_nil]; rfl
    | cons b B =>
      have e1 : dts (a :: A ++ b :: B) = pd (a :: A ++ [b]) ++ pd (b :: (B ++ [a])) := by
        show pd (a :: (A ++ b :: B) ++ [a]) = _
        have : a :: (A ++ b :: B) ++ [a] = (a :: A) ++ b :: (B ++ [a]) := by simp
        rw [this, pd_app]
      have e2 : dts (b :: B ++ a :: A) = pd (b :: B ++ [a]) ++ pd (a :: (A ++ [b])) := by
        show pd (b :: (B ++ a :: A) ++ [b]) = _
        have : b :: (B ++ a :: A) ++ [b] = (b :: B) ++ a :: (A ++ [b]) := by simp
        rw [this, pd_app]
      rw [e1, e2, List.mem_append, List.mem_append]
      exact or_comm
theorem dts_rot_len (A B : List Nat) : (dts (A ++ B)).length = (dts (B ++ A)).length := by
  rw [dts_len, dts_len, List.length_append, List.length_append, Nat.add_comm]
/-- the pairs, by places -/
theorem pd_get : ∀ (l : List Nat) (i : Nat) (x y : Nat), l[i]? = some x → l[i + 1]? = some y → (x, y) ∈ pd l
  | a :: b :: t, 0, x, y, h1, h2 => by
    simp at h1 h2
    subst h1; subst h2
    exact List.mem_cons_self
  | a :: b :: t, i + 1, x, y, h1, h2 => List.mem_cons_of_mem _ (pd_get (b :: t) i x y h1 h2)
  | [a], i, x, y, h1, h2 => by
    cases i with
    | zero => simp at h2
    | succ i => simp at h1
  | [], i, x, y, h1, h2 => by simp at h1
theorem dts_get {l : List Nat} {i x y : Nat} (h1 : l[i]? = some x) (h2 : l[(i + 1) % l.length]? = some y) : (x, y) ∈ dts l := by
  have hi := (List.getElem?_eq_some_iff.mp h1).1
  cases l with
  | nil => simp at h1
  | cons a t =>
    refine pd_get _ i x y (by rw [List.getElem?_append_left (by exact hi)]; exact h1) ?_
    by_cases e : i + 1 < (a :: t).length
    · rw [Nat.mod_eq_of_lt e] at h2
      rw [List.getElem?_append_left e]
      exact h2
    · have e2 : i + 1 = (a :: t).length := by omega
      rw [e2, Nat.mod_self] at h2
      rw [e2, List.getElem?_append_right (Nat.le_refl _), Nat.sub_self]
      simpa using h2
