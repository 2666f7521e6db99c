/-! a graph with a tree of three legs; two such are joined -/
def sc (b : Bool) (X : xG) : xG := fun x y => b && X x y
theorem od_sc (b : Bool) (X : xG) (v : Nat) : od (sc b X) v = (b && od X v) := xs_and b (X v) 10
theorem ch_sc {G X : xG} {b : Bool} (h : ch G X) : ch G (sc b X) := ⟨fun x y => by unfold sc; rw [h.1 x y], fun x y q => by
  unfold sc at q
  rw [Bool.and_eq_true] at q
  exact h.2 x y q.2⟩
def T3 (s : Nat) (A B D : List Nat) (a b d : Nat) : xG := fun x y => (ePQ (s :: A ++ [a]) x y || ePQ (s :: B ++ [b]) x y) || ePQ (s :: D ++ [d]) x y
def T3ok (H : xG) (s : Nat) (A B D : List Nat) (a b d : Nat) : Prop := (s :: A ++ B ++ D ++ [a, b, d]).Nodup ∧ (∀ v ∈ s :: A ++ B ++ D ++ [a, b, d], v < 10) ∧ ∀ v ∈ s :: A ++ B ++ D, ∀ y, H v y = false
def bits (a b d : Nat) (x y z : Bool) (v : Nat) : Bool := ((x && decide (v = a)) ^^ (y && decide (v = b))) ^^ (z && decide (v = d))
theorem leg_end {s a : Nat} {A : List Nat} {x y : Nat} (h : ePQ (s :: A ++ [a]) x y = true) : x ∈ s :: A ∨ y ∈ s :: A := by
  have key : ∀ p q, (p, q) ∈ pd (s :: A ++ [a]) → p ∈ s :: A := fun p q hpq => by
    have h1 : p ∈ (pd (s :: (A ++ [a]))).map Prod.fst := List.mem_map.mpr ⟨_, hpq, rfl⟩
    rw [pd_fst] at h1
    have e : (s :: (A ++ [a])).dropLast = s :: A := by
      rw [show s :: (A ++ [a]) = (s :: A) ++ [a] from rfl, List.dropLast_concat]
    rw [e] at h1
    exact h1
  rcases eP_iff.mp h with g | g
  · exact Or.inl (key _ _ g)
  · exact Or.inr (key _ _ g)
section
variable {H : xG} {s : Nat} {A B D : List Nat} {a b d : Nat}
theorem T3_legs (hT : T3ok H s A B D a b d) : (s :: A ++ [a]).Nodup ∧ (s :: B ++ [b]).Nodup ∧ (s :: D ++ [d]).Nodup := by
  obtain ⟨hn, _, _⟩ := hT
  have sub : ∀ l : List Nat, l.Sublist (s :: A ++ B ++ D ++ [a, b, d]) → l.Nodup := fun l h => hn.sublist h
  refine ⟨sub _ ?_, sub _ ?_, sub _ ?_⟩
  · have h1 : (s :: A ++ [a]).Sublist (s :: A ++ (B ++ D ++ [a, b, d])) := List.Sublist.append_left (by
      have : [a].Sublist [a, b, d] := by simp
      exact this.trans (List.sublist_append_right _ _)) _
    simpa using h1
  · have h1 : (B ++ [b]).Sublist (A ++ (B ++ (D ++ [a, b, d]))) := (List.Sublist.append_left (by
      have : [b].Sublist [a, b, d] := by simp
      exact this.trans (List.sublist_append_right _ _)) _).trans (List.sublist_append_right _ _)
    have h2 := List.Sublist.cons_cons s h1
    simpa using h2
  · have h1 : (D ++ [d]).Sublist (A ++ (B ++ (D ++ [a, b, d]))) := by
      have : (D ++ [d]).Sublist (D ++ [a, b, d]) := List.Sublist.append_left (by simp) _
      exact (this.trans (List.sublist_append_right _ _)).trans (List.sublist_append_right _ _)
    have h2 := List.Sublist.cons_cons s h1
    simpa using h2
/-- legs have no edge in common, nor with what they hang on -/
theorem T3_dis (hT : T3ok H s A B D a b d) (hH : ∀ x y, H x y = H y x) : (∀ x y, ePQ (s :: A ++ [a]) x y = true → ePQ (s :: B ++ [b]) x y = false ∧ ePQ (s :: D ++ [d]) x y = false ∧ H x y = false) ∧ (∀ x y, ePQ (s :: B ++ [b]) x y = true → ePQ (s :: A ++ [a]) x y = false ∧ ePQ (s :: D ++ [d]) x y = false ∧ H x y = false) ∧ (∀ x y, ePQ (s :: D ++ [d]) x y = true → ePQ (s :: A ++ [a]) x y = false ∧ ePQ (s :: B ++ [b]) x y = false ∧ H x y = false) := by
  obtain ⟨l1, l2, l3⟩ := T3_legs hT
  obtain ⟨hn, h10, hno⟩ := hT
  simp only [List.cons_append, List.append_assoc, List.nodup_cons, List.nodup_append, List.mem_append, List.mem_cons, List.not_mem_nil, or_false, not_or, ne_eq] at hn
  have hne : ∀ (l : List Nat) x y, l.Nodup → ePQ l x y = true → x ≠ y := fun l x y hl h e => by
    rw [e] at h
    rcases eP_iff.mp h with g | g <;> exact pd_asym hl g g
  have hHno : ∀ (E : List Nat) (e x y : Nat), (∀ v ∈ s :: E, v ∈ s :: A ++ B ++ D) → ePQ (s :: E ++ [e]) x y = true → H x y = false := fun E e x y hE h => by
    rcases leg_end h with g | g
    · exact hno x (hE x g) y
    · rw [hH]; exact hno y (hE y g) x
  have two_no : ∀ (E E' : List Nat) (e e' : Nat), (s :: E ++ [e]).Nodup → (∀ v, v ∈ s :: E ++ [e] → v ∈ s :: E' ++ [e'] → v = s) → ∀ x y, ePQ (s :: E ++ [e]) x y = true → ePQ (s :: E' ++ [e']) x y = false := fun E E' e e' hl hd x y h => by
    cases q : ePQ (s :: E' ++ [e']) x y with
    | false => rfl
    | true =>
      exfalso
      have m1 := eP_mem h
      have m2 := eP_mem q
      exact hne _ x y hl h ((hd x m1.1 m2.1).trans (hd y m1.2 m2.2).symm)
  have mem3 : ∀ (E : List Nat) (e v : Nat), v ∈ s :: E ++ [e] ↔ v = s ∨ v ∈ E ∨ v = e := fun E e v => by simp
  obtain ⟨⟨nsA, nsB, nsD, nsa, nsb, nsd⟩, hA, ⟨hB, ⟨hD, ⟨hab, hbd⟩, hDe⟩, hBe⟩, hAe⟩ := hn
  have dAB : ∀ v, v ∈ s :: A ++ [a] → v ∈ s :: B ++ [b] → v = s := fun v h1 h2 => by
    rw [mem3] at h1 h2
    rcases h1 with e | e | e <;> rcases h2 with f | f | f
    · exact e
    · exact e
    · exact e
    · exact f
    · exact absurd rfl (hAe v e v (Or.inl f))
    · exact absurd f (hAe v e b (Or.inr (Or.inr (Or.inr (Or.inl rfl)))))
    · exact f
    · exact absurd e (hBe v f a (Or.inr (Or.inl rfl)))
    · exact absurd (e.symm.trans f) hab.1
  have dAD : ∀ v, v ∈ s :: A ++ [a] → v ∈ s :: D ++ [d] → v = s := fun v h1 h2 => by
    rw [mem3] at h1 h2
    rcases h1 with e | e | e <;> rcases h2 with f | f | f
    · exact e
    · exact e
    · exact e
    · exact f
    · exact absurd rfl (hAe v e v (Or.inr (Or.inl f)))
    · exact absurd f (hAe v e d (Or.inr (Or.inr (Or.inr (Or.inr rfl)))))
    · exact f
    · exact absurd e (hDe v f a (Or.inl rfl))
    · exact absurd (e.symm.trans f) hab.2
  have dBD : ∀ v, v ∈ s :: B ++ [b] → v ∈ s :: D ++ [d] → v = s := fun v h1 h2 => by
    rw [mem3] at h1 h2
    rcases h1 with e | e | e <;> rcases h2 with f | f | f
    · exact e
    · exact e
    · exact e
    · exact f
    · exact absurd rfl (hBe v e v (Or.inl f))
    · exact absurd f (hBe v e d (Or.inr (Or.inr (Or.inr rfl))))
    · exact f
    · exact absurd e (hDe v f b (Or.inr (Or.inl rfl)))
    · exact absurd (e.symm.trans f) hbd.1
  refine ⟨fun x y h => ⟨two_no A B a b l1 dAB x y h, two_no A D a d l1 dAD x y h, hHno A a x y (fun v hv => ?_) h⟩, fun x y h => ⟨two_no B A b a l2 (fun v h1 h2 => dAB v h2 h1) x y h, two_no B D b d l2 dBD x y h, hHno B b x y (fun v hv => ?_) h⟩, fun x y h => ⟨two_no D A d a l3 (fun v h1 h2 => dAD v h2 h1) x y h, two_no D B d b l3 (fun v h1 h2 => dBD v h2 h1) x y h, hHno D d x y (fun v hv => ?_) h⟩⟩
  · simp only [List.cons_append, List.mem_cons, List.mem_append] at hv ⊢
    rcases hv with h | h <;> simp [h]
  · simp only [List.cons_append, List.mem_cons, List.mem_append] at hv ⊢
    rcases hv with h | h <;> simp [h]
  · simp only [List.cons_append, List.mem_cons, List.mem_append] at hv ⊢
    rcases hv with h | h <;> simp [h]
end
