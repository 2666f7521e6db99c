/-! two sets on a cycle: they cross, or are the same three, or are apart -/
def Rot (C D : List Nat) : Prop := D.Perm C ∧ ∀ q, q ∈ dts D ↔ q ∈ dts C
theorem Rot_sw {C X Y : List Nat} (h : Rot C (X ++ Y)) : Rot C (Y ++ X) := ⟨List.perm_append_comm.trans h.1, fun q => (dts_rot Y X q).trans (h.2 q)⟩
theorem Rot_rfl (C : List Nat) : Rot C C := ⟨List.Perm.refl _, fun _ => Iff.rfl⟩
theorem Rot_at {C D : List Nat} (h : Rot C D) {a : Nat} (ha : a ∈ C) : ∃ R, Rot C (a :: R) := by
  obtain ⟨X, Y, e⟩ := List.append_of_mem (h.1.mem_iff.mpr ha)
  rw [e] at h
  exact ⟨Y ++ X, Rot_sw h⟩
theorem split_first {p : Nat → Bool} : ∀ {l : List Nat}, (∃ x ∈ l, p x = true) → ∃ X x Y, l = X ++ x :: Y ∧ p x = true ∧ ∀ v ∈ X, p v = false
  | [], ⟨x, hx, _⟩ => by cases hx
  | a :: t, h => by
    cases ha : p a with
    | true => exact ⟨[], a, t, rfl, ha, fun v hv => by cases hv⟩
    | false =>
      obtain ⟨x, hx, hp⟩ := h
      have : x ∈ t := by
        rcases List.mem_cons.mp hx with e | e
        · rw [e, ha] at hp; cases hp
        · exact e
      obtain ⟨X, y, Y, e1, e2, e3⟩ := split_first ⟨x, this, hp⟩
      refine ⟨a :: X, y, Y, by rw [e1]; rfl, e2, fun v hv => ?_⟩
      rcases List.mem_cons.mp hv with e | e
      · rw [e]; exact ha
      · exact e3 v e
theorem split_last {p : Nat → Bool} {l : List Nat} (h : ∃ x ∈ l, p x = true) : ∃ X x Y, l = X ++ x :: Y ∧ p x = true ∧ ∀ v ∈ Y, p v = false := by
  obtain ⟨x, hx, hp⟩ := h
  obtain ⟨X, y, Y, e1, e2, e3⟩ := split_first (l := l.reverse) ⟨x, List.mem_reverse.mpr hx, hp⟩
  refine ⟨Y.reverse, y, X.reverse, ?_, e2, fun v hv => e3 v (List.mem_reverse.mp hv)⟩
  have := congrArg List.reverse e1
  simpa using this
theorem none_of {p : Nat → Bool} {l : List Nat} (h : ¬∃ x ∈ l, p x = true) : ∀ v ∈ l, p v = false := fun v hv => by
  cases e : p v with
  | false => rfl
  | true => exact absurd ⟨v, hv, e⟩ h
def skew (C : List Nat) (A B : Nat → Bool) : Prop := ∃ a X b Y a' X' b' Y', Rot C (a :: X ++ b :: Y ++ a' :: X' ++ b' :: Y') ∧ A a = true ∧ A a' = true ∧ B b = true ∧ B b' = true
def trip (C : List Nat) (A B : Nat → Bool) : Prop := ∃ a X b Y d W, Rot C (a :: X ++ b :: Y ++ d :: W) ∧ (A a = true ∧ A b = true ∧ A d = true) ∧ B a = true ∧ B b = true ∧ B d = true
def apart (C : List Nat) (A B : Nat → Bool) : Prop := ∃ x I y O, Rot C (x :: I ++ y :: O) ∧ (B x = true ∧ B y = true) ∧ (∀ v ∈ I, A v = false) ∧ ∀ v ∈ O, B v = false
section
variable {C : List Nat} {A B : Nat → Bool}
theorem pos_half (hAB : ∀ v ∈ C, A v = true → B v = true) {a1 a2 : Nat} {R1 R2 : List Nat} (hR : Rot C (a1 :: R1 ++ a2 :: R2)) (h1 : A a1 = true) (h2 : A a2 = true) (hn : ∀ v ∈ R1, B v = false) : skew C A B ∨ trip C A B ∨ apart C A B := by
  have hm : ∀ v, v ∈ a1 :: R1 ++ a2 :: R2 → v ∈ C := fun v hv => hR.1.mem_iff.mp hv
  have hb1 := hAB a1 (hm a1 (by simp)) h1
  have hb2 := hAB a2 (hm a2 (by simp)) h2
  by_cases h3 : ∃ v ∈ R2, A v = true
  · obtain ⟨a3, ha3, hA3⟩ := h3
    have hb3 := hAB a3 (hm a3 (by simp [ha3])) hA3
    obtain ⟨R3, R4, e⟩ := List.append_of_mem ha3
    by_cases h4 : ∃ v ∈ R3, B v = true
    · obtain ⟨b, hb, hB⟩ := h4
      obtain ⟨X, Y, e2⟩ := List.append_of_mem hb
      refine Or.inl ⟨a2, X, b, Y, a3, R4, a1, R1, ?_, h2, hA3, hB, hb1⟩
      have := Rot_sw hR
      rw [e, e2] at this
      simpa using this
    · by_cases h5 : ∃ v ∈ R4, B v = true
      · obtain ⟨b, hb, hB⟩ := h5
        obtain ⟨X, Y, e2⟩ := List.append_of_mem hb
        refine Or.inl ⟨a3, X, b, Y, a1, R1, a2, R3, ?_, hA3, h1, hB, hb2⟩
        have h6 : Rot C ((a1 :: R1 ++ a2 :: R3) ++ (a3 :: R4)) := by
          rw [e] at hR
          simpa using hR
        have := Rot_sw h6
        rw [e2] at this
        simpa using this
      · refine Or.inr (Or.inl ⟨a1, R1, a2, R3, a3, R4, ?_, ⟨h1, h2, hA3⟩, hb1, hb2, hb3⟩)
        rw [e] at hR
        simpa using hR
  · exact Or.inr (Or.inr ⟨a2, R2, a1, R1, Rot_sw hR, ⟨hb2, hb1⟩, none_of h3, hn⟩)
theorem pos_three (hA : ∃ x y, x ∈ C ∧ y ∈ C ∧ x ≠ y ∧ A x = true ∧ A y = true) (hB : ∃ x y, x ∈ C ∧ y ∈ C ∧ x ≠ y ∧ B x = true ∧ B y = true) : skew C A B ∨ trip C A B ∨ apart C A B := by
  by_cases h : ∃ a ∈ C, A a = true ∧ B a = false
  · obtain ⟨a, ha, hAa, hBa⟩ := h
    obtain ⟨R, hR⟩ := Rot_at (Rot_rfl C) ha
    obtain ⟨b1, b2, m1, m2, hne, hb1, hb2⟩ := hB
    have inR : ∀ b, b ∈ C → B b = true → b ∈ R := fun b hb hB => by
      rcases List.mem_cons.mp (hR.1.mem_iff.mpr hb) with e | e
      · rw [e, hBa] at hB; cases hB
      · exact e
    obtain ⟨R1, b, R', e1, e2, e3⟩ := split_first (p := B) ⟨b1, inR b1 m1 hb1, hb1⟩
    have hex : ∃ x ∈ R', B x = true := by
      have go : ∀ x, x ∈ C → B x = true → x ≠ b → ∃ x ∈ R', B x = true := fun x hx hB hn => by
        have := inR x hx hB
        rw [e1] at this
        rcases List.mem_append.mp this with g | g
        · rw [e3 x g] at hB; cases hB
        · rcases List.mem_cons.mp g with g | g
          · exact absurd g hn
          · exact ⟨x, g, hB⟩
      by_cases e : b1 = b
      · exact go b2 m2 hb2 (fun q => hne (e.trans q.symm))
      · exact go b1 m1 hb1 e
    obtain ⟨R2, b', R3, f1, f2, f3⟩ := split_last (p := B) hex
    by_cases h4 : ∃ v ∈ R2, A v = true
    · obtain ⟨a', ha', hA'⟩ := h4
      obtain ⟨X, Y, e4⟩ := List.append_of_mem ha'
      refine Or.inl ⟨a, R1, b, X, a', Y, b', R3, ?_, hAa, hA', e2, f2⟩
      rw [e1, f1, e4] at hR
      simpa using hR
    · refine Or.inr (Or.inr ⟨b, R2, b', R3 ++ a :: R1, ?_, ⟨e2, f2⟩, none_of h4, fun v hv => ?_⟩)
      · have h5 : Rot C ((a :: R1) ++ (b :: R2 ++ b' :: R3)) := by
          rw [e1, f1] at hR
          simpa using hR
        have := Rot_sw h5
        simpa using this
      · rcases List.mem_append.mp hv with g | g
        · exact f3 v g
        · rcases List.mem_cons.mp g with g | g
          · rw [g]; exact hBa
          · exact e3 v g
  · have hAB : ∀ v ∈ C, A v = true → B v = true := fun v hv hAv => by
      cases e : B v with
      | true => rfl
      | false => exact absurd ⟨v, hv, hAv, e⟩ h
    obtain ⟨a1, a2, m1, m2, hne, h1, h2⟩ := hA
    obtain ⟨R, hR⟩ := Rot_at (Rot_rfl C) m1
    have : a2 ∈ R := by
      rcases List.mem_cons.mp (hR.1.mem_iff.mpr m2) with e | e
      · exact absurd e.symm hne
      · exact e
    obtain ⟨R1, R2, e⟩ := List.append_of_mem this
    rw [e] at hR
    have hR' : Rot C (a1 :: R1 ++ a2 :: R2) := hR
    by_cases g1 : ∃ v ∈ R1, B v = true
    · by_cases g2 : ∃ v ∈ R2, B v = true
      · obtain ⟨b, hb, hB1⟩ := g1
        obtain ⟨b', hb', hB2⟩ := g2
        obtain ⟨X, Y, e1⟩ := List.append_of_mem hb
        obtain ⟨X', Y', e2⟩ := List.append_of_mem hb'
        refine Or.inl ⟨a1, X, b, Y, a2, X', b', Y', ?_, h1, h2, hB1, hB2⟩
        rw [e1, e2] at hR'
        simpa using hR'
      · exact pos_half hAB (Rot_sw hR') h2 h1 (none_of g2)
    · exact pos_half hAB hR' h1 h2 (none_of g1)
end
theorem Rot_eS {C D : List Nat} (h : Rot C D) : eSQ D = eSQ C := eS_dts h.2
theorem Rot_mem {C D : List Nat} (h : Rot C D) (v : Nat) : v ∈ D ↔ v ∈ C := h.1.mem_iff
theorem Rot_cyl {C D : List Nat} (h : Rot C D) (hc : cyl C) : cyl D := ⟨h.1.nodup_iff.mpr hc.1, by rw [h.1.length_eq]; exact hc.2.1, fun z hz => hc.2.2 z ((Rot_mem h z).mp hz)⟩
theorem Rot_CUT {m : Nat} {Z : Nat → xG} {u w : Nat} {C D : List Nat} {U : Nat → Bool} (h : Rot C D) (hc : CUT m Z u w C U) : CUT m Z u w D U := ⟨Rot_cyl h hc.1, by rw [Rot_eS h]; exact hc.2.1, hc.2.2⟩
