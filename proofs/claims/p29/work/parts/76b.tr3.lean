/-! the family of a graph with a tree of three legs, without the tree -/
def gT (H : xG) (s : Nat) (A B D : List Nat) (a b d : Nat) : xG := fun x y => H x y || T3 s A B D a b d x y
/-- a family of chains of H: one from a to b, one from a to d, one from b to d, the rest even -/
def TF (H : xG) (a b d m : Nat) (W : Nat → xG) (i j k : Nat) : Prop := (∀ n, n < m → ch H (W n)) ∧ (∀ x y n1 n2 n3, n1 < m → n2 < m → n3 < m → W n1 x y = true → W n2 x y = true → W n3 x y = true → n1 = n2 ∨ n1 = n3 ∨ n2 = n3) ∧ (i < m ∧ j < m ∧ k < m) ∧ (i ≠ j ∧ i ≠ k ∧ j ≠ k) ∧
  ((∀ v, v < 10 → od (W i) v = bits a b d true true false v) ∧ (∀ v, v < 10 → od (W j) v = bits a b d true false true v) ∧ (∀ v, v < 10 → od (W k) v = bits a b d false true true v) ∧ ∀ n, n < m → n ≠ i → n ≠ j → n ≠ k → ∀ v, v < 10 → od (W n) v = false) ∧
  ∀ X x y z, ch H X → (∀ v, v < 10 → od X v = bits a b d x y z v) → ((x ^^ y) ^^ z) = false → ∃ U, X = sU W U m ∧ U i = false ∧ U j = x ∧ U k = y
section
variable {H : xG} {s : Nat} {A B D : List Nat} {a b d : Nat}
theorem gT_iff {x y : Nat} : gT H s A B D a b d x y = true ↔ H x y = true ∨ ePQ (s :: A ++ [a]) x y = true ∨ ePQ (s :: B ++ [b]) x y = true ∨ ePQ (s :: D ++ [d]) x y = true := by
  unfold gT T3
  rw [Bool.or_eq_true, Bool.or_eq_true, Bool.or_eq_true, or_assoc]
theorem leg_const {G0 E : xG} {s a : Nat} {A : List Nat} (hn : (s :: A ++ [a]).Nodup) (h10 : ∀ v ∈ s :: A ++ [a], v < 10) (hno : ∀ v ∈ A, ∀ y, G0 v y = false) (hE : ev (addP G0 (s :: A ++ [a])) E) : ∃ b, ∀ x y, ePQ (s :: A ++ [a]) x y = true → E x y = b :=
  path_all (PV := fun v => !decide (v ∈ A)) (fun x y h => by
    rw [Bool.not_eq_true', decide_eq_false_iff_not]
    intro hx
    rw [hno x hx y] at h
    cases h) hn h10 (fun p hp => by rw [decide_eq_true hp]; rfl) hE
theorem leg_head (s a : Nat) (A : List Nat) : ∃ x, ePQ (s :: A ++ [a]) s x = true := by
  obtain ⟨x, D, h⟩ := cons_ex A a
  exact ⟨x, eP_iff.mpr (Or.inl (pd_head h))⟩
/-- values on the legs, and what is left on H -/
theorem T3_split (hT : T3ok H s A B D a b d) (hg : gok H) {E : xG} (hE : ev (gT H s A B D a b d) E) : ∃ x y z, (∀ p q, ePQ (s :: A ++ [a]) p q = true → E p q = x) ∧ (∀ p q, ePQ (s :: B ++ [b]) p q = true → E p q = y) ∧ (∀ p q, ePQ (s :: D ++ [d]) p q = true → E p q = z) ∧ ((x ^^ y) ^^ z) = false ∧
    ch H (xr E (xr (sc x (ePQ (s :: A ++ [a]))) (xr (sc y (ePQ (s :: B ++ [b]))) (sc z (ePQ (s :: D ++ [d])))))) ∧ ∀ v, v < 10 → od (xr E (xr (sc x (ePQ (s :: A ++ [a]))) (xr (sc y (ePQ (s :: B ++ [b]))) (sc z (ePQ (s :: D ++ [d])))))) v = bits a b d x y z v := by
  obtain ⟨l1, l2, l3⟩ := T3_legs hT
  obtain ⟨d1, d2, d3⟩ := T3_dis hT hg.1
  obtain ⟨hn, h10, hno⟩ := id hT
  have m10 : ∀ (E : List Nat) (e : Nat), (∀ v ∈ s :: E ++ [e], v ∈ s :: A ++ B ++ D ++ [a, b, d]) → ∀ v ∈ s :: E ++ [e], v < 10 := fun E e h v hv => h10 v (h v hv)
  have t1 := m10 A a (fun v hv => by simp at hv ⊢; rcases hv with h | h | h <;> simp [h])
  have t2 := m10 B b (fun v hv => by simp at hv ⊢; rcases hv with h | h | h <;> simp [h])
  have t3 := m10 D d (fun v hv => by simp at hv ⊢; rcases hv with h | h | h <;> simp [h])
  have hn2 := hn
  simp only [List.cons_append, List.append_assoc, List.nodup_cons, List.nodup_append, List.mem_append, List.mem_cons, List.not_mem_nil, or_false, not_or, ne_eq] at hn2
  obtain ⟨⟨nsA, nsB, nsD, nsa, nsb, nsd⟩, hA, ⟨hB, ⟨hD, ⟨hab, hbd⟩, hDe⟩, hBe⟩, hAe⟩ := hn2
  have inner : ∀ (E1 E2 E3 : List Nat) (e2 e3 : Nat), (∀ v ∈ E1, v ∈ s :: A ++ B ++ D) → (∀ v ∈ E1, v ∉ s :: E2 ++ [e2] ∧ v ∉ s :: E3 ++ [e3]) → ∀ v ∈ E1, ∀ y, (H v y || (ePQ (s :: E2 ++ [e2]) v y || ePQ (s :: E3 ++ [e3]) v y)) = false := fun E1 E2 E3 e2 e3 h1 h2 v hv y => by
    rw [hno v (h1 v hv) y]
    have n := h2 v hv
    cases q1 : ePQ (s :: E2 ++ [e2]) v y with
    | true => exact absurd (eP_mem q1).1 n.1
    | false =>
      cases q2 : ePQ (s :: E3 ++ [e3]) v y with
      | true => exact absurd (eP_mem q2).1 n.2
      | false => rfl
  have cG : ∀ (E1 E2 E3 : List Nat) (e1 e2 e3 : Nat), (∀ p q, gT H s A B D a b d p q = true → H p q = true ∨ ePQ (s :: E1 ++ [e1]) p q = true ∨ ePQ (s :: E2 ++ [e2]) p q = true ∨ ePQ (s :: E3 ++ [e3]) p q = true) → ev (addP (fun v y => H v y || (ePQ (s :: E2 ++ [e2]) v y || ePQ (s :: E3 ++ [e3]) v y)) (s :: E1 ++ [e1])) E := fun E1 E2 E3 e1 e2 e3 h => ev_mono (fun p q hpq => by
    rcases h p q hpq with g | g | g | g
    · exact addP_iff.mpr (Or.inl (by rw [g]; rfl))
    · exact addP_iff.mpr (Or.inr (eP_iff.mp g))
    · exact addP_iff.mpr (Or.inl (by rw [g]; simp))
    · exact addP_iff.mpr (Or.inl (by rw [g]; simp))) hE
  obtain ⟨x, hx⟩ := leg_const l1 t1 (inner A B D b d (fun v hv => by simp [hv]) (fun v hv => by
    simp only [List.cons_append, List.mem_cons, List.mem_append, List.not_mem_nil, or_false, not_or]
    exact ⟨⟨fun e => nsA (e ▸ hv), fun e => hAe v hv v (Or.inl e) rfl, fun e => hAe v hv b (Or.inr (Or.inr (Or.inr (Or.inl rfl)))) e⟩, fun e => nsA (e ▸ hv), fun e => hAe v hv v (Or.inr (Or.inl e)) rfl, fun e => hAe v hv d (Or.inr (Or.inr (Or.inr (Or.inr rfl)))) e⟩)) (cG A B D a b d (fun p q h => gT_iff.mp h))
  obtain ⟨y, hy⟩ := leg_const l2 t2 (inner B A D a d (fun v hv => by simp [hv]) (fun v hv => by
    simp only [List.cons_append, List.mem_cons, List.mem_append, List.not_mem_nil, or_false, not_or]
    exact ⟨⟨fun e => nsB (e ▸ hv), fun e => hAe v e v (Or.inl hv) rfl, fun e => hBe v hv a (Or.inr (Or.inl rfl)) e⟩, fun e => nsB (e ▸ hv), fun e => hBe v hv v (Or.inl e) rfl, fun e => hBe v hv d (Or.inr (Or.inr (Or.inr rfl))) e⟩)) (cG B A D b a d (fun p q h => by
    rcases gT_iff.mp h with g | g | g | g
    · exact Or.inl g
    · exact Or.inr (Or.inr (Or.inl g))
    · exact Or.inr (Or.inl g)
    · exact Or.inr (Or.inr (Or.inr g))))
  obtain ⟨z, hz⟩ := leg_const l3 t3 (inner D A B a b (fun v hv => by simp [hv]) (fun v hv => by
    simp only [List.cons_append, List.mem_cons, List.mem_append, List.not_mem_nil, or_false, not_or]
    exact ⟨⟨fun e => nsD (e ▸ hv), fun e => hAe v e v (Or.inr (Or.inl hv)) rfl, fun e => hDe v hv a (Or.inl rfl) e⟩, fun e => nsD (e ▸ hv), fun e => hBe v e v (Or.inl hv) rfl, fun e => hDe v hv b (Or.inr (Or.inl rfl)) e⟩)) (cG D A B d a b (fun p q h => by
    rcases gT_iff.mp h with g | g | g | g
    · exact Or.inl g
    · exact Or.inr (Or.inr (Or.inl g))
    · exact Or.inr (Or.inr (Or.inr g))
    · exact Or.inr (Or.inl g)))
  have hch : ch H (xr E (xr (sc x (ePQ (s :: A ++ [a]))) (xr (sc y (ePQ (s :: B ++ [b]))) (sc z (ePQ (s :: D ++ [d])))))) := by
    refine ⟨fun p q => ?_, fun p q h => ?_⟩
    · simp only [xr, sc]
      rw [hE.1.1 p q, eP_sym _ p q, eP_sym _ p q, eP_sym _ p q]
    · simp only [xr, sc] at h
      cases q1 : ePQ (s :: A ++ [a]) p q with
      | true => rw [(d1 p q q1).1, (d1 p q q1).2.1, q1, hx p q q1] at h; simp at h
      | false =>
        cases q2 : ePQ (s :: B ++ [b]) p q with
        | true => rw [(d2 p q q2).2.1, q1, q2, hy p q q2] at h; simp at h
        | false =>
          cases q3 : ePQ (s :: D ++ [d]) p q with
          | true => rw [q1, q2, q3, hz p q q3] at h; simp at h
          | false =>
            rw [q1, q2, q3] at h
            simp at h
            rcases gT_iff.mp (hE.1.2 p q h) with g | g | g | g
            · exact g
            · rw [q1] at g; cases g
            · rw [q2] at g; cases g
            · rw [q3] at g; cases g
  have hod : ∀ v, v < 10 → od (xr E (xr (sc x (ePQ (s :: A ++ [a]))) (xr (sc y (ePQ (s :: B ++ [b]))) (sc z (ePQ (s :: D ++ [d])))))) v = (bits a b d x y z v ^^ (((x ^^ y) ^^ z) && decide (v = s))) := fun v hv => by
    rw [od_xr, od_xr, od_xr, od_sc, od_sc, od_sc, hE.2 v hv, od_path l1 t1, od_path l2 t2, od_path l3 t3]
    unfold bits
    cases x <;> cases y <;> cases z <;> cases decide (v = s) <;> cases decide (v = a) <;> cases decide (v = b) <;> cases decide (v = d) <;> rfl
  have hs10 : s < 10 := h10 s (by simp)
  have hpar : ((x ^^ y) ^^ z) = false := by
    have h0 := hod s hs10
    have h1 : od (xr E (xr (sc x (ePQ (s :: A ++ [a]))) (xr (sc y (ePQ (s :: B ++ [b]))) (sc z (ePQ (s :: D ++ [d])))))) s = false := xs_0 fun y' _ => by
      cases q : (xr E (xr (sc x (ePQ (s :: A ++ [a]))) (xr (sc y (ePQ (s :: B ++ [b]))) (sc z (ePQ (s :: D ++ [d])))))) s y' with
      | false => rfl
      | true => have := hch.2 s y' q; rw [hno s (by simp) y'] at this; cases this
    rw [h1] at h0
    unfold bits at h0
    rw [decide_eq_false nsa, decide_eq_false nsb, decide_eq_false nsd, decide_eq_true rfl] at h0
    revert h0
    cases x <;> cases y <;> cases z <;> simp
  refine ⟨x, y, z, hx, hy, hz, hpar, hch, fun v hv => ?_⟩
  rw [hod v hv, hpar]
  simp
/-- and back -/
theorem T3_back (hT : T3ok H s A B D a b d) {X : xG} {x y z : Bool} (hX : ch H X) (ho : ∀ v, v < 10 → od X v = bits a b d x y z v) (hp : ((x ^^ y) ^^ z) = false) : ev (gT H s A B D a b d) (xr X (xr (sc x (ePQ (s :: A ++ [a]))) (xr (sc y (ePQ (s :: B ++ [b]))) (sc z (ePQ (s :: D ++ [d])))))) := by
  obtain ⟨l1, l2, l3⟩ := T3_legs hT
  obtain ⟨hn, h10, hno⟩ := id hT
  have m10 : ∀ (E : List Nat) (e : Nat), (∀ v ∈ s :: E ++ [e], v ∈ s :: A ++ B ++ D ++ [a, b, d]) → ∀ v ∈ s :: E ++ [e], v < 10 := fun E e h v hv => h10 v (h v hv)
  have t1 := m10 A a (fun v hv => by simp at hv ⊢; rcases hv with h | h | h <;> simp [h])
  have t2 := m10 B b (fun v hv => by simp at hv ⊢; rcases hv with h | h | h <;> simp [h])
  have t3 := m10 D d (fun v hv => by simp at hv ⊢; rcases hv with h | h | h <;> simp [h])
  refine ⟨ch_xr (ch_mono (fun p q h => gT_iff.mpr (Or.inl h)) hX) (ch_xr (ch_sc ⟨eP_sym _, fun p q h => gT_iff.mpr (Or.inr (Or.inl h))⟩) (ch_xr (ch_sc ⟨eP_sym _, fun p q h => gT_iff.mpr (Or.inr (Or.inr (Or.inl h)))⟩) (ch_sc ⟨eP_sym _, fun p q h => gT_iff.mpr (Or.inr (Or.inr (Or.inr h)))⟩))), fun v hv => ?_⟩
  rw [od_xr, od_xr, od_xr, od_sc, od_sc, od_sc, ho v hv, od_path l1 t1, od_path l2 t2, od_path l3 t3]
  unfold bits
  revert hp
  cases x <;> cases y <;> cases z <;> cases decide (v = s) <;> cases decide (v = a) <;> cases decide (v = b) <;> cases decide (v = d) <;> simp
/-- three sets of two among numbers of which each lies in none or two of the sets -/
theorem three_sets {m : Nat} {f g h : Nat → Bool} (hp : ∀ n, n < m → ((f n ^^ g n) ^^ h n) = false) (hf : ∃ p q, p < m ∧ q < m ∧ p ≠ q ∧ f p = true ∧ f q = true ∧ ∀ n, n < m → f n = true → n = p ∨ n = q) (hg : ∃ p q, p < m ∧ q < m ∧ p ≠ q ∧ g p = true ∧ g q = true ∧ ∀ n, n < m → g n = true → n = p ∨ n = q) (hh : ∃ p q, p < m ∧ q < m ∧ p ≠ q ∧ h p = true ∧ h q = true ∧ ∀ n, n < m → h n = true → n = p ∨ n = q) :
    ∃ i j k, (i < m ∧ j < m ∧ k < m) ∧ (i ≠ j ∧ i ≠ k ∧ j ≠ k) ∧ (f i = true ∧ g i = true ∧ h i = false) ∧ (f j = true ∧ g j = false ∧ h j = true) ∧ (f k = false ∧ g k = true ∧ h k = true) ∧ ∀ n, n < m → n ≠ i → n ≠ j → n ≠ k → f n = false ∧ g n = false ∧ h n = false := by
  obtain ⟨a1, a2, la1, la2, na, fa1, fa2, fu⟩ := hf
  obtain ⟨b1, b2, lb1, lb2, nb, gb1, gb2, gu⟩ := hg
  obtain ⟨d1, d2, ld1, ld2, nd, hd1, hd2, hu⟩ := hh
  have main : ∀ i j, i < m → j < m → i ≠ j → f i = true → f j = true → (∀ n, n < m → f n = true → n = i ∨ n = j) → g i = true → g j = false → ∃ i j k, (i < m ∧ j < m ∧ k < m) ∧ (i ≠ j ∧ i ≠ k ∧ j ≠ k) ∧ (f i = true ∧ g i = true ∧ h i = false) ∧ (f j = true ∧ g j = false ∧ h j = true) ∧ (f k = false ∧ g k = true ∧ h k = true) ∧ ∀ n, n < m → n ≠ i → n ≠ j → n ≠ k → f n = false ∧ g n = false ∧ h n = false := by
    intro i j hi hj hij fi fj fu gi gj
    have hhi : h i = false := by have := hp i hi; rw [fi, gi] at this; simpa using this
    have hhj : h j = true := by have := hp j hj; rw [fj, gj] at this; simpa using this
    obtain ⟨k, hk, hki, gk, gu2⟩ : ∃ k, k < m ∧ k ≠ i ∧ g k = true ∧ ∀ n, n < m → g n = true → n = i ∨ n = k := by
      rcases gu i hi gi with e | e
      · exact ⟨b2, lb2, fun q => nb (e.symm.trans q.symm), gb2, fun n hn q => by rcases gu n hn q with r | r; exact Or.inl (r.trans e.symm); exact Or.inr r⟩
      · exact ⟨b1, lb1, fun q => nb (q.trans e), gb1, fun n hn q => by rcases gu n hn q with r | r; exact Or.inr r; exact Or.inl (r.trans e.symm)⟩
    have hkj : k ≠ j := fun e => by rw [e, gj] at gk; cases gk
    have fk : f k = false := by
      cases q : f k with
      | false => rfl
      | true => rcases fu k hk q with e | e <;> contradiction
    have hhk : h k = true := by have := hp k hk; rw [fk, gk] at this; simpa using this
    refine ⟨i, j, k, ⟨hi, hj, hk⟩, ⟨hij, fun e => hki e.symm, fun e => hkj e.symm⟩, ⟨fi, gi, hhi⟩, ⟨fj, gj, hhj⟩, ⟨fk, gk, hhk⟩, fun n hn n1 n2 n3 => ?_⟩
    have e1 : f n = false := by
      cases q : f n with
      | false => rfl
      | true => rcases fu n hn q with e | e <;> contradiction
    have e2 : g n = false := by
      cases q : g n with
      | false => rfl
      | true => rcases gu2 n hn q with e | e <;> contradiction
    have e3 := hp n hn
    rw [e1, e2] at e3
    exact ⟨e1, e2, by simpa using e3⟩
  cases g1 : g a1 with
  | true =>
    cases g2 : g a2 with
    | false => exact main a1 a2 la1 la2 na fa1 fa2 fu g1 g2
    | true =>
      exfalso
      -- f and g are the same two, h none
      have hfg : ∀ n, n < m → f n = g n := fun n hn => by
        rw [Bool.eq_iff_iff]
        constructor
        · intro q; rcases fu n hn q with e | e <;> rw [e] <;> assumption
        · intro q
          have ga := gu a1 la1 g1
          have gb := gu a2 la2 g2
          rcases gu n hn q with e | e
          · rcases ga with r | r
            · rw [e, ← r]; exact fa1
            · rcases gb with r2 | r2
              · rw [e, ← r2]; exact fa2
              · exact absurd (r.trans r2.symm) na
          · rcases ga with r | r
            · rcases gb with r2 | r2
              · exact absurd (r.trans r2.symm) na
              · rw [e, ← r2]; exact fa2
            · rw [e, ← r]; exact fa1
      have := hp d1 ld1
      rw [hfg d1 ld1, hd1] at this
      revert this
      cases g d1 <;> simp
  | false =>
    cases g2 : g a2 with
    | true => exact main a2 a1 la2 la1 (fun e => na e.symm) fa2 fa1 (fun n hn q => (fu n hn q).symm) g2 g1
    | false =>
      exfalso
      have h1 : h a1 = true := by have := hp a1 la1; rw [fa1, g1] at this; simpa using this
      have h2 : h a2 = true := by have := hp a2 la2; rw [fa2, g2] at this; simpa using this
      have hfh : ∀ n, n < m → f n = h n := fun n hn => by
        rw [Bool.eq_iff_iff]
        constructor
        · intro q; rcases fu n hn q with e | e <;> rw [e] <;> assumption
        · intro q
          have ga := hu a1 la1 h1
          have gb := hu a2 la2 h2
          rcases hu n hn q with e | e
          · rcases ga with r | r
            · rw [e, ← r]; exact fa1
            · rcases gb with r2 | r2
              · rw [e, ← r2]; exact fa2
              · exact absurd (r.trans r2.symm) na
          · rcases ga with r | r
            · rcases gb with r2 | r2
              · exact absurd (r.trans r2.symm) na
              · rw [e, ← r2]; exact fa2
            · rw [e, ← r]; exact fa1
      have := hp b1 lb1
      rw [hfh b1 lb1, gb1] at this
      revert this
      cases h b1 <;> simp
theorem TF_ex (hT : T3ok H s A B D a b d) (hg : gok H) (hab : ∃ X, ch H X ∧ ∀ v, v < 10 → od X v = bits a b d true true false v) (had : ∃ X, ch H X ∧ ∀ v, v < 10 → od X v = bits a b d true false true v) (hp : PW (gT H s A B D a b d)) : ∃ m W i j k, TF H a b d m W i j k := by
  obtain ⟨m, Z, f1, f2, f3, f4⟩ := PW_FS hp
  obtain ⟨d1, d2, d3⟩ := T3_dis hT hg.1
  obtain ⟨xa, hxa⟩ := leg_head s a A
  obtain ⟨xb, hxb⟩ := leg_head s b B
  obtain ⟨xd, hxd⟩ := leg_head s d D
  let al : Nat → Bool := fun n => Z n s xa
  let be : Nat → Bool := fun n => Z n s xb
  let ga : Nat → Bool := fun n => Z n s xd
  let T : Nat → xG := fun n => xr (sc (al n) (ePQ (s :: A ++ [a]))) (xr (sc (be n) (ePQ (s :: B ++ [b]))) (sc (ga n) (ePQ (s :: D ++ [d]))))
  have hW : ∀ n, n < m → ((al n ^^ be n) ^^ ga n) = false ∧ ch H (xr (Z n) (T n)) ∧ ∀ v, v < 10 → od (xr (Z n) (T n)) v = bits a b d (al n) (be n) (ga n) v := fun n hn => by
    obtain ⟨x, y, z, hx, hy, hz, hpar, hch, hod⟩ := T3_split hT hg (f1 n hn)
    have e1 : x = al n := (hx s xa hxa).symm
    have e2 : y = be n := (hy s xb hxb).symm
    have e3 : z = ga n := (hz s xd hxd).symm
    rw [e1, e2, e3] at hpar hch hod
    exact ⟨hpar, hch, hod⟩
  -- each leg lies in just two members
  have hev : ∀ x y z, (∃ X, ch H X ∧ ∀ v, v < 10 → od X v = bits a b d x y z v) → ((x ^^ y) ^^ z) = false → ∃ E, ev (gT H s A B D a b d) E ∧ E s xa = x ∧ E s xb = y ∧ E s xd = z := fun x y z ⟨X, h1, h2⟩ h3 => by
    have hX0 : ∀ q, X s q = false := fun q => by
      cases e : X s q with
      | false => rfl
      | true => have := h1.2 s q e; rw [hT.2.2 s (by simp) q] at this; cases this
    refine ⟨_, T3_back hT h1 h2 h3, ?_, ?_, ?_⟩
    · simp only [xr, sc, hX0, hxa, (d1 _ _ hxa).1, (d1 _ _ hxa).2.1]; simp
    · simp only [xr, sc, hX0, hxb, (d2 _ _ hxb).1, (d2 _ _ hxb).2.1]; simp
    · simp only [xr, sc, hX0, hxd, (d3 _ _ hxd).1, (d3 _ _ hxd).2.1]; simp
  have two : ∀ q, (∃ E, ev (gT H s A B D a b d) E ∧ E s q = true) → ∃ i j, i < m ∧ j < m ∧ i ≠ j ∧ Z i s q = true ∧ Z j s q = true ∧ ∀ n, n < m → Z n s q = true → n = i ∨ n = j := fun q ⟨E, h1, h2⟩ => by
    obtain ⟨U, hU⟩ := f3 E h1
    rw [hU] at h2
    obtain ⟨i, hi, h3⟩ := xs_ex h2
    rw [Bool.and_eq_true] at h3
    obtain ⟨j, hj, hne, h4, h5⟩ := f2 s q i hi h3.2
    exact ⟨i, j, hi, hj, fun e => hne e.symm, h3.2, h4, h5⟩
  obtain ⟨E1, e1, e2, e3, _⟩ := hev true true false hab rfl
  obtain ⟨E2, e4, _, _, e5⟩ := hev true false true had rfl
  obtain ⟨i, j, k, hl, hne, ⟨i1, i2, i3⟩, ⟨j1, j2, j3⟩, ⟨k1, k2, k3⟩, hrest⟩ := three_sets (f := al) (g := be) (h := ga) (fun n hn => (hW n hn).1) (two xa ⟨E1, e1, e2⟩) (two xb ⟨E1, e1, e3⟩) (two xd ⟨E2, e4, e5⟩)
  refine ⟨m, fun n => xr (Z n) (T n), i, j, k, fun n hn => (hW n hn).2.1, fun x y n1 n2 n3 h1 h2 h3 q1 q2 q3 => ?_, hl, hne, ⟨fun v hv => ?_, fun v hv => ?_, fun v hv => ?_, fun n hn a1 a2 a3 v hv => ?_⟩, fun X x y z hX hod hpar => ?_⟩
  · have inZ : ∀ n, n < m → xr (Z n) (T n) x y = true → Z n x y = true := fun n hn q => by
      have hHxy := (hW n hn).2.1.2 x y q
      have noleg : ∀ (E : List Nat) (e : Nat), (∀ p q, ePQ (s :: E ++ [e]) p q = true → H p q = false) → ePQ (s :: E ++ [e]) x y = false := fun E e h => by
        cases r : ePQ (s :: E ++ [e]) x y with
        | false => rfl
        | true => rw [h x y r] at hHxy; cases hHxy
      have r1 := noleg A a (fun p q h => (d1 p q h).2.2)
      have r2 := noleg B b (fun p q h => (d2 p q h).2.2)
      have r3 := noleg D d (fun p q h => (d3 p q h).2.2)
      have q' : (Z n x y ^^ ((al n && ePQ (s :: A ++ [a]) x y) ^^ ((be n && ePQ (s :: B ++ [b]) x y) ^^ (ga n && ePQ (s :: D ++ [d]) x y)))) = true := q
      rw [r1, r2, r3] at q'
      simpa using q'
    exact two2_of (tw_two2 f2) h1 h2 h3 (inZ n1 h1 q1) (inZ n2 h2 q2) (inZ n3 h3 q3)
  · rw [(hW i hl.1).2.2 v hv, i1, i2, i3]
  · rw [(hW j hl.2.1).2.2 v hv, j1, j2, j3]
  · rw [(hW k hl.2.2).2.2 v hv, k1, k2, k3]
  · obtain ⟨r1, r2, r3⟩ := hrest n hn a1 a2 a3
    rw [(hW n hn).2.2 v hv, r1, r2, r3]
    simp [bits]
  · have hX0 : ∀ q, X s q = false := fun q => by
      cases e : X s q with
      | false => rfl
      | true => have := hX.2 s q e; rw [hT.2.2 s (by simp) q] at this; cases this
    obtain ⟨U, hU, hUi⟩ : ∃ U, xr X (xr (sc x (ePQ (s :: A ++ [a]))) (xr (sc y (ePQ (s :: B ++ [b]))) (sc z (ePQ (s :: D ++ [d]))))) = sU Z U m ∧ U i = false := by
      obtain ⟨U, hU⟩ := f3 _ (T3_back hT hX hod hpar)
      cases e : U i with
      | false => exact ⟨U, hU, e⟩
      | true => exact ⟨fun n => !U n, by rw [sU_compl f2]; exact hU, by dsimp only; rw [e]; rfl⟩
    -- the values at the legs' first edges
    have vx : x = xs (fun n => U n && al n) m := by
      have h1 := congrFun (congrFun hU s) xa
      simp only [xr, sc, hX0, hxa, (d1 _ _ hxa).1, (d1 _ _ hxa).2.1] at h1
      simp at h1
      exact h1
    have vy : y = xs (fun n => U n && be n) m := by
      have h1 := congrFun (congrFun hU s) xb
      simp only [xr, sc, hX0, hxb, (d2 _ _ hxb).1, (d2 _ _ hxb).2.1] at h1
      simp at h1
      exact h1
    have vz : z = xs (fun n => U n && ga n) m := by
      have h1 := congrFun (congrFun hU s) xd
      simp only [xr, sc, hX0, hxd, (d3 _ _ hxd).1, (d3 _ _ hxd).2.1] at h1
      simp at h1
      exact h1
    have vx2 : x = (U i ^^ U j) := by
      rw [vx, xs_two hl.1 hl.2.1 hne.1 (fun n hn a1 a2 => by
        by_cases e : n = k
        · rw [e, k1]; simp
        · rw [(hrest n hn a1 a2 e).1]; simp), i1, j1]
      simp
    have vy2 : y = (U i ^^ U k) := by
      rw [vy, xs_two hl.1 hl.2.2 hne.2.1 (fun n hn a1 a2 => by
        by_cases e : n = j
        · rw [e, j2]; simp
        · rw [(hrest n hn a1 e a2).2.1]; simp), i2, k2]
      simp
    refine ⟨U, ?_, hUi, by rw [vx2, hUi]; simp, by rw [vy2, hUi]; simp⟩
    have hs : sU (fun n => xr (Z n) (T n)) U m = xr (sU Z U m) (xr (sc x (ePQ (s :: A ++ [a]))) (xr (sc y (ePQ (s :: B ++ [b]))) (sc z (ePQ (s :: D ++ [d]))))) := by
      funext p q
      show xs (fun n => U n && (Z n p q ^^ ((al n && ePQ (s :: A ++ [a]) p q) ^^ ((be n && ePQ (s :: B ++ [b]) p q) ^^ (ga n && ePQ (s :: D ++ [d]) p q))))) m = (xs (fun n => U n && Z n p q) m ^^ ((x && ePQ (s :: A ++ [a]) p q) ^^ ((y && ePQ (s :: B ++ [b]) p q) ^^ (z && ePQ (s :: D ++ [d]) p q))))
      have r : ∀ (f : Nat → Bool) (c : Bool), xs (fun n => (U n && f n) && c) m = (xs (fun n => U n && f n) m && c) := fun f c => by
        rw [Bool.and_comm, ← xs_and]
        exact xs_ext fun n _ => Bool.and_comm _ _
      rw [vx, vy, vz, ← r al, ← r be, ← r ga, ← xs_xor, ← xs_xor, ← xs_xor]
      refine xs_ext fun n _ => ?_
      cases U n <;> simp
    rw [hs, ← hU]
    funext p q
    simp only [xr]
    cases X p q <;> cases sc x (ePQ (s :: A ++ [a])) p q <;> cases sc y (ePQ (s :: B ++ [b])) p q <;> cases sc z (ePQ (s :: D ++ [d])) p q <;> rfl
end
