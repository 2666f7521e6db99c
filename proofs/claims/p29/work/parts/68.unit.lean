/-! the units between two faces -/
noncomputable def bo (A : Prop) : Bool := @decide A (Classical.propDecidable A)
theorem bo_iff {A : Prop} : bo A = true ↔ A := @decide_eq_true_iff A (Classical.propDecidable A)
theorem bo_no {A : Prop} : bo A = false ↔ ¬A := by
  cases h : bo A with
  | true => exact ⟨fun e => (by cases e), fun n => absurd (bo_iff.mp h) n⟩
  | false => exact ⟨fun _ a => (by rw [bo_iff.mpr a] at h; cases h), fun _ => rfl⟩
/-- the side of an edge -/
def eV (G : xG) (Z : Nat → xG) (m p q c c' : Nat) (al : xG) (b : Bool) (x y : Nat) : Prop := (x ≠ c ∧ x ≠ c' → sdr G Z m p q c c' al x b) ∧ (y ≠ c ∧ y ≠ c' → sdr G Z m p q c c' al y b) ∧ (x = c ∧ y = c' → tp G Z m p q c c' al c' b) ∧ (x = c' ∧ y = c → tp G Z m p q c c' al c' b)
section
variable {G : xG} {S : Nat → Bool} {m : Nat} {Z : Nat → xG} {p q c c' : Nat} {al : xG}
theorem eV_sym {b : Bool} {x y : Nat} (h : eV G Z m p q c c' al b x y) : eV G Z m p q c c' al b y x := ⟨h.2.1, h.1, fun e => h.2.2.2 ⟨e.2, e.1⟩, fun e => h.2.2.1 ⟨e.2, e.1⟩⟩
theorem eV_at (hk : LK G S m Z p q c c' al) {b : Bool} {w y : Nat} (h : G w y = true) (hw : w ≠ c ∧ w ≠ c') : eV G Z m p q c c' al b w y ↔ sdr G Z m p q c c' al w b :=
  ⟨fun e => e.1 hw, fun s => ⟨fun _ => s, fun hy => sdr_step hk h hw hy s, fun e => absurd e.1 hw.1, fun e => absurd e.1 hw.2⟩⟩
theorem eV_c (hk : LK G S m Z p q c c' al) {b : Bool} {y : Nat} (h : G c y = true) : eV G Z m p q c c' al b c y ↔ tp G Z m p q c c' al y b := by
  have hne := ne_edge (BIC_gok hk.1) h
  have hcc := hk.2.2.2.2.1.1
  by_cases e : y = c'
  · subst e
    exact ⟨fun v => v.2.2.1 ⟨rfl, rfl⟩, fun t => ⟨fun z => absurd rfl z.1, fun z => absurd rfl z.2, fun _ => t, fun z => absurd z.1 hcc⟩⟩
  · exact ⟨fun v => (tp_sdr hk h e).mpr (v.2.1 ⟨fun z => hne z.symm, e⟩), fun t => ⟨fun z => absurd rfl z.1, fun _ => (tp_sdr hk h e).mp t, fun z => absurd z.2 e, fun z => absurd z.1 hcc⟩⟩
/-- all vertices of a face but c and c' -/
def fV (G : xG) (Z : Nat → xG) (m p q c c' : Nat) (al : xG) (b : Bool) (i : Nat) : Prop := ∀ z y, Z i z y = true → z ≠ c → z ≠ c' → sdr G Z m p q c c' al z b
theorem fV_of (hk : LK G S m Z p q c c' al) {b : Bool} {i x y : Nat} (hi : i < m) (hip : i ≠ p) (hiq : i ≠ q) (h : Z i x y = true) (he : eV G Z m p q c c' al b x y) : fV G Z m p q c c' al b i := by
  obtain ⟨hb, hS, hF, _, ⟨hcc, hc, hc'⟩, _⟩ := id hk
  intro z w hz n1 n2
  have hyx : Z i y x = true := by rw [(hF.1 i hi).1.1]; exact h
  by_cases e1 : x ≠ c ∧ x ≠ c'
  · exact sdr_face hk hi hip hiq h hz e1 ⟨n1, n2⟩ (he.1 e1)
  · by_cases e2 : y ≠ c ∧ y ≠ c'
    · exact sdr_face hk hi hip hiq hyx hz e2 ⟨n1, n2⟩ (he.2.1 e2)
    · have hne := ne_edge (BIC_gok hb) ((hF.1 i hi).1.2 x y h)
      have main : Z i c c' = true → tp G Z m p q c c' al c' b → sdr G Z m p q c c' al z b := fun hcZ t => by
        obtain ⟨y', hy', hd⟩ := FS_deg hb hS hF hi hcZ
        have hZy' : Z i c y' = true := by rw [hd]; simp [hy']
        have hG := (hF.1 i hi).1.2 c y' hZy'
        have t2 := tp_face hk hi hd t
        rw [decide_eq_false hip, decide_eq_false hiq] at t2
        simp only [bne_self_eq_false, Bool.xor_false] at t2
        have hnc : y' ≠ c := fun e => ne_edge (BIC_gok hb) hG e.symm
        exact sdr_face hk hi hip hiq (by rw [(hF.1 i hi).1.1]; exact hZy') hz ⟨hnc, hy'⟩ ⟨n1, n2⟩ ((tp_sdr hk hG hy').mp t2)
      have hx : x = c ∨ x = c' := by
        by_cases e : x = c
        · exact Or.inl e
        · exact Or.inr (Classical.byContradiction fun n => e1 ⟨e, n⟩)
      have hy : y = c ∨ y = c' := by
        by_cases e : y = c
        · exact Or.inl e
        · exact Or.inr (Classical.byContradiction fun n => e2 ⟨e, n⟩)
      rcases hx with rfl | rfl <;> rcases hy with rfl | rfl
      · exact absurd rfl hne
      · exact main h (he.2.2.1 ⟨rfl, rfl⟩)
      · exact main hyx (he.2.2.2 ⟨rfl, rfl⟩)
      · exact absurd rfl hne
theorem eV_of (hk : LK G S m Z p q c c' al) {b : Bool} {i x y : Nat} (hi : i < m) (hip : i ≠ p) (hiq : i ≠ q) (h : Z i x y = true) (hf : fV G Z m p q c c' al b i) : eV G Z m p q c c' al b x y := by
  obtain ⟨hb, hS, hF, _, ⟨hcc, hc, hc'⟩, _⟩ := id hk
  have hyx : Z i y x = true := by rw [(hF.1 i hi).1.1]; exact h
  have main : Z i c c' = true → tp G Z m p q c c' al c' b := fun hcZ => by
    obtain ⟨y', hy', hd⟩ := FS_deg hb hS hF hi hcZ
    have hZy' : Z i c y' = true := by rw [hd]; simp [hy']
    have hG := (hF.1 i hi).1.2 c y' hZy'
    have hnc : y' ≠ c := fun e => ne_edge (BIC_gok hb) hG e.symm
    have t := (tp_sdr hk hG hy').mpr (hf y' c (by rw [(hF.1 i hi).1.1]; exact hZy') hnc hy')
    have t2 := tp_face hk hi (y := y') (y' := c') (fun z => by rw [hd, Bool.xor_comm]) t
    rw [decide_eq_false hip, decide_eq_false hiq] at t2
    simp only [bne_self_eq_false, Bool.xor_false] at t2
    exact t2
  exact ⟨fun e => hf x y h e.1 e.2, fun e => hf y x hyx e.1 e.2, fun e => main (by rw [← e.1, ← e.2]; exact h), fun e => main (by rw [← e.1, ← e.2]; exact hyx)⟩
end
/-! contacts of an edge that isn't placed -/
def onF (L : List (List Nat)) (j v : Nat) : Prop := ∃ y, FZ L j v y = true
def ctE (G : xG) (S PV : Nat → Bool) (x y a : Nat) : Prop := (PV x = true ∧ PV y = true ∧ (a = x ∨ a = y)) ∨ (PV x = false ∧ ctc G PV (cmp G S PV x) a = true) ∨ (PV y = false ∧ ctc G PV (cmp G S PV y) a = true)
def SW (G : xG) (S : Nat → Bool) (P : xG) (PV : Nat → Bool) (L : List (List Nat)) (E m : Nat) (Z : Nat → xG) (c : Nat → Nat) (p q : Nat) : Prop :=
  BIC G S ∧ (∀ v, S v = true → v < 10) ∧ BIC P PV ∧ INV G S P PV L E ∧ GR P L ∧ EXS G P L m Z c ∧ (p < L.length ∧ q < L.length ∧ p ≠ q) ∧
  ∀ x y, G x y = true → P x y = false → ∃ j1 j2, j1 < L.length ∧ j2 < L.length ∧ j1 ≠ j2 ∧ ∀ a, ctE G S PV x y a → onF L j1 a ∧ onF L j2 a
/-- on both faces -/
def bth (L : List (List Nat)) (p q v : Nat) : Prop := onF L p v ∧ onF L q v
/-- an edge that is to change its side -/
def xX (G : xG) (S : Nat → Bool) (P : xG) (PV : Nat → Bool) (L : List (List Nat)) (m : Nat) (Z : Nat → xG) (c : Nat → Nat) (p q x y : Nat) : Prop := P x y = false ∧ (∃ i, i < m ∧ Z i x y = true ∧ (c i = p ∨ c i = q)) ∧ ∀ a, ctE G S PV x y a → bth L p q a
def g1 (G : xG) (S : Nat → Bool) (P : xG) (PV : Nat → Bool) (L : List (List Nat)) (m : Nat) (Z : Nat → xG) (c : Nat → Nat) (p q x y : Nat) : Prop := G x y = true ∧ ¬xX G S P PV L m Z c p q x y
/-- closed under the two rules -/
def CL (G : xG) (S : Nat → Bool) (P : xG) (PV : Nat → Bool) (L : List (List Nat)) (m : Nat) (Z : Nat → xG) (c : Nat → Nat) (p q : Nat) (R : Nat → Nat → Prop) : Prop :=
  (∀ x y, R x y → R y x) ∧ (∀ w y y', ¬bth L p q w → g1 G S P PV L m Z c p q w y → g1 G S P PV L m Z c p q w y' → R w y → R w y') ∧
  ∀ i x y x' y', i < m → c i ≠ p → c i ≠ q → Z i x y = true → Z i x' y' = true → R x y → R x' y'
def Un (G : xG) (S : Nat → Bool) (P : xG) (PV : Nat → Bool) (L : List (List Nat)) (m : Nat) (Z : Nat → xG) (c : Nat → Nat) (p q a b x y : Nat) : Prop := ∀ R, CL G S P PV L m Z c p q R → R a b → R x y
section
variable {G : xG} {S : Nat → Bool} {P : xG} {PV : Nat → Bool} {L : List (List Nat)} {E m : Nat} {Z : Nat → xG} {c : Nat → Nat} {p q : Nat}
theorem Un_cl (a b : Nat) : CL G S P PV L m Z c p q (Un G S P PV L m Z c p q a b) := ⟨fun x y h R hR h0 => hR.1 x y (h R hR h0), fun w y y' h1 h2 h3 h R hR h0 => hR.2.1 w y y' h1 h2 h3 (h R hR h0), fun i x y x' y' h1 h2 h3 h4 h5 h R hR h0 => hR.2.2 i x y x' y' h1 h2 h3 h4 h5 (h R hR h0)⟩
theorem Un_rfl (a b : Nat) : Un G S P PV L m Z c p q a b a b := fun _ _ h => h
theorem Un_trans {a b x y u v : Nat} (h1 : Un G S P PV L m Z c p q a b x y) (h2 : Un G S P PV L m Z c p q x y u v) : Un G S P PV L m Z c p q a b u v := fun R hR h0 => h2 R hR (h1 R hR h0)
theorem Un_back {a b x y : Nat} (h : Un G S P PV L m Z c p q a b x y) : Un G S P PV L m Z c p q x y a b := by
  refine h (fun x y => Un G S P PV L m Z c p q x y a b) ⟨fun x y h => ?_, fun w y y' h1 h2 h3 h => ?_, fun i x y x' y' h1 h2 h3 h4 h5 h => ?_⟩ (Un_rfl a b)
  · exact Un_trans ((Un_cl y x).1 _ _ (Un_rfl y x)) h
  · exact Un_trans ((Un_cl w y').2.1 w y' y h1 h3 h2 (Un_rfl w y')) h
  · exact Un_trans ((Un_cl x' y').2.2 i x' y' x y h1 h2 h3 h5 h4 (Un_rfl x' y')) h
theorem SW_FS (h : SW G S P PV L E m Z c p q) : FS P L.length (FZ L) := FZ_FS h.2.1 h.2.2.2.1 h.2.2.2.2.1
theorem SW_two (h : SW G S P PV L E m Z c p q) : 2 ≤ L.length := by
  obtain ⟨_, _, _, _, _, _, ⟨h1, h2, h3⟩, _⟩ := h
  omega
theorem SW_PV (h : SW G S P PV L E m Z c p q) : ∀ v, PV v = true → v < 10 := fun v hv => h.2.1 v (h.2.2.2.1.2.2.1 v hv)
theorem SW_cov (h : SW G S P PV L E m Z c p q) {x y : Nat} (hg : G x y = true) : ∃ i, i < m ∧ Z i x y = true := EXS_cov h.1 h.2.1 h.2.2.2.1 (SW_two h) h.2.2.2.2.2.1 hg
theorem SW_A (h : SW G S P PV L E m Z c p q) {x y i k : Nat} (hP : P x y = false) (hi : i < m) (hk : k < m) (h1 : Z i x y = true) (h2 : Z k x y = true) : c k = c i := EXS_A h.2.1 h.2.2.2.1 h.2.2.2.2.2.1 hP hi hk h1 h2
theorem SW_B (h : SW G S P PV L E m Z c p q) {x y i : Nat} (hP : P x y = true) (hi : i < m) (h1 : Z i x y = true) : FZ L (c i) x y = true := EXS_B h.2.2.2.1 h.2.2.2.2.2.1 hP hi h1
theorem SW_un (h : SW G S P PV L E m Z c p q) {w y : Nat} (hw : PV w = false) : P w y = false := by
  cases e : P w y with
  | false => rfl
  | true => have := (h.2.2.2.1.2.1 w y e).2; rw [hw] at this; cases this
theorem ctE_sym {x y a : Nat} (h : ctE G S PV x y a) : ctE G S PV y x a := by
  rcases h with ⟨h1, h2, h3⟩ | h | h
  · exact Or.inl ⟨h2, h1, h3.symm⟩
  · exact Or.inr (Or.inr h)
  · exact Or.inr (Or.inl h)
theorem xX_sym (h : SW G S P PV L E m Z c p q) {x y : Nat} (hx : xX G S P PV L m Z c p q x y) : xX G S P PV L m Z c p q y x := by
  obtain ⟨h1, ⟨i, h2, h3, h4⟩, h5⟩ := hx
  exact ⟨by rw [h.2.2.2.1.1]; exact h1, ⟨i, h2, by rw [(h.2.2.2.2.2.1.1.1 i h2).1.1]; exact h3, h4⟩, fun a ha => h5 a (ctE_sym ha)⟩
theorem g1_sym (h : SW G S P PV L E m Z c p q) {x y : Nat} (hx : g1 G S P PV L m Z c p q x y) : g1 G S P PV L m Z c p q y x := ⟨by rw [h.1.1]; exact hx.1, fun e => hx.2 (xX_sym h e)⟩
theorem g1_P (h : SW G S P PV L E m Z c p q) {x y : Nat} (hx : P x y = true) : g1 G S P PV L m Z c p q x y := ⟨(h.2.2.2.1.2.1 x y hx).1, fun e => by rw [e.1] at hx; cases hx⟩
/-- a placed end of an edge is a contact -/
theorem ctE_end (h : SW G S P PV L E m Z c p q) {w y : Nat} (hw : PV w = true) (hg : G w y = true) : ctE G S PV w y w := by
  cases e : PV y with
  | true => exact Or.inl ⟨hw, e, Or.inl rfl⟩
  | false =>
    have hy := h.1.2.2.1 w y hg
    refine Or.inr (Or.inr ⟨e, ?_⟩)
    unfold ctc
    rw [hw, nb_iff.mpr ⟨y, hy.2.1, cmp_self hy.2.2.2 e, by rw [h.1.1]; exact hg⟩]
    rfl
theorem ctc_ext {D D' : Nat → Bool} (hD : ∀ v, v < 10 → D v = D' v) (a : Nat) : ctc G PV D a = ctc G PV D' a := by
  unfold ctc
  rw [nb_ext hD]
/-- the contacts of an edge with an end that isn't placed -/
theorem ctE_un (h : SW G S P PV L E m Z c p q) {w y a : Nat} (hw : PV w = false) (hg : G w y = true) : ctE G S PV w y a ↔ ctc G PV (cmp G S PV w) a = true := by
  obtain ⟨hw10, hy10, hSw, hSy⟩ := h.1.2.2.1 w y hg
  constructor
  · rintro (⟨h1, _⟩ | ⟨_, h1⟩ | ⟨h1, h2⟩)
    · rw [hw] at h1; cases h1
    · exact h1
    · have hc : cmp G S PV w y = true := cmp_step hw10 hy10 (cmp_self hSw hw) hg hSy h1
      rw [ctc_ext (cmp_same h.1.1 hw10 hy10 hc)] at h2
      exact h2
  · exact fun h1 => Or.inr (Or.inl ⟨hw, h1⟩)
theorem ctE_PV {x y a : Nat} (h : ctE G S PV x y a) : PV a = true := by
  rcases h with ⟨h1, h2, h3 | h3⟩ | ⟨_, h1⟩ | ⟨_, h1⟩
  · rw [h3]; exact h1
  · rw [h3]; exact h2
  · unfold ctc at h1
    rw [Bool.and_eq_true] at h1
    exact h1.2
  · unfold ctc at h1
    rw [Bool.and_eq_true] at h1
    exact h1.2
/-- contacts lie on the face of the class -/
theorem ctE_on (h : SW G S P PV L E m Z c p q) {x y a i : Nat} (hP : P x y = false) (hi : i < m) (hZ : Z i x y = true) (ha : ctE G S PV x y a) : onF L (c i) a := by
  obtain ⟨hb, hS, hB, hI, hG, hX, _⟩ := id h
  have hg := (hX.1.1 i hi).1.2 x y hZ
  have h10 := hb.2.2.1 x y hg
  have ha10 := SW_PV h a (ctE_PV ha)
  have comp : ∀ x y, Z i x y = true → PV x = false → ctc G PV (cmp G S PV x) a = true → onF L (c i) a := fun x y hZ hx hc => by
    have hg := (hX.1.1 i hi).1.2 x y hZ
    obtain ⟨hx10, hy10, hSx, hSy⟩ := hb.2.2.1 x y hg
    have hFOK : FOK G S P PV (mk (cmp G S PV x), mk (ctc G PV (cmp G S PV x))) := Or.inr ⟨x, hx10, hSx, hx, rfl, rfl⟩
    obtain ⟨hD, hC, h0⟩ := FOK_cmp (G := G) (S := S) (PV := PV) hS hI.2.2.1 (q := (mk (cmp G S PV x), mk (ctc G PV (cmp G S PV x)))) hSx hx rfl rfl
    obtain ⟨j, hj, hcl, hct⟩ := EXS_frag hb hS hB hI (SW_two h) hX hFOK
    rw [hcl x y i (fE_iff.mpr ⟨hg, SW_un h hx, Or.inr ⟨h0, Or.inl (by rw [hD]; exact cmp_self hSx hx)⟩⟩) hi hZ]
    exact hct a ha10 (by rw [hC]; exact hc)
  rcases ha with ⟨h1, h2, h3⟩ | ⟨h1, h2⟩ | ⟨h1, h2⟩
  · rcases h3 with e | e
    · rw [e]
      exact EXS_2 hb hS hB hI (SW_two h) hX h1 hP hi hZ
    · rw [e]
      exact EXS_2 hb hS hB hI (SW_two h) hX h2 (by rw [hI.1]; exact hP) hi (by rw [(hX.1.1 i hi).1.1]; exact hZ)
  · exact comp x y hZ h1 h2
  · exact comp y x (by rw [(hX.1.1 i hi).1.1]; exact hZ) h1 h2
/-- an edge of one of the two classes that does not change its side: a third face holds its contacts -/
theorem g1_third (h : SW G S P PV L E m Z c p q) {x y i : Nat} (hg : g1 G S P PV L m Z c p q x y) (hP : P x y = false) (hi : i < m) (hZ : Z i x y = true) (hc : c i = p ∨ c i = q) : ∃ j, j < L.length ∧ j ≠ p ∧ j ≠ q ∧ (∀ a, ctE G S PV x y a → onF L j a) ∧ ∃ a, ctE G S PV x y a ∧ ¬bth L p q a := by
  obtain ⟨a, ha, hna⟩ : ∃ a, ctE G S PV x y a ∧ ¬bth L p q a := Classical.byContradiction fun hno => hg.2 ⟨hP, ⟨i, hi, hZ, hc⟩, fun a ha => Classical.byContradiction fun n => hno ⟨a, ha, n⟩⟩
  obtain ⟨j1, j2, l1, l2, hne, hall⟩ := h.2.2.2.2.2.2.2 x y hg.1 hP
  by_cases e1 : j1 = p ∨ j1 = q
  · by_cases e2 : j2 = p ∨ j2 = q
    · exfalso
      have := hall a ha
      apply hna
      rcases e1 with e1 | e1 <;> rcases e2 with e2 | e2
      · exact absurd (e1.trans e2.symm) hne
      · rw [e1, e2] at this; exact this
      · rw [e1, e2] at this; exact this.symm
      · exact absurd (e1.trans e2.symm) hne
    · exact ⟨j2, l2, fun e => e2 (Or.inl e), fun e => e2 (Or.inr e), fun a ha => (hall a ha).2, a, ha, hna⟩
  · exact ⟨j1, l1, fun e => e1 (Or.inl e), fun e => e1 (Or.inr e), fun a ha => (hall a ha).1, a, ha, hna⟩
end
