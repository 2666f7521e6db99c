/-! the side of an edge of the whole, between two vertices of both faces -/
def Om (G : xG) (S : Nat → Bool) (P : xG) (PV : Nat → Bool) (L : List (List Nat)) (m : Nat) (Z : Nat → xG) (c : Nat → Nat) (p q d d' : Nat) (al : xG) (b : Bool) (x y : Nat) : Prop :=
  (P x y = true → eV P (FZ L) L.length p q d d' al b x y) ∧ (P x y = false → ∀ i, i < m → Z i x y = true →
    (c i ≠ p ∧ c i ≠ q → fV P (FZ L) L.length p q d d' al b (c i)) ∧ (c i = p ∨ c i = q → ∀ a, ctE G S PV x y a → ¬bth L p q a → sdr P (FZ L) L.length p q d d' al a b))
section
variable {G : xG} {S : Nat → Bool} {P : xG} {PV : Nat → Bool} {L : List (List Nat)} {E m : Nat} {Z : Nat → xG} {c : Nat → Nat} {p q : Nat} {d d' : Nat} {al : xG}
theorem SW_LK (h : SW G S P PV L E m Z c p q) (hd : bth L p q d) (hd' : bth L p q d') (hne : d ≠ d') (h1 : ch P al) (h2 : ∀ v, od al v = (decide (v = d) ^^ decide (v = d'))) : LK P PV L.length (FZ L) p q d d' al := by
  have hF := SW_FS h
  have hpv : ∀ v, bth L p q v → PV v = true := fun v hv => by
    obtain ⟨⟨y, hy⟩, _⟩ := hv
    have := (hF.1 p h.2.2.2.2.2.2.1.1).1.2 v y hy
    exact (h.2.2.2.1.2.1 v y this).2
  exact ⟨h.2.2.1, SW_PV h, hF, h.2.2.2.2.2.2.1, ⟨hne, hpv d hd, hpv d' hd'⟩, ⟨hd.1, hd.2, hd'.1, hd'.2⟩, h1, h2⟩
/-- the side of a vertex on a third face goes to all of its vertices -/
theorem third_sdr (hk : LK P PV L.length (FZ L) p q d d' al) {j a w : Nat} (hj : j < L.length) (hjp : j ≠ p) (hjq : j ≠ q) (ha : onF L j a) (hw : onF L j w) (na : a ≠ d ∧ a ≠ d') (nw : w ≠ d ∧ w ≠ d') {b : Bool} (hs : sdr P (FZ L) L.length p q d d' al a b) : sdr P (FZ L) L.length p q d d' al w b := by
  obtain ⟨y, hy⟩ := ha
  obtain ⟨y', hy'⟩ := hw
  exact sdr_face hk hj hjp hjq hy hy' na nw hs
theorem nb_of (hd : bth L p q d) (hd' : bth L p q d') {a : Nat} (h : ¬bth L p q a) : a ≠ d ∧ a ≠ d' := ⟨fun e => h (by rw [e]; exact hd), fun e => h (by rw [e]; exact hd')⟩
/-- at a placed vertex other than d and d' -/
theorem Om_at (h : SW G S P PV L E m Z c p q) (hk : LK P PV L.length (FZ L) p q d d' al) (hd : bth L p q d) (hd' : bth L p q d') {b : Bool} {w y : Nat} (hw : PV w = true) (hn : w ≠ d ∧ w ≠ d') (hg : g1 G S P PV L m Z c p q w y) : Om G S P PV L m Z c p q d d' al b w y ↔ sdr P (FZ L) L.length p q d d' al w b := by
  obtain ⟨_, _, _, _, _, hX, _⟩ := id h
  cases hP : P w y with
  | true =>
    exact ⟨fun o => (o.1 hP).1 hn, fun s => ⟨fun _ => (eV_at hk hP hn).mpr s, fun e => by rw [hP] at e; cases e⟩⟩
  | false =>
    have hct := ctE_end h hw hg.1
    constructor
    · intro o
      obtain ⟨i, hi, hZ⟩ := SW_cov h hg.1
      obtain ⟨o1, o2⟩ := o.2 hP i hi hZ
      by_cases hc : c i = p ∨ c i = q
      · obtain ⟨j, hj, hjp, hjq, hall, a, ha, hna⟩ := g1_third h hg hP hi hZ hc
        exact third_sdr hk hj hjp hjq (hall a ha) (hall w hct) (nb_of hd hd' hna) hn (o2 hc a ha hna)
      · obtain ⟨z, hz⟩ := ctE_on h hP hi hZ hct
        exact o1 ⟨fun e => hc (Or.inl e), fun e => hc (Or.inr e)⟩ w z hz hn.1 hn.2
    · intro s
      refine ⟨fun e => (by rw [hP] at e; cases e), fun _ i hi hZ => ⟨fun hc z y' hz n1 n2 => ?_, fun hc a ha hna => ?_⟩⟩
      · exact third_sdr hk (hX.2.1 i hi) hc.1 hc.2 (ctE_on h hP hi hZ hct) ⟨y', hz⟩ hn ⟨n1, n2⟩ s
      · obtain ⟨j, hj, hjp, hjq, hall, _⟩ := g1_third h hg hP hi hZ hc
        exact third_sdr hk hj hjp hjq (hall w hct) (hall a ha) hn (nb_of hd hd' hna) s
/-- it is closed under the two rules -/
theorem Om_cl (h : SW G S P PV L E m Z c p q) (hk : LK P PV L.length (FZ L) p q d d' al) (hd : bth L p q d) (hd' : bth L p q d') (b : Bool) : CL G S P PV L m Z c p q (fun x y => Om G S P PV L m Z c p q d d' al b x y) := by
  obtain ⟨hb, hS, hB, hI, hG, hX, hpq, h2⟩ := id h
  refine ⟨fun x y o => ⟨fun e => eV_sym (o.1 (by rw [hI.1]; exact e)), fun e i hi hZ => ?_⟩, fun w y y' hw g g' o => ?_, fun i x y x' y' hi hcp hcq hZ hZ' o => ?_⟩
  · obtain ⟨o1, o2⟩ := o.2 (by rw [hI.1]; exact e) i hi (by rw [(hX.1.1 i hi).1.1]; exact hZ)
    exact ⟨o1, fun hc a ha hna => o2 hc a (ctE_sym ha) hna⟩
  · cases hPw : PV w with
    | true =>
      have hn := nb_of hd hd' hw
      exact (Om_at h hk hd hd' hPw hn g').mpr ((Om_at h hk hd hd' hPw hn g).mp o)
    | false =>
      have e1 := SW_un h (y := y) hPw
      have e2 := SW_un h (y := y') hPw
      refine ⟨fun e => (by rw [e2] at e; cases e), fun _ i hi hZ => ?_⟩
      obtain ⟨k, hk2, hkZ⟩ := SW_cov h g.1
      have hck := EXS_1 hb hS hI hX hPw hk2 hi hkZ hZ
      obtain ⟨o1, o2⟩ := o.2 e1 k hk2 hkZ
      rw [hck]
      exact ⟨o1, fun hc a ha hna => o2 hc a ((ctE_un h hPw g.1).mpr ((ctE_un h hPw g'.1).mp ha)) hna⟩
  · have hf : fV P (FZ L) L.length p q d d' al b (c i) := by
      cases hP : P x y with
      | true => exact fV_of hk (hX.2.1 i hi) hcp hcq (SW_B h hP hi hZ) (o.1 hP)
      | false => exact (o.2 hP i hi hZ).1 ⟨hcp, hcq⟩
    refine ⟨fun e => eV_of hk (hX.2.1 i hi) hcp hcq (SW_B h e hi hZ') hf, fun e k hk2 hkZ => ?_⟩
    have hck := SW_A h e hi hk2 hZ' hkZ
    rw [hck]
    exact ⟨fun _ => hf, fun hc => by rcases hc with hc | hc <;> contradiction⟩
theorem Un_g1 (h : SW G S P PV L E m Z c p q) {a b x y : Nat} (h0 : g1 G S P PV L m Z c p q a b) (hu : Un G S P PV L m Z c p q a b x y) : g1 G S P PV L m Z c p q x y := by
  refine hu (fun x y => g1 G S P PV L m Z c p q x y) ⟨fun x y g => g1_sym h g, fun w y y' _ _ g' _ => g', fun i x y x' y' hi hcp hcq _ hZ' _ => ⟨(h.2.2.2.2.2.1.1.1 i hi).1.2 x' y' hZ', fun hx => ?_⟩⟩ h0
  obtain ⟨e, ⟨k, hk, hkZ, hc⟩, _⟩ := hx
  rw [SW_A h e hi hk hZ' hkZ] at hc
  rcases hc with hc | hc <;> contradiction
/-- a unit holds a placed edge -/
theorem Un_P (h : SW G S P PV L E m Z c p q) {a b : Nat} (h0 : g1 G S P PV L m Z c p q a b) : ∃ x y, Un G S P PV L m Z c p q a b x y ∧ P x y = true := by
  obtain ⟨hb, hS, hB, hI, hG, hX, ⟨hp, hq, hpq⟩, h2⟩ := id h
  refine Classical.byContradiction fun hno => ?_
  have hno2 : ∀ x y, Un G S P PV L m Z c p q a b x y → P x y = false := fun x y hu => by
    cases e : P x y with
    | false => rfl
    | true => exact absurd ⟨x, y, hu, e⟩ hno
  -- all contacts lie on both faces, so the class is a third one
  have hcls : ∀ x y i, Un G S P PV L m Z c p q a b x y → i < m → Z i x y = true → c i ≠ p ∧ c i ≠ q := fun x y i hu hi hZ => by
    refine Classical.byContradiction fun hc => ?_
    have hc2 : c i = p ∨ c i = q := by
      by_cases e : c i = p
      · exact Or.inl e
      · exact Or.inr (Classical.byContradiction fun n => hc ⟨e, n⟩)
    have hg := Un_g1 h h0 hu
    obtain ⟨_, _, _, _, _, w, hw, hnw⟩ := g1_third h hg (hno2 x y hu) hi hZ hc2
    have hPw := ctE_PV hw
    obtain ⟨z, hz⟩ := INV_nbr hB hI hS (SW_two h) hPw
    -- from the edge to the contact
    have hedge : ∃ v, Un G S P PV L m Z c p q a b w v := by
      have comp : ∀ x y, Un G S P PV L m Z c p q a b x y → PV x = false → ctc G PV (cmp G S PV x) w = true → ∃ v, Un G S P PV L m Z c p q a b w v := fun x y hu hx hcw => by
        have hgx := Un_g1 h h0 hu
        obtain ⟨hx10, _, hSx, _⟩ := hb.2.2.1 x y hgx.1
        unfold ctc at hcw
        rw [Bool.and_eq_true] at hcw
        obtain ⟨u, hu10, hDu, hguw⟩ := nb_iff.mp hcw.1
        -- along the component all edges are of the unit
        have hall : ∀ v, v < 10 → cmp G S PV x v = true → ∀ z, G v z = true → Un G S P PV L m Z c p q a b v z := by
          have gcomp : ∀ v z, v < 10 → cmp G S PV x v = true → G v z = true → g1 G S P PV L m Z c p q v z := fun v z hv hDv hgvz => ⟨hgvz, fun hxx => by
            obtain ⟨e0, _, hball⟩ := hxx
            have hvP := (cmp_in hDv).2
            have := hball w ((ctE_un h hvP hgvz).mpr (by rw [ctc_ext (cmp_same hb.1 hx10 hv hDv)]; unfold ctc; rw [hcw.1, hcw.2]; rfl))
            exact hnw this⟩
          have nbv : ∀ v, cmp G S PV x v = true → ¬bth L p q v := fun v hDv hbv => by
            obtain ⟨⟨y, hy⟩, _⟩ := hbv
            have := (hI.2.1 v y ((SW_FS h).1 p hp |>.1.2 v y hy)).2
            rw [(cmp_in hDv).2] at this
            cases this
          have base : ∀ v, v < 10 → cmp G S PV x v = true → (∃ z, Un G S P PV L m Z c p q a b v z) → ∀ z, G v z = true → Un G S P PV L m Z c p q a b v z := fun v hv hDv ⟨z0, hz0⟩ z hz => (Un_cl a b).2.1 v z0 z (nbv v hDv) (Un_g1 h h0 hz0) (gcomp v z hv hDv hz) hz0
          intro v hv hDv
          refine (rch_ind (G := G) (A := fun v => S v && !PV v) (X := fun v => decide (v = x)) (fun v => cmp G S PV x v = true ∧ ∀ z, G v z = true → Un G S P PV L m Z c p q a b v z) (fun v hv e _ => ?_) (fun u v hu hv hp hg hA => ?_) v hv hDv).2
          · have := of_decide_eq_true e
            subst this
            exact ⟨cmp_self hSx hx, base v hv (cmp_self hSx hx) ⟨y, by assumption⟩⟩
          · rw [Bool.and_eq_true, Bool.not_eq_true'] at hA
            have hDv := cmp_step hu hv hp.1 hg hA.1 hA.2
            exact ⟨hDv, base v hv hDv ⟨u, (Un_cl a b).1 u v (hp.2 v hg)⟩⟩
        exact ⟨u, (Un_cl a b).1 u w (hall u hu10 hDu w hguw)⟩
      rcases hw with ⟨_, _, e | e⟩ | ⟨h1, h2⟩ | ⟨h1, h2⟩
      · rw [e]; exact ⟨y, hu⟩
      · rw [e]; exact ⟨x, (Un_cl a b).1 x y hu⟩
      · exact comp x y hu h1 h2
      · exact comp y x ((Un_cl a b).1 x y hu) h1 h2
    obtain ⟨v, hv⟩ := hedge
    have := (Un_cl a b).2.1 w v z hnw (Un_g1 h h0 hv) (g1_P h hz) hv
    rw [hno2 w z this] at hz
    cases hz
  -- the faces of the unit
  have hsum : sU Z (fun i => bo (∃ x y, Un G S P PV L m Z c p q a b x y ∧ Z i x y = true)) m = x0 := by
    funext x y
    by_cases hu : Un G S P PV L m Z c p q a b x y
    · have e : sU Z (fun i => bo (∃ x y, Un G S P PV L m Z c p q a b x y ∧ Z i x y = true)) m x y = sU Z (fun _ => true) m x y := xs_ext fun i _ => by
        cases eZ : Z i x y with
        | false => simp
        | true =>
          show (bo (∃ x y, Un G S P PV L m Z c p q a b x y ∧ Z i x y = true) && true) = (true && true)
          rw [bo_iff.mpr ⟨x, y, hu, eZ⟩]
      rw [e, tw_all hX.1.2.1]
    · refine xs_0 fun i hi => ?_
      cases eZ : Z i x y with
      | false => simp
      | true =>
        rw [Bool.and_true, bo_no]
        rintro ⟨x', y', hu', hZ'⟩
        have hc := hcls x' y' i hu' hi hZ'
        exact hu ((Un_cl a b).2.2 i x' y' x y hi hc.1 hc.2 hZ' eZ hu')
  obtain ⟨i0, hi0, hZ0⟩ := SW_cov h h0.1
  have hc0 := hcls a b i0 (Un_rfl a b) hi0 hZ0
  -- some face is of the class p
  obtain ⟨v0, w0, hvw⟩ : ∃ v w, FZ L p v w = true := by
    obtain ⟨f, hf⟩ : ∃ f, L[p]? = some f := ⟨L[p], List.getElem?_eq_getElem hp⟩
    obtain ⟨n1, n2, _⟩ := hI.2.2.2.1 f (List.mem_of_getElem? hf)
    match f, n2, hf with
    | x :: y :: t, _, hf => exact ⟨x, y, by rw [FZ_at hf]; exact eS_iff.mpr (Or.inl (by show (x, y) ∈ pd (x :: y :: (t ++ [x])); exact List.mem_cons_self))⟩
  rw [hX.2.2 p hp] at hvw
  obtain ⟨k, hk, hk2⟩ := xs_ex hvw
  rw [Bool.and_eq_true] at hk2
  have hck : c k = p := of_decide_eq_true hk2.1
  have heq := hX.1.2.2.2 _ hsum i0 k hi0 hk
  rw [bo_iff.mpr ⟨a, b, Un_rfl a b, hZ0⟩] at heq
  obtain ⟨x', y', hu', hZ'⟩ := bo_iff.mp heq.symm
  exact (hcls x' y' k hu' hk hZ').1 hck
end
