/-! where the contacts lie apart the graph has a weak family after all -/
theorem PW_proper {F G' : xG} (hg : gok F) (hs' : ∀ x y, G' x y = G' y x) (hsub : ∀ x y, G' x y = true → F x y = true) (hmin : ∀ a b, F a b = true → PW (rm F a b)) {a b : Nat} (hF : F a b = true) (hno : G' a b = false) : PW G' := by
  refine PW_mono (G := rm F a b) ⟨fun x y => by unfold rm; rw [hg.1 x y, eg_sym], fun v => by unfold rm; rw [hg.2.1]; rfl, fun x y q => hg.2.2 x y (rm_iff.mp q).1⟩ hs' (fun x y q => rm_iff.mpr ⟨hsub x y q, ?_⟩) (hmin a b hF)
  cases e : eg a b x y with
  | false => rfl
  | true =>
    rcases eg_iff.mp e with ⟨rfl, rfl⟩ | ⟨rfl, rfl⟩
    · rw [hno] at q; cases q
    · rw [hs', hno] at q; cases q
theorem gT_sym {H : xG} {s a b d : Nat} {A B D : List Nat} (hH : ∀ x y, H x y = H y x) (x y : Nat) : gT H s A B D a b d x y = gT H s A B D a b d y x := by
  rw [Bool.eq_iff_iff, gT_iff, gT_iff, hH x y, eP_sym _ x y, eP_sym _ x y, eP_sym _ x y]
/-- the component with the ear's inner vertices -/
theorem side_ear {F P : xG} {PV : Nat → Bool} (hsF : ∀ x y, F x y = F y x) (hPF : ∀ x y, P x y = true → F x y = true) {C : List Nat} (hCPV : ∀ v ∈ C, PV v = true) {u : Nat} {inn : List Nat} (hu : u < 10) (hPu : PV u = true) (huC : inC C u = false) (hV : ∀ v, PV v = true → v < 10) (hinn : ∀ p ∈ inn, p < 10 ∧ PV p = false) (hpath : allF F (u :: inn)) :
    SIDE F C (fun v => cmp P PV (inC C) u v || decide (v ∈ inn)) := by
  have hA : ∀ v, (cmp P PV (inC C) u v || decide (v ∈ inn)) = true → cmp P PV (inC C) u v = true ∨ v ∈ inn := fun v h => by simpa using h
  have h10 : ∀ v, (cmp P PV (inC C) u v || decide (v ∈ inn)) = true → v < 10 := fun v h => by
    rcases hA v h with g | g
    · exact hV v (cmp_in g).1
    · exact (hinn v g).1
  have huA : (cmp P PV (inC C) u u || decide (u ∈ inn)) = true := by rw [cmp_self hPu huC]; rfl
  have key : ∀ x, (cmp P PV (inC C) u x || decide (x ∈ inn)) = true → con F (fun v => cmp P PV (inC C) u v || decide (v ∈ inn)) u x := fun x hx => by
    rcases hA x hx with g | g
    · exact con_G (fun a b _ _ h _ => hPF a b h) (fun v _ h => by rw [h]; rfl) hu (h10 x hx) (cmp_con hu (h10 x hx) g)
    · exact list_head (G := F) u inn (fun z hz => by
        rcases List.mem_cons.mp hz with e | e
        · rw [e]; exact ⟨hu, huA⟩
        · exact ⟨(hinn z e).1, by simp [e]⟩) hpath x (List.mem_cons_of_mem _ g)
  refine ⟨h10, fun v hv => ?_, fun x y hx hy => con_trans (con_sym hsF hu (h10 x hx) (key x hx)) (key y hy) (h10 y hy)⟩
  cases e : (cmp P PV (inC C) u v || decide (v ∈ inn)) with
  | false => exact e
  | true =>
    rcases hA v e with g | g
    · have := (cmp_in g).2
      rw [show inC C v = true from decide_eq_true hv] at this
      cases this
    · have := (hinn v g).2
      rw [hCPV v hv] at this
      cases this
theorem apart_no {F P : xG} {S PV : Nat → Bool} {m : Nat} {Z : Nat → xG} {u w : Nat} {inn : List Nat} {U : Nat → Bool} {x' y' : Nat} {I O : List Nat} (hgF : gok F) (hmin : ∀ a b, F a b = true → PW (rm F a b)) (hno : ¬PW F)
    (hB : BIC P PV) (hV : ∀ v, PV v = true → v < 10) (hT : TH PV) (hF : FS P m Z) (hE : EAR F S P PV u inn w) (hFP : ∀ x y, F x y = addP P (u :: inn ++ [w]) x y) (hC : CUT m Z u w (x' :: I ++ y' :: O) U)
    (hA2 : ∃ p q, p ≠ q ∧ ctc P (inC (x' :: I ++ y' :: O)) (cmp P PV (inC (x' :: I ++ y' :: O)) u) p = true ∧ ctc P (inC (x' :: I ++ y' :: O)) (cmp P PV (inC (x' :: I ++ y' :: O)) u) q = true)
    (hx : ctc P (inC (x' :: I ++ y' :: O)) (cmp P PV (inC (x' :: I ++ y' :: O)) w) x' = true) (hy : ctc P (inC (x' :: I ++ y' :: O)) (cmp P PV (inC (x' :: I ++ y' :: O)) w) y' = true)
    (hAI : ∀ v ∈ I, ctc P (inC (x' :: I ++ y' :: O)) (cmp P PV (inC (x' :: I ++ y' :: O)) u) v = false) (hBO : ∀ v ∈ O, ctc P (inC (x' :: I ++ y' :: O)) (cmp P PV (inC (x' :: I ++ y' :: O)) w) v = false) : False := by
  have hg := BIC_gok hB
  obtain ⟨hn0, ⟨hPu, hPw⟩, hinn0, hpe⟩ := id hE
  obtain ⟨⟨c1, c2, c3⟩, ⟨hU, ⟨hCu, hCw⟩, hUu, hUw⟩, hleast⟩ := id hC
  have hCPV : ∀ v, v ∈ x' :: I ++ y' :: O → PV v = true := fun v hv => CUT_PV hB hF hC (decide_eq_true hv)
  have huC := off_C c2 hCu
  have hwC := off_C c2 hCw
  have huC' : inC (x' :: I ++ y' :: O) u = false := decide_eq_false huC
  have hwC' : inC (x' :: I ++ y' :: O) w = false := decide_eq_false hwC
  have hn := c1
  simp only [List.cons_append, List.nodup_cons, List.nodup_append, List.mem_append, List.mem_cons, not_or, ne_eq] at hn
  obtain ⟨⟨nxI, nxy, nxO⟩, nI, ⟨nyO, nO⟩, nIO⟩ := hn
  have mx : x' ∈ x' :: I ++ y' :: O := by simp
  have my : y' ∈ x' :: I ++ y' :: O := by simp
  have mI : ∀ v ∈ I, v ∈ x' :: I ++ y' :: O := fun v hv => by simp [hv]
  have mO : ∀ v ∈ O, v ∈ x' :: I ++ y' :: O := fun v hv => by simp [hv]
  have hPF : ∀ x y, P x y = true → F x y = true := fun x y h => by rw [hFP]; exact addP_iff.mpr (Or.inl h)
  have hPQ : ∀ x y, ePQ (u :: inn ++ [w]) x y = true → P x y = false := fun x y q => by
    rcases eP_iff.mp q with q | q
    · exact (hpe _ q).2
    · rw [hg.1]; exact (hpe _ q).2
  have hinn : ∀ p ∈ inn, p < 10 ∧ PV p = false := fun p hp => ⟨(hinn0 p hp).1, (hinn0 p hp).2.1⟩
  have hu10 := hV u hPu
  have hw10 := hV w hPw
  have h10 : ∀ z ∈ u :: inn ++ [w], z < 10 := fun z hz => by
    simp only [List.cons_append, List.mem_cons, List.mem_append, List.not_mem_nil, or_false] at hz
    rcases hz with e | e | e
    · rw [e]; exact hu10
    · exact (hinn z e).1
    · rw [e]; exact hw10
  have hpathF : allF F (u :: inn ++ [w]) := fun q hq => (hpe q hq).1
  -- faces at u and w
  obtain ⟨yu, hyu⟩ := TH_nbr hB hV hT hPu
  obtain ⟨iu, hiu, hZu⟩ := TH_cov hB hV hT hF hyu
  obtain ⟨yw, hyw⟩ := TH_nbr hB hV hT hPw
  obtain ⟨iw, hiw, hZw⟩ := TH_cov hB hV hT hF hyw
  have hcu : ∃ k, k < m ∧ ∃ y, Z k u y = true := ⟨iu, hiu, yu, hZu⟩
  have su : ∀ v, cmp P PV (inC (x' :: I ++ y' :: O)) u v = true → ∀ y i, i < m → Z i v y = true → U i = true := fun v hv y i hi hZ => by
    rw [cmp_side hB hV hF hC hPu huC' hiu hZu v hv y i hi hZ]
    exact hUu iu hiu ⟨yu, hZu⟩
  have sw' : ∀ v, cmp P PV (inC (x' :: I ++ y' :: O)) w v = true → ∀ y i, i < m → Z i v y = true → U i = false := fun v hv y i hi hZ => by
    rw [cmp_side hB hV hF hC hPw hwC' hiw hZw v hv y i hi hZ]
    exact hUw iw hiw ⟨yw, hZw⟩
  have huw : ∀ v, cmp P PV (inC (x' :: I ++ y' :: O)) u v = true → cmp P PV (inC (x' :: I ++ y' :: O)) w v = true → False := fun v h1 h2 => by
    obtain ⟨yv, hyv⟩ := TH_nbr hB hV hT (cmp_in h1).1
    obtain ⟨iv, hiv, hZv⟩ := TH_cov hB hV hT hF hyv
    have := su v h1 yv iv hiv hZv
    rw [sw' v h2 yv iv hiv hZv] at this
    cases this
  -- the inside
  let N : Nat → Bool := fun v => bo (v ∈ I ∨ (PV v = true ∧ v ∉ x' :: I ++ y' :: O ∧ (cmp P PV (inC (x' :: I ++ y' :: O)) w v = true ∨ ∃ s ∈ I, ctc P (inC (x' :: I ++ y' :: O)) (cmp P PV (inC (x' :: I ++ y' :: O)) v) s = true)))
  have hNi : ∀ v, N v = true ↔ (v ∈ I ∨ (PV v = true ∧ v ∉ x' :: I ++ y' :: O ∧ (cmp P PV (inC (x' :: I ++ y' :: O)) w v = true ∨ ∃ s ∈ I, ctc P (inC (x' :: I ++ y' :: O)) (cmp P PV (inC (x' :: I ++ y' :: O)) v) s = true))) := fun v => bo_iff
  have hNO : ∀ v, v ∈ x' :: I ++ y' :: O → v ∉ I → N v = false := fun v h1 h2 => by
    cases e : N v with
    | false => rfl
    | true =>
      rcases (hNi v).mp e with g | ⟨_, g, _⟩
      · exact absurd g h2
      · exact absurd h1 g
  have hNw : N w = true := (hNi w).mpr (Or.inr ⟨hPw, hwC, Or.inl (cmp_self hPw hwC')⟩)
  have hNcw : ∀ v, cmp P PV (inC (x' :: I ++ y' :: O)) w v = true → N v = true := fun v h => (hNi v).mpr (Or.inr ⟨(cmp_in h).1, of_decide_eq_false (cmp_in h).2, Or.inl h⟩)
  have hNcu : ∀ v, cmp P PV (inC (x' :: I ++ y' :: O)) u v = true → N v = false := fun v h => by
    cases e : N v with
    | false => rfl
    | true =>
      exfalso
      rcases (hNi v).mp e with g | ⟨_, _, g | ⟨s, hs, g⟩⟩
      · have := (cmp_in h).2
        rw [show inC (x' :: I ++ y' :: O) v = true from decide_eq_true (mI v g)] at this
        cases this
      · exact huw v h g
      · rw [ctc_ext (cmp_same hB.1 hu10 (hV v (cmp_in h).1) h), hAI s hs] at g
        cases g
  have hNu : N u = false := hNcu u (cmp_self hPu huC')
  have hNinn : ∀ p ∈ inn, N p = false := fun p hp => by
    cases e : N p with
    | false => rfl
    | true =>
      exfalso
      have hPp := (hinn p hp).2
      rcases (hNi p).mp e with g | ⟨g, _⟩
      · rw [hCPV p (mI p g)] at hPp; cases hPp
      · rw [g] at hPp; cases hPp
  have hNx := hNO x' mx nxI
  have hNy := hNO y' my (fun e => nIO y' e y' (Or.inl rfl) rfl)
  have hNOO : ∀ v ∈ O, N v = false := fun v hv => hNO v (mO v hv) (fun e => nIO v e v (Or.inr hv) rfl)
  -- crossing is excluded
  have cross : ∀ s t, s ∈ I → t ∈ O → (P s t = true ∧ eSQ (x' :: I ++ y' :: O) s t = false ∧ ∀ i, i < m → Z i s t = true → U i = false) ∨ (∃ z, PV z = true ∧ inC (x' :: I ++ y' :: O) z = false ∧ cmp P PV (inC (x' :: I ++ y' :: O)) w z = false ∧ (∀ y i, i < m → Z i z y = true → U i = false) ∧ ctc P (inC (x' :: I ++ y' :: O)) (cmp P PV (inC (x' :: I ++ y' :: O)) z) s = true ∧ ctc P (inC (x' :: I ++ y' :: O)) (cmp P PV (inC (x' :: I ++ y' :: O)) z) t = true) → False := fun s t hs ht h => cross_no hB hV hT hF hC hPw hwC' hx hy hs ht h
  -- the arcs
  have hCe := eS_two c1 c2
  have hdC : ∀ q ∈ dts (x' :: I ++ y' :: O), P q.1 q.2 = true := fun q hq => by
    have : ev P (eSQ (x' :: I ++ y' :: O)) := by rw [hU]; exact sU_ev fun i hi _ => hF.1 i hi
    exact this.1.2 _ _ (eS_iff.mpr (Or.inl hq))
  have hIarc : allF P (x' :: I ++ [y']) := fun q hq => hdC q (by rw [dts_two]; exact List.mem_append_left _ hq)
  have hOarc : allF P (y' :: O ++ [x']) := fun q hq => hdC q (by rw [dts_two]; exact List.mem_append_right _ hq)
  have arcs : ∀ x y, ePQ (y' :: O ++ [x']) x y = true → ePQ (x' :: I ++ [y']) x y = false := fun x y h => by
    have h1 : eSQ (x' :: I ++ y' :: O) x y = true := by
      rcases eP_iff.mp h with g | g
      · exact eS_iff.mpr (Or.inl (by rw [dts_two]; exact List.mem_append_right _ g))
      · exact eS_iff.mpr (Or.inr (by rw [dts_two]; exact List.mem_append_right _ g))
    rw [hCe] at h1
    simp only [xr, h] at h1
    revert h1
    cases ePQ (x' :: I ++ [y']) x y <;> simp
  have hnI : (x' :: I ++ [y']).Nodup := by
    have h1 : (x' :: I).Nodup := List.nodup_cons.mpr ⟨nxI, nI⟩
    refine List.nodup_append.mpr ⟨h1, by simp, fun a ha b hb e => ?_⟩
    rw [List.mem_singleton] at hb
    subst hb; subst e
    rcases List.mem_cons.mp ha with e | e
    · exact nxy e.symm
    · exact nIO a e a (Or.inl rfl) rfl
  have hnO : (y' :: O ++ [x']).Nodup := by
    have h1 : (y' :: O).Nodup := List.nodup_cons.mpr ⟨nyO, nO⟩
    refine List.nodup_append.mpr ⟨h1, by simp, fun a ha b hb e => ?_⟩
    rw [List.mem_singleton] at hb
    subst hb; subst e
    rcases List.mem_cons.mp ha with e | e
    · exact nxy e
    · exact nxO e
  have h10I : ∀ z ∈ x' :: I ++ [y'], z < 10 := fun z hz => c3 z (by
    simp only [List.cons_append, List.mem_cons, List.mem_append, List.not_mem_nil, or_false] at hz ⊢
    rcases hz with e | e | e <;> simp [e])
  have mO' : ∀ z ∈ y' :: O ++ [x'], z ∈ x' :: I ++ y' :: O := fun z hz => by
    simp only [List.cons_append, List.mem_cons, List.mem_append, List.not_mem_nil, or_false] at hz ⊢
    rcases hz with e | e | e <;> simp [e]
  have hNO' : ∀ z ∈ y' :: O ++ [x'], N z = false := fun z hz => by
    simp only [List.cons_append, List.mem_cons, List.mem_append, List.not_mem_nil, or_false] at hz
    rcases hz with e | e | e
    · rw [e]; exact hNy
    · exact hNOO z e
    · rw [e]; exact hNx
  -- an edge of C at a vertex of I stays near
  have nearI : ∀ v z, v ∈ I → eSQ (x' :: I ++ y' :: O) v z = true → z ∉ O := fun v z hv h hz => by
    rw [hCe] at h
    simp only [xr] at h
    cases q1 : ePQ (x' :: I ++ [y']) v z with
    | true =>
      have := (eP_mem q1).2
      simp only [List.cons_append, List.mem_cons, List.mem_append, List.not_mem_nil, or_false] at this
      rcases this with e | e | e
      · exact nxO (e ▸ hz)
      · exact nIO z e z (Or.inr hz) rfl
      · exact nyO (e ▸ hz)
    | false =>
      rw [q1, Bool.false_xor] at h
      have := (eP_mem h).1
      simp only [List.cons_append, List.mem_cons, List.mem_append, List.not_mem_nil, or_false] at this
      rcases this with e | e | e
      · exact nIO v hv y' (Or.inl rfl) e
      · exact nIO v hv v (Or.inr e) rfl
      · exact nxI (e ▸ hv)
  -- the inside is closed
  have closed : ∀ v z, P v z = true → N v = true → z = x' ∨ z = y' ∨ N z = true := fun v z hP hNv => by
    obtain ⟨hv10, hz10, hPv, hPz⟩ := hB.2.2.1 v z hP
    by_cases hzC : z ∈ x' :: I ++ y' :: O
    · have hz4 : z = x' ∨ z ∈ I ∨ z = y' ∨ z ∈ O := by simpa using hzC
      rcases hz4 with e | e | e | e
      · exact Or.inl e
      · exact Or.inr (Or.inr ((hNi z).mpr (Or.inl e)))
      · exact Or.inr (Or.inl e)
      · exfalso
        rcases (hNi v).mp hNv with g | ⟨_, g, h⟩
        · cases q : eSQ (x' :: I ++ y' :: O) v z with
          | true => exact nearI v z g q e
          | false => exact cross v z g e (Or.inl ⟨hP, q, fun i hi hZ => chord_side hB hV hF hC hcu (mI v g) hzC hP q hi hZ⟩)
        · have hvC : inC (x' :: I ++ y' :: O) v = false := decide_eq_false g
          have hct : ctc P (inC (x' :: I ++ y' :: O)) (cmp P PV (inC (x' :: I ++ y' :: O)) v) z = true := by
            unfold ctc
            rw [nb_iff.mpr ⟨v, hv10, cmp_self hPv hvC, hP⟩, show inC (x' :: I ++ y' :: O) z = true from decide_eq_true hzC]
            rfl
          have wcase : cmp P PV (inC (x' :: I ++ y' :: O)) w v = true → False := fun h => by
            rw [ctc_ext (cmp_same hB.1 hw10 hv10 h), hBO z e] at hct
            cases hct
          rcases h with h | ⟨s, hs, h⟩
          · exact wcase h
          · cases hwv : cmp P PV (inC (x' :: I ++ y' :: O)) w v with
            | true => exact wcase hwv
            | false =>
              have hvu : cmp P PV (inC (x' :: I ++ y' :: O)) v u = false := by
                cases q : cmp P PV (inC (x' :: I ++ y' :: O)) v u with
                | false => rfl
                | true =>
                  exfalso
                  have h1 := cmp_same (S := PV) (PV := inC (x' :: I ++ y' :: O)) hB.1 hv10 hu10 q
                  rw [← ctc_ext h1, hAI s hs] at h
                  cases h
              exact cross s z hs e (Or.inr ⟨v, hPv, hvC, hwv, fun y i hi hZ => comp_side hB hV hT hF hC hcu hPw hPv hvC hvu v (cmp_self hPv hvC) y i hi hZ, h, hct⟩)
    · have hzC' : inC (x' :: I ++ y' :: O) z = false := decide_eq_false hzC
      refine Or.inr (Or.inr ((hNi z).mpr (Or.inr ⟨hPz, hzC, ?_⟩)))
      rcases (hNi v).mp hNv with g | ⟨_, g, h⟩
      · refine Or.inr ⟨v, g, ?_⟩
        unfold ctc
        rw [nb_iff.mpr ⟨z, hz10, cmp_self hPz hzC', by rw [hB.1]; exact hP⟩, show inC (x' :: I ++ y' :: O) v = true from decide_eq_true (mI v g)]
        rfl
      · have hvC : inC (x' :: I ++ y' :: O) v = false := decide_eq_false g
        have hcz : cmp P PV (inC (x' :: I ++ y' :: O)) v z = true := cmp_step hv10 hz10 (cmp_self hPv hvC) hP hPz hzC'
        rcases h with h | ⟨s, hs, h⟩
        · exact Or.inl (cmp_step hv10 hz10 h hP hPz hzC')
        · refine Or.inr ⟨s, hs, ?_⟩
          rw [ctc_ext (cmp_same hB.1 hv10 hz10 hcz)]
          exact h
  -- the two parts
  let F1 : xG := fun x y => P x y && ((N x || N y) || ePQ (x' :: I ++ [y']) x y)
  let F2 : xG := fun x y => P x y && !((N x || N y) || ePQ (x' :: I ++ [y']) x y)
  have f1i : ∀ x y, F1 x y = true ↔ P x y = true ∧ (N x = true ∨ N y = true ∨ ePQ (x' :: I ++ [y']) x y = true) := fun x y => by
    show (P x y && _) = true ↔ _
    rw [Bool.and_eq_true, Bool.or_eq_true, Bool.or_eq_true, or_assoc]
  have f2i : ∀ x y, F2 x y = true ↔ P x y = true ∧ N x = false ∧ N y = false ∧ ePQ (x' :: I ++ [y']) x y = false := fun x y => by
    show (P x y && _) = true ↔ _
    rw [Bool.and_eq_true, Bool.not_eq_true', Bool.or_eq_false_iff, Bool.or_eq_false_iff, and_assoc]
  have hs1 : ∀ x y, F1 x y = F1 y x := fun x y => by
    rw [Bool.eq_iff_iff, f1i, f1i, hg.1 x y, eP_sym _ x y]
    constructor <;> (rintro ⟨a, b⟩; refine ⟨a, ?_⟩; rcases b with b | b | b; exact Or.inr (Or.inl b); exact Or.inl b; exact Or.inr (Or.inr b))
  have hs2 : ∀ x y, F2 x y = F2 y x := fun x y => by
    rw [Bool.eq_iff_iff, f2i, f2i, hg.1 x y, eP_sym _ x y]
    constructor <;> rintro ⟨a, b, c, d⟩ <;> exact ⟨a, c, b, d⟩
  have h1P : ∀ x y, F1 x y = true → P x y = true := fun x y h => ((f1i x y).mp h).1
  have h2P : ∀ x y, F2 x y = true → P x y = true := fun x y h => ((f2i x y).mp h).1
  have hN1 : ∀ x y, F1 x y = true → N x = true ∨ x = x' ∨ x = y' := fun x y h => by
    obtain ⟨hP, hc⟩ := (f1i x y).mp h
    rcases hc with g | g | g
    · exact Or.inl g
    · rcases closed y x (by rw [hg.1]; exact hP) g with e | e | e
      · exact Or.inr (Or.inl e)
      · exact Or.inr (Or.inr e)
      · exact Or.inl e
    · have := (eP_mem g).1
      simp only [List.cons_append, List.mem_cons, List.mem_append, List.not_mem_nil, or_false] at this
      rcases this with e | e | e
      · exact Or.inr (Or.inl e)
      · exact Or.inl ((hNi x).mpr (Or.inl e))
      · exact Or.inr (Or.inr e)
  have hg1 : gok F1 := ⟨hs1, fun v => by show (P v v && _) = false; rw [hg.2.1]; rfl, fun a b h => hg.2.2 a b (h1P a b h)⟩
  have hg2 : gok F2 := ⟨hs2, fun v => by show (P v v && _) = false; rw [hg.2.1]; rfl, fun a b h => hg.2.2 a b (h2P a b h)⟩
  have hsF : ∀ x y, F x y = F y x := hgF.1
  -- contacts as attachments
  have attu : ∀ v, ctc P (inC (x' :: I ++ y' :: O)) (cmp P PV (inC (x' :: I ++ y' :: O)) u) v = true → att F (fun v => cmp P PV (inC (x' :: I ++ y' :: O)) u v || decide (v ∈ inn)) v := fun v h => by
    unfold ctc at h
    rw [Bool.and_eq_true] at h
    obtain ⟨d, d1, d2, d3⟩ := nb_iff.mp h.1
    exact ⟨d, by dsimp only; rw [d2]; rfl, hPF d v d3⟩
  have attw : ∀ v, ctc P (inC (x' :: I ++ y' :: O)) (cmp P PV (inC (x' :: I ++ y' :: O)) w) v = true → att F (fun v => cmp P PV (inC (x' :: I ++ y' :: O)) w v || decide (v ∈ inn.reverse)) v := fun v h => by
    unfold ctc at h
    rw [Bool.and_eq_true] at h
    obtain ⟨d, d1, d2, d3⟩ := nb_iff.mp h.1
    exact ⟨d, by dsimp only; rw [d2]; rfl, hPF d v d3⟩
  have hpu : allF F (u :: inn) := fun e he => hpathF e (by
    obtain ⟨D, l, hD⟩ := snoc_ex u inn
    rw [hD] at he
    rw [hD, List.append_assoc, show [l] ++ [w] = l :: [w] from rfl, pd_app]
    exact List.mem_append_left _ he)
  have hrevF : allF F (w :: inn.reverse ++ [u]) := by
    have := allF_rev hsF hpathF
    simpa using this
  have hpw : allF F (w :: inn.reverse) := fun e he => hrevF e (by
    obtain ⟨D, l, hD⟩ := snoc_ex w inn.reverse
    rw [hD] at he
    rw [hD, List.append_assoc, show [l] ++ [u] = l :: [u] from rfl, pd_app]
    exact List.mem_append_left _ he)
  have Su := side_ear (F := F) (P := P) (C := x' :: I ++ y' :: O) hsF hPF hCPV hu10 hPu huC' hV hinn hpu
  have Sw := side_ear (F := F) (P := P) (C := x' :: I ++ y' :: O) (inn := inn.reverse) hsF hPF hCPV hw10 hPw hwC' hV (fun p hp => hinn p (List.mem_reverse.mp hp)) hpw
  -- first gluing
  have g1PW : PW (addP P (u :: inn ++ [w])) := by
    -- contacts of u along the outer arc
    obtain ⟨p0, q0, hpq0, hp0, hq0⟩ := hA2
    have onO : ∀ v, ctc P (inC (x' :: I ++ y' :: O)) (cmp P PV (inC (x' :: I ++ y' :: O)) u) v = true → v ∈ y' :: O ++ [x'] := fun v h => by
      have hvC : v ∈ x' :: I ++ y' :: O := by
        have h' := h
        unfold ctc at h'
        rw [Bool.and_eq_true] at h'
        exact of_decide_eq_true h'.2
      have h4 : v = x' ∨ v ∈ I ∨ v = y' ∨ v ∈ O := by simpa using hvC
      rcases h4 with e | e | e | e
      · simp [e]
      · rw [hAI v e] at h; cases h
      · simp [e]
      · simp [e]
    obtain ⟨Y1, al, R, e1, hal, hfirst⟩ := split_first (l := y' :: O ++ [x']) (p := ctc P (inC (x' :: I ++ y' :: O)) (cmp P PV (inC (x' :: I ++ y' :: O)) u)) ⟨p0, onO p0 hp0, hp0⟩
    have hexR : ∃ v ∈ R, ctc P (inC (x' :: I ++ y' :: O)) (cmp P PV (inC (x' :: I ++ y' :: O)) u) v = true := by
      have go : ∀ v, ctc P (inC (x' :: I ++ y' :: O)) (cmp P PV (inC (x' :: I ++ y' :: O)) u) v = true → v ≠ al → ∃ v ∈ R, ctc P (inC (x' :: I ++ y' :: O)) (cmp P PV (inC (x' :: I ++ y' :: O)) u) v = true := fun v hv hne => by
        have := onO v hv
        rw [e1] at this
        rcases List.mem_append.mp this with g | g
        · rw [hfirst v g] at hv; cases hv
        · rcases List.mem_cons.mp g with g | g
          · exact absurd g hne
          · exact ⟨v, g, hv⟩
      by_cases e : p0 = al
      · exact go q0 hq0 (fun q => hpq0 (e.trans q.symm))
      · exact go p0 hp0 e
    obtain ⟨Y3, be, Y4, e2, hbe, hlast⟩ := split_last hexR
    rw [e2] at e1
    have hYn : (Y1 ++ al :: (Y3 ++ be :: Y4)).Nodup := by rw [← e1]; exact hnO
    have hYP : allF P (Y1 ++ al :: (Y3 ++ be :: Y4)) := by rw [← e1]; exact hOarc
    obtain ⟨Y1', hY1⟩ : ∃ Y1', Y1 ++ [al] = y' :: Y1' := by
      cases hq : Y1 with
      | nil =>
        have : y' = al := by
          have := congrArg List.head? e1
          rw [hq] at this
          simpa using this
        exact ⟨[], by rw [this]; rfl⟩
      | cons z t =>
        have : y' = z := by
          have := congrArg List.head? e1
          rw [hq] at this
          simpa using this
        exact ⟨t ++ [al], by rw [this]; rfl⟩
    obtain ⟨Y4', hY4⟩ : ∃ Y4', be :: Y4 = Y4' ++ [x'] := by
      obtain ⟨D, l, hD⟩ := snoc_ex be Y4
      have : l = x' := by
        have h1 : (y' :: O ++ [x']).getLast? = some l := by
          rw [e1, show Y1 ++ al :: (Y3 ++ be :: Y4) = (Y1 ++ al :: Y3) ++ be :: Y4 by simp, hD, ← List.append_assoc, List.getLast?_concat]
        rw [List.getLast?_concat] at h1
        cases h1; rfl
      rw [this] at hD
      exact ⟨D, hD⟩
    obtain ⟨D0, pl, hpl⟩ := snoc_ex u inn
    have hplA : (cmp P PV (inC (x' :: I ++ y' :: O)) u pl || decide (pl ∈ inn)) = true := by
      have : pl ∈ u :: inn := by rw [hpl]; simp
      rcases List.mem_cons.mp this with e | e
      · rw [e, cmp_self hPu huC']; rfl
      · simp [e]
    have hplw : F pl w = true := hpathF (pl, w) (pd_last hpl)
    obtain ⟨s, La, Lb, Lp, t1, t2, t3, t4, t5, t6⟩ := TRP_ex hsF Su (attu al hal) (attu be hbe) hplA
    -- the legs
    have r1 : allF F (s :: (La ++ Y1'.reverse) ++ [y']) := by
      have h1 : allF F (Y1 ++ [al]) := fun e he => hPF _ _ (allF_left hYP e he)
      have h2 := allF_rev hsF h1
      have h3 : (Y1 ++ [al]).reverse = al :: Y1.reverse := by simp
      rw [h3] at h2
      have h4 := allF_join t3 h2
      have h5 : (s :: La) ++ al :: Y1.reverse = s :: (La ++ Y1'.reverse) ++ [y'] := by
        have : al :: Y1.reverse = Y1'.reverse ++ [y'] := by rw [← h3, hY1]; simp
        rw [this]; simp
      rw [h5] at h4
      exact h4
    have r2 : allF F (s :: (Lb ++ Y4') ++ [x']) := by
      have h1 : allF F (be :: Y4) := fun e he => hPF _ _ (by
        have h2 : allF P ((Y1 ++ al :: Y3) ++ be :: Y4) := by simpa using hYP
        exact allF_right h2 e he)
      have h4 := allF_join t4 h1
      have h5 : (s :: Lb) ++ be :: Y4 = s :: (Lb ++ Y4') ++ [x'] := by rw [hY4]; simp
      rw [h5] at h4
      exact h4
    have r3 : allF F (s :: Lp ++ [w]) := allF_snoc hsF t5 t6 hplw
    -- membership
    have hAv : ∀ v, (cmp P PV (inC (x' :: I ++ y' :: O)) u v || decide (v ∈ inn)) = true → N v = false ∧ v ∉ x' :: I ++ y' :: O ∧ v ≠ w ∧ v < 10 ∧ ∀ y, F1 v y = false := fun v h => by
      have h' : cmp P PV (inC (x' :: I ++ y' :: O)) u v = true ∨ v ∈ inn := by simpa using h
      have a1 : N v = false := by
        rcases h' with g | g
        · exact hNcu v g
        · exact hNinn v g
      have a2 : v ∉ x' :: I ++ y' :: O := fun hv => by
        have := Su.2.1 v hv
        dsimp only at this
        rw [h] at this
        cases this
      refine ⟨a1, a2, (fun e => by rw [e, hNw] at a1; cases a1), Su.1 v h, fun y => ?_⟩
      cases q : F1 v y with
      | false => rfl
      | true =>
        rcases hN1 v y q with g | g | g
        · rw [a1] at g; cases g
        · exact absurd (g ▸ mx) a2
        · exact absurd (g ▸ my) a2
    have hYm : ∀ v, v ∈ Y1 ++ al :: (Y3 ++ be :: Y4) → v ∈ y' :: O ++ [x'] := fun v hv => by rw [e1]; exact hv
    have m1 : ∀ v ∈ Y1', v ∈ O := fun v hv => by
      have h1 : v ∈ Y1 ++ [al] := by rw [hY1]; exact List.mem_cons_of_mem _ hv
      have h2 : v ∈ y' :: O ++ [x'] := hYm v (by
        rcases List.mem_append.mp h1 with g | g
        · simp [g]
        · simp [List.mem_singleton.mp g])
      have hnY : (y' :: Y1').Nodup := by
        rw [← hY1]
        exact hYn.sublist (List.Sublist.append_left (by simp) _)
      have n1 : v ≠ y' := fun e => (List.nodup_cons.mp hnY).1 (e ▸ hv)
      have n2 : v ≠ x' := fun e => by
        have hx1 : x' ∈ Y3 ++ be :: Y4 := List.mem_append_right _ (by rw [hY4]; simp)
        have h3 := (List.nodup_append.mp (show ((Y1 ++ [al]) ++ (Y3 ++ be :: Y4)).Nodup by simpa using hYn)).2.2 v h1 x' hx1
        exact h3 e
      simp only [List.cons_append, List.mem_cons, List.mem_append, List.not_mem_nil, or_false] at h2
      rcases h2 with g | g | g
      · exact absurd g n1
      · exact g
      · exact absurd g n2
    have m4 : ∀ v ∈ Y4', v ∈ O := fun v hv => by
      have h1 : v ∈ be :: Y4 := by rw [hY4]; exact List.mem_append_left _ hv
      have h2 : v ∈ y' :: O ++ [x'] := hYm v (List.mem_append_right _ (List.mem_cons_of_mem _ (List.mem_append_right _ h1)))
      have hnY : (Y4' ++ [x']).Nodup := by
        rw [← hY4]
        exact (show ((Y1 ++ al :: Y3) ++ be :: Y4).Nodup by simpa using hYn).sublist (List.sublist_append_right _ _)
      have n1 : v ≠ x' := fun e => (List.nodup_append.mp hnY).2.2 v hv x' (by simp) e
      have n2 : v ≠ y' := fun e => by
        have hy1 : y' ∈ Y1 ++ [al] := by rw [hY1]; simp
        have h3 := (List.nodup_append.mp (show ((Y1 ++ [al]) ++ (Y3 ++ be :: Y4)).Nodup by simpa using hYn)).2.2 y' hy1 v (List.mem_append_right _ h1)
        exact h3 e.symm
      simp only [List.cons_append, List.mem_cons, List.mem_append, List.not_mem_nil, or_false] at h2
      rcases h2 with g | g | g
      · exact absurd g n2
      · exact g
      · exact absurd g n1
    have noF1O : ∀ v ∈ O, ∀ y, F1 v y = false := fun v hv y => by
      cases q : F1 v y with
      | false => rfl
      | true =>
        rcases hN1 v y q with g | g | g
        · rw [hNOO v hv] at g; cases g
        · exact absurd (g ▸ hv) nxO
        · exact absurd (g ▸ hv) nyO
    have hnodT : ((s :: La ++ Lb ++ Lp) ++ ((y' :: Y1') ++ (Y4' ++ [x'])) ++ [w]).Nodup := by
      have hsub : ((y' :: Y1') ++ (Y4' ++ [x'])).Sublist (Y1 ++ al :: (Y3 ++ be :: Y4)) := by
        rw [← hY1, ← hY4]
        have : ((Y1 ++ [al]) ++ (be :: Y4)).Sublist ((Y1 ++ [al]) ++ (Y3 ++ be :: Y4)) := List.Sublist.append_left (List.sublist_append_right _ _) _
        simpa using this
      refine List.nodup_append.mpr ⟨List.nodup_append.mpr ⟨t1, hYn.sublist hsub, fun a ha b hb e => ?_⟩, by simp, fun a ha b hb e => ?_⟩
      · subst e
        exact (hAv a (t2 a ha)).2.1 (mO' a (hYm a (hsub.subset hb)))
      · rw [List.mem_singleton] at hb
        subst hb; subst e
        rcases List.mem_append.mp ha with g | g
        · exact (hAv a (t2 a g)).2.2.1 rfl
        · exact hwC (mO' a (hYm a (hsub.subset g)))
    have hcount : ∀ z, List.count z (s :: (Lb ++ Y4') ++ (La ++ Y1'.reverse) ++ Lp ++ [x', y', w]) = List.count z ((s :: La ++ Lb ++ Lp) ++ ((y' :: Y1') ++ (Y4' ++ [x'])) ++ [w]) := fun z => by
      simp only [List.cons_append, List.nil_append, List.count_append, List.count_cons, List.count_reverse, List.count_nil]
      omega
    have hperT := List.perm_iff_count.mpr hcount
    have hTok : T3ok F1 s (Lb ++ Y4') (La ++ Y1'.reverse) Lp x' y' w := by
      refine ⟨hperT.nodup_iff.mpr hnodT, fun v hv => ?_, fun v hv y => ?_⟩
      · have hv2 := hperT.mem_iff.mp hv
        rcases List.mem_append.mp hv2 with g | g
        · rcases List.mem_append.mp g with g | g
          · exact (hAv v (t2 v g)).2.2.2.1
          · refine c3 v ?_
            rcases List.mem_append.mp g with g | g
            · rcases List.mem_cons.mp g with g | g
              · rw [g]; exact my
              · exact mO v (m1 v g)
            · rcases List.mem_append.mp g with g | g
              · exact mO v (m4 v g)
              · rw [List.mem_singleton.mp g]; exact mx
        · rw [List.mem_singleton.mp g]; exact hw10
      · simp only [List.cons_append, List.mem_cons, List.mem_append, List.mem_reverse] at hv
        rcases hv with g | (((g | g) | (g | g)) | g)
        · exact (hAv v (t2 v (by simp [g]))).2.2.2.2 y
        · exact (hAv v (t2 v (by simp [g]))).2.2.2.2 y
        · exact noF1O v (m4 v g) y
        · exact (hAv v (t2 v (by simp [g]))).2.2.2.2 y
        · exact noF1O v (m1 v g) y
        · exact (hAv v (t2 v (by simp [g]))).2.2.2.2 y
    -- an edge that is left out
    obtain ⟨h0, D1, hD1⟩ := cons_ex Y3 be
    have hedge : (al, h0) ∈ pd (y' :: O ++ [x']) := by
      rw [e1, pd_app]
      refine List.mem_append_right _ ?_
      have : al :: (Y3 ++ be :: Y4) = al :: Y3 ++ be :: Y4 := rfl
      rw [this, show al :: Y3 ++ be :: Y4 = (al :: Y3) ++ be :: Y4 from rfl, pd_app]
      exact List.mem_append_left _ (pd_head hD1)
    have hh0 : h0 ∈ Y3 ++ [be] := by rw [hD1]; exact List.mem_cons_self
    have hPe : P al h0 = true := hOarc _ hedge
    have halY : al ∈ y' :: O ++ [x'] := hYm al (by simp)
    have hh0Y : h0 ∈ y' :: O ++ [x'] := hYm h0 (by
      rcases List.mem_append.mp hh0 with g | g
      · simp [g]
      · simp [List.mem_singleton.mp g])
    have hF1no : F1 al h0 = false := by
      cases q : F1 al h0 with
      | false => rfl
      | true =>
        rcases ((f1i al h0).mp q).2 with g | g | g
        · rw [hNO' al halY] at g; cases g
        · rw [hNO' h0 hh0Y] at g; cases g
        · rw [arcs al h0 (eP_iff.mpr (Or.inl hedge))] at g; cases g
    have halC := mO' al halY
    have hh0C := mO' h0 hh0Y
    have ninA : ∀ v, v ∈ s :: La ++ Lb ++ Lp → v ∉ x' :: I ++ y' :: O := fun v hv => (hAv v (t2 v hv)).2.1
    have hYs : ((Y1 ++ [al]) ++ (Y3 ++ be :: Y4)).Nodup := by simpa using hYn
    have hYs2 : ((Y1 ++ al :: Y3) ++ be :: Y4).Nodup := by simpa using hYn
    have hnoT : gT F1 s (Lb ++ Y4') (La ++ Y1'.reverse) Lp x' y' w al h0 = false := by
      cases q : gT F1 s (Lb ++ Y4') (La ++ Y1'.reverse) Lp x' y' w al h0 with
      | false => rfl
      | true =>
        exfalso
        rcases gT_iff.mp q with g | g | g | g
        · rw [hF1no] at g; cases g
        · -- al is not on the leg to x'
          have := (eP_mem g).1
          have h5 : al ∈ s :: Lb ∨ al ∈ be :: Y4 := by
            rw [hY4]
            simp only [List.cons_append, List.append_assoc, List.mem_cons, List.mem_append, List.not_mem_nil, or_false] at this ⊢
            rcases this with r | r | r | r
            · exact Or.inl (Or.inl r)
            · exact Or.inl (Or.inr r)
            · exact Or.inr (Or.inl r)
            · exact Or.inr (Or.inr r)
          rcases h5 with r | r
          · exact ninA al (by
              rcases List.mem_cons.mp r with r | r <;> simp [r]) halC
          · exact (List.nodup_append.mp hYs2).2.2 al (by simp) al r rfl
        · -- h0 is not on the leg to y'
          have := (eP_mem g).2
          have h5 : h0 ∈ s :: La ∨ h0 ∈ Y1 ++ [al] := by
            rw [hY1]
            simp only [List.cons_append, List.append_assoc, List.mem_cons, List.mem_append, List.mem_reverse, List.not_mem_nil, or_false] at this ⊢
            rcases this with r | r | r | r
            · exact Or.inl (Or.inl r)
            · exact Or.inl (Or.inr r)
            · exact Or.inr (Or.inr r)
            · exact Or.inr (Or.inl r)
          rcases h5 with r | r
          · exact ninA h0 (by
              rcases List.mem_cons.mp r with r | r <;> simp [r]) hh0C
          · refine (List.nodup_append.mp hYs).2.2 h0 r h0 ?_ rfl
            rcases List.mem_append.mp hh0 with g2 | g2
            · simp [g2]
            · simp [List.mem_singleton.mp g2]
        · have := (eP_mem g).1
          simp only [List.cons_append, List.mem_cons, List.mem_append, List.not_mem_nil, or_false] at this
          rcases this with r | r | r
          · exact ninA al (by simp [r]) halC
          · exact ninA al (by simp [r]) halC
          · exact hwC (r ▸ halC)
    have hsubT : ∀ x y, gT F1 s (Lb ++ Y4') (La ++ Y1'.reverse) Lp x' y' w x y = true → F x y = true := fun x y q => by
      have leg : ∀ l : List Nat, allF F l → ePQ l x y = true → F x y = true := fun l hl h => by
        rcases eP_iff.mp h with r | r
        · exact hl _ r
        · rw [hsF]; exact hl _ r
      rcases gT_iff.mp q with g | g | g | g
      · exact hPF x y (h1P x y g)
      · exact leg _ r2 g
      · exact leg _ r1 g
      · exact leg _ r3 g
    have hPW1 := PW_proper hgF (gT_sym hs1) hsubT hmin (hPF _ _ hPe) hnoT
    have hc1 : ∃ X, ch F1 X ∧ ∀ v, v < 10 → od X v = bits x' y' w true true false v := by
      refine ⟨ePQ (x' :: I ++ [y']), ⟨eP_sym _, fun a b h => (f1i a b).mpr ⟨?_, Or.inr (Or.inr h)⟩⟩, fun v _ => ?_⟩
      · rcases eP_iff.mp h with r | r
        · exact hIarc _ r
        · rw [hg.1]; exact hIarc _ r
      · rw [od_path hnI h10I]
        unfold bits
        simp
    have hc2 : ∃ X, ch F1 X ∧ ∀ v, v < 10 → od X v = bits x' y' w true false true v := by
      have hx' := hx
      unfold ctc at hx'
      rw [Bool.and_eq_true] at hx'
      obtain ⟨d, d1, d2, d3⟩ := nb_iff.mp hx'.1
      have hcd := con_sym hB.1 hw10 d1 (cmp_con hw10 d1 d2)
      obtain ⟨K, k1, k2⟩ := con_chain hg d1 hw10 hcd
      have hne := ne_edge hg d3
      refine ⟨xr (eg d x') K, ch_xr (ch_eg hs1 ((f1i d x').mpr ⟨d3, Or.inl (hNcw d d2)⟩)) ⟨k1.1, fun a b h => ?_⟩, fun v _ => ?_⟩
      · have := bH_iff.mp (k1.2 a b h)
        exact (f1i a b).mpr ⟨this.1, Or.inl (hNcw a this.2.1)⟩
      · rw [od_xr, k2, od_eg d1 (c3 x' mx) hne]
        unfold bits
        cases decide (v = d) <;> cases decide (v = x') <;> cases decide (v = w) <;> simp
    obtain ⟨m1', W1, i1, j1, k1, tf1⟩ := TF_ex hTok hg1 hc1 hc2 hPW1
    -- second gluing
    obtain ⟨h9, D9, hD9⟩ := cons_ex inn w
    have hfirstu : F u h9 = true := hpathF (u, h9) (pd_head hD9)
    have hh9A : (cmp P PV (inC (x' :: I ++ y' :: O)) w h9 || decide (h9 ∈ inn.reverse)) = true := by
      have : h9 ∈ inn ++ [w] := by rw [hD9]; exact List.mem_cons_self
      rcases List.mem_append.mp this with e | e
      · simp [e]
      · rw [List.mem_singleton.mp e, cmp_self hPw hwC']; rfl
    obtain ⟨s2, La2, Lb2, Lp2, q1, q2, q3, q4, q5, q6⟩ := TRP_ex hsF Sw (attw x' hx) (attw y' hy) hh9A
    have q5' : allF F (s2 :: Lp2 ++ [u]) := allF_snoc hsF q5 q6 (by rw [hsF]; exact hfirstu)
    have hAv2 : ∀ v, (cmp P PV (inC (x' :: I ++ y' :: O)) w v || decide (v ∈ inn.reverse)) = true → v ∉ x' :: I ++ y' :: O ∧ v ≠ u ∧ v < 10 ∧ ∀ y, F2 v y = false := fun v h => by
      have h' : cmp P PV (inC (x' :: I ++ y' :: O)) w v = true ∨ v ∈ inn := by simpa using h
      have a2 : v ∉ x' :: I ++ y' :: O := fun hv => by
        have := Sw.2.1 v hv
        dsimp only at this
        rw [h] at this
        cases this
      refine ⟨a2, fun e => ?_, Sw.1 v h, fun y => ?_⟩
      · rw [e] at h'
        rcases h' with g | g
        · exact huw u (cmp_self hPu huC') g
        · have := (hinn u g).2; rw [hPu] at this; cases this
      · cases q : F2 v y with
        | false => rfl
        | true =>
          have h5 := (f2i v y).mp q
          rcases h' with g | g
          · rw [hNcw v g] at h5; cases h5.2.1
          · have := (hB.2.2.1 v y h5.1).2.2.1
            rw [(hinn v g).2] at this; cases this
    have hnod2 : (s2 :: La2 ++ Lb2 ++ Lp2 ++ [x', y', u]).Nodup := by
      refine List.nodup_append.mpr ⟨q1, ?_, fun a ha b hb e => ?_⟩
      · have n1 : x' ≠ u := fun e => huC (e ▸ mx)
        have n2 : y' ≠ u := fun e => huC (e ▸ my)
        simp [nxy, n1, n2]
      · subst e
        have h5 := hAv2 a (q2 a ha)
        simp only [List.mem_cons, List.not_mem_nil, or_false] at hb
        rcases hb with r | r | r
        · exact h5.1 (r ▸ mx)
        · exact h5.1 (r ▸ my)
        · exact h5.2.1 r
    have hTok2 : T3ok F2 s2 La2 Lb2 Lp2 x' y' u := by
      refine ⟨hnod2, fun v hv => ?_, fun v hv y => (hAv2 v (q2 v hv)).2.2.2 y⟩
      rcases List.mem_append.mp hv with g | g
      · exact (hAv2 v (q2 v g)).2.2.1
      · simp only [List.mem_cons, List.not_mem_nil, or_false] at g
        rcases g with r | r | r
        · rw [r]; exact c3 x' mx
        · rw [r]; exact c3 y' my
        · rw [r]; exact hu10
    obtain ⟨h8, D8, hD8⟩ := cons_ex I y'
    have hedge2 : (x', h8) ∈ pd (x' :: I ++ [y']) := pd_head hD8
    have hh8C : h8 ∈ x' :: I ++ y' :: O := by
      have := (pd_mem hedge2).2
      simp only [List.cons_append, List.mem_cons, List.mem_append, List.not_mem_nil, or_false] at this ⊢
      rcases this with r | r | r <;> simp [r]
    have hnoT2 : gT F2 s2 La2 Lb2 Lp2 x' y' u x' h8 = false := by
      cases q : gT F2 s2 La2 Lb2 Lp2 x' y' u x' h8 with
      | false => rfl
      | true =>
        exfalso
        have inA : ∀ v, v ∈ s2 :: La2 ++ Lb2 ++ Lp2 → v ∉ x' :: I ++ y' :: O := fun v hv => (hAv2 v (q2 v hv)).1
        rcases gT_iff.mp q with g | g | g | g
        · have := ((f2i x' h8).mp g).2.2.2
          rw [eP_iff.mpr (Or.inl hedge2)] at this
          cases this
        · rcases leg_end g with r | r
          · exact inA x' (by rcases List.mem_cons.mp r with r | r <;> simp [r]) mx
          · exact inA h8 (by rcases List.mem_cons.mp r with r | r <;> simp [r]) hh8C
        · rcases leg_end g with r | r
          · exact inA x' (by rcases List.mem_cons.mp r with r | r <;> simp [r]) mx
          · exact inA h8 (by rcases List.mem_cons.mp r with r | r <;> simp [r]) hh8C
        · rcases leg_end g with r | r
          · exact inA x' (by rcases List.mem_cons.mp r with r | r <;> simp [r]) mx
          · exact inA h8 (by rcases List.mem_cons.mp r with r | r <;> simp [r]) hh8C
    have hsubT2 : ∀ x y, gT F2 s2 La2 Lb2 Lp2 x' y' u x y = true → F x y = true := fun x y q => by
      have leg : ∀ l : List Nat, allF F l → ePQ l x y = true → F x y = true := fun l hl h => by
        rcases eP_iff.mp h with r | r
        · exact hl _ r
        · rw [hsF]; exact hl _ r
      rcases gT_iff.mp q with g | g | g | g
      · exact hPF x y (h2P x y g)
      · exact leg _ q3 g
      · exact leg _ q4 g
      · exact leg _ q5' g
    have hPW2 := PW_proper hgF (gT_sym hs2) hsubT2 hmin (hPF _ _ (hIarc _ hedge2)) hnoT2
    have hOF2 : ∀ x y, ePQ (y' :: O ++ [x']) x y = true → F2 x y = true := fun x y h => by
      have hm := eP_mem h
      refine (f2i x y).mpr ⟨?_, hNO' x hm.1, hNO' y hm.2, arcs x y h⟩
      rcases eP_iff.mp h with r | r
      · exact hOarc _ r
      · rw [hg.1]; exact hOarc _ r
    have h10O : ∀ z ∈ y' :: O ++ [x'], z < 10 := fun z hz => c3 z (mO' z hz)
    have hd1 : ∃ X, ch F2 X ∧ ∀ v, v < 10 → od X v = bits x' y' u true true false v := by
      refine ⟨ePQ (y' :: O ++ [x']), ⟨eP_sym _, hOF2⟩, fun v _ => ?_⟩
      rw [od_path hnO h10O]
      unfold bits
      cases decide (v = y') <;> cases decide (v = x') <;> simp
    have hd2 : ∃ X, ch F2 X ∧ ∀ v, v < 10 → od X v = bits x' y' u true false true v := by
      have hal' := hal
      unfold ctc at hal'
      rw [Bool.and_eq_true] at hal'
      obtain ⟨d, d1, d2, d3⟩ := nb_iff.mp hal'.1
      have hcd := cmp_con hu10 d1 d2
      obtain ⟨K, k1, k2⟩ := con_chain hg hu10 d1 hcd
      have hne := ne_edge hg d3
      have hcuF2 : ∀ a b, P a b = true → cmp P PV (inC (x' :: I ++ y' :: O)) u a = true → N b = false → F2 a b = true := fun a b h1 h2 h3 => by
        refine (f2i a b).mpr ⟨h1, hNcu a h2, h3, ?_⟩
        cases q : ePQ (x' :: I ++ [y']) a b with
        | false => rfl
        | true =>
          exfalso
          have := (eP_mem q).1
          have h4 : a ∈ x' :: I ++ y' :: O := by
            simp only [List.cons_append, List.mem_cons, List.mem_append, List.not_mem_nil, or_false] at this ⊢
            rcases this with r | r | r <;> simp [r]
          exact of_decide_eq_false (cmp_in h2).2 h4
      -- along the outer arc from al to x'
      have hsuf : (al :: (Y3 ++ be :: Y4)).Nodup := hYn.sublist (List.sublist_append_right _ _)
      have hsufm : ∀ z ∈ al :: (Y3 ++ be :: Y4), z ∈ y' :: O ++ [x'] := fun z hz => hYm z (List.mem_append_right _ hz)
      have hsufF : ∀ x y, ePQ (al :: (Y3 ++ be :: Y4)) x y = true → F2 x y = true := fun x y h => hOF2 x y (by
        have key : ∀ q, q ∈ pd (al :: (Y3 ++ be :: Y4)) → q ∈ pd (y' :: O ++ [x']) := fun q hq => by
          rw [e1, pd_app]
          exact List.mem_append_right _ hq
        rcases eP_iff.mp h with r | r
        · exact eP_iff.mpr (Or.inl (key _ r))
        · exact eP_iff.mpr (Or.inr (key _ r)))
      have hlastx : (al :: (Y3 ++ be :: Y4)).getLastD 0 = x' := by
        rw [hY4, show al :: (Y3 ++ (Y4' ++ [x'])) = (al :: (Y3 ++ Y4')) ++ [x'] by simp, List.getLastD_eq_getLast?, List.getLast?_concat]
        rfl
      refine ⟨xr K (xr (eg d al) (ePQ (al :: (Y3 ++ be :: Y4)))), ch_xr ⟨k1.1, fun a b h => ?_⟩ (ch_xr (ch_eg hs2 (hcuF2 d al d3 d2 (hNO' al halY))) ⟨eP_sym _, hsufF⟩), fun v _ => ?_⟩
      · have := bH_iff.mp (k1.2 a b h)
        exact hcuF2 a b this.1 this.2.1 (hNcu b this.2.2)
      · rw [od_xr, od_xr, k2, od_eg d1 (c3 al halC) hne, od_eP al _ hsuf (fun z hz => h10O z (hsufm z hz)), hlastx]
        unfold bits
        cases decide (v = u) <;> cases decide (v = d) <;> cases decide (v = al) <;> cases decide (v = x') <;> simp
    obtain ⟨m2', W2, i2, j2, k2, tf2⟩ := TF_ex hTok2 hg2 hd1 hd2 hPW2
    exact SUM3 hg (fun x y h => (hB.2.2.1 x y h).2.2.1) hs1 hs2 h1P h2P (fun x y h => by
      cases q : ((N x || N y) || ePQ (x' :: I ++ [y']) x y) with
      | true => exact Or.inl (by show (P x y && _) = true; rw [h, q]; rfl)
      | false => exact Or.inr (by show (P x y && !_) = true; rw [h, q]; rfl)) (fun x y h1 h2 => by
      obtain ⟨a1, a2, a3, a4⟩ := (f2i x y).mp h2
      rcases ((f1i x y).mp h1).2 with g | g | g
      · rw [a2] at g; cases g
      · rw [a3] at g; cases g
      · rw [a4] at g; cases g) hN1 (fun x y h => ((f2i x y).mp h).2.1) hNw hNu hNx hNy nxy (c3 x' mx) (c3 y' my) hn0 h10 (fun p hp => (hinn p hp).2) hPQ tf1 tf2
  exact hno (PW_ext (fun x y => (hFP x y).symm) g1PW)
