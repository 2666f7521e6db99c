/-! a least graph without a weak family holds a model -/
theorem kur {F : xG} (hgF : gok F) (hno : ¬PW F) (hmin : ∀ a b, F a b = true → PW (rm F a b)) : (∃ br M, MOD F 6 P33 br M) ∨ ∃ br M, MOD F 5 P5 br M := by
  obtain ⟨S, hb, hS, he, _⟩ := min_block hgF hno hmin
  obtain ⟨P, PV, u, inn, w, hES, hE, hFP, hPW⟩ := min_ear hb hS he hno hmin
  obtain ⟨hB, hPF, hPS, hT⟩ := hES
  have hTH : TH PV := hT
  have hV : ∀ v, PV v = true → v < 10 := fun v hv => hS v (hPS v hv)
  obtain ⟨m, Z, hF⟩ := PW_FS hPW
  obtain ⟨hn0, ⟨hPu, hPw⟩, hinn0, hpe⟩ := id hE
  have hg := BIC_gok hB
  have hPQ : ∀ x y, ePQ (u :: inn ++ [w]) x y = true → P x y = false := fun x y q => by
    rcases eP_iff.mp q with q | q
    · exact (hpe _ q).2
    · rw [hg.1]; exact (hpe _ q).2
  have hsF := hgF.1
  obtain ⟨yu, hyu⟩ := TH_nbr hB hV hTH hPu
  obtain ⟨iu, hiu, hZu⟩ := TH_cov hB hV hTH hF hyu
  obtain ⟨yw, hyw⟩ := TH_nbr hB hV hTH hPw
  obtain ⟨iw, hiw, hZw⟩ := TH_cov hB hV hTH hF hyw
  have hcof : ∀ k, k < m → (∃ y, Z k u y = true) → (∃ y, Z k w y = true) → False := fun k hk ⟨y1, h1⟩ ⟨y2, h2⟩ => hno (PW_ext (fun x y => (hFP x y).symm) (cofacial hB hV hF hn0 (fun p hp => ⟨(hinn0 p hp).1, (hinn0 p hp).2.1⟩) hPu hPw hPQ hk h1 h2))
  obtain ⟨C, U, hC⟩ := cut_ex hB hF ⟨iu, hiu, yu, hZu⟩ ⟨iw, hiw, yw, hZw⟩ hcof
  obtain ⟨hcy, ⟨hU, ⟨hCu, hCw⟩, hUu, hUw⟩, hleast⟩ := id hC
  have huC : inC C u = false := decide_eq_false (off_C hcy.2.1 hCu)
  have hwC : inC C w = false := decide_eq_false (off_C hcy.2.1 hCw)
  have hCPV : ∀ v ∈ C, PV v = true := fun v hv => CUT_PV hB hF hC (decide_eq_true hv)
  have hu10 := hV u hPu
  have hw10 := hV w hPw
  have hPS2 : ∀ v, inC C v = true → PV v = true ∧ v < 10 := fun v h => ⟨CUT_PV hB hF hC h, hV v (CUT_PV hB hF hC h)⟩
  have cC : ∀ (D : Nat → Bool) a, ctc P (inC C) D a = true → a ∈ C := fun D a ha => by
    unfold ctc at ha
    rw [Bool.and_eq_true] at ha
    exact of_decide_eq_true ha.2
  obtain ⟨a1, a2, _, _, a12, ha1, ha2⟩ := ctc_two hB hu10 hPu huC hPS2 (cyl_two hcy)
  obtain ⟨b1, b2, _, _, b12, hb1, hb2⟩ := ctc_two hB hw10 hPw hwC hPS2 (cyl_two hcy)
  rcases pos_three (C := C) (A := ctc P (inC C) (cmp P PV (inC C) u)) (B := ctc P (inC C) (cmp P PV (inC C) w)) ⟨a1, a2, cC _ a1 ha1, cC _ a2 ha2, a12, ha1, ha2⟩ ⟨b1, b2, cC _ b1 hb1, cC _ b2 hb2, b12, hb1, hb2⟩ with h | h | h
  all_goals try (
    have hPF' : ∀ x y, P x y = true → F x y = true := fun x y h => by rw [hFP]; exact addP_iff.mpr (Or.inl h)
    have hpathF : allF F (u :: inn ++ [w]) := fun q hq => (hpe q hq).1
    have hpu : allF F (u :: inn) := fun e he => hpathF e (by
      obtain ⟨D, l, hD⟩ := snoc_ex u inn
      rw [hD] at he
      rw [hD, List.append_assoc, show [l] ++ [w] = l :: [w] from rfl, pd_app]
      exact List.mem_append_left _ he)
    have hinn : ∀ p ∈ inn, p < 10 ∧ PV p = false := fun p hp => ⟨(hinn0 p hp).1, (hinn0 p hp).2.1⟩
    have Su := side_ear (F := F) (P := P) (C := C) hsF hPF' hCPV hu10 hPu huC hV hinn hpu
    have Sw := side_ear (F := F) (P := P) (C := C) (inn := []) hsF hPF' hCPV hw10 hPw hwC hV (fun p hp => by cases hp) (fun e he => by cases he)
    have su := cmp_side hB hV hF hC hPu huC hiu hZu
    have sw' := cmp_side hB hV hF hC hPw hwC hiw hZw
    have hdis : ∀ v, (cmp P PV (inC C) u v || decide (v ∈ inn)) = true → (cmp P PV (inC C) w v || decide (v ∈ ([] : List Nat))) = true → False := fun v h1 h2 => by
      have h2' : cmp P PV (inC C) w v = true := by simpa using h2
      have h1' : cmp P PV (inC C) u v = true ∨ v ∈ inn := by simpa using h1
      rcases h1' with g | g
      · obtain ⟨yv, hyv⟩ := TH_nbr hB hV hTH (cmp_in g).1
        obtain ⟨iv, hiv, hZv⟩ := TH_cov hB hV hTH hF hyv
        have e1 := su v g yv iv hiv hZv
        have e2 := sw' v h2' yv iv hiv hZv
        rw [hUu iu hiu ⟨yu, hZu⟩] at e1
        rw [hUw iw hiw ⟨yw, hZw⟩, e1] at e2
        cases e2
      · have := (cmp_in h2').1
        rw [(hinn v g).2] at this
        cases this
    obtain ⟨D0, pl, hpl⟩ := snoc_ex u inn
    have hplA : (cmp P PV (inC C) u pl || decide (pl ∈ inn)) = true := by
      have : pl ∈ u :: inn := by rw [hpl]; simp
      rcases List.mem_cons.mp this with e | e
      · rw [e, cmp_self hPu huC]; rfl
      · simp [e]
    have hplw : F pl w = true := hpathF (pl, w) (pd_last hpl)
    have hwA : (cmp P PV (inC C) w w || decide (w ∈ ([] : List Nat))) = true := by rw [cmp_self hPw hwC]; rfl
    have hCF : ∀ q ∈ dts C, F q.1 q.2 = true := fun q hq => hPF' _ _ (by
      have : ev P (eSQ C) := by rw [hU]; exact sU_ev fun i hi _ => hF.1 i hi
      exact this.1.2 _ _ (eS_iff.mpr (Or.inl hq)))
    have attu : ∀ v ∈ C, ctc P (inC C) (cmp P PV (inC C) u) v = true → att F (fun v => cmp P PV (inC C) u v || decide (v ∈ inn)) v := fun v _ h => by
      unfold ctc at h
      rw [Bool.and_eq_true] at h
      obtain ⟨d, d1, d2, d3⟩ := nb_iff.mp h.1
      exact ⟨d, by dsimp only; rw [d2]; rfl, hPF' d v d3⟩
    have attw : ∀ v ∈ C, ctc P (inC C) (cmp P PV (inC C) w) v = true → att F (fun v => cmp P PV (inC C) w v || decide (v ∈ ([] : List Nat))) v := fun v _ h => by
      unfold ctc at h
      rw [Bool.and_eq_true] at h
      obtain ⟨d, d1, d2, d3⟩ := nb_iff.mp h.1
      exact ⟨d, by dsimp only; rw [d2]; rfl, hPF' d v d3⟩)
  · exact Or.inl (skew_33 hsF hcy hCF Su Sw hdis hplA hwA hplw attu attw h)
  · exact trip_mod hsF hcy hCF Su Sw hdis hplA hwA hplw attu attw h
  · exfalso
    obtain ⟨x', I, y', O, hR, ⟨hx, hy⟩, hAI, hBO⟩ := h
    have hPC : inC (x' :: I ++ y' :: O) = inC C := by
      funext v
      rw [Bool.eq_iff_iff]
      show decide (v ∈ _) = true ↔ decide (v ∈ _) = true
      rw [decide_eq_true_eq, decide_eq_true_eq]
      exact Rot_mem hR v
    have hC2 := Rot_CUT hR hC
    refine apart_no hgF hmin hno hB hV hTH hF hE hFP hC2 ⟨a1, a2, a12, ?_, ?_⟩ ?_ ?_ ?_ ?_
    · rw [hPC]; exact ha1
    · rw [hPC]; exact ha2
    · rw [hPC]; exact hx
    · rw [hPC]; exact hy
    · rw [hPC]; exact hAI
    · rw [hPC]; exact hBO
