/-! what the law asks of a forbidden subgraph -/
def enS (F : xG) (B : Nat → Bool) (v : Nat) : Nat → Bool := fun z => anyv (fun w => F v w && decide (enF F B 10 v w = z)) 10
def bV (F : xG) : Nat → Bool := fun v => decide (2 < cnt (F v) 10)
def adjP (prs : List xPr) (i j : Nat) : Bool := anyv (fun t => (decide ((prs.getD t (0, 0)).1 = i) && decide ((prs.getD t (0, 0)).2 = j)) || (decide ((prs.getD t (0, 0)).2 = i) && decide ((prs.getD t (0, 0)).1 = j))) prs.length
section
variable {F : xG} {n : Nat} {prs : List xPr} {br : Nat → Nat} {M : Nat → List Nat}
theorem bV_iff (hP : PRok n prs) (hM : MOD F n prs br M) (h3 : ∀ i, i < n → 2 < cnt (fun t => inc prs t i) prs.length) (v : Nat) : bV (gM prs br M) v = true ↔ ∃ i, i < n ∧ v = br i := by
  unfold bV
  rw [decide_eq_true_eq]
  exact br_iff hP hM h3 v
theorem enS_iff (hP : PRok n prs) (hM : MOD F n prs br M) (h3 : ∀ i, i < n → 2 < cnt (fun t => inc prs t i) prs.length) {i : Nat} (hi : i < n) (z : Nat) : enS (gM prs br M) (bV (gM prs br M)) (br i) z = true ↔ ∃ j, j < n ∧ adjP prs i j = true ∧ z = br j := by
  have hB := bV_iff hP hM h3
  unfold enS
  rw [anyv_iff]
  constructor
  · rintro ⟨w, hw, h⟩
    rw [Bool.and_eq_true, decide_eq_true_eq] at h
    obtain ⟨t, j, ht, hinc, hj, hp, _, he⟩ := enF_br hP hM hB hi h.1
    refine ⟨j, hj, ?_, h.2.symm.trans he⟩
    refine anyv_iff.mpr ⟨t, ht, ?_⟩
    rw [Bool.or_eq_true, Bool.and_eq_true, Bool.and_eq_true, decide_eq_true_eq, decide_eq_true_eq, decide_eq_true_eq, decide_eq_true_eq]
    rcases hp with ⟨a, b⟩ | ⟨a, b⟩
    · exact Or.inl ⟨a.symm, b.symm⟩
    · exact Or.inr ⟨a.symm, b.symm⟩
  · rintro ⟨j, hj, hadj, e⟩
    obtain ⟨t, ht, h⟩ := anyv_iff.mp hadj
    rw [Bool.or_eq_true, Bool.and_eq_true, Bool.and_eq_true, decide_eq_true_eq, decide_eq_true_eq, decide_eq_true_eq, decide_eq_true_eq] at h
    have hinc : inc prs t i = true := by
      unfold inc
      rw [Bool.or_eq_true, decide_eq_true_eq, decide_eq_true_eq]
      rcases h with ⟨a, _⟩ | ⟨a, _⟩
      · exact Or.inl a
      · exact Or.inr a
    obtain ⟨j0, X, w, h1, h2, h4, _⟩ := br_nbr hP hM ht hinc
    have hgw : gM prs br M (br i) w = true := gM_iff.mpr ⟨t, ht, h2⟩
    obtain ⟨t', j', ht', _, hj', hp', he', hen⟩ := enF_br hP hM hB hi hgw
    have := mpt_edge hP hM ht ht' h2 he'
    subst this
    have hl := pr_lt hP ht'
    have ejj : j' = j := by rcases hp' with ⟨a, b⟩ | ⟨a, b⟩ <;> rcases h with ⟨c, d⟩ | ⟨c, d⟩ <;> omega
    refine ⟨w, mpt_10 hP hM ht' w (eP_mem h2).2, ?_⟩
    rw [hgw, hen, ejj, e]
    simp
theorem many_br (hP : PRok n prs) (hM : MOD F n prs br M) (h3 : ∀ i, i < n → 2 < cnt (fun t => inc prs t i) prs.length) : cnt (bV (gM prs br M)) 10 = n := by
  obtain ⟨i1, i2, i3, i4, i5, i6⟩ := MOD_inj hM
  have := cnt_nbrs (S := bV (gM prs br M)) (l := (List.range n).map br) ((List.nodup_append.mp hM.1).1) (fun z hz => by
    obtain ⟨i, hi, e⟩ := List.mem_map.mp hz
    rw [← e]; exact i5 i (List.mem_range.mp hi)) (fun z _ => by
    rw [bV_iff hP hM h3, List.mem_map]
    constructor
    · rintro ⟨i, hi, e⟩; exact ⟨i, List.mem_range.mpr hi, e.symm⟩
    · rintro ⟨i, hi, e⟩; exact ⟨i, List.mem_range.mp hi, e.symm⟩)
  rw [this]
  simp
theorem not_one (hP : PRok n prs) (hM : MOD F n prs br M) (h3 : ∀ i, i < n → 2 < cnt (fun t => inc prs t i) prs.length) (v : Nat) : cnt (gM prs br M v) 10 ≠ 1 := by
  by_cases e1 : ∃ i, i < n ∧ v = br i
  · obtain ⟨i, hi, e⟩ := e1
    rw [e, deg_br hP hM hi]
    have := h3 i hi
    omega
  · by_cases e2 : ∃ t, t < prs.length ∧ v ∈ M t
    · obtain ⟨t, ht, hv⟩ := e2
      rw [deg_inner hP hM ht hv]
      omega
    · rw [deg_none hP hM (fun i hi q => e1 ⟨i, hi, q⟩) (fun t ht q => e2 ⟨t, ht, q⟩)]
      omega
end
theorem inc33 : ∀ i, i < 6 → cnt (fun t => inc P33 t i) P33.length = 3 := by decide +kernel
theorem inc5 : ∀ i, i < 5 → cnt (fun t => inc P5 t i) P5.length = 4 := by decide +kernel
theorem adj33 : ∀ i, i < 6 → ∀ j, j < 6 → adjP P33 i j = (decide (i < 3) ^^ decide (j < 3)) := by decide +kernel
theorem adj5 : ∀ i, i < 5 → ∀ j, j < 5 → adjP P5 i j = !decide (i = j) := by decide +kernel
/-- the law's words on a forbidden subgraph -/
def FORB (F : xG) : Prop := (∀ v, cnt (F v) 10 ≠ 1) ∧ ((cnt (bV F) 10 = 5 ∧ ∀ v, bV F v = true → cnt (F v) 10 = 4 ∧ ∀ z, enS F (bV F) v z = (bV F z ^^ decide (z = v))) ∨ (cnt (bV F) 10 = 6 ∧ ∀ v, bV F v = true → cnt (F v) 10 = 3 ∧ cnt (enS F (bV F) v) 10 = 3 ∧ ∀ z, enS F (bV F) (low (enS F (bV F) v)) z = (bV F z ^^ enS F (bV F) v z)))
theorem forb5 {F : xG} {br : Nat → Nat} {M : Nat → List Nat} (hM : MOD F 5 P5 br M) : FORB (gM P5 br M) := by
  have h3 : ∀ i, i < 5 → 2 < cnt (fun t => inc P5 t i) P5.length := fun i hi => by rw [inc5 i hi]; omega
  have hB := bV_iff P5_ok hM h3
  obtain ⟨i1, i2, i3, i4, i5, i6⟩ := MOD_inj hM
  refine ⟨not_one P5_ok hM h3, Or.inl ⟨many_br P5_ok hM h3, fun v hv => ?_⟩⟩
  obtain ⟨i, hi, e⟩ := (hB v).mp hv
  subst e
  refine ⟨by rw [deg_br P5_ok hM hi, inc5 i hi], fun z => ?_⟩
  cases hz : bV (gM P5 br M) z with
  | true =>
    obtain ⟨j, hj, e⟩ := (hB z).mp hz
    subst e
    by_cases hij : j = i
    · subst hij
      have : ¬ enS (gM P5 br M) (bV (gM P5 br M)) (br j) (br j) = true := fun h => by
        obtain ⟨k, hk, ha, e⟩ := (enS_iff P5_ok hM h3 hi _).mp h
        have := i1 _ _ hj hk e
        subst this
        rw [adj5 j hj j hj] at ha
        simp at ha
      rw [decide_eq_true rfl]
      cases q : enS (gM P5 br M) (bV (gM P5 br M)) (br j) (br j) with
      | true => exact absurd q this
      | false => rfl
    · have hne : ¬ br j = br i := fun e => hij (i1 _ _ hj hi e)
      rw [(enS_iff P5_ok hM h3 hi _).mpr ⟨j, hj, by rw [adj5 i hi j hj]; have : ¬ i = j := fun e => hij e.symm; simp [this], rfl⟩, decide_eq_false hne]
      rfl
  | false =>
    have h1 : enS (gM P5 br M) (bV (gM P5 br M)) (br i) z = false := by
      cases q : enS (gM P5 br M) (bV (gM P5 br M)) (br i) z with
      | false => rfl
      | true =>
        obtain ⟨k, hk, _, e⟩ := (enS_iff P5_ok hM h3 hi _).mp q
        rw [(hB z).mpr ⟨k, hk, e⟩] at hz
        cases hz
    have h2 : ¬ z = br i := fun e => by rw [(hB z).mpr ⟨i, hi, e⟩] at hz; cases hz
    rw [h1, decide_eq_false h2]
    rfl
theorem forb33 {F : xG} {br : Nat → Nat} {M : Nat → List Nat} (hM : MOD F 6 P33 br M) : FORB (gM P33 br M) := by
  have h3 : ∀ i, i < 6 → 2 < cnt (fun t => inc P33 t i) P33.length := fun i hi => by rw [inc33 i hi]; omega
  have hB := bV_iff P33_ok hM h3
  obtain ⟨i1, i2, i3, i4, i5, i6⟩ := MOD_inj hM
  have hE : ∀ i, i < 6 → ∀ z, enS (gM P33 br M) (bV (gM P33 br M)) (br i) z = true ↔ ∃ j, j < 6 ∧ (decide (i < 3) ^^ decide (j < 3)) = true ∧ z = br j := fun i hi z => by
    rw [enS_iff P33_ok hM h3 hi]
    constructor
    · rintro ⟨j, hj, ha, e⟩; exact ⟨j, hj, by rw [← adj33 i hi j hj]; exact ha, e⟩
    · rintro ⟨j, hj, ha, e⟩; exact ⟨j, hj, by rw [adj33 i hi j hj]; exact ha, e⟩
  have h3c : ∀ i, i < 6 → cnt (enS (gM P33 br M) (bV (gM P33 br M)) (br i)) 10 = 3 := fun i hi => by
    have go : ∀ a b c, a < 6 → b < 6 → c < 6 → a ≠ b → a ≠ c → b ≠ c → (∀ z, enS (gM P33 br M) (bV (gM P33 br M)) (br i) z = true ↔ z = br a ∨ z = br b ∨ z = br c) → cnt (enS (gM P33 br M) (bV (gM P33 br M)) (br i)) 10 = 3 := fun a b c ha hb hc n1 n2 n3 h => by
      have e1 : br a ≠ br b := fun e => n1 (i1 _ _ ha hb e)
      have e2 : br a ≠ br c := fun e => n2 (i1 _ _ ha hc e)
      have e3 : br b ≠ br c := fun e => n3 (i1 _ _ hb hc e)
      exact cnt_nbrs (l := [br a, br b, br c]) (by simp [e1, e2, e3]) (by simp [i5 a ha, i5 b hb, i5 c hc]) (fun z _ => by rw [h z]; simp)
    by_cases q : i < 3
    · refine go 3 4 5 (by omega) (by omega) (by omega) (by omega) (by omega) (by omega) (fun z => ?_)
      rw [hE i hi, decide_eq_true q]
      constructor
      · rintro ⟨j, hj, ha, e⟩
        have : ¬ j < 3 := fun h => by rw [decide_eq_true h] at ha; cases ha
        rcases (by omega : j = 3 ∨ j = 4 ∨ j = 5) with r | r | r
        · exact Or.inl (r ▸ e)
        · exact Or.inr (Or.inl (r ▸ e))
        · exact Or.inr (Or.inr (r ▸ e))
      · rintro (e | e | e)
        · exact ⟨3, by omega, rfl, e⟩
        · exact ⟨4, by omega, rfl, e⟩
        · exact ⟨5, by omega, rfl, e⟩
    · refine go 0 1 2 (by omega) (by omega) (by omega) (by omega) (by omega) (by omega) (fun z => ?_)
      rw [hE i hi, decide_eq_false q]
      constructor
      · rintro ⟨j, hj, ha, e⟩
        have : j < 3 := Classical.byContradiction fun h => by rw [decide_eq_false h] at ha; cases ha
        rcases (by omega : j = 0 ∨ j = 1 ∨ j = 2) with r | r | r
        · exact Or.inl (r ▸ e)
        · exact Or.inr (Or.inl (r ▸ e))
        · exact Or.inr (Or.inr (r ▸ e))
      · rintro (e | e | e)
        · exact ⟨0, by omega, rfl, e⟩
        · exact ⟨1, by omega, rfl, e⟩
        · exact ⟨2, by omega, rfl, e⟩
  refine ⟨not_one P33_ok hM h3, Or.inr ⟨many_br P33_ok hM h3, fun v hv => ?_⟩⟩
  obtain ⟨i, hi, e⟩ := (hB v).mp hv
  subst e
  refine ⟨by rw [deg_br P33_ok hM hi, inc33 i hi], h3c i hi, fun z => ?_⟩
  obtain ⟨j, hj, hij, ej⟩ : ∃ j, j < 6 ∧ (decide (i < 3) ^^ decide (j < 3)) = true ∧ low (enS (gM P33 br M) (bV (gM P33 br M)) (br i)) = br j := by
    have hex : ∃ z, z < 10 ∧ enS (gM P33 br M) (bV (gM P33 br M)) (br i) z = true := by
      by_cases q : i < 3
      · exact ⟨br 3, i5 3 (by omega), (hE i hi _).mpr ⟨3, by omega, by rw [decide_eq_true q]; rfl, rfl⟩⟩
      · exact ⟨br 0, i5 0 (by omega), (hE i hi _).mpr ⟨0, by omega, by rw [decide_eq_false q]; rfl, rfl⟩⟩
    obtain ⟨z, hz, hz2⟩ := hex
    exact (hE i hi _).mp (low_some hz hz2).2
  rw [ej]
  rw [Bool.eq_iff_iff, hE j hj]
  have hxor : (bV (gM P33 br M) z ^^ enS (gM P33 br M) (bV (gM P33 br M)) (br i) z) = true ↔ (bV (gM P33 br M) z = true ∧ enS (gM P33 br M) (bV (gM P33 br M)) (br i) z = false) := by
    have hsub : enS (gM P33 br M) (bV (gM P33 br M)) (br i) z = true → bV (gM P33 br M) z = true := fun h => by
      obtain ⟨k, hk, _, e⟩ := (hE i hi z).mp h
      exact (hB z).mpr ⟨k, hk, e⟩
    revert hsub
    cases bV (gM P33 br M) z <;> cases enS (gM P33 br M) (bV (gM P33 br M)) (br i) z <;> simp
  rw [hxor]
  constructor
  · rintro ⟨k, hk, ha, e⟩
    refine ⟨(hB z).mpr ⟨k, hk, e⟩, ?_⟩
    cases q : enS (gM P33 br M) (bV (gM P33 br M)) (br i) z with
    | false => rfl
    | true =>
      exfalso
      obtain ⟨l, hl, hb, e2⟩ := (hE i hi z).mp q
      have := i1 _ _ hk hl (e.symm.trans e2)
      subst this
      revert hij ha hb
      cases decide (i < 3) <;> cases decide (j < 3) <;> cases decide (k < 3) <;> simp
  · rintro ⟨h1, h2⟩
    obtain ⟨k, hk, e⟩ := (hB z).mp h1
    refine ⟨k, hk, ?_, e⟩
    have : ¬ (decide (i < 3) ^^ decide (k < 3)) = true := fun h => by
      rw [(hE i hi z).mpr ⟨k, hk, h, e⟩] at h2
      cases h2
    revert this hij
    cases decide (i < 3) <;> cases decide (j < 3) <;> cases decide (k < 3) <;> simp
/-- the program's forbidden subgraph is as the law asks -/
theorem obs_forb {e : Int64} (h : fl e = false) : FORB (gr (obs e 100)) := by
  obtain ⟨h1, h2⟩ := obs_min h
  rcases kur_eq (gr_gok _) h1 h2 with ⟨br, M, hM, e1⟩ | ⟨br, M, hM, e1⟩
  · rw [e1]; exact forb33 hM
  · rw [e1]; exact forb5 hM
