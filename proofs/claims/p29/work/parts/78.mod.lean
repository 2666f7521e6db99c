/-! a model has no weak family -/
/-- each pair in order, no pair twice -/
def PRok (n : Nat) (prs : List xPr) : Prop := (∀ q ∈ prs, q.1 < q.2 ∧ q.2 < n) ∧ prs.Nodup
def mpt (prs : List xPr) (br : Nat → Nat) (M : Nat → List Nat) (t : Nat) : List Nat := br (prs.getD t (0, 0)).1 :: M t ++ [br (prs.getD t (0, 0)).2]
def gM (prs : List xPr) (br : Nat → Nat) (M : Nat → List Nat) : xG := fun x y => anyv (fun t => ePQ (mpt prs br M t) x y) prs.length
theorem gM_iff {prs : List xPr} {br : Nat → Nat} {M : Nat → List Nat} {x y : Nat} : gM prs br M x y = true ↔ ∃ t, t < prs.length ∧ ePQ (mpt prs br M t) x y = true := anyv_iff
/-- is the branch vertex i an end of the pair t -/
def inc (prs : List xPr) (t i : Nat) : Bool := decide ((prs.getD t (0, 0)).1 = i) || decide ((prs.getD t (0, 0)).2 = i)
theorem pr_at {prs : List xPr} {t : Nat} (ht : t < prs.length) : prs[t]? = some (prs.getD t (0, 0)) := by
  rw [List.getElem?_eq_getElem ht, List.getD_eq_getElem?_getD, List.getElem?_eq_getElem ht]
  rfl
section
variable {F : xG} {n : Nat} {prs : List xPr} {br : Nat → Nat} {M : Nat → List Nat}
/-- the vertices of a model are different -/
theorem MOD_inj (hM : MOD F n prs br M) : (∀ i j, i < n → j < n → br i = br j → i = j) ∧ (∀ i t, i < n → t < prs.length → br i ∉ M t) ∧ (∀ t, t < prs.length → (M t).Nodup) ∧ (∀ t t' v, t < prs.length → t' < prs.length → v ∈ M t → v ∈ M t' → t = t') ∧ (∀ i, i < n → br i < 10) ∧ ∀ t v, t < prs.length → v ∈ M t → v < 10 := by
  obtain ⟨hn, h10, _⟩ := hM
  unfold mlist at hn h10
  obtain ⟨n1, n2, n3⟩ := List.nodup_append.mp hn
  obtain ⟨m1, m2⟩ := List.pairwise_flatMap.mp n2
  have memb : ∀ i, i < n → br i ∈ (List.range n).map br := fun i hi => List.mem_map.mpr ⟨i, List.mem_range.mpr hi, rfl⟩
  have memM : ∀ t v, t < prs.length → v ∈ M t → v ∈ (List.range prs.length).flatMap M := fun t v ht hv => List.mem_flatMap.mpr ⟨t, List.mem_range.mpr ht, hv⟩
  refine ⟨fun i j hi hj e => ?_, fun i t hi ht h => n3 _ (memb i hi) _ (memM t _ ht h) rfl, fun t ht => m1 t (List.mem_range.mpr ht), fun t t' v ht ht' h1 h2 => ?_, fun i hi => h10 _ (List.mem_append_left _ (memb i hi)), fun t v ht hv => h10 v (List.mem_append_right _ (memM t v ht hv))⟩
  · have hp : ((List.range n).map br).Pairwise (fun a b => a ≠ b) := n1
    rw [List.pairwise_map] at hp
    rcases Nat.lt_trichotomy i j with h | h | h
    · have := List.pairwise_iff_getElem.mp hp i j (by simp; omega) (by simp; omega) h
      simp at this
      exact absurd e this
    · exact h
    · have := List.pairwise_iff_getElem.mp hp j i (by simp; omega) (by simp; omega) h
      simp at this
      exact absurd e.symm this
  · rcases Nat.lt_trichotomy t t' with h | h | h
    · have := List.pairwise_iff_getElem.mp m2 t t' (by simp; omega) (by simp; omega) h
      simp only [List.getElem_range] at this
      exact absurd rfl (this v h1 v h2)
    · exact h
    · have := List.pairwise_iff_getElem.mp m2 t' t (by simp; omega) (by simp; omega) h
      simp only [List.getElem_range] at this
      exact absurd rfl (this v h2 v h1)
theorem pr_lt (hP : PRok n prs) {t : Nat} (ht : t < prs.length) : (prs.getD t (0, 0)).1 < (prs.getD t (0, 0)).2 ∧ (prs.getD t (0, 0)).2 < n := hP.1 _ (List.mem_of_getElem? (pr_at ht))
theorem mpt_nodup (hP : PRok n prs) (hM : MOD F n prs br M) {t : Nat} (ht : t < prs.length) : (mpt prs br M t).Nodup := by
  obtain ⟨i1, i2, i3, i4, i5, i6⟩ := MOD_inj hM
  have hl := pr_lt hP ht
  unfold mpt
  have h1 : (br (prs.getD t (0, 0)).1 :: M t).Nodup := List.nodup_cons.mpr ⟨i2 _ t (by omega) ht, i3 t ht⟩
  refine List.nodup_append.mpr ⟨h1, by simp, fun a ha b hb e => ?_⟩
  rw [List.mem_singleton] at hb
  subst hb; subst e
  rcases List.mem_cons.mp ha with e | e
  · have := i1 _ _ hl.2 (by omega) e
    omega
  · exact i2 _ t hl.2 ht e
theorem mpt_mem {t v : Nat} : v ∈ mpt prs br M t ↔ v = br (prs.getD t (0, 0)).1 ∨ v ∈ M t ∨ v = br (prs.getD t (0, 0)).2 := by
  unfold mpt
  simp
theorem mpt_10 (hP : PRok n prs) (hM : MOD F n prs br M) {t : Nat} (ht : t < prs.length) : ∀ v ∈ mpt prs br M t, v < 10 := fun v hv => by
  obtain ⟨i1, i2, i3, i4, i5, i6⟩ := MOD_inj hM
  have hl := pr_lt hP ht
  rcases mpt_mem.mp hv with e | e | e
  · rw [e]; exact i5 _ (by omega)
  · exact i6 t v ht e
  · rw [e]; exact i5 _ hl.2
/-- an inner vertex is of its path alone -/
theorem mpt_inner (hP : PRok n prs) (hM : MOD F n prs br M) {t t' v : Nat} (ht : t < prs.length) (ht' : t' < prs.length) (hv : v ∈ M t) (h : v ∈ mpt prs br M t') : t' = t := by
  obtain ⟨i1, i2, i3, i4, i5, i6⟩ := MOD_inj hM
  have hl := pr_lt hP ht'
  rcases mpt_mem.mp h with e | e | e
  · exact absurd hv (e ▸ i2 _ t (by omega) ht)
  · exact i4 t' t v ht' ht e hv
  · exact absurd hv (e ▸ i2 _ t hl.2 ht)
/-- an edge is of one path alone -/
theorem mpt_edge (hP : PRok n prs) (hM : MOD F n prs br M) {t t' x y : Nat} (ht : t < prs.length) (ht' : t' < prs.length) (h : ePQ (mpt prs br M t) x y = true) (h' : ePQ (mpt prs br M t') x y = true) : t' = t := by
  obtain ⟨i1, i2, i3, i4, i5, i6⟩ := MOD_inj hM
  have m1 := eP_mem h
  have m2 := eP_mem h'
  have hl := pr_lt hP ht
  have hl' := pr_lt hP ht'
  have hne : x ≠ y := fun e => by
    rw [e] at h
    rcases eP_iff.mp h with g | g <;> exact pd_asym (mpt_nodup hP hM ht) g g
  by_cases e1 : x ∈ M t
  · exact mpt_inner hP hM ht ht' e1 m2.1
  · by_cases e2 : y ∈ M t
    · exact mpt_inner hP hM ht ht' e2 m2.2
    · by_cases e3 : x ∈ M t'
      · exact (mpt_inner hP hM ht' ht e3 m1.1).symm
      · by_cases e4 : y ∈ M t'
        · exact (mpt_inner hP hM ht' ht e4 m1.2).symm
        · have a1 : x = br (prs.getD t (0, 0)).1 ∨ x = br (prs.getD t (0, 0)).2 := by rcases mpt_mem.mp m1.1 with e | e | e; exact Or.inl e; exact absurd e e1; exact Or.inr e
          have a2 : y = br (prs.getD t (0, 0)).1 ∨ y = br (prs.getD t (0, 0)).2 := by rcases mpt_mem.mp m1.2 with e | e | e; exact Or.inl e; exact absurd e e2; exact Or.inr e
          have b1 : x = br (prs.getD t' (0, 0)).1 ∨ x = br (prs.getD t' (0, 0)).2 := by rcases mpt_mem.mp m2.1 with e | e | e; exact Or.inl e; exact absurd e e3; exact Or.inr e
          have b2 : y = br (prs.getD t' (0, 0)).1 ∨ y = br (prs.getD t' (0, 0)).2 := by rcases mpt_mem.mp m2.2 with e | e | e; exact Or.inl e; exact absurd e e4; exact Or.inr e
          have bi : ∀ i j, i < n → j < n → br i = br j → i = j := i1
          have hpair : (prs.getD t' (0, 0)).1 = (prs.getD t (0, 0)).1 ∧ (prs.getD t' (0, 0)).2 = (prs.getD t (0, 0)).2 := by
            rcases a1 with a1 | a1 <;> rcases a2 with a2 | a2
            · exact absurd (a1.trans a2.symm) hne
            · rcases b1 with b1 | b1 <;> rcases b2 with b2 | b2
              · exact absurd (b1.trans b2.symm) hne
              · exact ⟨bi _ _ (by omega) (by omega) (b1.symm.trans a1), bi _ _ hl'.2 hl.2 (b2.symm.trans a2)⟩
              · have q1 := bi _ _ hl'.2 (by omega) (b1.symm.trans a1)
                have q2 := bi _ _ (by omega) hl.2 (b2.symm.trans a2)
                omega
              · exact absurd (b1.trans b2.symm) hne
            · rcases b1 with b1 | b1 <;> rcases b2 with b2 | b2
              · exact absurd (b1.trans b2.symm) hne
              · have q1 := bi _ _ (by omega) hl.2 (b1.symm.trans a1)
                have q2 := bi _ _ hl'.2 (by omega) (b2.symm.trans a2)
                omega
              · exact ⟨bi _ _ (by omega) (by omega) (b2.symm.trans a2), bi _ _ hl'.2 hl.2 (b1.symm.trans a1)⟩
              · exact absurd (b1.trans b2.symm) hne
            · exact absurd (a1.trans a2.symm) hne
          have hq : prs.getD t' (0, 0) = prs.getD t (0, 0) := Prod.ext hpair.1 hpair.2
          have g1 := pr_at ht
          have g2 := pr_at ht'
          rw [hq] at g2
          rcases Nat.lt_trichotomy t t' with z | z | z
          · have := List.pairwise_iff_getElem.mp hP.2 t t' ht ht' z
            exact absurd ((List.getElem?_eq_some_iff.mp g1).2.trans (List.getElem?_eq_some_iff.mp g2).2.symm) this
          · exact z.symm
          · have := List.pairwise_iff_getElem.mp hP.2 t' t ht' ht z
            exact absurd ((List.getElem?_eq_some_iff.mp g2).2.trans (List.getElem?_eq_some_iff.mp g1).2.symm) this
theorem gM_sub (hsF : ∀ x y, F x y = F y x) (hM : MOD F n prs br M) {x y : Nat} (h : gM prs br M x y = true) : F x y = true := by
  obtain ⟨t, ht, h1⟩ := gM_iff.mp h
  have hall := hM.2.2 t _ (pr_at ht)
  rcases eP_iff.mp h1 with g | g
  · exact hall _ g
  · rw [hsF]; exact hall _ g
theorem gM_sym (x y : Nat) : gM prs br M x y = gM prs br M y x := by
  rw [Bool.eq_iff_iff, gM_iff, gM_iff]
  constructor <;> rintro ⟨t, a, b⟩ <;> exact ⟨t, a, by rw [eP_sym]; exact b⟩
/-- the sum of some paths -/
def sP (prs : List xPr) (br : Nat → Nat) (M : Nat → List Nat) (be : Nat → Bool) : xG := sU (fun t => ePQ (mpt prs br M t)) be prs.length
theorem sP_at (hP : PRok n prs) (hM : MOD F n prs br M) (be : Nat → Bool) {t x y : Nat} (ht : t < prs.length) (h : ePQ (mpt prs br M t) x y = true) : sP prs br M be x y = be t := by
  show xs (fun k => be k && ePQ (mpt prs br M k) x y) _ = _
  rw [xs_one ht (fun k hk hne => by
    cases e : ePQ (mpt prs br M k) x y with
    | false => exact Bool.and_false _
    | true => exact absurd (mpt_edge hP hM ht hk h e) hne), h]
  exact Bool.and_true _
theorem sP_od (hP : PRok n prs) (hM : MOD F n prs br M) (be : Nat → Bool) {v : Nat} : od (sP prs br M be) v = xs (fun t => be t && (decide (v = br (prs.getD t (0, 0)).1) ^^ decide (v = br (prs.getD t (0, 0)).2))) prs.length := by
  show od (sU _ be prs.length) v = _
  rw [sU_od]
  exact xs_ext fun t ht => by
    have : od (ePQ (mpt prs br M t)) v = _ := od_path (mpt_nodup hP hM ht) (mpt_10 hP hM ht) v
    rw [this]
theorem sP_br (hP : PRok n prs) (hM : MOD F n prs br M) (be : Nat → Bool) {i : Nat} (hi : i < n) : od (sP prs br M be) (br i) = xs (fun t => be t && inc prs t i) prs.length := by
  obtain ⟨i1, i2, i3, i4, i5, i6⟩ := MOD_inj hM
  rw [sP_od hP hM]
  refine xs_ext fun t ht => ?_
  have hl := pr_lt hP ht
  congr 1
  unfold inc
  have e1 : decide (br i = br (prs.getD t (0, 0)).1) = decide ((prs.getD t (0, 0)).1 = i) := by
    rw [Bool.eq_iff_iff, decide_eq_true_eq, decide_eq_true_eq]
    exact ⟨fun e => (i1 _ _ hi (by omega) e).symm, fun e => by rw [e]⟩
  have e2 : decide (br i = br (prs.getD t (0, 0)).2) = decide ((prs.getD t (0, 0)).2 = i) := by
    rw [Bool.eq_iff_iff, decide_eq_true_eq, decide_eq_true_eq]
    exact ⟨fun e => (i1 _ _ hi hl.2 e).symm, fun e => by rw [e]⟩
  rw [e1, e2]
  clear e1 e2
  generalize prs.getD t (0, 0) = q at *
  by_cases h : q.1 = i
  · have h2 : ¬ q.2 = i := by omega
    simp [h, h2]
  · simp [h]
/-- sums that are even at the branch vertices are even -/
theorem sP_ev (hP : PRok n prs) (hM : MOD F n prs br M) {be : Nat → Bool} (h : ∀ i, i < n → xs (fun t => be t && inc prs t i) prs.length = false) : ev (gM prs br M) (sP prs br M be) := by
  refine ⟨⟨fun x y => xs_ext fun t _ => by dsimp only; rw [eP_sym], fun x y q => ?_⟩, fun v hv => ?_⟩
  · obtain ⟨t, ht, h1⟩ := xs_ex q
    rw [Bool.and_eq_true] at h1
    exact gM_iff.mpr ⟨t, ht, h1.2⟩
  · by_cases e : ∃ i, i < n ∧ v = br i
    · obtain ⟨i, hi, e⟩ := e
      rw [e, sP_br hP hM be hi]
      exact h i hi
    · rw [sP_od hP hM]
      refine xs_0 fun t ht => ?_
      have hl := pr_lt hP ht
      have n1 : ¬ v = br (prs.getD t (0, 0)).1 := fun q => e ⟨_, by omega, q⟩
      have n2 : ¬ v = br (prs.getD t (0, 0)).2 := fun q => e ⟨_, hl.2, q⟩
      rw [decide_eq_false n1, decide_eq_false n2]
      exact Bool.and_false _
theorem mpt_head (t : Nat) : ∃ x, ePQ (mpt prs br M t) (br (prs.getD t (0, 0)).1) x = true := leg_head _ _ _
/-- an even set of a model: some paths -/
theorem gM_ev (hP : PRok n prs) (hM : MOD F n prs br M) {E : xG} (hE : ev (gM prs br M) E) : ∃ be, E = sP prs br M be ∧ ∀ i, i < n → xs (fun t => be t && inc prs t i) prs.length = false := by
  obtain ⟨i1, i2, i3, i4, i5, i6⟩ := MOD_inj hM
  have hc : ∀ t, t < prs.length → ∃ b, ∀ x y, ePQ (mpt prs br M t) x y = true → E x y = b := fun t ht => by
    refine leg_const (G0 := fun x y => anyv (fun k => decide (k ≠ t) && ePQ (mpt prs br M k) x y) prs.length) (mpt_nodup hP hM ht) (mpt_10 hP hM ht) (fun v hv y => ?_) (ev_mono (fun x y h => ?_) hE)
    · cases e : anyv (fun k => decide (k ≠ t) && ePQ (mpt prs br M k) v y) prs.length with
      | false => rfl
      | true =>
        obtain ⟨k, hk, h1⟩ := anyv_iff.mp e
        rw [Bool.and_eq_true, decide_eq_true_eq] at h1
        exact absurd (mpt_inner hP hM ht hk hv (eP_mem h1.2).1) h1.1
    · obtain ⟨k, hk, h1⟩ := gM_iff.mp h
      by_cases e : k = t
      · rw [e] at h1
        exact addP_iff.mpr (Or.inr (eP_iff.mp h1))
      · exact addP_iff.mpr (Or.inl (anyv_iff.mpr ⟨k, hk, by rw [h1]; simp [e]⟩))
  let be : Nat → Bool := fun t => bo (∃ x y, ePQ (mpt prs br M t) x y = true ∧ E x y = true)
  have hbe : ∀ t x y, t < prs.length → ePQ (mpt prs br M t) x y = true → E x y = be t := fun t x y ht h => by
    obtain ⟨b, hb⟩ := hc t ht
    rw [hb x y h]
    cases b with
    | true => exact (bo_iff.mpr ⟨x, y, h, hb x y h⟩).symm
    | false =>
      refine (bo_no.mpr ?_).symm
      rintro ⟨x', y', h1, h2⟩
      rw [hb x' y' h1] at h2
      cases h2
  have heq : E = sP prs br M be := by
    funext x y
    cases e : E x y with
    | true =>
      obtain ⟨t, ht, h1⟩ := gM_iff.mp (hE.1.2 x y e)
      rw [sP_at hP hM be ht h1, ← hbe t x y ht h1, e]
    | false =>
      cases q : sP prs br M be x y with
      | false => rfl
      | true =>
        obtain ⟨t, ht, h1⟩ := xs_ex q
        rw [Bool.and_eq_true] at h1
        rw [hbe t x y ht h1.2, h1.1] at e
        cases e
  refine ⟨be, heq, fun i hi => ?_⟩
  rw [← sP_br hP hM be hi, ← heq]
  exact hE.2 _ (i5 i hi)
end
/-! counting -/
def cod (U : Nat → Bool) : Nat → Nat
  | 0 => 0
  | n + 1 => 2 * cod U n + (if U n = true then 1 else 0)
theorem cod_lt (U : Nat → Bool) : ∀ n, cod U n < 2 ^ n
  | 0 => Nat.lt_succ_self 0
  | n + 1 => by
    have := cod_lt U n
    show 2 * cod U n + _ < 2 ^ (n + 1)
    rw [Nat.pow_succ]
    split <;> omega
theorem cod_inj {U V : Nat → Bool} : ∀ {n : Nat}, cod U n = cod V n → ∀ i, i < n → U i = V i
  | 0, _, i, hi => by omega
  | n + 1, h, i, hi => by
    have h' : 2 * cod U n + (if U n = true then 1 else 0) = 2 * cod V n + (if V n = true then 1 else 0) := h
    have hn : U n = V n := by
      cases e1 : U n <;> cases e2 : V n <;> rw [e1, e2] at h' <;> simp at h' <;> first | rfl | omega
    by_cases e : i = n
    · rw [e]; exact hn
    · rw [hn] at h'
      exact cod_inj (n := n) (by omega) i (by omega)
theorem cnt_no : ∀ n, cnt (fun _ => false) n = 0
  | 0 => rfl
  | n + 1 => by show cnt (fun _ => false) n + _ = 0; rw [cnt_no n]; rfl
theorem nodup_le {L : List Nat} {r : Nat} (hn : L.Nodup) (hl : ∀ d ∈ L, d < r) : L.length ≤ r := by
  have key : ∀ L : List Nat, L.Nodup → (∀ d ∈ L, d < r) → cnt (fun d => decide (d ∈ L)) r = L.length := by
    intro L
    induction L with
    | nil =>
      intro _ _
      rw [show cnt (fun d => decide (d ∈ ([] : List Nat))) r = cnt (fun _ => false) r from cnt_ext fun d _ => by simp, cnt_no]
      rfl
    | cons a t ih =>
      intro hn hl
      have h1 := List.nodup_cons.mp hn
      rw [show cnt (fun d => decide (d ∈ a :: t)) r = cnt (fun d => decide (d ∈ t) || decide (d = a)) r from cnt_ext fun d _ => by
        by_cases e1 : d = a <;> by_cases e2 : d ∈ t <;> simp [e1, e2], cnt_add1 (hl a List.mem_cons_self) (by simp [h1.1]), ih h1.2 (fun d hd => hl d (List.mem_cons_of_mem _ hd))]
      rfl
  rw [← key L hn hl]
  exact cnt_le _ _
theorem pigeon {f : Nat → Nat} {n r : Nat} (h1 : ∀ k, k < n → f k < r) (h2 : ∀ k l, k < n → l < n → f k = f l → k = l) : n ≤ r := by
  have hn : ((List.range n).map f).Nodup := by
    have : ((List.range n).map f).Pairwise (fun a b => a ≠ b) := by
      rw [List.pairwise_map]
      refine List.pairwise_iff_getElem.mpr fun i j hi hj hij e => ?_
      simp only [List.length_range] at hi hj
      rw [List.getElem_range, List.getElem_range] at e
      have := h2 i j hi hj e
      omega
    exact this
  have := nodup_le hn (r := r) (fun d hd => by
    obtain ⟨k, hk, e⟩ := List.mem_map.mp hd
    rw [← e]
    exact h1 k (List.mem_range.mp hk))
  simpa using this
theorem sm_swap (f : Nat → Nat → Bool) (m : Nat) : ∀ n, sm (fun i => cnt (f i) n) m = sm (fun t => cnt (fun i => f i t) m) n
  | 0 => by
    induction m with
    | zero => rfl
    | succ m ih => show sm _ m + cnt (f m) 0 = 0; rw [ih]; rfl
  | n + 1 => by
    have ih := sm_swap f m n
    have e : sm (fun i => cnt (f i) (n + 1)) m = sm (fun i => cnt (f i) n) m + cnt (fun i => f i n) m := by
      clear ih
      induction m with
      | zero => rfl
      | succ m ihm =>
        show sm _ m + (cnt (f m) n + (bif f m n then 1 else 0)) = (sm _ m + cnt (f m) n) + (cnt (fun i => f i n) m + (bif f m n then 1 else 0))
        rw [ihm]
        omega
    show _ = sm _ n + cnt (fun i => f i n) m
    rw [e, ih]
theorem sm_cle {f : Nat → Nat} {c : Nat} : ∀ {n : Nat}, (∀ i, i < n → f i ≤ c) → sm f n ≤ c * n
  | 0, _ => Nat.zero_le _
  | n + 1, h => by
    have h1 := sm_cle (f := f) (c := c) (n := n) (fun i hi => h i (by omega))
    have h2 := h n (by omega)
    show sm f n + f n ≤ c * (n + 1)
    rw [Nat.mul_succ]
    omega
theorem sm_cge {f : Nat → Nat} {c : Nat} : ∀ {n : Nat}, (∀ i, i < n → c ≤ f i) → c * n ≤ sm f n
  | 0, _ => Nat.zero_le _
  | n + 1, h => by
    have h1 := sm_cge (f := f) (c := c) (n := n) (fun i hi => h i (by omega))
    have h2 := h n (by omega)
    show c * (n + 1) ≤ sm f n + f n
    rw [Nat.mul_succ]
    omega
/-- few faces, many even sets -/
theorem MOD_noPW {F : xG} {n d g : Nat} {prs : List xPr} {br : Nat → Nat} {M : Nat → List Nat} (hP : PRok n prs) (hM : MOD F n prs br M)
    (hmin : ∀ be : Nat → Bool, (∀ i, i < n → xs (fun t => be t && inc prs t i) prs.length = false) → (∀ t, t < prs.length → be t = false) ∨ g ≤ cnt be prs.length)
    {vec : Nat → Nat → Bool} (hv : ∀ k, k < 2 ^ d → ∀ i, i < n → xs (fun t => vec k t && inc prs t i) prs.length = false) (hinj : ∀ k l, k < 2 ^ d → l < 2 ^ d → (∀ t, t < prs.length → vec k t = vec l t) → k = l)
    (hnum : 2 * prs.length < g * (d + 1)) (hd : 1 ≤ d) : ¬PW (gM prs br M) := by
  intro hp
  obtain ⟨m, Z, f1, f2, f3, f4⟩ := PW_FS hp
  have hb : ∀ i, i < m → ∃ be, Z i = sP prs br M be ∧ ∀ j, j < n → xs (fun t => be t && inc prs t j) prs.length = false := fun i hi => gM_ev hP hM (f1 i hi)
  -- the sums, by their codes
  have hU : ∀ k, ∃ U : Nat → Bool, k < 2 ^ d → sP prs br M (vec k) = sU Z U m ∧ U (m - 1) = false := fun k => by
    by_cases hk : k < 2 ^ d
    · obtain ⟨U, hU⟩ := f3 _ (sP_ev hP hM (hv k hk))
      cases e : U (m - 1) with
      | false => exact ⟨U, fun _ => ⟨hU, e⟩⟩
      | true => exact ⟨fun i => !U i, fun _ => ⟨by rw [sU_compl f2]; exact hU, by dsimp only; rw [e]; rfl⟩⟩
    · exact ⟨fun _ => false, fun h => absurd h hk⟩
  let UU : Nat → Nat → Bool := fun k => Classical.choose (hU k)
  have hUU : ∀ k, k < 2 ^ d → sP prs br M (vec k) = sU Z (UU k) m ∧ UU k (m - 1) = false := fun k => Classical.choose_spec (hU k)
  have hcard : 2 ^ d ≤ 2 ^ (m - 1) := by
    refine pigeon (f := fun k => cod (UU k) (m - 1)) (fun k _ => cod_lt _ _) (fun k l hk hl e => ?_)
    have h1 := cod_inj e
    have h2 : sP prs br M (vec k) = sP prs br M (vec l) := by
      rw [(hUU k hk).1, (hUU l hl).1]
      refine sU_ext fun i hi => ?_
      by_cases q : i = m - 1
      · rw [q, (hUU k hk).2, (hUU l hl).2]
      · exact h1 i (by omega)
    refine hinj k l hk hl (fun t ht => ?_)
    obtain ⟨x, hx⟩ := mpt_head (prs := prs) (br := br) (M := M) t
    rw [← sP_at hP hM (vec k) ht hx, ← sP_at hP hM (vec l) ht hx, h2]
  have hdm : d ≤ m - 1 := Nat.le_of_not_lt fun h => by
    have := Nat.pow_lt_pow_right (a := 2) (by omega) h
    omega
  -- each member holds g paths at least
  have hg : ∀ i, i < m → 2 ≤ m → g ≤ cnt (fun t => bo (∃ x y, ePQ (mpt prs br M t) x y = true ∧ Z i x y = true)) prs.length := fun i hi h2 => by
    obtain ⟨be, e1, e2⟩ := hb i hi
    have hval : ∀ t, t < prs.length → bo (∃ x y, ePQ (mpt prs br M t) x y = true ∧ Z i x y = true) = be t := fun t ht => by
      rw [Bool.eq_iff_iff, bo_iff]
      constructor
      · rintro ⟨x, y, h1, h3⟩
        rw [e1, sP_at hP hM be ht h1] at h3
        exact h3
      · intro h
        obtain ⟨x, hx⟩ := mpt_head (prs := prs) (br := br) (M := M) t
        exact ⟨_, x, hx, by rw [e1, sP_at hP hM be ht hx]; exact h⟩
    rw [cnt_ext (fun t ht => hval t ht)]
    rcases hmin be e2 with h | h
    · exfalso
      have hz : Z i = x0 := by
        rw [e1]
        exact sU_none h
      have := f4 (fun k => decide (k = i)) (by rw [sU_one hi]; exact hz)
      obtain ⟨j, hj, hji⟩ : ∃ j, j < m ∧ j ≠ i := by
        by_cases e : i = 0
        · exact ⟨1, by omega, by omega⟩
        · exact ⟨0, by omega, by omega⟩
      have h5 := this i j hi hj
      simp [hji] at h5
    · exact h
  have htwo : ∀ t, t < prs.length → cnt (fun i => bo (∃ x y, ePQ (mpt prs br M t) x y = true ∧ Z i x y = true)) m ≤ 2 := fun t ht => by
    obtain ⟨x, hx⟩ := mpt_head (prs := prs) (br := br) (M := M) t
    have hval : ∀ i, i < m → bo (∃ x y, ePQ (mpt prs br M t) x y = true ∧ Z i x y = true) = Z i (br (prs.getD t (0, 0)).1) x := fun i hi => by
      obtain ⟨be, e1, e2⟩ := hb i hi
      rw [Bool.eq_iff_iff, bo_iff]
      constructor
      · rintro ⟨x', y', h1, h3⟩
        rw [e1, sP_at hP hM be ht h1] at h3
        rw [e1, sP_at hP hM be ht hx]
        exact h3
      · exact fun h => ⟨_, x, hx, h⟩
    rw [cnt_ext (fun i hi => hval i hi)]
    by_cases e : ∃ i, i < m ∧ Z i (br (prs.getD t (0, 0)).1) x = true
    · obtain ⟨i, hi, hZ⟩ := e
      obtain ⟨j, hj, hne, hjZ, hu⟩ := f2 _ _ i hi hZ
      have h1 : cnt (fun k => Z k (br (prs.getD t (0, 0)).1) x) m ≤ cnt (fun k => decide (k = i) || decide (k = j)) m := cnt_mono fun k hk q => by
        rcases hu k hk q with e | e <;> simp [e]
      have h2 := cnt_or (S := fun k => decide (k = i)) (T := fun k => decide (k = j)) m
      rw [cnt_eq, cnt_eq, if_pos hi, if_pos hj] at h2
      omega
    · have h1 : cnt (fun k => Z k (br (prs.getD t (0, 0)).1) x) m ≤ cnt (fun _ => false) m := cnt_mono fun k hk q => absurd ⟨k, hk, q⟩ e
      rw [cnt_no] at h1
      omega
  have hsw := sm_swap (fun i t => bo (∃ x y, ePQ (mpt prs br M t) x y = true ∧ Z i x y = true)) m prs.length
  have hle := sm_cle (f := fun t => cnt (fun i => bo (∃ x y, ePQ (mpt prs br M t) x y = true ∧ Z i x y = true)) m) (c := 2) (n := prs.length) htwo
  by_cases h2 : 2 ≤ m
  · have hge := sm_cge (f := fun i => cnt (fun t => bo (∃ x y, ePQ (mpt prs br M t) x y = true ∧ Z i x y = true)) prs.length) (c := g) (n := m) (fun i hi => hg i hi h2)
    rw [hsw] at hge
    have : g * (d + 1) ≤ g * m := Nat.mul_le_mul_left g (by omega)
    omega
  · omega
