/-! degrees in a model, and where a path ends -/
/-- along a path: from at, not back to before, until a branch vertex -/
def enF (F : xG) (B : Nat → Bool) : Nat → Nat → Nat → Nat
  | 0, _, at1 => at1
  | k + 1, before, at1 => if B at1 = true then at1 else enF F B k at1 (low (fun z => F at1 z && !decide (z = before)))
theorem cnt_nbrs {S : Nat → Bool} {l : List Nat} (hn : l.Nodup) (h10 : ∀ z ∈ l, z < 10) (h : ∀ z, z < 10 → (S z = true ↔ z ∈ l)) : cnt S 10 = l.length := by
  rw [← cnt_list hn h10]
  refine cnt_ext fun z hz => ?_
  rw [Bool.eq_iff_iff, h z hz, decide_eq_true_eq]
section
variable {F : xG} {n : Nat} {prs : List xPr} {br : Nat → Nat} {M : Nat → List Nat}
/-- a path of a model, from either end -/
def orP (prs : List xPr) (br : Nat → Nat) (M : Nat → List Nat) (t i j : Nat) (X : List Nat) : Prop := (i = (prs.getD t (0, 0)).1 ∧ j = (prs.getD t (0, 0)).2 ∧ X = M t) ∨ (i = (prs.getD t (0, 0)).2 ∧ j = (prs.getD t (0, 0)).1 ∧ X = (M t).reverse)
theorem orP_list {t i j : Nat} {X : List Nat} (h : orP prs br M t i j X) : (br i :: X ++ [br j] = mpt prs br M t) ∨ (br i :: X ++ [br j] = (mpt prs br M t).reverse) := by
  rcases h with ⟨e1, e2, e3⟩ | ⟨e1, e2, e3⟩
  · left; rw [e1, e2, e3]; rfl
  · right; rw [e1, e2, e3]; unfold mpt; simp
theorem orP_eP {t i j : Nat} {X : List Nat} (h : orP prs br M t i j X) : ePQ (br i :: X ++ [br j]) = ePQ (mpt prs br M t) := by
  rcases orP_list h with e | e
  · rw [e]
  · rw [e, eP_rev]
theorem orP_nodup (hP : PRok n prs) (hM : MOD F n prs br M) {t i j : Nat} {X : List Nat} (ht : t < prs.length) (h : orP prs br M t i j X) : (br i :: X ++ [br j]).Nodup := by
  rcases orP_list h with e | e
  · rw [e]; exact mpt_nodup hP hM ht
  · rw [e]; exact (List.reverse_perm _).nodup_iff.mpr (mpt_nodup hP hM ht)
theorem orP_in {t i j v : Nat} {X : List Nat} (h : orP prs br M t i j X) : v ∈ X ↔ v ∈ M t := by
  rcases h with ⟨_, _, e⟩ | ⟨_, _, e⟩
  · rw [e]
  · rw [e, List.mem_reverse]
/-- the neighbors of an inner vertex -/
theorem inner_nbr (hP : PRok n prs) (hM : MOD F n prs br M) {t i j p v q : Nat} {X A R : List Nat} (ht : t < prs.length) (h : orP prs br M t i j X) (e : br i :: X ++ [br j] = A ++ p :: v :: q :: R) : p ≠ q ∧ p < 10 ∧ q < 10 ∧ ∀ z, gM prs br M v z = true ↔ z = p ∨ z = q := by
  have hn := orP_nodup hP hM ht h
  have h1 : (p, v) ∈ pd (br i :: X ++ [br j]) := by rw [e]; exact pd_mid.1
  have h2 : (v, q) ∈ pd (br i :: X ++ [br j]) := by rw [e]; exact pd_mid.2
  have hpq : p ≠ q := fun e2 => pd_asym hn h1 (by rw [e2]; exact h2)
  have hvM : v ∈ M t := by
    rw [← orP_in h]
    have := (pd_mem h1).2
    simp only [List.cons_append, List.mem_cons, List.mem_append, List.not_mem_nil, or_false] at this
    rcases this with r | r | r
    · exact absurd (r ▸ h1) (pd_no2 (t := X ++ [br j]) hn)
    · exact r
    · exact absurd (r ▸ h2) (pd_no1 (t := br i :: X) hn)
  have h10 := mpt_10 hP hM ht
  have hmem : ∀ z, z ∈ br i :: X ++ [br j] → z < 10 := fun z hz => h10 z (by
    rcases orP_list h with r | r
    · rw [← r]; exact hz
    · rw [r, List.mem_reverse] at hz; exact hz)
  refine ⟨hpq, hmem p (pd_mem h1).1, hmem q (pd_mem h2).2, fun z => ?_⟩
  rw [gM_iff]
  constructor
  · rintro ⟨t', ht', hz⟩
    have := mpt_inner hP hM ht ht' hvM (eP_mem hz).1
    rw [this, ← orP_eP h] at hz
    rcases eP_iff.mp hz with g | g
    · exact Or.inr (pd_fun hn g h2)
    · exact Or.inl (pd_inj hn g h1)
  · rintro (r | r)
    · exact ⟨t, ht, by rw [← orP_eP h, r]; exact eP_iff.mpr (Or.inr h1)⟩
    · exact ⟨t, ht, by rw [← orP_eP h, r]; exact eP_iff.mpr (Or.inl h2)⟩
theorem mid_of {x y v : Nat} {X : List Nat} (hv : v ∈ X) : ∃ A p q R, x :: X ++ [y] = A ++ p :: v :: q :: R := by
  obtain ⟨C, D, e⟩ := List.append_of_mem hv
  obtain ⟨q, R, hq⟩ := cons_ex D y
  obtain ⟨A, p, hp⟩ := snoc_ex x C
  refine ⟨A, p, q, R, ?_⟩
  rw [e]
  have : x :: (C ++ v :: D) ++ [y] = (x :: C) ++ v :: (D ++ [y]) := by simp
  rw [this, hp, hq]
  simp
theorem deg_inner (hP : PRok n prs) (hM : MOD F n prs br M) {t v : Nat} (ht : t < prs.length) (hv : v ∈ M t) : cnt (gM prs br M v) 10 = 2 := by
  obtain ⟨A, p, q, R, e⟩ := mid_of (x := br (prs.getD t (0, 0)).1) (y := br (prs.getD t (0, 0)).2) hv
  obtain ⟨h1, h2, h3, h4⟩ := inner_nbr hP hM ht (Or.inl ⟨rfl, rfl, rfl⟩) e
  exact cnt_nbrs (l := [p, q]) (by simp [h1]) (by simp [h2, h3]) (fun z _ => by rw [h4 z]; simp)
/-- the neighbor of a branch vertex on a path -/
theorem br_nbr (hP : PRok n prs) (hM : MOD F n prs br M) {t i : Nat} (ht : t < prs.length) (hi : inc prs t i = true) : ∃ j X w, orP prs br M t i j X ∧ ePQ (mpt prs br M t) (br i) w = true ∧ (∀ z, ePQ (mpt prs br M t) (br i) z = true → z = w) ∧ ∃ D, X ++ [br j] = w :: D := by
  have ex : ∃ j X, orP prs br M t i j X := by
    unfold inc at hi
    rw [Bool.or_eq_true, decide_eq_true_eq, decide_eq_true_eq] at hi
    rcases hi with e | e
    · exact ⟨_, _, Or.inl ⟨e.symm, rfl, rfl⟩⟩
    · exact ⟨_, _, Or.inr ⟨e.symm, rfl, rfl⟩⟩
  obtain ⟨j, X, h⟩ := ex
  obtain ⟨w, D, hw⟩ := cons_ex X (br j)
  have hn := orP_nodup hP hM ht h
  refine ⟨j, X, w, h, ?_, fun z hz => ?_, D, hw⟩
  · rw [← orP_eP h]
    exact eP_iff.mpr (Or.inl (pd_head hw))
  · rw [← orP_eP h] at hz
    rcases eP_iff.mp hz with g | g
    · exact pd_fun hn g (pd_head hw)
    · exact absurd g (pd_no2 (t := X ++ [br j]) hn)
/-- an edge at a branch vertex is of a path that ends there -/
theorem br_inc (hP : PRok n prs) (hM : MOD F n prs br M) {t i z : Nat} (hi : i < n) (ht : t < prs.length) (h : ePQ (mpt prs br M t) (br i) z = true) : inc prs t i = true := by
  obtain ⟨i1, i2, i3, i4, i5, i6⟩ := MOD_inj hM
  have hl := pr_lt hP ht
  unfold inc
  rw [Bool.or_eq_true, decide_eq_true_eq, decide_eq_true_eq]
  rcases mpt_mem.mp (eP_mem h).1 with e | e | e
  · exact Or.inl (i1 _ _ hi (by omega) e).symm
  · exact absurd e (i2 i t hi ht)
  · exact Or.inr (i1 _ _ hi hl.2 e).symm
theorem deg_br (hP : PRok n prs) (hM : MOD F n prs br M) {i : Nat} (hi : i < n) : cnt (gM prs br M (br i)) 10 = cnt (fun t => inc prs t i) prs.length := by
  have hw : ∀ t, ∃ w, t < prs.length → inc prs t i = true → ePQ (mpt prs br M t) (br i) w = true ∧ ∀ z, ePQ (mpt prs br M t) (br i) z = true → z = w := fun t => by
    by_cases h : t < prs.length ∧ inc prs t i = true
    · obtain ⟨j, X, w, _, h1, h2, _⟩ := br_nbr hP hM h.1 h.2
      exact ⟨w, fun _ _ => ⟨h1, h2⟩⟩
    · exact ⟨0, fun a b => absurd ⟨a, b⟩ h⟩
  let nw : Nat → Nat := fun t => Classical.choose (hw t)
  have hnw : ∀ t, t < prs.length → inc prs t i = true → ePQ (mpt prs br M t) (br i) (nw t) = true ∧ ∀ z, ePQ (mpt prs br M t) (br i) z = true → z = nw t := fun t => Classical.choose_spec (hw t)
  have hT : ∀ t, t ∈ (List.range prs.length).filter (fun t => inc prs t i) → t < prs.length ∧ inc prs t i = true := fun t ht => by
    obtain ⟨a, b⟩ := List.mem_filter.mp ht
    exact ⟨List.mem_range.mp a, b⟩
  have hnod : ((List.range prs.length).filter (fun t => inc prs t i)).Nodup := (List.nodup_range (n := prs.length)).sublist List.filter_sublist
  have hmapn : (((List.range prs.length).filter (fun t => inc prs t i)).map nw).Nodup := by
    have : (((List.range prs.length).filter (fun t => inc prs t i)).map nw).Pairwise (fun a b => a ≠ b) := by
      rw [List.pairwise_map]
      refine List.Pairwise.imp_of_mem ?_ hnod
      intro a b ha hb hne e
      obtain ⟨a1, a2⟩ := hT a ha
      obtain ⟨b1, b2⟩ := hT b hb
      exact hne (mpt_edge hP hM b1 a1 (hnw b b1 b2).1 (by rw [← e]; exact (hnw a a1 a2).1))
    exact this
  rw [cnt_filter (fun t => inc prs t i), ← List.length_map (f := nw)]
  refine cnt_nbrs hmapn (fun z hz => ?_) (fun z _ => ?_)
  · obtain ⟨t, ht, e⟩ := List.mem_map.mp hz
    obtain ⟨a1, a2⟩ := hT t ht
    rw [← e]
    exact mpt_10 hP hM a1 _ (eP_mem (hnw t a1 a2).1).2
  · rw [gM_iff, List.mem_map]
    constructor
    · rintro ⟨t, ht, h⟩
      have h1 := br_inc hP hM hi ht h
      exact ⟨t, List.mem_filter.mpr ⟨List.mem_range.mpr ht, h1⟩, ((hnw t ht h1).2 z h).symm⟩
    · rintro ⟨t, ht, e⟩
      obtain ⟨a1, a2⟩ := hT t ht
      exact ⟨t, a1, by rw [← e]; exact (hnw t a1 a2).1⟩
theorem deg_none (hP : PRok n prs) (hM : MOD F n prs br M) {v : Nat} (h1 : ∀ i, i < n → v ≠ br i) (h2 : ∀ t, t < prs.length → v ∉ M t) : cnt (gM prs br M v) 10 = 0 := by
  have : cnt (gM prs br M v) 10 = cnt (fun _ => false) 10 := cnt_ext fun z _ => by
    cases e : gM prs br M v z with
    | false => rfl
    | true =>
      exfalso
      obtain ⟨t, ht, h⟩ := gM_iff.mp e
      have hl := pr_lt hP ht
      rcases mpt_mem.mp (eP_mem h).1 with r | r | r
      · exact h1 _ (by omega) r
      · exact h2 t ht r
      · exact h1 _ hl.2 r
  rw [this, cnt_no]
/-- branch vertices are those of more than two edges -/
theorem br_iff (hP : PRok n prs) (hM : MOD F n prs br M) (h3 : ∀ i, i < n → 2 < cnt (fun t => inc prs t i) prs.length) (v : Nat) : 2 < cnt (gM prs br M v) 10 ↔ ∃ i, i < n ∧ v = br i := by
  constructor
  · intro h
    refine Classical.byContradiction fun hno => ?_
    by_cases e : ∃ t, t < prs.length ∧ v ∈ M t
    · obtain ⟨t, ht, hv⟩ := e
      rw [deg_inner hP hM ht hv] at h
      omega
    · rw [deg_none hP hM (fun i hi q => hno ⟨i, hi, q⟩) (fun t ht q => e ⟨t, ht, q⟩)] at h
      omega
  · rintro ⟨i, hi, e⟩
    rw [e, deg_br hP hM hi]
    exact h3 i hi
/-- the walk along a path -/
theorem enF_path (hP : PRok n prs) (hM : MOD F n prs br M) {B : Nat → Bool} (hB : ∀ v, B v = true ↔ ∃ i, i < n ∧ v = br i) {t i j : Nat} {X : List Nat} (ht : t < prs.length) (hj : j < n) (h : orP prs br M t i j X) : ∀ (R A : List Nat) (p v k : Nat), br i :: X ++ [br j] = A ++ p :: v :: R → R.length ≤ k → enF (gM prs br M) B k p v = br j
  | [], A, p, v, k, e, _ => by
    have hv : v = br j := by
      have h1 : (br i :: X ++ [br j]).getLast? = some (br j) := List.getLast?_concat ..
      rw [e, show A ++ [p, v] = (A ++ [p]) ++ [v] by simp, List.getLast?_concat] at h1
      cases h1; rfl
    cases k with
    | zero => exact hv
    | succ k =>
      unfold enF
      rw [if_pos ((hB v).mpr ⟨j, hj, hv⟩)]
      exact hv
  | q :: R, A, p, v, 0, e, hk => by simp at hk
  | q :: R, A, p, v, k + 1, e, hk => by
    obtain ⟨h1, h2, h3, h4⟩ := inner_nbr hP hM ht h e
    have hvM : v ∈ M t := by
      have hn := orP_nodup hP hM ht h
      have a1 : (p, v) ∈ pd (br i :: X ++ [br j]) := by rw [e]; exact pd_mid.1
      have a2 : (v, q) ∈ pd (br i :: X ++ [br j]) := by rw [e]; exact pd_mid.2
      rw [← orP_in h]
      have := (pd_mem a1).2
      simp only [List.cons_append, List.mem_cons, List.mem_append, List.not_mem_nil, or_false] at this
      rcases this with r | r | r
      · exact absurd (r ▸ a1) (pd_no2 (t := X ++ [br j]) hn)
      · exact r
      · exact absurd (r ▸ a2) (pd_no1 (t := br i :: X) hn)
    have hnb : ¬ B v = true := fun hb => by
      obtain ⟨i', hi', e'⟩ := (hB v).mp hb
      exact (MOD_inj hM).2.1 i' t hi' ht (e' ▸ hvM)
    unfold enF
    rw [if_neg hnb]
    have hlow : low (fun z => gM prs br M v z && !decide (z = p)) = q := by
      refine low_eq h3 ?_ (fun u hu => ?_)
      · rw [(h4 q).mpr (Or.inr rfl)]
        have : ¬ q = p := fun r => h1 r.symm
        simp [this]
      · cases e2 : gM prs br M v u with
        | false => rfl
        | true =>
          rcases (h4 u).mp e2 with r | r
          · simp [r]
          · omega
    rw [hlow]
    refine enF_path hP hM hB ht hj h R (A ++ [p]) v q k (by rw [e]; simp) (by simp at hk; omega)
/-- from a branch vertex along an edge to the other end of its path -/
theorem enF_br (hP : PRok n prs) (hM : MOD F n prs br M) {B : Nat → Bool} (hB : ∀ v, B v = true ↔ ∃ i, i < n ∧ v = br i) {i w : Nat} (hi : i < n) (hw : gM prs br M (br i) w = true) : ∃ t j, t < prs.length ∧ inc prs t i = true ∧ j < n ∧ ((i = (prs.getD t (0, 0)).1 ∧ j = (prs.getD t (0, 0)).2) ∨ (i = (prs.getD t (0, 0)).2 ∧ j = (prs.getD t (0, 0)).1)) ∧ ePQ (mpt prs br M t) (br i) w = true ∧ enF (gM prs br M) B 10 (br i) w = br j := by
  obtain ⟨t, ht, h⟩ := gM_iff.mp hw
  have hinc := br_inc hP hM hi ht h
  obtain ⟨j, X, w', h1, h2, h3, D, h4⟩ := br_nbr hP hM ht hinc
  have hl := pr_lt hP ht
  have e := h3 w h
  subst e
  have hjn : j < n := by
    rcases h1 with ⟨_, e, _⟩ | ⟨_, e, _⟩
    · rw [e]; exact hl.2
    · rw [e]; omega
  have hpair : (i = (prs.getD t (0, 0)).1 ∧ j = (prs.getD t (0, 0)).2) ∨ (i = (prs.getD t (0, 0)).2 ∧ j = (prs.getD t (0, 0)).1) := by
    rcases h1 with ⟨a, b, _⟩ | ⟨a, b, _⟩
    · exact Or.inl ⟨a, b⟩
    · exact Or.inr ⟨a, b⟩
  refine ⟨t, j, ht, hinc, hjn, hpair, h, ?_⟩
  have hlist : br i :: X ++ [br j] = [] ++ br i :: w :: D := by
    rw [show br i :: X ++ [br j] = br i :: (X ++ [br j]) from rfl, h4]
    rfl
  refine enF_path hP hM hB ht hjn h1 D [] (br i) w 10 hlist ?_
  have hn := orP_nodup hP hM ht h1
  have h10 : ∀ z ∈ br i :: X ++ [br j], z < 10 := fun z hz => mpt_10 hP hM ht z (by
    rcases orP_list h1 with r | r
    · rw [← r]; exact hz
    · rw [r, List.mem_reverse] at hz; exact hz)
  have := nodup_le hn h10
  rw [hlist] at this
  simp at this
  omega
end
