/-! the order around a vertex -/
theorem rtl_ex0 {G : Nat → Nat → Bool} (hg : gok G) {p : xPr} (hp : G p.1 p.2 = true) (hf : bPl G p = bE G p) {v : Nat} (hv : bS G p v = true) : ∃ R : List Nat, R.Nodup ∧ (∀ x, x ∈ R ↔ bH G (bS G p) v x = true) ∧ ∀ x y, (x, y) ∈ dts R → bSc G p v x y := by
  have hb := bS_bic hg hp
  have h10 := hg.2.2 _ _ hp
  have ha : bS G p p.1 = true := bS_iff.mpr ⟨h10.1, Bs_a hg hp⟩
  have hbb : bS G p p.2 = true := bS_iff.mpr ⟨h10.2, Bs_b hg hp⟩
  by_cases he : bE G p = 1
  · have hone := bS_one hg hp he
    have hsc : ∀ x y, bSc G p v x y ↔ (v = p.1 ∧ x = p.2 ∧ y = p.2) ∨ (v = p.2 ∧ x = p.1 ∧ y = p.1) := fun x y => by
      unfold bSc
      rw [if_pos he]
    rw [hone] at hv
    have one : ∀ a b, (∀ z, bS G p z = true ↔ z = a ∨ z = b) → G a b = true → v = a → ∀ x, x ∈ [b] ↔ bH G (bS G p) v x = true := by
      intro a b h1 h2 h3 x
      subst h3
      rw [List.mem_singleton, bH_iff]
      constructor
      · rintro rfl
        exact ⟨h2, (h1 v).mpr (Or.inl rfl), (h1 x).mpr (Or.inr rfl)⟩
      · rintro ⟨g1, _, g3⟩
        rcases (h1 x).mp g3 with e | e
        · rw [e, hg.2.1] at g1
          cases g1
        · exact e
    rcases two_iff.mp hv with e | e
    · refine ⟨[p.2], by simp, one p.1 p.2 (fun z => by rw [hone]; exact two_iff) hp e, fun x y h => (hsc x y).mpr (Or.inl ?_)⟩
      have : (x, y) = (p.2, p.2) := by simpa [dts, pd] using h
      cases this
      exact ⟨e, rfl, rfl⟩
    · refine ⟨[p.1], by simp, one p.2 p.1 (fun z => by rw [hone, two_iff]; exact Or.comm) (by rw [hg.1]; exact hp) e, fun x y h => (hsc x y).mpr (Or.inr ?_)⟩
      have : (x, y) = (p.1, p.1) := by simpa [dts, pd] using h
      cases this
      exact ⟨e, rfl, rfl⟩
  · have hEO := bR_ok hg hp he
    have hall := EOK_all hb hEO (by unfold bPl at hf; rw [if_neg he] at hf; exact hf)
    obtain ⟨I1, I2, I3, I4, I5, I6, I7, I8, I9⟩ := hEO.1
    obtain ⟨w, hw⟩ := bS_edge hg hp hv
    have hPV := (I2 v w (by rw [hall]; exact hw)).2
    obtain ⟨R, r1, r2, r3⟩ := I9 v hPV
    refine ⟨R, r1, fun x => by rw [r2, hall], fun x y hxy => ?_⟩
    have hx := (dts_mem hxy).1
    have hPx : (bR G p).1 x v = true := by rw [I1]; exact (r2 x).mp hx
    obtain ⟨f, hf1, hf2⟩ := List.mem_flatMap.mp ((I6 x v).mpr hPx)
    obtain ⟨z, hz⟩ := dts_ex (dts_mem hf2).2
    have h3 := r3 f hf1 x z hf2 hz
    have := dts_fun r1 hxy h3
    subst this
    unfold bSc
    rw [if_neg he]
    exact ⟨f, hf1, hf2, hz⟩
theorem rtl_ex {G : Nat → Nat → Bool} (hg : gok G) {p : xPr} (hp : G p.1 p.2 = true) (hf : bPl G p = bE G p) {v : Nat} (hv : bS G p v = true) : ∃ R : List Nat, R.Nodup ∧ (∀ x, x ∈ R ↔ bH G (bS G p) v x = true) ∧ (∀ x y, (x, y) ∈ dts R → bSc G p v x y) ∧ R.head? = some (low (bH G (bS G p) v)) := by
  obtain ⟨R, r1, r2, r3⟩ := rtl_ex0 hg hp hf hv
  obtain ⟨w, hw⟩ := bS_edge hg hp hv
  have hw10 := (hg.2.2 _ _ (bH_iff.mp hw).1).2
  have hl := low_some hw10 hw
  obtain ⟨A, B, e⟩ := List.append_of_mem ((r2 _).mpr hl.2)
  refine ⟨low (bH G (bS G p) v) :: B ++ A, ?_, fun x => ?_, fun x y h => r3 x y ?_, rfl⟩
  · rw [e] at r1
    exact (List.perm_append_comm.nodup_iff).mp r1
  · rw [← r2, e, List.mem_append, List.mem_append, Or.comm]
  · rw [e, dts_rot]
    exact h
/-- the neighbors of v in a block, from the least on -/
noncomputable def rtl (G : Nat → Nat → Bool) (p : xPr) (v : Nat) : List Nat := bif bS G p v then Classical.epsilon (fun R : List Nat => R.Nodup ∧ (∀ x, x ∈ R ↔ bH G (bS G p) v x = true) ∧ (∀ x y, (x, y) ∈ dts R → bSc G p v x y) ∧ R.head? = some (low (bH G (bS G p) v))) else []
theorem rtl_no {G : Nat → Nat → Bool} {p : xPr} {v : Nat} (hv : bS G p v = false) : rtl G p v = [] := by unfold rtl; rw [hv]; rfl
theorem rtl_yes {G : Nat → Nat → Bool} (hg : gok G) {p : xPr} (hp : G p.1 p.2 = true) (hf : bPl G p = bE G p) {v : Nat} (hv : bS G p v = true) : (rtl G p v).Nodup ∧ (∀ x, x ∈ rtl G p v ↔ bH G (bS G p) v x = true) ∧ (∀ x y, (x, y) ∈ dts (rtl G p v) → bSc G p v x y) ∧ (rtl G p v).head? = some (low (bH G (bS G p) v)) := by
  unfold rtl
  rw [hv]
  exact Classical.epsilon_spec (rtl_ex hg hp hf hv)
theorem rtl_mem {G : Nat → Nat → Bool} (hg : gok G) {p : xPr} (hp : G p.1 p.2 = true) (hf : bPl G p = bE G p) {v x : Nat} : x ∈ rtl G p v ↔ bH G (bS G p) v x = true := by
  cases hv : bS G p v with
  | true => exact (rtl_yes hg hp hf hv).2.1 x
  | false =>
    rw [rtl_no hv]
    constructor
    · intro h; cases h
    · intro h
      have := (bH_iff.mp h).2.1
      rw [hv] at this
      cases this
theorem rtl_nodup {G : Nat → Nat → Bool} (hg : gok G) {p : xPr} (hp : G p.1 p.2 = true) (hf : bPl G p = bE G p) (v : Nat) : (rtl G p v).Nodup := by
  cases hv : bS G p v with
  | true => exact (rtl_yes hg hp hf hv).1
  | false => rw [rtl_no hv]; exact List.nodup_nil
theorem rtl_sc {G : Nat → Nat → Bool} (hg : gok G) {p : xPr} (hp : G p.1 p.2 = true) (hf : bPl G p = bE G p) {v x y : Nat} (h : (x, y) ∈ dts (rtl G p v)) : bSc G p v x y := by
  cases hv : bS G p v with
  | true => exact (rtl_yes hg hp hf hv).2.2.1 x y h
  | false => rw [rtl_no hv] at h; cases h
/-- the order around a vertex -/
noncomputable def ord (G : Nat → Nat → Bool) (l : List xPr) (v : Nat) : List Nat := l.flatMap (fun p => rtl G p v)
theorem flt_all {G : Nat → Nat → Bool} {l : List xPr} (h : flt G l = true) {p : xPr} (hp : p ∈ l) : bPl G p = bE G p := of_decide_eq_true (List.all_eq_true.mp h p hp)
theorem ord_nodup {G : Nat → Nat → Bool} (hg : gok G) {l : List xPr} (hO : BOK G l) (hf : flt G l = true) (v : Nat) : (ord G l v).Nodup := by
  unfold ord
  refine List.pairwise_flatMap.mpr ⟨fun p hp => rtl_nodup hg (hO.1 p hp).1 (flt_all hf hp) v, ?_⟩
  refine List.Pairwise.imp_of_mem ?_ hO.2
  intro p q hp hq hpq x hx y hy e
  subst e
  have e1 := bH_iff.mp ((rtl_mem hg (hO.1 p hp).1 (flt_all hf hp)).mp hx)
  have e2 := bH_iff.mp ((rtl_mem hg (hO.1 q hq).1 (flt_all hf hq)).mp hy)
  have hs := bS_same hg (hO.1 p hp).1 e1.1 e1.2.1 e1.2.2 (hO.1 q hq).1 e2.2.1 e2.2.2
  have hq1 := (hO.1 q hq).1
  have h10 := hg.2.2 _ _ hq1
  rw [hs, hs, bS_iff.mpr ⟨h10.1, Bs_a hg hq1⟩, bS_iff.mpr ⟨h10.2, Bs_b hg hq1⟩] at hpq
  cases hpq
theorem ord_mem {G : Nat → Nat → Bool} (hg : gok G) (hf : flt G (blks G 100) = true) {v x : Nat} : x ∈ ord G (blks G 100) v ↔ G v x = true := by
  have hO := blks_ok hg 100 (Nat.le_refl _)
  unfold ord
  rw [List.mem_flatMap]
  constructor
  · rintro ⟨p, hp, hx⟩
    exact (bH_iff.mp ((rtl_mem hg (hO.1 p hp).1 (flt_all hf hp)).mp hx)).1
  · intro h
    obtain ⟨p, hp, h1, h2⟩ := blks_all hg h
    exact ⟨p, hp, (rtl_mem hg (hO.1 p hp).1 (flt_all hf hp)).mpr (bH_iff.mpr ⟨h, h1, h2⟩)⟩
/-- behind x in a cyclic list -/
def nxL (L : List Nat) (x : Nat) : Nat := L.getD ((L.findIdx (fun z => Nat.beq z x) + 1) % L.length) 0
theorem nxL_dts {L : List Nat} {x : Nat} (h : x ∈ L) : (x, nxL L x) ∈ dts L := by
  obtain ⟨A, B, e, hA, hi⟩ := findIdx_beq h
  have hpos : 0 < L.length := by rw [e]; simp; omega
  have hlt := Nat.mod_lt (L.findIdx (fun z => Nat.beq z x) + 1) hpos
  refine dts_get (i := L.findIdx (fun z => Nat.beq z x)) ?_ ?_
  · rw [hi, e]
    simp
  · unfold nxL
    rw [List.getD_eq_getElem?_getD, List.getElem?_eq_getElem hlt]
    rfl
/-- NEXT -/
noncomputable def nxt (G : Nat → Nat → Bool) (v x : Nat) : Nat := nxL (ord G (blks G 100) v) x
theorem nxt_dts {G : Nat → Nat → Bool} (hg : gok G) (hf : flt G (blks G 100) = true) {v x : Nat} (h : G v x = true) : (x, nxt G v x) ∈ dts (ord G (blks G 100) v) := nxL_dts ((ord_mem hg hf).mpr h)
theorem nxt_of {G : Nat → Nat → Bool} (hg : gok G) (hf : flt G (blks G 100) = true) {v x y : Nat} (h : (x, y) ∈ dts (ord G (blks G 100) v)) : nxt G v x = y :=
  dts_fun (ord_nodup hg (blks_ok hg 100 (Nat.le_refl _)) hf v) (nxL_dts (dts_mem h).1) h
theorem nxt_edge {G : Nat → Nat → Bool} (hg : gok G) (hf : flt G (blks G 100) = true) {v x : Nat} (h : G v x = true) : G v (nxt G v x) = true := (ord_mem hg hf).mp (dts_mem (nxt_dts hg hf h)).2
