/-! what is told of a block -/
def bE (G : Nat → Nat → Bool) (p : xPr) : Nat := ec (bH G (bS G p))
/-- how the run of the embedding ends -/
def bR (G : Nat → Nat → Bool) (p : xPr) : xSg := erun (bH G (bS G p)) (bS G p) (bE G p) 45 (cyc1 (bH G (bS G p)) (bS G p))
def bPl (G : Nat → Nat → Bool) (p : xPr) : Nat := if bE G p = 1 then 1 else (bR G p).2.2.2
def bFa (G : Nat → Nat → Bool) (p : xPr) : Nat := if bE G p = 1 then 1 else (bR G p).2.2.1.length
/-- at v, behind x there is y -/
def bSc (G : Nat → Nat → Bool) (p : xPr) (v x y : Nat) : Prop := if bE G p = 1 then (v = p.1 ∧ x = p.2 ∧ y = p.2) ∨ (v = p.2 ∧ x = p.1 ∧ y = p.1) else ∃ f ∈ (bR G p).2.2.1, (x, v) ∈ dts f ∧ (v, y) ∈ dts f
theorem ec_deg {H : Nat → Nat → Bool} {S : Nat → Bool} (hb : BIC H S) {l : List Nat} (hn : l.Nodup) (hl : ∀ v ∈ l, v < 10 ∧ ∃ y, H v y = true) : l.length ≤ 2 * ec H := by
  rw [← ec_sm hb, ← cnt_list hn (fun v hv => (hl v hv).1), ← sm_cnt]
  refine sm_le fun i _ => ?_
  by_cases h : i ∈ l
  · obtain ⟨h1, y, hy⟩ := hl i h
    rw [decide_eq_true h]
    have hy10 := (hb.2.2.1 _ _ hy).2.1
    have := cnt_mono (S := fun v => decide (v = y)) (T := H i) (n := 10) fun v _ hv => by rw [of_decide_eq_true hv]; exact hy
    rw [cnt_eq, if_pos hy10] at this
    exact this
  · rw [decide_eq_false h]
    exact Nat.zero_le _
theorem bE_pos {G : Nat → Nat → Bool} (hg : gok G) {p : xPr} (hp : G p.1 p.2 = true) : 1 ≤ bE G p := by
  have hb := bS_bic hg hp
  have h10 := hg.2.2 _ _ hp
  have ha : bS G p p.1 = true := bS_iff.mpr ⟨h10.1, Bs_a hg hp⟩
  have hbb : bS G p p.2 = true := bS_iff.mpr ⟨h10.2, Bs_b hg hp⟩
  have := ec_deg hb (l := [p.1]) (by simp) (fun v hv => by
    rw [List.mem_singleton] at hv
    rw [hv]
    exact ⟨h10.1, p.2, bH_iff.mpr ⟨hp, ha, hbb⟩⟩)
  unfold bE
  simp only [List.length_cons, List.length_nil] at this
  omega
theorem bS_one {G : Nat → Nat → Bool} (hg : gok G) {p : xPr} (hp : G p.1 p.2 = true) (h1 : bE G p = 1) (v : Nat) : bS G p v = two p.1 p.2 v := by
  have hb := bS_bic hg hp
  have h10 := hg.2.2 _ _ hp
  have ha : bS G p p.1 = true := bS_iff.mpr ⟨h10.1, Bs_a hg hp⟩
  have hbb : bS G p p.2 = true := bS_iff.mpr ⟨h10.2, Bs_b hg hp⟩
  have hne : p.1 ≠ p.2 := fun e => by
    rw [e, hg.2.1] at hp
    cases hp
  apply Bool.eq_iff_iff.mpr
  rw [two_iff]
  constructor
  · intro hv
    by_cases e1 : v = p.1
    · exact Or.inl e1
    · by_cases e2 : v = p.2
      · exact Or.inr e2
      · exfalso
        obtain ⟨z, hz⟩ := bS_edge hg hp hv
        have := ec_deg hb (l := [v, p.1, p.2]) (by simp [e1, e2, hne]) (fun u hu => by
          simp only [List.mem_cons, List.not_mem_nil, or_false] at hu
          rcases hu with e | e | e
          · rw [e]; exact ⟨(bS_iff.mp hv).1, z, hz⟩
          · rw [e]; exact ⟨h10.1, p.2, bH_iff.mpr ⟨hp, ha, hbb⟩⟩
          · rw [e]; exact ⟨h10.2, p.1, bH_iff.mpr ⟨by rw [hg.1]; exact hp, hbb, ha⟩⟩)
        unfold bE at h1
        simp only [List.length_cons, List.length_nil] at this
        omega
  · rintro (e | e) <;> rw [e] <;> assumption
theorem bR_ok {G : Nat → Nat → Bool} (hg : gok G) {p : xPr} (hp : G p.1 p.2 = true) (h1 : bE G p ≠ 1) : EOK (bH G (bS G p)) (bS G p) (bR G p) := by
  have hb := bS_bic hg hp
  have hS : ∀ v, bS G p v = true → v < 10 := fun v hv => (bS_iff.mp hv).1
  have h2 := bE_pos hg hp
  obtain ⟨_, _, _, _, _, _, _, _, _, _, _, _, _, _, _, _, hE⟩ := cyc0_ok hb hS (show 2 ≤ ec _ by unfold bE at h1 h2; omega)
  have := ec_45 (bH G (bS G p))
  exact (erun_ok hb hS 45 _ hE (by omega)).1
