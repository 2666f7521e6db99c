/-! the forbidden subgraph has no weak family, and without any edge it has one -/
theorem fl_PW (e : Int64) : fl e = true ↔ PW (gr e) := flt_PW (gr_gok e)
theorem gr_wo {e : Int64} {a b : Nat} (ha : a < 10) (hb : b < 10) (h : a ≠ b) : gr (wo e a b) = rm (gr e) a b := by
  funext x y
  exact gr_andn ha hb h
theorem obF_sub {t : Int64} {a b : Nat} (hab : a < b) (hb : b < 10) {x y : Nat} (h : gr (obF t a b) x y = true) : gr t x y = true := by
  unfold obF at h
  split at h
  · rw [gr_wo (by omega) hb (by omega)] at h
    exact (rm_iff.mp h).1
  · exact h
theorem obs_sub (e : Int64) {x y : Nat} (h : gr (obs e 100) x y = true) : gr e x y = true := by
  have : ∀ x y, gr (obs e 100) x y = true → gr e x y = true := pfold_ind (fun t => ∀ x y, gr t x y = true → gr e x y = true) (fun _ _ q => q) (fun t a b hab hb ih x y q => ih x y (obF_sub hab hb q)) 100 (Nat.le_refl _)
  exact this x y h
theorem obs_no {e : Int64} (h : fl e = false) : fl (obs e 100) = false := by
  refine pfold_ind (fun t => fl t = false) h (fun t a b _ _ ht => ?_) 100 (Nat.le_refl _)
  unfold obF
  split
  · next q => exact q.2
  · exact ht
theorem obs_min {e : Int64} (h : fl e = false) : ¬PW (gr (obs e 100)) ∧ ∀ a b, gr (obs e 100) a b = true → PW (rm (gr (obs e 100)) a b) := by
  refine ⟨fun hp => ?_, ?_⟩
  · have := (fl_PW _).mpr hp
    rw [obs_no h] at this
    cases this
  · have main : ∀ a b, a < b → b < 10 → gr (obs e 100) a b = true → PW (rm (gr (obs e 100)) a b) := by
      intro a b hab hb hF
      have key : gr (obs e (10 * a + b + 1)) a b = true → PW (rm (gr (obs e (10 * a + b + 1))) a b) := by
        intro h1
        unfold obs at h1 ⊢
        rw [pfold_next hb hab] at h1 ⊢
        unfold obF at h1 ⊢
        split at h1
        · rw [gr_wo (by omega) hb (by omega)] at h1
          have := (rm_iff.mp h1).2
          rw [show eg a b a b = true from eg_iff.mpr (Or.inl ⟨rfl, rfl⟩)] at this
          cases this
        · next hno =>
          have hf : fl (wo (pfold obF e (10 * a + b)) a b) = true := by
            cases e2 : fl (wo (pfold obF e (10 * a + b)) a b) with
            | true => rfl
            | false => exact absurd ⟨h1, e2⟩ hno
          have := (fl_PW _).mp hf
          rw [gr_wo (by omega) hb (by omega)] at this
          rw [if_neg hno]
          exact this
      have hsub : ∀ m, 10 * a + b + 1 ≤ m → m ≤ 100 → (∀ x y, gr (obs e m) x y = true → gr (obs e (10 * a + b + 1)) x y = true) := by
        intro m
        induction m with
        | zero => intro h1; omega
        | succ m ih =>
          intro h1 h2 x y hxy
          by_cases e2 : m + 1 = 10 * a + b + 1
          · rw [← e2]; exact hxy
          · refine ih (by omega) (by omega) x y ?_
            have hxy2 : gr (if m / 10 < m % 10 then obF (obs e m) (m / 10) (m % 10) else obs e m) x y = true := hxy
            split at hxy2
            · next hlt => exact obF_sub hlt (by omega) hxy2
            · exact hxy2
      have hs := hsub 100 (by omega) (Nat.le_refl _)
      have hg := gr_gok (obs e (10 * a + b + 1))
      have hg2 := gr_gok (obs e 100)
      exact PW_mono (G := rm (gr (obs e (10 * a + b + 1))) a b) ⟨fun x y => by unfold rm; rw [hg.1 x y, eg_sym], fun v => by unfold rm; rw [hg.2.1]; rfl, fun x y q => hg.2.2 x y (rm_iff.mp q).1⟩ (fun x y => by unfold rm; rw [hg2.1 x y, eg_sym]) (fun x y q => by
        obtain ⟨q1, q2⟩ := rm_iff.mp q
        exact rm_iff.mpr ⟨hs x y q1, q2⟩) (key (hs a b hF))
    intro a b hab
    obtain ⟨ha, hb, hne⟩ := gr_out hab
    rcases Nat.lt_or_gt_of_ne hne with q | q
    · exact main a b q hb hab
    · have := main b a q ha (by rw [(gr_gok _).1]; exact hab)
      refine PW_ext (fun x y => ?_) this
      unfold rm
      congr 1
      rw [Bool.eq_iff_iff, Bool.not_eq_true', Bool.not_eq_true', ← Bool.not_eq_true, ← Bool.not_eq_true, eg_iff, eg_iff]
      constructor <;> intro h1 h2 <;> exact h1 h2.symm
