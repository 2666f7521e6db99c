/-! the cycle with which an embedding begins, as the reference finds it -/
/-- without one edge -/
def cutE (H : Nat → Nat → Bool) (a b : Nat) : Nat → Nat → Bool := fun x y => H x y && !ab a b x y
theorem cutE_sym {H : Nat → Nat → Bool} (hs : ∀ x y, H x y = H y x) {a b : Nat} : ∀ x y, cutE H a b x y = cutE H a b y x := fun x y => by
  unfold cutE
  rw [hs x y]
  congr 2
  unfold ab
  by_cases h1 : x = a <;> by_cases h2 : y = b <;> by_cases h3 : x = b <;> by_cases h4 : y = a <;> simp [h1, h2, h3, h4]
theorem lay_cut {H : Nat → Nat → Bool} {S : Nat → Bool} (hs : ∀ x y, H x y = H y x) {a b : Nat} (hab : a ≠ b) {d : Nat} (hmin : ∀ j, 1 ≤ j → j < d → meet (lay H (SA S a b) (fun v => decide (v = a)) j) (H b) = false) : ∀ j, j ≤ d → (∀ v, v < 10 → lay (cutE H a b) (fun v => S v && !decide (v = a)) (fun v => decide (v = a)) j v = lay H (SA S a b) (fun v => decide (v = a)) j v) ∧ ∀ v, v < 10 → v ≠ b → lft (cutE H a b) (fun v => S v && !decide (v = a)) (fun v => decide (v = a)) j v = lft H (SA S a b) (fun v => decide (v = a)) j v
  | 0, _ => ⟨fun v _ => rfl, fun v _ hv => by
    show (S v && !decide (v = a)) = (S v && !decide (v = a) && !decide (v = b))
    rw [decide_eq_false hv, Bool.not_false, Bool.and_true]⟩
  | j + 1, hj => by
    obtain ⟨i1, i2⟩ := lay_cut hs hab hmin j (by omega)
    have key : ∀ v, v < 10 → lay (cutE H a b) (fun v => S v && !decide (v = a)) (fun v => decide (v = a)) (j + 1) v = lay H (SA S a b) (fun v => decide (v = a)) (j + 1) v := by
      intro v hv
      by_cases eb : v = b
      · have r : lay H (SA S a b) (fun v => decide (v = a)) (j + 1) v = false := by
          cases h : lay H (SA S a b) (fun v => decide (v = a)) (j + 1) v with
          | false => rfl
          | true => exact absurd eb (SA_iff.mp (lay_A (by omega) h)).2.2
        rw [r]
        cases h : lay (cutE H a b) (fun v => S v && !decide (v = a)) (fun v => decide (v = a)) (j + 1) v with
        | false => rfl
        | true =>
          exfalso
          rw [lay_s, Bool.and_eq_true] at h
          obtain ⟨u, hu, h1, h2⟩ := nb_iff.mp h.1
          unfold cutE at h2
          rw [Bool.and_eq_true] at h2
          by_cases h0 : j = 0
          · subst h0
            have : u = a := of_decide_eq_true h1
            rw [this, eb, show ab a b a b = true from ab_iff.mpr (Or.inl ⟨rfl, rfl⟩)] at h2
            cases h2.2
          · rw [i1 u hu] at h1
            have := hmin j (by omega) (by omega)
            rw [meet_iff.mpr ⟨u, hu, h1, by rw [hs, ← eb]; exact h2.1⟩] at this
            cases this
      · by_cases ea : v = a
        · have r1 : lay H (SA S a b) (fun v => decide (v = a)) (j + 1) v = false := by
            cases h : lay H (SA S a b) (fun v => decide (v = a)) (j + 1) v with
            | false => rfl
            | true => exact absurd ea (SA_iff.mp (lay_A (by omega) h)).2.1
          rw [r1]
          cases h : lay (cutE H a b) (fun v => S v && !decide (v = a)) (fun v => decide (v = a)) (j + 1) v with
          | false => rfl
          | true =>
            have h3 : (S v && !decide (v = a)) = true := lay_A (A := fun v => S v && !decide (v = a)) (by omega) h
            rw [ea] at h3
            simp at h3
        · rw [lay_s, lay_s, i2 v hv eb]
          congr 1
          unfold nb
          refine anyv_ext fun u hu => ?_
          rw [i1 u hu]
          congr 1
          unfold cutE ab
          rw [decide_eq_false ea, decide_eq_false eb]
          simp
    refine ⟨key, fun v hv hvb => ?_⟩
    rw [lft_s, lft_s, i2 v hv hvb, key v hv]
/-- each step of the reference's way back goes to the next vertex of the cycle -/
theorem cyc_dd {H : Nat → Nat → Bool} {S : Nat → Bool} (hb : BIC H S) (hS : ∀ v, S v = true → v < 10) (he : 2 ≤ ec H) : ∃ a b inn, a = low S ∧ b = low (H a) ∧ cyc0 H S = a :: b :: inn ∧ a < 10 ∧ b < 10 ∧ a ≠ b ∧ S a = true ∧ H a b = true ∧ 1 ≤ inn.length ∧ inn.length ≤ 8 ∧ (cyc0 H S).Nodup ∧ (∀ v ∈ cyc0 H S, v < 10 ∧ S v = true) ∧
    ∀ i, i ≤ inn.length → dd (cutE H a b) S (fun v => decide (v = a)) 10 ((b :: inn ++ [a]).getD i 0) = inn.length + 1 - i ∧ low (fun z => cutE H a b ((b :: inn ++ [a]).getD i 0) z && decide (dd (cutE H a b) S (fun v => decide (v = a)) 10 z = inn.length - i)) = (b :: inn ++ [a]).getD (i + 1) 0 := by
  obtain ⟨a, b, inn, ea, eb, hc, ha, hb10, h0, h8, hds, hi1, hi8, hcn, hcm, hcd, _⟩ := cyc0_ok hb hS he
  have hab : a ≠ b := by
    rw [hc] at hcn
    intro e
    rw [e] at hcn
    have := (List.nodup_cons.mp hcn).1
    simp at this
  have hSa : S a = true := (hcm a (by rw [hc]; simp)).2
  have hSb : S b = true := (hcm b (by rw [hc]; simp)).2
  have hHab : H a b = true := hcd (a, b) (by rw [hc]; exact List.mem_cons_self)
  have hlen : inn.length = fdep H (SA S a b) (fun v => decide (v = a)) b 9 := by
    have h1 := dsc_len (H := H) (A := SA S a b) (T := fun v => decide (v = a)) (fdep H (SA S a b) (fun v => decide (v = a)) b 9) b
    rw [hds, List.length_append] at h1
    simp only [List.length_cons, List.length_nil] at h1
    omega
  obtain ⟨f1, f2, f3, f4⟩ := (fdep_spec (H := H) (A := SA S a b) (T := fun v => decide (v = a)) (u := b) 9).1 h0
  rw [← hlen] at f1 f2 f3 f4 hds
  obtain ⟨z0, hz0, hz1, hz2⟩ := meet_iff.mp f3
  have hat := fun i => dsc_at (H := H) (A := SA S a b) (T := fun v => decide (v = a)) hb.1 inn.length b i ⟨z0, hz0, hz2, hz1⟩
  rw [hds] at hat
  have hcut := lay_cut (S := S) hb.1 hab f4
  have hdl := fun v hv => dd_lay (H := cutE H a b) (A := S) (T := fun v => decide (v = a)) (cutE_sym hb.1) 10 (by omega) v hv
  have hDl : ∀ k, k ≤ inn.length → ∀ z, z < 10 → decide (dd (cutE H a b) S (fun v => decide (v = a)) 10 z = k) = lay H (SA S a b) (fun v => decide (v = a)) k z := by
    intro k hk z hz
    rw [← (hcut k hk).1 z hz]
    apply Bool.eq_iff_iff.mpr
    rw [decide_eq_true_iff]
    by_cases k0 : k = 0
    · subst k0
      exact (hdl z hz).1
    · exact (hdl z hz).2.1 k (by omega) (by omega)
  have hDb : dd (cutE H a b) S (fun v => decide (v = a)) 10 b = inn.length + 1 := by
    refine ((hdl b hb10).2.1 (inn.length + 1) (by omega) (by omega)).mpr ?_
    rw [lay_s, Bool.and_eq_true]
    refine ⟨nb_iff.mpr ⟨z0, hz0, by rw [(hcut _ (Nat.le_refl _)).1 z0 hz0]; exact hz1, ?_⟩, ?_⟩
    · have hz3 := SA_iff.mp (lay_A f1 hz1)
      unfold cutE
      rw [Bool.and_eq_true, hb.1]
      refine ⟨hz2, ?_⟩
      unfold ab
      rw [decide_eq_false hz3.2.1, decide_eq_false hz3.2.2]
      rfl
    · rcases lft_or (H := cutE H a b) (A := fun v => S v && !decide (v = a)) (T := fun v => decide (v = a)) (k := inn.length) (v := b) (by rw [hSb, decide_eq_false (fun e => hab e.symm)]; rfl) with h | ⟨j, j1, j2, j3⟩
      · exact h
      · exfalso
        rw [(hcut j j2).1 b hb10] at j3
        exact (SA_iff.mp (lay_A j1 j3)).2.2 rfl
  refine ⟨a, b, inn, ea, eb, hc, ha, hb10, hab, hSa, hHab, hi1, hi8, hcn, hcm, fun i hi => ?_⟩
  obtain ⟨g1, g2⟩ := hat i hi
  have hlist : b :: inn ++ [a] = b :: (inn ++ [a]) := rfl
  rw [hlist]
  -- where the vertex lies
  have hv : (i = 0 ∧ (b :: (inn ++ [a])).getD i 0 = b) ∨ (1 ≤ i ∧ lay H (SA S a b) (fun v => decide (v = a)) (inn.length + 1 - i) ((b :: (inn ++ [a])).getD i 0) = true ∧ (b :: (inn ++ [a])).getD i 0 < 10) := by
    cases i with
    | zero => exact Or.inl ⟨rfl, rfl⟩
    | succ j =>
      obtain ⟨q1, q2⟩ := hat j (by omega)
      have q3 := low_in q2
      refine Or.inr ⟨by omega, ?_, by rw [q1]; exact q2⟩
      rw [q1, show inn.length + 1 - (j + 1) = inn.length - j by omega]
      rw [Bool.and_eq_true] at q3
      exact q3.2
  refine ⟨?_, ?_⟩
  · rcases hv with ⟨e0, e1⟩ | ⟨e0, e1, e2⟩
    · rw [e1, e0]; exact hDb
    · have := hDl (inn.length + 1 - i) (by omega) _ e2
      rw [e1] at this
      exact of_decide_eq_true this
  · rw [g1]
    refine low_ext fun z hz => ?_
    rw [hDl (inn.length - i) (by omega) z hz]
    cases hl : lay H (SA S a b) (fun v => decide (v = a)) (inn.length - i) z with
    | false => rw [Bool.and_false, Bool.and_false]
    | true =>
      rw [Bool.and_true, Bool.and_true]
      unfold cutE
      have hno : ab a b ((b :: (inn ++ [a])).getD i 0) z = false := by
        cases hc2 : ab a b ((b :: (inn ++ [a])).getD i 0) z with
        | false => rfl
        | true =>
          exfalso
          rcases hv with ⟨e0, e1⟩ | ⟨e0, e1, e2⟩
          · rw [e1] at hc2
            rcases ab_iff.mp hc2 with ⟨h1, _⟩ | ⟨_, h2⟩
            · exact hab h1.symm
            · rw [h2, e0] at hl
              exact (SA_iff.mp (lay_A (by omega) hl)).2.1 rfl
          · have h3 := SA_iff.mp (lay_A (by omega) e1)
            rcases ab_iff.mp hc2 with ⟨h1, _⟩ | ⟨h1, _⟩
            · exact h3.2.1 h1
            · exact h3.2.2 h1
      rw [hno, Bool.not_false, Bool.and_true]
theorem dts_ix {c : List Nat} {x y : Nat} (h : (x, y) ∈ dts c) : ∃ i, i < c.length ∧ c[i]? = some x ∧ c[(i + 1) % c.length]? = some y := by
  cases c with
  | nil => cases h
  | cons a t =>
    have h : (x, y) ∈ pd (a :: t ++ [a]) := h
    obtain ⟨i, h1, h2⟩ := pd_ex h
    have hlt := (List.getElem?_eq_some_iff.mp h2).1
    simp only [List.length_append, List.length_cons, List.length_nil] at hlt
    have hi : i < (a :: t).length := by simp only [List.length_cons]; omega
    refine ⟨i, hi, ?_, ?_⟩
    · rw [List.getElem?_append_left hi] at h1
      exact h1
    · by_cases e : i + 1 < (a :: t).length
      · rw [Nat.mod_eq_of_lt e]
        rw [List.getElem?_append_left e] at h2
        exact h2
      · have e2 : i + 1 = (a :: t).length := by omega
        rw [e2, Nat.mod_self]
        rw [e2] at h2
        rw [List.getElem?_append_right (Nat.le_refl _), Nat.sub_self] at h2
        exact h2
