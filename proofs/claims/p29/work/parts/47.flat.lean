/-! a planar graph has at most 24 edges, so 48 darts -/
theorem cnt_plus (f : Nat → Bool) (a : Nat) : ∀ b, cnt f (a + b) = cnt f a + cnt (fun w => f (a + w)) b
  | 0 => rfl
  | b + 1 => by
    show cnt f (a + b) + _ = _
    rw [cnt_plus f a b, Nat.add_assoc]
    rfl
theorem cnt_rows (f : Nat → Bool) : ∀ n, cnt f (10 * n) = sm (fun v => cnt (fun w => f (10 * v + w)) 10) n
  | 0 => rfl
  | n + 1 => by
    rw [show 10 * (n + 1) = 10 * n + 10 by omega, cnt_plus, cnt_rows f n]
    rfl
theorem fre_ec {G : Nat → Nat → Bool} (hg : gok G) : fre G (fun _ => none) = 2 * ec G := by
  unfold fre ec
  rw [show (100 : Nat) = 10 * 10 from rfl, cnt_rows, ← sm_even hg.1 hg.2.1 10]
  refine sm_ext fun v _ => cnt_ext fun w hw => ?_
  rw [(dn_div (v := v) hw).1, (dn_div (v := v) hw).2]
  simp
def sumE (G : Nat → Nat → Bool) : List xPr → Nat
  | [] => 0
  | p :: t => bE G p + sumE G t
theorem ec_or {H A B : Nat → Nat → Bool} (h : ∀ x y, H x y = true → A x y = true ∨ B x y = true) : ec H ≤ ec A + ec B := by
  unfold ec
  have : ∀ n, sm (fun x => cnt (H x) x) n ≤ sm (fun x => cnt (A x) x) n + sm (fun x => cnt (B x) x) n := by
    intro n
    induction n with
    | zero => exact Nat.le_refl _
    | succ n ih =>
      have h1 : cnt (H n) n ≤ cnt (fun v => A n v || B n v) n := cnt_mono fun v _ hv => by
        rcases h n v hv with e | e <;> simp [e]
      have h2 := cnt_or (S := A n) (T := B n) n
      show sm _ n + cnt (H n) n ≤ (sm _ n + cnt (A n) n) + (sm _ n + cnt (B n) n)
      omega
  exact this 10
theorem ec_sum (G : Nat → Nat → Bool) : ∀ l : List xPr, ec (gL G l) ≤ sumE G l
  | [] => by
    have : gL G [] = fun _ _ => false := by
      funext x y
      simp [gL]
    rw [this]
    show (ec fun _ _ => false) ≤ 0
    decide +kernel
  | p :: t => by
    have ih := ec_sum G t
    have := ec_or (H := gL G (p :: t)) (A := bH G (bS G p)) (B := gL G t) (fun x y h => by
      obtain ⟨h1, q, hq, h2, h3⟩ := gL_iff.mp h
      rcases List.mem_cons.mp hq with e | e
      · rw [e] at h2 h3
        exact Or.inl (bH_iff.mpr ⟨h1, h2, h3⟩)
      · exact Or.inr (gL_iff.mpr ⟨h1, q, e, h2, h3⟩))
    show _ ≤ bE G p + sumE G t
    unfold bE
    omega
theorem bE_flat {G : Nat → Nat → Bool} (hg : gok G) {p : xPr} (hp : G p.1 p.2 = true) (hf : bPl G p = bE G p) : bE G p + 5 ≤ 3 * cnt (bS G p) 10 ∧ bE G p ≤ 24 := by
  by_cases he : bE G p = 1
  · have := blk_two hg hp
    omega
  · have hEO := bR_ok hg hp he
    obtain ⟨m1, m2, m3⟩ := EOK_max hEO
    have e : (bR G p).2.2.2 = bE G p := by
      unfold bPl at hf
      rw [if_neg he] at hf
      exact hf
    have hm : cnt (bR G p).2.1 10 ≤ cnt (bS G p) 10 := cnt_mono fun v _ hv => hEO.1.2.2.1 v hv
    omega
theorem sum_flat {G : Nat → Nat → Bool} (hg : gok G) : ∀ l : List xPr, (∀ p ∈ l, G p.1 p.2 = true ∧ bPl G p = bE G p) → sumE G l + 5 * l.length ≤ 3 * sumS G l
  | [], _ => Nat.le_refl _
  | p :: t, h => by
    have ih := sum_flat hg t (fun q hq => h q (List.mem_cons_of_mem _ hq))
    obtain ⟨h1, h2⟩ := h p List.mem_cons_self
    have := (bE_flat hg h1 h2).1
    show bE G p + sumE G t + 5 * (t.length + 1) ≤ 3 * (cnt (bS G p) 10 + sumS G t)
    omega
theorem flat_24 {G : Nat → Nat → Bool} (hg : gok G) (hf : flt G (blks G 100) = true) : ec G ≤ 24 := by
  have hO := blks_ok hg 100 (Nat.le_refl _)
  have h1 := ec_sum G (blks G 100)
  have e : gL G (blks G 100) = G := by
    funext x y
    cases h : G x y with
    | false =>
      cases h2 : gL G (blks G 100) x y with
      | false => rfl
      | true =>
        have := (gL_iff.mp h2).1
        rw [h] at this
        cases this
    | true =>
      obtain ⟨p, hp, h2, h3⟩ := blks_all hg h
      exact gL_iff.mpr ⟨h, p, hp, h2, h3⟩
  rw [e] at h1
  have h2 := sum_flat hg (blks G 100) (fun p hp => ⟨(hO.1 p hp).1, flt_all hf hp⟩)
  have h3 := blk_sum hg hO
  have hone : ∀ l : List xPr, l.length = 1 → (∀ p ∈ l, G p.1 p.2 = true ∧ bPl G p = bE G p) → sumE G l ≤ 24 := by
    intro l hl ha
    match l, hl, ha with
    | [p], _, ha =>
      obtain ⟨a1, a2⟩ := ha p List.mem_cons_self
      have := (bE_flat hg a1 a2).2
      show bE G p + 0 ≤ 24
      omega
  have h4 := hone (blks G 100)
  by_cases e1 : (blks G 100).length = 1
  · have := h4 e1 (fun p hp => ⟨(hO.1 p hp).1, flt_all hf hp⟩)
    omega
  · by_cases e0 : (blks G 100).length = 0
    · have : blks G 100 = [] := List.length_eq_zero_iff.mp e0
      rw [this] at h1
      have : sumE G [] = 0 := rfl
      omega
    · omega
theorem flat_48 {G : Nat → Nat → Bool} (hg : gok G) (hf : flt G (blks G 100) = true) : fre G (fun _ => none) ≤ 48 := by
  rw [fre_ec hg]
  have := flat_24 hg hf
  omega
