/-! the path goes through the face of its class: the classes split -/
theorem FZ_split {L1 L2 : List (List Nat)} {f f1 f2 : List Nat} : (L1 ++ f1 :: L2 ++ [f2]).length = (L1 ++ f :: L2).length + 1 ∧ (∀ j, j < (L1 ++ f :: L2).length → j ≠ L1.length → FZ (L1 ++ f1 :: L2 ++ [f2]) j = FZ (L1 ++ f :: L2) j) ∧ FZ (L1 ++ f1 :: L2 ++ [f2]) L1.length = eSQ f1 ∧ FZ (L1 ++ f1 :: L2 ++ [f2]) (L1 ++ f :: L2).length = eSQ f2 ∧ FZ (L1 ++ f :: L2) L1.length = eSQ f := by
  refine ⟨by simp; omega, fun j hj hne => ?_, ?_, ?_, ?_⟩
  · have : (L1 ++ f1 :: L2 ++ [f2]).getD j [] = (L1 ++ f :: L2).getD j [] := by
      rw [List.getD_eq_getElem?_getD, List.getD_eq_getElem?_getD]
      congr 1
      simp only [List.length_append, List.length_cons] at hj
      rw [List.getElem?_append_left (by simp; omega)]
      rcases Nat.lt_or_ge j L1.length with z | z
      · rw [List.getElem?_append_left z, List.getElem?_append_left z]
      · obtain ⟨k, rfl⟩ : ∃ k, j = L1.length + (k + 1) := ⟨j - L1.length - 1, by omega⟩
        rw [List.getElem?_append_right (by omega), List.getElem?_append_right (by omega)]
        simp
    unfold FZ
    rw [this]
  · unfold FZ
    rw [List.append_assoc, List.cons_append, getD_mid]
  · refine FZ_at ?_
    rw [List.getElem?_append_right (by simp)]
    have : (L1 ++ f :: L2).length - (L1 ++ f1 :: L2).length = 0 := by simp
    rw [this]
    rfl
  · unfold FZ
    rw [getD_mid]
theorem face_split {A B as bs ps : List Nat} {u w : Nat} (hn : (A ++ B).Nodup) (h3 : 3 ≤ (A ++ B).length) (hAB : B ++ A = u :: as ++ w :: bs) (n1 : (u :: as ++ w :: ps.reverse).Nodup) (n2 : 3 ≤ (u :: as ++ w :: ps.reverse).length) (m1 : (w :: bs ++ u :: ps).Nodup) (m2 : 3 ≤ (w :: bs ++ u :: ps).length) :
    eSQ (A ++ B) = xr (ePQ (u :: as ++ [w])) (ePQ (w :: bs ++ [u])) ∧ eSQ (u :: as ++ w :: ps.reverse) = xr (ePQ (u :: as ++ [w])) (ePQ (u :: ps ++ [w])) ∧ eSQ (w :: bs ++ u :: ps) = xr (ePQ (w :: bs ++ [u])) (ePQ (u :: ps ++ [w])) ∧ eSQ (w :: bs ++ u :: ps) = xr (eSQ (A ++ B)) (eSQ (u :: as ++ w :: ps.reverse)) := by
  have hper : (u :: as ++ w :: bs).Perm (A ++ B) := by rw [← hAB]; exact List.perm_append_comm
  have eF : eSQ (A ++ B) = xr (ePQ (u :: as ++ [w])) (ePQ (w :: bs ++ [u])) := by
    rw [eS_rot, hAB]
    exact eS_two (hper.nodup_iff.mpr hn) (by rw [hper.length_eq]; exact h3)
  have hrev : (u :: ps ++ [w]).reverse = w :: ps.reverse ++ [u] := by simp
  have e1 : eSQ (u :: as ++ w :: ps.reverse) = xr (ePQ (u :: as ++ [w])) (ePQ (u :: ps ++ [w])) := by
    rw [eS_two n1 n2, ← hrev, eP_rev]
  have e2 : eSQ (w :: bs ++ u :: ps) = xr (ePQ (w :: bs ++ [u])) (ePQ (u :: ps ++ [w])) := eS_two m1 m2
  refine ⟨eF, e1, e2, ?_⟩
  rw [e1, e2, eF]
  funext x y
  simp only [xr]
  cases ePQ (u :: as ++ [w]) x y <;> cases ePQ (w :: bs ++ [u]) x y <;> cases ePQ (u :: ps ++ [w]) x y <;> rfl
theorem EXS_3 {G : xG} {S : Nat → Bool} {P : xG} {PV : Nat → Bool} {L1 L2 : List (List Nat)} {A B as bs ps : List Nat} {u w E m : Nat} {Z : Nat → xG} {c : Nat → Nat} (hb : BIC G S) (hS : ∀ v, S v = true → v < 10)
    (hI : INV G S P PV (L1 ++ (A ++ B) :: L2) E) (hG : GR P (L1 ++ (A ++ B) :: L2)) (hX : EXS G P (L1 ++ (A ++ B) :: L2) m Z c) (hAB : B ++ A = u :: as ++ w :: bs) (hps : ps.Nodup) (hpv : ∀ p ∈ ps, p < 10 ∧ PV p = false ∧ S p = true) (hpe : ∀ q ∈ pd (u :: ps ++ [w]), G q.1 q.2 = true ∧ P q.1 q.2 = false)
    (hcl : ∀ x y i, ePQ (u :: ps ++ [w]) x y = true → i < m → Z i x y = true → c i = L1.length) :
    ∃ c', EXS G (addP P (u :: ps ++ [w])) (L1 ++ (u :: as ++ w :: ps.reverse) :: L2 ++ [w :: bs ++ u :: ps]) m Z c' ∧ ∀ i, i < m → (c i ≠ L1.length → c' i = c i) ∧ (c i = L1.length → c' i = L1.length ∨ c' i = (L1 ++ (A ++ B) :: L2).length) := by
  have hI' := INV_step hb.1 hI hAB hps hpv hpe
  obtain ⟨i1, i2, i3, i4, i5, i6, _⟩ := id hI
  obtain ⟨j1, j2, j3, j4, j5, j6, _⟩ := id hI'
  obtain ⟨⟨f1, f2, f3, f4⟩, hc, hY⟩ := id hX
  have hm0 : (A ++ B) ∈ L1 ++ (A ++ B) :: L2 := List.mem_append_right _ List.mem_cons_self
  have hm1 : (u :: as ++ w :: ps.reverse) ∈ L1 ++ (u :: as ++ w :: ps.reverse) :: L2 ++ [w :: bs ++ u :: ps] := by simp
  have hm2 : (w :: bs ++ u :: ps) ∈ L1 ++ (u :: as ++ w :: ps.reverse) :: L2 ++ [w :: bs ++ u :: ps] := by simp
  obtain ⟨n1, n2, n3⟩ := i4 _ hm0
  obtain ⟨p1, p2, p3⟩ := j4 _ hm1
  obtain ⟨q1, q2, q3⟩ := j4 _ hm2
  obtain ⟨s1, s2, s3, s4⟩ := face_split n1 n2 hAB p1 p2 q1 q2
  obtain ⟨t1, t2, t3, t4, t5⟩ := FZ_split (L1 := L1) (L2 := L2) (f := A ++ B) (f1 := u :: as ++ w :: ps.reverse) (f2 := w :: bs ++ u :: ps)
  have hl : L1.length < (L1 ++ (A ++ B) :: L2).length := by simp
  generalize hp : L1.length = p at *
  generalize hr : (L1 ++ (A ++ B) :: L2).length = r at *
  have hPQ : ∀ x y, ePQ (u :: ps ++ [w]) x y = true → P x y = false := fun x y q => by
    rcases eP_iff.mp q with q | q
    · exact (hpe _ q).2
    · rw [i1]; exact (hpe _ q).2
  -- the first half, as a sum of the whole's faces
  have hev1 : ev G (eSQ (u :: as ++ w :: ps.reverse)) := by
    have := FZ_ev hS hI' (j := p) (by rw [t1]; omega)
    rw [t3] at this
    exact ev_mono (fun x y g => (j2 x y g).1) this
  have hPf1 : ∀ x y, eSQ (u :: as ++ w :: ps.reverse) x y = true → P x y = true → eSQ (A ++ B) x y = true := fun x y h1 h2 => by
    rw [s2] at h1
    simp only [xr] at h1
    have hq0 : ePQ (u :: ps ++ [w]) x y = false := by
      cases e : ePQ (u :: ps ++ [w]) x y with
      | false => rfl
      | true => rw [hPQ x y e] at h2; cases h2
    rw [hq0, Bool.xor_false] at h1
    have hd : ∀ q, q ∈ pd (u :: as ++ [w]) → q ∈ dts (A ++ B) := fun q hq => by
      rw [dts_rot, hAB, dts_two]
      exact List.mem_append_left _ hq
    rcases eP_iff.mp h1 with g | g
    · exact eS_iff.mpr (Or.inl (hd _ g))
    · exact eS_iff.mpr (Or.inr (hd _ g))
  obtain ⟨U, hU⟩ := f3 _ hev1
  -- one value for each other class
  have hconst : ∀ i i', i < m → i' < m → c i = c i' → c i ≠ p → U i = U i' := by
    intro i i' hi hi' hcc hcp
    have hevj : ev P (sU Z (fun k => decide (c k = c i) && U k) m) := by
      have h0 : ev G (sU Z (fun k => decide (c k = c i) && U k) m) := sU_ev fun k hk _ => f1 k hk
      refine ⟨⟨h0.1.1, fun x y h => ?_⟩, h0.2⟩
      cases hP : P x y with
      | true => rfl
      | false =>
        exfalso
        obtain ⟨k, hk, h1⟩ := xs_ex h
        rw [Bool.and_eq_true, Bool.and_eq_true] at h1
        have hck : c k = c i := of_decide_eq_true h1.1.1
        obtain ⟨l, hl2, hne, hlZ, hu⟩ := f2 x y k hk h1.2
        have hcl2 : c l = c i := (EXS_A hS hI hX hP hk hl2 h1.2 hlZ).trans hck
        have e1 : eSQ (u :: as ++ w :: ps.reverse) x y = false := by
          cases e : eSQ (u :: as ++ w :: ps.reverse) x y with
          | false => rfl
          | true =>
            exfalso
            have hadd := (FZ_ev hS hI' (j := p) (by rw [t1]; omega)).1.2 x y (by rw [t3]; exact e)
            rcases addP_iff.mp hadd with g | g
            · rw [hP] at g; cases g
            · exact hcp (hck ▸ hcl x y k (eP_iff.mpr g) hk h1.2)
        rw [hU, tw_sum U hk hl2 hne h1.2 hlZ hu] at e1
        have e2 := tw_sum (fun k => decide (c k = c i) && U k) hk hl2 hne h1.2 hlZ hu
        rw [h] at e2
        rw [decide_eq_true hck, decide_eq_true hcl2, Bool.true_and, Bool.true_and, e1] at e2
        cases e2
    obtain ⟨V, hV⟩ := hG.1 _ hevj
    rw [hr, sU_cls hc hY V] at hV
    have hz : sU Z (fun k => (decide (c k = c i) && U k) ^^ V (c k)) m = x0 := by rw [sU_xor Z (fun k => decide (c k = c i) && U k) (fun k => V (c k)), ← hV, xr_self]
    have := f4 _ hz i i' hi hi'
    rw [decide_eq_true rfl, decide_eq_true hcc.symm, ← hcc] at this
    revert this
    cases U i <;> cases U i' <;> cases V (c i) <;> simp
  -- all of the first half within the class p
  obtain ⟨W, hW, hWp⟩ : ∃ W, eSQ (u :: as ++ w :: ps.reverse) = sU Z W m ∧ ∀ i, i < m → c i ≠ p → W i = false := by
    let b : Nat → Bool := fun j => !decide (j = p) && anyv (fun i => decide (c i = j) && U i) m
    have hbU : ∀ i, i < m → c i ≠ p → b (c i) = U i := fun i hi hne => by
      show (!decide (c i = p) && _) = _
      rw [decide_eq_false hne, Bool.not_false, Bool.true_and, Bool.eq_iff_iff, anyv_iff]
      constructor
      · rintro ⟨k, hk, q⟩
        rw [Bool.and_eq_true] at q
        have e : c k = c i := of_decide_eq_true q.1
        rw [← hconst k i hk hi e (by rw [e]; exact hne)]
        exact q.2
      · exact fun q => ⟨i, hi, by rw [decide_eq_true rfl, q]; rfl⟩
    have hbp : b p = false := by show (!decide (p = p) && _) = _; simp
    have hsplit : eSQ (u :: as ++ w :: ps.reverse) = xr (sU Z (fun i => decide (c i = p) && U i) m) (sU (FZ (L1 ++ (A ++ B) :: L2)) b r) := by
      rw [hU, sU_cls hc hY b, ← sU_xor]
      refine sU_ext fun i hi => ?_
      by_cases e : c i = p
      · rw [e, hbp, decide_eq_true rfl]; simp
      · rw [hbU i hi e, decide_eq_false e]; simp
    have hevT : ev P (sU (FZ (L1 ++ (A ++ B) :: L2)) b r) := sU_ev fun j hj _ => FZ_ev hS hI (by rw [hr]; exact hj)
    have hsubT : ∀ x y, sU (FZ (L1 ++ (A ++ B) :: L2)) b r x y = true → eSQ (A ++ B) x y = true := fun x y h => by
      cases e : eSQ (A ++ B) x y with
      | true => rfl
      | false =>
        exfalso
        have hP := hevT.1.2 x y h
        have h0 : sU Z (fun i => decide (c i = p) && U i) m x y = false := by
          refine xs_0 fun i hi => ?_
          cases eZ : Z i x y with
          | false => simp
          | true =>
            by_cases ec : c i = p
            · have := EXS_B hI hX hP hi eZ
              rw [ec, t5, e] at this
              cases this
            · show ((decide (c i = p) && U i) && true) = false
              rw [decide_eq_false ec]; simp
        have h1 := congrFun (congrFun hsplit x) y
        simp only [xr] at h1
        rw [h0, h, Bool.false_xor] at h1
        rw [hPf1 x y h1 hP] at e
        cases e
    rcases cyc_even n1 n2 (fun z hz => hS z (i3 z (n3 z hz))) hevT.1.1 hsubT hevT.2 with hT | hT
    · have := hG.2 b (by rw [hr]; exact hT)
      rw [hr] at this
      refine ⟨U, hU, fun i hi hne => ?_⟩
      rw [← hbU i hi hne, this (c i) p (hc i hi) hl]
      exact hbp
    · have h0 : sU (FZ (L1 ++ (A ++ B) :: L2)) (fun j => b j ^^ decide (j = p)) r = x0 := by
        rw [sU_xor, hT, sU_one hl, t5, xr_self]
      have := hG.2 _ (by rw [hr]; exact h0)
      rw [hr] at this
      refine ⟨fun i => !U i, by rw [sU_compl f2]; exact hU, fun i hi hne => ?_⟩
      have h5 := this (c i) p (hc i hi) hl
      rw [hbp, decide_eq_true rfl, decide_eq_false hne, hbU i hi hne] at h5
      dsimp only
      revert h5
      cases U i <;> simp
  refine ⟨fun i => if c i = p then (if W i = true then p else r) else c i, ⟨⟨f1, f2, f3, f4⟩, fun i hi => ?_, fun j hj => ?_⟩, fun i hi => ⟨fun e => (by dsimp only; rw [if_neg e]), fun e => (by
    dsimp only
    rw [if_pos e]
    cases W i with
    | true => exact Or.inl rfl
    | false => exact Or.inr rfl)⟩⟩
  · rw [t1]
    dsimp only
    have := hc i hi
    split
    · split <;> omega
    · omega
  · rw [t1] at hj
    by_cases hjp : j = p
    · subst hjp
      rw [t3, hW]
      refine sU_ext fun i hi => ?_
      show W i = decide (_ = _)
      rw [Bool.eq_iff_iff, decide_eq_true_eq]
      dsimp only
      by_cases e : c i = j
      · rw [if_pos e]
        cases eW : W i with
        | true => simp
        | false =>
          have : ¬ r = j := by omega
          simp [this]
      · rw [hWp i hi e, if_neg e]
        simp [e]
    · by_cases hjr : j = r
      · subst hjr
        rw [t4, s4, hW, ← t5, hY p hl, ← sU_xor]
        refine sU_ext fun i hi => ?_
        show (decide (c i = p) ^^ W i) = decide (_ = _)
        rw [Bool.eq_iff_iff, decide_eq_true_eq]
        dsimp only
        have hci := hc i hi
        by_cases e : c i = p
        · rw [if_pos e, decide_eq_true e]
          cases eW : W i with
          | true =>
            have : ¬ p = j := by omega
            simp [this]
          | false => simp
        · rw [hWp i hi e, if_neg e]
          have : ¬ c i = j := by omega
          simp [e, this]
      · rw [t2 j (by omega) hjp, hY j (by omega)]
        refine sU_ext fun i hi => ?_
        show decide (_ = _) = decide (_ = _)
        rw [Bool.eq_iff_iff, decide_eq_true_eq, decide_eq_true_eq]
        dsimp only
        by_cases e : c i = p
        · rw [if_pos e]
          have h1 : ¬ c i = j := by omega
          have h2 : ¬ (if W i = true then p else r) = j := by split <;> omega
          exact ⟨fun q => absurd q h1, fun q => absurd q h2⟩
        · rw [if_neg e]
