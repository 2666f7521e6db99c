/-! two parts that meet in two vertices, and an ear from one to the other -/
theorem SUM3 {P F1 F2 : xG} {PV : Nat → Bool} {N : Nat → Bool} {a b u w : Nat} {inn : List Nat} {m1 m2 i1 j1 k1 i2 j2 k2 : Nat} {W1 W2 : Nat → xG} (hg : gok P) (hPV : ∀ x y, P x y = true → PV x = true)
    (hs1 : ∀ x y, F1 x y = F1 y x) (hs2 : ∀ x y, F2 x y = F2 y x) (h1P : ∀ x y, F1 x y = true → P x y = true) (h2P : ∀ x y, F2 x y = true → P x y = true) (h12 : ∀ x y, P x y = true → F1 x y = true ∨ F2 x y = true) (hdis : ∀ x y, F1 x y = true → F2 x y = true → False)
    (hN1 : ∀ x y, F1 x y = true → N x = true ∨ x = a ∨ x = b) (hN2 : ∀ x y, F2 x y = true → N x = false) (hNw : N w = true) (hNu : N u = false) (hNa : N a = false) (hNb : N b = false) (hab : a ≠ b) (ha10 : a < 10) (hb10 : b < 10)
    (hn : (u :: inn ++ [w]).Nodup) (h10 : ∀ z ∈ u :: inn ++ [w], z < 10) (hinn : ∀ p ∈ inn, PV p = false) (hPQ : ∀ x y, ePQ (u :: inn ++ [w]) x y = true → P x y = false)
    (t1 : TF F1 a b w m1 W1 i1 j1 k1) (t2 : TF F2 a b u m2 W2 i2 j2 k2) : PW (addP P (u :: inn ++ [w])) := by
  obtain ⟨c1, w1, ⟨li1, lj1, lk1⟩, ⟨nij1, nik1, njk1⟩, ⟨oi1, oj1, ok1, or1⟩, gen1⟩ := t1
  obtain ⟨c2, w2, ⟨li2, lj2, lk2⟩, ⟨nij2, nik2, njk2⟩, ⟨oi2, oj2, ok2, or2⟩, gen2⟩ := t2
  let S2 : Nat → xG := fun n => if n = i1 then W2 i2 else if n = j1 then W2 j2 else if n = k1 then W2 k2 else x0
  let SQ : Nat → xG := fun n => if n = j1 then ePQ (u :: inn ++ [w]) else if n = k1 then ePQ (u :: inn ++ [w]) else x0
  let R2 : Nat → xG := fun n => if n = i2 then x0 else if n = j2 then x0 else if n = k2 then x0 else W2 n
  let M : Nat → xG := fun n => if n < m1 then xr (W1 n) (xr (S2 n) (SQ n)) else R2 (n - m1)
  have hM1 : ∀ n, n < m1 → M n = xr (W1 n) (xr (S2 n) (SQ n)) := fun n h => if_pos h
  have hM2 : ∀ n, ¬ n < m1 → M n = R2 (n - m1) := fun n h => if_neg h
  have s2i : S2 i1 = W2 i2 := if_pos rfl
  have s2j : S2 j1 = W2 j2 := by show (if j1 = i1 then _ else _) = _; rw [if_neg (fun e => nij1 e.symm), if_pos rfl]
  have s2k : S2 k1 = W2 k2 := by show (if k1 = i1 then _ else _) = _; rw [if_neg (fun e => nik1 e.symm), if_neg (fun e => njk1 e.symm), if_pos rfl]
  have s2n : ∀ n, n ≠ i1 → n ≠ j1 → n ≠ k1 → S2 n = x0 := fun n e1 e2 e3 => by show (if n = i1 then _ else _) = _; rw [if_neg e1, if_neg e2, if_neg e3]
  have sqi : SQ i1 = x0 := by show (if i1 = j1 then _ else _) = _; rw [if_neg nij1, if_neg nik1]
  have sqj : SQ j1 = ePQ (u :: inn ++ [w]) := if_pos rfl
  have sqk : SQ k1 = ePQ (u :: inn ++ [w]) := by show (if k1 = j1 then _ else _) = _; rw [if_neg (fun e => njk1 e.symm), if_pos rfl]
  have sqn : ∀ n, n ≠ j1 → n ≠ k1 → SQ n = x0 := fun n e2 e3 => by show (if n = j1 then _ else _) = _; rw [if_neg e2, if_neg e3]
  have r2n : ∀ n, n ≠ i2 → n ≠ j2 → n ≠ k2 → R2 n = W2 n := fun n e1 e2 e3 => by show (if n = i2 then _ else _) = _; rw [if_neg e1, if_neg e2, if_neg e3]
  have r2x : ∀ n x y, R2 n x y = true → (n ≠ i2 ∧ n ≠ j2 ∧ n ≠ k2) ∧ W2 n x y = true := fun n x y h => by
    have h' : (if n = i2 then x0 else if n = j2 then x0 else if n = k2 then x0 else W2 n) x y = true := h
    split at h'
    · cases h'
    · split at h'
      · cases h'
      · split at h'
        · cases h'
        · exact ⟨⟨by assumption, by assumption, by assumption⟩, h'⟩
  have hPA : ∀ x y, P x y = true → addP P (u :: inn ++ [w]) x y = true := fun x y h => addP_iff.mpr (Or.inl h)
  have hQA : ch (addP P (u :: inn ++ [w])) (ePQ (u :: inn ++ [w])) := ⟨eP_sym _, fun x y h => addP_iff.mpr (Or.inr (eP_iff.mp h))⟩
  have c1A : ∀ n, n < m1 → ch (addP P (u :: inn ++ [w])) (W1 n) := fun n hn => ch_mono (fun x y h => hPA x y (h1P x y h)) (c1 n hn)
  have c2A : ∀ n, n < m2 → ch (addP P (u :: inn ++ [w])) (W2 n) := fun n hn => ch_mono (fun x y h => hPA x y (h2P x y h)) (c2 n hn)
  -- values at an edge of each kind
  have v1 : ∀ x y, F1 x y = true → (∀ n, n < m2 → W2 n x y = false) ∧ ePQ (u :: inn ++ [w]) x y = false := fun x y h => ⟨fun n hn => by
    cases e : W2 n x y with
    | false => rfl
    | true => exact (hdis x y h ((c2 n hn).2 x y e)).elim, by
    cases e : ePQ (u :: inn ++ [w]) x y with
    | false => rfl
    | true => have := hPQ x y e; rw [h1P x y h] at this; cases this⟩
  have v2 : ∀ x y, F2 x y = true → (∀ n, n < m1 → W1 n x y = false) ∧ ePQ (u :: inn ++ [w]) x y = false := fun x y h => ⟨fun n hn => by
    cases e : W1 n x y with
    | false => rfl
    | true => exact (hdis x y ((c1 n hn).2 x y e) h).elim, by
    cases e : ePQ (u :: inn ++ [w]) x y with
    | false => rfl
    | true => have := hPQ x y e; rw [h2P x y h] at this; cases this⟩
  have v3 : ∀ x y, ePQ (u :: inn ++ [w]) x y = true → (∀ n, n < m1 → W1 n x y = false) ∧ ∀ n, n < m2 → W2 n x y = false := fun x y h => by
    refine ⟨fun n hn => ?_, fun n hn => ?_⟩
    · cases e : W1 n x y with
      | false => rfl
      | true => have := hPQ x y h; rw [h1P x y ((c1 n hn).2 x y e)] at this; cases this
    · cases e : W2 n x y with
      | false => rfl
      | true => have := hPQ x y h; rw [h2P x y ((c2 n hn).2 x y e)] at this; cases this
  have kind : ∀ n x y, n < m1 + m2 → M n x y = true → (F1 x y = true ∧ n < m1 ∧ W1 n x y = true) ∨ (F2 x y = true ∧ ∃ l, l < m2 ∧ W2 l x y = true ∧ ((n = i1 ∧ l = i2) ∨ (n = j1 ∧ l = j2) ∨ (n = k1 ∧ l = k2) ∨ (n = m1 + l ∧ l ≠ i2 ∧ l ≠ j2 ∧ l ≠ k2))) ∨ (ePQ (u :: inn ++ [w]) x y = true ∧ (n = j1 ∨ n = k1)) := fun n x y hn h => by
    by_cases e : n < m1
    · rw [hM1 n e] at h
      simp only [xr] at h
      cases q1 : W1 n x y with
      | true => exact Or.inl ⟨(c1 n e).2 x y q1, e, rfl⟩
      | false =>
        rw [q1, Bool.false_xor] at h
        by_cases a1 : n = i1
        · rw [a1, s2i, sqi] at h
          simp only [x0, Bool.xor_false] at h
          exact Or.inr (Or.inl ⟨(c2 i2 li2).2 x y h, i2, li2, h, Or.inl ⟨a1, rfl⟩⟩)
        · by_cases a2 : n = j1
          · rw [a2, s2j, sqj] at h
            cases q2 : W2 j2 x y with
            | true => exact Or.inr (Or.inl ⟨(c2 j2 lj2).2 x y q2, j2, lj2, q2, Or.inr (Or.inl ⟨a2, rfl⟩)⟩)
            | false => rw [q2, Bool.false_xor] at h; exact Or.inr (Or.inr ⟨h, Or.inl a2⟩)
          · by_cases a3 : n = k1
            · rw [a3, s2k, sqk] at h
              cases q2 : W2 k2 x y with
              | true => exact Or.inr (Or.inl ⟨(c2 k2 lk2).2 x y q2, k2, lk2, q2, Or.inr (Or.inr (Or.inl ⟨a3, rfl⟩))⟩)
              | false => rw [q2, Bool.false_xor] at h; exact Or.inr (Or.inr ⟨h, Or.inr a3⟩)
            · rw [s2n n a1 a2 a3, sqn n a2 a3] at h
              cases h
    · rw [hM2 n e] at h
      obtain ⟨⟨r1, r2, r3⟩, r4⟩ := r2x _ x y h
      exact Or.inr (Or.inl ⟨(c2 (n - m1) (by omega)).2 x y r4, n - m1, by omega, r4, Or.inr (Or.inr (Or.inr ⟨by omega, r1, r2, r3⟩))⟩)
  refine ⟨m1 + m2, M, fun n hn2 => ?_, two2_mk fun x y p q r hp hq hr q1 q2 q3 => ?_, fun X hX => ?_⟩
  · -- each member is even
    by_cases e : n < m1
    · rw [hM1 n e]
      have hS2 : ch (addP P (u :: inn ++ [w])) (S2 n) := by
        by_cases a1 : n = i1
        · rw [a1, s2i]; exact c2A i2 li2
        · by_cases a2 : n = j1
          · rw [a2, s2j]; exact c2A j2 lj2
          · by_cases a3 : n = k1
            · rw [a3, s2k]; exact c2A k2 lk2
            · rw [s2n n a1 a2 a3]; exact ch_x0 _
      have hSQ : ch (addP P (u :: inn ++ [w])) (SQ n) := by
        by_cases a2 : n = j1
        · rw [a2, sqj]; exact hQA
        · by_cases a3 : n = k1
          · rw [a3, sqk]; exact hQA
          · rw [sqn n a2 a3]; exact ch_x0 _
      refine ⟨ch_xr (c1A n e) (ch_xr hS2 hSQ), fun v hv => ?_⟩
      rw [od_xr, od_xr]
      by_cases a1 : n = i1
      · rw [a1, s2i, sqi, oi1 v hv, oi2 v hv, od_x0]
        unfold bits
        simp
      · by_cases a2 : n = j1
        · rw [a2, s2j, sqj, oj1 v hv, oj2 v hv, od_path hn h10]
          unfold bits
          cases decide (v = a) <;> cases decide (v = b) <;> cases decide (v = u) <;> cases decide (v = w) <;> rfl
        · by_cases a3 : n = k1
          · rw [a3, s2k, sqk, ok1 v hv, ok2 v hv, od_path hn h10]
            unfold bits
            cases decide (v = a) <;> cases decide (v = b) <;> cases decide (v = u) <;> cases decide (v = w) <;> rfl
          · rw [s2n n a1 a2 a3, sqn n a2 a3, od_x0, or1 n e a1 a2 a3 v hv]
            rfl
    · rw [hM2 n e]
      by_cases a1 : n - m1 = i2 ∨ n - m1 = j2 ∨ n - m1 = k2
      · have : R2 (n - m1) = x0 := by
          show (if n - m1 = i2 then x0 else if n - m1 = j2 then x0 else if n - m1 = k2 then x0 else W2 (n - m1)) = x0
          by_cases e1 : n - m1 = i2
          · rw [if_pos e1]
          · rw [if_neg e1]
            by_cases e2 : n - m1 = j2
            · rw [if_pos e2]
            · rw [if_neg e2]
              rcases a1 with e3 | e3 | e3
              · exact absurd e3 e1
              · exact absurd e3 e2
              · rw [if_pos e3]
        rw [this]; exact ev_x0 _
      · have n1 : n - m1 ≠ i2 := fun q => a1 (Or.inl q)
        have n2 : n - m1 ≠ j2 := fun q => a1 (Or.inr (Or.inl q))
        have n3 : n - m1 ≠ k2 := fun q => a1 (Or.inr (Or.inr q))
        rw [r2n _ n1 n2 n3]
        exact ⟨c2A _ (by omega), fun v hv => or2 _ (by omega) n1 n2 n3 v hv⟩
  · have both12 : F1 x y = true → F2 x y = true → False := hdis x y
    have both1Q : F1 x y = true → ePQ (u :: inn ++ [w]) x y = true → False := fun h1 h2 => by rw [(v1 x y h1).2] at h2; cases h2
    have both2Q : F2 x y = true → ePQ (u :: inn ++ [w]) x y = true → False := fun h1 h2 => by rw [(v2 x y h1).2] at h2; cases h2
    rcases kind p x y hp q1 with ⟨p1, p2, p3⟩ | ⟨p1, lp, p2, p3, p4⟩ | ⟨p1, p2⟩
    · rcases kind q x y hq q2 with ⟨r1, r2, r3⟩ | ⟨r1, _⟩ | ⟨r1, _⟩
      · rcases kind r x y hr q3 with ⟨s1, s2, s3⟩ | ⟨s1, _⟩ | ⟨s1, _⟩
        · exact w1 x y p q r p2 r2 s2 p3 r3 s3
        · exact (both12 p1 s1).elim
        · exact (both1Q p1 s1).elim
      · exact (both12 p1 r1).elim
      · exact (both1Q p1 r1).elim
    · rcases kind q x y hq q2 with ⟨r1, _⟩ | ⟨r1, lq, r2, r3, r4⟩ | ⟨r1, _⟩
      · exact (both12 r1 p1).elim
      · rcases kind r x y hr q3 with ⟨s1, _⟩ | ⟨s1, lr, s2, s3, s4⟩ | ⟨s1, _⟩
        · exact (both12 s1 p1).elim
        · rcases w2 x y lp lq lr p2 r2 s2 p3 r3 s3 with e | e | e
          · left
            subst e
            rcases p4 with ⟨a1, a2⟩ | ⟨a1, a2⟩ | ⟨a1, a2⟩ | ⟨a1, a2, a3, a4⟩ <;> rcases r4 with ⟨b1, b2⟩ | ⟨b1, b2⟩ | ⟨b1, b2⟩ | ⟨b1, b2, b3, b4⟩ <;> omega
          · right; left
            subst e
            rcases p4 with ⟨a1, a2⟩ | ⟨a1, a2⟩ | ⟨a1, a2⟩ | ⟨a1, a2, a3, a4⟩ <;> rcases s4 with ⟨b1, b2⟩ | ⟨b1, b2⟩ | ⟨b1, b2⟩ | ⟨b1, b2, b3, b4⟩ <;> omega
          · right; right
            subst e
            rcases r4 with ⟨a1, a2⟩ | ⟨a1, a2⟩ | ⟨a1, a2⟩ | ⟨a1, a2, a3, a4⟩ <;> rcases s4 with ⟨b1, b2⟩ | ⟨b1, b2⟩ | ⟨b1, b2⟩ | ⟨b1, b2, b3, b4⟩ <;> omega
        · exact (both2Q p1 s1).elim
      · exact (both2Q p1 r1).elim
    · rcases kind q x y hq q2 with ⟨r1, _⟩ | ⟨r1, _⟩ | ⟨r1, r2⟩
      · exact (both1Q r1 p1).elim
      · exact (both2Q r1 p1).elim
      · rcases kind r x y hr q3 with ⟨s1, _⟩ | ⟨s1, _⟩ | ⟨s1, s2⟩
        · exact (both1Q s1 p1).elim
        · exact (both2Q s1 p1).elim
        · rcases p2 with e1 | e1 <;> rcases r2 with e2 | e2 <;> rcases s2 with e3 | e3 <;> omega
  · -- each even set is a sum
    obtain ⟨bb, hbb⟩ := path_all hPV hn h10 hinn hX
    let X1 : xG := fun x y => X x y && F1 x y
    let X2 : xG := fun x y => X x y && F2 x y
    have hX1 : ch F1 X1 := ⟨fun x y => by show (X x y && F1 x y) = (X y x && F1 y x); rw [hX.1.1 x y, hs1 x y], fun x y h => by
      have h' : (X x y && F1 x y) = true := h
      rw [Bool.and_eq_true] at h'
      exact h'.2⟩
    have hX2 : ch F2 X2 := ⟨fun x y => by show (X x y && F2 x y) = (X y x && F2 y x); rw [hX.1.1 x y, hs2 x y], fun x y h => by
      have h' : (X x y && F2 x y) = true := h
      rw [Bool.and_eq_true] at h'
      exact h'.2⟩
    have hXX : X = xr X1 (xr X2 (sc bb (ePQ (u :: inn ++ [w])))) := by
      funext x y
      show X x y = ((X x y && F1 x y) ^^ ((X x y && F2 x y) ^^ (bb && ePQ (u :: inn ++ [w]) x y)))
      cases q1 : F1 x y with
      | true =>
        have q2 : F2 x y = false := by
          cases e : F2 x y with
          | false => rfl
          | true => exact (hdis x y q1 e).elim
        rw [q2, (v1 x y q1).2]
        simp
      | false =>
        cases q2 : F2 x y with
        | true => rw [(v2 x y q2).2]; simp
        | false =>
          cases q3 : ePQ (u :: inn ++ [w]) x y with
          | true => rw [hbb x y q3]; simp
          | false =>
            simp
            cases e : X x y with
            | false => rfl
            | true =>
              exfalso
              rcases addP_iff.mp (hX.1.2 x y e) with g | g
              · rcases h12 x y g with g | g
                · rw [q1] at g; cases g
                · rw [q2] at g; cases g
              · rw [eP_iff.mpr g] at q3; cases q3
    have hsum : ∀ v, v < 10 → (od X1 v ^^ od X2 v) = (bb && (decide (v = u) ^^ decide (v = w))) := fun v hv => by
      have h0 := hX.2 v hv
      rw [hXX, od_xr, od_xr, od_sc, od_path hn h10] at h0
      revert h0
      cases od X1 v <;> cases od X2 v <;> cases (bb && (decide (v = u) ^^ decide (v = w))) <;> simp
    have hwa : w ≠ a := fun e => by rw [e, hNa] at hNw; cases hNw
    have hwb : w ≠ b := fun e => by rw [e, hNb] at hNw; cases hNw
    have hw10 : w < 10 := h10 w (by simp)
    have ho1 : ∀ v, v < 10 → od X1 v = bits a b w (od X1 a) (od X1 b) bb v := fun v hv => by
      unfold bits
      by_cases e1 : v = a
      · subst e1
        have n1 : ¬ v = b := hab
        have n2 : ¬ v = w := fun e => hwa e.symm
        simp [n1, n2]
      · by_cases e2 : v = b
        · subst e2
          have n2 : ¬ v = w := fun e => hwb e.symm
          simp [e1, n2]
        · cases hNv : N v with
          | false =>
            have hz : od X1 v = false := xs_0 fun y _ => by
              cases q : X1 v y with
              | false => rfl
              | true =>
                rcases hN1 v y (hX1.2 v y q) with g | g | g
                · rw [hNv] at g; cases g
                · exact absurd g e1
                · exact absurd g e2
            have n2 : ¬ v = w := fun e => by rw [e, hNw] at hNv; cases hNv
            rw [hz]; simp [e1, e2, n2]
          | true =>
            have hz : od X2 v = false := xs_0 fun y _ => by
              cases q : X2 v y with
              | false => rfl
              | true => have := hN2 v y (hX2.2 v y q); rw [hNv] at this; cases this
            have h0 := hsum v hv
            have n2 : ¬ v = u := fun e => by rw [e, hNu] at hNv; cases hNv
            rw [hz, Bool.xor_false, decide_eq_false n2, Bool.false_xor] at h0
            rw [h0]; simp [e1, e2]
    have ho2 : ∀ v, v < 10 → od X2 v = bits a b u (od X1 a) (od X1 b) bb v := fun v hv => by
      have h0 := hsum v hv
      have h1 := ho1 v hv
      unfold bits at h1 ⊢
      rw [h1] at h0
      revert h0
      generalize od X1 a = p
      generalize od X1 b = q
      cases p <;> cases q <;> cases bb <;> cases od X2 v <;> cases decide (v = a) <;> cases decide (v = b) <;> cases decide (v = u) <;> cases decide (v = w) <;> simp
    have hpar : ((od X1 a ^^ od X1 b) ^^ bb) = false := by
      have hch : ch P X1 := ch_mono h1P hX1
      have ht := od_sum hg hch (A := fun _ => true) (fun _ _ _ => rfl)
      simp only [Bool.true_and] at ht
      rw [xs_three ha10 hb10 hw10 hab (fun e => hwa e.symm) (fun e => hwb e.symm) (fun v hv e1 e2 e3 => by
        rw [ho1 v hv]
        simp [bits, e1, e2, e3])] at ht
      have hw' := ho1 w hw10
      unfold bits at hw'
      rw [decide_eq_false hwa, decide_eq_false hwb, decide_eq_true rfl] at hw'
      simp at hw'
      rw [hw'] at ht
      exact ht
    obtain ⟨U1, g1, g2, g3, g4⟩ := gen1 X1 _ _ _ hX1 ho1 hpar
    obtain ⟨U2, f1, f2, f3, f4⟩ := gen2 X2 _ _ _ hX2 ho2 hpar
    refine ⟨fun n => if n < m1 then U1 n else U2 (n - m1), ?_⟩
    have key : ∀ l, sU M (fun n => if n < m1 then U1 n else U2 (n - m1)) (m1 + l) = xr (sU (fun n => xr (W1 n) (xr (S2 n) (SQ n))) U1 m1) (sU R2 U2 l) := by
      intro l
      induction l with
      | zero =>
        rw [show sU R2 U2 0 = x0 from rfl, xr_0]
        funext x y
        exact xs_ext fun n hn3 => by
          have hn4 : n < m1 := hn3
          dsimp only
          rw [if_pos hn4, hM1 n hn4]
      | succ l ih =>
        funext x y
        have ih2 := congrFun (congrFun ih x) y
        have e : ¬ m1 + l < m1 := by omega
        have e2 : m1 + l - m1 = l := by omega
        have hMl : M (m1 + l) = R2 l := by rw [hM2 _ e, e2]
        show (xs _ (m1 + l) ^^ ((if m1 + l < m1 then U1 (m1 + l) else U2 (m1 + l - m1)) && M (m1 + l) x y)) = (xs _ m1 ^^ (xs _ l ^^ (U2 l && R2 l x y)))
        rw [if_neg e, e2, hMl, ← Bool.xor_assoc]
        congr 1
    rw [key m2]
    have e1 : sU (fun n => xr (W1 n) (xr (S2 n) (SQ n))) U1 m1 = xr (sU W1 U1 m1) (xr (sU S2 U1 m1) (sU SQ U1 m1)) := by
      funext x y
      show xs (fun n => U1 n && (W1 n x y ^^ (S2 n x y ^^ SQ n x y))) m1 = (xs _ m1 ^^ (xs _ m1 ^^ xs _ m1))
      rw [← xs_xor, ← xs_xor]
      exact xs_ext fun n _ => by cases U1 n <;> simp
    have e2 : sU S2 U1 m1 = xr (sc (U1 j1) (W2 j2)) (sc (U1 k1) (W2 k2)) := by
      funext x y
      show xs (fun n => U1 n && S2 n x y) m1 = ((U1 j1 && W2 j2 x y) ^^ (U1 k1 && W2 k2 x y))
      rw [xs_three li1 lj1 lk1 nij1 nik1 njk1 (fun n _ a1 a2 a3 => by rw [s2n n a1 a2 a3]; simp [x0]), s2i, s2j, s2k, g2]
      simp
    have e3 : sU SQ U1 m1 = sc (U1 j1 ^^ U1 k1) (ePQ (u :: inn ++ [w])) := by
      funext x y
      show xs (fun n => U1 n && SQ n x y) m1 = ((U1 j1 ^^ U1 k1) && ePQ (u :: inn ++ [w]) x y)
      rw [xs_three li1 lj1 lk1 nij1 nik1 njk1 (fun n _ a1 a2 a3 => by rw [sqn n a2 a3]; simp [x0]), sqi, sqj, sqk]
      simp only [x0, Bool.and_false, Bool.false_xor]
      cases U1 j1 <;> cases U1 k1 <;> cases ePQ (u :: inn ++ [w]) x y <;> rfl
    have e4 : sU R2 U2 m2 = xr (sU W2 U2 m2) (xr (sc (U2 j2) (W2 j2)) (sc (U2 k2) (W2 k2))) := by
      funext x y
      show xs (fun n => U2 n && R2 n x y) m2 = (xs (fun n => U2 n && W2 n x y) m2 ^^ ((U2 j2 && W2 j2 x y) ^^ (U2 k2 && W2 k2 x y)))
      have h3 : ((U2 j2 && W2 j2 x y) ^^ (U2 k2 && W2 k2 x y)) = xs (fun n => (decide (n = i2) || (decide (n = j2) || decide (n = k2))) && (U2 n && W2 n x y)) m2 := by
        rw [xs_three li2 lj2 lk2 nij2 nik2 njk2 (fun n _ a1 a2 a3 => by simp [a1, a2, a3]), f2]
        simp
      rw [h3, ← xs_xor]
      refine xs_ext fun n _ => ?_
      show (U2 n && (if n = i2 then x0 else if n = j2 then x0 else if n = k2 then x0 else W2 n) x y) = _
      by_cases a1 : n = i2
      · rw [if_pos a1, decide_eq_true a1]; simp [x0]
      · by_cases a2 : n = j2
        · rw [if_neg a1, if_pos a2, decide_eq_true a2]; simp [x0]
        · by_cases a3 : n = k2
          · rw [if_neg a1, if_neg a2, if_pos a3, decide_eq_true a3]; simp [x0]
          · rw [if_neg a1, if_neg a2, if_neg a3, decide_eq_false a1, decide_eq_false a2, decide_eq_false a3]; simp
    rw [e1, e2, e3, e4, ← g1, ← f1, g3, g4, f3, f4]
    have hb2 : (od X1 a ^^ od X1 b) = bb := by
      revert hpar
      cases od X1 a <;> cases od X1 b <;> cases bb <;> simp
    rw [hb2]
    rw [hXX]
    funext x y
    show (X1 x y ^^ (X2 x y ^^ sc bb (ePQ (u :: inn ++ [w])) x y)) = ((X1 x y ^^ ((sc (od X1 a) (W2 j2) x y ^^ sc (od X1 b) (W2 k2) x y) ^^ sc bb (ePQ (u :: inn ++ [w])) x y)) ^^ (X2 x y ^^ (sc (od X1 a) (W2 j2) x y ^^ sc (od X1 b) (W2 k2) x y)))
    cases X1 x y <;> cases X2 x y <;> cases sc bb (ePQ (u :: inn ++ [w])) x y <;> cases sc (od X1 a) (W2 j2) x y <;> cases sc (od X1 b) (W2 k2) x y <;> rfl
