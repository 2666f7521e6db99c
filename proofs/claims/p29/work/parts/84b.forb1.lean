theorem qInF_at {A : xAb} {a b : Nat} (ha : a < 10) (hb : b < 10) (h : gr A.1.1 a b = true) (hf : fl A.1.1 = false) : qInF A (nI a) (nI b) = if gr (obs A.1.1 100) a b = true then 1 else 0 := by
  unfold qInF vI
  rw [kI_of ha (by omega), kI_of hb (by omega)]
  dsimp only
  rw [if_pos h, if_neg (by rw [hf]; exact Bool.false_ne_true)]
theorem c_f1 {w : xW} {A : xAb} {F : xG} {Q : Option Value → xW → Prop} (hF : F = gr (obs A.1.1 100)) (hI : cI w A) (hG : gI w (gr A.1.1)) (hz : ∀ a, a < 10 → w.1 47 a = 0) (hf : fl A.1.1 = false) (K0 : ∀ s, cI s A ∧ xkq kF w s ∧ gF s F → xQ ML_isForbidden (120, [some (.ref 0), some (.ref 45), some (.ref 47), some (.int 0), some (.int 0), some (.int 0), none, none, none, none, none], [], s) Q) : xQ ML_isForbidden (5, [some (.ref 0), some (.ref 45), some (.ref 47), none, none, none, none, none, none, none, none], [], w) Q := by
  have hg : gok F := by rw [hF]; exact gr_gok _
  have hge := gr_gok A.1.1
  refine xQ.go 8 (F1 := (16, [some (.ref 0), some (.ref 45), some (.ref 47), some (.int 0), some (.int 0), some (.int 0), some (.int 0), none, none, none, none], [], w)) rfl ?_
  refine xQ.loop (S := xW) (fun k s => (16, [some (.ref 0), some (.ref 45), some (.ref 47), some (.int 0), some (.int 0), some (.int 0), some (.int (nI k)), none, none, none, none], [], s)) (fun k s => cI s A ∧ xkq kF w s ∧ gH s F k 0) 10 w (rfl) (⟨hI, xkq_rfl, fun a ha => (hz a ha).trans (mk_0.trans (mk_ext fun b _ => by cases e : HF F 0 0 a b with | false => rfl | true => obtain ⟨_, h2⟩ := HF_iff.mp e; omega))⟩) ?_ ?_
  · intro k s hk hI K
    obtain ⟨hI1, hk1, hH1⟩ := hI
    refine xQ.go 3 (F1 := (bif decide (10 ≤ (nI k)) then 120 else 23, [some (.ref 0), some (.ref 45), some (.ref 47), some (.int 0), some (.int 0), some (.int 0), some (.int (nI k)), none, none, none, none], [], s)) rfl ?_
    refine xQ.brF (decide_eq_false (nI_ge (b := 10) (by omega) (by omega))) ?_
    refine xQ.go 4 (F1 := (29, [some (.ref 0), some (.ref 45), some (.ref 47), some (.int 0), some (.int 0), some (.int 0), some (.int (nI k)), some (.int ((nI k) + 1)), none, none, none], [], s)) rfl ?_
    rw [← nI_succ]
    show xQ ML_isForbidden (29, [some (.ref 0), some (.ref 45), some (.ref 47), some (.int 0), some (.int 0), some (.int 0), some (.int (nI k)), some (.int (nI (k + 1))), none, none, none], [], s) _
    refine xQ.loop (S := xW) (fun k2 s2 => (29, [some (.ref 0), some (.ref 45), some (.ref 47), some (.int 0), some (.int 0), some (.int 0), some (.int (nI k)), some (.int (nI (k + 1 + k2))), none, none, none], [], s2)) (fun k2 s2 => cI s2 A ∧ xkq kF w s2 ∧ gH s2 F k (k + 1 + k2)) (9 - k) s (rfl) (⟨hI1, hk1, gH_1 hg hH1⟩) ?_ ?_
    · intro k2 s2 hk2 hI2 K2
      obtain ⟨hI2, hk3, hH2⟩ := hI2
      obtain ⟨x, hx⟩ : ∃ x, x = k + 1 + k2 := ⟨_, rfl⟩
      rw [← hx] at hH2 ⊢
      rw [show k + 1 + (k2 + 1) = x + 1 by omega] at K2
      show xQ ML_isForbidden (29, [some (.ref 0), some (.ref 45), some (.ref 47), some (.int 0), some (.int 0), some (.int 0), some (.int (nI k)), some (.int (nI x)), none, none, none], [], s2) _
      refine xQ.go 3 (F1 := (bif decide (10 ≤ (nI x)) then 114 else 36, [some (.ref 0), some (.ref 45), some (.ref 47), some (.int 0), some (.int 0), some (.int 0), some (.int (nI k)), some (.int (nI x)), none, none, none], [], s2)) rfl ?_
      refine xQ.brF (decide_eq_false (nI_ge (b := 10) (by omega) (by omega))) ?_
      have hx10 : x < 10 := by omega
      refine xQ.go 2 (F1 := (39, [some (.ref 0), some (.ref 45), some (.ref 47), some (.int 0), some (.int 0), some (.int 0), some (.int (nI k)), some (.int (nI x)), none, none, none], [.int (nI k), .ref 45], s2)) rfl ?_
      refine xQ.iald rfl (k := k) (rfl) (⟨by omega, by omega⟩) rfl ?_
      show xQ ML_isForbidden (40, [some (.ref 0), some (.ref 45), some (.ref 47), some (.int 0), some (.int 0), some (.int 0), some (.int (nI k)), some (.int (nI x)), none, none, none], [.int (s2.1 45 k)], s2) _
      rw [gI_kF hG hk3 k hk]
      refine xQ.go 6 (F1 := (bif !decide ((((mk (gr A.1.1 k)) >>> ((nI x) &&& 31)) &&& 1) = 1) then 65 else 49, [some (.ref 0), some (.ref 45), some (.ref 47), some (.int 0), some (.int 0), some (.int 0), some (.int (nI k)), some (.int (nI x)), none, none, none], [], s2)) rfl ?_
      rw [mk_get _ hx10]
      cases e : gr A.1.1 k x with
      | false =>
        refine xQ.brT (by decide) ?_
        refine xQ.go 1 (F1 := (66, [some (.ref 0), some (.ref 45), some (.ref 47), some (.int 0), some (.int 0), some (.int 0), some (.int (nI k)), some (.int (nI x)), none, none, none], [.int 0], s2)) rfl ?_
        have eF : F k x = false := by
          cases e2 : F k x with
          | false => rfl
          | true =>
            rw [hF] at e2
            rw [obs_sub _ e2] at e
            cases e
        have := c_ftail (Q := Q) hg (by omega) hx10 hI2 hk3 hH2 K2
        rw [eF] at this
        exact this
      | true =>
        refine xQ.brF (by decide) ?_
        obtain ⟨r1, w1, hc1, hr1, i1, kq⟩ := C_inf (x := nI x) (y := nI k) hI2
        subst hr1
        rw [qInF_at hx10 hk (by rw [hge.1]; exact e) hf, ← hF, hg.1] at hc1
        have tl := c_ftail (Q := Q) hg (by omega) hx10 i1 (xkq_trans hk3 (kF_of kq)) (fun a ha => ((kq 47 a rfl).1).trans (hH2 a ha)) K2
        refine xQ.go 3 (F1 := (54, [some (.ref 0), some (.ref 45), some (.ref 47), some (.int 0), some (.int 0), some (.int 0), some (.int (nI k)), some (.int (nI x)), none, none, none], [.int (nI k), .int (nI x), .ref 0], s2)) rfl ?_
        refine xQ.call rfl (hc1) ?_
        show xQ ML_isForbidden (57, [some (.ref 0), some (.ref 45), some (.ref 47), some (.int 0), some (.int 0), some (.int 0), some (.int (nI k)), some (.int (nI x)), none, none, none], [.int (if F k x = true then 1 else 0)], w1) _
        refine xQ.go 2 (F1 := (bif !decide ((if F k x = true then 1 else 0) = 1) then 65 else 61, [some (.ref 0), some (.ref 45), some (.ref 47), some (.int 0), some (.int 0), some (.int 0), some (.int (nI k)), some (.int (nI x)), none, none, none], [], w1)) rfl ?_
        cases e2 : F k x with
        | true =>
          refine xQ.brF (by decide) ?_
          refine xQ.go 2 (F1 := (66, [some (.ref 0), some (.ref 45), some (.ref 47), some (.int 0), some (.int 0), some (.int 0), some (.int (nI k)), some (.int (nI x)), none, none, none], [.int 1], w1)) rfl ?_
          rw [e2] at tl
          exact tl
        | false =>
          refine xQ.brT (by decide) ?_
          refine xQ.go 1 (F1 := (66, [some (.ref 0), some (.ref 45), some (.ref 47), some (.int 0), some (.int 0), some (.int 0), some (.int (nI k)), some (.int (nI x)), none, none, none], [.int 0], w1)) rfl ?_
          rw [e2] at tl
          exact tl
    · intro s2 hI2
      obtain ⟨hI2, hk3, hH2⟩ := hI2
      rw [show k + 1 + (9 - k) = 10 by omega] at hH2 ⊢
      show xQ ML_isForbidden (29, [some (.ref 0), some (.ref 45), some (.ref 47), some (.int 0), some (.int 0), some (.int 0), some (.int (nI k)), some (.int (nI 10)), none, none, none], [], s2) _
      refine xQ.go 3 (F1 := (bif decide (10 ≤ (nI 10)) then 114 else 36, [some (.ref 0), some (.ref 45), some (.ref 47), some (.int 0), some (.int 0), some (.int 0), some (.int (nI k)), some (.int (nI 10)), none, none, none], [], s2)) rfl ?_
      refine xQ.brT (rfl) ?_
      refine xQ.go 2 (F1 := (16, [some (.ref 0), some (.ref 45), some (.ref 47), some (.int 0), some (.int 0), some (.int 0), some (.int ((nI k) + 1)), some (.int (nI 10)), none, none, none], [], s2)) rfl ?_
      rw [← nI_succ]
      refine xQ.less [some (.ref 0), some (.ref 45), some (.ref 47), some (.int 0), some (.int 0), some (.int 0), some (.int (nI (k + 1))), none, none, none, none] (by simp [xleb]) ?_
      exact K s2 ⟨hI2, hk3, gH_10 hH2⟩
  · intro s hI
    obtain ⟨hI1, hk1, hH1⟩ := hI
    refine xQ.go 3 (F1 := (bif decide (10 ≤ (nI 10)) then 120 else 23, [some (.ref 0), some (.ref 45), some (.ref 47), some (.int 0), some (.int 0), some (.int 0), some (.int (nI 10)), none, none, none, none], [], s)) rfl ?_
    refine xQ.brT (rfl) ?_
    refine xQ.less [some (.ref 0), some (.ref 45), some (.ref 47), some (.int 0), some (.int 0), some (.int 0), none, none, none, none, none] (by simp [xleb]) ?_
    exact K0 s ⟨hI1, hk1, fun a ha => (hH1 a ha).trans (mk_ext fun b hb => by
      rw [Bool.eq_iff_iff, HF_iff]
      exact ⟨fun h => h.1, fun h => ⟨h, Or.inl ha⟩⟩)⟩
def v3 (F : xG) (k : Nat) : Nat → Bool := fun u => decide (u < k) && decide (0 < cnt (F u) 10)
def v4 (F : xG) (k : Nat) : Nat → Bool := fun u => decide (u < k) && bV F u
theorem cnt_zero {S : Nat → Bool} : mk S = 0 ↔ cnt S 10 = 0 := by
  rw [mk_zero]
  constructor
  · intro h
    rw [cnt_ext h, cnt_no]
  · intro h v hv
    cases e : S v with
    | false => rfl
    | true =>
      have h1 := cnt_mono (S := fun u => decide (u = v)) (T := S) (n := 10) (fun u _ hu => by rw [of_decide_eq_true hu]; exact e)
      rw [cnt_eq, if_pos hv] at h1
      omega
theorem v3_s {F : xG} {k : Nat} {x : Int32} (hk : k < 10) (h : x = if 0 < cnt (F k) 10 then mk (fun u => decide (u = k)) else 0) : mk (v3 F k) ||| x = mk (v3 F (k + 1)) := by
  subst h
  by_cases e : 0 < cnt (F k) 10
  · rw [if_pos e, mk_or]
    refine mk_ext fun u _ => ?_
    unfold v3
    rw [Bool.eq_iff_iff]
    simp only [Bool.or_eq_true, Bool.and_eq_true, decide_eq_true_eq]
    constructor
    · rintro (⟨h1, h2⟩ | h1)
      · exact ⟨by omega, h2⟩
      · exact ⟨by omega, by rw [h1]; exact e⟩
    · rintro ⟨h1, h2⟩
      by_cases h3 : u = k
      · exact Or.inr h3
      · exact Or.inl ⟨by omega, h2⟩
  · rw [if_neg e, Int32.or_zero]
    refine mk_ext fun u _ => ?_
    unfold v3
    rw [Bool.eq_iff_iff]
    simp only [Bool.and_eq_true, decide_eq_true_eq]
    constructor
    · rintro ⟨h1, h2⟩
      exact ⟨by omega, h2⟩
    · rintro ⟨h1, h2⟩
      refine ⟨?_, h2⟩
      have : u ≠ k := fun z => e (z ▸ h2)
      omega
theorem v4_s {F : xG} {k : Nat} {x : Int32} (hk : k < 10) (h : x = if 2 < cnt (F k) 10 then mk (fun u => decide (u = k)) else 0) : mk (v4 F k) ||| x = mk (v4 F (k + 1)) := by
  subst h
  by_cases e : 2 < cnt (F k) 10
  · rw [if_pos e, mk_or]
    refine mk_ext fun u _ => ?_
    unfold v4 bV
    rw [Bool.eq_iff_iff]
    simp only [Bool.or_eq_true, Bool.and_eq_true, decide_eq_true_eq]
    constructor
    · rintro (⟨h1, h2⟩ | h1)
      · exact ⟨by omega, h2⟩
      · exact ⟨by omega, by rw [h1]; exact e⟩
    · rintro ⟨h1, h2⟩
      by_cases h3 : u = k
      · exact Or.inr h3
      · exact Or.inl ⟨by omega, h2⟩
  · rw [if_neg e, Int32.or_zero]
    refine mk_ext fun u _ => ?_
    unfold v4 bV
    rw [Bool.eq_iff_iff]
    simp only [Bool.and_eq_true, decide_eq_true_eq]
    constructor
    · rintro ⟨h1, h2⟩
      exact ⟨by omega, h2⟩
    · rintro ⟨h1, h2⟩
      refine ⟨?_, h2⟩
      have : u ≠ k := fun z => e (z ▸ h2)
      omega
theorem c_f2 {w : xW} {F : xG} {Q : Option Value → xW → Prop} (hF : gF w F) (h1 : ∀ v, cnt (F v) 10 ≠ 1) (K0 : xQ ML_isForbidden (203, [some (.ref 0), some (.ref 45), some (.ref 47), some (.int (mk (v3 F 10))), some (.int (mk (v4 F 10))), some (.int (nI (sm (fun x => cnt (F x) 10) 10))), none, none, none, none, none], [], w) Q) : xQ ML_isForbidden (120, [some (.ref 0), some (.ref 45), some (.ref 47), some (.int 0), some (.int 0), some (.int 0), none, none, none, none, none], [], w) Q := by
  have hb : ∀ k, sm (fun x => cnt (F x) 10) k ≤ 10 * k := sm_cle' (fun i => cnt_le _ _)
  refine xQ.go 2 (F1 := (123, [some (.ref 0), some (.ref 45), some (.ref 47), some (.int 0), some (.int 0), some (.int 0), some (.int 0), none, none, none, none], [], w)) rfl ?_
  refine xQ.loop (S := Unit) (fun k s => (123, [some (.ref 0), some (.ref 45), some (.ref 47), some (.int (mk (v3 F k))), some (.int (mk (v4 F k))), some (.int (nI (sm (fun x => cnt (F x) 10) k))), some (.int (nI k)), none, none, none, none], [], w)) (fun _ _ => True) 10 () (by rw [show mk (v3 F 0) = 0 from (mk_0.trans (mk_ext fun u _ => by unfold v3; simp)).symm, show mk (v4 F 0) = 0 from (mk_0.trans (mk_ext fun u _ => by unfold v4; simp)).symm]; rfl) (trivial) ?_ ?_
  · intro k u0 hk hI K
    have K := K () trivial
    have g2 : xQ ML_isForbidden (169, [some (.ref 0), some (.ref 45), some (.ref 47), some (.int (mk (v3 F (k + 1)))), some (.int (mk (v4 F k))), some (.int (nI (sm (fun x => cnt (F x) 10) k))), some (.int (nI k)), none, none, none, none], [.int (if 2 < cnt (F k) 10 then mk (fun u => decide (u = k)) else 0), .int (mk (v4 F k))], w) Q := by
      refine xQ.go 1 (F1 := (170, [some (.ref 0), some (.ref 45), some (.ref 47), some (.int (mk (v3 F (k + 1)))), some (.int (mk (v4 F k))), some (.int (nI (sm (fun x => cnt (F x) 10) k))), some (.int (nI k)), none, none, none, none], [.int ((mk (v4 F k)) ||| (if 2 < cnt (F k) 10 then mk (fun u => decide (u = k)) else 0))], w)) rfl ?_
      rw [v4_s hk rfl]
      refine xQ.go 4 (F1 := (177, [some (.ref 0), some (.ref 45), some (.ref 47), some (.int (mk (v3 F (k + 1)))), some (.int (mk (v4 F (k + 1)))), some (.int (nI (sm (fun x => cnt (F x) 10) k))), some (.int (nI k)), none, none, none, none], [.int (nI k), .ref 47, .int (nI (sm (fun x => cnt (F x) 10) k))], w)) rfl ?_
      refine xQ.iald rfl (k := k) (rfl) (⟨by omega, by omega⟩) rfl ?_
      show xQ ML_isForbidden (178, [some (.ref 0), some (.ref 45), some (.ref 47), some (.int (mk (v3 F (k + 1)))), some (.int (mk (v4 F (k + 1)))), some (.int (nI (sm (fun x => cnt (F x) 10) k))), some (.int (nI k)), none, none, none, none], [.int (w.1 47 k), .int (nI (sm (fun x => cnt (F x) 10) k))], w) _
      rw [hF k hk]
      refine xQ.call rfl (c_lones) ?_
      show xQ ML_isForbidden (181, [some (.ref 0), some (.ref 45), some (.ref 47), some (.int (mk (v3 F (k + 1)))), some (.int (mk (v4 F (k + 1)))), some (.int (nI (sm (fun x => cnt (F x) 10) k))), some (.int (nI k)), none, none, none, none], [.int (nI (cnt (F k) 10)), .int (nI (sm (fun x => cnt (F x) 10) k))], w) _
      refine xQ.go 1 (F1 := (182, [some (.ref 0), some (.ref 45), some (.ref 47), some (.int (mk (v3 F (k + 1)))), some (.int (mk (v4 F (k + 1)))), some (.int (nI (sm (fun x => cnt (F x) 10) k))), some (.int (nI k)), none, none, none, none], [.int ((nI (sm (fun x => cnt (F x) 10) k)) + (nI (cnt (F k) 10)))], w)) rfl ?_
      rw [jI_add]
      show xQ ML_isForbidden (182, [some (.ref 0), some (.ref 45), some (.ref 47), some (.int (mk (v3 F (k + 1)))), some (.int (mk (v4 F (k + 1)))), some (.int (nI (sm (fun x => cnt (F x) 10) k))), some (.int (nI k)), none, none, none, none], [.int (nI (sm (fun x => cnt (F x) 10) (k + 1)))], w) _
      refine xQ.go 3 (F1 := (187, [some (.ref 0), some (.ref 45), some (.ref 47), some (.int (mk (v3 F (k + 1)))), some (.int (mk (v4 F (k + 1)))), some (.int (nI (sm (fun x => cnt (F x) 10) (k + 1)))), some (.int (nI k)), none, none, none, none], [.int (nI k), .ref 47], w)) rfl ?_
      refine xQ.iald rfl (k := k) (rfl) (⟨by omega, by omega⟩) rfl ?_
      show xQ ML_isForbidden (188, [some (.ref 0), some (.ref 45), some (.ref 47), some (.int (mk (v3 F (k + 1)))), some (.int (mk (v4 F (k + 1)))), some (.int (nI (sm (fun x => cnt (F x) 10) (k + 1)))), some (.int (nI k)), none, none, none, none], [.int (w.1 47 k)], w) _
      rw [hF k hk]
      refine xQ.call rfl (c_lones) ?_
      show xQ ML_isForbidden (191, [some (.ref 0), some (.ref 45), some (.ref 47), some (.int (mk (v3 F (k + 1)))), some (.int (mk (v4 F (k + 1)))), some (.int (nI (sm (fun x => cnt (F x) 10) (k + 1)))), some (.int (nI k)), none, none, none, none], [.int (nI (cnt (F k) 10))], w) _
      have hc := cnt_le (F k) 10
      refine xQ.go 2 (F1 := (bif !decide ((nI (cnt (F k) 10)) = 1) then 197 else 195, [some (.ref 0), some (.ref 45), some (.ref 47), some (.int (mk (v3 F (k + 1)))), some (.int (mk (v4 F (k + 1)))), some (.int (nI (sm (fun x => cnt (F x) 10) (k + 1)))), some (.int (nI k)), none, none, none, none], [], w)) rfl ?_
      refine xQ.brT (by rw [Bool.not_eq_true', decide_eq_false_iff_not]; exact fun z => h1 k (jI_inj (b := 1) (by omega) (by omega) z)) ?_
      refine xQ.go 2 (F1 := (123, [some (.ref 0), some (.ref 45), some (.ref 47), some (.int (mk (v3 F (k + 1)))), some (.int (mk (v4 F (k + 1)))), some (.int (nI (sm (fun x => cnt (F x) 10) (k + 1)))), some (.int ((nI k) + 1)), none, none, none, none], [], w)) rfl ?_
      rw [← nI_succ]
      exact K
    have g1 : xQ ML_isForbidden (146, [some (.ref 0), some (.ref 45), some (.ref 47), some (.int (mk (v3 F k))), some (.int (mk (v4 F k))), some (.int (nI (sm (fun x => cnt (F x) 10) k))), some (.int (nI k)), none, none, none, none], [.int (if 0 < cnt (F k) 10 then mk (fun u => decide (u = k)) else 0), .int (mk (v3 F k))], w) Q := by
      refine xQ.go 1 (F1 := (147, [some (.ref 0), some (.ref 45), some (.ref 47), some (.int (mk (v3 F k))), some (.int (mk (v4 F k))), some (.int (nI (sm (fun x => cnt (F x) 10) k))), some (.int (nI k)), none, none, none, none], [.int ((mk (v3 F k)) ||| (if 0 < cnt (F k) 10 then mk (fun u => decide (u = k)) else 0))], w)) rfl ?_
      rw [v3_s hk rfl]
      refine xQ.go 4 (F1 := (153, [some (.ref 0), some (.ref 45), some (.ref 47), some (.int (mk (v3 F (k + 1)))), some (.int (mk (v4 F k))), some (.int (nI (sm (fun x => cnt (F x) 10) k))), some (.int (nI k)), none, none, none, none], [.int (nI k), .ref 47, .int (mk (v4 F k))], w)) rfl ?_
      refine xQ.iald rfl (k := k) (rfl) (⟨by omega, by omega⟩) rfl ?_
      show xQ ML_isForbidden (154, [some (.ref 0), some (.ref 45), some (.ref 47), some (.int (mk (v3 F (k + 1)))), some (.int (mk (v4 F k))), some (.int (nI (sm (fun x => cnt (F x) 10) k))), some (.int (nI k)), none, none, none, none], [.int (w.1 47 k), .int (mk (v4 F k))], w) _
      rw [hF k hk]
      refine xQ.call rfl (c_lones) ?_
      show xQ ML_isForbidden (157, [some (.ref 0), some (.ref 45), some (.ref 47), some (.int (mk (v3 F (k + 1)))), some (.int (mk (v4 F k))), some (.int (nI (sm (fun x => cnt (F x) 10) k))), some (.int (nI k)), none, none, none, none], [.int (nI (cnt (F k) 10)), .int (mk (v4 F k))], w) _
      have hc := cnt_le (F k) 10
      refine xQ.go 2 (F1 := (bif decide ((nI (cnt (F k) 10)) ≤ 2) then 168 else 161, [some (.ref 0), some (.ref 45), some (.ref 47), some (.int (mk (v3 F (k + 1)))), some (.int (mk (v4 F k))), some (.int (nI (sm (fun x => cnt (F x) 10) k))), some (.int (nI k)), none, none, none, none], [.int (mk (v4 F k))], w)) rfl ?_
      by_cases e : 2 < cnt (F k) 10
      · refine xQ.brF (by rw [show (2 : Int32) = nI 2 from rfl, nI_decle (by omega) (by omega)]; exact decide_eq_false (by omega)) ?_
        refine xQ.go 3 (F1 := (165, [some (.ref 0), some (.ref 45), some (.ref 47), some (.int (mk (v3 F (k + 1)))), some (.int (mk (v4 F k))), some (.int (nI (sm (fun x => cnt (F x) 10) k))), some (.int (nI k)), none, none, none, none], [.int (1 <<< ((nI k) &&& 31)), .int (mk (v4 F k))], w)) rfl ?_
        rw [mk_bit hk]
        refine xQ.go 1 (F1 := (169, [some (.ref 0), some (.ref 45), some (.ref 47), some (.int (mk (v3 F (k + 1)))), some (.int (mk (v4 F k))), some (.int (nI (sm (fun x => cnt (F x) 10) k))), some (.int (nI k)), none, none, none, none], [.int (mk (fun u => decide (u = k))), .int (mk (v4 F k))], w)) rfl ?_
        rw [if_pos e] at g2
        exact g2
      · refine xQ.brT (by rw [show (2 : Int32) = nI 2 from rfl, nI_decle (by omega) (by omega)]; exact decide_eq_true (by omega)) ?_
        refine xQ.go 1 (F1 := (169, [some (.ref 0), some (.ref 45), some (.ref 47), some (.int (mk (v3 F (k + 1)))), some (.int (mk (v4 F k))), some (.int (nI (sm (fun x => cnt (F x) 10) k))), some (.int (nI k)), none, none, none, none], [.int 0, .int (mk (v4 F k))], w)) rfl ?_
        rw [if_neg e] at g2
        exact g2
    refine xQ.go 3 (F1 := (bif decide (10 ≤ (nI k)) then 203 else 130, [some (.ref 0), some (.ref 45), some (.ref 47), some (.int (mk (v3 F k))), some (.int (mk (v4 F k))), some (.int (nI (sm (fun x => cnt (F x) 10) k))), some (.int (nI k)), none, none, none, none], [], w)) rfl ?_
    refine xQ.brF (decide_eq_false (nI_ge (b := 10) (by omega) (by omega))) ?_
    refine xQ.go 3 (F1 := (134, [some (.ref 0), some (.ref 45), some (.ref 47), some (.int (mk (v3 F k))), some (.int (mk (v4 F k))), some (.int (nI (sm (fun x => cnt (F x) 10) k))), some (.int (nI k)), none, none, none, none], [.int (nI k), .ref 47, .int (mk (v3 F k))], w)) rfl ?_
    refine xQ.iald rfl (k := k) (rfl) (⟨by omega, by omega⟩) rfl ?_
    show xQ ML_isForbidden (135, [some (.ref 0), some (.ref 45), some (.ref 47), some (.int (mk (v3 F k))), some (.int (mk (v4 F k))), some (.int (nI (sm (fun x => cnt (F x) 10) k))), some (.int (nI k)), none, none, none, none], [.int (w.1 47 k), .int (mk (v3 F k))], w) _
    rw [hF k hk]
    refine xQ.go 1 (F1 := (bif decide ((mk (F k)) = 0) then 145 else 138, [some (.ref 0), some (.ref 45), some (.ref 47), some (.int (mk (v3 F k))), some (.int (mk (v4 F k))), some (.int (nI (sm (fun x => cnt (F x) 10) k))), some (.int (nI k)), none, none, none, none], [.int (mk (v3 F k))], w)) rfl ?_
    by_cases e : 0 < cnt (F k) 10
    · refine xQ.brF (decide_eq_false (fun z => by have := cnt_zero.mp z; omega)) ?_
      refine xQ.go 3 (F1 := (142, [some (.ref 0), some (.ref 45), some (.ref 47), some (.int (mk (v3 F k))), some (.int (mk (v4 F k))), some (.int (nI (sm (fun x => cnt (F x) 10) k))), some (.int (nI k)), none, none, none, none], [.int (1 <<< ((nI k) &&& 31)), .int (mk (v3 F k))], w)) rfl ?_
      rw [mk_bit hk]
      refine xQ.go 1 (F1 := (146, [some (.ref 0), some (.ref 45), some (.ref 47), some (.int (mk (v3 F k))), some (.int (mk (v4 F k))), some (.int (nI (sm (fun x => cnt (F x) 10) k))), some (.int (nI k)), none, none, none, none], [.int (mk (fun u => decide (u = k))), .int (mk (v3 F k))], w)) rfl ?_
      rw [if_pos e] at g1
      exact g1
    · refine xQ.brT (decide_eq_true (cnt_zero.mpr (by omega))) ?_
      refine xQ.go 1 (F1 := (146, [some (.ref 0), some (.ref 45), some (.ref 47), some (.int (mk (v3 F k))), some (.int (mk (v4 F k))), some (.int (nI (sm (fun x => cnt (F x) 10) k))), some (.int (nI k)), none, none, none, none], [.int 0, .int (mk (v3 F k))], w)) rfl ?_
      rw [if_neg e] at g1
      exact g1
  · intro u0 hI
    refine xQ.go 3 (F1 := (bif decide (10 ≤ (nI 10)) then 203 else 130, [some (.ref 0), some (.ref 45), some (.ref 47), some (.int (mk (v3 F 10))), some (.int (mk (v4 F 10))), some (.int (nI (sm (fun x => cnt (F x) 10) 10))), some (.int (nI 10)), none, none, none, none], [], w)) rfl ?_
    refine xQ.brT (rfl) ?_
    refine xQ.less [some (.ref 0), some (.ref 45), some (.ref 47), some (.int (mk (v3 F 10))), some (.int (mk (v4 F 10))), some (.int (nI (sm (fun x => cnt (F x) 10) 10))), none, none, none, none, none] (by simp [xleb]) ?_
    exact K0
