/-! EditText.scan -/
theorem tX_kq {w w1 : xW} {T : List Nat} {L : xCS} (h : tX w T) (k : xkq L w w1) (h1 : cin L 7 1 = false) (h8 : cno L [8] = true) : tX w1 T := ⟨(k 7 1 h1).1.trans h.1, h.2.1, fun i x hi => (k 8 i (cno_at h8 (by simp) i)).1.trans (h.2.2 i x hi)⟩
theorem scn_bad {T : List Nat} {k s : Nat} (h : foL (tch T s) = [] ∨ rgt T s < (foL (tch T s)).length) : scn T (k + 1) s = (nI (s + rgt T s), []) := by rw [scn, if_pos h]
theorem scn_end {T : List Nat} {k s : Nat} (h : ¬ (foL (tch T s) = [] ∨ rgt T s < (foL (tch T s)).length)) (h2 : T.length ≤ s + rgt T s) : scn T (k + 1) s = (-5, [(s, s + rgt T s)]) := by rw [scn, if_neg h, if_pos h2]
theorem scn_next {T : List Nat} {k s : Nat} (h : ¬ (foL (tch T s) = [] ∨ rgt T s < (foL (tch T s)).length)) (h2 : ¬ T.length ≤ s + rgt T s) (h3 : tch T (s + rgt T s) = 59) : scn T (k + 1) s = ((scn T k (s + rgt T s + 1)).1, (s, s + rgt T s) :: (scn T k (s + rgt T s + 1)).2) := by rw [scn, if_neg h, if_neg h2, if_pos h3]
theorem scn_sep {T : List Nat} {k s : Nat} (h : ¬ (foL (tch T s) = [] ∨ rgt T s < (foL (tch T s)).length)) (h2 : ¬ T.length ≤ s + rgt T s) (h3 : ¬ tch T (s + rgt T s) = 59) : scn T (k + 1) s = (nI (s + rgt T s), [(s, s + rgt T s)]) := by rw [scn, if_neg h, if_neg h2, if_neg h3]
theorem rgt_le (T : List Nat) (s : Nat) : rgt T s ≤ (foL (tch T s)).length := by
  have := (ffl_spec (okA T s (foL (tch T s))) (foL (tch T s)).length 0).2.1
  unfold rgt
  omega
theorem rgt_ok {T : List Nat} {s : Nat} (h : ¬ (foL (tch T s) = [] ∨ rgt T s < (foL (tch T s)).length)) : (tch T s = 97 ∨ tch T s = 100 ∨ tch T s = 102) ∧ 7 ≤ rgt T s ∧ s + rgt T s ≤ T.length ∧ (∃ a b, a < 10 ∧ b < 10 ∧ a ≠ b ∧ tch T (s + rgt T s - 3) = 48 + a ∧ tch T (s + rgt T s - 1) = 48 + b) := by
  have h1 := rgt_le T s
  refine rgt_full (fun e => h (Or.inl e)) ?_
  have : ¬ rgt T s < (foL (tch T s)).length := fun e => h (Or.inr e)
  omega
theorem c_scan {w : xW} {T : List Nat} (h : tX w T) : xD MX0_scan [.ref 7] w (fun r w1 => r = some (.int (scn T 11 0).1) ∧ (∀ i p, (scn T 11 0).2[i]? = some p → w1.1 9 i = nI p.1 ∧ w1.1 10 i = nI p.2) ∧ w1.1 7 4 = nI (scn T 11 0).2.length ∧ (scn T 11 0).2.length ≤ 10 ∧ xkq [(7, some 4), (9, none), (10, none)] w w1) := by
  have h80 := h.2.1.1
  refine xD.of ?_
  show xQ MX0_scan (0, [some (.ref 7), none, none, none, none, none], [], w) _
  refine xQ.go 7 (F1 := (9, [some (.ref 7), some (.int 0), some (.int 0), none, none, none], [], (xuI w 7 4 0))) rfl ?_
  refine xQ.loop (S := xW × Nat × List xPr) (fun k s => (9, [some (.ref 7), some (.int (nI s.2.1)), some (.int (nI k)), none, none, none], [], s.1)) (fun k s => scn T 11 0 = ((scn T (11 - k) s.2.1).1, s.2.2 ++ (scn T (11 - k) s.2.1).2) ∧ s.2.2.length = k ∧ 8 * k ≤ s.2.1 ∧ s.2.1 ≤ 80 ∧ (∀ i p, s.2.2[i]? = some p → s.1.1 9 i = nI p.1 ∧ s.1.1 10 i = nI p.2) ∧ s.1.1 7 4 = nI k ∧ xkq [(7, some 4), (9, none), (10, none)] w s.1) 11 ((xuI w 7 4 0), 0, []) (rfl) (⟨by simp, rfl, Nat.le_refl _, Nat.zero_le _, (fun i p hi => by cases hi), by simp [uI1]; rfl, xkq_I xkq_rfl rfl⟩) ?_ ?_
  · intro k s hk hI K
    obtain ⟨t, st, L⟩ := s
    obtain ⟨i1, i2, i3, i4, i5, i6, i7⟩ := hI
    simp only at i1 i2 i3 i4 i5 i6 i7 ⊢
    rw [show 11 - k = (10 - k) + 1 by omega] at i1
    have hT := tX_kq h i7 rfl rfl
    have hA := foA_L (tch T st)
    have hge := foA_ge (tch T st)
    have hrl := rgt_le T st
    have hfc := foL_cases (tch T st)
    have hl8 : (foL (tch T st)).length ≤ 8 := by
      rcases hfc with ⟨_, _, _, e⟩ | ⟨_, _, e, _⟩
      · rw [e]; decide
      · exact e
    show xQ MX0_scan (9, [some (.ref 7), some (.int (nI st)), some (.int (nI k)), none, none, none], [], t) _
    refine xQ.go 3 (F1 := (bif decide (10 < (nI k)) then 126 else 15, [some (.ref 7), some (.int (nI st)), some (.int (nI k)), none, none, none], [], t)) rfl ?_
    refine xQ.brF (by rw [show (10 : Int32) = nI 10 from rfl, nI_declt (by omega) (by omega)]; exact decide_eq_false (by omega)) ?_
    refine xQ.go 2 (F1 := (17, [some (.ref 7), some (.int (nI st)), some (.int (nI k)), none, none, none], [.int (nI st), .ref 7], t)) rfl ?_
    refine xQ.call rfl (c_formAt hT (by omega)) ?_
    show xQ MX0_scan (20, [some (.ref 7), some (.int (nI st)), some (.int (nI k)), none, none, none], [.ref (foA (tch T st))], t) _
    refine xQ.go 4 (F1 := (24, [some (.ref 7), some (.int (nI st)), some (.int (nI k)), some (.ref (foA (tch T st))), none, none], [.ref (foA (tch T st)), .int (nI st), .ref 7], t)) rfl ?_
    refine xQ.call rfl (c_right hT (by omega)) ?_
    show xQ MX0_scan (27, [some (.ref 7), some (.int (nI st)), some (.int (nI k)), some (.ref (foA (tch T st))), none, none], [.int (nI (rgt T st))], t) _
    refine xQ.go 5 (F1 := (35, [some (.ref 7), some (.int (nI st)), some (.int (nI k)), some (.ref (foA (tch T st))), some (.int (nI (rgt T st))), some (.int ((nI st) + (nI (rgt T st))))], [], t)) rfl ?_
    rw [jI_add]
    have fail : (foL (tch T st) = [] ∨ rgt T st < (foL (tch T st)).length) → xQ MX0_scan (51, [some (.ref 7), some (.int (nI st)), some (.int (nI k)), some (.ref (foA (tch T st))), some (.int (nI (rgt T st))), some (.int (nI (st + rgt T st)))], [], t) (fun r w1 => r = some (.int (scn T 11 0).1) ∧ (∀ i p, (scn T 11 0).2[i]? = some p → w1.1 9 i = nI p.1 ∧ w1.1 10 i = nI p.2) ∧ w1.1 7 4 = nI (scn T 11 0).2.length ∧ (scn T 11 0).2.length ≤ 10 ∧ xkq [(7, some 4), (9, none), (10, none)] w w1) := by
      intro hf
      rw [scn_bad hf, List.append_nil] at i1
      refine xQ.go 1 (F1 := (53, [some (.ref 7), some (.int (nI st)), some (.int (nI k)), some (.ref (foA (tch T st))), some (.int (nI (rgt T st))), some (.int (nI (st + rgt T st)))], [.int (nI (st + rgt T st))], t)) rfl ?_
      refine xQ.iret .int 1 rfl rfl (rfl) ?_
      rw [i1]
      exact ⟨rfl, i5, by rw [i6, i2], by simp only; omega, i7⟩
    refine xQ.go 1 (F1 := (36, [some (.ref 7), some (.int (nI st)), some (.int (nI k)), some (.ref (foA (tch T st))), some (.int (nI (rgt T st))), some (.int (nI (st + rgt T st)))], [.ref (foA (tch T st))], t)) rfl ?_
    refine xQ.semp rfl rfl hA hge rfl ?_
    show xQ MX0_scan (39, [some (.ref 7), some (.int (nI st)), some (.int (nI k)), some (.ref (foA (tch T st))), some (.int (nI (rgt T st))), some (.int (nI (st + rgt T st)))], [.int (if (foL (tch T st)).length = 0 then 1 else 0)], t) _
    refine xQ.go 1 (F1 := (bif !decide ((if (foL (tch T st)).length = 0 then 1 else 0) = 0) then 51 else 42, [some (.ref 7), some (.int (nI st)), some (.int (nI k)), some (.ref (foA (tch T st))), some (.int (nI (rgt T st))), some (.int (nI (st + rgt T st)))], [], t)) rfl ?_
    by_cases e0 : (foL (tch T st)).length = 0
    · refine xQ.brT (by rw [if_pos e0]; rfl) ?_
      exact fail (Or.inl (List.length_eq_zero_iff.mp e0))
    · refine xQ.brF (by rw [if_neg e0]; rfl) ?_
      refine xQ.go 2 (F1 := (45, [some (.ref 7), some (.int (nI st)), some (.int (nI k)), some (.ref (foA (tch T st))), some (.int (nI (rgt T st))), some (.int (nI (st + rgt T st)))], [.ref (foA (tch T st)), .int (nI (rgt T st))], t)) rfl ?_
      refine xQ.slen rfl rfl hA hge rfl ?_
      show xQ MX0_scan (48, [some (.ref 7), some (.int (nI st)), some (.int (nI k)), some (.ref (foA (tch T st))), some (.int (nI (rgt T st))), some (.int (nI (st + rgt T st)))], [.int (nI (foL (tch T st)).length), .int (nI (rgt T st))], t) _
      refine xQ.go 1 (F1 := (bif decide ((nI (foL (tch T st)).length) ≤ (nI (rgt T st))) then 54 else 51, [some (.ref 7), some (.int (nI st)), some (.int (nI k)), some (.ref (foA (tch T st))), some (.int (nI (rgt T st))), some (.int (nI (st + rgt T st)))], [], t)) rfl ?_
      rw [nI_decle (by omega) (by omega)]
      by_cases e1 : (foL (tch T st)).length ≤ rgt T st
      · refine xQ.brT (decide_eq_true e1) ?_
        have hno : ¬ (foL (tch T st) = [] ∨ rgt T st < (foL (tch T st)).length) := by
          rintro (e | e)
          · exact e0 (by rw [e]; rfl)
          · omega
        obtain ⟨_, r2, r3, _⟩ := rgt_ok hno
        refine xQ.go 5 (F1 := (63, [some (.ref 7), some (.int (nI st)), some (.int (nI k)), some (.ref (foA (tch T st))), some (.int (nI (rgt T st))), some (.int (nI (st + rgt T st)))], [.int (nI st), .int (t.1 7 4), .ref 9], t)) rfl ?_
        rw [i6]
        refine xQ.call rfl (c_put rfl (show k < 10 by omega) (by omega)) ?_
        show xQ MX0_scan (66, [some (.ref 7), some (.int (nI st)), some (.int (nI k)), some (.ref (foA (tch T st))), some (.int (nI (rgt T st))), some (.int (nI (st + rgt T st)))], [], (xuI t 9 k (nI st))) _
        refine xQ.go 5 (F1 := (76, [some (.ref 7), some (.int (nI st)), some (.int (nI k)), some (.ref (foA (tch T st))), some (.int (nI (rgt T st))), some (.int (nI (st + rgt T st)))], [.int (nI (st + rgt T st)), .int ((xuI t 9 k (nI st)).1 7 4), .ref 10], (xuI t 9 k (nI st)))) rfl ?_
        rw [show (xuI t 9 k (nI st)).1 7 4 = nI k by simp [uI1, i6]]
        refine xQ.call rfl (c_put rfl (show k < 10 by omega) (by omega)) ?_
        show xQ MX0_scan (79, [some (.ref 7), some (.int (nI st)), some (.int (nI k)), some (.ref (foA (tch T st))), some (.int (nI (rgt T st))), some (.int (nI (st + rgt T st)))], [], (xuI (xuI t 9 k (nI st)) 10 k (nI (st + rgt T st)))) _
        refine xQ.go 5 (F1 := (86, [some (.ref 7), some (.int (nI st)), some (.int (nI k)), some (.ref (foA (tch T st))), some (.int (nI (rgt T st))), some (.int (nI (st + rgt T st)))], [.int (((xuI (xuI t 9 k (nI st)) 10 k (nI (st + rgt T st))).1 7 4) + 1), .ref 7], (xuI (xuI t 9 k (nI st)) 10 k (nI (st + rgt T st))))) rfl ?_
        rw [show (xuI (xuI t 9 k (nI st)) 10 k (nI (st + rgt T st))).1 7 4 = nI k by simp [uI1, i6], ← nI_succ]
        refine xQ.go 1 (F1 := (89, [some (.ref 7), some (.int (nI st)), some (.int (nI k)), some (.ref (foA (tch T st))), some (.int (nI (rgt T st))), some (.int (nI (st + rgt T st)))], [], (xuI (xuI (xuI t 9 k (nI st)) 10 k (nI (st + rgt T st))) 7 4 (nI (k + 1))))) rfl ?_
        obtain ⟨t2, ht2⟩ : ∃ t2, t2 = (xuI (xuI (xuI t 9 k (nI st)) 10 k (nI (st + rgt T st))) 7 4 (nI (k + 1))) := ⟨_, rfl⟩
        rw [← ht2]
        have k2 : xkq [(7, some 4), (9, none), (10, none)] w t2 := by rw [ht2]; exact xkq_I (xkq_I (xkq_I i7 rfl) rfl) rfl
        have c4 : t2.1 7 4 = nI (k + 1) := by rw [ht2]; simp [uI1]
        have cL : ∀ i p, (L ++ [(st, st + rgt T st)])[i]? = some p → t2.1 9 i = nI p.1 ∧ t2.1 10 i = nI p.2 := fun i p hi => by
          by_cases e : i = k
          · have : (L ++ [(st, st + rgt T st)])[k]? = some (st, st + rgt T st) := by rw [← i2]; simp
            rw [e, this] at hi
            cases hi
            rw [ht2, e]
            simp [uI1]
          · have hlen := (List.getElem?_eq_some_iff.mp hi).1
            rw [List.length_append] at hlen
            simp only [List.length_cons, List.length_nil] at hlen
            rw [List.getElem?_append_left (by omega)] at hi
            rw [ht2]
            simpa [uI1, e] using i5 i p hi
        have hT2 := tX_kq h k2 rfl rfl
        refine xQ.go 4 (F1 := (bif decide ((nI (st + rgt T st)) < (t2.1 7 1)) then 101 else 98, [some (.ref 7), some (.int (nI st)), some (.int (nI k)), some (.ref (foA (tch T st))), some (.int (nI (rgt T st))), some (.int (nI (st + rgt T st)))], [], t2)) rfl ?_
        rw [hT2.1, nI_declt (by omega) (by omega)]
        by_cases e2 : st + rgt T st < T.length
        · refine xQ.brT (decide_eq_true e2) ?_
          refine xQ.go 2 (F1 := (104, [some (.ref 7), some (.int (nI st)), some (.int (nI k)), some (.ref (foA (tch T st))), some (.int (nI (rgt T st))), some (.int (nI (st + rgt T st)))], [.int (nI (st + rgt T st)), .ref 7], t2)) rfl ?_
          refine xQ.call rfl (c_sign hT2 (by omega)) ?_
          show xQ MX0_scan (107, [some (.ref 7), some (.int (nI st)), some (.int (nI k)), some (.ref (foA (tch T st))), some (.int (nI (rgt T st))), some (.int (nI (st + rgt T st)))], [.int (nI (tch T (st + rgt T st)))], t2) _
          have hle := tch_le h.2.1 (st + rgt T st)
          refine xQ.go 2 (F1 := (bif decide ((nI (tch T (st + rgt T st))) = 59) then 115 else 112, [some (.ref 7), some (.int (nI st)), some (.int (nI k)), some (.ref (foA (tch T st))), some (.int (nI (rgt T st))), some (.int (nI (st + rgt T st)))], [], t2)) rfl ?_
          rw [show (59 : Int32) = nI 59 from rfl, nI_dec (by omega) (by omega)]
          by_cases e3 : tch T (st + rgt T st) = 59
          · refine xQ.brT (decide_eq_true e3) ?_
            rw [scn_next hno (by omega) e3] at i1
            refine xQ.go 6 (F1 := (9, [some (.ref 7), some (.int ((nI (st + rgt T st)) + 1)), some (.int ((nI k) + 1)), some (.ref (foA (tch T st))), some (.int (nI (rgt T st))), some (.int (nI (st + rgt T st)))], [], t2)) rfl ?_
            refine xQ.less [some (.ref 7), some (.int ((nI (st + rgt T st)) + 1)), some (.int ((nI k) + 1)), none, none, none] (by simp [xleb]) ?_
            rw [← nI_succ, ← nI_succ]
            refine K (t2, st + rgt T st + 1, L ++ [(st, st + rgt T st)]) ⟨?_, by simp [i2], by simp only; omega, by simp only; omega, cL, c4, k2⟩
            rw [i1, show 11 - (k + 1) = 10 - k by omega]
            simp
          · refine xQ.brF (decide_eq_false e3) ?_
            rw [scn_sep hno (by omega) e3] at i1
            refine xQ.go 1 (F1 := (114, [some (.ref 7), some (.int (nI st)), some (.int (nI k)), some (.ref (foA (tch T st))), some (.int (nI (rgt T st))), some (.int (nI (st + rgt T st)))], [.int (nI (st + rgt T st))], t2)) rfl ?_
            refine xQ.iret .int 1 rfl rfl (rfl) ?_
            rw [i1]
            exact ⟨rfl, cL, by rw [c4]; simp [i2], by simp; omega, k2⟩
        · refine xQ.brF (decide_eq_false e2) ?_
          rw [scn_end hno (by omega)] at i1
          refine xQ.go 1 (F1 := (100, [some (.ref 7), some (.int (nI st)), some (.int (nI k)), some (.ref (foA (tch T st))), some (.int (nI (rgt T st))), some (.int (nI (st + rgt T st)))], [.int (-5)], t2)) rfl ?_
          refine xQ.iret .int 1 rfl rfl (rfl) ?_
          rw [i1]
          exact ⟨rfl, cL, by rw [c4]; simp [i2], by simp; omega, k2⟩
      · refine xQ.brF (decide_eq_false e1) ?_
        exact fail (Or.inr (by omega))
  · intro s hI
    obtain ⟨t, st, L⟩ := s
    obtain ⟨i1, i2, i3, i4, i5, i6, i7⟩ := hI
    simp only at i3 i4
    omega
/-! the edits -/
theorem c_kind {w : xW} {T : List Nat} {i s : Nat} (h : tX w T) (hi : i < 10) (h9 : w.1 9 i = nI s) (hs : s < T.length) : xC MX0_kindOf [.ref 7, .int (nI i)] w (some (.int (nI (tch T s)))) w := by
  have hle := tch_le h.2.1 s
  have h80 := h.2.1.1
  have ht : T[s]? = some (tch T s) := by
    unfold tch
    rw [List.getD_eq_getElem?_getD, List.getElem?_eq_getElem hs]
    rfl
  have e1 : ∀ c, c < 127 → ((nI c).toUInt32 % 65536).toInt32 = nI c ∧ narrow .char (.int (nI c)) = .int (nI c) := by
    intro c hc
    have a : ∀ c, c < 127 → ((nI c).toUInt32 % 65536).toInt32 = nI c := by decide +kernel
    have b : ∀ c, c < 127 → narrow .char (.int (nI c)) = .int (nI c) := by decide +kernel
    exact ⟨a c hc, b c hc⟩
  unfold xC
  show xE MX0_kindOf (0, [some (.ref 7), some (.int (nI i))], [], w) _ _
  refine xE.go 5 (F1 := (9, [some (.ref 7), some (.int (nI i))], [.int (nI i), .ref 9, .ref 8], w)) rfl ?_
  refine xE.call rfl (c_at rfl hi (by omega)) ?_
  show xE MX0_kindOf (12, [some (.ref 7), some (.int (nI i))], [.int (w.1 9 i), .ref 8], w) _ _
  rw [h9]
  refine xE.call rfl (c_at rfl (show s < 80 by omega) (by omega)) ?_
  show xE MX0_kindOf (15, [some (.ref 7), some (.int (nI i))], [.int (w.1 8 s)], w) _ _
  refine xE.go 1 (F1 := (16, [some (.ref 7), some (.int (nI i))], [.int (((w.1 8 s).toUInt32 % 65536).toInt32)], w)) rfl ?_
  rw [h.2.2 s _ ht, (e1 _ (by omega)).1]
  exact xE.iret .char 1 rfl rfl ((e1 _ (by omega)).2)
theorem c_first {w : xW} {T : List Nat} {i e a : Nat} (h : tX w T) (hi : i < 10) (h9 : w.1 10 i = nI e) (he : 7 ≤ e ∧ e ≤ T.length) (ha : tch T (e - 3) = 48 + a) : xC MX0_firstOf [.ref 7, .int (nI i)] w (some (.int (nI a))) w := by
  have h80 := h.2.1.1
  have ht : T[e - 3]? = some (tch T (e - 3)) := by
    unfold tch
    rw [List.getD_eq_getElem?_getD, List.getElem?_eq_getElem (show e - 3 < T.length by omega)]
    rfl
  unfold xC
  show xE MX0_firstOf (0, [some (.ref 7), some (.int (nI i))], [], w) _ _
  refine xE.go 5 (F1 := (9, [some (.ref 7), some (.int (nI i))], [.int (nI i), .ref 10, .ref 8], w)) rfl ?_
  refine xE.call rfl (c_at rfl hi (by omega)) ?_
  show xE MX0_firstOf (12, [some (.ref 7), some (.int (nI i))], [.int (w.1 10 i), .ref 8], w) _ _
  refine xE.go 2 (F1 := (14, [some (.ref 7), some (.int (nI i))], [.int ((w.1 10 i) - 3), .ref 8], w)) rfl ?_
  rw [h9, show (nI e - 3 : Int32) = nI (e - 3) from jI_sub (b := 3) (by omega)]
  refine xE.call rfl (c_at rfl (show e - 3 < 80 by omega) (by omega)) ?_
  show xE MX0_firstOf (17, [some (.ref 7), some (.int (nI i))], [.int (w.1 8 (e - 3))], w) _ _
  refine xE.go 2 (F1 := (20, [some (.ref 7), some (.int (nI i))], [.int ((w.1 8 (e - 3)) - 48)], w)) rfl ?_
  rw [h.2.2 _ _ ht, ha, show (nI (48 + a) - 48 : Int32) = nI a by rw [show (48 : Int32) = nI 48 from rfl, jI_sub (by omega)]; congr 1; omega]
  exact xE.iret .int 1 rfl rfl (rfl)
theorem c_second {w : xW} {T : List Nat} {i e a : Nat} (h : tX w T) (hi : i < 10) (h9 : w.1 10 i = nI e) (he : 7 ≤ e ∧ e ≤ T.length) (ha : tch T (e - 1) = 48 + a) : xC MX0_secondOf [.ref 7, .int (nI i)] w (some (.int (nI a))) w := by
  have h80 := h.2.1.1
  have ht : T[e - 1]? = some (tch T (e - 1)) := by
    unfold tch
    rw [List.getD_eq_getElem?_getD, List.getElem?_eq_getElem (show e - 1 < T.length by omega)]
    rfl
  unfold xC
  show xE MX0_secondOf (0, [some (.ref 7), some (.int (nI i))], [], w) _ _
  refine xE.go 5 (F1 := (9, [some (.ref 7), some (.int (nI i))], [.int (nI i), .ref 10, .ref 8], w)) rfl ?_
  refine xE.call rfl (c_at rfl hi (by omega)) ?_
  show xE MX0_secondOf (12, [some (.ref 7), some (.int (nI i))], [.int (w.1 10 i), .ref 8], w) _ _
  refine xE.go 2 (F1 := (14, [some (.ref 7), some (.int (nI i))], [.int ((w.1 10 i) - 1), .ref 8], w)) rfl ?_
  rw [h9, show (nI e - 1 : Int32) = nI (e - 1) from jI_sub (b := 1) (by omega)]
  refine xE.call rfl (c_at rfl (show e - 1 < 80 by omega) (by omega)) ?_
  show xE MX0_secondOf (17, [some (.ref 7), some (.int (nI i))], [.int (w.1 8 (e - 1))], w) _ _
  refine xE.go 2 (F1 := (20, [some (.ref 7), some (.int (nI i))], [.int ((w.1 8 (e - 1)) - 48)], w)) rfl ?_
  rw [h.2.2 _ _ ht, ha, show (nI (48 + a) - 48 : Int32) = nI a by rw [show (48 : Int32) = nI 48 from rfl, jI_sub (by omega)]; congr 1; omega]
  exact xE.iret .int 1 rfl rfl (rfl)
