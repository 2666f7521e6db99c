/-! the reference: the text -/
theorem ffl_t {p : Nat → Bool} {n i : Nat} (h : p i = true) : ffl p (n + 1) i = ffl p n (i + 1) := by rw [ffl, if_pos h]
theorem ffl_f {p : Nat → Bool} {n i : Nat} (h : p i = false) : ffl p (n + 1) i = i := by rw [ffl, if_neg (by rw [h]; decide)]
theorem m_nextC {w : xW} {T : List Nat} {s : Nat} (hT : mT w T) (ha : w.1 45 7 = nI s) (hs : s < 1000) : xC MX8_nextCharacter [.ref 45] w (some (.int (nI (tch T s)))) w := by
  have h80 := hT.2.1.1
  unfold xC
  show xE MX8_nextCharacter (0, [some (.ref 45)], [], w) _ _
  refine xE.go 5 (F1 := (bif decide ((w.1 45 6) ≤ (w.1 45 7)) then 23 else 11, [some (.ref 45)], [], w)) rfl ?_
  rw [ha, hT.1, nI_decle (by omega) (by omega)]
  by_cases e : T.length ≤ s
  · refine xE.brT (decide_eq_true e) ?_
    rw [tch_out e]
    refine xE.go 1 (F1 := (24, [some (.ref 45)], [.int 0], w)) rfl ?_
    exact xE.iret .int 1 rfl rfl (rfl)
  · refine xE.brF (decide_eq_false e) ?_
    refine xE.go 4 (F1 := (19, [some (.ref 45)], [.int (w.1 45 7), .ref 49], w)) rfl ?_
    rw [ha]
    refine xE.iald rfl (k := s) (rfl) (⟨by omega, by omega⟩) rfl ?_
    show xE MX8_nextCharacter (20, [some (.ref 45)], [.int (w.1 49 s)], w) _ _
    rw [hT.2.2 s _ (getD_of (show s < T.length by omega) 0)]
    refine xE.go 1 (F1 := (24, [some (.ref 45)], [.int (nI (tch T s))], w)) rfl ?_
    exact xE.iret .int 1 rfl rfl (rfl)
theorem m_takes {w : xW} {T : List Nat} {s c : Nat} {x : Int32} (hT : mT w T) (ha : w.1 45 7 = nI s) (hs : s < 1000) (hc : c < 128) (hx : x = nI c) : xD MX8_takes [.ref 45, .int x] w (fun r w1 => ((tch T s = c ∧ r = some (.int 1) ∧ w1.1 45 7 = nI (s + 1)) ∨ (tch T s ≠ c ∧ r = some (.int 0) ∧ w1.1 45 7 = nI s)) ∧ xkq [(45, some 7)] w w1) := by
  have h126 := tch_le hT.2.1 s
  refine xD.of ?_
  show xQ MX8_takes (0, [some (.ref 45), some (.int x), none], [], w) _
  refine xQ.go 1 (F1 := (1, [some (.ref 45), some (.int x), none], [.ref 45], w)) rfl ?_
  refine xQ.call rfl (m_nextC hT ha hs) ?_
  show xQ MX8_takes (4, [some (.ref 45), some (.int x), none], [.int (nI (tch T s))], w) _
  refine xQ.go 2 (F1 := (bif !decide ((nI (tch T s)) = x) then 12 else 8, [some (.ref 45), some (.int x), none], [], w)) rfl ?_
  rw [hx, nI_dec (by omega) (by omega)]
  by_cases e : tch T s = c
  · refine xQ.brF (by rw [decide_eq_true e]; rfl) ?_
    rw [← hx]
    refine xQ.go 7 (F1 := (20, [some (.ref 45), some (.int x), some (.int 1)], [.int 1, .int (w.1 45 7), .ref 45], w)) rfl ?_
    refine xQ.go 1 (F1 := (bif decide (1 = 0) then 27 else 23, [some (.ref 45), some (.int x), some (.int 1)], [.int (w.1 45 7), .ref 45], w)) rfl ?_
    refine xQ.brF (rfl) ?_
    refine xQ.go 3 (F1 := (29, [some (.ref 45), some (.int x), some (.int 1)], [.int ((w.1 45 7) + 1), .ref 45], w)) rfl ?_
    rw [ha, ← nI_succ]
    refine xQ.go 2 (F1 := (33, [some (.ref 45), some (.int x), some (.int 1)], [.int 1], (xuI w 45 7 (nI (s + 1))))) rfl ?_
    refine xQ.iret .boolean 1 rfl rfl (rfl) ?_
    exact ⟨Or.inl ⟨e, rfl, by simp [uI1]⟩, xkq_I xkq_rfl rfl⟩
  · refine xQ.brT (by rw [decide_eq_false e]; rfl) ?_
    rw [← hx]
    refine xQ.go 6 (F1 := (20, [some (.ref 45), some (.int x), some (.int 0)], [.int 0, .int (w.1 45 7), .ref 45], w)) rfl ?_
    refine xQ.go 1 (F1 := (bif decide (0 = 0) then 27 else 23, [some (.ref 45), some (.int x), some (.int 0)], [.int (w.1 45 7), .ref 45], w)) rfl ?_
    refine xQ.brT (rfl) ?_
    refine xQ.go 2 (F1 := (29, [some (.ref 45), some (.int x), some (.int 0)], [.int ((w.1 45 7) + 0), .ref 45], w)) rfl ?_
    rw [ha, Int32.add_zero]
    refine xQ.go 2 (F1 := (33, [some (.ref 45), some (.int x), some (.int 0)], [.int 0], (xuI w 45 7 (nI s)))) rfl ?_
    refine xQ.iret .boolean 1 rfl rfl (rfl) ?_
    exact ⟨Or.inr ⟨e, rfl, by simp [uI1]⟩, xkq_I xkq_rfl rfl⟩
theorem mT_of {w w1 : xW} {T : List Nat} (h : mT w T) (k : xkq [(45, some 7), (45, some 8), (45, some 9), (45, some 10)] w w1) : mT w1 T := mT_kq h k
abbrev kR : xCS := [(45, some 7), (45, some 8), (45, some 9), (45, some 10)]
/-- what readsWord leaves -/
def wdP (w : xW) (T : List Nat) (s : Nat) (r : Option Value) (w1 : xW) : Prop := w1.1 45 8 = nI (tch T s) ∧ xkq kR w w1 ∧ ((∃ m, (foL (tch T s)).length = m + 4 ∧ m ≤ 4 ∧ (foL (tch T s)).getD m 0 = 32 ∧ (foL (tch T s)).getD (m + 1) 0 = 35 ∧ (foL (tch T s)).getD (m + 2) 0 = 45 ∧ (foL (tch T s)).getD (m + 3) 0 = 35 ∧ rgt T s = ffl (okA T s (foL (tch T s))) 4 m ∧ r = some (.int 1) ∧ w1.1 45 7 = nI (s + m)) ∨ ((foL (tch T s) = [] ∨ rgt T s < (foL (tch T s)).length) ∧ r = some (.int 0) ∧ w1.1 45 7 = nI (s + rgt T s)))
theorem lsw_word : ∀ c, c < 127 → ((((#[((97 : Int), (36 : Int)), (100, 69), (102, 111)] : Array (Int × Int)).toList.zip ((#[((97 : Int), (36 : Int)), (100, 69), (102, 111)] : Array (Int × Int)).toList.drop 1)).all (fun q => decide (q.1.1 < q.2.1)) && decide (0 ≤ ((12 : Nat) : Int) + Op.lookupswitch.offset (#[((97 : Int), (36 : Int)), (100, 69), (102, 111)] : Array (Int × Int)).toList 153 (nI c).toInt)) = true ∧ (((12 : Nat) : Int) + Op.lookupswitch.offset (#[((97 : Int), (36 : Int)), (100, 69), (102, 111)] : Array (Int × Int)).toList 153 (nI c).toInt).toNat = (if c = 97 then 48 else if c = 100 then 81 else if c = 102 then 123 else 165)) := by decide +kernel
theorem m_word {w : xW} {T : List Nat} {s : Nat} (hT : mT w T) (ha : w.1 45 7 = nI s) (hs : s < 100) : xD MX8_readsWord [.ref 45] w (wdP w T s) := by
  have h126 := tch_le hT.2.1 s
  refine xD.of ?_
  show xQ MX8_readsWord (0, [some (.ref 45)], [], w) _
  refine xQ.go 2 (F1 := (2, [some (.ref 45)], [.ref 45, .ref 45], w)) rfl ?_
  refine xQ.call rfl (m_nextC hT ha (by omega)) ?_
  show xQ MX8_readsWord (5, [some (.ref 45)], [.int (nI (tch T s)), .ref 45], w) _
  refine xQ.go 1 (F1 := (8, [some (.ref 45)], [], (xuI w 45 8 (nI (tch T s))))) rfl ?_
  obtain ⟨t0, e0⟩ : ∃ t0, t0 = xuI w 45 8 (nI (tch T s)) := ⟨_, rfl⟩
  rw [← e0]
  have a0 : t0.1 45 7 = nI (s + 0) := by rw [e0]; simpa [uI1] using ha
  have b0 : t0.1 45 8 = nI (tch T s) := by rw [e0]; simp [uI1]
  have k0 : xkq kR w t0 := by rw [e0]; exact xkq_I xkq_rfl rfl
  clear e0
  refine xQ.go 2 (F1 := (12, [some (.ref 45)], [.int (t0.1 45 8)], t0)) rfl ?_
  rw [b0]
  rcases foL_cases (tch T s) with ⟨h1, h2, h3, hno⟩ | ⟨hc, _⟩
  · refine xQ.lsw rfl 165 (by have g1 := lsw_word (tch T s) (by omega); rw [if_neg h1, if_neg h2, if_neg h3] at g1; exact g1) ?_
    show xQ MX8_readsWord (165, [some (.ref 45)], [], t0) _
    refine xQ.go 1 (F1 := (166, [some (.ref 45)], [.int 0], t0)) rfl ?_
    refine xQ.iret .boolean 1 rfl rfl (rfl) ?_
    exact ⟨b0, k0, Or.inr ⟨Or.inl hno, rfl, by rw [a0]; unfold rgt; rw [hno]; rfl⟩⟩
  · rcases hc with e | e | e
    · have ef : foL (tch T s) = [97, 100, 100, 32, 35, 45, 35] := by rw [e]; rfl
      refine xQ.lsw rfl 48 (by rw [e]; exact ⟨by decide +kernel, by decide +kernel⟩) ?_
      show xQ MX8_readsWord (48, [some (.ref 45)], [], t0) _
      have R0 : rgt T s = ffl (okA T s (foL (tch T s))) 7 0 := by unfold rgt; rw [show (foL (tch T s)).length = 7 by rw [ef]; rfl]
      have fail : ∀ (i : Nat) (t : xW), i < 7 → rgt T s = i → t.1 45 8 = nI (tch T s) → t.1 45 7 = nI (s + i) → xkq kR w t → xQ MX8_readsWord (79, [some (.ref 45)], [], t) (wdP w T s) := by
        intro i t hi hr h8 h7 hk
        refine xQ.go 1 (F1 := (80, [some (.ref 45)], [.int 0], t)) rfl ?_
        refine xQ.iret .boolean 1 rfl rfl (rfl) ?_
        exact ⟨h8, hk, Or.inr ⟨Or.inr (by rw [ef, hr]; exact hi), rfl, by rw [hr]; exact h7⟩⟩
      have q0 : okA T s (foL (tch T s)) 0 = decide (tch T (s + 0) = 97) := by unfold okA; rw [ef]; simp
      obtain ⟨r1, t1, hc1, o1, j1⟩ := m_takes (c := 97) (mT_of hT k0) a0 (by omega) (by omega) rfl
      have b1 : t1.1 45 8 = nI (tch T s) := (xkq_at j1 45 8).trans b0
      have k1 : xkq kR w t1 := xkq_trans k0 (xkq_mono rfl j1)
      rcases o1 with ⟨o1, hr1, a1⟩ | ⟨o1, hr1, a1⟩
      rotate_left
      · subst hr1
        refine xQ.go 2 (F1 := (51, [some (.ref 45)], [.int 97, .ref 45], t0)) rfl ?_
        refine xQ.call rfl (hc1) ?_
        show xQ MX8_readsWord (54, [some (.ref 45)], [.int 0], t1) _
        refine xQ.go 1 (F1 := (bif decide (0 = 0) then 79 else 57, [some (.ref 45)], [], t1)) rfl ?_
        refine xQ.brT (rfl) ?_
        exact fail 0 t1 (by omega) (R0.trans (ffl_f (by rw [q0]; exact decide_eq_false o1))) b1 a1 k1
      subst hr1
      refine xQ.go 2 (F1 := (51, [some (.ref 45)], [.int 97, .ref 45], t0)) rfl ?_
      refine xQ.call rfl (hc1) ?_
      show xQ MX8_readsWord (54, [some (.ref 45)], [.int 1], t1) _
      have R1 : rgt T s = ffl (okA T s (foL (tch T s))) 6 1 := R0.trans (ffl_t (by rw [q0]; exact decide_eq_true o1))
      refine xQ.go 1 (F1 := (bif decide (1 = 0) then 79 else 57, [some (.ref 45)], [], t1)) rfl ?_
      refine xQ.brF (rfl) ?_
      have q1 : okA T s (foL (tch T s)) 1 = decide (tch T (s + 1) = 100) := by unfold okA; rw [ef]; simp
      obtain ⟨r2, t2, hc2, o2, j2⟩ := m_takes (c := 100) (mT_of hT k1) a1 (by omega) (by omega) rfl
      have b2 : t2.1 45 8 = nI (tch T s) := (xkq_at j2 45 8).trans b1
      have k2 : xkq kR w t2 := xkq_trans k1 (xkq_mono rfl j2)
      rcases o2 with ⟨o2, hr2, a2⟩ | ⟨o2, hr2, a2⟩
      rotate_left
      · subst hr2
        refine xQ.go 2 (F1 := (60, [some (.ref 45)], [.int 100, .ref 45], t1)) rfl ?_
        refine xQ.call rfl (hc2) ?_
        show xQ MX8_readsWord (63, [some (.ref 45)], [.int 0], t2) _
        refine xQ.go 1 (F1 := (bif decide (0 = 0) then 79 else 66, [some (.ref 45)], [], t2)) rfl ?_
        refine xQ.brT (rfl) ?_
        exact fail 1 t2 (by omega) (R1.trans (ffl_f (by rw [q1]; exact decide_eq_false o2))) b2 a2 k2
      subst hr2
      refine xQ.go 2 (F1 := (60, [some (.ref 45)], [.int 100, .ref 45], t1)) rfl ?_
      refine xQ.call rfl (hc2) ?_
      show xQ MX8_readsWord (63, [some (.ref 45)], [.int 1], t2) _
      have R2 : rgt T s = ffl (okA T s (foL (tch T s))) 5 2 := R1.trans (ffl_t (by rw [q1]; exact decide_eq_true o2))
      refine xQ.go 1 (F1 := (bif decide (1 = 0) then 79 else 66, [some (.ref 45)], [], t2)) rfl ?_
      refine xQ.brF (rfl) ?_
      have q2 : okA T s (foL (tch T s)) 2 = decide (tch T (s + 2) = 100) := by unfold okA; rw [ef]; simp
      obtain ⟨r3, t3, hc3, o3, j3⟩ := m_takes (c := 100) (mT_of hT k2) a2 (by omega) (by omega) rfl
      have b3 : t3.1 45 8 = nI (tch T s) := (xkq_at j3 45 8).trans b2
      have k3 : xkq kR w t3 := xkq_trans k2 (xkq_mono rfl j3)
      rcases o3 with ⟨o3, hr3, a3⟩ | ⟨o3, hr3, a3⟩
      rotate_left
      · subst hr3
        refine xQ.go 2 (F1 := (69, [some (.ref 45)], [.int 100, .ref 45], t2)) rfl ?_
        refine xQ.call rfl (hc3) ?_
        show xQ MX8_readsWord (72, [some (.ref 45)], [.int 0], t3) _
        refine xQ.go 1 (F1 := (bif decide (0 = 0) then 79 else 75, [some (.ref 45)], [], t3)) rfl ?_
        refine xQ.brT (rfl) ?_
        exact fail 2 t3 (by omega) (R2.trans (ffl_f (by rw [q2]; exact decide_eq_false o3))) b3 a3 k3
      subst hr3
      refine xQ.go 2 (F1 := (69, [some (.ref 45)], [.int 100, .ref 45], t2)) rfl ?_
      refine xQ.call rfl (hc3) ?_
      show xQ MX8_readsWord (72, [some (.ref 45)], [.int 1], t3) _
      have R3 : rgt T s = ffl (okA T s (foL (tch T s))) 4 3 := R2.trans (ffl_t (by rw [q2]; exact decide_eq_true o3))
      refine xQ.go 1 (F1 := (bif decide (1 = 0) then 79 else 75, [some (.ref 45)], [], t3)) rfl ?_
      refine xQ.brF (rfl) ?_
      refine xQ.go 2 (F1 := (80, [some (.ref 45)], [.int 1], t3)) rfl ?_
      refine xQ.iret .boolean 1 rfl rfl (rfl) ?_
      exact ⟨b3, k3, Or.inl ⟨3, by rw [ef]; rfl, by omega, by rw [ef]; rfl, by rw [ef]; rfl, by rw [ef]; rfl, by rw [ef]; rfl, R3, rfl, a3⟩⟩
    · have ef : foL (tch T s) = [100, 114, 111, 112, 32, 35, 45, 35] := by rw [e]; rfl
      refine xQ.lsw rfl 81 (by rw [e]; exact ⟨by decide +kernel, by decide +kernel⟩) ?_
      show xQ MX8_readsWord (81, [some (.ref 45)], [], t0) _
      have R0 : rgt T s = ffl (okA T s (foL (tch T s))) 8 0 := by unfold rgt; rw [show (foL (tch T s)).length = 8 by rw [ef]; rfl]
      have fail : ∀ (i : Nat) (t : xW), i < 8 → rgt T s = i → t.1 45 8 = nI (tch T s) → t.1 45 7 = nI (s + i) → xkq kR w t → xQ MX8_readsWord (121, [some (.ref 45)], [], t) (wdP w T s) := by
        intro i t hi hr h8 h7 hk
        refine xQ.go 1 (F1 := (122, [some (.ref 45)], [.int 0], t)) rfl ?_
        refine xQ.iret .boolean 1 rfl rfl (rfl) ?_
        exact ⟨h8, hk, Or.inr ⟨Or.inr (by rw [ef, hr]; exact hi), rfl, by rw [hr]; exact h7⟩⟩
      have q0 : okA T s (foL (tch T s)) 0 = decide (tch T (s + 0) = 100) := by unfold okA; rw [ef]; simp
      obtain ⟨r1, t1, hc1, o1, j1⟩ := m_takes (c := 100) (mT_of hT k0) a0 (by omega) (by omega) rfl
      have b1 : t1.1 45 8 = nI (tch T s) := (xkq_at j1 45 8).trans b0
      have k1 : xkq kR w t1 := xkq_trans k0 (xkq_mono rfl j1)
      rcases o1 with ⟨o1, hr1, a1⟩ | ⟨o1, hr1, a1⟩
      rotate_left
      · subst hr1
        refine xQ.go 2 (F1 := (84, [some (.ref 45)], [.int 100, .ref 45], t0)) rfl ?_
        refine xQ.call rfl (hc1) ?_
        show xQ MX8_readsWord (87, [some (.ref 45)], [.int 0], t1) _
        refine xQ.go 1 (F1 := (bif decide (0 = 0) then 121 else 90, [some (.ref 45)], [], t1)) rfl ?_
        refine xQ.brT (rfl) ?_
        exact fail 0 t1 (by omega) (R0.trans (ffl_f (by rw [q0]; exact decide_eq_false o1))) b1 a1 k1
      subst hr1
      refine xQ.go 2 (F1 := (84, [some (.ref 45)], [.int 100, .ref 45], t0)) rfl ?_
      refine xQ.call rfl (hc1) ?_
      show xQ MX8_readsWord (87, [some (.ref 45)], [.int 1], t1) _
      have R1 : rgt T s = ffl (okA T s (foL (tch T s))) 7 1 := R0.trans (ffl_t (by rw [q0]; exact decide_eq_true o1))
      refine xQ.go 1 (F1 := (bif decide (1 = 0) then 121 else 90, [some (.ref 45)], [], t1)) rfl ?_
      refine xQ.brF (rfl) ?_
      have q1 : okA T s (foL (tch T s)) 1 = decide (tch T (s + 1) = 114) := by unfold okA; rw [ef]; simp
      obtain ⟨r2, t2, hc2, o2, j2⟩ := m_takes (c := 114) (mT_of hT k1) a1 (by omega) (by omega) rfl
      have b2 : t2.1 45 8 = nI (tch T s) := (xkq_at j2 45 8).trans b1
      have k2 : xkq kR w t2 := xkq_trans k1 (xkq_mono rfl j2)
      rcases o2 with ⟨o2, hr2, a2⟩ | ⟨o2, hr2, a2⟩
      rotate_left
      · subst hr2
        refine xQ.go 2 (F1 := (93, [some (.ref 45)], [.int 114, .ref 45], t1)) rfl ?_
        refine xQ.call rfl (hc2) ?_
        show xQ MX8_readsWord (96, [some (.ref 45)], [.int 0], t2) _
        refine xQ.go 1 (F1 := (bif decide (0 = 0) then 121 else 99, [some (.ref 45)], [], t2)) rfl ?_
        refine xQ.brT (rfl) ?_
        exact fail 1 t2 (by omega) (R1.trans (ffl_f (by rw [q1]; exact decide_eq_false o2))) b2 a2 k2
      subst hr2
      refine xQ.go 2 (F1 := (93, [some (.ref 45)], [.int 114, .ref 45], t1)) rfl ?_
      refine xQ.call rfl (hc2) ?_
      show xQ MX8_readsWord (96, [some (.ref 45)], [.int 1], t2) _
      have R2 : rgt T s = ffl (okA T s (foL (tch T s))) 6 2 := R1.trans (ffl_t (by rw [q1]; exact decide_eq_true o2))
      refine xQ.go 1 (F1 := (bif decide (1 = 0) then 121 else 99, [some (.ref 45)], [], t2)) rfl ?_
      refine xQ.brF (rfl) ?_
      have q2 : okA T s (foL (tch T s)) 2 = decide (tch T (s + 2) = 111) := by unfold okA; rw [ef]; simp
      obtain ⟨r3, t3, hc3, o3, j3⟩ := m_takes (c := 111) (mT_of hT k2) a2 (by omega) (by omega) rfl
      have b3 : t3.1 45 8 = nI (tch T s) := (xkq_at j3 45 8).trans b2
      have k3 : xkq kR w t3 := xkq_trans k2 (xkq_mono rfl j3)
      rcases o3 with ⟨o3, hr3, a3⟩ | ⟨o3, hr3, a3⟩
      rotate_left
      · subst hr3
        refine xQ.go 2 (F1 := (102, [some (.ref 45)], [.int 111, .ref 45], t2)) rfl ?_
        refine xQ.call rfl (hc3) ?_
        show xQ MX8_readsWord (105, [some (.ref 45)], [.int 0], t3) _
        refine xQ.go 1 (F1 := (bif decide (0 = 0) then 121 else 108, [some (.ref 45)], [], t3)) rfl ?_
        refine xQ.brT (rfl) ?_
        exact fail 2 t3 (by omega) (R2.trans (ffl_f (by rw [q2]; exact decide_eq_false o3))) b3 a3 k3
      subst hr3
      refine xQ.go 2 (F1 := (102, [some (.ref 45)], [.int 111, .ref 45], t2)) rfl ?_
      refine xQ.call rfl (hc3) ?_
      show xQ MX8_readsWord (105, [some (.ref 45)], [.int 1], t3) _
      have R3 : rgt T s = ffl (okA T s (foL (tch T s))) 5 3 := R2.trans (ffl_t (by rw [q2]; exact decide_eq_true o3))
      refine xQ.go 1 (F1 := (bif decide (1 = 0) then 121 else 108, [some (.ref 45)], [], t3)) rfl ?_
      refine xQ.brF (rfl) ?_
      have q3 : okA T s (foL (tch T s)) 3 = decide (tch T (s + 3) = 112) := by unfold okA; rw [ef]; simp
      obtain ⟨r4, t4, hc4, o4, j4⟩ := m_takes (c := 112) (mT_of hT k3) a3 (by omega) (by omega) rfl
      have b4 : t4.1 45 8 = nI (tch T s) := (xkq_at j4 45 8).trans b3
      have k4 : xkq kR w t4 := xkq_trans k3 (xkq_mono rfl j4)
      rcases o4 with ⟨o4, hr4, a4⟩ | ⟨o4, hr4, a4⟩
      rotate_left
      · subst hr4
        refine xQ.go 2 (F1 := (111, [some (.ref 45)], [.int 112, .ref 45], t3)) rfl ?_
        refine xQ.call rfl (hc4) ?_
        show xQ MX8_readsWord (114, [some (.ref 45)], [.int 0], t4) _
        refine xQ.go 1 (F1 := (bif decide (0 = 0) then 121 else 117, [some (.ref 45)], [], t4)) rfl ?_
        refine xQ.brT (rfl) ?_
        exact fail 3 t4 (by omega) (R3.trans (ffl_f (by rw [q3]; exact decide_eq_false o4))) b4 a4 k4
      subst hr4
      refine xQ.go 2 (F1 := (111, [some (.ref 45)], [.int 112, .ref 45], t3)) rfl ?_
      refine xQ.call rfl (hc4) ?_
      show xQ MX8_readsWord (114, [some (.ref 45)], [.int 1], t4) _
      have R4 : rgt T s = ffl (okA T s (foL (tch T s))) 4 4 := R3.trans (ffl_t (by rw [q3]; exact decide_eq_true o4))
      refine xQ.go 1 (F1 := (bif decide (1 = 0) then 121 else 117, [some (.ref 45)], [], t4)) rfl ?_
      refine xQ.brF (rfl) ?_
      refine xQ.go 2 (F1 := (122, [some (.ref 45)], [.int 1], t4)) rfl ?_
      refine xQ.iret .boolean 1 rfl rfl (rfl) ?_
      exact ⟨b4, k4, Or.inl ⟨4, by rw [ef]; rfl, by omega, by rw [ef]; rfl, by rw [ef]; rfl, by rw [ef]; rfl, by rw [ef]; rfl, R4, rfl, a4⟩⟩
    · have ef : foL (tch T s) = [102, 108, 105, 112, 32, 35, 45, 35] := by rw [e]; rfl
      refine xQ.lsw rfl 123 (by rw [e]; exact ⟨by decide +kernel, by decide +kernel⟩) ?_
      show xQ MX8_readsWord (123, [some (.ref 45)], [], t0) _
      have R0 : rgt T s = ffl (okA T s (foL (tch T s))) 8 0 := by unfold rgt; rw [show (foL (tch T s)).length = 8 by rw [ef]; rfl]
      have fail : ∀ (i : Nat) (t : xW), i < 8 → rgt T s = i → t.1 45 8 = nI (tch T s) → t.1 45 7 = nI (s + i) → xkq kR w t → xQ MX8_readsWord (163, [some (.ref 45)], [], t) (wdP w T s) := by
        intro i t hi hr h8 h7 hk
        refine xQ.go 1 (F1 := (164, [some (.ref 45)], [.int 0], t)) rfl ?_
        refine xQ.iret .boolean 1 rfl rfl (rfl) ?_
        exact ⟨h8, hk, Or.inr ⟨Or.inr (by rw [ef, hr]; exact hi), rfl, by rw [hr]; exact h7⟩⟩
      have q0 : okA T s (foL (tch T s)) 0 = decide (tch T (s + 0) = 102) := by unfold okA; rw [ef]; simp
      obtain ⟨r1, t1, hc1, o1, j1⟩ := m_takes (c := 102) (mT_of hT k0) a0 (by omega) (by omega) rfl
      have b1 : t1.1 45 8 = nI (tch T s) := (xkq_at j1 45 8).trans b0
      have k1 : xkq kR w t1 := xkq_trans k0 (xkq_mono rfl j1)
      rcases o1 with ⟨o1, hr1, a1⟩ | ⟨o1, hr1, a1⟩
      rotate_left
      · subst hr1
        refine xQ.go 2 (F1 := (126, [some (.ref 45)], [.int 102, .ref 45], t0)) rfl ?_
        refine xQ.call rfl (hc1) ?_
        show xQ MX8_readsWord (129, [some (.ref 45)], [.int 0], t1) _
        refine xQ.go 1 (F1 := (bif decide (0 = 0) then 163 else 132, [some (.ref 45)], [], t1)) rfl ?_
        refine xQ.brT (rfl) ?_
        exact fail 0 t1 (by omega) (R0.trans (ffl_f (by rw [q0]; exact decide_eq_false o1))) b1 a1 k1
      subst hr1
      refine xQ.go 2 (F1 := (126, [some (.ref 45)], [.int 102, .ref 45], t0)) rfl ?_
      refine xQ.call rfl (hc1) ?_
      show xQ MX8_readsWord (129, [some (.ref 45)], [.int 1], t1) _
      have R1 : rgt T s = ffl (okA T s (foL (tch T s))) 7 1 := R0.trans (ffl_t (by rw [q0]; exact decide_eq_true o1))
      refine xQ.go 1 (F1 := (bif decide (1 = 0) then 163 else 132, [some (.ref 45)], [], t1)) rfl ?_
      refine xQ.brF (rfl) ?_
      have q1 : okA T s (foL (tch T s)) 1 = decide (tch T (s + 1) = 108) := by unfold okA; rw [ef]; simp
      obtain ⟨r2, t2, hc2, o2, j2⟩ := m_takes (c := 108) (mT_of hT k1) a1 (by omega) (by omega) rfl
      have b2 : t2.1 45 8 = nI (tch T s) := (xkq_at j2 45 8).trans b1
      have k2 : xkq kR w t2 := xkq_trans k1 (xkq_mono rfl j2)
      rcases o2 with ⟨o2, hr2, a2⟩ | ⟨o2, hr2, a2⟩
      rotate_left
      · subst hr2
        refine xQ.go 2 (F1 := (135, [some (.ref 45)], [.int 108, .ref 45], t1)) rfl ?_
        refine xQ.call rfl (hc2) ?_
        show xQ MX8_readsWord (138, [some (.ref 45)], [.int 0], t2) _
        refine xQ.go 1 (F1 := (bif decide (0 = 0) then 163 else 141, [some (.ref 45)], [], t2)) rfl ?_
        refine xQ.brT (rfl) ?_
        exact fail 1 t2 (by omega) (R1.trans (ffl_f (by rw [q1]; exact decide_eq_false o2))) b2 a2 k2
      subst hr2
      refine xQ.go 2 (F1 := (135, [some (.ref 45)], [.int 108, .ref 45], t1)) rfl ?_
      refine xQ.call rfl (hc2) ?_
      show xQ MX8_readsWord (138, [some (.ref 45)], [.int 1], t2) _
      have R2 : rgt T s = ffl (okA T s (foL (tch T s))) 6 2 := R1.trans (ffl_t (by rw [q1]; exact decide_eq_true o2))
      refine xQ.go 1 (F1 := (bif decide (1 = 0) then 163 else 141, [some (.ref 45)], [], t2)) rfl ?_
      refine xQ.brF (rfl) ?_
      have q2 : okA T s (foL (tch T s)) 2 = decide (tch T (s + 2) = 105) := by unfold okA; rw [ef]; simp
      obtain ⟨r3, t3, hc3, o3, j3⟩ := m_takes (c := 105) (mT_of hT k2) a2 (by omega) (by omega) rfl
      have b3 : t3.1 45 8 = nI (tch T s) := (xkq_at j3 45 8).trans b2
      have k3 : xkq kR w t3 := xkq_trans k2 (xkq_mono rfl j3)
      rcases o3 with ⟨o3, hr3, a3⟩ | ⟨o3, hr3, a3⟩
      rotate_left
      · subst hr3
        refine xQ.go 2 (F1 := (144, [some (.ref 45)], [.int 105, .ref 45], t2)) rfl ?_
        refine xQ.call rfl (hc3) ?_
        show xQ MX8_readsWord (147, [some (.ref 45)], [.int 0], t3) _
        refine xQ.go 1 (F1 := (bif decide (0 = 0) then 163 else 150, [some (.ref 45)], [], t3)) rfl ?_
        refine xQ.brT (rfl) ?_
        exact fail 2 t3 (by omega) (R2.trans (ffl_f (by rw [q2]; exact decide_eq_false o3))) b3 a3 k3
      subst hr3
      refine xQ.go 2 (F1 := (144, [some (.ref 45)], [.int 105, .ref 45], t2)) rfl ?_
      refine xQ.call rfl (hc3) ?_
      show xQ MX8_readsWord (147, [some (.ref 45)], [.int 1], t3) _
      have R3 : rgt T s = ffl (okA T s (foL (tch T s))) 5 3 := R2.trans (ffl_t (by rw [q2]; exact decide_eq_true o3))
      refine xQ.go 1 (F1 := (bif decide (1 = 0) then 163 else 150, [some (.ref 45)], [], t3)) rfl ?_
      refine xQ.brF (rfl) ?_
      have q3 : okA T s (foL (tch T s)) 3 = decide (tch T (s + 3) = 112) := by unfold okA; rw [ef]; simp
      obtain ⟨r4, t4, hc4, o4, j4⟩ := m_takes (c := 112) (mT_of hT k3) a3 (by omega) (by omega) rfl
      have b4 : t4.1 45 8 = nI (tch T s) := (xkq_at j4 45 8).trans b3
      have k4 : xkq kR w t4 := xkq_trans k3 (xkq_mono rfl j4)
      rcases o4 with ⟨o4, hr4, a4⟩ | ⟨o4, hr4, a4⟩
      rotate_left
      · subst hr4
        refine xQ.go 2 (F1 := (153, [some (.ref 45)], [.int 112, .ref 45], t3)) rfl ?_
        refine xQ.call rfl (hc4) ?_
        show xQ MX8_readsWord (156, [some (.ref 45)], [.int 0], t4) _
        refine xQ.go 1 (F1 := (bif decide (0 = 0) then 163 else 159, [some (.ref 45)], [], t4)) rfl ?_
        refine xQ.brT (rfl) ?_
        exact fail 3 t4 (by omega) (R3.trans (ffl_f (by rw [q3]; exact decide_eq_false o4))) b4 a4 k4
      subst hr4
      refine xQ.go 2 (F1 := (153, [some (.ref 45)], [.int 112, .ref 45], t3)) rfl ?_
      refine xQ.call rfl (hc4) ?_
      show xQ MX8_readsWord (156, [some (.ref 45)], [.int 1], t4) _
      have R4 : rgt T s = ffl (okA T s (foL (tch T s))) 4 4 := R3.trans (ffl_t (by rw [q3]; exact decide_eq_true o4))
      refine xQ.go 1 (F1 := (bif decide (1 = 0) then 163 else 159, [some (.ref 45)], [], t4)) rfl ?_
      refine xQ.brF (rfl) ?_
      refine xQ.go 2 (F1 := (164, [some (.ref 45)], [.int 1], t4)) rfl ?_
      refine xQ.iret .boolean 1 rfl rfl (rfl) ?_
      exact ⟨b4, k4, Or.inl ⟨4, by rw [ef]; rfl, by omega, by rw [ef]; rfl, by rw [ef]; rfl, by rw [ef]; rfl, by rw [ef]; rfl, R4, rfl, a4⟩⟩
