/-! the reference: actions -/
theorem rowM_of {w w1 : xW} {a b o p : Nat} {s : xSt} (h : rowM w a o s) (e : ∀ j, j < 12 → w1.1 b (p + j) = w.1 a (o + j)) : rowM w1 b p s := ⟨fun v hv => (e v (by omega)).trans (h.1 v hv), (e 10 (by omega)).trans h.2.1, (e 11 (by omega)).trans h.2.2⟩
theorem m_record {w : xW} {A : xAb} (hM : mI w A) : xD MX8_record [.ref 45] w (fun r w1 => r = none ∧ mI w1 (A.1, recH A.2.1 A.1, A.2.2) ∧ xkq [(45, some 2), (47, none)] w w1) := by
  obtain ⟨ak, n, hh, s, t⟩ := hM
  have h5 := ak.2.1.1
  have com : ∀ (w2 : xW) (m : Nat) (x : Option Value), m < 5 → w2.1 45 2 = nI m → xkq [(45, some 2), (47, none)] w w2 → (∀ j, j < 12 * m → w2.1 47 j = w.1 47 (j + (if A.2.1.length = 5 then 12 else 0))) → m = (if A.2.1.length = 5 then 4 else A.2.1.length) → xQ MX8_record (47, [some (.ref 45), x], [], w2) (fun r w1 => r = none ∧ mI w1 (A.1, recH A.2.1 A.1, A.2.2) ∧ xkq [(45, some 2), (47, none)] w w1) := by
    intro w2 m x hm h2 k2 hj hme
    refine xQ.less [some (.ref 45), none] (by simp [xleb]) ?_
    refine xQ.go 2 (F1 := (49, [some (.ref 45), some (.int 0)], [], w2)) rfl ?_
    refine xQ.loop (S := xW) (fun k s => (49, [some (.ref 45), some (.int (nI k))], [], s)) (fun k s => (∀ j, j < k → s.1 47 (12 * m + j) = w.1 46 j) ∧ (∀ j, j < 12 * m → s.1 47 j = w2.1 47 j) ∧ xkq [(47, none)] w2 s) 12 w2 (rfl) (⟨(fun j hj => absurd hj (by omega)), (fun j hj => rfl), xkq_rfl⟩) ?_ ?_
    · intro k s hk hI K
      obtain ⟨i1, i2, i3⟩ := hI
      refine xQ.go 3 (F1 := (bif decide (12 ≤ (nI k)) then 81 else 55, [some (.ref 45), some (.int (nI k))], [], s)) rfl ?_
      refine xQ.brF (decide_eq_false (nI_ge (b := 12) (by omega) (by omega))) ?_
      refine xQ.go 8 (F1 := (68, [some (.ref 45), some (.int (nI k))], [.int (((s.1 45 2) * 12) + (nI k)), .ref 47], s)) rfl ?_
      rw [xkq_at i3 45 2, h2, show (12 : Int32) = nI 12 from rfl, jI_mul, jI_add, Nat.mul_comm m 12]
      refine xQ.go 3 (F1 := (73, [some (.ref 45), some (.int (nI k))], [.int (nI k), .ref 46, .int (nI (12 * m + k)), .ref 47], s)) rfl ?_
      refine xQ.iald rfl (k := k) (rfl) (⟨by omega, by omega⟩) rfl ?_
      show xQ MX8_record (74, [some (.ref 45), some (.int (nI k))], [.int (s.1 46 k), .int (nI (12 * m + k)), .ref 47], s) _
      rw [xkq_at i3 46 k, xkq_at k2 46 k]
      refine xQ.iast rfl (k := (12 * m + k)) (rfl) (⟨by omega, by omega⟩) rfl ?_
      show xQ MX8_record (75, [some (.ref 45), some (.int (nI k))], [], (xuI s 47 (12 * m + k) (w.1 46 k))) _
      refine xQ.go 2 (F1 := (49, [some (.ref 45), some (.int ((nI k) + 1))], [], (xuI s 47 (12 * m + k) (w.1 46 k)))) rfl ?_
      rw [← nI_succ]
      refine K _ ⟨fun j hj2 => ?_, fun j hj2 => ?_, xkq_I i3 rfl⟩
      · rw [uI1]
        by_cases e : j = k
        · rw [if_pos ⟨rfl, by omega⟩, e]
        · rw [if_neg (by omega)]
          exact i1 j (by omega)
      · rw [uI1, if_neg (by omega)]
        exact i2 j hj2
    · intro s hI
      obtain ⟨i1, i2, i3⟩ := hI
      refine xQ.go 3 (F1 := (bif decide (12 ≤ (nI 12)) then 81 else 55, [some (.ref 45), some (.int (nI 12))], [], s)) rfl ?_
      refine xQ.brT (rfl) ?_
      refine xQ.go 5 (F1 := (88, [some (.ref 45), some (.int (nI 12))], [.int ((s.1 45 2) + 1), .ref 45], s)) rfl ?_
      rw [xkq_at i3 45 2, h2, ← nI_succ]
      refine xQ.go 1 (F1 := (91, [some (.ref 45), some (.int (nI 12))], [], (xuI s 45 2 (nI (m + 1))))) rfl ?_
      refine xQ.vret 1 rfl rfl ?_
      have kk : xkq [(45, some 2), (47, none)] w (xuI s 45 2 (nI (m + 1))) := xkq_I (xkq_trans k2 (xkq_mono rfl i3)) rfl
      refine ⟨rfl, ⟨⟨ak.1, ⟨(recH_len h5).2, fun z hz => ?_⟩, ak.2.2⟩, rowM_kq n kk rfl, ⟨?_, fun i z hz => ?_⟩, mS_kq ‹mS w A.2.2.1› kk, mT_kq t kk⟩, kk⟩
      · rcases recH_mem hz with h | h
        · exact ak.2.1.2 z h
        · rw [h]; exact ak.1
      · show _ = nI (recH A.2.1 A.1).length
        rw [(recH_len h5).1, ← hme]
        simp [uI1]
      · have hl := (List.getElem?_eq_some_iff.mp hz).1
        have hl : i < (recH A.2.1 A.1).length := hl
        rw [(recH_len h5).1, ← hme] at hl
        have hH : (if A.2.1.length = 5 then A.2.1.tail else A.2.1).length = m := by
          rw [hme]
          by_cases e : A.2.1.length = 5
          · rw [if_pos e, if_pos e, List.length_tail, e]
          · rw [if_neg e, if_neg e]
        by_cases ei : i = m
        · subst ei
          have : (recH A.2.1 A.1)[i]? = some A.1 := by
            unfold recH
            rw [← hH]
            simp
          rw [this] at hz
          cases hz
          refine rowM_of n (fun j hj => ?_)
          rw [uI1, if_neg (by omega), i1 j hj, Nat.zero_add]
        · have e2 : A.2.1[if A.2.1.length = 5 then i + 1 else i]? = some z := by
            rw [← hz]
            unfold recH
            rw [List.getElem?_append_left (by rw [hH]; omega)]
            by_cases e : A.2.1.length = 5
            · rw [if_pos e, if_pos e, List.getElem?_tail]
            · rw [if_neg e, if_neg e]
          refine rowM_of (hh.2 _ z e2) (fun j hj3 => ?_)
          rw [uI1, if_neg (by omega), i2 _ (by omega), hj _ (by omega)]
          by_cases e : A.2.1.length = 5
          · rw [if_pos e, if_pos e, show 12 * i + j + 12 = 12 * (i + 1) + j by omega]
          · rw [if_neg e, if_neg e, Nat.add_zero]
  refine xD.of ?_
  show xQ MX8_record (0, [some (.ref 45), none], [], w) _
  by_cases e5 : A.2.1.length = 5
  · refine xQ.go 4 (F1 := (bif !decide ((w.1 45 2) = 5) then 47 else 8, [some (.ref 45), none], [], w)) rfl ?_
    refine xQ.brF (by rw [hh.1, e5]; decide) ?_
    refine xQ.go 2 (F1 := (10, [some (.ref 45), some (.int 0)], [], w)) rfl ?_
    refine xQ.loop (S := xW) (fun k s => (10, [some (.ref 45), some (.int (nI k))], [], s)) (fun k s => (∀ j, j < k → s.1 47 j = w.1 47 (j + 12)) ∧ (∀ j, k ≤ j → s.1 47 j = w.1 47 j) ∧ xkq [(47, none)] w s) 48 w (rfl) (⟨(fun j hj => absurd hj (by omega)), (fun j hj => rfl), xkq_rfl⟩) ?_ ?_
    · intro k s hk hI K
      obtain ⟨i1, i2, i3⟩ := hI
      refine xQ.go 3 (F1 := (bif decide (48 ≤ (nI k)) then 37 else 16, [some (.ref 45), some (.int (nI k))], [], s)) rfl ?_
      refine xQ.brF (decide_eq_false (nI_ge (b := 48) (by omega) (by omega))) ?_
      refine xQ.go 8 (F1 := (29, [some (.ref 45), some (.int (nI k))], [.int ((nI k) + 12), .ref 47, .int (nI k), .ref 47], s)) rfl ?_
      rw [show (12 : Int32) = nI 12 from rfl, jI_add]
      refine xQ.iald rfl (k := (k + 12)) (rfl) (⟨by omega, by omega⟩) rfl ?_
      show xQ MX8_record (30, [some (.ref 45), some (.int (nI k))], [.int (s.1 47 (k + 12)), .int (nI k), .ref 47], s) _
      refine xQ.iast rfl (k := k) (rfl) (⟨by omega, by omega⟩) rfl ?_
      show xQ MX8_record (31, [some (.ref 45), some (.int (nI k))], [], (xuI s 47 k (s.1 47 (k + 12)))) _
      refine xQ.go 2 (F1 := (10, [some (.ref 45), some (.int ((nI k) + 1))], [], (xuI s 47 k (s.1 47 (k + 12))))) rfl ?_
      rw [← nI_succ]
      refine K _ ⟨fun j hj => ?_, fun j hj => ?_, xkq_I i3 rfl⟩
      · rw [uI1]
        by_cases e : j = k
        · rw [if_pos ⟨rfl, e⟩, i2 _ (by omega), e]
        · rw [if_neg (fun h => e h.2)]
          exact i1 j (by omega)
      · rw [uI1, if_neg (by omega)]
        exact i2 j (by omega)
    · intro s hI
      obtain ⟨i1, i2, i3⟩ := hI
      refine xQ.go 3 (F1 := (bif decide (48 ≤ (nI 48)) then 37 else 16, [some (.ref 45), some (.int (nI 48))], [], s)) rfl ?_
      refine xQ.brT (rfl) ?_
      refine xQ.go 6 (F1 := (47, [some (.ref 45), some (.int (nI 48))], [], (xuI s 45 2 ((s.1 45 2) - 1)))) rfl ?_
      rw [xkq_at i3 45 2, hh.1, e5]
      refine com (xuI s 45 2 4) 4 _ (by omega) (by simp [uI1]; rfl) (xkq_I (xkq_mono rfl i3) rfl) (fun j hj => ?_) (by rw [if_pos e5])
      rw [uI1, if_neg (by omega), if_pos e5]
      exact i1 j (by omega)
  · refine xQ.go 4 (F1 := (bif !decide ((w.1 45 2) = 5) then 47 else 8, [some (.ref 45), none], [], w)) rfl ?_
    refine xQ.brT (by rw [hh.1, show (5 : Int32) = nI 5 from rfl, nI_dec (by omega) (by omega), decide_eq_false e5]; rfl) ?_
    exact com w A.2.1.length _ (by omega) hh.1 xkq_rfl (fun j hj => by rw [if_neg e5, Nat.add_zero]) (by rw [if_neg e5])
theorem row_xor {e : Int64} {a b : Nat} (ha : a < 10) (hb : b < 10) (hne : a ≠ b) : mk (gr e a) ^^^ mk (fun v => decide (v = b)) = mk (gr (e ^^^ pbit a b) a) := by
  rw [mk_xor]
  refine mk_ext fun v _ => ?_
  rw [gr_xor ha hb hne]
  congr 1
  unfold ab
  simp [hne]
theorem row_xor2 {e : Int64} {a b : Nat} (ha : a < 10) (hb : b < 10) (hne : a ≠ b) : mk (gr e b) ^^^ mk (fun v => decide (v = a)) = mk (gr (e ^^^ pbit a b) b) := by
  rw [row_xor hb ha (fun h => hne h.symm), pbit_sym b a]
theorem row_same {e : Int64} {a b v : Nat} (ha : a < 10) (hb : b < 10) (hne : a ≠ b) (h1 : v ≠ a) (h2 : v ≠ b) : mk (gr (e ^^^ pbit a b) v) = mk (gr e v) := mk_ext fun z _ => by
  rw [gr_xor ha hb hne]
  unfold ab
  simp [h1, h2]
theorem m_flip {w : xW} {A : xAb} {a b : Nat} (hM : mI w A) (ha : a < 10) (hb : b < 10) (hne : a ≠ b) : xD MX8_flip [.ref 45, .int (nI a), .int (nI b)] w (fun r w1 => r = none ∧ mI w1 (flipS A.1 a b, A.2) ∧ xkq [(46, none)] w w1) := by
  refine xD.of ?_
  show xQ MX8_flip (0, [some (.ref 45), some (.int (nI a)), some (.int (nI b)), none], [], w) _
  refine xQ.go 3 (F1 := (3, [some (.ref 45), some (.int (nI a)), some (.int (nI b)), none], [.int (nI b), .int (nI a), .ref 45], w)) rfl ?_
  refine xQ.call rfl (m_isEdge hM) ?_
  show xQ MX8_flip (6, [some (.ref 45), some (.int (nI a)), some (.int (nI b)), none], [.int (if jn A.1.1 (nI a) (nI b) = true then 1 else 0)], w) _
  rw [jn_nI ha hb]
  obtain ⟨ak, n, hh, s, t⟩ := hM
  have na := n.1 a ha
  have nb := n.1 b hb
  rw [Nat.zero_add] at na nb
  refine xQ.go 5 (F1 := (13, [some (.ref 45), some (.int (nI a)), some (.int (nI b)), some (.int (if gr A.1.1 a b = true then 1 else 0))], [.int (nI a), .ref 46, .int (nI a), .ref 46], w)) rfl ?_
  refine xQ.iald rfl (k := a) (rfl) (⟨by omega, by omega⟩) rfl ?_
  show xQ MX8_flip (14, [some (.ref 45), some (.int (nI a)), some (.int (nI b)), some (.int (if gr A.1.1 a b = true then 1 else 0))], [.int (w.1 46 a), .int (nI a), .ref 46], w) _
  rw [na]
  refine xQ.go 4 (F1 := (18, [some (.ref 45), some (.int (nI a)), some (.int (nI b)), some (.int (if gr A.1.1 a b = true then 1 else 0))], [.int ((mk (gr A.1.1 a)) ^^^ (1 <<< ((nI b) &&& 31))), .int (nI a), .ref 46], w)) rfl ?_
  rw [mk_bit hb, row_xor ha hb hne]
  refine xQ.iast rfl (k := a) (rfl) (⟨by omega, by omega⟩) rfl ?_
  show xQ MX8_flip (19, [some (.ref 45), some (.int (nI a)), some (.int (nI b)), some (.int (if gr A.1.1 a b = true then 1 else 0))], [], (xuI w 46 a (mk (gr (A.1.1 ^^^ pbit a b) a)))) _
  refine xQ.go 4 (F1 := (25, [some (.ref 45), some (.int (nI a)), some (.int (nI b)), some (.int (if gr A.1.1 a b = true then 1 else 0))], [.int (nI b), .ref 46, .int (nI b), .ref 46], (xuI w 46 a (mk (gr (A.1.1 ^^^ pbit a b) a))))) rfl ?_
  refine xQ.iald rfl (k := b) (rfl) (⟨by omega, by omega⟩) rfl ?_
  show xQ MX8_flip (26, [some (.ref 45), some (.int (nI a)), some (.int (nI b)), some (.int (if gr A.1.1 a b = true then 1 else 0))], [.int ((xuI w 46 a (mk (gr (A.1.1 ^^^ pbit a b) a))).1 46 b), .int (nI b), .ref 46], (xuI w 46 a (mk (gr (A.1.1 ^^^ pbit a b) a)))) _
  rw [show (xuI w 46 a (mk (gr (A.1.1 ^^^ pbit a b) a))).1 46 b = mk (gr A.1.1 b) by rw [uI1, if_neg (by omega), nb]]
  refine xQ.go 4 (F1 := (30, [some (.ref 45), some (.int (nI a)), some (.int (nI b)), some (.int (if gr A.1.1 a b = true then 1 else 0))], [.int ((mk (gr A.1.1 b)) ^^^ (1 <<< ((nI a) &&& 31))), .int (nI b), .ref 46], (xuI w 46 a (mk (gr (A.1.1 ^^^ pbit a b) a))))) rfl ?_
  rw [mk_bit ha, row_xor2 ha hb hne]
  refine xQ.iast rfl (k := b) (rfl) (⟨by omega, by omega⟩) rfl ?_
  show xQ MX8_flip (31, [some (.ref 45), some (.int (nI a)), some (.int (nI b)), some (.int (if gr A.1.1 a b = true then 1 else 0))], [], (xuI (xuI w 46 a (mk (gr (A.1.1 ^^^ pbit a b) a))) 46 b (mk (gr (A.1.1 ^^^ pbit a b) b)))) _
  refine xQ.go 7 (F1 := (bif decide ((if gr A.1.1 a b = true then 1 else 0) = 0) then 47 else 43, [some (.ref 45), some (.int (nI a)), some (.int (nI b)), some (.int (if gr A.1.1 a b = true then 1 else 0))], [.int ((xuI (xuI w 46 a (mk (gr (A.1.1 ^^^ pbit a b) a))) 46 b (mk (gr (A.1.1 ^^^ pbit a b) b))).1 46 10), .int 10, .ref 46], (xuI (xuI w 46 a (mk (gr (A.1.1 ^^^ pbit a b) a))) 46 b (mk (gr (A.1.1 ^^^ pbit a b) b))))) rfl ?_
  obtain ⟨w2, e2⟩ : ∃ w2, w2 = (xuI (xuI w 46 a (mk (gr (A.1.1 ^^^ pbit a b) a))) 46 b (mk (gr (A.1.1 ^^^ pbit a b) b))) := ⟨_, rfl⟩
  have r10 : w2.1 46 10 = A.1.2.1 := by rw [e2, uI1, if_neg (by omega), uI1, if_neg (by omega)]; exact n.2.1
  have r11 : w2.1 46 11 = A.1.2.2 := by rw [e2, uI1, if_neg (by omega), uI1, if_neg (by omega)]; exact n.2.2
  have rv : ∀ v, v < 10 → w2.1 46 v = mk (gr (A.1.1 ^^^ pbit a b) v) := fun v hv => by
    rw [e2, uI1]
    by_cases eb : v = b
    · rw [if_pos ⟨rfl, eb⟩, eb]
    · rw [if_neg (fun h => eb h.2), uI1]
      by_cases ea : v = a
      · rw [if_pos ⟨rfl, ea⟩, ea]
      · have := n.1 v hv
        rw [Nat.zero_add] at this
        rw [if_neg (fun h => ea h.2), this, row_same ha hb hne ea eb]
  have k2 : xkq [(46, none)] w w2 := by rw [e2]; exact xkq_I (xkq_I xkq_rfl rfl) rfl
  have r10' : (xuI (xuI w 46 a (mk (gr (A.1.1 ^^^ pbit a b) a))) 46 b (mk (gr (A.1.1 ^^^ pbit a b) b))).1 46 10 = A.1.2.1 := by rw [← e2]; exact r10
  have fin : ∀ x y : Int32, x = (flipS A.1 a b).2.1 → y = (flipS A.1 a b).2.2 → mI (xuI (xuI w2 46 10 x) 46 11 y) (flipS A.1 a b, A.2) ∧ xkq [(46, none)] w (xuI (xuI w2 46 10 x) 46 11 y) := by
    intro x y hx hy
    have kk : xkq [(46, none)] w (xuI (xuI w2 46 10 x) 46 11 y) := xkq_I (xkq_I k2 rfl) rfl
    refine ⟨⟨⟨flipS_jok ak.1 ha hb hne, ak.2⟩, ⟨fun v hv => ?_, ?_, ?_⟩, mH_kq hh kk, mS_kq s kk, mT_kq t kk⟩, kk⟩
    · rw [Nat.zero_add, uI1, if_neg (by omega), uI1, if_neg (by omega)]
      exact rv v hv
    · rw [uI1, if_neg (by omega), uI1, if_pos ⟨rfl, by omega⟩]
      exact hx
    · rw [uI1, if_pos ⟨rfl, by omega⟩]
      exact hy
  by_cases hg : gr A.1.1 a b = true
  · rw [if_pos hg]
    refine xQ.brF rfl ?_
    rw [← e2]
    refine xQ.go 2 (F1 := (48, [some (.ref 45), some (.int (nI a)), some (.int (nI b)), some (.int 1)], [.int 0, .int (w2.1 46 10), .int 10, .ref 46], w2)) rfl ?_
    refine xQ.go 1 (F1 := (49, [some (.ref 45), some (.int (nI a)), some (.int (nI b)), some (.int 1)], [.int ((w2.1 46 10) + 0), .int 10, .ref 46], w2)) rfl ?_
    rw [r10]
    refine xQ.go 7 (F1 := (59, [some (.ref 45), some (.int (nI a)), some (.int (nI b)), some (.int 1)], [.int 1, .int (w2.1 46 11), .int 11, .ref 46], (xuI w2 46 10 (A.1.2.1 + 0)))) rfl ?_
    refine xQ.go 1 (F1 := (bif decide (1 = 0) then 66 else 62, [some (.ref 45), some (.int (nI a)), some (.int (nI b)), some (.int 1)], [.int (w2.1 46 11), .int 11, .ref 46], (xuI w2 46 10 (A.1.2.1 + 0)))) rfl ?_
    refine xQ.brF (rfl) ?_
    refine xQ.go 3 (F1 := (68, [some (.ref 45), some (.int (nI a)), some (.int (nI b)), some (.int 1)], [.int ((w2.1 46 11) + 1), .int 11, .ref 46], (xuI w2 46 10 (A.1.2.1 + 0)))) rfl ?_
    rw [r11]
    refine xQ.go 1 (F1 := (69, [some (.ref 45), some (.int (nI a)), some (.int (nI b)), some (.int 1)], [], (xuI (xuI w2 46 10 (A.1.2.1 + 0)) 46 11 (A.1.2.2 + 1)))) rfl ?_
    refine xQ.vret 1 rfl rfl ?_
    obtain ⟨f1, f2⟩ := fin (A.1.2.1 + 0) (A.1.2.2 + 1) (by simp [flipS, hg]) (by simp [flipS, hg])
    exact ⟨rfl, f1, f2⟩
  · rw [if_neg hg]
    refine xQ.brT rfl ?_
    rw [← e2]
    refine xQ.go 1 (F1 := (48, [some (.ref 45), some (.int (nI a)), some (.int (nI b)), some (.int 0)], [.int 1, .int (w2.1 46 10), .int 10, .ref 46], w2)) rfl ?_
    refine xQ.go 1 (F1 := (49, [some (.ref 45), some (.int (nI a)), some (.int (nI b)), some (.int 0)], [.int ((w2.1 46 10) + 1), .int 10, .ref 46], w2)) rfl ?_
    rw [r10]
    refine xQ.go 7 (F1 := (59, [some (.ref 45), some (.int (nI a)), some (.int (nI b)), some (.int 0)], [.int 0, .int (w2.1 46 11), .int 11, .ref 46], (xuI w2 46 10 (A.1.2.1 + 1)))) rfl ?_
    refine xQ.go 1 (F1 := (bif decide (0 = 0) then 66 else 62, [some (.ref 45), some (.int (nI a)), some (.int (nI b)), some (.int 0)], [.int (w2.1 46 11), .int 11, .ref 46], (xuI w2 46 10 (A.1.2.1 + 1)))) rfl ?_
    refine xQ.brT (rfl) ?_
    refine xQ.go 2 (F1 := (68, [some (.ref 45), some (.int (nI a)), some (.int (nI b)), some (.int 0)], [.int ((w2.1 46 11) + 0), .int 11, .ref 46], (xuI w2 46 10 (A.1.2.1 + 1)))) rfl ?_
    rw [r11]
    refine xQ.go 1 (F1 := (69, [some (.ref 45), some (.int (nI a)), some (.int (nI b)), some (.int 0)], [], (xuI (xuI w2 46 10 (A.1.2.1 + 1)) 46 11 (A.1.2.2 + 0)))) rfl ?_
    refine xQ.vret 1 rfl rfl ?_
    obtain ⟨f1, f2⟩ := fin (A.1.2.1 + 1) (A.1.2.2 + 0) (by simp [flipS, hg]) (by simp [flipS, hg])
    exact ⟨rfl, f1, f2⟩
