theorem bPl_le {G : Nat → Nat → Bool} (hg : gok G) {p : xPr} (hp : G p.1 p.2 = true) : bPl G p ≤ 45 ∧ bE G p ≤ 45 := by
  have h45 : bE G p ≤ 45 := ec_45 _
  refine ⟨?_, h45⟩
  unfold bPl
  split
  · omega
  · next h =>
    have : (bR G p).2.2.2 ≤ bE G p := EOK_le (bS_bic hg hp) (bR_ok hg hp h)
    omega
theorem c_keep_p {w : xW} {G : Nat → Nat → Bool} {p : xPr} {n : Nat} (hg : gok G) (hp : G p.1 p.2 = true) (hlt : p.1 < p.2) (hn : w.1 11 7 = nI n) (h9 : n < 9) (hG : eG 18 19 w (bH G (bS G p)) (bS G p)) (h1 : bE G p = 1 → w.1 18 5 = 1 ∧ w.1 18 8 = 1) (hr : bE G p ≠ 1 → eP 18 20 w (bR G p).1 (bR G p).2.1 (bR G p).2.2.2 ∧ eF 18 21 22 w (bR G p).2.2.1) : xD MX4_keepBlock [.ref 11, .int (mk (bS G p))] w (fun r w1 => r = none ∧ w1.1 11 7 = nI (n + 1) ∧ (w1.1 13 n = mk (bS G p) ∧ w1.1 14 n = nI (bE G p) ∧ w1.1 16 n = nI (bPl G p) ∧ w1.1 15 n = nI (bFa G p)) ∧ (bPl G p = bE G p → w1.1 11 8 = w.1 11 8 ∧ ∀ v x y, bSc G p v x y → w1.1 17 (10 * v + x) = nI y) ∧ (bPl G p ≠ bE G p → w1.1 11 8 = 0) ∧ (∀ v x, v < 10 → x < 10 → bH G (bS G p) v x = false → w1.1 17 (10 * v + x) = w.1 17 (10 * v + x)) ∧ (∀ i, i ≠ n → w1.1 13 i = w.1 13 i ∧ w1.1 14 i = w.1 14 i ∧ w1.1 15 i = w.1 15 i ∧ w1.1 16 i = w.1 16 i) ∧ xkq [(11, some 7), (11, some 8), (13, none), (14, none), (15, none), (16, none), (17, none)] w w1) := by
  obtain ⟨hle1, hle2⟩ := bPl_le hg hp
  have h10 := hg.2.2 _ _ hp
  have f4 : w.1 18 4 = nI (bE G p) := hG.2.2
  have f5 : w.1 18 5 = nI (bPl G p) := by
    unfold bPl
    split
    · next h => exact (h1 h).1
    · next h => exact (hr h).1.2.2
  have f8 : w.1 18 8 = nI (bFa G p) := by
    unfold bFa
    split
    · next h => exact (h1 h).2
    · next h => exact (hr h).2.1
  refine xD.of ?_
  show xQ MX4_keepBlock (0, [some (.ref 11), some (.int (mk (bS G p)))], [], w) _
  refine xQ.go 4 (F1 := (8, [some (.ref 11), some (.int (mk (bS G p)))], [.int (w.1 11 7), .ref 13], w)) rfl ?_
  rw [hn]
  refine xQ.go 1 (F1 := (9, [some (.ref 11), some (.int (mk (bS G p)))], [.int (mk (bS G p)), .int (nI n), .ref 13], w)) rfl ?_
  refine xQ.call rfl (c_put rfl h9 (by omega)) ?_
  show xQ MX4_keepBlock (12, [some (.ref 11), some (.int (mk (bS G p)))], [], (xuI w 13 n (mk (bS G p)))) _
  obtain ⟨w1, e1⟩ : ∃ w1, w1 = (xuI w 13 n (mk (bS G p))) := ⟨_, rfl⟩
  have k1 : xkq [(13, none)] w w1 := by rw [e1]; exact xkq_I xkq_rfl rfl
  rw [← e1]
  refine xQ.go 4 (F1 := (20, [some (.ref 11), some (.int (mk (bS G p)))], [.int (w1.1 11 7), .ref 14], w1)) rfl ?_
  rw [xkq_at k1 11 7, hn]
  refine xQ.go 2 (F1 := (24, [some (.ref 11), some (.int (mk (bS G p)))], [.ref 18, .int (nI n), .ref 14], w1)) rfl ?_
  refine xQ.call rfl (c_eedges_p) ?_
  show xQ MX4_keepBlock (27, [some (.ref 11), some (.int (mk (bS G p)))], [.int (w1.1 18 4), .int (nI n), .ref 14], w1) _
  rw [xkq_at k1 18 4, f4]
  refine xQ.call rfl (c_put rfl h9 (by omega)) ?_
  show xQ MX4_keepBlock (30, [some (.ref 11), some (.int (mk (bS G p)))], [], (xuI w1 14 n (nI (bE G p)))) _
  obtain ⟨w2, e2⟩ : ∃ w2, w2 = (xuI w1 14 n (nI (bE G p))) := ⟨_, rfl⟩
  have k2 : xkq [(13, none), (14, none)] w w2 := by rw [e2]; exact xkq_I (xkq_mono rfl k1) rfl
  rw [← e2]
  refine xQ.go 4 (F1 := (38, [some (.ref 11), some (.int (mk (bS G p)))], [.int (w2.1 11 7), .ref 16], w2)) rfl ?_
  rw [xkq_at k2 11 7, hn]
  refine xQ.go 2 (F1 := (42, [some (.ref 11), some (.int (mk (bS G p)))], [.ref 18, .int (nI n), .ref 16], w2)) rfl ?_
  refine xQ.call rfl (c_eplaced_p) ?_
  show xQ MX4_keepBlock (45, [some (.ref 11), some (.int (mk (bS G p)))], [.int (w2.1 18 5), .int (nI n), .ref 16], w2) _
  rw [xkq_at k2 18 5, f5]
  refine xQ.call rfl (c_put rfl h9 (by omega)) ?_
  show xQ MX4_keepBlock (48, [some (.ref 11), some (.int (mk (bS G p)))], [], (xuI w2 16 n (nI (bPl G p)))) _
  obtain ⟨w3, e3⟩ : ∃ w3, w3 = (xuI w2 16 n (nI (bPl G p))) := ⟨_, rfl⟩
  have k3 : xkq [(13, none), (14, none), (16, none)] w w3 := by rw [e3]; exact xkq_I (xkq_mono rfl k2) rfl
  rw [← e3]
  refine xQ.go 4 (F1 := (56, [some (.ref 11), some (.int (mk (bS G p)))], [.int (w3.1 11 7), .ref 15], w3)) rfl ?_
  rw [xkq_at k3 11 7, hn]
  refine xQ.go 2 (F1 := (60, [some (.ref 11), some (.int (mk (bS G p)))], [.ref 18, .int (nI n), .ref 15], w3)) rfl ?_
  refine xQ.call rfl (c_efaces_p) ?_
  show xQ MX4_keepBlock (63, [some (.ref 11), some (.int (mk (bS G p)))], [.int (w3.1 18 8), .int (nI n), .ref 15], w3) _
  rw [xkq_at k3 18 8, f8]
  refine xQ.call rfl (c_put rfl h9 (by omega)) ?_
  show xQ MX4_keepBlock (66, [some (.ref 11), some (.int (mk (bS G p)))], [], (xuI w3 15 n (nI (bFa G p)))) _
  obtain ⟨w4, e4⟩ : ∃ w4, w4 = (xuI w3 15 n (nI (bFa G p))) := ⟨_, rfl⟩
  have k4 : xkq [(13, none), (14, none), (15, none), (16, none)] w w4 := by rw [e4]; exact xkq_I (xkq_mono rfl k3) rfl
  rw [← e4]
  have row : w4.1 13 n = mk (bS G p) ∧ w4.1 14 n = nI (bE G p) ∧ w4.1 16 n = nI (bPl G p) ∧ w4.1 15 n = nI (bFa G p) := by
    rw [e4, e3, e2, e1]
    simp [uI1]
  have oth : ∀ i, i ≠ n → w4.1 13 i = w.1 13 i ∧ w4.1 14 i = w.1 14 i ∧ w4.1 15 i = w.1 15 i ∧ w4.1 16 i = w.1 16 i := fun i hi => by
    rw [e4, e3, e2, e1]
    simp [uI1, hi]
  refine xQ.go 3 (F1 := (71, [some (.ref 11), some (.int (mk (bS G p)))], [.int (w4.1 11 7), .ref 11], w4)) rfl ?_
  rw [xkq_at k4 11 7, hn]
  refine xQ.call rfl (c_flat_p h9) ?_
  show xQ MX4_keepBlock (74, [some (.ref 11), some (.int (mk (bS G p)))], [.int (if w4.1 16 n = w4.1 14 n then 1 else 0)], w4) _
  have q1 : eG 18 19 w4 (bH G (bS G p)) (bS G p) := ⟨fun v hv => by rw [xkq_at k4 19 v]; exact hG.1 v hv, by rw [xkq_at k4 18 2]; exact hG.2.1, by rw [xkq_at k4 18 4]; exact hG.2.2⟩
  by_cases hfl : bPl G p = bE G p
  · rw [if_pos (by rw [row.2.2.1, row.2.1, hfl])]
    refine xQ.go 1 (F1 := (bif decide (1 = 0) then 91 else 77, [some (.ref 11), some (.int (mk (bS G p)))], [], w4)) rfl ?_
    refine xQ.brF (rfl) ?_
    have tail : ∀ w5 : xW, xkq [(17, none)] w4 w5 → (∀ v x y, bSc G p v x y → w5.1 17 (10 * v + x) = nI y) → (∀ v x, v < 10 → x < 10 → bH G (bS G p) v x = false → w5.1 17 (10 * v + x) = w4.1 17 (10 * v + x)) → xQ MX4_keepBlock (88, [some (.ref 11), some (.int (mk (bS G p)))], [], w5) (fun r w1 => r = none ∧ w1.1 11 7 = nI (n + 1) ∧ (w1.1 13 n = mk (bS G p) ∧ w1.1 14 n = nI (bE G p) ∧ w1.1 16 n = nI (bPl G p) ∧ w1.1 15 n = nI (bFa G p)) ∧ (bPl G p = bE G p → w1.1 11 8 = w.1 11 8 ∧ ∀ v x y, bSc G p v x y → w1.1 17 (10 * v + x) = nI y) ∧ (bPl G p ≠ bE G p → w1.1 11 8 = 0) ∧ (∀ v x, v < 10 → x < 10 → bH G (bS G p) v x = false → w1.1 17 (10 * v + x) = w.1 17 (10 * v + x)) ∧ (∀ i, i ≠ n → w1.1 13 i = w.1 13 i ∧ w1.1 14 i = w.1 14 i ∧ w1.1 15 i = w.1 15 i ∧ w1.1 16 i = w.1 16 i) ∧ xkq [(11, some 7), (11, some 8), (13, none), (14, none), (15, none), (16, none), (17, none)] w w1) := by
      intro w5 k5 t1 t2
      refine xQ.go 7 (F1 := (106, [some (.ref 11), some (.int (mk (bS G p)))], [], (xuI w5 11 7 ((w5.1 11 7) + 1)))) rfl ?_
      refine xQ.vret 1 rfl rfl ?_
      refine ⟨rfl, ?_, ?_, fun _ => ⟨?_, fun v x y h => ?_⟩, fun h => absurd hfl h, fun v x hv hx h => ?_, fun i hi => ?_, xkq_I (xkq_trans (xkq_mono rfl k4) (xkq_mono rfl k5)) rfl⟩
      · simp [uI1, xkq_at k5 11 7, xkq_at k4 11 7, hn, nI_succ]
      · simp [uI1, xkq_at k5 13 n, xkq_at k5 14 n, xkq_at k5 15 n, xkq_at k5 16 n, row]
      · simp [uI1, xkq_at k5 11 8, xkq_at k4 11 8]
      · simpa [uI1] using t1 v x y h
      · have := t2 v x hv hx h
        rw [xkq_at k4 17] at this
        simpa [uI1] using this
      · have := oth i hi
        rw [← xkq_at k5 13 i, ← xkq_at k5 14 i, ← xkq_at k5 15 i, ← xkq_at k5 16 i] at this
        simpa [uI1] using this
    by_cases he : bE G p = 1
    · refine xQ.go 4 (F1 := (85, [some (.ref 11), some (.int (mk (bS G p)))], [.ref 17, .ref 18], w4)) rfl ?_
      refine xQ.call rfl (c_succ1_p q1 he hlt h10.2 (fun v _ => bS_one hg hp he v)) ?_
      show xQ MX4_keepBlock (88, [some (.ref 11), some (.int (mk (bS G p)))], [], (xuI (xuI w4 17 (10 * p.1 + p.2) (nI p.2)) 17 (10 * p.2 + p.1) (nI p.1))) _
      refine tail _ (xkq_I (xkq_I xkq_rfl rfl) rfl) (fun v x y h => ?_) (fun v x hv hx h => ?_)
      · unfold bSc at h
        rw [if_pos he] at h
        rcases h with ⟨rfl, rfl, rfl⟩ | ⟨rfl, rfl, rfl⟩
        · rw [uI1, if_neg (by omega), uI1, if_pos ⟨rfl, rfl⟩]
        · rw [uI1, if_pos ⟨rfl, rfl⟩]
      · have ha : bS G p p.1 = true := bS_iff.mpr ⟨h10.1, Bs_a hg hp⟩
        have hbb : bS G p p.2 = true := bS_iff.mpr ⟨h10.2, Bs_b hg hp⟩
        have hH : bH G (bS G p) p.1 p.2 = true := bH_iff.mpr ⟨hp, ha, hbb⟩
        have hH2 : bH G (bS G p) p.2 p.1 = true := bH_iff.mpr ⟨by rw [hg.1]; exact hp, hbb, ha⟩
        rw [uI1, if_neg, uI1, if_neg]
        · rintro ⟨_, e⟩
          have e1 : v = p.1 := by omega
          have e2 : x = p.2 := by omega
          rw [e1, e2, hH] at h
          cases h
        · rintro ⟨_, e⟩
          have e1 : v = p.2 := by omega
          have e2 : x = p.1 := by omega
          rw [e1, e2, hH2] at h
          cases h
    · have hEO := bR_ok hg hp he
      have hb := bS_bic hg hp
      have q3 : eF 18 21 22 w4 (bR G p).2.2.1 := ⟨by rw [xkq_at k4 18 8]; exact (hr he).2.1, fun i c hi => ⟨by rw [xkq_at k4 21 i]; exact ((hr he).2.2 i c hi).1, fun x y hxy => by rw [xkq_at k4 22 _]; exact ((hr he).2.2 i c hi).2 x y hxy⟩⟩
      have hIV := hEO.1
      have hall := EOK_all hb hEO (by unfold bPl at hfl; rw [if_neg he] at hfl; exact hfl)
      obtain ⟨r5, w5, hc5, hr5, hS5, hk5⟩ := c_succ_p q1 he (ec_45 _) q3 (EOK_max hEO).1 hIV.2.2.2.2.1 (fun f hf => (hIV.2.2.2.1 f hf).1) (fun f hf x hx => (bS_iff.mp (hIV.2.2.1 x ((hIV.2.2.2.1 f hf).2.2 x hx))).1)
      subst hr5
      refine xQ.go 4 (F1 := (85, [some (.ref 11), some (.int (mk (bS G p)))], [.ref 17, .ref 18], w4)) rfl ?_
      refine xQ.call rfl (hc5) ?_
      show xQ MX4_keepBlock (88, [some (.ref 11), some (.int (mk (bS G p)))], [], w5) _
      refine tail _ hk5 (fun v x y h => ?_) (fun v x hv hx h => ?_)
      · unfold bSc at h
        rw [if_neg he] at h
        obtain ⟨f, hf, h1, h2⟩ := h
        exact hS5.1 f hf x v y h1 h2
      · refine hS5.2 v x hv hx (fun f hf hm => ?_)
        have := (hIV.2.2.2.2.2.1 x v).mp (List.mem_flatMap.mpr ⟨f, hf, hm⟩)
        rw [hall, hb.1, h] at this
        cases this
  · rw [if_neg (by rw [row.2.2.1, row.2.1]; exact fun e => hfl (jI_inj (by omega) (by omega) e))]
    refine xQ.go 1 (F1 := (bif decide (0 = 0) then 91 else 77, [some (.ref 11), some (.int (mk (bS G p)))], [], w4)) rfl ?_
    refine xQ.brT (rfl) ?_
    refine xQ.go 9 (F1 := (106, [some (.ref 11), some (.int (mk (bS G p)))], [], (xuI (xuI w4 11 8 0) 11 7 ((w4.1 11 7) + 1)))) rfl ?_
    refine xQ.vret 1 rfl rfl ?_
    refine ⟨rfl, ?_, ?_, fun h => absurd h hfl, fun _ => ?_, fun v x _ _ _ => ?_, fun i hi => ?_, xkq_I (xkq_I (xkq_mono rfl k4) rfl) rfl⟩
    · simp [uI1, xkq_at k4 11 7, hn, nI_succ]
    · simp [uI1, row]
    · simp [uI1]
    · simp [uI1, xkq_at k4 17]
    · simpa [uI1] using oth i hi

theorem c_keep_t {w : xW} {G : Nat → Nat → Bool} {p : xPr} {n : Nat} (hg : gok G) (hp : G p.1 p.2 = true) (hlt : p.1 < p.2) (hn : w.1 25 7 = nI n) (h9 : n < 9) (hG : eG 32 33 w (bH G (bS G p)) (bS G p)) (h1 : bE G p = 1 → w.1 32 5 = 1 ∧ w.1 32 8 = 1) (hr : bE G p ≠ 1 → eP 32 34 w (bR G p).1 (bR G p).2.1 (bR G p).2.2.2 ∧ eF 32 35 36 w (bR G p).2.2.1) : xD MX4_keepBlock [.ref 25, .int (mk (bS G p))] w (fun r w1 => r = none ∧ w1.1 25 7 = nI (n + 1) ∧ (w1.1 27 n = mk (bS G p) ∧ w1.1 28 n = nI (bE G p) ∧ w1.1 30 n = nI (bPl G p) ∧ w1.1 29 n = nI (bFa G p)) ∧ (bPl G p = bE G p → w1.1 25 8 = w.1 25 8 ∧ ∀ v x y, bSc G p v x y → w1.1 31 (10 * v + x) = nI y) ∧ (bPl G p ≠ bE G p → w1.1 25 8 = 0) ∧ (∀ v x, v < 10 → x < 10 → bH G (bS G p) v x = false → w1.1 31 (10 * v + x) = w.1 31 (10 * v + x)) ∧ (∀ i, i ≠ n → w1.1 27 i = w.1 27 i ∧ w1.1 28 i = w.1 28 i ∧ w1.1 29 i = w.1 29 i ∧ w1.1 30 i = w.1 30 i) ∧ xkq [(25, some 7), (25, some 8), (27, none), (28, none), (29, none), (30, none), (31, none)] w w1) := by
  obtain ⟨hle1, hle2⟩ := bPl_le hg hp
  have h10 := hg.2.2 _ _ hp
  have f4 : w.1 32 4 = nI (bE G p) := hG.2.2
  have f5 : w.1 32 5 = nI (bPl G p) := by
    unfold bPl
    split
    · next h => exact (h1 h).1
    · next h => exact (hr h).1.2.2
  have f8 : w.1 32 8 = nI (bFa G p) := by
    unfold bFa
    split
    · next h => exact (h1 h).2
    · next h => exact (hr h).2.1
  refine xD.of ?_
  show xQ MX4_keepBlock (0, [some (.ref 25), some (.int (mk (bS G p)))], [], w) _
  refine xQ.go 4 (F1 := (8, [some (.ref 25), some (.int (mk (bS G p)))], [.int (w.1 25 7), .ref 27], w)) rfl ?_
  rw [hn]
  refine xQ.go 1 (F1 := (9, [some (.ref 25), some (.int (mk (bS G p)))], [.int (mk (bS G p)), .int (nI n), .ref 27], w)) rfl ?_
  refine xQ.call rfl (c_put rfl h9 (by omega)) ?_
  show xQ MX4_keepBlock (12, [some (.ref 25), some (.int (mk (bS G p)))], [], (xuI w 27 n (mk (bS G p)))) _
  obtain ⟨w1, e1⟩ : ∃ w1, w1 = (xuI w 27 n (mk (bS G p))) := ⟨_, rfl⟩
  have k1 : xkq [(27, none)] w w1 := by rw [e1]; exact xkq_I xkq_rfl rfl
  rw [← e1]
  refine xQ.go 4 (F1 := (20, [some (.ref 25), some (.int (mk (bS G p)))], [.int (w1.1 25 7), .ref 28], w1)) rfl ?_
  rw [xkq_at k1 25 7, hn]
  refine xQ.go 2 (F1 := (24, [some (.ref 25), some (.int (mk (bS G p)))], [.ref 32, .int (nI n), .ref 28], w1)) rfl ?_
  refine xQ.call rfl (c_eedges_t) ?_
  show xQ MX4_keepBlock (27, [some (.ref 25), some (.int (mk (bS G p)))], [.int (w1.1 32 4), .int (nI n), .ref 28], w1) _
  rw [xkq_at k1 32 4, f4]
  refine xQ.call rfl (c_put rfl h9 (by omega)) ?_
  show xQ MX4_keepBlock (30, [some (.ref 25), some (.int (mk (bS G p)))], [], (xuI w1 28 n (nI (bE G p)))) _
  obtain ⟨w2, e2⟩ : ∃ w2, w2 = (xuI w1 28 n (nI (bE G p))) := ⟨_, rfl⟩
  have k2 : xkq [(27, none), (28, none)] w w2 := by rw [e2]; exact xkq_I (xkq_mono rfl k1) rfl
  rw [← e2]
  refine xQ.go 4 (F1 := (38, [some (.ref 25), some (.int (mk (bS G p)))], [.int (w2.1 25 7), .ref 30], w2)) rfl ?_
  rw [xkq_at k2 25 7, hn]
  refine xQ.go 2 (F1 := (42, [some (.ref 25), some (.int (mk (bS G p)))], [.ref 32, .int (nI n), .ref 30], w2)) rfl ?_
  refine xQ.call rfl (c_eplaced_t) ?_
  show xQ MX4_keepBlock (45, [some (.ref 25), some (.int (mk (bS G p)))], [.int (w2.1 32 5), .int (nI n), .ref 30], w2) _
  rw [xkq_at k2 32 5, f5]
  refine xQ.call rfl (c_put rfl h9 (by omega)) ?_
  show xQ MX4_keepBlock (48, [some (.ref 25), some (.int (mk (bS G p)))], [], (xuI w2 30 n (nI (bPl G p)))) _
  obtain ⟨w3, e3⟩ : ∃ w3, w3 = (xuI w2 30 n (nI (bPl G p))) := ⟨_, rfl⟩
  have k3 : xkq [(27, none), (28, none), (30, none)] w w3 := by rw [e3]; exact xkq_I (xkq_mono rfl k2) rfl
  rw [← e3]
  refine xQ.go 4 (F1 := (56, [some (.ref 25), some (.int (mk (bS G p)))], [.int (w3.1 25 7), .ref 29], w3)) rfl ?_
  rw [xkq_at k3 25 7, hn]
  refine xQ.go 2 (F1 := (60, [some (.ref 25), some (.int (mk (bS G p)))], [.ref 32, .int (nI n), .ref 29], w3)) rfl ?_
  refine xQ.call rfl (c_efaces_t) ?_
  show xQ MX4_keepBlock (63, [some (.ref 25), some (.int (mk (bS G p)))], [.int (w3.1 32 8), .int (nI n), .ref 29], w3) _
  rw [xkq_at k3 32 8, f8]
  refine xQ.call rfl (c_put rfl h9 (by omega)) ?_
  show xQ MX4_keepBlock (66, [some (.ref 25), some (.int (mk (bS G p)))], [], (xuI w3 29 n (nI (bFa G p)))) _
  obtain ⟨w4, e4⟩ : ∃ w4, w4 = (xuI w3 29 n (nI (bFa G p))) := ⟨_, rfl⟩
  have k4 : xkq [(27, none), (28, none), (29, none), (30, none)] w w4 := by rw [e4]; exact xkq_I (xkq_mono rfl k3) rfl
  rw [← e4]
  have row : w4.1 27 n = mk (bS G p) ∧ w4.1 28 n = nI (bE G p) ∧ w4.1 30 n = nI (bPl G p) ∧ w4.1 29 n = nI (bFa G p) := by
    rw [e4, e3, e2, e1]
    simp [uI1]
  have oth : ∀ i, i ≠ n → w4.1 27 i = w.1 27 i ∧ w4.1 28 i = w.1 28 i ∧ w4.1 29 i = w.1 29 i ∧ w4.1 30 i = w.1 30 i := fun i hi => by
    rw [e4, e3, e2, e1]
    simp [uI1, hi]
  refine xQ.go 3 (F1 := (71, [some (.ref 25), some (.int (mk (bS G p)))], [.int (w4.1 25 7), .ref 25], w4)) rfl ?_
  rw [xkq_at k4 25 7, hn]
  refine xQ.call rfl (c_flat_t h9) ?_
  show xQ MX4_keepBlock (74, [some (.ref 25), some (.int (mk (bS G p)))], [.int (if w4.1 30 n = w4.1 28 n then 1 else 0)], w4) _
  have q1 : eG 32 33 w4 (bH G (bS G p)) (bS G p) := ⟨fun v hv => by rw [xkq_at k4 33 v]; exact hG.1 v hv, by rw [xkq_at k4 32 2]; exact hG.2.1, by rw [xkq_at k4 32 4]; exact hG.2.2⟩
  by_cases hfl : bPl G p = bE G p
  · rw [if_pos (by rw [row.2.2.1, row.2.1, hfl])]
    refine xQ.go 1 (F1 := (bif decide (1 = 0) then 91 else 77, [some (.ref 25), some (.int (mk (bS G p)))], [], w4)) rfl ?_
    refine xQ.brF (rfl) ?_
    have tail : ∀ w5 : xW, xkq [(31, none)] w4 w5 → (∀ v x y, bSc G p v x y → w5.1 31 (10 * v + x) = nI y) → (∀ v x, v < 10 → x < 10 → bH G (bS G p) v x = false → w5.1 31 (10 * v + x) = w4.1 31 (10 * v + x)) → xQ MX4_keepBlock (88, [some (.ref 25), some (.int (mk (bS G p)))], [], w5) (fun r w1 => r = none ∧ w1.1 25 7 = nI (n + 1) ∧ (w1.1 27 n = mk (bS G p) ∧ w1.1 28 n = nI (bE G p) ∧ w1.1 30 n = nI (bPl G p) ∧ w1.1 29 n = nI (bFa G p)) ∧ (bPl G p = bE G p → w1.1 25 8 = w.1 25 8 ∧ ∀ v x y, bSc G p v x y → w1.1 31 (10 * v + x) = nI y) ∧ (bPl G p ≠ bE G p → w1.1 25 8 = 0) ∧ (∀ v x, v < 10 → x < 10 → bH G (bS G p) v x = false → w1.1 31 (10 * v + x) = w.1 31 (10 * v + x)) ∧ (∀ i, i ≠ n → w1.1 27 i = w.1 27 i ∧ w1.1 28 i = w.1 28 i ∧ w1.1 29 i = w.1 29 i ∧ w1.1 30 i = w.1 30 i) ∧ xkq [(25, some 7), (25, some 8), (27, none), (28, none), (29, none), (30, none), (31, none)] w w1) := by
      intro w5 k5 t1 t2
      refine xQ.go 7 (F1 := (106, [some (.ref 25), some (.int (mk (bS G p)))], [], (xuI w5 25 7 ((w5.1 25 7) + 1)))) rfl ?_
      refine xQ.vret 1 rfl rfl ?_
      refine ⟨rfl, ?_, ?_, fun _ => ⟨?_, fun v x y h => ?_⟩, fun h => absurd hfl h, fun v x hv hx h => ?_, fun i hi => ?_, xkq_I (xkq_trans (xkq_mono rfl k4) (xkq_mono rfl k5)) rfl⟩
      · simp [uI1, xkq_at k5 25 7, xkq_at k4 25 7, hn, nI_succ]
      · simp [uI1, xkq_at k5 27 n, xkq_at k5 28 n, xkq_at k5 29 n, xkq_at k5 30 n, row]
      · simp [uI1, xkq_at k5 25 8, xkq_at k4 25 8]
      · simpa [uI1] using t1 v x y h
      · have := t2 v x hv hx h
        rw [xkq_at k4 31] at this
        simpa [uI1] using this
      · have := oth i hi
        rw [← xkq_at k5 27 i, ← xkq_at k5 28 i, ← xkq_at k5 29 i, ← xkq_at k5 30 i] at this
        simpa [uI1] using this
    by_cases he : bE G p = 1
    · refine xQ.go 4 (F1 := (85, [some (.ref 25), some (.int (mk (bS G p)))], [.ref 31, .ref 32], w4)) rfl ?_
      refine xQ.call rfl (c_succ1_t q1 he hlt h10.2 (fun v _ => bS_one hg hp he v)) ?_
      show xQ MX4_keepBlock (88, [some (.ref 25), some (.int (mk (bS G p)))], [], (xuI (xuI w4 31 (10 * p.1 + p.2) (nI p.2)) 31 (10 * p.2 + p.1) (nI p.1))) _
      refine tail _ (xkq_I (xkq_I xkq_rfl rfl) rfl) (fun v x y h => ?_) (fun v x hv hx h => ?_)
      · unfold bSc at h
        rw [if_pos he] at h
        rcases h with ⟨rfl, rfl, rfl⟩ | ⟨rfl, rfl, rfl⟩
        · rw [uI1, if_neg (by omega), uI1, if_pos ⟨rfl, rfl⟩]
        · rw [uI1, if_pos ⟨rfl, rfl⟩]
      · have ha : bS G p p.1 = true := bS_iff.mpr ⟨h10.1, Bs_a hg hp⟩
        have hbb : bS G p p.2 = true := bS_iff.mpr ⟨h10.2, Bs_b hg hp⟩
        have hH : bH G (bS G p) p.1 p.2 = true := bH_iff.mpr ⟨hp, ha, hbb⟩
        have hH2 : bH G (bS G p) p.2 p.1 = true := bH_iff.mpr ⟨by rw [hg.1]; exact hp, hbb, ha⟩
        rw [uI1, if_neg, uI1, if_neg]
        · rintro ⟨_, e⟩
          have e1 : v = p.1 := by omega
          have e2 : x = p.2 := by omega
          rw [e1, e2, hH] at h
          cases h
        · rintro ⟨_, e⟩
          have e1 : v = p.2 := by omega
          have e2 : x = p.1 := by omega
          rw [e1, e2, hH2] at h
          cases h
    · have hEO := bR_ok hg hp he
      have hb := bS_bic hg hp
      have q3 : eF 32 35 36 w4 (bR G p).2.2.1 := ⟨by rw [xkq_at k4 32 8]; exact (hr he).2.1, fun i c hi => ⟨by rw [xkq_at k4 35 i]; exact ((hr he).2.2 i c hi).1, fun x y hxy => by rw [xkq_at k4 36 _]; exact ((hr he).2.2 i c hi).2 x y hxy⟩⟩
      have hIV := hEO.1
      have hall := EOK_all hb hEO (by unfold bPl at hfl; rw [if_neg he] at hfl; exact hfl)
      obtain ⟨r5, w5, hc5, hr5, hS5, hk5⟩ := c_succ_t q1 he (ec_45 _) q3 (EOK_max hEO).1 hIV.2.2.2.2.1 (fun f hf => (hIV.2.2.2.1 f hf).1) (fun f hf x hx => (bS_iff.mp (hIV.2.2.1 x ((hIV.2.2.2.1 f hf).2.2 x hx))).1)
      subst hr5
      refine xQ.go 4 (F1 := (85, [some (.ref 25), some (.int (mk (bS G p)))], [.ref 31, .ref 32], w4)) rfl ?_
      refine xQ.call rfl (hc5) ?_
      show xQ MX4_keepBlock (88, [some (.ref 25), some (.int (mk (bS G p)))], [], w5) _
      refine tail _ hk5 (fun v x y h => ?_) (fun v x hv hx h => ?_)
      · unfold bSc at h
        rw [if_neg he] at h
        obtain ⟨f, hf, h1, h2⟩ := h
        exact hS5.1 f hf x v y h1 h2
      · refine hS5.2 v x hv hx (fun f hf hm => ?_)
        have := (hIV.2.2.2.2.2.1 x v).mp (List.mem_flatMap.mpr ⟨f, hf, hm⟩)
        rw [hall, hb.1, h] at this
        cases this
  · rw [if_neg (by rw [row.2.2.1, row.2.1]; exact fun e => hfl (jI_inj (by omega) (by omega) e))]
    refine xQ.go 1 (F1 := (bif decide (0 = 0) then 91 else 77, [some (.ref 25), some (.int (mk (bS G p)))], [], w4)) rfl ?_
    refine xQ.brT (rfl) ?_
    refine xQ.go 9 (F1 := (106, [some (.ref 25), some (.int (mk (bS G p)))], [], (xuI (xuI w4 25 8 0) 25 7 ((w4.1 25 7) + 1)))) rfl ?_
    refine xQ.vret 1 rfl rfl ?_
    refine ⟨rfl, ?_, ?_, fun h => absurd h hfl, fun _ => ?_, fun v x _ _ _ => ?_, fun i hi => ?_, xkq_I (xkq_I (xkq_mono rfl k4) rfl) rfl⟩
    · simp [uI1, xkq_at k4 25 7, hn, nI_succ]
    · simp [uI1, row]
    · simp [uI1]
    · simp [uI1, xkq_at k4 31]
    · simpa [uI1] using oth i hi
