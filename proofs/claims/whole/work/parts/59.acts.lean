/-! actions -/
theorem or_xor {e : Int64} {a b : Nat} (ha : a < 10) (hb : b < 10) (h : a ≠ b) (hg : gr e a b = false) : e ||| pbit a b = e ^^^ pbit a b := tJ_ext fun v hv => by
  rw [tJ_or, tJ_xor, tJ_pbit ha hb h hv]
  by_cases e1 : v = pix a b
  · rw [gr_of ha hb h] at hg
    rw [e1, hg]
    simp
  · rw [decide_eq_false e1]
    simp
theorem jn_nI {e : Int64} {a b : Nat} (ha : a < 10) (hb : b < 10) : jn e (nI a) (nI b) = gr e a b := by
  unfold jn vI
  rw [kI_of ha (by omega), kI_of hb (by omega)]
theorem C_comp {w : xW} {A : xAb} (hI : cI w A) : xD MX7_complete [.ref 0] w (cQ w (sComp A)) := by
  refine xD.of ?_
  show xQ MX7_complete (0, [some (.ref 0), none, none, none], [], w) _
  refine xQ.go 4 (F1 := (8, [some (.ref 0), none, none, none], [.ref 1, .ref 11], w)) rfl ?_
  refine xQ.call rfl (c_edgesA hI) ?_
  show xQ MX7_complete (11, [some (.ref 0), none, none, none], [.long A.1.1, .ref 11], w) _
  obtain ⟨r1, w1, hc1, hr1, i1, _, k1⟩ := c_readP (e := A.1.1) hI
  subst hr1
  refine xQ.call rfl (hc1) ?_
  show xQ MX7_complete (14, [some (.ref 0), none, none, none], [.int (if fl A.1.1 = true then 1 else 0)], w1) _
  unfold sComp
  refine xQ.go 1 (F1 := (bif !decide ((if fl A.1.1 = true then 1 else 0) = 0) then 20 else 17, [some (.ref 0), none, none, none], [], w1)) rfl ?_
  by_cases hf : fl A.1.1 = true
  · rw [if_pos hf, if_pos hf]
    refine xQ.brT rfl ?_
    obtain ⟨r2, w2, hc2, hr2, i2, k2⟩ := c_remA i1
    subst hr2
    refine xQ.go 4 (F1 := (28, [some (.ref 0), none, none, none], [.ref 1, .ref 3], w1)) rfl ?_
    refine xQ.call rfl (hc2) ?_
    show xQ MX7_complete (31, [some (.ref 0), none, none, none], [], w2) _
    refine xQ.go 2 (F1 := (35, [some (.ref 0), none, none, none], [.ref 1], w2)) rfl ?_
    refine xQ.call rfl (c_sizeA i2) ?_
    show xQ MX7_complete (38, [some (.ref 0), none, none, none], [.int (nEd A.1)], w2) _
    refine xQ.go 3 (F1 := (41, [some (.ref 0), some (.int (nEd A.1)), some (.int 0), none], [], w2)) rfl ?_
    refine xQ.loop (S := xW) (fun k s => (41, [some (.ref 0), some (.int (nEd A.1)), some (.int (nI k)), none], [], s)) (fun k s => cI s (pfold cmpF A.1 (10 * k), recH A.2.1 A.1, A.2.2) ∧ xkq kC w s) 10 w2 (rfl) (⟨i2, xkq_trans (kA_C k1) (kR_C k2)⟩) ?_ ?_
    · intro k s hk hI K
      refine xQ.go 3 (F1 := (bif decide (10 ≤ (nI k)) then 113 else 47, [some (.ref 0), some (.int (nEd A.1)), some (.int (nI k)), none], [], s)) rfl ?_
      refine xQ.brF (decide_eq_false (nI_ge (b := 10) (by omega) (by omega))) ?_
      refine xQ.go 4 (F1 := (51, [some (.ref 0), some (.int (nEd A.1)), some (.int (nI k)), some (.int ((nI k) + 1))], [], s)) rfl ?_
      rw [show nI k + 1 = nI (k + 1) from (nI_succ k).symm]
      have hsk : ∀ n, n = k + 1 → pfold cmpF A.1 (10 * k + n) = pfold cmpF A.1 (10 * k) := fun n hn => pfold_skip (by omega) (by omega)
      refine xQ.loop (S := xW) (fun k2 s2 => (51, [some (.ref 0), some (.int (nEd A.1)), some (.int (nI k)), some (.int (nI (k + 1 + k2)))], [], s2)) (fun k2 s2 => cI s2 (pfold cmpF A.1 (10 * k + (k + 1 + k2)), recH A.2.1 A.1, A.2.2) ∧ xkq kC w s2) (9 - k) s (rfl) (by rw [hsk (k + 1 + 0) rfl]; exact hI) ?_ ?_
      · intro k2 s2 hk2 hI2 K2
        obtain ⟨b, hbe⟩ : ∃ b, b = k + 1 + k2 := ⟨_, rfl⟩
        rw [show k + 1 + (k2 + 1) = b + 1 by omega] at K2
        rw [← hbe] at hI2 ⊢
        obtain ⟨j1, j2⟩ := hI2
        have hnx : pfold cmpF A.1 (10 * k + (b + 1)) = cmpF (pfold cmpF A.1 (10 * k + b)) k b := pfold_next (by omega) (by omega)
        rw [hnx] at K2
        have hk10 : k < 10 := by omega
        have hb10 : b < 10 := by omega
        have hkb : k ≠ b := by omega
        generalize pfold cmpF A.1 (10 * k + b) = t at *
        have nx : ∀ s3 : xW, cI s3 (cmpF t k b, recH A.2.1 A.1, A.2.2) → xkq kC w s3 → xQ MX7_complete (101, [some (.ref 0), some (.int (nEd A.1)), some (.int (nI k)), some (.int (nI b))], [], s3) (cQ w (nEd (pfold cmpF A.1 100) - nEd A.1, (pfold cmpF A.1 100, recH A.2.1 A.1, A.2.2))) := by
          intro s3 m1 m2
          refine xQ.go 2 (F1 := (51, [some (.ref 0), some (.int (nEd A.1)), some (.int (nI k)), some (.int ((nI b) + 1))], [], s3)) rfl ?_
          rw [← nI_succ]
          exact K2 s3 ⟨m1, m2⟩
        refine xQ.go 3 (F1 := (bif decide (10 ≤ (nI b)) then 107 else 57, [some (.ref 0), some (.int (nEd A.1)), some (.int (nI k)), some (.int (nI b))], [], s2)) rfl ?_
        refine xQ.brF (decide_eq_false (nI_ge (b := 10) (by omega) (by omega))) ?_
        refine xQ.go 4 (F1 := (63, [some (.ref 0), some (.int (nEd A.1)), some (.int (nI k)), some (.int (nI b))], [.int (nI b), .int (nI k), .ref 1], s2)) rfl ?_
        refine xQ.call rfl (c_joinsA j1) ?_
        show xQ MX7_complete (66, [some (.ref 0), some (.int (nEd A.1)), some (.int (nI k)), some (.int (nI b))], [.int (if jn t.1 (nI k) (nI b) = true then 1 else 0)], s2) _
        rw [jn_nI hk10 hb10]
        refine xQ.go 1 (F1 := (bif !decide ((if gr t.1 k b = true then 1 else 0) = 0) then 101 else 69, [some (.ref 0), some (.int (nEd A.1)), some (.int (nI k)), some (.int (nI b))], [], s2)) rfl ?_
        cases hg : gr t.1 k b with
        | true =>
          refine xQ.brT rfl ?_
          exact nx s2 (by unfold cmpF; rw [if_neg (by rw [hg]; simp)]; exact j1) j2
        | false =>
          refine xQ.brF rfl ?_
          refine xQ.go 4 (F1 := (77, [some (.ref 0), some (.int (nEd A.1)), some (.int (nI k)), some (.int (nI b))], [.ref 1, .ref 25], s2)) rfl ?_
          refine xQ.call rfl (c_edgesA j1) ?_
          show xQ MX7_complete (80, [some (.ref 0), some (.int (nEd A.1)), some (.int (nI k)), some (.int (nI b))], [.long t.1, .ref 25], s2) _
          refine xQ.go 2 (F1 := (82, [some (.ref 0), some (.int (nEd A.1)), some (.int (nI k)), some (.int (nI b))], [.int (nI b), .int (nI k), .long t.1, .ref 25], s2)) rfl ?_
          refine xQ.call rfl (c_pb hk10 hb10 hkb) ?_
          show xQ MX7_complete (85, [some (.ref 0), some (.int (nEd A.1)), some (.int (nI k)), some (.int (nI b))], [.long (pbit k b), .long t.1, .ref 25], s2) _
          refine xQ.go 1 (F1 := (86, [some (.ref 0), some (.int (nEd A.1)), some (.int (nI k)), some (.int (nI b))], [.long (t.1 ||| (pbit k b)), .ref 25], s2)) rfl ?_
          rw [or_xor hk10 hb10 hkb hg]
          obtain ⟨r3, s3, hc3, hr3, i3, k3⟩ := c_readT (e := t.1 ^^^ pbit k b) j1
          subst hr3
          refine xQ.call rfl (hc3) ?_
          show xQ MX7_complete (89, [some (.ref 0), some (.int (nEd A.1)), some (.int (nI k)), some (.int (nI b))], [.int (if fl (t.1 ^^^ pbit k b) = true then 1 else 0)], s3) _
          refine xQ.go 1 (F1 := (bif decide ((if fl (t.1 ^^^ pbit k b) = true then 1 else 0) = 0) then 101 else 92, [some (.ref 0), some (.int (nEd A.1)), some (.int (nI k)), some (.int (nI b))], [], s3)) rfl ?_
          cases hF : fl (t.1 ^^^ pbit k b) with
          | false =>
            refine xQ.brT rfl ?_
            exact nx s3 (by unfold cmpF; rw [if_neg (by rw [hF]; simp)]; exact i3) (xkq_trans j2 (kT_C k3))
          | true =>
            refine xQ.brF rfl ?_
            obtain ⟨r4, s4, hc4, hr4, i4, k4⟩ := c_flipA (a := k) (b := b) i3 hk10 hb10 hkb
            subst hr4
            refine xQ.go 4 (F1 := (98, [some (.ref 0), some (.int (nEd A.1)), some (.int (nI k)), some (.int (nI b))], [.int (nI b), .int (nI k), .ref 1], s3)) rfl ?_
            refine xQ.call rfl (hc4) ?_
            show xQ MX7_complete (101, [some (.ref 0), some (.int (nEd A.1)), some (.int (nI k)), some (.int (nI b))], [], s4) _
            exact nx s4 (by unfold cmpF; rw [if_pos ⟨hg, hF⟩]; exact i4) (xkq_trans j2 (xkq_trans (kT_C k3) (k1_C k4)))
      · intro s2 hI2
        rw [show 10 * k + (k + 1 + (9 - k)) = 10 * (k + 1) by omega, show k + 1 + (9 - k) = 10 by omega] at *
        refine xQ.go 3 (F1 := (bif decide (10 ≤ (nI 10)) then 107 else 57, [some (.ref 0), some (.int (nEd A.1)), some (.int (nI k)), some (.int (nI 10))], [], s2)) rfl ?_
        refine xQ.brT (rfl) ?_
        refine xQ.go 2 (F1 := (41, [some (.ref 0), some (.int (nEd A.1)), some (.int ((nI k) + 1)), some (.int (nI 10))], [], s2)) rfl ?_
        refine xQ.less [some (.ref 0), some (.int (nEd A.1)), some (.int ((nI k) + 1)), none] (by simp [xleb]) ?_
        rw [← nI_succ]
        exact K s2 hI2
    · intro s hI
      obtain ⟨j1, j2⟩ := hI
      refine xQ.go 3 (F1 := (bif decide (10 ≤ (nI 10)) then 113 else 47, [some (.ref 0), some (.int (nEd A.1)), some (.int (nI 10)), none], [], s)) rfl ?_
      refine xQ.brT (rfl) ?_
      refine xQ.go 2 (F1 := (117, [some (.ref 0), some (.int (nEd A.1)), some (.int (nI 10)), none], [.ref 1], s)) rfl ?_
      refine xQ.call rfl (c_sizeA j1) ?_
      show xQ MX7_complete (120, [some (.ref 0), some (.int (nEd A.1)), some (.int (nI 10)), none], [.int (nEd (pfold cmpF A.1 (10 * 10)))], s) _
      refine xQ.go 2 (F1 := (122, [some (.ref 0), some (.int (nEd A.1)), some (.int (nI 10)), none], [.int ((nEd (pfold cmpF A.1 (10 * 10))) - (nEd A.1))], s)) rfl ?_
      refine xQ.iret .int 1 rfl rfl (rfl) ?_
      exact ⟨rfl, j1, j2⟩
  · rw [if_neg hf, if_neg hf]
    refine xQ.brF rfl ?_
    refine xQ.go 1 (F1 := (19, [some (.ref 0), none, none, none], [.int (-4)], w1)) rfl ?_
    refine xQ.iret .int 1 rfl rfl (rfl) ?_
    exact ⟨rfl, i1, kA_C k1⟩
theorem C_app {w : xW} {A : xAb} {x : Int32} (hI : cI w A) : xD MX7_append [.ref 0, .int x] w (cQ w (sApp A x)) := by
  refine xD.of ?_
  show xQ MX7_append (0, [some (.ref 0), some (.int x)], [], w) _
  unfold sApp
  refine xQ.go 3 (F1 := (bif decide (x < 32) then 12 else 6, [some (.ref 0), some (.int x)], [], w)) rfl ?_
  by_cases h32 : x < 32
  · rw [if_pos (Or.inl h32)]
    refine xQ.brT (decide_eq_true h32) ?_
    refine xQ.go 1 (F1 := (14, [some (.ref 0), some (.int x)], [.int (-2)], w)) rfl ?_
    refine xQ.iret .int 1 rfl rfl (rfl) ?_
    exact ⟨rfl, hI, xkq_rfl⟩
  · refine xQ.brF (decide_eq_false h32) ?_
    refine xQ.go 3 (F1 := (bif decide (x ≤ 126) then 15 else 12, [some (.ref 0), some (.int x)], [], w)) rfl ?_
    by_cases h126 : 126 < x
    · rw [if_pos (Or.inr h126)]
      refine xQ.brF (decide_eq_false (Int32.not_le.mpr h126)) ?_
      refine xQ.go 1 (F1 := (14, [some (.ref 0), some (.int x)], [.int (-2)], w)) rfl ?_
      refine xQ.iret .int 1 rfl rfl (rfl) ?_
      exact ⟨rfl, hI, xkq_rfl⟩
    · rw [if_neg (fun h => h.elim h32 h126)]
      refine xQ.brT (decide_eq_true (Int32.not_lt.mp h126)) ?_
      obtain ⟨c, hc127, ec⟩ := i_of (x := x) (N := 127) (by omega) (Int32.le_trans (by decide) (Int32.not_lt.mp h32)) (fun h => h126 (Int32.lt_of_lt_of_le (by decide) h))
      have hc32 : 32 ≤ c := by
        refine Nat.le_of_not_lt fun h => h32 ?_
        rw [ec]
        exact nI_lt (b := 32) h (by omega)
      have e16 : (x.toUInt32 % 65536).toInt32 = x := by
        have : ∀ c, c < 127 → ((nI c).toUInt32 % 65536).toInt32 = nI c := by decide +kernel
        rw [ec]
        exact this c hc127
      have ecl : x.toNatClampNeg = c := by rw [ec]; exact nI_clamp (by omega)
      refine xQ.go 4 (F1 := (21, [some (.ref 0), some (.int x)], [.int ((x.toUInt32 % 65536).toInt32), .ref 7], w)) rfl ?_
      rw [e16]
      obtain ⟨ak, n, hh, s, t, p, q, u, o⟩ := hI
      have h80 := t.2.1.1
      by_cases e80 : A.2.2.2.length = 80
      · rw [if_pos e80]
        refine xQ.call rfl (c_twrite_0 (by rw [t.1, e80])) ?_
        show xQ MX7_append (24, [some (.ref 0), some (.int x)], [.int 0], w) _
        refine xQ.go 1 (F1 := (bif decide (0 = 0) then 37 else 27, [some (.ref 0), some (.int x)], [], w)) rfl ?_
        refine xQ.brT (rfl) ?_
        refine xQ.go 1 (F1 := (39, [some (.ref 0), some (.int x)], [.int (-3)], w)) rfl ?_
        refine xQ.iret .int 1 rfl rfl (rfl) ?_
        exact ⟨rfl, ⟨ak, n, hh, s, t, p, q, u, o⟩, xkq_rfl⟩
      · rw [if_neg e80]
        refine xQ.call rfl (c_twrite t.1 (show A.2.2.2.length < 80 by omega)) ?_
        show xQ MX7_append (24, [some (.ref 0), some (.int x)], [.int 1], (xuI (xuI w 8 A.2.2.2.length x) 7 1 (nI (A.2.2.2.length + 1)))) _
        refine xQ.go 1 (F1 := (bif decide (1 = 0) then 37 else 27, [some (.ref 0), some (.int x)], [], (xuI (xuI w 8 A.2.2.2.length x) 7 1 (nI (A.2.2.2.length + 1))))) rfl ?_
        refine xQ.brF (rfl) ?_
        refine xQ.go 2 (F1 := (31, [some (.ref 0), some (.int x)], [.ref 7], (xuI (xuI w 8 A.2.2.2.length x) 7 1 (nI (A.2.2.2.length + 1))))) rfl ?_
        refine xQ.call rfl (c_tlen) ?_
        show xQ MX7_append (34, [some (.ref 0), some (.int x)], [.int ((xuI (xuI w 8 A.2.2.2.length x) 7 1 (nI (A.2.2.2.length + 1))).1 7 1)], (xuI (xuI w 8 A.2.2.2.length x) 7 1 (nI (A.2.2.2.length + 1)))) _
        refine xQ.go 1 (F1 := (39, [some (.ref 0), some (.int x)], [.int ((xuI (xuI w 8 A.2.2.2.length x) 7 1 (nI (A.2.2.2.length + 1))).1 7 1)], (xuI (xuI w 8 A.2.2.2.length x) 7 1 (nI (A.2.2.2.length + 1))))) rfl ?_
        rw [show (xuI (xuI w 8 A.2.2.2.length x) 7 1 (nI (A.2.2.2.length + 1))).1 7 1 = nI (A.2.2.2.length + 1) by simp [uI1]]
        refine xQ.iret .int 1 rfl rfl (rfl) ?_
        have k : xkq [(7, none), (8, none)] w (xuI (xuI w 8 A.2.2.2.length x) 7 1 (nI (A.2.2.2.length + 1))) := xkq_I (xkq_I xkq_rfl rfl) rfl
        refine ⟨rfl, ⟨ak, nowC_kq n k, hisC_kq hh k, snpC_kq s k, ⟨?_, ⟨?_, fun z hz => ?_⟩, fun i z hz => ?_⟩, pOK_kq_p p k, pOK_kq_t q k, wOK_kq u k, oOK_kq o k⟩, xkq_mono rfl k⟩
        · simp [uI1]
        · show (A.2.2.2 ++ [x.toNatClampNeg]).length ≤ 80
          rw [List.length_append]
          show A.2.2.2.length + 1 ≤ 80
          omega
        · rcases List.mem_append.mp hz with h | h
          · exact t.2.1.2 z h
          · rw [List.mem_singleton.mp h, ecl]
            exact ⟨hc32, by omega⟩
        · by_cases ei : i = A.2.2.2.length
          · subst ei
            have : (A.2.2.2 ++ [x.toNatClampNeg])[A.2.2.2.length]? = some x.toNatClampNeg := by simp
            rw [this] at hz
            cases hz
            rw [ecl, ← ec]
            simp [uI1]
          · have hl := (List.getElem?_eq_some_iff.mp hz).1
            rw [List.length_append] at hl
            simp only [List.length_cons, List.length_nil] at hl
            rw [List.getElem?_append_left (by omega)] at hz
            rw [← t.2.2 i z hz]
            simp [uI1, ei]
theorem C_ct {w : xW} {A : xAb} (hI : cI w A) : xD MX7_clearText [.ref 0] w (cQ w (sCT A)) := by
  obtain ⟨ak, n, hh, s, t, p, q, u, o⟩ := hI
  refine xD.of ?_
  show xQ MX7_clearText (0, [some (.ref 0), none], [], w) _
  refine xQ.go 2 (F1 := (4, [some (.ref 0), none], [.ref 7], w)) rfl ?_
  refine xQ.call rfl (c_tlen) ?_
  show xQ MX7_clearText (7, [some (.ref 0), none], [.int (w.1 7 1)], w) _
  rw [t.1]
  refine xQ.go 3 (F1 := (12, [some (.ref 0), some (.int (nI A.2.2.2.length))], [.ref 7], w)) rfl ?_
  refine xQ.call rfl (c_terase) ?_
  show xQ MX7_clearText (15, [some (.ref 0), some (.int (nI A.2.2.2.length))], [], (xuI w 7 1 0)) _
  refine xQ.go 1 (F1 := (16, [some (.ref 0), some (.int (nI A.2.2.2.length))], [.int (nI A.2.2.2.length)], (xuI w 7 1 0))) rfl ?_
  refine xQ.iret .int 1 rfl rfl (rfl) ?_
  have k : xkq [(7, none)] w (xuI w 7 1 0) := xkq_I xkq_rfl rfl
  exact ⟨rfl, ⟨ak, nowC_kq n k, hisC_kq hh k, snpC_kq s k, ⟨by simp [uI1]; rfl, ⟨Nat.zero_le _, fun z hz => by cases hz⟩, fun i z hz => by cases hz⟩, pOK_kq_p p k, pOK_kq_t q k, wOK_kq u k, oOK_kq o k⟩, xkq_mono rfl k⟩
theorem C_fault {w : xW} {A : xAb} (hI : cI w A) : xD MX7_fault [.ref 0] w (cQ w (sFault A)) := by
  obtain ⟨ak, n, hh, s, t, p, q, u, o⟩ := hI
  refine xD.of ?_
  show xQ MX7_fault (0, [some (.ref 0)], [], w) _
  obtain ⟨r1, w1, hc1, hr1, _, _, _, k1⟩ := c_scan t
  subst hr1
  refine xQ.go 2 (F1 := (4, [some (.ref 0)], [.ref 7], w)) rfl ?_
  refine xQ.call rfl (hc1) ?_
  show xQ MX7_fault (7, [some (.ref 0)], [.int ((scn A.2.2.2 11 0).1)], w1) _
  refine xQ.iret .int 1 rfl rfl (rfl) ?_
  exact ⟨rfl, ⟨ak, nowC_kq n k1, hisC_kq hh k1, snpC_kq s k1, tX_kq t k1 rfl rfl, pOK_kq_p p k1, pOK_kq_t q k1, wOK_kq u k1, oOK_kq o k1⟩, xkq_mono rfl k1⟩
theorem C_undo {w : xW} {A : xAb} (hI : cI w A) : xD MX7_undo [.ref 0] w (cQ w (sUndo A)) := by
  obtain ⟨ak, n, hh, s, t, p, q, u, o⟩ := hI
  refine xD.of ?_
  show xQ MX7_undo (0, [some (.ref 0)], [], w) _
  unfold sUndo
  cases hl : A.2.1.getLast? with
  | none =>
    have e0 : A.2.1 = [] := List.getLast?_eq_none_iff.mp hl
    refine xQ.go 4 (F1 := (8, [some (.ref 0)], [.ref 1, .ref 3], w)) rfl ?_
    refine xQ.call rfl (c_give_0 (by rw [hh.1, e0]; rfl)) ?_
    show xQ MX7_undo (11, [some (.ref 0)], [.int 0], w) _
    refine xQ.go 1 (F1 := (bif decide (0 = 0) then 24 else 14, [some (.ref 0)], [], w)) rfl ?_
    refine xQ.brT (rfl) ?_
    refine xQ.go 1 (F1 := (26, [some (.ref 0)], [.int (-5)], w)) rfl ?_
    refine xQ.iret .int 1 rfl rfl (rfl) ?_
    exact ⟨rfl, ⟨ak, n, hh, s, t, p, q, u, o⟩, xkq_rfl⟩
  | some z =>
    have hne : A.2.1 ≠ [] := fun e => by rw [e] at hl; cases hl
    have hlen : A.2.1.length - 1 + 1 = A.2.1.length := by
      have := List.length_pos_iff.mpr hne
      omega
    have h5 := ak.2.1.1
    obtain ⟨m, hm⟩ : ∃ m, m = A.2.1.length - 1 := ⟨_, rfl⟩
    rw [← hm] at hlen
    have hz : A.2.1[m]? = some z := by rw [hm, ← List.getLast?_eq_getElem?]; exact hl
    refine xQ.go 4 (F1 := (8, [some (.ref 0)], [.ref 1, .ref 3], w)) rfl ?_
    refine xQ.call rfl (c_give (m := m) (by rw [hh.1, hlen]) (by omega)) ?_
    show xQ MX7_undo (11, [some (.ref 0)], [.int 1], (xuI (xuI (xuI (xuJ w 1 0 (w.2 4 m)) 1 1 (w.1 5 m)) 1 2 (w.1 6 m)) 3 3 (nI m))) _
    refine xQ.go 1 (F1 := (bif decide (1 = 0) then 24 else 14, [some (.ref 0)], [], (xuI (xuI (xuI (xuJ w 1 0 (w.2 4 m)) 1 1 (w.1 5 m)) 1 2 (w.1 6 m)) 3 3 (nI m)))) rfl ?_
    refine xQ.brF (rfl) ?_
    refine xQ.go 2 (F1 := (18, [some (.ref 0)], [.ref 3], (xuI (xuI (xuI (xuJ w 1 0 (w.2 4 m)) 1 1 (w.1 5 m)) 1 2 (w.1 6 m)) 3 3 (nI m)))) rfl ?_
    refine xQ.call rfl (c_hsize) ?_
    show xQ MX7_undo (21, [some (.ref 0)], [.int ((xuI (xuI (xuI (xuJ w 1 0 (w.2 4 m)) 1 1 (w.1 5 m)) 1 2 (w.1 6 m)) 3 3 (nI m)).1 3 3)], (xuI (xuI (xuI (xuJ w 1 0 (w.2 4 m)) 1 1 (w.1 5 m)) 1 2 (w.1 6 m)) 3 3 (nI m))) _
    refine xQ.go 1 (F1 := (26, [some (.ref 0)], [.int ((xuI (xuI (xuI (xuJ w 1 0 (w.2 4 m)) 1 1 (w.1 5 m)) 1 2 (w.1 6 m)) 3 3 (nI m)).1 3 3)], (xuI (xuI (xuI (xuJ w 1 0 (w.2 4 m)) 1 1 (w.1 5 m)) 1 2 (w.1 6 m)) 3 3 (nI m)))) rfl ?_
    rw [show (xuI (xuI (xuI (xuJ w 1 0 (w.2 4 m)) 1 1 (w.1 5 m)) 1 2 (w.1 6 m)) 3 3 (nI m)).1 3 3 = nI m by simp [uI1]]
    refine xQ.iret .int 1 rfl rfl (rfl) ?_
    obtain ⟨g1, g2, g3⟩ := hh.2 m z hz
    have k : xkq [(1, none), (3, none)] w (xuI (xuI (xuI (xuJ w 1 0 (w.2 4 m)) 1 1 (w.1 5 m)) 1 2 (w.1 6 m)) 3 3 (nI m)) := xkq_I (xkq_I (xkq_I (xkq_J xkq_rfl rfl) rfl) rfl) rfl
    have hzm : z ∈ A.2.1 := List.mem_of_getElem? hz
    refine ⟨by rw [← hm], ⟨⟨ak.2.1.2 z hzm, ⟨?_, fun y hy => ak.2.1.2 y ((List.dropLast_sublist A.2.1).subset hy)⟩, ak.2.2⟩, ⟨by simp [uI1, uI2, uJ1, uJ2, g1], by simp [uI1, uI2, uJ1, uJ2, g2], by simp [uI1, uI2, uJ1, uJ2, g3]⟩, ⟨?_, fun i y hy => ?_⟩, snpC_kq s k, tX_kq2 t k, pOK_kq_p p k, pOK_kq_t q k, wOK_kq u k, oOK_kq o k⟩, xkq_mono rfl k⟩
    · show A.2.1.dropLast.length ≤ 5
      rw [List.length_dropLast]
      omega
    · show _ = nI A.2.1.dropLast.length
      rw [List.length_dropLast, ← hm]
      simp [uI1]
    · have hy2 : A.2.1[i]? = some y := by
        have hlt := (List.getElem?_eq_some_iff.mp hy).1
        rw [List.getElem?_dropLast] at hy
        by_cases e : i < A.2.1.length - 1
        · rw [if_pos e] at hy; exact hy
        · rw [if_neg e] at hy; cases hy
      obtain ⟨f1, f2, f3⟩ := hh.2 i y hy2
      exact ⟨by simp [uI1, uI2, uJ1, uJ2, f1], by simp [uI1, uI2, uJ1, uJ2, f2], by simp [uI1, uI2, uJ1, uJ2, f3]⟩
theorem C_save {w : xW} {A : xAb} (hI : cI w A) : xD MX7_save [.ref 0] w (cQ w (sSave A)) := by
  obtain ⟨ak, n, hh, s, t, p, q, u, o⟩ := hI
  obtain ⟨n1, n2, n3⟩ := n
  refine xD.of ?_
  show xQ MX7_save (0, [some (.ref 0)], [], w) _
  refine xQ.go 4 (F1 := (8, [some (.ref 0)], [.ref 1, .ref 2], w)) rfl ?_
  refine xQ.call rfl (c_edges1) ?_
  show xQ MX7_save (11, [some (.ref 0)], [.long (w.2 1 0), .ref 2], w) _
  refine xQ.go 2 (F1 := (15, [some (.ref 0)], [.ref 1, .long (w.2 1 0), .ref 2], w)) rfl ?_
  refine xQ.call rfl (c_added1) ?_
  show xQ MX7_save (18, [some (.ref 0)], [.int (w.1 1 1), .long (w.2 1 0), .ref 2], w) _
  refine xQ.go 2 (F1 := (22, [some (.ref 0)], [.ref 1, .int (w.1 1 1), .long (w.2 1 0), .ref 2], w)) rfl ?_
  refine xQ.call rfl (c_dropped1) ?_
  show xQ MX7_save (25, [some (.ref 0)], [.int (w.1 1 2), .int (w.1 1 1), .long (w.2 1 0), .ref 2], w) _
  refine xQ.call rfl (c_become2) ?_
  show xQ MX7_save (28, [some (.ref 0)], [], (xuI (xuI (xuJ w 2 0 (w.2 1 0)) 2 1 (w.1 1 1)) 2 2 (w.1 1 2))) _
  refine xQ.go 5 (F1 := (37, [some (.ref 0)], [.ref 1], (xuI (xuI (xuI (xuJ w 2 0 (w.2 1 0)) 2 1 (w.1 1 1)) 2 2 (w.1 1 2)) 0 2 1))) rfl ?_
  obtain ⟨w1, e1⟩ : ∃ w1, w1 = (xuI (xuI (xuI (xuJ w 2 0 (w.2 1 0)) 2 1 (w.1 1 1)) 2 2 (w.1 1 2)) 0 2 1) := ⟨_, rfl⟩
  have k : xkq [(0, none), (2, none)] w w1 := by rw [e1]; exact xkq_I (xkq_I (xkq_I (xkq_J xkq_rfl rfl) rfl) rfl) rfl
  have hI1 : cI w1 (A.1, A.2.1, some A.1, A.2.2.2) := ⟨⟨ak.1, ak.2.1, fun z hz => by cases hz; exact ak.1⟩, nowC_kq ⟨n1, n2, n3⟩ k, hisC_kq hh k, ⟨by rw [e1]; simp [uI1], by rw [e1]; simp [uI2, uJ2, n1], by rw [e1]; simp [uI1, uJ1, n2], by rw [e1]; simp [uI1, uJ1, n3]⟩, tX_kq2 t k, pOK_kq_p p k, pOK_kq_t q k, wOK_kq u k, oOK_kq o k⟩
  rw [← e1]
  refine xQ.call rfl (c_sizeA hI1) ?_
  show xQ MX7_save (40, [some (.ref 0)], [.int (nEd A.1)], w1) _
  refine xQ.iret .int 1 rfl rfl (rfl) ?_
  exact ⟨rfl, hI1, xkq_mono rfl k⟩
theorem C_rest {w : xW} {A : xAb} (hI : cI w A) : xD MX7_restore [.ref 0] w (cQ w (sRest A)) := by
  have hs := hI.2.2.2.1
  refine xD.of ?_
  show xQ MX7_restore (0, [some (.ref 0)], [], w) _
  unfold sRest
  cases hA : A.2.2.1 with
  | none =>
    rw [hA] at hs
    refine xQ.go 3 (F1 := (bif !decide ((w.1 0 2) = 0) then 10 else 7, [some (.ref 0)], [], w)) rfl ?_
    refine xQ.brF (by rw [show w.1 0 2 = 0 from hs]; rfl) ?_
    refine xQ.go 1 (F1 := (9, [some (.ref 0)], [.int (-4)], w)) rfl ?_
    refine xQ.iret .int 1 rfl rfl (rfl) ?_
    exact ⟨rfl, hI, xkq_rfl⟩
  | some z =>
    rw [hA] at hs
    refine xQ.go 3 (F1 := (bif !decide ((w.1 0 2) = 0) then 10 else 7, [some (.ref 0)], [], w)) rfl ?_
    refine xQ.brT (by rw [hs.1]; rfl) ?_
    obtain ⟨r2, w2, hc2, hr2, i2, k2⟩ := c_remA hI
    subst hr2
    refine xQ.go 4 (F1 := (18, [some (.ref 0)], [.ref 1, .ref 3], w)) rfl ?_
    refine xQ.call rfl (hc2) ?_
    show xQ MX7_restore (21, [some (.ref 0)], [], w2) _
    refine xQ.go 4 (F1 := (29, [some (.ref 0)], [.ref 2, .ref 1], w2)) rfl ?_
    refine xQ.call rfl (c_edges2) ?_
    show xQ MX7_restore (32, [some (.ref 0)], [.long (w2.2 2 0), .ref 1], w2) _
    refine xQ.go 2 (F1 := (36, [some (.ref 0)], [.ref 2, .long (w2.2 2 0), .ref 1], w2)) rfl ?_
    refine xQ.call rfl (c_added2) ?_
    show xQ MX7_restore (39, [some (.ref 0)], [.int (w2.1 2 1), .long (w2.2 2 0), .ref 1], w2) _
    refine xQ.go 2 (F1 := (43, [some (.ref 0)], [.ref 2, .int (w2.1 2 1), .long (w2.2 2 0), .ref 1], w2)) rfl ?_
    refine xQ.call rfl (c_dropped2) ?_
    show xQ MX7_restore (46, [some (.ref 0)], [.int (w2.1 2 2), .int (w2.1 2 1), .long (w2.2 2 0), .ref 1], w2) _
    refine xQ.call rfl (c_become) ?_
    show xQ MX7_restore (49, [some (.ref 0)], [], (xuI (xuI (xuJ w2 1 0 (w2.2 2 0)) 1 1 (w2.1 2 1)) 1 2 (w2.1 2 2))) _
    refine xQ.go 2 (F1 := (53, [some (.ref 0)], [.ref 1], (xuI (xuI (xuJ w2 1 0 (w2.2 2 0)) 1 1 (w2.1 2 1)) 1 2 (w2.1 2 2)))) rfl ?_
    obtain ⟨w1, e1⟩ : ∃ w1, w1 = (xuI (xuI (xuJ w2 1 0 (w2.2 2 0)) 1 1 (w2.1 2 1)) 1 2 (w2.1 2 2)) := ⟨_, rfl⟩
    have k : xkq [(1, none)] w2 w1 := by rw [e1]; exact xkq_I (xkq_I (xkq_J xkq_rfl rfl) rfl) rfl
    obtain ⟨ak, n, hh, s, t, p, q, u, o⟩ := i2
    simp only at s
    have s2 := s
    rw [hA] at s2
    obtain ⟨s21, s22, s23, s24⟩ := s2
    have hI1 : cI w1 (z, recH A.2.1 A.1, A.2.2) := ⟨⟨ak.2.2 z hA, ak.2⟩, ⟨by rw [e1]; simp [uI2, uJ2, s22], by rw [e1]; simp [uI1, uJ1, s23], by rw [e1]; simp [uI1, uJ1, s24]⟩, hisC_kq hh k, snpC_kq s k, tX_kq2 t k, pOK_kq_p p k, pOK_kq_t q k, wOK_kq u k, oOK_kq o k⟩
    rw [← e1]
    refine xQ.call rfl (c_sizeA hI1) ?_
    show xQ MX7_restore (56, [some (.ref 0)], [.int (nEd z)], w1) _
    refine xQ.iret .int 1 rfl rfl (rfl) ?_
    exact ⟨rfl, hI1, xkq_trans (kR_C k2) (k1_C k)⟩
