/-! run -/
theorem scn_mem {T : List Nat} : ∀ (k s : Nat) (p : xPr), p ∈ (scn T k s).2 → (tch T p.1 = 97 ∨ tch T p.1 = 100 ∨ tch T p.1 = 102) ∧ p.1 < T.length ∧ 7 ≤ p.2 ∧ p.2 ≤ T.length ∧ ∃ a b, a < 10 ∧ b < 10 ∧ a ≠ b ∧ tch T (p.2 - 3) = 48 + a ∧ tch T (p.2 - 1) = 48 + b
  | 0, s, p, h => by cases h
  | k + 1, s, p, h => by
    by_cases h1 : foL (tch T s) = [] ∨ rgt T s < (foL (tch T s)).length
    · rw [scn_bad h1] at h
      cases h
    · obtain ⟨r1, r2, r3, r4⟩ := rgt_ok h1
      have one : (tch T s = 97 ∨ tch T s = 100 ∨ tch T s = 102) ∧ s < T.length ∧ 7 ≤ s + rgt T s ∧ s + rgt T s ≤ T.length ∧ ∃ a b, a < 10 ∧ b < 10 ∧ a ≠ b ∧ tch T (s + rgt T s - 3) = 48 + a ∧ tch T (s + rgt T s - 1) = 48 + b := ⟨r1, by omega, by omega, r3, r4⟩
      by_cases h2 : T.length ≤ s + rgt T s
      · rw [scn_end h1 h2] at h
        rw [List.mem_singleton.mp h]
        exact one
      · by_cases h3 : tch T (s + rgt T s) = 59
        · rw [scn_next h1 h2 h3] at h
          rcases List.mem_cons.mp h with e | e
          · rw [e]; exact one
          · exact scn_mem k _ p e
        · rw [scn_sep h1 h2 h3] at h
          rw [List.mem_singleton.mp h]
          exact one
theorem runE_skip {s : xSt × Nat} {q : Nat × Nat × Nat} (h : (q.1 = 97 ∧ gr s.1.1 q.2.1 q.2.2 = true) ∨ (q.1 = 100 ∧ gr s.1.1 q.2.1 q.2.2 = false)) : runE s q = s := by unfold runE; rw [if_pos h]
theorem runE_do {s : xSt × Nat} {q : Nat × Nat × Nat} (h : ¬ ((q.1 = 97 ∧ gr s.1.1 q.2.1 q.2.2 = true) ∨ (q.1 = 100 ∧ gr s.1.1 q.2.1 q.2.2 = false))) : runE s q = (flipS s.1 q.2.1 q.2.2, s.2 + 1) := by unfold runE; rw [if_neg h]
theorem runE_le (l : List (Nat × Nat × Nat)) : ∀ s, (l.foldl runE s).2 ≤ s.2 + l.length := by
  induction l with
  | nil => intro s; exact Nat.le_refl _
  | cons q t ih =>
    intro s
    have h := ih (runE s q)
    have : (runE s q).2 ≤ s.2 + 1 := by
      unfold runE
      split
      · omega
      · exact Nat.le_refl _
    show (t.foldl runE (runE s q)).2 ≤ s.2 + (t.length + 1)
    omega
theorem c_carry {w : xW} {A : xAb} {kd a b : Nat} (hI : cI w A) (hk : kd < 127) (ha : a < 10) (hb : b < 10) (hne : a ≠ b) : xD MX7_carryOut [.ref 0, .int (nI kd), .int (nI a), .int (nI b)] w (fun r w1 => (((kd = 97 ∧ gr A.1.1 a b = true) ∨ (kd = 100 ∧ gr A.1.1 a b = false)) → r = some (.int 0) ∧ w1 = w) ∧ (¬ ((kd = 97 ∧ gr A.1.1 a b = true) ∨ (kd = 100 ∧ gr A.1.1 a b = false)) → r = some (.int 1) ∧ cI w1 (flipS A.1 a b, A.2)) ∧ xkq [(1, none)] w w1) := by
  refine xD.of ?_
  show xQ MX7_carryOut (0, [some (.ref 0), some (.int (nI kd)), some (.int (nI a)), some (.int (nI b)), none], [], w) _
  refine xQ.go 4 (F1 := (6, [some (.ref 0), some (.int (nI kd)), some (.int (nI a)), some (.int (nI b)), none], [.int (nI b), .int (nI a), .ref 1], w)) rfl ?_
  refine xQ.call rfl (c_joinsA hI) ?_
  show xQ MX7_carryOut (9, [some (.ref 0), some (.int (nI kd)), some (.int (nI a)), some (.int (nI b)), none], [.int (if jn A.1.1 (nI a) (nI b) = true then 1 else 0)], w) _
  rw [jn_nI ha hb]
  refine xQ.go 1 (F1 := (11, [some (.ref 0), some (.int (nI kd)), some (.int (nI a)), some (.int (nI b)), some (.int (if gr A.1.1 a b = true then 1 else 0))], [], w)) rfl ?_
  have yes : ¬ ((kd = 97 ∧ gr A.1.1 a b = true) ∨ (kd = 100 ∧ gr A.1.1 a b = false)) → xQ MX7_carryOut (35, [some (.ref 0), some (.int (nI kd)), some (.int (nI a)), some (.int (nI b)), some (.int (if gr A.1.1 a b = true then 1 else 0))], [], w) (fun r w1 => (((kd = 97 ∧ gr A.1.1 a b = true) ∨ (kd = 100 ∧ gr A.1.1 a b = false)) → r = some (.int 0) ∧ w1 = w) ∧ (¬ ((kd = 97 ∧ gr A.1.1 a b = true) ∨ (kd = 100 ∧ gr A.1.1 a b = false)) → r = some (.int 1) ∧ cI w1 (flipS A.1 a b, A.2)) ∧ xkq [(1, none)] w w1) := by
    intro hno
    obtain ⟨r1, w1, hc1, hr1, i1, k1⟩ := c_flipA (a := a) (b := b) hI ha hb hne
    subst hr1
    refine xQ.go 4 (F1 := (41, [some (.ref 0), some (.int (nI kd)), some (.int (nI a)), some (.int (nI b)), some (.int (if gr A.1.1 a b = true then 1 else 0))], [.int (nI b), .int (nI a), .ref 1], w)) rfl ?_
    refine xQ.call rfl (hc1) ?_
    show xQ MX7_carryOut (44, [some (.ref 0), some (.int (nI kd)), some (.int (nI a)), some (.int (nI b)), some (.int (if gr A.1.1 a b = true then 1 else 0))], [], w1) _
    refine xQ.go 1 (F1 := (45, [some (.ref 0), some (.int (nI kd)), some (.int (nI a)), some (.int (nI b)), some (.int (if gr A.1.1 a b = true then 1 else 0))], [.int 1], w1)) rfl ?_
    refine xQ.iret .boolean 1 rfl rfl (rfl) ?_
    exact ⟨fun h => absurd h hno, fun _ => ⟨rfl, i1⟩, k1⟩
  refine xQ.go 3 (F1 := (bif !decide ((nI kd) = 97) then 22 else 17, [some (.ref 0), some (.int (nI kd)), some (.int (nI a)), some (.int (nI b)), some (.int (if gr A.1.1 a b = true then 1 else 0))], [], w)) rfl ?_
  rw [show (97 : Int32) = nI 97 from rfl, nI_dec (by omega) (by omega)]
  by_cases e97 : kd = 97
  · refine xQ.brF (by rw [decide_eq_true e97]; rfl) ?_
    refine xQ.go 2 (F1 := (bif !decide ((if gr A.1.1 a b = true then 1 else 0) = 0) then 33 else 22, [some (.ref 0), some (.int (nI kd)), some (.int (nI a)), some (.int (nI b)), some (.int (if gr A.1.1 a b = true then 1 else 0))], [], w)) rfl ?_
    by_cases hg : gr A.1.1 a b = true
    · rw [if_pos hg] at yes ⊢
      refine xQ.brT rfl ?_
      refine xQ.go 1 (F1 := (34, [some (.ref 0), some (.int (nI kd)), some (.int (nI a)), some (.int (nI b)), some (.int 1)], [.int 0], w)) rfl ?_
      refine xQ.iret .boolean 1 rfl rfl (rfl) ?_
      exact ⟨fun _ => ⟨rfl, rfl⟩, fun h => absurd (Or.inl ⟨e97, hg⟩) h, xkq_rfl⟩
    · rw [if_neg hg] at yes ⊢
      refine xQ.brF rfl ?_
      refine xQ.go 3 (F1 := (bif !decide ((nI kd) = 100) then 35 else 28, [some (.ref 0), some (.int (nI kd)), some (.int (nI a)), some (.int (nI b)), some (.int 0)], [], w)) rfl ?_
      rw [show (100 : Int32) = nI 100 from rfl, nI_dec (by omega) (by omega)]
      refine xQ.brT (by rw [decide_eq_false (show ¬ kd = 100 by omega)]; rfl) ?_
      exact yes (fun h => h.elim (fun h => hg h.2) (fun h => by have := h.1; omega))
  · refine xQ.brT (by rw [decide_eq_false e97]; rfl) ?_
    refine xQ.go 3 (F1 := (bif !decide ((nI kd) = 100) then 35 else 28, [some (.ref 0), some (.int (nI kd)), some (.int (nI a)), some (.int (nI b)), some (.int (if gr A.1.1 a b = true then 1 else 0))], [], w)) rfl ?_
    rw [show (100 : Int32) = nI 100 from rfl, nI_dec (by omega) (by omega)]
    by_cases e100 : kd = 100
    · refine xQ.brF (by rw [decide_eq_true e100]; rfl) ?_
      refine xQ.go 2 (F1 := (bif !decide ((if gr A.1.1 a b = true then 1 else 0) = 0) then 35 else 33, [some (.ref 0), some (.int (nI kd)), some (.int (nI a)), some (.int (nI b)), some (.int (if gr A.1.1 a b = true then 1 else 0))], [], w)) rfl ?_
      by_cases hg : gr A.1.1 a b = true
      · rw [if_pos hg] at yes ⊢
        refine xQ.brT rfl ?_
        exact yes (fun h => h.elim (fun h => e97 h.1) (fun h => by rw [hg] at h; cases h.2))
      · rw [if_neg hg] at yes ⊢
        refine xQ.brF rfl ?_
        refine xQ.go 1 (F1 := (34, [some (.ref 0), some (.int (nI kd)), some (.int (nI a)), some (.int (nI b)), some (.int 0)], [.int 0], w)) rfl ?_
        refine xQ.iret .boolean 1 rfl rfl (rfl) ?_
        exact ⟨fun _ => ⟨rfl, rfl⟩, fun h => absurd (Or.inr ⟨e100, Bool.eq_false_iff.mpr hg⟩) h, xkq_rfl⟩
    · refine xQ.brT (by rw [decide_eq_false e100]; rfl) ?_
      exact yes (fun h => h.elim (fun h => e97 h.1) (fun h => e100 h.1))
theorem C_run {w : xW} {A : xAb} (hI : cI w A) : xD MX7_run [.ref 0] w (cQ w (sRun A)) := by
  obtain ⟨ak, n, hh, s, t, p, q, u, o⟩ := hI
  refine xD.of ?_
  show xQ MX7_run (0, [some (.ref 0), none, none, none], [], w) _
  obtain ⟨r1, w1, hc1, hr1, c9, c4, c10, k1⟩ := c_scan t
  subst hr1
  refine xQ.go 2 (F1 := (4, [some (.ref 0), none, none, none], [.ref 7], w)) rfl ?_
  refine xQ.call rfl (hc1) ?_
  show xQ MX7_run (7, [some (.ref 0), none, none, none], [.int ((scn A.2.2.2 11 0).1)], w1) _
  have hI1 : cI w1 A := ⟨ak, nowC_kq n k1, hisC_kq hh k1, snpC_kq s k1, tX_kq t k1 rfl rfl, pOK_kq_p p k1, pOK_kq_t q k1, wOK_kq u k1, oOK_kq o k1⟩
  unfold sRun
  refine xQ.go 4 (F1 := (bif decide (((scn A.2.2.2 11 0).1) = (-5)) then 19 else 14, [some (.ref 0), some (.int ((scn A.2.2.2 11 0).1)), none, none], [], w1)) rfl ?_
  by_cases hf : (scn A.2.2.2 11 0).1 = -5
  · rw [if_pos hf]
    refine xQ.brT (decide_eq_true hf) ?_
    obtain ⟨r2, w2, hc2, hr2, i2, k2⟩ := c_remA hI1
    subst hr2
    refine xQ.go 4 (F1 := (27, [some (.ref 0), some (.int ((scn A.2.2.2 11 0).1)), none, none], [.ref 1, .ref 3], w1)) rfl ?_
    refine xQ.call rfl (hc2) ?_
    show xQ MX7_run (30, [some (.ref 0), some (.int ((scn A.2.2.2 11 0).1)), none, none], [], w2) _
    refine xQ.go 4 (F1 := (34, [some (.ref 0), some (.int ((scn A.2.2.2 11 0).1)), some (.int 0), some (.int 0)], [], w2)) rfl ?_
    rw [hf]
    have hEl : (edL A.2.2.2).length = (scn A.2.2.2 11 0).2.length := by unfold edL; rw [List.length_map]
    refine xQ.loop (S := xW) (fun k s => (34, [some (.ref 0), some (.int (-5)), some (.int (nI (((edL A.2.2.2).take k).foldl runE (A.1, 0)).2)), some (.int (nI k))], [], s)) (fun k s => cI s ((((edL A.2.2.2).take k).foldl runE (A.1, 0)).1, recH A.2.1 A.1, A.2.2) ∧ xkq [(1, none)] w2 s) ((edL A.2.2.2).length) w2 (rfl) (⟨i2, xkq_rfl⟩) ?_ ?_
    · intro k s hk hI K
      obtain ⟨j1, j2⟩ := hI
      have hk2 : k < (scn A.2.2.2 11 0).2.length := by omega
      obtain ⟨p, hp⟩ : ∃ p, p = (scn A.2.2.2 11 0).2[k] := ⟨_, rfl⟩
      have hpk : (scn A.2.2.2 11 0).2[k]? = some p := by rw [hp]; exact List.getElem?_eq_getElem hk2
      obtain ⟨m1, m2, m3, m4, a, b, ha, hb, hne, m5, m6⟩ := scn_mem 11 0 p (List.mem_of_getElem? hpk)
      obtain ⟨d9, d10⟩ := c9 k p hpk
      have kk : xkq [(1, none), (3, none), (4, none), (5, none), (6, none)] w1 s := xkq_trans (xkq_mono rfl k2) (xkq_mono rfl j2)
      have hEk : (edL A.2.2.2)[k]? = some (tch A.2.2.2 p.1, a, b) := by
        unfold edL
        rw [List.getElem?_map, hpk]
        show some (tch A.2.2.2 p.1, tch A.2.2.2 (p.2 - 3) - 48, tch A.2.2.2 (p.2 - 1) - 48) = _
        rw [m5, m6, Nat.add_sub_cancel_left, Nat.add_sub_cancel_left]
      have hst : ((edL A.2.2.2).take (k + 1)).foldl runE (A.1, 0) = runE (((edL A.2.2.2).take k).foldl runE (A.1, 0)) (tch A.2.2.2 p.1, a, b) := by
        rw [List.take_add_one, hEk, List.foldl_append]
        rfl
      rw [hst] at K
      generalize ((edL A.2.2.2).take k).foldl runE (A.1, 0) = z at *
      have hkle := tch_le j1.2.2.2.2.1.2.1 p.1
      refine xQ.go 3 (F1 := (bif decide (10 ≤ (nI k)) then 91 else 40, [some (.ref 0), some (.int (-5)), some (.int (nI z.2)), some (.int (nI k))], [], s)) rfl ?_
      refine xQ.brF (decide_eq_false (nI_ge (b := 10) (by omega) (by omega))) ?_
      refine xQ.go 3 (F1 := (45, [some (.ref 0), some (.int (-5)), some (.int (nI z.2)), some (.int (nI k))], [.ref 7, .int (nI k)], s)) rfl ?_
      refine xQ.call rfl (c_tedits) ?_
      show xQ MX7_run (48, [some (.ref 0), some (.int (-5)), some (.int (nI z.2)), some (.int (nI k))], [.int (s.1 7 4), .int (nI k)], s) _
      rw [xkq_at kk 7 4, c4]
      refine xQ.go 1 (F1 := (bif decide ((nI (scn A.2.2.2 11 0).2.length) ≤ (nI k)) then 91 else 51, [some (.ref 0), some (.int (-5)), some (.int (nI z.2)), some (.int (nI k))], [], s)) rfl ?_
      refine xQ.brF (decide_eq_false (nI_ge hk2 (by omega))) ?_
      refine xQ.go 4 (F1 := (57, [some (.ref 0), some (.int (-5)), some (.int (nI z.2)), some (.int (nI k))], [.int (nI k), .ref 7, .ref 0], s)) rfl ?_
      refine xQ.call rfl (c_kind j1.2.2.2.2.1 (show k < 10 by omega) ((xkq_at kk 9 k).trans d9) m2) ?_
      show xQ MX7_run (60, [some (.ref 0), some (.int (-5)), some (.int (nI z.2)), some (.int (nI k))], [.int (nI (tch A.2.2.2 p.1)), .ref 0], s) _
      refine xQ.go 3 (F1 := (65, [some (.ref 0), some (.int (-5)), some (.int (nI z.2)), some (.int (nI k))], [.int (nI k), .ref 7, .int (nI (tch A.2.2.2 p.1)), .ref 0], s)) rfl ?_
      refine xQ.call rfl (c_first j1.2.2.2.2.1 (show k < 10 by omega) ((xkq_at kk 10 k).trans d10) ⟨m3, m4⟩ m5) ?_
      show xQ MX7_run (68, [some (.ref 0), some (.int (-5)), some (.int (nI z.2)), some (.int (nI k))], [.int (nI a), .int (nI (tch A.2.2.2 p.1)), .ref 0], s) _
      refine xQ.go 3 (F1 := (73, [some (.ref 0), some (.int (-5)), some (.int (nI z.2)), some (.int (nI k))], [.int (nI k), .ref 7, .int (nI a), .int (nI (tch A.2.2.2 p.1)), .ref 0], s)) rfl ?_
      refine xQ.call rfl (c_second j1.2.2.2.2.1 (show k < 10 by omega) ((xkq_at kk 10 k).trans d10) ⟨m3, m4⟩ m6) ?_
      show xQ MX7_run (76, [some (.ref 0), some (.int (-5)), some (.int (nI z.2)), some (.int (nI k))], [.int (nI b), .int (nI a), .int (nI (tch A.2.2.2 p.1)), .ref 0], s) _
      obtain ⟨r3, w3, hc3, g1, g2, g3⟩ := c_carry (kd := tch A.2.2.2 p.1) j1 (by omega) ha hb hne
      by_cases hsk : (tch A.2.2.2 p.1 = 97 ∧ gr z.1.1 a b = true) ∨ (tch A.2.2.2 p.1 = 100 ∧ gr z.1.1 a b = false)
      · obtain ⟨e1, e2⟩ := g1 hsk
        subst e1
        refine xQ.call rfl (hc3) ?_
        show xQ MX7_run (79, [some (.ref 0), some (.int (-5)), some (.int (nI z.2)), some (.int (nI k))], [.int 0], w3) _
        refine xQ.go 1 (F1 := (bif decide (0 = 0) then 85 else 82, [some (.ref 0), some (.int (-5)), some (.int (nI z.2)), some (.int (nI k))], [], w3)) rfl ?_
        refine xQ.brT (rfl) ?_
        refine xQ.go 2 (F1 := (34, [some (.ref 0), some (.int (-5)), some (.int (nI z.2)), some (.int ((nI k) + 1))], [], w3)) rfl ?_
        rw [← nI_succ]
        rw [runE_skip hsk] at K
        rw [e2]
        exact K s ⟨j1, j2⟩
      · obtain ⟨e1, e2⟩ := g2 hsk
        subst e1
        refine xQ.call rfl (hc3) ?_
        show xQ MX7_run (79, [some (.ref 0), some (.int (-5)), some (.int (nI z.2)), some (.int (nI k))], [.int 1], w3) _
        refine xQ.go 1 (F1 := (bif decide (1 = 0) then 85 else 82, [some (.ref 0), some (.int (-5)), some (.int (nI z.2)), some (.int (nI k))], [], w3)) rfl ?_
        refine xQ.brF (rfl) ?_
        refine xQ.go 3 (F1 := (34, [some (.ref 0), some (.int (-5)), some (.int ((nI z.2) + 1)), some (.int ((nI k) + 1))], [], w3)) rfl ?_
        rw [← nI_succ, ← nI_succ]
        rw [runE_do hsk] at K
        exact K w3 ⟨e2, xkq_trans j2 g3⟩
    · intro s hI
      obtain ⟨j1, j2⟩ := hI
      have kk : xkq [(1, none), (3, none), (4, none), (5, none), (6, none)] w1 s := xkq_trans (xkq_mono rfl k2) (xkq_mono rfl j2)
      rw [List.take_length] at *
      have fin : xQ MX7_run (91, [some (.ref 0), some (.int (-5)), some (.int (nI ((edL A.2.2.2).foldl runE (A.1, 0)).2)), some (.int (nI (edL A.2.2.2).length))], [], s) (cQ w (nI ((edL A.2.2.2).foldl runE (A.1, 0)).2, (((edL A.2.2.2).foldl runE (A.1, 0)).1, recH A.2.1 A.1, A.2.2))) := by
        refine xQ.go 1 (F1 := (92, [some (.ref 0), some (.int (-5)), some (.int (nI ((edL A.2.2.2).foldl runE (A.1, 0)).2)), some (.int (nI (edL A.2.2.2).length))], [.int (nI ((edL A.2.2.2).foldl runE (A.1, 0)).2)], s)) rfl ?_
        refine xQ.iret .int 1 rfl rfl (rfl) ?_
        exact ⟨rfl, j1, xkq_trans (xkq_mono rfl k1) (xkq_mono rfl kk)⟩
      by_cases e10 : (edL A.2.2.2).length = 10
      · refine xQ.go 3 (F1 := (bif decide (10 ≤ (nI (edL A.2.2.2).length)) then 91 else 40, [some (.ref 0), some (.int (-5)), some (.int (nI ((edL A.2.2.2).foldl runE (A.1, 0)).2)), some (.int (nI (edL A.2.2.2).length))], [], s)) rfl ?_
        refine xQ.brT (by rw [e10]; rfl) ?_
        exact fin
      · refine xQ.go 3 (F1 := (bif decide (10 ≤ (nI (edL A.2.2.2).length)) then 91 else 40, [some (.ref 0), some (.int (-5)), some (.int (nI ((edL A.2.2.2).foldl runE (A.1, 0)).2)), some (.int (nI (edL A.2.2.2).length))], [], s)) rfl ?_
        refine xQ.brF (decide_eq_false (nI_ge (b := 10) (by omega) (by omega))) ?_
        refine xQ.go 3 (F1 := (45, [some (.ref 0), some (.int (-5)), some (.int (nI ((edL A.2.2.2).foldl runE (A.1, 0)).2)), some (.int (nI (edL A.2.2.2).length))], [.ref 7, .int (nI (edL A.2.2.2).length)], s)) rfl ?_
        refine xQ.call rfl (c_tedits) ?_
        show xQ MX7_run (48, [some (.ref 0), some (.int (-5)), some (.int (nI ((edL A.2.2.2).foldl runE (A.1, 0)).2)), some (.int (nI (edL A.2.2.2).length))], [.int (s.1 7 4), .int (nI (edL A.2.2.2).length)], s) _
        rw [xkq_at kk 7 4, c4, ← hEl]
        refine xQ.go 1 (F1 := (bif decide ((nI (edL A.2.2.2).length) ≤ (nI (edL A.2.2.2).length)) then 91 else 51, [some (.ref 0), some (.int (-5)), some (.int (nI ((edL A.2.2.2).foldl runE (A.1, 0)).2)), some (.int (nI (edL A.2.2.2).length))], [], s)) rfl ?_
        refine xQ.brT (decide_eq_true (Int32.le_refl _)) ?_
        exact fin
  · rw [if_neg hf]
    refine xQ.brF (decide_eq_false hf) ?_
    refine xQ.go 3 (F1 := (18, [some (.ref 0), some (.int ((scn A.2.2.2 11 0).1)), none, none], [.int ((-100) - ((scn A.2.2.2 11 0).1))], w1)) rfl ?_
    refine xQ.iret .int 1 rfl rfl (rfl) ?_
    exact ⟨rfl, hI1, xkq_mono rfl k1⟩
