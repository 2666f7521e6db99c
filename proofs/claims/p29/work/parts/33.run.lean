theorem sm_id : sm (fun x => x) 10 = 45 := rfl
theorem ec_45 (H : Nat → Nat → Bool) : ec H ≤ 45 := by
  have := sm_le (f := fun x => cnt (H x) x) (g := fun x => x) (n := 10) (fun i _ => cnt_le _ _)
  rw [sm_id] at this
  exact this
theorem erun_no {H : Nat → Nat → Bool} {S : Nat → Bool} {m n : Nat} {s : xSg} (h : ¬ s.2.2.2 < m) : erun H S m n s = s := by
  cases n with
  | zero => rfl
  | succ n =>
    show (if _ then _ else _) = _
    rw [if_neg h]
theorem erun_none {H : Nat → Nat → Bool} {S : Nat → Bool} {m n : Nat} {s : xSg} (h : estep H S s = none) : erun H S m n s = s := by
  cases n with
  | zero => rfl
  | succ n =>
    show (if _ then _ else _) = _
    rw [h]
    split <;> rfl
theorem erun_some {H : Nat → Nat → Bool} {S : Nat → Bool} {m n : Nat} {s s1 : xSg} (hlt : s.2.2.2 < m) (h : estep H S s = some s1) : erun H S m (n + 1) s = erun H S m n s1 := by
  show (if _ then _ else _) = _
  rw [h, if_pos hlt]
theorem c_embed_p {w : xW} {G : Nat → Nat → Bool} {S : Nat → Bool} (hg : gok G) (hb : BIC (bH G S) S) (hS : ∀ v, S v = true → v < 10) (h1 : 1 ≤ ec (bH G S)) (hw : ∀ v, v < 10 → w.1 12 v = mk (G v)) : xD MX1_embed [.ref 18, .ref 12, .int (mk S)] w (fun r w1 => r = none ∧ eG 18 19 w1 (bH G S) S ∧ (ec (bH G S) = 1 → w1.1 18 5 = 1 ∧ w1.1 18 8 = 1) ∧ (ec (bH G S) ≠ 1 → eP 18 20 w1 (erun (bH G S) S (ec (bH G S)) 45 (cyc1 (bH G S) S)).1 (erun (bH G S) S (ec (bH G S)) 45 (cyc1 (bH G S) S)).2.1 (erun (bH G S) S (ec (bH G S)) 45 (cyc1 (bH G S) S)).2.2.2 ∧ eF 18 21 22 w1 (erun (bH G S) S (ec (bH G S)) 45 (cyc1 (bH G S) S)).2.2.1) ∧ xkq [(18, none), (19, none), (20, none), (21, none), (22, none), (23, none), (24, none)] w w1) := by
  refine xD.of ?_
  show xQ MX1_embed (0, [some (.ref 18), some (.ref 12), some (.int (mk S)), none, none], [], w) _
  obtain ⟨r1, w1, hc1, hr1, hG1, hP1, hk1⟩ := c_start_p (S := S) hg hw
  subst hr1
  obtain ⟨H, hH⟩ : ∃ H, H = bH G S := ⟨_, rfl⟩
  rw [← hH] at hb h1 hG1 ⊢
  have hk1 : xkq [(18, none), (19, none), (20, none), (21, none), (22, none), (23, none), (24, none)] w w1 := xkq_mono rfl hk1
  have he45 := ec_45 H
  refine xQ.go 3 (F1 := (3, [some (.ref 18), some (.ref 12), some (.int (mk S)), none, none], [.int (mk S), .ref 12, .ref 18], w)) rfl ?_
  refine xQ.call rfl (hc1) ?_
  show xQ MX1_embed (6, [some (.ref 18), some (.ref 12), some (.int (mk S)), none, none], [], w1) _
  by_cases e1 : ec H = 1
  · refine xQ.go 4 (F1 := (bif !decide ((w1.1 18 4) = 1) then 25 else 14, [some (.ref 18), some (.ref 12), some (.int (mk S)), none, none], [], w1)) rfl ?_
    refine xQ.brF (by rw [hG1.2.2, e1]; rfl) ?_
    refine xQ.go 6 (F1 := (24, [some (.ref 18), some (.ref 12), some (.int (mk S)), none, none], [], (xuI (xuI w1 18 5 1) 18 8 1))) rfl ?_
    refine xQ.vret 1 rfl rfl ?_
    refine ⟨rfl, ⟨fun v hv => ?_, ?_, ?_⟩, fun _ => ⟨?_, ?_⟩, fun h => absurd e1 h, xkq_I (xkq_I hk1 rfl) rfl⟩
    · simp [uI1, hG1.1 v hv]
    · simp [uI1, hG1.2.1]
    · simp [uI1, hG1.2.2]
    · simp [uI1]
    · simp [uI1]
  · refine xQ.go 4 (F1 := (bif !decide ((w1.1 18 4) = 1) then 25 else 14, [some (.ref 18), some (.ref 12), some (.int (mk S)), none, none], [], w1)) rfl ?_
    refine xQ.brT (by rw [hG1.2.2, show (1 : Int32) = nI 1 from rfl, decide_eq_false (fun e => e1 (jI_inj (b := 1) (by omega) (by omega) e))]; rfl) ?_
    obtain ⟨r2, w2, hc2, hr2, hP2, hF2, hk2⟩ := c_cycle_p hb hS (by omega) hG1 hP1
    subst hr2
    obtain ⟨_, _, _, _, _, _, _, _, _, _, _, _, _, _, _, _, hEO⟩ := cyc0_ok hb hS (show 2 ≤ ec H by omega)
    refine xQ.go 1 (F1 := (26, [some (.ref 18), some (.ref 12), some (.int (mk S)), none, none], [.ref 18], w1)) rfl ?_
    refine xQ.call rfl (hc2) ?_
    show xQ MX1_embed (29, [some (.ref 18), some (.ref 12), some (.int (mk S)), none, none], [.int 1], w2) _
    refine xQ.go 3 (F1 := (33, [some (.ref 18), some (.ref 12), some (.int (mk S)), some (.int 1), some (.int 0)], [], w2)) rfl ?_
    have hG2 : eG 18 19 w2 H S := ⟨fun v hv => by rw [xkq_at hk2 19 v]; exact hG1.1 v hv, by rw [xkq_at hk2 18 2]; exact hG1.2.1, by rw [xkq_at hk2 18 4]; exact hG1.2.2⟩
    obtain ⟨fin, hfin⟩ : ∃ fin, fin = erun H S (ec H) 45 (cyc1 H S) := ⟨_, rfl⟩
    rw [← hfin]
    have done : ∀ (w3 : xW) (x y : Int32), eG 18 19 w3 H S → eP 18 20 w3 fin.1 fin.2.1 fin.2.2.2 → eF 18 21 22 w3 fin.2.2.1 → xkq [(18, none), (19, none), (20, none), (21, none), (22, none), (23, none), (24, none)] w w3 → xQ MX1_embed (89, [some (.ref 18), some (.ref 12), some (.int (mk S)), some (.int x), some (.int y)], [], w3) (fun r w1 => r = none ∧ eG 18 19 w1 H S ∧ (ec H = 1 → w1.1 18 5 = 1 ∧ w1.1 18 8 = 1) ∧ (ec H ≠ 1 → eP 18 20 w1 fin.1 fin.2.1 fin.2.2.2 ∧ eF 18 21 22 w1 fin.2.2.1) ∧ xkq [(18, none), (19, none), (20, none), (21, none), (22, none), (23, none), (24, none)] w w1) := by
      intro w3 x y d1 d2 d3 d4
      refine xQ.vret 1 rfl rfl ?_
      exact ⟨rfl, d1, fun h => absurd h e1, fun _ => ⟨d2, d3⟩, d4⟩
    refine xQ.loop (S := xW × xSg × Bool) (fun k s => (33, [some (.ref 18), some (.ref 12), some (.int (mk S)), some (.int (bif s.2.2 then 1 else 0)), some (.int (nI k))], [], s.1)) (fun k s => eG 18 19 s.1 H S ∧ eP 18 20 s.1 s.2.1.1 s.2.1.2.1 s.2.1.2.2.2 ∧ eF 18 21 22 s.1 s.2.1.2.2.1 ∧ EOK H S s.2.1 ∧ (s.2.2 = true → erun H S (ec H) (45 - k) s.2.1 = fin) ∧ (s.2.2 = false → s.2.1 = fin) ∧ xkq [(18, none), (19, none), (20, none), (21, none), (22, none), (23, none), (24, none)] w s.1) 45 (w2, cyc1 H S, true) (rfl) (⟨hG2, hP2, hF2, hEO, fun _ => hfin.symm, (fun h => by cases h), xkq_trans hk1 (xkq_mono rfl hk2)⟩) ?_ ?_
    · intro k s hk hI K
      obtain ⟨w3, sg, g⟩ := s
      obtain ⟨i1, i2, i3, i4, i5, i6, i7⟩ := hI
      refine xQ.go 3 (F1 := (bif decide (45 ≤ (nI k)) then 89 else 40, [some (.ref 18), some (.ref 12), some (.int (mk S)), some (.int (bif g then 1 else 0)), some (.int (nI k))], [], w3)) rfl ?_
      refine xQ.brF (decide_eq_false (nI_ge (b := 45) (by omega) (by omega))) ?_
      cases g with
      | false =>
        show xQ MX1_embed (40, [some (.ref 18), some (.ref 12), some (.int (mk S)), some (.int 0), some (.int (nI k))], [], w3) _
        refine xQ.go 2 (F1 := (bif decide (0 = 0) then 89 else 44, [some (.ref 18), some (.ref 12), some (.int (mk S)), some (.int 0), some (.int (nI k))], [], w3)) rfl ?_
        refine xQ.brT (rfl) ?_
        have i6 : sg = fin := i6 rfl
        subst i6
        exact done w3 _ _ i1 i2 i3 i7
      | true =>
        have i5 := i5 rfl
        show xQ MX1_embed (40, [some (.ref 18), some (.ref 12), some (.int (mk S)), some (.int 1), some (.int (nI k))], [], w3) _
        refine xQ.go 2 (F1 := (bif decide (1 = 0) then 89 else 44, [some (.ref 18), some (.ref 12), some (.int (mk S)), some (.int 1), some (.int (nI k))], [], w3)) rfl ?_
        refine xQ.brF (rfl) ?_
        have hle : sg.2.2.2 ≤ ec H := EOK_le hb i4
        by_cases hlt : sg.2.2.2 < ec H
        · refine xQ.go 5 (F1 := (bif decide ((w3.1 18 4) ≤ (w3.1 18 5)) then 89 else 55, [some (.ref 18), some (.ref 12), some (.int (mk S)), some (.int 1), some (.int (nI k))], [], w3)) rfl ?_
          refine xQ.brF (by rw [i1.2.2, i2.2.2]; exact decide_eq_false (nI_ge hlt (by omega))) ?_
          obtain ⟨r4, w4, hc4, hr4, hC4, hk4⟩ := c_choose_p hb i1 i2 i3 (EOK_max i4).1
          subst hr4
          have q1 : eG 18 19 w4 H S := ⟨fun v hv => by rw [xkq_at hk4 19 v]; exact i1.1 v hv, by rw [xkq_at hk4 18 2]; exact i1.2.1, by rw [xkq_at hk4 18 4]; exact i1.2.2⟩
          have q2 : eP 18 20 w4 sg.1 sg.2.1 sg.2.2.2 := ⟨fun v hv => by rw [xkq_at hk4 20 v]; exact i2.1 v hv, by rw [xkq_at hk4 18 3]; exact i2.2.1, by rw [xkq_at hk4 18 5]; exact i2.2.2⟩
          have q3 : eF 18 21 22 w4 sg.2.2.1 := ⟨by rw [xkq_at hk4 18 8]; exact i3.1, fun i c hi => ⟨by rw [xkq_at hk4 21 i]; exact (i3.2 i c hi).1, fun x y hxy => by rw [xkq_at hk4 22 _]; exact (i3.2 i c hi).2 x y hxy⟩⟩
          refine xQ.go 1 (F1 := (56, [some (.ref 18), some (.ref 12), some (.int (mk S)), some (.int 1), some (.int (nI k))], [.ref 18], w3)) rfl ?_
          refine xQ.call rfl (hc4) ?_
          show xQ MX1_embed (59, [some (.ref 18), some (.ref 12), some (.int (mk S)), some (.int 1), some (.int (nI k))], [.int (if (chs sg.2.2.1 (frs H S sg.1 sg.2.1 100)).isSome then 1 else 0)], w4) _
          cases hch : chs sg.2.2.1 (frs H S sg.1 sg.2.1 100) with
          | none =>
            show xQ MX1_embed (59, [some (.ref 18), some (.ref 12), some (.int (mk S)), some (.int 1), some (.int (nI k))], [.int 0], w4) _
            refine xQ.go 1 (F1 := (bif decide (0 = 0) then 73 else 62, [some (.ref 18), some (.ref 12), some (.int (mk S)), some (.int 1), some (.int (nI k))], [], w4)) rfl ?_
            refine xQ.brT (rfl) ?_
            refine xQ.go 2 (F1 := (75, [some (.ref 18), some (.ref 12), some (.int (mk S)), some (.int 0), some (.int (nI k))], [], w4)) rfl ?_
            refine xQ.go 2 (F1 := (bif decide (0 = 0) then 83 else 79, [some (.ref 18), some (.ref 12), some (.int (mk S)), some (.int 0), some (.int (nI k))], [], w4)) rfl ?_
            refine xQ.brT (rfl) ?_
            refine xQ.go 2 (F1 := (33, [some (.ref 18), some (.ref 12), some (.int (mk S)), some (.int 0), some (.int ((nI k) + 1))], [], w4)) rfl ?_
            rw [← nI_succ]
            have hst : estep H S sg = none := by
              unfold estep
              rw [hch]
            rw [erun_none hst] at i5
            exact K (w4, sg, false) ⟨q1, q2, q3, i4, (fun h => by cases h), fun _ => i5, xkq_trans i7 (xkq_mono rfl hk4)⟩
          | some q =>
            have hC4 := hC4 q hch
            obtain ⟨u, inn, z, f, A, B, xs, ys, s1, s2, s3, s4, s5, s6, s7, s8, s9⟩ := estep_ok hb hS i4 hch
            show xQ MX1_embed (59, [some (.ref 18), some (.ref 12), some (.int (mk S)), some (.int 1), some (.int (nI k))], [.int 1], w4) _
            refine xQ.go 1 (F1 := (bif decide (1 = 0) then 73 else 62, [some (.ref 18), some (.ref 12), some (.int (mk S)), some (.int 1), some (.int (nI k))], [], w4)) rfl ?_
            refine xQ.brF (rfl) ?_
            have hfo := frs_ok hb (P := sg.1) (PV := sg.2.1) 100 (Nat.le_refl _) q (chs_mem hch).1
            obtain ⟨r5, w5, hc5, hr5, hL5, hk5⟩ := c_cpath_p hb q1 hC4 hfo s1
            subst hr5
            refine xQ.go 1 (F1 := (63, [some (.ref 18), some (.ref 12), some (.int (mk S)), some (.int 1), some (.int (nI k))], [.ref 18], w4)) rfl ?_
            refine xQ.call rfl (hc5) ?_
            show xQ MX1_embed (66, [some (.ref 18), some (.ref 12), some (.int (mk S)), some (.int 1), some (.int (nI k))], [.int 1], w5) _
            refine xQ.go 1 (F1 := (bif decide (1 = 0) then 73 else 69, [some (.ref 18), some (.ref 12), some (.int (mk S)), some (.int 1), some (.int (nI k))], [], w5)) rfl ?_
            refine xQ.brF (rfl) ?_
            refine xQ.go 3 (F1 := (75, [some (.ref 18), some (.ref 12), some (.int (mk S)), some (.int 1), some (.int (nI k))], [], w5)) rfl ?_
            refine xQ.go 2 (F1 := (bif decide (1 = 0) then 83 else 79, [some (.ref 18), some (.ref 12), some (.int (mk S)), some (.int 1), some (.int (nI k))], [], w5)) rfl ?_
            refine xQ.brF (rfl) ?_
            have t1 : eG 18 19 w5 H S := ⟨fun v hv => by rw [xkq_at hk5 19 v]; exact q1.1 v hv, by rw [xkq_at hk5 18 2]; exact q1.2.1, by rw [xkq_at hk5 18 4]; exact q1.2.2⟩
            have t2 : eP 18 20 w5 sg.1 sg.2.1 sg.2.2.2 := ⟨fun v hv => by rw [xkq_at hk5 20 v]; exact q2.1 v hv, by rw [xkq_at hk5 18 3]; exact q2.2.1, by rw [xkq_at hk5 18 5]; exact q2.2.2⟩
            have t3 : eF 18 21 22 w5 sg.2.2.1 := ⟨by rw [xkq_at hk5 18 8]; exact q3.1, fun i c hi => ⟨by rw [xkq_at hk5 21 i]; exact (q3.2 i c hi).1, fun x y hxy => by rw [xkq_at hk5 22 _]; exact (q3.2 i c hi).2 x y hxy⟩⟩
            have hpth : pth H q = u :: inn ++ [z] := s1.1
            rw [hpth] at hL5
            have hIV := i4.1
            have hfm : f ∈ sg.2.2.1 := List.mem_of_getElem? s2
            have hff := hIV.2.2.2.1 f hfm
            have hPV10 : ∀ v, sg.2.1 v = true → v < 10 := fun v hv => hS v (hIV.2.2.1 v hv)
            have hrot : u :: xs ++ z :: ys = (u :: B) ++ A := by rw [List.cons_append, List.cons_append, s6]
            have hmem : ∀ v, v ∈ f ↔ v ∈ u :: xs ++ z :: ys := fun v => by
              rw [hrot, s3]
              simp only [List.mem_append]
              exact or_comm
            have hfn : (u :: xs ++ z :: ys).Nodup := by
              rw [hrot]
              have := hff.1
              rw [s3] at this
              exact (List.perm_append_comm.nodup_iff).mp this
            have hmx := EOK_max s9
            have hlen : sg.2.2.1.length < 16 := by
              have := hmx.1
              simp only [List.length_append, List.length_set, List.length_cons, List.length_nil] at this
              omega
            have hPu : sg.2.1 u = true := hff.2.2 u ((hmem u).mpr (by simp))
            have hPz : sg.2.1 z = true := hff.2.2 z ((hmem z).mpr (by simp))
            obtain ⟨r6, w6, hc6, hr6, hP6, hF6, hk6⟩ := c_split_p t2 t3 hL5 ((xkq_at hk5 18 11).trans hC4.2.2.1) hlen s2 hmem (fun q => by rw [hrot, s3]; exact dts_rot A (u :: B) q) hfn (fun v hv => hPV10 v (hff.2.2 v ((hmem v).mpr hv))) s1.2.2.2.2.2.2.2.1 (fun v hv => ⟨(s1.2.2.2.2.2.2.2.2.1 v hv).1, fun h => by
              have h2 := hff.2.2 v ((hmem v).mpr h)
              rw [(s1.2.2.2.2.2.2.2.2.1 v hv).2.1] at h2
              cases h2⟩) hPu (fun g hg x hx => hPV10 x ((hIV.2.2.2.1 g hg).2.2 x hx))
            subst hr6
            refine xQ.go 1 (F1 := (80, [some (.ref 18), some (.ref 12), some (.int (mk S)), some (.int 1), some (.int (nI k))], [.ref 18], w5)) rfl ?_
            refine xQ.call rfl (hc6) ?_
            show xQ MX1_embed (83, [some (.ref 18), some (.ref 12), some (.int (mk S)), some (.int 1), some (.int (nI k))], [], w6) _
            refine xQ.go 2 (F1 := (33, [some (.ref 18), some (.ref 12), some (.int (mk S)), some (.int 1), some (.int ((nI k) + 1))], [], w6)) rfl ?_
            rw [← nI_succ]
            have hn45 : 45 - k = (45 - (k + 1)) + 1 := by omega
            rw [hn45, erun_some hlt s8] at i5
            refine K (w6, (addP sg.1 (u :: inn ++ [z]), addV sg.2.1 inn, sg.2.2.1.set (ffit q.2 sg.2.2.1) (u :: xs ++ z :: inn.reverse) ++ [z :: ys ++ u :: inn], sg.2.2.2 + inn.length + 1), true) ⟨⟨fun v hv => by rw [xkq_at hk6 19 v]; exact t1.1 v hv, by rw [xkq_at hk6 18 2]; exact t1.2.1, by rw [xkq_at hk6 18 4]; exact t1.2.2⟩, ⟨hP6.1, ?_, ?_⟩, hF6, s9, fun _ => i5, (fun h => by cases h), xkq_trans i7 (xkq_trans (xkq_mono rfl hk4) (xkq_trans (xkq_mono rfl hk5) (xkq_mono rfl hk6)))⟩
            · rw [hP6.2.1]
              refine mk_ext fun v _ => Bool.eq_iff_iff.mpr ?_
              rw [addV_iff, addV_iff]
              simp only [List.cons_append, List.mem_cons, List.mem_append, List.not_mem_nil, or_false]
              constructor
              · rintro (h | h | h | h)
                · exact Or.inl h
                · rw [h]; exact Or.inl hPu
                · exact Or.inr h
                · rw [h]; exact Or.inl hPz
              · rintro (h | h)
                · exact Or.inl h
                · exact Or.inr (Or.inr (Or.inl h))
            · exact hP6.2.2
        · refine xQ.go 5 (F1 := (bif decide ((w3.1 18 4) ≤ (w3.1 18 5)) then 89 else 55, [some (.ref 18), some (.ref 12), some (.int (mk S)), some (.int 1), some (.int (nI k))], [], w3)) rfl ?_
          refine xQ.brT (by rw [i1.2.2, show w3.1 18 5 = nI sg.2.2.2 from i2.2.2]; exact decide_eq_true (nI_le (by omega) (by omega))) ?_
          rw [erun_no hlt] at i5
          subst i5
          exact done w3 _ _ i1 i2 i3 i7
    · intro s hI
      obtain ⟨w3, sg, g⟩ := s
      obtain ⟨i1, i2, i3, i4, i5, i6, i7⟩ := hI
      have hsf : sg = fin := by
        cases g with
        | false => exact i6 rfl
        | true => exact i5 rfl
      subst hsf
      refine xQ.go 3 (F1 := (bif decide (45 ≤ (nI 45)) then 89 else 40, [some (.ref 18), some (.ref 12), some (.int (mk S)), some (.int (bif g then 1 else 0)), some (.int (nI 45))], [], w3)) rfl ?_
      refine xQ.brT (rfl) ?_
      exact done w3 _ _ i1 i2 i3 i7

theorem c_embed_t {w : xW} {G : Nat → Nat → Bool} {S : Nat → Bool} (hg : gok G) (hb : BIC (bH G S) S) (hS : ∀ v, S v = true → v < 10) (h1 : 1 ≤ ec (bH G S)) (hw : ∀ v, v < 10 → w.1 26 v = mk (G v)) : xD MX1_embed [.ref 32, .ref 26, .int (mk S)] w (fun r w1 => r = none ∧ eG 32 33 w1 (bH G S) S ∧ (ec (bH G S) = 1 → w1.1 32 5 = 1 ∧ w1.1 32 8 = 1) ∧ (ec (bH G S) ≠ 1 → eP 32 34 w1 (erun (bH G S) S (ec (bH G S)) 45 (cyc1 (bH G S) S)).1 (erun (bH G S) S (ec (bH G S)) 45 (cyc1 (bH G S) S)).2.1 (erun (bH G S) S (ec (bH G S)) 45 (cyc1 (bH G S) S)).2.2.2 ∧ eF 32 35 36 w1 (erun (bH G S) S (ec (bH G S)) 45 (cyc1 (bH G S) S)).2.2.1) ∧ xkq [(32, none), (33, none), (34, none), (35, none), (36, none), (37, none), (38, none)] w w1) := by
  refine xD.of ?_
  show xQ MX1_embed (0, [some (.ref 32), some (.ref 26), some (.int (mk S)), none, none], [], w) _
  obtain ⟨r1, w1, hc1, hr1, hG1, hP1, hk1⟩ := c_start_t (S := S) hg hw
  subst hr1
  obtain ⟨H, hH⟩ : ∃ H, H = bH G S := ⟨_, rfl⟩
  rw [← hH] at hb h1 hG1 ⊢
  have hk1 : xkq [(32, none), (33, none), (34, none), (35, none), (36, none), (37, none), (38, none)] w w1 := xkq_mono rfl hk1
  have he45 := ec_45 H
  refine xQ.go 3 (F1 := (3, [some (.ref 32), some (.ref 26), some (.int (mk S)), none, none], [.int (mk S), .ref 26, .ref 32], w)) rfl ?_
  refine xQ.call rfl (hc1) ?_
  show xQ MX1_embed (6, [some (.ref 32), some (.ref 26), some (.int (mk S)), none, none], [], w1) _
  by_cases e1 : ec H = 1
  · refine xQ.go 4 (F1 := (bif !decide ((w1.1 32 4) = 1) then 25 else 14, [some (.ref 32), some (.ref 26), some (.int (mk S)), none, none], [], w1)) rfl ?_
    refine xQ.brF (by rw [hG1.2.2, e1]; rfl) ?_
    refine xQ.go 6 (F1 := (24, [some (.ref 32), some (.ref 26), some (.int (mk S)), none, none], [], (xuI (xuI w1 32 5 1) 32 8 1))) rfl ?_
    refine xQ.vret 1 rfl rfl ?_
    refine ⟨rfl, ⟨fun v hv => ?_, ?_, ?_⟩, fun _ => ⟨?_, ?_⟩, fun h => absurd e1 h, xkq_I (xkq_I hk1 rfl) rfl⟩
    · simp [uI1, hG1.1 v hv]
    · simp [uI1, hG1.2.1]
    · simp [uI1, hG1.2.2]
    · simp [uI1]
    · simp [uI1]
  · refine xQ.go 4 (F1 := (bif !decide ((w1.1 32 4) = 1) then 25 else 14, [some (.ref 32), some (.ref 26), some (.int (mk S)), none, none], [], w1)) rfl ?_
    refine xQ.brT (by rw [hG1.2.2, show (1 : Int32) = nI 1 from rfl, decide_eq_false (fun e => e1 (jI_inj (b := 1) (by omega) (by omega) e))]; rfl) ?_
    obtain ⟨r2, w2, hc2, hr2, hP2, hF2, hk2⟩ := c_cycle_t hb hS (by omega) hG1 hP1
    subst hr2
    obtain ⟨_, _, _, _, _, _, _, _, _, _, _, _, _, _, _, _, hEO⟩ := cyc0_ok hb hS (show 2 ≤ ec H by omega)
    refine xQ.go 1 (F1 := (26, [some (.ref 32), some (.ref 26), some (.int (mk S)), none, none], [.ref 32], w1)) rfl ?_
    refine xQ.call rfl (hc2) ?_
    show xQ MX1_embed (29, [some (.ref 32), some (.ref 26), some (.int (mk S)), none, none], [.int 1], w2) _
    refine xQ.go 3 (F1 := (33, [some (.ref 32), some (.ref 26), some (.int (mk S)), some (.int 1), some (.int 0)], [], w2)) rfl ?_
    have hG2 : eG 32 33 w2 H S := ⟨fun v hv => by rw [xkq_at hk2 33 v]; exact hG1.1 v hv, by rw [xkq_at hk2 32 2]; exact hG1.2.1, by rw [xkq_at hk2 32 4]; exact hG1.2.2⟩
    obtain ⟨fin, hfin⟩ : ∃ fin, fin = erun H S (ec H) 45 (cyc1 H S) := ⟨_, rfl⟩
    rw [← hfin]
    have done : ∀ (w3 : xW) (x y : Int32), eG 32 33 w3 H S → eP 32 34 w3 fin.1 fin.2.1 fin.2.2.2 → eF 32 35 36 w3 fin.2.2.1 → xkq [(32, none), (33, none), (34, none), (35, none), (36, none), (37, none), (38, none)] w w3 → xQ MX1_embed (89, [some (.ref 32), some (.ref 26), some (.int (mk S)), some (.int x), some (.int y)], [], w3) (fun r w1 => r = none ∧ eG 32 33 w1 H S ∧ (ec H = 1 → w1.1 32 5 = 1 ∧ w1.1 32 8 = 1) ∧ (ec H ≠ 1 → eP 32 34 w1 fin.1 fin.2.1 fin.2.2.2 ∧ eF 32 35 36 w1 fin.2.2.1) ∧ xkq [(32, none), (33, none), (34, none), (35, none), (36, none), (37, none), (38, none)] w w1) := by
      intro w3 x y d1 d2 d3 d4
      refine xQ.vret 1 rfl rfl ?_
      exact ⟨rfl, d1, fun h => absurd h e1, fun _ => ⟨d2, d3⟩, d4⟩
    refine xQ.loop (S := xW × xSg × Bool) (fun k s => (33, [some (.ref 32), some (.ref 26), some (.int (mk S)), some (.int (bif s.2.2 then 1 else 0)), some (.int (nI k))], [], s.1)) (fun k s => eG 32 33 s.1 H S ∧ eP 32 34 s.1 s.2.1.1 s.2.1.2.1 s.2.1.2.2.2 ∧ eF 32 35 36 s.1 s.2.1.2.2.1 ∧ EOK H S s.2.1 ∧ (s.2.2 = true → erun H S (ec H) (45 - k) s.2.1 = fin) ∧ (s.2.2 = false → s.2.1 = fin) ∧ xkq [(32, none), (33, none), (34, none), (35, none), (36, none), (37, none), (38, none)] w s.1) 45 (w2, cyc1 H S, true) (rfl) (⟨hG2, hP2, hF2, hEO, fun _ => hfin.symm, (fun h => by cases h), xkq_trans hk1 (xkq_mono rfl hk2)⟩) ?_ ?_
    · intro k s hk hI K
      obtain ⟨w3, sg, g⟩ := s
      obtain ⟨i1, i2, i3, i4, i5, i6, i7⟩ := hI
      refine xQ.go 3 (F1 := (bif decide (45 ≤ (nI k)) then 89 else 40, [some (.ref 32), some (.ref 26), some (.int (mk S)), some (.int (bif g then 1 else 0)), some (.int (nI k))], [], w3)) rfl ?_
      refine xQ.brF (decide_eq_false (nI_ge (b := 45) (by omega) (by omega))) ?_
      cases g with
      | false =>
        show xQ MX1_embed (40, [some (.ref 32), some (.ref 26), some (.int (mk S)), some (.int 0), some (.int (nI k))], [], w3) _
        refine xQ.go 2 (F1 := (bif decide (0 = 0) then 89 else 44, [some (.ref 32), some (.ref 26), some (.int (mk S)), some (.int 0), some (.int (nI k))], [], w3)) rfl ?_
        refine xQ.brT (rfl) ?_
        have i6 : sg = fin := i6 rfl
        subst i6
        exact done w3 _ _ i1 i2 i3 i7
      | true =>
        have i5 := i5 rfl
        show xQ MX1_embed (40, [some (.ref 32), some (.ref 26), some (.int (mk S)), some (.int 1), some (.int (nI k))], [], w3) _
        refine xQ.go 2 (F1 := (bif decide (1 = 0) then 89 else 44, [some (.ref 32), some (.ref 26), some (.int (mk S)), some (.int 1), some (.int (nI k))], [], w3)) rfl ?_
        refine xQ.brF (rfl) ?_
        have hle : sg.2.2.2 ≤ ec H := EOK_le hb i4
        by_cases hlt : sg.2.2.2 < ec H
        · refine xQ.go 5 (F1 := (bif decide ((w3.1 32 4) ≤ (w3.1 32 5)) then 89 else 55, [some (.ref 32), some (.ref 26), some (.int (mk S)), some (.int 1), some (.int (nI k))], [], w3)) rfl ?_
          refine xQ.brF (by rw [i1.2.2, i2.2.2]; exact decide_eq_false (nI_ge hlt (by omega))) ?_
          obtain ⟨r4, w4, hc4, hr4, hC4, hk4⟩ := c_choose_t hb i1 i2 i3 (EOK_max i4).1
          subst hr4
          have q1 : eG 32 33 w4 H S := ⟨fun v hv => by rw [xkq_at hk4 33 v]; exact i1.1 v hv, by rw [xkq_at hk4 32 2]; exact i1.2.1, by rw [xkq_at hk4 32 4]; exact i1.2.2⟩
          have q2 : eP 32 34 w4 sg.1 sg.2.1 sg.2.2.2 := ⟨fun v hv => by rw [xkq_at hk4 34 v]; exact i2.1 v hv, by rw [xkq_at hk4 32 3]; exact i2.2.1, by rw [xkq_at hk4 32 5]; exact i2.2.2⟩
          have q3 : eF 32 35 36 w4 sg.2.2.1 := ⟨by rw [xkq_at hk4 32 8]; exact i3.1, fun i c hi => ⟨by rw [xkq_at hk4 35 i]; exact (i3.2 i c hi).1, fun x y hxy => by rw [xkq_at hk4 36 _]; exact (i3.2 i c hi).2 x y hxy⟩⟩
          refine xQ.go 1 (F1 := (56, [some (.ref 32), some (.ref 26), some (.int (mk S)), some (.int 1), some (.int (nI k))], [.ref 32], w3)) rfl ?_
          refine xQ.call rfl (hc4) ?_
          show xQ MX1_embed (59, [some (.ref 32), some (.ref 26), some (.int (mk S)), some (.int 1), some (.int (nI k))], [.int (if (chs sg.2.2.1 (frs H S sg.1 sg.2.1 100)).isSome then 1 else 0)], w4) _
          cases hch : chs sg.2.2.1 (frs H S sg.1 sg.2.1 100) with
          | none =>
            show xQ MX1_embed (59, [some (.ref 32), some (.ref 26), some (.int (mk S)), some (.int 1), some (.int (nI k))], [.int 0], w4) _
            refine xQ.go 1 (F1 := (bif decide (0 = 0) then 73 else 62, [some (.ref 32), some (.ref 26), some (.int (mk S)), some (.int 1), some (.int (nI k))], [], w4)) rfl ?_
            refine xQ.brT (rfl) ?_
            refine xQ.go 2 (F1 := (75, [some (.ref 32), some (.ref 26), some (.int (mk S)), some (.int 0), some (.int (nI k))], [], w4)) rfl ?_
            refine xQ.go 2 (F1 := (bif decide (0 = 0) then 83 else 79, [some (.ref 32), some (.ref 26), some (.int (mk S)), some (.int 0), some (.int (nI k))], [], w4)) rfl ?_
            refine xQ.brT (rfl) ?_
            refine xQ.go 2 (F1 := (33, [some (.ref 32), some (.ref 26), some (.int (mk S)), some (.int 0), some (.int ((nI k) + 1))], [], w4)) rfl ?_
            rw [← nI_succ]
            have hst : estep H S sg = none := by
              unfold estep
              rw [hch]
            rw [erun_none hst] at i5
            exact K (w4, sg, false) ⟨q1, q2, q3, i4, (fun h => by cases h), fun _ => i5, xkq_trans i7 (xkq_mono rfl hk4)⟩
          | some q =>
            have hC4 := hC4 q hch
            obtain ⟨u, inn, z, f, A, B, xs, ys, s1, s2, s3, s4, s5, s6, s7, s8, s9⟩ := estep_ok hb hS i4 hch
            show xQ MX1_embed (59, [some (.ref 32), some (.ref 26), some (.int (mk S)), some (.int 1), some (.int (nI k))], [.int 1], w4) _
            refine xQ.go 1 (F1 := (bif decide (1 = 0) then 73 else 62, [some (.ref 32), some (.ref 26), some (.int (mk S)), some (.int 1), some (.int (nI k))], [], w4)) rfl ?_
            refine xQ.brF (rfl) ?_
            have hfo := frs_ok hb (P := sg.1) (PV := sg.2.1) 100 (Nat.le_refl _) q (chs_mem hch).1
            obtain ⟨r5, w5, hc5, hr5, hL5, hk5⟩ := c_cpath_t hb q1 hC4 hfo s1
            subst hr5
            refine xQ.go 1 (F1 := (63, [some (.ref 32), some (.ref 26), some (.int (mk S)), some (.int 1), some (.int (nI k))], [.ref 32], w4)) rfl ?_
            refine xQ.call rfl (hc5) ?_
            show xQ MX1_embed (66, [some (.ref 32), some (.ref 26), some (.int (mk S)), some (.int 1), some (.int (nI k))], [.int 1], w5) _
            refine xQ.go 1 (F1 := (bif decide (1 = 0) then 73 else 69, [some (.ref 32), some (.ref 26), some (.int (mk S)), some (.int 1), some (.int (nI k))], [], w5)) rfl ?_
            refine xQ.brF (rfl) ?_
            refine xQ.go 3 (F1 := (75, [some (.ref 32), some (.ref 26), some (.int (mk S)), some (.int 1), some (.int (nI k))], [], w5)) rfl ?_
            refine xQ.go 2 (F1 := (bif decide (1 = 0) then 83 else 79, [some (.ref 32), some (.ref 26), some (.int (mk S)), some (.int 1), some (.int (nI k))], [], w5)) rfl ?_
            refine xQ.brF (rfl) ?_
            have t1 : eG 32 33 w5 H S := ⟨fun v hv => by rw [xkq_at hk5 33 v]; exact q1.1 v hv, by rw [xkq_at hk5 32 2]; exact q1.2.1, by rw [xkq_at hk5 32 4]; exact q1.2.2⟩
            have t2 : eP 32 34 w5 sg.1 sg.2.1 sg.2.2.2 := ⟨fun v hv => by rw [xkq_at hk5 34 v]; exact q2.1 v hv, by rw [xkq_at hk5 32 3]; exact q2.2.1, by rw [xkq_at hk5 32 5]; exact q2.2.2⟩
            have t3 : eF 32 35 36 w5 sg.2.2.1 := ⟨by rw [xkq_at hk5 32 8]; exact q3.1, fun i c hi => ⟨by rw [xkq_at hk5 35 i]; exact (q3.2 i c hi).1, fun x y hxy => by rw [xkq_at hk5 36 _]; exact (q3.2 i c hi).2 x y hxy⟩⟩
            have hpth : pth H q = u :: inn ++ [z] := s1.1
            rw [hpth] at hL5
            have hIV := i4.1
            have hfm : f ∈ sg.2.2.1 := List.mem_of_getElem? s2
            have hff := hIV.2.2.2.1 f hfm
            have hPV10 : ∀ v, sg.2.1 v = true → v < 10 := fun v hv => hS v (hIV.2.2.1 v hv)
            have hrot : u :: xs ++ z :: ys = (u :: B) ++ A := by rw [List.cons_append, List.cons_append, s6]
            have hmem : ∀ v, v ∈ f ↔ v ∈ u :: xs ++ z :: ys := fun v => by
              rw [hrot, s3]
              simp only [List.mem_append]
              exact or_comm
            have hfn : (u :: xs ++ z :: ys).Nodup := by
              rw [hrot]
              have := hff.1
              rw [s3] at this
              exact (List.perm_append_comm.nodup_iff).mp this
            have hmx := EOK_max s9
            have hlen : sg.2.2.1.length < 16 := by
              have := hmx.1
              simp only [List.length_append, List.length_set, List.length_cons, List.length_nil] at this
              omega
            have hPu : sg.2.1 u = true := hff.2.2 u ((hmem u).mpr (by simp))
            have hPz : sg.2.1 z = true := hff.2.2 z ((hmem z).mpr (by simp))
            obtain ⟨r6, w6, hc6, hr6, hP6, hF6, hk6⟩ := c_split_t t2 t3 hL5 ((xkq_at hk5 32 11).trans hC4.2.2.1) hlen s2 hmem (fun q => by rw [hrot, s3]; exact dts_rot A (u :: B) q) hfn (fun v hv => hPV10 v (hff.2.2 v ((hmem v).mpr hv))) s1.2.2.2.2.2.2.2.1 (fun v hv => ⟨(s1.2.2.2.2.2.2.2.2.1 v hv).1, fun h => by
              have h2 := hff.2.2 v ((hmem v).mpr h)
              rw [(s1.2.2.2.2.2.2.2.2.1 v hv).2.1] at h2
              cases h2⟩) hPu (fun g hg x hx => hPV10 x ((hIV.2.2.2.1 g hg).2.2 x hx))
            subst hr6
            refine xQ.go 1 (F1 := (80, [some (.ref 32), some (.ref 26), some (.int (mk S)), some (.int 1), some (.int (nI k))], [.ref 32], w5)) rfl ?_
            refine xQ.call rfl (hc6) ?_
            show xQ MX1_embed (83, [some (.ref 32), some (.ref 26), some (.int (mk S)), some (.int 1), some (.int (nI k))], [], w6) _
            refine xQ.go 2 (F1 := (33, [some (.ref 32), some (.ref 26), some (.int (mk S)), some (.int 1), some (.int ((nI k) + 1))], [], w6)) rfl ?_
            rw [← nI_succ]
            have hn45 : 45 - k = (45 - (k + 1)) + 1 := by omega
            rw [hn45, erun_some hlt s8] at i5
            refine K (w6, (addP sg.1 (u :: inn ++ [z]), addV sg.2.1 inn, sg.2.2.1.set (ffit q.2 sg.2.2.1) (u :: xs ++ z :: inn.reverse) ++ [z :: ys ++ u :: inn], sg.2.2.2 + inn.length + 1), true) ⟨⟨fun v hv => by rw [xkq_at hk6 33 v]; exact t1.1 v hv, by rw [xkq_at hk6 32 2]; exact t1.2.1, by rw [xkq_at hk6 32 4]; exact t1.2.2⟩, ⟨hP6.1, ?_, ?_⟩, hF6, s9, fun _ => i5, (fun h => by cases h), xkq_trans i7 (xkq_trans (xkq_mono rfl hk4) (xkq_trans (xkq_mono rfl hk5) (xkq_mono rfl hk6)))⟩
            · rw [hP6.2.1]
              refine mk_ext fun v _ => Bool.eq_iff_iff.mpr ?_
              rw [addV_iff, addV_iff]
              simp only [List.cons_append, List.mem_cons, List.mem_append, List.not_mem_nil, or_false]
              constructor
              · rintro (h | h | h | h)
                · exact Or.inl h
                · rw [h]; exact Or.inl hPu
                · exact Or.inr h
                · rw [h]; exact Or.inl hPz
              · rintro (h | h)
                · exact Or.inl h
                · exact Or.inr (Or.inr (Or.inl h))
            · exact hP6.2.2
        · refine xQ.go 5 (F1 := (bif decide ((w3.1 32 4) ≤ (w3.1 32 5)) then 89 else 55, [some (.ref 32), some (.ref 26), some (.int (mk S)), some (.int 1), some (.int (nI k))], [], w3)) rfl ?_
          refine xQ.brT (by rw [i1.2.2, show w3.1 32 5 = nI sg.2.2.2 from i2.2.2]; exact decide_eq_true (nI_le (by omega) (by omega))) ?_
          rw [erun_no hlt] at i5
          subst i5
          exact done w3 _ _ i1 i2 i3 i7
    · intro s hI
      obtain ⟨w3, sg, g⟩ := s
      obtain ⟨i1, i2, i3, i4, i5, i6, i7⟩ := hI
      have hsf : sg = fin := by
        cases g with
        | false => exact i6 rfl
        | true => exact i5 rfl
      subst hsf
      refine xQ.go 3 (F1 := (bif decide (45 ≤ (nI 45)) then 89 else 40, [some (.ref 32), some (.ref 26), some (.int (mk S)), some (.int (bif g then 1 else 0)), some (.int (nI 45))], [], w3)) rfl ?_
      refine xQ.brT (rfl) ?_
      exact done w3 _ _ i1 i2 i3 i7
