/-! the walks of a graph -/
noncomputable def trG (E : Int64) (n : Nat) : (Nat → Option Nat) × List (List xPr) := trc (nxt (gr E)) (gr E) n
def wN (w : xW) (E : Int64) : Prop := w.1 39 7 = 1 ∧ w.2 39 6 = E ∧ (∀ v x, gr E v x = true → w.1 40 (10 * v + x) = nI (nxt (gr E) v x)) ∧ wK w (trG E 100).1 (trG E 100).2
def wOK (w : xW) : Prop := w.1 39 7 = 0 ∨ ∃ E, wN w E
theorem nxt_hG {G : Nat → Nat → Bool} (hg : gok G) (hf : flt G (blks G 100) = true) : ∀ v x, G v x = true → v < 10 ∧ x < 10 ∧ G x (nxt G x v) = true := fun v x h => by
  have h10 := hg.2.2 _ _ h
  exact ⟨h10.1, h10.2, nxt_edge hg hf (by rw [hg.1]; exact h)⟩
theorem TOK_len {N : Nat → Nat → Nat} {G : Nat → Nat → Bool} {n : Nat} {s : (Nat → Option Nat) × List (List xPr)} (h : TOK N G n s) : (∀ d k, s.1 d = some k → k < s.2.length) ∧ s.2.length ≤ s.2.flatten.length := by
  obtain ⟨t1, t2, _, _⟩ := h
  refine ⟨fun d k hd => ?_, ?_⟩
  · obtain ⟨L, hL, _⟩ := (t1 d k).mp hd
    exact (List.getElem?_eq_some_iff.mp hL).1
  · rw [← off_all]
    refine flat_ge (fun k L hL => ?_) _ (Nat.le_refl _)
    obtain ⟨q, t, e, _⟩ := (t2 k L hL).2.1
    rw [e]
    simp
theorem trc_next {N : Nat → Nat → Nat} {G : Nat → Nat → Bool} {a b : Nat} (hb : b < 10) : trc N G (10 * a + b + 1) = if (G a b && !((trc N G (10 * a + b)).1 (10 * a + b)).isSome) = true then ((fol N (trc N G (10 * a + b)).2.length 101 (trc N G (10 * a + b)).1 a b).1, (trc N G (10 * a + b)).2 ++ [(fol N (trc N G (10 * a + b)).2.length 101 (trc N G (10 * a + b)).1 a b).2]) else trc N G (10 * a + b) := by
  rw [trc, (dn_div (v := a) hb).1, (dn_div (v := a) hb).2]
theorem c_trace {w : xW} {E : Int64} (hN : pN_p w E) (hf : flt (gr E) (blks (gr E) 100) = true) (hW : wOK w) : xD MX6_trace [.ref 39, .ref 11] w (fun r w1 => r = none ∧ wN w1 E ∧ xkq [(39, none), (40, none), (41, none), (42, none), (43, none)] w w1) := by
  have hg := gr_gok E
  have hnG := nxt_hG hg hf
  have h48 := flat_48 hg hf
  have com : xQ MX6_trace (20, [some (.ref 39), some (.ref 11), none, none], [], w) (fun r w1 => r = none ∧ wN w1 E ∧ xkq [(39, none), (40, none), (41, none), (42, none), (43, none)] w w1) := by
    refine xQ.go 5 (F1 := (27, [some (.ref 39), some (.ref 11), none, none], [.ref 11, .ref 39], (xuI w 39 7 1))) rfl ?_
    refine xQ.call rfl (c_pedges_p) ?_
    show xQ MX6_trace (30, [some (.ref 39), some (.ref 11), none, none], [.long ((xuI w 39 7 1).2 11 9), .ref 39], (xuI w 39 7 1)) _
    rw [show (xuI w 39 7 1).2 11 9 = E from hN.2.1]
    refine xQ.go 9 (F1 := (45, [some (.ref 39), some (.ref 11), some (.int 0), none], [], (xuI (xuI (xuJ (xuI w 39 7 1) 39 6 E) 39 4 0) 39 5 0))) rfl ?_
    obtain ⟨w1, e1⟩ : ∃ w1, w1 = (xuI (xuI (xuJ (xuI w 39 7 1) 39 6 E) 39 4 0) 39 5 0) := ⟨_, rfl⟩
    rw [← e1]
    have a1 : w1.1 39 7 = 1 ∧ w1.2 39 6 = E ∧ w1.1 39 4 = 0 ∧ w1.1 39 5 = 0 := by rw [e1]; simp [uI1, uI2, uJ1, uJ2]
    have ka : xkq [(39, none)] w w1 := by rw [e1]; exact xkq_I (xkq_I (xkq_J (xkq_I xkq_rfl rfl) rfl) rfl) rfl
    refine xQ.loop (S := xW) (fun k s => (45, [some (.ref 39), some (.ref 11), some (.int (nI k)), none], [], s)) (fun k s => (∀ d, d < k → s.1 41 d = -1) ∧ xkq [(41, none)] w1 s) 100 w1 (rfl) (⟨(fun d hd => absurd hd (by omega)), xkq_rfl⟩) ?_ ?_
    · intro k s hk hI K
      obtain ⟨i1, i2⟩ := hI
      refine xQ.go 3 (F1 := (bif decide (100 ≤ (nI k)) then 66 else 51, [some (.ref 39), some (.ref 11), some (.int (nI k)), none], [], s)) rfl ?_
      refine xQ.brF (decide_eq_false (nI_ge (b := 100) (by omega) (by omega))) ?_
      refine xQ.go 4 (F1 := (57, [some (.ref 39), some (.ref 11), some (.int (nI k)), none], [.int (-1), .int (nI k), .ref 41], s)) rfl ?_
      refine xQ.call rfl (c_put rfl (show k < 100 by omega) (by omega)) ?_
      show xQ MX6_trace (60, [some (.ref 39), some (.ref 11), some (.int (nI k)), none], [], (xuI s 41 k (-1))) _
      refine xQ.go 2 (F1 := (45, [some (.ref 39), some (.ref 11), some (.int ((nI k) + 1)), none], [], (xuI s 41 k (-1)))) rfl ?_
      rw [← nI_succ]
      refine K _ ⟨fun d hd => ?_, xkq_I i2 rfl⟩
      rw [uI1]
      by_cases e : d = k
      · rw [if_pos ⟨rfl, e⟩]
      · rw [if_neg (fun h => e h.2)]
        exact i1 d (by omega)
    · intro s hI
      obtain ⟨i1, i2⟩ := hI
      refine xQ.go 3 (F1 := (bif decide (100 ≤ (nI 100)) then 66 else 51, [some (.ref 39), some (.ref 11), some (.int (nI 100)), none], [], s)) rfl ?_
      refine xQ.brT (rfl) ?_
      refine xQ.go 2 (F1 := (68, [some (.ref 39), some (.ref 11), some (.int 0), none], [], s)) rfl ?_
      have kb : xkq [(39, none), (41, none)] w s := xkq_trans (xkq_mono rfl ka) (xkq_mono rfl i2)
      have hNs : ∀ s2, xkq [(39, none), (40, none), (41, none), (42, none), (43, none)] w s2 → pN_p s2 E := fun s2 hk => ⟨(xkq_at hk 11 10).trans hN.1, (xkq_atJ hk 11 9).trans hN.2.1, fun v hv => (xkq_at hk 12 v).trans (hN.2.2.1 v hv), (xkq_at hk 11 7).trans hN.2.2.2.1, (xkq_at hk 11 8).trans hN.2.2.2.2.1, fun i p hi => by
        rw [xkq_at hk 13 i, xkq_at hk 14 i, xkq_at hk 15 i, xkq_at hk 16 i]
        exact hN.2.2.2.2.2.1 i p hi, fun p hp hfl v x y hs => (xkq_at hk 17 _).trans (hN.2.2.2.2.2.2 p hp hfl v x y hs)⟩
      refine xQ.loop (S := xW) (fun k2 s2 => (68, [some (.ref 39), some (.ref 11), some (.int (nI k2)), none], [], s2)) (fun k2 s2 => (∀ v, v < k2 → ∀ q ∈ dts (ord (gr E) (blks (gr E) 100) v), s2.1 40 (10 * v + q.1) = nI q.2) ∧ xkq [(40, none)] s s2) 10 s (rfl) (⟨(fun v hv => absurd hv (by omega)), xkq_rfl⟩) ?_ ?_
      · intro k2 s2 hk2 hI2 K2
        obtain ⟨j1, j2⟩ := hI2
        refine xQ.go 3 (F1 := (bif decide (10 ≤ (nI k2)) then 86 else 74, [some (.ref 39), some (.ref 11), some (.int (nI k2)), none], [], s2)) rfl ?_
        refine xQ.brF (decide_eq_false (nI_ge (b := 10) (by omega) (by omega))) ?_
        obtain ⟨r3, s3, hc3, hr3, o1, o2, o3⟩ := c_order (w := s2) hk2 (hNs s2 (xkq_trans (xkq_mono rfl kb) (xkq_mono rfl j2))) hf
        subst hr3
        refine xQ.go 3 (F1 := (77, [some (.ref 39), some (.ref 11), some (.int (nI k2)), none], [.int (nI k2), .ref 11, .ref 39], s2)) rfl ?_
        refine xQ.call rfl (hc3) ?_
        show xQ MX6_trace (80, [some (.ref 39), some (.ref 11), some (.int (nI k2)), none], [], s3) _
        refine xQ.go 2 (F1 := (68, [some (.ref 39), some (.ref 11), some (.int ((nI k2) + 1)), none], [], s3)) rfl ?_
        rw [← nI_succ]
        refine K2 s3 ⟨fun v hv q hq => ?_, xkq_trans j2 o3⟩
        by_cases e : v = k2
        · rw [e] at hq ⊢
          exact o1 q hq
        · have hq10 := (hg.2.2 _ _ ((ord_mem hg hf).mp (dts_mem hq).1)).2
          rw [o2 _ (by omega)]
          exact j1 v (by omega) q hq
      · intro s2 hI2
        obtain ⟨j1, j2⟩ := hI2
        refine xQ.go 3 (F1 := (bif decide (10 ≤ (nI 10)) then 86 else 74, [some (.ref 39), some (.ref 11), some (.int (nI 10)), none], [], s2)) rfl ?_
        refine xQ.brT (rfl) ?_
        refine xQ.go 2 (F1 := (88, [some (.ref 39), some (.ref 11), some (.int 0), none], [], s2)) rfl ?_
        have hor : ∀ v x, gr E v x = true → s2.1 40 (10 * v + x) = nI (nxt (gr E) v x) := fun v x h => by
          have := j1 v (hg.2.2 _ _ h).1 _ (nxt_dts hg hf h)
          exact this
        have kc : xkq [(39, none), (40, none), (41, none)] w s2 := xkq_trans (xkq_mono rfl kb) (xkq_mono rfl j2)
        have kd : xkq [(40, none), (41, none)] w1 s2 := xkq_trans (xkq_mono rfl i2) (xkq_mono rfl j2)
        have hN2 := hNs s2 (xkq_mono rfl kc)
        have w0 : wK s2 (trG E 0).1 (trG E 0).2 := ⟨fun d hd => by
            rw [xkq_at j2 41 d, i1 d hd]
            rfl, (xkq_at kd 39 4).trans a1.2.2.1, (xkq_at kd 39 5).trans a1.2.2.2, (fun j q hj => by cases hj), (fun k hk => by cases hk)⟩
        refine xQ.loop (S := xW) (fun k s => (88, [some (.ref 39), some (.ref 11), some (.int (nI k)), none], [], s)) (fun k s => wK s (trG E (10 * k)).1 (trG E (10 * k)).2 ∧ xkq [(39, some 4), (39, some 5), (41, none), (42, none), (43, none)] s2 s) 10 s2 (rfl) (⟨w0, xkq_rfl⟩) ?_ ?_
        · intro k s hk hI K
          refine xQ.go 3 (F1 := (bif decide (10 ≤ (nI k)) then 142 else 94, [some (.ref 39), some (.ref 11), some (.int (nI k)), none], [], s)) rfl ?_
          refine xQ.brF (decide_eq_false (nI_ge (b := 10) (by omega) (by omega))) ?_
          refine xQ.go 2 (F1 := (96, [some (.ref 39), some (.ref 11), some (.int (nI k)), some (.int 0)], [], s)) rfl ?_
          refine xQ.loop (S := xW) (fun k2 s2 => (96, [some (.ref 39), some (.ref 11), some (.int (nI k)), some (.int (nI k2))], [], s2)) (fun k2 t => wK t (trG E (10 * k + k2)).1 (trG E (10 * k + k2)).2 ∧ xkq [(39, some 4), (39, some 5), (41, none), (42, none), (43, none)] s2 t) 10 s (rfl) (hI) ?_ ?_
          · intro k2 t hk2 hI2 K2
            obtain ⟨j3, j4⟩ := hI2
            have hT := trc_ok hnG (10 * k + k2)
            have hnx := trc_next (N := nxt (gr E)) (G := gr E) (a := k) (b := k2) hk2
            rw [show trG E (10 * k + (k2 + 1)) = trc (nxt (gr E)) (gr E) (10 * k + k2 + 1) from rfl, hnx] at K2
            rw [show trG E (10 * k + k2) = trc (nxt (gr E)) (gr E) (10 * k + k2) from rfl] at j3
            obtain ⟨hT1, hT2⟩ := TOK_len hT
            have hT4 := hT.2.2.2
            generalize trc (nxt (gr E)) (gr E) (10 * k + k2) = z at *
            have skip : ¬ (gr E k k2 && !(z.1 (10 * k + k2)).isSome) = true → xQ MX6_trace (130, [some (.ref 39), some (.ref 11), some (.int (nI k)), some (.int (nI k2))], [], t) (fun r w1 => r = none ∧ wN w1 E ∧ xkq [(39, none), (40, none), (41, none), (42, none), (43, none)] w w1) := by
              intro hno
              refine xQ.go 2 (F1 := (96, [some (.ref 39), some (.ref 11), some (.int (nI k)), some (.int ((nI k2) + 1))], [], t)) rfl ?_
              rw [← nI_succ]
              rw [if_neg hno] at K2
              exact K2 t ⟨j3, j4⟩
            refine xQ.go 3 (F1 := (bif decide (10 ≤ (nI k2)) then 136 else 102, [some (.ref 39), some (.ref 11), some (.int (nI k)), some (.int (nI k2))], [], t)) rfl ?_
            refine xQ.brF (decide_eq_false (nI_ge (b := 10) (by omega) (by omega))) ?_
            refine xQ.go 2 (F1 := (104, [some (.ref 39), some (.ref 11), some (.int (nI k)), some (.int (nI k2))], [.int (nI k), .ref 11], t)) rfl ?_
            refine xQ.call rfl (c_pnear_p (show k < 10 by omega)) ?_
            show xQ MX6_trace (107, [some (.ref 39), some (.ref 11), some (.int (nI k)), some (.int (nI k2))], [.int (t.1 12 k)], t) _
            rw [xkq_at j4 12 k, hN2.2.2.1 k (by omega)]
            refine xQ.go 1 (F1 := (108, [some (.ref 39), some (.ref 11), some (.int (nI k)), some (.int (nI k2))], [.int (nI k2), .int (mk (gr E k))], t)) rfl ?_
            refine xQ.call rfl (c_has hk2) ?_
            show xQ MX6_trace (111, [some (.ref 39), some (.ref 11), some (.int (nI k)), some (.int (nI k2))], [.int (if gr E k k2 then 1 else 0)], t) _
            refine xQ.go 1 (F1 := (bif decide ((if gr E k k2 then 1 else 0) = 0) then 130 else 114, [some (.ref 39), some (.ref 11), some (.int (nI k)), some (.int (nI k2))], [], t)) rfl ?_
            cases hG : gr E k k2 with
            | false =>
              refine xQ.brT (by decide) ?_
              exact skip (by rw [hG]; simp)
            | true =>
              refine xQ.brF (by decide) ?_
              refine xQ.go 3 (F1 := (117, [some (.ref 39), some (.ref 11), some (.int (nI k)), some (.int (nI k2))], [.int (nI k2), .int (nI k), .ref 39], t)) rfl ?_
              refine xQ.call rfl (c_ofDart (show k < 10 by omega) hk2) ?_
              show xQ MX6_trace (120, [some (.ref 39), some (.ref 11), some (.int (nI k)), some (.int (nI k2))], [.int (t.1 41 (10 * k + k2))], t) _
              rw [j3.1 _ (by omega)]
              refine xQ.go 2 (F1 := (bif !decide ((labI (-1) (z.1 (10 * k + k2))) = (-1)) then 130 else 124, [some (.ref 39), some (.ref 11), some (.int (nI k)), some (.int (nI k2))], [], t)) rfl ?_
              rw [labI_dec (fun k h => by have := hT1 _ k h; omega), Bool.not_not]
              cases hs : (z.1 (10 * k + k2)).isSome with
              | true =>
                exact skip (by rw [hs]; simp)
              | false =>
                rw [hG, hs, if_pos (by decide)] at K2
                obtain ⟨r5, s5, hc5, hr5, f1, f2⟩ := c_follow (w := t) (N := nxt (gr E)) hnG (fun v x h => by rw [xkq_at j4 40 _]; exact hor x v (by rw [hg.1]; exact h)) hG j3 hT1 hT2 (by omega) hs
                subst hr5
                refine xQ.go 3 (F1 := (127, [some (.ref 39), some (.ref 11), some (.int (nI k)), some (.int (nI k2))], [.int (nI k2), .int (nI k), .ref 39], t)) rfl ?_
                refine xQ.call rfl (hc5) ?_
                show xQ MX6_trace (130, [some (.ref 39), some (.ref 11), some (.int (nI k)), some (.int (nI k2))], [], s5) _
                refine xQ.go 2 (F1 := (96, [some (.ref 39), some (.ref 11), some (.int (nI k)), some (.int ((nI k2) + 1))], [], s5)) rfl ?_
                rw [← nI_succ]
                exact K2 s5 ⟨f1, xkq_trans j4 f2⟩
          · intro t hI2
            refine xQ.go 3 (F1 := (bif decide (10 ≤ (nI 10)) then 136 else 102, [some (.ref 39), some (.ref 11), some (.int (nI k)), some (.int (nI 10))], [], t)) rfl ?_
            refine xQ.brT (rfl) ?_
            refine xQ.go 2 (F1 := (88, [some (.ref 39), some (.ref 11), some (.int ((nI k) + 1)), some (.int (nI 10))], [], t)) rfl ?_
            refine xQ.less [some (.ref 39), some (.ref 11), some (.int ((nI k) + 1)), none] (by simp [xleb]) ?_
            rw [← nI_succ]
            exact K t hI2
        · intro s hI
          obtain ⟨j3, j4⟩ := hI
          refine xQ.go 3 (F1 := (bif decide (10 ≤ (nI 10)) then 142 else 94, [some (.ref 39), some (.ref 11), some (.int (nI 10)), none], [], s)) rfl ?_
          refine xQ.brT (rfl) ?_
          refine xQ.vret 1 rfl rfl ?_
          exact ⟨rfl, ⟨(xkq_at j4 39 7).trans ((xkq_at kd 39 7).trans a1.1), (xkq_atJ j4 39 6).trans ((xkq_atJ kd 39 6).trans a1.2.1), fun v x h => (xkq_at j4 40 _).trans (hor v x h), j3⟩, xkq_trans (xkq_mono rfl kc) (xkq_mono rfl j4)⟩
  refine xD.of ?_
  show xQ MX6_trace (0, [some (.ref 39), some (.ref 11), none, none], [], w) _
  rcases hW with h0 | ⟨E2, hE⟩
  · refine xQ.go 3 (F1 := (bif decide ((w.1 39 7) = 0) then 20 else 7, [some (.ref 39), some (.ref 11), none, none], [], w)) rfl ?_
    refine xQ.brT (by rw [h0]; rfl) ?_
    exact com
  · refine xQ.go 3 (F1 := (bif decide ((w.1 39 7) = 0) then 20 else 7, [some (.ref 39), some (.ref 11), none, none], [], w)) rfl ?_
    refine xQ.brF (by rw [hE.1]; rfl) ?_
    refine xQ.go 3 (F1 := (12, [some (.ref 39), some (.ref 11), none, none], [.ref 11, .long (w.2 39 6)], w)) rfl ?_
    refine xQ.call rfl (c_pedges_p) ?_
    show xQ MX6_trace (15, [some (.ref 39), some (.ref 11), none, none], [.long (w.2 11 9), .long (w.2 39 6)], w) _
    refine xQ.go 2 (F1 := (bif !decide ((lg_cmp (w.2 39 6) (w.2 11 9)) = 0) then 20 else 19, [some (.ref 39), some (.ref 11), none, none], [], w)) rfl ?_
    rw [lg_cmp0, hE.2.1, hN.2.1]
    by_cases e3 : E2 = E
    · rw [e3] at hE
      refine xQ.brF (by rw [decide_eq_true e3]; rfl) ?_
      refine xQ.vret 1 rfl rfl ?_
      exact ⟨rfl, hE, xkq_rfl⟩
    · refine xQ.brT (by rw [decide_eq_false e3]; rfl) ?_
      exact com
