/-! Obstruction -/
theorem c_find {w : xW} {e : Int64} (hT : pOK_t w) (hO : oOK w) : xD MX3_find [.ref 44, .long e, .ref 25] w (fun r w1 => r = none ∧ oN w1 e ∧ pOK_t w1 ∧ xkq ((44, none) :: kA_t) w w1) := by
  have com : xQ MX3_find (17, [some (.ref 44), some (.long e), none, some (.ref 25), none, none, none, none], [], w) (fun r w1 => r = none ∧ oN w1 e ∧ pOK_t w1 ∧ xkq ((44, none) :: kA_t) w w1) := by
    refine xQ.go 11 (F1 := (35, [some (.ref 44), some (.long e), none, some (.ref 25), some (.int 0), none, none, none], [], (xuJ (xuJ (xuI w 44 2 1) 44 1 e) 44 0 e))) rfl ?_
    obtain ⟨w1, e1⟩ : ∃ w1, w1 = (xuJ (xuJ (xuI w 44 2 1) 44 1 e) 44 0 e) := ⟨_, rfl⟩
    rw [← e1]
    have a1 : w1.1 44 2 = 1 ∧ w1.2 44 1 = e ∧ w1.2 44 0 = e := by rw [e1]; simp [uI1, uI2, uJ1, uJ2]
    have ka : xkq [(44, none)] w w1 := by rw [e1]; exact xkq_J (xkq_J (xkq_I xkq_rfl rfl) rfl) rfl
    refine xQ.loop (S := xW) (fun k s => (35, [some (.ref 44), some (.long e), none, some (.ref 25), some (.int (nI k)), none, none, none], [], s)) (fun k s => s.2 44 0 = obs e (10 * k) ∧ pOK_t s ∧ xkq ((44, some 0) :: kA_t) w1 s) 10 w1 (rfl) (⟨a1.2.2, pOK_kq_t hT ka, xkq_rfl⟩) ?_ ?_
    · intro k s hk hI K
      refine xQ.go 3 (F1 := (bif decide (10 ≤ (nI k)) then 110 else 42, [some (.ref 44), some (.long e), none, some (.ref 25), some (.int (nI k)), none, none, none], [], s)) rfl ?_
      refine xQ.brF (decide_eq_false (nI_ge (b := 10) (by omega) (by omega))) ?_
      refine xQ.go 4 (F1 := (48, [some (.ref 44), some (.long e), none, some (.ref 25), some (.int (nI k)), some (.int ((nI k) + 1)), none, none], [], s)) rfl ?_
      rw [show nI k + 1 = nI (k + 1) from (nI_succ k).symm]
      have hsk : ∀ n, n = k + 1 → obs e (10 * k + n) = obs e (10 * k) := fun n hn => pfold_skip (by omega) (by omega)
      refine xQ.loop (S := xW) (fun k2 s2 => (48, [some (.ref 44), some (.long e), none, some (.ref 25), some (.int (nI k)), some (.int (nI (k + 1 + k2))), none, none], [], s2)) (fun k2 s2 => s2.2 44 0 = obs e (10 * k + (k + 1 + k2)) ∧ pOK_t s2 ∧ xkq ((44, some 0) :: kA_t) w1 s2) (9 - k) s (rfl) (by rw [hsk (k + 1 + 0) rfl]; exact hI) ?_ ?_
      · intro k2 s2 hk2 hI2 K2
        obtain ⟨b, hbe⟩ : ∃ b, b = k + 1 + k2 := ⟨_, rfl⟩
        rw [show k + 1 + (k2 + 1) = b + 1 by omega] at K2
        rw [← hbe] at hI2 ⊢
        obtain ⟨i1, i2, i3⟩ := hI2
        have hnx : obs e (10 * k + (b + 1)) = obF (obs e (10 * k + b)) k b := pfold_next (by omega) (by omega)
        rw [hnx] at K2
        have hk10 : k < 10 := by omega
        have hb10 : b < 10 := by omega
        have hkb : k ≠ b := by omega
        generalize obs e (10 * k + b) = t at *
        have nx : ∀ s3 : xW, s3.2 44 0 = obF t k b → pOK_t s3 → xkq ((44, some 0) :: kA_t) w1 s3 → xQ MX3_find (98, [some (.ref 44), some (.long e), none, some (.ref 25), some (.int (nI k)), some (.int (nI b)), some (.long (wo t k b)), none], [], s3) (fun r w1 => r = none ∧ oN w1 e ∧ pOK_t w1 ∧ xkq ((44, none) :: kA_t) w w1) := by
          intro s3 m1 m2 m3
          refine xQ.go 2 (F1 := (48, [some (.ref 44), some (.long e), none, some (.ref 25), some (.int (nI k)), some (.int ((nI b) + 1)), some (.long (wo t k b)), none], [], s3)) rfl ?_
          refine xQ.less [some (.ref 44), some (.long e), none, some (.ref 25), some (.int (nI k)), some (.int ((nI b) + 1)), none, none] (by simp [xleb]) ?_
          rw [← nI_succ]
          exact K2 s3 ⟨m1, m2, m3⟩
        refine xQ.go 3 (F1 := (bif decide (10 ≤ (nI b)) then 104 else 55, [some (.ref 44), some (.long e), none, some (.ref 25), some (.int (nI k)), some (.int (nI b)), none, none], [], s2)) rfl ?_
        refine xQ.brF (decide_eq_false (nI_ge (b := 10) (by omega) (by omega))) ?_
        refine xQ.go 4 (F1 := (63, [some (.ref 44), some (.long e), none, some (.ref 25), some (.int (nI k)), some (.int (nI b)), none, none], [.int (nI b), .int (nI k), .long (s2.2 44 0)], s2)) rfl ?_
        refine xQ.call rfl (c_pb hk10 hb10 hkb) ?_
        show xQ MX3_find (66, [some (.ref 44), some (.long e), none, some (.ref 25), some (.int (nI k)), some (.int (nI b)), none, none], [.long (pbit k b), .long (s2.2 44 0)], s2) _
        refine xQ.go 3 (F1 := (71, [some (.ref 44), some (.long e), none, some (.ref 25), some (.int (nI k)), some (.int (nI b)), none, none], [.long ((s2.2 44 0) &&& ((pbit k b) ^^^ (-1)))], s2)) rfl ?_
        rw [i1]
        show xQ MX3_find (71, [some (.ref 44), some (.long e), none, some (.ref 25), some (.int (nI k)), some (.int (nI b)), none, none], [.long (wo t k b)], s2) _
        refine xQ.go 6 (F1 := (bif decide ((lg_cmp (wo t k b) (s2.2 44 0)) = 0) then 98 else 83, [some (.ref 44), some (.long e), none, some (.ref 25), some (.int (nI k)), some (.int (nI b)), some (.long (wo t k b)), none], [], s2)) rfl ?_
        rw [lg_cmp0, i1, wo_ne hk10 hb10 hkb]
        cases hG : gr t k b with
        | false =>
          refine xQ.brT rfl ?_
          exact nx s2 (by rw [i1]; unfold obF; rw [if_neg (by rw [hG]; simp)]) i2 i3
        | true =>
          refine xQ.brF rfl ?_
          obtain ⟨r3, s3, hc3, hr3, q1, q2⟩ := c_read_t (w := s2) (e := wo t k b) i2
          subst hr3
          refine xQ.go 2 (F1 := (86, [some (.ref 44), some (.long e), none, some (.ref 25), some (.int (nI k)), some (.int (nI b)), some (.long (wo t k b)), none], [.long (wo t k b), .ref 25], s2)) rfl ?_
          refine xQ.call rfl (hc3) ?_
          show xQ MX3_find (89, [some (.ref 44), some (.long e), none, some (.ref 25), some (.int (nI k)), some (.int (nI b)), some (.long (wo t k b)), none], [.int (if fl (wo t k b) then 1 else 0)], s3) _
          have q3 : xkq ((44, some 0) :: kA_t) w1 s3 := xkq_trans i3 (xkq_mono rfl q2)
          have e4 : s3.2 44 0 = t := (xkq_atJ q2 44 0).trans i1
          refine xQ.go 1 (F1 := (bif !decide ((if fl (wo t k b) then 1 else 0) = 0) then 98 else 92, [some (.ref 44), some (.long e), none, some (.ref 25), some (.int (nI k)), some (.int (nI b)), some (.long (wo t k b)), none], [], s3)) rfl ?_
          cases hF : fl (wo t k b) with
          | true =>
            refine xQ.brT rfl ?_
            exact nx s3 (by rw [e4]; unfold obF; rw [if_neg (by rw [hF]; simp)]) (pOK_of_t q1) q3
          | false =>
            refine xQ.brF rfl ?_
            refine xQ.go 3 (F1 := (98, [some (.ref 44), some (.long e), none, some (.ref 25), some (.int (nI k)), some (.int (nI b)), some (.long (wo t k b)), none], [], (xuJ s3 44 0 (wo t k b)))) rfl ?_
            exact nx _ (by unfold obF; rw [if_pos ⟨hG, hF⟩]; simp [uJ2]) (pOK_kq_t (L := [(44, none)]) (pOK_of_t q1) (xkq_J xkq_rfl rfl)) (xkq_J q3 rfl)
      · intro s2 hI2
        rw [show 10 * k + (k + 1 + (9 - k)) = 10 * (k + 1) by omega, show k + 1 + (9 - k) = 10 by omega] at *
        refine xQ.go 3 (F1 := (bif decide (10 ≤ (nI 10)) then 104 else 55, [some (.ref 44), some (.long e), none, some (.ref 25), some (.int (nI k)), some (.int (nI 10)), none, none], [], s2)) rfl ?_
        refine xQ.brT (rfl) ?_
        refine xQ.go 2 (F1 := (35, [some (.ref 44), some (.long e), none, some (.ref 25), some (.int ((nI k) + 1)), some (.int (nI 10)), none, none], [], s2)) rfl ?_
        refine xQ.less [some (.ref 44), some (.long e), none, some (.ref 25), some (.int ((nI k) + 1)), none, none, none] (by simp [xleb]) ?_
        rw [← nI_succ]
        exact K s2 hI2
    · intro s hI
      obtain ⟨i1, i2, i3⟩ := hI
      refine xQ.go 3 (F1 := (bif decide (10 ≤ (nI 10)) then 110 else 42, [some (.ref 44), some (.long e), none, some (.ref 25), some (.int (nI 10)), none, none, none], [], s)) rfl ?_
      refine xQ.brT (rfl) ?_
      refine xQ.vret 1 rfl rfl ?_
      exact ⟨rfl, ⟨(xkq_at i3 44 2).trans a1.1, (xkq_atJ i3 44 1).trans a1.2.1, i1⟩, i2, xkq_trans (xkq_mono rfl ka) (xkq_mono rfl i3)⟩
  refine xD.of ?_
  show xQ MX3_find (0, [some (.ref 44), some (.long e), none, some (.ref 25), none, none, none, none], [], w) _
  rcases hO with h0 | ⟨E, hE⟩
  · refine xQ.go 3 (F1 := (bif decide ((w.1 44 2) = 0) then 17 else 7, [some (.ref 44), some (.long e), none, some (.ref 25), none, none, none, none], [], w)) rfl ?_
    refine xQ.brT (by rw [h0]; rfl) ?_
    exact com
  · refine xQ.go 3 (F1 := (bif decide ((w.1 44 2) = 0) then 17 else 7, [some (.ref 44), some (.long e), none, some (.ref 25), none, none, none, none], [], w)) rfl ?_
    refine xQ.brF (by rw [hE.1]; rfl) ?_
    refine xQ.go 5 (F1 := (bif !decide ((lg_cmp (w.2 44 1) e) = 0) then 17 else 16, [some (.ref 44), some (.long e), none, some (.ref 25), none, none, none, none], [], w)) rfl ?_
    rw [lg_cmp0, hE.2.1]
    by_cases e3 : E = e
    · rw [e3] at hE
      refine xQ.brF (by rw [decide_eq_true e3]; rfl) ?_
      refine xQ.vret 1 rfl rfl ?_
      exact ⟨rfl, hE, hT, xkq_rfl⟩
    · refine xQ.brT (by rw [decide_eq_false e3]; rfl) ?_
      exact com
theorem c_osize {w : xW} (hj : jok (w.2 44 0)) : xC MX3_size [.ref 44] w (some (.int (nI (ec (gr (w.2 44 0)))))) w := by
  unfold xC
  show xE MX3_size (0, [some (.ref 44)], [], w) _ _
  refine xE.go 2 (F1 := (4, [some (.ref 44)], [.long (w.2 44 0)], w)) rfl ?_
  refine xE.call rfl (c_jones hj) ?_
  show xE MX3_size (7, [some (.ref 44)], [.int (nI (ec (gr (w.2 44 0))))], w) _ _
  exact xE.iret .int 1 rfl rfl (rfl)
theorem c_oholds {w : xW} {a b : Nat} (ha : a < 10) (hb : b < 10) : xC MX3_holds [.ref 44, .int (nI a), .int (nI b)] w (some (.int (if gr (w.2 44 0) a b then 1 else 0))) w := by
  unfold xC
  show xE MX3_holds (0, [some (.ref 44), some (.int (nI a)), some (.int (nI b))], [], w) _ _
  by_cases e : a = b
  · refine xE.go 4 (F1 := (6, [some (.ref 44), some (.int (nI a)), some (.int (nI b))], [.int (nI b), .int (nI a), .long (w.2 44 0)], w)) rfl ?_
    refine xE.call rfl (c_pb_0 (fun x y hx hy hne e1 e2 => hne (by rw [← jI_inj (a := a) (b := x) (by omega) (by omega) e1, ← jI_inj (a := b) (b := y) (by omega) (by omega) e2, e]))) ?_
    show xE MX3_holds (9, [some (.ref 44), some (.int (nI a)), some (.int (nI b))], [.long 0, .long (w.2 44 0)], w) _ _
    refine xE.go 4 (F1 := (bif decide ((lg_cmp ((w.2 44 0) &&& 0) 0) = 0) then 19 else 15, [some (.ref 44), some (.int (nI a)), some (.int (nI b))], [], w)) rfl ?_
    rw [lg_cmp0]
    refine xE.brT (decide_eq_true (by simp)) ?_
    rw [show gr (w.2 44 0) a b = false by rw [e, gr_irr]]
    refine xE.go 1 (F1 := (20, [some (.ref 44), some (.int (nI a)), some (.int (nI b))], [.int 0], w)) rfl ?_
    exact xE.iret .boolean 1 rfl rfl (rfl)
  · refine xE.go 4 (F1 := (6, [some (.ref 44), some (.int (nI a)), some (.int (nI b))], [.int (nI b), .int (nI a), .long (w.2 44 0)], w)) rfl ?_
    refine xE.call rfl (c_pb ha hb e) ?_
    show xE MX3_holds (9, [some (.ref 44), some (.int (nI a)), some (.int (nI b))], [.long (pbit a b), .long (w.2 44 0)], w) _ _
    refine xE.go 4 (F1 := (bif decide ((lg_cmp ((w.2 44 0) &&& (pbit a b)) 0) = 0) then 19 else 15, [some (.ref 44), some (.int (nI a)), some (.int (nI b))], [], w)) rfl ?_
    rw [lg_cmp0]
    cases hg : gr (w.2 44 0) a b with
    | true =>
      refine xE.brF (decide_eq_false (fun e3 => by rw [(and_zero _ ha hb e).mp e3] at hg; cases hg)) ?_
      refine xE.go 2 (F1 := (20, [some (.ref 44), some (.int (nI a)), some (.int (nI b))], [.int 1], w)) rfl ?_
      exact xE.iret .boolean 1 rfl rfl (rfl)
    | false =>
      refine xE.brT (decide_eq_true ((and_zero _ ha hb e).mpr hg)) ?_
      refine xE.go 1 (F1 := (20, [some (.ref 44), some (.int (nI a)), some (.int (nI b))], [.int 0], w)) rfl ?_
      exact xE.iret .boolean 1 rfl rfl (rfl)
theorem c_overts {w : xW} {m : Nat} (hm : m < 10) : xC MX3_verticesInMoreThan [.ref 44, .int (nI m)] w (some (.int (mk (fun v => decide (m < cnt (gr (w.2 44 0) v) 10))))) w := by
  generalize hG : gr (w.2 44 0) = G
  unfold xC
  show xE MX3_verticesInMoreThan (0, [some (.ref 44), some (.int (nI m)), none, none, none, none], [], w) _ _
  refine xE.go 4 (F1 := (4, [some (.ref 44), some (.int (nI m)), some (.int 0), some (.int 0), none, none], [], w)) rfl ?_
  refine xE.loop (S := Unit) (fun k s => (4, [some (.ref 44), some (.int (nI m)), some (.int (mk (fun z => decide (z < k) && decide (m < cnt (G z) 10)))), some (.int (nI k)), none, none], [], w)) (fun _ _ => True) 10 () (by rw [show mk (fun z => decide (z < 0) && decide (m < cnt (G z) 10)) = 0 by rw [mk_0]; exact mk_ext fun z _ => by simp]; rfl) (trivial) ?_ ?_
  · intro k s hk hI K
    have K := K () trivial
    refine xE.go 3 (F1 := (bif decide (10 ≤ (nI k)) then 61 else 10, [some (.ref 44), some (.int (nI m)), some (.int (mk (fun z => decide (z < k) && decide (m < cnt (G z) 10)))), some (.int (nI k)), none, none], [], w)) rfl ?_
    refine xE.brF (decide_eq_false (nI_ge (b := 10) (by omega) (by omega))) ?_
    refine xE.go 4 (F1 := (16, [some (.ref 44), some (.int (nI m)), some (.int (mk (fun z => decide (z < k) && decide (m < cnt (G z) 10)))), some (.int (nI k)), some (.int 0), some (.int 0)], [], w)) rfl ?_
    refine xE.loop (S := Unit) (fun k2 s2 => (16, [some (.ref 44), some (.int (nI m)), some (.int (mk (fun z => decide (z < k) && decide (m < cnt (G z) 10)))), some (.int (nI k)), some (.int (nI (cnt (G k) k2))), some (.int (nI k2))], [], w)) (fun _ _ => True) 10 () (rfl) (trivial) ?_ ?_
    · intro k2 s2 hk2 hI2 K2
      have K2 := K2 () trivial
      rw [show cnt (G k) (k2 + 1) = cnt (G k) k2 + (bif G k k2 then 1 else 0) from rfl] at K2
      refine xE.go 3 (F1 := (bif decide (10 ≤ (nI k2)) then 42 else 23, [some (.ref 44), some (.int (nI m)), some (.int (mk (fun z => decide (z < k) && decide (m < cnt (G z) 10)))), some (.int (nI k)), some (.int (nI (cnt (G k) k2))), some (.int (nI k2))], [], w)) rfl ?_
      refine xE.brF (decide_eq_false (nI_ge (b := 10) (by omega) (by omega))) ?_
      refine xE.go 3 (F1 := (27, [some (.ref 44), some (.int (nI m)), some (.int (mk (fun z => decide (z < k) && decide (m < cnt (G z) 10)))), some (.int (nI k)), some (.int (nI (cnt (G k) k2))), some (.int (nI k2))], [.int (nI k2), .int (nI k), .ref 44], w)) rfl ?_
      refine xE.call rfl (c_oholds (show k < 10 by omega) hk2) ?_
      show xE MX3_verticesInMoreThan (30, [some (.ref 44), some (.int (nI m)), some (.int (mk (fun z => decide (z < k) && decide (m < cnt (G z) 10)))), some (.int (nI k)), some (.int (nI (cnt (G k) k2))), some (.int (nI k2))], [.int (if gr (w.2 44 0) k k2 then 1 else 0)], w) _ _
      refine xE.go 1 (F1 := (bif decide ((if gr (w.2 44 0) k k2 then 1 else 0) = 0) then 36 else 33, [some (.ref 44), some (.int (nI m)), some (.int (mk (fun z => decide (z < k) && decide (m < cnt (G z) 10)))), some (.int (nI k)), some (.int (nI (cnt (G k) k2))), some (.int (nI k2))], [], w)) rfl ?_
      rw [hG]
      cases hg : G k k2 with
      | true =>
        refine xE.brF rfl ?_
        refine xE.go 3 (F1 := (16, [some (.ref 44), some (.int (nI m)), some (.int (mk (fun z => decide (z < k) && decide (m < cnt (G z) 10)))), some (.int (nI k)), some (.int ((nI (cnt (G k) k2)) + 1)), some (.int ((nI k2) + 1))], [], w)) rfl ?_
        rw [← nI_succ, ← nI_succ]
        rw [hg] at K2
        exact K2
      | false =>
        refine xE.brT rfl ?_
        refine xE.go 2 (F1 := (16, [some (.ref 44), some (.int (nI m)), some (.int (mk (fun z => decide (z < k) && decide (m < cnt (G z) 10)))), some (.int (nI k)), some (.int (nI (cnt (G k) k2))), some (.int ((nI k2) + 1))], [], w)) rfl ?_
        rw [← nI_succ]
        rw [hg] at K2
        exact K2
    · intro s2 hI2
      have hc := cnt_le (G k) 10
      refine xE.go 3 (F1 := (bif decide (10 ≤ (nI 10)) then 42 else 23, [some (.ref 44), some (.int (nI m)), some (.int (mk (fun z => decide (z < k) && decide (m < cnt (G z) 10)))), some (.int (nI k)), some (.int (nI (cnt (G k) 10))), some (.int (nI 10))], [], w)) rfl ?_
      refine xE.brT (rfl) ?_
      refine xE.go 3 (F1 := (bif decide ((nI (cnt (G k) 10)) ≤ (nI m)) then 55 else 48, [some (.ref 44), some (.int (nI m)), some (.int (mk (fun z => decide (z < k) && decide (m < cnt (G z) 10)))), some (.int (nI k)), some (.int (nI (cnt (G k) 10))), some (.int (nI 10))], [], w)) rfl ?_
      have hne : mk (fun z => decide (z < k) && decide (m < cnt (G z) 10)) = mk (fun z => decide (z < k) && decide (m < cnt (G z) 10)) := rfl
      by_cases hlt : m < cnt (G k) 10
      · refine xE.brF (decide_eq_false (fun h => absurd (nI_leI (by omega) (by omega) |>.mp h) (by omega))) ?_
        refine xE.go 2 (F1 := (50, [some (.ref 44), some (.int (nI m)), some (.int (mk (fun z => decide (z < k) && decide (m < cnt (G z) 10)))), some (.int (nI k)), some (.int (nI (cnt (G k) 10))), some (.int (nI 10))], [.int (nI k), .int (mk (fun z => decide (z < k) && decide (m < cnt (G z) 10)))], w)) rfl ?_
        refine xE.call rfl (c_bit (show k < 10 by omega)) ?_
        show xE MX3_verticesInMoreThan (53, [some (.ref 44), some (.int (nI m)), some (.int (mk (fun z => decide (z < k) && decide (m < cnt (G z) 10)))), some (.int (nI k)), some (.int (nI (cnt (G k) 10))), some (.int (nI 10))], [.int (mk (fun v => decide (v = k))), .int (mk (fun z => decide (z < k) && decide (m < cnt (G z) 10)))], w) _ _
        refine xE.go 4 (F1 := (4, [some (.ref 44), some (.int (nI m)), some (.int ((mk (fun z => decide (z < k) && decide (m < cnt (G z) 10))) ||| (mk (fun v => decide (v = k))))), some (.int ((nI k) + 1)), some (.int (nI (cnt (G k) 10))), some (.int (nI 10))], [], w)) rfl ?_
        refine xE.less [some (.ref 44), some (.int (nI m)), some (.int ((mk (fun z => decide (z < k) && decide (m < cnt (G z) 10))) ||| (mk (fun v => decide (v = k))))), some (.int ((nI k) + 1)), none, none] (by simp [xleb]) ?_
        rw [mk_or, ← nI_succ, show mk (fun v => (decide (v < k) && decide (m < cnt (G v) 10)) || decide (v = k)) = mk (fun z => decide (z < k + 1) && decide (m < cnt (G z) 10)) from mk_ext fun z hz => by
          by_cases e2 : z = k
          · rw [e2, decide_eq_true hlt]; simp
          · rw [show decide (z < k) = decide (z < k + 1) from decide_eq_decide.mpr (by omega), decide_eq_false e2, Bool.or_false]]
        exact K
      · refine xE.brT (decide_eq_true (nI_le (by omega) (by omega))) ?_
        refine xE.go 2 (F1 := (4, [some (.ref 44), some (.int (nI m)), some (.int (mk (fun z => decide (z < k) && decide (m < cnt (G z) 10)))), some (.int ((nI k) + 1)), some (.int (nI (cnt (G k) 10))), some (.int (nI 10))], [], w)) rfl ?_
        refine xE.less [some (.ref 44), some (.int (nI m)), some (.int (mk (fun z => decide (z < k) && decide (m < cnt (G z) 10)))), some (.int ((nI k) + 1)), none, none] (by simp [xleb]) ?_
        rw [← nI_succ, show mk (fun v => decide (v < k) && decide (m < cnt (G v) 10)) = mk (fun z => decide (z < k + 1) && decide (m < cnt (G z) 10)) from mk_ext fun z hz => by
          by_cases e2 : z = k
          · rw [e2, decide_eq_false hlt]; simp
          · rw [show decide (z < k) = decide (z < k + 1) from decide_eq_decide.mpr (by omega)]]
        exact K
  · intro s hI
    refine xE.go 3 (F1 := (bif decide (10 ≤ (nI 10)) then 61 else 10, [some (.ref 44), some (.int (nI m)), some (.int (mk (fun z => decide (z < 10) && decide (m < cnt (G z) 10)))), some (.int (nI 10)), none, none], [], w)) rfl ?_
    refine xE.brT (rfl) ?_
    rw [show mk (fun z => decide (z < 10) && decide (m < cnt (G z) 10)) = mk (fun z => decide (m < cnt (G z) 10)) from mk_ext fun z hz => by rw [decide_eq_true hz, Bool.true_and]]
    refine xE.go 1 (F1 := (62, [some (.ref 44), some (.int (nI m)), some (.int (mk (fun z => decide (m < cnt (G z) 10)))), some (.int (nI 10)), none, none], [.int (mk (fun z => decide (m < cnt (G z) 10)))], w)) rfl ?_
    exact xE.iret .int 1 rfl rfl (rfl)
