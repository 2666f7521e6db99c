/-- the first cycle, and what is placed with it -/
def cyc0 (H : Nat → Nat → Bool) (S : Nat → Bool) : List Nat := low S :: low (H (low S)) :: (dsc H (SA S (low S) (low (H (low S)))) (fun v => decide (v = low S)) (fdep H (SA S (low S) (low (H (low S)))) (fun v => decide (v = low S)) (low (H (low S))) 9) (low (H (low S)))).dropLast
def cycP (c : List Nat) : Nat → Nat → Bool := fun x y => decide ((x, y) ∈ dts c) || decide ((y, x) ∈ dts c)
def cyc1 (H : Nat → Nat → Bool) (S : Nat → Bool) : xSg := (cycP (cyc0 H S), (fun v => decide (v ∈ cyc0 H S)), [cyc0 H S, (cyc0 H S).reverse], (cyc0 H S).length)
theorem cyc0_ok {H : Nat → Nat → Bool} {S : Nat → Bool} (hb : BIC H S) (hS : ∀ v, S v = true → v < 10) (he : 2 ≤ ec H) : ∃ a b inn, a = low S ∧ b = low (H a) ∧ cyc0 H S = a :: b :: inn ∧ a < 10 ∧ b < 10 ∧ fdep H (SA S a b) (fun v => decide (v = a)) b 9 ≠ 0 ∧ fdep H (SA S a b) (fun v => decide (v = a)) b 9 ≤ 8 ∧ dsc H (SA S a b) (fun v => decide (v = a)) (fdep H (SA S a b) (fun v => decide (v = a)) b 9) b = inn ++ [a] ∧ 1 ≤ inn.length ∧ inn.length ≤ 8 ∧ (cyc0 H S).Nodup ∧ (∀ v ∈ cyc0 H S, v < 10 ∧ S v = true) ∧ (∀ q ∈ dts (cyc0 H S), H q.1 q.2 = true) ∧ EOK H S (cyc1 H S) := by
  obtain ⟨h1, h2, h3, h4, h5, h6, inn, i1, i2, i3, i4, i5⟩ := cyc_ok hb hS he
  have hc : cyc0 H S = low S :: low (H (low S)) :: inn := by
    unfold cyc0
    rw [i1]
    simp
  have hne : low S ≠ low (H (low S)) := fun e => by
    have h4 := h4
    rw [← e, hb.2.1] at h4
    cases h4
  have hSb : S (low (H (low S))) = true := (hb.2.2.1 _ _ h4).2.2.2
  have hn : (cyc0 H S).Nodup := by
    rw [hc]
    refine List.nodup_cons.mpr ⟨fun hm => ?_, List.nodup_cons.mpr ⟨fun hm => (i4 _ hm).2.2.2 rfl, i3⟩⟩
    rcases List.mem_cons.mp hm with e | e
    · exact hne e
    · exact (i4 _ e).2.2.1 rfl
  have hm : ∀ v ∈ cyc0 H S, v < 10 ∧ S v = true := fun v hv => by
    rw [hc] at hv
    rcases List.mem_cons.mp hv with e | e
    · rw [e]; exact ⟨h1, h2⟩
    · rcases List.mem_cons.mp e with e | e
      · rw [e]; exact ⟨h3, hSb⟩
      · exact ⟨(i4 v e).1, (i4 v e).2.1⟩
  have hd : ∀ q ∈ dts (cyc0 H S), H q.1 q.2 = true := fun q hq => by
    rw [hc] at hq
    have e : dts (low S :: low (H (low S)) :: inn) = (low S, low (H (low S))) :: pd (low (H (low S)) :: inn ++ [low S]) := rfl
    rw [e] at hq
    rcases List.mem_cons.mp hq with e | e
    · rw [e]; exact h4
    · exact i5 q e
  have h3l : 3 ≤ (cyc0 H S).length := by
    rw [hc]
    simp only [List.length_cons]
    omega
  refine ⟨_, _, inn, rfl, rfl, hc, h1, h3, h5, h6, i1, by omega, by omega, hn, hm, hd, ?_, Nat.le_refl 2⟩
  exact INV_cycle hb.1 hn h3l hm hd
theorem c_cycle_p {w : xW} {H : Nat → Nat → Bool} {S : Nat → Bool} (hb : BIC H S) (hS : ∀ v, S v = true → v < 10) (he : 2 ≤ ec H) (hG : eG 18 19 w H S) (hP : eP 18 20 w (fun _ _ => false) (fun _ => false) 0) : xD MX1_placeCycle [.ref 18] w (fun r w1 => r = some (.int 1) ∧ eP 18 20 w1 (cyc1 H S).1 (cyc1 H S).2.1 (cyc1 H S).2.2.2 ∧ eF 18 21 22 w1 (cyc1 H S).2.2.1 ∧ xkq [(18, some 3), (18, some 5), (18, some 8), (18, some 14), (20, none), (21, none), (22, none), (23, none), (24, none)] w w1) := by
  obtain ⟨a, b, inn, ea, eb, hc, ha, hb10, h0, h8, hds, hi1, hi8, hcn, hcm, hcd, _⟩ := cyc0_ok hb hS he
  rw [hc] at hcn hcm hcd
  obtain ⟨p, hpp⟩ : ∃ p, p = b :: inn ++ [a] := ⟨_, rfl⟩
  have hpl : p.length = inn.length + 2 := by rw [hpp]; simp
  have hpn : p.Nodup := by
    rw [hpp]
    have := List.nodup_cons.mp hcn
    exact List.nodup_append.mpr ⟨this.2, by simp, fun x hx y hy e => by
      rw [List.mem_singleton] at hy
      rw [e, hy] at hx
      exact this.1 hx⟩
  have hpm : ∀ v, v ∈ p ↔ v ∈ a :: b :: inn := fun v => by
    rw [hpp]
    simp only [List.mem_append, List.mem_cons, List.not_mem_nil, or_false]
    constructor
    · rintro ((h | h) | h) <;> simp [h]
    · rintro (h | h | h) <;> simp [h]
  have hp10 : ∀ v ∈ p, v < 10 := fun v hv => (hcm v ((hpm v).mp hv)).1
  have hgp : ∀ k, k < p.length → p.getD k 0 ∈ p ∧ p.getD k 0 < 10 := fun k hk => by
    have := List.mem_of_getElem? (get_D hk)
    exact ⟨this, hp10 _ this⟩
  have hp0 : p.getD 0 0 = b := by rw [hpp]; rfl
  have hpe : p.getD (inn.length + 1) 0 = a := by rw [hpp, List.getD_eq_getElem?_getD]; simp
  have hpj : ∀ i j, i < p.length → j < p.length → p.getD i 0 = p.getD j 0 → i = j := fun i j hi hj e => nodup_ix hpn (get_D hi) (by rw [get_D hj, e])
  have hdt : dts (a :: b :: inn) = (a, b) :: pd p := by rw [hpp]; rfl
  refine xD.of ?_
  show xQ MX1_placeCycle (0, [some (.ref 18), none, none, none, none, none], [], w) _
  refine xQ.go 2 (F1 := (4, [some (.ref 18), none, none, none, none, none], [.int (w.1 18 2)], w)) rfl ?_
  rw [hG.2.1]
  refine xQ.call rfl (c_least (by rw [← ea]; exact ha)) ?_
  show xQ MX1_placeCycle (7, [some (.ref 18), none, none, none, none, none], [.int (nI (low S))], w) _
  rw [← ea]
  refine xQ.go 4 (F1 := (13, [some (.ref 18), some (.int (nI a)), none, none, none, none], [.int (nI a), .ref 19], w)) rfl ?_
  refine xQ.call rfl (c_at rfl ha (by omega)) ?_
  show xQ MX1_placeCycle (16, [some (.ref 18), some (.int (nI a)), none, none, none, none], [.int (w.1 19 a)], w) _
  rw [hG.1 a ha]
  refine xQ.call rfl (c_least (by rw [← eb]; exact hb10)) ?_
  show xQ MX1_placeCycle (19, [some (.ref 18), some (.int (nI a)), none, none, none, none], [.int (nI (low (H a)))], w) _
  rw [← eb]
  refine xQ.go 4 (F1 := (23, [some (.ref 18), some (.int (nI a)), some (.int (nI b)), none, none, none], [.int (nI a), .int (nI b), .ref 18], w)) rfl ?_
  refine xQ.call rfl (c_bit ha) ?_
  show xQ MX1_placeCycle (26, [some (.ref 18), some (.int (nI a)), some (.int (nI b)), none, none, none], [.int (mk (fun v => decide (v = a))), .int (nI b), .ref 18], w) _
  refine xQ.go 3 (F1 := (31, [some (.ref 18), some (.int (nI a)), some (.int (nI b)), none, none, none], [.int (nI a), .int (w.1 18 2), .int (mk (fun v => decide (v = a))), .int (nI b), .ref 18], w)) rfl ?_
  refine xQ.call rfl (c_bit ha) ?_
  show xQ MX1_placeCycle (34, [some (.ref 18), some (.int (nI a)), some (.int (nI b)), none, none, none], [.int (mk (fun v => decide (v = a))), .int (w.1 18 2), .int (mk (fun v => decide (v = a))), .int (nI b), .ref 18], w) _
  refine xQ.go 3 (F1 := (37, [some (.ref 18), some (.int (nI a)), some (.int (nI b)), none, none, none], [.int ((w.1 18 2) &&& ((mk (fun v => decide (v = a))) ^^^ (-1))), .int (mk (fun v => decide (v = a))), .int (nI b), .ref 18], w)) rfl ?_
  rw [hG.2.1, mk_andn]
  refine xQ.go 1 (F1 := (38, [some (.ref 18), some (.int (nI a)), some (.int (nI b)), none, none, none], [.int (nI b), .int (mk (fun v => S v && !decide (v = a))), .int (mk (fun v => decide (v = a))), .int (nI b), .ref 18], w)) rfl ?_
  refine xQ.call rfl (c_bit hb10) ?_
  show xQ MX1_placeCycle (41, [some (.ref 18), some (.int (nI a)), some (.int (nI b)), none, none, none], [.int (mk (fun v => decide (v = b))), .int (mk (fun v => S v && !decide (v = a))), .int (mk (fun v => decide (v = a))), .int (nI b), .ref 18], w) _
  refine xQ.go 3 (F1 := (44, [some (.ref 18), some (.int (nI a)), some (.int (nI b)), none, none, none], [.int ((mk (fun v => S v && !decide (v = a))) &&& ((mk (fun v => decide (v = b))) ^^^ (-1))), .int (mk (fun v => decide (v = a))), .int (nI b), .ref 18], w)) rfl ?_
  rw [mk_andn, show (fun v => (S v && !decide (v = a)) && !decide (v = b)) = SA S a b from rfl]
  obtain ⟨r1, w1, hc1, hr1, hl1, hk1⟩ := c_findPath_p (w := w) (H := H) (A := SA S a b) (T := fun v => decide (v = a)) (u := b) hb.1 hG.1 hb10 h0 h8
  subst hr1
  refine xQ.call rfl (hc1) ?_
  show xQ MX1_placeCycle (47, [some (.ref 18), some (.int (nI a)), some (.int (nI b)), none, none, none], [.int 1], w1) _
  rw [hds, ← List.cons_append, ← hpp] at hl1
  have hpr : ∀ k, k < p.length → w1.1 23 k = nI (p.getD k 0) := fun k hk => hl1.2 k _ (get_D hk)
  have hp1 : w1.1 18 14 = nI (inn.length + 2) := by rw [hl1.1, hpl]
  refine xQ.go 1 (F1 := (bif !decide (1 = 0) then 52 else 50, [some (.ref 18), some (.int (nI a)), some (.int (nI b)), none, none, none], [], w1)) rfl ?_
  refine xQ.brT (rfl) ?_
  refine xQ.go 3 (F1 := (57, [some (.ref 18), some (.int (nI a)), some (.int (nI b)), none, none, none], [.int 0, .ref 22], w1)) rfl ?_
  show xQ MX1_placeCycle (57, [some (.ref 18), some (.int (nI a)), some (.int (nI b)), none, none, none], [.int (nI 0), .ref 22], w1) _
  refine xQ.go 1 (F1 := (58, [some (.ref 18), some (.int (nI a)), some (.int (nI b)), none, none, none], [.int (nI a), .int (nI 0), .ref 22], w1)) rfl ?_
  refine xQ.call rfl (c_cell) ?_
  show xQ MX1_placeCycle (61, [some (.ref 18), some (.int (nI a)), some (.int (nI b)), none, none, none], [.int (nI (10 * 0 + a)), .ref 22], w1) _
  refine xQ.go 1 (F1 := (62, [some (.ref 18), some (.int (nI a)), some (.int (nI b)), none, none, none], [.int (nI b), .int (nI (10 * 0 + a)), .ref 22], w1)) rfl ?_
  refine xQ.call rfl (c_put rfl (by omega) (by omega)) ?_
  show xQ MX1_placeCycle (65, [some (.ref 18), some (.int (nI a)), some (.int (nI b)), none, none, none], [], (xuI w1 22 (10 * 0 + a) (nI b))) _
  refine xQ.go 3 (F1 := (70, [some (.ref 18), some (.int (nI a)), some (.int (nI b)), none, none, none], [.int 1, .ref 22], (xuI w1 22 (10 * 0 + a) (nI b)))) rfl ?_
  show xQ MX1_placeCycle (70, [some (.ref 18), some (.int (nI a)), some (.int (nI b)), none, none, none], [.int (nI 1), .ref 22], (xuI w1 22 (10 * 0 + a) (nI b))) _
  refine xQ.go 1 (F1 := (71, [some (.ref 18), some (.int (nI a)), some (.int (nI b)), none, none, none], [.int (nI b), .int (nI 1), .ref 22], (xuI w1 22 (10 * 0 + a) (nI b)))) rfl ?_
  refine xQ.call rfl (c_cell) ?_
  show xQ MX1_placeCycle (74, [some (.ref 18), some (.int (nI a)), some (.int (nI b)), none, none, none], [.int (nI (10 * 1 + b)), .ref 22], (xuI w1 22 (10 * 0 + a) (nI b))) _
  refine xQ.go 1 (F1 := (75, [some (.ref 18), some (.int (nI a)), some (.int (nI b)), none, none, none], [.int (nI a), .int (nI (10 * 1 + b)), .ref 22], (xuI w1 22 (10 * 0 + a) (nI b)))) rfl ?_
  refine xQ.call rfl (c_put rfl (by omega) (by omega)) ?_
  show xQ MX1_placeCycle (78, [some (.ref 18), some (.int (nI a)), some (.int (nI b)), none, none, none], [], (xuI (xuI w1 22 (10 * 0 + a) (nI b)) 22 (10 * 1 + b) (nI a))) _
  obtain ⟨w2, hw2⟩ : ∃ w2, w2 = (xuI (xuI w1 22 (10 * 0 + a) (nI b)) 22 (10 * 1 + b) (nI a)) := ⟨_, rfl⟩
  have hk2 : xkq [(22, none)] w1 w2 := by rw [hw2]; exact xkq_I (xkq_I xkq_rfl rfl) rfl
  have hab : a ≠ b := fun e => (List.nodup_cons.mp hcn).1 (by rw [e]; simp)
  have ha1 : w2.1 22 (10 * 0 + a) = nI b := by rw [hw2, uI1, if_neg (by omega), uI1, if_pos ⟨rfl, rfl⟩]
  have hb1 : w2.1 22 (10 * 1 + b) = nI a := by rw [hw2, uI1, if_pos ⟨rfl, rfl⟩]
  rw [← hw2]
  have hP2 : eP 18 20 w2 (fun _ _ => false) (fun _ => false) 0 := ⟨fun v hv => by rw [xkq_at hk2 20 v, xkq_at hk1 20 v]; exact hP.1 v hv, by rw [xkq_at hk2 18 3, xkq_at hk1 18 3]; exact hP.2.1, by rw [xkq_at hk2 18 5, xkq_at hk1 18 5]; exact hP.2.2⟩
  obtain ⟨r3, w3, hc3, hr3, hP3, hk3⟩ := c_placeEdge_p hP2 ha hb10
  subst hr3
  refine xQ.go 3 (F1 := (81, [some (.ref 18), some (.int (nI a)), some (.int (nI b)), none, none, none], [.int (nI b), .int (nI a), .ref 18], w2)) rfl ?_
  refine xQ.call rfl (hc3) ?_
  show xQ MX1_placeCycle (84, [some (.ref 18), some (.int (nI a)), some (.int (nI b)), none, none, none], [], w3) _
  refine xQ.go 2 (F1 := (86, [some (.ref 18), some (.int (nI a)), some (.int (nI b)), some (.int 1), none, none], [], w3)) rfl ?_
  obtain ⟨P1, hP1e⟩ : ∃ P1, P1 = adP (fun _ _ => false) a b := ⟨_, rfl⟩
  obtain ⟨V1, hV1e⟩ : ∃ V1, V1 = adV (fun _ => false) a b := ⟨_, rfl⟩
  rw [← hP1e, ← hV1e] at hP3
  have hV1 : ∀ v, V1 v = true ↔ v = a ∨ v = b := fun v => by rw [hV1e]; simp [adV]
  refine xQ.loop (S := xW) (fun k s => (86, [some (.ref 18), some (.int (nI a)), some (.int (nI b)), some (.int (nI (k + 1))), none, none], [], s)) (fun k s => xkq [(18, some 3), (18, some 5), (20, none), (22, none)] w3 s ∧ eP 18 20 s (addP P1 (p.take (k + 1))) (addV V1 (p.take (k + 1))) (1 + k) ∧ (∀ j, j < k → s.1 22 (10 * 0 + p.getD j 0) = nI (p.getD (j + 1) 0) ∧ s.1 22 (10 * 1 + p.getD (j + 1) 0) = nI (p.getD j 0)) ∧ s.1 22 (10 * 0 + a) = nI b ∧ s.1 22 (10 * 1 + b) = nI a) (inn.length + 1) w3 (rfl) (⟨xkq_rfl, ⟨fun v hv => by rw [hP3.1 v hv, hpp]; exact mk_ext fun x _ => by simp [addP, pd], by rw [hP3.2.1, hpp]; exact mk_ext fun x _ => (by simp [addV]; intro e; exact (hV1 x).mpr (Or.inr e)), hP3.2.2⟩, fun j hj => absurd hj (by omega), by rw [xkq_at hk3 22 _]; exact ha1, by rw [xkq_at hk3 22 _]; exact hb1⟩) ?_ ?_
  · intro k s hk hI K
    obtain ⟨j1, j2, j3, j4, j5⟩ := hI
    obtain ⟨g1, g2⟩ := hgp k (by omega)
    obtain ⟨g3, g4⟩ := hgp (k + 1) (by omega)
    have hfl : s.1 18 14 = nI (inn.length + 2) := by rw [xkq_at j1 18 14, xkq_at hk3 18 14, xkq_at hk2 18 14, hp1]
    have hfp : ∀ j, s.1 23 j = w1.1 23 j := fun j => by rw [xkq_at j1 23 j, xkq_at hk3 23 j, xkq_at hk2 23 j]
    refine xQ.go 4 (F1 := (bif decide ((s.1 18 14) ≤ (nI (k + 1))) then 160 else 94, [some (.ref 18), some (.int (nI a)), some (.int (nI b)), some (.int (nI (k + 1))), none, none], [], s)) rfl ?_
    refine xQ.brF (by rw [hfl]; exact decide_eq_false (nI_ge (by omega) (by omega))) ?_
    refine xQ.go 5 (F1 := (101, [some (.ref 18), some (.int (nI a)), some (.int (nI b)), some (.int (nI (k + 1))), none, none], [.int ((nI (k + 1)) - 1), .ref 23], s)) rfl ?_
    rw [show nI (k + 1) - 1 = nI k from jI_sub (b := 1) (by omega)]
    refine xQ.call rfl (c_at rfl (by omega) (by omega)) ?_
    show xQ MX1_placeCycle (104, [some (.ref 18), some (.int (nI a)), some (.int (nI b)), some (.int (nI (k + 1))), none, none], [.int (s.1 23 k)], s) _
    rw [hfp, hpr k (by omega)]
    refine xQ.go 4 (F1 := (111, [some (.ref 18), some (.int (nI a)), some (.int (nI b)), some (.int (nI (k + 1))), some (.int (nI (p.getD k 0))), none], [.int (nI (k + 1)), .ref 23], s)) rfl ?_
    refine xQ.call rfl (c_at rfl (by omega) (by omega)) ?_
    show xQ MX1_placeCycle (114, [some (.ref 18), some (.int (nI a)), some (.int (nI b)), some (.int (nI (k + 1))), some (.int (nI (p.getD k 0))), none], [.int (s.1 23 (k + 1))], s) _
    rw [hfp, hpr (k + 1) (by omega)]
    refine xQ.go 4 (F1 := (121, [some (.ref 18), some (.int (nI a)), some (.int (nI b)), some (.int (nI (k + 1))), some (.int (nI (p.getD k 0))), some (.int (nI (p.getD (k + 1) 0)))], [.int 0, .ref 22], s)) rfl ?_
    show xQ MX1_placeCycle (121, [some (.ref 18), some (.int (nI a)), some (.int (nI b)), some (.int (nI (k + 1))), some (.int (nI (p.getD k 0))), some (.int (nI (p.getD (k + 1) 0)))], [.int (nI 0), .ref 22], s) _
    refine xQ.go 1 (F1 := (123, [some (.ref 18), some (.int (nI a)), some (.int (nI b)), some (.int (nI (k + 1))), some (.int (nI (p.getD k 0))), some (.int (nI (p.getD (k + 1) 0)))], [.int (nI (p.getD k 0)), .int (nI 0), .ref 22], s)) rfl ?_
    refine xQ.call rfl (c_cell) ?_
    show xQ MX1_placeCycle (126, [some (.ref 18), some (.int (nI a)), some (.int (nI b)), some (.int (nI (k + 1))), some (.int (nI (p.getD k 0))), some (.int (nI (p.getD (k + 1) 0)))], [.int (nI (10 * 0 + p.getD k 0)), .ref 22], s) _
    refine xQ.go 1 (F1 := (128, [some (.ref 18), some (.int (nI a)), some (.int (nI b)), some (.int (nI (k + 1))), some (.int (nI (p.getD k 0))), some (.int (nI (p.getD (k + 1) 0)))], [.int (nI (p.getD (k + 1) 0)), .int (nI (10 * 0 + p.getD k 0)), .ref 22], s)) rfl ?_
    refine xQ.call rfl (c_put rfl (by omega) (by omega)) ?_
    show xQ MX1_placeCycle (131, [some (.ref 18), some (.int (nI a)), some (.int (nI b)), some (.int (nI (k + 1))), some (.int (nI (p.getD k 0))), some (.int (nI (p.getD (k + 1) 0)))], [], (xuI s 22 (10 * 0 + p.getD k 0) (nI (p.getD (k + 1) 0)))) _
    refine xQ.go 3 (F1 := (136, [some (.ref 18), some (.int (nI a)), some (.int (nI b)), some (.int (nI (k + 1))), some (.int (nI (p.getD k 0))), some (.int (nI (p.getD (k + 1) 0)))], [.int 1, .ref 22], (xuI s 22 (10 * 0 + p.getD k 0) (nI (p.getD (k + 1) 0))))) rfl ?_
    show xQ MX1_placeCycle (136, [some (.ref 18), some (.int (nI a)), some (.int (nI b)), some (.int (nI (k + 1))), some (.int (nI (p.getD k 0))), some (.int (nI (p.getD (k + 1) 0)))], [.int (nI 1), .ref 22], (xuI s 22 (10 * 0 + p.getD k 0) (nI (p.getD (k + 1) 0)))) _
    refine xQ.go 1 (F1 := (138, [some (.ref 18), some (.int (nI a)), some (.int (nI b)), some (.int (nI (k + 1))), some (.int (nI (p.getD k 0))), some (.int (nI (p.getD (k + 1) 0)))], [.int (nI (p.getD (k + 1) 0)), .int (nI 1), .ref 22], (xuI s 22 (10 * 0 + p.getD k 0) (nI (p.getD (k + 1) 0))))) rfl ?_
    refine xQ.call rfl (c_cell) ?_
    show xQ MX1_placeCycle (141, [some (.ref 18), some (.int (nI a)), some (.int (nI b)), some (.int (nI (k + 1))), some (.int (nI (p.getD k 0))), some (.int (nI (p.getD (k + 1) 0)))], [.int (nI (10 * 1 + p.getD (k + 1) 0)), .ref 22], (xuI s 22 (10 * 0 + p.getD k 0) (nI (p.getD (k + 1) 0)))) _
    refine xQ.go 1 (F1 := (143, [some (.ref 18), some (.int (nI a)), some (.int (nI b)), some (.int (nI (k + 1))), some (.int (nI (p.getD k 0))), some (.int (nI (p.getD (k + 1) 0)))], [.int (nI (p.getD k 0)), .int (nI (10 * 1 + p.getD (k + 1) 0)), .ref 22], (xuI s 22 (10 * 0 + p.getD k 0) (nI (p.getD (k + 1) 0))))) rfl ?_
    refine xQ.call rfl (c_put rfl (by omega) (by omega)) ?_
    show xQ MX1_placeCycle (146, [some (.ref 18), some (.int (nI a)), some (.int (nI b)), some (.int (nI (k + 1))), some (.int (nI (p.getD k 0))), some (.int (nI (p.getD (k + 1) 0)))], [], (xuI (xuI s 22 (10 * 0 + p.getD k 0) (nI (p.getD (k + 1) 0))) 22 (10 * 1 + p.getD (k + 1) 0) (nI (p.getD k 0)))) _
    obtain ⟨s2, hs2⟩ : ∃ s2, s2 = (xuI (xuI s 22 (10 * 0 + p.getD k 0) (nI (p.getD (k + 1) 0))) 22 (10 * 1 + p.getD (k + 1) 0) (nI (p.getD k 0))) := ⟨_, rfl⟩
    have hq2 : xkq [(22, none)] s s2 := by rw [hs2]; exact xkq_I (xkq_I xkq_rfl rfl) rfl
    have hr1 : s2.1 22 (10 * 0 + p.getD k 0) = nI (p.getD (k + 1) 0) := by
      rw [hs2, uI1, if_neg (by omega), uI1, if_pos ⟨rfl, rfl⟩]
    have hr2 : s2.1 22 (10 * 1 + p.getD (k + 1) 0) = nI (p.getD k 0) := by
      rw [hs2, uI1, if_pos ⟨rfl, rfl⟩]
    have hr3 : ∀ i x, x < 10 → ¬ (i = 0 ∧ x = p.getD k 0) → ¬ (i = 1 ∧ x = p.getD (k + 1) 0) → s2.1 22 (10 * i + x) = s.1 22 (10 * i + x) := fun i x hx n1 n2 => by
      rw [hs2, uI1, if_neg (by omega), uI1, if_neg (by omega)]
    rw [← hs2]
    have hP4 : eP 18 20 s2 (addP P1 (p.take (k + 1))) (addV V1 (p.take (k + 1))) (1 + k) := ⟨fun v hv => by rw [xkq_at hq2 20 v]; exact j2.1 v hv, by rw [xkq_at hq2 18 3]; exact j2.2.1, by rw [xkq_at hq2 18 5]; exact j2.2.2⟩
    obtain ⟨r5, s3, hc5, hr5, hP5, hk5⟩ := c_placeEdge_p hP4 g2 g4
    subst hr5
    refine xQ.go 3 (F1 := (151, [some (.ref 18), some (.int (nI a)), some (.int (nI b)), some (.int (nI (k + 1))), some (.int (nI (p.getD k 0))), some (.int (nI (p.getD (k + 1) 0)))], [.int (nI (p.getD (k + 1) 0)), .int (nI (p.getD k 0)), .ref 18], s2)) rfl ?_
    refine xQ.call rfl (hc5) ?_
    show xQ MX1_placeCycle (154, [some (.ref 18), some (.int (nI a)), some (.int (nI b)), some (.int (nI (k + 1))), some (.int (nI (p.getD k 0))), some (.int (nI (p.getD (k + 1) 0)))], [], s3) _
    refine xQ.less [some (.ref 18), some (.int (nI a)), some (.int (nI b)), some (.int (nI (k + 1))), none, none] (by simp [xleb]) ?_
    refine xQ.go 2 (F1 := (86, [some (.ref 18), some (.int (nI a)), some (.int (nI b)), some (.int ((nI (k + 1)) + 1)), none, none], [], s3)) rfl ?_
    rw [← nI_succ]
    refine K s3 ⟨xkq_trans (xkq_trans j1 (xkq_mono rfl hq2)) (xkq_mono rfl hk5), ⟨fun v hv => ?_, ?_, hP5.2.2⟩, fun j hj => ?_, ?_, ?_⟩
    · rw [hP5.1 v hv]
      refine mk_ext fun x _ => Bool.eq_iff_iff.mpr ?_
      rw [addP_iff]
      show (addP P1 (p.take (k + 1)) v x || ab _ _ v x) = true ↔ _
      rw [Bool.or_eq_true, addP_iff, ab_iff, pd_take (by omega), pd_take (by omega)]
      simp only [Prod.mk.injEq]
      constructor
      · rintro ((h | h | h) | h | h)
        · exact Or.inl h
        · exact Or.inr (Or.inl (Or.inl h))
        · exact Or.inr (Or.inr (Or.inl h))
        · exact Or.inr (Or.inl (Or.inr h))
        · exact Or.inr (Or.inr (Or.inr ⟨h.2, h.1⟩))
      · rintro (h | (h | h) | h | h)
        · exact Or.inl (Or.inl h)
        · exact Or.inl (Or.inr (Or.inl h))
        · exact Or.inr (Or.inl h)
        · exact Or.inl (Or.inr (Or.inr h))
        · exact Or.inr (Or.inr ⟨h.2, h.1⟩)
    · rw [hP5.2.1]
      refine mk_ext fun x _ => Bool.eq_iff_iff.mpr ?_
      rw [addV_iff, mem_take1 (by omega)]
      show (addV V1 (p.take (k + 1)) x || (decide (x = _) || decide (x = _))) = true ↔ _
      simp only [Bool.or_eq_true, decide_eq_true_iff, addV_iff]
      have hm : p.getD k 0 ∈ p.take (k + 1) := (mem_take1 (by omega)).mpr (Or.inr rfl)
      constructor
      · rintro ((h | h) | h | h)
        · exact Or.inl h
        · exact Or.inr (Or.inl h)
        · rw [h]; exact Or.inr (Or.inl hm)
        · exact Or.inr (Or.inr h)
      · rintro (h | h | h)
        · exact Or.inl (Or.inl h)
        · exact Or.inl (Or.inr h)
        · exact Or.inr (Or.inr h)
    · rw [xkq_at hk5 22 _, xkq_at hk5 22 _]
      by_cases e : j = k
      · rw [e]
        exact ⟨hr1, hr2⟩
      · obtain ⟨q1, q2⟩ := j3 j (by omega)
        have := (hgp j (by omega)).2
        have := (hgp (j + 1) (by omega)).2
        refine ⟨?_, ?_⟩
        · rw [hr3 _ _ (by omega) (fun h => e (hpj _ _ (by omega) (by omega) h.2)) (fun h => absurd h.1 (by omega))]
          exact q1
        · rw [hr3 _ _ (by omega) (fun h => absurd h.1 (by omega)) (fun h => e (by have := hpj _ _ (by omega) (by omega) h.2; omega))]
          exact q2
    · rw [xkq_at hk5 22 _, hr3 0 a ha (fun h => ?_) (fun h => absurd h.1 (by omega))]
      · exact j4
      · have := hpj k (inn.length + 1) (by omega) (by omega) (by rw [hpe]; exact h.2.symm)
        omega
    · rw [xkq_at hk5 22 _, hr3 1 b hb10 (fun h => absurd h.1 (by omega)) (fun h => ?_)]
      · exact j5
      · have := hpj (k + 1) 0 (by omega) (by omega) (by rw [hp0]; exact h.2.symm)
        omega
  · intro w4 hI
    obtain ⟨j1, j2, j3, j4, j5⟩ := hI
    rw [show p.take (inn.length + 1 + 1) = p from List.take_of_length_le (by omega)] at *
    have k14 : w4.1 18 14 = nI (inn.length + 2) := by rw [xkq_at j1 18 14, xkq_at hk3 18 14, xkq_at hk2 18 14, hp1]
    refine xQ.go 4 (F1 := (bif decide ((w4.1 18 14) ≤ (nI (inn.length + 1 + 1))) then 160 else 94, [some (.ref 18), some (.int (nI a)), some (.int (nI b)), some (.int (nI (inn.length + 1 + 1))), none, none], [], w4)) rfl ?_
    refine xQ.brT (by rw [k14]; exact decide_eq_true (Int32.le_refl _)) ?_
    refine xQ.go 5 (F1 := (169, [some (.ref 18), some (.int (nI a)), some (.int (nI b)), some (.int (nI (inn.length + 1 + 1))), none, none], [.int (w4.1 18 3), .int 0, .ref 21], w4)) rfl ?_
    refine xQ.call rfl (c_put rfl (k := 0) (by omega) (by omega)) ?_
    show xQ MX1_placeCycle (172, [some (.ref 18), some (.int (nI a)), some (.int (nI b)), some (.int (nI (inn.length + 1 + 1))), none, none], [], (xuI w4 21 0 (w4.1 18 3))) _
    refine xQ.go 5 (F1 := (181, [some (.ref 18), some (.int (nI a)), some (.int (nI b)), some (.int (nI (inn.length + 1 + 1))), none, none], [.int ((xuI w4 21 0 (w4.1 18 3)).1 18 3), .int 1, .ref 21], (xuI w4 21 0 (w4.1 18 3)))) rfl ?_
    refine xQ.call rfl (c_put rfl (k := 1) (by omega) (by omega)) ?_
    show xQ MX1_placeCycle (184, [some (.ref 18), some (.int (nI a)), some (.int (nI b)), some (.int (nI (inn.length + 1 + 1))), none, none], [], (xuI (xuI w4 21 0 (w4.1 18 3)) 21 1 ((xuI w4 21 0 (w4.1 18 3)).1 18 3))) _
    refine xQ.go 4 (F1 := (190, [some (.ref 18), some (.int (nI a)), some (.int (nI b)), some (.int (nI (inn.length + 1 + 1))), none, none], [.int 1], (xuI (xuI (xuI w4 21 0 (w4.1 18 3)) 21 1 ((xuI w4 21 0 (w4.1 18 3)).1 18 3)) 18 8 2))) rfl ?_
    refine xQ.iret .boolean 1 rfl rfl (rfl) ?_
    have hVe : ∀ v, addV V1 p v = decide (v ∈ a :: b :: inn) := fun v => by
      apply Bool.eq_iff_iff.mpr
      rw [addV_iff, hV1, hpm, decide_eq_true_iff]
      constructor
      · rintro ((h | h) | h)
        · rw [h]; simp
        · rw [h]; simp
        · exact h
      · exact Or.inr
    have hset : w4.1 18 3 = mk (fun v => decide (v ∈ a :: b :: inn)) := by
      rw [j2.2.1]
      exact mk_ext fun v _ => hVe v
    have hpd : ∀ x y, (x, y) ∈ pd p → ∃ j, j < inn.length + 1 ∧ x = p.getD j 0 ∧ y = p.getD (j + 1) 0 := fun x y h => by
      obtain ⟨j, h1, h2⟩ := pd_ex h
      have hj := (List.getElem?_eq_some_iff.mp h2).1
      refine ⟨j, by omega, ?_, ?_⟩
      · rw [get_D (by omega)] at h1
        exact (Option.some.inj h1).symm
      · rw [get_D hj] at h2
        exact (Option.some.inj h2).symm
    show _ ∧ eP 18 20 _ (cycP (cyc0 H S)) (fun v => decide (v ∈ cyc0 H S)) (cyc0 H S).length ∧ eF 18 21 22 _ [cyc0 H S, (cyc0 H S).reverse] ∧ _
    rw [hc]
    refine ⟨rfl, ⟨fun v hv => ?_, ?_, ?_⟩, ⟨?_, fun i f hi => ?_⟩, ?_⟩
    · simp only [uI1]
      simp
      rw [j2.1 v hv]
      refine mk_ext fun x _ => Bool.eq_iff_iff.mpr ?_
      rw [addP_iff]
      show _ ↔ (decide ((v, x) ∈ dts (a :: b :: inn)) || decide ((x, v) ∈ dts (a :: b :: inn))) = true
      rw [Bool.or_eq_true, decide_eq_true_iff, decide_eq_true_iff, hdt, List.mem_cons, List.mem_cons, hP1e]
      show (false || ab a b v x) = true ∨ _ ↔ _
      rw [Bool.false_or, ab_iff]
      simp only [Prod.mk.injEq]
      constructor
      · rintro ((h | h) | h | h)
        · exact Or.inl (Or.inl h)
        · exact Or.inr (Or.inl ⟨h.2, h.1⟩)
        · exact Or.inl (Or.inr h)
        · exact Or.inr (Or.inr h)
      · rintro ((h | h) | h | h)
        · exact Or.inl (Or.inl h)
        · exact Or.inr (Or.inl h)
        · exact Or.inl (Or.inr ⟨h.2, h.1⟩)
        · exact Or.inr (Or.inr h)
    · simp only [uI1]
      simp
      rw [hset]
      simp
    · simp only [uI1]
      simp
      rw [j2.2.2, show 1 + (inn.length + 1) = inn.length + 1 + 1 by omega]
    · simp only [uI1]
      simp
      rfl
    · have hi2 : i < 2 := (List.getElem?_eq_some_iff.mp hi).1
      have hcase : (i = 0 ∧ f = a :: b :: inn) ∨ (i = 1 ∧ f = (a :: b :: inn).reverse) := by
        match i, hi2, hi with
        | 0, _, hi => exact Or.inl ⟨rfl, (Option.some.inj hi).symm⟩
        | 1, _, hi => exact Or.inr ⟨rfl, (Option.some.inj hi).symm⟩
      rcases hcase with ⟨rfl, rfl⟩ | ⟨rfl, rfl⟩
      · refine ⟨?_, fun x y hxy => ?_⟩
        · simp only [uI1]
          simp
          rw [hset]
          simp
        · simp only [uI1]
          simp
          rw [hdt] at hxy
          rcases List.mem_cons.mp hxy with e | e
          · cases e
            simpa using j4
          · obtain ⟨j, hj, rfl, rfl⟩ := hpd x y e
            simpa using (j3 j hj).1
      · refine ⟨?_, fun x y hxy => ?_⟩
        · simp only [uI1]
          simp
          rw [hset]
          exact mk_ext fun v _ => (by simp; cases decide (v = a) <;> cases decide (v = b) <;> cases decide (v ∈ inn) <;> rfl)
        · simp only [uI1]
          simp
          rw [dts_rev, hdt] at hxy
          rcases List.mem_cons.mp hxy with e | e
          · cases e
            simpa using j5
          · obtain ⟨j, hj, rfl, rfl⟩ := hpd y x e
            simpa using (j3 j hj).2
    · exact xkq_I (xkq_I (xkq_I (xkq_trans (xkq_trans (xkq_trans (xkq_mono rfl hk1) (xkq_mono rfl hk2)) (xkq_mono rfl hk3)) (xkq_mono rfl j1)) rfl) rfl) rfl

theorem c_cycle_t {w : xW} {H : Nat → Nat → Bool} {S : Nat → Bool} (hb : BIC H S) (hS : ∀ v, S v = true → v < 10) (he : 2 ≤ ec H) (hG : eG 32 33 w H S) (hP : eP 32 34 w (fun _ _ => false) (fun _ => false) 0) : xD MX1_placeCycle [.ref 32] w (fun r w1 => r = some (.int 1) ∧ eP 32 34 w1 (cyc1 H S).1 (cyc1 H S).2.1 (cyc1 H S).2.2.2 ∧ eF 32 35 36 w1 (cyc1 H S).2.2.1 ∧ xkq [(32, some 3), (32, some 5), (32, some 8), (32, some 14), (34, none), (35, none), (36, none), (37, none), (38, none)] w w1) := by
  obtain ⟨a, b, inn, ea, eb, hc, ha, hb10, h0, h8, hds, hi1, hi8, hcn, hcm, hcd, _⟩ := cyc0_ok hb hS he
  rw [hc] at hcn hcm hcd
  obtain ⟨p, hpp⟩ : ∃ p, p = b :: inn ++ [a] := ⟨_, rfl⟩
  have hpl : p.length = inn.length + 2 := by rw [hpp]; simp
  have hpn : p.Nodup := by
    rw [hpp]
    have := List.nodup_cons.mp hcn
    exact List.nodup_append.mpr ⟨this.2, by simp, fun x hx y hy e => by
      rw [List.mem_singleton] at hy
      rw [e, hy] at hx
      exact this.1 hx⟩
  have hpm : ∀ v, v ∈ p ↔ v ∈ a :: b :: inn := fun v => by
    rw [hpp]
    simp only [List.mem_append, List.mem_cons, List.not_mem_nil, or_false]
    constructor
    · rintro ((h | h) | h) <;> simp [h]
    · rintro (h | h | h) <;> simp [h]
  have hp10 : ∀ v ∈ p, v < 10 := fun v hv => (hcm v ((hpm v).mp hv)).1
  have hgp : ∀ k, k < p.length → p.getD k 0 ∈ p ∧ p.getD k 0 < 10 := fun k hk => by
    have := List.mem_of_getElem? (get_D hk)
    exact ⟨this, hp10 _ this⟩
  have hp0 : p.getD 0 0 = b := by rw [hpp]; rfl
  have hpe : p.getD (inn.length + 1) 0 = a := by rw [hpp, List.getD_eq_getElem?_getD]; simp
  have hpj : ∀ i j, i < p.length → j < p.length → p.getD i 0 = p.getD j 0 → i = j := fun i j hi hj e => nodup_ix hpn (get_D hi) (by rw [get_D hj, e])
  have hdt : dts (a :: b :: inn) = (a, b) :: pd p := by rw [hpp]; rfl
  refine xD.of ?_
  show xQ MX1_placeCycle (0, [some (.ref 32), none, none, none, none, none], [], w) _
  refine xQ.go 2 (F1 := (4, [some (.ref 32), none, none, none, none, none], [.int (w.1 32 2)], w)) rfl ?_
  rw [hG.2.1]
  refine xQ.call rfl (c_least (by rw [← ea]; exact ha)) ?_
  show xQ MX1_placeCycle (7, [some (.ref 32), none, none, none, none, none], [.int (nI (low S))], w) _
  rw [← ea]
  refine xQ.go 4 (F1 := (13, [some (.ref 32), some (.int (nI a)), none, none, none, none], [.int (nI a), .ref 33], w)) rfl ?_
  refine xQ.call rfl (c_at rfl ha (by omega)) ?_
  show xQ MX1_placeCycle (16, [some (.ref 32), some (.int (nI a)), none, none, none, none], [.int (w.1 33 a)], w) _
  rw [hG.1 a ha]
  refine xQ.call rfl (c_least (by rw [← eb]; exact hb10)) ?_
  show xQ MX1_placeCycle (19, [some (.ref 32), some (.int (nI a)), none, none, none, none], [.int (nI (low (H a)))], w) _
  rw [← eb]
  refine xQ.go 4 (F1 := (23, [some (.ref 32), some (.int (nI a)), some (.int (nI b)), none, none, none], [.int (nI a), .int (nI b), .ref 32], w)) rfl ?_
  refine xQ.call rfl (c_bit ha) ?_
  show xQ MX1_placeCycle (26, [some (.ref 32), some (.int (nI a)), some (.int (nI b)), none, none, none], [.int (mk (fun v => decide (v = a))), .int (nI b), .ref 32], w) _
  refine xQ.go 3 (F1 := (31, [some (.ref 32), some (.int (nI a)), some (.int (nI b)), none, none, none], [.int (nI a), .int (w.1 32 2), .int (mk (fun v => decide (v = a))), .int (nI b), .ref 32], w)) rfl ?_
  refine xQ.call rfl (c_bit ha) ?_
  show xQ MX1_placeCycle (34, [some (.ref 32), some (.int (nI a)), some (.int (nI b)), none, none, none], [.int (mk (fun v => decide (v = a))), .int (w.1 32 2), .int (mk (fun v => decide (v = a))), .int (nI b), .ref 32], w) _
  refine xQ.go 3 (F1 := (37, [some (.ref 32), some (.int (nI a)), some (.int (nI b)), none, none, none], [.int ((w.1 32 2) &&& ((mk (fun v => decide (v = a))) ^^^ (-1))), .int (mk (fun v => decide (v = a))), .int (nI b), .ref 32], w)) rfl ?_
  rw [hG.2.1, mk_andn]
  refine xQ.go 1 (F1 := (38, [some (.ref 32), some (.int (nI a)), some (.int (nI b)), none, none, none], [.int (nI b), .int (mk (fun v => S v && !decide (v = a))), .int (mk (fun v => decide (v = a))), .int (nI b), .ref 32], w)) rfl ?_
  refine xQ.call rfl (c_bit hb10) ?_
  show xQ MX1_placeCycle (41, [some (.ref 32), some (.int (nI a)), some (.int (nI b)), none, none, none], [.int (mk (fun v => decide (v = b))), .int (mk (fun v => S v && !decide (v = a))), .int (mk (fun v => decide (v = a))), .int (nI b), .ref 32], w) _
  refine xQ.go 3 (F1 := (44, [some (.ref 32), some (.int (nI a)), some (.int (nI b)), none, none, none], [.int ((mk (fun v => S v && !decide (v = a))) &&& ((mk (fun v => decide (v = b))) ^^^ (-1))), .int (mk (fun v => decide (v = a))), .int (nI b), .ref 32], w)) rfl ?_
  rw [mk_andn, show (fun v => (S v && !decide (v = a)) && !decide (v = b)) = SA S a b from rfl]
  obtain ⟨r1, w1, hc1, hr1, hl1, hk1⟩ := c_findPath_t (w := w) (H := H) (A := SA S a b) (T := fun v => decide (v = a)) (u := b) hb.1 hG.1 hb10 h0 h8
  subst hr1
  refine xQ.call rfl (hc1) ?_
  show xQ MX1_placeCycle (47, [some (.ref 32), some (.int (nI a)), some (.int (nI b)), none, none, none], [.int 1], w1) _
  rw [hds, ← List.cons_append, ← hpp] at hl1
  have hpr : ∀ k, k < p.length → w1.1 37 k = nI (p.getD k 0) := fun k hk => hl1.2 k _ (get_D hk)
  have hp1 : w1.1 32 14 = nI (inn.length + 2) := by rw [hl1.1, hpl]
  refine xQ.go 1 (F1 := (bif !decide (1 = 0) then 52 else 50, [some (.ref 32), some (.int (nI a)), some (.int (nI b)), none, none, none], [], w1)) rfl ?_
  refine xQ.brT (rfl) ?_
  refine xQ.go 3 (F1 := (57, [some (.ref 32), some (.int (nI a)), some (.int (nI b)), none, none, none], [.int 0, .ref 36], w1)) rfl ?_
  show xQ MX1_placeCycle (57, [some (.ref 32), some (.int (nI a)), some (.int (nI b)), none, none, none], [.int (nI 0), .ref 36], w1) _
  refine xQ.go 1 (F1 := (58, [some (.ref 32), some (.int (nI a)), some (.int (nI b)), none, none, none], [.int (nI a), .int (nI 0), .ref 36], w1)) rfl ?_
  refine xQ.call rfl (c_cell) ?_
  show xQ MX1_placeCycle (61, [some (.ref 32), some (.int (nI a)), some (.int (nI b)), none, none, none], [.int (nI (10 * 0 + a)), .ref 36], w1) _
  refine xQ.go 1 (F1 := (62, [some (.ref 32), some (.int (nI a)), some (.int (nI b)), none, none, none], [.int (nI b), .int (nI (10 * 0 + a)), .ref 36], w1)) rfl ?_
  refine xQ.call rfl (c_put rfl (by omega) (by omega)) ?_
  show xQ MX1_placeCycle (65, [some (.ref 32), some (.int (nI a)), some (.int (nI b)), none, none, none], [], (xuI w1 36 (10 * 0 + a) (nI b))) _
  refine xQ.go 3 (F1 := (70, [some (.ref 32), some (.int (nI a)), some (.int (nI b)), none, none, none], [.int 1, .ref 36], (xuI w1 36 (10 * 0 + a) (nI b)))) rfl ?_
  show xQ MX1_placeCycle (70, [some (.ref 32), some (.int (nI a)), some (.int (nI b)), none, none, none], [.int (nI 1), .ref 36], (xuI w1 36 (10 * 0 + a) (nI b))) _
  refine xQ.go 1 (F1 := (71, [some (.ref 32), some (.int (nI a)), some (.int (nI b)), none, none, none], [.int (nI b), .int (nI 1), .ref 36], (xuI w1 36 (10 * 0 + a) (nI b)))) rfl ?_
  refine xQ.call rfl (c_cell) ?_
  show xQ MX1_placeCycle (74, [some (.ref 32), some (.int (nI a)), some (.int (nI b)), none, none, none], [.int (nI (10 * 1 + b)), .ref 36], (xuI w1 36 (10 * 0 + a) (nI b))) _
  refine xQ.go 1 (F1 := (75, [some (.ref 32), some (.int (nI a)), some (.int (nI b)), none, none, none], [.int (nI a), .int (nI (10 * 1 + b)), .ref 36], (xuI w1 36 (10 * 0 + a) (nI b)))) rfl ?_
  refine xQ.call rfl (c_put rfl (by omega) (by omega)) ?_
  show xQ MX1_placeCycle (78, [some (.ref 32), some (.int (nI a)), some (.int (nI b)), none, none, none], [], (xuI (xuI w1 36 (10 * 0 + a) (nI b)) 36 (10 * 1 + b) (nI a))) _
  obtain ⟨w2, hw2⟩ : ∃ w2, w2 = (xuI (xuI w1 36 (10 * 0 + a) (nI b)) 36 (10 * 1 + b) (nI a)) := ⟨_, rfl⟩
  have hk2 : xkq [(36, none)] w1 w2 := by rw [hw2]; exact xkq_I (xkq_I xkq_rfl rfl) rfl
  have hab : a ≠ b := fun e => (List.nodup_cons.mp hcn).1 (by rw [e]; simp)
  have ha1 : w2.1 36 (10 * 0 + a) = nI b := by rw [hw2, uI1, if_neg (by omega), uI1, if_pos ⟨rfl, rfl⟩]
  have hb1 : w2.1 36 (10 * 1 + b) = nI a := by rw [hw2, uI1, if_pos ⟨rfl, rfl⟩]
  rw [← hw2]
  have hP2 : eP 32 34 w2 (fun _ _ => false) (fun _ => false) 0 := ⟨fun v hv => by rw [xkq_at hk2 34 v, xkq_at hk1 34 v]; exact hP.1 v hv, by rw [xkq_at hk2 32 3, xkq_at hk1 32 3]; exact hP.2.1, by rw [xkq_at hk2 32 5, xkq_at hk1 32 5]; exact hP.2.2⟩
  obtain ⟨r3, w3, hc3, hr3, hP3, hk3⟩ := c_placeEdge_t hP2 ha hb10
  subst hr3
  refine xQ.go 3 (F1 := (81, [some (.ref 32), some (.int (nI a)), some (.int (nI b)), none, none, none], [.int (nI b), .int (nI a), .ref 32], w2)) rfl ?_
  refine xQ.call rfl (hc3) ?_
  show xQ MX1_placeCycle (84, [some (.ref 32), some (.int (nI a)), some (.int (nI b)), none, none, none], [], w3) _
  refine xQ.go 2 (F1 := (86, [some (.ref 32), some (.int (nI a)), some (.int (nI b)), some (.int 1), none, none], [], w3)) rfl ?_
  obtain ⟨P1, hP1e⟩ : ∃ P1, P1 = adP (fun _ _ => false) a b := ⟨_, rfl⟩
  obtain ⟨V1, hV1e⟩ : ∃ V1, V1 = adV (fun _ => false) a b := ⟨_, rfl⟩
  rw [← hP1e, ← hV1e] at hP3
  have hV1 : ∀ v, V1 v = true ↔ v = a ∨ v = b := fun v => by rw [hV1e]; simp [adV]
  refine xQ.loop (S := xW) (fun k s => (86, [some (.ref 32), some (.int (nI a)), some (.int (nI b)), some (.int (nI (k + 1))), none, none], [], s)) (fun k s => xkq [(32, some 3), (32, some 5), (34, none), (36, none)] w3 s ∧ eP 32 34 s (addP P1 (p.take (k + 1))) (addV V1 (p.take (k + 1))) (1 + k) ∧ (∀ j, j < k → s.1 36 (10 * 0 + p.getD j 0) = nI (p.getD (j + 1) 0) ∧ s.1 36 (10 * 1 + p.getD (j + 1) 0) = nI (p.getD j 0)) ∧ s.1 36 (10 * 0 + a) = nI b ∧ s.1 36 (10 * 1 + b) = nI a) (inn.length + 1) w3 (rfl) (⟨xkq_rfl, ⟨fun v hv => by rw [hP3.1 v hv, hpp]; exact mk_ext fun x _ => by simp [addP, pd], by rw [hP3.2.1, hpp]; exact mk_ext fun x _ => (by simp [addV]; intro e; exact (hV1 x).mpr (Or.inr e)), hP3.2.2⟩, fun j hj => absurd hj (by omega), by rw [xkq_at hk3 36 _]; exact ha1, by rw [xkq_at hk3 36 _]; exact hb1⟩) ?_ ?_
  · intro k s hk hI K
    obtain ⟨j1, j2, j3, j4, j5⟩ := hI
    obtain ⟨g1, g2⟩ := hgp k (by omega)
    obtain ⟨g3, g4⟩ := hgp (k + 1) (by omega)
    have hfl : s.1 32 14 = nI (inn.length + 2) := by rw [xkq_at j1 32 14, xkq_at hk3 32 14, xkq_at hk2 32 14, hp1]
    have hfp : ∀ j, s.1 37 j = w1.1 37 j := fun j => by rw [xkq_at j1 37 j, xkq_at hk3 37 j, xkq_at hk2 37 j]
    refine xQ.go 4 (F1 := (bif decide ((s.1 32 14) ≤ (nI (k + 1))) then 160 else 94, [some (.ref 32), some (.int (nI a)), some (.int (nI b)), some (.int (nI (k + 1))), none, none], [], s)) rfl ?_
    refine xQ.brF (by rw [hfl]; exact decide_eq_false (nI_ge (by omega) (by omega))) ?_
    refine xQ.go 5 (F1 := (101, [some (.ref 32), some (.int (nI a)), some (.int (nI b)), some (.int (nI (k + 1))), none, none], [.int ((nI (k + 1)) - 1), .ref 37], s)) rfl ?_
    rw [show nI (k + 1) - 1 = nI k from jI_sub (b := 1) (by omega)]
    refine xQ.call rfl (c_at rfl (by omega) (by omega)) ?_
    show xQ MX1_placeCycle (104, [some (.ref 32), some (.int (nI a)), some (.int (nI b)), some (.int (nI (k + 1))), none, none], [.int (s.1 37 k)], s) _
    rw [hfp, hpr k (by omega)]
    refine xQ.go 4 (F1 := (111, [some (.ref 32), some (.int (nI a)), some (.int (nI b)), some (.int (nI (k + 1))), some (.int (nI (p.getD k 0))), none], [.int (nI (k + 1)), .ref 37], s)) rfl ?_
    refine xQ.call rfl (c_at rfl (by omega) (by omega)) ?_
    show xQ MX1_placeCycle (114, [some (.ref 32), some (.int (nI a)), some (.int (nI b)), some (.int (nI (k + 1))), some (.int (nI (p.getD k 0))), none], [.int (s.1 37 (k + 1))], s) _
    rw [hfp, hpr (k + 1) (by omega)]
    refine xQ.go 4 (F1 := (121, [some (.ref 32), some (.int (nI a)), some (.int (nI b)), some (.int (nI (k + 1))), some (.int (nI (p.getD k 0))), some (.int (nI (p.getD (k + 1) 0)))], [.int 0, .ref 36], s)) rfl ?_
    show xQ MX1_placeCycle (121, [some (.ref 32), some (.int (nI a)), some (.int (nI b)), some (.int (nI (k + 1))), some (.int (nI (p.getD k 0))), some (.int (nI (p.getD (k + 1) 0)))], [.int (nI 0), .ref 36], s) _
    refine xQ.go 1 (F1 := (123, [some (.ref 32), some (.int (nI a)), some (.int (nI b)), some (.int (nI (k + 1))), some (.int (nI (p.getD k 0))), some (.int (nI (p.getD (k + 1) 0)))], [.int (nI (p.getD k 0)), .int (nI 0), .ref 36], s)) rfl ?_
    refine xQ.call rfl (c_cell) ?_
    show xQ MX1_placeCycle (126, [some (.ref 32), some (.int (nI a)), some (.int (nI b)), some (.int (nI (k + 1))), some (.int (nI (p.getD k 0))), some (.int (nI (p.getD (k + 1) 0)))], [.int (nI (10 * 0 + p.getD k 0)), .ref 36], s) _
    refine xQ.go 1 (F1 := (128, [some (.ref 32), some (.int (nI a)), some (.int (nI b)), some (.int (nI (k + 1))), some (.int (nI (p.getD k 0))), some (.int (nI (p.getD (k + 1) 0)))], [.int (nI (p.getD (k + 1) 0)), .int (nI (10 * 0 + p.getD k 0)), .ref 36], s)) rfl ?_
    refine xQ.call rfl (c_put rfl (by omega) (by omega)) ?_
    show xQ MX1_placeCycle (131, [some (.ref 32), some (.int (nI a)), some (.int (nI b)), some (.int (nI (k + 1))), some (.int (nI (p.getD k 0))), some (.int (nI (p.getD (k + 1) 0)))], [], (xuI s 36 (10 * 0 + p.getD k 0) (nI (p.getD (k + 1) 0)))) _
    refine xQ.go 3 (F1 := (136, [some (.ref 32), some (.int (nI a)), some (.int (nI b)), some (.int (nI (k + 1))), some (.int (nI (p.getD k 0))), some (.int (nI (p.getD (k + 1) 0)))], [.int 1, .ref 36], (xuI s 36 (10 * 0 + p.getD k 0) (nI (p.getD (k + 1) 0))))) rfl ?_
    show xQ MX1_placeCycle (136, [some (.ref 32), some (.int (nI a)), some (.int (nI b)), some (.int (nI (k + 1))), some (.int (nI (p.getD k 0))), some (.int (nI (p.getD (k + 1) 0)))], [.int (nI 1), .ref 36], (xuI s 36 (10 * 0 + p.getD k 0) (nI (p.getD (k + 1) 0)))) _
    refine xQ.go 1 (F1 := (138, [some (.ref 32), some (.int (nI a)), some (.int (nI b)), some (.int (nI (k + 1))), some (.int (nI (p.getD k 0))), some (.int (nI (p.getD (k + 1) 0)))], [.int (nI (p.getD (k + 1) 0)), .int (nI 1), .ref 36], (xuI s 36 (10 * 0 + p.getD k 0) (nI (p.getD (k + 1) 0))))) rfl ?_
    refine xQ.call rfl (c_cell) ?_
    show xQ MX1_placeCycle (141, [some (.ref 32), some (.int (nI a)), some (.int (nI b)), some (.int (nI (k + 1))), some (.int (nI (p.getD k 0))), some (.int (nI (p.getD (k + 1) 0)))], [.int (nI (10 * 1 + p.getD (k + 1) 0)), .ref 36], (xuI s 36 (10 * 0 + p.getD k 0) (nI (p.getD (k + 1) 0)))) _
    refine xQ.go 1 (F1 := (143, [some (.ref 32), some (.int (nI a)), some (.int (nI b)), some (.int (nI (k + 1))), some (.int (nI (p.getD k 0))), some (.int (nI (p.getD (k + 1) 0)))], [.int (nI (p.getD k 0)), .int (nI (10 * 1 + p.getD (k + 1) 0)), .ref 36], (xuI s 36 (10 * 0 + p.getD k 0) (nI (p.getD (k + 1) 0))))) rfl ?_
    refine xQ.call rfl (c_put rfl (by omega) (by omega)) ?_
    show xQ MX1_placeCycle (146, [some (.ref 32), some (.int (nI a)), some (.int (nI b)), some (.int (nI (k + 1))), some (.int (nI (p.getD k 0))), some (.int (nI (p.getD (k + 1) 0)))], [], (xuI (xuI s 36 (10 * 0 + p.getD k 0) (nI (p.getD (k + 1) 0))) 36 (10 * 1 + p.getD (k + 1) 0) (nI (p.getD k 0)))) _
    obtain ⟨s2, hs2⟩ : ∃ s2, s2 = (xuI (xuI s 36 (10 * 0 + p.getD k 0) (nI (p.getD (k + 1) 0))) 36 (10 * 1 + p.getD (k + 1) 0) (nI (p.getD k 0))) := ⟨_, rfl⟩
    have hq2 : xkq [(36, none)] s s2 := by rw [hs2]; exact xkq_I (xkq_I xkq_rfl rfl) rfl
    have hr1 : s2.1 36 (10 * 0 + p.getD k 0) = nI (p.getD (k + 1) 0) := by
      rw [hs2, uI1, if_neg (by omega), uI1, if_pos ⟨rfl, rfl⟩]
    have hr2 : s2.1 36 (10 * 1 + p.getD (k + 1) 0) = nI (p.getD k 0) := by
      rw [hs2, uI1, if_pos ⟨rfl, rfl⟩]
    have hr3 : ∀ i x, x < 10 → ¬ (i = 0 ∧ x = p.getD k 0) → ¬ (i = 1 ∧ x = p.getD (k + 1) 0) → s2.1 36 (10 * i + x) = s.1 36 (10 * i + x) := fun i x hx n1 n2 => by
      rw [hs2, uI1, if_neg (by omega), uI1, if_neg (by omega)]
    rw [← hs2]
    have hP4 : eP 32 34 s2 (addP P1 (p.take (k + 1))) (addV V1 (p.take (k + 1))) (1 + k) := ⟨fun v hv => by rw [xkq_at hq2 34 v]; exact j2.1 v hv, by rw [xkq_at hq2 32 3]; exact j2.2.1, by rw [xkq_at hq2 32 5]; exact j2.2.2⟩
    obtain ⟨r5, s3, hc5, hr5, hP5, hk5⟩ := c_placeEdge_t hP4 g2 g4
    subst hr5
    refine xQ.go 3 (F1 := (151, [some (.ref 32), some (.int (nI a)), some (.int (nI b)), some (.int (nI (k + 1))), some (.int (nI (p.getD k 0))), some (.int (nI (p.getD (k + 1) 0)))], [.int (nI (p.getD (k + 1) 0)), .int (nI (p.getD k 0)), .ref 32], s2)) rfl ?_
    refine xQ.call rfl (hc5) ?_
    show xQ MX1_placeCycle (154, [some (.ref 32), some (.int (nI a)), some (.int (nI b)), some (.int (nI (k + 1))), some (.int (nI (p.getD k 0))), some (.int (nI (p.getD (k + 1) 0)))], [], s3) _
    refine xQ.less [some (.ref 32), some (.int (nI a)), some (.int (nI b)), some (.int (nI (k + 1))), none, none] (by simp [xleb]) ?_
    refine xQ.go 2 (F1 := (86, [some (.ref 32), some (.int (nI a)), some (.int (nI b)), some (.int ((nI (k + 1)) + 1)), none, none], [], s3)) rfl ?_
    rw [← nI_succ]
    refine K s3 ⟨xkq_trans (xkq_trans j1 (xkq_mono rfl hq2)) (xkq_mono rfl hk5), ⟨fun v hv => ?_, ?_, hP5.2.2⟩, fun j hj => ?_, ?_, ?_⟩
    · rw [hP5.1 v hv]
      refine mk_ext fun x _ => Bool.eq_iff_iff.mpr ?_
      rw [addP_iff]
      show (addP P1 (p.take (k + 1)) v x || ab _ _ v x) = true ↔ _
      rw [Bool.or_eq_true, addP_iff, ab_iff, pd_take (by omega), pd_take (by omega)]
      simp only [Prod.mk.injEq]
      constructor
      · rintro ((h | h | h) | h | h)
        · exact Or.inl h
        · exact Or.inr (Or.inl (Or.inl h))
        · exact Or.inr (Or.inr (Or.inl h))
        · exact Or.inr (Or.inl (Or.inr h))
        · exact Or.inr (Or.inr (Or.inr ⟨h.2, h.1⟩))
      · rintro (h | (h | h) | h | h)
        · exact Or.inl (Or.inl h)
        · exact Or.inl (Or.inr (Or.inl h))
        · exact Or.inr (Or.inl h)
        · exact Or.inl (Or.inr (Or.inr h))
        · exact Or.inr (Or.inr ⟨h.2, h.1⟩)
    · rw [hP5.2.1]
      refine mk_ext fun x _ => Bool.eq_iff_iff.mpr ?_
      rw [addV_iff, mem_take1 (by omega)]
      show (addV V1 (p.take (k + 1)) x || (decide (x = _) || decide (x = _))) = true ↔ _
      simp only [Bool.or_eq_true, decide_eq_true_iff, addV_iff]
      have hm : p.getD k 0 ∈ p.take (k + 1) := (mem_take1 (by omega)).mpr (Or.inr rfl)
      constructor
      · rintro ((h | h) | h | h)
        · exact Or.inl h
        · exact Or.inr (Or.inl h)
        · rw [h]; exact Or.inr (Or.inl hm)
        · exact Or.inr (Or.inr h)
      · rintro (h | h | h)
        · exact Or.inl (Or.inl h)
        · exact Or.inl (Or.inr h)
        · exact Or.inr (Or.inr h)
    · rw [xkq_at hk5 36 _, xkq_at hk5 36 _]
      by_cases e : j = k
      · rw [e]
        exact ⟨hr1, hr2⟩
      · obtain ⟨q1, q2⟩ := j3 j (by omega)
        have := (hgp j (by omega)).2
        have := (hgp (j + 1) (by omega)).2
        refine ⟨?_, ?_⟩
        · rw [hr3 _ _ (by omega) (fun h => e (hpj _ _ (by omega) (by omega) h.2)) (fun h => absurd h.1 (by omega))]
          exact q1
        · rw [hr3 _ _ (by omega) (fun h => absurd h.1 (by omega)) (fun h => e (by have := hpj _ _ (by omega) (by omega) h.2; omega))]
          exact q2
    · rw [xkq_at hk5 36 _, hr3 0 a ha (fun h => ?_) (fun h => absurd h.1 (by omega))]
      · exact j4
      · have := hpj k (inn.length + 1) (by omega) (by omega) (by rw [hpe]; exact h.2.symm)
        omega
    · rw [xkq_at hk5 36 _, hr3 1 b hb10 (fun h => absurd h.1 (by omega)) (fun h => ?_)]
      · exact j5
      · have := hpj (k + 1) 0 (by omega) (by omega) (by rw [hp0]; exact h.2.symm)
        omega
  · intro w4 hI
    obtain ⟨j1, j2, j3, j4, j5⟩ := hI
    rw [show p.take (inn.length + 1 + 1) = p from List.take_of_length_le (by omega)] at *
    have k14 : w4.1 32 14 = nI (inn.length + 2) := by rw [xkq_at j1 32 14, xkq_at hk3 32 14, xkq_at hk2 32 14, hp1]
    refine xQ.go 4 (F1 := (bif decide ((w4.1 32 14) ≤ (nI (inn.length + 1 + 1))) then 160 else 94, [some (.ref 32), some (.int (nI a)), some (.int (nI b)), some (.int (nI (inn.length + 1 + 1))), none, none], [], w4)) rfl ?_
    refine xQ.brT (by rw [k14]; exact decide_eq_true (Int32.le_refl _)) ?_
    refine xQ.go 5 (F1 := (169, [some (.ref 32), some (.int (nI a)), some (.int (nI b)), some (.int (nI (inn.length + 1 + 1))), none, none], [.int (w4.1 32 3), .int 0, .ref 35], w4)) rfl ?_
    refine xQ.call rfl (c_put rfl (k := 0) (by omega) (by omega)) ?_
    show xQ MX1_placeCycle (172, [some (.ref 32), some (.int (nI a)), some (.int (nI b)), some (.int (nI (inn.length + 1 + 1))), none, none], [], (xuI w4 35 0 (w4.1 32 3))) _
    refine xQ.go 5 (F1 := (181, [some (.ref 32), some (.int (nI a)), some (.int (nI b)), some (.int (nI (inn.length + 1 + 1))), none, none], [.int ((xuI w4 35 0 (w4.1 32 3)).1 32 3), .int 1, .ref 35], (xuI w4 35 0 (w4.1 32 3)))) rfl ?_
    refine xQ.call rfl (c_put rfl (k := 1) (by omega) (by omega)) ?_
    show xQ MX1_placeCycle (184, [some (.ref 32), some (.int (nI a)), some (.int (nI b)), some (.int (nI (inn.length + 1 + 1))), none, none], [], (xuI (xuI w4 35 0 (w4.1 32 3)) 35 1 ((xuI w4 35 0 (w4.1 32 3)).1 32 3))) _
    refine xQ.go 4 (F1 := (190, [some (.ref 32), some (.int (nI a)), some (.int (nI b)), some (.int (nI (inn.length + 1 + 1))), none, none], [.int 1], (xuI (xuI (xuI w4 35 0 (w4.1 32 3)) 35 1 ((xuI w4 35 0 (w4.1 32 3)).1 32 3)) 32 8 2))) rfl ?_
    refine xQ.iret .boolean 1 rfl rfl (rfl) ?_
    have hVe : ∀ v, addV V1 p v = decide (v ∈ a :: b :: inn) := fun v => by
      apply Bool.eq_iff_iff.mpr
      rw [addV_iff, hV1, hpm, decide_eq_true_iff]
      constructor
      · rintro ((h | h) | h)
        · rw [h]; simp
        · rw [h]; simp
        · exact h
      · exact Or.inr
    have hset : w4.1 32 3 = mk (fun v => decide (v ∈ a :: b :: inn)) := by
      rw [j2.2.1]
      exact mk_ext fun v _ => hVe v
    have hpd : ∀ x y, (x, y) ∈ pd p → ∃ j, j < inn.length + 1 ∧ x = p.getD j 0 ∧ y = p.getD (j + 1) 0 := fun x y h => by
      obtain ⟨j, h1, h2⟩ := pd_ex h
      have hj := (List.getElem?_eq_some_iff.mp h2).1
      refine ⟨j, by omega, ?_, ?_⟩
      · rw [get_D (by omega)] at h1
        exact (Option.some.inj h1).symm
      · rw [get_D hj] at h2
        exact (Option.some.inj h2).symm
    show _ ∧ eP 32 34 _ (cycP (cyc0 H S)) (fun v => decide (v ∈ cyc0 H S)) (cyc0 H S).length ∧ eF 32 35 36 _ [cyc0 H S, (cyc0 H S).reverse] ∧ _
    rw [hc]
    refine ⟨rfl, ⟨fun v hv => ?_, ?_, ?_⟩, ⟨?_, fun i f hi => ?_⟩, ?_⟩
    · simp only [uI1]
      simp
      rw [j2.1 v hv]
      refine mk_ext fun x _ => Bool.eq_iff_iff.mpr ?_
      rw [addP_iff]
      show _ ↔ (decide ((v, x) ∈ dts (a :: b :: inn)) || decide ((x, v) ∈ dts (a :: b :: inn))) = true
      rw [Bool.or_eq_true, decide_eq_true_iff, decide_eq_true_iff, hdt, List.mem_cons, List.mem_cons, hP1e]
      show (false || ab a b v x) = true ∨ _ ↔ _
      rw [Bool.false_or, ab_iff]
      simp only [Prod.mk.injEq]
      constructor
      · rintro ((h | h) | h | h)
        · exact Or.inl (Or.inl h)
        · exact Or.inr (Or.inl ⟨h.2, h.1⟩)
        · exact Or.inl (Or.inr h)
        · exact Or.inr (Or.inr h)
      · rintro ((h | h) | h | h)
        · exact Or.inl (Or.inl h)
        · exact Or.inr (Or.inl h)
        · exact Or.inl (Or.inr ⟨h.2, h.1⟩)
        · exact Or.inr (Or.inr h)
    · simp only [uI1]
      simp
      rw [hset]
      simp
    · simp only [uI1]
      simp
      rw [j2.2.2, show 1 + (inn.length + 1) = inn.length + 1 + 1 by omega]
    · simp only [uI1]
      simp
      rfl
    · have hi2 : i < 2 := (List.getElem?_eq_some_iff.mp hi).1
      have hcase : (i = 0 ∧ f = a :: b :: inn) ∨ (i = 1 ∧ f = (a :: b :: inn).reverse) := by
        match i, hi2, hi with
        | 0, _, hi => exact Or.inl ⟨rfl, (Option.some.inj hi).symm⟩
        | 1, _, hi => exact Or.inr ⟨rfl, (Option.some.inj hi).symm⟩
      rcases hcase with ⟨rfl, rfl⟩ | ⟨rfl, rfl⟩
      · refine ⟨?_, fun x y hxy => ?_⟩
        · simp only [uI1]
          simp
          rw [hset]
          simp
        · simp only [uI1]
          simp
          rw [hdt] at hxy
          rcases List.mem_cons.mp hxy with e | e
          · cases e
            simpa using j4
          · obtain ⟨j, hj, rfl, rfl⟩ := hpd x y e
            simpa using (j3 j hj).1
      · refine ⟨?_, fun x y hxy => ?_⟩
        · simp only [uI1]
          simp
          rw [hset]
          exact mk_ext fun v _ => (by simp; cases decide (v = a) <;> cases decide (v = b) <;> cases decide (v ∈ inn) <;> rfl)
        · simp only [uI1]
          simp
          rw [dts_rev, hdt] at hxy
          rcases List.mem_cons.mp hxy with e | e
          · cases e
            simpa using j5
          · obtain ⟨j, hj, rfl, rfl⟩ := hpd y x e
            simpa using (j3 j hj).2
    · exact xkq_I (xkq_I (xkq_I (xkq_trans (xkq_trans (xkq_trans (xkq_mono rfl hk1) (xkq_mono rfl hk2)) (xkq_mono rfl hk3)) (xkq_mono rfl j1)) rfl) rfl) rfl
