theorem pd_ex : ∀ {l : List Nat} {x y : Nat}, (x, y) ∈ pd l → ∃ i, l[i]? = some x ∧ l[i + 1]? = some y
  | [], _, _, h => by cases h
  | [_], _, _, h => by cases h
  | a :: b :: t, x, y, h => by
    rw [pd_cons2] at h
    rcases List.mem_cons.mp h with e | e
    · cases e
      exact ⟨0, rfl, rfl⟩
    · obtain ⟨i, h1, h2⟩ := pd_ex e
      exact ⟨i + 1, h1, h2⟩
theorem get_D {l : List Nat} {k : Nat} (h : k < l.length) : l[k]? = some (l.getD k 0) := by
  rw [List.getD_eq_getElem?_getD, List.getElem?_eq_getElem h]
  rfl
theorem mem_take1 {l : List Nat} {k v : Nat} (h : k < l.length) : v ∈ l.take (k + 1) ↔ v ∈ l.take k ∨ v = l.getD k 0 := by
  rw [List.take_succ, get_D h]
  simp
theorem pd_take {l : List Nat} {k : Nat} (h : k + 1 < l.length) (p : xPr) : p ∈ pd (l.take (k + 2)) ↔ p ∈ pd (l.take (k + 1)) ∨ p = (l.getD k 0, l.getD (k + 1) 0) := by
  have e1 : l.take (k + 1) = l.take k ++ [l.getD k 0] := by rw [List.take_succ, get_D (by omega)]; rfl
  have e2 : l.take (k + 2) = l.take k ++ l.getD k 0 :: [l.getD (k + 1) 0] := by
    rw [show k + 2 = k + 1 + 1 from rfl, List.take_succ, get_D h, e1]
    simp
  rw [e2, e1, pd_app, List.mem_append]
  rw [show pd [l.getD k 0, l.getD (k + 1) 0] = [(l.getD k 0, l.getD (k + 1) 0)] from rfl, List.mem_singleton]
theorem take_ix {l : List Nat} {k : Nat} {v : Nat} (h : v ∈ l.take k) : ∃ j, j < k ∧ l[j]? = some v := by
  obtain ⟨j, hj, e⟩ := List.mem_iff_getElem.mp h
  rw [List.length_take] at hj
  refine ⟨j, by omega, ?_⟩
  rw [List.getElem_take] at e
  rw [List.getElem?_eq_getElem (by omega), e]
theorem nodup_ix {l : List Nat} (hn : l.Nodup) {i j v : Nat} (h1 : l[i]? = some v) (h2 : l[j]? = some v) : i = j := by
  obtain ⟨a1, b1⟩ := List.getElem?_eq_some_iff.mp h1
  obtain ⟨a2, b2⟩ := List.getElem?_eq_some_iff.mp h2
  have hp := List.pairwise_iff_getElem.mp hn
  rcases Nat.lt_trichotomy i j with h | h | h
  · exact absurd (b1.trans b2.symm) (hp i j a1 a2 h)
  · exact h
  · exact absurd (b2.trans b1.symm) (hp j i a2 a1 h)
theorem c_split_p {w : xW} {P : Nat → Nat → Bool} {PV : Nat → Bool} {E : Nat} {L : List (List Nat)} {cf u z : Nat} {F xs ys inn : List Nat} (hP : eP 18 20 w P PV E) (hF : eF 18 21 22 w L) (hp : eL 18 23 w (u :: inn ++ [z])) (hf : w.1 18 11 = nI cf) (hn16 : L.length < 16) (hcf : L[cf]? = some F) (hFm : ∀ v, v ∈ F ↔ v ∈ u :: xs ++ z :: ys) (hFd : ∀ q, q ∈ dts F ↔ q ∈ dts (u :: xs ++ z :: ys)) (hFn : (u :: xs ++ z :: ys).Nodup) (h10 : ∀ v ∈ u :: xs ++ z :: ys, v < 10) (hin : inn.Nodup) (hi10 : ∀ v ∈ inn, v < 10 ∧ v ∉ u :: xs ++ z :: ys) (hPu : PV u = true) (hL10 : ∀ f ∈ L, ∀ x ∈ f, x < 10) : xD MX1_splitFace [.ref 18] w (fun r w1 => r = none ∧ eP 18 20 w1 (addP P (u :: inn ++ [z])) (addV PV (u :: inn ++ [z])) (E + (inn.length + 1)) ∧ eF 18 21 22 w1 (L.set cf (u :: xs ++ z :: inn.reverse) ++ [z :: ys ++ u :: inn]) ∧ xkq [(18, some 3), (18, some 5), (18, some 8), (20, none), (21, none), (22, none)] w w1) := by
  have hcl : cf < L.length := (List.getElem?_eq_some_iff.mp hcf).1
  have hu10 : u < 10 := h10 u (by simp)
  have hz10 : z < 10 := h10 z (by simp)
  have hnd := List.nodup_append.mp hFn
  have hzy : (z :: ys).Nodup := hnd.2.1
  have hux : (u :: xs).Nodup := hnd.1
  have hdis := hnd.2.2
  have huz : u ≠ z := hdis u (by simp) z (by simp)
  obtain ⟨ws, hws⟩ : ∃ ws, ws = z :: ys ++ [u] := ⟨_, rfl⟩
  obtain ⟨p, hpp⟩ : ∃ p, p = u :: inn ++ [z] := ⟨_, rfl⟩
  have hwl : ws.length = ys.length + 2 := by rw [hws]; simp
  have hpl : p.length = inn.length + 2 := by rw [hpp]; simp
  have hwn : ws.Nodup := by
    rw [hws]
    refine List.nodup_append.mpr ⟨hzy, by simp, fun a ha b hb e => ?_⟩
    rw [List.mem_singleton] at hb
    exact hdis u (by simp) a ha (by rw [e, hb])
  have hpn : p.Nodup := by
    rw [hpp, List.cons_append]
    refine List.nodup_cons.mpr ⟨fun h => ?_, List.nodup_append.mpr ⟨hin, by simp, fun a ha b hb e => ?_⟩⟩
    · rcases List.mem_append.mp h with e | e
      · exact (hi10 u e).2 (by simp)
      · exact huz (List.mem_singleton.mp e)
    · rw [List.mem_singleton] at hb
      exact (hi10 a ha).2 (by rw [e, hb]; simp)
  have hw10 : ∀ v ∈ ws, v < 10 := fun v hv => h10 v (by
    rw [hws] at hv
    rcases List.mem_append.mp hv with e | e
    · exact List.mem_append_right _ e
    · rw [List.mem_singleton.mp e]; simp)
  have hp10 : ∀ v ∈ p, v < 10 := fun v hv => by
    rw [hpp, List.cons_append] at hv
    rcases List.mem_cons.mp hv with e | e
    · omega
    · rcases List.mem_append.mp e with e | e
      · exact (hi10 v e).1
      · rw [List.mem_singleton.mp e]; exact hz10
  have hgw : ∀ k, k < ws.length → ws.getD k 0 ∈ ws ∧ ws.getD k 0 < 10 := fun k hk => by
    have := List.mem_of_getElem? (get_D hk)
    exact ⟨this, hw10 _ this⟩
  have hgp : ∀ k, k < p.length → p.getD k 0 ∈ p ∧ p.getD k 0 < 10 := fun k hk => by
    have := List.mem_of_getElem? (get_D hk)
    exact ⟨this, hp10 _ this⟩
  have hw9 : ws.length ≤ 10 := by
    have := cnt_list hwn hw10
    have h2 := cnt_le (fun v => decide (v ∈ ws)) 10
    omega
  have hp9 : p.length ≤ 10 := by
    have := cnt_list hpn hp10
    have h2 := cnt_le (fun v => decide (v ∈ p)) 10
    omega
  have hw0 : ws.getD 0 0 = z := by rw [hws]; rfl
  have hwe : ws.getD (ys.length + 1) 0 = u := by rw [hws, List.getD_eq_getElem?_getD]; simp
  have hp0 : p.getD 0 0 = u := by rw [hpp]; rfl
  have hpe : p.getD (inn.length + 1) 0 = z := by rw [hpp, List.getD_eq_getElem?_getD]; simp
  rw [← hpp] at hp ⊢
  have hpr : ∀ k, k < p.length → w.1 23 k = nI (p.getD k 0) := fun k hk => hp.2 k _ (get_D hk)
  have hp1 : w.1 18 14 = nI (inn.length + 2) := by rw [hp.1, hpl]
  have hdw : ∀ q, q ∈ pd ws → q ∈ dts F := fun q hq => (hFd q).mpr (by rw [dts_two, ← hws]; exact List.mem_append_right _ hq)
  have hne : L.length ≠ cf := by omega
  refine xD.of ?_
  show xQ MX1_splitFace (0, [some (.ref 18), none, none, none, none, none, none, none, none], [], w) _
  refine xQ.go 3 (F1 := (5, [some (.ref 18), none, none, none, none, none, none, none, none], [.int 0, .ref 23], w)) rfl ?_
  refine xQ.call rfl (c_at rfl (k := 0) (by omega) (by omega)) ?_
  show xQ MX1_splitFace (8, [some (.ref 18), none, none, none, none, none, none, none, none], [.int (w.1 23 0)], w) _
  rw [hpr 0 (by omega), hp0]
  refine xQ.go 5 (F1 := (17, [some (.ref 18), some (.int (nI u)), none, none, none, none, none, none, none], [.int (w.1 18 14), .ref 23], w)) rfl ?_
  rw [hp1]
  refine xQ.go 2 (F1 := (19, [some (.ref 18), some (.int (nI u)), none, none, none, none, none, none, none], [.int ((nI (inn.length + 2)) - 1), .ref 23], w)) rfl ?_
  rw [show nI (inn.length + 2) - 1 = nI (inn.length + 1) from jI_sub (b := 1) (by omega)]
  refine xQ.call rfl (c_at rfl (by omega) (by omega)) ?_
  show xQ MX1_splitFace (22, [some (.ref 18), some (.int (nI u)), none, none, none, none, none, none, none], [.int (w.1 23 (inn.length + 1))], w) _
  rw [hpr _ (by omega), hpe]
  refine xQ.go 2 (F1 := (24, [some (.ref 18), some (.int (nI u)), some (.int (nI z)), none, none, none, none, none, none], [.int (nI z)], w)) rfl ?_
  refine xQ.call rfl (c_bit hz10) ?_
  show xQ MX1_splitFace (27, [some (.ref 18), some (.int (nI u)), some (.int (nI z)), none, none, none, none, none, none], [.int (mk (fun v => decide (v = z)))], w) _
  refine xQ.go 5 (F1 := (34, [some (.ref 18), some (.int (nI u)), some (.int (nI z)), some (.int (mk (fun v => decide (v = z)))), some (.int (nI z)), some (.int 0), none, none, none], [], w)) rfl ?_
  refine xQ.loop (S := xW) (fun k s => (34, [some (.ref 18), some (.int (nI u)), some (.int (nI z)), some (.int (mk (fun v => decide (v ∈ ws.take (k + 1))))), some (.int (nI (ws.getD k 0))), some (.int (nI k)), none, none, none], [], s)) (fun k s => xkq [(22, none)] w s ∧ (∀ j, j < k → s.1 22 (10 * L.length + ws.getD j 0) = nI (ws.getD (j + 1) 0)) ∧ ∀ i x, x < 10 → i ≠ L.length → s.1 22 (10 * i + x) = w.1 22 (10 * i + x)) (ys.length + 1) w (by rw [hw0, show mk (fun v => decide (v ∈ ws.take (0 + 1))) = mk (fun v => decide (v = z)) by rw [hws]; exact mk_ext fun v _ => by simp]; rfl) (⟨xkq_rfl, fun j hj => absurd hj (by omega), fun _ _ _ _ => rfl⟩) ?_ ?_
  · intro k s hk hI K
    obtain ⟨i1, i2, i3⟩ := hI
    obtain ⟨g1, g2⟩ := hgw k (by omega)
    obtain ⟨g3, g4⟩ := hgw (k + 1) (by omega)
    have hku : ws.getD k 0 ≠ u := fun e => by
      have := nodup_ix hwn (get_D (k := k) (by omega)) (by rw [get_D (k := ys.length + 1) (by omega), hwe, e])
      omega
    refine xQ.go 3 (F1 := (bif decide (10 ≤ (nI k)) then 101 else 41, [some (.ref 18), some (.int (nI u)), some (.int (nI z)), some (.int (mk (fun v => decide (v ∈ ws.take (k + 1))))), some (.int (nI (ws.getD k 0))), some (.int (nI k)), none, none, none], [], s)) rfl ?_
    refine xQ.brF (decide_eq_false (nI_ge (b := 10) (by omega) (by omega))) ?_
    refine xQ.go 3 (F1 := (bif decide ((nI (ws.getD k 0)) = (nI u)) then 101 else 47, [some (.ref 18), some (.int (nI u)), some (.int (nI z)), some (.int (mk (fun v => decide (v ∈ ws.take (k + 1))))), some (.int (nI (ws.getD k 0))), some (.int (nI k)), none, none, none], [], s)) rfl ?_
    refine xQ.brF (decide_eq_false (fun e => hku (jI_inj (by omega) (by omega) e))) ?_
    refine xQ.go 4 (F1 := (55, [some (.ref 18), some (.int (nI u)), some (.int (nI z)), some (.int (mk (fun v => decide (v ∈ ws.take (k + 1))))), some (.int (nI (ws.getD k 0))), some (.int (nI k)), none, none, none], [.int (s.1 18 11), .ref 22], s)) rfl ?_
    rw [xkq_at i1 18 11, hf]
    refine xQ.go 1 (F1 := (57, [some (.ref 18), some (.int (nI u)), some (.int (nI z)), some (.int (mk (fun v => decide (v ∈ ws.take (k + 1))))), some (.int (nI (ws.getD k 0))), some (.int (nI k)), none, none, none], [.int (nI (ws.getD k 0)), .int (nI cf), .ref 22], s)) rfl ?_
    refine xQ.call rfl (c_cell) ?_
    show xQ MX1_splitFace (60, [some (.ref 18), some (.int (nI u)), some (.int (nI z)), some (.int (mk (fun v => decide (v ∈ ws.take (k + 1))))), some (.int (nI (ws.getD k 0))), some (.int (nI k)), none, none, none], [.int (nI (10 * cf + ws.getD k 0)), .ref 22], s) _
    refine xQ.call rfl (c_at rfl (by omega) (by omega)) ?_
    show xQ MX1_splitFace (63, [some (.ref 18), some (.int (nI u)), some (.int (nI z)), some (.int (mk (fun v => decide (v ∈ ws.take (k + 1))))), some (.int (nI (ws.getD k 0))), some (.int (nI k)), none, none, none], [.int (s.1 22 (10 * cf + ws.getD k 0))], s) _
    rw [i3 cf _ g2 (by omega), (hF.2 cf F hcf).2 _ _ (hdw _ (pd_get ws k _ _ (get_D (by omega)) (get_D (by omega))))]
    refine xQ.go 6 (F1 := (75, [some (.ref 18), some (.int (nI u)), some (.int (nI z)), some (.int (mk (fun v => decide (v ∈ ws.take (k + 1))))), some (.int (nI (ws.getD k 0))), some (.int (nI k)), some (.int (nI (ws.getD (k + 1) 0))), none, none], [.int (nI (ws.getD k 0)), .int (s.1 18 8), .ref 22], s)) rfl ?_
    rw [xkq_at i1 18 8, hF.1]
    refine xQ.call rfl (c_cell) ?_
    show xQ MX1_splitFace (78, [some (.ref 18), some (.int (nI u)), some (.int (nI z)), some (.int (mk (fun v => decide (v ∈ ws.take (k + 1))))), some (.int (nI (ws.getD k 0))), some (.int (nI k)), some (.int (nI (ws.getD (k + 1) 0))), none, none], [.int (nI (10 * L.length + ws.getD k 0)), .ref 22], s) _
    refine xQ.go 1 (F1 := (80, [some (.ref 18), some (.int (nI u)), some (.int (nI z)), some (.int (mk (fun v => decide (v ∈ ws.take (k + 1))))), some (.int (nI (ws.getD k 0))), some (.int (nI k)), some (.int (nI (ws.getD (k + 1) 0))), none, none], [.int (nI (ws.getD (k + 1) 0)), .int (nI (10 * L.length + ws.getD k 0)), .ref 22], s)) rfl ?_
    refine xQ.call rfl (c_put rfl (by omega) (by omega)) ?_
    show xQ MX1_splitFace (83, [some (.ref 18), some (.int (nI u)), some (.int (nI z)), some (.int (mk (fun v => decide (v ∈ ws.take (k + 1))))), some (.int (nI (ws.getD k 0))), some (.int (nI k)), some (.int (nI (ws.getD (k + 1) 0))), none, none], [], (xuI s 22 (10 * L.length + ws.getD k 0) (nI (ws.getD (k + 1) 0)))) _
    refine xQ.go 2 (F1 := (86, [some (.ref 18), some (.int (nI u)), some (.int (nI z)), some (.int (mk (fun v => decide (v ∈ ws.take (k + 1))))), some (.int (nI (ws.getD k 0))), some (.int (nI k)), some (.int (nI (ws.getD (k + 1) 0))), none, none], [.int (nI (ws.getD (k + 1) 0)), .int (mk (fun v => decide (v ∈ ws.take (k + 1))))], (xuI s 22 (10 * L.length + ws.getD k 0) (nI (ws.getD (k + 1) 0))))) rfl ?_
    refine xQ.call rfl (c_bit g4) ?_
    show xQ MX1_splitFace (89, [some (.ref 18), some (.int (nI u)), some (.int (nI z)), some (.int (mk (fun v => decide (v ∈ ws.take (k + 1))))), some (.int (nI (ws.getD k 0))), some (.int (nI k)), some (.int (nI (ws.getD (k + 1) 0))), none, none], [.int (mk (fun v => decide (v = ws.getD (k + 1) 0))), .int (mk (fun v => decide (v ∈ ws.take (k + 1))))], (xuI s 22 (10 * L.length + ws.getD k 0) (nI (ws.getD (k + 1) 0)))) _
    refine xQ.go 1 (F1 := (90, [some (.ref 18), some (.int (nI u)), some (.int (nI z)), some (.int (mk (fun v => decide (v ∈ ws.take (k + 1))))), some (.int (nI (ws.getD k 0))), some (.int (nI k)), some (.int (nI (ws.getD (k + 1) 0))), none, none], [.int ((mk (fun v => decide (v ∈ ws.take (k + 1)))) ||| (mk (fun v => decide (v = ws.getD (k + 1) 0))))], (xuI s 22 (10 * L.length + ws.getD k 0) (nI (ws.getD (k + 1) 0))))) rfl ?_
    rw [mk_or, show mk (fun v => decide (v ∈ ws.take (k + 1)) || decide (v = ws.getD (k + 1) 0)) = mk (fun v => decide (v ∈ ws.take (k + 1 + 1))) from mk_ext fun v _ => by
      apply Bool.eq_iff_iff.mpr
      simp only [Bool.or_eq_true, decide_eq_true_iff]
      exact (mem_take1 (by omega)).symm]
    refine xQ.go 5 (F1 := (34, [some (.ref 18), some (.int (nI u)), some (.int (nI z)), some (.int (mk (fun v => decide (v ∈ ws.take (k + 1 + 1))))), some (.int (nI (ws.getD (k + 1) 0))), some (.int ((nI k) + 1)), some (.int (nI (ws.getD (k + 1) 0))), none, none], [], (xuI s 22 (10 * L.length + ws.getD k 0) (nI (ws.getD (k + 1) 0))))) rfl ?_
    refine xQ.less [some (.ref 18), some (.int (nI u)), some (.int (nI z)), some (.int (mk (fun v => decide (v ∈ ws.take (k + 1 + 1))))), some (.int (nI (ws.getD (k + 1) 0))), some (.int ((nI k) + 1)), none, none, none] (by simp [xleb]) ?_
    rw [← nI_succ]
    refine K _ ⟨xkq_I i1 rfl, fun j hj => ?_, fun i x hx hi => ?_⟩
    · rw [uI1]
      by_cases e : j = k
      · rw [e, if_pos ⟨rfl, rfl⟩]
      · rw [if_neg, i2 j (by omega)]
        rintro ⟨_, e2⟩
        have : ws.getD j 0 = ws.getD k 0 := by omega
        exact e (nodup_ix hwn (get_D (by omega)) (by rw [get_D (k := k) (by omega), this]))
    · rw [uI1, if_neg, i3 i x hx hi]
      rintro ⟨_, e2⟩
      omega
  · intro w1 hI
    obtain ⟨i1, i2, i3⟩ := hI
    rw [hwe]
    have hmv : mk (fun v => decide (v ∈ ws.take (ys.length + 1 + 1))) = mk (fun v => decide (v ∈ ws)) := by
      rw [List.take_of_length_le (by omega)]
    rw [hmv]
    refine xQ.go 3 (F1 := (bif decide (10 ≤ (nI (ys.length + 1))) then 101 else 41, [some (.ref 18), some (.int (nI u)), some (.int (nI z)), some (.int (mk (fun v => decide (v ∈ ws)))), some (.int (nI u)), some (.int (nI (ys.length + 1))), none, none, none], [], w1)) rfl ?_
    refine xQ.brF (decide_eq_false (nI_ge (b := 10) (by omega) (by omega))) ?_
    refine xQ.go 3 (F1 := (bif decide ((nI u) = (nI u)) then 101 else 47, [some (.ref 18), some (.int (nI u)), some (.int (nI z)), some (.int (mk (fun v => decide (v ∈ ws)))), some (.int (nI u)), some (.int (nI (ys.length + 1))), none, none, none], [], w1)) rfl ?_
    refine xQ.brT (decide_eq_true rfl) ?_
    refine xQ.go 1 (F1 := (102, [some (.ref 18), some (.int (nI u)), some (.int (nI z)), some (.int (mk (fun v => decide (v ∈ ws)))), some (.int (nI u)), some (.int (nI (ys.length + 1))), none, none, none], [.int (nI u)], w1)) rfl ?_
    refine xQ.call rfl (c_bit hu10) ?_
    show xQ MX1_splitFace (105, [some (.ref 18), some (.int (nI u)), some (.int (nI z)), some (.int (mk (fun v => decide (v ∈ ws)))), some (.int (nI u)), some (.int (nI (ys.length + 1))), none, none, none], [.int (mk (fun v => decide (v = u)))], w1) _
    refine xQ.go 3 (F1 := (110, [some (.ref 18), some (.int (nI u)), some (.int (nI z)), some (.int (mk (fun v => decide (v ∈ ws)))), some (.int (nI u)), some (.int (mk (fun v => decide (v = u)))), some (.int 1), none, none], [], w1)) rfl ?_
    refine xQ.loop (S := xW) (fun k s => (110, [some (.ref 18), some (.int (nI u)), some (.int (nI z)), some (.int (mk (fun v => decide (v ∈ ws)))), some (.int (nI u)), some (.int (mk (fun v => decide (v ∈ p.take (k + 1))))), some (.int (nI (k + 1))), none, none], [], s)) (fun k s => xkq [(18, some 3), (18, some 5), (20, none), (22, none)] w1 s ∧ eP 18 20 s (addP P (p.take (k + 1))) (addV PV (p.take (k + 1))) (E + k) ∧ (∀ j, j < k → s.1 22 (10 * L.length + p.getD j 0) = nI (p.getD (j + 1) 0) ∧ s.1 22 (10 * cf + p.getD (j + 1) 0) = nI (p.getD j 0)) ∧ ∀ i x, x < 10 → (i = L.length → ∀ j, j < k → x ≠ p.getD j 0) → (i = cf → ∀ j, j < k → x ≠ p.getD (j + 1) 0) → s.1 22 (10 * i + x) = w1.1 22 (10 * i + x)) (inn.length + 1) w1 (by rw [show mk (fun v => decide (v ∈ p.take (0 + 1))) = mk (fun v => decide (v = u)) by rw [hpp]; exact mk_ext fun v _ => by simp]; rfl) (⟨xkq_rfl, ⟨fun v hv => by rw [xkq_at i1 20 v, hP.1 v hv, hpp]; exact mk_ext fun x _ => by simp [addP, pd], by rw [xkq_at i1 18 3, hP.2.1, hpp]; exact mk_ext fun x _ => (by simp [addV]; intro e; rw [e]; exact hPu), by rw [xkq_at i1 18 5, hP.2.2]; rfl⟩, fun j hj => absurd hj (by omega), fun _ _ _ _ _ => rfl⟩) ?_ ?_
    · intro k s hk hI K
      obtain ⟨j1, j2, j3, j4⟩ := hI
      obtain ⟨g1, g2⟩ := hgp k (by omega)
      obtain ⟨g3, g4⟩ := hgp (k + 1) (by omega)
      have hfld : ∀ j, j = 8 ∨ j = 11 ∨ j = 14 → s.1 18 j = w.1 18 j := fun j hj => by
        rcases hj with e | e | e <;> subst e
        · rw [xkq_at j1 18 8, xkq_at i1 18 8]
        · rw [xkq_at j1 18 11, xkq_at i1 18 11]
        · rw [xkq_at j1 18 14, xkq_at i1 18 14]
      refine xQ.go 4 (F1 := (bif decide ((s.1 18 14) ≤ (nI (k + 1))) then 203 else 119, [some (.ref 18), some (.int (nI u)), some (.int (nI z)), some (.int (mk (fun v => decide (v ∈ ws)))), some (.int (nI u)), some (.int (mk (fun v => decide (v ∈ p.take (k + 1))))), some (.int (nI (k + 1))), none, none], [], s)) rfl ?_
      refine xQ.brF (by rw [hfld 14 (by omega), hp1]; exact decide_eq_false (nI_ge (by omega) (by omega))) ?_
      refine xQ.go 5 (F1 := (127, [some (.ref 18), some (.int (nI u)), some (.int (nI z)), some (.int (mk (fun v => decide (v ∈ ws)))), some (.int (nI u)), some (.int (mk (fun v => decide (v ∈ p.take (k + 1))))), some (.int (nI (k + 1))), none, none], [.int ((nI (k + 1)) - 1), .ref 23], s)) rfl ?_
      rw [show nI (k + 1) - 1 = nI k from jI_sub (b := 1) (by omega)]
      refine xQ.call rfl (c_at rfl (by omega) (by omega)) ?_
      show xQ MX1_splitFace (130, [some (.ref 18), some (.int (nI u)), some (.int (nI z)), some (.int (mk (fun v => decide (v ∈ ws)))), some (.int (nI u)), some (.int (mk (fun v => decide (v ∈ p.take (k + 1))))), some (.int (nI (k + 1))), none, none], [.int (s.1 23 k)], s) _
      rw [xkq_at j1 23 k, xkq_at i1 23 k, hpr k (by omega)]
      refine xQ.go 4 (F1 := (138, [some (.ref 18), some (.int (nI u)), some (.int (nI z)), some (.int (mk (fun v => decide (v ∈ ws)))), some (.int (nI u)), some (.int (mk (fun v => decide (v ∈ p.take (k + 1))))), some (.int (nI (k + 1))), some (.int (nI (p.getD k 0))), none], [.int (nI (k + 1)), .ref 23], s)) rfl ?_
      refine xQ.call rfl (c_at rfl (by omega) (by omega)) ?_
      show xQ MX1_splitFace (141, [some (.ref 18), some (.int (nI u)), some (.int (nI z)), some (.int (mk (fun v => decide (v ∈ ws)))), some (.int (nI u)), some (.int (mk (fun v => decide (v ∈ p.take (k + 1))))), some (.int (nI (k + 1))), some (.int (nI (p.getD k 0))), none], [.int (s.1 23 (k + 1))], s) _
      rw [xkq_at j1 23 (k + 1), xkq_at i1 23 (k + 1), hpr (k + 1) (by omega)]
      refine xQ.go 6 (F1 := (153, [some (.ref 18), some (.int (nI u)), some (.int (nI z)), some (.int (mk (fun v => decide (v ∈ ws)))), some (.int (nI u)), some (.int (mk (fun v => decide (v ∈ p.take (k + 1))))), some (.int (nI (k + 1))), some (.int (nI (p.getD k 0))), some (.int (nI (p.getD (k + 1) 0)))], [.int (nI (p.getD k 0)), .int (s.1 18 8), .ref 22], s)) rfl ?_
      rw [hfld 8 (by omega), hF.1]
      refine xQ.call rfl (c_cell) ?_
      show xQ MX1_splitFace (156, [some (.ref 18), some (.int (nI u)), some (.int (nI z)), some (.int (mk (fun v => decide (v ∈ ws)))), some (.int (nI u)), some (.int (mk (fun v => decide (v ∈ p.take (k + 1))))), some (.int (nI (k + 1))), some (.int (nI (p.getD k 0))), some (.int (nI (p.getD (k + 1) 0)))], [.int (nI (10 * L.length + p.getD k 0)), .ref 22], s) _
      refine xQ.go 1 (F1 := (158, [some (.ref 18), some (.int (nI u)), some (.int (nI z)), some (.int (mk (fun v => decide (v ∈ ws)))), some (.int (nI u)), some (.int (mk (fun v => decide (v ∈ p.take (k + 1))))), some (.int (nI (k + 1))), some (.int (nI (p.getD k 0))), some (.int (nI (p.getD (k + 1) 0)))], [.int (nI (p.getD (k + 1) 0)), .int (nI (10 * L.length + p.getD k 0)), .ref 22], s)) rfl ?_
      refine xQ.call rfl (c_put rfl (by omega) (by omega)) ?_
      show xQ MX1_splitFace (161, [some (.ref 18), some (.int (nI u)), some (.int (nI z)), some (.int (mk (fun v => decide (v ∈ ws)))), some (.int (nI u)), some (.int (mk (fun v => decide (v ∈ p.take (k + 1))))), some (.int (nI (k + 1))), some (.int (nI (p.getD k 0))), some (.int (nI (p.getD (k + 1) 0)))], [], (xuI s 22 (10 * L.length + p.getD k 0) (nI (p.getD (k + 1) 0)))) _
      refine xQ.go 4 (F1 := (169, [some (.ref 18), some (.int (nI u)), some (.int (nI z)), some (.int (mk (fun v => decide (v ∈ ws)))), some (.int (nI u)), some (.int (mk (fun v => decide (v ∈ p.take (k + 1))))), some (.int (nI (k + 1))), some (.int (nI (p.getD k 0))), some (.int (nI (p.getD (k + 1) 0)))], [.int ((xuI s 22 (10 * L.length + p.getD k 0) (nI (p.getD (k + 1) 0))).1 18 11), .ref 22], (xuI s 22 (10 * L.length + p.getD k 0) (nI (p.getD (k + 1) 0))))) rfl ?_
      rw [show (xuI s 22 (10 * L.length + p.getD k 0) (nI (p.getD (k + 1) 0))).1 18 11 = nI cf by rw [uI1, if_neg (by omega), hfld 11 (by omega), hf]]
      refine xQ.go 1 (F1 := (171, [some (.ref 18), some (.int (nI u)), some (.int (nI z)), some (.int (mk (fun v => decide (v ∈ ws)))), some (.int (nI u)), some (.int (mk (fun v => decide (v ∈ p.take (k + 1))))), some (.int (nI (k + 1))), some (.int (nI (p.getD k 0))), some (.int (nI (p.getD (k + 1) 0)))], [.int (nI (p.getD (k + 1) 0)), .int (nI cf), .ref 22], (xuI s 22 (10 * L.length + p.getD k 0) (nI (p.getD (k + 1) 0))))) rfl ?_
      refine xQ.call rfl (c_cell) ?_
      show xQ MX1_splitFace (174, [some (.ref 18), some (.int (nI u)), some (.int (nI z)), some (.int (mk (fun v => decide (v ∈ ws)))), some (.int (nI u)), some (.int (mk (fun v => decide (v ∈ p.take (k + 1))))), some (.int (nI (k + 1))), some (.int (nI (p.getD k 0))), some (.int (nI (p.getD (k + 1) 0)))], [.int (nI (10 * cf + p.getD (k + 1) 0)), .ref 22], (xuI s 22 (10 * L.length + p.getD k 0) (nI (p.getD (k + 1) 0)))) _
      refine xQ.go 1 (F1 := (176, [some (.ref 18), some (.int (nI u)), some (.int (nI z)), some (.int (mk (fun v => decide (v ∈ ws)))), some (.int (nI u)), some (.int (mk (fun v => decide (v ∈ p.take (k + 1))))), some (.int (nI (k + 1))), some (.int (nI (p.getD k 0))), some (.int (nI (p.getD (k + 1) 0)))], [.int (nI (p.getD k 0)), .int (nI (10 * cf + p.getD (k + 1) 0)), .ref 22], (xuI s 22 (10 * L.length + p.getD k 0) (nI (p.getD (k + 1) 0))))) rfl ?_
      refine xQ.call rfl (c_put rfl (by omega) (by omega)) ?_
      show xQ MX1_splitFace (179, [some (.ref 18), some (.int (nI u)), some (.int (nI z)), some (.int (mk (fun v => decide (v ∈ ws)))), some (.int (nI u)), some (.int (mk (fun v => decide (v ∈ p.take (k + 1))))), some (.int (nI (k + 1))), some (.int (nI (p.getD k 0))), some (.int (nI (p.getD (k + 1) 0)))], [], (xuI (xuI s 22 (10 * L.length + p.getD k 0) (nI (p.getD (k + 1) 0))) 22 (10 * cf + p.getD (k + 1) 0) (nI (p.getD k 0)))) _
      refine xQ.go 2 (F1 := (183, [some (.ref 18), some (.int (nI u)), some (.int (nI z)), some (.int (mk (fun v => decide (v ∈ ws)))), some (.int (nI u)), some (.int (mk (fun v => decide (v ∈ p.take (k + 1))))), some (.int (nI (k + 1))), some (.int (nI (p.getD k 0))), some (.int (nI (p.getD (k + 1) 0)))], [.int (nI (p.getD (k + 1) 0)), .int (mk (fun v => decide (v ∈ p.take (k + 1))))], (xuI (xuI s 22 (10 * L.length + p.getD k 0) (nI (p.getD (k + 1) 0))) 22 (10 * cf + p.getD (k + 1) 0) (nI (p.getD k 0))))) rfl ?_
      refine xQ.call rfl (c_bit g4) ?_
      show xQ MX1_splitFace (186, [some (.ref 18), some (.int (nI u)), some (.int (nI z)), some (.int (mk (fun v => decide (v ∈ ws)))), some (.int (nI u)), some (.int (mk (fun v => decide (v ∈ p.take (k + 1))))), some (.int (nI (k + 1))), some (.int (nI (p.getD k 0))), some (.int (nI (p.getD (k + 1) 0)))], [.int (mk (fun v => decide (v = p.getD (k + 1) 0))), .int (mk (fun v => decide (v ∈ p.take (k + 1))))], (xuI (xuI s 22 (10 * L.length + p.getD k 0) (nI (p.getD (k + 1) 0))) 22 (10 * cf + p.getD (k + 1) 0) (nI (p.getD k 0)))) _
      refine xQ.go 1 (F1 := (187, [some (.ref 18), some (.int (nI u)), some (.int (nI z)), some (.int (mk (fun v => decide (v ∈ ws)))), some (.int (nI u)), some (.int (mk (fun v => decide (v ∈ p.take (k + 1))))), some (.int (nI (k + 1))), some (.int (nI (p.getD k 0))), some (.int (nI (p.getD (k + 1) 0)))], [.int ((mk (fun v => decide (v ∈ p.take (k + 1)))) ||| (mk (fun v => decide (v = p.getD (k + 1) 0))))], (xuI (xuI s 22 (10 * L.length + p.getD k 0) (nI (p.getD (k + 1) 0))) 22 (10 * cf + p.getD (k + 1) 0) (nI (p.getD k 0))))) rfl ?_
      rw [mk_or, show mk (fun v => decide (v ∈ p.take (k + 1)) || decide (v = p.getD (k + 1) 0)) = mk (fun v => decide (v ∈ p.take (k + 1 + 1))) from mk_ext fun v _ => by
        apply Bool.eq_iff_iff.mpr
        simp only [Bool.or_eq_true, decide_eq_true_iff]
        exact (mem_take1 (by omega)).symm]
      obtain ⟨s2, hs2⟩ : ∃ s2, s2 = (xuI (xuI s 22 (10 * L.length + p.getD k 0) (nI (p.getD (k + 1) 0))) 22 (10 * cf + p.getD (k + 1) 0) (nI (p.getD k 0))) := ⟨_, rfl⟩
      have hk2 : xkq [(22, none)] s s2 := by rw [hs2]; exact xkq_I (xkq_I xkq_rfl rfl) rfl
      have hr1 : s2.1 22 (10 * L.length + p.getD k 0) = nI (p.getD (k + 1) 0) := by
        rw [hs2, uI1, if_neg (by omega), uI1, if_pos ⟨rfl, rfl⟩]
      have hr2 : s2.1 22 (10 * cf + p.getD (k + 1) 0) = nI (p.getD k 0) := by
        rw [hs2, uI1, if_pos ⟨rfl, rfl⟩]
      have hr3 : ∀ i x, x < 10 → ¬ (i = L.length ∧ x = p.getD k 0) → ¬ (i = cf ∧ x = p.getD (k + 1) 0) → s2.1 22 (10 * i + x) = s.1 22 (10 * i + x) := fun i x hx n1 n2 => by
        rw [hs2, uI1, if_neg (by omega), uI1, if_neg (by omega)]
      rw [← hs2]
      have hP2 : eP 18 20 s2 (addP P (p.take (k + 1))) (addV PV (p.take (k + 1))) (E + k) := ⟨fun v hv => by rw [xkq_at hk2 20 v]; exact j2.1 v hv, by rw [xkq_at hk2 18 3]; exact j2.2.1, by rw [xkq_at hk2 18 5]; exact j2.2.2⟩
      obtain ⟨r3, s3, hc, hr, hP3, hk3⟩ := c_placeEdge_p hP2 g2 g4
      subst hr
      refine xQ.go 4 (F1 := (194, [some (.ref 18), some (.int (nI u)), some (.int (nI z)), some (.int (mk (fun v => decide (v ∈ ws)))), some (.int (nI u)), some (.int (mk (fun v => decide (v ∈ p.take (k + 1 + 1))))), some (.int (nI (k + 1))), some (.int (nI (p.getD k 0))), some (.int (nI (p.getD (k + 1) 0)))], [.int (nI (p.getD (k + 1) 0)), .int (nI (p.getD k 0)), .ref 18], s2)) rfl ?_
      refine xQ.call rfl (hc) ?_
      show xQ MX1_splitFace (197, [some (.ref 18), some (.int (nI u)), some (.int (nI z)), some (.int (mk (fun v => decide (v ∈ ws)))), some (.int (nI u)), some (.int (mk (fun v => decide (v ∈ p.take (k + 1 + 1))))), some (.int (nI (k + 1))), some (.int (nI (p.getD k 0))), some (.int (nI (p.getD (k + 1) 0)))], [], s3) _
      refine xQ.less [some (.ref 18), some (.int (nI u)), some (.int (nI z)), some (.int (mk (fun v => decide (v ∈ ws)))), some (.int (nI u)), some (.int (mk (fun v => decide (v ∈ p.take (k + 1 + 1))))), some (.int (nI (k + 1))), none, none] (by simp [xleb]) ?_
      refine xQ.go 2 (F1 := (110, [some (.ref 18), some (.int (nI u)), some (.int (nI z)), some (.int (mk (fun v => decide (v ∈ ws)))), some (.int (nI u)), some (.int (mk (fun v => decide (v ∈ p.take (k + 1 + 1))))), some (.int ((nI (k + 1)) + 1)), none, none], [], s3)) rfl ?_
      rw [← nI_succ]
      have hpj : ∀ i j, i < p.length → j < p.length → p.getD i 0 = p.getD j 0 → i = j := fun i j hi hj e => nodup_ix hpn (get_D hi) (by rw [get_D hj, e])
      refine K s3 ⟨xkq_trans (xkq_trans j1 (xkq_mono rfl hk2)) (xkq_mono rfl hk3), ⟨fun v hv => ?_, ?_, hP3.2.2⟩, fun j hj => ?_, fun i x hx n1 n2 => ?_⟩
      · rw [hP3.1 v hv]
        refine mk_ext fun x _ => Bool.eq_iff_iff.mpr ?_
        rw [addP_iff]
        show (addP P (p.take (k + 1)) v x || ab _ _ v x) = true ↔ _
        rw [Bool.or_eq_true, addP_iff, ab_iff, pd_take (by omega), pd_take (by omega)]
        simp only [Prod.mk.injEq]
        constructor
        · rintro ((h | h | h) | h | h)
          · exact Or.inl h
          · exact Or.inr (Or.inl (Or.inl h))
          · exact Or.inr (Or.inr (Or.inl h))
          · exact Or.inr (Or.inl (Or.inr h))
          · exact Or.inr (Or.inr (Or.inr ⟨h.2, h.1⟩))
        · rintro (h | (h | h) | h | h)
          · exact Or.inl (Or.inl h)
          · exact Or.inl (Or.inr (Or.inl h))
          · exact Or.inr (Or.inl h)
          · exact Or.inl (Or.inr (Or.inr h))
          · exact Or.inr (Or.inr ⟨h.2, h.1⟩)
      · rw [hP3.2.1]
        refine mk_ext fun x _ => Bool.eq_iff_iff.mpr ?_
        rw [addV_iff, mem_take1 (by omega)]
        show (addV PV (p.take (k + 1)) x || (decide (x = _) || decide (x = _))) = true ↔ _
        simp only [Bool.or_eq_true, decide_eq_true_iff, addV_iff]
        have hm : p.getD k 0 ∈ p.take (k + 1) := (mem_take1 (by omega)).mpr (Or.inr rfl)
        constructor
        · rintro ((h | h) | h | h)
          · exact Or.inl h
          · exact Or.inr (Or.inl h)
          · rw [h]; exact Or.inr (Or.inl hm)
          · exact Or.inr (Or.inr h)
        · rintro (h | h | h)
          · exact Or.inl (Or.inl h)
          · exact Or.inl (Or.inr h)
          · exact Or.inr (Or.inr h)
      · rw [xkq_at hk3 22 _, xkq_at hk3 22 _]
        by_cases e : j = k
        · rw [e]
          exact ⟨hr1, hr2⟩
        · obtain ⟨q1, q2⟩ := j3 j (by omega)
          have := (hgp j (by omega)).2
          have := (hgp (j + 1) (by omega)).2
          refine ⟨?_, ?_⟩
          · rw [hr3 _ _ (by omega) (fun h => e (hpj _ _ (by omega) (by omega) h.2)) (fun h => hne h.1)]
            exact q1
          · rw [hr3 _ _ (by omega) (fun h => hne h.1.symm) (fun h => e (by have := hpj _ _ (by omega) (by omega) h.2; omega))]
            exact q2
      · rw [xkq_at hk3 22 _, hr3 i x hx (fun h => n1 h.1 k (by omega) h.2) (fun h => n2 h.1 k (by omega) h.2)]
        exact j4 i x hx (fun h j hj => n1 h j (by omega)) (fun h j hj => n2 h j (by omega))
    · intro w2 hI
      obtain ⟨j1, j2, j3, j4⟩ := hI
      rw [show p.take (inn.length + 1 + 1) = p from List.take_of_length_le (by omega)] at *
      have k14 : w2.1 18 14 = nI (inn.length + 2) := by rw [xkq_at j1 18 14, xkq_at i1 18 14, hp1]
      have k11 : w2.1 18 11 = nI cf := by rw [xkq_at j1 18 11, xkq_at i1 18 11, hf]
      have k8 : w2.1 18 8 = nI L.length := by rw [xkq_at j1 18 8, xkq_at i1 18 8, hF.1]
      have k21 : ∀ j, w2.1 21 j = w.1 21 j := fun j => by rw [xkq_at j1 21 j, xkq_at i1 21 j]
      refine xQ.go 4 (F1 := (bif decide ((w2.1 18 14) ≤ (nI (inn.length + 1 + 1))) then 203 else 119, [some (.ref 18), some (.int (nI u)), some (.int (nI z)), some (.int (mk (fun v => decide (v ∈ ws)))), some (.int (nI u)), some (.int (mk (fun v => decide (v ∈ p)))), some (.int (nI (inn.length + 1 + 1))), none, none], [], w2)) rfl ?_
      refine xQ.brT (by rw [k14]; exact decide_eq_true (Int32.le_refl _)) ?_
      refine xQ.go 8 (F1 := (219, [some (.ref 18), some (.int (nI u)), some (.int (nI z)), some (.int (mk (fun v => decide (v ∈ ws)))), some (.int (nI u)), some (.int (mk (fun v => decide (v ∈ p)))), some (.int (nI (inn.length + 1 + 1))), none, none], [.int (w2.1 18 11), .ref 21, .int (w2.1 18 11), .ref 21], w2)) rfl ?_
      rw [k11]
      refine xQ.call rfl (c_at rfl (by omega) (by omega)) ?_
      show xQ MX1_splitFace (222, [some (.ref 18), some (.int (nI u)), some (.int (nI z)), some (.int (mk (fun v => decide (v ∈ ws)))), some (.int (nI u)), some (.int (mk (fun v => decide (v ∈ p)))), some (.int (nI (inn.length + 1 + 1))), none, none], [.int (w2.1 21 cf), .int (nI cf), .ref 21], w2) _
      rw [k21, (hF.2 cf F hcf).1]
      refine xQ.go 6 (F1 := (229, [some (.ref 18), some (.int (nI u)), some (.int (nI z)), some (.int (mk (fun v => decide (v ∈ ws)))), some (.int (nI u)), some (.int (mk (fun v => decide (v ∈ p)))), some (.int (nI (inn.length + 1 + 1))), none, none], [.int (((mk (fun v => decide (v ∈ F))) &&& ((mk (fun v => decide (v ∈ ws))) ^^^ (-1))) ||| (mk (fun v => decide (v ∈ p)))), .int (nI cf), .ref 21], w2)) rfl ?_
      rw [mk_andn, mk_or]
      refine xQ.call rfl (c_put rfl (by omega) (by omega)) ?_
      show xQ MX1_splitFace (232, [some (.ref 18), some (.int (nI u)), some (.int (nI z)), some (.int (mk (fun v => decide (v ∈ ws)))), some (.int (nI u)), some (.int (mk (fun v => decide (v ∈ p)))), some (.int (nI (inn.length + 1 + 1))), none, none], [], (xuI w2 21 cf (mk (fun v => decide (v ∈ F) && !decide (v ∈ ws) || decide (v ∈ p))))) _
      refine xQ.go 7 (F1 := (244, [some (.ref 18), some (.int (nI u)), some (.int (nI z)), some (.int (mk (fun v => decide (v ∈ ws)))), some (.int (nI u)), some (.int (mk (fun v => decide (v ∈ p)))), some (.int (nI (inn.length + 1 + 1))), none, none], [.int ((mk (fun v => decide (v ∈ ws))) ||| (mk (fun v => decide (v ∈ p)))), .int ((xuI w2 21 cf (mk (fun v => decide (v ∈ F) && !decide (v ∈ ws) || decide (v ∈ p)))).1 18 8), .ref 21], (xuI w2 21 cf (mk (fun v => decide (v ∈ F) && !decide (v ∈ ws) || decide (v ∈ p)))))) rfl ?_
      rw [show (xuI w2 21 cf (mk (fun v => decide (v ∈ F) && !decide (v ∈ ws) || decide (v ∈ p)))).1 18 8 = nI L.length by rw [uI1, if_neg (by omega), k8], mk_or]
      refine xQ.call rfl (c_put rfl (by omega) (by omega)) ?_
      show xQ MX1_splitFace (247, [some (.ref 18), some (.int (nI u)), some (.int (nI z)), some (.int (mk (fun v => decide (v ∈ ws)))), some (.int (nI u)), some (.int (mk (fun v => decide (v ∈ p)))), some (.int (nI (inn.length + 1 + 1))), none, none], [], (xuI (xuI w2 21 cf (mk (fun v => decide (v ∈ F) && !decide (v ∈ ws) || decide (v ∈ p)))) 21 L.length (mk (fun v => decide (v ∈ ws) || decide (v ∈ p))))) _
      refine xQ.go 6 (F1 := (257, [some (.ref 18), some (.int (nI u)), some (.int (nI z)), some (.int (mk (fun v => decide (v ∈ ws)))), some (.int (nI u)), some (.int (mk (fun v => decide (v ∈ p)))), some (.int (nI (inn.length + 1 + 1))), none, none], [], (xuI (xuI (xuI w2 21 cf (mk (fun v => decide (v ∈ F) && !decide (v ∈ ws) || decide (v ∈ p)))) 21 L.length (mk (fun v => decide (v ∈ ws) || decide (v ∈ p)))) 18 8 (((xuI (xuI w2 21 cf (mk (fun v => decide (v ∈ F) && !decide (v ∈ ws) || decide (v ∈ p)))) 21 L.length (mk (fun v => decide (v ∈ ws) || decide (v ∈ p)))).1 18 8) + 1)))) rfl ?_
      refine xQ.vret 1 rfl rfl ?_
      have hpm : ∀ v, v ∈ p ↔ v = u ∨ v ∈ inn ∨ v = z := fun v => by rw [hpp]; simp
      have hwm : ∀ v, v ∈ ws ↔ v = z ∨ v ∈ ys ∨ v = u := fun v => by rw [hws]; simp
      have hFm2 : ∀ v, v ∈ F ↔ v = u ∨ v ∈ xs ∨ v = z ∨ v ∈ ys := fun v => by rw [hFm]; simp
      refine ⟨rfl, ⟨fun v hv => ?_, ?_, ?_⟩, ⟨?_, fun i f hi => ?_⟩, ?_⟩
      · simp only [uI1]
        simp
        exact j2.1 v hv
      · simp only [uI1]
        simp
        exact j2.2.1
      · simp only [uI1]
        simp
        exact j2.2.2
      · simp only [uI1]
        simp [k8, nI_succ]
      · have hset : i < L.length + 1 := by
          have := (List.getElem?_eq_some_iff.mp hi).1
          simpa using this
        have hfol : ∀ x, (xuI (xuI (xuI w2 21 cf (mk (fun v => decide (v ∈ F) && !decide (v ∈ ws) || decide (v ∈ p)))) 21 L.length (mk (fun v => decide (v ∈ ws) || decide (v ∈ p)))) 18 8 ((xuI (xuI w2 21 cf (mk (fun v => decide (v ∈ F) && !decide (v ∈ ws) || decide (v ∈ p)))) 21 L.length (mk (fun v => decide (v ∈ ws) || decide (v ∈ p)))).1 18 8 + 1)).1 22 (10 * i + x) = w2.1 22 (10 * i + x) := fun x => by
          simp only [uI1]
          simp
        have hpd : ∀ x y, (x, y) ∈ pd p → ∃ j, j < inn.length + 1 ∧ x = p.getD j 0 ∧ y = p.getD (j + 1) 0 := fun x y h => by
          obtain ⟨j, h1, h2⟩ := pd_ex h
          have hj := (List.getElem?_eq_some_iff.mp h2).1
          refine ⟨j, by omega, ?_, ?_⟩
          · rw [get_D (by omega)] at h1
            exact (Option.some.inj h1).symm
          · rw [get_D hj] at h2
            exact (Option.some.inj h2).symm
        have hpdw : ∀ x y, (x, y) ∈ pd ws → ∃ j, j < ys.length + 1 ∧ x = ws.getD j 0 ∧ y = ws.getD (j + 1) 0 := fun x y h => by
          obtain ⟨j, h1, h2⟩ := pd_ex h
          have hj := (List.getElem?_eq_some_iff.mp h2).1
          refine ⟨j, by omega, ?_, ?_⟩
          · rw [get_D (by omega)] at h1
            exact (Option.some.inj h1).symm
          · rw [get_D hj] at h2
            exact (Option.some.inj h2).symm
        have hpu : ∀ j, j < inn.length + 1 → p.getD j 0 ∈ u :: inn := fun j hj => by
          have h1 := (hgp j (by omega)).1
          rcases (hpm _).mp h1 with e | e | e
          · rw [e]; simp
          · exact List.mem_cons_of_mem _ e
          · exfalso
            have := nodup_ix hpn (get_D (k := j) (by omega)) (by rw [get_D (k := inn.length + 1) (by omega), hpe, e])
            omega
        have hpz : ∀ j, j < inn.length + 1 → p.getD (j + 1) 0 ∈ z :: inn := fun j hj => by
          have h1 := (hgp (j + 1) (by omega)).1
          rcases (hpm _).mp h1 with e | e | e
          · exfalso
            have := nodup_ix hpn (get_D (k := j + 1) (by omega)) (by rw [get_D (k := 0) (by omega), hp0, e])
            omega
          · exact List.mem_cons_of_mem _ e
          · rw [e]; simp
        have hzy2 : ∀ j, j < ys.length + 1 → ws.getD j 0 ∈ z :: ys := fun j hj => by
          have h1 := (hgw j (by omega)).1
          rcases (hwm _).mp h1 with e | e | e
          · rw [e]; simp
          · exact List.mem_cons_of_mem _ e
          · exfalso
            have := nodup_ix hwn (get_D (k := j) (by omega)) (by rw [get_D (k := ys.length + 1) (by omega), hwe, e])
            omega
        by_cases e1 : i = L.length
        · have hfe : f = z :: ys ++ u :: inn := by
            rw [List.getElem?_append_right (by simp [e1]), e1] at hi
            simp at hi
            rw [← hi]
            simp
          refine ⟨?_, fun x y hxy => ?_⟩
          · simp only [uI1]
            rw [if_neg (by omega), if_pos ⟨trivial, e1⟩]
            refine mk_ext fun v _ => Bool.eq_iff_iff.mpr ?_
            simp only [Bool.or_eq_true, decide_eq_true_iff, hwm, hpm, hfe, List.mem_append, List.mem_cons]
            constructor
            · rintro ((h | h | h) | h | h | h) <;> simp [h]
            · rintro ((h | h) | h | h) <;> simp [h]
          · rw [hfol]
            rw [hfe, dts_two, ← hws, ← hpp] at hxy
            rcases List.mem_append.mp hxy with h | h
            · obtain ⟨j, hj, rfl, rfl⟩ := hpdw x y h
              have hm := hzy2 j hj
              rw [j4 i _ (hgw j (by omega)).2 (fun _ j2 hj2 e => ?_) (fun h => absurd (e1.symm.trans h) hne), e1]
              · exact i2 j hj
              · have hm2 := hpu j2 hj2
                rw [← e] at hm2
                rcases List.mem_cons.mp hm2 with e3 | e3
                · exact hdis u (by simp) _ hm e3.symm
                · exact (hi10 _ e3).2 (List.mem_append_right _ hm)
            · obtain ⟨j, hj, rfl, rfl⟩ := hpd x y h
              rw [e1]
              exact (j3 j hj).1
        · have hi2 : (L.set cf (u :: xs ++ z :: inn.reverse))[i]? = some f := by
            rw [List.getElem?_append_left (by simp; omega)] at hi
            exact hi
          by_cases e2 : i = cf
          · have hfe : f = u :: xs ++ z :: inn.reverse := by
              rw [e2, List.getElem?_set_self hcl] at hi2
              exact (Option.some.inj hi2).symm
            refine ⟨?_, fun x y hxy => ?_⟩
            · simp only [uI1]
              rw [if_neg (by omega), if_neg (by omega), if_pos ⟨trivial, e2⟩]
              refine mk_ext fun v _ => Bool.eq_iff_iff.mpr ?_
              simp only [Bool.or_eq_true, Bool.and_eq_true, Bool.not_eq_true', decide_eq_true_iff, decide_eq_false_iff_not, hwm, hpm, hFm2, hfe, List.mem_append, List.mem_cons, List.mem_reverse]
              constructor
              · rintro (⟨h, h2⟩ | h | h | h)
                · rcases h with h | h | h | h
                  · exact absurd (Or.inr (Or.inr h)) h2
                  · exact Or.inl (Or.inr h)
                  · exact absurd (Or.inl h) h2
                  · exact absurd (Or.inr (Or.inl h)) h2
                · exact Or.inl (Or.inl h)
                · exact Or.inr (Or.inr h)
                · exact Or.inr (Or.inl h)
              · rintro ((h | h) | h | h)
                · exact Or.inr (Or.inl h)
                · refine Or.inl ⟨Or.inr (Or.inl h), ?_⟩
                  rintro (h2 | h2 | h2)
                  · exact hdis v (List.mem_cons_of_mem _ h) z (by simp) h2
                  · exact hdis v (List.mem_cons_of_mem _ h) v (List.mem_cons_of_mem _ h2) rfl
                  · rw [h2] at h
                    exact (List.nodup_cons.mp hux).1 h
                · exact Or.inr (Or.inr (Or.inr h))
                · exact Or.inr (Or.inr (Or.inl h))
            · rw [hfol]
              rw [hfe, dts_two] at hxy
              rcases List.mem_append.mp hxy with h | h
              · have hxu : x ∈ u :: xs := by
                  obtain ⟨j, h1, h2⟩ := pd_ex h
                  have hj := (List.getElem?_eq_some_iff.mp h2).1
                  rw [List.getElem?_append_left (by simp at hj ⊢; omega)] at h1
                  exact List.mem_of_getElem? h1
                have hx10 := h10 x (List.mem_append_left _ hxu)
                rw [j4 i x hx10 (fun h => absurd h e1) (fun _ j2 hj2 e => ?_), i3 i x hx10 e1, e2]
                · exact (hF.2 cf F hcf).2 x y ((hFd _).mpr (by rw [dts_two]; exact List.mem_append_left _ h))
                · have hm2 := hpz j2 hj2
                  rw [← e] at hm2
                  rcases List.mem_cons.mp hm2 with e3 | e3
                  · exact hdis x hxu z (by simp) e3
                  · exact (hi10 _ e3).2 (List.mem_append_left _ hxu)
              · have h2 : (y, x) ∈ pd p := by
                  rw [hpp]
                  have e : (u :: inn ++ [z]).reverse = z :: inn.reverse ++ [u] := by simp
                  exact (pd_rev _ (x, y)).mp (by rw [e]; exact h)
                obtain ⟨j, hj, rfl, rfl⟩ := hpd y x h2
                rw [e2]
                exact (j3 j hj).2
          · rw [List.getElem?_set_ne (fun e => e2 e.symm)] at hi2
            refine ⟨?_, fun x y hxy => ?_⟩
            · simp only [uI1]
              rw [if_neg (by omega), if_neg (by omega), if_neg (by omega), k21]
              exact (hF.2 i f hi2).1
            · rw [hfol]
              have hx10 := hL10 f (List.mem_of_getElem? hi2) x (dts_mem hxy).1
              rw [j4 i x hx10 (fun h => absurd h e1) (fun h => absurd h e2), i3 i x hx10 e1]
              exact (hF.2 i f hi2).2 x y hxy
      · exact xkq_I (xkq_I (xkq_I (xkq_trans (xkq_mono rfl i1) (xkq_mono rfl j1)) rfl) rfl) rfl

theorem c_split_t {w : xW} {P : Nat → Nat → Bool} {PV : Nat → Bool} {E : Nat} {L : List (List Nat)} {cf u z : Nat} {F xs ys inn : List Nat} (hP : eP 32 34 w P PV E) (hF : eF 32 35 36 w L) (hp : eL 32 37 w (u :: inn ++ [z])) (hf : w.1 32 11 = nI cf) (hn16 : L.length < 16) (hcf : L[cf]? = some F) (hFm : ∀ v, v ∈ F ↔ v ∈ u :: xs ++ z :: ys) (hFd : ∀ q, q ∈ dts F ↔ q ∈ dts (u :: xs ++ z :: ys)) (hFn : (u :: xs ++ z :: ys).Nodup) (h10 : ∀ v ∈ u :: xs ++ z :: ys, v < 10) (hin : inn.Nodup) (hi10 : ∀ v ∈ inn, v < 10 ∧ v ∉ u :: xs ++ z :: ys) (hPu : PV u = true) (hL10 : ∀ f ∈ L, ∀ x ∈ f, x < 10) : xD MX1_splitFace [.ref 32] w (fun r w1 => r = none ∧ eP 32 34 w1 (addP P (u :: inn ++ [z])) (addV PV (u :: inn ++ [z])) (E + (inn.length + 1)) ∧ eF 32 35 36 w1 (L.set cf (u :: xs ++ z :: inn.reverse) ++ [z :: ys ++ u :: inn]) ∧ xkq [(32, some 3), (32, some 5), (32, some 8), (34, none), (35, none), (36, none)] w w1) := by
  have hcl : cf < L.length := (List.getElem?_eq_some_iff.mp hcf).1
  have hu10 : u < 10 := h10 u (by simp)
  have hz10 : z < 10 := h10 z (by simp)
  have hnd := List.nodup_append.mp hFn
  have hzy : (z :: ys).Nodup := hnd.2.1
  have hux : (u :: xs).Nodup := hnd.1
  have hdis := hnd.2.2
  have huz : u ≠ z := hdis u (by simp) z (by simp)
  obtain ⟨ws, hws⟩ : ∃ ws, ws = z :: ys ++ [u] := ⟨_, rfl⟩
  obtain ⟨p, hpp⟩ : ∃ p, p = u :: inn ++ [z] := ⟨_, rfl⟩
  have hwl : ws.length = ys.length + 2 := by rw [hws]; simp
  have hpl : p.length = inn.length + 2 := by rw [hpp]; simp
  have hwn : ws.Nodup := by
    rw [hws]
    refine List.nodup_append.mpr ⟨hzy, by simp, fun a ha b hb e => ?_⟩
    rw [List.mem_singleton] at hb
    exact hdis u (by simp) a ha (by rw [e, hb])
  have hpn : p.Nodup := by
    rw [hpp, List.cons_append]
    refine List.nodup_cons.mpr ⟨fun h => ?_, List.nodup_append.mpr ⟨hin, by simp, fun a ha b hb e => ?_⟩⟩
    · rcases List.mem_append.mp h with e | e
      · exact (hi10 u e).2 (by simp)
      · exact huz (List.mem_singleton.mp e)
    · rw [List.mem_singleton] at hb
      exact (hi10 a ha).2 (by rw [e, hb]; simp)
  have hw10 : ∀ v ∈ ws, v < 10 := fun v hv => h10 v (by
    rw [hws] at hv
    rcases List.mem_append.mp hv with e | e
    · exact List.mem_append_right _ e
    · rw [List.mem_singleton.mp e]; simp)
  have hp10 : ∀ v ∈ p, v < 10 := fun v hv => by
    rw [hpp, List.cons_append] at hv
    rcases List.mem_cons.mp hv with e | e
    · omega
    · rcases List.mem_append.mp e with e | e
      · exact (hi10 v e).1
      · rw [List.mem_singleton.mp e]; exact hz10
  have hgw : ∀ k, k < ws.length → ws.getD k 0 ∈ ws ∧ ws.getD k 0 < 10 := fun k hk => by
    have := List.mem_of_getElem? (get_D hk)
    exact ⟨this, hw10 _ this⟩
  have hgp : ∀ k, k < p.length → p.getD k 0 ∈ p ∧ p.getD k 0 < 10 := fun k hk => by
    have := List.mem_of_getElem? (get_D hk)
    exact ⟨this, hp10 _ this⟩
  have hw9 : ws.length ≤ 10 := by
    have := cnt_list hwn hw10
    have h2 := cnt_le (fun v => decide (v ∈ ws)) 10
    omega
  have hp9 : p.length ≤ 10 := by
    have := cnt_list hpn hp10
    have h2 := cnt_le (fun v => decide (v ∈ p)) 10
    omega
  have hw0 : ws.getD 0 0 = z := by rw [hws]; rfl
  have hwe : ws.getD (ys.length + 1) 0 = u := by rw [hws, List.getD_eq_getElem?_getD]; simp
  have hp0 : p.getD 0 0 = u := by rw [hpp]; rfl
  have hpe : p.getD (inn.length + 1) 0 = z := by rw [hpp, List.getD_eq_getElem?_getD]; simp
  rw [← hpp] at hp ⊢
  have hpr : ∀ k, k < p.length → w.1 37 k = nI (p.getD k 0) := fun k hk => hp.2 k _ (get_D hk)
  have hp1 : w.1 32 14 = nI (inn.length + 2) := by rw [hp.1, hpl]
  have hdw : ∀ q, q ∈ pd ws → q ∈ dts F := fun q hq => (hFd q).mpr (by rw [dts_two, ← hws]; exact List.mem_append_right _ hq)
  have hne : L.length ≠ cf := by omega
  refine xD.of ?_
  show xQ MX1_splitFace (0, [some (.ref 32), none, none, none, none, none, none, none, none], [], w) _
  refine xQ.go 3 (F1 := (5, [some (.ref 32), none, none, none, none, none, none, none, none], [.int 0, .ref 37], w)) rfl ?_
  refine xQ.call rfl (c_at rfl (k := 0) (by omega) (by omega)) ?_
  show xQ MX1_splitFace (8, [some (.ref 32), none, none, none, none, none, none, none, none], [.int (w.1 37 0)], w) _
  rw [hpr 0 (by omega), hp0]
  refine xQ.go 5 (F1 := (17, [some (.ref 32), some (.int (nI u)), none, none, none, none, none, none, none], [.int (w.1 32 14), .ref 37], w)) rfl ?_
  rw [hp1]
  refine xQ.go 2 (F1 := (19, [some (.ref 32), some (.int (nI u)), none, none, none, none, none, none, none], [.int ((nI (inn.length + 2)) - 1), .ref 37], w)) rfl ?_
  rw [show nI (inn.length + 2) - 1 = nI (inn.length + 1) from jI_sub (b := 1) (by omega)]
  refine xQ.call rfl (c_at rfl (by omega) (by omega)) ?_
  show xQ MX1_splitFace (22, [some (.ref 32), some (.int (nI u)), none, none, none, none, none, none, none], [.int (w.1 37 (inn.length + 1))], w) _
  rw [hpr _ (by omega), hpe]
  refine xQ.go 2 (F1 := (24, [some (.ref 32), some (.int (nI u)), some (.int (nI z)), none, none, none, none, none, none], [.int (nI z)], w)) rfl ?_
  refine xQ.call rfl (c_bit hz10) ?_
  show xQ MX1_splitFace (27, [some (.ref 32), some (.int (nI u)), some (.int (nI z)), none, none, none, none, none, none], [.int (mk (fun v => decide (v = z)))], w) _
  refine xQ.go 5 (F1 := (34, [some (.ref 32), some (.int (nI u)), some (.int (nI z)), some (.int (mk (fun v => decide (v = z)))), some (.int (nI z)), some (.int 0), none, none, none], [], w)) rfl ?_
  refine xQ.loop (S := xW) (fun k s => (34, [some (.ref 32), some (.int (nI u)), some (.int (nI z)), some (.int (mk (fun v => decide (v ∈ ws.take (k + 1))))), some (.int (nI (ws.getD k 0))), some (.int (nI k)), none, none, none], [], s)) (fun k s => xkq [(36, none)] w s ∧ (∀ j, j < k → s.1 36 (10 * L.length + ws.getD j 0) = nI (ws.getD (j + 1) 0)) ∧ ∀ i x, x < 10 → i ≠ L.length → s.1 36 (10 * i + x) = w.1 36 (10 * i + x)) (ys.length + 1) w (by rw [hw0, show mk (fun v => decide (v ∈ ws.take (0 + 1))) = mk (fun v => decide (v = z)) by rw [hws]; exact mk_ext fun v _ => by simp]; rfl) (⟨xkq_rfl, fun j hj => absurd hj (by omega), fun _ _ _ _ => rfl⟩) ?_ ?_
  · intro k s hk hI K
    obtain ⟨i1, i2, i3⟩ := hI
    obtain ⟨g1, g2⟩ := hgw k (by omega)
    obtain ⟨g3, g4⟩ := hgw (k + 1) (by omega)
    have hku : ws.getD k 0 ≠ u := fun e => by
      have := nodup_ix hwn (get_D (k := k) (by omega)) (by rw [get_D (k := ys.length + 1) (by omega), hwe, e])
      omega
    refine xQ.go 3 (F1 := (bif decide (10 ≤ (nI k)) then 101 else 41, [some (.ref 32), some (.int (nI u)), some (.int (nI z)), some (.int (mk (fun v => decide (v ∈ ws.take (k + 1))))), some (.int (nI (ws.getD k 0))), some (.int (nI k)), none, none, none], [], s)) rfl ?_
    refine xQ.brF (decide_eq_false (nI_ge (b := 10) (by omega) (by omega))) ?_
    refine xQ.go 3 (F1 := (bif decide ((nI (ws.getD k 0)) = (nI u)) then 101 else 47, [some (.ref 32), some (.int (nI u)), some (.int (nI z)), some (.int (mk (fun v => decide (v ∈ ws.take (k + 1))))), some (.int (nI (ws.getD k 0))), some (.int (nI k)), none, none, none], [], s)) rfl ?_
    refine xQ.brF (decide_eq_false (fun e => hku (jI_inj (by omega) (by omega) e))) ?_
    refine xQ.go 4 (F1 := (55, [some (.ref 32), some (.int (nI u)), some (.int (nI z)), some (.int (mk (fun v => decide (v ∈ ws.take (k + 1))))), some (.int (nI (ws.getD k 0))), some (.int (nI k)), none, none, none], [.int (s.1 32 11), .ref 36], s)) rfl ?_
    rw [xkq_at i1 32 11, hf]
    refine xQ.go 1 (F1 := (57, [some (.ref 32), some (.int (nI u)), some (.int (nI z)), some (.int (mk (fun v => decide (v ∈ ws.take (k + 1))))), some (.int (nI (ws.getD k 0))), some (.int (nI k)), none, none, none], [.int (nI (ws.getD k 0)), .int (nI cf), .ref 36], s)) rfl ?_
    refine xQ.call rfl (c_cell) ?_
    show xQ MX1_splitFace (60, [some (.ref 32), some (.int (nI u)), some (.int (nI z)), some (.int (mk (fun v => decide (v ∈ ws.take (k + 1))))), some (.int (nI (ws.getD k 0))), some (.int (nI k)), none, none, none], [.int (nI (10 * cf + ws.getD k 0)), .ref 36], s) _
    refine xQ.call rfl (c_at rfl (by omega) (by omega)) ?_
    show xQ MX1_splitFace (63, [some (.ref 32), some (.int (nI u)), some (.int (nI z)), some (.int (mk (fun v => decide (v ∈ ws.take (k + 1))))), some (.int (nI (ws.getD k 0))), some (.int (nI k)), none, none, none], [.int (s.1 36 (10 * cf + ws.getD k 0))], s) _
    rw [i3 cf _ g2 (by omega), (hF.2 cf F hcf).2 _ _ (hdw _ (pd_get ws k _ _ (get_D (by omega)) (get_D (by omega))))]
    refine xQ.go 6 (F1 := (75, [some (.ref 32), some (.int (nI u)), some (.int (nI z)), some (.int (mk (fun v => decide (v ∈ ws.take (k + 1))))), some (.int (nI (ws.getD k 0))), some (.int (nI k)), some (.int (nI (ws.getD (k + 1) 0))), none, none], [.int (nI (ws.getD k 0)), .int (s.1 32 8), .ref 36], s)) rfl ?_
    rw [xkq_at i1 32 8, hF.1]
    refine xQ.call rfl (c_cell) ?_
    show xQ MX1_splitFace (78, [some (.ref 32), some (.int (nI u)), some (.int (nI z)), some (.int (mk (fun v => decide (v ∈ ws.take (k + 1))))), some (.int (nI (ws.getD k 0))), some (.int (nI k)), some (.int (nI (ws.getD (k + 1) 0))), none, none], [.int (nI (10 * L.length + ws.getD k 0)), .ref 36], s) _
    refine xQ.go 1 (F1 := (80, [some (.ref 32), some (.int (nI u)), some (.int (nI z)), some (.int (mk (fun v => decide (v ∈ ws.take (k + 1))))), some (.int (nI (ws.getD k 0))), some (.int (nI k)), some (.int (nI (ws.getD (k + 1) 0))), none, none], [.int (nI (ws.getD (k + 1) 0)), .int (nI (10 * L.length + ws.getD k 0)), .ref 36], s)) rfl ?_
    refine xQ.call rfl (c_put rfl (by omega) (by omega)) ?_
    show xQ MX1_splitFace (83, [some (.ref 32), some (.int (nI u)), some (.int (nI z)), some (.int (mk (fun v => decide (v ∈ ws.take (k + 1))))), some (.int (nI (ws.getD k 0))), some (.int (nI k)), some (.int (nI (ws.getD (k + 1) 0))), none, none], [], (xuI s 36 (10 * L.length + ws.getD k 0) (nI (ws.getD (k + 1) 0)))) _
    refine xQ.go 2 (F1 := (86, [some (.ref 32), some (.int (nI u)), some (.int (nI z)), some (.int (mk (fun v => decide (v ∈ ws.take (k + 1))))), some (.int (nI (ws.getD k 0))), some (.int (nI k)), some (.int (nI (ws.getD (k + 1) 0))), none, none], [.int (nI (ws.getD (k + 1) 0)), .int (mk (fun v => decide (v ∈ ws.take (k + 1))))], (xuI s 36 (10 * L.length + ws.getD k 0) (nI (ws.getD (k + 1) 0))))) rfl ?_
    refine xQ.call rfl (c_bit g4) ?_
    show xQ MX1_splitFace (89, [some (.ref 32), some (.int (nI u)), some (.int (nI z)), some (.int (mk (fun v => decide (v ∈ ws.take (k + 1))))), some (.int (nI (ws.getD k 0))), some (.int (nI k)), some (.int (nI (ws.getD (k + 1) 0))), none, none], [.int (mk (fun v => decide (v = ws.getD (k + 1) 0))), .int (mk (fun v => decide (v ∈ ws.take (k + 1))))], (xuI s 36 (10 * L.length + ws.getD k 0) (nI (ws.getD (k + 1) 0)))) _
    refine xQ.go 1 (F1 := (90, [some (.ref 32), some (.int (nI u)), some (.int (nI z)), some (.int (mk (fun v => decide (v ∈ ws.take (k + 1))))), some (.int (nI (ws.getD k 0))), some (.int (nI k)), some (.int (nI (ws.getD (k + 1) 0))), none, none], [.int ((mk (fun v => decide (v ∈ ws.take (k + 1)))) ||| (mk (fun v => decide (v = ws.getD (k + 1) 0))))], (xuI s 36 (10 * L.length + ws.getD k 0) (nI (ws.getD (k + 1) 0))))) rfl ?_
    rw [mk_or, show mk (fun v => decide (v ∈ ws.take (k + 1)) || decide (v = ws.getD (k + 1) 0)) = mk (fun v => decide (v ∈ ws.take (k + 1 + 1))) from mk_ext fun v _ => by
      apply Bool.eq_iff_iff.mpr
      simp only [Bool.or_eq_true, decide_eq_true_iff]
      exact (mem_take1 (by omega)).symm]
    refine xQ.go 5 (F1 := (34, [some (.ref 32), some (.int (nI u)), some (.int (nI z)), some (.int (mk (fun v => decide (v ∈ ws.take (k + 1 + 1))))), some (.int (nI (ws.getD (k + 1) 0))), some (.int ((nI k) + 1)), some (.int (nI (ws.getD (k + 1) 0))), none, none], [], (xuI s 36 (10 * L.length + ws.getD k 0) (nI (ws.getD (k + 1) 0))))) rfl ?_
    refine xQ.less [some (.ref 32), some (.int (nI u)), some (.int (nI z)), some (.int (mk (fun v => decide (v ∈ ws.take (k + 1 + 1))))), some (.int (nI (ws.getD (k + 1) 0))), some (.int ((nI k) + 1)), none, none, none] (by simp [xleb]) ?_
    rw [← nI_succ]
    refine K _ ⟨xkq_I i1 rfl, fun j hj => ?_, fun i x hx hi => ?_⟩
    · rw [uI1]
      by_cases e : j = k
      · rw [e, if_pos ⟨rfl, rfl⟩]
      · rw [if_neg, i2 j (by omega)]
        rintro ⟨_, e2⟩
        have : ws.getD j 0 = ws.getD k 0 := by omega
        exact e (nodup_ix hwn (get_D (by omega)) (by rw [get_D (k := k) (by omega), this]))
    · rw [uI1, if_neg, i3 i x hx hi]
      rintro ⟨_, e2⟩
      omega
  · intro w1 hI
    obtain ⟨i1, i2, i3⟩ := hI
    rw [hwe]
    have hmv : mk (fun v => decide (v ∈ ws.take (ys.length + 1 + 1))) = mk (fun v => decide (v ∈ ws)) := by
      rw [List.take_of_length_le (by omega)]
    rw [hmv]
    refine xQ.go 3 (F1 := (bif decide (10 ≤ (nI (ys.length + 1))) then 101 else 41, [some (.ref 32), some (.int (nI u)), some (.int (nI z)), some (.int (mk (fun v => decide (v ∈ ws)))), some (.int (nI u)), some (.int (nI (ys.length + 1))), none, none, none], [], w1)) rfl ?_
    refine xQ.brF (decide_eq_false (nI_ge (b := 10) (by omega) (by omega))) ?_
    refine xQ.go 3 (F1 := (bif decide ((nI u) = (nI u)) then 101 else 47, [some (.ref 32), some (.int (nI u)), some (.int (nI z)), some (.int (mk (fun v => decide (v ∈ ws)))), some (.int (nI u)), some (.int (nI (ys.length + 1))), none, none, none], [], w1)) rfl ?_
    refine xQ.brT (decide_eq_true rfl) ?_
    refine xQ.go 1 (F1 := (102, [some (.ref 32), some (.int (nI u)), some (.int (nI z)), some (.int (mk (fun v => decide (v ∈ ws)))), some (.int (nI u)), some (.int (nI (ys.length + 1))), none, none, none], [.int (nI u)], w1)) rfl ?_
    refine xQ.call rfl (c_bit hu10) ?_
    show xQ MX1_splitFace (105, [some (.ref 32), some (.int (nI u)), some (.int (nI z)), some (.int (mk (fun v => decide (v ∈ ws)))), some (.int (nI u)), some (.int (nI (ys.length + 1))), none, none, none], [.int (mk (fun v => decide (v = u)))], w1) _
    refine xQ.go 3 (F1 := (110, [some (.ref 32), some (.int (nI u)), some (.int (nI z)), some (.int (mk (fun v => decide (v ∈ ws)))), some (.int (nI u)), some (.int (mk (fun v => decide (v = u)))), some (.int 1), none, none], [], w1)) rfl ?_
    refine xQ.loop (S := xW) (fun k s => (110, [some (.ref 32), some (.int (nI u)), some (.int (nI z)), some (.int (mk (fun v => decide (v ∈ ws)))), some (.int (nI u)), some (.int (mk (fun v => decide (v ∈ p.take (k + 1))))), some (.int (nI (k + 1))), none, none], [], s)) (fun k s => xkq [(32, some 3), (32, some 5), (34, none), (36, none)] w1 s ∧ eP 32 34 s (addP P (p.take (k + 1))) (addV PV (p.take (k + 1))) (E + k) ∧ (∀ j, j < k → s.1 36 (10 * L.length + p.getD j 0) = nI (p.getD (j + 1) 0) ∧ s.1 36 (10 * cf + p.getD (j + 1) 0) = nI (p.getD j 0)) ∧ ∀ i x, x < 10 → (i = L.length → ∀ j, j < k → x ≠ p.getD j 0) → (i = cf → ∀ j, j < k → x ≠ p.getD (j + 1) 0) → s.1 36 (10 * i + x) = w1.1 36 (10 * i + x)) (inn.length + 1) w1 (by rw [show mk (fun v => decide (v ∈ p.take (0 + 1))) = mk (fun v => decide (v = u)) by rw [hpp]; exact mk_ext fun v _ => by simp]; rfl) (⟨xkq_rfl, ⟨fun v hv => by rw [xkq_at i1 34 v, hP.1 v hv, hpp]; exact mk_ext fun x _ => by simp [addP, pd], by rw [xkq_at i1 32 3, hP.2.1, hpp]; exact mk_ext fun x _ => (by simp [addV]; intro e; rw [e]; exact hPu), by rw [xkq_at i1 32 5, hP.2.2]; rfl⟩, fun j hj => absurd hj (by omega), fun _ _ _ _ _ => rfl⟩) ?_ ?_
    · intro k s hk hI K
      obtain ⟨j1, j2, j3, j4⟩ := hI
      obtain ⟨g1, g2⟩ := hgp k (by omega)
      obtain ⟨g3, g4⟩ := hgp (k + 1) (by omega)
      have hfld : ∀ j, j = 8 ∨ j = 11 ∨ j = 14 → s.1 32 j = w.1 32 j := fun j hj => by
        rcases hj with e | e | e <;> subst e
        · rw [xkq_at j1 32 8, xkq_at i1 32 8]
        · rw [xkq_at j1 32 11, xkq_at i1 32 11]
        · rw [xkq_at j1 32 14, xkq_at i1 32 14]
      refine xQ.go 4 (F1 := (bif decide ((s.1 32 14) ≤ (nI (k + 1))) then 203 else 119, [some (.ref 32), some (.int (nI u)), some (.int (nI z)), some (.int (mk (fun v => decide (v ∈ ws)))), some (.int (nI u)), some (.int (mk (fun v => decide (v ∈ p.take (k + 1))))), some (.int (nI (k + 1))), none, none], [], s)) rfl ?_
      refine xQ.brF (by rw [hfld 14 (by omega), hp1]; exact decide_eq_false (nI_ge (by omega) (by omega))) ?_
      refine xQ.go 5 (F1 := (127, [some (.ref 32), some (.int (nI u)), some (.int (nI z)), some (.int (mk (fun v => decide (v ∈ ws)))), some (.int (nI u)), some (.int (mk (fun v => decide (v ∈ p.take (k + 1))))), some (.int (nI (k + 1))), none, none], [.int ((nI (k + 1)) - 1), .ref 37], s)) rfl ?_
      rw [show nI (k + 1) - 1 = nI k from jI_sub (b := 1) (by omega)]
      refine xQ.call rfl (c_at rfl (by omega) (by omega)) ?_
      show xQ MX1_splitFace (130, [some (.ref 32), some (.int (nI u)), some (.int (nI z)), some (.int (mk (fun v => decide (v ∈ ws)))), some (.int (nI u)), some (.int (mk (fun v => decide (v ∈ p.take (k + 1))))), some (.int (nI (k + 1))), none, none], [.int (s.1 37 k)], s) _
      rw [xkq_at j1 37 k, xkq_at i1 37 k, hpr k (by omega)]
      refine xQ.go 4 (F1 := (138, [some (.ref 32), some (.int (nI u)), some (.int (nI z)), some (.int (mk (fun v => decide (v ∈ ws)))), some (.int (nI u)), some (.int (mk (fun v => decide (v ∈ p.take (k + 1))))), some (.int (nI (k + 1))), some (.int (nI (p.getD k 0))), none], [.int (nI (k + 1)), .ref 37], s)) rfl ?_
      refine xQ.call rfl (c_at rfl (by omega) (by omega)) ?_
      show xQ MX1_splitFace (141, [some (.ref 32), some (.int (nI u)), some (.int (nI z)), some (.int (mk (fun v => decide (v ∈ ws)))), some (.int (nI u)), some (.int (mk (fun v => decide (v ∈ p.take (k + 1))))), some (.int (nI (k + 1))), some (.int (nI (p.getD k 0))), none], [.int (s.1 37 (k + 1))], s) _
      rw [xkq_at j1 37 (k + 1), xkq_at i1 37 (k + 1), hpr (k + 1) (by omega)]
      refine xQ.go 6 (F1 := (153, [some (.ref 32), some (.int (nI u)), some (.int (nI z)), some (.int (mk (fun v => decide (v ∈ ws)))), some (.int (nI u)), some (.int (mk (fun v => decide (v ∈ p.take (k + 1))))), some (.int (nI (k + 1))), some (.int (nI (p.getD k 0))), some (.int (nI (p.getD (k + 1) 0)))], [.int (nI (p.getD k 0)), .int (s.1 32 8), .ref 36], s)) rfl ?_
      rw [hfld 8 (by omega), hF.1]
      refine xQ.call rfl (c_cell) ?_
      show xQ MX1_splitFace (156, [some (.ref 32), some (.int (nI u)), some (.int (nI z)), some (.int (mk (fun v => decide (v ∈ ws)))), some (.int (nI u)), some (.int (mk (fun v => decide (v ∈ p.take (k + 1))))), some (.int (nI (k + 1))), some (.int (nI (p.getD k 0))), some (.int (nI (p.getD (k + 1) 0)))], [.int (nI (10 * L.length + p.getD k 0)), .ref 36], s) _
      refine xQ.go 1 (F1 := (158, [some (.ref 32), some (.int (nI u)), some (.int (nI z)), some (.int (mk (fun v => decide (v ∈ ws)))), some (.int (nI u)), some (.int (mk (fun v => decide (v ∈ p.take (k + 1))))), some (.int (nI (k + 1))), some (.int (nI (p.getD k 0))), some (.int (nI (p.getD (k + 1) 0)))], [.int (nI (p.getD (k + 1) 0)), .int (nI (10 * L.length + p.getD k 0)), .ref 36], s)) rfl ?_
      refine xQ.call rfl (c_put rfl (by omega) (by omega)) ?_
      show xQ MX1_splitFace (161, [some (.ref 32), some (.int (nI u)), some (.int (nI z)), some (.int (mk (fun v => decide (v ∈ ws)))), some (.int (nI u)), some (.int (mk (fun v => decide (v ∈ p.take (k + 1))))), some (.int (nI (k + 1))), some (.int (nI (p.getD k 0))), some (.int (nI (p.getD (k + 1) 0)))], [], (xuI s 36 (10 * L.length + p.getD k 0) (nI (p.getD (k + 1) 0)))) _
      refine xQ.go 4 (F1 := (169, [some (.ref 32), some (.int (nI u)), some (.int (nI z)), some (.int (mk (fun v => decide (v ∈ ws)))), some (.int (nI u)), some (.int (mk (fun v => decide (v ∈ p.take (k + 1))))), some (.int (nI (k + 1))), some (.int (nI (p.getD k 0))), some (.int (nI (p.getD (k + 1) 0)))], [.int ((xuI s 36 (10 * L.length + p.getD k 0) (nI (p.getD (k + 1) 0))).1 32 11), .ref 36], (xuI s 36 (10 * L.length + p.getD k 0) (nI (p.getD (k + 1) 0))))) rfl ?_
      rw [show (xuI s 36 (10 * L.length + p.getD k 0) (nI (p.getD (k + 1) 0))).1 32 11 = nI cf by rw [uI1, if_neg (by omega), hfld 11 (by omega), hf]]
      refine xQ.go 1 (F1 := (171, [some (.ref 32), some (.int (nI u)), some (.int (nI z)), some (.int (mk (fun v => decide (v ∈ ws)))), some (.int (nI u)), some (.int (mk (fun v => decide (v ∈ p.take (k + 1))))), some (.int (nI (k + 1))), some (.int (nI (p.getD k 0))), some (.int (nI (p.getD (k + 1) 0)))], [.int (nI (p.getD (k + 1) 0)), .int (nI cf), .ref 36], (xuI s 36 (10 * L.length + p.getD k 0) (nI (p.getD (k + 1) 0))))) rfl ?_
      refine xQ.call rfl (c_cell) ?_
      show xQ MX1_splitFace (174, [some (.ref 32), some (.int (nI u)), some (.int (nI z)), some (.int (mk (fun v => decide (v ∈ ws)))), some (.int (nI u)), some (.int (mk (fun v => decide (v ∈ p.take (k + 1))))), some (.int (nI (k + 1))), some (.int (nI (p.getD k 0))), some (.int (nI (p.getD (k + 1) 0)))], [.int (nI (10 * cf + p.getD (k + 1) 0)), .ref 36], (xuI s 36 (10 * L.length + p.getD k 0) (nI (p.getD (k + 1) 0)))) _
      refine xQ.go 1 (F1 := (176, [some (.ref 32), some (.int (nI u)), some (.int (nI z)), some (.int (mk (fun v => decide (v ∈ ws)))), some (.int (nI u)), some (.int (mk (fun v => decide (v ∈ p.take (k + 1))))), some (.int (nI (k + 1))), some (.int (nI (p.getD k 0))), some (.int (nI (p.getD (k + 1) 0)))], [.int (nI (p.getD k 0)), .int (nI (10 * cf + p.getD (k + 1) 0)), .ref 36], (xuI s 36 (10 * L.length + p.getD k 0) (nI (p.getD (k + 1) 0))))) rfl ?_
      refine xQ.call rfl (c_put rfl (by omega) (by omega)) ?_
      show xQ MX1_splitFace (179, [some (.ref 32), some (.int (nI u)), some (.int (nI z)), some (.int (mk (fun v => decide (v ∈ ws)))), some (.int (nI u)), some (.int (mk (fun v => decide (v ∈ p.take (k + 1))))), some (.int (nI (k + 1))), some (.int (nI (p.getD k 0))), some (.int (nI (p.getD (k + 1) 0)))], [], (xuI (xuI s 36 (10 * L.length + p.getD k 0) (nI (p.getD (k + 1) 0))) 36 (10 * cf + p.getD (k + 1) 0) (nI (p.getD k 0)))) _
      refine xQ.go 2 (F1 := (183, [some (.ref 32), some (.int (nI u)), some (.int (nI z)), some (.int (mk (fun v => decide (v ∈ ws)))), some (.int (nI u)), some (.int (mk (fun v => decide (v ∈ p.take (k + 1))))), some (.int (nI (k + 1))), some (.int (nI (p.getD k 0))), some (.int (nI (p.getD (k + 1) 0)))], [.int (nI (p.getD (k + 1) 0)), .int (mk (fun v => decide (v ∈ p.take (k + 1))))], (xuI (xuI s 36 (10 * L.length + p.getD k 0) (nI (p.getD (k + 1) 0))) 36 (10 * cf + p.getD (k + 1) 0) (nI (p.getD k 0))))) rfl ?_
      refine xQ.call rfl (c_bit g4) ?_
      show xQ MX1_splitFace (186, [some (.ref 32), some (.int (nI u)), some (.int (nI z)), some (.int (mk (fun v => decide (v ∈ ws)))), some (.int (nI u)), some (.int (mk (fun v => decide (v ∈ p.take (k + 1))))), some (.int (nI (k + 1))), some (.int (nI (p.getD k 0))), some (.int (nI (p.getD (k + 1) 0)))], [.int (mk (fun v => decide (v = p.getD (k + 1) 0))), .int (mk (fun v => decide (v ∈ p.take (k + 1))))], (xuI (xuI s 36 (10 * L.length + p.getD k 0) (nI (p.getD (k + 1) 0))) 36 (10 * cf + p.getD (k + 1) 0) (nI (p.getD k 0)))) _
      refine xQ.go 1 (F1 := (187, [some (.ref 32), some (.int (nI u)), some (.int (nI z)), some (.int (mk (fun v => decide (v ∈ ws)))), some (.int (nI u)), some (.int (mk (fun v => decide (v ∈ p.take (k + 1))))), some (.int (nI (k + 1))), some (.int (nI (p.getD k 0))), some (.int (nI (p.getD (k + 1) 0)))], [.int ((mk (fun v => decide (v ∈ p.take (k + 1)))) ||| (mk (fun v => decide (v = p.getD (k + 1) 0))))], (xuI (xuI s 36 (10 * L.length + p.getD k 0) (nI (p.getD (k + 1) 0))) 36 (10 * cf + p.getD (k + 1) 0) (nI (p.getD k 0))))) rfl ?_
      rw [mk_or, show mk (fun v => decide (v ∈ p.take (k + 1)) || decide (v = p.getD (k + 1) 0)) = mk (fun v => decide (v ∈ p.take (k + 1 + 1))) from mk_ext fun v _ => by
        apply Bool.eq_iff_iff.mpr
        simp only [Bool.or_eq_true, decide_eq_true_iff]
        exact (mem_take1 (by omega)).symm]
      obtain ⟨s2, hs2⟩ : ∃ s2, s2 = (xuI (xuI s 36 (10 * L.length + p.getD k 0) (nI (p.getD (k + 1) 0))) 36 (10 * cf + p.getD (k + 1) 0) (nI (p.getD k 0))) := ⟨_, rfl⟩
      have hk2 : xkq [(36, none)] s s2 := by rw [hs2]; exact xkq_I (xkq_I xkq_rfl rfl) rfl
      have hr1 : s2.1 36 (10 * L.length + p.getD k 0) = nI (p.getD (k + 1) 0) := by
        rw [hs2, uI1, if_neg (by omega), uI1, if_pos ⟨rfl, rfl⟩]
      have hr2 : s2.1 36 (10 * cf + p.getD (k + 1) 0) = nI (p.getD k 0) := by
        rw [hs2, uI1, if_pos ⟨rfl, rfl⟩]
      have hr3 : ∀ i x, x < 10 → ¬ (i = L.length ∧ x = p.getD k 0) → ¬ (i = cf ∧ x = p.getD (k + 1) 0) → s2.1 36 (10 * i + x) = s.1 36 (10 * i + x) := fun i x hx n1 n2 => by
        rw [hs2, uI1, if_neg (by omega), uI1, if_neg (by omega)]
      rw [← hs2]
      have hP2 : eP 32 34 s2 (addP P (p.take (k + 1))) (addV PV (p.take (k + 1))) (E + k) := ⟨fun v hv => by rw [xkq_at hk2 34 v]; exact j2.1 v hv, by rw [xkq_at hk2 32 3]; exact j2.2.1, by rw [xkq_at hk2 32 5]; exact j2.2.2⟩
      obtain ⟨r3, s3, hc, hr, hP3, hk3⟩ := c_placeEdge_t hP2 g2 g4
      subst hr
      refine xQ.go 4 (F1 := (194, [some (.ref 32), some (.int (nI u)), some (.int (nI z)), some (.int (mk (fun v => decide (v ∈ ws)))), some (.int (nI u)), some (.int (mk (fun v => decide (v ∈ p.take (k + 1 + 1))))), some (.int (nI (k + 1))), some (.int (nI (p.getD k 0))), some (.int (nI (p.getD (k + 1) 0)))], [.int (nI (p.getD (k + 1) 0)), .int (nI (p.getD k 0)), .ref 32], s2)) rfl ?_
      refine xQ.call rfl (hc) ?_
      show xQ MX1_splitFace (197, [some (.ref 32), some (.int (nI u)), some (.int (nI z)), some (.int (mk (fun v => decide (v ∈ ws)))), some (.int (nI u)), some (.int (mk (fun v => decide (v ∈ p.take (k + 1 + 1))))), some (.int (nI (k + 1))), some (.int (nI (p.getD k 0))), some (.int (nI (p.getD (k + 1) 0)))], [], s3) _
      refine xQ.less [some (.ref 32), some (.int (nI u)), some (.int (nI z)), some (.int (mk (fun v => decide (v ∈ ws)))), some (.int (nI u)), some (.int (mk (fun v => decide (v ∈ p.take (k + 1 + 1))))), some (.int (nI (k + 1))), none, none] (by simp [xleb]) ?_
      refine xQ.go 2 (F1 := (110, [some (.ref 32), some (.int (nI u)), some (.int (nI z)), some (.int (mk (fun v => decide (v ∈ ws)))), some (.int (nI u)), some (.int (mk (fun v => decide (v ∈ p.take (k + 1 + 1))))), some (.int ((nI (k + 1)) + 1)), none, none], [], s3)) rfl ?_
      rw [← nI_succ]
      have hpj : ∀ i j, i < p.length → j < p.length → p.getD i 0 = p.getD j 0 → i = j := fun i j hi hj e => nodup_ix hpn (get_D hi) (by rw [get_D hj, e])
      refine K s3 ⟨xkq_trans (xkq_trans j1 (xkq_mono rfl hk2)) (xkq_mono rfl hk3), ⟨fun v hv => ?_, ?_, hP3.2.2⟩, fun j hj => ?_, fun i x hx n1 n2 => ?_⟩
      · rw [hP3.1 v hv]
        refine mk_ext fun x _ => Bool.eq_iff_iff.mpr ?_
        rw [addP_iff]
        show (addP P (p.take (k + 1)) v x || ab _ _ v x) = true ↔ _
        rw [Bool.or_eq_true, addP_iff, ab_iff, pd_take (by omega), pd_take (by omega)]
        simp only [Prod.mk.injEq]
        constructor
        · rintro ((h | h | h) | h | h)
          · exact Or.inl h
          · exact Or.inr (Or.inl (Or.inl h))
          · exact Or.inr (Or.inr (Or.inl h))
          · exact Or.inr (Or.inl (Or.inr h))
          · exact Or.inr (Or.inr (Or.inr ⟨h.2, h.1⟩))
        · rintro (h | (h | h) | h | h)
          · exact Or.inl (Or.inl h)
          · exact Or.inl (Or.inr (Or.inl h))
          · exact Or.inr (Or.inl h)
          · exact Or.inl (Or.inr (Or.inr h))
          · exact Or.inr (Or.inr ⟨h.2, h.1⟩)
      · rw [hP3.2.1]
        refine mk_ext fun x _ => Bool.eq_iff_iff.mpr ?_
        rw [addV_iff, mem_take1 (by omega)]
        show (addV PV (p.take (k + 1)) x || (decide (x = _) || decide (x = _))) = true ↔ _
        simp only [Bool.or_eq_true, decide_eq_true_iff, addV_iff]
        have hm : p.getD k 0 ∈ p.take (k + 1) := (mem_take1 (by omega)).mpr (Or.inr rfl)
        constructor
        · rintro ((h | h) | h | h)
          · exact Or.inl h
          · exact Or.inr (Or.inl h)
          · rw [h]; exact Or.inr (Or.inl hm)
          · exact Or.inr (Or.inr h)
        · rintro (h | h | h)
          · exact Or.inl (Or.inl h)
          · exact Or.inl (Or.inr h)
          · exact Or.inr (Or.inr h)
      · rw [xkq_at hk3 36 _, xkq_at hk3 36 _]
        by_cases e : j = k
        · rw [e]
          exact ⟨hr1, hr2⟩
        · obtain ⟨q1, q2⟩ := j3 j (by omega)
          have := (hgp j (by omega)).2
          have := (hgp (j + 1) (by omega)).2
          refine ⟨?_, ?_⟩
          · rw [hr3 _ _ (by omega) (fun h => e (hpj _ _ (by omega) (by omega) h.2)) (fun h => hne h.1)]
            exact q1
          · rw [hr3 _ _ (by omega) (fun h => hne h.1.symm) (fun h => e (by have := hpj _ _ (by omega) (by omega) h.2; omega))]
            exact q2
      · rw [xkq_at hk3 36 _, hr3 i x hx (fun h => n1 h.1 k (by omega) h.2) (fun h => n2 h.1 k (by omega) h.2)]
        exact j4 i x hx (fun h j hj => n1 h j (by omega)) (fun h j hj => n2 h j (by omega))
    · intro w2 hI
      obtain ⟨j1, j2, j3, j4⟩ := hI
      rw [show p.take (inn.length + 1 + 1) = p from List.take_of_length_le (by omega)] at *
      have k14 : w2.1 32 14 = nI (inn.length + 2) := by rw [xkq_at j1 32 14, xkq_at i1 32 14, hp1]
      have k11 : w2.1 32 11 = nI cf := by rw [xkq_at j1 32 11, xkq_at i1 32 11, hf]
      have k8 : w2.1 32 8 = nI L.length := by rw [xkq_at j1 32 8, xkq_at i1 32 8, hF.1]
      have k21 : ∀ j, w2.1 35 j = w.1 35 j := fun j => by rw [xkq_at j1 35 j, xkq_at i1 35 j]
      refine xQ.go 4 (F1 := (bif decide ((w2.1 32 14) ≤ (nI (inn.length + 1 + 1))) then 203 else 119, [some (.ref 32), some (.int (nI u)), some (.int (nI z)), some (.int (mk (fun v => decide (v ∈ ws)))), some (.int (nI u)), some (.int (mk (fun v => decide (v ∈ p)))), some (.int (nI (inn.length + 1 + 1))), none, none], [], w2)) rfl ?_
      refine xQ.brT (by rw [k14]; exact decide_eq_true (Int32.le_refl _)) ?_
      refine xQ.go 8 (F1 := (219, [some (.ref 32), some (.int (nI u)), some (.int (nI z)), some (.int (mk (fun v => decide (v ∈ ws)))), some (.int (nI u)), some (.int (mk (fun v => decide (v ∈ p)))), some (.int (nI (inn.length + 1 + 1))), none, none], [.int (w2.1 32 11), .ref 35, .int (w2.1 32 11), .ref 35], w2)) rfl ?_
      rw [k11]
      refine xQ.call rfl (c_at rfl (by omega) (by omega)) ?_
      show xQ MX1_splitFace (222, [some (.ref 32), some (.int (nI u)), some (.int (nI z)), some (.int (mk (fun v => decide (v ∈ ws)))), some (.int (nI u)), some (.int (mk (fun v => decide (v ∈ p)))), some (.int (nI (inn.length + 1 + 1))), none, none], [.int (w2.1 35 cf), .int (nI cf), .ref 35], w2) _
      rw [k21, (hF.2 cf F hcf).1]
      refine xQ.go 6 (F1 := (229, [some (.ref 32), some (.int (nI u)), some (.int (nI z)), some (.int (mk (fun v => decide (v ∈ ws)))), some (.int (nI u)), some (.int (mk (fun v => decide (v ∈ p)))), some (.int (nI (inn.length + 1 + 1))), none, none], [.int (((mk (fun v => decide (v ∈ F))) &&& ((mk (fun v => decide (v ∈ ws))) ^^^ (-1))) ||| (mk (fun v => decide (v ∈ p)))), .int (nI cf), .ref 35], w2)) rfl ?_
      rw [mk_andn, mk_or]
      refine xQ.call rfl (c_put rfl (by omega) (by omega)) ?_
      show xQ MX1_splitFace (232, [some (.ref 32), some (.int (nI u)), some (.int (nI z)), some (.int (mk (fun v => decide (v ∈ ws)))), some (.int (nI u)), some (.int (mk (fun v => decide (v ∈ p)))), some (.int (nI (inn.length + 1 + 1))), none, none], [], (xuI w2 35 cf (mk (fun v => decide (v ∈ F) && !decide (v ∈ ws) || decide (v ∈ p))))) _
      refine xQ.go 7 (F1 := (244, [some (.ref 32), some (.int (nI u)), some (.int (nI z)), some (.int (mk (fun v => decide (v ∈ ws)))), some (.int (nI u)), some (.int (mk (fun v => decide (v ∈ p)))), some (.int (nI (inn.length + 1 + 1))), none, none], [.int ((mk (fun v => decide (v ∈ ws))) ||| (mk (fun v => decide (v ∈ p)))), .int ((xuI w2 35 cf (mk (fun v => decide (v ∈ F) && !decide (v ∈ ws) || decide (v ∈ p)))).1 32 8), .ref 35], (xuI w2 35 cf (mk (fun v => decide (v ∈ F) && !decide (v ∈ ws) || decide (v ∈ p)))))) rfl ?_
      rw [show (xuI w2 35 cf (mk (fun v => decide (v ∈ F) && !decide (v ∈ ws) || decide (v ∈ p)))).1 32 8 = nI L.length by rw [uI1, if_neg (by omega), k8], mk_or]
      refine xQ.call rfl (c_put rfl (by omega) (by omega)) ?_
      show xQ MX1_splitFace (247, [some (.ref 32), some (.int (nI u)), some (.int (nI z)), some (.int (mk (fun v => decide (v ∈ ws)))), some (.int (nI u)), some (.int (mk (fun v => decide (v ∈ p)))), some (.int (nI (inn.length + 1 + 1))), none, none], [], (xuI (xuI w2 35 cf (mk (fun v => decide (v ∈ F) && !decide (v ∈ ws) || decide (v ∈ p)))) 35 L.length (mk (fun v => decide (v ∈ ws) || decide (v ∈ p))))) _
      refine xQ.go 6 (F1 := (257, [some (.ref 32), some (.int (nI u)), some (.int (nI z)), some (.int (mk (fun v => decide (v ∈ ws)))), some (.int (nI u)), some (.int (mk (fun v => decide (v ∈ p)))), some (.int (nI (inn.length + 1 + 1))), none, none], [], (xuI (xuI (xuI w2 35 cf (mk (fun v => decide (v ∈ F) && !decide (v ∈ ws) || decide (v ∈ p)))) 35 L.length (mk (fun v => decide (v ∈ ws) || decide (v ∈ p)))) 32 8 (((xuI (xuI w2 35 cf (mk (fun v => decide (v ∈ F) && !decide (v ∈ ws) || decide (v ∈ p)))) 35 L.length (mk (fun v => decide (v ∈ ws) || decide (v ∈ p)))).1 32 8) + 1)))) rfl ?_
      refine xQ.vret 1 rfl rfl ?_
      have hpm : ∀ v, v ∈ p ↔ v = u ∨ v ∈ inn ∨ v = z := fun v => by rw [hpp]; simp
      have hwm : ∀ v, v ∈ ws ↔ v = z ∨ v ∈ ys ∨ v = u := fun v => by rw [hws]; simp
      have hFm2 : ∀ v, v ∈ F ↔ v = u ∨ v ∈ xs ∨ v = z ∨ v ∈ ys := fun v => by rw [hFm]; simp
      refine ⟨rfl, ⟨fun v hv => ?_, ?_, ?_⟩, ⟨?_, fun i f hi => ?_⟩, ?_⟩
      · simp only [uI1]
        simp
        exact j2.1 v hv
      · simp only [uI1]
        simp
        exact j2.2.1
      · simp only [uI1]
        simp
        exact j2.2.2
      · simp only [uI1]
        simp [k8, nI_succ]
      · have hset : i < L.length + 1 := by
          have := (List.getElem?_eq_some_iff.mp hi).1
          simpa using this
        have hfol : ∀ x, (xuI (xuI (xuI w2 35 cf (mk (fun v => decide (v ∈ F) && !decide (v ∈ ws) || decide (v ∈ p)))) 35 L.length (mk (fun v => decide (v ∈ ws) || decide (v ∈ p)))) 32 8 ((xuI (xuI w2 35 cf (mk (fun v => decide (v ∈ F) && !decide (v ∈ ws) || decide (v ∈ p)))) 35 L.length (mk (fun v => decide (v ∈ ws) || decide (v ∈ p)))).1 32 8 + 1)).1 36 (10 * i + x) = w2.1 36 (10 * i + x) := fun x => by
          simp only [uI1]
          simp
        have hpd : ∀ x y, (x, y) ∈ pd p → ∃ j, j < inn.length + 1 ∧ x = p.getD j 0 ∧ y = p.getD (j + 1) 0 := fun x y h => by
          obtain ⟨j, h1, h2⟩ := pd_ex h
          have hj := (List.getElem?_eq_some_iff.mp h2).1
          refine ⟨j, by omega, ?_, ?_⟩
          · rw [get_D (by omega)] at h1
            exact (Option.some.inj h1).symm
          · rw [get_D hj] at h2
            exact (Option.some.inj h2).symm
        have hpdw : ∀ x y, (x, y) ∈ pd ws → ∃ j, j < ys.length + 1 ∧ x = ws.getD j 0 ∧ y = ws.getD (j + 1) 0 := fun x y h => by
          obtain ⟨j, h1, h2⟩ := pd_ex h
          have hj := (List.getElem?_eq_some_iff.mp h2).1
          refine ⟨j, by omega, ?_, ?_⟩
          · rw [get_D (by omega)] at h1
            exact (Option.some.inj h1).symm
          · rw [get_D hj] at h2
            exact (Option.some.inj h2).symm
        have hpu : ∀ j, j < inn.length + 1 → p.getD j 0 ∈ u :: inn := fun j hj => by
          have h1 := (hgp j (by omega)).1
          rcases (hpm _).mp h1 with e | e | e
          · rw [e]; simp
          · exact List.mem_cons_of_mem _ e
          · exfalso
            have := nodup_ix hpn (get_D (k := j) (by omega)) (by rw [get_D (k := inn.length + 1) (by omega), hpe, e])
            omega
        have hpz : ∀ j, j < inn.length + 1 → p.getD (j + 1) 0 ∈ z :: inn := fun j hj => by
          have h1 := (hgp (j + 1) (by omega)).1
          rcases (hpm _).mp h1 with e | e | e
          · exfalso
            have := nodup_ix hpn (get_D (k := j + 1) (by omega)) (by rw [get_D (k := 0) (by omega), hp0, e])
            omega
          · exact List.mem_cons_of_mem _ e
          · rw [e]; simp
        have hzy2 : ∀ j, j < ys.length + 1 → ws.getD j 0 ∈ z :: ys := fun j hj => by
          have h1 := (hgw j (by omega)).1
          rcases (hwm _).mp h1 with e | e | e
          · rw [e]; simp
          · exact List.mem_cons_of_mem _ e
          · exfalso
            have := nodup_ix hwn (get_D (k := j) (by omega)) (by rw [get_D (k := ys.length + 1) (by omega), hwe, e])
            omega
        by_cases e1 : i = L.length
        · have hfe : f = z :: ys ++ u :: inn := by
            rw [List.getElem?_append_right (by simp [e1]), e1] at hi
            simp at hi
            rw [← hi]
            simp
          refine ⟨?_, fun x y hxy => ?_⟩
          · simp only [uI1]
            rw [if_neg (by omega), if_pos ⟨trivial, e1⟩]
            refine mk_ext fun v _ => Bool.eq_iff_iff.mpr ?_
            simp only [Bool.or_eq_true, decide_eq_true_iff, hwm, hpm, hfe, List.mem_append, List.mem_cons]
            constructor
            · rintro ((h | h | h) | h | h | h) <;> simp [h]
            · rintro ((h | h) | h | h) <;> simp [h]
          · rw [hfol]
            rw [hfe, dts_two, ← hws, ← hpp] at hxy
            rcases List.mem_append.mp hxy with h | h
            · obtain ⟨j, hj, rfl, rfl⟩ := hpdw x y h
              have hm := hzy2 j hj
              rw [j4 i _ (hgw j (by omega)).2 (fun _ j2 hj2 e => ?_) (fun h => absurd (e1.symm.trans h) hne), e1]
              · exact i2 j hj
              · have hm2 := hpu j2 hj2
                rw [← e] at hm2
                rcases List.mem_cons.mp hm2 with e3 | e3
                · exact hdis u (by simp) _ hm e3.symm
                · exact (hi10 _ e3).2 (List.mem_append_right _ hm)
            · obtain ⟨j, hj, rfl, rfl⟩ := hpd x y h
              rw [e1]
              exact (j3 j hj).1
        · have hi2 : (L.set cf (u :: xs ++ z :: inn.reverse))[i]? = some f := by
            rw [List.getElem?_append_left (by simp; omega)] at hi
            exact hi
          by_cases e2 : i = cf
          · have hfe : f = u :: xs ++ z :: inn.reverse := by
              rw [e2, List.getElem?_set_self hcl] at hi2
              exact (Option.some.inj hi2).symm
            refine ⟨?_, fun x y hxy => ?_⟩
            · simp only [uI1]
              rw [if_neg (by omega), if_neg (by omega), if_pos ⟨trivial, e2⟩]
              refine mk_ext fun v _ => Bool.eq_iff_iff.mpr ?_
              simp only [Bool.or_eq_true, Bool.and_eq_true, Bool.not_eq_true', decide_eq_true_iff, decide_eq_false_iff_not, hwm, hpm, hFm2, hfe, List.mem_append, List.mem_cons, List.mem_reverse]
              constructor
              · rintro (⟨h, h2⟩ | h | h | h)
                · rcases h with h | h | h | h
                  · exact absurd (Or.inr (Or.inr h)) h2
                  · exact Or.inl (Or.inr h)
                  · exact absurd (Or.inl h) h2
                  · exact absurd (Or.inr (Or.inl h)) h2
                · exact Or.inl (Or.inl h)
                · exact Or.inr (Or.inr h)
                · exact Or.inr (Or.inl h)
              · rintro ((h | h) | h | h)
                · exact Or.inr (Or.inl h)
                · refine Or.inl ⟨Or.inr (Or.inl h), ?_⟩
                  rintro (h2 | h2 | h2)
                  · exact hdis v (List.mem_cons_of_mem _ h) z (by simp) h2
                  · exact hdis v (List.mem_cons_of_mem _ h) v (List.mem_cons_of_mem _ h2) rfl
                  · rw [h2] at h
                    exact (List.nodup_cons.mp hux).1 h
                · exact Or.inr (Or.inr (Or.inr h))
                · exact Or.inr (Or.inr (Or.inl h))
            · rw [hfol]
              rw [hfe, dts_two] at hxy
              rcases List.mem_append.mp hxy with h | h
              · have hxu : x ∈ u :: xs := by
                  obtain ⟨j, h1, h2⟩ := pd_ex h
                  have hj := (List.getElem?_eq_some_iff.mp h2).1
                  rw [List.getElem?_append_left (by simp at hj ⊢; omega)] at h1
                  exact List.mem_of_getElem? h1
                have hx10 := h10 x (List.mem_append_left _ hxu)
                rw [j4 i x hx10 (fun h => absurd h e1) (fun _ j2 hj2 e => ?_), i3 i x hx10 e1, e2]
                · exact (hF.2 cf F hcf).2 x y ((hFd _).mpr (by rw [dts_two]; exact List.mem_append_left _ h))
                · have hm2 := hpz j2 hj2
                  rw [← e] at hm2
                  rcases List.mem_cons.mp hm2 with e3 | e3
                  · exact hdis x hxu z (by simp) e3
                  · exact (hi10 _ e3).2 (List.mem_append_left _ hxu)
              · have h2 : (y, x) ∈ pd p := by
                  rw [hpp]
                  have e : (u :: inn ++ [z]).reverse = z :: inn.reverse ++ [u] := by simp
                  exact (pd_rev _ (x, y)).mp (by rw [e]; exact h)
                obtain ⟨j, hj, rfl, rfl⟩ := hpd y x h2
                rw [e2]
                exact (j3 j hj).2
          · rw [List.getElem?_set_ne (fun e => e2 e.symm)] at hi2
            refine ⟨?_, fun x y hxy => ?_⟩
            · simp only [uI1]
              rw [if_neg (by omega), if_neg (by omega), if_neg (by omega), k21]
              exact (hF.2 i f hi2).1
            · rw [hfol]
              have hx10 := hL10 f (List.mem_of_getElem? hi2) x (dts_mem hxy).1
              rw [j4 i x hx10 (fun h => absurd h e1) (fun h => absurd h e2), i3 i x hx10 e1]
              exact (hF.2 i f hi2).2 x y hxy
      · exact xkq_I (xkq_I (xkq_I (xkq_trans (xkq_mono rfl i1) (xkq_mono rfl j1)) rfl) rfl) rfl
