/-! the reference: layPath -/
def lM (w : xW) (p : List Nat) : Prop := w.1 45 29 = nI p.length ∧ ∀ (i x : Nat), p[i]? = some x → w.1 61 i = nI x
theorem m_addP {w : xW} {p : List Nat} {x : Nat} (hp : lM w p) (hl : p.length < 12) : xD MX8_addToPath [.ref 45, .int (nI x)] w (fun r w1 => r = none ∧ lM w1 (p ++ [x]) ∧ xkq [(45, some 29), (61, none)] w w1) := by
  refine xD.of ?_
  show xQ MX8_addToPath (0, [some (.ref 45), some (.int (nI x))], [], w) _
  refine xQ.go 5 (F1 := (9, [some (.ref 45), some (.int (nI x))], [.int (nI x), .int (w.1 45 29), .ref 61], w)) rfl ?_
  refine xQ.iast rfl (k := p.length) (hp.1) (⟨by omega, by omega⟩) rfl ?_
  show xQ MX8_addToPath (10, [some (.ref 45), some (.int (nI x))], [], (xuI w 61 p.length (nI x))) _
  refine xQ.go 5 (F1 := (17, [some (.ref 45), some (.int (nI x))], [.int ((w.1 45 29) + 1), .ref 45], (xuI w 61 p.length (nI x)))) rfl ?_
  rw [hp.1, ← nI_succ]
  refine xQ.go 1 (F1 := (20, [some (.ref 45), some (.int (nI x))], [], (xuI (xuI w 61 p.length (nI x)) 45 29 (nI (p.length + 1))))) rfl ?_
  refine xQ.vret 1 rfl rfl ?_
  refine ⟨rfl, ⟨by rw [uI1, if_pos ⟨rfl, rfl⟩, List.length_append]; rfl, fun i y hi => ?_⟩, xkq_I (xkq_I xkq_rfl rfl) rfl⟩
  by_cases e : i = p.length
  · subst e
    have : (p ++ [x])[p.length]? = some x := by simp
    rw [this] at hi
    cases hi
    simp [uI1]
  · have hlt := (List.getElem?_eq_some_iff.mp hi).1
    rw [List.length_append] at hlt
    simp only [List.length_cons, List.length_nil] at hlt
    rw [List.getElem?_append_left (by omega)] at hi
    have := hp.2 i y hi
    simpa [uI1, e] using this
theorem mk_drop {S : Nat → Bool} {u : Nat} (hu : S u = true) : mk S ^^^ mk (fun v => decide (v = u)) = mk (fun v => S v && !decide (v = u)) := by
  rw [mk_xor]
  refine mk_ext fun v _ => ?_
  by_cases e : v = u
  · rw [e]; simp [hu]
  · simp [e]
/-- the set in which the reference looks for the next vertex -/
def stf (H : Nat → Nat → Bool) (D T : Nat → Bool) (f : Nat) (P : List Nat) (i : Nat) : Nat → Bool := if i = f then fun z => H (P.getD i 0) z && T z else fun z => H (P.getD i 0) z && D z
theorem m_layPath {w : xW} {H P : Nat → Nat → Bool} {S PV : Nat → Bool} {q : xFr} {u z : Nat} {inn : List Nat} {l : List xFr} {i : Nat} (hb : BIC H S) (hH : iB w H) (hl : gF w l) (hi : l[i]? = some q) (h45 : l.length ≤ 45) (hq : FOK H S P PV q) (hp : PTH H S P PV q u inn z) : xD MX8_layPath [.ref 45, .int (nI i)] w (fun r w1 => r = none ∧ lM w1 (pth H q) ∧ xkq [(45, some 29), (61, none), (62, none)] w w1) := by
  have hil := (List.getElem?_eq_some_iff.mp hi).1
  obtain ⟨g1, g2⟩ := hl.2 i q hi
  obtain ⟨m1, m2⟩ := FOK_mk hq
  have hlen8 := PTH_len hq hp
  obtain ⟨p1, p2, hu10, hz10, huz, hcu, hcz, _, _, _, p3, p4⟩ := hp
  obtain ⟨T, hT⟩ : ∃ T : Nat → Bool, T = fun v => tb q.2 v && !decide (v = u) := ⟨_, rfl⟩
  have hTz : T z = true := by rw [hT]; simp only [hcz, decide_eq_false (fun e : z = u => huz e.symm)]; rfl
  have hlowT : low T < 10 := (low_some hz10 hTz).1
  refine xD.of ?_
  show xQ MX8_layPath (0, [some (.ref 45), some (.int (nI i)), none, none, none, none, none, none, none], [], w) _
  refine xQ.go 3 (F1 := (5, [some (.ref 45), some (.int (nI i)), none, none, none, none, none, none, none], [.int (nI i), .ref 59], w)) rfl ?_
  refine xQ.iald rfl (k := i) (rfl) (⟨by omega, by omega⟩) rfl ?_
  show xQ MX8_layPath (6, [some (.ref 45), some (.int (nI i)), none, none, none, none, none, none, none], [.int (w.1 59 i)], w) _
  rw [g1]
  refine xQ.go 4 (F1 := (12, [some (.ref 45), some (.int (nI i)), some (.int q.1), none, none, none, none, none, none], [.int (nI i), .ref 60], w)) rfl ?_
  refine xQ.iald rfl (k := i) (rfl) (⟨by omega, by omega⟩) rfl ?_
  show xQ MX8_layPath (13, [some (.ref 45), some (.int (nI i)), some (.int q.1), none, none, none, none, none, none], [.int (w.1 60 i)], w) _
  rw [g2, ← m2]
  refine xQ.call rfl (m_lowest (by rw [← p2]; exact hu10)) ?_
  show xQ MX8_layPath (16, [some (.ref 45), some (.int (nI i)), some (.int q.1), none, none, none, none, none, none], [.int (nI (low (tb q.2)))], w) _
  rw [← p2]
  refine xQ.go 4 (F1 := (22, [some (.ref 45), some (.int (nI i)), some (.int q.1), some (.int (nI u)), none, none, none, none, none], [.int (nI i), .ref 60], w)) rfl ?_
  refine xQ.iald rfl (k := i) (rfl) (⟨by omega, by omega⟩) rfl ?_
  show xQ MX8_layPath (23, [some (.ref 45), some (.int (nI i)), some (.int q.1), some (.int (nI u)), none, none, none, none, none], [.int (w.1 60 i)], w) _
  rw [g2]
  refine xQ.go 3 (F1 := (26, [some (.ref 45), some (.int (nI i)), some (.int q.1), some (.int (nI u)), none, none, none, none, none], [.int (1 <<< ((nI u) &&& 31)), .int q.2], w)) rfl ?_
  rw [mk_bit hu10]
  refine xQ.go 1 (F1 := (27, [some (.ref 45), some (.int (nI i)), some (.int q.1), some (.int (nI u)), none, none, none, none, none], [.int (q.2 ^^^ (mk (fun v => decide (v = u))))], w)) rfl ?_
  rw [show q.2 ^^^ mk (fun v => decide (v = u)) = mk T by rw [← m2, mk_drop hcu, hT]]
  refine xQ.go 4 (F1 := (34, [some (.ref 45), some (.int (nI i)), some (.int q.1), some (.int (nI u)), some (.int (mk T)), none, none, none, none], [], (xuI w 45 29 0))) rfl ?_
  have l0 : lM (xuI w 45 29 0) [] := ⟨by rw [uI1, if_pos ⟨rfl, rfl⟩]; rfl, fun k x h => by cases h⟩
  obtain ⟨r1, w1, hc1, hr1, l1, k1⟩ := m_addP (w := xuI w 45 29 0) (x := u) l0 (by simp)
  subst hr1
  have kw1 : xkq [(45, some 29), (61, none)] w w1 := xkq_trans (xkq_I xkq_rfl rfl) k1
  refine xQ.go 2 (F1 := (36, [some (.ref 45), some (.int (nI i)), some (.int q.1), some (.int (nI u)), some (.int (mk T)), none, none, none, none], [.int (nI u), .ref 45], (xuI w 45 29 0))) rfl ?_
  refine xQ.call rfl (hc1) ?_
  show xQ MX8_layPath (39, [some (.ref 45), some (.int (nI i)), some (.int q.1), some (.int (nI u)), some (.int (mk T)), none, none, none, none], [], w1) _
  refine xQ.go 2 (F1 := (bif !decide (q.1 = 0) then 53 else 43, [some (.ref 45), some (.int (nI i)), some (.int q.1), some (.int (nI u)), some (.int (mk T)), none, none, none, none], [], w1)) rfl ?_
  by_cases h0 : q.1 = 0
  · refine xQ.brF (by rw [h0]; rfl) ?_
    refine xQ.go 2 (F1 := (46, [some (.ref 45), some (.int (nI i)), some (.int q.1), some (.int (nI u)), some (.int (mk T)), none, none, none, none], [.int (mk T), .ref 45], w1)) rfl ?_
    refine xQ.call rfl (m_lowest hlowT) ?_
    show xQ MX8_layPath (49, [some (.ref 45), some (.int (nI i)), some (.int q.1), some (.int (nI u)), some (.int (mk T)), none, none, none, none], [.int (nI (low T)), .ref 45], w1) _
    obtain ⟨r2, w2, hc2, hr2, l2, k2⟩ := m_addP (w := w1) (x := low T) l1 (by simp)
    subst hr2
    refine xQ.call rfl (hc2) ?_
    show xQ MX8_layPath (52, [some (.ref 45), some (.int (nI i)), some (.int q.1), some (.int (nI u)), some (.int (mk T)), none, none, none, none], [], w2) _
    refine xQ.vret 1 rfl rfl ?_
    refine ⟨rfl, ?_, xkq_trans (xkq_mono rfl kw1) (xkq_mono rfl k2)⟩
    have : pth H q = [] ++ [u] ++ [low T] := by
      unfold pth
      rw [if_pos h0, ← p2, hT]
      rfl
    rw [this]
    exact l2
  · refine xQ.brT (by rw [decide_eq_false h0]; rfl) ?_
    obtain ⟨D, hD⟩ : ∃ D : Nat → Bool, D = tb q.1 := ⟨_, rfl⟩
    have hm1 : q.1 = mk D := by rw [hD, m1]
    have hDsmall : ∀ v, D v = true → v < 10 := fun v hv => by
      rw [hD, ← m1] at hv
      by_cases h32 : v < 32
      · rw [tb_mk _ h32, Bool.and_eq_true] at hv
        exact of_decide_eq_true hv.1
      · exfalso
        have h2 : tb (mk (tb q.1)) v = false := BitVec.getLsbD_of_ge _ _ (by omega)
        rw [h2] at hv
        cases hv
    have hDT : ∀ v, D v = true → T v = false := fun v hv => by
      have hv10 := hDsmall v hv
      rw [hD] at hv
      obtain ⟨x, _, _, _, _, hcx⟩ := FOK_free hq hv10 hv
      have hpv := (cmp_in hcx).2
      cases hTv : T v with
      | false => rfl
      | true =>
        rw [hT] at hTv
        simp only [Bool.and_eq_true] at hTv
        have := FOK_con hq hv10 hTv.1
        rw [hpv] at this
        cases this
    have hAD : (fun v => D v && !T v) = D := funext fun v => by
      cases hv : D v with
      | false => rfl
      | true => rw [hDT v hv]; rfl
    obtain ⟨f1, f2⟩ := p4 h0
    rw [← hD, ← hT] at f2
    obtain ⟨f, hf⟩ : ∃ f, f = inn.length := ⟨_, rfl⟩
    rw [← hf] at f1 f2 hlen8
    obtain ⟨s1, s2, s3, s4⟩ := (fdep_spec (H := H) (A := D) (T := T) (u := u) 9).1 (by omega)
    rw [← f2] at s1 s2 s3 s4
    obtain ⟨z0, hz0, hz1, hz2⟩ := meet_iff.mp s3
    have hat := fun j => dsc_at (H := H) (A := D) (T := T) hb.1 f u j ⟨z0, hz0, hz2, hz1⟩
    have hpth : pth H q = u :: dsc H D T f u := by
      unfold pth
      rw [if_neg h0, ← p2, ← hD, ← hT, ← f2]
    rw [hpth]
    obtain ⟨Q, hQ⟩ : ∃ Q, Q = u :: dsc H D T f u := ⟨_, rfl⟩
    rw [← hQ] at hat ⊢
    have hQl : Q.length = f + 2 := by rw [hQ, List.length_cons, dsc_len]
    have hQ0 : Q.getD 0 0 = u := by rw [hQ]; rfl
    have hdl := fun v hv => dd_lay (H := H) (A := D) (T := T) hb.1 10 (by omega) v hv
    rw [hAD] at hdl
    have hDl : ∀ k, k ≤ 10 → ∀ y, y < 10 → decide (dd H D T 10 y = k) = lay H D T k y := by
      intro k hk y hy
      apply Bool.eq_iff_iff.mpr
      rw [decide_eq_true_iff]
      by_cases k0 : k = 0
      · subst k0
        exact (hdl y hy).1
      · exact (hdl y hy).2.1 k (by omega) hk
    have hdle : ∀ v, dd H D T 10 v ≤ 99 := fun v => by rcases dd_le H D T 10 v with h | h <;> omega
    have hQv : ∀ j, j ≤ f + 1 → Q.getD j 0 < 10 := fun j hj => by
      cases j with
      | zero => rw [hQ0]; exact hu10
      | succ j =>
        obtain ⟨a1, a2⟩ := hat j (by omega)
        rw [a1]; exact a2
    rw [hm1]
    have hH1 := iB_kq hH kw1
    obtain ⟨r2, w2, hc2, hr2, d2, k2⟩ := m_dist (w := w1) (A := D) (T := T) hH1
    subst hr2
    refine xQ.go 3 (F1 := (57, [some (.ref 45), some (.int (nI i)), some (.int (mk D)), some (.int (nI u)), some (.int (mk T)), none, none, none, none], [.int (mk D), .int (mk T), .ref 45], w1)) rfl ?_
    refine xQ.call rfl (hc2) ?_
    show xQ MX8_layPath (60, [some (.ref 45), some (.int (nI i)), some (.int (mk D)), some (.int (nI u)), some (.int (mk T)), none, none, none, none], [], w2) _
    have hH2 := iB_kq hH1 k2
    have l2 : lM w2 [u] := ⟨(xkq_at k2 45 29).trans l1.1, fun j x hj => (xkq_at k2 61 j).trans (l1.2 j x hj)⟩
    have kw2 : xkq [(45, some 29), (61, none), (62, none)] w w2 := xkq_trans (xkq_mono rfl kw1) (xkq_mono rfl k2)
    refine xQ.go 4 (F1 := (67, [some (.ref 45), some (.int (nI i)), some (.int (mk D)), some (.int (nI u)), some (.int (mk T)), some (.int 99), some (.int 0), none, none], [], w2)) rfl ?_
    refine xQ.loop (S := Nat) (fun k s => (67, [some (.ref 45), some (.int (nI i)), some (.int (mk D)), some (.int (nI u)), some (.int (mk T)), some (.int (nI s)), some (.int (nI k)), none, none], [], w2)) (fun k m => (m = 99 ∨ ∃ v, v < 10 ∧ H u v = true ∧ D v = true ∧ dd H D T 10 v = m) ∧ ∀ v, v < k → H u v = true → D v = true → m ≤ dd H D T 10 v) 10 99 (rfl) (⟨Or.inl rfl, fun v hv => absurd hv (by omega)⟩) ?_ ?_
    · intro k s hk hI K
      rename_i k2' x
      obtain ⟨i1, i2⟩ := hI
      have hsle : s ≤ 99 := by
        rcases i1 with h | ⟨v, _, _, _, h⟩
        · omega
        · rw [← h]; exact hdle v
      refine xQ.go 3 (F1 := (bif decide (10 ≤ (nI k)) then 134 else 74, [some (.ref 45), some (.int (nI i)), some (.int (mk D)), some (.int (nI u)), some (.int (mk T)), some (.int (nI s)), some (.int (nI k)), none, none], [], w2)) rfl ?_
      refine xQ.brF (decide_eq_false (nI_ge (b := 10) (by omega) (by omega))) ?_
      refine xQ.go 3 (F1 := (79, [some (.ref 45), some (.int (nI i)), some (.int (mk D)), some (.int (nI u)), some (.int (mk T)), some (.int (nI s)), some (.int (nI k)), none, none], [.int (nI u), .ref 55], w2)) rfl ?_
      refine xQ.iald rfl (k := u) (rfl) (⟨by omega, by omega⟩) rfl ?_
      show xQ MX8_layPath (80, [some (.ref 45), some (.int (nI i)), some (.int (mk D)), some (.int (nI u)), some (.int (mk T)), some (.int (nI s)), some (.int (nI k)), none, none], [.int (w2.1 55 u)], w2) _
      rw [hH2 u hu10]
      refine xQ.go 2 (F1 := (82, [some (.ref 45), some (.int (nI i)), some (.int (mk D)), some (.int (nI u)), some (.int (mk T)), some (.int (nI s)), some (.int (nI k)), none, none], [.int ((mk (H u)) &&& (mk D))], w2)) rfl ?_
      rw [mk_and]
      refine xQ.go 3 (F1 := (86, [some (.ref 45), some (.int (nI i)), some (.int (mk D)), some (.int (nI u)), some (.int (mk T)), some (.int (nI s)), some (.int (nI k)), none, none], [.int (1 <<< ((nI k) &&& 31)), .int (mk (fun v => H u v && D v))], w2)) rfl ?_
      rw [mk_bit hk]
      refine xQ.go 2 (F1 := (bif decide (((mk (fun v => H u v && D v)) &&& (mk (fun v => decide (v = k)))) = 0) then 94 else 90, [some (.ref 45), some (.int (nI i)), some (.int (mk D)), some (.int (nI u)), some (.int (mk T)), some (.int (nI s)), some (.int (nI k)), none, none], [], w2)) rfl ?_
      rw [mk_and]
      have hzz : decide (mk (fun v => (H u v && D v) && decide (v = k)) = 0) = !(H u k && D k) := by
        cases hc : (H u k && D k) with
        | true =>
          refine decide_eq_false (fun e => ?_)
          have := mk_zero.mp e k hk
          simp only at this
          rw [hc] at this
          simp at this
        | false =>
          refine decide_eq_true (mk_zero.mpr fun v _ => ?_)
          by_cases e : v = k
          · rw [e, hc]; rfl
          · rw [decide_eq_false e, Bool.and_false]
      rw [hzz]
      cases hc : (H u k && D k) with
      | false =>
        refine xQ.brT rfl ?_
        refine xQ.go 2 (F1 := (97, [some (.ref 45), some (.int (nI i)), some (.int (mk D)), some (.int (nI u)), some (.int (mk T)), some (.int (nI s)), some (.int (nI k)), some (.int 0), none], [], w2)) rfl ?_
        refine xQ.go 2 (F1 := (bif decide (0 = 0) then 124 else 102, [some (.ref 45), some (.int (nI i)), some (.int (mk D)), some (.int (nI u)), some (.int (mk T)), some (.int (nI s)), some (.int (nI k)), some (.int 0), none], [], w2)) rfl ?_
        refine xQ.brT (rfl) ?_
        refine xQ.go 4 (F1 := (67, [some (.ref 45), some (.int (nI i)), some (.int (mk D)), some (.int (nI u)), some (.int (mk T)), some (.int (nI s)), some (.int ((nI k) + 1)), some (.int 0), none], [], w2)) rfl ?_
        refine xQ.less [some (.ref 45), some (.int (nI i)), some (.int (mk D)), some (.int (nI u)), some (.int (mk T)), some (.int (nI s)), some (.int ((nI k) + 1)), none, none] (by simp [xleb]) ?_
        rw [← nI_succ]
        refine K s ⟨i1, fun v hv h1 h2 => ?_⟩
        by_cases e : v = k
        · rw [e] at h1 h2
          rw [h1, h2] at hc
          cases hc
        · exact i2 v (by omega) h1 h2
      | true =>
        rw [Bool.and_eq_true] at hc
        refine xQ.brF rfl ?_
        refine xQ.go 3 (F1 := (97, [some (.ref 45), some (.int (nI i)), some (.int (mk D)), some (.int (nI u)), some (.int (mk T)), some (.int (nI s)), some (.int (nI k)), some (.int 1), none], [], w2)) rfl ?_
        refine xQ.go 2 (F1 := (bif decide (1 = 0) then 124 else 102, [some (.ref 45), some (.int (nI i)), some (.int (mk D)), some (.int (nI u)), some (.int (mk T)), some (.int (nI s)), some (.int (nI k)), some (.int 1), none], [], w2)) rfl ?_
        refine xQ.brF (rfl) ?_
        have hdk := hdle k
        refine xQ.go 3 (F1 := (108, [some (.ref 45), some (.int (nI i)), some (.int (mk D)), some (.int (nI u)), some (.int (mk T)), some (.int (nI s)), some (.int (nI k)), some (.int 1), none], [.int (nI k), .ref 62], w2)) rfl ?_
        refine xQ.iald rfl (k := k) (rfl) (⟨by omega, by omega⟩) rfl ?_
        show xQ MX8_layPath (109, [some (.ref 45), some (.int (nI i)), some (.int (mk D)), some (.int (nI u)), some (.int (mk T)), some (.int (nI s)), some (.int (nI k)), some (.int 1), none], [.int (w2.1 62 k)], w2) _
        rw [d2 k hk]
        refine xQ.go 2 (F1 := (bif decide ((nI s) ≤ (nI (dd H D T 10 k))) then 124 else 114, [some (.ref 45), some (.int (nI i)), some (.int (mk D)), some (.int (nI u)), some (.int (mk T)), some (.int (nI s)), some (.int (nI k)), some (.int 1), none], [], w2)) rfl ?_
        rw [nI_decle (by omega) (by omega)]
        by_cases hlt : dd H D T 10 k < s
        · refine xQ.brF (decide_eq_false (by omega)) ?_
          refine xQ.go 3 (F1 := (120, [some (.ref 45), some (.int (nI i)), some (.int (mk D)), some (.int (nI u)), some (.int (mk T)), some (.int (nI s)), some (.int (nI k)), some (.int 1), none], [.int (nI k), .ref 62], w2)) rfl ?_
          refine xQ.iald rfl (k := k) (rfl) (⟨by omega, by omega⟩) rfl ?_
          show xQ MX8_layPath (121, [some (.ref 45), some (.int (nI i)), some (.int (mk D)), some (.int (nI u)), some (.int (mk T)), some (.int (nI s)), some (.int (nI k)), some (.int 1), none], [.int (w2.1 62 k)], w2) _
          rw [d2 k hk]
          refine xQ.go 4 (F1 := (67, [some (.ref 45), some (.int (nI i)), some (.int (mk D)), some (.int (nI u)), some (.int (mk T)), some (.int (nI (dd H D T 10 k))), some (.int ((nI k) + 1)), some (.int 1), none], [], w2)) rfl ?_
          refine xQ.less [some (.ref 45), some (.int (nI i)), some (.int (mk D)), some (.int (nI u)), some (.int (mk T)), some (.int (nI (dd H D T 10 k))), some (.int ((nI k) + 1)), none, none] (by simp [xleb]) ?_
          rw [← nI_succ]
          refine K (dd H D T 10 k) ⟨Or.inr ⟨k, hk, hc.1, hc.2, rfl⟩, fun v hv h1 h2 => ?_⟩
          by_cases e : v = k
          · rw [e]; exact Nat.le_refl _
          · have := i2 v (by omega) h1 h2
            omega
        · refine xQ.brT (decide_eq_true (by omega)) ?_
          refine xQ.go 4 (F1 := (67, [some (.ref 45), some (.int (nI i)), some (.int (mk D)), some (.int (nI u)), some (.int (mk T)), some (.int (nI s)), some (.int ((nI k) + 1)), some (.int 1), none], [], w2)) rfl ?_
          refine xQ.less [some (.ref 45), some (.int (nI i)), some (.int (mk D)), some (.int (nI u)), some (.int (mk T)), some (.int (nI s)), some (.int ((nI k) + 1)), none, none] (by simp [xleb]) ?_
          rw [← nI_succ]
          refine K s ⟨i1, fun v hv h1 h2 => ?_⟩
          by_cases e : v = k
          · rw [e]; omega
          · exact i2 v (by omega) h1 h2
    · intro s hI
      obtain ⟨i1, i2⟩ := hI
      have hD0 : D z0 = true := lay_A s1 hz1
      have hd0 : dd H D T 10 z0 = f := of_decide_eq_true (by rw [hDl f (by omega) z0 hz0]; exact hz1)
      have hsf : s = f := by
        have h1 := i2 z0 hz0 hz2 hD0
        rcases i1 with h | ⟨v, v1, v2, v3, v4⟩
        · omega
        · by_cases e : s = f
          · exact e
          · exfalso
            have hv0 : s ≠ 0 := fun e0 => by
              rw [e0] at v4
              have := (hdl v v1).1.mp v4
              rw [hDT v v3] at this
              cases this
            have h2 := hDl s (by omega) v v1
            rw [decide_eq_true v4] at h2
            have h3 := s4 s (by omega) (by omega)
            rw [meet_iff.mpr ⟨v, v1, h2.symm, v2⟩] at h3
            cases h3
      rw [hsf]
      refine xQ.go 3 (F1 := (bif decide (10 ≤ (nI 10)) then 134 else 74, [some (.ref 45), some (.int (nI i)), some (.int (mk D)), some (.int (nI u)), some (.int (mk T)), some (.int (nI f)), some (.int (nI 10)), none, none], [], w2)) rfl ?_
      refine xQ.brT (rfl) ?_
      refine xQ.go 3 (F1 := (139, [some (.ref 45), some (.int (nI i)), some (.int (mk D)), some (.int (nI u)), some (.int (mk T)), some (.int (nI f)), some (.int (nI 10)), none, none], [.int (nI u), .ref 55], w2)) rfl ?_
      refine xQ.iald rfl (k := u) (rfl) (⟨by omega, by omega⟩) rfl ?_
      show xQ MX8_layPath (140, [some (.ref 45), some (.int (nI i)), some (.int (mk D)), some (.int (nI u)), some (.int (mk T)), some (.int (nI f)), some (.int (nI 10)), none, none], [.int (w2.1 55 u)], w2) _
      rw [hH2 u hu10]
      refine xQ.go 2 (F1 := (142, [some (.ref 45), some (.int (nI i)), some (.int (mk D)), some (.int (nI u)), some (.int (mk T)), some (.int (nI f)), some (.int (nI 10)), none, none], [.int ((mk (H u)) &&& (mk D))], w2)) rfl ?_
      rw [mk_and]
      refine xQ.go 3 (F1 := (148, [some (.ref 45), some (.int (nI i)), some (.int (mk D)), some (.int (nI u)), some (.int (mk T)), some (.int (nI f)), some (.int (mk (fun v => H u v && D v))), some (.int (nI f)), none], [], w2)) rfl ?_
      have st0 : mk (fun v => H u v && D v) = mk (stf H D T f Q 0) := by unfold stf; rw [if_neg (by omega), hQ0]
      rw [st0]
      refine xQ.less [some (.ref 45), some (.int (nI i)), some (.int (mk D)), some (.int (nI u)), some (.int (mk T)), some (.int (nI f)), some (.int (mk (stf H D T f Q 0))), some (.int (nI f)), none] (by simp [xleb]) ?_
      have l2' : lM w2 (Q.take (0 + 1)) := by
        rw [show Q.take (0 + 1) = [u] by rw [hQ]; rfl]
        exact l2
      refine xQ.loop (S := xW) (fun k s => (148, [some (.ref 45), some (.int (nI i)), some (.int (mk D)), some (.int (nI u)), some (.int (mk T)), some (.int (nI f)), some (.int (mk (stf H D T f Q k))), some (.int (nI (f - k))), none], [], s)) (fun k t => lM t (Q.take (k + 1)) ∧ iB t H ∧ dB t (dd H D T 10) ∧ xkq [(45, some 29), (61, none), (62, none)] w t) f w2 (rfl) (⟨l2', hH2, d2, kw2⟩) ?_ ?_
      · intro k t hk hI K
        obtain ⟨j1, j2, j3, j4⟩ := hI
        obtain ⟨a1, a2⟩ := hat k (by omega)
        have hvk := hQv k (by omega)
        have hvn := hQv (k + 1) (by omega)
        have hset : stf H D T f Q k = fun y => H (Q.getD k 0) y && D y := by unfold stf; rw [if_neg (by omega)]
        have hlow : low (fun y => (H (Q.getD k 0) y && D y) && decide (dd H D T 10 y = f - k)) = Q.getD (k + 1) 0 := by
          rw [a1]
          refine low_ext fun y hy => ?_
          rw [hDl (f - k) (by omega) y hy]
          cases hly : lay H D T (f - k) y with
          | false => rw [Bool.and_false, Bool.and_false]
          | true => rw [lay_A (by omega) hly, Bool.and_true]
        rw [hset]
        refine xQ.go 2 (F1 := (bif decide ((nI (f - k)) ≤ 0) then 205 else 153, [some (.ref 45), some (.int (nI i)), some (.int (mk D)), some (.int (nI u)), some (.int (mk T)), some (.int (nI f)), some (.int (mk (fun y => H (Q.getD k 0) y && D y))), some (.int (nI (f - k))), none], [], t)) rfl ?_
        refine xQ.brF (decide_eq_false (nI_nle (by omega) (by omega))) ?_
        refine xQ.go 3 (F1 := (158, [some (.ref 45), some (.int (nI i)), some (.int (mk D)), some (.int (nI u)), some (.int (mk T)), some (.int (nI f)), some (.int (mk (fun y => H (Q.getD k 0) y && D y))), some (.int (nI (f - k))), none], [.int (nI (f - k)), .int (mk (fun y => H (Q.getD k 0) y && D y)), .ref 45], t)) rfl ?_
        refine xQ.call rfl (m_lowAt j3 (fun v _ => by have := hdle v; omega) (by omega) (by rw [hlow]; exact hvn)) ?_
        show xQ MX8_layPath (161, [some (.ref 45), some (.int (nI i)), some (.int (mk D)), some (.int (nI u)), some (.int (mk T)), some (.int (nI f)), some (.int (mk (fun y => H (Q.getD k 0) y && D y))), some (.int (nI (f - k))), none], [.int (nI (low (fun y => (H (Q.getD k 0) y && D y) && decide (dd H D T 10 y = f - k))))], t) _
        rw [hlow]
        have hpl : (Q.take (k + 1)).length < 12 := by rw [List.length_take]; omega
        obtain ⟨r5, s5, hc5, hr5, l5, k5⟩ := m_addP (w := t) (x := Q.getD (k + 1) 0) j1 hpl
        subst hr5
        refine xQ.go 3 (F1 := (166, [some (.ref 45), some (.int (nI i)), some (.int (mk D)), some (.int (nI u)), some (.int (mk T)), some (.int (nI f)), some (.int (mk (fun y => H (Q.getD k 0) y && D y))), some (.int (nI (f - k))), some (.int (nI (Q.getD (k + 1) 0)))], [.int (nI (Q.getD (k + 1) 0)), .ref 45], t)) rfl ?_
        refine xQ.call rfl (hc5) ?_
        show xQ MX8_layPath (169, [some (.ref 45), some (.int (nI i)), some (.int (mk D)), some (.int (nI u)), some (.int (mk T)), some (.int (nI f)), some (.int (mk (fun y => H (Q.getD k 0) y && D y))), some (.int (nI (f - k))), some (.int (nI (Q.getD (k + 1) 0)))], [], s5) _
        have htk : Q.take (k + 1 + 1) = Q.take (k + 1) ++ [Q.getD (k + 1) 0] := by
          rw [List.take_add_one, getD_of (show k + 1 < Q.length by omega) 0]
          rfl
        rw [htk] at K
        have hH5 := iB_kq j2 k5
        have d5 : dB s5 (dd H D T 10) := fun v hv => (xkq_at k5 62 v).trans (j3 v hv)
        have K := K s5 ⟨l5, hH5, d5, xkq_trans j4 (xkq_mono rfl k5)⟩
        have hdn : nI (f - k) + -1 = nI (f - (k + 1)) := by
          rw [show f - k = (f - (k + 1)) + 1 by omega, nI_succ, Int32.add_assoc]
          rw [show (1 : Int32) + -1 = 0 by decide, Int32.add_zero]
        refine xQ.go 3 (F1 := (bif !decide ((nI (f - k)) = 1) then 188 else 175, [some (.ref 45), some (.int (nI i)), some (.int (mk D)), some (.int (nI u)), some (.int (mk T)), some (.int (nI f)), some (.int (mk (fun y => H (Q.getD k 0) y && D y))), some (.int (nI (f - k))), some (.int (nI (Q.getD (k + 1) 0)))], [], s5)) rfl ?_
        rw [show (1 : Int32) = nI 1 from rfl, nI_dec (by omega) (by omega)]
        by_cases e1 : f - k = 1
        · refine xQ.brF (by rw [decide_eq_true e1]; rfl) ?_
          refine xQ.go 3 (F1 := (181, [some (.ref 45), some (.int (nI i)), some (.int (mk D)), some (.int (nI u)), some (.int (mk T)), some (.int (nI f)), some (.int (mk (fun y => H (Q.getD k 0) y && D y))), some (.int (nI (f - k))), some (.int (nI (Q.getD (k + 1) 0)))], [.int (nI (Q.getD (k + 1) 0)), .ref 55], s5)) rfl ?_
          refine xQ.iald rfl (k := (Q.getD (k + 1) 0)) (rfl) (⟨by omega, by omega⟩) rfl ?_
          show xQ MX8_layPath (182, [some (.ref 45), some (.int (nI i)), some (.int (mk D)), some (.int (nI u)), some (.int (mk T)), some (.int (nI f)), some (.int (mk (fun y => H (Q.getD k 0) y && D y))), some (.int (nI (f - k))), some (.int (nI (Q.getD (k + 1) 0)))], [.int (s5.1 55 (Q.getD (k + 1) 0))], s5) _
          rw [hH5 _ hvn]
          refine xQ.go 2 (F1 := (185, [some (.ref 45), some (.int (nI i)), some (.int (mk D)), some (.int (nI u)), some (.int (mk T)), some (.int (nI f)), some (.int (mk (fun y => H (Q.getD k 0) y && D y))), some (.int (nI (f - k))), some (.int (nI (Q.getD (k + 1) 0)))], [.int ((mk (H (Q.getD (k + 1) 0))) &&& (mk T))], s5)) rfl ?_
          rw [mk_and, show mk (fun v => H (Q.getD (k + 1) 0) v && T v) = mk (stf H D T f Q (k + 1)) by unfold stf; rw [if_pos (by omega)]]
          refine xQ.go 4 (F1 := (148, [some (.ref 45), some (.int (nI i)), some (.int (mk D)), some (.int (nI u)), some (.int (mk T)), some (.int (nI f)), some (.int (mk (stf H D T f Q (k + 1)))), some (.int ((nI (f - k)) + (-1))), some (.int (nI (Q.getD (k + 1) 0)))], [], s5)) rfl ?_
          rw [hdn]
          refine xQ.less [some (.ref 45), some (.int (nI i)), some (.int (mk D)), some (.int (nI u)), some (.int (mk T)), some (.int (nI f)), some (.int (mk (stf H D T f Q (k + 1)))), some (.int (nI (f - (k + 1)))), none] (by simp [xleb]) ?_
          exact K
        · refine xQ.brT (by rw [decide_eq_false e1]; rfl) ?_
          refine xQ.go 3 (F1 := (194, [some (.ref 45), some (.int (nI i)), some (.int (mk D)), some (.int (nI u)), some (.int (mk T)), some (.int (nI f)), some (.int (mk (fun y => H (Q.getD k 0) y && D y))), some (.int (nI (f - k))), some (.int (nI (Q.getD (k + 1) 0)))], [.int (nI (Q.getD (k + 1) 0)), .ref 55], s5)) rfl ?_
          refine xQ.iald rfl (k := (Q.getD (k + 1) 0)) (rfl) (⟨by omega, by omega⟩) rfl ?_
          show xQ MX8_layPath (195, [some (.ref 45), some (.int (nI i)), some (.int (mk D)), some (.int (nI u)), some (.int (mk T)), some (.int (nI f)), some (.int (mk (fun y => H (Q.getD k 0) y && D y))), some (.int (nI (f - k))), some (.int (nI (Q.getD (k + 1) 0)))], [.int (s5.1 55 (Q.getD (k + 1) 0))], s5) _
          rw [hH5 _ hvn]
          refine xQ.go 2 (F1 := (197, [some (.ref 45), some (.int (nI i)), some (.int (mk D)), some (.int (nI u)), some (.int (mk T)), some (.int (nI f)), some (.int (mk (fun y => H (Q.getD k 0) y && D y))), some (.int (nI (f - k))), some (.int (nI (Q.getD (k + 1) 0)))], [.int ((mk (H (Q.getD (k + 1) 0))) &&& (mk D))], s5)) rfl ?_
          rw [mk_and, show mk (fun v => H (Q.getD (k + 1) 0) v && D v) = mk (stf H D T f Q (k + 1)) by unfold stf; rw [if_neg (by omega)]]
          refine xQ.go 3 (F1 := (148, [some (.ref 45), some (.int (nI i)), some (.int (mk D)), some (.int (nI u)), some (.int (mk T)), some (.int (nI f)), some (.int (mk (stf H D T f Q (k + 1)))), some (.int ((nI (f - k)) + (-1))), some (.int (nI (Q.getD (k + 1) 0)))], [], s5)) rfl ?_
          rw [hdn]
          refine xQ.less [some (.ref 45), some (.int (nI i)), some (.int (mk D)), some (.int (nI u)), some (.int (mk T)), some (.int (nI f)), some (.int (mk (stf H D T f Q (k + 1)))), some (.int (nI (f - (k + 1)))), none] (by simp [xleb]) ?_
          exact K
      · intro t hI
        obtain ⟨j1, j2, j3, j4⟩ := hI
        obtain ⟨a1, a2⟩ := hat f (Nat.le_refl _)
        rw [Nat.sub_self] at a1 a2 ⊢
        have hset : stf H D T f Q f = fun y => H (Q.getD f 0) y && T y := by unfold stf; rw [if_pos rfl]
        rw [hset]
        refine xQ.go 2 (F1 := (bif decide ((nI 0) ≤ 0) then 205 else 153, [some (.ref 45), some (.int (nI i)), some (.int (mk D)), some (.int (nI u)), some (.int (mk T)), some (.int (nI f)), some (.int (mk (fun y => H (Q.getD f 0) y && T y))), some (.int (nI 0)), none], [], t)) rfl ?_
        refine xQ.brT (rfl) ?_
        have a2' : low (fun y => H (Q.getD f 0) y && T y) < 10 := a2
        have a1' : Q.getD (f + 1) 0 = low (fun y => H (Q.getD f 0) y && T y) := a1
        refine xQ.go 2 (F1 := (208, [some (.ref 45), some (.int (nI i)), some (.int (mk D)), some (.int (nI u)), some (.int (mk T)), some (.int (nI f)), some (.int (mk (fun y => H (Q.getD f 0) y && T y))), some (.int (nI 0)), none], [.int (mk (fun y => H (Q.getD f 0) y && T y)), .ref 45], t)) rfl ?_
        refine xQ.call rfl (m_lowest a2') ?_
        show xQ MX8_layPath (211, [some (.ref 45), some (.int (nI i)), some (.int (mk D)), some (.int (nI u)), some (.int (mk T)), some (.int (nI f)), some (.int (mk (fun y => H (Q.getD f 0) y && T y))), some (.int (nI 0)), none], [.int (nI (low (fun y => H (Q.getD f 0) y && T y))), .ref 45], t) _
        rw [← a1']
        have hpl : (Q.take (f + 1)).length < 12 := by rw [List.length_take]; omega
        obtain ⟨r5, s5, hc5, hr5, l5, k5⟩ := m_addP (w := t) (x := Q.getD (f + 1) 0) j1 hpl
        subst hr5
        refine xQ.call rfl (hc5) ?_
        show xQ MX8_layPath (214, [some (.ref 45), some (.int (nI i)), some (.int (mk D)), some (.int (nI u)), some (.int (mk T)), some (.int (nI f)), some (.int (mk (fun y => H (Q.getD f 0) y && T y))), some (.int (nI 0)), none], [], s5) _
        refine xQ.vret 1 rfl rfl ?_
        refine ⟨rfl, ?_, xkq_trans j4 (xkq_mono rfl k5)⟩
        have : Q = Q.take (f + 1) ++ [Q.getD (f + 1) 0] := by
          have h := List.take_add_one (l := Q) (i := f + 1)
          rw [getD_of (show f + 1 < Q.length by omega) 0, List.take_of_length_le (by omega)] at h
          exact h
        rw [this]
        exact l5
