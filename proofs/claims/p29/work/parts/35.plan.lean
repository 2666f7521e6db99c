theorem rch_two {G : Nat → Nat → Bool} {A X : Nat → Bool} : ∀ v, v < 10 → rch G A (fun v => X v && A v) v = rch G A X v := by
  unfold rch
  exact rchn_ext 10 fun v _ => by rw [Bool.and_assoc, Bool.and_self]
theorem mk_ends {a b : Nat} {S : Nat → Bool} (ha : a < 10) (hb : b < 10) : decide (mk (fun v => two a b v && !S v) = 0) = (S a && S b) := by
  apply Bool.eq_iff_iff.mpr
  rw [decide_eq_true_iff, mk_zero, Bool.and_eq_true]
  constructor
  · intro h
    have h1 := h a ha
    have h2 := h b hb
    rw [two_iff.mpr (Or.inl rfl)] at h1
    rw [two_iff.mpr (Or.inr rfl)] at h2
    simp at h1 h2
    exact ⟨h1, h2⟩
  · rintro ⟨h1, h2⟩ v _
    cases h : two a b v with
    | false => rfl
    | true => rcases two_iff.mp h with e | e <;> simp [e, h1, h2]
theorem c_fillNear_p {w : xW} : xD MX4_fillNear [.ref 11] w (fun r w1 => r = none ∧ (∀ v, v < 10 → w1.1 12 v = mk (gr (w.2 11 9) v)) ∧ xkq [(12, none)] w w1) := by
  refine xD.of ?_
  show xQ MX4_fillNear (0, [some (.ref 11), none, none, none], [], w) _
  refine xQ.go 2 (F1 := (2, [some (.ref 11), some (.int 0), none, none], [], w)) rfl ?_
  refine xQ.loop (S := xW) (fun k s => (2, [some (.ref 11), some (.int (nI k)), none, none], [], s)) (fun k s => xkq [(12, none)] w s ∧ ∀ v, v < k → s.1 12 v = mk (gr (w.2 11 9) v)) 10 w (rfl) (⟨xkq_rfl, fun v hv => absurd hv (by omega)⟩) ?_ ?_
  · intro k s hk hI K
    obtain ⟨i1, i2⟩ := hI
    refine xQ.go 3 (F1 := (bif decide (10 ≤ (nI k)) then 61 else 8, [some (.ref 11), some (.int (nI k)), none, none], [], s)) rfl ?_
    refine xQ.brF (decide_eq_false (nI_ge (b := 10) (by omega) (by omega))) ?_
    refine xQ.go 4 (F1 := (12, [some (.ref 11), some (.int (nI k)), some (.int 0), some (.int 0)], [], s)) rfl ?_
    refine xQ.loop (S := Unit) (fun k2 s2 => (12, [some (.ref 11), some (.int (nI k)), some (.int (mk (fun z => decide (z < k2) && gr (w.2 11 9) k z))), some (.int (nI k2))], [], s)) (fun _ _ => True) 10 () (by rw [show mk (fun z => decide (z < 0) && gr (w.2 11 9) k z) = 0 by rw [mk_0]; exact mk_ext fun z _ => by simp]; rfl) (trivial) ?_ ?_
    · intro k2 s2 hk2 hI2 K2
      have K2 := K2 () trivial
      refine xQ.go 3 (F1 := (bif decide (10 ≤ (nI k2)) then 46 else 18, [some (.ref 11), some (.int (nI k)), some (.int (mk (fun z => decide (z < k2) && gr (w.2 11 9) k z))), some (.int (nI k2))], [], s)) rfl ?_
      refine xQ.brF (decide_eq_false (nI_ge (b := 10) (by omega) (by omega))) ?_
      by_cases e : k = k2
      · refine xQ.go 4 (F1 := (24, [some (.ref 11), some (.int (nI k)), some (.int (mk (fun z => decide (z < k2) && gr (w.2 11 9) k z))), some (.int (nI k2))], [.int (nI k2), .int (nI k), .long (s.2 11 9)], s)) rfl ?_
        refine xQ.call rfl (c_pb_0 (fun a b ha hb hne e1 e2 => hne (by rw [← jI_inj (a := k) (b := a) (by omega) (by omega) e1, ← jI_inj (a := k2) (b := b) (by omega) (by omega) e2, e]))) ?_
        show xQ MX4_fillNear (27, [some (.ref 11), some (.int (nI k)), some (.int (mk (fun z => decide (z < k2) && gr (w.2 11 9) k z))), some (.int (nI k2))], [.long 0, .long (s.2 11 9)], s) _
        refine xQ.go 4 (F1 := (bif decide ((lg_cmp ((s.2 11 9) &&& 0) 0) = 0) then 40 else 33, [some (.ref 11), some (.int (nI k)), some (.int (mk (fun z => decide (z < k2) && gr (w.2 11 9) k z))), some (.int (nI k2))], [], s)) rfl ?_
        rw [lg_cmp0]
        refine xQ.brT (decide_eq_true (by simp)) ?_
        refine xQ.go 2 (F1 := (12, [some (.ref 11), some (.int (nI k)), some (.int (mk (fun z => decide (z < k2) && gr (w.2 11 9) k z))), some (.int ((nI k2) + 1))], [], s)) rfl ?_
        rw [← nI_succ, show mk (fun z => decide (z < k2) && gr (w.2 11 9) k z) = mk (fun z => decide (z < k2 + 1) && gr (w.2 11 9) k z) from mk_ext fun z hz => by
          by_cases e2 : z = k2
          · rw [e2, ← e, gr_irr, Bool.and_false, Bool.and_false]
          · rw [show decide (z < k2) = decide (z < k2 + 1) from decide_eq_decide.mpr (by omega)]]
        exact K2
      · refine xQ.go 4 (F1 := (24, [some (.ref 11), some (.int (nI k)), some (.int (mk (fun z => decide (z < k2) && gr (w.2 11 9) k z))), some (.int (nI k2))], [.int (nI k2), .int (nI k), .long (s.2 11 9)], s)) rfl ?_
        refine xQ.call rfl (c_pb (by omega) (by omega) e) ?_
        show xQ MX4_fillNear (27, [some (.ref 11), some (.int (nI k)), some (.int (mk (fun z => decide (z < k2) && gr (w.2 11 9) k z))), some (.int (nI k2))], [.long (pbit k k2), .long (s.2 11 9)], s) _
        refine xQ.go 4 (F1 := (bif decide ((lg_cmp ((s.2 11 9) &&& (pbit k k2)) 0) = 0) then 40 else 33, [some (.ref 11), some (.int (nI k)), some (.int (mk (fun z => decide (z < k2) && gr (w.2 11 9) k z))), some (.int (nI k2))], [], s)) rfl ?_
        rw [lg_cmp0, xkq_atJ i1 11 9]
        cases hg : gr (w.2 11 9) k k2 with
        | true =>
          refine xQ.brF (decide_eq_false (fun e3 => by rw [(and_zero _ (by omega) (by omega) e).mp e3] at hg; cases hg)) ?_
          refine xQ.go 2 (F1 := (35, [some (.ref 11), some (.int (nI k)), some (.int (mk (fun z => decide (z < k2) && gr (w.2 11 9) k z))), some (.int (nI k2))], [.int (nI k2), .int (mk (fun z => decide (z < k2) && gr (w.2 11 9) k z))], s)) rfl ?_
          refine xQ.call rfl (c_bit (show k2 < 10 by omega)) ?_
          show xQ MX4_fillNear (38, [some (.ref 11), some (.int (nI k)), some (.int (mk (fun z => decide (z < k2) && gr (w.2 11 9) k z))), some (.int (nI k2))], [.int (mk (fun v => decide (v = k2))), .int (mk (fun z => decide (z < k2) && gr (w.2 11 9) k z))], s) _
          refine xQ.go 4 (F1 := (12, [some (.ref 11), some (.int (nI k)), some (.int ((mk (fun z => decide (z < k2) && gr (w.2 11 9) k z)) ||| (mk (fun v => decide (v = k2))))), some (.int ((nI k2) + 1))], [], s)) rfl ?_
          rw [mk_or, ← nI_succ, show mk (fun v => (decide (v < k2) && gr (w.2 11 9) k v) || decide (v = k2)) = mk (fun z => decide (z < k2 + 1) && gr (w.2 11 9) k z) from mk_ext fun z hz => by
            by_cases e2 : z = k2
            · rw [e2, hg]; simp
            · rw [show decide (z < k2) = decide (z < k2 + 1) from decide_eq_decide.mpr (by omega), decide_eq_false e2, Bool.or_false]]
          exact K2
        | false =>
          refine xQ.brT (decide_eq_true ((and_zero _ (by omega) (by omega) e).mpr hg)) ?_
          refine xQ.go 2 (F1 := (12, [some (.ref 11), some (.int (nI k)), some (.int (mk (fun z => decide (z < k2) && gr (w.2 11 9) k z))), some (.int ((nI k2) + 1))], [], s)) rfl ?_
          rw [← nI_succ, show mk (fun z => decide (z < k2) && gr (w.2 11 9) k z) = mk (fun z => decide (z < k2 + 1) && gr (w.2 11 9) k z) from mk_ext fun z hz => by
            by_cases e2 : z = k2
            · rw [e2, hg, Bool.and_false, Bool.and_false]
            · rw [show decide (z < k2) = decide (z < k2 + 1) from decide_eq_decide.mpr (by omega)]]
          exact K2
    · intro s2 hI2
      refine xQ.go 3 (F1 := (bif decide (10 ≤ (nI 10)) then 46 else 18, [some (.ref 11), some (.int (nI k)), some (.int (mk (fun z => decide (z < 10) && gr (w.2 11 9) k z))), some (.int (nI 10))], [], s)) rfl ?_
      refine xQ.brT (rfl) ?_
      rw [show mk (fun z => decide (z < 10) && gr (w.2 11 9) k z) = mk (gr (w.2 11 9) k) from mk_ext fun z hz => by rw [decide_eq_true hz, Bool.true_and]]
      refine xQ.go 4 (F1 := (52, [some (.ref 11), some (.int (nI k)), some (.int (mk (gr (w.2 11 9) k))), some (.int (nI 10))], [.int (mk (gr (w.2 11 9) k)), .int (nI k), .ref 12], s)) rfl ?_
      refine xQ.call rfl (c_put rfl (by omega) (by omega)) ?_
      show xQ MX4_fillNear (55, [some (.ref 11), some (.int (nI k)), some (.int (mk (gr (w.2 11 9) k))), some (.int (nI 10))], [], (xuI s 12 k (mk (gr (w.2 11 9) k)))) _
      refine xQ.go 2 (F1 := (2, [some (.ref 11), some (.int ((nI k) + 1)), some (.int (mk (gr (w.2 11 9) k))), some (.int (nI 10))], [], (xuI s 12 k (mk (gr (w.2 11 9) k))))) rfl ?_
      refine xQ.less [some (.ref 11), some (.int ((nI k) + 1)), none, none] (by simp [xleb]) ?_
      rw [← nI_succ]
      refine K _ ⟨xkq_I i1 rfl, fun v hv => ?_⟩
      rw [uI1]
      by_cases e : v = k
      · rw [if_pos ⟨rfl, e⟩, e]
      · rw [if_neg (fun h => e h.2)]
        exact i2 v (by omega)
  · intro s hI
    refine xQ.go 3 (F1 := (bif decide (10 ≤ (nI 10)) then 61 else 8, [some (.ref 11), some (.int (nI 10)), none, none], [], s)) rfl ?_
    refine xQ.brT (rfl) ?_
    refine xQ.vret 1 rfl rfl ?_
    exact ⟨rfl, hI.2, hI.1⟩
theorem c_blockAround_p {w : xW} {G : Nat → Nat → Bool} {a b : Nat} (hw : ∀ v, v < 10 → w.1 12 v = mk (G v)) (ha : a < 10) (hb : b < 10) : xC MX4_blockAround [.ref 11, .int (nI a), .int (nI b)] w (some (.int (mk (bS G (a, b))))) w := by
  unfold xC
  show xE MX4_blockAround (0, [some (.ref 11), some (.int (nI a)), some (.int (nI b)), none, none, none, none], [], w) _ _
  refine xE.go 1 (F1 := (1, [some (.ref 11), some (.int (nI a)), some (.int (nI b)), none, none, none, none], [.int (nI a)], w)) rfl ?_
  refine xE.call rfl (c_bit ha) ?_
  show xE MX4_blockAround (4, [some (.ref 11), some (.int (nI a)), some (.int (nI b)), none, none, none, none], [.int (mk (fun v => decide (v = a)))], w) _ _
  refine xE.go 1 (F1 := (5, [some (.ref 11), some (.int (nI a)), some (.int (nI b)), none, none, none, none], [.int (nI b), .int (mk (fun v => decide (v = a)))], w)) rfl ?_
  refine xE.call rfl (c_bit hb) ?_
  show xE MX4_blockAround (8, [some (.ref 11), some (.int (nI a)), some (.int (nI b)), none, none, none, none], [.int (mk (fun v => decide (v = b))), .int (mk (fun v => decide (v = a)))], w) _ _
  refine xE.go 6 (F1 := (18, [some (.ref 11), some (.int (nI a)), some (.int (nI b)), some (.int ((mk (fun v => decide (v = a))) ||| (mk (fun v => decide (v = b))))), some (.int 1023), some (.int 0), none], [], w)) rfl ?_
  rw [mk_or, show (fun v => decide (v = a) || decide (v = b)) = two a b from rfl]
  refine xE.loop (S := Unit) (fun k s => (18, [some (.ref 11), some (.int (nI a)), some (.int (nI b)), some (.int (mk (two a b))), some (.int (mk (fun z => ally (fun u => decide (z = u) || rch G (but u) (two a b) z) k))), some (.int (nI k)), none], [], w)) (fun _ _ => True) 10 () (by rw [show mk (fun z => ally (fun u => decide (z = u) || rch G (but u) (two a b) z) 0) = 1023 by rw [mk_all]; rfl]; rfl) (trivial) ?_ ?_
  · intro k s hk hI K
    have K := K () trivial
    refine xE.go 3 (F1 := (bif decide (10 ≤ (nI k)) then 68 else 25, [some (.ref 11), some (.int (nI a)), some (.int (nI b)), some (.int (mk (two a b))), some (.int (mk (fun z => ally (fun u => decide (z = u) || rch G (but u) (two a b) z) k))), some (.int (nI k)), none], [], w)) rfl ?_
    refine xE.brF (decide_eq_false (nI_ge (b := 10) (by omega) (by omega))) ?_
    refine xE.go 2 (F1 := (30, [some (.ref 11), some (.int (nI a)), some (.int (nI b)), some (.int (mk (two a b))), some (.int (mk (fun z => ally (fun u => decide (z = u) || rch G (but u) (two a b) z) k))), some (.int (nI k)), none], [.int (nI k), .int 1023], w)) rfl ?_
    refine xE.call rfl (c_bit (show k < 10 by omega)) ?_
    show xE MX4_blockAround (33, [some (.ref 11), some (.int (nI a)), some (.int (nI b)), some (.int (mk (two a b))), some (.int (mk (fun z => ally (fun u => decide (z = u) || rch G (but u) (two a b) z) k))), some (.int (nI k)), none], [.int (mk (fun v => decide (v = k))), .int 1023], w) _ _
    refine xE.go 3 (F1 := (36, [some (.ref 11), some (.int (nI a)), some (.int (nI b)), some (.int (mk (two a b))), some (.int (mk (fun z => ally (fun u => decide (z = u) || rch G (but u) (two a b) z) k))), some (.int (nI k)), none], [.int (1023 &&& ((mk (fun v => decide (v = k))) ^^^ (-1)))], w)) rfl ?_
    rw [mk_all, mk_andn, show (fun v => true && !decide (v = k)) = but k from funext fun v => by simp [but]]
    refine xE.go 8 (F1 := (50, [some (.ref 11), some (.int (nI a)), some (.int (nI b)), some (.int (mk (two a b))), some (.int (mk (fun z => ally (fun u => decide (z = u) || rch G (but u) (two a b) z) k))), some (.int (nI k)), some (.int (mk (but k)))], [.int (mk (but k)), .int ((mk (two a b)) &&& (mk (but k))), .ref 12, .int (mk (fun z => ally (fun u => decide (z = u) || rch G (but u) (two a b) z) k))], w)) rfl ?_
    rw [mk_and]
    refine xE.call rfl (c_reach rfl hw) ?_
    show xE MX4_blockAround (53, [some (.ref 11), some (.int (nI a)), some (.int (nI b)), some (.int (mk (two a b))), some (.int (mk (fun z => ally (fun u => decide (z = u) || rch G (but u) (two a b) z) k))), some (.int (nI k)), some (.int (mk (but k)))], [.int (mk (rch G (but k) (fun v => two a b v && but k v))), .int (mk (fun z => ally (fun u => decide (z = u) || rch G (but u) (two a b) z) k))], w) _ _
    refine xE.go 1 (F1 := (55, [some (.ref 11), some (.int (nI a)), some (.int (nI b)), some (.int (mk (two a b))), some (.int (mk (fun z => ally (fun u => decide (z = u) || rch G (but u) (two a b) z) k))), some (.int (nI k)), some (.int (mk (but k)))], [.int (nI k), .int (mk (rch G (but k) (fun v => two a b v && but k v))), .int (mk (fun z => ally (fun u => decide (z = u) || rch G (but u) (two a b) z) k))], w)) rfl ?_
    refine xE.call rfl (c_bit (show k < 10 by omega)) ?_
    show xE MX4_blockAround (58, [some (.ref 11), some (.int (nI a)), some (.int (nI b)), some (.int (mk (two a b))), some (.int (mk (fun z => ally (fun u => decide (z = u) || rch G (but u) (two a b) z) k))), some (.int (nI k)), some (.int (mk (but k)))], [.int (mk (fun v => decide (v = k))), .int (mk (rch G (but k) (fun v => two a b v && but k v))), .int (mk (fun z => ally (fun u => decide (z = u) || rch G (but u) (two a b) z) k))], w) _ _
    refine xE.go 2 (F1 := (60, [some (.ref 11), some (.int (nI a)), some (.int (nI b)), some (.int (mk (two a b))), some (.int (mk (fun z => ally (fun u => decide (z = u) || rch G (but u) (two a b) z) k))), some (.int (nI k)), some (.int (mk (but k)))], [.int ((mk (fun z => ally (fun u => decide (z = u) || rch G (but u) (two a b) z) k)) &&& ((mk (rch G (but k) (fun v => two a b v && but k v))) ||| (mk (fun v => decide (v = k)))))], w)) rfl ?_
    rw [mk_or, mk_and]
    refine xE.go 3 (F1 := (18, [some (.ref 11), some (.int (nI a)), some (.int (nI b)), some (.int (mk (two a b))), some (.int (mk (fun z => ally (fun u => decide (z = u) || rch G (but u) (two a b) z) k && (rch G (but k) (fun v => two a b v && but k v) z || decide (z = k))))), some (.int ((nI k) + 1)), some (.int (mk (but k)))], [], w)) rfl ?_
    refine xE.less [some (.ref 11), some (.int (nI a)), some (.int (nI b)), some (.int (mk (two a b))), some (.int (mk (fun z => ally (fun u => decide (z = u) || rch G (but u) (two a b) z) k && (rch G (but k) (fun v => two a b v && but k v) z || decide (z = k))))), some (.int ((nI k) + 1)), none] (by simp [xleb]) ?_
    rw [← nI_succ, show mk (fun z => ally (fun u => decide (z = u) || rch G (but u) (two a b) z) k && (rch G (but k) (fun v => two a b v && but k v) z || decide (z = k))) = mk (fun z => ally (fun u => decide (z = u) || rch G (but u) (two a b) z) (k + 1)) from mk_ext fun z hz => by
      rw [rch_two z hz, Bool.or_comm]
      rfl]
    exact K
  · intro s hI
    refine xE.go 3 (F1 := (bif decide (10 ≤ (nI 10)) then 68 else 25, [some (.ref 11), some (.int (nI a)), some (.int (nI b)), some (.int (mk (two a b))), some (.int (mk (fun z => ally (fun u => decide (z = u) || rch G (but u) (two a b) z) 10))), some (.int (nI 10)), none], [], w)) rfl ?_
    refine xE.brT (rfl) ?_
    rw [show mk (fun z => ally (fun u => decide (z = u) || rch G (but u) (two a b) z) 10) = mk (bS G (a, b)) from mk_ext fun z hz => by
      show _ = (decide (z < 10) && _)
      rw [decide_eq_true hz, Bool.true_and]
      rfl]
    refine xE.go 1 (F1 := (70, [some (.ref 11), some (.int (nI a)), some (.int (nI b)), some (.int (mk (two a b))), some (.int (mk (bS G (a, b)))), some (.int (nI 10)), none], [.int (mk (bS G (a, b)))], w)) rfl ?_
    exact xE.iret .int 1 rfl rfl (rfl)
theorem c_blockOf_p {w : xW} {G : Nat → Nat → Bool} {a b : Nat} {l : List xPr} (ha : a < 10) (hb : b < 10) (hn : w.1 11 7 = nI l.length) (h9 : l.length ≤ 9) (hl : ∀ i p, l[i]? = some p → w.1 13 i = mk (bS G p)) : xC MX4_blockOf [.ref 11, .int (nI a), .int (nI b)] w (some (.int (match l.findIdx? (fun p => bS G p a && bS G p b) with | some i => nI i | none => -1))) w := by
  unfold xC
  show xE MX4_blockOf (0, [some (.ref 11), some (.int (nI a)), some (.int (nI b)), none, none], [], w) _ _
  refine xE.go 1 (F1 := (1, [some (.ref 11), some (.int (nI a)), some (.int (nI b)), none, none], [.int (nI a)], w)) rfl ?_
  refine xE.call rfl (c_bit ha) ?_
  show xE MX4_blockOf (4, [some (.ref 11), some (.int (nI a)), some (.int (nI b)), none, none], [.int (mk (fun v => decide (v = a)))], w) _ _
  refine xE.go 1 (F1 := (5, [some (.ref 11), some (.int (nI a)), some (.int (nI b)), none, none], [.int (nI b), .int (mk (fun v => decide (v = a)))], w)) rfl ?_
  refine xE.call rfl (c_bit hb) ?_
  show xE MX4_blockOf (8, [some (.ref 11), some (.int (nI a)), some (.int (nI b)), none, none], [.int (mk (fun v => decide (v = b))), .int (mk (fun v => decide (v = a)))], w) _ _
  refine xE.go 4 (F1 := (13, [some (.ref 11), some (.int (nI a)), some (.int (nI b)), some (.int ((mk (fun v => decide (v = a))) ||| (mk (fun v => decide (v = b))))), some (.int 0)], [], w)) rfl ?_
  rw [mk_or, show (fun v => decide (v = a) || decide (v = b)) = two a b from rfl]
  refine xE.loop (S := Unit) (fun k s => (13, [some (.ref 11), some (.int (nI a)), some (.int (nI b)), some (.int (mk (two a b))), some (.int (nI k))], [], w)) (fun k _ => ∀ i p, i < k → l[i]? = some p → (bS G p a && bS G p b) = false) l.length () (rfl) (fun _ _ h => absurd h (by omega)) ?_ ?_
  · intro k s hk hI K
    have hg : l[k]? = some l[k] := List.getElem?_eq_getElem hk
    refine xE.go 4 (F1 := (bif decide ((w.1 11 7) ≤ (nI k)) then 47 else 22, [some (.ref 11), some (.int (nI a)), some (.int (nI b)), some (.int (mk (two a b))), some (.int (nI k))], [], w)) rfl ?_
    refine xE.brF (by rw [hn]; exact decide_eq_false (nI_ge hk (by omega))) ?_
    refine xE.go 4 (F1 := (29, [some (.ref 11), some (.int (nI a)), some (.int (nI b)), some (.int (mk (two a b))), some (.int (nI k))], [.int (nI k), .ref 13, .int (mk (two a b))], w)) rfl ?_
    refine xE.call rfl (c_at rfl (by omega) (by omega)) ?_
    show xE MX4_blockOf (32, [some (.ref 11), some (.int (nI a)), some (.int (nI b)), some (.int (mk (two a b))), some (.int (nI k))], [.int (w.1 13 k), .int (mk (two a b))], w) _ _
    rw [hl k _ hg]
    refine xE.go 4 (F1 := (bif !decide (((mk (two a b)) &&& ((mk (bS G l[k])) ^^^ (-1))) = 0) then 41 else 38, [some (.ref 11), some (.int (nI a)), some (.int (nI b)), some (.int (mk (two a b))), some (.int (nI k))], [], w)) rfl ?_
    rw [mk_andn, mk_ends ha hb]
    cases hf : (bS G l[k] a && bS G l[k] b) with
    | true =>
      refine xE.brF (by decide) ?_
      rw [show l.findIdx? (fun p => bS G p a && bS G p b) = some k from List.findIdx?_eq_some_iff_getElem.mpr ⟨hk, hf, fun j hj => by
        rw [hI j _ hj (List.getElem?_eq_getElem (by omega))]
        decide⟩]
      refine xE.go 1 (F1 := (40, [some (.ref 11), some (.int (nI a)), some (.int (nI b)), some (.int (mk (two a b))), some (.int (nI k))], [.int (nI k)], w)) rfl ?_
      exact xE.iret .int 1 rfl rfl (rfl)
    | false =>
      refine xE.brT (by decide) ?_
      refine xE.go 2 (F1 := (13, [some (.ref 11), some (.int (nI a)), some (.int (nI b)), some (.int (mk (two a b))), some (.int ((nI k) + 1))], [], w)) rfl ?_
      rw [← nI_succ]
      refine K () (fun i p hi hp => ?_)
      by_cases e : i = k
      · rw [e, hg] at hp
        cases hp
        exact hf
      · exact hI i p (by omega) hp
  · intro s hI
    refine xE.go 4 (F1 := (bif decide ((w.1 11 7) ≤ (nI l.length)) then 47 else 22, [some (.ref 11), some (.int (nI a)), some (.int (nI b)), some (.int (mk (two a b))), some (.int (nI l.length))], [], w)) rfl ?_
    refine xE.brT (by rw [hn]; exact decide_eq_true (Int32.le_refl _)) ?_
    rw [show l.findIdx? (fun p => bS G p a && bS G p b) = none from List.findIdx?_eq_none_iff.mpr fun p hp => by
      obtain ⟨i, hi, e⟩ := List.mem_iff_getElem.mp hp
      exact hI i p hi (by rw [List.getElem?_eq_getElem hi, e])]
    refine xE.go 1 (F1 := (48, [some (.ref 11), some (.int (nI a)), some (.int (nI b)), some (.int (mk (two a b))), some (.int (nI l.length))], [.int (-1)], w)) rfl ?_
    exact xE.iret .int 1 rfl rfl (rfl)
theorem c_flat_p {w : xW} {i : Nat} (hi : i < 9) : xC MX4_isPlanar [.ref 11, .int (nI i)] w (some (.int (if w.1 16 i = w.1 14 i then 1 else 0))) w := by
  unfold xC
  show xE MX4_isPlanar (0, [some (.ref 11), some (.int (nI i))], [], w) _ _
  refine xE.go 3 (F1 := (5, [some (.ref 11), some (.int (nI i))], [.int (nI i), .ref 16], w)) rfl ?_
  refine xE.call rfl (c_at rfl hi (by omega)) ?_
  show xE MX4_isPlanar (8, [some (.ref 11), some (.int (nI i))], [.int (w.1 16 i)], w) _ _
  refine xE.go 3 (F1 := (13, [some (.ref 11), some (.int (nI i))], [.int (nI i), .ref 14, .int (w.1 16 i)], w)) rfl ?_
  refine xE.call rfl (c_at rfl hi (by omega)) ?_
  show xE MX4_isPlanar (16, [some (.ref 11), some (.int (nI i))], [.int (w.1 14 i), .int (w.1 16 i)], w) _ _
  refine xE.go 1 (F1 := (bif !decide ((w.1 16 i) = (w.1 14 i)) then 23 else 19, [some (.ref 11), some (.int (nI i))], [], w)) rfl ?_
  by_cases e : w.1 16 i = w.1 14 i
  · rw [if_pos e]
    refine xE.brF (by rw [decide_eq_true e]; rfl) ?_
    refine xE.go 2 (F1 := (24, [some (.ref 11), some (.int (nI i))], [.int 1], w)) rfl ?_
    exact xE.iret .boolean 1 rfl rfl (rfl)
  · rw [if_neg e]
    refine xE.brT (by rw [decide_eq_false e]; rfl) ?_
    refine xE.go 1 (F1 := (24, [some (.ref 11), some (.int (nI i))], [.int 0], w)) rfl ?_
    exact xE.iret .boolean 1 rfl rfl (rfl)
theorem c_eedges_p {w : xW} : xC MX1_edges [.ref 18] w (some (.int (w.1 18 4))) w := by
  unfold xC
  show xE MX1_edges (0, [some (.ref 18)], [], w) _ _
  refine xE.go 2 (F1 := (4, [some (.ref 18)], [.int (w.1 18 4)], w)) rfl ?_
  exact xE.iret .int 1 rfl rfl (rfl)
theorem c_eplaced_p {w : xW} : xC MX1_placedEdges [.ref 18] w (some (.int (w.1 18 5))) w := by
  unfold xC
  show xE MX1_placedEdges (0, [some (.ref 18)], [], w) _ _
  refine xE.go 2 (F1 := (4, [some (.ref 18)], [.int (w.1 18 5)], w)) rfl ?_
  exact xE.iret .int 1 rfl rfl (rfl)
theorem c_efaces_p {w : xW} : xC MX1_faces [.ref 18] w (some (.int (w.1 18 8))) w := by
  unfold xC
  show xE MX1_faces (0, [some (.ref 18)], [], w) _ _
  refine xE.go 2 (F1 := (4, [some (.ref 18)], [.int (w.1 18 8)], w)) rfl ?_
  exact xE.iret .int 1 rfl rfl (rfl)

theorem c_fillNear_t {w : xW} : xD MX4_fillNear [.ref 25] w (fun r w1 => r = none ∧ (∀ v, v < 10 → w1.1 26 v = mk (gr (w.2 25 9) v)) ∧ xkq [(26, none)] w w1) := by
  refine xD.of ?_
  show xQ MX4_fillNear (0, [some (.ref 25), none, none, none], [], w) _
  refine xQ.go 2 (F1 := (2, [some (.ref 25), some (.int 0), none, none], [], w)) rfl ?_
  refine xQ.loop (S := xW) (fun k s => (2, [some (.ref 25), some (.int (nI k)), none, none], [], s)) (fun k s => xkq [(26, none)] w s ∧ ∀ v, v < k → s.1 26 v = mk (gr (w.2 25 9) v)) 10 w (rfl) (⟨xkq_rfl, fun v hv => absurd hv (by omega)⟩) ?_ ?_
  · intro k s hk hI K
    obtain ⟨i1, i2⟩ := hI
    refine xQ.go 3 (F1 := (bif decide (10 ≤ (nI k)) then 61 else 8, [some (.ref 25), some (.int (nI k)), none, none], [], s)) rfl ?_
    refine xQ.brF (decide_eq_false (nI_ge (b := 10) (by omega) (by omega))) ?_
    refine xQ.go 4 (F1 := (12, [some (.ref 25), some (.int (nI k)), some (.int 0), some (.int 0)], [], s)) rfl ?_
    refine xQ.loop (S := Unit) (fun k2 s2 => (12, [some (.ref 25), some (.int (nI k)), some (.int (mk (fun z => decide (z < k2) && gr (w.2 25 9) k z))), some (.int (nI k2))], [], s)) (fun _ _ => True) 10 () (by rw [show mk (fun z => decide (z < 0) && gr (w.2 25 9) k z) = 0 by rw [mk_0]; exact mk_ext fun z _ => by simp]; rfl) (trivial) ?_ ?_
    · intro k2 s2 hk2 hI2 K2
      have K2 := K2 () trivial
      refine xQ.go 3 (F1 := (bif decide (10 ≤ (nI k2)) then 46 else 18, [some (.ref 25), some (.int (nI k)), some (.int (mk (fun z => decide (z < k2) && gr (w.2 25 9) k z))), some (.int (nI k2))], [], s)) rfl ?_
      refine xQ.brF (decide_eq_false (nI_ge (b := 10) (by omega) (by omega))) ?_
      by_cases e : k = k2
      · refine xQ.go 4 (F1 := (24, [some (.ref 25), some (.int (nI k)), some (.int (mk (fun z => decide (z < k2) && gr (w.2 25 9) k z))), some (.int (nI k2))], [.int (nI k2), .int (nI k), .long (s.2 25 9)], s)) rfl ?_
        refine xQ.call rfl (c_pb_0 (fun a b ha hb hne e1 e2 => hne (by rw [← jI_inj (a := k) (b := a) (by omega) (by omega) e1, ← jI_inj (a := k2) (b := b) (by omega) (by omega) e2, e]))) ?_
        show xQ MX4_fillNear (27, [some (.ref 25), some (.int (nI k)), some (.int (mk (fun z => decide (z < k2) && gr (w.2 25 9) k z))), some (.int (nI k2))], [.long 0, .long (s.2 25 9)], s) _
        refine xQ.go 4 (F1 := (bif decide ((lg_cmp ((s.2 25 9) &&& 0) 0) = 0) then 40 else 33, [some (.ref 25), some (.int (nI k)), some (.int (mk (fun z => decide (z < k2) && gr (w.2 25 9) k z))), some (.int (nI k2))], [], s)) rfl ?_
        rw [lg_cmp0]
        refine xQ.brT (decide_eq_true (by simp)) ?_
        refine xQ.go 2 (F1 := (12, [some (.ref 25), some (.int (nI k)), some (.int (mk (fun z => decide (z < k2) && gr (w.2 25 9) k z))), some (.int ((nI k2) + 1))], [], s)) rfl ?_
        rw [← nI_succ, show mk (fun z => decide (z < k2) && gr (w.2 25 9) k z) = mk (fun z => decide (z < k2 + 1) && gr (w.2 25 9) k z) from mk_ext fun z hz => by
          by_cases e2 : z = k2
          · rw [e2, ← e, gr_irr, Bool.and_false, Bool.and_false]
          · rw [show decide (z < k2) = decide (z < k2 + 1) from decide_eq_decide.mpr (by omega)]]
        exact K2
      · refine xQ.go 4 (F1 := (24, [some (.ref 25), some (.int (nI k)), some (.int (mk (fun z => decide (z < k2) && gr (w.2 25 9) k z))), some (.int (nI k2))], [.int (nI k2), .int (nI k), .long (s.2 25 9)], s)) rfl ?_
        refine xQ.call rfl (c_pb (by omega) (by omega) e) ?_
        show xQ MX4_fillNear (27, [some (.ref 25), some (.int (nI k)), some (.int (mk (fun z => decide (z < k2) && gr (w.2 25 9) k z))), some (.int (nI k2))], [.long (pbit k k2), .long (s.2 25 9)], s) _
        refine xQ.go 4 (F1 := (bif decide ((lg_cmp ((s.2 25 9) &&& (pbit k k2)) 0) = 0) then 40 else 33, [some (.ref 25), some (.int (nI k)), some (.int (mk (fun z => decide (z < k2) && gr (w.2 25 9) k z))), some (.int (nI k2))], [], s)) rfl ?_
        rw [lg_cmp0, xkq_atJ i1 25 9]
        cases hg : gr (w.2 25 9) k k2 with
        | true =>
          refine xQ.brF (decide_eq_false (fun e3 => by rw [(and_zero _ (by omega) (by omega) e).mp e3] at hg; cases hg)) ?_
          refine xQ.go 2 (F1 := (35, [some (.ref 25), some (.int (nI k)), some (.int (mk (fun z => decide (z < k2) && gr (w.2 25 9) k z))), some (.int (nI k2))], [.int (nI k2), .int (mk (fun z => decide (z < k2) && gr (w.2 25 9) k z))], s)) rfl ?_
          refine xQ.call rfl (c_bit (show k2 < 10 by omega)) ?_
          show xQ MX4_fillNear (38, [some (.ref 25), some (.int (nI k)), some (.int (mk (fun z => decide (z < k2) && gr (w.2 25 9) k z))), some (.int (nI k2))], [.int (mk (fun v => decide (v = k2))), .int (mk (fun z => decide (z < k2) && gr (w.2 25 9) k z))], s) _
          refine xQ.go 4 (F1 := (12, [some (.ref 25), some (.int (nI k)), some (.int ((mk (fun z => decide (z < k2) && gr (w.2 25 9) k z)) ||| (mk (fun v => decide (v = k2))))), some (.int ((nI k2) + 1))], [], s)) rfl ?_
          rw [mk_or, ← nI_succ, show mk (fun v => (decide (v < k2) && gr (w.2 25 9) k v) || decide (v = k2)) = mk (fun z => decide (z < k2 + 1) && gr (w.2 25 9) k z) from mk_ext fun z hz => by
            by_cases e2 : z = k2
            · rw [e2, hg]; simp
            · rw [show decide (z < k2) = decide (z < k2 + 1) from decide_eq_decide.mpr (by omega), decide_eq_false e2, Bool.or_false]]
          exact K2
        | false =>
          refine xQ.brT (decide_eq_true ((and_zero _ (by omega) (by omega) e).mpr hg)) ?_
          refine xQ.go 2 (F1 := (12, [some (.ref 25), some (.int (nI k)), some (.int (mk (fun z => decide (z < k2) && gr (w.2 25 9) k z))), some (.int ((nI k2) + 1))], [], s)) rfl ?_
          rw [← nI_succ, show mk (fun z => decide (z < k2) && gr (w.2 25 9) k z) = mk (fun z => decide (z < k2 + 1) && gr (w.2 25 9) k z) from mk_ext fun z hz => by
            by_cases e2 : z = k2
            · rw [e2, hg, Bool.and_false, Bool.and_false]
            · rw [show decide (z < k2) = decide (z < k2 + 1) from decide_eq_decide.mpr (by omega)]]
          exact K2
    · intro s2 hI2
      refine xQ.go 3 (F1 := (bif decide (10 ≤ (nI 10)) then 46 else 18, [some (.ref 25), some (.int (nI k)), some (.int (mk (fun z => decide (z < 10) && gr (w.2 25 9) k z))), some (.int (nI 10))], [], s)) rfl ?_
      refine xQ.brT (rfl) ?_
      rw [show mk (fun z => decide (z < 10) && gr (w.2 25 9) k z) = mk (gr (w.2 25 9) k) from mk_ext fun z hz => by rw [decide_eq_true hz, Bool.true_and]]
      refine xQ.go 4 (F1 := (52, [some (.ref 25), some (.int (nI k)), some (.int (mk (gr (w.2 25 9) k))), some (.int (nI 10))], [.int (mk (gr (w.2 25 9) k)), .int (nI k), .ref 26], s)) rfl ?_
      refine xQ.call rfl (c_put rfl (by omega) (by omega)) ?_
      show xQ MX4_fillNear (55, [some (.ref 25), some (.int (nI k)), some (.int (mk (gr (w.2 25 9) k))), some (.int (nI 10))], [], (xuI s 26 k (mk (gr (w.2 25 9) k)))) _
      refine xQ.go 2 (F1 := (2, [some (.ref 25), some (.int ((nI k) + 1)), some (.int (mk (gr (w.2 25 9) k))), some (.int (nI 10))], [], (xuI s 26 k (mk (gr (w.2 25 9) k))))) rfl ?_
      refine xQ.less [some (.ref 25), some (.int ((nI k) + 1)), none, none] (by simp [xleb]) ?_
      rw [← nI_succ]
      refine K _ ⟨xkq_I i1 rfl, fun v hv => ?_⟩
      rw [uI1]
      by_cases e : v = k
      · rw [if_pos ⟨rfl, e⟩, e]
      · rw [if_neg (fun h => e h.2)]
        exact i2 v (by omega)
  · intro s hI
    refine xQ.go 3 (F1 := (bif decide (10 ≤ (nI 10)) then 61 else 8, [some (.ref 25), some (.int (nI 10)), none, none], [], s)) rfl ?_
    refine xQ.brT (rfl) ?_
    refine xQ.vret 1 rfl rfl ?_
    exact ⟨rfl, hI.2, hI.1⟩
theorem c_blockAround_t {w : xW} {G : Nat → Nat → Bool} {a b : Nat} (hw : ∀ v, v < 10 → w.1 26 v = mk (G v)) (ha : a < 10) (hb : b < 10) : xC MX4_blockAround [.ref 25, .int (nI a), .int (nI b)] w (some (.int (mk (bS G (a, b))))) w := by
  unfold xC
  show xE MX4_blockAround (0, [some (.ref 25), some (.int (nI a)), some (.int (nI b)), none, none, none, none], [], w) _ _
  refine xE.go 1 (F1 := (1, [some (.ref 25), some (.int (nI a)), some (.int (nI b)), none, none, none, none], [.int (nI a)], w)) rfl ?_
  refine xE.call rfl (c_bit ha) ?_
  show xE MX4_blockAround (4, [some (.ref 25), some (.int (nI a)), some (.int (nI b)), none, none, none, none], [.int (mk (fun v => decide (v = a)))], w) _ _
  refine xE.go 1 (F1 := (5, [some (.ref 25), some (.int (nI a)), some (.int (nI b)), none, none, none, none], [.int (nI b), .int (mk (fun v => decide (v = a)))], w)) rfl ?_
  refine xE.call rfl (c_bit hb) ?_
  show xE MX4_blockAround (8, [some (.ref 25), some (.int (nI a)), some (.int (nI b)), none, none, none, none], [.int (mk (fun v => decide (v = b))), .int (mk (fun v => decide (v = a)))], w) _ _
  refine xE.go 6 (F1 := (18, [some (.ref 25), some (.int (nI a)), some (.int (nI b)), some (.int ((mk (fun v => decide (v = a))) ||| (mk (fun v => decide (v = b))))), some (.int 1023), some (.int 0), none], [], w)) rfl ?_
  rw [mk_or, show (fun v => decide (v = a) || decide (v = b)) = two a b from rfl]
  refine xE.loop (S := Unit) (fun k s => (18, [some (.ref 25), some (.int (nI a)), some (.int (nI b)), some (.int (mk (two a b))), some (.int (mk (fun z => ally (fun u => decide (z = u) || rch G (but u) (two a b) z) k))), some (.int (nI k)), none], [], w)) (fun _ _ => True) 10 () (by rw [show mk (fun z => ally (fun u => decide (z = u) || rch G (but u) (two a b) z) 0) = 1023 by rw [mk_all]; rfl]; rfl) (trivial) ?_ ?_
  · intro k s hk hI K
    have K := K () trivial
    refine xE.go 3 (F1 := (bif decide (10 ≤ (nI k)) then 68 else 25, [some (.ref 25), some (.int (nI a)), some (.int (nI b)), some (.int (mk (two a b))), some (.int (mk (fun z => ally (fun u => decide (z = u) || rch G (but u) (two a b) z) k))), some (.int (nI k)), none], [], w)) rfl ?_
    refine xE.brF (decide_eq_false (nI_ge (b := 10) (by omega) (by omega))) ?_
    refine xE.go 2 (F1 := (30, [some (.ref 25), some (.int (nI a)), some (.int (nI b)), some (.int (mk (two a b))), some (.int (mk (fun z => ally (fun u => decide (z = u) || rch G (but u) (two a b) z) k))), some (.int (nI k)), none], [.int (nI k), .int 1023], w)) rfl ?_
    refine xE.call rfl (c_bit (show k < 10 by omega)) ?_
    show xE MX4_blockAround (33, [some (.ref 25), some (.int (nI a)), some (.int (nI b)), some (.int (mk (two a b))), some (.int (mk (fun z => ally (fun u => decide (z = u) || rch G (but u) (two a b) z) k))), some (.int (nI k)), none], [.int (mk (fun v => decide (v = k))), .int 1023], w) _ _
    refine xE.go 3 (F1 := (36, [some (.ref 25), some (.int (nI a)), some (.int (nI b)), some (.int (mk (two a b))), some (.int (mk (fun z => ally (fun u => decide (z = u) || rch G (but u) (two a b) z) k))), some (.int (nI k)), none], [.int (1023 &&& ((mk (fun v => decide (v = k))) ^^^ (-1)))], w)) rfl ?_
    rw [mk_all, mk_andn, show (fun v => true && !decide (v = k)) = but k from funext fun v => by simp [but]]
    refine xE.go 8 (F1 := (50, [some (.ref 25), some (.int (nI a)), some (.int (nI b)), some (.int (mk (two a b))), some (.int (mk (fun z => ally (fun u => decide (z = u) || rch G (but u) (two a b) z) k))), some (.int (nI k)), some (.int (mk (but k)))], [.int (mk (but k)), .int ((mk (two a b)) &&& (mk (but k))), .ref 26, .int (mk (fun z => ally (fun u => decide (z = u) || rch G (but u) (two a b) z) k))], w)) rfl ?_
    rw [mk_and]
    refine xE.call rfl (c_reach rfl hw) ?_
    show xE MX4_blockAround (53, [some (.ref 25), some (.int (nI a)), some (.int (nI b)), some (.int (mk (two a b))), some (.int (mk (fun z => ally (fun u => decide (z = u) || rch G (but u) (two a b) z) k))), some (.int (nI k)), some (.int (mk (but k)))], [.int (mk (rch G (but k) (fun v => two a b v && but k v))), .int (mk (fun z => ally (fun u => decide (z = u) || rch G (but u) (two a b) z) k))], w) _ _
    refine xE.go 1 (F1 := (55, [some (.ref 25), some (.int (nI a)), some (.int (nI b)), some (.int (mk (two a b))), some (.int (mk (fun z => ally (fun u => decide (z = u) || rch G (but u) (two a b) z) k))), some (.int (nI k)), some (.int (mk (but k)))], [.int (nI k), .int (mk (rch G (but k) (fun v => two a b v && but k v))), .int (mk (fun z => ally (fun u => decide (z = u) || rch G (but u) (two a b) z) k))], w)) rfl ?_
    refine xE.call rfl (c_bit (show k < 10 by omega)) ?_
    show xE MX4_blockAround (58, [some (.ref 25), some (.int (nI a)), some (.int (nI b)), some (.int (mk (two a b))), some (.int (mk (fun z => ally (fun u => decide (z = u) || rch G (but u) (two a b) z) k))), some (.int (nI k)), some (.int (mk (but k)))], [.int (mk (fun v => decide (v = k))), .int (mk (rch G (but k) (fun v => two a b v && but k v))), .int (mk (fun z => ally (fun u => decide (z = u) || rch G (but u) (two a b) z) k))], w) _ _
    refine xE.go 2 (F1 := (60, [some (.ref 25), some (.int (nI a)), some (.int (nI b)), some (.int (mk (two a b))), some (.int (mk (fun z => ally (fun u => decide (z = u) || rch G (but u) (two a b) z) k))), some (.int (nI k)), some (.int (mk (but k)))], [.int ((mk (fun z => ally (fun u => decide (z = u) || rch G (but u) (two a b) z) k)) &&& ((mk (rch G (but k) (fun v => two a b v && but k v))) ||| (mk (fun v => decide (v = k)))))], w)) rfl ?_
    rw [mk_or, mk_and]
    refine xE.go 3 (F1 := (18, [some (.ref 25), some (.int (nI a)), some (.int (nI b)), some (.int (mk (two a b))), some (.int (mk (fun z => ally (fun u => decide (z = u) || rch G (but u) (two a b) z) k && (rch G (but k) (fun v => two a b v && but k v) z || decide (z = k))))), some (.int ((nI k) + 1)), some (.int (mk (but k)))], [], w)) rfl ?_
    refine xE.less [some (.ref 25), some (.int (nI a)), some (.int (nI b)), some (.int (mk (two a b))), some (.int (mk (fun z => ally (fun u => decide (z = u) || rch G (but u) (two a b) z) k && (rch G (but k) (fun v => two a b v && but k v) z || decide (z = k))))), some (.int ((nI k) + 1)), none] (by simp [xleb]) ?_
    rw [← nI_succ, show mk (fun z => ally (fun u => decide (z = u) || rch G (but u) (two a b) z) k && (rch G (but k) (fun v => two a b v && but k v) z || decide (z = k))) = mk (fun z => ally (fun u => decide (z = u) || rch G (but u) (two a b) z) (k + 1)) from mk_ext fun z hz => by
      rw [rch_two z hz, Bool.or_comm]
      rfl]
    exact K
  · intro s hI
    refine xE.go 3 (F1 := (bif decide (10 ≤ (nI 10)) then 68 else 25, [some (.ref 25), some (.int (nI a)), some (.int (nI b)), some (.int (mk (two a b))), some (.int (mk (fun z => ally (fun u => decide (z = u) || rch G (but u) (two a b) z) 10))), some (.int (nI 10)), none], [], w)) rfl ?_
    refine xE.brT (rfl) ?_
    rw [show mk (fun z => ally (fun u => decide (z = u) || rch G (but u) (two a b) z) 10) = mk (bS G (a, b)) from mk_ext fun z hz => by
      show _ = (decide (z < 10) && _)
      rw [decide_eq_true hz, Bool.true_and]
      rfl]
    refine xE.go 1 (F1 := (70, [some (.ref 25), some (.int (nI a)), some (.int (nI b)), some (.int (mk (two a b))), some (.int (mk (bS G (a, b)))), some (.int (nI 10)), none], [.int (mk (bS G (a, b)))], w)) rfl ?_
    exact xE.iret .int 1 rfl rfl (rfl)
theorem c_blockOf_t {w : xW} {G : Nat → Nat → Bool} {a b : Nat} {l : List xPr} (ha : a < 10) (hb : b < 10) (hn : w.1 25 7 = nI l.length) (h9 : l.length ≤ 9) (hl : ∀ i p, l[i]? = some p → w.1 27 i = mk (bS G p)) : xC MX4_blockOf [.ref 25, .int (nI a), .int (nI b)] w (some (.int (match l.findIdx? (fun p => bS G p a && bS G p b) with | some i => nI i | none => -1))) w := by
  unfold xC
  show xE MX4_blockOf (0, [some (.ref 25), some (.int (nI a)), some (.int (nI b)), none, none], [], w) _ _
  refine xE.go 1 (F1 := (1, [some (.ref 25), some (.int (nI a)), some (.int (nI b)), none, none], [.int (nI a)], w)) rfl ?_
  refine xE.call rfl (c_bit ha) ?_
  show xE MX4_blockOf (4, [some (.ref 25), some (.int (nI a)), some (.int (nI b)), none, none], [.int (mk (fun v => decide (v = a)))], w) _ _
  refine xE.go 1 (F1 := (5, [some (.ref 25), some (.int (nI a)), some (.int (nI b)), none, none], [.int (nI b), .int (mk (fun v => decide (v = a)))], w)) rfl ?_
  refine xE.call rfl (c_bit hb) ?_
  show xE MX4_blockOf (8, [some (.ref 25), some (.int (nI a)), some (.int (nI b)), none, none], [.int (mk (fun v => decide (v = b))), .int (mk (fun v => decide (v = a)))], w) _ _
  refine xE.go 4 (F1 := (13, [some (.ref 25), some (.int (nI a)), some (.int (nI b)), some (.int ((mk (fun v => decide (v = a))) ||| (mk (fun v => decide (v = b))))), some (.int 0)], [], w)) rfl ?_
  rw [mk_or, show (fun v => decide (v = a) || decide (v = b)) = two a b from rfl]
  refine xE.loop (S := Unit) (fun k s => (13, [some (.ref 25), some (.int (nI a)), some (.int (nI b)), some (.int (mk (two a b))), some (.int (nI k))], [], w)) (fun k _ => ∀ i p, i < k → l[i]? = some p → (bS G p a && bS G p b) = false) l.length () (rfl) (fun _ _ h => absurd h (by omega)) ?_ ?_
  · intro k s hk hI K
    have hg : l[k]? = some l[k] := List.getElem?_eq_getElem hk
    refine xE.go 4 (F1 := (bif decide ((w.1 25 7) ≤ (nI k)) then 47 else 22, [some (.ref 25), some (.int (nI a)), some (.int (nI b)), some (.int (mk (two a b))), some (.int (nI k))], [], w)) rfl ?_
    refine xE.brF (by rw [hn]; exact decide_eq_false (nI_ge hk (by omega))) ?_
    refine xE.go 4 (F1 := (29, [some (.ref 25), some (.int (nI a)), some (.int (nI b)), some (.int (mk (two a b))), some (.int (nI k))], [.int (nI k), .ref 27, .int (mk (two a b))], w)) rfl ?_
    refine xE.call rfl (c_at rfl (by omega) (by omega)) ?_
    show xE MX4_blockOf (32, [some (.ref 25), some (.int (nI a)), some (.int (nI b)), some (.int (mk (two a b))), some (.int (nI k))], [.int (w.1 27 k), .int (mk (two a b))], w) _ _
    rw [hl k _ hg]
    refine xE.go 4 (F1 := (bif !decide (((mk (two a b)) &&& ((mk (bS G l[k])) ^^^ (-1))) = 0) then 41 else 38, [some (.ref 25), some (.int (nI a)), some (.int (nI b)), some (.int (mk (two a b))), some (.int (nI k))], [], w)) rfl ?_
    rw [mk_andn, mk_ends ha hb]
    cases hf : (bS G l[k] a && bS G l[k] b) with
    | true =>
      refine xE.brF (by decide) ?_
      rw [show l.findIdx? (fun p => bS G p a && bS G p b) = some k from List.findIdx?_eq_some_iff_getElem.mpr ⟨hk, hf, fun j hj => by
        rw [hI j _ hj (List.getElem?_eq_getElem (by omega))]
        decide⟩]
      refine xE.go 1 (F1 := (40, [some (.ref 25), some (.int (nI a)), some (.int (nI b)), some (.int (mk (two a b))), some (.int (nI k))], [.int (nI k)], w)) rfl ?_
      exact xE.iret .int 1 rfl rfl (rfl)
    | false =>
      refine xE.brT (by decide) ?_
      refine xE.go 2 (F1 := (13, [some (.ref 25), some (.int (nI a)), some (.int (nI b)), some (.int (mk (two a b))), some (.int ((nI k) + 1))], [], w)) rfl ?_
      rw [← nI_succ]
      refine K () (fun i p hi hp => ?_)
      by_cases e : i = k
      · rw [e, hg] at hp
        cases hp
        exact hf
      · exact hI i p (by omega) hp
  · intro s hI
    refine xE.go 4 (F1 := (bif decide ((w.1 25 7) ≤ (nI l.length)) then 47 else 22, [some (.ref 25), some (.int (nI a)), some (.int (nI b)), some (.int (mk (two a b))), some (.int (nI l.length))], [], w)) rfl ?_
    refine xE.brT (by rw [hn]; exact decide_eq_true (Int32.le_refl _)) ?_
    rw [show l.findIdx? (fun p => bS G p a && bS G p b) = none from List.findIdx?_eq_none_iff.mpr fun p hp => by
      obtain ⟨i, hi, e⟩ := List.mem_iff_getElem.mp hp
      exact hI i p hi (by rw [List.getElem?_eq_getElem hi, e])]
    refine xE.go 1 (F1 := (48, [some (.ref 25), some (.int (nI a)), some (.int (nI b)), some (.int (mk (two a b))), some (.int (nI l.length))], [.int (-1)], w)) rfl ?_
    exact xE.iret .int 1 rfl rfl (rfl)
theorem c_flat_t {w : xW} {i : Nat} (hi : i < 9) : xC MX4_isPlanar [.ref 25, .int (nI i)] w (some (.int (if w.1 30 i = w.1 28 i then 1 else 0))) w := by
  unfold xC
  show xE MX4_isPlanar (0, [some (.ref 25), some (.int (nI i))], [], w) _ _
  refine xE.go 3 (F1 := (5, [some (.ref 25), some (.int (nI i))], [.int (nI i), .ref 30], w)) rfl ?_
  refine xE.call rfl (c_at rfl hi (by omega)) ?_
  show xE MX4_isPlanar (8, [some (.ref 25), some (.int (nI i))], [.int (w.1 30 i)], w) _ _
  refine xE.go 3 (F1 := (13, [some (.ref 25), some (.int (nI i))], [.int (nI i), .ref 28, .int (w.1 30 i)], w)) rfl ?_
  refine xE.call rfl (c_at rfl hi (by omega)) ?_
  show xE MX4_isPlanar (16, [some (.ref 25), some (.int (nI i))], [.int (w.1 28 i), .int (w.1 30 i)], w) _ _
  refine xE.go 1 (F1 := (bif !decide ((w.1 30 i) = (w.1 28 i)) then 23 else 19, [some (.ref 25), some (.int (nI i))], [], w)) rfl ?_
  by_cases e : w.1 30 i = w.1 28 i
  · rw [if_pos e]
    refine xE.brF (by rw [decide_eq_true e]; rfl) ?_
    refine xE.go 2 (F1 := (24, [some (.ref 25), some (.int (nI i))], [.int 1], w)) rfl ?_
    exact xE.iret .boolean 1 rfl rfl (rfl)
  · rw [if_neg e]
    refine xE.brT (by rw [decide_eq_false e]; rfl) ?_
    refine xE.go 1 (F1 := (24, [some (.ref 25), some (.int (nI i))], [.int 0], w)) rfl ?_
    exact xE.iret .boolean 1 rfl rfl (rfl)
theorem c_eedges_t {w : xW} : xC MX1_edges [.ref 32] w (some (.int (w.1 32 4))) w := by
  unfold xC
  show xE MX1_edges (0, [some (.ref 32)], [], w) _ _
  refine xE.go 2 (F1 := (4, [some (.ref 32)], [.int (w.1 32 4)], w)) rfl ?_
  exact xE.iret .int 1 rfl rfl (rfl)
theorem c_eplaced_t {w : xW} : xC MX1_placedEdges [.ref 32] w (some (.int (w.1 32 5))) w := by
  unfold xC
  show xE MX1_placedEdges (0, [some (.ref 32)], [], w) _ _
  refine xE.go 2 (F1 := (4, [some (.ref 32)], [.int (w.1 32 5)], w)) rfl ?_
  exact xE.iret .int 1 rfl rfl (rfl)
theorem c_efaces_t {w : xW} : xC MX1_faces [.ref 32] w (some (.int (w.1 32 8))) w := by
  unfold xC
  show xE MX1_faces (0, [some (.ref 32)], [], w) _ _
  refine xE.go 2 (F1 := (4, [some (.ref 32)], [.int (w.1 32 8)], w)) rfl ?_
  exact xE.iret .int 1 rfl rfl (rfl)
