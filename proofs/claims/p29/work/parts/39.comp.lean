/-- how the components are counted -/
def cmpS (G : Nat → Nat → Bool) : Nat → (Nat → Bool) × Nat
  | 0 => (fun _ => false, 0)
  | k + 1 => if (cmpS G k).1 k then cmpS G k else (fun v => (cmpS G k).1 v || rch G (fun _ => true) (fun z => decide (z = k)) v, (cmpS G k).2 + 1)
theorem cmpS_le (G : Nat → Nat → Bool) : ∀ k, (cmpS G k).2 ≤ k
  | 0 => Nat.le_refl _
  | k + 1 => by
    have := cmpS_le G k
    unfold cmpS
    split
    · omega
    · show _ + 1 ≤ _
      omega
theorem c_pcomp_p {w : xW} {G : Nat → Nat → Bool} (hw : ∀ v, v < 10 → w.1 12 v = mk (G v)) : xC MX4_components [.ref 11] w (some (.int (nI (cmpS G 10).2))) w := by
  unfold xC
  show xE MX4_components (0, [some (.ref 11), none, none, none], [], w) _ _
  refine xE.go 6 (F1 := (6, [some (.ref 11), some (.int 0), some (.int 0), some (.int 0)], [], w)) rfl ?_
  refine xE.loop (S := Unit) (fun k s => (6, [some (.ref 11), some (.int (nI (cmpS G k).2)), some (.int (mk (cmpS G k).1)), some (.int (nI k))], [], w)) (fun _ _ => True) 10 () (by rw [show mk (cmpS G 0).1 = 0 from mk_0.symm]; rfl) (trivial) ?_ ?_
  · intro k s hk hI K
    have K := K () trivial
    refine xE.go 3 (F1 := (bif decide (10 ≤ (nI k)) then 46 else 12, [some (.ref 11), some (.int (nI (cmpS G k).2)), some (.int (mk (cmpS G k).1)), some (.int (nI k))], [], w)) rfl ?_
    refine xE.brF (decide_eq_false (nI_ge (b := 10) (by omega) (by omega))) ?_
    refine xE.go 2 (F1 := (14, [some (.ref 11), some (.int (nI (cmpS G k).2)), some (.int (mk (cmpS G k).1)), some (.int (nI k))], [.int (nI k), .int (mk (cmpS G k).1)], w)) rfl ?_
    refine xE.call rfl (c_has (show k < 10 by omega)) ?_
    show xE MX4_components (17, [some (.ref 11), some (.int (nI (cmpS G k).2)), some (.int (mk (cmpS G k).1)), some (.int (nI k))], [.int (if (cmpS G k).1 k then 1 else 0)], w) _ _
    have e : cmpS G (k + 1) = if (cmpS G k).1 k then cmpS G k else (fun v => (cmpS G k).1 v || rch G (fun _ => true) (fun z => decide (z = k)) v, (cmpS G k).2 + 1) := rfl
    cases hs : (cmpS G k).1 k with
    | true =>
      rw [hs, if_pos rfl] at e
      show xE MX4_components (17, [some (.ref 11), some (.int (nI (cmpS G k).2)), some (.int (mk (cmpS G k).1)), some (.int (nI k))], [.int 1], w) _ _
      refine xE.go 1 (F1 := (bif !decide (1 = 0) then 40 else 20, [some (.ref 11), some (.int (nI (cmpS G k).2)), some (.int (mk (cmpS G k).1)), some (.int (nI k))], [], w)) rfl ?_
      refine xE.brT (rfl) ?_
      refine xE.go 2 (F1 := (6, [some (.ref 11), some (.int (nI (cmpS G k).2)), some (.int (mk (cmpS G k).1)), some (.int ((nI k) + 1))], [], w)) rfl ?_
      rw [← nI_succ]
      rw [e] at K
      exact K
    | false =>
      rw [hs, if_neg (by decide)] at e
      show xE MX4_components (17, [some (.ref 11), some (.int (nI (cmpS G k).2)), some (.int (mk (cmpS G k).1)), some (.int (nI k))], [.int 0], w) _ _
      refine xE.go 1 (F1 := (bif !decide (0 = 0) then 40 else 20, [some (.ref 11), some (.int (nI (cmpS G k).2)), some (.int (mk (cmpS G k).1)), some (.int (nI k))], [], w)) rfl ?_
      refine xE.brF (rfl) ?_
      refine xE.go 4 (F1 := (26, [some (.ref 11), some (.int (nI (cmpS G k).2)), some (.int (mk (cmpS G k).1)), some (.int (nI k))], [.int (nI k), .ref 12, .int (mk (cmpS G k).1)], w)) rfl ?_
      refine xE.call rfl (c_bit (show k < 10 by omega)) ?_
      show xE MX4_components (29, [some (.ref 11), some (.int (nI (cmpS G k).2)), some (.int (mk (cmpS G k).1)), some (.int (nI k))], [.int (mk (fun v => decide (v = k))), .ref 12, .int (mk (cmpS G k).1)], w) _ _
      refine xE.go 1 (F1 := (32, [some (.ref 11), some (.int (nI (cmpS G k).2)), some (.int (mk (cmpS G k).1)), some (.int (nI k))], [.int 1023, .int (mk (fun v => decide (v = k))), .ref 12, .int (mk (cmpS G k).1)], w)) rfl ?_
      rw [mk_all]
      refine xE.call rfl (c_reach rfl hw) ?_
      show xE MX4_components (35, [some (.ref 11), some (.int (nI (cmpS G k).2)), some (.int (mk (cmpS G k).1)), some (.int (nI k))], [.int (mk (rch G (fun _ => true) (fun v => decide (v = k)))), .int (mk (cmpS G k).1)], w) _ _
      refine xE.go 5 (F1 := (6, [some (.ref 11), some (.int ((nI (cmpS G k).2) + 1)), some (.int ((mk (cmpS G k).1) ||| (mk (rch G (fun _ => true) (fun v => decide (v = k)))))), some (.int ((nI k) + 1))], [], w)) rfl ?_
      rw [mk_or, ← nI_succ, ← nI_succ]
      rw [e] at K
      exact K
  · intro s hI
    refine xE.go 3 (F1 := (bif decide (10 ≤ (nI 10)) then 46 else 12, [some (.ref 11), some (.int (nI (cmpS G 10).2)), some (.int (mk (cmpS G 10).1)), some (.int (nI 10))], [], w)) rfl ?_
    refine xE.brT (rfl) ?_
    refine xE.go 1 (F1 := (47, [some (.ref 11), some (.int (nI (cmpS G 10).2)), some (.int (mk (cmpS G 10).1)), some (.int (nI 10))], [.int (nI (cmpS G 10).2)], w)) rfl ?_
    exact xE.iret .int 1 rfl rfl (rfl)

theorem c_pcomp_t {w : xW} {G : Nat → Nat → Bool} (hw : ∀ v, v < 10 → w.1 26 v = mk (G v)) : xC MX4_components [.ref 25] w (some (.int (nI (cmpS G 10).2))) w := by
  unfold xC
  show xE MX4_components (0, [some (.ref 25), none, none, none], [], w) _ _
  refine xE.go 6 (F1 := (6, [some (.ref 25), some (.int 0), some (.int 0), some (.int 0)], [], w)) rfl ?_
  refine xE.loop (S := Unit) (fun k s => (6, [some (.ref 25), some (.int (nI (cmpS G k).2)), some (.int (mk (cmpS G k).1)), some (.int (nI k))], [], w)) (fun _ _ => True) 10 () (by rw [show mk (cmpS G 0).1 = 0 from mk_0.symm]; rfl) (trivial) ?_ ?_
  · intro k s hk hI K
    have K := K () trivial
    refine xE.go 3 (F1 := (bif decide (10 ≤ (nI k)) then 46 else 12, [some (.ref 25), some (.int (nI (cmpS G k).2)), some (.int (mk (cmpS G k).1)), some (.int (nI k))], [], w)) rfl ?_
    refine xE.brF (decide_eq_false (nI_ge (b := 10) (by omega) (by omega))) ?_
    refine xE.go 2 (F1 := (14, [some (.ref 25), some (.int (nI (cmpS G k).2)), some (.int (mk (cmpS G k).1)), some (.int (nI k))], [.int (nI k), .int (mk (cmpS G k).1)], w)) rfl ?_
    refine xE.call rfl (c_has (show k < 10 by omega)) ?_
    show xE MX4_components (17, [some (.ref 25), some (.int (nI (cmpS G k).2)), some (.int (mk (cmpS G k).1)), some (.int (nI k))], [.int (if (cmpS G k).1 k then 1 else 0)], w) _ _
    have e : cmpS G (k + 1) = if (cmpS G k).1 k then cmpS G k else (fun v => (cmpS G k).1 v || rch G (fun _ => true) (fun z => decide (z = k)) v, (cmpS G k).2 + 1) := rfl
    cases hs : (cmpS G k).1 k with
    | true =>
      rw [hs, if_pos rfl] at e
      show xE MX4_components (17, [some (.ref 25), some (.int (nI (cmpS G k).2)), some (.int (mk (cmpS G k).1)), some (.int (nI k))], [.int 1], w) _ _
      refine xE.go 1 (F1 := (bif !decide (1 = 0) then 40 else 20, [some (.ref 25), some (.int (nI (cmpS G k).2)), some (.int (mk (cmpS G k).1)), some (.int (nI k))], [], w)) rfl ?_
      refine xE.brT (rfl) ?_
      refine xE.go 2 (F1 := (6, [some (.ref 25), some (.int (nI (cmpS G k).2)), some (.int (mk (cmpS G k).1)), some (.int ((nI k) + 1))], [], w)) rfl ?_
      rw [← nI_succ]
      rw [e] at K
      exact K
    | false =>
      rw [hs, if_neg (by decide)] at e
      show xE MX4_components (17, [some (.ref 25), some (.int (nI (cmpS G k).2)), some (.int (mk (cmpS G k).1)), some (.int (nI k))], [.int 0], w) _ _
      refine xE.go 1 (F1 := (bif !decide (0 = 0) then 40 else 20, [some (.ref 25), some (.int (nI (cmpS G k).2)), some (.int (mk (cmpS G k).1)), some (.int (nI k))], [], w)) rfl ?_
      refine xE.brF (rfl) ?_
      refine xE.go 4 (F1 := (26, [some (.ref 25), some (.int (nI (cmpS G k).2)), some (.int (mk (cmpS G k).1)), some (.int (nI k))], [.int (nI k), .ref 26, .int (mk (cmpS G k).1)], w)) rfl ?_
      refine xE.call rfl (c_bit (show k < 10 by omega)) ?_
      show xE MX4_components (29, [some (.ref 25), some (.int (nI (cmpS G k).2)), some (.int (mk (cmpS G k).1)), some (.int (nI k))], [.int (mk (fun v => decide (v = k))), .ref 26, .int (mk (cmpS G k).1)], w) _ _
      refine xE.go 1 (F1 := (32, [some (.ref 25), some (.int (nI (cmpS G k).2)), some (.int (mk (cmpS G k).1)), some (.int (nI k))], [.int 1023, .int (mk (fun v => decide (v = k))), .ref 26, .int (mk (cmpS G k).1)], w)) rfl ?_
      rw [mk_all]
      refine xE.call rfl (c_reach rfl hw) ?_
      show xE MX4_components (35, [some (.ref 25), some (.int (nI (cmpS G k).2)), some (.int (mk (cmpS G k).1)), some (.int (nI k))], [.int (mk (rch G (fun _ => true) (fun v => decide (v = k)))), .int (mk (cmpS G k).1)], w) _ _
      refine xE.go 5 (F1 := (6, [some (.ref 25), some (.int ((nI (cmpS G k).2) + 1)), some (.int ((mk (cmpS G k).1) ||| (mk (rch G (fun _ => true) (fun v => decide (v = k)))))), some (.int ((nI k) + 1))], [], w)) rfl ?_
      rw [mk_or, ← nI_succ, ← nI_succ]
      rw [e] at K
      exact K
  · intro s hI
    refine xE.go 3 (F1 := (bif decide (10 ≤ (nI 10)) then 46 else 12, [some (.ref 25), some (.int (nI (cmpS G 10).2)), some (.int (mk (cmpS G 10).1)), some (.int (nI 10))], [], w)) rfl ?_
    refine xE.brT (rfl) ?_
    refine xE.go 1 (F1 := (47, [some (.ref 25), some (.int (nI (cmpS G 10).2)), some (.int (mk (cmpS G 10).1)), some (.int (nI 10))], [.int (nI (cmpS G 10).2)], w)) rfl ?_
    exact xE.iret .int 1 rfl rfl (rfl)
