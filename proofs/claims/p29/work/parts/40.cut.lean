/-- vertices in one block, in more than one -/
def cvS (f : Nat → Nat → Bool) : Nat → (Nat → Bool) × (Nat → Bool)
  | 0 => (fun _ => false, fun _ => false)
  | k + 1 => (fun v => (cvS f k).1 v || f k v, fun v => (cvS f k).2 v || ((cvS f k).1 v && f k v))
theorem c_pcut_p {w : xW} {f : Nat → Nat → Bool} {n : Nat} (hn : w.1 11 7 = nI n) (h9 : n ≤ 9) (hw : ∀ i, i < n → w.1 13 i = mk (f i)) : xC MX4_cutVertices [.ref 11] w (some (.int (nI (cnt (cvS f n).2 10)))) w := by
  unfold xC
  show xE MX4_cutVertices (0, [some (.ref 11), none, none, none, none], [], w) _ _
  refine xE.go 6 (F1 := (6, [some (.ref 11), some (.int 0), some (.int 0), some (.int 0), none], [], w)) rfl ?_
  refine xE.loop (S := Unit) (fun k s => (6, [some (.ref 11), some (.int (mk (cvS f k).1)), some (.int (mk (cvS f k).2)), some (.int (nI k)), none], [], w)) (fun _ _ => True) n () (by rw [show mk (cvS f 0).1 = 0 from mk_0.symm, show mk (cvS f 0).2 = 0 from mk_0.symm]; rfl) (trivial) ?_ ?_
  · intro k s hk hI K
    have K := K () trivial
    refine xE.go 4 (F1 := (bif decide ((w.1 11 7) ≤ (nI k)) then 42 else 14, [some (.ref 11), some (.int (mk (cvS f k).1)), some (.int (mk (cvS f k).2)), some (.int (nI k)), none], [], w)) rfl ?_
    refine xE.brF (by rw [hn]; exact decide_eq_false (nI_ge hk (by omega))) ?_
    refine xE.go 3 (F1 := (19, [some (.ref 11), some (.int (mk (cvS f k).1)), some (.int (mk (cvS f k).2)), some (.int (nI k)), none], [.int (nI k), .ref 13], w)) rfl ?_
    refine xE.call rfl (c_at rfl (by omega) (by omega)) ?_
    show xE MX4_cutVertices (22, [some (.ref 11), some (.int (mk (cvS f k).1)), some (.int (mk (cvS f k).2)), some (.int (nI k)), none], [.int (w.1 13 k)], w) _ _
    rw [hw k hk]
    refine xE.go 13 (F1 := (6, [some (.ref 11), some (.int ((mk (cvS f k).1) ||| (mk (f k)))), some (.int ((mk (cvS f k).2) ||| ((mk (cvS f k).1) &&& (mk (f k))))), some (.int ((nI k) + 1)), some (.int (mk (f k)))], [], w)) rfl ?_
    refine xE.less [some (.ref 11), some (.int ((mk (cvS f k).1) ||| (mk (f k)))), some (.int ((mk (cvS f k).2) ||| ((mk (cvS f k).1) &&& (mk (f k))))), some (.int ((nI k) + 1)), none] (by simp [xleb]) ?_
    rw [mk_and, mk_or, mk_or, ← nI_succ]
    exact K
  · intro s hI
    refine xE.go 4 (F1 := (bif decide ((w.1 11 7) ≤ (nI n)) then 42 else 14, [some (.ref 11), some (.int (mk (cvS f n).1)), some (.int (mk (cvS f n).2)), some (.int (nI n)), none], [], w)) rfl ?_
    refine xE.brT (by rw [hn]; exact decide_eq_true (Int32.le_refl _)) ?_
    refine xE.go 1 (F1 := (43, [some (.ref 11), some (.int (mk (cvS f n).1)), some (.int (mk (cvS f n).2)), some (.int (nI n)), none], [.int (mk (cvS f n).2)], w)) rfl ?_
    refine xE.call rfl (c_ones) ?_
    show xE MX4_cutVertices (46, [some (.ref 11), some (.int (mk (cvS f n).1)), some (.int (mk (cvS f n).2)), some (.int (nI n)), none], [.int (nI (cnt (cvS f n).2 10))], w) _ _
    exact xE.iret .int 1 rfl rfl (rfl)
theorem c_pbridge_p {w : xW} {f : Nat → Nat} {n : Nat} (hn : w.1 11 7 = nI n) (h9 : n ≤ 9) (hw : ∀ i, i < n → w.1 14 i = nI (f i) ∧ f i ≤ 45) : xC MX4_bridges [.ref 11] w (some (.int (nI (cnt (fun i => decide (f i = 1)) n)))) w := by
  unfold xC
  show xE MX4_bridges (0, [some (.ref 11), none, none], [], w) _ _
  refine xE.go 4 (F1 := (4, [some (.ref 11), some (.int 0), some (.int 0)], [], w)) rfl ?_
  refine xE.loop (S := Unit) (fun k s => (4, [some (.ref 11), some (.int (nI (cnt (fun i => decide (f i = 1)) k))), some (.int (nI k))], [], w)) (fun _ _ => True) n () (rfl) (trivial) ?_ ?_
  · intro k s hk hI K
    have K := K () trivial
    obtain ⟨h1, h2⟩ := hw k hk
    have e : cnt (fun i => decide (f i = 1)) (k + 1) = cnt (fun i => decide (f i = 1)) k + (bif decide (f k = 1) then 1 else 0) := rfl
    rw [e] at K
    refine xE.go 4 (F1 := (bif decide ((w.1 11 7) ≤ (nI k)) then 33 else 12, [some (.ref 11), some (.int (nI (cnt (fun i => decide (f i = 1)) k))), some (.int (nI k))], [], w)) rfl ?_
    refine xE.brF (by rw [hn]; exact decide_eq_false (nI_ge hk (by omega))) ?_
    refine xE.go 3 (F1 := (17, [some (.ref 11), some (.int (nI (cnt (fun i => decide (f i = 1)) k))), some (.int (nI k))], [.int (nI k), .ref 14], w)) rfl ?_
    refine xE.call rfl (c_at rfl (by omega) (by omega)) ?_
    show xE MX4_bridges (20, [some (.ref 11), some (.int (nI (cnt (fun i => decide (f i = 1)) k))), some (.int (nI k))], [.int (w.1 14 k)], w) _ _
    rw [h1]
    by_cases h : f k = 1
    · refine xE.go 2 (F1 := (bif !decide ((nI (f k)) = 1) then 27 else 24, [some (.ref 11), some (.int (nI (cnt (fun i => decide (f i = 1)) k))), some (.int (nI k))], [], w)) rfl ?_
      refine xE.brF (by rw [h]; rfl) ?_
      refine xE.go 3 (F1 := (4, [some (.ref 11), some (.int ((nI (cnt (fun i => decide (f i = 1)) k)) + 1)), some (.int ((nI k) + 1))], [], w)) rfl ?_
      rw [← nI_succ, ← nI_succ]
      rw [decide_eq_true h] at K
      exact K
    · refine xE.go 2 (F1 := (bif !decide ((nI (f k)) = 1) then 27 else 24, [some (.ref 11), some (.int (nI (cnt (fun i => decide (f i = 1)) k))), some (.int (nI k))], [], w)) rfl ?_
      refine xE.brT (by rw [show (1 : Int32) = nI 1 from rfl, decide_eq_false (fun e => h (jI_inj (by omega) (by omega) e))]; rfl) ?_
      refine xE.go 2 (F1 := (4, [some (.ref 11), some (.int (nI (cnt (fun i => decide (f i = 1)) k))), some (.int ((nI k) + 1))], [], w)) rfl ?_
      rw [← nI_succ]
      rw [decide_eq_false h] at K
      exact K
  · intro s hI
    refine xE.go 4 (F1 := (bif decide ((w.1 11 7) ≤ (nI n)) then 33 else 12, [some (.ref 11), some (.int (nI (cnt (fun i => decide (f i = 1)) n))), some (.int (nI n))], [], w)) rfl ?_
    refine xE.brT (by rw [hn]; exact decide_eq_true (Int32.le_refl _)) ?_
    refine xE.go 1 (F1 := (34, [some (.ref 11), some (.int (nI (cnt (fun i => decide (f i = 1)) n))), some (.int (nI n))], [.int (nI (cnt (fun i => decide (f i = 1)) n))], w)) rfl ?_
    exact xE.iret .int 1 rfl rfl (rfl)

theorem c_pcut_t {w : xW} {f : Nat → Nat → Bool} {n : Nat} (hn : w.1 25 7 = nI n) (h9 : n ≤ 9) (hw : ∀ i, i < n → w.1 27 i = mk (f i)) : xC MX4_cutVertices [.ref 25] w (some (.int (nI (cnt (cvS f n).2 10)))) w := by
  unfold xC
  show xE MX4_cutVertices (0, [some (.ref 25), none, none, none, none], [], w) _ _
  refine xE.go 6 (F1 := (6, [some (.ref 25), some (.int 0), some (.int 0), some (.int 0), none], [], w)) rfl ?_
  refine xE.loop (S := Unit) (fun k s => (6, [some (.ref 25), some (.int (mk (cvS f k).1)), some (.int (mk (cvS f k).2)), some (.int (nI k)), none], [], w)) (fun _ _ => True) n () (by rw [show mk (cvS f 0).1 = 0 from mk_0.symm, show mk (cvS f 0).2 = 0 from mk_0.symm]; rfl) (trivial) ?_ ?_
  · intro k s hk hI K
    have K := K () trivial
    refine xE.go 4 (F1 := (bif decide ((w.1 25 7) ≤ (nI k)) then 42 else 14, [some (.ref 25), some (.int (mk (cvS f k).1)), some (.int (mk (cvS f k).2)), some (.int (nI k)), none], [], w)) rfl ?_
    refine xE.brF (by rw [hn]; exact decide_eq_false (nI_ge hk (by omega))) ?_
    refine xE.go 3 (F1 := (19, [some (.ref 25), some (.int (mk (cvS f k).1)), some (.int (mk (cvS f k).2)), some (.int (nI k)), none], [.int (nI k), .ref 27], w)) rfl ?_
    refine xE.call rfl (c_at rfl (by omega) (by omega)) ?_
    show xE MX4_cutVertices (22, [some (.ref 25), some (.int (mk (cvS f k).1)), some (.int (mk (cvS f k).2)), some (.int (nI k)), none], [.int (w.1 27 k)], w) _ _
    rw [hw k hk]
    refine xE.go 13 (F1 := (6, [some (.ref 25), some (.int ((mk (cvS f k).1) ||| (mk (f k)))), some (.int ((mk (cvS f k).2) ||| ((mk (cvS f k).1) &&& (mk (f k))))), some (.int ((nI k) + 1)), some (.int (mk (f k)))], [], w)) rfl ?_
    refine xE.less [some (.ref 25), some (.int ((mk (cvS f k).1) ||| (mk (f k)))), some (.int ((mk (cvS f k).2) ||| ((mk (cvS f k).1) &&& (mk (f k))))), some (.int ((nI k) + 1)), none] (by simp [xleb]) ?_
    rw [mk_and, mk_or, mk_or, ← nI_succ]
    exact K
  · intro s hI
    refine xE.go 4 (F1 := (bif decide ((w.1 25 7) ≤ (nI n)) then 42 else 14, [some (.ref 25), some (.int (mk (cvS f n).1)), some (.int (mk (cvS f n).2)), some (.int (nI n)), none], [], w)) rfl ?_
    refine xE.brT (by rw [hn]; exact decide_eq_true (Int32.le_refl _)) ?_
    refine xE.go 1 (F1 := (43, [some (.ref 25), some (.int (mk (cvS f n).1)), some (.int (mk (cvS f n).2)), some (.int (nI n)), none], [.int (mk (cvS f n).2)], w)) rfl ?_
    refine xE.call rfl (c_ones) ?_
    show xE MX4_cutVertices (46, [some (.ref 25), some (.int (mk (cvS f n).1)), some (.int (mk (cvS f n).2)), some (.int (nI n)), none], [.int (nI (cnt (cvS f n).2 10))], w) _ _
    exact xE.iret .int 1 rfl rfl (rfl)
theorem c_pbridge_t {w : xW} {f : Nat → Nat} {n : Nat} (hn : w.1 25 7 = nI n) (h9 : n ≤ 9) (hw : ∀ i, i < n → w.1 28 i = nI (f i) ∧ f i ≤ 45) : xC MX4_bridges [.ref 25] w (some (.int (nI (cnt (fun i => decide (f i = 1)) n)))) w := by
  unfold xC
  show xE MX4_bridges (0, [some (.ref 25), none, none], [], w) _ _
  refine xE.go 4 (F1 := (4, [some (.ref 25), some (.int 0), some (.int 0)], [], w)) rfl ?_
  refine xE.loop (S := Unit) (fun k s => (4, [some (.ref 25), some (.int (nI (cnt (fun i => decide (f i = 1)) k))), some (.int (nI k))], [], w)) (fun _ _ => True) n () (rfl) (trivial) ?_ ?_
  · intro k s hk hI K
    have K := K () trivial
    obtain ⟨h1, h2⟩ := hw k hk
    have e : cnt (fun i => decide (f i = 1)) (k + 1) = cnt (fun i => decide (f i = 1)) k + (bif decide (f k = 1) then 1 else 0) := rfl
    rw [e] at K
    refine xE.go 4 (F1 := (bif decide ((w.1 25 7) ≤ (nI k)) then 33 else 12, [some (.ref 25), some (.int (nI (cnt (fun i => decide (f i = 1)) k))), some (.int (nI k))], [], w)) rfl ?_
    refine xE.brF (by rw [hn]; exact decide_eq_false (nI_ge hk (by omega))) ?_
    refine xE.go 3 (F1 := (17, [some (.ref 25), some (.int (nI (cnt (fun i => decide (f i = 1)) k))), some (.int (nI k))], [.int (nI k), .ref 28], w)) rfl ?_
    refine xE.call rfl (c_at rfl (by omega) (by omega)) ?_
    show xE MX4_bridges (20, [some (.ref 25), some (.int (nI (cnt (fun i => decide (f i = 1)) k))), some (.int (nI k))], [.int (w.1 28 k)], w) _ _
    rw [h1]
    by_cases h : f k = 1
    · refine xE.go 2 (F1 := (bif !decide ((nI (f k)) = 1) then 27 else 24, [some (.ref 25), some (.int (nI (cnt (fun i => decide (f i = 1)) k))), some (.int (nI k))], [], w)) rfl ?_
      refine xE.brF (by rw [h]; rfl) ?_
      refine xE.go 3 (F1 := (4, [some (.ref 25), some (.int ((nI (cnt (fun i => decide (f i = 1)) k)) + 1)), some (.int ((nI k) + 1))], [], w)) rfl ?_
      rw [← nI_succ, ← nI_succ]
      rw [decide_eq_true h] at K
      exact K
    · refine xE.go 2 (F1 := (bif !decide ((nI (f k)) = 1) then 27 else 24, [some (.ref 25), some (.int (nI (cnt (fun i => decide (f i = 1)) k))), some (.int (nI k))], [], w)) rfl ?_
      refine xE.brT (by rw [show (1 : Int32) = nI 1 from rfl, decide_eq_false (fun e => h (jI_inj (by omega) (by omega) e))]; rfl) ?_
      refine xE.go 2 (F1 := (4, [some (.ref 25), some (.int (nI (cnt (fun i => decide (f i = 1)) k))), some (.int ((nI k) + 1))], [], w)) rfl ?_
      rw [← nI_succ]
      rw [decide_eq_false h] at K
      exact K
  · intro s hI
    refine xE.go 4 (F1 := (bif decide ((w.1 25 7) ≤ (nI n)) then 33 else 12, [some (.ref 25), some (.int (nI (cnt (fun i => decide (f i = 1)) n))), some (.int (nI n))], [], w)) rfl ?_
    refine xE.brT (by rw [hn]; exact decide_eq_true (Int32.le_refl _)) ?_
    refine xE.go 1 (F1 := (34, [some (.ref 25), some (.int (nI (cnt (fun i => decide (f i = 1)) n))), some (.int (nI n))], [.int (nI (cnt (fun i => decide (f i = 1)) n))], w)) rfl ?_
    exact xE.iret .int 1 rfl rfl (rfl)
