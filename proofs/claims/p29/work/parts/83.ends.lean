/-! the ends of the paths -/
/-- cell 47 holds the graph -/
def gF (w : xW) (F : xG) : Prop := ∀ v, v < 10 → w.1 47 v = mk (F v)
theorem enF_s (F : xG) (B : Nat → Bool) (k p a : Nat) : enF F B (k + 1) p a = if B a = true then a else enF F B k a (low (fun z => F a z && !decide (z = p))) := rfl
theorem enF_more {F : xG} (hg : gok F) (h1 : ∀ v, cnt (F v) 10 ≠ 1) {p v : Nat} (h : F v p = true) : low (fun z => F v z && !decide (z = p)) < 10 ∧ (F v (low (fun z => F v z && !decide (z = p))) && !decide (low (fun z => F v z && !decide (z = p)) = p)) = true := by
  obtain ⟨hv, hp⟩ := hg.2.2 _ _ h
  have hex : ∃ z, z < 10 ∧ (F v z && !decide (z = p)) = true := by
    refine Classical.byContradiction fun hno => h1 v ?_
    rw [cnt_ext (T := fun z => decide (z = p)) (fun z hz => ?_), cnt_eq, if_pos hp]
    cases e : decide (z = p) with
    | true => rw [of_decide_eq_true e]; exact h
    | false =>
      cases e2 : F v z with
      | false => rfl
      | true => exact absurd ⟨z, hz, by rw [e, e2]; rfl⟩ hno
  obtain ⟨z, hz, h2⟩ := hex
  exact low_some (S := fun z => F v z && !decide (z = p)) hz h2
theorem enF_lt {F : xG} (hg : gok F) (h1 : ∀ v, cnt (F v) 10 ≠ 1) {B : Nat → Bool} : ∀ (k p v : Nat), F v p = true → enF F B k p v < 10
  | 0, p, v, h => (hg.2.2 _ _ h).1
  | k + 1, p, v, h => by
    rw [enF_s]
    by_cases hb : B v = true
    · rw [if_pos hb]
      exact (hg.2.2 _ _ h).1
    · rw [if_neg hb]
      obtain ⟨m1, m2⟩ := enF_more hg h1 h
      rw [Bool.and_eq_true] at m2
      exact enF_lt hg h1 k v _ (by rw [hg.1]; exact m2.1)
theorem c_end {w : xW} {F : xG} {B : Nat → Bool} {v u : Nat} (hg : gok F) (h1 : ∀ v, cnt (F v) 10 ≠ 1) (hF : gF w F) (h : F v u = true) : xC ML_end [.int (nI v), .int (nI u), .int (mk B), .ref 47] w (some (.int (nI (enF F B 10 v u)))) w := by
  obtain ⟨hv, hu⟩ := hg.2.2 _ _ h
  unfold xC
  show xE ML_end (0, [some (.int (nI v)), some (.int (nI u)), some (.int (mk B)), some (.ref 47), none, none, none, none], [], w) _ _
  refine xE.go 6 (F1 := (9, [some (.int (nI v)), some (.int (nI u)), some (.int (mk B)), some (.ref 47), some (.int (nI v)), some (.int (nI u)), some (.int 0), none], [], w)) rfl ?_
  refine xE.loop (S := Nat × Nat) (fun k s => (9, [some (.int (nI v)), some (.int (nI u)), some (.int (mk B)), some (.ref 47), some (.int (nI s.1)), some (.int (nI s.2)), some (.int (nI k)), none], [], w)) (fun k s => F s.1 s.2 = true ∧ enF F B (10 - k) s.1 s.2 = enF F B 10 v u) 10 (v, u) (rfl) (⟨h, rfl⟩) ?_ ?_
  · intro k s hk hI K
    obtain ⟨p, a⟩ := s
    obtain ⟨hI1, hI2⟩ := hI
    have hI1 : F p a = true := hI1
    have hI2 : enF F B (10 - k) p a = enF F B 10 v u := hI2
    obtain ⟨hp, ha⟩ := hg.2.2 _ _ hI1
    rw [show 10 - k = (10 - (k + 1)) + 1 by omega, enF_s] at hI2
    show xE ML_end (9, [some (.int (nI v)), some (.int (nI u)), some (.int (mk B)), some (.ref 47), some (.int (nI p)), some (.int (nI a)), some (.int (nI k)), none], [], w) _ _
    refine xE.go 3 (F1 := (bif decide (10 ≤ (nI k)) then 55 else 16, [some (.int (nI v)), some (.int (nI u)), some (.int (mk B)), some (.ref 47), some (.int (nI p)), some (.int (nI a)), some (.int (nI k)), none], [], w)) rfl ?_
    refine xE.brF (decide_eq_false (nI_ge (b := 10) (by omega) (by omega))) ?_
    refine xE.go 6 (F1 := (bif !decide ((((mk B) >>> ((nI a) &&& 31)) &&& 1) = 0) then 55 else 25, [some (.int (nI v)), some (.int (nI u)), some (.int (mk B)), some (.ref 47), some (.int (nI p)), some (.int (nI a)), some (.int (nI k)), none], [], w)) rfl ?_
    rw [mk_get _ ha]
    cases hB : B a with
    | true =>
      refine xE.brT (by decide) ?_
      rw [if_pos hB] at hI2
      rw [← hI2]
      refine xE.go 1 (F1 := (57, [some (.int (nI v)), some (.int (nI u)), some (.int (mk B)), some (.ref 47), some (.int (nI p)), some (.int (nI a)), some (.int (nI k)), none], [.int (nI a)], w)) rfl ?_
      exact xE.iret .int 1 rfl rfl (rfl)
    | false =>
      refine xE.brF (by decide) ?_
      rw [if_neg (by rw [hB]; exact Bool.false_ne_true)] at hI2
      obtain ⟨m1, m2⟩ := enF_more hg h1 (p := p) (v := a) (by rw [hg.1]; exact hI1)
      refine xE.go 2 (F1 := (28, [some (.int (nI v)), some (.int (nI u)), some (.int (mk B)), some (.ref 47), some (.int (nI p)), some (.int (nI a)), some (.int (nI k)), none], [.int (nI a), .ref 47], w)) rfl ?_
      refine xE.iald rfl (k := a) (rfl) (⟨by omega, by omega⟩) rfl ?_
      show xE ML_end (29, [some (.int (nI v)), some (.int (nI u)), some (.int (mk B)), some (.ref 47), some (.int (nI p)), some (.int (nI a)), some (.int (nI k)), none], [.int (w.1 47 a)], w) _ _
      rw [hF a ha]
      refine xE.go 6 (F1 := (36, [some (.int (nI v)), some (.int (nI u)), some (.int (mk B)), some (.ref 47), some (.int (nI p)), some (.int (nI a)), some (.int (nI k)), none], [.int ((mk (F a)) &&& ((1 <<< ((nI p) &&& 31)) ^^^ (-1)))], w)) rfl ?_
      rw [mk_bit hp, mk_andn]
      refine xE.call rfl (c_lowest m1 m2) ?_
      show xE ML_end (39, [some (.int (nI v)), some (.int (nI u)), some (.int (mk B)), some (.ref 47), some (.int (nI p)), some (.int (nI a)), some (.int (nI k)), none], [.int (nI (low (fun z => F a z && !decide (z = p))))], w) _ _
      refine xE.go 7 (F1 := (9, [some (.int (nI v)), some (.int (nI u)), some (.int (mk B)), some (.ref 47), some (.int (nI a)), some (.int (nI (low (fun z => F a z && !decide (z = p))))), some (.int ((nI k) + 1)), some (.int (nI (low (fun z => F a z && !decide (z = p)))))], [], w)) rfl ?_
      rw [← nI_succ]
      refine xE.less [some (.int (nI v)), some (.int (nI u)), some (.int (mk B)), some (.ref 47), some (.int (nI a)), some (.int (nI (low (fun z => F a z && !decide (z = p))))), some (.int (nI (k + 1))), none] (by simp [xleb]) ?_
      rw [Bool.and_eq_true] at m2
      exact K (a, low (fun z => F a z && !decide (z = p))) ⟨m2.1, hI2⟩
  · intro s hI
    obtain ⟨hI1, hI2⟩ := hI
    have hI2 : s.2 = enF F B 10 v u := hI2
    refine xE.go 3 (F1 := (bif decide (10 ≤ (nI 10)) then 55 else 16, [some (.int (nI v)), some (.int (nI u)), some (.int (mk B)), some (.ref 47), some (.int (nI s.1)), some (.int (nI s.2)), some (.int (nI 10)), none], [], w)) rfl ?_
    refine xE.brT (rfl) ?_
    rw [hI2]
    show xE ML_end (55, [some (.int (nI v)), some (.int (nI u)), some (.int (mk B)), some (.ref 47), some (.int (nI s.1)), some (.int (nI (enF F B 10 v u))), some (.int (nI 10)), none], [], w) _ _
    refine xE.go 1 (F1 := (57, [some (.int (nI v)), some (.int (nI u)), some (.int (mk B)), some (.ref 47), some (.int (nI s.1)), some (.int (nI (enF F B 10 v u))), some (.int (nI 10)), none], [.int (nI (enF F B 10 v u))], w)) rfl ?_
    exact xE.iret .int 1 rfl rfl (rfl)
theorem c_ends {w : xW} {F : xG} {B : Nat → Bool} {v : Nat} (hv : v < 10) (hg : gok F) (h1 : ∀ v, cnt (F v) 10 ≠ 1) (hF : gF w F) : xC ML_ends [.int (nI v), .int (mk B), .ref 47] w (some (.int (mk (enS F B v)))) w := by
  unfold xC
  show xE ML_ends (0, [some (.int (nI v)), some (.int (mk B)), some (.ref 47), none, none], [], w) _ _
  refine xE.go 4 (F1 := (5, [some (.int (nI v)), some (.int (mk B)), some (.ref 47), some (.int 0), some (.int 0)], [], w)) rfl ?_
  refine xE.loop (S := Unit) (fun k s => (5, [some (.int (nI v)), some (.int (mk B)), some (.ref 47), some (.int (mk (fun z => anyv (fun x => F v x && decide (enF F B 10 v x = z)) k))), some (.int (nI k))], [], w)) (fun _ _ => True) 10 () (by rw [show mk (fun z => anyv (fun x => F v x && decide (enF F B 10 v x = z)) 0) = 0 from mk_0.symm]; rfl) (trivial) ?_ ?_
  · intro k s hk hI K
    have K := K () trivial
    refine xE.go 3 (F1 := (bif decide (10 ≤ (nI k)) then 47 else 12, [some (.int (nI v)), some (.int (mk B)), some (.ref 47), some (.int (mk (fun z => anyv (fun x => F v x && decide (enF F B 10 v x = z)) k))), some (.int (nI k))], [], w)) rfl ?_
    refine xE.brF (decide_eq_false (nI_ge (b := 10) (by omega) (by omega))) ?_
    refine xE.go 3 (F1 := (15, [some (.int (nI v)), some (.int (mk B)), some (.ref 47), some (.int (mk (fun z => anyv (fun x => F v x && decide (enF F B 10 v x = z)) k))), some (.int (nI k))], [.int (nI v), .ref 47, .int (mk (fun z => anyv (fun x => F v x && decide (enF F B 10 v x = z)) k))], w)) rfl ?_
    refine xE.iald rfl (k := v) (rfl) (⟨by omega, by omega⟩) rfl ?_
    show xE ML_ends (16, [some (.int (nI v)), some (.int (mk B)), some (.ref 47), some (.int (mk (fun z => anyv (fun x => F v x && decide (enF F B 10 v x = z)) k))), some (.int (nI k))], [.int (w.1 47 v), .int (mk (fun z => anyv (fun x => F v x && decide (enF F B 10 v x = z)) k))], w) _ _
    rw [hF v hv]
    refine xE.go 6 (F1 := (bif !decide ((((mk (F v)) >>> ((nI k) &&& 31)) &&& 1) = 1) then 38 else 25, [some (.int (nI v)), some (.int (mk B)), some (.ref 47), some (.int (mk (fun z => anyv (fun x => F v x && decide (enF F B 10 v x = z)) k))), some (.int (nI k))], [.int (mk (fun z => anyv (fun x => F v x && decide (enF F B 10 v x = z)) k))], w)) rfl ?_
    rw [mk_get _ hk]
    cases e : F v k with
    | true =>
      refine xE.brF (by decide) ?_
      have hlt := enF_lt hg h1 (B := B) 10 v k (by rw [hg.1]; exact e)
      refine xE.go 5 (F1 := (31, [some (.int (nI v)), some (.int (mk B)), some (.ref 47), some (.int (mk (fun z => anyv (fun x => F v x && decide (enF F B 10 v x = z)) k))), some (.int (nI k))], [.ref 47, .int (mk B), .int (nI k), .int (nI v), .int 1, .int (mk (fun z => anyv (fun x => F v x && decide (enF F B 10 v x = z)) k))], w)) rfl ?_
      refine xE.call rfl (c_end hg h1 hF e) ?_
      show xE ML_ends (34, [some (.int (nI v)), some (.int (mk B)), some (.ref 47), some (.int (mk (fun z => anyv (fun x => F v x && decide (enF F B 10 v x = z)) k))), some (.int (nI k))], [.int (nI (enF F B 10 v k)), .int 1, .int (mk (fun z => anyv (fun x => F v x && decide (enF F B 10 v x = z)) k))], w) _ _
      refine xE.go 1 (F1 := (35, [some (.int (nI v)), some (.int (mk B)), some (.ref 47), some (.int (mk (fun z => anyv (fun x => F v x && decide (enF F B 10 v x = z)) k))), some (.int (nI k))], [.int (1 <<< ((nI (enF F B 10 v k)) &&& 31)), .int (mk (fun z => anyv (fun x => F v x && decide (enF F B 10 v x = z)) k))], w)) rfl ?_
      rw [mk_bit hlt]
      refine xE.go 2 (F1 := (40, [some (.int (nI v)), some (.int (mk B)), some (.ref 47), some (.int (mk (fun z => anyv (fun x => F v x && decide (enF F B 10 v x = z)) k))), some (.int (nI k))], [.int ((mk (fun z => anyv (fun x => F v x && decide (enF F B 10 v x = z)) k)) ||| (mk (fun z => decide (z = enF F B 10 v k))))], w)) rfl ?_
      rw [mk_or, show mk (fun z => anyv (fun x => F v x && decide (enF F B 10 v x = z)) k || decide (z = enF F B 10 v k)) = mk (fun z => anyv (fun x => F v x && decide (enF F B 10 v x = z)) (k + 1)) from mk_ext fun z _ => by
        show _ = (anyv (fun x => F v x && decide (enF F B 10 v x = z)) k || (F v k && decide (enF F B 10 v k = z)))
        rw [e, Bool.true_and, show decide (z = enF F B 10 v k) = decide (enF F B 10 v k = z) from decide_eq_decide.mpr eq_comm]]
      refine xE.go 3 (F1 := (5, [some (.int (nI v)), some (.int (mk B)), some (.ref 47), some (.int (mk (fun z => anyv (fun x => F v x && decide (enF F B 10 v x = z)) (k + 1)))), some (.int ((nI k) + 1))], [], w)) rfl ?_
      rw [← nI_succ]
      exact K
    | false =>
      refine xE.brT (by decide) ?_
      refine xE.go 2 (F1 := (40, [some (.int (nI v)), some (.int (mk B)), some (.ref 47), some (.int (mk (fun z => anyv (fun x => F v x && decide (enF F B 10 v x = z)) k))), some (.int (nI k))], [.int ((mk (fun z => anyv (fun x => F v x && decide (enF F B 10 v x = z)) k)) ||| 0)], w)) rfl ?_
      rw [show mk (fun z => anyv (fun x => F v x && decide (enF F B 10 v x = z)) k) ||| 0 = mk (fun z => anyv (fun x => F v x && decide (enF F B 10 v x = z)) (k + 1)) from (Int32.or_zero).trans (mk_ext fun z _ => by
        show _ = (anyv (fun x => F v x && decide (enF F B 10 v x = z)) k || (F v k && decide (enF F B 10 v k = z)))
        rw [e, Bool.false_and, Bool.or_false])]
      refine xE.go 3 (F1 := (5, [some (.int (nI v)), some (.int (mk B)), some (.ref 47), some (.int (mk (fun z => anyv (fun x => F v x && decide (enF F B 10 v x = z)) (k + 1)))), some (.int ((nI k) + 1))], [], w)) rfl ?_
      rw [← nI_succ]
      exact K
  · intro s hI
    refine xE.go 3 (F1 := (bif decide (10 ≤ (nI 10)) then 47 else 12, [some (.int (nI v)), some (.int (mk B)), some (.ref 47), some (.int (mk (fun z => anyv (fun x => F v x && decide (enF F B 10 v x = z)) 10))), some (.int (nI 10))], [], w)) rfl ?_
    refine xE.brT (rfl) ?_
    refine xE.go 1 (F1 := (48, [some (.int (nI v)), some (.int (mk B)), some (.ref 47), some (.int (mk (fun z => anyv (fun x => F v x && decide (enF F B 10 v x = z)) 10))), some (.int (nI 10))], [.int (mk (fun z => anyv (fun x => F v x && decide (enF F B 10 v x = z)) 10))], w)) rfl ?_
    exact xE.iret .int 1 rfl rfl (rfl)
