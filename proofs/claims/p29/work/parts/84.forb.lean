/-! isForbidden -/
abbrev kF : xCS := (47, none) :: kC
theorem kF_of {w w1 : xW} (h : xkq kC w w1) : xkq kF w w1 := xkq_mono (by decide +kernel) h
theorem gI_kF {w w1 : xW} {G : Nat → Nat → Bool} (h : gI w G) (k : xkq kF w w1) : gI w1 G := fun v hv => ((k 45 v rfl).1).trans (h v hv)
/-- the edges with an end below v, and those of v with the other end below w -/
def HF (F : xG) (v w a b : Nat) : Bool := F a b && (decide (a < v) || decide (b < v) || (decide (a = v) && decide (b < w)) || (decide (b = v) && decide (a < w)))
def gH (s : xW) (F : xG) (v w : Nat) : Prop := ∀ a, a < 10 → s.1 47 a = mk (HF F v w a)
theorem HF_iff {F : xG} {v w a b : Nat} : HF F v w a b = true ↔ F a b = true ∧ (a < v ∨ b < v ∨ (a = v ∧ b < w) ∨ (b = v ∧ a < w)) := by
  unfold HF
  simp only [Bool.and_eq_true, Bool.or_eq_true, decide_eq_true_eq, or_assoc]
theorem gH_1 {F : xG} (hg : gok F) {s : xW} {v : Nat} (h : gH s F v 0) : gH s F v (v + 1) := fun a ha => (h a ha).trans (mk_ext fun b _ => by
  rw [Bool.eq_iff_iff, HF_iff, HF_iff]
  constructor
  · rintro ⟨h1, h2⟩
    exact ⟨h1, by omega⟩
  · rintro ⟨h1, h2⟩
    refine ⟨h1, ?_⟩
    have : a ≠ b := fun e => by rw [e, hg.2.1] at h1; cases h1
    omega)
theorem gH_10 {F : xG} {s : xW} {v : Nat} (h : gH s F v 10) : gH s F (v + 1) 0 := fun a ha => (h a ha).trans (mk_ext fun b hb => by
  rw [Bool.eq_iff_iff, HF_iff, HF_iff]
  constructor
  · rintro ⟨h1, h2⟩
    exact ⟨h1, by omega⟩
  · rintro ⟨h1, h2⟩
    exact ⟨h1, by omega⟩)
theorem HF_v {F : xG} {v x : Nat} (hv : v < x) (b : Nat) : HF F v (x + 1) v b = (HF F v x v b || (F v x && decide (b = x))) := by
  rw [Bool.eq_iff_iff, Bool.or_eq_true, Bool.and_eq_true, decide_eq_true_eq, HF_iff, HF_iff]
  constructor
  · rintro ⟨h1, h2⟩
    by_cases e : b = x
    · rw [e] at h1
      exact Or.inr ⟨h1, e⟩
    · exact Or.inl ⟨h1, by omega⟩
  · rintro (⟨h1, h2⟩ | ⟨h1, h2⟩)
    · exact ⟨h1, by omega⟩
    · rw [h2]
      exact ⟨h1, by omega⟩
theorem HF_x {F : xG} (hg : gok F) {v x : Nat} (hv : v < x) (b : Nat) : HF F v (x + 1) x b = (HF F v x x b || (F v x && decide (b = v))) := by
  rw [Bool.eq_iff_iff, Bool.or_eq_true, Bool.and_eq_true, decide_eq_true_eq, HF_iff, HF_iff]
  constructor
  · rintro ⟨h1, h2⟩
    by_cases e : b = v
    · rw [e, hg.1] at h1
      exact Or.inr ⟨h1, e⟩
    · exact Or.inl ⟨h1, by omega⟩
  · rintro (⟨h1, h2⟩ | ⟨h1, h2⟩)
    · exact ⟨h1, by omega⟩
    · rw [h2, hg.1]
      exact ⟨h1, by omega⟩
theorem HF_o {F : xG} {v x a : Nat} (h1 : a ≠ v) (h2 : a ≠ x) (b : Nat) : HF F v (x + 1) a b = HF F v x a b := by
  rw [Bool.eq_iff_iff, HF_iff, HF_iff]
  constructor
  · rintro ⟨h1, h2⟩
    exact ⟨h1, by omega⟩
  · rintro ⟨h1, h2⟩
    exact ⟨h1, by omega⟩
theorem gH_s {F : xG} (hg : gok F) {s : xW} {v x : Nat} (hv : v < x) (h : gH s F v x) {T U : Nat → Bool} (hT : ∀ b, b < 10 → T b = (HF F v x v b || (F v x && decide (b = x)))) (hU : ∀ b, b < 10 → U b = (HF F v x x b || (F v x && decide (b = v)))) : gH (xuI (xuI s 47 v (mk T)) 47 x (mk U)) F v (x + 1) := fun a ha => by
  rw [uI1, uI1]
  by_cases e : a = x
  · rw [if_pos ⟨rfl, e⟩, e]
    exact mk_ext fun b hb => by rw [hU b hb, HF_x hg hv]
  · rw [if_neg (fun z => e z.2)]
    by_cases e2 : a = v
    · rw [if_pos ⟨rfl, e2⟩, e2]
      exact mk_ext fun b hb => by rw [hT b hb, HF_v hv]
    · rw [if_neg (fun z => e2 z.2), h a ha]
      exact mk_ext fun b hb => by rw [HF_o e2 e]
theorem c_ftail {w s : xW} {A : xAb} {F : xG} {v x : Nat} {Q : Option Value → xW → Prop} (hg : gok F) (hv : v < x) (hx : x < 10) (hI : cI s A) (hkq : xkq kF w s) (hH : gH s F v x) (K : ∀ s', cI s' A ∧ xkq kF w s' ∧ gH s' F v (x + 1) → xQ ML_isForbidden (29, [some (.ref 0), some (.ref 45), some (.ref 47), some (.int 0), some (.int 0), some (.int 0), some (.int (nI v)), some (.int (nI (x + 1))), none, none, none], [], s') Q) : xQ ML_isForbidden (66, [some (.ref 0), some (.ref 45), some (.ref 47), some (.int 0), some (.int 0), some (.int 0), some (.int (nI v)), some (.int (nI x)), none, none, none], [.int (if F v x = true then 1 else 0)], s) Q := by
  have hv10 : v < 10 := by omega
  cases e : F v x with
  | true =>
    show xQ ML_isForbidden (66, [some (.ref 0), some (.ref 45), some (.ref 47), some (.int 0), some (.int 0), some (.int 0), some (.int (nI v)), some (.int (nI x)), none, none, none], [.int 1], s) _
    refine xQ.go 4 (F1 := (72, [some (.ref 0), some (.ref 45), some (.ref 47), some (.int 0), some (.int 0), some (.int 0), some (.int (nI v)), some (.int (nI x)), some (.int 1), none, none], [.int (nI v), .ref 47, .int (nI v), .ref 47], s)) rfl ?_
    refine xQ.iald rfl (k := v) (rfl) (⟨by omega, by omega⟩) rfl ?_
    show xQ ML_isForbidden (73, [some (.ref 0), some (.ref 45), some (.ref 47), some (.int 0), some (.int 0), some (.int 0), some (.int (nI v)), some (.int (nI x)), some (.int 1), none, none], [.int (s.1 47 v), .int (nI v), .ref 47], s) _
    rw [hH v hv10]
    refine xQ.go 2 (F1 := (bif decide (1 = 0) then 85 else 78, [some (.ref 0), some (.ref 45), some (.ref 47), some (.int 0), some (.int 0), some (.int 0), some (.int (nI v)), some (.int (nI x)), some (.int 1), none, none], [.int (mk (HF F v x v)), .int (nI v), .ref 47], s)) rfl ?_
    refine xQ.brF (by decide) ?_
    refine xQ.go 4 (F1 := (86, [some (.ref 0), some (.ref 45), some (.ref 47), some (.int 0), some (.int 0), some (.int 0), some (.int (nI v)), some (.int (nI x)), some (.int 1), none, none], [.int (1 <<< ((nI x) &&& 31)), .int (mk (HF F v x v)), .int (nI v), .ref 47], s)) rfl ?_
    rw [mk_bit hx]
    refine xQ.go 1 (F1 := (87, [some (.ref 0), some (.ref 45), some (.ref 47), some (.int 0), some (.int 0), some (.int 0), some (.int (nI v)), some (.int (nI x)), some (.int 1), none, none], [.int ((mk (HF F v x v)) ||| (mk (fun u => decide (u = x)))), .int (nI v), .ref 47], s)) rfl ?_
    rw [mk_or]
    refine xQ.iast rfl (k := v) (rfl) (⟨by omega, by omega⟩) rfl ?_
    show xQ ML_isForbidden (88, [some (.ref 0), some (.ref 45), some (.ref 47), some (.int 0), some (.int 0), some (.int 0), some (.int (nI v)), some (.int (nI x)), some (.int 1), none, none], [], (xuI s 47 v (mk (fun b => HF F v x v b || decide (b = x))))) _
    refine xQ.go 3 (F1 := (92, [some (.ref 0), some (.ref 45), some (.ref 47), some (.int 0), some (.int 0), some (.int 0), some (.int (nI v)), some (.int (nI x)), some (.int 1), none, none], [.int (nI x), .ref 47, .int (nI x), .ref 47], (xuI s 47 v (mk (fun b => HF F v x v b || decide (b = x)))))) rfl ?_
    refine xQ.iald rfl (k := x) (rfl) (⟨by omega, by omega⟩) rfl ?_
    show xQ ML_isForbidden (93, [some (.ref 0), some (.ref 45), some (.ref 47), some (.int 0), some (.int 0), some (.int 0), some (.int (nI v)), some (.int (nI x)), some (.int 1), none, none], [.int ((xuI s 47 v (mk (fun b => HF F v x v b || decide (b = x)))).1 47 x), .int (nI x), .ref 47], (xuI s 47 v (mk (fun b => HF F v x v b || decide (b = x))))) _
    rw [uI1, if_neg (fun z => by omega), hH x hx]
    refine xQ.go 2 (F1 := (bif decide (1 = 0) then 105 else 98, [some (.ref 0), some (.ref 45), some (.ref 47), some (.int 0), some (.int 0), some (.int 0), some (.int (nI v)), some (.int (nI x)), some (.int 1), none, none], [.int (mk (HF F v x x)), .int (nI x), .ref 47], (xuI s 47 v (mk (fun b => HF F v x v b || decide (b = x)))))) rfl ?_
    refine xQ.brF (by decide) ?_
    refine xQ.go 4 (F1 := (106, [some (.ref 0), some (.ref 45), some (.ref 47), some (.int 0), some (.int 0), some (.int 0), some (.int (nI v)), some (.int (nI x)), some (.int 1), none, none], [.int (1 <<< ((nI v) &&& 31)), .int (mk (HF F v x x)), .int (nI x), .ref 47], (xuI s 47 v (mk (fun b => HF F v x v b || decide (b = x)))))) rfl ?_
    rw [mk_bit hv10]
    refine xQ.go 1 (F1 := (107, [some (.ref 0), some (.ref 45), some (.ref 47), some (.int 0), some (.int 0), some (.int 0), some (.int (nI v)), some (.int (nI x)), some (.int 1), none, none], [.int ((mk (HF F v x x)) ||| (mk (fun u => decide (u = v)))), .int (nI x), .ref 47], (xuI s 47 v (mk (fun b => HF F v x v b || decide (b = x)))))) rfl ?_
    rw [mk_or]
    refine xQ.iast rfl (k := x) (rfl) (⟨by omega, by omega⟩) rfl ?_
    show xQ ML_isForbidden (108, [some (.ref 0), some (.ref 45), some (.ref 47), some (.int 0), some (.int 0), some (.int 0), some (.int (nI v)), some (.int (nI x)), some (.int 1), none, none], [], (xuI (xuI s 47 v (mk (fun b => HF F v x v b || decide (b = x)))) 47 x (mk (fun b => HF F v x x b || decide (b = v))))) _
    refine xQ.go 2 (F1 := (29, [some (.ref 0), some (.ref 45), some (.ref 47), some (.int 0), some (.int 0), some (.int 0), some (.int (nI v)), some (.int ((nI x) + 1)), some (.int 1), none, none], [], (xuI (xuI s 47 v (mk (fun b => HF F v x v b || decide (b = x)))) 47 x (mk (fun b => HF F v x x b || decide (b = v)))))) rfl ?_
    rw [← nI_succ]
    refine xQ.less [some (.ref 0), some (.ref 45), some (.ref 47), some (.int 0), some (.int 0), some (.int 0), some (.int (nI v)), some (.int (nI (x + 1))), none, none, none] (by simp [xleb]) ?_
    exact K _ ⟨cI_kq hI (xkq_I (xkq_I (L := [(47, none)]) xkq_rfl (by rfl)) (by rfl)), xkq_trans hkq (xkq_I (xkq_I xkq_rfl (by rfl)) (by rfl)), gH_s hg hv hH (fun b _ => by rw [e, Bool.true_and]) (fun b _ => by rw [e, Bool.true_and])⟩
  | false =>
    show xQ ML_isForbidden (66, [some (.ref 0), some (.ref 45), some (.ref 47), some (.int 0), some (.int 0), some (.int 0), some (.int (nI v)), some (.int (nI x)), none, none, none], [.int 0], s) _
    refine xQ.go 4 (F1 := (72, [some (.ref 0), some (.ref 45), some (.ref 47), some (.int 0), some (.int 0), some (.int 0), some (.int (nI v)), some (.int (nI x)), some (.int 0), none, none], [.int (nI v), .ref 47, .int (nI v), .ref 47], s)) rfl ?_
    refine xQ.iald rfl (k := v) (rfl) (⟨by omega, by omega⟩) rfl ?_
    show xQ ML_isForbidden (73, [some (.ref 0), some (.ref 45), some (.ref 47), some (.int 0), some (.int 0), some (.int 0), some (.int (nI v)), some (.int (nI x)), some (.int 0), none, none], [.int (s.1 47 v), .int (nI v), .ref 47], s) _
    rw [hH v hv10]
    refine xQ.go 2 (F1 := (bif decide (0 = 0) then 85 else 78, [some (.ref 0), some (.ref 45), some (.ref 47), some (.int 0), some (.int 0), some (.int 0), some (.int (nI v)), some (.int (nI x)), some (.int 0), none, none], [.int (mk (HF F v x v)), .int (nI v), .ref 47], s)) rfl ?_
    refine xQ.brT (by decide) ?_
    refine xQ.go 2 (F1 := (87, [some (.ref 0), some (.ref 45), some (.ref 47), some (.int 0), some (.int 0), some (.int 0), some (.int (nI v)), some (.int (nI x)), some (.int 0), none, none], [.int ((mk (HF F v x v)) ||| 0), .int (nI v), .ref 47], s)) rfl ?_
    rw [show mk (HF F v x v) ||| 0 = mk (HF F v x v) from Int32.or_zero]
    refine xQ.iast rfl (k := v) (rfl) (⟨by omega, by omega⟩) rfl ?_
    show xQ ML_isForbidden (88, [some (.ref 0), some (.ref 45), some (.ref 47), some (.int 0), some (.int 0), some (.int 0), some (.int (nI v)), some (.int (nI x)), some (.int 0), none, none], [], (xuI s 47 v (mk (HF F v x v)))) _
    refine xQ.go 3 (F1 := (92, [some (.ref 0), some (.ref 45), some (.ref 47), some (.int 0), some (.int 0), some (.int 0), some (.int (nI v)), some (.int (nI x)), some (.int 0), none, none], [.int (nI x), .ref 47, .int (nI x), .ref 47], (xuI s 47 v (mk (HF F v x v))))) rfl ?_
    refine xQ.iald rfl (k := x) (rfl) (⟨by omega, by omega⟩) rfl ?_
    show xQ ML_isForbidden (93, [some (.ref 0), some (.ref 45), some (.ref 47), some (.int 0), some (.int 0), some (.int 0), some (.int (nI v)), some (.int (nI x)), some (.int 0), none, none], [.int ((xuI s 47 v (mk (HF F v x v))).1 47 x), .int (nI x), .ref 47], (xuI s 47 v (mk (HF F v x v)))) _
    rw [uI1, if_neg (fun z => by omega), hH x hx]
    refine xQ.go 2 (F1 := (bif decide (0 = 0) then 105 else 98, [some (.ref 0), some (.ref 45), some (.ref 47), some (.int 0), some (.int 0), some (.int 0), some (.int (nI v)), some (.int (nI x)), some (.int 0), none, none], [.int (mk (HF F v x x)), .int (nI x), .ref 47], (xuI s 47 v (mk (HF F v x v))))) rfl ?_
    refine xQ.brT (by decide) ?_
    refine xQ.go 2 (F1 := (107, [some (.ref 0), some (.ref 45), some (.ref 47), some (.int 0), some (.int 0), some (.int 0), some (.int (nI v)), some (.int (nI x)), some (.int 0), none, none], [.int ((mk (HF F v x x)) ||| 0), .int (nI x), .ref 47], (xuI s 47 v (mk (HF F v x v))))) rfl ?_
    rw [show mk (HF F v x x) ||| 0 = mk (HF F v x x) from Int32.or_zero]
    refine xQ.iast rfl (k := x) (rfl) (⟨by omega, by omega⟩) rfl ?_
    show xQ ML_isForbidden (108, [some (.ref 0), some (.ref 45), some (.ref 47), some (.int 0), some (.int 0), some (.int 0), some (.int (nI v)), some (.int (nI x)), some (.int 0), none, none], [], (xuI (xuI s 47 v (mk (HF F v x v))) 47 x (mk (HF F v x x)))) _
    refine xQ.go 2 (F1 := (29, [some (.ref 0), some (.ref 45), some (.ref 47), some (.int 0), some (.int 0), some (.int 0), some (.int (nI v)), some (.int ((nI x) + 1)), some (.int 0), none, none], [], (xuI (xuI s 47 v (mk (HF F v x v))) 47 x (mk (HF F v x x))))) rfl ?_
    rw [← nI_succ]
    refine xQ.less [some (.ref 0), some (.ref 45), some (.ref 47), some (.int 0), some (.int 0), some (.int 0), some (.int (nI v)), some (.int (nI (x + 1))), none, none, none] (by simp [xleb]) ?_
    exact K _ ⟨cI_kq hI (xkq_I (xkq_I (L := [(47, none)]) xkq_rfl (by rfl)) (by rfl)), xkq_trans hkq (xkq_I (xkq_I xkq_rfl (by rfl)) (by rfl)), gH_s hg hv hH (fun b _ => by rw [e, Bool.false_and, Bool.or_false]) (fun b _ => by rw [e, Bool.false_and, Bool.or_false])⟩
