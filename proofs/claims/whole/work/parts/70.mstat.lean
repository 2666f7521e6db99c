/-! the reference: numbers and sets -/
theorem m_within {w : xW} {x l m : Int32} : xC MX8_within [.int x, .int l, .int m] w (some (.int (if l ≤ x ∧ x ≤ m then 1 else 0))) w := by
  unfold xC
  show xE MX8_within (0, [some (.int x), some (.int l), some (.int m)], [], w) _ _
  refine xE.go 3 (F1 := (bif decide (x < l) then 14 else 5, [some (.int x), some (.int l), some (.int m)], [], w)) rfl ?_
  by_cases h : l ≤ x
  · refine xE.brF (decide_eq_false (Int32.not_lt.mpr h)) ?_
    refine xE.go 3 (F1 := (bif decide (m < x) then 14 else 10, [some (.int x), some (.int l), some (.int m)], [], w)) rfl ?_
    by_cases g : x ≤ m
    · rw [if_pos ⟨h, g⟩]
      refine xE.brF (decide_eq_false (Int32.not_lt.mpr g)) ?_
      refine xE.go 2 (F1 := (15, [some (.int x), some (.int l), some (.int m)], [.int 1], w)) rfl ?_
      exact xE.iret .boolean 1 rfl rfl (rfl)
    · rw [if_neg (fun z => g z.2)]
      refine xE.brT (decide_eq_true (Int32.not_le.mp g)) ?_
      refine xE.go 1 (F1 := (15, [some (.int x), some (.int l), some (.int m)], [.int 0], w)) rfl ?_
      exact xE.iret .boolean 1 rfl rfl (rfl)
  · rw [if_neg (fun z => h z.1)]
    refine xE.brT (decide_eq_true (Int32.not_le.mp h)) ?_
    refine xE.go 1 (F1 := (15, [some (.int x), some (.int l), some (.int m)], [.int 0], w)) rfl ?_
    exact xE.iret .boolean 1 rfl rfl (rfl)
theorem kI_in {n : Nat} {x : Int32} (hn : n < 2 ^ 30) : (kI (n + 1) x).isSome = decide (0 ≤ x ∧ x ≤ nI n) := by
  cases h : kI (n + 1) x with
  | some a =>
    obtain ⟨h1, h2⟩ := kI_some h
    rw [h2]
    exact (decide_eq_true ⟨nI_pos' (by omega), nI_le (by omega) (by omega)⟩).symm
  | none =>
    refine (decide_eq_false (fun hc => ?_)).symm
    obtain ⟨k, hk, e⟩ := i_of (x := x) (N := n + 1) (by omega) hc.1 (fun h => by have := Int32.le_trans h hc.2; exact nI_ge (a := n) (b := n + 1) (by omega) (by omega) this)
    exact kI_none h k (by omega) e
theorem m_isV {w : xW} {x : Int32} : xC MX8_isVertex [.int x] w (some (.int (if (vI x).isSome = true then 1 else 0))) w := by
  have e : (if 0 ≤ x ∧ x ≤ 9 then (1 : Int32) else 0) = if (vI x).isSome = true then 1 else 0 := by
    rw [show (vI x).isSome = decide (0 ≤ x ∧ x ≤ nI 9) from kI_in (n := 9) (by omega)]
    by_cases h : 0 ≤ x ∧ x ≤ 9
    · rw [if_pos h, if_pos (show decide (0 ≤ x ∧ x ≤ nI 9) = true from decide_eq_true h)]
    · rw [if_neg h, if_neg (by rw [show decide (0 ≤ x ∧ x ≤ nI 9) = false from decide_eq_false h]; decide)]
  unfold xC
  show xE MX8_isVertex (0, [some (.int x)], [], w) _ _
  refine xE.go 3 (F1 := (4, [some (.int x)], [.int 9, .int 0, .int x], w)) rfl ?_
  refine xE.call rfl (m_within) ?_
  show xE MX8_isVertex (7, [some (.int x)], [.int (if 0 ≤ x ∧ x ≤ 9 then 1 else 0)], w) _ _
  rw [e]
  exact xE.iret .boolean 1 rfl rfl (by cases (vI x).isSome <;> rfl)
theorem pix_all2 : ∀ a, a < 10 → ∀ b, b < 10 → a < b → nI a * (19 - nI a) / 2 + nI b - nI a - 1 = nI (pix a b) ∧ nI a * (19 - nI a) / 2 + nI b - nI a - 1 = nI (pix b a) := by decide +kernel
theorem m_pair {w : xW} {a b : Nat} (ha : a < 10) (hb : b < 10) (hne : a ≠ b) : xC MX8_pair [.int (nI a), .int (nI b)] w (some (.int (nI (pix a b)))) w := by
  unfold xC
  show xE MX8_pair (0, [some (.int (nI a)), some (.int (nI b)), none, none], [], w) _ _
  refine xE.go 3 (F1 := (bif decide ((nI b) ≤ (nI a)) then 9 else 5, [some (.int (nI a)), some (.int (nI b)), none, none], [], w)) rfl ?_
  by_cases h : a < b
  · refine xE.brF (decide_eq_false (nI_ge h (by omega))) ?_
    refine xE.go 3 (F1 := (11, [some (.int (nI a)), some (.int (nI b)), some (.int (nI a)), none], [], w)) rfl ?_
    refine xE.go 3 (F1 := (bif decide ((nI b) ≤ (nI a)) then 20 else 16, [some (.int (nI a)), some (.int (nI b)), some (.int (nI a)), none], [], w)) rfl ?_
    refine xE.brF (decide_eq_false (nI_ge h (by omega))) ?_
    refine xE.go 16 (F1 := (36, [some (.int (nI a)), some (.int (nI b)), some (.int (nI a)), some (.int (nI b))], [.int ((((((nI a) * (19 - (nI a))) / 2) + (nI b)) - (nI a)) - 1)], w)) rfl ?_
    rw [(pix_all2 a ha b hb h).1]
    exact xE.iret .int 1 rfl rfl (rfl)
  · refine xE.brT (decide_eq_true (nI_le (by omega) (by omega))) ?_
    refine xE.go 2 (F1 := (11, [some (.int (nI a)), some (.int (nI b)), some (.int (nI b)), none], [], w)) rfl ?_
    refine xE.go 3 (F1 := (bif decide ((nI b) ≤ (nI a)) then 20 else 16, [some (.int (nI a)), some (.int (nI b)), some (.int (nI b)), none], [], w)) rfl ?_
    refine xE.brT (decide_eq_true (nI_le (by omega) (by omega))) ?_
    refine xE.go 15 (F1 := (36, [some (.int (nI a)), some (.int (nI b)), some (.int (nI b)), some (.int (nI a))], [.int ((((((nI b) * (19 - (nI b))) / 2) + (nI a)) - (nI b)) - 1)], w)) rfl ?_
    rw [(pix_all2 b hb a ha (by omega)).2]
    exact xE.iret .int 1 rfl rfl (rfl)
theorem b01 (b : Bool) : (if b then (1 : Int32) else 0) = nI (bif b then 1 else 0) := by cases b <;> rfl
theorem m_ones {w : xW} {S : Nat → Bool} : xC MX8_ones [.int (mk S)] w (some (.int (nI (cnt S 10)))) w := by
  unfold xC
  show xE MX8_ones (0, [some (.int (mk S)), none, none], [], w) _ _
  refine xE.go 4 (F1 := (4, [some (.int (mk S)), some (.int 0), some (.int 0)], [], w)) rfl ?_
  refine xE.loop (S := Unit) (fun k s => (4, [some (.int (mk S)), some (.int (nI (cnt S k))), some (.int (nI k))], [], w)) (fun _ _ => True) 10 () (rfl) (trivial) ?_ ?_
  · intro k s hk hI K
    have K := K () trivial
    rw [show cnt S (k + 1) = cnt S k + (bif S k then 1 else 0) from rfl] at K
    refine xE.go 3 (F1 := (bif decide (10 ≤ (nI k)) then 24 else 10, [some (.int (mk S)), some (.int (nI (cnt S k))), some (.int (nI k))], [], w)) rfl ?_
    refine xE.brF (decide_eq_false (nI_ge (b := 10) (by omega) (by omega))) ?_
    refine xE.go 7 (F1 := (17, [some (.int (mk S)), some (.int (nI (cnt S k))), some (.int (nI k))], [.int ((nI (cnt S k)) + (((mk S) >>> ((nI k) &&& 31)) &&& 1))], w)) rfl ?_
    rw [mk_get S hk, b01, jI_add]
    refine xE.go 3 (F1 := (4, [some (.int (mk S)), some (.int (nI (cnt S k + (bif S k then 1 else 0)))), some (.int ((nI k) + 1))], [], w)) rfl ?_
    rw [← nI_succ]
    exact K
  · intro s hI
    refine xE.go 3 (F1 := (bif decide (10 ≤ (nI 10)) then 24 else 10, [some (.int (mk S)), some (.int (nI (cnt S 10))), some (.int (nI 10))], [], w)) rfl ?_
    refine xE.brT (rfl) ?_
    refine xE.go 1 (F1 := (25, [some (.int (mk S)), some (.int (nI (cnt S 10))), some (.int (nI 10))], [.int (nI (cnt S 10))], w)) rfl ?_
    exact xE.iret .int 1 rfl rfl (rfl)
theorem b01d (b : Bool) : decide ((if b then (1 : Int32) else 0) = 0) = !b := by cases b <;> rfl
theorem b01e (b : Bool) : decide ((if b then (1 : Int32) else 0) = 1) = b := by cases b <;> rfl
theorem m_lowest {w : xW} {S : Nat → Bool} (h : low S < 10) : xC MX8_lowest [.int (mk S)] w (some (.int (nI (low S)))) w := by
  unfold xC
  show xE MX8_lowest (0, [some (.int (mk S)), none], [], w) _ _
  refine xE.go 2 (F1 := (2, [some (.int (mk S)), some (.int 0)], [], w)) rfl ?_
  refine xE.loop (S := Unit) (fun k s => (2, [some (.int (mk S)), some (.int (nI k))], [], w)) (fun _ _ => True) (low S) () (rfl) (trivial) ?_ ?_
  · intro k s hk hI K
    have K := K () trivial
    refine xE.go 6 (F1 := (bif !decide ((((mk S) >>> ((nI k) &&& 31)) &&& 1) = 0) then 16 else 10, [some (.int (mk S)), some (.int (nI k))], [], w)) rfl ?_
    rw [mk_get S (show k < 10 by omega), b01d, low_lt hk (by omega)]
    refine xE.brF rfl ?_
    refine xE.go 2 (F1 := (2, [some (.int (mk S)), some (.int ((nI k) + 1))], [], w)) rfl ?_
    rw [← nI_succ]
    exact K
  · intro s hI
    refine xE.go 6 (F1 := (bif !decide ((((mk S) >>> ((nI (low S)) &&& 31)) &&& 1) = 0) then 16 else 10, [some (.int (mk S)), some (.int (nI (low S)))], [], w)) rfl ?_
    rw [mk_get S h, b01d, low_in h]
    refine xE.brT rfl ?_
    refine xE.go 1 (F1 := (17, [some (.int (mk S)), some (.int (nI (low S)))], [.int (nI (low S))], w)) rfl ?_
    exact xE.iret .int 1 rfl rfl (rfl)
/-! the reference's cells -/
/-- a state laid in a row of twelve -/
def rowM (w : xW) (a o : Nat) (s : xSt) : Prop := (∀ v, v < 10 → w.1 a (o + v) = mk (gr s.1 v)) ∧ w.1 a (o + 10) = s.2.1 ∧ w.1 a (o + 11) = s.2.2
def mH (w : xW) (H : List xSt) : Prop := w.1 45 2 = nI H.length ∧ ∀ (i : Nat) (s : xSt), H[i]? = some s → rowM w 47 (12 * i) s
def mS (w : xW) : Option xSt → Prop
  | none => w.1 45 4 = 0
  | some s => w.1 45 4 = 1 ∧ rowM w 48 0 s
def mT (w : xW) (T : List Nat) : Prop := w.1 45 6 = nI T.length ∧ tOK T ∧ ∀ (k : Nat) (x : Nat), T[k]? = some x → w.1 49 k = nI x
def mI (w : xW) (A : xAb) : Prop := aok A ∧ rowM w 46 0 A.1 ∧ mH w A.2.1 ∧ mS w A.2.2.1 ∧ mT w A.2.2.2
abbrev kM : xCS := [(45, none), (46, none), (47, none), (48, none), (49, none), (50, none), (51, none), (52, none), (53, none), (54, none), (55, none), (56, none), (57, none), (58, none), (59, none), (60, none), (61, none), (62, none), (63, none), (64, none), (65, none)]
/-- the cells in which the reference thinks -/
abbrev kN : xCS := [(45, some 7), (45, some 8), (45, some 9), (45, some 10), (45, some 13), (45, some 19), (45, some 20), (45, some 21), (45, some 24), (45, some 27), (45, some 29), (45, some 34), (50, none), (51, none), (52, none), (53, none), (54, none), (55, none), (56, none), (57, none), (58, none), (59, none), (60, none), (61, none), (62, none), (63, none), (64, none), (65, none)]
theorem rowM_kq {w w1 : xW} {L : xCS} {a o : Nat} {s : xSt} (h : rowM w a o s) (k : xkq L w w1) (hL : cno L [a] = true) : rowM w1 a o s := ⟨fun v hv => (k a _ (cno_at hL (by simp) _)).1.trans (h.1 v hv), (k a _ (cno_at hL (by simp) _)).1.trans h.2.1, (k a _ (cno_at hL (by simp) _)).1.trans h.2.2⟩
theorem mH_kq {w w1 : xW} {L : xCS} {H : List xSt} (h : mH w H) (k : xkq L w w1) (h2 : cin L 45 2 = false := by rfl) (hL : cno L [47] = true := by rfl) : mH w1 H := ⟨(k 45 2 h2).1.trans h.1, fun i s hi => rowM_kq (h.2 i s hi) k hL⟩
theorem mS_kq {w w1 : xW} {L : xCS} {o : Option xSt} (h : mS w o) (k : xkq L w w1) (h4 : cin L 45 4 = false := by rfl) (hL : cno L [48] = true := by rfl) : mS w1 o := by
  cases o with
  | none => exact (k 45 4 h4).1.trans h
  | some s => exact ⟨(k 45 4 h4).1.trans h.1, rowM_kq h.2 k hL⟩
theorem mT_kq {w w1 : xW} {L : xCS} {T : List Nat} (h : mT w T) (k : xkq L w w1) (h6 : cin L 45 6 = false := by rfl) (hL : cno L [49] = true := by rfl) : mT w1 T := ⟨(k 45 6 h6).1.trans h.1, h.2.1, fun i x hi => (k 49 i (cno_at hL (by simp) i)).1.trans (h.2.2 i x hi)⟩
theorem mI_kq {w w1 : xW} {L : xCS} {A : xAb} (h : mI w A) (k : xkq L w w1) (h2 : cin L 45 2 = false := by rfl) (h4 : cin L 45 4 = false := by rfl) (h6 : cin L 45 6 = false := by rfl) (hL : cno L [46, 47, 48, 49] = true := by rfl) : mI w1 A := by
  have sub : ∀ B : List Nat, (∀ a ∈ B, a ∈ [46, 47, 48, 49]) → cno L B = true := fun B hB => List.all_eq_true.mpr fun p hp => List.all_eq_true.mpr fun a ha => List.all_eq_true.mp (List.all_eq_true.mp hL p hp) a (hB a ha)
  exact ⟨h.1, rowM_kq h.2.1 k (sub _ (by decide)), mH_kq h.2.2.1 k h2 (sub _ (by decide)), mS_kq h.2.2.2.1 k h4 (sub _ (by decide)), mT_kq h.2.2.2.2 k h6 (sub _ (by decide))⟩
theorem mI_N {w w1 : xW} {A : xAb} (h : mI w A) (k : xkq kN w w1) : mI w1 A := mI_kq h k
theorem m_isEdge {w : xW} {A : xAb} {x y : Int32} (hI : mI w A) : xC MX8_isEdge [.ref 45, .int x, .int y] w (some (.int (if jn A.1.1 x y = true then 1 else 0))) w := by
  unfold xC
  show xE MX8_isEdge (0, [some (.ref 45), some (.int x), some (.int y)], [], w) _ _
  refine xE.go 1 (F1 := (1, [some (.ref 45), some (.int x), some (.int y)], [.int x], w)) rfl ?_
  refine xE.call rfl (m_isV) ?_
  show xE MX8_isEdge (4, [some (.ref 45), some (.int x), some (.int y)], [.int (if (vI x).isSome = true then 1 else 0)], w) _ _
  unfold jn
  refine xE.go 1 (F1 := (bif decide ((if (vI x).isSome = true then 1 else 0) = 0) then 32 else 7, [some (.ref 45), some (.int x), some (.int y)], [], w)) rfl ?_
  cases hx : vI x with
  | none =>
    refine xE.brT rfl ?_
    refine xE.go 1 (F1 := (33, [some (.ref 45), some (.int x), some (.int y)], [.int 0], w)) rfl ?_
    exact xE.iret .boolean 1 rfl rfl (rfl)
  | some a =>
    refine xE.brF rfl ?_
    obtain ⟨ha, ex⟩ := kI_some hx
    refine xE.go 1 (F1 := (8, [some (.ref 45), some (.int x), some (.int y)], [.int y], w)) rfl ?_
    refine xE.call rfl (m_isV) ?_
    show xE MX8_isEdge (11, [some (.ref 45), some (.int x), some (.int y)], [.int (if (vI y).isSome = true then 1 else 0)], w) _ _
    refine xE.go 1 (F1 := (bif decide ((if (vI y).isSome = true then 1 else 0) = 0) then 32 else 14, [some (.ref 45), some (.int x), some (.int y)], [], w)) rfl ?_
    cases hy : vI y with
    | none =>
      refine xE.brT rfl ?_
      refine xE.go 1 (F1 := (33, [some (.ref 45), some (.int x), some (.int y)], [.int 0], w)) rfl ?_
      exact xE.iret .boolean 1 rfl rfl (rfl)
    | some b =>
      refine xE.brF rfl ?_
      obtain ⟨hb, ey⟩ := kI_some hy
      rw [ex, ey]
      refine xE.go 3 (F1 := (19, [some (.ref 45), some (.int (nI a)), some (.int (nI b))], [.int (nI a), .ref 46], w)) rfl ?_
      refine xE.iald rfl (k := a) (rfl) (⟨by omega, by omega⟩) rfl ?_
      show xE MX8_isEdge (20, [some (.ref 45), some (.int (nI a)), some (.int (nI b))], [.int (w.1 46 a)], w) _ _
      have hr := hI.2.1.1 a ha
      rw [Nat.zero_add] at hr
      rw [hr]
      refine xE.go 6 (F1 := (bif !decide ((((mk (gr A.1.1 a)) >>> ((nI b) &&& 31)) &&& 1) = 1) then 32 else 28, [some (.ref 45), some (.int (nI a)), some (.int (nI b))], [], w)) rfl ?_
      rw [mk_get _ hb, b01e]
      simp only
      by_cases hg : gr A.1.1 a b = true
      · rw [if_pos hg, hg]
        refine xE.brF rfl ?_
        refine xE.go 2 (F1 := (33, [some (.ref 45), some (.int (nI a)), some (.int (nI b))], [.int 1], w)) rfl ?_
        exact xE.iret .boolean 1 rfl rfl (rfl)
      · rw [if_neg hg, Bool.eq_false_iff.mpr hg]
        refine xE.brT rfl ?_
        refine xE.go 1 (F1 := (33, [some (.ref 45), some (.int (nI a)), some (.int (nI b))], [.int 0], w)) rfl ?_
        exact xE.iret .boolean 1 rfl rfl (rfl)
theorem m_edges {w : xW} {A : xAb} (hM : mI w A) : xC MX8_edges [.ref 45] w (some (.int (nEd A.1))) w := by
  unfold xC
  show xE MX8_edges (0, [some (.ref 45), none, none], [], w) _ _
  refine xE.go 4 (F1 := (4, [some (.ref 45), some (.int 0), some (.int 0)], [], w)) rfl ?_
  refine xE.loop (S := Unit) (fun k s => (4, [some (.ref 45), some (.int (nI (sm (fun v => cnt (gr A.1.1 v) 10) k))), some (.int (nI k))], [], w)) (fun _ _ => True) 10 () (rfl) (trivial) ?_ ?_
  · intro k s hk hI K
    have K := K () trivial
    rw [show sm (fun v => cnt (gr A.1.1 v) 10) (k + 1) = sm (fun v => cnt (gr A.1.1 v) 10) k + cnt (gr A.1.1 k) 10 from rfl] at K
    refine xE.go 3 (F1 := (bif decide (10 ≤ (nI k)) then 28 else 10, [some (.ref 45), some (.int (nI (sm (fun v => cnt (gr A.1.1 v) 10) k))), some (.int (nI k))], [], w)) rfl ?_
    refine xE.brF (decide_eq_false (nI_ge (b := 10) (by omega) (by omega))) ?_
    refine xE.go 4 (F1 := (16, [some (.ref 45), some (.int (nI (sm (fun v => cnt (gr A.1.1 v) 10) k))), some (.int (nI k))], [.int (nI k), .ref 46, .int (nI (sm (fun v => cnt (gr A.1.1 v) 10) k))], w)) rfl ?_
    refine xE.iald rfl (k := k) (rfl) (⟨by omega, by omega⟩) rfl ?_
    show xE MX8_edges (17, [some (.ref 45), some (.int (nI (sm (fun v => cnt (gr A.1.1 v) 10) k))), some (.int (nI k))], [.int (w.1 46 k), .int (nI (sm (fun v => cnt (gr A.1.1 v) 10) k))], w) _ _
    have hr := hM.2.1.1 k hk
    rw [Nat.zero_add] at hr
    rw [hr]
    refine xE.call rfl (m_ones) ?_
    show xE MX8_edges (20, [some (.ref 45), some (.int (nI (sm (fun v => cnt (gr A.1.1 v) 10) k))), some (.int (nI k))], [.int (nI (cnt (gr A.1.1 k) 10)), .int (nI (sm (fun v => cnt (gr A.1.1 v) 10) k))], w) _ _
    refine xE.go 1 (F1 := (21, [some (.ref 45), some (.int (nI (sm (fun v => cnt (gr A.1.1 v) 10) k))), some (.int (nI k))], [.int ((nI (sm (fun v => cnt (gr A.1.1 v) 10) k)) + (nI (cnt (gr A.1.1 k) 10)))], w)) rfl ?_
    rw [jI_add]
    refine xE.go 3 (F1 := (4, [some (.ref 45), some (.int (nI (sm (fun v => cnt (gr A.1.1 v) 10) k + cnt (gr A.1.1 k) 10))), some (.int ((nI k) + 1))], [], w)) rfl ?_
    rw [← nI_succ]
    exact K
  · intro s hI
    refine xE.go 3 (F1 := (bif decide (10 ≤ (nI 10)) then 28 else 10, [some (.ref 45), some (.int (nI (sm (fun v => cnt (gr A.1.1 v) 10) 10))), some (.int (nI 10))], [], w)) rfl ?_
    refine xE.brT (rfl) ?_
    have hg := gr_gok A.1.1
    rw [sm_even hg.1 hg.2.1 10]
    refine xE.go 3 (F1 := (31, [some (.ref 45), some (.int (nI (2 * ec (gr A.1.1)))), some (.int (nI 10))], [.int ((nI (2 * ec (gr A.1.1))) / 2)], w)) rfl ?_
    rw [i_half (m := ec (gr A.1.1)) (ec_le hg.1 hg.2.1)]
    show xE MX8_edges (31, [some (.ref 45), some (.int (nI (2 * ec (gr A.1.1)))), some (.int (nI 10))], [.int (nEd A.1)], w) _ _
    exact xE.iret .int 1 rfl rfl (rfl)
