/-! the reference: faces -/
/-- the face i -/
def fc1 (w : xW) (i : Nat) (c : List Nat) : Prop := w.1 57 i = nI c.length ∧ ∀ (k x : Nat), c[k]? = some x → w.1 58 (10 * i + k) = nI x
theorem fc1_kq {w w1 : xW} {i : Nat} {c : List Nat} {L : xCS} (h : fc1 w i c) (k : xkq L w w1) (hL : cno L [57, 58] = true := by rfl) : fc1 w1 i c := ⟨(k 57 i (cno_at hL (by simp) i)).1.trans h.1, fun j x hj => (k 58 _ (cno_at hL (by simp) _)).1.trans (h.2 j x hj)⟩
theorem m_addF {w : xW} {i x : Nat} {c : List Nat} (hc : fc1 w i c) (hi : i < 20) (hl : c.length < 10) : xD MX8_addToFace [.ref 45, .int (nI i), .int (nI x)] w (fun r w1 => r = none ∧ fc1 w1 i (c ++ [x]) ∧ (∀ j d, j ≠ i → d.length ≤ 10 → fc1 w j d → fc1 w1 j d) ∧ xkq [(57, none), (58, none)] w w1) := by
  refine xD.of ?_
  show xQ MX8_addToFace (0, [some (.ref 45), some (.int (nI i)), some (.int (nI x))], [], w) _
  refine xQ.go 8 (F1 := (13, [some (.ref 45), some (.int (nI i)), some (.int (nI x))], [.int (nI i), .ref 57, .int (10 * (nI i)), .ref 58], w)) rfl ?_
  refine xQ.iald rfl (k := i) (rfl) (⟨by omega, by omega⟩) rfl ?_
  show xQ MX8_addToFace (14, [some (.ref 45), some (.int (nI i)), some (.int (nI x))], [.int (w.1 57 i), .int (10 * (nI i)), .ref 58], w) _
  rw [hc.1]
  refine xQ.go 1 (F1 := (15, [some (.ref 45), some (.int (nI i)), some (.int (nI x))], [.int ((10 * (nI i)) + (nI c.length)), .ref 58], w)) rfl ?_
  rw [show (10 : Int32) = nI 10 from rfl, jI_mul, jI_add]
  refine xQ.go 1 (F1 := (16, [some (.ref 45), some (.int (nI i)), some (.int (nI x))], [.int (nI x), .int (nI (10 * i + c.length)), .ref 58], w)) rfl ?_
  refine xQ.iast rfl (k := (10 * i + c.length)) (rfl) (⟨by omega, by omega⟩) rfl ?_
  show xQ MX8_addToFace (17, [some (.ref 45), some (.int (nI i)), some (.int (nI x))], [], (xuI w 58 (10 * i + c.length) (nI x))) _
  refine xQ.go 4 (F1 := (23, [some (.ref 45), some (.int (nI i)), some (.int (nI x))], [.int (nI i), .ref 57, .int (nI i), .ref 57], (xuI w 58 (10 * i + c.length) (nI x)))) rfl ?_
  refine xQ.iald rfl (k := i) (rfl) (⟨by omega, by omega⟩) rfl ?_
  show xQ MX8_addToFace (24, [some (.ref 45), some (.int (nI i)), some (.int (nI x))], [.int (w.1 57 i), .int (nI i), .ref 57], (xuI w 58 (10 * i + c.length) (nI x))) _
  rw [hc.1]
  refine xQ.go 2 (F1 := (26, [some (.ref 45), some (.int (nI i)), some (.int (nI x))], [.int ((nI c.length) + 1), .int (nI i), .ref 57], (xuI w 58 (10 * i + c.length) (nI x)))) rfl ?_
  rw [← nI_succ]
  refine xQ.iast rfl (k := i) (rfl) (⟨by omega, by omega⟩) rfl ?_
  show xQ MX8_addToFace (27, [some (.ref 45), some (.int (nI i)), some (.int (nI x))], [], (xuI (xuI w 58 (10 * i + c.length) (nI x)) 57 i (nI (c.length + 1)))) _
  refine xQ.vret 1 rfl rfl ?_
  refine ⟨rfl, ⟨?_, fun k y hk => ?_⟩, fun j d hj hd hf => ⟨?_, fun k y hk => ?_⟩, xkq_I (xkq_I xkq_rfl rfl) rfl⟩
  · rw [uI1, if_pos ⟨rfl, rfl⟩, List.length_append]
    rfl
  · rw [uI1, if_neg (by omega), uI1]
    by_cases e : k = c.length
    · rw [e] at hk ⊢
      rw [if_pos ⟨rfl, rfl⟩]
      have : (c ++ [x])[c.length]? = some x := by simp
      rw [this] at hk
      cases hk
      rfl
    · have hlt := (List.getElem?_eq_some_iff.mp hk).1
      rw [List.length_append] at hlt
      simp only [List.length_cons, List.length_nil] at hlt
      rw [List.getElem?_append_left (by omega)] at hk
      rw [if_neg (by omega)]
      exact hc.2 k y hk
  · rw [uI1, if_neg (fun h => hj h.2), uI1, if_neg (by omega)]
    exact hf.1
  · have hlt := (List.getElem?_eq_some_iff.mp hk).1
    rw [uI1, if_neg (by omega), uI1, if_neg (by omega)]
    exact hf.2 k y hk
theorem m_onF {w : xW} {i : Nat} {f : List Nat} {C : Nat → Bool} (hf : fc1 w i f) (hi : i < 20) (hl : f.length ≤ 10) (h10 : ∀ v ∈ f, v < 10) : xC MX8_isOnFace [.ref 45, .int (nI i), .int (mk C)] w (some (.int (if fitf (mk C) f = true then 1 else 0))) w := by
  unfold xC
  show xE MX8_isOnFace (0, [some (.ref 45), some (.int (nI i)), some (.int (mk C)), none, none], [], w) _ _
  refine xE.go 4 (F1 := (5, [some (.ref 45), some (.int (nI i)), some (.int (mk C)), some (.int 0), some (.int 0)], [], w)) rfl ?_
  refine xE.loop (S := Unit) (fun k s => (5, [some (.ref 45), some (.int (nI i)), some (.int (mk C)), some (.int (mk (fun v => decide (v ∈ f.take k)))), some (.int (nI k))], [], w)) (fun _ _ => True) f.length () (by rw [show mk (fun v => decide (v ∈ f.take 0)) = 0 by rw [mk_0]; exact mk_ext fun v _ => by simp]; rfl) (trivial) ?_ ?_
  · intro k s hk hI K
    have K := K () trivial
    have hfk : f[k]? = some f[k] := List.getElem?_eq_getElem hk
    have hv10 := h10 _ (List.getElem_mem hk)
    have hgd : f.getD k 0 = f[k] := Option.some.inj ((getD_of hk 0).symm.trans hfk)
    refine xE.go 4 (F1 := (12, [some (.ref 45), some (.int (nI i)), some (.int (mk C)), some (.int (mk (fun v => decide (v ∈ f.take k)))), some (.int (nI k))], [.int (nI i), .ref 57, .int (nI k)], w)) rfl ?_
    refine xE.iald rfl (k := i) (rfl) (⟨by omega, by omega⟩) rfl ?_
    show xE MX8_isOnFace (13, [some (.ref 45), some (.int (nI i)), some (.int (mk C)), some (.int (mk (fun v => decide (v ∈ f.take k)))), some (.int (nI k))], [.int (w.1 57 i), .int (nI k)], w) _ _
    rw [hf.1]
    refine xE.go 1 (F1 := (bif decide ((nI f.length) ≤ (nI k)) then 39 else 16, [some (.ref 45), some (.int (nI i)), some (.int (mk C)), some (.int (mk (fun v => decide (v ∈ f.take k)))), some (.int (nI k))], [], w)) rfl ?_
    refine xE.brF (decide_eq_false (nI_ge hk (by omega))) ?_
    refine xE.go 9 (F1 := (29, [some (.ref 45), some (.int (nI i)), some (.int (mk C)), some (.int (mk (fun v => decide (v ∈ f.take k)))), some (.int (nI k))], [.int ((10 * (nI i)) + (nI k)), .ref 58, .int 1, .int (mk (fun v => decide (v ∈ f.take k)))], w)) rfl ?_
    rw [show (10 : Int32) = nI 10 from rfl, jI_mul, jI_add]
    refine xE.iald rfl (k := (10 * i + k)) (rfl) (⟨by omega, by omega⟩) rfl ?_
    show xE MX8_isOnFace (30, [some (.ref 45), some (.int (nI i)), some (.int (mk C)), some (.int (mk (fun v => decide (v ∈ f.take k)))), some (.int (nI k))], [.int (w.1 58 (10 * i + k)), .int 1, .int (mk (fun v => decide (v ∈ f.take k)))], w) _ _
    rw [hf.2 k _ hfk]
    refine xE.go 1 (F1 := (31, [some (.ref 45), some (.int (nI i)), some (.int (mk C)), some (.int (mk (fun v => decide (v ∈ f.take k)))), some (.int (nI k))], [.int (1 <<< ((nI f[k]) &&& 31)), .int (mk (fun v => decide (v ∈ f.take k)))], w)) rfl ?_
    rw [mk_bit hv10]
    refine xE.go 1 (F1 := (32, [some (.ref 45), some (.int (nI i)), some (.int (mk C)), some (.int (mk (fun v => decide (v ∈ f.take k)))), some (.int (nI k))], [.int ((mk (fun v => decide (v ∈ f.take k))) ||| (mk (fun u => decide (u = f[k]))))], w)) rfl ?_
    rw [mk_or]
    refine xE.go 3 (F1 := (5, [some (.ref 45), some (.int (nI i)), some (.int (mk C)), some (.int (mk (fun v => decide (v ∈ f.take k) || decide (v = f[k])))), some (.int ((nI k) + 1))], [], w)) rfl ?_
    rw [← nI_succ, show mk (fun v => decide (v ∈ f.take k) || decide (v = f[k])) = mk (fun v => decide (v ∈ f.take (k + 1))) from mk_ext fun v _ => by
      apply Bool.eq_iff_iff.mpr
      rw [Bool.or_eq_true, decide_eq_true_iff, decide_eq_true_iff, decide_eq_true_iff, mem_take1 hk, hgd]]
    exact K
  · intro s hI
    refine xE.go 4 (F1 := (12, [some (.ref 45), some (.int (nI i)), some (.int (mk C)), some (.int (mk (fun v => decide (v ∈ f.take f.length)))), some (.int (nI f.length))], [.int (nI i), .ref 57, .int (nI f.length)], w)) rfl ?_
    refine xE.iald rfl (k := i) (rfl) (⟨by omega, by omega⟩) rfl ?_
    show xE MX8_isOnFace (13, [some (.ref 45), some (.int (nI i)), some (.int (mk C)), some (.int (mk (fun v => decide (v ∈ f.take f.length)))), some (.int (nI f.length))], [.int (w.1 57 i), .int (nI f.length)], w) _ _
    rw [hf.1]
    refine xE.go 1 (F1 := (bif decide ((nI f.length) ≤ (nI f.length)) then 39 else 16, [some (.ref 45), some (.int (nI i)), some (.int (mk C)), some (.int (mk (fun v => decide (v ∈ f.take f.length)))), some (.int (nI f.length))], [], w)) rfl ?_
    refine xE.brT (decide_eq_true (Int32.le_refl _)) ?_
    rw [List.take_length]
    refine xE.go 6 (F1 := (bif !decide (((mk C) &&& ((mk (fun v => decide (v ∈ f))) ^^^ (-1))) = 0) then 51 else 47, [some (.ref 45), some (.int (nI i)), some (.int (mk C)), some (.int (mk (fun v => decide (v ∈ f)))), some (.int (nI f.length))], [], w)) rfl ?_
    rw [fit_zero]
    cases hh : fitf (mk C) f with
    | true =>
      refine xE.brF rfl ?_
      refine xE.go 2 (F1 := (52, [some (.ref 45), some (.int (nI i)), some (.int (mk C)), some (.int (mk (fun v => decide (v ∈ f)))), some (.int (nI f.length))], [.int 1], w)) rfl ?_
      exact xE.iret .boolean 1 rfl rfl (rfl)
    | false =>
      refine xE.brT rfl ?_
      refine xE.go 1 (F1 := (52, [some (.ref 45), some (.int (nI i)), some (.int (mk C)), some (.int (mk (fun v => decide (v ∈ f)))), some (.int (nI f.length))], [.int 0], w)) rfl ?_
      exact xE.iret .boolean 1 rfl rfl (rfl)
/-- what is placed -/
def pM (w : xW) (P : Nat → Nat → Bool) (PV : Nat → Bool) (E : Nat) : Prop := (∀ v, v < 10 → w.1 56 v = mk (P v)) ∧ w.1 45 19 = mk PV ∧ w.1 45 20 = nI E
theorem pM_kq {w w1 : xW} {P : Nat → Nat → Bool} {PV : Nat → Bool} {E : Nat} {L : xCS} (h : pM w P PV E) (k : xkq L w w1) (hL : cno L [56] = true := by rfl) (h1 : cin L 45 19 = false := by rfl) (h2 : cin L 45 20 = false := by rfl) : pM w1 P PV E := ⟨fun v hv => (k 56 v (cno_at hL (by simp) v)).1.trans (h.1 v hv), (k 45 19 h1).1.trans h.2.1, (k 45 20 h2).1.trans h.2.2⟩
theorem m_plE {w : xW} {P : Nat → Nat → Bool} {PV : Nat → Bool} {E a b : Nat} (hP : pM w P PV E) (ha : a < 10) (hb : b < 10) (hne : a ≠ b) : xD MX8_placeEdge [.ref 45, .int (nI a), .int (nI b)] w (fun r w1 => r = none ∧ pM w1 (adP P a b) (adV PV a b) (E + 1) ∧ xkq [(45, some 19), (45, some 20), (56, none)] w w1) := by
  refine xD.of ?_
  show xQ MX8_placeEdge (0, [some (.ref 45), some (.int (nI a)), some (.int (nI b))], [], w) _
  refine xQ.go 4 (F1 := (6, [some (.ref 45), some (.int (nI a)), some (.int (nI b))], [.int (nI a), .ref 56, .int (nI a), .ref 56], w)) rfl ?_
  refine xQ.iald rfl (k := a) (rfl) (⟨by omega, by omega⟩) rfl ?_
  show xQ MX8_placeEdge (7, [some (.ref 45), some (.int (nI a)), some (.int (nI b))], [.int (w.1 56 a), .int (nI a), .ref 56], w) _
  rw [hP.1 a ha]
  refine xQ.go 3 (F1 := (10, [some (.ref 45), some (.int (nI a)), some (.int (nI b))], [.int (1 <<< ((nI b) &&& 31)), .int (mk (P a)), .int (nI a), .ref 56], w)) rfl ?_
  rw [mk_bit hb]
  refine xQ.go 1 (F1 := (11, [some (.ref 45), some (.int (nI a)), some (.int (nI b))], [.int ((mk (P a)) ||| (mk (fun u => decide (u = b)))), .int (nI a), .ref 56], w)) rfl ?_
  rw [mk_or]
  refine xQ.iast rfl (k := a) (rfl) (⟨by omega, by omega⟩) rfl ?_
  show xQ MX8_placeEdge (12, [some (.ref 45), some (.int (nI a)), some (.int (nI b))], [], (xuI w 56 a (mk (fun u => P a u || decide (u = b))))) _
  refine xQ.go 4 (F1 := (18, [some (.ref 45), some (.int (nI a)), some (.int (nI b))], [.int (nI b), .ref 56, .int (nI b), .ref 56], (xuI w 56 a (mk (fun u => P a u || decide (u = b)))))) rfl ?_
  refine xQ.iald rfl (k := b) (rfl) (⟨by omega, by omega⟩) rfl ?_
  show xQ MX8_placeEdge (19, [some (.ref 45), some (.int (nI a)), some (.int (nI b))], [.int ((xuI w 56 a (mk (fun u => P a u || decide (u = b)))).1 56 b), .int (nI b), .ref 56], (xuI w 56 a (mk (fun u => P a u || decide (u = b))))) _
  rw [show (xuI w 56 a (mk (fun u => P a u || decide (u = b)))).1 56 b = mk (P b) by rw [uI1, if_neg (by omega)]; exact hP.1 b hb]
  refine xQ.go 3 (F1 := (22, [some (.ref 45), some (.int (nI a)), some (.int (nI b))], [.int (1 <<< ((nI a) &&& 31)), .int (mk (P b)), .int (nI b), .ref 56], (xuI w 56 a (mk (fun u => P a u || decide (u = b)))))) rfl ?_
  rw [mk_bit ha]
  refine xQ.go 1 (F1 := (23, [some (.ref 45), some (.int (nI a)), some (.int (nI b))], [.int ((mk (P b)) ||| (mk (fun u => decide (u = a)))), .int (nI b), .ref 56], (xuI w 56 a (mk (fun u => P a u || decide (u = b)))))) rfl ?_
  rw [mk_or]
  refine xQ.iast rfl (k := b) (rfl) (⟨by omega, by omega⟩) rfl ?_
  show xQ MX8_placeEdge (24, [some (.ref 45), some (.int (nI a)), some (.int (nI b))], [], (xuI (xuI w 56 a (mk (fun u => P a u || decide (u = b)))) 56 b (mk (fun u => P b u || decide (u = a))))) _
  refine xQ.go 6 (F1 := (32, [some (.ref 45), some (.int (nI a)), some (.int (nI b))], [.int (1 <<< ((nI a) &&& 31)), .int (w.1 45 19), .ref 45], (xuI (xuI w 56 a (mk (fun u => P a u || decide (u = b)))) 56 b (mk (fun u => P b u || decide (u = a)))))) rfl ?_
  rw [hP.2.1, mk_bit ha]
  refine xQ.go 3 (F1 := (35, [some (.ref 45), some (.int (nI a)), some (.int (nI b))], [.int (1 <<< ((nI b) &&& 31)), .int (mk (fun u => decide (u = a))), .int (mk PV), .ref 45], (xuI (xuI w 56 a (mk (fun u => P a u || decide (u = b)))) 56 b (mk (fun u => P b u || decide (u = a)))))) rfl ?_
  rw [mk_bit hb]
  refine xQ.go 2 (F1 := (37, [some (.ref 45), some (.int (nI a)), some (.int (nI b))], [.int ((mk PV) ||| ((mk (fun u => decide (u = a))) ||| (mk (fun u => decide (u = b))))), .ref 45], (xuI (xuI w 56 a (mk (fun u => P a u || decide (u = b)))) 56 b (mk (fun u => P b u || decide (u = a)))))) rfl ?_
  rw [mk_or, mk_or]
  refine xQ.go 6 (F1 := (47, [some (.ref 45), some (.int (nI a)), some (.int (nI b))], [.int ((w.1 45 20) + 1), .ref 45], (xuI (xuI (xuI w 56 a (mk (fun u => P a u || decide (u = b)))) 56 b (mk (fun u => P b u || decide (u = a)))) 45 19 (mk (fun u => PV u || (decide (u = a) || decide (u = b))))))) rfl ?_
  rw [hP.2.2, ← nI_succ]
  refine xQ.go 1 (F1 := (50, [some (.ref 45), some (.int (nI a)), some (.int (nI b))], [], (xuI (xuI (xuI (xuI w 56 a (mk (fun u => P a u || decide (u = b)))) 56 b (mk (fun u => P b u || decide (u = a)))) 45 19 (mk (fun u => PV u || (decide (u = a) || decide (u = b))))) 45 20 (nI (E + 1))))) rfl ?_
  refine xQ.vret 1 rfl rfl ?_
  refine ⟨rfl, ⟨fun v hv => ?_, ?_, ?_⟩, xkq_I (xkq_I (xkq_I (xkq_I xkq_rfl rfl) rfl) rfl) rfl⟩
  · rw [uI1, if_neg (by omega), uI1, if_neg (by omega), uI1]
    by_cases h1 : v = b
    · rw [if_pos ⟨rfl, h1⟩, h1]
      exact mk_ext fun x _ => by
        have : ¬ b = a := fun e => hne e.symm
        simp [adP, ab, this]
    · rw [if_neg (fun h => h1 h.2), uI1]
      by_cases h2 : v = a
      · rw [if_pos ⟨rfl, h2⟩, h2]
        exact mk_ext fun x _ => by simp [adP, ab, hne]
      · rw [if_neg (fun h => h2 h.2), hP.1 v hv]
        exact mk_ext fun x _ => by simp [adP, ab, h1, h2]
  · rw [uI1, if_neg (by omega), uI1, if_pos ⟨rfl, rfl⟩]
    rfl
  · rw [uI1, if_pos ⟨rfl, rfl⟩]
/-- with the first k edges of a cycle -/
def pC (c : List Nat) (k : Nat) (x y : Nat) : Bool := anyv (fun i => ab (c.getD i 0) (c.getD ((i + 1) % c.length) 0) x y) k
def vC (c : List Nat) (k : Nat) (x : Nat) : Bool := anyv (fun i => decide (x = c.getD i 0) || decide (x = c.getD ((i + 1) % c.length) 0)) k
theorem pC_all {c : List Nat} (x y : Nat) : pC c c.length x y = cycP c x y := by
  have fwd : ∀ x y, (x, y) ∈ dts c ↔ ∃ i, i < c.length ∧ x = c.getD i 0 ∧ y = c.getD ((i + 1) % c.length) 0 := fun x y => by
    constructor
    · intro h
      obtain ⟨i, h1, h2, h3⟩ := dts_ix h
      exact ⟨i, h1, by rw [List.getD_eq_getElem?_getD, h2]; rfl, by rw [List.getD_eq_getElem?_getD, h3]; rfl⟩
    · rintro ⟨i, h1, h2, h3⟩
      have hm := Nat.mod_lt (i + 1) (show 0 < c.length by omega)
      exact dts_get (i := i) (by rw [h2]; exact getD_of h1 0) (by rw [h3]; exact getD_of hm 0)
  apply Bool.eq_iff_iff.mpr
  unfold pC cycP
  rw [anyv_iff, Bool.or_eq_true, decide_eq_true_iff, decide_eq_true_iff, fwd, fwd]
  constructor
  · rintro ⟨i, h1, h2⟩
    rcases ab_iff.mp h2 with ⟨e1, e2⟩ | ⟨e1, e2⟩
    · exact Or.inl ⟨i, h1, e1, e2⟩
    · exact Or.inr ⟨i, h1, e2, e1⟩
  · rintro (⟨i, h1, e1, e2⟩ | ⟨i, h1, e1, e2⟩)
    · exact ⟨i, h1, ab_iff.mpr (Or.inl ⟨e1, e2⟩)⟩
    · exact ⟨i, h1, ab_iff.mpr (Or.inr ⟨e2, e1⟩)⟩
theorem vC_all {c : List Nat} (x : Nat) : vC c c.length x = decide (x ∈ c) := by
  apply Bool.eq_iff_iff.mpr
  unfold vC
  rw [anyv_iff, decide_eq_true_iff]
  constructor
  · rintro ⟨i, h1, h2⟩
    rw [Bool.or_eq_true, decide_eq_true_iff, decide_eq_true_iff] at h2
    have hm := Nat.mod_lt (i + 1) (show 0 < c.length by omega)
    rcases h2 with e | e
    · rw [e]; exact List.mem_of_getElem? (getD_of h1 0)
    · rw [e]; exact List.mem_of_getElem? (getD_of hm 0)
  · intro h
    obtain ⟨i, hi, e⟩ := List.mem_iff_getElem.mp h
    refine ⟨i, hi, ?_⟩
    have := getD_of hi 0
    rw [List.getElem?_eq_getElem hi, e] at this
    rw [← Option.some.inj this, decide_eq_true rfl]
    rfl
theorem cut_back {H : Nat → Nat → Bool} {a b : Nat} (hHab : H a b = true) (hne : a ≠ b) : mk (cutE H a b a) ^^^ mk (fun u => decide (u = b)) = mk (H a) := by
  rw [mk_xor]
  refine mk_ext fun v _ => ?_
  unfold cutE ab
  by_cases e : v = b
  · rw [e]; simp [hHab]
  · simp [e, hne]
theorem cut_go {H : Nat → Nat → Bool} {a b : Nat} (hHab : H a b = true) (hne : a ≠ b) : mk (H a) ^^^ mk (fun u => decide (u = b)) = mk (cutE H a b a) := by
  rw [mk_xor]
  refine mk_ext fun v _ => ?_
  unfold cutE ab
  by_cases e : v = b
  · rw [e]; simp [hHab]
  · simp [e, hne]
theorem cut_same {H : Nat → Nat → Bool} {a b v : Nat} (h1 : v ≠ a) (h2 : v ≠ b) : mk (cutE H a b v) = mk (H v) := mk_ext fun z _ => by
  unfold cutE ab
  simp [h1, h2]
theorem cutE_swap {H : Nat → Nat → Bool} {a b : Nat} : cutE H a b = cutE H b a := by
  funext x y
  unfold cutE ab
  congr 2
  rw [Bool.or_comm]
