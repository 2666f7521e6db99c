/-- how many faces of a list fit, and the first one's number, from the back -/
def wg (p : List Nat → Bool) : Nat → List (List Nat) → Nat × Nat
  | _, [] => (0, 0)
  | i, f :: t => if p f then ((wg p (i + 1) t).1 + 1, i) else wg p (i + 1) t
theorem wg_1 (p : List Nat → Bool) : ∀ (L : List (List Nat)) (i : Nat), (wg p i L).1 = (L.filter p).length
  | [], _ => rfl
  | f :: t, i => by
    unfold wg
    cases h : p f with
    | true => rw [if_pos rfl, List.filter_cons_of_pos h, List.length_cons, wg_1 p t]
    | false => rw [if_neg (by decide), List.filter_cons_of_neg (by rw [h]; decide), wg_1 p t]
theorem wg_2 (p : List Nat → Bool) : ∀ (L : List (List Nat)) (i : Nat), (L.filter p).length ≠ 0 → (wg p i L).2 = i + L.findIdx p
  | [], _, h => absurd rfl h
  | f :: t, i, h => by
    unfold wg
    cases hp : p f with
    | true => rw [if_pos rfl, List.findIdx_cons, hp]; rfl
    | false =>
      rw [List.filter_cons_of_neg (by rw [hp]; decide)] at h
      rw [if_neg (by decide), wg_2 p t (i + 1) h, List.findIdx_cons, hp]
      show i + 1 + t.findIdx p = i + (t.findIdx p + 1)
      omega
theorem wg_le (p : List Nat → Bool) : ∀ (L : List (List Nat)) (i : Nat), (wg p i L).1 ≤ L.length ∧ (wg p i L).2 ≤ i + L.length
  | [], i => ⟨Nat.le_refl _, Nat.zero_le _⟩
  | f :: t, i => by
    have ih := wg_le p t (i + 1)
    unfold wg
    rw [List.length_cons]
    split
    · exact ⟨by show _ + 1 ≤ _; omega, by show i ≤ _; omega⟩
    · exact ⟨by omega, by omega⟩
def pick (L : List (List Nat)) (l : List xFr) : Option xFr :=
  match l.find? (fun q => Nat.beq (nfit q.2 L) 1) with
    | some q => some q
    | none => l.head?
theorem pick_none {L : List (List Nat)} {l : List xFr} (h : pick L l = none) : l = [] := by
  unfold pick at h
  split at h
  · cases h
  · exact List.head?_eq_none_iff.mp h
theorem pick_add {L : List (List Nat)} {l : List xFr} {p q : xFr} (h : pick L l = some p) : pick L (l ++ [q]) = if nfit q.2 L = 1 ∧ nfit p.2 L ≠ 1 then some q else some p := by
  unfold pick at h ⊢
  rw [List.find?_append]
  split at h
  · next p2 hf =>
    cases h
    have h1 : nfit p.2 L = 1 := Nat.eq_of_beq_eq_true (List.find?_some (p := fun q : xFr => Nat.beq (nfit q.2 L) 1) hf)
    rw [hf, if_neg (fun h => h.2 h1)]
    rfl
  · next hf =>
    have hp : p ∈ l := List.mem_of_head? h
    have h1 : nfit p.2 L ≠ 1 := fun e => by
      have := List.find?_eq_none.mp hf p hp
      rw [e] at this
      exact this rfl
    rw [hf]
    by_cases e : nfit q.2 L = 1
    · rw [if_pos ⟨e, h1⟩]
      have : List.find? (fun q => Nat.beq (nfit q.2 L) 1) [q] = some q := by
        rw [List.find?_cons, e]
      rw [this]
      rfl
    · rw [if_neg (fun h => e h.1)]
      have : List.find? (fun q => Nat.beq (nfit q.2 L) 1) [q] = none := by
        rw [List.find?_cons]
        cases hb : Nat.beq (nfit q.2 L) 1 with
        | true => exact absurd (Nat.eq_of_beq_eq_true hb) e
        | false => rfl
      rw [this]
      show (l ++ [q]).head? = some p
      rw [List.head?_append, h]
      rfl
theorem pick_one {L : List (List Nat)} {q : xFr} : pick L [q] = some q := by
  unfold pick
  rw [List.find?_cons]
  cases hb : Nat.beq (nfit q.2 L) 1 with
  | true => rfl
  | false => rfl
/-- the chosen fragment in the cells -/
def eC (e : Nat) (w : xW) (L : List (List Nat)) : Option xFr → Prop
  | none => w.1 e 12 = 0
  | some q => w.1 e 9 = q.1 ∧ w.1 e 10 = q.2 ∧ w.1 e 11 = nI (ffit q.2 L) ∧ w.1 e 12 = nI (nfit q.2 L) ∧ nfit q.2 L ≠ 0
theorem fit_zero {C : Nat → Bool} {f : List Nat} : decide (mk C &&& (mk (fun v => decide (v ∈ f)) ^^^ -1) = 0) = fitf (mk C) f := by
  rw [mk_andn]
  apply Bool.eq_iff_iff.mpr
  rw [decide_eq_true_iff, mk_zero, fitf_iff]
  constructor
  · intro h v hv ht
    rw [tb_mk' C hv] at ht
    have := h v hv
    rw [ht] at this
    simpa using this
  · intro h v hv
    have h2 := h v hv
    rw [tb_mk' C hv] at h2
    cases hc : C v with
    | false => rfl
    | true => simp [h2 hc]
theorem c_weigh_p {w : xW} {L : List (List Nat)} {l : List xFr} {x : Int32} {C : Nat → Bool} (hF : eF 18 21 22 w L) (hL : L.length ≤ 16) (hC : eC 18 w L (pick L l)) : xD MX1_weigh [.ref 18, .int x, .int (mk C)] w (fun r w1 => r = some (.int (if nfit (mk C) L = 0 then 0 else 1)) ∧ (nfit (mk C) L ≠ 0 → eC 18 w1 L (pick L (l ++ [(x, mk C)]))) ∧ xkq [(18, some 9), (18, some 10), (18, some 11), (18, some 12)] w w1) := by
  refine xD.of ?_
  show xQ MX1_weigh (0, [some (.ref 18), some (.int x), some (.int (mk C)), none, none, none], [], w) _
  refine xQ.go 9 (F1 := (13, [some (.ref 18), some (.int x), some (.int (mk C)), some (.int 0), some (.int 0), some (.int ((w.1 18 8) - 1))], [], w)) rfl ?_
  rw [hF.1]
  have hi := wg_1 (fitf (mk C)) L 0
  have hj := wg_2 (fitf (mk C)) L 0
  have hk := wg_le (fitf (mk C)) L 0
  rw [Nat.zero_add] at hj
  refine xQ.loop (S := Unit) (fun k s => (13, [some (.ref 18), some (.int x), some (.int (mk C)), some (.int (nI (wg (fitf (mk C)) (L.length - k) (L.drop (L.length - k))).1)), some (.int (nI (wg (fitf (mk C)) (L.length - k) (L.drop (L.length - k))).2)), some (.int (nI L.length - nI (k + 1)))], [], w)) (fun _ _ => True) L.length () (by rw [Nat.sub_zero, List.drop_length]; rfl) (trivial) ?_ ?_
  · intro k s hk hI K
    have K := K () trivial
    have hlt : L.length - (k + 1) < L.length := by omega
    have hget : L[L.length - (k + 1)]? = some L[L.length - (k + 1)] := List.getElem?_eq_getElem hlt
    have hdrop : L.drop (L.length - (k + 1)) = L[L.length - (k + 1)] :: L.drop (L.length - k) := by
      rw [List.drop_eq_getElem_cons hlt, show L.length - (k + 1) + 1 = L.length - k by omega]
    have hwg : wg (fitf (mk C)) (L.length - (k + 1)) (L.drop (L.length - (k + 1))) = if fitf (mk C) L[L.length - (k + 1)] then ((wg (fitf (mk C)) (L.length - k) (L.drop (L.length - k))).1 + 1, L.length - (k + 1)) else wg (fitf (mk C)) (L.length - k) (L.drop (L.length - k)) := by
      rw [hdrop]
      show (if _ then _ else _) = _
      rw [show L.length - (k + 1) + 1 = L.length - k by omega]
    have hdn : nI (L.length - (k + 1)) + -1 = nI L.length - nI (k + 1 + 1) := by
      rw [← jI_sub (show k + 1 ≤ L.length by omega), nI_succ (k + 1), i_dn]
    rw [jI_sub (show k + 1 ≤ L.length by omega)]
    refine xQ.go 2 (F1 := (bif decide ((nI (L.length - (k + 1))) < 0) then 47 else 18, [some (.ref 18), some (.int x), some (.int (mk C)), some (.int (nI (wg (fitf (mk C)) (L.length - k) (L.drop (L.length - k))).1)), some (.int (nI (wg (fitf (mk C)) (L.length - k) (L.drop (L.length - k))).2)), some (.int (nI (L.length - (k + 1))))], [], w)) rfl ?_
    refine xQ.brF (decide_eq_false (nI_pos (by omega))) ?_
    refine xQ.go 4 (F1 := (25, [some (.ref 18), some (.int x), some (.int (mk C)), some (.int (nI (wg (fitf (mk C)) (L.length - k) (L.drop (L.length - k))).1)), some (.int (nI (wg (fitf (mk C)) (L.length - k) (L.drop (L.length - k))).2)), some (.int (nI (L.length - (k + 1))))], [.int (nI (L.length - (k + 1))), .ref 21, .int (mk C)], w)) rfl ?_
    refine xQ.call rfl (c_at rfl (by omega) (by omega)) ?_
    show xQ MX1_weigh (28, [some (.ref 18), some (.int x), some (.int (mk C)), some (.int (nI (wg (fitf (mk C)) (L.length - k) (L.drop (L.length - k))).1)), some (.int (nI (wg (fitf (mk C)) (L.length - k) (L.drop (L.length - k))).2)), some (.int (nI (L.length - (k + 1))))], [.int (w.1 21 (L.length - (k + 1))), .int (mk C)], w) _
    rw [(hF.2 _ _ hget).1]
    refine xQ.go 4 (F1 := (bif !decide (((mk C) &&& ((mk (fun v => decide (v ∈ L[L.length - (k + 1)]))) ^^^ (-1))) = 0) then 41 else 34, [some (.ref 18), some (.int x), some (.int (mk C)), some (.int (nI (wg (fitf (mk C)) (L.length - k) (L.drop (L.length - k))).1)), some (.int (nI (wg (fitf (mk C)) (L.length - k) (L.drop (L.length - k))).2)), some (.int (nI (L.length - (k + 1))))], [], w)) rfl ?_
    rw [fit_zero]
    cases hf : fitf (mk C) L[L.length - (k + 1)] with
    | true =>
      rw [hf, if_pos rfl] at hwg
      refine xQ.brF (by decide) ?_
      refine xQ.go 5 (F1 := (13, [some (.ref 18), some (.int x), some (.int (mk C)), some (.int ((nI (wg (fitf (mk C)) (L.length - k) (L.drop (L.length - k))).1) + 1)), some (.int (nI (L.length - (k + 1)))), some (.int ((nI (L.length - (k + 1))) + (-1)))], [], w)) rfl ?_
      rw [hdn, ← nI_succ]
      rw [hwg] at K
      exact K
    | false =>
      rw [hf, if_neg (by decide)] at hwg
      refine xQ.brT (by decide) ?_
      refine xQ.go 2 (F1 := (13, [some (.ref 18), some (.int x), some (.int (mk C)), some (.int (nI (wg (fitf (mk C)) (L.length - k) (L.drop (L.length - k))).1)), some (.int (nI (wg (fitf (mk C)) (L.length - k) (L.drop (L.length - k))).2)), some (.int ((nI (L.length - (k + 1))) + (-1)))], [], w)) rfl ?_
      rw [hdn]
      rw [hwg] at K
      exact K
  · intro s hI
    rw [Nat.sub_self, List.drop_zero]
    have e0 : nI L.length - nI (L.length + 1) = -1 := i_dn0 _
    rw [e0]
    refine xQ.go 2 (F1 := (bif decide ((-1) < 0) then 47 else 18, [some (.ref 18), some (.int x), some (.int (mk C)), some (.int (nI (wg (fitf (mk C)) 0 L).1)), some (.int (nI (wg (fitf (mk C)) 0 L).2)), some (.int (-1))], [], w)) rfl ?_
    refine xQ.brT (rfl) ?_
    rw [hi] at hk ⊢
    have hn : (L.filter (fitf (mk C))).length = nfit (mk C) L := rfl
    rw [hn] at hj hk ⊢
    by_cases h0 : nfit (mk C) L = 0
    · rw [h0]
      refine xQ.go 2 (F1 := (bif decide ((nI 0) ≤ 0) then 92 else 51, [some (.ref 18), some (.int x), some (.int (mk C)), some (.int (nI 0)), some (.int (nI (wg (fitf (mk C)) 0 L).2)), some (.int (-1))], [], w)) rfl ?_
      refine xQ.brT (rfl) ?_
      refine xQ.go 2 (F1 := (bif decide ((nI 0) ≤ 0) then 100 else 96, [some (.ref 18), some (.int x), some (.int (mk C)), some (.int (nI 0)), some (.int (nI (wg (fitf (mk C)) 0 L).2)), some (.int (-1))], [], w)) rfl ?_
      refine xQ.brT (rfl) ?_
      refine xQ.go 1 (F1 := (101, [some (.ref 18), some (.int x), some (.int (mk C)), some (.int (nI 0)), some (.int (nI (wg (fitf (mk C)) 0 L).2)), some (.int (-1))], [.int 0], w)) rfl ?_
      refine xQ.iret .boolean 1 rfl rfl (rfl) ?_
      exact ⟨by simp, fun h => absurd rfl h, xkq_rfl⟩
    · have hj := hj h0
      rw [hj]
      have hff : L.findIdx (fitf (mk C)) = ffit (mk C) L := rfl
      rw [hff]
      have hpos : ¬ nI (nfit (mk C) L) ≤ 0 := by
        have := nI_ge (a := 0) (b := nfit (mk C) L) (by omega) (by omega)
        exact this
      refine xQ.go 2 (F1 := (bif decide ((nI (nfit (mk C) L)) ≤ 0) then 92 else 51, [some (.ref 18), some (.int x), some (.int (mk C)), some (.int (nI (nfit (mk C) L))), some (.int (nI (ffit (mk C) L))), some (.int (-1))], [], w)) rfl ?_
      refine xQ.brF (decide_eq_false hpos) ?_
      have fin : ∀ w2, (eC 18 w2 L (pick L (l ++ [(x, mk C)]))) → xkq [(18, some 9), (18, some 10), (18, some 11), (18, some 12)] w w2 → xQ MX1_weigh (92, [some (.ref 18), some (.int x), some (.int (mk C)), some (.int (nI (nfit (mk C) L))), some (.int (nI (ffit (mk C) L))), some (.int (-1))], [], w2) (fun r w1 => r = some (.int (if nfit (mk C) L = 0 then 0 else 1)) ∧ (nfit (mk C) L ≠ 0 → eC 18 w1 L (pick L (l ++ [(x, mk C)]))) ∧ xkq [(18, some 9), (18, some 10), (18, some 11), (18, some 12)] w w1) := by
        intro w2 hc2 hk2
        refine xQ.go 2 (F1 := (bif decide ((nI (nfit (mk C) L)) ≤ 0) then 100 else 96, [some (.ref 18), some (.int x), some (.int (mk C)), some (.int (nI (nfit (mk C) L))), some (.int (nI (ffit (mk C) L))), some (.int (-1))], [], w2)) rfl ?_
        refine xQ.brF (decide_eq_false hpos) ?_
        refine xQ.go 2 (F1 := (101, [some (.ref 18), some (.int x), some (.int (mk C)), some (.int (nI (nfit (mk C) L))), some (.int (nI (ffit (mk C) L))), some (.int (-1))], [.int 1], w2)) rfl ?_
        refine xQ.iret .boolean 1 rfl rfl (rfl) ?_
        exact ⟨by rw [if_neg h0], fun _ => hc2, hk2⟩
      have put : pick L (l ++ [(x, mk C)]) = some (x, mk C) → xQ MX1_weigh (71, [some (.ref 18), some (.int x), some (.int (mk C)), some (.int (nI (nfit (mk C) L))), some (.int (nI (ffit (mk C) L))), some (.int (-1))], [], w) (fun r w1 => r = some (.int (if nfit (mk C) L = 0 then 0 else 1)) ∧ (nfit (mk C) L ≠ 0 → eC 18 w1 L (pick L (l ++ [(x, mk C)]))) ∧ xkq [(18, some 9), (18, some 10), (18, some 11), (18, some 12)] w w1) := by
        intro hp
        refine xQ.go 12 (F1 := (92, [some (.ref 18), some (.int x), some (.int (mk C)), some (.int (nI (nfit (mk C) L))), some (.int (nI (ffit (mk C) L))), some (.int (-1))], [], (xuI (xuI (xuI (xuI w 18 9 x) 18 10 (mk C)) 18 11 (nI (ffit (mk C) L))) 18 12 (nI (nfit (mk C) L))))) rfl ?_
        refine fin _ ?_ (xkq_I (xkq_I (xkq_I (xkq_I xkq_rfl rfl) rfl) rfl) rfl)
        rw [hp]
        simp [eC, uI1, h0]
      cases hp : pick L l with
      | none =>
        rw [hp] at hC
        have hl := pick_none hp
        refine xQ.go 3 (F1 := (bif decide ((w.1 18 12) = 0) then 71 else 58, [some (.ref 18), some (.int x), some (.int (mk C)), some (.int (nI (nfit (mk C) L))), some (.int (nI (ffit (mk C) L))), some (.int (-1))], [], w)) rfl ?_
        refine xQ.brT (by rw [show w.1 18 12 = 0 from hC]; rfl) ?_
        refine put ?_
        rw [hl]
        exact pick_one
      | some q =>
        rw [hp] at hC
        obtain ⟨c1, c2, c3, c4, c5⟩ := hC
        have hpa := pick_add (q := (x, mk C)) hp
        have hq16 : nfit q.2 L ≤ 16 := Nat.le_trans (List.length_filter_le _ _) hL
        refine xQ.go 3 (F1 := (bif decide ((w.1 18 12) = 0) then 71 else 58, [some (.ref 18), some (.int x), some (.int (mk C)), some (.int (nI (nfit (mk C) L))), some (.int (nI (ffit (mk C) L))), some (.int (-1))], [], w)) rfl ?_
        refine xQ.brF (by rw [c4]; exact decide_eq_false (nI_ne0 (by omega) (by omega))) ?_
        by_cases h1 : nfit (mk C) L = 1
        · refine xQ.go 3 (F1 := (bif !decide ((nI (nfit (mk C) L)) = 1) then 92 else 63, [some (.ref 18), some (.int x), some (.int (mk C)), some (.int (nI (nfit (mk C) L))), some (.int (nI (ffit (mk C) L))), some (.int (-1))], [], w)) rfl ?_
          refine xQ.brF (by rw [h1]; rfl) ?_
          by_cases h2 : nfit q.2 L = 1
          · refine xQ.go 4 (F1 := (bif decide ((w.1 18 12) ≤ 1) then 92 else 71, [some (.ref 18), some (.int x), some (.int (mk C)), some (.int (nI (nfit (mk C) L))), some (.int (nI (ffit (mk C) L))), some (.int (-1))], [], w)) rfl ?_
            refine xQ.brT (by rw [c4, h2]; rfl) ?_
            rw [show (if nfit ((x, mk C) : xFr).2 L = 1 ∧ nfit q.2 L ≠ 1 then some (x, mk C) else some q) = some q from if_neg (fun h => h.2 h2)] at hpa
            refine fin w ?_ xkq_rfl
            rw [hpa]
            exact ⟨c1, c2, c3, c4, c5⟩
          · refine xQ.go 4 (F1 := (bif decide ((w.1 18 12) ≤ 1) then 92 else 71, [some (.ref 18), some (.int x), some (.int (mk C)), some (.int (nI (nfit (mk C) L))), some (.int (nI (ffit (mk C) L))), some (.int (-1))], [], w)) rfl ?_
            refine xQ.brF (by rw [c4]; exact decide_eq_false (nI_ge (a := 1) (by omega) (by omega))) ?_
            refine put ?_
            rw [hpa, if_pos ⟨h1, h2⟩]
        · refine xQ.go 3 (F1 := (bif !decide ((nI (nfit (mk C) L)) = 1) then 92 else 63, [some (.ref 18), some (.int x), some (.int (mk C)), some (.int (nI (nfit (mk C) L))), some (.int (nI (ffit (mk C) L))), some (.int (-1))], [], w)) rfl ?_
          refine xQ.brT (by rw [show (1 : Int32) = nI 1 from rfl, decide_eq_false (fun e => h1 (jI_inj (b := 1) (by omega) (by omega) e))]; rfl) ?_
          refine fin w ?_ xkq_rfl
          rw [hpa, if_neg (fun h => h1 h.1)]
          exact ⟨c1, c2, c3, c4, c5⟩

theorem c_weigh_t {w : xW} {L : List (List Nat)} {l : List xFr} {x : Int32} {C : Nat → Bool} (hF : eF 32 35 36 w L) (hL : L.length ≤ 16) (hC : eC 32 w L (pick L l)) : xD MX1_weigh [.ref 32, .int x, .int (mk C)] w (fun r w1 => r = some (.int (if nfit (mk C) L = 0 then 0 else 1)) ∧ (nfit (mk C) L ≠ 0 → eC 32 w1 L (pick L (l ++ [(x, mk C)]))) ∧ xkq [(32, some 9), (32, some 10), (32, some 11), (32, some 12)] w w1) := by
  refine xD.of ?_
  show xQ MX1_weigh (0, [some (.ref 32), some (.int x), some (.int (mk C)), none, none, none], [], w) _
  refine xQ.go 9 (F1 := (13, [some (.ref 32), some (.int x), some (.int (mk C)), some (.int 0), some (.int 0), some (.int ((w.1 32 8) - 1))], [], w)) rfl ?_
  rw [hF.1]
  have hi := wg_1 (fitf (mk C)) L 0
  have hj := wg_2 (fitf (mk C)) L 0
  have hk := wg_le (fitf (mk C)) L 0
  rw [Nat.zero_add] at hj
  refine xQ.loop (S := Unit) (fun k s => (13, [some (.ref 32), some (.int x), some (.int (mk C)), some (.int (nI (wg (fitf (mk C)) (L.length - k) (L.drop (L.length - k))).1)), some (.int (nI (wg (fitf (mk C)) (L.length - k) (L.drop (L.length - k))).2)), some (.int (nI L.length - nI (k + 1)))], [], w)) (fun _ _ => True) L.length () (by rw [Nat.sub_zero, List.drop_length]; rfl) (trivial) ?_ ?_
  · intro k s hk hI K
    have K := K () trivial
    have hlt : L.length - (k + 1) < L.length := by omega
    have hget : L[L.length - (k + 1)]? = some L[L.length - (k + 1)] := List.getElem?_eq_getElem hlt
    have hdrop : L.drop (L.length - (k + 1)) = L[L.length - (k + 1)] :: L.drop (L.length - k) := by
      rw [List.drop_eq_getElem_cons hlt, show L.length - (k + 1) + 1 = L.length - k by omega]
    have hwg : wg (fitf (mk C)) (L.length - (k + 1)) (L.drop (L.length - (k + 1))) = if fitf (mk C) L[L.length - (k + 1)] then ((wg (fitf (mk C)) (L.length - k) (L.drop (L.length - k))).1 + 1, L.length - (k + 1)) else wg (fitf (mk C)) (L.length - k) (L.drop (L.length - k)) := by
      rw [hdrop]
      show (if _ then _ else _) = _
      rw [show L.length - (k + 1) + 1 = L.length - k by omega]
    have hdn : nI (L.length - (k + 1)) + -1 = nI L.length - nI (k + 1 + 1) := by
      rw [← jI_sub (show k + 1 ≤ L.length by omega), nI_succ (k + 1), i_dn]
    rw [jI_sub (show k + 1 ≤ L.length by omega)]
    refine xQ.go 2 (F1 := (bif decide ((nI (L.length - (k + 1))) < 0) then 47 else 18, [some (.ref 32), some (.int x), some (.int (mk C)), some (.int (nI (wg (fitf (mk C)) (L.length - k) (L.drop (L.length - k))).1)), some (.int (nI (wg (fitf (mk C)) (L.length - k) (L.drop (L.length - k))).2)), some (.int (nI (L.length - (k + 1))))], [], w)) rfl ?_
    refine xQ.brF (decide_eq_false (nI_pos (by omega))) ?_
    refine xQ.go 4 (F1 := (25, [some (.ref 32), some (.int x), some (.int (mk C)), some (.int (nI (wg (fitf (mk C)) (L.length - k) (L.drop (L.length - k))).1)), some (.int (nI (wg (fitf (mk C)) (L.length - k) (L.drop (L.length - k))).2)), some (.int (nI (L.length - (k + 1))))], [.int (nI (L.length - (k + 1))), .ref 35, .int (mk C)], w)) rfl ?_
    refine xQ.call rfl (c_at rfl (by omega) (by omega)) ?_
    show xQ MX1_weigh (28, [some (.ref 32), some (.int x), some (.int (mk C)), some (.int (nI (wg (fitf (mk C)) (L.length - k) (L.drop (L.length - k))).1)), some (.int (nI (wg (fitf (mk C)) (L.length - k) (L.drop (L.length - k))).2)), some (.int (nI (L.length - (k + 1))))], [.int (w.1 35 (L.length - (k + 1))), .int (mk C)], w) _
    rw [(hF.2 _ _ hget).1]
    refine xQ.go 4 (F1 := (bif !decide (((mk C) &&& ((mk (fun v => decide (v ∈ L[L.length - (k + 1)]))) ^^^ (-1))) = 0) then 41 else 34, [some (.ref 32), some (.int x), some (.int (mk C)), some (.int (nI (wg (fitf (mk C)) (L.length - k) (L.drop (L.length - k))).1)), some (.int (nI (wg (fitf (mk C)) (L.length - k) (L.drop (L.length - k))).2)), some (.int (nI (L.length - (k + 1))))], [], w)) rfl ?_
    rw [fit_zero]
    cases hf : fitf (mk C) L[L.length - (k + 1)] with
    | true =>
      rw [hf, if_pos rfl] at hwg
      refine xQ.brF (by decide) ?_
      refine xQ.go 5 (F1 := (13, [some (.ref 32), some (.int x), some (.int (mk C)), some (.int ((nI (wg (fitf (mk C)) (L.length - k) (L.drop (L.length - k))).1) + 1)), some (.int (nI (L.length - (k + 1)))), some (.int ((nI (L.length - (k + 1))) + (-1)))], [], w)) rfl ?_
      rw [hdn, ← nI_succ]
      rw [hwg] at K
      exact K
    | false =>
      rw [hf, if_neg (by decide)] at hwg
      refine xQ.brT (by decide) ?_
      refine xQ.go 2 (F1 := (13, [some (.ref 32), some (.int x), some (.int (mk C)), some (.int (nI (wg (fitf (mk C)) (L.length - k) (L.drop (L.length - k))).1)), some (.int (nI (wg (fitf (mk C)) (L.length - k) (L.drop (L.length - k))).2)), some (.int ((nI (L.length - (k + 1))) + (-1)))], [], w)) rfl ?_
      rw [hdn]
      rw [hwg] at K
      exact K
  · intro s hI
    rw [Nat.sub_self, List.drop_zero]
    have e0 : nI L.length - nI (L.length + 1) = -1 := i_dn0 _
    rw [e0]
    refine xQ.go 2 (F1 := (bif decide ((-1) < 0) then 47 else 18, [some (.ref 32), some (.int x), some (.int (mk C)), some (.int (nI (wg (fitf (mk C)) 0 L).1)), some (.int (nI (wg (fitf (mk C)) 0 L).2)), some (.int (-1))], [], w)) rfl ?_
    refine xQ.brT (rfl) ?_
    rw [hi] at hk ⊢
    have hn : (L.filter (fitf (mk C))).length = nfit (mk C) L := rfl
    rw [hn] at hj hk ⊢
    by_cases h0 : nfit (mk C) L = 0
    · rw [h0]
      refine xQ.go 2 (F1 := (bif decide ((nI 0) ≤ 0) then 92 else 51, [some (.ref 32), some (.int x), some (.int (mk C)), some (.int (nI 0)), some (.int (nI (wg (fitf (mk C)) 0 L).2)), some (.int (-1))], [], w)) rfl ?_
      refine xQ.brT (rfl) ?_
      refine xQ.go 2 (F1 := (bif decide ((nI 0) ≤ 0) then 100 else 96, [some (.ref 32), some (.int x), some (.int (mk C)), some (.int (nI 0)), some (.int (nI (wg (fitf (mk C)) 0 L).2)), some (.int (-1))], [], w)) rfl ?_
      refine xQ.brT (rfl) ?_
      refine xQ.go 1 (F1 := (101, [some (.ref 32), some (.int x), some (.int (mk C)), some (.int (nI 0)), some (.int (nI (wg (fitf (mk C)) 0 L).2)), some (.int (-1))], [.int 0], w)) rfl ?_
      refine xQ.iret .boolean 1 rfl rfl (rfl) ?_
      exact ⟨by simp, fun h => absurd rfl h, xkq_rfl⟩
    · have hj := hj h0
      rw [hj]
      have hff : L.findIdx (fitf (mk C)) = ffit (mk C) L := rfl
      rw [hff]
      have hpos : ¬ nI (nfit (mk C) L) ≤ 0 := by
        have := nI_ge (a := 0) (b := nfit (mk C) L) (by omega) (by omega)
        exact this
      refine xQ.go 2 (F1 := (bif decide ((nI (nfit (mk C) L)) ≤ 0) then 92 else 51, [some (.ref 32), some (.int x), some (.int (mk C)), some (.int (nI (nfit (mk C) L))), some (.int (nI (ffit (mk C) L))), some (.int (-1))], [], w)) rfl ?_
      refine xQ.brF (decide_eq_false hpos) ?_
      have fin : ∀ w2, (eC 32 w2 L (pick L (l ++ [(x, mk C)]))) → xkq [(32, some 9), (32, some 10), (32, some 11), (32, some 12)] w w2 → xQ MX1_weigh (92, [some (.ref 32), some (.int x), some (.int (mk C)), some (.int (nI (nfit (mk C) L))), some (.int (nI (ffit (mk C) L))), some (.int (-1))], [], w2) (fun r w1 => r = some (.int (if nfit (mk C) L = 0 then 0 else 1)) ∧ (nfit (mk C) L ≠ 0 → eC 32 w1 L (pick L (l ++ [(x, mk C)]))) ∧ xkq [(32, some 9), (32, some 10), (32, some 11), (32, some 12)] w w1) := by
        intro w2 hc2 hk2
        refine xQ.go 2 (F1 := (bif decide ((nI (nfit (mk C) L)) ≤ 0) then 100 else 96, [some (.ref 32), some (.int x), some (.int (mk C)), some (.int (nI (nfit (mk C) L))), some (.int (nI (ffit (mk C) L))), some (.int (-1))], [], w2)) rfl ?_
        refine xQ.brF (decide_eq_false hpos) ?_
        refine xQ.go 2 (F1 := (101, [some (.ref 32), some (.int x), some (.int (mk C)), some (.int (nI (nfit (mk C) L))), some (.int (nI (ffit (mk C) L))), some (.int (-1))], [.int 1], w2)) rfl ?_
        refine xQ.iret .boolean 1 rfl rfl (rfl) ?_
        exact ⟨by rw [if_neg h0], fun _ => hc2, hk2⟩
      have put : pick L (l ++ [(x, mk C)]) = some (x, mk C) → xQ MX1_weigh (71, [some (.ref 32), some (.int x), some (.int (mk C)), some (.int (nI (nfit (mk C) L))), some (.int (nI (ffit (mk C) L))), some (.int (-1))], [], w) (fun r w1 => r = some (.int (if nfit (mk C) L = 0 then 0 else 1)) ∧ (nfit (mk C) L ≠ 0 → eC 32 w1 L (pick L (l ++ [(x, mk C)]))) ∧ xkq [(32, some 9), (32, some 10), (32, some 11), (32, some 12)] w w1) := by
        intro hp
        refine xQ.go 12 (F1 := (92, [some (.ref 32), some (.int x), some (.int (mk C)), some (.int (nI (nfit (mk C) L))), some (.int (nI (ffit (mk C) L))), some (.int (-1))], [], (xuI (xuI (xuI (xuI w 32 9 x) 32 10 (mk C)) 32 11 (nI (ffit (mk C) L))) 32 12 (nI (nfit (mk C) L))))) rfl ?_
        refine fin _ ?_ (xkq_I (xkq_I (xkq_I (xkq_I xkq_rfl rfl) rfl) rfl) rfl)
        rw [hp]
        simp [eC, uI1, h0]
      cases hp : pick L l with
      | none =>
        rw [hp] at hC
        have hl := pick_none hp
        refine xQ.go 3 (F1 := (bif decide ((w.1 32 12) = 0) then 71 else 58, [some (.ref 32), some (.int x), some (.int (mk C)), some (.int (nI (nfit (mk C) L))), some (.int (nI (ffit (mk C) L))), some (.int (-1))], [], w)) rfl ?_
        refine xQ.brT (by rw [show w.1 32 12 = 0 from hC]; rfl) ?_
        refine put ?_
        rw [hl]
        exact pick_one
      | some q =>
        rw [hp] at hC
        obtain ⟨c1, c2, c3, c4, c5⟩ := hC
        have hpa := pick_add (q := (x, mk C)) hp
        have hq16 : nfit q.2 L ≤ 16 := Nat.le_trans (List.length_filter_le _ _) hL
        refine xQ.go 3 (F1 := (bif decide ((w.1 32 12) = 0) then 71 else 58, [some (.ref 32), some (.int x), some (.int (mk C)), some (.int (nI (nfit (mk C) L))), some (.int (nI (ffit (mk C) L))), some (.int (-1))], [], w)) rfl ?_
        refine xQ.brF (by rw [c4]; exact decide_eq_false (nI_ne0 (by omega) (by omega))) ?_
        by_cases h1 : nfit (mk C) L = 1
        · refine xQ.go 3 (F1 := (bif !decide ((nI (nfit (mk C) L)) = 1) then 92 else 63, [some (.ref 32), some (.int x), some (.int (mk C)), some (.int (nI (nfit (mk C) L))), some (.int (nI (ffit (mk C) L))), some (.int (-1))], [], w)) rfl ?_
          refine xQ.brF (by rw [h1]; rfl) ?_
          by_cases h2 : nfit q.2 L = 1
          · refine xQ.go 4 (F1 := (bif decide ((w.1 32 12) ≤ 1) then 92 else 71, [some (.ref 32), some (.int x), some (.int (mk C)), some (.int (nI (nfit (mk C) L))), some (.int (nI (ffit (mk C) L))), some (.int (-1))], [], w)) rfl ?_
            refine xQ.brT (by rw [c4, h2]; rfl) ?_
            rw [show (if nfit ((x, mk C) : xFr).2 L = 1 ∧ nfit q.2 L ≠ 1 then some (x, mk C) else some q) = some q from if_neg (fun h => h.2 h2)] at hpa
            refine fin w ?_ xkq_rfl
            rw [hpa]
            exact ⟨c1, c2, c3, c4, c5⟩
          · refine xQ.go 4 (F1 := (bif decide ((w.1 32 12) ≤ 1) then 92 else 71, [some (.ref 32), some (.int x), some (.int (mk C)), some (.int (nI (nfit (mk C) L))), some (.int (nI (ffit (mk C) L))), some (.int (-1))], [], w)) rfl ?_
            refine xQ.brF (by rw [c4]; exact decide_eq_false (nI_ge (a := 1) (by omega) (by omega))) ?_
            refine put ?_
            rw [hpa, if_pos ⟨h1, h2⟩]
        · refine xQ.go 3 (F1 := (bif !decide ((nI (nfit (mk C) L)) = 1) then 92 else 63, [some (.ref 32), some (.int x), some (.int (mk C)), some (.int (nI (nfit (mk C) L))), some (.int (nI (ffit (mk C) L))), some (.int (-1))], [], w)) rfl ?_
          refine xQ.brT (by rw [show (1 : Int32) = nI 1 from rfl, decide_eq_false (fun e => h1 (jI_inj (b := 1) (by omega) (by omega) e))]; rfl) ?_
          refine fin w ?_ xkq_rfl
          rw [hpa, if_neg (fun h => h1 h.1)]
          exact ⟨c1, c2, c3, c4, c5⟩
