/-! the traced walks are the cycles -/
theorem fol_next {G : Nat → Nat → Bool} {N : Nat → Nat → Nat} (hG : ∀ v w, G v w = true → v < 10 ∧ w < 10 ∧ G w (N w v) = true) {k : Nat} (n : Nat) : ∀ (lab : Nat → Option Nat) (v w : Nat), G v w = true → fre G lab < n → ((fol N k n lab v w).1 (dn (itd N v w (fol N k n lab v w).2.length))).isSome = true := by
  induction n with
  | zero => exact fun lab v w _ h => absurd h (Nat.not_lt_zero _)
  | succ n ih =>
    intro lab v w hvw hn
    obtain ⟨hv, hw, hx⟩ := hG v w hvw
    cases h : (lab (10 * v + w)).isSome with
    | true =>
      rw [fol_stop h]
      exact h
    | false =>
      have h1 := fre_wup (k := k) hv hw hvw h
      have ih := ih (wup lab (10 * v + w) k) w (N w v) hx (by omega)
      rw [fol_go h]
      rw [itd_next] at ih
      exact ih
theorem pd_idx : ∀ {l : List Nat} {q : xPr}, q ∈ pd l → ∃ i, l[i]? = some q.1 ∧ l[i + 1]? = some q.2
  | [], q, h => by cases h
  | [a], q, h => by cases h
  | a :: b :: t, q, h => by
    rcases List.mem_cons.mp h with h | h
    · rw [h]
      exact ⟨0, rfl, rfl⟩
    · obtain ⟨i, h1, h2⟩ := pd_idx (l := b :: t) h
      exact ⟨i + 1, h1, h2⟩
/-- all walks are closed -/
def TCL (N : Nat → Nat → Nat) (s : (Nat → Option Nat) × List (List xPr)) : Prop := ∀ L ∈ s.2, ∀ q ∈ dts (L.map dn), fN N q.1 = q.2
theorem fre_le (G : Nat → Nat → Bool) (lab : Nat → Option Nat) : fre G lab ≤ 100 := cnt_le _ _
theorem trc_closed {G : Nat → Nat → Bool} {N : Nat → Nat → Nat} (hG : ∀ v w, G v w = true → v < 10 ∧ w < 10 ∧ G w (N w v) = true) {gs : List (List Nat)} (hF : FAM (fN N) (dS G) gs) : ∀ n, TCL N (trc N G n)
  | 0 => fun L hL => by cases hL
  | n + 1 => by
    have ih := trc_closed hG hF n
    obtain ⟨t1, t2, t3, t4⟩ := trc_ok hG n
    unfold trc
    generalize trc N G n = s at *
    by_cases h : (G (n / 10) (n % 10) && !(s.1 n).isSome) = true
    · rw [if_pos h]
      rw [Bool.and_eq_true] at h
      have hn : (s.1 n).isSome = false := by simpa using h.2
      have e10 : 10 * (n / 10) + n % 10 = n := by omega
      obtain ⟨f1, f2, f3, f4⟩ := fol_lab (N := N) (k := s.2.length) 101 s.1 (n / 10) (n % 10)
      obtain ⟨g1, g2⟩ := fol_fre hG (k := s.2.length) 101 s.1 (n / 10) (n % 10) h.1
      have hnx := fol_next hG (k := s.2.length) 101 s.1 (n / 10) (n % 10) h.1 (by have := fre_le G s.1; omega)
      have hhd : ∃ t, (fol N s.2.length 101 s.1 (n / 10) (n % 10)).2 = (n / 10, n % 10) :: t := ⟨_, by rw [fol_go (by rw [e10]; exact hn)]⟩
      generalize fol N s.2.length 101 s.1 (n / 10) (n % 10) = r at *
      intro L hL
      rcases List.mem_append.mp hL with hL | hL
      · exact ih L hL
      · rw [List.mem_singleton] at hL
        rw [hL]
        obtain ⟨t, ht⟩ := hhd
        have at_ : ∀ j, j < r.2.length → r.2[j]? = some (itd N (n / 10) (n % 10) j) := fun j hj => by
          rw [List.getElem?_eq_getElem hj]
          exact congrArg some (f4 j _ (List.getElem?_eq_getElem hj))
        have inL : ∀ j, j < r.2.length → itd N (n / 10) (n % 10) j ∈ r.2 := fun j hj => List.mem_of_getElem? (at_ j hj)
        have stp : ∀ j, j < r.2.length → fN N (dn (itd N (n / 10) (n % 10) j)) = dn (itd N (n / 10) (n % 10) (j + 1)) := fun j hj => by
          have := g2 _ (inL j hj)
          show fN N (10 * _ + _) = _
          rw [fN_dn (hG _ _ this).2.1]
          rfl
        have dSL : ∀ j, j < r.2.length → dS G (dn (itd N (n / 10) (n % 10) j)) = true := fun j hj => by
          have := g2 _ (inL j hj)
          show dS G (10 * _ + _) = true
          rw [dS_dn (hG _ _ this).2.1]
          exact this
        have hpos : 0 < r.2.length := by rw [ht]; simp
        have hlast : dn (itd N (n / 10) (n % 10) r.2.length) = dn (itd N (n / 10) (n % 10) 0) := by
          rw [f1] at hnx
          by_cases hin : dn (itd N (n / 10) (n % 10) r.2.length) ∈ r.2.map dn
          · obtain ⟨p, hp, he⟩ := List.mem_map.mp hin
            obtain ⟨j, hj⟩ := List.getElem?_of_mem hp
            have hjl := (List.getElem?_eq_some_iff.mp hj).1
            have hpj : p = itd N (n / 10) (n % 10) j := f4 j p hj
            rw [hpj] at he
            cases j with
            | zero => exact he.symm
            | succ j =>
              exfalso
              rw [← stp j (by omega)] at he
              have e1 : r.2.length = r.2.length - 1 + 1 := by omega
              rw [e1, ← stp (r.2.length - 1) (by omega)] at he
              have h2 := FAM_inj hF (dSL j (by omega)) (dSL (r.2.length - 1) (by omega)) he
              have e3 : (r.2.map dn)[j]? = (r.2.map dn)[r.2.length - 1]? := by
                rw [List.getElem?_map, List.getElem?_map, at_ j (by omega), at_ (r.2.length - 1) (by omega)]
                show some _ = some _
                rw [h2]
              have := (List.getElem?_inj (by rw [List.length_map]; omega) f2).mp e3
              omega
          · rw [if_neg hin] at hnx
            exfalso
            have e1 : r.2.length = r.2.length - 1 + 1 := by omega
            rw [e1, ← stp (r.2.length - 1) (by omega)] at hnx
            have hcl : ∀ d, dS G d = true → (s.1 d).isSome = true → (s.1 (fN N d)).isSome = true := fun d _ hd => by
              obtain ⟨k, hk⟩ := Option.isSome_iff_exists.mp hd
              obtain ⟨L', l1, l2⟩ := (t1 d k).mp hk
              obtain ⟨y, hy⟩ := dts_ex l2
              have e := ih L' (List.mem_of_getElem? l1) _ hy
              dsimp only at e
              rw [Option.isSome_iff_exists]
              exact ⟨k, (t1 _ k).mpr ⟨L', l1, by rw [e]; exact (dts_mem hy).2⟩⟩
            have hb := FAM_back hF (P := fun d => (s.1 d).isSome = true) hcl (dSL (r.2.length - 1) (by omega)) hnx
            have hno := f3 _ (List.mem_map.mpr ⟨_, inL (r.2.length - 1) (by omega), rfl⟩)
            rw [hno] at hb
            cases hb
        intro q hq
        have e0 : (r.2.map dn) = dn (itd N (n / 10) (n % 10) 0) :: t.map dn := by
          rw [ht]
          rfl
        rw [e0] at hq
        obtain ⟨i, q1, q2⟩ := pd_idx (l := dn (itd N (n / 10) (n % 10) 0) :: t.map dn ++ [dn (itd N (n / 10) (n % 10) 0)]) hq
        rw [← e0] at q1 q2
        have hil : i + 1 < r.2.length + 1 := by
          have := (List.getElem?_eq_some_iff.mp q2).1
          rw [List.length_append, List.length_map] at this
          simpa using this
        rw [List.getElem?_append_left (by rw [List.length_map]; omega), List.getElem?_map, at_ i (by omega)] at q1
        have q1 := Option.some.inj q1
        rw [← q1, stp i (by omega)]
        by_cases e : i + 1 < r.2.length
        · rw [List.getElem?_append_left (by rw [List.length_map]; omega), List.getElem?_map, at_ (i + 1) e] at q2
          exact Option.some.inj q2
        · have e2 : i + 1 = r.2.length := by omega
          rw [List.getElem?_append_right (by rw [List.length_map]; omega), List.length_map, e2, Nat.sub_self] at q2
          rw [e2, hlast]
          exact Option.some.inj q2
    · rw [if_neg h]
      exact ih
theorem trc_inc {G : Nat → Nat → Bool} {N : Nat → Nat → Nat} : ∀ n, (∀ L ∈ (trc N G n).2, ∃ q t, L = q :: t ∧ dn q < n) ∧ (trc N G n).2.Pairwise (fun L L' => ∀ q t q' t', L = q :: t → L' = q' :: t' → dn q < dn q')
  | 0 => ⟨fun L hL => (by cases hL), List.Pairwise.nil⟩
  | n + 1 => by
    obtain ⟨a1, a2⟩ := trc_inc (G := G) (N := N) n
    unfold trc
    generalize trc N G n = s at *
    by_cases h : (G (n / 10) (n % 10) && !(s.1 n).isSome) = true
    · rw [if_pos h]
      rw [Bool.and_eq_true] at h
      have hn : (s.1 n).isSome = false := by simpa using h.2
      have e10 : 10 * (n / 10) + n % 10 = n := by omega
      have hhd : ∃ t, (fol N s.2.length 101 s.1 (n / 10) (n % 10)).2 = (n / 10, n % 10) :: t := ⟨_, by rw [fol_go (by rw [e10]; exact hn)]⟩
      generalize fol N s.2.length 101 s.1 (n / 10) (n % 10) = r at *
      obtain ⟨t, ht⟩ := hhd
      refine ⟨fun L hL => ?_, List.pairwise_append.mpr ⟨a2, List.pairwise_singleton _ _, fun L hL L' hL' q t1 q' t' e1 e2 => ?_⟩⟩
      · rcases List.mem_append.mp hL with hL | hL
        · obtain ⟨q, t, e, hq⟩ := a1 L hL
          exact ⟨q, t, e, by omega⟩
        · rw [List.mem_singleton] at hL
          refine ⟨_, t, hL.trans ht, ?_⟩
          show 10 * (n / 10) + n % 10 < n + 1
          omega
      · rw [List.mem_singleton] at hL'
        rw [hL', ht] at e2
        have e3 := (List.cons.inj e2).1
        obtain ⟨q0, t0, e4, hq⟩ := a1 L hL
        rw [e4] at e1
        have e5 := (List.cons.inj e1).1
        rw [← e5, ← e3]
        show dn q0 < 10 * (n / 10) + n % 10
        omega
    · rw [if_neg h]
      refine ⟨fun L hL => ?_, a2⟩
      obtain ⟨q, t, e, hq⟩ := a1 L hL
      exact ⟨q, t, e, by omega⟩
/-- the walks are a family of cycles -/
theorem FAM_trc {G : Nat → Nat → Bool} {N : Nat → Nat → Nat} (hG : ∀ v w, G v w = true → v < 10 ∧ w < 10 ∧ G w (N w v) = true) {gs : List (List Nat)} (hF : FAM (fN N) (dS G) gs) : FAM (fN N) (dS G) ((trc N G 100).2.map (fun L => L.map dn)) := by
  have hT := trc_closed hG hF 100
  obtain ⟨t1, t2, t3, t4⟩ := trc_ok hG 100
  generalize trc N G 100 = s at *
  refine ⟨fun c hc => ?_, List.pairwise_flatten.mpr ⟨fun c hc => ?_, ?_⟩, fun d => ?_, fun c hc => ?_⟩
  · obtain ⟨L, h1, h2⟩ := List.mem_map.mp hc
    obtain ⟨k, hk⟩ := List.getElem?_of_mem h1
    obtain ⟨_, ⟨q, t, e, _⟩, _⟩ := t2 k L hk
    rw [← h2, e]
    simp
  · obtain ⟨L, h1, h2⟩ := List.mem_map.mp hc
    obtain ⟨k, hk⟩ := List.getElem?_of_mem h1
    rw [← h2]
    exact (t2 k L hk).1
  · rw [List.pairwise_iff_getElem]
    intro i j hi hj hij x hx y hy e
    subst e
    rw [List.length_map] at hi hj
    rw [List.getElem_map] at hx hy
    have h1 := (t1 x i).mpr ⟨s.2[i], List.getElem?_eq_getElem hi, hx⟩
    have h2 := (t1 x j).mpr ⟨s.2[j], List.getElem?_eq_getElem hj, hy⟩
    rw [h1] at h2
    have := Option.some.inj h2
    omega
  · rw [List.mem_flatten]
    constructor
    · rintro ⟨c, hc, hd⟩
      obtain ⟨L, h1, h2⟩ := List.mem_map.mp hc
      obtain ⟨k, hk⟩ := List.getElem?_of_mem h1
      rw [← h2] at hd
      obtain ⟨q, hq, e⟩ := List.mem_map.mp hd
      have := (t2 k L hk).2.2 q hq
      rw [← e]
      show dS G (10 * q.1 + q.2) = true
      rw [dS_dn (hG _ _ this).2.1]
      exact this
    · intro h
      have h10 := hG _ _ h
      have hs := t3 d (by omega) h
      obtain ⟨k, hk⟩ := Option.isSome_iff_exists.mp hs
      obtain ⟨L, l1, l2⟩ := (t1 d k).mp hk
      exact ⟨L.map dn, List.mem_map.mpr ⟨L, List.mem_of_getElem? l1, rfl⟩, l2⟩
  · obtain ⟨L, h1, h2⟩ := List.mem_map.mp hc
    rw [← h2]
    exact hT L h1
