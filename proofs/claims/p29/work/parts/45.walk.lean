/-! walks, traced one after the other -/
def wup (lab : Nat → Option Nat) (d k : Nat) : Nat → Option Nat := fun j => bif Nat.beq j d then some k else lab j
theorem wup_eq (lab : Nat → Option Nat) (d k j : Nat) : wup lab d k j = if j = d then some k else lab j := by
  unfold wup
  cases h : Nat.beq j d with
  | true => rw [if_pos (Nat.eq_of_beq_eq_true h)]; rfl
  | false => rw [if_neg (Nat.ne_of_beq_eq_false h)]; rfl
abbrev dn (q : xPr) : Nat := 10 * q.1 + q.2
def fol (N : Nat → Nat → Nat) (k : Nat) : Nat → (Nat → Option Nat) → Nat → Nat → (Nat → Option Nat) × List xPr
  | 0, lab, _, _ => (lab, [])
  | n + 1, lab, v, w => if (lab (10 * v + w)).isSome = true then (lab, []) else ((fol N k n (wup lab (10 * v + w) k) w (N w v)).1, (v, w) :: (fol N k n (wup lab (10 * v + w) k) w (N w v)).2)
theorem fol_stop {N : Nat → Nat → Nat} {k : Nat} {n : Nat} {lab : Nat → Option Nat} {v w : Nat} (h : (lab (10 * v + w)).isSome = true) : fol N k n lab v w = (lab, []) := by
  cases n with
  | zero => rfl
  | succ n => unfold fol; rw [if_pos h]
theorem fol_go {N : Nat → Nat → Nat} {k : Nat} {n : Nat} {lab : Nat → Option Nat} {v w : Nat} (h : (lab (10 * v + w)).isSome = false) : fol N k (n + 1) lab v w = ((fol N k n (wup lab (10 * v + w) k) w (N w v)).1, (v, w) :: (fol N k n (wup lab (10 * v + w) k) w (N w v)).2) := by
  rw [fol, if_neg (by rw [h]; decide)]
/-- the darts from one on -/
def itd (N : Nat → Nat → Nat) (v w : Nat) : Nat → xPr
  | 0 => (v, w)
  | j + 1 => ((itd N v w j).2, N (itd N v w j).2 (itd N v w j).1)
theorem itd_next (N : Nat → Nat → Nat) (v w : Nat) : ∀ j, itd N w (N w v) j = itd N v w (j + 1)
  | 0 => rfl
  | j + 1 => by
    show ((itd N w (N w v) j).2, N (itd N w (N w v) j).2 (itd N w (N w v) j).1) = _
    rw [itd_next N v w j]
    rfl
theorem fol_lab {N : Nat → Nat → Nat} {k : Nat} : ∀ (n : Nat) (lab : Nat → Option Nat) (v w : Nat), (∀ d, (fol N k n lab v w).1 d = if d ∈ (fol N k n lab v w).2.map dn then some k else lab d) ∧ ((fol N k n lab v w).2.map dn).Nodup ∧ (∀ d ∈ (fol N k n lab v w).2.map dn, lab d = none) ∧ ∀ (j : Nat) (q : xPr), (fol N k n lab v w).2[j]? = some q → q = itd N v w j
  | 0, lab, v, w => ⟨fun d => by simp [fol], by simp [fol], by simp [fol], by simp [fol]⟩
  | n + 1, lab, v, w => by
    cases h : (lab (10 * v + w)).isSome with
    | true =>
      rw [fol_stop h]
      exact ⟨fun d => by simp, by simp, by simp, by simp⟩
    | false =>
      have hno : lab (10 * v + w) = none := by
        cases e : lab (10 * v + w) with
        | none => rfl
        | some z => rw [e] at h; cases h
      obtain ⟨a1, a2, a3, a4⟩ := fol_lab (N := N) (k := k) n (wup lab (10 * v + w) k) w (N w v)
      rw [fol_go h]
      refine ⟨fun d => ?_, ?_, fun d hd => ?_, fun j q hj => ?_⟩
      · show (fol N k n (wup lab (10 * v + w) k) w (N w v)).1 d = _
        rw [a1 d]
        by_cases e1 : d ∈ (fol N k n (wup lab (10 * v + w) k) w (N w v)).2.map dn
        · rw [if_pos e1, if_pos (by rw [List.map_cons]; exact List.mem_cons_of_mem _ e1)]
        · rw [if_neg e1, wup_eq]
          by_cases e2 : d = 10 * v + w
          · rw [if_pos e2, if_pos (by rw [List.map_cons, e2]; exact List.mem_cons_self)]
          · rw [if_neg e2, if_neg]
            rw [List.map_cons, List.mem_cons]
            rintro (e | e)
            · exact e2 e
            · exact e1 e
      · rw [List.map_cons]
        refine List.nodup_cons.mpr ⟨fun e => ?_, a2⟩
        have := a3 _ e
        rw [wup_eq, if_pos rfl] at this
        cases this
      · rw [List.map_cons, List.mem_cons] at hd
        rcases hd with e | e
        · rw [e]; exact hno
        · have := a3 d e
          rw [wup_eq] at this
          by_cases e2 : d = 10 * v + w
          · rw [if_pos e2] at this; cases this
          · rw [if_neg e2] at this; exact this
      · cases j with
        | zero => cases hj; rfl
        | succ j =>
          rw [List.getElem?_cons_succ] at hj
          rw [a4 j q hj, itd_next]
/-- darts without a label -/
def fre (G : Nat → Nat → Bool) (lab : Nat → Option Nat) : Nat := cnt (fun d => G (d / 10) (d % 10) && !(lab d).isSome) 100
theorem dn_div {v w : Nat} (hw : w < 10) : (10 * v + w) / 10 = v ∧ (10 * v + w) % 10 = w := by omega
theorem fre_wup {G : Nat → Nat → Bool} {lab : Nat → Option Nat} {v w k : Nat} (hv : v < 10) (hw : w < 10) (hg : G v w = true) (h : (lab (10 * v + w)).isSome = false) : fre G (wup lab (10 * v + w) k) + 1 = fre G lab := by
  unfold fre
  rw [← cnt_add1 (S := fun d => G (d / 10) (d % 10) && !(wup lab (10 * v + w) k d).isSome) (p := 10 * v + w) (n := 100) (by omega) (by rw [wup_eq, if_pos rfl]; simp)]
  refine cnt_ext fun d _ => ?_
  by_cases e : d = 10 * v + w
  · subst e
    rw [(dn_div (v := v) hw).1, (dn_div (v := v) hw).2, hg, h]
    simp
  · rw [wup_eq, if_neg e]
    simp [e]
theorem fre_pos {G : Nat → Nat → Bool} {lab : Nat → Option Nat} {v w : Nat} (hv : v < 10) (hw : w < 10) (hg : G v w = true) (h : (lab (10 * v + w)).isSome = false) : 1 ≤ fre G lab := by
  have := fre_wup (k := 0) hv hw hg h
  omega
/-- all darts of a trace are edges, and it takes as many free darts as it is long -/
theorem fol_fre {G : Nat → Nat → Bool} {N : Nat → Nat → Nat} (hG : ∀ v w, G v w = true → v < 10 ∧ w < 10 ∧ G w (N w v) = true) {k : Nat} : ∀ (n : Nat) (lab : Nat → Option Nat) (v w : Nat), G v w = true → fre G (fol N k n lab v w).1 + (fol N k n lab v w).2.length = fre G lab ∧ ∀ q ∈ (fol N k n lab v w).2, G q.1 q.2 = true
  | 0, lab, v, w, _ => ⟨by simp [fol], by simp [fol]⟩
  | n + 1, lab, v, w, hvw => by
    obtain ⟨hv, hw, hn⟩ := hG v w hvw
    cases h : (lab (10 * v + w)).isSome with
    | true =>
      rw [fol_stop h]
      exact ⟨by simp, by simp⟩
    | false =>
      obtain ⟨a1, a2⟩ := fol_fre hG (k := k) n (wup lab (10 * v + w) k) w (N w v) hn
      have := fre_wup (k := k) hv hw hvw h
      rw [fol_go h]
      refine ⟨?_, fun q hq => ?_⟩
      · show fre G (fol N k n (wup lab (10 * v + w) k) w (N w v)).1 + ((fol N k n (wup lab (10 * v + w) k) w (N w v)).2.length + 1) = _
        omega
      · rcases List.mem_cons.mp hq with e | e
        · rw [e]; exact hvw
        · exact a2 q e
def trc (N : Nat → Nat → Nat) (G : Nat → Nat → Bool) : Nat → (Nat → Option Nat) × List (List xPr)
  | 0 => (fun _ => none, [])
  | n + 1 => if (G (n / 10) (n % 10) && !((trc N G n).1 n).isSome) = true then ((fol N (trc N G n).2.length 101 (trc N G n).1 (n / 10) (n % 10)).1, (trc N G n).2 ++ [(fol N (trc N G n).2.length 101 (trc N G n).1 (n / 10) (n % 10)).2]) else trc N G n
/-- what a trace is -/
def TOK (N : Nat → Nat → Nat) (G : Nat → Nat → Bool) (n : Nat) (s : (Nat → Option Nat) × List (List xPr)) : Prop :=
  (∀ d k, s.1 d = some k ↔ ∃ L : List xPr, s.2[k]? = some L ∧ d ∈ L.map dn) ∧
  (∀ (k : Nat) (L : List xPr), s.2[k]? = some L → (L.map dn).Nodup ∧ (∃ (q : xPr) (t : List xPr), L = q :: t ∧ G q.1 q.2 = true ∧ (∀ r ∈ L, dn q ≤ dn r) ∧ ∀ (j : Nat) (r : xPr), L[j]? = some r → r = itd N q.1 q.2 j) ∧ ∀ r ∈ L, G r.1 r.2 = true) ∧
  (∀ d, d < n → G (d / 10) (d % 10) = true → (s.1 d).isSome = true) ∧
  fre G s.1 + s.2.flatten.length = fre G (fun _ => none)
theorem trc_ok {G : Nat → Nat → Bool} {N : Nat → Nat → Nat} (hG : ∀ v w, G v w = true → v < 10 ∧ w < 10 ∧ G w (N w v) = true) : ∀ n, TOK N G n (trc N G n)
  | 0 => ⟨fun d k => by simp [trc], fun k L h => by simp [trc] at h, fun d h => absurd h (by omega), by simp [trc]⟩
  | n + 1 => by
    obtain ⟨t1, t2, t3, t4⟩ := trc_ok hG n
    unfold trc
    generalize trc N G n = s at *
    by_cases h : (G (n / 10) (n % 10) && !(s.1 n).isSome) = true
    · rw [if_pos h]
      rw [Bool.and_eq_true] at h
      have hn : (s.1 n).isSome = false := by simpa using h.2
      obtain ⟨hv, hw, _⟩ := hG _ _ h.1
      have e10 : 10 * (n / 10) + n % 10 = n := by omega
      obtain ⟨f1, f2, f3, f4⟩ := fol_lab (N := N) (k := s.2.length) 101 s.1 (n / 10) (n % 10)
      obtain ⟨g1, g2⟩ := fol_fre hG (k := s.2.length) 101 s.1 (n / 10) (n % 10) h.1
      have hhd : ∃ t, (fol N s.2.length 101 s.1 (n / 10) (n % 10)).2 = (n / 10, n % 10) :: t := ⟨_, by rw [fol_go (by rw [e10]; exact hn)]⟩
      generalize fol N s.2.length 101 s.1 (n / 10) (n % 10) = r at *
      refine ⟨fun d k => ?_, fun k L hk => ?_, fun d hd hgd => ?_, ?_⟩
      · show r.1 d = some k ↔ _
        rw [f1 d]
        by_cases e : d ∈ r.2.map dn
        · rw [if_pos e]
          constructor
          · intro e2
            cases e2
            exact ⟨r.2, by simp, e⟩
          · rintro ⟨L, hL, hd⟩
            by_cases e3 : k = s.2.length
            · rw [e3]
            · exfalso
              have hlt : k < s.2.length := by
                have := (List.getElem?_eq_some_iff.mp hL).1
                rw [List.length_append] at this
                simp only [List.length_cons, List.length_nil] at this
                omega
              have : s.1 d = some k := (t1 d k).mpr ⟨L, by rw [← hL]; exact (List.getElem?_append_left hlt).symm, hd⟩
              rw [f3 d e] at this
              cases this
        · rw [if_neg e, t1]
          constructor
          · rintro ⟨L, hL, hd⟩
            exact ⟨L, by rw [← hL]; exact List.getElem?_append_left (List.getElem?_eq_some_iff.mp hL).1, hd⟩
          · rintro ⟨L, hL, hd⟩
            by_cases e3 : k = s.2.length
            · exfalso
              have : L = r.2 := by
                rw [e3] at hL
                simpa using hL.symm
              rw [this] at hd
              exact e hd
            · have hlt : k < s.2.length := by
                have := (List.getElem?_eq_some_iff.mp hL).1
                rw [List.length_append] at this
                simp only [List.length_cons, List.length_nil] at this
                omega
              exact ⟨L, by rw [← hL]; exact (List.getElem?_append_left hlt).symm, hd⟩
      · by_cases e3 : k = s.2.length
        · have : L = r.2 := by
            rw [e3] at hk
            simpa using hk.symm
          subst this
          obtain ⟨t, ht⟩ := hhd
          refine ⟨f2, ⟨_, t, ht, h.1, fun q hq => ?_, f4⟩, g2⟩
          show 10 * (n / 10) + n % 10 ≤ _
          rw [e10]
          have hno := f3 (dn q) (List.mem_map.mpr ⟨q, hq, rfl⟩)
          have hgq := g2 q hq
          obtain ⟨q1, q2, _⟩ := hG _ _ hgq
          refine Nat.le_of_not_lt fun hlt => ?_
          have := t3 (dn q) hlt (by rw [(dn_div (v := q.1) q2).1, (dn_div (v := q.1) q2).2]; exact hgq)
          rw [hno] at this
          cases this
        · have hlt : k < s.2.length := by
            have := (List.getElem?_eq_some_iff.mp hk).1
            rw [List.length_append] at this
            simp only [List.length_cons, List.length_nil] at this
            omega
          exact t2 k L (by rw [← hk]; exact (List.getElem?_append_left hlt).symm)
      · show (r.1 d).isSome = true
        rw [f1 d]
        by_cases e : d ∈ r.2.map dn
        · rw [if_pos e]; rfl
        · rw [if_neg e]
          by_cases e2 : d = n
          · exfalso
            obtain ⟨t, ht⟩ := hhd
            apply e
            rw [ht, e2]
            show n ∈ (10 * (n / 10) + n % 10) :: _
            rw [e10]
            exact List.mem_cons_self
          · exact t3 d (by omega) hgd
      · show fre G r.1 + (s.2 ++ [r.2]).flatten.length = _
        rw [List.flatten_append, List.length_append]
        have : ([r.2] : List (List xPr)).flatten.length = r.2.length := by simp
        rw [this]
        omega
    · rw [if_neg h]
      refine ⟨t1, t2, fun d hd hgd => ?_, t4⟩
      by_cases e2 : d = n
      · subst e2
        rw [Bool.and_eq_true] at h
        cases e3 : (s.1 d).isSome with
        | true => rfl
        | false => exact absurd ⟨hgd, by rw [e3]; rfl⟩ h
      · exact t3 d (by omega) hgd
/-- where each walk begins -/
def off (ws : List (List xPr)) (k : Nat) : Nat := (ws.take k).flatten.length
theorem off_succ {ws : List (List xPr)} {k : Nat} {L : List xPr} (h : ws[k]? = some L) : off ws (k + 1) = off ws k + L.length := by
  unfold off
  rw [List.take_add_one, h]
  simp
theorem off_all (ws : List (List xPr)) : off ws ws.length = ws.flatten.length := by unfold off; rw [List.take_length]
theorem flat_get {ws : List (List xPr)} {k j : Nat} {L : List xPr} (h : ws[k]? = some L) (hj : j < L.length) : ws.flatten[off ws k + j]? = some (L[j]) := by
  obtain ⟨e, _⟩ := list_at h
  have : ws.flatten = (ws.take k).flatten ++ (L ++ (ws.drop (k + 1)).flatten) := by
    conv => lhs; rw [e]
    simp
  rw [this, List.getElem?_append_right (by unfold off; omega)]
  rw [show off ws k + j - (ws.take k).flatten.length = j by unfold off; omega, List.getElem?_append_left hj, List.getElem?_eq_getElem hj]
theorem fol_len {N : Nat → Nat → Nat} {k n : Nat} {lab : Nat → Option Nat} {v w : Nat} (h : (lab (10 * v + w)).isSome = false) : 1 ≤ (fol N k (n + 1) lab v w).2.length := by
  rw [fol_go h]
  simp
theorem flat_ge {ws : List (List xPr)} (h : ∀ (k : Nat) (L : List xPr), ws[k]? = some L → 1 ≤ L.length) : ∀ n, n ≤ ws.length → n ≤ off ws n
  | 0, _ => Nat.zero_le _
  | n + 1, hn => by
    have ih := flat_ge h n (by omega)
    have e := List.getElem?_eq_getElem (l := ws) (i := n) (by omega)
    rw [off_succ e]
    have := h n _ e
    omega
/-- how many darts have a label -/
theorem cnt_lab {L : List Nat} (hn : L.Nodup) (hl : ∀ d ∈ L, d < 100) : cnt (fun d => decide (d ∈ L)) 100 = L.length := by
  induction L with
  | nil =>
    have : cnt (fun d => decide (d ∈ ([] : List Nat))) 100 = cnt (fun _ => false) 100 := cnt_ext fun d _ => by simp
    rw [this]
    decide +kernel
  | cons a t ih =>
    have h1 := List.nodup_cons.mp hn
    rw [show cnt (fun d => decide (d ∈ a :: t)) 100 = cnt (fun d => decide (d ∈ t) || decide (d = a)) 100 from cnt_ext fun d _ => by
      by_cases e1 : d = a <;> by_cases e2 : d ∈ t <;> simp [e1, e2], cnt_add1 (hl a List.mem_cons_self) (by simp [h1.1]), ih h1.2 (fun d hd => hl d (List.mem_cons_of_mem _ hd))]
    rfl
