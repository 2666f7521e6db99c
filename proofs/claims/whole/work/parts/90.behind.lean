/-! the reference: who is behind whom around a vertex -/
theorem dts_adj (A : List Nat) (x y : Nat) (B : List Nat) : (x, y) ∈ dts (A ++ x :: y :: B) := by
  refine dts_get (i := A.length) (by simp) ?_
  rw [Nat.mod_eq_of_lt (by simp)]
  rw [List.getElem?_append_right (by omega), show A.length + 1 - A.length = 1 by omega]
  rfl
theorem dts_hl {L : List Nat} {x y : Nat} (h1 : L.head? = some y) (h2 : L.getLast? = some x) : (x, y) ∈ dts L := by
  have h0 : 0 < L.length := by cases L with | nil => cases h1 | cons a t => simp
  refine dts_get (i := L.length - 1) (by rw [← List.getLast?_eq_getElem?]; exact h2) ?_
  rw [show L.length - 1 + 1 = L.length by omega, Nat.mod_self, ← List.head?_eq_getElem?]
  exact h1
theorem dts_cut {R : List Nat} {x z : Nat} (hn : R.Nodup) (h : (x, z) ∈ dts R) : (∃ A B, R = A ++ x :: z :: B) ∨ (R.getLast? = some x ∧ R.head? = some z) := by
  obtain ⟨A, B, e⟩ := List.append_of_mem (dts_mem h).1
  cases B with
  | nil =>
    have hl : R.getLast? = some x := by rw [e]; simp
    refine Or.inr ⟨hl, ?_⟩
    cases hh : R.head? with
    | none => rw [List.head?_eq_none_iff.mp hh] at h; cases h
    | some y => rw [dts_fun hn h (dts_hl hh hl)]
  | cons b B =>
    refine Or.inl ⟨A, B, ?_⟩
    have := dts_adj A x b B
    rw [← e] at this
    rw [dts_fun hn h this]
    exact e
theorem ord_head {G : Nat → Nat → Bool} {v y : Nat} {q : xPr} : ∀ (l : List xPr) (t : Nat), l[t]? = some q → (∀ s r, s < t → l[s]? = some r → rtl G r v = []) → (rtl G q v).head? = some y → (ord G l v).head? = some y
  | [], t, h, _, _ => by simp at h
  | r :: l, 0, h, _, hy => by
    cases h
    show (rtl G q v ++ ord G l v).head? = some y
    rw [List.head?_append, hy]
    rfl
  | r :: l, t + 1, h, hs, hy => by
    show (rtl G r v ++ ord G l v).head? = some y
    rw [hs 0 r (by omega) rfl]
    exact ord_head l t h (fun s r' hst hr => hs (s + 1) r' (by omega) hr) hy
theorem rot_at {l : List xPr} {j : Nat} {p : xPr} (hj : l[j]? = some p) {s : Nat} (hs : s < l.length) : (l.drop (j + 1) ++ l.take j ++ [p])[s]? = l[(j + 1 + s) % l.length]? := by
  have hjl := (List.getElem?_eq_some_iff.mp hj).1
  by_cases h1 : j + 1 + s < l.length
  · rw [Nat.mod_eq_of_lt h1, List.append_assoc, List.getElem?_append_left (by rw [List.length_drop]; omega), List.getElem?_drop]
  · have e : (j + 1 + s) % l.length = j + 1 + s - l.length := by
      rw [Nat.mod_eq_sub_mod (by omega), Nat.mod_eq_of_lt (by omega)]
    rw [e, List.append_assoc, List.getElem?_append_right (by rw [List.length_drop]; omega), List.length_drop]
    by_cases h2 : j + 1 + s - l.length < j
    · rw [List.getElem?_append_left (by rw [List.length_take]; omega), List.getElem?_take, if_pos (by omega)]
      congr 1
      omega
    · rw [List.getElem?_append_right (by rw [List.length_take]; omega), List.length_take, show s - (l.length - (j + 1)) - min j l.length = 0 by omega, show j + 1 + s - l.length = j by omega, hj]
      rfl
theorem nxt_beh {G : Nat → Nat → Bool} (hg : gok G) (hf : flt G (blks G 100) = true) {v x j : Nat} {p : xPr} (hj : (blks G 100)[j]? = some p) (hx : bH G (bS G p) v x = true) : ∃ z, bSc G p v x z ∧ z < 10 ∧ (z ≠ low (bH G (bS G p) v) → nxt G v x = z) ∧ (z = low (bH G (bS G p) v) → ∀ t q, t < (blks G 100).length → (∀ s r, s < t → (blks G 100)[(j + 1 + s) % (blks G 100).length]? = some r → bS G r v = false) → (blks G 100)[(j + 1 + t) % (blks G 100).length]? = some q → bS G q v = true → nxt G v x = low (bH G (bS G q) v)) := by
  have hO := blks_ok hg 100 (Nat.le_refl _)
  have hpm := List.mem_of_getElem? hj
  have hp := (hO.1 p hpm).1
  have hpf := flt_all hf hpm
  have hv := (bH_iff.mp hx).2.1
  obtain ⟨R1, R2, R3, R4⟩ := rtl_yes hg hp hpf hv
  obtain ⟨z, hz⟩ : ∃ z, (x, z) ∈ dts (rtl G p v) := ⟨_, nxL_dts ((R2 x).mpr hx)⟩
  have hsc := R3 _ _ hz
  have hed := (bSc_edge hg hp hpf hsc).2
  refine ⟨z, hsc, (hg.2.2 _ _ (bH_iff.mp hed).1).2, fun hne => ?_, fun he t q ht hs hq hqv => ?_⟩
  · rcases dts_cut R1 hz with ⟨A, B, e⟩ | ⟨_, e⟩
    · refine nxt_of hg hf ?_
      obtain ⟨el, _⟩ := list_at hj
      rw [el, ord_app]
      show _ ∈ dts (ord G ((blks G 100).take j) v ++ (rtl G p v ++ ord G ((blks G 100).drop (j + 1)) v))
      rw [e]
      have := dts_adj (ord G ((blks G 100).take j) v ++ A) x z (B ++ ord G ((blks G 100).drop (j + 1)) v)
      simpa using this
    · rw [e] at R4
      exact absurd (Option.some.inj R4) hne
  · have hlast : (rtl G p v).getLast? = some x := by
      rcases dts_cut R1 hz with ⟨A, B, e⟩ | ⟨e, _⟩
      · exfalso
        have hd := R4
        rw [← he] at hd
        rw [e] at hd R1
        cases A with
        | nil =>
          cases hd
          simp at R1
        | cons a A =>
          cases hd
          simp at R1
      · exact e
    have hqm := List.mem_of_getElem? hq
    obtain ⟨_, _, _, Q4⟩ := rtl_yes hg (hO.1 q hqm).1 (flt_all hf hqm) hqv
    refine nxt_of hg hf ?_
    obtain ⟨el, _⟩ := list_at hj
    have hro : ∀ d, d ∈ dts (ord G (blks G 100) v) ↔ d ∈ dts (ord G ((blks G 100).drop (j + 1) ++ (blks G 100).take j ++ [p]) v) := fun d => by
      conv => lhs; rw [el]
      rw [show (blks G 100).take j ++ p :: (blks G 100).drop (j + 1) = ((blks G 100).take j ++ [p]) ++ (blks G 100).drop (j + 1) by simp, ord_app, dts_rot, ← ord_app, List.append_assoc]
    rw [hro]
    refine dts_hl (ord_head _ t (q := q) ?_ ?_ Q4) ?_
    · rw [rot_at hj ht]
      exact hq
    · intro s r hst hr
      rw [rot_at hj (by omega)] at hr
      exact rtl_no (hs s r hst hr)
    · obtain ⟨ys, ey⟩ := List.getLast?_eq_some_iff.mp hlast
      rw [ord_app]
      show (ord G ((blks G 100).drop (j + 1) ++ (blks G 100).take j) v ++ (rtl G p v ++ [])).getLast? = some x
      rw [ey, List.append_nil, ← List.append_assoc]
      simp
theorem fst_ex : ∀ (P : Nat → Bool) (n : Nat), P n = true → ∃ t, t ≤ n ∧ (∀ s, s < t → P s = false) ∧ P t = true
  | P, 0, h => ⟨0, Nat.le_refl _, fun s hs => absurd hs (by omega), h⟩
  | P, n + 1, h => by
    cases h0 : P 0 with
    | true => exact ⟨0, by omega, fun s hs => absurd hs (by omega), h0⟩
    | false =>
      obtain ⟨t, t1, t2, t3⟩ := fst_ex (fun k => P (k + 1)) n h
      refine ⟨t + 1, by omega, fun s hs => ?_, t3⟩
      cases s with
      | zero => exact h0
      | succ s => exact t2 s (by omega)
