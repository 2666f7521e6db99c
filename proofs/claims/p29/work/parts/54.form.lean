/-! the text of edits; constants and switches in runs -/
theorem xE.slen {M : xMI} {pc a n : Nat} {s : List Nat} {L : xL} {st : List Value} {w : xW} {r : Option Value} {w1 : xW} (h : xfind (xm_t M) pc = some (.invokevirtual n, 3)) (ho : xsop (xm_c M) n = some 0) (hs : xStrL[a - 100]? = some s) (ha : 100 ≤ a) (hM : (Nat.ble 5 (xm_f M) && Nat.ble 110 (xm_l M) && Nat.ble ((Value.ref a :: st).map fun v => v.category).sum 8) = true) (k : xE M (pc + 3, L, .int (nI s.length) :: st, w) r w1) : xE M (pc, L, .ref a :: st, w) r w1 := by
  refine xE.step ((xs1_of h).trans ?_) k
  simp only [xs1i, ho]
  unfold xsopS
  rw [hM]
  simp only [cond_true, hs, Nat.ble_eq.mpr ha]
  rfl
theorem xE.semp {M : xMI} {pc a n : Nat} {s : List Nat} {L : xL} {st : List Value} {w : xW} {r : Option Value} {w1 : xW} (h : xfind (xm_t M) pc = some (.invokevirtual n, 3)) (ho : xsop (xm_c M) n = some 2) (hs : xStrL[a - 100]? = some s) (ha : 100 ≤ a) (hM : (Nat.ble 5 (xm_f M) && Nat.ble 110 (xm_l M) && Nat.ble ((Value.ref a :: st).map fun v => v.category).sum 8) = true) (k : xE M (pc + 3, L, .int (if s.length = 0 then 1 else 0) :: st, w) r w1) : xE M (pc, L, .ref a :: st, w) r w1 := by
  refine xE.step ((xs1_of h).trans ?_) k
  simp only [xs1i, ho]
  unfold xsopS
  rw [hM]
  simp only [cond_true, hs, Nat.ble_eq.mpr ha]
  cases hb : Nat.beq s.length 0 with
  | true => rw [if_pos (Nat.eq_of_beq_eq_true hb)]; rfl
  | false => rw [if_neg (Nat.ne_of_beq_eq_false hb)]; rfl
theorem xE.schr {M : xMI} {pc a n j : Nat} {i : Int32} {s : List Nat} {L : xL} {st : List Value} {w : xW} {r : Option Value} {w1 : xW} (h : xfind (xm_t M) pc = some (.invokevirtual n, 3)) (ho : xsop (xm_c M) n = some 1) (hs : xStrL[a - 100]? = some s) (ha : 100 ≤ a) (hi : i = nI j) (hj : j < s.length ∧ s.length < 2 ^ 31) (hM : (Nat.ble 5 (xm_f M) && Nat.ble 110 (xm_l M) && Nat.ble ((Value.int i :: Value.ref a :: st).map fun v => v.category).sum 8) = true) (k : xE M (pc + 3, L, .int (nI (s.getD j 0)) :: st, w) r w1) : xE M (pc, L, .int i :: .ref a :: st, w) r w1 := by
  refine xE.step ((xs1_of h).trans ?_) k
  simp only [xs1i, ho]
  unfold xsopS
  rw [hM]
  subst hi
  simp only [cond_true, hs, Nat.ble_eq.mpr ha, xin_nI hj.1 hj.2, Bool.and_self, nI_clamp (n := j) (by omega)]
  rfl
theorem xE.lsw {M : xMI} {pc n : Nat} {d : Int} {ps : Array (Int × Int)} {x : Int32} {L : xL} {st : List Value} {w : xW} {r : Option Value} {w1 : xW} (h : xfind (xm_t M) pc = some (.lookupswitch d ps, n)) (t : Nat) (ht : ((ps.toList.zip (ps.toList.drop 1)).all (fun q => decide (q.1.1 < q.2.1)) && decide (0 ≤ (pc : Int) + Op.lookupswitch.offset ps.toList d x.toInt)) = true ∧ ((pc : Int) + Op.lookupswitch.offset ps.toList d x.toInt).toNat = t) (k : xE M (t, L, st, w) r w1) : xE M (pc, L, .int x :: st, w) r w1 := by
  refine xE.step ((xs1_of h).trans ?_) k
  simp only [xs1i, xlsw]
  rw [ht.1, ht.2]
  rfl
theorem xE.tsw {M : xMI} {pc n : Nat} {d lo hi : Int} {offs : Array Int} {x : Int32} {L : xL} {st : List Value} {w : xW} {r : Option Value} {w1 : xW} (h : xfind (xm_t M) pc = some (.tableswitch d lo hi offs, n)) (t : Nat) (ht : (x.toInt < lo ∨ hi < x.toInt) ∧ (pc : Int) + d = t) (k : xE M (t, L, st, w) r w1) : xE M (pc, L, .int x :: st, w) r w1 := by
  refine xE.step ((xs1_of h).trans ?_) k
  obtain ⟨h1, h2⟩ := ht
  have e : (decide (x.toInt < lo) || decide (hi < x.toInt)) = true := by
    rw [Bool.or_eq_true, decide_eq_true_iff, decide_eq_true_iff]
    exact h1
  simp only [xs1i, xtsw]
  rw [e, h2, decide_eq_true (Int.natCast_nonneg t)]
  rfl
theorem xQ.slen {M : xMI} {pc a n : Nat} {s : List Nat} {L : xL} {st : List Value} {w : xW} {Q : Option Value → xW → Prop} (h : xfind (xm_t M) pc = some (.invokevirtual n, 3)) (ho : xsop (xm_c M) n = some 0) (hs : xStrL[a - 100]? = some s) (ha : 100 ≤ a) (hM : (Nat.ble 5 (xm_f M) && Nat.ble 110 (xm_l M) && Nat.ble ((Value.ref a :: st).map fun v => v.category).sum 8) = true) (k : xQ M (pc + 3, L, .int (nI s.length) :: st, w) Q) : xQ M (pc, L, .ref a :: st, w) Q := xQ.lift (fun _ _ => xE.slen h ho hs ha hM) k
theorem xQ.semp {M : xMI} {pc a n : Nat} {s : List Nat} {L : xL} {st : List Value} {w : xW} {Q : Option Value → xW → Prop} (h : xfind (xm_t M) pc = some (.invokevirtual n, 3)) (ho : xsop (xm_c M) n = some 2) (hs : xStrL[a - 100]? = some s) (ha : 100 ≤ a) (hM : (Nat.ble 5 (xm_f M) && Nat.ble 110 (xm_l M) && Nat.ble ((Value.ref a :: st).map fun v => v.category).sum 8) = true) (k : xQ M (pc + 3, L, .int (if s.length = 0 then 1 else 0) :: st, w) Q) : xQ M (pc, L, .ref a :: st, w) Q := xQ.lift (fun _ _ => xE.semp h ho hs ha hM) k
theorem xQ.tsw {M : xMI} {pc n : Nat} {d lo hi : Int} {offs : Array Int} {x : Int32} {L : xL} {st : List Value} {w : xW} {Q : Option Value → xW → Prop} (h : xfind (xm_t M) pc = some (.tableswitch d lo hi offs, n)) (t : Nat) (ht : (x.toInt < lo ∨ hi < x.toInt) ∧ (pc : Int) + d = t) (k : xQ M (t, L, st, w) Q) : xQ M (pc, L, .int x :: st, w) Q := xQ.lift (fun _ _ => xE.tsw h t ht) k
theorem xQ.lsw {M : xMI} {pc n : Nat} {d : Int} {ps : Array (Int × Int)} {x : Int32} {L : xL} {st : List Value} {w : xW} {Q : Option Value → xW → Prop} (h : xfind (xm_t M) pc = some (.lookupswitch d ps, n)) (t : Nat) (ht : ((ps.toList.zip (ps.toList.drop 1)).all (fun q => decide (q.1.1 < q.2.1)) && decide (0 ≤ (pc : Int) + Op.lookupswitch.offset ps.toList d x.toInt)) = true ∧ ((pc : Int) + Op.lookupswitch.offset ps.toList d x.toInt).toNat = t) (k : xQ M (t, L, st, w) Q) : xQ M (pc, L, .int x :: st, w) Q := xQ.lift (fun _ _ => xE.lsw h t ht) k
/-! what a text says -/
def tch (T : List Nat) (k : Nat) : Nat := T.getD k 0
def tOK (T : List Nat) : Prop := T.length ≤ 80 ∧ ∀ x ∈ T, 32 ≤ x ∧ x ≤ 126
theorem tch_le {T : List Nat} (h : tOK T) (k : Nat) : tch T k ≤ 126 := by
  unfold tch
  rw [List.getD_eq_getElem?_getD]
  cases e : T[k]? with
  | none => exact Nat.zero_le _
  | some x =>
    obtain ⟨hk, e2⟩ := List.getElem?_eq_some_iff.mp e
    exact (h.2 x (by rw [← e2]; exact List.getElem_mem hk)).2
theorem tch_out {T : List Nat} {k : Nat} (h : T.length ≤ k) : tch T k = 0 := by
  unfold tch
  rw [List.getD_eq_getElem?_getD, List.getElem?_eq_none h]
  rfl
theorem tch_in {T : List Nat} {k : Nat} (h : tch T k ≠ 0) : k < T.length := Nat.lt_of_not_le fun hn => h (tch_out hn)
/-- the form of an edit that begins with this character: its constant, and its characters -/
def foA (x : Nat) : Nat := if x = 97 then 100 else if x = 100 then 101 else if x = 102 then 102 else 103
def foL (x : Nat) : List Nat := if x = 97 then [97, 100, 100, 32, 35, 45, 35] else if x = 100 then [100, 114, 111, 112, 32, 35, 45, 35] else if x = 102 then [102, 108, 105, 112, 32, 35, 45, 35] else []
theorem foA_ge (x : Nat) : 100 ≤ foA x := by
  unfold foA
  split
  · decide
  · split
    · decide
    · split <;> decide
theorem foA_L (x : Nat) : xStrL[foA x - 100]? = some (foL x) := by
  unfold foA foL
  split
  · rfl
  · split
    · rfl
    · split <;> rfl
theorem foL_cases (x : Nat) : (x ≠ 97 ∧ x ≠ 100 ∧ x ≠ 102 ∧ foL x = []) ∨ ((x = 97 ∨ x = 100 ∨ x = 102) ∧ 7 ≤ (foL x).length ∧ (foL x).length ≤ 8 ∧ (∀ i, i < (foL x).length → (foL x).getD i 0 ≠ 0 ∧ (foL x).getD i 0 ≤ 126) ∧ (foL x).getD ((foL x).length - 1) 0 = 35 ∧ (foL x).getD ((foL x).length - 2) 0 = 45 ∧ (foL x).getD ((foL x).length - 3) 0 = 35) := by
  by_cases h1 : x = 97
  · subst h1
    refine Or.inr ⟨Or.inl rfl, by decide, by decide, by decide, by decide, by decide, by decide⟩
  · by_cases h2 : x = 100
    · subst h2
      refine Or.inr ⟨Or.inr (Or.inl rfl), by decide, by decide, by decide, by decide, by decide, by decide⟩
    · by_cases h3 : x = 102
      · subst h3
        refine Or.inr ⟨Or.inr (Or.inr rfl), by decide, by decide, by decide, by decide, by decide, by decide⟩
      · refine Or.inl ⟨h1, h2, h3, ?_⟩
        unfold foL
        rw [if_neg h1, if_neg h2, if_neg h3]
/-- is the character at s + i as the form f wants it -/
def okA (T : List Nat) (s : Nat) (f : List Nat) (i : Nat) : Bool := (if f.getD i 0 = 35 then decide (48 ≤ tch T (s + i)) && decide (tch T (s + i) ≤ 57) else decide (tch T (s + i) = f.getD i 0)) && !(decide (i + 1 = f.length) && decide (tch T (s + i) = tch T (s + i - 2)))
/-- the first place from i on where p fails, n places on at most -/
def ffl (p : Nat → Bool) : Nat → Nat → Nat
  | 0, i => i
  | n + 1, i => if p i = true then ffl p n (i + 1) else i
theorem ffl_spec (p : Nat → Bool) : ∀ n i, i ≤ ffl p n i ∧ ffl p n i ≤ i + n ∧ (∀ j, i ≤ j → j < ffl p n i → p j = true) ∧ (ffl p n i < i + n → p (ffl p n i) = false)
  | 0, i => ⟨Nat.le_refl _, Nat.le_refl _, fun j h1 h2 => by simp only [ffl] at h2; omega, fun h => by simp only [ffl] at h; omega⟩
  | n + 1, i => by
    unfold ffl
    cases h : p i with
    | true =>
      rw [if_pos rfl]
      obtain ⟨a1, a2, a3, a4⟩ := ffl_spec p n (i + 1)
      refine ⟨by omega, by omega, fun j h1 h2 => ?_, fun h2 => a4 (by omega)⟩
      by_cases e : j = i
      · rw [e]; exact h
      · exact a3 j (by omega) h2
    | false =>
      rw [if_neg (by decide)]
      exact ⟨Nat.le_refl _, by omega, fun j h1 h2 => by omega, fun _ => h⟩
/-- how many characters from s on are right -/
def rgt (T : List Nat) (s : Nat) : Nat := ffl (okA T s (foL (tch T s))) (foL (tch T s)).length 0
theorem okA_in {T : List Nat} {s i : Nat} (hi : i < (foL (tch T s)).length) (h : okA T s (foL (tch T s)) i = true) : s + i < T.length := by
  rcases foL_cases (tch T s) with ⟨_, _, _, e⟩ | ⟨_, _, _, e, _⟩
  · rw [e] at hi
    exact absurd hi (Nat.not_lt_zero _)
  · refine tch_in fun h0 => ?_
    unfold okA at h
    rw [Bool.and_eq_true, h0] at h
    have h := h.1
    by_cases e35 : (foL (tch T s)).getD i 0 = 35
    · rw [if_pos e35] at h
      exact absurd h (by decide)
    · rw [if_neg e35] at h
      exact (e i hi).1 (of_decide_eq_true h).symm
/-- an edit that is right from its begin to its end -/
theorem rgt_full {T : List Nat} {s : Nat} (hf : foL (tch T s) ≠ []) (h : rgt T s = (foL (tch T s)).length) : (tch T s = 97 ∨ tch T s = 100 ∨ tch T s = 102) ∧ 7 ≤ rgt T s ∧ s + rgt T s ≤ T.length ∧ (∃ a b, a < 10 ∧ b < 10 ∧ a ≠ b ∧ tch T (s + rgt T s - 3) = 48 + a ∧ tch T (s + rgt T s - 1) = 48 + b) := by
  rcases foL_cases (tch T s) with ⟨_, _, _, e⟩ | ⟨e1, e2, e3, e4, e5, e6, e7⟩
  · exact absurd e hf
  · have hall : ∀ i, i < (foL (tch T s)).length → okA T s (foL (tch T s)) i = true := fun i hi => (ffl_spec (okA T s (foL (tch T s))) (foL (tch T s)).length 0).2.2.1 i (Nat.zero_le _) (by show i < rgt T s; omega)
    rw [h]
    generalize hn : (foL (tch T s)).length = n at *
    have o1 := hall (n - 1) (by omega)
    have o3 := hall (n - 3) (by omega)
    have i1 := okA_in (by omega) o1
    unfold okA at o1 o3
    rw [e5, if_pos rfl, hn, show n - 1 + 1 = n by omega, decide_eq_true rfl, Bool.true_and, show s + (n - 1) - 2 = s + (n - 3) by omega, Bool.and_eq_true, Bool.and_eq_true, decide_eq_true_iff, decide_eq_true_iff] at o1
    rw [e7, if_pos rfl, Bool.and_eq_true, Bool.and_eq_true, decide_eq_true_iff, decide_eq_true_iff] at o3
    refine ⟨e1, e2, by omega, tch T (s + (n - 3)) - 48, tch T (s + (n - 1)) - 48, by omega, by omega, ?_, ?_, ?_⟩
    · intro e
      have : tch T (s + (n - 1)) = tch T (s + (n - 3)) := by omega
      rw [this] at o1
      simp at o1
    · rw [show s + n - 3 = s + (n - 3) by omega]
      omega
    · rw [show s + n - 1 = s + (n - 1) by omega]
      omega
/-- the fault, and where each edit begins and ends -/
def scn (T : List Nat) : Nat → Nat → Int32 × List xPr
  | 0, s => (nI s, [])
  | k + 1, s => if foL (tch T s) = [] ∨ rgt T s < (foL (tch T s)).length then (nI (s + rgt T s), []) else if T.length ≤ s + rgt T s then (-5, [(s, s + rgt T s)]) else if tch T (s + rgt T s) = 59 then ((scn T k (s + rgt T s + 1)).1, (s, s + rgt T s) :: (scn T k (s + rgt T s + 1)).2) else (nI (s + rgt T s), [(s, s + rgt T s)])
