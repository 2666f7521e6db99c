/-! the embedding, run to its end -/
theorem findIdx_beq {l : List Nat} {u : Nat} (h : u ∈ l) : ∃ A B, l = A ++ u :: B ∧ u ∉ A ∧ l.findIdx (fun v => Nat.beq v u) = A.length := by
  induction l with
  | nil => cases h
  | cons a t ih =>
    by_cases e : a = u
    · subst e
      exact ⟨[], t, rfl, List.not_mem_nil, by simp [List.findIdx_cons]⟩
    · have ht : u ∈ t := by
        rcases List.mem_cons.mp h with h | h
        · exact absurd h.symm e
        · exact h
      obtain ⟨A, B, h1, h2, h3⟩ := ih ht
      refine ⟨a :: A, B, by rw [h1]; rfl, fun hm => ?_, ?_⟩
      · rcases List.mem_cons.mp hm with h | h
        · exact e h.symm
        · exact h2 h
      · have eb : Nat.beq a u = false := by
          cases hb : Nat.beq a u with
          | false => rfl
          | true => exact absurd (Nat.eq_of_beq_eq_true hb) e
        rw [List.findIdx_cons, eb, h3]
        rfl
theorem rot_of {l : List Nat} {u : Nat} (h : u ∈ l) : ∃ A B, l = A ++ u :: B ∧ u ∉ A ∧ l.findIdx (fun v => Nat.beq v u) = A.length ∧ rot l u = u :: B ++ A := by
  obtain ⟨A, B, h1, h2, h3⟩ := findIdx_beq h
  refine ⟨A, B, h1, h2, h3, ?_⟩
  unfold rot
  rw [h3, h1, List.drop_left, List.take_left]
theorem cut_of {l : List Nat} {w : Nat} (h : w ∈ l) : ∃ xs ys, l = xs ++ w :: ys ∧ w ∉ xs ∧ cutA l w = xs ∧ cutB l w = w :: ys := by
  unfold cutA cutB
  induction l with
  | nil => cases h
  | cons a t ih =>
    by_cases e : a = w
    · subst e
      exact ⟨[], t, rfl, List.not_mem_nil, by simp, by simp⟩
    · have ht : w ∈ t := by
        rcases List.mem_cons.mp h with h | h
        · exact absurd h.symm e
        · exact h
      have eb : Nat.beq a w = false := by
        cases hb : Nat.beq a w with
        | false => rfl
        | true => exact absurd (Nat.eq_of_beq_eq_true hb) e
      obtain ⟨xs, ys, h1, h2, h3, h4⟩ := ih ht
      refine ⟨a :: xs, ys, by rw [h1]; rfl, fun hm => ?_, ?_, ?_⟩
      · rcases List.mem_cons.mp hm with h | h
        · exact e h.symm
        · exact h2 h
      · rw [List.takeWhile_cons, eb]
        simp [h3]
      · rw [List.dropWhile_cons, eb]
        simp [h4]
theorem list_at {α : Type} {l : List α} {i : Nat} {a : α} (h : l[i]? = some a) : l = l.take i ++ a :: l.drop (i + 1) ∧ ∀ b, l.set i b = l.take i ++ b :: l.drop (i + 1) := by
  have hi := (List.getElem?_eq_some_iff.mp h).1
  have e : l[i] = a := (List.getElem?_eq_some_iff.mp h).2
  constructor
  · rw [← e, List.getElem_cons_drop, List.take_append_drop]
  · intro b
    rw [List.set_eq_take_append_cons_drop, if_pos hi]
abbrev xSg : Type := (Nat → Nat → Bool) × (Nat → Bool) × List (List Nat) × Nat
def estep (H : Nat → Nat → Bool) (S : Nat → Bool) (s : xSg) : Option xSg :=
  match chs s.2.2.1 (frs H S s.1 s.2.1 100) with
  | none => none
  | some q => some (addP s.1 (pth H q), addV s.2.1 (pth H q), plc s.2.2.1 (ffit q.2 s.2.2.1) (low (tb q.2)) ((pth H q).getLastD 0) (pth H q).tail.dropLast, s.2.2.2 + ((pth H q).length - 1))
def erun (H : Nat → Nat → Bool) (S : Nat → Bool) (m : Nat) : Nat → xSg → xSg
  | 0, s => s
  | n + 1, s => if s.2.2.2 < m then match estep H S s with
      | none => s
      | some s1 => erun H S m n s1
    else s
/-- what holds all along -/
def EOK (H : Nat → Nat → Bool) (S : Nat → Bool) (s : xSg) : Prop := INV H S s.1 s.2.1 s.2.2.1 s.2.2.2 ∧ 2 ≤ s.2.2.1.length
theorem chs_mem {faces : List (List Nat)} {l : List xFr} {q : xFr} (h : chs faces l = some q) : q ∈ l ∧ nfit q.2 faces ≠ 0 := by
  unfold chs at h
  split at h
  · cases h
  · next hno =>
    have hall : ∀ q ∈ l, nfit q.2 faces ≠ 0 := fun q hq e => hno (List.any_eq_true.mpr ⟨q, hq, by rw [e]; rfl⟩)
    split at h
    · next q2 hf =>
      cases h
      have := List.mem_of_find?_eq_some hf
      exact ⟨this, hall _ this⟩
    · have : q ∈ l := List.mem_of_head? h
      exact ⟨this, hall q this⟩
theorem ffit_ok {c : Int32} {faces : List (List Nat)} (h : nfit c faces ≠ 0) : ∃ f, faces[ffit c faces]? = some f ∧ fitf c f = true ∧ ∀ j, j < ffit c faces → ∀ g, faces[j]? = some g → fitf c g = false := by
  have hex : ∃ f ∈ faces, fitf c f = true := by
    refine Classical.byContradiction (fun z => h ?_)
    unfold nfit
    rw [List.length_eq_zero_iff, List.filter_eq_nil_iff]
    exact fun a ha hf => z ⟨a, ha, hf⟩
  have hlt : faces.findIdx (fitf c) < faces.length := List.findIdx_lt_length.mpr hex
  refine ⟨faces[faces.findIdx (fitf c)], List.getElem?_eq_getElem hlt, List.findIdx_getElem (w := hlt), fun j hj g hg => ?_⟩
  have h1 := List.not_of_lt_findIdx hj
  have hjl := (List.getElem?_eq_some_iff.mp hg).1
  rw [(List.getElem?_eq_some_iff.mp hg).2] at h1
  simpa using h1
section
variable {H : Nat → Nat → Bool} {S : Nat → Bool}
theorem EOK_two {s : xSg} (h : EOK H S s) : ∃ y z, y ≠ z ∧ s.2.1 y = true ∧ s.2.1 z = true := by
  obtain ⟨⟨_, _, _, i4, _⟩, h2⟩ := h
  obtain ⟨f, t, hf⟩ : ∃ f t, s.2.2.1 = f :: t := by
    cases hq : s.2.2.1 with
    | nil => rw [hq] at h2; simp at h2
    | cons f t => exact ⟨f, t, rfl⟩
  obtain ⟨n1, n2, n3⟩ := i4 f (by rw [hf]; exact List.mem_cons_self)
  match f, n1, n2, n3 with
  | [], _, n2, _ => simp at n2
  | [a], _, n2, _ => simp at n2
  | a :: b :: r, n1, _, n3 =>
    refine ⟨a, b, fun e => ?_, n3 a List.mem_cons_self, n3 b (List.mem_cons_of_mem _ List.mem_cons_self)⟩
    subst e
    exact (List.nodup_cons.mp n1).1 List.mem_cons_self
/-- what a step does -/
theorem estep_ok (hb : BIC H S) (hS : ∀ v, S v = true → v < 10) {s : xSg} (h : EOK H S s) {q : xFr} (hq : chs s.2.2.1 (frs H S s.1 s.2.1 100) = some q) :
    ∃ u inn w f A B xs ys, PTH H S s.1 s.2.1 q u inn w ∧ s.2.2.1[ffit q.2 s.2.2.1]? = some f ∧ f = A ++ u :: B ∧ u ∉ A ∧ f.findIdx (fun v => Nat.beq v u) = A.length ∧ B ++ A = xs ++ w :: ys ∧ w ∉ u :: xs ∧
      estep H S s = some (addP s.1 (u :: inn ++ [w]), addV s.2.1 inn, s.2.2.1.set (ffit q.2 s.2.2.1) (u :: xs ++ w :: inn.reverse) ++ [w :: ys ++ u :: inn], s.2.2.2 + inn.length + 1) ∧
      EOK H S (addP s.1 (u :: inn ++ [w]), addV s.2.1 inn, s.2.2.1.set (ffit q.2 s.2.2.1) (u :: xs ++ w :: inn.reverse) ++ [w :: ys ++ u :: inn], s.2.2.2 + inn.length + 1) := by
  obtain ⟨hI, h2⟩ := id h
  obtain ⟨P, PV, faces, E⟩ := s
  dsimp only at hI h2 hq ⊢
  obtain ⟨i1, i2, i3, i4, _⟩ := id hI
  obtain ⟨hm, hn⟩ := chs_mem hq
  have hPV : ∀ x y, P x y = true → PV x = true ∧ PV y = true := fun x y hxy => ⟨(i2 x y hxy).2, (i2 y x (by rw [i1]; exact hxy)).2⟩
  obtain ⟨u, inn, w, hp⟩ := pth_ok hb hS hPV i3 (EOK_two h) (frs_ok hb 100 (Nat.le_refl _) q hm)
  obtain ⟨p1, p2, p3, p4, p5, p6, p7, p8, p9, p10, p11, p12⟩ := id hp
  obtain ⟨f, hf, hfit, _⟩ := ffit_ok hn
  have hfm : f ∈ faces := List.mem_of_getElem? hf
  have huf : u ∈ f := fitf_iff.mp hfit u p3 p6
  have hwf : w ∈ f := fitf_iff.mp hfit w p4 p7
  obtain ⟨A, B, a1, a2, a3, a4⟩ := rot_of huf
  have hwr : w ∈ B ++ A := by
    rw [a1] at hwf
    simp only [List.mem_append, List.mem_cons] at hwf ⊢
    rcases hwf with h | h | h
    · exact Or.inr h
    · exact absurd h.symm p5
    · exact Or.inl h
  obtain ⟨xs, ys, c1, c2, c3, c4⟩ := cut_of hwr
  have hcA : cutA (rot f u) w = u :: xs := by
    rw [a4]
    show cutA (u :: (B ++ A)) w = _
    unfold cutA at c3 ⊢
    have eb : Nat.beq u w = false := by
      cases hb : Nat.beq u w with
      | false => rfl
      | true => exact absurd (Nat.eq_of_beq_eq_true hb) p5
    rw [List.takeWhile_cons, eb]
    simp [c3]
  have hcB : cutB (rot f u) w = w :: ys := by
    rw [a4]
    show cutB (u :: (B ++ A)) w = _
    unfold cutB at c4 ⊢
    have eb : Nat.beq u w = false := by
      cases hb : Nat.beq u w with
      | false => rfl
      | true => exact absurd (Nat.eq_of_beq_eq_true hb) p5
    rw [List.dropWhile_cons, eb]
    simp [c4]
  have hgl : (u :: inn ++ [w]).getLastD 0 = w := by rw [List.getLastD_eq_getLast?, List.getLast?_concat]; rfl
  have htd : (u :: inn ++ [w]).tail.dropLast = inn := by simp
  have haV : addV PV (u :: inn ++ [w]) = addV PV inn := by
    funext v
    unfold addV
    by_cases e1 : v = u
    · subst e1
      have : PV v = true := (i4 f hfm).2.2 v huf
      simp [this]
    · by_cases e2 : v = w
      · subst e2
        have : PV v = true := (i4 f hfm).2.2 v hwf
        simp [this]
      · simp [e1, e2]
  have hes : estep H S (P, PV, faces, E) = some (addP P (u :: inn ++ [w]), addV PV inn, faces.set (ffit q.2 faces) (u :: xs ++ w :: inn.reverse) ++ [w :: ys ++ u :: inn], E + inn.length + 1) := by
    unfold estep
    dsimp only
    rw [hq]
    dsimp only
    have hl : (u :: inn ++ [w]).length - 1 = inn.length + 1 := by simp
    rw [p1, ← p2, hgl, htd, haV, hl]
    unfold plc
    have hgd : faces.getD (ffit q.2 faces) [] = f := by rw [List.getD_eq_getElem?_getD, hf]; rfl
    rw [hgd, hcA, hcB]
    rfl
  refine ⟨u, inn, w, f, A, B, xs, ys, hp, hf, a1, a2, a3, c1, ?_, hes, ?_⟩
  · intro hm
    rcases List.mem_cons.mp hm with h | h
    · exact p5 h.symm
    · exact c2 h
  · obtain ⟨l1, l2⟩ := list_at hf
    refine ⟨?_, ?_⟩
    · dsimp only
      rw [l2]
      rw [l1, a1] at hI
      refine INV_step hb.1 hI (show u :: B ++ A = u :: xs ++ w :: ys by rw [List.cons_append, c1]; rfl) p8 p9 p10
    · dsimp only
      rw [List.length_append, List.length_set]
      simp
      omega
theorem EOK_lt (hb : BIC H S) {s : xSg} (h : EOK H S s) : 2 * s.2.2.2 = sm (fun x => cnt (s.1 x) 10) 10 := by
  obtain ⟨⟨i1, i2, _, _, i5, i6, i7, _⟩, _⟩ := h
  rw [← i7]
  exact pairs_len i5 i6 (fun x y hxy => ⟨(hb.2.2.1 x y (i2 x y hxy).1).1, (hb.2.2.1 x y (i2 x y hxy).1).2.1⟩)
theorem ec_sm (hb : BIC H S) : sm (fun x => cnt (H x) 10) 10 = 2 * ec H := sm_even hb.1 hb.2.1 10
theorem EOK_le (hb : BIC H S) {s : xSg} (h : EOK H S s) : s.2.2.2 ≤ ec H := by
  have h1 := EOK_lt hb h
  have h2 := ec_sm hb
  have h3 : sm (fun x => cnt (s.1 x) 10) 10 ≤ sm (fun x => cnt (H x) 10) 10 := sm_le fun i _ => cnt_mono fun v _ hv => (h.1.2.1 i v hv).1
  omega
/-- all is placed, or an edge is left -/
theorem EOK_left (hb : BIC H S) {s : xSg} (h : EOK H S s) (hlt : s.2.2.2 < ec H) : ∃ x y, H x y = true ∧ s.1 x y = false := by
  refine Classical.byContradiction (fun z => ?_)
  have h1 := EOK_lt hb h
  have h2 := ec_sm hb
  have h3 : sm (fun x => cnt (H x) 10) 10 ≤ sm (fun x => cnt (s.1 x) 10) 10 := sm_le fun i _ => cnt_mono fun v _ hv => by
    cases hs : s.1 i v with
    | true => rfl
    | false => exact absurd ⟨i, v, hv, hs⟩ z
  omega
theorem EOK_all (hb : BIC H S) {s : xSg} (h : EOK H S s) (he : s.2.2.2 = ec H) : ∀ x y, s.1 x y = H x y := by
  intro x y
  cases hH : H x y with
  | false =>
    cases hs : s.1 x y with
    | false => rfl
    | true => rw [(h.1.2.1 x y hs).1] at hH; cases hH
  | true =>
    cases hs : s.1 x y with
    | true => rfl
    | false =>
      have h1 := EOK_lt hb h
      have h2 := ec_sm hb
      have hx := hb.2.2.1 x y hH
      have h3 : sm (fun x => cnt (s.1 x) 10) 10 < sm (fun x => cnt (H x) 10) 10 := sm_lt (fun i _ => cnt_mono fun v _ hv => (h.1.2.1 i v hv).1) ⟨x, hx.1, cnt_lt (fun v _ hv => (h.1.2.1 x v hv).1) ⟨y, hx.2.1, hs, hH⟩⟩
      omega
theorem flat_len {faces : List (List Nat)} (h : ∀ f ∈ faces, 3 ≤ f.length) : 3 * faces.length ≤ (faces.flatMap dts).length := by
  induction faces with
  | nil => simp
  | cons f t ih =>
    have h1 := ih (fun g hg => h g (List.mem_cons_of_mem _ hg))
    have h2 := h f List.mem_cons_self
    rw [List.flatMap_cons, List.length_append, dts_len, List.length_cons]
    omega
/-- Euler: at most 16 faces and 24 edges; of n vertices at most 3 n - 6 edges -/
theorem EOK_max {s : xSg} (h : EOK H S s) : s.2.2.1.length ≤ 16 ∧ s.2.2.2 + 6 ≤ 3 * cnt s.2.1 10 ∧ s.2.2.2 ≤ 24 := by
  obtain ⟨⟨_, _, _, i4, _, _, i7, i8, _⟩, h2⟩ := h
  have h1 := flat_len (fun f hf => (i4 f hf).2.1)
  have h3 := cnt_le s.2.1 10
  omega
/-- the run: it ends with all placed, or where no fragment can be placed -/
theorem erun_ok (hb : BIC H S) (hS : ∀ v, S v = true → v < 10) : ∀ (n : Nat) (s : xSg), EOK H S s → ec H ≤ s.2.2.2 + n → EOK H S (erun H S (ec H) n s) ∧ ((erun H S (ec H) n s).2.2.2 = ec H ∨ (erun H S (ec H) n s).2.2.2 < ec H ∧ estep H S (erun H S (ec H) n s) = none)
  | 0, s, h, hn => by
    have := EOK_le hb h
    exact ⟨h, Or.inl (by show s.2.2.2 = _; omega)⟩
  | n + 1, s, h, hn => by
    unfold erun
    split
    · next hlt =>
      cases he : estep H S s with
      | none => exact ⟨h, Or.inr ⟨hlt, he⟩⟩
      | some s1 =>
        dsimp only
        unfold estep at he
        split at he
        · cases he
        · next q hq =>
          obtain ⟨u, inn, w, f, A, B, xs, ys, _, _, _, _, _, _, _, h8, h9⟩ := estep_ok hb hS h hq
          unfold estep at h8
          rw [hq] at h8
          have e1 := he.symm.trans h8
          have e2 := Option.some.inj e1
          rw [e2]
          exact erun_ok hb hS n _ h9 (by dsimp only; omega)
    · next hlt =>
      have := EOK_le hb h
      exact ⟨h, Or.inl (by omega)⟩
end
