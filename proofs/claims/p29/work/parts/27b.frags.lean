/-! fragments as the class finds them -/
def snn (l : List xFr) : Nat → Bool := fun v => l.any (fun q => tb q.1 v)
def cpo (H : Nat → Nat → Bool) (S PV : Nat → Bool) (a b : Nat) : Nat → Bool := rch H (fun v => S v && !PV v) (fun v => two a b v && (S v && !PV v))
theorem snn_iff {l : List xFr} {v : Nat} : snn l v = true ↔ ∃ q ∈ l, tb q.1 v = true := by
  unfold snn
  rw [List.any_eq_true]
theorem snn_add {l : List xFr} {x c : Int32} {v : Nat} : snn (l ++ [(x, c)]) v = (snn l v || tb x v) := by simp [snn]
theorem FOK_free {H : Nat → Nat → Bool} {S : Nat → Bool} {P : Nat → Nat → Bool} {PV : Nat → Bool} {q : xFr} (h : FOK H S P PV q) {v : Nat} (hv : v < 10) (ht : tb q.1 v = true) : ∃ x, x < 10 ∧ S x = true ∧ PV x = false ∧ q.1 = mk (cmp H S PV x) ∧ cmp H S PV x v = true := by
  rcases h with ⟨h0, _⟩ | ⟨x, hx, h1, h2, h3, _⟩
  · rw [h0, tb_0] at ht
    cases ht
  · rw [h3, tb_mk' _ hv] at ht
    exact ⟨x, hx, h1, h2, h3, ht⟩
theorem frAdd_class {H : Nat → Nat → Bool} {S : Nat → Bool} {P : Nat → Nat → Bool} {PV : Nat → Bool} (hb : BIC H S) {l : List xFr} (hl : ∀ q ∈ l, FOK H S P PV q) {a b : Nat} (hab : a < b) (hb10 : b < 10) (h1 : H a b = true) (h2 : P a b = false) :
    (meet (two a b) (snn l) = true → frAdd H S P PV l a b = l) ∧ (meet (two a b) (snn l) = false → frAdd H S P PV l a b = l ++ [(mk (cpo H S PV a b), mk (if mk (cpo H S PV a b) = 0 then two a b else fun v => nb H (cpo H S PV a b) v && PV v))]) := by
  obtain ⟨_, _, hSa, hSb⟩ := hb.2.2.1 a b h1
  have ha10 : a < 10 := by omega
  by_cases hpp : PV a = true ∧ PV b = true
  · have e1 : frAdd H S P PV l a b = l ++ [(0, mk (two a b))] := by
      unfold frAdd
      rw [h1, h2, hpp.1, hpp.2]
      rfl
    have e2 : mk (cpo H S PV a b) = 0 := mk_zero.mpr fun v hv => by
      cases h : cpo H S PV a b v with
      | false => rfl
      | true =>
        obtain ⟨x, _, hx, _⟩ := (rch_con hv).mp h
        simp only [Bool.and_eq_true] at hx
        rcases two_iff.mp hx.1 with e | e
        · rw [e, hpp.1] at hx; exact absurd hx.2.2 (by decide)
        · rw [e, hpp.2] at hx; exact absurd hx.2.2 (by decide)
    refine ⟨fun hm => ?_, fun _ => ?_⟩
    · exfalso
      obtain ⟨v, hv, h3, h4⟩ := meet_iff.mp hm
      obtain ⟨q, hq, ht⟩ := snn_iff.mp h4
      obtain ⟨x, _, _, _, _, hc⟩ := FOK_free (hl q hq) hv ht
      have := (cmp_in hc).2
      rcases two_iff.mp h3 with e | e
      · rw [e, hpp.1] at this; cases this
      · rw [e, hpp.2] at this; cases this
    · rw [e1, e2, if_pos rfl]
  · obtain ⟨x, hxd⟩ : ∃ x, x = bif PV a then b else a := ⟨_, rfl⟩
    have hx2 : x = a ∨ x = b := by
      cases hpa : PV a with
      | true => rw [hpa] at hxd; exact Or.inr hxd
      | false => rw [hpa] at hxd; exact Or.inl hxd
    have hx10 : x < 10 := by rcases hx2 with e | e <;> omega
    have hSx : S x = true := by rcases hx2 with e | e <;> rw [e] <;> assumption
    have hPx : PV x = false := by
      cases hpa : PV a with
      | true =>
        rw [hpa] at hxd
        have : PV b = false := by
          cases hpb : PV b with
          | false => rfl
          | true => exact absurd ⟨hpa, hpb⟩ hpp
        rw [hxd]
        exact this
      | false => rw [hpa] at hxd; rw [hxd]; exact hpa
    have hall : ∀ v, v = a ∨ v = b → PV v = false → cmp H S PV x v = true := by
      intro v hv hp
      have hv10 : v < 10 := by rcases hv with e | e <;> omega
      have hSv : S v = true := by rcases hv with e | e <;> rw [e] <;> assumption
      by_cases e : v = x
      · rw [e]; exact cmp_self hSx hPx
      · have hadj : H x v = true := by
          rcases hx2 with e1 | e1 <;> rcases hv with e2 | e2
          · exact absurd (by rw [e1, e2]) e
          · rw [e1, e2]; exact h1
          · rw [e1, e2, hb.1]; exact h1
          · exact absurd (by rw [e1, e2]) e
        exact cmp_step hx10 hv10 (cmp_self hSx hPx) hadj hSv hp
    have e2 : ∀ v, v < 10 → cpo H S PV a b v = cmp H S PV x v := fun v hv => by
      apply Bool.eq_iff_iff.mpr
      constructor
      · intro h
        obtain ⟨y, hy, y1, y2, y3⟩ := (rch_con hv).mp h
        simp only [Bool.and_eq_true, Bool.not_eq_true'] at y1 y2
        have hc := hall y (two_iff.mp y1.1) y2.2
        rw [← cmp_same hb.1 hx10 hy hc v hv]
        exact y3
      · intro h
        refine (rch_con hv).mpr ⟨x, hx10, ?_, ?_, h⟩
        · simp only [Bool.and_eq_true, Bool.not_eq_true']
          exact ⟨two_iff.mpr hx2, hSx, hPx⟩
        · simp only [Bool.and_eq_true, Bool.not_eq_true']
          exact ⟨hSx, hPx⟩
    have e3 : mk (cpo H S PV a b) = mk (cmp H S PV x) := mk_ext e2
    have e4 : mk (cpo H S PV a b) ≠ 0 := fun e => by
      have := mk_zero.mp e x hx10
      rw [e2 x hx10, cmp_self hSx hPx] at this
      cases this
    have e5 : mk (fun v => nb H (cpo H S PV a b) v && PV v) = mk (ctc H PV (cmp H S PV x)) := mk_ext fun v _ => by
      show (_ && _) = (_ && _)
      rw [nb_ext e2]
    have hand : (PV a && PV b) = false := by
      cases hpa : PV a with
      | false => rfl
      | true =>
        cases hpb : PV b with
        | false => rfl
        | true => exact absurd ⟨hpa, hpb⟩ hpp
    have e6 : frAdd H S P PV l a b = if l.any (fun q => decide (q.1 = mk (cmp H S PV x))) then l else l ++ [(mk (cmp H S PV x), mk (ctc H PV (cmp H S PV x)))] := by
      unfold frAdd
      rw [h1, h2, hand, ← hxd]
      rfl
    have e7 : meet (two a b) (snn l) = l.any (fun q => decide (q.1 = mk (cmp H S PV x))) := by
      apply Bool.eq_iff_iff.mpr
      rw [meet_iff, List.any_eq_true]
      constructor
      · rintro ⟨v, hv, v1, v2⟩
        obtain ⟨q, hq, ht⟩ := snn_iff.mp v2
        obtain ⟨y, hy, _, _, y3, y4⟩ := FOK_free (hl q hq) hv ht
        refine ⟨q, hq, decide_eq_true ?_⟩
        rw [y3]
        refine mk_ext fun z hz => ?_
        have f1 := hall v (two_iff.mp v1) (cmp_in y4).2
        rw [← cmp_same hb.1 hy hv y4 z hz, ← cmp_same hb.1 hx10 hv f1 z hz]
      · rintro ⟨q, hq, e⟩
        refine ⟨x, hx10, two_iff.mpr hx2, snn_iff.mpr ⟨q, hq, ?_⟩⟩
        rw [of_decide_eq_true e, tb_mk' _ hx10]
        exact cmp_self hSx hPx
    refine ⟨fun hm => ?_, fun hm => ?_⟩
    · rw [e6, ← e7, hm]; rfl
    · rw [e6, ← e7, hm, if_neg e4, e5, e3]; rfl
