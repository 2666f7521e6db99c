/-! the faces of an embedding are a strong family -/
theorem pd_mid {A B : List Nat} {a b c : Nat} : (a, b) ∈ pd (A ++ a :: b :: c :: B) ∧ (b, c) ∈ pd (A ++ a :: b :: c :: B) := by
  rw [pd_app]
  exact ⟨List.mem_append_right _ List.mem_cons_self, List.mem_append_right _ (List.mem_cons_of_mem _ List.mem_cons_self)⟩
theorem cyc_even {c : List Nat} (h : c.Nodup) (h3 : 3 ≤ c.length) (h10 : ∀ z ∈ c, z < 10) {X : xG} (hs : ∀ x y, X x y = X y x) (hsub : ∀ x y, X x y = true → eSQ c x y = true) (ho : ∀ v, v < 10 → od X v = false) : X = x0 ∨ X = eSQ c := by
  match c, h, h3, h10, hsub with
  | [], _, h3, _, _ => simp at h3
  | [_], _, h3, _, _ => simp at h3
  | a :: b :: t, h, h3, h10, hsub =>
    have hl : dts (a :: b :: t) = pd (a :: b :: (t ++ [a])) := rfl
    have key := pd_const (X := X) (a :: b :: (t ++ [a])) (fun A p q r B e => by
      have hpq : (p, q) ∈ dts (a :: b :: t) := by rw [hl, e]; exact pd_mid.1
      have hqr : (q, r) ∈ dts (a :: b :: t) := by rw [hl, e]; exact pd_mid.2
      have hpr : p ≠ r := fun z => dts_asym h h3 hpq (by rw [z]; exact hqr)
      have hp := h10 p (dts_mem hpq).1
      have hq := h10 q (dts_mem hpq).2
      have hr := h10 r (dts_mem hqr).2
      have h1 := ho q hq
      unfold od at h1
      rw [xs_two hp hr hpr (fun z _ n1 n2 => by
        cases eX : X q z with
        | false => rfl
        | true =>
          rcases eS_iff.mp (hsub q z eX) with g | g
          · exact absurd (dts_fun h g hqr) n2
          · exact absurd (dts_inj h g hpq) n1)] at h1
      rw [hs p q]
      revert h1
      cases X q p <;> cases X q r <;> simp) a b (t ++ [a]) rfl
    rw [← hl] at key
    cases e0 : X a b with
    | false =>
      refine Or.inl ?_
      funext x y
      cases e : X x y with
      | false => rfl
      | true =>
        rcases eS_iff.mp (hsub x y e) with g | g
        · rw [key _ g, e0] at e; cases e
        · rw [hs, key _ g, e0] at e; cases e
    | true =>
      refine Or.inr ?_
      funext x y
      cases e : eSQ (a :: b :: t) x y with
      | true =>
        rcases eS_iff.mp e with g | g
        · rw [key _ g]; exact e0
        · rw [hs, key _ g]; exact e0
      | false =>
        cases e2 : X x y with
        | false => rfl
        | true => rw [hsub x y e2] at e; cases e
def FZ (L : List (List Nat)) : Nat → xG := fun j => eSQ (L.getD j [])
theorem FZ_at {L : List (List Nat)} {j : Nat} {f : List Nat} (h : L[j]? = some f) : FZ L j = eSQ f := by
  unfold FZ
  rw [List.getD_eq_getElem?_getD, h]
  rfl
/-- all even sets of P are sums of faces, and there is one relation alone -/
def GR (P : xG) (L : List (List Nat)) : Prop := (∀ X, ev P X → ∃ U, X = sU (FZ L) U L.length) ∧ rl (FZ L) L.length
theorem flat_one {L : List (List Nat)} (h : (L.flatMap dts).Nodup) {i k : Nat} {f g : List Nat} (hi : L[i]? = some f) (hk : L[k]? = some g) {q : xPr} (h1 : q ∈ dts f) (h2 : q ∈ dts g) : i = k := by
  obtain ⟨_, hp⟩ := List.pairwise_flatMap.mp h
  obtain ⟨il, ie⟩ := List.getElem?_eq_some_iff.mp hi
  obtain ⟨kl, ke⟩ := List.getElem?_eq_some_iff.mp hk
  rcases Nat.lt_trichotomy i k with z | z | z
  · have := List.pairwise_iff_getElem.mp hp i k il kl z
    rw [ie, ke] at this
    exact absurd rfl (this q h1 q h2)
  · exact z
  · have := List.pairwise_iff_getElem.mp hp k i kl il z
    rw [ie, ke] at this
    exact absurd rfl (this q h2 q h1)
section
variable {H : xG} {S : Nat → Bool} {P : xG} {PV : Nat → Bool} {L : List (List Nat)} {E : Nat}
theorem FZ_lt {j : Nat} {x y : Nat} (h : FZ L j x y = true) : ∃ f, L[j]? = some f := by
  cases e : L[j]? with
  | some f => exact ⟨f, rfl⟩
  | none =>
    unfold FZ at h
    rw [List.getD_eq_getElem?_getD, e] at h
    rcases eS_iff.mp h with h | h <;> cases h
theorem FZ_ev (hS : ∀ v, S v = true → v < 10) (hI : INV H S P PV L E) {j : Nat} (hj : j < L.length) : ev P (FZ L j) := by
  obtain ⟨i1, i2, i3, i4, i5, i6, _⟩ := hI
  obtain ⟨f, hf⟩ : ∃ f, L[j]? = some f := ⟨L[j], List.getElem?_eq_getElem hj⟩
  have hm := List.mem_of_getElem? hf
  obtain ⟨n1, n2, n3⟩ := i4 f hm
  rw [FZ_at hf]
  exact ev_eS i1 n1 n2 (fun z hz => hS z (i3 z (n3 z hz))) (fun q hq => (i6 q.1 q.2).mp (List.mem_flatMap.mpr ⟨f, hm, hq⟩))
theorem FZ_tw (hI : INV H S P PV L E) : tw (FZ L) L.length := by
  obtain ⟨i1, i2, i3, i4, i5, i6, _⟩ := hI
  intro x y i hi h
  obtain ⟨f, hf⟩ := FZ_lt h
  have hm := List.mem_of_getElem? hf
  obtain ⟨n1, n2, _⟩ := i4 f hm
  rw [FZ_at hf] at h
  -- one dart in f, the other elsewhere
  have main : ∀ x y, (x, y) ∈ dts f → ∃ j, j < L.length ∧ j ≠ i ∧ FZ L j x y = true ∧ ∀ k, k < L.length → FZ L k x y = true → k = i ∨ k = j := by
    intro x y hxy
    have hP : P x y = true := (i6 x y).mp (List.mem_flatMap.mpr ⟨f, hm, hxy⟩)
    obtain ⟨g, hg, hyx⟩ := List.mem_flatMap.mp ((i6 y x).mpr (by rw [i1]; exact hP))
    obtain ⟨j, hj⟩ := List.getElem?_of_mem hg
    have hjl := (List.getElem?_eq_some_iff.mp hj).1
    refine ⟨j, hjl, fun e => ?_, by rw [FZ_at hj]; exact eS_iff.mpr (Or.inr hyx), fun k hk q => ?_⟩
    · rw [e, hf] at hj
      cases hj
      exact dts_asym n1 n2 hxy hyx
    · obtain ⟨l, hl⟩ := FZ_lt q
      rw [FZ_at hl] at q
      rcases eS_iff.mp q with q | q
      · exact Or.inl (flat_one i5 hl hf q hxy)
      · exact Or.inr (flat_one i5 hl hj q hyx)
  rcases eS_iff.mp h with h | h
  · exact main x y h
  · obtain ⟨j, a, b, c, d⟩ := main y x h
    have hsw : ∀ k, FZ L k x y = FZ L k y x := fun k => eS_sym _ x y
    exact ⟨j, a, b, by rw [hsw]; exact c, fun k hk q => d k hk (by rw [hsw] at q; exact q)⟩
theorem FZ_FS (hS : ∀ v, S v = true → v < 10) (hI : INV H S P PV L E) (hG : GR P L) : FS P L.length (FZ L) := ⟨fun _ hj => FZ_ev hS hI hj, FZ_tw hI, hG.1, hG.2⟩
end
theorem GR_cycle {c : List Nat} (h : c.Nodup) (h3 : 3 ≤ c.length) (h10 : ∀ z ∈ c, z < 10) : GR (eSQ c) [c, c.reverse] := by
  have e0 : FZ [c, c.reverse] 0 = eSQ c := rfl
  have e1 : FZ [c, c.reverse] 1 = eSQ c := eS_rev c
  have hsum : ∀ U, sU (FZ [c, c.reverse]) U 2 = fun x y => (U 0 ^^ U 1) && eSQ c x y := fun U => by
    funext x y
    show ((false ^^ (U 0 && FZ [c, c.reverse] 0 x y)) ^^ (U 1 && FZ [c, c.reverse] 1 x y)) = _
    rw [e0, e1]
    cases U 0 <;> cases U 1 <;> cases eSQ c x y <;> rfl
  refine ⟨fun X hX => ?_, fun U hU i j hi hj => ?_⟩
  · rcases cyc_even h h3 h10 hX.1.1 hX.1.2 hX.2 with e | e
    · refine ⟨fun _ => false, ?_⟩
      show X = sU (FZ [c, c.reverse]) _ 2
      rw [hsum, e]
      funext x y; simp [x0]
    · refine ⟨fun i => decide (i = 0), ?_⟩
      show X = sU (FZ [c, c.reverse]) _ 2
      rw [hsum, e]
      funext x y; simp
  · have h01 : U 0 = U 1 := by
      have hU2 : sU (FZ [c, c.reverse]) U 2 = x0 := hU
      rw [hsum] at hU2
      obtain ⟨a, b, hab⟩ : ∃ a b, eSQ c a b = true := by
        match c, h3 with
        | a :: b :: t, _ => exact ⟨a, b, eS_iff.mpr (Or.inl (by show (a, b) ∈ pd (a :: b :: _); exact List.mem_cons_self))⟩
      have := congrFun (congrFun hU2 a) b
      rw [hab] at this
      simp only [x0, Bool.and_true] at this
      revert this
      cases U 0 <;> cases U 1 <;> simp
    have h2 : i < 2 := hi
    have h3 : j < 2 := hj
    rcases (by omega : i = 0 ∨ i = 1) with rfl | rfl <;> rcases (by omega : j = 0 ∨ j = 1) with rfl | rfl <;> simp [h01]
/-- inner vertices of a path: all of it or nothing -/
theorem path_all {P X : xG} {PV : Nat → Bool} {u w : Nat} {ps : List Nat} (hP : ∀ x y, P x y = true → PV x = true) (hn : (u :: ps ++ [w]).Nodup) (h10 : ∀ z ∈ u :: ps ++ [w], z < 10) (hpv : ∀ p ∈ ps, PV p = false) (hX : ev (addP P (u :: ps ++ [w])) X) :
    ∃ b, ∀ x y, ePQ (u :: ps ++ [w]) x y = true → X x y = b := by
  obtain ⟨a1, A1, ha1⟩ := cons_ex ps w
  have key := pd_const (X := X) (u :: ps ++ [w]) (fun A p q r B e => by
    have hpq : (p, q) ∈ pd (u :: ps ++ [w]) := by rw [e]; exact pd_mid.1
    have hqr : (q, r) ∈ pd (u :: ps ++ [w]) := by rw [e]; exact pd_mid.2
    have hpr : p ≠ r := fun z => pd_asym hn hpq (by rw [z]; exact hqr)
    have hqin : q ∈ ps := by
      have := (pd_mem hpq).2
      simp only [List.cons_append, List.mem_cons, List.mem_append, List.not_mem_nil, or_false] at this
      rcases this with z | z | z
      · exact absurd (z ▸ hpq) (pd_no2 (t := ps ++ [w]) hn)
      · exact z
      · exact absurd (z ▸ hqr) (pd_no1 (t := u :: ps) hn)
    have hp := h10 p (pd_mem hpq).1
    have hq := h10 q (pd_mem hpq).2
    have hr := h10 r (pd_mem hqr).2
    have h1 := hX.2 q hq
    unfold od at h1
    rw [xs_two hp hr hpr (fun z _ n1 n2 => by
      cases eX : X q z with
      | false => rfl
      | true =>
        rcases addP_iff.mp (hX.1.2 q z eX) with g | g | g
        · have := hP q z g
          rw [hpv q hqin] at this
          cases this
        · exact absurd (pd_fun hn g hqr) n2
        · exact absurd (pd_inj hn g hpq) n1)] at h1
    rw [hX.1.1 p q]
    revert h1
    cases X q p <;> cases X q r <;> simp) u a1 A1 (by rw [← ha1]; rfl)
  refine ⟨X u a1, fun x y h => ?_⟩
  rcases eP_iff.mp h with g | g
  · exact key _ g
  · rw [hX.1.1]; exact key _ g
theorem getD_mid {α : Type} (L1 : List α) (f : α) (L2 : List α) (d : α) : (L1 ++ f :: L2).getD L1.length d = f := by simp [List.getD_eq_getElem?_getD]
theorem GR_step {H : xG} {S : Nat → Bool} {P : xG} {PV : Nat → Bool} {L1 L2 : List (List Nat)} {A B as bs ps : List Nat} {u w E : Nat} (hH : ∀ x y, H x y = H y x) (hS : ∀ v, S v = true → v < 10)
    (hI : INV H S P PV (L1 ++ (A ++ B) :: L2) E) (hG : GR P (L1 ++ (A ++ B) :: L2)) (hAB : B ++ A = u :: as ++ w :: bs) (hps : ps.Nodup) (hpv : ∀ p ∈ ps, p < 10 ∧ PV p = false ∧ S p = true) (hpe : ∀ q ∈ pd (u :: ps ++ [w]), H q.1 q.2 = true ∧ P q.1 q.2 = false) :
    GR (addP P (u :: ps ++ [w])) (L1 ++ (u :: as ++ w :: ps.reverse) :: L2 ++ [w :: bs ++ u :: ps]) := by
  have hI' := INV_step hH hI hAB hps hpv hpe
  obtain ⟨i1, i2, i3, i4, i5, i6, _⟩ := id hI
  obtain ⟨j1, j2, j3, j4, j5, j6, _⟩ := id hI'
  have hm0 : (A ++ B) ∈ L1 ++ (A ++ B) :: L2 := List.mem_append_right _ List.mem_cons_self
  have hm1 : (u :: as ++ w :: ps.reverse) ∈ L1 ++ (u :: as ++ w :: ps.reverse) :: L2 ++ [w :: bs ++ u :: ps] := by simp
  have hm2 : (w :: bs ++ u :: ps) ∈ L1 ++ (u :: as ++ w :: ps.reverse) :: L2 ++ [w :: bs ++ u :: ps] := by simp
  obtain ⟨n1, n2, n3⟩ := i4 _ hm0
  obtain ⟨p1, p2, p3⟩ := j4 _ hm1
  obtain ⟨q1, q2, q3⟩ := j4 _ hm2
  have hper : (u :: as ++ w :: bs).Perm (A ++ B) := by rw [← hAB]; exact List.perm_append_comm
  have eF : eSQ (A ++ B) = xr (ePQ (u :: as ++ [w])) (ePQ (w :: bs ++ [u])) := by
    rw [eS_rot, hAB]
    exact eS_two (hper.nodup_iff.mpr n1) (by rw [hper.length_eq]; exact n2)
  have hrev : (u :: ps ++ [w]).reverse = w :: ps.reverse ++ [u] := by simp
  have e1 : eSQ (u :: as ++ w :: ps.reverse) = xr (ePQ (u :: as ++ [w])) (ePQ (u :: ps ++ [w])) := by
    rw [eS_two p1 p2, ← hrev, eP_rev]
  have e2 : eSQ (w :: bs ++ u :: ps) = xr (ePQ (w :: bs ++ [u])) (ePQ (u :: ps ++ [w])) := eS_two q1 q2
  have e12 : eSQ (u :: as ++ w :: ps.reverse) = xr (eSQ (A ++ B)) (eSQ (w :: bs ++ u :: ps)) := by
    rw [e1, e2, eF]
    funext x y
    simp only [xr]
    cases ePQ (u :: as ++ [w]) x y <;> cases ePQ (w :: bs ++ [u]) x y <;> cases ePQ (u :: ps ++ [w]) x y <;> rfl
  -- the sums
  have hr : (L1 ++ (A ++ B) :: L2).length = L1.length + 1 + L2.length := by simp; omega
  have hr' : (L1 ++ (u :: as ++ w :: ps.reverse) :: L2 ++ [w :: bs ++ u :: ps]).length = (L1.length + 1 + L2.length) + 1 := by simp; omega
  have hZ : ∀ j, j < L1.length + 1 + L2.length → FZ (L1 ++ (u :: as ++ w :: ps.reverse) :: L2 ++ [w :: bs ++ u :: ps]) j = fun x y => FZ (L1 ++ (A ++ B) :: L2) j x y ^^ (decide (j = L1.length) && eSQ (w :: bs ++ u :: ps) x y) := by
    intro j hj
    funext x y
    by_cases e : j = L1.length
    · subst e
      unfold FZ
      rw [List.append_assoc, List.cons_append, getD_mid, getD_mid, e12]
      simp [xr]
    · have : (L1 ++ (u :: as ++ w :: ps.reverse) :: L2 ++ [w :: bs ++ u :: ps]).getD j [] = (L1 ++ (A ++ B) :: L2).getD j [] := by
        rw [List.getD_eq_getElem?_getD, List.getD_eq_getElem?_getD]
        congr 1
        rw [List.getElem?_append_left (by simp; omega)]
        rcases Nat.lt_or_ge j L1.length with z | z
        · rw [List.getElem?_append_left z, List.getElem?_append_left z]
        · obtain ⟨k, rfl⟩ : ∃ k, j = L1.length + (k + 1) := ⟨j - L1.length - 1, by omega⟩
          rw [List.getElem?_append_right (by omega), List.getElem?_append_right (by omega)]
          simp
      unfold FZ
      rw [this]
      simp [e]
  have hZr : FZ (L1 ++ (u :: as ++ w :: ps.reverse) :: L2 ++ [w :: bs ++ u :: ps]) (L1.length + 1 + L2.length) = eSQ (w :: bs ++ u :: ps) := by
    refine FZ_at ?_
    rw [List.getElem?_append_right (by simp; omega)]
    have : L1.length + 1 + L2.length - (L1 ++ (u :: as ++ w :: ps.reverse) :: L2).length = 0 := by simp; omega
    rw [this]
    rfl
  have hsum : ∀ U, sU (FZ (L1 ++ (u :: as ++ w :: ps.reverse) :: L2 ++ [w :: bs ++ u :: ps])) U (L1.length + 1 + L2.length + 1) = xr (sU (FZ (L1 ++ (A ++ B) :: L2)) U (L1.length + 1 + L2.length)) (fun x y => (U L1.length ^^ U (L1.length + 1 + L2.length)) && eSQ (w :: bs ++ u :: ps) x y) := by
    intro U
    funext x y
    have a1 : xs (fun i => U i && FZ (L1 ++ (u :: as ++ w :: ps.reverse) :: L2 ++ [w :: bs ++ u :: ps]) i x y) (L1.length + 1 + L2.length) = (xs (fun i => U i && FZ (L1 ++ (A ++ B) :: L2) i x y) (L1.length + 1 + L2.length) ^^ (U L1.length && eSQ (w :: bs ++ u :: ps) x y)) := by
      have : xs (fun i => decide (i = L1.length) && (U i && eSQ (w :: bs ++ u :: ps) x y)) (L1.length + 1 + L2.length) = (U L1.length && eSQ (w :: bs ++ u :: ps) x y) := by
        rw [xs_one (p := L1.length) (by omega) (fun k _ n => by simp [n])]
        simp
      rw [← this, ← xs_xor]
      refine xs_ext fun i hi => ?_
      rw [hZ i hi]
      dsimp only
      cases U i <;> cases FZ (L1 ++ (A ++ B) :: L2) i x y <;> cases decide (i = L1.length) <;> cases eSQ (w :: bs ++ u :: ps) x y <;> rfl
    show (xs _ _ ^^ (U _ && FZ _ _ x y)) = (xs _ _ ^^ ((U L1.length ^^ U (L1.length + 1 + L2.length)) && eSQ (w :: bs ++ u :: ps) x y))
    rw [a1, hZr]
    cases xs (fun i => U i && FZ (L1 ++ (A ++ B) :: L2) i x y) (L1.length + 1 + L2.length) <;> cases U L1.length <;> cases U (L1.length + 1 + L2.length) <;> cases eSQ (w :: bs ++ u :: ps) x y <;> rfl
  have hpn : (u :: ps ++ [w]).Nodup := by
    have : (u :: ps).Nodup := q1.sublist (List.sublist_append_right _ _)
    refine List.nodup_append.mpr ⟨this, by simp, fun a ha b hb e => ?_⟩
    rw [List.mem_singleton] at hb
    subst hb; subst e
    have := (List.nodup_append.mp q1).2.2 a (by simp) a ha
    exact this rfl
  have hp10 : ∀ z ∈ u :: ps ++ [w], z < 10 := fun z hz => hS z (j3 z (q3 z (by
    simp only [List.cons_append, List.mem_cons, List.mem_append, List.not_mem_nil, or_false] at hz ⊢
    rcases hz with h | h | h <;> simp [h])))
  obtain ⟨a1, D1, ha1⟩ := cons_ex ps w
  have hua : ePQ (u :: ps ++ [w]) u a1 = true := eP_iff.mpr (Or.inl (pd_head ha1))
  have hPQ : ∀ x y, ePQ (u :: ps ++ [w]) x y = true → P x y = false := fun x y q => by
    rcases eP_iff.mp q with q | q
    · exact (hpe _ q).2
    · rw [i1]; exact (hpe _ q).2
  -- without edges of the path: an even set of P
  have hold : ∀ X, ev (addP P (u :: ps ++ [w])) X → (∀ x y, ePQ (u :: ps ++ [w]) x y = true → X x y = false) → ev P X := by
    intro X hX hno
    refine ⟨⟨hX.1.1, fun x y q => ?_⟩, hX.2⟩
    rcases addP_iff.mp (hX.1.2 x y q) with g | g | g
    · exact g
    · rw [hno x y (eP_iff.mpr (Or.inl g))] at q; cases q
    · rw [hno x y (eP_iff.mpr (Or.inr g))] at q; cases q
  unfold GR
  rw [hr']
  rw [GR, hr] at hG
  refine ⟨fun X hX => ?_, fun U hU i j hi hj => ?_⟩
  · have base : ∀ X, ev P X → ∃ U, X = sU (FZ (L1 ++ (u :: as ++ w :: ps.reverse) :: L2 ++ [w :: bs ++ u :: ps])) U (L1.length + 1 + L2.length + 1) := by
      intro X hX
      obtain ⟨U, hU⟩ := hG.1 X hX
      refine ⟨fun i => if i = L1.length + 1 + L2.length then U L1.length else U i, ?_⟩
      rw [hsum, if_pos rfl, if_neg (by omega)]
      rw [sU_ext (V := U) (fun i hi => by rw [if_neg (by omega)]), ← hU]
      funext x y; simp [xr]
    obtain ⟨b, hb⟩ := path_all (fun x y q => (i2 x y q).2) hpn hp10 (fun p hp => (hpv p hp).2.1) hX
    cases b with
    | false => exact base X (hold X hX hb)
    | true =>
      have hev2 : ev (addP P (u :: ps ++ [w])) (eSQ (w :: bs ++ u :: ps)) := by
        have := FZ_ev hS hI' (j := L1.length + 1 + L2.length) (by rw [hr']; omega)
        rw [hZr] at this
        exact this
      obtain ⟨U, hU⟩ := base (xr X (eSQ (w :: bs ++ u :: ps))) (hold _ (ev_xr hX hev2) (fun x y q => by
        show (X x y ^^ eSQ (w :: bs ++ u :: ps) x y) = false
        rw [hb x y q, e2]
        show (true ^^ (ePQ (w :: bs ++ [u]) x y ^^ ePQ (u :: ps ++ [w]) x y)) = false
        rw [q]
        have : ePQ (w :: bs ++ [u]) x y = false := by
          cases e : ePQ (w :: bs ++ [u]) x y with
          | false => rfl
          | true =>
            exfalso
            have hd : ∀ q, q ∈ pd (w :: bs ++ [u]) → q ∈ dts (A ++ B) := fun q hq => by
              rw [dts_rot, hAB, dts_two]
              exact List.mem_append_right _ hq
            have hno := hPQ x y q
            rcases eP_iff.mp e with g | g
            · rw [(i6 x y).mp (List.mem_flatMap.mpr ⟨_, hm0, hd _ g⟩)] at hno; cases hno
            · rw [i1, (i6 y x).mp (List.mem_flatMap.mpr ⟨_, hm0, hd _ g⟩)] at hno; cases hno
        rw [this]; rfl))
      refine ⟨fun i => U i ^^ decide (i = L1.length + 1 + L2.length), ?_⟩
      rw [sU_xor, ← hU, sU_one (by omega), hZr, xr_assoc, xr_self, xr_0]
  · rw [hsum] at hU
    have h1 : U L1.length = U (L1.length + 1 + L2.length) := by
      have h := congrFun (congrFun hU u) a1
      have hz : sU (FZ (L1 ++ (A ++ B) :: L2)) U (L1.length + 1 + L2.length) u a1 = false := by
        have hev : ev P (sU (FZ (L1 ++ (A ++ B) :: L2)) U (L1.length + 1 + L2.length)) := sU_ev fun i hi _ => FZ_ev hS hI (by rw [hr]; exact hi)
        cases e : sU (FZ (L1 ++ (A ++ B) :: L2)) U (L1.length + 1 + L2.length) u a1 with
        | false => rfl
        | true => have := hev.1.2 _ _ e; rw [hPQ u a1 hua] at this; cases this
      have hf : eSQ (w :: bs ++ u :: ps) u a1 = true := by
        rw [e2]
        show (_ ^^ _) = true
        rw [hua]
        have : ePQ (w :: bs ++ [u]) u a1 = false := by
          cases e : ePQ (w :: bs ++ [u]) u a1 with
          | false => rfl
          | true =>
            exfalso
            have hd : ∀ q, q ∈ pd (w :: bs ++ [u]) → q ∈ dts (A ++ B) := fun q hq => by
              rw [dts_rot, hAB, dts_two]
              exact List.mem_append_right _ hq
            have hno := hPQ u a1 hua
            rcases eP_iff.mp e with g | g
            · rw [(i6 _ _).mp (List.mem_flatMap.mpr ⟨_, hm0, hd _ g⟩)] at hno; cases hno
            · rw [i1, (i6 _ _).mp (List.mem_flatMap.mpr ⟨_, hm0, hd _ g⟩)] at hno; cases hno
        rw [this]; rfl
      simp only [xr] at h
      rw [hz, hf] at h
      simp only [x0, Bool.and_true, Bool.false_xor] at h
      revert h
      cases U L1.length <;> cases U (L1.length + 1 + L2.length) <;> simp
    have h2 : sU (FZ (L1 ++ (A ++ B) :: L2)) U (L1.length + 1 + L2.length) = x0 := by
      rw [← hU, h1]
      funext x y; simp [xr]
    have h3 := hG.2 U h2
    have hk : ∀ i, i < L1.length + 1 + L2.length + 1 → U i = U L1.length := fun i hi => by
      by_cases e : i = L1.length + 1 + L2.length
      · rw [e]; exact h1.symm
      · exact h3 i _ (by omega) (by omega)
    rw [hk i hi, hk j hj]
