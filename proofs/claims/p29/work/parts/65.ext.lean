/-! an embedding of a part that goes on to one of the whole: classes of faces -/
def cls (c : Nat → Nat) (j : Nat) : Nat → Bool := fun i => decide (c i = j)
/-- the whole's faces Z, sorted by the faces L of the part -/
def EXS (G P : xG) (L : List (List Nat)) (m : Nat) (Z : Nat → xG) (c : Nat → Nat) : Prop := FS G m Z ∧ (∀ i, i < m → c i < L.length) ∧ ∀ j, j < L.length → FZ L j = sU Z (cls c j) m
def EXT (G P : xG) (L : List (List Nat)) : Prop := ∃ m Z c, EXS G P L m Z c
theorem sU_cls {Z Y : Nat → xG} {c : Nat → Nat} {m r : Nat} (hc : ∀ i, i < m → c i < r) (hY : ∀ j, j < r → Y j = sU Z (cls c j) m) (V : Nat → Bool) : sU Y V r = sU Z (fun i => V (c i)) m := by
  funext x y
  show xs (fun j => V j && Y j x y) r = xs (fun i => V (c i) && Z i x y) m
  have e1 : xs (fun j => V j && Y j x y) r = xs (fun j => xs (fun i => V j && (cls c j i && Z i x y)) m) r := xs_ext fun j hj => by
    rw [hY j hj]
    exact (xs_and _ _ _).symm
  rw [e1, xs_swap]
  refine xs_ext fun i hi => ?_
  rw [xs_one (hc i hi) (fun j _ n => by
    have : ¬ c i = j := fun e => n e.symm
    simp [cls, this])]
  simp [cls]
section
variable {G : xG} {S : Nat → Bool} {P : xG} {PV : Nat → Bool} {L : List (List Nat)} {E m : Nat} {Z : Nat → xG} {c : Nat → Nat}
theorem EXS_A (hS : ∀ v, S v = true → v < 10) (hI : INV G S P PV L E) (hX : EXS G P L m Z c) {x y i k : Nat} (hP : P x y = false) (hi : i < m) (hk : k < m) (h1 : Z i x y = true) (h2 : Z k x y = true) : c k = c i := by
  obtain ⟨⟨f1, f2, f3, f4⟩, hc, hY⟩ := hX
  obtain ⟨j, hj, hne, hjZ, hu⟩ := f2 x y i hi h1
  have h0 : FZ L (c i) x y = false := by
    cases e : FZ L (c i) x y with
    | false => rfl
    | true => rw [(FZ_ev hS hI (hc i hi)).1.2 x y e] at hP; cases hP
  rw [hY _ (hc i hi), tw_sum _ hi hj hne h1 hjZ hu] at h0
  simp [cls] at h0
  rcases hu k hk h2 with e | e
  · rw [e]
  · rw [e, h0]
theorem EXS_B (hI : INV G S P PV L E) (hX : EXS G P L m Z c) {x y i : Nat} (hP : P x y = true) (hi : i < m) (h1 : Z i x y = true) : FZ L (c i) x y = true := by
  obtain ⟨⟨f1, f2, f3, f4⟩, hc, hY⟩ := hX
  obtain ⟨i1, i2, i3, i4, i5, i6, _⟩ := hI
  obtain ⟨f, hf, hxy⟩ := List.mem_flatMap.mp ((i6 x y).mpr hP)
  obtain ⟨j0, hj0⟩ := List.getElem?_of_mem hf
  have hjl := (List.getElem?_eq_some_iff.mp hj0).1
  have h2 : FZ L j0 x y = true := by rw [FZ_at hj0]; exact eS_iff.mpr (Or.inl hxy)
  have h3 := h2
  rw [hY j0 hjl] at h3
  obtain ⟨k, hk, h4⟩ := xs_ex h3
  rw [Bool.and_eq_true] at h4
  have hck : c k = j0 := of_decide_eq_true h4.1
  obtain ⟨l, hl, hne, hlZ, hu⟩ := f2 x y k hk h4.2
  have h5 := h2
  rw [hY j0 hjl, tw_sum _ hk hl hne h4.2 hlZ hu] at h5
  simp [cls, hck] at h5
  rcases hu i hi h1 with e | e
  · rw [e, hck]; exact h2
  · rw [e, hY _ (hc l hl), tw_sum _ hk hl hne h4.2 hlZ hu]
    have : ¬ c k = c l := fun q => h5 (by rw [← q, hck])
    simp [cls, this]
/-- three vertices at least -/
theorem INV_three (hI : INV G S P PV L E) (h2 : 2 ≤ L.length) : ∃ a b d, PV a = true ∧ PV b = true ∧ PV d = true ∧ a ≠ b ∧ a ≠ d ∧ b ≠ d := by
  obtain ⟨f, t, hf⟩ : ∃ f t, L = f :: t := by
    cases L with
    | nil => simp at h2
    | cons f t => exact ⟨f, t, rfl⟩
  obtain ⟨n1, n2, n3⟩ := hI.2.2.2.1 f (by rw [hf]; exact List.mem_cons_self)
  match f, n1, n2, n3 with
  | [], _, n2, _ => simp at n2
  | [_], _, n2, _ => simp at n2
  | [_, _], _, n2, _ => simp at n2
  | a :: b :: d :: t, n1, _, n3 =>
    simp only [List.nodup_cons, List.mem_cons, not_or] at n1
    exact ⟨a, b, d, n3 a (by simp), n3 b (by simp), n3 d (by simp), n1.1.1, n1.1.2.1, n1.2.1.1⟩
theorem three_other {a b d : Nat} (h1 : a ≠ b) (h2 : a ≠ d) (h3 : b ≠ d) (x y : Nat) : ∃ z, (z = a ∨ z = b ∨ z = d) ∧ z ≠ x ∧ z ≠ y := by
  by_cases e1 : a ≠ x ∧ a ≠ y
  · exact ⟨a, Or.inl rfl, e1⟩
  · by_cases e2 : b ≠ x ∧ b ≠ y
    · exact ⟨b, Or.inr (Or.inl rfl), e2⟩
    · exact ⟨d, Or.inr (Or.inr rfl), by omega, by omega⟩
/-- each edge of the whole lies in some face -/
theorem EXS_cov (hb : BIC G S) (hS : ∀ v, S v = true → v < 10) (hI : INV G S P PV L E) (h2 : 2 ≤ L.length) (hX : EXS G P L m Z c) {x y : Nat} (h : G x y = true) : ∃ i, i < m ∧ Z i x y = true := by
  obtain ⟨a, b, d, a1, b1, d1, n1, n2, n3⟩ := INV_three hI h2
  obtain ⟨z, hz, z1, z2⟩ := three_other n1 n2 n3 x y
  have hPz : PV z = true := by rcases hz with e | e | e <;> rw [e] <;> assumption
  have hSz := hI.2.2.1 z hPz
  obtain ⟨y', hy', hne⟩ := deg_two hb h (hS z hSz) hSz z1 z2
  exact cov hb hX.1.2.2.1 h hy' (fun e => hne e.symm)
theorem INV_nbr (hB : BIC P PV) (hI : INV G S P PV L E) (hS : ∀ v, S v = true → v < 10) (h2 : 2 ≤ L.length) {a : Nat} (ha : PV a = true) : ∃ b, P a b = true := by
  obtain ⟨x, y, z, h1, h2, h3, n1, n2, n3⟩ := INV_three hI h2
  have hV : ∀ v, PV v = true → v < 10 := fun v hv => hS v (hI.2.2.1 v hv)
  obtain ⟨w, hw, hwa, _⟩ := three_other n1 n2 n3 a a
  have hPw : PV w = true := by rcases hw with e | e | e <;> rw [e] <;> assumption
  obtain ⟨b, _, hb⟩ := con_first (hV w hPw) (BIC_con hB hV ha hPw) (fun e => hwa e.symm)
  exact ⟨b, hb⟩
/-- around a vertex that isn't placed there is one class -/
theorem EXS_1 (hb : BIC G S) (hS : ∀ v, S v = true → v < 10) (hI : INV G S P PV L E) (hX : EXS G P L m Z c) {w y y' i i' : Nat} (hw : PV w = false) (hi : i < m) (hi' : i' < m) (h1 : Z i w y = true) (h2 : Z i' w y' = true) : c i' = c i := by
  obtain ⟨f1, f2, f3, f4⟩ := hX.1
  have hP : ∀ z, P w z = false := fun z => by
    cases e : P w z with
    | false => rfl
    | true => have := (hI.2.1 w z e).2; rw [hw] at this; cases this
  have key := LF hb f3 (w := w) (D := fun z => anyv (fun k => decide (c k = c i) && Z k w z) m) (y := y) (y' := y') (fun k hk => by
    by_cases e : c k = c i
    · rw [xs_ext (g := Z k w) (fun z _ => ?_)]
      · have hw10 := (BIC_gok hb).2.2 w y ((f1 i hi).1.2 w y h1)
        exact (f1 k hk).2 w hw10.1
      · cases eZ : Z k w z with
        | false => rfl
        | true =>
          rw [Bool.true_and]
          exact anyv_iff.mpr ⟨k, hk, by rw [decide_eq_true e, eZ]; rfl⟩
    · refine xs_0 fun z _ => ?_
      cases eZ : Z k w z with
      | false => rfl
      | true =>
        rw [Bool.true_and]
        cases eD : anyv (fun k => decide (c k = c i) && Z k w z) m with
        | false => rfl
        | true =>
          obtain ⟨k', hk', q⟩ := anyv_iff.mp eD
          rw [Bool.and_eq_true] at q
          exact absurd ((EXS_A hS hI hX (hP z) hk' hk q.2 eZ).trans (of_decide_eq_true q.1)) e) ((f1 i hi).1.2 w y h1) ((f1 i' hi').1.2 w y' h2)
  have hy : anyv (fun k => decide (c k = c i) && Z k w y) m = true := anyv_iff.mpr ⟨i, hi, by rw [decide_eq_true rfl, h1]; rfl⟩
  rw [hy] at key
  obtain ⟨k', hk', q⟩ := anyv_iff.mp key.symm
  rw [Bool.and_eq_true] at q
  exact (EXS_A hS hI hX (hP y') hk' hi' q.2 h2).trans (of_decide_eq_true q.1)
/-- a contact lies on the face of its class -/
theorem EXS_2 (hb : BIC G S) (hS : ∀ v, S v = true → v < 10) (hB : BIC P PV) (hI : INV G S P PV L E) (hL : 2 ≤ L.length) (hX : EXS G P L m Z c) {a w i : Nat} (ha : PV a = true) (hP : P a w = false) (hi : i < m) (h1 : Z i a w = true) : ∃ y, FZ L (c i) a y = true := by
  obtain ⟨f1, f2, f3, f4⟩ := hX.1
  refine Classical.byContradiction fun hno => ?_
  have hno2 : ∀ y, FZ L (c i) a y = false := fun y => by
    cases e : FZ L (c i) a y with
    | false => rfl
    | true => exact absurd ⟨y, e⟩ hno
  obtain ⟨b, hb2⟩ := INV_nbr hB hI hS hL ha
  have key := LF hb f3 (w := a) (D := fun z => anyv (fun k => decide (c k = c i) && Z k a z) m && !P a z) (y := w) (y' := b) (fun k hk => by
    by_cases e : c k = c i
    · rw [xs_ext (g := Z k a) (fun z _ => ?_)]
      · exact (f1 k hk).2 a (hS a (hI.2.2.1 a ha))
      · cases eZ : Z k a z with
        | false => rfl
        | true =>
          have hPz : P a z = false := by
            cases ePQ : P a z with
            | false => rfl
            | true =>
              have := EXS_B hI hX ePQ hk eZ
              rw [e, hno2] at this
              cases this
          rw [Bool.true_and, hPz, anyv_iff.mpr ⟨k, hk, by rw [decide_eq_true e, eZ]; rfl⟩]
          rfl
    · refine xs_0 fun z _ => ?_
      cases eZ : Z k a z with
      | false => rfl
      | true =>
        rw [Bool.true_and]
        cases ePQ : P a z with
        | true => simp
        | false =>
          cases eD : anyv (fun k => decide (c k = c i) && Z k a z) m with
          | false => rfl
          | true =>
            obtain ⟨k', hk', q⟩ := anyv_iff.mp eD
            rw [Bool.and_eq_true] at q
            exact absurd ((EXS_A hS hI hX ePQ hk' hk q.2 eZ).trans (of_decide_eq_true q.1)) e) ((f1 i hi).1.2 a w h1) (hI.2.1 a b hb2).1
  rw [hP, hb2, anyv_iff.mpr ⟨i, hi, by rw [decide_eq_true rfl, h1]; rfl⟩] at key
  simp at key
/-- the edges of a fragment -/
def fE (G P : xG) (q : xFr) : xG := fun x y => (G x y && !P x y) && (if q.1 = 0 then tb q.2 x && tb q.2 y else tb q.1 x || tb q.1 y)
theorem fE_iff {q : xFr} {x y : Nat} : fE G P q x y = true ↔ G x y = true ∧ P x y = false ∧ ((q.1 = 0 ∧ tb q.2 x = true ∧ tb q.2 y = true) ∨ (q.1 ≠ 0 ∧ (tb q.1 x = true ∨ tb q.1 y = true))) := by
  unfold fE
  by_cases h : q.1 = 0
  · simp [h, and_assoc]
  · simp [h, and_assoc]
/-- what a component's mask and contacts are -/
theorem FOK_cmp (hS : ∀ v, S v = true → v < 10) (hPS : ∀ v, PV v = true → S v = true) {x : Nat} {q : xFr} (hSx : S x = true) (hPx : PV x = false) (e1 : q.1 = mk (cmp G S PV x)) (e2 : q.2 = mk (ctc G PV (cmp G S PV x))) : tb q.1 = cmp G S PV x ∧ tb q.2 = ctc G PV (cmp G S PV x) ∧ q.1 ≠ 0 := by
  have hD : tb q.1 = cmp G S PV x := by rw [e1]; exact tb_mk_fun fun v h => hS v (cmp_in h).1
  refine ⟨hD, ?_, fun e => ?_⟩
  · rw [e2]
    refine tb_mk_fun fun v h => ?_
    unfold ctc at h
    rw [Bool.and_eq_true] at h
    exact hS v (hPS v h.2)
  · have := cmp_self (H := G) hSx hPx
    rw [← hD, e, tb_0] at this
    cases this
/-- a fragment has one class, and its contacts lie on the face of it -/
theorem EXS_frag (hb : BIC G S) (hS : ∀ v, S v = true → v < 10) (hB : BIC P PV) (hI : INV G S P PV L E) (hL : 2 ≤ L.length) (hX : EXS G P L m Z c) {q : xFr} (hq : FOK G S P PV q) :
    ∃ j, j < L.length ∧ (∀ x y i, fE G P q x y = true → i < m → Z i x y = true → c i = j) ∧ ∀ v, v < 10 → tb q.2 v = true → ∃ y, FZ L j v y = true := by
  obtain ⟨f1, f2, f3, f4⟩ := hX.1
  rcases hq with ⟨h0, a, b, hab, hb10, e1, e2, e3, e4, e5⟩ | ⟨x, hx, hSx, hPx, e1, e2⟩
  · have ht : tb q.2 = two a b := by rw [e5]; exact two_mk (by omega) hb10
    obtain ⟨i, hi, hiZ⟩ := EXS_cov hb hS hI hL hX e1
    have hiZ' : Z i b a = true := by rw [(f1 i hi).1.1]; exact hiZ
    have e2' : P b a = false := by rw [hI.1]; exact e2
    refine ⟨c i, hX.2.1 i hi, fun x y k hxy hk hkZ => ?_, fun v hv htv => ?_⟩
    · obtain ⟨g1, g2, g3⟩ := fE_iff.mp hxy
      have hne := ne_edge (BIC_gok hb) g1
      rcases g3 with ⟨_, t1, t2⟩ | ⟨n, _⟩
      · rw [ht] at t1 t2
        rcases two_iff.mp t1 with rfl | rfl <;> rcases two_iff.mp t2 with rfl | rfl
        · exact absurd rfl hne
        · exact EXS_A hS hI hX e2 hi hk hiZ hkZ
        · exact EXS_A hS hI hX e2' hi hk hiZ' hkZ
        · exact absurd rfl hne
      · exact absurd h0 n
    · rw [ht] at htv
      rcases two_iff.mp htv with rfl | rfl
      · exact EXS_2 hb hS hB hI hL hX e3 e2 hi hiZ
      · exact EXS_2 hb hS hB hI hL hX e4 e2' hi hiZ'
  · obtain ⟨hD, hC, h0⟩ := FOK_cmp hS hI.2.2.1 hSx hPx e1 e2
    obtain ⟨p1, p2, p3, hp1, hp2, hp3, n1, n2, n3⟩ := INV_three hI hL
    have hxp : x ≠ p1 := fun e => by rw [e, hp1] at hPx; cases hPx
    have hSp := hI.2.2.1 p1 hp1
    obtain ⟨y0, _, hy0⟩ := con_first (hS p1 hSp) (BIC_con hb hS hSx hSp) hxp
    obtain ⟨i, hi, hiZ⟩ := EXS_cov hb hS hI hL hX hy0
    have key : ∀ v, v < 10 → cmp G S PV x v = true → ∀ y k, k < m → Z k v y = true → c k = c i := by
      refine rch_ind (G := G) (A := fun v => S v && !PV v) (X := fun v => decide (v = x)) (fun v => ∀ y k, k < m → Z k v y = true → c k = c i) (fun v _ e _ y k hk hkZ => ?_) (fun u v hu hv hp hg hA y k hk hkZ => ?_)
      · have := of_decide_eq_true e
        subst this
        exact EXS_1 hb hS hI hX hPx hi hk hiZ hkZ
      · rw [Bool.and_eq_true, Bool.not_eq_true'] at hA
        obtain ⟨l, hl, hlZ⟩ := EXS_cov hb hS hI hL hX hg
        have hcl := hp v l hl hlZ
        have hlZ' : Z l v u = true := by rw [(f1 l hl).1.1]; exact hlZ
        exact (EXS_1 hb hS hI hX hA.2 hl hk hlZ' hkZ).trans hcl
    refine ⟨c i, hX.2.1 i hi, fun a b k hab hk hkZ => ?_, fun v hv htv => ?_⟩
    · obtain ⟨g1, g2, g3⟩ := fE_iff.mp hab
      have h10 := (BIC_gok hb).2.2 a b g1
      rcases g3 with ⟨n, _⟩ | ⟨_, t | t⟩
      · exact absurd n h0
      · rw [hD] at t
        exact key a h10.1 t b k hk hkZ
      · rw [hD] at t
        exact key b h10.2 t a k hk (by rw [(f1 k hk).1.1]; exact hkZ)
    · rw [hC] at htv
      unfold ctc at htv
      rw [Bool.and_eq_true] at htv
      obtain ⟨u, hu, hDu, hguv⟩ := nb_iff.mp htv.1
      obtain ⟨l, hl, hlZ⟩ := EXS_cov hb hS hI hL hX hguv
      have hcl := key u hu hDu v l hl hlZ
      have hlZ' : Z l v u = true := by rw [(f1 l hl).1.1]; exact hlZ
      have hPvu : P v u = false := by
        cases e : P v u with
        | false => rfl
        | true =>
          have := (hI.2.1 u v (by rw [hI.1]; exact e)).2
          rw [(cmp_in hDu).2] at this
          cases this
      rw [← hcl]
      exact EXS_2 hb hS hB hI hL hX htv.2 hPvu hl hlZ'
end
