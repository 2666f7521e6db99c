/-! one step of the embedding, as a function -/
def pfold {α : Type} (f : α → Nat → Nat → α) (s : α) : Nat → α
  | 0 => s
  | n + 1 => if n / 10 < n % 10 then f (pfold f s n) (n / 10) (n % 10) else pfold f s n
theorem pfold_next {α : Type} {f : α → Nat → Nat → α} {s : α} {a b : Nat} (hb : b < 10) (hab : a < b) : pfold f s (10 * a + b + 1) = f (pfold f s (10 * a + b)) a b := by
  show (if (10 * a + b) / 10 < (10 * a + b) % 10 then _ else _) = _
  have e1 : (10 * a + b) / 10 = a := by omega
  have e2 : (10 * a + b) % 10 = b := by omega
  rw [e1, e2, if_pos hab]
theorem pfold_skip {α : Type} {f : α → Nat → Nat → α} {s : α} {a : Nat} : ∀ {b : Nat}, b ≤ a + 1 → b ≤ 10 → pfold f s (10 * a + b) = pfold f s (10 * a)
  | 0, _, _ => rfl
  | b + 1, h, h2 => by
    show (if (10 * a + b) / 10 < (10 * a + b) % 10 then _ else _) = _
    have e1 : (10 * a + b) / 10 = a := by omega
    have e2 : (10 * a + b) % 10 = b := by omega
    rw [e1, e2, if_neg (by omega)]
    exact pfold_skip (by omega) (by omega)
theorem pfold_ind {α : Type} {f : α → Nat → Nat → α} {s : α} (I : α → Prop) (h0 : I s) (hs : ∀ t a b, a < b → b < 10 → I t → I (f t a b)) : ∀ n, n ≤ 100 → I (pfold f s n)
  | 0, _ => h0
  | n + 1, h => by
    show I (if n / 10 < n % 10 then _ else _)
    split
    · next hlt => exact hs _ _ _ hlt (by omega) (pfold_ind I h0 hs n (by omega))
    · exact pfold_ind I h0 hs n (by omega)
/-- what is true once stays true -/
theorem pfold_mono {α : Type} {f : α → Nat → Nat → α} {s : α} (I : α → Prop) (hs : ∀ t a b, a < b → b < 10 → I t → I (f t a b)) {n : Nat} (h : I (pfold f s n)) : ∀ m, n ≤ m → m ≤ 100 → I (pfold f s m) := by
  intro m
  induction m with
  | zero =>
    intro h1 _
    have : n = 0 := by omega
    subst this
    exact h
  | succ m ih =>
    intro h1 h2
    by_cases e : n = m + 1
    · subst e; exact h
    · show I (if m / 10 < m % 10 then _ else _)
      split
      · next hlt => exact hs _ _ _ hlt (by omega) (ih (by omega) (by omega))
      · exact ih (by omega) (by omega)
theorem tb_mk_fun {D : Nat → Bool} (h : ∀ v, D v = true → v < 10) : tb (mk D) = D := by
  funext v
  by_cases h1 : v < 32
  · rw [tb_mk D h1]
    cases hD : D v with
    | false => simp
    | true => simp [h v hD]
  · have e1 : tb (mk D) v = false := by
      unfold tb
      exact BitVec.getLsbD_of_ge _ _ (by omega)
    rw [e1]
    cases hD : D v with
    | false => rfl
    | true => have := h v hD; omega
abbrev xFr : Type := Int32 × Int32
section
variable (H : Nat → Nat → Bool) (S : Nat → Bool)
/-- a pair of vertices with an edge that isn't placed -/
def frAdd (P : Nat → Nat → Bool) (PV : Nat → Bool) (l : List xFr) (a b : Nat) : List xFr :=
  if H a b && !P a b then
    if PV a && PV b then l ++ [(0, mk (two a b))]
    else if l.any (fun q => decide (q.1 = mk (cmp H S PV (bif PV a then b else a)))) then l
    else l ++ [(mk (cmp H S PV (bif PV a then b else a)), mk (ctc H PV (cmp H S PV (bif PV a then b else a))))]
  else l
def frs (P : Nat → Nat → Bool) (PV : Nat → Bool) (n : Nat) : List xFr := pfold (frAdd H S P PV) [] n
end
/-- does a face hold all contacts -/
def fitf (c : Int32) (f : List Nat) : Bool := ally (fun v => !tb c v || decide (v ∈ f)) 10
theorem fitf_iff {c : Int32} {f : List Nat} : fitf c f = true ↔ ∀ v, v < 10 → tb c v = true → v ∈ f := by
  unfold fitf
  rw [ally_iff]
  constructor
  · intro h v hv ht
    have := h v hv
    rw [ht] at this
    simpa using this
  · intro h v hv
    cases ht : tb c v with
    | false => rfl
    | true => simp [h v hv ht]
def nfit (c : Int32) (faces : List (List Nat)) : Nat := (faces.filter (fitf c)).length
def ffit (c : Int32) (faces : List (List Nat)) : Nat := faces.findIdx (fitf c)
/-- the fragment that is chosen -/
def chs (faces : List (List Nat)) (l : List xFr) : Option xFr :=
  if l.any (fun q => Nat.beq (nfit q.2 faces) 0) then none else match l.find? (fun q => Nat.beq (nfit q.2 faces) 1) with
    | some q => some q
    | none => l.head?
/-- the path that is placed -/
def pth (H : Nat → Nat → Bool) (q : xFr) : List Nat :=
  if q.1 = 0 then [low (tb q.2), low (fun v => tb q.2 v && !decide (v = low (tb q.2)))]
  else low (tb q.2) :: dsc H (tb q.1) (fun v => tb q.2 v && !decide (v = low (tb q.2))) (fdep H (tb q.1) (fun v => tb q.2 v && !decide (v = low (tb q.2))) (low (tb q.2)) 9) (low (tb q.2))
/-- a face, begun at u -/
def rot (l : List Nat) (u : Nat) : List Nat := l.drop (l.findIdx (fun v => Nat.beq v u)) ++ l.take (l.findIdx (fun v => Nat.beq v u))
/-- as far as w, and from w on -/
def cutA (l : List Nat) (w : Nat) : List Nat := l.takeWhile (fun v => !Nat.beq v w)
def cutB (l : List Nat) (w : Nat) : List Nat := l.dropWhile (fun v => !Nat.beq v w)
def plc (faces : List (List Nat)) (cf u w : Nat) (inn : List Nat) : List (List Nat) :=
  faces.set cf (cutA (rot (faces.getD cf []) u) w ++ w :: inn.reverse) ++ [cutB (rot (faces.getD cf []) u) w ++ u :: inn]
/-- a fragment is one edge between placed vertices, or a component -/
def FOK (H : Nat → Nat → Bool) (S : Nat → Bool) (P : Nat → Nat → Bool) (PV : Nat → Bool) (q : xFr) : Prop :=
  (q.1 = 0 ∧ ∃ a b, a < b ∧ b < 10 ∧ H a b = true ∧ P a b = false ∧ PV a = true ∧ PV b = true ∧ q.2 = mk (two a b)) ∨
  ∃ x, x < 10 ∧ S x = true ∧ PV x = false ∧ q.1 = mk (cmp H S PV x) ∧ q.2 = mk (ctc H PV (cmp H S PV x))
section
variable {H : Nat → Nat → Bool} {S : Nat → Bool} {P : Nat → Nat → Bool} {PV : Nat → Bool}
theorem frs_ok (hb : BIC H S) : ∀ n, n ≤ 100 → ∀ q ∈ frs H S P PV n, FOK H S P PV q := by
  refine pfold_ind (fun l => ∀ q ∈ l, FOK H S P PV q) (fun q hq => by cases hq) (fun l a b hab hb10 ih => ?_)
  unfold frAdd
  cases hl : (H a b && !P a b) with
  | false => exact ih
  | true =>
    rw [if_pos rfl]
    rw [Bool.and_eq_true, Bool.not_eq_true'] at hl
    cases hp : (PV a && PV b) with
    | true =>
      rw [if_pos rfl]
      rw [Bool.and_eq_true] at hp
      intro q hq
      rcases List.mem_append.mp hq with h | h
      · exact ih q h
      · rw [List.mem_singleton] at h
        subst h
        exact Or.inl ⟨rfl, a, b, hab, hb10, hl.1, hl.2, hp.1, hp.2, rfl⟩
    | false =>
      rw [if_neg (by decide)]
      split
      · exact ih
      · intro q hq
        rcases List.mem_append.mp hq with h | h
        · exact ih q h
        · rw [List.mem_singleton] at h
          subst h
          have hS := hb.2.2.1 a b hl.1
          cases ha : PV a with
          | true =>
            have hPb : PV b = false := by
              rw [ha] at hp
              exact hp
            exact Or.inr ⟨b, hS.2.1, hS.2.2.2, hPb, rfl, rfl⟩
          | false => exact Or.inr ⟨a, hS.1, hS.2.2.1, ha, rfl, rfl⟩
theorem frAdd_some {l : List xFr} {a b : Nat} (h1 : H a b = true) (h2 : P a b = false) : frAdd H S P PV l a b ≠ [] := by
  unfold frAdd
  rw [h1, h2]
  simp only [Bool.not_false, Bool.and_self, if_true]
  split
  · simp
  · split
    · next h =>
      intro e
      rw [e] at h
      simp at h
    · simp
/-- while an edge is left there is a fragment -/
theorem frs_some (hb : BIC H S) (hs : ∀ x y, P x y = P y x) (h : ∃ x y, H x y = true ∧ P x y = false) : frs H S P PV 100 ≠ [] := by
  obtain ⟨x, y, h1, h2⟩ := h
  have hS := hb.2.2.1 x y h1
  have key : ∀ a b, a < b → b < 10 → H a b = true → P a b = false → frs H S P PV 100 ≠ [] := by
    intro a b hab hb10 e1 e2
    refine pfold_mono (f := frAdd H S P PV) (s := []) (fun l => l ≠ []) (fun l c d _ _ hl => ?_) (n := 10 * a + b + 1) ?_ 100 (by omega) (Nat.le_refl _)
    · unfold frAdd
      split
      · split
        · simp
        · split
          · exact hl
          · simp
      · exact hl
    · rw [pfold_next hb10 hab]
      exact frAdd_some e1 e2
  rcases Nat.lt_trichotomy x y with q | q | q
  · exact key x y q hS.2.1 h1 h2
  · subst q
    rw [hb.2.1] at h1
    cases h1
  · exact key y x q hS.1 (by rw [hb.1]; exact h1) (by rw [hs]; exact h2)
end
theorem two_mk {a b : Nat} (ha : a < 10) (hb : b < 10) : tb (mk (two a b)) = two a b := tb_mk_fun fun v h => by
  rcases two_iff.mp h with rfl | rfl
  · exact ha
  · exact hb
/-- what a chosen path is -/
def PTH (H : Nat → Nat → Bool) (S : Nat → Bool) (P : Nat → Nat → Bool) (PV : Nat → Bool) (q : xFr) (u : Nat) (inn : List Nat) (w : Nat) : Prop :=
  pth H q = u :: inn ++ [w] ∧ u = low (tb q.2) ∧ u < 10 ∧ w < 10 ∧ u ≠ w ∧ tb q.2 u = true ∧ tb q.2 w = true ∧ inn.Nodup ∧ (∀ p ∈ inn, p < 10 ∧ PV p = false ∧ S p = true) ∧ (∀ e ∈ pd (u :: inn ++ [w]), H e.1 e.2 = true ∧ P e.1 e.2 = false) ∧
  (q.1 = 0 → inn = []) ∧ (q.1 ≠ 0 → 1 ≤ inn.length ∧ inn.length = fdep H (tb q.1) (fun v => tb q.2 v && !decide (v = u)) u 9)
theorem pth_ok {H : Nat → Nat → Bool} {S : Nat → Bool} {P : Nat → Nat → Bool} {PV : Nat → Bool} (hb : BIC H S) (hS : ∀ v, S v = true → v < 10) (hP : ∀ x y, P x y = true → PV x = true ∧ PV y = true) (hPS : ∀ v, PV v = true → S v = true) (h2 : ∃ y z, y ≠ z ∧ PV y = true ∧ PV z = true) {q : xFr} (hq : FOK H S P PV q) :
    ∃ u inn w, PTH H S P PV q u inn w := by
  rcases hq with ⟨h0, a, b, hab, hb10, e1, e2, e3, e4, e5⟩ | ⟨x, hx, hSx, hPx, e1, e2⟩
  · have ht : tb q.2 = two a b := by rw [e5]; exact two_mk (by omega) hb10
    have hl : low (two a b) = a := low_eq (by omega) (two_iff.mpr (Or.inl rfl)) (fun v hv => by
      cases h : two a b v with
      | false => rfl
      | true => rcases two_iff.mp h with h | h <;> omega)
    have hl2 : low (fun v => two a b v && !decide (v = a)) = b := low_eq hb10 (by simp [two]; omega) (fun v hv => by
      cases h : two a b v with
      | false => rfl
      | true =>
        rcases two_iff.mp h with h | h
        · simp [h]
        · omega)
    refine ⟨a, [], b, ?_, by rw [ht, hl], by omega, hb10, by omega, by rw [ht]; exact two_iff.mpr (Or.inl rfl), by rw [ht]; exact two_iff.mpr (Or.inr rfl), List.nodup_nil, (fun p hp => by cases hp), fun e he => ?_, fun _ => rfl, fun h => absurd h0 h⟩
    · unfold pth
      rw [if_pos h0, ht, hl, hl2]
      rfl
    · have : e = (a, b) := by simpa [pd] using he
      subst this
      exact ⟨e1, e2⟩
  · have hD : tb q.1 = cmp H S PV x := by rw [e1]; exact tb_mk_fun fun v h => hS v (cmp_in h).1
    have hC : tb q.2 = ctc H PV (cmp H S PV x) := by
      rw [e2]
      refine tb_mk_fun fun v h => ?_
      unfold ctc at h
      rw [Bool.and_eq_true] at h
      exact hS v (hPS v h.2)
    have h0 : q.1 ≠ 0 := by
      intro e
      have := cmp_self (H := H) hSx hPx
      rw [← hD, e, tb_0] at this
      cases this
    obtain ⟨y, z, y1, z1, yz, yc, zc⟩ := ctc_two hb hx hSx hPx (fun v hv => ⟨hPS v hv, hS v (hPS v hv)⟩) h2
    rw [← hC] at yc zc
    have hlow := low_some y1 yc
    generalize hu : low (tb q.2) = u at hlow
    have hT : ∃ t, t < 10 ∧ (fun v => tb q.2 v && !decide (v = u)) t = true ∧ ctc H PV (cmp H S PV x) t = true := by
      by_cases e : y = u
      · exact ⟨z, z1, by simp [zc]; omega, by rw [← hC]; exact zc⟩
      · exact ⟨y, y1, by simp [yc, e], by rw [← hC]; exact yc⟩
    have hc8 : cnt (cmp H S PV x) 10 ≤ 8 := by
      obtain ⟨p1, p2, p12, hp1, hp2⟩ := h2
      have q1 := hS p1 (hPS p1 hp1)
      have q2 := hS p2 (hPS p2 hp2)
      have n1 : cmp H S PV x p1 = false := by
        cases h : cmp H S PV x p1 with
        | false => rfl
        | true => rw [(cmp_in h).2] at hp1; cases hp1
      have n2 : cmp H S PV x p2 = false := by
        cases h : cmp H S PV x p2 with
        | false => rfl
        | true => rw [(cmp_in h).2] at hp2; cases hp2
      have k := cnt_add1 q1 n1
      have k2 := cnt_add1 (S := fun v => cmp H S PV x v || decide (v = p1)) q2 (by simp [n2]; omega)
      have k3 := cnt_le (fun v => (cmp H S PV x v || decide (v = p1)) || decide (v = p2)) 10
      omega
    obtain ⟨f1, f2, f3⟩ := ctc_path hb hx (T := fun v => tb q.2 v && !decide (v = u)) hlow.1 (by rw [← hC]; exact hlow.2) hT hc8
    obtain ⟨inn, t, g1, g2, g3, g4, g5, g6, g7⟩ := dsc_pok hb.1 f3
    simp only [Bool.and_eq_true, Bool.not_eq_true', decide_eq_false_iff_not] at g4
    have hne : inn ≠ [] := by
      intro e
      rw [e] at g2
      simp at g2
      omega
    refine ⟨u, inn, t, ?_, hu.symm, hlow.1, g3, fun e => g4.2 e.symm, hlow.2, g4.1, g6, fun p hp => ?_, fun e he => ⟨g7 e he, ?_⟩, fun e => absurd e h0, fun _ => ⟨by omega, by rw [g2, hD]⟩⟩
    · unfold pth
      rw [if_neg h0, hu, hD, g1]
      rfl
    · have := cmp_in (g5 p hp).2
      exact ⟨(g5 p hp).1, this.2, this.1⟩
    · -- one of the two ends lies between
      have hends : e.1 ∈ inn ∨ e.2 ∈ inn := by
        obtain ⟨i1, I1, hi⟩ : ∃ a D, inn = a :: D := by
          cases inn with
          | nil => exact absurd rfl hne
          | cons a D => exact ⟨a, D, rfl⟩
        obtain ⟨D, l, hDl⟩ := snoc_ex i1 I1
        rw [← hi] at hDl
        have e0 : u :: inn ++ [t] = u :: i1 :: (I1 ++ [t]) := by rw [hi]; rfl
        rw [e0, pd_cons2] at he
        rcases List.mem_cons.mp he with h | h
        · right
          rw [h, hi]
          exact List.mem_cons_self
        · have e3 : i1 :: (I1 ++ [t]) = D ++ l :: [t] := by
            have : inn ++ [t] = D ++ l :: [t] := by rw [hDl]; simp
            rw [hi] at this
            exact this
          rw [e3, pd_app] at h
          rcases List.mem_append.mp h with h | h
          · left
            have := (pd_mem h).1
            rw [← hDl] at this
            exact this
          · left
            have : e = (l, t) := by simpa [pd] using h
            rw [this, hDl]
            simp
      cases hPe : P e.1 e.2 with
      | false => rfl
      | true =>
        have hp := hP _ _ hPe
        rcases hends with h | h
        · have := (cmp_in (g5 _ h).2).2
          rw [hp.1] at this
          cases this
        · have := (cmp_in (g5 _ h).2).2
          rw [hp.2] at this
          cases this
