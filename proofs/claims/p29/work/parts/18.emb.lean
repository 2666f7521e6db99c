/-! the embedding of a block, step by step -/
theorem dts_rev (c : List Nat) (x y : Nat) : (x, y) ∈ dts c.reverse ↔ (y, x) ∈ dts c := by
  cases c with
  | nil => exact ⟨(fun h => by cases h), (fun h => by cases h)⟩
  | cons a t =>
    have e : (a :: t).reverse = t.reverse ++ [a] := by simp
    rw [e, dts_rot]
    show (x, y) ∈ pd (a :: t.reverse ++ [a]) ↔ (y, x) ∈ pd (a :: t ++ [a])
    have e2 : a :: t.reverse ++ [a] = (a :: t ++ [a]).reverse := by simp
    rw [e2, pd_rev]
theorem dts_asym {c : List Nat} (hn : c.Nodup) (h3 : 3 ≤ c.length) {x y : Nat} (h : (x, y) ∈ dts c) : (y, x) ∉ dts c := by
  obtain ⟨A, B, hAB⟩ := List.append_of_mem (dts_mem h).1
  have hd : ∀ q, q ∈ dts c ↔ q ∈ dts (x :: B ++ A) := fun q => by rw [hAB]; exact dts_rot A (x :: B) q
  have hper : (x :: B ++ A).Perm c := by rw [hAB]; exact List.perm_append_comm
  have hnd : (x :: (B ++ A)).Nodup := hper.nodup_iff.mpr hn
  have hlen : (x :: (B ++ A)).length = c.length := hper.length_eq
  have hd' : ∀ q, q ∈ dts c ↔ q ∈ dts (x :: (B ++ A)) := hd
  generalize B ++ A = C at hnd hlen hd'
  rw [hd'] at h ⊢
  match C, hnd, hlen, h with
  | [], _, hlen, _ => simp at hlen; omega
  | [b], _, hlen, _ => simp at hlen; omega
  | b :: z :: t, hnd, _, h =>
    intro h2
    have e1 : y = b := dts_fun hnd h (by show (x, b) ∈ pd (x :: b :: _); exact List.mem_cons_self)
    subst e1
    have e2 : x = z := dts_fun hnd h2 (by show (y, z) ∈ pd (x :: y :: z :: _); exact List.mem_cons_of_mem _ List.mem_cons_self)
    rw [e2] at hnd
    exact (List.nodup_cons.mp hnd).1 (List.mem_cons_of_mem _ List.mem_cons_self)
/-- how many of a list without repetition -/
theorem cnt_list : ∀ {l : List Nat}, l.Nodup → (∀ v ∈ l, v < 10) → cnt (fun v => decide (v ∈ l)) 10 = l.length := by
  intro l hn hl
  have h := cnt_addV (PV := fun _ => false) hn (fun v hv => ⟨hl v hv, rfl⟩)
  have h0 : cnt (fun _ => false) 10 = 0 := rfl
  rw [h0, Nat.zero_add] at h
  rw [← h]
  exact cnt_ext fun v _ => by simp [addV]
/-- the cycle with which it begins -/
theorem INV_cycle {H : Nat → Nat → Bool} {S : Nat → Bool} {c : List Nat} (hH : ∀ x y, H x y = H y x) (hn : c.Nodup) (h3 : 3 ≤ c.length) (hc : ∀ v ∈ c, v < 10 ∧ S v = true) (he : ∀ q ∈ dts c, H q.1 q.2 = true) :
    INV H S (fun x y => decide ((x, y) ∈ dts c) || decide ((y, x) ∈ dts c)) (fun v => decide (v ∈ c)) [c, c.reverse] c.length := by
  have hDT : [c, c.reverse].flatMap dts = dts c ++ dts c.reverse := by simp
  have hmem : ∀ x y, (x, y) ∈ dts c ++ dts c.reverse ↔ (decide ((x, y) ∈ dts c) || decide ((y, x) ∈ dts c)) = true := fun x y => by
    rw [List.mem_append, dts_rev, Bool.or_eq_true, decide_eq_true_eq, decide_eq_true_eq]
  refine ⟨fun x y => Bool.or_comm _ _, fun x y h => ?_, fun v h => (hc v (of_decide_eq_true h)).2, fun f hf => ?_, ?_, ?_, ?_, ?_, fun v hv => ?_⟩
  · rw [Bool.or_eq_true, decide_eq_true_eq, decide_eq_true_eq] at h
    rcases h with h | h
    · exact ⟨he _ h, decide_eq_true (dts_mem h).1⟩
    · exact ⟨by rw [hH]; exact he _ h, decide_eq_true (dts_mem h).2⟩
  · simp only [List.mem_cons, List.not_mem_nil, or_false] at hf
    rcases hf with rfl | rfl
    · exact ⟨hn, h3, fun v hv => decide_eq_true hv⟩
    · exact ⟨(List.reverse_perm _).nodup_iff.mpr hn, by rw [List.length_reverse]; exact h3, fun v hv => decide_eq_true (List.mem_reverse.mp hv)⟩
  · rw [hDT]
    refine List.nodup_append.mpr ⟨dts_nodup hn, dts_nodup ((List.reverse_perm _).nodup_iff.mpr hn), fun a ha b hb e => ?_⟩
    subst e
    exact dts_asym hn h3 ha ((dts_rev c a.1 a.2).mp hb)
  · rw [hDT]
    exact hmem
  · rw [hDT, List.length_append, dts_len, dts_len, List.length_reverse]
    omega
  · rw [cnt_list hn (fun v hv => (hc v hv).1)]
    rfl
  · have hvc := of_decide_eq_true hv
    obtain ⟨n, h1⟩ := dts_ex hvc
    obtain ⟨p, h2⟩ := dts_ex (l := c.reverse) (List.mem_reverse.mpr hvc)
    have h2' := (dts_rev c v p).mp h2
    have hne : p ≠ n := fun e => dts_asym hn h3 h1 (e ▸ h2')
    have hnr : c.reverse.Nodup := (List.reverse_perm _).nodup_iff.mpr hn
    refine ⟨[p, n], List.nodup_cons.mpr ⟨by simp [hne], List.nodup_cons.mpr ⟨List.not_mem_nil, List.nodup_nil⟩⟩, fun x => ?_, fun f hf x y g1 g2 => ?_⟩
    · simp only [List.mem_cons, List.not_mem_nil, or_false, Bool.or_eq_true, decide_eq_true_eq]
      constructor
      · rintro (h | h)
        · exact Or.inr (h ▸ h2')
        · exact Or.inl (h ▸ h1)
      · rintro (h | h)
        · exact Or.inr (dts_fun hn h h1)
        · exact Or.inl (dts_inj hn h h2')
    · simp only [List.mem_cons, List.not_mem_nil, or_false] at hf
      rcases hf with rfl | rfl
      · rw [dts_inj hn g1 h2', dts_fun hn g2 h1]
        simp [dts, pd]
      · rw [dts_rev] at g1 g2
        rw [dts_fun hn g1 h1, dts_inj hn g2 h2']
        simp [dts, pd]
/-- sums -/
def sm (f : Nat → Nat) : Nat → Nat
  | 0 => 0
  | n + 1 => sm f n + f n
theorem sm_le {f g : Nat → Nat} : ∀ {n : Nat}, (∀ i, i < n → f i ≤ g i) → sm f n ≤ sm g n
  | 0, _ => Nat.le_refl _
  | n + 1, h => by
    have := sm_le (n := n) (fun i hi => h i (by omega))
    have := h n (by omega)
    show sm f n + f n ≤ sm g n + g n
    omega
theorem sm_ext {f g : Nat → Nat} : ∀ {n : Nat}, (∀ i, i < n → f i = g i) → sm f n = sm g n
  | 0, _ => rfl
  | n + 1, h => by
    show sm f n + f n = sm g n + g n
    rw [sm_ext (n := n) (fun i hi => h i (by omega)), h n (by omega)]
theorem sm_lt {f g : Nat → Nat} : ∀ {n : Nat}, (∀ i, i < n → f i ≤ g i) → (∃ i, i < n ∧ f i < g i) → sm f n < sm g n
  | 0, _, ⟨i, h, _⟩ => by omega
  | n + 1, h, ⟨i, hi, hlt⟩ => by
    show sm f n + f n < sm g n + g n
    by_cases e : i = n
    · subst e
      have := sm_le (f := f) (g := g) (n := i) (fun j hj => h j (by omega))
      omega
    · have := sm_lt (n := n) (fun j hj => h j (by omega)) ⟨i, by omega, hlt⟩
      have := h n (by omega)
      omega
theorem cnt_filter (S : Nat → Bool) : ∀ n, cnt S n = ((List.range n).filter S).length
  | 0 => rfl
  | n + 1 => by
    rw [List.range_succ, List.filter_append, List.length_append, ← cnt_filter S n]
    show cnt S n + _ = _
    cases h : S n <;> simp [h]
/-- the pairs of a relation, counted row by row -/
theorem pairs_len {P : Nat → Nat → Bool} {l : List xPr} (hn : l.Nodup) (hm : ∀ x y, (x, y) ∈ l ↔ P x y = true) (hP : ∀ x y, P x y = true → x < 10 ∧ y < 10) : l.length = sm (fun x => cnt (P x) 10) 10 := by
  have key : ∀ n, ((List.range n).flatMap (fun x => ((List.range 10).filter (P x)).map (fun y => (x, y)))).length = sm (fun x => cnt (P x) 10) n := by
    intro n
    induction n with
    | zero => rfl
    | succ n ih =>
      rw [List.range_succ (n := n), List.flatMap_append, List.length_append, ih]
      simp [sm, cnt_filter]
  have nd : ∀ n, ((List.range n).flatMap (fun x => ((List.range 10).filter (P x)).map (fun y => (x, y)))).Nodup := by
    intro n
    induction n with
    | zero => exact List.nodup_nil
    | succ n ih =>
      rw [List.range_succ (n := n), List.flatMap_append]
      refine List.nodup_append.mpr ⟨ih, ?_, fun a ha b hb e => ?_⟩
      · simp only [List.flatMap_cons, List.flatMap_nil, List.append_nil]
        refine List.Pairwise.map _ (R := fun a b => a ≠ b) (fun a b h e => h (congrArg Prod.snd e)) ?_
        exact (List.nodup_range (n := 10)).sublist List.filter_sublist
      · subst e
        obtain ⟨x, hx, h1⟩ := List.mem_flatMap.mp ha
        obtain ⟨y, hy, h2⟩ := List.mem_flatMap.mp hb
        obtain ⟨_, _, e1⟩ := List.mem_map.mp h1
        obtain ⟨_, _, e2⟩ := List.mem_map.mp h2
        have := List.mem_range.mp hx
        rw [List.mem_singleton] at hy
        have e3 : x = y := congrArg Prod.fst (e1.trans e2.symm)
        omega
  rw [← key 10]
  refine List.Perm.length_eq ((List.perm_ext_iff_of_nodup hn (nd 10)).mpr (fun a => ?_))
  obtain ⟨x, y⟩ := a
  rw [hm, List.mem_flatMap]
  constructor
  · intro h
    exact ⟨x, List.mem_range.mpr (hP x y h).1, List.mem_map.mpr ⟨y, List.mem_filter.mpr ⟨List.mem_range.mpr (hP x y h).2, h⟩, rfl⟩⟩
  · rintro ⟨x', _, h⟩
    obtain ⟨y', h2, e⟩ := List.mem_map.mp h
    cases e
    exact (List.mem_filter.mp h2).2
/-- twice the number of edges -/
theorem sm_even {H : Nat → Nat → Bool} (hs : ∀ u v, H u v = H v u) (hi : ∀ v, H v v = false) : ∀ n, sm (fun x => cnt (H x) n) n = 2 * sm (fun x => cnt (H x) x) n := by
  have col : ∀ n m, sm (fun x => cnt (H x) (n + 1)) m = sm (fun x => cnt (H x) n) m + cnt (H n) m := by
    intro n m
    induction m with
    | zero => rfl
    | succ m ih =>
      show sm _ m + cnt (H m) (n + 1) = (sm _ m + cnt (H m) n) + (cnt (H n) m + (bif H n m then 1 else 0))
      rw [ih]
      show _ + (cnt (H m) n + (bif H m n then 1 else 0)) = _
      rw [hs m n]
      omega
  intro n
  induction n with
  | zero => rfl
  | succ n ih =>
    show sm (fun x => cnt (H x) (n + 1)) n + cnt (H n) (n + 1) = 2 * (sm (fun x => cnt (H x) x) n + cnt (H n) n)
    rw [col n n, ih]
    show _ + (cnt (H n) n + (bif H n n then 1 else 0)) = _
    rw [hi]
    simp only [cond_false]
    omega
/-- the number of edges -/
def ec (H : Nat → Nat → Bool) : Nat := sm (fun x => cnt (H x) x) 10
/-! fragments -/
/-- a block: its edges join its own vertices, and without one vertex it is in one piece -/
def BIC (H : Nat → Nat → Bool) (S : Nat → Bool) : Prop := (∀ x y, H x y = H y x) ∧ (∀ x, H x x = false) ∧ (∀ x y, H x y = true → x < 10 ∧ y < 10 ∧ S x = true ∧ S y = true) ∧
  ∀ x y u, x < 10 → y < 10 → u < 10 → S x = true → S y = true → x ≠ u → y ≠ u → con H (fun v => S v && but u v) x y
/-- the vertices that are not placed and joined with x by such -/
def cmp (H : Nat → Nat → Bool) (S PV : Nat → Bool) (x : Nat) : Nat → Bool := rch H (fun v => S v && !PV v) (fun v => decide (v = x))
/-- the contacts of a set -/
def ctc (H : Nat → Nat → Bool) (PV D : Nat → Bool) : Nat → Bool := fun v => nb H D v && PV v
section
variable {H : Nat → Nat → Bool} {S PV : Nat → Bool} {x : Nat}
theorem cmp_in {v : Nat} (h : cmp H S PV x v = true) : S v = true ∧ PV v = false := by
  have := rch_in h
  simp only [Bool.and_eq_true, Bool.not_eq_true'] at this
  exact this
theorem cmp_self (hx : S x = true) (hp : PV x = false) : cmp H S PV x x = true := rch_start (by simp) (by simp [hx, hp])
theorem cmp_step {u v : Nat} (hu : u < 10) (hv : v < 10) (h : cmp H S PV x u = true) (hg : H u v = true) (hS : S v = true) (hp : PV v = false) : cmp H S PV x v = true := rch_step hu hv h hg (by simp [hS, hp])
/-- a component is joined inside itself -/
theorem cmp_con (hx : x < 10) {v : Nat} (hv : v < 10) (h : cmp H S PV x v = true) : con H (cmp H S PV x) x v := by
  have k : cmp H S PV x v = true ∧ con H (cmp H S PV x) x v := by
    refine rch_ind (G := H) (A := fun v => S v && !PV v) (X := fun v => decide (v = x)) (fun v => cmp H S PV x v = true ∧ con H (cmp H S PV x) x v) (fun v _ a b => ?_) (fun u v hu hv q hg hA => ?_) v hv h
    · have e := of_decide_eq_true a
      subst e
      have : cmp H S PV v v = true := rch_start a b
      exact ⟨this, con_rfl this⟩
    · have h1 : cmp H S PV x v = true := rch_step hu hv q.1 hg hA
      exact ⟨h1, con_step q.2 hu hv hg h1⟩
  exact k.2
theorem cmp_same (hb : ∀ x y, H x y = H y x) (hx : x < 10) {y : Nat} (hy : y < 10) (h : cmp H S PV x y = true) : ∀ v, v < 10 → cmp H S PV y v = cmp H S PV x v := by
  have hxy : con H (fun v => S v && !PV v) x y := h
  have hyx := con_sym hb hx hy hxy
  intro v hv
  cases h1 : cmp H S PV x v with
  | true => exact con_trans hyx h1 hv
  | false =>
    cases h2 : cmp H S PV y v with
    | false => rfl
    | true =>
      have h3 : cmp H S PV x v = true := con_trans hxy h2 hv
      rw [h3] at h1
      cases h1
/-- a component that isn't placed has two contacts -/
theorem ctc_two (hb : BIC H S) (hx : x < 10) (hS : S x = true) (hp : PV x = false) (hPS : ∀ v, PV v = true → S v = true ∧ v < 10) (h2 : ∃ y z, y ≠ z ∧ PV y = true ∧ PV z = true) : ∃ y z, y < 10 ∧ z < 10 ∧ y ≠ z ∧ ctc H PV (cmp H S PV x) y = true ∧ ctc H PV (cmp H S PV x) z = true := by
  -- without c a contact other than c is met
  have other : ∀ c, c < 10 → c ≠ x → (∃ y, y ≠ c ∧ PV y = true) → ∃ y, y < 10 ∧ y ≠ c ∧ ctc H PV (cmp H S PV x) y = true := by
    rintro c hc hcx ⟨y, hyc, hy⟩
    refine Classical.byContradiction (fun hno => ?_)
    have hc2 := hb.2.2.2 x y c hx (hPS y hy).2 hc hS (hPS y hy).1 (fun e => hcx e.symm) hyc
    have : cmp H S PV x y = true := by
      refine con_ind (fun z => cmp H S PV x z = true) (fun _ => cmp_self hS hp) (fun u v hu hv q hg hA => ?_) (hPS y hy).2 hc2
      rw [Bool.and_eq_true, but_iff] at hA
      cases hPv : PV v with
      | false => exact cmp_step hu hv q hg hA.1 hPv
      | true => exact absurd ⟨v, hv, hA.2, by unfold ctc; rw [nb_iff.mpr ⟨u, hu, q, hg⟩, hPv]; rfl⟩ hno
    rw [(cmp_in this).2] at hy
    cases hy
  obtain ⟨y, z, hyz, hy, hz⟩ := h2
  have nx : ∀ v, PV v = true → v ≠ x := fun v hv e => by subst e; rw [hp] at hv; cases hv
  obtain ⟨c1, a1, b1, d1⟩ := other y (hPS y hy).2 (nx y hy) ⟨z, fun e => hyz e.symm, hz⟩
  have hc1 : PV c1 = true := by
    unfold ctc at d1
    rw [Bool.and_eq_true] at d1
    exact d1.2
  obtain ⟨c2, a2, b2, d2⟩ := other c1 a1 (nx c1 hc1) ⟨y, fun e => b1 e.symm, hy⟩
  exact ⟨c1, c2, a1, a2, fun e => b2 e.symm, d1, d2⟩
/-- a path through a component, from a contact to another one -/
theorem ctc_path (hb : BIC H S) (hx : x < 10) {u : Nat} {T : Nat → Bool} (hu : u < 10) (huc : ctc H PV (cmp H S PV x) u = true) (hT : ∃ t, t < 10 ∧ T t = true ∧ ctc H PV (cmp H S PV x) t = true) (hc9 : cnt (cmp H S PV x) 10 ≤ 8) :
    1 ≤ fdep H (cmp H S PV x) T u 9 ∧ fdep H (cmp H S PV x) T u 9 ≤ 8 ∧ ∃ z, z < 10 ∧ H u z = true ∧ lay H (cmp H S PV x) T (fdep H (cmp H S PV x) T u 9) z = true := by
  obtain ⟨t, t1, t2, t3⟩ := hT
  unfold ctc at huc t3
  rw [Bool.and_eq_true] at huc t3
  obtain ⟨d1, e1, e2, e3⟩ := nb_iff.mp huc.1
  obtain ⟨d2, f1, f2, f3⟩ := nb_iff.mp t3.1
  have hcc : con H (cmp H S PV x) d2 d1 := con_trans (con_sym hb.1 hx f1 (cmp_con hx f1 f2)) (cmp_con hx e1 e2) e1
  obtain ⟨k, k1, k2⟩ := lay_all (T := T) f1 e1 hcc ⟨t, t1, t2, by rw [hb.1]; exact f3⟩
  obtain ⟨j, rfl⟩ : ∃ j, k = j + 1 := ⟨k - 1, by omega⟩
  have hd := lay_deep e1 k2
  have hm : meet (lay H (cmp H S PV x) T (j + 1)) (H u) = true := meet_iff.mpr ⟨d1, e1, k2, by rw [hb.1]; exact e3⟩
  obtain ⟨s1, s2⟩ := fdep_spec (H := H) (A := cmp H S PV x) (T := T) (u := u) 9
  by_cases h0 : fdep H (cmp H S PV x) T u 9 = 0
  · have := s2 h0 (j + 1) k1 (by omega)
    rw [hm] at this
    cases this
  · obtain ⟨g1, g2, g3, g4⟩ := s1 h0
    have hle : fdep H (cmp H S PV x) T u 9 ≤ j + 1 := by
      refine Decidable.byContradiction (fun z => ?_)
      have := g4 (j + 1) k1 (by omega)
      rw [hm] at this
      cases this
    obtain ⟨z, z1, z2, z3⟩ := meet_iff.mp g3
    exact ⟨g1, by omega, z, z1, z3, z2⟩
end
