/-! trees inside a connected set -/
def allF (F : xG) (l : List Nat) : Prop := ∀ e ∈ pd l, F e.1 e.2 = true
theorem allF_cons {F : xG} {x h : Nat} {l : List Nat} (hl : allF F l) (hh : l.head? = some h) (hx : F x h = true) : allF F (x :: l) := by
  cases l with
  | nil => cases hh
  | cons a t =>
    have : a = h := by simpa using hh
    subst this
    intro e he
    rw [pd_cons2] at he
    rcases List.mem_cons.mp he with g | g
    · rw [g]; exact hx
    · exact hl e g
theorem allF_rev {F : xG} (hs : ∀ x y, F x y = F y x) {l : List Nat} (hl : allF F l) : allF F l.reverse := fun e he => by
  rw [hs]
  exact hl _ ((pd_rev l e).mp he)
theorem allF_snoc {F : xG} (hs : ∀ x y, F x y = F y x) {y h : Nat} {l : List Nat} (hl : allF F l) (hh : l.getLast? = some h) (hx : F h y = true) : allF F (l ++ [y]) := by
  have h1 : allF F (y :: l.reverse) := allF_cons (allF_rev hs hl) (by rw [List.head?_reverse]; exact hh) (by rw [hs]; exact hx)
  have := allF_rev hs h1
  simpa using this
theorem allF_left {F : xG} {A B : List Nat} {m : Nat} (h : allF F (A ++ m :: B)) : allF F (A ++ [m]) := fun e he => h e (by rw [pd_app]; exact List.mem_append_left _ he)
theorem allF_right {F : xG} {A B : List Nat} {m : Nat} (h : allF F (A ++ m :: B)) : allF F (m :: B) := fun e he => h e (by rw [pd_app]; exact List.mem_append_right _ he)
theorem allF_join {F : xG} {A B : List Nat} {m : Nat} (h1 : allF F (A ++ [m])) (h2 : allF F (m :: B)) : allF F (A ++ m :: B) := fun e he => by
  rw [pd_app] at he
  rcases List.mem_append.mp he with g | g
  · exact h1 e g
  · exact h2 e g
/-- a connected set beside a cycle -/
def SIDE (F : xG) (C : List Nat) (A : Nat → Bool) : Prop := (∀ v, A v = true → v < 10) ∧ (∀ v ∈ C, A v = false) ∧ ∀ x y, A x = true → A y = true → con F A x y
def att (F : xG) (A : Nat → Bool) (v : Nat) : Prop := ∃ d, A d = true ∧ F d v = true
/-- from a centre to a, to b, and to p inside -/
def TRP (F : xG) (A : Nat → Bool) (a b p s : Nat) (La Lb Lp : List Nat) : Prop := (s :: La ++ Lb ++ Lp).Nodup ∧ (∀ v ∈ s :: La ++ Lb ++ Lp, A v = true) ∧ allF F (s :: La ++ [a]) ∧ allF F (s :: Lb ++ [b]) ∧ allF F (s :: Lp) ∧ (s :: Lp).getLast? = some p
theorem TRP_ex {F : xG} (hs : ∀ x y, F x y = F y x) {C : List Nat} {A : Nat → Bool} (hA : SIDE F C A) {a b p : Nat} (ha : att F A a) (hb : att F A b) (hp : A p = true) : ∃ s La Lb Lp, TRP F A a b p s La Lb Lp := by
  obtain ⟨h10, _, hcon⟩ := hA
  obtain ⟨da, ha1, ha2⟩ := ha
  obtain ⟨db, hb1, hb2⟩ := hb
  obtain ⟨L, ⟨m1, m2, m3⟩, m4⟩ := con_PA (h10 da ha1) (h10 db hb1) (hcon da db ha1 hb1)
  obtain ⟨L', ⟨n1, n2, n3⟩, n4⟩ := con_PA (h10 p hp) (h10 da ha1) (hcon p da hp ha1)
  have hdaM : da ∈ L ++ [db] := by
    cases L with
    | nil => have : db = da := by simpa using m4
             rw [this]; simp
    | cons x t => have : x = da := by simpa using m4
                  rw [this]; simp
  obtain ⟨N1, s, N2, e1, e2, e3⟩ := split_first (l := L' ++ [da]) (p := fun v => decide (v ∈ L ++ [db])) ⟨da, by simp, decide_eq_true hdaM⟩
  obtain ⟨M1, M2, e4⟩ := List.append_of_mem (of_decide_eq_true e2)
  rw [e4] at m1 m2 m3 m4
  rw [e1] at n1 n2 n3 n4
  have hdis : ∀ v ∈ N1, v ∉ M1 ++ s :: M2 := fun v hv hv2 => by
    have := e3 v hv
    rw [e4] at this
    exact of_decide_eq_false this hv2
  have hM : allF F (M1 ++ s :: M2) := m3
  have hN : allF F (N1 ++ s :: N2) := n3
  refine ⟨s, M1.reverse, M2, N1.reverse, ?_, fun v hv => ?_, ?_, ?_, ?_, ?_⟩
  · have h1 : ((M1 ++ s :: M2) ++ N1).Nodup := List.nodup_append.mpr ⟨m1, n1.sublist (List.sublist_append_left _ _), fun x hx y hy e => hdis y hy (e ▸ hx)⟩
    refine (List.Perm.nodup_iff ?_).mp h1
    refine List.perm_iff_count.mpr fun z => ?_
    simp only [List.cons_append, List.count_append, List.count_cons, List.count_reverse]
    omega
  · simp only [List.cons_append, List.mem_append, List.mem_cons, List.mem_reverse] at hv
    rcases hv with h | (h | h) | h
    · exact (m2 v (by simp [h])).2
    · exact (m2 v (by simp [h])).2
    · exact (m2 v (by simp [h])).2
    · exact (n2 v (by simp [h])).2
  · have h1 := allF_left hM
    have hh : (M1 ++ [s]).head? = some da := by
      cases M1 with
      | nil => simpa using m4
      | cons x t => simpa using m4
    have h2 := allF_rev hs (allF_cons h1 hh (by rw [hs]; exact ha2))
    simpa using h2
  · have h1 := allF_right hM
    have hh : (s :: M2).getLast? = some db := by
      have h3 : (M1 ++ s :: M2).getLast? = some db := by rw [← e4, List.getLast?_concat]
      obtain ⟨D, l, hD⟩ := snoc_ex s M2
      rw [hD, ← List.append_assoc, List.getLast?_concat] at h3
      rw [hD, List.getLast?_concat]
      exact h3
    exact allF_snoc hs h1 hh hb2
  · have h1 := allF_rev hs (allF_left hN)
    simpa using h1
  · have hh : (N1 ++ [s]).head? = some p := by
      cases N1 with
      | nil => simpa using n4
      | cons x t => simpa using n4
    have : (s :: N1.reverse) = (N1 ++ [s]).reverse := by simp
    rw [this, List.getLast?_reverse]
    exact hh
/-- a star with four legs, the last one inside, or a leg that forks: s .. h .. x, s .. y, s .. z, h .. p -/
def STAR (F : xG) (A : Nat → Bool) (a b d p s : Nat) (La Lb Ld Lp : List Nat) : Prop := (s :: La ++ Lb ++ Ld ++ Lp).Nodup ∧ (∀ v ∈ s :: La ++ Lb ++ Ld ++ Lp, A v = true) ∧ (allF F (s :: La ++ [a]) ∧ allF F (s :: Lb ++ [b]) ∧ allF F (s :: Ld ++ [d])) ∧ allF F (s :: Lp) ∧ (s :: Lp).getLast? = some p
def FORK (F : xG) (A : Nat → Bool) (x y z p s h : Nat) (L1 L2 L3 L4 L5 : List Nat) : Prop := (s :: h :: L1 ++ L2 ++ L3 ++ L4 ++ L5).Nodup ∧ (∀ v ∈ s :: h :: L1 ++ L2 ++ L3 ++ L4 ++ L5, A v = true) ∧ (allF F (s :: L1 ++ [h]) ∧ allF F (h :: L2 ++ [x]) ∧ allF F (s :: L3 ++ [y]) ∧ allF F (s :: L4 ++ [z])) ∧ allF F (h :: L5) ∧ (h :: L5).getLast? = some p
theorem FORK_of {F : xG} {A : Nat → Bool} {x y z p s h : Nat} {Lx L1 L2 L3 L4 L5 : List Nat} (e : Lx = L1 ++ h :: L2) (hn : (s :: Lx ++ L3 ++ L4 ++ L5).Nodup) (hA : ∀ v ∈ s :: Lx ++ L3 ++ L4 ++ L5, A v = true) (hx : allF F (s :: Lx ++ [x])) (hy : allF F (s :: L3 ++ [y])) (hz : allF F (s :: L4 ++ [z])) (h5 : allF F (h :: L5)) (hp : (h :: L5).getLast? = some p) : FORK F A x y z p s h L1 L2 L3 L4 L5 := by
  subst e
  have hper : (s :: h :: L1 ++ L2 ++ L3 ++ L4 ++ L5).Perm (s :: (L1 ++ h :: L2) ++ L3 ++ L4 ++ L5) := List.perm_iff_count.mpr fun z => by
    simp only [List.cons_append, List.count_append, List.count_cons]
    omega
  have e2 : s :: (L1 ++ h :: L2) ++ [x] = (s :: L1) ++ h :: (L2 ++ [x]) := by simp
  rw [e2] at hx
  exact ⟨hper.nodup_iff.mpr hn, fun v hv => hA v (hper.mem_iff.mp hv), ⟨allF_left hx, allF_right hx, hy, hz⟩, h5, hp⟩
theorem QUAD_ex {F : xG} (hs : ∀ x y, F x y = F y x) {C : List Nat} {A : Nat → Bool} (hA : SIDE F C A) {a b d p : Nat} (ha : att F A a) (hb : att F A b) (hd : att F A d) (hp : A p = true) :
    (∃ s La Lb Ld Lp, STAR F A a b d p s La Lb Ld Lp) ∨ (∃ s h L1 L2 L3 L4 L5, FORK F A a b d p s h L1 L2 L3 L4 L5 ∨ FORK F A b d a p s h L1 L2 L3 L4 L5 ∨ FORK F A d a b p s h L1 L2 L3 L4 L5) := by
  obtain ⟨dd, hd1, hd2⟩ := hd
  obtain ⟨s, La, Lb, Ld, t1, t2, t3, t4, t5, t6⟩ := TRP_ex hs hA ha hb hd1
  have t5' : allF F (s :: Ld ++ [d]) := allF_snoc hs t5 t6 hd2
  obtain ⟨h10, hC, hcon⟩ := hA
  have hAs : A s = true := t2 s (by simp)
  obtain ⟨L', ⟨n1, n2, n3⟩, n4⟩ := con_PA (h10 p hp) (h10 s hAs) (hcon p s hp hAs)
  obtain ⟨N1, h, N2, e1, e2, e3⟩ := split_first (l := L' ++ [s]) (p := fun v => decide (v ∈ s :: La ++ Lb ++ Ld)) ⟨s, by simp, decide_eq_true (by simp)⟩
  rw [e1] at n1 n2 n3 n4
  have hN : allF F (N1 ++ h :: N2) := n3
  have hdis : ∀ v ∈ N1, v ∉ s :: La ++ Lb ++ Ld := fun v hv => of_decide_eq_false (e3 v hv)
  have h5 : allF F (h :: N1.reverse) := by
    have h1 := allF_rev hs (allF_left hN)
    simpa using h1
  have hlast : (h :: N1.reverse).getLast? = some p := by
    have hh : (N1 ++ [h]).head? = some p := by
      cases N1 with
      | nil => simpa using n4
      | cons x t => simpa using n4
    have : (h :: N1.reverse) = (N1 ++ [h]).reverse := by simp
    rw [this, List.getLast?_reverse]
    exact hh
  have hnod : (s :: La ++ Lb ++ Ld ++ N1.reverse).Nodup := List.nodup_append.mpr ⟨t1, (List.reverse_perm _).nodup_iff.mpr (n1.sublist (List.sublist_append_left _ _)), fun x hx y hy e => hdis y (List.mem_reverse.mp hy) (e ▸ hx)⟩
  have hall : ∀ v ∈ s :: La ++ Lb ++ Ld ++ N1.reverse, A v = true := fun v hv => by
    rcases List.mem_append.mp hv with g | g
    · exact t2 v g
    · exact (n2 v (List.mem_append_left _ (List.mem_reverse.mp g))).2
  have hh := of_decide_eq_true e2
  simp only [List.cons_append, List.mem_append, List.mem_cons] at hh
  have perm2 : (s :: Lb ++ Ld ++ La ++ N1.reverse).Perm (s :: La ++ Lb ++ Ld ++ N1.reverse) := List.perm_iff_count.mpr fun z => by
    simp only [List.cons_append, List.count_append, List.count_cons]
    omega
  have perm3 : (s :: Ld ++ La ++ Lb ++ N1.reverse).Perm (s :: La ++ Lb ++ Ld ++ N1.reverse) := List.perm_iff_count.mpr fun z => by
    simp only [List.cons_append, List.count_append, List.count_cons]
    omega
  rcases hh with g | (g | g) | g
  · subst g
    exact Or.inl ⟨h, La, Lb, Ld, N1.reverse, hnod, hall, ⟨t3, t4, t5'⟩, h5, hlast⟩
  · obtain ⟨L1, L2, e⟩ := List.append_of_mem g
    exact Or.inr ⟨s, h, L1, L2, Lb, Ld, N1.reverse, Or.inl (FORK_of e hnod hall t3 t4 t5' h5 hlast)⟩
  · obtain ⟨L1, L2, e⟩ := List.append_of_mem g
    exact Or.inr ⟨s, h, L1, L2, Ld, La, N1.reverse, Or.inr (Or.inl (FORK_of e (perm2.nodup_iff.mpr hnod) (fun v hv => hall v (perm2.mem_iff.mp hv)) t4 t5' t3 h5 hlast))⟩
  · obtain ⟨L1, L2, e⟩ := List.append_of_mem g
    exact Or.inr ⟨s, h, L1, L2, La, Lb, N1.reverse, Or.inr (Or.inr (FORK_of e (perm3.nodup_iff.mpr hnod) (fun v hv => hall v (perm3.mem_iff.mp hv)) t5' t3 t4 h5 hlast))⟩
/-! models: branch vertices, and a path for each pair -/
def mlist (n : Nat) (prs : List xPr) (br : Nat → Nat) (M : Nat → List Nat) : List Nat := (List.range n).map br ++ (List.range prs.length).flatMap M
def MOD (F : xG) (n : Nat) (prs : List xPr) (br : Nat → Nat) (M : Nat → List Nat) : Prop := (mlist n prs br M).Nodup ∧ (∀ v ∈ mlist n prs br M, v < 10) ∧ ∀ t q, prs[t]? = some q → allF F (br q.1 :: M t ++ [br q.2])
def P33 : List xPr := [(0, 3), (0, 4), (0, 5), (1, 3), (1, 4), (1, 5), (2, 3), (2, 4), (2, 5)]
def P5 : List xPr := [(0, 1), (0, 2), (0, 3), (0, 4), (1, 2), (1, 3), (1, 4), (2, 3), (2, 4), (3, 4)]
def br6 (a b c d e f : Nat) : Nat → Nat
  | 0 => a
  | 1 => b
  | 2 => c
  | 3 => d
  | 4 => e
  | _ => f
def br5 (a b c d e : Nat) : Nat → Nat
  | 0 => a
  | 1 => b
  | 2 => c
  | 3 => d
  | _ => e
def m9 (a b c d e f g h i : List Nat) : Nat → List Nat
  | 0 => a
  | 1 => b
  | 2 => c
  | 3 => d
  | 4 => e
  | 5 => f
  | 6 => g
  | 7 => h
  | _ => i
def m10 (a b c d e f g h i j : List Nat) : Nat → List Nat
  | 0 => a
  | 1 => b
  | 2 => c
  | 3 => d
  | 4 => e
  | 5 => f
  | 6 => g
  | 7 => h
  | 8 => i
  | _ => j
theorem mlist33 (a b c d e f : Nat) (l0 l1 l2 l3 l4 l5 l6 l7 l8 : List Nat) : mlist 6 P33 (br6 a b c d e f) (m9 l0 l1 l2 l3 l4 l5 l6 l7 l8) = [a, b, c, d, e, f] ++ (l0 ++ (l1 ++ (l2 ++ (l3 ++ (l4 ++ (l5 ++ (l6 ++ (l7 ++ (l8 ++ []))))))))) := rfl
theorem mlist5 (a b c d e : Nat) (l0 l1 l2 l3 l4 l5 l6 l7 l8 l9 : List Nat) : mlist 5 P5 (br5 a b c d e) (m10 l0 l1 l2 l3 l4 l5 l6 l7 l8 l9) = [a, b, c, d, e] ++ (l0 ++ (l1 ++ (l2 ++ (l3 ++ (l4 ++ (l5 ++ (l6 ++ (l7 ++ (l8 ++ (l9 ++ [])))))))))) := rfl
theorem MOD33 {F : xG} {a b c d e f : Nat} {l0 l1 l2 l3 l4 l5 l6 l7 l8 : List Nat} {N : List Nat} (hN : N.Nodup) (h10 : ∀ v ∈ N, v < 10) (hp : ∀ z, List.count z (mlist 6 P33 (br6 a b c d e f) (m9 l0 l1 l2 l3 l4 l5 l6 l7 l8)) = List.count z N)
    (h0 : allF F (a :: l0 ++ [d])) (h1 : allF F (a :: l1 ++ [e])) (h2 : allF F (a :: l2 ++ [f])) (h3 : allF F (b :: l3 ++ [d])) (h4 : allF F (b :: l4 ++ [e])) (h5 : allF F (b :: l5 ++ [f])) (h6 : allF F (c :: l6 ++ [d])) (h7 : allF F (c :: l7 ++ [e])) (h8 : allF F (c :: l8 ++ [f])) :
    MOD F 6 P33 (br6 a b c d e f) (m9 l0 l1 l2 l3 l4 l5 l6 l7 l8) := by
  have hper := List.perm_iff_count.mpr hp
  refine ⟨hper.nodup_iff.mpr hN, fun v hv => h10 v (hper.mem_iff.mp hv), fun t q hq => ?_⟩
  match t, hq with
  | 0, hq => cases hq; exact h0
  | 1, hq => cases hq; exact h1
  | 2, hq => cases hq; exact h2
  | 3, hq => cases hq; exact h3
  | 4, hq => cases hq; exact h4
  | 5, hq => cases hq; exact h5
  | 6, hq => cases hq; exact h6
  | 7, hq => cases hq; exact h7
  | 8, hq => cases hq; exact h8
  | t + 9, hq => cases hq
theorem MOD5 {F : xG} {a b c d e : Nat} {l0 l1 l2 l3 l4 l5 l6 l7 l8 l9 : List Nat} {N : List Nat} (hN : N.Nodup) (h10 : ∀ v ∈ N, v < 10) (hp : ∀ z, List.count z (mlist 5 P5 (br5 a b c d e) (m10 l0 l1 l2 l3 l4 l5 l6 l7 l8 l9)) = List.count z N)
    (h0 : allF F (a :: l0 ++ [b])) (h1 : allF F (a :: l1 ++ [c])) (h2 : allF F (a :: l2 ++ [d])) (h3 : allF F (a :: l3 ++ [e])) (h4 : allF F (b :: l4 ++ [c])) (h5 : allF F (b :: l5 ++ [d])) (h6 : allF F (b :: l6 ++ [e])) (h7 : allF F (c :: l7 ++ [d])) (h8 : allF F (c :: l8 ++ [e])) (h9 : allF F (d :: l9 ++ [e])) :
    MOD F 5 P5 (br5 a b c d e) (m10 l0 l1 l2 l3 l4 l5 l6 l7 l8 l9) := by
  have hper := List.perm_iff_count.mpr hp
  refine ⟨hper.nodup_iff.mpr hN, fun v hv => h10 v (hper.mem_iff.mp hv), fun t q hq => ?_⟩
  match t, hq with
  | 0, hq => cases hq; exact h0
  | 1, hq => cases hq; exact h1
  | 2, hq => cases hq; exact h2
  | 3, hq => cases hq; exact h3
  | 4, hq => cases hq; exact h4
  | 5, hq => cases hq; exact h5
  | 6, hq => cases hq; exact h6
  | 7, hq => cases hq; exact h7
  | 8, hq => cases hq; exact h8
  | 9, hq => cases hq; exact h9
  | t + 10, hq => cases hq
/-- a path from s to p and one from t to q, with an edge p - q -/
theorem link {F : xG} (hs : ∀ x y, F x y = F y x) {s t p q : Nat} {Lp Lq : List Nat} (h1 : allF F (s :: Lp)) (h2 : (s :: Lp).getLast? = some p) (h3 : allF F (t :: Lq)) (h4 : (t :: Lq).getLast? = some q) (hpq : F p q = true) : allF F (s :: (Lp ++ Lq.reverse) ++ [t]) := by
  have h5 : allF F ((t :: Lq).reverse) := allF_rev hs h3
  have hh : ((t :: Lq).reverse).head? = some q := by rw [List.head?_reverse]; exact h4
  have e : s :: (Lp ++ Lq.reverse) ++ [t] = (s :: Lp) ++ (t :: Lq).reverse := by simp
  rw [e]
  cases hr : (t :: Lq).reverse with
  | nil => simp at hr
  | cons x r =>
    rw [hr] at hh h5
    have : x = q := by simpa using hh
    subst this
    exact allF_join (allF_snoc hs h1 h2 hpq) h5
/-- they cross: three and three -/
theorem skew_33 {F : xG} (hs : ∀ x y, F x y = F y x) {C : List Nat} (hC : cyl C) (hCF : ∀ q ∈ dts C, F q.1 q.2 = true) {Au Aw : Nat → Bool} (hu : SIDE F C Au) (hw : SIDE F C Aw) (hdis : ∀ v, Au v = true → Aw v = true → False) {p q : Nat} (hp : Au p = true) (hq : Aw q = true) (hpq : F p q = true)
    {A B : Nat → Bool} (hA : ∀ v ∈ C, A v = true → att F Au v) (hB : ∀ v ∈ C, B v = true → att F Aw v) (h : skew C A B) : ∃ br M, MOD F 6 P33 br M := by
  obtain ⟨a, X, b, Y, a', X', b', Y', hR, a1, a2, b1, b2⟩ := h
  have hm : ∀ v, v ∈ a :: X ++ b :: Y ++ a' :: X' ++ b' :: Y' → v ∈ C := fun v hv => hR.1.mem_iff.mp hv
  obtain ⟨s, La, La', Lp, s1, s2, s3, s4, s5, s6⟩ := TRP_ex hs hu (hA a (hm a (by simp)) a1) (hA a' (hm a' (by simp)) a2) hp
  obtain ⟨t, Lb, Lb', Lq, t1, t2, t3, t4, t5, t6⟩ := TRP_ex hs hw (hB b (hm b (by simp)) b1) (hB b' (hm b' (by simp)) b2) hq
  have hD : ∀ e ∈ dts (a :: X ++ b :: Y ++ a' :: X' ++ b' :: Y'), F e.1 e.2 = true := fun e he => hCF e ((hR.2 e).mp he)
  have hfull : allF F (a :: X ++ b :: Y ++ a' :: X' ++ b' :: Y' ++ [a]) := fun e he => hD e (by
    show e ∈ pd (a :: (X ++ b :: Y ++ a' :: X' ++ b' :: Y') ++ [a])
    simpa using he)
  have f1 : allF F ((a :: X) ++ b :: (Y ++ a' :: (X' ++ b' :: (Y' ++ [a])))) := by simpa using hfull
  have f2 := allF_right f1
  have f3 : allF F ((b :: Y) ++ a' :: (X' ++ b' :: (Y' ++ [a]))) := by simpa using f2
  have f4 := allF_right f3
  have f5 : allF F ((a' :: X') ++ b' :: (Y' ++ [a])) := by simpa using f4
  have f6 := allF_right f5
  have rev : ∀ {x y : Nat} {l : List Nat}, allF F (x :: l ++ [y]) → allF F (y :: l.reverse ++ [x]) := fun {x y l} hl => by
    have := allF_rev hs hl
    simpa using this
  have hN : ((a :: X ++ b :: Y ++ a' :: X' ++ b' :: Y') ++ (s :: La ++ La' ++ Lp) ++ (t :: Lb ++ Lb' ++ Lq)).Nodup := by
    refine List.nodup_append.mpr ⟨List.nodup_append.mpr ⟨hR.1.nodup_iff.mpr hC.1, s1, fun x hx y hy e => ?_⟩, t1, fun x hx y hy e => ?_⟩
    · subst e
      have h1 := s2 x hy
      rw [hu.2.1 x (hm x hx)] at h1
      cases h1
    · subst e
      have h1 := t2 x hy
      rcases List.mem_append.mp hx with g | g
      · rw [hw.2.1 x (hm x g)] at h1; cases h1
      · exact hdis x (s2 x g) h1
  refine ⟨_, _, MOD33 (a := a) (b := a') (c := t) (d := b) (e := b') (f := s) (l0 := X) (l1 := Y'.reverse) (l2 := La.reverse) (l3 := Y.reverse) (l4 := X') (l5 := La'.reverse) (l6 := Lb) (l7 := Lb') (l8 := Lq ++ Lp.reverse) hN (fun v hv => ?_) (fun z => ?_) (allF_left f1) (rev f6) (rev s3) (rev (allF_left f3)) (allF_left f5) (rev s4) t3 t4 (link hs t5 t6 s5 s6 (by rw [hs]; exact hpq))⟩
  · rcases List.mem_append.mp hv with g | g
    · rcases List.mem_append.mp g with g | g
      · exact hC.2.2 v (hm v g)
      · exact hu.1 v (s2 v g)
    · exact hw.1 v (t2 v g)
  · rw [mlist33]
    simp only [List.cons_append, List.nil_append, List.count_append, List.count_cons, List.count_reverse, List.count_nil]
    omega
/-- a fork beside three common contacts: three and three -/
theorem fork_33 {F : xG} (hs : ∀ x y, F x y = F y x) {C : List Nat} (hC : cyl C) (hCF : ∀ q ∈ dts C, F q.1 q.2 = true) {Au Aw : Nat → Bool} (hu : SIDE F C Au) (hw : SIDE F C Aw) (hdis : ∀ v, Au v = true → Aw v = true → False) {p q : Nat} (hq : Aw q = true) (hpq : F p q = true)
    {x y z : Nat} {X Y W : List Nat} (hR : Rot C (x :: X ++ y :: Y ++ z :: W)) {s h : Nat} {L1 L2 L3 L4 L5 : List Nat} (hf : FORK F Au x y z p s h L1 L2 L3 L4 L5) (hy : att F Aw y) (hz : att F Aw z) : ∃ br M, MOD F 6 P33 br M := by
  obtain ⟨g1, g2, ⟨g3, g4, g5, g6⟩, g7, g8⟩ := hf
  have hm : ∀ v, v ∈ x :: X ++ y :: Y ++ z :: W → v ∈ C := fun v hv => hR.1.mem_iff.mp hv
  obtain ⟨t, Ly, Lz, Lq, t1, t2, t3, t4, t5, t6⟩ := TRP_ex hs hw hy hz hq
  have hfull : allF F (x :: X ++ y :: Y ++ z :: W ++ [x]) := fun e he => hCF e ((hR.2 e).mp (by
    show e ∈ pd (x :: (X ++ y :: Y ++ z :: W) ++ [x])
    simpa using he))
  have f1 : allF F ((x :: X) ++ y :: (Y ++ z :: (W ++ [x]))) := by simpa using hfull
  have f2 : allF F ((y :: Y) ++ z :: (W ++ [x])) := by simpa using allF_right f1
  have f3 := allF_right f2
  have rev : ∀ {x y : Nat} {l : List Nat}, allF F (x :: l ++ [y]) → allF F (y :: l.reverse ++ [x]) := fun {x y l} hl => by
    have := allF_rev hs hl
    simpa using this
  have hN : ((x :: X ++ y :: Y ++ z :: W) ++ (s :: h :: L1 ++ L2 ++ L3 ++ L4 ++ L5) ++ (t :: Ly ++ Lz ++ Lq)).Nodup := by
    refine List.nodup_append.mpr ⟨List.nodup_append.mpr ⟨hR.1.nodup_iff.mpr hC.1, g1, fun x hx y hy e => ?_⟩, t1, fun x hx y hy e => ?_⟩
    · subst e
      have h1 := g2 x hy
      rw [hu.2.1 x (hm x hx)] at h1
      cases h1
    · subst e
      have h1 := t2 x hy
      rcases List.mem_append.mp hx with g | g
      · rw [hw.2.1 x (hm x g)] at h1; cases h1
      · exact hdis x (g2 x g) h1
  have hsub : (x :: X ++ y :: z :: W).Sublist (x :: X ++ y :: Y ++ z :: W) := by
    rw [List.append_assoc]
    exact List.Sublist.append_left (by simpa using List.Sublist.cons_cons y (List.sublist_append_right Y (z :: W))) _
  have hN2 : ((x :: X ++ y :: z :: W) ++ (s :: h :: L1 ++ L2 ++ L3 ++ L4 ++ L5) ++ (t :: Ly ++ Lz ++ Lq)).Nodup := hN.sublist (List.Sublist.append_right (List.Sublist.append_right hsub _) _)
  refine ⟨_, _, MOD33 (a := h) (b := y) (c := z) (d := s) (e := x) (f := t) (l0 := L1.reverse) (l1 := L2) (l2 := L5 ++ Lq.reverse) (l3 := L3.reverse) (l4 := X.reverse) (l5 := Ly.reverse) (l6 := L4.reverse) (l7 := W) (l8 := Lz.reverse) hN2 (fun v hv => ?_) (fun c => ?_) (rev g3) g4 (link hs g7 g8 t5 t6 hpq) (rev g5) (rev (allF_left f1)) (rev t3) (rev g6) f3 (rev t4)⟩
  · rcases List.mem_append.mp hv with g | g
    · rcases List.mem_append.mp g with g | g
      · exact hC.2.2 v (hm v (hsub.subset g))
      · exact hu.1 v (g2 v g)
    · exact hw.1 v (t2 v g)
  · rw [mlist33]
    simp only [List.cons_append, List.nil_append, List.count_append, List.count_cons, List.count_reverse, List.count_nil]
    omega
theorem Rot3 {C : List Nat} {a b d : Nat} {X Y W : List Nat} (h : Rot C (a :: X ++ b :: Y ++ d :: W)) : Rot C (b :: Y ++ d :: W ++ a :: X) := by
  have h1 : Rot C ((a :: X) ++ (b :: Y ++ d :: W)) := by simpa using h
  exact Rot_sw h1
/-- three common contacts -/
theorem trip_mod {F : xG} (hs : ∀ x y, F x y = F y x) {C : List Nat} (hC : cyl C) (hCF : ∀ q ∈ dts C, F q.1 q.2 = true) {Au Aw : Nat → Bool} (hu : SIDE F C Au) (hw : SIDE F C Aw) (hdis : ∀ v, Au v = true → Aw v = true → False) {p q : Nat} (hp : Au p = true) (hq : Aw q = true) (hpq : F p q = true)
    {A B : Nat → Bool} (hA : ∀ v ∈ C, A v = true → att F Au v) (hB : ∀ v ∈ C, B v = true → att F Aw v) (h : trip C A B) : (∃ br M, MOD F 6 P33 br M) ∨ ∃ br M, MOD F 5 P5 br M := by
  obtain ⟨a, X, b, Y, d, W, hR, ⟨a1, a2, a3⟩, b1, b2, b3⟩ := h
  have hm : ∀ v, v ∈ a :: X ++ b :: Y ++ d :: W → v ∈ C := fun v hv => hR.1.mem_iff.mp hv
  have ua := hA a (hm a (by simp)) a1
  have ub := hA b (hm b (by simp)) a2
  have ud := hA d (hm d (by simp)) a3
  have wa := hB a (hm a (by simp)) b1
  have wb := hB b (hm b (by simp)) b2
  have wd := hB d (hm d (by simp)) b3
  have hR2 := Rot3 hR
  have hR3 := Rot3 hR2
  have hdis2 : ∀ v, Aw v = true → Au v = true → False := fun v h1 h2 => hdis v h2 h1
  have hqp : F q p = true := by rw [hs]; exact hpq
  rcases QUAD_ex hs hu ua ub ud hp with ⟨s, La, Lb, Ld, Lp, s1, s2, ⟨s3, s4, s5⟩, s6, s7⟩ | ⟨s, h, L1, L2, L3, L4, L5, hf | hf | hf⟩
  · rcases QUAD_ex hs hw wa wb wd hq with ⟨t, Ma, Mb, Md, Mp, t1, t2, ⟨t3, t4, t5⟩, t6, t7⟩ | ⟨s, h, L1, L2, L3, L4, L5, hf | hf | hf⟩
    · right
      have hfull : allF F (a :: X ++ b :: Y ++ d :: W ++ [a]) := fun e he => hCF e ((hR.2 e).mp (by
        show e ∈ pd (a :: (X ++ b :: Y ++ d :: W) ++ [a])
        simpa using he))
      have f1 : allF F ((a :: X) ++ b :: (Y ++ d :: (W ++ [a]))) := by simpa using hfull
      have f2 : allF F ((b :: Y) ++ d :: (W ++ [a])) := by simpa using allF_right f1
      have f3 := allF_right f2
      have rev : ∀ {x y : Nat} {l : List Nat}, allF F (x :: l ++ [y]) → allF F (y :: l.reverse ++ [x]) := fun {x y l} hl => by
        have := allF_rev hs hl
        simpa using this
      have hN : ((a :: X ++ b :: Y ++ d :: W) ++ (s :: La ++ Lb ++ Ld ++ Lp) ++ (t :: Ma ++ Mb ++ Md ++ Mp)).Nodup := by
        refine List.nodup_append.mpr ⟨List.nodup_append.mpr ⟨hR.1.nodup_iff.mpr hC.1, s1, fun x hx y hy e => ?_⟩, t1, fun x hx y hy e => ?_⟩
        · subst e
          have h1 := s2 x hy
          rw [hu.2.1 x (hm x hx)] at h1
          cases h1
        · subst e
          have h1 := t2 x hy
          rcases List.mem_append.mp hx with g | g
          · rw [hw.2.1 x (hm x g)] at h1; cases h1
          · exact hdis x (s2 x g) h1
      refine ⟨_, _, MOD5 (a := a) (b := b) (c := d) (d := s) (e := t) (l0 := X) (l1 := W.reverse) (l2 := La.reverse) (l3 := Ma.reverse) (l4 := Y) (l5 := Lb.reverse) (l6 := Mb.reverse) (l7 := Ld.reverse) (l8 := Md.reverse) (l9 := Lp ++ Mp.reverse) hN (fun v hv => ?_) (fun c => ?_) (allF_left f1) (rev f3) (rev s3) (rev t3) (allF_left f2) (rev s4) (rev t4) (rev s5) (rev t5) (link hs s6 s7 t6 t7 hpq)⟩
      · rcases List.mem_append.mp hv with g | g
        · rcases List.mem_append.mp g with g | g
          · exact hC.2.2 v (hm v g)
          · exact hu.1 v (s2 v g)
        · exact hw.1 v (t2 v g)
      · rw [mlist5]
        simp only [List.cons_append, List.nil_append, List.count_append, List.count_cons, List.count_reverse, List.count_nil]
        omega
    · exact Or.inl (fork_33 hs hC hCF hw hu hdis2 hp hqp hR hf ub ud)
    · exact Or.inl (fork_33 hs hC hCF hw hu hdis2 hp hqp hR2 hf ud ua)
    · exact Or.inl (fork_33 hs hC hCF hw hu hdis2 hp hqp hR3 hf ua ub)
  · exact Or.inl (fork_33 hs hC hCF hu hw hdis hq hpq hR hf wb wd)
  · exact Or.inl (fork_33 hs hC hCF hu hw hdis hq hpq hR2 hf wd wa)
  · exact Or.inl (fork_33 hs hC hCF hu hw hdis hq hpq hR3 hf wa wb)
