/-! the run of the embedding ends with all placed where the block has a weak family -/
theorem filt_two {α : Type} {f : α → Bool} : ∀ {l : List α}, 2 ≤ (l.filter f).length → ∃ (i j : Nat) (x y : α), i ≠ j ∧ l[i]? = some x ∧ l[j]? = some y ∧ f x = true ∧ f y = true
  | [], h => by simp at h
  | a :: t, h => by
    cases ha : f a with
    | true =>
      rw [List.filter_cons, ha] at h
      simp only [if_true, List.length_cons] at h
      have : (t.filter f) ≠ [] := fun e => by rw [e] at h; simp at h
      obtain ⟨y, hy⟩ := List.exists_mem_of_ne_nil _ this
      obtain ⟨h1, h2⟩ := List.mem_filter.mp hy
      obtain ⟨j, hj⟩ := List.getElem?_of_mem h1
      exact ⟨0, j + 1, a, y, by omega, rfl, hj, ha, h2⟩
    | false =>
      rw [List.filter_cons, ha] at h
      obtain ⟨i, j, x, y, h1, h2, h3, h4, h5⟩ := filt_two (l := t) (by simpa using h)
      exact ⟨i + 1, j + 1, x, y, by omega, h2, h3, h4, h5⟩
theorem filt_one {α : Type} {f : α → Bool} : ∀ {l : List α} {i j : Nat} {x y : α}, (l.filter f).length = 1 → l[i]? = some x → l[j]? = some y → f x = true → f y = true → i = j
  | [], i, _, _, _, _, h, _, _, _ => by simp at h
  | a :: t, i, j, x, y, h, hi, hj, hx, hy => by
    cases ha : f a with
    | true =>
      rw [List.filter_cons, ha] at h
      simp only [if_true, List.length_cons] at h
      have h0 : t.filter f = [] := List.length_eq_zero_iff.mp (by omega)
      have no : ∀ (k : Nat) (z : α), t[k]? = some z → f z = true → False := fun k z hk hz => by
        have := List.mem_filter.mpr ⟨List.mem_of_getElem? hk, hz⟩
        rw [h0] at this
        cases this
      cases i with
      | zero =>
        cases j with
        | zero => rfl
        | succ j => exact (no j y (by simpa using hj) hy).elim
      | succ i => exact (no i x (by simpa using hi) hx).elim
    | false =>
      rw [List.filter_cons, ha] at h
      cases i with
      | zero =>
        have : a = x := by simpa using hi
        rw [this, hx] at ha; cases ha
      | succ i =>
        cases j with
        | zero =>
          have : a = y := by simpa using hj
          rw [this, hy] at ha; cases ha
        | succ j =>
          have := filt_one (l := t) (i := i) (j := j) (x := x) (y := y) (by simpa using h) (by simpa using hi) (by simpa using hj) hx hy
          omega
theorem onF_mem {L : List (List Nat)} {j v : Nat} {f : List Nat} (hf : L[j]? = some f) : onF L j v ↔ v ∈ f := by
  unfold onF
  rw [FZ_at hf]
  constructor
  · rintro ⟨y, hy⟩; exact (eS_mem hy).1
  · intro h
    obtain ⟨y, hy⟩ := dts_ex h
    exact ⟨y, eS_iff.mpr (Or.inl hy)⟩
theorem EXT_start {G : xG} {S : Nat → Bool} (hb : BIC G S) {c : List Nat} (h : c.Nodup) (h3 : 3 ≤ c.length) (h10 : ∀ z ∈ c, z < 10) (hG : ∀ q ∈ dts c, G q.1 q.2 = true) (hp : PW G) : EXT G (eSQ c) [c, c.reverse] := by
  obtain ⟨m, Z, hF⟩ := PW_FS hp
  obtain ⟨U, hU⟩ := hF.2.2.1 _ (ev_eS hb.1 h h3 h10 hG)
  refine ⟨m, Z, fun i => if U i = true then 0 else 1, hF, fun i _ => ?_, fun j hj => ?_⟩
  · dsimp only
    show _ < 2
    split <;> omega
  · have h2 : j < 2 := hj
    rcases (by omega : j = 0 ∨ j = 1) with rfl | rfl
    · show eSQ c = _
      rw [hU]
      refine sU_ext fun i _ => ?_
      show U i = decide ((if U i = true then 0 else 1) = 0)
      rw [Bool.eq_iff_iff, decide_eq_true_eq]
      cases h : U i <;> simp
    · show eSQ c.reverse = _
      rw [eS_rev, hU, ← sU_compl hF.2.1]
      refine sU_ext fun i _ => ?_
      show (!U i) = decide ((if U i = true then 0 else 1) = 1)
      rw [Bool.eq_iff_iff, decide_eq_true_eq]
      cases h : U i <;> simp
theorem chs_case {faces : List (List Nat)} {l : List xFr} (hn0 : ∀ q ∈ l, nfit q.2 faces ≠ 0) (hsome : l ≠ []) : ∃ q, chs faces l = some q ∧ (nfit q.2 faces = 1 ∨ ∀ q' ∈ l, nfit q'.2 faces ≠ 1) := by
  have hno : ¬ (l.any (fun q => Nat.beq (nfit q.2 faces) 0)) = true := fun hany => by
    obtain ⟨q, hq, h1⟩ := List.any_eq_true.mp hany
    exact hn0 q hq (Nat.eq_of_beq_eq_true h1)
  unfold chs
  rw [if_neg hno]
  cases hf : l.find? (fun q => Nat.beq (nfit q.2 faces) 1) with
  | some q =>
    have h1 := List.find?_some hf
    exact ⟨q, rfl, Or.inl (Nat.eq_of_beq_eq_true h1)⟩
  | none =>
    cases l with
    | nil => exact absurd rfl hsome
    | cons q t =>
      refine ⟨q, rfl, Or.inr fun q' hq' e => ?_⟩
      have h1 := List.find?_eq_none.mp hf q' hq'
      exact h1 (by rw [e]; rfl)
section
variable {G : xG} {S : Nat → Bool}
/-- a component's path runs through it -/
theorem pth_in (hb : BIC G S) (hS : ∀ v, S v = true → v < 10) {P : xG} {PV : Nat → Bool} (hPS : ∀ v, PV v = true → S v = true) (h2 : ∃ y z, y ≠ z ∧ PV y = true ∧ PV z = true) {q : xFr} (hq : FOK G S P PV q) {u w : Nat} {inn : List Nat} (hp : PTH G S P PV q u inn w) (h0 : q.1 ≠ 0) : ∀ x ∈ inn, tb q.1 x = true := by
  rcases hq with ⟨e, _⟩ | ⟨x, hx, hSx, hPx, e1, e2⟩
  · exact absurd e h0
  · obtain ⟨hD, hC, _⟩ := FOK_cmp (G := G) hS hPS hSx hPx e1 e2
    obtain ⟨y, z, y1, z1, yz, yc, zc⟩ := ctc_two hb hx hSx hPx (fun v hv => ⟨hPS v hv, hS v (hPS v hv)⟩) h2
    rw [← hC] at yc zc
    obtain ⟨p1, p2, p3, p4, p5, p6, p7, p8, p9, p10, p11, p12⟩ := hp
    have hlow : u < 10 ∧ tb q.2 u = true := ⟨p3, p6⟩
    have hT : ∃ t, t < 10 ∧ (fun v => tb q.2 v && !decide (v = u)) t = true ∧ ctc G PV (cmp G S PV x) t = true := by
      by_cases e : y = u
      · exact ⟨z, z1, by simp [zc]; omega, by rw [← hC]; exact zc⟩
      · exact ⟨y, y1, by simp [yc, e], by rw [← hC]; exact yc⟩
    have hc8 : cnt (cmp G S PV x) 10 ≤ 8 := by
      obtain ⟨a1, a2, a12, ha1, ha2⟩ := h2
      have q1 := hS a1 (hPS a1 ha1)
      have q2 := hS a2 (hPS a2 ha2)
      have n1 : cmp G S PV x a1 = false := by
        cases h : cmp G S PV x a1 with
        | false => rfl
        | true => rw [(cmp_in h).2] at ha1; cases ha1
      have n2 : cmp G S PV x a2 = false := by
        cases h : cmp G S PV x a2 with
        | false => rfl
        | true => rw [(cmp_in h).2] at ha2; cases ha2
      have k := cnt_add1 q1 n1
      have k2 := cnt_add1 (S := fun v => cmp G S PV x v || decide (v = a1)) q2 (by simp [n2]; omega)
      have k3 := cnt_le (fun v => (cmp G S PV x v || decide (v = a1)) || decide (v = a2)) 10
      omega
    obtain ⟨f1, f2, f3⟩ := ctc_path hb hx (T := fun v => tb q.2 v && !decide (v = u)) hlow.1 (by rw [← hC]; exact hlow.2) hT hc8
    obtain ⟨inn', t, g1, g2, g3, g4, g5, g6, g7⟩ := dsc_pok hb.1 f3
    have hpth : pth G q = u :: inn' ++ [t] := by
      unfold pth
      rw [if_neg h0, ← p2, hD, g1]
      rfl
    have heq : inn = inn' := by
      have e := p1.symm.trans hpth
      have e2 : (u :: inn ++ [w]).tail.dropLast = (u :: inn' ++ [t]).tail.dropLast := by rw [e]
      simpa using e2
    intro v hv
    rw [hD]
    rw [heq] at hv
    exact (g5 v hv).2
theorem ends_in {u w : Nat} {inn : List Nat} (hne : inn ≠ []) {e : xPr} (he : e ∈ pd (u :: inn ++ [w])) : e.1 ∈ inn ∨ e.2 ∈ inn := by
  obtain ⟨i1, I1, hi⟩ : ∃ a D, inn = a :: D := by
    cases inn with
    | nil => exact absurd rfl hne
    | cons a D => exact ⟨a, D, rfl⟩
  obtain ⟨D, l, hDl⟩ := snoc_ex i1 I1
  rw [← hi] at hDl
  have e0 : u :: inn ++ [w] = u :: i1 :: (I1 ++ [w]) := by rw [hi]; rfl
  rw [e0, pd_cons2] at he
  rcases List.mem_cons.mp he with h | h
  · right
    rw [h, hi]
    exact List.mem_cons_self
  · have e3 : i1 :: (I1 ++ [w]) = D ++ l :: [w] := by
      have : inn ++ [w] = D ++ l :: [w] := by rw [hDl]; simp
      rw [hi] at this
      exact this
    rw [e3, pd_app] at h
    rcases List.mem_append.mp h with h | h
    · left
      have := (pd_mem h).1
      rw [← hDl] at this
      exact this
    · left
      have : e = (l, w) := by simpa [pd] using h
      rw [this, hDl]
      simp
theorem fE_sym {P : xG} {q : xFr} (hsG : ∀ x y, G x y = G y x) (hsP : ∀ x y, P x y = P y x) {x y : Nat} (h : fE G P q x y = true) : fE G P q y x = true := by
  obtain ⟨h1, h2, h3⟩ := fE_iff.mp h
  refine fE_iff.mpr ⟨by rw [hsG]; exact h1, by rw [hsP]; exact h2, ?_⟩
  rcases h3 with ⟨a, b, c⟩ | ⟨a, b⟩
  · exact Or.inl ⟨a, c, b⟩
  · exact Or.inr ⟨a, b.symm⟩
theorem pth_fE {P : xG} {PV : Nat → Bool} {q : xFr} {u w : Nat} {inn : List Nat} (hp : PTH G S P PV q u inn w) (hin : q.1 ≠ 0 → ∀ x ∈ inn, tb q.1 x = true) (hsG : ∀ x y, G x y = G y x) (hsP : ∀ x y, P x y = P y x) : ∀ x y, ePQ (u :: inn ++ [w]) x y = true → fE G P q x y = true := by
  obtain ⟨p1, p2, p3, p4, p5, p6, p7, p8, p9, p10, p11, p12⟩ := hp
  have main : ∀ x y, (x, y) ∈ pd (u :: inn ++ [w]) → fE G P q x y = true := fun x y hxy => by
    have hp2 := p10 _ hxy
    refine fE_iff.mpr ⟨hp2.1, hp2.2, ?_⟩
    by_cases h0 : q.1 = 0
    · refine Or.inl ⟨h0, ?_⟩
      rw [p11 h0] at hxy
      have : (x, y) = (u, w) := by simpa [pd] using hxy
      cases this
      exact ⟨p6, p7⟩
    · refine Or.inr ⟨h0, ?_⟩
      have hne : inn ≠ [] := fun e => by have := (p12 h0).1; rw [e] at this; simp at this
      rcases ends_in hne hxy with e | e
      · exact Or.inl (hin h0 x e)
      · exact Or.inr (hin h0 y e)
  intro x y h
  rcases eP_iff.mp h with h | h
  · exact main x y h
  · exact fE_sym hsG hsP (main y x h)
/-- each edge that isn't placed is of a fragment of the list, whose contacts it has -/
theorem frs_cov (hb : BIC G S) (hS : ∀ v, S v = true → v < 10) {P : xG} {PV : Nat → Bool} (hsP : ∀ x y, P x y = P y x) (hPS : ∀ v, PV v = true → S v = true) {x y : Nat} (hG : G x y = true) (hP : P x y = false) : ∃ q ∈ frs G S P PV 100, ∀ a, ctE G S PV x y a → tb q.2 a = true := by
  have key : ∀ a b, a < b → b < 10 → G a b = true → P a b = false → ∃ q ∈ frs G S P PV 100, (PV a = true → PV b = true → q = (0, mk (two a b))) ∧ ((PV a && PV b) = false → q.1 = mk (cmp G S PV (bif PV a then b else a))) := by
    intro a b hab hb10 e1 e2
    refine pfold_mono (f := frAdd G S P PV) (s := []) (fun l => ∃ q ∈ l, (PV a = true → PV b = true → q = (0, mk (two a b))) ∧ ((PV a && PV b) = false → q.1 = mk (cmp G S PV (bif PV a then b else a)))) (fun l c d _ _ ⟨q, hq, h1⟩ => ?_) (n := 10 * a + b + 1) ?_ 100 (by omega) (Nat.le_refl _)
    · refine ⟨q, ?_, h1⟩
      unfold frAdd
      split
      · split
        · exact List.mem_append_left _ hq
        · split
          · exact hq
          · exact List.mem_append_left _ hq
      · exact hq
    · rw [pfold_next hb10 hab]
      unfold frAdd
      rw [e1, e2]
      simp only [Bool.not_false, Bool.and_self, if_true]
      cases hp : (PV a && PV b) with
      | true =>
        rw [if_pos rfl]
        exact ⟨_, List.mem_append_right _ (List.mem_singleton.mpr rfl), fun _ _ => rfl, fun h => by cases h⟩
      | false =>
        rw [if_neg (by decide)]
        split
        · next hany =>
          obtain ⟨q, hq, h1⟩ := List.any_eq_true.mp hany
          refine ⟨q, hq, fun ha hb => ?_, fun _ => of_decide_eq_true h1⟩
          rw [ha, hb] at hp; cases hp
        · refine ⟨_, List.mem_append_right _ (List.mem_singleton.mpr rfl), fun ha hb => ?_, fun _ => rfl⟩
          rw [ha, hb] at hp; cases hp
  -- for a pair in order
  have main : ∀ a b, a < b → b < 10 → G a b = true → P a b = false → ∃ q ∈ frs G S P PV 100, ∀ c, ctE G S PV a b c → tb q.2 c = true := by
    intro a b hab hb10 e1 e2
    obtain ⟨q, hq, h1, h2⟩ := key a b hab hb10 e1 e2
    refine ⟨q, hq, fun c hc => ?_⟩
    obtain ⟨ha10, _, hSa, hSb⟩ := hb.2.2.1 a b e1
    cases hp : (PV a && PV b) with
    | true =>
      rw [Bool.and_eq_true] at hp
      rw [h1 hp.1 hp.2]
      show tb (mk (two a b)) c = true
      rw [two_mk ha10 hb10]
      rcases hc with ⟨_, _, h⟩ | ⟨h, _⟩ | ⟨h, _⟩
      · exact two_iff.mpr h
      · rw [hp.1] at h; cases h
      · rw [hp.2] at h; cases h
    | false =>
      have hq1 := h2 hp
      -- the end that isn't placed
      have hx : ∃ x, x < 10 ∧ S x = true ∧ PV x = false ∧ (bif PV a then b else a) = x ∧ (ctE G S PV a b c → ctc G PV (cmp G S PV x) c = true) := by
        cases ha : PV a with
        | true =>
          have hbf : PV b = false := by rw [ha] at hp; exact hp
          refine ⟨b, hb10, hSb, hbf, rfl, fun h => ?_⟩
          rcases h with ⟨_, h, _⟩ | ⟨h, _⟩ | ⟨_, h⟩
          · rw [hbf] at h; cases h
          · rw [ha] at h; cases h
          · exact h
        | false =>
          refine ⟨a, ha10, hSa, ha, rfl, fun h => ?_⟩
          rcases h with ⟨h, _⟩ | ⟨_, h⟩ | ⟨h1, h⟩
          · rw [ha] at h; cases h
          · exact h
          · have hcc : cmp G S PV a b = true := cmp_step ha10 hb10 (cmp_self hSa ha) e1 hSb h1
            rw [ctc_ext (cmp_same hb.1 ha10 hb10 hcc)] at h
            exact h
      obtain ⟨x, x1, x2, x3, x4, x5⟩ := hx
      rw [x4] at hq1
      have hmk : tb (mk (cmp G S PV x)) = cmp G S PV x := tb_mk_fun fun v h => hS v (cmp_in h).1
      rcases frs_ok hb 100 (Nat.le_refl _) q hq with ⟨h0, _⟩ | ⟨x', y1, y2, y3, y4, y5⟩
      · exfalso
        have := cmp_self (H := G) x2 x3
        rw [← hmk, ← hq1, h0, tb_0] at this
        cases this
      · obtain ⟨hD, hC, _⟩ := FOK_cmp (G := G) hS hPS y2 y3 y4 y5
        rw [hC]
        have heq : ∀ v, v < 10 → cmp G S PV x' v = cmp G S PV x v := fun v _ => by rw [← hD, hq1, hmk]
        rw [ctc_ext heq]
        exact x5 hc
  obtain ⟨hx10, hy10, _⟩ := hb.2.2.1 x y hG
  rcases Nat.lt_trichotomy x y with h | h | h
  · exact main x y h hy10 hG hP
  · rw [h, hb.2.1] at hG; cases hG
  · obtain ⟨q, hq, hc⟩ := main y x h hx10 (by rw [hb.1]; exact hG) (by rw [hsP]; exact hP)
    exact ⟨q, hq, fun a ha => hc a (ctE_sym ha)⟩
/-- all that holds in a run of a block with a weak family -/
def EOX (G : xG) (S : Nat → Bool) (s : xSg) : Prop := EOK G S s ∧ GR s.1 s.2.2.1 ∧ BIC s.1 s.2.1 ∧ EXT G s.1 s.2.2.1
theorem EOX_step (hb : BIC G S) (hS : ∀ v, S v = true → v < 10) {s : xSg} (h : EOX G S s) (hl : s.2.2.2 < ec G) : ∃ s1, estep G S s = some s1 ∧ EOX G S s1 ∧ s.2.2.2 < s1.2.2.2 := by
  obtain ⟨hE, hG, hB, hX0⟩ := id h
  obtain ⟨hI, hL2⟩ := id hE
  obtain ⟨x0', y0', hxy, hnP⟩ := EOK_left hb hE hl
  have hsome := frs_some (PV := s.2.1) hb hI.1 ⟨x0', y0', hxy, hnP⟩
  obtain ⟨m, Z, c, hX⟩ := hX0
  -- contacts of a fragment lie on the face of its class
  have hfit : ∀ q, FOK G S s.1 s.2.1 q → ∃ j f, s.2.2.1[j]? = some f ∧ fitf q.2 f = true ∧ ∀ x y i, fE G s.1 q x y = true → i < m → Z i x y = true → c i = j := fun q hq => by
    obtain ⟨j, hj, h1, h2⟩ := EXS_frag hb hS hB hI hL2 hX hq
    obtain ⟨f, hf⟩ : ∃ f, s.2.2.1[j]? = some f := ⟨s.2.2.1[j], List.getElem?_eq_getElem hj⟩
    exact ⟨j, f, hf, fitf_iff.mpr fun v hv ht => (onF_mem hf).mp (h2 v hv ht), h1⟩
  have hn0 : ∀ q ∈ frs G S s.1 s.2.1 100, nfit q.2 s.2.2.1 ≠ 0 := fun q hq e => by
    obtain ⟨j, f, hf, hff, _⟩ := hfit q (frs_ok hb 100 (Nat.le_refl _) q hq)
    have := List.mem_filter.mpr ⟨List.mem_of_getElem? hf, hff⟩
    unfold nfit at e
    rw [List.length_eq_zero_iff.mp e] at this
    cases this
  -- one is chosen
  obtain ⟨q, hq, hcase⟩ := chs_case hn0 hsome
  obtain ⟨hmem, _⟩ := chs_mem hq
  have hFOK := frs_ok hb 100 (Nat.le_refl _) q hmem
  obtain ⟨u, inn, w, f, A, B, as, bs, t1, t2, t3, t4, t5, t6, t7, t8, t9⟩ := estep_ok hb hS hE hq
  obtain ⟨p1, p2, p3, p4, p5, p6, p7, p8, p9, p10, p11, p12⟩ := id t1
  have hfite : fitf q.2 f = true := by
    obtain ⟨f', hf', hff, _⟩ := ffit_ok (hn0 q hmem)
    rw [t2] at hf'
    cases hf'
    exact hff
  have hcl : ffit q.2 s.2.2.1 < s.2.2.1.length := (List.getElem?_eq_some_iff.mp t2).1
  have hPS : ∀ v, s.2.1 v = true → S v = true := hI.2.2.1
  have hedges := pth_fE t1 (fun h0 => pth_in hb hS hPS (EOK_two hE) hFOK t1 h0) hb.1 hI.1
  -- a family in which the path has the class of the face that is split
  obtain ⟨Z', c', hX', hcls'⟩ : ∃ Z' c', EXS G s.1 s.2.2.1 m Z' c' ∧ ∀ x y i, ePQ (u :: inn ++ [w]) x y = true → i < m → Z' i x y = true → c' i = ffit q.2 s.2.2.1 := by
    obtain ⟨j, g, hg, hgf, hcj⟩ := hfit q hFOK
    by_cases hj : j = ffit q.2 s.2.2.1
    · exact ⟨Z, c, hX, fun x y i he hi hZ => by rw [← hj]; exact hcj x y i (hedges x y he) hi hZ⟩
    · have hno1 : ∀ q' ∈ frs G S s.1 s.2.1 100, nfit q'.2 s.2.2.1 ≠ 1 := by
        rcases hcase with h1 | h1
        · exact absurd (filt_one h1 hg t2 hgf hfite) hj
        · exact h1
      have hjl := (List.getElem?_eq_some_iff.mp hg).1
      have hSW : SW G S s.1 s.2.1 s.2.2.1 s.2.2.2 m Z c (ffit q.2 s.2.2.1) j := ⟨hb, hS, hB, hI, hG, hX, ⟨hcl, hjl, fun e => hj e.symm⟩, fun x y hGxy hPxy => by
        obtain ⟨q', hq', hct⟩ := frs_cov hb hS hI.1 hPS hGxy hPxy
        have h2 : 2 ≤ nfit q'.2 s.2.2.1 := by
          have := hn0 q' hq'
          have := hno1 q' hq'
          omega
        obtain ⟨j1, j2, f1, f2, n12, g1, g2, g3, g4⟩ := filt_two h2
        have h10 : ∀ a, ctE G S s.2.1 x y a → a < 10 := fun a ha => hS a (hPS a (ctE_PV ha))
        exact ⟨j1, j2, (List.getElem?_eq_some_iff.mp g1).1, (List.getElem?_eq_some_iff.mp g2).1, n12, fun a ha => ⟨(onF_mem g1).mpr (fitf_iff.mp g3 a (h10 a ha) (hct a ha)), (onF_mem g2).mpr (fitf_iff.mp g4 a (h10 a ha) (hct a ha))⟩⟩⟩
      obtain ⟨hX2, hside⟩ := SWAP hSW
      refine ⟨_, _, hX2, fun x y i he hi hZ => ?_⟩
      have hf := fE_iff.mp (hedges x y he)
      have hxX : xX G S s.1 s.2.1 s.2.2.1 m Z c (ffit q.2 s.2.2.1) j x y := by
        refine ⟨hf.2.1, ?_, fun a ha => ?_⟩
        · obtain ⟨k, hk, hkZ⟩ := SW_cov hSW hf.1
          exact ⟨k, hk, hkZ, Or.inr (hcj x y k (hedges x y he) hk hkZ)⟩
        · have ha10 : a < 10 := hS a (hPS a (ctE_PV ha))
          have hqa : tb q.2 a = true := by
            rcases hFOK with ⟨h0, a', b', _, _, _, _, e3, e4, e5⟩ | ⟨x1, hx1, hSx, hPx, e1, e2⟩
            · rcases hf.2.2 with ⟨_, f1, f2⟩ | ⟨n, _⟩
              · have hmk : tb q.2 = two a' b' := by rw [e5]; exact two_mk (by omega) (by assumption)
                have hxP : s.2.1 x = true := by
                  rw [hmk] at f1
                  rcases two_iff.mp f1 with e | e <;> rw [e] <;> assumption
                have hyP : s.2.1 y = true := by
                  rw [hmk] at f2
                  rcases two_iff.mp f2 with e | e <;> rw [e] <;> assumption
                rcases ha with ⟨_, _, e | e⟩ | ⟨e, _⟩ | ⟨e, _⟩
                · rw [e]; exact f1
                · rw [e]; exact f2
                · rw [hxP] at e; cases e
                · rw [hyP] at e; cases e
              · exact absurd h0 n
            · obtain ⟨hD, hC, h0⟩ := FOK_cmp (G := G) hS hPS hSx hPx e1 e2
              rw [hC]
              have un : ∀ x y, G x y = true → cmp G S s.2.1 x1 x = true → ctE G S s.2.1 x y a → ctc G s.2.1 (cmp G S s.2.1 x1) a = true := fun x y hg hDx ha => by
                have hx10 := ((BIC_gok hb).2.2 x y hg).1
                have := (ctE_un hSW (cmp_in hDx).2 hg).mp ha
                rw [ctc_ext (cmp_same hb.1 hx1 hx10 hDx)] at this
                exact this
              rcases hf.2.2 with ⟨n, _⟩ | ⟨_, f1 | f1⟩
              · exact absurd n h0
              · rw [hD] at f1
                exact un x y hf.1 f1 ha
              · rw [hD] at f1
                exact un y x (by rw [hb.1]; exact hf.1) f1 (ctE_sym ha)
          exact ⟨(onF_mem t2).mpr (fitf_iff.mp hfite a ha10 hqa), (onF_mem hg).mpr (fitf_iff.mp hgf a ha10 hqa)⟩
      -- it was of the class j
      have hni := hside x y i hxX hi hZ
      rcases hni with ⟨a1, a2⟩ | ⟨a1, a2⟩
      · exfalso
        have hg0 : ¬g1 G S s.1 s.2.1 s.2.2.1 m Z c (ffit q.2 s.2.2.1) j x y := fun e => e.2 hxX
        rw [Zs_x hSW hg0] at hZ
        exact hj ((hcj x y i (hedges x y he) hi hZ).symm.trans a1)
      · exact a2
  obtain ⟨l1, l2⟩ := list_at t2
  have hlen : (s.2.2.1.take (ffit q.2 s.2.2.1)).length = ffit q.2 s.2.2.1 := by rw [List.length_take]; omega
  have hI2 := hI
  have hG2 := hG
  have hX2 := hX'
  rw [l1, t3] at hI2 hG2 hX2
  have hAB : u :: B ++ A = u :: as ++ w :: bs := by rw [List.cons_append, t6]; rfl
  have hV : ∀ v, s.2.1 v = true → v < 10 := fun v hv => hS v (hPS v hv)
  have hps10 : ∀ p ∈ inn, p < 10 := fun p hp => (p9 p hp).1
  have hpe : ∀ e ∈ pd (u :: inn ++ [w]), G e.1 e.2 = true ∧ s.1 e.1 e.2 = false := p10
  have huf : u ∈ f := by rw [t3]; simp
  have hwf : w ∈ f := by
    have : w ∈ B ++ A := by rw [t6]; simp
    rw [t3]
    simp only [List.mem_append, List.mem_cons] at this ⊢
    rcases this with e | e
    · exact Or.inr (Or.inr e)
    · exact Or.inl e
  have hfm := List.mem_of_getElem? t2
  have hfPV := (hI.2.2.2.1 f hfm).2.2
  have hnod : (u :: inn ++ [w]).Nodup := by
    have h1 : (u :: inn).Nodup := List.nodup_cons.mpr ⟨(fun e => by
      have := (p9 u e).2.1
      rw [hfPV u huf] at this
      cases this), p8⟩
    refine List.nodup_append.mpr ⟨h1, by simp, fun a ha b hb2 e => ?_⟩
    rw [List.mem_singleton] at hb2
    subst hb2; subst e
    rcases List.mem_cons.mp ha with e | e
    · exact p5 e.symm
    · have := (p9 a e).2.1
      rw [hfPV a hwf] at this
      cases this
  refine ⟨_, t8, ⟨t9, ?_, BIC_ear hB hV hnod (hfPV u huf) (hfPV w hwf) hps10, ?_⟩, ?_⟩
  · dsimp only
    rw [l2]
    exact GR_step hb.1 hS hI2 hG2 hAB p8 p9 hpe
  · dsimp only
    rw [l2]
    obtain ⟨c2, hc2, _⟩ := EXS_3 hb hS hI2 hG2 hX2 hAB p8 p9 hpe (by rw [hlen]; exact hcls')
    exact ⟨m, _, c2, hc2⟩
  · dsimp only; omega
theorem EOX_run (hb : BIC G S) (hS : ∀ v, S v = true → v < 10) : ∀ (n : Nat) (s : xSg), EOX G S s → ec G ≤ s.2.2.2 + n → EOX G S (erun G S (ec G) n s) ∧ (erun G S (ec G) n s).2.2.2 = ec G
  | 0, s, h, hn => by
    have := EOK_le hb h.1
    exact ⟨h, by show s.2.2.2 = _; omega⟩
  | n + 1, s, h, hn => by
    unfold erun
    split
    · next hlt =>
      obtain ⟨s1, h1, h2, h3⟩ := EOX_step hb hS h hlt
      rw [h1]
      exact EOX_run hb hS n s1 h2 (by omega)
    · next hlt =>
      have := EOK_le hb h.1
      exact ⟨h, by omega⟩
/-- what holds in any run -/
def EOG (G : xG) (S : Nat → Bool) (s : xSg) : Prop := EOK G S s ∧ GR s.1 s.2.2.1 ∧ BIC s.1 s.2.1
theorem EOG_step (hb : BIC G S) (hS : ∀ v, S v = true → v < 10) {s s1 : xSg} (h : EOG G S s) (he : estep G S s = some s1) : EOG G S s1 ∧ s.2.2.2 < s1.2.2.2 := by
  obtain ⟨hE, hG, hB⟩ := id h
  obtain ⟨hI, hL2⟩ := id hE
  obtain ⟨q, hq⟩ : ∃ q, chs s.2.2.1 (frs G S s.1 s.2.1 100) = some q := by
    cases hc : chs s.2.2.1 (frs G S s.1 s.2.1 100) with
    | some q => exact ⟨q, rfl⟩
    | none => unfold estep at he; rw [hc] at he; cases he
  obtain ⟨u, inn, w, f, A, B, as, bs, t1, t2, t3, t4, t5, t6, t7, t8, t9⟩ := estep_ok hb hS hE hq
  obtain ⟨p1, p2, p3, p4, p5, p6, p7, p8, p9, p10, p11, p12⟩ := id t1
  rw [he] at t8
  cases t8
  have hcl : ffit q.2 s.2.2.1 < s.2.2.1.length := (List.getElem?_eq_some_iff.mp t2).1
  have hPS : ∀ v, s.2.1 v = true → S v = true := hI.2.2.1
  obtain ⟨l1, l2⟩ := list_at t2
  have hI2 := hI
  have hG2 := hG
  rw [l1, t3] at hI2 hG2
  have hAB : u :: B ++ A = u :: as ++ w :: bs := by rw [List.cons_append, t6]; rfl
  have hV : ∀ v, s.2.1 v = true → v < 10 := fun v hv => hS v (hPS v hv)
  have huf : u ∈ f := by rw [t3]; simp
  have hwf : w ∈ f := by
    have : w ∈ B ++ A := by rw [t6]; simp
    rw [t3]
    simp only [List.mem_append, List.mem_cons] at this ⊢
    rcases this with e | e
    · exact Or.inr (Or.inr e)
    · exact Or.inl e
  have hfPV := (hI.2.2.2.1 f (List.mem_of_getElem? t2)).2.2
  have hnod : (u :: inn ++ [w]).Nodup := by
    have h1 : (u :: inn).Nodup := List.nodup_cons.mpr ⟨(fun e => by
      have := (p9 u e).2.1
      rw [hfPV u huf] at this
      cases this), p8⟩
    refine List.nodup_append.mpr ⟨h1, by simp, fun a ha b hb2 e => ?_⟩
    rw [List.mem_singleton] at hb2
    subst hb2; subst e
    rcases List.mem_cons.mp ha with e | e
    · exact p5 e.symm
    · have := (p9 a e).2.1
      rw [hfPV a hwf] at this
      cases this
  refine ⟨⟨t9, ?_, BIC_ear hB hV hnod (hfPV u huf) (hfPV w hwf) (fun p hp => (p9 p hp).1)⟩, ?_⟩
  · dsimp only
    rw [l2]
    exact GR_step hb.1 hS hI2 hG2 hAB p8 p9 p10
  · dsimp only; omega
theorem EOG_run (hb : BIC G S) (hS : ∀ v, S v = true → v < 10) (k : Nat) : ∀ (n : Nat) (s : xSg), EOG G S s → EOG G S (erun G S k n s)
  | 0, s, h => h
  | n + 1, s, h => by
    unfold erun
    split
    · cases he : estep G S s with
      | none => exact h
      | some s1 => exact EOG_run hb hS k n s1 (EOG_step hb hS h he).1
    · exact h
end
