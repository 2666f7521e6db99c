/-! the cycles of a block -/
theorem pd_map : ∀ (l : List Nat) (a : Nat) (q : xPr), q ∈ pd ((pd (a :: l)).map dn) → ∃ x v y, (x, v) ∈ pd (a :: l) ∧ (v, y) ∈ pd (a :: l) ∧ q = (dn (x, v), dn (v, y))
  | [], a, q, h => by cases h
  | [b], a, q, h => by cases h
  | b :: c :: t, a, q, h => by
    have e : (pd (a :: b :: c :: t)).map dn = dn (a, b) :: dn (b, c) :: (pd (c :: t)).map dn := rfl
    rw [e] at h
    rcases List.mem_cons.mp h with h | h
    · exact ⟨a, b, c, List.mem_cons_self, List.mem_cons_of_mem _ List.mem_cons_self, h⟩
    · obtain ⟨x, v, y, h1, h2, h3⟩ := pd_map (c :: t) b q h
      exact ⟨x, v, y, List.mem_cons_of_mem _ h1, List.mem_cons_of_mem _ h2, h3⟩
theorem dts_map {c : List Nat} {q : xPr} (h : q ∈ dts ((dts c).map dn)) : ∃ x v y, (x, v) ∈ dts c ∧ (v, y) ∈ dts c ∧ q = (dn (x, v), dn (v, y)) := by
  cases c with
  | nil => cases h
  | cons x t =>
    obtain ⟨y, r, hy⟩ : ∃ y r, t ++ [x] = y :: r := snoc_head t x
    have e0 : dts (x :: t) = (x, y) :: pd (y :: r) := by
      show pd (x :: t ++ [x]) = _
      rw [List.cons_append, hy]
      rfl
    have e1 : dts ((dts (x :: t)).map dn) = pd ((pd (x :: (t ++ [x] ++ [y]))).map dn) := by
      have : pd (x :: (t ++ [x] ++ [y])) = dts (x :: t) ++ [(x, y)] := by
        show pd (x :: (t ++ [x] ++ [y])) = pd (x :: t ++ [x]) ++ [(x, y)]
        rw [List.append_assoc]
        exact pd_app (x :: t) x [y]
      rw [this, List.map_append]
      conv => lhs; rw [e0]
      rw [e0]
      rfl
    rw [e1] at h
    obtain ⟨a, v, b, h1, h2, h3⟩ := pd_map _ _ _ h
    have sub : ∀ p : xPr, p ∈ pd (x :: (t ++ [x] ++ [y])) → p ∈ dts (x :: t) := fun p hp => by
      have : pd (x :: (t ++ [x] ++ [y])) = dts (x :: t) ++ [(x, y)] := by
        show pd (x :: (t ++ [x] ++ [y])) = pd (x :: t ++ [x]) ++ [(x, y)]
        rw [List.append_assoc]
        exact pd_app (x :: t) x [y]
      rw [this] at hp
      rcases List.mem_append.mp hp with hp | hp
      · exact hp
      · rw [List.mem_singleton] at hp
        rw [hp, e0]
        exact List.mem_cons_self
    exact ⟨a, v, b, sub _ h1, sub _ h2, h3⟩
/-- the darts of a graph -/
def dS (H : Nat → Nat → Bool) : Nat → Bool := fun d => H (d / 10) (d % 10)
/-- the next dart, by an order around each vertex -/
def fN (N : Nat → Nat → Nat) : Nat → Nat := fun d => 10 * (d % 10) + N (d % 10) (d / 10)
theorem dS_dn {H : Nat → Nat → Bool} {v w : Nat} (hw : w < 10) : dS H (10 * v + w) = H v w := by
  unfold dS
  rw [(dn_div (v := v) hw).1, (dn_div (v := v) hw).2]
theorem fN_dn {N : Nat → Nat → Nat} {v w : Nat} (hw : w < 10) : fN N (10 * v + w) = 10 * w + N w v := by
  unfold fN
  rw [(dn_div (v := v) hw).1, (dn_div (v := v) hw).2]
theorem dn_inj {l : List xPr} (h : ∀ q ∈ l, q.2 < 10) (hn : l.Nodup) : (l.map dn).Nodup := by
  induction l with
  | nil => exact List.nodup_nil
  | cons a t ih =>
    have h1 := List.nodup_cons.mp hn
    rw [List.map_cons]
    refine List.nodup_cons.mpr ⟨fun z => ?_, ih (fun q hq => h q (List.mem_cons_of_mem _ hq)) h1.2⟩
    obtain ⟨b, hb, e⟩ := List.mem_map.mp z
    have ha10 := h a List.mem_cons_self
    have hb10 := h b (List.mem_cons_of_mem _ hb)
    have : b = a := by
      unfold dn at e
      refine Prod.ext ?_ ?_ <;> omega
    rw [this] at hb
    exact h1.1 hb
theorem nxL_of {L : List Nat} (hn : L.Nodup) {x y : Nat} (h : (x, y) ∈ dts L) : nxL L x = y := dts_fun hn (nxL_dts (dts_mem h).1) h
theorem flatMap_uniq {fs : List (List Nat)} (h : (fs.flatMap dts).Nodup) {c d : List Nat} (hc : c ∈ fs) (hd : d ∈ fs) {q : xPr} (h1 : q ∈ dts c) (h2 : q ∈ dts d) : c = d := by
  have hp := (List.pairwise_flatMap.mp h).2
  obtain ⟨i, hi⟩ := List.getElem?_of_mem hc
  obtain ⟨j, hj⟩ := List.getElem?_of_mem hd
  obtain ⟨hi1, hi2⟩ := List.getElem?_eq_some_iff.mp hi
  obtain ⟨hj1, hj2⟩ := List.getElem?_eq_some_iff.mp hj
  rw [List.pairwise_iff_getElem] at hp
  rcases Nat.lt_trichotomy i j with e | e | e
  · exact absurd rfl (hp i j hi1 hj1 e q (by rw [hi2]; exact h1) q (by rw [hj2]; exact h2))
  · subst e
    exact hi2.symm.trans hj2
  · exact absurd rfl (hp j i hj1 hi1 e q (by rw [hj2]; exact h2) q (by rw [hi2]; exact h1))
theorem FAM_block {G : Nat → Nat → Bool} (hg : gok G) {p : xPr} (hp : G p.1 p.2 = true) (hf : bPl G p = bE G p) : ∃ gs, FAM (fN (fun v x => nxL (rtl G p v) x)) (dS (bH G (bS G p))) gs ∧ gs.length + cnt (bS G p) 10 = bE G p + 2 := by
  have hb := bS_bic hg hp
  have h10 := hg.2.2 _ _ hp
  by_cases he : bE G p = 1
  · have hone := bS_one hg hp he
    have ha : bS G p p.1 = true := bS_iff.mpr ⟨h10.1, Bs_a hg hp⟩
    have hbb : bS G p p.2 = true := bS_iff.mpr ⟨h10.2, Bs_b hg hp⟩
    have hne : p.1 ≠ p.2 := fun e => by
      rw [e, hg.2.1] at hp
      cases hp
    have hH : ∀ x y, bH G (bS G p) x y = true ↔ (x = p.1 ∧ y = p.2) ∨ (x = p.2 ∧ y = p.1) := by
      intro x y
      rw [bH_iff, hone, hone, two_iff, two_iff]
      constructor
      · rintro ⟨g1, g2, g3⟩
        have nxy : x ≠ y := fun e => by
          rw [e, hg.2.1] at g1
          cases g1
        rcases g2 with e | e <;> rcases g3 with e2 | e2
        · exact absurd (e.trans e2.symm) nxy
        · exact Or.inl ⟨e, e2⟩
        · exact Or.inr ⟨e, e2⟩
        · exact absurd (e.trans e2.symm) nxy
      · rintro (⟨e, e2⟩ | ⟨e, e2⟩)
        · rw [e, e2]
          exact ⟨hp, Or.inl rfl, Or.inr rfl⟩
        · rw [e, e2]
          exact ⟨by rw [hg.1]; exact hp, Or.inr rfl, Or.inl rfl⟩
    have nx : ∀ v x, bH G (bS G p) v x = true → nxL (rtl G p v) x = x := fun v x hx => by
      have h1 := rtl_sc hg hp hf (nxL_dts ((rtl_mem hg hp hf).mpr hx))
      unfold bSc at h1
      rw [if_pos he] at h1
      rcases h1 with ⟨_, e1, e2⟩ | ⟨_, e1, e2⟩
      · rw [e2, e1]
      · rw [e2, e1]
    have nd : dn (p.1, p.2) ≠ dn (p.2, p.1) := fun e => by
      unfold dn at e
      dsimp only at e
      omega
    refine ⟨[[dn (p.1, p.2), dn (p.2, p.1)]], ⟨fun c hc => ?_, ?_, fun d => ?_, fun c hc q hq => ?_⟩, ?_⟩
    · rw [List.mem_singleton] at hc
      rw [hc]
      simp
    · simp [nd]
    · have e : [[dn (p.1, p.2), dn (p.2, p.1)]].flatten = [dn (p.1, p.2), dn (p.2, p.1)] := rfl
      rw [e]
      unfold dS
      rw [hH]
      simp only [List.mem_cons, List.not_mem_nil, or_false, dn]
      omega
    · rw [List.mem_singleton] at hc
      rw [hc] at hq
      have e : dts [dn (p.1, p.2), dn (p.2, p.1)] = [(dn (p.1, p.2), dn (p.2, p.1)), (dn (p.2, p.1), dn (p.1, p.2))] := rfl
      rw [e] at hq
      simp only [List.mem_cons, List.not_mem_nil, or_false] at hq
      rcases hq with e | e
      · rw [e]
        show fN _ (10 * p.1 + p.2) = 10 * p.2 + p.1
        rw [fN_dn h10.2, nx _ _ ((hH _ _).mpr (Or.inr ⟨rfl, rfl⟩))]
      · rw [e]
        show fN _ (10 * p.2 + p.1) = 10 * p.1 + p.2
        rw [fN_dn h10.1, nx _ _ ((hH _ _).mpr (Or.inl ⟨rfl, rfl⟩))]
    · have e2 : cnt (bS G p) 10 = 2 := by
        rw [cnt_ext (T := fun v => decide (v ∈ [p.1, p.2])) (fun v _ => by rw [hone]; simp [two])]
        exact cnt_list (by simp [hne]) (fun v hv => by
          simp only [List.mem_cons, List.not_mem_nil, or_false] at hv
          rcases hv with e | e
          · rw [e]; exact h10.1
          · rw [e]; exact h10.2)
      rw [e2, he]
      rfl
  · have hEO := bR_ok hg hp he
    have hall := EOK_all hb hEO (by unfold bPl at hf; rw [if_neg he] at hf; exact hf)
    have hE : (bR G p).2.2.2 = bE G p := by
      unfold bPl at hf
      rw [if_neg he] at hf
      exact hf
    obtain ⟨I1, I2, I3, I4, I5, I6, I7, I8, I9⟩ := hEO.1
    have d10 : ∀ q ∈ (bR G p).2.2.1.flatMap dts, q.1 < 10 ∧ q.2 < 10 := fun q hq => by
      have := (I6 q.1 q.2).mp hq
      have := (I2 _ _ this).1
      exact ⟨(hb.2.2.1 _ _ this).1, (hb.2.2.1 _ _ this).2.1⟩
    have efl : ((bR G p).2.2.1.map (fun c => (dts c).map dn)).flatten = ((bR G p).2.2.1.flatMap dts).map dn := by
      rw [List.map_flatMap, List.flatMap_def]
    refine ⟨(bR G p).2.2.1.map (fun c => (dts c).map dn), ⟨fun c hc => ?_, ?_, fun d => ?_, fun c hc q hq => ?_⟩, ?_⟩
    · obtain ⟨f, f1, f2⟩ := List.mem_map.mp hc
      have h3 := (I4 f f1).2.1
      intro z
      rw [z] at f2
      have := congrArg List.length f2
      rw [List.length_map, dts_len] at this
      simp only [List.length_nil] at this
      omega
    · rw [efl]
      exact dn_inj (fun q hq => (d10 q hq).2) I5
    · rw [efl, List.mem_map]
      constructor
      · rintro ⟨q, hq, e⟩
        have h2 := (d10 q hq).2
        rw [← e]
        show dS _ (10 * q.1 + q.2) = true
        rw [dS_dn h2, ← hall]
        exact (I6 q.1 q.2).mp hq
      · intro h
        unfold dS at h
        rw [← hall] at h
        refine ⟨(d / 10, d % 10), (I6 _ _).mpr h, ?_⟩
        show 10 * (d / 10) + d % 10 = d
        omega
    · obtain ⟨f, f1, f2⟩ := List.mem_map.mp hc
      rw [← f2] at hq
      obtain ⟨x, v, y, h1, h2, h3⟩ := dts_map hq
      have m1 := List.mem_flatMap.mpr ⟨f, f1, h1⟩
      have hv10 := (d10 _ m1).2
      have hbx : bH G (bS G p) v x = true := by
        rw [hb.1, ← hall]
        exact (I6 _ _).mp m1
      have h4 := rtl_sc hg hp hf (nxL_dts ((rtl_mem hg hp hf).mpr hbx))
      unfold bSc at h4
      rw [if_neg he] at h4
      obtain ⟨f', g1, g2, g3⟩ := h4
      have := flatMap_uniq I5 f1 g1 h1 g2
      subst this
      rw [h3]
      show fN _ (10 * x + v) = 10 * v + y
      rw [fN_dn hv10, dts_fun (I4 f f1).1 g3 h2]
    · rw [List.length_map]
      have e2 : cnt (bR G p).2.1 10 = cnt (bS G p) 10 := cnt_ext fun v _ => by
        cases hv : bS G p v with
        | true =>
          obtain ⟨w, hw⟩ := bS_edge hg hp hv
          exact (I2 v w (by rw [hall]; exact hw)).2
        | false =>
          cases h2 : (bR G p).2.1 v with
          | false => rfl
          | true =>
            rw [I3 v h2] at hv
            cases hv
      omega
