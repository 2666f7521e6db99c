/-! what is placed is in one piece without any one vertex -/
theorem list_head {G : xG} {A : Nat → Bool} : ∀ (x : Nat) (t : List Nat), (∀ z ∈ x :: t, z < 10 ∧ A z = true) → (∀ e ∈ pd (x :: t), G e.1 e.2 = true) → ∀ y ∈ x :: t, con G A x y
  | x, [], hA, _, y, hy => by
    rw [List.mem_singleton] at hy
    subst hy
    exact con_rfl (hA y List.mem_cons_self).2
  | x, a :: t, hA, hG, y, hy => by
    rcases List.mem_cons.mp hy with e | e
    · subst e
      exact con_rfl (hA y List.mem_cons_self).2
    · have ih := list_head (G := G) (A := A) a t (fun z hz => hA z (List.mem_cons_of_mem _ hz)) (fun q hq => hG q (List.mem_cons_of_mem _ hq)) y e
      have hx := hA x List.mem_cons_self
      have ha := hA a (List.mem_cons_of_mem _ List.mem_cons_self)
      exact con_trans (con_step (con_rfl hx.2) hx.1 ha.1 (hG (x, a) List.mem_cons_self) ha.2) ih (hA y hy).1
theorem list_con {G : xG} {A : Nat → Bool} (hs : ∀ x y, G x y = G y x) {l : List Nat} (hA : ∀ z ∈ l, z < 10 ∧ A z = true) (hG : ∀ e ∈ pd l, G e.1 e.2 = true) {x y : Nat} (hx : x ∈ l) (hy : y ∈ l) : con G A x y := by
  cases l with
  | nil => cases hx
  | cons a t =>
    have h1 := list_head a t hA hG x hx
    have h2 := list_head a t hA hG y hy
    have ha := hA a List.mem_cons_self
    exact con_trans (con_sym hs ha.1 (hA x hx).1 h1) h2 (hA y hy).1
theorem BIC_cycle {c : List Nat} (h : c.Nodup) (h3 : 3 ≤ c.length) (h10 : ∀ z ∈ c, z < 10) : BIC (eSQ c) (fun v => decide (v ∈ c)) := by
  refine ⟨eS_sym c, fun x => ?_, fun x y q => ?_, fun x y u hx hy hu hcx hcy n1 n2 => ?_⟩
  · cases e : eSQ c x x with
    | false => rfl
    | true =>
      rcases eS_iff.mp e with g | g <;> exact absurd g (dts_asym h h3 g)
  · obtain ⟨a, b⟩ := eS_mem q
    exact ⟨h10 x a, h10 y b, decide_eq_true a, decide_eq_true b⟩
  · have hx2 : x ∈ c := of_decide_eq_true hcx
    have hy2 : y ∈ c := of_decide_eq_true hcy
    by_cases hu2 : u ∈ c
    · obtain ⟨A, B, e⟩ := List.append_of_mem hu2
      have hper : (u :: (B ++ A)).Perm c := by rw [e]; exact List.perm_append_comm (l₁ := u :: B) (l₂ := A)
      have hnu := (List.nodup_cons.mp (hper.nodup_iff.mpr h)).1
      have hm : ∀ z, z ∈ c → z ≠ u → z ∈ B ++ A := fun z hz hne => by
        rcases List.mem_cons.mp (hper.mem_iff.mpr hz) with q | q
        · exact absurd q hne
        · exact q
      refine list_con (l := B ++ A) (eS_sym c) (fun z hz => ⟨h10 z (hper.mem_iff.mp (List.mem_cons_of_mem _ hz)), ?_⟩) (fun q hq => ?_) (hm x hx2 n1) (hm y hy2 n2)
      · rw [Bool.and_eq_true, but_iff]
        exact ⟨decide_eq_true (hper.mem_iff.mp (List.mem_cons_of_mem _ hz)), fun e2 => hnu (e2 ▸ hz)⟩
      · rw [e, eS_rot]
        refine eS_iff.mpr (Or.inl ?_)
        show (q.1, q.2) ∈ pd (u :: (B ++ A) ++ [u])
        cases hBA : B ++ A with
        | nil => rw [hBA] at hq; cases hq
        | cons b t =>
          rw [hBA] at hq
          show (q.1, q.2) ∈ pd (u :: b :: (t ++ [u]))
          refine List.mem_cons_of_mem _ ?_
          obtain ⟨D, l, hD⟩ := snoc_ex b t
          show (q.1, q.2) ∈ pd (b :: t ++ [u])
          rw [hD, List.append_assoc, show [l] ++ [u] = l :: [u] from rfl, pd_app, ← hD]
          exact List.mem_append_left _ hq
    · refine list_con (l := c) (eS_sym c) (fun z hz => ⟨h10 z hz, ?_⟩) (fun q hq => ?_) hx2 hy2
      · rw [Bool.and_eq_true, but_iff]
        exact ⟨decide_eq_true hz, fun e => hu2 (e ▸ hz)⟩
      · refine eS_iff.mpr (Or.inl ?_)
        cases c with
        | nil => cases hq
        | cons a t =>
          show (q.1, q.2) ∈ pd (a :: t ++ [a])
          obtain ⟨D, l, hD⟩ := snoc_ex a t
          rw [hD, List.append_assoc, show [l] ++ [a] = l :: [a] from rfl, pd_app, ← hD]
          exact List.mem_append_left _ hq
theorem BIC_ear {P : xG} {PV : Nat → Bool} (hb : BIC P PV) (hV : ∀ v, PV v = true → v < 10) {u w : Nat} {ps : List Nat} (hn : (u :: ps ++ [w]).Nodup) (hu : PV u = true) (hw : PV w = true) (hps : ∀ p ∈ ps, p < 10) :
    BIC (addP P (u :: ps ++ [w])) (addV PV ps) := by
  have hs : ∀ x y, addP P (u :: ps ++ [w]) x y = addP P (u :: ps ++ [w]) y x := fun x y => by
    unfold addP
    rw [hb.1 x y, Bool.or_comm (decide ((x, y) ∈ _))]
  have hin : ∀ z ∈ u :: ps ++ [w], z < 10 ∧ addV PV ps z = true := fun z hz => by
    simp only [List.cons_append, List.mem_cons, List.mem_append, List.not_mem_nil, or_false] at hz
    rcases hz with e | e | e
    · subst e; exact ⟨hV z hu, addV_iff.mpr (Or.inl hu)⟩
    · exact ⟨hps z e, addV_iff.mpr (Or.inr e)⟩
    · subst e; exact ⟨hV z hw, addV_iff.mpr (Or.inl hw)⟩
  refine ⟨hs, fun x => ?_, fun x y q => ?_, fun x y z hx hy hz hcx hcy n1 n2 => ?_⟩
  · cases e : addP P (u :: ps ++ [w]) x x with
    | false => rfl
    | true =>
      rcases addP_iff.mp e with g | g | g
      · rw [hb.2.1] at g; cases g
      · exact absurd g (pd_asym hn g)
      · exact absurd g (pd_asym hn g)
  · rcases addP_iff.mp q with g | g | g
    · obtain ⟨a, b, c, d⟩ := hb.2.2.1 x y g
      exact ⟨a, b, addV_iff.mpr (Or.inl c), addV_iff.mpr (Or.inl d)⟩
    · have := pd_mem g
      exact ⟨(hin x this.1).1, (hin y this.2).1, (hin x this.1).2, (hin y this.2).2⟩
    · have := pd_mem g
      exact ⟨(hin x this.2).1, (hin y this.1).1, (hin x this.2).2, (hin y this.1).2⟩
  · -- each vertex is joined with an old one
    have key : ∀ x, x < 10 → addV PV ps x = true → x ≠ z → ∃ p, PV p = true ∧ p ≠ z ∧ con (addP P (u :: ps ++ [w])) (fun v => addV PV ps v && but z v) x p := by
      intro x hx hcx n1
      rcases addV_iff.mp hcx with h | h
      · exact ⟨x, h, n1, con_rfl (by rw [hcx, but_iff.mpr n1]; rfl)⟩
      · obtain ⟨X, Y, e⟩ := List.append_of_mem (show x ∈ u :: ps ++ [w] by simp [h])
        have hxu : x ≠ u := fun q => by
          subst q
          have := (List.nodup_cons.mp hn).1
          exact this (List.mem_append_left _ h)
        have hxw : x ≠ w := fun q => by
          subst q
          have := (List.nodup_append.mp hn).2.2 x (List.mem_cons_of_mem _ h) x (by simp)
          exact this rfl
        have hA : ∀ l : List Nat, (∀ v ∈ l, v ∈ u :: ps ++ [w]) → z ∉ l → ∀ v ∈ l, v < 10 ∧ (addV PV ps v && but z v) = true := fun l hl hzl v hv => ⟨(hin v (hl v hv)).1, by
          rw [Bool.and_eq_true, but_iff]
          exact ⟨(hin v (hl v hv)).2, fun q => hzl (q ▸ hv)⟩⟩
        by_cases hzX : z ∈ X
        · -- to w
          have hzY : z ∉ x :: Y := fun q => by
            rw [e] at hn
            exact (List.nodup_append.mp hn).2.2 z hzX z q rfl
          obtain ⟨W, l, hWl⟩ := snoc_ex x Y
          have hl : l = w := by
            have : (u :: ps ++ [w]).getLast? = some l := by rw [e, hWl, ← List.append_assoc, List.getLast?_concat]
            rw [List.getLast?_concat] at this
            cases this; rfl
          have hwY : w ∈ x :: Y := by rw [hWl, hl]; simp
          refine ⟨w, hw, fun q => hzY (q ▸ hwY), list_con (l := x :: Y) hs (hA _ (fun v hv => by rw [e]; exact List.mem_append_right _ hv) hzY) (fun q hq => ?_) List.mem_cons_self hwY⟩
          refine addP_iff.mpr (Or.inr (Or.inl ?_))
          rw [e, pd_app]
          exact List.mem_append_right _ hq
        · have hzX2 : z ∉ X ++ [x] := fun q => by
            rcases List.mem_append.mp q with q | q
            · exact hzX q
            · exact n1 (List.mem_singleton.mp q).symm
          have huX : u ∈ X ++ [x] := by
            cases X with
            | nil =>
              have : u = x := by
                have := congrArg List.head? e
                simpa using this
              exact absurd this.symm hxu
            | cons a X =>
              have : u = a := by
                have := congrArg List.head? e
                simpa using this
              rw [this]; simp
          refine ⟨u, hu, fun q => hzX2 (q ▸ huX), list_con (l := X ++ [x]) hs (hA _ (fun v hv => ?_) hzX2) (fun q hq => ?_) (by simp) huX⟩
          · rw [e]
            rcases List.mem_append.mp hv with q | q
            · exact List.mem_append_left _ q
            · rw [List.mem_singleton.mp q]; exact List.mem_append_right _ List.mem_cons_self
          · refine addP_iff.mpr (Or.inr (Or.inl ?_))
            rw [e, pd_app]
            exact List.mem_append_left _ hq
    obtain ⟨p, p1, p2, p3⟩ := key x hx hcx n1
    obtain ⟨q, q1, q2, q3⟩ := key y hy hcy n2
    have hmid := hb.2.2.2 p q z (hV p p1) (hV q q1) hz p1 q1 p2 q2
    have hmid2 : con (addP P (u :: ps ++ [w])) (fun v => addV PV ps v && but z v) p q := con_G (fun a b _ _ g _ => addP_iff.mpr (Or.inl g)) (fun v _ g => by
      rw [Bool.and_eq_true] at g ⊢
      exact ⟨addV_iff.mpr (Or.inl g.1), g.2⟩) (hV p p1) (hV q q1) hmid
    exact con_trans (con_trans p3 hmid2 (hV q q1)) (con_sym hs hy (hV q q1) q3) hy
