/-! the orders of the class, and the trace -/
def fsI : List Nat → Int32
  | [] => -1
  | a :: _ => nI a
def lsI (L : List Nat) : Int32 := match L.getLast? with
  | none => -1
  | some z => nI z
theorem lsI_snoc (D : List Nat) (z : Nat) : lsI (D ++ [z]) = nI z := by simp [lsI]
theorem fsI_snoc {L : List Nat} (h : L ≠ []) (z : Nat) : fsI (L ++ [z]) = fsI L := by
  cases L with
  | nil => exact absurd rfl h
  | cons a t => rfl
theorem nI_m1 {a : Nat} (h : a < 2 ^ 31) : nI a ≠ -1 := fun e => nI_pos (n := a) h (by rw [e]; decide)
theorem fsI_m1 {L : List Nat} (h : ∀ v ∈ L, v < 10) : decide (fsI L = -1) = L.isEmpty := by
  cases L with
  | nil => rfl
  | cons a t => exact decide_eq_false (nI_m1 (by have := h a List.mem_cons_self; omega))
theorem snoc_of {L : List Nat} (h : L ≠ []) : ∃ D z, L = D ++ [z] := ⟨L.dropLast, L.getLast h, (List.dropLast_concat_getLast h).symm⟩
theorem mem_tail {y z : Nat} {D : List Nat} (h : y ∉ D) : (decide (z ∈ y :: D) && !decide (z = y)) = decide (z ∈ D) := by
  by_cases e : z = y
  · subst e
    simp [h]
  · simp [e]
theorem c_least_0 {w : xW} {S : Nat → Bool} (h : ∀ v, v < 10 → S v = false) : xC MX7_least [.int (mk S)] w (some (.int (-1))) w := by
  unfold xC
  show xE MX7_least (0, [some (.int (mk S)), none], [], w) _ _
  refine xE.go 2 (F1 := (2, [some (.int (mk S)), some (.int 0)], [], w)) rfl ?_
  refine xE.loop (S := Unit) (fun k s => (2, [some (.int (mk S)), some (.int (nI k))], [], w)) (fun _ _ => True) 10 () (rfl) (trivial) ?_ ?_
  · intro k s hk hI K
    have K := K () trivial
    refine xE.go 3 (F1 := (bif decide (10 ≤ (nI k)) then 24 else 8, [some (.int (mk S)), some (.int (nI k))], [], w)) rfl ?_
    refine xE.brF (decide_eq_false (nI_ge (b := 10) (by omega) (by omega))) ?_
    refine xE.go 6 (F1 := (bif decide ((((mk S) >>> ((nI k) &&& 31)) &&& 1) = 0) then 18 else 16, [some (.int (mk S)), some (.int (nI k))], [], w)) rfl ?_
    rw [mk_get S hk, h k hk]
    refine xE.brT (by decide) ?_
    refine xE.go 2 (F1 := (2, [some (.int (mk S)), some (.int ((nI k) + 1))], [], w)) rfl ?_
    rw [← nI_succ]
    exact K
  · intro s hI
    refine xE.go 3 (F1 := (bif decide (10 ≤ (nI 10)) then 24 else 8, [some (.int (mk S)), some (.int (nI 10))], [], w)) rfl ?_
    refine xE.brT (rfl) ?_
    refine xE.go 1 (F1 := (25, [some (.int (mk S)), some (.int (nI 10))], [.int (-1)], w)) rfl ?_
    exact xE.iret .int 1 rfl rfl (rfl)
theorem c_leastL {w : xW} {R : List Nat} (h10 : ∀ v ∈ R, v < 10) (hd : R.head? = some (low (fun z => decide (z ∈ R))) ∨ R = []) : xC MX7_least [.int (mk (fun z => decide (z ∈ R)))] w (some (.int (fsI R))) w := by
  cases R with
  | nil => exact c_least_0 (fun v _ => by simp)
  | cons a t =>
    rcases hd with h | h
    · have e : a = low (fun z => decide (z ∈ a :: t)) := Option.some.inj h
      have := c_least (w := w) (S := fun z => decide (z ∈ a :: t)) (by rw [← e]; exact h10 a List.mem_cons_self)
      rw [← e] at this
      exact this
    · cases h
theorem ord_app (G : Nat → Nat → Bool) (l m : List xPr) (v : Nat) : ord G (l ++ m) v = ord G l v ++ ord G m v := by simp [ord]
theorem c_order {w : xW} {E : Int64} {v : Nat} (hv : v < 10) (hN : pN_p w E) (hf : flt (gr E) (blks (gr E) 100) = true) : xD MX6_orderAround [.ref 39, .ref 11, .int (nI v)] w (fun r w1 => r = none ∧ (∀ q ∈ dts (ord (gr E) (blks (gr E) 100) v), w1.1 40 (10 * v + q.1) = nI q.2) ∧ (∀ j, j < 10 * v ∨ 10 * v + 10 ≤ j → w1.1 40 j = w.1 40 j) ∧ xkq [(40, none)] w w1) := by
  have hg := gr_gok E
  have hO := blks_ok hg 100 (Nat.le_refl _)
  have hnd := ord_nodup hg hO hf v
  have h10o : ∀ x ∈ ord (gr E) (blks (gr E) 100) v, x < 10 := fun x hx => (hg.2.2 _ _ ((ord_mem hg hf).mp hx)).2
  obtain ⟨_, _, hnear, hI⟩ := hN
  obtain ⟨p1, p2, p3, p4⟩ := hI
  have h9 := blk_nine hg hO
  have hfa := fun p hp => flt_all hf (p := p) hp
  generalize blks (gr E) 100 = l at *
  generalize gr E = G at *
  refine xD.of ?_
  show xQ MX6_orderAround (0, [some (.ref 39), some (.ref 11), some (.int (nI v)), none, none, none, none, none, none, none], [], w) _
  refine xQ.go 6 (F1 := (8, [some (.ref 39), some (.ref 11), some (.int (nI v)), some (.int (-1)), some (.int (-1)), some (.int 0), none, none, none, none], [], w)) rfl ?_
  refine xQ.loop (S := xW) (fun k s => (8, [some (.ref 39), some (.ref 11), some (.int (nI v)), some (.int (fsI (ord G (l.take k) v))), some (.int (lsI (ord G (l.take k) v))), some (.int (nI k)), none, none, none, none], [], s)) (fun k s => (∀ q ∈ pd (ord G (l.take k) v), s.1 40 (10 * v + q.1) = nI q.2) ∧ (∀ j, j < 10 * v ∨ 10 * v + 10 ≤ j → s.1 40 j = w.1 40 j) ∧ xkq [(40, none)] w s) l.length w (rfl) (⟨(fun q hq => by cases hq), (fun _ _ => rfl), xkq_rfl⟩) ?_ ?_
  · intro k s hk hI K
    obtain ⟨i1, i2, i3⟩ := hI
    have hp : l[k]? = some l[k] := List.getElem?_eq_getElem hk
    have hpm : l[k] ∈ l := List.getElem_mem hk
    have hTs : ord G (l.take (k + 1)) v = ord G (l.take k) v ++ rtl G l[k] v := by
      rw [List.take_add_one, hp, ord_app]
      simp [ord]
    have hpre : ord G l v = ord G (l.take (k + 1)) v ++ ord G (l.drop (k + 1)) v := by rw [← ord_app, List.take_append_drop]
    rw [hpre, hTs] at hnd h10o
    have hnd1 := (List.nodup_append.mp hnd).1
    have h101 : ∀ x ∈ ord G (l.take k) v ++ rtl G l[k] v, x < 10 := fun x hx => h10o x (List.mem_append_left _ hx)
    have hRm := fun x => rtl_mem hg (hO.1 _ hpm).1 (hfa _ hpm) (v := v) (x := x)
    have hRs := fun x y => rtl_sc hg (hO.1 _ hpm).1 (hfa _ hpm) (v := v) (x := x) (y := y)
    have hRy := fun hv2 => rtl_yes hg (hO.1 _ hpm).1 (hfa _ hpm) (v := v) hv2
    have hRn : bS G l[k] v = false → rtl G l[k] v = [] := rtl_no
    rw [hTs] at K
    generalize hpe : l[k] = p at *
    generalize rtl G p v = R at *
    generalize ord G (l.take k) v = T at *
    have hR10 : ∀ x ∈ R, x < 10 := fun x hx => h101 x (List.mem_append_right _ hx)
    have hRnd := (List.nodup_append.mp hnd1).2.1
    have hRl : R.length ≤ 10 := by
      rw [← cnt_list hRnd hR10]
      exact cnt_le _ _
    have hmk : mk (fun z => G v z && bS G p z) = mk (fun z => decide (z ∈ R)) ∨ bS G p v = false := by
      cases hb : bS G p v with
      | false => exact Or.inr rfl
      | true =>
        refine Or.inl (mk_ext fun z _ => ?_)
        apply Bool.eq_iff_iff.mpr
        rw [decide_eq_true_iff, hRm, bH_iff, Bool.and_eq_true, hb]
        simp
    have hhd : R.head? = some (low (fun z => decide (z ∈ R))) ∨ R = [] := by
      cases hb : bS G p v with
      | false => exact Or.inr (hRn hb)
      | true =>
        refine Or.inl ?_
        rw [(hRy hb).2.2.2]
        congr 1
        refine low_ext fun z _ => ?_
        apply Bool.eq_iff_iff.mpr
        rw [decide_eq_true_iff, hRm]
    have com : xQ MX6_orderAround (46, [some (.ref 39), some (.ref 11), some (.int (nI v)), some (.int (fsI T)), some (.int (lsI T)), some (.int (nI k)), some (.int (mk (bS G p))), none, none, none], [.int (mk (fun z => decide (z ∈ R)))], s) (fun r w1 => r = none ∧ (∀ q ∈ dts (ord G l v), w1.1 40 (10 * v + q.1) = nI q.2) ∧ (∀ j, j < 10 * v ∨ 10 * v + 10 ≤ j → w1.1 40 j = w.1 40 j) ∧ xkq [(40, none)] w w1) := by
      refine xQ.go 2 (F1 := (50, [some (.ref 39), some (.ref 11), some (.int (nI v)), some (.int (fsI T)), some (.int (lsI T)), some (.int (nI k)), some (.int (mk (bS G p))), some (.int (mk (fun z => decide (z ∈ R)))), none, none], [.int (mk (fun z => decide (z ∈ R)))], s)) rfl ?_
      refine xQ.call rfl (c_leastL hR10 hhd) ?_
      show xQ MX6_orderAround (53, [some (.ref 39), some (.ref 11), some (.int (nI v)), some (.int (fsI T)), some (.int (lsI T)), some (.int (nI k)), some (.int (mk (bS G p))), some (.int (mk (fun z => decide (z ∈ R)))), none, none], [.int (fsI R)], s) _
      refine xQ.go 3 (F1 := (58, [some (.ref 39), some (.ref 11), some (.int (nI v)), some (.int (fsI T)), some (.int (lsI T)), some (.int (nI k)), some (.int (mk (bS G p))), some (.int (mk (fun z => decide (z ∈ R)))), some (.int (fsI R)), some (.int 0)], [], s)) rfl ?_
      refine xQ.loop (S := xW × Int32) (fun k2 s2 => (58, [some (.ref 39), some (.ref 11), some (.int (nI v)), some (.int (fsI (T ++ R.take k2))), some (.int (lsI (T ++ R.take k2))), some (.int (nI k)), some (.int (mk (bS G p))), some (.int (mk (fun z => decide (z ∈ R.drop k2)))), some (.int s2.2), some (.int (nI k2))], [], s2.1)) (fun k2 s2 => (∀ q ∈ pd (T ++ R.take k2), s2.1.1 40 (10 * v + q.1) = nI q.2) ∧ (∀ j, j < 10 * v ∨ 10 * v + 10 ≤ j → s2.1.1 40 j = w.1 40 j) ∧ xkq [(40, none)] w s2.1 ∧ ∀ y, R[k2]? = some y → s2.2 = nI y) R.length (s, fsI R) (by rw [List.take_zero, List.append_nil, List.drop_zero]; rfl) (⟨by rw [List.take_zero, List.append_nil]; exact i1, i2, i3, fun y hy => by cases R with | nil => cases hy | cons a t => cases hy; rfl⟩) ?_ ?_
      · intro k2 s2 hk2 hI2 K2
        obtain ⟨s2, x2⟩ := s2
        obtain ⟨j1, j2, j3, j4⟩ := hI2
        have hy : R[k2]? = some R[k2] := List.getElem?_eq_getElem hk2
        have hx2 : x2 = nI R[k2] := j4 _ hy
        subst hx2
        have hym : R[k2] ∈ R := List.getElem_mem hk2
        have hy10 := hR10 _ hym
        have hdrop : R.drop k2 = R[k2] :: R.drop (k2 + 1) := List.drop_eq_getElem_cons hk2
        have htake : R.take (k2 + 1) = R.take k2 ++ [R[k2]] := by rw [List.take_add_one, hy]; rfl
        have hsc : ∀ y2, R[k2 + 1]? = some y2 → w.1 17 (10 * v + R[k2]) = nI y2 := fun y2 h2 => by
          refine p4 p hpm (hfa p hpm) v _ _ (hRs _ _ (dts_get (i := k2) hy ?_))
          have := (List.getElem?_eq_some_iff.mp h2).1
          rw [Nat.mod_eq_of_lt this]
          exact h2
        have hmkd : mk (fun z => decide (z ∈ R.drop k2) && !decide (z = R[k2])) = mk (fun z => decide (z ∈ R.drop (k2 + 1))) := mk_ext fun z _ => by
          have hn : R[k2] ∉ R.drop (k2 + 1) := by
            have := hRnd.sublist (List.drop_sublist k2 R)
            rw [hdrop] at this
            exact (List.nodup_cons.mp this).1
          rw [hdrop]
          exact mem_tail hn
        have hne : decide (mk (fun z => decide (z ∈ R.drop k2)) = 0) = false := decide_eq_false fun e => by
          have := mk_zero.mp e R[k2] hy10
          rw [hdrop, decide_eq_true List.mem_cons_self] at this
          cases this
        have hLnd : (T ++ R.take k2 ++ [R[k2]]).Nodup := by
          rw [List.append_assoc, ← htake]
          exact hnd1.sublist (List.Sublist.append (List.Sublist.refl _) (List.take_sublist _ _))
        have hL10 : ∀ z ∈ T ++ R.take k2, z < 10 := fun z hz => by
          rcases List.mem_append.mp hz with h | h
          · exact h101 z (List.mem_append_left _ h)
          · exact hR10 z (List.mem_of_mem_take h)
        rw [htake, ← List.append_assoc] at K2
        simp only at j1 j2 j3 ⊢
        generalize R[k2] = y at *
        generalize T ++ R.take k2 = L at *
        have com2 : ∀ s3 : xW, (∀ q ∈ pd (L ++ [y]), s3.1 40 (10 * v + q.1) = nI q.2) → (∀ j, j < 10 * v ∨ 10 * v + 10 ≤ j → s3.1 40 j = w.1 40 j) → xkq [(40, none)] w s3 → xQ MX6_orderAround (96, [some (.ref 39), some (.ref 11), some (.int (nI v)), some (.int (fsI (L ++ [y]))), some (.int (lsI L)), some (.int (nI k)), some (.int (mk (bS G p))), some (.int (mk (fun z => decide (z ∈ R.drop k2)))), some (.int (nI y)), some (.int (nI k2))], [], s3) (fun r w1 => r = none ∧ (∀ q ∈ dts (ord G l v), w1.1 40 (10 * v + q.1) = nI q.2) ∧ (∀ j, j < 10 * v ∨ 10 * v + 10 ≤ j → w1.1 40 j = w.1 40 j) ∧ xkq [(40, none)] w w1) := by
          intro s3 m1 m2 m3
          refine xQ.go 4 (F1 := (104, [some (.ref 39), some (.ref 11), some (.int (nI v)), some (.int (fsI (L ++ [y]))), some (.int (nI y)), some (.int (nI k)), some (.int (mk (bS G p))), some (.int (mk (fun z => decide (z ∈ R.drop k2)))), some (.int (nI y)), some (.int (nI k2))], [.int (nI y), .int (mk (fun z => decide (z ∈ R.drop k2)))], s3)) rfl ?_
          refine xQ.call rfl (c_bit hy10) ?_
          show xQ MX6_orderAround (107, [some (.ref 39), some (.ref 11), some (.int (nI v)), some (.int (fsI (L ++ [y]))), some (.int (nI y)), some (.int (nI k)), some (.int (mk (bS G p))), some (.int (mk (fun z => decide (z ∈ R.drop k2)))), some (.int (nI y)), some (.int (nI k2))], [.int (mk (fun v => decide (v = y))), .int (mk (fun z => decide (z ∈ R.drop k2)))], s3) _
          refine xQ.go 3 (F1 := (110, [some (.ref 39), some (.ref 11), some (.int (nI v)), some (.int (fsI (L ++ [y]))), some (.int (nI y)), some (.int (nI k)), some (.int (mk (bS G p))), some (.int (mk (fun z => decide (z ∈ R.drop k2)))), some (.int (nI y)), some (.int (nI k2))], [.int ((mk (fun z => decide (z ∈ R.drop k2))) &&& ((mk (fun v => decide (v = y))) ^^^ (-1)))], s3)) rfl ?_
          rw [mk_andn, hmkd]
          refine xQ.go 4 (F1 := (116, [some (.ref 39), some (.ref 11), some (.int (nI v)), some (.int (fsI (L ++ [y]))), some (.int (nI y)), some (.int (nI k)), some (.int (mk (bS G p))), some (.int (mk (fun z => decide (z ∈ R.drop (k2 + 1))))), some (.int (nI y)), some (.int (nI k2))], [.int (nI y), .int (nI v), .ref 11], s3)) rfl ?_
          refine xQ.call rfl (c_psucc_p hv hy10) ?_
          show xQ MX6_orderAround (119, [some (.ref 39), some (.ref 11), some (.int (nI v)), some (.int (fsI (L ++ [y]))), some (.int (nI y)), some (.int (nI k)), some (.int (mk (bS G p))), some (.int (mk (fun z => decide (z ∈ R.drop (k2 + 1))))), some (.int (nI y)), some (.int (nI k2))], [.int (s3.1 17 (10 * v + y))], s3) _
          refine xQ.go 3 (F1 := (58, [some (.ref 39), some (.ref 11), some (.int (nI v)), some (.int (fsI (L ++ [y]))), some (.int (nI y)), some (.int (nI k)), some (.int (mk (bS G p))), some (.int (mk (fun z => decide (z ∈ R.drop (k2 + 1))))), some (.int (s3.1 17 (10 * v + y))), some (.int ((nI k2) + 1))], [], s3)) rfl ?_
          rw [← nI_succ, ← lsI_snoc L y]
          refine K2 (s3, s3.1 17 (10 * v + y)) ⟨m1, m2, m3, fun y2 h2 => ?_⟩
          rw [← hsc y2 h2]
          exact xkq_at m3 17 _
        refine xQ.go 3 (F1 := (bif decide (10 ≤ (nI k2)) then 127 else 65, [some (.ref 39), some (.ref 11), some (.int (nI v)), some (.int (fsI L)), some (.int (lsI L)), some (.int (nI k)), some (.int (mk (bS G p))), some (.int (mk (fun z => decide (z ∈ R.drop k2)))), some (.int (nI y)), some (.int (nI k2))], [], s2)) rfl ?_
        refine xQ.brF (decide_eq_false (nI_ge (b := 10) (by omega) (by omega))) ?_
        refine xQ.go 2 (F1 := (bif decide ((mk (fun z => decide (z ∈ R.drop k2))) = 0) then 127 else 70, [some (.ref 39), some (.ref 11), some (.int (nI v)), some (.int (fsI L)), some (.int (lsI L)), some (.int (nI k)), some (.int (mk (bS G p))), some (.int (mk (fun z => decide (z ∈ R.drop k2)))), some (.int (nI y)), some (.int (nI k2))], [], s2)) rfl ?_
        refine xQ.brF (hne) ?_
        refine xQ.go 3 (F1 := (bif !decide ((fsI L) = (-1)) then 81 else 75, [some (.ref 39), some (.ref 11), some (.int (nI v)), some (.int (fsI L)), some (.int (lsI L)), some (.int (nI k)), some (.int (mk (bS G p))), some (.int (mk (fun z => decide (z ∈ R.drop k2)))), some (.int (nI y)), some (.int (nI k2))], [], s2)) rfl ?_
        rw [fsI_m1 hL10]
        by_cases hLe : L = []
        · subst hLe
          refine xQ.brF (by rfl) ?_
          refine xQ.go 3 (F1 := (96, [some (.ref 39), some (.ref 11), some (.int (nI v)), some (.int (nI y)), some (.int (lsI [])), some (.int (nI k)), some (.int (mk (bS G p))), some (.int (mk (fun z => decide (z ∈ R.drop k2)))), some (.int (nI y)), some (.int (nI k2))], [], s2)) rfl ?_
          exact com2 s2 (fun q hq => by simp [pd] at hq) j2 j3
        · refine xQ.brT (by cases L with | nil => exact absurd rfl hLe | cons a t => rfl) ?_
          obtain ⟨D, z, hD⟩ := snoc_of hLe
          have hlz : lsI L = nI z := by rw [hD, lsI_snoc]
          have hz10 : z < 10 := hL10 z (by rw [hD]; exact List.mem_append_right _ List.mem_cons_self)
          rw [hlz]
          refine xQ.go 4 (F1 := (88, [some (.ref 39), some (.ref 11), some (.int (nI v)), some (.int (fsI L)), some (.int (nI z)), some (.int (nI k)), some (.int (mk (bS G p))), some (.int (mk (fun z => decide (z ∈ R.drop k2)))), some (.int (nI y)), some (.int (nI k2))], [.int (nI z), .int (nI v), .ref 40], s2)) rfl ?_
          refine xQ.call rfl (c_cell) ?_
          show xQ MX6_orderAround (91, [some (.ref 39), some (.ref 11), some (.int (nI v)), some (.int (fsI L)), some (.int (nI z)), some (.int (nI k)), some (.int (mk (bS G p))), some (.int (mk (fun z => decide (z ∈ R.drop k2)))), some (.int (nI y)), some (.int (nI k2))], [.int (nI (10 * v + z)), .ref 40], s2) _
          refine xQ.go 1 (F1 := (93, [some (.ref 39), some (.ref 11), some (.int (nI v)), some (.int (fsI L)), some (.int (nI z)), some (.int (nI k)), some (.int (mk (bS G p))), some (.int (mk (fun z => decide (z ∈ R.drop k2)))), some (.int (nI y)), some (.int (nI k2))], [.int (nI y), .int (nI (10 * v + z)), .ref 40], s2)) rfl ?_
          refine xQ.call rfl (c_put rfl (show 10 * v + z < 100 by omega) (by omega)) ?_
          show xQ MX6_orderAround (96, [some (.ref 39), some (.ref 11), some (.int (nI v)), some (.int (fsI L)), some (.int (nI z)), some (.int (nI k)), some (.int (mk (bS G p))), some (.int (mk (fun z => decide (z ∈ R.drop k2)))), some (.int (nI y)), some (.int (nI k2))], [], (xuI s2 40 (10 * v + z) (nI y))) _
          rw [← fsI_snoc hLe y, ← hlz]
          refine com2 _ (fun q hq => ?_) (fun j hj => ?_) (xkq_I j3 rfl)
          · rw [hD, List.append_assoc] at hq
            have hq : q ∈ pd (D ++ z :: [y]) := hq
            rw [pd_app, List.mem_append] at hq
            rw [uI1]
            rcases hq with hq | hq
            · rw [← hD] at hq
              have hqz : q.1 ≠ z := fun e => by
                have h2 := (List.nodup_append.mp hLnd).1
                rw [hD] at h2
                refine pd_no1 h2 (x := q.2) ?_
                rw [← hD, ← e]
                exact hq
              rw [if_neg (by omega)]
              exact j1 q hq
            · have : q = (z, y) := by simpa [pd] using hq
              rw [this, if_pos ⟨rfl, rfl⟩]
          · rw [uI1, if_neg (by omega)]
            exact j2 j hj
      · intro s2 hI2
        obtain ⟨s2, x2⟩ := s2
        obtain ⟨j1, j2, j3, j4⟩ := hI2
        simp only [List.take_length, List.drop_length] at *
        have com3 : xQ MX6_orderAround (127, [some (.ref 39), some (.ref 11), some (.int (nI v)), some (.int (fsI (T ++ R))), some (.int (lsI (T ++ R))), some (.int (nI k)), some (.int (mk (bS G p))), some (.int (mk (fun z => decide (z ∈ ([] : List Nat))))), some (.int x2), some (.int (nI R.length))], [], s2) (fun r w1 => r = none ∧ (∀ q ∈ dts (ord G l v), w1.1 40 (10 * v + q.1) = nI q.2) ∧ (∀ j, j < 10 * v ∨ 10 * v + 10 ≤ j → w1.1 40 j = w.1 40 j) ∧ xkq [(40, none)] w w1) := by
          refine xQ.go 2 (F1 := (8, [some (.ref 39), some (.ref 11), some (.int (nI v)), some (.int (fsI (T ++ R))), some (.int (lsI (T ++ R))), some (.int ((nI k) + 1)), some (.int (mk (bS G p))), some (.int (mk (fun z => decide (z ∈ ([] : List Nat))))), some (.int x2), some (.int (nI R.length))], [], s2)) rfl ?_
          refine xQ.less [some (.ref 39), some (.ref 11), some (.int (nI v)), some (.int (fsI (T ++ R))), some (.int (lsI (T ++ R))), some (.int ((nI k) + 1)), none, none, none, none] (by simp [xleb]) ?_
          rw [← nI_succ]
          exact K s2 ⟨j1, j2, j3⟩
        by_cases e10 : R.length = 10
        · rw [e10] at com3 ⊢
          refine xQ.go 3 (F1 := (bif decide (10 ≤ (nI 10)) then 127 else 65, [some (.ref 39), some (.ref 11), some (.int (nI v)), some (.int (fsI (T ++ R))), some (.int (lsI (T ++ R))), some (.int (nI k)), some (.int (mk (bS G p))), some (.int (mk (fun z => decide (z ∈ ([] : List Nat))))), some (.int x2), some (.int (nI 10))], [], s2)) rfl ?_
          refine xQ.brT (rfl) ?_
          exact com3
        · refine xQ.go 3 (F1 := (bif decide (10 ≤ (nI R.length)) then 127 else 65, [some (.ref 39), some (.ref 11), some (.int (nI v)), some (.int (fsI (T ++ R))), some (.int (lsI (T ++ R))), some (.int (nI k)), some (.int (mk (bS G p))), some (.int (mk (fun z => decide (z ∈ ([] : List Nat))))), some (.int x2), some (.int (nI R.length))], [], s2)) rfl ?_
          refine xQ.brF (decide_eq_false (nI_ge (b := 10) (by omega) (by omega))) ?_
          refine xQ.go 2 (F1 := (bif decide ((mk (fun z => decide (z ∈ ([] : List Nat)))) = 0) then 127 else 70, [some (.ref 39), some (.ref 11), some (.int (nI v)), some (.int (fsI (T ++ R))), some (.int (lsI (T ++ R))), some (.int (nI k)), some (.int (mk (bS G p))), some (.int (mk (fun z => decide (z ∈ ([] : List Nat))))), some (.int x2), some (.int (nI R.length))], [], s2)) rfl ?_
          refine xQ.brT (by rw [show mk (fun z => decide (z ∈ ([] : List Nat))) = 0 by rw [mk_0]; exact mk_ext fun z _ => by simp]; rfl) ?_
          exact com3
    refine xQ.go 2 (F1 := (11, [some (.ref 39), some (.ref 11), some (.int (nI v)), some (.int (fsI T)), some (.int (lsI T)), some (.int (nI k)), none, none, none, none], [.ref 11, .int (nI k)], s)) rfl ?_
    refine xQ.call rfl (c_pblocks_p) ?_
    show xQ MX6_orderAround (14, [some (.ref 39), some (.ref 11), some (.int (nI v)), some (.int (fsI T)), some (.int (lsI T)), some (.int (nI k)), none, none, none, none], [.int (s.1 11 7), .int (nI k)], s) _
    rw [xkq_at i3 11 7, p1]
    refine xQ.go 1 (F1 := (bif decide ((nI l.length) ≤ (nI k)) then 133 else 17, [some (.ref 39), some (.ref 11), some (.int (nI v)), some (.int (fsI T)), some (.int (lsI T)), some (.int (nI k)), none, none, none, none], [], s)) rfl ?_
    refine xQ.brF (decide_eq_false (nI_ge hk (by omega))) ?_
    refine xQ.go 2 (F1 := (20, [some (.ref 39), some (.ref 11), some (.int (nI v)), some (.int (fsI T)), some (.int (lsI T)), some (.int (nI k)), none, none, none, none], [.int (nI k), .ref 11], s)) rfl ?_
    refine xQ.call rfl (c_pverts_p (show k < 9 by omega)) ?_
    show xQ MX6_orderAround (23, [some (.ref 39), some (.ref 11), some (.int (nI v)), some (.int (fsI T)), some (.int (lsI T)), some (.int (nI k)), none, none, none, none], [.int (s.1 13 k)], s) _
    rw [xkq_at i3 13 k, (p3 k p hp).1]
    refine xQ.go 3 (F1 := (28, [some (.ref 39), some (.ref 11), some (.int (nI v)), some (.int (fsI T)), some (.int (lsI T)), some (.int (nI k)), some (.int (mk (bS G p))), none, none, none], [.int (nI v), .int (mk (bS G p))], s)) rfl ?_
    refine xQ.call rfl (c_has hv) ?_
    show xQ MX6_orderAround (31, [some (.ref 39), some (.ref 11), some (.int (nI v)), some (.int (fsI T)), some (.int (lsI T)), some (.int (nI k)), some (.int (mk (bS G p))), none, none, none], [.int (if bS G p v then 1 else 0)], s) _
    refine xQ.go 1 (F1 := (bif decide ((if bS G p v then 1 else 0) = 0) then 45 else 34, [some (.ref 39), some (.ref 11), some (.int (nI v)), some (.int (fsI T)), some (.int (lsI T)), some (.int (nI k)), some (.int (mk (bS G p))), none, none, none], [], s)) rfl ?_
    rcases hmk with hmk | hmk
    · cases hb : bS G p v with
      | true =>
        refine xQ.brF (by decide) ?_
        refine xQ.go 2 (F1 := (36, [some (.ref 39), some (.ref 11), some (.int (nI v)), some (.int (fsI T)), some (.int (lsI T)), some (.int (nI k)), some (.int (mk (bS G p))), none, none, none], [.int (nI v), .ref 11], s)) rfl ?_
        refine xQ.call rfl (c_pnear_p hv) ?_
        show xQ MX6_orderAround (39, [some (.ref 39), some (.ref 11), some (.int (nI v)), some (.int (fsI T)), some (.int (lsI T)), some (.int (nI k)), some (.int (mk (bS G p))), none, none, none], [.int (s.1 12 v)], s) _
        refine xQ.go 3 (F1 := (46, [some (.ref 39), some (.ref 11), some (.int (nI v)), some (.int (fsI T)), some (.int (lsI T)), some (.int (nI k)), some (.int (mk (bS G p))), none, none, none], [.int ((s.1 12 v) &&& (mk (bS G p)))], s)) rfl ?_
        rw [xkq_at i3 12 v, hnear v hv, mk_and, hmk]
        refine xQ.less [some (.ref 39), some (.ref 11), some (.int (nI v)), some (.int (fsI T)), some (.int (lsI T)), some (.int (nI k)), some (.int (mk (bS G p))), none, none, none] (by simp [xleb]) ?_
        exact com
      | false =>
        refine xQ.brT (by decide) ?_
        refine xQ.go 1 (F1 := (46, [some (.ref 39), some (.ref 11), some (.int (nI v)), some (.int (fsI T)), some (.int (lsI T)), some (.int (nI k)), some (.int (mk (bS G p))), none, none, none], [.int 0], s)) rfl ?_
        rw [hRn hb, show mk (fun z => decide (z ∈ ([] : List Nat))) = 0 by rw [mk_0]; exact mk_ext fun z _ => by simp] at com
        refine xQ.less [some (.ref 39), some (.ref 11), some (.int (nI v)), some (.int (fsI T)), some (.int (lsI T)), some (.int (nI k)), some (.int (mk (bS G p))), none, none, none] (by simp [xleb]) ?_
        exact com
    · rw [hmk]
      refine xQ.brT (by decide) ?_
      refine xQ.go 1 (F1 := (46, [some (.ref 39), some (.ref 11), some (.int (nI v)), some (.int (fsI T)), some (.int (lsI T)), some (.int (nI k)), some (.int (mk (bS G p))), none, none, none], [.int 0], s)) rfl ?_
      rw [hRn hmk, show mk (fun z => decide (z ∈ ([] : List Nat))) = 0 by rw [mk_0]; exact mk_ext fun z _ => by simp] at com
      refine xQ.less [some (.ref 39), some (.ref 11), some (.int (nI v)), some (.int (fsI T)), some (.int (lsI T)), some (.int (nI k)), some (.int (mk (bS G p))), none, none, none] (by simp [xleb]) ?_
      exact com
  · intro s hI
    obtain ⟨i1, i2, i3⟩ := hI
    rw [List.take_length] at *
    generalize ord G l v = L at *
    refine xQ.go 2 (F1 := (11, [some (.ref 39), some (.ref 11), some (.int (nI v)), some (.int (fsI L)), some (.int (lsI L)), some (.int (nI l.length)), none, none, none, none], [.ref 11, .int (nI l.length)], s)) rfl ?_
    refine xQ.call rfl (c_pblocks_p) ?_
    show xQ MX6_orderAround (14, [some (.ref 39), some (.ref 11), some (.int (nI v)), some (.int (fsI L)), some (.int (lsI L)), some (.int (nI l.length)), none, none, none, none], [.int (s.1 11 7), .int (nI l.length)], s) _
    rw [xkq_at i3 11 7, p1]
    refine xQ.go 1 (F1 := (bif decide ((nI l.length) ≤ (nI l.length)) then 133 else 17, [some (.ref 39), some (.ref 11), some (.int (nI v)), some (.int (fsI L)), some (.int (lsI L)), some (.int (nI l.length)), none, none, none, none], [], s)) rfl ?_
    refine xQ.brT (decide_eq_true (Int32.le_refl _)) ?_
    refine xQ.go 3 (F1 := (bif decide ((fsI L) = (-1)) then 152 else 138, [some (.ref 39), some (.ref 11), some (.int (nI v)), some (.int (fsI L)), some (.int (lsI L)), some (.int (nI l.length)), none, none, none, none], [], s)) rfl ?_
    rw [fsI_m1 h10o]
    by_cases hLe : L = []
    · subst hLe
      refine xQ.brT (by rfl) ?_
      refine xQ.vret 1 rfl rfl ?_
      exact ⟨rfl, (fun q hq => by cases hq), i2, i3⟩
    · refine xQ.brF (by cases L with | nil => exact absurd rfl hLe | cons a t => rfl) ?_
      obtain ⟨D, z, hD⟩ := snoc_of hLe
      have hlz : lsI L = nI z := by rw [hD, lsI_snoc]
      have hz10 : z < 10 := h10o z (by rw [hD]; exact List.mem_append_right _ List.mem_cons_self)
      rw [hlz]
      refine xQ.go 4 (F1 := (145, [some (.ref 39), some (.ref 11), some (.int (nI v)), some (.int (fsI L)), some (.int (nI z)), some (.int (nI l.length)), none, none, none, none], [.int (nI z), .int (nI v), .ref 40], s)) rfl ?_
      refine xQ.call rfl (c_cell) ?_
      show xQ MX6_orderAround (148, [some (.ref 39), some (.ref 11), some (.int (nI v)), some (.int (fsI L)), some (.int (nI z)), some (.int (nI l.length)), none, none, none, none], [.int (nI (10 * v + z)), .ref 40], s) _
      refine xQ.go 1 (F1 := (149, [some (.ref 39), some (.ref 11), some (.int (nI v)), some (.int (fsI L)), some (.int (nI z)), some (.int (nI l.length)), none, none, none, none], [.int (fsI L), .int (nI (10 * v + z)), .ref 40], s)) rfl ?_
      refine xQ.call rfl (c_put rfl (show 10 * v + z < 100 by omega) (by omega)) ?_
      show xQ MX6_orderAround (152, [some (.ref 39), some (.ref 11), some (.int (nI v)), some (.int (fsI L)), some (.int (nI z)), some (.int (nI l.length)), none, none, none, none], [], (xuI s 40 (10 * v + z) (fsI L))) _
      refine xQ.vret 1 rfl rfl ?_
      refine ⟨rfl, (fun q hq => ?_), (fun j hj => ?_), xkq_I i3 rfl⟩
      · cases L with
        | nil => cases hq
        | cons a t =>
          have hq : q ∈ pd (a :: t ++ [a]) := hq
          rw [hD, List.append_assoc] at hq
          have hq : q ∈ pd (D ++ z :: [a]) := hq
          rw [pd_app, List.mem_append] at hq
          rw [uI1]
          rcases hq with hq | hq
          · have hqz : q.1 ≠ z := fun e => by
              rw [hD] at hnd
              refine pd_no1 hnd (x := q.2) ?_
              have e2 : (z, q.2) = q := by rw [← e]
              rw [e2]
              exact hq
            rw [if_neg (by omega)]
            rw [← hD] at hq
            exact i1 q hq
          · have : q = (z, a) := by simpa [pd] using hq
            rw [this, if_pos ⟨rfl, rfl⟩]
            rfl
      · rw [uI1, if_neg (by omega)]
        exact i2 j hj
