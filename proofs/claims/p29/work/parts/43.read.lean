/-! the plan of a graph -/
/-- are all blocks of the list planar -/
def flt (G : Nat → Nat → Bool) (l : List xPr) : Bool := l.all (fun p => decide (bPl G p = bE G p))
theorem flt_app {G : Nat → Nat → Bool} {l : List xPr} {p : xPr} : flt G (l ++ [p]) = (flt G l && decide (bPl G p = bE G p)) := by simp [flt]
theorem bSc_edge {G : Nat → Nat → Bool} (hg : gok G) {p : xPr} (hp : G p.1 p.2 = true) (hf : bPl G p = bE G p) {v x y : Nat} (h : bSc G p v x y) : bH G (bS G p) v x = true ∧ bH G (bS G p) v y = true := by
  have hb := bS_bic hg hp
  have h10 := hg.2.2 _ _ hp
  have ha : bS G p p.1 = true := bS_iff.mpr ⟨h10.1, Bs_a hg hp⟩
  have hbb : bS G p p.2 = true := bS_iff.mpr ⟨h10.2, Bs_b hg hp⟩
  have hH : bH G (bS G p) p.1 p.2 = true := bH_iff.mpr ⟨hp, ha, hbb⟩
  have hH2 : bH G (bS G p) p.2 p.1 = true := bH_iff.mpr ⟨by rw [hg.1]; exact hp, hbb, ha⟩
  unfold bSc at h
  by_cases he : bE G p = 1
  · rw [if_pos he] at h
    rcases h with ⟨rfl, rfl, rfl⟩ | ⟨rfl, rfl, rfl⟩
    · exact ⟨hH, hH⟩
    · exact ⟨hH2, hH2⟩
  · rw [if_neg he] at h
    obtain ⟨f, hf2, h1, h2⟩ := h
    have hEO := bR_ok hg hp he
    have hall := EOK_all hb hEO (by unfold bPl at hf; rw [if_neg he] at hf; exact hf)
    have a1 := (hEO.1.2.2.2.2.2.1 x v).mp (List.mem_flatMap.mpr ⟨f, hf2, h1⟩)
    have a2 := (hEO.1.2.2.2.2.2.1 v y).mp (List.mem_flatMap.mpr ⟨f, hf2, h2⟩)
    rw [hall] at a1 a2
    exact ⟨by rw [hb.1]; exact a1, a2⟩
/-- all that a plan's rows hold of the blocks in l -/
def pI (a c d e f g : Nat) (w : xW) (G : Nat → Nat → Bool) (l : List xPr) : Prop :=
  w.1 a 7 = nI l.length ∧ w.1 a 8 = (if flt G l then 1 else 0) ∧
  (∀ i p, l[i]? = some p → w.1 c i = mk (bS G p) ∧ w.1 d i = nI (bE G p) ∧ w.1 e i = nI (bFa G p) ∧ w.1 f i = nI (bPl G p)) ∧
  ∀ p ∈ l, bPl G p = bE G p → ∀ v x y, bSc G p v x y → w.1 g (10 * v + x) = nI y
/-- a plan that knows the graph e -/
def pN (a b c d e f g : Nat) (w : xW) (E : Int64) : Prop := w.1 a 10 = 1 ∧ w.2 a 9 = E ∧ (∀ v, v < 10 → w.1 b v = mk (gr E v)) ∧ pI a c d e f g w (gr E) (blks (gr E) 100)
def pOK (a b c d e f g : Nat) (w : xW) : Prop := w.1 a 10 = 0 ∨ ∃ E, pN a b c d e f g w E
abbrev kA_p : xCS := [(11, none), (12, none), (13, none), (14, none), (15, none), (16, none), (17, none), (18, none), (19, none), (20, none), (21, none), (22, none), (23, none), (24, none)]
abbrev kB_p : xCS := [(11, some 7), (11, some 8), (13, none), (14, none), (15, none), (16, none), (17, none), (18, none), (19, none), (20, none), (21, none), (22, none), (23, none), (24, none)]
abbrev pI_p (w : xW) (G : Nat → Nat → Bool) (l : List xPr) : Prop := pI 11 13 14 15 16 17 w G l
abbrev pN_p (w : xW) (E : Int64) : Prop := pN 11 12 13 14 15 16 17 w E
abbrev pOK_p (w : xW) : Prop := pOK 11 12 13 14 15 16 17 w
/-- a block is added -/
theorem pI_add_p {w w1 w2 : xW} {G : Nat → Nat → Bool} {l : List xPr} {p : xPr} (hg : gok G) (hO : BOK G (l ++ [p])) (h : pI_p w G l) (k1 : xkq [(18, none), (19, none), (20, none), (21, none), (22, none), (23, none), (24, none)] w w1) (h7 : w2.1 11 7 = nI (l.length + 1)) (row : w2.1 13 l.length = mk (bS G p) ∧ w2.1 14 l.length = nI (bE G p) ∧ w2.1 16 l.length = nI (bPl G p) ∧ w2.1 15 l.length = nI (bFa G p)) (hfl : bPl G p = bE G p → w2.1 11 8 = w1.1 11 8 ∧ ∀ v x y, bSc G p v x y → w2.1 17 (10 * v + x) = nI y) (hnf : bPl G p ≠ bE G p → w2.1 11 8 = 0) (hs : ∀ v x, v < 10 → x < 10 → bH G (bS G p) v x = false → w2.1 17 (10 * v + x) = w1.1 17 (10 * v + x)) (oth : ∀ i, i ≠ l.length → w2.1 13 i = w1.1 13 i ∧ w2.1 14 i = w1.1 14 i ∧ w2.1 15 i = w1.1 15 i ∧ w2.1 16 i = w1.1 16 i) : pI_p w2 G (l ++ [p]) := by
  obtain ⟨i1, i2, i3, i4⟩ := h
  have hpm : p ∈ l ++ [p] := List.mem_append_right _ List.mem_cons_self
  have hlast : (l ++ [p])[l.length]? = some p := by simp
  refine ⟨by rw [h7]; simp, ?_, fun i q hi => ?_, fun q hq hqf v x y hsc => ?_⟩
  · rw [flt_app]
    by_cases e : bPl G p = bE G p
    · rw [(hfl e).1, xkq_at k1 11 8, i2, decide_eq_true e, Bool.and_true]
    · rw [hnf e, decide_eq_false e, Bool.and_false]; rfl
  · by_cases e : i = l.length
    · rw [e, hlast] at hi
      cases hi
      rw [e]
      exact ⟨row.1, row.2.1, row.2.2.2, row.2.2.1⟩
    · have hlt : i < l.length := by
        have := (List.getElem?_eq_some_iff.mp hi).1
        rw [List.length_append] at this
        simp only [List.length_cons, List.length_nil] at this
        omega
      rw [List.getElem?_append_left hlt] at hi
      obtain ⟨o1, o2, o3, o4⟩ := oth i e
      rw [o1, o2, o3, o4, xkq_at k1 13 i, xkq_at k1 14 i, xkq_at k1 15 i, xkq_at k1 16 i]
      exact i3 i q hi
  · rcases List.mem_append.mp hq with hq | hq
    · have hq2 := hO.1 q (List.mem_append_left _ hq)
      have hed := (bSc_edge hg hq2.1 hqf hsc).1
      have h10 := hg.2.2 _ _ (bH_iff.mp hed).1
      rw [hs v x h10.1 h10.2 ?_, xkq_at k1 17]
      · exact i4 q hq hqf v x y hsc
      · cases e : bH G (bS G p) v x with
        | false => rfl
        | true =>
          exfalso
          obtain ⟨i, hi, ei⟩ := List.mem_iff_getElem.mp hq
          have e1 := bH_iff.mp hed
          have e2 := bH_iff.mp e
          have := BOK_one hg hO (i := i) (j := l.length) (p := q) (q := p) (by rw [List.getElem?_append_left hi, List.getElem?_eq_getElem hi, ei]) hlast e1.1 e1.2.1 e1.2.2 e2.2.1 e2.2.2
          omega
    · rw [List.mem_singleton.mp hq] at hqf hsc
      exact (hfl hqf).2 v x y hsc
theorem c_read_p {w : xW} {e : Int64} (hP : pOK_p w) : xD MX4_read [.ref 11, .long e] w (fun r w1 => r = some (.int (if flt (gr e) (blks (gr e) 100) then 1 else 0)) ∧ pN_p w1 e ∧ xkq kA_p w w1) := by
  have hg := gr_gok e
  have nar : ∀ b : Bool, narrow .boolean (.int (if b then 1 else 0)) = .int (if b then 1 else 0) := fun b => by cases b <;> rfl
  have com : xQ MX4_read (21, [some (.ref 11), some (.long e), none, none, none, none], [], w) (fun r w1 => r = some (.int (if flt (gr e) (blks (gr e) 100) then 1 else 0)) ∧ pN_p w1 e ∧ xkq kA_p w w1) := by
    refine xQ.go 12 (F1 := (41, [some (.ref 11), some (.long e), none, none, none, none], [], (xuI (xuI (xuJ (xuI w 11 10 1) 11 9 e) 11 7 0) 11 8 1))) rfl ?_
    obtain ⟨w1, e1⟩ : ∃ w1, w1 = (xuI (xuI (xuJ (xuI w 11 10 1) 11 9 e) 11 7 0) 11 8 1) := ⟨_, rfl⟩
    rw [← e1]
    have a1 : w1.1 11 7 = 0 ∧ w1.1 11 8 = 1 ∧ w1.1 11 10 = 1 ∧ w1.2 11 9 = e := by rw [e1]; simp [uI1, uI2, uJ1, uJ2]
    have ka : xkq kA_p w w1 := by rw [e1]; exact xkq_I (xkq_I (xkq_J (xkq_I xkq_rfl rfl) rfl) rfl) rfl
    obtain ⟨r2, w2, hc, hr, h12, hk2⟩ := c_fillNear_p (w := w1)
    subst hr
    refine xQ.go 1 (F1 := (42, [some (.ref 11), some (.long e), none, none, none, none], [.ref 11], w1)) rfl ?_
    refine xQ.call rfl (hc) ?_
    show xQ MX4_read (45, [some (.ref 11), some (.long e), none, none, none, none], [], w2) _
    rw [a1.2.2.2] at h12
    refine xQ.go 2 (F1 := (47, [some (.ref 11), some (.long e), none, some (.int 0), none, none], [], w2)) rfl ?_
    refine xQ.loop (S := xW) (fun k s => (47, [some (.ref 11), some (.long e), none, some (.int (nI k)), none, none], [], s)) (fun k s => pI_p s (gr e) (blks (gr e) (10 * k)) ∧ xkq kB_p w2 s) 10 w2 (rfl) (⟨⟨(xkq_at hk2 11 7).trans a1.1, (xkq_at hk2 11 8).trans a1.2.1, (fun i p hi => by cases hi), (fun p hp => by cases hp)⟩, xkq_rfl⟩) ?_ ?_
    · intro k s hk hI K
      refine xQ.go 3 (F1 := (bif decide (10 ≤ (nI k)) then 132 else 53, [some (.ref 11), some (.long e), none, some (.int (nI k)), none, none], [], s)) rfl ?_
      refine xQ.brF (decide_eq_false (nI_ge (b := 10) (by omega) (by omega))) ?_
      refine xQ.go 4 (F1 := (58, [some (.ref 11), some (.long e), none, some (.int (nI k)), some (.int ((nI k) + 1)), none], [], s)) rfl ?_
      rw [show nI k + 1 = nI (k + 1) from (nI_succ k).symm]
      have hsk : ∀ n, n = k + 1 → blks (gr e) (10 * k + n) = blks (gr e) (10 * k) := fun n hn => pfold_skip (by omega) (by omega)
      refine xQ.loop (S := xW) (fun k2 s2 => (58, [some (.ref 11), some (.long e), none, some (.int (nI k)), some (.int (nI (k + 1 + k2))), none], [], s2)) (fun k2 s2 => pI_p s2 (gr e) (blks (gr e) (10 * k + (k + 1 + k2))) ∧ xkq kB_p w2 s2) (9 - k) s (rfl) (by rw [hsk (k + 1 + 0) rfl]; exact hI) ?_ ?_
      · intro k2 s2 hk2 hI2 K2
        obtain ⟨b, hbe⟩ : ∃ b, b = k + 1 + k2 := ⟨_, rfl⟩
        rw [show k + 1 + (k2 + 1) = b + 1 by omega] at K2
        rw [← hbe] at hI2 ⊢
        obtain ⟨i1, i3⟩ := hI2
        have hnx : blks (gr e) (10 * k + (b + 1)) = bAdd (gr e) (blks (gr e) (10 * k + b)) k b := pfold_next (by omega) (by omega)
        have hO : BOK (gr e) (bAdd (gr e) (blks (gr e) (10 * k + b)) k b) := by rw [← hnx]; exact blks_ok hg _ (by omega)
        rw [hnx] at K2
        have hO0 : BOK (gr e) (blks (gr e) (10 * k + b)) := blks_ok hg _ (by omega)
        generalize blks (gr e) (10 * k + b) = l at *
        have h9 := blk_nine hg hO0
        have hnear : ∀ v, v < 10 → s2.1 12 v = mk (gr e v) := fun v hv => (xkq_at i3 12 v).trans (h12 v hv)
        have skip : bAdd (gr e) l k b = l → xQ MX4_read (120, [some (.ref 11), some (.long e), none, some (.int (nI k)), some (.int (nI b)), none], [], s2) (fun r w1 => r = some (.int (if flt (gr e) (blks (gr e) 100) then 1 else 0)) ∧ pN_p w1 e ∧ xkq kA_p w w1) := by
          intro hsame
          refine xQ.go 2 (F1 := (58, [some (.ref 11), some (.long e), none, some (.int (nI k)), some (.int ((nI b) + 1)), none], [], s2)) rfl ?_
          rw [← nI_succ]
          rw [hsame] at K2
          exact K2 s2 ⟨i1, i3⟩
        refine xQ.go 3 (F1 := (bif decide (10 ≤ (nI b)) then 126 else 65, [some (.ref 11), some (.long e), none, some (.int (nI k)), some (.int (nI b)), none], [], s2)) rfl ?_
        refine xQ.brF (decide_eq_false (nI_ge (b := 10) (by omega) (by omega))) ?_
        refine xQ.go 3 (F1 := (70, [some (.ref 11), some (.long e), none, some (.int (nI k)), some (.int (nI b)), none], [.int (nI k), .ref 12], s2)) rfl ?_
        refine xQ.call rfl (c_at rfl (by omega) (by omega)) ?_
        show xQ MX4_read (73, [some (.ref 11), some (.long e), none, some (.int (nI k)), some (.int (nI b)), none], [.int (s2.1 12 k)], s2) _
        rw [hnear k (by omega)]
        refine xQ.go 1 (F1 := (75, [some (.ref 11), some (.long e), none, some (.int (nI k)), some (.int (nI b)), none], [.int (nI b), .int (mk (gr e k))], s2)) rfl ?_
        refine xQ.call rfl (c_has (show b < 10 by omega)) ?_
        show xQ MX4_read (78, [some (.ref 11), some (.long e), none, some (.int (nI k)), some (.int (nI b)), none], [.int (if gr e k b then 1 else 0)], s2) _
        refine xQ.go 1 (F1 := (bif decide ((if gr e k b then 1 else 0) = 0) then 120 else 81, [some (.ref 11), some (.long e), none, some (.int (nI k)), some (.int (nI b)), none], [], s2)) rfl ?_
        cases hGk : gr e k b with
        | false =>
          refine xQ.brT (by decide) ?_
          exact skip (by unfold bAdd; rw [hGk]; rfl)
        | true =>
          refine xQ.brF (by decide) ?_
          refine xQ.go 3 (F1 := (85, [some (.ref 11), some (.long e), none, some (.int (nI k)), some (.int (nI b)), none], [.int (nI b), .int (nI k), .ref 11], s2)) rfl ?_
          refine xQ.call rfl (c_blockOf_p (show k < 10 by omega) (show b < 10 by omega) i1.1 h9 (fun i p hi => (i1.2.2.1 i p hi).1)) ?_
          show xQ MX4_read (88, [some (.ref 11), some (.long e), none, some (.int (nI k)), some (.int (nI b)), none], [.int (match l.findIdx? (fun p => bS (gr e) p k && bS (gr e) p b) with | some i => nI i | none => -1)], s2) _
          refine xQ.go 2 (F1 := (bif !decide ((match l.findIdx? (fun p => bS (gr e) p k && bS (gr e) p b) with | some i => nI i | none => -1) = (-1)) then 120 else 92, [some (.ref 11), some (.long e), none, some (.int (nI k)), some (.int (nI b)), none], [], s2)) rfl ?_
          cases hfi : l.findIdx? (fun p => bS (gr e) p k && bS (gr e) p b) with
          | some i =>
            have hil := (List.findIdx?_eq_some_iff_getElem.mp hfi)
            obtain ⟨hil, hit, _⟩ := hil
            refine xQ.brT ?_ ?_
            · rw [decide_eq_false]
              · rfl
              · intro e2
                have := nI_pos (n := i) (by omega)
                exact this (by show nI i < 0; rw [show nI i = -1 from e2]; decide)
            refine skip ?_
            unfold bAdd
            rw [show l.any (fun p => bS (gr e) p k && bS (gr e) p b) = true from List.any_eq_true.mpr ⟨l[i], List.getElem_mem hil, hit⟩, Bool.not_true, Bool.and_false]
            rfl
          | none =>
            refine xQ.brF (by decide) ?_
            have hany : l.any (fun p => bS (gr e) p k && bS (gr e) p b) = false := by
              rw [List.any_eq_false]
              intro p hp
              rw [List.findIdx?_eq_none_iff.mp hfi p hp]
              decide
            have hadd : bAdd (gr e) l k b = l ++ [(k, b)] := by
              unfold bAdd
              rw [hany, hGk]
              rfl
            rw [hadd] at K2 hO
            have h9' := blk_nine hg hO
            rw [List.length_append] at h9'
            simp only [List.length_cons, List.length_nil] at h9'
            have hp : gr e (k, b).1 (k, b).2 = true := hGk
            refine xQ.go 3 (F1 := (96, [some (.ref 11), some (.long e), none, some (.int (nI k)), some (.int (nI b)), none], [.int (nI b), .int (nI k), .ref 11], s2)) rfl ?_
            refine xQ.call rfl (c_blockAround_p (G := gr e) hnear (show k < 10 by omega) (show b < 10 by omega)) ?_
            show xQ MX4_read (99, [some (.ref 11), some (.long e), none, some (.int (nI k)), some (.int (nI b)), none], [.int (mk (bS (gr e) (k, b)))], s2) _
            obtain ⟨r4, w4, hc4, hr4, g1, g2, g3, g4⟩ := c_embed_p (w := s2) hg (bS_bic hg hp) (fun v hv => (bS_iff.mp hv).1) (bE_pos hg hp) hnear
            subst hr4
            refine xQ.go 6 (F1 := (111, [some (.ref 11), some (.long e), none, some (.int (nI k)), some (.int (nI b)), some (.int (mk (bS (gr e) (k, b))))], [.int (mk (bS (gr e) (k, b))), .ref 12, .ref 18], s2)) rfl ?_
            refine xQ.call rfl (hc4) ?_
            show xQ MX4_read (114, [some (.ref 11), some (.long e), none, some (.int (nI k)), some (.int (nI b)), some (.int (mk (bS (gr e) (k, b))))], [], w4) _
            obtain ⟨r5, w5, hc5, hr5, q1, q2, q3, q4, q5, q6, q7⟩ := c_keep_p (w := w4) (n := l.length) hg hp (show k < b by omega) ((xkq_at g4 11 7).trans i1.1) (by omega) g1 g2 g3
            subst hr5
            refine xQ.go 2 (F1 := (117, [some (.ref 11), some (.long e), none, some (.int (nI k)), some (.int (nI b)), some (.int (mk (bS (gr e) (k, b))))], [.int (mk (bS (gr e) (k, b))), .ref 11], w4)) rfl ?_
            refine xQ.call rfl (hc5) ?_
            show xQ MX4_read (120, [some (.ref 11), some (.long e), none, some (.int (nI k)), some (.int (nI b)), some (.int (mk (bS (gr e) (k, b))))], [], w5) _
            refine xQ.go 2 (F1 := (58, [some (.ref 11), some (.long e), none, some (.int (nI k)), some (.int ((nI b) + 1)), some (.int (mk (bS (gr e) (k, b))))], [], w5)) rfl ?_
            refine xQ.less [some (.ref 11), some (.long e), none, some (.int (nI k)), some (.int ((nI b) + 1)), none] (by simp [xleb]) ?_
            rw [← nI_succ]
            exact K2 w5 ⟨pI_add_p hg hO i1 g4 q1 q2 q3 q4 q5 q6, xkq_trans (xkq_trans i3 (xkq_mono rfl g4)) (xkq_mono rfl q7)⟩
      · intro s2 hI2
        rw [show 10 * k + (k + 1 + (9 - k)) = 10 * (k + 1) by omega, show k + 1 + (9 - k) = 10 by omega] at *
        refine xQ.go 3 (F1 := (bif decide (10 ≤ (nI 10)) then 126 else 65, [some (.ref 11), some (.long e), none, some (.int (nI k)), some (.int (nI 10)), none], [], s2)) rfl ?_
        refine xQ.brT (rfl) ?_
        refine xQ.go 2 (F1 := (47, [some (.ref 11), some (.long e), none, some (.int ((nI k) + 1)), some (.int (nI 10)), none], [], s2)) rfl ?_
        refine xQ.less [some (.ref 11), some (.long e), none, some (.int ((nI k) + 1)), none, none] (by simp [xleb]) ?_
        rw [← nI_succ]
        exact K s2 hI2
    · intro s hI
      obtain ⟨i1, i3⟩ := hI
      refine xQ.go 3 (F1 := (bif decide (10 ≤ (nI 10)) then 132 else 53, [some (.ref 11), some (.long e), none, some (.int (nI 10)), none, none], [], s)) rfl ?_
      refine xQ.brT (rfl) ?_
      refine xQ.go 2 (F1 := (136, [some (.ref 11), some (.long e), none, some (.int (nI 10)), none, none], [.int (s.1 11 8)], s)) rfl ?_
      rw [i1.2.1]
      refine xQ.iret .boolean 1 rfl rfl (nar _) ?_
      exact ⟨rfl, ⟨(xkq_at i3 11 10).trans ((xkq_at hk2 11 10).trans a1.2.2.1), (xkq_atJ i3 11 9).trans ((xkq_atJ hk2 11 9).trans a1.2.2.2), fun v hv => (xkq_at i3 12 v).trans (h12 v hv), i1⟩, xkq_trans (xkq_trans ka (xkq_mono rfl hk2)) (xkq_mono rfl i3)⟩
  refine xD.of ?_
  show xQ MX4_read (0, [some (.ref 11), some (.long e), none, none, none, none], [], w) _
  rcases hP with h0 | ⟨E, hE⟩
  · refine xQ.go 3 (F1 := (bif decide ((w.1 11 10) = 0) then 21 else 7, [some (.ref 11), some (.long e), none, none, none, none], [], w)) rfl ?_
    refine xQ.brT (by rw [h0]; rfl) ?_
    exact com
  · refine xQ.go 3 (F1 := (bif decide ((w.1 11 10) = 0) then 21 else 7, [some (.ref 11), some (.long e), none, none, none, none], [], w)) rfl ?_
    refine xQ.brF (by rw [hE.1]; rfl) ?_
    refine xQ.go 5 (F1 := (bif !decide ((lg_cmp (w.2 11 9) e) = 0) then 21 else 16, [some (.ref 11), some (.long e), none, none, none, none], [], w)) rfl ?_
    rw [lg_cmp0, hE.2.1]
    by_cases e3 : E = e
    · rw [e3] at hE
      refine xQ.brF (by rw [decide_eq_true e3]; rfl) ?_
      refine xQ.go 2 (F1 := (20, [some (.ref 11), some (.long e), none, none, none, none], [.int (w.1 11 8)], w)) rfl ?_
      rw [hE.2.2.2.2.1]
      refine xQ.iret .boolean 1 rfl rfl (nar _) ?_
      exact ⟨rfl, hE, xkq_rfl⟩
    · refine xQ.brT (by rw [decide_eq_false e3]; rfl) ?_
      exact com

abbrev kA_t : xCS := [(25, none), (26, none), (27, none), (28, none), (29, none), (30, none), (31, none), (32, none), (33, none), (34, none), (35, none), (36, none), (37, none), (38, none)]
abbrev kB_t : xCS := [(25, some 7), (25, some 8), (27, none), (28, none), (29, none), (30, none), (31, none), (32, none), (33, none), (34, none), (35, none), (36, none), (37, none), (38, none)]
abbrev pI_t (w : xW) (G : Nat → Nat → Bool) (l : List xPr) : Prop := pI 25 27 28 29 30 31 w G l
abbrev pN_t (w : xW) (E : Int64) : Prop := pN 25 26 27 28 29 30 31 w E
abbrev pOK_t (w : xW) : Prop := pOK 25 26 27 28 29 30 31 w
/-- a block is added -/
theorem pI_add_t {w w1 w2 : xW} {G : Nat → Nat → Bool} {l : List xPr} {p : xPr} (hg : gok G) (hO : BOK G (l ++ [p])) (h : pI_t w G l) (k1 : xkq [(32, none), (33, none), (34, none), (35, none), (36, none), (37, none), (38, none)] w w1) (h7 : w2.1 25 7 = nI (l.length + 1)) (row : w2.1 27 l.length = mk (bS G p) ∧ w2.1 28 l.length = nI (bE G p) ∧ w2.1 30 l.length = nI (bPl G p) ∧ w2.1 29 l.length = nI (bFa G p)) (hfl : bPl G p = bE G p → w2.1 25 8 = w1.1 25 8 ∧ ∀ v x y, bSc G p v x y → w2.1 31 (10 * v + x) = nI y) (hnf : bPl G p ≠ bE G p → w2.1 25 8 = 0) (hs : ∀ v x, v < 10 → x < 10 → bH G (bS G p) v x = false → w2.1 31 (10 * v + x) = w1.1 31 (10 * v + x)) (oth : ∀ i, i ≠ l.length → w2.1 27 i = w1.1 27 i ∧ w2.1 28 i = w1.1 28 i ∧ w2.1 29 i = w1.1 29 i ∧ w2.1 30 i = w1.1 30 i) : pI_t w2 G (l ++ [p]) := by
  obtain ⟨i1, i2, i3, i4⟩ := h
  have hpm : p ∈ l ++ [p] := List.mem_append_right _ List.mem_cons_self
  have hlast : (l ++ [p])[l.length]? = some p := by simp
  refine ⟨by rw [h7]; simp, ?_, fun i q hi => ?_, fun q hq hqf v x y hsc => ?_⟩
  · rw [flt_app]
    by_cases e : bPl G p = bE G p
    · rw [(hfl e).1, xkq_at k1 25 8, i2, decide_eq_true e, Bool.and_true]
    · rw [hnf e, decide_eq_false e, Bool.and_false]; rfl
  · by_cases e : i = l.length
    · rw [e, hlast] at hi
      cases hi
      rw [e]
      exact ⟨row.1, row.2.1, row.2.2.2, row.2.2.1⟩
    · have hlt : i < l.length := by
        have := (List.getElem?_eq_some_iff.mp hi).1
        rw [List.length_append] at this
        simp only [List.length_cons, List.length_nil] at this
        omega
      rw [List.getElem?_append_left hlt] at hi
      obtain ⟨o1, o2, o3, o4⟩ := oth i e
      rw [o1, o2, o3, o4, xkq_at k1 27 i, xkq_at k1 28 i, xkq_at k1 29 i, xkq_at k1 30 i]
      exact i3 i q hi
  · rcases List.mem_append.mp hq with hq | hq
    · have hq2 := hO.1 q (List.mem_append_left _ hq)
      have hed := (bSc_edge hg hq2.1 hqf hsc).1
      have h10 := hg.2.2 _ _ (bH_iff.mp hed).1
      rw [hs v x h10.1 h10.2 ?_, xkq_at k1 31]
      · exact i4 q hq hqf v x y hsc
      · cases e : bH G (bS G p) v x with
        | false => rfl
        | true =>
          exfalso
          obtain ⟨i, hi, ei⟩ := List.mem_iff_getElem.mp hq
          have e1 := bH_iff.mp hed
          have e2 := bH_iff.mp e
          have := BOK_one hg hO (i := i) (j := l.length) (p := q) (q := p) (by rw [List.getElem?_append_left hi, List.getElem?_eq_getElem hi, ei]) hlast e1.1 e1.2.1 e1.2.2 e2.2.1 e2.2.2
          omega
    · rw [List.mem_singleton.mp hq] at hqf hsc
      exact (hfl hqf).2 v x y hsc
theorem c_read_t {w : xW} {e : Int64} (hP : pOK_t w) : xD MX4_read [.ref 25, .long e] w (fun r w1 => r = some (.int (if flt (gr e) (blks (gr e) 100) then 1 else 0)) ∧ pN_t w1 e ∧ xkq kA_t w w1) := by
  have hg := gr_gok e
  have nar : ∀ b : Bool, narrow .boolean (.int (if b then 1 else 0)) = .int (if b then 1 else 0) := fun b => by cases b <;> rfl
  have com : xQ MX4_read (21, [some (.ref 25), some (.long e), none, none, none, none], [], w) (fun r w1 => r = some (.int (if flt (gr e) (blks (gr e) 100) then 1 else 0)) ∧ pN_t w1 e ∧ xkq kA_t w w1) := by
    refine xQ.go 12 (F1 := (41, [some (.ref 25), some (.long e), none, none, none, none], [], (xuI (xuI (xuJ (xuI w 25 10 1) 25 9 e) 25 7 0) 25 8 1))) rfl ?_
    obtain ⟨w1, e1⟩ : ∃ w1, w1 = (xuI (xuI (xuJ (xuI w 25 10 1) 25 9 e) 25 7 0) 25 8 1) := ⟨_, rfl⟩
    rw [← e1]
    have a1 : w1.1 25 7 = 0 ∧ w1.1 25 8 = 1 ∧ w1.1 25 10 = 1 ∧ w1.2 25 9 = e := by rw [e1]; simp [uI1, uI2, uJ1, uJ2]
    have ka : xkq kA_t w w1 := by rw [e1]; exact xkq_I (xkq_I (xkq_J (xkq_I xkq_rfl rfl) rfl) rfl) rfl
    obtain ⟨r2, w2, hc, hr, h12, hk2⟩ := c_fillNear_t (w := w1)
    subst hr
    refine xQ.go 1 (F1 := (42, [some (.ref 25), some (.long e), none, none, none, none], [.ref 25], w1)) rfl ?_
    refine xQ.call rfl (hc) ?_
    show xQ MX4_read (45, [some (.ref 25), some (.long e), none, none, none, none], [], w2) _
    rw [a1.2.2.2] at h12
    refine xQ.go 2 (F1 := (47, [some (.ref 25), some (.long e), none, some (.int 0), none, none], [], w2)) rfl ?_
    refine xQ.loop (S := xW) (fun k s => (47, [some (.ref 25), some (.long e), none, some (.int (nI k)), none, none], [], s)) (fun k s => pI_t s (gr e) (blks (gr e) (10 * k)) ∧ xkq kB_t w2 s) 10 w2 (rfl) (⟨⟨(xkq_at hk2 25 7).trans a1.1, (xkq_at hk2 25 8).trans a1.2.1, (fun i p hi => by cases hi), (fun p hp => by cases hp)⟩, xkq_rfl⟩) ?_ ?_
    · intro k s hk hI K
      refine xQ.go 3 (F1 := (bif decide (10 ≤ (nI k)) then 132 else 53, [some (.ref 25), some (.long e), none, some (.int (nI k)), none, none], [], s)) rfl ?_
      refine xQ.brF (decide_eq_false (nI_ge (b := 10) (by omega) (by omega))) ?_
      refine xQ.go 4 (F1 := (58, [some (.ref 25), some (.long e), none, some (.int (nI k)), some (.int ((nI k) + 1)), none], [], s)) rfl ?_
      rw [show nI k + 1 = nI (k + 1) from (nI_succ k).symm]
      have hsk : ∀ n, n = k + 1 → blks (gr e) (10 * k + n) = blks (gr e) (10 * k) := fun n hn => pfold_skip (by omega) (by omega)
      refine xQ.loop (S := xW) (fun k2 s2 => (58, [some (.ref 25), some (.long e), none, some (.int (nI k)), some (.int (nI (k + 1 + k2))), none], [], s2)) (fun k2 s2 => pI_t s2 (gr e) (blks (gr e) (10 * k + (k + 1 + k2))) ∧ xkq kB_t w2 s2) (9 - k) s (rfl) (by rw [hsk (k + 1 + 0) rfl]; exact hI) ?_ ?_
      · intro k2 s2 hk2 hI2 K2
        obtain ⟨b, hbe⟩ : ∃ b, b = k + 1 + k2 := ⟨_, rfl⟩
        rw [show k + 1 + (k2 + 1) = b + 1 by omega] at K2
        rw [← hbe] at hI2 ⊢
        obtain ⟨i1, i3⟩ := hI2
        have hnx : blks (gr e) (10 * k + (b + 1)) = bAdd (gr e) (blks (gr e) (10 * k + b)) k b := pfold_next (by omega) (by omega)
        have hO : BOK (gr e) (bAdd (gr e) (blks (gr e) (10 * k + b)) k b) := by rw [← hnx]; exact blks_ok hg _ (by omega)
        rw [hnx] at K2
        have hO0 : BOK (gr e) (blks (gr e) (10 * k + b)) := blks_ok hg _ (by omega)
        generalize blks (gr e) (10 * k + b) = l at *
        have h9 := blk_nine hg hO0
        have hnear : ∀ v, v < 10 → s2.1 26 v = mk (gr e v) := fun v hv => (xkq_at i3 26 v).trans (h12 v hv)
        have skip : bAdd (gr e) l k b = l → xQ MX4_read (120, [some (.ref 25), some (.long e), none, some (.int (nI k)), some (.int (nI b)), none], [], s2) (fun r w1 => r = some (.int (if flt (gr e) (blks (gr e) 100) then 1 else 0)) ∧ pN_t w1 e ∧ xkq kA_t w w1) := by
          intro hsame
          refine xQ.go 2 (F1 := (58, [some (.ref 25), some (.long e), none, some (.int (nI k)), some (.int ((nI b) + 1)), none], [], s2)) rfl ?_
          rw [← nI_succ]
          rw [hsame] at K2
          exact K2 s2 ⟨i1, i3⟩
        refine xQ.go 3 (F1 := (bif decide (10 ≤ (nI b)) then 126 else 65, [some (.ref 25), some (.long e), none, some (.int (nI k)), some (.int (nI b)), none], [], s2)) rfl ?_
        refine xQ.brF (decide_eq_false (nI_ge (b := 10) (by omega) (by omega))) ?_
        refine xQ.go 3 (F1 := (70, [some (.ref 25), some (.long e), none, some (.int (nI k)), some (.int (nI b)), none], [.int (nI k), .ref 26], s2)) rfl ?_
        refine xQ.call rfl (c_at rfl (by omega) (by omega)) ?_
        show xQ MX4_read (73, [some (.ref 25), some (.long e), none, some (.int (nI k)), some (.int (nI b)), none], [.int (s2.1 26 k)], s2) _
        rw [hnear k (by omega)]
        refine xQ.go 1 (F1 := (75, [some (.ref 25), some (.long e), none, some (.int (nI k)), some (.int (nI b)), none], [.int (nI b), .int (mk (gr e k))], s2)) rfl ?_
        refine xQ.call rfl (c_has (show b < 10 by omega)) ?_
        show xQ MX4_read (78, [some (.ref 25), some (.long e), none, some (.int (nI k)), some (.int (nI b)), none], [.int (if gr e k b then 1 else 0)], s2) _
        refine xQ.go 1 (F1 := (bif decide ((if gr e k b then 1 else 0) = 0) then 120 else 81, [some (.ref 25), some (.long e), none, some (.int (nI k)), some (.int (nI b)), none], [], s2)) rfl ?_
        cases hGk : gr e k b with
        | false =>
          refine xQ.brT (by decide) ?_
          exact skip (by unfold bAdd; rw [hGk]; rfl)
        | true =>
          refine xQ.brF (by decide) ?_
          refine xQ.go 3 (F1 := (85, [some (.ref 25), some (.long e), none, some (.int (nI k)), some (.int (nI b)), none], [.int (nI b), .int (nI k), .ref 25], s2)) rfl ?_
          refine xQ.call rfl (c_blockOf_t (show k < 10 by omega) (show b < 10 by omega) i1.1 h9 (fun i p hi => (i1.2.2.1 i p hi).1)) ?_
          show xQ MX4_read (88, [some (.ref 25), some (.long e), none, some (.int (nI k)), some (.int (nI b)), none], [.int (match l.findIdx? (fun p => bS (gr e) p k && bS (gr e) p b) with | some i => nI i | none => -1)], s2) _
          refine xQ.go 2 (F1 := (bif !decide ((match l.findIdx? (fun p => bS (gr e) p k && bS (gr e) p b) with | some i => nI i | none => -1) = (-1)) then 120 else 92, [some (.ref 25), some (.long e), none, some (.int (nI k)), some (.int (nI b)), none], [], s2)) rfl ?_
          cases hfi : l.findIdx? (fun p => bS (gr e) p k && bS (gr e) p b) with
          | some i =>
            have hil := (List.findIdx?_eq_some_iff_getElem.mp hfi)
            obtain ⟨hil, hit, _⟩ := hil
            refine xQ.brT ?_ ?_
            · rw [decide_eq_false]
              · rfl
              · intro e2
                have := nI_pos (n := i) (by omega)
                exact this (by show nI i < 0; rw [show nI i = -1 from e2]; decide)
            refine skip ?_
            unfold bAdd
            rw [show l.any (fun p => bS (gr e) p k && bS (gr e) p b) = true from List.any_eq_true.mpr ⟨l[i], List.getElem_mem hil, hit⟩, Bool.not_true, Bool.and_false]
            rfl
          | none =>
            refine xQ.brF (by decide) ?_
            have hany : l.any (fun p => bS (gr e) p k && bS (gr e) p b) = false := by
              rw [List.any_eq_false]
              intro p hp
              rw [List.findIdx?_eq_none_iff.mp hfi p hp]
              decide
            have hadd : bAdd (gr e) l k b = l ++ [(k, b)] := by
              unfold bAdd
              rw [hany, hGk]
              rfl
            rw [hadd] at K2 hO
            have h9' := blk_nine hg hO
            rw [List.length_append] at h9'
            simp only [List.length_cons, List.length_nil] at h9'
            have hp : gr e (k, b).1 (k, b).2 = true := hGk
            refine xQ.go 3 (F1 := (96, [some (.ref 25), some (.long e), none, some (.int (nI k)), some (.int (nI b)), none], [.int (nI b), .int (nI k), .ref 25], s2)) rfl ?_
            refine xQ.call rfl (c_blockAround_t (G := gr e) hnear (show k < 10 by omega) (show b < 10 by omega)) ?_
            show xQ MX4_read (99, [some (.ref 25), some (.long e), none, some (.int (nI k)), some (.int (nI b)), none], [.int (mk (bS (gr e) (k, b)))], s2) _
            obtain ⟨r4, w4, hc4, hr4, g1, g2, g3, g4⟩ := c_embed_t (w := s2) hg (bS_bic hg hp) (fun v hv => (bS_iff.mp hv).1) (bE_pos hg hp) hnear
            subst hr4
            refine xQ.go 6 (F1 := (111, [some (.ref 25), some (.long e), none, some (.int (nI k)), some (.int (nI b)), some (.int (mk (bS (gr e) (k, b))))], [.int (mk (bS (gr e) (k, b))), .ref 26, .ref 32], s2)) rfl ?_
            refine xQ.call rfl (hc4) ?_
            show xQ MX4_read (114, [some (.ref 25), some (.long e), none, some (.int (nI k)), some (.int (nI b)), some (.int (mk (bS (gr e) (k, b))))], [], w4) _
            obtain ⟨r5, w5, hc5, hr5, q1, q2, q3, q4, q5, q6, q7⟩ := c_keep_t (w := w4) (n := l.length) hg hp (show k < b by omega) ((xkq_at g4 25 7).trans i1.1) (by omega) g1 g2 g3
            subst hr5
            refine xQ.go 2 (F1 := (117, [some (.ref 25), some (.long e), none, some (.int (nI k)), some (.int (nI b)), some (.int (mk (bS (gr e) (k, b))))], [.int (mk (bS (gr e) (k, b))), .ref 25], w4)) rfl ?_
            refine xQ.call rfl (hc5) ?_
            show xQ MX4_read (120, [some (.ref 25), some (.long e), none, some (.int (nI k)), some (.int (nI b)), some (.int (mk (bS (gr e) (k, b))))], [], w5) _
            refine xQ.go 2 (F1 := (58, [some (.ref 25), some (.long e), none, some (.int (nI k)), some (.int ((nI b) + 1)), some (.int (mk (bS (gr e) (k, b))))], [], w5)) rfl ?_
            refine xQ.less [some (.ref 25), some (.long e), none, some (.int (nI k)), some (.int ((nI b) + 1)), none] (by simp [xleb]) ?_
            rw [← nI_succ]
            exact K2 w5 ⟨pI_add_t hg hO i1 g4 q1 q2 q3 q4 q5 q6, xkq_trans (xkq_trans i3 (xkq_mono rfl g4)) (xkq_mono rfl q7)⟩
      · intro s2 hI2
        rw [show 10 * k + (k + 1 + (9 - k)) = 10 * (k + 1) by omega, show k + 1 + (9 - k) = 10 by omega] at *
        refine xQ.go 3 (F1 := (bif decide (10 ≤ (nI 10)) then 126 else 65, [some (.ref 25), some (.long e), none, some (.int (nI k)), some (.int (nI 10)), none], [], s2)) rfl ?_
        refine xQ.brT (rfl) ?_
        refine xQ.go 2 (F1 := (47, [some (.ref 25), some (.long e), none, some (.int ((nI k) + 1)), some (.int (nI 10)), none], [], s2)) rfl ?_
        refine xQ.less [some (.ref 25), some (.long e), none, some (.int ((nI k) + 1)), none, none] (by simp [xleb]) ?_
        rw [← nI_succ]
        exact K s2 hI2
    · intro s hI
      obtain ⟨i1, i3⟩ := hI
      refine xQ.go 3 (F1 := (bif decide (10 ≤ (nI 10)) then 132 else 53, [some (.ref 25), some (.long e), none, some (.int (nI 10)), none, none], [], s)) rfl ?_
      refine xQ.brT (rfl) ?_
      refine xQ.go 2 (F1 := (136, [some (.ref 25), some (.long e), none, some (.int (nI 10)), none, none], [.int (s.1 25 8)], s)) rfl ?_
      rw [i1.2.1]
      refine xQ.iret .boolean 1 rfl rfl (nar _) ?_
      exact ⟨rfl, ⟨(xkq_at i3 25 10).trans ((xkq_at hk2 25 10).trans a1.2.2.1), (xkq_atJ i3 25 9).trans ((xkq_atJ hk2 25 9).trans a1.2.2.2), fun v hv => (xkq_at i3 26 v).trans (h12 v hv), i1⟩, xkq_trans (xkq_trans ka (xkq_mono rfl hk2)) (xkq_mono rfl i3)⟩
  refine xD.of ?_
  show xQ MX4_read (0, [some (.ref 25), some (.long e), none, none, none, none], [], w) _
  rcases hP with h0 | ⟨E, hE⟩
  · refine xQ.go 3 (F1 := (bif decide ((w.1 25 10) = 0) then 21 else 7, [some (.ref 25), some (.long e), none, none, none, none], [], w)) rfl ?_
    refine xQ.brT (by rw [h0]; rfl) ?_
    exact com
  · refine xQ.go 3 (F1 := (bif decide ((w.1 25 10) = 0) then 21 else 7, [some (.ref 25), some (.long e), none, none, none, none], [], w)) rfl ?_
    refine xQ.brF (by rw [hE.1]; rfl) ?_
    refine xQ.go 5 (F1 := (bif !decide ((lg_cmp (w.2 25 9) e) = 0) then 21 else 16, [some (.ref 25), some (.long e), none, none, none, none], [], w)) rfl ?_
    rw [lg_cmp0, hE.2.1]
    by_cases e3 : E = e
    · rw [e3] at hE
      refine xQ.brF (by rw [decide_eq_true e3]; rfl) ?_
      refine xQ.go 2 (F1 := (20, [some (.ref 25), some (.long e), none, none, none, none], [.int (w.1 25 8)], w)) rfl ?_
      rw [hE.2.2.2.2.1]
      refine xQ.iret .boolean 1 rfl rfl (nar _) ?_
      exact ⟨rfl, hE, xkq_rfl⟩
    · refine xQ.brT (by rw [decide_eq_false e3]; rfl) ?_
      exact com
