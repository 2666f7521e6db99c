/-! the reference: queries of the walks -/
theorem M_walks {w : xW} {A : xAb} (hM : mI w A) : xD MX8_walks [.ref 45] w (mV w A (qWalks A)) := by
  refine xD.of ?_
  show xQ MX8_walks (0, [some (.ref 45)], [], w) _
  obtain ⟨r1, w1, hc1, hr1, i1, m1, k1⟩ := m_findW hM
  subst hr1
  refine xQ.go 1 (F1 := (1, [some (.ref 45)], [.ref 45], w)) rfl ?_
  refine xQ.call rfl (hc1) ?_
  show xQ MX8_walks (4, [some (.ref 45)], [.int (if fl A.1.1 = true then 1 else 0)], w1) _
  unfold qWalks
  refine xQ.go 1 (F1 := (bif decide ((if fl A.1.1 = true then 1 else 0) = 0) then 14 else 7, [some (.ref 45)], [], w1)) rfl ?_
  by_cases hf : fl A.1.1 = true
  · rw [if_pos hf, if_pos hf]
    refine xQ.brF rfl ?_
    refine xQ.go 3 (F1 := (16, [some (.ref 45)], [.int (w1.1 45 34)], w1)) rfl ?_
    rw [(m1 hf).2.1]
    refine xQ.iret .int 1 rfl rfl (rfl) ?_
    exact ⟨rfl, i1, kN_M k1⟩
  · rw [if_neg hf, if_neg hf]
    refine xQ.brT rfl ?_
    refine xQ.go 1 (F1 := (16, [some (.ref 45)], [.int (-4)], w1)) rfl ?_
    refine xQ.iret .int 1 rfl rfl (rfl) ?_
    exact ⟨rfl, i1, kN_M k1⟩
theorem M_wof {w : xW} {A : xAb} {x y : Int32} (hM : mI w A) : xD MX8_walkOf [.ref 45, .int x, .int y] w (mV w A (qWOf A x y)) := by
  refine xD.of ?_
  show xQ MX8_walkOf (0, [some (.ref 45), some (.int x), some (.int y)], [], w) _
  refine xQ.go 3 (F1 := (3, [some (.ref 45), some (.int x), some (.int y)], [.int y, .int x, .ref 45], w)) rfl ?_
  refine xQ.call rfl (m_isEdge hM) ?_
  show xQ MX8_walkOf (6, [some (.ref 45), some (.int x), some (.int y)], [.int (if jn A.1.1 x y = true then 1 else 0)], w) _
  refine xQ.go 1 (F1 := (bif !decide ((if jn A.1.1 x y = true then 1 else 0) = 0) then 11 else 9, [some (.ref 45), some (.int x), some (.int y)], [], w)) rfl ?_
  by_cases hj : jn A.1.1 x y = true
  · obtain ⟨a, b, ha, hb, hne, ex, ey, hx, hy, hg⟩ := jn_true hj
    unfold qWOf
    rw [if_pos hj, hx, hy]
    simp only
    rw [if_pos hg]
    refine xQ.brT rfl ?_
    obtain ⟨r1, w1, hc1, hr1, i1, m1, k1⟩ := m_findW hM
    subst hr1
    refine xQ.go 1 (F1 := (12, [some (.ref 45), some (.int x), some (.int y)], [.ref 45], w)) rfl ?_
    refine xQ.call rfl (hc1) ?_
    show xQ MX8_walkOf (15, [some (.ref 45), some (.int x), some (.int y)], [.int (if fl A.1.1 = true then 1 else 0)], w1) _
    refine xQ.go 1 (F1 := (bif decide ((if fl A.1.1 = true then 1 else 0) = 0) then 32 else 18, [some (.ref 45), some (.int x), some (.int y)], [], w1)) rfl ?_
    by_cases hf : fl A.1.1 = true
    · rw [if_pos hf, if_pos hf]
      refine xQ.brF rfl ?_
      rw [ex, ey]
      refine xQ.go 7 (F1 := (28, [some (.ref 45), some (.int (nI a)), some (.int (nI b))], [.int ((10 * (nI a)) + (nI b)), .ref 65], w1)) rfl ?_
      rw [show (10 : Int32) = nI 10 from rfl, jI_mul, jI_add]
      refine xQ.iald rfl (k := 10 * a + b) (rfl) (⟨by omega, by omega⟩) rfl ?_
      show xQ MX8_walkOf (29, [some (.ref 45), some (.int (nI a)), some (.int (nI b))], [.int (w1.1 65 (10 * a + b))], w1) _
      have hT := (trc_ok (nxt_hG (gr_gok A.1.1) hf) 100).2.2.1 (10 * a + b) (by omega) (by rw [(dn_div (v := a) hb).1, (dn_div (v := a) hb).2]; exact hg)
      have hT : ((trG A.1.1 100).1 (10 * a + b)).isSome = true := hT
      have he : labI (-5) ((trG A.1.1 100).1 (10 * a + b)) = labI (-1) ((trG A.1.1 100).1 (10 * a + b)) := by
        cases h : (trG A.1.1 100).1 (10 * a + b) with
        | none => rw [h] at hT; cases hT
        | some k => rfl
      rw [(m1 hf).1 _ (by omega), he]
      refine xQ.go 1 (F1 := (34, [some (.ref 45), some (.int (nI a)), some (.int (nI b))], [.int (labI (-1) ((trG A.1.1 100).1 (10 * a + b)))], w1)) rfl ?_
      refine xQ.iret .int 1 rfl rfl (rfl) ?_
      exact ⟨rfl, i1, kN_M k1⟩
    · rw [if_neg hf, if_neg hf]
      refine xQ.brT rfl ?_
      refine xQ.go 1 (F1 := (34, [some (.ref 45), some (.int x), some (.int y)], [.int (-4)], w1)) rfl ?_
      refine xQ.iret .int 1 rfl rfl (rfl) ?_
      exact ⟨rfl, i1, kN_M k1⟩
  · have es : qWOf A x y = -1 := by
      unfold qWOf
      rcases jn_no hj with h | ⟨a, h, h2⟩ | ⟨a, b, h, h2, h3⟩
      · simp [h]
      · simp [h, h2]
      · simp [h, h2, h3]
    rw [if_neg hj, es]
    refine xQ.brF rfl ?_
    refine xQ.go 1 (F1 := (10, [some (.ref 45), some (.int x), some (.int y)], [.int (-1)], w)) rfl ?_
    refine xQ.iret .int 1 rfl rfl (rfl) ?_
    exact ⟨rfl, hM, xkq_rfl⟩
theorem TOK_walk {N : Nat → Nat → Nat} {G : Nat → Nat → Bool} (hg : gok G) {n : Nat} {s : (Nat → Option Nat) × List (List xPr)} (h : TOK N G n s) {k : Nat} {L : List xPr} (hk : s.2[k]? = some L) : cnt (fun d => decide (s.1 d = some k)) 100 = L.length ∧ (∀ d, s.1 d = some k ↔ d ∈ L.map dn) ∧ ∀ r ∈ L, r.1 < 10 ∧ r.2 < 10 := by
  obtain ⟨t1, t2, t3, t4⟩ := h
  obtain ⟨u1, u2, u3⟩ := t2 k L hk
  have hL : ∀ r ∈ L, r.1 < 10 ∧ r.2 < 10 := fun r hr => hg.2.2 _ _ (u3 r hr)
  have hm : ∀ d, s.1 d = some k ↔ d ∈ L.map dn := fun d => by
    rw [t1]
    constructor
    · rintro ⟨L2, h1, h2⟩
      rw [hk] at h1
      cases h1
      exact h2
    · intro h; exact ⟨L, hk, h⟩
  refine ⟨?_, hm, hL⟩
  rw [← List.length_map (f := dn), ← cnt_lab u1 (fun d hd => by
    obtain ⟨q, hq, e⟩ := List.mem_map.mp hd
    have := hL q hq
    rw [← e]
    show 10 * q.1 + q.2 < 100
    omega)]
  exact cnt_ext fun d _ => decide_eq_decide.mpr (hm d)
theorem lab5_eq {o : Option Nat} {k : Nat} (hk : k < 1000) (h : ∀ j, o = some j → j < 1000) : decide (labI (-5) o = nI k) = decide (o = some k) := by
  cases o with
  | none =>
    refine (decide_eq_false fun e => ?_).trans (decide_eq_false (by simp)).symm
    exact nI_pos (n := k) (by omega) (by rw [← show (-5 : Int32) = nI k from e]; decide)
  | some j =>
    rw [show labI (-5) (some j) = nI j from rfl, nI_dec (by have := h j rfl; omega) (by omega)]
    exact decide_eq_decide.mpr ⟨fun e => by rw [e], fun e => Option.some.inj e⟩
theorem m_lenOf {w : xW} {lab : Nat → Option Nat} {k : Nat} (hk : k < 1000) (hl : ∀ d j, lab d = some j → j < 1000) (hw : ∀ d, d < 100 → w.1 65 d = labI (-5) (lab d)) : xC MX8_lengthOf [.ref 45, .int (nI k)] w (some (.int (nI (cnt (fun d => decide (lab d = some k)) 100)))) w := by
  obtain ⟨m, hm⟩ : ∃ m, m = k := ⟨_, rfl⟩
  rw [← hm]
  have hm3 : m < 1000 := by omega
  unfold xC
  show xE MX8_lengthOf (0, [some (.ref 45), some (.int (nI m)), none, none], [], w) _ _
  refine xE.go 4 (F1 := (4, [some (.ref 45), some (.int (nI m)), some (.int 0), some (.int 0)], [], w)) rfl ?_
  refine xE.loop (S := Unit) (fun k s => (4, [some (.ref 45), some (.int (nI m)), some (.int (nI (cnt (fun d => decide (lab d = some m)) k))), some (.int (nI k))], [], w)) (fun _ _ => True) 100 () (rfl) (trivial) ?_ ?_
  · intro k s hk hI K
    have K := K () trivial
    rw [show cnt (fun d => decide (lab d = some m)) (k + 1) = cnt (fun d => decide (lab d = some m)) k + (bif decide (lab k = some m) then 1 else 0) from rfl] at K
    refine xE.go 3 (F1 := (bif decide (100 ≤ (nI k)) then 34 else 10, [some (.ref 45), some (.int (nI m)), some (.int (nI (cnt (fun d => decide (lab d = some m)) k))), some (.int (nI k))], [], w)) rfl ?_
    refine xE.brF (decide_eq_false (nI_ge (b := 100) (by omega) (by omega))) ?_
    refine xE.go 4 (F1 := (16, [some (.ref 45), some (.int (nI m)), some (.int (nI (cnt (fun d => decide (lab d = some m)) k))), some (.int (nI k))], [.int (nI k), .ref 65, .int (nI (cnt (fun d => decide (lab d = some m)) k))], w)) rfl ?_
    refine xE.iald rfl (k := k) (rfl) (⟨by omega, by omega⟩) rfl ?_
    show xE MX8_lengthOf (17, [some (.ref 45), some (.int (nI m)), some (.int (nI (cnt (fun d => decide (lab d = some m)) k))), some (.int (nI k))], [.int (w.1 65 k), .int (nI (cnt (fun d => decide (lab d = some m)) k))], w) _ _
    rw [hw k hk]
    refine xE.go 2 (F1 := (bif !decide ((labI (-5) (lab k)) = (nI m)) then 25 else 21, [some (.ref 45), some (.int (nI m)), some (.int (nI (cnt (fun d => decide (lab d = some m)) k))), some (.int (nI k))], [.int (nI (cnt (fun d => decide (lab d = some m)) k))], w)) rfl ?_
    rw [lab5_eq hm3 (hl k)]
    cases hd : decide (lab k = some m) with
    | true =>
      rw [hd, cond_true] at K
      refine xE.brF rfl ?_
      refine xE.go 2 (F1 := (26, [some (.ref 45), some (.int (nI m)), some (.int (nI (cnt (fun d => decide (lab d = some m)) k))), some (.int (nI k))], [.int 1, .int (nI (cnt (fun d => decide (lab d = some m)) k))], w)) rfl ?_
      refine xE.go 1 (F1 := (27, [some (.ref 45), some (.int (nI m)), some (.int (nI (cnt (fun d => decide (lab d = some m)) k))), some (.int (nI k))], [.int ((nI (cnt (fun d => decide (lab d = some m)) k)) + 1)], w)) rfl ?_
      rw [← nI_succ]
      refine xE.go 3 (F1 := (4, [some (.ref 45), some (.int (nI m)), some (.int (nI (cnt (fun d => decide (lab d = some m)) k + 1))), some (.int ((nI k) + 1))], [], w)) rfl ?_
      rw [← nI_succ]
      exact K
    | false =>
      rw [hd, cond_false, Nat.add_zero] at K
      refine xE.brT rfl ?_
      refine xE.go 2 (F1 := (27, [some (.ref 45), some (.int (nI m)), some (.int (nI (cnt (fun d => decide (lab d = some m)) k))), some (.int (nI k))], [.int ((nI (cnt (fun d => decide (lab d = some m)) k)) + 0)], w)) rfl ?_
      rw [Int32.add_zero]
      refine xE.go 3 (F1 := (4, [some (.ref 45), some (.int (nI m)), some (.int (nI (cnt (fun d => decide (lab d = some m)) k))), some (.int ((nI k) + 1))], [], w)) rfl ?_
      rw [← nI_succ]
      exact K
  · intro s hI
    refine xE.go 3 (F1 := (bif decide (100 ≤ (nI 100)) then 34 else 10, [some (.ref 45), some (.int (nI m)), some (.int (nI (cnt (fun d => decide (lab d = some m)) 100))), some (.int (nI 100))], [], w)) rfl ?_
    refine xE.brT (rfl) ?_
    refine xE.go 1 (F1 := (35, [some (.ref 45), some (.int (nI m)), some (.int (nI (cnt (fun d => decide (lab d = some m)) 100))), some (.int (nI 100))], [.int (nI (cnt (fun d => decide (lab d = some m)) 100))], w)) rfl ?_
    exact xE.iret .int 1 rfl rfl (rfl)
theorem M_wlen {w : xW} {A : xAb} {x : Int32} (hM : mI w A) : xD MX8_walkLength [.ref 45, .int x] w (mV w A (qWLen A x)) := by
  refine xD.of ?_
  show xQ MX8_walkLength (0, [some (.ref 45), some (.int x)], [], w) _
  obtain ⟨r1, w1, hc1, hr1, i1, m1, k1⟩ := m_findW hM
  subst hr1
  refine xQ.go 1 (F1 := (1, [some (.ref 45), some (.int x)], [.ref 45], w)) rfl ?_
  refine xQ.call rfl (hc1) ?_
  show xQ MX8_walkLength (4, [some (.ref 45), some (.int x)], [.int (if fl A.1.1 = true then 1 else 0)], w1) _
  unfold qWLen
  refine xQ.go 1 (F1 := (bif !decide ((if fl A.1.1 = true then 1 else 0) = 0) then 10 else 7, [some (.ref 45), some (.int x)], [], w1)) rfl ?_
  by_cases hf : fl A.1.1 = true
  · rw [if_pos hf, if_pos hf]
    refine xQ.brT rfl ?_
    obtain ⟨ml, mc, _, _, _⟩ := m1 hf
    have hT : TOK (nxt (gr A.1.1)) (gr A.1.1) 100 (trG A.1.1 100) := trc_ok (nxt_hG (gr_gok A.1.1) hf) 100
    have h48 := flat_48 (gr_gok A.1.1) hf
    have hlen := (TOK_len hT).2
    have hlk := (TOK_len hT).1
    have hf4 := hT.2.2.2
    generalize trG A.1.1 100 = z at *
    refine xQ.go 5 (F1 := (17, [some (.ref 45), some (.int x)], [.int 1, .int (w1.1 45 34), .int 0, .int x], w1)) rfl ?_
    rw [mc]
    refine xQ.go 1 (F1 := (18, [some (.ref 45), some (.int x)], [.int ((nI z.2.length) - 1), .int 0, .int x], w1)) rfl ?_
    refine xQ.call rfl (m_within) ?_
    show xQ MX8_walkLength (21, [some (.ref 45), some (.int x)], [.int (if 0 ≤ x ∧ x ≤ nI z.2.length - 1 then 1 else 0)], w1) _
    rw [kI_w (by omega)]
    refine xQ.go 1 (F1 := (bif decide ((if (kI z.2.length x).isSome = true then 1 else 0) = 0) then 32 else 24, [some (.ref 45), some (.int x)], [], w1)) rfl ?_
    cases hx : kI z.2.length x with
    | none =>
      refine xQ.brT rfl ?_
      refine xQ.go 1 (F1 := (33, [some (.ref 45), some (.int x)], [.int (-1)], w1)) rfl ?_
      refine xQ.iret .int 1 rfl rfl (rfl) ?_
      exact ⟨rfl, i1, kN_M k1⟩
    | some k =>
      obtain ⟨hk, ex⟩ := kI_some hx
      refine xQ.brF rfl ?_
      rw [ex]
      have hL := getD_of hk ([] : List xPr)
      obtain ⟨w1', _, _⟩ := TOK_walk (gr_gok A.1.1) hT hL
      refine xQ.go 2 (F1 := (26, [some (.ref 45), some (.int (nI k))], [.int (nI k), .ref 45], w1)) rfl ?_
      refine xQ.call rfl (m_lenOf (show k < 1000 by omega) (fun d j h => by have := hlk d j h; omega) ml) ?_
      show xQ MX8_walkLength (29, [some (.ref 45), some (.int (nI k))], [.int (nI (cnt (fun d => decide (z.1 d = some k)) 100))], w1) _
      rw [w1']
      refine xQ.go 1 (F1 := (33, [some (.ref 45), some (.int (nI k))], [.int (nI (z.2.getD k []).length)], w1)) rfl ?_
      refine xQ.iret .int 1 rfl rfl (rfl) ?_
      exact ⟨rfl, i1, kN_M k1⟩
  · rw [if_neg hf, if_neg hf]
    refine xQ.brF rfl ?_
    refine xQ.go 1 (F1 := (9, [some (.ref 45), some (.int x)], [.int (-4)], w1)) rfl ?_
    refine xQ.iret .int 1 rfl rfl (rfl) ?_
    exact ⟨rfl, i1, kN_M k1⟩
theorem M_wvert {w : xW} {A : xAb} {x y : Int32} (hM : mI w A) : xD MX8_walkVertex [.ref 45, .int x, .int y] w (mV w A (qWVert A x y)) := by
  refine xD.of ?_
  show xQ MX8_walkVertex (0, [some (.ref 45), some (.int x), some (.int y), none, none, none, none, none], [], w) _
  obtain ⟨r1, w1, hc1, hr1, i1, m1, k1⟩ := m_findW hM
  subst hr1
  refine xQ.go 1 (F1 := (1, [some (.ref 45), some (.int x), some (.int y), none, none, none, none, none], [.ref 45], w)) rfl ?_
  refine xQ.call rfl (hc1) ?_
  show xQ MX8_walkVertex (4, [some (.ref 45), some (.int x), some (.int y), none, none, none, none, none], [.int (if fl A.1.1 = true then 1 else 0)], w1) _
  unfold qWVert
  refine xQ.go 1 (F1 := (bif !decide ((if fl A.1.1 = true then 1 else 0) = 0) then 10 else 7, [some (.ref 45), some (.int x), some (.int y), none, none, none, none, none], [], w1)) rfl ?_
  by_cases hf : fl A.1.1 = true
  · rw [if_pos hf, if_pos hf]
    refine xQ.brT rfl ?_
    obtain ⟨ml, mc, mg, mf, ms⟩ := m1 hf
    have hg := gr_gok A.1.1
    have hnG := nxt_hG hg hf
    have hT : TOK (nxt (gr A.1.1)) (gr A.1.1) 100 (trG A.1.1 100) := trc_ok (nxt_hG (gr_gok A.1.1) hf) 100
    have h48 := flat_48 (gr_gok A.1.1) hf
    have hlen := (TOK_len hT).2
    have hlk := (TOK_len hT).1
    have hf4 := hT.2.2.2
    generalize trG A.1.1 100 = z at *
    refine xQ.go 5 (F1 := (17, [some (.ref 45), some (.int x), some (.int y), none, none, none, none, none], [.int 1, .int (w1.1 45 34), .int 0, .int x], w1)) rfl ?_
    rw [mc]
    refine xQ.go 1 (F1 := (18, [some (.ref 45), some (.int x), some (.int y), none, none, none, none, none], [.int ((nI z.2.length) - 1), .int 0, .int x], w1)) rfl ?_
    refine xQ.call rfl (m_within) ?_
    show xQ MX8_walkVertex (21, [some (.ref 45), some (.int x), some (.int y), none, none, none, none, none], [.int (if 0 ≤ x ∧ x ≤ nI z.2.length - 1 then 1 else 0)], w1) _
    rw [kI_w (by omega)]
    refine xQ.go 1 (F1 := (bif decide ((if (kI z.2.length x).isSome = true then 1 else 0) = 0) then 39 else 24, [some (.ref 45), some (.int x), some (.int y), none, none, none, none, none], [], w1)) rfl ?_
    cases hx : kI z.2.length x with
    | none =>
      refine xQ.brT rfl ?_
      refine xQ.go 1 (F1 := (40, [some (.ref 45), some (.int x), some (.int y), none, none, none, none, none], [.int (-1)], w1)) rfl ?_
      refine xQ.iret .int 1 rfl rfl (rfl) ?_
      exact ⟨rfl, i1, kN_M k1⟩
    | some k =>
      obtain ⟨hk, ex⟩ := kI_some hx
      refine xQ.brF rfl ?_
      rw [ex]
      have hL := getD_of hk ([] : List xPr)
      obtain ⟨e1, e2, e3⟩ := TOK_walk (gr_gok A.1.1) hT hL
      obtain ⟨u1, ⟨q, tl, u2, u3, u4, u5⟩, u6⟩ := hT.2.1 k _ hL
      have hl100 := cnt_le (fun d => decide (z.1 d = some k)) 100
      refine xQ.go 4 (F1 := (28, [some (.ref 45), some (.int (nI k)), some (.int y), none, none, none, none, none], [.int (nI k), .ref 45, .int 0, .int y], w1)) rfl ?_
      refine xQ.call rfl (m_lenOf (show k < 1000 by omega) (fun d j h => by have := hlk d j h; omega) ml) ?_
      show xQ MX8_walkVertex (31, [some (.ref 45), some (.int (nI k)), some (.int y), none, none, none, none, none], [.int (nI (cnt (fun d => decide (z.1 d = some k)) 100)), .int 0, .int y], w1) _
      simp only
      rw [e1] at hl100 ⊢
      generalize z.2.getD k [] = L at *
      refine xQ.go 2 (F1 := (33, [some (.ref 45), some (.int (nI k)), some (.int y), none, none, none, none, none], [.int ((nI L.length) - 1), .int 0, .int y], w1)) rfl ?_
      refine xQ.call rfl (m_within) ?_
      show xQ MX8_walkVertex (36, [some (.ref 45), some (.int (nI k)), some (.int y), none, none, none, none, none], [.int (if 0 ≤ y ∧ y ≤ nI L.length - 1 then 1 else 0)], w1) _
      rw [kI_w (by omega)]
      refine xQ.go 1 (F1 := (bif !decide ((if (kI L.length y).isSome = true then 1 else 0) = 0) then 41 else 39, [some (.ref 45), some (.int (nI k)), some (.int y), none, none, none, none, none], [], w1)) rfl ?_
      cases hy : kI L.length y with
      | none =>
        refine xQ.brF rfl ?_
        refine xQ.go 1 (F1 := (40, [some (.ref 45), some (.int (nI k)), some (.int y), none, none, none, none, none], [.int (-1)], w1)) rfl ?_
        refine xQ.iret .int 1 rfl rfl (rfl) ?_
        exact ⟨rfl, i1, kN_M k1⟩
      | some p =>
        obtain ⟨hp, ey⟩ := kI_some hy
        refine xQ.brT rfl ?_
        rw [ey]
        have hqL : q ∈ L := by rw [u2]; exact List.mem_cons_self
        obtain ⟨q1, q2⟩ := e3 q hqL
        obtain ⟨m, hm⟩ : ∃ m, m = k := ⟨_, rfl⟩
        rw [← hm] at e2 ⊢
        have hm3 : m < 1000 := by omega
        refine xQ.go 2 (F1 := (43, [some (.ref 45), some (.int (nI m)), some (.int (nI p)), some (.int 0), none, none, none, none], [], w1)) rfl ?_
        refine xQ.loop (S := Unit) (fun k s => (43, [some (.ref 45), some (.int (nI m)), some (.int (nI p)), some (.int (nI k)), none, none, none, none], [], w1)) (fun _ _ => True) (dn q) () (rfl) (trivial) ?_ ?_
        · intro k s hk hI K
          have K := K () trivial
          have hkd : k < dn q := hk
          have hd100 : dn q < 100 := by show 10 * q.1 + q.2 < 100; omega
          refine xQ.go 3 (F1 := (48, [some (.ref 45), some (.int (nI m)), some (.int (nI p)), some (.int (nI k)), none, none, none, none], [.int (nI k), .ref 65], w1)) rfl ?_
          refine xQ.iald rfl (k := k) (rfl) (⟨by omega, by omega⟩) rfl ?_
          show xQ MX8_walkVertex (49, [some (.ref 45), some (.int (nI m)), some (.int (nI p)), some (.int (nI k)), none, none, none, none], [.int (w1.1 65 k)], w1) _
          rw [ml k (by omega)]
          refine xQ.go 2 (F1 := (bif decide ((labI (-5) (z.1 k)) = (nI m)) then 59 else 53, [some (.ref 45), some (.int (nI m)), some (.int (nI p)), some (.int (nI k)), none, none, none, none], [], w1)) rfl ?_
          rw [lab5_eq hm3 (fun j h => by have := hlk _ j h; omega)]
          refine xQ.brF (decide_eq_false fun h => ?_) ?_
          · obtain ⟨r, hr, er⟩ := List.mem_map.mp ((e2 k).mp h)
            have := u4 r hr
            omega
          refine xQ.go 2 (F1 := (43, [some (.ref 45), some (.int (nI m)), some (.int (nI p)), some (.int ((nI k) + 1)), none, none, none, none], [], w1)) rfl ?_
          rw [← nI_succ]
          exact K
        · intro s hI
          have hd100 : dn q < 100 := by show 10 * q.1 + q.2 < 100; omega
          refine xQ.go 3 (F1 := (48, [some (.ref 45), some (.int (nI m)), some (.int (nI p)), some (.int (nI (dn q))), none, none, none, none], [.int (nI (dn q)), .ref 65], w1)) rfl ?_
          refine xQ.iald rfl (k := dn q) (rfl) (⟨by omega, by omega⟩) rfl ?_
          show xQ MX8_walkVertex (49, [some (.ref 45), some (.int (nI m)), some (.int (nI p)), some (.int (nI (dn q))), none, none, none, none], [.int (w1.1 65 (dn q))], w1) _
          rw [ml _ hd100]
          refine xQ.go 2 (F1 := (bif decide ((labI (-5) (z.1 (dn q))) = (nI m)) then 59 else 53, [some (.ref 45), some (.int (nI m)), some (.int (nI p)), some (.int (nI (dn q))), none, none, none, none], [], w1)) rfl ?_
          rw [lab5_eq hm3 (fun j h => by have := hlk _ j h; omega)]
          refine xQ.brT (decide_eq_true ((e2 _).mpr (List.mem_map.mpr ⟨q, hqL, rfl⟩))) ?_
          refine xQ.go 3 (F1 := (63, [some (.ref 45), some (.int (nI m)), some (.int (nI p)), some (.int (nI (dn q))), none, none, none, none], [.int ((nI (dn q)) / 10)], w1)) rfl ?_
          rw [(div_all _ hd100).1, show dn q / 10 = q.1 from (dn_div (v := q.1) q2).1]
          refine xQ.go 4 (F1 := (69, [some (.ref 45), some (.int (nI m)), some (.int (nI p)), some (.int (nI (dn q))), some (.int (nI q.1)), none, none, none], [.int ((nI (dn q)) - (nI (dn q)) / 10 * 10)], w1)) rfl ?_
          rw [(div_all _ hd100).2, show dn q % 10 = q.2 from (dn_div (v := q.1) q2).2]
          refine xQ.go 3 (F1 := (74, [some (.ref 45), some (.int (nI m)), some (.int (nI p)), some (.int (nI (dn q))), some (.int (nI q.1)), some (.int (nI q.2)), some (.int 0), none], [], w1)) rfl ?_
          have hit : ∀ j, j < L.length → L[j]? = some (itd (nxt (gr A.1.1)) q.1 q.2 j) := fun j hj => by
            have h := List.getElem?_eq_getElem hj
            rw [h, u5 j _ h]
          refine xQ.loop (S := Unit) (fun k2 s2 => (74, [some (.ref 45), some (.int (nI m)), some (.int (nI p)), some (.int (nI (dn q))), some (.int (nI (itd (nxt (gr A.1.1)) q.1 q.2 k2).1)), some (.int (nI (itd (nxt (gr A.1.1)) q.1 q.2 k2).2)), some (.int (nI k2)), none], [], w1)) (fun _ _ => True) p () (rfl) (trivial) ?_ ?_
          · intro k2 s2 hk2 hI2 K2
            have K2 := K2 () trivial
            have hge := u6 _ (List.mem_of_getElem? (hit k2 (by omega)))
            rw [show itd (nxt (gr A.1.1)) q.1 q.2 (k2 + 1) = ((itd (nxt (gr A.1.1)) q.1 q.2 k2).2, nxt (gr A.1.1) (itd (nxt (gr A.1.1)) q.1 q.2 k2).2 (itd (nxt (gr A.1.1)) q.1 q.2 k2).1) from rfl] at K2
            generalize itd (nxt (gr A.1.1)) q.1 q.2 k2 = d at *
            refine xQ.go 3 (F1 := (bif decide ((nI p) ≤ (nI k2)) then 104 else 80, [some (.ref 45), some (.int (nI m)), some (.int (nI p)), some (.int (nI (dn q))), some (.int (nI d.1)), some (.int (nI d.2)), some (.int (nI k2)), none], [], w1)) rfl ?_
            refine xQ.brF (decide_eq_false (nI_ge hk2 (by omega))) ?_
            refine xQ.go 3 (F1 := (85, [some (.ref 45), some (.int (nI m)), some (.int (nI p)), some (.int (nI (dn q))), some (.int (nI d.1)), some (.int (nI d.2)), some (.int (nI k2)), none], [.int (nI d.1), .int (nI d.2), .ref 45], w1)) rfl ?_
            refine xQ.call rfl (m_behind hg mg mf hf ms (show gr A.1.1 d.2 d.1 = true by rw [hg.1]; exact hge)) ?_
            show xQ MX8_walkVertex (88, [some (.ref 45), some (.int (nI m)), some (.int (nI p)), some (.int (nI (dn q))), some (.int (nI d.1)), some (.int (nI d.2)), some (.int (nI k2)), none], [.int (nI (nxt (gr A.1.1) d.2 d.1))], w1) _
            refine xQ.go 7 (F1 := (74, [some (.ref 45), some (.int (nI m)), some (.int (nI p)), some (.int (nI (dn q))), some (.int (nI d.2)), some (.int (nI (nxt (gr A.1.1) d.2 d.1))), some (.int ((nI k2) + 1)), some (.int (nI (nxt (gr A.1.1) d.2 d.1)))], [], w1)) rfl ?_
            refine xQ.less [some (.ref 45), some (.int (nI m)), some (.int (nI p)), some (.int (nI (dn q))), some (.int (nI d.2)), some (.int (nI (nxt (gr A.1.1) d.2 d.1))), some (.int ((nI k2) + 1)), none] (by simp [xleb]) ?_
            rw [← nI_succ]
            exact K2
          · intro s2 hI2
            refine xQ.go 3 (F1 := (bif decide ((nI p) ≤ (nI p)) then 104 else 80, [some (.ref 45), some (.int (nI m)), some (.int (nI p)), some (.int (nI (dn q))), some (.int (nI (itd (nxt (gr A.1.1)) q.1 q.2 p).1)), some (.int (nI (itd (nxt (gr A.1.1)) q.1 q.2 p).2)), some (.int (nI p)), none], [], w1)) rfl ?_
            refine xQ.brT (decide_eq_true (Int32.le_refl _)) ?_
            simp only
            rw [List.getD_eq_getElem?_getD, hit p hp]
            refine xQ.go 1 (F1 := (106, [some (.ref 45), some (.int (nI m)), some (.int (nI p)), some (.int (nI (dn q))), some (.int (nI (itd (nxt (gr A.1.1)) q.1 q.2 p).1)), some (.int (nI (itd (nxt (gr A.1.1)) q.1 q.2 p).2)), some (.int (nI p)), none], [.int (nI (itd (nxt (gr A.1.1)) q.1 q.2 p).1)], w1)) rfl ?_
            refine xQ.iret .int 1 rfl rfl (rfl) ?_
            exact ⟨rfl, i1, kN_M k1⟩
  · rw [if_neg hf, if_neg hf]
    refine xQ.brF rfl ?_
    refine xQ.go 1 (F1 := (9, [some (.ref 45), some (.int x), some (.int y), none, none, none, none, none], [.int (-4)], w1)) rfl ?_
    refine xQ.iret .int 1 rfl rfl (rfl) ?_
    exact ⟨rfl, i1, kN_M k1⟩
