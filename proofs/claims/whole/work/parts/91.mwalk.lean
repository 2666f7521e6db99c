/-! the reference: walks -/
theorem div_all : ∀ n, n < 100 → nI n / 10 = nI (n / 10) ∧ nI n - nI n / 10 * 10 = nI (n % 10) := by decide +kernel
theorem labI5_dec {o : Option Nat} (h : ∀ k, o = some k → k < 2 ^ 31) : decide (labI (-5) o = -5) = !o.isSome := by
  cases o with
  | none => rfl
  | some k =>
    refine decide_eq_false (fun e => nI_pos (n := k) (h k rfl) ?_)
    rw [show nI k = -5 from e]
    decide
theorem m_behind {w : xW} {G : Nat → Nat → Bool} {v x : Nat} (hg : gok G) (hG : gM w G) (hF : fB w G) (hf : flt G (blks G 100) = true) (hS : scM w G (blks G 100)) (h : G v x = true) : xC MX8_behind [.ref 45, .int (nI v), .int (nI x)] w (some (.int (nI (nxt G v x)))) w := by
  obtain ⟨hv, hx⟩ := hg.2.2 _ _ h
  have hne : v ≠ x := fun e => by rw [e, hg.2.1] at h; cases h
  have hO := blks_ok hg 100 (Nat.le_refl _)
  have h9 := blk_nine hg hO
  obtain ⟨p, hp, p1, p2⟩ := blks_all hg h
  obtain ⟨j, hj⟩ := List.mem_iff_getElem?.mp hp
  have hb : bH G (bS G p) v x = true := bH_iff.mpr ⟨h, p1, p2⟩
  have hbx : bix G (blks G 100) (pix v x) = j := of_decide_eq_true (by rw [← bH_pix hg hj hv hx hne h]; exact hb)
  obtain ⟨z, z1, z2, z3, z4⟩ := nxt_beh hg hf hj hb
  have hjl := (List.getElem?_eq_some_iff.mp hj).1
  have hc := hS p hp (flt_all hf hp) v x z z1
  have hlow := fun (q : xPr) (hq : q ∈ blks G 100) (hqv : bS G q v = true) => show low (bH G (bS G q) v) < 10 from by
    obtain ⟨y, hy⟩ := bS_edge hg (hO.1 q hq).1 hqv
    exact (low_some (hg.2.2 _ _ (bH_iff.mp hy).1).2 hy).1
  have hlp := hlow p hp p1
  have hpl := pix_lt hv hx hne
  unfold xC
  show xE MX8_behind (0, [some (.ref 45), some (.int (nI v)), some (.int (nI x)), none, none, none], [], w) _ _
  refine xE.go 4 (F1 := (6, [some (.ref 45), some (.int (nI v)), some (.int (nI x)), none, none, none], [.int (nI x), .int (nI v), .ref 51], w)) rfl ?_
  refine xE.call rfl (m_pair hv hx hne) ?_
  show xE MX8_behind (9, [some (.ref 45), some (.int (nI v)), some (.int (nI x)), none, none, none], [.int (nI (pix v x)), .ref 51], w) _ _
  refine xE.iald rfl (k := pix v x) (rfl) (⟨by omega, by omega⟩) rfl ?_
  show xE MX8_behind (10, [some (.ref 45), some (.int (nI v)), some (.int (nI x)), none, none, none], [.int (w.1 51 (pix v x))], w) _ _
  rw [hF.2 _ hpl, if_pos (by rw [ed_pix hg hv hx hne]; exact h), hbx]
  refine xE.go 8 (F1 := (21, [some (.ref 45), some (.int (nI v)), some (.int (nI x)), some (.int (nI j)), none, none], [.int ((10 * (nI v)) + (nI x)), .ref 64], w)) rfl ?_
  rw [show (10 : Int32) = nI 10 from rfl, jI_mul, jI_add]
  refine xE.iald rfl (k := 10 * v + x) (rfl) (⟨by omega, by omega⟩) rfl ?_
  show xE MX8_behind (22, [some (.ref 45), some (.int (nI v)), some (.int (nI x)), some (.int (nI j)), none, none], [.int (w.1 64 (10 * v + x))], w) _ _
  rw [hc]
  refine xE.go 5 (F1 := (29, [some (.ref 45), some (.int (nI v)), some (.int (nI x)), some (.int (nI j)), some (.int (nI z)), none], [.int (nI j), .int (nI v), .ref 45, .int (nI z)], w)) rfl ?_
  refine xE.call rfl (m_nbIn hg hG hF hj hv) ?_
  show xE MX8_behind (32, [some (.ref 45), some (.int (nI v)), some (.int (nI x)), some (.int (nI j)), some (.int (nI z)), none], [.int (mk (bH G (bS G p) v)), .int (nI z)], w) _ _
  refine xE.call rfl (m_lowest hlp) ?_
  show xE MX8_behind (35, [some (.ref 45), some (.int (nI v)), some (.int (nI x)), some (.int (nI j)), some (.int (nI z)), none], [.int (nI (low (bH G (bS G p) v))), .int (nI z)], w) _ _
  refine xE.go 1 (F1 := (bif decide ((nI z) = (nI (low (bH G (bS G p) v)))) then 41 else 38, [some (.ref 45), some (.int (nI v)), some (.int (nI x)), some (.int (nI j)), some (.int (nI z)), none], [], w)) rfl ?_
  rw [nI_dec (by omega) (by omega)]
  by_cases e : z = low (bH G (bS G p) v)
  · refine xE.brT (decide_eq_true e) ?_
    have z4 := z4 e
    obtain ⟨n, hn⟩ : ∃ n, n = (blks G 100).length := ⟨_, rfl⟩
    have hn0 : 0 < n := by omega
    obtain ⟨T, t1, t2, t3⟩ := fst_ex (fun s => bS G ((blks G 100).getD ((j + 1 + s) % n) (0, 0)) v) (n - 1) (by
      rw [show j + 1 + (n - 1) = j + n by omega, Nat.add_mod_right, Nat.mod_eq_of_lt (by omega), List.getD_eq_getElem?_getD, hj]
      exact p1)
    have hat : ∀ s, (blks G 100)[(j + 1 + s) % n]? = some ((blks G 100).getD ((j + 1 + s) % n) (0, 0)) := fun s => getD_of (by rw [← hn]; exact Nat.mod_lt _ hn0) ((0, 0) : xPr)
    rw [← hn] at z4
    rw [z4 T _ (by omega) (fun s r hs hr => by
      have := t2 s hs
      rw [hat s] at hr
      cases hr
      exact this) (hat T) t3]
    refine xE.go 5 (F1 := (48, [some (.ref 45), some (.int (nI v)), some (.int (nI x)), some (.int (nI j)), some (.int (nI z)), none], [.int (w.1 45 13), .int ((nI j) + 1)], w)) rfl ?_
    rw [hF.1, ← hn]
    refine xE.irem rfl (nI_ne0 (by omega) (by omega)) (show nI j + 1 - (nI j + 1) / nI n * nI n = nI ((j + 1 + 0) % n) from rem_nI (by omega) (by omega) (by omega)) ?_
    show xE MX8_behind (49, [some (.ref 45), some (.int (nI v)), some (.int (nI x)), some (.int (nI j)), some (.int (nI z)), none], [.int (nI ((j + 1 + 0) % n))], w) _ _
    refine xE.go 1 (F1 := (51, [some (.ref 45), some (.int (nI v)), some (.int (nI x)), some (.int (nI j)), some (.int (nI z)), some (.int (nI ((j + 1 + 0) % n)))], [], w)) rfl ?_
    refine xE.loop (S := Unit) (fun k s => (51, [some (.ref 45), some (.int (nI v)), some (.int (nI x)), some (.int (nI j)), some (.int (nI z)), some (.int (nI ((j + 1 + k) % n)))], [], w)) (fun _ _ => True) T () (rfl) (trivial) ?_ ?_
    · intro k s hk hI K
      have K := K () trivial
      have ho := hat k
      have hom := Nat.mod_lt (j + 1 + k) hn0
      have t2 := t2 k hk
      refine xE.go 3 (F1 := (55, [some (.ref 45), some (.int (nI v)), some (.int (nI x)), some (.int (nI j)), some (.int (nI z)), some (.int (nI ((j + 1 + k) % n)))], [.int (nI ((j + 1 + k) % n)), .int (nI v), .ref 45], w)) rfl ?_
      refine xE.call rfl (m_nbIn hg hG hF ho hv) ?_
      show xE MX8_behind (58, [some (.ref 45), some (.int (nI v)), some (.int (nI x)), some (.int (nI j)), some (.int (nI z)), some (.int (nI ((j + 1 + k) % n)))], [.int (mk (bH G (bS G ((blks G 100).getD ((j + 1 + k) % n) (0, 0))) v))], w) _ _
      refine xE.go 1 (F1 := (bif !decide ((mk (bH G (bS G ((blks G 100).getD ((j + 1 + k) % n) (0, 0))) v)) = 0) then 75 else 61, [some (.ref 45), some (.int (nI v)), some (.int (nI x)), some (.int (nI j)), some (.int (nI z)), some (.int (nI ((j + 1 + k) % n)))], [], w)) rfl ?_
      rw [bH_nz hg (blk_at hg ho).2.2, t2]
      refine xE.brF rfl ?_
      refine xE.go 5 (F1 := (69, [some (.ref 45), some (.int (nI v)), some (.int (nI x)), some (.int (nI j)), some (.int (nI z)), some (.int (nI ((j + 1 + k) % n)))], [.int (w.1 45 13), .int ((nI ((j + 1 + k) % n)) + 1)], w)) rfl ?_
      rw [hF.1, ← hn]
      refine xE.irem rfl (nI_ne0 (by omega) (by omega)) (show nI ((j + 1 + k) % n) + 1 - (nI ((j + 1 + k) % n) + 1) / nI n * nI n = nI ((j + 1 + (k + 1)) % n) by rw [rem_nI (by omega) (by omega) (by omega), Nat.mod_add_mod]; rfl) ?_
      show xE MX8_behind (70, [some (.ref 45), some (.int (nI v)), some (.int (nI x)), some (.int (nI j)), some (.int (nI z)), some (.int (nI ((j + 1 + k) % n)))], [.int (nI ((j + 1 + (k + 1)) % n))], w) _ _
      refine xE.go 2 (F1 := (51, [some (.ref 45), some (.int (nI v)), some (.int (nI x)), some (.int (nI j)), some (.int (nI z)), some (.int (nI ((j + 1 + (k + 1)) % n)))], [], w)) rfl ?_
      exact K
    · intro s hI
      have ho := hat T
      have hom := Nat.mod_lt (j + 1 + T) hn0
      refine xE.go 3 (F1 := (55, [some (.ref 45), some (.int (nI v)), some (.int (nI x)), some (.int (nI j)), some (.int (nI z)), some (.int (nI ((j + 1 + T) % n)))], [.int (nI ((j + 1 + T) % n)), .int (nI v), .ref 45], w)) rfl ?_
      refine xE.call rfl (m_nbIn hg hG hF ho hv) ?_
      show xE MX8_behind (58, [some (.ref 45), some (.int (nI v)), some (.int (nI x)), some (.int (nI j)), some (.int (nI z)), some (.int (nI ((j + 1 + T) % n)))], [.int (mk (bH G (bS G ((blks G 100).getD ((j + 1 + T) % n) (0, 0))) v))], w) _ _
      refine xE.go 1 (F1 := (bif !decide ((mk (bH G (bS G ((blks G 100).getD ((j + 1 + T) % n) (0, 0))) v)) = 0) then 75 else 61, [some (.ref 45), some (.int (nI v)), some (.int (nI x)), some (.int (nI j)), some (.int (nI z)), some (.int (nI ((j + 1 + T) % n)))], [], w)) rfl ?_
      rw [bH_nz hg (blk_at hg ho).2.2, t3]
      refine xE.brT rfl ?_
      refine xE.go 3 (F1 := (79, [some (.ref 45), some (.int (nI v)), some (.int (nI x)), some (.int (nI j)), some (.int (nI z)), some (.int (nI ((j + 1 + T) % n)))], [.int (nI ((j + 1 + T) % n)), .int (nI v), .ref 45], w)) rfl ?_
      refine xE.call rfl (m_nbIn hg hG hF ho hv) ?_
      show xE MX8_behind (82, [some (.ref 45), some (.int (nI v)), some (.int (nI x)), some (.int (nI j)), some (.int (nI z)), some (.int (nI ((j + 1 + T) % n)))], [.int (mk (bH G (bS G ((blks G 100).getD ((j + 1 + T) % n) (0, 0))) v))], w) _ _
      refine xE.call rfl (m_lowest (hlow _ (List.mem_of_getElem? ho) t3)) ?_
      show xE MX8_behind (85, [some (.ref 45), some (.int (nI v)), some (.int (nI x)), some (.int (nI j)), some (.int (nI z)), some (.int (nI ((j + 1 + T) % n)))], [.int (nI (low (bH G (bS G ((blks G 100).getD ((j + 1 + T) % n) (0, 0))) v)))], w) _ _
      exact xE.iret .int 1 rfl rfl (rfl)
  · refine xE.brF (decide_eq_false e) ?_
    rw [z3 e]
    refine xE.go 1 (F1 := (40, [some (.ref 45), some (.int (nI v)), some (.int (nI x)), some (.int (nI j)), some (.int (nI z)), none], [.int (nI z)], w)) rfl ?_
    exact xE.iret .int 1 rfl rfl (rfl)
theorem M_next {w : xW} {A : xAb} {x y : Int32} (hM : mI w A) : xD MX8_next [.ref 45, .int x, .int y] w (mV w A (qNext A x y)) := by
  refine xD.of ?_
  show xQ MX8_next (0, [some (.ref 45), some (.int x), some (.int y)], [], w) _
  refine xQ.go 3 (F1 := (3, [some (.ref 45), some (.int x), some (.int y)], [.int y, .int x, .ref 45], w)) rfl ?_
  refine xQ.call rfl (m_isEdge hM) ?_
  show xQ MX8_next (6, [some (.ref 45), some (.int x), some (.int y)], [.int (if jn A.1.1 x y = true then 1 else 0)], w) _
  refine xQ.go 1 (F1 := (bif !decide ((if jn A.1.1 x y = true then 1 else 0) = 0) then 11 else 9, [some (.ref 45), some (.int x), some (.int y)], [], w)) rfl ?_
  by_cases hj : jn A.1.1 x y = true
  · obtain ⟨a, b, ha, hb, hne, ex, ey, hx, hy, hg⟩ := jn_true hj
    unfold qNext
    rw [if_pos hj, hx, hy]
    simp only
    rw [if_pos hg]
    refine xQ.brT rfl ?_
    obtain ⟨r1, w1, hc1, hr1, i1, g1, f1, s1, k1⟩ := m_plNow hM
    subst hr1
    refine xQ.go 1 (F1 := (12, [some (.ref 45), some (.int x), some (.int y)], [.ref 45], w)) rfl ?_
    refine xQ.call rfl (hc1) ?_
    show xQ MX8_next (15, [some (.ref 45), some (.int x), some (.int y)], [.int (if fl A.1.1 = true then 1 else 0)], w1) _
    refine xQ.go 1 (F1 := (bif decide ((if fl A.1.1 = true then 1 else 0) = 0) then 27 else 18, [some (.ref 45), some (.int x), some (.int y)], [], w1)) rfl ?_
    by_cases hf : fl A.1.1 = true
    · rw [if_pos hf, if_pos hf]
      refine xQ.brF rfl ?_
      rw [ex, ey]
      refine xQ.go 3 (F1 := (21, [some (.ref 45), some (.int (nI a)), some (.int (nI b))], [.int (nI b), .int (nI a), .ref 45], w1)) rfl ?_
      refine xQ.call rfl (m_behind (gr_gok A.1.1) g1 f1 hf s1 hg) ?_
      show xQ MX8_next (24, [some (.ref 45), some (.int (nI a)), some (.int (nI b))], [.int (nI (nxt (gr A.1.1) a b))], w1) _
      refine xQ.go 1 (F1 := (29, [some (.ref 45), some (.int (nI a)), some (.int (nI b))], [.int (nI (nxt (gr A.1.1) a b))], w1)) rfl ?_
      refine xQ.iret .int 1 rfl rfl (rfl) ?_
      exact ⟨rfl, i1, kN_M k1⟩
    · rw [if_neg hf, if_neg hf]
      refine xQ.brT rfl ?_
      refine xQ.go 1 (F1 := (29, [some (.ref 45), some (.int x), some (.int y)], [.int (-4)], w1)) rfl ?_
      refine xQ.iret .int 1 rfl rfl (rfl) ?_
      exact ⟨rfl, i1, kN_M k1⟩
  · have es : qNext A x y = -1 := by
      unfold qNext
      rcases jn_no hj with h | ⟨a, h, h2⟩ | ⟨a, b, h, h2, h3⟩
      · simp [h]
      · simp [h, h2]
      · simp [h, h2, h3]
    rw [if_neg hj, es]
    refine xQ.brF rfl ?_
    refine xQ.go 1 (F1 := (10, [some (.ref 45), some (.int x), some (.int y)], [.int (-1)], w)) rfl ?_
    refine xQ.iret .int 1 rfl rfl (rfl) ?_
    exact ⟨rfl, hM, xkq_rfl⟩
