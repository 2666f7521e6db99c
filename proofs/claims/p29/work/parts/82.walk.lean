/-! isWalk -/
theorem walk_at {e : Int64} (hf : fl e = true) {k : Nat} {L : List xPr} (hk : (trG e 100).2[k]? = some L) : 2 ≤ L.length ∧ L.length ≤ 48 ∧ (∀ j, j < L.length → gr e (L.getD j (0, 0)).1 (L.getD j (0, 0)).2 = true ∧ (L.getD j (0, 0)).2 = (L.getD ((j + 1) % L.length) (0, 0)).1 ∧ nxt (gr e) (L.getD j (0, 0)).2 (L.getD j (0, 0)).1 = (L.getD ((j + 1) % L.length) (0, 0)).2 ∧ (trG e 100).1 (dn (L.getD j (0, 0))) = some k ∧ dn (L.getD 0 (0, 0)) ≤ dn (L.getD j (0, 0))) ∧ ∀ L', (trG e 100).2[k + 1]? = some L' → dn (L.getD 0 (0, 0)) < dn (L'.getD 0 (0, 0)) := by
  have hg := gr_gok e
  have hff : flt (gr e) (blks (gr e) 100) = true := hf
  have hG : ∀ v w, gr e v w = true → v < 10 ∧ w < 10 ∧ gr e w (nxt (gr e) w v) = true := fun v w h => ⟨(hg.2.2 _ _ h).1, (hg.2.2 _ _ h).2, nxt_edge hg hff (by rw [hg.1]; exact h)⟩
  obtain ⟨gs, hF, _⟩ := FAM_all hg hff
  have hcl := trc_closed hG hF 100
  have hinc := (trc_inc (G := gr e) (N := nxt (gr e)) 100).2
  obtain ⟨t1, t2, t3, t4⟩ := trc_ok hG 100
  have hlen := trG_len hf
  have hoff := (off_le hk).2
  have hk' : (trc (nxt (gr e)) (gr e) 100).2[k]? = some L := hk
  obtain ⟨s1, ⟨q, t, s2, s3, s4, s5⟩, s6⟩ := t2 k L hk'
  have hpos : 0 < L.length := by rw [s2]; simp
  have hget : ∀ j, j < L.length → L[j]? = some (L.getD j (0, 0)) := fun j hj => getD_of hj _
  have hmem : ∀ j, j < L.length → L.getD j (0, 0) ∈ L := fun j hj => List.mem_of_getElem? (hget j hj)
  have hnx : ∀ j, j < L.length → (L.getD j (0, 0)).2 = (L.getD ((j + 1) % L.length) (0, 0)).1 ∧ nxt (gr e) (L.getD j (0, 0)).2 (L.getD j (0, 0)).1 = (L.getD ((j + 1) % L.length) (0, 0)).2 := by
    intro j hj
    have hj2 := Nat.mod_lt (j + 1) hpos
    have hd : (dn (L.getD j (0, 0)), dn (L.getD ((j + 1) % L.length) (0, 0))) ∈ dts (L.map dn) := dts_get (i := j) (by rw [List.getElem?_map, hget j hj]; rfl) (by rw [List.length_map, List.getElem?_map, hget _ hj2]; rfl)
    have h1 := hcl L (List.mem_of_getElem? hk') _ hd
    have g1 := s6 _ (hmem j hj)
    have g2 := s6 _ (hmem _ hj2)
    have h1 : fN (nxt (gr e)) (10 * (L.getD j (0, 0)).1 + (L.getD j (0, 0)).2) = 10 * (L.getD ((j + 1) % L.length) (0, 0)).1 + (L.getD ((j + 1) % L.length) (0, 0)).2 := h1
    rw [fN_dn (hG _ _ g1).2.1] at h1
    have a1 := hG _ _ g1
    have a2 := hG _ _ g2
    have a3 := hG _ _ a1.2.2
    omega
  refine ⟨?_, by omega, fun j hj => ⟨s6 _ (hmem j hj), (hnx j hj).1, (hnx j hj).2, (t1 _ k).mpr ⟨L, hk', List.mem_map.mpr ⟨_, hmem j hj, rfl⟩⟩, ?_⟩, fun L' hL' => ?_⟩
  · refine Nat.le_of_not_lt fun h => ?_
    have e1 : L.length = 1 := by omega
    have h1 := (hnx 0 hpos).1
    rw [e1] at h1
    have h2 := s6 _ (hmem 0 hpos)
    have h1 : (L.getD 0 (0, 0)).2 = (L.getD 0 (0, 0)).1 := h1
    rw [h1, hg.2.1] at h2
    cases h2
  · have h0 : L.getD 0 (0, 0) = q := by rw [s2]; rfl
    rw [h0]
    exact s4 _ (hmem j hj)
  · have hL2 : (trc (nxt (gr e)) (gr e) 100).2[k + 1]? = some L' := hL'
    obtain ⟨_, ⟨q', t', r2, _⟩, _⟩ := t2 (k + 1) L' hL2
    rw [List.pairwise_iff_getElem] at hinc
    obtain ⟨i1, i2⟩ := List.getElem?_eq_some_iff.mp hk'
    obtain ⟨j1, j2⟩ := List.getElem?_eq_some_iff.mp hL2
    have := hinc k (k + 1) i1 j1 (by omega) q t q' t' (i2.trans s2) (j2.trans r2)
    rw [s2, r2]
    exact this
theorem qWVert_at {A : xAb} {k j : Nat} (hf : fl A.1.1 = true) (hk : k < (trG A.1.1 100).2.length) (hj : j < ((trG A.1.1 100).2.getD k []).length) : qWVert A (nI k) (nI j) = nI (((trG A.1.1 100).2.getD k []).getD j (0, 0)).1 := by
  have h1 := trG_len hf
  have h2 := (walk_at hf (getD_of hk [])).2.1
  unfold qWVert
  rw [if_pos hf, kI_of hk (by omega)]
  dsimp only
  rw [kI_of hj (by omega)]
theorem qWVert_no {A : xAb} {k : Nat} {y : Int32} (hf : fl A.1.1 = true) (hk : k < (trG A.1.1 100).2.length) (hy : kI ((trG A.1.1 100).2.getD k []).length y = none) : qWVert A (nI k) y = -1 := by
  have h1 := trG_len hf
  unfold qWVert
  rw [if_pos hf, kI_of hk (by omega)]
  dsimp only
  rw [hy]
theorem qWOf_at {A : xAb} {a b k : Nat} (ha : a < 10) (hb : b < 10) (h : gr A.1.1 a b = true) (hf : fl A.1.1 = true) (hl : (trG A.1.1 100).1 (10 * a + b) = some k) : qWOf A (nI a) (nI b) = nI k := by
  unfold qWOf vI
  rw [kI_of ha (by omega), kI_of hb (by omega)]
  dsimp only
  rw [if_pos h, if_pos hf, hl]
  rfl
theorem mod_12 {j n : Nat} (hn : 0 < n) : ((j + 1) % n + 1) % n = (j + 2) % n := by
  rw [Nat.mod_add_mod]
theorem rem_1 {k n : Nat} (h0 : 0 < n) (hn : n < 1000) (hk : k < 1000) : nI k + 1 - (nI k + 1) / nI n * nI n = nI ((k + 1) % n) := by
  rw [← nI_succ]
  exact jI_rem (by omega) h0 (by omega)
theorem rem_2 {k n : Nat} (h0 : 0 < n) (hn : n < 1000) (hk : k < 1000) : nI k + 2 - (nI k + 2) / nI n * nI n = nI ((k + 2) % n) := by
  rw [show nI k + 2 = nI (k + 2) from jI_add k 2]
  exact jI_rem (by omega) h0 (by omega)
theorem c_isWalk {w : xW} {A : xAb} {m : Nat} (hI : cI w A) (hf : fl A.1.1 = true) (hk : m < (trG A.1.1 100).2.length) : xD ML_isWalk [.ref 0, .int (nI m)] w (cV w A 1) := by
  have hg := gr_gok A.1.1
  obtain ⟨h2, h48, hat, hnxt⟩ := walk_at hf (getD_of hk [])
  have hWl := trG_len hf
  have hV : ∀ j, j < ((trG A.1.1 100).2.getD m []).length → qWVert A (nI m) (nI j) = nI (((trG A.1.1 100).2.getD m []).getD j (0, 0)).1 := fun j hj => qWVert_at hf hk hj
  have hV0 : ∀ y, kI ((trG A.1.1 100).2.getD m []).length y = none → qWVert A (nI m) y = -1 := fun y hy => qWVert_no hf hk hy
  have hWL := qWLen_at hf hk
  generalize hL : (trG A.1.1 100).2.getD m [] = L at *
  have hpos : 0 < L.length := by omega
  have h10 : ∀ j, j < L.length → (L.getD j (0, 0)).1 < 10 ∧ (L.getD j (0, 0)).2 < 10 := fun j hj => ⟨(hg.2.2 _ _ (hat j hj).1).1, (hg.2.2 _ _ (hat j hj).1).2⟩
  refine xD.of ?_
  show xQ ML_isWalk (0, [some (.ref 0), some (.int (nI m)), none, none, none, none, none, none], [], w) _
  obtain ⟨r1, w1, hc1, hr1, i1, k1⟩ := C_wlen (x := nI m) hI
  subst hr1
  rw [hWL] at hc1
  refine xQ.go 2 (F1 := (2, [some (.ref 0), some (.int (nI m)), none, none, none, none, none, none], [.int (nI m), .ref 0], w)) rfl ?_
  refine xQ.call rfl (hc1) ?_
  show xQ ML_isWalk (5, [some (.ref 0), some (.int (nI m)), none, none, none, none, none, none], [.int (nI L.length)], w1) _
  obtain ⟨r1, w2, hc2, hr1, i2, k2⟩ := C_wvert (x := nI m) (y := 0) i1
  subst hr1
  rw [show (0 : Int32) = nI 0 from rfl, hV 0 hpos] at hc2
  refine xQ.go 5 (F1 := (11, [some (.ref 0), some (.int (nI m)), some (.int (nI L.length)), none, none, none, none, none], [.int 0, .int (nI m), .ref 0, .int 10], w1)) rfl ?_
  refine xQ.call rfl (hc2) ?_
  show xQ ML_isWalk (14, [some (.ref 0), some (.int (nI m)), some (.int (nI L.length)), none, none, none, none, none], [.int (nI (L.getD 0 (0, 0)).1), .int 10], w2) _
  refine xQ.go 5 (F1 := (19, [some (.ref 0), some (.int (nI m)), some (.int (nI L.length)), none, none, none, none, none], [.int (nI L.length), .int 1, .int (nI m), .ref 0, .int (10 * (nI (L.getD 0 (0, 0)).1))], w2)) rfl ?_
  refine xQ.irem rfl (jI_ne0 hpos (by omega)) (jI_rem (a := 1) (by omega) hpos (by omega)) ?_
  show xQ ML_isWalk (20, [some (.ref 0), some (.int (nI m)), some (.int (nI L.length)), none, none, none, none, none], [.int (nI (1 % L.length)), .int (nI m), .ref 0, .int (10 * (nI (L.getD 0 (0, 0)).1))], w2) _
  obtain ⟨r1, w3, hc3, hr1, i3, k3⟩ := C_wvert (x := nI m) (y := nI (1 % L.length)) i2
  subst hr1
  rw [hV _ (Nat.mod_lt _ hpos)] at hc3
  refine xQ.call rfl (hc3) ?_
  show xQ ML_isWalk (23, [some (.ref 0), some (.int (nI m)), some (.int (nI L.length)), none, none, none, none, none], [.int (nI (L.getD (1 % L.length) (0, 0)).1), .int (10 * (nI (L.getD 0 (0, 0)).1))], w3) _
  refine xQ.go 1 (F1 := (24, [some (.ref 0), some (.int (nI m)), some (.int (nI L.length)), none, none, none, none, none], [.int ((10 * (nI (L.getD 0 (0, 0)).1)) + (nI (L.getD (1 % L.length) (0, 0)).1))], w3)) rfl ?_
  rw [show (10 : Int32) = nI 10 from rfl, jI_mul, jI_add, show (L.getD (1 % L.length) (0, 0)).1 = (L.getD 0 (0, 0)).2 from (hat 0 hpos).2.1.symm]
  show xQ ML_isWalk (24, [some (.ref 0), some (.int (nI m)), some (.int (nI L.length)), none, none, none, none, none], [.int (nI (dn (L.getD 0 (0, 0))))], w3) _
  refine xQ.go 3 (F1 := (28, [some (.ref 0), some (.int (nI m)), some (.int (nI L.length)), some (.int (nI (dn (L.getD 0 (0, 0))))), some (.int 0), none, none, none], [], w3)) rfl ?_
  refine xQ.loop (S := xW) (fun k s => (28, [some (.ref 0), some (.int (nI m)), some (.int (nI L.length)), some (.int (nI (dn (L.getD 0 (0, 0))))), some (.int (nI k)), none, none, none], [], s)) (fun _ s => cI s A ∧ xkq kC w s) L.length w3 (rfl) (⟨i3, xkq_trans k1 (xkq_trans k2 k3)⟩) ?_ ?_
  · intro k s hk hI K
    obtain ⟨hJ, hq⟩ := hI
    obtain ⟨a1, a2, a3, a4, a5⟩ := hat k hk
    refine xQ.go 3 (F1 := (bif decide ((nI L.length) ≤ (nI k)) then 114 else 34, [some (.ref 0), some (.int (nI m)), some (.int (nI L.length)), some (.int (nI (dn (L.getD 0 (0, 0))))), some (.int (nI k)), none, none, none], [], s)) rfl ?_
    refine xQ.brF (decide_eq_false (nI_ge hk (by omega))) ?_
    obtain ⟨r1, w4, hc4, hr1, i4, k4⟩ := C_wvert (x := nI m) (y := nI k) hJ
    subst hr1
    rw [hV k hk] at hc4
    refine xQ.go 3 (F1 := (38, [some (.ref 0), some (.int (nI m)), some (.int (nI L.length)), some (.int (nI (dn (L.getD 0 (0, 0))))), some (.int (nI k)), none, none, none], [.int (nI k), .int (nI m), .ref 0], s)) rfl ?_
    refine xQ.call rfl (hc4) ?_
    show xQ ML_isWalk (41, [some (.ref 0), some (.int (nI m)), some (.int (nI L.length)), some (.int (nI (dn (L.getD 0 (0, 0))))), some (.int (nI k)), none, none, none], [.int (nI (L.getD k (0, 0)).1)], w4) _
    refine xQ.go 7 (F1 := (50, [some (.ref 0), some (.int (nI m)), some (.int (nI L.length)), some (.int (nI (dn (L.getD 0 (0, 0))))), some (.int (nI k)), some (.int (nI (L.getD k (0, 0)).1)), none, none], [.int (nI L.length), .int ((nI k) + 1), .int (nI m), .ref 0], w4)) rfl ?_
    refine xQ.irem rfl (jI_ne0 hpos (by omega)) (rem_1 hpos (by omega) (by omega)) ?_
    show xQ ML_isWalk (51, [some (.ref 0), some (.int (nI m)), some (.int (nI L.length)), some (.int (nI (dn (L.getD 0 (0, 0))))), some (.int (nI k)), some (.int (nI (L.getD k (0, 0)).1)), none, none], [.int (nI ((k + 1) % L.length)), .int (nI m), .ref 0], w4) _
    obtain ⟨r1, w5, hc5, hr1, i5, k5⟩ := C_wvert (x := nI m) (y := nI ((k + 1) % L.length)) i4
    subst hr1
    rw [hV _ (Nat.mod_lt _ hpos), ← a2] at hc5
    refine xQ.call rfl (hc5) ?_
    show xQ ML_isWalk (54, [some (.ref 0), some (.int (nI m)), some (.int (nI L.length)), some (.int (nI (dn (L.getD 0 (0, 0))))), some (.int (nI k)), some (.int (nI (L.getD k (0, 0)).1)), none, none], [.int (nI (L.getD k (0, 0)).2)], w5) _
    refine xQ.go 7 (F1 := (63, [some (.ref 0), some (.int (nI m)), some (.int (nI L.length)), some (.int (nI (dn (L.getD 0 (0, 0))))), some (.int (nI k)), some (.int (nI (L.getD k (0, 0)).1)), some (.int (nI (L.getD k (0, 0)).2)), none], [.int (nI L.length), .int ((nI k) + 2), .int (nI m), .ref 0], w5)) rfl ?_
    refine xQ.irem rfl (jI_ne0 hpos (by omega)) (rem_2 hpos (by omega) (by omega)) ?_
    show xQ ML_isWalk (64, [some (.ref 0), some (.int (nI m)), some (.int (nI L.length)), some (.int (nI (dn (L.getD 0 (0, 0))))), some (.int (nI k)), some (.int (nI (L.getD k (0, 0)).1)), some (.int (nI (L.getD k (0, 0)).2)), none], [.int (nI ((k + 2) % L.length)), .int (nI m), .ref 0], w5) _
    obtain ⟨r1, w6, hc6, hr1, i6, k6⟩ := C_wvert (x := nI m) (y := nI ((k + 2) % L.length)) i5
    subst hr1
    have e6 : (L.getD ((k + 2) % L.length) (0, 0)).1 = (L.getD ((k + 1) % L.length) (0, 0)).2 := by
      rw [← mod_12 hpos]
      exact (hat _ (Nat.mod_lt (k + 1) hpos)).2.1.symm
    rw [hV _ (Nat.mod_lt _ hpos), e6] at hc6
    refine xQ.call rfl (hc6) ?_
    show xQ ML_isWalk (67, [some (.ref 0), some (.int (nI m)), some (.int (nI L.length)), some (.int (nI (dn (L.getD 0 (0, 0))))), some (.int (nI k)), some (.int (nI (L.getD k (0, 0)).1)), some (.int (nI (L.getD k (0, 0)).2)), none], [.int (nI (L.getD ((k + 1) % L.length) (0, 0)).2)], w6) _
    obtain ⟨r1, w7, hc7, hr1, i7, k7⟩ := C_wof (x := nI (L.getD k (0, 0)).1) (y := nI (L.getD k (0, 0)).2) i6
    subst hr1
    rw [qWOf_at (h10 k hk).1 (h10 k hk).2 a1 hf a4] at hc7
    refine xQ.go 4 (F1 := (74, [some (.ref 0), some (.int (nI m)), some (.int (nI L.length)), some (.int (nI (dn (L.getD 0 (0, 0))))), some (.int (nI k)), some (.int (nI (L.getD k (0, 0)).1)), some (.int (nI (L.getD k (0, 0)).2)), some (.int (nI (L.getD ((k + 1) % L.length) (0, 0)).2))], [.int (nI (L.getD k (0, 0)).2), .int (nI (L.getD k (0, 0)).1), .ref 0], w6)) rfl ?_
    refine xQ.call rfl (hc7) ?_
    show xQ ML_isWalk (77, [some (.ref 0), some (.int (nI m)), some (.int (nI L.length)), some (.int (nI (dn (L.getD 0 (0, 0))))), some (.int (nI k)), some (.int (nI (L.getD k (0, 0)).1)), some (.int (nI (L.getD k (0, 0)).2)), some (.int (nI (L.getD ((k + 1) % L.length) (0, 0)).2))], [.int (nI m)], w7) _
    refine xQ.go 2 (F1 := (bif !decide ((nI m) = (nI m)) then 106 else 81, [some (.ref 0), some (.int (nI m)), some (.int (nI L.length)), some (.int (nI (dn (L.getD 0 (0, 0))))), some (.int (nI k)), some (.int (nI (L.getD k (0, 0)).1)), some (.int (nI (L.getD k (0, 0)).2)), some (.int (nI (L.getD ((k + 1) % L.length) (0, 0)).2))], [], w7)) rfl ?_
    refine xQ.brF ((by simp)) ?_
    obtain ⟨r1, w8, hc8, hr1, i8, k8⟩ := C_next (x := nI (L.getD k (0, 0)).2) (y := nI (L.getD k (0, 0)).1) i7
    subst hr1
    rw [qNext_at (h10 k hk).2 (h10 k hk).1 (by rw [hg.1]; exact a1) hf, a3] at hc8
    refine xQ.go 3 (F1 := (86, [some (.ref 0), some (.int (nI m)), some (.int (nI L.length)), some (.int (nI (dn (L.getD 0 (0, 0))))), some (.int (nI k)), some (.int (nI (L.getD k (0, 0)).1)), some (.int (nI (L.getD k (0, 0)).2)), some (.int (nI (L.getD ((k + 1) % L.length) (0, 0)).2))], [.int (nI (L.getD k (0, 0)).1), .int (nI (L.getD k (0, 0)).2), .ref 0], w7)) rfl ?_
    refine xQ.call rfl (hc8) ?_
    show xQ ML_isWalk (89, [some (.ref 0), some (.int (nI m)), some (.int (nI L.length)), some (.int (nI (dn (L.getD 0 (0, 0))))), some (.int (nI k)), some (.int (nI (L.getD k (0, 0)).1)), some (.int (nI (L.getD k (0, 0)).2)), some (.int (nI (L.getD ((k + 1) % L.length) (0, 0)).2))], [.int (nI (L.getD ((k + 1) % L.length) (0, 0)).2)], w8) _
    refine xQ.go 2 (F1 := (bif !decide ((nI (L.getD ((k + 1) % L.length) (0, 0)).2) = (nI (L.getD ((k + 1) % L.length) (0, 0)).2)) then 106 else 94, [some (.ref 0), some (.int (nI m)), some (.int (nI L.length)), some (.int (nI (dn (L.getD 0 (0, 0))))), some (.int (nI k)), some (.int (nI (L.getD k (0, 0)).1)), some (.int (nI (L.getD k (0, 0)).2)), some (.int (nI (L.getD ((k + 1) % L.length) (0, 0)).2))], [], w8)) rfl ?_
    refine xQ.brF ((by simp)) ?_
    refine xQ.go 5 (F1 := (102, [some (.ref 0), some (.int (nI m)), some (.int (nI L.length)), some (.int (nI (dn (L.getD 0 (0, 0))))), some (.int (nI k)), some (.int (nI (L.getD k (0, 0)).1)), some (.int (nI (L.getD k (0, 0)).2)), some (.int (nI (L.getD ((k + 1) % L.length) (0, 0)).2))], [.int ((10 * (nI (L.getD k (0, 0)).1)) + (nI (L.getD k (0, 0)).2))], w8)) rfl ?_
    rw [show (10 : Int32) = nI 10 from rfl, jI_mul, jI_add]
    show xQ ML_isWalk (102, [some (.ref 0), some (.int (nI m)), some (.int (nI L.length)), some (.int (nI (dn (L.getD 0 (0, 0))))), some (.int (nI k)), some (.int (nI (L.getD k (0, 0)).1)), some (.int (nI (L.getD k (0, 0)).2)), some (.int (nI (L.getD ((k + 1) % L.length) (0, 0)).2))], [.int (nI (dn (L.getD k (0, 0))))], w8) _
    refine xQ.go 2 (F1 := (bif decide ((nI (dn (L.getD 0 (0, 0)))) ≤ (nI (dn (L.getD k (0, 0))))) then 108 else 106, [some (.ref 0), some (.int (nI m)), some (.int (nI L.length)), some (.int (nI (dn (L.getD 0 (0, 0))))), some (.int (nI k)), some (.int (nI (L.getD k (0, 0)).1)), some (.int (nI (L.getD k (0, 0)).2)), some (.int (nI (L.getD ((k + 1) % L.length) (0, 0)).2))], [], w8)) rfl ?_
    refine xQ.brT (decide_eq_true (nI_leI (by show 10 * _ + _ < _; have := h10 0 hpos; omega) (by show 10 * _ + _ < _; have := h10 k hk; omega) |>.mpr a5)) ?_
    refine xQ.go 2 (F1 := (28, [some (.ref 0), some (.int (nI m)), some (.int (nI L.length)), some (.int (nI (dn (L.getD 0 (0, 0))))), some (.int ((nI k) + 1)), some (.int (nI (L.getD k (0, 0)).1)), some (.int (nI (L.getD k (0, 0)).2)), some (.int (nI (L.getD ((k + 1) % L.length) (0, 0)).2))], [], w8)) rfl ?_
    rw [← nI_succ]
    refine xQ.less [some (.ref 0), some (.int (nI m)), some (.int (nI L.length)), some (.int (nI (dn (L.getD 0 (0, 0))))), some (.int (nI (k + 1))), none, none, none] (by simp [xleb]) ?_
    exact K w8 ⟨i8, xkq_trans hq (xkq_trans k4 (xkq_trans k5 (xkq_trans k6 (xkq_trans k7 k8))))⟩
  · intro s hI
    obtain ⟨hJ, hq⟩ := hI
    refine xQ.go 3 (F1 := (bif decide ((nI L.length) ≤ (nI L.length)) then 114 else 34, [some (.ref 0), some (.int (nI m)), some (.int (nI L.length)), some (.int (nI (dn (L.getD 0 (0, 0))))), some (.int (nI L.length)), none, none, none], [], s)) rfl ?_
    refine xQ.brT (decide_eq_true (Int32.le_refl _)) ?_
    obtain ⟨r1, w4, hc4, hr1, i4, k4⟩ := C_walks hJ
    subst hr1
    rw [show qWalks A = nI (trG A.1.1 100).2.length by unfold qWalks; rw [if_pos hf]] at hc4
    have tail : ∀ (s' : xW) (b : Nat), cI s' A → xkq kC w s' → dn (L.getD 0 (0, 0)) < b → b ≤ 100 → xQ ML_isWalk (151, [some (.ref 0), some (.int (nI m)), some (.int (nI L.length)), some (.int (nI (dn (L.getD 0 (0, 0))))), some (.int (nI b)), none, none, none], [], s') (cV w A 1) := by
      intro s' b hJ' hq' hb hb2
      refine xQ.go 3 (F1 := (bif decide ((nI L.length) ≤ 1) then 186 else 156, [some (.ref 0), some (.int (nI m)), some (.int (nI L.length)), some (.int (nI (dn (L.getD 0 (0, 0))))), some (.int (nI b)), none, none, none], [], s')) rfl ?_
      refine xQ.brF ((by rw [show (1 : Int32) = nI 1 from rfl, nI_decle (by omega) (by omega)]; exact decide_eq_false (by omega))) ?_
      refine xQ.go 3 (F1 := (bif decide ((nI b) ≤ (nI (dn (L.getD 0 (0, 0))))) then 186 else 162, [some (.ref 0), some (.int (nI m)), some (.int (nI L.length)), some (.int (nI (dn (L.getD 0 (0, 0))))), some (.int (nI b)), none, none, none], [], s')) rfl ?_
      refine xQ.brF ((by rw [nI_decle (by omega) (by omega)]; exact decide_eq_false (by omega))) ?_
      obtain ⟨r1, w5, hc5, hr1, i5, k5⟩ := C_wvert (x := nI m) (y := nI L.length) hJ'
      subst hr1
      rw [hV0 _ (kI_n (Nat.le_refl _) (by omega))] at hc5
      refine xQ.go 3 (F1 := (165, [some (.ref 0), some (.int (nI m)), some (.int (nI L.length)), some (.int (nI (dn (L.getD 0 (0, 0))))), some (.int (nI b)), none, none, none], [.int (nI L.length), .int (nI m), .ref 0], s')) rfl ?_
      refine xQ.call rfl (hc5) ?_
      show xQ ML_isWalk (168, [some (.ref 0), some (.int (nI m)), some (.int (nI L.length)), some (.int (nI (dn (L.getD 0 (0, 0))))), some (.int (nI b)), none, none, none], [.int (-1)], w5) _
      refine xQ.go 2 (F1 := (bif !decide ((-1) = (-1)) then 186 else 172, [some (.ref 0), some (.int (nI m)), some (.int (nI L.length)), some (.int (nI (dn (L.getD 0 (0, 0))))), some (.int (nI b)), none, none, none], [], w5)) rfl ?_
      refine xQ.brF ((by decide)) ?_
      obtain ⟨r1, w6, hc6, hr1, i6, k6⟩ := C_wvert (x := nI m) (y := -1) i5
      subst hr1
      rw [hV0 _ (kI_m1 (by omega))] at hc6
      refine xQ.go 3 (F1 := (175, [some (.ref 0), some (.int (nI m)), some (.int (nI L.length)), some (.int (nI (dn (L.getD 0 (0, 0))))), some (.int (nI b)), none, none, none], [.int (-1), .int (nI m), .ref 0], w5)) rfl ?_
      refine xQ.call rfl (hc6) ?_
      show xQ ML_isWalk (178, [some (.ref 0), some (.int (nI m)), some (.int (nI L.length)), some (.int (nI (dn (L.getD 0 (0, 0))))), some (.int (nI b)), none, none, none], [.int (-1)], w6) _
      refine xQ.go 2 (F1 := (bif !decide ((-1) = (-1)) then 186 else 182, [some (.ref 0), some (.int (nI m)), some (.int (nI L.length)), some (.int (nI (dn (L.getD 0 (0, 0))))), some (.int (nI b)), none, none, none], [], w6)) rfl ?_
      refine xQ.brF ((by decide)) ?_
      refine xQ.go 2 (F1 := (187, [some (.ref 0), some (.int (nI m)), some (.int (nI L.length)), some (.int (nI (dn (L.getD 0 (0, 0))))), some (.int (nI b)), none, none, none], [.int 1], w6)) rfl ?_
      refine xQ.iret .boolean 1 rfl rfl (rfl) ?_
      exact ⟨rfl, i6, xkq_trans hq' (xkq_trans k5 k6)⟩
    refine xQ.go 3 (F1 := (117, [some (.ref 0), some (.int (nI m)), some (.int (nI L.length)), some (.int (nI (dn (L.getD 0 (0, 0))))), some (.int (nI L.length)), none, none, none], [.int ((nI m) + 1)], s)) rfl ?_
    rw [← nI_succ]
    show xQ ML_isWalk (117, [some (.ref 0), some (.int (nI m)), some (.int (nI L.length)), some (.int (nI (dn (L.getD 0 (0, 0))))), some (.int (nI L.length)), none, none, none], [.int (nI (m + 1))], s) _
    refine xQ.go 1 (F1 := (118, [some (.ref 0), some (.int (nI m)), some (.int (nI L.length)), some (.int (nI (dn (L.getD 0 (0, 0))))), some (.int (nI L.length)), none, none, none], [.ref 0, .int (nI (m + 1))], s)) rfl ?_
    refine xQ.call rfl (hc4) ?_
    show xQ ML_isWalk (121, [some (.ref 0), some (.int (nI m)), some (.int (nI L.length)), some (.int (nI (dn (L.getD 0 (0, 0))))), some (.int (nI L.length)), none, none, none], [.int (nI (trG A.1.1 100).2.length), .int (nI (m + 1))], w4) _
    have hL0 := h10 0 hpos
    by_cases hm : m + 1 < (trG A.1.1 100).2.length
    · refine xQ.go 1 (F1 := (bif decide ((nI (trG A.1.1 100).2.length) ≤ (nI (m + 1))) then 147 else 124, [some (.ref 0), some (.int (nI m)), some (.int (nI L.length)), some (.int (nI (dn (L.getD 0 (0, 0))))), some (.int (nI L.length)), none, none, none], [], w4)) rfl ?_
      refine xQ.brF ((decide_eq_false (nI_ge hm (by omega)))) ?_
      obtain ⟨g2, g48, gat, _⟩ := walk_at hf (getD_of hm [])
      have hnx := hnxt _ (getD_of hm [])
      have hV2 : ∀ j, j < ((trG A.1.1 100).2.getD (m + 1) []).length → qWVert A (nI (m + 1)) (nI j) = nI (((trG A.1.1 100).2.getD (m + 1) []).getD j (0, 0)).1 := fun j hj => qWVert_at hf hm hj
      generalize (trG A.1.1 100).2.getD (m + 1) [] = M at *
      have hM0 := hg.2.2 _ _ (gat 0 (by omega)).1
      have e1 : (M.getD 1 (0, 0)).1 = (M.getD 0 (0, 0)).2 := by
        have := (gat 0 (by omega)).2.1
        rw [Nat.mod_eq_of_lt (show 0 + 1 < M.length by omega)] at this
        exact this.symm
      refine xQ.go 5 (F1 := (130, [some (.ref 0), some (.int (nI m)), some (.int (nI L.length)), some (.int (nI (dn (L.getD 0 (0, 0))))), some (.int (nI L.length)), none, none, none], [.int ((nI m) + 1), .ref 0, .int 10], w4)) rfl ?_
      rw [← nI_succ]
      show xQ ML_isWalk (130, [some (.ref 0), some (.int (nI m)), some (.int (nI L.length)), some (.int (nI (dn (L.getD 0 (0, 0))))), some (.int (nI L.length)), none, none, none], [.int (nI (m + 1)), .ref 0, .int 10], w4) _
      obtain ⟨r1, w5, hc5, hr1, i5, k5⟩ := C_wvert (x := nI (m + 1)) (y := 0) i4
      subst hr1
      rw [show (0 : Int32) = nI 0 from rfl, hV2 0 (by omega)] at hc5
      refine xQ.go 1 (F1 := (131, [some (.ref 0), some (.int (nI m)), some (.int (nI L.length)), some (.int (nI (dn (L.getD 0 (0, 0))))), some (.int (nI L.length)), none, none, none], [.int 0, .int (nI (m + 1)), .ref 0, .int 10], w4)) rfl ?_
      refine xQ.call rfl (hc5) ?_
      show xQ ML_isWalk (134, [some (.ref 0), some (.int (nI m)), some (.int (nI L.length)), some (.int (nI (dn (L.getD 0 (0, 0))))), some (.int (nI L.length)), none, none, none], [.int (nI (M.getD 0 (0, 0)).1), .int 10], w5) _
      refine xQ.go 5 (F1 := (139, [some (.ref 0), some (.int (nI m)), some (.int (nI L.length)), some (.int (nI (dn (L.getD 0 (0, 0))))), some (.int (nI L.length)), none, none, none], [.int ((nI m) + 1), .ref 0, .int (10 * (nI (M.getD 0 (0, 0)).1))], w5)) rfl ?_
      rw [← nI_succ]
      show xQ ML_isWalk (139, [some (.ref 0), some (.int (nI m)), some (.int (nI L.length)), some (.int (nI (dn (L.getD 0 (0, 0))))), some (.int (nI L.length)), none, none, none], [.int (nI (m + 1)), .ref 0, .int (10 * (nI (M.getD 0 (0, 0)).1))], w5) _
      obtain ⟨r1, w6, hc6, hr1, i6, k6⟩ := C_wvert (x := nI (m + 1)) (y := 1) i5
      subst hr1
      rw [show (1 : Int32) = nI 1 from rfl, hV2 1 (by omega), e1] at hc6
      refine xQ.go 1 (F1 := (140, [some (.ref 0), some (.int (nI m)), some (.int (nI L.length)), some (.int (nI (dn (L.getD 0 (0, 0))))), some (.int (nI L.length)), none, none, none], [.int 1, .int (nI (m + 1)), .ref 0, .int (10 * (nI (M.getD 0 (0, 0)).1))], w5)) rfl ?_
      refine xQ.call rfl (hc6) ?_
      show xQ ML_isWalk (143, [some (.ref 0), some (.int (nI m)), some (.int (nI L.length)), some (.int (nI (dn (L.getD 0 (0, 0))))), some (.int (nI L.length)), none, none, none], [.int (nI (M.getD 0 (0, 0)).2), .int (10 * (nI (M.getD 0 (0, 0)).1))], w6) _
      refine xQ.go 1 (F1 := (144, [some (.ref 0), some (.int (nI m)), some (.int (nI L.length)), some (.int (nI (dn (L.getD 0 (0, 0))))), some (.int (nI L.length)), none, none, none], [.int ((10 * (nI (M.getD 0 (0, 0)).1)) + (nI (M.getD 0 (0, 0)).2))], w6)) rfl ?_
      rw [show (10 : Int32) = nI 10 from rfl, jI_mul, jI_add]
      show xQ ML_isWalk (144, [some (.ref 0), some (.int (nI m)), some (.int (nI L.length)), some (.int (nI (dn (L.getD 0 (0, 0))))), some (.int (nI L.length)), none, none, none], [.int (nI (dn (M.getD 0 (0, 0))))], w6) _
      refine xQ.go 2 (F1 := (151, [some (.ref 0), some (.int (nI m)), some (.int (nI L.length)), some (.int (nI (dn (L.getD 0 (0, 0))))), some (.int (nI (dn (M.getD 0 (0, 0))))), none, none, none], [], w6)) rfl ?_
      exact tail w6 _ i6 (xkq_trans hq (xkq_trans k4 (xkq_trans k5 k6))) hnx (by show 10 * _ + _ ≤ _; omega)
    · refine xQ.go 1 (F1 := (bif decide ((nI (trG A.1.1 100).2.length) ≤ (nI (m + 1))) then 147 else 124, [some (.ref 0), some (.int (nI m)), some (.int (nI L.length)), some (.int (nI (dn (L.getD 0 (0, 0))))), some (.int (nI L.length)), none, none, none], [], w4)) rfl ?_
      refine xQ.brT ((by rw [nI_decle (by omega) (by omega)]; exact decide_eq_true (by omega))) ?_
      refine xQ.go 2 (F1 := (151, [some (.ref 0), some (.int (nI m)), some (.int (nI L.length)), some (.int (nI (dn (L.getD 0 (0, 0))))), some (.int 100), none, none, none], [], w4)) rfl ?_
      exact tail w4 100 i4 (xkq_trans hq k4) (by show 10 * _ + _ < _; omega) (Nat.le_refl _)
