/-! isWalk -/
theorem walk_at {e : Int64} (hf : fl e = true) {k : Nat} {L : List xPr} (hk : (trG e 100).2[k]? = some L) : 2 ≤ L.length ∧ L.length ≤ 48 ∧ (∀ j, j < L.length → gr e (L.getD j (0, 0)).1 (L.getD j (0, 0)).2 = true ∧ (L.getD j (0, 0)).2 = (L.getD ((j + 1) % L.length) (0, 0)).1 ∧ nxt (gr e) (L.getD j (0, 0)).2 (L.getD j (0, 0)).1 = (L.getD ((j + 1) % L.length) (0, 0)).2 ∧ (trG e 100).1 (dn (L.getD j (0, 0))) = some k ∧ dn (L.getD 0 (0, 0)) ≤ dn (L.getD j (0, 0))) ∧ ∀ L', (trG e 100).2[k + 1]? = some L' → dn (L.getD 0 (0, 0)) < dn (L'.getD 0 (0, 0)) := by
  have hg := gr_gok e
  have hff : flt (gr e) (blks (gr e) 100) = true := hf
  have hG : ∀ v w, gr e v w = true → v < 10 ∧ w < 10 ∧ gr e w (nxt (gr e) w v) = true := fun v w h => ⟨(hg.2.2 _ _ h).1, (hg.2.2 _ _ h).2, nxt_edge hg hff (by rw [hg.1]; exact h)⟩
  obtain ⟨gs, hF, _⟩ := FAM_all hg hff
  have hcl := trc_closed hG hF 100
  have hinc := (trc_inc (G := gr e) (N := nxt (gr e)) 100).2
  obtain ⟨t1, t2, t3, t4⟩ := trc_ok hG 100
  have hlen := trG_len hf
  have hoff := (off_le hk).2
  have hk' : (trc (nxt (gr e)) (gr e) 100).2[k]? = some L := hk
  obtain ⟨s1, ⟨q, t, s2, s3, s4, s5⟩, s6⟩ := t2 k L hk'
  have hpos : 0 < L.length := by rw [s2]; simp
  have hget : ∀ j, j < L.length → L[j]? = some (L.getD j (0, 0)) := fun j hj => getD_of hj _
  have hmem : ∀ j, j < L.length → L.getD j (0, 0) ∈ L := fun j hj => List.mem_of_getElem? (hget j hj)
  have hnx : ∀ j, j < L.length → (L.getD j (0, 0)).2 = (L.getD ((j + 1) % L.length) (0, 0)).1 ∧ nxt (gr e) (L.getD j (0, 0)).2 (L.getD j (0, 0)).1 = (L.getD ((j + 1) % L.length) (0, 0)).2 := by
    intro j hj
    have hj2 := Nat.mod_lt (j + 1) hpos
    have hd : (dn (L.getD j (0, 0)), dn (L.getD ((j + 1) % L.length) (0, 0))) ∈ dts (L.map dn) := dts_get (i := j) (by rw [List.getElem?_map, hget j hj]; rfl) (by rw [List.length_map, List.getElem?_map, hget _ hj2]; rfl)
    have h1 := hcl L (List.mem_of_getElem? hk') _ hd
    have g1 := s6 _ (hmem j hj)
    have g2 := s6 _ (hmem _ hj2)
    have h1 : fN (nxt (gr e)) (10 * (L.getD j (0, 0)).1 + (L.getD j (0, 0)).2) = 10 * (L.getD ((j + 1) % L.length) (0, 0)).1 + (L.getD ((j + 1) % L.length) (0, 0)).2 := h1
    rw [fN_dn (hG _ _ g1).2.1] at h1
    have a1 := hG _ _ g1
    have a2 := hG _ _ g2
    have a3 := hG _ _ a1.2.2
    omega
  refine ⟨?_, by omega, fun j hj => ⟨s6 _ (hmem j hj), (hnx j hj).1, (hnx j hj).2, (t1 _ k).mpr ⟨L, hk', List.mem_map.mpr ⟨_, hmem j hj, rfl⟩⟩, ?_⟩, fun L' hL' => ?_⟩
  · refine Nat.le_of_not_lt fun h => ?_
    have e1 : L.length = 1 := by omega
    have h1 := (hnx 0 hpos).1
    rw [e1] at h1
    have h2 := s6 _ (hmem 0 hpos)
    have h1 : (L.getD 0 (0, 0)).2 = (L.getD 0 (0, 0)).1 := h1
    rw [h1, hg.2.1] at h2
    cases h2
  · have h0 : L.getD 0 (0, 0) = q := by rw [s2]; rfl
    rw [h0]
    exact s4 _ (hmem j hj)
  · have hL2 : (trc (nxt (gr e)) (gr e) 100).2[k + 1]? = some L' := hL'
    obtain ⟨_, ⟨q', t', r2, _⟩, _⟩ := t2 (k + 1) L' hL2
    rw [List.pairwise_iff_getElem] at hinc
    obtain ⟨i1, i2⟩ := List.getElem?_eq_some_iff.mp hk'
    obtain ⟨j1, j2⟩ := List.getElem?_eq_some_iff.mp hL2
    have := hinc k (k + 1) i1 j1 (by omega) q t q' t' (i2.trans s2) (j2.trans r2)
    rw [s2, r2]
    exact this
