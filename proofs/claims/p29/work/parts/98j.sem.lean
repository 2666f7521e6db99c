/-! every run of the small machine is a run of the kit's -/
section
variable {D : va_G} {cI cJ : ClassId} {l : Launch}
theorem xret_rOK {N : Nat} {M : xMI} {F : xF} {r : Option Value} (hN : xNo N F) (h : xret M F r) : rOK N M r := fun a ha => by
  rcases h with ⟨v, ty, n, hd, hst, rfl, hrt, hn⟩ | ⟨v, n, hd, hst, rfl, hrt⟩ | ⟨v, n, hd, hst, rfl, hrt⟩ | ⟨v, n, nm, hd, hst, rfl, hrt⟩ | ⟨n, hd, hst, rfl, hrt⟩
  · cases ha
  · cases ha
  · cases ha
  · cases ha
    exact ⟨noS_iff.mp hN.2 a (by rw [hst]; exact List.mem_cons_self), nm, hrt⟩
  · cases ha
theorem xpsh_no {N : Nat} {M2 : xMI} {F1 : xF} {r2 : Option Value} {w2 : xW} (h : xNo N F1) (hr : rOK N M2 r2) : xNo N (xpsh F1 r2 w2) := by
  refine ⟨h.1, noS_iff.mpr fun a ha => ?_⟩
  have ha : Value.ref a ∈ r2.toList ++ F1.2.2.1 := ha
  rcases List.mem_append.mp ha with h1 | h1
  · cases r2 with
    | none => cases h1
    | some v =>
      have h1 : Value.ref a ∈ [v] := h1
      exact (hr a (by rw [List.mem_singleton.mp h1])).1
  · exact noS_iff.mp h.2 a h1
theorem xsem_rule : xrule (xsem D cI cJ l) := by
  refine ⟨?_, ?_, ?_, ?_, ?_⟩
  · intro M F F1 r w1 h hP hM hN
    obtain ⟨k1, k2⟩ := xs1_keep (by have := nc_ge F.2.2.2; omega) hN h
    have h2 := hP hM (by rw [nc_of k2]; exact k1)
    rw [nc_of k2, cw_of k2] at h2
    obtain ⟨h3, h4⟩ := h2
    refine ⟨h3, fun ad sz hi c0 hc p e s m args below meth c C => ?_⟩
    have := h3.2.2
    exact xs1_go hi hM C ⟨by show _ ≤ cw w1 - c0; omega, by show _ ≤ 10 * (cw w1 - c0); omega, Nat.le_refl _, Nat.le_refl _⟩ hN h (h4 ad sz hi c0 hc p e s m args below meth c C)
  · intro M F r h hM hN
    exact ⟨⟨rfl, xret_rOK hN h, Nat.le_refl _⟩, fun ad sz hi c0 hc p e s m args below meth c C => xret_go hM C h⟩
  · intro M F M2 as F1 r2 w2 r w1 h h2 hP hM hN
    obtain ⟨n1, n2, n3, hM2, n5⟩ := xcal_no (xlks_own M) hN h
    obtain ⟨⟨a1, a2, a3⟩, a4⟩ := h2 hM2.1 (xent_no n1)
    have a1 : nc w2 = nc F.2.2.2 := a1
    have a2 : rOK (nc F.2.2.2) M2 r2 := a2
    have a3 : cw F.2.2.2 ≤ cw w2 := a3
    obtain ⟨⟨b1, b2, b3⟩, b4⟩ := hP hM (by show xNo (nc w2) _; rw [a1]; exact xpsh_no n2 a2)
    have b1 : nc w1 = nc w2 := b1
    have b2 : rOK (nc w2) M r := b2
    have b3 : cw w2 ≤ cw w1 := b3
    refine ⟨⟨b1.trans a1, by rw [a1] at b2; exact b2, Nat.le_trans a3 b3⟩, fun ad sz hi c0 hc p e s m args below meth c C => ?_⟩
    have met := xsem_met (D := D) (cI := cI) (cJ := cJ) (l := l) hM2 n5 n1 hi h2
    have k := b4 ad sz (by show xinj (nc w2) sz ad; rw [a1]; exact hi) c0 (by show c0 ≤ cw w2; omega) p e s m args below meth c C
    have k : xgo (nc w2) D cI cJ ad sz M (xrm M (cw w1 - c0)) p l e s m args below meth c (cw w2 - c0) (10 * (cw w2 - c0)) (MQ below (xQo (nc w2) D cI cJ ad sz r w1) args s (cw w1 - c0) (10 * (cw w1 - c0)) (xA sz)) (xpsh F1 r2 w2) := k
    rw [a1] at k
    refine xcal_go (lk := xlnk (xm_c M)) (xlks_own M) (mc := cw w2 - cw F.2.2.2) hi hM C hN ⟨by show _ ≤ cw w1 - c0; omega, by show _ ≤ 10 * (cw w1 - c0); omega, Nat.le_refl _, Nat.le_refl _⟩ h met ?_
    rw [show cw F.2.2.2 - c0 + (cw w2 - cw F.2.2.2) = cw w2 - c0 by omega, show 10 * (cw F.2.2.2 - c0) + 10 * (cw w2 - cw F.2.2.2) = 10 * (cw w2 - c0) by omega]
    exact k
  · intro M pc L1 L2 st w r w1 hn hl hP hM hN
    have hN1 : xNo (nc w) ((pc, L1, st, w) : xF) := ⟨fun i a hi => hN.1 i a (hl i _ hi), hN.2⟩
    obtain ⟨h3, h4⟩ := hP hM hN1
    exact ⟨h3, fun ad sz hi c0 hc p e s m args below meth c C H locs ls hP1 hS hL => h4 ad sz hi c0 hc p e s m args below meth c C H locs ls hP1 hS (hL.le hn hl)⟩
  · intro M F F1 r2 w3 r w1 h h0 h1 h2 h3 hB hP hM hN
    have hnc : nc F.2.2.2 = 47 := by
      unfold nc
      rw [h0]
      rfl
    have hcw : cw F.2.2.2 = 0 := by
      unfold cw
      rw [h0, h1]
      rfl
    have hnx : nc (xend w3) = 47 := rfl
    have hcx : cw (xend w3) = 1 := rfl
    rw [hnc] at hN ⊢
    rw [hcw]
    obtain ⟨n1, n2, n3, hM2, n5⟩ := xcal_no (xlks_own M) hN h
    have hr2 : rOK 47 ML_isForbidden r2 := by
      have hxno : xNo (nc (xfe F.2.2.2).2.2.2) (xfe F.2.2.2) := by
        show xNo 48 _
        refine ⟨fun i a hia => ?_, trivial⟩
        have hia : ([some (.ref 0), some (.ref 45), some (.ref 47), none, none, none, none, none, none, none, none] : xL)[i]? = some (some (.ref a)) := hia
        match i, hia with
        | 0, h => cases h; decide
        | 1, h => cases h; decide
        | 2, h => cases h; decide
        | i + 3, h =>
          exfalso
          have hm := List.mem_of_getElem? (l := ([none, none, none, none, none, none, none, none] : xL)) (i := i) (a := some (.ref a)) h
          simp at hm
      intro a ha
      obtain ⟨_, nm, e1⟩ := (hB hM2.1 hxno).1.2.1 a ha
      cases e1
    obtain ⟨⟨b1, b2, b3⟩, b4⟩ := hP hM (by show xNo (nc (xend w3)) _; rw [hnx]; exact xpsh_no n2 hr2)
    have b1 : nc w1 = 47 := b1
    have b2 : rOK 47 M r := b2
    have b3 : cw (xend w3) ≤ cw w1 := b3
    refine ⟨⟨b1, b2, Nat.zero_le _⟩, fun ad sz hi c0 hc p e s m args below meth c C => ?_⟩
    have met := met_forb (D := D) (cI := cI) (cJ := cJ) (l := l) hi h0 h1 h2 h3 hB
    have k : xgo 47 D cI cJ ad sz M (xrm M (cw w1 - c0)) p l e s m args below meth c (cw (xend w3) - c0) (10 * (cw (xend w3) - c0)) (MQ below (xQo 47 D cI cJ ad sz r w1) args s (cw w1 - c0) (10 * (cw w1 - c0)) (xA sz)) (xpsh F1 r2 (xend w3)) := b4 ad sz hi c0 (by show c0 ≤ cw (xend w3); omega) p e s m args below meth c C
    refine xcal_go (lk := xlnk (xm_c M)) (xlks_own M) (mc := 1) hi hM C hN ⟨by show _ ≤ cw w1 - c0; omega, by show _ ≤ 10 * (cw w1 - c0); omega, Nat.le_refl _, Nat.le_refl _⟩ h met ?_
    rw [show 0 - c0 + 1 = cw (xend w3) - c0 by omega, show 10 * (0 - c0) + 10 * 1 = 10 * (cw (xend w3) - c0) by omega]
    exact k
/-- THE CONTRACT out of a run of the small machine -/
theorem xC_met {M : xMI} {sz : Nat} {ad : Nat → Nat} {as : List Value} {w w1 : xW} {r : Option Value} (hM : xmOK M) (hlen : (xarg as).length ≤ xm_n M) (hN : noS (nc w) as) (hi : xinj (nc w) sz ad) (h : xC M as w r w1) : Met l (xm_y M) (xwsM M) (xrm M (cw w1 - cw w)) (xPc (nc w) D cI cJ ad as w) (xQo (nc w) D cI cJ ad sz r w1) (cw w1 - cw w) (10 * (cw w1 - cw w)) (xA sz) := xsem_met hM hlen hN hi (h _ xsem_rule)
end
