/-! the reference: questions about blocks -/
theorem ec_pairs {H : Nat → Nat → Bool} (hs : ∀ x y, H x y = H y x) : ec H = cnt (fun e => H (pa e) (pb e)) 45 := by
  rw [show cnt (fun e => H (pa e) (pb e)) 45 = cnt (fun e => H (pb e) (pa e)) 45 from cnt_ext fun e _ => hs _ _]
  have h1 : ec H = ((((((((((0 + 0) + (0 + (bif H 1 0 then 1 else 0))) + ((0 + (bif H 2 0 then 1 else 0)) + (bif H 2 1 then 1 else 0))) + (((0 + (bif H 3 0 then 1 else 0)) + (bif H 3 1 then 1 else 0)) + (bif H 3 2 then 1 else 0))) + ((((0 + (bif H 4 0 then 1 else 0)) + (bif H 4 1 then 1 else 0)) + (bif H 4 2 then 1 else 0)) + (bif H 4 3 then 1 else 0))) + (((((0 + (bif H 5 0 then 1 else 0)) + (bif H 5 1 then 1 else 0)) + (bif H 5 2 then 1 else 0)) + (bif H 5 3 then 1 else 0)) + (bif H 5 4 then 1 else 0))) + ((((((0 + (bif H 6 0 then 1 else 0)) + (bif H 6 1 then 1 else 0)) + (bif H 6 2 then 1 else 0)) + (bif H 6 3 then 1 else 0)) + (bif H 6 4 then 1 else 0)) + (bif H 6 5 then 1 else 0))) + (((((((0 + (bif H 7 0 then 1 else 0)) + (bif H 7 1 then 1 else 0)) + (bif H 7 2 then 1 else 0)) + (bif H 7 3 then 1 else 0)) + (bif H 7 4 then 1 else 0)) + (bif H 7 5 then 1 else 0)) + (bif H 7 6 then 1 else 0))) + ((((((((0 + (bif H 8 0 then 1 else 0)) + (bif H 8 1 then 1 else 0)) + (bif H 8 2 then 1 else 0)) + (bif H 8 3 then 1 else 0)) + (bif H 8 4 then 1 else 0)) + (bif H 8 5 then 1 else 0)) + (bif H 8 6 then 1 else 0)) + (bif H 8 7 then 1 else 0))) + (((((((((0 + (bif H 9 0 then 1 else 0)) + (bif H 9 1 then 1 else 0)) + (bif H 9 2 then 1 else 0)) + (bif H 9 3 then 1 else 0)) + (bif H 9 4 then 1 else 0)) + (bif H 9 5 then 1 else 0)) + (bif H 9 6 then 1 else 0)) + (bif H 9 7 then 1 else 0)) + (bif H 9 8 then 1 else 0))) := rfl
  have h2 : cnt (fun e => H (pb e) (pa e)) 45 = (((((((((((((((((((((((((((((((((((((((((((((0 + (bif H (pb 0) (pa 0) then 1 else 0)) + (bif H (pb 1) (pa 1) then 1 else 0)) + (bif H (pb 2) (pa 2) then 1 else 0)) + (bif H (pb 3) (pa 3) then 1 else 0)) + (bif H (pb 4) (pa 4) then 1 else 0)) + (bif H (pb 5) (pa 5) then 1 else 0)) + (bif H (pb 6) (pa 6) then 1 else 0)) + (bif H (pb 7) (pa 7) then 1 else 0)) + (bif H (pb 8) (pa 8) then 1 else 0)) + (bif H (pb 9) (pa 9) then 1 else 0)) + (bif H (pb 10) (pa 10) then 1 else 0)) + (bif H (pb 11) (pa 11) then 1 else 0)) + (bif H (pb 12) (pa 12) then 1 else 0)) + (bif H (pb 13) (pa 13) then 1 else 0)) + (bif H (pb 14) (pa 14) then 1 else 0)) + (bif H (pb 15) (pa 15) then 1 else 0)) + (bif H (pb 16) (pa 16) then 1 else 0)) + (bif H (pb 17) (pa 17) then 1 else 0)) + (bif H (pb 18) (pa 18) then 1 else 0)) + (bif H (pb 19) (pa 19) then 1 else 0)) + (bif H (pb 20) (pa 20) then 1 else 0)) + (bif H (pb 21) (pa 21) then 1 else 0)) + (bif H (pb 22) (pa 22) then 1 else 0)) + (bif H (pb 23) (pa 23) then 1 else 0)) + (bif H (pb 24) (pa 24) then 1 else 0)) + (bif H (pb 25) (pa 25) then 1 else 0)) + (bif H (pb 26) (pa 26) then 1 else 0)) + (bif H (pb 27) (pa 27) then 1 else 0)) + (bif H (pb 28) (pa 28) then 1 else 0)) + (bif H (pb 29) (pa 29) then 1 else 0)) + (bif H (pb 30) (pa 30) then 1 else 0)) + (bif H (pb 31) (pa 31) then 1 else 0)) + (bif H (pb 32) (pa 32) then 1 else 0)) + (bif H (pb 33) (pa 33) then 1 else 0)) + (bif H (pb 34) (pa 34) then 1 else 0)) + (bif H (pb 35) (pa 35) then 1 else 0)) + (bif H (pb 36) (pa 36) then 1 else 0)) + (bif H (pb 37) (pa 37) then 1 else 0)) + (bif H (pb 38) (pa 38) then 1 else 0)) + (bif H (pb 39) (pa 39) then 1 else 0)) + (bif H (pb 40) (pa 40) then 1 else 0)) + (bif H (pb 41) (pa 41) then 1 else 0)) + (bif H (pb 42) (pa 42) then 1 else 0)) + (bif H (pb 43) (pa 43) then 1 else 0)) + (bif H (pb 44) (pa 44) then 1 else 0)) := rfl
  have f0 : pa 0 = 0 := by decide +kernel
  have g0 : pb 0 = 1 := by decide +kernel
  have f1 : pa 1 = 0 := by decide +kernel
  have g1 : pb 1 = 2 := by decide +kernel
  have f2 : pa 2 = 0 := by decide +kernel
  have g2 : pb 2 = 3 := by decide +kernel
  have f3 : pa 3 = 0 := by decide +kernel
  have g3 : pb 3 = 4 := by decide +kernel
  have f4 : pa 4 = 0 := by decide +kernel
  have g4 : pb 4 = 5 := by decide +kernel
  have f5 : pa 5 = 0 := by decide +kernel
  have g5 : pb 5 = 6 := by decide +kernel
  have f6 : pa 6 = 0 := by decide +kernel
  have g6 : pb 6 = 7 := by decide +kernel
  have f7 : pa 7 = 0 := by decide +kernel
  have g7 : pb 7 = 8 := by decide +kernel
  have f8 : pa 8 = 0 := by decide +kernel
  have g8 : pb 8 = 9 := by decide +kernel
  have f9 : pa 9 = 1 := by decide +kernel
  have g9 : pb 9 = 2 := by decide +kernel
  have f10 : pa 10 = 1 := by decide +kernel
  have g10 : pb 10 = 3 := by decide +kernel
  have f11 : pa 11 = 1 := by decide +kernel
  have g11 : pb 11 = 4 := by decide +kernel
  have f12 : pa 12 = 1 := by decide +kernel
  have g12 : pb 12 = 5 := by decide +kernel
  have f13 : pa 13 = 1 := by decide +kernel
  have g13 : pb 13 = 6 := by decide +kernel
  have f14 : pa 14 = 1 := by decide +kernel
  have g14 : pb 14 = 7 := by decide +kernel
  have f15 : pa 15 = 1 := by decide +kernel
  have g15 : pb 15 = 8 := by decide +kernel
  have f16 : pa 16 = 1 := by decide +kernel
  have g16 : pb 16 = 9 := by decide +kernel
  have f17 : pa 17 = 2 := by decide +kernel
  have g17 : pb 17 = 3 := by decide +kernel
  have f18 : pa 18 = 2 := by decide +kernel
  have g18 : pb 18 = 4 := by decide +kernel
  have f19 : pa 19 = 2 := by decide +kernel
  have g19 : pb 19 = 5 := by decide +kernel
  have f20 : pa 20 = 2 := by decide +kernel
  have g20 : pb 20 = 6 := by decide +kernel
  have f21 : pa 21 = 2 := by decide +kernel
  have g21 : pb 21 = 7 := by decide +kernel
  have f22 : pa 22 = 2 := by decide +kernel
  have g22 : pb 22 = 8 := by decide +kernel
  have f23 : pa 23 = 2 := by decide +kernel
  have g23 : pb 23 = 9 := by decide +kernel
  have f24 : pa 24 = 3 := by decide +kernel
  have g24 : pb 24 = 4 := by decide +kernel
  have f25 : pa 25 = 3 := by decide +kernel
  have g25 : pb 25 = 5 := by decide +kernel
  have f26 : pa 26 = 3 := by decide +kernel
  have g26 : pb 26 = 6 := by decide +kernel
  have f27 : pa 27 = 3 := by decide +kernel
  have g27 : pb 27 = 7 := by decide +kernel
  have f28 : pa 28 = 3 := by decide +kernel
  have g28 : pb 28 = 8 := by decide +kernel
  have f29 : pa 29 = 3 := by decide +kernel
  have g29 : pb 29 = 9 := by decide +kernel
  have f30 : pa 30 = 4 := by decide +kernel
  have g30 : pb 30 = 5 := by decide +kernel
  have f31 : pa 31 = 4 := by decide +kernel
  have g31 : pb 31 = 6 := by decide +kernel
  have f32 : pa 32 = 4 := by decide +kernel
  have g32 : pb 32 = 7 := by decide +kernel
  have f33 : pa 33 = 4 := by decide +kernel
  have g33 : pb 33 = 8 := by decide +kernel
  have f34 : pa 34 = 4 := by decide +kernel
  have g34 : pb 34 = 9 := by decide +kernel
  have f35 : pa 35 = 5 := by decide +kernel
  have g35 : pb 35 = 6 := by decide +kernel
  have f36 : pa 36 = 5 := by decide +kernel
  have g36 : pb 36 = 7 := by decide +kernel
  have f37 : pa 37 = 5 := by decide +kernel
  have g37 : pb 37 = 8 := by decide +kernel
  have f38 : pa 38 = 5 := by decide +kernel
  have g38 : pb 38 = 9 := by decide +kernel
  have f39 : pa 39 = 6 := by decide +kernel
  have g39 : pb 39 = 7 := by decide +kernel
  have f40 : pa 40 = 6 := by decide +kernel
  have g40 : pb 40 = 8 := by decide +kernel
  have f41 : pa 41 = 6 := by decide +kernel
  have g41 : pb 41 = 9 := by decide +kernel
  have f42 : pa 42 = 7 := by decide +kernel
  have g42 : pb 42 = 8 := by decide +kernel
  have f43 : pa 43 = 7 := by decide +kernel
  have g43 : pb 43 = 9 := by decide +kernel
  have f44 : pa 44 = 8 := by decide +kernel
  have g44 : pb 44 = 9 := by decide +kernel
  rw [h1, h2]
  simp only [f0, g0, f1, g1, f2, g2, f3, g3, f4, g4, f5, g5, f6, g6, f7, g7, f8, g8, f9, g9, f10, g10, f11, g11, f12, g12, f13, g13, f14, g14, f15, g15, f16, g16, f17, g17, f18, g18, f19, g19, f20, g20, f21, g21, f22, g22, f23, g23, f24, g24, f25, g25, f26, g26, f27, g27, f28, g28, f29, g29, f30, g30, f31, g31, f32, g32, f33, g33, f34, g34, f35, g35, f36, g36, f37, g37, f38, g38, f39, g39, f40, g40, f41, g41, f42, g42, f43, g43, f44, g44]
  clear h1 h2
  generalize (bif H 1 0 then 1 else 0 : Nat) = t0
  generalize (bif H 2 0 then 1 else 0 : Nat) = t1
  generalize (bif H 3 0 then 1 else 0 : Nat) = t2
  generalize (bif H 4 0 then 1 else 0 : Nat) = t3
  generalize (bif H 5 0 then 1 else 0 : Nat) = t4
  generalize (bif H 6 0 then 1 else 0 : Nat) = t5
  generalize (bif H 7 0 then 1 else 0 : Nat) = t6
  generalize (bif H 8 0 then 1 else 0 : Nat) = t7
  generalize (bif H 9 0 then 1 else 0 : Nat) = t8
  generalize (bif H 2 1 then 1 else 0 : Nat) = t9
  generalize (bif H 3 1 then 1 else 0 : Nat) = t10
  generalize (bif H 4 1 then 1 else 0 : Nat) = t11
  generalize (bif H 5 1 then 1 else 0 : Nat) = t12
  generalize (bif H 6 1 then 1 else 0 : Nat) = t13
  generalize (bif H 7 1 then 1 else 0 : Nat) = t14
  generalize (bif H 8 1 then 1 else 0 : Nat) = t15
  generalize (bif H 9 1 then 1 else 0 : Nat) = t16
  generalize (bif H 3 2 then 1 else 0 : Nat) = t17
  generalize (bif H 4 2 then 1 else 0 : Nat) = t18
  generalize (bif H 5 2 then 1 else 0 : Nat) = t19
  generalize (bif H 6 2 then 1 else 0 : Nat) = t20
  generalize (bif H 7 2 then 1 else 0 : Nat) = t21
  generalize (bif H 8 2 then 1 else 0 : Nat) = t22
  generalize (bif H 9 2 then 1 else 0 : Nat) = t23
  generalize (bif H 4 3 then 1 else 0 : Nat) = t24
  generalize (bif H 5 3 then 1 else 0 : Nat) = t25
  generalize (bif H 6 3 then 1 else 0 : Nat) = t26
  generalize (bif H 7 3 then 1 else 0 : Nat) = t27
  generalize (bif H 8 3 then 1 else 0 : Nat) = t28
  generalize (bif H 9 3 then 1 else 0 : Nat) = t29
  generalize (bif H 5 4 then 1 else 0 : Nat) = t30
  generalize (bif H 6 4 then 1 else 0 : Nat) = t31
  generalize (bif H 7 4 then 1 else 0 : Nat) = t32
  generalize (bif H 8 4 then 1 else 0 : Nat) = t33
  generalize (bif H 9 4 then 1 else 0 : Nat) = t34
  generalize (bif H 6 5 then 1 else 0 : Nat) = t35
  generalize (bif H 7 5 then 1 else 0 : Nat) = t36
  generalize (bif H 8 5 then 1 else 0 : Nat) = t37
  generalize (bif H 9 5 then 1 else 0 : Nat) = t38
  generalize (bif H 7 6 then 1 else 0 : Nat) = t39
  generalize (bif H 8 6 then 1 else 0 : Nat) = t40
  generalize (bif H 9 6 then 1 else 0 : Nat) = t41
  generalize (bif H 8 7 then 1 else 0 : Nat) = t42
  generalize (bif H 9 7 then 1 else 0 : Nat) = t43
  generalize (bif H 9 8 then 1 else 0 : Nat) = t44
  omega
theorem bix_iff {G : Nat → Nat → Bool} (hg : gok G) {k f : Nat} {p : xPr} (hk : (blks G 100)[k]? = some p) (hf : f < 45) (hfe : ed G f = true) : bix G (blks G 100) f = k ↔ (bS G p (pa f) && bS G p (pb f)) = true := by
  have hO := blks_ok hg 100 (Nat.le_refl _)
  obtain ⟨q, hq, h1, h2⟩ := blks_all hg hfe
  have hlt : bix G (blks G 100) f < (blks G 100).length := by
    unfold bix
    exact List.findIdx_lt_length_of_exists ⟨q, hq, by rw [h1, h2]; rfl⟩
  have hsp : (bS G ((blks G 100)[bix G (blks G 100) f]) (pa f) && bS G ((blks G 100)[bix G (blks G 100) f]) (pb f)) = true := List.findIdx_getElem (w := hlt)
  constructor
  · intro h
    have : (blks G 100)[bix G (blks G 100) f]? = some p := by rw [h]; exact hk
    rw [List.getElem?_eq_getElem hlt] at this
    rw [← Option.some.inj this]
    exact hsp
  · intro h
    rw [Bool.and_eq_true] at h hsp
    exact BOK_one hg hO (List.getElem?_eq_getElem hlt) hk hfe hsp.1 hsp.2 h.1 h.2
theorem bix_le {G : Nat → Nat → Bool} (hg : gok G) (f : Nat) : bix G (blks G 100) f ≤ 9 := by
  have h1 := blk_nine hg (blks_ok hg 100 (Nat.le_refl _))
  have h2 : bix G (blks G 100) f ≤ (blks G 100).length := List.findIdx_le_length
  omega
theorem blk_at {G : Nat → Nat → Bool} (hg : gok G) {k : Nat} {p : xPr} (hk : (blks G 100)[k]? = some p) : k < (blks G 100).length ∧ k < 9 ∧ G p.1 p.2 = true := by
  have h1 := blk_nine hg (blks_ok hg 100 (Nat.le_refl _))
  have h2 := (List.getElem?_eq_some_iff.mp hk).1
  exact ⟨h2, by omega, ((blks_ok hg 100 (Nat.le_refl _)).1 p (List.mem_of_getElem? hk)).1⟩
theorem bH_pix {G : Nat → Nat → Bool} (hg : gok G) {k : Nat} {p : xPr} (hk : (blks G 100)[k]? = some p) {a b : Nat} (ha : a < 10) (hb : b < 10) (hne : a ≠ b) (hab : G a b = true) : bH G (bS G p) a b = decide (bix G (blks G 100) (pix a b) = k) := by
  have hed : ed G (pix a b) = true := by rw [ed_pix hg ha hb hne]; exact hab
  apply Bool.eq_iff_iff.mpr
  rw [bH_iff, decide_eq_true_iff, bix_iff hg hk (pix_lt ha hb hne) hed, Bool.and_eq_true]
  by_cases h : a < b
  · obtain ⟨h1, h2, _, _⟩ := pab_of a ha b hb h
    rw [h1, h2]
    simp [hab]
  · obtain ⟨_, _, h1, h2⟩ := pab_of b hb a ha (by omega)
    rw [h1, h2]
    simp [hab, and_comm]
theorem m_inBlk {w : xW} {G : Nat → Nat → Bool} {k : Nat} {p : xPr} {a b : Nat} (hg : gok G) (hG : gM w G) (hF : fB w G) (hk : (blks G 100)[k]? = some p) (ha : a < 10) (hb : b < 10) : xC MX8_isInBlock [.ref 45, .int (nI a), .int (nI b), .int (nI k)] w (some (.int (if bH G (bS G p) a b = true then 1 else 0))) w := by
  obtain ⟨hk1, hk9, _⟩ := blk_at hg hk
  unfold xC
  show xE MX8_isInBlock (0, [some (.ref 45), some (.int (nI a)), some (.int (nI b)), some (.int (nI k))], [], w) _ _
  refine xE.go 3 (F1 := (bif decide ((nI a) = (nI b)) then 37 else 5, [some (.ref 45), some (.int (nI a)), some (.int (nI b)), some (.int (nI k))], [], w)) rfl ?_
  rw [nI_dec (by omega) (by omega)]
  by_cases e : a = b
  · rw [if_neg (fun h => by have := (bH_iff.mp h).1; rw [e, hg.2.1] at this; cases this)]
    refine xE.brT (decide_eq_true e) ?_
    refine xE.go 1 (F1 := (38, [some (.ref 45), some (.int (nI a)), some (.int (nI b)), some (.int (nI k))], [.int 0], w)) rfl ?_
    exact xE.iret .boolean 1 rfl rfl (rfl)
  · refine xE.brF (decide_eq_false e) ?_
    refine xE.go 3 (F1 := (10, [some (.ref 45), some (.int (nI a)), some (.int (nI b)), some (.int (nI k))], [.int (nI a), .ref 50], w)) rfl ?_
    refine xE.iald rfl (k := a) (rfl) (⟨by omega, by omega⟩) rfl ?_
    show xE MX8_isInBlock (11, [some (.ref 45), some (.int (nI a)), some (.int (nI b)), some (.int (nI k))], [.int (w.1 50 a)], w) _ _
    rw [hG a ha]
    refine xE.go 6 (F1 := (bif !decide ((((mk (G a)) >>> ((nI b) &&& 31)) &&& 1) = 1) then 37 else 19, [some (.ref 45), some (.int (nI a)), some (.int (nI b)), some (.int (nI k))], [], w)) rfl ?_
    rw [mk_get _ hb, b01e]
    by_cases hab : G a b = true
    · rw [hab]
      refine xE.brF rfl ?_
      have hpl := pix_lt ha hb e
      refine xE.go 4 (F1 := (25, [some (.ref 45), some (.int (nI a)), some (.int (nI b)), some (.int (nI k))], [.int (nI b), .int (nI a), .ref 51], w)) rfl ?_
      refine xE.call rfl (m_pair ha hb e) ?_
      show xE MX8_isInBlock (28, [some (.ref 45), some (.int (nI a)), some (.int (nI b)), some (.int (nI k))], [.int (nI (pix a b)), .ref 51], w) _ _
      refine xE.iald rfl (k := (pix a b)) (rfl) (⟨by omega, by omega⟩) rfl ?_
      show xE MX8_isInBlock (29, [some (.ref 45), some (.int (nI a)), some (.int (nI b)), some (.int (nI k))], [.int (w.1 51 (pix a b))], w) _ _
      rw [hF.2 _ hpl, if_pos (by rw [ed_pix hg ha hb e]; exact hab)]
      have hle := bix_le hg (pix a b)
      have hbh := bH_pix hg hk ha hb e hab
      refine xE.go 2 (F1 := (bif !decide ((nI (bix G (blks G 100) (pix a b))) = (nI k)) then 37 else 33, [some (.ref 45), some (.int (nI a)), some (.int (nI b)), some (.int (nI k))], [], w)) rfl ?_
      rw [nI_dec (by omega) (by omega), ← hbh]
      by_cases hh : bH G (bS G p) a b = true
      · rw [if_pos hh, hh]
        refine xE.brF rfl ?_
        refine xE.go 2 (F1 := (38, [some (.ref 45), some (.int (nI a)), some (.int (nI b)), some (.int (nI k))], [.int 1], w)) rfl ?_
        exact xE.iret .boolean 1 rfl rfl (rfl)
      · rw [if_neg hh, Bool.eq_false_iff.mpr hh]
        refine xE.brT rfl ?_
        refine xE.go 1 (F1 := (38, [some (.ref 45), some (.int (nI a)), some (.int (nI b)), some (.int (nI k))], [.int 0], w)) rfl ?_
        exact xE.iret .boolean 1 rfl rfl (rfl)
    · rw [if_neg (fun h => hab (bH_iff.mp h).1), Bool.eq_false_iff.mpr hab]
      refine xE.brT rfl ?_
      refine xE.go 1 (F1 := (38, [some (.ref 45), some (.int (nI a)), some (.int (nI b)), some (.int (nI k))], [.int 0], w)) rfl ?_
      exact xE.iret .boolean 1 rfl rfl (rfl)
theorem m_nbIn {w : xW} {G : Nat → Nat → Bool} {k : Nat} {p : xPr} {a : Nat} (hg : gok G) (hG : gM w G) (hF : fB w G) (hk : (blks G 100)[k]? = some p) (ha : a < 10) : xC MX8_neighborsIn [.ref 45, .int (nI a), .int (nI k)] w (some (.int (mk (bH G (bS G p) a)))) w := by
  obtain ⟨j, hj⟩ : ∃ j, j = k := ⟨_, rfl⟩
  rw [← hj] at hk ⊢
  clear hj k
  unfold xC
  show xE MX8_neighborsIn (0, [some (.ref 45), some (.int (nI a)), some (.int (nI j)), none, none], [], w) _ _
  refine xE.go 4 (F1 := (5, [some (.ref 45), some (.int (nI a)), some (.int (nI j)), some (.int 0), some (.int 0)], [], w)) rfl ?_
  refine xE.loop (S := Unit) (fun k s => (5, [some (.ref 45), some (.int (nI a)), some (.int (nI j)), some (.int (mk (fun z => decide (z < k) && bH G (bS G p) a z))), some (.int (nI k))], [], w)) (fun _ _ => True) 10 () (by rw [show mk (fun z => decide (z < 0) && bH G (bS G p) a z) = 0 by rw [mk_0]; exact mk_ext fun z _ => by simp]; rfl) (trivial) ?_ ?_
  · intro k s hk2 hI K
    have K := K () trivial
    refine xE.go 3 (F1 := (bif decide (10 ≤ (nI k)) then 40 else 12, [some (.ref 45), some (.int (nI a)), some (.int (nI j)), some (.int (mk (fun z => decide (z < k) && bH G (bS G p) a z))), some (.int (nI k))], [], w)) rfl ?_
    refine xE.brF (decide_eq_false (nI_ge (b := 10) (by omega) (by omega))) ?_
    refine xE.go 5 (F1 := (18, [some (.ref 45), some (.int (nI a)), some (.int (nI j)), some (.int (mk (fun z => decide (z < k) && bH G (bS G p) a z))), some (.int (nI k))], [.int (nI j), .int (nI k), .int (nI a), .ref 45, .int (mk (fun z => decide (z < k) && bH G (bS G p) a z))], w)) rfl ?_
    refine xE.call rfl (m_inBlk hg hG hF hk ha hk2) ?_
    show xE MX8_neighborsIn (21, [some (.ref 45), some (.int (nI a)), some (.int (nI j)), some (.int (mk (fun z => decide (z < k) && bH G (bS G p) a z))), some (.int (nI k))], [.int (if bH G (bS G p) a k = true then 1 else 0), .int (mk (fun z => decide (z < k) && bH G (bS G p) a z))], w) _ _
    refine xE.go 1 (F1 := (bif decide ((if bH G (bS G p) a k = true then 1 else 0) = 0) then 31 else 24, [some (.ref 45), some (.int (nI a)), some (.int (nI j)), some (.int (mk (fun z => decide (z < k) && bH G (bS G p) a z))), some (.int (nI k))], [.int (mk (fun z => decide (z < k) && bH G (bS G p) a z))], w)) rfl ?_
    by_cases hh : bH G (bS G p) a k = true
    · rw [if_pos hh]
      refine xE.brF rfl ?_
      refine xE.go 3 (F1 := (28, [some (.ref 45), some (.int (nI a)), some (.int (nI j)), some (.int (mk (fun z => decide (z < k) && bH G (bS G p) a z))), some (.int (nI k))], [.int (1 <<< ((nI k) &&& 31)), .int (mk (fun z => decide (z < k) && bH G (bS G p) a z))], w)) rfl ?_
      refine xE.go 1 (F1 := (32, [some (.ref 45), some (.int (nI a)), some (.int (nI j)), some (.int (mk (fun z => decide (z < k) && bH G (bS G p) a z))), some (.int (nI k))], [.int (1 <<< ((nI k) &&& 31)), .int (mk (fun z => decide (z < k) && bH G (bS G p) a z))], w)) rfl ?_
      rw [mk_bit hk2]
      refine xE.go 1 (F1 := (33, [some (.ref 45), some (.int (nI a)), some (.int (nI j)), some (.int (mk (fun z => decide (z < k) && bH G (bS G p) a z))), some (.int (nI k))], [.int ((mk (fun z => decide (z < k) && bH G (bS G p) a z)) ||| (mk (fun u => decide (u = k))))], w)) rfl ?_
      rw [mk_or]
      refine xE.go 3 (F1 := (5, [some (.ref 45), some (.int (nI a)), some (.int (nI j)), some (.int (mk (fun z => (decide (z < k) && bH G (bS G p) a z) || decide (z = k)))), some (.int ((nI k) + 1))], [], w)) rfl ?_
      rw [← nI_succ, show mk (fun z => (decide (z < k) && bH G (bS G p) a z) || decide (z = k)) = mk (fun z => decide (z < k + 1) && bH G (bS G p) a z) from mk_ext fun z _ => by
        by_cases e2 : z = k
        · rw [e2, hh]; simp
        · rw [show decide (z < k) = decide (z < k + 1) from decide_eq_decide.mpr (by omega), decide_eq_false e2, Bool.or_false]]
      exact K
    · rw [if_neg hh]
      refine xE.brT rfl ?_
      refine xE.go 1 (F1 := (32, [some (.ref 45), some (.int (nI a)), some (.int (nI j)), some (.int (mk (fun z => decide (z < k) && bH G (bS G p) a z))), some (.int (nI k))], [.int 0, .int (mk (fun z => decide (z < k) && bH G (bS G p) a z))], w)) rfl ?_
      rw [mk_0]
      refine xE.go 1 (F1 := (33, [some (.ref 45), some (.int (nI a)), some (.int (nI j)), some (.int (mk (fun z => decide (z < k) && bH G (bS G p) a z))), some (.int (nI k))], [.int ((mk (fun z => decide (z < k) && bH G (bS G p) a z)) ||| (mk (fun _ => false)))], w)) rfl ?_
      rw [mk_or]
      refine xE.go 3 (F1 := (5, [some (.ref 45), some (.int (nI a)), some (.int (nI j)), some (.int (mk (fun z => (decide (z < k) && bH G (bS G p) a z) || false))), some (.int ((nI k) + 1))], [], w)) rfl ?_
      rw [← nI_succ, show mk (fun z => (decide (z < k) && bH G (bS G p) a z) || false) = mk (fun z => decide (z < k + 1) && bH G (bS G p) a z) from mk_ext fun z _ => by
        by_cases e2 : z = k
        · rw [e2, Bool.eq_false_iff.mpr hh]; simp
        · rw [show decide (z < k) = decide (z < k + 1) from decide_eq_decide.mpr (by omega), Bool.or_false]]
      exact K
  · intro s hI
    refine xE.go 3 (F1 := (bif decide (10 ≤ (nI 10)) then 40 else 12, [some (.ref 45), some (.int (nI a)), some (.int (nI j)), some (.int (mk (fun z => decide (z < 10) && bH G (bS G p) a z))), some (.int (nI 10))], [], w)) rfl ?_
    refine xE.brT (rfl) ?_
    rw [show mk (fun z => decide (z < 10) && bH G (bS G p) a z) = mk (bH G (bS G p) a) from mk_ext fun z hz => by rw [decide_eq_true hz, Bool.true_and]]
    refine xE.go 1 (F1 := (41, [some (.ref 45), some (.int (nI a)), some (.int (nI j)), some (.int (mk (bH G (bS G p) a))), some (.int (nI 10))], [.int (mk (bH G (bS G p) a))], w)) rfl ?_
    exact xE.iret .int 1 rfl rfl (rfl)
theorem bH_nz {G : Nat → Nat → Bool} (hg : gok G) {p : xPr} (hp : G p.1 p.2 = true) (v : Nat) : decide (mk (bH G (bS G p) v) = 0) = !bS G p v := by
  cases h : bS G p v with
  | true =>
    obtain ⟨z, hz⟩ := bS_edge hg hp h
    refine decide_eq_false (fun e => ?_)
    have := mk_zero.mp e z (hg.2.2 _ _ (bH_iff.mp hz).1).2
    rw [hz] at this
    cases this
  | false =>
    refine decide_eq_true (mk_zero.mpr fun z _ => ?_)
    cases h2 : bH G (bS G p) v z with
    | false => rfl
    | true =>
      have := (bH_iff.mp h2).2.1
      rw [h] at this
      cases this
theorem m_vertsOf {w : xW} {G : Nat → Nat → Bool} {j : Nat} {p : xPr} (hg : gok G) (hG : gM w G) (hF : fB w G) (hj : (blks G 100)[j]? = some p) : xC MX8_verticesOf [.ref 45, .int (nI j)] w (some (.int (mk (bS G p)))) w := by
  obtain ⟨_, _, hp⟩ := blk_at hg hj
  unfold xC
  show xE MX8_verticesOf (0, [some (.ref 45), some (.int (nI j)), none, none], [], w) _ _
  refine xE.go 4 (F1 := (4, [some (.ref 45), some (.int (nI j)), some (.int 0), some (.int 0)], [], w)) rfl ?_
  refine xE.loop (S := Unit) (fun k s => (4, [some (.ref 45), some (.int (nI j)), some (.int (mk (fun z => decide (z < k) && bS G p z))), some (.int (nI k))], [], w)) (fun _ _ => True) 10 () (by rw [show mk (fun z => decide (z < 0) && bS G p z) = 0 by rw [mk_0]; exact mk_ext fun z _ => by simp]; rfl) (trivial) ?_ ?_
  · intro k s hk hI K
    have K := K () trivial
    refine xE.go 3 (F1 := (bif decide (10 ≤ (nI k)) then 35 else 10, [some (.ref 45), some (.int (nI j)), some (.int (mk (fun z => decide (z < k) && bS G p z))), some (.int (nI k))], [], w)) rfl ?_
    refine xE.brF (decide_eq_false (nI_ge (b := 10) (by omega) (by omega))) ?_
    refine xE.go 4 (F1 := (14, [some (.ref 45), some (.int (nI j)), some (.int (mk (fun z => decide (z < k) && bS G p z))), some (.int (nI k))], [.int (nI j), .int (nI k), .ref 45, .int (mk (fun z => decide (z < k) && bS G p z))], w)) rfl ?_
    refine xE.call rfl (m_nbIn hg hG hF hj hk) ?_
    show xE MX8_verticesOf (17, [some (.ref 45), some (.int (nI j)), some (.int (mk (fun z => decide (z < k) && bS G p z))), some (.int (nI k))], [.int (mk (bH G (bS G p) k)), .int (mk (fun z => decide (z < k) && bS G p z))], w) _ _
    refine xE.go 1 (F1 := (bif decide ((mk (bH G (bS G p) k)) = 0) then 26 else 20, [some (.ref 45), some (.int (nI j)), some (.int (mk (fun z => decide (z < k) && bS G p z))), some (.int (nI k))], [.int (mk (fun z => decide (z < k) && bS G p z))], w)) rfl ?_
    rw [bH_nz hg hp]
    cases hh : bS G p k with
    | true =>
      refine xE.brF rfl ?_
      refine xE.go 4 (F1 := (27, [some (.ref 45), some (.int (nI j)), some (.int (mk (fun z => decide (z < k) && bS G p z))), some (.int (nI k))], [.int (1 <<< ((nI k) &&& 31)), .int (mk (fun z => decide (z < k) && bS G p z))], w)) rfl ?_
      rw [mk_bit hk]
      refine xE.go 1 (F1 := (28, [some (.ref 45), some (.int (nI j)), some (.int (mk (fun z => decide (z < k) && bS G p z))), some (.int (nI k))], [.int ((mk (fun z => decide (z < k) && bS G p z)) ||| (mk (fun u => decide (u = k))))], w)) rfl ?_
      rw [mk_or]
      refine xE.go 3 (F1 := (4, [some (.ref 45), some (.int (nI j)), some (.int (mk (fun z => (decide (z < k) && bS G p z) || decide (z = k)))), some (.int ((nI k) + 1))], [], w)) rfl ?_
      rw [← nI_succ, show mk (fun z => (decide (z < k) && bS G p z) || decide (z = k)) = mk (fun z => decide (z < k + 1) && bS G p z) from mk_ext fun z _ => by
        by_cases e2 : z = k
        · rw [e2, hh]; simp
        · rw [show decide (z < k) = decide (z < k + 1) from decide_eq_decide.mpr (by omega), decide_eq_false e2, Bool.or_false]]
      exact K
    | false =>
      refine xE.brT rfl ?_
      refine xE.go 1 (F1 := (27, [some (.ref 45), some (.int (nI j)), some (.int (mk (fun z => decide (z < k) && bS G p z))), some (.int (nI k))], [.int 0, .int (mk (fun z => decide (z < k) && bS G p z))], w)) rfl ?_
      rw [mk_0]
      refine xE.go 1 (F1 := (28, [some (.ref 45), some (.int (nI j)), some (.int (mk (fun z => decide (z < k) && bS G p z))), some (.int (nI k))], [.int ((mk (fun z => decide (z < k) && bS G p z)) ||| (mk (fun _ => false)))], w)) rfl ?_
      rw [mk_or]
      refine xE.go 3 (F1 := (4, [some (.ref 45), some (.int (nI j)), some (.int (mk (fun z => (decide (z < k) && bS G p z) || false))), some (.int ((nI k) + 1))], [], w)) rfl ?_
      rw [← nI_succ, show mk (fun z => (decide (z < k) && bS G p z) || false) = mk (fun z => decide (z < k + 1) && bS G p z) from mk_ext fun z _ => by
        by_cases e2 : z = k
        · rw [e2, hh]; simp
        · rw [show decide (z < k) = decide (z < k + 1) from decide_eq_decide.mpr (by omega), Bool.or_false]]
      exact K
  · intro s hI
    refine xE.go 3 (F1 := (bif decide (10 ≤ (nI 10)) then 35 else 10, [some (.ref 45), some (.int (nI j)), some (.int (mk (fun z => decide (z < 10) && bS G p z))), some (.int (nI 10))], [], w)) rfl ?_
    refine xE.brT (rfl) ?_
    rw [show mk (fun z => decide (z < 10) && bS G p z) = mk (bS G p) from mk_ext fun z hz => by rw [decide_eq_true hz, Bool.true_and]]
    refine xE.go 1 (F1 := (36, [some (.ref 45), some (.int (nI j)), some (.int (mk (bS G p))), some (.int (nI 10))], [.int (mk (bS G p))], w)) rfl ?_
    exact xE.iret .int 1 rfl rfl (rfl)
theorem m_edgesOf {w : xW} {G : Nat → Nat → Bool} {j : Nat} {p : xPr} (hg : gok G) (hF : fB w G) (hj : (blks G 100)[j]? = some p) : xC MX8_edgesOf [.ref 45, .int (nI j)] w (some (.int (nI (bE G p)))) w := by
  obtain ⟨_, hj9, hp⟩ := blk_at hg hj
  have hb := bS_bic hg hp
  have hcell : ∀ e, e < 45 → decide (w.1 51 e = nI j) = bH G (bS G p) (pa e) (pb e) := fun e he => by
    obtain ⟨q1, q2, q3, q4⟩ := pab_ok e he
    rw [hF.2 e he]
    by_cases h : ed G e = true
    · have hle := bix_le hg e
      have := bH_pix hg hj (show pa e < 10 by omega) q2 (show pa e ≠ pb e by omega) h
      rw [q3] at this
      rw [if_pos h, nI_dec (by omega) (by omega), this]
    · rw [if_neg h, decide_eq_false (ng_3 j (by omega))]
      cases h2 : bH G (bS G p) (pa e) (pb e) with
      | false => rfl
      | true => exact absurd (bH_iff.mp h2).1 h
  unfold bE
  rw [ec_pairs hb.1]
  unfold xC
  show xE MX8_edgesOf (0, [some (.ref 45), some (.int (nI j)), none, none], [], w) _ _
  refine xE.go 4 (F1 := (4, [some (.ref 45), some (.int (nI j)), some (.int 0), some (.int 0)], [], w)) rfl ?_
  refine xE.loop (S := Unit) (fun k s => (4, [some (.ref 45), some (.int (nI j)), some (.int (nI (cnt (fun e => bH G (bS G p) (pa e) (pb e)) k))), some (.int (nI k))], [], w)) (fun _ _ => True) 45 () (rfl) (trivial) ?_ ?_
  · intro k s hk hI K
    have K := K () trivial
    rw [show cnt (fun e => bH G (bS G p) (pa e) (pb e)) (k + 1) = cnt (fun e => bH G (bS G p) (pa e) (pb e)) k + (bif bH G (bS G p) (pa k) (pb k) then 1 else 0) from rfl] at K
    refine xE.go 3 (F1 := (bif decide (45 ≤ (nI k)) then 34 else 10, [some (.ref 45), some (.int (nI j)), some (.int (nI (cnt (fun e => bH G (bS G p) (pa e) (pb e)) k))), some (.int (nI k))], [], w)) rfl ?_
    refine xE.brF (decide_eq_false (nI_ge (b := 45) (by omega) (by omega))) ?_
    refine xE.go 4 (F1 := (16, [some (.ref 45), some (.int (nI j)), some (.int (nI (cnt (fun e => bH G (bS G p) (pa e) (pb e)) k))), some (.int (nI k))], [.int (nI k), .ref 51, .int (nI (cnt (fun e => bH G (bS G p) (pa e) (pb e)) k))], w)) rfl ?_
    refine xE.iald rfl (k := k) (rfl) (⟨by omega, by omega⟩) rfl ?_
    show xE MX8_edgesOf (17, [some (.ref 45), some (.int (nI j)), some (.int (nI (cnt (fun e => bH G (bS G p) (pa e) (pb e)) k))), some (.int (nI k))], [.int (w.1 51 k), .int (nI (cnt (fun e => bH G (bS G p) (pa e) (pb e)) k))], w) _ _
    refine xE.go 2 (F1 := (bif !decide ((w.1 51 k) = (nI j)) then 25 else 21, [some (.ref 45), some (.int (nI j)), some (.int (nI (cnt (fun e => bH G (bS G p) (pa e) (pb e)) k))), some (.int (nI k))], [.int (nI (cnt (fun e => bH G (bS G p) (pa e) (pb e)) k))], w)) rfl ?_
    rw [hcell k hk]
    cases hh : bH G (bS G p) (pa k) (pb k) with
    | true =>
      refine xE.brF rfl ?_
      rw [hh] at K
      refine xE.go 6 (F1 := (4, [some (.ref 45), some (.int (nI j)), some (.int ((nI (cnt (fun e => bH G (bS G p) (pa e) (pb e)) k)) + 1)), some (.int ((nI k) + 1))], [], w)) rfl ?_
      rw [← nI_succ, ← nI_succ]
      exact K
    | false =>
      refine xE.brT rfl ?_
      rw [hh] at K
      refine xE.go 2 (F1 := (27, [some (.ref 45), some (.int (nI j)), some (.int (nI (cnt (fun e => bH G (bS G p) (pa e) (pb e)) k))), some (.int (nI k))], [.int ((nI (cnt (fun e => bH G (bS G p) (pa e) (pb e)) k)) + 0)], w)) rfl ?_
      rw [Int32.add_zero]
      refine xE.go 3 (F1 := (4, [some (.ref 45), some (.int (nI j)), some (.int (nI (cnt (fun e => bH G (bS G p) (pa e) (pb e)) k))), some (.int ((nI k) + 1))], [], w)) rfl ?_
      rw [← nI_succ]
      exact K
  · intro s hI
    refine xE.go 3 (F1 := (bif decide (45 ≤ (nI 45)) then 34 else 10, [some (.ref 45), some (.int (nI j)), some (.int (nI (cnt (fun e => bH G (bS G p) (pa e) (pb e)) 45))), some (.int (nI 45))], [], w)) rfl ?_
    refine xE.brT (rfl) ?_
    refine xE.go 1 (F1 := (35, [some (.ref 45), some (.int (nI j)), some (.int (nI (cnt (fun e => bH G (bS G p) (pa e) (pb e)) 45))), some (.int (nI 45))], [.int (nI (cnt (fun e => bH G (bS G p) (pa e) (pb e)) 45))], w)) rfl ?_
    exact xE.iret .int 1 rfl rfl (rfl)
theorem m_blkNow {w : xW} {A : xAb} (hM : mI w A) : xD MX8_blocksNow [.ref 45] w (fun r w1 => r = some (.int (nI (bl A.1.1).length)) ∧ mI w1 A ∧ gM w1 (gr A.1.1) ∧ fB w1 (gr A.1.1) ∧ xkq kN w w1) := by
  refine xD.of ?_
  show xQ MX8_blocksNow (0, [some (.ref 45)], [], w) _
  obtain ⟨r1, w1, hc1, hr1, g1, k1⟩ := m_take hM
  subst hr1
  refine xQ.go 1 (F1 := (1, [some (.ref 45)], [.ref 45], w)) rfl ?_
  refine xQ.call rfl (hc1) ?_
  show xQ MX8_blocksNow (4, [some (.ref 45)], [], w1) _
  obtain ⟨r2, w2, hc2, hr2, f2, k2⟩ := m_findB (gr_gok A.1.1) g1
  subst hr2
  refine xQ.go 1 (F1 := (5, [some (.ref 45)], [.ref 45], w1)) rfl ?_
  refine xQ.call rfl (hc2) ?_
  show xQ MX8_blocksNow (8, [some (.ref 45)], [], w2) _
  refine xQ.go 2 (F1 := (12, [some (.ref 45)], [.int (w2.1 45 13)], w2)) rfl ?_
  rw [f2.1]
  show xQ MX8_blocksNow (12, [some (.ref 45)], [.int (nI (bl A.1.1).length)], w2) _
  refine xQ.iret .int 1 rfl rfl (rfl) ?_
  have kk : xkq kN w w2 := xkq_trans (xkq_mono rfl k1) (xkq_mono rfl k2)
  exact ⟨rfl, mI_N hM kk, fun v hv => (xkq_at k2 50 v).trans (g1 v hv), f2, kk⟩
theorem cmp_low {G : Nat → Nat → Bool} (hg : gok G) : ∀ k, k ≤ 10 → (∀ v, v < 10 → (cmpS G k).1 v = anyv (fun u => rch G (fun _ => true) (fun z => decide (z = u)) v) k) ∧ (cmpS G k).2 = cnt (fun v => decide (low (rch G (fun _ => true) (fun z => decide (z = v))) = v)) k
  | 0, _ => ⟨fun v _ => rfl, rfl⟩
  | k + 1, hk => by
    obtain ⟨i1, i2⟩ := cmp_low hg k (by omega)
    have self : rch G (fun _ => true) (fun z => decide (z = k)) k = true := rch_start (by simp) rfl
    have hlow : low (rch G (fun _ => true) (fun z => decide (z = k))) ≤ k := low_of self (by omega)
    have hseen : (cmpS G k).1 k = true ↔ low (rch G (fun _ => true) (fun z => decide (z = k))) ≠ k := by
      rw [i1 k (by omega), anyv_iff]
      constructor
      · rintro ⟨u, hu, h⟩ e
        have h2 : con G (fun _ => true) k u := con_sym hg.1 (by omega) (by omega) h
        have := low_of (S := rch G (fun _ => true) (fun z => decide (z = k))) h2 (by omega)
        omega
      · intro h
        have hin := low_in (S := rch G (fun _ => true) (fun z => decide (z = k))) (by omega)
        exact ⟨_, by omega, con_sym hg.1 (show k < 10 by omega) (by omega) hin⟩
    have hcnt : cnt (fun v => decide (low (rch G (fun _ => true) (fun z => decide (z = v))) = v)) (k + 1) = cnt (fun v => decide (low (rch G (fun _ => true) (fun z => decide (z = v))) = v)) k + (bif decide (low (rch G (fun _ => true) (fun z => decide (z = k))) = k) then 1 else 0) := rfl
    unfold cmpS
    cases hs : (cmpS G k).1 k with
    | true =>
      rw [if_pos rfl]
      have hne := hseen.mp hs
      refine ⟨fun v hv => ?_, by rw [hcnt, decide_eq_false hne]; exact i2⟩
      rw [i1 v hv]
      show _ = (anyv _ k || rch G (fun _ => true) (fun z => decide (z = k)) v)
      cases hr : rch G (fun _ => true) (fun z => decide (z = k)) v with
      | false => rw [Bool.or_false]
      | true =>
        rw [i1 k (by omega), anyv_iff] at hs
        obtain ⟨u, hu, h⟩ := hs
        rw [Bool.or_true]
        exact anyv_iff.mpr ⟨u, hu, con_trans (y := k) h hr hv⟩
    | false =>
      rw [if_neg (by decide)]
      have heq : low (rch G (fun _ => true) (fun z => decide (z = k))) = k := by
        refine Classical.byContradiction fun hc => ?_
        rw [hseen.mpr hc] at hs
        cases hs
      refine ⟨fun v hv => ?_, by rw [hcnt, decide_eq_true heq]; show _ + 1 = _ + 1; rw [i2]⟩
      show ((cmpS G k).1 v || _) = (anyv _ k || _)
      rw [i1 v hv]
theorem m_comp {w : xW} {A : xAb} (hM : mI w A) : xD MX8_components [.ref 45] w (fun r w1 => r = some (.int (nI (cmpS (gr A.1.1) 10).2)) ∧ mI w1 A ∧ xkq kN w w1) := by
  have hg := gr_gok A.1.1
  rw [(cmp_low hg 10 (Nat.le_refl _)).2]
  refine xD.of ?_
  show xQ MX8_components (0, [some (.ref 45), none, none], [], w) _
  obtain ⟨r1, w1, hc1, hr1, g1, k1⟩ := m_take hM
  subst hr1
  refine xQ.go 1 (F1 := (1, [some (.ref 45), none, none], [.ref 45], w)) rfl ?_
  refine xQ.call rfl (hc1) ?_
  show xQ MX8_components (4, [some (.ref 45), none, none], [], w1) _
  refine xQ.go 4 (F1 := (8, [some (.ref 45), some (.int 0), some (.int 0)], [], w1)) rfl ?_
  refine xQ.loop (S := Unit) (fun k s => (8, [some (.ref 45), some (.int (nI (cnt (fun v => decide (low (rch (gr A.1.1) (fun _ => true) (fun z => decide (z = v))) = v)) k))), some (.int (nI k))], [], w1)) (fun _ _ => True) 10 () (rfl) (trivial) ?_ ?_
  · intro k s hk hI K
    have K := K () trivial
    rw [show cnt (fun v => decide (low (rch (gr A.1.1) (fun _ => true) (fun z => decide (z = v))) = v)) (k + 1) = cnt (fun v => decide (low (rch (gr A.1.1) (fun _ => true) (fun z => decide (z = v))) = v)) k + (bif decide (low (rch (gr A.1.1) (fun _ => true) (fun z => decide (z = k))) = k) then 1 else 0) from rfl] at K
    refine xQ.go 3 (F1 := (bif decide (10 ≤ (nI k)) then 44 else 14, [some (.ref 45), some (.int (nI (cnt (fun v => decide (low (rch (gr A.1.1) (fun _ => true) (fun z => decide (z = v))) = v)) k))), some (.int (nI k))], [], w1)) rfl ?_
    refine xQ.brF (decide_eq_false (nI_ge (b := 10) (by omega) (by omega))) ?_
    have self : rch (gr A.1.1) (fun _ => true) (fun z => decide (z = k)) k = true := rch_start (by simp) rfl
    have hlow : low (rch (gr A.1.1) (fun _ => true) (fun z => decide (z = k))) ≤ k := low_of self (by omega)
    refine xQ.go 4 (F1 := (20, [some (.ref 45), some (.int (nI (cnt (fun v => decide (low (rch (gr A.1.1) (fun _ => true) (fun z => decide (z = v))) = v)) k))), some (.int (nI k))], [.int 1023, .int (nI k), .ref 45, .int (nI (cnt (fun v => decide (low (rch (gr A.1.1) (fun _ => true) (fun z => decide (z = v))) = v)) k))], w1)) rfl ?_
    rw [mk_all]
    refine xQ.go 1 (F1 := (21, [some (.ref 45), some (.int (nI (cnt (fun v => decide (low (rch (gr A.1.1) (fun _ => true) (fun z => decide (z = v))) = v)) k))), some (.int (nI k))], [.int 0, .int (mk (fun _ => true)), .int (nI k), .ref 45, .int (nI (cnt (fun v => decide (low (rch (gr A.1.1) (fun _ => true) (fun z => decide (z = v))) = v)) k))], w1)) rfl ?_
    refine xQ.call rfl (m_joined false hk rfl g1) ?_
    show xQ MX8_components (24, [some (.ref 45), some (.int (nI (cnt (fun v => decide (low (rch (gr A.1.1) (fun _ => true) (fun z => decide (z = v))) = v)) k))), some (.int (nI k))], [.int (mk (rch (gr A.1.1) (fun _ => true) (fun v => decide (v = k)))), .int (nI (cnt (fun v => decide (low (rch (gr A.1.1) (fun _ => true) (fun z => decide (z = v))) = v)) k))], w1) _
    refine xQ.call rfl (m_lowest (by omega)) ?_
    show xQ MX8_components (27, [some (.ref 45), some (.int (nI (cnt (fun v => decide (low (rch (gr A.1.1) (fun _ => true) (fun z => decide (z = v))) = v)) k))), some (.int (nI k))], [.int (nI (low (rch (gr A.1.1) (fun _ => true) (fun v => decide (v = k))))), .int (nI (cnt (fun v => decide (low (rch (gr A.1.1) (fun _ => true) (fun z => decide (z = v))) = v)) k))], w1) _
    refine xQ.go 2 (F1 := (bif !decide ((nI (low (rch (gr A.1.1) (fun _ => true) (fun v => decide (v = k))))) = (nI k)) then 35 else 31, [some (.ref 45), some (.int (nI (cnt (fun v => decide (low (rch (gr A.1.1) (fun _ => true) (fun z => decide (z = v))) = v)) k))), some (.int (nI k))], [.int (nI (cnt (fun v => decide (low (rch (gr A.1.1) (fun _ => true) (fun z => decide (z = v))) = v)) k))], w1)) rfl ?_
    rw [nI_dec (by omega) (by omega)]
    by_cases e : low (rch (gr A.1.1) (fun _ => true) (fun v => decide (v = k))) = k
    · rw [decide_eq_true e] at K ⊢
      refine xQ.brF rfl ?_
      refine xQ.go 6 (F1 := (8, [some (.ref 45), some (.int ((nI (cnt (fun v => decide (low (rch (gr A.1.1) (fun _ => true) (fun z => decide (z = v))) = v)) k)) + 1)), some (.int ((nI k) + 1))], [], w1)) rfl ?_
      rw [← nI_succ, ← nI_succ]
      exact K
    · rw [decide_eq_false e] at K ⊢
      refine xQ.brT rfl ?_
      refine xQ.go 2 (F1 := (37, [some (.ref 45), some (.int (nI (cnt (fun v => decide (low (rch (gr A.1.1) (fun _ => true) (fun z => decide (z = v))) = v)) k))), some (.int (nI k))], [.int ((nI (cnt (fun v => decide (low (rch (gr A.1.1) (fun _ => true) (fun z => decide (z = v))) = v)) k)) + 0)], w1)) rfl ?_
      rw [Int32.add_zero]
      refine xQ.go 3 (F1 := (8, [some (.ref 45), some (.int (nI (cnt (fun v => decide (low (rch (gr A.1.1) (fun _ => true) (fun z => decide (z = v))) = v)) k))), some (.int ((nI k) + 1))], [], w1)) rfl ?_
      rw [← nI_succ]
      exact K
  · intro s hI
    refine xQ.go 3 (F1 := (bif decide (10 ≤ (nI 10)) then 44 else 14, [some (.ref 45), some (.int (nI (cnt (fun v => decide (low (rch (gr A.1.1) (fun _ => true) (fun z => decide (z = v))) = v)) 10))), some (.int (nI 10))], [], w1)) rfl ?_
    refine xQ.brT (rfl) ?_
    refine xQ.go 1 (F1 := (45, [some (.ref 45), some (.int (nI (cnt (fun v => decide (low (rch (gr A.1.1) (fun _ => true) (fun z => decide (z = v))) = v)) 10))), some (.int (nI 10))], [.int (nI (cnt (fun v => decide (low (rch (gr A.1.1) (fun _ => true) (fun z => decide (z = v))) = v)) 10))], w1)) rfl ?_
    refine xQ.iret .int 1 rfl rfl (rfl) ?_
    have kk : xkq kN w w1 := xkq_mono rfl k1
    exact ⟨rfl, mI_N hM kk, kk⟩
theorem cvS_cnt (f : Nat → Nat → Bool) (v : Nat) : ∀ n, (cvS f n).1 v = decide (1 ≤ cnt (fun i => f i v) n) ∧ (cvS f n).2 v = decide (2 ≤ cnt (fun i => f i v) n)
  | 0 => ⟨rfl, rfl⟩
  | n + 1 => by
    obtain ⟨i1, i2⟩ := cvS_cnt f v n
    have e : cnt (fun i => f i v) (n + 1) = cnt (fun i => f i v) n + (bif f n v then 1 else 0) := rfl
    show ((cvS f n).1 v || f n v) = _ ∧ ((cvS f n).2 v || ((cvS f n).1 v && f n v)) = _
    rw [i1, i2, e]
    generalize cnt (fun i => f i v) n = c
    cases f n v with
    | true =>
      refine ⟨by simp, ?_⟩
      rw [Bool.and_true]
      apply Bool.eq_iff_iff.mpr
      rw [Bool.or_eq_true, decide_eq_true_iff, decide_eq_true_iff, decide_eq_true_iff]
      show _ ↔ 2 ≤ c + 1
      omega
    | false => simp
theorem m_cut {w : xW} {A : xAb} (hM : mI w A) : xD MX8_cutVertices [.ref 45] w (fun r w1 => r = some (.int (nI (cnt (cvS (fun i => bS (gr A.1.1) ((bl A.1.1).getD i (0, 0))) (bl A.1.1).length).2 10))) ∧ mI w1 A ∧ xkq kN w w1) := by
  have hg := gr_gok A.1.1
  rw [show cnt (cvS (fun i => bS (gr A.1.1) ((bl A.1.1).getD i (0, 0))) (bl A.1.1).length).2 10 = cnt (fun v => decide (2 ≤ cnt (fun i => bS (gr A.1.1) ((bl A.1.1).getD i (0, 0)) v) (bl A.1.1).length)) 10 from cnt_ext fun v _ => (cvS_cnt _ v _).2]
  have h9 := bl_nine A.1.1
  refine xD.of ?_
  show xQ MX8_cutVertices (0, [some (.ref 45), none, none, none, none, none], [], w) _
  obtain ⟨r1, w1, hc1, hr1, i1, g1, f1, k1⟩ := m_blkNow hM
  subst hr1
  refine xQ.go 1 (F1 := (1, [some (.ref 45), none, none, none, none, none], [.ref 45], w)) rfl ?_
  refine xQ.call rfl (hc1) ?_
  show xQ MX8_cutVertices (4, [some (.ref 45), none, none, none, none, none], [.int (nI (bl A.1.1).length)], w1) _
  refine xQ.go 5 (F1 := (9, [some (.ref 45), some (.int (nI (bl A.1.1).length)), some (.int 0), some (.int 0), none, none], [], w1)) rfl ?_
  refine xQ.loop (S := Unit) (fun k s => (9, [some (.ref 45), some (.int (nI (bl A.1.1).length)), some (.int (nI (cnt (fun v => decide (2 ≤ cnt (fun i => bS (gr A.1.1) ((bl A.1.1).getD i (0, 0)) v) (bl A.1.1).length)) k))), some (.int (nI k)), none, none], [], w1)) (fun _ _ => True) 10 () (rfl) (trivial) ?_ ?_
  · intro k s hk hI K
    have K := K () trivial
    rw [show cnt (fun v => decide (2 ≤ cnt (fun i => bS (gr A.1.1) ((bl A.1.1).getD i (0, 0)) v) (bl A.1.1).length)) (k + 1) = cnt (fun v => decide (2 ≤ cnt (fun i => bS (gr A.1.1) ((bl A.1.1).getD i (0, 0)) v) (bl A.1.1).length)) k + (bif decide (2 ≤ cnt (fun i => bS (gr A.1.1) ((bl A.1.1).getD i (0, 0)) k) (bl A.1.1).length) then 1 else 0) from rfl] at K
    obtain ⟨T, hT⟩ : ∃ T, T = cnt (fun v => decide (2 ≤ cnt (fun i => bS (gr A.1.1) ((bl A.1.1).getD i (0, 0)) v) (bl A.1.1).length)) k := ⟨_, rfl⟩
    rw [← hT] at K ⊢
    refine xQ.go 3 (F1 := (bif decide (10 ≤ (nI k)) then 73 else 15, [some (.ref 45), some (.int (nI (bl A.1.1).length)), some (.int (nI T)), some (.int (nI k)), none, none], [], w1)) rfl ?_
    refine xQ.brF (decide_eq_false (nI_ge (b := 10) (by omega) (by omega))) ?_
    refine xQ.go 4 (F1 := (21, [some (.ref 45), some (.int (nI (bl A.1.1).length)), some (.int (nI T)), some (.int (nI k)), some (.int 0), some (.int 0)], [], w1)) rfl ?_
    refine xQ.loop (S := Unit) (fun k2 s2 => (21, [some (.ref 45), some (.int (nI (bl A.1.1).length)), some (.int (nI T)), some (.int (nI k)), some (.int (nI (cnt (fun i => bS (gr A.1.1) ((bl A.1.1).getD i (0, 0)) k) k2))), some (.int (nI k2))], [], w1)) (fun _ _ => True) ((bl A.1.1).length) () (rfl) (trivial) ?_ ?_
    · intro k2 s2 hk2 hI2 K2
      have K2 := K2 () trivial
      rw [show cnt (fun i => bS (gr A.1.1) ((bl A.1.1).getD i (0, 0)) k) (k2 + 1) = cnt (fun i => bS (gr A.1.1) ((bl A.1.1).getD i (0, 0)) k) k2 + (bif bS (gr A.1.1) ((bl A.1.1).getD k2 (0, 0)) k then 1 else 0) from rfl] at K2
      have hp := getD_of hk2 ((0, 0) : xPr)
      have hpe := bl_edge A.1.1 hk2
      refine xQ.go 3 (F1 := (bif decide ((nI (bl A.1.1).length) ≤ (nI k2)) then 53 else 27, [some (.ref 45), some (.int (nI (bl A.1.1).length)), some (.int (nI T)), some (.int (nI k)), some (.int (nI (cnt (fun i => bS (gr A.1.1) ((bl A.1.1).getD i (0, 0)) k) k2))), some (.int (nI k2))], [], w1)) rfl ?_
      refine xQ.brF (decide_eq_false (nI_ge hk2 (by omega))) ?_
      refine xQ.go 4 (F1 := (33, [some (.ref 45), some (.int (nI (bl A.1.1).length)), some (.int (nI T)), some (.int (nI k)), some (.int (nI (cnt (fun i => bS (gr A.1.1) ((bl A.1.1).getD i (0, 0)) k) k2))), some (.int (nI k2))], [.int (nI k2), .int (nI k), .ref 45, .int (nI (cnt (fun i => bS (gr A.1.1) ((bl A.1.1).getD i (0, 0)) k) k2))], w1)) rfl ?_
      refine xQ.call rfl (m_nbIn hg g1 f1 hp hk) ?_
      show xQ MX8_cutVertices (36, [some (.ref 45), some (.int (nI (bl A.1.1).length)), some (.int (nI T)), some (.int (nI k)), some (.int (nI (cnt (fun i => bS (gr A.1.1) ((bl A.1.1).getD i (0, 0)) k) k2))), some (.int (nI k2))], [.int (mk (bH (gr A.1.1) (bS (gr A.1.1) ((bl A.1.1).getD k2 (0, 0))) k)), .int (nI (cnt (fun i => bS (gr A.1.1) ((bl A.1.1).getD i (0, 0)) k) k2))], w1) _
      refine xQ.go 1 (F1 := (bif decide ((mk (bH (gr A.1.1) (bS (gr A.1.1) ((bl A.1.1).getD k2 (0, 0))) k)) = 0) then 43 else 39, [some (.ref 45), some (.int (nI (bl A.1.1).length)), some (.int (nI T)), some (.int (nI k)), some (.int (nI (cnt (fun i => bS (gr A.1.1) ((bl A.1.1).getD i (0, 0)) k) k2))), some (.int (nI k2))], [.int (nI (cnt (fun i => bS (gr A.1.1) ((bl A.1.1).getD i (0, 0)) k) k2))], w1)) rfl ?_
      rw [bH_nz hg hpe]
      cases hh : bS (gr A.1.1) ((bl A.1.1).getD k2 (0, 0)) k with
      | true =>
        rw [hh] at K2
        refine xQ.brF rfl ?_
        refine xQ.go 6 (F1 := (21, [some (.ref 45), some (.int (nI (bl A.1.1).length)), some (.int (nI T)), some (.int (nI k)), some (.int ((nI (cnt (fun i => bS (gr A.1.1) ((bl A.1.1).getD i (0, 0)) k) k2)) + 1)), some (.int ((nI k2) + 1))], [], w1)) rfl ?_
        rw [← nI_succ, ← nI_succ]
        exact K2
      | false =>
        rw [hh] at K2
        refine xQ.brT rfl ?_
        refine xQ.go 2 (F1 := (45, [some (.ref 45), some (.int (nI (bl A.1.1).length)), some (.int (nI T)), some (.int (nI k)), some (.int (nI (cnt (fun i => bS (gr A.1.1) ((bl A.1.1).getD i (0, 0)) k) k2))), some (.int (nI k2))], [.int ((nI (cnt (fun i => bS (gr A.1.1) ((bl A.1.1).getD i (0, 0)) k) k2)) + 0)], w1)) rfl ?_
        rw [Int32.add_zero]
        refine xQ.go 3 (F1 := (21, [some (.ref 45), some (.int (nI (bl A.1.1).length)), some (.int (nI T)), some (.int (nI k)), some (.int (nI (cnt (fun i => bS (gr A.1.1) ((bl A.1.1).getD i (0, 0)) k) k2))), some (.int ((nI k2) + 1))], [], w1)) rfl ?_
        rw [← nI_succ]
        exact K2
    · intro s2 hI2
      have hle := cnt_le (fun i => bS (gr A.1.1) ((bl A.1.1).getD i (0, 0)) k) (bl A.1.1).length
      generalize hC : cnt (fun i => bS (gr A.1.1) ((bl A.1.1).getD i (0, 0)) k) (bl A.1.1).length = C at *
      refine xQ.go 3 (F1 := (bif decide ((nI (bl A.1.1).length) ≤ (nI (bl A.1.1).length)) then 53 else 27, [some (.ref 45), some (.int (nI (bl A.1.1).length)), some (.int (nI T)), some (.int (nI k)), some (.int (nI C)), some (.int (nI (bl A.1.1).length))], [], w1)) rfl ?_
      refine xQ.brT (decide_eq_true (Int32.le_refl _)) ?_
      refine xQ.go 4 (F1 := (bif decide ((nI C) ≤ 1) then 64 else 60, [some (.ref 45), some (.int (nI (bl A.1.1).length)), some (.int (nI T)), some (.int (nI k)), some (.int (nI C)), some (.int (nI (bl A.1.1).length))], [.int (nI T)], w1)) rfl ?_
      rw [show (1 : Int32) = nI 1 from rfl, nI_decle (by omega) (by omega)]
      by_cases hc : 2 ≤ C
      · rw [decide_eq_true hc] at K
        refine xQ.brF (decide_eq_false (by omega)) ?_
        refine xQ.go 6 (F1 := (9, [some (.ref 45), some (.int (nI (bl A.1.1).length)), some (.int ((nI T) + 1)), some (.int ((nI k) + 1)), some (.int (nI C)), some (.int (nI (bl A.1.1).length))], [], w1)) rfl ?_
        refine xQ.less [some (.ref 45), some (.int (nI (bl A.1.1).length)), some (.int ((nI T) + 1)), some (.int ((nI k) + 1)), none, none] (by simp [xleb]) ?_
        rw [← nI_succ, ← nI_succ]
        exact K
      · rw [decide_eq_false hc] at K
        refine xQ.brT (decide_eq_true (by omega)) ?_
        refine xQ.go 2 (F1 := (66, [some (.ref 45), some (.int (nI (bl A.1.1).length)), some (.int (nI T)), some (.int (nI k)), some (.int (nI C)), some (.int (nI (bl A.1.1).length))], [.int ((nI T) + 0)], w1)) rfl ?_
        rw [Int32.add_zero]
        refine xQ.go 3 (F1 := (9, [some (.ref 45), some (.int (nI (bl A.1.1).length)), some (.int (nI T)), some (.int ((nI k) + 1)), some (.int (nI C)), some (.int (nI (bl A.1.1).length))], [], w1)) rfl ?_
        refine xQ.less [some (.ref 45), some (.int (nI (bl A.1.1).length)), some (.int (nI T)), some (.int ((nI k) + 1)), none, none] (by simp [xleb]) ?_
        rw [← nI_succ]
        exact K
  · intro s hI
    refine xQ.go 3 (F1 := (bif decide (10 ≤ (nI 10)) then 73 else 15, [some (.ref 45), some (.int (nI (bl A.1.1).length)), some (.int (nI (cnt (fun v => decide (2 ≤ cnt (fun i => bS (gr A.1.1) ((bl A.1.1).getD i (0, 0)) v) (bl A.1.1).length)) 10))), some (.int (nI 10)), none, none], [], w1)) rfl ?_
    refine xQ.brT (rfl) ?_
    refine xQ.go 1 (F1 := (74, [some (.ref 45), some (.int (nI (bl A.1.1).length)), some (.int (nI (cnt (fun v => decide (2 ≤ cnt (fun i => bS (gr A.1.1) ((bl A.1.1).getD i (0, 0)) v) (bl A.1.1).length)) 10))), some (.int (nI 10)), none, none], [.int (nI (cnt (fun v => decide (2 ≤ cnt (fun i => bS (gr A.1.1) ((bl A.1.1).getD i (0, 0)) v) (bl A.1.1).length)) 10))], w1)) rfl ?_
    refine xQ.iret .int 1 rfl rfl (rfl) ?_
    exact ⟨rfl, i1, k1⟩
theorem m_bridge {w : xW} {A : xAb} (hM : mI w A) : xD MX8_bridges [.ref 45] w (fun r w1 => r = some (.int (nI (cnt (fun i => decide (bE (gr A.1.1) ((bl A.1.1).getD i (0, 0)) = 1)) (bl A.1.1).length))) ∧ mI w1 A ∧ xkq kN w w1) := by
  have hg := gr_gok A.1.1
  have h9 := bl_nine A.1.1
  refine xD.of ?_
  show xQ MX8_bridges (0, [some (.ref 45), none, none, none], [], w) _
  obtain ⟨r1, w1, hc1, hr1, i1, g1, f1, k1⟩ := m_blkNow hM
  subst hr1
  refine xQ.go 1 (F1 := (1, [some (.ref 45), none, none, none], [.ref 45], w)) rfl ?_
  refine xQ.call rfl (hc1) ?_
  show xQ MX8_bridges (4, [some (.ref 45), none, none, none], [.int (nI (bl A.1.1).length)], w1) _
  refine xQ.go 5 (F1 := (9, [some (.ref 45), some (.int (nI (bl A.1.1).length)), some (.int 0), some (.int 0)], [], w1)) rfl ?_
  refine xQ.loop (S := Unit) (fun k s => (9, [some (.ref 45), some (.int (nI (bl A.1.1).length)), some (.int (nI (cnt (fun i => decide (bE (gr A.1.1) ((bl A.1.1).getD i (0, 0)) = 1)) k))), some (.int (nI k))], [], w1)) (fun _ _ => True) ((bl A.1.1).length) () (rfl) (trivial) ?_ ?_
  · intro k s hk hI K
    have K := K () trivial
    rw [show cnt (fun i => decide (bE (gr A.1.1) ((bl A.1.1).getD i (0, 0)) = 1)) (k + 1) = cnt (fun i => decide (bE (gr A.1.1) ((bl A.1.1).getD i (0, 0)) = 1)) k + (bif decide (bE (gr A.1.1) ((bl A.1.1).getD k (0, 0)) = 1) then 1 else 0) from rfl] at K
    refine xQ.go 3 (F1 := (bif decide ((nI (bl A.1.1).length) ≤ (nI k)) then 37 else 14, [some (.ref 45), some (.int (nI (bl A.1.1).length)), some (.int (nI (cnt (fun i => decide (bE (gr A.1.1) ((bl A.1.1).getD i (0, 0)) = 1)) k))), some (.int (nI k))], [], w1)) rfl ?_
    refine xQ.brF (decide_eq_false (nI_ge hk (by omega))) ?_
    refine xQ.go 3 (F1 := (17, [some (.ref 45), some (.int (nI (bl A.1.1).length)), some (.int (nI (cnt (fun i => decide (bE (gr A.1.1) ((bl A.1.1).getD i (0, 0)) = 1)) k))), some (.int (nI k))], [.int (nI k), .ref 45, .int (nI (cnt (fun i => decide (bE (gr A.1.1) ((bl A.1.1).getD i (0, 0)) = 1)) k))], w1)) rfl ?_
    refine xQ.call rfl (m_edgesOf hg f1 (getD_of hk ((0, 0) : xPr))) ?_
    show xQ MX8_bridges (20, [some (.ref 45), some (.int (nI (bl A.1.1).length)), some (.int (nI (cnt (fun i => decide (bE (gr A.1.1) ((bl A.1.1).getD i (0, 0)) = 1)) k))), some (.int (nI k))], [.int (nI (bE (gr A.1.1) ((bl A.1.1).getD k (0, 0)))), .int (nI (cnt (fun i => decide (bE (gr A.1.1) ((bl A.1.1).getD i (0, 0)) = 1)) k))], w1) _
    have h45 : bE (gr A.1.1) ((bl A.1.1).getD k (0, 0)) ≤ 45 := ec_45 _
    refine xQ.go 2 (F1 := (bif !decide ((nI (bE (gr A.1.1) ((bl A.1.1).getD k (0, 0)))) = 1) then 28 else 24, [some (.ref 45), some (.int (nI (bl A.1.1).length)), some (.int (nI (cnt (fun i => decide (bE (gr A.1.1) ((bl A.1.1).getD i (0, 0)) = 1)) k))), some (.int (nI k))], [.int (nI (cnt (fun i => decide (bE (gr A.1.1) ((bl A.1.1).getD i (0, 0)) = 1)) k))], w1)) rfl ?_
    rw [show (1 : Int32) = nI 1 from rfl, nI_dec (by omega) (by omega)]
    cases hh : decide (bE (gr A.1.1) ((bl A.1.1).getD k (0, 0)) = 1) with
    | true =>
      rw [hh] at K
      refine xQ.brF rfl ?_
      refine xQ.go 6 (F1 := (9, [some (.ref 45), some (.int (nI (bl A.1.1).length)), some (.int ((nI (cnt (fun i => decide (bE (gr A.1.1) ((bl A.1.1).getD i (0, 0)) = 1)) k)) + 1)), some (.int ((nI k) + 1))], [], w1)) rfl ?_
      rw [← nI_succ, ← nI_succ]
      exact K
    | false =>
      rw [hh] at K
      refine xQ.brT rfl ?_
      refine xQ.go 2 (F1 := (30, [some (.ref 45), some (.int (nI (bl A.1.1).length)), some (.int (nI (cnt (fun i => decide (bE (gr A.1.1) ((bl A.1.1).getD i (0, 0)) = 1)) k))), some (.int (nI k))], [.int ((nI (cnt (fun i => decide (bE (gr A.1.1) ((bl A.1.1).getD i (0, 0)) = 1)) k)) + 0)], w1)) rfl ?_
      rw [Int32.add_zero]
      refine xQ.go 3 (F1 := (9, [some (.ref 45), some (.int (nI (bl A.1.1).length)), some (.int (nI (cnt (fun i => decide (bE (gr A.1.1) ((bl A.1.1).getD i (0, 0)) = 1)) k))), some (.int ((nI k) + 1))], [], w1)) rfl ?_
      rw [← nI_succ]
      exact K
  · intro s hI
    refine xQ.go 3 (F1 := (bif decide ((nI (bl A.1.1).length) ≤ (nI ((bl A.1.1).length))) then 37 else 14, [some (.ref 45), some (.int (nI (bl A.1.1).length)), some (.int (nI (cnt (fun i => decide (bE (gr A.1.1) ((bl A.1.1).getD i (0, 0)) = 1)) ((bl A.1.1).length)))), some (.int (nI ((bl A.1.1).length)))], [], w1)) rfl ?_
    refine xQ.brT (decide_eq_true (Int32.le_refl _)) ?_
    refine xQ.go 1 (F1 := (38, [some (.ref 45), some (.int (nI (bl A.1.1).length)), some (.int (nI (cnt (fun i => decide (bE (gr A.1.1) ((bl A.1.1).getD i (0, 0)) = 1)) ((bl A.1.1).length)))), some (.int (nI ((bl A.1.1).length)))], [.int (nI (cnt (fun i => decide (bE (gr A.1.1) ((bl A.1.1).getD i (0, 0)) = 1)) ((bl A.1.1).length)))], w1)) rfl ?_
    refine xQ.iret .int 1 rfl rfl (rfl) ?_
    exact ⟨rfl, i1, k1⟩
