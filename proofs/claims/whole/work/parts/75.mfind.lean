/-! the reference: findBlocks -/
theorem bB_has {G : Nat → Nat → Bool} (hg : gok G) {m : Nat → Nat} (hL : LOK G m) (hJ : LJ G m) : ∀ e, e ≤ 45 → ∀ f, f < e → ed G f = true → en (m f) ∈ bB G e
  | 0, _, f, hf, _ => absurd hf (by omega)
  | e + 1, he, f, hf, hfe => by
    obtain ⟨s1, s2⟩ := bB_step hg hL hJ (e := e) (by omega)
    have ih := bB_has hg hL hJ e (by omega)
    have sub : ∀ p, p ∈ bB G e → p ∈ bB G (e + 1) := fun p hp => by
      by_cases h : ed G e = true ∧ m e = e
      · rw [s1 h]; exact List.mem_append_left _ hp
      · rw [s2 h]; exact hp
    by_cases h : f = e
    · subst h
      by_cases hme : m f = f
      · rw [s1 ⟨hfe, hme⟩, hme]
        exact List.mem_append_right _ List.mem_cons_self
      · obtain ⟨l1, l2, l3, l4⟩ := hL f (by omega) hfe
        have := ih (m f) (by omega) l2
        rw [l3] at this
        exact sub _ this
    · exact sub _ (ih f (by omega) hfe)
theorem bix_lt {G : Nat → Nat → Bool} (hg : gok G) {m : Nat → Nat} (hL : LOK G m) (hJ : LJ G m) {e f : Nat} (he : e ≤ 45) (hf : f < 45) (hfe : ed G f = true) (hm : m f < e) : bix G (bB G e) f < (bB G e).length := by
  obtain ⟨l1, l2, l3, l4⟩ := hL f hf hfe
  have h := bB_has hg hL hJ e he (m f) hm l2
  rw [l3] at h
  unfold bix
  refine List.findIdx_lt_length_of_exists ⟨_, h, ?_⟩
  have := sb_sym hg hfe l2 l4
  rw [Bool.and_eq_true]
  exact this
theorem ng_1 : ∀ i, i < 46 → ∀ e, e < 46 → (-10 : Int32) - nI i ≠ nI e := by decide +kernel
theorem ng_2 : ∀ i, i < 46 → decide ((-10 : Int32) < -10 - nI i) = false ∧ (-10 : Int32) - (-10 - nI i) = nI i := by decide +kernel
theorem ng_3 : ∀ e, e < 46 → (-5 : Int32) ≠ nI e := by decide +kernel
/-- the labels while they are numbered -/
def c3 (G : Nat → Nat → Bool) (m : Nat → Nat) (e f : Nat) : Int32 := if ed G f = true then (if m f < e then -10 - nI (bix G (bB G e) f) else nI (m f)) else -5
theorem c3_is {G : Nat → Nat → Bool} (hg : gok G) {m : Nat → Nat} (hL : LOK G m) (hJ : LJ G m) {e f : Nat} (he : e < 45) (hf : f < 45) : c3 G m e f = nI e ↔ ed G f = true ∧ m f = e := by
  unfold c3
  by_cases h : ed G f = true
  · rw [if_pos h]
    obtain ⟨l1, _⟩ := hL f hf h
    by_cases hm : m f < e
    · rw [if_pos hm]
      have := bix_lt hg hL hJ (by omega) hf h hm
      have h2 := bB_len G e
      refine ⟨fun hc => absurd hc (ng_1 _ (by omega) _ (by omega)), fun hc => by omega⟩
    · rw [if_neg hm]
      exact ⟨fun hc => ⟨h, jI_inj (by omega) (by omega) hc⟩, fun hc => by rw [hc.2]⟩
  · rw [if_neg h]
    exact ⟨fun hc => absurd hc (ng_3 _ (by omega)), fun hc => absurd hc.1 h⟩
theorem c3_rep {G : Nat → Nat → Bool} (hg : gok G) {m : Nat → Nat} (hL : LOK G m) (hJ : LJ G m) {e f : Nat} (he : e < 45) (hf : f < 45) (hr : ed G e = true ∧ m e = e) : c3 G m (e + 1) f = if c3 G m e f = nI e then -10 - nI (bB G e).length else c3 G m e f := by
  have hst := (bB_step hg hL hJ he).1 hr
  by_cases hc : c3 G m e f = nI e
  · rw [if_pos hc]
    obtain ⟨h1, h2⟩ := (c3_is hg hL hJ he hf).mp hc
    unfold c3
    rw [if_pos h1, if_pos (by omega), hst, bix_new hg hL hJ he hf h1 hr h2]
  · rw [if_neg hc]
    have hc2 := fun h => hc ((c3_is hg hL hJ he hf).mpr h)
    unfold c3
    by_cases h : ed G f = true
    · rw [if_pos h, if_pos h]
      by_cases hm : m f < e
      · rw [if_pos hm, if_pos (by omega), hst, bix_old (bix_lt hg hL hJ (by omega) hf h hm)]
      · have : m f ≠ e := fun x => hc2 ⟨h, x⟩
        rw [if_neg hm, if_neg (by omega)]
    · rw [if_neg h, if_neg h]
theorem c3_not {G : Nat → Nat → Bool} (hg : gok G) {m : Nat → Nat} (hL : LOK G m) (hJ : LJ G m) {e f : Nat} (he : e < 45) (hf : f < 45) (hr : ¬ (ed G e = true ∧ m e = e)) : c3 G m (e + 1) f = c3 G m e f := by
  have hst := (bB_step hg hL hJ he).2 hr
  unfold c3
  by_cases h : ed G f = true
  · rw [if_pos h, if_pos h, hst]
    obtain ⟨l1, l2, l3, l4⟩ := hL f hf h
    have : m f ≠ e := fun x => hr ⟨by rw [← x]; exact l2, by rw [← x]; exact l3⟩
    by_cases hm : m f < e
    · rw [if_pos hm, if_pos (by omega)]
    · rw [if_neg hm, if_neg (by omega)]
  · rw [if_neg h, if_neg h]
/-- the blocks, as the reference has them -/
def fB (w : xW) (G : Nat → Nat → Bool) : Prop := w.1 45 13 = nI (blks G 100).length ∧ ∀ e, e < 45 → w.1 51 e = if ed G e = true then nI (bix G (blks G 100) e) else -5
theorem m_findB {w : xW} {G : Nat → Nat → Bool} (hg : gok G) (hG : gM w G) : xD MX8_findBlocks [.ref 45] w (fun r w1 => r = none ∧ fB w1 G ∧ xkq [(45, some 13), (51, none)] w w1) := by
  refine xD.of ?_
  show xQ MX8_findBlocks (0, [some (.ref 45), none, none], [], w) _
  refine xQ.go 2 (F1 := (2, [some (.ref 45), some (.int 0), none], [], w)) rfl ?_
  refine xQ.loop (S := xW) (fun k s => (2, [some (.ref 45), some (.int (nI k)), none], [], s)) (fun k s => (∀ a b, a < b → b < 10 → 10 * a + b < 10 * k → s.1 51 (pix a b) = if G a b = true then nI (pix a b) else -5) ∧ xkq [(51, none)] w s) 10 w (rfl) (⟨(fun a b _ _ h => absurd h (by omega)), xkq_rfl⟩) ?_ ?_
  · intro k s hk hI K
    refine xQ.go 3 (F1 := (bif decide (10 ≤ (nI k)) then 64 else 8, [some (.ref 45), some (.int (nI k)), none], [], s)) rfl ?_
    refine xQ.brF (decide_eq_false (nI_ge (b := 10) (by omega) (by omega))) ?_
    refine xQ.go 4 (F1 := (12, [some (.ref 45), some (.int (nI k)), some (.int ((nI k) + 1))], [], s)) rfl ?_
    rw [show nI k + 1 = nI (k + 1) from (nI_succ k).symm]
    refine xQ.loop (S := xW) (fun k2 s2 => (12, [some (.ref 45), some (.int (nI k)), some (.int (nI (k + 1 + k2)))], [], s2)) (fun k2 t => (∀ a b, a < b → b < 10 → 10 * a + b < 10 * k + (k + 1 + k2) → t.1 51 (pix a b) = if G a b = true then nI (pix a b) else -5) ∧ xkq [(51, none)] w t) (9 - k) s (rfl) (⟨fun a b h1 h2 h3 => hI.1 a b h1 h2 (by omega), hI.2⟩) ?_ ?_
    · intro k2 t hk2 hI2 K2
      obtain ⟨b, hbe⟩ : ∃ b, b = k + 1 + k2 := ⟨_, rfl⟩
      rw [show k + 1 + (k2 + 1) = b + 1 by omega] at K2
      rw [← hbe] at hI2 ⊢
      obtain ⟨i1, i2⟩ := hI2
      have hb10 : b < 10 := by omega
      have hk10 : k < 10 := by omega
      have hkb : k ≠ b := by omega
      have pl := pix_lt hk10 hb10 hkb
      have put : ∀ y : Int32, y = (if G k b = true then nI (pix k b) else -5) → xQ MX8_findBlocks (51, [some (.ref 45), some (.int (nI k)), some (.int (nI b))], [.int y, .int (nI (pix k b)), .ref 51], t) (fun r w1 => r = none ∧ fB w1 G ∧ xkq [(45, some 13), (51, none)] w w1) := by
        intro y hy
        refine xQ.iast rfl (k := (pix k b)) (rfl) (⟨by omega, by omega⟩) rfl ?_
        show xQ MX8_findBlocks (52, [some (.ref 45), some (.int (nI k)), some (.int (nI b))], [], (xuI t 51 (pix k b) y)) _
        refine xQ.go 2 (F1 := (12, [some (.ref 45), some (.int (nI k)), some (.int ((nI b) + 1))], [], (xuI t 51 (pix k b) y))) rfl ?_
        rw [← nI_succ]
        refine K2 _ ⟨fun c d h1 h2 h3 => ?_, xkq_I i2 rfl⟩
        rw [uI1]
        by_cases e : pix c d = pix k b
        · rw [if_pos ⟨rfl, e⟩, hy]
          have hcd : c = k ∧ d = b := by
            rcases (pix_inj (by omega) h2 hk10 hb10 (by omega) hkb).mp e with h | h
            · exact h
            · omega
          rw [hcd.1, hcd.2]
        · rw [if_neg (fun h => e h.2)]
          refine i1 c d h1 h2 (Nat.lt_of_not_le fun hc => e ?_)
          have : c = k ∧ d = b := by omega
          rw [this.1, this.2]
      refine xQ.go 3 (F1 := (bif decide (10 ≤ (nI b)) then 58 else 18, [some (.ref 45), some (.int (nI k)), some (.int (nI b))], [], t)) rfl ?_
      refine xQ.brF (decide_eq_false (nI_ge (b := 10) (by omega) (by omega))) ?_
      refine xQ.go 4 (F1 := (24, [some (.ref 45), some (.int (nI k)), some (.int (nI b))], [.int (nI b), .int (nI k), .ref 51], t)) rfl ?_
      refine xQ.call rfl (m_pair hk10 hb10 hkb) ?_
      show xQ MX8_findBlocks (27, [some (.ref 45), some (.int (nI k)), some (.int (nI b))], [.int (nI (pix k b)), .ref 51], t) _
      refine xQ.go 3 (F1 := (32, [some (.ref 45), some (.int (nI k)), some (.int (nI b))], [.int (nI k), .ref 50, .int (nI (pix k b)), .ref 51], t)) rfl ?_
      refine xQ.iald rfl (k := k) (rfl) (⟨by omega, by omega⟩) rfl ?_
      show xQ MX8_findBlocks (33, [some (.ref 45), some (.int (nI k)), some (.int (nI b))], [.int (t.1 50 k), .int (nI (pix k b)), .ref 51], t) _
      rw [xkq_at i2 50 k, hG k hk10]
      refine xQ.go 6 (F1 := (bif !decide ((((mk (G k)) >>> ((nI b) &&& 31)) &&& 1) = 1) then 49 else 41, [some (.ref 45), some (.int (nI k)), some (.int (nI b))], [.int (nI (pix k b)), .ref 51], t)) rfl ?_
      rw [mk_get _ hb10, b01e]
      cases hgk : G k b with
      | true =>
        refine xQ.brF rfl ?_
        refine xQ.go 2 (F1 := (43, [some (.ref 45), some (.int (nI k)), some (.int (nI b))], [.int (nI b), .int (nI k), .int (nI (pix k b)), .ref 51], t)) rfl ?_
        refine xQ.call rfl (m_pair hk10 hb10 hkb) ?_
        show xQ MX8_findBlocks (46, [some (.ref 45), some (.int (nI k)), some (.int (nI b))], [.int (nI (pix k b)), .int (nI (pix k b)), .ref 51], t) _
        refine xQ.go 1 (F1 := (51, [some (.ref 45), some (.int (nI k)), some (.int (nI b))], [.int (nI (pix k b)), .int (nI (pix k b)), .ref 51], t)) rfl ?_
        exact put _ (by rw [hgk]; rfl)
      | false =>
        refine xQ.brT rfl ?_
        refine xQ.go 1 (F1 := (51, [some (.ref 45), some (.int (nI k)), some (.int (nI b))], [.int (-5), .int (nI (pix k b)), .ref 51], t)) rfl ?_
        exact put _ (by rw [hgk]; rfl)
    · intro t hI2
      rw [show k + 1 + (9 - k) = 10 by omega] at *
      refine xQ.go 3 (F1 := (bif decide (10 ≤ (nI 10)) then 58 else 18, [some (.ref 45), some (.int (nI k)), some (.int (nI 10))], [], t)) rfl ?_
      refine xQ.brT (rfl) ?_
      refine xQ.go 2 (F1 := (2, [some (.ref 45), some (.int ((nI k) + 1)), some (.int (nI 10))], [], t)) rfl ?_
      refine xQ.less [some (.ref 45), some (.int ((nI k) + 1)), none] (by simp [xleb]) ?_
      rw [← nI_succ]
      exact K t ⟨fun a b h1 h2 h3 => hI2.1 a b h1 h2 (by omega), hI2.2⟩
  · intro s hI
    obtain ⟨i1, i2⟩ := hI
    refine xQ.go 3 (F1 := (bif decide (10 ≤ (nI 10)) then 64 else 8, [some (.ref 45), some (.int (nI 10)), none], [], s)) rfl ?_
    refine xQ.brT (rfl) ?_
    refine xQ.go 2 (F1 := (66, [some (.ref 45), some (.int 0), none], [], s)) rfl ?_
    have l0 : lbM s G (dUp G (100 * 0)) := ⟨fun e => e, LOK_0 hg, fun v x y h => absurd h.2.2.2.2.2.2 (by omega), fun e he => by
      obtain ⟨q1, q2, q3, q4⟩ := pab_ok e he
      have := i1 (pa e) (pb e) q1 q2 (by omega)
      rw [q3] at this
      exact this⟩
    refine xQ.loop (S := xW) (fun k s => (66, [some (.ref 45), some (.int (nI k)), none], [], s)) (fun k s => lbM s G (dUp G (100 * k)) ∧ xkq [(51, none)] w s) 10 s (rfl) (⟨l0, i2⟩) ?_ ?_
    · intro k s hk hI K
      obtain ⟨j1, j2⟩ := hI
      refine xQ.go 3 (F1 := (bif decide (10 ≤ (nI k)) then 83 else 72, [some (.ref 45), some (.int (nI k)), none], [], s)) rfl ?_
      refine xQ.brF (decide_eq_false (nI_ge (b := 10) (by omega) (by omega))) ?_
      obtain ⟨r3, s3, hc3, hr3, g1, g2⟩ := m_jAround (w := s) (v := k) hg (fun u hu => (xkq_at j2 50 u).trans (hG u hu)) hk j1
      subst hr3
      refine xQ.go 2 (F1 := (74, [some (.ref 45), some (.int (nI k)), none], [.int (nI k), .ref 45], s)) rfl ?_
      refine xQ.call rfl (hc3) ?_
      show xQ MX8_findBlocks (77, [some (.ref 45), some (.int (nI k)), none], [], s3) _
      refine xQ.go 2 (F1 := (66, [some (.ref 45), some (.int ((nI k) + 1)), none], [], s3)) rfl ?_
      rw [← nI_succ]
      exact K s3 ⟨g1, xkq_trans j2 g2⟩
    · intro s hI
      obtain ⟨⟨m, hL, hD, hc⟩, j2⟩ := hI
      have hJ : LJ G m := fun v x y hv hxy hy h1 h2 hcn => hD v x y ⟨hv, hxy, hy, h1, h2, hcn, by omega⟩
      refine xQ.go 3 (F1 := (bif decide (10 ≤ (nI 10)) then 83 else 72, [some (.ref 45), some (.int (nI 10)), none], [], s)) rfl ?_
      refine xQ.brT (rfl) ?_
      refine xQ.go 5 (F1 := (90, [some (.ref 45), some (.int 0), none], [], (xuI s 45 13 0))) rfl ?_
      have c0 : ∀ f, f < 45 → (xuI s 45 13 0).1 51 f = c3 G m 0 f := fun f hf => by
        rw [uI1, if_neg (by omega), hc f hf]
        unfold c3
        by_cases h : ed G f = true
        · rw [if_pos h, if_pos h, if_neg (by omega)]
        · rw [if_neg h, if_neg h]
      refine xQ.loop (S := xW) (fun k s => (90, [some (.ref 45), some (.int (nI k)), none], [], s)) (fun k s => s.1 45 13 = nI (bB G k).length ∧ (∀ f, f < 45 → s.1 51 f = c3 G m k f) ∧ xkq [(45, some 13), (51, none)] w s) 45 (xuI s 45 13 0) (rfl) (⟨by simp [uI1]; rfl, c0, xkq_I (xkq_mono rfl j2) rfl⟩) ?_ ?_
      · intro k s hk hI K
        obtain ⟨a1, a2, a3⟩ := hI
        have hbl := bB_len G k
        refine xQ.go 3 (F1 := (bif decide (45 ≤ (nI k)) then 168 else 96, [some (.ref 45), some (.int (nI k)), none], [], s)) rfl ?_
        refine xQ.brF (decide_eq_false (nI_ge (b := 45) (by omega) (by omega))) ?_
        refine xQ.go 3 (F1 := (101, [some (.ref 45), some (.int (nI k)), none], [.int (nI k), .ref 51], s)) rfl ?_
        refine xQ.iald rfl (k := k) (rfl) (⟨by omega, by omega⟩) rfl ?_
        show xQ MX8_findBlocks (102, [some (.ref 45), some (.int (nI k)), none], [.int (s.1 51 k)], s) _
        rw [a2 k hk]
        refine xQ.go 2 (F1 := (bif !decide ((c3 G m k k) = (nI k)) then 162 else 106, [some (.ref 45), some (.int (nI k)), none], [], s)) rfl ?_
        by_cases hr : ed G k = true ∧ m k = k
        · have hst := (bB_step hg hL hJ hk).1 hr
          refine xQ.brF (by rw [decide_eq_true ((c3_is hg hL hJ hk hk).mpr hr)]; rfl) ?_
          refine xQ.go 2 (F1 := (108, [some (.ref 45), some (.int (nI k)), some (.int (nI k))], [], s)) rfl ?_
          have b0 : ∀ f, f < k + 0 → f < 45 → s.1 51 f = if c3 G m k f = nI k then -10 - nI (bB G k).length else c3 G m k f := fun f hf hf45 => by
            rw [a2 f hf45, if_neg]
            intro hc2
            obtain ⟨q1, q2⟩ := (c3_is hg hL hJ hk hf45).mp hc2
            have := (hL f hf45 q1).1
            omega
          refine xQ.loop (S := xW) (fun k2 s2 => (108, [some (.ref 45), some (.int (nI k)), some (.int (nI (k + k2)))], [], s2)) (fun k2 t => (∀ f, f < k + k2 → f < 45 → t.1 51 f = if c3 G m k f = nI k then -10 - nI (bB G k).length else c3 G m k f) ∧ (∀ f, k + k2 ≤ f → f < 45 → t.1 51 f = c3 G m k f) ∧ t.1 45 13 = nI (bB G k).length ∧ xkq [(45, some 13), (51, none)] w t) (45 - k) s (rfl) (⟨b0, fun f _ hf => a2 f hf, a1, a3⟩) ?_ ?_
          · intro k2 t hk2 hI2 K2
            obtain ⟨b1, b2, b3, b4⟩ := hI2
            obtain ⟨d, hd⟩ : ∃ d, d = k + k2 := ⟨_, rfl⟩
            rw [show k + (k2 + 1) = d + 1 by omega] at K2
            rw [← hd] at b1 b2 ⊢
            have hd45 : d < 45 := by omega
            have put : ∀ y : Int32, y = (if c3 G m k d = nI k then -10 - nI (bB G k).length else c3 G m k d) → xQ MX8_findBlocks (145, [some (.ref 45), some (.int (nI k)), some (.int (nI d))], [.int y, .int (nI d), .ref 51], t) (fun r w1 => r = none ∧ fB w1 G ∧ xkq [(45, some 13), (51, none)] w w1) := by
              intro y hy
              refine xQ.iast rfl (k := d) (rfl) (⟨by omega, by omega⟩) rfl ?_
              show xQ MX8_findBlocks (146, [some (.ref 45), some (.int (nI k)), some (.int (nI d))], [], (xuI t 51 d y)) _
              refine xQ.go 2 (F1 := (108, [some (.ref 45), some (.int (nI k)), some (.int ((nI d) + 1))], [], (xuI t 51 d y))) rfl ?_
              rw [← nI_succ]
              refine K2 _ ⟨fun f h1 h2 => ?_, fun f h1 h2 => ?_, by rw [uI1, if_neg (by omega)]; exact b3, xkq_I b4 rfl⟩
              · rw [uI1]
                by_cases e : f = d
                · rw [if_pos ⟨rfl, e⟩, e]; exact hy
                · rw [if_neg (fun h => e h.2)]
                  exact b1 f (by omega) h2
              · rw [uI1, if_neg (by omega)]
                exact b2 f (by omega) h2
            refine xQ.go 3 (F1 := (bif decide (45 ≤ (nI d)) then 152 else 114, [some (.ref 45), some (.int (nI k)), some (.int (nI d))], [], t)) rfl ?_
            refine xQ.brF (decide_eq_false (nI_ge (b := 45) (by omega) (by omega))) ?_
            refine xQ.go 6 (F1 := (124, [some (.ref 45), some (.int (nI k)), some (.int (nI d))], [.int (nI d), .ref 51, .int (nI d), .ref 51], t)) rfl ?_
            refine xQ.iald rfl (k := d) (rfl) (⟨by omega, by omega⟩) rfl ?_
            show xQ MX8_findBlocks (125, [some (.ref 45), some (.int (nI k)), some (.int (nI d))], [.int (t.1 51 d), .int (nI d), .ref 51], t) _
            rw [b2 d (Nat.le_refl _) hd45]
            refine xQ.go 2 (F1 := (bif !decide ((c3 G m k d) = (nI k)) then 139 else 129, [some (.ref 45), some (.int (nI k)), some (.int (nI d))], [.int (nI d), .ref 51], t)) rfl ?_
            by_cases hcd : c3 G m k d = nI k
            · refine xQ.brF (by rw [decide_eq_true hcd]; rfl) ?_
              refine xQ.go 3 (F1 := (135, [some (.ref 45), some (.int (nI k)), some (.int (nI d))], [.int (t.1 45 13), .int (-10), .int (nI d), .ref 51], t)) rfl ?_
              rw [b3]
              refine xQ.go 2 (F1 := (145, [some (.ref 45), some (.int (nI k)), some (.int (nI d))], [.int ((-10) - (nI (bB G k).length)), .int (nI d), .ref 51], t)) rfl ?_
              exact put _ (by rw [if_pos hcd])
            · refine xQ.brT (by rw [decide_eq_false hcd]; rfl) ?_
              refine xQ.go 3 (F1 := (144, [some (.ref 45), some (.int (nI k)), some (.int (nI d))], [.int (nI d), .ref 51, .int (nI d), .ref 51], t)) rfl ?_
              refine xQ.iald rfl (k := d) (rfl) (⟨by omega, by omega⟩) rfl ?_
              show xQ MX8_findBlocks (145, [some (.ref 45), some (.int (nI k)), some (.int (nI d))], [.int (t.1 51 d), .int (nI d), .ref 51], t) _
              rw [b2 d (Nat.le_refl _) hd45]
              exact put _ (by rw [if_neg hcd])
          · intro t hI2
            obtain ⟨b1, b2, b3, b4⟩ := hI2
            rw [show k + (45 - k) = 45 by omega] at *
            refine xQ.go 3 (F1 := (bif decide (45 ≤ (nI 45)) then 152 else 114, [some (.ref 45), some (.int (nI k)), some (.int (nI 45))], [], t)) rfl ?_
            refine xQ.brT (rfl) ?_
            refine xQ.go 5 (F1 := (159, [some (.ref 45), some (.int (nI k)), some (.int (nI 45))], [.int ((t.1 45 13) + 1), .ref 45], t)) rfl ?_
            rw [b3, ← nI_succ]
            refine xQ.go 3 (F1 := (90, [some (.ref 45), some (.int ((nI k) + 1)), some (.int (nI 45))], [], (xuI t 45 13 (nI ((bB G k).length + 1))))) rfl ?_
            refine xQ.less [some (.ref 45), some (.int ((nI k) + 1)), none] (by simp [xleb]) ?_
            rw [← nI_succ]
            refine K _ ⟨by rw [hst]; simp [uI1], fun f hf => ?_, xkq_I b4 rfl⟩
            rw [uI1, if_neg (by omega), b1 f hf hf, c3_rep hg hL hJ hk hf hr]
        · have hst := (bB_step hg hL hJ hk).2 hr
          refine xQ.brT (by rw [decide_eq_false (fun h => hr ((c3_is hg hL hJ hk hk).mp h))]; rfl) ?_
          refine xQ.go 2 (F1 := (90, [some (.ref 45), some (.int ((nI k) + 1)), none], [], s)) rfl ?_
          rw [← nI_succ]
          refine K _ ⟨by rw [hst]; exact a1, fun f hf => ?_, a3⟩
          rw [a2 f hf, c3_not hg hL hJ hk hf hr]
      · intro s hI
        obtain ⟨a1, a2, a3⟩ := hI
        rw [bB_45] at a1
        have a4 : ∀ f, f < 45 → s.1 51 f = if ed G f = true then -10 - nI (bix G (blks G 100) f) else -5 := fun f hf => by
          rw [a2 f hf]
          unfold c3
          rw [bB_45]
          by_cases h : ed G f = true
          · have := (hL f hf h).1
            rw [if_pos h, if_pos h, if_pos (by omega)]
          · rw [if_neg h, if_neg h]
        have a5 : ∀ f, f < 45 → ed G f = true → bix G (blks G 100) f < 46 := fun f hf h => by
          have h1 := bix_lt hg hL hJ (Nat.le_refl 45) hf h (by have := (hL f hf h).1; omega)
          have h2 := bB_len G 45
          rw [bB_45] at h1 h2
          omega
        refine xQ.go 3 (F1 := (bif decide (45 ≤ (nI 45)) then 168 else 96, [some (.ref 45), some (.int (nI 45)), none], [], s)) rfl ?_
        refine xQ.brT (rfl) ?_
        refine xQ.go 2 (F1 := (170, [some (.ref 45), some (.int 0), none], [], s)) rfl ?_
        refine xQ.loop (S := xW) (fun k s => (170, [some (.ref 45), some (.int (nI k)), none], [], s)) (fun k t => (∀ f, f < k → t.1 51 f = if ed G f = true then nI (bix G (blks G 100) f) else -5) ∧ (∀ f, k ≤ f → t.1 51 f = s.1 51 f) ∧ t.1 45 13 = nI (blks G 100).length ∧ xkq [(45, some 13), (51, none)] w t) 45 s (rfl) (⟨(fun f hf => absurd hf (by omega)), (fun f hf => rfl), a1, a3⟩) ?_ ?_
        · intro k t hk hI K
          obtain ⟨b1, b2, b3, b4⟩ := hI
          have put : ∀ y : Int32, y = (if ed G k = true then nI (bix G (blks G 100) k) else -5) → xQ MX8_findBlocks (206, [some (.ref 45), some (.int (nI k)), none], [.int y, .int (nI k), .ref 51], t) (fun r w1 => r = none ∧ fB w1 G ∧ xkq [(45, some 13), (51, none)] w w1) := by
            intro y hy
            refine xQ.iast rfl (k := k) (rfl) (⟨by omega, by omega⟩) rfl ?_
            show xQ MX8_findBlocks (207, [some (.ref 45), some (.int (nI k)), none], [], (xuI t 51 k y)) _
            refine xQ.go 2 (F1 := (170, [some (.ref 45), some (.int ((nI k) + 1)), none], [], (xuI t 51 k y))) rfl ?_
            rw [← nI_succ]
            refine K _ ⟨fun f hf => ?_, fun f hf => ?_, by rw [uI1, if_neg (by omega)]; exact b3, xkq_I b4 rfl⟩
            · rw [uI1]
              by_cases e : f = k
              · rw [if_pos ⟨rfl, e⟩, e]; exact hy
              · rw [if_neg (fun h => e h.2)]
                exact b1 f (by omega)
            · rw [uI1, if_neg (by omega)]
              exact b2 f (by omega)
          refine xQ.go 3 (F1 := (bif decide (45 ≤ (nI k)) then 213 else 176, [some (.ref 45), some (.int (nI k)), none], [], t)) rfl ?_
          refine xQ.brF (decide_eq_false (nI_ge (b := 45) (by omega) (by omega))) ?_
          refine xQ.go 6 (F1 := (186, [some (.ref 45), some (.int (nI k)), none], [.int (nI k), .ref 51, .int (nI k), .ref 51], t)) rfl ?_
          refine xQ.iald rfl (k := k) (rfl) (⟨by omega, by omega⟩) rfl ?_
          show xQ MX8_findBlocks (187, [some (.ref 45), some (.int (nI k)), none], [.int (t.1 51 k), .int (nI k), .ref 51], t) _
          rw [b2 k (Nat.le_refl _), a4 k hk]
          refine xQ.go 2 (F1 := (bif decide ((-10) < (if ed G k = true then -10 - nI (bix G (blks G 100) k) else -5)) then 204 else 192, [some (.ref 45), some (.int (nI k)), none], [.int (nI k), .ref 51], t)) rfl ?_
          by_cases h : ed G k = true
          · have hn := ng_2 _ (a5 k hk h)
            rw [if_pos h]
            refine xQ.brF hn.1 ?_
            refine xQ.go 4 (F1 := (199, [some (.ref 45), some (.int (nI k)), none], [.int (nI k), .ref 51, .int (-10), .int (nI k), .ref 51], t)) rfl ?_
            refine xQ.iald rfl (k := k) (rfl) (⟨by omega, by omega⟩) rfl ?_
            show xQ MX8_findBlocks (200, [some (.ref 45), some (.int (nI k)), none], [.int (t.1 51 k), .int (-10), .int (nI k), .ref 51], t) _
            refine xQ.go 1 (F1 := (201, [some (.ref 45), some (.int (nI k)), none], [.int ((-10) - (t.1 51 k)), .int (nI k), .ref 51], t)) rfl ?_
            rw [b2 k (Nat.le_refl _), a4 k hk, if_pos h, hn.2]
            refine xQ.go 1 (F1 := (206, [some (.ref 45), some (.int (nI k)), none], [.int (nI (bix G (blks G 100) k)), .int (nI k), .ref 51], t)) rfl ?_
            exact put _ (by rw [if_pos h])
          · rw [if_neg h]
            refine xQ.brT (by decide) ?_
            refine xQ.go 1 (F1 := (206, [some (.ref 45), some (.int (nI k)), none], [.int (-5), .int (nI k), .ref 51], t)) rfl ?_
            exact put _ (by rw [if_neg h])
        · intro t hI
          refine xQ.go 3 (F1 := (bif decide (45 ≤ (nI 45)) then 213 else 176, [some (.ref 45), some (.int (nI 45)), none], [], t)) rfl ?_
          refine xQ.brT (rfl) ?_
          refine xQ.vret 1 rfl rfl ?_
          exact ⟨rfl, ⟨hI.2.2.1, hI.1⟩, hI.2.2.2⟩
