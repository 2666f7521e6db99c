/-! planar by the program: it has a weak family -/
theorem EOG_start {G : xG} {S : Nat → Bool} (hb : BIC G S) (hS : ∀ v, S v = true → v < 10) (he : 2 ≤ ec G) : EOG G S (cyc1 G S) ∧ (PW G → EOX G S (cyc1 G S)) := by
  obtain ⟨a, b, inn, _, _, _, _, _, _, _, _, _, _, hn, hm, hd, hE⟩ := cyc0_ok hb hS he
  have h3 : 3 ≤ (cyc0 G S).length := (hE.1.2.2.2.1 (cyc0 G S) (by show _ ∈ [_, _]; exact List.mem_cons_self)).2.1
  have h10 : ∀ z ∈ cyc0 G S, z < 10 := fun z hz => (hm z hz).1
  exact ⟨⟨hE, GR_cycle hn h3 h10, BIC_cycle hn h3 h10⟩, fun hp => ⟨hE, GR_cycle hn h3 h10, BIC_cycle hn h3 h10, EXT_start hb hn h3 h10 hd hp⟩⟩
theorem PW_alg {G : xG} {S : Nat → Bool} (hb : BIC G S) (hS : ∀ v, S v = true → v < 10) (he : 2 ≤ ec G) : (erun G S (ec G) 45 (cyc1 G S)).2.2.2 = ec G ↔ PW G := by
  obtain ⟨h1, h2⟩ := EOG_start hb hS he
  have h45 := ec_45 G
  constructor
  · intro h
    obtain ⟨hE, hG, _⟩ := EOG_run hb hS (ec G) 45 _ h1
    have hF := FZ_FS hS hE.1 hG
    have : (erun G S (ec G) 45 (cyc1 G S)).1 = G := by
      funext x y
      exact EOK_all hb hE h x y
    rw [this] at hF
    exact FS_PW hF
  · intro hp
    exact (EOX_run hb hS 45 _ (h2 hp) (by omega)).2
/-- one edge has no even set but nothing -/
theorem PW_one {G : xG} {S : Nat → Bool} (hb : BIC G S) (he : ec G = 1) {a b : Nat} (hS : ∀ v, S v = two a b v) : PW G := by
  refine ⟨0, fun _ => x0, fun i hi => by omega, fun x y i j k _ _ h => by omega, fun X hX => ⟨fun _ => false, ?_⟩⟩
  show X = x0
  funext x y
  cases e : X x y with
  | false => rfl
  | true =>
    exfalso
    have hg := BIC_gok hb
    have hG := hX.1.2 x y e
    obtain ⟨hx, hy, hSx, hSy⟩ := hb.2.2.1 x y hG
    have ho := hX.2 x hx
    unfold od at ho
    rw [xs_one hy (fun z _ hz => by
      cases e2 : X x z with
      | false => rfl
      | true =>
        exfalso
        have hG2 := hX.1.2 x z e2
        have hSz := (hb.2.2.1 x z hG2).2.2.2
        have n1 := ne_edge hg hG
        have n2 := ne_edge hg hG2
        rw [hS] at hSx hSy hSz
        rcases two_iff.mp hSx with h1 | h1 <;> rcases two_iff.mp hSy with h2 | h2 <;> rcases two_iff.mp hSz with h3 | h3 <;> omega), e] at ho
    cases ho
theorem PW_nil {G : xG} (h : ∀ x y, G x y = false) : PW G := by
  refine ⟨0, fun _ => x0, fun i hi => by omega, fun x y i j k _ _ h => by omega, fun X hX => ⟨fun _ => false, ?_⟩⟩
  show X = x0
  funext x y
  cases e : X x y with
  | false => rfl
  | true => have := hX.1.2 x y e; rw [h] at this; cases this
theorem PW_union {G A B : xG} (hG : ∀ x y, G x y = true → A x y = true ∨ B x y = true) (hAG : ∀ x y, A x y = true → G x y = true) (hBG : ∀ x y, B x y = true → G x y = true) (hdis : ∀ x y, A x y = true → B x y = true → False)
    (hsp : ∀ X, ev G X → ∃ Y W, ev A Y ∧ ev B W ∧ X = xr Y W) (ha : PW A) (hb : PW B) : PW G := by
  obtain ⟨m, Z, z1, z2, z3⟩ := ha
  obtain ⟨n, W, w1, w2, w3⟩ := hb
  have hlt : ∀ i x y, i < m + n → (if i < m then Z i else W (i - m)) x y = true → (i < m ∧ Z i x y = true ∧ A x y = true) ∨ (m ≤ i ∧ W (i - m) x y = true ∧ B x y = true) := fun i x y hi h => by
    by_cases e : i < m
    · rw [if_pos e] at h
      exact Or.inl ⟨e, h, (z1 i e).1.2 x y h⟩
    · rw [if_neg e] at h
      exact Or.inr ⟨by omega, h, (w1 _ (by omega)).1.2 x y h⟩
  refine ⟨m + n, fun i => if i < m then Z i else W (i - m), fun i hi => ?_, two2_mk fun x y i j k hi hj hk h1 h2 h3 => ?_, fun X hX => ?_⟩
  · dsimp only
    split
    · exact ev_mono hAG (z1 i (by assumption))
    · exact ev_mono hBG (w1 _ (by omega))
  · rcases hlt i x y hi h1 with ⟨a1, a2, a3⟩ | ⟨a1, a2, a3⟩ <;> rcases hlt j x y hj h2 with ⟨b1, b2, b3⟩ | ⟨b1, b2, b3⟩ <;> rcases hlt k x y hk h3 with ⟨c1, c2, c3⟩ | ⟨c1, c2, c3⟩
    · exact two2_of z2 a1 b1 c1 a2 b2 c2
    · exact (hdis x y a3 c3).elim
    · exact (hdis x y a3 b3).elim
    · exact (hdis x y a3 b3).elim
    · exact (hdis x y b3 a3).elim
    · exact (hdis x y b3 a3).elim
    · exact (hdis x y c3 a3).elim
    · rcases two2_of w2 (i := i - m) (j := j - m) (k := k - m) (by omega) (by omega) (by omega) a2 b2 c2 with e | e | e <;> omega
  · obtain ⟨Y, Y', hY, hY', hXY⟩ := hsp X hX
    obtain ⟨U, hU⟩ := z3 Y hY
    obtain ⟨V, hV⟩ := w3 Y' hY'
    refine ⟨fun i => if i < m then U i else V (i - m), ?_⟩
    rw [hXY, hU, hV]
    have key : ∀ n', sU (fun i => if i < m then Z i else W (i - m)) (fun i => if i < m then U i else V (i - m)) (m + n') = xr (sU Z U m) (sU W V n') := by
      intro n'
      induction n' with
      | zero =>
        rw [show sU W V 0 = x0 from rfl, xr_0]
        funext x y
        exact xs_ext fun i hi => by
          have hi : i < m := hi
          dsimp only
          rw [if_pos hi, if_pos hi]
      | succ n' ih =>
        funext x y
        have ih2 := congrFun (congrFun ih x) y
        show (xs _ (m + n') ^^ ((if m + n' < m then U (m + n') else V (m + n' - m)) && (if m + n' < m then Z (m + n') else W (m + n' - m)) x y)) = (xs _ m ^^ (xs _ n' ^^ (V n' && W n' x y)))
        have e : ¬ m + n' < m := by omega
        have e2 : m + n' - m = n' := by omega
        rw [if_neg e, if_neg e, e2, ← Bool.xor_assoc]
        congr 1
    exact (key n).symm
/-- an even set meets a block evenly -/
theorem blk_split {G X : xG} (hg : gok G) {p : xPr} (hp : G p.1 p.2 = true) (hX : ev G X) : ev (bH G (bS G p)) (bH X (bS G p)) ∧ ev (fun x y => G x y && !(bS G p x && bS G p y)) (fun x y => X x y && !(bS G p x && bS G p y)) := by
  have hgX := gok_ch hg hX.1
  have e : X = xr (bH X (bS G p)) (fun x y => X x y && !(bS G p x && bS G p y)) := by
    funext x y
    simp only [xr, bH]
    cases X x y <;> cases bS G p x <;> cases bS G p y <;> rfl
  have c1 : ch (bH G (bS G p)) (bH X (bS G p)) := ⟨fun x y => by unfold bH; rw [hX.1.1 x y, Bool.and_comm (bS G p x)], fun x y h => by
    obtain ⟨a, b, c⟩ := bH_iff.mp h
    exact bH_iff.mpr ⟨hX.1.2 x y a, b, c⟩⟩
  have c2 : ch (fun x y => G x y && !(bS G p x && bS G p y)) (fun x y => X x y && !(bS G p x && bS G p y)) := ⟨fun x y => by dsimp only; rw [hX.1.1 x y, Bool.and_comm (bS G p x)], fun x y h => by
    rw [Bool.and_eq_true] at h ⊢
    exact ⟨hX.1.2 x y h.1, h.2⟩⟩
  have c2G : ch G (fun x y => X x y && !(bS G p x && bS G p y)) := ⟨c2.1, fun x y h => by rw [Bool.and_eq_true] at h; exact hX.1.2 x y h.1⟩
  have heq : ∀ v, v < 10 → od (bH X (bS G p)) v = od (fun x y => X x y && !(bS G p x && bS G p y)) v := fun v hv => by
    have h0 := hX.2 v hv
    rw [e, od_xr] at h0
    revert h0
    cases od (bH X (bS G p)) v <;> cases od (fun x y => X x y && !(bS G p x && bS G p y)) v <;> simp
  have hin : ∀ v, od (bH X (bS G p)) v = true → bS G p v = true := fun v h => by
    obtain ⟨y, _, hy⟩ := xs_ex h
    exact (bH_iff.mp hy).2.1
  have h1 : ∀ v, v < 10 → od (bH X (bS G p)) v = false := fun v hv => by
    cases ho : od (bH X (bS G p)) v with
    | false => rfl
    | true =>
      exfalso
      obtain ⟨b, hb, hne, hob, hcon⟩ := od_mate hg c2G hv (by rw [← heq v hv]; exact ho)
      rw [← heq b hb] at hob
      refine hne (bS_F4 hg hp (G' := fun x y => X x y && !(bS G p x && bS G p y)) (fun x y h => ?_) hb (hin v ho) (hin b hob) hcon)
      rw [Bool.and_eq_true, Bool.not_eq_true'] at h
      refine ⟨hX.1.2 x y h.1, fun ⟨q1, q2⟩ => ?_⟩
      rw [q1, q2] at h
      cases h.2
  exact ⟨⟨c1, h1⟩, ⟨c2, fun v hv => by rw [← heq v hv]; exact h1 v hv⟩⟩
theorem PW_blocks {G : xG} (hg : gok G) : ∀ l : List xPr, (∀ p ∈ l, G p.1 p.2 = true ∧ PW (bH G (bS G p))) → PW (gL G l)
  | [], _ => PW_nil fun x y => by simp [gL]
  | p :: t, h => by
    obtain ⟨hp, hpw⟩ := h p List.mem_cons_self
    have ih := PW_blocks hg t (fun q hq => h q (List.mem_cons_of_mem _ hq))
    have hgt : gok (gL G t) := ⟨fun x y => by
      rw [Bool.eq_iff_iff, gL_iff, gL_iff, hg.1 x y]
      constructor <;> rintro ⟨a, q, b, c, d⟩ <;> exact ⟨a, q, b, d, c⟩, fun v => by unfold gL; rw [hg.2.1]; rfl, fun x y q => hg.2.2 x y (gL_iff.mp q).1⟩
    -- what of the others isn't of this block
    have ih2 : PW (fun x y => gL G t x y && !(bS G p x && bS G p y)) := PW_mono hgt (fun x y => by rw [hgt.1 x y, Bool.and_comm (bS G p x)]) (fun x y q => by rw [Bool.and_eq_true] at q; exact q.1) ih
    refine PW_union (A := bH G (bS G p)) (B := fun x y => gL G t x y && !(bS G p x && bS G p y)) (fun x y h => ?_) (fun x y h => ?_) (fun x y h => ?_) (fun x y h1 h2 => ?_) (fun X hX => ?_) hpw ih2
    · obtain ⟨h1, q, hq, h2, h3⟩ := gL_iff.mp h
      by_cases e : bS G p x = true ∧ bS G p y = true
      · exact Or.inl (bH_iff.mpr ⟨h1, e.1, e.2⟩)
      · refine Or.inr ?_
        rcases List.mem_cons.mp hq with e2 | e2
        · rw [e2] at h2 h3; exact absurd ⟨h2, h3⟩ e
        · rw [Bool.and_eq_true, Bool.not_eq_true']
          refine ⟨gL_iff.mpr ⟨h1, q, e2, h2, h3⟩, ?_⟩
          cases hx : bS G p x with
          | false => rfl
          | true =>
            cases hy : bS G p y with
            | false => rfl
            | true => exact absurd ⟨hx, hy⟩ e
    · obtain ⟨a, b, c⟩ := bH_iff.mp h
      exact gL_iff.mpr ⟨a, p, List.mem_cons_self, b, c⟩
    · rw [Bool.and_eq_true] at h
      obtain ⟨a, q, b, c, d⟩ := gL_iff.mp h.1
      exact gL_iff.mpr ⟨a, q, List.mem_cons_of_mem _ b, c, d⟩
    · obtain ⟨a, b, c⟩ := bH_iff.mp h1
      rw [b, c] at h2
      simp at h2
    · have hXG : ev G X := ev_mono (fun x y q => (gL_iff.mp q).1) hX
      obtain ⟨s1, s2⟩ := blk_split hg hp hXG
      refine ⟨bH X (bS G p), fun x y => X x y && !(bS G p x && bS G p y), s1, ⟨⟨s2.1.1, fun x y h => ?_⟩, s2.2⟩, ?_⟩
      · rw [Bool.and_eq_true] at h
        obtain ⟨a, q, hq, c, d⟩ := gL_iff.mp (hX.1.2 x y h.1)
        rw [Bool.and_eq_true]
        refine ⟨?_, h.2⟩
        rcases List.mem_cons.mp hq with e2 | e2
        · rw [e2] at c d
          have := h.2
          rw [c, d] at this
          cases this
        · exact gL_iff.mpr ⟨a, q, e2, c, d⟩
      · funext x y
        simp only [xr, bH]
        cases X x y <;> cases bS G p x <;> cases bS G p y <;> rfl
theorem gL_blks {G : xG} (hg : gok G) : gL G (blks G 100) = G := by
  funext x y
  cases h : G x y with
  | false =>
    cases h2 : gL G (blks G 100) x y with
    | false => rfl
    | true =>
      have := (gL_iff.mp h2).1
      rw [h] at this
      cases this
  | true =>
    obtain ⟨p, hp, h2, h3⟩ := blks_all hg h
    exact gL_iff.mpr ⟨h, p, hp, h2, h3⟩
/-- a block is embedded if and only if it has a weak family -/
theorem bPl_PW {G : xG} (hg : gok G) {p : xPr} (hp : G p.1 p.2 = true) : bPl G p = bE G p ↔ PW (bH G (bS G p)) := by
  have hb := bS_bic hg hp
  have hS : ∀ v, bS G p v = true → v < 10 := fun v hv => (bS_iff.mp hv).1
  by_cases h1 : bE G p = 1
  · constructor
    · intro _
      exact PW_one hb h1 (fun v => bS_one hg hp h1 v)
    · intro _
      unfold bPl
      rw [if_pos h1, h1]
  · have h2 := bE_pos hg hp
    have := PW_alg hb hS (by unfold bE at h1 h2; omega)
    unfold bPl
    rw [if_neg h1]
    exact this
theorem flt_PW {G : xG} (hg : gok G) : flt G (blks G 100) = true ↔ PW G := by
  have hO := blks_ok hg 100 (Nat.le_refl _)
  constructor
  · intro h
    have := PW_blocks hg (blks G 100) (fun p hp => ⟨(hO.1 p hp).1, (bPl_PW hg (hO.1 p hp).1).mp (flt_all h hp)⟩)
    rw [gL_blks hg] at this
    exact this
  · intro h
    refine List.all_eq_true.mpr fun p hp => decide_eq_true ?_
    have hp1 := (hO.1 p hp).1
    exact (bPl_PW hg hp1).mpr (PW_mono hg (bS_bic hg hp1).1 (fun x y q => (bH_iff.mp q).1) h)
/-- a graph without a weak family has a block without one -/
theorem no_PW {G : xG} (hg : gok G) (h : ¬PW G) : ∃ p, G p.1 p.2 = true ∧ ¬PW (bH G (bS G p)) := by
  have hO := blks_ok hg 100 (Nat.le_refl _)
  refine Classical.byContradiction fun hno => h ?_
  have := PW_blocks hg (blks G 100) (fun p hp => ⟨(hO.1 p hp).1, Classical.byContradiction fun n => hno ⟨p, (hO.1 p hp).1, n⟩⟩)
  rw [gL_blks hg] at this
  exact this
