/-! labels of edges: the blocks as the reference finds them -/
def pa (e : Nat) : Nat := pv e / 10
def pb (e : Nat) : Nat := pv e % 10
theorem pab_ok : ∀ e, e < 45 → pa e < pb e ∧ pb e < 10 ∧ pix (pa e) (pb e) = e ∧ pix (pb e) (pa e) = e := by decide +kernel
theorem pab_of : ∀ a, a < 10 → ∀ b, b < 10 → a < b → pa (pix a b) = a ∧ pb (pix a b) = b ∧ pa (pix b a) = a ∧ pb (pix b a) = b := by decide +kernel
theorem pab_next : ∀ e, e < 44 → (pa (e + 1) = pa e ∧ pb (e + 1) = pb e + 1) ∨ (pb e = 9 ∧ pa (e + 1) = pa e + 1 ∧ pb (e + 1) = pa e + 2) := by decide +kernel
section
variable {G : Nat → Nat → Bool}
/-- is the pair an edge -/
def ed (G : Nat → Nat → Bool) (e : Nat) : Bool := G (pa e) (pb e)
def en (e : Nat) : xPr := (pa e, pb e)
theorem ed_pix (hg : gok G) {a b : Nat} (ha : a < 10) (hb : b < 10) (hne : a ≠ b) : ed G (pix a b) = G a b := by
  unfold ed
  by_cases h : a < b
  · obtain ⟨h1, h2, _, _⟩ := pab_of a ha b hb h
    rw [h1, h2]
  · obtain ⟨_, _, h1, h2⟩ := pab_of b hb a ha (by omega)
    rw [h1, h2, hg.1]
/-- both ends of f are in the block of e -/
def sb (G : Nat → Nat → Bool) (e f : Nat) : Prop := bS G (en e) (pa f) = true ∧ bS G (en e) (pb f) = true
theorem sb_rfl (hg : gok G) {e : Nat} (h : ed G e = true) : sb G e e := by
  have h10 := hg.2.2 _ _ h
  exact ⟨bS_iff.mpr ⟨h10.1, Bs_a hg h⟩, bS_iff.mpr ⟨h10.2, Bs_b hg h⟩⟩
theorem sb_same (hg : gok G) {e f : Nat} (he : ed G e = true) (hf : ed G f = true) (h : sb G e f) : ∀ v, bS G (en e) v = bS G (en f) v := by
  have hr := sb_rfl hg hf
  exact bS_same hg he hf h.1 h.2 hf hr.1 hr.2
theorem sb_sym (hg : gok G) {e f : Nat} (he : ed G e = true) (hf : ed G f = true) (h : sb G e f) : sb G f e := by
  have hs := sb_same hg he hf h
  have hr := sb_rfl hg he
  exact ⟨by rw [← hs]; exact hr.1, by rw [← hs]; exact hr.2⟩
theorem sb_trans (hg : gok G) {e f g : Nat} (he : ed G e = true) (hf : ed G f = true) (h1 : sb G e f) (h2 : sb G f g) : sb G e g := by
  have hs := sb_same hg he hf h1
  exact ⟨by rw [hs]; exact h2.1, by rw [hs]; exact h2.2⟩
/-- the labels: m e is an edge of the same block, not greater, and its own label -/
def LOK (G : Nat → Nat → Bool) (m : Nat → Nat) : Prop := ∀ e, e < 45 → ed G e = true → m e ≤ e ∧ ed G (m e) = true ∧ m (m e) = m e ∧ sb G e (m e)
theorem LOK_0 (hg : gok G) : LOK G (fun e => e) := fun e _ h => ⟨Nat.le_refl _, h, rfl, sb_rfl hg h⟩
def mrg (m : Nat → Nat) (i j : Nat) : Nat → Nat := fun e => if m e = max (m i) (m j) then min (m i) (m j) else m e
theorem mrg_eq {m : Nat → Nat} {i j e f : Nat} (h : m e = m f) : mrg m i j e = mrg m i j f := by unfold mrg; rw [h]
theorem mrg_ij (m : Nat → Nat) (i j : Nat) : mrg m i j i = mrg m i j j := by
  unfold mrg
  by_cases h : m i ≤ m j
  · rw [Nat.max_eq_right h, Nat.min_eq_left h, if_pos rfl]
    by_cases e : m i = m j
    · rw [if_pos e]
    · rw [if_neg e]
  · have h2 : m j ≤ m i := by omega
    rw [Nat.max_eq_left h2, Nat.min_eq_right h2, if_pos rfl]
    by_cases e : m j = m i
    · rw [if_pos e]
    · rw [if_neg e]
theorem LOK_mrg (hg : gok G) {m : Nat → Nat} (h : LOK G m) {i j : Nat} (hi : i < 45) (hj : j < 45) (ei : ed G i = true) (ej : ed G j = true) (hs : sb G i j) : LOK G (mrg m i j) := by
  obtain ⟨i1, i2, i3, i4⟩ := h i hi ei
  obtain ⟨j1, j2, j3, j4⟩ := h j hj ej
  have hij : sb G (m i) (m j) := sb_trans hg i2 ei (sb_sym hg ei i2 i4) (sb_trans hg ei ej hs j4)
  have hji : sb G (m j) (m i) := sb_sym hg i2 j2 hij
  -- the one that is kept
  have hk : ed G (min (m i) (m j)) = true ∧ m (min (m i) (m j)) = min (m i) (m j) ∧ sb G (max (m i) (m j)) (min (m i) (m j)) ∧ ed G (max (m i) (m j)) = true := by
    by_cases hle : m i ≤ m j
    · rw [Nat.max_eq_right hle, Nat.min_eq_left hle]
      exact ⟨i2, i3, hji, j2⟩
    · have h2 : m j ≤ m i := by omega
      rw [Nat.max_eq_left h2, Nat.min_eq_right h2]
      exact ⟨j2, j3, hij, i2⟩
  obtain ⟨k1, k2, k3, k4⟩ := hk
  have hmm : min (m i) (m j) ≤ max (m i) (m j) := by omega
  generalize hmin : min (m i) (m j) = kp at *
  generalize hmax : max (m i) (m j) = gn at *
  have hkp : mrg m i j kp = kp := by
    unfold mrg
    rw [hmin, hmax, k2]
    by_cases e : kp = gn
    · rw [if_pos e]
    · rw [if_neg e]
  intro e he hee
  obtain ⟨e1, e2, e3, e4⟩ := h e he hee
  by_cases hg2 : m e = gn
  · have : mrg m i j e = kp := by unfold mrg; rw [hmin, hmax, if_pos hg2]
    rw [this]
    refine ⟨by omega, k1, hkp, sb_trans hg hee e2 e4 ?_⟩
    rw [hg2]
    exact k3
  · have : mrg m i j e = m e := by unfold mrg; rw [hmin, hmax, if_neg hg2]
    rw [this]
    refine ⟨e1, e2, ?_, e4⟩
    unfold mrg
    rw [hmin, hmax, e3, if_neg hg2]
/-- two edges of a vertex whose other ends are joined without it are of one block -/
theorem sb_J (hg : gok G) {v x y : Nat} (h1 : G v x = true) (h2 : G v y = true) (hc : con G (but v) x y) : sb G (pix v x) (pix v y) := by
  obtain ⟨hv, hx⟩ := hg.2.2 _ _ h1
  obtain ⟨_, hy⟩ := hg.2.2 _ _ h2
  have hvx : v ≠ x := fun e => by rw [e, hg.2.1] at h1; cases h1
  have hvy : v ≠ y := fun e => by rw [e, hg.2.1] at h2; cases h2
  have hT := Bs_T1 hg h1 hv hx hy (Bs_a hg h1) (Bs_b hg h1) h2 (fun e => hvx e.symm) hc
  have bv : bS G (v, x) v = true := bS_iff.mpr ⟨hv, Bs_a hg h1⟩
  have bx : bS G (v, x) x = true := bS_iff.mpr ⟨hx, Bs_b hg h1⟩
  have by_ : bS G (v, x) y = true := bS_iff.mpr ⟨hy, hT⟩
  have hsame : ∀ u, bS G (en (pix v x)) u = bS G (v, x) u := by
    by_cases h : v < x
    · obtain ⟨a1, a2, _, _⟩ := pab_of v hv x hx h
      intro u
      unfold en
      rw [a1, a2]
    · obtain ⟨_, _, a1, a2⟩ := pab_of x hx v hv (by omega)
      unfold en
      rw [a1, a2]
      have h1' : G x v = true := by rw [hg.1]; exact h1
      exact bS_same hg (p := (x, v)) (q := (v, x)) h1' (c := x) (d := v) h1' (bS_iff.mpr ⟨hx, Bs_a hg h1'⟩) (bS_iff.mpr ⟨hv, Bs_b hg h1'⟩) h1 bx bv
  unfold sb
  rw [hsame, hsame]
  by_cases h : v < y
  · obtain ⟨a1, a2, _, _⟩ := pab_of v hv y hy h
    rw [a1, a2]
    exact ⟨bv, by_⟩
  · obtain ⟨_, _, a1, a2⟩ := pab_of y hy v hv (by omega)
    rw [a1, a2]
    exact ⟨by_, bv⟩
/-- all has been joined -/
def LJ (G : Nat → Nat → Bool) (m : Nat → Nat) : Prop := ∀ v x y, v < 10 → x < y → y < 10 → G v x = true → G v y = true → con G (but v) x y → m (pix v x) = m (pix v y)
theorem LJ_sb (hg : gok G) {m : Nat → Nat} (hJ : LJ G m) {e f : Nat} (he45 : e < 45) (hf45 : f < 45) (he : ed G e = true) (hf : ed G f = true) (h : sb G e f) : m e = m f := by
  obtain ⟨pe1, pe2, pe3, pe4⟩ := pab_ok e he45
  obtain ⟨pf1, pf2, pf3, pf4⟩ := pab_ok f hf45
  have hcl := Bs_Cl hg he hf (bS_iff.mp h.1).2 (bS_iff.mp h.2).2
  have := hcl (fun c d => G c d = true ∧ m (pix c d) = m e) ⟨he, by show m (pix (pa e) (pb e)) = _; rw [pe3]⟩ (fun x y hxy => ⟨by rw [hg.1]; exact hxy.1, by rw [pix_sym]; exact hxy.2⟩) (fun v x y hv hx hy hR h1 h2 hc => by
    refine ⟨h2, ?_⟩
    rw [← hR.2]
    by_cases hxy : x < y
    · exact (hJ v x y hv hxy hy h1 h2 hc).symm
    · by_cases hyx : y < x
      · exact hJ v y x hv hyx hx h2 h1 (con_sym hg.1 hx hy hc)
      · have : x = y := by omega
        rw [this])
  rw [← this.2, pf3]
theorem LOK_iff (hg : gok G) {m : Nat → Nat} (hL : LOK G m) (hJ : LJ G m) {e f : Nat} (he45 : e < 45) (hf45 : f < 45) (he : ed G e = true) (hf : ed G f = true) : m e = m f ↔ sb G e f := by
  refine ⟨fun h => ?_, LJ_sb hg hJ he45 hf45 he hf⟩
  obtain ⟨_, a2, _, a4⟩ := hL e he45 he
  obtain ⟨_, b2, _, b4⟩ := hL f hf45 hf
  rw [h] at a4
  exact sb_trans hg he b2 a4 (sb_sym hg hf b2 b4)
/-- the list of blocks, pair by pair -/
def bB (G : Nat → Nat → Bool) : Nat → List xPr
  | 0 => []
  | e + 1 => bAdd G (bB G e) (pa e) (pb e)
theorem bB_blks (G : Nat → Nat → Bool) : ∀ e, e < 45 → bB G e = blks G (10 * pa e + pb e)
  | 0, _ => by
    have : 10 * pa 0 + pb 0 = 10 * 0 + 1 := by decide +kernel
    rw [this]
    exact (pfold_skip (f := bAdd G) (s := []) (a := 0) (b := 1) (by omega) (by omega)).symm
  | e + 1, h => by
    have ih := bB_blks G e (by omega)
    obtain ⟨p1, p2, _, _⟩ := pab_ok e (by omega)
    have hn : blks G (10 * pa e + pb e + 1) = bAdd G (blks G (10 * pa e + pb e)) (pa e) (pb e) := pfold_next p2 p1
    show bAdd G (bB G e) (pa e) (pb e) = _
    rw [ih, ← hn]
    rcases pab_next e (by omega) with ⟨a1, a2⟩ | ⟨a1, a2, a3⟩
    · rw [a1, a2]; rfl
    · rw [a1, a2, a3, show 10 * pa e + 9 + 1 = 10 * (pa e + 1) by omega]
      exact (pfold_skip (f := bAdd G) (s := []) (a := pa e + 1) (b := pa e + 2) (by omega) (by omega)).symm
theorem bB_45 (G : Nat → Nat → Bool) : bB G 45 = blks G 100 := by
  show bAdd G (bB G 44) (pa 44) (pb 44) = _
  rw [bB_blks G 44 (by omega)]
  have e1 : pa 44 = 8 := by decide +kernel
  have e2 : pb 44 = 9 := by decide +kernel
  rw [e1, e2]
  have h1 : blks G (10 * 8 + 9 + 1) = bAdd G (blks G (10 * 8 + 9)) 8 9 := pfold_next (by omega) (by omega)
  have h2 : blks G (10 * 9 + 10) = blks G (10 * 9) := pfold_skip (by omega) (by omega)
  rw [← h1]
  exact h2.symm
/-- the number of the block of a pair in a list -/
def bix (G : Nat → Nat → Bool) (l : List xPr) (f : Nat) : Nat := l.findIdx (fun p => bS G p (pa f) && bS G p (pb f))
/-- how the list grows: an edge that is its own label comes to its end, all others leave it -/
theorem bB_step (hg : gok G) {m : Nat → Nat} (hL : LOK G m) (hJ : LJ G m) {e : Nat} (he : e < 45) :
    ((ed G e = true ∧ m e = e) → bB G (e + 1) = bB G e ++ [en e]) ∧ (¬ (ed G e = true ∧ m e = e) → bB G (e + 1) = bB G e) := by
  have key : ∀ e, e ≤ 45 → (∀ p ∈ bB G e, ∃ f, f < e ∧ ed G f = true ∧ m f = f ∧ p = en f) ∧ (∀ f, f < e → ed G f = true → en (m f) ∈ bB G e) := by
    intro e
    induction e with
    | zero => exact fun _ => ⟨(fun p hp => by cases hp), fun f hf => absurd hf (by omega)⟩
    | succ e ih =>
      intro he
      obtain ⟨a1, a2⟩ := ih (by omega)
      have hadd : bB G (e + 1) = if (G (pa e) (pb e) && !(bB G e).any (fun p => bS G p (pa e) && bS G p (pb e))) = true then bB G e ++ [(pa e, pb e)] else bB G e := rfl
      by_cases hee : ed G e = true
      · obtain ⟨e1, e2, e3, e4⟩ := hL e (by omega) hee
        by_cases hme : m e = e
        · have hno : (bB G e).any (fun p => bS G p (pa e) && bS G p (pb e)) = false := by
            rw [List.any_eq_false]
            intro p hp hc
            obtain ⟨f, f1, f2, f3, f4⟩ := a1 p hp
            rw [f4, Bool.and_eq_true] at hc
            have := LJ_sb hg hJ (by omega) (by omega) f2 hee hc
            omega
          rw [hadd, if_pos (by rw [hno, show G (pa e) (pb e) = true from hee]; rfl)]
          refine ⟨fun p hp => ?_, fun f hf hfe => ?_⟩
          · rcases List.mem_append.mp hp with h | h
            · obtain ⟨f, f1, f2, f3, f4⟩ := a1 p h
              exact ⟨f, by omega, f2, f3, f4⟩
            · exact ⟨e, by omega, hee, hme, List.mem_singleton.mp h⟩
          · by_cases h : f = e
            · rw [h, hme]
              exact List.mem_append_right _ List.mem_cons_self
            · exact List.mem_append_left _ (a2 f (by omega) hfe)
        · have hlt : m e < e := by omega
          have hin := a2 (m e) hlt e2
          rw [e3] at hin
          have hany : (bB G e).any (fun p => bS G p (pa e) && bS G p (pb e)) = true := by
            refine List.any_eq_true.mpr ⟨_, hin, ?_⟩
            have := sb_sym hg hee e2 e4
            rw [Bool.and_eq_true]
            exact this
          rw [hadd, if_neg (by rw [hany]; simp)]
          refine ⟨fun p hp => ?_, fun f hf hfe => ?_⟩
          · obtain ⟨f, f1, f2, f3, f4⟩ := a1 p hp
            exact ⟨f, by omega, f2, f3, f4⟩
          · by_cases h : f = e
            · rw [h]; exact hin
            · exact a2 f (by omega) hfe
      · rw [hadd, if_neg (by
          have : G (pa e) (pb e) = false := Bool.eq_false_iff.mpr hee
          rw [this]
          simp)]
        refine ⟨fun p hp => ?_, fun f hf hfe => ?_⟩
        · obtain ⟨f, f1, f2, f3, f4⟩ := a1 p hp
          exact ⟨f, by omega, f2, f3, f4⟩
        · by_cases h : f = e
          · rw [h] at hfe; exact absurd hfe hee
          · exact a2 f (by omega) hfe
  obtain ⟨a1, a2⟩ := key e (by omega)
  have hadd : bB G (e + 1) = if (G (pa e) (pb e) && !(bB G e).any (fun p => bS G p (pa e) && bS G p (pb e))) = true then bB G e ++ [(pa e, pb e)] else bB G e := rfl
  refine ⟨fun ⟨hee, hme⟩ => ?_, fun hn => ?_⟩
  · have hno : (bB G e).any (fun p => bS G p (pa e) && bS G p (pb e)) = false := by
      rw [List.any_eq_false]
      intro p hp hc
      obtain ⟨f, f1, f2, f3, f4⟩ := a1 p hp
      rw [f4, Bool.and_eq_true] at hc
      have := LJ_sb hg hJ (by omega) (by omega) f2 hee hc
      omega
    rw [hadd, if_pos (by rw [hno, show G (pa e) (pb e) = true from hee]; rfl)]
    rfl
  · rw [hadd]
    by_cases hee : ed G e = true
    · obtain ⟨e1, e2, e3, e4⟩ := hL e (by omega) hee
      have hlt : m e < e := by
        have : m e ≠ e := fun h => hn ⟨hee, h⟩
        omega
      have hin := a2 (m e) hlt e2
      rw [e3] at hin
      have hany : (bB G e).any (fun p => bS G p (pa e) && bS G p (pb e)) = true := by
        refine List.any_eq_true.mpr ⟨_, hin, ?_⟩
        have := sb_sym hg hee e2 e4
        rw [Bool.and_eq_true]
        exact this
      rw [if_neg (by rw [hany]; simp)]
    · rw [if_neg (by
        have : G (pa e) (pb e) = false := Bool.eq_false_iff.mpr hee
        rw [this]
        simp)]
theorem bB_len (G : Nat → Nat → Bool) : ∀ e, (bB G e).length ≤ e
  | 0 => Nat.le_refl _
  | e + 1 => by
    have := bB_len G e
    show (bAdd G (bB G e) (pa e) (pb e)).length ≤ _
    unfold bAdd
    split
    · rw [List.length_append]
      show _ + 1 ≤ _
      omega
    · omega
theorem bB_mem (hg : gok G) {m : Nat → Nat} (hL : LOK G m) (hJ : LJ G m) : ∀ e, e ≤ 45 → (∀ p ∈ bB G e, ∃ f, f < e ∧ ed G f = true ∧ m f = f ∧ p = en f)
  | 0, _, p, hp => by cases hp
  | e + 1, he, p, hp => by
    obtain ⟨s1, s2⟩ := bB_step hg hL hJ (e := e) (by omega)
    have ih := bB_mem hg hL hJ e (by omega)
    by_cases h : ed G e = true ∧ m e = e
    · rw [s1 h] at hp
      rcases List.mem_append.mp hp with h2 | h2
      · obtain ⟨f, f1, f2, f3, f4⟩ := ih p h2
        exact ⟨f, by omega, f2, f3, f4⟩
      · exact ⟨e, by omega, h.1, h.2, List.mem_singleton.mp h2⟩
    · rw [s2 h] at hp
      obtain ⟨f, f1, f2, f3, f4⟩ := ih p hp
      exact ⟨f, by omega, f2, f3, f4⟩
/-- a new block's number, and that the others keep theirs -/
theorem bix_new (hg : gok G) {m : Nat → Nat} (hL : LOK G m) (hJ : LJ G m) {e f : Nat} (he : e < 45) (hf : f < 45) (hfe : ed G f = true) (h : ed G e = true ∧ m e = e) (hm : m f = e) : bix G (bB G e ++ [en e]) f = (bB G e).length := by
  unfold bix
  have hno : ∀ p ∈ bB G e, (bS G p (pa f) && bS G p (pb f)) = false := fun p hp => by
    obtain ⟨g, g1, g2, g3, g4⟩ := bB_mem hg hL hJ e (by omega) p hp
    cases hc : (bS G p (pa f) && bS G p (pb f)) with
    | false => rfl
    | true =>
      rw [g4, Bool.and_eq_true] at hc
      have := LJ_sb hg hJ (by omega) hf g2 hfe hc
      omega
  have hyes : (bS G (en e) (pa f) && bS G (en e) (pb f)) = true := by
    rw [Bool.and_eq_true]
    exact (LOK_iff hg hL hJ he hf h.1 hfe).mp (by rw [h.2, hm])
  rw [List.findIdx_append, List.findIdx_eq_length_of_false hno, if_neg (by omega)]
  rw [List.findIdx_cons, hyes]
  simp
theorem bix_old {l m : List xPr} {f : Nat} (h : bix G l f < l.length) : bix G (l ++ m) f = bix G l f := by
  unfold bix at h ⊢
  rw [List.findIdx_append, if_pos h]
end
