/-! what hangs on the least cycle -/
abbrev inC (C : List Nat) : Nat → Bool := fun v => decide (v ∈ C)
theorem comp_path {P : xG} {S PV : Nat → Bool} (hg : gok P) {z s t : Nat} (hz : z < 10) (hs : ctc P PV (cmp P S PV z) s = true) (ht : ctc P PV (cmp P S PV z) t = true) : ∃ ps, ps ≠ [] ∧ ps.Nodup ∧ (∀ p ∈ ps, p < 10 ∧ cmp P S PV z p = true) ∧ allF P (s :: ps ++ [t]) := by
  unfold ctc at hs ht
  rw [Bool.and_eq_true] at hs ht
  obtain ⟨d1, a1, a2, a3⟩ := nb_iff.mp hs.1
  obtain ⟨d2, b1, b2, b3⟩ := nb_iff.mp ht.1
  have hc := con_trans (con_sym hg.1 hz a1 (cmp_con hz a1 a2)) (cmp_con hz b1 b2) b1
  obtain ⟨L, ⟨p1, p2, p3⟩, p4⟩ := con_PA a1 b1 hc
  refine ⟨L ++ [d2], by simp, p1, p2, ?_⟩
  have h1 : allF P (s :: (L ++ [d2])) := allF_cons p3 p4 (by rw [hg.1]; exact a3)
  refine allF_snoc hg.1 h1 (h := d2) ?_ b3
  rw [show s :: (L ++ [d2]) = (s :: L) ++ [d2] from rfl, List.getLast?_concat]
section
variable {P : xG} {PV : Nat → Bool} {m : Nat} {Z : Nat → xG} {u w : Nat} {C : List Nat} {U : Nat → Bool}
/-- a vertex with an edge lies on a face -/
def TH (PV : Nat → Bool) : Prop := ∃ a b d, PV a = true ∧ PV b = true ∧ PV d = true ∧ a ≠ b ∧ a ≠ d ∧ b ≠ d
theorem TH_cov (hB : BIC P PV) (hV : ∀ v, PV v = true → v < 10) (hT : TH PV) (hF : FS P m Z) {x y : Nat} (h : P x y = true) : ∃ i, i < m ∧ Z i x y = true := by
  obtain ⟨a, b, d, h1, h2, h3, n1, n2, n3⟩ := hT
  obtain ⟨z, hz, z1, z2⟩ := three_other n1 n2 n3 x y
  have hPz : PV z = true := by rcases hz with e | e | e <;> rw [e] <;> assumption
  obtain ⟨y', hy', hne⟩ := deg_two hB h (hV z hPz) hPz z1 z2
  exact cov hB hF.2.2.1 h hy' (fun e => hne e.symm)
theorem TH_nbr (hB : BIC P PV) (hV : ∀ v, PV v = true → v < 10) (hT : TH PV) {x : Nat} (hx : PV x = true) : ∃ y, P x y = true := by
  obtain ⟨a, b, d, h1, h2, h3, n1, n2, n3⟩ := hT
  obtain ⟨z, hz, z1, _⟩ := three_other n1 n2 n3 x x
  have hPz : PV z = true := by rcases hz with e | e | e <;> rw [e] <;> assumption
  obtain ⟨y, _, hy⟩ := con_first (hV z hPz) (BIC_con hB hV hx hPz) (fun e => z1 e.symm)
  exact ⟨y, hy⟩
theorem cyl_two (hC : cyl C) : ∃ y z, y ≠ z ∧ inC C y = true ∧ inC C z = true := by
  obtain ⟨h1, h2, _⟩ := hC
  match C, h1, h2 with
  | a :: b :: t, h1, _ =>
    exact ⟨a, b, fun e => (List.nodup_cons.mp h1).1 (by rw [e]; exact List.mem_cons_self), decide_eq_true List.mem_cons_self, decide_eq_true (List.mem_cons_of_mem _ List.mem_cons_self)⟩
theorem CUT_PV (hB : BIC P PV) (hF : FS P m Z) (hC : CUT m Z u w C U) {v : Nat} (h : inC C v = true) : PV v = true := (cut_EXS hB hF hC).1.2.2.1 v h
/-- one side for all of a component -/
theorem cmp_side (hB : BIC P PV) (hV : ∀ v, PV v = true → v < 10) (hF : FS P m Z) (hC : CUT m Z u w C U) {x y0 i0 : Nat} (hx : PV x = true) (hxC : inC C x = false) (hi0 : i0 < m) (h0 : Z i0 x y0 = true) : ∀ v, cmp P PV (inC C) x v = true → ∀ y i, i < m → Z i v y = true → U i = U i0 := by
  obtain ⟨hI, hG, hBC, hX⟩ := cut_EXS hB hF hC
  have hFOK : FOK P PV (eSQ C) (inC C) (mk (cmp P PV (inC C) x), mk (ctc P (inC C) (cmp P PV (inC C) x))) := Or.inr ⟨x, hV x hx, hx, hxC, rfl, rfl⟩
  obtain ⟨hD, _, hne⟩ := FOK_cmp (G := P) (S := PV) (PV := inC C) hV hI.2.2.1 (q := (mk (cmp P PV (inC C) x), mk (ctc P (inC C) (cmp P PV (inC C) x)))) hx hxC rfl rfl
  obtain ⟨j, hj, hcl, _⟩ := EXS_frag hB hV hBC hI (by simp) hX hFOK
  have hno : ∀ v y, inC C v = false → eSQ C v y = false := fun v y h => by
    cases e : eSQ C v y with
    | false => rfl
    | true => have := (eS_mem e).1; rw [show inC C v = decide (v ∈ C) from rfl, decide_eq_true this] at h; cases h
  have key : ∀ v, cmp P PV (inC C) x v = true → ∀ y i, i < m → Z i v y = true → cU U i = j := fun v hv y i hi hZ => hcl v y i (fE_iff.mpr ⟨(hF.1 i hi).1.2 v y hZ, hno v y (cmp_in hv).2, Or.inr ⟨hne, Or.inl (by rw [hD]; exact hv)⟩⟩) hi hZ
  intro v hv y i hi hZ
  have e1 := key v hv y i hi hZ
  have e2 := key x (cmp_self hx hxC) y0 i0 hi0 h0
  rw [← e2] at e1
  cases q : U i0 with
  | true => exact cU_0.mp (by rw [e1]; exact cU_0.mpr q)
  | false => exact cU_1.mp (by rw [e1]; exact cU_1.mpr q)
/-- a chord lies on w's side -/
theorem chord_side (hB : BIC P PV) (hV : ∀ v, PV v = true → v < 10) (hF : FS P m Z) (hC : CUT m Z u w C U) (hcu : ∃ k, k < m ∧ ∃ y, Z k u y = true) {s t i : Nat} (hs : s ∈ C) (ht : t ∈ C) (hP : P s t = true) (hno : eSQ C s t = false) (hi : i < m) (hZ : Z i s t = true) : U i = false := by
  obtain ⟨hI, hG, hBC, hX⟩ := cut_EXS hB hF hC
  cases e : U i with
  | false => rfl
  | true =>
    exfalso
    have hall : ∀ x y k, ePQ (s :: [] ++ [t]) x y = true → k < m → Z k x y = true → U k = true := fun x y k h hk hkZ => by
      have hst : Z k s t = true := by
        rcases eP_iff.mp h with g | g
        · have : (x, y) = (s, t) := by simpa [pd] using g
          cases this; exact hkZ
        · have : (y, x) = (s, t) := by simpa [pd] using g
          cases this; rw [(hF.1 k hk).1.1]; exact hkZ
      have := EXS_A hV hI hX hno hi hk hZ hst
      exact cU_0.mp (this.trans (cU_0.mpr e))
    exact no_path hB hV hF hC hcu hs ht (ne_edge (BIC_gok hB) hP) List.nodup_nil (fun p hp => by cases hp) (fun q hq => by
      have : q = (s, t) := by simpa [pd] using hq
      rw [this]; exact ⟨hP, hno⟩) (by simp) (by simp) hall
/-- so does a component other than u's -/
theorem comp_side (hB : BIC P PV) (hV : ∀ v, PV v = true → v < 10) (hT : TH PV) (hF : FS P m Z) (hC : CUT m Z u w C U) (hcu : ∃ k, k < m ∧ ∃ y, Z k u y = true) (hPw : PV w = true) {z : Nat} (hz : PV z = true) (hzC : inC C z = false) (hzu : cmp P PV (inC C) z u = false) : ∀ v, cmp P PV (inC C) z v = true → ∀ y i, i < m → Z i v y = true → U i = false := by
  have hg := BIC_gok hB
  obtain ⟨hI, hG, hBC, hX⟩ := cut_EXS hB hF hC
  obtain ⟨y0, hy0⟩ := TH_nbr hB hV hT hz
  obtain ⟨i0, hi0, hZ0⟩ := TH_cov hB hV hT hF hy0
  have hside := cmp_side hB hV hF hC hz hzC hi0 hZ0
  intro v hv y i hi hZ
  rw [hside v hv y i hi hZ]
  cases e : U i0 with
  | false => rfl
  | true =>
    exfalso
    obtain ⟨s, t, hs10, ht10, hst, hs, ht⟩ := ctc_two hB (hV z hz) hz hzC (fun v h => ⟨CUT_PV hB hF hC h, hV v (CUT_PV hB hF hC h)⟩) (cyl_two hC.1)
    obtain ⟨ps, p1, p2, p3, p4⟩ := comp_path hg (hV z hz) hs ht
    have cC : ∀ a, ctc P (inC C) (cmp P PV (inC C) z) a = true → a ∈ C := fun a ha => by
      unfold ctc at ha
      rw [Bool.and_eq_true] at ha
      exact of_decide_eq_true ha.2
    have pC : ∀ p ∈ ps, p ∉ C := fun p hp => of_decide_eq_false (cmp_in (p3 p hp).2).2
    have hedge : ∀ q ∈ pd (s :: ps ++ [t]), P q.1 q.2 = true ∧ eSQ C q.1 q.2 = false := fun q hq => ⟨p4 q hq, by
      cases e2 : eSQ C q.1 q.2 with
      | false => rfl
      | true =>
        have hm := eS_mem e2
        rcases ends_in p1 hq with g | g
        · exact absurd hm.1 (pC _ g)
        · exact absurd hm.2 (pC _ g)⟩
    have hwz : cmp P PV (inC C) z w = true → False := fun h => by
      obtain ⟨yw, hyw⟩ := TH_nbr hB hV hT hPw
      obtain ⟨iw, hiw, hZw⟩ := TH_cov hB hV hT hF hyw
      have h1 := hside w h yw iw hiw hZw
      rw [hC.2.1.2.2.2 iw hiw ⟨yw, hZw⟩, e] at h1
      cases h1
    refine no_path hB hV hF hC hcu (cC s hs) (cC t ht) hst p2 (fun p hp => ⟨pC p hp, (cmp_in (p3 p hp).2).1⟩) hedge (fun h => ?_) (fun h => hwz (p3 w h).2) (fun x y k h hk hkZ => ?_)
    · rw [(p3 u h).2] at hzu; cases hzu
    · have main : ∀ x y, (x, y) ∈ pd (s :: ps ++ [t]) → Z k x y = true → U k = true := fun x y hq hZ => by
        rcases ends_in p1 hq with g | g
        · rw [hside x (p3 x g).2 y k hk hZ]; exact e
        · rw [hside y (p3 y g).2 x k hk (by rw [(hF.1 k hk).1.1]; exact hZ)]; exact e
      rcases eP_iff.mp h with g | g
      · exact main x y g hkZ
      · exact main y x g (by rw [(hF.1 k hk).1.1]; exact hkZ)
/-- what lies on w's side does not cross w's component -/
theorem cross_no (hB : BIC P PV) (hV : ∀ v, PV v = true → v < 10) (hT : TH PV) (hF : FS P m Z) {x' y' : Nat} {I O : List Nat} (hC : CUT m Z u w (x' :: I ++ y' :: O) U) (hPw : PV w = true) (hwC : inC (x' :: I ++ y' :: O) w = false)
    (hx : ctc P (inC (x' :: I ++ y' :: O)) (cmp P PV (inC (x' :: I ++ y' :: O)) w) x' = true) (hy : ctc P (inC (x' :: I ++ y' :: O)) (cmp P PV (inC (x' :: I ++ y' :: O)) w) y' = true) {s t : Nat} (hs : s ∈ I) (ht : t ∈ O)
    (hcase : (P s t = true ∧ eSQ (x' :: I ++ y' :: O) s t = false ∧ ∀ i, i < m → Z i s t = true → U i = false) ∨ ∃ z, PV z = true ∧ inC (x' :: I ++ y' :: O) z = false ∧ cmp P PV (inC (x' :: I ++ y' :: O)) w z = false ∧ (∀ y i, i < m → Z i z y = true → U i = false) ∧ ctc P (inC (x' :: I ++ y' :: O)) (cmp P PV (inC (x' :: I ++ y' :: O)) z) s = true ∧ ctc P (inC (x' :: I ++ y' :: O)) (cmp P PV (inC (x' :: I ++ y' :: O)) z) t = true) : False := by
  have hg := BIC_gok hB
  obtain ⟨hI, hG, hBC, hX⟩ := cut_EXS hB hF hC
  obtain ⟨⟨c1, c2, c3⟩, ⟨hU, ⟨hCu, hCw⟩, hUu, hUw⟩, hmin⟩ := id hC
  obtain ⟨ps, p1, p2, p3, p4⟩ := comp_path hg (hV w hPw) hx hy
  have pC : ∀ p ∈ ps, p ∉ x' :: I ++ y' :: O := fun p hp => of_decide_eq_false (cmp_in (p3 p hp).2).2
  have hn := c1
  simp only [List.cons_append, List.nodup_cons, List.nodup_append, List.mem_append, List.mem_cons, not_or, ne_eq] at hn
  obtain ⟨⟨nxI, nxy, nxO⟩, nI, ⟨nyO, nO⟩, nIO⟩ := hn
  have hlist : [x' :: I ++ y' :: O, (x' :: I ++ y' :: O).reverse] = [x' :: I ++ y' :: O] ++ ((O.reverse ++ y' :: I.reverse) ++ [x']) :: [] := by simp
  have hAB : [x'] ++ (O.reverse ++ y' :: I.reverse) = x' :: O.reverse ++ y' :: I.reverse := by simp
  have hI2 := hI
  have hG2 := hG
  have hX2 := hX
  rw [hlist] at hI2 hG2 hX2
  have hpv2 : ∀ p ∈ ps, p < 10 ∧ inC (x' :: I ++ y' :: O) p = false ∧ PV p = true := fun p hp => ⟨(p3 p hp).1, (cmp_in (p3 p hp).2).2, (cmp_in (p3 p hp).2).1⟩
  have hedge : ∀ q ∈ pd (x' :: ps ++ [y']), P q.1 q.2 = true ∧ eSQ (x' :: I ++ y' :: O) q.1 q.2 = false := fun q hq => ⟨p4 q hq, by
    cases e2 : eSQ (x' :: I ++ y' :: O) q.1 q.2 with
    | false => rfl
    | true =>
      have hm := eS_mem e2
      rcases ends_in p1 hq with g | g
      · exact absurd hm.1 (pC _ g)
      · exact absurd hm.2 (pC _ g)⟩
  obtain ⟨yw, hyw⟩ := TH_nbr hB hV hT hPw
  obtain ⟨iw, hiw, hZw⟩ := TH_cov hB hV hT hF hyw
  have hUw0 := hUw iw hiw ⟨yw, hZw⟩
  have hside := cmp_side hB hV hF hC hPw hwC hiw hZw
  have hcl : ∀ x y i, ePQ (x' :: ps ++ [y']) x y = true → i < m → Z i x y = true → cU U i = [x' :: I ++ y' :: O].length := fun x y i h hi hZ => by
    have main : ∀ x y, (x, y) ∈ pd (x' :: ps ++ [y']) → Z i x y = true → U i = false := fun x y hq hZ => by
      rcases ends_in p1 hq with g | g
      · rw [hside x (p3 x g).2 y i hi hZ]; exact hUw0
      · rw [hside y (p3 y g).2 x i hi (by rw [(hF.1 i hi).1.1]; exact hZ)]; exact hUw0
    refine cU_1.mpr ?_
    rcases eP_iff.mp h with g | g
    · exact main x y g hZ
    · exact main y x g (by rw [(hF.1 i hi).1.1]; exact hZ)
  obtain ⟨c', hX', hc'⟩ := EXS_3 hB hV hI2 hG2 hX2 hAB p2 hpv2 hedge hcl
  have hI3 := INV_step hB.1 hI2 hAB p2 hpv2 hedge
  have hxn : (x' :: ps ++ [y']).Nodup := by
    have h1 : (x' :: ps).Nodup := List.nodup_cons.mpr ⟨fun e => pC x' e (by simp), p2⟩
    refine List.nodup_append.mpr ⟨h1, by simp, fun a ha b hb e => ?_⟩
    rw [List.mem_singleton] at hb
    subst hb; subst e
    rcases List.mem_cons.mp ha with e | e
    · exact nxy e.symm
    · exact pC a e (by simp)
  have hB3 := BIC_ear hBC (fun v hv => c3 v (of_decide_eq_true hv)) hxn (decide_eq_true (by simp)) (decide_eq_true (by simp)) (fun p hp => (p3 p hp).1)
  -- s is not on the second new face, t not on the first
  have hf1 : ∀ y, FZ ([x' :: I ++ y' :: O] ++ (x' :: O.reverse ++ y' :: ps.reverse) :: [] ++ [y' :: I.reverse ++ x' :: ps]) 1 s y = false := fun y => by
    show eSQ (x' :: O.reverse ++ y' :: ps.reverse) s y = false
    cases e : eSQ (x' :: O.reverse ++ y' :: ps.reverse) s y with
    | false => rfl
    | true =>
      exfalso
      have := (eS_mem e).1
      simp only [List.cons_append, List.mem_append, List.mem_cons, List.mem_reverse] at this
      rcases this with g | g | g | g
      · exact nxI (g ▸ hs)
      · exact nIO s hs s (Or.inr g) rfl
      · exact nIO s hs y' (Or.inl rfl) g
      · exact pC s g (by simp [hs])
  have hf2 : ∀ y, FZ ([x' :: I ++ y' :: O] ++ (x' :: O.reverse ++ y' :: ps.reverse) :: [] ++ [y' :: I.reverse ++ x' :: ps]) 2 t y = false := fun y => by
    show eSQ (y' :: I.reverse ++ x' :: ps) t y = false
    cases e : eSQ (y' :: I.reverse ++ x' :: ps) t y with
    | false => rfl
    | true =>
      exfalso
      have := (eS_mem e).1
      simp only [List.cons_append, List.mem_append, List.mem_cons, List.mem_reverse] at this
      rcases this with g | g | g | g
      · exact nyO (g ▸ ht)
      · exact nIO t g t (Or.inr ht) rfl
      · exact nxO (g ▸ ht)
      · exact pC t g (by simp [ht])
  have hcl2 : ∀ i, i < m → U i = false → c' i = 1 ∨ c' i = 2 := fun i hi h => (hc' i hi).2 (cU_1.mpr h)
  have hsC : addV (inC (x' :: I ++ y' :: O)) ps s = true := addV_iff.mpr (Or.inl (decide_eq_true (by simp [hs])))
  have htC : addV (inC (x' :: I ++ y' :: O)) ps t = true := addV_iff.mpr (Or.inl (decide_eq_true (by simp [ht])))
  have hfin : ∀ j, (j = 1 ∨ j = 2) → (∃ y, FZ ([x' :: I ++ y' :: O] ++ (x' :: O.reverse ++ y' :: ps.reverse) :: [] ++ [y' :: I.reverse ++ x' :: ps]) j s y = true) → (∃ y, FZ ([x' :: I ++ y' :: O] ++ (x' :: O.reverse ++ y' :: ps.reverse) :: [] ++ [y' :: I.reverse ++ x' :: ps]) j t y = true) → False := fun j hj ⟨y1, h1⟩ ⟨y2, h2⟩ => by
    rcases hj with e | e
    · rw [e, hf1] at h1; cases h1
    · rw [e, hf2] at h2; cases h2
  rcases hcase with ⟨hP, hne, hside2⟩ | ⟨z, hPz, hzC, hzw, hside2, hzs, hzt⟩
  · have hnew : addP (eSQ (x' :: I ++ y' :: O)) (x' :: ps ++ [y']) s t = false := by
      cases e : addP (eSQ (x' :: I ++ y' :: O)) (x' :: ps ++ [y']) s t with
      | false => rfl
      | true =>
        exfalso
        rcases addP_iff.mp e with g | g | g
        · rw [hne] at g; cases g
        · rcases ends_in p1 g with r | r
          · exact pC s r (by simp [hs])
          · exact pC t r (by simp [ht])
        · rcases ends_in p1 g with r | r
          · exact pC t r (by simp [ht])
          · exact pC s r (by simp [hs])
    obtain ⟨i, hi, hZ⟩ := TH_cov hB hV hT hF hP
    have r1 := EXS_2 hB hV hB3 hI3 (by simp) hX' hsC hnew hi hZ
    have hnew2 : addP (eSQ (x' :: I ++ y' :: O)) (x' :: ps ++ [y']) t s = false := by rw [hI3.1]; exact hnew
    have r2 := EXS_2 hB hV hB3 hI3 (by simp) hX' htC hnew2 hi (by rw [(hF.1 i hi).1.1]; exact hZ)
    exact hfin (c' i) (hcl2 i hi (hside2 i hi hZ)) r1 r2
  · have hz10 := hV z hPz
    -- the component is the same beside the new path
    have hno : ∀ v, cmp P PV (inC (x' :: I ++ y' :: O)) z v = true → v ∉ ps := fun v hv hvp => by
      have hv10 := hV v (cmp_in hv).1
      have h1 := (p3 v hvp).2
      have h2 := cmp_same (S := PV) (PV := inC (x' :: I ++ y' :: O)) hB.1 (hV w hPw) hv10 h1 z hz10
      have h3 := cmp_same (S := PV) (PV := inC (x' :: I ++ y' :: O)) hB.1 hz10 hv10 hv z hz10
      rw [h3, cmp_self hPz hzC] at h2
      rw [← h2] at hzw
      cases hzw
    have hzn : addV (inC (x' :: I ++ y' :: O)) ps z = false := by
      cases e : addV (inC (x' :: I ++ y' :: O)) ps z with
      | false => rfl
      | true =>
        rcases addV_iff.mp e with g | g
        · rw [hzC] at g; cases g
        · exact absurd g (hno z (cmp_self hPz hzC))
    have hsub : ∀ v, v < 10 → cmp P PV (inC (x' :: I ++ y' :: O)) z v = true → cmp P PV (addV (inC (x' :: I ++ y' :: O)) ps) z v = true := fun v hv10 hv => by
      have hc := cmp_con hz10 hv10 hv
      refine con_ind (G := P) (A := cmp P PV (inC (x' :: I ++ y' :: O)) z) (x := z) (fun v => cmp P PV (addV (inC (x' :: I ++ y' :: O)) ps) z v = true) (fun _ => cmp_self hPz hzn) (fun a b ha hb q hab hbA => cmp_step ha hb q hab (cmp_in hbA).1 ?_) hv10 hc
      cases e : addV (inC (x' :: I ++ y' :: O)) ps b with
      | false => rfl
      | true =>
        rcases addV_iff.mp e with g | g
        · rw [(cmp_in hbA).2] at g; cases g
        · exact absurd g (hno b hbA)
    have hct : ∀ a, ctc P (inC (x' :: I ++ y' :: O)) (cmp P PV (inC (x' :: I ++ y' :: O)) z) a = true → ctc P (addV (inC (x' :: I ++ y' :: O)) ps) (cmp P PV (addV (inC (x' :: I ++ y' :: O)) ps) z) a = true := fun a ha => by
      unfold ctc at ha ⊢
      rw [Bool.and_eq_true] at ha ⊢
      obtain ⟨d, d1, d2, d3⟩ := nb_iff.mp ha.1
      exact ⟨nb_iff.mpr ⟨d, d1, hsub d d1 d2, d3⟩, addV_iff.mpr (Or.inl ha.2)⟩
    have hFOK : FOK P PV (addP (eSQ (x' :: I ++ y' :: O)) (x' :: ps ++ [y'])) (addV (inC (x' :: I ++ y' :: O)) ps) (mk (cmp P PV (addV (inC (x' :: I ++ y' :: O)) ps) z), mk (ctc P (addV (inC (x' :: I ++ y' :: O)) ps) (cmp P PV (addV (inC (x' :: I ++ y' :: O)) ps) z))) := Or.inr ⟨z, hz10, hPz, hzn, rfl, rfl⟩
    obtain ⟨hD, hCt, hne⟩ := FOK_cmp (G := P) (S := PV) (PV := addV (inC (x' :: I ++ y' :: O)) ps) hV hI3.2.2.1 (q := (mk (cmp P PV (addV (inC (x' :: I ++ y' :: O)) ps) z), mk (ctc P (addV (inC (x' :: I ++ y' :: O)) ps) (cmp P PV (addV (inC (x' :: I ++ y' :: O)) ps) z)))) hPz hzn rfl rfl
    obtain ⟨j, hj, hclj, hcon⟩ := EXS_frag hB hV hB3 hI3 (by simp) hX' hFOK
    obtain ⟨y0, hy0⟩ := TH_nbr hB hV hT hPz
    obtain ⟨i, hi, hZ⟩ := TH_cov hB hV hT hF hy0
    have hnoz : addP (eSQ (x' :: I ++ y' :: O)) (x' :: ps ++ [y']) z y0 = false := by
      cases e : addP (eSQ (x' :: I ++ y' :: O)) (x' :: ps ++ [y']) z y0 with
      | false => rfl
      | true =>
        have := (hI3.2.1 z y0 e).2
        rw [hzn] at this
        cases this
    have hj2 : c' i = j := hclj z y0 i (fE_iff.mpr ⟨hy0, hnoz, Or.inr ⟨hne, Or.inl (by rw [hD]; exact cmp_self hPz hzn)⟩⟩) hi hZ
    have r1 := hcon s (hV s (CUT_PV hB hF hC (decide_eq_true (by simp [hs])))) (by rw [hCt]; exact hct s hzs)
    have r2 := hcon t (hV t (CUT_PV hB hF hC (decide_eq_true (by simp [ht])))) (by rw [hCt]; exact hct t hzt)
    exact hfin j (by rw [← hj2]; exact hcl2 i hi (hside2 y0 i hi hZ)) r1 r2
end
