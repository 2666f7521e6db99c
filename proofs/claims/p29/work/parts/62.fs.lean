/-! from weak to strong families; what holds around a vertex -/
theorem nmin {P : Nat → Prop} (h : ∃ n, P n) : ∃ n, P n ∧ ∀ k, P k → n ≤ k := by
  have key : ∀ n, P n → ∃ n, P n ∧ ∀ k, P k → n ≤ k := by
    intro n
    induction n using Nat.strongRecOn with
    | ind n ih =>
      intro hn
      by_cases e : ∃ k, k < n ∧ P k
      · obtain ⟨k, hk, hp⟩ := e
        exact ih k hk hp
      · exact ⟨n, hn, fun k hk => Nat.le_of_not_lt fun q => e ⟨k, q, hk⟩⟩
  obtain ⟨n, hn⟩ := h
  exact key n hn
theorem xs_skip (f : Nat → Bool) {i0 : Nat} : ∀ {n : Nat}, i0 ≤ n → xs f (n + 1) = (xs (fun k => f (if k < i0 then k else k + 1)) n ^^ f i0)
  | 0, h => by
    have : i0 = 0 := by omega
    subst this
    rfl
  | n + 1, h => by
    by_cases e : i0 = n + 1
    · subst e
      show (xs f (n + 1) ^^ f (n + 1)) = _
      rw [xs_ext (f := fun k => f (if k < n + 1 then k else k + 1)) (g := f) (n := n + 1) (fun k hk => by rw [if_pos hk])]
    · have ih := xs_skip f (i0 := i0) (n := n) (by omega)
      show (xs f (n + 1) ^^ f (n + 1)) = ((xs (fun k => f (if k < i0 then k else k + 1)) n ^^ f (if n < i0 then n else n + 1)) ^^ f i0)
      rw [ih, if_neg (by omega : ¬ n < i0)]
      cases xs (fun k => f (if k < i0 then k else k + 1)) n <;> cases f i0 <;> cases f (n + 1) <;> rfl
theorem PW_FS {G : xG} (h : PW G) : ∃ m Z, FS G m Z := by
  obtain ⟨m, ⟨Z, h1, h2, h3⟩, hmin⟩ := nmin (P := fun m => ∃ Z, FW G m Z) (by obtain ⟨m, Z, h⟩ := h; exact ⟨m, Z, h⟩)
  -- the family is independent
  have hind : ∀ U, sU Z U m = x0 → ∀ i, i < m → U i = false := by
    intro U hU i0 hi
    cases e : U i0 with
    | false => rfl
    | true =>
      exfalso
      obtain ⟨n, rfl⟩ : ∃ n, m = n + 1 := ⟨m - 1, by omega⟩
      have := hmin n ⟨fun k => Z (if k < i0 then k else k + 1), fun k hk => h1 _ (by split <;> omega), two2_mk fun x y i j k hi hj hk a b c => ?_, fun X hX => ?_⟩
      · omega
      · have := two2_of h2 (i := if i < i0 then i else i + 1) (j := if j < i0 then j else j + 1) (k := if k < i0 then k else k + 1) (by split <;> omega) (by split <;> omega) (by split <;> omega) a b c
        split at this <;> split at this <;> split at this <;> omega
      · obtain ⟨V, hV⟩ := h3 X hX
        have : ∃ V, X = sU Z V (n + 1) ∧ V i0 = false := by
          cases e2 : V i0 with
          | false => exact ⟨V, hV, e2⟩
          | true => exact ⟨fun i => V i ^^ U i, by rw [sU_xor, hU, xr_0]; exact hV, by show (V i0 ^^ U i0) = false; rw [e, e2]; rfl⟩
        obtain ⟨V, hV, e2⟩ := this
        refine ⟨fun k => V (if k < i0 then k else k + 1), ?_⟩
        rw [hV]
        funext x y
        show xs _ (n + 1) = xs _ n
        rw [xs_skip (fun i => V i && Z i x y) (i0 := i0) (by omega), e2]
        simp
  refine ⟨m + 1, fun i => if i < m then Z i else sU Z (fun _ => true) m, fun i hi => ?_, fun x y i hi hZ => ?_, fun X hX => ?_, fun U hU => ?_⟩
  · dsimp only
    split
    · exact h1 i (by assumption)
    · exact sU_ev fun k hk _ => h1 k hk
  · dsimp only at hZ ⊢
    have hsum2 : ∀ i j, i < m → j < m → i ≠ j → Z i x y = true → Z j x y = true → sU Z (fun _ => true) m x y = false := fun i j hi hj hne a b => by
      show xs _ m = false
      rw [xs_two hi hj hne (fun k hk n1 n2 => by
        cases e : Z k x y with
        | false => simp
        | true => rcases two2_of h2 hi hj hk a b e with q | q | q <;> omega), a, b]
      rfl
    by_cases him : i < m
    · rw [if_pos him] at hZ
      by_cases hj : ∃ j, j < m ∧ j ≠ i ∧ Z j x y = true
      · obtain ⟨j, hj, hne, hjZ⟩ := hj
        refine ⟨j, by omega, hne, by rw [if_pos hj]; exact hjZ, fun k hk q => ?_⟩
        split at q
        · rcases two2_of h2 him hj (by assumption) hZ hjZ q with z | z | z <;> omega
        · rw [hsum2 i j him hj (fun z => hne z.symm) hZ hjZ] at q
          cases q
      · refine ⟨m, by omega, by omega, ?_, fun k hk q => ?_⟩
        · rw [if_neg (Nat.lt_irrefl m)]
          show xs _ m = true
          rw [xs_one him (fun k hk n => by
            cases e : Z k x y with
            | false => simp
            | true => exact absurd ⟨k, hk, n, e⟩ hj), hZ]
          rfl
        · split at q
          · next hkm =>
            refine Or.inl (Classical.byContradiction fun n => hj ⟨k, hkm, n, q⟩)
          · exact Or.inr (by omega)
    · rw [if_neg him] at hZ
      have him2 : i = m := by omega
      obtain ⟨j, hj, hjZ⟩ := xs_ex (f := fun i => true && Z i x y) hZ
      rw [Bool.true_and] at hjZ
      refine ⟨j, by omega, by omega, by rw [if_pos hj]; exact hjZ, fun k hk q => ?_⟩
      split at q
      · next hkm =>
        refine Or.inr (Classical.byContradiction fun n => ?_)
        rw [hsum2 k j hkm hj n q hjZ] at hZ
        cases hZ
      · exact Or.inl (by omega)
  · obtain ⟨U, hU⟩ := h3 X hX
    refine ⟨fun i => decide (i < m) && U i, ?_⟩
    rw [hU]
    funext x y
    have e0 : ((decide (m < m) && U m) && (if m < m then Z m else sU Z (fun _ => true) m) x y) = false := by rw [decide_eq_false (Nat.lt_irrefl m)]; simp
    show xs _ m = (xs (fun i => (decide (i < m) && U i) && (if i < m then Z i else sU Z (fun _ => true) m) x y) m ^^ ((decide (m < m) && U m) && (if m < m then Z m else sU Z (fun _ => true) m) x y))
    rw [e0, Bool.xor_false]
    exact xs_ext fun i hi => by rw [if_pos hi, decide_eq_true hi, Bool.true_and]
  · have e : sU (fun i => if i < m then Z i else sU Z (fun _ => true) m) U (m + 1) = sU Z (fun i => U i ^^ U m) m := by
      rw [sU_xor]
      funext x y
      show (xs _ m ^^ (U m && (if m < m then Z m else sU Z (fun _ => true) m) x y)) = (xs _ m ^^ xs _ m)
      rw [if_neg (Nat.lt_irrefl m), xs_and, xs_ext (f := fun i => U i && (if i < m then Z i else sU Z (fun _ => true) m) x y) (g := fun i => U i && Z i x y) (fun i hi => by rw [if_pos hi])]
      show (_ ^^ (U m && xs _ m)) = _
      simp only [Bool.true_and]
    rw [e] at hU
    have hk : ∀ i, i < m + 1 → U i = U m := fun i hi => by
      by_cases him : i < m
      · have := hind _ hU i him
        revert this
        cases U i <;> cases U m <;> simp
      · have : i = m := by omega
        rw [this]
    intro i j hi hj
    rw [hk i hi, hk j hj]
theorem BIC_gok {G : xG} {S : Nat → Bool} (hb : BIC G S) : gok G := ⟨hb.1, hb.2.1, fun u v h => ⟨(hb.2.2.1 u v h).1, (hb.2.2.1 u v h).2.1⟩⟩
theorem ne_edge {G : xG} (hg : gok G) {x y : Nat} (h : G x y = true) : x ≠ y := fun e => by rw [e, hg.2.1] at h; cases h
theorem third10 (x y : Nat) : ∃ u, u < 10 ∧ u ≠ x ∧ u ≠ y := by
  by_cases h0 : 0 ≠ x ∧ 0 ≠ y
  · exact ⟨0, by omega, h0⟩
  · by_cases h1 : 1 ≠ x ∧ 1 ≠ y
    · exact ⟨1, by omega, h1⟩
    · exact ⟨2, by omega, by omega, by omega⟩
theorem BIC_con {G : xG} {S : Nat → Bool} (hb : BIC G S) (hS : ∀ v, S v = true → v < 10) {x y : Nat} (hx : S x = true) (hy : S y = true) : con G S x y := by
  obtain ⟨u, hu, h1, h2⟩ := third10 x y
  exact con_mono (fun v _ h => by rw [Bool.and_eq_true] at h; exact h.1) (hS x hx) (hS y hy) (hb.2.2.2 x y u (hS x hx) (hS y hy) hu hx hy (fun e => h1 e.symm) (fun e => h2 e.symm))
/-- an even set that passes a vertex by two given edges -/
theorem ev_two {G : xG} {S : Nat → Bool} (hb : BIC G S) {w y y' : Nat} (h1 : G w y = true) (h2 : G w y' = true) (hne : y ≠ y') : ∃ X, ev G X ∧ ∀ z, X w z = (decide (z = y) ^^ decide (z = y')) := by
  have hg := BIC_gok hb
  obtain ⟨hw, hy, hSw, hSy⟩ := hb.2.2.1 w y h1
  obtain ⟨_, hy', _, hSy'⟩ := hb.2.2.1 w y' h2
  have n1 := ne_edge hg h1
  have n2 := ne_edge hg h2
  obtain ⟨X, c1, c2⟩ := con_chain hg hy hy' (hb.2.2.2 y y' w hy hy' hw hSy hSy' (fun e => n1 e.symm) (fun e => n2 e.symm))
  have hw0 : ∀ z, X w z = false := fun z => by
    cases e : X w z with
    | false => rfl
    | true =>
      have := (bH_iff.mp (c1.2 w z e)).2.1
      rw [Bool.and_eq_true, but_iff] at this
      exact absurd rfl this.2
  refine ⟨xr X (xr (eg w y) (eg w y')), ⟨ch_xr (ch_mono (fun a b q => (bH_iff.mp q).1) c1) (ch_xr (ch_eg hg.1 h1) (ch_eg hg.1 h2)), fun v _ => ?_⟩, fun z => ?_⟩
  · rw [od_xr, od_xr, c2, od_eg hw hy n1, od_eg hw hy' n2]
    cases decide (v = y) <;> cases decide (v = y') <;> cases decide (v = w) <;> rfl
  · simp only [xr, hw0, eg, decide_true, Bool.true_and, Bool.false_xor, decide_eq_false n1, decide_eq_false n2, Bool.false_and, Bool.or_false]
/-- what every member of the family meets evenly around a vertex is all or nothing there -/
theorem LF {G : xG} {S : Nat → Bool} (hb : BIC G S) {m : Nat} {Z : Nat → xG} (hgen : ∀ X, ev G X → ∃ U, X = sU Z U m) {w : Nat} {D : Nat → Bool} (hD : ∀ i, i < m → xs (fun y => Z i w y && D y) 10 = false) {y y' : Nat} (h1 : G w y = true) (h2 : G w y' = true) : D y = D y' := by
  by_cases hne : y = y'
  · rw [hne]
  · obtain ⟨X, hX, hz⟩ := ev_two hb h1 h2 hne
    obtain ⟨U, hU⟩ := hgen X hX
    have e1 : xs (fun z => X w z && D z) 10 = false := by
      rw [hU, sU_lin]
      exact xs_0 fun i hi => by rw [hD i hi]; simp
    have hy := (hb.2.2.1 w y h1).2.1
    have hy' := (hb.2.2.1 w y' h2).2.1
    rw [xs_two hy hy' hne (fun z _ n1 n2 => by rw [hz]; simp [n1, n2]), hz, hz] at e1
    have hne2 : ¬ y' = y := fun e => hne e.symm
    simp [hne, hne2] at e1
    exact e1
theorem cov {G : xG} {S : Nat → Bool} (hb : BIC G S) {m : Nat} {Z : Nat → xG} (hgen : ∀ X, ev G X → ∃ U, X = sU Z U m) {w y y' : Nat} (h1 : G w y = true) (h2 : G w y' = true) (hne : y ≠ y') : ∃ i, i < m ∧ Z i w y = true := by
  obtain ⟨X, hX, hz⟩ := ev_two hb h1 h2 hne
  obtain ⟨U, hU⟩ := hgen X hX
  have : X w y = true := by rw [hz]; simp [hne]
  rw [hU] at this
  obtain ⟨i, hi, h⟩ := xs_ex this
  rw [Bool.and_eq_true] at h
  exact ⟨i, hi, h.2⟩
/-- where a third vertex is, each vertex of a block has a second neighbor -/
theorem deg_two {G : xG} {S : Nat → Bool} (hb : BIC G S) {w y z : Nat} (h1 : G w y = true) (hz : z < 10) (hS : S z = true) (n1 : z ≠ w) (n2 : z ≠ y) : ∃ y', G w y' = true ∧ y' ≠ y := by
  obtain ⟨hw, hy, hSw, hSy⟩ := hb.2.2.1 w y h1
  have n3 := ne_edge (BIC_gok hb) h1
  have hc := hb.2.2.2 w z y hw hz hy hSw hS n3 n2
  have : z = w ∨ ∃ y', G w y' = true ∧ y' ≠ y := con_ind (G := G) (x := w) (fun v => v = w ∨ ∃ y', G w y' = true ∧ y' ≠ y) (fun _ => Or.inl rfl) (fun u v _ hv hp hg hA => by
    rcases hp with e | e
    · rw [e] at hg
      rw [Bool.and_eq_true, but_iff] at hA
      exact Or.inr ⟨v, hg, hA.2⟩
    · exact Or.inr e) hz hc
  rcases this with e | e
  · exact absurd e n1
  · exact e
/-- a function of the edges that is the same around each vertex is the same everywhere -/
theorem edge_const {G : xG} {S : Nat → Bool} (hb : BIC G S) (hS : ∀ v, S v = true → v < 10) {L : xG} (hL : ∀ x y, L x y = L y x) (h : ∀ w y y', G w y = true → G w y' = true → L w y = L w y') {a b c d : Nat} (h1 : G a b = true) (h2 : G c d = true) : L a b = L c d := by
  obtain ⟨ha, _, hSa, _⟩ := hb.2.2.1 a b h1
  obtain ⟨hc, _, hSc, _⟩ := hb.2.2.1 c d h2
  have key : ∀ y, G c y = true → L c y = L a b := con_ind (G := G) (A := S) (x := a) (fun v => ∀ y, G v y = true → L v y = L a b) (fun _ y q => h a y b q h1) (fun u v _ _ hp hg _ y q => by
    rw [h v y u q (by rw [hb.1]; exact hg), hL]
    exact hp v hg) hc (BIC_con hb hS hSa hSc)
  exact (key d h2).symm
/-- a member of a strong family has no even part -/
theorem FS_cir {G : xG} {S : Nat → Bool} (hb : BIC G S) (hS : ∀ v, S v = true → v < 10) {m : Nat} {Z : Nat → xG} (hF : FS G m Z) {i : Nat} (hi : i < m) {Y : xG} (hY : ev G Y) (hsub : ∀ x y, Y x y = true → Z i x y = true) : Y = x0 ∨ Y = Z i := by
  obtain ⟨f1, f2, f3, f4⟩ := hF
  obtain ⟨U, hU, hUi⟩ : ∃ U, Y = sU Z U m ∧ U i = false := by
    obtain ⟨U, hU⟩ := f3 Y hY
    cases e : U i with
    | false => exact ⟨U, hU, e⟩
    | true => exact ⟨fun i => !U i, by rw [sU_compl f2]; exact hU, by show (!U i) = false; rw [e]; rfl⟩
  have hg := BIC_gok hb
  let L : xG := fun x y => anyv (fun k => U k && Z k x y) m
  have hLi : ∀ x y, L x y = true ↔ ∃ k, k < m ∧ U k = true ∧ Z k x y = true := fun x y => by
    show anyv _ m = true ↔ _
    rw [anyv_iff]
    simp only [Bool.and_eq_true]
  have hLs : ∀ x y, L x y = L y x := fun x y => by
    rw [Bool.eq_iff_iff, hLi, hLi]
    constructor <;> rintro ⟨k, a, b, c⟩ <;> exact ⟨k, a, b, by rw [(f1 k a).1.1]; exact c⟩
  -- along Z i, to be labelled is to be of Y
  have hLY : ∀ x y, Z i x y = true → L x y = Y x y := fun x y h => by
    obtain ⟨j, hj, hne, hjZ, hu⟩ := f2 x y i hi h
    rw [hU, tw_sum U hi hj hne h hjZ hu, hUi, Bool.false_xor, Bool.eq_iff_iff, hLi]
    constructor
    · rintro ⟨k, a, b, c⟩
      rcases hu k a c with e | e
      · rw [e, hUi] at b; cases b
      · rw [← e]; exact b
    · exact fun q => ⟨j, hj, q, hjZ⟩
  have hLk : ∀ k, k < m → k ≠ i → ∀ x y, Z k x y = true → L x y = U k := fun k hk hne x y h => by
    cases e : U k with
    | true => exact (hLi x y).mpr ⟨k, hk, e, h⟩
    | false =>
      cases eL : L x y with
      | false => rfl
      | true =>
        exfalso
        obtain ⟨l, hl, q1, q2⟩ := (hLi x y).mp eL
        have hlk : l ≠ k := fun z => by rw [z, e] at q1; cases q1
        obtain ⟨j, hj, hjne, hjZ, hu⟩ := f2 x y k hk h
        have hlj : l = j := by rcases hu l hl q2 with z | z; exact absurd z hlk; exact z
        subst hlj
        have hYx : Y x y = true := by rw [hU, tw_sum U hk hl hlk h q2 hu, e, q1]; rfl
        rcases hu i hi (hsub x y hYx) with z | z
        · exact hne z.symm
        · rw [← z, hUi] at q1; cases q1
  have hconst := fun w y y' => LF hb f3 (w := w) (D := L w) (y := y) (y' := y') (fun k hk => by
    by_cases hki : k = i
    · subst hki
      rw [xs_ext (g := fun y => Y w y) (fun y _ => ?_)]
      · by_cases hw : w < 10
        · exact hY.2 w hw
        · exact xs_0 fun y _ => by
            cases e : Y w y with
            | false => rfl
            | true => exact absurd (hg.2.2 w y (hY.1.2 w y e)).1 hw
      · cases e : Z k w y with
        | true => rw [Bool.true_and]; exact hLY w y e
        | false =>
          cases e2 : Y w y with
          | false => rfl
          | true => rw [hsub w y e2] at e; cases e
    · rw [xs_ext (g := fun y => U k && Z k w y) (fun y _ => ?_), xs_and]
      · by_cases hw : w < 10
        · have : xs (fun y => Z k w y) 10 = false := (f1 k hk).2 w hw
          rw [this]; simp
        · rw [xs_0 (fun y _ => ?_)]
          · simp
          · cases e : Z k w y with
            | false => rfl
            | true => exact absurd (hg.2.2 w y ((f1 k hk).1.2 w y e)).1 hw
      · cases e : Z k w y with
        | true => rw [Bool.true_and, hLk k hk hki w y e]; simp
        | false => simp)
  by_cases h0 : ∃ x y, Y x y = true
  · obtain ⟨a, b, hab⟩ := h0
    refine Or.inr ?_
    funext x y
    cases e : Z i x y with
    | false =>
      cases e2 : Y x y with
      | false => rfl
      | true => rw [hsub x y e2] at e; cases e
    | true =>
      have := edge_const hb hS hLs hconst ((f1 i hi).1.2 x y e) (hY.1.2 a b hab)
      rw [← hLY x y e, this, hLY a b (hsub a b hab)]
      exact hab
  · refine Or.inl ?_
    funext x y
    cases e : Y x y with
    | false => rfl
    | true => exact absurd ⟨x, y, e⟩ h0
/-- an even set holds a cycle through each of its edges -/
theorem ev_cyc {G X : xG} (hg : gok G) (hX : ev G X) {a b : Nat} (hab : X a b = true) : ∃ c : List Nat, c.Nodup ∧ 3 ≤ c.length ∧ (∀ z ∈ c, z < 10) ∧ (∀ x y, eSQ c x y = true → X x y = true) ∧ eSQ c a b = true := by
  have hgX := gok_ch hg hX.1
  obtain ⟨ha, hb⟩ := hgX.2.2 a b hab
  have hne := ne_edge hgX hab
  have hch : ch X (rm X a b) := ⟨fun x y => by unfold rm; rw [hX.1.1 x y, eg_sym], fun x y q => (rm_iff.mp q).1⟩
  have he : rm X a b = xr X (eg a b) := by
    funext x y
    show (X x y && !eg a b x y) = (X x y ^^ eg a b x y)
    cases e : eg a b x y with
    | false => simp
    | true =>
      have : X x y = true := by
        rcases eg_iff.mp e with ⟨rfl, rfl⟩ | ⟨rfl, rfl⟩
        · exact hab
        · rw [hX.1.1]; exact hab
      rw [this]; rfl
  have hod : ∀ v, v < 10 → od (rm X a b) v = (decide (v = a) ^^ decide (v = b)) := fun v hv => by
    rw [he, od_xr, hX.2 v hv, od_eg ha hb hne, Bool.false_xor]
  have hg2 := gok_ch hgX hch
  obtain ⟨c, hc, hcb, hco, hcon⟩ := od_mate hgX hch hb (by rw [hod b hb]; have hne2 : ¬ b = a := fun e => hne e.symm; simp [hne2])
  have hca : c = a := by
    rw [hod c hc] at hco
    by_cases e : c = a
    · exact e
    · rw [decide_eq_false e, decide_eq_false hcb] at hco; cases hco
  subst hca
  obtain ⟨L, ⟨p1, p2, p3⟩, p4⟩ := con_PA hb hc hcon
  match L, p1, p2, p3, p4 with
  | [], _, _, _, p4 => simp at p4; exact absurd p4.symm hne.symm
  | [z], _, _, p3, p4 =>
    have hz : z = b := by simpa using p4
    subst hz
    have := p3 (z, c) (by simp [pd])
    have h2 := (rm_iff.mp this).2
    rw [show eg c z z c = true from eg_iff.mpr (Or.inr ⟨rfl, rfl⟩)] at h2
    cases h2
  | z :: y :: t, p1, p2, p3, p4 =>
    have hz : z = b := by simpa using p4
    subst hz
    have e0 : z :: y :: t ++ [c] = z :: (y :: t) ++ c :: [] := rfl
    have hdt : dts (z :: (y :: t) ++ c :: []) = pd (z :: (y :: t) ++ [c]) ++ pd (c :: [] ++ [z]) := dts_two z (y :: t) c []
    have hmem : ∀ q, q ∈ dts (z :: y :: t ++ [c]) → X q.1 q.2 = true := fun q hq => by
      rw [e0, hdt] at hq
      rcases List.mem_append.mp hq with h | h
      · exact (rm_iff.mp (p3 q h)).1
      · have : q = (c, z) := by simpa [pd] using h
        rw [this]; exact hab
    refine ⟨z :: y :: t ++ [c], p1, by simp, fun v hv => (p2 v hv).1, fun x y' h => ?_, eS_iff.mpr (Or.inl ?_)⟩
    · rcases eS_iff.mp h with h | h
      · exact hmem _ h
      · rw [hX.1.1]; exact hmem _ h
    · rw [e0, hdt]
      exact List.mem_append_right _ (by simp [pd])
theorem ev_eS {G : xG} (hs : ∀ x y, G x y = G y x) {c : List Nat} (h : c.Nodup) (h3 : 3 ≤ c.length) (h10 : ∀ z ∈ c, z < 10) (hG : ∀ q ∈ dts c, G q.1 q.2 = true) : ev G (eSQ c) := by
  refine ⟨⟨eS_sym c, fun x y q => ?_⟩, fun v _ => od_eS h h3 h10 v⟩
  rcases eS_iff.mp q with q | q
  · exact hG _ q
  · rw [hs]; exact hG _ q
/-- a member of a strong family is a cycle -/
theorem FS_cyc {G : xG} {S : Nat → Bool} (hb : BIC G S) (hS : ∀ v, S v = true → v < 10) {m : Nat} {Z : Nat → xG} (hF : FS G m Z) {i : Nat} (hi : i < m) {a b : Nat} (hab : Z i a b = true) : ∃ c : List Nat, c.Nodup ∧ 3 ≤ c.length ∧ (∀ z ∈ c, z < 10) ∧ Z i = eSQ c := by
  have hg := BIC_gok hb
  obtain ⟨c, c1, c2, c3, c4, c5⟩ := ev_cyc hg (hF.1 i hi) hab
  refine ⟨c, c1, c2, c3, ?_⟩
  rcases FS_cir hb hS hF hi (Y := eSQ c) (ev_eS hg.1 c1 c2 c3 (fun q hq => (hF.1 i hi).1.2 _ _ (c4 _ _ (eS_iff.mpr (Or.inl hq))))) c4 with e | e
  · rw [e] at c5; cases c5
  · exact e.symm
