/-! a least graph without a weak family: one block, and an ear beside what has one -/
theorem min_block {F : xG} (hg : gok F) (hno : ¬PW F) (hmin : ∀ a b, F a b = true → PW (rm F a b)) : ∃ S, BIC F S ∧ (∀ v, S v = true → v < 10) ∧ 2 ≤ ec F ∧ ∀ v, S v = true → ∃ y, F v y = true := by
  obtain ⟨p, hp, hpn⟩ := no_PW hg hno
  have hb := bS_bic hg hp
  have heq : bH F (bS F p) = F := by
    funext x y
    cases h : F x y with
    | false => unfold bH; rw [h]; rfl
    | true =>
      cases h2 : bH F (bS F p) x y with
      | true => rfl
      | false =>
        exfalso
        have hgr : gok (rm F x y) := ⟨fun a b => by unfold rm; rw [hg.1 a b, eg_sym], fun v => by unfold rm; rw [hg.2.1]; rfl, fun a b q => hg.2.2 a b (rm_iff.mp q).1⟩
        refine hpn (PW_mono hgr hb.1 (fun a b q => rm_iff.mpr ⟨(bH_iff.mp q).1, ?_⟩) (hmin x y h))
        cases e : eg x y a b with
        | false => rfl
        | true =>
          rcases eg_iff.mp e with ⟨rfl, rfl⟩ | ⟨rfl, rfl⟩
          · rw [h2] at q; cases q
          · rw [hb.1, h2] at q; cases q
  have h1 := bE_pos hg hp
  have hn1 : bE F p ≠ 1 := fun e => hpn (PW_one hb e (fun v => bS_one hg hp e v))
  unfold bE at h1 hn1
  rw [heq] at h1 hn1 hb
  refine ⟨bS F p, hb, fun v hv => (bS_iff.mp hv).1, by omega, fun v hv => ?_⟩
  obtain ⟨w, hw⟩ := bS_edge hg hp hv
  exact ⟨w, (bH_iff.mp hw).1⟩
/-- a part in one piece without any one vertex, with three vertices -/
def ESt (F : xG) (S : Nat → Bool) (P : xG) (PV : Nat → Bool) : Prop := BIC P PV ∧ (∀ x y, P x y = true → F x y = true) ∧ (∀ v, PV v = true → S v = true) ∧ ∃ a b d, PV a = true ∧ PV b = true ∧ PV d = true ∧ a ≠ b ∧ a ≠ d ∧ b ≠ d
def EAR (F : xG) (S : Nat → Bool) (P : xG) (PV : Nat → Bool) (u : Nat) (inn : List Nat) (w : Nat) : Prop := (u :: inn ++ [w]).Nodup ∧ (PV u = true ∧ PV w = true) ∧ (∀ p ∈ inn, p < 10 ∧ PV p = false ∧ S p = true) ∧ ∀ e ∈ pd (u :: inn ++ [w]), F e.1 e.2 = true ∧ P e.1 e.2 = false
theorem FOK_ex {F : xG} {S : Nat → Bool} {P : xG} {PV : Nat → Bool} (hb : BIC F S) (hsP : ∀ x y, P x y = P y x) {x y : Nat} (h : F x y = true) (hP : P x y = false) : ∃ q, FOK F S P PV q := by
  obtain ⟨hx, hy, hSx, hSy⟩ := hb.2.2.1 x y h
  cases ex : PV x with
  | false => exact ⟨(_, _), Or.inr ⟨x, hx, hSx, ex, rfl, rfl⟩⟩
  | true =>
    cases ey : PV y with
    | false => exact ⟨(_, _), Or.inr ⟨y, hy, hSy, ey, rfl, rfl⟩⟩
    | true =>
      rcases Nat.lt_trichotomy x y with q | q | q
      · exact ⟨(0, mk (two x y)), Or.inl ⟨rfl, x, y, q, hy, h, hP, ex, ey, rfl⟩⟩
      · rw [q, hb.2.1] at h; cases h
      · exact ⟨(0, mk (two y x)), Or.inl ⟨rfl, y, x, q, hx, by rw [hb.1]; exact h, by rw [hsP]; exact hP, ey, ex, rfl⟩⟩
section
variable {F : xG} {S : Nat → Bool}
theorem ear_one (hb : BIC F S) (hS : ∀ v, S v = true → v < 10) {P : xG} {PV : Nat → Bool} (hE : ESt F S P PV) {q : xFr} (hq : FOK F S P PV q) : ∃ u inn w, PTH F S P PV q u inn w ∧ EAR F S P PV u inn w := by
  obtain ⟨hB, hPF, hPS, a, b, d, ha, hb2, hd, n1, n2, n3⟩ := hE
  obtain ⟨u, inn, w, hp⟩ := pth_ok hb hS (fun x y h => (hB.2.2.1 x y h).2.2) hPS ⟨a, b, n1, ha, hb2⟩ hq
  obtain ⟨p1, p2, p3, p4, p5, p6, p7, p8, p9, p10, p11, p12⟩ := id hp
  have hct : ∀ v, v < 10 → tb q.2 v = true → PV v = true := fun v hv ht => by
    rcases hq with ⟨_, c, e, hce, he10, _, _, h1, h2, h3⟩ | ⟨x, _, hSx, hPx, e1, e2⟩
    · rw [h3, two_mk (by omega) he10] at ht
      rcases two_iff.mp ht with e | e <;> rw [e] <;> assumption
    · rw [(FOK_cmp (G := F) hS hPS hSx hPx e1 e2).2.1] at ht
      unfold ctc at ht
      rw [Bool.and_eq_true] at ht
      exact ht.2
  have hu := hct u p3 p6
  have hw := hct w p4 p7
  refine ⟨u, inn, w, hp, ?_, ⟨hu, hw⟩, p9, p10⟩
  have h1 : (u :: inn).Nodup := List.nodup_cons.mpr ⟨(fun e => by
    have := (p9 u e).2.1
    rw [hu] at this
    cases this), p8⟩
  refine List.nodup_append.mpr ⟨h1, by simp, fun a ha b hb2 e => ?_⟩
  rw [List.mem_singleton] at hb2
  subst hb2; subst e
  rcases List.mem_cons.mp ha with e | e
  · exact p5 e.symm
  · have := (p9 a e).2.1
    rw [hw] at this
    cases this
theorem ear_next (hb : BIC F S) (hS : ∀ v, S v = true → v < 10) {P : xG} {PV : Nat → Bool} {u w : Nat} {inn : List Nat} (hE : ESt F S P PV) (hA : EAR F S P PV u inn w) : ESt F S (addP P (u :: inn ++ [w])) (addV PV inn) := by
  obtain ⟨hB, hPF, hPS, a, b, d, ha, hb2, hd, n1, n2, n3⟩ := hE
  obtain ⟨a1, a2, a3, a4⟩ := hA
  refine ⟨BIC_ear hB (fun v hv => hS v (hPS v hv)) a1 a2.1 a2.2 (fun p hp => (a3 p hp).1), fun x y h => ?_, fun v hv => ?_, a, b, d, addV_iff.mpr (Or.inl ha), addV_iff.mpr (Or.inl hb2), addV_iff.mpr (Or.inl hd), n1, n2, n3⟩
  · rcases addP_iff.mp h with g | g | g
    · exact hPF x y g
    · exact (a4 _ g).1
    · rw [hb.1]; exact (a4 _ g).1
  · rcases addV_iff.mp hv with g | g
    · exact hPS v g
    · exact (a3 v g).2.2
theorem ear_loop (hb : BIC F S) (hS : ∀ v, S v = true → v < 10) : ∀ (n : Nat) (P : xG) (PV : Nat → Bool), ESt F S P PV → (∃ x y, F x y = true ∧ P x y = false) → dif F P ≤ n →
    ∃ P PV u inn w, ESt F S P PV ∧ EAR F S P PV u inn w ∧ ∀ x y, F x y = addP P (u :: inn ++ [w]) x y := by
  intro n
  induction n with
  | zero =>
    intro P PV hE hex hd
    exfalso
    obtain ⟨x, y, h, hP⟩ := hex
    obtain ⟨hx, hy, _⟩ := hb.2.2.1 x y h
    have h1 : sm (fun _ => 0) 10 < dif F P := sm_lt (fun i _ => Nat.zero_le _) ⟨x, hx, Nat.lt_of_le_of_lt (Nat.zero_le (cnt (fun _ => false) 10)) (cnt_lt (S := fun _ => false) (fun v _ q => by cases q) ⟨y, hy, rfl, by rw [h, hP]; rfl⟩)⟩
    omega
  | succ n ih =>
    intro P PV hE hex hd
    obtain ⟨x, y, h, hP⟩ := hex
    obtain ⟨q, hq⟩ := FOK_ex (PV := PV) hb hE.1.1 h hP
    obtain ⟨u, inn, w, _, hA⟩ := ear_one hb hS hE hq
    have hE' := ear_next hb hS hE hA
    by_cases hall : ∃ x y, F x y = true ∧ addP P (u :: inn ++ [w]) x y = false
    · refine ih _ _ hE' hall ?_
      obtain ⟨a1, D, ha⟩ := cons_ex inn w
      have hpd := pd_head (u := u) ha
      have he := hA.2.2.2 _ hpd
      obtain ⟨hu10, ha10, _⟩ := hb.2.2.1 u a1 he.1
      have hlt : dif F (addP P (u :: inn ++ [w])) < dif F P := by
        have mono : ∀ i v, (F i v && !addP P (u :: inn ++ [w]) i v) = true → (F i v && !P i v) = true := fun i v q => by
          rw [Bool.and_eq_true, Bool.not_eq_true'] at q ⊢
          refine ⟨q.1, ?_⟩
          cases e : P i v with
          | false => rfl
          | true => rw [addP_iff.mpr (Or.inl e)] at q; cases q.2
        refine sm_lt (fun i _ => cnt_mono fun v _ q => mono i v q) ⟨u, hu10, cnt_lt (fun v _ q => mono u v q) ⟨a1, ha10, ?_, by rw [he.1, he.2]; rfl⟩⟩
        rw [addP_iff.mpr (Or.inr (Or.inl hpd))]
        simp
      omega
    · refine ⟨P, PV, u, inn, w, hE, hA, fun x y => ?_⟩
      rw [Bool.eq_iff_iff]
      constructor
      · intro hF
        cases e : addP P (u :: inn ++ [w]) x y with
        | true => rfl
        | false => exact absurd ⟨x, y, hF, e⟩ hall
      · exact hE'.2.1 x y
/-- the least graph is an ear and a part with a strong family -/
theorem min_ear (hb : BIC F S) (hS : ∀ v, S v = true → v < 10) (he : 2 ≤ ec F) (hno : ¬PW F) (hmin : ∀ a b, F a b = true → PW (rm F a b)) : ∃ P PV u inn w, ESt F S P PV ∧ EAR F S P PV u inn w ∧ (∀ x y, F x y = addP P (u :: inn ++ [w]) x y) ∧ PW P := by
  obtain ⟨a, b, inn0, _, _, _, _, _, _, _, _, _, _, hn, hm, hd, hE⟩ := cyc0_ok hb hS he
  have h3 : 3 ≤ (cyc0 F S).length := (hE.1.2.2.2.1 (cyc0 F S) (by show _ ∈ [_, _]; exact List.mem_cons_self)).2.1
  have h10 : ∀ z ∈ cyc0 F S, z < 10 := fun z hz => (hm z hz).1
  have hB := BIC_cycle hn h3 h10
  have hsub : ∀ x y, eSQ (cyc0 F S) x y = true → F x y = true := fun x y h => by
    rcases eS_iff.mp h with g | g
    · exact hd _ g
    · rw [hb.1]; exact hd _ g
  have hPWc : PW (eSQ (cyc0 F S)) := by
    have hI := INV_cycle (H := eSQ (cyc0 F S)) (S := fun v => decide (v ∈ cyc0 F S)) (eS_sym _) hn h3 (fun v hv => ⟨h10 v hv, decide_eq_true hv⟩) (fun q hq => eS_iff.mpr (Or.inl hq))
    exact FS_PW (FZ_FS (P := eSQ (cyc0 F S)) (fun v hv => h10 v (of_decide_eq_true hv)) hI (GR_cycle hn h3 h10))
  have hE0 : ESt F S (eSQ (cyc0 F S)) (fun v => decide (v ∈ cyc0 F S)) := by
    refine ⟨hB, hsub, fun v hv => (hm v (of_decide_eq_true hv)).2, ?_⟩
    match cyc0 F S, hn, h3 with
    | a :: b :: d :: t, hn, _ =>
      simp only [List.nodup_cons, List.mem_cons, not_or] at hn
      exact ⟨a, b, d, by simp, by simp, by simp, hn.1.1, hn.1.2.1, hn.2.1.1⟩
  have hex : ∃ x y, F x y = true ∧ eSQ (cyc0 F S) x y = false := Classical.byContradiction fun hno2 => hno (PW_ext (fun x y => by
    cases e : eSQ (cyc0 F S) x y with
    | true => exact (hsub x y e).symm
    | false =>
      cases e2 : F x y with
      | false => rfl
      | true => exact absurd ⟨x, y, e2, e⟩ hno2) hPWc)
  obtain ⟨P, PV, u, inn, w, h1, h2, h4⟩ := ear_loop hb hS _ _ _ hE0 hex (Nat.le_refl _)
  refine ⟨P, PV, u, inn, w, h1, h2, h4, ?_⟩
  obtain ⟨a1, D, ha⟩ := cons_ex inn w
  have hpd := pd_head (u := u) ha
  have he1 := h2.2.2.2 _ hpd
  have hg := BIC_gok hb
  refine PW_mono (G := rm F u a1) ⟨fun x y => by unfold rm; rw [hg.1 x y, eg_sym], fun v => by unfold rm; rw [hg.2.1]; rfl, fun x y q => hg.2.2 x y (rm_iff.mp q).1⟩ h1.1.1 (fun x y q => rm_iff.mpr ⟨h1.2.1 x y q, ?_⟩) (hmin u a1 he1.1)
  cases e : eg u a1 x y with
  | false => rfl
  | true =>
    rcases eg_iff.mp e with ⟨rfl, rfl⟩ | ⟨rfl, rfl⟩
    · rw [he1.2] at q; cases q
    · rw [h1.1.1, he1.2] at q; cases q
end
/-- where the ends of the ear lie on one face the whole has a weak family -/
theorem cofacial {P : xG} {PV : Nat → Bool} (hB : BIC P PV) (hV : ∀ v, PV v = true → v < 10) {m : Nat} {Z : Nat → xG} (hF : FS P m Z) {u w : Nat} {inn : List Nat} (hn : (u :: inn ++ [w]).Nodup) (hi10 : ∀ p ∈ inn, p < 10 ∧ PV p = false) (hu : PV u = true) (hw : PV w = true) (hPQ : ∀ x y, ePQ (u :: inn ++ [w]) x y = true → P x y = false)
    {i y y' : Nat} (hi : i < m) (h1 : Z i u y = true) (h2 : Z i w y' = true) : PW (addP P (u :: inn ++ [w])) := by
  have hne : u ≠ w := fun e => (List.nodup_cons.mp (show (u :: (inn ++ [w])).Nodup from hn)).1 (by rw [e]; simp)
  obtain ⟨l, l1, l2, l3, l4⟩ := FS_cyc hB hV hF hi h1
  have hul : u ∈ l := by rw [l4] at h1; exact (eS_mem h1).1
  have hwl : w ∈ l := by rw [l4] at h2; exact (eS_mem h2).1
  have hC := BIC_cycle l1 l2 l3
  obtain ⟨K, k1, k2⟩ := con_chain (BIC_gok hC) (l3 u hul) (l3 w hwl) (BIC_con hC (fun v hv => l3 v (of_decide_eq_true hv)) (decide_eq_true hul) (decide_eq_true hwl))
  have k1' : ch (Z i) K := by rw [l4]; exact ch_mono (fun a b g => (bH_iff.mp g).1) k1
  have hKP : ch P K := ch_mono (fun a b g => (hF.1 i hi).1.2 a b g) k1'
  have h10 : ∀ z ∈ u :: inn ++ [w], z < 10 := fun z hz => by
    simp only [List.cons_append, List.mem_cons, List.mem_append, List.not_mem_nil, or_false] at hz
    rcases hz with e | e | e
    · rw [e]; exact hV u hu
    · exact (hi10 z e).1
    · rw [e]; exact hV w hw
  have hPA : ∀ x y, P x y = true → addP P (u :: inn ++ [w]) x y = true := fun x y h => addP_iff.mpr (Or.inl h)
  have hQA : ch (addP P (u :: inn ++ [w])) (ePQ (u :: inn ++ [w])) := ⟨eP_sym _, fun x y h => addP_iff.mpr (Or.inr (eP_iff.mp h))⟩
  have hKQ : ev (addP P (u :: inn ++ [w])) (xr K (ePQ (u :: inn ++ [w]))) := ⟨ch_xr (ch_mono hPA hKP) hQA, fun v _ => by rw [od_xr, k2, od_path hn h10]; simp⟩
  have hZi : ev (addP P (u :: inn ++ [w])) (Z i) := ev_mono hPA (hF.1 i hi)
  have hZQ : ∀ k, k < m → ∀ x y, ePQ (u :: inn ++ [w]) x y = true → Z k x y = false := fun k hk x y h => by
    cases e : Z k x y with
    | false => rfl
    | true => have := (hF.1 k hk).1.2 x y e; rw [hPQ x y h] at this; cases this
  have hKnQ : ∀ x y, ePQ (u :: inn ++ [w]) x y = true → K x y = false := fun x y h => by
    cases e : K x y with
    | false => rfl
    | true => have := hKP.2 x y e; rw [hPQ x y h] at this; cases this
  let N : Nat → xG := fun k => if k = m then xr (xr K (ePQ (u :: inn ++ [w]))) (Z i) else if k = i then xr K (ePQ (u :: inn ++ [w])) else Z k
  have hNm : N m = xr (xr K (ePQ (u :: inn ++ [w]))) (Z i) := if_pos rfl
  have hNi : N i = xr K (ePQ (u :: inn ++ [w])) := by show (if i = m then _ else _) = _; rw [if_neg (by omega), if_pos rfl]
  have hNk : ∀ k, k < m → k ≠ i → N k = Z k := fun k hk hki => by show (if k = m then _ else _) = _; rw [if_neg (by omega), if_neg hki]
  -- the sums
  have hsum : ∀ U, sU N U (m + 1) = xr (sU Z (fun k => if k = i then U m else U k) m) (fun x y => (U i ^^ U m) && xr K (ePQ (u :: inn ++ [w])) x y) := fun U => by
    funext x y
    show (xs (fun k => U k && N k x y) m ^^ (U m && N m x y)) = (xs (fun k => (if k = i then U m else U k) && Z k x y) m ^^ ((U i ^^ U m) && xr K (ePQ (u :: inn ++ [w])) x y))
    have e1 : xs (fun k => U k && N k x y) m = (xs (fun k => (if k = i then U m else U k) && Z k x y) m ^^ ((U m && Z i x y) ^^ (U i && xr K (ePQ (u :: inn ++ [w])) x y))) := by
      have a1 : xs (fun k => decide (k = i) && ((U m && Z i x y) ^^ (U i && xr K (ePQ (u :: inn ++ [w])) x y))) m = ((U m && Z i x y) ^^ (U i && xr K (ePQ (u :: inn ++ [w])) x y)) := by
        rw [xs_one hi (fun k _ n => by simp [n])]
        simp
      rw [← a1, ← xs_xor]
      refine xs_ext fun k hk => ?_
      by_cases e : k = i
      · subst e
        rw [hNi, if_pos rfl, decide_eq_true rfl]
        cases U k <;> cases U m <;> cases Z k x y <;> cases xr K (ePQ (u :: inn ++ [w])) x y <;> rfl
      · rw [hNk k hk e, if_neg e, decide_eq_false e]
        simp
    rw [e1, hNm]
    show (_ ^^ (U m && (xr K (ePQ (u :: inn ++ [w])) x y ^^ Z i x y))) = _
    cases xs (fun k => (if k = i then U m else U k) && Z k x y) m <;> cases U i <;> cases U m <;> cases Z i x y <;> cases xr K (ePQ (u :: inn ++ [w])) x y <;> rfl
  refine ⟨m + 1, N, fun k hk => ?_, two2_mk fun x y a b d ha hb hd q1 q2 q3 => ?_, fun X hX => ?_⟩
  · by_cases e : k = m
    · rw [e, hNm]; exact ev_xr hKQ hZi
    · by_cases e2 : k = i
      · rw [e2, hNi]; exact hKQ
      · rw [hNk k (by omega) e2]; exact ev_mono hPA (hF.1 k (by omega))
  · -- each member at an edge: of an ear's edge i and m alone; else K in i, the rest in m
    cases eQ : ePQ (u :: inn ++ [w]) x y with
    | true =>
      have only : ∀ k, k < m + 1 → N k x y = true → k = i ∨ k = m := fun k hk q => by
        by_cases e : k = m
        · exact Or.inr e
        · by_cases e2 : k = i
          · exact Or.inl e2
          · rw [hNk k (by omega) e2, hZQ k (by omega) x y eQ] at q; cases q
      rcases only a ha q1 with e1 | e1 <;> rcases only b hb q2 with e2 | e2 <;> rcases only d hd q3 with e3 | e3 <;> omega
    | false =>
      have hmi : N i x y = true → N m x y = true → False := fun r1 r2 => by
        rw [hNi] at r1
        rw [hNm] at r2
        simp only [xr, eQ, Bool.xor_false] at r1 r2
        rw [r1, k1'.2 x y r1] at r2
        cases r2
      have inZ : ∀ k, k < m + 1 → N k x y = true → (k = i ∨ k = m) ∧ Z i x y = true ∨ (k ≠ i ∧ k < m ∧ Z k x y = true) := fun k hk q => by
        by_cases e : k = m
        · left
          refine ⟨Or.inr e, ?_⟩
          rw [e, hNm] at q
          simp only [xr, eQ, Bool.xor_false] at q
          cases eK : K x y with
          | true => exact k1'.2 x y eK
          | false => rw [eK, Bool.false_xor] at q; exact q
        · by_cases e2 : k = i
          · left
            refine ⟨Or.inl e2, ?_⟩
            rw [e2, hNi] at q
            simp only [xr, eQ, Bool.xor_false] at q
            exact k1'.2 x y q
          · right
            rw [hNk k (by omega) e2] at q
            exact ⟨e2, by omega, q⟩
      have t2 := tw_two2 hF.2.1
      have hne2 : ∀ k l, (k = i ∨ k = m) → (l = i ∨ l = m) → N k x y = true → N l x y = true → k = l := fun k l hk hl r1 r2 => by
        rcases hk with e1 | e1 <;> rcases hl with e2 | e2
        · omega
        · rw [e1] at r1; rw [e2] at r2; exact (hmi r1 r2).elim
        · rw [e1] at r1; rw [e2] at r2; exact (hmi r2 r1).elim
        · omega
      rcases inZ a ha q1 with ⟨a1, a2⟩ | ⟨a0, a1, a2⟩ <;> rcases inZ b hb q2 with ⟨b1, b2⟩ | ⟨b0, b1, b2⟩ <;> rcases inZ d hd q3 with ⟨d1, d2⟩ | ⟨d0, d1, d2⟩
      · exact Or.inl (hne2 a b a1 b1 q1 q2)
      · exact Or.inl (hne2 a b a1 b1 q1 q2)
      · exact Or.inr (Or.inl (hne2 a d a1 d1 q1 q3))
      · rcases two2_of t2 hi b1 d1 a2 b2 d2 with e | e | e <;> omega
      · exact Or.inr (Or.inr (hne2 b d b1 d1 q2 q3))
      · rcases two2_of t2 hi a1 d1 b2 a2 d2 with e | e | e <;> omega
      · rcases two2_of t2 hi a1 b1 d2 a2 b2 with e | e | e <;> omega
      · exact two2_of t2 a1 b1 d1 a2 b2 d2
  · have hold : ∀ X, ev (addP P (u :: inn ++ [w])) X → (∀ x y, ePQ (u :: inn ++ [w]) x y = true → X x y = false) → ∃ U, X = sU N U (m + 1) := fun X hX hno => by
      have hXP : ev P X := ⟨⟨hX.1.1, fun x y q => by
        rcases addP_iff.mp (hX.1.2 x y q) with g | g
        · exact g
        · rw [hno x y (eP_iff.mpr g)] at q; cases q⟩, hX.2⟩
      obtain ⟨U, hU⟩ := hF.2.2.1 X hXP
      refine ⟨fun k => if k = m then U i else U k, ?_⟩
      have hc : sU Z (fun k => if k = i then U i else if k = m then U i else U k) m = sU Z U m := sU_ext fun k hk => by
        by_cases e : k = i
        · rw [if_pos e, e]
        · rw [if_neg e, if_neg (by omega)]
      rw [hsum, if_pos rfl, if_neg (by omega : ¬ i = m), hc, hU]
      funext x y
      simp [xr]
    obtain ⟨b, hb⟩ := path_all (PV := PV) (fun x y q => (hB.2.2.1 x y q).2.2.1) hn h10 (fun p hp => (hi10 p hp).2) hX
    cases b with
    | false => exact hold X hX hb
    | true =>
      obtain ⟨U, hU⟩ := hold (xr X (xr K (ePQ (u :: inn ++ [w])))) (ev_xr hX hKQ) (fun x y q => by
        show (X x y ^^ (K x y ^^ ePQ (u :: inn ++ [w]) x y)) = false
        rw [hb x y q, hKnQ x y q, q]; rfl)
      refine ⟨fun k => U k ^^ decide (k = i), ?_⟩
      rw [sU_xor, ← hU, sU_one (by omega), hNi, xr_assoc, xr_self, xr_0]
