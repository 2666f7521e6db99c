/-! all blocks: how many cycles there are -/
theorem cnt_incl (S T : Nat → Bool) : ∀ n, cnt (fun v => S v || T v) n + cnt (fun v => S v && T v) n = cnt S n + cnt T n
  | 0 => rfl
  | n + 1 => by
    have ih := cnt_incl S T n
    show (cnt _ n + (bif S n || T n then 1 else 0)) + (cnt _ n + (bif S n && T n then 1 else 0)) = (cnt S n + (bif S n then 1 else 0)) + (cnt T n + (bif T n then 1 else 0))
    cases S n <;> cases T n <;> simp only [Bool.or_false, Bool.or_true, Bool.and_true, Bool.and_false, cond_true, cond_false, Bool.or_self, Bool.and_self, Bool.true_or, Bool.false_or, Bool.true_and, Bool.false_and] <;> omega
theorem ec_add {A B : Nat → Nat → Bool} (h : ∀ x y, A x y = true → B x y = true → False) : ec (fun x y => A x y || B x y) = ec A + ec B := by
  unfold ec
  have : ∀ n, sm (fun x => cnt (fun y => A x y || B x y) x) n = sm (fun x => cnt (A x) x) n + sm (fun x => cnt (B x) x) n := by
    intro n
    induction n with
    | zero => rfl
    | succ n ih =>
      have h1 := cnt_incl (A n) (B n) n
      have h2 : cnt (fun y => A n y && B n y) n = 0 := by
        rw [cnt_ext (T := fun _ => false) (fun y _ => by
          cases e1 : A n y with
          | false => rfl
          | true =>
            cases e2 : B n y with
            | false => rfl
            | true => exact (h n y e1 e2).elim)]
        exact cnt_no n
      show sm _ n + cnt _ n = (sm _ n + cnt (A n) n) + (sm _ n + cnt (B n) n)
      omega
  exact this 10
theorem flt_take {G : Nat → Nat → Bool} {l : List xPr} (h : flt G l = true) (n : Nat) : flt G (l.take n) = true := by
  unfold flt at h ⊢
  rw [List.all_eq_true] at h ⊢
  exact fun p hp => h p (List.mem_of_mem_take hp)
theorem BOK_take {G : Nat → Nat → Bool} {l : List xPr} (h : BOK G l) (n : Nat) : BOK G (l.take n) := ⟨fun p hp => h.1 p (List.mem_of_mem_take hp), h.2.sublist (List.take_sublist n l)⟩
theorem ord_gL {G : Nat → Nat → Bool} (hg : gok G) {l : List xPr} (hO : BOK G l) (hf : flt G l = true) {v x : Nat} : x ∈ ord G l v ↔ gL G l v x = true := by
  unfold ord
  rw [List.mem_flatMap, gL_iff]
  constructor
  · rintro ⟨p, hp, hx⟩
    have h := bH_iff.mp ((rtl_mem hg (hO.1 p hp).1 (flt_all hf hp)).mp hx)
    exact ⟨h.1, p, hp, h.2⟩
  · rintro ⟨h, p, hp, h1, h2⟩
    exact ⟨p, hp, (rtl_mem hg (hO.1 p hp).1 (flt_all hf hp)).mpr (bH_iff.mpr ⟨h, h1, h2⟩)⟩
theorem sumE_app (G : Nat → Nat → Bool) : ∀ a b : List xPr, sumE G (a ++ b) = sumE G a + sumE G b
  | [], b => by simp [sumE]
  | p :: t, b => by
    show bE G p + sumE G (t ++ b) = bE G p + sumE G t + sumE G b
    rw [sumE_app G t b]
    omega
theorem isEmpty_no {α : Type} {l : List α} : (!l.isEmpty) = true ↔ l ≠ [] := by cases l <;> simp
theorem FAM_blks {G : Nat → Nat → Bool} (hg : gok G) {l : List xPr} (hO : BOK G l) (hf : flt G l = true) : ∀ n, n ≤ l.length → ec (gL G (l.take n)) = sumE G (l.take n) ∧ ∃ gs, FAM (fN (fun v x => nxL (ord G (l.take n) v) x)) (dS (gL G (l.take n))) gs ∧ gs.length + 2 * sumS G (l.take n) = sumE G (l.take n) + 2 * n + cnt (fun v => !(ord G (l.take n) v).isEmpty) 10
  | 0, _ => by
    have e0 : gL G (l.take 0) = fun _ _ => false := by
      funext x y
      simp [gL]
    rw [e0]
    refine ⟨show ec (fun _ _ => false) = 0 by decide +kernel, [], ⟨fun c hc => (by cases hc), List.nodup_nil, fun d => ?_, fun c hc => (by cases hc)⟩, ?_⟩
    · constructor
      · intro h; cases h
      · intro h; cases h
    · show 0 + 2 * 0 = 0 + 2 * 0 + cnt _ 10
      have : cnt (fun v => !(ord G (l.take 0) v).isEmpty) 10 = cnt (fun _ => false) 10 := cnt_ext fun v _ => rfl
      rw [this]
      decide +kernel
  | n + 1, hn => by
    obtain ⟨hE, fs, hF, hl⟩ := FAM_blks hg hO hf n (by omega)
    have hlt : n < l.length := by omega
    have ht : l.take (n + 1) = l.take n ++ [l[n]] := by rw [List.take_succ_eq_append_getElem hlt]
    generalize hp : l[n] = p at ht
    have hpn : l[n]? = some p := by rw [List.getElem?_eq_getElem hlt, hp]
    have hpm : p ∈ l := List.mem_of_getElem? hpn
    have hpG := (hO.1 p hpm).1
    have hpf := flt_all hf hpm
    have hb := bS_bic hg hpG
    have eo : ∀ v, ord G (l.take (n + 1)) v = ord G (l.take n) v ++ rtl G p v := fun v => by
      rw [ht]
      unfold ord
      rw [List.flatMap_append]
      simp
    have hnd : ∀ v, (ord G (l.take n) v ++ rtl G p v).Nodup := fun v => by
      rw [← eo]
      exact ord_nodup hg (BOK_take hO _) (flt_take hf _) v
    have mO : ∀ v x, x ∈ ord G (l.take n) v ↔ gL G (l.take n) v x = true := fun v x => ord_gL hg (BOK_take hO _) (flt_take hf _)
    have mR : ∀ v x, x ∈ rtl G p v ↔ bH G (bS G p) v x = true := fun v x => rtl_mem hg hpG hpf
    have gsym : ∀ x y, gL G (l.take n) x y = gL G (l.take n) y x := fun x y => by
      unfold gL
      rw [hg.1 x y]
      congr 1
      congr 1
      funext q
      exact Bool.and_comm _ _
    have g10 : ∀ x y, gL G (l.take n) x y = true → x < 10 ∧ y < 10 := fun x y h => hg.2.2 _ _ (gL_iff.mp h).1
    have b10 : ∀ x y, bH G (bS G p) x y = true → x < 10 ∧ y < 10 := fun x y h => hg.2.2 _ _ (bH_iff.mp h).1
    have dis : ∀ x y, gL G (l.take n) x y = true → bH G (bS G p) x y = true → False := fun x y h1 h2 => (nodup_snoc (hnd x)).2.2 y ((mO x y).mpr h1) ((mR x y).mpr h2)
    have eg : gL G (l.take (n + 1)) = fun x y => gL G (l.take n) x y || bH G (bS G p) x y := by
      funext x y
      rw [ht]
      unfold gL bH
      rw [List.any_append]
      cases G x y <;> simp
    obtain ⟨bs, hB, hbl⟩ := FAM_block hg hpG hpf
    have hF0 : FAM (fN (jnO (fun v => ord G (l.take n) v) (fun v => rtl G p v) 0)) (dS (gL G (l.take n))) fs := FAM_congr (fun d hd => by
      unfold dS at hd
      unfold fN jnO
      rw [if_neg (by omega), if_pos ((mO _ _).mpr (by rw [gsym]; exact hd))]) (fun d => Iff.rfl) hF
    have hB0 : FAM (fN (jnO (fun v => ord G (l.take n) v) (fun v => rtl G p v) 0)) (dS (bH G (bS G p))) bs := FAM_congr (fun d hd => by
      unfold dS at hd
      unfold fN jnO
      rw [if_neg (by omega), if_neg (fun z => dis _ _ ((mO _ _).mp z) (by rw [hb.1]; exact hd))]) (fun d => Iff.rfl) hB
    have hU := FAM_add (U := dS (fun x y => gL G (l.take n) x y || bH G (bS G p) x y)) hF0 hB0 (fun d h1 h2 => dis _ _ h1 h2) (fun d => by unfold dS; rw [Bool.or_eq_true])
    obtain ⟨gs, hG, hgl⟩ := FAM_join gsym hb.1 g10 b10 mO mR hnd (fun u v hc h1 h2 _ hv => by
      obtain ⟨x, hx⟩ := h1
      obtain ⟨y, hy⟩ := h2
      refine (bS_F4 hg hpG (G' := gL G (l.take n)) (A := fun _ => true) (fun a b hab => ?_) hv (bH_iff.mp hx).2.1 (bH_iff.mp hy).2.1 hc).symm
      exact ⟨(gL_iff.mp hab).1, fun z => dis a b hab (bH_iff.mpr ⟨(gL_iff.mp hab).1, z⟩)⟩) hU 10 (Nat.le_refl _)
    have hS1 : sumS G (l.take (n + 1)) = sumS G (l.take n) + cnt (bS G p) 10 := by
      rw [ht, sumS_app]
      rfl
    have hE1 : sumE G (l.take (n + 1)) = sumE G (l.take n) + bE G p := by
      rw [ht, sumE_app]
      rfl
    refine ⟨?_, gs, ?_, ?_⟩
    · rw [eg, ec_add dis, hE, hE1]
      rfl
    · rw [eg]
      refine FAM_congr (fun d hd => ?_) (fun d => Iff.rfl) hG
      unfold fN jnO
      dsimp only
      rw [if_pos (by omega), eo]
    · have h1 := cnt_incl (fun v => !(ord G (l.take n) v).isEmpty) (bS G p) 10
      have h2 : cnt (fun v => !(ord G (l.take (n + 1)) v).isEmpty) 10 = cnt (fun v => !(ord G (l.take n) v).isEmpty || bS G p v) 10 := cnt_ext fun v _ => by
        rw [eo]
        apply Bool.eq_iff_iff.mpr
        rw [isEmpty_no, Bool.or_eq_true, isEmpty_no]
        cases hv : bS G p v with
        | true =>
          obtain ⟨w, hw⟩ := bS_edge hg hpG hv
          have := (mR v w).mpr hw
          constructor
          · exact fun _ => Or.inr rfl
          · intro _ z
            rw [List.append_eq_nil_iff] at z
            rw [z.2] at this
            cases this
        | false =>
          rw [rtl_no hv, List.append_nil]
          simp
      have h3 : cnt (bthO (ord G (l.take n)) (rtl G p)) 10 = cnt (fun v => !(ord G (l.take n) v).isEmpty && bS G p v) 10 := cnt_ext fun v _ => by
        unfold bthO
        congr 1
        cases hv : bS G p v with
        | true =>
          obtain ⟨w, hw⟩ := bS_edge hg hpG hv
          have := (mR v w).mpr hw
          exact isEmpty_no.mpr (fun z => by rw [z] at this; cases this)
        | false => rw [rtl_no hv]; rfl
      rw [List.length_append] at hgl
      rw [hS1, hE1, h2]
      omega
theorem gL_all {G : Nat → Nat → Bool} (hg : gok G) : gL G (blks G 100) = G := by
  funext x y
  cases h : G x y with
  | false =>
    cases h2 : gL G (blks G 100) x y with
    | false => rfl
    | true =>
      have := (gL_iff.mp h2).1
      rw [h] at this
      cases this
  | true =>
    obtain ⟨p, hp, h2, h3⟩ := blks_all hg h
    exact gL_iff.mpr ⟨h, p, hp, h2, h3⟩
/-- the cycles of all darts -/
theorem FAM_all {G : Nat → Nat → Bool} (hg : gok G) (hf : flt G (blks G 100) = true) : ∃ gs, FAM (fN (nxt G)) (dS G) gs ∧ gs.length + 2 * sumS G (blks G 100) = ec G + 2 * (blks G 100).length + cnt (fun v => !(ord G (blks G 100) v).isEmpty) 10 := by
  obtain ⟨h1, gs, h2, h3⟩ := FAM_blks hg (blks_ok hg 100 (Nat.le_refl _)) hf _ (Nat.le_refl _)
  rw [List.take_length] at h1 h2 h3
  rw [gL_all hg] at h1 h2
  exact ⟨gs, h2, by rw [h1]; exact h3⟩
