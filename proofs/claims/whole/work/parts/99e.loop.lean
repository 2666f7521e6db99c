/-! what holds at the start; the law's loop -/
def kTm : Nat → Term := fun i => match i with
  | 0 => .string RX0 57
  | 1 => .string RX0 59
  | 2 => .string RX0 61
  | _ => .string RX0 63
abbrev kFl : List Cond := flatC (Jvm.Cond.and given_1 narrow_1)
set_option maxRecDepth 100000 in
theorem km_ex : ∀ i, i < 4 → Cond.exactly (kTm i) "java/lang/String" ∈ kFl := by decide +kernel
set_option maxRecDepth 100000 in
theorem km_co : ∀ i, i < 4 → Cond.eq (.field (kTm i) "java/lang/String" "coder" "B") (.int 0) ∈ kFl := by decide +kernel
set_option maxRecDepth 100000 in
theorem km_ar : ∀ i, i < 4 → Cond.arrayOf (.field (kTm i) "java/lang/String" "value" "[B") .byte ∈ kFl := by decide +kernel
set_option maxRecDepth 100000 in
theorem km_le : ∀ i, i < 4 → Cond.eq (.length (.field (kTm i) "java/lang/String" "value" "[B")) (.int (Int32.ofNat ((xStrL.map List.length).getD i 0))) ∈ kFl := by decide +kernel
set_option maxRecDepth 100000 in
theorem km_el : ∀ i, i < 4 → ∀ j, j < (xStrL.map List.length).getD i 0 → Cond.eq (.elem (.field (kTm i) "java/lang/String" "value" "[B") (.int (Int32.ofNat j))) (.int ((xStr32.getD i []).getD j 0)) ∈ kFl := by decide +kernel
set_option maxRecDepth 100000 in
theorem km_ne : ∀ i, i < 4 → ∀ j, j < 4 → i ≠ j → Cond.not (Cond.eq (kTm i) (kTm j)) ∈ kFl ∨ Cond.not (Cond.eq (kTm j) (kTm i)) ∈ kFl := by decide +kernel
set_option maxRecDepth 100000 in
theorem km_cs : Cond.eq (.static "java/lang/String" "COMPACT_STRINGS" "Z") (.int 1) ∈ kFl := by decide +kernel
set_option maxRecDepth 100000 in
theorem km_sf : Cond.isRef (.static "jdk/internal/util/Preconditions" "SIOOBE_FORMATTER" "Ljava/util/function/BiFunction;") ∈ kFl := by decide +kernel
theorem km_n : ∀ i, i < 4 → (xStrL.map List.length).getD i 0 < 2 ^ 31 := by decide

set_option maxRecDepth 100000 in
theorem kst {s : State} {b : Nat} {A : Nat → Prop} (hgv : (Jvm.Cond.and given_1 narrow_1).before #[Value.ref b] s = true) (hts : ∀ w ∈ lw_tbl, w.before #[Value.ref b] s = true) (hA : ∀ a : Nat, a < s.heap.size → ¬ A a) : ∃ adK adV : Nat → Nat, vk_S 4 (xStrL.map List.length) xStr32 adK adV A s s.heap ∧ (vk_R RX0 57 "add #-#" (adK 0) s ∧ vk_R RX0 59 "drop #-#" (adK 1) s ∧ vk_R RX0 61 "flip #-#" (adK 2) s ∧ vk_R RX0 63 "" (adK 3) s) ∧ va_Z "java/lang/String" "COMPACT_STRINGS" "Z" (.int 1) A s s.heap ∧ va_Zq "jdk/internal/util/Preconditions" "SIOOBE_FORMATTER" "Ljava/util/function/BiFunction;" A s s.heap := by
  have hs := flat_of_before _ hgv
  obtain ⟨adK, adV, h1, h2⟩ := vk_Sof (args := #[Value.ref b]) (s := s) (N := 4) (tm := kTm) (len := xStrL.map List.length) (byt := xStr32) (A := A) km_n (fun i hi => hs _ (km_ex i hi)) (fun i hi => hs _ (km_co i hi)) (fun i hi => hs _ (km_ar i hi)) (fun i hi => hs _ (km_le i hi)) (fun i hi j hj => hs _ (km_el i hi j hj)) (fun i j hi hj hne => (km_ne i hi j hj hne).imp (hs _) (hs _)) hA
  exact ⟨adK, adV, h1, ⟨vk_R.of (hts _ (List.mem_of_getElem? (i := 545) (by decide +kernel))) (h2 0 (by decide)), vk_R.of (hts _ (List.mem_of_getElem? (i := 546) (by decide +kernel))) (h2 1 (by decide)), vk_R.of (hts _ (List.mem_of_getElem? (i := 547) (by decide +kernel))) (h2 2 (by decide)), vk_R.of (hts _ (List.mem_of_getElem? (i := 548) (by decide +kernel))) (h2 3 (by decide))⟩, va_Zof (hts _ (List.mem_of_getElem? (i := 562) (by decide +kernel))) (hts _ (List.mem_of_getElem? (i := 79) (by decide +kernel))) (va_eqt (hs _ km_cs)) hA, va_Zqof (hts _ (List.mem_of_getElem? (i := 578) (by decide +kernel))) (hts _ (List.mem_of_getElem? (i := 81) (by decide +kernel))) (hs _ km_sf) hA⟩
set_option maxRecDepth 100000 in
/-- the classes at the start -/
theorem kK {s : State} {b : Nat} (hT : ∀ w ∈ xTB, w.before #[Value.ref b] s = true) : ∃ (D : va_G) (cI cJ : ClassId), va_K D vwCl (kTy cI cJ) s := by
  have h1 : ∀ q ∈ vwCl, ∃ (cC : ClassId) (iS : Nat → Nat), u_Kn s q.1 q.2.1 q.2.2 cC iS := List.forall_mem_cons.mpr ⟨u_known (C := RX0) (T := TX0) (N := 5) (n := 5) hT kws_0 (hT _ (xtb 129 (by decide +kernel) (by decide +kernel))), List.forall_mem_cons.mpr ⟨u_known (C := RX1) (T := TX1) (N := 16) (n := 16) hT kws_1 (hT _ (xtb 157 (by decide +kernel) (by decide +kernel))), List.forall_mem_cons.mpr ⟨u_known (C := RX2) (T := TX2) (N := 4) (n := 4) hT kws_2 (hT _ (xtb 108 (by decide +kernel) (by decide +kernel))), List.forall_mem_cons.mpr ⟨u_known (C := RX3) (T := TX3) (N := 3) (n := 3) hT kws_3 (hT _ (xtb 277 (by decide +kernel) (by decide +kernel))), List.forall_mem_cons.mpr ⟨u_known (C := RX4) (T := TX4) (N := 11) (n := 11) hT kws_4 (hT _ (xtb 151 (by decide +kernel) (by decide +kernel))), List.forall_mem_cons.mpr ⟨u_known (C := RX5) (T := TX5) (N := 3) (n := 3) hT kws_5 (hT _ (xtb 92 (by decide +kernel) (by decide +kernel))), List.forall_mem_cons.mpr ⟨u_known (C := RX6) (T := TX6) (N := 8) (n := 8) hT kws_6 (hT _ (xtb 246 (by decide +kernel) (by decide +kernel))), List.forall_mem_cons.mpr ⟨u_known (C := RX7) (T := TX7) (N := 9) (n := 9) hT kws_7 (hT _ (xtb 84 (by decide +kernel) (by decide +kernel))), List.forall_mem_cons.mpr ⟨u_known (C := RX8) (T := TX8) (N := 35) (n := 35) hT kws_8 (hT _ (xtb 842 (by decide +kernel) (by decide +kernel))), fun _ h => absurd h List.not_mem_nil⟩⟩⟩⟩⟩⟩⟩⟩⟩
  have h0 : ∀ k : Nat, ∃ r : ClassId × (Nat → Nat), ∀ q : vw_C, vwCl[k]? = some q → u_Kn s q.1 q.2.1 q.2.2 r.1 r.2 := by
    intro k
    cases h : vwCl[k]? with
    | none => exact ⟨(0, fun _ => 0), fun q hq => by cases hq⟩
    | some q =>
      obtain ⟨cC, iS, hk⟩ := h1 q (List.mem_of_getElem? h)
      exact ⟨(cC, iS), fun q2 hq => by cases hq; exact hk⟩
  obtain ⟨f, hf⟩ := Classical.axiomOfChoice h0
  obtain ⟨cI, kI1, comp1, f1, k1, e1⟩ := Cond.arrayClass_spec (hT (.arrayClass .int) (xtb 127 (by decide +kernel) (by decide +kernel)))
  obtain ⟨cJ, kJ1, comp2, f2, k2, e2⟩ := Cond.arrayClass_spec (hT (.arrayClass .long) (xtb 126 (by decide +kernel) (by decide +kernel)))
  refine ⟨(fun k => (f k).1, fun k => (f k).2), cI, cJ, fun c q hq => hf c q hq, fun k q hq => ?_⟩
  match k, hq with
  | 0, hq => cases hq; exact ⟨fun n z => ⟨fun k h => (by cases h), kI1, k1, comp1, e1⟩, f1⟩
  | 1, hq => cases hq; exact ⟨fun n z => ⟨fun k h => (by cases h), kJ1, k2, comp2, e2⟩, f2⟩
  | k + 2, hq => simp [kTy] at hq
theorem law_cond {L i : Nat} (hL : L ≤ 1536) (hi : i < 5000) (h : ¬ nI L - 3 < nI i) : i + 3 ≤ L := by
  by_cases h3 : 3 ≤ L
  · rw [show (3 : Int32) = nI 3 from rfl, jI_sub h3, nI_ltI (by omega) (by omega)] at h
    omega
  · exfalso
    have h0 : (0 : Int32) ≤ nI i := Int32.not_lt.mp (nI_pos (by omega))
    have hn : nI L - 3 < 0 := by
      have : ∀ L, L < 3 → nI L - 3 < (0 : Int32) := by decide
      exact this L (by omega)
    exact h (Int32.lt_of_lt_of_le hn h0)
section
variable {D : va_G} {cI cJ : ClassId} {ad adV : Nat → Nat}
variable {p : Program} {l : Launch} {e : Env} {s : State} {m : MethodId} {below : List Frame} {meth : Method} {c : Code}
variable {b L : Nat} {xs : Nat → Int32}
set_option maxRecDepth 100000 in
theorem law_loop (C0 : lw_At p s m meth c b L xs) (X : lwX D cI cJ ad adV s) (hL : L ≤ 1536) : ∀ (n i : Nat), i ≤ L + 3 → L + 4 ≤ i + n → lwGo D cI cJ ad p l e s m below meth c b i 18 := by
  obtain ⟨hx, hb, hr, hml, hown, hts, hX, hbl, hlocks, hgv⟩ := id C0
  have hbA : ¬ (fun q : Nat => s.heap.size ≤ q) b := Nat.not_le.mpr hbl
  intro n
  induction n with
  | zero => intro i h1 h2; omega
  | succ n ih =>
    intro i h1 h2 w H locs ls hJ hP hS hl
    refine lv_iload_n hx hb jl_18 rfl (lv_at hl 3 rfl) ?_
    refine lv_aload_n hx hb jl_19 rfl (lv_at hl 0 rfl) ?_
    refine va_slen hx hb hX hbl hbA hS jl_20 ?_
    refine lv_iconst (v := 3) hx hb jl_21 (by decide) ?_
    refine lv_isub hx hb jl_22 ?_
    refine lv_icmp_gt (tgt := 764) hx hb jl_23 (by decide) (fun _ => ?_) (fun hc => ?_)
    · refine lv_iconst (v := 1) hx hb jl_764 (by decide) ?_
      refine va_forget (fun q hq => hS.2.2 q hq) ?_
      refine W.base ?_
      exact lw_ret (Drawn.sameBut.refl s.drawn lw_cs) hx hb hr hlocks jl_765
    · have hi : i + 3 ≤ L := law_cond hL (by omega) hc
      have hin : vp_in (nI i) L := vp_in_nI (by omega) (by omega)
      have next : lwGo D cI cJ ad p l e s m below meth c b i 758 := by
        intro w H locs ls hJ hP hS hl
        refine lv_iinc (v := nI (i + 3)) (lv' := [(3, .int (nI (i + 3))), (0, .ref b), (1, .ref (ad 0)), (2, .ref (ad 45))]) hx hb jl_758 hl (k := 3) rfl (by show nI i + nI 3 = nI (i + 3); rw [jI_add]) (by decide) rfl (fun ls hl => ?_)
        refine lv_goto (tgt := 18) hx hb jl_761 (by decide) ?_
        exact ih (i + 3) (by omega) (by omega) w H locs ls hJ hP hS (lv_sub hl [1, 2, 3, 0] rfl)
      refine lv_aload_n hx hb jl_26 rfl (lv_at hl 0 rfl) ?_
      refine lv_iload_n hx hb jl_27 rfl (lv_at hl 3 rfl) ?_
      refine va_sld hx hb hX hbl hbA hS hin jl_28 ?_
      refine lv_bipush (v := 31) hx hb jl_29 (by decide) ?_
      refine lv_iand hx hb jl_31 ?_
      obtain ⟨j, hj, ej⟩ := pk_andE (xs (nI i).toNatClampNeg) (m := 31) 5 (by decide)
      rw [ej]
      match j, hj with
      | 0, _ => exact lv_tableIn (off := 120) (tgt := 152) hx hb jl_32 (by decide) (by decide) (by decide) (by decide) (law_add C0 X hi hL next w H locs ls hJ hP hS hl)
      | 1, _ => exact lv_tableIn (off := 153) (tgt := 185) hx hb jl_32 (by decide) (by decide) (by decide) (by decide) (law_drop C0 X hi hL next w H locs ls hJ hP hS hl)
      | 2, _ => exact lv_tableIn (off := 186) (tgt := 218) hx hb jl_32 (by decide) (by decide) (by decide) (by decide) (law_clear C0 X hi hL next w H locs ls hJ hP hS hl)
      | 3, _ => exact lv_tableIn (off := 199) (tgt := 231) hx hb jl_32 (by decide) (by decide) (by decide) (by decide) (law_comp C0 X hi hL next w H locs ls hJ hP hS hl)
      | 4, _ => exact lv_tableIn (off := 212) (tgt := 244) hx hb jl_32 (by decide) (by decide) (by decide) (by decide) (law_app C0 X hi hL next w H locs ls hJ hP hS hl)
      | 5, _ => exact lv_tableIn (off := 235) (tgt := 267) hx hb jl_32 (by decide) (by decide) (by decide) (by decide) (law_ct C0 X hi hL next w H locs ls hJ hP hS hl)
      | 6, _ => exact lv_tableIn (off := 248) (tgt := 280) hx hb jl_32 (by decide) (by decide) (by decide) (by decide) (law_fault C0 X hi hL next w H locs ls hJ hP hS hl)
      | 7, _ => exact lv_tableIn (off := 261) (tgt := 293) hx hb jl_32 (by decide) (by decide) (by decide) (by decide) (law_run C0 X hi hL next w H locs ls hJ hP hS hl)
      | 8, _ => exact lv_tableIn (off := 274) (tgt := 306) hx hb jl_32 (by decide) (by decide) (by decide) (by decide) (law_undo C0 X hi hL next w H locs ls hJ hP hS hl)
      | 9, _ => exact lv_tableIn (off := 287) (tgt := 319) hx hb jl_32 (by decide) (by decide) (by decide) (by decide) (law_save C0 X hi hL next w H locs ls hJ hP hS hl)
      | 10, _ => exact lv_tableIn (off := 300) (tgt := 332) hx hb jl_32 (by decide) (by decide) (by decide) (by decide) (law_rest C0 X hi hL next w H locs ls hJ hP hS hl)
      | 11, _ => exact lv_tableIn (off := 313) (tgt := 345) hx hb jl_32 (by decide) (by decide) (by decide) (by decide) (law_nb C0 X hi hL next w H locs ls hJ hP hS hl)
      | 12, _ => exact lv_tableIn (off := 336) (tgt := 368) hx hb jl_32 (by decide) (by decide) (by decide) (by decide) (law_count C0 X hi hL next w H locs ls hJ hP hS hl)
      | 13, _ => exact lv_tableIn (off := 359) (tgt := 391) hx hb jl_32 (by decide) (by decide) (by decide) (by decide) (law_block C0 X hi hL next w H locs ls hJ hP hS hl)
      | 14, _ => exact lv_tableIn (off := 392) (tgt := 424) hx hb jl_32 (by decide) (by decide) (by decide) (by decide) (law_info C0 X hi hL next w H locs ls hJ hP hS hl)
      | 15, _ => exact lv_tableIn (off := 425) (tgt := 457) hx hb jl_32 (by decide) (by decide) (by decide) (by decide) (law_plan C0 X hi hL next w H locs ls hJ hP hS hl)
      | 16, _ => exact lv_tableIn (off := 438) (tgt := 470) hx hb jl_32 (by decide) (by decide) (by decide) (by decide) (law_next C0 X hi hL next w H locs ls hJ hP hS hl)
      | 17, _ => exact lv_tableIn (off := 471) (tgt := 503) hx hb jl_32 (by decide) (by decide) (by decide) (by decide) (law_walks C0 X hi hL next w H locs ls hJ hP hS hl)
      | 18, _ => exact lv_tableIn (off := 484) (tgt := 516) hx hb jl_32 (by decide) (by decide) (by decide) (by decide) (law_wlen C0 X hi hL next w H locs ls hJ hP hS hl)
      | 19, _ => exact lv_tableIn (off := 507) (tgt := 539) hx hb jl_32 (by decide) (by decide) (by decide) (by decide) (law_wvert C0 X hi hL next w H locs ls hJ hP hS hl)
      | 20, _ => exact lv_tableIn (off := 540) (tgt := 572) hx hb jl_32 (by decide) (by decide) (by decide) (by decide) (law_wof C0 X hi hL next w H locs ls hJ hP hS hl)
      | 21, _ => exact lv_tableIn (off := 573) (tgt := 605) hx hb jl_32 (by decide) (by decide) (by decide) (by decide) (law_forb C0 X hi hL next w H locs ls hJ hP hS hl)
      | 22, _ => exact lv_tableIn (off := 596) (tgt := 628) hx hb jl_32 (by decide) (by decide) (by decide) (by decide) (law_inf C0 X hi hL next w H locs ls hJ hP hS hl)
      | 23, _ => exact lv_tableIn (off := 629) (tgt := 661) hx hb jl_32 (by decide) (by decide) (by decide) (by decide) (law_iff C0 X hi hL next w H locs ls hJ hP hS hl)
      | 24, _ => exact lv_tableIn (off := 662) (tgt := 694) hx hb jl_32 (by decide) (by decide) (by decide) (by decide) (law_join C0 X hi hL next w H locs ls hJ hP hS hl)
      | 25, _ => exact lv_tableIn (off := 685) (tgt := 717) hx hb jl_32 (by decide) (by decide) (by decide) (by decide) (law_dens C0 X next w H locs ls hJ hP hS hl)
      | q + 26, hj =>
        refine lv_tableOut (tgt := 758) hx hb jl_32 (Or.inr ?_) (by decide) (next w H locs ls hJ hP hS hl)
        rw [nI_toInt (by omega)]
        omega
end
