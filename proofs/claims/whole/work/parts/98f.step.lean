section
variable {D : va_G} {cI cJ : ClassId} {ad adV : Nat → Nat} {M : xMI}
variable {p : Program} {l : Launch} {e : Env} {s : State} {m : MethodId} {args : Array Value} {below : List Frame} {meth : Method} {c : Code} {Q : State → Prop} {F F1 : xF}
theorem xsop_inv {c k v : Nat} (h : xsop c k = some v) : c = 0 ∧ ((k = 44 ∧ v = 2) ∨ (k = 50 ∧ v = 0) ∨ (k = 65 ∧ v = 1)) := by
  unfold xsop at h
  split at h
  · have := xfind_mem h
    simp [xsopL0] at this
    exact ⟨rfl, this⟩
  · cases h
theorem xStr_at {i : Nat} {t : List Nat} (h : xStrL[i]? = some t) : i < 4 ∧ (xStrL.map List.length).getD i 0 = t.length ∧ t.length < 2 ^ 31 ∧ xStrL.getD i [] = t := by
  have h4 : i < 4 := (List.getElem?_eq_some_iff.mp h).1
  have hl : ∀ i, i < 4 → (xStrL.map List.length).getD i 0 < 9 := by decide
  have e1 : (xStrL.map List.length).getD i 0 = t.length := by
    rw [List.getD_eq_getElem?_getD, List.getElem?_map, h]
    rfl
  have := hl i h4
  refine ⟨h4, e1, by omega, ?_⟩
  rw [List.getD_eq_getElem?_getD, h]
  rfl
set_option maxRecDepth 100000 in
theorem jw_len : Cond.methodLink RX0 50 yJ0_length_8abf5 ∈ xTB ∧ Cond.instanceMethod yJ0_length_8abf5 ∈ xTB ∧ Cond.selects yJ0_length_8abf5.cls yJ0_length_8abf5 yJ0_length_8abf5 ∈ xTB ∧ Cond.initialized yJ0_length_8abf5.cls ∈ xTB ∧ Cond.code yJ0_length_8abf5 cJ0_length_8abf5 1 (some .int) ∈ xTB := ⟨xtb 553 (by decide +kernel) (by decide +kernel), xtb 554 (by decide +kernel) (by decide +kernel), xtb 555 (by decide +kernel) (by decide +kernel), xtb 79 (by decide +kernel) (by decide +kernel), xtb 556 rfl rfl⟩
set_option maxRecDepth 100000 in
theorem jw_emp : Cond.methodLink RX0 44 yJ0_isEmpty_aae02 ∈ xTB ∧ Cond.instanceMethod yJ0_isEmpty_aae02 ∈ xTB ∧ Cond.selects yJ0_isEmpty_aae02.cls yJ0_isEmpty_aae02 yJ0_isEmpty_aae02 ∈ xTB ∧ Cond.initialized yJ0_isEmpty_aae02.cls ∈ xTB ∧ Cond.code yJ0_isEmpty_aae02 cJ0_isEmpty_aae02 1 (some .boolean) ∈ xTB := ⟨xtb 601 (by decide +kernel) (by decide +kernel), xtb 602 (by decide +kernel) (by decide +kernel), xtb 603 (by decide +kernel) (by decide +kernel), xtb 79 (by decide +kernel) (by decide +kernel), xtb 604 rfl rfl⟩
set_option maxRecDepth 100000 in
theorem jw_chr : Cond.methodLink RX0 65 yJ0_charAt_5068e ∈ xTB ∧ Cond.instanceMethod yJ0_charAt_5068e ∈ xTB ∧ Cond.selects yJ0_charAt_5068e.cls yJ0_charAt_5068e yJ0_charAt_5068e ∈ xTB ∧ Cond.initialized yJ0_charAt_5068e.cls ∈ xTB ∧ Cond.code yJ0_charAt_5068e cJ0_charAt_5068e 2 (some .char) ∈ xTB := ⟨xtb 563 (by decide +kernel) (by decide +kernel), xtb 564 (by decide +kernel) (by decide +kernel), xtb 565 (by decide +kernel) (by decide +kernel), xtb 79 (by decide +kernel) (by decide +kernel), xtb 566 rfl rfl⟩
theorem xsop_go (hi : xinj ad) (hM : xok M) (C : xcx D cI cJ ad adV M p s m args meth c) {pc : Nat} {L : xL} {st : List Value} {w : xW} {k n : Nat} (hd : xfind (xm_t M) pc = some (.invokevirtual k, n)) (h : xsopS M (xsop (xm_c M) k) (pc, L, st, w) = some F1) (K : xgo D cI cJ ad M p l e s m args below meth c Q F1) : xgo D cI cJ ad M p l e s m args below meth c Q (pc, L, st, w) := by
  obtain ⟨hx, hb, hml, hr, hlk, hown, hts, hG⟩ := id C
  have hT : ∀ w ∈ xTB, w.before args s = true := fun w hw => hts w (List.mem_cons_of_mem _ hw)
  obtain ⟨hdg, hg⟩ := xdec hM hd
  obtain rfl : n = 3 := Nat.eq_of_beq_eq_true hg
  have hSt := hG.2.2
  unfold xsopS at h
  dsimp only at h
  cases hc : (Nat.ble 5 (xm_f M) && Nat.ble 110 (xm_l M) && Nat.ble (st.map fun v => v.category).sum 8) with
  | false => rw [hc] at h; cases h
  | true =>
    rw [hc, cond_true] at h
    rw [Bool.and_eq_true, Bool.and_eq_true] at hc
    have f5 := Nat.le_of_ble_eq_true hc.1.1
    have l110 := Nat.le_of_ble_eq_true hc.1.2
    have hsum := Nat.le_of_ble_eq_true hc.2
    cases hop : xsop (xm_c M) k with
    | none => rw [hop] at h; cases h
    | some op =>
      rw [hop] at h
      obtain ⟨e0, hk⟩ := xsop_inv hop
      rw [e0] at hown
      have S : CallFix p m c (xm_b M) (xm_n M) s args xTB RX0 := ⟨hx, hb, hml, hown, hT⟩
      rcases hk with ⟨rfl, rfl⟩ | ⟨rfl, rfl⟩ | ⟨rfl, rfl⟩
      · rcases st with _ | ⟨v, st1⟩
        · cases h
        · cases v with
          | ref a =>
            have h : (match xStrL[a - 100]? with
              | some t => bif Nat.ble 100 a then some (pc + 3, L, .int (bif Nat.beq t.length 0 then 1 else 0) :: st1, w) else none
              | none => none) = some F1 := h
            cases ht : xStrL[a - 100]? with
            | none => rw [ht] at h; cases h
            | some t =>
              rw [ht] at h
              have h : (bif Nat.ble 100 a then some (pc + 3, L, .int (bif Nat.beq t.length 0 then 1 else 0) :: st1, w) else none) = some F1 := h
              cases h1 : Nat.ble 100 a with
              | false => rw [h1] at h; cases h
              | true =>
                rw [h1, cond_true] at h
                cases h
                obtain ⟨i, rfl, hti⟩ : ∃ i : Nat, a = 100 + i ∧ xStrL[i]? = some t := ⟨a - 100, (Nat.add_sub_of_le (Nat.le_of_ble_eq_true h1)).symm, ht⟩
                obtain ⟨h4, hN, h31, _⟩ := xStr_at hti
                intro H locs ls hP hS hL
                have hs1 : ((st1.map (xcv ad)).map fun v => v.category).sum ≤ 8 := by
                  rw [xcv_sum]
                  simp only [List.map_cons, List.sum_cons] at hsum
                  omega
                exact jcV (As := []) (index := 44) (b := xm_b M) S hG (jm_empty h4 hN h31) (vk_recv (adK := fun i => ad (100 + i)) (i := i) hSt.1 h4 hS) jw_emp ⟨by decide +kernel, by decide +kernel, by decide +kernel⟩ ⟨by show 0 + 1 ≤ xm_f M; omega, by show 8 + (1 + 11) + 0 ≤ xm_l M; omega⟩ hL.2.1 hs1 hdg hP hS (fun H1 locs1 hP1 hS1 => K H1 locs1 ls hP1 hS1 hL)
          | _ => cases h
      · rcases st with _ | ⟨v, st1⟩
        · cases h
        · cases v with
          | ref a =>
            have h : (match xStrL[a - 100]? with
              | some t => bif Nat.ble 100 a then some (pc + 3, L, .int (Int32.ofNat t.length) :: st1, w) else none
              | none => none) = some F1 := h
            cases ht : xStrL[a - 100]? with
            | none => rw [ht] at h; cases h
            | some t =>
              rw [ht] at h
              have h : (bif Nat.ble 100 a then some (pc + 3, L, .int (Int32.ofNat t.length) :: st1, w) else none) = some F1 := h
              cases h1 : Nat.ble 100 a with
              | false => rw [h1] at h; cases h
              | true =>
                rw [h1, cond_true] at h
                cases h
                obtain ⟨i, rfl, hti⟩ : ∃ i : Nat, a = 100 + i ∧ xStrL[i]? = some t := ⟨a - 100, (Nat.add_sub_of_le (Nat.le_of_ble_eq_true h1)).symm, ht⟩
                obtain ⟨h4, hN, h31, _⟩ := xStr_at hti
                intro H locs ls hP hS hL
                have hs1 : ((st1.map (xcv ad)).map fun v => v.category).sum ≤ 8 := by
                  rw [xcv_sum]
                  simp only [List.map_cons, List.sum_cons] at hsum
                  omega
                exact jcV (As := []) (index := 50) (b := xm_b M) S hG (jm_length h4 hN h31) (vk_recv (adK := fun i => ad (100 + i)) (i := i) hSt.1 h4 hS) jw_len ⟨by decide +kernel, by decide +kernel, by decide +kernel⟩ ⟨by show 1 + 1 ≤ xm_f M; omega, by show 8 + (1 + 11) + 20 ≤ xm_l M; omega⟩ hL.2.1 hs1 hdg hP hS (fun H1 locs1 hP1 hS1 => K H1 locs1 ls hP1 hS1 hL)
          | _ => cases h
      · rcases st with _ | ⟨v, _ | ⟨v2, st1⟩⟩
        · cases h
        · cases v <;> cases h
        · cases v with
          | int j =>
            cases v2 with
            | ref a =>
              have h : (match xStrL[a - 100]? with
                | some t => bif Nat.ble 100 a && xin j t.length then some (pc + 3, L, .int (Int32.ofNat (t.getD j.toNatClampNeg 0)) :: st1, w) else none
                | none => none) = some F1 := h
              cases ht : xStrL[a - 100]? with
              | none => rw [ht] at h; cases h
              | some t =>
                rw [ht] at h
                have h : (bif Nat.ble 100 a && xin j t.length then some (pc + 3, L, .int (Int32.ofNat (t.getD j.toNatClampNeg 0)) :: st1, w) else none) = some F1 := h
                cases h1 : Nat.ble 100 a && xin j t.length with
                | false => rw [h1] at h; cases h
                | true =>
                  rw [h1, cond_true] at h
                  cases h
                  rw [Bool.and_eq_true] at h1
                  obtain ⟨i, rfl, hti⟩ : ∃ i : Nat, a = 100 + i ∧ xStrL[i]? = some t := ⟨a - 100, (Nat.add_sub_of_le (Nat.le_of_ble_eq_true h1.1)).symm, ht⟩
                  obtain ⟨h4, hN, h31, hg4⟩ := xStr_at hti
                  have hin := xin_vp h1.2
                  obtain ⟨q, hq, rfl⟩ := nI_of (fun z => hin (Or.inl z))
                  have hqt : q < t.length := Nat.not_le.mp fun z => hin (Or.inr (by rw [nI_clamp (by omega)]; exact z))
                  rw [nI_clamp (n := q) (by omega)] at K
                  intro H locs ls hP hS hL
                  have hs1 : ((st1.map (xcv ad)).map fun v => v.category).sum ≤ 8 := by
                    rw [xcv_sum]
                    simp only [List.map_cons, List.sum_cons] at hsum
                    omega
                  have met := jm_char (D := D) (cI := cI) (cJ := cJ) (ad := ad) (adV := adV) (l := l) (w := w) (j := q) h4 hN hqt h31
                  rw [hg4] at met
                  exact jcV (As := [.int (nI q)]) (index := 65) (b := xm_b M) S hG met (vk_recv (adK := fun i => ad (100 + i)) (i := i) hSt.1 h4 hS) jw_chr ⟨by decide +kernel, by decide +kernel, (show (parseMethodDescriptor yJ0_charAt_5068e.desc).map (fun d => d.parameters.length) = some 1 by decide +kernel)⟩ ⟨by show 3 + 1 ≤ xm_f M; omega, by show 8 + (2 + 11) + 64 ≤ xm_l M; omega⟩ hL.2.1 hs1 hdg hP hS (fun H1 locs1 hP1 hS1 => K H1 locs1 ls hP1 hS1 hL)
            | _ => cases h
          | _ => cases v2 <;> cases h
set_option maxHeartbeats 4000000 in
theorem xs1_go (hi : xinj ad) (hM : xok M) (C : xcx D cI cJ ad adV M p s m args meth c) (h : xs1 M F = some F1) (K : xgo D cI cJ ad M p l e s m args below meth c Q F1) : xgo D cI cJ ad M p l e s m args below meth c Q F := by
  obtain ⟨hx, hb, hml, hr, hlk, hown, hts, hK, hNW, hSt⟩ := id C
  have hT : ∀ w ∈ xTB, w.before args s = true := fun w hw => hts w (List.mem_cons_of_mem _ hw)
  obtain ⟨pc, L, st, w⟩ := F
  unfold xs1 at h
  split at h
  · next i n hd =>
    obtain ⟨hdg, hg⟩ := xdec hM hd
    intro H locs ls hP hS hL
    cases i with
    | iconst k =>
      obtain rfl : n = 1 := Nat.eq_of_beq_eq_true hg
      obtain rfl := xpush_inv h
      exact lv_iconst hx hb hdg rfl (K H locs ls hP hS hL)
    | bipush k =>
      obtain rfl : n = 2 := Nat.eq_of_beq_eq_true hg
      obtain rfl := xpush_inv h
      exact lv_bipush hx hb hdg rfl (K H locs ls hP hS hL)
    | sipush k =>
      obtain rfl : n = 3 := Nat.eq_of_beq_eq_true hg
      obtain rfl := xpush_inv h
      exact lv_sipush hx hb hdg rfl (K H locs ls hP hS hL)
    | lconst k =>
      obtain rfl : n = 1 := Nat.eq_of_beq_eq_true hg
      obtain rfl := xpush_inv h
      exact lv_lconst hx hb hdg rfl (K H locs ls hP hS hL)
    | iload k =>
      obtain rfl : n = 2 := Nat.eq_of_beq_eq_true hg
      obtain ⟨x, hv, rfl⟩ := xld1_inv h
      exact lv_iload hx hb hdg (hL.2.2.2 _ _ hv) (K H locs ls hP hS hL)
    | iload_n k =>
      obtain rfl : n = 1 := Nat.eq_of_beq_eq_true hg
      obtain ⟨x, hv, rfl⟩ := xld1_inv h
      exact lv_iload_n hx hb hdg rfl (hL.2.2.2 _ _ hv) (K H locs ls hP hS hL)
    | lload k =>
      obtain rfl : n = 2 := Nat.eq_of_beq_eq_true hg
      obtain ⟨x, hv, rfl⟩ := xld2_inv h
      exact lv_lload hx hb hdg (hL.2.2.2 _ _ hv) (K H locs ls hP hS hL)
    | lload_n k =>
      obtain rfl : n = 1 := Nat.eq_of_beq_eq_true hg
      obtain ⟨x, hv, rfl⟩ := xld2_inv h
      exact lv_lload_n hx hb hdg rfl (hL.2.2.2 _ _ hv) (K H locs ls hP hS hL)
    | aload k =>
      obtain rfl : n = 2 := Nat.eq_of_beq_eq_true hg
      obtain ⟨x, hv, rfl⟩ := xlda_inv h
      exact lv_aload hx hb hdg (hL.2.2.2 _ _ hv) (K H locs ls hP hS hL)
    | aload_n k =>
      obtain rfl : n = 1 := Nat.eq_of_beq_eq_true hg
      obtain ⟨x, hv, rfl⟩ := xlda_inv h
      exact lv_aload_n hx hb hdg rfl (hL.2.2.2 _ _ hv) (K H locs ls hP hS hL)
    | istore k =>
      obtain rfl : n = 2 := Nat.eq_of_beq_eq_true hg
      obtain ⟨x, st1, rfl, hlt, rfl⟩ := xsti_inv h
      exact lv_istore hx hb hdg hL.has (by rw [← hL.1]; exact hlt) rfl (fun ls1 h1 => K H locs ls1 hP hS (hL.set1 h1))
    | istore_n k =>
      obtain rfl : n = 1 := Nat.eq_of_beq_eq_true hg
      obtain ⟨x, st1, rfl, hlt, rfl⟩ := xsti_inv h
      exact lv_istore_n hx hb hdg rfl hL.has (by rw [← hL.1]; exact hlt) rfl (fun ls1 h1 => K H locs ls1 hP hS (hL.set1 h1))
    | astore k =>
      obtain rfl : n = 2 := Nat.eq_of_beq_eq_true hg
      obtain ⟨x, st1, rfl, hlt, rfl⟩ := xsta_inv h
      exact lv_astore hx hb hdg hL.has (by rw [← hL.1]; exact hlt) rfl (fun ls1 h1 => K H locs ls1 hP hS (hL.set1 h1))
    | astore_n k =>
      obtain rfl : n = 1 := Nat.eq_of_beq_eq_true hg
      obtain ⟨x, st1, rfl, hlt, rfl⟩ := xsta_inv h
      exact lv_astore_n hx hb hdg rfl hL.has (by rw [← hL.1]; exact hlt) rfl (fun ls1 h1 => K H locs ls1 hP hS (hL.set1 h1))
    | lstore k =>
      obtain rfl : n = 2 := Nat.eq_of_beq_eq_true hg
      obtain ⟨x, st1, rfl, hlt, rfl⟩ := xstl_inv h
      exact lv_lstore hx hb hdg hL.has (by rw [← hL.1]; exact hlt) rfl (fun ls1 h1 => K H locs ls1 hP hS (hL.set2 h1))
    | lstore_n k =>
      obtain rfl : n = 1 := Nat.eq_of_beq_eq_true hg
      obtain ⟨x, st1, rfl, hlt, rfl⟩ := xstl_inv h
      exact lv_lstore_n hx hb hdg rfl hL.has (by rw [← hL.1]; exact hlt) rfl (fun ls1 h1 => K H locs ls1 hP hS (hL.set2 h1))
    | iinc k x =>
      obtain rfl : n = 3 := Nat.eq_of_beq_eq_true hg
      obtain ⟨y, hv, hlt, rfl⟩ := xinc_inv h
      obtain ⟨j, hj⟩ := List.getElem?_of_mem (xLl_of (ad := ad) hv)
      exact lv_iinc hx hb hdg hL.has (k := j) hj rfl (by rw [← hL.1]; exact hlt) rfl (fun ls1 h1 => K H locs ls1 hP hS (hL.set1 (v := .int (y + Int32.ofInt x)) h1))
    | iadd =>
      obtain rfl : n = 1 := Nat.eq_of_beq_eq_true hg
      obtain ⟨y, x, st1, rfl, rfl⟩ := xb2_inv h
      exact lv_iadd hx hb hdg (K H locs ls hP hS hL)
    | isub =>
      obtain rfl : n = 1 := Nat.eq_of_beq_eq_true hg
      obtain ⟨y, x, st1, rfl, rfl⟩ := xb2_inv h
      exact lv_isub hx hb hdg (K H locs ls hP hS hL)
    | imul =>
      obtain rfl : n = 1 := Nat.eq_of_beq_eq_true hg
      obtain ⟨y, x, st1, rfl, rfl⟩ := xb2_inv h
      exact lv_imul hx hb hdg (K H locs ls hP hS hL)
    | iand =>
      obtain rfl : n = 1 := Nat.eq_of_beq_eq_true hg
      obtain ⟨y, x, st1, rfl, rfl⟩ := xb2_inv h
      exact lv_iand hx hb hdg (K H locs ls hP hS hL)
    | ior =>
      obtain rfl : n = 1 := Nat.eq_of_beq_eq_true hg
      obtain ⟨y, x, st1, rfl, rfl⟩ := xb2_inv h
      exact lv_ior hx hb hdg (K H locs ls hP hS hL)
    | ixor =>
      obtain rfl : n = 1 := Nat.eq_of_beq_eq_true hg
      obtain ⟨y, x, st1, rfl, rfl⟩ := xb2_inv h
      exact lv_ixor hx hb hdg (K H locs ls hP hS hL)
    | ishl =>
      obtain rfl : n = 1 := Nat.eq_of_beq_eq_true hg
      obtain ⟨y, x, st1, rfl, rfl⟩ := xb2_inv h
      exact lv_ishl hx hb hdg (K H locs ls hP hS hL)
    | ishr =>
      obtain rfl : n = 1 := Nat.eq_of_beq_eq_true hg
      obtain ⟨y, x, st1, rfl, rfl⟩ := xb2_inv h
      exact lv_ishr hx hb hdg (K H locs ls hP hS hL)
    | iushr =>
      obtain rfl : n = 1 := Nat.eq_of_beq_eq_true hg
      obtain ⟨y, x, st1, rfl, rfl⟩ := xb2_inv h
      exact lv_iushr hx hb hdg rfl (K H locs ls hP hS hL)
    | idiv =>
      obtain rfl : n = 1 := Nat.eq_of_beq_eq_true hg
      obtain ⟨y, x, st1, rfl, hy, rfl⟩ := xb0_inv h
      exact lv_idiv hx hb hdg hy (K H locs ls hP hS hL)
    | irem =>
      obtain rfl : n = 1 := Nat.eq_of_beq_eq_true hg
      obtain ⟨y, x, st1, rfl, hy, rfl⟩ := xb0_inv h
      exact lv_irem hx hb hdg hy (K H locs ls hP hS hL)
    | i2c =>
      obtain rfl : n = 1 := Nat.eq_of_beq_eq_true hg
      obtain ⟨x, st1, rfl, rfl⟩ := xb1_inv h
      exact lv_i2c hx hb hdg rfl (K H locs ls hP hS hL)
    | land =>
      obtain rfl : n = 1 := Nat.eq_of_beq_eq_true hg
      obtain ⟨y, x, st1, rfl, rfl⟩ := xj2_inv h
      exact lv_land hx hb hdg (K H locs ls hP hS hL)
    | lor =>
      obtain rfl : n = 1 := Nat.eq_of_beq_eq_true hg
      obtain ⟨y, x, st1, rfl, rfl⟩ := xj2_inv h
      exact lv_lor hx hb hdg (K H locs ls hP hS hL)
    | lxor =>
      obtain rfl : n = 1 := Nat.eq_of_beq_eq_true hg
      obtain ⟨y, x, st1, rfl, rfl⟩ := xj2_inv h
      exact lv_lxor hx hb hdg (K H locs ls hP hS hL)
    | ladd =>
      obtain rfl : n = 1 := Nat.eq_of_beq_eq_true hg
      obtain ⟨y, x, st1, rfl, rfl⟩ := xj2_inv h
      exact lv_ladd hx hb hdg (K H locs ls hP hS hL)
    | lsub =>
      obtain rfl : n = 1 := Nat.eq_of_beq_eq_true hg
      obtain ⟨y, x, st1, rfl, rfl⟩ := xj2_inv h
      exact lv_lsub hx hb hdg (K H locs ls hP hS hL)
    | lshl =>
      obtain rfl : n = 1 := Nat.eq_of_beq_eq_true hg
      obtain ⟨y, x, st1, rfl, rfl⟩ := xji_inv h
      exact lv_lshl hx hb hdg rfl (K H locs ls hP hS hL)
    | lushr =>
      obtain rfl : n = 1 := Nat.eq_of_beq_eq_true hg
      obtain ⟨y, x, st1, rfl, rfl⟩ := xji_inv h
      exact lv_lushr hx hb hdg rfl (K H locs ls hP hS hL)
    | lcmp =>
      obtain rfl : n = 1 := Nat.eq_of_beq_eq_true hg
      obtain ⟨y, x, st1, rfl, rfl⟩ := xlcmp_inv h
      exact W.lcmp hx hb hdg (K H locs ls hP hS hL)
    | l2i =>
      obtain rfl : n = 1 := Nat.eq_of_beq_eq_true hg
      obtain ⟨x, st1, rfl, rfl⟩ := xl2i_inv h
      exact lv_l2i hx hb hdg rfl (K H locs ls hP hS hL)
    | i2d =>
      obtain rfl : n = 1 := Nat.eq_of_beq_eq_true hg
      obtain ⟨x, st1, rfl, rfl⟩ := xi2d_inv h
      exact lv_i2d hx hb hdg (K H locs ls hP hS hL)
    | ddiv =>
      obtain rfl : n = 1 := Nat.eq_of_beq_eq_true hg
      obtain ⟨y, x, st1, rfl, hy, rfl⟩ := xddiv_inv h
      exact lv_ddiv hx hb hdg hy (K H locs ls hP hS hL)
    | dup =>
      obtain rfl : n = 1 := Nat.eq_of_beq_eq_true hg
      rcases xdup_inv h with ⟨x, st1, rfl, rfl⟩ | ⟨x, st1, rfl, rfl⟩
      · exact lv_dup hx hb hdg rfl (K H locs ls hP hS hL)
      · exact lv_dup hx hb hdg rfl (K H locs ls hP hS hL)
    | dup2 =>
      obtain rfl : n = 1 := Nat.eq_of_beq_eq_true hg
      obtain ⟨y, x, st1, rfl, rfl⟩ := xdup2_inv h
      exact lv_dup2_11 hx hb hdg rfl rfl (K H locs ls hP hS hL)
    | pop =>
      obtain rfl : n = 1 := Nat.eq_of_beq_eq_true hg
      obtain ⟨x, st1, rfl, rfl⟩ := xpop_inv h
      exact lv_pop hx hb hdg rfl (K H locs ls hP hS hL)
    | goto o =>
      cases h
      exact lv_goto hx hb hdg (of_decide_eq_true hg) (K H locs ls hP hS hL)
    | ifCond cd o =>
      cases cd with
      | eq =>
        obtain ⟨x, st1, rfl, rfl⟩ := xbr1_inv h
        have hk := K H locs ls hP hS hL
        dsimp only at hk
        exact lv_if_eq hx hb hdg (of_decide_eq_true hg) (fun z => by rw [decide_eq_true z] at hk; exact hk) (fun z => by rw [decide_eq_false z] at hk; exact hk)
      | ne =>
        obtain ⟨x, st1, rfl, rfl⟩ := xbr1_inv h
        have hk := K H locs ls hP hS hL
        dsimp only at hk
        exact lv_if_ne hx hb hdg (of_decide_eq_true hg) (fun z => by rw [decide_eq_false z] at hk; exact hk) (fun z => by rw [decide_eq_true z] at hk; exact hk)
      | lt =>
        obtain ⟨x, st1, rfl, rfl⟩ := xbr1_inv h
        have hk := K H locs ls hP hS hL
        dsimp only at hk
        exact lv_if_lt hx hb hdg (of_decide_eq_true hg) (fun z => by rw [decide_eq_true z] at hk; exact hk) (fun z => by rw [decide_eq_false z] at hk; exact hk)
      | ge =>
        obtain ⟨x, st1, rfl, rfl⟩ := xbr1_inv h
        have hk := K H locs ls hP hS hL
        dsimp only at hk
        exact lv_if_ge hx hb hdg (of_decide_eq_true hg) (fun z => by rw [decide_eq_true z] at hk; exact hk) (fun z => by rw [decide_eq_false z] at hk; exact hk)
      | gt =>
        obtain ⟨x, st1, rfl, rfl⟩ := xbr1_inv h
        have hk := K H locs ls hP hS hL
        dsimp only at hk
        exact lv_if_gt hx hb hdg (of_decide_eq_true hg) (fun z => by rw [decide_eq_true z] at hk; exact hk) (fun z => by rw [decide_eq_false z] at hk; exact hk)
      | le =>
        obtain ⟨x, st1, rfl, rfl⟩ := xbr1_inv h
        have hk := K H locs ls hP hS hL
        dsimp only at hk
        exact lv_if_le hx hb hdg (of_decide_eq_true hg) (fun z => by rw [decide_eq_true z] at hk; exact hk) (fun z => by rw [decide_eq_false z] at hk; exact hk)
    | if_icmp cd o =>
      cases cd with
      | eq =>
        obtain ⟨y, x, st1, rfl, rfl⟩ := xbr2_inv h
        have hk := K H locs ls hP hS hL
        dsimp only at hk
        exact lv_icmp_eq hx hb hdg (of_decide_eq_true hg) (fun z => by rw [decide_eq_true z] at hk; exact hk) (fun z => by rw [decide_eq_false z] at hk; exact hk)
      | ne =>
        obtain ⟨y, x, st1, rfl, rfl⟩ := xbr2_inv h
        have hk := K H locs ls hP hS hL
        dsimp only at hk
        exact lv_icmp_ne hx hb hdg (of_decide_eq_true hg) (fun z => by rw [decide_eq_false z] at hk; exact hk) (fun z => by rw [decide_eq_true z] at hk; exact hk)
      | lt =>
        obtain ⟨y, x, st1, rfl, rfl⟩ := xbr2_inv h
        have hk := K H locs ls hP hS hL
        dsimp only at hk
        exact lv_icmp_lt hx hb hdg (of_decide_eq_true hg) (fun z => by rw [decide_eq_true z] at hk; exact hk) (fun z => by rw [decide_eq_false z] at hk; exact hk)
      | ge =>
        obtain ⟨y, x, st1, rfl, rfl⟩ := xbr2_inv h
        have hk := K H locs ls hP hS hL
        dsimp only at hk
        exact lv_icmp_ge hx hb hdg (of_decide_eq_true hg) (fun z => by rw [decide_eq_true z] at hk; exact hk) (fun z => by rw [decide_eq_false z] at hk; exact hk)
      | gt =>
        obtain ⟨y, x, st1, rfl, rfl⟩ := xbr2_inv h
        have hk := K H locs ls hP hS hL
        dsimp only at hk
        exact lv_icmp_gt hx hb hdg (of_decide_eq_true hg) (fun z => by rw [decide_eq_true z] at hk; exact hk) (fun z => by rw [decide_eq_false z] at hk; exact hk)
      | le =>
        obtain ⟨y, x, st1, rfl, rfl⟩ := xbr2_inv h
        have hk := K H locs ls hP hS hL
        dsimp only at hk
        exact lv_icmp_le hx hb hdg (of_decide_eq_true hg) (fun z => by rw [decide_eq_true z] at hk; exact hk) (fun z => by rw [decide_eq_false z] at hk; exact hk)
    | tableswitch d lo hi offs =>
      obtain ⟨x, st1, tg, rfl, rfl, ht⟩ := xtsw_inv h
      rcases ht with ⟨h1, h2⟩ | ⟨h1, h2, o, h3, h4⟩
      · exact lv_tableOut hx hb hdg h1 h2 (K H locs ls hP hS hL)
      · exact lv_tableIn hx hb hdg h1 h2 h3 h4 (K H locs ls hP hS hL)
    | lookupswitch d ps =>
      obtain ⟨x, st1, tg, rfl, rfl, h1, h2⟩ := xlsw_inv h
      exact lv_lookup hx hb hdg h1 rfl h2 (K H locs ls hP hS hL)
    | getfield k =>
      obtain rfl : n = 3 := Nat.eq_of_beq_eq_true hg
      obtain ⟨cj, j, a, st1, ks, kd, hlk2, rfl, hs, hk, rfl⟩ := xgetf_inv (c := xm_c M) h
      obtain ⟨⟨C1, T, N, ty, hc, hws, hty, hnm⟩, C2, T2, N2, hc2, hj, hl⟩ := xflk_ok hlk2
      cases hc.symm.trans hc2
      have he := (xws_get (cI := cI) (cJ := cJ) (ad := ad) (w := w) (xshp_lt hs)).trans (by rw [xcell_O hs])
      refine va_get hx hb hT hws hown hK hP a he hc j hj (hT _ hl) (fun _ z => z) (v := xcv ad (xval w a j kd)) ?_ hdg (K H locs ls hP hS hL)
      rw [List.getElem?_mapIdx, hk]
      rfl
    | putfield k =>
      obtain rfl : n = 3 := Nat.eq_of_beq_eq_true hg
      obtain ⟨cj, j, a, st1, ks, hlk2, hs, hv⟩ := xputf_inv h
      obtain ⟨⟨C1, T, N, ty, hc, hws, hty, hnm⟩, C2, T2, N2, hc2, hj, hl⟩ := xflk_ok hlk2
      cases hc.symm.trans hc2
      have he := (xws_get (cI := cI) (cJ := cJ) (ad := ad) (w := w) (xshp_lt hs)).trans (by rw [xcell_O hs])
      rcases hv with ⟨x, rfl, hk, hbl, rfl⟩ | ⟨x, rfl, hk, rfl⟩
      · obtain ⟨hn, -, hkd⟩ := xkd hs hc hk
        simp only [xkindOK, Bool.and_eq_true, Bool.not_eq_true'] at hkd
        have hset : (xws cI cJ ad w).set a (ad a, .inr (cj, (ks.mapIdx (fun i kd => xcv ad (xval w a i kd))).set j (.int x))) = xws cI cJ ad (xuI w a j x) := xws_set (by rw [xcell_O hs, xfs_set1 hk]) (fun b hb => xcell_ne1 hb)
        have fin : ∀ ty1 : FieldType, parseFieldDescriptor (T j).2.2.1 = some ty1 → narrow ty1 (.int x) = .int x → fits ty1 (.int x) = true → W p l e (xrm M) s m args below meth c H locs 0 0 Q (F0 m pc ls ((.int x :: .ref a :: st1 : List Value).map (xcv ad))) := by
          intro ty1 q1 q2 q3
          refine va_put hx hb hT hws ty hty hnm hown hK hP (xD_ok hi w) hS a he hc j hj (hT _ hl) (fun _ z => z) hkd.1 q1 q2 q3 (by rw [List.length_mapIdx]; exact (List.getElem?_eq_some_iff.mp hk).1) hdg (fun H1 locs1 hP1 hD1 hS1 => ?_)
          have hP2 : va_P D vwCl ((xws cI cJ ad w).set a (ad a, .inr (cj, (ks.mapIdx (fun i kd => xcv ad (xval w a i kd))).set j (.int x)))) H1 := hP1
          rw [hset] at hP2
          exact K H1 locs1 ls hP2 hS1 hL
        cases hq : parseFieldDescriptor (T j).2.2.1 with
        | none => rw [hq] at hkd; simp at hkd
        | some ty1 =>
          rw [hq] at hkd
          cases ty1 with
          | int => exact fin _ hq rfl rfl
          | boolean =>
            rcases hbl hkd.2 with rfl | rfl
            · exact fin _ hq rfl rfl
            · exact fin _ hq rfl rfl
          | _ => simp at hkd
      · obtain ⟨hn, -, hkd⟩ := xkd hs hc hk
        simp only [xkindOK, Bool.and_eq_true, Bool.not_eq_true'] at hkd
        have hset : (xws cI cJ ad w).set a (ad a, .inr (cj, (ks.mapIdx (fun i kd => xcv ad (xval w a i kd))).set j (.long x))) = xws cI cJ ad (xuJ w a j x) := xws_set (by rw [xcell_O hs, xfs_set2 hk]) (fun b hb => xcell_ne2 hb)
        cases hq : parseFieldDescriptor (T j).2.2.1 with
        | none => rw [hq] at hkd; simp at hkd
        | some ty1 =>
          rw [hq] at hkd
          cases ty1 with
          | long =>
            refine va_put hx hb hT hws ty hty hnm hown hK hP (xD_ok hi w) hS a he hc j hj (hT _ hl) (fun _ z => z) hkd.1 hq rfl rfl (by rw [List.length_mapIdx]; exact (List.getElem?_eq_some_iff.mp hk).1) hdg (fun H1 locs1 hP1 hD1 hS1 => ?_)
            have hP2 : va_P D vwCl ((xws cI cJ ad w).set a (ad a, .inr (cj, (ks.mapIdx (fun i kd => xcv ad (xval w a i kd))).set j (.long x)))) H1 := hP1
            rw [hset] at hP2
            exact K H1 locs1 ls hP2 hS1 hL
          | _ => simp at hkd
    | iaload =>
      obtain rfl : n = 1 := Nat.eq_of_beq_eq_true hg
      obtain ⟨j, a, st1, k, rfl, hs, hin, rfl⟩ := xiald_inv h
      have he := (xws_get (cI := cI) (cJ := cJ) (ad := ad) (w := w) (xshp_lt hs)).trans (by rw [xcell_I hs])
      exact va_iald hx hb hK hP a 0 he rfl hin hdg (K H locs ls hP hS hL)
    | laload =>
      obtain rfl : n = 1 := Nat.eq_of_beq_eq_true hg
      obtain ⟨j, a, st1, k, rfl, hs, hin, rfl⟩ := xlald_inv h
      have he := (xws_get (cI := cI) (cJ := cJ) (ad := ad) (w := w) (xshp_lt hs)).trans (by rw [xcell_J hs])
      exact va_lald hx hb hK hP a 1 he rfl hin hdg (K H locs ls hP hS hL)
    | iastore =>
      obtain rfl : n = 1 := Nat.eq_of_beq_eq_true hg
      obtain ⟨x, j, a, st1, k, rfl, hs, hin, rfl⟩ := xiast_inv h
      have he := (xws_get (cI := cI) (cJ := cJ) (ad := ad) (w := w) (xshp_lt hs)).trans (by rw [xcell_I hs])
      refine va_iast hx hb hK hP (xD_ok hi w) hS a 0 he rfl hin hdg (fun H1 locs1 hP1 hD1 hS1 => ?_)
      rw [xws_set (w' := xuI w a j.toNatClampNeg x) (by rw [xcell_I hs]; simp only [xuI, xup_self, xup_upd]) (fun b hb => xcell_ne1 hb)] at hP1
      exact K H1 locs1 ls hP1 hS1 hL
    | lastore =>
      obtain rfl : n = 1 := Nat.eq_of_beq_eq_true hg
      obtain ⟨x, j, a, st1, k, rfl, hs, hin, rfl⟩ := xlast_inv h
      have he := (xws_get (cI := cI) (cJ := cJ) (ad := ad) (w := w) (xshp_lt hs)).trans (by rw [xcell_J hs])
      refine va_last hx hb hK hP (xD_ok hi w) hS a 1 he rfl hin hdg (fun H1 locs1 hP1 hD1 hS1 => ?_)
      rw [xws_set (w' := xuJ w a j.toNatClampNeg x) (by rw [xcell_J hs]; simp only [xuJ, xup_self, xup_updL]) (fun b hb => xcell_ne2 hb)] at hP1
      exact K H1 locs1 ls hP1 hS1 hL
    | arraylength =>
      obtain rfl : n = 1 := Nat.eq_of_beq_eq_true hg
      obtain ⟨a, st1, k, rfl, hs, rfl⟩ := xalen_inv h
      rcases hs with hs | hs
      · exact va_alen (x := (k, .inl (w.1 a))) hx hb hK hP a 0 ((xws_get (cI := cI) (cJ := cJ) (ad := ad) (w := w) (xshp_lt hs)).trans (by rw [xcell_I hs])) rfl rfl hdg (K H locs ls hP hS hL)
      · exact va_alen (x := (k, .inr (.inl (w.2 a)))) hx hb hK hP a 1 ((xws_get (cI := cI) (cJ := cJ) (ad := ad) (w := w) (xshp_lt hs)).trans (by rw [xcell_J hs])) rfl rfl hdg (K H locs ls hP hS hL)
    | ldc k =>
      obtain rfl : n = 2 := Nat.eq_of_beq_eq_true hg
      rcases xldc1_inv h with ⟨v, hv, rfl⟩ | ⟨v, hv, rfl⟩
      · exact lv_ldc hx hb hown (hT _ (xcon_ok hv)) hdg (K H locs ls hP hS hL)
      · obtain ⟨tx, hz⟩ := xcon_ok hv ad adV s hSt
        exact va_ldcS hx hb hown hz hdg (K H locs ls hP hS hL)
    | ldc_w k =>
      obtain rfl : n = 3 := Nat.eq_of_beq_eq_true hg
      obtain ⟨v, hv, rfl⟩ := xldcw_inv h
      exact lv_ldcw hx hb hown (hT _ (xcon_ok hv)) hdg (K H locs ls hP hS hL)
    | ldc2_w k =>
      obtain rfl : n = 3 := Nat.eq_of_beq_eq_true hg
      rcases xldc2_inv h with ⟨v, hv, rfl⟩ | ⟨v, hv, rfl⟩
      · exact lv_ldc2 hx hb hown (hT _ (xcon_ok hv)) hdg (K H locs ls hP hS hL)
      · exact lv_ldc2d hx hb hown (hT _ (xcon_ok hv)) hdg (K H locs ls hP hS hL)
    | invokestatic k =>
      obtain rfl : n = 3 := Nat.eq_of_beq_eq_true hg
      obtain ⟨b, y, x, st1, hpr, rfl, hf1, hl1, rfl⟩ := xmath_inv h
      obtain ⟨h1, h2, h3, h4⟩ := xprm_ok hpr
      have hsum : ((st1.map (xcv ad)).map fun v => v.category).sum + 13 ≤ xm_l M := by rw [xcv_sum]; exact hl1
      cases b with
      | true => exact va_mmin hx hb (hml.trans hL.2.1.symm) hown (hT _ h1) (hT _ h2) (hT _ h3) (hT _ h4) hf1 hsum (Nat.le_refl 0) (Nat.le_refl 0) hdg (K H locs ls hP hS hL)
      | false => exact va_mmax hx hb (hml.trans hL.2.1.symm) hown (hT _ h1) (hT _ h2) (hT _ h3) (hT _ h4) hf1 hsum (Nat.le_refl 0) (Nat.le_refl 0) hdg (K H locs ls hP hS hL)
    | invokevirtual k =>
      exact xsop_go hi hM C hd h K H locs ls hP hS hL
    | _ => exact absurd h (fun z => by cases z)
  · cases h
end
