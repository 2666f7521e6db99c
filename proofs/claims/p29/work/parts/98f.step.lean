section
variable {D : va_G} {cI cJ : ClassId} {N sz uc vc : Nat} {R : Room} {ad : Nat → Nat} {M : xMI}
variable {p : Program} {l : Launch} {e : Env} {s : State} {m : MethodId} {args : Array Value} {below : List Frame} {meth : Method} {c : Code} {Q : State → Prop} {F F1 : xF}
theorem no_lt {N a : Nat} (h : a < N ∨ 48 ≤ a) (h2 : a < 48) : a < N := by omega
set_option maxHeartbeats 4000000 in
theorem xs1_go (hi : xinj N sz ad) (hM : xok M) (C : xcx D cI cJ M p s m args meth c) (hu : uc ≤ R.cells ∧ vc ≤ R.slots ∧ xm_f M ≤ R.frames ∧ xm_l M ≤ R.locals) (hN : xNo N F) (h : xs1 M F = some F1) (K : xgo N D cI cJ ad sz M R p l e s m args below meth c uc vc Q F1) : xgo N D cI cJ ad sz M R p l e s m args below meth c uc vc Q F := by
  obtain ⟨hx, hb, hml, hr, hlk, hown, hts, hK, hNW⟩ := id C
  have hT : ∀ w ∈ xTB, w.before args s = true := hts
  obtain ⟨pc, L, st, w⟩ := F
  unfold xs1 at h
  split at h
  · next i n hd =>
    obtain ⟨hdg, hg⟩ := xdec hM hd
    intro H locs ls hP hS hL
    cases i with
    | iconst k =>
      obtain rfl : n = 1 := Nat.eq_of_beq_eq_true hg
      obtain rfl := xpush_inv h
      exact lv_iconst hx hb hdg rfl (K H locs ls hP hS hL)
    | bipush k =>
      obtain rfl : n = 2 := Nat.eq_of_beq_eq_true hg
      obtain rfl := xpush_inv h
      exact lv_bipush hx hb hdg rfl (K H locs ls hP hS hL)
    | sipush k =>
      obtain rfl : n = 3 := Nat.eq_of_beq_eq_true hg
      obtain rfl := xpush_inv h
      exact lv_sipush hx hb hdg rfl (K H locs ls hP hS hL)
    | lconst k =>
      obtain rfl : n = 1 := Nat.eq_of_beq_eq_true hg
      obtain rfl := xpush_inv h
      exact lv_lconst hx hb hdg rfl (K H locs ls hP hS hL)
    | iload k =>
      obtain rfl : n = 2 := Nat.eq_of_beq_eq_true hg
      obtain ⟨x, hv, rfl⟩ := xld1_inv h
      exact lv_iload hx hb hdg (hL.2.2.2 _ _ hv) (K H locs ls hP hS hL)
    | iload_n k =>
      obtain rfl : n = 1 := Nat.eq_of_beq_eq_true hg
      obtain ⟨x, hv, rfl⟩ := xld1_inv h
      exact lv_iload_n hx hb hdg rfl (hL.2.2.2 _ _ hv) (K H locs ls hP hS hL)
    | lload k =>
      obtain rfl : n = 2 := Nat.eq_of_beq_eq_true hg
      obtain ⟨x, hv, rfl⟩ := xld2_inv h
      exact lv_lload hx hb hdg (hL.2.2.2 _ _ hv) (K H locs ls hP hS hL)
    | lload_n k =>
      obtain rfl : n = 1 := Nat.eq_of_beq_eq_true hg
      obtain ⟨x, hv, rfl⟩ := xld2_inv h
      exact lv_lload_n hx hb hdg rfl (hL.2.2.2 _ _ hv) (K H locs ls hP hS hL)
    | aload k =>
      obtain rfl : n = 2 := Nat.eq_of_beq_eq_true hg
      obtain ⟨x, hv, rfl⟩ := xlda_inv h
      exact lv_aload hx hb hdg (hL.2.2.2 _ _ hv) (K H locs ls hP hS hL)
    | aload_n k =>
      obtain rfl : n = 1 := Nat.eq_of_beq_eq_true hg
      obtain ⟨x, hv, rfl⟩ := xlda_inv h
      exact lv_aload_n hx hb hdg rfl (hL.2.2.2 _ _ hv) (K H locs ls hP hS hL)
    | istore k =>
      obtain rfl : n = 2 := Nat.eq_of_beq_eq_true hg
      obtain ⟨x, st1, rfl, hlt, rfl⟩ := xsti_inv h
      exact lv_istore hx hb hdg hL.has (by rw [← hL.1]; exact hlt) rfl (fun ls1 h1 => K H locs ls1 hP hS (hL.set1 h1))
    | istore_n k =>
      obtain rfl : n = 1 := Nat.eq_of_beq_eq_true hg
      obtain ⟨x, st1, rfl, hlt, rfl⟩ := xsti_inv h
      exact lv_istore_n hx hb hdg rfl hL.has (by rw [← hL.1]; exact hlt) rfl (fun ls1 h1 => K H locs ls1 hP hS (hL.set1 h1))
    | astore k =>
      obtain rfl : n = 2 := Nat.eq_of_beq_eq_true hg
      obtain ⟨x, st1, rfl, hlt, rfl⟩ := xsta_inv h
      exact lv_astore hx hb hdg hL.has (by rw [← hL.1]; exact hlt) rfl (fun ls1 h1 => K H locs ls1 hP hS (hL.set1 h1))
    | astore_n k =>
      obtain rfl : n = 1 := Nat.eq_of_beq_eq_true hg
      obtain ⟨x, st1, rfl, hlt, rfl⟩ := xsta_inv h
      exact lv_astore_n hx hb hdg rfl hL.has (by rw [← hL.1]; exact hlt) rfl (fun ls1 h1 => K H locs ls1 hP hS (hL.set1 h1))
    | lstore k =>
      obtain rfl : n = 2 := Nat.eq_of_beq_eq_true hg
      obtain ⟨x, st1, rfl, hlt, rfl⟩ := xstl_inv h
      exact lv_lstore hx hb hdg hL.has (by rw [← hL.1]; exact hlt) rfl (fun ls1 h1 => K H locs ls1 hP hS (hL.set2 h1))
    | lstore_n k =>
      obtain rfl : n = 1 := Nat.eq_of_beq_eq_true hg
      obtain ⟨x, st1, rfl, hlt, rfl⟩ := xstl_inv h
      exact lv_lstore_n hx hb hdg rfl hL.has (by rw [← hL.1]; exact hlt) rfl (fun ls1 h1 => K H locs ls1 hP hS (hL.set2 h1))
    | iinc k x =>
      obtain rfl : n = 3 := Nat.eq_of_beq_eq_true hg
      obtain ⟨y, hv, hlt, rfl⟩ := xinc_inv h
      obtain ⟨j, hj⟩ := List.getElem?_of_mem (xLl_of (ad := ad) hv)
      exact lv_iinc hx hb hdg hL.has (k := j) hj rfl (by rw [← hL.1]; exact hlt) rfl (fun ls1 h1 => K H locs ls1 hP hS (hL.set1 (v := .int (y + Int32.ofInt x)) h1))
    | iadd =>
      obtain rfl : n = 1 := Nat.eq_of_beq_eq_true hg
      obtain ⟨y, x, st1, rfl, rfl⟩ := xb2_inv h
      exact lv_iadd hx hb hdg (K H locs ls hP hS hL)
    | isub =>
      obtain rfl : n = 1 := Nat.eq_of_beq_eq_true hg
      obtain ⟨y, x, st1, rfl, rfl⟩ := xb2_inv h
      exact lv_isub hx hb hdg (K H locs ls hP hS hL)
    | imul =>
      obtain rfl : n = 1 := Nat.eq_of_beq_eq_true hg
      obtain ⟨y, x, st1, rfl, rfl⟩ := xb2_inv h
      exact lv_imul hx hb hdg (K H locs ls hP hS hL)
    | iand =>
      obtain rfl : n = 1 := Nat.eq_of_beq_eq_true hg
      obtain ⟨y, x, st1, rfl, rfl⟩ := xb2_inv h
      exact lv_iand hx hb hdg (K H locs ls hP hS hL)
    | ior =>
      obtain rfl : n = 1 := Nat.eq_of_beq_eq_true hg
      obtain ⟨y, x, st1, rfl, rfl⟩ := xb2_inv h
      exact lv_ior hx hb hdg (K H locs ls hP hS hL)
    | ixor =>
      obtain rfl : n = 1 := Nat.eq_of_beq_eq_true hg
      obtain ⟨y, x, st1, rfl, rfl⟩ := xb2_inv h
      exact lv_ixor hx hb hdg (K H locs ls hP hS hL)
    | ishl =>
      obtain rfl : n = 1 := Nat.eq_of_beq_eq_true hg
      obtain ⟨y, x, st1, rfl, rfl⟩ := xb2_inv h
      exact lv_ishl hx hb hdg (K H locs ls hP hS hL)
    | ishr =>
      obtain rfl : n = 1 := Nat.eq_of_beq_eq_true hg
      obtain ⟨y, x, st1, rfl, rfl⟩ := xb2_inv h
      exact lv_ishr hx hb hdg (K H locs ls hP hS hL)
    | iushr =>
      obtain rfl : n = 1 := Nat.eq_of_beq_eq_true hg
      obtain ⟨y, x, st1, rfl, rfl⟩ := xb2_inv h
      exact lv_iushr hx hb hdg rfl (K H locs ls hP hS hL)
    | idiv =>
      obtain rfl : n = 1 := Nat.eq_of_beq_eq_true hg
      obtain ⟨y, x, st1, rfl, hy, rfl⟩ := xb0_inv h
      exact lv_idiv hx hb hdg hy (K H locs ls hP hS hL)
    | irem =>
      obtain rfl : n = 1 := Nat.eq_of_beq_eq_true hg
      obtain ⟨y, x, st1, rfl, hy, rfl⟩ := xb0_inv h
      exact lv_irem hx hb hdg hy (K H locs ls hP hS hL)
    | ineg =>
      obtain rfl : n = 1 := Nat.eq_of_beq_eq_true hg
      obtain ⟨x, st1, rfl, rfl⟩ := xb1_inv h
      exact lv_ineg hx hb hdg (K H locs ls hP hS hL)
    | dcmp nn =>
      cases nn with
      | l =>
        obtain rfl : n = 1 := Nat.eq_of_beq_eq_true hg
        obtain ⟨y, x, st1, rfl, rfl⟩ := xdcmp_inv h
        exact lv_dcmp hx hb hdg (K H locs ls hP hS hL)
      | g => cases h
    | i2c =>
      obtain rfl : n = 1 := Nat.eq_of_beq_eq_true hg
      obtain ⟨x, st1, rfl, rfl⟩ := xb1_inv h
      exact lv_i2c hx hb hdg rfl (K H locs ls hP hS hL)
    | land =>
      obtain rfl : n = 1 := Nat.eq_of_beq_eq_true hg
      obtain ⟨y, x, st1, rfl, rfl⟩ := xj2_inv h
      exact lv_land hx hb hdg (K H locs ls hP hS hL)
    | lor =>
      obtain rfl : n = 1 := Nat.eq_of_beq_eq_true hg
      obtain ⟨y, x, st1, rfl, rfl⟩ := xj2_inv h
      exact lv_lor hx hb hdg (K H locs ls hP hS hL)
    | lxor =>
      obtain rfl : n = 1 := Nat.eq_of_beq_eq_true hg
      obtain ⟨y, x, st1, rfl, rfl⟩ := xj2_inv h
      exact lv_lxor hx hb hdg (K H locs ls hP hS hL)
    | ladd =>
      obtain rfl : n = 1 := Nat.eq_of_beq_eq_true hg
      obtain ⟨y, x, st1, rfl, rfl⟩ := xj2_inv h
      exact lv_ladd hx hb hdg (K H locs ls hP hS hL)
    | lsub =>
      obtain rfl : n = 1 := Nat.eq_of_beq_eq_true hg
      obtain ⟨y, x, st1, rfl, rfl⟩ := xj2_inv h
      exact lv_lsub hx hb hdg (K H locs ls hP hS hL)
    | lshl =>
      obtain rfl : n = 1 := Nat.eq_of_beq_eq_true hg
      obtain ⟨y, x, st1, rfl, rfl⟩ := xji_inv h
      exact lv_lshl hx hb hdg rfl (K H locs ls hP hS hL)
    | lushr =>
      obtain rfl : n = 1 := Nat.eq_of_beq_eq_true hg
      obtain ⟨y, x, st1, rfl, rfl⟩ := xji_inv h
      exact lv_lushr hx hb hdg rfl (K H locs ls hP hS hL)
    | lcmp =>
      obtain rfl : n = 1 := Nat.eq_of_beq_eq_true hg
      obtain ⟨y, x, st1, rfl, rfl⟩ := xlcmp_inv h
      exact W.lcmp hx hb hdg (K H locs ls hP hS hL)
    | l2i =>
      obtain rfl : n = 1 := Nat.eq_of_beq_eq_true hg
      obtain ⟨x, st1, rfl, rfl⟩ := xl2i_inv h
      exact lv_l2i hx hb hdg rfl (K H locs ls hP hS hL)
    | i2d =>
      obtain rfl : n = 1 := Nat.eq_of_beq_eq_true hg
      obtain ⟨x, st1, rfl, rfl⟩ := xi2d_inv h
      exact lv_i2d hx hb hdg (K H locs ls hP hS hL)
    | ddiv =>
      obtain rfl : n = 1 := Nat.eq_of_beq_eq_true hg
      obtain ⟨y, x, st1, rfl, hy, rfl⟩ := xddiv_inv h
      exact lv_ddiv hx hb hdg hy (K H locs ls hP hS hL)
    | dup =>
      obtain rfl : n = 1 := Nat.eq_of_beq_eq_true hg
      rcases xdup_inv h with ⟨x, st1, rfl, rfl⟩ | ⟨x, st1, rfl, rfl⟩
      · exact lv_dup hx hb hdg rfl (K H locs ls hP hS hL)
      · exact lv_dup hx hb hdg rfl (K H locs ls hP hS hL)
    | dup2 =>
      obtain rfl : n = 1 := Nat.eq_of_beq_eq_true hg
      obtain ⟨y, x, st1, rfl, rfl⟩ := xdup2_inv h
      exact lv_dup2_11 hx hb hdg rfl rfl (K H locs ls hP hS hL)
    | pop =>
      obtain rfl : n = 1 := Nat.eq_of_beq_eq_true hg
      obtain ⟨x, st1, rfl, rfl⟩ := xpop_inv h
      exact lv_pop hx hb hdg rfl (K H locs ls hP hS hL)
    | goto o =>
      cases h
      exact lv_goto hx hb hdg (of_decide_eq_true hg) (K H locs ls hP hS hL)
    | ifCond cd o =>
      cases cd with
      | eq =>
        obtain ⟨x, st1, rfl, rfl⟩ := xbr1_inv h
        have hk := K H locs ls hP hS hL
        dsimp only at hk
        exact lv_if_eq hx hb hdg (of_decide_eq_true hg) (fun z => by rw [decide_eq_true z] at hk; exact hk) (fun z => by rw [decide_eq_false z] at hk; exact hk)
      | ne =>
        obtain ⟨x, st1, rfl, rfl⟩ := xbr1_inv h
        have hk := K H locs ls hP hS hL
        dsimp only at hk
        exact lv_if_ne hx hb hdg (of_decide_eq_true hg) (fun z => by rw [decide_eq_false z] at hk; exact hk) (fun z => by rw [decide_eq_true z] at hk; exact hk)
      | lt =>
        obtain ⟨x, st1, rfl, rfl⟩ := xbr1_inv h
        have hk := K H locs ls hP hS hL
        dsimp only at hk
        exact lv_if_lt hx hb hdg (of_decide_eq_true hg) (fun z => by rw [decide_eq_true z] at hk; exact hk) (fun z => by rw [decide_eq_false z] at hk; exact hk)
      | ge =>
        obtain ⟨x, st1, rfl, rfl⟩ := xbr1_inv h
        have hk := K H locs ls hP hS hL
        dsimp only at hk
        exact lv_if_ge hx hb hdg (of_decide_eq_true hg) (fun z => by rw [decide_eq_true z] at hk; exact hk) (fun z => by rw [decide_eq_false z] at hk; exact hk)
      | gt =>
        obtain ⟨x, st1, rfl, rfl⟩ := xbr1_inv h
        have hk := K H locs ls hP hS hL
        dsimp only at hk
        exact lv_if_gt hx hb hdg (of_decide_eq_true hg) (fun z => by rw [decide_eq_true z] at hk; exact hk) (fun z => by rw [decide_eq_false z] at hk; exact hk)
      | le =>
        obtain ⟨x, st1, rfl, rfl⟩ := xbr1_inv h
        have hk := K H locs ls hP hS hL
        dsimp only at hk
        exact lv_if_le hx hb hdg (of_decide_eq_true hg) (fun z => by rw [decide_eq_true z] at hk; exact hk) (fun z => by rw [decide_eq_false z] at hk; exact hk)
    | if_icmp cd o =>
      cases cd with
      | eq =>
        obtain ⟨y, x, st1, rfl, rfl⟩ := xbr2_inv h
        have hk := K H locs ls hP hS hL
        dsimp only at hk
        exact lv_icmp_eq hx hb hdg (of_decide_eq_true hg) (fun z => by rw [decide_eq_true z] at hk; exact hk) (fun z => by rw [decide_eq_false z] at hk; exact hk)
      | ne =>
        obtain ⟨y, x, st1, rfl, rfl⟩ := xbr2_inv h
        have hk := K H locs ls hP hS hL
        dsimp only at hk
        exact lv_icmp_ne hx hb hdg (of_decide_eq_true hg) (fun z => by rw [decide_eq_false z] at hk; exact hk) (fun z => by rw [decide_eq_true z] at hk; exact hk)
      | lt =>
        obtain ⟨y, x, st1, rfl, rfl⟩ := xbr2_inv h
        have hk := K H locs ls hP hS hL
        dsimp only at hk
        exact lv_icmp_lt hx hb hdg (of_decide_eq_true hg) (fun z => by rw [decide_eq_true z] at hk; exact hk) (fun z => by rw [decide_eq_false z] at hk; exact hk)
      | ge =>
        obtain ⟨y, x, st1, rfl, rfl⟩ := xbr2_inv h
        have hk := K H locs ls hP hS hL
        dsimp only at hk
        exact lv_icmp_ge hx hb hdg (of_decide_eq_true hg) (fun z => by rw [decide_eq_true z] at hk; exact hk) (fun z => by rw [decide_eq_false z] at hk; exact hk)
      | gt =>
        obtain ⟨y, x, st1, rfl, rfl⟩ := xbr2_inv h
        have hk := K H locs ls hP hS hL
        dsimp only at hk
        exact lv_icmp_gt hx hb hdg (of_decide_eq_true hg) (fun z => by rw [decide_eq_true z] at hk; exact hk) (fun z => by rw [decide_eq_false z] at hk; exact hk)
      | le =>
        obtain ⟨y, x, st1, rfl, rfl⟩ := xbr2_inv h
        have hk := K H locs ls hP hS hL
        dsimp only at hk
        exact lv_icmp_le hx hb hdg (of_decide_eq_true hg) (fun z => by rw [decide_eq_true z] at hk; exact hk) (fun z => by rw [decide_eq_false z] at hk; exact hk)
    | tableswitch d lo hi offs =>
      obtain ⟨x, st1, tg, rfl, rfl, ht⟩ := xtsw_inv h
      rcases ht with ⟨h1, h2⟩ | ⟨h1, h2, o, h3, h4⟩
      · exact lv_tableOut hx hb hdg h1 h2 (K H locs ls hP hS hL)
      · exact lv_tableIn hx hb hdg h1 h2 h3 h4 (K H locs ls hP hS hL)
    | lookupswitch d ps =>
      obtain ⟨x, st1, tg, rfl, rfl, h1, h2⟩ := xlsw_inv h
      exact lv_lookup hx hb hdg h1 rfl h2 (K H locs ls hP hS hL)
    | getfield k =>
      obtain rfl : n = 3 := Nat.eq_of_beq_eq_true hg
      obtain ⟨cj, j, a, st1, ks, kd, hlk2, rfl, hs, hk, rfl⟩ := xgetf_inv (c := xm_c M) h
      obtain ⟨⟨C1, T, Nf, ty, hc, hws, hty, hnm⟩, C2, T2, N2, hc2, hj, hl⟩ := xflk_ok hlk2
      cases hc.symm.trans hc2
      have haN : a < N := no_lt (show (a < N ∨ 48 ≤ a) ∧ noS N st1 from hN.2).1 (xshp_lt hs)
      have he := (xws_get (cI := cI) (cJ := cJ) (ad := ad) (w := w) haN).trans (by rw [xcell_O hs])
      refine va_get hx hb hT hws hown hK hP a he hc j hj (hT _ hl) (fun _ z => z) (v := xcv ad (xval w a j kd)) ?_ hdg (K H locs ls hP hS hL)
      rw [List.getElem?_mapIdx, hk]
      rfl
    | putfield k =>
      obtain rfl : n = 3 := Nat.eq_of_beq_eq_true hg
      obtain ⟨cj, j, a, st1, ks, hlk2, hs, hv⟩ := xputf_inv h
      obtain ⟨⟨C1, T, Nf, ty, hc, hws, hty, hnm⟩, C2, T2, N2, hc2, hj, hl⟩ := xflk_ok hlk2
      cases hc.symm.trans hc2
      have haN : a < N := by
        rcases hv with ⟨x, e, -⟩ | ⟨x, e, -⟩
        · rw [e] at hN
          exact no_lt (show (a < N ∨ 48 ≤ a) ∧ noS N st1 from hN.2).1 (xshp_lt hs)
        · rw [e] at hN
          exact no_lt (show (a < N ∨ 48 ≤ a) ∧ noS N st1 from hN.2).1 (xshp_lt hs)
      have he := (xws_get (cI := cI) (cJ := cJ) (ad := ad) (w := w) haN).trans (by rw [xcell_O hs])
      rcases hv with ⟨x, rfl, hk, hbl, rfl⟩ | ⟨x, rfl, hk, rfl⟩
      · obtain ⟨hn, -, hkd⟩ := xkd hs hc hk
        simp only [xkindOK, Bool.and_eq_true, Bool.not_eq_true'] at hkd
        have hset : (xws N cI cJ ad w).set a (ad a, .inr (cj, (ks.mapIdx (fun i kd => xcv ad (xval w a i kd))).set j (.int x))) = xws N cI cJ ad (xuI w a j x) := xws_set (by rw [xcell_O hs, xfs_set1 hk]) (fun b hb => xcell_ne1 hb)
        have fin : ∀ ty1 : FieldType, parseFieldDescriptor (T j).2.2.1 = some ty1 → narrow ty1 (.int x) = .int x → fits ty1 (.int x) = true → W p l e R s m args below meth c H locs uc vc Q (F0 m pc ls ((.int x :: .ref a :: st1 : List Value).map (xcv ad))) := by
          intro ty1 q1 q2 q3
          refine va_put hx hb hT hws ty hty hnm hown hK hP (xD_ok hi w) hS a he hc j hj (hT _ hl) (fun _ z => z) hkd.1 q1 q2 q3 (by rw [List.length_mapIdx]; exact (List.getElem?_eq_some_iff.mp hk).1) hdg (fun H1 locs1 hP1 hD1 hS1 => ?_)
          have hP2 : va_P D vwCl ((xws N cI cJ ad w).set a (ad a, .inr (cj, (ks.mapIdx (fun i kd => xcv ad (xval w a i kd))).set j (.int x)))) H1 := hP1
          rw [hset] at hP2
          exact K H1 locs1 ls hP2 hS1 hL
        cases hq : parseFieldDescriptor (T j).2.2.1 with
        | none => rw [hq] at hkd; simp at hkd
        | some ty1 =>
          rw [hq] at hkd
          cases ty1 with
          | int => exact fin _ hq rfl rfl
          | boolean =>
            rcases hbl hkd.2 with rfl | rfl
            · exact fin _ hq rfl rfl
            · exact fin _ hq rfl rfl
          | _ => simp at hkd
      · obtain ⟨hn, -, hkd⟩ := xkd hs hc hk
        simp only [xkindOK, Bool.and_eq_true, Bool.not_eq_true'] at hkd
        have hset : (xws N cI cJ ad w).set a (ad a, .inr (cj, (ks.mapIdx (fun i kd => xcv ad (xval w a i kd))).set j (.long x))) = xws N cI cJ ad (xuJ w a j x) := xws_set (by rw [xcell_O hs, xfs_set2 hk]) (fun b hb => xcell_ne2 hb)
        cases hq : parseFieldDescriptor (T j).2.2.1 with
        | none => rw [hq] at hkd; simp at hkd
        | some ty1 =>
          rw [hq] at hkd
          cases ty1 with
          | long =>
            refine va_put hx hb hT hws ty hty hnm hown hK hP (xD_ok hi w) hS a he hc j hj (hT _ hl) (fun _ z => z) hkd.1 hq rfl rfl (by rw [List.length_mapIdx]; exact (List.getElem?_eq_some_iff.mp hk).1) hdg (fun H1 locs1 hP1 hD1 hS1 => ?_)
            have hP2 : va_P D vwCl ((xws N cI cJ ad w).set a (ad a, .inr (cj, (ks.mapIdx (fun i kd => xcv ad (xval w a i kd))).set j (.long x)))) H1 := hP1
            rw [hset] at hP2
            exact K H1 locs1 ls hP2 hS1 hL
          | _ => simp at hkd
    | iaload =>
      obtain rfl : n = 1 := Nat.eq_of_beq_eq_true hg
      obtain ⟨j, a, st1, k, rfl, hs, hin, rfl⟩ := xiald_inv h
      have haN : a < N := no_lt (show (a < N ∨ 48 ≤ a) ∧ noS N st1 from hN.2).1 (xshp_lt hs)
      have he := (xws_get (cI := cI) (cJ := cJ) (ad := ad) (w := w) haN).trans (by rw [xcell_I hs])
      exact va_iald hx hb hK hP a 0 he rfl hin hdg (K H locs ls hP hS hL)
    | laload =>
      obtain rfl : n = 1 := Nat.eq_of_beq_eq_true hg
      obtain ⟨j, a, st1, k, rfl, hs, hin, rfl⟩ := xlald_inv h
      have haN : a < N := no_lt (show (a < N ∨ 48 ≤ a) ∧ noS N st1 from hN.2).1 (xshp_lt hs)
      have he := (xws_get (cI := cI) (cJ := cJ) (ad := ad) (w := w) haN).trans (by rw [xcell_J hs])
      exact va_lald hx hb hK hP a 1 he rfl hin hdg (K H locs ls hP hS hL)
    | iastore =>
      obtain rfl : n = 1 := Nat.eq_of_beq_eq_true hg
      obtain ⟨x, j, a, st1, k, rfl, hs, hin, rfl⟩ := xiast_inv h
      have haN : a < N := no_lt (show (a < N ∨ 48 ≤ a) ∧ noS N st1 from hN.2).1 (xshp_lt hs)
      have he := (xws_get (cI := cI) (cJ := cJ) (ad := ad) (w := w) haN).trans (by rw [xcell_I hs])
      refine va_iast hx hb hK hP (xD_ok hi w) hS a 0 he rfl hin hdg (fun H1 locs1 hP1 hD1 hS1 => ?_)
      rw [xws_set (w' := xuI w a j.toNatClampNeg x) (by rw [xcell_I hs]; simp only [xuI, xup_self, xup_upd]) (fun b hb => xcell_ne1 hb)] at hP1
      exact K H1 locs1 ls hP1 hS1 hL
    | lastore =>
      obtain rfl : n = 1 := Nat.eq_of_beq_eq_true hg
      obtain ⟨x, j, a, st1, k, rfl, hs, hin, rfl⟩ := xlast_inv h
      have haN : a < N := no_lt (show (a < N ∨ 48 ≤ a) ∧ noS N st1 from hN.2).1 (xshp_lt hs)
      have he := (xws_get (cI := cI) (cJ := cJ) (ad := ad) (w := w) haN).trans (by rw [xcell_J hs])
      refine va_last hx hb hK hP (xD_ok hi w) hS a 1 he rfl hin hdg (fun H1 locs1 hP1 hD1 hS1 => ?_)
      rw [xws_set (w' := xuJ w a j.toNatClampNeg x) (by rw [xcell_J hs]; simp only [xuJ, xup_self, xup_updL]) (fun b hb => xcell_ne2 hb)] at hP1
      exact K H1 locs1 ls hP1 hS1 hL
    | arraylength =>
      obtain rfl : n = 1 := Nat.eq_of_beq_eq_true hg
      obtain ⟨a, st1, k, rfl, hs, rfl⟩ := xalen_inv h
      have haN : a < N := no_lt (show (a < N ∨ 48 ≤ a) ∧ noS N st1 from hN.2).1 (hs.elim xshp_lt xshp_lt)
      rcases hs with hs | hs
      · exact va_alen (x := (k, .inl (w.1 a))) hx hb hK hP a 0 ((xws_get (cI := cI) (cJ := cJ) (ad := ad) (w := w) haN).trans (by rw [xcell_I hs])) rfl rfl hdg (K H locs ls hP hS hL)
      · exact va_alen (x := (k, .inr (.inl (w.2 a)))) hx hb hK hP a 1 ((xws_get (cI := cI) (cJ := cJ) (ad := ad) (w := w) haN).trans (by rw [xcell_J hs])) rfl rfl hdg (K H locs ls hP hS hL)
    | ldc k =>
      obtain rfl : n = 2 := Nat.eq_of_beq_eq_true hg
      rcases xldc1_inv h with ⟨v, hv, rfl⟩ | ⟨v, hv, rfl⟩
      · exact lv_ldc hx hb hown (hT _ (xcon_ok hv)) hdg (K H locs ls hP hS hL)
      · exact absurd (xcon_ok hv) (fun z => z)
    | ldc_w k =>
      obtain rfl : n = 3 := Nat.eq_of_beq_eq_true hg
      obtain ⟨v, hv, rfl⟩ := xldcw_inv h
      exact lv_ldcw hx hb hown (hT _ (xcon_ok hv)) hdg (K H locs ls hP hS hL)
    | ldc2_w k =>
      obtain rfl : n = 3 := Nat.eq_of_beq_eq_true hg
      rcases xldc2_inv h with ⟨v, hv, rfl⟩ | ⟨v, hv, rfl⟩
      · exact lv_ldc2 hx hb hown (hT _ (xcon_ok hv)) hdg (K H locs ls hP hS hL)
      · exact lv_ldc2d hx hb hown (hT _ (xcon_ok hv)) hdg (K H locs ls hP hS hL)
    | invokestatic k =>
      obtain rfl : n = 3 := Nat.eq_of_beq_eq_true hg
      obtain ⟨b, y, x, st1, hpr, rfl, hf1, hl1, rfl⟩ := xmath_inv h
      obtain ⟨h1, h2, h3, h4⟩ := xprm_ok hpr
      have hsum : ((st1.map (xcv ad)).map fun v => v.category).sum + 13 ≤ xm_l M := by rw [xcv_sum]; exact hl1
      cases b with
      | true => exact va_mmin hx hb (hml.trans hL.2.1.symm) hown (hT _ h1) (hT _ h2) (hT _ h3) (hT _ h4) (Nat.le_trans hf1 hu.2.2.1) (Nat.le_trans hsum hu.2.2.2) hu.1 hu.2.1 hdg (K H locs ls hP hS hL)
      | false => exact va_mmax hx hb (hml.trans hL.2.1.symm) hown (hT _ h1) (hT _ h2) (hT _ h3) (hT _ h4) (Nat.le_trans hf1 hu.2.2.1) (Nat.le_trans hsum hu.2.2.2) hu.1 hu.2.1 hdg (K H locs ls hP hS hL)
    | invokevirtual k =>
      exact absurd (xsopS_no (k := k) h) (fun z => z)
    | _ => exact absurd h (fun z => by cases z)
  · cases h
end
