/-! the law's run, from its first question on -/
def xclr0 (w : xW) : xW := (xup w.1 48 (fun _ => 0), w.2)
theorem xclr0_kq (w : xW) : xkq [(48, none)] w (xclr0 w) := fun a j h => by
  have h8 : a ≠ 48 := fun e => by rw [e] at h; cases h
  refine ⟨?_, rfl⟩
  show xup w.1 48 _ a j = _
  rw [xup_ne _ _ h8]
theorem lI_clr {w : xW} {A : xAb} (h : lI w A) : lI (xclr0 w) A := ⟨cI_kq h.1 (xclr0_kq w), h.2.1, h.2.2.1, h.2.2.2⟩
section
variable {D : va_G} {cI cJ : ClassId} {ad : Nat → Nat}
variable {p : Program} {l : Launch} {e : Env} {s : State} {m : MethodId} {below : List Frame} {meth : Method} {c : Code}
variable {b L : Nat} {xs : Nat → Int32}
theorem xws_clr {w : xW} : xws 47 cI cJ ad (xclr0 w) = xws 47 cI cJ ad w := by
  unfold xws
  refine List.map_congr_left fun a ha => ?_
  have ha := List.mem_range.mp ha
  rw [xcell_eq (ad := ad) (w := w) (ad' := ad) (w' := xclr0 w) (xup_ne _ _ (show a ≠ 48 by omega)) rfl (fun r hr => rfl)]
def lZ (D : va_G) (cI cJ : ClassId) (ad : Nat → Nat) (p : Program) (l : Launch) (e : Env) (s : State) (m : MethodId) (below : List Frame) (meth : Method) (c : Code) (b bs bv : Nat) : xF → Prop := fun F => xNo 47 F → nc F.2.2.2 = 47 → xgo 47 D cI cJ ad s.heap.size ML_law room_1 p l e s m #[Value.ref b] below meth c (bs + cw F.2.2.2) (bv + 10 * cw F.2.2.2) (lw_Z below #[Value.ref b] s) F
theorem cw_2 (w : xW) (h : nc w = 47) : cw w ≤ 1 := by
  unfold cw
  by_cases h1 : w.1 48 0 = 1
  · unfold nc at h
    rw [if_pos h1] at h
    omega
  · rw [if_neg h1]
    by_cases h2 : w.1 48 1 = 0
    · rw [if_pos h2]
      omega
    · rw [if_neg h2]
      omega
theorem lZ_rule (C0 : lw_At p s m meth c b L xs) (C : xcx D cI cJ ML_law p s m #[Value.ref b] meth c) (hi : xinj 47 s.heap.size ad) (h200 : ad 200 = b) (hL31 : L < 2 ^ 31) {bs bv : Nat} (hbs : bs + 1 ≤ 600000) (hbv : bv + 10 ≤ 7302249) : xYr ML_law (cvl xs L, lZ D cI cJ ad p l e s m below meth c b bs bv) := by
  obtain ⟨hx, hb, hr, hml, hown, hts0, hX, hbl, hlocks, hgv⟩ := id C0
  have fits : ∀ w, nc w = 47 → bs + cw w ≤ room_1.cells ∧ bv + 10 * cw w ≤ room_1.slots ∧ xm_f ML_law ≤ room_1.frames ∧ xm_l ML_law ≤ room_1.locals := fun w h => by
    have := cw_2 w h
    exact ⟨by show _ ≤ 600000; omega, by show _ ≤ 7302249; omega, Nat.le_of_ble_eq_true rfl, Nat.le_of_ble_eq_true rfl⟩
  refine ⟨?_, ?_, ?_, ?_⟩
  · intro F F1 h hZ hN hnc
    obtain ⟨k1, k2⟩ := xs1_keep (by omega) hN h
    have k := hZ k1 ((nc_of k2).trans hnc)
    rw [cw_of k2] at k
    exact xs1_go hi mkL_law C (fits _ hnc) hN h k
  · intro F M2 as F1 r2 w2 h h2 hZ hN hnc
    obtain ⟨n1, n2, n3, hM2, n5⟩ := xcal_no xlks_law hN h
    have hs := h2 _ (xsem_rule (D := D) (cI := cI) (cJ := cJ) (l := l))
    obtain ⟨⟨a1, a2, a3⟩, _⟩ := hs hM2.1 (by show xNo (nc F.2.2.2) _; rw [hnc]; exact xent_no n1)
    have a1 : nc w2 = nc F.2.2.2 := a1
    have a2 : rOK (nc F.2.2.2) M2 r2 := a2
    have a3 : cw F.2.2.2 ≤ cw w2 := a3
    have met := xsem_met (D := D) (cI := cI) (cJ := cJ) (l := l) (sz := s.heap.size) (ad := ad) hM2 n5 (by rw [hnc]; exact n1) (by rw [hnc]; exact hi) hs
    rw [hnc] at a1 a2 met
    have k := hZ (xpsh_no n2 a2) a1
    have k : xgo 47 D cI cJ ad s.heap.size ML_law room_1 p l e s m #[Value.ref b] below meth c (bs + cw w2) (bv + 10 * cw w2) (lw_Z below #[Value.ref b] s) (xpsh F1 r2 w2) := k
    have f2 := fits w2 a1
    refine xcal_go xlks_law (mc := cw w2 - cw F.2.2.2) hi mkL_law C hN ⟨by omega, by omega, f2.2.2⟩ h met ?_
    rw [show bs + cw F.2.2.2 + (cw w2 - cw F.2.2.2) = bs + cw w2 by omega, show bv + 10 * cw F.2.2.2 + 10 * (cw w2 - cw F.2.2.2) = bv + 10 * cw w2 by omega]
    exact k
  · intro pc L1 L2 st w hn hl hZ hN hnc H locs ls hP1 hS hL
    exact hZ ⟨fun i a hi => hN.1 i a (hl i _ hi), hN.2⟩ hnc H locs ls hP1 hS (hL.le hn hl)
  · intro pc L1 j st w hj hd hsum hZ hN hnc H locs ls hP hS hL
    have k := hZ ⟨hN.1, (show (200 < 47 ∨ 48 ≤ 200) ∧ noS 47 st from hN.2).2⟩ hnc
    have hf := fits w hnc
    obtain ⟨_, _, _, _, _, _, hts, hG⟩ := id C
    have hbA : ¬ xA s.heap.size b := fun z => by
      have z : s.heap.size ≤ b := z
      omega
    have pre : ∀ U : State, U.heap = H → s.WarmedH U.vm → va_X b L xs U U.heap ∧ b < U.heap.size := fun U hU hW => by
      obtain ⟨scr, q1, q2, q3⟩ := hX
      rw [hU]
      refine ⟨va_X.moved hW.alike ⟨scr, by rw [hS.2.1 b hbl hbA]; exact q1, q2, q3⟩, Nat.lt_of_lt_of_le hbl hS.1⟩
    have hstk : (((.int (nI j) :: .ref 200 :: st : List Value)).map (xcv ad)) = ([.ref b, .int (nI j)] : List Value).reverse ++ st.map (xcv ad) := by
      show Value.int (nI j) :: .ref (ad 200) :: _ = _
      rw [h200]
      rfl
    have hs2 : ((st.map (xcv ad)).map fun v => v.category).sum ≤ 8 := by rw [xcv_sum]; exact hsum
    have blind : FrameBlind (va_Pc [.ref b, .int (nI j)] (fun U => va_X b L xs U U.heap ∧ b < U.heap.size)) := fun a U g mk q => ⟨q.1, va_X.moved (u := U) (U := U.calling g mk a) (Vm.Alike.refl U.vm) q.2.1, q.2.2⟩
    have fin : va_Run p l e room_1 s m #[Value.ref b] below meth c H locs (bs + cw w) (bv + 10 * cw w) 0 0 (F0 m pc ls (([.ref b, .int (nI j)] : List Value).reverse ++ st.map (xcv ad))) (st.map (xcv ad)) ((fun _ st o t => o = .returned (some (.int (cvl xs L j))) ∧ t.heap = st.heap) ([.ref b, .int (nI j)] : List Value).toArray) (fun _ => False) :=
      va_runS (n := 2) (own := RL) (index := 94) ⟨hx, hb, hml, hown, hts⟩ (met_cell (l := l) (b := b) (xs := xs) hL31 (show j < 2 ^ 31 by omega)) ⟨callB_of 2 hts (xgood_in mkL_cell) rfl rfl rfl (hts _ mkL_cell.2.2.2.2.1) (hts _ xlw_cell.1) mkL_cell.2.2.1 ⟨Nat.le_of_ble_eq_true rfl, Nat.le_of_ble_eq_true rfl⟩, hts _ xlw_cell.2⟩ ⟨blind, fun U hU hW => ⟨rfl, pre U hU hW⟩⟩ rfl rfl hL.2.1 rfl (lv_room hs2) (xdec mkL_law hd).1 ⟨hf.1, hf.2.1⟩
    show W p l e room_1 s m #[Value.ref b] below meth c H locs (bs + cw w) (bv + 10 * cw w) _ (F0 m pc ls (((.int (nI j) :: .ref 200 :: st : List Value)).map (xcv ad)))
    rw [hstk]
    intro T hT X
    obtain ⟨v, st₀, t, T', L2, h0, X', hL2, e1, e2, ⟨hv, hp⟩, stp⟩ := fin T hT X
    cases hv
    have eH : T'.heap = H := e1.trans (hp.trans h0)
    obtain ⟨t2, a1, b1⟩ := k H (locs ++ L2) ls hP ⟨hS.1, hS.2.1, fun q hq => by
      rcases List.mem_append.mp hq with h | h
      · exact hS.2.2 q h
      · exact absurd (hL2 q h) (fun z => z)⟩ hL T' eH X'
    exact ⟨t2, stp t2 a1, b1⟩
theorem lZ_clr {bs bv pc : Nat} {L1 : xL} {st : List Value} {w : xW} (h : lZ D cI cJ ad p l e s m below meth c b (bs + 1) (bv + 10) (pc, L1, st, xclr0 w)) : lZ D cI cJ ad p l e s m below meth c b bs bv (pc, L1, st, w) := fun hN hnc H locs ls hP hS hL => by
  have h1 := cw_2 w hnc
  have k := h hN rfl H locs ls (by show va_P D vwCl (xws 47 cI cJ ad (xclr0 w)) H; rw [xws_clr]; exact hP) hS hL
  exact W.widen (k := bs + 1 + 0) (n := bv + 10 + 10 * 0) (by show bs + cw w ≤ _; omega) (by show bv + 10 * cw w ≤ _; omega) k
set_option maxRecDepth 100000 in
theorem lZ_end (C0 : lw_At p s m meth c b L xs) {bs bv : Nat} (hbs : bs + 1 ≤ 600000) (hbv : bv + 10 ≤ 7302249) (L1 : xL) (w : xW) : lZ D cI cJ ad p l e s m below meth c b bs bv (370, L1, [.int 1], w) := fun hN hnc H locs ls hP hS hL => by
  obtain ⟨hx, hb, hr, hml, hown, hts, hX, hbl, hlocks, hgv⟩ := id C0
  have h1 := cw_2 w hnc
  refine W.widen (k := 600000) (n := 7302249) (by show bs + cw w ≤ _; omega) (by show bv + 10 * cw w ≤ _; omega) ?_
  refine va_forget (fun q hq => hS.2.2 q hq) ?_
  refine W.base ?_
  exact lw_ret (Drawn.sameBut.refl s.drawn lw_cs) hx hb hr hlocks (xdec mkL_law (pc := 370) (i := .ireturn) (n := 1) rfl).1
theorem law_run (C0 : lw_At p s m meth c b L xs) (C : xcx D cI cJ ML_law p s m #[Value.ref b] meth c) (hi : xinj 47 s.heap.size ad) (h200 : ad 200 = b) (hL31 : L < 2 ^ 31) {mm : Nat} (hm : mm < 100) : ∀ (n t bs bv : Nat) (w : xW) (A : xAb), t + n = 44 → bs + n + 1 ≤ 600000 → bv + 10 * n + 10 ≤ 7302249 → lI w A → gh0 w → lZ D cI cJ ad p l e s m below meth c b bs bv (48, [some (.ref 200), some (.ref 0), some (.ref 45), some (.ref 46), some (.int (nI mm)), some (.int (nI t)), none, none, none, none, none, none], [], w) := by
  intro n
  induction n with
  | zero =>
    intro t bs bv w A ht hbs hbv hI h0
    obtain rfl : t = 44 := by omega
    exact l_end (C := (cvl xs L, lZ D cI cJ ad p l e s m below meth c b bs bv)) hI h0 (fun L1 w1 _ => lZ_end C0 (by omega) (by omega) L1 w1) (lZ_rule C0 C hi h200 hL31 (by omega) (by omega))
  | succ n ih =>
    intro t bs bv w A ht hbs hbv hI h0
    exact l_turn (C := (cvl xs L, lZ D cI cJ ad p l e s m below meth c b bs bv)) (by omega) hm hI h0 (fun w1 A1 hI1 _ _ => lZ_clr (ih (t + 1) (bs + 1) (bv + 10) (xclr0 w1) A1 (by omega) (by omega) (by omega) (lI_clr hI1) ⟨rfl, rfl⟩)) (lZ_rule C0 C hi h200 hL31 (by omega) (by omega))
theorem law_all (C0 : lw_At p s m meth c b L xs) (C : xcx D cI cJ ML_law p s m #[Value.ref b] meth c) (hi : xinj 47 s.heap.size ad) (h200 : ad 200 = b) (hL31 : L < 2 ^ 31) {bs bv : Nat} (hbs : bs ≤ 1000) (hbv : bv ≤ 100000) {w : xW} {A : xAb} (hI : lI w A) (h0 : gh0 w) : lZ D cI cJ ad p l e s m below meth c b bs bv (17, [some (.ref 200), some (.ref 0), some (.ref 45), some (.ref 46), none, none, none, none, none, none, none, none], [], w) := by
  refine l_first (C := (cvl xs L, lZ D cI cJ ad p l e s m below meth c b bs bv)) hI h0 (fun w1 hI1 _ _ => lZ_clr ?_) (lZ_rule C0 C hi h200 hL31 (by omega) (by omega))
  exact l_many (C := (cvl xs L, lZ D cI cJ ad p l e s m below meth c b (bs + 1) (bv + 10))) (fun mm hm _ => law_run C0 C hi h200 hL31 hm 44 0 (bs + 1) (bv + 10) (xclr0 w1) A rfl (by omega) (by omega) (lI_clr hI1) ⟨rfl, rfl⟩) (lZ_rule C0 C hi h200 hL31 (by omega) (by omega))
end
