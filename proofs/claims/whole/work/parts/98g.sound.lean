/-! runs of the small machine are runs of the kit's -/
section
variable {D : va_G} {cI cJ : ClassId} {ad adV : Nat → Nat} {M : xMI}
variable {p : Program} {l : Launch} {e : Env} {s : State} {m : MethodId} {args : Array Value} {below : List Frame} {meth : Method} {c : Code} {Q : State → Prop} {F F1 : xF}
/-- the meaning of a run -/
def xsem (D : va_G) (cI cJ : ClassId) (ad adV : Nat → Nat) (l : Launch) (M : xMI) (F : xF) (r : Option Value) (w1 : xW) : Prop :=
  xok M → ∀ (p : Program) (e : Env) (s : State) (m : MethodId) (args : Array Value) (below : List Frame) (meth : Method) (c : Code), xcx D cI cJ ad adV M p s m args meth c →
    xgo D cI cJ ad M p l e s m args below meth c (MQ below (xQo D cI cJ ad r w1) args s 0 0 (xA ad)) F
theorem xsem_met {as : List Value} {w w1 : xW} {r : Option Value} (hM : xmOK M) (hlen : (xarg as).length ≤ xm_n M) (h : xsem D cI cJ ad adV l M (xent M as w) r w1) : Met l (xm_y M) (xwsM M) (xrm M) (xPc D cI cJ ad adV as w) (xQo D cI cJ ad r w1) 0 0 (xA ad) := by
  refine Met.ofW (cc := xm_b M) (maxL := xm_n M) (ret := xm_r M) hM.2.1 rfl ?_
  intro p e s m args below meth c s₁ B hml hv
  obtain ⟨rfl, hP, hG⟩ := hv
  have hts := atoms_spec (ws := xwsM M) B.pre
  have hown : s.vm.findClass (xcls (xm_c M)) = some m.cls := by
    rw [← hM.2.2.2.2.2]
    exact findClass_of_methodNamed B.named
  rw [lg_entry_eq]
  exact h hM.1 p e s m _ below meth c ⟨B.exec, B.bytes, hml, B.returns, B.notSynchronized, hown, hts, hG⟩ s.heap [] _ hP va_S.rf (xLok_entry hlen)
theorem xgood_in {M2 : xMI} (hM : xmOK M2) : GoodIn (xwsM M) (xwsM M2) := by
  intro w hw
  have hin : w ∈ xTB := by
    rcases List.mem_cons.mp hw with rfl | h
    · exact hM.2.2.2.1
    · exact h
  exact ⟨List.mem_cons_of_mem _ hin, good_of_word (xTB_good w hin)⟩
theorem xfit_inv {M2 : xMI} {as st : List Value} (h : xfit M M2 as st = true) : xm_f M2 + 1 ≤ xm_f M ∧ 8 + (xm_n M2 + 11) + xm_l M2 ≤ xm_l M ∧ as.length = xm_a M2 ∧ (st.map fun v => v.category).sum ≤ 8 ∧ (xarg as).length ≤ xm_n M2 := by
  unfold xfit at h
  simp only [Bool.and_eq_true] at h
  exact ⟨Nat.le_of_ble_eq_true h.1.1.1.1, Nat.le_of_ble_eq_true h.1.1.1.2, Nat.eq_of_beq_eq_true h.1.1.2, Nat.le_of_ble_eq_true h.1.2, Nat.le_of_ble_eq_true h.2⟩
theorem xstk (ad : Nat → Nat) (n : Nat) (st : List Value) : st.map (xcv ad) = (((st.take n).reverse).map (xcv ad)).reverse ++ (st.drop n).map (xcv ad) := by
  rw [List.map_reverse, List.reverse_reverse, ← List.map_append, List.take_append_drop]
theorem xcal_go (hi : xinj ad) (hM : xok M) (C : xcx D cI cJ ad adV M p s m args meth c) {M2 : xMI} {as : List Value} {r2 : Option Value} {w2 : xW} (h : xcal M F = some (M2, as, F1)) (h2 : xsem D cI cJ ad adV l M2 (xent M2 as F.2.2.2) r2 w2)
    (K : xgo D cI cJ ad M p l e s m args below meth c Q (xpsh F1 r2 w2)) : xgo D cI cJ ad M p l e s m args below meth c Q F := by
  obtain ⟨hx, hb, hml, hr, hlk, hown, hts, hG⟩ := id C
  have hT : ∀ w ∈ xTB, w.before args s = true := fun w hw => hts w (List.mem_cons_of_mem _ hw)
  obtain ⟨pc, L, st, w⟩ := F
  unfold xcal at h
  intro H locs ls hP hS hL
  have pre : ∀ as2 : List Value, ∀ U : State, U.heap = H → s.WarmedH U.vm → xPc D cI cJ ad adV as2 w ((as2.map (xcv ad)).toArray) U := fun as2 U hU hW => ⟨rfl, by rw [hU]; exact hP, xG_moved (locs0 := locs) hW (by rw [hU]; exact hS) hG⟩
  split at h
  · next k n hd =>
    obtain ⟨hdg, hg⟩ := xdec hM hd
    obtain rfl : n = 3 := Nat.eq_of_beq_eq_true hg
    unfold xcal1 at h
    split at h
    · next lk kd M3 hl =>
      rw [cond_false] at h
      cases hc : Nat.ble kd 1 && xfit M M3 (st.take (xm_a M3)).reverse (st.drop (xm_a M3)) with
      | false => rw [show (Nat.ble kd 1 && xfit M M3 (List.take (xm_a M3) ((pc, L, st, w) : xF).2.2.1).reverse (List.drop (xm_a M3) ((pc, L, st, w) : xF).2.2.1)) = false from hc] at h; cases h
      | true =>
        rw [show (Nat.ble kd 1 && xfit M M3 (List.take (xm_a M3) ((pc, L, st, w) : xF).2.2.1).reverse (List.drop (xm_a M3) ((pc, L, st, w) : xF).2.2.1)) = true from hc] at h
        cases h
        rw [Bool.and_eq_true] at hc
        obtain ⟨f1, f2, f3, f4, f5⟩ := xfit_inv hc.2
        have hkd := Nat.le_of_ble_eq_true hc.1
        obtain ⟨hM2, hcase⟩ := xlnk_ok hl
        have met := xsem_met hM2 f5 h2
        have hsum : (((st.drop (xm_a M2)).map (xcv ad)).map fun v => v.category).sum ≤ 8 := by rw [xcv_sum]; exact f4
        have fin : va_Run p l e (xrm M) s m args below meth c H locs 0 0 0 0 (F0 m pc ls (st.map (xcv ad))) ((st.drop (xm_a M2)).map (xcv ad)) (xQo D cI cJ ad r2 w2 ((((st.take (xm_a M2)).reverse).map (xcv ad)).toArray)) (xA ad) := by
          rcases hcase with ⟨-, q1, q2⟩ | ⟨-, q1, q2⟩ | ⟨q0, -⟩
          · exact va_runS (n := xm_a M2) (own := xcls (xm_c M)) (index := k) ⟨hx, hb, hml, hown, hts⟩ met ⟨callB_of (xm_a M2) hts (xgood_in hM2) rfl rfl rfl (hT _ hM2.2.2.2.2.1) (hT _ q1) hM2.2.2.1 ⟨f1, f2⟩, hT _ q2⟩ ⟨xPc_blind, pre _⟩ rfl (by rw [List.length_map]; exact f3) hL.2.1 (xstk ad _ st) (lv_room hsum) hdg ⟨Nat.le_refl 0, Nat.le_refl 0⟩
          · exact va_runSN (n := xm_a M2) (own := xcls (xm_c M)) (index := k) ⟨hx, hb, hml, hown, hts⟩ met ⟨va_cnB (xm_a M2) hts (xgood_in hM2) rfl rfl rfl (hG.2.1 (xcls (xm_c M), k, xm_y M2) q1) (hT _ hM2.2.2.2.2.1) hM2.2.2.1 ⟨f1, f2⟩, hT _ q2, trivial⟩ ⟨xPc_blind, pre _⟩ rfl (by rw [List.length_map]; exact f3) hL.2.1 (xstk ad _ st) (lv_room hsum) hdg ⟨Nat.le_refl 0, Nat.le_refl 0⟩
          · dsimp only at q0
            omega
        refine xcall_W fin hS (fun H1 locs1 hP1 hS1 => ?_)
        have hk := K H1 locs1 ls hP1 hS1 hL
        cases r2 with
        | none => exact hk
        | some r2 => exact hk
    · cases h
  · next k n hd =>
    obtain ⟨hdg, hg⟩ := xdec hM hd
    obtain rfl : n = 3 := Nat.eq_of_beq_eq_true hg
    unfold xcal1 at h
    split at h
    · next lk kd M3 hl =>
      rw [cond_true] at h
      split at h
      · next b st1 hst =>
        split at h
        · next c3 ks hs =>
          cases hc : Nat.beq kd 2 && Nat.beq c3 (xm_c M3) && xfit M M3 (st.take (xm_a M3)).reverse st1 && Nat.ble ((xarg (st.take (xm_a M3)).reverse).length + 1) (xm_n M3) with
          | false => rw [show (Nat.beq kd 2 && Nat.beq c3 (xm_c M3) && xfit M M3 (List.take (xm_a M3) ((pc, L, st, w) : xF).2.2.1).reverse st1 && Nat.ble ((xarg (List.take (xm_a M3) ((pc, L, st, w) : xF).2.2.1).reverse).length + 1) (xm_n M3)) = false from hc] at h; cases h
          | true =>
            rw [show (Nat.beq kd 2 && Nat.beq c3 (xm_c M3) && xfit M M3 (List.take (xm_a M3) ((pc, L, st, w) : xF).2.2.1).reverse st1 && Nat.ble ((xarg (List.take (xm_a M3) ((pc, L, st, w) : xF).2.2.1).reverse).length + 1) (xm_n M3)) = true from hc] at h
            cases h
            simp only [Bool.and_eq_true] at hc
            obtain ⟨⟨⟨c1, c2⟩, c4⟩, c5⟩ := hc
            have hkd := Nat.eq_of_beq_eq_true c1
            have hcc := Nat.eq_of_beq_eq_true c2
            subst hkd
            subst hcc
            obtain ⟨f1, f2, f3, f4, f5⟩ := xfit_inv c4
            obtain ⟨hM2, hcase⟩ := xlnk_ok hl
            have met := xsem_met hM2 (by show (xarg (.ref b :: _)).length ≤ _; exact Nat.le_of_ble_eq_true c5) h2
            have hsum : ((st1.map (xcv ad)).map fun v => v.category).sum ≤ 8 := by rw [xcv_sum]; exact f4
            have hstk : st.map (xcv ad) = (((st.take (xm_a M2)).reverse).map (xcv ad)).reverse ++ .ref (ad b) :: st1.map (xcv ad) := by
              rw [xstk ad (xm_a M2) st, show st.drop (xm_a M2) = .ref b :: st1 from hst]
              rfl
            rcases hcase with ⟨q0, -⟩ | ⟨q0, -⟩ | ⟨-, q1, q2, q3, T, N, q4⟩
            · cases q0
            · cases q0
            · have he := (xws_get (cI := cI) (cJ := cJ) (ad := ad) (w := w) (xshp_lt hs)).trans (by rw [xcell_O hs])
              have hrec := va_recv hG.1 hP q4 he
              have hT2 : GoodIn (xwsM M) (wsV (xcls (xm_c M)) k (xcls (xm_c M2)) (xm_y M2) (xwsM M2)) := by
                intro z hz
                unfold wsV at hz
                rcases List.mem_append.mp hz with hz | hz
                · have hin : z ∈ xTB := by
                    simp only [List.mem_cons, List.not_mem_nil, or_false] at hz
                    rcases hz with rfl | rfl | rfl | rfl
                    · exact q1
                    · exact q2
                    · have := q3
                      rw [hM2.2.2.2.2.2] at this
                      exact this
                    · have := hM2.2.2.2.2.1
                      rw [hM2.2.2.2.2.2] at this
                      exact this
                  exact ⟨List.mem_cons_of_mem _ hin, good_of_word (xTB_good z hin)⟩
                · exact xgood_in hM2 z hz
              have fin : va_Run p l e (xrm M) s m args below meth c H locs 0 0 0 0 (F0 m pc ls (st.map (xcv ad))) (st1.map (xcv ad)) (xQo D cI cJ ad r2 w2 ((Value.ref (ad b) :: ((st.take (xm_a M2)).reverse).map (xcv ad)).toArray)) (xA ad) :=
                va_runV (n := xm_a M2) (own := xcls (xm_c M)) (C := xcls (xm_c M2)) (index := k) ⟨hx, hb, hml, hown, hts⟩ met (cwV (xm_a M2) hts hT2 rfl rfl rfl ⟨hM2.2.2.2.2.2, hM2.2.2.1⟩ ⟨f1, f2⟩) ⟨xPc_blind, hrec, fun U hU hW => pre (.ref b :: (st.take (xm_a M2)).reverse) U hU hW⟩ rfl (by rw [List.length_map]; exact f3) hL.2.1 hstk (lv_room hsum) hdg ⟨Nat.le_refl 0, Nat.le_refl 0⟩
              refine xcall_W fin hS (fun H1 locs1 hP1 hS1 => ?_)
              have hk := K H1 locs1 ls hP1 hS1 hL
              cases r2 with
              | none => exact hk
              | some r2 => exact hk
        · cases h
      · cases h
    · cases h
  · cases h
theorem xret_go (hM : xok M) (C : xcx D cI cJ ad adV M p s m args meth c) {r : Option Value} (h : xret M F r) : xgo D cI cJ ad M p l e s m args below meth c (MQ below (xQo D cI cJ ad r F.2.2.2) args s 0 0 (xA ad)) F := by
  obtain ⟨hx, hb, hml, hr, hlk, hown, hts, hG⟩ := id C
  obtain ⟨pc, L, st, w⟩ := F
  intro H locs ls hP hS hL
  have fin : ∀ t : State, t.heap = H → va_P D vwCl (xws cI cJ ad w) t.heap ∧ va_F (xA ad) s t := fun t ht => ⟨by rw [ht]; exact hP, hS.F ht⟩
  rcases h with ⟨v, ty, n, hd, hst, rfl, hrt, hn⟩ | ⟨v, n, hd, hst, rfl, hrt⟩ | ⟨v, n, hd, hst, rfl, hrt⟩ | ⟨v, n, nm, hd, hst, rfl, hrt⟩ | ⟨n, hd, hst, rfl, hrt⟩
  · obtain ⟨hdg, hg⟩ := xdec hM hd
    obtain rfl : n = 1 := Nat.eq_of_beq_eq_true hg
    obtain rfl : st = [.int v] := hst
    exact W.zret hx hb (hr.trans hrt) hn (fun t ht hW => ⟨rfl, fin t ht⟩) hS.2.2 hdg hlk
  · obtain ⟨hdg, hg⟩ := xdec hM hd
    obtain rfl : n = 1 := Nat.eq_of_beq_eq_true hg
    obtain rfl : st = [.long v] := hst
    exact W.lret hx hb (hr.trans hrt) (fun t ht hW => ⟨rfl, fin t ht⟩) hS.2.2 hdg hlk
  · obtain ⟨hdg, hg⟩ := xdec hM hd
    obtain rfl : n = 1 := Nat.eq_of_beq_eq_true hg
    obtain rfl : st = [.double v] := hst
    exact W.dret hx hb (hr.trans hrt) (fun t ht hW => ⟨rfl, fin t ht⟩) hS.2.2 hdg hlk
  · obtain ⟨hdg, hg⟩ := xdec hM hd
    obtain rfl : n = 1 := Nat.eq_of_beq_eq_true hg
    obtain rfl : st = [.ref v] := hst
    exact W.aret hx hb (hr.trans hrt) (Or.inl ⟨nm, rfl⟩) (Or.inr ⟨ad v, rfl⟩) (fun t ht hW => ⟨rfl, fin t ht⟩) hS.2.2 hdg hlk
  · obtain ⟨hdg, hg⟩ := xdec hM hd
    obtain rfl : n = 1 := Nat.eq_of_beq_eq_true hg
    obtain rfl : st = [] := hst
    exact W.vret hx hb (hr.trans hrt) (fun t ht hW => ⟨rfl, fin t ht⟩) hS.2.2 hdg hlk
theorem xsem_rule (hi : xinj ad) : xrule (xsem D cI cJ ad adV l) :=
  ⟨fun M F F1 r w1 h hP hM p e s m args below meth c C => xs1_go hi hM C h (hP hM p e s m args below meth c C),
    fun M F r h hM p e s m args below meth c C => xret_go hM C h,
    fun M F M2 as F1 r2 w2 r w1 h h2 hP hM p e s m args below meth c C => xcal_go hi hM C h h2 (hP hM p e s m args below meth c C),
    fun M pc L1 L2 st w r w1 hn hl hP hM p e s m args below meth c C H locs ls hP1 hS hL => hP hM p e s m args below meth c C H locs ls hP1 hS (hL.le hn hl)⟩
/-- THE CONTRACT out of a run of the small machine -/
theorem xC_met (hi : xinj ad) {as : List Value} {w w1 : xW} {r : Option Value} (hM : xmOK M) (hlen : (xarg as).length ≤ xm_n M) (h : xC M as w r w1) : Met l (xm_y M) (xwsM M) (xrm M) (xPc D cI cJ ad adV as w) (xQo D cI cJ ad r w1) 0 0 (xA ad) := xsem_met hM hlen (h _ (xsem_rule hi))
end
