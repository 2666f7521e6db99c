/-! runs of the small machine are runs of the kit's -/
def nc (w : xW) : Nat := if w.1 48 0 = 1 then 48 else 47
def cw (w : xW) : Nat := (if w.1 48 0 = 1 then 1 else 0) + (if w.1 48 1 = 0 then 0 else 1)
theorem nc_ge (w : xW) : 47 ≤ nc w := by
  unfold nc
  split <;> omega
theorem nc_of {w w1 : xW} (h : w1.1 48 = w.1 48) : nc w1 = nc w := by
  unfold nc
  rw [h]
theorem cw_of {w w1 : xW} (h : w1.1 48 = w.1 48) : cw w1 = cw w := by
  unfold cw
  rw [h]
theorem bif_some {α : Type} {c : Bool} {x y : α} (h : (bif c then some x else none) = some y) : c = true ∧ x = y := by
  cases c with
  | true => exact ⟨rfl, Option.some.inj h⟩
  | false => cases h
theorem xarg_mem : ∀ (as : List Value) (i : Nat) (v : Value), (xarg as)[i]? = some (some v) → v ∈ as
  | [], i, v, h => by simp [xarg] at h
  | u :: as, i, v, h => by
    unfold xarg at h
    cases hc : Nat.beq u.category 2 with
    | true =>
      rw [hc] at h
      change (some u :: none :: xarg as)[i]? = some (some v) at h
      match i, h with
      | 0, h => cases h; exact List.mem_cons_self
      | 1, h => cases h
      | i + 2, h => exact List.mem_cons_of_mem _ (xarg_mem as i v h)
    | false =>
      rw [hc] at h
      change (some u :: xarg as)[i]? = some (some v) at h
      match i, h with
      | 0, h => cases h; exact List.mem_cons_self
      | i + 1, h => exact List.mem_cons_of_mem _ (xarg_mem as i v h)
theorem xent_no {N : Nat} {M : xMI} {as : List Value} {w : xW} (h : noS N as) : xNo N (xent M as w) := by
  refine ⟨fun i a hi => ?_, trivial⟩
  have hi : (xarg as ++ List.replicate (xm_n M - (xarg as).length) none)[i]? = some (some (.ref a)) := hi
  by_cases hlt : i < (xarg as).length
  · rw [List.getElem?_append_left hlt] at hi
    exact noS_iff.mp h a (xarg_mem as i _ hi)
  · rw [List.getElem?_append_right (by omega)] at hi
    have := List.eq_of_mem_replicate (List.mem_of_getElem? hi)
    cases this
theorem xfit_inv {M M2 : xMI} {as st : List Value} (h : xfit M M2 as st = true) : xm_f M2 + 1 ≤ xm_f M ∧ 8 + (xm_n M2 + 11) + xm_l M2 ≤ xm_l M ∧ as.length = xm_a M2 ∧ (st.map fun v => v.category).sum ≤ 8 ∧ (xarg as).length ≤ xm_n M2 := by
  unfold xfit at h
  simp only [Bool.and_eq_true] at h
  exact ⟨Nat.le_of_ble_eq_true h.1.1.1.1, Nat.le_of_ble_eq_true h.1.1.1.2, Nat.eq_of_beq_eq_true h.1.1.2, Nat.le_of_ble_eq_true h.1.2, Nat.le_of_ble_eq_true h.2⟩
/-- a call by the links lk -/
def xcalk (lk : Nat → Option (Nat × xMI)) (M : xMI) (F : xF) : Option (xMI × List Value × xF) := match xfind (xm_t M) F.1 with
  | some (.invokestatic k, _) => xcal1 M false (lk k) F
  | some (.invokevirtual k, _) => xcal1 M true (lk k) F
  | _ => none
def xlks (lk : Nat → Option (Nat × xMI)) (M : xMI) : Prop := ∀ (k : Nat) (v : Nat × xMI), lk k = some v → xlkOK (xm_c M) (k, v)
theorem xlks_own (M : xMI) : xlks (xlnk (xm_c M)) M := fun _ _ h => xlnk_ok h
/-- what a call takes -/
theorem xcal_no {N : Nat} {lk : Nat → Option (Nat × xMI)} {M M2 : xMI} {F F1 : xF} {as : List Value} (hlk : xlks lk M) (hF : xNo N F) (h : xcalk lk M F = some (M2, as, F1)) : noS N as ∧ xNo N F1 ∧ F1.2.2.2 = F.2.2.2 ∧ xmOK M2 ∧ (xarg as).length ≤ xm_n M2 := by
  obtain ⟨pc, L, st, w⟩ := F
  obtain ⟨hL, hS⟩ := hF
  have hS : ∀ a, Value.ref a ∈ st → a < N ∨ 48 ≤ a := noS_iff.mp hS
  unfold xcalk at h
  split at h
  · next k n hd =>
    unfold xcal1 at h
    split at h
    · next lk2 kd M3 hl =>
      rw [cond_false] at h
      obtain ⟨hc, e⟩ := bif_some h
      cases e
      rw [Bool.and_eq_true] at hc
      obtain ⟨f1, f2, f3, f4, f5⟩ := xfit_inv hc.2
      refine ⟨noS_iff.mpr fun a ha => hS a (List.mem_of_mem_take (List.mem_reverse.mp ha)), ⟨hL, noS_iff.mpr fun a ha => hS a (List.mem_of_mem_drop ha)⟩, rfl, (hlk _ _ hl).1, f5⟩
    · cases h
  · next k n hd =>
    unfold xcal1 at h
    split at h
    · next lk2 kd M3 hl =>
      rw [cond_true] at h
      split at h
      · next b st1 hst =>
        have hst : st.drop (xm_a M3) = .ref b :: st1 := hst
        split at h
        · next c3 ks hs =>
          obtain ⟨hc, e⟩ := bif_some h
          cases e
          simp only [Bool.and_eq_true] at hc
          obtain ⟨⟨⟨c1, c2⟩, c4⟩, c5⟩ := hc
          have c5 := Nat.le_of_ble_eq_true c5
          have hb : b < N ∨ 48 ≤ b := hS b (List.mem_of_mem_drop (i := xm_a M2) (by rw [hst]; exact List.mem_cons_self))
          refine ⟨⟨hb, noS_iff.mpr fun a ha => hS a (List.mem_of_mem_take (List.mem_reverse.mp ha))⟩, ⟨hL, noS_iff.mpr fun a ha => hS a (List.mem_of_mem_drop (i := xm_a M2) (by rw [hst]; exact List.mem_cons_of_mem _ ha))⟩, rfl, (hlk _ _ hl).1, c5⟩
        · cases h
      · cases h
    · cases h
  · cases h
section
variable {D : va_G} {cI cJ : ClassId} {N sz uc vc mc ms : Nat} {R : Room} {ad : Nat → Nat} {M : xMI}
variable {p : Program} {l : Launch} {e : Env} {s : State} {m : MethodId} {args : Array Value} {below : List Frame} {meth : Method} {c : Code} {Q : State → Prop} {F F1 : xF}
def xQo (N : Nat) (D : va_G) (cI cJ : ClassId) (ad : Nat → Nat) (sz : Nat) (r : Option Value) (w1 : xW) : Array Value → State → Outcome → State → Prop := fun _ st oc t => oc = .returned (r.map (xcv ad)) ∧ va_P D vwCl (xws N cI cJ ad w1) t.heap ∧ va_F (xA sz) st t
def xPc (N : Nat) (D : va_G) (cI cJ : ClassId) (ad : Nat → Nat) (as : List Value) (w : xW) : Array Value → State → Prop := va_Pc (as.map (xcv ad)) (fun U => va_P D vwCl (xws N cI cJ ad w) U.heap ∧ xGs D cI cJ U)
theorem xGs_moved {u U : State} (hW : u.WarmedH U.vm) (h : xGs D cI cJ u) : xGs D cI cJ U := ⟨va_K.moved hW.alike h.1, fun q hq => va_Nw.warmM hW (h.2 q hq)⟩
theorem xGs_calling {U : State} {g : JFrame} {mk : MethodId} {a : Array Value} (h : xGs D cI cJ U) : xGs D cI cJ (U.calling g mk a) := by
  have hA : U.vm.Alike (U.calling g mk a).vm := Vm.Alike.refl U.vm
  have hv : (U.calling g mk a).vm = U.vm := rfl
  exact ⟨va_K.moved hA h.1, fun q hq => va_Nw.same rfl hv.symm (h.2 q hq)⟩
theorem xPc_blind {as : List Value} {w : xW} : FrameBlind (xPc N D cI cJ ad as w) := fun a U g mk h => ⟨h.1, h.2.1, xGs_calling h.2.2⟩
theorem xcall_W {pc : Nat} {ls : Array Slot} {st0 rest : List Value} {r2 : Option Value} {w2 : xW} {a : Array Value} {H : Heap} {locs : List Loc} (hr : va_Run p l e R s m args below meth c H locs uc vc mc ms (F0 m pc ls st0) rest (xQo N D cI cJ ad sz r2 w2 a) (xA sz)) (hS : va_S (xA sz) s.heap H locs)
    (kk : ∀ (H1 : Heap) (locs1 : List Loc), va_P D vwCl (xws N cI cJ ad w2) H1 → va_S (xA sz) s.heap H1 locs1 → W p l e R s m args below meth c H1 locs1 (uc + mc) (vc + ms) Q (F0 m (pc + 3) ls ((r2.map (xcv ad)).toList ++ rest))) : W p l e R s m args below meth c H locs uc vc Q (F0 m pc ls st0) := by
  intro T hT X
  obtain ⟨v, st₀, t, T', L, h0, X', hL, e1, e2, ⟨hv, hp, hz, hk⟩, st⟩ := hr T hT X
  cases hv
  rw [h0] at hz hk
  obtain ⟨t2, a1, b1⟩ := kk T'.heap (locs ++ L) (by rw [e1]; exact hp) ⟨Nat.le_trans hS.1 (by rw [e1]; exact hz), fun q h1 h2 => by rw [e1, hk q (Nat.lt_of_lt_of_le h1 hS.1) h2]; exact hS.2.1 q h1 h2, fun q hq => by
      rcases List.mem_append.mp hq with h | h
      · exact hS.2.2 q h
      · exact hL q h⟩ T' rfl X'
  exact ⟨t2, st t2 a1, b1⟩
def rOK (N : Nat) (M : xMI) (r : Option Value) : Prop := ∀ a, r = some (.ref a) → (a < N ∨ 48 ≤ a) ∧ ∃ nm, xm_r M = some (.object nm)
/-- the meaning of a run -/
def xsem (D : va_G) (cI cJ : ClassId) (l : Launch) (M : xMI) (F : xF) (r : Option Value) (w1 : xW) : Prop :=
  xok M → xNo (nc F.2.2.2) F → (nc w1 = nc F.2.2.2 ∧ rOK (nc F.2.2.2) M r ∧ cw F.2.2.2 ≤ cw w1) ∧
    ∀ (ad : Nat → Nat) (sz : Nat), xinj (nc F.2.2.2) sz ad → ∀ c0, c0 ≤ cw F.2.2.2 → ∀ (p : Program) (e : Env) (s : State) (m : MethodId) (args : Array Value) (below : List Frame) (meth : Method) (c : Code), xcx D cI cJ M p s m args meth c →
      xgo (nc F.2.2.2) D cI cJ ad sz M (xrm M (cw w1 - c0)) p l e s m args below meth c (cw F.2.2.2 - c0) (10 * (cw F.2.2.2 - c0)) (MQ below (xQo (nc F.2.2.2) D cI cJ ad sz r w1) args s (cw w1 - c0) (10 * (cw w1 - c0)) (xA sz)) F
theorem xsem_met {as : List Value} {w w1 : xW} {r : Option Value} (hM : xmOK M) (hlen : (xarg as).length ≤ xm_n M) (hN : noS (nc w) as) (hi : xinj (nc w) sz ad) (h : xsem D cI cJ l M (xent M as w) r w1) : Met l (xm_y M) (xwsM M) (xrm M (cw w1 - cw w)) (xPc (nc w) D cI cJ ad as w) (xQo (nc w) D cI cJ ad sz r w1) (cw w1 - cw w) (10 * (cw w1 - cw w)) (xA sz) := by
  refine Met.ofW (cc := xm_b M) (maxL := xm_n M) (ret := xm_r M) hM.2.1 rfl ?_
  intro p e s m args below meth c s₁ B hml hv
  obtain ⟨rfl, hP, hG⟩ := hv
  have hts := atoms_spec (ws := xwsM M) B.pre
  have hown : s.vm.findClass (xcls (xm_c M)) = some m.cls := by
    rw [← hM.2.2.2.2.2]
    exact findClass_of_methodNamed B.named
  rw [lg_entry_eq]
  have h1 := (h hM.1 (xent_no hN)).2 ad sz hi (cw w) (Nat.le_refl _) p e s m _ below meth c ⟨B.exec, B.bytes, hml, B.returns, B.notSynchronized, hown, fun w hw => hts w (List.mem_cons_of_mem _ hw), hG⟩ s.heap [] _ hP va_S.rf (xLok_entry hlen)
  rw [show cw (xent M as w).2.2.2 - cw w = 0 from Nat.sub_self _] at h1
  exact h1
theorem xgood_in {M2 : xMI} (hM : xmOK M2) : GoodIn xTB (xwsM M2) := by
  intro w hw
  have hin : w ∈ xTB := by
    rcases List.mem_cons.mp hw with rfl | h
    · exact hM.2.2.2.1
    · exact h
  exact ⟨hin, good_of_word (xTB_good w hin)⟩
theorem xstk (ad : Nat → Nat) (n : Nat) (st : List Value) : st.map (xcv ad) = (((st.take n).reverse).map (xcv ad)).reverse ++ (st.drop n).map (xcv ad) := by
  rw [List.map_reverse, List.reverse_reverse, ← List.map_append, List.take_append_drop]
theorem xcal_go {lk : Nat → Option (Nat × xMI)} (hlks : xlks lk M) (hi : xinj N sz ad) (hM : xok M) (C : xcx D cI cJ M p s m args meth c) (hN : xNo N F) (hu : uc + mc ≤ R.cells ∧ vc + 10 * mc ≤ R.slots ∧ xm_f M ≤ R.frames ∧ xm_l M ≤ R.locals) {M2 : xMI} {as : List Value} {r2 : Option Value} {w2 : xW} (h : xcalk lk M F = some (M2, as, F1)) (met : Met l (xm_y M2) (xwsM M2) (xrm M2 mc) (xPc N D cI cJ ad as F.2.2.2) (xQo N D cI cJ ad sz r2 w2) mc (10 * mc) (xA sz))
    (K : xgo N D cI cJ ad sz M R p l e s m args below meth c (uc + mc) (vc + 10 * mc) Q (xpsh F1 r2 w2)) : xgo N D cI cJ ad sz M R p l e s m args below meth c uc vc Q F := by
  obtain ⟨hx, hb, hml, hr, hlk, hown, hts, hG⟩ := id C
  have hT : ∀ w ∈ xTB, w.before args s = true := hts
  obtain ⟨pc, L, st, w⟩ := F
  unfold xcalk at h
  intro H locs ls hP hS hL
  have pre : ∀ as2 : List Value, ∀ U : State, U.heap = H → s.WarmedH U.vm → xPc N D cI cJ ad as2 w ((as2.map (xcv ad)).toArray) U := fun as2 U hU hW => ⟨rfl, by rw [hU]; exact hP, xGs_moved hW hG⟩
  have room : uc + mc ≤ R.cells ∧ vc + 10 * mc ≤ R.slots := ⟨hu.1, hu.2.1⟩
  split at h
  · next k n hd =>
    obtain ⟨hdg, hg⟩ := xdec hM hd
    obtain rfl : n = 3 := Nat.eq_of_beq_eq_true hg
    unfold xcal1 at h
    split at h
    · next lk2 kd M3 hl =>
      rw [cond_false] at h
      obtain ⟨hc, e2⟩ := bif_some h
      cases e2
      rw [Bool.and_eq_true] at hc
      obtain ⟨f1, f2, f3, f4, f5⟩ := xfit_inv hc.2
      have hkd := Nat.le_of_ble_eq_true hc.1
      obtain ⟨hM2, hcase⟩ := hlks _ _ hl
      have hsum : (((st.drop (xm_a M2)).map (xcv ad)).map fun v => v.category).sum ≤ 8 := by rw [xcv_sum]; exact f4
      have fin : va_Run p l e R s m args below meth c H locs uc vc mc (10 * mc) (F0 m pc ls (st.map (xcv ad))) ((st.drop (xm_a M2)).map (xcv ad)) (xQo N D cI cJ ad sz r2 w2 ((((st.take (xm_a M2)).reverse).map (xcv ad)).toArray)) (xA sz) := by
        rcases hcase with ⟨-, q1, q2⟩ | ⟨-, q1, q2⟩ | ⟨q0, -⟩
        · exact va_runS (n := xm_a M2) (own := xcls (xm_c M)) (index := k) ⟨hx, hb, hml, hown, hts⟩ met ⟨callB_of (xm_a M2) hts (xgood_in hM2) rfl rfl rfl (hT _ hM2.2.2.2.2.1) (hT _ q1) hM2.2.2.1 ⟨Nat.le_trans f1 hu.2.2.1, Nat.le_trans f2 hu.2.2.2⟩, hT _ q2⟩ ⟨xPc_blind, pre _⟩ rfl (by rw [List.length_map]; exact f3) hL.2.1 (xstk ad _ st) (lv_room hsum) hdg room
        · exact va_runSN (n := xm_a M2) (own := xcls (xm_c M)) (index := k) ⟨hx, hb, hml, hown, hts⟩ met ⟨va_cnB (xm_a M2) hts (xgood_in hM2) rfl rfl rfl (hG.2 (xcls (xm_c M), k, xm_y M2) q1) (hT _ hM2.2.2.2.2.1) hM2.2.2.1 ⟨Nat.le_trans f1 hu.2.2.1, Nat.le_trans f2 hu.2.2.2⟩, hT _ q2, trivial⟩ ⟨xPc_blind, pre _⟩ rfl (by rw [List.length_map]; exact f3) hL.2.1 (xstk ad _ st) (lv_room hsum) hdg room
        · dsimp only at q0
          omega
      refine xcall_W fin hS (fun H1 locs1 hP1 hS1 => ?_)
      have hk := K H1 locs1 ls hP1 hS1 hL
      cases r2 with
      | none => exact hk
      | some r2 => exact hk
    · cases h
  · next k n hd =>
    obtain ⟨hdg, hg⟩ := xdec hM hd
    obtain rfl : n = 3 := Nat.eq_of_beq_eq_true hg
    unfold xcal1 at h
    split at h
    · next lk2 kd M3 hl =>
      rw [cond_true] at h
      split at h
      · next b st1 hst =>
        have hst : st.drop (xm_a M3) = .ref b :: st1 := hst
        split at h
        · next c3 ks hs =>
          obtain ⟨hc, e2⟩ := bif_some h
          cases e2
          simp only [Bool.and_eq_true] at hc
          obtain ⟨⟨⟨c1, c2⟩, c4⟩, c5⟩ := hc
          have hkd := Nat.eq_of_beq_eq_true c1
          have hcc := Nat.eq_of_beq_eq_true c2
          subst hkd
          subst hcc
          obtain ⟨f1, f2, f3, f4, f5⟩ := xfit_inv c4
          obtain ⟨hM2, hcase⟩ := hlks _ _ hl
          have hbN : b < N := no_lt (noS_iff.mp hN.2 b (List.mem_of_mem_drop (i := xm_a M2) (by show Value.ref b ∈ st.drop _; rw [hst]; exact List.mem_cons_self))) (xshp_lt hs)
          have hsum : ((st1.map (xcv ad)).map fun v => v.category).sum ≤ 8 := by rw [xcv_sum]; exact f4
          have hstk : st.map (xcv ad) = (((st.take (xm_a M2)).reverse).map (xcv ad)).reverse ++ .ref (ad b) :: st1.map (xcv ad) := by
            rw [xstk ad (xm_a M2) st, hst]
            rfl
          rcases hcase with ⟨q0, -⟩ | ⟨q0, -⟩ | ⟨-, q1, q2, q3, T, Nf, q4⟩
          · cases q0
          · cases q0
          · have he := (xws_get (cI := cI) (cJ := cJ) (ad := ad) (w := w) hbN).trans (by rw [xcell_O hs])
            have hrec := va_recv hG.1 hP q4 he
            have hT2 : GoodIn xTB (wsV (xcls (xm_c M)) k (xcls (xm_c M2)) (xm_y M2) (xwsM M2)) := by
              intro z hz
              unfold wsV at hz
              rcases List.mem_append.mp hz with hz | hz
              · have hin : z ∈ xTB := by
                  simp only [List.mem_cons, List.not_mem_nil, or_false] at hz
                  rcases hz with rfl | rfl | rfl | rfl
                  · exact q1
                  · exact q2
                  · have := q3
                    rw [hM2.2.2.2.2.2] at this
                    exact this
                  · have := hM2.2.2.2.2.1
                    rw [hM2.2.2.2.2.2] at this
                    exact this
                exact ⟨hin, good_of_word (xTB_good z hin)⟩
              · exact xgood_in hM2 z hz
            have fin : va_Run p l e R s m args below meth c H locs uc vc mc (10 * mc) (F0 m pc ls (st.map (xcv ad))) (st1.map (xcv ad)) (xQo N D cI cJ ad sz r2 w2 ((Value.ref (ad b) :: ((st.take (xm_a M2)).reverse).map (xcv ad)).toArray)) (xA sz) :=
              va_runV (n := xm_a M2) (own := xcls (xm_c M)) (C := xcls (xm_c M2)) (index := k) ⟨hx, hb, hml, hown, hts⟩ met (cwV (xm_a M2) hts hT2 rfl rfl rfl ⟨hM2.2.2.2.2.2, hM2.2.2.1⟩ ⟨Nat.le_trans f1 hu.2.2.1, Nat.le_trans f2 hu.2.2.2⟩) ⟨xPc_blind, hrec, fun U hU hW => pre (.ref b :: (st.take (xm_a M2)).reverse) U hU hW⟩ rfl (by rw [List.length_map]; exact f3) hL.2.1 hstk (lv_room hsum) hdg room
            refine xcall_W fin hS (fun H1 locs1 hP1 hS1 => ?_)
            have hk := K H1 locs1 ls hP1 hS1 hL
            cases r2 with
            | none => exact hk
            | some r2 => exact hk
        · cases h
      · cases h
    · cases h
  · cases h
theorem xret_go (hM : xok M) (C : xcx D cI cJ M p s m args meth c) {r : Option Value} (h : xret M F r) : xgo N D cI cJ ad sz M R p l e s m args below meth c uc vc (MQ below (xQo N D cI cJ ad sz r F.2.2.2) args s uc vc (xA sz)) F := by
  obtain ⟨hx, hb, hml, hr, hlk, hown, hts, hG⟩ := id C
  obtain ⟨pc, L, st, w⟩ := F
  intro H locs ls hP hS hL
  have fin : ∀ t : State, t.heap = H → va_P D vwCl (xws N cI cJ ad w) t.heap ∧ va_F (xA sz) s t := fun t ht => ⟨by rw [ht]; exact hP, hS.F ht⟩
  rcases h with ⟨v, ty, n, hd, hst, rfl, hrt, hn⟩ | ⟨v, n, hd, hst, rfl, hrt⟩ | ⟨v, n, hd, hst, rfl, hrt⟩ | ⟨v, n, nm, hd, hst, rfl, hrt⟩ | ⟨n, hd, hst, rfl, hrt⟩
  · obtain ⟨hdg, hg⟩ := xdec hM hd
    obtain rfl : n = 1 := Nat.eq_of_beq_eq_true hg
    obtain rfl : st = [.int v] := hst
    exact W.zret hx hb (hr.trans hrt) hn (fun t ht hW => ⟨rfl, fin t ht⟩) hS.2.2 hdg hlk
  · obtain ⟨hdg, hg⟩ := xdec hM hd
    obtain rfl : n = 1 := Nat.eq_of_beq_eq_true hg
    obtain rfl : st = [.long v] := hst
    exact W.lret hx hb (hr.trans hrt) (fun t ht hW => ⟨rfl, fin t ht⟩) hS.2.2 hdg hlk
  · obtain ⟨hdg, hg⟩ := xdec hM hd
    obtain rfl : n = 1 := Nat.eq_of_beq_eq_true hg
    obtain rfl : st = [.double v] := hst
    exact W.dret hx hb (hr.trans hrt) (fun t ht hW => ⟨rfl, fin t ht⟩) hS.2.2 hdg hlk
  · obtain ⟨hdg, hg⟩ := xdec hM hd
    obtain rfl : n = 1 := Nat.eq_of_beq_eq_true hg
    obtain rfl : st = [.ref v] := hst
    exact W.aret hx hb (hr.trans hrt) (Or.inl ⟨nm, rfl⟩) (Or.inr ⟨ad v, rfl⟩) (fun t ht hW => ⟨rfl, fin t ht⟩) hS.2.2 hdg hlk
  · obtain ⟨hdg, hg⟩ := xdec hM hd
    obtain rfl : n = 1 := Nat.eq_of_beq_eq_true hg
    obtain rfl : st = [] := hst
    exact W.vret hx hb (hr.trans hrt) (fun t ht hW => ⟨rfl, fin t ht⟩) hS.2.2 hdg hlk
end
