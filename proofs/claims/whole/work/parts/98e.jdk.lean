/-! String's own members over the constants -/
section
variable {D : va_G} {cI cJ : ClassId} {ad adV : Nat → Nat} {M : xMI}
variable {p : Program} {l : Launch} {e : Env} {s : State} {m : MethodId} {args : Array Value} {below : List Frame} {meth : Method} {c : Code} {Q : State → Prop} {F F1 : xF}
/-- what a method's end says -/
def xQo (D : va_G) (cI cJ : ClassId) (ad : Nat → Nat) (r : Option Value) (w1 : xW) : Array Value → State → Outcome → State → Prop := fun _ st oc t => oc = .returned (r.map (xcv ad)) ∧ va_P D vwCl (xws cI cJ ad w1) t.heap ∧ va_F (xA ad) st t
def xPc (D : va_G) (cI cJ : ClassId) (ad adV : Nat → Nat) (as : List Value) (w : xW) : Array Value → State → Prop := va_Pc (as.map (xcv ad)) (fun U => va_P D vwCl (xws cI cJ ad w) U.heap ∧ xG D cI cJ ad adV U)
theorem xG_moved {u U : State} {locs0 : List Loc} (hW : u.WarmedH U.vm) (hh : va_S (xA ad) u.heap U.heap locs0) (h : xG D cI cJ ad adV u) : xG D cI cJ ad adV U := by
  obtain ⟨hK, hN, hSt⟩ := h
  obtain ⟨h1, ⟨h2, h3, h4, h5⟩, h6, h7⟩ := hSt
  exact ⟨va_K.moved hW.alike hK, fun q hq => va_Nw.warmM hW (hN q hq), (h1.kept hh.2.1).moved hW.alike, ⟨h2.warm hW, h3.warm hW, h4.warm hW, h5.warm hW⟩, (h6.kept hh.2.1).moved hW.alike, (h7.kept hh.2.1).moved hW.alike⟩
theorem xG_calling {U : State} {g : JFrame} {mk : MethodId} {a : Array Value} (h : xG D cI cJ ad adV U) : xG D cI cJ ad adV (U.calling g mk a) := by
  obtain ⟨hK, hN, hSt⟩ := h
  obtain ⟨h1, ⟨h2, h3, h4, h5⟩, h6, h7⟩ := hSt
  have hA : U.vm.Alike (U.calling g mk a).vm := Vm.Alike.refl U.vm
  have hv : (U.calling g mk a).vm = U.vm := rfl
  exact ⟨va_K.moved hA hK, fun q hq => va_Nw.same rfl hv.symm (hN q hq), h1.moved hA, ⟨h2.same hv, h3.same hv, h4.same hv, h5.same hv⟩, h6.moved hA, h7.moved hA⟩
theorem xPc_blind {as : List Value} {w : xW} : FrameBlind (xPc D cI cJ ad adV as w) := fun a U g mk h => ⟨h.1, h.2.1, xG_calling h.2.2⟩
theorem xcall_W {pc : Nat} {ls : Array Slot} {st0 rest : List Value} {r2 : Option Value} {w2 : xW} {a : Array Value} {H : Heap} {locs : List Loc} {R : Room} (hr : va_Run p l e R s m args below meth c H locs 0 0 0 0 (F0 m pc ls st0) rest (xQo D cI cJ ad r2 w2 a) (xA ad)) (hS : va_S (xA ad) s.heap H locs)
    (kk : ∀ (H1 : Heap) (locs1 : List Loc), va_P D vwCl (xws cI cJ ad w2) H1 → va_S (xA ad) s.heap H1 locs1 → W p l e R s m args below meth c H1 locs1 0 0 Q (F0 m (pc + 3) ls ((r2.map (xcv ad)).toList ++ rest))) : W p l e R s m args below meth c H locs 0 0 Q (F0 m pc ls st0) := by
  intro T hT X
  obtain ⟨v, st₀, t, T', L, h0, X', hL, e1, e2, ⟨hv, hp, hz, hk⟩, st⟩ := hr T hT X
  cases hv
  rw [h0] at hz hk
  obtain ⟨t2, a1, b1⟩ := kk T'.heap (locs ++ L) (by rw [e1]; exact hp) ⟨Nat.le_trans hS.1 (by rw [e1]; exact hz), fun q h1 h2 => by rw [e1, hk q (Nat.lt_of_lt_of_le h1 hS.1) h2]; exact hS.2.1 q h1 h2, fun q hq => by
      rcases List.mem_append.mp hq with h | h
      · exact hS.2.2 q h
      · exact hL q h⟩ T' rfl X'
  exact ⟨t2, st t2 a1, b1⟩

theorem jG_moved {u U : State} {locs0 : List Loc} (hW : u.WarmedH U.vm) (hh : va_S (xA ad) u.heap U.heap locs0) (h : xG D cI cJ ad adV u) : xG D cI cJ ad adV U := xG_moved hW hh h
def jPre (D : va_G) (cI cJ : ClassId) (ad adV : Nat → Nat) (vs : List Value) (w : xW) : Array Value → State → Prop := va_Pc vs (fun U => va_P D vwCl (xws cI cJ ad w) U.heap ∧ xG D cI cJ ad adV U)
theorem jPre_blind {vs : List Value} {w : xW} : FrameBlind (jPre D cI cJ ad adV vs w) := fun a U g mk h => ⟨h.1, h.2.1, xG_calling h.2.2⟩
abbrev jrm (f lo : Nat) : Room := { frames := f, cells := 0, slots := 0, locals := lo }
theorem jGood {y2 : MethodName} {b2 : ByteArray} {n2 : Nat} {r2 : Option FieldType} (h : Cond.code y2 b2 n2 r2 ∈ xTB) : GoodIn xTB (.code y2 b2 n2 r2 :: xTB) := by
  intro w hw
  have hin : w ∈ xTB := by
    rcases List.mem_cons.mp hw with rfl | h2
    · exact h
    · exact h2
  exact ⟨hin, good_of_word (xTB_good w hin)⟩
theorem jMet {y : MethodName} {b : ByteArray} {n : Nat} {r : Option FieldType} {f lo : Nat} {vs : List Value} {w : xW} {rv : Option Value} (hy : plainName y.cls = true) (hn : (lg_sl vs).length ≤ n) (step : ∀ (p : Program) (e : Env) (s : State) (m : MethodId) (args : Array Value) (below : List Frame) (meth : Method) (c : Code) (ls : Array Slot), CallFix p m c b n s args xTB y.cls → meth.sig.returnType = r → meth.locks = false → va_P D vwCl (xws cI cJ ad w) s.heap → xG D cI cJ ad adV s → lv_has ls n (lv_args 0 vs) → W p l e (jrm f lo) s m args below meth c s.heap [] 0 0 (MQ below (xQo D cI cJ ad rv w) args s 0 0 (xA ad)) (F0 m 0 ls [])) : Met l y (.code y b n r :: xTB) (jrm f lo) (jPre D cI cJ ad adV vs w) (xQo D cI cJ ad rv w) 0 0 (xA ad) := by
  refine Met.ofW (cc := b) (maxL := n) (ret := r) hy rfl ?_
  intro p e s m args below meth c s₁ B hml hv
  obtain ⟨rfl, hP, hG⟩ := hv
  have hts := atoms_spec (ws := .code y b n r :: xTB) B.pre
  have hown : s.vm.findClass y.cls = some m.cls := findClass_of_methodNamed B.named
  have hl := lv_entry vs (n := n) hn
  rw [lg_entry_eq]
  exact step p e s m _ below meth c _ ⟨B.exec, B.bytes, hml, hown, fun w hw => hts w (List.mem_cons_of_mem _ hw)⟩ B.returns B.notSynchronized hP hG hl
section
variable {own : String} {b : ByteArray} {n : Nat} {R : Room} {y2 : MethodName} {b2 : ByteArray} {n2 : Nat} {r2 : Option FieldType} {f2 lo2 index a pc : Nat} {As rest : List Value} {H : Heap} {locs : List Loc} {ls : Array Slot} {w : xW}
theorem jcV {rv : Int32} (S : CallFix p m c b n s args xTB own) (hG : xG D cI cJ ad adV s) (met : Met l y2 (.code y2 b2 n2 r2 :: xTB) (jrm f2 lo2) (jPre D cI cJ ad adV (.ref a :: As) w) (xQo D cI cJ ad (some (.int rv)) w) 0 0 (xA ad)) (hrec : ∃ cell : Cell, H[a]? = some cell ∧ cell.vm.isStatics = false ∧ s.vm.findClass y2.cls = some cell.cls)
    (hw : Cond.methodLink own index y2 ∈ xTB ∧ Cond.instanceMethod y2 ∈ xTB ∧ Cond.selects y2.cls y2 y2 ∈ xTB ∧ Cond.initialized y2.cls ∈ xTB ∧ Cond.code y2 b2 n2 r2 ∈ xTB) (hd : y2.cls ≠ "java/lang/invoke/MethodHandle" ∧ y2.cls ≠ "java/lang/invoke/VarHandle" ∧ (parseMethodDescriptor y2.desc).map (fun d => d.parameters.length) = some As.length) (hR : f2 + 1 ≤ R.frames ∧ 8 + (n2 + 11) + lo2 ≤ R.locals) (hls : ls.size = n) (hsum : (rest.map fun v => v.category).sum ≤ 8)
    (hdg : decode b pc = .ok (.invokevirtual index, 3)) (hP : va_P D vwCl (xws cI cJ ad w) H) (hS : va_S (xA ad) s.heap H locs) (kk : ∀ (H1 : Heap) (locs1 : List Loc), va_P D vwCl (xws cI cJ ad w) H1 → va_S (xA ad) s.heap H1 locs1 → W p l e R s m args below meth c H1 locs1 0 0 Q (F0 m (pc + 3) ls (.int rv :: rest))) : W p l e R s m args below meth c H locs 0 0 Q (F0 m pc ls (As.reverse ++ .ref a :: rest)) := by
  obtain ⟨w1, w2, w3, w4, w5⟩ := hw
  have hT := S.2.2.2.2
  have fin : va_Run p l e R s m args below meth c H locs 0 0 0 0 (F0 m pc ls (As.reverse ++ .ref a :: rest)) rest (xQo D cI cJ ad (some (.int rv)) w ((Value.ref a :: As).toArray)) (xA ad) :=
    va_runV (n := As.length) (own := own) (C := y2.cls) (index := index) S met ⟨callB_of As.length hT (jGood w5) rfl rfl rfl (hT _ w4) (hT _ w1) hd hR, hT _ w2, hT _ w3⟩ ⟨jPre_blind, hrec, fun U hU hW => ⟨rfl, by rw [hU]; exact hP, xG_moved (locs0 := locs) hW (by rw [hU]; exact hS) hG⟩⟩ rfl rfl hls rfl (lv_room hsum) hdg ⟨Nat.zero_le _, Nat.zero_le _⟩
  exact xcall_W fin hS (fun H1 locs1 hP1 hS1 => kk H1 locs1 hP1 hS1)
theorem jcS {rv : Option Value} (S : CallFix p m c b n s args xTB own) (hG : xG D cI cJ ad adV s) (met : Met l y2 (.code y2 b2 n2 r2 :: xTB) (jrm f2 lo2) (jPre D cI cJ ad adV As w) (xQo D cI cJ ad rv w) 0 0 (xA ad))
    (hw : Cond.methodLink own index y2 ∈ xTB ∧ Cond.static y2 ∈ xTB ∧ Cond.initialized y2.cls ∈ xTB ∧ Cond.code y2 b2 n2 r2 ∈ xTB) (hd : y2.cls ≠ "java/lang/invoke/MethodHandle" ∧ y2.cls ≠ "java/lang/invoke/VarHandle" ∧ (parseMethodDescriptor y2.desc).map (fun d => d.parameters.length) = some As.length) (hR : f2 + 1 ≤ R.frames ∧ 8 + (n2 + 11) + lo2 ≤ R.locals) (hls : ls.size = n) (hsum : (rest.map fun v => v.category).sum ≤ 8)
    (hdg : decode b pc = .ok (.invokestatic index, 3)) (hP : va_P D vwCl (xws cI cJ ad w) H) (hS : va_S (xA ad) s.heap H locs) (kk : ∀ (H1 : Heap) (locs1 : List Loc), va_P D vwCl (xws cI cJ ad w) H1 → va_S (xA ad) s.heap H1 locs1 → W p l e R s m args below meth c H1 locs1 0 0 Q (F0 m (pc + 3) ls ((rv.map (xcv ad)).toList ++ rest))) : W p l e R s m args below meth c H locs 0 0 Q (F0 m pc ls (As.reverse ++ rest)) := by
  obtain ⟨w1, w2, w4, w5⟩ := hw
  have hT := S.2.2.2.2
  have fin : va_Run p l e R s m args below meth c H locs 0 0 0 0 (F0 m pc ls (As.reverse ++ rest)) rest (xQo D cI cJ ad rv w As.toArray) (xA ad) :=
    va_runS (n := As.length) (own := own) (index := index) S met ⟨callB_of As.length hT (jGood w5) rfl rfl rfl (hT _ w4) (hT _ w1) hd hR, hT _ w2⟩ ⟨jPre_blind, fun U hU hW => ⟨rfl, by rw [hU]; exact hP, xG_moved (locs0 := locs) hW (by rw [hU]; exact hS) hG⟩⟩ rfl rfl hls rfl (lv_room hsum) hdg ⟨Nat.zero_le _, Nat.zero_le _⟩
  exact xcall_W fin hS (fun H1 locs1 hP1 hS1 => kk H1 locs1 hP1 hS1)
end
theorem jd_J0_coder_7d493_0 : decode cJ0_coder_7d493 0 = .ok (.getstatic 38, 3) := by decide +kernel
theorem jd_J0_coder_7d493_3 : decode cJ0_coder_7d493 3 = .ok (.ifCond .eq 10, 3) := by decide +kernel
theorem jd_J0_coder_7d493_6 : decode cJ0_coder_7d493 6 = .ok (.aload_n 0, 1) := by decide +kernel
theorem jd_J0_coder_7d493_7 : decode cJ0_coder_7d493 7 = .ok (.getfield 15, 3) := by decide +kernel
theorem jd_J0_coder_7d493_10 : decode cJ0_coder_7d493 10 = .ok (.goto 4, 3) := by decide +kernel
theorem jd_J0_coder_7d493_13 : decode cJ0_coder_7d493 13 = .ok (.iconst 1, 1) := by decide +kernel
theorem jd_J0_coder_7d493_14 : decode cJ0_coder_7d493 14 = .ok (.ireturn, 1) := by decide +kernel
theorem jd_J0_isLatin1_aae02_0 : decode cJ0_isLatin1_aae02 0 = .ok (.getstatic 38, 3) := by decide +kernel
theorem jd_J0_isLatin1_aae02_3 : decode cJ0_isLatin1_aae02 3 = .ok (.ifCond .eq 14, 3) := by decide +kernel
theorem jd_J0_isLatin1_aae02_6 : decode cJ0_isLatin1_aae02 6 = .ok (.aload_n 0, 1) := by decide +kernel
theorem jd_J0_isLatin1_aae02_7 : decode cJ0_isLatin1_aae02 7 = .ok (.getfield 15, 3) := by decide +kernel
theorem jd_J0_isLatin1_aae02_10 : decode cJ0_isLatin1_aae02 10 = .ok (.ifCond .ne 7, 3) := by decide +kernel
theorem jd_J0_isLatin1_aae02_13 : decode cJ0_isLatin1_aae02 13 = .ok (.iconst 1, 1) := by decide +kernel
theorem jd_J0_isLatin1_aae02_14 : decode cJ0_isLatin1_aae02 14 = .ok (.goto 4, 3) := by decide +kernel
theorem jd_J0_isLatin1_aae02_18 : decode cJ0_isLatin1_aae02 18 = .ok (.ireturn, 1) := by decide +kernel
theorem jd_J0_length_8abf5_0 : decode cJ0_length_8abf5 0 = .ok (.aload_n 0, 1) := by decide +kernel
theorem jd_J0_length_8abf5_1 : decode cJ0_length_8abf5 1 = .ok (.getfield 9, 3) := by decide +kernel
theorem jd_J0_length_8abf5_4 : decode cJ0_length_8abf5 4 = .ok (.arraylength, 1) := by decide +kernel
theorem jd_J0_length_8abf5_5 : decode cJ0_length_8abf5 5 = .ok (.aload_n 0, 1) := by decide +kernel
theorem jd_J0_length_8abf5_6 : decode cJ0_length_8abf5 6 = .ok (.invokevirtual 335, 3) := by decide +kernel
theorem jd_J0_length_8abf5_9 : decode cJ0_length_8abf5 9 = .ok (.ishr, 1) := by decide +kernel
theorem jd_J0_length_8abf5_10 : decode cJ0_length_8abf5 10 = .ok (.ireturn, 1) := by decide +kernel
theorem jd_J0_isEmpty_aae02_0 : decode cJ0_isEmpty_aae02 0 = .ok (.aload_n 0, 1) := by decide +kernel
theorem jd_J0_isEmpty_aae02_1 : decode cJ0_isEmpty_aae02 1 = .ok (.getfield 9, 3) := by decide +kernel
theorem jd_J0_isEmpty_aae02_4 : decode cJ0_isEmpty_aae02 4 = .ok (.arraylength, 1) := by decide +kernel
theorem jd_J0_isEmpty_aae02_5 : decode cJ0_isEmpty_aae02 5 = .ok (.ifCond .ne 7, 3) := by decide +kernel
theorem jd_J0_isEmpty_aae02_8 : decode cJ0_isEmpty_aae02 8 = .ok (.iconst 1, 1) := by decide +kernel
theorem jd_J0_isEmpty_aae02_9 : decode cJ0_isEmpty_aae02 9 = .ok (.goto 4, 3) := by decide +kernel
theorem jd_J0_isEmpty_aae02_12 : decode cJ0_isEmpty_aae02 12 = .ok (.iconst 0, 1) := by decide +kernel
theorem jd_J0_isEmpty_aae02_13 : decode cJ0_isEmpty_aae02 13 = .ok (.ireturn, 1) := by decide +kernel
theorem jd_J3_checkIndex_8e157_0 : decode cJ3_checkIndex_8e157 0 = .ok (.iload_n 0, 1) := by decide +kernel
theorem jd_J3_checkIndex_8e157_1 : decode cJ3_checkIndex_8e157 1 = .ok (.ifCond .lt 8, 3) := by decide +kernel
theorem jd_J3_checkIndex_8e157_4 : decode cJ3_checkIndex_8e157 4 = .ok (.iload_n 0, 1) := by decide +kernel
theorem jd_J3_checkIndex_8e157_5 : decode cJ3_checkIndex_8e157 5 = .ok (.iload_n 1, 1) := by decide +kernel
theorem jd_J3_checkIndex_8e157_6 : decode cJ3_checkIndex_8e157 6 = .ok (.if_icmp .lt 10, 3) := by decide +kernel
theorem jd_J3_checkIndex_8e157_16 : decode cJ3_checkIndex_8e157 16 = .ok (.iload_n 0, 1) := by decide +kernel
theorem jd_J3_checkIndex_8e157_17 : decode cJ3_checkIndex_8e157 17 = .ok (.ireturn, 1) := by decide +kernel
theorem jd_J0_checkIndex_df160_0 : decode cJ0_checkIndex_df160 0 = .ok (.iload_n 0, 1) := by decide +kernel
theorem jd_J0_checkIndex_df160_1 : decode cJ0_checkIndex_df160 1 = .ok (.iload_n 1, 1) := by decide +kernel
theorem jd_J0_checkIndex_df160_2 : decode cJ0_checkIndex_df160 2 = .ok (.getstatic 1053, 3) := by decide +kernel
theorem jd_J0_checkIndex_df160_5 : decode cJ0_checkIndex_df160 5 = .ok (.invokestatic 1059, 3) := by decide +kernel
theorem jd_J0_checkIndex_df160_8 : decode cJ0_checkIndex_df160 8 = .ok (.pop, 1) := by decide +kernel
theorem jd_J0_checkIndex_df160_9 : decode cJ0_checkIndex_df160 9 = .ok (.return_, 1) := by decide +kernel
theorem jd_J1_charAt_3b067_0 : decode cJ1_charAt_3b067 0 = .ok (.iload_n 1, 1) := by decide +kernel
theorem jd_J1_charAt_3b067_1 : decode cJ1_charAt_3b067 1 = .ok (.aload_n 0, 1) := by decide +kernel
theorem jd_J1_charAt_3b067_2 : decode cJ1_charAt_3b067 2 = .ok (.arraylength, 1) := by decide +kernel
theorem jd_J1_charAt_3b067_3 : decode cJ1_charAt_3b067 3 = .ok (.invokestatic 9, 3) := by decide +kernel
theorem jd_J1_charAt_3b067_6 : decode cJ1_charAt_3b067 6 = .ok (.aload_n 0, 1) := by decide +kernel
theorem jd_J1_charAt_3b067_7 : decode cJ1_charAt_3b067 7 = .ok (.iload_n 1, 1) := by decide +kernel
theorem jd_J1_charAt_3b067_8 : decode cJ1_charAt_3b067 8 = .ok (.baload, 1) := by decide +kernel
theorem jd_J1_charAt_3b067_9 : decode cJ1_charAt_3b067 9 = .ok (.sipush 255, 3) := by decide +kernel
theorem jd_J1_charAt_3b067_12 : decode cJ1_charAt_3b067 12 = .ok (.iand, 1) := by decide +kernel
theorem jd_J1_charAt_3b067_13 : decode cJ1_charAt_3b067 13 = .ok (.i2c, 1) := by decide +kernel
theorem jd_J1_charAt_3b067_14 : decode cJ1_charAt_3b067 14 = .ok (.ireturn, 1) := by decide +kernel
theorem jd_J0_charAt_5068e_0 : decode cJ0_charAt_5068e 0 = .ok (.aload_n 0, 1) := by decide +kernel
theorem jd_J0_charAt_5068e_1 : decode cJ0_charAt_5068e 1 = .ok (.invokevirtual 492, 3) := by decide +kernel
theorem jd_J0_charAt_5068e_4 : decode cJ0_charAt_5068e 4 = .ok (.ifCond .eq 12, 3) := by decide +kernel
theorem jd_J0_charAt_5068e_7 : decode cJ0_charAt_5068e 7 = .ok (.aload_n 0, 1) := by decide +kernel
theorem jd_J0_charAt_5068e_8 : decode cJ0_charAt_5068e 8 = .ok (.getfield 9, 3) := by decide +kernel
theorem jd_J0_charAt_5068e_11 : decode cJ0_charAt_5068e 11 = .ok (.iload_n 1, 1) := by decide +kernel
theorem jd_J0_charAt_5068e_12 : decode cJ0_charAt_5068e 12 = .ok (.invokestatic 495, 3) := by decide +kernel
theorem jd_J0_charAt_5068e_15 : decode cJ0_charAt_5068e 15 = .ok (.ireturn, 1) := by decide +kernel
set_option maxRecDepth 100000 in
theorem jm_coder {i : Nat} {w : xW} (hi : i < 4) : Met l yJ0_coder_7d493 (.code yJ0_coder_7d493 cJ0_coder_7d493 1 (some .byte) :: xTB) (jrm 0 0) (jPre D cI cJ ad adV [.ref (ad (100 + i))] w) (xQo D cI cJ ad (some (.int 0)) w) 0 0 (xA ad) := by
  refine jMet (by decide +kernel) (Nat.le_of_ble_eq_true rfl) ?_
  intro p e s m args below meth c ls S hr hlocks hP hG hl
  obtain ⟨hx, hb, hml, hown, hT⟩ := id S
  have hS : va_S (xA ad) s.heap s.heap [] := va_S.rf
  have hSt := hG.2.2
  have hE := hSt.1.1 i hi
  have hl : lv_has ls 1 [(0, .ref (ad (100 + i)))] := hl
  refine va_gets hx hb (ref := "java/lang/String") hSt.2.2.1 hS hown (hT _ (xtb 561 (by decide +kernel) (by decide +kernel))) (fun _ h => h) jd_J0_coder_7d493_0 ?_
  refine lv_if_eq (tgt := 13) hx hb jd_J0_coder_7d493_3 (by decide) (fun z => absurd z (by decide)) (fun _ => ?_)
  refine lv_aload_n hx hb jd_J0_coder_7d493_6 rfl (lv_at hl 0 rfl) ?_
  refine vk_getf hx hb (ref := "java/lang/String") hE.2.1 hS hown (hT _ (xtb 1262 (by decide +kernel) (by decide +kernel))) (fun _ h => h) jd_J0_coder_7d493_7 ?_
  refine lv_goto (tgt := 14) hx hb jd_J0_coder_7d493_10 (by decide) ?_
  exact W.zret hx hb hr rfl (fun t ht hW => ⟨rfl, by rw [ht]; exact hP, hS.F ht⟩) hS.2.2 jd_J0_coder_7d493_14 hlocks
set_option maxRecDepth 100000 in
theorem jm_latin {i : Nat} {w : xW} (hi : i < 4) : Met l yJ0_isLatin1_aae02 (.code yJ0_isLatin1_aae02 cJ0_isLatin1_aae02 1 (some .boolean) :: xTB) (jrm 0 0) (jPre D cI cJ ad adV [.ref (ad (100 + i))] w) (xQo D cI cJ ad (some (.int 1)) w) 0 0 (xA ad) := by
  refine jMet (by decide +kernel) (Nat.le_of_ble_eq_true rfl) ?_
  intro p e s m args below meth c ls S hr hlocks hP hG hl
  obtain ⟨hx, hb, hml, hown, hT⟩ := id S
  have hS : va_S (xA ad) s.heap s.heap [] := va_S.rf
  have hSt := hG.2.2
  have hE := hSt.1.1 i hi
  have hl : lv_has ls 1 [(0, .ref (ad (100 + i)))] := hl
  refine va_gets hx hb (ref := "java/lang/String") hSt.2.2.1 hS hown (hT _ (xtb 561 (by decide +kernel) (by decide +kernel))) (fun _ h => h) jd_J0_isLatin1_aae02_0 ?_
  refine lv_if_eq (tgt := 17) hx hb jd_J0_isLatin1_aae02_3 (by decide) (fun z => absurd z (by decide)) (fun _ => ?_)
  refine lv_aload_n hx hb jd_J0_isLatin1_aae02_6 rfl (lv_at hl 0 rfl) ?_
  refine vk_getf hx hb (ref := "java/lang/String") hE.2.1 hS hown (hT _ (xtb 1262 (by decide +kernel) (by decide +kernel))) (fun _ h => h) jd_J0_isLatin1_aae02_7 ?_
  refine lv_if_ne (tgt := 17) hx hb jd_J0_isLatin1_aae02_10 (by decide) (fun z => absurd rfl z) (fun _ => ?_)
  refine lv_iconst (v := 1) hx hb jd_J0_isLatin1_aae02_13 (by decide) ?_
  refine lv_goto (tgt := 18) hx hb jd_J0_isLatin1_aae02_14 (by decide) ?_
  exact W.zret hx hb hr rfl (fun t ht hW => ⟨rfl, by rw [ht]; exact hP, hS.F ht⟩) hS.2.2 jd_J0_isLatin1_aae02_18 hlocks
set_option maxRecDepth 100000 in
theorem jm_empty {i N : Nat} {w : xW} (hi : i < 4) (hN : (xStrL.map List.length).getD i 0 = N) (h31 : N < 2 ^ 31) : Met l yJ0_isEmpty_aae02 (.code yJ0_isEmpty_aae02 cJ0_isEmpty_aae02 1 (some .boolean) :: xTB) (jrm 0 0) (jPre D cI cJ ad adV [.ref (ad (100 + i))] w) (xQo D cI cJ ad (some (.int (bif Nat.beq N 0 then 1 else 0))) w) 0 0 (xA ad) := by
  refine jMet (by decide +kernel) (Nat.le_of_ble_eq_true rfl) ?_
  intro p e s m args below meth c ls S hr hlocks hP hG hl
  obtain ⟨hx, hb, hml, hown, hT⟩ := id S
  have hS : va_S (xA ad) s.heap s.heap [] := va_S.rf
  have hSt := hG.2.2
  have hE := hSt.1.1 i hi
  have hl : lv_has ls 1 [(0, .ref (ad (100 + i)))] := hl
  refine lv_aload_n hx hb jd_J0_isEmpty_aae02_0 rfl (lv_at hl 0 rfl) ?_
  refine vk_getf hx hb (ref := "java/lang/String") hE.2.2.1 hS hown (hT _ (xtb 1261 (by decide +kernel) (by decide +kernel))) (fun _ h => h) jd_J0_isEmpty_aae02_1 ?_
  refine va_tlen (v := nI N) hx hb hE.2.2.2 hS (by rw [hN]; rfl) jd_J0_isEmpty_aae02_4 ?_
  refine lv_if_ne (tgt := 12) hx hb jd_J0_isEmpty_aae02_5 (by decide) (fun z => ?_) (fun z => ?_)
  · have e : Nat.beq N 0 = false := by
      cases h : Nat.beq N 0 with
      | false => rfl
      | true => exact absurd (by rw [Nat.eq_of_beq_eq_true h]; rfl) z
    rw [e]
    refine lv_iconst (v := 0) hx hb jd_J0_isEmpty_aae02_12 (by decide) ?_
    exact W.zret hx hb hr rfl (fun t ht hW => ⟨rfl, by rw [ht]; exact hP, hS.F ht⟩) hS.2.2 jd_J0_isEmpty_aae02_13 hlocks
  · have e : N = 0 := jI_inj h31 (by decide) z
    rw [e]
    refine lv_iconst (v := 1) hx hb jd_J0_isEmpty_aae02_8 (by decide) ?_
    refine lv_goto (tgt := 13) hx hb jd_J0_isEmpty_aae02_9 (by decide) ?_
    exact W.zret hx hb hr rfl (fun t ht hW => ⟨rfl, by rw [ht]; exact hP, hS.F ht⟩) hS.2.2 jd_J0_isEmpty_aae02_13 hlocks
set_option maxRecDepth 100000 in
theorem jm_length {i N : Nat} {w : xW} (hi : i < 4) (hN : (xStrL.map List.length).getD i 0 = N) (h31 : N < 2 ^ 31) : Met l yJ0_length_8abf5 (.code yJ0_length_8abf5 cJ0_length_8abf5 1 (some .int) :: xTB) (jrm 1 20) (jPre D cI cJ ad adV [.ref (ad (100 + i))] w) (xQo D cI cJ ad (some (.int (nI N))) w) 0 0 (xA ad) := by
  refine jMet (by decide +kernel) (Nat.le_of_ble_eq_true rfl) ?_
  intro p e s m args below meth c ls S hr hlocks hP hG hl
  obtain ⟨hx, hb, hml, hown, hT⟩ := id S
  have hS : va_S (xA ad) s.heap s.heap [] := va_S.rf
  have hSt := hG.2.2
  have hE := hSt.1.1 i hi
  have hl : lv_has ls 1 [(0, .ref (ad (100 + i)))] := hl
  refine lv_aload_n hx hb jd_J0_length_8abf5_0 rfl (lv_at hl 0 rfl) ?_
  refine vk_getf hx hb (ref := "java/lang/String") hE.2.2.1 hS hown (hT _ (xtb 1261 (by decide +kernel) (by decide +kernel))) (fun _ h => h) jd_J0_length_8abf5_1 ?_
  refine va_tlen (v := nI N) hx hb hE.2.2.2 hS (by rw [hN]; rfl) jd_J0_length_8abf5_4 ?_
  refine lv_aload_n hx hb jd_J0_length_8abf5_5 rfl (lv_at hl 0 rfl) ?_
  refine jcV (As := []) (rv := 0) (index := 335) S hG (jm_coder hi) (vk_recv (adK := fun i => ad (100 + i)) (i := i) hSt.1 hi hS) ⟨xtb 557 (by decide +kernel) (by decide +kernel), xtb 558 (by decide +kernel) (by decide +kernel), xtb 559 (by decide +kernel) (by decide +kernel), xtb 79 (by decide +kernel) (by decide +kernel), xtb 560 rfl rfl⟩ ⟨by decide +kernel, by decide +kernel, by decide +kernel⟩ ⟨Nat.le_of_ble_eq_true rfl, Nat.le_of_ble_eq_true rfl⟩ hl.1 (Nat.le_of_ble_eq_true rfl) jd_J0_length_8abf5_6 hP hS (fun H1 locs1 hP hS => ?_)
  refine lv_ishr hx hb jd_J0_length_8abf5_9 ?_
  rw [show nI N >>> ((0 : Int32) &&& 31) = nI N by simp]
  exact W.iret hx hb hr (fun t ht hW => ⟨rfl, by rw [ht]; exact hP, hS.F ht⟩) hS.2.2 jd_J0_length_8abf5_10 hlocks
set_option maxRecDepth 100000 in
theorem jm_pre {i N : Nat} {v : Value} {w : xW} (hiN : i < N) (h31 : N < 2 ^ 31) (hv : v = .null ∨ ∃ t, v = .ref t) : Met l yJ3_checkIndex_8e157 (.code yJ3_checkIndex_8e157 cJ3_checkIndex_8e157 3 (some .int) :: xTB) (jrm 0 0) (jPre D cI cJ ad adV [.int (nI i), .int (nI N), v] w) (xQo D cI cJ ad (some (.int (nI i))) w) 0 0 (xA ad) := by
  have hlv : (lg_sl [.int (nI i), .int (nI N), v]).length ≤ 3 := by rcases hv with rfl | ⟨t, rfl⟩ <;> exact Nat.le_of_ble_eq_true rfl
  refine jMet (by decide +kernel) hlv ?_
  intro p e s m args below meth c ls S hr hlocks hP hG hl
  obtain ⟨hx, hb, hml, hown, hT⟩ := id S
  have hS : va_S (xA ad) s.heap s.heap [] := va_S.rf
  have hl : lv_has ls 3 [(0, .int (nI i)), (1, .int (nI N)), (2, v)] := by rcases hv with rfl | ⟨t, rfl⟩ <;> exact hl
  refine lv_iload_n hx hb jd_J3_checkIndex_8e157_0 rfl (lv_at hl 0 rfl) ?_
  refine lv_if_lt (tgt := 9) hx hb jd_J3_checkIndex_8e157_1 (by decide) (fun z => absurd z (nI_pos (by omega))) (fun _ => ?_)
  refine lv_iload_n hx hb jd_J3_checkIndex_8e157_4 rfl (lv_at hl 0 rfl) ?_
  refine lv_iload_n hx hb jd_J3_checkIndex_8e157_5 rfl (lv_at hl 1 rfl) ?_
  refine lv_icmp_lt (tgt := 16) hx hb jd_J3_checkIndex_8e157_6 (by decide) (fun _ => ?_) (fun z => absurd ((nI_ltI (by omega) h31).mpr hiN) z)
  refine lv_iload_n hx hb jd_J3_checkIndex_8e157_16 rfl (lv_at hl 0 rfl) ?_
  exact W.iret hx hb hr (fun t ht hW => ⟨rfl, by rw [ht]; exact hP, hS.F ht⟩) hS.2.2 jd_J3_checkIndex_8e157_17 hlocks
set_option maxRecDepth 100000 in
theorem jm_check {i N : Nat} {w : xW} (hiN : i < N) (h31 : N < 2 ^ 31) : Met l yJ0_checkIndex_df160 (.code yJ0_checkIndex_df160 cJ0_checkIndex_df160 2 (none) :: xTB) (jrm 1 22) (jPre D cI cJ ad adV [.int (nI i), .int (nI N)] w) (xQo D cI cJ ad none w) 0 0 (xA ad) := by
  refine jMet (by decide +kernel) (Nat.le_of_ble_eq_true rfl) ?_
  intro p e s m args below meth c ls S hr hlocks hP hG hl
  obtain ⟨hx, hb, hml, hown, hT⟩ := id S
  have hS : va_S (xA ad) s.heap s.heap [] := va_S.rf
  have hSt := hG.2.2
  have hl : lv_has ls 2 [(0, .int (nI i)), (1, .int (nI N))] := hl
  refine lv_iload_n hx hb jd_J0_checkIndex_df160_0 rfl (lv_at hl 0 rfl) ?_
  refine lv_iload_n hx hb jd_J0_checkIndex_df160_1 rfl (lv_at hl 1 rfl) ?_
  have go : ∀ v : Value, (v = .null ∨ ∃ t, v = .ref t) → va_Z "jdk/internal/util/Preconditions" "SIOOBE_FORMATTER" "Ljava/util/function/BiFunction;" v (xA ad) s s.heap → W p l e (jrm 1 22) s m args below meth c s.heap [] 0 0 (MQ below (xQo D cI cJ ad none w) args s 0 0 (xA ad)) (F0 m 2 ls [.int (nI N), .int (nI i)]) := by
    intro v hv hZ
    refine va_gets hx hb (ref := "jdk/internal/util/Preconditions") hZ hS hown (hT _ (xtb 577 (by decide +kernel) (by decide +kernel))) (fun _ h => h) jd_J0_checkIndex_df160_2 ?_
    refine jcS (As := [.int (nI i), .int (nI N), v]) (rest := []) (rv := some (.int (nI i))) (index := 1059) S hG (jm_pre hiN h31 hv) ⟨xtb 579 (by decide +kernel) (by decide +kernel), xtb 580 (by decide +kernel) (by decide +kernel), xtb 81 (by decide +kernel) (by decide +kernel), xtb 581 rfl rfl⟩ ⟨by decide +kernel, by decide +kernel, (show (parseMethodDescriptor yJ3_checkIndex_8e157.desc).map (fun d => d.parameters.length) = some 3 by decide +kernel)⟩ ⟨Nat.le_of_ble_eq_true rfl, Nat.le_of_ble_eq_true rfl⟩ hl.1 (Nat.le_of_ble_eq_true rfl) jd_J0_checkIndex_df160_5 hP hS (fun H1 locs1 hP hS => ?_)
    refine lv_pop (va := .int (nI i)) hx hb jd_J0_checkIndex_df160_8 rfl ?_
    exact W.vret hx hb hr (fun t ht hW => ⟨rfl, by rw [ht]; exact hP, hS.F ht⟩) hS.2.2 jd_J0_checkIndex_df160_9 hlocks
  rcases hSt.2.2.2 with h | ⟨t, h⟩
  · exact go _ (Or.inl rfl) h
  · exact go _ (Or.inr ⟨t, rfl⟩) h
theorem jch_ok : ∀ i, i < 4 → ∀ j, j < (xStrL.map List.length).getD i 0 → (((xStr32.getD i []).getD j 0 &&& 255).toUInt32 % 65536).toInt32 = nI ((xStrL.getD i []).getD j 0) ∧ decide ((xStrL.getD i []).getD j 0 < 128) = true := by decide +kernel
theorem jch_n : ∀ k, k < 128 → narrow .char (.int (nI k)) = .int (nI k) := fun k hk => by
  have : ∀ k, k < 128 → ((nI k).toUInt32 % 65536).toInt32 = nI k := by decide +kernel
  show Value.int _ = _
  first | exact congrArg Value.int (this k hk) | (simp only [narrow]; exact congrArg Value.int (this k hk))
set_option maxRecDepth 100000 in
theorem jm_lch {i j N : Nat} {w : xW} (hi : i < 4) (hN : (xStrL.map List.length).getD i 0 = N) (hj : j < N) (h31 : N < 2 ^ 31) : Met l yJ1_charAt_3b067 (.code yJ1_charAt_3b067 cJ1_charAt_3b067 2 (some .char) :: xTB) (jrm 2 43) (jPre D cI cJ ad adV [.ref (adV i), .int (nI j)] w) (xQo D cI cJ ad (some (.int (nI ((xStrL.getD i []).getD j 0)))) w) 0 0 (xA ad) := by
  refine jMet (by decide +kernel) (Nat.le_of_ble_eq_true rfl) ?_
  intro p e s m args below meth c ls S hr hlocks hP hG hl
  obtain ⟨hx, hb, hml, hown, hT⟩ := id S
  have hS : va_S (xA ad) s.heap s.heap [] := va_S.rf
  have hSt := hG.2.2
  have hE := hSt.1.1 i hi
  have hl : lv_has ls 2 [(0, .ref (adV i)), (1, .int (nI j))] := hl
  have hch := jch_ok i hi j (by rw [hN]; exact hj)
  refine lv_iload_n hx hb jd_J1_charAt_3b067_0 rfl (lv_at hl 1 rfl) ?_
  refine lv_aload_n hx hb jd_J1_charAt_3b067_1 rfl (lv_at hl 0 rfl) ?_
  refine va_tlen (v := nI N) hx hb hE.2.2.2 hS (by rw [hN]; rfl) jd_J1_charAt_3b067_2 ?_
  refine jcS (As := [.int (nI j), .int (nI N)]) (rest := []) (rv := none) (index := 9) S hG (jm_check hj h31) ⟨xtb 574 (by decide +kernel) (by decide +kernel), xtb 575 (by decide +kernel) (by decide +kernel), xtb 79 (by decide +kernel) (by decide +kernel), xtb 576 rfl rfl⟩ ⟨by decide +kernel, by decide +kernel, (show (parseMethodDescriptor yJ0_checkIndex_df160.desc).map (fun d => d.parameters.length) = some 2 by decide +kernel)⟩ ⟨Nat.le_of_ble_eq_true rfl, Nat.le_of_ble_eq_true rfl⟩ hl.1 (Nat.le_of_ble_eq_true rfl) jd_J1_charAt_3b067_3 hP hS (fun H1 locs1 hP hS => ?_)
  refine lv_aload_n hx hb jd_J1_charAt_3b067_6 rfl (lv_at hl 0 rfl) ?_
  refine lv_iload_n hx hb jd_J1_charAt_3b067_7 rfl (lv_at hl 1 rfl) ?_
  refine va_tb (v := .int ((xStr32.getD i []).getD j 0)) hx hb hE.2.2.2 hS (by rw [hN]; exact vp_in_nI hj h31) (by rw [nI_clamp (by omega)]) jd_J1_charAt_3b067_8 ?_
  refine lv_sipush (v := 255) hx hb jd_J1_charAt_3b067_9 (by decide) ?_
  refine lv_iand hx hb jd_J1_charAt_3b067_12 ?_
  refine lv_i2c hx hb jd_J1_charAt_3b067_13 hch.1 ?_
  exact W.zret hx hb hr (jch_n _ (of_decide_eq_true hch.2)) (fun t ht hW => ⟨rfl, by rw [ht]; exact hP, hS.F ht⟩) hS.2.2 jd_J1_charAt_3b067_14 hlocks
set_option maxRecDepth 100000 in
theorem jm_char {i j N : Nat} {w : xW} (hi : i < 4) (hN : (xStrL.map List.length).getD i 0 = N) (hj : j < N) (h31 : N < 2 ^ 31) : Met l yJ0_charAt_5068e (.code yJ0_charAt_5068e cJ0_charAt_5068e 2 (some .char) :: xTB) (jrm 3 64) (jPre D cI cJ ad adV [.ref (ad (100 + i)), .int (nI j)] w) (xQo D cI cJ ad (some (.int (nI ((xStrL.getD i []).getD j 0)))) w) 0 0 (xA ad) := by
  refine jMet (by decide +kernel) (Nat.le_of_ble_eq_true rfl) ?_
  intro p e s m args below meth c ls S hr hlocks hP hG hl
  obtain ⟨hx, hb, hml, hown, hT⟩ := id S
  have hS : va_S (xA ad) s.heap s.heap [] := va_S.rf
  have hSt := hG.2.2
  have hE := hSt.1.1 i hi
  have hl : lv_has ls 2 [(0, .ref (ad (100 + i))), (1, .int (nI j))] := hl
  have hch := jch_ok i hi j (by rw [hN]; exact hj)
  refine lv_aload_n hx hb jd_J0_charAt_5068e_0 rfl (lv_at hl 0 rfl) ?_
  refine jcV (As := []) (rv := 1) (index := 492) S hG (jm_latin hi) (vk_recv (adK := fun i => ad (100 + i)) (i := i) hSt.1 hi hS) ⟨xtb 567 (by decide +kernel) (by decide +kernel), xtb 568 (by decide +kernel) (by decide +kernel), xtb 569 (by decide +kernel) (by decide +kernel), xtb 79 (by decide +kernel) (by decide +kernel), xtb 570 rfl rfl⟩ ⟨by decide +kernel, by decide +kernel, by decide +kernel⟩ ⟨Nat.le_of_ble_eq_true rfl, Nat.le_of_ble_eq_true rfl⟩ hl.1 (Nat.le_of_ble_eq_true rfl) jd_J0_charAt_5068e_1 hP hS (fun H1 locs1 hP hS => ?_)
  refine lv_if_eq (tgt := 16) hx hb jd_J0_charAt_5068e_4 (by decide) (fun z => absurd z (by decide)) (fun _ => ?_)
  refine lv_aload_n hx hb jd_J0_charAt_5068e_7 rfl (lv_at hl 0 rfl) ?_
  refine vk_getf hx hb (ref := "java/lang/String") hE.2.2.1 hS hown (hT _ (xtb 1261 (by decide +kernel) (by decide +kernel))) (fun _ h => h) jd_J0_charAt_5068e_8 ?_
  refine lv_iload_n hx hb jd_J0_charAt_5068e_11 rfl (lv_at hl 1 rfl) ?_
  refine jcS (As := [.ref (adV i), .int (nI j)]) (rest := []) (rv := some (.int (nI ((xStrL.getD i []).getD j 0)))) (index := 495) S hG (jm_lch hi hN hj h31) ⟨xtb 571 (by decide +kernel) (by decide +kernel), xtb 572 (by decide +kernel) (by decide +kernel), xtb 80 (by decide +kernel) (by decide +kernel), xtb 573 rfl rfl⟩ ⟨by decide +kernel, by decide +kernel, (show (parseMethodDescriptor yJ1_charAt_3b067.desc).map (fun d => d.parameters.length) = some 2 by decide +kernel)⟩ ⟨Nat.le_of_ble_eq_true rfl, Nat.le_of_ble_eq_true rfl⟩ hl.1 (Nat.le_of_ble_eq_true rfl) jd_J0_charAt_5068e_12 hP hS (fun H1 locs1 hP hS => ?_)
  exact W.zret hx hb hr (jch_n _ (of_decide_eq_true hch.2)) (fun t ht hW => ⟨rfl, by rw [ht]; exact hP, hS.F ht⟩) hS.2.2 jd_J0_charAt_5068e_15 hlocks
end
