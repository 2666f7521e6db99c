/-! what holds at the start; the first world, cell by cell -/
set_option maxRecDepth 100000 in
/-- the classes at the start -/
theorem kK {s : State} {b : Nat} (hT : ∀ w ∈ xTB, w.before #[Value.ref b] s = true) : ∃ (D : va_G) (cI cJ : ClassId), va_K D vwCl (kTy cI cJ) s := by
  have h1 : ∀ q ∈ vwCl, ∃ (cC : ClassId) (iS : Nat → Nat), u_Kn s q.1 q.2.1 q.2.2 cC iS := List.forall_mem_cons.mpr ⟨u_known (C := RX0) (T := TX0) (N := 5) (n := 5) hT kws_0 (hT _ (xtb 73 (by decide +kernel) (by decide +kernel))), List.forall_mem_cons.mpr ⟨u_known (C := RX1) (T := TX1) (N := 16) (n := 16) hT kws_1 (hT _ (xtb 100 (by decide +kernel) (by decide +kernel))), List.forall_mem_cons.mpr ⟨u_known (C := RX2) (T := TX2) (N := 4) (n := 4) hT kws_2 (hT _ (xtb 52 (by decide +kernel) (by decide +kernel))), List.forall_mem_cons.mpr ⟨u_known (C := RX3) (T := TX3) (N := 3) (n := 3) hT kws_3 (hT _ (xtb 220 (by decide +kernel) (by decide +kernel))), List.forall_mem_cons.mpr ⟨u_known (C := RX4) (T := TX4) (N := 11) (n := 11) hT kws_4 (hT _ (xtb 94 (by decide +kernel) (by decide +kernel))), List.forall_mem_cons.mpr ⟨u_known (C := RX5) (T := TX5) (N := 3) (n := 3) hT kws_5 (hT _ (xtb 36 (by decide +kernel) (by decide +kernel))), List.forall_mem_cons.mpr ⟨u_known (C := RX6) (T := TX6) (N := 8) (n := 8) hT kws_6 (hT _ (xtb 189 (by decide +kernel) (by decide +kernel))), List.forall_mem_cons.mpr ⟨u_known (C := RX7) (T := TX7) (N := 9) (n := 9) hT kws_7 (hT _ (xtb 28 (by decide +kernel) (by decide +kernel))), fun _ h => absurd h List.not_mem_nil⟩⟩⟩⟩⟩⟩⟩⟩
  have h0 : ∀ k : Nat, ∃ r : ClassId × (Nat → Nat), ∀ q : vw_C, vwCl[k]? = some q → u_Kn s q.1 q.2.1 q.2.2 r.1 r.2 := by
    intro k
    cases h : vwCl[k]? with
    | none => exact ⟨(0, fun _ => 0), fun q hq => by cases hq⟩
    | some q =>
      obtain ⟨cC, iS, hk⟩ := h1 q (List.mem_of_getElem? h)
      exact ⟨(cC, iS), fun q2 hq => by cases hq; exact hk⟩
  obtain ⟨f, hf⟩ := Classical.axiomOfChoice h0
  obtain ⟨cI, kI1, comp1, f1, k1, e1⟩ := Cond.arrayClass_spec (hT (.arrayClass .int) (xtb 71 (by decide +kernel) (by decide +kernel)))
  obtain ⟨cJ, kJ1, comp2, f2, k2, e2⟩ := Cond.arrayClass_spec (hT (.arrayClass .long) (xtb 70 (by decide +kernel) (by decide +kernel)))
  refine ⟨(fun k => (f k).1, fun k => (f k).2), cI, cJ, fun c q hq => hf c q hq, fun k q hq => ?_⟩
  match k, hq with
  | 0, hq => cases hq; exact ⟨fun n z => ⟨fun k h => (by cases h), kI1, k1, comp1, e1⟩, f1⟩
  | 1, hq => cases hq; exact ⟨fun n z => ⟨fun k h => (by cases h), kJ1, k2, comp2, e2⟩, f2⟩
  | k + 2, hq => simp [kTy] at hq
def xw0 : xW := (fun _ _ => 0, fun _ _ => 0)
theorem w0_I : lI xw0 ((0, 0, 0), [], none, []) := by
  refine ⟨⟨⟨jok_0, ⟨Nat.zero_le _, fun s h => by cases h⟩, fun s h => by cases h⟩, ⟨rfl, rfl, rfl⟩, ⟨rfl, fun i s h => by cases h⟩, rfl, ⟨rfl, ⟨Nat.zero_le _, fun x h => by cases h⟩, fun i x h => by cases h⟩, Or.inl rfl, Or.inl rfl, Or.inl rfl, Or.inl rfl⟩, fun v hv => ?_, rfl, rfl⟩
  show (0 : Int32) = mk (gr 0 v)
  rw [mk_0]
  exact mk_ext fun z _ => (gr_zero v z).symm
section
variable {cI cJ : ClassId} {ad : Nat → Nat}
theorem xl_0 : xcell cI cJ ad xw0 0 = .inr (7, [.ref (ad 1), .ref (ad 2), .int 0, .ref (ad 3), .ref (ad 7), .ref (ad 11), .ref (ad 25), .ref (ad 39), .ref (ad 44)]) := (xcell_O (a := 0) rfl).trans (by simp [List.mapIdx_cons, xval, xcv, xw0])
theorem xl_1 : xcell cI cJ ad xw0 1 = .inr (5, [.long 0, .int 0, .int 0]) := (xcell_O (a := 1) rfl).trans (by simp [List.mapIdx_cons, xval, xcv, xw0])
theorem xl_2 : xcell cI cJ ad xw0 2 = .inr (5, [.long 0, .int 0, .int 0]) := (xcell_O (a := 2) rfl).trans (by simp [List.mapIdx_cons, xval, xcv, xw0])
theorem xl_3 : xcell cI cJ ad xw0 3 = .inr (2, [.ref (ad 4), .ref (ad 5), .ref (ad 6), .int 0]) := (xcell_O (a := 3) rfl).trans (by simp [List.mapIdx_cons, xval, xcv, xw0])
theorem xl_4 : xcell cI cJ ad xw0 4 = .inl (cJ, 5, .inr (.inl (fun _ => 0))) := (xcell_J (a := 4) rfl).trans rfl
theorem xl_5 : xcell cI cJ ad xw0 5 = .inl (cI, 5, .inl (fun _ => 0)) := (xcell_I (a := 5) rfl).trans rfl
theorem xl_6 : xcell cI cJ ad xw0 6 = .inl (cI, 5, .inl (fun _ => 0)) := (xcell_I (a := 6) rfl).trans rfl
theorem xl_7 : xcell cI cJ ad xw0 7 = .inr (0, [.ref (ad 8), .int 0, .ref (ad 9), .ref (ad 10), .int 0]) := (xcell_O (a := 7) rfl).trans (by simp [List.mapIdx_cons, xval, xcv, xw0])
theorem xl_8 : xcell cI cJ ad xw0 8 = .inl (cI, 80, .inl (fun _ => 0)) := (xcell_I (a := 8) rfl).trans rfl
theorem xl_9 : xcell cI cJ ad xw0 9 = .inl (cI, 10, .inl (fun _ => 0)) := (xcell_I (a := 9) rfl).trans rfl
theorem xl_10 : xcell cI cJ ad xw0 10 = .inl (cI, 10, .inl (fun _ => 0)) := (xcell_I (a := 10) rfl).trans rfl
theorem xl_11 : xcell cI cJ ad xw0 11 = .inr (4, [.ref (ad 12), .ref (ad 13), .ref (ad 14), .ref (ad 15), .ref (ad 16), .ref (ad 17), .ref (ad 18), .int 0, .int 0, .long 0, .int 0]) := (xcell_O (a := 11) rfl).trans (by simp [List.mapIdx_cons, xval, xcv, xw0])
theorem xl_12 : xcell cI cJ ad xw0 12 = .inl (cI, 10, .inl (fun _ => 0)) := (xcell_I (a := 12) rfl).trans rfl
theorem xl_13 : xcell cI cJ ad xw0 13 = .inl (cI, 9, .inl (fun _ => 0)) := (xcell_I (a := 13) rfl).trans rfl
theorem xl_14 : xcell cI cJ ad xw0 14 = .inl (cI, 9, .inl (fun _ => 0)) := (xcell_I (a := 14) rfl).trans rfl
theorem xl_15 : xcell cI cJ ad xw0 15 = .inl (cI, 9, .inl (fun _ => 0)) := (xcell_I (a := 15) rfl).trans rfl
theorem xl_16 : xcell cI cJ ad xw0 16 = .inl (cI, 9, .inl (fun _ => 0)) := (xcell_I (a := 16) rfl).trans rfl
theorem xl_17 : xcell cI cJ ad xw0 17 = .inl (cI, 100, .inl (fun _ => 0)) := (xcell_I (a := 17) rfl).trans rfl
theorem xl_18 : xcell cI cJ ad xw0 18 = .inr (1, [.ref (ad 19), .ref (ad 20), .int 0, .int 0, .int 0, .int 0, .ref (ad 21), .ref (ad 22), .int 0, .int 0, .int 0, .int 0, .int 0, .ref (ad 23), .int 0, .ref (ad 24)]) := (xcell_O (a := 18) rfl).trans (by simp [List.mapIdx_cons, xval, xcv, xw0])
theorem xl_19 : xcell cI cJ ad xw0 19 = .inl (cI, 10, .inl (fun _ => 0)) := (xcell_I (a := 19) rfl).trans rfl
theorem xl_20 : xcell cI cJ ad xw0 20 = .inl (cI, 10, .inl (fun _ => 0)) := (xcell_I (a := 20) rfl).trans rfl
theorem xl_21 : xcell cI cJ ad xw0 21 = .inl (cI, 16, .inl (fun _ => 0)) := (xcell_I (a := 21) rfl).trans rfl
theorem xl_22 : xcell cI cJ ad xw0 22 = .inl (cI, 160, .inl (fun _ => 0)) := (xcell_I (a := 22) rfl).trans rfl
theorem xl_23 : xcell cI cJ ad xw0 23 = .inl (cI, 10, .inl (fun _ => 0)) := (xcell_I (a := 23) rfl).trans rfl
theorem xl_24 : xcell cI cJ ad xw0 24 = .inl (cI, 10, .inl (fun _ => 0)) := (xcell_I (a := 24) rfl).trans rfl
theorem xl_25 : xcell cI cJ ad xw0 25 = .inr (4, [.ref (ad 26), .ref (ad 27), .ref (ad 28), .ref (ad 29), .ref (ad 30), .ref (ad 31), .ref (ad 32), .int 0, .int 0, .long 0, .int 0]) := (xcell_O (a := 25) rfl).trans (by simp [List.mapIdx_cons, xval, xcv, xw0])
theorem xl_26 : xcell cI cJ ad xw0 26 = .inl (cI, 10, .inl (fun _ => 0)) := (xcell_I (a := 26) rfl).trans rfl
theorem xl_27 : xcell cI cJ ad xw0 27 = .inl (cI, 9, .inl (fun _ => 0)) := (xcell_I (a := 27) rfl).trans rfl
theorem xl_28 : xcell cI cJ ad xw0 28 = .inl (cI, 9, .inl (fun _ => 0)) := (xcell_I (a := 28) rfl).trans rfl
theorem xl_29 : xcell cI cJ ad xw0 29 = .inl (cI, 9, .inl (fun _ => 0)) := (xcell_I (a := 29) rfl).trans rfl
theorem xl_30 : xcell cI cJ ad xw0 30 = .inl (cI, 9, .inl (fun _ => 0)) := (xcell_I (a := 30) rfl).trans rfl
theorem xl_31 : xcell cI cJ ad xw0 31 = .inl (cI, 100, .inl (fun _ => 0)) := (xcell_I (a := 31) rfl).trans rfl
theorem xl_32 : xcell cI cJ ad xw0 32 = .inr (1, [.ref (ad 33), .ref (ad 34), .int 0, .int 0, .int 0, .int 0, .ref (ad 35), .ref (ad 36), .int 0, .int 0, .int 0, .int 0, .int 0, .ref (ad 37), .int 0, .ref (ad 38)]) := (xcell_O (a := 32) rfl).trans (by simp [List.mapIdx_cons, xval, xcv, xw0])
theorem xl_33 : xcell cI cJ ad xw0 33 = .inl (cI, 10, .inl (fun _ => 0)) := (xcell_I (a := 33) rfl).trans rfl
theorem xl_34 : xcell cI cJ ad xw0 34 = .inl (cI, 10, .inl (fun _ => 0)) := (xcell_I (a := 34) rfl).trans rfl
theorem xl_35 : xcell cI cJ ad xw0 35 = .inl (cI, 16, .inl (fun _ => 0)) := (xcell_I (a := 35) rfl).trans rfl
theorem xl_36 : xcell cI cJ ad xw0 36 = .inl (cI, 160, .inl (fun _ => 0)) := (xcell_I (a := 36) rfl).trans rfl
theorem xl_37 : xcell cI cJ ad xw0 37 = .inl (cI, 10, .inl (fun _ => 0)) := (xcell_I (a := 37) rfl).trans rfl
theorem xl_38 : xcell cI cJ ad xw0 38 = .inl (cI, 10, .inl (fun _ => 0)) := (xcell_I (a := 38) rfl).trans rfl
theorem xl_39 : xcell cI cJ ad xw0 39 = .inr (6, [.ref (ad 40), .ref (ad 41), .ref (ad 42), .ref (ad 43), .int 0, .int 0, .long 0, .int 0]) := (xcell_O (a := 39) rfl).trans (by simp [List.mapIdx_cons, xval, xcv, xw0])
theorem xl_40 : xcell cI cJ ad xw0 40 = .inl (cI, 100, .inl (fun _ => 0)) := (xcell_I (a := 40) rfl).trans rfl
theorem xl_41 : xcell cI cJ ad xw0 41 = .inl (cI, 100, .inl (fun _ => 0)) := (xcell_I (a := 41) rfl).trans rfl
theorem xl_42 : xcell cI cJ ad xw0 42 = .inl (cI, 49, .inl (fun _ => 0)) := (xcell_I (a := 42) rfl).trans rfl
theorem xl_43 : xcell cI cJ ad xw0 43 = .inl (cI, 48, .inl (fun _ => 0)) := (xcell_I (a := 43) rfl).trans rfl
theorem xl_44 : xcell cI cJ ad xw0 44 = .inr (3, [.long 0, .long 0, .int 0]) := (xcell_O (a := 44) rfl).trans (by simp [List.mapIdx_cons, xval, xcv, xw0])
theorem xl_45 : xcell cI cJ ad xw0 45 = .inl (cI, 10, .inl (fun _ => 0)) := (xcell_I (a := 45) rfl).trans rfl
theorem xl_46 : xcell cI cJ ad xw0 46 = .inl (cI, 2, .inl (fun _ => 0)) := (xcell_I (a := 46) rfl).trans rfl
theorem xl_range : List.range 47 = [0, 1, 2, 3, 4, 5, 6, 7, 8, 9, 10, 11, 12, 13, 14, 15, 16, 17, 18, 19, 20, 21, 22, 23, 24, 25, 26, 27, 28, 29, 30, 31, 32, 33, 34, 35, 36, 37, 38, 39, 40, 41, 42, 43, 44, 45, 46] := by decide
theorem xws_lit : xws 47 cI cJ ad xw0 = [(ad 0, .inr (7, [.ref (ad 1), .ref (ad 2), .int 0, .ref (ad 3), .ref (ad 7), .ref (ad 11), .ref (ad 25), .ref (ad 39), .ref (ad 44)])), (ad 1, .inr (5, [.long 0, .int 0, .int 0])), (ad 2, .inr (5, [.long 0, .int 0, .int 0])), (ad 3, .inr (2, [.ref (ad 4), .ref (ad 5), .ref (ad 6), .int 0])), (ad 4, .inl (cJ, 5, .inr (.inl (fun _ => 0)))), (ad 5, .inl (cI, 5, .inl (fun _ => 0))), (ad 6, .inl (cI, 5, .inl (fun _ => 0))), (ad 7, .inr (0, [.ref (ad 8), .int 0, .ref (ad 9), .ref (ad 10), .int 0])), (ad 8, .inl (cI, 80, .inl (fun _ => 0))), (ad 9, .inl (cI, 10, .inl (fun _ => 0))), (ad 10, .inl (cI, 10, .inl (fun _ => 0))), (ad 11, .inr (4, [.ref (ad 12), .ref (ad 13), .ref (ad 14), .ref (ad 15), .ref (ad 16), .ref (ad 17), .ref (ad 18), .int 0, .int 0, .long 0, .int 0])), (ad 12, .inl (cI, 10, .inl (fun _ => 0))), (ad 13, .inl (cI, 9, .inl (fun _ => 0))), (ad 14, .inl (cI, 9, .inl (fun _ => 0))), (ad 15, .inl (cI, 9, .inl (fun _ => 0))), (ad 16, .inl (cI, 9, .inl (fun _ => 0))), (ad 17, .inl (cI, 100, .inl (fun _ => 0))), (ad 18, .inr (1, [.ref (ad 19), .ref (ad 20), .int 0, .int 0, .int 0, .int 0, .ref (ad 21), .ref (ad 22), .int 0, .int 0, .int 0, .int 0, .int 0, .ref (ad 23), .int 0, .ref (ad 24)])), (ad 19, .inl (cI, 10, .inl (fun _ => 0))), (ad 20, .inl (cI, 10, .inl (fun _ => 0))), (ad 21, .inl (cI, 16, .inl (fun _ => 0))), (ad 22, .inl (cI, 160, .inl (fun _ => 0))), (ad 23, .inl (cI, 10, .inl (fun _ => 0))), (ad 24, .inl (cI, 10, .inl (fun _ => 0))), (ad 25, .inr (4, [.ref (ad 26), .ref (ad 27), .ref (ad 28), .ref (ad 29), .ref (ad 30), .ref (ad 31), .ref (ad 32), .int 0, .int 0, .long 0, .int 0])), (ad 26, .inl (cI, 10, .inl (fun _ => 0))), (ad 27, .inl (cI, 9, .inl (fun _ => 0))), (ad 28, .inl (cI, 9, .inl (fun _ => 0))), (ad 29, .inl (cI, 9, .inl (fun _ => 0))), (ad 30, .inl (cI, 9, .inl (fun _ => 0))), (ad 31, .inl (cI, 100, .inl (fun _ => 0))), (ad 32, .inr (1, [.ref (ad 33), .ref (ad 34), .int 0, .int 0, .int 0, .int 0, .ref (ad 35), .ref (ad 36), .int 0, .int 0, .int 0, .int 0, .int 0, .ref (ad 37), .int 0, .ref (ad 38)])), (ad 33, .inl (cI, 10, .inl (fun _ => 0))), (ad 34, .inl (cI, 10, .inl (fun _ => 0))), (ad 35, .inl (cI, 16, .inl (fun _ => 0))), (ad 36, .inl (cI, 160, .inl (fun _ => 0))), (ad 37, .inl (cI, 10, .inl (fun _ => 0))), (ad 38, .inl (cI, 10, .inl (fun _ => 0))), (ad 39, .inr (6, [.ref (ad 40), .ref (ad 41), .ref (ad 42), .ref (ad 43), .int 0, .int 0, .long 0, .int 0])), (ad 40, .inl (cI, 100, .inl (fun _ => 0))), (ad 41, .inl (cI, 100, .inl (fun _ => 0))), (ad 42, .inl (cI, 49, .inl (fun _ => 0))), (ad 43, .inl (cI, 48, .inl (fun _ => 0))), (ad 44, .inr (3, [.long 0, .long 0, .int 0])), (ad 45, .inl (cI, 10, .inl (fun _ => 0))), (ad 46, .inl (cI, 2, .inl (fun _ => 0)))] := by
  unfold xws
  rw [xl_range]
  simp only [List.map_cons, List.map_nil, xl_0, xl_1, xl_2, xl_3, xl_4, xl_5, xl_6, xl_7, xl_8, xl_9, xl_10, xl_11, xl_12, xl_13, xl_14, xl_15, xl_16, xl_17, xl_18, xl_19, xl_20, xl_21, xl_22, xl_23, xl_24, xl_25, xl_26, xl_27, xl_28, xl_29, xl_30, xl_31, xl_32, xl_33, xl_34, xl_35, xl_36, xl_37, xl_38, xl_39, xl_40, xl_41, xl_42, xl_43, xl_44, xl_45, xl_46]
end
