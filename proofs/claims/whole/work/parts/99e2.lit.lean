/-! the first world, cell by cell -/
section
variable {cI cJ : ClassId} {ad : Nat → Nat}
theorem xl_0 : xcell cI cJ ad xw0 0 = .inr (7, [.ref (ad 1), .ref (ad 2), .int 0, .ref (ad 3), .ref (ad 7), .ref (ad 11), .ref (ad 25), .ref (ad 39), .ref (ad 44)]) := (xcell_O (a := 0) rfl).trans (by simp [List.mapIdx_cons, xval, xcv, xw0])
theorem xl_1 : xcell cI cJ ad xw0 1 = .inr (5, [.long 0, .int 0, .int 0]) := (xcell_O (a := 1) rfl).trans (by simp [List.mapIdx_cons, xval, xcv, xw0])
theorem xl_2 : xcell cI cJ ad xw0 2 = .inr (5, [.long 0, .int 0, .int 0]) := (xcell_O (a := 2) rfl).trans (by simp [List.mapIdx_cons, xval, xcv, xw0])
theorem xl_3 : xcell cI cJ ad xw0 3 = .inr (2, [.ref (ad 4), .ref (ad 5), .ref (ad 6), .int 0]) := (xcell_O (a := 3) rfl).trans (by simp [List.mapIdx_cons, xval, xcv, xw0])
theorem xl_4 : xcell cI cJ ad xw0 4 = .inl (cJ, 5, .inr (.inl (fun _ => 0))) := (xcell_J (a := 4) rfl).trans rfl
theorem xl_5 : xcell cI cJ ad xw0 5 = .inl (cI, 5, .inl (fun _ => 0)) := (xcell_I (a := 5) rfl).trans rfl
theorem xl_6 : xcell cI cJ ad xw0 6 = .inl (cI, 5, .inl (fun _ => 0)) := (xcell_I (a := 6) rfl).trans rfl
theorem xl_7 : xcell cI cJ ad xw0 7 = .inr (0, [.ref (ad 8), .int 0, .ref (ad 9), .ref (ad 10), .int 0]) := (xcell_O (a := 7) rfl).trans (by simp [List.mapIdx_cons, xval, xcv, xw0])
theorem xl_8 : xcell cI cJ ad xw0 8 = .inl (cI, 80, .inl (fun _ => 0)) := (xcell_I (a := 8) rfl).trans rfl
theorem xl_9 : xcell cI cJ ad xw0 9 = .inl (cI, 10, .inl (fun _ => 0)) := (xcell_I (a := 9) rfl).trans rfl
theorem xl_10 : xcell cI cJ ad xw0 10 = .inl (cI, 10, .inl (fun _ => 0)) := (xcell_I (a := 10) rfl).trans rfl
theorem xl_11 : xcell cI cJ ad xw0 11 = .inr (4, [.ref (ad 12), .ref (ad 13), .ref (ad 14), .ref (ad 15), .ref (ad 16), .ref (ad 17), .ref (ad 18), .int 0, .int 0, .long 0, .int 0]) := (xcell_O (a := 11) rfl).trans (by simp [List.mapIdx_cons, xval, xcv, xw0])
theorem xl_12 : xcell cI cJ ad xw0 12 = .inl (cI, 10, .inl (fun _ => 0)) := (xcell_I (a := 12) rfl).trans rfl
theorem xl_13 : xcell cI cJ ad xw0 13 = .inl (cI, 9, .inl (fun _ => 0)) := (xcell_I (a := 13) rfl).trans rfl
theorem xl_14 : xcell cI cJ ad xw0 14 = .inl (cI, 9, .inl (fun _ => 0)) := (xcell_I (a := 14) rfl).trans rfl
theorem xl_15 : xcell cI cJ ad xw0 15 = .inl (cI, 9, .inl (fun _ => 0)) := (xcell_I (a := 15) rfl).trans rfl
theorem xl_16 : xcell cI cJ ad xw0 16 = .inl (cI, 9, .inl (fun _ => 0)) := (xcell_I (a := 16) rfl).trans rfl
theorem xl_17 : xcell cI cJ ad xw0 17 = .inl (cI, 100, .inl (fun _ => 0)) := (xcell_I (a := 17) rfl).trans rfl
theorem xl_18 : xcell cI cJ ad xw0 18 = .inr (1, [.ref (ad 19), .ref (ad 20), .int 0, .int 0, .int 0, .int 0, .ref (ad 21), .ref (ad 22), .int 0, .int 0, .int 0, .int 0, .int 0, .ref (ad 23), .int 0, .ref (ad 24)]) := (xcell_O (a := 18) rfl).trans (by simp [List.mapIdx_cons, xval, xcv, xw0])
theorem xl_19 : xcell cI cJ ad xw0 19 = .inl (cI, 10, .inl (fun _ => 0)) := (xcell_I (a := 19) rfl).trans rfl
theorem xl_20 : xcell cI cJ ad xw0 20 = .inl (cI, 10, .inl (fun _ => 0)) := (xcell_I (a := 20) rfl).trans rfl
theorem xl_21 : xcell cI cJ ad xw0 21 = .inl (cI, 16, .inl (fun _ => 0)) := (xcell_I (a := 21) rfl).trans rfl
theorem xl_22 : xcell cI cJ ad xw0 22 = .inl (cI, 160, .inl (fun _ => 0)) := (xcell_I (a := 22) rfl).trans rfl
theorem xl_23 : xcell cI cJ ad xw0 23 = .inl (cI, 10, .inl (fun _ => 0)) := (xcell_I (a := 23) rfl).trans rfl
theorem xl_24 : xcell cI cJ ad xw0 24 = .inl (cI, 10, .inl (fun _ => 0)) := (xcell_I (a := 24) rfl).trans rfl
theorem xl_25 : xcell cI cJ ad xw0 25 = .inr (4, [.ref (ad 26), .ref (ad 27), .ref (ad 28), .ref (ad 29), .ref (ad 30), .ref (ad 31), .ref (ad 32), .int 0, .int 0, .long 0, .int 0]) := (xcell_O (a := 25) rfl).trans (by simp [List.mapIdx_cons, xval, xcv, xw0])
theorem xl_26 : xcell cI cJ ad xw0 26 = .inl (cI, 10, .inl (fun _ => 0)) := (xcell_I (a := 26) rfl).trans rfl
theorem xl_27 : xcell cI cJ ad xw0 27 = .inl (cI, 9, .inl (fun _ => 0)) := (xcell_I (a := 27) rfl).trans rfl
theorem xl_28 : xcell cI cJ ad xw0 28 = .inl (cI, 9, .inl (fun _ => 0)) := (xcell_I (a := 28) rfl).trans rfl
theorem xl_29 : xcell cI cJ ad xw0 29 = .inl (cI, 9, .inl (fun _ => 0)) := (xcell_I (a := 29) rfl).trans rfl
theorem xl_30 : xcell cI cJ ad xw0 30 = .inl (cI, 9, .inl (fun _ => 0)) := (xcell_I (a := 30) rfl).trans rfl
theorem xl_31 : xcell cI cJ ad xw0 31 = .inl (cI, 100, .inl (fun _ => 0)) := (xcell_I (a := 31) rfl).trans rfl
theorem xl_32 : xcell cI cJ ad xw0 32 = .inr (1, [.ref (ad 33), .ref (ad 34), .int 0, .int 0, .int 0, .int 0, .ref (ad 35), .ref (ad 36), .int 0, .int 0, .int 0, .int 0, .int 0, .ref (ad 37), .int 0, .ref (ad 38)]) := (xcell_O (a := 32) rfl).trans (by simp [List.mapIdx_cons, xval, xcv, xw0])
theorem xl_33 : xcell cI cJ ad xw0 33 = .inl (cI, 10, .inl (fun _ => 0)) := (xcell_I (a := 33) rfl).trans rfl
theorem xl_34 : xcell cI cJ ad xw0 34 = .inl (cI, 10, .inl (fun _ => 0)) := (xcell_I (a := 34) rfl).trans rfl
theorem xl_35 : xcell cI cJ ad xw0 35 = .inl (cI, 16, .inl (fun _ => 0)) := (xcell_I (a := 35) rfl).trans rfl
theorem xl_36 : xcell cI cJ ad xw0 36 = .inl (cI, 160, .inl (fun _ => 0)) := (xcell_I (a := 36) rfl).trans rfl
theorem xl_37 : xcell cI cJ ad xw0 37 = .inl (cI, 10, .inl (fun _ => 0)) := (xcell_I (a := 37) rfl).trans rfl
theorem xl_38 : xcell cI cJ ad xw0 38 = .inl (cI, 10, .inl (fun _ => 0)) := (xcell_I (a := 38) rfl).trans rfl
theorem xl_39 : xcell cI cJ ad xw0 39 = .inr (6, [.ref (ad 40), .ref (ad 41), .ref (ad 42), .ref (ad 43), .int 0, .int 0, .long 0, .int 0]) := (xcell_O (a := 39) rfl).trans (by simp [List.mapIdx_cons, xval, xcv, xw0])
theorem xl_40 : xcell cI cJ ad xw0 40 = .inl (cI, 100, .inl (fun _ => 0)) := (xcell_I (a := 40) rfl).trans rfl
theorem xl_41 : xcell cI cJ ad xw0 41 = .inl (cI, 100, .inl (fun _ => 0)) := (xcell_I (a := 41) rfl).trans rfl
theorem xl_42 : xcell cI cJ ad xw0 42 = .inl (cI, 49, .inl (fun _ => 0)) := (xcell_I (a := 42) rfl).trans rfl
theorem xl_43 : xcell cI cJ ad xw0 43 = .inl (cI, 48, .inl (fun _ => 0)) := (xcell_I (a := 43) rfl).trans rfl
theorem xl_44 : xcell cI cJ ad xw0 44 = .inr (3, [.long 0, .long 0, .int 0]) := (xcell_O (a := 44) rfl).trans (by simp [List.mapIdx_cons, xval, xcv, xw0])
theorem xl_45 : xcell cI cJ ad xw0 45 = .inr (8, [.ref (ad 46), .ref (ad 47), .int 0, .ref (ad 48), .int 0, .ref (ad 49), .int 0, .int 0, .int 0, .int 0, .int 0, .ref (ad 50), .ref (ad 51), .int 0, .ref (ad 52), .ref (ad 53), .ref (ad 54), .ref (ad 55), .ref (ad 56), .int 0, .int 0, .int 0, .ref (ad 57), .ref (ad 58), .int 0, .ref (ad 59), .ref (ad 60), .int 0, .ref (ad 61), .int 0, .ref (ad 62), .ref (ad 63), .ref (ad 64), .ref (ad 65), .int 0]) := (xcell_O (a := 45) rfl).trans (by simp [List.mapIdx_cons, xval, xcv, xw0])
theorem xl_46 : xcell cI cJ ad xw0 46 = .inl (cI, 12, .inl (fun _ => 0)) := (xcell_I (a := 46) rfl).trans rfl
theorem xl_47 : xcell cI cJ ad xw0 47 = .inl (cI, 60, .inl (fun _ => 0)) := (xcell_I (a := 47) rfl).trans rfl
theorem xl_48 : xcell cI cJ ad xw0 48 = .inl (cI, 12, .inl (fun _ => 0)) := (xcell_I (a := 48) rfl).trans rfl
theorem xl_49 : xcell cI cJ ad xw0 49 = .inl (cI, 80, .inl (fun _ => 0)) := (xcell_I (a := 49) rfl).trans rfl
theorem xl_50 : xcell cI cJ ad xw0 50 = .inl (cI, 10, .inl (fun _ => 0)) := (xcell_I (a := 50) rfl).trans rfl
theorem xl_51 : xcell cI cJ ad xw0 51 = .inl (cI, 45, .inl (fun _ => 0)) := (xcell_I (a := 51) rfl).trans rfl
theorem xl_52 : xcell cI cJ ad xw0 52 = .inl (cI, 45, .inl (fun _ => 0)) := (xcell_I (a := 52) rfl).trans rfl
theorem xl_53 : xcell cI cJ ad xw0 53 = .inl (cI, 45, .inl (fun _ => 0)) := (xcell_I (a := 53) rfl).trans rfl
theorem xl_54 : xcell cI cJ ad xw0 54 = .inl (cI, 45, .inl (fun _ => 0)) := (xcell_I (a := 54) rfl).trans rfl
theorem xl_55 : xcell cI cJ ad xw0 55 = .inl (cI, 10, .inl (fun _ => 0)) := (xcell_I (a := 55) rfl).trans rfl
theorem xl_56 : xcell cI cJ ad xw0 56 = .inl (cI, 10, .inl (fun _ => 0)) := (xcell_I (a := 56) rfl).trans rfl
theorem xl_57 : xcell cI cJ ad xw0 57 = .inl (cI, 20, .inl (fun _ => 0)) := (xcell_I (a := 57) rfl).trans rfl
theorem xl_58 : xcell cI cJ ad xw0 58 = .inl (cI, 200, .inl (fun _ => 0)) := (xcell_I (a := 58) rfl).trans rfl
theorem xl_59 : xcell cI cJ ad xw0 59 = .inl (cI, 45, .inl (fun _ => 0)) := (xcell_I (a := 59) rfl).trans rfl
theorem xl_60 : xcell cI cJ ad xw0 60 = .inl (cI, 45, .inl (fun _ => 0)) := (xcell_I (a := 60) rfl).trans rfl
theorem xl_61 : xcell cI cJ ad xw0 61 = .inl (cI, 12, .inl (fun _ => 0)) := (xcell_I (a := 61) rfl).trans rfl
theorem xl_62 : xcell cI cJ ad xw0 62 = .inl (cI, 10, .inl (fun _ => 0)) := (xcell_I (a := 62) rfl).trans rfl
theorem xl_63 : xcell cI cJ ad xw0 63 = .inl (cI, 10, .inl (fun _ => 0)) := (xcell_I (a := 63) rfl).trans rfl
theorem xl_64 : xcell cI cJ ad xw0 64 = .inl (cI, 100, .inl (fun _ => 0)) := (xcell_I (a := 64) rfl).trans rfl
theorem xl_65 : xcell cI cJ ad xw0 65 = .inl (cI, 100, .inl (fun _ => 0)) := (xcell_I (a := 65) rfl).trans rfl
theorem xl_range : List.range 66 = [0, 1, 2, 3, 4, 5, 6, 7, 8, 9, 10, 11, 12, 13, 14, 15, 16, 17, 18, 19, 20, 21, 22, 23, 24, 25, 26, 27, 28, 29, 30, 31, 32, 33, 34, 35, 36, 37, 38, 39, 40, 41, 42, 43, 44, 45, 46, 47, 48, 49, 50, 51, 52, 53, 54, 55, 56, 57, 58, 59, 60, 61, 62, 63, 64, 65] := by decide
theorem xws_lit : xws cI cJ ad xw0 = [(ad 0, .inr (7, [.ref (ad 1), .ref (ad 2), .int 0, .ref (ad 3), .ref (ad 7), .ref (ad 11), .ref (ad 25), .ref (ad 39), .ref (ad 44)])), (ad 1, .inr (5, [.long 0, .int 0, .int 0])), (ad 2, .inr (5, [.long 0, .int 0, .int 0])), (ad 3, .inr (2, [.ref (ad 4), .ref (ad 5), .ref (ad 6), .int 0])), (ad 4, .inl (cJ, 5, .inr (.inl (fun _ => 0)))), (ad 5, .inl (cI, 5, .inl (fun _ => 0))), (ad 6, .inl (cI, 5, .inl (fun _ => 0))), (ad 7, .inr (0, [.ref (ad 8), .int 0, .ref (ad 9), .ref (ad 10), .int 0])), (ad 8, .inl (cI, 80, .inl (fun _ => 0))), (ad 9, .inl (cI, 10, .inl (fun _ => 0))), (ad 10, .inl (cI, 10, .inl (fun _ => 0))), (ad 11, .inr (4, [.ref (ad 12), .ref (ad 13), .ref (ad 14), .ref (ad 15), .ref (ad 16), .ref (ad 17), .ref (ad 18), .int 0, .int 0, .long 0, .int 0])), (ad 12, .inl (cI, 10, .inl (fun _ => 0))), (ad 13, .inl (cI, 9, .inl (fun _ => 0))), (ad 14, .inl (cI, 9, .inl (fun _ => 0))), (ad 15, .inl (cI, 9, .inl (fun _ => 0))), (ad 16, .inl (cI, 9, .inl (fun _ => 0))), (ad 17, .inl (cI, 100, .inl (fun _ => 0))), (ad 18, .inr (1, [.ref (ad 19), .ref (ad 20), .int 0, .int 0, .int 0, .int 0, .ref (ad 21), .ref (ad 22), .int 0, .int 0, .int 0, .int 0, .int 0, .ref (ad 23), .int 0, .ref (ad 24)])), (ad 19, .inl (cI, 10, .inl (fun _ => 0))), (ad 20, .inl (cI, 10, .inl (fun _ => 0))), (ad 21, .inl (cI, 16, .inl (fun _ => 0))), (ad 22, .inl (cI, 160, .inl (fun _ => 0))), (ad 23, .inl (cI, 10, .inl (fun _ => 0))), (ad 24, .inl (cI, 10, .inl (fun _ => 0))), (ad 25, .inr (4, [.ref (ad 26), .ref (ad 27), .ref (ad 28), .ref (ad 29), .ref (ad 30), .ref (ad 31), .ref (ad 32), .int 0, .int 0, .long 0, .int 0])), (ad 26, .inl (cI, 10, .inl (fun _ => 0))), (ad 27, .inl (cI, 9, .inl (fun _ => 0))), (ad 28, .inl (cI, 9, .inl (fun _ => 0))), (ad 29, .inl (cI, 9, .inl (fun _ => 0))), (ad 30, .inl (cI, 9, .inl (fun _ => 0))), (ad 31, .inl (cI, 100, .inl (fun _ => 0))), (ad 32, .inr (1, [.ref (ad 33), .ref (ad 34), .int 0, .int 0, .int 0, .int 0, .ref (ad 35), .ref (ad 36), .int 0, .int 0, .int 0, .int 0, .int 0, .ref (ad 37), .int 0, .ref (ad 38)])), (ad 33, .inl (cI, 10, .inl (fun _ => 0))), (ad 34, .inl (cI, 10, .inl (fun _ => 0))), (ad 35, .inl (cI, 16, .inl (fun _ => 0))), (ad 36, .inl (cI, 160, .inl (fun _ => 0))), (ad 37, .inl (cI, 10, .inl (fun _ => 0))), (ad 38, .inl (cI, 10, .inl (fun _ => 0))), (ad 39, .inr (6, [.ref (ad 40), .ref (ad 41), .ref (ad 42), .ref (ad 43), .int 0, .int 0, .long 0, .int 0])), (ad 40, .inl (cI, 100, .inl (fun _ => 0))), (ad 41, .inl (cI, 100, .inl (fun _ => 0))), (ad 42, .inl (cI, 49, .inl (fun _ => 0))), (ad 43, .inl (cI, 48, .inl (fun _ => 0))), (ad 44, .inr (3, [.long 0, .long 0, .int 0])), (ad 45, .inr (8, [.ref (ad 46), .ref (ad 47), .int 0, .ref (ad 48), .int 0, .ref (ad 49), .int 0, .int 0, .int 0, .int 0, .int 0, .ref (ad 50), .ref (ad 51), .int 0, .ref (ad 52), .ref (ad 53), .ref (ad 54), .ref (ad 55), .ref (ad 56), .int 0, .int 0, .int 0, .ref (ad 57), .ref (ad 58), .int 0, .ref (ad 59), .ref (ad 60), .int 0, .ref (ad 61), .int 0, .ref (ad 62), .ref (ad 63), .ref (ad 64), .ref (ad 65), .int 0])), (ad 46, .inl (cI, 12, .inl (fun _ => 0))), (ad 47, .inl (cI, 60, .inl (fun _ => 0))), (ad 48, .inl (cI, 12, .inl (fun _ => 0))), (ad 49, .inl (cI, 80, .inl (fun _ => 0))), (ad 50, .inl (cI, 10, .inl (fun _ => 0))), (ad 51, .inl (cI, 45, .inl (fun _ => 0))), (ad 52, .inl (cI, 45, .inl (fun _ => 0))), (ad 53, .inl (cI, 45, .inl (fun _ => 0))), (ad 54, .inl (cI, 45, .inl (fun _ => 0))), (ad 55, .inl (cI, 10, .inl (fun _ => 0))), (ad 56, .inl (cI, 10, .inl (fun _ => 0))), (ad 57, .inl (cI, 20, .inl (fun _ => 0))), (ad 58, .inl (cI, 200, .inl (fun _ => 0))), (ad 59, .inl (cI, 45, .inl (fun _ => 0))), (ad 60, .inl (cI, 45, .inl (fun _ => 0))), (ad 61, .inl (cI, 12, .inl (fun _ => 0))), (ad 62, .inl (cI, 10, .inl (fun _ => 0))), (ad 63, .inl (cI, 10, .inl (fun _ => 0))), (ad 64, .inl (cI, 100, .inl (fun _ => 0))), (ad 65, .inl (cI, 100, .inl (fun _ => 0)))] := by
  unfold xws
  rw [xl_range]
  simp only [List.map_cons, List.map_nil, xl_0, xl_1, xl_2, xl_3, xl_4, xl_5, xl_6, xl_7, xl_8, xl_9, xl_10, xl_11, xl_12, xl_13, xl_14, xl_15, xl_16, xl_17, xl_18, xl_19, xl_20, xl_21, xl_22, xl_23, xl_24, xl_25, xl_26, xl_27, xl_28, xl_29, xl_30, xl_31, xl_32, xl_33, xl_34, xl_35, xl_36, xl_37, xl_38, xl_39, xl_40, xl_41, xl_42, xl_43, xl_44, xl_45, xl_46, xl_47, xl_48, xl_49, xl_50, xl_51, xl_52, xl_53, xl_54, xl_55, xl_56, xl_57, xl_58, xl_59, xl_60, xl_61, xl_62, xl_63, xl_64, xl_65]
end
