/-! the start -/
theorem jl_0 : decode code 0 = .ok (.new 24, 3) := by decide +kernel
theorem jl_3 : decode code 3 = .ok (.dup, 1) := by decide +kernel
theorem jl_4 : decode code 4 = .ok (.invokespecial 89, 3) := by decide +kernel
theorem jl_7 : decode code 7 = .ok (.astore_n 1, 1) := by decide +kernel
theorem jl_8 : decode code 8 = .ok (.bipush 10, 2) := by decide +kernel
theorem jl_10 : decode code 10 = .ok (.newarray .int, 2) := by decide +kernel
theorem jl_12 : decode code 12 = .ok (.astore_n 2, 1) := by decide +kernel
theorem jl_13 : decode code 13 = .ok (.iconst 2, 1) := by decide +kernel
theorem jl_14 : decode code 14 = .ok (.newarray .int, 2) := by decide +kernel
theorem jl_16 : decode code 16 = .ok (.astore_n 3, 1) := by decide +kernel
theorem kfs_7 : ∀ j, j < 9 → defaultValue (tyX7 j) = vp_V [.null, .null, .int 0, .null, .null, .null, .null, .null, .null] j := by decide +kernel
set_option maxHeartbeats 4000000 in
set_option maxRecDepth 100000 in
theorem whole_start {p : Program} {e : Env} {s : State} {m : MethodId} {below : List Frame} {meth : Method} {c : Code} (l : Launch) (hflags : l.flags = flags0) {b L : Nat} {xs : Nat → Int32} (hL : L ≤ 260) (C0 : lw_At p s m meth c b L xs) : W p l e room_1 s m #[Value.ref b] below meth c s.heap [] 0 0 (lw_Z below #[Value.ref b] s) (entryFrame m ([Value.ref b] : List Value).toArray 12) := by
  obtain ⟨hx, hb, hr, hml, hown, hts, hX, hbl, hlocks, hgv⟩ := id C0
  have hT : ∀ w ∈ xTB, w.before #[Value.ref b] s = true := fun w hw => hts w (List.mem_filter.mp hw).1
  have S : CallFix p m c code 12 s #[Value.ref b] xTB R_law := ⟨hx, hb, hml, hown, hT⟩
  have hA : ∀ q : Nat, s.heap.size ≤ q → (fun q : Nat => s.heap.size ≤ q) q := fun _ h => h
  obtain ⟨D, cI, cJ, hK⟩ := kK hT
  have hN : xNW s := fun q hq => va_Nw.of rfl (hts _ hq)
  have hS : va_S (fun q : Nat => s.heap.size ≤ q) s.heap s.heap [] := va_S.rf
  have hP : va_P D vwCl [] s.heap := fun k q h => by simp at h
  have hD : va_D (fun q : Nat => s.heap.size ≤ q) [] := ⟨fun i j p q h => by simp at h, fun k q h => by simp at h⟩
  have hl := lv_entry ([.ref b]) (n := 12) (Nat.le_of_ble_eq_true rfl)
  rw [lg_entry_eq]
  generalize (lg_sl ([.ref b]) ++ List.replicate (12 - (lg_sl ([.ref b])).length) Slot.unset).toArray = ls at hl ⊢
  have hl : lv_has ls 12 [(0, .ref b)] := hl
  refine va_new (ci := 7) (fs := [.null, .null, .int 0, .null, .null, .null, .null, .null, .null]) (C := RX7) (T := TX7) (N := 9) hx hb hT kws_7 tyX7 tyX7_ok hown (hT (.classLink R_law 24 RX7) (xtb 27 (by decide +kernel) (by decide +kernel))) (hT (.instantiable RX7 9) (xtb 28 (by decide +kernel) (by decide +kernel))) (hT (.initialized RX7) (xtb 16 (by decide +kernel) (by decide +kernel))) hK hP hD hS hA rfl kfs_7 (Nat.le_of_ble_eq_true rfl) (Nat.le_of_ble_eq_true rfl) jl_0 (fun q1 H hP hD hS => ?_)
  have hP : va_P D vwCl [(q1, .inr (7, [.null, .null, .int 0, .null, .null, .null, .null, .null, .null]))] H := hP
  have hD : va_D (fun q : Nat => s.heap.size ≤ q) [(q1, .inr (7, [.null, .null, .int 0, .null, .null, .null, .null, .null, .null]))] := hD
  refine lv_dup hx hb jl_3 rfl ?_
  have hFc := va_free (wc := [(q1, .inr (7, [.null, .null, .int 0, .null, .null, .null, .null, .null, .null]))]) hD hS hA [0] rfl
  have hPc := hP.sub (ws' := [(q1, .inr (7, [.null, .null, .int 0, .null, .null, .null, .null, .null, .null]))]) [0] rfl
  have hDc := hD.sub (ws' := [(q1, .inr (7, [.null, .null, .int 0, .null, .null, .null, .null, .null, .null]))]) [0] (by decide) rfl
  refine va_callv (va_runI (n := 0) (own := R_law) (index := 89) (As := []) (rest := [.ref q1]) S (kinit_7 (D := D) (cI := cI) (cJ := cJ) (l := l) (h0 := q1) (sz := H.size)) ⟨callB_of 0 hT (jGood (xtb 31 rfl rfl)) rfl rfl rfl (hT _ (xtb 16 (by decide +kernel) (by decide +kernel))) (hT _ (xtb 29 (by decide +kernel) (by decide +kernel))) ⟨by decide +kernel, by decide +kernel, by decide +kernel⟩ ⟨Nat.le_of_ble_eq_true rfl, Nat.le_of_ble_eq_true rfl⟩, rfl, hT _ (xtb 30 (by decide +kernel) (by decide +kernel))⟩ ⟨kPre_blind, fun U hU hW => ⟨rfl, by rw [hU], by rw [hU]; exact hPc, va_K.moved hW.alike hK, hDc.weaken (fun _ _ _ _ => trivial), fun z hz => va_Nw.warmM hW (hN z hz)⟩⟩ rfl rfl hl.1 rfl (lv_room (Nat.le_of_ble_eq_true rfl)) jl_4 ⟨Nat.le_of_ble_eq_true rfl, Nat.le_of_ble_eq_true rfl⟩) hS (fun q _ h => hFc q h) hFc (fun u1 t H1 locs ht hvm hw hB hz1 hk1 hS => ?_)
  obtain ⟨hP1, hD1⟩ := hB
  rw [ht] at hP1
  obtain ⟨hP, hD⟩ := va_join (wr := []) (w1 := [(q1, .inr (7, [.ref (u1 1), .ref (u1 2), .int 0, .ref (u1 3), .ref (u1 7), .ref (u1 11), .ref (u1 25), .ref (u1 39), .ref (u1 44)])), ((u1 1), .inr (5, [.long 0, .int 0, .int 0])), ((u1 2), .inr (5, [.long 0, .int 0, .int 0])), ((u1 3), .inr (2, [.ref (u1 4), .ref (u1 5), .ref (u1 6), .int 0])), ((u1 4), .inl (cJ, 5, .inr (.inl (fun _ => 0)))), ((u1 5), .inl (cI, 5, .inl (fun _ => 0))), ((u1 6), .inl (cI, 5, .inl (fun _ => 0))), ((u1 7), .inr (0, [.ref (u1 8), .int 0, .ref (u1 9), .ref (u1 10), .int 0])), ((u1 8), .inl (cI, 80, .inl (fun _ => 0))), ((u1 9), .inl (cI, 10, .inl (fun _ => 0))), ((u1 10), .inl (cI, 10, .inl (fun _ => 0))), ((u1 11), .inr (4, [.ref (u1 12), .ref (u1 13), .ref (u1 14), .ref (u1 15), .ref (u1 16), .ref (u1 17), .ref (u1 18), .int 0, .int 0, .long 0, .int 0])), ((u1 12), .inl (cI, 10, .inl (fun _ => 0))), ((u1 13), .inl (cI, 9, .inl (fun _ => 0))), ((u1 14), .inl (cI, 9, .inl (fun _ => 0))), ((u1 15), .inl (cI, 9, .inl (fun _ => 0))), ((u1 16), .inl (cI, 9, .inl (fun _ => 0))), ((u1 17), .inl (cI, 100, .inl (fun _ => 0))), ((u1 18), .inr (1, [.ref (u1 19), .ref (u1 20), .int 0, .int 0, .int 0, .int 0, .ref (u1 21), .ref (u1 22), .int 0, .int 0, .int 0, .int 0, .int 0, .ref (u1 23), .int 0, .ref (u1 24)])), ((u1 19), .inl (cI, 10, .inl (fun _ => 0))), ((u1 20), .inl (cI, 10, .inl (fun _ => 0))), ((u1 21), .inl (cI, 16, .inl (fun _ => 0))), ((u1 22), .inl (cI, 160, .inl (fun _ => 0))), ((u1 23), .inl (cI, 10, .inl (fun _ => 0))), ((u1 24), .inl (cI, 10, .inl (fun _ => 0))), ((u1 25), .inr (4, [.ref (u1 26), .ref (u1 27), .ref (u1 28), .ref (u1 29), .ref (u1 30), .ref (u1 31), .ref (u1 32), .int 0, .int 0, .long 0, .int 0])), ((u1 26), .inl (cI, 10, .inl (fun _ => 0))), ((u1 27), .inl (cI, 9, .inl (fun _ => 0))), ((u1 28), .inl (cI, 9, .inl (fun _ => 0))), ((u1 29), .inl (cI, 9, .inl (fun _ => 0))), ((u1 30), .inl (cI, 9, .inl (fun _ => 0))), ((u1 31), .inl (cI, 100, .inl (fun _ => 0))), ((u1 32), .inr (1, [.ref (u1 33), .ref (u1 34), .int 0, .int 0, .int 0, .int 0, .ref (u1 35), .ref (u1 36), .int 0, .int 0, .int 0, .int 0, .int 0, .ref (u1 37), .int 0, .ref (u1 38)])), ((u1 33), .inl (cI, 10, .inl (fun _ => 0))), ((u1 34), .inl (cI, 10, .inl (fun _ => 0))), ((u1 35), .inl (cI, 16, .inl (fun _ => 0))), ((u1 36), .inl (cI, 160, .inl (fun _ => 0))), ((u1 37), .inl (cI, 10, .inl (fun _ => 0))), ((u1 38), .inl (cI, 10, .inl (fun _ => 0))), ((u1 39), .inr (6, [.ref (u1 40), .ref (u1 41), .ref (u1 42), .ref (u1 43), .int 0, .int 0, .long 0, .int 0])), ((u1 40), .inl (cI, 100, .inl (fun _ => 0))), ((u1 41), .inl (cI, 100, .inl (fun _ => 0))), ((u1 42), .inl (cI, 49, .inl (fun _ => 0))), ((u1 43), .inl (cI, 48, .inl (fun _ => 0))), ((u1 44), .inr (3, [.long 0, .long 0, .int 0]))]) hP hD [0] [] rfl rfl (by decide) (by decide) hk1 hFc hP1 hD1
  generalize H1 = H at hP hS ⊢
  have hP : va_P D vwCl [(q1, .inr (7, [.ref (u1 1), .ref (u1 2), .int 0, .ref (u1 3), .ref (u1 7), .ref (u1 11), .ref (u1 25), .ref (u1 39), .ref (u1 44)])), ((u1 1), .inr (5, [.long 0, .int 0, .int 0])), ((u1 2), .inr (5, [.long 0, .int 0, .int 0])), ((u1 3), .inr (2, [.ref (u1 4), .ref (u1 5), .ref (u1 6), .int 0])), ((u1 4), .inl (cJ, 5, .inr (.inl (fun _ => 0)))), ((u1 5), .inl (cI, 5, .inl (fun _ => 0))), ((u1 6), .inl (cI, 5, .inl (fun _ => 0))), ((u1 7), .inr (0, [.ref (u1 8), .int 0, .ref (u1 9), .ref (u1 10), .int 0])), ((u1 8), .inl (cI, 80, .inl (fun _ => 0))), ((u1 9), .inl (cI, 10, .inl (fun _ => 0))), ((u1 10), .inl (cI, 10, .inl (fun _ => 0))), ((u1 11), .inr (4, [.ref (u1 12), .ref (u1 13), .ref (u1 14), .ref (u1 15), .ref (u1 16), .ref (u1 17), .ref (u1 18), .int 0, .int 0, .long 0, .int 0])), ((u1 12), .inl (cI, 10, .inl (fun _ => 0))), ((u1 13), .inl (cI, 9, .inl (fun _ => 0))), ((u1 14), .inl (cI, 9, .inl (fun _ => 0))), ((u1 15), .inl (cI, 9, .inl (fun _ => 0))), ((u1 16), .inl (cI, 9, .inl (fun _ => 0))), ((u1 17), .inl (cI, 100, .inl (fun _ => 0))), ((u1 18), .inr (1, [.ref (u1 19), .ref (u1 20), .int 0, .int 0, .int 0, .int 0, .ref (u1 21), .ref (u1 22), .int 0, .int 0, .int 0, .int 0, .int 0, .ref (u1 23), .int 0, .ref (u1 24)])), ((u1 19), .inl (cI, 10, .inl (fun _ => 0))), ((u1 20), .inl (cI, 10, .inl (fun _ => 0))), ((u1 21), .inl (cI, 16, .inl (fun _ => 0))), ((u1 22), .inl (cI, 160, .inl (fun _ => 0))), ((u1 23), .inl (cI, 10, .inl (fun _ => 0))), ((u1 24), .inl (cI, 10, .inl (fun _ => 0))), ((u1 25), .inr (4, [.ref (u1 26), .ref (u1 27), .ref (u1 28), .ref (u1 29), .ref (u1 30), .ref (u1 31), .ref (u1 32), .int 0, .int 0, .long 0, .int 0])), ((u1 26), .inl (cI, 10, .inl (fun _ => 0))), ((u1 27), .inl (cI, 9, .inl (fun _ => 0))), ((u1 28), .inl (cI, 9, .inl (fun _ => 0))), ((u1 29), .inl (cI, 9, .inl (fun _ => 0))), ((u1 30), .inl (cI, 9, .inl (fun _ => 0))), ((u1 31), .inl (cI, 100, .inl (fun _ => 0))), ((u1 32), .inr (1, [.ref (u1 33), .ref (u1 34), .int 0, .int 0, .int 0, .int 0, .ref (u1 35), .ref (u1 36), .int 0, .int 0, .int 0, .int 0, .int 0, .ref (u1 37), .int 0, .ref (u1 38)])), ((u1 33), .inl (cI, 10, .inl (fun _ => 0))), ((u1 34), .inl (cI, 10, .inl (fun _ => 0))), ((u1 35), .inl (cI, 16, .inl (fun _ => 0))), ((u1 36), .inl (cI, 160, .inl (fun _ => 0))), ((u1 37), .inl (cI, 10, .inl (fun _ => 0))), ((u1 38), .inl (cI, 10, .inl (fun _ => 0))), ((u1 39), .inr (6, [.ref (u1 40), .ref (u1 41), .ref (u1 42), .ref (u1 43), .int 0, .int 0, .long 0, .int 0])), ((u1 40), .inl (cI, 100, .inl (fun _ => 0))), ((u1 41), .inl (cI, 100, .inl (fun _ => 0))), ((u1 42), .inl (cI, 49, .inl (fun _ => 0))), ((u1 43), .inl (cI, 48, .inl (fun _ => 0))), ((u1 44), .inr (3, [.long 0, .long 0, .int 0]))] H := hP
  have hD : va_D (fun q : Nat => s.heap.size ≤ q) [(q1, .inr (7, [.ref (u1 1), .ref (u1 2), .int 0, .ref (u1 3), .ref (u1 7), .ref (u1 11), .ref (u1 25), .ref (u1 39), .ref (u1 44)])), ((u1 1), .inr (5, [.long 0, .int 0, .int 0])), ((u1 2), .inr (5, [.long 0, .int 0, .int 0])), ((u1 3), .inr (2, [.ref (u1 4), .ref (u1 5), .ref (u1 6), .int 0])), ((u1 4), .inl (cJ, 5, .inr (.inl (fun _ => 0)))), ((u1 5), .inl (cI, 5, .inl (fun _ => 0))), ((u1 6), .inl (cI, 5, .inl (fun _ => 0))), ((u1 7), .inr (0, [.ref (u1 8), .int 0, .ref (u1 9), .ref (u1 10), .int 0])), ((u1 8), .inl (cI, 80, .inl (fun _ => 0))), ((u1 9), .inl (cI, 10, .inl (fun _ => 0))), ((u1 10), .inl (cI, 10, .inl (fun _ => 0))), ((u1 11), .inr (4, [.ref (u1 12), .ref (u1 13), .ref (u1 14), .ref (u1 15), .ref (u1 16), .ref (u1 17), .ref (u1 18), .int 0, .int 0, .long 0, .int 0])), ((u1 12), .inl (cI, 10, .inl (fun _ => 0))), ((u1 13), .inl (cI, 9, .inl (fun _ => 0))), ((u1 14), .inl (cI, 9, .inl (fun _ => 0))), ((u1 15), .inl (cI, 9, .inl (fun _ => 0))), ((u1 16), .inl (cI, 9, .inl (fun _ => 0))), ((u1 17), .inl (cI, 100, .inl (fun _ => 0))), ((u1 18), .inr (1, [.ref (u1 19), .ref (u1 20), .int 0, .int 0, .int 0, .int 0, .ref (u1 21), .ref (u1 22), .int 0, .int 0, .int 0, .int 0, .int 0, .ref (u1 23), .int 0, .ref (u1 24)])), ((u1 19), .inl (cI, 10, .inl (fun _ => 0))), ((u1 20), .inl (cI, 10, .inl (fun _ => 0))), ((u1 21), .inl (cI, 16, .inl (fun _ => 0))), ((u1 22), .inl (cI, 160, .inl (fun _ => 0))), ((u1 23), .inl (cI, 10, .inl (fun _ => 0))), ((u1 24), .inl (cI, 10, .inl (fun _ => 0))), ((u1 25), .inr (4, [.ref (u1 26), .ref (u1 27), .ref (u1 28), .ref (u1 29), .ref (u1 30), .ref (u1 31), .ref (u1 32), .int 0, .int 0, .long 0, .int 0])), ((u1 26), .inl (cI, 10, .inl (fun _ => 0))), ((u1 27), .inl (cI, 9, .inl (fun _ => 0))), ((u1 28), .inl (cI, 9, .inl (fun _ => 0))), ((u1 29), .inl (cI, 9, .inl (fun _ => 0))), ((u1 30), .inl (cI, 9, .inl (fun _ => 0))), ((u1 31), .inl (cI, 100, .inl (fun _ => 0))), ((u1 32), .inr (1, [.ref (u1 33), .ref (u1 34), .int 0, .int 0, .int 0, .int 0, .ref (u1 35), .ref (u1 36), .int 0, .int 0, .int 0, .int 0, .int 0, .ref (u1 37), .int 0, .ref (u1 38)])), ((u1 33), .inl (cI, 10, .inl (fun _ => 0))), ((u1 34), .inl (cI, 10, .inl (fun _ => 0))), ((u1 35), .inl (cI, 16, .inl (fun _ => 0))), ((u1 36), .inl (cI, 160, .inl (fun _ => 0))), ((u1 37), .inl (cI, 10, .inl (fun _ => 0))), ((u1 38), .inl (cI, 10, .inl (fun _ => 0))), ((u1 39), .inr (6, [.ref (u1 40), .ref (u1 41), .ref (u1 42), .ref (u1 43), .int 0, .int 0, .long 0, .int 0])), ((u1 40), .inl (cI, 100, .inl (fun _ => 0))), ((u1 41), .inl (cI, 100, .inl (fun _ => 0))), ((u1 42), .inl (cI, 49, .inl (fun _ => 0))), ((u1 43), .inl (cI, 48, .inl (fun _ => 0))), ((u1 44), .inr (3, [.long 0, .long 0, .int 0]))] := hD
  refine lv_astore_n (lv' := [(1, .ref q1), (0, .ref b)]) hx hb jl_7 rfl hl (by decide) rfl (fun ls hl => ?_)
  refine lv_bipush (v := 10) hx hb jl_8 (by decide) ?_
  refine knewI hx hb (hT _ karI) hK hP hD hS hA (N := 10) (by decide) (by decide) (by decide) (Nat.le_of_ble_eq_true rfl) (Nat.le_of_ble_eq_true rfl) jl_10 (fun q2 H hP hD hS => ?_)
  have hP : va_P D vwCl [(q1, .inr (7, [.ref (u1 1), .ref (u1 2), .int 0, .ref (u1 3), .ref (u1 7), .ref (u1 11), .ref (u1 25), .ref (u1 39), .ref (u1 44)])), ((u1 1), .inr (5, [.long 0, .int 0, .int 0])), ((u1 2), .inr (5, [.long 0, .int 0, .int 0])), ((u1 3), .inr (2, [.ref (u1 4), .ref (u1 5), .ref (u1 6), .int 0])), ((u1 4), .inl (cJ, 5, .inr (.inl (fun _ => 0)))), ((u1 5), .inl (cI, 5, .inl (fun _ => 0))), ((u1 6), .inl (cI, 5, .inl (fun _ => 0))), ((u1 7), .inr (0, [.ref (u1 8), .int 0, .ref (u1 9), .ref (u1 10), .int 0])), ((u1 8), .inl (cI, 80, .inl (fun _ => 0))), ((u1 9), .inl (cI, 10, .inl (fun _ => 0))), ((u1 10), .inl (cI, 10, .inl (fun _ => 0))), ((u1 11), .inr (4, [.ref (u1 12), .ref (u1 13), .ref (u1 14), .ref (u1 15), .ref (u1 16), .ref (u1 17), .ref (u1 18), .int 0, .int 0, .long 0, .int 0])), ((u1 12), .inl (cI, 10, .inl (fun _ => 0))), ((u1 13), .inl (cI, 9, .inl (fun _ => 0))), ((u1 14), .inl (cI, 9, .inl (fun _ => 0))), ((u1 15), .inl (cI, 9, .inl (fun _ => 0))), ((u1 16), .inl (cI, 9, .inl (fun _ => 0))), ((u1 17), .inl (cI, 100, .inl (fun _ => 0))), ((u1 18), .inr (1, [.ref (u1 19), .ref (u1 20), .int 0, .int 0, .int 0, .int 0, .ref (u1 21), .ref (u1 22), .int 0, .int 0, .int 0, .int 0, .int 0, .ref (u1 23), .int 0, .ref (u1 24)])), ((u1 19), .inl (cI, 10, .inl (fun _ => 0))), ((u1 20), .inl (cI, 10, .inl (fun _ => 0))), ((u1 21), .inl (cI, 16, .inl (fun _ => 0))), ((u1 22), .inl (cI, 160, .inl (fun _ => 0))), ((u1 23), .inl (cI, 10, .inl (fun _ => 0))), ((u1 24), .inl (cI, 10, .inl (fun _ => 0))), ((u1 25), .inr (4, [.ref (u1 26), .ref (u1 27), .ref (u1 28), .ref (u1 29), .ref (u1 30), .ref (u1 31), .ref (u1 32), .int 0, .int 0, .long 0, .int 0])), ((u1 26), .inl (cI, 10, .inl (fun _ => 0))), ((u1 27), .inl (cI, 9, .inl (fun _ => 0))), ((u1 28), .inl (cI, 9, .inl (fun _ => 0))), ((u1 29), .inl (cI, 9, .inl (fun _ => 0))), ((u1 30), .inl (cI, 9, .inl (fun _ => 0))), ((u1 31), .inl (cI, 100, .inl (fun _ => 0))), ((u1 32), .inr (1, [.ref (u1 33), .ref (u1 34), .int 0, .int 0, .int 0, .int 0, .ref (u1 35), .ref (u1 36), .int 0, .int 0, .int 0, .int 0, .int 0, .ref (u1 37), .int 0, .ref (u1 38)])), ((u1 33), .inl (cI, 10, .inl (fun _ => 0))), ((u1 34), .inl (cI, 10, .inl (fun _ => 0))), ((u1 35), .inl (cI, 16, .inl (fun _ => 0))), ((u1 36), .inl (cI, 160, .inl (fun _ => 0))), ((u1 37), .inl (cI, 10, .inl (fun _ => 0))), ((u1 38), .inl (cI, 10, .inl (fun _ => 0))), ((u1 39), .inr (6, [.ref (u1 40), .ref (u1 41), .ref (u1 42), .ref (u1 43), .int 0, .int 0, .long 0, .int 0])), ((u1 40), .inl (cI, 100, .inl (fun _ => 0))), ((u1 41), .inl (cI, 100, .inl (fun _ => 0))), ((u1 42), .inl (cI, 49, .inl (fun _ => 0))), ((u1 43), .inl (cI, 48, .inl (fun _ => 0))), ((u1 44), .inr (3, [.long 0, .long 0, .int 0])), (q2, .inl (cI, 10, .inl (fun _ => 0)))] H := hP
  have hD : va_D (fun q : Nat => s.heap.size ≤ q) [(q1, .inr (7, [.ref (u1 1), .ref (u1 2), .int 0, .ref (u1 3), .ref (u1 7), .ref (u1 11), .ref (u1 25), .ref (u1 39), .ref (u1 44)])), ((u1 1), .inr (5, [.long 0, .int 0, .int 0])), ((u1 2), .inr (5, [.long 0, .int 0, .int 0])), ((u1 3), .inr (2, [.ref (u1 4), .ref (u1 5), .ref (u1 6), .int 0])), ((u1 4), .inl (cJ, 5, .inr (.inl (fun _ => 0)))), ((u1 5), .inl (cI, 5, .inl (fun _ => 0))), ((u1 6), .inl (cI, 5, .inl (fun _ => 0))), ((u1 7), .inr (0, [.ref (u1 8), .int 0, .ref (u1 9), .ref (u1 10), .int 0])), ((u1 8), .inl (cI, 80, .inl (fun _ => 0))), ((u1 9), .inl (cI, 10, .inl (fun _ => 0))), ((u1 10), .inl (cI, 10, .inl (fun _ => 0))), ((u1 11), .inr (4, [.ref (u1 12), .ref (u1 13), .ref (u1 14), .ref (u1 15), .ref (u1 16), .ref (u1 17), .ref (u1 18), .int 0, .int 0, .long 0, .int 0])), ((u1 12), .inl (cI, 10, .inl (fun _ => 0))), ((u1 13), .inl (cI, 9, .inl (fun _ => 0))), ((u1 14), .inl (cI, 9, .inl (fun _ => 0))), ((u1 15), .inl (cI, 9, .inl (fun _ => 0))), ((u1 16), .inl (cI, 9, .inl (fun _ => 0))), ((u1 17), .inl (cI, 100, .inl (fun _ => 0))), ((u1 18), .inr (1, [.ref (u1 19), .ref (u1 20), .int 0, .int 0, .int 0, .int 0, .ref (u1 21), .ref (u1 22), .int 0, .int 0, .int 0, .int 0, .int 0, .ref (u1 23), .int 0, .ref (u1 24)])), ((u1 19), .inl (cI, 10, .inl (fun _ => 0))), ((u1 20), .inl (cI, 10, .inl (fun _ => 0))), ((u1 21), .inl (cI, 16, .inl (fun _ => 0))), ((u1 22), .inl (cI, 160, .inl (fun _ => 0))), ((u1 23), .inl (cI, 10, .inl (fun _ => 0))), ((u1 24), .inl (cI, 10, .inl (fun _ => 0))), ((u1 25), .inr (4, [.ref (u1 26), .ref (u1 27), .ref (u1 28), .ref (u1 29), .ref (u1 30), .ref (u1 31), .ref (u1 32), .int 0, .int 0, .long 0, .int 0])), ((u1 26), .inl (cI, 10, .inl (fun _ => 0))), ((u1 27), .inl (cI, 9, .inl (fun _ => 0))), ((u1 28), .inl (cI, 9, .inl (fun _ => 0))), ((u1 29), .inl (cI, 9, .inl (fun _ => 0))), ((u1 30), .inl (cI, 9, .inl (fun _ => 0))), ((u1 31), .inl (cI, 100, .inl (fun _ => 0))), ((u1 32), .inr (1, [.ref (u1 33), .ref (u1 34), .int 0, .int 0, .int 0, .int 0, .ref (u1 35), .ref (u1 36), .int 0, .int 0, .int 0, .int 0, .int 0, .ref (u1 37), .int 0, .ref (u1 38)])), ((u1 33), .inl (cI, 10, .inl (fun _ => 0))), ((u1 34), .inl (cI, 10, .inl (fun _ => 0))), ((u1 35), .inl (cI, 16, .inl (fun _ => 0))), ((u1 36), .inl (cI, 160, .inl (fun _ => 0))), ((u1 37), .inl (cI, 10, .inl (fun _ => 0))), ((u1 38), .inl (cI, 10, .inl (fun _ => 0))), ((u1 39), .inr (6, [.ref (u1 40), .ref (u1 41), .ref (u1 42), .ref (u1 43), .int 0, .int 0, .long 0, .int 0])), ((u1 40), .inl (cI, 100, .inl (fun _ => 0))), ((u1 41), .inl (cI, 100, .inl (fun _ => 0))), ((u1 42), .inl (cI, 49, .inl (fun _ => 0))), ((u1 43), .inl (cI, 48, .inl (fun _ => 0))), ((u1 44), .inr (3, [.long 0, .long 0, .int 0])), (q2, .inl (cI, 10, .inl (fun _ => 0)))] := hD
  refine lv_astore_n (lv' := [(2, .ref q2), (1, .ref q1), (0, .ref b)]) hx hb jl_12 rfl hl (by decide) rfl (fun ls hl => ?_)
  refine lv_iconst (v := 2) hx hb jl_13 (by decide) ?_
  refine knewI hx hb (hT _ karI) hK hP hD hS hA (N := 2) (by decide) (by decide) (by decide) (Nat.le_of_ble_eq_true rfl) (Nat.le_of_ble_eq_true rfl) jl_14 (fun q3 H hP hD hS => ?_)
  have hP : va_P D vwCl [(q1, .inr (7, [.ref (u1 1), .ref (u1 2), .int 0, .ref (u1 3), .ref (u1 7), .ref (u1 11), .ref (u1 25), .ref (u1 39), .ref (u1 44)])), ((u1 1), .inr (5, [.long 0, .int 0, .int 0])), ((u1 2), .inr (5, [.long 0, .int 0, .int 0])), ((u1 3), .inr (2, [.ref (u1 4), .ref (u1 5), .ref (u1 6), .int 0])), ((u1 4), .inl (cJ, 5, .inr (.inl (fun _ => 0)))), ((u1 5), .inl (cI, 5, .inl (fun _ => 0))), ((u1 6), .inl (cI, 5, .inl (fun _ => 0))), ((u1 7), .inr (0, [.ref (u1 8), .int 0, .ref (u1 9), .ref (u1 10), .int 0])), ((u1 8), .inl (cI, 80, .inl (fun _ => 0))), ((u1 9), .inl (cI, 10, .inl (fun _ => 0))), ((u1 10), .inl (cI, 10, .inl (fun _ => 0))), ((u1 11), .inr (4, [.ref (u1 12), .ref (u1 13), .ref (u1 14), .ref (u1 15), .ref (u1 16), .ref (u1 17), .ref (u1 18), .int 0, .int 0, .long 0, .int 0])), ((u1 12), .inl (cI, 10, .inl (fun _ => 0))), ((u1 13), .inl (cI, 9, .inl (fun _ => 0))), ((u1 14), .inl (cI, 9, .inl (fun _ => 0))), ((u1 15), .inl (cI, 9, .inl (fun _ => 0))), ((u1 16), .inl (cI, 9, .inl (fun _ => 0))), ((u1 17), .inl (cI, 100, .inl (fun _ => 0))), ((u1 18), .inr (1, [.ref (u1 19), .ref (u1 20), .int 0, .int 0, .int 0, .int 0, .ref (u1 21), .ref (u1 22), .int 0, .int 0, .int 0, .int 0, .int 0, .ref (u1 23), .int 0, .ref (u1 24)])), ((u1 19), .inl (cI, 10, .inl (fun _ => 0))), ((u1 20), .inl (cI, 10, .inl (fun _ => 0))), ((u1 21), .inl (cI, 16, .inl (fun _ => 0))), ((u1 22), .inl (cI, 160, .inl (fun _ => 0))), ((u1 23), .inl (cI, 10, .inl (fun _ => 0))), ((u1 24), .inl (cI, 10, .inl (fun _ => 0))), ((u1 25), .inr (4, [.ref (u1 26), .ref (u1 27), .ref (u1 28), .ref (u1 29), .ref (u1 30), .ref (u1 31), .ref (u1 32), .int 0, .int 0, .long 0, .int 0])), ((u1 26), .inl (cI, 10, .inl (fun _ => 0))), ((u1 27), .inl (cI, 9, .inl (fun _ => 0))), ((u1 28), .inl (cI, 9, .inl (fun _ => 0))), ((u1 29), .inl (cI, 9, .inl (fun _ => 0))), ((u1 30), .inl (cI, 9, .inl (fun _ => 0))), ((u1 31), .inl (cI, 100, .inl (fun _ => 0))), ((u1 32), .inr (1, [.ref (u1 33), .ref (u1 34), .int 0, .int 0, .int 0, .int 0, .ref (u1 35), .ref (u1 36), .int 0, .int 0, .int 0, .int 0, .int 0, .ref (u1 37), .int 0, .ref (u1 38)])), ((u1 33), .inl (cI, 10, .inl (fun _ => 0))), ((u1 34), .inl (cI, 10, .inl (fun _ => 0))), ((u1 35), .inl (cI, 16, .inl (fun _ => 0))), ((u1 36), .inl (cI, 160, .inl (fun _ => 0))), ((u1 37), .inl (cI, 10, .inl (fun _ => 0))), ((u1 38), .inl (cI, 10, .inl (fun _ => 0))), ((u1 39), .inr (6, [.ref (u1 40), .ref (u1 41), .ref (u1 42), .ref (u1 43), .int 0, .int 0, .long 0, .int 0])), ((u1 40), .inl (cI, 100, .inl (fun _ => 0))), ((u1 41), .inl (cI, 100, .inl (fun _ => 0))), ((u1 42), .inl (cI, 49, .inl (fun _ => 0))), ((u1 43), .inl (cI, 48, .inl (fun _ => 0))), ((u1 44), .inr (3, [.long 0, .long 0, .int 0])), (q2, .inl (cI, 10, .inl (fun _ => 0))), (q3, .inl (cI, 2, .inl (fun _ => 0)))] H := hP
  have hD : va_D (fun q : Nat => s.heap.size ≤ q) [(q1, .inr (7, [.ref (u1 1), .ref (u1 2), .int 0, .ref (u1 3), .ref (u1 7), .ref (u1 11), .ref (u1 25), .ref (u1 39), .ref (u1 44)])), ((u1 1), .inr (5, [.long 0, .int 0, .int 0])), ((u1 2), .inr (5, [.long 0, .int 0, .int 0])), ((u1 3), .inr (2, [.ref (u1 4), .ref (u1 5), .ref (u1 6), .int 0])), ((u1 4), .inl (cJ, 5, .inr (.inl (fun _ => 0)))), ((u1 5), .inl (cI, 5, .inl (fun _ => 0))), ((u1 6), .inl (cI, 5, .inl (fun _ => 0))), ((u1 7), .inr (0, [.ref (u1 8), .int 0, .ref (u1 9), .ref (u1 10), .int 0])), ((u1 8), .inl (cI, 80, .inl (fun _ => 0))), ((u1 9), .inl (cI, 10, .inl (fun _ => 0))), ((u1 10), .inl (cI, 10, .inl (fun _ => 0))), ((u1 11), .inr (4, [.ref (u1 12), .ref (u1 13), .ref (u1 14), .ref (u1 15), .ref (u1 16), .ref (u1 17), .ref (u1 18), .int 0, .int 0, .long 0, .int 0])), ((u1 12), .inl (cI, 10, .inl (fun _ => 0))), ((u1 13), .inl (cI, 9, .inl (fun _ => 0))), ((u1 14), .inl (cI, 9, .inl (fun _ => 0))), ((u1 15), .inl (cI, 9, .inl (fun _ => 0))), ((u1 16), .inl (cI, 9, .inl (fun _ => 0))), ((u1 17), .inl (cI, 100, .inl (fun _ => 0))), ((u1 18), .inr (1, [.ref (u1 19), .ref (u1 20), .int 0, .int 0, .int 0, .int 0, .ref (u1 21), .ref (u1 22), .int 0, .int 0, .int 0, .int 0, .int 0, .ref (u1 23), .int 0, .ref (u1 24)])), ((u1 19), .inl (cI, 10, .inl (fun _ => 0))), ((u1 20), .inl (cI, 10, .inl (fun _ => 0))), ((u1 21), .inl (cI, 16, .inl (fun _ => 0))), ((u1 22), .inl (cI, 160, .inl (fun _ => 0))), ((u1 23), .inl (cI, 10, .inl (fun _ => 0))), ((u1 24), .inl (cI, 10, .inl (fun _ => 0))), ((u1 25), .inr (4, [.ref (u1 26), .ref (u1 27), .ref (u1 28), .ref (u1 29), .ref (u1 30), .ref (u1 31), .ref (u1 32), .int 0, .int 0, .long 0, .int 0])), ((u1 26), .inl (cI, 10, .inl (fun _ => 0))), ((u1 27), .inl (cI, 9, .inl (fun _ => 0))), ((u1 28), .inl (cI, 9, .inl (fun _ => 0))), ((u1 29), .inl (cI, 9, .inl (fun _ => 0))), ((u1 30), .inl (cI, 9, .inl (fun _ => 0))), ((u1 31), .inl (cI, 100, .inl (fun _ => 0))), ((u1 32), .inr (1, [.ref (u1 33), .ref (u1 34), .int 0, .int 0, .int 0, .int 0, .ref (u1 35), .ref (u1 36), .int 0, .int 0, .int 0, .int 0, .int 0, .ref (u1 37), .int 0, .ref (u1 38)])), ((u1 33), .inl (cI, 10, .inl (fun _ => 0))), ((u1 34), .inl (cI, 10, .inl (fun _ => 0))), ((u1 35), .inl (cI, 16, .inl (fun _ => 0))), ((u1 36), .inl (cI, 160, .inl (fun _ => 0))), ((u1 37), .inl (cI, 10, .inl (fun _ => 0))), ((u1 38), .inl (cI, 10, .inl (fun _ => 0))), ((u1 39), .inr (6, [.ref (u1 40), .ref (u1 41), .ref (u1 42), .ref (u1 43), .int 0, .int 0, .long 0, .int 0])), ((u1 40), .inl (cI, 100, .inl (fun _ => 0))), ((u1 41), .inl (cI, 100, .inl (fun _ => 0))), ((u1 42), .inl (cI, 49, .inl (fun _ => 0))), ((u1 43), .inl (cI, 48, .inl (fun _ => 0))), ((u1 44), .inr (3, [.long 0, .long 0, .int 0])), (q2, .inl (cI, 10, .inl (fun _ => 0))), (q3, .inl (cI, 2, .inl (fun _ => 0)))] := hD
  refine lv_astore_n (lv' := [(3, .ref q3), (2, .ref q2), (1, .ref q1), (0, .ref b)]) hx hb jl_16 rfl hl (by decide) rfl (fun ls hl => ?_)
  refine W.widen (k := 47) (n := 1237) (Nat.le_of_ble_eq_true rfl) (Nat.le_of_ble_eq_true rfl) ?_
  obtain ⟨ad, had⟩ : ∃ ad : Nat → Nat, ad = fun a => if a = 0 then q1 else if a < 45 then u1 a else if a = 45 then q2 else if a = 46 then q3 else b := ⟨_, rfl⟩
  have e0 : ad 0 = q1 := by rw [had]; rfl
  have e1 : ad 1 = u1 1 := by rw [had]; rfl
  have e2 : ad 2 = u1 2 := by rw [had]; rfl
  have e3 : ad 3 = u1 3 := by rw [had]; rfl
  have e4 : ad 4 = u1 4 := by rw [had]; rfl
  have e5 : ad 5 = u1 5 := by rw [had]; rfl
  have e6 : ad 6 = u1 6 := by rw [had]; rfl
  have e7 : ad 7 = u1 7 := by rw [had]; rfl
  have e8 : ad 8 = u1 8 := by rw [had]; rfl
  have e9 : ad 9 = u1 9 := by rw [had]; rfl
  have e10 : ad 10 = u1 10 := by rw [had]; rfl
  have e11 : ad 11 = u1 11 := by rw [had]; rfl
  have e12 : ad 12 = u1 12 := by rw [had]; rfl
  have e13 : ad 13 = u1 13 := by rw [had]; rfl
  have e14 : ad 14 = u1 14 := by rw [had]; rfl
  have e15 : ad 15 = u1 15 := by rw [had]; rfl
  have e16 : ad 16 = u1 16 := by rw [had]; rfl
  have e17 : ad 17 = u1 17 := by rw [had]; rfl
  have e18 : ad 18 = u1 18 := by rw [had]; rfl
  have e19 : ad 19 = u1 19 := by rw [had]; rfl
  have e20 : ad 20 = u1 20 := by rw [had]; rfl
  have e21 : ad 21 = u1 21 := by rw [had]; rfl
  have e22 : ad 22 = u1 22 := by rw [had]; rfl
  have e23 : ad 23 = u1 23 := by rw [had]; rfl
  have e24 : ad 24 = u1 24 := by rw [had]; rfl
  have e25 : ad 25 = u1 25 := by rw [had]; rfl
  have e26 : ad 26 = u1 26 := by rw [had]; rfl
  have e27 : ad 27 = u1 27 := by rw [had]; rfl
  have e28 : ad 28 = u1 28 := by rw [had]; rfl
  have e29 : ad 29 = u1 29 := by rw [had]; rfl
  have e30 : ad 30 = u1 30 := by rw [had]; rfl
  have e31 : ad 31 = u1 31 := by rw [had]; rfl
  have e32 : ad 32 = u1 32 := by rw [had]; rfl
  have e33 : ad 33 = u1 33 := by rw [had]; rfl
  have e34 : ad 34 = u1 34 := by rw [had]; rfl
  have e35 : ad 35 = u1 35 := by rw [had]; rfl
  have e36 : ad 36 = u1 36 := by rw [had]; rfl
  have e37 : ad 37 = u1 37 := by rw [had]; rfl
  have e38 : ad 38 = u1 38 := by rw [had]; rfl
  have e39 : ad 39 = u1 39 := by rw [had]; rfl
  have e40 : ad 40 = u1 40 := by rw [had]; rfl
  have e41 : ad 41 = u1 41 := by rw [had]; rfl
  have e42 : ad 42 = u1 42 := by rw [had]; rfl
  have e43 : ad 43 = u1 43 := by rw [had]; rfl
  have e44 : ad 44 = u1 44 := by rw [had]; rfl
  have e45 : ad 45 = q2 := by rw [had]; rfl
  have e46 : ad 46 = q3 := by rw [had]; rfl
  have hP : va_P D vwCl (xws 47 cI cJ ad xw0) H := by
    rw [xws_lit]
    simp only [e0, e1, e2, e3, e4, e5, e6, e7, e8, e9, e10, e11, e12, e13, e14, e15, e16, e17, e18, e19, e20, e21, e22, e23, e24, e25, e26, e27, e28, e29, e30, e31, e32, e33, e34, e35, e36, e37, e38, e39, e40, e41, e42, e43, e44, e45, e46]
    exact hP
  have hD : va_D (fun q : Nat => s.heap.size ≤ q) (xws 47 cI cJ ad xw0) := by
    rw [xws_lit]
    simp only [e0, e1, e2, e3, e4, e5, e6, e7, e8, e9, e10, e11, e12, e13, e14, e15, e16, e17, e18, e19, e20, e21, e22, e23, e24, e25, e26, e27, e28, e29, e30, e31, e32, e33, e34, e35, e36, e37, e38, e39, e40, e41, e42, e43, e44, e45, e46]
    exact hD
  have h200 : ad 200 = b := by rw [had]; rfl
  have hi : xinj 47 s.heap.size ad := ⟨fun i j hi hj e => hD.1 i j _ _ (xws_get hi) (xws_get hj) e, fun i hi => hD.2 i _ (xws_get hi)⟩
  have C : xcx D cI cJ ML_law p s m #[Value.ref b] meth c := ⟨hx, hb, hml, hr, hlocks, hown, hT, hK, hN⟩
  have hL2 : xLok ad ls 12 [some (.ref 200), some (.ref 0), some (.ref 45), some (.ref 46), none, none, none, none, none, none, none, none] := by
    refine ⟨rfl, hl.1, hl.2.1, fun i v hiv => ?_⟩
    match i, hiv with
    | 0, hiv =>
      cases hiv
      show ls[0]? = some (.val (.ref (ad 200)))
      rw [h200]
      exact lv_at hl 3 rfl
    | 1, hiv =>
      cases hiv
      show ls[1]? = some (.val (.ref (ad 0)))
      rw [e0]
      exact lv_at hl 2 rfl
    | 2, hiv =>
      cases hiv
      show ls[2]? = some (.val (.ref (ad 45)))
      rw [e45]
      exact lv_at hl 1 rfl
    | 3, hiv =>
      cases hiv
      show ls[3]? = some (.val (.ref (ad 46)))
      rw [e46]
      exact lv_at hl 0 rfl
    | i + 4, hiv =>
      exfalso
      have hm := List.mem_of_getElem? (l := ([none, none, none, none, none, none, none, none] : xL)) (i := i) (a := some v) hiv
      simp at hm
  have hxn : xNo 47 ((17, [some (.ref 200), some (.ref 0), some (.ref 45), some (.ref 46), none, none, none, none, none, none, none, none], [], xw0) : xF) := by
    refine ⟨fun i a hia => ?_, trivial⟩
    match i, hia with
    | 0, h => cases h; decide
    | 1, h => cases h; decide
    | 2, h => cases h; decide
    | 3, h => cases h; decide
    | i + 4, h =>
      exfalso
      have hm := List.mem_of_getElem? (l := ([none, none, none, none, none, none, none, none] : xL)) (i := i) (a := some (.ref a)) h
      simp at hm
  exact law_all C0 C hi h200 (by omega) (bs := 47) (bv := 1237) (by omega) (by omega) w0_I ⟨rfl, rfl⟩ hxn rfl H locs ls hP hS hL2
