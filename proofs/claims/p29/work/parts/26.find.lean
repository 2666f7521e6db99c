theorem i_dn (a b : Int32) : a - b + -1 = a - (b + 1) := by
  apply Int32.toBitVec_inj.mp
  simp only [Int32.toBitVec_sub, Int32.toBitVec_add, Int32.toBitVec_neg, Int32.toBitVec_one]
  bv_omega
theorem i_dn0 (d : Nat) : nI d - nI (d + 1) = -1 := by
  rw [nI_succ]
  apply Int32.toBitVec_inj.mp
  simp only [Int32.toBitVec_sub, Int32.toBitVec_add, Int32.toBitVec_neg, Int32.toBitVec_one]
  bv_omega
theorem fdep_stay {H : Nat → Nat → Bool} {A T : Nat → Bool} {u n : Nat} (h : fdep H A T u n ≠ 0) : ∀ m, n ≤ m → fdep H A T u m = fdep H A T u n
  | 0, hm => by
    have : n = 0 := by omega
    rw [this]
  | m + 1, hm => by
    by_cases e : n = m + 1
    · rw [e]
    · have ih := fdep_stay h m (by omega)
      show (if fdep H A T u m ≠ 0 then fdep H A T u m else _) = _
      rw [ih, if_pos h]
theorem dsc_len {H : Nat → Nat → Bool} {A T : Nat → Bool} : ∀ k v, (dsc H A T k v).length = k + 1
  | 0, _ => rfl
  | k + 1, v => by
    show (dsc H A T k _).length + 1 = _
    rw [dsc_len]
theorem dsc_at {H : Nat → Nat → Bool} {A T : Nat → Bool} (hs : ∀ u v, H u v = H v u) : ∀ (k v i : Nat), (∃ z, z < 10 ∧ H v z = true ∧ lay H A T k z = true) → i ≤ k → (v :: dsc H A T k v).getD (i + 1) 0 = low (fun z => H ((v :: dsc H A T k v).getD i 0) z && lay H A T (k - i) z) ∧ low (fun z => H ((v :: dsc H A T k v).getD i 0) z && lay H A T (k - i) z) < 10
  | 0, v, i, ⟨z, h1, h2, h3⟩, hi => by
    have : i = 0 := by omega
    subst this
    exact ⟨rfl, (low_some (S := fun z => H v z && lay H A T 0 z) h1 (by show (_ && _) = true; rw [h2, h3]; rfl)).1⟩
  | k + 1, v, 0, ⟨z, h1, h2, h3⟩, hi => ⟨rfl, (low_some (S := fun z => H v z && lay H A T (k + 1) z) h1 (by show (_ && _) = true; rw [h2, h3]; rfl)).1⟩
  | k + 1, v, i + 1, ⟨z, h1, h2, h3⟩, hi => by
    obtain ⟨q1, q2⟩ := low_some (S := fun z => H v z && lay H A T (k + 1) z) h1 (by show (_ && _) = true; rw [h2, h3]; rfl)
    rw [Bool.and_eq_true] at q2
    have ed : dsc H A T (k + 1) v = low (fun z => H v z && lay H A T (k + 1) z) :: dsc H A T k (low (fun z => H v z && lay H A T (k + 1) z)) := rfl
    generalize hz : low (fun z => H v z && lay H A T (k + 1) z) = z2 at q1 q2 ed
    obtain ⟨u, u1, u2, u3⟩ := lay_back q2.2
    have ih := dsc_at hs k z2 i ⟨u, u1, by rw [hs]; exact u3, u2⟩ (by omega)
    rw [ed]
    rw [show k + 1 - (i + 1) = k - i by omega]
    exact ih
theorem c_findPath_p {w : xW} {H : Nat → Nat → Bool} {A T : Nat → Bool} {u : Nat} (hs : ∀ u v, H u v = H v u) (hg : ∀ v, v < 10 → w.1 19 v = mk (H v)) (hu : u < 10) (h0 : fdep H A T u 9 ≠ 0) (h8 : fdep H A T u 9 ≤ 8) : xD MX1_findPath [.ref 18, .int (nI u), .int (mk T), .int (mk A)] w (fun r w1 => r = some (.int 1) ∧ eL 18 23 w1 (u :: dsc H A T (fdep H A T u 9) u) ∧ xkq [(18, some 14), (23, none), (24, none)] w w1) := by
  have after : ∀ (w2 : xW) (x y z : Int32), xkq [(24, none)] w w2 → (∀ j, j ≤ fdep H A T u 9 → w2.1 24 j = mk (lay H A T j)) → xQ MX1_findPath (95, [some (.ref 18), some (.int (nI u)), some (.int (mk T)), some (.int (mk A)), some (.int x), some (.int y), some (.int (nI (fdep H A T u 9))), some (.int z), none], [], w2) (fun r w1 => r = some (.int 1) ∧ eL 18 23 w1 (u :: dsc H A T (fdep H A T u 9) u) ∧ xkq [(18, some 14), (23, none), (24, none)] w w1) := by
    intro w2 x y z hk2 hl2
    have hm := (fdep_spec (H := H) (A := A) (T := T) (u := u) 9).1 h0
    obtain ⟨z0, hz0, hz1, hz2⟩ := meet_iff.mp hm.2.2.1
    have hd := fun i hi => dsc_at hs (fdep H A T u 9) u i ⟨z0, hz0, hz2, hz1⟩ hi
    have hlen := dsc_len (H := H) (A := A) (T := T) (fdep H A T u 9) u
    generalize fdep H A T u 9 = d at *
    obtain ⟨l, hl⟩ : ∃ l, l = u :: dsc H A T d u := ⟨_, rfl⟩
    rw [← hl] at hd ⊢
    have hll : l.length = d + 2 := by rw [hl, List.length_cons, hlen]
    have hl0 : l.getD 0 0 = u := by rw [hl]; rfl
    refine xQ.go 2 (F1 := (bif !decide ((nI d) = 0) then 102 else 100, [some (.ref 18), some (.int (nI u)), some (.int (mk T)), some (.int (mk A)), some (.int x), some (.int y), some (.int (nI d)), some (.int z), none], [], w2)) rfl ?_
    refine xQ.brT (by rw [decide_eq_false (nI_ne0 (by omega) (by omega))]; rfl) ?_
    refine xQ.go 4 (F1 := (108, [some (.ref 18), some (.int (nI u)), some (.int (mk T)), some (.int (mk A)), some (.int x), some (.int y), some (.int (nI d)), some (.int z), none], [.int (nI u), .int 0, .ref 23], w2)) rfl ?_
    refine xQ.call rfl (c_put rfl (k := 0) (by omega) (by omega)) ?_
    show xQ MX1_findPath (111, [some (.ref 18), some (.int (nI u)), some (.int (mk T)), some (.int (mk A)), some (.int x), some (.int y), some (.int (nI d)), some (.int z), none], [], (xuI w2 23 0 (nI u))) _
    refine xQ.go 7 (F1 := (123, [some (.ref 18), some (.int (nI u)), some (.int (mk T)), some (.int (mk A)), some (.int x), some (.int y), some (.int (nI d)), some (.int (nI u)), some (.int (nI d))], [], (xuI (xuI w2 23 0 (nI u)) 18 14 1))) rfl ?_
    refine xQ.loop (S := xW) (fun k s => (123, [some (.ref 18), some (.int (nI u)), some (.int (mk T)), some (.int (mk A)), some (.int x), some (.int y), some (.int (nI d)), some (.int (nI (l.getD k 0))), some (.int (nI d - nI k))], [], s)) (fun k s => xkq [(18, some 14), (23, none)] w2 s ∧ s.1 18 14 = nI (k + 1) ∧ l.getD k 0 < 10 ∧ ∀ j, j ≤ k → s.1 23 j = nI (l.getD j 0)) (d + 1) (xuI (xuI w2 23 0 (nI u)) 18 14 1) (by rw [hl0, show nI 0 = 0 from rfl, Int32.sub_zero]) (⟨xkq_I (xkq_I xkq_rfl rfl) rfl, by simp [uI1]; rfl, by rw [hl0]; exact hu, fun j hj => by rw [show j = 0 by omega, hl0]; simp [uI1]⟩) ?_ ?_
    · intro k s hk hI K
      obtain ⟨i1, i2, i3, i4⟩ := hI
      obtain ⟨d1, d2⟩ := hd k (by omega)
      rw [jI_sub (by omega)] 
      refine xQ.go 2 (F1 := (bif decide ((nI (d - k)) < 0) then 181 else 128, [some (.ref 18), some (.int (nI u)), some (.int (mk T)), some (.int (mk A)), some (.int x), some (.int y), some (.int (nI d)), some (.int (nI (l.getD k 0))), some (.int (nI (d - k)))], [], s)) rfl ?_
      refine xQ.brF (decide_eq_false (nI_pos (by omega))) ?_
      refine xQ.go 3 (F1 := (134, [some (.ref 18), some (.int (nI u)), some (.int (mk T)), some (.int (mk A)), some (.int x), some (.int y), some (.int (nI d)), some (.int (nI (l.getD k 0))), some (.int (nI (d - k)))], [.int (nI (l.getD k 0)), .ref 19], s)) rfl ?_
      refine xQ.call rfl (c_at rfl i3 (by omega)) ?_
      show xQ MX1_findPath (137, [some (.ref 18), some (.int (nI u)), some (.int (mk T)), some (.int (mk A)), some (.int x), some (.int y), some (.int (nI d)), some (.int (nI (l.getD k 0))), some (.int (nI (d - k)))], [.int (s.1 19 (l.getD k 0))], s) _
      rw [xkq_at i1 19 (l.getD k 0), xkq_at hk2 19 (l.getD k 0), hg _ i3]
      refine xQ.go 3 (F1 := (143, [some (.ref 18), some (.int (nI u)), some (.int (mk T)), some (.int (mk A)), some (.int x), some (.int y), some (.int (nI d)), some (.int (nI (l.getD k 0))), some (.int (nI (d - k)))], [.int (nI (d - k)), .ref 24, .int (mk (H (l.getD k 0)))], s)) rfl ?_
      refine xQ.call rfl (c_at rfl (by omega) (by omega)) ?_
      show xQ MX1_findPath (146, [some (.ref 18), some (.int (nI u)), some (.int (mk T)), some (.int (mk A)), some (.int x), some (.int y), some (.int (nI d)), some (.int (nI (l.getD k 0))), some (.int (nI (d - k)))], [.int (s.1 24 (d - k)), .int (mk (H (l.getD k 0)))], s) _
      rw [xkq_at i1 24 (d - k), hl2 _ (by omega)]
      refine xQ.go 1 (F1 := (147, [some (.ref 18), some (.int (nI u)), some (.int (mk T)), some (.int (mk A)), some (.int x), some (.int y), some (.int (nI d)), some (.int (nI (l.getD k 0))), some (.int (nI (d - k)))], [.int ((mk (H (l.getD k 0))) &&& (mk (lay H A T (d - k))))], s)) rfl ?_
      rw [mk_and]
      refine xQ.call rfl (c_least d2) ?_
      show xQ MX1_findPath (150, [some (.ref 18), some (.int (nI u)), some (.int (mk T)), some (.int (mk A)), some (.int x), some (.int y), some (.int (nI d)), some (.int (nI (l.getD k 0))), some (.int (nI (d - k)))], [.int (nI (low (fun z => H (l.getD k 0) z && lay H A T (d - k) z)))], s) _
      rw [← d1]
      rw [← d1] at d2
      refine xQ.go 5 (F1 := (160, [some (.ref 18), some (.int (nI u)), some (.int (mk T)), some (.int (mk A)), some (.int x), some (.int y), some (.int (nI d)), some (.int (nI (l.getD (k + 1) 0))), some (.int (nI (d - k)))], [.int (s.1 18 14), .ref 23], s)) rfl ?_
      rw [i2]
      refine xQ.go 1 (F1 := (162, [some (.ref 18), some (.int (nI u)), some (.int (mk T)), some (.int (mk A)), some (.int x), some (.int y), some (.int (nI d)), some (.int (nI (l.getD (k + 1) 0))), some (.int (nI (d - k)))], [.int (nI (l.getD (k + 1) 0)), .int (nI (k + 1)), .ref 23], s)) rfl ?_
      refine xQ.call rfl (c_put rfl (by omega) (by omega)) ?_
      show xQ MX1_findPath (165, [some (.ref 18), some (.int (nI u)), some (.int (mk T)), some (.int (mk A)), some (.int x), some (.int y), some (.int (nI d)), some (.int (nI (l.getD (k + 1) 0))), some (.int (nI (d - k)))], [], (xuI s 23 (k + 1) (nI (l.getD (k + 1) 0)))) _
      refine xQ.go 8 (F1 := (123, [some (.ref 18), some (.int (nI u)), some (.int (mk T)), some (.int (mk A)), some (.int x), some (.int y), some (.int (nI d)), some (.int (nI (l.getD (k + 1) 0))), some (.int ((nI (d - k)) + (-1)))], [], (xuI (xuI s 23 (k + 1) (nI (l.getD (k + 1) 0))) 18 14 (((xuI s 23 (k + 1) (nI (l.getD (k + 1) 0))).1 18 14) + 1)))) rfl ?_
      rw [show nI (d - k) + -1 = nI d - nI (k + 1) by rw [← jI_sub (show k ≤ d by omega), nI_succ, i_dn]]
      refine K _ ⟨xkq_I (xkq_I i1 rfl) rfl, ?_, d2, fun j hj => ?_⟩
      · simp only [uI1]
        simp [i2, nI_succ]
      · simp only [uI1]
        simp
        by_cases e : j = k + 1
        · rw [if_pos e, e]
        · rw [if_neg e]
          exact i4 j (by omega)
    · intro s hI
      obtain ⟨i1, i2, i3, i4⟩ := hI
      refine xQ.go 2 (F1 := (bif decide ((nI d - nI (d + 1)) < 0) then 181 else 128, [some (.ref 18), some (.int (nI u)), some (.int (mk T)), some (.int (mk A)), some (.int x), some (.int y), some (.int (nI d)), some (.int (nI (l.getD (d + 1) 0))), some (.int (nI d - nI (d + 1)))], [], s)) rfl ?_
      refine xQ.brT (decide_eq_true (by rw [i_dn0]; decide)) ?_
      refine xQ.go 1 (F1 := (182, [some (.ref 18), some (.int (nI u)), some (.int (mk T)), some (.int (mk A)), some (.int x), some (.int y), some (.int (nI d)), some (.int (nI (l.getD (d + 1) 0))), some (.int (nI d - nI (d + 1)))], [.int 1], s)) rfl ?_
      refine xQ.iret .boolean 1 rfl rfl (rfl) ?_
      refine ⟨rfl, ⟨by rw [hll]; exact i2, fun i x hx => ?_⟩, xkq_trans (xkq_mono rfl hk2) (xkq_mono rfl i1)⟩
      have hi : i < l.length := by
        obtain ⟨h, _⟩ := List.getElem?_eq_some_iff.mp hx
        exact h
      rw [i4 i (by omega), List.getD_eq_getElem?_getD, hx]
      rfl
  refine xD.of ?_
  show xQ MX1_findPath (0, [some (.ref 18), some (.int (nI u)), some (.int (mk T)), some (.int (mk A)), none, none, none, none, none], [], w) _
  refine xQ.go 10 (F1 := (15, [some (.ref 18), some (.int (nI u)), some (.int (mk T)), some (.int (mk A)), some (.int (mk A)), some (.int (mk T)), some (.int 0), none, none], [.int (mk T), .int 0, .ref 24], w)) rfl ?_
  refine xQ.call rfl (c_put rfl (k := 0) (by omega) (by omega)) ?_
  show xQ MX1_findPath (18, [some (.ref 18), some (.int (nI u)), some (.int (mk T)), some (.int (mk A)), some (.int (mk A)), some (.int (mk T)), some (.int 0), none, none], [], (xuI w 24 0 (mk T))) _
  refine xQ.go 2 (F1 := (21, [some (.ref 18), some (.int (nI u)), some (.int (mk T)), some (.int (mk A)), some (.int (mk A)), some (.int (mk T)), some (.int 0), some (.int 1), none], [], (xuI w 24 0 (mk T)))) rfl ?_
  refine xQ.loop (S := xW) (fun k s => (21, [some (.ref 18), some (.int (nI u)), some (.int (mk T)), some (.int (mk A)), some (.int (mk (lft H A T k))), some (.int (mk (lay H A T k))), some (.int (nI (fdep H A T u k))), some (.int (nI (k + 1))), none], [], s)) (fun k s => xkq [(24, none)] w s ∧ ∀ j, j ≤ k → s.1 24 j = mk (lay H A T j)) 9 (xuI w 24 0 (mk T)) (rfl) (⟨xkq_I xkq_rfl rfl, fun j hj => by rw [show j = 0 by omega]; simp [uI1]; rfl⟩) ?_ ?_
  · intro k s hk hI K
    obtain ⟨i1, i2⟩ := hI
    have hf := fdep_spec (H := H) (A := A) (T := T) (u := u) k
    refine xQ.go 3 (F1 := (bif decide (10 ≤ (nI (k + 1))) then 95 else 28, [some (.ref 18), some (.int (nI u)), some (.int (mk T)), some (.int (mk A)), some (.int (mk (lft H A T k))), some (.int (mk (lay H A T k))), some (.int (nI (fdep H A T u k))), some (.int (nI (k + 1))), none], [], s)) rfl ?_
    refine xQ.brF (decide_eq_false (nI_ge (b := 10) (by omega) (by omega))) ?_
    by_cases e0 : fdep H A T u k = 0
    · refine xQ.go 2 (F1 := (bif !decide ((nI (fdep H A T u k)) = 0) then 95 else 33, [some (.ref 18), some (.int (nI u)), some (.int (mk T)), some (.int (mk A)), some (.int (mk (lft H A T k))), some (.int (mk (lay H A T k))), some (.int (nI (fdep H A T u k))), some (.int (nI (k + 1))), none], [], s)) rfl ?_
      refine xQ.brF (by rw [e0]; rfl) ?_
      refine xQ.go 3 (F1 := (39, [some (.ref 18), some (.int (nI u)), some (.int (mk T)), some (.int (mk A)), some (.int (mk (lft H A T k))), some (.int (mk (lay H A T k))), some (.int (nI (fdep H A T u k))), some (.int (nI (k + 1))), none], [.int (mk (lay H A T k)), .ref 19], s)) rfl ?_
      refine xQ.call rfl (c_around rfl (fun v hv => by rw [xkq_at i1 19 v]; exact hg v hv)) ?_
      show xQ MX1_findPath (42, [some (.ref 18), some (.int (nI u)), some (.int (mk T)), some (.int (mk A)), some (.int (mk (lft H A T k))), some (.int (mk (lay H A T k))), some (.int (nI (fdep H A T u k))), some (.int (nI (k + 1))), none], [.int (mk (nb H (lay H A T k)))], s) _
      refine xQ.go 4 (F1 := (49, [some (.ref 18), some (.int (nI u)), some (.int (mk T)), some (.int (mk A)), some (.int (mk (lft H A T k))), some (.int ((mk (nb H (lay H A T k))) &&& (mk (lft H A T k)))), some (.int (nI (fdep H A T u k))), some (.int (nI (k + 1))), none], [.int (mk (lft H A T k))], s)) rfl ?_
      rw [mk_and, show (fun v => nb H (lay H A T k) v && lft H A T k v) = lay H A T (k + 1) from rfl]
      refine xQ.go 5 (F1 := (56, [some (.ref 18), some (.int (nI u)), some (.int (mk T)), some (.int (mk A)), some (.int ((mk (lft H A T k)) &&& ((mk (lay H A T (k + 1))) ^^^ (-1)))), some (.int (mk (lay H A T (k + 1)))), some (.int (nI (fdep H A T u k))), some (.int (nI (k + 1))), none], [], s)) rfl ?_
      rw [mk_andn, show (fun v => lft H A T k v && !lay H A T (k + 1) v) = lft H A T (k + 1) from rfl]
      refine xQ.go 4 (F1 := (64, [some (.ref 18), some (.int (nI u)), some (.int (mk T)), some (.int (mk A)), some (.int (mk (lft H A T (k + 1)))), some (.int (mk (lay H A T (k + 1)))), some (.int (nI (fdep H A T u k))), some (.int (nI (k + 1))), none], [.int (mk (lay H A T (k + 1))), .int (nI (k + 1)), .ref 24], s)) rfl ?_
      refine xQ.call rfl (c_put rfl (by omega) (by omega)) ?_
      show xQ MX1_findPath (67, [some (.ref 18), some (.int (nI u)), some (.int (mk T)), some (.int (mk A)), some (.int (mk (lft H A T (k + 1)))), some (.int (mk (lay H A T (k + 1)))), some (.int (nI (fdep H A T u k))), some (.int (nI (k + 1))), none], [], (xuI s 24 (k + 1) (mk (lay H A T (k + 1))))) _
      refine xQ.go 4 (F1 := (74, [some (.ref 18), some (.int (nI u)), some (.int (mk T)), some (.int (mk A)), some (.int (mk (lft H A T (k + 1)))), some (.int (mk (lay H A T (k + 1)))), some (.int (nI (fdep H A T u k))), some (.int (nI (k + 1))), none], [.int (nI u), .ref 19, .int (mk (lay H A T (k + 1)))], (xuI s 24 (k + 1) (mk (lay H A T (k + 1)))))) rfl ?_
      refine xQ.call rfl (c_at rfl hu (by omega)) ?_
      show xQ MX1_findPath (77, [some (.ref 18), some (.int (nI u)), some (.int (mk T)), some (.int (mk A)), some (.int (mk (lft H A T (k + 1)))), some (.int (mk (lay H A T (k + 1)))), some (.int (nI (fdep H A T u k))), some (.int (nI (k + 1))), none], [.int ((xuI s 24 (k + 1) (mk (lay H A T (k + 1)))).1 19 u), .int (mk (lay H A T (k + 1)))], (xuI s 24 (k + 1) (mk (lay H A T (k + 1))))) _
      rw [show (xuI s 24 (k + 1) (mk (lay H A T (k + 1)))).1 19 u = mk (H u) by rw [uI1, if_neg (by omega), xkq_at i1 19 u, hg u hu]]
      have hI2 : xkq [(24, none)] w (xuI s 24 (k + 1) (mk (lay H A T (k + 1)))) ∧ ∀ j, j ≤ k + 1 → (xuI s 24 (k + 1) (mk (lay H A T (k + 1)))).1 24 j = mk (lay H A T j) := ⟨xkq_I i1 rfl, fun j hj => by
        rw [uI1]
        by_cases e : j = k + 1
        · rw [if_pos ⟨rfl, e⟩, e]
        · rw [if_neg (fun h => e h.2)]
          exact i2 j (by omega)⟩
      refine xQ.go 2 (F1 := (bif !decide (((mk (lay H A T (k + 1))) &&& (mk (H u))) = 0) then 85 else 81, [some (.ref 18), some (.int (nI u)), some (.int (mk T)), some (.int (mk A)), some (.int (mk (lft H A T (k + 1)))), some (.int (mk (lay H A T (k + 1)))), some (.int (nI (fdep H A T u k))), some (.int (nI (k + 1))), none], [], (xuI s 24 (k + 1) (mk (lay H A T (k + 1)))))) rfl ?_
      rw [mk_and]
      have e1 : fdep H A T u (k + 1) = bif meet (lay H A T (k + 1)) (H u) then k + 1 else 0 := by
        show (if fdep H A T u k ≠ 0 then _ else _) = _
        rw [if_neg (fun h => h e0)]
      cases hmt : meet (lay H A T (k + 1)) (H u) with
      | true =>
        refine xQ.brT ?_ ?_
        · obtain ⟨z, z1, z2, z3⟩ := meet_iff.mp hmt
          rw [decide_eq_false]
          · rfl
          · intro e
            have := mk_zero.mp e z z1
            rw [z2, z3] at this
            cases this
        refine xQ.go 4 (F1 := (21, [some (.ref 18), some (.int (nI u)), some (.int (mk T)), some (.int (mk A)), some (.int (mk (lft H A T (k + 1)))), some (.int (mk (lay H A T (k + 1)))), some (.int (nI (k + 1))), some (.int ((nI (k + 1)) + 1)), none], [], (xuI s 24 (k + 1) (mk (lay H A T (k + 1)))))) rfl ?_
        have K := K _ hI2
        rw [e1, hmt] at K
        rw [← nI_succ]
        exact K
      | false =>
        refine xQ.brF ?_ ?_
        · rw [decide_eq_true]
          · rfl
          · refine mk_zero.mpr (fun z hz => ?_)
            cases hq : (lay H A T (k + 1) z && H u z) with
            | false => rfl
            | true =>
              rw [Bool.and_eq_true] at hq
              rw [meet_iff.mpr ⟨z, hz, hq.1, hq.2⟩] at hmt
              cases hmt
        refine xQ.go 5 (F1 := (21, [some (.ref 18), some (.int (nI u)), some (.int (mk T)), some (.int (mk A)), some (.int (mk (lft H A T (k + 1)))), some (.int (mk (lay H A T (k + 1)))), some (.int 0), some (.int ((nI (k + 1)) + 1)), none], [], (xuI s 24 (k + 1) (mk (lay H A T (k + 1)))))) rfl ?_
        have K := K _ hI2
        rw [e1, hmt] at K
        rw [← nI_succ]
        exact K
    · refine xQ.go 2 (F1 := (bif !decide ((nI (fdep H A T u k)) = 0) then 95 else 33, [some (.ref 18), some (.int (nI u)), some (.int (mk T)), some (.int (mk A)), some (.int (mk (lft H A T k))), some (.int (mk (lay H A T k))), some (.int (nI (fdep H A T u k))), some (.int (nI (k + 1))), none], [], s)) rfl ?_
      refine xQ.brT (by rw [decide_eq_false (nI_ne0 (by omega) (by have := hf.1 e0; omega))]; rfl) ?_
      rw [← fdep_stay e0 9 (by omega)]
      exact after s _ _ _ i1 (fun j hj => i2 j (by rw [fdep_stay e0 9 (by omega)] at hj; have := hf.1 e0; omega))
  · intro s hI
    refine xQ.go 3 (F1 := (bif decide (10 ≤ (nI (9 + 1))) then 95 else 28, [some (.ref 18), some (.int (nI u)), some (.int (mk T)), some (.int (mk A)), some (.int (mk (lft H A T 9))), some (.int (mk (lay H A T 9))), some (.int (nI (fdep H A T u 9))), some (.int (nI (9 + 1))), none], [], s)) rfl ?_
    refine xQ.brT (decide_eq_true (nI_le (a := 10) (Nat.le_refl _) (by omega))) ?_
    exact after s _ _ _ hI.1 (fun j hj => hI.2 j (by omega))

theorem c_findPath_t {w : xW} {H : Nat → Nat → Bool} {A T : Nat → Bool} {u : Nat} (hs : ∀ u v, H u v = H v u) (hg : ∀ v, v < 10 → w.1 33 v = mk (H v)) (hu : u < 10) (h0 : fdep H A T u 9 ≠ 0) (h8 : fdep H A T u 9 ≤ 8) : xD MX1_findPath [.ref 32, .int (nI u), .int (mk T), .int (mk A)] w (fun r w1 => r = some (.int 1) ∧ eL 32 37 w1 (u :: dsc H A T (fdep H A T u 9) u) ∧ xkq [(32, some 14), (37, none), (38, none)] w w1) := by
  have after : ∀ (w2 : xW) (x y z : Int32), xkq [(38, none)] w w2 → (∀ j, j ≤ fdep H A T u 9 → w2.1 38 j = mk (lay H A T j)) → xQ MX1_findPath (95, [some (.ref 32), some (.int (nI u)), some (.int (mk T)), some (.int (mk A)), some (.int x), some (.int y), some (.int (nI (fdep H A T u 9))), some (.int z), none], [], w2) (fun r w1 => r = some (.int 1) ∧ eL 32 37 w1 (u :: dsc H A T (fdep H A T u 9) u) ∧ xkq [(32, some 14), (37, none), (38, none)] w w1) := by
    intro w2 x y z hk2 hl2
    have hm := (fdep_spec (H := H) (A := A) (T := T) (u := u) 9).1 h0
    obtain ⟨z0, hz0, hz1, hz2⟩ := meet_iff.mp hm.2.2.1
    have hd := fun i hi => dsc_at hs (fdep H A T u 9) u i ⟨z0, hz0, hz2, hz1⟩ hi
    have hlen := dsc_len (H := H) (A := A) (T := T) (fdep H A T u 9) u
    generalize fdep H A T u 9 = d at *
    obtain ⟨l, hl⟩ : ∃ l, l = u :: dsc H A T d u := ⟨_, rfl⟩
    rw [← hl] at hd ⊢
    have hll : l.length = d + 2 := by rw [hl, List.length_cons, hlen]
    have hl0 : l.getD 0 0 = u := by rw [hl]; rfl
    refine xQ.go 2 (F1 := (bif !decide ((nI d) = 0) then 102 else 100, [some (.ref 32), some (.int (nI u)), some (.int (mk T)), some (.int (mk A)), some (.int x), some (.int y), some (.int (nI d)), some (.int z), none], [], w2)) rfl ?_
    refine xQ.brT (by rw [decide_eq_false (nI_ne0 (by omega) (by omega))]; rfl) ?_
    refine xQ.go 4 (F1 := (108, [some (.ref 32), some (.int (nI u)), some (.int (mk T)), some (.int (mk A)), some (.int x), some (.int y), some (.int (nI d)), some (.int z), none], [.int (nI u), .int 0, .ref 37], w2)) rfl ?_
    refine xQ.call rfl (c_put rfl (k := 0) (by omega) (by omega)) ?_
    show xQ MX1_findPath (111, [some (.ref 32), some (.int (nI u)), some (.int (mk T)), some (.int (mk A)), some (.int x), some (.int y), some (.int (nI d)), some (.int z), none], [], (xuI w2 37 0 (nI u))) _
    refine xQ.go 7 (F1 := (123, [some (.ref 32), some (.int (nI u)), some (.int (mk T)), some (.int (mk A)), some (.int x), some (.int y), some (.int (nI d)), some (.int (nI u)), some (.int (nI d))], [], (xuI (xuI w2 37 0 (nI u)) 32 14 1))) rfl ?_
    refine xQ.loop (S := xW) (fun k s => (123, [some (.ref 32), some (.int (nI u)), some (.int (mk T)), some (.int (mk A)), some (.int x), some (.int y), some (.int (nI d)), some (.int (nI (l.getD k 0))), some (.int (nI d - nI k))], [], s)) (fun k s => xkq [(32, some 14), (37, none)] w2 s ∧ s.1 32 14 = nI (k + 1) ∧ l.getD k 0 < 10 ∧ ∀ j, j ≤ k → s.1 37 j = nI (l.getD j 0)) (d + 1) (xuI (xuI w2 37 0 (nI u)) 32 14 1) (by rw [hl0, show nI 0 = 0 from rfl, Int32.sub_zero]) (⟨xkq_I (xkq_I xkq_rfl rfl) rfl, by simp [uI1]; rfl, by rw [hl0]; exact hu, fun j hj => by rw [show j = 0 by omega, hl0]; simp [uI1]⟩) ?_ ?_
    · intro k s hk hI K
      obtain ⟨i1, i2, i3, i4⟩ := hI
      obtain ⟨d1, d2⟩ := hd k (by omega)
      rw [jI_sub (by omega)] 
      refine xQ.go 2 (F1 := (bif decide ((nI (d - k)) < 0) then 181 else 128, [some (.ref 32), some (.int (nI u)), some (.int (mk T)), some (.int (mk A)), some (.int x), some (.int y), some (.int (nI d)), some (.int (nI (l.getD k 0))), some (.int (nI (d - k)))], [], s)) rfl ?_
      refine xQ.brF (decide_eq_false (nI_pos (by omega))) ?_
      refine xQ.go 3 (F1 := (134, [some (.ref 32), some (.int (nI u)), some (.int (mk T)), some (.int (mk A)), some (.int x), some (.int y), some (.int (nI d)), some (.int (nI (l.getD k 0))), some (.int (nI (d - k)))], [.int (nI (l.getD k 0)), .ref 33], s)) rfl ?_
      refine xQ.call rfl (c_at rfl i3 (by omega)) ?_
      show xQ MX1_findPath (137, [some (.ref 32), some (.int (nI u)), some (.int (mk T)), some (.int (mk A)), some (.int x), some (.int y), some (.int (nI d)), some (.int (nI (l.getD k 0))), some (.int (nI (d - k)))], [.int (s.1 33 (l.getD k 0))], s) _
      rw [xkq_at i1 33 (l.getD k 0), xkq_at hk2 33 (l.getD k 0), hg _ i3]
      refine xQ.go 3 (F1 := (143, [some (.ref 32), some (.int (nI u)), some (.int (mk T)), some (.int (mk A)), some (.int x), some (.int y), some (.int (nI d)), some (.int (nI (l.getD k 0))), some (.int (nI (d - k)))], [.int (nI (d - k)), .ref 38, .int (mk (H (l.getD k 0)))], s)) rfl ?_
      refine xQ.call rfl (c_at rfl (by omega) (by omega)) ?_
      show xQ MX1_findPath (146, [some (.ref 32), some (.int (nI u)), some (.int (mk T)), some (.int (mk A)), some (.int x), some (.int y), some (.int (nI d)), some (.int (nI (l.getD k 0))), some (.int (nI (d - k)))], [.int (s.1 38 (d - k)), .int (mk (H (l.getD k 0)))], s) _
      rw [xkq_at i1 38 (d - k), hl2 _ (by omega)]
      refine xQ.go 1 (F1 := (147, [some (.ref 32), some (.int (nI u)), some (.int (mk T)), some (.int (mk A)), some (.int x), some (.int y), some (.int (nI d)), some (.int (nI (l.getD k 0))), some (.int (nI (d - k)))], [.int ((mk (H (l.getD k 0))) &&& (mk (lay H A T (d - k))))], s)) rfl ?_
      rw [mk_and]
      refine xQ.call rfl (c_least d2) ?_
      show xQ MX1_findPath (150, [some (.ref 32), some (.int (nI u)), some (.int (mk T)), some (.int (mk A)), some (.int x), some (.int y), some (.int (nI d)), some (.int (nI (l.getD k 0))), some (.int (nI (d - k)))], [.int (nI (low (fun z => H (l.getD k 0) z && lay H A T (d - k) z)))], s) _
      rw [← d1]
      rw [← d1] at d2
      refine xQ.go 5 (F1 := (160, [some (.ref 32), some (.int (nI u)), some (.int (mk T)), some (.int (mk A)), some (.int x), some (.int y), some (.int (nI d)), some (.int (nI (l.getD (k + 1) 0))), some (.int (nI (d - k)))], [.int (s.1 32 14), .ref 37], s)) rfl ?_
      rw [i2]
      refine xQ.go 1 (F1 := (162, [some (.ref 32), some (.int (nI u)), some (.int (mk T)), some (.int (mk A)), some (.int x), some (.int y), some (.int (nI d)), some (.int (nI (l.getD (k + 1) 0))), some (.int (nI (d - k)))], [.int (nI (l.getD (k + 1) 0)), .int (nI (k + 1)), .ref 37], s)) rfl ?_
      refine xQ.call rfl (c_put rfl (by omega) (by omega)) ?_
      show xQ MX1_findPath (165, [some (.ref 32), some (.int (nI u)), some (.int (mk T)), some (.int (mk A)), some (.int x), some (.int y), some (.int (nI d)), some (.int (nI (l.getD (k + 1) 0))), some (.int (nI (d - k)))], [], (xuI s 37 (k + 1) (nI (l.getD (k + 1) 0)))) _
      refine xQ.go 8 (F1 := (123, [some (.ref 32), some (.int (nI u)), some (.int (mk T)), some (.int (mk A)), some (.int x), some (.int y), some (.int (nI d)), some (.int (nI (l.getD (k + 1) 0))), some (.int ((nI (d - k)) + (-1)))], [], (xuI (xuI s 37 (k + 1) (nI (l.getD (k + 1) 0))) 32 14 (((xuI s 37 (k + 1) (nI (l.getD (k + 1) 0))).1 32 14) + 1)))) rfl ?_
      rw [show nI (d - k) + -1 = nI d - nI (k + 1) by rw [← jI_sub (show k ≤ d by omega), nI_succ, i_dn]]
      refine K _ ⟨xkq_I (xkq_I i1 rfl) rfl, ?_, d2, fun j hj => ?_⟩
      · simp only [uI1]
        simp [i2, nI_succ]
      · simp only [uI1]
        simp
        by_cases e : j = k + 1
        · rw [if_pos e, e]
        · rw [if_neg e]
          exact i4 j (by omega)
    · intro s hI
      obtain ⟨i1, i2, i3, i4⟩ := hI
      refine xQ.go 2 (F1 := (bif decide ((nI d - nI (d + 1)) < 0) then 181 else 128, [some (.ref 32), some (.int (nI u)), some (.int (mk T)), some (.int (mk A)), some (.int x), some (.int y), some (.int (nI d)), some (.int (nI (l.getD (d + 1) 0))), some (.int (nI d - nI (d + 1)))], [], s)) rfl ?_
      refine xQ.brT (decide_eq_true (by rw [i_dn0]; decide)) ?_
      refine xQ.go 1 (F1 := (182, [some (.ref 32), some (.int (nI u)), some (.int (mk T)), some (.int (mk A)), some (.int x), some (.int y), some (.int (nI d)), some (.int (nI (l.getD (d + 1) 0))), some (.int (nI d - nI (d + 1)))], [.int 1], s)) rfl ?_
      refine xQ.iret .boolean 1 rfl rfl (rfl) ?_
      refine ⟨rfl, ⟨by rw [hll]; exact i2, fun i x hx => ?_⟩, xkq_trans (xkq_mono rfl hk2) (xkq_mono rfl i1)⟩
      have hi : i < l.length := by
        obtain ⟨h, _⟩ := List.getElem?_eq_some_iff.mp hx
        exact h
      rw [i4 i (by omega), List.getD_eq_getElem?_getD, hx]
      rfl
  refine xD.of ?_
  show xQ MX1_findPath (0, [some (.ref 32), some (.int (nI u)), some (.int (mk T)), some (.int (mk A)), none, none, none, none, none], [], w) _
  refine xQ.go 10 (F1 := (15, [some (.ref 32), some (.int (nI u)), some (.int (mk T)), some (.int (mk A)), some (.int (mk A)), some (.int (mk T)), some (.int 0), none, none], [.int (mk T), .int 0, .ref 38], w)) rfl ?_
  refine xQ.call rfl (c_put rfl (k := 0) (by omega) (by omega)) ?_
  show xQ MX1_findPath (18, [some (.ref 32), some (.int (nI u)), some (.int (mk T)), some (.int (mk A)), some (.int (mk A)), some (.int (mk T)), some (.int 0), none, none], [], (xuI w 38 0 (mk T))) _
  refine xQ.go 2 (F1 := (21, [some (.ref 32), some (.int (nI u)), some (.int (mk T)), some (.int (mk A)), some (.int (mk A)), some (.int (mk T)), some (.int 0), some (.int 1), none], [], (xuI w 38 0 (mk T)))) rfl ?_
  refine xQ.loop (S := xW) (fun k s => (21, [some (.ref 32), some (.int (nI u)), some (.int (mk T)), some (.int (mk A)), some (.int (mk (lft H A T k))), some (.int (mk (lay H A T k))), some (.int (nI (fdep H A T u k))), some (.int (nI (k + 1))), none], [], s)) (fun k s => xkq [(38, none)] w s ∧ ∀ j, j ≤ k → s.1 38 j = mk (lay H A T j)) 9 (xuI w 38 0 (mk T)) (rfl) (⟨xkq_I xkq_rfl rfl, fun j hj => by rw [show j = 0 by omega]; simp [uI1]; rfl⟩) ?_ ?_
  · intro k s hk hI K
    obtain ⟨i1, i2⟩ := hI
    have hf := fdep_spec (H := H) (A := A) (T := T) (u := u) k
    refine xQ.go 3 (F1 := (bif decide (10 ≤ (nI (k + 1))) then 95 else 28, [some (.ref 32), some (.int (nI u)), some (.int (mk T)), some (.int (mk A)), some (.int (mk (lft H A T k))), some (.int (mk (lay H A T k))), some (.int (nI (fdep H A T u k))), some (.int (nI (k + 1))), none], [], s)) rfl ?_
    refine xQ.brF (decide_eq_false (nI_ge (b := 10) (by omega) (by omega))) ?_
    by_cases e0 : fdep H A T u k = 0
    · refine xQ.go 2 (F1 := (bif !decide ((nI (fdep H A T u k)) = 0) then 95 else 33, [some (.ref 32), some (.int (nI u)), some (.int (mk T)), some (.int (mk A)), some (.int (mk (lft H A T k))), some (.int (mk (lay H A T k))), some (.int (nI (fdep H A T u k))), some (.int (nI (k + 1))), none], [], s)) rfl ?_
      refine xQ.brF (by rw [e0]; rfl) ?_
      refine xQ.go 3 (F1 := (39, [some (.ref 32), some (.int (nI u)), some (.int (mk T)), some (.int (mk A)), some (.int (mk (lft H A T k))), some (.int (mk (lay H A T k))), some (.int (nI (fdep H A T u k))), some (.int (nI (k + 1))), none], [.int (mk (lay H A T k)), .ref 33], s)) rfl ?_
      refine xQ.call rfl (c_around rfl (fun v hv => by rw [xkq_at i1 33 v]; exact hg v hv)) ?_
      show xQ MX1_findPath (42, [some (.ref 32), some (.int (nI u)), some (.int (mk T)), some (.int (mk A)), some (.int (mk (lft H A T k))), some (.int (mk (lay H A T k))), some (.int (nI (fdep H A T u k))), some (.int (nI (k + 1))), none], [.int (mk (nb H (lay H A T k)))], s) _
      refine xQ.go 4 (F1 := (49, [some (.ref 32), some (.int (nI u)), some (.int (mk T)), some (.int (mk A)), some (.int (mk (lft H A T k))), some (.int ((mk (nb H (lay H A T k))) &&& (mk (lft H A T k)))), some (.int (nI (fdep H A T u k))), some (.int (nI (k + 1))), none], [.int (mk (lft H A T k))], s)) rfl ?_
      rw [mk_and, show (fun v => nb H (lay H A T k) v && lft H A T k v) = lay H A T (k + 1) from rfl]
      refine xQ.go 5 (F1 := (56, [some (.ref 32), some (.int (nI u)), some (.int (mk T)), some (.int (mk A)), some (.int ((mk (lft H A T k)) &&& ((mk (lay H A T (k + 1))) ^^^ (-1)))), some (.int (mk (lay H A T (k + 1)))), some (.int (nI (fdep H A T u k))), some (.int (nI (k + 1))), none], [], s)) rfl ?_
      rw [mk_andn, show (fun v => lft H A T k v && !lay H A T (k + 1) v) = lft H A T (k + 1) from rfl]
      refine xQ.go 4 (F1 := (64, [some (.ref 32), some (.int (nI u)), some (.int (mk T)), some (.int (mk A)), some (.int (mk (lft H A T (k + 1)))), some (.int (mk (lay H A T (k + 1)))), some (.int (nI (fdep H A T u k))), some (.int (nI (k + 1))), none], [.int (mk (lay H A T (k + 1))), .int (nI (k + 1)), .ref 38], s)) rfl ?_
      refine xQ.call rfl (c_put rfl (by omega) (by omega)) ?_
      show xQ MX1_findPath (67, [some (.ref 32), some (.int (nI u)), some (.int (mk T)), some (.int (mk A)), some (.int (mk (lft H A T (k + 1)))), some (.int (mk (lay H A T (k + 1)))), some (.int (nI (fdep H A T u k))), some (.int (nI (k + 1))), none], [], (xuI s 38 (k + 1) (mk (lay H A T (k + 1))))) _
      refine xQ.go 4 (F1 := (74, [some (.ref 32), some (.int (nI u)), some (.int (mk T)), some (.int (mk A)), some (.int (mk (lft H A T (k + 1)))), some (.int (mk (lay H A T (k + 1)))), some (.int (nI (fdep H A T u k))), some (.int (nI (k + 1))), none], [.int (nI u), .ref 33, .int (mk (lay H A T (k + 1)))], (xuI s 38 (k + 1) (mk (lay H A T (k + 1)))))) rfl ?_
      refine xQ.call rfl (c_at rfl hu (by omega)) ?_
      show xQ MX1_findPath (77, [some (.ref 32), some (.int (nI u)), some (.int (mk T)), some (.int (mk A)), some (.int (mk (lft H A T (k + 1)))), some (.int (mk (lay H A T (k + 1)))), some (.int (nI (fdep H A T u k))), some (.int (nI (k + 1))), none], [.int ((xuI s 38 (k + 1) (mk (lay H A T (k + 1)))).1 33 u), .int (mk (lay H A T (k + 1)))], (xuI s 38 (k + 1) (mk (lay H A T (k + 1))))) _
      rw [show (xuI s 38 (k + 1) (mk (lay H A T (k + 1)))).1 33 u = mk (H u) by rw [uI1, if_neg (by omega), xkq_at i1 33 u, hg u hu]]
      have hI2 : xkq [(38, none)] w (xuI s 38 (k + 1) (mk (lay H A T (k + 1)))) ∧ ∀ j, j ≤ k + 1 → (xuI s 38 (k + 1) (mk (lay H A T (k + 1)))).1 38 j = mk (lay H A T j) := ⟨xkq_I i1 rfl, fun j hj => by
        rw [uI1]
        by_cases e : j = k + 1
        · rw [if_pos ⟨rfl, e⟩, e]
        · rw [if_neg (fun h => e h.2)]
          exact i2 j (by omega)⟩
      refine xQ.go 2 (F1 := (bif !decide (((mk (lay H A T (k + 1))) &&& (mk (H u))) = 0) then 85 else 81, [some (.ref 32), some (.int (nI u)), some (.int (mk T)), some (.int (mk A)), some (.int (mk (lft H A T (k + 1)))), some (.int (mk (lay H A T (k + 1)))), some (.int (nI (fdep H A T u k))), some (.int (nI (k + 1))), none], [], (xuI s 38 (k + 1) (mk (lay H A T (k + 1)))))) rfl ?_
      rw [mk_and]
      have e1 : fdep H A T u (k + 1) = bif meet (lay H A T (k + 1)) (H u) then k + 1 else 0 := by
        show (if fdep H A T u k ≠ 0 then _ else _) = _
        rw [if_neg (fun h => h e0)]
      cases hmt : meet (lay H A T (k + 1)) (H u) with
      | true =>
        refine xQ.brT ?_ ?_
        · obtain ⟨z, z1, z2, z3⟩ := meet_iff.mp hmt
          rw [decide_eq_false]
          · rfl
          · intro e
            have := mk_zero.mp e z z1
            rw [z2, z3] at this
            cases this
        refine xQ.go 4 (F1 := (21, [some (.ref 32), some (.int (nI u)), some (.int (mk T)), some (.int (mk A)), some (.int (mk (lft H A T (k + 1)))), some (.int (mk (lay H A T (k + 1)))), some (.int (nI (k + 1))), some (.int ((nI (k + 1)) + 1)), none], [], (xuI s 38 (k + 1) (mk (lay H A T (k + 1)))))) rfl ?_
        have K := K _ hI2
        rw [e1, hmt] at K
        rw [← nI_succ]
        exact K
      | false =>
        refine xQ.brF ?_ ?_
        · rw [decide_eq_true]
          · rfl
          · refine mk_zero.mpr (fun z hz => ?_)
            cases hq : (lay H A T (k + 1) z && H u z) with
            | false => rfl
            | true =>
              rw [Bool.and_eq_true] at hq
              rw [meet_iff.mpr ⟨z, hz, hq.1, hq.2⟩] at hmt
              cases hmt
        refine xQ.go 5 (F1 := (21, [some (.ref 32), some (.int (nI u)), some (.int (mk T)), some (.int (mk A)), some (.int (mk (lft H A T (k + 1)))), some (.int (mk (lay H A T (k + 1)))), some (.int 0), some (.int ((nI (k + 1)) + 1)), none], [], (xuI s 38 (k + 1) (mk (lay H A T (k + 1)))))) rfl ?_
        have K := K _ hI2
        rw [e1, hmt] at K
        rw [← nI_succ]
        exact K
    · refine xQ.go 2 (F1 := (bif !decide ((nI (fdep H A T u k)) = 0) then 95 else 33, [some (.ref 32), some (.int (nI u)), some (.int (mk T)), some (.int (mk A)), some (.int (mk (lft H A T k))), some (.int (mk (lay H A T k))), some (.int (nI (fdep H A T u k))), some (.int (nI (k + 1))), none], [], s)) rfl ?_
      refine xQ.brT (by rw [decide_eq_false (nI_ne0 (by omega) (by have := hf.1 e0; omega))]; rfl) ?_
      rw [← fdep_stay e0 9 (by omega)]
      exact after s _ _ _ i1 (fun j hj => i2 j (by rw [fdep_stay e0 9 (by omega)] at hj; have := hf.1 e0; omega))
  · intro s hI
    refine xQ.go 3 (F1 := (bif decide (10 ≤ (nI (9 + 1))) then 95 else 28, [some (.ref 32), some (.int (nI u)), some (.int (mk T)), some (.int (mk A)), some (.int (mk (lft H A T 9))), some (.int (mk (lay H A T 9))), some (.int (nI (fdep H A T u 9))), some (.int (nI (9 + 1))), none], [], s)) rfl ?_
    refine xQ.brT (decide_eq_true (nI_le (a := 10) (Nat.le_refl _) (by omega))) ?_
    exact after s _ _ _ hI.1 (fun j hj => hI.2 j (by omega))
