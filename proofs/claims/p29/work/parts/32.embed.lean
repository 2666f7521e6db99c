theorem i_half {m : Nat} (h : m < 51) : nI (2 * m) / 2 = nI m := by
  have : ∀ m, m < 51 → nI (2 * m) / 2 = nI m := by decide +kernel
  exact this m h
theorem sm_le10 {f : Nat → Nat} (h : ∀ i, i < 10 → f i ≤ 10) : ∀ n, n ≤ 10 → sm f n ≤ 10 * n
  | 0, _ => Nat.le_refl _
  | n + 1, hn => by
    have := sm_le10 h n (by omega)
    have := h n (by omega)
    unfold sm
    omega
theorem ec_le {H : Nat → Nat → Bool} (hs : ∀ u v, H u v = H v u) (hi : ∀ v, H v v = false) : ec H < 51 := by
  have h1 := sm_even hs hi 10
  have h2 := sm_le10 (f := fun x => cnt (H x) 10) (fun i _ => cnt_le _ _) 10 (Nat.le_refl _)
  unfold ec
  omega
theorem c_start_p {w : xW} {G : Nat → Nat → Bool} {S : Nat → Bool} (hg : gok G) (hw : ∀ v, v < 10 → w.1 12 v = mk (G v)) : xD MX1_start [.ref 18, .ref 12, .int (mk S)] w (fun r w1 => r = none ∧ eG 18 19 w1 (bH G S) S ∧ eP 18 20 w1 (fun _ _ => false) (fun _ => false) 0 ∧ xkq [(18, some 2), (18, some 3), (18, some 4), (18, some 5), (18, some 8), (19, none), (20, none)] w w1) := by
  have hbs : ∀ u v, bH G S u v = bH G S v u := fun u v => by
    show (_ && (_ && _)) = (_ && (_ && _))
    rw [hg.1, Bool.and_comm (S u)]
  have hbi : ∀ v, bH G S v v = false := fun v => by
    show (_ && _) = false
    rw [hg.2.1]
    rfl
  refine xD.of ?_
  show xQ MX1_start (0, [some (.ref 18), some (.ref 12), some (.int (mk S)), none, none, none], [], w) _
  refine xQ.go 16 (F1 := (25, [some (.ref 18), some (.ref 12), some (.int (mk S)), some (.int 0), some (.int 0), none], [], (xuI (xuI (xuI (xuI w 18 2 (mk S)) 18 3 0) 18 5 0) 18 8 0))) rfl ?_
  refine xQ.loop (S := xW) (fun k s => (25, [some (.ref 18), some (.ref 12), some (.int (mk S)), some (.int (nI (sm (fun x => cnt (bH G S x) 10) k))), some (.int (nI k)), none], [], s)) (fun k s => xkq [(18, some 2), (18, some 3), (18, some 5), (18, some 8), (19, none), (20, none)] w s ∧ s.1 18 2 = mk S ∧ s.1 18 3 = 0 ∧ s.1 18 5 = 0 ∧ ∀ v, v < k → s.1 19 v = mk (bH G S v) ∧ s.1 20 v = 0) 10 (xuI (xuI (xuI (xuI w 18 2 (mk S)) 18 3 0) 18 5 0) 18 8 0) (rfl) (⟨xkq_I (xkq_I (xkq_I (xkq_I xkq_rfl rfl) rfl) rfl) rfl, by simp [uI1], by simp [uI1], by simp [uI1], fun v hv => absurd hv (by omega)⟩) ?_ ?_
  · intro k s hk hI K
    obtain ⟨i1, i2, i3, i4, i5⟩ := hI
    have hsm := sm_le10 (f := fun x => cnt (bH G S x) 10) (fun i _ => cnt_le _ _) k (by omega)
    have com : xQ MX1_start (53, [some (.ref 18), some (.ref 12), some (.int (mk S)), some (.int (nI (sm (fun x => cnt (bH G S x) 10) k))), some (.int (nI k)), none], [.int (mk (bH G S k))], s) (fun r w1 => r = none ∧ eG 18 19 w1 (bH G S) S ∧ eP 18 20 w1 (fun _ _ => false) (fun _ => false) 0 ∧ xkq [(18, some 2), (18, some 3), (18, some 4), (18, some 5), (18, some 8), (19, none), (20, none)] w w1) := by
      refine xQ.go 5 (F1 := (63, [some (.ref 18), some (.ref 12), some (.int (mk S)), some (.int (nI (sm (fun x => cnt (bH G S x) 10) k))), some (.int (nI k)), some (.int (mk (bH G S k)))], [.int (mk (bH G S k)), .int (nI k), .ref 19], s)) rfl ?_
      refine xQ.call rfl (c_put rfl (by omega) (by omega)) ?_
      show xQ MX1_start (66, [some (.ref 18), some (.ref 12), some (.int (mk S)), some (.int (nI (sm (fun x => cnt (bH G S x) 10) k))), some (.int (nI k)), some (.int (mk (bH G S k)))], [], (xuI s 19 k (mk (bH G S k)))) _
      refine xQ.go 4 (F1 := (73, [some (.ref 18), some (.ref 12), some (.int (mk S)), some (.int (nI (sm (fun x => cnt (bH G S x) 10) k))), some (.int (nI k)), some (.int (mk (bH G S k)))], [.int 0, .int (nI k), .ref 20], (xuI s 19 k (mk (bH G S k))))) rfl ?_
      refine xQ.call rfl (c_put rfl (by omega) (by omega)) ?_
      show xQ MX1_start (76, [some (.ref 18), some (.ref 12), some (.int (mk S)), some (.int (nI (sm (fun x => cnt (bH G S x) 10) k))), some (.int (nI k)), some (.int (mk (bH G S k)))], [], (xuI (xuI s 19 k (mk (bH G S k))) 20 k 0)) _
      refine xQ.go 2 (F1 := (79, [some (.ref 18), some (.ref 12), some (.int (mk S)), some (.int (nI (sm (fun x => cnt (bH G S x) 10) k))), some (.int (nI k)), some (.int (mk (bH G S k)))], [.int (mk (bH G S k)), .int (nI (sm (fun x => cnt (bH G S x) 10) k))], (xuI (xuI s 19 k (mk (bH G S k))) 20 k 0))) rfl ?_
      refine xQ.call rfl (c_ones) ?_
      show xQ MX1_start (82, [some (.ref 18), some (.ref 12), some (.int (mk S)), some (.int (nI (sm (fun x => cnt (bH G S x) 10) k))), some (.int (nI k)), some (.int (mk (bH G S k)))], [.int (nI (cnt (bH G S k) 10)), .int (nI (sm (fun x => cnt (bH G S x) 10) k))], (xuI (xuI s 19 k (mk (bH G S k))) 20 k 0)) _
      refine xQ.go 4 (F1 := (25, [some (.ref 18), some (.ref 12), some (.int (mk S)), some (.int ((nI (sm (fun x => cnt (bH G S x) 10) k)) + (nI (cnt (bH G S k) 10)))), some (.int ((nI k) + 1)), some (.int (mk (bH G S k)))], [], (xuI (xuI s 19 k (mk (bH G S k))) 20 k 0))) rfl ?_
      rw [jI_add, show sm (fun x => cnt (bH G S x) 10) k + cnt (bH G S k) 10 = sm (fun x => cnt (bH G S x) 10) (k + 1) from rfl, ← nI_succ]
      refine xQ.less [some (.ref 18), some (.ref 12), some (.int (mk S)), some (.int (nI (sm (fun x => cnt (bH G S x) 10) (k + 1)))), some (.int (nI (k + 1))), none] (by simp [xleb]) ?_
      refine K _ ⟨xkq_I (xkq_I i1 rfl) rfl, by simp [uI1, i2], by simp [uI1, i3], by simp [uI1, i4], fun v hv => ?_⟩
      simp only [uI1]
      simp
      by_cases e : v = k
      · rw [e]
        simp
      · simp only [if_neg e]
        exact ⟨(i5 v (by omega)).1, fun _ => (i5 v (by omega)).2⟩
    refine xQ.go 3 (F1 := (bif decide (10 ≤ (nI k)) then 90 else 32, [some (.ref 18), some (.ref 12), some (.int (mk S)), some (.int (nI (sm (fun x => cnt (bH G S x) 10) k))), some (.int (nI k)), none], [], s)) rfl ?_
    refine xQ.brF (decide_eq_false (nI_ge (b := 10) (by omega) (by omega))) ?_
    refine xQ.go 2 (F1 := (35, [some (.ref 18), some (.ref 12), some (.int (mk S)), some (.int (nI (sm (fun x => cnt (bH G S x) 10) k))), some (.int (nI k)), none], [.int (nI k), .int (mk S)], s)) rfl ?_
    refine xQ.call rfl (c_has (show k < 10 by omega)) ?_
    show xQ MX1_start (38, [some (.ref 18), some (.ref 12), some (.int (mk S)), some (.int (nI (sm (fun x => cnt (bH G S x) 10) k))), some (.int (nI k)), none], [.int (if S k then 1 else 0)], s) _
    refine xQ.go 1 (F1 := (bif decide ((if S k then 1 else 0) = 0) then 52 else 41, [some (.ref 18), some (.ref 12), some (.int (mk S)), some (.int (nI (sm (fun x => cnt (bH G S x) 10) k))), some (.int (nI k)), none], [], s)) rfl ?_
    cases hS : S k with
    | false =>
      refine xQ.brT (by decide) ?_
      refine xQ.go 1 (F1 := (53, [some (.ref 18), some (.ref 12), some (.int (mk S)), some (.int (nI (sm (fun x => cnt (bH G S x) 10) k))), some (.int (nI k)), none], [.int 0], s)) rfl ?_
      rw [show (0 : Int32) = mk (bH G S k) by rw [mk_0]; exact mk_ext fun v _ => by simp [bH, hS]] 
      exact com
    | true =>
      refine xQ.brF (by decide) ?_
      refine xQ.go 2 (F1 := (44, [some (.ref 18), some (.ref 12), some (.int (mk S)), some (.int (nI (sm (fun x => cnt (bH G S x) 10) k))), some (.int (nI k)), none], [.int (nI k), .ref 12], s)) rfl ?_
      refine xQ.call rfl (c_at rfl (by omega) (by omega)) ?_
      show xQ MX1_start (47, [some (.ref 18), some (.ref 12), some (.int (mk S)), some (.int (nI (sm (fun x => cnt (bH G S x) 10) k))), some (.int (nI k)), none], [.int (s.1 12 k)], s) _
      refine xQ.go 3 (F1 := (53, [some (.ref 18), some (.ref 12), some (.int (mk S)), some (.int (nI (sm (fun x => cnt (bH G S x) 10) k))), some (.int (nI k)), none], [.int ((s.1 12 k) &&& (mk S))], s)) rfl ?_
      rw [xkq_at i1 12 k, hw k (by omega), mk_and, show mk (fun v => G k v && S v) = mk (bH G S k) from mk_ext fun v _ => by simp [bH, hS]]
      exact com
  · intro s hI
    obtain ⟨i1, i2, i3, i4, i5⟩ := hI
    refine xQ.go 3 (F1 := (bif decide (10 ≤ (nI 10)) then 90 else 32, [some (.ref 18), some (.ref 12), some (.int (mk S)), some (.int (nI (sm (fun x => cnt (bH G S x) 10) 10))), some (.int (nI 10)), none], [], s)) rfl ?_
    refine xQ.brT (rfl) ?_
    refine xQ.go 4 (F1 := (94, [some (.ref 18), some (.ref 12), some (.int (mk S)), some (.int (nI (sm (fun x => cnt (bH G S x) 10) 10))), some (.int (nI 10)), none], [.int ((nI (sm (fun x => cnt (bH G S x) 10) 10)) / 2), .ref 18], s)) rfl ?_
    have he := ec_le hbs hbi
    rw [show nI (sm (fun x => cnt (bH G S x) 10) 10) / 2 = nI (ec (bH G S)) by rw [sm_even hbs hbi 10]; exact i_half he]
    refine xQ.go 1 (F1 := (97, [some (.ref 18), some (.ref 12), some (.int (mk S)), some (.int (nI (sm (fun x => cnt (bH G S x) 10) 10))), some (.int (nI 10)), none], [], (xuI s 18 4 (nI (ec (bH G S)))))) rfl ?_
    refine xQ.vret 1 rfl rfl ?_
    refine ⟨rfl, ⟨fun v hv => ?_, ?_, ?_⟩, ⟨fun v hv => ?_, ?_, ?_⟩, xkq_I (xkq_mono rfl i1) rfl⟩
    · simp [uI1, (i5 v hv).1]
    · simp [uI1, i2]
    · simp [uI1]
    · simp [uI1, (i5 v hv).2]
      exact mk_0
    · simp [uI1, i3]
      exact mk_0
    · simp [uI1, i4]
      rfl

theorem c_start_t {w : xW} {G : Nat → Nat → Bool} {S : Nat → Bool} (hg : gok G) (hw : ∀ v, v < 10 → w.1 26 v = mk (G v)) : xD MX1_start [.ref 32, .ref 26, .int (mk S)] w (fun r w1 => r = none ∧ eG 32 33 w1 (bH G S) S ∧ eP 32 34 w1 (fun _ _ => false) (fun _ => false) 0 ∧ xkq [(32, some 2), (32, some 3), (32, some 4), (32, some 5), (32, some 8), (33, none), (34, none)] w w1) := by
  have hbs : ∀ u v, bH G S u v = bH G S v u := fun u v => by
    show (_ && (_ && _)) = (_ && (_ && _))
    rw [hg.1, Bool.and_comm (S u)]
  have hbi : ∀ v, bH G S v v = false := fun v => by
    show (_ && _) = false
    rw [hg.2.1]
    rfl
  refine xD.of ?_
  show xQ MX1_start (0, [some (.ref 32), some (.ref 26), some (.int (mk S)), none, none, none], [], w) _
  refine xQ.go 16 (F1 := (25, [some (.ref 32), some (.ref 26), some (.int (mk S)), some (.int 0), some (.int 0), none], [], (xuI (xuI (xuI (xuI w 32 2 (mk S)) 32 3 0) 32 5 0) 32 8 0))) rfl ?_
  refine xQ.loop (S := xW) (fun k s => (25, [some (.ref 32), some (.ref 26), some (.int (mk S)), some (.int (nI (sm (fun x => cnt (bH G S x) 10) k))), some (.int (nI k)), none], [], s)) (fun k s => xkq [(32, some 2), (32, some 3), (32, some 5), (32, some 8), (33, none), (34, none)] w s ∧ s.1 32 2 = mk S ∧ s.1 32 3 = 0 ∧ s.1 32 5 = 0 ∧ ∀ v, v < k → s.1 33 v = mk (bH G S v) ∧ s.1 34 v = 0) 10 (xuI (xuI (xuI (xuI w 32 2 (mk S)) 32 3 0) 32 5 0) 32 8 0) (rfl) (⟨xkq_I (xkq_I (xkq_I (xkq_I xkq_rfl rfl) rfl) rfl) rfl, by simp [uI1], by simp [uI1], by simp [uI1], fun v hv => absurd hv (by omega)⟩) ?_ ?_
  · intro k s hk hI K
    obtain ⟨i1, i2, i3, i4, i5⟩ := hI
    have hsm := sm_le10 (f := fun x => cnt (bH G S x) 10) (fun i _ => cnt_le _ _) k (by omega)
    have com : xQ MX1_start (53, [some (.ref 32), some (.ref 26), some (.int (mk S)), some (.int (nI (sm (fun x => cnt (bH G S x) 10) k))), some (.int (nI k)), none], [.int (mk (bH G S k))], s) (fun r w1 => r = none ∧ eG 32 33 w1 (bH G S) S ∧ eP 32 34 w1 (fun _ _ => false) (fun _ => false) 0 ∧ xkq [(32, some 2), (32, some 3), (32, some 4), (32, some 5), (32, some 8), (33, none), (34, none)] w w1) := by
      refine xQ.go 5 (F1 := (63, [some (.ref 32), some (.ref 26), some (.int (mk S)), some (.int (nI (sm (fun x => cnt (bH G S x) 10) k))), some (.int (nI k)), some (.int (mk (bH G S k)))], [.int (mk (bH G S k)), .int (nI k), .ref 33], s)) rfl ?_
      refine xQ.call rfl (c_put rfl (by omega) (by omega)) ?_
      show xQ MX1_start (66, [some (.ref 32), some (.ref 26), some (.int (mk S)), some (.int (nI (sm (fun x => cnt (bH G S x) 10) k))), some (.int (nI k)), some (.int (mk (bH G S k)))], [], (xuI s 33 k (mk (bH G S k)))) _
      refine xQ.go 4 (F1 := (73, [some (.ref 32), some (.ref 26), some (.int (mk S)), some (.int (nI (sm (fun x => cnt (bH G S x) 10) k))), some (.int (nI k)), some (.int (mk (bH G S k)))], [.int 0, .int (nI k), .ref 34], (xuI s 33 k (mk (bH G S k))))) rfl ?_
      refine xQ.call rfl (c_put rfl (by omega) (by omega)) ?_
      show xQ MX1_start (76, [some (.ref 32), some (.ref 26), some (.int (mk S)), some (.int (nI (sm (fun x => cnt (bH G S x) 10) k))), some (.int (nI k)), some (.int (mk (bH G S k)))], [], (xuI (xuI s 33 k (mk (bH G S k))) 34 k 0)) _
      refine xQ.go 2 (F1 := (79, [some (.ref 32), some (.ref 26), some (.int (mk S)), some (.int (nI (sm (fun x => cnt (bH G S x) 10) k))), some (.int (nI k)), some (.int (mk (bH G S k)))], [.int (mk (bH G S k)), .int (nI (sm (fun x => cnt (bH G S x) 10) k))], (xuI (xuI s 33 k (mk (bH G S k))) 34 k 0))) rfl ?_
      refine xQ.call rfl (c_ones) ?_
      show xQ MX1_start (82, [some (.ref 32), some (.ref 26), some (.int (mk S)), some (.int (nI (sm (fun x => cnt (bH G S x) 10) k))), some (.int (nI k)), some (.int (mk (bH G S k)))], [.int (nI (cnt (bH G S k) 10)), .int (nI (sm (fun x => cnt (bH G S x) 10) k))], (xuI (xuI s 33 k (mk (bH G S k))) 34 k 0)) _
      refine xQ.go 4 (F1 := (25, [some (.ref 32), some (.ref 26), some (.int (mk S)), some (.int ((nI (sm (fun x => cnt (bH G S x) 10) k)) + (nI (cnt (bH G S k) 10)))), some (.int ((nI k) + 1)), some (.int (mk (bH G S k)))], [], (xuI (xuI s 33 k (mk (bH G S k))) 34 k 0))) rfl ?_
      rw [jI_add, show sm (fun x => cnt (bH G S x) 10) k + cnt (bH G S k) 10 = sm (fun x => cnt (bH G S x) 10) (k + 1) from rfl, ← nI_succ]
      refine xQ.less [some (.ref 32), some (.ref 26), some (.int (mk S)), some (.int (nI (sm (fun x => cnt (bH G S x) 10) (k + 1)))), some (.int (nI (k + 1))), none] (by simp [xleb]) ?_
      refine K _ ⟨xkq_I (xkq_I i1 rfl) rfl, by simp [uI1, i2], by simp [uI1, i3], by simp [uI1, i4], fun v hv => ?_⟩
      simp only [uI1]
      simp
      by_cases e : v = k
      · rw [e]
        simp
      · simp only [if_neg e]
        exact ⟨(i5 v (by omega)).1, fun _ => (i5 v (by omega)).2⟩
    refine xQ.go 3 (F1 := (bif decide (10 ≤ (nI k)) then 90 else 32, [some (.ref 32), some (.ref 26), some (.int (mk S)), some (.int (nI (sm (fun x => cnt (bH G S x) 10) k))), some (.int (nI k)), none], [], s)) rfl ?_
    refine xQ.brF (decide_eq_false (nI_ge (b := 10) (by omega) (by omega))) ?_
    refine xQ.go 2 (F1 := (35, [some (.ref 32), some (.ref 26), some (.int (mk S)), some (.int (nI (sm (fun x => cnt (bH G S x) 10) k))), some (.int (nI k)), none], [.int (nI k), .int (mk S)], s)) rfl ?_
    refine xQ.call rfl (c_has (show k < 10 by omega)) ?_
    show xQ MX1_start (38, [some (.ref 32), some (.ref 26), some (.int (mk S)), some (.int (nI (sm (fun x => cnt (bH G S x) 10) k))), some (.int (nI k)), none], [.int (if S k then 1 else 0)], s) _
    refine xQ.go 1 (F1 := (bif decide ((if S k then 1 else 0) = 0) then 52 else 41, [some (.ref 32), some (.ref 26), some (.int (mk S)), some (.int (nI (sm (fun x => cnt (bH G S x) 10) k))), some (.int (nI k)), none], [], s)) rfl ?_
    cases hS : S k with
    | false =>
      refine xQ.brT (by decide) ?_
      refine xQ.go 1 (F1 := (53, [some (.ref 32), some (.ref 26), some (.int (mk S)), some (.int (nI (sm (fun x => cnt (bH G S x) 10) k))), some (.int (nI k)), none], [.int 0], s)) rfl ?_
      rw [show (0 : Int32) = mk (bH G S k) by rw [mk_0]; exact mk_ext fun v _ => by simp [bH, hS]] 
      exact com
    | true =>
      refine xQ.brF (by decide) ?_
      refine xQ.go 2 (F1 := (44, [some (.ref 32), some (.ref 26), some (.int (mk S)), some (.int (nI (sm (fun x => cnt (bH G S x) 10) k))), some (.int (nI k)), none], [.int (nI k), .ref 26], s)) rfl ?_
      refine xQ.call rfl (c_at rfl (by omega) (by omega)) ?_
      show xQ MX1_start (47, [some (.ref 32), some (.ref 26), some (.int (mk S)), some (.int (nI (sm (fun x => cnt (bH G S x) 10) k))), some (.int (nI k)), none], [.int (s.1 26 k)], s) _
      refine xQ.go 3 (F1 := (53, [some (.ref 32), some (.ref 26), some (.int (mk S)), some (.int (nI (sm (fun x => cnt (bH G S x) 10) k))), some (.int (nI k)), none], [.int ((s.1 26 k) &&& (mk S))], s)) rfl ?_
      rw [xkq_at i1 26 k, hw k (by omega), mk_and, show mk (fun v => G k v && S v) = mk (bH G S k) from mk_ext fun v _ => by simp [bH, hS]]
      exact com
  · intro s hI
    obtain ⟨i1, i2, i3, i4, i5⟩ := hI
    refine xQ.go 3 (F1 := (bif decide (10 ≤ (nI 10)) then 90 else 32, [some (.ref 32), some (.ref 26), some (.int (mk S)), some (.int (nI (sm (fun x => cnt (bH G S x) 10) 10))), some (.int (nI 10)), none], [], s)) rfl ?_
    refine xQ.brT (rfl) ?_
    refine xQ.go 4 (F1 := (94, [some (.ref 32), some (.ref 26), some (.int (mk S)), some (.int (nI (sm (fun x => cnt (bH G S x) 10) 10))), some (.int (nI 10)), none], [.int ((nI (sm (fun x => cnt (bH G S x) 10) 10)) / 2), .ref 32], s)) rfl ?_
    have he := ec_le hbs hbi
    rw [show nI (sm (fun x => cnt (bH G S x) 10) 10) / 2 = nI (ec (bH G S)) by rw [sm_even hbs hbi 10]; exact i_half he]
    refine xQ.go 1 (F1 := (97, [some (.ref 32), some (.ref 26), some (.int (mk S)), some (.int (nI (sm (fun x => cnt (bH G S x) 10) 10))), some (.int (nI 10)), none], [], (xuI s 32 4 (nI (ec (bH G S)))))) rfl ?_
    refine xQ.vret 1 rfl rfl ?_
    refine ⟨rfl, ⟨fun v hv => ?_, ?_, ?_⟩, ⟨fun v hv => ?_, ?_, ?_⟩, xkq_I (xkq_mono rfl i1) rfl⟩
    · simp [uI1, (i5 v hv).1]
    · simp [uI1, i2]
    · simp [uI1]
    · simp [uI1, (i5 v hv).2]
      exact mk_0
    · simp [uI1, i3]
      exact mk_0
    · simp [uI1, i4]
      rfl
