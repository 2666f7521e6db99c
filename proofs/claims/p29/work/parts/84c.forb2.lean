/-! isForbidden's end -/
theorem FORB_some {F : xG} (hg : gok F) (hF : FORB F) {v : Nat} (hv : bV F v = true) : ∃ z, z < 10 ∧ enS F (bV F) v z = true := by
  rcases hF.2 with ⟨h5, h⟩ | ⟨h6, h⟩
  · obtain ⟨h1, h2⟩ := h v hv
    refine Classical.byContradiction fun hno => ?_
    have hle : cnt (bV F) 10 ≤ cnt (fun u => decide (u = v)) 10 := cnt_mono fun z hz hb => by
      cases e : decide (z = v) with
      | true => rfl
      | false => exact absurd ⟨z, hz, by rw [h2 z, hb, e]; rfl⟩ hno
    rw [cnt_eq] at hle
    split at hle <;> omega
  · obtain ⟨h1, h2, h3⟩ := h v hv
    refine Classical.byContradiction fun hno => ?_
    have : cnt (enS F (bV F) v) 10 = cnt (fun _ => false) 10 := cnt_ext fun z hz => by
      cases e : enS F (bV F) v z with
      | false => rfl
      | true => exact absurd ⟨z, hz, e⟩ hno
    rw [cnt_no] at this
    omega
def fbV (F : xG) : Nat → Int32
  | 0 => nI (ec F)
  | 1 => mk (fun v => decide (0 < cnt (F v) 10))
  | 2 => mk (bV F)
  | _ => nI (cnt (bV F) 10)
theorem qForb_at {A : xAb} {k : Nat} (hf : fl A.1.1 = false) (hk : k < 4) : qForb A (nI k) = fbV (gr (obs A.1.1 100)) k := by
  unfold qForb
  rw [kI_of hk (by omega)]
  dsimp only
  rw [if_neg (by rw [hf]; exact Bool.false_ne_true)]
  rcases k with _ | _ | _ | k
  · rfl
  · rfl
  · rfl
  · rfl
set_option maxRecDepth 10000 in
theorem c_f5 {w : xW} {A : xAb} {Q : Option Value → xW → Prop} {x3 x4 x5 x6 : Int32} (hI : cI w A) (hf : fl A.1.1 = false) (K0 : ∀ w1, cI w1 A → xkq kC w w1 → Q (some (.int 1)) w1) : xQ ML_isForbidden (397, [some (.ref 0), some (.ref 45), some (.ref 47), some (.int x3), some (.int x4), some (.int x5), some (.int x6), none, none, none, none], [], w) Q := by
  have hnf : ¬ fl A.1.1 = true := by rw [hf]; exact Bool.false_ne_true
  obtain ⟨r1, w1, hc1, hr1, i1, kq1⟩ := C_walks hI
  subst hr1
  rw [show qWalks A = -4 from if_neg hnf] at hc1
  refine xQ.go 1 (F1 := (398, [some (.ref 0), some (.ref 45), some (.ref 47), some (.int x3), some (.int x4), some (.int x5), some (.int x6), none, none, none, none], [.ref 0], w)) rfl ?_
  refine xQ.call rfl (hc1) ?_
  show xQ ML_isForbidden (401, [some (.ref 0), some (.ref 45), some (.ref 47), some (.int x3), some (.int x4), some (.int x5), some (.int x6), none, none, none, none], [.int (-4)], w1) _
  refine xQ.go 2 (F1 := (bif !decide ((-4) = (-4)) then 441 else 406, [some (.ref 0), some (.ref 45), some (.ref 47), some (.int x3), some (.int x4), some (.int x5), some (.int x6), none, none, none, none], [], w1)) rfl ?_
  refine xQ.brF (by decide) ?_
  obtain ⟨r1, w2, hc2, hr1, i2, kq2⟩ := C_wlen (x := 0) i1
  subst hr1
  rw [show qWLen A 0 = -4 from if_neg hnf] at hc2
  refine xQ.go 2 (F1 := (408, [some (.ref 0), some (.ref 45), some (.ref 47), some (.int x3), some (.int x4), some (.int x5), some (.int x6), none, none, none, none], [.int 0, .ref 0], w1)) rfl ?_
  refine xQ.call rfl (hc2) ?_
  show xQ ML_isForbidden (411, [some (.ref 0), some (.ref 45), some (.ref 47), some (.int x3), some (.int x4), some (.int x5), some (.int x6), none, none, none, none], [.int (-4)], w2) _
  refine xQ.go 2 (F1 := (bif !decide ((-4) = (-4)) then 441 else 416, [some (.ref 0), some (.ref 45), some (.ref 47), some (.int x3), some (.int x4), some (.int x5), some (.int x6), none, none, none, none], [], w2)) rfl ?_
  refine xQ.brF (by decide) ?_
  obtain ⟨r1, w3, hc3, hr1, i3, kq3⟩ := C_wvert (x := 0) (y := 0) i2
  subst hr1
  rw [show qWVert A 0 0 = -4 from if_neg hnf] at hc3
  refine xQ.go 3 (F1 := (419, [some (.ref 0), some (.ref 45), some (.ref 47), some (.int x3), some (.int x4), some (.int x5), some (.int x6), none, none, none, none], [.int 0, .int 0, .ref 0], w2)) rfl ?_
  refine xQ.call rfl (hc3) ?_
  show xQ ML_isForbidden (422, [some (.ref 0), some (.ref 45), some (.ref 47), some (.int x3), some (.int x4), some (.int x5), some (.int x6), none, none, none, none], [.int (-4)], w3) _
  refine xQ.go 2 (F1 := (bif !decide ((-4) = (-4)) then 441 else 427, [some (.ref 0), some (.ref 45), some (.ref 47), some (.int x3), some (.int x4), some (.int x5), some (.int x6), none, none, none, none], [], w3)) rfl ?_
  refine xQ.brF (by decide) ?_
  obtain ⟨r1, w4, hc4, hr1, i4, kq4⟩ := C_forb (x := 4) i3
  subst hr1
  rw [show qForb A 4 = -2 by unfold qForb; rw [show (4 : Int32) = nI 4 from rfl, kI_n (Nat.le_refl 4) (by omega)]] at hc4
  refine xQ.go 2 (F1 := (429, [some (.ref 0), some (.ref 45), some (.ref 47), some (.int x3), some (.int x4), some (.int x5), some (.int x6), none, none, none, none], [.int 4, .ref 0], w3)) rfl ?_
  refine xQ.call rfl (hc4) ?_
  show xQ ML_isForbidden (432, [some (.ref 0), some (.ref 45), some (.ref 47), some (.int x3), some (.int x4), some (.int x5), some (.int x6), none, none, none, none], [.int (-2)], w4) _
  refine xQ.go 2 (F1 := (bif !decide ((-2) = (-2)) then 441 else 437, [some (.ref 0), some (.ref 45), some (.ref 47), some (.int x3), some (.int x4), some (.int x5), some (.int x6), none, none, none, none], [], w4)) rfl ?_
  refine xQ.brF (by decide) ?_
  refine xQ.go 2 (F1 := (442, [some (.ref 0), some (.ref 45), some (.ref 47), some (.int x3), some (.int x4), some (.int x5), some (.int x6), none, none, none, none], [.int 1], w4)) rfl ?_
  refine xQ.iret .boolean 1 rfl rfl (rfl) ?_
  exact K0 w4 i4 (xkq_trans kq1 (xkq_trans kq2 (xkq_trans kq3 kq4)))
theorem v4_all (F : xG) : mk (v4 F 10) = mk (bV F) := mk_ext fun u hu => by unfold v4; rw [decide_eq_true hu, Bool.true_and]
theorem v3_all (F : xG) : mk (v3 F 10) = mk (fun v => decide (0 < cnt (F v) 10)) := mk_ext fun u hu => by unfold v3; rw [decide_eq_true hu, Bool.true_and]
set_option maxRecDepth 10000 in
theorem c_f4 {w : xW} {F : xG} {Q : Option Value → xW → Prop} {x3 x5 : Int32} (hg : gok F) (hF : gF w F) (hB : FORB F) (K0 : xQ ML_isForbidden (397, [some (.ref 0), some (.ref 45), some (.ref 47), some (.int x3), some (.int (mk (bV F))), some (.int x5), some (.int (nI (cnt (bV F) 10))), none, none, none, none], [], w) Q) : xQ ML_isForbidden (266, [some (.ref 0), some (.ref 45), some (.ref 47), some (.int x3), some (.int (mk (bV F))), some (.int x5), some (.int (nI (cnt (bV F) 10))), none, none, none, none], [], w) Q := by
  have hB1 := hB.1
  have hc10 := cnt_le (bV F) 10
  refine xQ.go 2 (F1 := (269, [some (.ref 0), some (.ref 45), some (.ref 47), some (.int x3), some (.int (mk (bV F))), some (.int x5), some (.int (nI (cnt (bV F) 10))), some (.int 0), none, none, none], [], w)) rfl ?_
  refine xQ.loop (S := Unit) (fun k s => (269, [some (.ref 0), some (.ref 45), some (.ref 47), some (.int x3), some (.int (mk (bV F))), some (.int x5), some (.int (nI (cnt (bV F) 10))), some (.int (nI k)), none, none, none], [], w)) (fun _ _ => True) 10 () (rfl) (trivial) ?_ ?_
  · intro k s hk hI K
    have K := K () trivial
    refine xQ.go 3 (F1 := (bif decide (10 ≤ (nI k)) then 397 else 276, [some (.ref 0), some (.ref 45), some (.ref 47), some (.int x3), some (.int (mk (bV F))), some (.int x5), some (.int (nI (cnt (bV F) 10))), some (.int (nI k)), none, none, none], [], w)) rfl ?_
    refine xQ.brF (decide_eq_false (nI_ge (b := 10) (by omega) (by omega))) ?_
    refine xQ.go 7 (F1 := (bif !decide ((((mk (bV F)) >>> ((nI k) &&& 31)) &&& 1) = 1) then 391 else 287, [some (.ref 0), some (.ref 45), some (.ref 47), some (.int x3), some (.int (mk (bV F))), some (.int x5), some (.int (nI (cnt (bV F) 10))), some (.int (nI k)), none, none, none], [], w)) rfl ?_
    rw [mk_get _ hk]
    cases hb : bV F k with
    | false =>
      refine xQ.brT (by decide) ?_
      refine xQ.go 2 (F1 := (269, [some (.ref 0), some (.ref 45), some (.ref 47), some (.int x3), some (.int (mk (bV F))), some (.int x5), some (.int (nI (cnt (bV F) 10))), some (.int ((nI k) + 1)), none, none, none], [], w)) rfl ?_
      rw [← nI_succ]
      exact K
    | true =>
      refine xQ.brF (by decide) ?_
      obtain ⟨z, hz, hz1⟩ := FORB_some hg hB hb
      refine xQ.go 3 (F1 := (292, [some (.ref 0), some (.ref 45), some (.ref 47), some (.int x3), some (.int (mk (bV F))), some (.int x5), some (.int (nI (cnt (bV F) 10))), some (.int (nI k)), none, none, none], [.ref 47, .int (mk (bV F)), .int (nI k)], w)) rfl ?_
      refine xQ.call rfl (c_ends hk hg hB1 hF) ?_
      show xQ ML_isForbidden (295, [some (.ref 0), some (.ref 45), some (.ref 47), some (.int x3), some (.int (mk (bV F))), some (.int x5), some (.int (nI (cnt (bV F) 10))), some (.int (nI k)), none, none, none], [.int (mk (enS F (bV F) k))], w) _
      have hlt := (low_some hz hz1).1
      refine xQ.go 2 (F1 := (299, [some (.ref 0), some (.ref 45), some (.ref 47), some (.int x3), some (.int (mk (bV F))), some (.int x5), some (.int (nI (cnt (bV F) 10))), some (.int (nI k)), some (.int (mk (enS F (bV F) k))), none, none], [.int (mk (enS F (bV F) k))], w)) rfl ?_
      refine xQ.call rfl (c_lowest hz hz1) ?_
      show xQ ML_isForbidden (302, [some (.ref 0), some (.ref 45), some (.ref 47), some (.int x3), some (.int (mk (bV F))), some (.int x5), some (.int (nI (cnt (bV F) 10))), some (.int (nI k)), some (.int (mk (enS F (bV F) k))), none, none], [.int (nI (low (enS F (bV F) k)))], w) _
      refine xQ.go 2 (F1 := (305, [some (.ref 0), some (.ref 45), some (.ref 47), some (.int x3), some (.int (mk (bV F))), some (.int x5), some (.int (nI (cnt (bV F) 10))), some (.int (nI k)), some (.int (mk (enS F (bV F) k))), none, none], [.ref 47, .int (mk (bV F)), .int (nI (low (enS F (bV F) k)))], w)) rfl ?_
      refine xQ.call rfl (c_ends hlt hg hB1 hF) ?_
      show xQ ML_isForbidden (308, [some (.ref 0), some (.ref 45), some (.ref 47), some (.int x3), some (.int (mk (bV F))), some (.int x5), some (.int (nI (cnt (bV F) 10))), some (.int (nI k)), some (.int (mk (enS F (bV F) k))), none, none], [.int (mk (enS F (bV F) (low (enS F (bV F) k))))], w) _
      have hcf := cnt_le (F k) 10
      have hce := cnt_le (enS F (bV F) k) 10
      refine xQ.go 4 (F1 := (bif !decide ((nI (cnt (bV F) 10)) = 5) then 347 else 316, [some (.ref 0), some (.ref 45), some (.ref 47), some (.int x3), some (.int (mk (bV F))), some (.int x5), some (.int (nI (cnt (bV F) 10))), some (.int (nI k)), some (.int (mk (enS F (bV F) k))), some (.int (mk (enS F (bV F) (low (enS F (bV F) k))))), none], [], w)) rfl ?_
      rcases hB.2 with ⟨h5, h⟩ | ⟨h6, h⟩
      · obtain ⟨e1, e2⟩ := h k hb
        refine xQ.brF (by rw [h5]; decide) ?_
        refine xQ.go 2 (F1 := (319, [some (.ref 0), some (.ref 45), some (.ref 47), some (.int x3), some (.int (mk (bV F))), some (.int x5), some (.int (nI (cnt (bV F) 10))), some (.int (nI k)), some (.int (mk (enS F (bV F) k))), some (.int (mk (enS F (bV F) (low (enS F (bV F) k))))), none], [.int (nI k), .ref 47], w)) rfl ?_
        refine xQ.iald rfl (k := k) (rfl) (⟨by omega, by omega⟩) rfl ?_
        show xQ ML_isForbidden (320, [some (.ref 0), some (.ref 45), some (.ref 47), some (.int x3), some (.int (mk (bV F))), some (.int x5), some (.int (nI (cnt (bV F) 10))), some (.int (nI k)), some (.int (mk (enS F (bV F) k))), some (.int (mk (enS F (bV F) (low (enS F (bV F) k))))), none], [.int (w.1 47 k)], w) _
        rw [hF k hk]
        refine xQ.call rfl (c_lones) ?_
        show xQ ML_isForbidden (323, [some (.ref 0), some (.ref 45), some (.ref 47), some (.int x3), some (.int (mk (bV F))), some (.int x5), some (.int (nI (cnt (bV F) 10))), some (.int (nI k)), some (.int (mk (enS F (bV F) k))), some (.int (mk (enS F (bV F) (low (enS F (bV F) k))))), none], [.int (nI (cnt (F k) 10))], w) _
        refine xQ.go 2 (F1 := (bif !decide ((nI (cnt (F k) 10)) = 4) then 343 else 327, [some (.ref 0), some (.ref 45), some (.ref 47), some (.int x3), some (.int (mk (bV F))), some (.int x5), some (.int (nI (cnt (bV F) 10))), some (.int (nI k)), some (.int (mk (enS F (bV F) k))), some (.int (mk (enS F (bV F) (low (enS F (bV F) k))))), none], [], w)) rfl ?_
        refine xQ.brF (by rw [e1]; decide) ?_
        refine xQ.go 5 (F1 := (335, [some (.ref 0), some (.ref 45), some (.ref 47), some (.int x3), some (.int (mk (bV F))), some (.int x5), some (.int (nI (cnt (bV F) 10))), some (.int (nI k)), some (.int (mk (enS F (bV F) k))), some (.int (mk (enS F (bV F) (low (enS F (bV F) k))))), none], [.int (1 <<< ((nI k) &&& 31)), .int (mk (bV F)), .int (mk (enS F (bV F) k))], w)) rfl ?_
        rw [mk_bit hk]
        refine xQ.go 1 (F1 := (336, [some (.ref 0), some (.ref 45), some (.ref 47), some (.int x3), some (.int (mk (bV F))), some (.int x5), some (.int (nI (cnt (bV F) 10))), some (.int (nI k)), some (.int (mk (enS F (bV F) k))), some (.int (mk (enS F (bV F) (low (enS F (bV F) k))))), none], [.int ((mk (bV F)) ^^^ (mk (fun u => decide (u = k)))), .int (mk (enS F (bV F) k))], w)) rfl ?_
        rw [mk_xor, show mk (fun v => bV F v ^^ decide (v = k)) = mk (enS F (bV F) k) from mk_ext fun u _ => (e2 u).symm]
        refine xQ.go 1 (F1 := (bif !decide ((mk (enS F (bV F) k)) = (mk (enS F (bV F) k))) then 343 else 339, [some (.ref 0), some (.ref 45), some (.ref 47), some (.int x3), some (.int (mk (bV F))), some (.int x5), some (.int (nI (cnt (bV F) 10))), some (.int (nI k)), some (.int (mk (enS F (bV F) k))), some (.int (mk (enS F (bV F) (low (enS F (bV F) k))))), none], [], w)) rfl ?_
        refine xQ.brF (by simp) ?_
        refine xQ.go 5 (F1 := (bif !decide (1 = 0) then 391 else 389, [some (.ref 0), some (.ref 45), some (.ref 47), some (.int x3), some (.int (mk (bV F))), some (.int x5), some (.int (nI (cnt (bV F) 10))), some (.int (nI k)), some (.int (mk (enS F (bV F) k))), some (.int (mk (enS F (bV F) (low (enS F (bV F) k))))), some (.int 1)], [], w)) rfl ?_
        refine xQ.brT (by decide) ?_
        refine xQ.go 2 (F1 := (269, [some (.ref 0), some (.ref 45), some (.ref 47), some (.int x3), some (.int (mk (bV F))), some (.int x5), some (.int (nI (cnt (bV F) 10))), some (.int ((nI k) + 1)), some (.int (mk (enS F (bV F) k))), some (.int (mk (enS F (bV F) (low (enS F (bV F) k))))), some (.int 1)], [], w)) rfl ?_
        rw [← nI_succ]
        refine xQ.less [some (.ref 0), some (.ref 45), some (.ref 47), some (.int x3), some (.int (mk (bV F))), some (.int x5), some (.int (nI (cnt (bV F) 10))), some (.int (nI (k + 1))), none, none, none] (by simp [xleb]) ?_
        exact K
      · obtain ⟨e1, e2, e3⟩ := h k hb
        refine xQ.brT (by rw [h6]; decide) ?_
        refine xQ.go 2 (F1 := (350, [some (.ref 0), some (.ref 45), some (.ref 47), some (.int x3), some (.int (mk (bV F))), some (.int x5), some (.int (nI (cnt (bV F) 10))), some (.int (nI k)), some (.int (mk (enS F (bV F) k))), some (.int (mk (enS F (bV F) (low (enS F (bV F) k))))), none], [.int (nI k), .ref 47], w)) rfl ?_
        refine xQ.iald rfl (k := k) (rfl) (⟨by omega, by omega⟩) rfl ?_
        show xQ ML_isForbidden (351, [some (.ref 0), some (.ref 45), some (.ref 47), some (.int x3), some (.int (mk (bV F))), some (.int x5), some (.int (nI (cnt (bV F) 10))), some (.int (nI k)), some (.int (mk (enS F (bV F) k))), some (.int (mk (enS F (bV F) (low (enS F (bV F) k))))), none], [.int (w.1 47 k)], w) _
        rw [hF k hk]
        refine xQ.call rfl (c_lones) ?_
        show xQ ML_isForbidden (354, [some (.ref 0), some (.ref 45), some (.ref 47), some (.int x3), some (.int (mk (bV F))), some (.int x5), some (.int (nI (cnt (bV F) 10))), some (.int (nI k)), some (.int (mk (enS F (bV F) k))), some (.int (mk (enS F (bV F) (low (enS F (bV F) k))))), none], [.int (nI (cnt (F k) 10))], w) _
        refine xQ.go 2 (F1 := (bif !decide ((nI (cnt (F k) 10)) = 3) then 381 else 358, [some (.ref 0), some (.ref 45), some (.ref 47), some (.int x3), some (.int (mk (bV F))), some (.int x5), some (.int (nI (cnt (bV F) 10))), some (.int (nI k)), some (.int (mk (enS F (bV F) k))), some (.int (mk (enS F (bV F) (low (enS F (bV F) k))))), none], [], w)) rfl ?_
        refine xQ.brF (by rw [e1]; decide) ?_
        refine xQ.go 1 (F1 := (360, [some (.ref 0), some (.ref 45), some (.ref 47), some (.int x3), some (.int (mk (bV F))), some (.int x5), some (.int (nI (cnt (bV F) 10))), some (.int (nI k)), some (.int (mk (enS F (bV F) k))), some (.int (mk (enS F (bV F) (low (enS F (bV F) k))))), none], [.int (mk (enS F (bV F) k))], w)) rfl ?_
        refine xQ.call rfl (c_lones) ?_
        show xQ ML_isForbidden (363, [some (.ref 0), some (.ref 45), some (.ref 47), some (.int x3), some (.int (mk (bV F))), some (.int x5), some (.int (nI (cnt (bV F) 10))), some (.int (nI k)), some (.int (mk (enS F (bV F) k))), some (.int (mk (enS F (bV F) (low (enS F (bV F) k))))), none], [.int (nI (cnt (enS F (bV F) k) 10))], w) _
        refine xQ.go 2 (F1 := (bif !decide ((nI (cnt (enS F (bV F) k) 10)) = 3) then 381 else 367, [some (.ref 0), some (.ref 45), some (.ref 47), some (.int x3), some (.int (mk (bV F))), some (.int x5), some (.int (nI (cnt (bV F) 10))), some (.int (nI k)), some (.int (mk (enS F (bV F) k))), some (.int (mk (enS F (bV F) (low (enS F (bV F) k))))), none], [], w)) rfl ?_
        refine xQ.brF (by rw [e2]; decide) ?_
        refine xQ.go 4 (F1 := (374, [some (.ref 0), some (.ref 45), some (.ref 47), some (.int x3), some (.int (mk (bV F))), some (.int x5), some (.int (nI (cnt (bV F) 10))), some (.int (nI k)), some (.int (mk (enS F (bV F) k))), some (.int (mk (enS F (bV F) (low (enS F (bV F) k))))), none], [.int ((mk (bV F)) ^^^ (mk (enS F (bV F) k))), .int (mk (enS F (bV F) (low (enS F (bV F) k))))], w)) rfl ?_
        rw [mk_xor, show mk (fun v => bV F v ^^ enS F (bV F) k v) = mk (enS F (bV F) (low (enS F (bV F) k))) from mk_ext fun u _ => (e3 u).symm]
        refine xQ.go 1 (F1 := (bif !decide ((mk (enS F (bV F) (low (enS F (bV F) k)))) = (mk (enS F (bV F) (low (enS F (bV F) k))))) then 381 else 377, [some (.ref 0), some (.ref 45), some (.ref 47), some (.int x3), some (.int (mk (bV F))), some (.int x5), some (.int (nI (cnt (bV F) 10))), some (.int (nI k)), some (.int (mk (enS F (bV F) k))), some (.int (mk (enS F (bV F) (low (enS F (bV F) k))))), none], [], w)) rfl ?_
        refine xQ.brF (by simp) ?_
        refine xQ.go 5 (F1 := (bif !decide (1 = 0) then 391 else 389, [some (.ref 0), some (.ref 45), some (.ref 47), some (.int x3), some (.int (mk (bV F))), some (.int x5), some (.int (nI (cnt (bV F) 10))), some (.int (nI k)), some (.int (mk (enS F (bV F) k))), some (.int (mk (enS F (bV F) (low (enS F (bV F) k))))), some (.int 1)], [], w)) rfl ?_
        refine xQ.brT (by decide) ?_
        refine xQ.go 2 (F1 := (269, [some (.ref 0), some (.ref 45), some (.ref 47), some (.int x3), some (.int (mk (bV F))), some (.int x5), some (.int (nI (cnt (bV F) 10))), some (.int ((nI k) + 1)), some (.int (mk (enS F (bV F) k))), some (.int (mk (enS F (bV F) (low (enS F (bV F) k))))), some (.int 1)], [], w)) rfl ?_
        rw [← nI_succ]
        refine xQ.less [some (.ref 0), some (.ref 45), some (.ref 47), some (.int x3), some (.int (mk (bV F))), some (.int x5), some (.int (nI (cnt (bV F) 10))), some (.int (nI (k + 1))), none, none, none] (by simp [xleb]) ?_
        exact K
  · intro s hI
    refine xQ.go 3 (F1 := (bif decide (10 ≤ (nI 10)) then 397 else 276, [some (.ref 0), some (.ref 45), some (.ref 47), some (.int x3), some (.int (mk (bV F))), some (.int x5), some (.int (nI (cnt (bV F) 10))), some (.int (nI 10)), none, none, none], [], w)) rfl ?_
    refine xQ.brT (rfl) ?_
    refine xQ.less [some (.ref 0), some (.ref 45), some (.ref 47), some (.int x3), some (.int (mk (bV F))), some (.int x5), some (.int (nI (cnt (bV F) 10))), none, none, none, none] (by simp [xleb]) ?_
    exact K0
set_option maxRecDepth 10000 in
theorem c_f3 {w : xW} {A : xAb} {F : xG} {Q : Option Value → xW → Prop} (hI : cI w A) (hf : fl A.1.1 = false) (hFe : F = gr (obs A.1.1 100)) (hB : FORB F) (K0 : ∀ w1, cI w1 A → xkq kC w w1 → xQ ML_isForbidden (266, [some (.ref 0), some (.ref 45), some (.ref 47), some (.int (mk (v3 F 10))), some (.int (mk (bV F))), some (.int (nI (sm (fun x => cnt (F x) 10) 10))), some (.int (nI (cnt (bV F) 10))), none, none, none, none], [], w1) Q) : xQ ML_isForbidden (203, [some (.ref 0), some (.ref 45), some (.ref 47), some (.int (mk (v3 F 10))), some (.int (mk (v4 F 10))), some (.int (nI (sm (fun x => cnt (F x) 10) 10))), none, none, none, none, none], [], w) Q := by
  have hg : gok F := by rw [hFe]; exact gr_gok _
  have hb : ∀ k, sm (fun x => cnt (F x) 10) k ≤ 10 * k := sm_cle' (fun i => cnt_le _ _)
  rw [v4_all]
  refine xQ.go 1 (F1 := (205, [some (.ref 0), some (.ref 45), some (.ref 47), some (.int (mk (v3 F 10))), some (.int (mk (bV F))), some (.int (nI (sm (fun x => cnt (F x) 10) 10))), none, none, none, none, none], [.int (mk (bV F))], w)) rfl ?_
  refine xQ.call rfl (c_lones) ?_
  show xQ ML_isForbidden (208, [some (.ref 0), some (.ref 45), some (.ref 47), some (.int (mk (v3 F 10))), some (.int (mk (bV F))), some (.int (nI (sm (fun x => cnt (F x) 10) 10))), none, none, none, none, none], [.int (nI (cnt (bV F) 10))], w) _
  have hc10 := cnt_le (bV F) 10
  have rest : xQ ML_isForbidden (223, [some (.ref 0), some (.ref 45), some (.ref 47), some (.int (mk (v3 F 10))), some (.int (mk (bV F))), some (.int (nI (sm (fun x => cnt (F x) 10) 10))), some (.int (nI (cnt (bV F) 10))), none, none, none, none], [], w) Q := by
    obtain ⟨r1, w1, hc1, hr1, i1, kq1⟩ := C_forb (x := 0) hI
    subst hr1
    rw [show qForb A 0 = nI (ec F) from (qForb_at (k := 0) hf (by omega)).trans (by rw [hFe]; rfl)] at hc1
    refine xQ.go 2 (F1 := (225, [some (.ref 0), some (.ref 45), some (.ref 47), some (.int (mk (v3 F 10))), some (.int (mk (bV F))), some (.int (nI (sm (fun x => cnt (F x) 10) 10))), some (.int (nI (cnt (bV F) 10))), none, none, none, none], [.int 0, .ref 0], w)) rfl ?_
    refine xQ.call rfl (hc1) ?_
    show xQ ML_isForbidden (228, [some (.ref 0), some (.ref 45), some (.ref 47), some (.int (mk (v3 F 10))), some (.int (mk (bV F))), some (.int (nI (sm (fun x => cnt (F x) 10) 10))), some (.int (nI (cnt (bV F) 10))), none, none, none, none], [.int (nI (ec F))], w1) _
    refine xQ.go 3 (F1 := (232, [some (.ref 0), some (.ref 45), some (.ref 47), some (.int (mk (v3 F 10))), some (.int (mk (bV F))), some (.int (nI (sm (fun x => cnt (F x) 10) 10))), some (.int (nI (cnt (bV F) 10))), none, none, none, none], [.int ((nI (sm (fun x => cnt (F x) 10) 10)) / 2), .int (nI (ec F))], w1)) rfl ?_
    rw [show (2 : Int32) = nI 2 from rfl, pk_div (by have := hb 10; omega) (by omega) (by omega), sm_even hg.1 hg.2.1 10, Nat.mul_div_cancel_left _ (by omega)]
    show xQ ML_isForbidden (232, [some (.ref 0), some (.ref 45), some (.ref 47), some (.int (mk (v3 F 10))), some (.int (mk (bV F))), some (.int (nI (2 * sm (fun x => cnt (F x) x) 10))), some (.int (nI (cnt (bV F) 10))), none, none, none, none], [.int (nI (ec F)), .int (nI (ec F))], w1) _
    refine xQ.go 1 (F1 := (bif !decide ((nI (ec F)) = (nI (ec F))) then 264 else 235, [some (.ref 0), some (.ref 45), some (.ref 47), some (.int (mk (v3 F 10))), some (.int (mk (bV F))), some (.int (nI (2 * sm (fun x => cnt (F x) x) 10))), some (.int (nI (cnt (bV F) 10))), none, none, none, none], [], w1)) rfl ?_
    refine xQ.brF (by simp) ?_
    obtain ⟨r1, w2, hc2, hr1, i2, kq2⟩ := C_forb (x := 1) i1
    subst hr1
    rw [show qForb A 1 = mk (v3 F 10) from (qForb_at (k := 1) hf (by omega)).trans (by rw [v3_all, hFe]; rfl)] at hc2
    refine xQ.go 2 (F1 := (237, [some (.ref 0), some (.ref 45), some (.ref 47), some (.int (mk (v3 F 10))), some (.int (mk (bV F))), some (.int (nI (2 * sm (fun x => cnt (F x) x) 10))), some (.int (nI (cnt (bV F) 10))), none, none, none, none], [.int 1, .ref 0], w1)) rfl ?_
    refine xQ.call rfl (hc2) ?_
    show xQ ML_isForbidden (240, [some (.ref 0), some (.ref 45), some (.ref 47), some (.int (mk (v3 F 10))), some (.int (mk (bV F))), some (.int (nI (2 * sm (fun x => cnt (F x) x) 10))), some (.int (nI (cnt (bV F) 10))), none, none, none, none], [.int (mk (v3 F 10))], w2) _
    refine xQ.go 2 (F1 := (bif !decide ((mk (v3 F 10)) = (mk (v3 F 10))) then 264 else 244, [some (.ref 0), some (.ref 45), some (.ref 47), some (.int (mk (v3 F 10))), some (.int (mk (bV F))), some (.int (nI (2 * sm (fun x => cnt (F x) x) 10))), some (.int (nI (cnt (bV F) 10))), none, none, none, none], [], w2)) rfl ?_
    refine xQ.brF (by simp) ?_
    obtain ⟨r1, w3, hc3, hr1, i3, kq3⟩ := C_forb (x := 2) i2
    subst hr1
    rw [show qForb A 2 = mk (bV F) from (qForb_at (k := 2) hf (by omega)).trans (by rw [hFe]; rfl)] at hc3
    refine xQ.go 2 (F1 := (246, [some (.ref 0), some (.ref 45), some (.ref 47), some (.int (mk (v3 F 10))), some (.int (mk (bV F))), some (.int (nI (2 * sm (fun x => cnt (F x) x) 10))), some (.int (nI (cnt (bV F) 10))), none, none, none, none], [.int 2, .ref 0], w2)) rfl ?_
    refine xQ.call rfl (hc3) ?_
    show xQ ML_isForbidden (249, [some (.ref 0), some (.ref 45), some (.ref 47), some (.int (mk (v3 F 10))), some (.int (mk (bV F))), some (.int (nI (2 * sm (fun x => cnt (F x) x) 10))), some (.int (nI (cnt (bV F) 10))), none, none, none, none], [.int (mk (bV F))], w3) _
    refine xQ.go 2 (F1 := (bif !decide ((mk (bV F)) = (mk (bV F))) then 264 else 254, [some (.ref 0), some (.ref 45), some (.ref 47), some (.int (mk (v3 F 10))), some (.int (mk (bV F))), some (.int (nI (2 * sm (fun x => cnt (F x) x) 10))), some (.int (nI (cnt (bV F) 10))), none, none, none, none], [], w3)) rfl ?_
    refine xQ.brF (by simp) ?_
    obtain ⟨r1, w4, hc4, hr1, i4, kq4⟩ := C_forb (x := 3) i3
    subst hr1
    rw [show qForb A 3 = nI (cnt (bV F) 10) from (qForb_at (k := 3) hf (by omega)).trans (by rw [hFe]; rfl)] at hc4
    refine xQ.go 2 (F1 := (256, [some (.ref 0), some (.ref 45), some (.ref 47), some (.int (mk (v3 F 10))), some (.int (mk (bV F))), some (.int (nI (2 * sm (fun x => cnt (F x) x) 10))), some (.int (nI (cnt (bV F) 10))), none, none, none, none], [.int 3, .ref 0], w3)) rfl ?_
    refine xQ.call rfl (hc4) ?_
    show xQ ML_isForbidden (259, [some (.ref 0), some (.ref 45), some (.ref 47), some (.int (mk (v3 F 10))), some (.int (mk (bV F))), some (.int (nI (2 * sm (fun x => cnt (F x) x) 10))), some (.int (nI (cnt (bV F) 10))), none, none, none, none], [.int (nI (cnt (bV F) 10))], w4) _
    refine xQ.go 2 (F1 := (bif decide ((nI (cnt (bV F) 10)) = (nI (cnt (bV F) 10))) then 266 else 264, [some (.ref 0), some (.ref 45), some (.ref 47), some (.int (mk (v3 F 10))), some (.int (mk (bV F))), some (.int (nI (2 * sm (fun x => cnt (F x) x) 10))), some (.int (nI (cnt (bV F) 10))), none, none, none, none], [], w4)) rfl ?_
    refine xQ.brT (by simp) ?_
    have K1 := K0 w4 i4 (xkq_trans kq1 (xkq_trans kq2 (xkq_trans kq3 kq4)))
    rw [sm_even hg.1 hg.2.1 10] at K1
    exact K1
  refine xQ.go 4 (F1 := (bif decide ((nI (cnt (bV F) 10)) = 5) then 223 else 216, [some (.ref 0), some (.ref 45), some (.ref 47), some (.int (mk (v3 F 10))), some (.int (mk (bV F))), some (.int (nI (sm (fun x => cnt (F x) 10) 10))), some (.int (nI (cnt (bV F) 10))), none, none, none, none], [], w)) rfl ?_
  rcases hB.2 with ⟨h5, _⟩ | ⟨h6, _⟩
  · refine xQ.brT (by rw [h5]; decide) ?_
    exact rest
  · refine xQ.brF (by rw [h6]; decide) ?_
    refine xQ.go 3 (F1 := (bif !decide ((nI (cnt (bV F) 10)) = 6) then 264 else 223, [some (.ref 0), some (.ref 45), some (.ref 47), some (.int (mk (v3 F 10))), some (.int (mk (bV F))), some (.int (nI (sm (fun x => cnt (F x) 10) 10))), some (.int (nI (cnt (bV F) 10))), none, none, none, none], [], w)) rfl ?_
    refine xQ.brF (by rw [h6]; decide) ?_
    exact rest
/-- isForbidden, its array made, answers 1 -/
theorem c_isForb {w : xW} {A : xAb} (hI : cI w A) (hG : gI w (gr A.1.1)) (hz : ∀ a, a < 10 → w.1 47 a = 0) (hf : fl A.1.1 = false) : xQ ML_isForbidden (5, [some (.ref 0), some (.ref 45), some (.ref 47), none, none, none, none, none, none, none, none], [], w) (fun r w1 => r = some (.int 1) ∧ cI w1 A ∧ xkq kF w w1) := by
  have hB := obs_forb hf
  have hg := gr_gok (obs A.1.1 100)
  refine c_f1 rfl hI hG hz hf fun s ⟨h1, h2, h3⟩ => ?_
  refine c_f2 h3 hB.1 ?_
  refine c_f3 h1 hf rfl hB fun w1 h4 h5 => ?_
  refine c_f4 hg (fun a ha => ((h5 47 a rfl).1).trans (h3 a ha)) hB ?_
  exact c_f5 h4 hf fun w2 h6 h7 => ⟨rfl, h6, xkq_trans h2 (kF_of (xkq_trans h5 h7))⟩
