/-! isDrawn */ -/
/-- the neighbors of v, in their order, from the least on -/
theorem around_ex {G : Nat → Nat → Bool} (hg : gok G) (hf : flt G (blks G 100) = true) (v : Nat) : ∃ R : List Nat, R.Nodup ∧ (∀ x, x ∈ R ↔ G v x = true) ∧ R.length = cnt (G v) 10 ∧ (R ≠ [] → R.getD 0 0 = low (G v)) ∧ ∀ k, k < R.length → nxt G v (R.getD k 0) = R.getD ((k + 1) % R.length) 0 := by
  have hn := ord_nodup hg (blks_ok hg 100 (Nat.le_refl _)) hf v
  have hm : ∀ x, x ∈ ord G (blks G 100) v ↔ G v x = true := fun x => ord_mem hg hf
  have fin : ∀ R : List Nat, R.Nodup → (∀ x, x ∈ R ↔ G v x = true) → (∀ q, q ∈ dts R → q ∈ dts (ord G (blks G 100) v)) → R.length = cnt (G v) 10 ∧ ∀ k, k < R.length → nxt G v (R.getD k 0) = R.getD ((k + 1) % R.length) 0 := by
    intro R h1 h2 h3
    refine ⟨?_, fun k hk => nxt_of hg hf (h3 _ (dts_get (i := k) ?_ ?_))⟩
    · rw [← cnt_list h1 (fun x hx => (hg.2.2 _ _ ((h2 x).mp hx)).2)]
      exact cnt_ext fun x _ => by
        cases hx : G v x with
        | true => exact decide_eq_true ((h2 x).mpr hx)
        | false => exact decide_eq_false (fun z => by rw [(h2 x).mp z] at hx; cases hx)
    · rw [List.getElem?_eq_getElem hk, List.getD_eq_getElem?_getD, List.getElem?_eq_getElem hk]
      rfl
    · have hlt := Nat.mod_lt (k + 1) (show 0 < R.length by omega)
      rw [List.getElem?_eq_getElem hlt, List.getD_eq_getElem?_getD, List.getElem?_eq_getElem hlt]
      rfl
  by_cases he : ord G (blks G 100) v = []
  · refine ⟨[], List.nodup_nil, fun x => ?_, ?_, fun z => absurd rfl z, fun k hk => absurd hk (Nat.not_lt_zero _)⟩
    · rw [← hm, he]
    · have := (fin [] List.nodup_nil (fun x => by rw [← hm, he]) (fun q hq => by cases hq)).1
      exact this
  · obtain ⟨x, hx⟩ := List.exists_mem_of_ne_nil _ he
    have hGx := (hm x).mp hx
    have hl := low_some (hg.2.2 _ _ hGx).2 hGx
    obtain ⟨A, B, e⟩ := List.append_of_mem ((hm _).mpr hl.2)
    have hperm : (ord G (blks G 100) v).Perm (low (G v) :: B ++ A) := by
      rw [e]
      exact List.perm_append_comm
    obtain ⟨f1, f2⟩ := fin (low (G v) :: B ++ A) (hperm.nodup_iff.mp hn) (fun z => by rw [← hm, hperm.mem_iff]) (fun q hq => by
      rw [e]
      exact (dts_rot A (low (G v) :: B) q).mpr hq)
    exact ⟨low (G v) :: B ++ A, hperm.nodup_iff.mp hn, fun z => by rw [← hm, hperm.mem_iff], f1, fun _ => rfl, f2⟩
/-- the faces, as far as the vertices are counted -/
def fF (G : Nat → Nat → Bool) : Nat → Int32
  | 0 => nI (ec G)
  | k + 1 => fF G k - (if anyv (G k) 10 = true then 1 else 0) + (if (anyv (G k) 10 && rep G k) = true then 2 else 0)
theorem i32_1 (x y : Int32) : x - 1 + 2 + (y + 1) = x + y + 2 := by
  apply Int32.toBitVec_inj.mp
  simp only [Int32.toBitVec_add, Int32.toBitVec_sub]
  rw [show (1 : Int32).toBitVec = 1#32 from rfl, show (2 : Int32).toBitVec = 2#32 from rfl]
  generalize x.toBitVec = a
  generalize y.toBitVec = b
  bv_omega
theorem i32_2 (x y : Int32) : x - 1 + 0 + (y + 1) = x + y := by
  apply Int32.toBitVec_inj.mp
  simp only [Int32.toBitVec_add, Int32.toBitVec_sub]
  rw [show (1 : Int32).toBitVec = 1#32 from rfl, show (0 : Int32).toBitVec = 0#32 from rfl]
  generalize x.toBitVec = a
  generalize y.toBitVec = b
  bv_omega
theorem i32_3 (x y : Int32) : x - 0 + 0 + (y + 0) = x + y := by
  apply Int32.toBitVec_inj.mp
  simp only [Int32.toBitVec_add, Int32.toBitVec_sub]
  rw [show (0 : Int32).toBitVec = 0#32 from rfl]
  generalize x.toBitVec = a
  generalize y.toBitVec = b
  bv_omega
theorem i32_0 (x y : Int32) : x + y = x + y + nI 0 := (Int32.add_zero _).symm
theorem fF_eq (G : Nat → Nat → Bool) : ∀ k, fF G k + nI (cnt (fun v => anyv (G v) 10) k) = nI (ec G + 2 * cnt (fun v => anyv (G v) 10 && rep G v) k)
  | 0 => by
    show nI (ec G) + nI 0 = nI (ec G + 2 * 0)
    rw [jI_add]
  | k + 1 => by
    have ih := fF_eq G k
    have e1 : cnt (fun v => anyv (G v) 10) (k + 1) = cnt (fun v => anyv (G v) 10) k + (if anyv (G k) 10 = true then 1 else 0) := by
      show _ + (bif anyv (G k) 10 then 1 else 0) = _
      cases anyv (G k) 10 <;> rfl
    have e2 : cnt (fun v => anyv (G v) 10 && rep G v) (k + 1) = cnt (fun v => anyv (G v) 10 && rep G v) k + (if (anyv (G k) 10 && rep G k) = true then 1 else 0) := by
      show _ + (bif (anyv (G k) 10 && rep G k) then 1 else 0) = _
      cases (anyv (G k) 10 && rep G k) <;> rfl
    rw [e1, e2]
    show fF G k - (if anyv (G k) 10 = true then 1 else 0) + (if (anyv (G k) 10 && rep G k) = true then 2 else 0) + nI _ = _
    rw [Nat.mul_add, ← Nat.add_assoc, ← jI_add, ← jI_add (ec G + _), ← ih]
    generalize fF G k = x
    generalize nI (cnt (fun v => anyv (G v) 10) k) = y
    cases anyv (G k) 10 with
    | false => exact (i32_3 x y).trans (i32_0 x y)
    | true =>
      cases rep G k with
      | true => exact i32_1 x y
      | false => exact (i32_2 x y).trans (i32_0 x y)
theorem gI_kq {w w1 : xW} {G : Nat → Nat → Bool} (h : gI w G) (k : xkq kC w w1) : gI w1 G := fun v hv => ((k 45 v rfl).1).trans (h v hv)
theorem mk_any {S : Nat → Bool} (h : anyv S 10 = true) : mk S ≠ 0 := fun z => by
  obtain ⟨u, hu, h1⟩ := anyv_iff.mp h
  rw [mk_zero.mp z u hu] at h1
  cases h1
theorem mk_none {S : Nat → Bool} (h : anyv S 10 = false) : mk S = 0 := mk_zero.mpr fun v hv => by
  cases h1 : S v with
  | false => rfl
  | true => rw [anyv_iff.mpr ⟨v, hv, h1⟩] at h; cases h
theorem qNext_at {A : xAb} {a b : Nat} (ha : a < 10) (hb : b < 10) (h : gr A.1.1 a b = true) (hf : fl A.1.1 = true) : qNext A (nI a) (nI b) = nI (nxt (gr A.1.1) a b) := by
  unfold qNext vI
  rw [kI_of ha (by omega), kI_of hb (by omega)]
  dsimp only
  rw [if_pos h, if_pos hf]
theorem kI_n {n m : Nat} (h : n ≤ m) (hm : m < 2 ^ 31) : kI n (nI m) = none := by
  cases e : kI n (nI m) with
  | none => rfl
  | some a =>
    obtain ⟨h1, h2⟩ := kI_some e
    have := jI_inj hm (by omega) h2
    omega
theorem kI_m1 {n : Nat} (h : n < 2 ^ 31) : kI n (-1) = none := by
  cases e : kI n (-1) with
  | none => rfl
  | some a =>
    obtain ⟨h1, h2⟩ := kI_some e
    have h3 : (-1 : Int32) < 0 := by decide
    rw [h2] at h3
    exact absurd h3 (nI_pos (by omega))
theorem sum_len {e : Int64} (hf : fl e = true) : (trG e 100).2.flatten.length = 2 * ec (gr e) := by
  have hg := gr_gok e
  have hff : flt (gr e) (blks (gr e) 100) = true := hf
  have hG : ∀ v w, gr e v w = true → v < 10 ∧ w < 10 ∧ gr e w (nxt (gr e) w v) = true := fun v w h => ⟨(hg.2.2 _ _ h).1, (hg.2.2 _ _ h).2, nxt_edge hg hff (by rw [hg.1]; exact h)⟩
  obtain ⟨t1, t2, t3, t4⟩ := trc_ok hG 100
  rw [fre_ec hg] at t4
  have h0 : fre (gr e) (trc (nxt (gr e)) (gr e) 100).1 = 0 := by
    unfold fre
    rw [cnt_ext (T := fun _ => false) (fun d hd => by
      cases h : gr e (d / 10) (d % 10) with
      | false => rfl
      | true => rw [t3 d hd h]; rfl)]
    exact cnt_no 100
  rw [h0, Nat.zero_add] at t4
  exact t4
theorem qWLen_at {A : xAb} {k : Nat} (hf : fl A.1.1 = true) (hk : k < (trG A.1.1 100).2.length) : qWLen A (nI k) = nI ((trG A.1.1 100).2.getD k []).length := by
  have := trG_len hf
  unfold qWLen
  rw [if_pos hf, kI_of hk (by omega)]
theorem qWLen_no {A : xAb} {x : Int32} (hf : fl A.1.1 = true) (hx : kI (trG A.1.1 100).2.length x = none) : qWLen A x = -1 := by
  unfold qWLen
  rw [if_pos hf, hx]
theorem c_dtail {w s : xW} {A : xAb} {k : Nat} (hk : k < 10) {a b : Int32} (hI : cI s A) (hkq : xkq kC w s) (hG : gI s (gr A.1.1)) (K : ∀ s', cI s' A ∧ xkq kC w s' → xQ ML_isDrawn (7, [some (.ref 0), some (.ref 45), some (.int (fF (gr A.1.1) (k + 1))), some (.int (nI (k + 1))), none, none, none], [], s') (cV w A 1)) : xQ ML_isDrawn (122, [some (.ref 0), some (.ref 45), some (.int (fF (gr A.1.1) k)), some (.int (nI k)), some (.int a), some (.int (mk (gr A.1.1 k))), some (.int b)], [], s) (cV w A 1) := by
  have K := K s ⟨hI, hkq⟩
  unfold fF at K
  refine xQ.go 3 (F1 := (bif decide ((mk (gr A.1.1 k)) = 0) then 132 else 128, [some (.ref 0), some (.ref 45), some (.int (fF (gr A.1.1) k)), some (.int (nI k)), some (.int a), some (.int (mk (gr A.1.1 k))), some (.int b)], [.int (fF (gr A.1.1) k)], s)) rfl ?_
  cases ha : anyv (gr A.1.1 k) 10 with
  | false =>
    rw [ha] at K
    refine xQ.brT (decide_eq_true (mk_none ha)) ?_
    refine xQ.go 6 (F1 := (bif decide ((mk (gr A.1.1 k)) = 0) then 157 else 141, [some (.ref 0), some (.ref 45), some (.int ((fF (gr A.1.1) k) - 0)), some (.int (nI k)), some (.int a), some (.int (mk (gr A.1.1 k))), some (.int b)], [.int ((fF (gr A.1.1) k) - 0)], s)) rfl ?_
    refine xQ.brT (decide_eq_true (mk_none ha)) ?_
    refine xQ.go 5 (F1 := (7, [some (.ref 0), some (.ref 45), some (.int (((fF (gr A.1.1) k) - 0) + 0)), some (.int ((nI k) + 1)), some (.int a), some (.int (mk (gr A.1.1 k))), some (.int b)], [], s)) rfl ?_
    rw [← nI_succ]
    refine xQ.less [some (.ref 0), some (.ref 45), some (.int (((fF (gr A.1.1) k) - 0) + 0)), some (.int (nI (k + 1))), none, none, none] (by simp [xleb]) ?_
    exact K
  | true =>
    rw [ha] at K
    refine xQ.brF (decide_eq_false (mk_any ha)) ?_
    refine xQ.go 7 (F1 := (bif decide ((mk (gr A.1.1 k)) = 0) then 157 else 141, [some (.ref 0), some (.ref 45), some (.int ((fF (gr A.1.1) k) - 1)), some (.int (nI k)), some (.int a), some (.int (mk (gr A.1.1 k))), some (.int b)], [.int ((fF (gr A.1.1) k) - 1)], s)) rfl ?_
    refine xQ.brF (decide_eq_false (mk_any ha)) ?_
    refine xQ.go 2 (F1 := (143, [some (.ref 0), some (.ref 45), some (.int ((fF (gr A.1.1) k) - 1)), some (.int (nI k)), some (.int a), some (.int (mk (gr A.1.1 k))), some (.int b)], [.ref 45, .int (nI k), .int ((fF (gr A.1.1) k) - 1)], s)) rfl ?_
    refine xQ.call rfl (c_joined hk hG) ?_
    show xQ ML_isDrawn (146, [some (.ref 0), some (.ref 45), some (.int ((fF (gr A.1.1) k) - 1)), some (.int (nI k)), some (.int a), some (.int (mk (gr A.1.1 k))), some (.int b)], [.int (mk (kc (gr A.1.1) k)), .int ((fF (gr A.1.1) k) - 1)], s) _
    refine xQ.call rfl (c_lowest hk (kc_self _ k)) ?_
    show xQ ML_isDrawn (149, [some (.ref 0), some (.ref 45), some (.int ((fF (gr A.1.1) k) - 1)), some (.int (nI k)), some (.int a), some (.int (mk (gr A.1.1 k))), some (.int b)], [.int (nI (low (kc (gr A.1.1) k))), .int ((fF (gr A.1.1) k) - 1)], s) _
    refine xQ.go 2 (F1 := (bif !decide ((nI (low (kc (gr A.1.1) k))) = (nI k)) then 157 else 153, [some (.ref 0), some (.ref 45), some (.int ((fF (gr A.1.1) k) - 1)), some (.int (nI k)), some (.int a), some (.int (mk (gr A.1.1 k))), some (.int b)], [.int ((fF (gr A.1.1) k) - 1)], s)) rfl ?_
    have hlow := kc_low (G := gr A.1.1) hk
    by_cases hr : low (kc (gr A.1.1) k) = k
    · have hrep : rep (gr A.1.1) k = true := decide_eq_true hr
      rw [hrep] at K
      rw [hr]
      refine xQ.brF (by simp) ?_
      refine xQ.go 6 (F1 := (7, [some (.ref 0), some (.ref 45), some (.int (((fF (gr A.1.1) k) - 1) + 2)), some (.int ((nI k) + 1)), some (.int a), some (.int (mk (gr A.1.1 k))), some (.int b)], [], s)) rfl ?_
      rw [← nI_succ]
      refine xQ.less [some (.ref 0), some (.ref 45), some (.int (((fF (gr A.1.1) k) - 1) + 2)), some (.int (nI (k + 1))), none, none, none] (by simp [xleb]) ?_
      exact K
    · have hrep : rep (gr A.1.1) k = false := decide_eq_false hr
      rw [hrep] at K
      refine xQ.brT (by rw [Bool.not_eq_true', decide_eq_false_iff_not]; exact fun z => hr (jI_inj (by omega) (by omega) z)) ?_
      refine xQ.go 5 (F1 := (7, [some (.ref 0), some (.ref 45), some (.int (((fF (gr A.1.1) k) - 1) + 0)), some (.int ((nI k) + 1)), some (.int a), some (.int (mk (gr A.1.1 k))), some (.int b)], [], s)) rfl ?_
      rw [← nI_succ]
      refine xQ.less [some (.ref 0), some (.ref 45), some (.int (((fF (gr A.1.1) k) - 1) + 0)), some (.int (nI (k + 1))), none, none, none] (by simp [xleb]) ?_
      exact K
theorem c_isDrawn {w : xW} {A : xAb} (hI : cI w A) (hG : gI w (gr A.1.1)) (hf : fl A.1.1 = true) : xD ML_isDrawn [.ref 0, .ref 45] w (cV w A 1) := by
  have hg := gr_gok A.1.1
  have hff : flt (gr A.1.1) (blks (gr A.1.1) 100) = true := hf
  refine xD.of ?_
  show xQ ML_isDrawn (0, [some (.ref 0), some (.ref 45), none, none, none, none, none], [], w) _
  refine xQ.go 1 (F1 := (1, [some (.ref 0), some (.ref 45), none, none, none, none, none], [.ref 45], w)) rfl ?_
  refine xQ.call rfl (c_ledges hg hG) ?_
  show xQ ML_isDrawn (4, [some (.ref 0), some (.ref 45), none, none, none, none, none], [.int (nI (ec (gr A.1.1)))], w) _
  refine xQ.go 3 (F1 := (7, [some (.ref 0), some (.ref 45), some (.int (nI (ec (gr A.1.1)))), some (.int 0), none, none, none], [], w)) rfl ?_
  refine xQ.loop (S := xW) (fun k s => (7, [some (.ref 0), some (.ref 45), some (.int (fF (gr A.1.1) k)), some (.int (nI k)), none, none, none], [], s)) (fun _ s => cI s A ∧ xkq kC w s) 10 w (rfl) (⟨hI, xkq_rfl⟩) ?_ ?_
  · intro k s hk hI K
    obtain ⟨hI1, hk1⟩ := hI
    have hG1 : gI s (gr A.1.1) := gI_kq hG hk1
    refine xQ.go 3 (F1 := (bif decide (10 ≤ (nI k)) then 166 else 13, [some (.ref 0), some (.ref 45), some (.int (fF (gr A.1.1) k)), some (.int (nI k)), none, none, none], [], s)) rfl ?_
    refine xQ.brF (decide_eq_false (nI_ge (b := 10) (by omega) (by omega))) ?_
    obtain ⟨R, R1, R2, R3, R4, R5⟩ := around_ex hg hff k
    have hR10 : ∀ x, x ∈ R → x < 10 := fun x hx => (hg.2.2 _ _ ((R2 x).mp hx)).2
    have hRl : R.length ≤ 10 := by rw [R3]; exact cnt_le _ _
    refine xQ.go 2 (F1 := (15, [some (.ref 0), some (.ref 45), some (.int (fF (gr A.1.1) k)), some (.int (nI k)), none, none, none], [.int (nI k), .ref 45], s)) rfl ?_
    refine xQ.iald rfl (k := k) (rfl) (⟨by omega, by omega⟩) rfl ?_
    show xQ ML_isDrawn (16, [some (.ref 0), some (.ref 45), some (.int (fF (gr A.1.1) k)), some (.int (nI k)), none, none, none], [.int (s.1 45 k)], s) _
    rw [hG1 k hk]
    refine xQ.go 1 (F1 := (bif !decide ((mk (gr A.1.1 k)) = 0) then 23 else 19, [some (.ref 0), some (.ref 45), some (.int (fF (gr A.1.1) k)), some (.int (nI k)), none, none, none], [], s)) rfl ?_
    have goon : xQ ML_isDrawn (37, [some (.ref 0), some (.ref 45), some (.int (fF (gr A.1.1) k)), some (.int (nI k)), some (.int (nI (R.getD 0 0))), some (.int (mk (fun z => decide (z ∈ R.take 0)))), some (.int 0)], [], s) (cV w A 1) := by
      refine xQ.loop (S := xW) (fun k2 s2 => (37, [some (.ref 0), some (.ref 45), some (.int (fF (gr A.1.1) k)), some (.int (nI k)), some (.int (nI (R.getD (k2 % R.length) 0))), some (.int (mk (fun z => decide (z ∈ R.take k2)))), some (.int (nI k2))], [], s2)) (fun _ s2 => cI s2 A ∧ xkq kC w s2) R.length s (by rw [Nat.zero_mod]; rfl) (⟨hI1, hk1⟩) ?_ ?_
      · intro k2 s2 hk2 hI2 K2
        obtain ⟨hJ, hk3⟩ := hI2
        have hG2 : gI s2 (gr A.1.1) := gI_kq hG hk3
        obtain ⟨x, hx⟩ : ∃ x, x = R.getD (k2 % R.length) 0 := ⟨_, rfl⟩
        rw [← hx]
        show xQ ML_isDrawn (37, [some (.ref 0), some (.ref 45), some (.int (fF (gr A.1.1) k)), some (.int (nI k)), some (.int (nI x)), some (.int (mk (fun z => decide (z ∈ R.take k2)))), some (.int (nI k2))], [], s2) _
        have hxk : R[k2]? = some x := by
          rw [hx, Nat.mod_eq_of_lt hk2, List.getD_eq_getElem?_getD, List.getElem?_eq_getElem hk2]
          rfl
        have hxR : x ∈ R := List.mem_of_getElem? hxk
        have hx10 := hR10 x hxR
        have hGx : gr A.1.1 k x = true := (R2 x).mp hxR
        have hno : x ∉ R.take k2 := fun z => by
          obtain ⟨i, hi⟩ := List.getElem?_of_mem z
          have hil : i < k2 := by
            have := (List.getElem?_eq_some_iff.mp hi).1
            rw [List.length_take] at this
            omega
          rw [List.getElem?_take, if_pos hil] at hi
          have := (List.getElem?_inj (by omega) R1).mp (hi.trans hxk.symm)
          omega
        refine xQ.go 3 (F1 := (41, [some (.ref 0), some (.ref 45), some (.int (fF (gr A.1.1) k)), some (.int (nI k)), some (.int (nI x)), some (.int (mk (fun z => decide (z ∈ R.take k2)))), some (.int (nI k2))], [.int (nI k), .ref 45, .int (nI k2)], s2)) rfl ?_
        refine xQ.iald rfl (k := k) (rfl) (⟨by omega, by omega⟩) rfl ?_
        show xQ ML_isDrawn (42, [some (.ref 0), some (.ref 45), some (.int (fF (gr A.1.1) k)), some (.int (nI k)), some (.int (nI x)), some (.int (mk (fun z => decide (z ∈ R.take k2)))), some (.int (nI k2))], [.int (s2.1 45 k), .int (nI k2)], s2) _
        rw [hG2 k hk]
        refine xQ.call rfl (c_lones) ?_
        show xQ ML_isDrawn (45, [some (.ref 0), some (.ref 45), some (.int (fF (gr A.1.1) k)), some (.int (nI k)), some (.int (nI x)), some (.int (mk (fun z => decide (z ∈ R.take k2)))), some (.int (nI k2))], [.int (nI (cnt (gr A.1.1 k) 10)), .int (nI k2)], s2) _
        rw [← R3]
        refine xQ.go 1 (F1 := (bif decide ((nI R.length) ≤ (nI k2)) then 96 else 48, [some (.ref 0), some (.ref 45), some (.int (fF (gr A.1.1) k)), some (.int (nI k)), some (.int (nI x)), some (.int (mk (fun z => decide (z ∈ R.take k2)))), some (.int (nI k2))], [], s2)) rfl ?_
        refine xQ.brF (decide_eq_false (nI_ge hk2 (by omega))) ?_
        refine xQ.go 2 (F1 := (50, [some (.ref 0), some (.ref 45), some (.int (fF (gr A.1.1) k)), some (.int (nI k)), some (.int (nI x)), some (.int (mk (fun z => decide (z ∈ R.take k2)))), some (.int (nI k2))], [.int (nI k), .ref 45], s2)) rfl ?_
        refine xQ.iald rfl (k := k) (rfl) (⟨by omega, by omega⟩) rfl ?_
        show xQ ML_isDrawn (51, [some (.ref 0), some (.ref 45), some (.int (fF (gr A.1.1) k)), some (.int (nI k)), some (.int (nI x)), some (.int (mk (fun z => decide (z ∈ R.take k2)))), some (.int (nI k2))], [.int (s2.1 45 k)], s2) _
        rw [hG2 k hk]
        refine xQ.go 5 (F1 := (bif decide ((((mk (gr A.1.1 k)) >>> ((nI x) &&& 31)) &&& 1) = 0) then 70 else 59, [some (.ref 0), some (.ref 45), some (.int (fF (gr A.1.1) k)), some (.int (nI k)), some (.int (nI x)), some (.int (mk (fun z => decide (z ∈ R.take k2)))), some (.int (nI k2))], [], s2)) rfl ?_
        rw [mk_get _ hx10, hGx]
        refine xQ.brF (by decide) ?_
        refine xQ.go 7 (F1 := (bif !decide ((((mk (fun z => decide (z ∈ R.take k2))) >>> ((nI x) &&& 31)) &&& 1) = 1) then 72 else 70, [some (.ref 0), some (.ref 45), some (.int (fF (gr A.1.1) k)), some (.int (nI k)), some (.int (nI x)), some (.int (mk (fun z => decide (z ∈ R.take k2)))), some (.int (nI k2))], [], s2)) rfl ?_
        rw [mk_get _ hx10, decide_eq_false hno]
        refine xQ.brT (by decide) ?_
        refine xQ.go 4 (F1 := (78, [some (.ref 0), some (.ref 45), some (.int (fF (gr A.1.1) k)), some (.int (nI k)), some (.int (nI x)), some (.int (mk (fun z => decide (z ∈ R.take k2)))), some (.int (nI k2))], [.int (1 <<< ((nI x) &&& 31)), .int (mk (fun z => decide (z ∈ R.take k2)))], s2)) rfl ?_
        rw [mk_bit hx10]
        refine xQ.go 1 (F1 := (79, [some (.ref 0), some (.ref 45), some (.int (fF (gr A.1.1) k)), some (.int (nI k)), some (.int (nI x)), some (.int (mk (fun z => decide (z ∈ R.take k2)))), some (.int (nI k2))], [.int ((mk (fun z => decide (z ∈ R.take k2))) ||| (mk (fun u => decide (u = x))))], s2)) rfl ?_
        rw [mk_or, show mk (fun u => decide (u ∈ R.take k2) || decide (u = x)) = mk (fun z => decide (z ∈ R.take (k2 + 1))) from mk_ext fun u _ => by
          rw [List.take_add_one, hxk]
          simp [List.mem_append]]
        obtain ⟨r1, w1, hc1, hr1, i1, k4⟩ := C_next (x := nI k) (y := nI x) hJ
        subst hr1
        rw [qNext_at hk hx10 hGx hf] at hc1
        have hnx : nxt (gr A.1.1) k x = R.getD ((k2 + 1) % R.length) 0 := by
          have := R5 k2 hk2
          rw [List.getD_eq_getElem?_getD, hxk] at this
          exact this
        rw [hnx] at hc1
        refine xQ.go 4 (F1 := (85, [some (.ref 0), some (.ref 45), some (.int (fF (gr A.1.1) k)), some (.int (nI k)), some (.int (nI x)), some (.int (mk (fun z => decide (z ∈ R.take (k2 + 1))))), some (.int (nI k2))], [.int (nI x), .int (nI k), .ref 0], s2)) rfl ?_
        refine xQ.call rfl (hc1) ?_
        show xQ ML_isDrawn (88, [some (.ref 0), some (.ref 45), some (.int (fF (gr A.1.1) k)), some (.int (nI k)), some (.int (nI x)), some (.int (mk (fun z => decide (z ∈ R.take (k2 + 1))))), some (.int (nI k2))], [.int (nI (R.getD ((k2 + 1) % R.length) 0))], w1) _
        refine xQ.go 3 (F1 := (37, [some (.ref 0), some (.ref 45), some (.int (fF (gr A.1.1) k)), some (.int (nI k)), some (.int (nI (R.getD ((k2 + 1) % R.length) 0))), some (.int (mk (fun z => decide (z ∈ R.take (k2 + 1))))), some (.int ((nI k2) + 1))], [], w1)) rfl ?_
        rw [← nI_succ]
        exact K2 w1 ⟨i1, xkq_trans hk3 k4⟩
      · intro s2 hI2
        obtain ⟨hJ, hk3⟩ := hI2
        have hG2 : gI s2 (gr A.1.1) := gI_kq hG hk3
        have htk : mk (fun z => decide (z ∈ R.take R.length)) = mk (gr A.1.1 k) := mk_ext fun u _ => by
          rw [List.take_length]
          cases hu : gr A.1.1 k u with
          | true => exact decide_eq_true ((R2 u).mpr hu)
          | false => exact decide_eq_false (fun z => by rw [(R2 u).mp z] at hu; cases hu)
        rw [htk, Nat.mod_self]
        show xQ ML_isDrawn (37, [some (.ref 0), some (.ref 45), some (.int (fF (gr A.1.1) k)), some (.int (nI k)), some (.int (nI (R.getD 0 0))), some (.int (mk (gr A.1.1 k))), some (.int (nI R.length))], [], s2) _
        refine xQ.go 3 (F1 := (41, [some (.ref 0), some (.ref 45), some (.int (fF (gr A.1.1) k)), some (.int (nI k)), some (.int (nI (R.getD 0 0))), some (.int (mk (gr A.1.1 k))), some (.int (nI R.length))], [.int (nI k), .ref 45, .int (nI R.length)], s2)) rfl ?_
        refine xQ.iald rfl (k := k) (rfl) (⟨by omega, by omega⟩) rfl ?_
        show xQ ML_isDrawn (42, [some (.ref 0), some (.ref 45), some (.int (fF (gr A.1.1) k)), some (.int (nI k)), some (.int (nI (R.getD 0 0))), some (.int (mk (gr A.1.1 k))), some (.int (nI R.length))], [.int (s2.1 45 k), .int (nI R.length)], s2) _
        rw [hG2 k hk]
        refine xQ.call rfl (c_lones) ?_
        show xQ ML_isDrawn (45, [some (.ref 0), some (.ref 45), some (.int (fF (gr A.1.1) k)), some (.int (nI k)), some (.int (nI (R.getD 0 0))), some (.int (mk (gr A.1.1 k))), some (.int (nI R.length))], [.int (nI (cnt (gr A.1.1 k) 10)), .int (nI R.length)], s2) _
        rw [← R3]
        refine xQ.go 1 (F1 := (bif decide ((nI R.length) ≤ (nI R.length)) then 96 else 48, [some (.ref 0), some (.ref 45), some (.int (fF (gr A.1.1) k)), some (.int (nI k)), some (.int (nI (R.getD 0 0))), some (.int (mk (gr A.1.1 k))), some (.int (nI R.length))], [], s2)) rfl ?_
        refine xQ.brT (decide_eq_true (Int32.le_refl _)) ?_
        refine xQ.go 3 (F1 := (100, [some (.ref 0), some (.ref 45), some (.int (fF (gr A.1.1) k)), some (.int (nI k)), some (.int (nI (R.getD 0 0))), some (.int (mk (gr A.1.1 k))), some (.int (nI R.length))], [.int (nI k), .ref 45, .int (mk (gr A.1.1 k))], s2)) rfl ?_
        refine xQ.iald rfl (k := k) (rfl) (⟨by omega, by omega⟩) rfl ?_
        show xQ ML_isDrawn (101, [some (.ref 0), some (.ref 45), some (.int (fF (gr A.1.1) k)), some (.int (nI k)), some (.int (nI (R.getD 0 0))), some (.int (mk (gr A.1.1 k))), some (.int (nI R.length))], [.int (s2.1 45 k), .int (mk (gr A.1.1 k))], s2) _
        rw [hG2 k hk]
        refine xQ.go 1 (F1 := (bif !decide ((mk (gr A.1.1 k)) = (mk (gr A.1.1 k))) then 120 else 104, [some (.ref 0), some (.ref 45), some (.int (fF (gr A.1.1) k)), some (.int (nI k)), some (.int (nI (R.getD 0 0))), some (.int (mk (gr A.1.1 k))), some (.int (nI R.length))], [], s2)) rfl ?_
        refine xQ.brF ((by simp)) ?_
        refine xQ.go 2 (F1 := (bif decide ((mk (gr A.1.1 k)) = 0) then 122 else 109, [some (.ref 0), some (.ref 45), some (.int (fF (gr A.1.1) k)), some (.int (nI k)), some (.int (nI (R.getD 0 0))), some (.int (mk (gr A.1.1 k))), some (.int (nI R.length))], [], s2)) rfl ?_
        by_cases ha : anyv (gr A.1.1 k) 10 = true
        · refine xQ.brF (decide_eq_false (mk_any ha)) ?_
          refine xQ.go 3 (F1 := (113, [some (.ref 0), some (.ref 45), some (.int (fF (gr A.1.1) k)), some (.int (nI k)), some (.int (nI (R.getD 0 0))), some (.int (mk (gr A.1.1 k))), some (.int (nI R.length))], [.int (nI k), .ref 45, .int (nI (R.getD 0 0))], s2)) rfl ?_
          refine xQ.iald rfl (k := k) (rfl) (⟨by omega, by omega⟩) rfl ?_
          show xQ ML_isDrawn (114, [some (.ref 0), some (.ref 45), some (.int (fF (gr A.1.1) k)), some (.int (nI k)), some (.int (nI (R.getD 0 0))), some (.int (mk (gr A.1.1 k))), some (.int (nI R.length))], [.int (s2.1 45 k), .int (nI (R.getD 0 0))], s2) _
          rw [hG2 k hk]
          obtain ⟨u, hu, hGu⟩ := anyv_iff.mp ha
          refine xQ.call rfl (c_lowest hu hGu) ?_
          show xQ ML_isDrawn (117, [some (.ref 0), some (.ref 45), some (.int (fF (gr A.1.1) k)), some (.int (nI k)), some (.int (nI (R.getD 0 0))), some (.int (mk (gr A.1.1 k))), some (.int (nI R.length))], [.int (nI (low (gr A.1.1 k))), .int (nI (R.getD 0 0))], s2) _
          have hRne : R ≠ [] := fun z => by
            have := (R2 u).mpr hGu
            rw [z] at this
            cases this
          rw [← R4 hRne]
          refine xQ.go 1 (F1 := (bif decide ((nI (R.getD 0 0)) = (nI (R.getD 0 0))) then 122 else 120, [some (.ref 0), some (.ref 45), some (.int (fF (gr A.1.1) k)), some (.int (nI k)), some (.int (nI (R.getD 0 0))), some (.int (mk (gr A.1.1 k))), some (.int (nI R.length))], [], s2)) rfl ?_
          refine xQ.brT ((by simp)) ?_
          exact c_dtail hk hJ hk3 hG2 K
        · refine xQ.brT (decide_eq_true (mk_none (Bool.eq_false_iff.mpr ha))) ?_
          exact c_dtail hk hJ hk3 hG2 K
    by_cases ha : anyv (gr A.1.1 k) 10 = true
    · refine xQ.brT (by rw [decide_eq_false (mk_any ha)]; rfl) ?_
      refine xQ.go 2 (F1 := (25, [some (.ref 0), some (.ref 45), some (.int (fF (gr A.1.1) k)), some (.int (nI k)), none, none, none], [.int (nI k), .ref 45], s)) rfl ?_
      refine xQ.iald rfl (k := k) (rfl) (⟨by omega, by omega⟩) rfl ?_
      show xQ ML_isDrawn (26, [some (.ref 0), some (.ref 45), some (.int (fF (gr A.1.1) k)), some (.int (nI k)), none, none, none], [.int (s.1 45 k)], s) _
      rw [hG1 k hk]
      obtain ⟨u, hu, hGu⟩ := anyv_iff.mp ha
      refine xQ.call rfl (c_lowest hu hGu) ?_
      show xQ ML_isDrawn (29, [some (.ref 0), some (.ref 45), some (.int (fF (gr A.1.1) k)), some (.int (nI k)), none, none, none], [.int (nI (low (gr A.1.1 k)))], s) _
      have hRne : R ≠ [] := fun z => by
        have := (R2 u).mpr hGu
        rw [z] at this
        cases this
      rw [← R4 hRne]
      refine xQ.go 5 (F1 := (37, [some (.ref 0), some (.ref 45), some (.int (fF (gr A.1.1) k)), some (.int (nI k)), some (.int (nI (R.getD 0 0))), some (.int 0), some (.int 0)], [], s)) rfl ?_
      have e1 : mk (fun z => decide (z ∈ R.take 0)) = 0 := (mk_0.trans (mk_ext fun u _ => by simp)).symm
      rw [e1] at goon
      exact goon
    · refine xQ.brF (by rw [decide_eq_true (mk_none (Bool.eq_false_iff.mpr ha))]; rfl) ?_
      refine xQ.go 7 (F1 := (37, [some (.ref 0), some (.ref 45), some (.int (fF (gr A.1.1) k)), some (.int (nI k)), some (.int 0), some (.int 0), some (.int 0)], [], s)) rfl ?_
      have hRe : R = [] := by
        cases R with
        | nil => rfl
        | cons a t => exact absurd (anyv_iff.mpr ⟨a, hR10 a List.mem_cons_self, (R2 a).mp List.mem_cons_self⟩) ha
      have e0 : nI (R.getD 0 0) = 0 := by rw [hRe]; rfl
      have e1 : mk (fun z => decide (z ∈ R.take 0)) = 0 := (mk_0.trans (mk_ext fun u _ => by simp)).symm
      rw [e0, e1] at goon
      exact goon
  · intro s hI
    obtain ⟨hI1, hk1⟩ := hI
    refine xQ.go 3 (F1 := (bif decide (10 ≤ (nI 10)) then 166 else 13, [some (.ref 0), some (.ref 45), some (.int (fF (gr A.1.1) 10)), some (.int (nI 10)), none, none, none], [], s)) rfl ?_
    refine xQ.brT (rfl) ?_
    have hW := walks_ok hg hff
    obtain ⟨r1, w1, hc1, hr1, i1, kq1⟩ := C_walks hI1
    subst hr1
    have hGr : (trG A.1.1 100).2.length ≤ 48 := by
      have := trG_len hf
      omega
    rw [show qWalks A = nI (trG A.1.1 100).2.length by unfold qWalks; rw [if_pos hf]] at hc1
    refine xQ.go 1 (F1 := (167, [some (.ref 0), some (.ref 45), some (.int (fF (gr A.1.1) 10)), some (.int (nI 10)), none, none, none], [.ref 0], s)) rfl ?_
    refine xQ.call rfl (hc1) ?_
    show xQ ML_isDrawn (170, [some (.ref 0), some (.ref 45), some (.int (fF (gr A.1.1) 10)), some (.int (nI 10)), none, none, none], [.int (nI (trG A.1.1 100).2.length)], w1) _
    refine xQ.go 5 (F1 := (177, [some (.ref 0), some (.ref 45), some (.int (fF (gr A.1.1) 10)), some (.int (nI (trG A.1.1 100).2.length)), some (.int 0), some (.int 0), none], [], w1)) rfl ?_
    refine xQ.loop (S := xW) (fun k2 s2 => (177, [some (.ref 0), some (.ref 45), some (.int (fF (gr A.1.1) 10)), some (.int (nI (trG A.1.1 100).2.length)), some (.int (nI (off (trG A.1.1 100).2 k2))), some (.int (nI k2)), none], [], s2)) (fun _ s2 => cI s2 A ∧ xkq kC w s2) ((trG A.1.1 100).2.length) w1 (rfl) (⟨i1, xkq_trans hk1 kq1⟩) ?_ ?_
    · intro k2 s2 hk2 hI2 K2
      obtain ⟨hJ, hk3⟩ := hI2
      refine xQ.go 3 (F1 := (bif decide ((nI (trG A.1.1 100).2.length) ≤ (nI k2)) then 200 else 183, [some (.ref 0), some (.ref 45), some (.int (fF (gr A.1.1) 10)), some (.int (nI (trG A.1.1 100).2.length)), some (.int (nI (off (trG A.1.1 100).2 k2))), some (.int (nI k2)), none], [], s2)) rfl ?_
      refine xQ.brF (decide_eq_false (nI_ge hk2 (by omega))) ?_
      obtain ⟨r1, w2, hc2, hr1, i2, k4⟩ := C_wlen (x := nI k2) hJ
      subst hr1
      rw [qWLen_at hf hk2] at hc2
      refine xQ.go 3 (F1 := (188, [some (.ref 0), some (.ref 45), some (.int (fF (gr A.1.1) 10)), some (.int (nI (trG A.1.1 100).2.length)), some (.int (nI (off (trG A.1.1 100).2 k2))), some (.int (nI k2)), none], [.int (nI k2), .ref 0, .int (nI (off (trG A.1.1 100).2 k2))], s2)) rfl ?_
      refine xQ.call rfl (hc2) ?_
      show xQ ML_isDrawn (191, [some (.ref 0), some (.ref 45), some (.int (fF (gr A.1.1) 10)), some (.int (nI (trG A.1.1 100).2.length)), some (.int (nI (off (trG A.1.1 100).2 k2))), some (.int (nI k2)), none], [.int (nI ((trG A.1.1 100).2.getD k2 []).length), .int (nI (off (trG A.1.1 100).2 k2))], w2) _
      refine xQ.go 1 (F1 := (192, [some (.ref 0), some (.ref 45), some (.int (fF (gr A.1.1) 10)), some (.int (nI (trG A.1.1 100).2.length)), some (.int (nI (off (trG A.1.1 100).2 k2))), some (.int (nI k2)), none], [.int ((nI (off (trG A.1.1 100).2 k2)) + (nI ((trG A.1.1 100).2.getD k2 []).length))], w2)) rfl ?_
      rw [jI_add, ← off_succ (getD_of hk2 [])]
      refine xQ.go 3 (F1 := (177, [some (.ref 0), some (.ref 45), some (.int (fF (gr A.1.1) 10)), some (.int (nI (trG A.1.1 100).2.length)), some (.int (nI (off (trG A.1.1 100).2 (k2 + 1)))), some (.int ((nI k2) + 1)), none], [], w2)) rfl ?_
      rw [← nI_succ]
      exact K2 w2 ⟨i2, xkq_trans hk3 k4⟩
    · intro s2 hI2
      obtain ⟨hJ, hk3⟩ := hI2
      refine xQ.go 3 (F1 := (bif decide ((nI (trG A.1.1 100).2.length) ≤ (nI ((trG A.1.1 100).2.length))) then 200 else 183, [some (.ref 0), some (.ref 45), some (.int (fF (gr A.1.1) 10)), some (.int (nI (trG A.1.1 100).2.length)), some (.int (nI (off (trG A.1.1 100).2 ((trG A.1.1 100).2.length)))), some (.int (nI ((trG A.1.1 100).2.length))), none], [], s2)) rfl ?_
      refine xQ.brT (decide_eq_true (Int32.le_refl _)) ?_
      have hF : fF (gr A.1.1) 10 = nI (trG A.1.1 100).2.length := by
        have h1 := fF_eq (gr A.1.1) 10
        rw [← hW, ← jI_add] at h1
        exact (Int32.add_left_inj _).mp h1
      rw [hF, off_all, sum_len hf]
      show xQ ML_isDrawn (200, [some (.ref 0), some (.ref 45), some (.int (nI (trG A.1.1 100).2.length)), some (.int (nI (trG A.1.1 100).2.length)), some (.int (nI (2 * ec (gr A.1.1)))), some (.int (nI ((trG A.1.1 100).2.length))), none], [], s2) _
      refine xQ.go 3 (F1 := (bif !decide ((nI (trG A.1.1 100).2.length) = (nI (trG A.1.1 100).2.length)) then 238 else 205, [some (.ref 0), some (.ref 45), some (.int (nI (trG A.1.1 100).2.length)), some (.int (nI (trG A.1.1 100).2.length)), some (.int (nI (2 * ec (gr A.1.1)))), some (.int (nI ((trG A.1.1 100).2.length))), none], [], s2)) rfl ?_
      refine xQ.brF ((by simp)) ?_
      refine xQ.go 3 (F1 := (209, [some (.ref 0), some (.ref 45), some (.int (nI (trG A.1.1 100).2.length)), some (.int (nI (trG A.1.1 100).2.length)), some (.int (nI (2 * ec (gr A.1.1)))), some (.int (nI ((trG A.1.1 100).2.length))), none], [.ref 45, .int 2, .int (nI (2 * ec (gr A.1.1)))], s2)) rfl ?_
      refine xQ.call rfl (c_ledges hg (gI_kq hG hk3)) ?_
      show xQ ML_isDrawn (212, [some (.ref 0), some (.ref 45), some (.int (nI (trG A.1.1 100).2.length)), some (.int (nI (trG A.1.1 100).2.length)), some (.int (nI (2 * ec (gr A.1.1)))), some (.int (nI ((trG A.1.1 100).2.length))), none], [.int (nI (ec (gr A.1.1))), .int 2, .int (nI (2 * ec (gr A.1.1)))], s2) _
      refine xQ.go 1 (F1 := (213, [some (.ref 0), some (.ref 45), some (.int (nI (trG A.1.1 100).2.length)), some (.int (nI (trG A.1.1 100).2.length)), some (.int (nI (2 * ec (gr A.1.1)))), some (.int (nI ((trG A.1.1 100).2.length))), none], [.int (2 * (nI (ec (gr A.1.1)))), .int (nI (2 * ec (gr A.1.1)))], s2)) rfl ?_
      rw [show (2 : Int32) * nI (ec (gr A.1.1)) = nI (2 * ec (gr A.1.1)) from jI_mul 2 _]
      refine xQ.go 1 (F1 := (bif !decide ((nI (2 * ec (gr A.1.1))) = (nI (2 * ec (gr A.1.1)))) then 238 else 216, [some (.ref 0), some (.ref 45), some (.int (nI (trG A.1.1 100).2.length)), some (.int (nI (trG A.1.1 100).2.length)), some (.int (nI (2 * ec (gr A.1.1)))), some (.int (nI ((trG A.1.1 100).2.length))), none], [], s2)) rfl ?_
      refine xQ.brF ((by simp)) ?_
      obtain ⟨r1, w2, hc2, hr1, i2, k4⟩ := C_wlen (x := nI (trG A.1.1 100).2.length) hJ
      subst hr1
      rw [qWLen_no hf (kI_n (Nat.le_refl _) (by omega))] at hc2
      refine xQ.go 2 (F1 := (218, [some (.ref 0), some (.ref 45), some (.int (nI (trG A.1.1 100).2.length)), some (.int (nI (trG A.1.1 100).2.length)), some (.int (nI (2 * ec (gr A.1.1)))), some (.int (nI ((trG A.1.1 100).2.length))), none], [.int (nI (trG A.1.1 100).2.length), .ref 0], s2)) rfl ?_
      refine xQ.call rfl (hc2) ?_
      show xQ ML_isDrawn (221, [some (.ref 0), some (.ref 45), some (.int (nI (trG A.1.1 100).2.length)), some (.int (nI (trG A.1.1 100).2.length)), some (.int (nI (2 * ec (gr A.1.1)))), some (.int (nI ((trG A.1.1 100).2.length))), none], [.int (-1)], w2) _
      refine xQ.go 2 (F1 := (bif !decide ((-1) = (-1)) then 238 else 225, [some (.ref 0), some (.ref 45), some (.int (nI (trG A.1.1 100).2.length)), some (.int (nI (trG A.1.1 100).2.length)), some (.int (nI (2 * ec (gr A.1.1)))), some (.int (nI ((trG A.1.1 100).2.length))), none], [], w2)) rfl ?_
      refine xQ.brF ((by decide)) ?_
      obtain ⟨r1, w3, hc3, hr1, i3, k5⟩ := C_wlen (x := -1) i2
      subst hr1
      rw [qWLen_no hf (kI_m1 (by omega))] at hc3
      refine xQ.go 2 (F1 := (227, [some (.ref 0), some (.ref 45), some (.int (nI (trG A.1.1 100).2.length)), some (.int (nI (trG A.1.1 100).2.length)), some (.int (nI (2 * ec (gr A.1.1)))), some (.int (nI ((trG A.1.1 100).2.length))), none], [.int (-1), .ref 0], w2)) rfl ?_
      refine xQ.call rfl (hc3) ?_
      show xQ ML_isDrawn (230, [some (.ref 0), some (.ref 45), some (.int (nI (trG A.1.1 100).2.length)), some (.int (nI (trG A.1.1 100).2.length)), some (.int (nI (2 * ec (gr A.1.1)))), some (.int (nI ((trG A.1.1 100).2.length))), none], [.int (-1)], w3) _
      refine xQ.go 2 (F1 := (bif !decide ((-1) = (-1)) then 238 else 234, [some (.ref 0), some (.ref 45), some (.int (nI (trG A.1.1 100).2.length)), some (.int (nI (trG A.1.1 100).2.length)), some (.int (nI (2 * ec (gr A.1.1)))), some (.int (nI ((trG A.1.1 100).2.length))), none], [], w3)) rfl ?_
      refine xQ.brF ((by decide)) ?_
      refine xQ.go 2 (F1 := (239, [some (.ref 0), some (.ref 45), some (.int (nI (trG A.1.1 100).2.length)), some (.int (nI (trG A.1.1 100).2.length)), some (.int (nI (2 * ec (gr A.1.1)))), some (.int (nI ((trG A.1.1 100).2.length))), none], [.int 1], w3)) rfl ?_
      refine xQ.iret .boolean 1 rfl rfl (rfl) ?_
      exact ⟨rfl, i3, xkq_trans hk3 (xkq_trans k4 k5)⟩
