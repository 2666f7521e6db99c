/-! isDrawn */ -/
/-- the neighbors of v, in their order, from the least on -/
theorem around_ex {G : Nat → Nat → Bool} (hg : gok G) (hf : flt G (blks G 100) = true) (v : Nat) : ∃ R : List Nat, R.Nodup ∧ (∀ x, x ∈ R ↔ G v x = true) ∧ R.length = cnt (G v) 10 ∧ (R ≠ [] → R.getD 0 0 = low (G v)) ∧ ∀ k, k < R.length → nxt G v (R.getD k 0) = R.getD ((k + 1) % R.length) 0 := by
  have hn := ord_nodup hg (blks_ok hg 100 (Nat.le_refl _)) hf v
  have hm : ∀ x, x ∈ ord G (blks G 100) v ↔ G v x = true := fun x => ord_mem hg hf
  have fin : ∀ R : List Nat, R.Nodup → (∀ x, x ∈ R ↔ G v x = true) → (∀ q, q ∈ dts R → q ∈ dts (ord G (blks G 100) v)) → R.length = cnt (G v) 10 ∧ ∀ k, k < R.length → nxt G v (R.getD k 0) = R.getD ((k + 1) % R.length) 0 := by
    intro R h1 h2 h3
    refine ⟨?_, fun k hk => nxt_of hg hf (h3 _ (dts_get (i := k) ?_ ?_))⟩
    · rw [← cnt_list h1 (fun x hx => (hg.2.2 _ _ ((h2 x).mp hx)).2)]
      exact cnt_ext fun x _ => by
        cases hx : G v x with
        | true => exact decide_eq_true ((h2 x).mpr hx)
        | false => exact decide_eq_false (fun z => by rw [(h2 x).mp z] at hx; cases hx)
    · rw [List.getElem?_eq_getElem hk, List.getD_eq_getElem?_getD, List.getElem?_eq_getElem hk]
      rfl
    · have hlt := Nat.mod_lt (k + 1) (show 0 < R.length by omega)
      rw [List.getElem?_eq_getElem hlt, List.getD_eq_getElem?_getD, List.getElem?_eq_getElem hlt]
      rfl
  by_cases he : ord G (blks G 100) v = []
  · refine ⟨[], List.nodup_nil, fun x => ?_, ?_, fun z => absurd rfl z, fun k hk => absurd hk (Nat.not_lt_zero _)⟩
    · rw [← hm, he]
    · have := (fin [] List.nodup_nil (fun x => by rw [← hm, he]) (fun q hq => by cases hq)).1
      exact this
  · obtain ⟨x, hx⟩ := List.exists_mem_of_ne_nil _ he
    have hGx := (hm x).mp hx
    have hl := low_some (hg.2.2 _ _ hGx).2 hGx
    obtain ⟨A, B, e⟩ := List.append_of_mem ((hm _).mpr hl.2)
    have hperm : (ord G (blks G 100) v).Perm (low (G v) :: B ++ A) := by
      rw [e]
      exact List.perm_append_comm
    obtain ⟨f1, f2⟩ := fin (low (G v) :: B ++ A) (hperm.nodup_iff.mp hn) (fun z => by rw [← hm, hperm.mem_iff]) (fun q hq => by
      rw [e]
      exact (dts_rot A (low (G v) :: B) q).mpr hq)
    exact ⟨low (G v) :: B ++ A, hperm.nodup_iff.mp hn, fun z => by rw [← hm, hperm.mem_iff], f1, fun _ => rfl, f2⟩
/-- the faces, as far as the vertices are counted -/
def fF (G : Nat → Nat → Bool) : Nat → Int32
  | 0 => nI (ec G)
  | k + 1 => fF G k - (if anyv (G k) 10 = true then 1 else 0) + (if (anyv (G k) 10 && rep G k) = true then 2 else 0)
theorem i32_a (x y z : Int32) : x - 0 + 0 + y = x + y := by
  apply Int32.toBitVec_inj.mp
  simp
theorem fF_eq (G : Nat → Nat → Bool) : ∀ k, fF G k + nI (cnt (fun v => anyv (G v) 10) k) = nI (ec G + 2 * cnt (fun v => anyv (G v) 10 && rep G v) k)
  | 0 => by
    show nI (ec G) + nI 0 = nI (ec G + 2 * 0)
    rw [jI_add]
    rfl
  | k + 1 => by
    have ih := fF_eq G k
    have e1 : cnt (fun v => anyv (G v) 10) (k + 1) = cnt (fun v => anyv (G v) 10) k + (if anyv (G k) 10 = true then 1 else 0) := by
      show _ + _ = _
      cases anyv (G k) 10 <;> rfl
    have e2 : cnt (fun v => anyv (G v) 10 && rep G v) (k + 1) = cnt (fun v => anyv (G v) 10 && rep G v) k + (if (anyv (G k) 10 && rep G k) = true then 1 else 0) := by
      show _ + _ = _
      cases (anyv (G k) 10 && rep G k) <;> rfl
    rw [e1, e2]
    show fF G k - (if anyv (G k) 10 = true then 1 else 0) + (if (anyv (G k) 10 && rep G k) = true then 2 else 0) + nI _ = _
    rw [Nat.mul_add, ← Nat.add_assoc, ← jI_add, ← jI_add (ec G + _), ← ih]
    generalize fF G k = x
    generalize nI (cnt (fun v => anyv (G v) 10) k) = y
    apply Int32.toBitVec_inj.mp
    cases anyv (G k) 10 <;> cases rep G k <;> simp <;> bv_omega
theorem gI_kq {w w1 : xW} {G : Nat → Nat → Bool} (h : gI w G) (k : xkq kC w w1) : gI w1 G := fun v hv => ((k 45 v rfl).1).trans (h v hv)
theorem mk_any {S : Nat → Bool} (h : anyv S 10 = true) : mk S ≠ 0 := fun z => by
  obtain ⟨u, hu, h1⟩ := anyv_iff.mp h
  rw [mk_zero.mp z u hu] at h1
  cases h1
theorem mk_none {S : Nat → Bool} (h : anyv S 10 = false) : mk S = 0 := mk_zero.mpr fun v hv => by
  cases h1 : S v with
  | false => rfl
  | true => rw [anyv_iff.mpr ⟨v, hv, h1⟩] at h; cases h
theorem qNext_at {A : xAb} {a b : Nat} (ha : a < 10) (hb : b < 10) (h : gr A.1.1 a b = true) (hf : fl A.1.1 = true) : qNext A (nI a) (nI b) = nI (nxt (gr A.1.1) a b) := by
  unfold qNext vI
  rw [kI_of ha (by omega), kI_of hb (by omega)]
  dsimp only
  rw [if_pos h, if_pos hf]
theorem kI_n {n m : Nat} (h : n ≤ m) (hm : m < 2 ^ 31) : kI n (nI m) = none := by
  cases e : kI n (nI m) with
  | none => rfl
  | some a =>
    obtain ⟨h1, h2⟩ := kI_some e
    have := jI_inj hm (by omega) h2
    omega
theorem kI_m1 {n : Nat} (h : n < 2 ^ 31) : kI n (-1) = none := by
  cases e : kI n (-1) with
  | none => rfl
  | some a =>
    obtain ⟨h1, h2⟩ := kI_some e
    have h3 : (-1 : Int32) < 0 := by decide
    rw [h2] at h3
    exact absurd h3 (nI_pos (by omega))
theorem c_dtail {w s : xW} {A : xAb} {k : Nat} (hk : k < 10) {a b : Int32} (hI : cI s A) (hkq : xkq kC w s) (hG : gI s (gr A.1.1)) (K : ∀ s', cI s' A ∧ xkq kC w s' → xQ ML_isDrawn (7, [some (.ref 0), some (.ref 45), some (.int (fF (gr A.1.1) (k + 1))), some (.int (nI (k + 1))), none, none, none], [], s') (cV w A 1)) : xQ ML_isDrawn (122, [some (.ref 0), some (.ref 45), some (.int (fF (gr A.1.1) k)), some (.int (nI k)), some (.int a), some (.int (mk (gr A.1.1 k))), some (.int b)], [], s) (cV w A 1) := by
  have K := K s ⟨hI, hkq⟩
  unfold fF at K
  refine xQ.go 3 (F1 := (bif decide ((mk (gr A.1.1 k)) = 0) then 132 else 128, [some (.ref 0), some (.ref 45), some (.int (fF (gr A.1.1) k)), some (.int (nI k)), some (.int a), some (.int (mk (gr A.1.1 k))), some (.int b)], [.int (fF (gr A.1.1) k)], s)) rfl ?_
  cases ha : anyv (gr A.1.1 k) 10 with
  | false =>
    rw [ha] at K
    refine xQ.brT (decide_eq_true (mk_none ha)) ?_
    refine xQ.go 6 (F1 := (bif decide ((mk (gr A.1.1 k)) = 0) then 157 else 141, [some (.ref 0), some (.ref 45), some (.int ((fF (gr A.1.1) k) - 0)), some (.int (nI k)), some (.int a), some (.int (mk (gr A.1.1 k))), some (.int b)], [.int ((fF (gr A.1.1) k) - 0)], s)) rfl ?_
    refine xQ.brT (decide_eq_true (mk_none ha)) ?_
    refine xQ.go 5 (F1 := (7, [some (.ref 0), some (.ref 45), some (.int (((fF (gr A.1.1) k) - 0) + 0)), some (.int ((nI k) + 1)), some (.int a), some (.int (mk (gr A.1.1 k))), some (.int b)], [], s)) rfl ?_
    rw [← nI_succ]
    refine xQ.less [some (.ref 0), some (.ref 45), some (.int (((fF (gr A.1.1) k) - 0) + 0)), some (.int (nI (k + 1))), none, none, none] (by simp [xleb]) ?_
    exact K
  | true =>
    rw [ha] at K
    refine xQ.brF (decide_eq_false (mk_any ha)) ?_
    refine xQ.go 7 (F1 := (bif decide ((mk (gr A.1.1 k)) = 0) then 157 else 141, [some (.ref 0), some (.ref 45), some (.int ((fF (gr A.1.1) k) - 1)), some (.int (nI k)), some (.int a), some (.int (mk (gr A.1.1 k))), some (.int b)], [.int ((fF (gr A.1.1) k) - 1)], s)) rfl ?_
    refine xQ.brF (decide_eq_false (mk_any ha)) ?_
    refine xQ.go 2 (F1 := (143, [some (.ref 0), some (.ref 45), some (.int ((fF (gr A.1.1) k) - 1)), some (.int (nI k)), some (.int a), some (.int (mk (gr A.1.1 k))), some (.int b)], [.ref 45, .int (nI k), .int ((fF (gr A.1.1) k) - 1)], s)) rfl ?_
    refine xQ.call rfl (c_joined hk hG) ?_
    show xQ ML_isDrawn (146, [some (.ref 0), some (.ref 45), some (.int ((fF (gr A.1.1) k) - 1)), some (.int (nI k)), some (.int a), some (.int (mk (gr A.1.1 k))), some (.int b)], [.int (mk (kc (gr A.1.1) k)), .int ((fF (gr A.1.1) k) - 1)], s) _
    refine xQ.call rfl (c_lowest hk (kc_self _ k)) ?_
    show xQ ML_isDrawn (149, [some (.ref 0), some (.ref 45), some (.int ((fF (gr A.1.1) k) - 1)), some (.int (nI k)), some (.int a), some (.int (mk (gr A.1.1 k))), some (.int b)], [.int (nI (low (kc (gr A.1.1) k))), .int ((fF (gr A.1.1) k) - 1)], s) _
    refine xQ.go 2 (F1 := (bif !decide ((nI (low (kc (gr A.1.1) k))) = (nI k)) then 157 else 153, [some (.ref 0), some (.ref 45), some (.int ((fF (gr A.1.1) k) - 1)), some (.int (nI k)), some (.int a), some (.int (mk (gr A.1.1 k))), some (.int b)], [.int ((fF (gr A.1.1) k) - 1)], s)) rfl ?_
    have hlow := kc_low (G := gr A.1.1) hk
    by_cases hr : low (kc (gr A.1.1) k) = k
    · have hrep : rep (gr A.1.1) k = true := decide_eq_true hr
      rw [hrep] at K
      rw [hr]
      refine xQ.brF (by simp) ?_
      refine xQ.go 6 (F1 := (7, [some (.ref 0), some (.ref 45), some (.int (((fF (gr A.1.1) k) - 1) + 2)), some (.int ((nI k) + 1)), some (.int a), some (.int (mk (gr A.1.1 k))), some (.int b)], [], s)) rfl ?_
      rw [← nI_succ]
      refine xQ.less [some (.ref 0), some (.ref 45), some (.int (((fF (gr A.1.1) k) - 1) + 2)), some (.int (nI (k + 1))), none, none, none] (by simp [xleb]) ?_
      exact K
    · have hrep : rep (gr A.1.1) k = false := decide_eq_false hr
      rw [hrep] at K
      refine xQ.brT (by rw [Bool.not_eq_true', decide_eq_false_iff_not]; exact fun z => hr (jI_inj (by omega) (by omega) z)) ?_
      refine xQ.go 5 (F1 := (7, [some (.ref 0), some (.ref 45), some (.int (((fF (gr A.1.1) k) - 1) + 0)), some (.int ((nI k) + 1)), some (.int a), some (.int (mk (gr A.1.1 k))), some (.int b)], [], s)) rfl ?_
      rw [← nI_succ]
      refine xQ.less [some (.ref 0), some (.ref 45), some (.int (((fF (gr A.1.1) k) - 1) + 0)), some (.int (nI (k + 1))), none, none, none] (by simp [xleb]) ?_
      exact K
