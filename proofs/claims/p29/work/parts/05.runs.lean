/-! one step, a call, an answer; what a run is -/
def xStrL : List (List Nat) := [[97, 100, 100, 32, 35, 45, 35], [100, 114, 111, 112, 32, 35, 45, 35], [102, 108, 105, 112, 32, 35, 45, 35], []]
def xsopS (M : xMI) (op : Option Nat) (F : xF) : Option xF := bif Nat.ble 5 (xm_f M) && Nat.ble 110 (xm_l M) && Nat.ble (F.2.2.1.map fun v => v.category).sum 8 then
    match op, F.2.2.1 with
    | some 0, .ref a :: st => match xStrL[a - 100]? with
      | some s => bif Nat.ble 100 a then some (F.1 + 3, F.2.1, .int (Int32.ofNat s.length) :: st, F.2.2.2) else none
      | none => none
    | some 1, .int i :: .ref a :: st => match xStrL[a - 100]? with
      | some s => bif Nat.ble 100 a && xin i s.length then some (F.1 + 3, F.2.1, .int (Int32.ofNat (s.getD i.toNatClampNeg 0)) :: st, F.2.2.2) else none
      | none => none
    | some 2, .ref a :: st => match xStrL[a - 100]? with
      | some s => bif Nat.ble 100 a then some (F.1 + 3, F.2.1, .int (bif Nat.beq s.length 0 then 1 else 0) :: st, F.2.2.2) else none
      | none => none
    | _, _ => none
  else none
def xs1i (M : xMI) (i : Instr) (n : Nat) (F : xF) : Option xF := match i with
  | .iconst k => xpush F 1 (.int (Int32.ofInt k))
  | .bipush k => xpush F 2 (.int (Int8.ofInt k).toInt32)
  | .sipush k => xpush F 3 (.int (Int16.ofInt k).toInt32)
  | .lconst k => xpush F 1 (.long (Int64.ofNat k))
  | .iload_n k => xld1 F 1 k
  | .iload k => xld1 F 2 k
  | .lload_n k => xld2 F 1 k
  | .lload k => xld2 F 2 k
  | .aload_n k => xlda F 1 k
  | .aload k => xlda F 2 k
  | .istore_n k => xsti F 1 k
  | .istore k => xsti F 2 k
  | .astore_n k => xsta F 1 k
  | .astore k => xsta F 2 k
  | .lstore_n k => xstl F 1 k
  | .lstore k => xstl F 2 k
  | .iinc k c => xinc F k c
  | .iadd => xb2 F (fun x y => x + y)
  | .isub => xb2 F (fun x y => x - y)
  | .imul => xb2 F (fun x y => x * y)
  | .iand => xb2 F (fun x y => x &&& y)
  | .ior => xb2 F (fun x y => x ||| y)
  | .ixor => xb2 F (fun x y => x ^^^ y)
  | .ishl => xb2 F (fun x y => x <<< (y &&& 31))
  | .ishr => xb2 F (fun x y => x >>> (y &&& 31))
  | .iushr => xb2 F (fun x y => (x.toUInt32 >>> (y.toUInt32 &&& Int32.toUInt32 31)).toInt32)
  | .idiv => xb0 F (fun x y => x / y)
  | .irem => xb0 F (fun x y => x - x / y * y)
  | .ineg => xb1 F (fun x => -x)
  | .dcmp .l => xdcmp F
  | .i2c => xb1 F (fun x => (x.toUInt32 % 65536).toInt32)
  | .land => xj2 F (fun x y => x &&& y)
  | .lor => xj2 F (fun x y => x ||| y)
  | .lxor => xj2 F (fun x y => x ^^^ y)
  | .ladd => xj2 F (fun x y => x + y)
  | .lsub => xj2 F (fun x y => x - y)
  | .lshl => xji F (fun x y => x <<< (y.toInt64 &&& 63))
  | .lushr => xji F (fun x y => (x.toUInt64 >>> (y.toInt64.toUInt64 &&& Int64.toUInt64 63)).toInt64)
  | .lcmp => xlcmp F
  | .l2i => xl2i F
  | .i2d => xi2d F
  | .ddiv => xddiv F
  | .dup => xdup F
  | .dup2 => xdup2 F
  | .pop => xpop F
  | .goto _ => some (n, F.2.1, F.2.2.1, F.2.2.2)
  | .ifCond .eq _ => xbr1 F n (fun x => decide (x = 0))
  | .ifCond .ne _ => xbr1 F n (fun x => !decide (x = 0))
  | .ifCond .lt _ => xbr1 F n (fun x => decide (x < 0))
  | .ifCond .ge _ => xbr1 F n (fun x => decide (0 ≤ x))
  | .ifCond .gt _ => xbr1 F n (fun x => decide (0 < x))
  | .ifCond .le _ => xbr1 F n (fun x => decide (x ≤ 0))
  | .if_icmp .eq _ => xbr2 F n (fun x y => decide (x = y))
  | .if_icmp .ne _ => xbr2 F n (fun x y => !decide (x = y))
  | .if_icmp .lt _ => xbr2 F n (fun x y => decide (x < y))
  | .if_icmp .ge _ => xbr2 F n (fun x y => decide (y ≤ x))
  | .if_icmp .gt _ => xbr2 F n (fun x y => decide (y < x))
  | .if_icmp .le _ => xbr2 F n (fun x y => decide (x ≤ y))
  | .tableswitch d lo hi offs => xtsw F d lo hi offs
  | .lookupswitch d ps => xlsw F d ps
  | .getfield k => xgetf (xm_c M) (xflk (xm_c M) k) F
  | .putfield k => xputf (xflk (xm_c M) k) F
  | .iaload => xiald F
  | .laload => xlald F
  | .iastore => xiast F
  | .lastore => xlast F
  | .arraylength => xalen F
  | .ldc k => xldc1 (xcon (xm_c M) k) F
  | .ldc_w k => xldcw (xcon (xm_c M) k) F
  | .ldc2_w k => xldc2 (xcon (xm_c M) k) F
  | .invokestatic k => xmath M (xprm (xm_c M) k) F
  | .invokevirtual k => xsopS M (xsop (xm_c M) k) F
  | _ => none
def xs1 (M : xMI) (F : xF) : Option xF := match xfind (xm_t M) F.1 with
  | some (i, n) => xs1i M i n F
  | none => none
/-- k steps -/
def xsn (M : xMI) : Nat → xF → Option xF
  | 0, F => some F
  | k + 1, F => match xs1 M F with
    | some F1 => xsn M k F1
    | none => none
/-- a method's locals at its entry -/
def xarg : List Value → xL
  | [] => []
  | v :: vs => bif Nat.beq v.category 2 then some v :: none :: xarg vs else some v :: xarg vs
def xent (M : xMI) (as : List Value) (w : xW) : xF := (0, xarg as ++ List.replicate (xm_n M - (xarg as).length) none, [], w)
def xfit (M M2 : xMI) (as st : List Value) : Bool := Nat.ble (xm_f M2 + 1) (xm_f M) && Nat.ble (8 + (xm_n M2 + 11) + xm_l M2) (xm_l M) && Nat.beq as.length (xm_a M2) && Nat.ble (st.map fun v => v.category).sum 8 && Nat.ble (xarg as).length (xm_n M2)
/-- a call: the method, its arguments (the receiver first), the frame behind it without the answer -/
def xcal1 (M : xMI) (vi : Bool) (lk : Option (Nat × xMI)) (F : xF) : Option (xMI × List Value × xF) := match lk with
  | some (kd, M2) => bif vi then
      match F.2.2.1.drop (xm_a M2) with
      | .ref b :: st => match xshp b with
        | some (.inr (.inr (c, _))) => bif Nat.beq kd 2 && Nat.beq c (xm_c M2) && xfit M M2 (F.2.2.1.take (xm_a M2)).reverse st && Nat.ble ((xarg (F.2.2.1.take (xm_a M2)).reverse).length + 1) (xm_n M2) then some (M2, .ref b :: (F.2.2.1.take (xm_a M2)).reverse, (F.1 + 3, F.2.1, st, F.2.2.2)) else none
        | _ => none
      | _ => none
    else bif Nat.ble kd 1 && xfit M M2 (F.2.2.1.take (xm_a M2)).reverse (F.2.2.1.drop (xm_a M2)) then some (M2, (F.2.2.1.take (xm_a M2)).reverse, (F.1 + 3, F.2.1, F.2.2.1.drop (xm_a M2), F.2.2.2)) else none
  | none => none
def xcal (M : xMI) (F : xF) : Option (xMI × List Value × xF) := match xfind (xm_t M) F.1 with
  | some (.invokestatic k, _) => xcal1 M false (xlnk (xm_c M) k) F
  | some (.invokevirtual k, _) => xcal1 M true (xlnk (xm_c M) k) F
  | _ => none
def xpsh (F : xF) (r : Option Value) (w : xW) : xF := (F.1, F.2.1, r.toList ++ F.2.2.1, w)
/-- an answer -/
def xret (M : xMI) (F : xF) (r : Option Value) : Prop :=
  (∃ v ty n, xfind (xm_t M) F.1 = some (.ireturn, n) ∧ F.2.2.1 = [.int v] ∧ r = some (.int v) ∧ xm_r M = some ty ∧ narrow ty (.int v) = .int v) ∨
  (∃ v n, xfind (xm_t M) F.1 = some (.lreturn, n) ∧ F.2.2.1 = [.long v] ∧ r = some (.long v) ∧ xm_r M = some .long) ∨
  (∃ v n, xfind (xm_t M) F.1 = some (.dreturn, n) ∧ F.2.2.1 = [.double v] ∧ r = some (.double v) ∧ xm_r M = some .double) ∨
  (∃ v n nm, xfind (xm_t M) F.1 = some (.areturn, n) ∧ F.2.2.1 = [.ref v] ∧ r = some (.ref v) ∧ xm_r M = some (.object nm)) ∨
  (∃ n, xfind (xm_t M) F.1 = some (.return_, n) ∧ F.2.2.1 = [] ∧ r = none ∧ xm_r M = none)
/-- fewer locals -/
def xle (L1 L2 : xL) : Prop := ∀ (i : Nat) (v : Value), L1[i]? = some (some v) → L2[i]? = some (some v)
/-- the new array of isForbidden: it is cell 47 now -/
def xnew (w : xW) : xW := (xup (xup w.1 47 (fun _ => 0)) 48 (xup (w.1 48) 0 1), w.2)
/-- it is no more to be had -/
def xend (w : xW) : xW := (xup w.1 48 (xup (xup (w.1 48) 0 0) 1 1), w.2)
/-- isForbidden, its array made -/
def xfe (w : xW) : xF := (5, [some (.ref 0), some (.ref 45), some (.ref 47), none, none, none, none, none, none, none, none], [], xnew w)
def xrule (P : xMI → xF → Option Value → xW → Prop) : Prop :=
  (∀ M F F1 r w1, xs1 M F = some F1 → P M F1 r w1 → P M F r w1) ∧
  (∀ M F r, xret M F r → P M F r F.2.2.2) ∧
  (∀ M F M2 as F1 r2 w2 r w1, xcal M F = some (M2, as, F1) → P M2 (xent M2 as F.2.2.2) r2 w2 → P M (xpsh F1 r2 w2) r w1 → P M F r w1) ∧
  (∀ M pc L1 L2 st w r w1, L1.length = L2.length → xle L1 L2 → P M (pc, L1, st, w) r w1 → P M (pc, L2, st, w) r w1) ∧
  (∀ M F F1 r2 w3 r w1, xcal M F = some (ML_isForbidden, [.ref 0, .ref 45], F1) → F.2.2.2.1 48 0 = 0 → F.2.2.2.1 48 1 = 0 → w3.1 48 0 = 1 → w3.1 48 1 = 0 → P ML_isForbidden (xfe F.2.2.2) r2 w3 → P M (xpsh F1 r2 (xend w3)) r w1 → P M F r w1)
/-- from this frame the method comes to its end with the answer r, the world being w1 then -/
def xE (M : xMI) (F : xF) (r : Option Value) (w1 : xW) : Prop := ∀ P : xMI → xF → Option Value → xW → Prop, xrule P → P M F r w1
/-- called with these arguments in the world w it answers r and leaves w1 -/
def xC (M : xMI) (as : List Value) (w : xW) (r : Option Value) (w1 : xW) : Prop := xE M (xent M as w) r w1
theorem xE.step {M : xMI} {F F1 : xF} {r : Option Value} {w1 : xW} (h : xs1 M F = some F1) (k : xE M F1 r w1) : xE M F r w1 := fun P hP => hP.1 M F F1 r w1 h (k P hP)
theorem xE.go {M : xMI} {r : Option Value} {w1 : xW} : ∀ (n : Nat) {F F1 : xF}, xsn M n F = some F1 → xE M F1 r w1 → xE M F r w1
  | 0, F, F1, h, k => by cases h; exact k
  | n + 1, F, F1, h, k => by
    unfold xsn at h
    cases h1 : xs1 M F with
    | none => rw [h1] at h; cases h
    | some F2 =>
      rw [h1] at h
      exact xE.step h1 (xE.go n h k)
theorem xE.ret {M : xMI} {F : xF} {r : Option Value} {w : xW} (hw : F.2.2.2 = w) (h : xret M F r) : xE M F r w := fun P hP => by subst hw; exact hP.2.1 M F r h
theorem xE.iret {M : xMI} {pc : Nat} {L : xL} {v : Int32} {w : xW} (ty : FieldType) (n : Nat) (h : xfind (xm_t M) pc = some (.ireturn, n)) (hr : xm_r M = some ty) (hn : narrow ty (.int v) = .int v) : xE M (pc, L, [.int v], w) (some (.int v)) w := xE.ret rfl (Or.inl ⟨v, ty, n, h, rfl, rfl, hr, hn⟩)
theorem xE.lret {M : xMI} {pc : Nat} {L : xL} {v : Int64} {w : xW} (n : Nat) (h : xfind (xm_t M) pc = some (.lreturn, n)) (hr : xm_r M = some .long) : xE M (pc, L, [.long v], w) (some (.long v)) w := xE.ret rfl (Or.inr (Or.inl ⟨v, n, h, rfl, rfl, hr⟩))
theorem xE.dret {M : xMI} {pc : Nat} {L : xL} {v : UInt64} {w : xW} (n : Nat) (h : xfind (xm_t M) pc = some (.dreturn, n)) (hr : xm_r M = some .double) : xE M (pc, L, [.double v], w) (some (.double v)) w := xE.ret rfl (Or.inr (Or.inr (Or.inl ⟨v, n, h, rfl, rfl, hr⟩)))
theorem xE.aret {M : xMI} {pc : Nat} {L : xL} {v : Nat} {w : xW} (n : Nat) (nm : String) (h : xfind (xm_t M) pc = some (.areturn, n)) (hr : xm_r M = some (.object nm)) : xE M (pc, L, [.ref v], w) (some (.ref v)) w := xE.ret rfl (Or.inr (Or.inr (Or.inr (Or.inl ⟨v, n, nm, h, rfl, rfl, hr⟩))))
theorem xE.vret {M : xMI} {pc : Nat} {L : xL} {w : xW} (n : Nat) (h : xfind (xm_t M) pc = some (.return_, n)) (hr : xm_r M = none) : xE M (pc, L, [], w) none w := xE.ret rfl (Or.inr (Or.inr (Or.inr (Or.inr ⟨n, h, rfl, rfl, hr⟩))))
theorem xE.call {M : xMI} {F : xF} {M2 : xMI} {as : List Value} {F1 : xF} {r2 : Option Value} {w2 : xW} {r : Option Value} {w1 : xW} (h : xcal M F = some (M2, as, F1)) (h2 : xC M2 as F.2.2.2 r2 w2) (k : xE M (xpsh F1 r2 w2) r w1) : xE M F r w1 := fun P hP => hP.2.2.1 M F M2 as F1 r2 w2 r w1 h (h2 P hP) (k P hP)
theorem xE.forb {M : xMI} {F F1 : xF} {r2 : Option Value} {w3 : xW} {r : Option Value} {w1 : xW} (h : xcal M F = some (ML_isForbidden, [.ref 0, .ref 45], F1)) (h0 : F.2.2.2.1 48 0 = 0) (h1 : F.2.2.2.1 48 1 = 0) (h2 : w3.1 48 0 = 1) (h3 : w3.1 48 1 = 0) (b : xE ML_isForbidden (xfe F.2.2.2) r2 w3) (k : xE M (xpsh F1 r2 (xend w3)) r w1) : xE M F r w1 := fun P hP => hP.2.2.2.2 M F F1 r2 w3 r w1 h h0 h1 h2 h3 (b P hP) (k P hP)
/-- a branch -/
theorem xE.br {M : xMI} {c : Bool} {a b : Nat} {L : xL} {st : List Value} {w : xW} {r : Option Value} {w1 : xW} (kt : c = true → xE M (a, L, st, w) r w1) (kf : c = false → xE M (b, L, st, w) r w1) : xE M (bif c then a else b, L, st, w) r w1 := by
  cases c with
  | true => exact kt rfl
  | false => exact kf rfl
def xleb : xL → xL → Prop
  | [], [] => True
  | none :: l1, _ :: l2 => xleb l1 l2
  | some v :: l1, u :: l2 => u = some v ∧ xleb l1 l2
  | _, _ => False
theorem xleb_le : ∀ {L1 L2 : xL}, xleb L1 L2 → L1.length = L2.length ∧ xle L1 L2
  | [], [], _ => ⟨rfl, fun _ _ h => h⟩
  | none :: l1, u :: l2, h => by
    obtain ⟨h1, h2⟩ := xleb_le (L1 := l1) (L2 := l2) h
    refine ⟨by simp [h1], fun i v hi => ?_⟩
    cases i with
    | zero => simp at hi
    | succ i => exact h2 i v hi
  | some v :: l1, u :: l2, h => by
    obtain ⟨h0, h⟩ := h
    obtain ⟨h1, h2⟩ := xleb_le (L1 := l1) (L2 := l2) h
    refine ⟨by simp [h1], fun i x hi => ?_⟩
    cases i with
    | zero => rw [h0]; exact hi
    | succ i => exact h2 i x hi
theorem xE.less {M : xMI} {pc : Nat} {L2 : xL} {st : List Value} {w : xW} {r : Option Value} {w1 : xW} (L1 : xL) (h : xleb L1 L2) (k : xE M (pc, L1, st, w) r w1) : xE M (pc, L2, st, w) r w1 := fun P hP => hP.2.2.2.1 M pc L1 L2 st w r w1 (xleb_le h).1 (xleb_le h).2 (k P hP)
theorem xE.brT {M : xMI} {c : Bool} {a b : Nat} {L : xL} {st : List Value} {w : xW} {r : Option Value} {w1 : xW} (h : c = true) (k : xE M (a, L, st, w) r w1) : xE M (bif c then a else b, L, st, w) r w1 := by
  subst h
  exact k
theorem xE.brF {M : xMI} {c : Bool} {a b : Nat} {L : xL} {st : List Value} {w : xW} {r : Option Value} {w1 : xW} (h : c = false) (k : xE M (b, L, st, w) r w1) : xE M (bif c then a else b, L, st, w) r w1 := by
  subst h
  exact k
theorem xin_nI {k n : Nat} (h : k < n) (hn : n < 2 ^ 31) : xin (nI k) n = true := by
  have h2 := nI_clamp (n := k) (by omega)
  unfold xin
  rw [h2, decide_eq_false (nI_pos (by omega))]
  exact Nat.ble_eq.mpr h
theorem xs1_of {M : xMI} {F : xF} {i : Instr} {n : Nat} (h : xfind (xm_t M) F.1 = some (i, n)) : xs1 M F = xs1i M i n F := by
  unfold xs1
  rw [h]
theorem xE.alen {M : xMI} {pc a n : Nat} {L : xL} {st : List Value} {w : xW} {r : Option Value} {w1 : xW} (hs : xshp a = some (.inl n)) (h : xfind (xm_t M) pc = some (.arraylength, 1)) (k : xE M (pc + 1, L, .int (Int32.ofNat n) :: st, w) r w1) : xE M (pc, L, .ref a :: st, w) r w1 := by
  refine xE.step ((xs1_of h).trans ?_) k
  simp only [xs1i, xalen, hs]
theorem xE.iald {M : xMI} {pc a n : Nat} {L : xL} {st : List Value} {w : xW} {r : Option Value} {w1 : xW} {i : Int32} (hs : xshp a = some (.inl n)) {k : Nat} (hi : i = nI k) (hk : k < n ∧ n < 2 ^ 31) (h : xfind (xm_t M) pc = some (.iaload, 1)) (kk : xE M (pc + 1, L, .int (w.1 a k) :: st, w) r w1) : xE M (pc, L, .int i :: .ref a :: st, w) r w1 := by
  subst hi
  refine xE.step ((xs1_of h).trans ?_) kk
  simp only [xs1i, xiald, hs, xin_nI hk.1 hk.2, cond_true, nI_clamp (n := k) (by omega)]
theorem xE.lald {M : xMI} {pc a n : Nat} {L : xL} {st : List Value} {w : xW} {r : Option Value} {w1 : xW} {i : Int32} (hs : xshp a = some (.inr (.inl n))) {k : Nat} (hi : i = nI k) (hk : k < n ∧ n < 2 ^ 31) (h : xfind (xm_t M) pc = some (.laload, 1)) (kk : xE M (pc + 1, L, .long (w.2 a k) :: st, w) r w1) : xE M (pc, L, .int i :: .ref a :: st, w) r w1 := by
  subst hi
  refine xE.step ((xs1_of h).trans ?_) kk
  simp only [xs1i, xlald, hs, xin_nI hk.1 hk.2, cond_true, nI_clamp (n := k) (by omega)]
theorem xE.iast {M : xMI} {pc a n : Nat} {L : xL} {st : List Value} {w : xW} {r : Option Value} {w1 : xW} {i x : Int32} (hs : xshp a = some (.inl n)) {k : Nat} (hi : i = nI k) (hk : k < n ∧ n < 2 ^ 31) (h : xfind (xm_t M) pc = some (.iastore, 1)) (kk : xE M (pc + 1, L, st, xuI w a k x) r w1) : xE M (pc, L, .int x :: .int i :: .ref a :: st, w) r w1 := by
  subst hi
  refine xE.step ((xs1_of h).trans ?_) kk
  simp only [xs1i, xiast, hs, xin_nI hk.1 hk.2, cond_true, nI_clamp (n := k) (by omega)]
theorem xE.last {M : xMI} {pc a n : Nat} {L : xL} {st : List Value} {w : xW} {r : Option Value} {w1 : xW} {i : Int32} {x : Int64} (hs : xshp a = some (.inr (.inl n))) {k : Nat} (hi : i = nI k) (hk : k < n ∧ n < 2 ^ 31) (h : xfind (xm_t M) pc = some (.lastore, 1)) (kk : xE M (pc + 1, L, st, xuJ w a k x) r w1) : xE M (pc, L, .long x :: .int i :: .ref a :: st, w) r w1 := by
  subst hi
  refine xE.step ((xs1_of h).trans ?_) kk
  simp only [xs1i, xlast, hs, xin_nI hk.1 hk.2, cond_true, nI_clamp (n := k) (by omega)]
/-- a loop that counts up to N, told at its head -/
theorem xE.up {S : Type} {M : xMI} {r : Option Value} {w1 : xW} {hd : Nat → S → xF} (I : Nat → S → Prop) (N : Nat) (step : ∀ (k : Nat) (s : S), k < N → I k s → (∀ s', I (k + 1) s' → xE M (hd (k + 1) s') r w1) → xE M (hd k s) r w1) (fin : ∀ s, I N s → xE M (hd N s) r w1) : ∀ (k : Nat) (s : S), k ≤ N → I k s → xE M (hd k s) r w1 := by
  have key : ∀ (n k : Nat) (s : S), k + n = N → I k s → xE M (hd k s) r w1 := by
    intro n
    induction n with
    | zero =>
      intro k s hk hI
      have : k = N := by omega
      subst this
      exact fin s hI
    | succ n ih =>
      intro k s hk hI
      exact step k s (by omega) hI (fun s' h' => ih (k + 1) s' (by omega) h')
  exact fun k s hk hI => key (N - k) k s (by omega) hI
