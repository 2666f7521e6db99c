/-! A SMALL MACHINE: a world of 48 cells (cell 47 is there in isForbidden alone; cell 48 isn't there: it says whether 47 is, and how often one was made) of known shape, numbers as functions; one step of a method's own code, calls by their links. Its runs are runs of the kit's machine (part 05). -/
abbrev xW : Type := (Nat → Nat → Int32) × (Nat → Nat → Int64)
abbrev xL : Type := List (Option Value)
abbrev xF : Type := Nat × xL × List Value × xW
/-- name, code, locals, what it returns, class, frames and locals that it needs, arguments beside the receiver, its instructions -/
abbrev xMI : Type := MethodName × ByteArray × Nat × Option FieldType × Nat × (Nat × Nat) × Nat × List (Nat × Instr × Nat)
abbrev xm_y (M : xMI) : MethodName := M.1
abbrev xm_b (M : xMI) : ByteArray := M.2.1
abbrev xm_n (M : xMI) : Nat := M.2.2.1
abbrev xm_r (M : xMI) : Option FieldType := M.2.2.2.1
abbrev xm_c (M : xMI) : Nat := M.2.2.2.2.1
abbrev xm_f (M : xMI) : Nat := M.2.2.2.2.2.1.1
abbrev xm_l (M : xMI) : Nat := M.2.2.2.2.2.1.2
abbrev xm_a (M : xMI) : Nat := M.2.2.2.2.2.2.1
abbrev xm_t (M : xMI) : List (Nat × Instr × Nat) := M.2.2.2.2.2.2.2
def xfind {α : Type} : List (Nat × α) → Nat → Option α
  | [], _ => none
  | q :: l, n => bif Nat.beq q.1 n then some q.2 else xfind l n
theorem xfind_mem {α : Type} : ∀ {l : List (Nat × α)} {n : Nat} {v : α}, xfind l n = some v → (n, v) ∈ l
  | [], _, _, h => by cases h
  | q :: l, n, v, h => by
    unfold xfind at h
    cases hq : Nat.beq q.1 n with
    | true =>
      rw [hq] at h
      have h1 : q.1 = n := Nat.eq_of_beq_eq_true hq
      have h2 : q.2 = v := Option.some.inj h
      rw [← h1, ← h2]
      exact List.mem_cons_self
    | false =>
      rw [hq] at h
      exact List.mem_cons_of_mem _ (xfind_mem h)
/-- a function with one place changed -/
def xup {α : Type} (f : Nat → α) (k : Nat) (v : α) : Nat → α := fun j => bif Nat.beq j k then v else f j
theorem xup_eq {α : Type} (f : Nat → α) (k : Nat) (v : α) (j : Nat) : xup f k v j = if j = k then v else f j := by
  unfold xup
  cases h : Nat.beq j k with
  | true => rw [if_pos (Nat.eq_of_beq_eq_true h)]; rfl
  | false => rw [if_neg (Nat.ne_of_beq_eq_false h)]; rfl
theorem xup_self {α : Type} (f : Nat → α) (k : Nat) (v : α) : xup f k v k = v := by rw [xup_eq, if_pos rfl]
theorem xup_ne {α : Type} (f : Nat → α) {k j : Nat} (v : α) (h : j ≠ k) : xup f k v j = f j := by rw [xup_eq, if_neg h]
def xuI (w : xW) (a k : Nat) (x : Int32) : xW := (xup w.1 a (xup (w.1 a) k x), w.2)
def xuJ (w : xW) (a k : Nat) (x : Int64) : xW := (w.1, xup w.2 a (xup (w.2 a) k x))
/-- a cell's shape: a row of ints, a row of longs, an object of a class with its fields: an int, a long, a cell -/
abbrev xS : Type := Nat ⊕ Nat ⊕ (Nat × List (Option (Option Nat)))
abbrev xI : Option (Option Nat) := none
abbrev xJ : Option (Option Nat) := some none
abbrev xR (k : Nat) : Option (Option Nat) := some (some k)
def xshpL : List (Nat × xS) := [
  (0, .inr (.inr (7, [xR 1, xR 2, xI, xR 3, xR 7, xR 11, xR 25, xR 39, xR 44]))),
  (1, .inr (.inr (5, [xJ, xI, xI]))), (2, .inr (.inr (5, [xJ, xI, xI]))),
  (3, .inr (.inr (2, [xR 4, xR 5, xR 6, xI]))), (4, .inr (.inl 5)), (5, .inl 5), (6, .inl 5),
  (7, .inr (.inr (0, [xR 8, xI, xR 9, xR 10, xI]))), (8, .inl 80), (9, .inl 10), (10, .inl 10),
  (11, .inr (.inr (4, [xR 12, xR 13, xR 14, xR 15, xR 16, xR 17, xR 18, xI, xI, xJ, xI]))), (12, .inl 10), (13, .inl 9), (14, .inl 9), (15, .inl 9), (16, .inl 9), (17, .inl 100),
  (18, .inr (.inr (1, [xR 19, xR 20, xI, xI, xI, xI, xR 21, xR 22, xI, xI, xI, xI, xI, xR 23, xI, xR 24]))), (19, .inl 10), (20, .inl 10), (21, .inl 16), (22, .inl 160), (23, .inl 10), (24, .inl 10),
  (25, .inr (.inr (4, [xR 26, xR 27, xR 28, xR 29, xR 30, xR 31, xR 32, xI, xI, xJ, xI]))), (26, .inl 10), (27, .inl 9), (28, .inl 9), (29, .inl 9), (30, .inl 9), (31, .inl 100),
  (32, .inr (.inr (1, [xR 33, xR 34, xI, xI, xI, xI, xR 35, xR 36, xI, xI, xI, xI, xI, xR 37, xI, xR 38]))), (33, .inl 10), (34, .inl 10), (35, .inl 16), (36, .inl 160), (37, .inl 10), (38, .inl 10),
  (39, .inr (.inr (6, [xR 40, xR 41, xR 42, xR 43, xI, xI, xJ, xI]))), (40, .inl 100), (41, .inl 100), (42, .inl 49), (43, .inl 48),
  (44, .inr (.inr (3, [xJ, xJ, xI]))),
  (45, .inl 10), (46, .inl 2), (47, .inl 10)]
def xshp (a : Nat) : Option xS := xfind xshpL a
def xval (w : xW) (a k : Nat) : Option (Option Nat) → Value
  | none => .int (w.1 a k)
  | some none => .long (w.2 a k)
  | some (some r) => .ref r
/-- one instruction -/
def xpush (F : xF) (n : Nat) (v : Value) : Option xF := some (F.1 + n, F.2.1, v :: F.2.2.1, F.2.2.2)
def xld1 (F : xF) (n i : Nat) : Option xF := match F.2.1[i]? with
  | some (some (.int x)) => some (F.1 + n, F.2.1, .int x :: F.2.2.1, F.2.2.2)
  | _ => none
def xld2 (F : xF) (n i : Nat) : Option xF := match F.2.1[i]? with
  | some (some (.long x)) => some (F.1 + n, F.2.1, .long x :: F.2.2.1, F.2.2.2)
  | _ => none
def xlda (F : xF) (n i : Nat) : Option xF := match F.2.1[i]? with
  | some (some (.ref x)) => some (F.1 + n, F.2.1, .ref x :: F.2.2.1, F.2.2.2)
  | _ => none
def xcat2 : Option (Option Value) → Bool
  | some (some (.long _)) => true
  | some (some (.double _)) => true
  | _ => false
/-- the slot below a stored one, where it held a long -/
def xclr (L : xL) : Nat → xL
  | 0 => L
  | j + 1 => bif xcat2 L[j]? then L.set j none else L
def xsti (F : xF) (n i : Nat) : Option xF := match F.2.2.1 with
  | .int x :: st => bif Nat.blt i F.2.1.length then some (F.1 + n, (xclr F.2.1 i).set i (some (.int x)), st, F.2.2.2) else none
  | _ => none
def xsta (F : xF) (n i : Nat) : Option xF := match F.2.2.1 with
  | .ref x :: st => bif Nat.blt i F.2.1.length then some (F.1 + n, (xclr F.2.1 i).set i (some (.ref x)), st, F.2.2.2) else none
  | _ => none
def xstl (F : xF) (n i : Nat) : Option xF := match F.2.2.1 with
  | .long x :: st => bif Nat.blt (i + 1) F.2.1.length then some (F.1 + n, ((xclr F.2.1 i).set (i + 1) none).set i (some (.long x)), st, F.2.2.2) else none
  | _ => none
def xinc (F : xF) (i : Nat) (k : Int) : Option xF := match F.2.1[i]? with
  | some (some (.int x)) => bif Nat.blt i F.2.1.length then some (F.1 + 3, (xclr F.2.1 i).set i (some (.int (x + Int32.ofInt k))), F.2.2.1, F.2.2.2) else none
  | _ => none
def xb2 (F : xF) (f : Int32 → Int32 → Int32) : Option xF := match F.2.2.1 with
  | .int y :: .int x :: st => some (F.1 + 1, F.2.1, .int (f x y) :: st, F.2.2.2)
  | _ => none
/-- a division, by what isn't 0 -/
def xb0 (F : xF) (f : Int32 → Int32 → Int32) : Option xF := match F.2.2.1 with
  | .int y :: .int x :: st => bif decide (y = 0) then none else some (F.1 + 1, F.2.1, .int (f x y) :: st, F.2.2.2)
  | _ => none
def xb1 (F : xF) (f : Int32 → Int32) : Option xF := match F.2.2.1 with
  | .int x :: st => some (F.1 + 1, F.2.1, .int (f x) :: st, F.2.2.2)
  | _ => none
def xj2 (F : xF) (f : Int64 → Int64 → Int64) : Option xF := match F.2.2.1 with
  | .long y :: .long x :: st => some (F.1 + 1, F.2.1, .long (f x y) :: st, F.2.2.2)
  | _ => none
def xji (F : xF) (f : Int64 → Int32 → Int64) : Option xF := match F.2.2.1 with
  | .int y :: .long x :: st => some (F.1 + 1, F.2.1, .long (f x y) :: st, F.2.2.2)
  | _ => none
def xlcmp (F : xF) : Option xF := match F.2.2.1 with
  | .long y :: .long x :: st => some (F.1 + 1, F.2.1, .int (lg_cmp x y) :: st, F.2.2.2)
  | _ => none
def xl2i (F : xF) : Option xF := match F.2.2.1 with
  | .long x :: st => some (F.1 + 1, F.2.1, .int x.toInt32 :: st, F.2.2.2)
  | _ => none
def xi2d (F : xF) : Option xF := match F.2.2.1 with
  | .int x :: st => some (F.1 + 1, F.2.1, .double (FP.i2d x) :: st, F.2.2.2)
  | _ => none
def xddiv (F : xF) : Option xF := match F.2.2.1 with
  | .double y :: .double x :: st => bif decide (FP.ddiv x y &&& 0x7fffffffffffffff ≤ 0x7ff0000000000000) then some (F.1 + 1, F.2.1, .double (FP.ddiv x y) :: st, F.2.2.2) else none
  | _ => none
def xdcmp (F : xF) : Option xF := match F.2.2.1 with
  | .double y :: .double x :: st => some (F.1 + 1, F.2.1, .int (Op.cmpValue (FP.dcmp x y) .l) :: st, F.2.2.2)
  | _ => none
def xdup (F : xF) : Option xF := match F.2.2.1 with
  | .int x :: st => some (F.1 + 1, F.2.1, .int x :: .int x :: st, F.2.2.2)
  | .ref x :: st => some (F.1 + 1, F.2.1, .ref x :: .ref x :: st, F.2.2.2)
  | _ => none
def xdup2 (F : xF) : Option xF := match F.2.2.1 with
  | .int y :: .ref x :: st => some (F.1 + 1, F.2.1, .int y :: .ref x :: .int y :: .ref x :: st, F.2.2.2)
  | _ => none
def xpop (F : xF) : Option xF := match F.2.2.1 with
  | .int _ :: st => some (F.1 + 1, F.2.1, st, F.2.2.2)
  | _ => none
def xbr1 (F : xF) (t : Nat) (f : Int32 → Bool) : Option xF := match F.2.2.1 with
  | .int x :: st => some (bif f x then t else F.1 + 3, F.2.1, st, F.2.2.2)
  | _ => none
def xbr2 (F : xF) (t : Nat) (f : Int32 → Int32 → Bool) : Option xF := match F.2.2.1 with
  | .int y :: .int x :: st => some (bif f x y then t else F.1 + 3, F.2.1, st, F.2.2.2)
  | _ => none
def xgetf (c : Nat) (lk : Option (Nat × Nat)) (F : xF) : Option xF := match lk, F.2.2.1 with
  | some (cj, k), .ref a :: st => match xshp a with
    | some (.inr (.inr (ck, ks))) => bif Nat.beq ck cj then match ks[k]? with
      | some kd => some (F.1 + 3, F.2.1, xval F.2.2.2 a k kd :: st, F.2.2.2)
      | none => none
      else none
    | _ => none
  | _, _ => none
/-- is this field of type boolean -/
def xbool (c k : Nat) : Bool := (Nat.beq c 7 && Nat.beq k 2) || (Nat.beq c 4 && (Nat.beq k 8 || Nat.beq k 10)) || (Nat.beq c 6 && Nat.beq k 7) || (Nat.beq c 3 && Nat.beq k 2)
def xputf (lk : Option (Nat × Nat)) (F : xF) : Option xF := match lk, F.2.2.1 with
  | some (cj, k), .int x :: .ref a :: st => match xshp a with
    | some (.inr (.inr (ck, ks))) => bif Nat.beq ck cj then match ks[k]? with
      | some none => bif xbool cj k then (bif decide (x = 0) || decide (x = 1) then some (F.1 + 3, F.2.1, st, xuI F.2.2.2 a k x) else none) else some (F.1 + 3, F.2.1, st, xuI F.2.2.2 a k x)
      | _ => none
      else none
    | _ => none
  | some (cj, k), .long x :: .ref a :: st => match xshp a with
    | some (.inr (.inr (ck, ks))) => bif Nat.beq ck cj then match ks[k]? with
      | some (some none) => some (F.1 + 3, F.2.1, st, xuJ F.2.2.2 a k x)
      | _ => none
      else none
    | _ => none
  | _, _ => none
/-- is the index one of a row of n -/
def xin (i : Int32) (n : Nat) : Bool := !(decide (i < 0)) && Nat.blt i.toNatClampNeg n
def xiald (F : xF) : Option xF := match F.2.2.1 with
  | .int i :: .ref a :: st => match xshp a with
    | some (.inl n) => bif xin i n then some (F.1 + 1, F.2.1, .int (F.2.2.2.1 a i.toNatClampNeg) :: st, F.2.2.2) else none
    | _ => none
  | _ => none
def xlald (F : xF) : Option xF := match F.2.2.1 with
  | .int i :: .ref a :: st => match xshp a with
    | some (.inr (.inl n)) => bif xin i n then some (F.1 + 1, F.2.1, .long (F.2.2.2.2 a i.toNatClampNeg) :: st, F.2.2.2) else none
    | _ => none
  | _ => none
def xiast (F : xF) : Option xF := match F.2.2.1 with
  | .int x :: .int i :: .ref a :: st => match xshp a with
    | some (.inl n) => bif xin i n then some (F.1 + 1, F.2.1, st, xuI F.2.2.2 a i.toNatClampNeg x) else none
    | _ => none
  | _ => none
def xlast (F : xF) : Option xF := match F.2.2.1 with
  | .long x :: .int i :: .ref a :: st => match xshp a with
    | some (.inr (.inl n)) => bif xin i n then some (F.1 + 1, F.2.1, st, xuJ F.2.2.2 a i.toNatClampNeg x) else none
    | _ => none
  | _ => none
def xalen (F : xF) : Option xF := match F.2.2.1 with
  | .ref a :: st => match xshp a with
    | some (.inl n) => some (F.1 + 1, F.2.1, .int (Int32.ofNat n) :: st, F.2.2.2)
    | some (.inr (.inl n)) => some (F.1 + 1, F.2.1, .int (Int32.ofNat n) :: st, F.2.2.2)
    | _ => none
  | _ => none
def xtsw (F : xF) (d lo hi : Int) (offs : Array Int) : Option xF := match F.2.2.1 with
  | .int x :: st => bif decide (x.toInt < lo) || decide (hi < x.toInt) then (bif decide (0 ≤ (F.1 : Int) + d) then some (((F.1 : Int) + d).toNat, F.2.1, st, F.2.2.2) else none)
      else match offs.toList[(x.toInt - lo).toNat]? with
      | some o => bif decide (0 ≤ (F.1 : Int) + o) then some (((F.1 : Int) + o).toNat, F.2.1, st, F.2.2.2) else none
      | none => none
  | _ => none
def xlsw (F : xF) (d : Int) (ps : Array (Int × Int)) : Option xF := match F.2.2.1 with
  | .int x :: st => bif (ps.toList.zip (ps.toList.drop 1)).all (fun q => decide (q.1.1 < q.2.1)) && decide (0 ≤ (F.1 : Int) + Op.lookupswitch.offset ps.toList d x.toInt) then some (((F.1 : Int) + Op.lookupswitch.offset ps.toList d x.toInt).toNat, F.2.1, st, F.2.2.2) else none
  | _ => none
def xmath (M : xMI) (pr : Option Bool) (F : xF) : Option xF := match pr, F.2.2.1 with
  | some b, .int y :: .int x :: st => bif Nat.ble 1 (xm_f M) && Nat.ble ((st.map fun v => v.category).sum + 13) (xm_l M) then some (F.1 + 3, F.2.1, .int (bif b then (if y < x then y else x) else (if x < y then y else x)) :: st, F.2.2.2) else none
  | _, _ => none
/-- a constant; a String constant's place among the cells' addresses is 100 + its number -/
def xldc1 (lk : Option Value) (F : xF) : Option xF := match lk with
  | some (.int v) => some (F.1 + 2, F.2.1, .int v :: F.2.2.1, F.2.2.2)
  | some (.ref v) => some (F.1 + 2, F.2.1, .ref v :: F.2.2.1, F.2.2.2)
  | _ => none
def xldcw (lk : Option Value) (F : xF) : Option xF := match lk with
  | some (.int v) => some (F.1 + 3, F.2.1, .int v :: F.2.2.1, F.2.2.2)
  | _ => none
def xldc2 (lk : Option Value) (F : xF) : Option xF := match lk with
  | some (.long v) => some (F.1 + 3, F.2.1, .long v :: F.2.2.1, F.2.2.2)
  | some (.double v) => some (F.1 + 3, F.2.1, .double v :: F.2.2.1, F.2.2.2)
  | _ => none
