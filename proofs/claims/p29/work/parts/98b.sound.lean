/-! a step of the small machine is a step of the kit's -/
def xcls : Nat → String := fun c => match c with
  | 0 => RX0
  | 1 => RX1
  | 2 => RX2
  | 3 => RX3
  | 4 => RX4
  | 5 => RX5
  | 6 => RX6
  | 7 => RX7
  | 9 => RL
  | 20 => RJ6
  | 21 => RJ13
  | _ => ""
def xTB : List Cond := lw_tbl.filter goodWord
theorem xtb {w : Cond} (i : Nat) (h : lw_tbl[i]? = some w) (g : goodWord w = true) : w ∈ xTB := List.mem_filter.mpr ⟨List.mem_of_getElem? h, g⟩
theorem xTB_good : ∀ w ∈ xTB, goodWord w = true := fun w h => (List.mem_filter.mp h).2
def xwsM (M : xMI) : List Cond := .code (xm_y M) (xm_b M) (xm_n M) (xm_r M) :: xTB
abbrev xrm (M : xMI) (k : Nat) : Room := { frames := xm_f M, cells := k, slots := 10 * k, locals := xm_l M }
def xlen : Instr → Nat → Nat
  | .goto _, _ => 3
  | .ifCond _ _, _ => 3
  | .if_icmp _ _, _ => 3
  | _, n => n
def xgood (pc : Nat) : Instr → Nat → Bool
  | .goto o, t => decide ((pc : Int) + o = (t : Int))
  | .ifCond _ o, t => decide ((pc : Int) + o = (t : Int))
  | .if_icmp _ o, t => decide ((pc : Int) + o = (t : Int))
  | .tableswitch _ _ _ _, _ => true
  | .lookupswitch _ _, _ => true
  | .bipush _, n => Nat.beq n 2
  | .iload _, n => Nat.beq n 2
  | .lload _, n => Nat.beq n 2
  | .aload _, n => Nat.beq n 2
  | .istore _, n => Nat.beq n 2
  | .lstore _, n => Nat.beq n 2
  | .astore _, n => Nat.beq n 2
  | .ldc _, n => Nat.beq n 2
  | .newarray _, n => Nat.beq n 2
  | .sipush _, n => Nat.beq n 3
  | .iinc _ _, n => Nat.beq n 3
  | .getfield _, n => Nat.beq n 3
  | .putfield _, n => Nat.beq n 3
  | .ldc_w _, n => Nat.beq n 3
  | .ldc2_w _, n => Nat.beq n 3
  | .invokestatic _, n => Nat.beq n 3
  | .invokevirtual _, n => Nat.beq n 3
  | _, n => Nat.beq n 1
def xchk (b : ByteArray) (q : Nat × Instr × Nat) : Bool := decide (decode b q.1 = .ok (q.2.1, xlen q.2.1 q.2.2)) && xgood q.1 q.2.1 q.2.2
def xok (M : xMI) : Prop := (xm_t M).all (xchk (xm_b M)) = true
theorem xdec {M : xMI} (hM : xok M) {pc : Nat} {i : Instr} {n : Nat} (h : xfind (xm_t M) pc = some (i, n)) : decode (xm_b M) pc = .ok (i, xlen i n) ∧ xgood pc i n = true := by
  have h1 := List.all_eq_true.mp hM _ (xfind_mem h)
  simp only [xchk, Bool.and_eq_true, decide_eq_true_eq] at h1
  exact h1
/-- nest mates' links -/
def xNW (s : State) : Prop := ∀ q : String × Nat × MethodName, Cond.methodLinkNest q.1 q.2.1 q.2.2 RX7 ∈ lw_tbl → va_Nw (.methodLinkNest q.1 q.2.1 q.2.2 RX7) s
def xGs (D : va_G) (cI cJ : ClassId) (s : State) : Prop := va_K D vwCl [(cI, .int), (cJ, .long)] s ∧ xNW s
def xinj (N sz : Nat) (ad : Nat → Nat) : Prop := (∀ i j, i < N → j < N → ad i = ad j → i = j) ∧ ∀ i, i < N → sz ≤ ad i
def xcx (D : va_G) (cI cJ : ClassId) (M : xMI) (p : Program) (s : State) (m : MethodId) (args : Array Value) (meth : Method) (c : Code) : Prop :=
  p.tables.exec = Jvm.exec ∧ c.code = xm_b M ∧ c.maxLocals = xm_n M ∧ meth.sig.returnType = xm_r M ∧ meth.locks = false ∧ s.vm.findClass (xcls (xm_c M)) = some m.cls ∧ (∀ w ∈ xTB, w.before args s = true) ∧ xGs D cI cJ s
/-! what the links of a class name -/
def xclOK (c : Nat) : Prop := ∃ (C : String) (T : u_T) (N : Nat) (ty : Nat → FieldType), vwCl[c]? = some (C, T, N) ∧ (∀ w ∈ u_ws C T N, w ∈ xTB) ∧ (∀ k, k < N → parseFieldDescriptor (T k).2.2.1 = some (ty k)) ∧ (∀ a, a < N → ∀ b, b < N → a ≠ b → (T a).2.1 ≠ (T b).2.1)
def xflOK (c : Nat) (q : Nat × Nat × Nat) : Prop := xclOK q.2.1 ∧ ∃ (C : String) (T : u_T) (N : Nat), vwCl[q.2.1]? = some (C, T, N) ∧ q.2.2 < N ∧ Cond.fieldLink (xcls c) q.1 (T q.2.2).1 (T q.2.2).2.1 (T q.2.2).2.2.1 ∈ xTB
def xconOK (c : Nat) (q : Nat × Value) : Prop := match q.2 with
  | .int v => Cond.constant (xcls c) q.1 v ∈ xTB
  | .long v => Cond.constantLong (xcls c) q.1 v ∈ xTB
  | .double v => Cond.constantDouble (xcls c) q.1 v ∈ xTB
  | _ => False
def xkindOK (ty : Option FieldType) (b f : Bool) : Option (Option Nat) → Bool
  | none => !f && match ty with
    | some .int => !b
    | some .boolean => b
    | _ => false
  | some none => !f && match ty with
    | some .long => true
    | _ => false
  | some (some _) => true
def xshpOK (q : Nat × xS) : Bool := match q.2 with
  | .inr (.inr (c, ks)) => match vwCl[c]? with
    | some (_, T, N) => Nat.beq ks.length N && (List.range N).all (fun k => xkindOK (parseFieldDescriptor (T k).2.2.1) (xbool c k) (T k).2.2.2 (ks.getD k none))
    | none => false
  | _ => true
theorem xshp_ok : xshpL.all xshpOK = true := by decide +kernel
theorem xkd {a c : Nat} {ks : List (Option (Option Nat))} (h : xshp a = some (.inr (.inr (c, ks)))) {C : String} {T : u_T} {N : Nat} (hc : vwCl[c]? = some (C, T, N)) {k : Nat} {kd : Option (Option Nat)} (hk : ks[k]? = some kd) : ks.length = N ∧ k < N ∧ xkindOK (parseFieldDescriptor (T k).2.2.1) (xbool c k) (T k).2.2.2 kd = true := by
  have h1 := List.all_eq_true.mp xshp_ok _ (xfind_mem h)
  simp only [xshpOK, hc, Bool.and_eq_true] at h1
  have hn : ks.length = N := Nat.eq_of_beq_eq_true h1.1
  have hkl := (List.getElem?_eq_some_iff.mp hk).1
  refine ⟨hn, by omega, ?_⟩
  have h2 := List.all_eq_true.mp h1.2 k (List.mem_range.mpr (by omega))
  rw [List.getD_eq_getElem?_getD, hk] at h2
  exact h2
section
variable {D : va_G} {cI cJ : ClassId} {N sz k u : Nat} {ad : Nat → Nat} {M : xMI}
variable {p : Program} {l : Launch} {e : Env} {s : State} {m : MethodId} {args : Array Value} {below : List Frame} {meth : Method} {c : Code} {H : Heap} {locs : List Loc} {ls : Array Slot} {Q : State → Prop} {F F1 : xF}
/-- the kit's machine goes on from here -/
def xgo (N : Nat) (D : va_G) (cI cJ : ClassId) (ad : Nat → Nat) (sz : Nat) (M : xMI) (R : Room) (p : Program) (l : Launch) (e : Env) (s : State) (m : MethodId) (args : Array Value) (below : List Frame) (meth : Method) (c : Code) (u v : Nat) (Q : State → Prop) (F : xF) : Prop :=
  ∀ (H : Heap) (locs : List Loc) (ls : Array Slot), va_P D vwCl (xws N cI cJ ad F.2.2.2) H → va_S (xA sz) s.heap H locs → xLok ad ls (xm_n M) F.2.1 → W p l e R s m args below meth c H locs u v Q (F0 m F.1 ls (F.2.2.1.map (xcv ad)))
theorem xD_ok (hi : xinj N sz ad) (w : xW) : va_D (xA sz) (xws N cI cJ ad w) := by
  have key : ∀ (k : Nat) (q : Nat × va_E), (xws N cI cJ ad w)[k]? = some q → k < N ∧ q.1 = ad k := by
    intro k q hq
    by_cases hk : k < N
    · rw [xws_get hk] at hq
      cases hq
      exact ⟨hk, rfl⟩
    · have : (xws N cI cJ ad w)[k]? = none := by simp [xws]; omega
      rw [this] at hq
      cases hq
  refine ⟨fun i j p q h1 h2 h => ?_, fun k q hq => ?_⟩
  · obtain ⟨a1, a2⟩ := key i p h1
    obtain ⟨b1, b2⟩ := key j q h2
    exact hi.1 i j a1 b1 (by rw [← a2, ← b2]; exact h)
  · obtain ⟨a1, a2⟩ := key k q hq
    rw [a2]
    exact hi.2 k a1
end
