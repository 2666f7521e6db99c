/-! the constructors -/
section
variable {D : va_G} {cI cJ : ClassId} {p : Program} {l : Launch} {e : Env} {R : Room} {s : State} {m : MethodId} {args : Array Value} {below : List Frame} {meth : Method} {c : Code} {H H0 : Heap} {locs : List Loc} {cells slots : Nat} {Q : State → Prop} {cc : ByteArray} {pc : Nat} {ls : Array Slot} {rest : List Value} {A : Nat → Prop} {ws : va_W}
abbrev kTy (cI cJ : ClassId) : List (ClassId × FieldType) := [(cI, .int), (cJ, .long)]
theorem knewI (hx : p.tables.exec = Jvm.exec) (hb : c.code = cc) (harr : (Cond.arrayClass .int).before args s = true) (hK : va_K D vwCl (kTy cI cJ) s) (hP : va_P D vwCl ws H) (hD : va_D A ws) (hS : va_S A H0 H locs) (hA : ∀ q, H0.size ≤ q → A q) {n : Int32} {N : Nat} (hn : ¬ n < 0) (hN : n.toNatClampNeg = N) (hbytes : N * componentBytes .int ≤ 536870912) (hcells : cells + 1 ≤ R.cells) (hslots : slots + N ≤ R.slots) (hdg : decode cc pc = .ok (.newarray .int, 2))
    (kk : ∀ (q : Nat) (H1 : Heap), va_P D vwCl (ws ++ [(q, .inl (cI, N, .inl (fun _ => 0)))]) H1 → va_D A (ws ++ [(q, .inl (cI, N, .inl (fun _ => 0)))]) → va_S A H0 H1 locs → W p l e R s m args below meth c H1 locs (cells + 1) (slots + N) Q (F0 m (pc + 2) ls (.ref q :: rest))) : W p l e R s m args below meth c H locs cells slots Q (F0 m pc ls (.int n :: rest)) := by
  refine va_newa (atype := .int) (N' := N) (n := n) (ty := .int) hx hb harr rfl hK hP hD hS hA (a0 := (N, .inl (fun _ => 0))) (fun cA => rfl) hn hN hbytes hcells hslots hdg (fun q cA H1 hK1 hP1 hD1 hS1 => ?_)
  have h1 := (hK1.2 2 (cA, .int) rfl).2
  have h2 := (hK.2 0 (cI, .int) rfl).2
  have e1 : cA = cI := Option.some.inj ((show s.vm.findClass _ = some cA from h1).symm.trans h2)
  subst e1
  exact kk q H1 hP1 hD1 hS1
theorem knewJ (hx : p.tables.exec = Jvm.exec) (hb : c.code = cc) (harr : (Cond.arrayClass .long).before args s = true) (hK : va_K D vwCl (kTy cI cJ) s) (hP : va_P D vwCl ws H) (hD : va_D A ws) (hS : va_S A H0 H locs) (hA : ∀ q, H0.size ≤ q → A q) {n : Int32} {N : Nat} (hn : ¬ n < 0) (hN : n.toNatClampNeg = N) (hbytes : N * componentBytes .long ≤ 536870912) (hcells : cells + 1 ≤ R.cells) (hslots : slots + N ≤ R.slots) (hdg : decode cc pc = .ok (.newarray .long, 2))
    (kk : ∀ (q : Nat) (H1 : Heap), va_P D vwCl (ws ++ [(q, .inl (cJ, N, .inr (.inl (fun _ => 0))))]) H1 → va_D A (ws ++ [(q, .inl (cJ, N, .inr (.inl (fun _ => 0))))]) → va_S A H0 H1 locs → W p l e R s m args below meth c H1 locs (cells + 1) (slots + N) Q (F0 m (pc + 2) ls (.ref q :: rest))) : W p l e R s m args below meth c H locs cells slots Q (F0 m pc ls (.int n :: rest)) := by
  refine va_newa (atype := .long) (N' := N) (n := n) (ty := .long) hx hb harr rfl hK hP hD hS hA (a0 := (N, .inr (.inl (fun _ => 0)))) (fun cA => rfl) hn hN hbytes hcells hslots hdg (fun q cA H1 hK1 hP1 hD1 hS1 => ?_)
  have h1 := (hK1.2 2 (cA, .long) rfl).2
  have h2 := (hK.2 1 (cJ, .long) rfl).2
  have e1 : cA = cJ := Option.some.inj ((show s.vm.findClass _ = some cA from h1).symm.trans h2)
  subst e1
  exact kk q H1 hP1 hD1 hS1
/-- what a constructor leaves: its cells, at the addresses u -/
def kB (D : va_G) (F : (Nat → Nat) → va_W) (A : Nat → Prop) (u : Nat → Nat) (t : State) : Prop := va_P D vwCl (F u) t.heap ∧ va_D A (F u)
def kPre (D : va_G) (cI cJ : ClassId) (h0 sz : Nat) (ws0 : va_W) : Array Value → State → Prop := va_Pc [.ref h0] (fun U => U.heap.size = sz ∧ va_P D vwCl ws0 U.heap ∧ va_K D vwCl (kTy cI cJ) U ∧ va_D (fun _ => True) ws0 ∧ xNW U)
theorem kPre_blind {h0 sz : Nat} {ws0 : va_W} : FrameBlind (kPre D cI cJ h0 sz ws0) := fun a U g mk q => by
  obtain ⟨q0, q1, qP, qK, qD, qN⟩ := q
  have hv : (U.calling g mk a).vm = U.vm := rfl
  exact ⟨q0, q1, qP, va_K.moved (u := U) (U := U.calling g mk a) (Vm.Alike.refl U.vm) qK, qD, fun z hz => va_Nw.same rfl hv.symm (qN z hz)⟩
theorem kMet {y : MethodName} {b : ByteArray} {f lo mc ms h0 sz : Nat} {ws0 : va_W} {F : (Nat → Nat) → va_W} (hy : plainName y.cls = true) (hnm : y.name = "<init>") (step : ∀ (p : Program) (e : Env) (s : State) (m : MethodId) (args : Array Value) (below : List Frame) (meth : Method) (c : Code) (ls : Array Slot) (A : Nat → Prop), CallFix p m c b 1 s args xTB y.cls → meth.sig.returnType = none → meth.locks = false → meth.name = "<init>" → va_P D vwCl ws0 s.heap → va_K D vwCl (kTy cI cJ) s → xNW s → va_D A ws0 → (∀ q, s.heap.size ≤ q → A q) → lv_has ls 1 [(0, .ref h0)] → W p l e { frames := f, cells := mc, slots := ms, locals := lo } s m args below meth c s.heap [] 0 0 (MQ below (va_Qv (fun _ : Nat → Nat => True) (kB D F A) A) args s mc ms A) (F0 m 0 ls [])) : Met l y (.code y b 1 none :: xTB) { frames := f, cells := mc, slots := ms, locals := lo } (kPre D cI cJ h0 sz ws0) (va_Qv (fun _ : Nat → Nat => True) (kB D F (va_A ws0 sz)) (va_A ws0 sz)) mc ms (va_A ws0 sz) := by
  refine Met.ofW (cc := b) (maxL := 1) (ret := none) hy rfl ?_
  intro p e s m args below meth c s₁ B hml hv
  obtain ⟨rfl, hsz, hP, hK, hD0, hN⟩ := hv
  have hts := atoms_spec (ws := .code y b 1 none :: xTB) B.pre
  have hown : s.vm.findClass y.cls = some m.cls := findClass_of_methodNamed B.named
  have hin : meth.name = "<init>" := (name_of_methodNamed B.named B.method).1.trans hnm
  subst hsz
  have hD := hD0.self (sz := s.heap.size)
  have hl := lv_entry ([.ref h0]) (n := 1) (Nat.le_of_ble_eq_true rfl)
  rw [lg_entry_eq]
  exact step p e s m _ below meth c _ (va_A ws0 s.heap.size) ⟨B.exec, B.bytes, hml, hown, fun w hw => hts w (List.mem_cons_of_mem _ hw)⟩ B.returns B.notSynchronized hin hP hK hN hD (fun q h => Or.inr h) hl
theorem kobj {own : String} (S : CallFix p m c cc 1 s args xTB own) {index h0 : Nat} (hw : Cond.methodLink own index objectInit ∈ xTB) (hl : lv_has ls 1 [(0, .ref h0)]) (hf : 1 ≤ R.frames) (hlo : 12 ≤ R.locals) (hdg : decode cc pc = .ok (.invokespecial index, 3)) (kk : W p l e R s m args below meth c H locs cells slots Q (F0 m (pc + 3) ls [])) : W p l e R s m args below meth c H locs cells slots Q (F0 m pc ls [.ref h0]) := by
  obtain ⟨hx, hb, hml, hown, hT⟩ := S
  refine W.objInit hx hb hown (hT _ hw) (hT (.instanceMethod objectInit) (xtb 89 (by decide +kernel) (by decide +kernel))) (hT (.code objectInit ⟨#[0xb1]⟩ 1 none) (xtb 90 rfl rfl)) rfl (by rw [hml]; exact hl.1) rfl hdg hf hlo ?_
  exact W.eq (g2 := F0 m (pc + 3) ls []) rfl kk
end
