/-! the constructors -/
section
variable {D : va_G} {cI cJ : ClassId} {p : Program} {l : Launch} {e : Env} {R : Room} {s : State} {m : MethodId} {args : Array Value} {below : List Frame} {meth : Method} {c : Code} {H H0 : Heap} {locs : List Loc} {cells slots : Nat} {Q : State → Prop} {cc : ByteArray} {pc : Nat} {ls : Array Slot} {rest : List Value} {A : Nat → Prop} {ws : va_W}
/-- what a constructor leaves: its cells, at the addresses u -/
def kB (D : va_G) (F : (Nat → Nat) → va_W) (A : Nat → Prop) (u : Nat → Nat) (t : State) : Prop := va_P D vwCl (F u) t.heap ∧ va_D A (F u)
def kPre (D : va_G) (cI cJ : ClassId) (h0 sz : Nat) (ws0 : va_W) : Array Value → State → Prop := va_Pc [.ref h0] (fun U => U.heap.size = sz ∧ va_P D vwCl ws0 U.heap ∧ va_K D vwCl (kTy cI cJ) U ∧ va_D (fun _ => True) ws0 ∧ xNW U)
theorem kPre_blind {h0 sz : Nat} {ws0 : va_W} : FrameBlind (kPre D cI cJ h0 sz ws0) := fun a U g mk q => by
  obtain ⟨q0, q1, qP, qK, qD, qN⟩ := q
  have hv : (U.calling g mk a).vm = U.vm := rfl
  exact ⟨q0, q1, qP, va_K.moved (u := U) (U := U.calling g mk a) (Vm.Alike.refl U.vm) qK, qD, fun z hz => va_Nw.same rfl hv.symm (qN z hz)⟩
theorem kMet {y : MethodName} {b : ByteArray} {f lo mc ms h0 sz : Nat} {ws0 : va_W} {F : (Nat → Nat) → va_W} (hy : plainName y.cls = true) (hnm : y.name = "<init>") (step : ∀ (p : Program) (e : Env) (s : State) (m : MethodId) (args : Array Value) (below : List Frame) (meth : Method) (c : Code) (ls : Array Slot) (A : Nat → Prop), CallFix p m c b 1 s args xTB y.cls → meth.sig.returnType = none → meth.locks = false → meth.name = "<init>" → va_P D vwCl ws0 s.heap → va_K D vwCl (kTy cI cJ) s → xNW s → va_D A ws0 → (∀ q, s.heap.size ≤ q → A q) → lv_has ls 1 [(0, .ref h0)] → W p l e { frames := f, cells := mc, slots := ms, locals := lo } s m args below meth c s.heap [] 0 0 (MQ below (va_Qv (fun _ : Nat → Nat => True) (kB D F A) A) args s mc ms A) (F0 m 0 ls [])) : Met l y (.code y b 1 none :: xTB) { frames := f, cells := mc, slots := ms, locals := lo } (kPre D cI cJ h0 sz ws0) (va_Qv (fun _ : Nat → Nat => True) (kB D F (va_A ws0 sz)) (va_A ws0 sz)) mc ms (va_A ws0 sz) := by
  refine Met.ofW (cc := b) (maxL := 1) (ret := none) hy rfl ?_
  intro p e s m args below meth c s₁ B hml hv
  obtain ⟨rfl, hsz, hP, hK, hD0, hN⟩ := hv
  have hts := atoms_spec (ws := .code y b 1 none :: xTB) B.pre
  have hown : s.vm.findClass y.cls = some m.cls := findClass_of_methodNamed B.named
  have hin : meth.name = "<init>" := (name_of_methodNamed B.named B.method).1.trans hnm
  subst hsz
  have hD := hD0.self (sz := s.heap.size)
  have hl := lv_entry ([.ref h0]) (n := 1) (Nat.le_of_ble_eq_true rfl)
  rw [lg_entry_eq]
  exact step p e s m _ below meth c _ (va_A ws0 s.heap.size) ⟨B.exec, B.bytes, hml, hown, fun w hw => hts w (List.mem_cons_of_mem _ hw)⟩ B.returns B.notSynchronized hin hP hK hN hD (fun q h => Or.inr h) hl
theorem jGood {y2 : MethodName} {b2 : ByteArray} {n2 : Nat} {r2 : Option FieldType} (h : Cond.code y2 b2 n2 r2 ∈ xTB) : GoodIn xTB (.code y2 b2 n2 r2 :: xTB) := by
  intro w hw
  have hin : w ∈ xTB := by
    rcases List.mem_cons.mp hw with rfl | h2
    · exact h
    · exact h2
  exact ⟨hin, good_of_word (xTB_good w hin)⟩
theorem kobj {own : String} (S : CallFix p m c cc 1 s args xTB own) {index h0 : Nat} (hw : Cond.methodLink own index objectInit ∈ xTB) (hl : lv_has ls 1 [(0, .ref h0)]) (hf : 1 ≤ R.frames) (hlo : 12 ≤ R.locals) (hdg : decode cc pc = .ok (.invokespecial index, 3)) (kk : W p l e R s m args below meth c H locs cells slots Q (F0 m (pc + 3) ls [])) : W p l e R s m args below meth c H locs cells slots Q (F0 m pc ls [.ref h0]) := by
  obtain ⟨hx, hb, hml, hown, hT⟩ := S
  refine W.objInit hx hb hown (hT _ hw) (hT (.instanceMethod objectInit) (xtb 33 (by decide +kernel) (by decide +kernel))) (hT (.code objectInit ⟨#[0xb1]⟩ 1 none) (xtb 34 rfl rfl)) rfl (by rw [hml]; exact hl.1) rfl hdg hf hlo ?_
  exact W.eq (g2 := F0 m (pc + 3) ls []) rfl kk
end
