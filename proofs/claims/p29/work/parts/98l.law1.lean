/-! the law's body: what a turn does -/
theorem ec_flip1 {e : Int64} {a b : Nat} (ha : a < 10) (hb : b < 10) (h : a ≠ b) (hg : gr e a b = false) : ec (gr (e ^^^ pbit a b)) = ec (gr e) + 1 := by
  have hp := pix_lt ha hb h
  have h0 : tJ e (pix a b) = false := by rw [gr_of ha hb h] at hg; exact hg
  rw [ec_bits, ec_bits, ← cnt_add1 (S := fun v => tJ e v) hp h0]
  refine cnt_ext fun v hv => ?_
  show tJ (e ^^^ pbit a b) v = (tJ e v || decide (v = pix a b))
  rw [tJ_xor, tJ_pbit ha hb h (by omega)]
  by_cases q : v = pix a b
  · rw [q, h0, Bool.false_xor, Bool.false_or]
  · rw [decide_eq_false q, Bool.xor_false, Bool.or_false]
theorem pb_twice (e p : Int64) : e ^^^ p ^^^ p = e := tJ_ext fun v _ => by
  rw [tJ_xor, tJ_xor, Bool.xor_assoc, Bool.xor_self, Bool.xor_false]
theorem ec_flip0 {e : Int64} {a b : Nat} (ha : a < 10) (hb : b < 10) (h : a ≠ b) (hg : gr e a b = true) : ec (gr (e ^^^ pbit a b)) + 1 = ec (gr e) := by
  have h0 : gr (e ^^^ pbit a b) a b = false := by
    rw [gr_xor ha hb h, hg, ab_iff.mpr (Or.inl ⟨rfl, rfl⟩)]
    rfl
  have := ec_flip1 ha hb h h0
  rw [pb_twice] at this
  exact this.symm
/-- what the law knows of the object -/
def lI (w : xW) (A : xAb) : Prop := cI w A ∧ gI w (gr A.1.1) ∧ w.1 46 0 = A.1.2.1 ∧ w.1 46 1 = A.1.2.2
def gh0 (w : xW) : Prop := w.1 48 0 = 0 ∧ w.1 48 1 = 0
theorem lI_kq {w w1 : xW} {A : xAb} (h : lI w A) (hc : cI w1 A) (k : xkq kC w w1) : lI w1 A := ⟨hc, gI_kq h.2.1 k, ((k 46 0 rfl).1).trans h.2.2.1, ((k 46 1 rfl).1).trans h.2.2.2⟩
theorem gh0_kq {w w1 : xW} (h : gh0 w) (k : xkq kC w w1) : gh0 w1 := ⟨((k 48 0 rfl).1).trans h.1, ((k 48 1 rfl).1).trans h.2⟩
theorem gI_up {w : xW} {G G' : Nat → Nat → Bool} {a b : Nat} {X Y : Int32} (hG : gI w G) (hX : a ≠ b → X = mk (G' a)) (hY : Y = mk (G' b)) (ho : ∀ v, v ≠ a → v ≠ b → ∀ u, G v u = G' v u) : gI (xuI (xuI w 45 a X) 45 b Y) G' := fun v hv => by
  rw [uI1, uI1]
  by_cases e : v = b
  · rw [if_pos ⟨rfl, e⟩, hY, e]
  · rw [if_neg (fun z => e z.2)]
    by_cases e2 : v = a
    · rw [if_pos ⟨rfl, e2⟩, hX (fun z => e (e2.trans z)), e2]
    · rw [if_neg (fun z => e2 z.2), hG v hv]
      exact mk_ext fun u _ => ho v e2 e u
theorem gI_ld {w : xW} {G : Nat → Nat → Bool} {a b : Nat} (hb : b < 10) (hG : gI w G) : (xuI w 45 a (mk (G a))).1 45 b = mk (G b) := by
  rw [uI1]
  by_cases e : b = a
  · rw [if_pos ⟨rfl, e⟩, e]
  · rw [if_neg (fun z => e z.2), hG b hb]
theorem cI_ups {w : xW} {A : xAb} {a b j : Nat} {X Y Z : Int32} (h : cI w A) : cI (xuI (xuI (xuI w 45 a X) 45 b Y) 46 j Z) A := cI_kq h (xkq_I (xkq_I (xkq_I (L := [(45, none), (46, none)]) xkq_rfl (by rfl)) (by rfl)) (by rfl))
theorem up_46 {w : xW} {a b j : Nat} {X Y Z : Int32} (i : Nat) : (xuI (xuI (xuI w 45 a X) 45 b Y) 46 j Z).1 46 i = if i = j then Z else w.1 46 i := by
  rw [uI1, uI1, uI1]
  by_cases e : i = j
  · rw [if_pos ⟨rfl, e⟩, if_pos e]
  · rw [if_neg (fun z => e z.2), if_neg (fun z => absurd z.1 (by decide)), if_neg (fun z => absurd z.1 (by decide)), if_neg e]
theorem up_45 {w : xW} {G : Nat → Nat → Bool} {j : Nat} {Z : Int32} (h : gI w G) : gI (xuI w 46 j Z) G := fun v hv => by
  rw [uI1, if_neg (fun z => absurd z.1 (by decide))]
  exact h v hv
theorem up_48 {w : xW} {a b j : Nat} {X Y Z : Int32} (h : gh0 w) : gh0 (xuI (xuI (xuI w 45 a X) 45 b Y) 46 j Z) := h
set_option maxRecDepth 10000 in
theorem l_so {w : xW} {A : xAb} {m t : Nat} {x : Int32} {C : xZ} (hI : lI w A) (h0 : gh0 w) (K : ∀ w1, lI w1 A → w1.1 48 0 = 0 → xY ML_law (48, [some (.ref 200), some (.ref 0), some (.ref 45), some (.ref 46), some (.int (nI m)), some (.int (nI (t + 1))), none, none, none, none, none, none], [], w1) C) : xY ML_law (323, [some (.ref 200), some (.ref 0), some (.ref 45), some (.ref 46), some (.int (nI m)), some (.int (nI t)), some (.int x), none, none, none, none, none], [], w) C := by
  have after : ∀ w1, lI w1 A → w1.1 48 0 = 0 → xY ML_law (346, [some (.ref 200), some (.ref 0), some (.ref 45), some (.ref 46), some (.int (nI m)), some (.int (nI t)), some (.int x), none, none, none, none, none], [.int 1], w1) C := fun w1 a b => by
    refine xY.go 1 (F1 := (bif !decide (1 = 0) then 351 else 349, [some (.ref 200), some (.ref 0), some (.ref 45), some (.ref 46), some (.int (nI m)), some (.int (nI t)), some (.int x), none, none, none, none, none], [], w1)) rfl ?_
    refine xY.brT (by decide) ?_
    refine xY.go 2 (F1 := (48, [some (.ref 200), some (.ref 0), some (.ref 45), some (.ref 46), some (.int (nI m)), some (.int ((nI t) + 1)), some (.int x), none, none, none, none, none], [], w1)) rfl ?_
    rw [← nI_succ]
    refine xY.less [some (.ref 200), some (.ref 0), some (.ref 45), some (.ref 46), some (.int (nI m)), some (.int (nI (t + 1))), none, none, none, none, none, none] (by simp [xleb]) ?_
    exact K w1 a b
  have kS46 : ∀ {w1 : xW}, cI w1 A → xkq kS w w1 → lI w1 A := fun {w1} a k => ⟨a, fun v hv => ((k 45 v rfl).1).trans (hI.2.1 v hv), ((k 46 0 rfl).1).trans hI.2.2.1, ((k 46 1 rfl).1).trans hI.2.2.2⟩
  refine xY.go 7 (F1 := (bif !decide ((nI t) = (nI m)) then 340 else 336, [some (.ref 200), some (.ref 0), some (.ref 45), some (.ref 46), some (.int (nI m)), some (.int (nI t)), some (.int x), none, none, none, none, none], [.int (x >>> (9 &&& 31)), .ref 0], w)) rfl ?_
  refine xY.br (fun h1 => ?_) (fun h1 => ?_)
  · obtain ⟨r1, w1, hc, hr1, i1, k1, g1⟩ := c_isSo (x := x >>> (9 &&& 31)) (b := 0) hI.1 hI.2.1 hI.2.2 h0.1 h0.2
    subst hr1
    refine xY.go 3 (F1 := (343, [some (.ref 200), some (.ref 0), some (.ref 45), some (.ref 46), some (.int (nI m)), some (.int (nI t)), some (.int x), none, none, none, none, none], [.ref 46, .ref 45, .int 0, .int (x >>> (9 &&& 31)), .ref 0], w)) rfl ?_
    refine xY.call rfl (hc) ?_
    show xY ML_law (346, [some (.ref 200), some (.ref 0), some (.ref 45), some (.ref 46), some (.int (nI m)), some (.int (nI t)), some (.int x), none, none, none, none, none], [.int 1], w1) _
    exact after w1 (kS46 i1 k1) g1
  · obtain ⟨r1, w1, hc, hr1, i1, k1, g1⟩ := c_isSo (x := x >>> (9 &&& 31)) (b := 1) hI.1 hI.2.1 hI.2.2 h0.1 h0.2
    subst hr1
    refine xY.go 4 (F1 := (343, [some (.ref 200), some (.ref 0), some (.ref 45), some (.ref 46), some (.int (nI m)), some (.int (nI t)), some (.int x), none, none, none, none, none], [.ref 46, .ref 45, .int 1, .int (x >>> (9 &&& 31)), .ref 0], w)) rfl ?_
    refine xY.call rfl (hc) ?_
    show xY ML_law (346, [some (.ref 200), some (.ref 0), some (.ref 45), some (.ref 46), some (.int (nI m)), some (.int (nI t)), some (.int x), none, none, none, none, none], [.int 1], w1) _
    exact after w1 (kS46 i1 k1) g1
set_option maxRecDepth 10000 in
theorem l_308 {w : xW} {A : xAb} {m t : Nat} {x : Int32} {C : xZ} (hI : lI w A) (h0 : gh0 w) (K : ∀ w1, lI w1 A → w1.1 48 0 = 0 → xY ML_law (48, [some (.ref 200), some (.ref 0), some (.ref 45), some (.ref 46), some (.int (nI m)), some (.int (nI (t + 1))), none, none, none, none, none, none], [], w1) C) : xY ML_law (308, [some (.ref 200), some (.ref 0), some (.ref 45), some (.ref 46), some (.int (nI m)), some (.int (nI t)), some (.int x), none, none, none, none, none], [], w) C := by
  refine xY.go 3 (F1 := (bif decide ((nI m) ≤ (nI t)) then 323 else 315, [some (.ref 200), some (.ref 0), some (.ref 45), some (.ref 46), some (.int (nI m)), some (.int (nI t)), some (.int x), none, none, none, none, none], [], w)) rfl ?_
  refine xY.br (fun h1 => ?_) (fun h1 => ?_)
  · exact l_so hI h0 K
  · refine xY.go 5 (F1 := (bif !decide (((nI t) - (nI t) / 5 * 5) = 4) then 351 else 323, [some (.ref 200), some (.ref 0), some (.ref 45), some (.ref 46), some (.int (nI m)), some (.int (nI t)), some (.int x), none, none, none, none, none], [], w)) rfl ?_
    refine xY.br (fun h2 => ?_) (fun h2 => ?_)
    · refine xY.go 2 (F1 := (48, [some (.ref 200), some (.ref 0), some (.ref 45), some (.ref 46), some (.int (nI m)), some (.int ((nI t) + 1)), some (.int x), none, none, none, none, none], [], w)) rfl ?_
      rw [← nI_succ]
      refine xY.less [some (.ref 200), some (.ref 0), some (.ref 45), some (.ref 46), some (.int (nI m)), some (.int (nI (t + 1))), none, none, none, none, none, none] (by simp [xleb]) ?_
      exact K w hI h0.1
    · exact l_so hI h0 K
