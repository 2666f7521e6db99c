/-! worlds that differ in few cells; loops that count up -/
theorem uI1 (w : xW) (a k : Nat) (x : Int32) (b j : Nat) : (xuI w a k x).1 b j = if b = a ∧ j = k then x else w.1 b j := by
  unfold xuI
  simp only [xup_eq]
  by_cases h : b = a
  · subst h
    simp [xup_eq]
  · simp [h]
theorem uI2 (w : xW) (a k : Nat) (x : Int32) : (xuI w a k x).2 = w.2 := rfl
theorem uJ1 (w : xW) (a k : Nat) (x : Int64) : (xuJ w a k x).1 = w.1 := rfl
theorem uJ2 (w : xW) (a k : Nat) (x : Int64) (b j : Nat) : (xuJ w a k x).2 b j = if b = a ∧ j = k then x else w.2 b j := by
  unfold xuJ
  simp only [xup_eq]
  by_cases h : b = a
  · subst h
    simp [xup_eq]
  · simp [h]
/-- outside of the cells C nothing has changed -/
def xkp (C : Nat → Bool) (w w1 : xW) : Prop := ∀ a, C a = false → (∀ j, w1.1 a j = w.1 a j) ∧ ∀ j, w1.2 a j = w.2 a j
theorem xkp_rfl {C : Nat → Bool} {w : xW} : xkp C w w := fun _ _ => ⟨fun _ => rfl, fun _ => rfl⟩
theorem xkp_trans {C : Nat → Bool} {w w1 w2 : xW} (h1 : xkp C w w1) (h2 : xkp C w1 w2) : xkp C w w2 := fun a h => ⟨fun j => ((h2 a h).1 j).trans ((h1 a h).1 j), fun j => ((h2 a h).2 j).trans ((h1 a h).2 j)⟩
theorem xkp_mono {C D : Nat → Bool} {w w1 : xW} (h : xkp C w w1) (hs : ∀ a, D a = false → C a = false) : xkp D w w1 := fun a ha => h a (hs a ha)
theorem xkp_I {C : Nat → Bool} {w w1 : xW} {a k : Nat} {x : Int32} (h : xkp C w w1) (ha : C a = true) : xkp C w (xuI w1 a k x) := fun b hb => by
  have hne : b ≠ a := fun e => by rw [e, ha] at hb; cases hb
  refine ⟨fun j => ?_, (h b hb).2⟩
  rw [uI1, if_neg (fun e => hne e.1), (h b hb).1 j]
theorem xkp_J {C : Nat → Bool} {w w1 : xW} {a k : Nat} {x : Int64} (h : xkp C w w1) (ha : C a = true) : xkp C w (xuJ w1 a k x) := fun b hb => by
  have hne : b ≠ a := fun e => by rw [e, ha] at hb; cases hb
  refine ⟨(h b hb).1, fun j => ?_⟩
  rw [uJ2, if_neg (fun e => hne e.1), (h b hb).2 j]
/-- the cells from a to b -/
def rg (a b : Nat) : Nat → Bool := fun c => Nat.ble a c && Nat.ble c b
theorem rg_f {a b c : Nat} : rg a b c = false ↔ c < a ∨ b < c := by
  unfold rg
  rw [Bool.and_eq_false_iff]
  simp only [Bool.eq_false_iff, ne_eq, Nat.ble_eq]
  omega
theorem xkp_rg {a b c d : Nat} {w w1 : xW} (h : xkp (rg a b) w w1) (h1 : c ≤ a) (h2 : b ≤ d) : xkp (rg c d) w w1 := xkp_mono h fun x hx => by
  rw [rg_f] at hx ⊢
  omega
theorem xkp_at {a b : Nat} {w w1 : xW} (h : xkp (rg a b) w w1) {c : Nat} (hc : c < a ∨ b < c) (j : Nat) : w1.1 c j = w.1 c j := (h c (rg_f.mpr hc)).1 j
theorem xkp_atJ {a b : Nat} {w w1 : xW} (h : xkp (rg a b) w w1) {c : Nat} (hc : c < a ∨ b < c) (j : Nat) : w1.2 c j = w.2 c j := (h c (rg_f.mpr hc)).2 j
theorem xE.eq {M : xMI} {F F1 : xF} {r : Option Value} {w1 : xW} (h : F = F1) (k : xE M F1 r w1) : xE M F r w1 := h ▸ k
theorem xE.loop {S : Type} {M : xMI} {r : Option Value} {w1 : xW} {F : xF} (hd : Nat → S → xF) (I : Nat → S → Prop) (N : Nat) (s : S) (h0 : F = hd 0 s) (hI : I 0 s) (step : ∀ (k : Nat) (s : S), k < N → I k s → (∀ s', I (k + 1) s' → xE M (hd (k + 1) s') r w1) → xE M (hd k s) r w1) (fin : ∀ s, I N s → xE M (hd N s) r w1) : xE M F r w1 := h0 ▸ xE.up I N step fin 0 s (Nat.zero_le _) hI
/-- a run from here on, with what holds at its end -/
def xQ (M : xMI) (F : xF) (Q : Option Value → xW → Prop) : Prop := ∃ r w1, xE M F r w1 ∧ Q r w1
def xD (M : xMI) (as : List Value) (w : xW) (Q : Option Value → xW → Prop) : Prop := ∃ r w1, xC M as w r w1 ∧ Q r w1
theorem xQ.lift {M : xMI} {F F1 : xF} {Q : Option Value → xW → Prop} (h : ∀ r w1, xE M F1 r w1 → xE M F r w1) (k : xQ M F1 Q) : xQ M F Q := by
  obtain ⟨r, w1, h1, h2⟩ := k
  exact ⟨r, w1, h r w1 h1, h2⟩
theorem xQ.go {M : xMI} {Q : Option Value → xW → Prop} (n : Nat) {F F1 : xF} (h : xsn M n F = some F1) (k : xQ M F1 Q) : xQ M F Q := xQ.lift (fun _ _ => xE.go n h) k
theorem xQ.eq {M : xMI} {F F1 : xF} {Q : Option Value → xW → Prop} (h : F = F1) (k : xQ M F1 Q) : xQ M F Q := h ▸ k
theorem xQ.call {M : xMI} {F : xF} {M2 : xMI} {as : List Value} {F1 : xF} {r2 : Option Value} {w2 : xW} {Q : Option Value → xW → Prop} (h : xcal M F = some (M2, as, F1)) (h2 : xC M2 as F.2.2.2 r2 w2) (k : xQ M (xpsh F1 r2 w2) Q) : xQ M F Q := xQ.lift (fun _ _ => xE.call h h2) k
theorem xQ.br {M : xMI} {c : Bool} {a b : Nat} {L : xL} {st : List Value} {w : xW} {Q : Option Value → xW → Prop} (kt : c = true → xQ M (a, L, st, w) Q) (kf : c = false → xQ M (b, L, st, w) Q) : xQ M (bif c then a else b, L, st, w) Q := by
  cases c with
  | true => exact kt rfl
  | false => exact kf rfl
theorem xQ.brT {M : xMI} {c : Bool} {a b : Nat} {L : xL} {st : List Value} {w : xW} {Q : Option Value → xW → Prop} (h : c = true) (k : xQ M (a, L, st, w) Q) : xQ M (bif c then a else b, L, st, w) Q := by
  subst h
  exact k
theorem xQ.brF {M : xMI} {c : Bool} {a b : Nat} {L : xL} {st : List Value} {w : xW} {Q : Option Value → xW → Prop} (h : c = false) (k : xQ M (b, L, st, w) Q) : xQ M (bif c then a else b, L, st, w) Q := by
  subst h
  exact k
theorem xQ.less {M : xMI} {pc : Nat} {L2 : xL} {st : List Value} {w : xW} {Q : Option Value → xW → Prop} (L1 : xL) (h : xleb L1 L2) (k : xQ M (pc, L1, st, w) Q) : xQ M (pc, L2, st, w) Q := xQ.lift (fun _ _ => xE.less L1 h) k
theorem xQ.alen {M : xMI} {pc a n : Nat} {L : xL} {st : List Value} {w : xW} {Q : Option Value → xW → Prop} (hs : xshp a = some (.inl n)) (h : xfind (xm_t M) pc = some (.arraylength, 1)) (k : xQ M (pc + 1, L, .int (Int32.ofNat n) :: st, w) Q) : xQ M (pc, L, .ref a :: st, w) Q := xQ.lift (fun _ _ => xE.alen hs h) k
theorem xQ.iald {M : xMI} {pc a n : Nat} {L : xL} {st : List Value} {w : xW} {Q : Option Value → xW → Prop} {i : Int32} (hs : xshp a = some (.inl n)) {k : Nat} (hi : i = nI k) (hk : k < n ∧ n < 2 ^ 31) (h : xfind (xm_t M) pc = some (.iaload, 1)) (kk : xQ M (pc + 1, L, .int (w.1 a k) :: st, w) Q) : xQ M (pc, L, .int i :: .ref a :: st, w) Q := xQ.lift (fun _ _ => xE.iald hs hi hk h) kk
theorem xQ.lald {M : xMI} {pc a n : Nat} {L : xL} {st : List Value} {w : xW} {Q : Option Value → xW → Prop} {i : Int32} (hs : xshp a = some (.inr (.inl n))) {k : Nat} (hi : i = nI k) (hk : k < n ∧ n < 2 ^ 31) (h : xfind (xm_t M) pc = some (.laload, 1)) (kk : xQ M (pc + 1, L, .long (w.2 a k) :: st, w) Q) : xQ M (pc, L, .int i :: .ref a :: st, w) Q := xQ.lift (fun _ _ => xE.lald hs hi hk h) kk
theorem xQ.iast {M : xMI} {pc a n : Nat} {L : xL} {st : List Value} {w : xW} {Q : Option Value → xW → Prop} {i x : Int32} (hs : xshp a = some (.inl n)) {k : Nat} (hi : i = nI k) (hk : k < n ∧ n < 2 ^ 31) (h : xfind (xm_t M) pc = some (.iastore, 1)) (kk : xQ M (pc + 1, L, st, xuI w a k x) Q) : xQ M (pc, L, .int x :: .int i :: .ref a :: st, w) Q := xQ.lift (fun _ _ => xE.iast hs hi hk h) kk
theorem xQ.last {M : xMI} {pc a n : Nat} {L : xL} {st : List Value} {w : xW} {Q : Option Value → xW → Prop} {i : Int32} {x : Int64} (hs : xshp a = some (.inr (.inl n))) {k : Nat} (hi : i = nI k) (hk : k < n ∧ n < 2 ^ 31) (h : xfind (xm_t M) pc = some (.lastore, 1)) (kk : xQ M (pc + 1, L, st, xuJ w a k x) Q) : xQ M (pc, L, .long x :: .int i :: .ref a :: st, w) Q := xQ.lift (fun _ _ => xE.last hs hi hk h) kk
theorem xQ.iret {M : xMI} {pc : Nat} {L : xL} {v : Int32} {w : xW} {Q : Option Value → xW → Prop} (ty : FieldType) (n : Nat) (h : xfind (xm_t M) pc = some (.ireturn, n)) (hr : xm_r M = some ty) (hn : narrow ty (.int v) = .int v) (k : Q (some (.int v)) w) : xQ M (pc, L, [.int v], w) Q := ⟨_, _, xE.iret ty n h hr hn, k⟩
theorem xQ.lret {M : xMI} {pc : Nat} {L : xL} {v : Int64} {w : xW} {Q : Option Value → xW → Prop} (n : Nat) (h : xfind (xm_t M) pc = some (.lreturn, n)) (hr : xm_r M = some .long) (k : Q (some (.long v)) w) : xQ M (pc, L, [.long v], w) Q := ⟨_, _, xE.lret n h hr, k⟩
theorem xQ.vret {M : xMI} {pc : Nat} {L : xL} {w : xW} {Q : Option Value → xW → Prop} (n : Nat) (h : xfind (xm_t M) pc = some (.return_, n)) (hr : xm_r M = none) (k : Q none w) : xQ M (pc, L, [], w) Q := ⟨_, _, xE.vret n h hr, k⟩
theorem xQ.loop {S : Type} {M : xMI} {Q : Option Value → xW → Prop} {F : xF} (hd : Nat → S → xF) (I : Nat → S → Prop) (N : Nat) (s : S) (h0 : F = hd 0 s) (hI : I 0 s) (step : ∀ (k : Nat) (s : S), k < N → I k s → (∀ s', I (k + 1) s' → xQ M (hd (k + 1) s') Q) → xQ M (hd k s) Q) (fin : ∀ s, I N s → xQ M (hd N s) Q) : xQ M F Q := by
  have key : ∀ (n k : Nat) (s : S), k + n = N → I k s → xQ M (hd k s) Q := by
    intro n
    induction n with
    | zero =>
      intro k s hk hI
      have : k = N := by omega
      subst this
      exact fin s hI
    | succ n ih =>
      intro k s hk hI
      exact step k s (by omega) hI (fun s' h' => ih (k + 1) s' (by omega) h')
  exact h0 ▸ key N 0 s (by omega) hI
/-- cells and places -/
abbrev xCS : Type := List (Nat × Option Nat)
def cin (L : xCS) (a j : Nat) : Bool := L.any (fun p => Nat.beq p.1 a && (match p.2 with | none => true | some i => Nat.beq i j))
def xkq (L : xCS) (w w1 : xW) : Prop := ∀ a j, cin L a j = false → w1.1 a j = w.1 a j ∧ w1.2 a j = w.2 a j
theorem xkq_rfl {L : xCS} {w : xW} : xkq L w w := fun _ _ _ => ⟨rfl, rfl⟩
theorem xkq_trans {L : xCS} {w w1 w2 : xW} (h1 : xkq L w w1) (h2 : xkq L w1 w2) : xkq L w w2 := fun a j h => ⟨(h2 a j h).1.trans (h1 a j h).1, (h2 a j h).2.trans (h1 a j h).2⟩
def csub (L M : xCS) : Bool := L.all (fun p => M.any (fun q => Nat.beq q.1 p.1 && (match q.2 with | none => true | some i => match p.2 with | none => false | some j => Nat.beq i j)))
theorem xkq_mono {L M : xCS} {w w1 : xW} (hs : csub L M = true) (h : xkq L w w1) : xkq M w w1 := fun a j hm => h a j (by
  cases hc : cin L a j with
  | false => rfl
  | true =>
    exfalso
    obtain ⟨p, hp, h1⟩ := List.any_eq_true.mp hc
    obtain ⟨q, hq, h2⟩ := List.any_eq_true.mp (List.all_eq_true.mp hs p hp)
    rw [Bool.and_eq_true] at h1 h2
    have e1 := Nat.eq_of_beq_eq_true h1.1
    have e2 := Nat.eq_of_beq_eq_true h2.1
    have : cin M a j = true := List.any_eq_true.mpr ⟨q, hq, by
      rw [Bool.and_eq_true]
      refine ⟨by rw [e2, e1]; exact Nat.beq_refl a, ?_⟩
      obtain ⟨p1, p2⟩ := p
      obtain ⟨q1, q2⟩ := q
      cases q2 with
      | none => rfl
      | some i =>
        cases p2 with
        | none => exact absurd h2.2 (by simp)
        | some i2 =>
          have e3 : i = i2 := Nat.eq_of_beq_eq_true h2.2
          have e4 : i2 = j := Nat.eq_of_beq_eq_true h1.2
          subst e3; subst e4
          exact Nat.beq_refl _⟩
    rw [this] at hm
    cases hm)
theorem xkq_I {L : xCS} {w w1 : xW} {a k : Nat} {x : Int32} (h : xkq L w w1) (ha : cin L a k = true) : xkq L w (xuI w1 a k x) := fun b j hb => by
  refine ⟨?_, (h b j hb).2⟩
  rw [uI1, if_neg, (h b j hb).1]
  rintro ⟨rfl, rfl⟩
  rw [ha] at hb
  cases hb
theorem xkq_J {L : xCS} {w w1 : xW} {a k : Nat} {x : Int64} (h : xkq L w w1) (ha : cin L a k = true) : xkq L w (xuJ w1 a k x) := fun b j hb => by
  refine ⟨(h b j hb).1, ?_⟩
  rw [uJ2, if_neg, (h b j hb).2]
  rintro ⟨rfl, rfl⟩
  rw [ha] at hb
  cases hb
theorem xkq_at {L : xCS} {w w1 : xW} (h : xkq L w w1) (a j : Nat) (hc : cin L a j = false := by rfl) : w1.1 a j = w.1 a j := (h a j hc).1
theorem xkq_atJ {L : xCS} {w w1 : xW} (h : xkq L w w1) (a j : Nat) (hc : cin L a j = false := by rfl) : w1.2 a j = w.2 a j := (h a j hc).2
theorem xD.of {M : xMI} {as : List Value} {w : xW} {Q : Option Value → xW → Prop} (h : xQ M (xent M as w) Q) : xD M as w Q := h
