/-! worlds that differ in few cells; loops that count up -/
theorem uI1 (w : xW) (a k : Nat) (x : Int32) (b j : Nat) : (xuI w a k x).1 b j = if b = a ∧ j = k then x else w.1 b j := by
  unfold xuI
  simp only [xup_eq]
  by_cases h : b = a
  · subst h
    simp [xup_eq]
  · simp [h]
theorem uI2 (w : xW) (a k : Nat) (x : Int32) : (xuI w a k x).2 = w.2 := rfl
theorem uJ1 (w : xW) (a k : Nat) (x : Int64) : (xuJ w a k x).1 = w.1 := rfl
theorem uJ2 (w : xW) (a k : Nat) (x : Int64) (b j : Nat) : (xuJ w a k x).2 b j = if b = a ∧ j = k then x else w.2 b j := by
  unfold xuJ
  simp only [xup_eq]
  by_cases h : b = a
  · subst h
    simp [xup_eq]
  · simp [h]
/-- outside of the cells C nothing has changed -/
def xkp (C : Nat → Bool) (w w1 : xW) : Prop := ∀ a, C a = false → (∀ j, w1.1 a j = w.1 a j) ∧ ∀ j, w1.2 a j = w.2 a j
theorem xkp_rfl {C : Nat → Bool} {w : xW} : xkp C w w := fun _ _ => ⟨fun _ => rfl, fun _ => rfl⟩
theorem xkp_trans {C : Nat → Bool} {w w1 w2 : xW} (h1 : xkp C w w1) (h2 : xkp C w1 w2) : xkp C w w2 := fun a h => ⟨fun j => ((h2 a h).1 j).trans ((h1 a h).1 j), fun j => ((h2 a h).2 j).trans ((h1 a h).2 j)⟩
theorem xkp_mono {C D : Nat → Bool} {w w1 : xW} (h : xkp C w w1) (hs : ∀ a, D a = false → C a = false) : xkp D w w1 := fun a ha => h a (hs a ha)
theorem xkp_I {C : Nat → Bool} {w w1 : xW} {a k : Nat} {x : Int32} (h : xkp C w w1) (ha : C a = true) : xkp C w (xuI w1 a k x) := fun b hb => by
  have hne : b ≠ a := fun e => by rw [e, ha] at hb; cases hb
  refine ⟨fun j => ?_, (h b hb).2⟩
  rw [uI1, if_neg (fun e => hne e.1), (h b hb).1 j]
theorem xkp_J {C : Nat → Bool} {w w1 : xW} {a k : Nat} {x : Int64} (h : xkp C w w1) (ha : C a = true) : xkp C w (xuJ w1 a k x) := fun b hb => by
  have hne : b ≠ a := fun e => by rw [e, ha] at hb; cases hb
  refine ⟨(h b hb).1, fun j => ?_⟩
  rw [uJ2, if_neg (fun e => hne e.1), (h b hb).2 j]
/-- the cells from a to b -/
def rg (a b : Nat) : Nat → Bool := fun c => Nat.ble a c && Nat.ble c b
theorem rg_f {a b c : Nat} : rg a b c = false ↔ c < a ∨ b < c := by
  unfold rg
  rw [Bool.and_eq_false_iff]
  simp only [Bool.eq_false_iff, ne_eq, Nat.ble_eq]
  omega
theorem xkp_rg {a b c d : Nat} {w w1 : xW} (h : xkp (rg a b) w w1) (h1 : c ≤ a) (h2 : b ≤ d) : xkp (rg c d) w w1 := xkp_mono h fun x hx => by
  rw [rg_f] at hx ⊢
  omega
theorem xkp_at {a b : Nat} {w w1 : xW} (h : xkp (rg a b) w w1) {c : Nat} (hc : c < a ∨ b < c) (j : Nat) : w1.1 c j = w.1 c j := (h c (rg_f.mpr hc)).1 j
theorem xkp_atJ {a b : Nat} {w w1 : xW} (h : xkp (rg a b) w w1) {c : Nat} (hc : c < a ∨ b < c) (j : Nat) : w1.2 c j = w.2 c j := (h c (rg_f.mpr hc)).2 j
theorem xE.eq {M : xMI} {F F1 : xF} {r : Option Value} {w1 : xW} (h : F = F1) (k : xE M F1 r w1) : xE M F r w1 := h ▸ k
theorem xE.loop {S : Type} {M : xMI} {r : Option Value} {w1 : xW} {F : xF} (hd : Nat → S → xF) (I : Nat → S → Prop) (N : Nat) (s : S) (h0 : F = hd 0 s) (hI : I 0 s) (step : ∀ (k : Nat) (s : S), k < N → I k s → (∀ s', I (k + 1) s' → xE M (hd (k + 1) s') r w1) → xE M (hd k s) r w1) (fin : ∀ s, I N s → xE M (hd N s) r w1) : xE M F r w1 := h0 ▸ xE.up I N step fin 0 s (Nat.zero_le _) hI
