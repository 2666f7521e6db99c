/-! sets of pairs in a long -/
def tJ (e : Int64) (v : Nat) : Bool := e.toBitVec.getLsbD v
theorem tJ_ext {s t : Int64} (h : ∀ v, v < 64 → tJ s v = tJ t v) : s = t := Int64.toBitVec_inj.mp (BitVec.eq_of_getLsbD_eq h)
theorem tJ_and (s t : Int64) (v : Nat) : tJ (s &&& t) v = (tJ s v && tJ t v) := by simp [tJ]
theorem tJ_or (s t : Int64) (v : Nat) : tJ (s ||| t) v = (tJ s v || tJ t v) := by simp [tJ]
theorem tJ_xor (s t : Int64) (v : Nat) : tJ (s ^^^ t) v = (tJ s v ^^ tJ t v) := by simp [tJ]
theorem tJ_0 (v : Nat) : tJ 0 v = false := by simp [tJ]
theorem tJ_m1 {v : Nat} (h : v < 64) : tJ (-1) v = true := by
  have : ∀ v, v < 64 → tJ (-1) v = true := by decide +kernel
  exact this v h
def pix (a b : Nat) : Nat := if a < b then a * (19 - a) / 2 + b - a - 1 else b * (19 - b) / 2 + a - b - 1
theorem pix_sym (a b : Nat) : pix a b = pix b a := by
  unfold pix
  by_cases h : a < b
  · rw [if_pos h, if_neg (by omega)]
  · by_cases h2 : b < a
    · rw [if_neg h, if_pos h2]
    · have : a = b := by omega
      rw [this]
theorem pix_lt {a b : Nat} (ha : a < 10) (hb : b < 10) (h : a ≠ b) : pix a b < 45 := by
  have : ∀ a, a < 10 → ∀ b, b < 10 → a ≠ b → pix a b < 45 := by decide +kernel
  exact this a ha b hb h
def pv (v : Nat) : Nat := ((List.range 100).find? (fun c => decide (c / 10 < c % 10) && Nat.beq (pix (c / 10) (c % 10)) v)).getD 0
theorem pv_of {a b : Nat} (ha : a < 10) (hb : b < 10) (h : a ≠ b) : pv (pix a b) = 10 * min a b + max a b := by
  have : ∀ a, a < 10 → ∀ b, b < 10 → a ≠ b → pv (pix a b) = 10 * min a b + max a b := by decide +kernel
  exact this a ha b hb h
theorem pix_inj {a b c d : Nat} (ha : a < 10) (hb : b < 10) (hc : c < 10) (hd : d < 10) (h1 : a ≠ b) (h2 : c ≠ d) : pix a b = pix c d ↔ (a = c ∧ b = d) ∨ (a = d ∧ b = c) := by
  constructor
  · intro h
    have h3 := pv_of ha hb h1
    rw [h, pv_of hc hd h2] at h3
    omega
  · rintro (⟨rfl, rfl⟩ | ⟨rfl, rfl⟩)
    · rfl
    · exact pix_sym _ _
theorem pix_all {v : Nat} (hv : v < 45) : ∃ a, a < 10 ∧ ∃ b, b < 10 ∧ a ≠ b ∧ pix a b = v := by
  have : ∀ v, v < 45 → ∃ a, a < 10 ∧ ∃ b, b < 10 ∧ a ≠ b ∧ pix a b = v := by decide +kernel
  exact this v hv
def pbit (a b : Nat) : Int64 := Int64.ofNat (2 ^ pix a b)
theorem pbit_sym (a b : Nat) : pbit a b = pbit b a := by unfold pbit; rw [pix_sym]
theorem tJ_pow {k v : Nat} (hk : k < 64) (hv : v < 64) : tJ (Int64.ofNat (2 ^ k)) v = decide (v = k) := by
  have : ∀ k, k < 64 → ∀ v, v < 64 → tJ (Int64.ofNat (2 ^ k)) v = decide (v = k) := by decide +kernel
  exact this k hk v hv
theorem tJ_pbit {a b v : Nat} (ha : a < 10) (hb : b < 10) (h : a ≠ b) (hv : v < 64) : tJ (pbit a b) v = decide (v = pix a b) := tJ_pow (by have := pix_lt ha hb h; omega) hv
/-- the graph of a set of pairs -/
def gr (e : Int64) : Nat → Nat → Bool := fun x y => (decide (x < 10) && decide (y < 10) && !decide (x = y)) && tJ e (pix x y)
theorem gr_of {e : Int64} {x y : Nat} (hx : x < 10) (hy : y < 10) (h : x ≠ y) : gr e x y = tJ e (pix x y) := by simp [gr, hx, hy, h]
theorem gr_out {e : Int64} {x y : Nat} (h : gr e x y = true) : x < 10 ∧ y < 10 ∧ x ≠ y := by
  simp [gr] at h
  exact ⟨h.1.1.1, h.1.1.2, h.1.2⟩
theorem gr_sym (e : Int64) (x y : Nat) : gr e x y = gr e y x := by
  simp only [gr, pix_sym x y]
  by_cases h : x = y
  · rw [h]
  · have h2 : y ≠ x := fun e => h e.symm
    simp only [h, h2, decide_false, Bool.not_false, Bool.and_true, Bool.and_comm]
theorem gr_irr (e : Int64) (x : Nat) : gr e x x = false := by simp [gr]
theorem gr_gok (e : Int64) : gok (gr e) := ⟨gr_sym e, gr_irr e, fun u v h => ⟨(gr_out h).1, (gr_out h).2.1⟩⟩
def ab (a b x y : Nat) : Bool := (decide (x = a) && decide (y = b)) || (decide (x = b) && decide (y = a))
theorem ab_iff {a b x y : Nat} : ab a b x y = true ↔ (x = a ∧ y = b) ∨ (x = b ∧ y = a) := by simp [ab]
theorem gr_bit {a b x y : Nat} (ha : a < 10) (hb : b < 10) (h : a ≠ b) (hx : x < 10) (hy : y < 10) (hxy : x ≠ y) : tJ (pbit a b) (pix x y) = ab a b x y := by
  rw [tJ_pbit ha hb h (by have := pix_lt hx hy hxy; omega)]
  apply Bool.eq_iff_iff.mpr
  rw [decide_eq_true_iff, ab_iff, pix_inj hx hy ha hb hxy h]
theorem gr_xor {e : Int64} {a b x y : Nat} (ha : a < 10) (hb : b < 10) (h : a ≠ b) : gr (e ^^^ pbit a b) x y = (gr e x y ^^ ab a b x y) := by
  by_cases hc : x < 10 ∧ y < 10 ∧ x ≠ y
  · rw [gr_of hc.1 hc.2.1 hc.2.2, gr_of hc.1 hc.2.1 hc.2.2, tJ_xor, gr_bit ha hb h hc.1 hc.2.1 hc.2.2]
  · have e1 : ∀ e, gr e x y = false := fun e => by
      cases h2 : gr e x y with
      | false => rfl
      | true => exact absurd (gr_out h2) hc
    rw [e1, e1]
    cases h3 : ab a b x y with
    | false => rfl
    | true =>
      rcases ab_iff.mp h3 with ⟨r1, r2⟩ | ⟨r1, r2⟩
      · subst r1; subst r2; exact absurd ⟨ha, hb, h⟩ hc
      · subst r1; subst r2; exact absurd ⟨hb, ha, fun e => h e.symm⟩ hc
theorem gr_or {e : Int64} {a b x y : Nat} (ha : a < 10) (hb : b < 10) (h : a ≠ b) : gr (e ||| pbit a b) x y = (gr e x y || ab a b x y) := by
  by_cases hc : x < 10 ∧ y < 10 ∧ x ≠ y
  · rw [gr_of hc.1 hc.2.1 hc.2.2, gr_of hc.1 hc.2.1 hc.2.2, tJ_or, gr_bit ha hb h hc.1 hc.2.1 hc.2.2]
  · have e1 : ∀ e, gr e x y = false := fun e => by
      cases h2 : gr e x y with
      | false => rfl
      | true => exact absurd (gr_out h2) hc
    rw [e1, e1]
    cases h3 : ab a b x y with
    | false => rfl
    | true =>
      rcases ab_iff.mp h3 with ⟨r1, r2⟩ | ⟨r1, r2⟩
      · subst r1; subst r2; exact absurd ⟨ha, hb, h⟩ hc
      · subst r1; subst r2; exact absurd ⟨hb, ha, fun e => h e.symm⟩ hc
/-- bits of pairs alone -/
def jok (e : Int64) : Prop := ∀ v, 45 ≤ v → v < 64 → tJ e v = false
theorem jok_0 : jok 0 := fun v _ _ => tJ_0 v
theorem jok_bit {a b : Nat} (ha : a < 10) (hb : b < 10) (h : a ≠ b) : jok (pbit a b) := fun v h1 h2 => by
  rw [tJ_pbit ha hb h h2]
  have := pix_lt ha hb h
  exact decide_eq_false (by omega)
theorem jok_xor {s t : Int64} (h1 : jok s) (h2 : jok t) : jok (s ^^^ t) := fun v a b => by rw [tJ_xor, h1 v a b, h2 v a b]; rfl
theorem jok_or {s t : Int64} (h1 : jok s) (h2 : jok t) : jok (s ||| t) := fun v a b => by rw [tJ_or, h1 v a b, h2 v a b]; rfl
theorem jok_and {s t : Int64} (h1 : jok s) : jok (s &&& t) := fun v a b => by rw [tJ_and, h1 v a b]; rfl
theorem gr_inj {s t : Int64} (h1 : jok s) (h2 : jok t) (h : ∀ x y, x < 10 → y < 10 → x ≠ y → gr s x y = gr t x y) : s = t := tJ_ext fun v hv => by
  by_cases h3 : v < 45
  · obtain ⟨a, ha, b, hb, hab, rfl⟩ := pix_all h3
    have := h a b ha hb hab
    rw [gr_of ha hb hab, gr_of ha hb hab] at this
    exact this
  · rw [h1 v (by omega) hv, h2 v (by omega) hv]
theorem gr_zero (x y : Nat) : gr 0 x y = false := by simp [gr, tJ_0]
theorem and_pbit (e : Int64) {a b : Nat} (ha : a < 10) (hb : b < 10) (h : a ≠ b) : e &&& pbit a b = if gr e a b then pbit a b else 0 := tJ_ext fun v hv => by
  rw [tJ_and, tJ_pbit ha hb h hv, gr_of ha hb h]
  by_cases h1 : v = pix a b
  · subst h1
    cases h2 : tJ e (pix a b) with
    | true => rw [if_pos rfl, tJ_pbit ha hb h hv]; rfl
    | false => rw [if_neg (by decide), tJ_0]; rfl
  · rw [decide_eq_false h1, Bool.and_false]
    cases h2 : tJ e (pix a b) with
    | true => rw [if_pos rfl, tJ_pbit ha hb h hv, decide_eq_false h1]
    | false => rw [if_neg (by decide), tJ_0]
theorem pbit_ne {a b : Nat} (ha : a < 10) (hb : b < 10) (h : a ≠ b) : pbit a b ≠ 0 := fun e => by
  have h1 := tJ_pbit ha hb h (v := pix a b) (by have := pix_lt ha hb h; omega)
  rw [e, tJ_0] at h1
  simp at h1
theorem and_zero (e : Int64) {a b : Nat} (ha : a < 10) (hb : b < 10) (h : a ≠ b) : (e &&& pbit a b = 0) ↔ gr e a b = false := by
  rw [and_pbit e ha hb h]
  cases gr e a b with
  | true => simp [pbit_ne ha hb h]
  | false => simp
theorem lg_cmp0 {x y : Int64} : decide (lg_cmp x y = 0) = decide (x = y) := by
  have : lg_cmp x y = 0 ↔ x = y := by
    unfold lg_cmp
    simp only [gt_iff_lt, Int64.lt_iff_toInt_lt, ← Int64.toInt_inj]
    repeat' split
    all_goals (constructor <;> intro hh <;> first | omega | decide | exact absurd hh (by decide))
  simp [this]
theorem gr_andn {e : Int64} {a b x y : Nat} (ha : a < 10) (hb : b < 10) (h : a ≠ b) : gr (e &&& (pbit a b ^^^ -1)) x y = (gr e x y && !ab a b x y) := by
  by_cases hc : x < 10 ∧ y < 10 ∧ x ≠ y
  · rw [gr_of hc.1 hc.2.1 hc.2.2, gr_of hc.1 hc.2.1 hc.2.2, tJ_and, tJ_xor, gr_bit ha hb h hc.1 hc.2.1 hc.2.2, tJ_m1 (by have := pix_lt hc.1 hc.2.1 hc.2.2; omega), Bool.xor_true]
  · have e1 : ∀ e, gr e x y = false := fun e => by
      cases h2 : gr e x y with
      | false => rfl
      | true => exact absurd (gr_out h2) hc
    rw [e1, e1]
    rfl
