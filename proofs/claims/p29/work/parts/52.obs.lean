/-! the forbidden subgraph -/
/-- is the graph of these pairs planar -/
def fl (e : Int64) : Bool := flt (gr e) (blks (gr e) 100)
def wo (e : Int64) (a b : Nat) : Int64 := e &&& (pbit a b ^^^ -1)
def obF (t : Int64) (a b : Nat) : Int64 := if gr t a b = true ∧ fl (wo t a b) = false then wo t a b else t
def obs (e : Int64) (n : Nat) : Int64 := pfold obF e n
theorem wo_ne {e : Int64} {a b : Nat} (ha : a < 10) (hb : b < 10) (h : a ≠ b) : decide (wo e a b = e) = !gr e a b := by
  cases hg : gr e a b with
  | false =>
    refine decide_eq_true (tJ_ext fun v hv => ?_)
    unfold wo
    rw [tJ_and, tJ_xor, tJ_m1 hv, tJ_pbit ha hb h hv]
    by_cases e1 : v = pix a b
    · rw [gr_of ha hb h] at hg
      rw [e1, hg]
      rfl
    · rw [decide_eq_false e1]
      simp
  | true =>
    refine decide_eq_false (fun e1 => ?_)
    have h2 : gr (wo e a b) a b = (gr e a b && !ab a b a b) := gr_andn ha hb h
    rw [e1, hg, show ab a b a b = true from ab_iff.mpr (Or.inl ⟨rfl, rfl⟩)] at h2
    cases h2
theorem obs_jok {e : Int64} (h : jok e) (n : Nat) (hn : n ≤ 100) : jok (obs e n) := by
  refine pfold_ind (fun t => jok t) h (fun t a b _ _ ht => ?_) n hn
  unfold obF
  split
  · exact jok_and ht
  · exact ht
def oN (w : xW) (e : Int64) : Prop := w.1 44 2 = 1 ∧ w.2 44 1 = e ∧ w.2 44 0 = obs e 100
def oOK (w : xW) : Prop := w.1 44 2 = 0 ∨ ∃ e, oN w e
theorem pOK_of_t {w : xW} {e : Int64} (h : pN_t w e) : pOK_t w := Or.inr ⟨e, h⟩
theorem pOK_of_p {w : xW} {e : Int64} (h : pN_p w e) : pOK_p w := Or.inr ⟨e, h⟩
/-- none of the cells A is among those that L names -/
def cno (L : xCS) (A : List Nat) : Bool := L.all (fun p => A.all (fun a => !Nat.beq p.1 a))
theorem cno_at {L : xCS} {A : List Nat} (h : cno L A = true) {a : Nat} (ha : a ∈ A) (j : Nat) : cin L a j = false := by
  unfold cin
  rw [List.any_eq_false]
  intro p hp h2
  rw [Bool.and_eq_true] at h2
  have := List.all_eq_true.mp (List.all_eq_true.mp h p hp) a ha
  rw [h2.1] at this
  cases this
theorem pN_kq_p {L : xCS} {w w1 : xW} {e : Int64} (h : pN_p w e) (k : xkq L w w1) (hL : cno L [11, 12, 13, 14, 15, 16, 17] = true := by rfl) : pN_p w1 e := by
  have t : ∀ a j, a ∈ [11, 12, 13, 14, 15, 16, 17] → w1.1 a j = w.1 a j ∧ w1.2 a j = w.2 a j := fun a j ha => k a j (cno_at hL ha j)
  obtain ⟨h1, h2, h3, h4, h5, h6, h7⟩ := h
  exact ⟨(t 11 10 (by simp)).1.trans h1, (t 11 9 (by simp)).2.trans h2, fun v hv => (t 12 v (by simp)).1.trans (h3 v hv), (t 11 7 (by simp)).1.trans h4, (t 11 8 (by simp)).1.trans h5, fun i p hi => by
    rw [(t 13 i (by simp)).1, (t 14 i (by simp)).1, (t 15 i (by simp)).1, (t 16 i (by simp)).1]
    exact h6 i p hi, fun p hp hf v x y hs => (t 17 _ (by simp)).1.trans (h7 p hp hf v x y hs)⟩
theorem pOK_kq_p {L : xCS} {w w1 : xW} (h : pOK_p w) (k : xkq L w w1) (hL : cno L [11, 12, 13, 14, 15, 16, 17] = true := by rfl) : pOK_p w1 := by
  rcases h with h | ⟨e, he⟩
  · refine Or.inl ((k 11 10 (cno_at hL (by simp) 10)).1.trans h)
  · exact Or.inr ⟨e, pN_kq_p he k hL⟩

theorem pN_kq_t {L : xCS} {w w1 : xW} {e : Int64} (h : pN_t w e) (k : xkq L w w1) (hL : cno L [25, 26, 27, 28, 29, 30, 31] = true := by rfl) : pN_t w1 e := by
  have t : ∀ a j, a ∈ [25, 26, 27, 28, 29, 30, 31] → w1.1 a j = w.1 a j ∧ w1.2 a j = w.2 a j := fun a j ha => k a j (cno_at hL ha j)
  obtain ⟨h1, h2, h3, h4, h5, h6, h7⟩ := h
  exact ⟨(t 25 10 (by simp)).1.trans h1, (t 25 9 (by simp)).2.trans h2, fun v hv => (t 26 v (by simp)).1.trans (h3 v hv), (t 25 7 (by simp)).1.trans h4, (t 25 8 (by simp)).1.trans h5, fun i p hi => by
    rw [(t 27 i (by simp)).1, (t 28 i (by simp)).1, (t 29 i (by simp)).1, (t 30 i (by simp)).1]
    exact h6 i p hi, fun p hp hf v x y hs => (t 31 _ (by simp)).1.trans (h7 p hp hf v x y hs)⟩
theorem pOK_kq_t {L : xCS} {w w1 : xW} (h : pOK_t w) (k : xkq L w w1) (hL : cno L [25, 26, 27, 28, 29, 30, 31] = true := by rfl) : pOK_t w1 := by
  rcases h with h | ⟨e, he⟩
  · refine Or.inl ((k 25 10 (cno_at hL (by simp) 10)).1.trans h)
  · exact Or.inr ⟨e, pN_kq_t he k hL⟩
