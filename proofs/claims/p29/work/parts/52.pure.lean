/-! the forbidden subgraph -/
/-- is the graph of these pairs planar -/
def fl (e : Int64) : Bool := flt (gr e) (blks (gr e) 100)
def wo (e : Int64) (a b : Nat) : Int64 := e &&& (pbit a b ^^^ -1)
def obF (t : Int64) (a b : Nat) : Int64 := if gr t a b = true ∧ fl (wo t a b) = false then wo t a b else t
def obs (e : Int64) (n : Nat) : Int64 := pfold obF e n
theorem wo_ne {e : Int64} {a b : Nat} (ha : a < 10) (hb : b < 10) (h : a ≠ b) : decide (wo e a b = e) = !gr e a b := by
  cases hg : gr e a b with
  | false =>
    refine decide_eq_true (tJ_ext fun v hv => ?_)
    unfold wo
    rw [tJ_and, tJ_xor, tJ_m1 hv, tJ_pbit ha hb h hv]
    by_cases e1 : v = pix a b
    · rw [gr_of ha hb h] at hg
      rw [e1, hg]
      rfl
    · rw [decide_eq_false e1]
      simp
  | true =>
    refine decide_eq_false (fun e1 => ?_)
    have h2 : gr (wo e a b) a b = (gr e a b && !ab a b a b) := gr_andn ha hb h
    rw [e1, hg, show ab a b a b = true from ab_iff.mpr (Or.inl ⟨rfl, rfl⟩)] at h2
    cases h2
theorem obs_jok {e : Int64} (h : jok e) (n : Nat) (hn : n ≤ 100) : jok (obs e n) := by
  refine pfold_ind (fun t => jok t) h (fun t a b _ _ ht => ?_) n hn
  unfold obF
  split
  · exact jok_and ht
  · exact ht
