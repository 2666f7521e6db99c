/-! actions -/
theorem or_xor {e : Int64} {a b : Nat} (ha : a < 10) (hb : b < 10) (h : a ≠ b) (hg : gr e a b = false) : e ||| pbit a b = e ^^^ pbit a b := tJ_ext fun v hv => by
  rw [tJ_or, tJ_xor, tJ_pbit ha hb h hv]
  by_cases e1 : v = pix a b
  · rw [gr_of ha hb h] at hg
    rw [e1, hg]
    simp
  · rw [decide_eq_false e1]
    simp
theorem jn_nI {e : Int64} {a b : Nat} (ha : a < 10) (hb : b < 10) : jn e (nI a) (nI b) = gr e a b := by
  unfold jn vI
  rw [kI_of ha (by omega), kI_of hb (by omega)]