/-! EditText: forms, the scan, the edits -/
def tX (w : xW) (T : List Nat) : Prop := w.1 7 1 = nI T.length ∧ tOK T ∧ ∀ k x, T[k]? = some x → w.1 8 k = nI x
theorem c_sign {w : xW} {T : List Nat} {k : Nat} (h : tX w T) (hk : k < 2 ^ 31) : xC MX0_signAt [.ref 7, .int (nI k)] w (some (.int (nI (tch T k)))) w := by
  have := c_tsign (w := w) h.1 h.2.1.1 hk
  rw [show nI (tch T k) = (if k < T.length then w.1 8 k else 0) by
    by_cases e : k < T.length
    · rw [if_pos e, h.2.2 k _ (List.getElem?_eq_getElem e)]
      unfold tch
      rw [List.getD_eq_getElem?_getD, List.getElem?_eq_getElem e]
      rfl
    · rw [if_neg e, tch_out (by omega)]
      rfl]
  exact this
theorem lsw_form : ∀ c, c < 127 → (((#[((97 : Int), (35 : Int)), (100, 38), (102, 41)] : Array (Int × Int)).toList.zip ((#[((97 : Int), (35 : Int)), (100, 38), (102, 41)] : Array (Int × Int)).toList.drop 1)).all (fun q => decide (q.1.1 < q.2.1)) && decide (0 ≤ ((5 : Nat) : Int) + Op.lookupswitch.offset (#[((97 : Int), (35 : Int)), (100, 38), (102, 41)] : Array (Int × Int)).toList 44 (nI c).toInt)) = true ∧ (((5 : Nat) : Int) + Op.lookupswitch.offset (#[((97 : Int), (35 : Int)), (100, 38), (102, 41)] : Array (Int × Int)).toList 44 (nI c).toInt).toNat = (if c = 97 then 40 else if c = 100 then 43 else if c = 102 then 46 else 49) := by decide +kernel
theorem c_formAt {w : xW} {T : List Nat} {k : Nat} (h : tX w T) (hk : k < 2 ^ 31) : xC MX0_formAt [.ref 7, .int (nI k)] w (some (.ref (foA (tch T k)))) w := by
  have hle := tch_le h.2.1 k
  have hl := lsw_form (tch T k) (by omega)
  unfold xC
  show xE MX0_formAt (0, [some (.ref 7), some (.int (nI k))], [], w) _ _
  refine xE.go 2 (F1 := (2, [some (.ref 7), some (.int (nI k))], [.int (nI k), .ref 7], w)) rfl ?_
  refine xE.call rfl (c_sign h hk) ?_
  show xE MX0_formAt (5, [some (.ref 7), some (.int (nI k))], [.int (nI (tch T k))], w) _ _
  generalize tch T k = c at *
  unfold foA
  by_cases h1 : c = 97
  · rw [if_pos h1] at hl ⊢
    refine xE.lsw rfl 40 hl ?_
    show xE MX0_formAt (40, [some (.ref 7), some (.int (nI k))], [], w) _ _
    refine xE.go 1 (F1 := (42, [some (.ref 7), some (.int (nI k))], [.ref 100], w)) rfl ?_
    exact xE.aret 1 "java/lang/String" rfl rfl
  · rw [if_neg h1] at hl ⊢
    by_cases h2 : c = 100
    · rw [if_pos h2] at hl ⊢
      refine xE.lsw rfl 43 hl ?_
      show xE MX0_formAt (43, [some (.ref 7), some (.int (nI k))], [], w) _ _
      refine xE.go 1 (F1 := (45, [some (.ref 7), some (.int (nI k))], [.ref 101], w)) rfl ?_
      exact xE.aret 1 "java/lang/String" rfl rfl
    · rw [if_neg h2] at hl ⊢
      by_cases h3 : c = 102
      · rw [if_pos h3] at hl ⊢
        refine xE.lsw rfl 46 hl ?_
        show xE MX0_formAt (46, [some (.ref 7), some (.int (nI k))], [], w) _ _
        refine xE.go 1 (F1 := (48, [some (.ref 7), some (.int (nI k))], [.ref 102], w)) rfl ?_
        exact xE.aret 1 "java/lang/String" rfl rfl
      · rw [if_neg h3] at hl ⊢
        refine xE.lsw rfl 49 hl ?_
        show xE MX0_formAt (49, [some (.ref 7), some (.int (nI k))], [], w) _ _
        refine xE.go 1 (F1 := (51, [some (.ref 7), some (.int (nI k))], [.ref 103], w)) rfl ?_
        exact xE.aret 1 "java/lang/String" rfl rfl
theorem nI_dec {a b : Nat} (ha : a < 2 ^ 31) (hb : b < 2 ^ 31) : decide (nI a = nI b) = decide (a = b) := decide_eq_decide.mpr (nI_eq ha hb)
theorem nI_decle {a b : Nat} (ha : a < 2 ^ 31) (hb : b < 2 ^ 31) : decide (nI a ≤ nI b) = decide (a ≤ b) := decide_eq_decide.mpr (nI_leI ha hb)
theorem nI_declt {a b : Nat} (ha : a < 2 ^ 31) (hb : b < 2 ^ 31) : decide (nI a < nI b) = decide (a < b) := decide_eq_decide.mpr (nI_ltI ha hb)
theorem c_right {w : xW} {T : List Nat} {p0 : Nat} (h : tX w T) (hs : p0 ≤ 100) : xC MX0_signsRight [.ref 7, .int (nI p0), .ref (foA (tch T p0))] w (some (.int (nI (rgt T p0)))) w := by
  have hA := foA_L (tch T p0)
  have hge := foA_ge (tch T p0)
  have hfc := foL_cases (tch T p0)
  unfold rgt
  generalize foA (tch T p0) = a at *
  generalize foL (tch T p0) = f at *
  have hl8 : f.length ≤ 8 := by
    rcases hfc with ⟨_, _, _, e⟩ | ⟨_, _, e, _⟩
    · rw [e]; decide
    · exact e
  have hin : ∀ i, i < f.length → f.getD i 0 ≤ 126 ∧ 7 ≤ f.length := fun i hi => by
    rcases hfc with ⟨_, _, _, e⟩ | ⟨_, e1, _, e2, _⟩
    · rw [e] at hi
      exact absurd hi (Nat.not_lt_zero _)
    · exact ⟨(e2 i hi).2, e1⟩
  unfold xC
  show xE MX0_signsRight (0, [some (.ref 7), some (.int (nI p0)), some (.ref a), none, none, none, none, none], [], w) _ _
  refine xE.go 1 (F1 := (1, [some (.ref 7), some (.int (nI p0)), some (.ref a), none, none, none, none, none], [.ref a], w)) rfl ?_
  refine xE.slen rfl rfl hA hge rfl ?_
  show xE MX0_signsRight (4, [some (.ref 7), some (.int (nI p0)), some (.ref a), none, none, none, none, none], [.int (nI f.length)], w) _ _
  refine xE.go 5 (F1 := (10, [some (.ref 7), some (.int (nI p0)), some (.ref a), some (.int ((nI f.length) - 1)), some (.int 0), none, none, none], [], w)) rfl ?_
  refine xE.loop (S := Unit) (fun k s => (10, [some (.ref 7), some (.int (nI p0)), some (.ref a), some (.int (nI f.length - 1)), some (.int (nI k)), none, none, none], [], w)) (fun k _ => ffl (okA T p0 f) f.length 0 = ffl (okA T p0 f) (f.length - k) k) f.length () (rfl) (rfl) ?_ ?_
  · intro k s hk hI K
    obtain ⟨h126, h7⟩ := hin k hk
    have hff : ffl (okA T p0 f) (f.length - k) k = if okA T p0 f k = true then ffl (okA T p0 f) (f.length - (k + 1)) (k + 1) else k := by
      rw [show f.length - k = (f.length - (k + 1)) + 1 by omega, ffl]
    rw [hff] at hI
    have hle := tch_le h.2.1 (p0 + k)
    have hle2 := tch_le h.2.1 (p0 + k - 2)
    refine xE.go 2 (F1 := (13, [some (.ref 7), some (.int (nI p0)), some (.ref a), some (.int (nI f.length - 1)), some (.int (nI k)), none, none, none], [.ref a, .int (nI k)], w)) rfl ?_
    refine xE.slen rfl rfl hA hge rfl ?_
    show xE MX0_signsRight (16, [some (.ref 7), some (.int (nI p0)), some (.ref a), some (.int (nI f.length - 1)), some (.int (nI k)), none, none, none], [.int (nI f.length), .int (nI k)], w) _ _
    refine xE.go 1 (F1 := (bif decide ((nI f.length) ≤ (nI k)) then 115 else 19, [some (.ref 7), some (.int (nI p0)), some (.ref a), some (.int (nI f.length - 1)), some (.int (nI k)), none, none, none], [], w)) rfl ?_
    refine xE.brF (decide_eq_false (nI_ge hk (by omega))) ?_
    refine xE.go 4 (F1 := (24, [some (.ref 7), some (.int (nI p0)), some (.ref a), some (.int (nI f.length - 1)), some (.int (nI k)), none, none, none], [.int ((nI p0) + (nI k)), .ref 7], w)) rfl ?_
    rw [jI_add]
    refine xE.call rfl (c_sign h (by omega)) ?_
    show xE MX0_signsRight (27, [some (.ref 7), some (.int (nI p0)), some (.ref a), some (.int (nI f.length - 1)), some (.int (nI k)), none, none, none], [.int (nI (tch T (p0 + k)))], w) _ _
    refine xE.go 3 (F1 := (32, [some (.ref 7), some (.int (nI p0)), some (.ref a), some (.int (nI f.length - 1)), some (.int (nI k)), some (.int (nI (tch T (p0 + k)))), none, none], [.int (nI k), .ref a], w)) rfl ?_
    refine xE.schr rfl rfl hA hge rfl (⟨hk, by omega⟩) rfl ?_
    show xE MX0_signsRight (35, [some (.ref 7), some (.int (nI p0)), some (.ref a), some (.int (nI f.length - 1)), some (.int (nI k)), some (.int (nI (tch T (p0 + k)))), none, none], [.int (nI (f.getD k 0))], w) _ _
    refine xE.go 1 (F1 := (37, [some (.ref 7), some (.int (nI p0)), some (.ref a), some (.int (nI f.length - 1)), some (.int (nI k)), some (.int (nI (tch T (p0 + k)))), some (.int (nI (f.getD k 0))), none], [], w)) rfl ?_
    have good : okA T p0 f k = true → xE MX0_signsRight (109, [some (.ref 7), some (.int (nI p0)), some (.ref a), some (.int (nI f.length - 1)), some (.int (nI k)), some (.int (nI (tch T (p0 + k)))), some (.int (nI (f.getD k 0))), some (.int 1)], [], w) (some (.int (nI (ffl (okA T p0 f) f.length 0)))) w := by
      intro hok
      refine xE.go 2 (F1 := (10, [some (.ref 7), some (.int (nI p0)), some (.ref a), some (.int (nI f.length - 1)), some (.int ((nI k) + 1)), some (.int (nI (tch T (p0 + k)))), some (.int (nI (f.getD k 0))), some (.int 1)], [], w)) rfl ?_
      refine xE.less [some (.ref 7), some (.int (nI p0)), some (.ref a), some (.int (nI f.length - 1)), some (.int ((nI k) + 1)), none, none, none] (by simp [xleb]) ?_
      rw [← nI_succ]
      rw [if_pos hok] at hI
      exact K () hI
    have bad : ∀ x : Int32, okA T p0 f k = false → xE MX0_signsRight (106, [some (.ref 7), some (.int (nI p0)), some (.ref a), some (.int (nI f.length - 1)), some (.int (nI k)), some (.int (nI (tch T (p0 + k)))), some (.int (nI (f.getD k 0))), some (.int x)], [], w) (some (.int (nI (ffl (okA T p0 f) f.length 0)))) w := by
      intro x hok
      rw [if_neg (by rw [hok]; decide)] at hI
      rw [hI]
      refine xE.go 1 (F1 := (108, [some (.ref 7), some (.int (nI p0)), some (.ref a), some (.int (nI f.length - 1)), some (.int (nI k)), some (.int (nI (tch T (p0 + k)))), some (.int (nI (f.getD k 0))), some (.int x)], [.int (nI k)], w)) rfl ?_
      exact xE.iret .int 1 rfl rfl (rfl)
    have com : ∀ c : Bool, okA T p0 f k = (c && !(decide (k + 1 = f.length) && decide (tch T (p0 + k) = tch T (p0 + k - 2)))) → xE MX0_signsRight (78, [some (.ref 7), some (.int (nI p0)), some (.ref a), some (.int (nI f.length - 1)), some (.int (nI k)), some (.int (nI (tch T (p0 + k)))), some (.int (nI (f.getD k 0))), none], [.int (if c then 1 else 0)], w) (some (.int (nI (ffl (okA T p0 f) f.length 0)))) w := by
      intro c hc
      refine xE.go 3 (F1 := (bif decide ((if c then 1 else 0) = 0) then 106 else 85, [some (.ref 7), some (.int (nI p0)), some (.ref a), some (.int (nI f.length - 1)), some (.int (nI k)), some (.int (nI (tch T (p0 + k)))), some (.int (nI (f.getD k 0))), some (.int (if c then 1 else 0))], [], w)) rfl ?_
      cases c with
      | false =>
        refine xE.brT rfl ?_
        exact bad _ (by rw [hc]; rfl)
      | true =>
        refine xE.brF rfl ?_
        refine xE.go 3 (F1 := (bif !decide ((nI k) = (nI f.length - 1)) then 109 else 91, [some (.ref 7), some (.int (nI p0)), some (.ref a), some (.int (nI f.length - 1)), some (.int (nI k)), some (.int (nI (tch T (p0 + k)))), some (.int (nI (f.getD k 0))), some (.int 1)], [], w)) rfl ?_
        rw [show (nI f.length - 1 : Int32) = nI (f.length - 1) from jI_sub (b := 1) (by omega), nI_dec (by omega) (by omega)]
        by_cases e : k = f.length - 1
        · refine xE.brF (by rw [decide_eq_true e]; rfl) ?_
          refine xE.go 7 (F1 := (100, [some (.ref 7), some (.int (nI p0)), some (.ref a), some (.int (nI (f.length - 1))), some (.int (nI k)), some (.int (nI (tch T (p0 + k)))), some (.int (nI (f.getD k 0))), some (.int 1)], [.int (((nI p0) + (nI k)) - 2), .ref 7, .int (nI (tch T (p0 + k)))], w)) rfl ?_
          rw [show (nI p0 + nI k - 2 : Int32) = nI (p0 + k - 2) by rw [jI_add]; exact jI_sub (b := 2) (by omega)]
          refine xE.call rfl (c_sign h (by omega)) ?_
          show xE MX0_signsRight (103, [some (.ref 7), some (.int (nI p0)), some (.ref a), some (.int (nI (f.length - 1))), some (.int (nI k)), some (.int (nI (tch T (p0 + k)))), some (.int (nI (f.getD k 0))), some (.int 1)], [.int (nI (tch T (p0 + k - 2))), .int (nI (tch T (p0 + k)))], w) _ _
          refine xE.go 1 (F1 := (bif !decide ((nI (tch T (p0 + k))) = (nI (tch T (p0 + k - 2)))) then 109 else 106, [some (.ref 7), some (.int (nI p0)), some (.ref a), some (.int (nI (f.length - 1))), some (.int (nI k)), some (.int (nI (tch T (p0 + k)))), some (.int (nI (f.getD k 0))), some (.int 1)], [], w)) rfl ?_
          rw [nI_dec (by omega) (by omega)]
          by_cases e2 : tch T (p0 + k) = tch T (p0 + k - 2)
          · refine xE.brF (by rw [decide_eq_true e2]; rfl) ?_
            rw [← show (nI f.length - 1 : Int32) = nI (f.length - 1) from jI_sub (b := 1) (by omega)]
            exact bad _ (by rw [hc, decide_eq_true (show k + 1 = f.length by omega), decide_eq_true e2]; rfl)
          · refine xE.brT (by rw [decide_eq_false e2]; rfl) ?_
            rw [← show (nI f.length - 1 : Int32) = nI (f.length - 1) from jI_sub (b := 1) (by omega)]
            exact good (by rw [hc, decide_eq_false e2, Bool.and_false]; rfl)
        · refine xE.brT (by rw [decide_eq_false e]; rfl) ?_
          rw [← show (nI f.length - 1 : Int32) = nI (f.length - 1) from jI_sub (b := 1) (by omega)]
          exact good (by rw [hc, decide_eq_false (show ¬ k + 1 = f.length by omega)]; rfl)
    refine xE.go 3 (F1 := (bif !decide ((nI (f.getD k 0)) = 35) then 66 else 44, [some (.ref 7), some (.int (nI p0)), some (.ref a), some (.int (nI f.length - 1)), some (.int (nI k)), some (.int (nI (tch T (p0 + k)))), some (.int (nI (f.getD k 0))), none], [], w)) rfl ?_
    rw [show (35 : Int32) = nI 35 from rfl, nI_dec (by omega) (by omega)]
    by_cases e35 : f.getD k 0 = 35
    · refine xE.brF (by rw [decide_eq_true e35]; rfl) ?_
      refine xE.go 3 (F1 := (bif decide ((nI (tch T (p0 + k))) < 48) then 62 else 51, [some (.ref 7), some (.int (nI p0)), some (.ref a), some (.int (nI f.length - 1)), some (.int (nI k)), some (.int (nI (tch T (p0 + k)))), some (.int (nI (f.getD k 0))), none], [], w)) rfl ?_
      rw [show (48 : Int32) = nI 48 from rfl, nI_declt (by omega) (by omega)]
      by_cases e48 : tch T (p0 + k) < 48
      · refine xE.brT (decide_eq_true e48) ?_
        refine xE.go 2 (F1 := (78, [some (.ref 7), some (.int (nI p0)), some (.ref a), some (.int (nI f.length - 1)), some (.int (nI k)), some (.int (nI (tch T (p0 + k)))), some (.int (nI (f.getD k 0))), none], [.int 0], w)) rfl ?_
        exact com false (by unfold okA; rw [if_pos e35, decide_eq_false (show ¬ 48 ≤ tch T (p0 + k) by omega)]; rfl)
      · refine xE.brF (decide_eq_false e48) ?_
        refine xE.go 3 (F1 := (bif decide (57 < (nI (tch T (p0 + k)))) then 62 else 58, [some (.ref 7), some (.int (nI p0)), some (.ref a), some (.int (nI f.length - 1)), some (.int (nI k)), some (.int (nI (tch T (p0 + k)))), some (.int (nI (f.getD k 0))), none], [], w)) rfl ?_
        rw [show (57 : Int32) = nI 57 from rfl, nI_declt (by omega) (by omega)]
        by_cases e57 : 57 < tch T (p0 + k)
        · refine xE.brT (decide_eq_true e57) ?_
          refine xE.go 2 (F1 := (78, [some (.ref 7), some (.int (nI p0)), some (.ref a), some (.int (nI f.length - 1)), some (.int (nI k)), some (.int (nI (tch T (p0 + k)))), some (.int (nI (f.getD k 0))), none], [.int 0], w)) rfl ?_
          exact com false (by unfold okA; rw [if_pos e35, decide_eq_false (show ¬ tch T (p0 + k) ≤ 57 by omega), Bool.and_false])
        · refine xE.brF (decide_eq_false e57) ?_
          refine xE.go 2 (F1 := (78, [some (.ref 7), some (.int (nI p0)), some (.ref a), some (.int (nI f.length - 1)), some (.int (nI k)), some (.int (nI (tch T (p0 + k)))), some (.int (nI (f.getD k 0))), none], [.int 1], w)) rfl ?_
          exact com true (by unfold okA; rw [if_pos e35, decide_eq_true (show 48 ≤ tch T (p0 + k) by omega), decide_eq_true (show tch T (p0 + k) ≤ 57 by omega), Bool.and_self])
    · refine xE.brT (by rw [decide_eq_false e35]; rfl) ?_
      refine xE.go 3 (F1 := (bif !decide ((nI (tch T (p0 + k))) = (nI (f.getD k 0))) then 77 else 73, [some (.ref 7), some (.int (nI p0)), some (.ref a), some (.int (nI f.length - 1)), some (.int (nI k)), some (.int (nI (tch T (p0 + k)))), some (.int (nI (f.getD k 0))), none], [], w)) rfl ?_
      rw [nI_dec (by omega) (by omega)]
      by_cases e8 : tch T (p0 + k) = f.getD k 0
      · refine xE.brF (by rw [decide_eq_true e8]; rfl) ?_
        refine xE.go 2 (F1 := (78, [some (.ref 7), some (.int (nI p0)), some (.ref a), some (.int (nI f.length - 1)), some (.int (nI k)), some (.int (nI (tch T (p0 + k)))), some (.int (nI (f.getD k 0))), none], [.int 1], w)) rfl ?_
        exact com true (by unfold okA; rw [if_neg e35, decide_eq_true e8])
      · refine xE.brT (by rw [decide_eq_false e8]; rfl) ?_
        refine xE.go 1 (F1 := (78, [some (.ref 7), some (.int (nI p0)), some (.ref a), some (.int (nI f.length - 1)), some (.int (nI k)), some (.int (nI (tch T (p0 + k)))), some (.int (nI (f.getD k 0))), none], [.int 0], w)) rfl ?_
        exact com false (by unfold okA; rw [if_neg e35, decide_eq_false e8])
  · intro s hI
    refine xE.go 2 (F1 := (13, [some (.ref 7), some (.int (nI p0)), some (.ref a), some (.int (nI f.length - 1)), some (.int (nI f.length)), none, none, none], [.ref a, .int (nI f.length)], w)) rfl ?_
    refine xE.slen rfl rfl hA hge rfl ?_
    show xE MX0_signsRight (16, [some (.ref 7), some (.int (nI p0)), some (.ref a), some (.int (nI f.length - 1)), some (.int (nI f.length)), none, none, none], [.int (nI f.length), .int (nI f.length)], w) _ _
    refine xE.go 1 (F1 := (bif decide ((nI f.length) ≤ (nI f.length)) then 115 else 19, [some (.ref 7), some (.int (nI p0)), some (.ref a), some (.int (nI f.length - 1)), some (.int (nI f.length)), none, none, none], [], w)) rfl ?_
    refine xE.brT (decide_eq_true (Int32.le_refl _)) ?_
    rw [hI, Nat.sub_self]
    refine xE.go 1 (F1 := (116, [some (.ref 7), some (.int (nI p0)), some (.ref a), some (.int (nI f.length - 1)), some (.int (nI f.length)), none, none, none], [.ref a], w)) rfl ?_
    refine xE.slen rfl rfl hA hge rfl ?_
    show xE MX0_signsRight (119, [some (.ref 7), some (.int (nI p0)), some (.ref a), some (.int (nI f.length - 1)), some (.int (nI f.length)), none, none, none], [.int (nI f.length)], w) _ _
    exact xE.iret .int 1 rfl rfl (rfl)
