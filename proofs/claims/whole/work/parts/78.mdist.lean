/-! the reference: distances -/
def dd (H : Nat → Nat → Bool) (A T : Nat → Bool) : Nat → Nat → Nat
  | 0, v => if T v = true then 0 else 99
  | n + 1, v => if (anyv (fun u => H v u && decide (dd H A T n u = n)) 10 && (decide (dd H A T n v = 99) && A v)) = true then n + 1 else dd H A T n v
theorem dd_le (H : Nat → Nat → Bool) (A T : Nat → Bool) : ∀ n v, dd H A T n v ≤ n ∨ dd H A T n v = 99
  | 0, v => by
    unfold dd
    split
    · exact Or.inl (Nat.le_refl _)
    · exact Or.inr rfl
  | n + 1, v => by
    unfold dd
    split
    · exact Or.inl (Nat.le_refl _)
    · rcases dd_le H A T n v with h | h
      · exact Or.inl (by omega)
      · exact Or.inr h
theorem dd_n {H : Nat → Nat → Bool} {A T : Nat → Bool} {n v : Nat} (hn : n < 99) : dd H A T (n + 1) v = n ↔ dd H A T n v = n := by
  rw [dd]
  split
  · next h =>
    rw [Bool.and_eq_true, Bool.and_eq_true, decide_eq_true_iff] at h
    omega
  · exact Iff.rfl
/-- the distances are the layers -/
theorem dd_lay {H : Nat → Nat → Bool} {A T : Nat → Bool} (hs : ∀ x y, H x y = H y x) : ∀ n, n < 98 → ∀ v, v < 10 → (dd H A T n v = 0 ↔ T v = true) ∧ (∀ k, 1 ≤ k → k ≤ n → (dd H A T n v = k ↔ lay H (fun v => A v && !T v) T k v = true)) ∧ ((dd H A T n v = 99 ∧ A v = true) ↔ lft H (fun v => A v && !T v) T n v = true)
  | 0, _, v, _ => by
    refine ⟨?_, fun k h1 h2 => by omega, ?_⟩
    · unfold dd
      split
      · next h => exact ⟨fun _ => h, fun _ => rfl⟩
      · next h => exact ⟨fun e => by omega, fun e => absurd e h⟩
    · show _ ↔ (A v && !T v) = true
      unfold dd
      split
      · next h => rw [h]; simp
      · next h => rw [Bool.eq_false_iff.mpr h]; simp
  | n + 1, hn, v, hv => by
    have ih := dd_lay (A := A) (T := T) hs n (by omega)
    obtain ⟨i1, i2, i3⟩ := ih v hv
    have hnb : anyv (fun u => H v u && decide (dd H A T n u = n)) 10 = nb H (lay H (fun v => A v && !T v) T n) v := by
      unfold nb
      refine anyv_ext fun u hu => ?_
      rw [hs v u, Bool.and_comm]
      congr 1
      apply Bool.eq_iff_iff.mpr
      rw [decide_eq_true_iff]
      by_cases h0 : n = 0
      · subst h0
        exact (ih u hu).1
      · exact (ih u hu).2.1 n (by omega) (Nat.le_refl _)
    have hlay : lay H (fun v => A v && !T v) T (n + 1) v = (anyv (fun u => H v u && decide (dd H A T n u = n)) 10 && (decide (dd H A T n v = 99) && A v)) := by
      rw [lay_s, hnb]
      congr 1
      apply Bool.eq_iff_iff.mpr
      rw [← i3, Bool.and_eq_true, decide_eq_true_iff]
    have hlft : lft H (fun v => A v && !T v) T (n + 1) v = (lft H (fun v => A v && !T v) T n v && !lay H (fun v => A v && !T v) T (n + 1) v) := lft_s
    rw [dd, hlft, ← hlay]
    cases hl : lay H (fun v => A v && !T v) T (n + 1) v with
    | true =>
      rw [if_pos rfl]
      rw [hlay, Bool.and_eq_true, Bool.and_eq_true, decide_eq_true_iff] at hl
      have hl2 : lay H (fun v => A v && !T v) T (n + 1) v = true := by rw [hlay, Bool.and_eq_true, Bool.and_eq_true, decide_eq_true_iff]; exact hl
      refine ⟨⟨fun e => by omega, fun e => by have := i1.mpr e; omega⟩, fun k h1 h2 => ?_, ?_⟩
      · by_cases e : k = n + 1
        · rw [e]
          exact ⟨fun _ => hl2, fun _ => rfl⟩
        · constructor
          · intro h; omega
          · intro h
            have := (i2 k h1 (by omega)).mpr h
            omega
      · rw [Bool.not_true, Bool.and_false]
        exact ⟨fun h => by omega, fun h => by cases h⟩
    | false =>
      rw [if_neg (by decide), Bool.not_false, Bool.and_true]
      refine ⟨i1, fun k h1 h2 => ?_, i3⟩
      by_cases e : k = n + 1
      · rw [e, hl]
        constructor
        · intro h
          rcases dd_le H A T n v with h3 | h3 <;> omega
        · intro h; cases h
      · exact i2 k h1 (by omega)
def iB (w : xW) (H : Nat → Nat → Bool) : Prop := ∀ v, v < 10 → w.1 55 v = mk (H v)
def dB (w : xW) (d : Nat → Nat) : Prop := ∀ v, v < 10 → w.1 62 v = nI (d v)
theorem iB_kq {w w1 : xW} {H : Nat → Nat → Bool} {L : xCS} (h : iB w H) (k : xkq L w w1) (hL : cno L [55] = true := by rfl) : iB w1 H := fun v hv => (k 55 v (cno_at hL (by simp) v)).1.trans (h v hv)
theorem m_dist {w : xW} {H : Nat → Nat → Bool} {A T : Nat → Bool} (hH : iB w H) : xD MX8_layDistances [.ref 45, .int (mk T), .int (mk A)] w (fun r w1 => r = none ∧ dB w1 (dd H A T 10) ∧ xkq [(62, none)] w w1) := by
  refine xD.of ?_
  show xQ MX8_layDistances (0, [some (.ref 45), some (.int (mk T)), some (.int (mk A)), none, none, none, none], [], w) _
  refine xQ.go 2 (F1 := (2, [some (.ref 45), some (.int (mk T)), some (.int (mk A)), some (.int 0), none, none, none], [], w)) rfl ?_
  refine xQ.loop (S := xW) (fun k s => (2, [some (.ref 45), some (.int (mk T)), some (.int (mk A)), some (.int (nI k)), none, none, none], [], s)) (fun k s => (∀ v, v < k → s.1 62 v = nI (dd H A T 0 v)) ∧ xkq [(62, none)] w s) 10 w (rfl) (⟨(fun v hv => absurd hv (by omega)), xkq_rfl⟩) ?_ ?_
  · intro k s hk hI K
    obtain ⟨i1, i2⟩ := hI
    have put : ∀ y : Int32, y = nI (dd H A T 0 k) → xQ MX8_layDistances (28, [some (.ref 45), some (.int (mk T)), some (.int (mk A)), some (.int (nI k)), none, none, none], [.int y, .int (nI k), .ref 62], s) (fun r w1 => r = none ∧ dB w1 (dd H A T 10) ∧ xkq [(62, none)] w w1) := by
      intro y hy
      refine xQ.iast rfl (k := k) (rfl) (⟨by omega, by omega⟩) rfl ?_
      show xQ MX8_layDistances (29, [some (.ref 45), some (.int (mk T)), some (.int (mk A)), some (.int (nI k)), none, none, none], [], (xuI s 62 k y)) _
      refine xQ.go 2 (F1 := (2, [some (.ref 45), some (.int (mk T)), some (.int (mk A)), some (.int ((nI k) + 1)), none, none, none], [], (xuI s 62 k y))) rfl ?_
      rw [← nI_succ]
      refine K _ ⟨fun v hv => ?_, xkq_I i2 rfl⟩
      rw [uI1]
      by_cases e : v = k
      · rw [if_pos ⟨rfl, e⟩, e]; exact hy
      · rw [if_neg (fun h => e h.2)]
        exact i1 v (by omega)
    refine xQ.go 3 (F1 := (bif decide (10 ≤ (nI k)) then 35 else 8, [some (.ref 45), some (.int (mk T)), some (.int (mk A)), some (.int (nI k)), none, none, none], [], s)) rfl ?_
    refine xQ.brF (decide_eq_false (nI_ge (b := 10) (by omega) (by omega))) ?_
    refine xQ.go 10 (F1 := (bif !decide ((((mk T) >>> ((nI k) &&& 31)) &&& 1) = 1) then 26 else 22, [some (.ref 45), some (.int (mk T)), some (.int (mk A)), some (.int (nI k)), none, none, none], [.int (nI k), .ref 62], s)) rfl ?_
    rw [mk_get _ hk, b01e]
    cases hT : T k with
    | true =>
      refine xQ.brF rfl ?_
      refine xQ.go 2 (F1 := (28, [some (.ref 45), some (.int (mk T)), some (.int (mk A)), some (.int (nI k)), none, none, none], [.int 0, .int (nI k), .ref 62], s)) rfl ?_
      exact put _ (by unfold dd; rw [if_pos hT]; rfl)
    | false =>
      refine xQ.brT rfl ?_
      refine xQ.go 1 (F1 := (28, [some (.ref 45), some (.int (mk T)), some (.int (mk A)), some (.int (nI k)), none, none, none], [.int 99, .int (nI k), .ref 62], s)) rfl ?_
      exact put _ (by unfold dd; rw [if_neg (by rw [hT]; decide)]; rfl)
  · intro s hI
    refine xQ.go 3 (F1 := (bif decide (10 ≤ (nI 10)) then 35 else 8, [some (.ref 45), some (.int (mk T)), some (.int (mk A)), some (.int (nI 10)), none, none, none], [], s)) rfl ?_
    refine xQ.brT (rfl) ?_
    refine xQ.go 2 (F1 := (37, [some (.ref 45), some (.int (mk T)), some (.int (mk A)), some (.int 1), none, none, none], [], s)) rfl ?_
    refine xQ.loop (S := xW) (fun k s => (37, [some (.ref 45), some (.int (mk T)), some (.int (mk A)), some (.int (nI (k + 1))), none, none, none], [], s)) (fun k t => dB t (dd H A T k) ∧ xkq [(62, none)] w t) 10 s (rfl) (hI) ?_ ?_
    · intro n t hn hI K
      obtain ⟨i1, i2⟩ := hI
      refine xQ.go 3 (F1 := (bif decide (10 < (nI (n + 1))) then 170 else 43, [some (.ref 45), some (.int (mk T)), some (.int (mk A)), some (.int (nI (n + 1))), none, none, none], [], t)) rfl ?_
      refine xQ.brF (by rw [show (10 : Int32) = nI 10 from rfl, nI_declt (by omega) (by omega)]; exact decide_eq_false (by omega)) ?_
      refine xQ.go 2 (F1 := (46, [some (.ref 45), some (.int (mk T)), some (.int (mk A)), some (.int (nI (n + 1))), some (.int 0), none, none], [], t)) rfl ?_
      refine xQ.loop (S := xW) (fun k s => (46, [some (.ref 45), some (.int (mk T)), some (.int (mk A)), some (.int (nI (n + 1))), some (.int (nI k)), none, none], [], s)) (fun k t => (∀ v, v < k → t.1 62 v = nI (dd H A T (n + 1) v)) ∧ (∀ v, k ≤ v → v < 10 → t.1 62 v = nI (dd H A T n v)) ∧ xkq [(62, none)] w t) 10 t (rfl) (⟨(fun v hv => absurd hv (by omega)), (fun v _ hv => i1 v hv), i2⟩) ?_ ?_
      · intro k t hk hI K
        obtain ⟨j1, j2, j3⟩ := hI
        have hHt := iB_kq hH j3
        have heq : ∀ u, u < 10 → decide (t.1 62 u = nI n) = decide (dd H A T n u = n) := fun u hu => by
          by_cases h : u < k
          · rw [j1 u h, nI_dec (by rcases dd_le H A T (n + 1) u with h | h <;> omega) (by omega)]
            exact decide_eq_decide.mpr (dd_n (by omega))
          · rw [j2 u (by omega) hu, nI_dec (by rcases dd_le H A T n u with h | h <;> omega) (by omega)]
        refine xQ.go 3 (F1 := (bif decide (10 ≤ (nI k)) then 164 else 53, [some (.ref 45), some (.int (mk T)), some (.int (mk A)), some (.int (nI (n + 1))), some (.int (nI k)), none, none], [], t)) rfl ?_
        refine xQ.brF (decide_eq_false (nI_ge (b := 10) (by omega) (by omega))) ?_
        refine xQ.go 4 (F1 := (59, [some (.ref 45), some (.int (mk T)), some (.int (mk A)), some (.int (nI (n + 1))), some (.int (nI k)), some (.int 0), some (.int 0)], [], t)) rfl ?_
        refine xQ.loop (S := Unit) (fun k2 s2 => (59, [some (.ref 45), some (.int (mk T)), some (.int (mk A)), some (.int (nI (n + 1))), some (.int (nI k)), some (.int (if anyv (fun u => H k u && decide (dd H A T n u = n)) k2 = true then 1 else 0)), some (.int (nI k2))], [], t)) (fun _ _ => True) 10 () (rfl) (trivial) ?_ ?_
        · intro k2 s2 hk2 hI2 K2
          have K2 := K2 () trivial
          rw [show anyv (fun u => H k u && decide (dd H A T n u = n)) (k2 + 1) = (anyv (fun u => H k u && decide (dd H A T n u = n)) k2 || (H k k2 && decide (dd H A T n k2 = n))) from rfl] at K2
          refine xQ.go 3 (F1 := (bif decide (10 ≤ (nI k2)) then 113 else 66, [some (.ref 45), some (.int (mk T)), some (.int (mk A)), some (.int (nI (n + 1))), some (.int (nI k)), some (.int (if anyv (fun u => H k u && decide (dd H A T n u = n)) k2 = true then 1 else 0)), some (.int (nI k2))], [], t)) rfl ?_
          refine xQ.brF (decide_eq_false (nI_ge (b := 10) (by omega) (by omega))) ?_
          refine xQ.go 2 (F1 := (bif !decide ((if anyv (fun u => H k u && decide (dd H A T n u = n)) k2 = true then 1 else 0) = 0) then 100 else 71, [some (.ref 45), some (.int (mk T)), some (.int (mk A)), some (.int (nI (n + 1))), some (.int (nI k)), some (.int (if anyv (fun u => H k u && decide (dd H A T n u = n)) k2 = true then 1 else 0)), some (.int (nI k2))], [], t)) rfl ?_
          cases hf : anyv (fun u => H k u && decide (dd H A T n u = n)) k2 with
          | true =>
            rw [hf, Bool.true_or] at K2
            refine xQ.brT rfl ?_
            refine xQ.go 5 (F1 := (59, [some (.ref 45), some (.int (mk T)), some (.int (mk A)), some (.int (nI (n + 1))), some (.int (nI k)), some (.int 1), some (.int ((nI k2) + 1))], [], t)) rfl ?_
            rw [← nI_succ]
            exact K2
          | false =>
            rw [hf, Bool.false_or] at K2
            refine xQ.brF rfl ?_
            refine xQ.go 3 (F1 := (77, [some (.ref 45), some (.int (mk T)), some (.int (mk A)), some (.int (nI (n + 1))), some (.int (nI k)), some (.int (if false = true then 1 else 0)), some (.int (nI k2))], [.int (nI k), .ref 55], t)) rfl ?_
            refine xQ.iald rfl (k := k) (rfl) (⟨by omega, by omega⟩) rfl ?_
            show xQ MX8_layDistances (78, [some (.ref 45), some (.int (mk T)), some (.int (mk A)), some (.int (nI (n + 1))), some (.int (nI k)), some (.int (if false = true then 1 else 0)), some (.int (nI k2))], [.int (t.1 55 k)], t) _
            rw [hHt k hk]
            refine xQ.go 6 (F1 := (bif !decide ((((mk (H k)) >>> ((nI k2) &&& 31)) &&& 1) = 1) then 104 else 87, [some (.ref 45), some (.int (mk T)), some (.int (mk A)), some (.int (nI (n + 1))), some (.int (nI k)), some (.int (if false = true then 1 else 0)), some (.int (nI k2))], [], t)) rfl ?_
            rw [mk_get _ hk2, b01e]
            cases hHk : H k k2 with
            | false =>
              rw [hHk] at K2
              refine xQ.brT rfl ?_
              refine xQ.go 4 (F1 := (59, [some (.ref 45), some (.int (mk T)), some (.int (mk A)), some (.int (nI (n + 1))), some (.int (nI k)), some (.int 0), some (.int ((nI k2) + 1))], [], t)) rfl ?_
              rw [← nI_succ]
              exact K2
            | true =>
              rw [hHk, Bool.true_and] at K2
              refine xQ.brF rfl ?_
              refine xQ.go 3 (F1 := (93, [some (.ref 45), some (.int (mk T)), some (.int (mk A)), some (.int (nI (n + 1))), some (.int (nI k)), some (.int (if false = true then 1 else 0)), some (.int (nI k2))], [.int (nI k2), .ref 62], t)) rfl ?_
              refine xQ.iald rfl (k := k2) (rfl) (⟨by omega, by omega⟩) rfl ?_
              show xQ MX8_layDistances (94, [some (.ref 45), some (.int (mk T)), some (.int (mk A)), some (.int (nI (n + 1))), some (.int (nI k)), some (.int (if false = true then 1 else 0)), some (.int (nI k2))], [.int (t.1 62 k2)], t) _
              refine xQ.go 4 (F1 := (bif !decide ((t.1 62 k2) = ((nI (n + 1)) - 1)) then 104 else 100, [some (.ref 45), some (.int (mk T)), some (.int (mk A)), some (.int (nI (n + 1))), some (.int (nI k)), some (.int (if false = true then 1 else 0)), some (.int (nI k2))], [], t)) rfl ?_
              rw [nI_pred, heq k2 hk2]
              cases hdn : decide (dd H A T n k2 = n) with
              | true =>
                rw [hdn] at K2
                refine xQ.brF rfl ?_
                refine xQ.go 5 (F1 := (59, [some (.ref 45), some (.int (mk T)), some (.int (mk A)), some (.int (nI (n + 1))), some (.int (nI k)), some (.int 1), some (.int ((nI k2) + 1))], [], t)) rfl ?_
                rw [← nI_succ]
                exact K2
              | false =>
                rw [hdn] at K2
                refine xQ.brT rfl ?_
                refine xQ.go 4 (F1 := (59, [some (.ref 45), some (.int (mk T)), some (.int (mk A)), some (.int (nI (n + 1))), some (.int (nI k)), some (.int 0), some (.int ((nI k2) + 1))], [], t)) rfl ?_
                rw [← nI_succ]
                exact K2
        · intro s2 hI2
          refine xQ.go 3 (F1 := (bif decide (10 ≤ (nI 10)) then 113 else 66, [some (.ref 45), some (.int (mk T)), some (.int (mk A)), some (.int (nI (n + 1))), some (.int (nI k)), some (.int (if anyv (fun u => H k u && decide (dd H A T n u = n)) 10 = true then 1 else 0)), some (.int (nI 10))], [], t)) rfl ?_
          refine xQ.brT (rfl) ?_
          have put : ∀ y : Int32, y = nI (dd H A T (n + 1) k) → xQ MX8_layDistances (157, [some (.ref 45), some (.int (mk T)), some (.int (mk A)), some (.int (nI (n + 1))), some (.int (nI k)), some (.int (if anyv (fun u => H k u && decide (dd H A T n u = n)) 10 = true then 1 else 0)), some (.int (nI 10))], [.int y, .int (nI k), .ref 62], t) (fun r w1 => r = none ∧ dB w1 (dd H A T 10) ∧ xkq [(62, none)] w w1) := by
            intro y hy
            refine xQ.iast rfl (k := k) (rfl) (⟨by omega, by omega⟩) rfl ?_
            show xQ MX8_layDistances (158, [some (.ref 45), some (.int (mk T)), some (.int (mk A)), some (.int (nI (n + 1))), some (.int (nI k)), some (.int (if anyv (fun u => H k u && decide (dd H A T n u = n)) 10 = true then 1 else 0)), some (.int (nI 10))], [], (xuI t 62 k y)) _
            refine xQ.go 2 (F1 := (46, [some (.ref 45), some (.int (mk T)), some (.int (mk A)), some (.int (nI (n + 1))), some (.int ((nI k) + 1)), some (.int (if anyv (fun u => H k u && decide (dd H A T n u = n)) 10 = true then 1 else 0)), some (.int (nI 10))], [], (xuI t 62 k y))) rfl ?_
            refine xQ.less [some (.ref 45), some (.int (mk T)), some (.int (mk A)), some (.int (nI (n + 1))), some (.int ((nI k) + 1)), none, none] (by simp [xleb]) ?_
            rw [← nI_succ]
            refine K _ ⟨fun v hv => ?_, fun v hv hv10 => ?_, xkq_I j3 rfl⟩
            · rw [uI1]
              by_cases e : v = k
              · rw [if_pos ⟨rfl, e⟩, e]; exact hy
              · rw [if_neg (fun h => e h.2)]
                exact j1 v (by omega)
            · rw [uI1, if_neg (by omega)]
              exact j2 v (by omega) hv10
          have hdd : dd H A T (n + 1) k = if (anyv (fun u => H k u && decide (dd H A T n u = n)) 10 && (decide (dd H A T n k = 99) && A k)) = true then n + 1 else dd H A T n k := rfl
          rw [hdd] at put
          have same : (anyv (fun u => H k u && decide (dd H A T n u = n)) 10 && (decide (dd H A T n k = 99) && A k)) = false → xQ MX8_layDistances (150, [some (.ref 45), some (.int (mk T)), some (.int (mk A)), some (.int (nI (n + 1))), some (.int (nI k)), some (.int (if anyv (fun u => H k u && decide (dd H A T n u = n)) 10 = true then 1 else 0)), some (.int (nI 10))], [.int (nI k), .ref 62], t) (fun r w1 => r = none ∧ dB w1 (dd H A T 10) ∧ xkq [(62, none)] w w1) := by
            intro hno
            refine xQ.go 3 (F1 := (156, [some (.ref 45), some (.int (mk T)), some (.int (mk A)), some (.int (nI (n + 1))), some (.int (nI k)), some (.int (if anyv (fun u => H k u && decide (dd H A T n u = n)) 10 = true then 1 else 0)), some (.int (nI 10))], [.int (nI k), .ref 62, .int (nI k), .ref 62], t)) rfl ?_
            refine xQ.iald rfl (k := k) (rfl) (⟨by omega, by omega⟩) rfl ?_
            show xQ MX8_layDistances (157, [some (.ref 45), some (.int (mk T)), some (.int (mk A)), some (.int (nI (n + 1))), some (.int (nI k)), some (.int (if anyv (fun u => H k u && decide (dd H A T n u = n)) 10 = true then 1 else 0)), some (.int (nI 10))], [.int (t.1 62 k), .int (nI k), .ref 62], t) _
            rw [j2 k (Nat.le_refl _) hk]
            exact put _ (by rw [if_neg (by rw [hno]; decide)])
          refine xQ.go 5 (F1 := (bif decide ((if anyv (fun u => H k u && decide (dd H A T n u = n)) 10 = true then 1 else 0) = 0) then 150 else 124, [some (.ref 45), some (.int (mk T)), some (.int (mk A)), some (.int (nI (n + 1))), some (.int (nI k)), some (.int (if anyv (fun u => H k u && decide (dd H A T n u = n)) 10 = true then 1 else 0)), some (.int (nI 10))], [.int (nI k), .ref 62], t)) rfl ?_
          cases hf : anyv (fun u => H k u && decide (dd H A T n u = n)) 10 with
          | false =>
            rw [hf] at same
            refine xQ.brT rfl ?_
            exact same rfl
          | true =>
            rw [hf] at same put
            refine xQ.brF rfl ?_
            refine xQ.go 3 (F1 := (130, [some (.ref 45), some (.int (mk T)), some (.int (mk A)), some (.int (nI (n + 1))), some (.int (nI k)), some (.int (if true = true then 1 else 0)), some (.int (nI 10))], [.int (nI k), .ref 62, .int (nI k), .ref 62], t)) rfl ?_
            refine xQ.iald rfl (k := k) (rfl) (⟨by omega, by omega⟩) rfl ?_
            show xQ MX8_layDistances (131, [some (.ref 45), some (.int (mk T)), some (.int (mk A)), some (.int (nI (n + 1))), some (.int (nI k)), some (.int (if true = true then 1 else 0)), some (.int (nI 10))], [.int (t.1 62 k), .int (nI k), .ref 62], t) _
            rw [j2 k (Nat.le_refl _) hk]
            refine xQ.go 2 (F1 := (bif !decide ((nI (dd H A T n k)) = 99) then 150 else 136, [some (.ref 45), some (.int (mk T)), some (.int (mk A)), some (.int (nI (n + 1))), some (.int (nI k)), some (.int (if true = true then 1 else 0)), some (.int (nI 10))], [.int (nI k), .ref 62], t)) rfl ?_
            rw [show (99 : Int32) = nI 99 from rfl, nI_dec (by rcases dd_le H A T n k with h | h <;> omega) (by omega)]
            cases h99 : decide (dd H A T n k = 99) with
            | false =>
              rw [h99] at same
              refine xQ.brT rfl ?_
              exact same rfl
            | true =>
              rw [h99] at same put
              refine xQ.brF rfl ?_
              refine xQ.go 7 (F1 := (bif !decide ((((mk A) >>> ((nI k) &&& 31)) &&& 1) = 1) then 150 else 146, [some (.ref 45), some (.int (mk T)), some (.int (mk A)), some (.int (nI (n + 1))), some (.int (nI k)), some (.int (if true = true then 1 else 0)), some (.int (nI 10))], [.int (nI k), .ref 62], t)) rfl ?_
              rw [mk_get _ hk, b01e]
              cases hA : A k with
              | false =>
                rw [hA] at same
                refine xQ.brT rfl ?_
                exact same rfl
              | true =>
                rw [hA] at put
                refine xQ.brF rfl ?_
                refine xQ.go 2 (F1 := (157, [some (.ref 45), some (.int (mk T)), some (.int (mk A)), some (.int (nI (n + 1))), some (.int (nI k)), some (.int (if true = true then 1 else 0)), some (.int (nI 10))], [.int (nI (n + 1)), .int (nI k), .ref 62], t)) rfl ?_
                exact put _ (by simp)
      · intro t hI
        refine xQ.go 3 (F1 := (bif decide (10 ≤ (nI 10)) then 164 else 53, [some (.ref 45), some (.int (mk T)), some (.int (mk A)), some (.int (nI (n + 1))), some (.int (nI 10)), none, none], [], t)) rfl ?_
        refine xQ.brT (rfl) ?_
        refine xQ.go 2 (F1 := (37, [some (.ref 45), some (.int (mk T)), some (.int (mk A)), some (.int ((nI (n + 1)) + 1)), some (.int (nI 10)), none, none], [], t)) rfl ?_
        refine xQ.less [some (.ref 45), some (.int (mk T)), some (.int (mk A)), some (.int ((nI (n + 1)) + 1)), none, none, none] (by simp [xleb]) ?_
        rw [← nI_succ]
        exact K t ⟨fun v hv => hI.1 v hv, hI.2.2⟩
    · intro t hI
      refine xQ.go 3 (F1 := (bif decide (10 < (nI (10 + 1))) then 170 else 43, [some (.ref 45), some (.int (mk T)), some (.int (mk A)), some (.int (nI (10 + 1))), none, none, none], [], t)) rfl ?_
      refine xQ.brT (rfl) ?_
      refine xQ.vret 1 rfl rfl ?_
      exact ⟨rfl, hI.1, hI.2⟩
theorem m_lowAt {w : xW} {X : Nat → Bool} {d : Nat → Nat} {f : Nat} (hd : dB w d) (hd2 : ∀ v, v < 10 → d v < 2 ^ 31) (hf : f < 2 ^ 31) (h : low (fun v => X v && decide (d v = f)) < 10) : xC MX8_lowestAt [.ref 45, .int (mk X), .int (nI f)] w (some (.int (nI (low (fun v => X v && decide (d v = f)))))) w := by
  unfold xC
  show xE MX8_lowestAt (0, [some (.ref 45), some (.int (mk X)), some (.int (nI f)), none], [], w) _ _
  refine xE.go 2 (F1 := (2, [some (.ref 45), some (.int (mk X)), some (.int (nI f)), some (.int 0)], [], w)) rfl ?_
  refine xE.loop (S := Unit) (fun k s => (2, [some (.ref 45), some (.int (mk X)), some (.int (nI f)), some (.int (nI k))], [], w)) (fun _ _ => True) (low (fun v => X v && decide (d v = f))) () (rfl) (trivial) ?_ ?_
  · intro k s hk hI K
    have K := K () trivial
    have hk10 : k < 10 := by omega
    have hno := low_lt hk hk10
    refine xE.go 6 (F1 := (bif decide ((((mk X) >>> ((nI k) &&& 31)) &&& 1) = 0) then 20 else 10, [some (.ref 45), some (.int (mk X)), some (.int (nI f)), some (.int (nI k))], [], w)) rfl ?_
    rw [mk_get _ hk10, b01d]
    cases hX : X k with
    | false =>
      refine xE.brT rfl ?_
      refine xE.go 2 (F1 := (2, [some (.ref 45), some (.int (mk X)), some (.int (nI f)), some (.int ((nI k) + 1))], [], w)) rfl ?_
      rw [← nI_succ]
      exact K
    | true =>
      refine xE.brF rfl ?_
      have hno : (X k && decide (d k = f)) = false := hno
      rw [hX, Bool.true_and] at hno
      refine xE.go 3 (F1 := (15, [some (.ref 45), some (.int (mk X)), some (.int (nI f)), some (.int (nI k))], [.int (nI k), .ref 62], w)) rfl ?_
      refine xE.iald rfl (k := k) (rfl) (⟨by omega, by omega⟩) rfl ?_
      show xE MX8_lowestAt (16, [some (.ref 45), some (.int (mk X)), some (.int (nI f)), some (.int (nI k))], [.int (w.1 62 k)], w) _ _
      refine xE.go 2 (F1 := (bif decide ((w.1 62 k) = (nI f)) then 26 else 20, [some (.ref 45), some (.int (mk X)), some (.int (nI f)), some (.int (nI k))], [], w)) rfl ?_
      rw [hd k hk10, nI_dec (hd2 k hk10) hf, hno]
      refine xE.brF rfl ?_
      refine xE.go 2 (F1 := (2, [some (.ref 45), some (.int (mk X)), some (.int (nI f)), some (.int ((nI k) + 1))], [], w)) rfl ?_
      rw [← nI_succ]
      exact K
  · intro s hI
    have hin := low_in h
    generalize low (fun v => X v && decide (d v = f)) = q at *
    have hin : (X q && decide (d q = f)) = true := hin
    rw [Bool.and_eq_true] at hin
    refine xE.go 6 (F1 := (bif decide ((((mk X) >>> ((nI q) &&& 31)) &&& 1) = 0) then 20 else 10, [some (.ref 45), some (.int (mk X)), some (.int (nI f)), some (.int (nI q))], [], w)) rfl ?_
    refine xE.brF (by rw [mk_get _ h, b01d, hin.1]; rfl) ?_
    refine xE.go 3 (F1 := (15, [some (.ref 45), some (.int (mk X)), some (.int (nI f)), some (.int (nI q))], [.int (nI q), .ref 62], w)) rfl ?_
    refine xE.iald rfl (k := q) (rfl) (⟨by omega, by omega⟩) rfl ?_
    show xE MX8_lowestAt (16, [some (.ref 45), some (.int (mk X)), some (.int (nI f)), some (.int (nI q))], [.int (w.1 62 q)], w) _ _
    refine xE.go 2 (F1 := (bif decide ((w.1 62 q) = (nI f)) then 26 else 20, [some (.ref 45), some (.int (mk X)), some (.int (nI f)), some (.int (nI q))], [], w)) rfl ?_
    refine xE.brT (by rw [hd q h, nI_dec (hd2 q h) hf]; exact hin.2) ?_
    refine xE.go 1 (F1 := (27, [some (.ref 45), some (.int (mk X)), some (.int (nI f)), some (.int (nI q))], [.int (nI q)], w)) rfl ?_
    exact xE.iret .int 1 rfl rfl (rfl)
