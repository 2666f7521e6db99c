/-! the walks of the class: cells 39 .. 43 -/
def labI (m : Int32) (o : Option Nat) : Int32 := match o with
  | none => m
  | some k => nI k
def wK (w : xW) (lab : Nat → Option Nat) (ws : List (List xPr)) : Prop :=
  (∀ d, d < 100 → w.1 41 d = labI (-1) (lab d)) ∧ w.1 39 4 = nI ws.length ∧ w.1 39 5 = nI ws.flatten.length ∧
  (∀ j q, ws.flatten[j]? = some q → w.1 43 j = nI q.1) ∧ ∀ k, k < ws.length → w.1 42 k = nI (off ws k) ∧ w.1 42 (k + 1) = nI (off ws (k + 1))
theorem labI_dec {o : Option Nat} (h : ∀ k, o = some k → k < 2 ^ 31) : decide (labI (-1) o = -1) = !o.isSome := by
  cases o with
  | none => rfl
  | some k =>
    refine decide_eq_false (fun e => nI_pos (n := k) (h k rfl) ?_)
    rw [show nI k = -1 from e]
    decide
theorem c_wsize {w : xW} : xC MX6_size [.ref 39] w (some (.int (w.1 39 4))) w := by
  unfold xC
  show xE MX6_size (0, [some (.ref 39)], [], w) _ _
  refine xE.go 2 (F1 := (4, [some (.ref 39)], [.int (w.1 39 4)], w)) rfl ?_
  exact xE.iret .int 1 rfl rfl (rfl)
theorem c_wholds {w : xW} {k n : Nat} (hn : w.1 39 4 = nI n) (hk : k < n) (h49 : n < 49) : xC MX6_holds [.ref 39, .int (nI k)] w (some (.int 1)) w := by
  unfold xC
  show xE MX6_holds (0, [some (.ref 39), some (.int (nI k))], [], w) _ _
  refine xE.go 2 (F1 := (bif decide ((nI k) < 0) then 16 else 4, [some (.ref 39), some (.int (nI k))], [], w)) rfl ?_
  refine xE.brF (decide_eq_false (nI_pos (by omega))) ?_
  refine xE.go 4 (F1 := (bif decide ((w.1 39 4) ≤ (nI k)) then 16 else 12, [some (.ref 39), some (.int (nI k))], [], w)) rfl ?_
  refine xE.brF (by rw [hn]; exact decide_eq_false (nI_ge hk (by omega))) ?_
  refine xE.go 2 (F1 := (17, [some (.ref 39), some (.int (nI k))], [.int 1], w)) rfl ?_
  exact xE.iret .boolean 1 rfl rfl (rfl)
theorem c_wholds_0 {w : xW} {x : Int32} {n : Nat} (hn : w.1 39 4 = nI n) (hx : ∀ k, k < n → x ≠ nI k) (h49 : n < 49) : xC MX6_holds [.ref 39, .int x] w (some (.int 0)) w := by
  unfold xC
  show xE MX6_holds (0, [some (.ref 39), some (.int x)], [], w) _ _
  refine xE.go 2 (F1 := (bif decide (x < 0) then 16 else 4, [some (.ref 39), some (.int x)], [], w)) rfl ?_
  refine xE.br (fun h => ?_) (fun h => ?_)
  · refine xE.go 1 (F1 := (17, [some (.ref 39), some (.int x)], [.int 0], w)) rfl ?_
    exact xE.iret .boolean 1 rfl rfl (rfl)
  · have hge : nI n ≤ x := by
      refine Classical.byContradiction fun hc => ?_
      obtain ⟨k, hk, e⟩ := i_of (N := n) (by omega) (i_lt0 h) hc
      exact hx k hk e
    refine xE.go 4 (F1 := (bif decide ((w.1 39 4) ≤ x) then 16 else 12, [some (.ref 39), some (.int x)], [], w)) rfl ?_
    refine xE.brT (by rw [hn]; exact decide_eq_true hge) ?_
    refine xE.go 1 (F1 := (17, [some (.ref 39), some (.int x)], [.int 0], w)) rfl ?_
    exact xE.iret .boolean 1 rfl rfl (rfl)
theorem c_ofDart {w : xW} {a b : Nat} (ha : a < 10) (hb : b < 10) : xC MX6_ofDart [.ref 39, .int (nI a), .int (nI b)] w (some (.int (w.1 41 (10 * a + b)))) w := by
  unfold xC
  show xE MX6_ofDart (0, [some (.ref 39), some (.int (nI a)), some (.int (nI b))], [], w) _ _
  refine xE.go 4 (F1 := (6, [some (.ref 39), some (.int (nI a)), some (.int (nI b))], [.int (nI b), .int (nI a), .ref 41], w)) rfl ?_
  refine xE.call rfl (c_cell) ?_
  show xE MX6_ofDart (9, [some (.ref 39), some (.int (nI a)), some (.int (nI b))], [.int (nI (10 * a + b)), .ref 41], w) _ _
  refine xE.call rfl (c_at rfl (by omega) (by omega)) ?_
  show xE MX6_ofDart (12, [some (.ref 39), some (.int (nI a)), some (.int (nI b))], [.int (w.1 41 (10 * a + b))], w) _ _
  exact xE.iret .int 1 rfl rfl (rfl)
theorem c_behind {w : xW} {a b : Nat} (ha : a < 10) (hb : b < 10) : xC MX6_behind [.ref 39, .int (nI a), .int (nI b)] w (some (.int (w.1 40 (10 * a + b)))) w := by
  unfold xC
  show xE MX6_behind (0, [some (.ref 39), some (.int (nI a)), some (.int (nI b))], [], w) _ _
  refine xE.go 4 (F1 := (6, [some (.ref 39), some (.int (nI a)), some (.int (nI b))], [.int (nI b), .int (nI a), .ref 40], w)) rfl ?_
  refine xE.call rfl (c_cell) ?_
  show xE MX6_behind (9, [some (.ref 39), some (.int (nI a)), some (.int (nI b))], [.int (nI (10 * a + b)), .ref 40], w) _ _
  refine xE.call rfl (c_at rfl (by omega) (by omega)) ?_
  show xE MX6_behind (12, [some (.ref 39), some (.int (nI a)), some (.int (nI b))], [.int (w.1 40 (10 * a + b))], w) _ _
  exact xE.iret .int 1 rfl rfl (rfl)
theorem c_wlen {w : xW} {k a b : Nat} (hk : k < 48) (h1 : w.1 42 k = nI a) (h2 : w.1 42 (k + 1) = nI b) (hab : a ≤ b) : xC MX6_lengthOf [.ref 39, .int (nI k)] w (some (.int (nI (b - a)))) w := by
  unfold xC
  show xE MX6_lengthOf (0, [some (.ref 39), some (.int (nI k))], [], w) _ _
  refine xE.go 5 (F1 := (7, [some (.ref 39), some (.int (nI k))], [.int ((nI k) + 1), .ref 42], w)) rfl ?_
  rw [← nI_succ]
  refine xE.call rfl (c_at rfl (by omega) (by omega)) ?_
  show xE MX6_lengthOf (10, [some (.ref 39), some (.int (nI k))], [.int (w.1 42 (k + 1))], w) _ _
  refine xE.go 3 (F1 := (15, [some (.ref 39), some (.int (nI k))], [.int (nI k), .ref 42, .int (w.1 42 (k + 1))], w)) rfl ?_
  refine xE.call rfl (c_at rfl (by omega) (by omega)) ?_
  show xE MX6_lengthOf (18, [some (.ref 39), some (.int (nI k))], [.int (w.1 42 k), .int (w.1 42 (k + 1))], w) _ _
  refine xE.go 1 (F1 := (19, [some (.ref 39), some (.int (nI k))], [.int ((w.1 42 (k + 1)) - (w.1 42 k))], w)) rfl ?_
  rw [h1, h2, jI_sub hab]
  exact xE.iret .int 1 rfl rfl (rfl)
theorem c_wvert {w : xW} {k a j : Nat} (hk : k < 49) (h1 : w.1 42 k = nI a) (hj : a + j < 48) : xC MX6_vertexOf [.ref 39, .int (nI k), .int (nI j)] w (some (.int (w.1 43 (a + j)))) w := by
  unfold xC
  show xE MX6_vertexOf (0, [some (.ref 39), some (.int (nI k)), some (.int (nI j))], [], w) _ _
  refine xE.go 5 (F1 := (9, [some (.ref 39), some (.int (nI k)), some (.int (nI j))], [.int (nI k), .ref 42, .ref 43], w)) rfl ?_
  refine xE.call rfl (c_at rfl (by omega) (by omega)) ?_
  show xE MX6_vertexOf (12, [some (.ref 39), some (.int (nI k)), some (.int (nI j))], [.int (w.1 42 k), .ref 43], w) _ _
  refine xE.go 2 (F1 := (14, [some (.ref 39), some (.int (nI k)), some (.int (nI j))], [.int ((w.1 42 k) + (nI j)), .ref 43], w)) rfl ?_
  rw [h1, jI_add]
  refine xE.call rfl (c_at rfl (by omega) (by omega)) ?_
  show xE MX6_vertexOf (17, [some (.ref 39), some (.int (nI k)), some (.int (nI j))], [.int (w.1 43 (a + j))], w) _ _
  exact xE.iret .int 1 rfl rfl (rfl)
theorem flat_snoc (ws : List (List xPr)) (L : List xPr) : (ws ++ [L]).flatten = ws.flatten ++ L := by simp
theorem c_follow {w : xW} {G : Nat → Nat → Bool} {N : Nat → Nat → Nat} {lab : Nat → Option Nat} {ws : List (List xPr)} {v x : Nat} (hG : ∀ v x, G v x = true → v < 10 ∧ x < 10 ∧ G x (N x v) = true) (hN : ∀ v x, G v x = true → w.1 40 (10 * x + v) = nI (N x v)) (hvx : G v x = true) (hk : wK w lab ws) (hlk : ∀ d k, lab d = some k → k < ws.length) (hwl : ws.length ≤ ws.flatten.length) (htot : ws.flatten.length + fre G lab ≤ 48) (hfree : (lab (10 * v + x)).isSome = false) : xD MX6_follow [.ref 39, .int (nI v), .int (nI x)] w (fun r w1 => r = none ∧ wK w1 (fol N ws.length 101 lab v x).1 (ws ++ [(fol N ws.length 101 lab v x).2]) ∧ xkq [(39, some 4), (39, some 5), (41, none), (42, none), (43, none)] w w1) := by
  obtain ⟨hv, hx, _⟩ := hG v x hvx
  obtain ⟨k1, k2, k3, k4, k5⟩ := hk
  have hfp := fre_pos hv hx hvx hfree
  refine xD.of ?_
  show xQ MX6_follow (0, [some (.ref 39), some (.int (nI v)), some (.int (nI x)), none, none, none, none], [], w) _
  refine xQ.go 10 (F1 := (17, [some (.ref 39), some (.int (nI v)), some (.int (nI x)), some (.int (nI v)), some (.int (nI x)), none, none], [.int (w.1 39 5), .int (w.1 39 4), .ref 42], w)) rfl ?_
  rw [k2, k3]
  refine xQ.call rfl (c_put rfl (show ws.length < 49 by omega) (by omega)) ?_
  show xQ MX6_follow (20, [some (.ref 39), some (.int (nI v)), some (.int (nI x)), some (.int (nI v)), some (.int (nI x)), none, none], [], (xuI w 42 ws.length (nI ws.flatten.length))) _
  refine xQ.go 2 (F1 := (23, [some (.ref 39), some (.int (nI v)), some (.int (nI x)), some (.int (nI v)), some (.int (nI x)), some (.int 0), none], [], (xuI w 42 ws.length (nI ws.flatten.length)))) rfl ?_
  have tail : ∀ (s1 : xW) (a b : Nat) (k : Nat) (y : Option Value) (labe : Nat → Option Nat) (L : List xPr), L.length = k → k ≤ 48 → 1 ≤ k → fol N ws.length 101 lab v x = (labe, L) → (∀ d, d < 100 → s1.1 41 d = labI (-1) (labe d)) → s1.1 39 5 = nI (ws.flatten.length + k) → (∀ j q, (ws.flatten ++ L)[j]? = some q → s1.1 43 j = nI q.1) → s1.1 42 ws.length = nI ws.flatten.length → (∀ i, i ≠ ws.length → s1.1 42 i = w.1 42 i) → xkq [(39, some 5), (41, none), (42, none), (43, none)] w s1 → xQ MX6_follow (102, [some (.ref 39), some (.int (nI v)), some (.int (nI x)), some (.int (nI a)), some (.int (nI b)), some (.int (nI k)), y], [], s1) (fun r w1 => r = none ∧ wK w1 (fol N ws.length 101 lab v x).1 (ws ++ [(fol N ws.length 101 lab v x).2]) ∧ xkq [(39, some 4), (39, some 5), (41, none), (42, none), (43, none)] w w1) := by
    intro s1 a b k y labe L hL hk48 hk1 hfol j1 j2 j3 j4 j6 j5
    have hw47 : ws.length < 48 := by omega
    have e4 : s1.1 39 4 = nI ws.length := by rw [xkq_at j5 39 4, k2]
    refine xQ.less [some (.ref 39), none, none, none, none, none, none] (by simp [xleb]) ?_
    refine xQ.go 9 (F1 := (117, [some (.ref 39), none, none, none, none, none, none], [.ref 39, .ref 42], (xuI s1 39 4 ((s1.1 39 4) + 1)))) rfl ?_
    rw [e4, ← nI_succ]
    refine xQ.go 3 (F1 := (124, [some (.ref 39), none, none, none, none, none, none], [.int ((xuI s1 39 4 (nI (ws.length + 1))).1 39 5), .int ((xuI s1 39 4 (nI (ws.length + 1))).1 39 4), .ref 42], (xuI s1 39 4 (nI (ws.length + 1))))) rfl ?_
    rw [show (xuI s1 39 4 (nI (ws.length + 1))).1 39 4 = nI (ws.length + 1) by simp [uI1], show (xuI s1 39 4 (nI (ws.length + 1))).1 39 5 = nI (ws.flatten.length + k) by simp [uI1, j2]]
    refine xQ.call rfl (c_put rfl (show ws.length + 1 < 49 by omega) (by omega)) ?_
    show xQ MX6_follow (127, [some (.ref 39), none, none, none, none, none, none], [], (xuI (xuI s1 39 4 (nI (ws.length + 1))) 42 (ws.length + 1) (nI (ws.flatten.length + k)))) _
    refine xQ.vret 1 rfl rfl ?_
    rw [hfol]
    refine ⟨rfl, ⟨fun d hd => by simpa [uI1] using j1 d hd, by simp [uI1], by simp [uI1, j2, hL], fun j q hj => ?_, fun i hi => ?_⟩, ?_⟩
    · rw [flat_snoc] at hj
      simpa [uI1] using j3 j q hj
    · have hlast : (ws ++ [L])[ws.length]? = some L := by simp
      have o1 : off (ws ++ [L]) ws.length = ws.flatten.length := by unfold off; simp
      by_cases e : i = ws.length
      · subst e
        refine ⟨by rw [o1]; simp [uI1, j4], ?_⟩
        rw [off_succ hlast, o1, hL]
        simp [uI1]
      · have hi2 : i < ws.length := by
          rw [List.length_append] at hi
          simp only [List.length_cons, List.length_nil] at hi
          omega
        obtain ⟨q1, q2⟩ := k5 i hi2
        have o2 : ∀ i, i ≤ ws.length → off (ws ++ [L]) i = off ws i := fun i hi => by
          unfold off
          rw [List.take_append_of_le_length hi]
        rw [o2 i (by omega), o2 (i + 1) (by omega)]
        have e2 : i ≠ ws.length + 1 := by omega
        refine ⟨?_, ?_⟩
        · rw [← q1, ← j6 i e]
          simp [uI1, e2]
        · have e3 : i + 1 ≠ ws.length + 1 := by omega
          by_cases e4 : i + 1 = ws.length
          · rw [e4, off_all, ← j4]
            simp [uI1]
          · rw [← q2, ← j6 (i + 1) e4]
            simp [uI1, e3, e]
    · exact xkq_I (xkq_I (xkq_mono rfl j5) rfl) rfl
  refine xQ.loop (S := xW × (Nat → Option Nat) × xPr × List xPr) (fun k s => (23, [some (.ref 39), some (.int (nI v)), some (.int (nI x)), some (.int (nI s.2.2.1.1)), some (.int (nI s.2.2.1.2)), some (.int (nI k)), none], [], s.1)) (fun k s => G s.2.2.1.1 s.2.2.1.2 = true ∧ s.2.2.2.length = k ∧ fre G s.2.1 + k = fre G lab ∧ (∀ d k, s.2.1 d = some k → k ≤ ws.length) ∧ fol N ws.length 101 lab v x = ((fol N ws.length (101 - k) s.2.1 s.2.2.1.1 s.2.2.1.2).1, s.2.2.2 ++ (fol N ws.length (101 - k) s.2.1 s.2.2.1.1 s.2.2.1.2).2) ∧ (∀ d, d < 100 → s.1.1 41 d = labI (-1) (s.2.1 d)) ∧ s.1.1 39 5 = nI (ws.flatten.length + k) ∧ (∀ j q, (ws.flatten ++ s.2.2.2)[j]? = some q → s.1.1 43 j = nI q.1) ∧ s.1.1 42 ws.length = nI ws.flatten.length ∧ (∀ i, i ≠ ws.length → s.1.1 42 i = w.1 42 i) ∧ xkq [(39, some 5), (41, none), (42, none), (43, none)] w s.1) 48 ((xuI w 42 ws.length (nI ws.flatten.length)), lab, (v, x), []) (rfl) (⟨hvx, rfl, Nat.add_zero _, (fun d k h => by have := hlk d k h; omega), by simp, (fun d hd => by simpa [uI1] using k1 d hd), by simpa [uI1] using k3, (fun j q hj => by rw [List.append_nil] at hj; simpa [uI1] using k4 j q hj), by simp [uI1], (fun i hi => by simp [uI1, hi]), xkq_I xkq_rfl rfl⟩) ?_ ?_
  · intro k s hk hI K
    obtain ⟨s, lb, q, L⟩ := s
    obtain ⟨i1, i2, i3, i4, i5, i6, i7, i8, i9, i11, i10⟩ := hI
    obtain ⟨a, b⟩ := q
    simp only at i1 i2 i3 i4 i5 i6 i7 i8 i9 i11 i10 ⊢
    obtain ⟨ha, hb, hn⟩ := hG a b i1
    show xQ MX6_follow (23, [some (.ref 39), some (.int (nI v)), some (.int (nI x)), some (.int (nI a)), some (.int (nI b)), some (.int (nI k)), none], [], s) _
    refine xQ.go 3 (F1 := (bif decide (48 ≤ (nI k)) then 102 else 30, [some (.ref 39), some (.int (nI v)), some (.int (nI x)), some (.int (nI a)), some (.int (nI b)), some (.int (nI k)), none], [], s)) rfl ?_
    refine xQ.brF (decide_eq_false (nI_ge (b := 48) (by omega) (by omega))) ?_
    refine xQ.go 3 (F1 := (34, [some (.ref 39), some (.int (nI v)), some (.int (nI x)), some (.int (nI a)), some (.int (nI b)), some (.int (nI k)), none], [.int (nI b), .int (nI a), .ref 39], s)) rfl ?_
    refine xQ.call rfl (c_ofDart ha hb) ?_
    show xQ MX6_follow (37, [some (.ref 39), some (.int (nI v)), some (.int (nI x)), some (.int (nI a)), some (.int (nI b)), some (.int (nI k)), none], [.int (s.1 41 (10 * a + b))], s) _
    rw [i6 _ (by omega)]
    refine xQ.go 2 (F1 := (bif !decide ((labI (-1) (lb (10 * a + b))) = (-1)) then 102 else 41, [some (.ref 39), some (.int (nI v)), some (.int (nI x)), some (.int (nI a)), some (.int (nI b)), some (.int (nI k)), none], [], s)) rfl ?_
    rw [labI_dec (fun k h => by have := i4 _ k h; omega), Bool.not_not]
    cases hs : (lb (10 * a + b)).isSome with
    | true =>
      rw [fol_stop hs, List.append_nil] at i5
      have h1k : 1 ≤ k := by
        rcases Nat.eq_zero_or_pos k with e | e
        · exfalso
          subst e
          have := fol_len (N := N) (k := ws.length) (n := 100) hfree
          rw [i5] at this
          simp only at this
          omega
        · exact e
      exact tail s a b k _ lb L i2 (by omega) h1k i5 i6 i7 i8 i9 i11 i10
    | false =>
      have hfu := fre_wup (k := ws.length) ha hb i1 hs
      refine xQ.go 4 (F1 := (48, [some (.ref 39), some (.int (nI v)), some (.int (nI x)), some (.int (nI a)), some (.int (nI b)), some (.int (nI k)), none], [.int (nI b), .int (nI a), .ref 41], s)) rfl ?_
      refine xQ.call rfl (c_cell) ?_
      show xQ MX6_follow (51, [some (.ref 39), some (.int (nI v)), some (.int (nI x)), some (.int (nI a)), some (.int (nI b)), some (.int (nI k)), none], [.int (nI (10 * a + b)), .ref 41], s) _
      refine xQ.go 2 (F1 := (55, [some (.ref 39), some (.int (nI v)), some (.int (nI x)), some (.int (nI a)), some (.int (nI b)), some (.int (nI k)), none], [.int (s.1 39 4), .int (nI (10 * a + b)), .ref 41], s)) rfl ?_
      rw [show s.1 39 4 = nI ws.length by rw [xkq_at i10 39 4, k2]]
      refine xQ.call rfl (c_put rfl (show 10 * a + b < 100 by omega) (by omega)) ?_
      show xQ MX6_follow (58, [some (.ref 39), some (.int (nI v)), some (.int (nI x)), some (.int (nI a)), some (.int (nI b)), some (.int (nI k)), none], [], (xuI s 41 (10 * a + b) (nI ws.length))) _
      refine xQ.go 5 (F1 := (67, [some (.ref 39), some (.int (nI v)), some (.int (nI x)), some (.int (nI a)), some (.int (nI b)), some (.int (nI k)), none], [.int (nI a), .int ((xuI s 41 (10 * a + b) (nI ws.length)).1 39 5), .ref 43], (xuI s 41 (10 * a + b) (nI ws.length)))) rfl ?_
      rw [show (xuI s 41 (10 * a + b) (nI ws.length)).1 39 5 = nI (ws.flatten.length + k) by simp [uI1, i7]]
      refine xQ.call rfl (c_put rfl (show ws.flatten.length + k < 48 by omega) (by omega)) ?_
      show xQ MX6_follow (70, [some (.ref 39), some (.int (nI v)), some (.int (nI x)), some (.int (nI a)), some (.int (nI b)), some (.int (nI k)), none], [], (xuI (xuI s 41 (10 * a + b) (nI ws.length)) 43 (ws.flatten.length + k) (nI a))) _
      refine xQ.go 5 (F1 := (77, [some (.ref 39), some (.int (nI v)), some (.int (nI x)), some (.int (nI a)), some (.int (nI b)), some (.int (nI k)), none], [.int (((xuI (xuI s 41 (10 * a + b) (nI ws.length)) 43 (ws.flatten.length + k) (nI a)).1 39 5) + 1), .ref 39], (xuI (xuI s 41 (10 * a + b) (nI ws.length)) 43 (ws.flatten.length + k) (nI a)))) rfl ?_
      rw [show (xuI (xuI s 41 (10 * a + b) (nI ws.length)) 43 (ws.flatten.length + k) (nI a)).1 39 5 = nI (ws.flatten.length + k) by simp [uI1, i7], ← nI_succ]
      refine xQ.go 4 (F1 := (84, [some (.ref 39), some (.int (nI v)), some (.int (nI x)), some (.int (nI a)), some (.int (nI b)), some (.int (nI k)), none], [.int (nI a), .int (nI b), .ref 39], (xuI (xuI (xuI s 41 (10 * a + b) (nI ws.length)) 43 (ws.flatten.length + k) (nI a)) 39 5 (nI (ws.flatten.length + k + 1))))) rfl ?_
      refine xQ.call rfl (c_behind hb ha) ?_
      show xQ MX6_follow (87, [some (.ref 39), some (.int (nI v)), some (.int (nI x)), some (.int (nI a)), some (.int (nI b)), some (.int (nI k)), none], [.int ((xuI (xuI (xuI s 41 (10 * a + b) (nI ws.length)) 43 (ws.flatten.length + k) (nI a)) 39 5 (nI (ws.flatten.length + k + 1))).1 40 (10 * b + a))], (xuI (xuI (xuI s 41 (10 * a + b) (nI ws.length)) 43 (ws.flatten.length + k) (nI a)) 39 5 (nI (ws.flatten.length + k + 1)))) _
      rw [show (xuI (xuI (xuI s 41 (10 * a + b) (nI ws.length)) 43 (ws.flatten.length + k) (nI a)) 39 5 (nI (ws.flatten.length + k + 1))).1 40 (10 * b + a) = nI (N b a) by
        simp only [uI1]
        rw [if_neg (by omega), if_neg (by omega), if_neg (by omega), xkq_at i10 40 (10 * b + a)]
        exact hN a b i1]
      refine xQ.go 7 (F1 := (23, [some (.ref 39), some (.int (nI v)), some (.int (nI x)), some (.int (nI b)), some (.int (nI (N b a))), some (.int ((nI k) + 1)), some (.int (nI (N b a)))], [], (xuI (xuI (xuI s 41 (10 * a + b) (nI ws.length)) 43 (ws.flatten.length + k) (nI a)) 39 5 (nI (ws.flatten.length + k + 1))))) rfl ?_
      refine xQ.less [some (.ref 39), some (.int (nI v)), some (.int (nI x)), some (.int (nI b)), some (.int (nI (N b a))), some (.int ((nI k) + 1)), none] (by simp [xleb]) ?_
      rw [← nI_succ]
      refine K ((xuI (xuI (xuI s 41 (10 * a + b) (nI ws.length)) 43 (ws.flatten.length + k) (nI a)) 39 5 (nI (ws.flatten.length + k + 1))), wup lb (10 * a + b) ws.length, (b, N b a), L ++ [(a, b)]) ⟨hn, by simp [i2], by simp only; omega, fun d j hd => ?_, ?_, fun d hd => ?_, by simp [uI1, Nat.add_assoc], fun j q hj => ?_, by simp only [uI1]; rw [if_neg (by omega), if_neg (by omega), if_neg (by omega)]; exact i9, (fun i hi => by simp [uI1, i11 i hi]), xkq_I (xkq_I (xkq_I i10 rfl) rfl) rfl⟩
      · simp only [wup_eq] at hd
        by_cases e : d = 10 * a + b
        · rw [if_pos e] at hd
          cases hd
          exact Nat.le_refl _
        · rw [if_neg e] at hd
          exact i4 d j hd
      · rw [i5, show 101 - k = (101 - (k + 1)) + 1 by omega, fol_go hs]
        simp
      · simp only [wup_eq]
        by_cases e : d = 10 * a + b
        · rw [if_pos e, e]
          simp [uI1, labI]
        · rw [if_neg e, ← i6 d hd]
          simp [uI1, e]
      · simp only at hj ⊢
        rw [← List.append_assoc] at hj
        by_cases e : j = ws.flatten.length + k
        · subst e
          have : (ws.flatten ++ L ++ [(a, b)])[ws.flatten.length + k]? = some (a, b) := by
            rw [List.getElem?_append_right (by rw [List.length_append]; omega), List.length_append, i2]
            simp
          rw [this] at hj
          cases hj
          simp [uI1]
        · have hjl := (List.getElem?_eq_some_iff.mp hj).1
          rw [List.length_append, List.length_append] at hjl
          simp only [List.length_cons, List.length_nil] at hjl
          rw [List.getElem?_append_left (by rw [List.length_append]; omega)] at hj
          rw [← i8 j q hj]
          simp [uI1, e, -List.length_flatten]
  · intro s hI
    obtain ⟨s, lb, q, L⟩ := s
    obtain ⟨i1, i2, i3, i4, i5, i6, i7, i8, i9, i11, i10⟩ := hI
    obtain ⟨a, b⟩ := q
    simp only at i1 i2 i3 i4 i5 i6 i7 i8 i9 i11 i10 ⊢
    obtain ⟨ha, hb, hn⟩ := hG a b i1
    show xQ MX6_follow (23, [some (.ref 39), some (.int (nI v)), some (.int (nI x)), some (.int (nI a)), some (.int (nI b)), some (.int (nI 48)), none], [], s) _
    refine xQ.go 3 (F1 := (bif decide (48 ≤ (nI 48)) then 102 else 30, [some (.ref 39), some (.int (nI v)), some (.int (nI x)), some (.int (nI a)), some (.int (nI b)), some (.int (nI 48)), none], [], s)) rfl ?_
    refine xQ.brT (decide_eq_true (Int32.le_refl _)) ?_
    have hs : (lb (10 * a + b)).isSome = true := by
      cases e : (lb (10 * a + b)).isSome with
      | true => rfl
      | false =>
        have := fre_pos ha hb i1 e
        omega
    rw [fol_stop hs, List.append_nil] at i5
    exact tail s a b 48 _ lb L i2 (by omega) (by omega) i5 i6 i7 i8 i9 i11 i10
