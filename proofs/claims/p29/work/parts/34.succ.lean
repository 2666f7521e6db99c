theorem flat_ix {α β : Type} {g : α → List β} : ∀ {l : List α}, (l.flatMap g).Nodup → ∀ {i j : Nat} {a b : α} {p : β}, l[i]? = some a → l[j]? = some b → p ∈ g a → p ∈ g b → i = j
  | [], _, i, _, _, _, _, h, _, _, _ => by simp at h
  | c :: t, hn, i, j, a, b, p, h1, h2, h3, h4 => by
    rw [List.flatMap_cons] at hn
    obtain ⟨n1, n2, n3⟩ := List.nodup_append.mp hn
    have tail : ∀ {i : Nat} {a : α}, t[i]? = some a → p ∈ g a → p ∈ t.flatMap g := fun h hp => List.mem_flatMap.mpr ⟨_, List.mem_of_getElem? h, hp⟩
    match i, j, h1, h2 with
    | 0, 0, _, _ => rfl
    | 0, j + 1, h1, h2 =>
      cases h1
      exact absurd rfl (n3 p h3 p (tail h2 h4))
    | i + 1, 0, h1, h2 =>
      cases h2
      exact absurd rfl (n3 p h4 p (tail h1 h3))
    | i + 1, j + 1, h1, h2 => rw [flat_ix n2 (i := i) (j := j) h1 h2 h3 h4]
/-- the successors that faces give -/
def eS (s : Nat) (w w1 : xW) (L : List (List Nat)) : Prop := (∀ f ∈ L, ∀ x v y, (x, v) ∈ dts f → (v, y) ∈ dts f → w1.1 s (10 * v + x) = nI y) ∧ ∀ v x, v < 10 → x < 10 → (∀ f ∈ L, (x, v) ∉ dts f) → w1.1 s (10 * v + x) = w.1 s (10 * v + x)
theorem c_succ1_p {w : xW} {H : Nat → Nat → Bool} {S : Nat → Bool} {a b : Nat} (hG : eG 18 19 w H S) (he : ec H = 1) (hab : a < b) (hb : b < 10) (hS : ∀ v, v < 10 → S v = two a b v) : xC MX1_writeSuccessors [.ref 18, .ref 17] w none (xuI (xuI w 17 (10 * a + b) (nI b)) 17 (10 * b + a) (nI a)) := by
  have hla : low S = a := low_eq (by omega) (by rw [hS a (by omega)]; exact two_iff.mpr (Or.inl rfl)) (fun v hv => by
    rw [hS v (by omega)]
    cases h : two a b v with
    | false => rfl
    | true => rcases two_iff.mp h with e | e <;> omega)
  have hlb : low (fun v => S v && !decide (v = a)) = b := low_eq hb (by rw [hS b hb, two_iff.mpr (Or.inr rfl)]; simp; omega) (fun v hv => by
    rw [hS v (by omega)]
    cases h : two a b v with
    | false => rfl
    | true =>
      rcases two_iff.mp h with e | e
      · simp [e]
      · omega)
  unfold xC
  show xE MX1_writeSuccessors (0, [some (.ref 18), some (.ref 17), none, none, none], [], w) _ _
  refine xE.go 4 (F1 := (bif !decide ((w.1 18 4) = 1) then 52 else 8, [some (.ref 18), some (.ref 17), none, none, none], [], w)) rfl ?_
  refine xE.brF (by rw [hG.2.2, he]; rfl) ?_
  refine xE.go 2 (F1 := (12, [some (.ref 18), some (.ref 17), none, none, none], [.int (w.1 18 2)], w)) rfl ?_
  rw [hG.2.1]
  refine xE.call rfl (c_least (by omega)) ?_
  show xE MX1_writeSuccessors (15, [some (.ref 18), some (.ref 17), none, none, none], [.int (nI (low S))], w) _ _
  rw [hla]
  refine xE.go 4 (F1 := (21, [some (.ref 18), some (.ref 17), some (.int (nI a)), none, none], [.int (nI a), .int (w.1 18 2)], w)) rfl ?_
  refine xE.call rfl (c_bit (by omega)) ?_
  show xE MX1_writeSuccessors (24, [some (.ref 18), some (.ref 17), some (.int (nI a)), none, none], [.int (mk (fun v => decide (v = a))), .int (w.1 18 2)], w) _ _
  refine xE.go 3 (F1 := (27, [some (.ref 18), some (.ref 17), some (.int (nI a)), none, none], [.int ((w.1 18 2) &&& ((mk (fun v => decide (v = a))) ^^^ (-1)))], w)) rfl ?_
  rw [hG.2.1, mk_andn]
  refine xE.call rfl (c_least (by omega)) ?_
  show xE MX1_writeSuccessors (30, [some (.ref 18), some (.ref 17), some (.int (nI a)), none, none], [.int (nI (low (fun v => S v && !decide (v = a))))], w) _ _
  rw [hlb]
  refine xE.go 4 (F1 := (34, [some (.ref 18), some (.ref 17), some (.int (nI a)), some (.int (nI b)), none], [.int (nI b), .int (nI a), .ref 17], w)) rfl ?_
  refine xE.call rfl (c_cell) ?_
  show xE MX1_writeSuccessors (37, [some (.ref 18), some (.ref 17), some (.int (nI a)), some (.int (nI b)), none], [.int (nI (10 * a + b)), .ref 17], w) _ _
  refine xE.go 1 (F1 := (38, [some (.ref 18), some (.ref 17), some (.int (nI a)), some (.int (nI b)), none], [.int (nI b), .int (nI (10 * a + b)), .ref 17], w)) rfl ?_
  refine xE.call rfl (c_put rfl (by omega) (by omega)) ?_
  show xE MX1_writeSuccessors (41, [some (.ref 18), some (.ref 17), some (.int (nI a)), some (.int (nI b)), none], [], (xuI w 17 (10 * a + b) (nI b))) _ _
  refine xE.go 3 (F1 := (44, [some (.ref 18), some (.ref 17), some (.int (nI a)), some (.int (nI b)), none], [.int (nI a), .int (nI b), .ref 17], (xuI w 17 (10 * a + b) (nI b)))) rfl ?_
  refine xE.call rfl (c_cell) ?_
  show xE MX1_writeSuccessors (47, [some (.ref 18), some (.ref 17), some (.int (nI a)), some (.int (nI b)), none], [.int (nI (10 * b + a)), .ref 17], (xuI w 17 (10 * a + b) (nI b))) _ _
  refine xE.go 1 (F1 := (48, [some (.ref 18), some (.ref 17), some (.int (nI a)), some (.int (nI b)), none], [.int (nI a), .int (nI (10 * b + a)), .ref 17], (xuI w 17 (10 * a + b) (nI b)))) rfl ?_
  refine xE.call rfl (c_put rfl (by omega) (by omega)) ?_
  show xE MX1_writeSuccessors (51, [some (.ref 18), some (.ref 17), some (.int (nI a)), some (.int (nI b)), none], [], (xuI (xuI w 17 (10 * a + b) (nI b)) 17 (10 * b + a) (nI a))) _ _
  exact xE.vret 1 rfl rfl
theorem c_succ_p {w : xW} {H : Nat → Nat → Bool} {S : Nat → Bool} {L : List (List Nat)} (hG : eG 18 19 w H S) (he : ec H ≠ 1) (he5 : ec H ≤ 45) (hF : eF 18 21 22 w L) (hL : L.length ≤ 16) (hn : (L.flatMap dts).Nodup) (hfn : ∀ f ∈ L, f.Nodup) (hL10 : ∀ f ∈ L, ∀ x ∈ f, x < 10) : xD MX1_writeSuccessors [.ref 18, .ref 17] w (fun r w1 => r = none ∧ eS 17 w w1 L ∧ xkq [(17, none)] w w1) := by
  refine xD.of ?_
  show xQ MX1_writeSuccessors (0, [some (.ref 18), some (.ref 17), none, none, none], [], w) _
  refine xQ.go 4 (F1 := (bif !decide ((w.1 18 4) = 1) then 52 else 8, [some (.ref 18), some (.ref 17), none, none, none], [], w)) rfl ?_
  refine xQ.brT (by rw [hG.2.2, show (1 : Int32) = nI 1 from rfl, decide_eq_false (fun e => he (jI_inj (b := 1) (by omega) (by omega) e))]; rfl) ?_
  refine xQ.go 2 (F1 := (54, [some (.ref 18), some (.ref 17), some (.int 0), none, none], [], w)) rfl ?_
  refine xQ.loop (S := xW) (fun k s => (54, [some (.ref 18), some (.ref 17), some (.int (nI k)), none, none], [], s)) (fun k s => xkq [(17, none)] w s ∧ (∀ i f, L[i]? = some f → i < k → ∀ x v y, (x, v) ∈ dts f → (v, y) ∈ dts f → s.1 17 (10 * v + x) = nI y) ∧ ∀ v x, v < 10 → x < 10 → (∀ f ∈ L, (x, v) ∉ dts f) → s.1 17 (10 * v + x) = w.1 17 (10 * v + x)) L.length w (rfl) (⟨xkq_rfl, fun _ _ _ h => absurd h (by omega), fun _ _ _ _ _ => rfl⟩) ?_ ?_
  · intro k s hk hI K
    obtain ⟨i1, i2, i3⟩ := hI
    obtain ⟨f, hf⟩ : ∃ f, L[k]? = some f := ⟨_, List.getElem?_eq_getElem hk⟩
    have hfm := List.mem_of_getElem? hf
    refine xQ.go 4 (F1 := (bif decide ((s.1 18 8) ≤ (nI k)) then 134 else 62, [some (.ref 18), some (.ref 17), some (.int (nI k)), none, none], [], s)) rfl ?_
    refine xQ.brF (by rw [xkq_at i1 18 8, hF.1]; exact decide_eq_false (nI_ge hk (by omega))) ?_
    refine xQ.go 2 (F1 := (64, [some (.ref 18), some (.ref 17), some (.int (nI k)), some (.int 0), none], [], s)) rfl ?_
    refine xQ.loop (S := xW) (fun k2 s2 => (64, [some (.ref 18), some (.ref 17), some (.int (nI k)), some (.int (nI k2)), none], [], s2)) (fun k2 s2 => xkq [(17, none)] w s2 ∧ (∀ i g, L[i]? = some g → ∀ x v y, (i < k ∨ (i = k ∧ x < k2)) → (x, v) ∈ dts g → (v, y) ∈ dts g → s2.1 17 (10 * v + x) = nI y) ∧ ∀ v x, v < 10 → x < 10 → (∀ f ∈ L, (x, v) ∉ dts f) → s2.1 17 (10 * v + x) = w.1 17 (10 * v + x)) 10 s (rfl) (⟨i1, fun i g hg x v y h => i2 i g hg (by omega) x v y, i3⟩) ?_ ?_
    · intro k2 s2 hk2 hI2 K2
      obtain ⟨j1, j2, j3⟩ := hI2
      refine xQ.go 3 (F1 := (bif decide (10 ≤ (nI k2)) then 128 else 70, [some (.ref 18), some (.ref 17), some (.int (nI k)), some (.int (nI k2)), none], [], s2)) rfl ?_
      refine xQ.brF (decide_eq_false (nI_ge (b := 10) (by omega) (by omega))) ?_
      refine xQ.go 3 (F1 := (75, [some (.ref 18), some (.ref 17), some (.int (nI k)), some (.int (nI k2)), none], [.int (nI k), .ref 21], s2)) rfl ?_
      refine xQ.call rfl (c_at rfl (by omega) (by omega)) ?_
      show xQ MX1_writeSuccessors (78, [some (.ref 18), some (.ref 17), some (.int (nI k)), some (.int (nI k2)), none], [.int (s2.1 21 k)], s2) _
      rw [xkq_at j1 21 k, (hF.2 k f hf).1]
      refine xQ.go 1 (F1 := (79, [some (.ref 18), some (.ref 17), some (.int (nI k)), some (.int (nI k2)), none], [.int (nI k2), .int (mk (fun v => decide (v ∈ f)))], s2)) rfl ?_
      refine xQ.call rfl (c_has hk2) ?_
      show xQ MX1_writeSuccessors (82, [some (.ref 18), some (.ref 17), some (.int (nI k)), some (.int (nI k2)), none], [.int (if decide (k2 ∈ f) then 1 else 0)], s2) _
      by_cases hx : k2 ∈ f
      · refine xQ.go 1 (F1 := (bif decide ((if decide (k2 ∈ f) then 1 else 0) = 0) then 122 else 85, [some (.ref 18), some (.ref 17), some (.int (nI k)), some (.int (nI k2)), none], [], s2)) rfl ?_
        refine xQ.brF (by rw [decide_eq_true hx]; rfl) ?_
        obtain ⟨v, hv⟩ := dts_ex hx
        have hvf := (dts_mem hv).2
        obtain ⟨y, hy⟩ := dts_ex hvf
        have hv10 := hL10 f hfm v hvf
        refine xQ.go 4 (F1 := (91, [some (.ref 18), some (.ref 17), some (.int (nI k)), some (.int (nI k2)), none], [.int (nI k2), .int (nI k), .ref 22], s2)) rfl ?_
        refine xQ.call rfl (c_cell) ?_
        show xQ MX1_writeSuccessors (94, [some (.ref 18), some (.ref 17), some (.int (nI k)), some (.int (nI k2)), none], [.int (nI (10 * k + k2)), .ref 22], s2) _
        refine xQ.call rfl (c_at rfl (by omega) (by omega)) ?_
        show xQ MX1_writeSuccessors (97, [some (.ref 18), some (.ref 17), some (.int (nI k)), some (.int (nI k2)), none], [.int (s2.1 22 (10 * k + k2))], s2) _
        rw [xkq_at j1 22 _, (hF.2 k f hf).2 _ _ hv]
        refine xQ.go 4 (F1 := (103, [some (.ref 18), some (.ref 17), some (.int (nI k)), some (.int (nI k2)), some (.int (nI v))], [.int (nI k2), .int (nI v), .ref 17], s2)) rfl ?_
        refine xQ.call rfl (c_cell) ?_
        show xQ MX1_writeSuccessors (106, [some (.ref 18), some (.ref 17), some (.int (nI k)), some (.int (nI k2)), some (.int (nI v))], [.int (nI (10 * v + k2)), .ref 17], s2) _
        refine xQ.go 4 (F1 := (113, [some (.ref 18), some (.ref 17), some (.int (nI k)), some (.int (nI k2)), some (.int (nI v))], [.int (nI v), .int (nI k), .ref 22, .int (nI (10 * v + k2)), .ref 17], s2)) rfl ?_
        refine xQ.call rfl (c_cell) ?_
        show xQ MX1_writeSuccessors (116, [some (.ref 18), some (.ref 17), some (.int (nI k)), some (.int (nI k2)), some (.int (nI v))], [.int (nI (10 * k + v)), .ref 22, .int (nI (10 * v + k2)), .ref 17], s2) _
        refine xQ.call rfl (c_at rfl (by omega) (by omega)) ?_
        show xQ MX1_writeSuccessors (119, [some (.ref 18), some (.ref 17), some (.int (nI k)), some (.int (nI k2)), some (.int (nI v))], [.int (s2.1 22 (10 * k + v)), .int (nI (10 * v + k2)), .ref 17], s2) _
        rw [xkq_at j1 22 _, (hF.2 k f hf).2 _ _ hy]
        refine xQ.call rfl (c_put rfl (by omega) (by omega)) ?_
        show xQ MX1_writeSuccessors (122, [some (.ref 18), some (.ref 17), some (.int (nI k)), some (.int (nI k2)), some (.int (nI v))], [], (xuI s2 17 (10 * v + k2) (nI y))) _
        refine xQ.go 2 (F1 := (64, [some (.ref 18), some (.ref 17), some (.int (nI k)), some (.int ((nI k2) + 1)), some (.int (nI v))], [], (xuI s2 17 (10 * v + k2) (nI y)))) rfl ?_
        refine xQ.less [some (.ref 18), some (.ref 17), some (.int (nI k)), some (.int ((nI k2) + 1)), none] (by simp [xleb]) ?_
        rw [← nI_succ]
        refine K2 _ ⟨xkq_I j1 rfl, fun i g hg x v2 y2 hd h1 h2 => ?_, fun v2 x hv2 hx2 hno => ?_⟩
        · have hx10 := hL10 g (List.mem_of_getElem? hg) x (dts_mem h1).1
          have hv20 := hL10 g (List.mem_of_getElem? hg) v2 (dts_mem h1).2
          rw [uI1]
          by_cases e : v2 = v ∧ x = k2
          · obtain ⟨rfl, rfl⟩ := e
            have hik := flat_ix hn hg hf h1 hv
            rw [hik, hf] at hg
            cases hg
            rw [if_pos ⟨rfl, rfl⟩]
            rw [dts_fun (hfn f hfm) hy h2]
          · rw [if_neg (fun h => e (by omega))]
            refine j2 i g hg x v2 y2 ?_ h1 h2
            rcases hd with h | ⟨h, h3⟩
            · exact Or.inl h
            · refine Or.inr ⟨h, ?_⟩
              rw [h, hf] at hg
              cases hg
              have : x ≠ k2 := fun e2 => e ⟨by rw [e2] at h1; exact dts_fun (hfn f hfm) h1 hv, e2⟩
              omega
        · rw [uI1, if_neg]
          · exact j3 v2 x hv2 hx2 hno
          · rintro ⟨_, e⟩
            have e1 : v2 = v := by omega
            have e2 : x = k2 := by omega
            rw [e1, e2] at hno
            exact hno f hfm hv
      · refine xQ.go 1 (F1 := (bif decide ((if decide (k2 ∈ f) then 1 else 0) = 0) then 122 else 85, [some (.ref 18), some (.ref 17), some (.int (nI k)), some (.int (nI k2)), none], [], s2)) rfl ?_
        refine xQ.brT (by rw [decide_eq_false hx]; rfl) ?_
        refine xQ.go 2 (F1 := (64, [some (.ref 18), some (.ref 17), some (.int (nI k)), some (.int ((nI k2) + 1)), none], [], s2)) rfl ?_
        rw [← nI_succ]
        refine K2 _ ⟨j1, fun i g hg x v2 y2 hd h1 h2 => ?_, j3⟩
        refine j2 i g hg x v2 y2 ?_ h1 h2
        rcases hd with h | ⟨h, h3⟩
        · exact Or.inl h
        · refine Or.inr ⟨h, ?_⟩
          rw [h, hf] at hg
          cases hg
          have : x ≠ k2 := fun e => hx (e ▸ (dts_mem h1).1)
          omega
    · intro s2 hI2
      obtain ⟨j1, j2, j3⟩ := hI2
      refine xQ.go 3 (F1 := (bif decide (10 ≤ (nI 10)) then 128 else 70, [some (.ref 18), some (.ref 17), some (.int (nI k)), some (.int (nI 10)), none], [], s2)) rfl ?_
      refine xQ.brT (rfl) ?_
      refine xQ.less [some (.ref 18), some (.ref 17), some (.int (nI k)), none, none] (by simp [xleb]) ?_
      refine xQ.go 2 (F1 := (54, [some (.ref 18), some (.ref 17), some (.int ((nI k) + 1)), none, none], [], s2)) rfl ?_
      rw [← nI_succ]
      refine K _ ⟨j1, fun i g hg hi x v y h1 h2 => ?_, j3⟩
      have hx10 := hL10 g (List.mem_of_getElem? hg) x (dts_mem h1).1
      exact j2 i g hg x v y (by omega) h1 h2
  · intro s hI
    obtain ⟨i1, i2, i3⟩ := hI
    refine xQ.go 4 (F1 := (bif decide ((s.1 18 8) ≤ (nI L.length)) then 134 else 62, [some (.ref 18), some (.ref 17), some (.int (nI L.length)), none, none], [], s)) rfl ?_
    refine xQ.brT (by rw [xkq_at i1 18 8, hF.1]; exact decide_eq_true (Int32.le_refl _)) ?_
    refine xQ.vret 1 rfl rfl ?_
    refine ⟨rfl, ⟨fun f hf x v y h1 h2 => ?_, i3⟩, i1⟩
    obtain ⟨i, hi, e⟩ := List.mem_iff_getElem.mp hf
    exact i2 i f (by rw [List.getElem?_eq_getElem hi, e]) hi x v y h1 h2

theorem c_succ1_t {w : xW} {H : Nat → Nat → Bool} {S : Nat → Bool} {a b : Nat} (hG : eG 32 33 w H S) (he : ec H = 1) (hab : a < b) (hb : b < 10) (hS : ∀ v, v < 10 → S v = two a b v) : xC MX1_writeSuccessors [.ref 32, .ref 31] w none (xuI (xuI w 31 (10 * a + b) (nI b)) 31 (10 * b + a) (nI a)) := by
  have hla : low S = a := low_eq (by omega) (by rw [hS a (by omega)]; exact two_iff.mpr (Or.inl rfl)) (fun v hv => by
    rw [hS v (by omega)]
    cases h : two a b v with
    | false => rfl
    | true => rcases two_iff.mp h with e | e <;> omega)
  have hlb : low (fun v => S v && !decide (v = a)) = b := low_eq hb (by rw [hS b hb, two_iff.mpr (Or.inr rfl)]; simp; omega) (fun v hv => by
    rw [hS v (by omega)]
    cases h : two a b v with
    | false => rfl
    | true =>
      rcases two_iff.mp h with e | e
      · simp [e]
      · omega)
  unfold xC
  show xE MX1_writeSuccessors (0, [some (.ref 32), some (.ref 31), none, none, none], [], w) _ _
  refine xE.go 4 (F1 := (bif !decide ((w.1 32 4) = 1) then 52 else 8, [some (.ref 32), some (.ref 31), none, none, none], [], w)) rfl ?_
  refine xE.brF (by rw [hG.2.2, he]; rfl) ?_
  refine xE.go 2 (F1 := (12, [some (.ref 32), some (.ref 31), none, none, none], [.int (w.1 32 2)], w)) rfl ?_
  rw [hG.2.1]
  refine xE.call rfl (c_least (by omega)) ?_
  show xE MX1_writeSuccessors (15, [some (.ref 32), some (.ref 31), none, none, none], [.int (nI (low S))], w) _ _
  rw [hla]
  refine xE.go 4 (F1 := (21, [some (.ref 32), some (.ref 31), some (.int (nI a)), none, none], [.int (nI a), .int (w.1 32 2)], w)) rfl ?_
  refine xE.call rfl (c_bit (by omega)) ?_
  show xE MX1_writeSuccessors (24, [some (.ref 32), some (.ref 31), some (.int (nI a)), none, none], [.int (mk (fun v => decide (v = a))), .int (w.1 32 2)], w) _ _
  refine xE.go 3 (F1 := (27, [some (.ref 32), some (.ref 31), some (.int (nI a)), none, none], [.int ((w.1 32 2) &&& ((mk (fun v => decide (v = a))) ^^^ (-1)))], w)) rfl ?_
  rw [hG.2.1, mk_andn]
  refine xE.call rfl (c_least (by omega)) ?_
  show xE MX1_writeSuccessors (30, [some (.ref 32), some (.ref 31), some (.int (nI a)), none, none], [.int (nI (low (fun v => S v && !decide (v = a))))], w) _ _
  rw [hlb]
  refine xE.go 4 (F1 := (34, [some (.ref 32), some (.ref 31), some (.int (nI a)), some (.int (nI b)), none], [.int (nI b), .int (nI a), .ref 31], w)) rfl ?_
  refine xE.call rfl (c_cell) ?_
  show xE MX1_writeSuccessors (37, [some (.ref 32), some (.ref 31), some (.int (nI a)), some (.int (nI b)), none], [.int (nI (10 * a + b)), .ref 31], w) _ _
  refine xE.go 1 (F1 := (38, [some (.ref 32), some (.ref 31), some (.int (nI a)), some (.int (nI b)), none], [.int (nI b), .int (nI (10 * a + b)), .ref 31], w)) rfl ?_
  refine xE.call rfl (c_put rfl (by omega) (by omega)) ?_
  show xE MX1_writeSuccessors (41, [some (.ref 32), some (.ref 31), some (.int (nI a)), some (.int (nI b)), none], [], (xuI w 31 (10 * a + b) (nI b))) _ _
  refine xE.go 3 (F1 := (44, [some (.ref 32), some (.ref 31), some (.int (nI a)), some (.int (nI b)), none], [.int (nI a), .int (nI b), .ref 31], (xuI w 31 (10 * a + b) (nI b)))) rfl ?_
  refine xE.call rfl (c_cell) ?_
  show xE MX1_writeSuccessors (47, [some (.ref 32), some (.ref 31), some (.int (nI a)), some (.int (nI b)), none], [.int (nI (10 * b + a)), .ref 31], (xuI w 31 (10 * a + b) (nI b))) _ _
  refine xE.go 1 (F1 := (48, [some (.ref 32), some (.ref 31), some (.int (nI a)), some (.int (nI b)), none], [.int (nI a), .int (nI (10 * b + a)), .ref 31], (xuI w 31 (10 * a + b) (nI b)))) rfl ?_
  refine xE.call rfl (c_put rfl (by omega) (by omega)) ?_
  show xE MX1_writeSuccessors (51, [some (.ref 32), some (.ref 31), some (.int (nI a)), some (.int (nI b)), none], [], (xuI (xuI w 31 (10 * a + b) (nI b)) 31 (10 * b + a) (nI a))) _ _
  exact xE.vret 1 rfl rfl
theorem c_succ_t {w : xW} {H : Nat → Nat → Bool} {S : Nat → Bool} {L : List (List Nat)} (hG : eG 32 33 w H S) (he : ec H ≠ 1) (he5 : ec H ≤ 45) (hF : eF 32 35 36 w L) (hL : L.length ≤ 16) (hn : (L.flatMap dts).Nodup) (hfn : ∀ f ∈ L, f.Nodup) (hL10 : ∀ f ∈ L, ∀ x ∈ f, x < 10) : xD MX1_writeSuccessors [.ref 32, .ref 31] w (fun r w1 => r = none ∧ eS 31 w w1 L ∧ xkq [(31, none)] w w1) := by
  refine xD.of ?_
  show xQ MX1_writeSuccessors (0, [some (.ref 32), some (.ref 31), none, none, none], [], w) _
  refine xQ.go 4 (F1 := (bif !decide ((w.1 32 4) = 1) then 52 else 8, [some (.ref 32), some (.ref 31), none, none, none], [], w)) rfl ?_
  refine xQ.brT (by rw [hG.2.2, show (1 : Int32) = nI 1 from rfl, decide_eq_false (fun e => he (jI_inj (b := 1) (by omega) (by omega) e))]; rfl) ?_
  refine xQ.go 2 (F1 := (54, [some (.ref 32), some (.ref 31), some (.int 0), none, none], [], w)) rfl ?_
  refine xQ.loop (S := xW) (fun k s => (54, [some (.ref 32), some (.ref 31), some (.int (nI k)), none, none], [], s)) (fun k s => xkq [(31, none)] w s ∧ (∀ i f, L[i]? = some f → i < k → ∀ x v y, (x, v) ∈ dts f → (v, y) ∈ dts f → s.1 31 (10 * v + x) = nI y) ∧ ∀ v x, v < 10 → x < 10 → (∀ f ∈ L, (x, v) ∉ dts f) → s.1 31 (10 * v + x) = w.1 31 (10 * v + x)) L.length w (rfl) (⟨xkq_rfl, fun _ _ _ h => absurd h (by omega), fun _ _ _ _ _ => rfl⟩) ?_ ?_
  · intro k s hk hI K
    obtain ⟨i1, i2, i3⟩ := hI
    obtain ⟨f, hf⟩ : ∃ f, L[k]? = some f := ⟨_, List.getElem?_eq_getElem hk⟩
    have hfm := List.mem_of_getElem? hf
    refine xQ.go 4 (F1 := (bif decide ((s.1 32 8) ≤ (nI k)) then 134 else 62, [some (.ref 32), some (.ref 31), some (.int (nI k)), none, none], [], s)) rfl ?_
    refine xQ.brF (by rw [xkq_at i1 32 8, hF.1]; exact decide_eq_false (nI_ge hk (by omega))) ?_
    refine xQ.go 2 (F1 := (64, [some (.ref 32), some (.ref 31), some (.int (nI k)), some (.int 0), none], [], s)) rfl ?_
    refine xQ.loop (S := xW) (fun k2 s2 => (64, [some (.ref 32), some (.ref 31), some (.int (nI k)), some (.int (nI k2)), none], [], s2)) (fun k2 s2 => xkq [(31, none)] w s2 ∧ (∀ i g, L[i]? = some g → ∀ x v y, (i < k ∨ (i = k ∧ x < k2)) → (x, v) ∈ dts g → (v, y) ∈ dts g → s2.1 31 (10 * v + x) = nI y) ∧ ∀ v x, v < 10 → x < 10 → (∀ f ∈ L, (x, v) ∉ dts f) → s2.1 31 (10 * v + x) = w.1 31 (10 * v + x)) 10 s (rfl) (⟨i1, fun i g hg x v y h => i2 i g hg (by omega) x v y, i3⟩) ?_ ?_
    · intro k2 s2 hk2 hI2 K2
      obtain ⟨j1, j2, j3⟩ := hI2
      refine xQ.go 3 (F1 := (bif decide (10 ≤ (nI k2)) then 128 else 70, [some (.ref 32), some (.ref 31), some (.int (nI k)), some (.int (nI k2)), none], [], s2)) rfl ?_
      refine xQ.brF (decide_eq_false (nI_ge (b := 10) (by omega) (by omega))) ?_
      refine xQ.go 3 (F1 := (75, [some (.ref 32), some (.ref 31), some (.int (nI k)), some (.int (nI k2)), none], [.int (nI k), .ref 35], s2)) rfl ?_
      refine xQ.call rfl (c_at rfl (by omega) (by omega)) ?_
      show xQ MX1_writeSuccessors (78, [some (.ref 32), some (.ref 31), some (.int (nI k)), some (.int (nI k2)), none], [.int (s2.1 35 k)], s2) _
      rw [xkq_at j1 35 k, (hF.2 k f hf).1]
      refine xQ.go 1 (F1 := (79, [some (.ref 32), some (.ref 31), some (.int (nI k)), some (.int (nI k2)), none], [.int (nI k2), .int (mk (fun v => decide (v ∈ f)))], s2)) rfl ?_
      refine xQ.call rfl (c_has hk2) ?_
      show xQ MX1_writeSuccessors (82, [some (.ref 32), some (.ref 31), some (.int (nI k)), some (.int (nI k2)), none], [.int (if decide (k2 ∈ f) then 1 else 0)], s2) _
      by_cases hx : k2 ∈ f
      · refine xQ.go 1 (F1 := (bif decide ((if decide (k2 ∈ f) then 1 else 0) = 0) then 122 else 85, [some (.ref 32), some (.ref 31), some (.int (nI k)), some (.int (nI k2)), none], [], s2)) rfl ?_
        refine xQ.brF (by rw [decide_eq_true hx]; rfl) ?_
        obtain ⟨v, hv⟩ := dts_ex hx
        have hvf := (dts_mem hv).2
        obtain ⟨y, hy⟩ := dts_ex hvf
        have hv10 := hL10 f hfm v hvf
        refine xQ.go 4 (F1 := (91, [some (.ref 32), some (.ref 31), some (.int (nI k)), some (.int (nI k2)), none], [.int (nI k2), .int (nI k), .ref 36], s2)) rfl ?_
        refine xQ.call rfl (c_cell) ?_
        show xQ MX1_writeSuccessors (94, [some (.ref 32), some (.ref 31), some (.int (nI k)), some (.int (nI k2)), none], [.int (nI (10 * k + k2)), .ref 36], s2) _
        refine xQ.call rfl (c_at rfl (by omega) (by omega)) ?_
        show xQ MX1_writeSuccessors (97, [some (.ref 32), some (.ref 31), some (.int (nI k)), some (.int (nI k2)), none], [.int (s2.1 36 (10 * k + k2))], s2) _
        rw [xkq_at j1 36 _, (hF.2 k f hf).2 _ _ hv]
        refine xQ.go 4 (F1 := (103, [some (.ref 32), some (.ref 31), some (.int (nI k)), some (.int (nI k2)), some (.int (nI v))], [.int (nI k2), .int (nI v), .ref 31], s2)) rfl ?_
        refine xQ.call rfl (c_cell) ?_
        show xQ MX1_writeSuccessors (106, [some (.ref 32), some (.ref 31), some (.int (nI k)), some (.int (nI k2)), some (.int (nI v))], [.int (nI (10 * v + k2)), .ref 31], s2) _
        refine xQ.go 4 (F1 := (113, [some (.ref 32), some (.ref 31), some (.int (nI k)), some (.int (nI k2)), some (.int (nI v))], [.int (nI v), .int (nI k), .ref 36, .int (nI (10 * v + k2)), .ref 31], s2)) rfl ?_
        refine xQ.call rfl (c_cell) ?_
        show xQ MX1_writeSuccessors (116, [some (.ref 32), some (.ref 31), some (.int (nI k)), some (.int (nI k2)), some (.int (nI v))], [.int (nI (10 * k + v)), .ref 36, .int (nI (10 * v + k2)), .ref 31], s2) _
        refine xQ.call rfl (c_at rfl (by omega) (by omega)) ?_
        show xQ MX1_writeSuccessors (119, [some (.ref 32), some (.ref 31), some (.int (nI k)), some (.int (nI k2)), some (.int (nI v))], [.int (s2.1 36 (10 * k + v)), .int (nI (10 * v + k2)), .ref 31], s2) _
        rw [xkq_at j1 36 _, (hF.2 k f hf).2 _ _ hy]
        refine xQ.call rfl (c_put rfl (by omega) (by omega)) ?_
        show xQ MX1_writeSuccessors (122, [some (.ref 32), some (.ref 31), some (.int (nI k)), some (.int (nI k2)), some (.int (nI v))], [], (xuI s2 31 (10 * v + k2) (nI y))) _
        refine xQ.go 2 (F1 := (64, [some (.ref 32), some (.ref 31), some (.int (nI k)), some (.int ((nI k2) + 1)), some (.int (nI v))], [], (xuI s2 31 (10 * v + k2) (nI y)))) rfl ?_
        refine xQ.less [some (.ref 32), some (.ref 31), some (.int (nI k)), some (.int ((nI k2) + 1)), none] (by simp [xleb]) ?_
        rw [← nI_succ]
        refine K2 _ ⟨xkq_I j1 rfl, fun i g hg x v2 y2 hd h1 h2 => ?_, fun v2 x hv2 hx2 hno => ?_⟩
        · have hx10 := hL10 g (List.mem_of_getElem? hg) x (dts_mem h1).1
          have hv20 := hL10 g (List.mem_of_getElem? hg) v2 (dts_mem h1).2
          rw [uI1]
          by_cases e : v2 = v ∧ x = k2
          · obtain ⟨rfl, rfl⟩ := e
            have hik := flat_ix hn hg hf h1 hv
            rw [hik, hf] at hg
            cases hg
            rw [if_pos ⟨rfl, rfl⟩]
            rw [dts_fun (hfn f hfm) hy h2]
          · rw [if_neg (fun h => e (by omega))]
            refine j2 i g hg x v2 y2 ?_ h1 h2
            rcases hd with h | ⟨h, h3⟩
            · exact Or.inl h
            · refine Or.inr ⟨h, ?_⟩
              rw [h, hf] at hg
              cases hg
              have : x ≠ k2 := fun e2 => e ⟨by rw [e2] at h1; exact dts_fun (hfn f hfm) h1 hv, e2⟩
              omega
        · rw [uI1, if_neg]
          · exact j3 v2 x hv2 hx2 hno
          · rintro ⟨_, e⟩
            have e1 : v2 = v := by omega
            have e2 : x = k2 := by omega
            rw [e1, e2] at hno
            exact hno f hfm hv
      · refine xQ.go 1 (F1 := (bif decide ((if decide (k2 ∈ f) then 1 else 0) = 0) then 122 else 85, [some (.ref 32), some (.ref 31), some (.int (nI k)), some (.int (nI k2)), none], [], s2)) rfl ?_
        refine xQ.brT (by rw [decide_eq_false hx]; rfl) ?_
        refine xQ.go 2 (F1 := (64, [some (.ref 32), some (.ref 31), some (.int (nI k)), some (.int ((nI k2) + 1)), none], [], s2)) rfl ?_
        rw [← nI_succ]
        refine K2 _ ⟨j1, fun i g hg x v2 y2 hd h1 h2 => ?_, j3⟩
        refine j2 i g hg x v2 y2 ?_ h1 h2
        rcases hd with h | ⟨h, h3⟩
        · exact Or.inl h
        · refine Or.inr ⟨h, ?_⟩
          rw [h, hf] at hg
          cases hg
          have : x ≠ k2 := fun e => hx (e ▸ (dts_mem h1).1)
          omega
    · intro s2 hI2
      obtain ⟨j1, j2, j3⟩ := hI2
      refine xQ.go 3 (F1 := (bif decide (10 ≤ (nI 10)) then 128 else 70, [some (.ref 32), some (.ref 31), some (.int (nI k)), some (.int (nI 10)), none], [], s2)) rfl ?_
      refine xQ.brT (rfl) ?_
      refine xQ.less [some (.ref 32), some (.ref 31), some (.int (nI k)), none, none] (by simp [xleb]) ?_
      refine xQ.go 2 (F1 := (54, [some (.ref 32), some (.ref 31), some (.int ((nI k) + 1)), none, none], [], s2)) rfl ?_
      rw [← nI_succ]
      refine K _ ⟨j1, fun i g hg hi x v y h1 h2 => ?_, j3⟩
      have hx10 := hL10 g (List.mem_of_getElem? hg) x (dts_mem h1).1
      exact j2 i g hg x v y (by omega) h1 h2
  · intro s hI
    obtain ⟨i1, i2, i3⟩ := hI
    refine xQ.go 4 (F1 := (bif decide ((s.1 32 8) ≤ (nI L.length)) then 134 else 62, [some (.ref 32), some (.ref 31), some (.int (nI L.length)), none, none], [], s)) rfl ?_
    refine xQ.brT (by rw [xkq_at i1 32 8, hF.1]; exact decide_eq_true (Int32.le_refl _)) ?_
    refine xQ.vret 1 rfl rfl ?_
    refine ⟨rfl, ⟨fun f hf x v y h1 h2 => ?_, i3⟩, i1⟩
    obtain ⟨i, hi, e⟩ := List.mem_iff_getElem.mp hf
    exact i2 i f (by rw [List.getElem?_eq_getElem hi, e]) hi x v y h1 h2
