/-! the reference: laySuccessors -/
def cX (f : List Nat) (k : Nat) : Nat := f.getD (k % f.length) 0
theorem cX_get {f : List Nat} {k : Nat} (h : 0 < f.length) : f[k % f.length]? = some (cX f k) := getD_of (Nat.mod_lt k h) 0
theorem cX_lt {f : List Nat} {k : Nat} (h : k < f.length) : f[k]? = some (cX f k) := by
  have := cX_get (f := f) (k := k) (by omega)
  rw [Nat.mod_eq_of_lt h] at this
  exact this
theorem cX_dts {f : List Nat} {k : Nat} (h : 0 < f.length) : (cX f k, cX f (k + 1)) ∈ dts f := by
  refine dts_get (i := k % f.length) (cX_get h) ?_
  rw [Nat.mod_add_mod]
  exact cX_get h
theorem cX_uniq {L : List (List Nat)} (hn : (L.flatMap dts).Nodup) (hf : ∀ f ∈ L, f.Nodup) {i j : Nat} {f g : List Nat} {k l : Nat} (hi : L[i]? = some f) (hj : L[j]? = some g) (hk : k < f.length) (hl : l < g.length) (h1 : cX f k = cX g l) (h2 : cX f (k + 1) = cX g (l + 1)) : i = j ∧ k = l := by
  have d1 := cX_dts (f := f) (k := k) (by omega)
  have d2 := cX_dts (f := g) (k := l) (by omega)
  rw [← h1, ← h2] at d2
  have hij := flat_ix hn hi hj d1 d2
  subst hij
  rw [hi] at hj
  cases hj
  refine ⟨rfl, ?_⟩
  have e2 := cX_lt hl
  rw [← h1] at e2
  exact nodup_ix (hf f (List.mem_of_getElem? hi)) (cX_lt hk) e2
/-- the successors of the faces as far as they are laid -/
def sI (L : List (List Nat)) (w s : xW) (D : Nat → Nat → Prop) : Prop := (∀ (j : Nat) (f : List Nat) (k : Nat), L[j]? = some f → k < f.length → D j k → s.1 64 (10 * cX f (k + 1) + cX f k) = nI (cX f (k + 2))) ∧ ∀ c, (∀ (j : Nat) (f : List Nat) (k : Nat), L[j]? = some f → k < f.length → D j k → c ≠ 10 * cX f (k + 1) + cX f k) → s.1 64 c = w.1 64 c
theorem m_laySucc {w : xW} {L : List (List Nat)} (hL : fM w L) (hS : fS L) (hn : (L.flatMap dts).Nodup) (hf : ∀ f ∈ L, f.Nodup) : xD MX8_laySuccessors [.ref 45] w (fun r w1 => r = none ∧ eS 64 w w1 L ∧ xkq [(64, none)] w w1) := by
  have hl16 := hS.1
  refine xD.of ?_
  show xQ MX8_laySuccessors (0, [some (.ref 45), none, none, none, none], [], w) _
  refine xQ.go 2 (F1 := (2, [some (.ref 45), some (.int 0), none, none, none], [], w)) rfl ?_
  refine xQ.loop (S := xW) (fun k s => (2, [some (.ref 45), some (.int (nI k)), none, none, none], [], s)) (fun i s => sI L w s (fun j _ => j < i) ∧ xkq [(64, none)] w s) L.length w (rfl) (⟨⟨(fun j f k _ _ h => absurd h (Nat.not_lt_zero _)), (fun c _ => rfl)⟩, xkq_rfl⟩) ?_ ?_
  · intro i s hi hI K
    obtain ⟨⟨i1, i2⟩, i3⟩ := hI
    have hLi : L[i]? = some L[i] := List.getElem?_eq_getElem hi
    obtain ⟨hf10, hfv⟩ := hS.2 _ (List.getElem_mem hi)
    have hfc := hL.2 i _ hLi
    generalize L[i] = g at *
    refine xQ.go 4 (F1 := (bif decide ((s.1 45 21) ≤ (nI i)) then 90 else 10, [some (.ref 45), some (.int (nI i)), none, none, none], [], s)) rfl ?_
    refine xQ.brF (by rw [xkq_at i3 45 21, hL.1]; exact decide_eq_false (nI_ge hi (by omega))) ?_
    refine xQ.go 3 (F1 := (15, [some (.ref 45), some (.int (nI i)), none, none, none], [.int (nI i), .ref 57], s)) rfl ?_
    refine xQ.iald rfl (k := i) (rfl) (⟨by omega, by omega⟩) rfl ?_
    show xQ MX8_laySuccessors (16, [some (.ref 45), some (.int (nI i)), none, none, none], [.int (s.1 57 i)], s) _
    rw [(fc1_kq hfc i3).1]
    refine xQ.go 3 (F1 := (19, [some (.ref 45), some (.int (nI i)), some (.int (nI g.length)), some (.int 0), none], [], s)) rfl ?_
    refine xQ.loop (S := xW) (fun k s => (19, [some (.ref 45), some (.int (nI i)), some (.int (nI g.length)), some (.int (nI k)), none], [], s)) (fun k t => sI L w t (fun j l => j < i ∨ (j = i ∧ l < k)) ∧ xkq [(64, none)] w t) g.length s (rfl) (⟨⟨(fun j f k h1 h2 h3 => i1 j f k h1 h2 (by omega)), (fun c h => i2 c (fun j f k h1 h2 h3 => h j f k h1 h2 (Or.inl h3)))⟩, i3⟩) ?_ ?_
    · intro k t hk hI2 K2
      obtain ⟨⟨j1, j2⟩, j3⟩ := hI2
      have hpos : 0 < g.length := by omega
      have hm1 := Nat.mod_lt (k + 1) hpos
      have hm2 := Nat.mod_lt (k + 2) hpos
      have hft := fc1_kq hfc j3
      have v0 : cX g k < 10 := hfv _ (List.mem_of_getElem? (cX_lt hk))
      have v1 : cX g (k + 1) < 10 := hfv _ (List.mem_of_getElem? (cX_get (k := k + 1) hpos))
      refine xQ.go 3 (F1 := (bif decide ((nI g.length) ≤ (nI k)) then 84 else 24, [some (.ref 45), some (.int (nI i)), some (.int (nI g.length)), some (.int (nI k)), none], [], t)) rfl ?_
      refine xQ.brF (decide_eq_false (nI_ge hk (by omega))) ?_
      refine xQ.go 9 (F1 := (36, [some (.ref 45), some (.int (nI i)), some (.int (nI g.length)), some (.int (nI k)), none], [.int (nI g.length), .int ((nI k) + 1), .int (10 * (nI i)), .ref 58], t)) rfl ?_
      refine xQ.irem rfl (nI_ne0 (by omega) (by omega)) (show nI k + 1 - (nI k + 1) / nI g.length * nI g.length = nI ((k + 1) % g.length) from rem_nI (by omega) (by omega) (by omega)) ?_
      show xQ MX8_laySuccessors (37, [some (.ref 45), some (.int (nI i)), some (.int (nI g.length)), some (.int (nI k)), none], [.int (nI ((k + 1) % g.length)), .int (10 * (nI i)), .ref 58], t) _
      refine xQ.go 1 (F1 := (38, [some (.ref 45), some (.int (nI i)), some (.int (nI g.length)), some (.int (nI k)), none], [.int ((10 * (nI i)) + (nI ((k + 1) % g.length))), .ref 58], t)) rfl ?_
      rw [show (10 : Int32) = nI 10 from rfl, jI_mul, jI_add]
      refine xQ.iald rfl (k := (10 * i + (k + 1) % g.length)) (rfl) (⟨by omega, by omega⟩) rfl ?_
      show xQ MX8_laySuccessors (39, [some (.ref 45), some (.int (nI i)), some (.int (nI g.length)), some (.int (nI k)), none], [.int (t.1 58 (10 * i + (k + 1) % g.length))], t) _
      rw [hft.2 _ _ (cX_get (k := k + 1) hpos)]
      refine xQ.go 13 (F1 := (60, [some (.ref 45), some (.int (nI i)), some (.int (nI g.length)), some (.int (nI k)), some (.int (nI (cX g (k + 1))))], [.int ((10 * (nI i)) + (nI k)), .ref 58, .int (10 * (nI (cX g (k + 1)))), .ref 64], t)) rfl ?_
      rw [show (10 : Int32) = nI 10 from rfl, jI_mul, jI_mul, jI_add]
      refine xQ.iald rfl (k := (10 * i + k)) (rfl) (⟨by omega, by omega⟩) rfl ?_
      show xQ MX8_laySuccessors (61, [some (.ref 45), some (.int (nI i)), some (.int (nI g.length)), some (.int (nI k)), some (.int (nI (cX g (k + 1))))], [.int (t.1 58 (10 * i + k)), .int (nI (10 * cX g (k + 1))), .ref 64], t) _
      rw [hft.2 k _ (cX_lt hk)]
      refine xQ.go 1 (F1 := (62, [some (.ref 45), some (.int (nI i)), some (.int (nI g.length)), some (.int (nI k)), some (.int (nI (cX g (k + 1))))], [.int ((nI (10 * cX g (k + 1))) + (nI (cX g k))), .ref 64], t)) rfl ?_
      rw [jI_add]
      refine xQ.go 9 (F1 := (74, [some (.ref 45), some (.int (nI i)), some (.int (nI g.length)), some (.int (nI k)), some (.int (nI (cX g (k + 1))))], [.int (nI g.length), .int ((nI k) + 2), .int (10 * (nI i)), .ref 58, .int (nI (10 * cX g (k + 1) + cX g k)), .ref 64], t)) rfl ?_
      refine xQ.irem rfl (nI_ne0 (by omega) (by omega)) (show nI k + 2 - (nI k + 2) / nI g.length * nI g.length = nI ((k + 2) % g.length) by rw [show (2 : Int32) = nI 2 from rfl, jI_add]; exact rem_all _ (by omega) (by omega) _ (by omega)) ?_
      show xQ MX8_laySuccessors (75, [some (.ref 45), some (.int (nI i)), some (.int (nI g.length)), some (.int (nI k)), some (.int (nI (cX g (k + 1))))], [.int (nI ((k + 2) % g.length)), .int (10 * (nI i)), .ref 58, .int (nI (10 * cX g (k + 1) + cX g k)), .ref 64], t) _
      refine xQ.go 1 (F1 := (76, [some (.ref 45), some (.int (nI i)), some (.int (nI g.length)), some (.int (nI k)), some (.int (nI (cX g (k + 1))))], [.int ((10 * (nI i)) + (nI ((k + 2) % g.length))), .ref 58, .int (nI (10 * cX g (k + 1) + cX g k)), .ref 64], t)) rfl ?_
      rw [show (10 : Int32) = nI 10 from rfl, jI_mul, jI_add]
      refine xQ.iald rfl (k := (10 * i + (k + 2) % g.length)) (rfl) (⟨by omega, by omega⟩) rfl ?_
      show xQ MX8_laySuccessors (77, [some (.ref 45), some (.int (nI i)), some (.int (nI g.length)), some (.int (nI k)), some (.int (nI (cX g (k + 1))))], [.int (t.1 58 (10 * i + (k + 2) % g.length)), .int (nI (10 * cX g (k + 1) + cX g k)), .ref 64], t) _
      rw [hft.2 _ _ (cX_get (k := k + 2) hpos)]
      refine xQ.iast rfl (k := (10 * cX g (k + 1) + cX g k)) (rfl) (⟨by omega, by omega⟩) rfl ?_
      show xQ MX8_laySuccessors (78, [some (.ref 45), some (.int (nI i)), some (.int (nI g.length)), some (.int (nI k)), some (.int (nI (cX g (k + 1))))], [], (xuI t 64 (10 * cX g (k + 1) + cX g k) (nI (cX g (k + 2))))) _
      refine xQ.go 2 (F1 := (19, [some (.ref 45), some (.int (nI i)), some (.int (nI g.length)), some (.int ((nI k) + 1)), some (.int (nI (cX g (k + 1))))], [], (xuI t 64 (10 * cX g (k + 1) + cX g k) (nI (cX g (k + 2)))))) rfl ?_
      refine xQ.less [some (.ref 45), some (.int (nI i)), some (.int (nI g.length)), some (.int ((nI k) + 1)), none] (by simp [xleb]) ?_
      rw [← nI_succ]
      refine K2 _ ⟨⟨fun j f l h1 h2 h3 => ?_, fun c h => ?_⟩, xkq_I j3 rfl⟩
      · rw [uI1]
        have hfS2 := hS.2 f (List.mem_of_getElem? h1)
        have w0 : cX f l < 10 := hfS2.2 _ (List.mem_of_getElem? (cX_lt h2))
        have w1 : cX f (l + 1) < 10 := hfS2.2 _ (List.mem_of_getElem? (cX_get (k := l + 1) (by omega)))
        by_cases e : 10 * cX f (l + 1) + cX f l = 10 * cX g (k + 1) + cX g k
        · obtain ⟨q1, q2⟩ := cX_uniq hn hf h1 hLi h2 hk (by omega) (by omega)
          rw [if_pos ⟨rfl, e⟩]
          subst q1; subst q2
          rw [h1] at hLi
          cases hLi
          rfl
        · rw [if_neg (fun h => e h.2)]
          refine j1 j f l h1 h2 ?_
          rcases h3 with h3 | ⟨h3, h4⟩
          · exact Or.inl h3
          · refine Or.inr ⟨h3, ?_⟩
            by_cases el : l = k
            · exfalso
              rw [h3, hLi] at h1
              cases h1
              rw [el] at e
              exact e rfl
            · omega
      · rw [uI1, if_neg (fun hc => h i g k hLi hk (Or.inr ⟨rfl, by omega⟩) hc.2)]
        refine j2 c (fun j f l h1 h2 h3 => h j f l h1 h2 ?_)
        rcases h3 with h3 | ⟨h3, h4⟩
        · exact Or.inl h3
        · exact Or.inr ⟨h3, by omega⟩
    · intro t hI2
      obtain ⟨⟨j1, j2⟩, j3⟩ := hI2
      refine xQ.go 3 (F1 := (bif decide ((nI g.length) ≤ (nI g.length)) then 84 else 24, [some (.ref 45), some (.int (nI i)), some (.int (nI g.length)), some (.int (nI g.length)), none], [], t)) rfl ?_
      refine xQ.brT (decide_eq_true (Int32.le_refl _)) ?_
      refine xQ.go 2 (F1 := (2, [some (.ref 45), some (.int ((nI i) + 1)), some (.int (nI g.length)), some (.int (nI g.length)), none], [], t)) rfl ?_
      refine xQ.less [some (.ref 45), some (.int ((nI i) + 1)), none, none, none] (by simp [xleb]) ?_
      rw [← nI_succ]
      refine K t ⟨⟨fun j f l h1 h2 h3 => j1 j f l h1 h2 ?_, fun c h => j2 c (fun j f l h1 h2 h3 => h j f l h1 h2 (by omega))⟩, j3⟩
      by_cases e : j = i
      · refine Or.inr ⟨e, ?_⟩
        rw [e, hLi] at h1
        cases h1
        exact h2
      · exact Or.inl (by omega)
  · intro s hI
    obtain ⟨⟨i1, i2⟩, i3⟩ := hI
    refine xQ.go 4 (F1 := (bif decide ((s.1 45 21) ≤ (nI L.length)) then 90 else 10, [some (.ref 45), some (.int (nI L.length)), none, none, none], [], s)) rfl ?_
    refine xQ.brT (by rw [xkq_at i3 45 21, hL.1]; exact decide_eq_true (Int32.le_refl _)) ?_
    refine xQ.vret 1 rfl rfl ?_
    refine ⟨rfl, ⟨fun f hfm x v y hx hv => ?_, fun v x hv hx hno => ?_⟩, i3⟩
    · obtain ⟨j, hj, e⟩ := List.mem_iff_getElem.mp hfm
      have hjf : L[j]? = some f := by rw [List.getElem?_eq_getElem hj, e]
      obtain ⟨k, h1, h2, h3⟩ := dts_ix hx
      have ex : x = cX f k := by
        rw [cX_lt h1] at h2
        exact (Option.some.inj h2).symm
      have ev : v = cX f (k + 1) := by
        rw [cX_get (by omega)] at h3
        exact (Option.some.inj h3).symm
      have ey : y = cX f (k + 2) := by
        have := cX_dts (f := f) (k := k + 1) (by omega)
        rw [← ev] at this
        exact dts_fun (hf f hfm) hv this
      rw [ex, ev, ey]
      exact i1 j f k hjf h1 hj
    · refine i2 _ (fun j f k h1 h2 h3 hc => ?_)
      have hfS2 := hS.2 f (List.mem_of_getElem? h1)
      have w0 : cX f k < 10 := hfS2.2 _ (List.mem_of_getElem? (cX_lt h2))
      have w1 : cX f (k + 1) < 10 := hfS2.2 _ (List.mem_of_getElem? (cX_get (k := k + 1) (by omega)))
      have e1 : v = cX f (k + 1) := by omega
      have e2 : x = cX f k := by omega
      refine hno f (List.mem_of_getElem? h1) ?_
      rw [e1, e2]
      exact cX_dts (by omega)
