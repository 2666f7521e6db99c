/-- the first cycle, and what is placed with it -/
def cyc0 (H : Nat → Nat → Bool) (S : Nat → Bool) : List Nat := low S :: low (H (low S)) :: (dsc H (SA S (low S) (low (H (low S)))) (fun v => decide (v = low S)) (fdep H (SA S (low S) (low (H (low S)))) (fun v => decide (v = low S)) (low (H (low S))) 9) (low (H (low S)))).dropLast
def cycP (c : List Nat) : Nat → Nat → Bool := fun x y => decide ((x, y) ∈ dts c) || decide ((y, x) ∈ dts c)
def cyc1 (H : Nat → Nat → Bool) (S : Nat → Bool) : xSg := (cycP (cyc0 H S), (fun v => decide (v ∈ cyc0 H S)), [cyc0 H S, (cyc0 H S).reverse], (cyc0 H S).length)
theorem cyc0_ok {H : Nat → Nat → Bool} {S : Nat → Bool} (hb : BIC H S) (hS : ∀ v, S v = true → v < 10) (he : 2 ≤ ec H) : ∃ a b inn, a = low S ∧ b = low (H a) ∧ cyc0 H S = a :: b :: inn ∧ a < 10 ∧ b < 10 ∧ fdep H (SA S a b) (fun v => decide (v = a)) b 9 ≠ 0 ∧ fdep H (SA S a b) (fun v => decide (v = a)) b 9 ≤ 8 ∧ dsc H (SA S a b) (fun v => decide (v = a)) (fdep H (SA S a b) (fun v => decide (v = a)) b 9) b = inn ++ [a] ∧ 1 ≤ inn.length ∧ inn.length ≤ 8 ∧ (cyc0 H S).Nodup ∧ (∀ v ∈ cyc0 H S, v < 10 ∧ S v = true) ∧ (∀ q ∈ dts (cyc0 H S), H q.1 q.2 = true) ∧ EOK H S (cyc1 H S) := by
  obtain ⟨h1, h2, h3, h4, h5, h6, inn, i1, i2, i3, i4, i5⟩ := cyc_ok hb hS he
  have hc : cyc0 H S = low S :: low (H (low S)) :: inn := by
    unfold cyc0
    rw [i1]
    simp
  have hne : low S ≠ low (H (low S)) := fun e => by
    have h4 := h4
    rw [← e, hb.2.1] at h4
    cases h4
  have hSb : S (low (H (low S))) = true := (hb.2.2.1 _ _ h4).2.2.2
  have hn : (cyc0 H S).Nodup := by
    rw [hc]
    refine List.nodup_cons.mpr ⟨fun hm => ?_, List.nodup_cons.mpr ⟨fun hm => (i4 _ hm).2.2.2 rfl, i3⟩⟩
    rcases List.mem_cons.mp hm with e | e
    · exact hne e
    · exact (i4 _ e).2.2.1 rfl
  have hm : ∀ v ∈ cyc0 H S, v < 10 ∧ S v = true := fun v hv => by
    rw [hc] at hv
    rcases List.mem_cons.mp hv with e | e
    · rw [e]; exact ⟨h1, h2⟩
    · rcases List.mem_cons.mp e with e | e
      · rw [e]; exact ⟨h3, hSb⟩
      · exact ⟨(i4 v e).1, (i4 v e).2.1⟩
  have hd : ∀ q ∈ dts (cyc0 H S), H q.1 q.2 = true := fun q hq => by
    rw [hc] at hq
    have e : dts (low S :: low (H (low S)) :: inn) = (low S, low (H (low S))) :: pd (low (H (low S)) :: inn ++ [low S]) := rfl
    rw [e] at hq
    rcases List.mem_cons.mp hq with e | e
    · rw [e]; exact h4
    · exact i5 q e
  have h3l : 3 ≤ (cyc0 H S).length := by
    rw [hc]
    simp only [List.length_cons]
    omega
  refine ⟨_, _, inn, rfl, rfl, hc, h1, h3, h5, h6, i1, by omega, by omega, hn, hm, hd, ?_, Nat.le_refl 2⟩
  exact INV_cycle hb.1 hn h3l hm hd
theorem sm_id : sm (fun x => x) 10 = 45 := rfl
theorem ec_45 (H : Nat → Nat → Bool) : ec H ≤ 45 := by
  have := sm_le (f := fun x => cnt (H x) x) (g := fun x => x) (n := 10) (fun i _ => cnt_le _ _)
  rw [sm_id] at this
  exact this
