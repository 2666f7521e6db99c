/-! the first cycle of a block with more than one edge -/
theorem cnt_or {S T : Nat → Bool} : ∀ n, cnt (fun v => S v || T v) n ≤ cnt S n + cnt T n
  | 0 => Nat.le_refl _
  | n + 1 => by
    have ih := cnt_or (S := S) (T := T) n
    unfold cnt
    cases S n <;> cases T n <;> simp only [Bool.or_true, Bool.or_false, cond_true, cond_false] <;> omega
theorem cnt_eq {p : Nat} : ∀ n, cnt (fun v => decide (v = p)) n = if p < n then 1 else 0
  | 0 => rfl
  | n + 1 => by
    unfold cnt
    rw [cnt_eq n]
    by_cases h : n = p
    · subst h
      rw [decide_eq_true rfl, if_neg (Nat.lt_irrefl _), if_pos (Nat.lt_succ_self _)]
      rfl
    · rw [decide_eq_false h]
      by_cases h2 : p < n
      · rw [if_pos h2, if_pos (by omega)]; rfl
      · rw [if_neg h2, if_neg (by omega)]; rfl
theorem sm_cnt (S : Nat → Bool) : ∀ n, sm (fun x => bif S x then 1 else 0) n = cnt S n
  | 0 => rfl
  | n + 1 => by
    unfold sm cnt
    rw [sm_cnt S n]
section
variable {H : Nat → Nat → Bool} {S : Nat → Bool}
theorem ec_third (hb : BIC H S) (he : 2 ≤ ec H) (p q : Nat) : ∃ v, S v = true ∧ v ≠ p ∧ v ≠ q := by
  refine Classical.byContradiction (fun hno => ?_)
  have h2 : ∀ v, S v = true → v = p ∨ v = q := fun v hv => by
    by_cases e1 : v = p
    · exact Or.inl e1
    · by_cases e2 : v = q
      · exact Or.inr e2
      · exact absurd ⟨v, hv, e1, e2⟩ hno
  have h3 : ∀ x, x < 10 → cnt (H x) 10 ≤ bif two p q x then 1 else 0 := fun x _ => by
    cases hx : two p q x with
    | false =>
      have : cnt (H x) 10 ≤ cnt (fun _ => false) 10 := cnt_mono fun y _ hy => by
        obtain ⟨_, _, h4, _⟩ := hb.2.2.1 x y hy
        rw [two_iff.mpr (h2 x h4)] at hx
        cases hx
      exact this
    | true =>
      have : cnt (H x) 10 ≤ cnt (fun v => decide (v = if x = p then q else p)) 10 := cnt_mono fun y _ hy => by
        obtain ⟨_, _, h4, h5⟩ := hb.2.2.1 x y hy
        have hne : x ≠ y := fun e => by rw [e, hb.2.1] at hy; cases hy
        apply decide_eq_true
        rcases h2 x h4 with e | e <;> rcases h2 y h5 with e3 | e3
        · exact absurd (e.trans e3.symm) hne
        · rw [if_pos e, e3]
        · rw [if_neg (fun e4 => hne (by rw [e4, e3])), e3]
        · exact absurd (e.trans e3.symm) hne
      rw [cnt_eq] at this
      have h7 : (if (if x = p then q else p) < 10 then 1 else 0) ≤ 1 := by
        generalize (if x = p then q else p) = r
        split <;> omega
      show _ ≤ 1
      omega
  have h4 := sm_le (n := 10) h3
  rw [ec_sm hb, sm_cnt] at h4
  have h5 := cnt_or (S := fun v => decide (v = p)) (T := fun v => decide (v = q)) 10
  have h6 : cnt (two p q) 10 = cnt (fun v => decide (v = p) || decide (v = q)) 10 := rfl
  rw [cnt_eq, cnt_eq] at h5
  rw [h6] at h4
  have : (if p < 10 then 1 else 0) ≤ 1 := by split <;> omega
  have : (if q < 10 then 1 else 0) ≤ 1 := by split <;> omega
  omega
theorem con_first {G : Nat → Nat → Bool} {A : Nat → Bool} {x y : Nat} (hy : y < 10) (h : con G A x y) (hne : x ≠ y) : ∃ z, z < 10 ∧ G x z = true := by
  have : y = x ∨ ∃ z, z < 10 ∧ G x z = true := con_ind (G := G) (A := A) (x := x) (fun y => y = x ∨ ∃ z, z < 10 ∧ G x z = true) (fun _ => Or.inl rfl) (fun u v _ hv hp hg _ => by
    rcases hp with e | e
    · rw [e] at hg
      exact Or.inr ⟨v, hv, hg⟩
    · exact Or.inr e) hy h
  rcases this with e | e
  · exact absurd e.symm hne
  · exact e
def SA (S : Nat → Bool) (a b : Nat) : Nat → Bool := fun v => (S v && !decide (v = a)) && !decide (v = b)
theorem SA_iff {a b v : Nat} : SA S a b v = true ↔ S v = true ∧ v ≠ a ∧ v ≠ b := by
  simp [SA, and_assoc]
theorem cyc_ok (hb : BIC H S) (hS : ∀ v, S v = true → v < 10) (he : 2 ≤ ec H) : low S < 10 ∧ S (low S) = true ∧ low (H (low S)) < 10 ∧ H (low S) (low (H (low S))) = true ∧
    fdep H (SA S (low S) (low (H (low S)))) (fun v => decide (v = low S)) (low (H (low S))) 9 ≠ 0 ∧ fdep H (SA S (low S) (low (H (low S)))) (fun v => decide (v = low S)) (low (H (low S))) 9 ≤ 8 ∧
    ∃ inn, dsc H (SA S (low S) (low (H (low S)))) (fun v => decide (v = low S)) (fdep H (SA S (low S) (low (H (low S)))) (fun v => decide (v = low S)) (low (H (low S))) 9) (low (H (low S))) = inn ++ [low S] ∧ inn.length = fdep H (SA S (low S) (low (H (low S)))) (fun v => decide (v = low S)) (low (H (low S))) 9 ∧ inn.Nodup ∧ (∀ x ∈ inn, x < 10 ∧ S x = true ∧ x ≠ low S ∧ x ≠ low (H (low S))) ∧ ∀ e ∈ pd (low (H (low S)) :: inn ++ [low S]), H e.1 e.2 = true := by
  obtain ⟨v1, hv1, _, _⟩ := ec_third hb he 0 0
  obtain ⟨ha, hSa⟩ := low_some (hS v1 hv1) hv1
  generalize low S = a at *
  obtain ⟨x1, hx1, hx1a, _⟩ := ec_third hb he a a
  obtain ⟨u1, hu1, hua, hux⟩ := ec_third hb he a x1
  obtain ⟨z, hz, hz2⟩ := con_first (hS x1 hx1) (hb.2.2.2 a x1 u1 ha (hS x1 hx1) (hS u1 hu1) hSa hx1 (fun e => hua e.symm) (fun e => hux e.symm)) (fun e => hx1a e.symm)
  obtain ⟨hb10, hab⟩ := low_some hz hz2
  generalize low (H a) = b at *
  obtain ⟨_, _, _, hSb⟩ := hb.2.2.1 a b hab
  have hne : a ≠ b := fun e => by rw [e, hb.2.1] at hab; cases hab
  obtain ⟨x, hx, hxa, hxb⟩ := ec_third hb he a b
  have hx10 := hS x hx
  have hxp : two a b x = false := by
    cases h : two a b x with
    | false => rfl
    | true => rcases two_iff.mp h with e | e <;> contradiction
  obtain ⟨y, z, hy, hz, hyz, cy, cz⟩ := ctc_two hb hx10 hx hxp (fun v hv => by
    rcases two_iff.mp hv with e | e <;> rw [e] <;> constructor <;> assumption) ⟨a, b, hne, two_iff.mpr (Or.inl rfl), two_iff.mpr (Or.inr rfl)⟩
  have hcc : ∀ v, v = a ∨ v = b → nb H (cmp H S (two a b) x) v = true := by
    have cy2 := (Bool.and_eq_true _ _).mp cy
    have cz2 := (Bool.and_eq_true _ _).mp cz
    have ny := cy2.1
    have nz := cz2.1
    intro v hv
    rcases two_iff.mp cy2.2 with e1 | e1 <;> rcases two_iff.mp cz2.2 with e2 | e2
    · exact absurd (e1.trans e2.symm) hyz
    · rcases hv with e | e
      · rw [e1] at ny; rw [e]; exact ny
      · rw [e2] at nz; rw [e]; exact nz
    · rcases hv with e | e
      · rw [e2] at nz; rw [e]; exact nz
      · rw [e1] at ny; rw [e]; exact ny
    · exact absurd (e1.trans e2.symm) hyz
  obtain ⟨da, hda, da1, da2⟩ := nb_iff.mp (hcc a (Or.inl rfl))
  obtain ⟨db, hdb, db1, db2⟩ := nb_iff.mp (hcc b (Or.inr rfl))
  have c1 := cmp_con hx10 hda da1
  have c2 := cmp_con hx10 hdb db1
  have c3 := con_trans (con_sym hb.1 hx10 hda c1) c2 hdb
  have c4 : con H (SA S a b) da db := con_mono (fun v hv h => by
    obtain ⟨s1, s2⟩ := cmp_in h
    refine SA_iff.mpr ⟨s1, fun e => ?_, fun e => ?_⟩
    · rw [e, two_iff.mpr (Or.inl rfl)] at s2; cases s2
    · rw [e, two_iff.mpr (Or.inr rfl)] at s2; cases s2) hda hdb c3
  obtain ⟨k, hk1, hk2⟩ := lay_all (T := fun v => decide (v = a)) hda hdb c4 ⟨a, ha, decide_eq_true rfl, by rw [hb.1]; exact da2⟩
  have hcA : cnt (SA S a b) 10 ≤ 8 := by
    have e1 := cnt_add1 (S := SA S a b) (p := a) (n := 10) ha (by simp [SA])
    have e2 := cnt_add1 (S := fun v => SA S a b v || decide (v = a)) (p := b) (n := 10) hb10 (by simp [SA]; exact fun e => hne e.symm)
    have := cnt_le (fun v => (SA S a b v || decide (v = a)) || decide (v = b)) 10
    omega
  have hdeep : ∀ k v, 1 ≤ k → v < 10 → lay H (SA S a b) (fun v => decide (v = a)) k v = true → k ≤ 8 := fun k v h1 hv h => by
    obtain ⟨j, rfl⟩ : ∃ j, k = j + 1 := ⟨k - 1, by omega⟩
    have := lay_deep hv h
    omega
  have hs := fdep_spec (H := H) (A := SA S a b) (T := fun v => decide (v = a)) (u := b) 9
  have hm : meet (lay H (SA S a b) (fun v => decide (v = a)) k) (H b) = true := meet_iff.mpr ⟨db, hdb, hk2, by rw [hb.1]; exact db2⟩
  have h0 : fdep H (SA S a b) (fun v => decide (v = a)) b 9 ≠ 0 := fun e => by
    have := hs.2 e k hk1 (by have := hdeep k db hk1 hdb hk2; omega)
    rw [this] at hm
    cases hm
  obtain ⟨s1, s2, s3, _⟩ := hs.1 h0
  obtain ⟨z1, hz1, hz2, hz3⟩ := meet_iff.mp s3
  obtain ⟨inn, t, i1, i2, i3⟩ := dsc_pok hb.1 (H := H) (A := SA S a b) (T := fun v => decide (v = a)) (v := b) ⟨z1, hz1, hz3, hz2⟩
  obtain ⟨q1, q2, q3, q4, q5⟩ := i3
  have ht : t = a := of_decide_eq_true q2
  rw [ht] at i1 q5
  exact ⟨ha, hSa, hb10, hab, h0, hdeep _ z1 s1 hz1 hz2, inn, i1, i2, q4, fun x hx => ⟨(q3 x hx).1, SA_iff.mp (q3 x hx).2⟩, q5⟩
end
