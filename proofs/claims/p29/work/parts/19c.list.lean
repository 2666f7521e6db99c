/-! the blocks of a graph, one after the other -/
def bS (G : Nat → Nat → Bool) (p : xPr) : Nat → Bool := fun v => decide (v < 10) && Bs G p.1 p.2 v
def bH (G : Nat → Nat → Bool) (S : Nat → Bool) : Nat → Nat → Bool := fun x y => G x y && (S x && S y)
def bAdd (G : Nat → Nat → Bool) (l : List xPr) (a b : Nat) : List xPr :=
  if G a b && !l.any (fun p => bS G p a && bS G p b) then l ++ [(a, b)] else l
def blks (G : Nat → Nat → Bool) (n : Nat) : List xPr := pfold (bAdd G) [] n
theorem bS_iff {G : Nat → Nat → Bool} {p : xPr} {v : Nat} : bS G p v = true ↔ v < 10 ∧ Bs G p.1 p.2 v = true := by simp [bS]
theorem bH_iff {G : Nat → Nat → Bool} {S : Nat → Bool} {x y : Nat} : bH G S x y = true ↔ G x y = true ∧ S x = true ∧ S y = true := by simp [bH]
section
variable {G : Nat → Nat → Bool}
theorem bS_bic (hg : gok G) {p : xPr} (hp : G p.1 p.2 = true) : BIC (bH G (bS G p)) (bS G p) := by
  refine ⟨fun x y => by unfold bH; rw [hg.1 x y, Bool.and_comm (bS G p x)], fun x => by unfold bH; rw [hg.2.1]; rfl, fun x y h => ?_, fun x y u hx hy hu h1 h2 n1 n2 => ?_⟩
  · obtain ⟨a, b, c⟩ := bH_iff.mp h
    exact ⟨(hg.2.2 x y a).1, (hg.2.2 x y a).2, b, c⟩
  · have k := Bs_two hg hp hx hy hu (bS_iff.mp h1).2 (bS_iff.mp h2).2 n1 n2
    refine con_ind (fun z => con (bH G (bS G p)) (fun v => bS G p v && but u v) x z) (fun _ => con_rfl (by show (_ && _) = true; rw [h1, but_iff.mpr n1]; rfl)) (fun z z' hz hz' q g hA => ?_) hy k
    rw [Bool.and_eq_true] at hA
    have hz'S : bS G p z' = true := bS_iff.mpr ⟨hz', hA.1⟩
    have hzS : bS G p z = true := by
      have := con_in q
      rw [Bool.and_eq_true] at this
      exact this.1
    exact con_step q hz hz' (bH_iff.mpr ⟨g, hzS, hz'S⟩) (by show (_ && _) = true; rw [hz'S, hA.2]; rfl)
/-- each vertex of a block is an end of one of its edges -/
theorem bS_edge (hg : gok G) {p : xPr} (hp : G p.1 p.2 = true) {v : Nat} (hv : bS G p v = true) : ∃ w, bH G (bS G p) v w = true := by
  obtain ⟨h1, h2⟩ := bS_iff.mp hv
  obtain ⟨w, hw⟩ := Bs_Cv hg hp h1 h2
  obtain ⟨a, b, c⟩ := Cl_in hg hp hw
  exact ⟨w, bH_iff.mpr ⟨a, hv, bS_iff.mpr ⟨(hg.2.2 _ _ a).2, c⟩⟩⟩
/-- the members of the list are edges, and no two of them are of one block -/
def BOK (G : Nat → Nat → Bool) (l : List xPr) : Prop := (∀ p ∈ l, G p.1 p.2 = true ∧ p.1 < p.2) ∧ l.Pairwise (fun p q => (bS G p q.1 && bS G p q.2) = false)
theorem blks_ok (hg : gok G) : ∀ n, n ≤ 100 → BOK G (blks G n) := by
  refine pfold_ind (fun l => BOK G l) ⟨(fun p hp => by cases hp), List.Pairwise.nil⟩ (fun l a b hab hb ih => ?_)
  unfold bAdd
  cases hc : (G a b && !l.any (fun p => bS G p a && bS G p b)) with
  | false => exact ih
  | true =>
    rw [if_pos rfl]
    rw [Bool.and_eq_true, Bool.not_eq_true'] at hc
    refine ⟨fun p hp => ?_, ?_⟩
    · rcases List.mem_append.mp hp with h | h
      · exact ih.1 p h
      · rw [List.mem_singleton] at h
        subst h
        exact ⟨hc.1, hab⟩
    · refine List.pairwise_append.mpr ⟨ih.2, List.pairwise_singleton _ _, fun p hp q hq => ?_⟩
      rw [List.mem_singleton] at hq
      subst hq
      cases hx : (bS G p a && bS G p b) with
      | false => rfl
      | true =>
        have := (List.any_eq_true (p := fun p => bS G p a && bS G p b)).mpr ⟨p, hp, hx⟩
        rw [this] at hc
        cases hc.2
theorem bAdd_has (hg : gok G) {a b : Nat} (e : G a b = true) (l : List xPr) : ∃ p ∈ bAdd G l a b, bS G p a = true ∧ bS G p b = true := by
  unfold bAdd
  rw [e, Bool.true_and]
  cases hx : l.any (fun p => bS G p a && bS G p b) with
  | false =>
    rw [Bool.not_false, if_pos rfl]
    exact ⟨(a, b), List.mem_append_right _ List.mem_cons_self, bS_iff.mpr ⟨(hg.2.2 _ _ e).1, Bs_a hg e⟩, bS_iff.mpr ⟨(hg.2.2 _ _ e).2, Bs_b hg e⟩⟩
  | true =>
    obtain ⟨p, h1, h2⟩ := List.any_eq_true.mp hx
    rw [Bool.and_eq_true] at h2
    rw [Bool.not_true, if_neg (by decide)]
    exact ⟨p, h1, h2⟩
/-- every edge is of some block of the list -/
theorem blks_all (hg : gok G) {x y : Nat} (h : G x y = true) : ∃ p ∈ blks G 100, bS G p x = true ∧ bS G p y = true := by
  have hxy := hg.2.2 x y h
  have key : ∀ a b, a < b → b < 10 → G a b = true → ∃ p ∈ blks G 100, bS G p a = true ∧ bS G p b = true := by
    intro a b hab hb e
    refine pfold_mono (f := bAdd G) (s := []) (fun l => ∃ p ∈ l, bS G p a = true ∧ bS G p b = true) (fun l c d _ _ ⟨p, h1, h2⟩ => ?_) (n := 10 * a + b + 1) ?_ 100 (by omega) (Nat.le_refl _)
    · unfold bAdd
      split
      · exact ⟨p, List.mem_append_left _ h1, h2⟩
      · exact ⟨p, h1, h2⟩
    · rw [pfold_next hb hab]
      exact bAdd_has hg e _
  rcases Nat.lt_trichotomy x y with q | q | q
  · exact key x y q hxy.2 h
  · subst q
    rw [hg.2.1] at h
    cases h
  · obtain ⟨p, h1, h2, h3⟩ := key y x q hxy.1 (by rw [hg.1]; exact h)
    exact ⟨p, h1, h3, h2⟩
theorem bS_same (hg : gok G) {p q : xPr} (hp : G p.1 p.2 = true) {c d : Nat} (hcd : G c d = true) (h1 : bS G p c = true) (h2 : bS G p d = true) (hq : G q.1 q.2 = true) (h3 : bS G q c = true) (h4 : bS G q d = true) : ∀ v, bS G p v = bS G q v := by
  intro v
  unfold bS
  by_cases hv : v < 10
  · rw [← Bs_same hg hp hcd (bS_iff.mp h1).2 (bS_iff.mp h2).2 v hv, ← Bs_same hg hq hcd (bS_iff.mp h3).2 (bS_iff.mp h4).2 v hv]
  · simp [hv]
/-- an edge is of one block of a list alone -/
theorem BOK_one (hg : gok G) {l : List xPr} (h : BOK G l) {i j : Nat} {p q : xPr} (hi : l[i]? = some p) (hj : l[j]? = some q) {c d : Nat} (hcd : G c d = true) (h1 : bS G p c = true) (h2 : bS G p d = true) (h3 : bS G q c = true) (h4 : bS G q d = true) : i = j := by
  have hp := (h.1 p (List.mem_of_getElem? hi)).1
  have hq := (h.1 q (List.mem_of_getElem? hj)).1
  have key : ∀ {i j : Nat} {p q : xPr}, l[i]? = some p → l[j]? = some q → i < j → (∀ v, bS G p v = bS G q v) → G q.1 q.2 = true → False := by
    intro i j p q hi hj hij e hq
    have hjl := (List.getElem?_eq_some_iff.mp hj)
    have hil := (List.getElem?_eq_some_iff.mp hi)
    have := List.pairwise_iff_getElem.mp h.2 i j hil.1 hjl.1 hij
    rw [hil.2, hjl.2, e, e] at this
    have a1 : bS G q q.1 = true := bS_iff.mpr ⟨(hg.2.2 _ _ hq).1, Bs_a hg hq⟩
    have a2 : bS G q q.2 = true := bS_iff.mpr ⟨(hg.2.2 _ _ hq).2, Bs_b hg hq⟩
    rw [a1, a2] at this
    cases this
  have e := bS_same hg hp hcd h1 h2 hq h3 h4
  rcases Nat.lt_trichotomy i j with z | z | z
  · exact (key hi hj z e hq).elim
  · exact z
  · exact (key hj hi z (fun v => (e v).symm) hp).elim
/-- F4: edges that aren't the block's own don't join two of its vertices -/
theorem bS_F4 (hg : gok G) {p : xPr} (hp : G p.1 p.2 = true) {G' : Nat → Nat → Bool} {A : Nat → Bool} (hs : ∀ x y, G' x y = true → G x y = true ∧ ¬ (bS G p x = true ∧ bS G p y = true)) {x y : Nat} (hy : y < 10) (h1 : bS G p x = true) (h2 : bS G p y = true) (hc : con G' A x y) : y = x := by
  have key : y = x ∨ Hg G (fun v => bS G p v = true) x y := by
    refine con_ind (fun z => z = x ∨ Hg G (fun v => bS G p v = true) x z) (fun _ => Or.inl rfl) (fun z z' hz hz' q g _ => ?_) hy hc
    obtain ⟨g1, g2⟩ := hs z z' g
    rcases q with rfl | q
    · refine Or.inr ⟨z', hz', g1, fun h => g2 ⟨h1, h⟩, fun P p1 _ => p1⟩
    · cases hb : bS G p z' with
      | false => exact Or.inr (Hg_step hz hz' q g1 (fun h => by rw [show bS G p z' = true from h] at hb; cases hb))
      | true =>
        by_cases e : z' = x
        · exact Or.inl e
        · obtain ⟨x1, x10, e1, nx, hc⟩ := Hg_con (V := fun v => bS G p v = true) h1 q
          have hx := bS_iff.mp h1
          have hz2 := bS_iff.mp hb
          have := Bs_T3 hg hp hx.1 x10 hz' hx.2 hz2.2 e e1 (con_step hc hz hz' g1 (but_iff.mpr e))
          exact absurd (bS_iff.mpr ⟨x10, this⟩) nx
  rcases key with h | h
  · exact h
  · exact absurd h2 (Hg_out h)
end
/-! counting: one label for what is joined -/
def img (lab : Nat → Nat) : Nat → Bool := fun z => anyv (fun v => Nat.beq (lab v) z) 10
theorem img_iff {lab : Nat → Nat} {z : Nat} : img lab z = true ↔ ∃ v, v < 10 ∧ lab v = z := by
  unfold img
  rw [anyv_iff]
  constructor
  · rintro ⟨v, h1, h2⟩; exact ⟨v, h1, Nat.eq_of_beq_eq_true h2⟩
  · rintro ⟨v, h1, h2⟩; exact ⟨v, h1, by rw [h2]; exact Nat.beq_refl z⟩
theorem cnt_sub {S T : Nat → Bool} : ∀ {n : Nat}, (∀ v, v < n → T v = true → S v = true) → cnt (fun v => S v && !T v) n + cnt T n = cnt S n
  | 0, _ => rfl
  | n + 1, h => by
    have ih := cnt_sub (n := n) (fun v hv => h v (by omega))
    unfold cnt
    cases hT : T n with
    | true => rw [h n (by omega) hT]; simp only [Bool.not_true, Bool.and_false, cond_false, cond_true]; omega
    | false =>
      cases S n <;> simp only [Bool.not_false, Bool.and_true, cond_false, cond_true] <;> omega
/-- an injective labelling of a set uses as many labels as the set has members -/
theorem cnt_inj {lab : Nat → Nat} (hl : ∀ v, v < 10 → lab v < 10) {S : Nat → Bool} : ∀ n, n ≤ 10 → (∀ x y, x < n → y < n → S x = true → S y = true → lab x = lab y → x = y) → cnt (fun z => anyv (fun v => S v && Nat.beq (lab v) z) n) 10 = cnt S n
  | 0, _, _ => rfl
  | n + 1, hn, h => by
    have ih := cnt_inj hl n (by omega) (fun x y hx hy => h x y (by omega) (by omega))
    show cnt (fun z => anyv (fun v => S v && Nat.beq (lab v) z) n || (S n && Nat.beq (lab n) z)) 10 = cnt S n + _
    cases hS : S n with
    | false =>
      simp only [Bool.false_and, Bool.or_false, cond_false, Nat.add_zero]
      exact ih
    | true =>
      have e : cnt (fun z => anyv (fun v => S v && Nat.beq (lab v) z) n || (true && Nat.beq (lab n) z)) 10 = cnt (fun z => anyv (fun v => S v && Nat.beq (lab v) z) n || decide (z = lab n)) 10 := cnt_ext fun z _ => by
        congr 1
        rw [Bool.true_and]
        cases hb : Nat.beq (lab n) z with
        | true => rw [Nat.eq_of_beq_eq_true hb]; simp
        | false => have := Nat.ne_of_beq_eq_false hb; simp; omega
      rw [e, cnt_add1 (hl n (by omega)), ih]
      · rfl
      · cases hb : anyv (fun v => S v && Nat.beq (lab v) (lab n)) n with
        | false => rfl
        | true =>
          obtain ⟨v, v1, v2⟩ := anyv_iff.mp hb
          rw [Bool.and_eq_true] at v2
          have := h v n (by omega) (by omega) v2.1 hS (Nat.eq_of_beq_eq_true v2.2)
          omega
/-- one label for a set whose members have different ones -/
theorem img_merge {lab : Nat → Nat} {S : Nat → Bool} {m : Nat} (hl : ∀ v, v < 10 → lab v < 10) (hm : m < 10) (hS : S m = true) (hi : ∀ x y, x < 10 → y < 10 → S x = true → S y = true → lab x = lab y → x = y) :
    cnt (img (fun v => if anyv (fun u => S u && Nat.beq (lab u) (lab v)) 10 then lab m else lab v)) 10 + cnt S 10 = cnt (img lab) 10 + 1 := by
  have h1 := cnt_inj hl (S := S) 10 (Nat.le_refl _) hi
  have hsub : ∀ z, z < 10 → anyv (fun v => S v && Nat.beq (lab v) z) 10 = true → img lab z = true := fun z _ h => by
    obtain ⟨v, v1, v2⟩ := anyv_iff.mp h
    rw [Bool.and_eq_true] at v2
    exact img_iff.mpr ⟨v, v1, Nat.eq_of_beq_eq_true v2.2⟩
  have h2 := cnt_sub hsub
  have hne : (fun z => img lab z && !anyv (fun v => S v && Nat.beq (lab v) z) 10) (lab m) = false := by
    have : anyv (fun v => S v && Nat.beq (lab v) (lab m)) 10 = true := anyv_iff.mpr ⟨m, hm, by rw [hS, Nat.beq_refl]; rfl⟩
    show (_ && !_) = false
    rw [this]
    simp
  have h3 := cnt_add1 (S := fun z => img lab z && !anyv (fun v => S v && Nat.beq (lab v) z) 10) (hl m hm) hne
  have e : cnt (img (fun v => if anyv (fun u => S u && Nat.beq (lab u) (lab v)) 10 then lab m else lab v)) 10 = cnt (fun z => (img lab z && !anyv (fun v => S v && Nat.beq (lab v) z) 10) || decide (z = lab m)) 10 := by
    refine cnt_ext fun z _ => ?_
    rw [Bool.eq_iff_iff, img_iff, Bool.or_eq_true, Bool.and_eq_true, img_iff, decide_eq_true_eq, Bool.not_eq_true']
    constructor
    · rintro ⟨v, v1, v2⟩
      split at v2
      · exact Or.inr v2.symm
      · next hno =>
        subst v2
        refine Or.inl ⟨⟨v, v1, rfl⟩, ?_⟩
        simpa using hno
    · rintro (⟨⟨v, v1, v2⟩, hno⟩ | rfl)
      · refine ⟨v, v1, ?_⟩
        rw [v2, hno]
        rfl
      · refine ⟨m, hm, ?_⟩
        split <;> rfl
  omega
/-- the edges of some blocks -/
def gL (G : Nat → Nat → Bool) (l : List xPr) : Nat → Nat → Bool := fun x y => G x y && l.any (fun p => bS G p x && bS G p y)
def sumS (G : Nat → Nat → Bool) : List xPr → Nat
  | [] => 0
  | p :: t => cnt (bS G p) 10 + sumS G t
theorem sumS_app (G : Nat → Nat → Bool) : ∀ a b : List xPr, sumS G (a ++ b) = sumS G a + sumS G b
  | [], b => by simp [sumS]
  | p :: t, b => by
    show cnt (bS G p) 10 + sumS G (t ++ b) = cnt (bS G p) 10 + sumS G t + sumS G b
    rw [sumS_app G t b]
    omega
section
variable {G : Nat → Nat → Bool}
theorem gL_iff {l : List xPr} {x y : Nat} : gL G l x y = true ↔ G x y = true ∧ ∃ p ∈ l, bS G p x = true ∧ bS G p y = true := by
  unfold gL
  rw [Bool.and_eq_true, List.any_eq_true]
  simp only [Bool.and_eq_true]
theorem con_G {G1 G2 : Nat → Nat → Bool} {A B : Nat → Bool} (hG : ∀ u v, u < 10 → v < 10 → G1 u v = true → A v = true → G2 u v = true) (hA : ∀ v, v < 10 → A v = true → B v = true) {x y : Nat} (hx : x < 10) (hy : y < 10) (h : con G1 A x y) : con G2 B x y :=
  con_ind (fun v => con G2 B x v) (fun q => con_rfl (hA x hx q)) (fun u v a b c d e => con_step c a b (hG u v a b d e) (hA v b e)) hy h
theorem blk_labels (hg : gok G) {l : List xPr} (h : BOK G l) : ∀ n, n ≤ l.length → ∃ lab : Nat → Nat, (∀ v, v < 10 → lab v < 10) ∧ cnt (img lab) 10 + sumS G (l.take n) = 10 + n ∧ ∀ x y, x < 10 → y < 10 → lab x = lab y → con (gL G (l.take n)) (fun _ => true) x y
  | 0, _ => ⟨fun v => v, fun v hv => hv, by
      have : cnt (img (fun v => v)) 10 = 10 := by decide +kernel
      rw [this]
      rfl, fun x y _ _ e => by
      subst e
      exact con_rfl rfl⟩
  | n + 1, hn => by
    obtain ⟨lab, h1, h2, h3⟩ := blk_labels hg h n (by omega)
    have hl : n < l.length := by omega
    have ht : l.take (n + 1) = l.take n ++ [l[n]] := by rw [List.take_succ_eq_append_getElem hl]
    generalize hp : l[n] = p at ht
    have hpn : l[n]? = some p := by rw [List.getElem?_eq_getElem hl, hp]
    have hpm : p ∈ l := List.mem_of_getElem? hpn
    have hpG := (h.1 p hpm).1
    have hm : bS G p p.1 = true := bS_iff.mpr ⟨(hg.2.2 _ _ hpG).1, Bs_a hg hpG⟩
    have mono : ∀ {x y : Nat}, x < 10 → y < 10 → con (gL G (l.take n)) (fun _ => true) x y → con (gL G (l.take (n + 1))) (fun _ => true) x y := fun hx hy q => con_G (fun u v _ _ e _ => by
      obtain ⟨a, r, b, c⟩ := gL_iff.mp e
      exact gL_iff.mpr ⟨a, r, by rw [ht]; exact List.mem_append_left _ b, c⟩) (fun _ _ e => e) hx hy q
    -- the block's own vertices are joined by its edges
    have own : ∀ x y, bS G p x = true → bS G p y = true → con (gL G (l.take (n + 1))) (fun _ => true) x y := by
      intro x y hx hy
      obtain ⟨u, u1, u2, u3⟩ : ∃ u, u < 10 ∧ x ≠ u ∧ y ≠ u := by
        by_cases e0 : x ≠ 0 ∧ y ≠ 0
        · exact ⟨0, by omega, e0⟩
        · by_cases e1 : x ≠ 1 ∧ y ≠ 1
          · exact ⟨1, by omega, e1⟩
          · exact ⟨2, by omega, by omega, by omega⟩
      have k := (bS_bic hg hpG).2.2.2 x y u (bS_iff.mp hx).1 (bS_iff.mp hy).1 u1 hx hy u2 u3
      refine con_G (fun a b _ _ e _ => ?_) (fun _ _ _ => rfl) (bS_iff.mp hx).1 (bS_iff.mp hy).1 k
      obtain ⟨q1, q2, q3⟩ := bH_iff.mp e
      exact gL_iff.mpr ⟨q1, p, by rw [ht]; exact List.mem_append_right _ List.mem_cons_self, q2, q3⟩
    have hi : ∀ x y, x < 10 → y < 10 → bS G p x = true → bS G p y = true → lab x = lab y → x = y := by
      intro x y hx hy hxS hyS e
      refine (bS_F4 hg hpG (G' := gL G (l.take n)) (A := fun _ => true) (fun a b hab => ?_) hy hxS hyS (h3 x y hx hy e)).symm
      obtain ⟨q1, r, q2, q3, q4⟩ := gL_iff.mp hab
      refine ⟨q1, fun z => ?_⟩
      obtain ⟨i, hi⟩ := List.getElem?_of_mem q2
      have hin : i < n := by
        have := (List.getElem?_eq_some_iff.mp hi).1
        rw [List.length_take] at this
        omega
      have hi2 : l[i]? = some r := by rw [← hi, List.getElem?_take, if_pos hin]
      have := BOK_one hg h hi2 hpn q1 q3 q4 z.1 z.2
      omega
    have hmg := img_merge h1 (bS_iff.mp hm).1 hm hi
    refine ⟨fun v => if anyv (fun u => bS G p u && Nat.beq (lab u) (lab v)) 10 then lab p.1 else lab v, fun v hv => ?_, ?_, fun x y hx hy e => ?_⟩
    · dsimp only
      split
      · exact h1 _ (bS_iff.mp hm).1
      · exact h1 v hv
    · rw [ht, sumS_app]
      show cnt _ 10 + (sumS G (l.take n) + (cnt (bS G p) 10 + 0)) = _
      omega
    · have sp : ∀ v, v < 10 → (if anyv (fun u => bS G p u && Nat.beq (lab u) (lab v)) 10 then lab p.1 else lab v) = lab p.1 → ∃ s, bS G p s = true ∧ con (gL G (l.take (n + 1))) (fun _ => true) v s := by
        intro v hv e
        split at e
        · next hy =>
          obtain ⟨s, s1, s2⟩ := anyv_iff.mp hy
          rw [Bool.and_eq_true] at s2
          exact ⟨s, s2.1, mono hv s1 (h3 v s hv s1 (Nat.eq_of_beq_eq_true s2.2).symm)⟩
        · exact ⟨p.1, hm, mono hv (bS_iff.mp hm).1 (h3 v p.1 hv (bS_iff.mp hm).1 e)⟩
      have sym : ∀ u v, gL G (l.take (n + 1)) u v = gL G (l.take (n + 1)) v u := fun u v => by
        unfold gL
        rw [hg.1 u v]
        congr 1
        congr 1
        funext q
        exact Bool.and_comm _ _
      dsimp only at e
      by_cases ex : anyv (fun u => bS G p u && Nat.beq (lab u) (lab x)) 10 = true
      · have e1 := e
        rw [if_pos ex] at e1
        obtain ⟨s, s1, s2⟩ := sp x hx (by rw [if_pos ex])
        obtain ⟨t, t1, t2⟩ := sp y hy e1.symm
        have hs10 := (bS_iff.mp s1).1
        have ht10 := (bS_iff.mp t1).1
        exact con_trans (con_trans s2 (own s t s1 t1) ht10) (con_sym sym hy ht10 t2) hy
      · by_cases ey : anyv (fun u => bS G p u && Nat.beq (lab u) (lab y)) 10 = true
        · have e1 := e
          rw [if_pos ey] at e1
          obtain ⟨s, s1, s2⟩ := sp y hy (by rw [if_pos ey])
          obtain ⟨t, t1, t2⟩ := sp x hx e1
          have hs10 := (bS_iff.mp s1).1
          have ht10 := (bS_iff.mp t1).1
          exact con_trans (con_trans t2 (own t s t1 s1) hs10) (con_sym sym hy hs10 s2) hy
        · rw [if_neg ex, if_neg ey] at e
          exact mono hx hy (h3 x y hx hy e)
/-- of n blocks the vertices, all but one of each, are at most 9 -/
theorem blk_sum (hg : gok G) {l : List xPr} (h : BOK G l) : sumS G l ≤ 9 + l.length := by
  obtain ⟨lab, h1, h2, _⟩ := blk_labels hg h l.length (Nat.le_refl _)
  rw [List.take_length] at h2
  have h3 : 0 < cnt (img lab) 10 := by
    have hz : img lab (lab 0) = true := img_iff.mpr ⟨0, by omega, rfl⟩
    have k := cnt_lt (S := fun _ => false) (T := img lab) (n := 10) (fun v _ q => by cases q) ⟨lab 0, h1 0 (by omega), rfl, hz⟩
    omega
  omega
theorem cnt_two {S : Nat → Bool} {a b : Nat} (ha : a < 10) (hb : b < 10) (hab : a ≠ b) (h1 : S a = true) (h2 : S b = true) : 2 ≤ cnt S 10 := by
  have k1 := cnt_add1 (S := fun _ => false) ha rfl
  have k2 := cnt_add1 (S := fun v => false || decide (v = a)) hb (by simp; omega)
  have k3 : cnt (fun v => (false || decide (v = a)) || decide (v = b)) 10 ≤ cnt S 10 := cnt_mono fun v _ hv => by
    simp only [Bool.false_or, Bool.or_eq_true, decide_eq_true_eq] at hv
    rcases hv with rfl | rfl
    · exact h1
    · exact h2
  have k0 : cnt (fun _ => false) 10 = 0 := rfl
  omega
theorem blk_two (hg : gok G) {p : xPr} (hp : G p.1 p.2 = true) : 2 ≤ cnt (bS G p) 10 := by
  have hne : p.1 ≠ p.2 := fun e => by rw [e, hg.2.1] at hp; cases hp
  exact cnt_two (hg.2.2 _ _ hp).1 (hg.2.2 _ _ hp).2 hne (bS_iff.mpr ⟨(hg.2.2 _ _ hp).1, Bs_a hg hp⟩) (bS_iff.mpr ⟨(hg.2.2 _ _ hp).2, Bs_b hg hp⟩)
/-- at most 9 blocks -/
theorem blk_nine (hg : gok G) {l : List xPr} (h : BOK G l) : l.length ≤ 9 := by
  have h1 := blk_sum hg h
  have h2 : 2 * l.length ≤ sumS G l := by
    have key : ∀ m : List xPr, (∀ p ∈ m, G p.1 p.2 = true) → 2 * m.length ≤ sumS G m := by
      intro m
      induction m with
      | nil => intro _; exact Nat.zero_le _
      | cons p t ih =>
        intro hm
        have := ih (fun q hq => hm q (List.mem_cons_of_mem _ hq))
        have := blk_two hg (hm p List.mem_cons_self)
        show 2 * (t.length + 1) ≤ cnt (bS G p) 10 + sumS G t
        omega
    exact key l (fun p hp => (h.1 p hp).1)
  omega
end
