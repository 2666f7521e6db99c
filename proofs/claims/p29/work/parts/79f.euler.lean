/-! components -/
section
variable {G : Nat → Nat → Bool}
theorem blk_lab2 (hg : gok G) {l : List xPr} (h : BOK G l) : ∀ n, n ≤ l.length → ∃ lab : Nat → Nat, (∀ v, v < 10 → lab v < 10) ∧ cnt (img lab) 10 + sumS G (l.take n) = 10 + n ∧ (∀ x y, x < 10 → y < 10 → lab x = lab y → con (gL G (l.take n)) (fun _ => true) x y) ∧ ∀ x y, gL G (l.take n) x y = true → lab x = lab y
  | 0, _ => ⟨fun v => v, fun v hv => hv, by
      have : cnt (img (fun v => v)) 10 = 10 := by decide +kernel
      rw [this]
      rfl, fun x y _ _ e => by
      subst e
      exact con_rfl rfl, fun x y h => by
      obtain ⟨_, p, hp, _⟩ := gL_iff.mp h
      cases hp⟩
  | n + 1, hn => by
    obtain ⟨lab, h1, h2, h3, h4⟩ := blk_lab2 hg h n (by omega)
    have hl : n < l.length := by omega
    have ht : l.take (n + 1) = l.take n ++ [l[n]] := by rw [List.take_succ_eq_append_getElem hl]
    generalize hp : l[n] = p at ht
    have hpn : l[n]? = some p := by rw [List.getElem?_eq_getElem hl, hp]
    have hpm : p ∈ l := List.mem_of_getElem? hpn
    have hpG := (h.1 p hpm).1
    have hm : bS G p p.1 = true := bS_iff.mpr ⟨(hg.2.2 _ _ hpG).1, Bs_a hg hpG⟩
    have mono : ∀ {x y : Nat}, x < 10 → y < 10 → con (gL G (l.take n)) (fun _ => true) x y → con (gL G (l.take (n + 1))) (fun _ => true) x y := fun hx hy q => con_G (fun u v _ _ e _ => by
      obtain ⟨a, r, b, c⟩ := gL_iff.mp e
      exact gL_iff.mpr ⟨a, r, by rw [ht]; exact List.mem_append_left _ b, c⟩) (fun _ _ e => e) hx hy q
    -- the block's own vertices are joined by its edges
    have own : ∀ x y, bS G p x = true → bS G p y = true → con (gL G (l.take (n + 1))) (fun _ => true) x y := by
      intro x y hx hy
      obtain ⟨u, u1, u2, u3⟩ : ∃ u, u < 10 ∧ x ≠ u ∧ y ≠ u := by
        by_cases e0 : x ≠ 0 ∧ y ≠ 0
        · exact ⟨0, by omega, e0⟩
        · by_cases e1 : x ≠ 1 ∧ y ≠ 1
          · exact ⟨1, by omega, e1⟩
          · exact ⟨2, by omega, by omega, by omega⟩
      have k := (bS_bic hg hpG).2.2.2 x y u (bS_iff.mp hx).1 (bS_iff.mp hy).1 u1 hx hy u2 u3
      refine con_G (fun a b _ _ e _ => ?_) (fun _ _ _ => rfl) (bS_iff.mp hx).1 (bS_iff.mp hy).1 k
      obtain ⟨q1, q2, q3⟩ := bH_iff.mp e
      exact gL_iff.mpr ⟨q1, p, by rw [ht]; exact List.mem_append_right _ List.mem_cons_self, q2, q3⟩
    have hi : ∀ x y, x < 10 → y < 10 → bS G p x = true → bS G p y = true → lab x = lab y → x = y := by
      intro x y hx hy hxS hyS e
      refine (bS_F4 hg hpG (G' := gL G (l.take n)) (A := fun _ => true) (fun a b hab => ?_) hy hxS hyS (h3 x y hx hy e)).symm
      obtain ⟨q1, r, q2, q3, q4⟩ := gL_iff.mp hab
      refine ⟨q1, fun z => ?_⟩
      obtain ⟨i, hi⟩ := List.getElem?_of_mem q2
      have hin : i < n := by
        have := (List.getElem?_eq_some_iff.mp hi).1
        rw [List.length_take] at this
        omega
      have hi2 : l[i]? = some r := by rw [← hi, List.getElem?_take, if_pos hin]
      have := BOK_one hg h hi2 hpn q1 q3 q4 z.1 z.2
      omega
    have hmg := img_merge h1 (bS_iff.mp hm).1 hm hi
    refine ⟨fun v => if anyv (fun u => bS G p u && Nat.beq (lab u) (lab v)) 10 then lab p.1 else lab v, fun v hv => ?_, ?_, fun x y hx hy e => ?_, fun x y hxy => ?_⟩
    · dsimp only
      split
      · exact h1 _ (bS_iff.mp hm).1
      · exact h1 v hv
    · rw [ht, sumS_app]
      show cnt _ 10 + (sumS G (l.take n) + (cnt (bS G p) 10 + 0)) = _
      omega
    · have sp : ∀ v, v < 10 → (if anyv (fun u => bS G p u && Nat.beq (lab u) (lab v)) 10 then lab p.1 else lab v) = lab p.1 → ∃ s, bS G p s = true ∧ con (gL G (l.take (n + 1))) (fun _ => true) v s := by
        intro v hv e
        split at e
        · next hy =>
          obtain ⟨s, s1, s2⟩ := anyv_iff.mp hy
          rw [Bool.and_eq_true] at s2
          exact ⟨s, s2.1, mono hv s1 (h3 v s hv s1 (Nat.eq_of_beq_eq_true s2.2).symm)⟩
        · exact ⟨p.1, hm, mono hv (bS_iff.mp hm).1 (h3 v p.1 hv (bS_iff.mp hm).1 e)⟩
      have sym : ∀ u v, gL G (l.take (n + 1)) u v = gL G (l.take (n + 1)) v u := fun u v => by
        unfold gL
        rw [hg.1 u v]
        congr 1
        congr 1
        funext q
        exact Bool.and_comm _ _
      dsimp only at e
      by_cases ex : anyv (fun u => bS G p u && Nat.beq (lab u) (lab x)) 10 = true
      · have e1 := e
        rw [if_pos ex] at e1
        obtain ⟨s, s1, s2⟩ := sp x hx (by rw [if_pos ex])
        obtain ⟨t, t1, t2⟩ := sp y hy e1.symm
        have hs10 := (bS_iff.mp s1).1
        have ht10 := (bS_iff.mp t1).1
        exact con_trans (con_trans s2 (own s t s1 t1) ht10) (con_sym sym hy ht10 t2) hy
      · by_cases ey : anyv (fun u => bS G p u && Nat.beq (lab u) (lab y)) 10 = true
        · have e1 := e
          rw [if_pos ey] at e1
          obtain ⟨s, s1, s2⟩ := sp y hy (by rw [if_pos ey])
          obtain ⟨t, t1, t2⟩ := sp x hx e1
          have hs10 := (bS_iff.mp s1).1
          have ht10 := (bS_iff.mp t1).1
          exact con_trans (con_trans t2 (own t s t1 s1) hs10) (con_sym sym hy hs10 s2) hy
        · rw [if_neg ex, if_neg ey] at e
          exact mono hx hy (h3 x y hx hy e)
    · dsimp only
      obtain ⟨q1, r, q2, q3, q4⟩ := gL_iff.mp hxy
      rw [ht] at q2
      rcases List.mem_append.mp q2 with q2 | q2
      · rw [h4 x y (gL_iff.mpr ⟨q1, r, q2, q3, q4⟩)]
      · rw [List.mem_singleton] at q2
        rw [q2] at q3 q4
        have yes : ∀ v, bS G p v = true → anyv (fun u => bS G p u && Nat.beq (lab u) (lab v)) 10 = true := fun v hv => anyv_iff.mpr ⟨v, (bS_iff.mp hv).1, by rw [hv]; exact Nat.beq_refl _⟩
        rw [if_pos (yes x q3), if_pos (yes y q4)]
end
/-- the component of a vertex -/
def kc (G : Nat → Nat → Bool) (v : Nat) : Nat → Bool := rch G (fun _ => true) (fun z => decide (z = v))
/-- the least of its component -/
def rep (G : Nat → Nat → Bool) (v : Nat) : Bool := decide (low (kc G v) = v)
theorem kc_self (G : Nat → Nat → Bool) (v : Nat) : kc G v v = true := con_rfl (G := G) (A := fun _ => true) (x := v) rfl
theorem kc_low {G : Nat → Nat → Bool} {v : Nat} (hv : v < 10) : low (kc G v) < 10 ∧ kc G v (low (kc G v)) = true := low_some hv (kc_self G v)
theorem kc_same {G : Nat → Nat → Bool} (hs : ∀ x y, G x y = G y x) {u v : Nat} (hu : u < 10) (hv : v < 10) (h : kc G v u = true) : low (kc G u) = low (kc G v) := by
  have e : ∀ z, z < 10 → kc G u z = kc G v z := fun z hz => by
    have h1 : con G (fun _ => true) v u := h
    have h2 := con_sym hs hv hu h1
    cases hz' : kc G v z with
    | true => exact con_trans h2 (show con G (fun _ => true) v z from hz') hz
    | false =>
      cases hu' : kc G u z with
      | false => rfl
      | true =>
        have : kc G v z = true := con_trans h1 (show con G (fun _ => true) u z from hu') hz
        rw [this] at hz'
        cases hz'
  exact low_ext e
theorem rep_low {G : Nat → Nat → Bool} (hs : ∀ x y, G x y = G y x) {v : Nat} (hv : v < 10) : rep G (low (kc G v)) = true := by
  obtain ⟨b1, b2⟩ := kc_low (G := G) hv
  exact decide_eq_true (kc_same hs b1 hv b2)
theorem cnt_rep {G : Nat → Nat → Bool} (hg : gok G) : cnt (rep G) 10 + sumS G (blks G 100) = 10 + (blks G 100).length := by
  obtain ⟨lab, h1, h2, h3, h4⟩ := blk_lab2 hg (blks_ok hg 100 (Nat.le_refl _)) _ (Nat.le_refl _)
  rw [List.take_length] at h2 h3 h4
  rw [gL_all hg] at h3 h4
  have hc : ∀ x y, x < 10 → y < 10 → kc G x y = true → lab x = lab y := fun x y hx hy h => con_ind (fun z => lab x = lab z) (fun _ => rfl) (fun u v _ _ e g _ => e.trans (h4 u v g)) hy (show con G (fun _ => true) x y from h)
  have e1 := cnt_inj h1 (S := rep G) 10 (Nat.le_refl _) (fun x y hx hy rx ry e => by
    have h5 : kc G x y = true := h3 x y hx hy e
    have h6 := kc_same hg.1 hy hx h5
    have h7 := of_decide_eq_true rx
    have h8 := of_decide_eq_true ry
    omega)
  have e2 : cnt (fun z => anyv (fun v => rep G v && Nat.beq (lab v) z) 10) 10 = cnt (img lab) 10 := cnt_ext fun z _ => by
    apply Bool.eq_iff_iff.mpr
    rw [img_iff, anyv_iff]
    constructor
    · rintro ⟨u, hu, h⟩
      rw [Bool.and_eq_true] at h
      exact ⟨u, hu, Nat.eq_of_beq_eq_true h.2⟩
    · rintro ⟨v, hv, h⟩
      obtain ⟨b1, b2⟩ := kc_low (G := G) hv
      refine ⟨_, b1, ?_⟩
      rw [rep_low hg.1 hv, ← hc v _ hv b1 b2, h]
      exact Nat.beq_refl z
  omega
/-- Euler's number of walks -/
theorem walks_ok {G : Nat → Nat → Bool} (hg : gok G) (hf : flt G (blks G 100) = true) :
    (trc (nxt G) G 100).2.length + cnt (fun v => anyv (G v) 10) 10 = ec G + 2 * cnt (fun v => anyv (G v) 10 && rep G v) 10 := by
  have hG : ∀ v w, G v w = true → v < 10 ∧ w < 10 ∧ G w (nxt G w v) = true := fun v w h => ⟨(hg.2.2 _ _ h).1, (hg.2.2 _ _ h).2, nxt_edge hg hf (by rw [hg.1]; exact h)⟩
  obtain ⟨gs, hF, hl⟩ := FAM_all hg hf
  have h1 := FAM_len hF (FAM_trc hG hF)
  have h2 := FAM_len (FAM_trc hG hF) hF
  rw [List.length_map] at h1 h2
  have h3 := cnt_rep hg
  have e1 : cnt (fun v => !(ord G (blks G 100) v).isEmpty) 10 = cnt (fun v => anyv (G v) 10) 10 := cnt_ext fun v _ => by
    apply Bool.eq_iff_iff.mpr
    rw [isEmpty_no, anyv_iff]
    constructor
    · intro h
      obtain ⟨x, hx⟩ := List.exists_mem_of_ne_nil _ h
      have := (ord_mem hg hf).mp hx
      exact ⟨x, (hg.2.2 _ _ this).2, this⟩
    · rintro ⟨x, _, hx⟩ z
      have := (ord_mem hg hf).mpr hx
      rw [z] at this
      cases this
  have e2 := cnt_incl (fun v => anyv (G v) 10) (rep G) 10
  have e3 : cnt (fun v => anyv (G v) 10 || rep G v) 10 = cnt (fun _ => true) 10 := cnt_ext fun v hv => by
    cases h : anyv (G v) 10 with
    | true => rfl
    | false =>
      have hno : ∀ y, G v y = false := fun y => by
        cases hy : G v y with
        | false => rfl
        | true =>
          rw [anyv_iff.mpr ⟨y, (hg.2.2 _ _ hy).2, hy⟩] at h
          cases h
      obtain ⟨b1, b2⟩ := kc_low (G := G) hv
      have h5 : low (kc G v) = v := con_ind (fun z => z = v) (fun _ => rfl) (fun a b _ _ e g _ => by
        rw [e, hno] at g
        cases g) b1 (show con G (fun _ => true) v (low (kc G v)) from b2)
      show rep G v = true
      exact decide_eq_true h5
  have e4 : cnt (fun _ => true) 10 = 10 := by decide +kernel
  omega
