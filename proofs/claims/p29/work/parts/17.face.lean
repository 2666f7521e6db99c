/-! a face is split by a path: what stays true of the faces -/
theorem pd_cons2 (x y : Nat) (t : List Nat) : pd (x :: y :: t) = (x, y) :: pd (y :: t) := rfl
theorem pd_nodup {l : List Nat} (h : l.Nodup) : (pd l).Nodup := by
  cases l with
  | nil => exact List.nodup_nil
  | cons x t =>
    have h1 : ((pd (x :: t)).map Prod.fst).Nodup := by
      rw [pd_fst]
      exact h.sublist (List.dropLast_sublist _)
    generalize pd (x :: t) = m at h1
    induction m with
    | nil => exact List.nodup_nil
    | cons a t ih =>
      rw [List.map_cons, List.nodup_cons] at h1
      exact List.nodup_cons.mpr ⟨fun z => h1.1 (List.mem_map.mpr ⟨a, z, rfl⟩), ih h1.2⟩
theorem pd_asym : ∀ {l : List Nat}, l.Nodup → ∀ {x y : Nat}, (x, y) ∈ pd l → (y, x) ∉ pd l
  | a :: b :: t, h, x, y, h1 => by
    intro h2
    have hn := List.nodup_cons.mp h
    rcases List.mem_cons.mp h1 with e | h3
    · have e1 := congrArg Prod.fst e
      have e2 := congrArg Prod.snd e
      dsimp only at e1 e2
      subst e1; subst e2
      rcases List.mem_cons.mp h2 with e | h4
      · have e1 := congrArg Prod.fst e
        dsimp only at e1
        subst e1
        exact hn.1 List.mem_cons_self
      · exact hn.1 (pd_mem h4).2
    · rcases List.mem_cons.mp h2 with e | h4
      · have e1 := congrArg Prod.fst e
        have e2 := congrArg Prod.snd e
        dsimp only at e1 e2
        subst e1; subst e2
        exact hn.1 (pd_mem h3).2
      · exact pd_asym (l := b :: t) hn.2 h3 h4
  | [_], _, _, _, h1 => by cases h1
  | [], _, _, _, h1 => by cases h1
theorem dts_perm (A B : List Nat) : (dts (A ++ B)).Perm (dts (B ++ A)) := by
  cases A with
  | nil => rw [List.append_nil]; exact List.Perm.refl _
  | cons a A =>
    cases B with
    | nil => rw [List.append_nil]; exact List.Perm.refl _
    | cons b B =>
      have e1 : dts (a :: A ++ b :: B) = pd (a :: A ++ [b]) ++ pd (b :: (B ++ [a])) := by
        show pd (a :: (A ++ b :: B) ++ [a]) = _
        have : a :: (A ++ b :: B) ++ [a] = (a :: A) ++ b :: (B ++ [a]) := by simp
        rw [this, pd_app]
      have e2 : dts (b :: B ++ a :: A) = pd (b :: B ++ [a]) ++ pd (a :: (A ++ [b])) := by
        show pd (b :: (B ++ a :: A) ++ [b]) = _
        have : b :: (B ++ a :: A) ++ [b] = (b :: B) ++ a :: (A ++ [b]) := by simp
        rw [this, pd_app]
      rw [e1, e2]
      exact List.perm_append_comm
theorem dts_two (u : Nat) (xs : List Nat) (w : Nat) (ys : List Nat) : dts (u :: xs ++ w :: ys) = pd (u :: xs ++ [w]) ++ pd (w :: ys ++ [u]) := by
  show pd (u :: (xs ++ w :: ys) ++ [u]) = _
  have : u :: (xs ++ w :: ys) ++ [u] = (u :: xs) ++ w :: (ys ++ [u]) := by simp
  rw [this, pd_app]
  rfl
/-- one more in a cycle, between two that follow each other -/
theorem dts_ins {R : List Nat} {p q z : Nat} (hR : R.Nodup) (hz : z ∉ R) (h : (p, q) ∈ dts R) : ∃ R' : List Nat, R'.Nodup ∧ (∀ x, x ∈ R' ↔ x = z ∨ x ∈ R) ∧ (p, z) ∈ dts R' ∧ (z, q) ∈ dts R' ∧ ∀ a b, (a, b) ∈ dts R → ¬ (a = p ∧ b = q) → (a, b) ∈ dts R' := by
  obtain ⟨A, B, hAB⟩ : ∃ A B, R = A ++ q :: B := List.append_of_mem (dts_mem h).2
  have hmem : ∀ x, x ∈ q :: B ++ A ↔ x ∈ R := fun x => by rw [hAB]; simp only [List.mem_append, List.mem_cons]; constructor <;> (rintro (h | h) <;> simp_all)
  have hper : (q :: B ++ A).Perm R := by rw [hAB]; exact List.perm_append_comm
  have hnd : (q :: B ++ A).Nodup := hper.nodup_iff.mpr hR
  have hd : ∀ x, x ∈ dts R ↔ x ∈ dts (q :: B ++ A) := fun x => by rw [hAB]; exact dts_rot A (q :: B) x
  generalize hC : B ++ A = C at *
  have e0 : q :: B ++ A = q :: C := by rw [← hC]; rfl
  rw [e0] at hmem hnd hd
  -- the last of q :: C is p
  obtain ⟨D, l, hDl⟩ : ∃ D l, q :: C = D ++ [l] := ⟨(q :: C).dropLast, (q :: C).getLast (by simp), (List.dropLast_concat_getLast (by simp)).symm⟩
  have e1 : dts (q :: C) = pd (q :: C) ++ [(l, q)] := by
    show pd (q :: C ++ [q]) = _
    rw [hDl, List.append_assoc, show [l] ++ [q] = l :: [q] from rfl, pd_app]
    rfl
  have hlp : l = p := dts_inj hnd (by rw [e1]; simp) ((hd _).mp h)
  subst hlp
  have e2 : dts (z :: q :: C) = (z, q) :: (pd (q :: C) ++ [(l, z)]) := by
    show pd (z :: q :: C ++ [z]) = _
    show (z, q) :: pd (q :: C ++ [z]) = _
    rw [hDl, List.append_assoc, show [l] ++ [z] = l :: [z] from rfl, pd_app]
    rfl
  refine ⟨z :: q :: C, List.nodup_cons.mpr ⟨fun hx => hz ((hmem z).mp hx), hnd⟩, fun x => by rw [List.mem_cons, hmem], by rw [e2]; simp, by rw [e2]; simp, fun a b hab hne => ?_⟩
  rw [hd, e1] at hab
  rw [e2]
  rcases List.mem_append.mp hab with h1 | h1
  · exact List.mem_cons_of_mem _ (List.mem_append_left _ h1)
  · rw [List.mem_singleton] at h1
    exact absurd ⟨congrArg Prod.fst h1, congrArg Prod.snd h1⟩ hne
/-- the order around v, as far as the faces tell it -/
def ROT (P : Nat → Nat → Bool) (faces : List (List Nat)) (v : Nat) : Prop := ∃ R : List Nat, R.Nodup ∧ (∀ x, x ∈ R ↔ P v x = true) ∧ ∀ f ∈ faces, ∀ x y, (x, v) ∈ dts f → (v, y) ∈ dts f → (x, y) ∈ dts R
def INV (H : Nat → Nat → Bool) (S : Nat → Bool) (P : Nat → Nat → Bool) (PV : Nat → Bool) (faces : List (List Nat)) (E : Nat) : Prop :=
  (∀ x y, P x y = P y x) ∧ (∀ x y, P x y = true → H x y = true ∧ PV x = true) ∧ (∀ v, PV v = true → S v = true) ∧
  (∀ f ∈ faces, f.Nodup ∧ 3 ≤ f.length ∧ ∀ v ∈ f, PV v = true) ∧ (faces.flatMap dts).Nodup ∧ (∀ x y, (x, y) ∈ faces.flatMap dts ↔ P x y = true) ∧
  (faces.flatMap dts).length = 2 * E ∧ E + 2 = cnt PV 10 + faces.length ∧ ∀ v, PV v = true → ROT P faces v
/-- with the edges of a path -/
def addP (P : Nat → Nat → Bool) (l : List Nat) : Nat → Nat → Bool := fun x y => P x y || (decide ((x, y) ∈ pd l) || decide ((y, x) ∈ pd l))
def addV (PV : Nat → Bool) (l : List Nat) : Nat → Bool := fun v => PV v || decide (v ∈ l)
theorem addP_iff {P : Nat → Nat → Bool} {l : List Nat} {x y : Nat} : addP P l x y = true ↔ P x y = true ∨ (x, y) ∈ pd l ∨ (y, x) ∈ pd l := by
  unfold addP
  simp only [Bool.or_eq_true, decide_eq_true_eq]
theorem addV_iff {PV : Nat → Bool} {l : List Nat} {v : Nat} : addV PV l v = true ↔ PV v = true ∨ v ∈ l := by
  unfold addV
  simp only [Bool.or_eq_true, decide_eq_true_eq]
theorem cnt_add1 {S : Nat → Bool} {p : Nat} : ∀ {n : Nat}, p < n → S p = false → cnt (fun v => S v || decide (v = p)) n = cnt S n + 1
  | 0, h, _ => by omega
  | n + 1, h, hp => by
    unfold cnt
    by_cases e : p = n
    · subst e
      have : cnt (fun v => S v || decide (v = p)) p = cnt S p := cnt_ext fun v hv => by
        have : ¬ v = p := by omega
        simp [this]
      rw [this, hp]
      simp
    · have ih := cnt_add1 (S := S) (n := n) (by omega) hp
      rw [ih]
      have : ¬ n = p := fun z => e z.symm
      simp only [this, decide_false, Bool.or_false]
      omega
theorem cnt_addV {PV : Nat → Bool} : ∀ {l : List Nat}, l.Nodup → (∀ v ∈ l, v < 10 ∧ PV v = false) → cnt (addV PV l) 10 = cnt PV 10 + l.length
  | [], _, _ => by
    have : cnt (addV PV []) 10 = cnt PV 10 := cnt_ext fun v _ => by simp [addV]
    rw [this]; rfl
  | p :: t, h, hl => by
    have hn := List.nodup_cons.mp h
    have ih := cnt_addV (PV := PV) hn.2 (fun v hv => hl v (List.mem_cons_of_mem _ hv))
    have hp := hl p List.mem_cons_self
    have e : cnt (addV PV (p :: t)) 10 = cnt (fun v => addV PV t v || decide (v = p)) 10 := cnt_ext fun v _ => by
      unfold addV
      simp only [List.mem_cons]
      by_cases e1 : v = p <;> by_cases e2 : v ∈ t <;> simp [e1, e2]
    rw [e, cnt_add1 hp.1 (by unfold addV; rw [hp.2]; simp [hn.1]), ih, List.length_cons]
    omega
theorem nodup_map2 {l : List xPr} {f : xPr → Nat} (h : (l.map f).Nodup) {p q : xPr} (hp : p ∈ l) (hq : q ∈ l) (e : f p = f q) : p = q := nodup_map_inj h p q hp hq e
theorem pd_fun {l : List Nat} (h : l.Nodup) {x y y' : Nat} (h1 : (x, y) ∈ pd l) (h2 : (x, y') ∈ pd l) : y = y' := by
  cases l with
  | nil => cases h1
  | cons a t => exact congrArg Prod.snd (nodup_map2 (f := Prod.fst) (by rw [pd_fst]; exact h.sublist (List.dropLast_sublist _)) h1 h2 rfl)
theorem pd_inj {l : List Nat} (h : l.Nodup) {x x' y : Nat} (h1 : (x, y) ∈ pd l) (h2 : (x', y) ∈ pd l) : x = x' := by
  cases l with
  | nil => cases h1
  | cons a t => exact congrArg Prod.fst (nodup_map2 (f := Prod.snd) (by rw [pd_snd]; exact (List.nodup_cons.mp h).2) h1 h2 rfl)
theorem snoc_ex (a : Nat) (t : List Nat) : ∃ D l, a :: t = D ++ [l] := ⟨(a :: t).dropLast, (a :: t).getLast (by simp), (List.dropLast_concat_getLast (by simp)).symm⟩
theorem cons_ex (t : List Nat) (z : Nat) : ∃ a D, t ++ [z] = a :: D := by
  cases t with
  | nil => exact ⟨z, [], rfl⟩
  | cons a t => exact ⟨a, t ++ [z], rfl⟩
theorem pd_head {u a : Nat} {t D : List Nat} {z : Nat} (h : t ++ [z] = a :: D) : (u, a) ∈ pd (u :: t ++ [z]) := by
  show (u, a) ∈ pd (u :: (t ++ [z]))
  rw [h]
  exact List.mem_cons_self
theorem pd_last {u l : Nat} {t D : List Nat} {z : Nat} (h : u :: t = D ++ [l]) : (l, z) ∈ pd (u :: t ++ [z]) := by
  rw [h, List.append_assoc, show [l] ++ [z] = l :: [z] from rfl, pd_app]
  exact List.mem_append_right _ List.mem_cons_self
theorem pd_no2 {u : Nat} {t : List Nat} (h : (u :: t).Nodup) {x : Nat} : (x, u) ∉ pd (u :: t) := by
  intro h1
  have h2 : u ∈ (pd (u :: t)).map Prod.snd := List.mem_map.mpr ⟨_, h1, rfl⟩
  rw [pd_snd] at h2
  exact (List.nodup_cons.mp h).1 h2
theorem pd_no1 {w : Nat} {t : List Nat} (h : (t ++ [w]).Nodup) {x : Nat} : (w, x) ∉ pd (t ++ [w]) := by
  intro h1
  have h2 := (pd_rev (t ++ [w]) (x, w)).mpr h1
  have e : (t ++ [w]).reverse = w :: t.reverse := by simp
  rw [e] at h2
  refine pd_no2 ?_ h2
  rw [← e]
  exact (List.reverse_perm _).nodup_iff.mpr h
/-- a face is split -/
theorem INV_step {H : Nat → Nat → Bool} {S : Nat → Bool} {P : Nat → Nat → Bool} {PV : Nat → Bool} {L1 L2 : List (List Nat)} {A B xs ys ps : List Nat} {u w E : Nat} (hH : ∀ x y, H x y = H y x)
    (hI : INV H S P PV (L1 ++ (A ++ B) :: L2) E) (hAB : B ++ A = u :: xs ++ w :: ys) (hps : ps.Nodup) (hpv : ∀ p ∈ ps, p < 10 ∧ PV p = false ∧ S p = true) (hpe : ∀ q ∈ pd (u :: ps ++ [w]), H q.1 q.2 = true ∧ P q.1 q.2 = false) :
    INV H S (addP P (u :: ps ++ [w])) (addV PV ps) (L1 ++ (u :: xs ++ w :: ps.reverse) :: L2 ++ [w :: ys ++ u :: ps]) (E + ps.length + 1) := by
  obtain ⟨i1, i2, i3, i4, i5, i6, i7, i8, i9⟩ := hI
  have hl0 := i4 (A ++ B) (List.mem_append_right _ List.mem_cons_self)
  have hper0 : (B ++ A).Perm (A ++ B) := List.perm_append_comm
  have hnd : (u :: xs ++ w :: ys).Nodup := by rw [← hAB]; exact hper0.nodup_iff.mpr hl0.1
  have hpl : ∀ v ∈ u :: xs ++ w :: ys, PV v = true := fun v hv => hl0.2.2 v (hper0.mem_iff.mp (by rw [hAB]; exact hv))
  have hu : PV u = true := hpl u (by simp)
  have hw : PV w = true := hpl w (by simp)
  have nps : ∀ v, PV v = true → v ∉ ps := fun v hv hm => by have := (hpv v hm).2.1; rw [hv] at this; cases this
  have huw : u ≠ w := by
    intro e
    have := (List.nodup_cons.mp hnd).1
    exact this (by rw [e]; simp)
  -- the path is without repetition
  have hpath : (u :: ps ++ [w]).Nodup := by
    have h1 : (u :: ps).Nodup := List.nodup_cons.mpr ⟨nps u hu, hps⟩
    refine List.nodup_append.mpr ⟨h1, List.nodup_cons.mpr ⟨List.not_mem_nil, List.nodup_nil⟩, fun a ha b hb e => ?_⟩
    rw [List.mem_singleton] at hb
    subst hb
    subst e
    rcases List.mem_cons.mp ha with e | e
    · exact huw e.symm
    · exact nps a hw e
  have hd0 : (dts (A ++ B)).Perm (pd (u :: xs ++ [w]) ++ pd (w :: ys ++ [u])) := by
    rw [← dts_two, ← hAB]
    exact dts_perm A B
  have hrev : (u :: ps ++ [w]).reverse = w :: ps.reverse ++ [u] := by simp
  have e1 : dts (u :: xs ++ w :: ps.reverse) = pd (u :: xs ++ [w]) ++ pd (w :: ps.reverse ++ [u]) := dts_two u xs w ps.reverse
  have e2 : dts (w :: ys ++ u :: ps) = pd (w :: ys ++ [u]) ++ pd (u :: ps ++ [w]) := dts_two w ys u ps
  have hperm : ((L1 ++ (u :: xs ++ w :: ps.reverse) :: L2 ++ [w :: ys ++ u :: ps]).flatMap dts).Perm ((L1 ++ (A ++ B) :: L2).flatMap dts ++ (pd (u :: ps ++ [w]) ++ pd (u :: ps ++ [w]).reverse)) := by
    rw [hrev]
    refine List.perm_iff_count.mpr (fun a => ?_)
    have := hd0.count_eq a
    simp only [List.flatMap_append, List.flatMap_cons, List.flatMap_nil, List.append_nil, List.count_append, e1, e2] at this ⊢
    omega
  have hnew : (pd (u :: ps ++ [w]) ++ pd (u :: ps ++ [w]).reverse).Nodup := by
    refine List.nodup_append.mpr ⟨pd_nodup hpath, pd_nodup ((List.reverse_perm _).nodup_iff.mpr hpath), fun a ha b hb e => ?_⟩
    subst e
    rw [pd_rev] at hb
    exact pd_asym hpath ha hb
  have hsymP : ∀ x y, addP P (u :: ps ++ [w]) x y = addP P (u :: ps ++ [w]) y x := fun x y => by
    unfold addP
    rw [i1 x y, Bool.or_comm (decide ((x, y) ∈ _))]
  have hDTn : ((L1 ++ (u :: xs ++ w :: ps.reverse) :: L2 ++ [w :: ys ++ u :: ps]).flatMap dts).Nodup := by
    rw [hperm.nodup_iff]
    refine List.nodup_append.mpr ⟨i5, hnew, fun a ha b hb e => ?_⟩
    subst e
    have hP := (i6 a.1 a.2).mp ha
    rcases List.mem_append.mp hb with q | q
    · have := (hpe a q).2
      rw [hP] at this
      cases this
    · rw [pd_rev] at q
      have := (hpe _ q).2
      rw [i1] at hP
      rw [hP] at this
      cases this
  have hmemP : ∀ x y, (x, y) ∈ (L1 ++ (u :: xs ++ w :: ps.reverse) :: L2 ++ [w :: ys ++ u :: ps]).flatMap dts ↔ addP P (u :: ps ++ [w]) x y = true := by
    intro x y
    rw [hperm.mem_iff, List.mem_append, List.mem_append, i6, pd_rev, addP_iff]
  have hin : ∀ v ∈ u :: ps ++ [w], addV PV ps v = true := fun v hv => by
    rw [addV_iff]
    simp only [List.cons_append, List.mem_cons, List.mem_append, List.not_mem_nil, or_false] at hv
    rcases hv with rfl | hv | rfl
    · exact Or.inl hu
    · exact Or.inr hv
    · exact Or.inl hw
  have nF1 : (u :: xs ++ w :: ps.reverse).Nodup := by
    have hs : (u :: xs ++ [w]).Nodup := hnd.sublist (List.Sublist.append_left (by simp) _)
    have e : u :: xs ++ w :: ps.reverse = (u :: xs ++ [w]) ++ ps.reverse := by simp
    rw [e]
    refine List.nodup_append.mpr ⟨hs, (List.reverse_perm _).nodup_iff.mpr hps, fun a ha b hb e => ?_⟩
    subst e
    rw [List.mem_reverse] at hb
    exact nps a (hpl a (by simp only [List.cons_append, List.mem_cons, List.mem_append, List.not_mem_nil, or_false] at ha ⊢; rcases ha with h | h | h <;> simp [h])) hb
  have nF2 : (w :: ys ++ u :: ps).Nodup := by
    have hp2 : (w :: ys ++ [u]).Nodup := by
      have : (w :: ys ++ u :: xs).Nodup := (List.perm_append_comm (l₁ := w :: ys) (l₂ := u :: xs)).nodup_iff.mpr hnd
      exact this.sublist (List.Sublist.append_left (by simp) _)
    have e : w :: ys ++ u :: ps = (w :: ys ++ [u]) ++ ps := by simp
    rw [e]
    refine List.nodup_append.mpr ⟨hp2, hps, fun a ha b hb e => ?_⟩
    subst e
    exact nps a (hpl a (by simp only [List.cons_append, List.mem_cons, List.mem_append, List.not_mem_nil, or_false] at ha ⊢; rcases ha with h | h | h <;> simp [h])) hb
  -- a chord doesn't join what follows each other already
  have nch : ps = [] → xs ≠ [] ∧ ys ≠ [] := by
    intro e
    subst e
    have hP : P u w = false := (hpe (u, w) (by simp [pd])).2
    have hin0 : ∀ p, p ∈ pd (u :: xs ++ [w]) ++ pd (w :: ys ++ [u]) → P p.1 p.2 = true := fun p hp => (i6 p.1 p.2).mp (List.mem_flatMap.mpr ⟨A ++ B, List.mem_append_right _ List.mem_cons_self, hd0.mem_iff.mpr hp⟩)
    constructor
    · rintro rfl
      have := hin0 (u, w) (by simp [pd])
      rw [hP] at this
      cases this
    · rintro rfl
      have := hin0 (w, u) (by simp [pd])
      rw [i1, hP] at this
      cases this
  refine ⟨hsymP, fun x y hxy => ?_, fun v hv => ?_, fun f hf => ?_, hDTn, hmemP, ?_, ?_, fun v hv => ?_⟩
  · rcases addP_iff.mp hxy with h | h | h
    · exact ⟨(i2 x y h).1, addV_iff.mpr (Or.inl (i2 x y h).2)⟩
    · exact ⟨(hpe _ h).1, hin x (pd_mem h).1⟩
    · exact ⟨by rw [hH]; exact (hpe _ h).1, hin x (pd_mem h).2⟩
  · rcases addV_iff.mp hv with h | h
    · exact i3 v h
    · exact (hpv v h).2.2
  · have hold : ∀ f ∈ L1 ++ (A ++ B) :: L2, f.Nodup ∧ 3 ≤ f.length ∧ ∀ v ∈ f, addV PV ps v = true := fun f hf => ⟨(i4 f hf).1, (i4 f hf).2.1, fun v hv => addV_iff.mpr (Or.inl ((i4 f hf).2.2 v hv))⟩
    simp only [List.mem_append, List.mem_cons, List.not_mem_nil, or_false] at hf
    rcases hf with (hf | rfl | hf) | rfl
    · exact hold f (List.mem_append_left _ hf)
    · refine ⟨nF1, ?_, fun v hv => ?_⟩
      · simp only [List.length_append, List.length_cons, List.length_reverse]
        by_cases e : ps = []
        · have := List.length_pos_iff.mpr (nch e).1
          omega
        · have := List.length_pos_iff.mpr e
          omega
      · rw [addV_iff]
        simp only [List.cons_append, List.mem_cons, List.mem_append, List.mem_reverse] at hv
        rcases hv with h | h | h | h
        · exact Or.inl (h ▸ hu)
        · exact Or.inl (hpl v (by simp [h]))
        · exact Or.inl (h ▸ hw)
        · exact Or.inr h
    · exact hold f (List.mem_append_right _ (List.mem_cons_of_mem _ hf))
    · refine ⟨nF2, ?_, fun v hv => ?_⟩
      · simp only [List.length_append, List.length_cons]
        by_cases e : ps = []
        · have := List.length_pos_iff.mpr (nch e).2
          omega
        · have := List.length_pos_iff.mpr e
          omega
      · rw [addV_iff]
        simp only [List.cons_append, List.mem_cons, List.mem_append] at hv
        rcases hv with h | h | h | h
        · exact Or.inl (h ▸ hw)
        · exact Or.inl (hpl v (by simp [h]))
        · exact Or.inl (h ▸ hu)
        · exact Or.inr h
  · rw [hperm.length_eq, List.length_append, i7, List.length_append]
    have a1 : (pd (u :: ps ++ [w])).length = ps.length + 1 := by
      show (pd (u :: (ps ++ [w]))).length = _
      rw [pd_len]; simp
    have a2 : (pd (u :: ps ++ [w]).reverse).length = ps.length + 1 := by
      rw [hrev]
      show (pd (w :: (ps.reverse ++ [u]))).length = _
      rw [pd_len]; simp
    rw [a1, a2]
    omega
  · rw [cnt_addV hps (fun v hv => ⟨(hpv v hv).1, (hpv v hv).2.1⟩)]
    simp only [List.length_append, List.length_cons, List.length_nil] at i8 ⊢
    omega
  · have q1 : ∀ q, q ∈ pd (u :: xs ++ [w]) → q ∈ dts (A ++ B) := fun q h => hd0.mem_iff.mpr (List.mem_append_left _ h)
    have q2 : ∀ q, q ∈ pd (w :: ys ++ [u]) → q ∈ dts (A ++ B) := fun q h => hd0.mem_iff.mpr (List.mem_append_right _ h)
    have r1 : ∀ q, q ∈ pd (u :: xs ++ [w]) → q ∈ dts (u :: xs ++ w :: ps.reverse) := fun q h => by rw [e1]; exact List.mem_append_left _ h
    have r2 : ∀ x y, (y, x) ∈ pd (u :: ps ++ [w]) → (x, y) ∈ dts (u :: xs ++ w :: ps.reverse) := fun x y h => by
      rw [e1, ← hrev]
      exact List.mem_append_right _ ((pd_rev _ (x, y)).mpr h)
    have r3 : ∀ q, q ∈ pd (w :: ys ++ [u]) → q ∈ dts (w :: ys ++ u :: ps) := fun q h => by rw [e2]; exact List.mem_append_left _ h
    have r4 : ∀ q, q ∈ pd (u :: ps ++ [w]) → q ∈ dts (w :: ys ++ u :: ps) := fun q h => by rw [e2]; exact List.mem_append_right _ h
    have memA : (A ++ B) ∈ L1 ++ (A ++ B) :: L2 := List.mem_append_right _ List.mem_cons_self
    have hdis : ∀ f, f ∈ L1 ∨ f ∈ L2 → ∀ q ∈ dts f, q ∉ dts (A ++ B) := by
      intro f hf q hq hq2
      have h5 := i5
      rw [List.flatMap_append, List.flatMap_cons] at h5
      obtain ⟨_, n2, n3⟩ := List.nodup_append.mp h5
      obtain ⟨_, _, n4⟩ := List.nodup_append.mp n2
      rcases hf with hf | hf
      · exact n3 q (List.mem_flatMap.mpr ⟨f, hf, hq⟩) q (List.mem_append_left _ hq2) rfl
      · exact n4 q hq2 q (List.mem_flatMap.mpr ⟨f, hf, hq⟩) rfl
    have holdf : ∀ f, f ∈ L1 ∨ f ∈ L2 → f ∈ L1 ++ (A ++ B) :: L2 := fun f hf => by
      rcases hf with hf | hf
      · exact List.mem_append_left _ hf
      · exact List.mem_append_right _ (List.mem_cons_of_mem _ hf)
    have hsplit : ∀ f ∈ L1 ++ (u :: xs ++ w :: ps.reverse) :: L2 ++ [w :: ys ++ u :: ps], (f ∈ L1 ∨ f ∈ L2) ∨ f = u :: xs ++ w :: ps.reverse ∨ f = w :: ys ++ u :: ps := fun f hf => by
      simp only [List.mem_append, List.mem_cons, List.not_mem_nil, or_false] at hf
      rcases hf with (hf | hf | hf) | hf
      · exact Or.inl (Or.inl hf)
      · exact Or.inr (Or.inl hf)
      · exact Or.inl (Or.inr hf)
      · exact Or.inr (Or.inr hf)
    obtain ⟨x1, X1, hx1⟩ := cons_ex xs w
    obtain ⟨Xl, xl, hxl⟩ := snoc_ex u xs
    obtain ⟨y1, Y1, hy1⟩ := cons_ex ys u
    obtain ⟨Yl, yl, hyl⟩ := snoc_ex w ys
    obtain ⟨a1, A1, ha1⟩ := cons_ex ps w
    obtain ⟨Al, ak, hak⟩ := snoc_ex u ps
    have du := pd_head (u := u) hx1
    have dxw := pd_last (z := w) hxl
    have dw := pd_head (u := w) hy1
    have dyu := pd_last (z := u) hyl
    have dua := pd_head (u := u) ha1
    have daw := pd_last (z := w) hak
    have hpath2 : (u :: (ps ++ [w])).Nodup := hpath
    by_cases evu : v = u
    · subst evu
      obtain ⟨R, hR1, hR2, hR3⟩ := i9 v hu
      have hz : a1 ∉ R := fun z => by
        have h1 := (hR2 a1).mp z
        rw [(hpe _ dua).2] at h1
        cases h1
      obtain ⟨R', g1, g2, g3, g4, g5⟩ := dts_ins hR1 hz (hR3 _ memA yl x1 (q2 _ dyu) (q1 _ du))
      refine ⟨R', g1, fun x => ?_, fun f hf x y h1 h2 => ?_⟩
      · rw [g2, hR2, addP_iff]
        constructor
        · rintro (h | h)
          · exact Or.inr (Or.inl (h ▸ dua))
          · exact Or.inl h
        · rintro (h | h | h)
          · exact Or.inr h
          · exact Or.inl (pd_fun hpath h dua)
          · exact absurd h (pd_no2 hpath2)
      · rcases hsplit f hf with hf | rfl | rfl
        · refine g5 x y (hR3 f (holdf f hf) x y h1 h2) (fun z => ?_)
          rw [z.1] at h1
          exact hdis f hf _ h1 (q2 _ dyu)
        · rw [dts_inj nF1 h1 (r2 _ _ dua), dts_fun nF1 h2 (r1 _ du)]
          exact g4
        · rw [dts_inj nF2 h1 (r3 _ dyu), dts_fun nF2 h2 (r4 _ dua)]
          exact g3
    · by_cases evw : v = w
      · subst evw
        obtain ⟨R, hR1, hR2, hR3⟩ := i9 v hw
        have hz : ak ∉ R := fun z => by
          have h1 := (hR2 ak).mp z
          rw [i1, (hpe _ daw).2] at h1
          cases h1
        obtain ⟨R', g1, g2, g3, g4, g5⟩ := dts_ins hR1 hz (hR3 _ memA xl y1 (q1 _ dxw) (q2 _ dw))
        refine ⟨R', g1, fun x => ?_, fun f hf x y h1 h2 => ?_⟩
        · rw [g2, hR2, addP_iff]
          constructor
          · rintro (h | h)
            · exact Or.inr (Or.inr (h ▸ daw))
            · exact Or.inl h
          · rintro (h | h | h)
            · exact Or.inr h
            · exact absurd h (pd_no1 hpath)
            · exact Or.inl (pd_inj hpath h daw)
        · rcases hsplit f hf with hf | rfl | rfl
          · refine g5 x y (hR3 f (holdf f hf) x y h1 h2) (fun z => ?_)
            rw [z.1] at h1
            exact hdis f hf _ h1 (q1 _ dxw)
          · rw [dts_inj nF1 h1 (r1 _ dxw), dts_fun nF1 h2 (r2 _ _ daw)]
            exact g3
          · rw [dts_inj nF2 h1 (r4 _ daw), dts_fun nF2 h2 (r3 _ dw)]
            exact g4
      · by_cases evp : v ∈ ps
        · obtain ⟨C, D, hCD⟩ := List.append_of_mem evp
          obtain ⟨Cl', pv, hpv1⟩ := snoc_ex u C
          obtain ⟨nx, Dn, hnx⟩ := cons_ex D w
          have ep : u :: ps ++ [w] = (u :: C) ++ v :: (D ++ [w]) := by rw [hCD]; simp
          have d1 : (pv, v) ∈ pd (u :: ps ++ [w]) := by
            rw [ep, pd_app]
            exact List.mem_append_left _ (pd_last hpv1)
          have d2 : (v, nx) ∈ pd (u :: ps ++ [w]) := by
            rw [ep, pd_app]
            exact List.mem_append_right _ (pd_head hnx)
          have hne : pv ≠ nx := fun e => pd_asym hpath d1 (e ▸ d2)
          have hPv : ∀ x, P v x = false := fun x => by
            cases h : P v x with
            | false => rfl
            | true =>
              have := (i2 v x h).2
              rw [(hpv v evp).2.1] at this
              cases this
          refine ⟨[pv, nx], List.nodup_cons.mpr ⟨by simp [hne], List.nodup_cons.mpr ⟨List.not_mem_nil, List.nodup_nil⟩⟩, fun x => ?_, fun f hf x y h1 h2 => ?_⟩
          · rw [addP_iff, hPv]
            simp only [List.mem_cons, List.not_mem_nil, or_false]
            constructor
            · rintro (h | h)
              · exact Or.inr (Or.inr (h ▸ d1))
              · exact Or.inr (Or.inl (h ▸ d2))
            · rintro (h | h | h)
              · cases h
              · exact Or.inr (pd_fun hpath h d2)
              · exact Or.inl (pd_inj hpath h d1)
          · rcases hsplit f hf with hf | rfl | rfl
            · have := (i4 f (holdf f hf)).2.2 v (dts_mem h1).2
              rw [(hpv v evp).2.1] at this
              cases this
            · rw [dts_inj nF1 h1 (r2 _ _ d2), dts_fun nF1 h2 (r2 _ _ d1)]
              simp [dts, pd]
            · rw [dts_inj nF2 h1 (r4 _ d1), dts_fun nF2 h2 (r4 _ d2)]
              simp [dts, pd]
        · have hPV : PV v = true := by
            rcases addV_iff.mp hv with h | h
            · exact h
            · exact absurd h evp
          have nin : v ∉ u :: ps ++ [w] := by
            simp only [List.cons_append, List.mem_cons, List.mem_append, List.not_mem_nil, or_false]
            rintro (h | h | h)
            · exact evu h
            · exact evp h
            · exact evw h
          have nin2 : v ∉ w :: ps.reverse ++ [u] := by
            rw [← hrev, List.mem_reverse]
            exact nin
          obtain ⟨R, hR1, hR2, hR3⟩ := i9 v hPV
          refine ⟨R, hR1, fun x => ?_, fun f hf x y h1 h2 => ?_⟩
          · rw [hR2, addP_iff]
            constructor
            · exact Or.inl
            · rintro (h | h | h)
              · exact h
              · exact absurd (pd_mem h).1 nin
              · exact absurd (pd_mem h).2 nin
          · rcases hsplit f hf with hf | rfl | rfl
            · exact hR3 f (holdf f hf) x y h1 h2
            · rw [e1] at h1 h2
              refine hR3 _ memA x y ?_ ?_
              · rcases List.mem_append.mp h1 with h | h
                · exact q1 _ h
                · exact absurd (pd_mem h).2 nin2
              · rcases List.mem_append.mp h2 with h | h
                · exact q1 _ h
                · exact absurd (pd_mem h).1 nin2
            · rw [e2] at h1 h2
              refine hR3 _ memA x y ?_ ?_
              · rcases List.mem_append.mp h1 with h | h
                · exact q2 _ h
                · exact absurd (pd_mem h).2 nin
              · rcases List.mem_append.mp h2 with h | h
                · exact q2 _ h
                · exact absurd (pd_mem h).1 nin
