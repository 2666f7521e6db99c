/-! families of cycles of a function -/
def FAM (f : Nat → Nat) (S : Nat → Bool) (fs : List (List Nat)) : Prop := (∀ c ∈ fs, c ≠ []) ∧ fs.flatten.Nodup ∧ (∀ d, d ∈ fs.flatten ↔ S d = true) ∧ ∀ c ∈ fs, ∀ q ∈ dts c, f q.1 = q.2
theorem pd_allP {P : Nat → Prop} : ∀ (l : List Nat) (x : Nat), (∀ q ∈ pd (x :: l), P q.1 → P q.2) → P x → ∀ y ∈ x :: l, P y
  | [], x, _, hx, y, hy => by
    rw [List.mem_singleton] at hy
    rw [hy]
    exact hx
  | z :: t, x, h, hx, y, hy => by
    rcases List.mem_cons.mp hy with e | e
    · rw [e]; exact hx
    · exact pd_allP t z (fun q hq => h q (List.mem_cons_of_mem _ hq)) (h (x, z) List.mem_cons_self hx) y e
theorem cyc_allP {P : Nat → Prop} {c : List Nat} (h : ∀ q ∈ dts c, P q.1 → P q.2) {x : Nat} (hx : x ∈ c) (hP : P x) : ∀ y ∈ c, P y := by
  obtain ⟨A, B, e⟩ := List.append_of_mem hx
  subst e
  intro y hy
  refine pd_allP (P := P) (B ++ A ++ [x]) x (fun q hq => h q ?_) hP y ?_
  · exact (dts_rot A (x :: B) q).mpr hq
  · simp only [List.mem_append, List.mem_cons, List.not_mem_nil, or_false] at hy ⊢
    rcases hy with h | h | h
    · exact Or.inr (Or.inl (Or.inr h))
    · exact Or.inl h
    · exact Or.inr (Or.inl (Or.inl h))
theorem flat_uniq {fs : List (List Nat)} (hn : fs.flatten.Nodup) {i j : Nat} {c d : List Nat} (hi : fs[i]? = some c) (hj : fs[j]? = some d) {x : Nat} (hc : x ∈ c) (hd : x ∈ d) : i = j := by
  have h := (List.pairwise_flatten.mp hn).2
  obtain ⟨hi1, hi2⟩ := List.getElem?_eq_some_iff.mp hi
  obtain ⟨hj1, hj2⟩ := List.getElem?_eq_some_iff.mp hj
  rw [List.pairwise_iff_getElem] at h
  rcases Nat.lt_trichotomy i j with e | e | e
  · exact absurd rfl (h i j hi1 hj1 e x (by rw [hi2]; exact hc) x (by rw [hj2]; exact hd))
  · exact e
  · exact absurd rfl (h j i hj1 hi1 e x (by rw [hj2]; exact hd) x (by rw [hi2]; exact hc))
theorem flat_uniq2 {fs : List (List Nat)} (hn : fs.flatten.Nodup) {c d : List Nat} (hi : c ∈ fs) (hj : d ∈ fs) {x : Nat} (hc : x ∈ c) (hd : x ∈ d) : c = d := by
  obtain ⟨i, hi⟩ := List.getElem?_of_mem hi
  obtain ⟨j, hj⟩ := List.getElem?_of_mem hj
  have e := flat_uniq hn hi hj hc hd
  subst e
  rw [hi] at hj
  exact Option.some.inj hj
section
variable {f : Nat → Nat} {S : Nat → Bool} {fs gs : List (List Nat)}
theorem FAM_in (h : FAM f S fs) {c : List Nat} (hc : c ∈ fs) {d : Nat} (hd : d ∈ c) : f d ∈ c := by
  obtain ⟨y, hy⟩ := dts_ex hd
  have := h.2.2.2 c hc _ hy
  rw [this]
  exact (dts_mem hy).2
theorem FAM_nodup (h : FAM f S fs) {c : List Nat} (hc : c ∈ fs) : c.Nodup := (List.pairwise_flatten.mp h.2.1).1 c hc
theorem FAM_of (h : FAM f S fs) {d : Nat} (hd : S d = true) : ∃ c ∈ fs, d ∈ c := by
  have := (h.2.2.1 d).mpr hd
  obtain ⟨c, h1, h2⟩ := List.mem_flatten.mp this
  exact ⟨c, h1, h2⟩
theorem FAM_S (h : FAM f S fs) {c : List Nat} (hc : c ∈ fs) {d : Nat} (hd : d ∈ c) : S d = true := (h.2.2.1 d).mp (List.mem_flatten.mpr ⟨c, hc, hd⟩)
theorem FAM_inj (h : FAM f S fs) {d e : Nat} (hd : S d = true) (he : S e = true) (hf : f d = f e) : d = e := by
  obtain ⟨c, c1, c2⟩ := FAM_of h hd
  obtain ⟨c', d1, d2⟩ := FAM_of h he
  have h1 := FAM_in h c1 c2
  have h2 := FAM_in h d1 d2
  rw [← hf] at h2
  have := flat_uniq2 h.2.1 c1 d1 h1 h2
  subst this
  obtain ⟨y, hy⟩ := dts_ex c2
  obtain ⟨z, hz⟩ := dts_ex d2
  have e1 := h.2.2.2 c c1 _ hy
  have e2 := h.2.2.2 c c1 _ hz
  dsimp only at e1 e2
  rw [← e1] at hy
  rw [← e2, ← hf] at hz
  exact dts_inj (FAM_nodup h c1) hy hz
/-- a set that the function keeps: with a cycle's one dart it has the ones behind and before -/
theorem FAM_back (h : FAM f S fs) {P : Nat → Prop} (hP : ∀ d, S d = true → P d → P (f d)) {d : Nat} (hd : S d = true) (hf : P (f d)) : P d := by
  obtain ⟨c, c1, c2⟩ := FAM_of h hd
  exact cyc_allP (P := P) (c := c) (fun q hq hp => by
    rw [← h.2.2.2 c c1 q hq]
    exact hP _ (FAM_S h c1 (dts_mem hq).1) hp) (FAM_in h c1 c2) hf d c2
theorem FAM_len (h : FAM f S fs) (h' : FAM f S gs) : fs.length ≤ gs.length := by
  have hex : ∀ k, ∃ j, k < fs.length → j < gs.length ∧ ∃ c c' x, fs[k]? = some c ∧ gs[j]? = some c' ∧ x ∈ c ∧ x ∈ c' := by
    intro k
    by_cases hk : k < fs.length
    · have e := List.getElem?_eq_getElem hk
      have hm : fs[k] ∈ fs := List.getElem_mem hk
      have hne := h.1 _ hm
      generalize fs[k] = c at e hm hne
      obtain ⟨x, hx⟩ := List.exists_mem_of_ne_nil c hne
      obtain ⟨c', d1, d2⟩ := FAM_of h' (FAM_S h hm hx)
      obtain ⟨j, hj⟩ := List.getElem?_of_mem d1
      exact ⟨j, fun _ => ⟨(List.getElem?_eq_some_iff.mp hj).1, c, c', x, e, hj, hx, d2⟩⟩
    · exact ⟨0, fun h => absurd h hk⟩
  obtain ⟨g, hg⟩ := Classical.axiomOfChoice hex
  refine pigeon (f := g) (fun k hk => (hg k hk).1) (fun k l hk hl e => ?_)
  obtain ⟨_, c, c', x, a1, a2, a3, a4⟩ := hg k hk
  obtain ⟨_, d, d', y, b1, b2, b3, b4⟩ := hg l hl
  rw [← e, a2] at b2
  have e2 := Option.some.inj b2
  subst e2
  have hc := List.mem_of_getElem? a1
  have hc' := List.mem_of_getElem? a2
  refine flat_uniq h.2.1 a1 b1 (cyc_allP (P := fun z => z ∈ c) (fun q hq hp => ?_) a4 a3 y b4) b3
  rw [← h'.2.2.2 _ hc' q hq]
  exact FAM_in h hc hp
theorem FAM_perm (hp : fs.Perm gs) (h : FAM f S fs) : FAM f S gs := by
  obtain ⟨h1, h2, h3, h4⟩ := h
  have hf := hp.flatten
  exact ⟨fun c hc => h1 c (hp.mem_iff.mpr hc), hf.nodup_iff.mp h2, fun d => by rw [← h3, hf.mem_iff], fun c hc => h4 c (hp.mem_iff.mpr hc)⟩
theorem FAM_rot {A B : List Nat} (h : FAM f S ((A ++ B) :: fs)) : FAM f S ((B ++ A) :: fs) := by
  obtain ⟨h1, h2, h3, h4⟩ := h
  have hp : (A ++ B ++ fs.flatten).Perm (B ++ A ++ fs.flatten) := List.Perm.append_right _ List.perm_append_comm
  refine ⟨fun c hc => ?_, ?_, fun d => ?_, fun c hc q hq => ?_⟩
  · rcases List.mem_cons.mp hc with e | e
    · have := h1 (A ++ B) List.mem_cons_self
      rw [e]
      intro z
      rw [List.append_eq_nil_iff] at z
      exact this (by rw [z.1, z.2]; rfl)
    · exact h1 c (List.mem_cons_of_mem _ e)
  · rw [List.flatten_cons] at h2 ⊢
    exact hp.nodup_iff.mp h2
  · rw [← h3, List.flatten_cons, List.flatten_cons, hp.mem_iff]
  · rcases List.mem_cons.mp hc with e | e
    · rw [e] at hq
      exact h4 (A ++ B) List.mem_cons_self q ((dts_rot A B q).mpr hq)
    · exact h4 c (List.mem_cons_of_mem _ e) q hq
theorem FAM_congr {f' : Nat → Nat} {S' : Nat → Bool} (hf : ∀ d, S d = true → f' d = f d) (hS : ∀ d, S' d = true ↔ S d = true) (h : FAM f S fs) : FAM f' S' fs := by
  have hm : ∀ c ∈ fs, ∀ d ∈ c, S d = true := fun c hc d hd => FAM_S h hc hd
  obtain ⟨h1, h2, h3, h4⟩ := h
  exact ⟨h1, h2, fun d => by rw [h3, hS], fun c hc q hq => by rw [hf _ (hm c hc _ (dts_mem hq).1)]; exact h4 c hc q hq⟩
theorem FAM_add {T U : Nat → Bool} (h : FAM f S fs) (h' : FAM f T gs) (hST : ∀ d, S d = true → T d = true → False) (hU : ∀ d, U d = true ↔ S d = true ∨ T d = true) : FAM f U (fs ++ gs) := by
  obtain ⟨h1, h2, h3, h4⟩ := h
  obtain ⟨g1, g2, g3, g4⟩ := h'
  refine ⟨fun c hc => ?_, ?_, fun d => ?_, fun c hc => ?_⟩
  · rcases List.mem_append.mp hc with e | e
    · exact h1 c e
    · exact g1 c e
  · rw [List.flatten_append]
    refine List.nodup_append.mpr ⟨h2, g2, fun a ha b hb e => ?_⟩
    subst e
    exact hST a ((h3 a).mp ha) ((g3 a).mp hb)
  · rw [List.flatten_append, List.mem_append, h3, g3, hU]
  · rcases List.mem_append.mp hc with e | e
    · exact h4 c e
    · exact g4 c e
end
/-- two cycles, one behind the other -/
theorem dts_end {X : List Nat} {a u : Nat} {us : List Nat} (h : X ++ [a] = u :: us) : dts (X ++ [a]) = pd (X ++ [a]) ++ [(a, u)] := by
  rw [h]
  show pd (u :: us ++ [u]) = _
  rw [← h, List.append_assoc]
  exact pd_app X a [u]
theorem dts_cat {X Y : List Nat} {a b u w : Nat} {us ws : List Nat} (h1 : X ++ [a] = u :: us) (h2 : Y ++ [b] = w :: ws) : dts (X ++ [a] ++ (Y ++ [b])) = (pd (X ++ [a]) ++ [(a, w)]) ++ (pd (Y ++ [b]) ++ [(b, u)]) := by
  rw [h1, h2, dts_two, ← h1, ← h2, List.append_assoc X [a] [w], List.append_assoc Y [b] [u]]
  show pd (X ++ a :: [w]) ++ pd (Y ++ b :: [u]) = _
  rw [pd_app X a [w], pd_app Y b [u]]
  rfl
theorem snoc_head (X : List Nat) (a : Nat) : ∃ u us, X ++ [a] = u :: us := by
  cases X with
  | nil => exact ⟨a, [], rfl⟩
  | cons u t => exact ⟨u, t ++ [a], rfl⟩
theorem FAM_merge {f f' : Nat → Nat} {S : Nat → Bool} {fs : List (List Nat)} (h : FAM f S fs) {a b : Nat} (ha : S a = true) (hb : S b = true) (hno : ∀ c ∈ fs, a ∈ c → b ∈ c → False) (h1 : f' a = f b) (h2 : f' b = f a) (h3 : ∀ d, S d = true → d ≠ a → d ≠ b → f' d = f d) : ∃ gs, FAM f' S gs ∧ gs.length + 1 = fs.length := by
  obtain ⟨c1, m1, k1⟩ := FAM_of h ha
  obtain ⟨c2, m2, k2⟩ := FAM_of h hb
  have hne : c1 ≠ c2 := fun e => hno c1 m1 k1 (by rw [e]; exact k2)
  have p1 := List.perm_cons_erase m1
  have m2' : c2 ∈ fs.erase c1 := (List.mem_erase_of_ne (Ne.symm hne)).mpr m2
  have p2 := List.perm_cons_erase m2'
  have hl := p1.length_eq
  have hl2 := p2.length_eq
  have hF1 := FAM_perm (p1.trans (List.Perm.cons c1 p2)) h
  generalize (fs.erase c1).erase c2 = rs at *
  obtain ⟨A, B, e1⟩ := List.append_of_mem k1
  obtain ⟨A2, B2, e2⟩ := List.append_of_mem k2
  subst e1 e2
  have hF2 : FAM f S ((B ++ A ++ [a]) :: (A2 ++ b :: B2) :: rs) := by
    have := FAM_rot (A := A ++ [a]) (B := B) (f := f) (S := S) (fs := (A2 ++ b :: B2) :: rs) (by rw [List.append_assoc]; exact hF1)
    rw [List.append_assoc]
    exact this
  have hF3 : FAM f S ((A2 ++ b :: B2) :: (B ++ A ++ [a]) :: rs) := FAM_perm (List.Perm.swap _ _ _) hF2
  have hF4 : FAM f S ((B2 ++ A2 ++ [b]) :: (B ++ A ++ [a]) :: rs) := by
    have := FAM_rot (A := A2 ++ [b]) (B := B2) (f := f) (S := S) (fs := (B ++ A ++ [a]) :: rs) (by rw [List.append_assoc]; exact hF3)
    rw [List.append_assoc B2]
    exact this
  have hF5 : FAM f S ((B ++ A ++ [a]) :: (B2 ++ A2 ++ [b]) :: rs) := FAM_perm (List.Perm.swap _ _ _) hF4
  generalize B ++ A = X at *
  generalize B2 ++ A2 = Y at *
  have nX := FAM_nodup hF5 (c := X ++ [a]) List.mem_cons_self
  have nY := FAM_nodup hF5 (c := Y ++ [b]) (List.mem_cons_of_mem _ List.mem_cons_self)
  have nflat := hF5.2.1
  have dis : ∀ x, x ∈ X ++ [a] → x ∈ Y ++ [b] → False := fun x q1 q2 => by
    have := flat_uniq nflat (i := 0) (j := 1) (c := X ++ [a]) (d := Y ++ [b]) rfl rfl q1 q2
    cases this
  obtain ⟨g1, g2, g3, g4⟩ := hF5
  refine ⟨(X ++ [a] ++ (Y ++ [b])) :: rs, ⟨fun c hc => ?_, ?_, fun d => ?_, fun c hc q hq => ?_⟩, ?_⟩
  · rcases List.mem_cons.mp hc with e | e
    · rw [e]; simp
    · exact g1 c (List.mem_cons_of_mem _ (List.mem_cons_of_mem _ e))
  · rw [List.flatten_cons, List.append_assoc]
    exact g2
  · rw [← g3, List.flatten_cons, List.flatten_cons, List.flatten_cons, List.append_assoc]
  · have old : ∀ c ∈ (X ++ [a]) :: (Y ++ [b]) :: rs, ∀ q ∈ dts c, q.1 ≠ a → q.1 ≠ b → f' q.1 = q.2 := fun c hc q hq na nb => by
      rw [h3 _ ((g3 _).mp (List.mem_flatten.mpr ⟨c, hc, (dts_mem hq).1⟩)) na nb]
      exact g4 c hc q hq
    rcases List.mem_cons.mp hc with e | e
    · obtain ⟨u, us, hu⟩ := snoc_head X a
      obtain ⟨w, ws, hw⟩ := snoc_head Y b
      have ea := dts_end hu
      have eb := dts_end hw
      have fa : f a = u := g4 (X ++ [a]) List.mem_cons_self (a, u) (by rw [ea]; simp)
      have fb : f b = w := g4 (Y ++ [b]) (List.mem_cons_of_mem _ List.mem_cons_self) (b, w) (by rw [eb]; simp)
      rw [e, dts_cat hu hw] at hq
      rcases List.mem_append.mp hq with hq | hq
      · rcases List.mem_append.mp hq with hq | hq
        · refine old (X ++ [a]) List.mem_cons_self q (by rw [ea]; exact List.mem_append_left _ hq) (fun z => ?_) (fun z => ?_)
          · obtain ⟨q1, q2⟩ := q
            dsimp only at z
            subst z
            exact pd_no1 nX hq
          · exact dis b (by rw [← z]; exact (pd_mem hq).1) (by simp)
        · rw [List.mem_singleton] at hq
          rw [hq]
          exact h1.trans fb
      · rcases List.mem_append.mp hq with hq | hq
        · refine old (Y ++ [b]) (List.mem_cons_of_mem _ List.mem_cons_self) q (by rw [eb]; exact List.mem_append_left _ hq) (fun z => ?_) (fun z => ?_)
          · exact dis a (by simp) (by rw [← z]; exact (pd_mem hq).1)
          · obtain ⟨q1, q2⟩ := q
            dsimp only at z
            subst z
            exact pd_no1 nY hq
        · rw [List.mem_singleton] at hq
          rw [hq]
          exact h2.trans fa
    · have hin := List.mem_cons_of_mem (X ++ [a]) (List.mem_cons_of_mem (Y ++ [b]) e)
      refine old c hin q hq (fun z => ?_) (fun z => ?_)
      · have hx : a ∈ c := by rw [← z]; exact (dts_mem hq).1
        obtain ⟨i, hi⟩ := List.getElem?_of_mem e
        have := flat_uniq nflat (i := 0) (j := i + 2) (c := X ++ [a]) (d := c) rfl (by simpa using hi) (by simp) hx
        omega
      · have hx : b ∈ c := by rw [← z]; exact (dts_mem hq).1
        obtain ⟨i, hi⟩ := List.getElem?_of_mem e
        have := flat_uniq nflat (i := 1) (j := i + 2) (c := Y ++ [b]) (d := c) rfl (by simpa using hi) (by simp) hx
        omega
  · simp only [List.length_cons] at hl hl2 ⊢
    omega
