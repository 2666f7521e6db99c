/-! blocks: the vertices that no other vertex parts from an edge -/
def gok (G : Nat → Nat → Bool) : Prop := (∀ u v, G u v = G v u) ∧ (∀ v, G v v = false) ∧ ∀ u v, G u v = true → u < 10 ∧ v < 10
def ally (P : Nat → Bool) : Nat → Bool
  | 0 => true
  | n + 1 => ally P n && P n
theorem ally_iff {P : Nat → Bool} : ∀ {n : Nat}, ally P n = true ↔ ∀ u, u < n → P u = true
  | 0 => by simp [ally]
  | n + 1 => by
    unfold ally
    rw [Bool.and_eq_true, ally_iff]
    constructor
    · rintro ⟨h1, h2⟩ u hu
      by_cases e : u = n
      · subst e; exact h2
      · exact h1 u (by omega)
    · exact fun h => ⟨fun u hu => h u (by omega), h n (by omega)⟩
/-- all but u -/
def but (u : Nat) : Nat → Bool := fun v => !decide (v = u)
theorem but_iff {u v : Nat} : but u v = true ↔ v ≠ u := by simp [but]
def two (a b : Nat) : Nat → Bool := fun v => decide (v = a) || decide (v = b)
theorem two_iff {a b v : Nat} : two a b v = true ↔ v = a ∨ v = b := by simp [two]
/-- the block of the edge a - b -/
def Bs (G : Nat → Nat → Bool) (a b : Nat) : Nat → Bool := fun v => ally (fun u => decide (v = u) || rch G (but u) (two a b) v) 10
theorem Bs_iff {G : Nat → Nat → Bool} {a b v : Nat} (ha : a < 10) (hb : b < 10) (hv : v < 10) : Bs G a b v = true ↔ ∀ u, u < 10 → v ≠ u → (a ≠ u ∧ con G (but u) a v) ∨ (b ≠ u ∧ con G (but u) b v) := by
  unfold Bs
  rw [ally_iff]
  constructor
  · intro h u hu hne
    have := h u hu
    rw [Bool.or_eq_true, decide_eq_true_eq] at this
    rcases this with e | e
    · exact absurd e hne
    · obtain ⟨x, hx, h1, h2, h3⟩ := (rch_con hv).mp e
      rcases two_iff.mp h1 with rfl | rfl
      · exact Or.inl ⟨but_iff.mp h2, h3⟩
      · exact Or.inr ⟨but_iff.mp h2, h3⟩
  · intro h u hu
    rw [Bool.or_eq_true, decide_eq_true_eq]
    by_cases e : v = u
    · exact Or.inl e
    · refine Or.inr ((rch_con hv).mpr ?_)
      rcases h u hu e with ⟨h1, h2⟩ | ⟨h1, h2⟩
      · exact ⟨a, ha, two_iff.mpr (Or.inl rfl), but_iff.mpr h1, h2⟩
      · exact ⟨b, hb, two_iff.mpr (Or.inr rfl), but_iff.mpr h1, h2⟩
section
variable {G : Nat → Nat → Bool} {a b : Nat}
theorem Bs_a (hg : gok G) (hab : G a b = true) : Bs G a b a = true := by
  obtain ⟨ha, hb⟩ := hg.2.2 a b hab
  exact (Bs_iff ha hb ha).mpr (fun u _ hne => Or.inl ⟨hne, con_rfl (but_iff.mpr hne)⟩)
theorem Bs_b (hg : gok G) (hab : G a b = true) : Bs G a b b = true := by
  obtain ⟨ha, hb⟩ := hg.2.2 a b hab
  exact (Bs_iff ha hb hb).mpr (fun u _ hne => Or.inr ⟨hne, con_rfl (but_iff.mpr hne)⟩)
theorem con_edge {u x y : Nat} (hg : gok G) (h : G x y = true) (hx : x ≠ u) (hy : y ≠ u) : con G (but u) x y := by
  obtain ⟨h1, h2⟩ := hg.2.2 x y h
  exact con_step (con_rfl (but_iff.mpr hx)) h1 h2 h (but_iff.mpr hy)
/-- two vertices of a block stay joined without a third -/
theorem Bs_con (hg : gok G) (hab : G a b = true) {x y u : Nat} (hx : x < 10) (hy : y < 10) (hu : u < 10) (h1 : Bs G a b x = true) (h2 : Bs G a b y = true) (hxu : x ≠ u) (hyu : y ≠ u) : con G (but u) x y := by
  obtain ⟨ha, hb⟩ := hg.2.2 a b hab
  have e1 := (Bs_iff ha hb hx).mp h1 u hu hxu
  have e2 := (Bs_iff ha hb hy).mp h2 u hu hyu
  have ba : b ≠ u → a ≠ u → con G (but u) b a := fun p q => con_edge hg (by rw [hg.1]; exact hab) p q
  have ab : b ≠ u → a ≠ u → con G (but u) a b := fun p q => con_edge hg hab q p
  rcases e1 with ⟨n1, c1⟩ | ⟨n1, c1⟩ <;> rcases e2 with ⟨n2, c2⟩ | ⟨n2, c2⟩
  · exact con_trans (con_sym hg.1 ha hx c1) c2 hy
  · exact con_trans (con_trans (con_sym hg.1 ha hx c1) (ab n2 n1) hb) c2 hy
  · exact con_trans (con_trans (con_sym hg.1 hb hx c1) (ba n1 n2) ha) c2 hy
  · exact con_trans (con_sym hg.1 hb hx c1) c2 hy
/-- T1: an edge at v whose other end is joined without v to a neighbor x of the block -/
theorem Bs_T1 (hg : gok G) (hab : G a b = true) {v x y : Nat} (hv : v < 10) (hx : x < 10) (hy : y < 10) (h1 : Bs G a b v = true) (h2 : Bs G a b x = true) (hvy : G v y = true) (hxv : x ≠ v) (hc : con G (but v) x y) : Bs G a b y = true := by
  obtain ⟨ha, hb⟩ := hg.2.2 a b hab
  refine (Bs_iff ha hb hy).mpr (fun u hu hne => ?_)
  by_cases e : u = v
  · subst e
    rcases (Bs_iff ha hb hx).mp h2 u hu hxv with ⟨n, c⟩ | ⟨n, c⟩
    · exact Or.inl ⟨n, con_trans c hc hy⟩
    · exact Or.inr ⟨n, con_trans c hc hy⟩
  · rcases (Bs_iff ha hb hv).mp h1 u hu (fun z => e z.symm) with ⟨n, c⟩ | ⟨n, c⟩
    · exact Or.inl ⟨n, con_step c hv hy hvy (but_iff.mpr hne)⟩
    · exact Or.inr ⟨n, con_step c hv hy hvy (but_iff.mpr hne)⟩
/-- the least relation that holds the edge and what is joined to it around a vertex -/
def Cl (G : Nat → Nat → Bool) (a b : Nat) (c d : Nat) : Prop := ∀ R : Nat → Nat → Prop, R a b → (∀ x y, R x y → R y x) → (∀ v x y, v < 10 → x < 10 → y < 10 → R v x → G v x = true → G v y = true → con G (but v) x y → R v y) → R c d
theorem Cl_0 : Cl G a b a b := fun _ h _ _ => h
theorem Cl_sym {c d : Nat} (h : Cl G a b c d) : Cl G a b d c := fun R h1 h2 h3 => h2 _ _ (h R h1 h2 h3)
theorem Cl_J {v x y : Nat} (hv : v < 10) (hx : x < 10) (hy : y < 10) (h : Cl G a b v x) (h1 : G v x = true) (h2 : G v y = true) (hc : con G (but v) x y) : Cl G a b v y := fun R r1 r2 r3 => r3 v x y hv hx hy (h R r1 r2 r3) h1 h2 hc
theorem Cl_in (hg : gok G) (hab : G a b = true) {c d : Nat} (h : Cl G a b c d) : G c d = true ∧ Bs G a b c = true ∧ Bs G a b d = true := by
  refine h (fun c d => G c d = true ∧ Bs G a b c = true ∧ Bs G a b d = true) ⟨hab, Bs_a hg hab, Bs_b hg hab⟩ (fun x y q => ⟨by rw [hg.1]; exact q.1, q.2.2, q.2.1⟩) (fun v x y hv hx hy q q1 q2 q3 => ?_)
  have hxv : x ≠ v := by
    intro e
    subst e
    rw [hg.2.1] at q1
    cases q1
  exact ⟨q2, q.2.1, Bs_T1 hg hab hv hx hy q.2.1 q.2.2 q2 hxv q3⟩
/-- is an end of an edge of the relation -/
def Cv (G : Nat → Nat → Bool) (a b : Nat) (c : Nat) : Prop := ∃ d, Cl G a b c d
theorem Cv_lt (hg : gok G) (hab : G a b = true) {c : Nat} (h : Cv G a b c) : c < 10 := by
  obtain ⟨d, h⟩ := h
  exact (hg.2.2 _ _ (Cl_in hg hab h).1).1
/-- what hangs at v: reached from a neighbor of v outside the relation, outside of it -/
def Hg (G : Nat → Nat → Bool) (V : Nat → Prop) (v w : Nat) : Prop := ∃ x1, x1 < 10 ∧ G v x1 = true ∧ ¬ V x1 ∧ ∀ P : Nat → Prop, P x1 → (∀ y z, y < 10 → z < 10 → P y → G y z = true → ¬ V z → P z) → P w
theorem Hg_out {V : Nat → Prop} {v w : Nat} (h : Hg G V v w) : ¬ V w := by
  obtain ⟨x1, h0, h1, h2, h3⟩ := h
  exact h3 (fun w => ¬ V w) h2 (fun _ _ _ _ _ _ q => q)
theorem Hg_step {V : Nat → Prop} {v w z : Nat} (hw : w < 10) (hz : z < 10) (h : Hg G V v w) (hg : G w z = true) (hv : ¬ V z) : Hg G V v z := by
  obtain ⟨x1, h0, h1, h2, h3⟩ := h
  exact ⟨x1, h0, h1, h2, fun P p1 p2 => p2 w z hw hz (h3 P p1 p2) hg hv⟩
theorem Hg_con {V : Nat → Prop} {v w : Nat} (hv : V v) (h : Hg G V v w) : ∃ x1, x1 < 10 ∧ G v x1 = true ∧ ¬ V x1 ∧ con G (but v) x1 w := by
  obtain ⟨x1, h0, h1, h2, h3⟩ := h
  have n0 : x1 ≠ v := fun e => h2 (e ▸ hv)
  exact ⟨x1, h0, h1, h2, h3 (fun w => con G (but v) x1 w) (con_rfl (but_iff.mpr n0)) (fun y z hy hz q g nz => con_step q hy hz g (but_iff.mpr (fun e => nz (e ▸ hv))))⟩
/-- every vertex of the block is an end of an edge of the relation -/
theorem Bs_Cv (hg : gok G) (hab : G a b = true) {w : Nat} (hw : w < 10) (h : Bs G a b w = true) : Cv G a b w := by
  obtain ⟨ha, hb⟩ := hg.2.2 a b hab
  refine Classical.byContradiction (fun hn => ?_)
  have hane : a ≠ b := by
    intro e
    subst e
    rw [hg.2.1] at hab
    cases hab
  -- reached from a or b, without some third vertex or none
  have hwa : w ≠ a := fun e => hn ⟨b, e ▸ Cl_0⟩
  have step : ∀ u, u < 10 → w ≠ u → (a ≠ u ∨ b ≠ u) → Cv G a b w ∨ ∃ v, Cv G a b v ∧ Hg G (Cv G a b) v w := by
    intro u hu hne _
    have ind : ∀ x, Cv G a b x → con G (but u) x w → Cv G a b w ∨ ∃ v, Cv G a b v ∧ Hg G (Cv G a b) v w := by
      intro x hx hc
      refine con_ind (fun z => Cv G a b z ∨ ∃ v, Cv G a b v ∧ Hg G (Cv G a b) v z) (fun _ => Or.inl hx) (fun y z hy hz q g _ => ?_) hw hc
      by_cases hzv : Cv G a b z
      · exact Or.inl hzv
      · refine Or.inr ?_
        rcases q with q | ⟨v, q1, q2⟩
        · exact ⟨y, q, z, hz, g, hzv, fun P p1 _ => p1⟩
        · exact ⟨v, q1, Hg_step hy hz q2 g hzv⟩
    rcases (Bs_iff ha hb hw).mp h u hu hne with ⟨_, c⟩ | ⟨_, c⟩
    · exact ind a ⟨b, Cl_0⟩ c
    · exact ind b ⟨a, Cl_sym Cl_0⟩ c
  rcases step a ha hwa (Or.inr (fun e => hane e.symm)) with q | ⟨v, hv, hh⟩
  · exact hn q
  · have hv10 := Cv_lt hg hab hv
    obtain ⟨x1, x10, g1, nx, hc⟩ := Hg_con hv hh
    have hwv : w ≠ v := fun e => hn (e ▸ hv)
    obtain ⟨c0, hc0⟩ := hv
    obtain ⟨gc, bv, bc⟩ := Cl_in hg hab hc0
    have hc10 := (hg.2.2 _ _ gc).2
    have hcv : c0 ≠ v := by
      intro e
      subst e
      rw [hg.2.1] at gc
      cases gc
    have k1 := Bs_con hg hab hc10 hw hv10 bc h hcv hwv
    have k2 : con G (but v) c0 x1 := con_trans k1 (con_sym hg.1 x10 hw hc) x10
    exact nx ⟨v, Cl_sym (Cl_J hv10 hc10 x10 hc0 gc g1 k2)⟩
/-- T2: the edges between vertices of the block are those of the relation -/
theorem Bs_Cl (hg : gok G) (hab : G a b = true) {c d : Nat} (hcd : G c d = true) (h1 : Bs G a b c = true) (h2 : Bs G a b d = true) : Cl G a b c d := by
  obtain ⟨hc, hd⟩ := hg.2.2 c d hcd
  obtain ⟨e, he⟩ := Bs_Cv hg hab hc h1
  obtain ⟨ge, _, be⟩ := Cl_in hg hab he
  have he10 := (hg.2.2 _ _ ge).2
  have n1 : e ≠ c := by
    intro z
    subst z
    rw [hg.2.1] at ge
    cases ge
  have n2 : d ≠ c := by
    intro z
    subst z
    rw [hg.2.1] at hcd
    cases hcd
  exact Cl_J hc he10 hd he ge hcd (Bs_con hg hab he10 hd hc be h2 n1 n2)
/-- T3: a neighbor outside hangs at one vertex alone -/
theorem Bs_T3 (hg : gok G) (hab : G a b = true) {p x z : Nat} (hp : p < 10) (hx : x < 10) (hz : z < 10) (h1 : Bs G a b p = true) (h2 : Bs G a b z = true) (hzp : z ≠ p) (hpx : G p x = true) (hc : con G (but p) x z) : Bs G a b x = true := by
  obtain ⟨c0, hc0⟩ := Bs_Cv hg hab hp h1
  obtain ⟨gc, _, bc⟩ := Cl_in hg hab hc0
  have hc10 := (hg.2.2 _ _ gc).2
  have hcp : c0 ≠ p := by
    intro e
    subst e
    rw [hg.2.1] at gc
    cases gc
  have k := Bs_con hg hab hc10 hz hp bc h2 hcp hzp
  exact Bs_T1 hg hab hp hc10 hx h1 bc hpx hcp (con_trans k (con_sym hg.1 hx hz hc) hx)
/-- F2: without one of its vertices a block is still in one piece, by paths inside it -/
theorem Bs_two (hg : gok G) (hab : G a b = true) {x y u : Nat} (hx : x < 10) (hy : y < 10) (hu : u < 10) (h1 : Bs G a b x = true) (h2 : Bs G a b y = true) (hxu : x ≠ u) (hyu : y ≠ u) : con G (fun v => Bs G a b v && but u v) x y := by
  have hA : ∀ {v : Nat}, Bs G a b v = true → v ≠ u → (fun v => Bs G a b v && but u v) v = true := fun p q => by
    show (_ && _) = true
    rw [p, but_iff.mpr q]
    rfl
  have main : (Bs G a b y = true ∧ con G (fun v => Bs G a b v && but u v) x y) ∨ ∃ p, p < 10 ∧ Bs G a b p = true ∧ p ≠ u ∧ con G (fun v => Bs G a b v && but u v) x p ∧ Hg G (fun v => Bs G a b v = true) p y := by
    refine con_ind (fun y => (Bs G a b y = true ∧ con G (fun v => Bs G a b v && but u v) x y) ∨ ∃ p, p < 10 ∧ Bs G a b p = true ∧ p ≠ u ∧ con G (fun v => Bs G a b v && but u v) x p ∧ Hg G (fun v => Bs G a b v = true) p y) (fun _ => Or.inl ⟨h1, con_rfl (hA h1 hxu)⟩) (fun z z' hz hz' q g hz'u => ?_) hy (Bs_con hg hab hx hy hu h1 h2 hxu hyu)
    have nz'u := but_iff.mp hz'u
    rcases q with ⟨q1, q2⟩ | ⟨p, p1, p2, p3, p4, p5⟩
    · cases hb : Bs G a b z' with
      | true => exact Or.inl ⟨rfl, con_step q2 hz hz' g (hA hb nz'u)⟩
      | false =>
        have nzu : z ≠ u := by
          have := con_in q2
          rw [Bool.and_eq_true] at this
          exact but_iff.mp this.2
        exact Or.inr ⟨z, hz, q1, nzu, q2, z', hz', g, (fun t => by rw [show Bs G a b z' = true from t] at hb; cases hb), fun P r1 _ => r1⟩
    · cases hb : Bs G a b z' with
      | false => exact Or.inr ⟨p, p1, p2, p3, p4, Hg_step hz hz' p5 g (fun t => by rw [show Bs G a b z' = true from t] at hb; cases hb)⟩
      | true =>
        by_cases e : z' = p
        · subst e
          exact Or.inl ⟨rfl, p4⟩
        · obtain ⟨x1, x10, g1, nx, hc⟩ := Hg_con (V := fun v => Bs G a b v = true) p2 p5
          exact absurd (Bs_T3 hg hab p1 x10 hz' p2 hb e g1 (con_step hc hz hz' g (but_iff.mpr e))) nx
  rcases main with ⟨_, q⟩ | ⟨p, _, _, _, _, q⟩
  · exact q
  · exact absurd h2 (Hg_out q)
/-- the block of any of its edges is the same -/
theorem Bs_same (hg : gok G) (hab : G a b = true) {c d : Nat} (hcd : G c d = true) (h1 : Bs G a b c = true) (h2 : Bs G a b d = true) : ∀ v, v < 10 → Bs G c d v = Bs G a b v := by
  obtain ⟨ha, hb⟩ := hg.2.2 a b hab
  obtain ⟨hc, hd⟩ := hg.2.2 c d hcd
  have ncd : c ≠ d := by
    intro z
    subst z
    rw [hg.2.1] at hcd
    cases hcd
  have sub : ∀ v, v < 10 → Bs G a b v = true → Bs G c d v = true := by
    intro v hv h
    refine (Bs_iff hc hd hv).mpr (fun u hu hne => ?_)
    by_cases e : c = u
    · have e2 : d ≠ u := fun z => ncd (e.trans z.symm)
      exact Or.inr ⟨e2, Bs_con hg hab hd hv hu h2 h e2 hne⟩
    · exact Or.inl ⟨e, Bs_con hg hab hc hv hu h1 h e hne⟩
  have a2 := sub a ha (Bs_a hg hab)
  have b2 := sub b hb (Bs_b hg hab)
  have nab : a ≠ b := by
    intro z
    subst z
    rw [hg.2.1] at hab
    cases hab
  intro v hv
  cases h : Bs G a b v with
  | true => exact sub v hv h
  | false =>
    cases h3 : Bs G c d v with
    | false => rfl
    | true =>
      have : Bs G a b v = true := by
        refine (Bs_iff ha hb hv).mpr (fun u hu hne => ?_)
        by_cases e : a = u
        · have e2 : b ≠ u := fun z => nab (e.trans z.symm)
          exact Or.inr ⟨e2, Bs_con hg hcd hb hv hu b2 h3 e2 hne⟩
        · exact Or.inl ⟨e, Bs_con hg hcd ha hv hu a2 h3 e hne⟩
      rw [this] at h
      cases h
end
