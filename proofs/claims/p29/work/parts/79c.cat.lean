/-! block by block -/
theorem nodup_snoc {O R : List Nat} (h : (O ++ R).Nodup) : O.Nodup ∧ R.Nodup ∧ ∀ x, x ∈ O → x ∈ R → False := by
  obtain ⟨h1, h2, h3⟩ := List.nodup_append.mp h
  exact ⟨h1, h2, fun x a b => h3 x a x b rfl⟩
/-- behind the ends, when two orders are joined -/
theorem nxL_join {X Y : List Nat} {a b u w : Nat} {us ws : List Nat} (h1 : X ++ [a] = u :: us) (h2 : Y ++ [b] = w :: ws) (hn : (X ++ [a] ++ (Y ++ [b])).Nodup) :
    nxL (X ++ [a]) a = u ∧ nxL (Y ++ [b]) b = w ∧ nxL (X ++ [a] ++ (Y ++ [b])) a = w ∧ nxL (X ++ [a] ++ (Y ++ [b])) b = u ∧
    (∀ x ∈ X ++ [a], x ≠ a → nxL (X ++ [a] ++ (Y ++ [b])) x = nxL (X ++ [a]) x) ∧ ∀ x ∈ Y ++ [b], x ≠ b → nxL (X ++ [a] ++ (Y ++ [b])) x = nxL (Y ++ [b]) x := by
  obtain ⟨n1, n2, n3⟩ := nodup_snoc hn
  have ec := dts_cat h1 h2
  have ea := dts_end h1
  have eb := dts_end h2
  refine ⟨nxL_of n1 (by rw [ea]; simp), nxL_of n2 (by rw [eb]; simp), nxL_of hn (by rw [ec]; simp), nxL_of hn (by rw [ec]; simp), fun x hx ne => nxL_of hn ?_, fun x hx ne => nxL_of hn ?_⟩
  · have := nxL_dts hx
    rw [ea] at this
    rw [ec]
    rcases List.mem_append.mp this with h | h
    · exact List.mem_append_left _ (List.mem_append_left _ h)
    · rw [List.mem_singleton] at h
      exact absurd (congrArg Prod.fst h) ne
  · have := nxL_dts hx
    rw [eb] at this
    rw [ec]
    rcases List.mem_append.mp this with h | h
    · exact List.mem_append_right _ (List.mem_append_left _ h)
    · rw [List.mem_singleton] at h
      exact absurd (congrArg Prod.fst h) ne
theorem snoc_ofQ {L : List Nat} (h : L ≠ []) : ∃ X a, L = X ++ [a] := ⟨L.dropLast, L.getLast h, (List.dropLast_concat_getLast h).symm⟩
/-- orders O and R, joined at the vertices below k -/
def jnO (O R : Nat → List Nat) (k v x : Nat) : Nat := if v < k then nxL (O v ++ R v) x else if x ∈ O v then nxL (O v) x else nxL (R v) x
def bthO (O R : Nat → List Nat) (v : Nat) : Bool := !(O v).isEmpty && !(R v).isEmpty
theorem bthO_iff {O R : Nat → List Nat} {v : Nat} : bthO O R v = true ↔ O v ≠ [] ∧ R v ≠ [] := by
  unfold bthO
  cases O v <;> cases R v <;> simp
/-- two families, joined at the vertices that lie in both -/
theorem FAM_join {A B : Nat → Nat → Bool} {O R : Nat → List Nat} {fs : List (List Nat)} (hA : ∀ x y, A x y = A y x) (hB : ∀ x y, B x y = B y x)
    (hA10 : ∀ x y, A x y = true → x < 10 ∧ y < 10) (hB10 : ∀ x y, B x y = true → x < 10 ∧ y < 10)
    (hO : ∀ v x, x ∈ O v ↔ A v x = true) (hR : ∀ v x, x ∈ R v ↔ B v x = true) (hn : ∀ v, (O v ++ R v).Nodup)
    (hcon : ∀ u v, con A (fun _ => true) u v → (∃ x, B u x = true) → (∃ x, B v x = true) → u < 10 → v < 10 → u = v)
    (h : FAM (fN (jnO O R 0)) (dS (fun x y => A x y || B x y)) fs) : ∀ k, k ≤ 10 → ∃ gs, FAM (fN (jnO O R k)) (dS (fun x y => A x y || B x y)) gs ∧ gs.length + cnt (bthO O R) k = fs.length
  | 0, _ => ⟨fs, h, rfl⟩
  | k + 1, hk => by
    obtain ⟨gs, hF, hl⟩ := FAM_join hA hB hA10 hB10 hO hR hn hcon h k (by omega)
    have hsp : ∀ d, dS (fun x y => A x y || B x y) d = true → ∃ x v, x < 10 ∧ v < 10 ∧ d = 10 * x + v ∧ (A x v = true ∨ B x v = true) := fun d hd => by
      unfold dS at hd
      rw [Bool.or_eq_true] at hd
      refine ⟨d / 10, d % 10, ?_, by omega, by omega, hd⟩
      rcases hd with e | e
      · exact (hA10 _ _ e).1
      · exact (hB10 _ _ e).1
    have hcnt : cnt (bthO O R) (k + 1) = cnt (bthO O R) k + (if bthO O R k = true then 1 else 0) := by
      show _ + _ = _
      cases bthO O R k <;> rfl
    cases hb : bthO O R k with
    | false =>
      refine ⟨gs, FAM_congr (fun d hd => ?_) (fun d => Iff.rfl) hF, by rw [hcnt, hb]; simpa using hl⟩
      obtain ⟨x, v, hx, hv, e, hAB⟩ := hsp d hd
      rw [e, fN_dn hv, fN_dn hv]
      congr 1
      unfold jnO
      by_cases e1 : v < k
      · rw [if_pos e1, if_pos (by omega)]
      · by_cases e2 : v = k
        · subst e2
          rw [if_pos (by omega), if_neg e1]
          have hor : O v = [] ∨ R v = [] := by
            refine Classical.byContradiction fun z => ?_
            rw [not_or] at z
            rw [bthO_iff.mpr z] at hb
            cases hb
          by_cases e3 : x ∈ O v
          · rw [if_pos e3]
            rcases hor with z | z
            · rw [z] at e3
              cases e3
            · rw [z, List.append_nil]
          · rw [if_neg e3]
            rcases hor with z | z
            · rw [z]; rfl
            · exfalso
              rcases hAB with q | q
              · exact e3 ((hO v x).mpr (by rw [hA]; exact q))
              · have := (hR v x).mpr (by rw [hB]; exact q)
                rw [z] at this
                cases this
        · rw [if_neg (by omega), if_neg e1]
    | true =>
      obtain ⟨b1, b2⟩ := bthO_iff.mp hb
      obtain ⟨X, a, hX⟩ := snoc_ofQ b1
      obtain ⟨Y, b, hY⟩ := snoc_ofQ b2
      obtain ⟨u, us, hu⟩ := snoc_head X a
      obtain ⟨w, ws, hw⟩ := snoc_head Y b
      have hnk := hn k
      rw [hX, hY] at hnk
      obtain ⟨j1, j2, j3, j4, j5, j6⟩ := nxL_join hu hw hnk
      have hk10 : k < 10 := by omega
      obtain ⟨_, _, dis⟩ := nodup_snoc hnk
      have haA : A k a = true := (hO k a).mp (by rw [hX]; simp)
      have hbB : B k b = true := (hR k b).mp (by rw [hY]; simp)
      have ha10 := (hA10 _ _ haA).2
      have hb10 := (hB10 _ _ hbB).2
      have ja : jnO O R k k a = u := by
        unfold jnO
        rw [if_neg (by omega), if_pos (by rw [hX]; simp), hX, j1]
      have jb : jnO O R k k b = w := by
        unfold jnO
        rw [if_neg (by omega), if_neg (fun z => by
          rw [hX] at z
          exact dis b z (by simp)), hY, j2]
      have ja' : jnO O R (k + 1) k a = w := by
        unfold jnO
        rw [if_pos (by omega), hX, hY, j3]
      have jb' : jnO O R (k + 1) k b = u := by
        unfold jnO
        rw [if_pos (by omega), hX, hY, j4]
      have mk2 : ∀ x v, v < 10 → (A x v = true ∨ B x v = true) → dS (fun x y => A x y || B x y) (10 * x + v) = true := fun x v hv h => by
        rw [dS_dn hv, Bool.or_eq_true]
        exact h
      -- the two ends lie on two cycles
      have hno : ∀ c ∈ gs, 10 * a + k ∈ c → 10 * b + k ∈ c → False := by
        intro c hc h1 h2
        have key := cyc_allP (P := fun d => B (d / 10) (d % 10) = true ∨ ∃ z, z < k ∧ (∃ x, B z x = true) ∧ con A (fun _ => true) z (d % 10)) (c := c) (fun q hq hp => ?_) h2 (Or.inl (by rw [(dn_div (v := b) hk10).1, (dn_div (v := b) hk10).2, hB]; exact hbB)) _ h1
        · rw [(dn_div (v := a) hk10).1, (dn_div (v := a) hk10).2] at key
          rcases key with e | ⟨z, z1, z2, z3⟩
          · have m1 : a ∈ X ++ [a] := by simp
            have m2 : a ∈ R k := (hR k a).mpr (by rw [hB]; exact e)
            rw [hY] at m2
            exact dis a m1 m2
          · have := hcon z k z3 z2 ⟨b, hbB⟩ (by omega) hk10
            omega
        · have hS := FAM_S hF hc (dts_mem hq).1
          have hf := hF.2.2.2 c hc q hq
          obtain ⟨x, v, hx, hv, e, hAB⟩ := hsp _ hS
          rw [e] at hp hf
          rw [fN_dn hv] at hf
          rw [(dn_div (v := x) hv).1, (dn_div (v := x) hv).2] at hp
          have hS2 := FAM_S hF hc (dts_mem hq).2
          rw [← hf] at hS2 ⊢
          obtain ⟨v', y, hv', hy, e2, hAB2⟩ := hsp _ hS2
          -- the dart behind goes out of v, to y
          have ey : jnO O R k v x < 10 := by
            by_cases q10 : jnO O R k v x < 10
            · exact q10
            · exfalso
              have hin : jnO O R k v x ∈ O v ∨ jnO O R k v x ∈ R v := by
                unfold jnO
                split
                · have hm : x ∈ O v ++ R v := List.mem_append.mpr (hAB.imp (fun q => (hO v x).mpr (by rw [hA]; exact q)) (fun q => (hR v x).mpr (by rw [hB]; exact q)))
                  exact List.mem_append.mp (dts_mem (nxL_dts hm)).2
                · split
                  · next hm => exact Or.inl (dts_mem (nxL_dts hm)).2
                  · next hm =>
                    refine Or.inr (dts_mem (nxL_dts ?_)).2
                    rcases hAB with q | q
                    · exact absurd ((hO v x).mpr (by rw [hA]; exact q)) hm
                    · exact (hR v x).mpr (by rw [hB]; exact q)
              rcases hin with q | q
              · exact q10 (hA10 _ _ ((hO _ _).mp q)).2
              · exact q10 (hB10 _ _ ((hR _ _).mp q)).2
          have e3 : v' = v := by omega
          subst e3
          have e4 : y = jnO O R k v' x := by omega
          rw [(dn_div (v := v') ey).1, (dn_div (v := v') ey).2, ← e4]
          rcases hAB2 with q2 | q2
          · refine Or.inr ?_
            rcases hp with hp | ⟨z, z1, z2, z3⟩
            · -- from the block into the old part: only at a vertex below k
              have : v' < k := by
                refine Nat.lt_of_not_le fun hle => ?_
                have hxO : ¬ x ∈ O v' := fun m => (nodup_snoc (hn v')).2.2 x m ((hR v' x).mpr (by rw [hB]; exact hp))
                have hxR : x ∈ R v' := (hR v' x).mpr (by rw [hB]; exact hp)
                have : y ∈ R v' := by
                  rw [e4]
                  unfold jnO
                  rw [if_neg (by omega), if_neg hxO]
                  exact (dts_mem (nxL_dts hxR)).2
                exact (nodup_snoc (hn v')).2.2 y ((hO _ _).mpr q2) this
              exact ⟨v', this, ⟨x, by rw [hB]; exact hp⟩, con_step (con_rfl rfl) hv hy q2 rfl⟩
            · exact ⟨z, z1, z2, con_step z3 hv hy q2 rfl⟩
          · exact Or.inl q2
      obtain ⟨gs', g1, g2⟩ := FAM_merge (f' := fN (jnO O R (k + 1))) hF (a := 10 * a + k) (b := 10 * b + k) (mk2 a k hk10 (Or.inl (by rw [hA]; exact haA))) (mk2 b k hk10 (Or.inr (by rw [hB]; exact hbB))) hno (by rw [fN_dn hk10, fN_dn hk10, ja', jb]) (by rw [fN_dn hk10, fN_dn hk10, ja, jb']) (fun d hd na nb => by
        obtain ⟨x, v, hx, hv, e, hAB⟩ := hsp d hd
        rw [e, fN_dn hv, fN_dn hv]
        congr 1
        unfold jnO
        by_cases e1 : v < k
        · rw [if_pos e1, if_pos (by omega)]
        · by_cases e2 : v = k
          · subst e2
            rw [if_pos (by omega), if_neg e1, hX, hY]
            by_cases e3 : x ∈ X ++ [a]
            · rw [if_pos e3]
              exact j5 x e3 (fun z => na (by rw [e, z]))
            · rw [if_neg e3]
              refine j6 x ?_ (fun z => nb (by rw [e, z]))
              rcases hAB with q | q
              · exact absurd (by rw [← hX]; exact (hO v x).mpr (by rw [hA]; exact q)) e3
              · rw [← hY]; exact (hR v x).mpr (by rw [hB]; exact q)
          · rw [if_neg (by omega), if_neg e1])
      refine ⟨gs', g1, ?_⟩
      rw [hcnt, hb, if_pos rfl]
      omega
