/-! what the small machine's world is in the kit's: N cells, at the addresses ad 0 .. ad (N - 1) -/
def xcv (ad : Nat → Nat) : Value → Value := fun v => match v with
  | .ref k => .ref (ad k)
  | v => v
theorem xcv_cat (ad : Nat → Nat) (v : Value) : (xcv ad v).category = v.category := by cases v <;> rfl
theorem xcv_sum (ad : Nat → Nat) (st : List Value) : ((st.map (xcv ad)).map fun v => v.category).sum = (st.map fun v => v.category).sum := by
  rw [List.map_map]
  congr 1
  exact List.map_congr_left fun v _ => xcv_cat ad v
def xcell (cI cJ : ClassId) (ad : Nat → Nat) (w : xW) (a : Nat) : va_E := match xshp a with
  | some (.inl n) => .inl (cI, n, .inl (w.1 a))
  | some (.inr (.inl n)) => .inl (cJ, n, .inr (.inl (w.2 a)))
  | some (.inr (.inr q)) => .inr (q.1, q.2.mapIdx (fun k kd => xcv ad (xval w a k kd)))
  | none => .inr (0, [])
def xws (N : Nat) (cI cJ : ClassId) (ad : Nat → Nat) (w : xW) : va_W := (List.range N).map (fun a => (ad a, xcell cI cJ ad w a))
/-- what a method may change: the cells from sz on -/
def xA (sz : Nat) : Nat → Prop := fun q => sz ≤ q
theorem xshp_lt {a : Nat} {s : xS} (h : xshp a = some s) : a < 48 := by
  have h1 : (xshpL.all fun q => decide (q.1 < 48)) = true := by decide +kernel
  have h2 := List.all_eq_true.mp h1 _ (xfind_mem h)
  exact of_decide_eq_true h2
theorem xws_get {N : Nat} {cI cJ : ClassId} {ad : Nat → Nat} {w : xW} {a : Nat} (h : a < N) : (xws N cI cJ ad w)[a]? = some (ad a, xcell cI cJ ad w a) := by
  simp [xws, h]
theorem xws_set {N : Nat} {cI cJ : ClassId} {ad : Nat → Nat} {w w' : xW} {a : Nat} {e : va_E} (he : xcell cI cJ ad w' a = e) (hb : ∀ b, b ≠ a → xcell cI cJ ad w' b = xcell cI cJ ad w b) : (xws N cI cJ ad w).set a (ad a, e) = xws N cI cJ ad w' := by
  apply List.ext_getElem?
  intro i
  rw [List.getElem?_set]
  by_cases hi : i < N
  · rw [xws_get hi, xws_get hi]
    by_cases hai : a = i
    · subst hai
      simp [xws, hi, he]
    · simp [hai, hb i (fun z => hai z.symm)]
  · have h1 : (xws N cI cJ ad w)[i]? = none := by simp [xws]; omega
    have h2 : (xws N cI cJ ad w')[i]? = none := by simp [xws]; omega
    rw [h1, h2]
    by_cases hai : a = i
    · subst hai
      simp [xws]
      omega
    · simp [hai]
theorem xval_ne1 {w : xW} {a k b : Nat} {x : Int32} (h : b ≠ a) (j : Nat) (kd : Option (Option Nat)) : xval (xuI w a k x) b j kd = xval w b j kd := by
  cases kd with
  | none => simp only [xval, xuI, xup_ne _ _ h]
  | some r => cases r <;> rfl
theorem xval_ne2 {w : xW} {a k b : Nat} {x : Int64} (h : b ≠ a) (j : Nat) (kd : Option (Option Nat)) : xval (xuJ w a k x) b j kd = xval w b j kd := by
  cases kd with
  | none => rfl
  | some r => cases r with
    | none => simp only [xval, xuJ, xup_ne _ _ h]
    | some r => rfl
theorem xcell_ne1 {cI cJ : ClassId} {ad : Nat → Nat} {w : xW} {a k b : Nat} {x : Int32} (h : b ≠ a) : xcell cI cJ ad (xuI w a k x) b = xcell cI cJ ad w b := by
  unfold xcell
  split
  · simp only [xuI, xup_ne _ _ h]
  · rfl
  · simp only [xval_ne1 h]
  · rfl
theorem xcell_ne2 {cI cJ : ClassId} {ad : Nat → Nat} {w : xW} {a k b : Nat} {x : Int64} (h : b ≠ a) : xcell cI cJ ad (xuJ w a k x) b = xcell cI cJ ad w b := by
  unfold xcell
  split
  · rfl
  · simp only [xuJ, xup_ne _ _ h]
  · simp only [xval_ne2 h]
  · rfl
theorem xcell_I {cI cJ : ClassId} {ad : Nat → Nat} {w : xW} {a n : Nat} (h : xshp a = some (.inl n)) : xcell cI cJ ad w a = .inl (cI, n, .inl (w.1 a)) := by
  unfold xcell
  rw [h]
theorem xcell_J {cI cJ : ClassId} {ad : Nat → Nat} {w : xW} {a n : Nat} (h : xshp a = some (.inr (.inl n))) : xcell cI cJ ad w a = .inl (cJ, n, .inr (.inl (w.2 a))) := by
  unfold xcell
  rw [h]
theorem xcell_O {cI cJ : ClassId} {ad : Nat → Nat} {w : xW} {a : Nat} {q : Nat × List (Option (Option Nat))} (h : xshp a = some (.inr (.inr q))) : xcell cI cJ ad w a = .inr (q.1, q.2.mapIdx (fun k kd => xcv ad (xval w a k kd))) := by
  unfold xcell
  rw [h]
theorem xup_upd (f : Nat → Int32) (k : Nat) (x : Int32) : xup f k x = upd f k x := by
  funext j
  rw [xup_eq]
  rfl
theorem xup_updL (f : Nat → Int64) (k : Nat) (x : Int64) : xup f k x = vp_updL f k x := by
  funext j
  rw [xup_eq]
  rfl
/-- a stored field -/
theorem xfs_set1 {ad : Nat → Nat} {w : xW} {a k : Nat} {x : Int32} {ks : List (Option (Option Nat))} (hk : ks[k]? = some none) : (ks.mapIdx (fun j kd => xcv ad (xval w a j kd))).set k (.int x) = ks.mapIdx (fun j kd => xcv ad (xval (xuI w a k x) a j kd)) := by
  apply List.ext_getElem?
  intro i
  rw [List.getElem?_set, List.getElem?_mapIdx, List.getElem?_mapIdx]
  by_cases hki : k = i
  · subst hki
    have hl := (List.getElem?_eq_some_iff.mp hk).1
    rw [if_pos rfl, if_pos (by simpa using hl), hk]
    simp only [Option.map_some, xval, xuI, xup_self, xcv]
  · rw [if_neg hki]
    cases hi : ks[i]? with
    | none => rfl
    | some kd =>
      simp only [Option.map_some]
      congr 1
      cases kd with
      | none => simp only [xval, xuI, xup_self, xup_ne _ _ (fun z => hki z.symm)]
      | some r => cases r <;> rfl
theorem xfs_set2 {ad : Nat → Nat} {w : xW} {a k : Nat} {x : Int64} {ks : List (Option (Option Nat))} (hk : ks[k]? = some (some none)) : (ks.mapIdx (fun j kd => xcv ad (xval w a j kd))).set k (.long x) = ks.mapIdx (fun j kd => xcv ad (xval (xuJ w a k x) a j kd)) := by
  apply List.ext_getElem?
  intro i
  rw [List.getElem?_set, List.getElem?_mapIdx, List.getElem?_mapIdx]
  by_cases hki : k = i
  · subst hki
    have hl := (List.getElem?_eq_some_iff.mp hk).1
    rw [if_pos rfl, if_pos (by simpa using hl), hk]
    simp only [Option.map_some, xval, xuJ, xup_self, xcv]
  · rw [if_neg hki]
    cases hi : ks[i]? with
    | none => rfl
    | some kd =>
      simp only [Option.map_some]
      congr 1
      cases kd with
      | none => rfl
      | some r => cases r with
        | none => simp only [xval, xuJ, xup_self, xup_ne _ _ (fun z => hki z.symm)]
        | some r => rfl
/-! locals -/
def xLok (ad : Nat → Nat) (ls : Array Slot) (n : Nat) (L : xL) : Prop := L.length = n ∧ ls.size = n ∧ lv_wf ls ∧ ∀ (i : Nat) (v : Value), L[i]? = some (some v) → ls[i]? = some (.val (xcv ad v))
def xLl (ad : Nat → Nat) (L : xL) : List (Nat × Value) := (List.range L.length).filterMap (fun i => match L[i]? with
  | some (some v) => some (i, xcv ad v)
  | _ => none)
theorem xLl_of {ad : Nat → Nat} {L : xL} {i : Nat} {v : Value} (h : L[i]? = some (some v)) : (i, xcv ad v) ∈ xLl ad L := by
  refine List.mem_filterMap.mpr ⟨i, List.mem_range.mpr (List.getElem?_eq_some_iff.mp h).1, ?_⟩
  rw [h]
theorem xLl_to {ad : Nat → Nat} {L : xL} {q : Nat × Value} (h : q ∈ xLl ad L) : ∃ v, L[q.1]? = some (some v) ∧ q.2 = xcv ad v := by
  obtain ⟨i, -, hi⟩ := List.mem_filterMap.mp h
  split at hi
  · next v hv =>
    cases hi
    exact ⟨v, hv, rfl⟩
  · cases hi
theorem xLok.has {ad : Nat → Nat} {ls : Array Slot} {n : Nat} {L : xL} (h : xLok ad ls n L) : lv_has ls n (xLl ad L) := by
  refine ⟨h.2.1, h.2.2.1, fun q hq => ?_⟩
  obtain ⟨v, h1, h2⟩ := xLl_to hq
  rw [h2]
  exact h.2.2.2 _ _ h1
theorem xLok.le {ad : Nat → Nat} {ls : Array Slot} {n : Nat} {L1 L2 : xL} (h : xLok ad ls n L2) (hn : L1.length = L2.length) (hl : xle L1 L2) : xLok ad ls n L1 := ⟨hn.trans h.1, h.2.1, h.2.2.1, fun i v hi => h.2.2.2 i v (hl i v hi)⟩
theorem xcat2_eq (v : Value) : xcat2 (some (some v)) = true ↔ v.category = 2 := by cases v <;> simp [xcat2, Value.category]
theorem xclr_get {L : xL} {i j : Nat} {v : Value} (h : (xclr L i)[j]? = some (some v)) : L[j]? = some (some v) ∧ ¬ (j + 1 = i ∧ v.category = 2) := by
  cases i with
  | zero => exact ⟨h, fun z => by omega⟩
  | succ i =>
    change (bif xcat2 L[i]? then L.set i none else L)[j]? = some (some v) at h
    cases hc : xcat2 L[i]? with
    | false =>
      rw [hc] at h
      refine ⟨h, fun z => ?_⟩
      have hj : j = i := by omega
      subst hj
      change L[j]? = some (some v) at h
      rw [h, (xcat2_eq v).mpr z.2] at hc
      cases hc
    | true =>
      rw [hc] at h
      change (L.set i none)[j]? = some (some v) at h
      rw [List.getElem?_set] at h
      by_cases hij : i = j
      · rw [if_pos hij] at h
        split at h <;> simp at h
      · rw [if_neg hij] at h
        exact ⟨h, fun z => by omega⟩
theorem xclr_len (L : xL) (i : Nat) : (xclr L i).length = L.length := by
  cases i with
  | zero => rfl
  | succ i =>
    change (bif xcat2 L[i]? then L.set i none else L).length = L.length
    cases xcat2 L[i]? with
    | true => exact List.length_set
    | false => rfl
theorem xLok.set1 {ad : Nat → Nat} {ls ls' : Array Slot} {n i : Nat} {L : xL} {v : Value} (hL : xLok ad ls n L) (h : lv_has ls' n ((i, xcv ad v) :: (xLl ad L).filter (fun q => !(q.1 == i) && !(q.1 + 1 == i && q.2.category == 2)))) : xLok ad ls' n ((xclr L i).set i (some v)) := by
  refine ⟨by rw [List.length_set, xclr_len]; exact hL.1, h.1, h.2.1, fun j u hj => ?_⟩
  rw [List.getElem?_set] at hj
  by_cases hij : i = j
  · subst hij
    rw [if_pos rfl] at hj
    split at hj
    · cases hj
      exact h.2.2 _ List.mem_cons_self
    · cases hj
  · rw [if_neg hij] at hj
    obtain ⟨h1, h2⟩ := xclr_get hj
    refine h.2.2 (j, xcv ad u) (List.mem_cons_of_mem _ (List.mem_filter.mpr ⟨xLl_of h1, ?_⟩))
    simp only [xcv_cat, Bool.and_eq_true, Bool.not_eq_true', beq_eq_false_iff_ne, ne_eq, Bool.and_eq_false_imp, beq_iff_eq]
    exact ⟨fun z => hij z.symm, fun z1 z2 => h2 ⟨z1, z2⟩⟩
theorem xLok.set2 {ad : Nat → Nat} {ls ls' : Array Slot} {n i : Nat} {L : xL} {v : Value} (hL : xLok ad ls n L) (h : lv_has ls' n ((i, xcv ad v) :: (xLl ad L).filter (fun q => !(q.1 == i) && (!(q.1 == i + 1) && !(q.1 + 1 == i && q.2.category == 2))))) : xLok ad ls' n (((xclr L i).set (i + 1) none).set i (some v)) := by
  refine ⟨by rw [List.length_set, List.length_set, xclr_len]; exact hL.1, h.1, h.2.1, fun j u hj => ?_⟩
  rw [List.getElem?_set] at hj
  by_cases hij : i = j
  · subst hij
    rw [if_pos rfl] at hj
    split at hj
    · cases hj
      exact h.2.2 _ List.mem_cons_self
    · cases hj
  · rw [if_neg hij, List.getElem?_set] at hj
    by_cases hij2 : i + 1 = j
    · rw [if_pos hij2] at hj
      split at hj <;> simp at hj
    · rw [if_neg hij2] at hj
      obtain ⟨h1, h2⟩ := xclr_get hj
      refine h.2.2 (j, xcv ad u) (List.mem_cons_of_mem _ (List.mem_filter.mpr ⟨xLl_of h1, ?_⟩))
      simp only [xcv_cat, Bool.and_eq_true, Bool.not_eq_true', beq_eq_false_iff_ne, ne_eq, Bool.and_eq_false_imp, beq_iff_eq]
      exact ⟨fun z => hij z.symm, fun z => hij2 z.symm, fun z1 z2 => h2 ⟨z1, z2⟩⟩
theorem xarg_lv (ad : Nat → Nat) : ∀ (as : List Value) (k i : Nat) (v : Value), (xarg as)[i]? = some (some v) → (k + i, xcv ad v) ∈ lv_args k (as.map (xcv ad))
  | [], _, i, v, h => by simp [xarg] at h
  | u :: as, k, i, v, h => by
    unfold xarg at h
    simp only [List.map_cons, lv_args, xcv_cat]
    cases hc : Nat.beq u.category 2 with
    | true =>
      have hc2 : u.category = 2 := Nat.eq_of_beq_eq_true hc
      rw [hc] at h
      rw [if_pos hc2]
      change (some u :: none :: xarg as)[i]? = some (some v) at h
      match i, h with
      | 0, h => cases h; exact List.mem_cons_self
      | 1, h => cases h
      | i + 2, h =>
        have := xarg_lv ad as (k + 2) i v h
        rw [show k + (i + 2) = k + 2 + i by omega]
        exact List.mem_cons_of_mem _ this
    | false =>
      have hc2 : u.category ≠ 2 := Nat.ne_of_beq_eq_false hc
      rw [hc] at h
      rw [if_neg hc2]
      change (some u :: xarg as)[i]? = some (some v) at h
      match i, h with
      | 0, h => cases h; exact List.mem_cons_self
      | i + 1, h =>
        have := xarg_lv ad as (k + 1) i v h
        rw [show k + (i + 1) = k + 1 + i by omega]
        exact List.mem_cons_of_mem _ this
theorem xarg_len (ad : Nat → Nat) : ∀ as : List Value, (lg_sl (as.map (xcv ad))).length = (xarg as).length
  | [] => rfl
  | u :: as => by
    have ih := xarg_len ad as
    unfold xarg
    simp only [lg_sl, List.map_cons, List.flatMap_cons, List.length_append, xcv_cat]
    unfold lg_sl at ih
    rw [ih]
    cases hc : Nat.beq u.category 2 with
    | true =>
      rw [if_pos (Nat.eq_of_beq_eq_true hc)]
      simp only [cond_true, List.length_cons, List.length_nil]
      omega
    | false =>
      rw [if_neg (Nat.ne_of_beq_eq_false hc)]
      simp only [cond_false, List.length_cons, List.length_nil]
      omega
theorem xLok_entry {ad : Nat → Nat} {as : List Value} {n : Nat} (h : (xarg as).length ≤ n) : xLok ad ((lg_sl (as.map (xcv ad)) ++ List.replicate (n - (lg_sl (as.map (xcv ad))).length) Slot.unset).toArray) n (xarg as ++ List.replicate (n - (xarg as).length) none) := by
  have hl := lv_entry (as.map (xcv ad)) (n := n) (by rw [xarg_len]; exact h)
  refine ⟨by simp; omega, hl.1, hl.2.1, fun i v hi => ?_⟩
  have h1 : (xarg as)[i]? = some (some v) := by
    by_cases hlt : i < (xarg as).length
    · rw [List.getElem?_append_left hlt] at hi
      exact hi
    · rw [List.getElem?_append_right (by omega)] at hi
      have := List.eq_of_mem_replicate (List.mem_of_getElem? hi)
      cases this
  have h2 := xarg_lv ad as 0 i v h1
  rw [Nat.zero_add] at h2
  exact hl.2.2 _ h2
