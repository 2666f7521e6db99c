/-! isForbidden's new array; every run is a run of the kit's machine -/
section
variable {D : va_G} {cI cJ : ClassId} {N sz kc uc mc : Nat} {ad : Nat → Nat} {M : xMI}
variable {p : Program} {l : Launch} {e : Env} {s : State} {m : MethodId} {args : Array Value} {below : List Frame} {meth : Method} {c : Code} {Q : State → Prop} {F F1 : xF}
theorem xcell_eq {ad' : Nat → Nat} {w w' : xW} {a : Nat} (h1 : w'.1 a = w.1 a) (h2 : w'.2 a = w.2 a) (h3 : ∀ r, r < 45 → ad' r = ad r) : xcell cI cJ ad' w' a = xcell cI cJ ad w a := by
  cases hs : xshp a with
  | none =>
    unfold xcell
    rw [hs]
  | some sh =>
    rcases sh with n | n | ⟨cc, ks⟩
    · rw [xcell_I hs, xcell_I hs, h1]
    · rw [xcell_J hs, xcell_J hs, h2]
    · rw [xcell_O hs, xcell_O hs]
      refine congrArg Sum.inr (congrArg (Prod.mk cc) ?_)
      apply List.ext_getElem?
      intro i
      rw [List.getElem?_mapIdx, List.getElem?_mapIdx]
      show (ks[i]?).map _ = (ks[i]?).map _
      cases hk : ks[i]? with
      | none => rfl
      | some kd =>
        simp only [Option.map_some]
        congr 1
        rcases kd with _ | _ | r
        · show Value.int (w'.1 a i) = Value.int (w.1 a i)
          rw [h1]
        · show Value.long (w'.2 a i) = Value.long (w.2 a i)
          rw [h2]
        · show Value.ref (ad' r) = Value.ref (ad r)
          rw [h3 r (xshp_ref hs hk)]
theorem xnew_kq' {w : xW} {a : Nat} (h7 : a ≠ 47) (h8 : a ≠ 48) : (xnew w).1 a = w.1 a := by
  show xup (xup w.1 47 (fun _ => 0)) 48 _ a = _
  rw [xup_ne _ _ h8, xup_ne _ _ h7]
theorem xws_new {w : xW} {q : Nat} : xws 47 cI cJ ad w ++ [(q, .inl (cI, 10, .inl (fun _ => 0)))] = xws 48 cI cJ (fun i => if i = 47 then q else ad i) (xnew w) := by
  unfold xws
  rw [List.range_succ (n := 47), List.map_append]
  congr 1
theorem xP_sub {ad' : Nat → Nat} {w w' : xW} {H : Heap} (h1 : ∀ a, a < 47 → ad' a = ad a ∧ w'.1 a = w.1 a ∧ w'.2 a = w.2 a) (h : va_P D vwCl (xws 48 cI cJ ad' w') H) : va_P D vwCl (xws 47 cI cJ ad w) H := fun k q hq => by
  by_cases hk : k < 47
  · obtain ⟨e1, e2, e3⟩ := h1 k hk
    refine h k q ?_
    rw [xws_get (by omega)]
    rw [xws_get hk] at hq
    rw [← hq, e1, xcell_eq e2 e3 (fun r hr => (h1 r (by omega)).1)]
  · have : (xws 47 cI cJ ad w)[k]? = none := by simp [xws]; omega
    rw [this] at hq
    cases hq
theorem xLok_ad {ad' : Nat → Nat} {ls : Array Slot} {n : Nat} {L : xL} (h : xLok ad ls n L) (hL : ∀ (i a : Nat), L[i]? = some (some (.ref a)) → a < 47) (h1 : ∀ a, a < 47 → ad' a = ad a) : xLok ad' ls n L := ⟨h.1, h.2.1, h.2.2.1, fun i v hi => by
  have h2 := h.2.2.2 i v hi
  cases v with
  | ref a =>
    show ls[i]? = some (.val (.ref (ad' a)))
    rw [h1 a (hL i a hi)]
    exact h2
  | _ => exact h2⟩
theorem W_mono {R : Room} {H : Heap} {locs : List Loc} {cells slots : Nat} {Q' : State → Prop} {g : JFrame} (h : ∀ t, Q t → Q' t) (k : W p l e R s m args below meth c H locs cells slots Q g) : W p l e R s m args below meth c H locs cells slots Q' g := fun T hT X => by
  obtain ⟨t, a, b⟩ := k T hT X
  exact ⟨t, a, h t b⟩
theorem karI : Cond.arrayClass .int ∈ xTB := List.mem_filter.mpr ⟨by decide +kernel, rfl⟩
set_option maxRecDepth 100000 in
theorem met_forb {w w3 : xW} {r2 : Option Value} (hi : xinj 47 sz ad) (h0 : w.1 48 0 = 0) (h1 : w.1 48 1 = 0) (h2 : w3.1 48 0 = 1) (h3 : w3.1 48 1 = 0) (h : xsem D cI cJ l ML_isForbidden (xfe w) r2 w3) : Met l (xm_y ML_isForbidden) (xwsM ML_isForbidden) (xrm ML_isForbidden 1) (xPc 47 D cI cJ ad [.ref 0, .ref 45] w) (xQo 47 D cI cJ ad sz r2 (xend w3)) 1 (10 * 1) (xA sz) := by
  have hM : xmOK ML_isForbidden := mkL_isForbidden
  have hnc : nc (xfe w).2.2.2 = 48 := rfl
  have hcw : cw (xfe w).2.2.2 = 1 := by
    show (if (1 : Int32) = 1 then 1 else 0) + (if (xnew w).1 48 1 = 0 then 0 else 1) = 1
    rw [show (xnew w).1 48 1 = w.1 48 1 from rfl, h1]
    rfl
  have hcw3 : cw w3 = 1 := by
    unfold cw
    rw [h2, h3]
    rfl
  have hxno : xNo 48 (xfe w) := by
    refine ⟨fun i a hia => ?_, trivial⟩
    have hia : ([some (.ref 0), some (.ref 45), some (.ref 47), none, none, none, none, none, none, none, none] : xL)[i]? = some (some (.ref a)) := hia
    match i, hia with
    | 0, h => cases h; decide
    | 1, h => cases h; decide
    | 2, h => cases h; decide
    | i + 3, h =>
      exfalso
      have hm := List.mem_of_getElem? (l := ([none, none, none, none, none, none, none, none] : xL)) (i := i) (a := some (.ref a)) h
      simp at hm
  obtain ⟨⟨a1, a2, a3⟩, a4⟩ := h hM.1 (by rw [hnc]; exact hxno)
  rw [hnc] at a2 a4
  rw [hcw, hcw3] at a4
  have hr2 : ∀ ad' : Nat → Nat, r2.map (xcv ad') = r2.map (xcv ad) := fun ad' => by
    cases r2 with
    | none => rfl
    | some v =>
      cases v with
      | ref a =>
        obtain ⟨_, nm, e1⟩ := a2 a rfl
        cases e1
      | _ => rfl
  refine Met.ofW (cc := xm_b ML_isForbidden) (maxL := xm_n ML_isForbidden) (ret := xm_r ML_isForbidden) hM.2.1 rfl ?_
  intro p e s m args below meth c s₁ B hml hv
  obtain ⟨rfl, hP, hG⟩ := hv
  have hts := atoms_spec (ws := xwsM ML_isForbidden) B.pre
  have hT : ∀ w ∈ xTB, w.before _ s = true := fun w hw => hts w (List.mem_cons_of_mem _ hw)
  have hown : s.vm.findClass (xcls (xm_c ML_isForbidden)) = some m.cls := by
    rw [← hM.2.2.2.2.2]
    exact findClass_of_methodNamed B.named
  have hsz : sz ≤ s.heap.size := by
    have b1 := (hP 0 _ (xws_get (N := 47) (cI := cI) (cJ := cJ) (ad := ad) (w := w) (by omega))).lt
    have b2 := hi.2 0 (by omega)
    have b1 : ad 0 < s.heap.size := b1
    omega
  have d0 : decode (xm_b ML_isForbidden) 0 = .ok (.bipush 10, 2) := (xdec hM.1 (pc := 0) (i := .bipush 10) (n := 2) rfl).1
  have d2 : decode (xm_b ML_isForbidden) 2 = .ok (.newarray .int, 2) := (xdec hM.1 (pc := 2) (i := .newarray .int) (n := 2) rfl).1
  have d4 : decode (xm_b ML_isForbidden) 4 = .ok (.astore_n 2, 1) := (xdec hM.1 (pc := 4) (i := .astore_n 2) (n := 1) rfl).1
  have hL := xLok_entry (ad := ad) (as := [.ref 0, .ref 45]) (n := xm_n ML_isForbidden) (by decide)
  rw [lg_entry_eq]
  generalize ((lg_sl (([.ref 0, .ref 45] : List Value).map (xcv ad)) ++ List.replicate (xm_n ML_isForbidden - (lg_sl (([.ref 0, .ref 45] : List Value).map (xcv ad))).length) Slot.unset).toArray) = ls at hL ⊢
  refine lv_bipush (v := 10) B.exec B.bytes d0 rfl ?_
  refine knewI (N := 10) B.exec B.bytes (hT _ karI) hG.1 hP (xD_ok hi w) va_S.rf (fun q hq => Nat.le_trans hsz hq) (by decide) (by decide) (by decide) (Nat.le_of_ble_eq_true rfl) (Nat.le_of_ble_eq_true rfl) d2 (fun q H1 hP1 hD1 hS1 => ?_)
  refine lv_astore_n B.exec B.bytes d4 rfl hL.has (by decide) rfl (fun ls1 hls1 => ?_)
  have hq47 : ∀ i, i < 47 → ad i ≠ q := fun i hi47 e1 => by
    have g1 : (xws 47 cI cJ ad w ++ [(q, .inl (cI, 10, .inl (fun _ => 0)))])[i]? = some (ad i, xcell cI cJ ad w i) := by
      rw [List.getElem?_append_left (by simp [xws]; omega), xws_get hi47]
    have g2 : (xws 47 cI cJ ad w ++ [(q, .inl (cI, 10, .inl (fun _ => 0)))])[47]? = some (q, .inl (cI, 10, .inl (fun _ => 0))) := by
      rw [List.getElem?_append_right (by simp [xws])]
      simp [xws]
    have := hD1.1 i 47 _ _ g1 g2 e1
    omega
  have hqsz : sz ≤ q := by
    have g2 : (xws 47 cI cJ ad w ++ [(q, .inl (cI, 10, .inl (fun _ => 0)))])[47]? = some (q, .inl (cI, 10, .inl (fun _ => 0))) := by
      rw [List.getElem?_append_right (by simp [xws])]
      simp [xws]
    exact hD1.2 47 _ g2
  have hi48 : xinj 48 sz (fun i => if i = 47 then q else ad i) := by
    refine ⟨fun i j hi1 hj1 e1 => ?_, fun i hi1 => ?_⟩
    · dsimp only at e1
      by_cases z1 : i = 47
      · by_cases z2 : j = 47
        · omega
        · rw [if_pos z1, if_neg z2] at e1
          exact absurd e1.symm (hq47 j (by omega))
      · by_cases z2 : j = 47
        · rw [if_neg z1, if_pos z2] at e1
          exact absurd e1 (hq47 i (by omega))
        · rw [if_neg z1, if_neg z2] at e1
          exact hi.1 i j (by omega) (by omega) e1
    · dsimp only
      by_cases z1 : i = 47
      · rw [if_pos z1]
        exact hqsz
      · rw [if_neg z1]
        exact hi.2 i (by omega)
  rw [xws_new] at hP1
  have hb := a4 (fun i => if i = 47 then q else ad i) sz hi48 0 (by omega) p e s m _ below meth c ⟨B.exec, B.bytes, hml, B.returns, B.notSynchronized, hown, hT, hG⟩ H1 [] ls1 hP1 hS1 ?_
  · refine W_mono (fun t ht => ?_) hb
    obtain ⟨o, b1, b2, ⟨c1, c2, c3⟩, b4⟩ := ht
    refine ⟨o, b1, b2, ⟨c1.trans (by rw [hr2]), xP_sub (w' := w3) (fun a ha => ⟨if_neg (show ¬ a = 47 by omega), ?_, rfl⟩) c2, c3⟩, b4⟩
    exact (xup_ne _ _ (show a ≠ 48 by omega)).symm
  · refine ⟨rfl, hls1.1, hls1.2.1, fun i v hiv => ?_⟩
    match i, hiv with
    | 0, hiv =>
      cases hiv
      exact hls1.2.2 (0, .ref (ad 0)) (List.mem_cons_of_mem _ (List.mem_filter.mpr ⟨xLl_of (ad := ad) (v := .ref 0) rfl, rfl⟩))
    | 1, hiv =>
      cases hiv
      exact hls1.2.2 (1, .ref (ad 45)) (List.mem_cons_of_mem _ (List.mem_filter.mpr ⟨xLl_of (ad := ad) (v := .ref 45) rfl, rfl⟩))
    | 2, hiv =>
      cases hiv
      exact hls1.2.2 (2, .ref q) List.mem_cons_self
    | i + 3, hiv =>
      exfalso
      have hm := List.mem_of_getElem? (l := ([none, none, none, none, none, none, none, none] : xL)) (i := i) (a := some v) hiv
      simp at hm
end
