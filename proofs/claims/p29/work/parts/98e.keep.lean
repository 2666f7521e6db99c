theorem xsop_no (c k : Nat) : xsop c k = none := rfl
theorem xsopS_no {M : xMI} {F F1 : xF} {k : Nat} (h : xsopS M (xsop (xm_c M) k) F = some F1) : False := by
  rw [xsop_no] at h
  unfold xsopS at h
  cases hc : (Nat.ble 5 (xm_f M) && Nat.ble 110 (xm_l M) && Nat.ble (F.2.2.1.map fun v => v.category).sum 8) with
  | false => rw [hc] at h; cases h
  | true => rw [hc, cond_true] at h; cases h
theorem xdcmp_inv {pc : Nat} {L : xL} {st : List Value} {w : xW} {F1 : xF} (h : xdcmp (pc, L, st, w) = some F1) : ∃ y x st1, st = .double y :: .double x :: st1 ∧ F1 = (pc + 1, L, .int (Op.cmpValue (FP.dcmp x y) .l) :: st1, w) := by
  unfold xdcmp at h
  split at h
  · next y x st1 heq => exact ⟨y, x, st1, heq, (Option.some.inj h).symm⟩
  · cases h
/-! no address beyond N; the ghost stays -/
def noS (N : Nat) : List Value → Prop
  | [] => True
  | .ref a :: st => (a < N ∨ 48 ≤ a) ∧ noS N st
  | _ :: st => noS N st
theorem noS_iff {N : Nat} : ∀ {st : List Value}, noS N st ↔ ∀ a, Value.ref a ∈ st → a < N ∨ 48 ≤ a
  | [] => ⟨(fun _ _ h => by cases h), (fun _ => trivial)⟩
  | v :: st => by
    have ih := noS_iff (N := N) (st := st)
    cases v with
    | ref b =>
      show ((b < N ∨ 48 ≤ b) ∧ noS N st) ↔ _
      rw [ih]
      constructor
      · rintro ⟨h1, h2⟩ a ha
        rcases List.mem_cons.mp ha with e | e
        · cases e; exact h1
        · exact h2 a e
      · intro h
        exact ⟨h b List.mem_cons_self, fun a ha => h a (List.mem_cons_of_mem _ ha)⟩
    | _ =>
      show noS N st ↔ _
      rw [ih]
      constructor
      · intro h a ha
        rcases List.mem_cons.mp ha with e | e
        · cases e
        · exact h a e
      · intro h a ha
        exact h a (List.mem_cons_of_mem _ ha)
def noL (N : Nat) (L : xL) : Prop := ∀ (i a : Nat), L[i]? = some (some (.ref a)) → a < N ∨ 48 ≤ a
def xNo (N : Nat) (F : xF) : Prop := noL N F.2.1 ∧ noS N F.2.2.1
theorem noL_set {N i : Nat} {L : xL} {v : Value} (h : noL N L) (hv : ∀ a, v = .ref a → a < N ∨ 48 ≤ a) : noL N ((xclr L i).set i (some v)) := fun j a hj => by
  rw [List.getElem?_set] at hj
  by_cases hij : i = j
  · rw [if_pos hij] at hj
    split at hj
    · cases hj
      exact hv a rfl
    · cases hj
  · rw [if_neg hij] at hj
    exact h j a (xclr_get hj).1
theorem noL_set2 {N i : Nat} {L : xL} {v : Value} (h : noL N L) (hv : ∀ a, v = .ref a → a < N ∨ 48 ≤ a) : noL N (((xclr L i).set (i + 1) none).set i (some v)) := fun j a hj => by
  rw [List.getElem?_set] at hj
  by_cases hij : i = j
  · rw [if_pos hij] at hj
    split at hj
    · cases hj
      exact hv a rfl
    · cases hj
  · rw [if_neg hij, List.getElem?_set] at hj
    by_cases hij2 : i + 1 = j
    · rw [if_pos hij2] at hj
      split at hj <;> simp at hj
    · rw [if_neg hij2] at hj
      exact h j a (xclr_get hj).1
theorem xshp_ref {a c k r : Nat} {ks : List (Option (Option Nat))} (h : xshp a = some (.inr (.inr (c, ks)))) (hk : ks[k]? = some (some (some r))) : r < 45 := by
  have h1 : (xshpL.all fun q => match q.2 with
    | .inr (.inr q) => q.2.all fun o => match o with
      | some (some r) => decide (r < 45)
      | _ => true
    | _ => true) = true := by decide +kernel
  have h2 := List.all_eq_true.mp h1 _ (xfind_mem h)
  have h3 := List.all_eq_true.mp h2 _ (List.mem_of_getElem? hk)
  exact of_decide_eq_true h3
theorem xuI_48 {w : xW} {a k : Nat} {x : Int32} (h : a < 48) : (xuI w a k x).1 48 = w.1 48 := xup_ne _ _ (by omega)
theorem xs1_keep {N : Nat} {M : xMI} {F F1 : xF} (hN : 45 ≤ N) (hF : xNo N F) (h : xs1 M F = some F1) : xNo N F1 ∧ F1.2.2.2.1 48 = F.2.2.2.1 48 := by
  obtain ⟨pc, L, st, w⟩ := F
  obtain ⟨hL, hS⟩ := hF
  unfold xs1 at h
  split at h
  · next i n hd =>
    cases i with
    | iconst k =>
      obtain rfl := xpush_inv h
      exact ⟨⟨hL, hS⟩, rfl⟩
    | bipush k =>
      obtain rfl := xpush_inv h
      exact ⟨⟨hL, hS⟩, rfl⟩
    | sipush k =>
      obtain rfl := xpush_inv h
      exact ⟨⟨hL, hS⟩, rfl⟩
    | lconst k =>
      obtain rfl := xpush_inv h
      exact ⟨⟨hL, hS⟩, rfl⟩
    | iload k =>
      obtain ⟨x, hv, rfl⟩ := xld1_inv h
      exact ⟨⟨hL, hS⟩, rfl⟩
    | iload_n k =>
      obtain ⟨x, hv, rfl⟩ := xld1_inv h
      exact ⟨⟨hL, hS⟩, rfl⟩
    | lload k =>
      obtain ⟨x, hv, rfl⟩ := xld2_inv h
      exact ⟨⟨hL, hS⟩, rfl⟩
    | lload_n k =>
      obtain ⟨x, hv, rfl⟩ := xld2_inv h
      exact ⟨⟨hL, hS⟩, rfl⟩
    | aload k =>
      obtain ⟨x, hv, rfl⟩ := xlda_inv h
      exact ⟨⟨hL, hL _ _ hv, hS⟩, rfl⟩
    | aload_n k =>
      obtain ⟨x, hv, rfl⟩ := xlda_inv h
      exact ⟨⟨hL, hL _ _ hv, hS⟩, rfl⟩
    | istore k =>
      obtain ⟨x, st1, rfl, hlt, rfl⟩ := xsti_inv h
      exact ⟨⟨noL_set hL (fun a e => by cases e), hS⟩, rfl⟩
    | istore_n k =>
      obtain ⟨x, st1, rfl, hlt, rfl⟩ := xsti_inv h
      exact ⟨⟨noL_set hL (fun a e => by cases e), hS⟩, rfl⟩
    | astore k =>
      obtain ⟨x, st1, rfl, hlt, rfl⟩ := xsta_inv h
      have hS : (x < N ∨ 48 ≤ x) ∧ noS N st1 := hS
      exact ⟨⟨noL_set hL (fun a e => by cases e; exact hS.1), hS.2⟩, rfl⟩
    | astore_n k =>
      obtain ⟨x, st1, rfl, hlt, rfl⟩ := xsta_inv h
      have hS : (x < N ∨ 48 ≤ x) ∧ noS N st1 := hS
      exact ⟨⟨noL_set hL (fun a e => by cases e; exact hS.1), hS.2⟩, rfl⟩
    | lstore k =>
      obtain ⟨x, st1, rfl, hlt, rfl⟩ := xstl_inv h
      exact ⟨⟨noL_set2 hL (fun a e => by cases e), hS⟩, rfl⟩
    | lstore_n k =>
      obtain ⟨x, st1, rfl, hlt, rfl⟩ := xstl_inv h
      exact ⟨⟨noL_set2 hL (fun a e => by cases e), hS⟩, rfl⟩
    | iinc k x =>
      obtain ⟨y, hv, hlt, rfl⟩ := xinc_inv h
      exact ⟨⟨noL_set hL (fun a e => by cases e), hS⟩, rfl⟩
    | iadd =>
      obtain ⟨y, x, st1, rfl, rfl⟩ := xb2_inv h
      exact ⟨⟨hL, hS⟩, rfl⟩
    | isub =>
      obtain ⟨y, x, st1, rfl, rfl⟩ := xb2_inv h
      exact ⟨⟨hL, hS⟩, rfl⟩
    | imul =>
      obtain ⟨y, x, st1, rfl, rfl⟩ := xb2_inv h
      exact ⟨⟨hL, hS⟩, rfl⟩
    | iand =>
      obtain ⟨y, x, st1, rfl, rfl⟩ := xb2_inv h
      exact ⟨⟨hL, hS⟩, rfl⟩
    | ior =>
      obtain ⟨y, x, st1, rfl, rfl⟩ := xb2_inv h
      exact ⟨⟨hL, hS⟩, rfl⟩
    | ixor =>
      obtain ⟨y, x, st1, rfl, rfl⟩ := xb2_inv h
      exact ⟨⟨hL, hS⟩, rfl⟩
    | ishl =>
      obtain ⟨y, x, st1, rfl, rfl⟩ := xb2_inv h
      exact ⟨⟨hL, hS⟩, rfl⟩
    | ishr =>
      obtain ⟨y, x, st1, rfl, rfl⟩ := xb2_inv h
      exact ⟨⟨hL, hS⟩, rfl⟩
    | iushr =>
      obtain ⟨y, x, st1, rfl, rfl⟩ := xb2_inv h
      exact ⟨⟨hL, hS⟩, rfl⟩
    | idiv =>
      obtain ⟨y, x, st1, rfl, hy, rfl⟩ := xb0_inv h
      exact ⟨⟨hL, hS⟩, rfl⟩
    | irem =>
      obtain ⟨y, x, st1, rfl, hy, rfl⟩ := xb0_inv h
      exact ⟨⟨hL, hS⟩, rfl⟩
    | ineg =>
      obtain ⟨x, st1, rfl, rfl⟩ := xb1_inv h
      exact ⟨⟨hL, hS⟩, rfl⟩
    | i2c =>
      obtain ⟨x, st1, rfl, rfl⟩ := xb1_inv h
      exact ⟨⟨hL, hS⟩, rfl⟩
    | land =>
      obtain ⟨y, x, st1, rfl, rfl⟩ := xj2_inv h
      exact ⟨⟨hL, hS⟩, rfl⟩
    | lor =>
      obtain ⟨y, x, st1, rfl, rfl⟩ := xj2_inv h
      exact ⟨⟨hL, hS⟩, rfl⟩
    | lxor =>
      obtain ⟨y, x, st1, rfl, rfl⟩ := xj2_inv h
      exact ⟨⟨hL, hS⟩, rfl⟩
    | ladd =>
      obtain ⟨y, x, st1, rfl, rfl⟩ := xj2_inv h
      exact ⟨⟨hL, hS⟩, rfl⟩
    | lsub =>
      obtain ⟨y, x, st1, rfl, rfl⟩ := xj2_inv h
      exact ⟨⟨hL, hS⟩, rfl⟩
    | lshl =>
      obtain ⟨y, x, st1, rfl, rfl⟩ := xji_inv h
      exact ⟨⟨hL, hS⟩, rfl⟩
    | lushr =>
      obtain ⟨y, x, st1, rfl, rfl⟩ := xji_inv h
      exact ⟨⟨hL, hS⟩, rfl⟩
    | lcmp =>
      obtain ⟨y, x, st1, rfl, rfl⟩ := xlcmp_inv h
      exact ⟨⟨hL, hS⟩, rfl⟩
    | l2i =>
      obtain ⟨x, st1, rfl, rfl⟩ := xl2i_inv h
      exact ⟨⟨hL, hS⟩, rfl⟩
    | i2d =>
      obtain ⟨x, st1, rfl, rfl⟩ := xi2d_inv h
      exact ⟨⟨hL, hS⟩, rfl⟩
    | ddiv =>
      obtain ⟨y, x, st1, rfl, hy, rfl⟩ := xddiv_inv h
      exact ⟨⟨hL, hS⟩, rfl⟩
    | dcmp nn =>
      cases nn with
      | l =>
        obtain ⟨y, x, st1, rfl, rfl⟩ := xdcmp_inv h
        exact ⟨⟨hL, hS⟩, rfl⟩
      | g => cases h
    | dup =>
      rcases xdup_inv h with ⟨x, st1, rfl, rfl⟩ | ⟨x, st1, rfl, rfl⟩
      · exact ⟨⟨hL, hS⟩, rfl⟩
      · have hS : (x < N ∨ 48 ≤ x) ∧ noS N st1 := hS
        exact ⟨⟨hL, hS.1, hS⟩, rfl⟩
    | dup2 =>
      obtain ⟨y, x, st1, rfl, rfl⟩ := xdup2_inv h
      have hS : (x < N ∨ 48 ≤ x) ∧ noS N st1 := hS
      exact ⟨⟨hL, hS.1, hS⟩, rfl⟩
    | pop =>
      obtain ⟨x, st1, rfl, rfl⟩ := xpop_inv h
      exact ⟨⟨hL, hS⟩, rfl⟩
    | goto o =>
      cases h
      exact ⟨⟨hL, hS⟩, rfl⟩
    | ifCond cd o =>
      cases cd <;>
      · obtain ⟨x, st1, rfl, rfl⟩ := xbr1_inv h
        exact ⟨⟨hL, hS⟩, rfl⟩
    | if_icmp cd o =>
      cases cd <;>
      · obtain ⟨y, x, st1, rfl, rfl⟩ := xbr2_inv h
        exact ⟨⟨hL, hS⟩, rfl⟩
    | tableswitch d lo hi offs =>
      obtain ⟨x, st1, tg, rfl, rfl, ht⟩ := xtsw_inv h
      exact ⟨⟨hL, hS⟩, rfl⟩
    | lookupswitch d ps =>
      obtain ⟨x, st1, tg, rfl, rfl, h1, h2⟩ := xlsw_inv h
      exact ⟨⟨hL, hS⟩, rfl⟩
    | getfield k =>
      obtain ⟨cj, j, a, st1, ks, kd, hlk2, rfl, hs, hk, rfl⟩ := xgetf_inv (c := xm_c M) h
      have hS : (a < N ∨ 48 ≤ a) ∧ noS N st1 := hS
      rcases kd with _ | _ | r
      · exact ⟨⟨hL, hS.2⟩, rfl⟩
      · exact ⟨⟨hL, hS.2⟩, rfl⟩
      · have := xshp_ref hs hk
        exact ⟨⟨hL, (show r < N ∨ 48 ≤ r by omega), hS.2⟩, rfl⟩
    | putfield k =>
      obtain ⟨cj, j, a, st1, ks, hlk2, hs, hv⟩ := xputf_inv h
      rcases hv with ⟨x, rfl, hk, hbl, rfl⟩ | ⟨x, rfl, hk, rfl⟩
      · have hS : (a < N ∨ 48 ≤ a) ∧ noS N st1 := hS
        exact ⟨⟨hL, hS.2⟩, xuI_48 (xshp_lt hs)⟩
      · have hS : (a < N ∨ 48 ≤ a) ∧ noS N st1 := hS
        exact ⟨⟨hL, hS.2⟩, rfl⟩
    | iaload =>
      obtain ⟨j, a, st1, k, rfl, hs, hin, rfl⟩ := xiald_inv h
      have hS : (a < N ∨ 48 ≤ a) ∧ noS N st1 := hS
      exact ⟨⟨hL, hS.2⟩, rfl⟩
    | laload =>
      obtain ⟨j, a, st1, k, rfl, hs, hin, rfl⟩ := xlald_inv h
      have hS : (a < N ∨ 48 ≤ a) ∧ noS N st1 := hS
      exact ⟨⟨hL, hS.2⟩, rfl⟩
    | iastore =>
      obtain ⟨x, j, a, st1, k, rfl, hs, hin, rfl⟩ := xiast_inv h
      have hS : (a < N ∨ 48 ≤ a) ∧ noS N st1 := hS
      exact ⟨⟨hL, hS.2⟩, xuI_48 (xshp_lt hs)⟩
    | lastore =>
      obtain ⟨x, j, a, st1, k, rfl, hs, hin, rfl⟩ := xlast_inv h
      have hS : (a < N ∨ 48 ≤ a) ∧ noS N st1 := hS
      exact ⟨⟨hL, hS.2⟩, rfl⟩
    | arraylength =>
      obtain ⟨a, st1, k, rfl, hs, rfl⟩ := xalen_inv h
      have hS : (a < N ∨ 48 ≤ a) ∧ noS N st1 := hS
      exact ⟨⟨hL, hS.2⟩, rfl⟩
    | ldc k =>
      rcases xldc1_inv h with ⟨v, hv, rfl⟩ | ⟨v, hv, rfl⟩
      · exact ⟨⟨hL, hS⟩, rfl⟩
      · exact absurd (xcon_ok hv) (fun z => z)
    | ldc_w k =>
      obtain ⟨v, hv, rfl⟩ := xldcw_inv h
      exact ⟨⟨hL, hS⟩, rfl⟩
    | ldc2_w k =>
      rcases xldc2_inv h with ⟨v, hv, rfl⟩ | ⟨v, hv, rfl⟩
      · exact ⟨⟨hL, hS⟩, rfl⟩
      · exact ⟨⟨hL, hS⟩, rfl⟩
    | invokestatic k =>
      obtain ⟨b, y, x, st1, hpr, rfl, hf1, hl1, rfl⟩ := xmath_inv h
      exact ⟨⟨hL, hS⟩, rfl⟩
    | invokevirtual k => exact absurd (xsopS_no (k := k) h) (fun z => z)
    | _ => exact absurd h (fun z => by cases z)
  · cases h
