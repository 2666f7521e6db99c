/-! the reference: fragments -/
def gF (w : xW) (l : List xFr) : Prop := w.1 45 24 = nI l.length ∧ ∀ (i : Nat) (q : xFr), l[i]? = some q → w.1 59 i = q.1 ∧ w.1 60 i = q.2
theorem gF_kq {w w1 : xW} {l : List xFr} {L : xCS} (h : gF w l) (k : xkq L w w1) (h1 : cin L 45 24 = false := by rfl) (hL : cno L [59, 60] = true := by rfl) : gF w1 l := ⟨(k 45 24 h1).1.trans h.1, fun i q hi => ⟨(k 59 i (cno_at hL (by simp) i)).1.trans (h.2 i q hi).1, (k 60 i (cno_at hL (by simp) i)).1.trans (h.2 i q hi).2⟩⟩
theorem m_isFr {w : xW} {l : List xFr} {x : Int32} (hl : gF w l) (h45 : l.length ≤ 45) : xC MX8_isFragment [.ref 45, .int x] w (some (.int (if l.any (fun q => decide (q.1 = x)) = true then 1 else 0))) w := by
  unfold xC
  show xE MX8_isFragment (0, [some (.ref 45), some (.int x), none, none], [], w) _ _
  refine xE.go 4 (F1 := (4, [some (.ref 45), some (.int x), some (.int 0), some (.int 0)], [], w)) rfl ?_
  refine xE.loop (S := Unit) (fun k s => (4, [some (.ref 45), some (.int x), some (.int (if (l.take k).any (fun q => decide (q.1 = x)) = true then 1 else 0)), some (.int (nI k))], [], w)) (fun _ _ => True) l.length () (rfl) (trivial) ?_ ?_
  · intro k s hk hI K
    have K := K () trivial
    have hlk : l[k]? = some l[k] := List.getElem?_eq_getElem hk
    rw [show (l.take (k + 1)).any (fun q => decide (q.1 = x)) = ((l.take k).any (fun q => decide (q.1 = x)) || decide (l[k].1 = x)) by rw [List.take_add_one, hlk, List.any_append]; simp] at K
    refine xE.go 4 (F1 := (bif decide ((w.1 45 24) ≤ (nI k)) then 38 else 12, [some (.ref 45), some (.int x), some (.int (if (l.take k).any (fun q => decide (q.1 = x)) = true then 1 else 0)), some (.int (nI k))], [], w)) rfl ?_
    refine xE.brF (by rw [hl.1]; exact decide_eq_false (nI_ge hk (by omega))) ?_
    refine xE.go 2 (F1 := (bif !decide ((if (l.take k).any (fun q => decide (q.1 = x)) = true then 1 else 0) = 0) then 26 else 16, [some (.ref 45), some (.int x), some (.int (if (l.take k).any (fun q => decide (q.1 = x)) = true then 1 else 0)), some (.int (nI k))], [], w)) rfl ?_
    cases hb : (l.take k).any (fun q => decide (q.1 = x)) with
    | true =>
      rw [hb, Bool.true_or] at K
      refine xE.brT rfl ?_
      refine xE.go 5 (F1 := (4, [some (.ref 45), some (.int x), some (.int 1), some (.int ((nI k) + 1))], [], w)) rfl ?_
      rw [← nI_succ]
      exact K
    | false =>
      rw [hb, Bool.false_or] at K
      refine xE.brF rfl ?_
      refine xE.go 3 (F1 := (21, [some (.ref 45), some (.int x), some (.int (if false = true then 1 else 0)), some (.int (nI k))], [.int (nI k), .ref 59], w)) rfl ?_
      refine xE.iald rfl (k := k) (rfl) (⟨by omega, by omega⟩) rfl ?_
      show xE MX8_isFragment (22, [some (.ref 45), some (.int x), some (.int (if false = true then 1 else 0)), some (.int (nI k))], [.int (w.1 59 k)], w) _ _
      rw [(hl.2 k _ hlk).1]
      refine xE.go 2 (F1 := (bif !decide ((l[k].1) = x) then 30 else 26, [some (.ref 45), some (.int x), some (.int (if false = true then 1 else 0)), some (.int (nI k))], [], w)) rfl ?_
      cases hq : decide (l[k].1 = x) with
      | true =>
        rw [hq] at K
        refine xE.brF rfl ?_
        refine xE.go 5 (F1 := (4, [some (.ref 45), some (.int x), some (.int 1), some (.int ((nI k) + 1))], [], w)) rfl ?_
        rw [← nI_succ]
        exact K
      | false =>
        rw [hq] at K
        refine xE.brT rfl ?_
        refine xE.go 4 (F1 := (4, [some (.ref 45), some (.int x), some (.int 0), some (.int ((nI k) + 1))], [], w)) rfl ?_
        rw [← nI_succ]
        exact K
  · intro s hI
    rw [List.take_length]
    refine xE.go 4 (F1 := (bif decide ((w.1 45 24) ≤ (nI l.length)) then 38 else 12, [some (.ref 45), some (.int x), some (.int (if l.any (fun q => decide (q.1 = x)) = true then 1 else 0)), some (.int (nI l.length))], [], w)) rfl ?_
    refine xE.brT (by rw [hl.1]; exact decide_eq_true (Int32.le_refl _)) ?_
    refine xE.go 1 (F1 := (39, [some (.ref 45), some (.int x), some (.int (if l.any (fun q => decide (q.1 = x)) = true then 1 else 0)), some (.int (nI l.length))], [.int (if l.any (fun q => decide (q.1 = x)) = true then 1 else 0)], w)) rfl ?_
    exact xE.iret .boolean 1 rfl rfl (by cases l.any (fun q => decide (q.1 = x)) <;> rfl)
theorem m_addFr {w : xW} {l : List xFr} {x c : Int32} (hl : gF w l) (h45 : l.length < 45) : xD MX8_addFragment [.ref 45, .int x, .int c] w (fun r w1 => r = none ∧ gF w1 (l ++ [(x, c)]) ∧ xkq [(45, some 24), (59, none), (60, none)] w w1) := by
  refine xD.of ?_
  show xQ MX8_addFragment (0, [some (.ref 45), some (.int x), some (.int c)], [], w) _
  refine xQ.go 5 (F1 := (9, [some (.ref 45), some (.int x), some (.int c)], [.int x, .int (w.1 45 24), .ref 59], w)) rfl ?_
  refine xQ.iast rfl (k := l.length) (hl.1) (⟨by omega, by omega⟩) rfl ?_
  show xQ MX8_addFragment (10, [some (.ref 45), some (.int x), some (.int c)], [], (xuI w 59 l.length x)) _
  refine xQ.go 5 (F1 := (19, [some (.ref 45), some (.int x), some (.int c)], [.int c, .int (w.1 45 24), .ref 60], (xuI w 59 l.length x))) rfl ?_
  refine xQ.iast rfl (k := l.length) (hl.1) (⟨by omega, by omega⟩) rfl ?_
  show xQ MX8_addFragment (20, [some (.ref 45), some (.int x), some (.int c)], [], (xuI (xuI w 59 l.length x) 60 l.length c)) _
  refine xQ.go 5 (F1 := (27, [some (.ref 45), some (.int x), some (.int c)], [.int ((w.1 45 24) + 1), .ref 45], (xuI (xuI w 59 l.length x) 60 l.length c))) rfl ?_
  rw [hl.1, ← nI_succ]
  refine xQ.go 1 (F1 := (30, [some (.ref 45), some (.int x), some (.int c)], [], (xuI (xuI (xuI w 59 l.length x) 60 l.length c) 45 24 (nI (l.length + 1))))) rfl ?_
  refine xQ.vret 1 rfl rfl ?_
  refine ⟨rfl, ⟨by rw [uI1, if_pos ⟨rfl, rfl⟩, List.length_append]; rfl, fun i q hi => ?_⟩, xkq_I (xkq_I (xkq_I xkq_rfl rfl) rfl) rfl⟩
  by_cases e : i = l.length
  · subst e
    have : (l ++ [(x, c)])[l.length]? = some (x, c) := by simp
    rw [this] at hi
    cases hi
    simp [uI1]
  · have hlt := (List.getElem?_eq_some_iff.mp hi).1
    rw [List.length_append] at hlt
    simp only [List.length_cons, List.length_nil] at hlt
    rw [List.getElem?_append_left (by omega)] at hi
    have := hl.2 i q hi
    simpa [uI1, e] using this
theorem m_ctc {w : xW} {H P : Nat → Nat → Bool} {PV D : Nat → Bool} {E : Nat} (hH : iB w H) (hP : pM w P PV E) : xC MX8_contactsOf [.ref 45, .int (mk D)] w (some (.int (mk (ctc H PV D)))) w := by
  unfold xC
  show xE MX8_contactsOf (0, [some (.ref 45), some (.int (mk D)), none, none], [], w) _ _
  refine xE.go 4 (F1 := (4, [some (.ref 45), some (.int (mk D)), some (.int 0), some (.int 0)], [], w)) rfl ?_
  refine xE.loop (S := Unit) (fun k s => (4, [some (.ref 45), some (.int (mk D)), some (.int (mk (fun v => anyv (fun u => D u && H u v) k && PV v))), some (.int (nI k))], [], w)) (fun _ _ => True) 10 () (by rw [show mk (fun v => anyv (fun u => D u && H u v) 0 && PV v) = 0 by rw [mk_0]; exact mk_ext fun v _ => by simp [anyv]]; rfl) (trivial) ?_ ?_
  · intro k s hk hI K
    have K := K () trivial
    refine xE.go 3 (F1 := (bif decide (10 ≤ (nI k)) then 43 else 10, [some (.ref 45), some (.int (mk D)), some (.int (mk (fun v => anyv (fun u => D u && H u v) k && PV v))), some (.int (nI k))], [], w)) rfl ?_
    refine xE.brF (decide_eq_false (nI_ge (b := 10) (by omega) (by omega))) ?_
    refine xE.go 8 (F1 := (bif !decide ((((mk D) >>> ((nI k) &&& 31)) &&& 1) = 1) then 34 else 20, [some (.ref 45), some (.int (mk D)), some (.int (mk (fun v => anyv (fun u => D u && H u v) k && PV v))), some (.int (nI k))], [.int (mk (fun v => anyv (fun u => D u && H u v) k && PV v))], w)) rfl ?_
    rw [mk_get _ hk, b01e]
    have hst : mk (fun v => anyv (fun u => D u && H u v) (k + 1) && PV v) = if D k = true then mk (fun v => (anyv (fun u => D u && H u v) k && PV v) || (H k v && PV v)) else mk (fun v => anyv (fun u => D u && H u v) k && PV v) := by
      by_cases hD : D k = true
      · rw [if_pos hD]
        refine mk_ext fun v _ => ?_
        show ((anyv _ k || (D k && H k v)) && PV v) = _
        rw [hD, Bool.true_and, Bool.and_or_distrib_right]
      · rw [if_neg hD]
        refine mk_ext fun v _ => ?_
        show ((anyv _ k || (D k && H k v)) && PV v) = _
        rw [Bool.eq_false_iff.mpr hD, Bool.false_and, Bool.or_false]
    rw [hst] at K
    by_cases hD : D k = true
    · rw [if_pos hD] at K
      rw [hD]
      refine xE.brF rfl ?_
      refine xE.go 3 (F1 := (25, [some (.ref 45), some (.int (mk D)), some (.int (mk (fun v => anyv (fun u => D u && H u v) k && PV v))), some (.int (nI k))], [.int (nI k), .ref 55, .int (mk (fun v => anyv (fun u => D u && H u v) k && PV v))], w)) rfl ?_
      refine xE.iald rfl (k := k) (rfl) (⟨by omega, by omega⟩) rfl ?_
      show xE MX8_contactsOf (26, [some (.ref 45), some (.int (mk D)), some (.int (mk (fun v => anyv (fun u => D u && H u v) k && PV v))), some (.int (nI k))], [.int (w.1 55 k), .int (mk (fun v => anyv (fun u => D u && H u v) k && PV v))], w) _ _
      rw [hH k hk]
      refine xE.go 3 (F1 := (31, [some (.ref 45), some (.int (mk D)), some (.int (mk (fun v => anyv (fun u => D u && H u v) k && PV v))), some (.int (nI k))], [.int ((mk (H k)) &&& (w.1 45 19)), .int (mk (fun v => anyv (fun u => D u && H u v) k && PV v))], w)) rfl ?_
      rw [hP.2.1, mk_and]
      refine xE.go 2 (F1 := (36, [some (.ref 45), some (.int (mk D)), some (.int (mk (fun v => anyv (fun u => D u && H u v) k && PV v))), some (.int (nI k))], [.int ((mk (fun v => anyv (fun u => D u && H u v) k && PV v)) ||| (mk (fun v => H k v && PV v)))], w)) rfl ?_
      rw [mk_or]
      refine xE.go 3 (F1 := (4, [some (.ref 45), some (.int (mk D)), some (.int (mk (fun v => (anyv (fun u => D u && H u v) k && PV v) || (H k v && PV v)))), some (.int ((nI k) + 1))], [], w)) rfl ?_
      rw [← nI_succ]
      exact K
    · rw [if_neg hD] at K
      rw [Bool.eq_false_iff.mpr hD]
      refine xE.brT rfl ?_
      refine xE.go 2 (F1 := (36, [some (.ref 45), some (.int (mk D)), some (.int (mk (fun v => anyv (fun u => D u && H u v) k && PV v))), some (.int (nI k))], [.int ((mk (fun v => anyv (fun u => D u && H u v) k && PV v)) ||| 0)], w)) rfl ?_
      rw [Int32.or_zero]
      refine xE.go 3 (F1 := (4, [some (.ref 45), some (.int (mk D)), some (.int (mk (fun v => anyv (fun u => D u && H u v) k && PV v))), some (.int ((nI k) + 1))], [], w)) rfl ?_
      rw [← nI_succ]
      exact K
  · intro s hI
    refine xE.go 3 (F1 := (bif decide (10 ≤ (nI 10)) then 43 else 10, [some (.ref 45), some (.int (mk D)), some (.int (mk (fun v => anyv (fun u => D u && H u v) 10 && PV v))), some (.int (nI 10))], [], w)) rfl ?_
    refine xE.brT (rfl) ?_
    refine xE.go 1 (F1 := (44, [some (.ref 45), some (.int (mk D)), some (.int (mk (fun v => anyv (fun u => D u && H u v) 10 && PV v))), some (.int (nI 10))], [.int (mk (fun v => anyv (fun u => D u && H u v) 10 && PV v))], w)) rfl ?_
    exact xE.iret .int 1 rfl rfl (rfl)
def pcn (n : Nat) : Nat := cnt (fun c => decide (c / 10 < c % 10)) n
theorem frs_len {H : Nat → Nat → Bool} {S : Nat → Bool} {P : Nat → Nat → Bool} {PV : Nat → Bool} : ∀ n, (frs H S P PV n).length ≤ pcn n
  | 0 => Nat.le_refl _
  | n + 1 => by
    have ih := frs_len (H := H) (S := S) (P := P) (PV := PV) n
    have e1 : frs H S P PV (n + 1) = if n / 10 < n % 10 then frAdd H S P PV (frs H S P PV n) (n / 10) (n % 10) else frs H S P PV n := rfl
    have e2 : pcn (n + 1) = pcn n + (bif decide (n / 10 < n % 10) then 1 else 0) := rfl
    rw [e1, e2]
    by_cases h : n / 10 < n % 10
    · rw [if_pos h, decide_eq_true h]
      have : (frAdd H S P PV (frs H S P PV n) (n / 10) (n % 10)).length ≤ (frs H S P PV n).length + 1 := by
        unfold frAdd
        split
        · split
          · rw [List.length_append]; exact Nat.le_refl _
          · split
            · omega
            · rw [List.length_append]; exact Nat.le_refl _
        · omega
      show _ ≤ pcn n + 1
      omega
    · rw [if_neg h, decide_eq_false h]
      exact ih
theorem pcn_lt {a b : Nat} (hab : a < b) (hb : b < 10) : pcn (10 * a + b) < 45 := by
  have : ∀ a, a < 10 → ∀ b, b < 10 → a < b → pcn (10 * a + b) < 45 := by decide +kernel
  exact this a (by omega) b hb hab
theorem cmp_free {H : Nat → Nat → Bool} {S PV : Nat → Bool} (hb : BIC H S) {x : Nat} (hx : x < 10) (hSx : S x = true) (hPx : PV x = false) : mk (rch H (fun v => !PV v) (fun v => decide (v = x))) = mk (cmp H S PV x) := mk_ext fun v hv => by
  apply Bool.eq_iff_iff.mpr
  constructor
  · intro h
    refine (con_ind (G := H) (A := fun v => !PV v) (x := x) (fun v => cmp H S PV x v = true) (fun _ => cmp_self hSx hPx) (fun u v hu hv hP hg hA => ?_) hv h)
    exact cmp_step hu hv hP hg (hb.2.2.1 _ _ hg).2.2.2 (by simpa using hA)
  · intro h
    exact con_mono (fun u _ hu => by rw [Bool.and_eq_true] at hu; exact hu.2) hx hv h
theorem m_frags {w : xW} {H P : Nat → Nat → Bool} {S PV : Nat → Bool} {E : Nat} (hb : BIC H S) (hH : iB w H) (hP : pM w P PV E) : xD MX8_findFragments [.ref 45] w (fun r w1 => r = none ∧ gF w1 (frs H S P PV 100) ∧ xkq [(45, some 24), (59, none), (60, none)] w w1) := by
  refine xD.of ?_
  show xQ MX8_findFragments (0, [some (.ref 45), none, none, none, none, none, none], [], w) _
  refine xQ.go 5 (F1 := (7, [some (.ref 45), some (.int 0), none, none, none, none, none], [], (xuI w 45 24 0))) rfl ?_
  refine xQ.loop (S := xW) (fun k s => (7, [some (.ref 45), some (.int (nI k)), none, none, none, none, none], [], s)) (fun k s => gF s (frs H S P PV (10 * k)) ∧ xkq [(45, some 24), (59, none), (60, none)] w s) 10 (xuI w 45 24 0) (rfl) (⟨⟨by rw [uI1, if_pos ⟨rfl, rfl⟩]; rfl, (fun i q hi => by cases hi)⟩, xkq_I xkq_rfl rfl⟩) ?_ ?_
  · intro k s hk hI K
    refine xQ.go 3 (F1 := (bif decide (10 ≤ (nI k)) then 182 else 13, [some (.ref 45), some (.int (nI k)), none, none, none, none, none], [], s)) rfl ?_
    refine xQ.brF (decide_eq_false (nI_ge (b := 10) (by omega) (by omega))) ?_
    refine xQ.go 4 (F1 := (17, [some (.ref 45), some (.int (nI k)), some (.int ((nI k) + 1)), none, none, none, none], [], s)) rfl ?_
    rw [show nI k + 1 = nI (k + 1) from (nI_succ k).symm]
    have hsk : ∀ n, n = k + 1 → frs H S P PV (10 * k + n) = frs H S P PV (10 * k) := fun n hn => pfold_skip (by omega) (by omega)
    refine xQ.loop (S := xW) (fun k2 s2 => (17, [some (.ref 45), some (.int (nI k)), some (.int (nI (k + 1 + k2))), none, none, none, none], [], s2)) (fun k2 s2 => gF s2 (frs H S P PV (10 * k + (k + 1 + k2))) ∧ xkq [(45, some 24), (59, none), (60, none)] w s2) (9 - k) s (rfl) (by rw [hsk (k + 1 + 0) rfl]; exact hI) ?_ ?_
    · intro k2 s2 hk2 hI2 K2
      obtain ⟨b, hbe⟩ : ∃ b, b = k + 1 + k2 := ⟨_, rfl⟩
      rw [show k + 1 + (k2 + 1) = b + 1 by omega] at K2
      rw [← hbe] at hI2 ⊢
      obtain ⟨i1, i3⟩ := hI2
      have hb10 : b < 10 := by omega
      have hk10 : k < 10 := by omega
      have hnx : frs H S P PV (10 * k + (b + 1)) = frAdd H S P PV (frs H S P PV (10 * k + b)) k b := pfold_next (by omega) (by omega)
      rw [hnx] at K2
      have hfl := frs_len (H := H) (S := S) (P := P) (PV := PV) (10 * k + b)
      have hpl := pcn_lt (show k < b by omega) hb10
      generalize frs H S P PV (10 * k + b) = l at *
      have hHs := iB_kq hH i3
      have hPs := pM_kq hP i3
      have nx : ∀ (s3 : xW) (x y z u : Option Value), gF s3 (frAdd H S P PV l k b) → xkq [(45, some 24), (59, none), (60, none)] w s3 → xQ MX8_findFragments (170, [some (.ref 45), some (.int (nI k)), some (.int (nI b)), x, y, z, u], [], s3) (fun r w1 => r = none ∧ gF w1 (frs H S P PV 100) ∧ xkq [(45, some 24), (59, none), (60, none)] w w1) := by
        intro s3 x y z u m1 m2
        refine xQ.less [some (.ref 45), some (.int (nI k)), some (.int (nI b)), none, none, none, none] (by simp [xleb]) ?_
        refine xQ.go 2 (F1 := (17, [some (.ref 45), some (.int (nI k)), some (.int ((nI b) + 1)), none, none, none, none], [], s3)) rfl ?_
        rw [← nI_succ]
        exact K2 s3 ⟨m1, m2⟩
      refine xQ.go 3 (F1 := (bif decide (10 ≤ (nI b)) then 176 else 23, [some (.ref 45), some (.int (nI k)), some (.int (nI b)), none, none, none, none], [], s2)) rfl ?_
      refine xQ.brF (decide_eq_false (nI_ge (b := 10) (by omega) (by omega))) ?_
      refine xQ.go 3 (F1 := (28, [some (.ref 45), some (.int (nI k)), some (.int (nI b)), none, none, none, none], [.int (nI k), .ref 55], s2)) rfl ?_
      refine xQ.iald rfl (k := k) (rfl) (⟨by omega, by omega⟩) rfl ?_
      show xQ MX8_findFragments (29, [some (.ref 45), some (.int (nI k)), some (.int (nI b)), none, none, none, none], [.int (s2.1 55 k)], s2) _
      rw [hHs k hk10]
      refine xQ.go 3 (F1 := (34, [some (.ref 45), some (.int (nI k)), some (.int (nI b)), none, none, none, none], [.int (nI k), .ref 56, .int (mk (H k))], s2)) rfl ?_
      refine xQ.iald rfl (k := k) (rfl) (⟨by omega, by omega⟩) rfl ?_
      show xQ MX8_findFragments (35, [some (.ref 45), some (.int (nI k)), some (.int (nI b)), none, none, none, none], [.int (s2.1 56 k), .int (mk (H k))], s2) _
      rw [hPs.1 k hk10]
      refine xQ.go 3 (F1 := (38, [some (.ref 45), some (.int (nI k)), some (.int (nI b)), none, none, none, none], [.int ((mk (H k)) &&& ((mk (P k)) ^^^ (-1)))], s2)) rfl ?_
      rw [mk_andn]
      refine xQ.go 3 (F1 := (41, [some (.ref 45), some (.int (nI k)), some (.int (nI b)), none, none, none, none], [.int (1 <<< ((nI b) &&& 31)), .int (mk (fun v => H k v && !P k v))], s2)) rfl ?_
      rw [mk_bit hb10]
      refine xQ.go 2 (F1 := (bif decide (((mk (fun v => H k v && !P k v)) &&& (mk (fun u => decide (u = b)))) = 0) then 49 else 45, [some (.ref 45), some (.int (nI k)), some (.int (nI b)), none, none, none, none], [], s2)) rfl ?_
      rw [mk_and]
      have hz : decide (mk (fun v => (H k v && !P k v) && decide (v = b)) = 0) = !(H k b && !P k b) := by
        cases hc : (H k b && !P k b) with
        | true =>
          refine decide_eq_false (fun e => ?_)
          have := mk_zero.mp e b hb10
          simp only at this
          rw [hc] at this
          simp at this
        | false =>
          refine decide_eq_true (mk_zero.mpr fun v _ => ?_)
          by_cases e : v = b
          · rw [e, hc]; rfl
          · rw [decide_eq_false e, Bool.and_false]
      rw [hz]
      have com : ∀ isl : Bool, (H k b && !P k b) = isl → xQ MX8_findFragments (50, [some (.ref 45), some (.int (nI k)), some (.int (nI b)), none, none, none, none], [.int (if isl = true then 1 else 0)], s2) (fun r w1 => r = none ∧ gF w1 (frs H S P PV 100) ∧ xkq [(45, some 24), (59, none), (60, none)] w w1) := by
        intro isl hisl
        have com2 : ∀ isA isB : Bool, PV k = isA → PV b = isB → xQ MX8_findFragments (89, [some (.ref 45), some (.int (nI k)), some (.int (nI b)), some (.int (if isl = true then 1 else 0)), some (.int (if isA = true then 1 else 0)), some (.int (if isB = true then 1 else 0)), none], [], s2) (fun r w1 => r = none ∧ gF w1 (frs H S P PV 100) ∧ xkq [(45, some 24), (59, none), (60, none)] w w1) := by
          intro isA isB hA hB
          have part : isl = true → (isA && isB) = false → xQ MX8_findFragments (118, [some (.ref 45), some (.int (nI k)), some (.int (nI b)), some (.int (if isl = true then 1 else 0)), some (.int (if isA = true then 1 else 0)), some (.int (if isB = true then 1 else 0)), none], [], s2) (fun r w1 => r = none ∧ gF w1 (frs H S P PV 100) ∧ xkq [(45, some 24), (59, none), (60, none)] w w1) := by
            intro hl1 hAB
            rw [hl1] at hisl ⊢
            have hHkb : H k b = true := by rw [Bool.and_eq_true] at hisl; exact hisl.1
            have hSS := hb.2.2.1 k b hHkb
            have hfr : frAdd H S P PV l k b = if l.any (fun q => decide (q.1 = mk (cmp H S PV (bif PV k then b else k)))) = true then l else l ++ [(mk (cmp H S PV (bif PV k then b else k)), mk (ctc H PV (cmp H S PV (bif PV k then b else k))))] := by
              unfold frAdd
              rw [if_pos hisl, if_neg (by rw [hA, hB, hAB]; decide)]
            obtain ⟨x, hx⟩ : ∃ x, x = (bif PV k then b else k) := ⟨_, rfl⟩
            rw [← hx] at hfr
            have hx10 : x < 10 := by rw [hx]; cases PV k <;> assumption
            have hSx : S x = true := by
              rw [hx]
              cases PV k
              · exact hSS.2.2.1
              · exact hSS.2.2.2
            have hPx : PV x = false := by
              rw [hx]
              cases hpk : PV k with
              | false => exact hpk
              | true =>
                rw [hpk] at hA
                rw [← hA, Bool.true_and, ← hB] at hAB
                exact hAB
            have go2 : xQ MX8_findFragments (133, [some (.ref 45), some (.int (nI k)), some (.int (nI b)), some (.int (if true = true then 1 else 0)), some (.int (if isA = true then 1 else 0)), some (.int (if isB = true then 1 else 0)), none], [.int (nI x), .ref 45], s2) (fun r w1 => r = none ∧ gF w1 (frs H S P PV 100) ∧ xkq [(45, some 24), (59, none), (60, none)] w w1) := by
              refine xQ.go 5 (F1 := (142, [some (.ref 45), some (.int (nI k)), some (.int (nI b)), some (.int (if true = true then 1 else 0)), some (.int (if isA = true then 1 else 0)), some (.int (if isB = true then 1 else 0)), none], [.int ((s2.1 45 19) ^^^ (-1)), .int 1023, .int (nI x), .ref 45], s2)) rfl ?_
              rw [hPs.2.1, mk_all]
              refine xQ.go 1 (F1 := (143, [some (.ref 45), some (.int (nI k)), some (.int (nI b)), some (.int (if true = true then 1 else 0)), some (.int (if isA = true then 1 else 0)), some (.int (if isB = true then 1 else 0)), none], [.int ((mk (fun _ => true)) &&& (mk PV ^^^ -1)), .int (nI x), .ref 45], s2)) rfl ?_
              rw [mk_andn, show (fun v => true && !PV v) = fun v => !PV v from funext fun v => by rw [Bool.true_and]]
              refine xQ.go 1 (F1 := (144, [some (.ref 45), some (.int (nI k)), some (.int (nI b)), some (.int (if true = true then 1 else 0)), some (.int (if isA = true then 1 else 0)), some (.int (if isB = true then 1 else 0)), none], [.int 1, .int (mk (fun v => !PV v)), .int (nI x), .ref 45], s2)) rfl ?_
              refine xQ.call rfl (m_joined (x := x) true hx10 (by rw [hPx]; rfl) hHs) ?_
              show xQ MX8_findFragments (147, [some (.ref 45), some (.int (nI k)), some (.int (nI b)), some (.int (if true = true then 1 else 0)), some (.int (if isA = true then 1 else 0)), some (.int (if isB = true then 1 else 0)), none], [.int (mk (rch H (fun v => !PV v) (fun v => decide (v = x))))], s2) _
              rw [cmp_free hb hx10 hSx hPx]
              refine xQ.go 3 (F1 := (152, [some (.ref 45), some (.int (nI k)), some (.int (nI b)), some (.int (if true = true then 1 else 0)), some (.int (if isA = true then 1 else 0)), some (.int (if isB = true then 1 else 0)), some (.int (mk (cmp H S PV x)))], [.int (mk (cmp H S PV x)), .ref 45], s2)) rfl ?_
              refine xQ.call rfl (m_isFr i1 (by omega)) ?_
              show xQ MX8_findFragments (155, [some (.ref 45), some (.int (nI k)), some (.int (nI b)), some (.int (if true = true then 1 else 0)), some (.int (if isA = true then 1 else 0)), some (.int (if isB = true then 1 else 0)), some (.int (mk (cmp H S PV x)))], [.int (if l.any (fun q => decide (q.1 = mk (cmp H S PV x))) = true then 1 else 0)], s2) _
              refine xQ.go 1 (F1 := (bif !decide ((if l.any (fun q => decide (q.1 = mk (cmp H S PV x))) = true then 1 else 0) = 0) then 170 else 158, [some (.ref 45), some (.int (nI k)), some (.int (nI b)), some (.int (if true = true then 1 else 0)), some (.int (if isA = true then 1 else 0)), some (.int (if isB = true then 1 else 0)), some (.int (mk (cmp H S PV x)))], [], s2)) rfl ?_
              by_cases hany : l.any (fun q => decide (q.1 = mk (cmp H S PV x))) = true
              · rw [if_pos hany] at hfr ⊢
                refine xQ.brT rfl ?_
                exact nx s2 _ _ _ _ (by rw [hfr]; exact i1) i3
              · rw [if_neg hany] at hfr ⊢
                refine xQ.brF rfl ?_
                refine xQ.go 4 (F1 := (164, [some (.ref 45), some (.int (nI k)), some (.int (nI b)), some (.int (if true = true then 1 else 0)), some (.int (if isA = true then 1 else 0)), some (.int (if isB = true then 1 else 0)), some (.int (mk (cmp H S PV x)))], [.int (mk (cmp H S PV x)), .ref 45, .int (mk (cmp H S PV x)), .ref 45], s2)) rfl ?_
                refine xQ.call rfl (m_ctc hHs hPs) ?_
                show xQ MX8_findFragments (167, [some (.ref 45), some (.int (nI k)), some (.int (nI b)), some (.int (if true = true then 1 else 0)), some (.int (if isA = true then 1 else 0)), some (.int (if isB = true then 1 else 0)), some (.int (mk (cmp H S PV x)))], [.int (mk (ctc H PV (cmp H S PV x))), .int (mk (cmp H S PV x)), .ref 45], s2) _
                obtain ⟨r6, s6, hc6, hr6, g1, g2⟩ := m_addFr (x := mk (cmp H S PV x)) (c := mk (ctc H PV (cmp H S PV x))) i1 (by omega)
                subst hr6
                refine xQ.call rfl (hc6) ?_
                show xQ MX8_findFragments (170, [some (.ref 45), some (.int (nI k)), some (.int (nI b)), some (.int (if true = true then 1 else 0)), some (.int (if isA = true then 1 else 0)), some (.int (if isB = true then 1 else 0)), some (.int (mk (cmp H S PV x)))], [], s6) _
                exact nx s6 _ _ _ _ (by rw [hfr]; exact g1) (xkq_trans i3 g2)
            refine xQ.go 2 (F1 := (bif decide ((if true = true then 1 else 0) = 0) then 170 else 122, [some (.ref 45), some (.int (nI k)), some (.int (nI b)), some (.int (if true = true then 1 else 0)), some (.int (if isA = true then 1 else 0)), some (.int (if isB = true then 1 else 0)), none], [], s2)) rfl ?_
            refine xQ.brF (rfl) ?_
            refine xQ.go 3 (F1 := (bif decide ((if isA = true then 1 else 0) = 0) then 132 else 128, [some (.ref 45), some (.int (nI k)), some (.int (nI b)), some (.int (if true = true then 1 else 0)), some (.int (if isA = true then 1 else 0)), some (.int (if isB = true then 1 else 0)), none], [.ref 45], s2)) rfl ?_
            cases isA with
            | true =>
              refine xQ.brF rfl ?_
              refine xQ.go 2 (F1 := (133, [some (.ref 45), some (.int (nI k)), some (.int (nI b)), some (.int (if true = true then 1 else 0)), some (.int (if true = true then 1 else 0)), some (.int (if isB = true then 1 else 0)), none], [.int (nI b), .ref 45], s2)) rfl ?_
              rw [hA, cond_true] at hx
              rw [hx] at go2
              exact go2
            | false =>
              refine xQ.brT rfl ?_
              refine xQ.go 1 (F1 := (133, [some (.ref 45), some (.int (nI k)), some (.int (nI b)), some (.int (if true = true then 1 else 0)), some (.int (if false = true then 1 else 0)), some (.int (if isB = true then 1 else 0)), none], [.int (nI k), .ref 45], s2)) rfl ?_
              rw [hA, cond_false] at hx
              rw [hx] at go2
              exact go2
          refine xQ.go 2 (F1 := (bif decide ((if isl = true then 1 else 0) = 0) then 118 else 93, [some (.ref 45), some (.int (nI k)), some (.int (nI b)), some (.int (if isl = true then 1 else 0)), some (.int (if isA = true then 1 else 0)), some (.int (if isB = true then 1 else 0)), none], [], s2)) rfl ?_
          cases isl with
          | false =>
            refine xQ.brT rfl ?_
            refine xQ.go 2 (F1 := (bif decide ((if false = true then 1 else 0) = 0) then 170 else 122, [some (.ref 45), some (.int (nI k)), some (.int (nI b)), some (.int (if false = true then 1 else 0)), some (.int (if isA = true then 1 else 0)), some (.int (if isB = true then 1 else 0)), none], [], s2)) rfl ?_
            refine xQ.brT (rfl) ?_
            exact nx s2 _ _ _ _ (by unfold frAdd; rw [if_neg (by rw [hisl]; decide)]; exact i1) i3
          | true =>
            refine xQ.brF rfl ?_
            refine xQ.go 2 (F1 := (bif decide ((if isA = true then 1 else 0) = 0) then 118 else 98, [some (.ref 45), some (.int (nI k)), some (.int (nI b)), some (.int (if true = true then 1 else 0)), some (.int (if isA = true then 1 else 0)), some (.int (if isB = true then 1 else 0)), none], [], s2)) rfl ?_
            cases isA with
            | false =>
              refine xQ.brT rfl ?_
              exact part rfl rfl
            | true =>
              refine xQ.brF rfl ?_
              refine xQ.go 2 (F1 := (bif decide ((if isB = true then 1 else 0) = 0) then 118 else 103, [some (.ref 45), some (.int (nI k)), some (.int (nI b)), some (.int (if true = true then 1 else 0)), some (.int (if true = true then 1 else 0)), some (.int (if isB = true then 1 else 0)), none], [], s2)) rfl ?_
              cases isB with
              | false =>
                refine xQ.brT rfl ?_
                exact part rfl rfl
              | true =>
                refine xQ.brF rfl ?_
                refine xQ.go 5 (F1 := (108, [some (.ref 45), some (.int (nI k)), some (.int (nI b)), some (.int (if true = true then 1 else 0)), some (.int (if true = true then 1 else 0)), some (.int (if true = true then 1 else 0)), none], [.int (1 <<< ((nI k) &&& 31)), .int 0, .ref 45], s2)) rfl ?_
                rw [mk_bit hk10]
                refine xQ.go 3 (F1 := (111, [some (.ref 45), some (.int (nI k)), some (.int (nI b)), some (.int (if true = true then 1 else 0)), some (.int (if true = true then 1 else 0)), some (.int (if true = true then 1 else 0)), none], [.int (1 <<< ((nI b) &&& 31)), .int (mk (fun u => decide (u = k))), .int 0, .ref 45], s2)) rfl ?_
                rw [mk_bit hb10]
                refine xQ.go 1 (F1 := (112, [some (.ref 45), some (.int (nI k)), some (.int (nI b)), some (.int (if true = true then 1 else 0)), some (.int (if true = true then 1 else 0)), some (.int (if true = true then 1 else 0)), none], [.int ((mk (fun u => decide (u = k))) ||| (mk (fun u => decide (u = b)))), .int 0, .ref 45], s2)) rfl ?_
                rw [mk_or, show (fun v => decide (v = k) || decide (v = b)) = two k b from rfl]
                obtain ⟨r6, s6, hc6, hr6, g1, g2⟩ := m_addFr (x := 0) (c := mk (two k b)) i1 (by omega)
                subst hr6
                refine xQ.call rfl (hc6) ?_
                show xQ MX8_findFragments (115, [some (.ref 45), some (.int (nI k)), some (.int (nI b)), some (.int (if true = true then 1 else 0)), some (.int (if true = true then 1 else 0)), some (.int (if true = true then 1 else 0)), none], [], s6) _
                refine xQ.go 1 (F1 := (170, [some (.ref 45), some (.int (nI k)), some (.int (nI b)), some (.int (if true = true then 1 else 0)), some (.int (if true = true then 1 else 0)), some (.int (if true = true then 1 else 0)), none], [], s6)) rfl ?_
                exact nx s6 _ _ _ _ (by unfold frAdd; rw [if_pos hisl, if_pos (by rw [hA, hB]; rfl)]; exact g1) (xkq_trans i3 g2)
        refine xQ.go 3 (F1 := (55, [some (.ref 45), some (.int (nI k)), some (.int (nI b)), some (.int (if isl = true then 1 else 0)), none, none, none], [.int (s2.1 45 19)], s2)) rfl ?_
        rw [hPs.2.1]
        refine xQ.go 6 (F1 := (bif !decide ((((mk PV) >>> ((nI k) &&& 31)) &&& 1) = 1) then 67 else 63, [some (.ref 45), some (.int (nI k)), some (.int (nI b)), some (.int (if isl = true then 1 else 0)), none, none, none], [], s2)) rfl ?_
        rw [mk_get _ hk10, b01e]
        have com3 : ∀ isA : Bool, PV k = isA → xQ MX8_findFragments (68, [some (.ref 45), some (.int (nI k)), some (.int (nI b)), some (.int (if isl = true then 1 else 0)), none, none, none], [.int (if isA = true then 1 else 0)], s2) (fun r w1 => r = none ∧ gF w1 (frs H S P PV 100) ∧ xkq [(45, some 24), (59, none), (60, none)] w w1) := by
          intro isA hA
          refine xQ.go 3 (F1 := (74, [some (.ref 45), some (.int (nI k)), some (.int (nI b)), some (.int (if isl = true then 1 else 0)), some (.int (if isA = true then 1 else 0)), none, none], [.int (s2.1 45 19)], s2)) rfl ?_
          rw [hPs.2.1]
          refine xQ.go 6 (F1 := (bif !decide ((((mk PV) >>> ((nI b) &&& 31)) &&& 1) = 1) then 86 else 82, [some (.ref 45), some (.int (nI k)), some (.int (nI b)), some (.int (if isl = true then 1 else 0)), some (.int (if isA = true then 1 else 0)), none, none], [], s2)) rfl ?_
          rw [mk_get _ hb10, b01e]
          cases hB : PV b with
          | true =>
            refine xQ.brF rfl ?_
            refine xQ.go 3 (F1 := (89, [some (.ref 45), some (.int (nI k)), some (.int (nI b)), some (.int (if isl = true then 1 else 0)), some (.int (if isA = true then 1 else 0)), some (.int 1), none], [], s2)) rfl ?_
            exact com2 isA true hA hB
          | false =>
            refine xQ.brT rfl ?_
            refine xQ.go 2 (F1 := (89, [some (.ref 45), some (.int (nI k)), some (.int (nI b)), some (.int (if isl = true then 1 else 0)), some (.int (if isA = true then 1 else 0)), some (.int 0), none], [], s2)) rfl ?_
            exact com2 isA false hA hB
        cases hA : PV k with
        | true =>
          refine xQ.brF rfl ?_
          refine xQ.go 2 (F1 := (68, [some (.ref 45), some (.int (nI k)), some (.int (nI b)), some (.int (if isl = true then 1 else 0)), none, none, none], [.int 1], s2)) rfl ?_
          exact com3 true hA
        | false =>
          refine xQ.brT rfl ?_
          refine xQ.go 1 (F1 := (68, [some (.ref 45), some (.int (nI k)), some (.int (nI b)), some (.int (if isl = true then 1 else 0)), none, none, none], [.int 0], s2)) rfl ?_
          exact com3 false hA
      cases hc : (H k b && !P k b) with
      | true =>
        refine xQ.brF rfl ?_
        refine xQ.go 2 (F1 := (50, [some (.ref 45), some (.int (nI k)), some (.int (nI b)), none, none, none, none], [.int 1], s2)) rfl ?_
        exact com true hc
      | false =>
        refine xQ.brT rfl ?_
        refine xQ.go 1 (F1 := (50, [some (.ref 45), some (.int (nI k)), some (.int (nI b)), none, none, none, none], [.int 0], s2)) rfl ?_
        exact com false hc
    · intro s2 hI2
      rw [show 10 * k + (k + 1 + (9 - k)) = 10 * (k + 1) by omega, show k + 1 + (9 - k) = 10 by omega] at *
      refine xQ.go 3 (F1 := (bif decide (10 ≤ (nI 10)) then 176 else 23, [some (.ref 45), some (.int (nI k)), some (.int (nI 10)), none, none, none, none], [], s2)) rfl ?_
      refine xQ.brT (rfl) ?_
      refine xQ.go 2 (F1 := (7, [some (.ref 45), some (.int ((nI k) + 1)), some (.int (nI 10)), none, none, none, none], [], s2)) rfl ?_
      refine xQ.less [some (.ref 45), some (.int ((nI k) + 1)), none, none, none, none, none] (by simp [xleb]) ?_
      rw [← nI_succ]
      exact K s2 hI2
  · intro s hI
    refine xQ.go 3 (F1 := (bif decide (10 ≤ (nI 10)) then 182 else 13, [some (.ref 45), some (.int (nI 10)), none, none, none, none, none], [], s)) rfl ?_
    refine xQ.brT (rfl) ?_
    refine xQ.vret 1 rfl rfl ?_
    exact ⟨rfl, hI.1, hI.2⟩
