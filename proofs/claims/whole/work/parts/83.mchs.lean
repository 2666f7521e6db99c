/-! the reference: chooseFragment, layPath -/
/-- the faces -/
def fM (w : xW) (L : List (List Nat)) : Prop := w.1 45 21 = nI L.length ∧ ∀ (i : Nat) (c : List Nat), L[i]? = some c → fc1 w i c
theorem fM_kq {w w1 : xW} {L : List (List Nat)} {M : xCS} (h : fM w L) (k : xkq M w w1) (h1 : cin M 45 21 = false := by rfl) (hL : cno M [57, 58] = true := by rfl) : fM w1 L := ⟨(k 45 21 h1).1.trans h.1, fun i c hi => fc1_kq (h.2 i c hi) k hL⟩
/-- faces that fit into the rows -/
def fS (L : List (List Nat)) : Prop := L.length ≤ 16 ∧ ∀ f ∈ L, f.length ≤ 10 ∧ ∀ v ∈ f, v < 10
theorem nfit_le {c : Int32} {L : List (List Nat)} : nfit c L ≤ L.length := List.length_filter_le _ _
theorem m_onFc {w : xW} {i : Nat} {f : List Nat} {c : Int32} (hc : mk (tb c) = c) (hf : fc1 w i f) (hi : i < 20) (hl : f.length ≤ 10) (h10 : ∀ v ∈ f, v < 10) : xC MX8_isOnFace [.ref 45, .int (nI i), .int c] w (some (.int (if fitf c f = true then 1 else 0))) w := by
  have := m_onF (C := tb c) hf hi hl h10
  rw [hc] at this
  exact this
theorem m_fit {w : xW} {l : List xFr} {L : List (List Nat)} {j : Nat} {q : xFr} (hl : gF w l) (hL : fM w L) (hS : fS L) (hj : l[j]? = some q) (h45 : l.length ≤ 45) (hq : mk (tb q.2) = q.2) : xC MX8_fitting [.ref 45, .int (nI j)] w (some (.int (nI (nfit q.2 L)))) w := by
  have hjl := (List.getElem?_eq_some_iff.mp hj).1
  unfold xC
  show xE MX8_fitting (0, [some (.ref 45), some (.int (nI j)), none, none], [], w) _ _
  refine xE.go 4 (F1 := (4, [some (.ref 45), some (.int (nI j)), some (.int 0), some (.int 0)], [], w)) rfl ?_
  refine xE.loop (S := Unit) (fun k s => (4, [some (.ref 45), some (.int (nI j)), some (.int (nI (nfit q.2 (L.take k)))), some (.int (nI k))], [], w)) (fun _ _ => True) L.length () (rfl) (trivial) ?_ ?_
  · intro k s hk hI K
    have K := K () trivial
    have hLk : L[k]? = some L[k] := List.getElem?_eq_getElem hk
    have hfS := hS.2 _ (List.getElem_mem hk)
    have hl16 := hS.1
    have hst : nfit q.2 (L.take (k + 1)) = nfit q.2 (L.take k) + (bif fitf q.2 L[k] then 1 else 0) := by
      unfold nfit
      rw [List.take_add_one, hLk, List.filter_append, List.length_append]
      congr 1
      cases h : fitf q.2 L[k] <;> simp [h]
    rw [hst] at K
    refine xE.go 4 (F1 := (bif decide ((w.1 45 21) ≤ (nI k)) then 40 else 12, [some (.ref 45), some (.int (nI j)), some (.int (nI (nfit q.2 (L.take k)))), some (.int (nI k))], [], w)) rfl ?_
    refine xE.brF (by rw [hL.1]; exact decide_eq_false (nI_ge hk (by omega))) ?_
    refine xE.go 6 (F1 := (20, [some (.ref 45), some (.int (nI j)), some (.int (nI (nfit q.2 (L.take k)))), some (.int (nI k))], [.int (nI j), .ref 60, .int (nI k), .ref 45, .int (nI (nfit q.2 (L.take k)))], w)) rfl ?_
    refine xE.iald rfl (k := j) (rfl) (⟨by omega, by omega⟩) rfl ?_
    show xE MX8_fitting (21, [some (.ref 45), some (.int (nI j)), some (.int (nI (nfit q.2 (L.take k)))), some (.int (nI k))], [.int (w.1 60 j), .int (nI k), .ref 45, .int (nI (nfit q.2 (L.take k)))], w) _ _
    rw [(hl.2 j q hj).2]
    refine xE.call rfl (m_onFc hq (hL.2 k _ hLk) (by omega) hfS.1 hfS.2) ?_
    show xE MX8_fitting (24, [some (.ref 45), some (.int (nI j)), some (.int (nI (nfit q.2 (L.take k)))), some (.int (nI k))], [.int (if fitf q.2 L[k] = true then 1 else 0), .int (nI (nfit q.2 (L.take k)))], w) _ _
    refine xE.go 1 (F1 := (bif decide ((if fitf q.2 L[k] = true then 1 else 0) = 0) then 31 else 27, [some (.ref 45), some (.int (nI j)), some (.int (nI (nfit q.2 (L.take k)))), some (.int (nI k))], [.int (nI (nfit q.2 (L.take k)))], w)) rfl ?_
    cases hf : fitf q.2 L[k] with
    | true =>
      rw [hf] at K
      refine xE.brF rfl ?_
      refine xE.go 6 (F1 := (4, [some (.ref 45), some (.int (nI j)), some (.int ((nI (nfit q.2 (L.take k))) + 1)), some (.int ((nI k) + 1))], [], w)) rfl ?_
      rw [← nI_succ, ← nI_succ]
      exact K
    | false =>
      rw [hf] at K
      refine xE.brT rfl ?_
      refine xE.go 2 (F1 := (33, [some (.ref 45), some (.int (nI j)), some (.int (nI (nfit q.2 (L.take k)))), some (.int (nI k))], [.int ((nI (nfit q.2 (L.take k))) + 0)], w)) rfl ?_
      rw [Int32.add_zero]
      refine xE.go 3 (F1 := (4, [some (.ref 45), some (.int (nI j)), some (.int (nI (nfit q.2 (L.take k)))), some (.int ((nI k) + 1))], [], w)) rfl ?_
      rw [← nI_succ]
      exact K
  · intro s hI
    rw [List.take_length]
    refine xE.go 4 (F1 := (bif decide ((w.1 45 21) ≤ (nI L.length)) then 40 else 12, [some (.ref 45), some (.int (nI j)), some (.int (nI (nfit q.2 L))), some (.int (nI L.length))], [], w)) rfl ?_
    refine xE.brT (by rw [hL.1]; exact decide_eq_true (Int32.le_refl _)) ?_
    refine xE.go 1 (F1 := (41, [some (.ref 45), some (.int (nI j)), some (.int (nI (nfit q.2 L))), some (.int (nI L.length))], [.int (nI (nfit q.2 L))], w)) rfl ?_
    exact xE.iret .int 1 rfl rfl (rfl)
/-- the number of the fragment that is chosen -/
def pki (L : List (List Nat)) (l : List xFr) : Option Nat := l.findIdx? (fun q => Nat.beq (nfit q.2 L) 1)
def pkI (o : Option Nat) : Int32 := match o with
  | none => -5
  | some i => nI i
theorem chs_pki {L : List (List Nat)} {l : List xFr} (hne : l ≠ []) (h0 : ∀ q ∈ l, nfit q.2 L ≠ 0) : ∃ q, chs L l = some q ∧ l[(pki L l).getD 0]? = some q := by
  rw [chs_pick h0]
  unfold pick pki
  cases h : l.findIdx? (fun q => Nat.beq (nfit q.2 L) 1) with
  | none =>
    have hf : l.find? (fun q => Nat.beq (nfit q.2 L) 1) = none := by
      rw [List.find?_eq_none]
      intro q hq h2
      have := List.findIdx?_eq_none_iff.mp h q hq
      rw [h2] at this
      cases this
    rw [hf]
    cases l with
    | nil => exact absurd rfl hne
    | cons a t => exact ⟨a, rfl, rfl⟩
  | some i =>
    obtain ⟨hi, hp, hmin⟩ := List.findIdx?_eq_some_iff_getElem.mp h
    have hf : l.find? (fun q => Nat.beq (nfit q.2 L) 1) = some l[i] := by
      rw [List.find?_eq_some_iff_getElem]
      exact ⟨hp, i, hi, rfl, fun j hj => by
        simp only [Bool.not_eq_true']
        exact Bool.eq_false_iff.mpr (hmin j hj)⟩
    rw [hf]
    exact ⟨_, rfl, List.getElem?_eq_getElem hi⟩
theorem pki_next {L : List (List Nat)} {l : List xFr} {k : Nat} (hk : k < l.length) : pki L (l.take (k + 1)) = match pki L (l.take k) with
    | some i => some i
    | none => if nfit l[k].2 L = 1 then some k else none := by
  unfold pki
  rw [List.take_add_one, List.getElem?_eq_getElem hk, List.findIdx?_append]
  cases h : (l.take k).findIdx? (fun q => Nat.beq (nfit q.2 L) 1) with
  | some i => rfl
  | none =>
    have hkl : (l.take k).length = k := by rw [List.length_take]; omega
    by_cases e : nfit l[k].2 L = 1
    · rw [if_pos e]
      simp [List.findIdx?_cons, e, hkl]
    · rw [if_neg e]
      have : Nat.beq (nfit l[k].2 L) 1 = false := by
        cases hb : Nat.beq (nfit l[k].2 L) 1 with
        | false => rfl
        | true => exact absurd (Nat.eq_of_beq_eq_true hb) e
      simp [List.findIdx?_cons, this]
theorem pki_lt {L : List (List Nat)} {l : List xFr} {i : Nat} (h : pki L l = some i) : i < l.length := (List.findIdx?_eq_some_iff_getElem.mp h).1
theorem m_choose {w : xW} {l : List xFr} {L : List (List Nat)} (hl : gF w l) (hL : fM w L) (hS : fS L) (h45 : l.length ≤ 45) (hq : ∀ q ∈ l, mk (tb q.2) = q.2) (hne : l ≠ []) : xD MX8_chooseFragment [.ref 45] w (fun r w1 => (chs L l = none → r = some (.int (-5))) ∧ (∀ q, chs L l = some q → ∃ i, l[i]? = some q ∧ r = some (.int (nI i)) ∧ w1.1 45 27 = nI (ffit q.2 L)) ∧ xkq [(45, some 27)] w w1) := by
  refine xD.of ?_
  show xQ MX8_chooseFragment (0, [some (.ref 45), none, none, none], [], w) _
  refine xQ.go 4 (F1 := (5, [some (.ref 45), some (.int (-5)), some (.int 0), none], [], w)) rfl ?_
  refine xQ.loop (S := Unit) (fun k s => (5, [some (.ref 45), some (.int (pkI (pki L (l.take k)))), some (.int (nI k)), none], [], w)) (fun k _ => ∀ q ∈ l.take k, nfit q.2 L ≠ 0) l.length () (rfl) (fun q h => by simp at h) ?_ ?_
  · intro k s hk hI K
    have hlk : l[k]? = some l[k] := List.getElem?_eq_getElem hk
    have hn := nfit_le (c := l[k].2) (L := L)
    have hl16 := hS.1
    refine xQ.go 4 (F1 := (bif decide ((w.1 45 24) ≤ (nI k)) then 49 else 13, [some (.ref 45), some (.int (pkI (pki L (l.take k)))), some (.int (nI k)), none], [], w)) rfl ?_
    refine xQ.brF (by rw [hl.1]; exact decide_eq_false (nI_ge hk (by omega))) ?_
    refine xQ.go 2 (F1 := (15, [some (.ref 45), some (.int (pkI (pki L (l.take k)))), some (.int (nI k)), none], [.int (nI k), .ref 45], w)) rfl ?_
    refine xQ.call rfl (m_fit hl hL hS hlk h45 (hq _ (List.getElem_mem hk))) ?_
    show xQ MX8_chooseFragment (18, [some (.ref 45), some (.int (pkI (pki L (l.take k)))), some (.int (nI k)), none], [.int (nI (nfit l[k].2 L))], w) _
    refine xQ.go 1 (F1 := (19, [some (.ref 45), some (.int (pkI (pki L (l.take k)))), some (.int (nI k)), some (.int (nI (nfit l[k].2 L)))], [], w)) rfl ?_
    by_cases h0 : nfit l[k].2 L = 0
    · refine xQ.go 2 (F1 := (bif !decide ((nI (nfit l[k].2 L)) = 0) then 26 else 23, [some (.ref 45), some (.int (pkI (pki L (l.take k)))), some (.int (nI k)), some (.int (nI (nfit l[k].2 L)))], [], w)) rfl ?_
      refine xQ.brF (by rw [h0]; rfl) ?_
      refine xQ.go 1 (F1 := (25, [some (.ref 45), some (.int (pkI (pki L (l.take k)))), some (.int (nI k)), some (.int (nI (nfit l[k].2 L)))], [.int (-5)], w)) rfl ?_
      refine xQ.iret .int 1 rfl rfl (rfl) ?_
      have hno := chs_no (L := L) (List.getElem_mem hk) h0
      exact ⟨fun _ => rfl, (fun q hc => by rw [hno] at hc; cases hc), xkq_rfl⟩
    · refine xQ.go 2 (F1 := (bif !decide ((nI (nfit l[k].2 L)) = 0) then 26 else 23, [some (.ref 45), some (.int (pkI (pki L (l.take k)))), some (.int (nI k)), some (.int (nI (nfit l[k].2 L)))], [], w)) rfl ?_
      refine xQ.brT (by rw [decide_eq_false (nI_ne0 (by omega) (by omega))]; rfl) ?_
      have K := K () (fun q hq2 => by
        rw [List.take_add_one, hlk] at hq2
        rcases List.mem_append.mp hq2 with h | h
        · exact hI q h
        · have : q = l[k] := by simpa using h
          rw [this]; exact h0)
      rw [pki_next hk] at K
      refine xQ.go 3 (F1 := (bif !decide ((pkI (pki L (l.take k))) = (-5)) then 41 else 32, [some (.ref 45), some (.int (pkI (pki L (l.take k)))), some (.int (nI k)), some (.int (nI (nfit l[k].2 L)))], [], w)) rfl ?_
      cases hp : pki L (l.take k) with
      | some i =>
        rw [hp] at K
        have hi := pki_lt hp
        rw [List.length_take] at hi
        refine xQ.brT (by show (!decide (nI i = -5)) = true; rw [decide_eq_false (fun e => ng_3 i (by omega) e.symm)]; rfl) ?_
        refine xQ.go 4 (F1 := (5, [some (.ref 45), some (.int (nI i)), some (.int ((nI k) + 1)), some (.int (nI (nfit l[k].2 L)))], [], w)) rfl ?_
        refine xQ.less [some (.ref 45), some (.int (nI i)), some (.int ((nI k) + 1)), none] (by simp [xleb]) ?_
        rw [← nI_succ]
        exact K
      | none =>
        rw [hp] at K
        refine xQ.brF rfl ?_
        refine xQ.go 3 (F1 := (bif !decide ((nI (nfit l[k].2 L)) = 1) then 41 else 37, [some (.ref 45), some (.int (-5)), some (.int (nI k)), some (.int (nI (nfit l[k].2 L)))], [], w)) rfl ?_
        rw [show (1 : Int32) = nI 1 from rfl, nI_dec (by omega) (by omega)]
        by_cases e1 : nfit l[k].2 L = 1
        · rw [if_pos e1] at K
          refine xQ.brF (by rw [decide_eq_true e1]; rfl) ?_
          refine xQ.go 5 (F1 := (5, [some (.ref 45), some (.int (nI k)), some (.int ((nI k) + 1)), some (.int (nI (nfit l[k].2 L)))], [], w)) rfl ?_
          refine xQ.less [some (.ref 45), some (.int (nI k)), some (.int ((nI k) + 1)), none] (by simp [xleb]) ?_
          rw [← nI_succ]
          exact K
        · rw [if_neg e1] at K
          refine xQ.brT (by rw [decide_eq_false e1]; rfl) ?_
          refine xQ.go 4 (F1 := (5, [some (.ref 45), some (.int (-5)), some (.int ((nI k) + 1)), some (.int (nI (nfit l[k].2 L)))], [], w)) rfl ?_
          refine xQ.less [some (.ref 45), some (.int (-5)), some (.int ((nI k) + 1)), none] (by simp [xleb]) ?_
          rw [← nI_succ]
          exact K
  · intro s hI
    rw [List.take_length] at *
    obtain ⟨q, hc, hqi⟩ := chs_pki hne hI
    have hil := (List.getElem?_eq_some_iff.mp hqi).1
    have hqm := List.mem_of_getElem? hqi
    have hqe := hq q hqm
    obtain ⟨f, hf1, hf2, hf3⟩ := ffit_ok (hI q hqm)
    have hl16 := hS.1
    have hfl := (List.getElem?_eq_some_iff.mp hf1).1
    have com : xQ MX8_chooseFragment (60, [some (.ref 45), some (.int (pkI (pki L l))), some (.int (nI l.length)), none], [.int (nI ((pki L l).getD 0))], w) (fun r w1 => (chs L l = none → r = some (.int (-5))) ∧ (∀ q, chs L l = some q → ∃ i, l[i]? = some q ∧ r = some (.int (nI i)) ∧ w1.1 45 27 = nI (ffit q.2 L)) ∧ xkq [(45, some 27)] w w1) := by
      generalize (pki L l).getD 0 = i at *
      refine xQ.go 4 (F1 := (66, [some (.ref 45), some (.int (nI i)), some (.int (nI l.length)), none], [], (xuI w 45 27 0))) rfl ?_
      refine xQ.less [some (.ref 45), some (.int (nI i)), none, none] (by simp [xleb]) ?_
      refine xQ.loop (S := xW) (fun k s => (66, [some (.ref 45), some (.int (nI i)), none, none], [], s)) (fun k s => s.1 45 27 = nI k ∧ xkq [(45, some 27)] w s) (ffit q.2 L) (xuI w 45 27 0) (rfl) (⟨by rw [uI1, if_pos ⟨rfl, rfl⟩]; rfl, xkq_I xkq_rfl rfl⟩) ?_ ?_
      · intro k s hk hI K
        obtain ⟨i1, i2⟩ := hI
        have hLk : L[k]? = some L[k] := List.getElem?_eq_getElem (by omega)
        have hfS := hS.2 _ (List.getElem_mem (show k < L.length by omega))
        have hno := hf3 k hk _ hLk
        refine xQ.go 3 (F1 := (71, [some (.ref 45), some (.int (nI i)), none, none], [.int (s.1 45 27), .ref 45], s)) rfl ?_
        rw [i1]
        refine xQ.go 3 (F1 := (76, [some (.ref 45), some (.int (nI i)), none, none], [.int (nI i), .ref 60, .int (nI k), .ref 45], s)) rfl ?_
        refine xQ.iald rfl (k := i) (rfl) (⟨by omega, by omega⟩) rfl ?_
        show xQ MX8_chooseFragment (77, [some (.ref 45), some (.int (nI i)), none, none], [.int (s.1 60 i), .int (nI k), .ref 45], s) _
        rw [((gF_kq hl i2).2 i q hqi).2]
        refine xQ.call rfl (m_onFc hqe ((fM_kq hL i2).2 k _ hLk) (by omega) hfS.1 hfS.2) ?_
        show xQ MX8_chooseFragment (80, [some (.ref 45), some (.int (nI i)), none, none], [.int (if fitf q.2 L[k] = true then 1 else 0)], s) _
        rw [hno]
        refine xQ.go 1 (F1 := (bif !decide ((if false = true then 1 else 0) = 0) then 96 else 83, [some (.ref 45), some (.int (nI i)), none, none], [], s)) rfl ?_
        refine xQ.brF (rfl) ?_
        refine xQ.go 5 (F1 := (90, [some (.ref 45), some (.int (nI i)), none, none], [.int ((s.1 45 27) + 1), .ref 45], s)) rfl ?_
        rw [i1, ← nI_succ]
        refine xQ.go 2 (F1 := (66, [some (.ref 45), some (.int (nI i)), none, none], [], (xuI s 45 27 (nI (k + 1))))) rfl ?_
        exact K _ ⟨by rw [uI1, if_pos ⟨rfl, rfl⟩], xkq_I i2 rfl⟩
      · intro s hI
        obtain ⟨i1, i2⟩ := hI
        have hfS := hS.2 _ (List.mem_of_getElem? hf1)
        refine xQ.go 3 (F1 := (71, [some (.ref 45), some (.int (nI i)), none, none], [.int (s.1 45 27), .ref 45], s)) rfl ?_
        rw [i1]
        refine xQ.go 3 (F1 := (76, [some (.ref 45), some (.int (nI i)), none, none], [.int (nI i), .ref 60, .int (nI (ffit q.2 L)), .ref 45], s)) rfl ?_
        refine xQ.iald rfl (k := i) (rfl) (⟨by omega, by omega⟩) rfl ?_
        show xQ MX8_chooseFragment (77, [some (.ref 45), some (.int (nI i)), none, none], [.int (s.1 60 i), .int (nI (ffit q.2 L)), .ref 45], s) _
        rw [((gF_kq hl i2).2 i q hqi).2]
        have hon := m_onFc hqe ((fM_kq hL i2).2 _ _ hf1) (by omega) hfS.1 hfS.2
        rw [hf2] at hon
        refine xQ.call rfl (hon) ?_
        show xQ MX8_chooseFragment (80, [some (.ref 45), some (.int (nI i)), none, none], [.int (if true = true then 1 else 0)], s) _
        refine xQ.go 1 (F1 := (bif !decide ((if true = true then 1 else 0) = 0) then 96 else 83, [some (.ref 45), some (.int (nI i)), none, none], [], s)) rfl ?_
        refine xQ.brT (rfl) ?_
        refine xQ.go 1 (F1 := (97, [some (.ref 45), some (.int (nI i)), none, none], [.int (nI i)], s)) rfl ?_
        refine xQ.iret .int 1 rfl rfl (rfl) ?_
        refine ⟨(fun h => by rw [hc] at h; cases h), fun q2 hq2 => ?_, i2⟩
        rw [hc] at hq2
        cases hq2
        exact ⟨i, hqi, rfl, i1⟩
    refine xQ.go 4 (F1 := (bif decide ((w.1 45 24) ≤ (nI l.length)) then 49 else 13, [some (.ref 45), some (.int (pkI (pki L l))), some (.int (nI l.length)), none], [], w)) rfl ?_
    refine xQ.brT (by rw [hl.1]; exact decide_eq_true (Int32.le_refl _)) ?_
    refine xQ.go 3 (F1 := (bif !decide ((pkI (pki L l)) = (-5)) then 59 else 55, [some (.ref 45), some (.int (pkI (pki L l))), some (.int (nI l.length)), none], [], w)) rfl ?_
    cases hp : pki L l with
    | some i =>
      rw [hp] at com
      have hi := pki_lt hp
      refine xQ.brT (by show (!decide (nI i = -5)) = true; rw [decide_eq_false (fun e => ng_3 i (by omega) e.symm)]; rfl) ?_
      refine xQ.go 1 (F1 := (60, [some (.ref 45), some (.int (pkI (some i))), some (.int (nI l.length)), none], [.int (pkI (some i))], w)) rfl ?_
      exact com
    | none =>
      rw [hp] at com
      refine xQ.brF rfl ?_
      refine xQ.go 2 (F1 := (60, [some (.ref 45), some (.int (pkI none)), some (.int (nI l.length)), none], [.int 0], w)) rfl ?_
      exact com
