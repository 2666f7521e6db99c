/-! what each call answers, and the state behind it -/
/-- edges, added, dropped -/
abbrev xSt : Type := Int64 × Int32 × Int32
/-- the state, the history, the snapshot, the text -/
abbrev xAb : Type := xSt × List xSt × Option xSt × List Nat
/-- the number below n that x is -/
def kI (n : Nat) (x : Int32) : Option Nat := (List.range n).find? (fun k => decide (x = nI k))
theorem kI_some {n a : Nat} {x : Int32} (h : kI n x = some a) : a < n ∧ x = nI a := by
  unfold kI at h
  have h1 := List.find?_some h
  have h2 := List.mem_of_find?_eq_some h
  exact ⟨List.mem_range.mp h2, of_decide_eq_true h1⟩
theorem kI_none {n : Nat} {x : Int32} (h : kI n x = none) : ∀ k, k < n → x ≠ nI k := by
  intro k hk e
  unfold kI at h
  have := List.find?_eq_none.mp h k (List.mem_range.mpr hk)
  exact this (decide_eq_true e)
theorem kI_of {n k : Nat} (hk : k < n) (hn : n ≤ 2 ^ 31) : kI n (nI k) = some k := by
  cases h : kI n (nI k) with
  | none => exact absurd rfl (kI_none h k hk)
  | some a =>
    obtain ⟨h1, h2⟩ := kI_some h
    rw [jI_inj (a := k) (b := a) (by omega) (by omega) h2]
abbrev vI (x : Int32) : Option Nat := kI 10 x
/-- is there an edge between x and y -/
def jn (e : Int64) (x y : Int32) : Bool := match vI x, vI y with
  | some a, some b => gr e a b
  | _, _ => false
theorem jn_true {e : Int64} {x y : Int32} (h : jn e x y = true) : ∃ a b, a < 10 ∧ b < 10 ∧ a ≠ b ∧ x = nI a ∧ y = nI b ∧ vI x = some a ∧ vI y = some b ∧ gr e a b = true := by
  unfold jn at h
  cases hx : vI x with
  | none => rw [hx] at h; cases h
  | some a =>
    cases hy : vI y with
    | none => rw [hx, hy] at h; cases h
    | some b =>
      rw [hx, hy] at h
      obtain ⟨h1, h2⟩ := kI_some hx
      obtain ⟨h3, h4⟩ := kI_some hy
      have h : gr e a b = true := h
      exact ⟨a, b, h1, h3, (gr_out h).2.2, h2, h4, rfl, rfl, h⟩
/-- with a state more -/
def recH (H : List xSt) (s : xSt) : List xSt := (if H.length = 5 then H.tail else H) ++ [s]
def flipS (s : xSt) (a b : Nat) : xSt := (s.1 ^^^ pbit a b, (if gr s.1 a b = true then s.2.1 else s.2.1 + 1), (if gr s.1 a b = true then s.2.2 + 1 else s.2.2))
def nEd (s : xSt) : Int32 := nI (ec (gr s.1))
def sAdd (A : xAb) (x y : Int32) : Int32 × xAb := match vI x, vI y with
  | some a, some b => if a = b then (-2, A) else if gr A.1.1 a b = true then (-4, A) else (nEd (flipS A.1 a b), (flipS A.1 a b, recH A.2.1 A.1, A.2.2))
  | _, _ => (-1, A)
def sDrop (A : xAb) (x y : Int32) : Int32 × xAb := match vI x, vI y with
  | some a, some b => if gr A.1.1 a b = true then (nEd (flipS A.1 a b), (flipS A.1 a b, recH A.2.1 A.1, A.2.2)) else (-1, A)
  | _, _ => (-1, A)
def sClear (A : xAb) : Int32 × xAb := (nEd A.1, ((0, A.1.2.1, A.1.2.2 + nEd A.1), recH A.2.1 A.1, A.2.2))
def cmpF (s : xSt) (a b : Nat) : xSt := if gr s.1 a b = false ∧ fl (s.1 ^^^ pbit a b) = true then flipS s a b else s
def sComp (A : xAb) : Int32 × xAb := if fl A.1.1 = true then (nEd (pfold cmpF A.1 100) - nEd A.1, (pfold cmpF A.1 100, recH A.2.1 A.1, A.2.2)) else (-4, A)
def sApp (A : xAb) (x : Int32) : Int32 × xAb := if x < 32 ∨ 126 < x then (-2, A) else if A.2.2.2.length = 80 then (-3, A) else (nI (A.2.2.2.length + 1), (A.1, A.2.1, A.2.2.1, A.2.2.2 ++ [x.toNatClampNeg]))
def sCT (A : xAb) : Int32 × xAb := (nI A.2.2.2.length, (A.1, A.2.1, A.2.2.1, []))
def sFault (A : xAb) : Int32 × xAb := ((scn A.2.2.2 11 0).1, A)
/-- an edit is carried out -/
def runE (s : xSt × Nat) (q : Nat × Nat × Nat) : xSt × Nat := if (q.1 = 97 ∧ gr s.1.1 q.2.1 q.2.2 = true) ∨ (q.1 = 100 ∧ gr s.1.1 q.2.1 q.2.2 = false) then s else (flipS s.1 q.2.1 q.2.2, s.2 + 1)
def edL (T : List Nat) : List (Nat × Nat × Nat) := (scn T 11 0).2.map (fun p => (tch T p.1, tch T (p.2 - 3) - 48, tch T (p.2 - 1) - 48))
def sRun (A : xAb) : Int32 × xAb := if (scn A.2.2.2 11 0).1 = -5 then (nI ((edL A.2.2.2).foldl runE (A.1, 0)).2, (((edL A.2.2.2).foldl runE (A.1, 0)).1, recH A.2.1 A.1, A.2.2)) else (-100 - (scn A.2.2.2 11 0).1, A)
def sUndo (A : xAb) : Int32 × xAb := match A.2.1.getLast? with
  | none => (-5, A)
  | some s => (nI (A.2.1.length - 1), (s, A.2.1.dropLast, A.2.2))
def sSave (A : xAb) : Int32 × xAb := (nEd A.1, (A.1, A.2.1, some A.1, A.2.2.2))
def sRest (A : xAb) : Int32 × xAb := match A.2.2.1 with
  | none => (-4, A)
  | some s => (nEd s, (s, recH A.2.1 A.1, A.2.2))
/-! queries -/
def qNb (A : xAb) (x : Int32) : Int32 := match vI x with
  | none => -1
  | some v => mk (gr A.1.1 v)
/-- the blocks -/
def bl (e : Int64) : List xPr := blks (gr e) 100
def qCount (A : xAb) (x : Int32) : Int32 := match kI 9 x with
  | some 0 => nEd A.1
  | some 1 => nI (cmpS (gr A.1.1) 10).2
  | some 2 => nI (bl A.1.1).length
  | some 3 => nI (cnt (cvS (fun i => bS (gr A.1.1) ((bl A.1.1).getD i (0, 0))) (bl A.1.1).length).2 10)
  | some 4 => nI (cnt (fun i => decide (bE (gr A.1.1) ((bl A.1.1).getD i (0, 0)) = 1)) (bl A.1.1).length)
  | some 5 => A.1.2.1
  | some 6 => A.1.2.2
  | some 7 => nI A.2.1.length
  | some 8 => nI A.2.2.2.length
  | _ => -2
def qBlock (A : xAb) (x y : Int32) : Int32 := match vI x, vI y with
  | some a, some b => if gr A.1.1 a b = true then (match (bl A.1.1).findIdx? (fun p => bS (gr A.1.1) p a && bS (gr A.1.1) p b) with
    | some i => nI i
    | none => -1) else -1
  | _, _ => -1
def qInfo (A : xAb) (x y : Int32) : Int32 := match kI (bl A.1.1).length x with
  | none => -1
  | some i => match kI 5 y with
    | some 0 => mk (bS (gr A.1.1) ((bl A.1.1).getD i (0, 0)))
    | some 1 => nI (bE (gr A.1.1) ((bl A.1.1).getD i (0, 0)))
    | some 2 => if bPl (gr A.1.1) ((bl A.1.1).getD i (0, 0)) = bE (gr A.1.1) ((bl A.1.1).getD i (0, 0)) then 1 else 0
    | some 3 => if bPl (gr A.1.1) ((bl A.1.1).getD i (0, 0)) = bE (gr A.1.1) ((bl A.1.1).getD i (0, 0)) then nI (bFa (gr A.1.1) ((bl A.1.1).getD i (0, 0))) else -5
    | some 4 => nI (bPl (gr A.1.1) ((bl A.1.1).getD i (0, 0)))
    | _ => -2
def qPlan (A : xAb) : Int32 := if fl A.1.1 = true then 1 else 0
noncomputable def qNext (A : xAb) (x y : Int32) : Int32 := match vI x, vI y with
  | some a, some b => if gr A.1.1 a b = true then (if fl A.1.1 = true then nI (nxt (gr A.1.1) a b) else -4) else -1
  | _, _ => -1
noncomputable def qWalks (A : xAb) : Int32 := if fl A.1.1 = true then nI (trG A.1.1 100).2.length else -4
noncomputable def qWLen (A : xAb) (x : Int32) : Int32 := if fl A.1.1 = true then (match kI (trG A.1.1 100).2.length x with
    | some k => nI ((trG A.1.1 100).2.getD k []).length
    | none => -1) else -4
noncomputable def qWVert (A : xAb) (x y : Int32) : Int32 := if fl A.1.1 = true then (match kI (trG A.1.1 100).2.length x with
    | some k => (match kI ((trG A.1.1 100).2.getD k []).length y with
      | some j => nI (((trG A.1.1 100).2.getD k []).getD j (0, 0)).1
      | none => -1)
    | none => -1) else -4
noncomputable def qWOf (A : xAb) (x y : Int32) : Int32 := match vI x, vI y with
  | some a, some b => if gr A.1.1 a b = true then (if fl A.1.1 = true then labI (-1) ((trG A.1.1 100).1 (10 * a + b)) else -4) else -1
  | _, _ => -1
def qForb (A : xAb) (x : Int32) : Int32 := match kI 4 x with
  | none => -2
  | some k => if fl A.1.1 = true then -5 else match k with
    | 0 => nI (ec (gr (obs A.1.1 100)))
    | 1 => mk (fun v => decide (0 < cnt (gr (obs A.1.1 100) v) 10))
    | 2 => mk (fun v => decide (2 < cnt (gr (obs A.1.1 100) v) 10))
    | _ => nI (cnt (fun v => decide (2 < cnt (gr (obs A.1.1 100) v) 10)) 10)
def qInF (A : xAb) (x y : Int32) : Int32 := match vI x, vI y with
  | some a, some b => if gr A.1.1 a b = true then (if fl A.1.1 = true then -5 else if gr (obs A.1.1 100) a b = true then 1 else 0) else -1
  | _, _ => -1
def qIfF (A : xAb) (x y : Int32) : Int32 := match vI x, vI y with
  | some a, some b => if a = b then -2 else if fl (A.1.1 ^^^ pbit a b) = true then 1 else 0
  | _, _ => -1
def qJoin (A : xAb) (x : Int32) : Int32 := match vI x with
  | none => -1
  | some v => mk (fun z => !decide (z = v) && !gr A.1.1 v z && fl (A.1.1 ^^^ pbit v z))
def qDens (A : xAb) : UInt64 := FP.ddiv (FP.i2d (nEd A.1)) 4627448617123184640
/-! the class's cells -/
def nowC (w : xW) (s : xSt) : Prop := w.2 1 0 = s.1 ∧ w.1 1 1 = s.2.1 ∧ w.1 1 2 = s.2.2
def hisC (w : xW) (H : List xSt) : Prop := w.1 3 3 = nI H.length ∧ ∀ i s, H[i]? = some s → w.2 4 i = s.1 ∧ w.1 5 i = s.2.1 ∧ w.1 6 i = s.2.2
def snpC (w : xW) : Option xSt → Prop
  | none => w.1 0 2 = 0
  | some s => w.1 0 2 = 1 ∧ w.2 2 0 = s.1 ∧ w.1 2 1 = s.2.1 ∧ w.1 2 2 = s.2.2
def aok (A : xAb) : Prop := jok A.1.1 ∧ (A.2.1.length ≤ 5 ∧ ∀ s ∈ A.2.1, jok s.1) ∧ ∀ s, A.2.2.1 = some s → jok s.1
def tX (w : xW) (T : List Nat) : Prop := w.1 7 1 = nI T.length ∧ tOK T ∧ ∀ k x, T[k]? = some x → w.1 8 k = nI x
def cI (w : xW) (A : xAb) : Prop := aok A ∧ nowC w A.1 ∧ hisC w A.2.1 ∧ snpC w A.2.2.1 ∧ tX w A.2.2.2 ∧ pOK_p w ∧ pOK_t w ∧ wOK w ∧ oOK w
abbrev kC : xCS := [(0, none), (1, none), (2, none), (3, none), (4, none), (5, none), (6, none), (7, none), (8, none), (9, none), (10, none), (11, none), (12, none), (13, none), (14, none), (15, none), (16, none), (17, none), (18, none), (19, none), (20, none), (21, none), (22, none), (23, none), (24, none), (25, none), (26, none), (27, none), (28, none), (29, none), (30, none), (31, none), (32, none), (33, none), (34, none), (35, none), (36, none), (37, none), (38, none), (39, none), (40, none), (41, none), (42, none), (43, none), (44, none)]
theorem nowC_kq {w w1 : xW} {s : xSt} {L : xCS} (h : nowC w s) (k : xkq L w w1) (hL : cno L [1] = true := by rfl) : nowC w1 s := ⟨(k 1 0 (cno_at hL (by simp) 0)).2.trans h.1, (k 1 1 (cno_at hL (by simp) 1)).1.trans h.2.1, (k 1 2 (cno_at hL (by simp) 2)).1.trans h.2.2⟩
theorem hisC_kq {w w1 : xW} {H : List xSt} {L : xCS} (h : hisC w H) (k : xkq L w w1) (hL : cno L [3, 4, 5, 6] = true := by rfl) : hisC w1 H := ⟨(k 3 3 (cno_at hL (by simp) 3)).1.trans h.1, fun i s hi => by
  obtain ⟨h1, h2, h3⟩ := h.2 i s hi
  exact ⟨(k 4 i (cno_at hL (by simp) i)).2.trans h1, (k 5 i (cno_at hL (by simp) i)).1.trans h2, (k 6 i (cno_at hL (by simp) i)).1.trans h3⟩⟩
theorem snpC_kq {w w1 : xW} {o : Option xSt} {L : xCS} (h : snpC w o) (k : xkq L w w1) (hL : cno L [0, 2] = true := by rfl) : snpC w1 o := by
  cases o with
  | none => exact (k 0 2 (cno_at hL (by simp) 2)).1.trans h
  | some s =>
    obtain ⟨h1, h2, h3, h4⟩ := h
    exact ⟨(k 0 2 (cno_at hL (by simp) 2)).1.trans h1, (k 2 0 (cno_at hL (by simp) 0)).2.trans h2, (k 2 1 (cno_at hL (by simp) 1)).1.trans h3, (k 2 2 (cno_at hL (by simp) 2)).1.trans h4⟩
theorem tX_kq {w w1 : xW} {T : List Nat} {L : xCS} (h : tX w T) (k : xkq L w w1) (h1 : cin L 7 1 = false) (h8 : cno L [8] = true) : tX w1 T := ⟨(k 7 1 h1).1.trans h.1, h.2.1, fun i x hi => (k 8 i (cno_at h8 (by simp) i)).1.trans (h.2.2 i x hi)⟩
theorem tX_kq2 {w w1 : xW} {T : List Nat} {L : xCS} (h : tX w T) (k : xkq L w w1) (hL : cno L [7, 8] = true := by rfl) : tX w1 T := tX_kq h k (cno_at hL (by simp) 1) (by
  refine List.all_eq_true.mpr fun p hp => List.all_eq_true.mpr fun a ha => ?_
  exact List.all_eq_true.mp (List.all_eq_true.mp hL p hp) a (by rw [List.mem_singleton.mp ha]; simp))
theorem wOK_kq {w w1 : xW} {L : xCS} (h : wOK w) (k : xkq L w w1) (hL : cno L [39, 40, 41, 42, 43] = true := by rfl) : wOK w1 := by
  have t : ∀ a j, a ∈ [39, 40, 41, 42, 43] → w1.1 a j = w.1 a j ∧ w1.2 a j = w.2 a j := fun a j ha => k a j (cno_at hL ha j)
  rcases h with h | ⟨E, h1, h2, h3, h4, h5, h6, h7, h8⟩
  · exact Or.inl ((t 39 7 (by simp)).1.trans h)
  · refine Or.inr ⟨E, (t 39 7 (by simp)).1.trans h1, (t 39 6 (by simp)).2.trans h2, fun v x hvx => (t 40 _ (by simp)).1.trans (h3 v x hvx), fun d hd => (t 41 d (by simp)).1.trans (h4 d hd), (t 39 4 (by simp)).1.trans h5, (t 39 5 (by simp)).1.trans h6, fun j q hj => (t 43 j (by simp)).1.trans (h7 j q hj), fun i hi => ?_⟩
    obtain ⟨g1, g2⟩ := h8 i hi
    exact ⟨(t 42 i (by simp)).1.trans g1, (t 42 (i + 1) (by simp)).1.trans g2⟩
theorem oOK_kq {w w1 : xW} {L : xCS} (h : oOK w) (k : xkq L w w1) (hL : cno L [44] = true := by rfl) : oOK w1 := by
  rcases h with h | ⟨E, h1, h2, h3⟩
  · exact Or.inl ((k 44 2 (cno_at hL (by simp) 2)).1.trans h)
  · exact Or.inr ⟨E, (k 44 2 (cno_at hL (by simp) 2)).1.trans h1, (k 44 1 (cno_at hL (by simp) 1)).2.trans h2, (k 44 0 (cno_at hL (by simp) 0)).2.trans h3⟩
/-- nothing of the class has changed -/
theorem cI_kq {w w1 : xW} {A : xAb} {L : xCS} (h : cI w A) (k : xkq L w w1) (hL : cno L [0, 1, 2, 3, 4, 5, 6, 7, 8, 11, 12, 13, 14, 15, 16, 17, 25, 26, 27, 28, 29, 30, 31, 39, 40, 41, 42, 43, 44] = true := by rfl) : cI w1 A := by
  have sub : ∀ B : List Nat, (∀ a ∈ B, a ∈ [0, 1, 2, 3, 4, 5, 6, 7, 8, 11, 12, 13, 14, 15, 16, 17, 25, 26, 27, 28, 29, 30, 31, 39, 40, 41, 42, 43, 44]) → cno L B = true := fun B hB => List.all_eq_true.mpr fun p hp => List.all_eq_true.mpr fun a ha => List.all_eq_true.mp (List.all_eq_true.mp hL p hp) a (hB a ha)
  obtain ⟨a, n, hh, s, t, p, q, u, o⟩ := h
  exact ⟨a, nowC_kq n k (sub _ (by decide)), hisC_kq hh k (sub _ (by decide)), snpC_kq s k (sub _ (by decide)), tX_kq2 t k (sub _ (by decide)), pOK_kq_p p k (sub _ (by decide)), pOK_kq_t q k (sub _ (by decide)), wOK_kq u k (sub _ (by decide)), oOK_kq o k (sub _ (by decide))⟩
theorem nI_decle {a b : Nat} (ha : a < 2 ^ 31) (hb : b < 2 ^ 31) : decide (nI a ≤ nI b) = decide (a ≤ b) := decide_eq_decide.mpr (nI_leI ha hb)
theorem nI_declt {a b : Nat} (ha : a < 2 ^ 31) (hb : b < 2 ^ 31) : decide (nI a < nI b) = decide (a < b) := decide_eq_decide.mpr (nI_ltI ha hb)
