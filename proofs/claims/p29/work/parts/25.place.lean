theorem c_placeEdge_p {w : xW} {P : Nat → Nat → Bool} {PV : Nat → Bool} {E v u : Nat} (hP : eP 18 20 w P PV E) (hv : v < 10) (hu : u < 10) : xD MX1_placeEdge [.ref 18, .int (nI v), .int (nI u)] w (fun r w1 => r = none ∧ eP 18 20 w1 (adP P v u) (adV PV v u) (E + 1) ∧ xkq [(20, none), (18, some 3), (18, some 5)] w w1) := by
  refine xD.of ?_
  show xQ MX1_placeEdge (0, [some (.ref 18), some (.int (nI v)), some (.int (nI u))], [], w) _
  refine xQ.go 6 (F1 := (10, [some (.ref 18), some (.int (nI v)), some (.int (nI u))], [.int (nI v), .ref 20, .int (nI v), .ref 20], w)) rfl ?_
  refine xQ.call rfl (c_at rfl hv (by omega)) ?_
  show xQ MX1_placeEdge (13, [some (.ref 18), some (.int (nI v)), some (.int (nI u))], [.int (w.1 20 v), .int (nI v), .ref 20], w) _
  refine xQ.go 1 (F1 := (14, [some (.ref 18), some (.int (nI v)), some (.int (nI u))], [.int (nI u), .int (w.1 20 v), .int (nI v), .ref 20], w)) rfl ?_
  refine xQ.call rfl (c_bit hu) ?_
  show xQ MX1_placeEdge (17, [some (.ref 18), some (.int (nI v)), some (.int (nI u))], [.int (mk (fun z => decide (z = u))), .int (w.1 20 v), .int (nI v), .ref 20], w) _
  refine xQ.go 1 (F1 := (18, [some (.ref 18), some (.int (nI v)), some (.int (nI u))], [.int ((w.1 20 v) ||| (mk (fun z => decide (z = u)))), .int (nI v), .ref 20], w)) rfl ?_
  refine xQ.call rfl (c_put rfl hv (by omega)) ?_
  show xQ MX1_placeEdge (21, [some (.ref 18), some (.int (nI v)), some (.int (nI u))], [], (xuI w 20 v (w.1 20 v ||| mk (fun z => decide (z = u))))) _
  refine xQ.go 6 (F1 := (31, [some (.ref 18), some (.int (nI v)), some (.int (nI u))], [.int (nI u), .ref 20, .int (nI u), .ref 20], (xuI w 20 v (w.1 20 v ||| mk (fun z => decide (z = u)))))) rfl ?_
  refine xQ.call rfl (c_at rfl hu (by omega)) ?_
  show xQ MX1_placeEdge (34, [some (.ref 18), some (.int (nI v)), some (.int (nI u))], [.int ((xuI w 20 v (w.1 20 v ||| mk (fun z => decide (z = u)))).1 20 u), .int (nI u), .ref 20], (xuI w 20 v (w.1 20 v ||| mk (fun z => decide (z = u))))) _
  refine xQ.go 1 (F1 := (35, [some (.ref 18), some (.int (nI v)), some (.int (nI u))], [.int (nI v), .int ((xuI w 20 v (w.1 20 v ||| mk (fun z => decide (z = u)))).1 20 u), .int (nI u), .ref 20], (xuI w 20 v (w.1 20 v ||| mk (fun z => decide (z = u)))))) rfl ?_
  refine xQ.call rfl (c_bit hv) ?_
  show xQ MX1_placeEdge (38, [some (.ref 18), some (.int (nI v)), some (.int (nI u))], [.int (mk (fun z => decide (z = v))), .int ((xuI w 20 v (w.1 20 v ||| mk (fun z => decide (z = u)))).1 20 u), .int (nI u), .ref 20], (xuI w 20 v (w.1 20 v ||| mk (fun z => decide (z = u))))) _
  refine xQ.go 1 (F1 := (39, [some (.ref 18), some (.int (nI v)), some (.int (nI u))], [.int (((xuI w 20 v (w.1 20 v ||| mk (fun z => decide (z = u)))).1 20 u) ||| (mk (fun z => decide (z = v)))), .int (nI u), .ref 20], (xuI w 20 v (w.1 20 v ||| mk (fun z => decide (z = u)))))) rfl ?_
  refine xQ.call rfl (c_put rfl hu (by omega)) ?_
  show xQ MX1_placeEdge (42, [some (.ref 18), some (.int (nI v)), some (.int (nI u))], [], (xuI (xuI w 20 v (w.1 20 v ||| mk (fun z => decide (z = u)))) 20 u ((xuI w 20 v (w.1 20 v ||| mk (fun z => decide (z = u)))).1 20 u ||| mk (fun z => decide (z = v))))) _
  refine xQ.go 4 (F1 := (48, [some (.ref 18), some (.int (nI v)), some (.int (nI u))], [.int (nI v), .int ((xuI (xuI w 20 v (w.1 20 v ||| mk (fun z => decide (z = u)))) 20 u ((xuI w 20 v (w.1 20 v ||| mk (fun z => decide (z = u)))).1 20 u ||| mk (fun z => decide (z = v)))).1 18 3), .ref 18], (xuI (xuI w 20 v (w.1 20 v ||| mk (fun z => decide (z = u)))) 20 u ((xuI w 20 v (w.1 20 v ||| mk (fun z => decide (z = u)))).1 20 u ||| mk (fun z => decide (z = v)))))) rfl ?_
  refine xQ.call rfl (c_bit hv) ?_
  show xQ MX1_placeEdge (51, [some (.ref 18), some (.int (nI v)), some (.int (nI u))], [.int (mk (fun z => decide (z = v))), .int ((xuI (xuI w 20 v (w.1 20 v ||| mk (fun z => decide (z = u)))) 20 u ((xuI w 20 v (w.1 20 v ||| mk (fun z => decide (z = u)))).1 20 u ||| mk (fun z => decide (z = v)))).1 18 3), .ref 18], (xuI (xuI w 20 v (w.1 20 v ||| mk (fun z => decide (z = u)))) 20 u ((xuI w 20 v (w.1 20 v ||| mk (fun z => decide (z = u)))).1 20 u ||| mk (fun z => decide (z = v))))) _
  refine xQ.go 1 (F1 := (52, [some (.ref 18), some (.int (nI v)), some (.int (nI u))], [.int (nI u), .int (mk (fun z => decide (z = v))), .int ((xuI (xuI w 20 v (w.1 20 v ||| mk (fun z => decide (z = u)))) 20 u ((xuI w 20 v (w.1 20 v ||| mk (fun z => decide (z = u)))).1 20 u ||| mk (fun z => decide (z = v)))).1 18 3), .ref 18], (xuI (xuI w 20 v (w.1 20 v ||| mk (fun z => decide (z = u)))) 20 u ((xuI w 20 v (w.1 20 v ||| mk (fun z => decide (z = u)))).1 20 u ||| mk (fun z => decide (z = v)))))) rfl ?_
  refine xQ.call rfl (c_bit hu) ?_
  show xQ MX1_placeEdge (55, [some (.ref 18), some (.int (nI v)), some (.int (nI u))], [.int (mk (fun z => decide (z = u))), .int (mk (fun z => decide (z = v))), .int ((xuI (xuI w 20 v (w.1 20 v ||| mk (fun z => decide (z = u)))) 20 u ((xuI w 20 v (w.1 20 v ||| mk (fun z => decide (z = u)))).1 20 u ||| mk (fun z => decide (z = v)))).1 18 3), .ref 18], (xuI (xuI w 20 v (w.1 20 v ||| mk (fun z => decide (z = u)))) 20 u ((xuI w 20 v (w.1 20 v ||| mk (fun z => decide (z = u)))).1 20 u ||| mk (fun z => decide (z = v))))) _
  refine xQ.go 9 (F1 := (70, [some (.ref 18), some (.int (nI v)), some (.int (nI u))], [], (xuI (xuI (xuI (xuI w 20 v (w.1 20 v ||| mk (fun z => decide (z = u)))) 20 u ((xuI w 20 v (w.1 20 v ||| mk (fun z => decide (z = u)))).1 20 u ||| mk (fun z => decide (z = v)))) 18 3 (((xuI (xuI w 20 v (w.1 20 v ||| mk (fun z => decide (z = u)))) 20 u ((xuI w 20 v (w.1 20 v ||| mk (fun z => decide (z = u)))).1 20 u ||| mk (fun z => decide (z = v)))).1 18 3) ||| ((mk (fun z => decide (z = v))) ||| (mk (fun z => decide (z = u)))))) 18 5 (((xuI (xuI w 20 v (w.1 20 v ||| mk (fun z => decide (z = u)))) 20 u ((xuI w 20 v (w.1 20 v ||| mk (fun z => decide (z = u)))).1 20 u ||| mk (fun z => decide (z = v)))).1 18 5) + 1)))) rfl ?_
  refine xQ.vret 1 rfl rfl ?_
  refine ⟨rfl, ⟨fun z hz => ?_, ?_, ?_⟩, ?_⟩
  · simp only [uI1, hP.1 v hv, hP.1 u hu, hP.1 z hz]
    simp
    by_cases h1 : z = u
    · subst h1
      by_cases h2 : z = v
      · subst h2
        simp only [if_true, mk_or]
        exact mk_ext fun x _ => by simp [adP, ab]
      · simp only [if_true, if_neg h2, mk_or]
        exact mk_ext fun x _ => by simp [adP, ab, h2]
    · by_cases h2 : z = v
      · subst h2
        simp only [if_true, if_neg h1, mk_or]
        exact mk_ext fun x _ => by simp [adP, ab, h1]
      · simp only [if_neg h1, if_neg h2]
        exact mk_ext fun x _ => by simp [adP, ab, h1, h2]
  · simp only [uI1]
    simp [hP.2.1, mk_or]
    exact mk_ext fun x _ => by simp [adV]
  · simp only [uI1]
    simp [hP.2.2, ← nI_succ]
  · exact xkq_I (xkq_I (xkq_I (xkq_I xkq_rfl rfl) rfl) rfl) rfl

theorem c_placeEdge_t {w : xW} {P : Nat → Nat → Bool} {PV : Nat → Bool} {E v u : Nat} (hP : eP 32 34 w P PV E) (hv : v < 10) (hu : u < 10) : xD MX1_placeEdge [.ref 32, .int (nI v), .int (nI u)] w (fun r w1 => r = none ∧ eP 32 34 w1 (adP P v u) (adV PV v u) (E + 1) ∧ xkq [(34, none), (32, some 3), (32, some 5)] w w1) := by
  refine xD.of ?_
  show xQ MX1_placeEdge (0, [some (.ref 32), some (.int (nI v)), some (.int (nI u))], [], w) _
  refine xQ.go 6 (F1 := (10, [some (.ref 32), some (.int (nI v)), some (.int (nI u))], [.int (nI v), .ref 34, .int (nI v), .ref 34], w)) rfl ?_
  refine xQ.call rfl (c_at rfl hv (by omega)) ?_
  show xQ MX1_placeEdge (13, [some (.ref 32), some (.int (nI v)), some (.int (nI u))], [.int (w.1 34 v), .int (nI v), .ref 34], w) _
  refine xQ.go 1 (F1 := (14, [some (.ref 32), some (.int (nI v)), some (.int (nI u))], [.int (nI u), .int (w.1 34 v), .int (nI v), .ref 34], w)) rfl ?_
  refine xQ.call rfl (c_bit hu) ?_
  show xQ MX1_placeEdge (17, [some (.ref 32), some (.int (nI v)), some (.int (nI u))], [.int (mk (fun z => decide (z = u))), .int (w.1 34 v), .int (nI v), .ref 34], w) _
  refine xQ.go 1 (F1 := (18, [some (.ref 32), some (.int (nI v)), some (.int (nI u))], [.int ((w.1 34 v) ||| (mk (fun z => decide (z = u)))), .int (nI v), .ref 34], w)) rfl ?_
  refine xQ.call rfl (c_put rfl hv (by omega)) ?_
  show xQ MX1_placeEdge (21, [some (.ref 32), some (.int (nI v)), some (.int (nI u))], [], (xuI w 34 v (w.1 34 v ||| mk (fun z => decide (z = u))))) _
  refine xQ.go 6 (F1 := (31, [some (.ref 32), some (.int (nI v)), some (.int (nI u))], [.int (nI u), .ref 34, .int (nI u), .ref 34], (xuI w 34 v (w.1 34 v ||| mk (fun z => decide (z = u)))))) rfl ?_
  refine xQ.call rfl (c_at rfl hu (by omega)) ?_
  show xQ MX1_placeEdge (34, [some (.ref 32), some (.int (nI v)), some (.int (nI u))], [.int ((xuI w 34 v (w.1 34 v ||| mk (fun z => decide (z = u)))).1 34 u), .int (nI u), .ref 34], (xuI w 34 v (w.1 34 v ||| mk (fun z => decide (z = u))))) _
  refine xQ.go 1 (F1 := (35, [some (.ref 32), some (.int (nI v)), some (.int (nI u))], [.int (nI v), .int ((xuI w 34 v (w.1 34 v ||| mk (fun z => decide (z = u)))).1 34 u), .int (nI u), .ref 34], (xuI w 34 v (w.1 34 v ||| mk (fun z => decide (z = u)))))) rfl ?_
  refine xQ.call rfl (c_bit hv) ?_
  show xQ MX1_placeEdge (38, [some (.ref 32), some (.int (nI v)), some (.int (nI u))], [.int (mk (fun z => decide (z = v))), .int ((xuI w 34 v (w.1 34 v ||| mk (fun z => decide (z = u)))).1 34 u), .int (nI u), .ref 34], (xuI w 34 v (w.1 34 v ||| mk (fun z => decide (z = u))))) _
  refine xQ.go 1 (F1 := (39, [some (.ref 32), some (.int (nI v)), some (.int (nI u))], [.int (((xuI w 34 v (w.1 34 v ||| mk (fun z => decide (z = u)))).1 34 u) ||| (mk (fun z => decide (z = v)))), .int (nI u), .ref 34], (xuI w 34 v (w.1 34 v ||| mk (fun z => decide (z = u)))))) rfl ?_
  refine xQ.call rfl (c_put rfl hu (by omega)) ?_
  show xQ MX1_placeEdge (42, [some (.ref 32), some (.int (nI v)), some (.int (nI u))], [], (xuI (xuI w 34 v (w.1 34 v ||| mk (fun z => decide (z = u)))) 34 u ((xuI w 34 v (w.1 34 v ||| mk (fun z => decide (z = u)))).1 34 u ||| mk (fun z => decide (z = v))))) _
  refine xQ.go 4 (F1 := (48, [some (.ref 32), some (.int (nI v)), some (.int (nI u))], [.int (nI v), .int ((xuI (xuI w 34 v (w.1 34 v ||| mk (fun z => decide (z = u)))) 34 u ((xuI w 34 v (w.1 34 v ||| mk (fun z => decide (z = u)))).1 34 u ||| mk (fun z => decide (z = v)))).1 32 3), .ref 32], (xuI (xuI w 34 v (w.1 34 v ||| mk (fun z => decide (z = u)))) 34 u ((xuI w 34 v (w.1 34 v ||| mk (fun z => decide (z = u)))).1 34 u ||| mk (fun z => decide (z = v)))))) rfl ?_
  refine xQ.call rfl (c_bit hv) ?_
  show xQ MX1_placeEdge (51, [some (.ref 32), some (.int (nI v)), some (.int (nI u))], [.int (mk (fun z => decide (z = v))), .int ((xuI (xuI w 34 v (w.1 34 v ||| mk (fun z => decide (z = u)))) 34 u ((xuI w 34 v (w.1 34 v ||| mk (fun z => decide (z = u)))).1 34 u ||| mk (fun z => decide (z = v)))).1 32 3), .ref 32], (xuI (xuI w 34 v (w.1 34 v ||| mk (fun z => decide (z = u)))) 34 u ((xuI w 34 v (w.1 34 v ||| mk (fun z => decide (z = u)))).1 34 u ||| mk (fun z => decide (z = v))))) _
  refine xQ.go 1 (F1 := (52, [some (.ref 32), some (.int (nI v)), some (.int (nI u))], [.int (nI u), .int (mk (fun z => decide (z = v))), .int ((xuI (xuI w 34 v (w.1 34 v ||| mk (fun z => decide (z = u)))) 34 u ((xuI w 34 v (w.1 34 v ||| mk (fun z => decide (z = u)))).1 34 u ||| mk (fun z => decide (z = v)))).1 32 3), .ref 32], (xuI (xuI w 34 v (w.1 34 v ||| mk (fun z => decide (z = u)))) 34 u ((xuI w 34 v (w.1 34 v ||| mk (fun z => decide (z = u)))).1 34 u ||| mk (fun z => decide (z = v)))))) rfl ?_
  refine xQ.call rfl (c_bit hu) ?_
  show xQ MX1_placeEdge (55, [some (.ref 32), some (.int (nI v)), some (.int (nI u))], [.int (mk (fun z => decide (z = u))), .int (mk (fun z => decide (z = v))), .int ((xuI (xuI w 34 v (w.1 34 v ||| mk (fun z => decide (z = u)))) 34 u ((xuI w 34 v (w.1 34 v ||| mk (fun z => decide (z = u)))).1 34 u ||| mk (fun z => decide (z = v)))).1 32 3), .ref 32], (xuI (xuI w 34 v (w.1 34 v ||| mk (fun z => decide (z = u)))) 34 u ((xuI w 34 v (w.1 34 v ||| mk (fun z => decide (z = u)))).1 34 u ||| mk (fun z => decide (z = v))))) _
  refine xQ.go 9 (F1 := (70, [some (.ref 32), some (.int (nI v)), some (.int (nI u))], [], (xuI (xuI (xuI (xuI w 34 v (w.1 34 v ||| mk (fun z => decide (z = u)))) 34 u ((xuI w 34 v (w.1 34 v ||| mk (fun z => decide (z = u)))).1 34 u ||| mk (fun z => decide (z = v)))) 32 3 (((xuI (xuI w 34 v (w.1 34 v ||| mk (fun z => decide (z = u)))) 34 u ((xuI w 34 v (w.1 34 v ||| mk (fun z => decide (z = u)))).1 34 u ||| mk (fun z => decide (z = v)))).1 32 3) ||| ((mk (fun z => decide (z = v))) ||| (mk (fun z => decide (z = u)))))) 32 5 (((xuI (xuI w 34 v (w.1 34 v ||| mk (fun z => decide (z = u)))) 34 u ((xuI w 34 v (w.1 34 v ||| mk (fun z => decide (z = u)))).1 34 u ||| mk (fun z => decide (z = v)))).1 32 5) + 1)))) rfl ?_
  refine xQ.vret 1 rfl rfl ?_
  refine ⟨rfl, ⟨fun z hz => ?_, ?_, ?_⟩, ?_⟩
  · simp only [uI1, hP.1 v hv, hP.1 u hu, hP.1 z hz]
    simp
    by_cases h1 : z = u
    · subst h1
      by_cases h2 : z = v
      · subst h2
        simp only [if_true, mk_or]
        exact mk_ext fun x _ => by simp [adP, ab]
      · simp only [if_true, if_neg h2, mk_or]
        exact mk_ext fun x _ => by simp [adP, ab, h2]
    · by_cases h2 : z = v
      · subst h2
        simp only [if_true, if_neg h1, mk_or]
        exact mk_ext fun x _ => by simp [adP, ab, h1]
      · simp only [if_neg h1, if_neg h2]
        exact mk_ext fun x _ => by simp [adP, ab, h1, h2]
  · simp only [uI1]
    simp [hP.2.1, mk_or]
    exact mk_ext fun x _ => by simp [adV]
  · simp only [uI1]
    simp [hP.2.2, ← nI_succ]
  · exact xkq_I (xkq_I (xkq_I (xkq_I xkq_rfl rfl) rfl) rfl) rfl
