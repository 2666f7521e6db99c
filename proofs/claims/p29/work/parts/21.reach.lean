theorem c_around {w : xW} {a : Nat} (hs : xshp a = some (.inl 10)) {G : Nat → Nat → Bool} {X : Nat → Bool} (hg : ∀ u, u < 10 → w.1 a u = mk (G u)) : xC MX7_around [.ref a, .int (mk X)] w (some (.int (mk (nb G X)))) w := by
  unfold xC
  show xE MX7_around (0, [some (.ref a), some (.int (mk X)), none, none], [], w) _ _
  refine xE.go 4 (F1 := (4, [some (.ref a), some (.int (mk X)), some (.int 0), some (.int 0)], [], w)) rfl ?_
  refine xE.loop (S := Unit) (fun k s => (4, [some (.ref a), some (.int (mk X)), some (.int (mk (fun v => anyv (fun u => X u && G u v) k))), some (.int (nI k))], [], w)) (fun _ _ => True) 10 () (by simp only [anyv, ← mk_0]; rfl) (trivial) ?_ ?_
  · intro k s hk hI K
    have K := K () trivial
    refine xE.go 2 (F1 := (6, [some (.ref a), some (.int (mk X)), some (.int (mk (fun v => anyv (fun u => X u && G u v) k))), some (.int (nI k))], [.ref a, .int (nI k)], w)) rfl ?_
    refine xE.alen (hs) rfl ?_
    show xE MX7_around (7, [some (.ref a), some (.int (mk X)), some (.int (mk (fun v => anyv (fun u => X u && G u v) k))), some (.int (nI k))], [.int (nI 10), .int (nI k)], w) _ _
    refine xE.go 1 (F1 := (bif decide ((nI 10) ≤ (nI k)) then 30 else 10, [some (.ref a), some (.int (mk X)), some (.int (mk (fun v => anyv (fun u => X u && G u v) k))), some (.int (nI k))], [], w)) rfl ?_
    refine xE.brF (decide_eq_false (nI_ge (b := 10) hk (by omega))) ?_
    refine xE.go 6 (F1 := (bif decide ((((mk X) >>> ((nI k) &&& 31)) &&& 1) = 0) then 24 else 18, [some (.ref a), some (.int (mk X)), some (.int (mk (fun v => anyv (fun u => X u && G u v) k))), some (.int (nI k))], [], w)) rfl ?_
    rw [mk_get X hk]
    cases hX : X k with
    | true =>
      refine xE.brF (by decide) ?_
      refine xE.go 3 (F1 := (21, [some (.ref a), some (.int (mk X)), some (.int (mk (fun v => anyv (fun u => X u && G u v) k))), some (.int (nI k))], [.int (nI k), .ref a, .int (mk (fun v => anyv (fun u => X u && G u v) k))], w)) rfl ?_
      refine xE.iald hs (k := k) (rfl) (⟨hk, by omega⟩) rfl ?_
      show xE MX7_around (22, [some (.ref a), some (.int (mk X)), some (.int (mk (fun v => anyv (fun u => X u && G u v) k))), some (.int (nI k))], [.int (w.1 a k), .int (mk (fun v => anyv (fun u => X u && G u v) k))], w) _ _
      rw [hg k hk]
      refine xE.go 4 (F1 := (4, [some (.ref a), some (.int (mk X)), some (.int ((mk (fun v => anyv (fun u => X u && G u v) k)) ||| (mk (G k)))), some (.int ((nI k) + 1))], [], w)) rfl ?_
      rw [mk_or, ← nI_succ, show mk (fun v => anyv (fun u => X u && G u v) k || G k v) = mk (fun v => anyv (fun u => X u && G u v) (k + 1)) from mk_ext fun v _ => by simp only [anyv, hX, Bool.true_and]]
      exact K
    | false =>
      refine xE.brT (by decide) ?_
      refine xE.go 2 (F1 := (4, [some (.ref a), some (.int (mk X)), some (.int (mk (fun v => anyv (fun u => X u && G u v) k))), some (.int ((nI k) + 1))], [], w)) rfl ?_
      rw [← nI_succ, show mk (fun v => anyv (fun u => X u && G u v) k) = mk (fun v => anyv (fun u => X u && G u v) (k + 1)) from mk_ext fun v _ => by simp only [anyv, hX, Bool.false_and, Bool.or_false]]
      exact K
  · intro s hI
    refine xE.go 2 (F1 := (6, [some (.ref a), some (.int (mk X)), some (.int (mk (fun v => anyv (fun u => X u && G u v) 10))), some (.int (nI 10))], [.ref a, .int (nI 10)], w)) rfl ?_
    refine xE.alen (hs) rfl ?_
    show xE MX7_around (7, [some (.ref a), some (.int (mk X)), some (.int (mk (fun v => anyv (fun u => X u && G u v) 10))), some (.int (nI 10))], [.int (nI 10), .int (nI 10)], w) _ _
    refine xE.go 1 (F1 := (bif decide ((nI 10) ≤ (nI 10)) then 30 else 10, [some (.ref a), some (.int (mk X)), some (.int (mk (fun v => anyv (fun u => X u && G u v) 10))), some (.int (nI 10))], [], w)) rfl ?_
    refine xE.brT (decide_eq_true (nI_le (a := 10) (Nat.le_refl _) (by omega))) ?_
    refine xE.go 1 (F1 := (31, [some (.ref a), some (.int (mk X)), some (.int (mk (fun v => anyv (fun u => X u && G u v) 10))), some (.int (nI 10))], [.int (mk (fun v => anyv (fun u => X u && G u v) 10))], w)) rfl ?_
    exact xE.iret .int 1 rfl rfl (rfl)
theorem c_reach {w : xW} {a : Nat} (hs : xshp a = some (.inl 10)) {G : Nat → Nat → Bool} {X A : Nat → Bool} (hg : ∀ u, u < 10 → w.1 a u = mk (G u)) : xC MX7_reach [.ref a, .int (mk X), .int (mk A)] w (some (.int (mk (rch G A X)))) w := by
  unfold xC
  show xE MX7_reach (0, [some (.ref a), some (.int (mk X)), some (.int (mk A)), none, none, none], [], w) _ _
  refine xE.go 6 (F1 := (7, [some (.ref a), some (.int (mk X)), some (.int (mk A)), some (.int ((mk X) &&& (mk A))), some (.int 0), none], [], w)) rfl ?_
  rw [mk_and]
  refine xE.loop (S := Option Value) (fun k t => (7, [some (.ref a), some (.int (mk X)), some (.int (mk A)), some (.int (mk (rchn G A k (fun v => X v && A v)))), some (.int (nI k)), t], [], w)) (fun _ _ => True) 10 none rfl trivial ?_ ?_
  · intro k t hk _ K
    refine xE.less [some (.ref a), some (.int (mk X)), some (.int (mk A)), some (.int (mk (rchn G A k (fun v => X v && A v)))), some (.int (nI k)), none] (by simp [xleb]) ?_
    refine xE.go 3 (F1 := (bif decide (10 ≤ (nI k)) then 43 else 14, [some (.ref a), some (.int (mk X)), some (.int (mk A)), some (.int (mk (rchn G A k (fun v => X v && A v)))), some (.int (nI k)), none], [], w)) rfl ?_
    refine xE.brF (decide_eq_false (nI_ge (b := 10) hk (by omega))) ?_
    refine xE.go 3 (F1 := (17, [some (.ref a), some (.int (mk X)), some (.int (mk A)), some (.int (mk (rchn G A k (fun v => X v && A v)))), some (.int (nI k)), none], [.int (mk (rchn G A k (fun v => X v && A v))), .ref a, .int (mk (rchn G A k (fun v => X v && A v)))], w)) rfl ?_
    refine xE.call rfl (c_around hs hg) ?_
    show xE MX7_reach (20, [some (.ref a), some (.int (mk X)), some (.int (mk A)), some (.int (mk (rchn G A k (fun v => X v && A v)))), some (.int (nI k)), none], [.int (mk (nb G (rchn G A k (fun v => X v && A v)))), .int (mk (rchn G A k (fun v => X v && A v)))], w) _ _
    have em : mk (rchn G A k (fun v => X v && A v)) ||| (mk (nb G (rchn G A k (fun v => X v && A v))) &&& mk A) = mk (rchn G A (k + 1) (fun v => X v && A v)) := by
      rw [mk_and, mk_or, rchn_add k 1]
      rfl
    refine xE.go 4 (F1 := (25, [some (.ref a), some (.int (mk X)), some (.int (mk A)), some (.int (mk (rchn G A k (fun v => X v && A v)))), some (.int (nI k)), some (.int ((mk (rchn G A k (fun v => X v && A v))) ||| ((mk (nb G (rchn G A k (fun v => X v && A v)))) &&& (mk A))))], [], w)) rfl ?_
    rw [em]
    refine xE.go 3 (F1 := (bif !decide ((mk (rchn G A (k + 1) (fun v => X v && A v))) = (mk (rchn G A k (fun v => X v && A v)))) then 34 else 31, [some (.ref a), some (.int (mk X)), some (.int (mk A)), some (.int (mk (rchn G A k (fun v => X v && A v)))), some (.int (nI k)), some (.int (mk (rchn G A (k + 1) (fun v => X v && A v))))], [], w)) rfl ?_
    by_cases e : mk (rchn G A (k + 1) (fun v => X v && A v)) = mk (rchn G A k (fun v => X v && A v))
    · refine xE.brF (by rw [decide_eq_true e]; rfl) ?_
      have e2 : mk (rchn G A k (fun v => X v && A v)) = mk (rch G A X) := mk_ext fun v hv => by
        have e3 := mk_inj e
        rw [rchn_add k 1] at e3
        have e4 := rchn_fix (G := G) (A := A) (X := rchn G A k (fun v => X v && A v)) e3 (10 - k) v hv
        unfold rch
        rw [show (10 : Nat) = k + (10 - k) by omega, rchn_add, e4]
      rw [e2]
      refine xE.go 2 (F1 := (44, [some (.ref a), some (.int (mk X)), some (.int (mk A)), some (.int (mk (rch G A X))), some (.int (nI k)), some (.int (mk (rchn G A (k + 1) (fun v => X v && A v))))], [.int (mk (rch G A X))], w)) rfl ?_
      exact xE.iret .int 1 rfl rfl (rfl)
    · refine xE.brT (by rw [decide_eq_false e]; rfl) ?_
      refine xE.go 4 (F1 := (7, [some (.ref a), some (.int (mk X)), some (.int (mk A)), some (.int (mk (rchn G A (k + 1) (fun v => X v && A v)))), some (.int ((nI k) + 1)), some (.int (mk (rchn G A (k + 1) (fun v => X v && A v))))], [], w)) rfl ?_
      rw [← nI_succ]
      exact K _ trivial
  · intro t _
    refine xE.less [some (.ref a), some (.int (mk X)), some (.int (mk A)), some (.int (mk (rch G A X))), some (.int (nI 10)), none] (by simp [xleb, rch]) ?_
    refine xE.go 3 (F1 := (bif decide (10 ≤ (nI 10)) then 43 else 14, [some (.ref a), some (.int (mk X)), some (.int (mk A)), some (.int (mk (rch G A X))), some (.int (nI 10)), none], [], w)) rfl ?_
    refine xE.brT (decide_eq_true (nI_le (a := 10) (Nat.le_refl _) (by omega))) ?_
    refine xE.go 1 (F1 := (44, [some (.ref a), some (.int (mk X)), some (.int (mk A)), some (.int (mk (rch G A X))), some (.int (nI 10)), none], [.int (mk (rch G A X))], w)) rfl ?_
    exact xE.iret .int 1 rfl rfl (rfl)
