/-! the reference: the walks traced -/
/-- the walks are at hand -/
def mW (w : xW) (e : Int64) : Prop := (∀ d, d < 100 → w.1 65 d = labI (-5) ((trG e 100).1 d)) ∧ w.1 45 34 = nI (trG e 100).2.length ∧ gM w (gr e) ∧ fB w (gr e) ∧ scM w (gr e) (bl e)
theorem scM_kq {w w1 : xW} {G : Nat → Nat → Bool} {l : List xPr} {L : xCS} (h : scM w G l) (k : xkq L w w1) (hL : cno L [64] = true := by rfl) : scM w1 G l := fun p hp hpf v x y hs => (k 64 _ (cno_at hL (by simp) _)).1.trans (h p hp hpf v x y hs)
abbrev kT : xCS := [(45, some 34), (65, none)]
theorem m_findW {w : xW} {A : xAb} (hM : mI w A) : xD MX8_findWalks [.ref 45] w (fun r w1 => r = some (.int (if fl A.1.1 = true then 1 else 0)) ∧ mI w1 A ∧ (fl A.1.1 = true → mW w1 A.1.1) ∧ xkq kN w w1) := by
  refine xD.of ?_
  show xQ MX8_findWalks (0, [some (.ref 45), none, none, none, none], [], w) _
  obtain ⟨r1, w1, hc1, hr1, i1, g1, f1, s1, k1⟩ := m_plNow hM
  subst hr1
  refine xQ.go 1 (F1 := (1, [some (.ref 45), none, none, none, none], [.ref 45], w)) rfl ?_
  refine xQ.call rfl (hc1) ?_
  show xQ MX8_findWalks (4, [some (.ref 45), none, none, none, none], [.int (if fl A.1.1 = true then 1 else 0)], w1) _
  refine xQ.go 1 (F1 := (bif !decide ((if fl A.1.1 = true then 1 else 0) = 0) then 9 else 7, [some (.ref 45), none, none, none, none], [], w1)) rfl ?_
  cases hf : fl A.1.1 with
  | false =>
    refine xQ.brF rfl ?_
    refine xQ.go 1 (F1 := (8, [some (.ref 45), none, none, none, none], [.int 0], w1)) rfl ?_
    refine xQ.iret .boolean 1 rfl rfl (rfl) ?_
    exact ⟨rfl, i1, fun h => Bool.noConfusion h, k1⟩
  | true =>
    refine xQ.brT rfl ?_
    have hg := gr_gok A.1.1
    have hnG := nxt_hG hg hf
    have h48 := flat_48 hg hf
    have hcl : ∀ n, (trG A.1.1 n).2.length ≤ 48 := fun n => by
      have h1 := (TOK_len (trc_ok hnG n)).2
      have h2 := (trc_ok hnG n).2.2.2
      unfold trG
      omega
    have hlk : ∀ n d k, (trG A.1.1 n).1 d = some k → k < (trG A.1.1 n).2.length := fun n d k h => (TOK_len (trc_ok hnG n)).1 d k h
    refine xQ.go 5 (F1 := (16, [some (.ref 45), some (.int 0), none, none, none], [], (xuI w1 45 34 0))) rfl ?_
    obtain ⟨w2, e2⟩ : ∃ w2, w2 = xuI w1 45 34 0 := ⟨_, rfl⟩
    rw [← e2]
    have a2 : w2.1 45 34 = 0 := by rw [e2]; simp [uI1]
    have k2 : xkq kT w1 w2 := by rw [e2]; exact xkq_I xkq_rfl rfl
    refine xQ.loop (S := xW) (fun k s => (16, [some (.ref 45), some (.int (nI k)), none, none, none], [], s)) (fun k s => (∀ d, d < k → s.1 65 d = -5) ∧ xkq [(65, none)] w2 s) 100 w2 (rfl) (⟨(fun d hd => absurd hd (by omega)), xkq_rfl⟩) ?_ ?_
    · intro k s hk hI K
      obtain ⟨i1, i2⟩ := hI
      refine xQ.go 3 (F1 := (bif decide (100 ≤ (nI k)) then 36 else 22, [some (.ref 45), some (.int (nI k)), none, none, none], [], s)) rfl ?_
      refine xQ.brF (decide_eq_false (nI_ge (b := 100) (by omega) (by omega))) ?_
      refine xQ.go 4 (F1 := (29, [some (.ref 45), some (.int (nI k)), none, none, none], [.int (-5), .int (nI k), .ref 65], s)) rfl ?_
      refine xQ.iast rfl (k := k) (rfl) (⟨by omega, by omega⟩) rfl ?_
      show xQ MX8_findWalks (30, [some (.ref 45), some (.int (nI k)), none, none, none], [], (xuI s 65 k (-5))) _
      refine xQ.go 2 (F1 := (16, [some (.ref 45), some (.int ((nI k) + 1)), none, none, none], [], (xuI s 65 k (-5)))) rfl ?_
      rw [← nI_succ]
      refine K _ ⟨fun d hd => ?_, xkq_I i2 rfl⟩
      rw [uI1]
      by_cases e : d = k
      · rw [if_pos ⟨rfl, e⟩]
      · rw [if_neg (fun h => e h.2)]
        exact i1 d (by omega)
    · intro s hI
      obtain ⟨j1, j2⟩ := hI
      refine xQ.go 3 (F1 := (bif decide (100 ≤ (nI 100)) then 36 else 22, [some (.ref 45), some (.int (nI 100)), none, none, none], [], s)) rfl ?_
      refine xQ.brT (rfl) ?_
      refine xQ.go 2 (F1 := (38, [some (.ref 45), some (.int 0), none, none, none], [], s)) rfl ?_
      have k3 : xkq kT w1 s := xkq_trans k2 (xkq_mono rfl j2)
      have j0 : s.1 45 34 = 0 := (xkq_at j2 45 34).trans a2
      have g3 := gM_kq g1 k3
      have f3 := fB_kq f1 k3
      have s3 := scM_kq s1 k3
      have k4 : xkq kN w s := xkq_trans k1 (xkq_mono rfl k3)
      obtain ⟨s0, es0⟩ : ∃ s0, s0 = s := ⟨_, rfl⟩
      subst es0
      refine xQ.loop (S := xW) (fun k s => (38, [some (.ref 45), some (.int (nI k)), none, none, none], [], s)) (fun k s => (∀ d, d < 100 → s.1 65 d = labI (-5) ((trG A.1.1 k).1 d)) ∧ s.1 45 34 = nI (trG A.1.1 k).2.length ∧ xkq kT s0 s) 100 s0 (rfl) (⟨(fun d hd => j1 d hd), j0, xkq_rfl⟩) ?_ ?_
      · intro k s hk hI K
        obtain ⟨q1, q2, q3⟩ := hI
        have hv10 : k / 10 < 10 := by omega
        have hx10 : k % 10 < 10 := by omega
        have hnx : trG A.1.1 (k + 1) = if (gr A.1.1 (k / 10) (k % 10) && !((trG A.1.1 k).1 k).isSome) = true then ((fol (nxt (gr A.1.1)) (trG A.1.1 k).2.length 101 (trG A.1.1 k).1 (k / 10) (k % 10)).1, (trG A.1.1 k).2 ++ [(fol (nxt (gr A.1.1)) (trG A.1.1 k).2.length 101 (trG A.1.1 k).1 (k / 10) (k % 10)).2]) else trG A.1.1 k := rfl
        rw [hnx] at K
        have hc := hcl k
        have hl := hlk k
        generalize trG A.1.1 k = z at *
        have skip : ∀ o2 o3 o4 : Option Value, ¬ (gr A.1.1 (k / 10) (k % 10) && !(z.1 k).isSome) = true → xQ MX8_findWalks (136, [some (.ref 45), some (.int (nI k)), o2, o3, o4], [], s) (fun r w1 => r = some (.int (if true = true then 1 else 0)) ∧ mI w1 A ∧ (true = true → mW w1 A.1.1) ∧ xkq kN w w1) := by
          intro o2 o3 o4 hno
          rw [if_neg hno] at K
          refine xQ.less [some (.ref 45), some (.int (nI k)), none, none, none] (by simp [xleb]) ?_
          refine xQ.go 2 (F1 := (38, [some (.ref 45), some (.int ((nI k) + 1)), none, none, none], [], s)) rfl ?_
          rw [← nI_succ]
          exact K s ⟨q1, q2, q3⟩
        refine xQ.go 3 (F1 := (bif decide (100 ≤ (nI k)) then 142 else 44, [some (.ref 45), some (.int (nI k)), none, none, none], [], s)) rfl ?_
        refine xQ.brF (decide_eq_false (nI_ge (b := 100) (by omega) (by omega))) ?_
        refine xQ.go 3 (F1 := (48, [some (.ref 45), some (.int (nI k)), none, none, none], [.int ((nI k) / 10)], s)) rfl ?_
        rw [(div_all k (by omega)).1]
        refine xQ.go 4 (F1 := (53, [some (.ref 45), some (.int (nI k)), some (.int (nI (k / 10))), none, none], [.int ((nI k) - (nI k) / 10 * 10)], s)) rfl ?_
        rw [(div_all k (by omega)).2]
        refine xQ.go 1 (F1 := (54, [some (.ref 45), some (.int (nI k)), some (.int (nI (k / 10))), some (.int (nI (k % 10))), none], [], s)) rfl ?_
        refine xQ.go 3 (F1 := (59, [some (.ref 45), some (.int (nI k)), some (.int (nI (k / 10))), some (.int (nI (k % 10))), none], [.int (nI (k / 10)), .ref 50], s)) rfl ?_
        refine xQ.iald rfl (k := k / 10) (rfl) (⟨by omega, by omega⟩) rfl ?_
        show xQ MX8_findWalks (60, [some (.ref 45), some (.int (nI k)), some (.int (nI (k / 10))), some (.int (nI (k % 10))), none], [.int (s.1 50 (k / 10))], s) _
        rw [gM_kq g3 q3 rfl _ hv10]
        refine xQ.go 6 (F1 := (bif !decide ((((mk (gr A.1.1 (k / 10))) >>> ((nI (k % 10)) &&& 31)) &&& 1) = 1) then 136 else 68, [some (.ref 45), some (.int (nI k)), some (.int (nI (k / 10))), some (.int (nI (k % 10))), none], [], s)) rfl ?_
        rw [mk_get _ hx10, b01e]
        cases hG : gr A.1.1 (k / 10) (k % 10) with
        | false =>
          refine xQ.brT rfl ?_
          exact skip _ _ _ (by rw [hG]; simp)
        | true =>
          refine xQ.brF rfl ?_
          refine xQ.go 3 (F1 := (73, [some (.ref 45), some (.int (nI k)), some (.int (nI (k / 10))), some (.int (nI (k % 10))), none], [.int (nI k), .ref 65], s)) rfl ?_
          refine xQ.iald rfl (k := k) (rfl) (⟨by omega, by omega⟩) rfl ?_
          show xQ MX8_findWalks (74, [some (.ref 45), some (.int (nI k)), some (.int (nI (k / 10))), some (.int (nI (k % 10))), none], [.int (s.1 65 k)], s) _
          rw [q1 k (by omega)]
          refine xQ.go 2 (F1 := (bif !decide ((labI (-5) (z.1 k)) = (-5)) then 136 else 79, [some (.ref 45), some (.int (nI k)), some (.int (nI (k / 10))), some (.int (nI (k % 10))), none], [], s)) rfl ?_
          rw [labI5_dec (fun j h => by have := hl _ j h; omega)]
          cases hs : (z.1 k).isSome with
          | true =>
            refine xQ.brT rfl ?_
            exact skip _ _ _ (by rw [hs]; simp)
          | false =>
            refine xQ.brF rfl ?_
            rw [hG, hs, if_pos (by decide)] at K
            have go : ∀ (n : Nat) (lab : Nat → Option Nat) (v x : Nat) (t : xW), fre (gr A.1.1) lab < n → gr A.1.1 v x = true → (∀ d j, lab d = some j → j ≤ z.2.length) → (∀ d, d < 100 → t.1 65 d = labI (-5) (lab d)) → xkq [(65, none)] s t → (∀ t1, (∀ d, d < 100 → t1.1 65 d = labI (-5) ((fol (nxt (gr A.1.1)) z.2.length n lab v x).1 d)) → xkq [(65, none)] s t1 → xQ MX8_findWalks (126, [some (.ref 45), some (.int (nI k)), none, none, none], [], t1) (fun r w1 => r = some (.int (if true = true then 1 else 0)) ∧ mI w1 A ∧ (true = true → mW w1 A.1.1) ∧ xkq kN w w1)) → xQ MX8_findWalks (79, [some (.ref 45), some (.int (nI k)), some (.int (nI v)), some (.int (nI x)), none], [], t) (fun r w1 => r = some (.int (if true = true then 1 else 0)) ∧ mI w1 A ∧ (true = true → mW w1 A.1.1) ∧ xkq kN w w1) := by
              intro n
              induction n with
              | zero => intro lab v x t h; omega
              | succ n ih =>
                intro lab v x t hfr hvx hlb t1 t2 E
                obtain ⟨hv, hx, hn⟩ := hnG v x hvx
                refine xQ.go 7 (F1 := (89, [some (.ref 45), some (.int (nI k)), some (.int (nI v)), some (.int (nI x)), none], [.int ((10 * (nI v)) + (nI x)), .ref 65], t)) rfl ?_
                rw [show (10 : Int32) = nI 10 from rfl, jI_mul, jI_add]
                refine xQ.iald rfl (k := 10 * v + x) (rfl) (⟨by omega, by omega⟩) rfl ?_
                show xQ MX8_findWalks (90, [some (.ref 45), some (.int (nI k)), some (.int (nI v)), some (.int (nI x)), none], [.int (t.1 65 (10 * v + x))], t) _
                rw [t1 _ (by omega)]
                refine xQ.go 2 (F1 := (bif !decide ((labI (-5) (lab (10 * v + x))) = (-5)) then 126 else 95, [some (.ref 45), some (.int (nI k)), some (.int (nI v)), some (.int (nI x)), none], [], t)) rfl ?_
                rw [labI5_dec (fun j h => by have := hlb _ j h; omega)]
                cases hs : (lab (10 * v + x)).isSome with
                | true =>
                  refine xQ.brT rfl ?_
                  refine xQ.less [some (.ref 45), some (.int (nI k)), none, none, none] (by simp [xleb]) ?_
                  refine E t (fun d hd => ?_) t2
                  rw [fol_stop hs]
                  exact t1 d hd
                | false =>
                  refine xQ.brF rfl ?_
                  refine xQ.go 7 (F1 := (105, [some (.ref 45), some (.int (nI k)), some (.int (nI v)), some (.int (nI x)), none], [.int ((10 * (nI v)) + (nI x)), .ref 65], t)) rfl ?_
                  rw [show (10 : Int32) = nI 10 from rfl, jI_mul, jI_add]
                  refine xQ.go 2 (F1 := (109, [some (.ref 45), some (.int (nI k)), some (.int (nI v)), some (.int (nI x)), none], [.int (t.1 45 34), .int (nI (10 * v + x)), .ref 65], t)) rfl ?_
                  rw [xkq_at t2 45 34, q2]
                  refine xQ.iast rfl (k := 10 * v + x) (rfl) (⟨by omega, by omega⟩) rfl ?_
                  show xQ MX8_findWalks (110, [some (.ref 45), some (.int (nI k)), some (.int (nI v)), some (.int (nI x)), none], [], (xuI t 65 (10 * v + x) (nI z.2.length))) _
                  have hwu := fre_wup (k := z.2.length) hv hx hvx hs
                  obtain ⟨t3, et⟩ : ∃ t3, t3 = xuI t 65 (10 * v + x) (nI z.2.length) := ⟨_, rfl⟩
                  have kt : xkq [(65, none)] s t3 := by rw [et]; exact xkq_I t2 rfl
                  have lt : ∀ d, d < 100 → t3.1 65 d = labI (-5) (wup lab (10 * v + x) z.2.length d) := fun d hd => by
                    rw [et, uI1, wup_eq]
                    by_cases e : d = 10 * v + x
                    · rw [if_pos ⟨rfl, e⟩, if_pos e]; rfl
                    · rw [if_neg (fun h => e h.2), if_neg e]; exact t1 d hd
                  rw [← et]
                  have kt3 : xkq kT s0 t3 := xkq_trans q3 (xkq_mono rfl kt)
                  refine xQ.go 3 (F1 := (113, [some (.ref 45), some (.int (nI k)), some (.int (nI v)), some (.int (nI x)), none], [.int (nI v), .int (nI x), .ref 45], t3)) rfl ?_
                  refine xQ.call rfl (m_behind hg (gM_kq g3 kt3) (fB_kq f3 kt3) hf (scM_kq s3 kt3) (show gr A.1.1 x v = true by rw [hg.1]; exact hvx)) ?_
                  show xQ MX8_findWalks (116, [some (.ref 45), some (.int (nI k)), some (.int (nI v)), some (.int (nI x)), none], [.int (nI (nxt (gr A.1.1) x v))], t3) _
                  refine xQ.go 6 (F1 := (79, [some (.ref 45), some (.int (nI k)), some (.int (nI x)), some (.int (nI (nxt (gr A.1.1) x v))), some (.int (nI (nxt (gr A.1.1) x v)))], [], t3)) rfl ?_
                  refine xQ.less [some (.ref 45), some (.int (nI k)), some (.int (nI x)), some (.int (nI (nxt (gr A.1.1) x v))), none] (by simp [xleb]) ?_
                  refine ih (wup lab (10 * v + x) z.2.length) x (nxt (gr A.1.1) x v) t3 (by omega) hn (fun d j h => ?_) lt kt (fun t4 h4 k4 => E t4 (fun d hd => ?_) k4)
                  · rw [wup_eq] at h
                    by_cases e : d = 10 * v + x
                    · rw [if_pos e] at h; cases h; exact Nat.le_refl _
                    · rw [if_neg e] at h; exact hlb d j h
                  · rw [fol_go hs]
                    exact h4 d hd
            refine go 101 z.1 (k / 10) (k % 10) s (Nat.lt_succ_of_le (cnt_le _ _)) hG (fun d j h => Nat.le_of_lt (hl d j h)) q1 xkq_rfl (fun t1 h1 h2 => ?_)
            refine xQ.go 5 (F1 := (133, [some (.ref 45), some (.int (nI k)), none, none, none], [.int ((t1.1 45 34) + 1), .ref 45], t1)) rfl ?_
            rw [xkq_at h2 45 34, q2, ← nI_succ]
            refine xQ.go 3 (F1 := (38, [some (.ref 45), some (.int ((nI k) + 1)), none, none, none], [], (xuI t1 45 34 (nI (z.2.length + 1))))) rfl ?_
            rw [← nI_succ]
            refine K (xuI t1 45 34 (nI (z.2.length + 1))) ⟨fun d hd => by simpa [uI1] using h1 d hd, by simp [uI1], xkq_I (xkq_trans q3 (xkq_mono rfl h2)) rfl⟩
      · intro s hI
        obtain ⟨q1, q2, q3⟩ := hI
        refine xQ.go 3 (F1 := (bif decide (100 ≤ (nI 100)) then 142 else 44, [some (.ref 45), some (.int (nI 100)), none, none, none], [], s)) rfl ?_
        refine xQ.brT (rfl) ?_
        refine xQ.go 1 (F1 := (143, [some (.ref 45), some (.int (nI 100)), none, none, none], [.int 1], s)) rfl ?_
        refine xQ.iret .boolean 1 rfl rfl (rfl) ?_
        have kk : xkq kN w s := xkq_trans k4 (xkq_mono rfl q3)
        exact ⟨rfl, mI_N hM kk, fun _ => ⟨q1, q2, gM_kq g3 q3, fB_kq f3 q3, scM_kq s3 q3⟩, kk⟩
