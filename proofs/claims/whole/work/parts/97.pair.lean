/-! class and reference answer alike -/
abbrev wJ (w : xW) : Prop := ∃ A, cI w A ∧ mI w A
/-- a call of both: the same answer, and they agree again -/
def pOp (Mc Mm : xMI) (as : List Value) : Prop := ∀ w, wJ w → ∃ (v : Int32) (w1 w2 : xW), xC Mc (.ref 0 :: as) w (some (.int v)) w1 ∧ xC Mm (.ref 45 :: as) w1 (some (.int v)) w2 ∧ wJ w2
theorem stp {Mc Mm : xMI} {as : List Value} {w : xW} {A : xAb} {v : Int32 × xAb} (hM : mI w A) (hc : xD Mc (.ref 0 :: as) w (cQ w v)) (hm : ∀ w1, mI w1 A → xD Mm (.ref 45 :: as) w1 (mQ w1 v)) : ∃ (v : Int32) (w1 w2 : xW), xC Mc (.ref 0 :: as) w (some (.int v)) w1 ∧ xC Mm (.ref 45 :: as) w1 (some (.int v)) w2 ∧ wJ w2 := by
  obtain ⟨r1, w1, c1, e1, i1, k1⟩ := hc
  obtain ⟨r2, w2, c2, e2, i2, k2⟩ := hm w1 (mI_kq hM k1)
  subst e1
  subst e2
  exact ⟨v.1, w1, w2, c1, c2, v.2, cI_kq i1 k2, i2⟩
theorem p_add {x y : Int32} : pOp MX7_add MX8_add [.int x, .int y] := fun w ⟨A, hc, hm⟩ => stp hm (C_add hc) (fun _ h => M_add h)
theorem p_drop {x y : Int32} : pOp MX7_drop MX8_drop [.int x, .int y] := fun w ⟨A, hc, hm⟩ => stp hm (C_drop hc) (fun _ h => M_drop h)
theorem p_clear : pOp MX7_clear MX8_clear [] := fun w ⟨A, hc, hm⟩ => stp hm (C_clear hc) (fun _ h => M_clear h)
theorem p_comp : pOp MX7_complete MX8_complete [] := fun w ⟨A, hc, hm⟩ => stp hm (C_comp hc) (fun _ h => M_comp h)
theorem p_app {x : Int32} : pOp MX7_append MX8_append [.int x] := fun w ⟨A, hc, hm⟩ => stp hm (C_app hc) (fun _ h => M_app h)
theorem p_ct : pOp MX7_clearText MX8_clearText [] := fun w ⟨A, hc, hm⟩ => stp hm (C_ct hc) (fun _ h => M_ct h)
theorem p_fault : pOp MX7_fault MX8_fault [] := fun w ⟨A, hc, hm⟩ => stp hm (C_fault hc) (fun _ h => M_fault h)
theorem p_run : pOp MX7_run MX8_run [] := fun w ⟨A, hc, hm⟩ => stp hm (C_run hc) (fun _ h => M_run h)
theorem p_undo : pOp MX7_undo MX8_undo [] := fun w ⟨A, hc, hm⟩ => stp hm (C_undo hc) (fun _ h => M_undo h)
theorem p_save : pOp MX7_save MX8_save [] := fun w ⟨A, hc, hm⟩ => stp hm (C_save hc) (fun _ h => M_save h)
theorem p_rest : pOp MX7_restore MX8_restore [] := fun w ⟨A, hc, hm⟩ => stp hm (C_rest hc) (fun _ h => M_rest h)
theorem p_nb {x : Int32} : pOp MX7_neighbors MX8_neighbors [.int x] := fun w ⟨A, hc, hm⟩ => stp (v := (qNb A x, A)) hm (C_nb hc) (fun _ h => M_nb h)
theorem p_count {x : Int32} : pOp MX7_count MX8_count [.int x] := fun w ⟨A, hc, hm⟩ => stp (v := (qCount A x, A)) hm (C_count hc) (fun _ h => M_count h)
theorem p_block {x y : Int32} : pOp MX7_block MX8_block [.int x, .int y] := fun w ⟨A, hc, hm⟩ => stp (v := (qBlock A x y, A)) hm (C_block hc) (fun _ h => M_block h)
theorem p_info {x y : Int32} : pOp MX7_blockInfo MX8_blockInfo [.int x, .int y] := fun w ⟨A, hc, hm⟩ => stp (v := (qInfo A x y, A)) hm (C_info hc) (fun _ h => M_info h)
theorem p_plan : pOp MX7_planar MX8_planar [] := fun w ⟨A, hc, hm⟩ => stp (v := (qPlan A, A)) hm (C_plan hc) (fun _ h => M_plan h)
theorem p_next {x y : Int32} : pOp MX7_next MX8_next [.int x, .int y] := fun w ⟨A, hc, hm⟩ => stp (v := (qNext A x y, A)) hm (C_next hc) (fun _ h => M_next h)
theorem p_walks : pOp MX7_walks MX8_walks [] := fun w ⟨A, hc, hm⟩ => stp (v := (qWalks A, A)) hm (C_walks hc) (fun _ h => M_walks h)
theorem p_wlen {x : Int32} : pOp MX7_walkLength MX8_walkLength [.int x] := fun w ⟨A, hc, hm⟩ => stp (v := (qWLen A x, A)) hm (C_wlen hc) (fun _ h => M_wlen h)
theorem p_wvert {x y : Int32} : pOp MX7_walkVertex MX8_walkVertex [.int x, .int y] := fun w ⟨A, hc, hm⟩ => stp (v := (qWVert A x y, A)) hm (C_wvert hc) (fun _ h => M_wvert h)
theorem p_wof {x y : Int32} : pOp MX7_walkOf MX8_walkOf [.int x, .int y] := fun w ⟨A, hc, hm⟩ => stp (v := (qWOf A x y, A)) hm (C_wof hc) (fun _ h => M_wof h)
theorem p_forb {x : Int32} : pOp MX7_forbidden MX8_forbidden [.int x] := fun w ⟨A, hc, hm⟩ => stp (v := (qForb A x, A)) hm (C_forb hc) (fun _ h => M_forb h)
theorem p_inf {x y : Int32} : pOp MX7_inForbidden MX8_inForbidden [.int x, .int y] := fun w ⟨A, hc, hm⟩ => stp (v := (qInF A x y, A)) hm (C_inf hc) (fun _ h => M_inf h)
theorem p_iff {x y : Int32} : pOp MX7_ifFlipped MX8_ifFlipped [.int x, .int y] := fun w ⟨A, hc, hm⟩ => stp (v := (qIfF A x y, A)) hm (C_iff hc) (fun _ h => M_iff h)
theorem p_join {x : Int32} : pOp MX7_joinable MX8_joinable [.int x] := fun w ⟨A, hc, hm⟩ => stp (v := (qJoin A x, A)) hm (C_join hc) (fun _ h => M_join h)
theorem p_dens {w : xW} (h : wJ w) : ∃ d : UInt64, decide (d &&& 0x7fffffffffffffff ≤ 0x7ff0000000000000) = true ∧ xC MX7_density [.ref 0] w (some (.double d)) w ∧ xC MX8_density [.ref 45] w (some (.double d)) w := by
  obtain ⟨A, hc, hm⟩ := h
  exact ⟨qDens A, dens_ok _ (ec_45 _), C_dens hc, M_dens hm⟩
/-! the first world -/
def xw0 : xW := (fun _ _ => 0, fun _ _ => 0)
theorem w0_J : wJ xw0 := by
  refine ⟨((0, 0, 0), [], none, []), ⟨⟨jok_0, ⟨Nat.zero_le _, fun s h => by cases h⟩, fun s h => by cases h⟩, ⟨rfl, rfl, rfl⟩, ⟨rfl, fun i s h => by cases h⟩, rfl, ⟨rfl, ⟨Nat.zero_le _, fun x h => by cases h⟩, fun i x h => by cases h⟩, Or.inl rfl, Or.inl rfl, Or.inl rfl, Or.inl rfl⟩, ⟨jok_0, ⟨Nat.zero_le _, fun s h => by cases h⟩, fun s h => by cases h⟩, ⟨fun v hv => ?_, rfl, rfl⟩, ⟨rfl, fun i s h => by cases h⟩, rfl, ⟨rfl, ⟨Nat.zero_le _, fun x h => by cases h⟩, fun i x h => by cases h⟩⟩
  show (0 : Int32) = mk (gr 0 v)
  rw [mk_0]
  exact mk_ext fun z _ => (gr_zero v z).symm
