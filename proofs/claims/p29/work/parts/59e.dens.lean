/-! density -/
theorem dens_ok : ∀ n, n ≤ 45 → decide (FP.ddiv (FP.i2d (nI n)) 4627448617123184640 &&& 0x7fffffffffffffff ≤ 0x7ff0000000000000) = true := by decide +kernel
theorem C_dens {w : xW} {A : xAb} (hI : cI w A) : xC MX7_density [.ref 0] w (some (.double (qDens A))) w := by
  unfold xC
  show xE MX7_density (0, [some (.ref 0)], [], w) _ _
  refine xE.go 2 (F1 := (4, [some (.ref 0)], [.ref 1], w)) rfl ?_
  refine xE.call rfl (c_sizeA hI) ?_
  show xE MX7_density (7, [some (.ref 0)], [.int (nEd A.1)], w) _ _
  refine xE.go 2 (F1 := (11, [some (.ref 0)], [.double 4627448617123184640, .double (FP.i2d (nEd A.1))], w)) rfl ?_
  refine xE.go 1 (F1 := (12, [some (.ref 0)], [.double (qDens A)], w)) ?_ ?_
  · have h : decide (FP.ddiv (FP.i2d (nEd A.1)) 4627448617123184640 &&& 0x7fffffffffffffff ≤ 0x7ff0000000000000) = true := dens_ok _ (ec_45 _)
    show (match xddiv (11, [some (.ref 0)], [.double 4627448617123184640, .double (FP.i2d (nEd A.1))], w) with | some F1 => some F1 | none => none) = _
    unfold xddiv
    simp only
    rw [h]
    rfl
  exact xE.dret 1 rfl rfl
