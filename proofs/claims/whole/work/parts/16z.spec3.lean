/-! more of the pure picture -/
theorem moCf_0 (lg : Nat) (me : Int32) (M : Nat → Int32) (fu : Nat) (dd : Bool) (dn lf : Int32) : moCf (nI 0) true lg me M fu dd dn lf = moCfK 0 (nI 0) lg me M fu dd dn lf := by
  rw [moCf, if_pos rfl, nI_clamp (by decide)]
theorem moCf_1 (lg : Nat) (me : Int32) (M : Nat → Int32) (fu : Nat) (dd : Bool) (dn lf : Int32) : moCf (nI 1) true lg me M fu dd dn lf = moCfK 1 (nI 1) lg me M fu dd dn lf := by
  rw [moCf, if_pos rfl, nI_clamp (by decide)]
