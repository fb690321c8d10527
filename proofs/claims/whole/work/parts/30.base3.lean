/-! ===== calls that may make cells ===== -/
def gl (v : Int32) : Bool := decide (¬ v < 0) && decide (v.toNatClampNeg ≤ 1820)
theorem gl_iff {v : Int32} : gl v = true ↔ (¬ v < 0) ∧ v.toNatClampNeg ≤ 1820 := by simp only [gl, Bool.and_eq_true, decide_eq_true_eq]
theorem gl_1 {v : Int32} (h : gl v = true) : ¬ v < 0 := (gl_iff.mp h).1
theorem gl_b {v : Int32} (h : gl v = true) : v.toNatClampNeg * 4 ≤ 536870912 := by
  have := (gl_iff.mp h).2
  omega
theorem gl_s {v : Int32} (h : gl v = true) : 0 + v.toNatClampNeg ≤ 1820 := by
  have := (gl_iff.mp h).2
  omega
