/-! THE LAW, AS A PURE FUNCTION: class and reference answer alike -/
theorem pure_law {Ln : Nat} (hL : Ln ≤ 5) {xf : Nat → Int32} : ∃ w9 : Wd, f_A_law Ln xf 3 0 w0 = some (1, w9) := by
  sorry
