theorem pure_law {Ln : Nat} (hL : Ln ≤ 2560) {xf : Nat → Int32} : ∃ w9 : Wd, f_A_law Ln xf 600 0 w0 = some (1, w9) := by
  sorry
