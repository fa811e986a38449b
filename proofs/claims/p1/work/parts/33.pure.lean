/-! THE LAW, AS A PURE FUNCTION: class and reference answer alike -/
/-- both called, one behind the other: 1 where they answer alike -/
def two (a b : Wd → Option (Int × Wd)) (w : Wd) : Option Int := (jcall (a w) fun r u => jcall (b u) fun r2 u2 => some (if r = r2 then 1 else 0, u2)).map (·.1)
theorem two_ok {a b : Wd → Option (Int × Wd)} {w : Wd} (h : two a b w = some 1) : ∃ r u u2, a w = some (r, u) ∧ b u = some (r, u2) := by
  unfold two at h
  cases ha : a w with
  | none => rw [ha] at h; cases h
  | some q =>
    obtain ⟨r, u⟩ := q
    rw [ha] at h
    cases hb : b u with
    | none => simp [jcall, hb] at h
    | some q2 =>
      obtain ⟨r2, u2⟩ := q2
      simp only [jcall, hb, Option.map_some, Option.some.injEq] at h
      refine ⟨r, u, u2, rfl, ?_⟩
      split at h
      · rename_i e; rw [e]; exact hb
      · exact absurd h (by decide)
theorem tail_1316 {xf : Nat → Int32} (w : Wd) : f_A_law_1316 5 xf (f_A_law 5 xf 2) 0 w = some (1, w) := by rfl
theorem two_land : two f_E_land f_R_land w0 = some 1 := by decide +kernel
theorem two_rule : two f_E_rule f_R_rule w0 = some 1 := by decide +kernel
theorem two_week : two f_E_week f_R_week w0 = some 1 := by decide +kernel
theorem two_undo : two f_E_undo f_R_undo w0 = some 1 := by decide +kernel
theorem two_last : two f_E_last f_R_last w0 = some 1 := by decide +kernel
theorem two_father : two f_E_father f_R_father w0 = some 1 := by decide +kernel
theorem two_pairs : two f_E_pairs f_R_pairs w0 = some 1 := by decide +kernel
theorem two_bars : two f_E_bars f_R_bars w0 = some 1 := by decide +kernel
theorem pure_law {Ln : Nat} (hL : Ln ≤ 5) {xf : Nat → Int32} : ∃ w9 : Wd, f_A_law Ln xf 3 0 w0 = some (1, w9) := by
  sorry
