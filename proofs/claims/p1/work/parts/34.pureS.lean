/-! THE SEARCHES ON THE NEW OBJECT: the two long fills as one step each -/
theorem w32_id {z : Int} (h1 : -2147483648 ≤ z) (h2 : z < 2147483648) : w32 z = z := by
  unfold w32 Int.bmod
  simp only
  split <;> omega
def flw (w : Wd) (c a b : Nat) (z : Int) : Wd := fun c' k' => if c' = c ∧ a ≤ k' ∧ k' < b then z else w c' k'
theorem flw_0 {w : Wd} {c a : Nat} {z : Int} : flw w c a a z = w := by
  funext c' k'
  unfold flw
  rw [if_neg (by omega)]
theorem flw_s {w : Wd} {c a b : Nat} {z : Int} (h : a < b) : flw (st w c a z) c (a + 1) b z = flw w c a b z := by
  funext c' k'
  unfold flw st
  by_cases h1 : c' = c
  · by_cases h2 : k' = a
    · rw [if_neg (by omega), if_pos ⟨h1, h2⟩, if_pos (by omega)]
    · rw [if_neg (show ¬ (c' = c ∧ k' = a) from fun h => h2 h.2)]
      by_cases h3 : a ≤ k' ∧ k' < b
      · rw [if_pos (by omega), if_pos (by omega)]
      · rw [if_neg (by omega), if_neg (by omega)]
  · rw [if_neg (by omega), if_neg (by omega), if_neg (by omega)]
theorem fl29 {z : Int} (m : Nat) : ∀ (j a : Nat) (w : Wd), a + j = 8192 → f_JA_fill_29_5 (m + 1 + j) z (a : Int) 8192 w = some (0, flw w 29 a 8192 z) := by
  intro j
  induction j with
  | zero =>
    intro a w h
    have e : a = 8192 := by omega
    subst e
    rw [flw_0]
    rw [show m + 1 + 0 = m + 1 from rfl, f_JA_fill_29_5, if_pos (by decide)]
  | succ j ih =>
    intro a w h
    rw [show m + 1 + (j + 1) = (m + 1 + j) + 1 from rfl, f_JA_fill_29_5, if_neg (by omega)]
    simp only [jgd, jlw, jlet]
    rw [if_pos (by omega), Int.toNat_natCast, w32_id (by omega) (by omega)]
    rw [show (a : Int) + 1 = ((a + 1 : Nat) : Int) from rfl, ih (a + 1) _ (by omega), flw_s (by omega)]
theorem fl34 {z : Int} (m : Nat) : ∀ (j a : Nat) (w : Wd), a + j = 451 → f_JA_fill_34_5 (m + 1 + j) z (a : Int) 451 w = some (0, flw w 34 a 451 z) := by
  intro j
  induction j with
  | zero =>
    intro a w h
    have e : a = 451 := by omega
    subst e
    rw [flw_0]
    rw [show m + 1 + 0 = m + 1 from rfl, f_JA_fill_34_5, if_pos (by decide)]
  | succ j ih =>
    intro a w h
    rw [show m + 1 + (j + 1) = (m + 1 + j) + 1 from rfl, f_JA_fill_34_5, if_neg (by omega)]
    simp only [jgd, jlw, jlet]
    rw [if_pos (by omega), Int.toNat_natCast, w32_id (by omega) (by omega)]
    rw [show (a : Int) + 1 = ((a + 1 : Nat) : Int) from rfl, ih (a + 1) _ (by omega), flw_s (by omega)]
theorem fl67 (m : Nat) : ∀ (j a : Nat) (w : Wd), a + j = 8192 → f_R_findStates_12 (m + 1 + j) (a : Int) w = f_R_findStates_12 (m + 1) 8192 (flw w 67 a 8192 0) := by
  intro j
  induction j with
  | zero =>
    intro a w h
    have e : a = 8192 := by omega
    subst e
    rw [flw_0]
    rfl
  | succ j ih =>
    intro a w h
    rw [show m + 1 + (j + 1) = (m + 1 + j) + 1 from rfl]
    rw [f_R_findStates_12.eq_def]
    simp only
    rw [if_neg (by omega)]
    simp only [jgd, jlw, jlet]
    rw [if_pos (by omega), Int.toNat_natCast, w32_id (by omega) (by omega)]
    rw [show (a : Int) + 1 = ((a + 1 : Nat) : Int) from rfl, ih (a + 1) _ (by omega), flw_s (by omega)]
theorem eFU8 : FU = 3999991807 + 1 + 8192 := rfl
theorem eFU4 : FU = 3999999548 + 1 + 451 := rfl
def clr (w : Wd) : Wd := st (st (st (st (flw (flw w 29 0 8192 0) 34 0 451 (-1)) 28 7 0) 28 8 0) 28 10 0) 28 9 1
theorem clr_eq (w : Wd) : f_S_clear w = some (0, clr w) := by
  unfold f_S_clear f_JA_fill_29 f_JA_fill_34
  rw [show f_JA_fill_29_5 FU 0 0 8192 w = _ from (congrArg (fun n => f_JA_fill_29_5 n 0 0 8192 w) eFU8).trans (fl29 (z := 0) 3999991807 8192 0 w rfl), jc_some]
  rw [show f_JA_fill_34_5 FU (-1) 0 451 (flw w 29 0 8192 0) = _ from (congrArg (fun n => f_JA_fill_34_5 n (-1) 0 451 (flw w 29 0 8192 0)) eFU4).trans (fl34 (z := -1) 3999999548 451 0 _ rfl), jc_some]
  rfl
def run2 (w : Wd) : Option (Int × Wd) :=
  if (w 28 9) = 0 then
    jcall (f_S_place ((clr w) 5 4) 1 (clr w)) fun _ u4 => f_S_run_35 FU 0 u4
  else
    if (w 28 10) = 0 then
      some (1, w)
    else
      some (0, w)
theorem run_eq : f_S_run = run2 := by
  funext w
  unfold f_S_run run2
  rw [clr_eq, jc_some]
def fs2 (v1 : Int) (w : Wd) : Option (Int × Wd) :=
  jcall (f_R_hidden w) fun r1 u2 => f_R_findStates_12 (3999991807 + 1) 8192 (flw (st u2 43 44 (ior r1 v1)) 67 0 8192 0)
theorem fs_eq : f_R_findStates = fs2 := by
  funext v1 w
  unfold f_R_findStates fs2
  refine congrArg (jcall (f_R_hidden w)) (funext fun r1 => funext fun u2 => ?_)
  rw [jlw_eq]
  exact (congrArg (fun n => f_R_findStates_12 n 0 (st u2 43 44 (ior r1 v1))) eFU8).trans (fl67 3999991807 8192 0 _ rfl)
theorem two_land : two f_E_land f_R_land w0 = some 1 := by decide +kernel
theorem two_rule : two f_E_rule f_R_rule w0 = some 1 := by decide +kernel
theorem two_week : two f_E_week f_R_week w0 = some 1 := by decide +kernel
theorem two_undo : two f_E_undo f_R_undo w0 = some 1 := by decide +kernel
theorem two_father : two f_E_father f_R_father w0 = some 1 := by decide +kernel
theorem two_pairs : two f_E_pairs f_R_pairs w0 = some 1 := by decide +kernel
theorem two_bars : two f_E_bars f_R_bars w0 = some 1 := by decide +kernel
theorem two_last : two f_E_last f_R_last w0 = some 1 := by
  simp only [two, f_E_last, f_R_last, run_eq, fs_eq]
  decide +kernel
theorem two_begin : two f_E_begin f_R_begin2 w0 = some 1 := by
  simp only [two, f_E_begin, f_R_begin2, run_eq, fs_eq]
  decide +kernel
theorem two_states : two f_E_states f_R_states w0 = some 1 := by
  simp only [two, f_E_states, f_R_states, run_eq, fs_eq]
  decide +kernel
theorem two_crowd : two f_E_crowd f_R_crowd w0 = some 1 := by
  simp only [two, f_E_crowd, f_R_crowd, run_eq, fs_eq]
  decide +kernel
theorem two_needed : two f_E_needed f_R_needed w0 = some 1 := by
  simp only [two, f_E_needed, f_R_needed, f_R_lastWith, run_eq, fs_eq]
  decide +kernel
theorem two_never : two f_E_never f_R_never w0 = some 1 := by
  simp only [two, f_E_never, f_R_never, run_eq, fs_eq]
  decide +kernel
theorem two_can : two f_E_can f_R_can w0 = some 1 := by decide +kernel
theorem two_bound : two f_E_bound f_R_bound w0 = some 1 := by decide +kernel
theorem two_most (v : Int) : two (f_E_most v) (f_R_most v) w0 = some 1 := by
  by_cases h : v < 0 ∨ 60 < v
  · refine two_in (r := -1) (u := w0) (u2 := st w0 43 16 0) ?_ ?_
    · unfold f_E_most; rw [isW_no h]; rfl
    · unfold f_R_most; rw [jlw_eq, isWs_no h]; rfl
  · refine two_rng (N := 61) ?_ (by omega) (by omega)
    simp only [two, f_E_most, f_R_most, f_R_findWeek, run_eq, fs_eq]
    decide +kernel
theorem two_reach (v : Int) : two (f_E_reach v) (f_R_reach v) w0 = some 1 := by
  by_cases h : v < 0 ∨ 60 < v
  · refine two_in (r := -1) (u := w0) (u2 := st w0 43 16 0) ?_ ?_
    · unfold f_E_reach; rw [isW_no h]; rfl
    · unfold f_R_reach; rw [jlw_eq, isWs_no h]; rfl
  · refine two_rng (N := 61) ?_ (by omega) (by omega)
    simp only [two, f_E_reach, f_R_reach, f_R_findWeek, run_eq, fs_eq]
    decide +kernel
theorem two_fewest (v : Int) : two (f_E_fewest v) (f_R_fewest v) w0 = some 1 := by
  by_cases h : v < 0 ∨ 60 < v
  · refine two_in (r := -1) (u := w0) (u2 := st w0 43 16 0) ?_ ?_
    · unfold f_E_fewest; rw [isW_no h]; rfl
    · unfold f_R_fewest; rw [jlw_eq, isWs_no h]; rfl
  · refine two_rng (N := 61) ?_ (by omega) (by omega)
    simp only [two, f_E_fewest, f_R_fewest, f_R_findWeek, run_eq, fs_eq]
    decide +kernel
theorem two_cheap (v : Int) : two (f_E_cheap v) (f_R_cheap v) w0 = some 1 := by
  by_cases h : v < 0 ∨ 60 < v
  · refine two_in (r := -1) (u := w0) (u2 := st w0 43 16 0) ?_ ?_
    · unfold f_E_cheap; rw [isW_no h]; rfl
    · unfold f_R_cheap; rw [jlw_eq, isWs_no h]; rfl
  · refine two_rng (N := 61) ?_ (by omega) (by omega)
    simp only [two, f_E_cheap, f_R_cheap, run_eq, fs_eq]
    decide +kernel
