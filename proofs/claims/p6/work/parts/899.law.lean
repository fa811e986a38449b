/-! THE ROW'S OWN LAW, AS A PURE FUNCTION -/
theorem br_tail {Ln : Nat} {xf : Nat → Int32} {k23 : Int → Wd → Option (Int × Wd)} {v4 : Int} {w : Wd} (h : LV (v4 + 5) w) (hi : 0 ≤ v4 ∧ v4 + 5 ≤ (Ln : Int) ∧ (Ln : Int) ≤ 2560) (hk : ∀ {u : Wd}, LV (v4 + 5) u → OK (k23 (v4 + 5) u) Q1) : OK (f_A_law_1288 Ln xf k23 v4 w) Q1 := by
  unfold f_A_law_1288
  have z := w32_sp (v4 + 5)
  refine ok_let (fun x e => ?_)
  have e2 : x = v4 + 5 := by omega
  rw [e2]
  exact hk h
theorem br_220 {Ln : Nat} {xf : Nat → Int32} {k23 : Int → Wd → Option (Int × Wd)} {v4 : Int} {w : Wd} (h : LV v4 w) (hi : 0 ≤ v4 ∧ v4 + 5 ≤ (Ln : Int) ∧ (Ln : Int) ≤ 2560) (hk : ∀ {u : Wd}, LV (v4 + 5) u → OK (k23 (v4 + 5) u) Q1) : OK (f_A_law_220 Ln xf k23 v4 w) Q1 := by
  unfold f_A_law_220
  have z1 := w32_sp (v4 + 1)
  have z2 := w32_sp (v4 + 2)
  have z3 := w32_sp (v4 + 3)
  have z4 := w32_sp (v4 + 4)
  refine ok_gd (by omega) ?_
  refine ok_call (v_sign h (by omega) (i32_rg _)) (fun r1 u1 q1 => ?_)
  refine ok_gd (by omega) ?_
  refine ok_call q1 (fun r2 u2 q2 => ?_)
  exact br_tail q2.1 hi hk
theorem br_245 {Ln : Nat} {xf : Nat → Int32} {k23 : Int → Wd → Option (Int × Wd)} {v4 : Int} {w : Wd} (h : LV v4 w) (hi : 0 ≤ v4 ∧ v4 + 5 ≤ (Ln : Int) ∧ (Ln : Int) ≤ 2560) (hk : ∀ {u : Wd}, LV (v4 + 5) u → OK (k23 (v4 + 5) u) Q1) : OK (f_A_law_245 Ln xf k23 v4 w) Q1 := by
  unfold f_A_law_245
  have z1 := w32_sp (v4 + 1)
  have z2 := w32_sp (v4 + 2)
  have z3 := w32_sp (v4 + 3)
  have z4 := w32_sp (v4 + 4)
  refine ok_gd (by omega) ?_
  refine ok_call (v_end h (by omega) (i32_rg _)) (fun r1 u1 q1 => ?_)
  refine ok_gd (by omega) ?_
  refine ok_call q1 (fun r2 u2 q2 => ?_)
  exact br_tail q2.1 hi hk
theorem br_270 {Ln : Nat} {xf : Nat → Int32} {k23 : Int → Wd → Option (Int × Wd)} {v4 : Int} {w : Wd} (h : LV v4 w) (hi : 0 ≤ v4 ∧ v4 + 5 ≤ (Ln : Int) ∧ (Ln : Int) ≤ 2560) (hk : ∀ {u : Wd}, LV (v4 + 5) u → OK (k23 (v4 + 5) u) Q1) : OK (f_A_law_270 Ln xf k23 v4 w) Q1 := by
  unfold f_A_law_270
  have z1 := w32_sp (v4 + 1)
  have z2 := w32_sp (v4 + 2)
  have z3 := w32_sp (v4 + 3)
  have z4 := w32_sp (v4 + 4)
  refine ok_call (v_land h (by omega)) (fun r1 u1 q1 => ?_)
  refine ok_call q1 (fun r2 u2 q2 => ?_)
  exact br_tail q2.1 hi hk
theorem br_283 {Ln : Nat} {xf : Nat → Int32} {k23 : Int → Wd → Option (Int × Wd)} {v4 : Int} {w : Wd} (h : LV v4 w) (hi : 0 ≤ v4 ∧ v4 + 5 ≤ (Ln : Int) ∧ (Ln : Int) ≤ 2560) (hk : ∀ {u : Wd}, LV (v4 + 5) u → OK (k23 (v4 + 5) u) Q1) : OK (f_A_law_283 Ln xf k23 v4 w) Q1 := by
  unfold f_A_law_283
  have z1 := w32_sp (v4 + 1)
  have z2 := w32_sp (v4 + 2)
  have z3 := w32_sp (v4 + 3)
  have z4 := w32_sp (v4 + 4)
  refine ok_call (v_rule h (by omega)) (fun r1 u1 q1 => ?_)
  refine ok_call q1 (fun r2 u2 q2 => ?_)
  exact br_tail q2.1 hi hk
theorem br_296 {Ln : Nat} {xf : Nat → Int32} {k23 : Int → Wd → Option (Int × Wd)} {v4 : Int} {w : Wd} (h : LV v4 w) (hi : 0 ≤ v4 ∧ v4 + 5 ≤ (Ln : Int) ∧ (Ln : Int) ≤ 2560) (hk : ∀ {u : Wd}, LV (v4 + 5) u → OK (k23 (v4 + 5) u) Q1) : OK (f_A_law_296 Ln xf k23 v4 w) Q1 := by
  unfold f_A_law_296
  have z1 := w32_sp (v4 + 1)
  have z2 := w32_sp (v4 + 2)
  refine ok_gd (by omega) (ok_gd (by omega) ?_)
  refine ok_call (vq_of h (by omega) (i32_rg _) (i32_rg _)) (fun r1 u1 q1 => ?_)
  refine ok_gd (by omega) (ok_gd (by omega) ?_)
  refine ok_call q1 (fun r2 u2 q2 => ?_)
  obtain ⟨hl, e1, _, e3⟩ := q2
  unfold f_R_thrown
  rw [jc_s]
  refine ok_it e1 ?_
  refine ok_ite (fun c => ?_) (fun _ => ?_)
  · refine ok_gd (by decide) ?_
    have e4 : u2 82 (0 : Int).toNat = r2 := e3 c
    refine ok_it (by rw [e4]; unfold lcmp; rw [if_neg (by omega), if_pos rfl]) ?_
    unfold f_A_law_361
    exact br_tail hl hi hk
  · unfold f_A_law_361
    exact br_tail hl hi hk
theorem br_364 {Ln : Nat} {xf : Nat → Int32} {k23 : Int → Wd → Option (Int × Wd)} {v4 : Int} {w : Wd} (h : LV v4 w) (hi : 0 ≤ v4 ∧ v4 + 5 ≤ (Ln : Int) ∧ (Ln : Int) ≤ 2560) (hk : ∀ {u : Wd}, LV (v4 + 5) u → OK (k23 (v4 + 5) u) Q1) : OK (f_A_law_364 Ln xf k23 v4 w) Q1 := by
  unfold f_A_law_364
  have z1 := w32_sp (v4 + 1)
  have z2 := w32_sp (v4 + 2)
  have z3 := w32_sp (v4 + 3)
  have z4 := w32_sp (v4 + 4)
  refine ok_gd (by omega) ?_
  refine ok_gd (by omega) ?_
  refine ok_call (v_law h (by omega) (i32_rg _) (i32_rg _)) (fun r1 u1 q1 => ?_)
  refine ok_gd (by omega) ?_
  refine ok_gd (by omega) ?_
  refine ok_call q1 (fun r2 u2 q2 => ?_)
  exact br_tail q2.1 hi hk
theorem br_401 {Ln : Nat} {xf : Nat → Int32} {k23 : Int → Wd → Option (Int × Wd)} {v4 : Int} {w : Wd} (h : LV v4 w) (hi : 0 ≤ v4 ∧ v4 + 5 ≤ (Ln : Int) ∧ (Ln : Int) ≤ 2560) (hk : ∀ {u : Wd}, LV (v4 + 5) u → OK (k23 (v4 + 5) u) Q1) : OK (f_A_law_401 Ln xf k23 v4 w) Q1 := by
  unfold f_A_law_401
  have z1 := w32_sp (v4 + 1)
  have z2 := w32_sp (v4 + 2)
  have z3 := w32_sp (v4 + 3)
  have z4 := w32_sp (v4 + 4)
  refine ok_gd (by omega) ?_
  refine ok_gd (by omega) ?_
  refine ok_gd (by omega) ?_
  refine ok_ite (fun hb => ?_) (fun hb => ?_)
  · unfold f_A_law_428
    refine ok_call (v_meet h (by omega) (i32_rg _) (i32_rg _) (by decide)) (fun r1 u1 q1 => ?_)
    refine ok_gd (by omega) ?_
    refine ok_gd (by omega) ?_
    refine ok_gd (by omega) ?_
    refine ok_it hb ?_
    unfold f_A_law_459
    refine ok_call q1 (fun r2 u2 q2 => ?_)
    exact br_tail q2.1 hi hk
  · unfold f_A_law_428
    refine ok_call (v_meet h (by omega) (i32_rg _) (i32_rg _) (by decide)) (fun r1 u1 q1 => ?_)
    refine ok_gd (by omega) ?_
    refine ok_gd (by omega) ?_
    refine ok_gd (by omega) ?_
    refine ok_if hb ?_
    unfold f_A_law_459
    refine ok_call q1 (fun r2 u2 q2 => ?_)
    exact br_tail q2.1 hi hk
theorem br_466 {Ln : Nat} {xf : Nat → Int32} {k23 : Int → Wd → Option (Int × Wd)} {v4 : Int} {w : Wd} (h : LV v4 w) (hi : 0 ≤ v4 ∧ v4 + 5 ≤ (Ln : Int) ∧ (Ln : Int) ≤ 2560) (hk : ∀ {u : Wd}, LV (v4 + 5) u → OK (k23 (v4 + 5) u) Q1) : OK (f_A_law_466 Ln xf k23 v4 w) Q1 := by
  unfold f_A_law_466
  have z1 := w32_sp (v4 + 1)
  have z2 := w32_sp (v4 + 2)
  have z3 := w32_sp (v4 + 3)
  have z4 := w32_sp (v4 + 4)
  refine ok_gd (by omega) ?_
  refine ok_gd (by omega) ?_
  refine ok_ite (fun hb => ?_) (fun hb => ?_)
  · unfold f_A_law_487
    refine ok_call (v_hide h (by omega) (i32_rg _) (by decide)) (fun r1 u1 q1 => ?_)
    refine ok_gd (by omega) ?_
    refine ok_gd (by omega) ?_
    refine ok_it hb ?_
    unfold f_A_law_512
    refine ok_call q1 (fun r2 u2 q2 => ?_)
    exact br_tail q2.1 hi hk
  · unfold f_A_law_487
    refine ok_call (v_hide h (by omega) (i32_rg _) (by decide)) (fun r1 u1 q1 => ?_)
    refine ok_gd (by omega) ?_
    refine ok_gd (by omega) ?_
    refine ok_if hb ?_
    unfold f_A_law_512
    refine ok_call q1 (fun r2 u2 q2 => ?_)
    exact br_tail q2.1 hi hk
theorem br_519 {Ln : Nat} {xf : Nat → Int32} {k23 : Int → Wd → Option (Int × Wd)} {v4 : Int} {w : Wd} (h : LV v4 w) (hi : 0 ≤ v4 ∧ v4 + 5 ≤ (Ln : Int) ∧ (Ln : Int) ≤ 2560) (hk : ∀ {u : Wd}, LV (v4 + 5) u → OK (k23 (v4 + 5) u) Q1) : OK (f_A_law_519 Ln xf k23 v4 w) Q1 := by
  unfold f_A_law_519
  have z1 := w32_sp (v4 + 1)
  have z2 := w32_sp (v4 + 2)
  have z3 := w32_sp (v4 + 3)
  have z4 := w32_sp (v4 + 4)
  refine ok_gd (by omega) ?_
  refine ok_call (v_baby h (by omega) (i32_rg _)) (fun r1 u1 q1 => ?_)
  refine ok_gd (by omega) ?_
  refine ok_call q1 (fun r2 u2 q2 => ?_)
  exact br_tail q2.1 hi hk
theorem br_544 {Ln : Nat} {xf : Nat → Int32} {k23 : Int → Wd → Option (Int × Wd)} {v4 : Int} {w : Wd} (h : LV v4 w) (hi : 0 ≤ v4 ∧ v4 + 5 ≤ (Ln : Int) ∧ (Ln : Int) ≤ 2560) (hk : ∀ {u : Wd}, LV (v4 + 5) u → OK (k23 (v4 + 5) u) Q1) : OK (f_A_law_544 Ln xf k23 v4 w) Q1 := by
  unfold f_A_law_544
  have z1 := w32_sp (v4 + 1)
  have z2 := w32_sp (v4 + 2)
  have z3 := w32_sp (v4 + 3)
  have z4 := w32_sp (v4 + 4)
  refine ok_gd (by omega) ?_
  refine ok_gd (by omega) ?_
  refine ok_gd (by omega) ?_
  refine ok_gd (by omega) ?_
  refine ok_call (v_sheet h (by omega) (i32_rg _) (i32_rg _) (i32_rg _) (i32_rg _)) (fun r1 u1 q1 => ?_)
  refine ok_gd (by omega) ?_
  refine ok_gd (by omega) ?_
  refine ok_gd (by omega) ?_
  refine ok_gd (by omega) ?_
  refine ok_call q1 (fun r2 u2 q2 => ?_)
  exact br_tail q2.1 hi hk
theorem br_605 {Ln : Nat} {xf : Nat → Int32} {k23 : Int → Wd → Option (Int × Wd)} {v4 : Int} {w : Wd} (h : LV v4 w) (hi : 0 ≤ v4 ∧ v4 + 5 ≤ (Ln : Int) ∧ (Ln : Int) ≤ 2560) (hk : ∀ {u : Wd}, LV (v4 + 5) u → OK (k23 (v4 + 5) u) Q1) : OK (f_A_law_605 Ln xf k23 v4 w) Q1 := by
  unfold f_A_law_605
  have z1 := w32_sp (v4 + 1)
  have z2 := w32_sp (v4 + 2)
  have z3 := w32_sp (v4 + 3)
  have z4 := w32_sp (v4 + 4)
  refine ok_call (v_week h (by omega)) (fun r1 u1 q1 => ?_)
  refine ok_call q1 (fun r2 u2 q2 => ?_)
  exact br_tail q2.1 hi hk
theorem br_618 {Ln : Nat} {xf : Nat → Int32} {k23 : Int → Wd → Option (Int × Wd)} {v4 : Int} {w : Wd} (h : LV v4 w) (hi : 0 ≤ v4 ∧ v4 + 5 ≤ (Ln : Int) ∧ (Ln : Int) ≤ 2560) (hk : ∀ {u : Wd}, LV (v4 + 5) u → OK (k23 (v4 + 5) u) Q1) : OK (f_A_law_618 Ln xf k23 v4 w) Q1 := by
  unfold f_A_law_618
  have z1 := w32_sp (v4 + 1)
  have z2 := w32_sp (v4 + 2)
  have z3 := w32_sp (v4 + 3)
  have z4 := w32_sp (v4 + 4)
  refine ok_gd (by omega) ?_
  refine ok_call (v_goes h (by omega) (i32_rg _)) (fun r1 u1 q1 => ?_)
  refine ok_gd (by omega) ?_
  refine ok_call q1 (fun r2 u2 q2 => ?_)
  exact br_tail q2.1 hi hk
theorem br_643 {Ln : Nat} {xf : Nat → Int32} {k23 : Int → Wd → Option (Int × Wd)} {v4 : Int} {w : Wd} (h : LV v4 w) (hi : 0 ≤ v4 ∧ v4 + 5 ≤ (Ln : Int) ∧ (Ln : Int) ≤ 2560) (hk : ∀ {u : Wd}, LV (v4 + 5) u → OK (k23 (v4 + 5) u) Q1) : OK (f_A_law_643 Ln xf k23 v4 w) Q1 := by
  unfold f_A_law_643
  have z1 := w32_sp (v4 + 1)
  have z2 := w32_sp (v4 + 2)
  have z3 := w32_sp (v4 + 3)
  have z4 := w32_sp (v4 + 4)
  refine ok_call (v_undo h (by omega)) (fun r1 u1 q1 => ?_)
  refine ok_call q1 (fun r2 u2 q2 => ?_)
  exact br_tail q2.1 hi hk
theorem br_656 {Ln : Nat} {xf : Nat → Int32} {k23 : Int → Wd → Option (Int × Wd)} {v4 : Int} {w : Wd} (h : LV v4 w) (hi : 0 ≤ v4 ∧ v4 + 5 ≤ (Ln : Int) ∧ (Ln : Int) ≤ 2560) (hk : ∀ {u : Wd}, LV (v4 + 5) u → OK (k23 (v4 + 5) u) Q1) : OK (f_A_law_656 Ln xf k23 v4 w) Q1 := by
  unfold f_A_law_656
  have z1 := w32_sp (v4 + 1)
  have z2 := w32_sp (v4 + 2)
  have z3 := w32_sp (v4 + 3)
  have z4 := w32_sp (v4 + 4)
  refine ok_call (v_can h (by omega)) (fun r1 u1 q1 => ?_)
  refine ok_call q1 (fun r2 u2 q2 => ?_)
  exact br_tail q2.1 hi hk
theorem br_669 {Ln : Nat} {xf : Nat → Int32} {k23 : Int → Wd → Option (Int × Wd)} {v4 : Int} {w : Wd} (h : LV v4 w) (hi : 0 ≤ v4 ∧ v4 + 5 ≤ (Ln : Int) ∧ (Ln : Int) ≤ 2560) (hk : ∀ {u : Wd}, LV (v4 + 5) u → OK (k23 (v4 + 5) u) Q1) : OK (f_A_law_669 Ln xf k23 v4 w) Q1 := by
  unfold f_A_law_669
  have z1 := w32_sp (v4 + 1)
  have z2 := w32_sp (v4 + 2)
  have z3 := w32_sp (v4 + 3)
  have z4 := w32_sp (v4 + 4)
  refine ok_gd (by omega) ?_
  refine ok_call (v_picks h (by omega) (i32_rg _)) (fun r1 u1 q1 => ?_)
  refine ok_gd (by omega) ?_
  refine ok_call q1 (fun r2 u2 q2 => ?_)
  exact br_tail q2.1 hi hk
theorem br_694 {Ln : Nat} {xf : Nat → Int32} {k23 : Int → Wd → Option (Int × Wd)} {v4 : Int} {w : Wd} (h : LV v4 w) (hi : 0 ≤ v4 ∧ v4 + 5 ≤ (Ln : Int) ∧ (Ln : Int) ≤ 2560) (hk : ∀ {u : Wd}, LV (v4 + 5) u → OK (k23 (v4 + 5) u) Q1) : OK (f_A_law_694 Ln xf k23 v4 w) Q1 := by
  unfold f_A_law_694
  have z1 := w32_sp (v4 + 1)
  have z2 := w32_sp (v4 + 2)
  have z3 := w32_sp (v4 + 3)
  have z4 := w32_sp (v4 + 4)
  refine ok_call (v_pairs h (by omega)) (fun r1 u1 q1 => ?_)
  refine ok_call q1 (fun r2 u2 q2 => ?_)
  exact br_tail q2.1 hi hk
theorem br_707 {Ln : Nat} {xf : Nat → Int32} {k23 : Int → Wd → Option (Int × Wd)} {v4 : Int} {w : Wd} (h : LV v4 w) (hi : 0 ≤ v4 ∧ v4 + 5 ≤ (Ln : Int) ∧ (Ln : Int) ≤ 2560) (hk : ∀ {u : Wd}, LV (v4 + 5) u → OK (k23 (v4 + 5) u) Q1) : OK (f_A_law_707 Ln xf k23 v4 w) Q1 := by
  unfold f_A_law_707
  have z1 := w32_sp (v4 + 1)
  have z2 := w32_sp (v4 + 2)
  have z3 := w32_sp (v4 + 3)
  have z4 := w32_sp (v4 + 4)
  refine ok_call (v_bars h (by omega)) (fun r1 u1 q1 => ?_)
  refine ok_call q1 (fun r2 u2 q2 => ?_)
  exact br_tail q2.1 hi hk
theorem br_720 {Ln : Nat} {xf : Nat → Int32} {k23 : Int → Wd → Option (Int × Wd)} {v4 : Int} {w : Wd} (h : LV v4 w) (hi : 0 ≤ v4 ∧ v4 + 5 ≤ (Ln : Int) ∧ (Ln : Int) ≤ 2560) (hk : ∀ {u : Wd}, LV (v4 + 5) u → OK (k23 (v4 + 5) u) Q1) : OK (f_A_law_720 Ln xf k23 v4 w) Q1 := by
  unfold f_A_law_720
  have z1 := w32_sp (v4 + 1)
  have z2 := w32_sp (v4 + 2)
  have z3 := w32_sp (v4 + 3)
  have z4 := w32_sp (v4 + 4)
  refine ok_call (v_states h (by omega)) (fun r1 u1 q1 => ?_)
  refine ok_call q1 (fun r2 u2 q2 => ?_)
  exact br_tail q2.1 hi hk
theorem br_733 {Ln : Nat} {xf : Nat → Int32} {k23 : Int → Wd → Option (Int × Wd)} {v4 : Int} {w : Wd} (h : LV v4 w) (hi : 0 ≤ v4 ∧ v4 + 5 ≤ (Ln : Int) ∧ (Ln : Int) ≤ 2560) (hk : ∀ {u : Wd}, LV (v4 + 5) u → OK (k23 (v4 + 5) u) Q1) : OK (f_A_law_733 Ln xf k23 v4 w) Q1 := by
  unfold f_A_law_733
  have z1 := w32_sp (v4 + 1)
  have z2 := w32_sp (v4 + 2)
  have z3 := w32_sp (v4 + 3)
  have z4 := w32_sp (v4 + 4)
  refine ok_gd (by omega) ?_
  refine ok_call (v_most h (by omega) (i32_rg _)) (fun r1 u1 q1 => ?_)
  refine ok_gd (by omega) ?_
  refine ok_call q1 (fun r2 u2 q2 => ?_)
  exact br_tail q2.1 hi hk
theorem br_758 {Ln : Nat} {xf : Nat → Int32} {k23 : Int → Wd → Option (Int × Wd)} {v4 : Int} {w : Wd} (h : LV v4 w) (hi : 0 ≤ v4 ∧ v4 + 5 ≤ (Ln : Int) ∧ (Ln : Int) ≤ 2560) (hk : ∀ {u : Wd}, LV (v4 + 5) u → OK (k23 (v4 + 5) u) Q1) : OK (f_A_law_758 Ln xf k23 v4 w) Q1 := by
  unfold f_A_law_758
  have z1 := w32_sp (v4 + 1)
  have z2 := w32_sp (v4 + 2)
  have z3 := w32_sp (v4 + 3)
  have z4 := w32_sp (v4 + 4)
  refine ok_gd (by omega) ?_
  refine ok_call (v_reach h (by omega) (i32_rg _)) (fun r1 u1 q1 => ?_)
  refine ok_gd (by omega) ?_
  refine ok_call q1 (fun r2 u2 q2 => ?_)
  exact br_tail q2.1 hi hk
theorem br_783 {Ln : Nat} {xf : Nat → Int32} {k23 : Int → Wd → Option (Int × Wd)} {v4 : Int} {w : Wd} (h : LV v4 w) (hi : 0 ≤ v4 ∧ v4 + 5 ≤ (Ln : Int) ∧ (Ln : Int) ≤ 2560) (hk : ∀ {u : Wd}, LV (v4 + 5) u → OK (k23 (v4 + 5) u) Q1) : OK (f_A_law_783 Ln xf k23 v4 w) Q1 := by
  unfold f_A_law_783
  have z1 := w32_sp (v4 + 1)
  have z2 := w32_sp (v4 + 2)
  have z3 := w32_sp (v4 + 3)
  have z4 := w32_sp (v4 + 4)
  refine ok_gd (by omega) ?_
  refine ok_call (v_fewest h (by omega) (i32_rg _)) (fun r1 u1 q1 => ?_)
  refine ok_gd (by omega) ?_
  refine ok_call q1 (fun r2 u2 q2 => ?_)
  exact br_tail q2.1 hi hk
theorem br_808 {Ln : Nat} {xf : Nat → Int32} {k23 : Int → Wd → Option (Int × Wd)} {v4 : Int} {w : Wd} (h : LV v4 w) (hi : 0 ≤ v4 ∧ v4 + 5 ≤ (Ln : Int) ∧ (Ln : Int) ≤ 2560) (hk : ∀ {u : Wd}, LV (v4 + 5) u → OK (k23 (v4 + 5) u) Q1) : OK (f_A_law_808 Ln xf k23 v4 w) Q1 := by
  unfold f_A_law_808
  have z1 := w32_sp (v4 + 1)
  have z2 := w32_sp (v4 + 2)
  have z3 := w32_sp (v4 + 3)
  have z4 := w32_sp (v4 + 4)
  refine ok_call (v_crowd h (by omega)) (fun r1 u1 q1 => ?_)
  refine ok_call q1 (fun r2 u2 q2 => ?_)
  exact br_tail q2.1 hi hk
theorem br_821 {Ln : Nat} {xf : Nat → Int32} {k23 : Int → Wd → Option (Int × Wd)} {v4 : Int} {w : Wd} (h : LV v4 w) (hi : 0 ≤ v4 ∧ v4 + 5 ≤ (Ln : Int) ∧ (Ln : Int) ≤ 2560) (hk : ∀ {u : Wd}, LV (v4 + 5) u → OK (k23 (v4 + 5) u) Q1) : OK (f_A_law_821 Ln xf k23 v4 w) Q1 := by
  unfold f_A_law_821
  have z1 := w32_sp (v4 + 1)
  have z2 := w32_sp (v4 + 2)
  have z3 := w32_sp (v4 + 3)
  have z4 := w32_sp (v4 + 4)
  refine ok_gd (by omega) ?_
  refine ok_gd (by omega) ?_
  refine ok_gd (by omega) ?_
  refine ok_call (v_both h (by omega) (i32_rg _) (i32_rg _) (i32_rg _)) (fun r1 u1 q1 => ?_)
  refine ok_gd (by omega) ?_
  refine ok_gd (by omega) ?_
  refine ok_gd (by omega) ?_
  refine ok_call q1 (fun r2 u2 q2 => ?_)
  exact br_tail q2.1 hi hk
theorem br_870 {Ln : Nat} {xf : Nat → Int32} {k23 : Int → Wd → Option (Int × Wd)} {v4 : Int} {w : Wd} (h : LV v4 w) (hi : 0 ≤ v4 ∧ v4 + 5 ≤ (Ln : Int) ∧ (Ln : Int) ≤ 2560) (hk : ∀ {u : Wd}, LV (v4 + 5) u → OK (k23 (v4 + 5) u) Q1) : OK (f_A_law_870 Ln xf k23 v4 w) Q1 := by
  unfold f_A_law_870
  have z1 := w32_sp (v4 + 1)
  have z2 := w32_sp (v4 + 2)
  have z3 := w32_sp (v4 + 3)
  have z4 := w32_sp (v4 + 4)
  refine ok_call (v_last h (by omega)) (fun r1 u1 q1 => ?_)
  refine ok_call q1 (fun r2 u2 q2 => ?_)
  exact br_tail q2.1 hi hk
theorem br_883 {Ln : Nat} {xf : Nat → Int32} {k23 : Int → Wd → Option (Int × Wd)} {v4 : Int} {w : Wd} (h : LV v4 w) (hi : 0 ≤ v4 ∧ v4 + 5 ≤ (Ln : Int) ∧ (Ln : Int) ≤ 2560) (hk : ∀ {u : Wd}, LV (v4 + 5) u → OK (k23 (v4 + 5) u) Q1) : OK (f_A_law_883 Ln xf k23 v4 w) Q1 := by
  unfold f_A_law_883
  have z1 := w32_sp (v4 + 1)
  have z2 := w32_sp (v4 + 2)
  have z3 := w32_sp (v4 + 3)
  have z4 := w32_sp (v4 + 4)
  refine ok_call (v_begin h (by omega)) (fun r1 u1 q1 => ?_)
  refine ok_call q1 (fun r2 u2 q2 => ?_)
  exact br_tail q2.1 hi hk
theorem br_896 {Ln : Nat} {xf : Nat → Int32} {k23 : Int → Wd → Option (Int × Wd)} {v4 : Int} {w : Wd} (h : LV v4 w) (hi : 0 ≤ v4 ∧ v4 + 5 ≤ (Ln : Int) ∧ (Ln : Int) ≤ 2560) (hk : ∀ {u : Wd}, LV (v4 + 5) u → OK (k23 (v4 + 5) u) Q1) : OK (f_A_law_896 Ln xf k23 v4 w) Q1 := by
  unfold f_A_law_896
  have z1 := w32_sp (v4 + 1)
  have z2 := w32_sp (v4 + 2)
  have z3 := w32_sp (v4 + 3)
  have z4 := w32_sp (v4 + 4)
  refine ok_gd (by omega) ?_
  refine ok_call (v_cheap h (by omega) (i32_rg _)) (fun r1 u1 q1 => ?_)
  refine ok_gd (by omega) ?_
  refine ok_call q1 (fun r2 u2 q2 => ?_)
  exact br_tail q2.1 hi hk
theorem br_921 {Ln : Nat} {xf : Nat → Int32} {k23 : Int → Wd → Option (Int × Wd)} {v4 : Int} {w : Wd} (h : LV v4 w) (hi : 0 ≤ v4 ∧ v4 + 5 ≤ (Ln : Int) ∧ (Ln : Int) ≤ 2560) (hk : ∀ {u : Wd}, LV (v4 + 5) u → OK (k23 (v4 + 5) u) Q1) : OK (f_A_law_921 Ln xf k23 v4 w) Q1 := by
  unfold f_A_law_921
  have z1 := w32_sp (v4 + 1)
  have z2 := w32_sp (v4 + 2)
  have z3 := w32_sp (v4 + 3)
  have z4 := w32_sp (v4 + 4)
  refine ok_gd (by omega) ?_
  refine ok_call (v_stays h (by omega) (i32_rg _)) (fun r1 u1 q1 => ?_)
  refine ok_gd (by omega) ?_
  refine ok_call q1 (fun r2 u2 q2 => ?_)
  exact br_tail q2.1 hi hk
theorem br_946 {Ln : Nat} {xf : Nat → Int32} {k23 : Int → Wd → Option (Int × Wd)} {v4 : Int} {w : Wd} (h : LV v4 w) (hi : 0 ≤ v4 ∧ v4 + 5 ≤ (Ln : Int) ∧ (Ln : Int) ≤ 2560) (hk : ∀ {u : Wd}, LV (v4 + 5) u → OK (k23 (v4 + 5) u) Q1) : OK (f_A_law_946 Ln xf k23 v4 w) Q1 := by
  unfold f_A_law_946
  have z1 := w32_sp (v4 + 1)
  have z2 := w32_sp (v4 + 2)
  have z3 := w32_sp (v4 + 3)
  have z4 := w32_sp (v4 + 4)
  refine ok_gd (by omega) ?_
  refine ok_call (v_soonest h (by omega) (i32_rg _)) (fun r1 u1 q1 => ?_)
  refine ok_gd (by omega) ?_
  refine ok_call q1 (fun r2 u2 q2 => ?_)
  exact br_tail q2.1 hi hk
theorem br_971 {Ln : Nat} {xf : Nat → Int32} {k23 : Int → Wd → Option (Int × Wd)} {v4 : Int} {w : Wd} (h : LV v4 w) (hi : 0 ≤ v4 ∧ v4 + 5 ≤ (Ln : Int) ∧ (Ln : Int) ≤ 2560) (hk : ∀ {u : Wd}, LV (v4 + 5) u → OK (k23 (v4 + 5) u) Q1) : OK (f_A_law_971 Ln xf k23 v4 w) Q1 := by
  unfold f_A_law_971
  have z1 := w32_sp (v4 + 1)
  have z2 := w32_sp (v4 + 2)
  have z3 := w32_sp (v4 + 3)
  have z4 := w32_sp (v4 + 4)
  refine ok_gd (by omega) ?_
  refine ok_call (v_worth h (by omega) (i32_rg _)) (fun r1 u1 q1 => ?_)
  refine ok_gd (by omega) ?_
  refine ok_call q1 (fun r2 u2 q2 => ?_)
  exact br_tail q2.1 hi hk
theorem br_996 {Ln : Nat} {xf : Nat → Int32} {k23 : Int → Wd → Option (Int × Wd)} {v4 : Int} {w : Wd} (h : LV v4 w) (hi : 0 ≤ v4 ∧ v4 + 5 ≤ (Ln : Int) ∧ (Ln : Int) ≤ 2560) (hk : ∀ {u : Wd}, LV (v4 + 5) u → OK (k23 (v4 + 5) u) Q1) : OK (f_A_law_996 Ln xf k23 v4 w) Q1 := by
  unfold f_A_law_996
  have z1 := w32_sp (v4 + 1)
  have z2 := w32_sp (v4 + 2)
  have z3 := w32_sp (v4 + 3)
  have z4 := w32_sp (v4 + 4)
  refine ok_call (v_needed h (by omega)) (fun r1 u1 q1 => ?_)
  refine ok_call q1 (fun r2 u2 q2 => ?_)
  exact br_tail q2.1 hi hk
theorem br_1009 {Ln : Nat} {xf : Nat → Int32} {k23 : Int → Wd → Option (Int × Wd)} {v4 : Int} {w : Wd} (h : LV v4 w) (hi : 0 ≤ v4 ∧ v4 + 5 ≤ (Ln : Int) ∧ (Ln : Int) ≤ 2560) (hk : ∀ {u : Wd}, LV (v4 + 5) u → OK (k23 (v4 + 5) u) Q1) : OK (f_A_law_1009 Ln xf k23 v4 w) Q1 := by
  unfold f_A_law_1009
  have z1 := w32_sp (v4 + 1)
  have z2 := w32_sp (v4 + 2)
  have z3 := w32_sp (v4 + 3)
  have z4 := w32_sp (v4 + 4)
  refine ok_call (v_never h (by omega)) (fun r1 u1 q1 => ?_)
  refine ok_call q1 (fun r2 u2 q2 => ?_)
  exact br_tail q2.1 hi hk
theorem br_1022 {Ln : Nat} {xf : Nat → Int32} {k23 : Int → Wd → Option (Int × Wd)} {v4 : Int} {w : Wd} (h : LV v4 w) (hi : 0 ≤ v4 ∧ v4 + 5 ≤ (Ln : Int) ∧ (Ln : Int) ≤ 2560) (hk : ∀ {u : Wd}, LV (v4 + 5) u → OK (k23 (v4 + 5) u) Q1) : OK (f_A_law_1022 Ln xf k23 v4 w) Q1 := by
  unfold f_A_law_1022
  have z1 := w32_sp (v4 + 1)
  have z2 := w32_sp (v4 + 2)
  have z3 := w32_sp (v4 + 3)
  have z4 := w32_sp (v4 + 4)
  refine ok_call (v_bound h (by omega)) (fun r1 u1 q1 => ?_)
  refine ok_call q1 (fun r2 u2 q2 => ?_)
  exact br_tail q2.1 hi hk
theorem br_1035 {Ln : Nat} {xf : Nat → Int32} {k23 : Int → Wd → Option (Int × Wd)} {v4 : Int} {w : Wd} (h : LV v4 w) (hi : 0 ≤ v4 ∧ v4 + 5 ≤ (Ln : Int) ∧ (Ln : Int) ≤ 2560) (hk : ∀ {u : Wd}, LV (v4 + 5) u → OK (k23 (v4 + 5) u) Q1) : OK (f_A_law_1035 Ln xf k23 v4 w) Q1 := by
  unfold f_A_law_1035
  have z1 := w32_sp (v4 + 1)
  have z2 := w32_sp (v4 + 2)
  have z3 := w32_sp (v4 + 3)
  have z4 := w32_sp (v4 + 4)
  refine ok_gd (by omega) ?_
  refine ok_call (v_far h (by omega) (i32_rg _)) (fun r1 u1 q1 => ?_)
  refine ok_gd (by omega) ?_
  refine ok_call q1 (fun r2 u2 q2 => ?_)
  exact br_tail q2.1 hi hk
theorem br_1060 {Ln : Nat} {xf : Nat → Int32} {k23 : Int → Wd → Option (Int × Wd)} {v4 : Int} {w : Wd} (h : LV v4 w) (hi : 0 ≤ v4 ∧ v4 + 5 ≤ (Ln : Int) ∧ (Ln : Int) ≤ 2560) (hk : ∀ {u : Wd}, LV (v4 + 5) u → OK (k23 (v4 + 5) u) Q1) : OK (f_A_law_1060 Ln xf k23 v4 w) Q1 := by
  unfold f_A_law_1060
  have z1 := w32_sp (v4 + 1)
  have z2 := w32_sp (v4 + 2)
  have z3 := w32_sp (v4 + 3)
  have z4 := w32_sp (v4 + 4)
  refine ok_gd (by omega) ?_
  refine ok_call (v_line h (by omega) (i32_rg _)) (fun r1 u1 q1 => ?_)
  refine ok_gd (by omega) ?_
  refine ok_call q1 (fun r2 u2 q2 => ?_)
  exact br_tail q2.1 hi hk
theorem br_1085 {Ln : Nat} {xf : Nat → Int32} {k23 : Int → Wd → Option (Int × Wd)} {v4 : Int} {w : Wd} (h : LV v4 w) (hi : 0 ≤ v4 ∧ v4 + 5 ≤ (Ln : Int) ∧ (Ln : Int) ≤ 2560) (hk : ∀ {u : Wd}, LV (v4 + 5) u → OK (k23 (v4 + 5) u) Q1) : OK (f_A_law_1085 Ln xf k23 v4 w) Q1 := by
  unfold f_A_law_1085
  have z1 := w32_sp (v4 + 1)
  have z2 := w32_sp (v4 + 2)
  have z3 := w32_sp (v4 + 3)
  have z4 := w32_sp (v4 + 4)
  refine ok_gd (by omega) ?_
  refine ok_call (v_led h (by omega) (i32_rg _)) (fun r1 u1 q1 => ?_)
  refine ok_gd (by omega) ?_
  refine ok_call q1 (fun r2 u2 q2 => ?_)
  exact br_tail q2.1 hi hk
theorem br_1110 {Ln : Nat} {xf : Nat → Int32} {k23 : Int → Wd → Option (Int × Wd)} {v4 : Int} {w : Wd} (h : LV v4 w) (hi : 0 ≤ v4 ∧ v4 + 5 ≤ (Ln : Int) ∧ (Ln : Int) ≤ 2560) (hk : ∀ {u : Wd}, LV (v4 + 5) u → OK (k23 (v4 + 5) u) Q1) : OK (f_A_law_1110 Ln xf k23 v4 w) Q1 := by
  unfold f_A_law_1110
  have z1 := w32_sp (v4 + 1)
  have z2 := w32_sp (v4 + 2)
  have z3 := w32_sp (v4 + 3)
  have z4 := w32_sp (v4 + 4)
  refine ok_gd (by omega) ?_
  refine ok_call (v_was h (by omega) (i32_rg _)) (fun r1 u1 q1 => ?_)
  refine ok_gd (by omega) ?_
  refine ok_call q1 (fun r2 u2 q2 => ?_)
  exact br_tail q2.1 hi hk
theorem br_1135 {Ln : Nat} {xf : Nat → Int32} {k23 : Int → Wd → Option (Int × Wd)} {v4 : Int} {w : Wd} (h : LV v4 w) (hi : 0 ≤ v4 ∧ v4 + 5 ≤ (Ln : Int) ∧ (Ln : Int) ≤ 2560) (hk : ∀ {u : Wd}, LV (v4 + 5) u → OK (k23 (v4 + 5) u) Q1) : OK (f_A_law_1135 Ln xf k23 v4 w) Q1 := by
  unfold f_A_law_1135
  have z1 := w32_sp (v4 + 1)
  have z2 := w32_sp (v4 + 2)
  have z3 := w32_sp (v4 + 3)
  have z4 := w32_sp (v4 + 4)
  refine ok_gd (by omega) ?_
  refine ok_gd (by omega) ?_
  refine ok_call (v_common h (by omega) (i32_rg _) (i32_rg _)) (fun r1 u1 q1 => ?_)
  refine ok_gd (by omega) ?_
  refine ok_gd (by omega) ?_
  refine ok_call q1 (fun r2 u2 q2 => ?_)
  exact br_tail q2.1 hi hk
theorem br_1172 {Ln : Nat} {xf : Nat → Int32} {k23 : Int → Wd → Option (Int × Wd)} {v4 : Int} {w : Wd} (h : LV v4 w) (hi : 0 ≤ v4 ∧ v4 + 5 ≤ (Ln : Int) ∧ (Ln : Int) ≤ 2560) (hk : ∀ {u : Wd}, LV (v4 + 5) u → OK (k23 (v4 + 5) u) Q1) : OK (f_A_law_1172 Ln xf k23 v4 w) Q1 := by
  unfold f_A_law_1172
  have z1 := w32_sp (v4 + 1)
  have z2 := w32_sp (v4 + 2)
  have z3 := w32_sp (v4 + 3)
  have z4 := w32_sp (v4 + 4)
  refine ok_call (v_father h (by omega)) (fun r1 u1 q1 => ?_)
  refine ok_call q1 (fun r2 u2 q2 => ?_)
  exact br_tail q2.1 hi hk
theorem br_1185 {Ln : Nat} {xf : Nat → Int32} {k23 : Int → Wd → Option (Int × Wd)} {v4 : Int} {w : Wd} (h : LV v4 w) (hi : 0 ≤ v4 ∧ v4 + 5 ≤ (Ln : Int) ∧ (Ln : Int) ≤ 2560) (hk : ∀ {u : Wd}, LV (v4 + 5) u → OK (k23 (v4 + 5) u) Q1) : OK (f_A_law_1185 Ln xf k23 v4 w) Q1 := by
  unfold f_A_law_1185
  have z1 := w32_sp (v4 + 1)
  have z2 := w32_sp (v4 + 2)
  have z3 := w32_sp (v4 + 3)
  have z4 := w32_sp (v4 + 4)
  refine ok_gd (by omega) ?_
  refine ok_call (v_keep h (by omega) (i32_rg _)) (fun r1 u1 q1 => ?_)
  refine ok_gd (by omega) ?_
  refine ok_call q1 (fun r2 u2 q2 => ?_)
  exact br_tail q2.1 hi hk
theorem br_1210 {Ln : Nat} {xf : Nat → Int32} {k23 : Int → Wd → Option (Int × Wd)} {v4 : Int} {w : Wd} (h : LV v4 w) (hi : 0 ≤ v4 ∧ v4 + 5 ≤ (Ln : Int) ∧ (Ln : Int) ≤ 2560) (hk : ∀ {u : Wd}, LV (v4 + 5) u → OK (k23 (v4 + 5) u) Q1) : OK (f_A_law_1210 Ln xf k23 v4 w) Q1 := by
  unfold f_A_law_1210
  have z1 := w32_sp (v4 + 1)
  have z2 := w32_sp (v4 + 2)
  have z3 := w32_sp (v4 + 3)
  have z4 := w32_sp (v4 + 4)
  refine ok_gd (by omega) ?_
  refine ok_call (v_again h (by omega) (i32_rg _)) (fun r1 u1 q1 => ?_)
  refine ok_gd (by omega) ?_
  refine ok_call q1 (fun r2 u2 q2 => ?_)
  exact br_tail q2.1 hi hk
theorem br_1235 {Ln : Nat} {xf : Nat → Int32} {k23 : Int → Wd → Option (Int × Wd)} {v4 : Int} {w : Wd} (h : LV v4 w) (hi : 0 ≤ v4 ∧ v4 + 5 ≤ (Ln : Int) ∧ (Ln : Int) ≤ 2560) (hk : ∀ {u : Wd}, LV (v4 + 5) u → OK (k23 (v4 + 5) u) Q1) : OK (f_A_law_1235 Ln xf k23 v4 w) Q1 := by
  unfold f_A_law_1235
  have z1 := w32_sp (v4 + 1)
  have z2 := w32_sp (v4 + 2)
  have z3 := w32_sp (v4 + 3)
  have z4 := w32_sp (v4 + 4)
  refine ok_gd (by omega) ?_
  refine ok_call (v_count h (by omega) (i32_rg _)) (fun r1 u1 q1 => ?_)
  refine ok_gd (by omega) ?_
  refine ok_call q1 (fun r2 u2 q2 => ?_)
  exact br_tail q2.1 hi hk
theorem br_1260 {Ln : Nat} {xf : Nat → Int32} {k23 : Int → Wd → Option (Int × Wd)} {v4 : Int} {w : Wd} (h : LV v4 w) (hi : 0 ≤ v4 ∧ v4 + 5 ≤ (Ln : Int) ∧ (Ln : Int) ≤ 2560) (hk : ∀ {u : Wd}, LV (v4 + 5) u → OK (k23 (v4 + 5) u) Q1) : OK (f_A_law_1260 Ln xf k23 v4 w) Q1 := by
  unfold f_A_law_1260
  have z1 := w32_sp (v4 + 1)
  have z2 := w32_sp (v4 + 2)
  have z3 := w32_sp (v4 + 3)
  have z4 := w32_sp (v4 + 4)
  refine ok_gd (by omega) ?_
  refine ok_call (v_row h (by omega) (i32_rg _)) (fun r1 u1 q1 => ?_)
  refine ok_gd (by omega) ?_
  refine ok_call q1 (fun r2 u2 q2 => ?_)
  exact br_tail q2.1 hi hk
theorem law_ok {Ln : Nat} (hL : Ln ≤ 2560) {xf : Nat → Int32} : ∀ (f : Nat) {w : Wd} {v4 : Int}, LV v4 w → (0 ≤ v4 ∧ v4 ≤ (Ln : Int) + 5) → (Ln : Int) - v4 + 5 < 5 * f → OK (f_A_law Ln xf f v4 w) Q1 := by
  intro f
  induction f with
  | zero => intro w v4 h i1 i2; omega
  | succ f ih =>
    intro w v4 h i1 i2
    rw [f_A_law]
    have z := w32_sp ((Ln : Int) - 5)
    refine ok_ite (fun _ => ok_some rfl) (fun hlt => ?_)
    have hi : 0 ≤ v4 ∧ v4 + 5 ≤ (Ln : Int) ∧ (Ln : Int) ≤ 2560 := by omega
    have hk : ∀ {u : Wd}, LV (v4 + 5) u → OK (f_A_law Ln xf f (v4 + 5) u) Q1 := fun hu => ih hu (by omega) (by omega)
    refine ok_gd (by omega) ?_
    refine ok_let (fun x1 _ => ?_)
    refine ok_ite (fun _ => br_tail (lv_mono h (by omega)) hi hk) (fun n => ?_)
    refine ok_ite (fun _ => br_220 h hi hk) (fun n0 => ?_)
    refine ok_ite (fun _ => br_245 h hi hk) (fun n1 => ?_)
    refine ok_ite (fun _ => br_270 h hi hk) (fun n2 => ?_)
    refine ok_ite (fun _ => br_283 h hi hk) (fun n3 => ?_)
    refine ok_ite (fun _ => br_296 h hi hk) (fun n4 => ?_)
    refine ok_ite (fun _ => br_364 h hi hk) (fun n5 => ?_)
    refine ok_ite (fun _ => br_401 h hi hk) (fun n6 => ?_)
    refine ok_ite (fun _ => br_466 h hi hk) (fun n7 => ?_)
    refine ok_ite (fun _ => br_519 h hi hk) (fun n8 => ?_)
    refine ok_ite (fun _ => br_544 h hi hk) (fun n9 => ?_)
    refine ok_ite (fun _ => br_605 h hi hk) (fun n10 => ?_)
    refine ok_ite (fun _ => br_618 h hi hk) (fun n11 => ?_)
    refine ok_ite (fun _ => br_643 h hi hk) (fun n12 => ?_)
    refine ok_ite (fun _ => br_656 h hi hk) (fun n13 => ?_)
    refine ok_ite (fun _ => br_669 h hi hk) (fun n14 => ?_)
    refine ok_ite (fun _ => br_694 h hi hk) (fun n15 => ?_)
    refine ok_ite (fun _ => br_707 h hi hk) (fun n16 => ?_)
    refine ok_ite (fun _ => br_720 h hi hk) (fun n17 => ?_)
    refine ok_ite (fun _ => br_733 h hi hk) (fun n18 => ?_)
    refine ok_ite (fun _ => br_758 h hi hk) (fun n19 => ?_)
    refine ok_ite (fun _ => br_783 h hi hk) (fun n20 => ?_)
    refine ok_ite (fun _ => br_808 h hi hk) (fun n21 => ?_)
    refine ok_ite (fun _ => br_821 h hi hk) (fun n22 => ?_)
    refine ok_ite (fun _ => br_870 h hi hk) (fun n23 => ?_)
    refine ok_ite (fun _ => br_883 h hi hk) (fun n24 => ?_)
    refine ok_ite (fun _ => br_896 h hi hk) (fun n25 => ?_)
    refine ok_ite (fun _ => br_921 h hi hk) (fun n26 => ?_)
    refine ok_ite (fun _ => br_946 h hi hk) (fun n27 => ?_)
    refine ok_ite (fun _ => br_971 h hi hk) (fun n28 => ?_)
    refine ok_ite (fun _ => br_996 h hi hk) (fun n29 => ?_)
    refine ok_ite (fun _ => br_1009 h hi hk) (fun n30 => ?_)
    refine ok_ite (fun _ => br_1022 h hi hk) (fun n31 => ?_)
    refine ok_ite (fun _ => br_1035 h hi hk) (fun n32 => ?_)
    refine ok_ite (fun _ => br_1060 h hi hk) (fun n33 => ?_)
    refine ok_ite (fun _ => br_1085 h hi hk) (fun n34 => ?_)
    refine ok_ite (fun _ => br_1110 h hi hk) (fun n35 => ?_)
    refine ok_ite (fun _ => br_1135 h hi hk) (fun n36 => ?_)
    refine ok_ite (fun _ => br_1172 h hi hk) (fun n37 => ?_)
    refine ok_ite (fun _ => br_1185 h hi hk) (fun n38 => ?_)
    refine ok_ite (fun _ => br_1210 h hi hk) (fun n39 => ?_)
    refine ok_ite (fun _ => br_1235 h hi hk) (fun n40 => ?_)
    refine ok_ite (fun _ => br_1260 h hi hk) (fun n41 => ?_)
    exfalso; omega
theorem pure_law {Ln : Nat} (hL : Ln ≤ 2560) {xf : Nat → Int32} : ∃ w9 : Wd, f_A_law Ln xf 600 0 w0 = some (1, w9) := by
  obtain ⟨r, u, e, h⟩ := law_ok hL 600 (xf := xf) (v4 := 0) w0_LV (by omega) (by omega)
  have hr : r = 1 := h
  rw [hr] at e
  exact ⟨u, e⟩
