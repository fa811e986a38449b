/-! THE ROW'S OWN LAW, AS A PURE FUNCTION -/
theorem br_tail {Ln : Nat} {xf : Nat → Int32} {k23 : Int → Wd → Option (Int × Wd)} {v4 : Int} {w : Wd} (h : LV (v4 + 5) w) (hi : 0 ≤ v4 ∧ v4 + 5 ≤ (Ln : Int) ∧ (Ln : Int) ≤ 2560) (hk : ∀ {u : Wd}, LV (v4 + 5) u → OK (k23 (v4 + 5) u) Q1) : OK (f_A_law_1260 Ln xf k23 v4 w) Q1 := by
  unfold f_A_law_1260
  have z := w32_sp (v4 + 5)
  refine ok_let (fun x e => ?_)
  have e2 : x = v4 + 5 := by omega
  rw [e2]
  exact hk h
theorem br_220 {Ln : Nat} {xf : Nat → Int32} {k23 : Int → Wd → Option (Int × Wd)} {v4 : Int} {w : Wd} (h : LV v4 w) (hi : 0 ≤ v4 ∧ v4 + 5 ≤ (Ln : Int) ∧ (Ln : Int) ≤ 2560) (hk : ∀ {u : Wd}, LV (v4 + 5) u → OK (k23 (v4 + 5) u) Q1) : OK (f_A_law_220 Ln xf k23 v4 w) Q1 := by
  unfold f_A_law_220
  have z1 := w32_sp (v4 + 1)
  have z2 := w32_sp (v4 + 2)
  have z3 := w32_sp (v4 + 3)
  have z4 := w32_sp (v4 + 4)
  refine ok_gd (by omega) ?_
  refine ok_call (v_sign h (by omega) (i32_rg _)) (fun r1 u1 q1 => ?_)
  refine ok_gd (by omega) ?_
  refine ok_call q1 (fun r2 u2 q2 => ?_)
  exact br_tail q2.1 hi hk
theorem br_245 {Ln : Nat} {xf : Nat → Int32} {k23 : Int → Wd → Option (Int × Wd)} {v4 : Int} {w : Wd} (h : LV v4 w) (hi : 0 ≤ v4 ∧ v4 + 5 ≤ (Ln : Int) ∧ (Ln : Int) ≤ 2560) (hk : ∀ {u : Wd}, LV (v4 + 5) u → OK (k23 (v4 + 5) u) Q1) : OK (f_A_law_245 Ln xf k23 v4 w) Q1 := by
  unfold f_A_law_245
  have z1 := w32_sp (v4 + 1)
  have z2 := w32_sp (v4 + 2)
  have z3 := w32_sp (v4 + 3)
  have z4 := w32_sp (v4 + 4)
  refine ok_gd (by omega) ?_
  refine ok_call (v_end h (by omega) (i32_rg _)) (fun r1 u1 q1 => ?_)
  refine ok_gd (by omega) ?_
  refine ok_call q1 (fun r2 u2 q2 => ?_)
  exact br_tail q2.1 hi hk
theorem br_270 {Ln : Nat} {xf : Nat → Int32} {k23 : Int → Wd → Option (Int × Wd)} {v4 : Int} {w : Wd} (h : LV v4 w) (hi : 0 ≤ v4 ∧ v4 + 5 ≤ (Ln : Int) ∧ (Ln : Int) ≤ 2560) (hk : ∀ {u : Wd}, LV (v4 + 5) u → OK (k23 (v4 + 5) u) Q1) : OK (f_A_law_270 Ln xf k23 v4 w) Q1 := by
  unfold f_A_law_270
  have z1 := w32_sp (v4 + 1)
  have z2 := w32_sp (v4 + 2)
  have z3 := w32_sp (v4 + 3)
  have z4 := w32_sp (v4 + 4)
  refine ok_call (v_land h (by omega)) (fun r1 u1 q1 => ?_)
  refine ok_call q1 (fun r2 u2 q2 => ?_)
  exact br_tail q2.1 hi hk
theorem br_283 {Ln : Nat} {xf : Nat → Int32} {k23 : Int → Wd → Option (Int × Wd)} {v4 : Int} {w : Wd} (h : LV v4 w) (hi : 0 ≤ v4 ∧ v4 + 5 ≤ (Ln : Int) ∧ (Ln : Int) ≤ 2560) (hk : ∀ {u : Wd}, LV (v4 + 5) u → OK (k23 (v4 + 5) u) Q1) : OK (f_A_law_283 Ln xf k23 v4 w) Q1 := by
  unfold f_A_law_283
  have z1 := w32_sp (v4 + 1)
  have z2 := w32_sp (v4 + 2)
  have z3 := w32_sp (v4 + 3)
  have z4 := w32_sp (v4 + 4)
  refine ok_call (v_rule h (by omega)) (fun r1 u1 q1 => ?_)
  refine ok_call q1 (fun r2 u2 q2 => ?_)
  exact br_tail q2.1 hi hk
theorem br_296 {Ln : Nat} {xf : Nat → Int32} {k23 : Int → Wd → Option (Int × Wd)} {v4 : Int} {w : Wd} (h : LV v4 w) (hi : 0 ≤ v4 ∧ v4 + 5 ≤ (Ln : Int) ∧ (Ln : Int) ≤ 2560) (hk : ∀ {u : Wd}, LV (v4 + 5) u → OK (k23 (v4 + 5) u) Q1) : OK (f_A_law_296 Ln xf k23 v4 w) Q1 := by
  unfold f_A_law_296
  have z1 := w32_sp (v4 + 1)
  have z2 := w32_sp (v4 + 2)
  have z3 := w32_sp (v4 + 3)
  have z4 := w32_sp (v4 + 4)
  refine ok_gd (by omega) ?_
  refine ok_gd (by omega) ?_
  refine ok_call (v_of h (by omega) (i32_rg _) (i32_rg _)) (fun r1 u1 q1 => ?_)
  refine ok_gd (by omega) ?_
  refine ok_gd (by omega) ?_
  refine ok_call q1 (fun r2 u2 q2 => ?_)
  exact br_tail q2.1 hi hk
theorem br_336 {Ln : Nat} {xf : Nat → Int32} {k23 : Int → Wd → Option (Int × Wd)} {v4 : Int} {w : Wd} (h : LV v4 w) (hi : 0 ≤ v4 ∧ v4 + 5 ≤ (Ln : Int) ∧ (Ln : Int) ≤ 2560) (hk : ∀ {u : Wd}, LV (v4 + 5) u → OK (k23 (v4 + 5) u) Q1) : OK (f_A_law_336 Ln xf k23 v4 w) Q1 := by
  unfold f_A_law_336
  have z1 := w32_sp (v4 + 1)
  have z2 := w32_sp (v4 + 2)
  have z3 := w32_sp (v4 + 3)
  have z4 := w32_sp (v4 + 4)
  refine ok_gd (by omega) ?_
  refine ok_gd (by omega) ?_
  refine ok_call (v_law h (by omega) (i32_rg _) (i32_rg _)) (fun r1 u1 q1 => ?_)
  refine ok_gd (by omega) ?_
  refine ok_gd (by omega) ?_
  refine ok_call q1 (fun r2 u2 q2 => ?_)
  exact br_tail q2.1 hi hk
theorem br_373 {Ln : Nat} {xf : Nat → Int32} {k23 : Int → Wd → Option (Int × Wd)} {v4 : Int} {w : Wd} (h : LV v4 w) (hi : 0 ≤ v4 ∧ v4 + 5 ≤ (Ln : Int) ∧ (Ln : Int) ≤ 2560) (hk : ∀ {u : Wd}, LV (v4 + 5) u → OK (k23 (v4 + 5) u) Q1) : OK (f_A_law_373 Ln xf k23 v4 w) Q1 := by
  unfold f_A_law_373
  have z1 := w32_sp (v4 + 1)
  have z2 := w32_sp (v4 + 2)
  have z3 := w32_sp (v4 + 3)
  have z4 := w32_sp (v4 + 4)
  refine ok_gd (by omega) ?_
  refine ok_gd (by omega) ?_
  refine ok_gd (by omega) ?_
  refine ok_ite (fun hb => ?_) (fun hb => ?_)
  · unfold f_A_law_400
    refine ok_call (v_meet h (by omega) (i32_rg _) (i32_rg _) (by decide)) (fun r1 u1 q1 => ?_)
    refine ok_gd (by omega) ?_
    refine ok_gd (by omega) ?_
    refine ok_gd (by omega) ?_
    refine ok_it hb ?_
    unfold f_A_law_431
    refine ok_call q1 (fun r2 u2 q2 => ?_)
    exact br_tail q2.1 hi hk
  · unfold f_A_law_400
    refine ok_call (v_meet h (by omega) (i32_rg _) (i32_rg _) (by decide)) (fun r1 u1 q1 => ?_)
    refine ok_gd (by omega) ?_
    refine ok_gd (by omega) ?_
    refine ok_gd (by omega) ?_
    refine ok_if hb ?_
    unfold f_A_law_431
    refine ok_call q1 (fun r2 u2 q2 => ?_)
    exact br_tail q2.1 hi hk
theorem br_438 {Ln : Nat} {xf : Nat → Int32} {k23 : Int → Wd → Option (Int × Wd)} {v4 : Int} {w : Wd} (h : LV v4 w) (hi : 0 ≤ v4 ∧ v4 + 5 ≤ (Ln : Int) ∧ (Ln : Int) ≤ 2560) (hk : ∀ {u : Wd}, LV (v4 + 5) u → OK (k23 (v4 + 5) u) Q1) : OK (f_A_law_438 Ln xf k23 v4 w) Q1 := by
  unfold f_A_law_438
  have z1 := w32_sp (v4 + 1)
  have z2 := w32_sp (v4 + 2)
  have z3 := w32_sp (v4 + 3)
  have z4 := w32_sp (v4 + 4)
  refine ok_gd (by omega) ?_
  refine ok_gd (by omega) ?_
  refine ok_ite (fun hb => ?_) (fun hb => ?_)
  · unfold f_A_law_459
    refine ok_call (v_hide h (by omega) (i32_rg _) (by decide)) (fun r1 u1 q1 => ?_)
    refine ok_gd (by omega) ?_
    refine ok_gd (by omega) ?_
    refine ok_it hb ?_
    unfold f_A_law_484
    refine ok_call q1 (fun r2 u2 q2 => ?_)
    exact br_tail q2.1 hi hk
  · unfold f_A_law_459
    refine ok_call (v_hide h (by omega) (i32_rg _) (by decide)) (fun r1 u1 q1 => ?_)
    refine ok_gd (by omega) ?_
    refine ok_gd (by omega) ?_
    refine ok_if hb ?_
    unfold f_A_law_484
    refine ok_call q1 (fun r2 u2 q2 => ?_)
    exact br_tail q2.1 hi hk
theorem br_491 {Ln : Nat} {xf : Nat → Int32} {k23 : Int → Wd → Option (Int × Wd)} {v4 : Int} {w : Wd} (h : LV v4 w) (hi : 0 ≤ v4 ∧ v4 + 5 ≤ (Ln : Int) ∧ (Ln : Int) ≤ 2560) (hk : ∀ {u : Wd}, LV (v4 + 5) u → OK (k23 (v4 + 5) u) Q1) : OK (f_A_law_491 Ln xf k23 v4 w) Q1 := by
  unfold f_A_law_491
  have z1 := w32_sp (v4 + 1)
  have z2 := w32_sp (v4 + 2)
  have z3 := w32_sp (v4 + 3)
  have z4 := w32_sp (v4 + 4)
  refine ok_gd (by omega) ?_
  refine ok_call (v_baby h (by omega) (i32_rg _)) (fun r1 u1 q1 => ?_)
  refine ok_gd (by omega) ?_
  refine ok_call q1 (fun r2 u2 q2 => ?_)
  exact br_tail q2.1 hi hk
theorem br_516 {Ln : Nat} {xf : Nat → Int32} {k23 : Int → Wd → Option (Int × Wd)} {v4 : Int} {w : Wd} (h : LV v4 w) (hi : 0 ≤ v4 ∧ v4 + 5 ≤ (Ln : Int) ∧ (Ln : Int) ≤ 2560) (hk : ∀ {u : Wd}, LV (v4 + 5) u → OK (k23 (v4 + 5) u) Q1) : OK (f_A_law_516 Ln xf k23 v4 w) Q1 := by
  unfold f_A_law_516
  have z1 := w32_sp (v4 + 1)
  have z2 := w32_sp (v4 + 2)
  have z3 := w32_sp (v4 + 3)
  have z4 := w32_sp (v4 + 4)
  refine ok_gd (by omega) ?_
  refine ok_gd (by omega) ?_
  refine ok_gd (by omega) ?_
  refine ok_gd (by omega) ?_
  refine ok_call (v_sheet h (by omega) (i32_rg _) (i32_rg _) (i32_rg _) (i32_rg _)) (fun r1 u1 q1 => ?_)
  refine ok_gd (by omega) ?_
  refine ok_gd (by omega) ?_
  refine ok_gd (by omega) ?_
  refine ok_gd (by omega) ?_
  refine ok_call q1 (fun r2 u2 q2 => ?_)
  exact br_tail q2.1 hi hk
theorem br_577 {Ln : Nat} {xf : Nat → Int32} {k23 : Int → Wd → Option (Int × Wd)} {v4 : Int} {w : Wd} (h : LV v4 w) (hi : 0 ≤ v4 ∧ v4 + 5 ≤ (Ln : Int) ∧ (Ln : Int) ≤ 2560) (hk : ∀ {u : Wd}, LV (v4 + 5) u → OK (k23 (v4 + 5) u) Q1) : OK (f_A_law_577 Ln xf k23 v4 w) Q1 := by
  unfold f_A_law_577
  have z1 := w32_sp (v4 + 1)
  have z2 := w32_sp (v4 + 2)
  have z3 := w32_sp (v4 + 3)
  have z4 := w32_sp (v4 + 4)
  refine ok_call (v_week h (by omega)) (fun r1 u1 q1 => ?_)
  refine ok_call q1 (fun r2 u2 q2 => ?_)
  exact br_tail q2.1 hi hk
theorem br_590 {Ln : Nat} {xf : Nat → Int32} {k23 : Int → Wd → Option (Int × Wd)} {v4 : Int} {w : Wd} (h : LV v4 w) (hi : 0 ≤ v4 ∧ v4 + 5 ≤ (Ln : Int) ∧ (Ln : Int) ≤ 2560) (hk : ∀ {u : Wd}, LV (v4 + 5) u → OK (k23 (v4 + 5) u) Q1) : OK (f_A_law_590 Ln xf k23 v4 w) Q1 := by
  unfold f_A_law_590
  have z1 := w32_sp (v4 + 1)
  have z2 := w32_sp (v4 + 2)
  have z3 := w32_sp (v4 + 3)
  have z4 := w32_sp (v4 + 4)
  refine ok_gd (by omega) ?_
  refine ok_call (v_goes h (by omega) (i32_rg _)) (fun r1 u1 q1 => ?_)
  refine ok_gd (by omega) ?_
  refine ok_call q1 (fun r2 u2 q2 => ?_)
  exact br_tail q2.1 hi hk
theorem br_615 {Ln : Nat} {xf : Nat → Int32} {k23 : Int → Wd → Option (Int × Wd)} {v4 : Int} {w : Wd} (h : LV v4 w) (hi : 0 ≤ v4 ∧ v4 + 5 ≤ (Ln : Int) ∧ (Ln : Int) ≤ 2560) (hk : ∀ {u : Wd}, LV (v4 + 5) u → OK (k23 (v4 + 5) u) Q1) : OK (f_A_law_615 Ln xf k23 v4 w) Q1 := by
  unfold f_A_law_615
  have z1 := w32_sp (v4 + 1)
  have z2 := w32_sp (v4 + 2)
  have z3 := w32_sp (v4 + 3)
  have z4 := w32_sp (v4 + 4)
  refine ok_call (v_undo h (by omega)) (fun r1 u1 q1 => ?_)
  refine ok_call q1 (fun r2 u2 q2 => ?_)
  exact br_tail q2.1 hi hk
theorem br_628 {Ln : Nat} {xf : Nat → Int32} {k23 : Int → Wd → Option (Int × Wd)} {v4 : Int} {w : Wd} (h : LV v4 w) (hi : 0 ≤ v4 ∧ v4 + 5 ≤ (Ln : Int) ∧ (Ln : Int) ≤ 2560) (hk : ∀ {u : Wd}, LV (v4 + 5) u → OK (k23 (v4 + 5) u) Q1) : OK (f_A_law_628 Ln xf k23 v4 w) Q1 := by
  unfold f_A_law_628
  have z1 := w32_sp (v4 + 1)
  have z2 := w32_sp (v4 + 2)
  have z3 := w32_sp (v4 + 3)
  have z4 := w32_sp (v4 + 4)
  refine ok_call (v_can h (by omega)) (fun r1 u1 q1 => ?_)
  refine ok_call q1 (fun r2 u2 q2 => ?_)
  exact br_tail q2.1 hi hk
theorem br_641 {Ln : Nat} {xf : Nat → Int32} {k23 : Int → Wd → Option (Int × Wd)} {v4 : Int} {w : Wd} (h : LV v4 w) (hi : 0 ≤ v4 ∧ v4 + 5 ≤ (Ln : Int) ∧ (Ln : Int) ≤ 2560) (hk : ∀ {u : Wd}, LV (v4 + 5) u → OK (k23 (v4 + 5) u) Q1) : OK (f_A_law_641 Ln xf k23 v4 w) Q1 := by
  unfold f_A_law_641
  have z1 := w32_sp (v4 + 1)
  have z2 := w32_sp (v4 + 2)
  have z3 := w32_sp (v4 + 3)
  have z4 := w32_sp (v4 + 4)
  refine ok_gd (by omega) ?_
  refine ok_call (v_picks h (by omega) (i32_rg _)) (fun r1 u1 q1 => ?_)
  refine ok_gd (by omega) ?_
  refine ok_call q1 (fun r2 u2 q2 => ?_)
  exact br_tail q2.1 hi hk
theorem br_666 {Ln : Nat} {xf : Nat → Int32} {k23 : Int → Wd → Option (Int × Wd)} {v4 : Int} {w : Wd} (h : LV v4 w) (hi : 0 ≤ v4 ∧ v4 + 5 ≤ (Ln : Int) ∧ (Ln : Int) ≤ 2560) (hk : ∀ {u : Wd}, LV (v4 + 5) u → OK (k23 (v4 + 5) u) Q1) : OK (f_A_law_666 Ln xf k23 v4 w) Q1 := by
  unfold f_A_law_666
  have z1 := w32_sp (v4 + 1)
  have z2 := w32_sp (v4 + 2)
  have z3 := w32_sp (v4 + 3)
  have z4 := w32_sp (v4 + 4)
  refine ok_call (v_pairs h (by omega)) (fun r1 u1 q1 => ?_)
  refine ok_call q1 (fun r2 u2 q2 => ?_)
  exact br_tail q2.1 hi hk
theorem br_679 {Ln : Nat} {xf : Nat → Int32} {k23 : Int → Wd → Option (Int × Wd)} {v4 : Int} {w : Wd} (h : LV v4 w) (hi : 0 ≤ v4 ∧ v4 + 5 ≤ (Ln : Int) ∧ (Ln : Int) ≤ 2560) (hk : ∀ {u : Wd}, LV (v4 + 5) u → OK (k23 (v4 + 5) u) Q1) : OK (f_A_law_679 Ln xf k23 v4 w) Q1 := by
  unfold f_A_law_679
  have z1 := w32_sp (v4 + 1)
  have z2 := w32_sp (v4 + 2)
  have z3 := w32_sp (v4 + 3)
  have z4 := w32_sp (v4 + 4)
  refine ok_call (v_bars h (by omega)) (fun r1 u1 q1 => ?_)
  refine ok_call q1 (fun r2 u2 q2 => ?_)
  exact br_tail q2.1 hi hk
theorem br_692 {Ln : Nat} {xf : Nat → Int32} {k23 : Int → Wd → Option (Int × Wd)} {v4 : Int} {w : Wd} (h : LV v4 w) (hi : 0 ≤ v4 ∧ v4 + 5 ≤ (Ln : Int) ∧ (Ln : Int) ≤ 2560) (hk : ∀ {u : Wd}, LV (v4 + 5) u → OK (k23 (v4 + 5) u) Q1) : OK (f_A_law_692 Ln xf k23 v4 w) Q1 := by
  unfold f_A_law_692
  have z1 := w32_sp (v4 + 1)
  have z2 := w32_sp (v4 + 2)
  have z3 := w32_sp (v4 + 3)
  have z4 := w32_sp (v4 + 4)
  refine ok_call (v_states h (by omega)) (fun r1 u1 q1 => ?_)
  refine ok_call q1 (fun r2 u2 q2 => ?_)
  exact br_tail q2.1 hi hk
theorem br_705 {Ln : Nat} {xf : Nat → Int32} {k23 : Int → Wd → Option (Int × Wd)} {v4 : Int} {w : Wd} (h : LV v4 w) (hi : 0 ≤ v4 ∧ v4 + 5 ≤ (Ln : Int) ∧ (Ln : Int) ≤ 2560) (hk : ∀ {u : Wd}, LV (v4 + 5) u → OK (k23 (v4 + 5) u) Q1) : OK (f_A_law_705 Ln xf k23 v4 w) Q1 := by
  unfold f_A_law_705
  have z1 := w32_sp (v4 + 1)
  have z2 := w32_sp (v4 + 2)
  have z3 := w32_sp (v4 + 3)
  have z4 := w32_sp (v4 + 4)
  refine ok_gd (by omega) ?_
  refine ok_call (v_most h (by omega) (i32_rg _)) (fun r1 u1 q1 => ?_)
  refine ok_gd (by omega) ?_
  refine ok_call q1 (fun r2 u2 q2 => ?_)
  exact br_tail q2.1 hi hk
theorem br_730 {Ln : Nat} {xf : Nat → Int32} {k23 : Int → Wd → Option (Int × Wd)} {v4 : Int} {w : Wd} (h : LV v4 w) (hi : 0 ≤ v4 ∧ v4 + 5 ≤ (Ln : Int) ∧ (Ln : Int) ≤ 2560) (hk : ∀ {u : Wd}, LV (v4 + 5) u → OK (k23 (v4 + 5) u) Q1) : OK (f_A_law_730 Ln xf k23 v4 w) Q1 := by
  unfold f_A_law_730
  have z1 := w32_sp (v4 + 1)
  have z2 := w32_sp (v4 + 2)
  have z3 := w32_sp (v4 + 3)
  have z4 := w32_sp (v4 + 4)
  refine ok_gd (by omega) ?_
  refine ok_call (v_reach h (by omega) (i32_rg _)) (fun r1 u1 q1 => ?_)
  refine ok_gd (by omega) ?_
  refine ok_call q1 (fun r2 u2 q2 => ?_)
  exact br_tail q2.1 hi hk
theorem br_755 {Ln : Nat} {xf : Nat → Int32} {k23 : Int → Wd → Option (Int × Wd)} {v4 : Int} {w : Wd} (h : LV v4 w) (hi : 0 ≤ v4 ∧ v4 + 5 ≤ (Ln : Int) ∧ (Ln : Int) ≤ 2560) (hk : ∀ {u : Wd}, LV (v4 + 5) u → OK (k23 (v4 + 5) u) Q1) : OK (f_A_law_755 Ln xf k23 v4 w) Q1 := by
  unfold f_A_law_755
  have z1 := w32_sp (v4 + 1)
  have z2 := w32_sp (v4 + 2)
  have z3 := w32_sp (v4 + 3)
  have z4 := w32_sp (v4 + 4)
  refine ok_gd (by omega) ?_
  refine ok_call (v_fewest h (by omega) (i32_rg _)) (fun r1 u1 q1 => ?_)
  refine ok_gd (by omega) ?_
  refine ok_call q1 (fun r2 u2 q2 => ?_)
  exact br_tail q2.1 hi hk
theorem br_780 {Ln : Nat} {xf : Nat → Int32} {k23 : Int → Wd → Option (Int × Wd)} {v4 : Int} {w : Wd} (h : LV v4 w) (hi : 0 ≤ v4 ∧ v4 + 5 ≤ (Ln : Int) ∧ (Ln : Int) ≤ 2560) (hk : ∀ {u : Wd}, LV (v4 + 5) u → OK (k23 (v4 + 5) u) Q1) : OK (f_A_law_780 Ln xf k23 v4 w) Q1 := by
  unfold f_A_law_780
  have z1 := w32_sp (v4 + 1)
  have z2 := w32_sp (v4 + 2)
  have z3 := w32_sp (v4 + 3)
  have z4 := w32_sp (v4 + 4)
  refine ok_call (v_crowd h (by omega)) (fun r1 u1 q1 => ?_)
  refine ok_call q1 (fun r2 u2 q2 => ?_)
  exact br_tail q2.1 hi hk
theorem br_793 {Ln : Nat} {xf : Nat → Int32} {k23 : Int → Wd → Option (Int × Wd)} {v4 : Int} {w : Wd} (h : LV v4 w) (hi : 0 ≤ v4 ∧ v4 + 5 ≤ (Ln : Int) ∧ (Ln : Int) ≤ 2560) (hk : ∀ {u : Wd}, LV (v4 + 5) u → OK (k23 (v4 + 5) u) Q1) : OK (f_A_law_793 Ln xf k23 v4 w) Q1 := by
  unfold f_A_law_793
  have z1 := w32_sp (v4 + 1)
  have z2 := w32_sp (v4 + 2)
  have z3 := w32_sp (v4 + 3)
  have z4 := w32_sp (v4 + 4)
  refine ok_gd (by omega) ?_
  refine ok_gd (by omega) ?_
  refine ok_gd (by omega) ?_
  refine ok_call (v_both h (by omega) (i32_rg _) (i32_rg _) (i32_rg _)) (fun r1 u1 q1 => ?_)
  refine ok_gd (by omega) ?_
  refine ok_gd (by omega) ?_
  refine ok_gd (by omega) ?_
  refine ok_call q1 (fun r2 u2 q2 => ?_)
  exact br_tail q2.1 hi hk
theorem br_842 {Ln : Nat} {xf : Nat → Int32} {k23 : Int → Wd → Option (Int × Wd)} {v4 : Int} {w : Wd} (h : LV v4 w) (hi : 0 ≤ v4 ∧ v4 + 5 ≤ (Ln : Int) ∧ (Ln : Int) ≤ 2560) (hk : ∀ {u : Wd}, LV (v4 + 5) u → OK (k23 (v4 + 5) u) Q1) : OK (f_A_law_842 Ln xf k23 v4 w) Q1 := by
  unfold f_A_law_842
  have z1 := w32_sp (v4 + 1)
  have z2 := w32_sp (v4 + 2)
  have z3 := w32_sp (v4 + 3)
  have z4 := w32_sp (v4 + 4)
  refine ok_call (v_last h (by omega)) (fun r1 u1 q1 => ?_)
  refine ok_call q1 (fun r2 u2 q2 => ?_)
  exact br_tail q2.1 hi hk
theorem br_855 {Ln : Nat} {xf : Nat → Int32} {k23 : Int → Wd → Option (Int × Wd)} {v4 : Int} {w : Wd} (h : LV v4 w) (hi : 0 ≤ v4 ∧ v4 + 5 ≤ (Ln : Int) ∧ (Ln : Int) ≤ 2560) (hk : ∀ {u : Wd}, LV (v4 + 5) u → OK (k23 (v4 + 5) u) Q1) : OK (f_A_law_855 Ln xf k23 v4 w) Q1 := by
  unfold f_A_law_855
  have z1 := w32_sp (v4 + 1)
  have z2 := w32_sp (v4 + 2)
  have z3 := w32_sp (v4 + 3)
  have z4 := w32_sp (v4 + 4)
  refine ok_call (v_begin h (by omega)) (fun r1 u1 q1 => ?_)
  refine ok_call q1 (fun r2 u2 q2 => ?_)
  exact br_tail q2.1 hi hk
theorem br_868 {Ln : Nat} {xf : Nat → Int32} {k23 : Int → Wd → Option (Int × Wd)} {v4 : Int} {w : Wd} (h : LV v4 w) (hi : 0 ≤ v4 ∧ v4 + 5 ≤ (Ln : Int) ∧ (Ln : Int) ≤ 2560) (hk : ∀ {u : Wd}, LV (v4 + 5) u → OK (k23 (v4 + 5) u) Q1) : OK (f_A_law_868 Ln xf k23 v4 w) Q1 := by
  unfold f_A_law_868
  have z1 := w32_sp (v4 + 1)
  have z2 := w32_sp (v4 + 2)
  have z3 := w32_sp (v4 + 3)
  have z4 := w32_sp (v4 + 4)
  refine ok_gd (by omega) ?_
  refine ok_call (v_cheap h (by omega) (i32_rg _)) (fun r1 u1 q1 => ?_)
  refine ok_gd (by omega) ?_
  refine ok_call q1 (fun r2 u2 q2 => ?_)
  exact br_tail q2.1 hi hk
theorem br_893 {Ln : Nat} {xf : Nat → Int32} {k23 : Int → Wd → Option (Int × Wd)} {v4 : Int} {w : Wd} (h : LV v4 w) (hi : 0 ≤ v4 ∧ v4 + 5 ≤ (Ln : Int) ∧ (Ln : Int) ≤ 2560) (hk : ∀ {u : Wd}, LV (v4 + 5) u → OK (k23 (v4 + 5) u) Q1) : OK (f_A_law_893 Ln xf k23 v4 w) Q1 := by
  unfold f_A_law_893
  have z1 := w32_sp (v4 + 1)
  have z2 := w32_sp (v4 + 2)
  have z3 := w32_sp (v4 + 3)
  have z4 := w32_sp (v4 + 4)
  refine ok_gd (by omega) ?_
  refine ok_call (v_stays h (by omega) (i32_rg _)) (fun r1 u1 q1 => ?_)
  refine ok_gd (by omega) ?_
  refine ok_call q1 (fun r2 u2 q2 => ?_)
  exact br_tail q2.1 hi hk
theorem br_918 {Ln : Nat} {xf : Nat → Int32} {k23 : Int → Wd → Option (Int × Wd)} {v4 : Int} {w : Wd} (h : LV v4 w) (hi : 0 ≤ v4 ∧ v4 + 5 ≤ (Ln : Int) ∧ (Ln : Int) ≤ 2560) (hk : ∀ {u : Wd}, LV (v4 + 5) u → OK (k23 (v4 + 5) u) Q1) : OK (f_A_law_918 Ln xf k23 v4 w) Q1 := by
  unfold f_A_law_918
  have z1 := w32_sp (v4 + 1)
  have z2 := w32_sp (v4 + 2)
  have z3 := w32_sp (v4 + 3)
  have z4 := w32_sp (v4 + 4)
  refine ok_gd (by omega) ?_
  refine ok_call (v_soonest h (by omega) (i32_rg _)) (fun r1 u1 q1 => ?_)
  refine ok_gd (by omega) ?_
  refine ok_call q1 (fun r2 u2 q2 => ?_)
  exact br_tail q2.1 hi hk
theorem br_943 {Ln : Nat} {xf : Nat → Int32} {k23 : Int → Wd → Option (Int × Wd)} {v4 : Int} {w : Wd} (h : LV v4 w) (hi : 0 ≤ v4 ∧ v4 + 5 ≤ (Ln : Int) ∧ (Ln : Int) ≤ 2560) (hk : ∀ {u : Wd}, LV (v4 + 5) u → OK (k23 (v4 + 5) u) Q1) : OK (f_A_law_943 Ln xf k23 v4 w) Q1 := by
  unfold f_A_law_943
  have z1 := w32_sp (v4 + 1)
  have z2 := w32_sp (v4 + 2)
  have z3 := w32_sp (v4 + 3)
  have z4 := w32_sp (v4 + 4)
  refine ok_gd (by omega) ?_
  refine ok_call (v_worth h (by omega) (i32_rg _)) (fun r1 u1 q1 => ?_)
  refine ok_gd (by omega) ?_
  refine ok_call q1 (fun r2 u2 q2 => ?_)
  exact br_tail q2.1 hi hk
theorem br_968 {Ln : Nat} {xf : Nat → Int32} {k23 : Int → Wd → Option (Int × Wd)} {v4 : Int} {w : Wd} (h : LV v4 w) (hi : 0 ≤ v4 ∧ v4 + 5 ≤ (Ln : Int) ∧ (Ln : Int) ≤ 2560) (hk : ∀ {u : Wd}, LV (v4 + 5) u → OK (k23 (v4 + 5) u) Q1) : OK (f_A_law_968 Ln xf k23 v4 w) Q1 := by
  unfold f_A_law_968
  have z1 := w32_sp (v4 + 1)
  have z2 := w32_sp (v4 + 2)
  have z3 := w32_sp (v4 + 3)
  have z4 := w32_sp (v4 + 4)
  refine ok_call (v_needed h (by omega)) (fun r1 u1 q1 => ?_)
  refine ok_call q1 (fun r2 u2 q2 => ?_)
  exact br_tail q2.1 hi hk
theorem br_981 {Ln : Nat} {xf : Nat → Int32} {k23 : Int → Wd → Option (Int × Wd)} {v4 : Int} {w : Wd} (h : LV v4 w) (hi : 0 ≤ v4 ∧ v4 + 5 ≤ (Ln : Int) ∧ (Ln : Int) ≤ 2560) (hk : ∀ {u : Wd}, LV (v4 + 5) u → OK (k23 (v4 + 5) u) Q1) : OK (f_A_law_981 Ln xf k23 v4 w) Q1 := by
  unfold f_A_law_981
  have z1 := w32_sp (v4 + 1)
  have z2 := w32_sp (v4 + 2)
  have z3 := w32_sp (v4 + 3)
  have z4 := w32_sp (v4 + 4)
  refine ok_call (v_never h (by omega)) (fun r1 u1 q1 => ?_)
  refine ok_call q1 (fun r2 u2 q2 => ?_)
  exact br_tail q2.1 hi hk
theorem br_994 {Ln : Nat} {xf : Nat → Int32} {k23 : Int → Wd → Option (Int × Wd)} {v4 : Int} {w : Wd} (h : LV v4 w) (hi : 0 ≤ v4 ∧ v4 + 5 ≤ (Ln : Int) ∧ (Ln : Int) ≤ 2560) (hk : ∀ {u : Wd}, LV (v4 + 5) u → OK (k23 (v4 + 5) u) Q1) : OK (f_A_law_994 Ln xf k23 v4 w) Q1 := by
  unfold f_A_law_994
  have z1 := w32_sp (v4 + 1)
  have z2 := w32_sp (v4 + 2)
  have z3 := w32_sp (v4 + 3)
  have z4 := w32_sp (v4 + 4)
  refine ok_call (v_bound h (by omega)) (fun r1 u1 q1 => ?_)
  refine ok_call q1 (fun r2 u2 q2 => ?_)
  exact br_tail q2.1 hi hk
theorem br_1007 {Ln : Nat} {xf : Nat → Int32} {k23 : Int → Wd → Option (Int × Wd)} {v4 : Int} {w : Wd} (h : LV v4 w) (hi : 0 ≤ v4 ∧ v4 + 5 ≤ (Ln : Int) ∧ (Ln : Int) ≤ 2560) (hk : ∀ {u : Wd}, LV (v4 + 5) u → OK (k23 (v4 + 5) u) Q1) : OK (f_A_law_1007 Ln xf k23 v4 w) Q1 := by
  unfold f_A_law_1007
  have z1 := w32_sp (v4 + 1)
  have z2 := w32_sp (v4 + 2)
  have z3 := w32_sp (v4 + 3)
  have z4 := w32_sp (v4 + 4)
  refine ok_gd (by omega) ?_
  refine ok_call (v_far h (by omega) (i32_rg _)) (fun r1 u1 q1 => ?_)
  refine ok_gd (by omega) ?_
  refine ok_call q1 (fun r2 u2 q2 => ?_)
  refine ok_it q2.2 ?_
  exact br_tail q2.1 hi hk
theorem br_1032 {Ln : Nat} {xf : Nat → Int32} {k23 : Int → Wd → Option (Int × Wd)} {v4 : Int} {w : Wd} (h : LV v4 w) (hi : 0 ≤ v4 ∧ v4 + 5 ≤ (Ln : Int) ∧ (Ln : Int) ≤ 2560) (hk : ∀ {u : Wd}, LV (v4 + 5) u → OK (k23 (v4 + 5) u) Q1) : OK (f_A_law_1032 Ln xf k23 v4 w) Q1 := by
  unfold f_A_law_1032
  have z1 := w32_sp (v4 + 1)
  have z2 := w32_sp (v4 + 2)
  have z3 := w32_sp (v4 + 3)
  have z4 := w32_sp (v4 + 4)
  refine ok_gd (by omega) ?_
  refine ok_call (v_line h (by omega) (i32_rg _)) (fun r1 u1 q1 => ?_)
  refine ok_gd (by omega) ?_
  refine ok_call q1 (fun r2 u2 q2 => ?_)
  exact br_tail q2.1 hi hk
theorem br_1057 {Ln : Nat} {xf : Nat → Int32} {k23 : Int → Wd → Option (Int × Wd)} {v4 : Int} {w : Wd} (h : LV v4 w) (hi : 0 ≤ v4 ∧ v4 + 5 ≤ (Ln : Int) ∧ (Ln : Int) ≤ 2560) (hk : ∀ {u : Wd}, LV (v4 + 5) u → OK (k23 (v4 + 5) u) Q1) : OK (f_A_law_1057 Ln xf k23 v4 w) Q1 := by
  unfold f_A_law_1057
  have z1 := w32_sp (v4 + 1)
  have z2 := w32_sp (v4 + 2)
  have z3 := w32_sp (v4 + 3)
  have z4 := w32_sp (v4 + 4)
  refine ok_gd (by omega) ?_
  refine ok_call (v_led h (by omega) (i32_rg _)) (fun r1 u1 q1 => ?_)
  refine ok_gd (by omega) ?_
  refine ok_call q1 (fun r2 u2 q2 => ?_)
  exact br_tail q2.1 hi hk
theorem br_1082 {Ln : Nat} {xf : Nat → Int32} {k23 : Int → Wd → Option (Int × Wd)} {v4 : Int} {w : Wd} (h : LV v4 w) (hi : 0 ≤ v4 ∧ v4 + 5 ≤ (Ln : Int) ∧ (Ln : Int) ≤ 2560) (hk : ∀ {u : Wd}, LV (v4 + 5) u → OK (k23 (v4 + 5) u) Q1) : OK (f_A_law_1082 Ln xf k23 v4 w) Q1 := by
  unfold f_A_law_1082
  have z1 := w32_sp (v4 + 1)
  have z2 := w32_sp (v4 + 2)
  have z3 := w32_sp (v4 + 3)
  have z4 := w32_sp (v4 + 4)
  refine ok_gd (by omega) ?_
  refine ok_call (v_was h (by omega) (i32_rg _)) (fun r1 u1 q1 => ?_)
  refine ok_gd (by omega) ?_
  refine ok_call q1 (fun r2 u2 q2 => ?_)
  exact br_tail q2.1 hi hk
theorem br_1107 {Ln : Nat} {xf : Nat → Int32} {k23 : Int → Wd → Option (Int × Wd)} {v4 : Int} {w : Wd} (h : LV v4 w) (hi : 0 ≤ v4 ∧ v4 + 5 ≤ (Ln : Int) ∧ (Ln : Int) ≤ 2560) (hk : ∀ {u : Wd}, LV (v4 + 5) u → OK (k23 (v4 + 5) u) Q1) : OK (f_A_law_1107 Ln xf k23 v4 w) Q1 := by
  unfold f_A_law_1107
  have z1 := w32_sp (v4 + 1)
  have z2 := w32_sp (v4 + 2)
  have z3 := w32_sp (v4 + 3)
  have z4 := w32_sp (v4 + 4)
  refine ok_gd (by omega) ?_
  refine ok_gd (by omega) ?_
  refine ok_call (v_common h (by omega) (i32_rg _) (i32_rg _)) (fun r1 u1 q1 => ?_)
  refine ok_gd (by omega) ?_
  refine ok_gd (by omega) ?_
  refine ok_call q1 (fun r2 u2 q2 => ?_)
  exact br_tail q2.1 hi hk
theorem br_1144 {Ln : Nat} {xf : Nat → Int32} {k23 : Int → Wd → Option (Int × Wd)} {v4 : Int} {w : Wd} (h : LV v4 w) (hi : 0 ≤ v4 ∧ v4 + 5 ≤ (Ln : Int) ∧ (Ln : Int) ≤ 2560) (hk : ∀ {u : Wd}, LV (v4 + 5) u → OK (k23 (v4 + 5) u) Q1) : OK (f_A_law_1144 Ln xf k23 v4 w) Q1 := by
  unfold f_A_law_1144
  have z1 := w32_sp (v4 + 1)
  have z2 := w32_sp (v4 + 2)
  have z3 := w32_sp (v4 + 3)
  have z4 := w32_sp (v4 + 4)
  refine ok_call (v_father h (by omega)) (fun r1 u1 q1 => ?_)
  refine ok_call q1 (fun r2 u2 q2 => ?_)
  exact br_tail q2.1 hi hk
theorem br_1157 {Ln : Nat} {xf : Nat → Int32} {k23 : Int → Wd → Option (Int × Wd)} {v4 : Int} {w : Wd} (h : LV v4 w) (hi : 0 ≤ v4 ∧ v4 + 5 ≤ (Ln : Int) ∧ (Ln : Int) ≤ 2560) (hk : ∀ {u : Wd}, LV (v4 + 5) u → OK (k23 (v4 + 5) u) Q1) : OK (f_A_law_1157 Ln xf k23 v4 w) Q1 := by
  unfold f_A_law_1157
  have z1 := w32_sp (v4 + 1)
  have z2 := w32_sp (v4 + 2)
  have z3 := w32_sp (v4 + 3)
  have z4 := w32_sp (v4 + 4)
  refine ok_gd (by omega) ?_
  refine ok_call (v_keep h (by omega) (i32_rg _)) (fun r1 u1 q1 => ?_)
  refine ok_gd (by omega) ?_
  refine ok_call q1 (fun r2 u2 q2 => ?_)
  exact br_tail q2.1 hi hk
theorem br_1182 {Ln : Nat} {xf : Nat → Int32} {k23 : Int → Wd → Option (Int × Wd)} {v4 : Int} {w : Wd} (h : LV v4 w) (hi : 0 ≤ v4 ∧ v4 + 5 ≤ (Ln : Int) ∧ (Ln : Int) ≤ 2560) (hk : ∀ {u : Wd}, LV (v4 + 5) u → OK (k23 (v4 + 5) u) Q1) : OK (f_A_law_1182 Ln xf k23 v4 w) Q1 := by
  unfold f_A_law_1182
  have z1 := w32_sp (v4 + 1)
  have z2 := w32_sp (v4 + 2)
  have z3 := w32_sp (v4 + 3)
  have z4 := w32_sp (v4 + 4)
  refine ok_gd (by omega) ?_
  refine ok_call (v_again h (by omega) (i32_rg _)) (fun r1 u1 q1 => ?_)
  refine ok_gd (by omega) ?_
  refine ok_call q1 (fun r2 u2 q2 => ?_)
  exact br_tail q2.1 hi hk
theorem br_1207 {Ln : Nat} {xf : Nat → Int32} {k23 : Int → Wd → Option (Int × Wd)} {v4 : Int} {w : Wd} (h : LV v4 w) (hi : 0 ≤ v4 ∧ v4 + 5 ≤ (Ln : Int) ∧ (Ln : Int) ≤ 2560) (hk : ∀ {u : Wd}, LV (v4 + 5) u → OK (k23 (v4 + 5) u) Q1) : OK (f_A_law_1207 Ln xf k23 v4 w) Q1 := by
  unfold f_A_law_1207
  have z1 := w32_sp (v4 + 1)
  have z2 := w32_sp (v4 + 2)
  have z3 := w32_sp (v4 + 3)
  have z4 := w32_sp (v4 + 4)
  refine ok_gd (by omega) ?_
  refine ok_call (v_count h (by omega) (i32_rg _)) (fun r1 u1 q1 => ?_)
  refine ok_gd (by omega) ?_
  refine ok_call q1 (fun r2 u2 q2 => ?_)
  exact br_tail q2.1 hi hk
theorem br_1232 {Ln : Nat} {xf : Nat → Int32} {k23 : Int → Wd → Option (Int × Wd)} {v4 : Int} {w : Wd} (h : LV v4 w) (hi : 0 ≤ v4 ∧ v4 + 5 ≤ (Ln : Int) ∧ (Ln : Int) ≤ 2560) (hk : ∀ {u : Wd}, LV (v4 + 5) u → OK (k23 (v4 + 5) u) Q1) : OK (f_A_law_1232 Ln xf k23 v4 w) Q1 := by
  unfold f_A_law_1232
  have z1 := w32_sp (v4 + 1)
  have z2 := w32_sp (v4 + 2)
  have z3 := w32_sp (v4 + 3)
  have z4 := w32_sp (v4 + 4)
  refine ok_gd (by omega) ?_
  refine ok_call (v_row h (by omega) (i32_rg _)) (fun r1 u1 q1 => ?_)
  refine ok_gd (by omega) ?_
  refine ok_call q1 (fun r2 u2 q2 => ?_)
  exact br_tail q2.1 hi hk
theorem law_ok {Ln : Nat} (hL : Ln ≤ 2560) {xf : Nat → Int32} : ∀ (f : Nat) {w : Wd} {v4 : Int}, LV v4 w → (0 ≤ v4 ∧ v4 ≤ (Ln : Int) + 5) → (Ln : Int) - v4 + 5 < 5 * f → OK (f_A_law Ln xf f v4 w) Q1 := by
  intro f
  induction f with
  | zero => intro w v4 h i1 i2; omega
  | succ f ih =>
    intro w v4 h i1 i2
    rw [f_A_law]
    have z := w32_sp ((Ln : Int) - 5)
    refine ok_ite (fun _ => ok_some rfl) (fun hlt => ?_)
    have hi : 0 ≤ v4 ∧ v4 + 5 ≤ (Ln : Int) ∧ (Ln : Int) ≤ 2560 := by omega
    have hk : ∀ {u : Wd}, LV (v4 + 5) u → OK (f_A_law Ln xf f (v4 + 5) u) Q1 := fun hu => ih hu (by omega) (by omega)
    refine ok_gd (by omega) ?_
    refine ok_let (fun x1 _ => ?_)
    refine ok_ite (fun _ => br_tail (lv_mono h (by omega)) hi hk) (fun n => ?_)
    refine ok_ite (fun _ => br_220 h hi hk) (fun n0 => ?_)
    refine ok_ite (fun _ => br_245 h hi hk) (fun n1 => ?_)
    refine ok_ite (fun _ => br_270 h hi hk) (fun n2 => ?_)
    refine ok_ite (fun _ => br_283 h hi hk) (fun n3 => ?_)
    refine ok_ite (fun _ => br_296 h hi hk) (fun n4 => ?_)
    refine ok_ite (fun _ => br_336 h hi hk) (fun n5 => ?_)
    refine ok_ite (fun _ => br_373 h hi hk) (fun n6 => ?_)
    refine ok_ite (fun _ => br_438 h hi hk) (fun n7 => ?_)
    refine ok_ite (fun _ => br_491 h hi hk) (fun n8 => ?_)
    refine ok_ite (fun _ => br_516 h hi hk) (fun n9 => ?_)
    refine ok_ite (fun _ => br_577 h hi hk) (fun n10 => ?_)
    refine ok_ite (fun _ => br_590 h hi hk) (fun n11 => ?_)
    refine ok_ite (fun _ => br_615 h hi hk) (fun n12 => ?_)
    refine ok_ite (fun _ => br_628 h hi hk) (fun n13 => ?_)
    refine ok_ite (fun _ => br_641 h hi hk) (fun n14 => ?_)
    refine ok_ite (fun _ => br_666 h hi hk) (fun n15 => ?_)
    refine ok_ite (fun _ => br_679 h hi hk) (fun n16 => ?_)
    refine ok_ite (fun _ => br_692 h hi hk) (fun n17 => ?_)
    refine ok_ite (fun _ => br_705 h hi hk) (fun n18 => ?_)
    refine ok_ite (fun _ => br_730 h hi hk) (fun n19 => ?_)
    refine ok_ite (fun _ => br_755 h hi hk) (fun n20 => ?_)
    refine ok_ite (fun _ => br_780 h hi hk) (fun n21 => ?_)
    refine ok_ite (fun _ => br_793 h hi hk) (fun n22 => ?_)
    refine ok_ite (fun _ => br_842 h hi hk) (fun n23 => ?_)
    refine ok_ite (fun _ => br_855 h hi hk) (fun n24 => ?_)
    refine ok_ite (fun _ => br_868 h hi hk) (fun n25 => ?_)
    refine ok_ite (fun _ => br_893 h hi hk) (fun n26 => ?_)
    refine ok_ite (fun _ => br_918 h hi hk) (fun n27 => ?_)
    refine ok_ite (fun _ => br_943 h hi hk) (fun n28 => ?_)
    refine ok_ite (fun _ => br_968 h hi hk) (fun n29 => ?_)
    refine ok_ite (fun _ => br_981 h hi hk) (fun n30 => ?_)
    refine ok_ite (fun _ => br_994 h hi hk) (fun n31 => ?_)
    refine ok_ite (fun _ => br_1007 h hi hk) (fun n32 => ?_)
    refine ok_ite (fun _ => br_1032 h hi hk) (fun n33 => ?_)
    refine ok_ite (fun _ => br_1057 h hi hk) (fun n34 => ?_)
    refine ok_ite (fun _ => br_1082 h hi hk) (fun n35 => ?_)
    refine ok_ite (fun _ => br_1107 h hi hk) (fun n36 => ?_)
    refine ok_ite (fun _ => br_1144 h hi hk) (fun n37 => ?_)
    refine ok_ite (fun _ => br_1157 h hi hk) (fun n38 => ?_)
    refine ok_ite (fun _ => br_1182 h hi hk) (fun n39 => ?_)
    refine ok_ite (fun _ => br_1207 h hi hk) (fun n40 => ?_)
    refine ok_ite (fun _ => br_1232 h hi hk) (fun n41 => ?_)
    exfalso; omega
theorem pure_law {Ln : Nat} (hL : Ln ≤ 2560) {xf : Nat → Int32} : ∃ w9 : Wd, f_A_law Ln xf 600 0 w0 = some (1, w9) := by
  obtain ⟨r, u, e, h⟩ := law_ok hL 600 (xf := xf) (v4 := 0) w0_LV (by omega) (by omega)
  have hr : r = 1 := h
  rw [hr] at e
  exact ⟨u, e⟩
