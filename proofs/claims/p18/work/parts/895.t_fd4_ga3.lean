/-! EVERY METHOD KEEPS ALL THAT BOTH HAVE IN COMMON -/
theorem w0_FC : FC w0 := by
  have e : w0 43 0 = 0 ∧ w0 5 5 = 0 ∧ w0 5 4 = 0 ∧ (w0 5 6 = w0 43 7 ∧ w0 15 3 = 0 ∧ w0 43 8 = 0 ∧ w0 15 4 = 0 ∧ w0 43 32 = 0) ∧ (w0 16 0 = 0 ∧ w0 50 0 = 0) ∧ (w0 37 2 = 0 ∧ w0 40 2 = 0) ∧ (1 ≤ w0 43 10 ∧ w0 43 10 ≤ 3) ∧ 1 ≤ w0 43 11 ∧ w0 43 11 ≤ 10 := by decide +kernel
  obtain ⟨e0, e55, e54, ⟨e56, e15, e8, e154, e32⟩, ⟨e16, e50⟩, ⟨e37, e40⟩, eg, es⟩ := e
  have ip : ∀ k : Nat, inP 0 k = false := fun k => decide_eq_false (by omega)
  have wt : ∀ t : Nat, (t : Int) ≤ 0 → t = 0 := fun t h => by omega
  refine ⟨w0_LI.2, fun j hj => ?_, ?_, ?_, ⟨e56, by rw [e15, e8], by rw [e154, e32]⟩, fun t ht => ?_, ?_, fun t ht => ?_, fun h => absurd e37 h, fun h => absurd e40 h, eg, es⟩
  · rw [e0] at hj; omega
  · rw [e55, e0]
    exact b10_w b10_0 (fun k _ => by unfold hB; rw [ip k]; rfl)
  · rw [e54, e0]
    refine ⟨by decide, fun k _ => ?_, fun k hk => by omega⟩
    rw [ip k, bt_0, bt_0, bt_0]
    exact ⟨rfl, rfl, rfl⟩
  · rw [e8] at ht
    rw [wt t ht, e16, e50]
  · rw [e0, e8]
    refine ⟨fun j hj => by omega, fun j hj => by omega, ?_, fun t ht => ?_⟩
    · show B10 (w0 50 0) _
      rw [e50]
      exact b10_w b10_0 (fun k _ => by unfold gs; rw [ip k]; rfl)
    · rw [wt t ht, e50]
      exact ⟨by decide, fun j _ hb => by rw [bt_0] at hb; cases hb⟩
  · rw [e32] at ht; omega
theorem w0_LU : LU w0 := ⟨⟨w0_RS, w0_FC⟩, Or.inl (by decide +kernel)⟩
theorem d_sign {w : Wd} {v1 : Int} (h : LU w) (i_v1 : ((-2147483648 : Int) ≤ v1 ∧ v1 ≤ 2147483647)) : OK (f_E_sign v1 w) (fun r1 u1 => OK (f_R_sign v1 u1) (fun r2 u2 => LU u2 ∧ r1 = r2)) := ok_w (ok_pc (c_sign (lf_li h.1) i_v1) (pc_ok (e_E_sign h.1.1 i_v1))) (fun r1 u1 q1 => ok_w (ok_pc q1.1 (pc_ok (e_R_sign q1.2.2.1 i_v1))) (fun r2 u2 q2 => ⟨⟨⟨q2.1.1.1, fc_fr2 h.1.2 q2.1.1.2 (fr_tr (fr_g q1.2.1 rfl) (fr_g q2.2.1 rfl))⟩, ru_fr h.2 (fr_tr (fr_g q1.2.1 rfl) (fr_g q2.2.1 rfl))⟩, q2.1.2⟩))
theorem d_end {w : Wd} {v1 : Int} (h : LU w) (i_v1 : ((-2147483648 : Int) ≤ v1 ∧ v1 ≤ 2147483647)) : OK (f_E_end v1 w) (fun r1 u1 => OK (f_R_end v1 u1) (fun r2 u2 => LU u2 ∧ r1 = r2)) := ok_w (ok_pc (c_end (lf_li h.1) i_v1) (pc_ok (e_E_end h.1.1 i_v1))) (fun r1 u1 q1 => ok_w (ok_pc q1.1 (pc_ok (e_R_end q1.2.2.1 i_v1))) (fun r2 u2 q2 => ⟨⟨⟨q2.1.1.1, fc_fr2 h.1.2 q2.1.1.2 (fr_tr (fr_g q1.2.1 rfl) (fr_g q2.2.1 rfl))⟩, ru_fr h.2 (fr_tr (fr_g q1.2.1 rfl) (fr_g q2.2.1 rfl))⟩, q2.1.2⟩))
theorem d_land {w : Wd} (h : LU w) : OK (f_E_land w) (fun r1 u1 => OK (f_R_land u1) (fun r2 u2 => LU u2 ∧ r1 = r2)) := ok_w (ok_pc (k_land h.1) (pc_ok (e_E_land h.1.1))) (fun r1 u1 q1 => ok_w (ok_pc q1.1 (pc_ok (e_R_land q1.2.2.1))) (fun r2 u2 q2 => ⟨⟨q2.1.1, ru_fr h.2 (fr_tr (fr_g q1.2.1 rfl) (fr_g q2.2.1 rfl))⟩, q2.1.2⟩))
theorem d_rule {w : Wd} (h : LU w) : OK (f_E_rule w) (fun r1 u1 => OK (f_R_rule u1) (fun r2 u2 => LU u2 ∧ r1 = r2)) := k_rule h.1 h.2
theorem d_of {w : Wd} {v1 v2 : Int} (h : LU w) (i_v1 : ((-2147483648 : Int) ≤ v1 ∧ v1 ≤ 2147483647)) (i_v2 : ((-2147483648 : Int) ≤ v2 ∧ v2 ≤ 2147483647)) : OK (f_A_of v1 v2 w) (fun r1 u1 => OK (f_R_of v1 v2 u1) (fun r2 u2 => LU u2 ∧ True)) := ok_w (ok_pc (c_of (lf_li h.1) i_v1 i_v2) (pc_ok (e_A_of h.1.1 i_v1 i_v2))) (fun r1 u1 q1 => ok_w (ok_pc q1.1 (pc_ok (e_R_of q1.2.1 i_v1 i_v2))) (fun r2 u2 q2 => ⟨⟨⟨q2.1.1.1, fc_fr2 h.1.2 q2.1.1.2 (fr_tr (fr_82 q1.2.2) (fr_g q2.2.1 rfl))⟩, ru_fr h.2 (fr_tr (fr_82 q1.2.2) (fr_g q2.2.1 rfl))⟩, q2.1.2⟩))
theorem d_law {w : Wd} {v1 v2 : Int} (h : LU w) (i_v1 : ((-2147483648 : Int) ≤ v1 ∧ v1 ≤ 2147483647)) (i_v2 : ((-2147483648 : Int) ≤ v2 ∧ v2 ≤ 2147483647)) : OK (f_E_law v1 v2 w) (fun r1 u1 => OK (f_R_law v1 v2 u1) (fun r2 u2 => LU u2 ∧ r1 = r2)) := ok_w (ok_pc (k_law h.1 i_v1 i_v2) (pc_ok (e_E_law h.1.1 i_v1 i_v2))) (fun r1 u1 q1 => ok_w (ok_pc q1.1 (pc_ok (e_R_law q1.2.2 i_v1 i_v2))) (fun r2 u2 q2 => ⟨⟨q2.1.1, ru_fr h.2 (fr_tr (fr_g q1.2.1 rfl) (fr_g q2.2.1 rfl))⟩, q2.1.2⟩))
theorem d_meet {w : Wd} {v1 v2 v3 : Int} (h : LU w) (i_v1 : ((-2147483648 : Int) ≤ v1 ∧ v1 ≤ 2147483647)) (i_v2 : ((-2147483648 : Int) ≤ v2 ∧ v2 ≤ 2147483647)) (i_v3 : ((0 : Int) ≤ v3 ∧ v3 ≤ 1)) : OK (f_E_meet v1 v2 v3 w) (fun r1 u1 => OK (f_R_meet v1 v2 v3 u1) (fun r2 u2 => LU u2 ∧ r1 = r2)) := ok_w (ok_pc (k_meet h.1 i_v1 i_v2 i_v3) (pc_ok (e_E_meet h.1.1 i_v1 i_v2 i_v3))) (fun r1 u1 q1 => ok_w (ok_pc q1.1 (pc_ok (e_R_meet q1.2.2 i_v1 i_v2 i_v3))) (fun r2 u2 q2 => ⟨⟨q2.1.1, ru_fr h.2 (fr_tr (fr_g q1.2.1 rfl) (fr_g q2.2.1 rfl))⟩, q2.1.2⟩))
theorem d_hide {w : Wd} {v1 v2 : Int} (h : LU w) (i_v1 : ((-2147483648 : Int) ≤ v1 ∧ v1 ≤ 2147483647)) (i_v2 : ((0 : Int) ≤ v2 ∧ v2 ≤ 1)) : OK (f_E_hide v1 v2 w) (fun r1 u1 => OK (f_R_hide v1 v2 u1) (fun r2 u2 => LU u2 ∧ r1 = r2)) := ok_w (ok_pc (k_hide h.1 i_v1 i_v2) (pc_ok (e_E_hide h.1.1 i_v1 i_v2))) (fun r1 u1 q1 => ok_w (ok_pc q1.1 (pc_ok (e_R_hide q1.2.2 i_v1 i_v2))) (fun r2 u2 q2 => ⟨⟨q2.1.1, ru_fr h.2 (fr_tr (fr_g q1.2.1 rfl) (fr_g q2.2.1 rfl))⟩, q2.1.2⟩))
theorem d_baby {w : Wd} {v1 : Int} (h : LU w) (i_v1 : ((-2147483648 : Int) ≤ v1 ∧ v1 ≤ 2147483647)) : OK (f_E_baby v1 w) (fun r1 u1 => OK (f_R_baby v1 u1) (fun r2 u2 => LU u2 ∧ r1 = r2)) := ok_w (ok_pc (k_baby h.1 i_v1) (pc_ok (e_E_baby h.1.1 i_v1))) (fun r1 u1 q1 => ok_w (ok_pc q1.1 (pc_ok (e_R_baby q1.2.2 i_v1))) (fun r2 u2 q2 => ⟨⟨q2.1.1, ru_fr h.2 (fr_tr (fr_g q1.2.1 rfl) (fr_g q2.2.1 rfl))⟩, q2.1.2⟩))
theorem d_sheet {w : Wd} {v1 v2 v3 v4 : Int} (h : LU w) (i_v1 : ((-2147483648 : Int) ≤ v1 ∧ v1 ≤ 2147483647)) (i_v2 : ((-2147483648 : Int) ≤ v2 ∧ v2 ≤ 2147483647)) (i_v3 : ((-2147483648 : Int) ≤ v3 ∧ v3 ≤ 2147483647)) (i_v4 : ((-2147483648 : Int) ≤ v4 ∧ v4 ≤ 2147483647)) : OK (f_E_sheet v1 v2 v3 v4 w) (fun r1 u1 => OK (f_R_sheet v1 v2 v3 v4 u1) (fun r2 u2 => LU u2 ∧ r1 = r2)) := ok_w (ok_pc (k_sheet h.1 i_v1 i_v2 i_v3 i_v4) (pc_ok (e_E_sheet h.1.1 i_v1 i_v2 i_v3 i_v4))) (fun r1 u1 q1 => ok_w (ok_pc q1.1 (pc_ok (e_R_sheet q1.2.2 i_v1 i_v2 i_v3 i_v4))) (fun r2 u2 q2 => ⟨⟨q2.1.1, ru_fr h.2 (fr_tr (fr_g q1.2.1 rfl) (fr_g q2.2.1 rfl))⟩, q2.1.2⟩))
theorem d_week {w : Wd} (h : LU w) : OK (f_E_week w) (fun r1 u1 => OK (f_R_week u1) (fun r2 u2 => LU u2 ∧ r1 = r2)) := k_week h
theorem d_goes {w : Wd} {v1 : Int} (h : LU w) (i_v1 : ((-2147483648 : Int) ≤ v1 ∧ v1 ≤ 2147483647)) : OK (f_E_goes v1 w) (fun r1 u1 => OK (f_R_goes v1 u1) (fun r2 u2 => LU u2 ∧ r1 = r2)) := k_goes h i_v1
theorem d_undo {w : Wd} (h : LU w) : OK (f_E_undo w) (fun r1 u1 => OK (f_R_undo u1) (fun r2 u2 => LU u2 ∧ r1 = r2)) := ok_w (ok_pc (k_undo h.1) (pc_ok (e_E_undo h.1.1))) (fun r1 u1 q1 => ok_w (ok_pc q1.1 (pc_ok (e_R_undo q1.2.2))) (fun r2 u2 q2 => ⟨⟨q2.1.1, ru_fr h.2 (fr_tr (fr_g q1.2.1 rfl) (fr_g q2.2.1 rfl))⟩, q2.1.2⟩))
theorem d_can {w : Wd} (h : LU w) : OK (f_E_can w) (fun r1 u1 => OK (f_R_can u1) (fun r2 u2 => LU u2 ∧ True)) := ok_w (ok_pc (c_can (lf_li h.1)) (pc_ok (e_E_can h.1.1))) (fun r1 u1 q1 => ok_w (ok_pc q1.1 (pc_ok (e_R_can q1.2.2))) (fun r2 u2 q2 => ⟨⟨⟨q2.1.1.1, fc_fr2 h.1.2 q2.1.1.2 (fr_tr (fr_g q1.2.1 rfl) (fr_g q2.2.1 rfl))⟩, ru_fr h.2 (fr_tr (fr_g q1.2.1 rfl) (fr_g q2.2.1 rfl))⟩, q2.1.2⟩))
theorem d_picks {w : Wd} {v1 : Int} (h : LU w) (i_v1 : ((-2147483648 : Int) ≤ v1 ∧ v1 ≤ 2147483647)) : OK (f_E_picks v1 w) (fun r1 u1 => OK (f_R_picks v1 u1) (fun r2 u2 => LU u2 ∧ r1 = r2)) := k_picks h i_v1
theorem d_pairs {w : Wd} (h : LU w) : OK (f_E_pairs w) (fun r1 u1 => OK (f_R_pairs u1) (fun r2 u2 => LU u2 ∧ True)) := ok_w (ok_pc (c_pairs (lf_li h.1)) (pc_ok (e_E_pairs h.1.1))) (fun r1 u1 q1 => ok_w (ok_pc q1.1 (pc_ok (e_R_pairs q1.2.2))) (fun r2 u2 q2 => ⟨⟨⟨q2.1.1.1, fc_fr2 h.1.2 q2.1.1.2 (fr_tr (fr_g q1.2.1 rfl) (fr_g q2.2.1 rfl))⟩, ru_fr h.2 (fr_tr (fr_g q1.2.1 rfl) (fr_g q2.2.1 rfl))⟩, q2.1.2⟩))
theorem d_bars {w : Wd} (h : LU w) : OK (f_E_bars w) (fun r1 u1 => OK (f_R_bars u1) (fun r2 u2 => LU u2 ∧ True)) := ok_w (ok_pc (c_bars (lf_li h.1)) (pc_ok (e_E_bars h.1.1))) (fun r1 u1 q1 => ok_w (ok_pc q1.1 (pc_ok (e_R_bars q1.2.2))) (fun r2 u2 q2 => ⟨⟨⟨q2.1.1.1, fc_fr2 h.1.2 q2.1.1.2 (fr_tr (fr_g q1.2.1 rfl) (fr_g q2.2.1 rfl))⟩, ru_fr h.2 (fr_tr (fr_g q1.2.1 rfl) (fr_g q2.2.1 rfl))⟩, q2.1.2⟩))
theorem d_states {w : Wd} (h : LU w) : OK (f_E_states w) (fun r1 u1 => OK (f_R_states u1) (fun r2 u2 => LU u2 ∧ True)) := ok_w (ok_pc (c_states (lf_li h.1)) (pc_ok (e_E_states h.1.1))) (fun r1 u1 q1 => ok_w (ok_pc q1.1 (pc_ok (e_R_states q1.2.2))) (fun r2 u2 q2 => ⟨⟨⟨q2.1.1.1, fc_fr2 h.1.2 q2.1.1.2 (fr_tr (fr_g q1.2.1 rfl) (fr_g q2.2.1 rfl))⟩, ru_fr h.2 (fr_tr (fr_g q1.2.1 rfl) (fr_g q2.2.1 rfl))⟩, q2.1.2⟩))
theorem d_most {w : Wd} {v1 : Int} (h : LU w) (i_v1 : ((-2147483648 : Int) ≤ v1 ∧ v1 ≤ 2147483647)) : OK (f_E_most v1 w) (fun r1 u1 => OK (f_R_most v1 u1) (fun r2 u2 => LU u2 ∧ True)) := ok_w (ok_pc (c_most (lf_li h.1) i_v1) (pc_ok (e_E_most h.1.1 i_v1))) (fun r1 u1 q1 => ok_w (ok_pc q1.1 (pc_ok (e_R_most q1.2.2 i_v1))) (fun r2 u2 q2 => ⟨⟨⟨q2.1.1.1, fc_fr2 h.1.2 q2.1.1.2 (fr_tr (fr_g q1.2.1 rfl) (fr_g q2.2.1 rfl))⟩, ru_fr h.2 (fr_tr (fr_g q1.2.1 rfl) (fr_g q2.2.1 rfl))⟩, q2.1.2⟩))
theorem d_reach {w : Wd} {v1 : Int} (h : LU w) (i_v1 : ((-2147483648 : Int) ≤ v1 ∧ v1 ≤ 2147483647)) : OK (f_E_reach v1 w) (fun r1 u1 => OK (f_R_reach v1 u1) (fun r2 u2 => LU u2 ∧ True)) := ok_w (ok_pc (c_reach (lf_li h.1) i_v1) (pc_ok (e_E_reach h.1.1 i_v1))) (fun r1 u1 q1 => ok_w (ok_pc q1.1 (pc_ok (e_R_reach q1.2.2 i_v1))) (fun r2 u2 q2 => ⟨⟨⟨q2.1.1.1, fc_fr2 h.1.2 q2.1.1.2 (fr_tr (fr_g q1.2.1 rfl) (fr_g q2.2.1 rfl))⟩, ru_fr h.2 (fr_tr (fr_g q1.2.1 rfl) (fr_g q2.2.1 rfl))⟩, q2.1.2⟩))
theorem d_fewest {w : Wd} {v1 : Int} (h : LU w) (i_v1 : ((-2147483648 : Int) ≤ v1 ∧ v1 ≤ 2147483647)) : OK (f_E_fewest v1 w) (fun r1 u1 => OK (f_R_fewest v1 u1) (fun r2 u2 => LU u2 ∧ True)) := ok_w (ok_pc (c_fewest (lf_li h.1) i_v1) (pc_ok (e_E_fewest h.1.1 i_v1))) (fun r1 u1 q1 => ok_w (ok_pc q1.1 (pc_ok (e_R_fewest q1.2.2 i_v1))) (fun r2 u2 q2 => ⟨⟨⟨q2.1.1.1, fc_fr2 h.1.2 q2.1.1.2 (fr_tr (fr_g q1.2.1 rfl) (fr_g q2.2.1 rfl))⟩, ru_fr h.2 (fr_tr (fr_g q1.2.1 rfl) (fr_g q2.2.1 rfl))⟩, q2.1.2⟩))
theorem d_crowd {w : Wd} (h : LU w) : OK (f_E_crowd w) (fun r1 u1 => OK (f_R_crowd u1) (fun r2 u2 => LU u2 ∧ True)) := ok_w (ok_pc (c_crowd (lf_li h.1)) (pc_ok (e_E_crowd h.1.1))) (fun r1 u1 q1 => ok_w (ok_pc q1.1 (pc_ok (e_R_crowd q1.2.2))) (fun r2 u2 q2 => ⟨⟨⟨q2.1.1.1, fc_fr2 h.1.2 q2.1.1.2 (fr_tr (fr_g q1.2.1 rfl) (fr_g q2.2.1 rfl))⟩, ru_fr h.2 (fr_tr (fr_g q1.2.1 rfl) (fr_g q2.2.1 rfl))⟩, q2.1.2⟩))
theorem d_both {w : Wd} {v1 v2 v3 : Int} (h : LU w) (i_v1 : ((-2147483648 : Int) ≤ v1 ∧ v1 ≤ 2147483647)) (i_v2 : ((-2147483648 : Int) ≤ v2 ∧ v2 ≤ 2147483647)) (i_v3 : ((-2147483648 : Int) ≤ v3 ∧ v3 ≤ 2147483647)) : OK (f_E_both v1 v2 v3 w) (fun r1 u1 => OK (f_R_both v1 v2 v3 u1) (fun r2 u2 => LU u2 ∧ True)) := ok_w (ok_pc (c_both (lf_li h.1) i_v1 i_v2 i_v3) (pc_ok (e_E_both h.1.1 i_v1 i_v2 i_v3))) (fun r1 u1 q1 => ok_w (ok_pc q1.1 (pc_ok (e_R_both q1.2.2 i_v1 i_v2 i_v3))) (fun r2 u2 q2 => ⟨⟨⟨q2.1.1.1, fc_fr2 h.1.2 q2.1.1.2 (fr_tr (fr_g q1.2.1 rfl) (fr_g q2.2.1 rfl))⟩, ru_fr h.2 (fr_tr (fr_g q1.2.1 rfl) (fr_g q2.2.1 rfl))⟩, q2.1.2⟩))
theorem d_last {w : Wd} (h : LU w) : OK (f_E_last w) (fun r1 u1 => OK (f_R_last u1) (fun r2 u2 => LU u2 ∧ True)) := ok_w (ok_pc (c_last (lf_li h.1)) (pc_ok (e_E_last h.1.1))) (fun r1 u1 q1 => ok_w (ok_pc q1.1 (pc_ok (e_R_last q1.2.2))) (fun r2 u2 q2 => ⟨⟨⟨q2.1.1.1, fc_fr2 h.1.2 q2.1.1.2 (fr_tr (fr_g q1.2.1 rfl) (fr_g q2.2.1 rfl))⟩, ru_fr h.2 (fr_tr (fr_g q1.2.1 rfl) (fr_g q2.2.1 rfl))⟩, q2.1.2⟩))
theorem d_begin {w : Wd} (h : LU w) : OK (f_E_begin w) (fun r1 u1 => OK (f_R_begin2 u1) (fun r2 u2 => LU u2 ∧ True)) := ok_w (ok_pc (c_begin (lf_li h.1)) (pc_ok (e_E_begin h.1.1))) (fun r1 u1 q1 => ok_w (ok_pc q1.1 (pc_ok (e_R_begin2 q1.2.2))) (fun r2 u2 q2 => ⟨⟨⟨q2.1.1.1, fc_fr2 h.1.2 q2.1.1.2 (fr_tr (fr_g q1.2.1 rfl) (fr_g q2.2.1 rfl))⟩, ru_fr h.2 (fr_tr (fr_g q1.2.1 rfl) (fr_g q2.2.1 rfl))⟩, q2.1.2⟩))
theorem d_cheap {w : Wd} {v1 : Int} (h : LU w) (i_v1 : ((-2147483648 : Int) ≤ v1 ∧ v1 ≤ 2147483647)) : OK (f_E_cheap v1 w) (fun r1 u1 => OK (f_R_cheap v1 u1) (fun r2 u2 => LU u2 ∧ True)) := ok_w (ok_pc (c_cheap (lf_li h.1) i_v1) (pc_ok (e_E_cheap h.1.1 i_v1))) (fun r1 u1 q1 => ok_w (ok_pc q1.1 (pc_ok (e_R_cheap q1.2.2 i_v1))) (fun r2 u2 q2 => ⟨⟨⟨q2.1.1.1, fc_fr2 h.1.2 q2.1.1.2 (fr_tr (fr_g q1.2.1 rfl) (fr_g q2.2.1 rfl))⟩, ru_fr h.2 (fr_tr (fr_g q1.2.1 rfl) (fr_g q2.2.1 rfl))⟩, q2.1.2⟩))
theorem d_stays {w : Wd} {v1 : Int} (h : LU w) (i_v1 : ((-2147483648 : Int) ≤ v1 ∧ v1 ≤ 2147483647)) : OK (f_E_stays v1 w) (fun r1 u1 => OK (f_R_stays v1 u1) (fun r2 u2 => LU u2 ∧ True)) := ok_w (ok_pc (c_stays (lf_li h.1) i_v1) (pc_ok (e_E_stays h.1.1 i_v1))) (fun r1 u1 q1 => ok_w (ok_pc q1.1 (pc_ok (e_R_stays q1.2.2 i_v1))) (fun r2 u2 q2 => ⟨⟨⟨q2.1.1.1, fc_fr2 h.1.2 q2.1.1.2 (fr_tr (fr_g q1.2.1 rfl) (fr_g q2.2.1 rfl))⟩, ru_fr h.2 (fr_tr (fr_g q1.2.1 rfl) (fr_g q2.2.1 rfl))⟩, q2.1.2⟩))
theorem d_soonest {w : Wd} {v1 : Int} (h : LU w) (i_v1 : ((-2147483648 : Int) ≤ v1 ∧ v1 ≤ 2147483647)) : OK (f_E_soonest v1 w) (fun r1 u1 => OK (f_R_soonest v1 u1) (fun r2 u2 => LU u2 ∧ True)) := ok_w (ok_pc (c_soonest (lf_li h.1) i_v1) (pc_ok (e_E_soonest h.1.1 i_v1))) (fun r1 u1 q1 => ok_w (ok_pc q1.1 (pc_ok (e_R_soonest q1.2.2 i_v1))) (fun r2 u2 q2 => ⟨⟨⟨q2.1.1.1, fc_fr2 h.1.2 q2.1.1.2 (fr_tr (fr_g q1.2.1 rfl) (fr_g q2.2.1 rfl))⟩, ru_fr h.2 (fr_tr (fr_g q1.2.1 rfl) (fr_g q2.2.1 rfl))⟩, q2.1.2⟩))
theorem d_worth {w : Wd} {v1 : Int} (h : LU w) (i_v1 : ((-2147483648 : Int) ≤ v1 ∧ v1 ≤ 2147483647)) : OK (f_E_worth v1 w) (fun r1 u1 => OK (f_R_worth v1 u1) (fun r2 u2 => LU u2 ∧ True)) := ok_w (ok_pc (c_worth (lf_li h.1) i_v1) (pc_ok (e_E_worth h.1.1 i_v1))) (fun r1 u1 q1 => ok_w (ok_pc q1.1 (pc_ok (e_R_worth q1.2.2 i_v1))) (fun r2 u2 q2 => ⟨⟨⟨q2.1.1.1, fc_fr2 h.1.2 q2.1.1.2 (fr_tr (fr_g q1.2.1 rfl) (fr_g q2.2.1 rfl))⟩, ru_fr h.2 (fr_tr (fr_g q1.2.1 rfl) (fr_g q2.2.1 rfl))⟩, q2.1.2⟩))
theorem d_needed {w : Wd} (h : LU w) : OK (f_E_needed w) (fun r1 u1 => OK (f_R_needed u1) (fun r2 u2 => LU u2 ∧ True)) := ok_w (ok_pc (c_needed (lf_li h.1)) (pc_ok (e_E_needed h.1.1))) (fun r1 u1 q1 => ok_w (ok_pc q1.1 (pc_ok (e_R_needed q1.2.2))) (fun r2 u2 q2 => ⟨⟨⟨q2.1.1.1, fc_fr2 h.1.2 q2.1.1.2 (fr_tr (fr_g q1.2.1 rfl) (fr_g q2.2.1 rfl))⟩, ru_fr h.2 (fr_tr (fr_g q1.2.1 rfl) (fr_g q2.2.1 rfl))⟩, q2.1.2⟩))
theorem d_never {w : Wd} (h : LU w) : OK (f_E_never w) (fun r1 u1 => OK (f_R_never u1) (fun r2 u2 => LU u2 ∧ True)) := ok_w (ok_pc (c_never (lf_li h.1)) (pc_ok (e_E_never h.1.1))) (fun r1 u1 q1 => ok_w (ok_pc q1.1 (pc_ok (e_R_never q1.2.2))) (fun r2 u2 q2 => ⟨⟨⟨q2.1.1.1, fc_fr2 h.1.2 q2.1.1.2 (fr_tr (fr_g q1.2.1 rfl) (fr_g q2.2.1 rfl))⟩, ru_fr h.2 (fr_tr (fr_g q1.2.1 rfl) (fr_g q2.2.1 rfl))⟩, q2.1.2⟩))
theorem d_bound {w : Wd} (h : LU w) : OK (f_E_bound w) (fun r1 u1 => OK (f_R_bound u1) (fun r2 u2 => LU u2 ∧ True)) := ok_w (ok_pc (c_bound (lf_li h.1)) (pc_ok (e_E_bound h.1.1))) (fun r1 u1 q1 => ok_w (ok_pc q1.1 (pc_ok (e_R_bound q1.2.2))) (fun r2 u2 q2 => ⟨⟨⟨q2.1.1.1, fc_fr2 h.1.2 q2.1.1.2 (fr_tr (fr_g q1.2.1 rfl) (fr_g q2.2.1 rfl))⟩, ru_fr h.2 (fr_tr (fr_g q1.2.1 rfl) (fr_g q2.2.1 rfl))⟩, q2.1.2⟩))
theorem d_far {w : Wd} {v1 : Int} (h : LU w) (i_v1 : ((-2147483648 : Int) ≤ v1 ∧ v1 ≤ 2147483647)) : OK (f_E_far v1 w) (fun r1 u1 => OK (f_R_far v1 u1) (fun r2 u2 => LU u2 ∧ True)) := ok_w (ok_pc (c_far (lf_li h.1) i_v1) (pc_ok (e_E_far h.1.1 i_v1))) (fun r1 u1 q1 => ok_w (ok_pc q1.1 (pc_ok (e_R_far q1.2.2 i_v1))) (fun r2 u2 q2 => ⟨⟨⟨q2.1.1.1, fc_fr2 h.1.2 q2.1.1.2 (fr_tr (fr_g q1.2.1 rfl) (fr_g q2.2.1 rfl))⟩, ru_fr h.2 (fr_tr (fr_g q1.2.1 rfl) (fr_g q2.2.1 rfl))⟩, q2.1.2⟩))
theorem d_line {w : Wd} {v1 : Int} (h : LU w) (i_v1 : ((-2147483648 : Int) ≤ v1 ∧ v1 ≤ 2147483647)) : OK (f_E_line v1 w) (fun r1 u1 => OK (f_R_line v1 u1) (fun r2 u2 => LU u2 ∧ True)) := ok_w (ok_pc (c_line (lf_li h.1) i_v1) (pc_ok (e_E_line h.1.1 i_v1))) (fun r1 u1 q1 => ok_w (ok_pc q1.1 (pc_ok (e_R_line q1.2.2 i_v1))) (fun r2 u2 q2 => ⟨⟨⟨q2.1.1.1, fc_fr2 h.1.2 q2.1.1.2 (fr_tr (fr_g q1.2.1 rfl) (fr_g q2.2.1 rfl))⟩, ru_fr h.2 (fr_tr (fr_g q1.2.1 rfl) (fr_g q2.2.1 rfl))⟩, q2.1.2⟩))
theorem d_led {w : Wd} {v1 : Int} (h : LU w) (i_v1 : ((-2147483648 : Int) ≤ v1 ∧ v1 ≤ 2147483647)) : OK (f_E_led v1 w) (fun r1 u1 => OK (f_R_led v1 u1) (fun r2 u2 => LU u2 ∧ True)) := ok_w (ok_pc (c_led (lf_li h.1) i_v1) (pc_ok (e_E_led h.1.1 i_v1))) (fun r1 u1 q1 => ok_w (ok_pc q1.1 (pc_ok (e_R_led q1.2.2 i_v1))) (fun r2 u2 q2 => ⟨⟨⟨q2.1.1.1, fc_fr2 h.1.2 q2.1.1.2 (fr_tr (fr_g q1.2.1 rfl) (fr_g q2.2.1 rfl))⟩, ru_fr h.2 (fr_tr (fr_g q1.2.1 rfl) (fr_g q2.2.1 rfl))⟩, q2.1.2⟩))
theorem d_was {w : Wd} {v1 : Int} (h : LU w) (i_v1 : ((-2147483648 : Int) ≤ v1 ∧ v1 ≤ 2147483647)) : OK (f_E_was v1 w) (fun r1 u1 => OK (f_R_was v1 u1) (fun r2 u2 => LU u2 ∧ True)) := ok_w (ok_pc (c_was (lf_li h.1) i_v1) (pc_ok (e_E_was h.1.1 i_v1))) (fun r1 u1 q1 => ok_w (ok_pc q1.1 (pc_ok (e_R_was q1.2.2 i_v1))) (fun r2 u2 q2 => ⟨⟨⟨q2.1.1.1, fc_fr2 h.1.2 q2.1.1.2 (fr_tr (fr_g q1.2.1 rfl) (fr_g q2.2.1 rfl))⟩, ru_fr h.2 (fr_tr (fr_g q1.2.1 rfl) (fr_g q2.2.1 rfl))⟩, q2.1.2⟩))
theorem d_common {w : Wd} {v1 v2 : Int} (h : LU w) (i_v1 : ((-2147483648 : Int) ≤ v1 ∧ v1 ≤ 2147483647)) (i_v2 : ((-2147483648 : Int) ≤ v2 ∧ v2 ≤ 2147483647)) : OK (f_E_common v1 v2 w) (fun r1 u1 => OK (f_R_common v1 v2 u1) (fun r2 u2 => LU u2 ∧ True)) := ok_w (ok_pc (c_common (lf_li h.1) i_v1 i_v2) (pc_ok (e_E_common h.1.1 i_v1 i_v2))) (fun r1 u1 q1 => ok_w (ok_pc q1.1 (pc_ok (e_R_common q1.2.2 i_v1 i_v2))) (fun r2 u2 q2 => ⟨⟨⟨q2.1.1.1, fc_fr2 h.1.2 q2.1.1.2 (fr_tr (fr_g q1.2.1 rfl) (fr_g q2.2.1 rfl))⟩, ru_fr h.2 (fr_tr (fr_g q1.2.1 rfl) (fr_g q2.2.1 rfl))⟩, q2.1.2⟩))
theorem d_father {w : Wd} (h : LU w) : OK (f_E_father w) (fun r1 u1 => OK (f_R_father u1) (fun r2 u2 => LU u2 ∧ True)) := ok_w (ok_pc (c_father (lf_li h.1)) (pc_ok (e_E_father h.1.1))) (fun r1 u1 q1 => ok_w (ok_pc q1.1 (pc_ok (e_R_father q1.2.2))) (fun r2 u2 q2 => ⟨⟨⟨q2.1.1.1, fc_fr2 h.1.2 q2.1.1.2 (fr_tr (fr_g q1.2.1 rfl) (fr_g q2.2.1 rfl))⟩, ru_fr h.2 (fr_tr (fr_g q1.2.1 rfl) (fr_g q2.2.1 rfl))⟩, q2.1.2⟩))
theorem d_keep {w : Wd} {v1 : Int} (h : LU w) (i_v1 : ((-2147483648 : Int) ≤ v1 ∧ v1 ≤ 2147483647)) : OK (f_E_keep v1 w) (fun r1 u1 => OK (f_R_keep v1 u1) (fun r2 u2 => LU u2 ∧ r1 = r2)) := ok_w (ok_pc (k_keep h.1 i_v1) (pc_ok (e_E_keep h.1.1 i_v1))) (fun r1 u1 q1 => ok_w (ok_pc q1.1 (pc_ok (e_R_keep q1.2.2 i_v1))) (fun r2 u2 q2 => ⟨⟨q2.1.1, ru_fr h.2 (fr_tr (fr_g q1.2.1 rfl) (fr_g q2.2.1 rfl))⟩, q2.1.2⟩))
theorem d_again {w : Wd} {v1 : Int} (h : LU w) (i_v1 : ((-2147483648 : Int) ≤ v1 ∧ v1 ≤ 2147483647)) : OK (f_E_again v1 w) (fun r1 u1 => OK (f_R_again v1 u1) (fun r2 u2 => LU u2 ∧ r1 = r2)) := ok_w (ok_pc (k_again h.1 i_v1) (pc_ok (e_E_again h.1.1 i_v1))) (fun r1 u1 q1 => ok_w (ok_pc q1.1 (pc_ok (e_R_again q1.2.2 i_v1))) (fun r2 u2 q2 => ⟨⟨q2.1.1, ru_fr h.2 (fr_tr (fr_g q1.2.1 rfl) (fr_g q2.2.1 rfl))⟩, q2.1.2⟩))
theorem d_count {w : Wd} {v1 : Int} (h : LU w) (i_v1 : ((-2147483648 : Int) ≤ v1 ∧ v1 ≤ 2147483647)) : OK (f_E_count v1 w) (fun r1 u1 => OK (f_R_count v1 u1) (fun r2 u2 => LU u2 ∧ True)) := ok_w (ok_pc (c_count (lf_li h.1) i_v1) (pc_ok (e_E_count h.1.1 i_v1))) (fun r1 u1 q1 => ok_w (ok_pc q1.1 (pc_ok (e_R_count q1.2.2 i_v1))) (fun r2 u2 q2 => ⟨⟨⟨q2.1.1.1, fc_fr2 h.1.2 q2.1.1.2 (fr_tr (fr_g q1.2.1 rfl) (fr_g q2.2.1 rfl))⟩, ru_fr h.2 (fr_tr (fr_g q1.2.1 rfl) (fr_g q2.2.1 rfl))⟩, q2.1.2⟩))
theorem d_row {w : Wd} {v1 : Int} (h : LU w) (i_v1 : ((-2147483648 : Int) ≤ v1 ∧ v1 ≤ 2147483647)) : OK (f_A_row v1 w) (fun r1 u1 => OK (f_R_row v1 u1) (fun r2 u2 => LU u2 ∧ True)) := ok_w (ok_pc (c_row (lf_li h.1) i_v1) (pc_ok (e_A_row h.1.1 i_v1))) (fun r1 u1 q1 => ok_w (ok_pc q1.1 (pc_ok (e_R_row q1.2.1 i_v1))) (fun r2 u2 q2 => ⟨⟨⟨q2.1.1.1, fc_fr2 h.1.2 q2.1.1.2 (fr_tr (fr_82 q1.2.2) (fr_g q2.2.1 rfl))⟩, ru_fr h.2 (fr_tr (fr_82 q1.2.2) (fr_g q2.2.1 rfl))⟩, q2.1.2⟩))
/-! ANSWERS OF WHAT CHANGES NOTHING: side by side -/
theorem d_er {xE : Option (Int × Wd)} {xR : Wd → Option (Int × Wd)} {w : Wd} (h : LU w) (hd : OK xE (fun _ u1 => OK (xR u1) (fun _ u2 => LU u2 ∧ True))) (hG : PC xE (fun _ u => ∀ c, 43 ≤ c → u c = w c)) (q : ∀ a, ER a w → Sn (a 43 0) (a 47) (a 48) (a 49) (a 43 8) → PC xE (fun r _ => PC (xR a) (fun r' _ => r = r'))) : OK xE (fun r1 u1 => OK (xR u1) (fun r2 u2 => LU u2 ∧ r1 = r2)) := by
  obtain ⟨r1, u1, e1, h1⟩ := hd
  refine ⟨r1, u1, e1, ?_⟩
  obtain ⟨r2, u2, e2, h2, _⟩ := h1
  have hR := hG r1 u1 e1
  refine ⟨r2, u2, e2, h2, q u1 (lu_er h hR) ?_ r1 u1 e1 r2 u2 e2⟩
  rw [hR 43 (by decide), hR 47 (by decide), hR 48 (by decide), hR 49 (by decide)]
  exact h.1.1.2.1.1
theorem gb_pc {v1 : Int} {w : Wd} (h : 0 ≤ v1 ∧ v1 ≤ w 15 3 ∧ w 15 3 ≤ 60) : PC (f_D_guestsBehind v1 w) (fun r u => u = w ∧ r = w 16 v1.toNat) := by
  unfold f_D_guestsBehind f_D_isOne
  rw [if_neg (by omega), if_neg (by omega), if_neg (by omega), jc_s, if_neg (by decide)]
  exact pc_gd (fun _ => pc_some ⟨rfl, rfl⟩)
theorem er_was {a w : Wd} {v1 : Int} (h : ER a w) : PC (f_E_was v1 w) (fun r _ => PC (f_R_was v1 a) (fun r' _ => r = r')) := by
  have x15 : w 15 3 = a 43 8 := h.1.2.2.2.2.1.2.1
  have x8 : 0 ≤ a 43 8 ∧ a 43 8 ≤ 60 := h.2.2.2.2.2.2.1
  have x16 : ∀ t : Nat, (t : Int) ≤ a 43 8 → w 16 t = a 50 t := h.1.2.2.2.2.2.1
  unfold f_E_was f_R_was f_R_in f_E_was_15
  by_cases c1 : v1 < 0
  · rw [if_pos c1]
    refine pc_some (pc_lw (fun y e => ?_))
    rw [if_pos c1, jc_s, if_pos rfl]
    exact pc_some rfl
  · rw [if_neg c1]
    by_cases c2 : v1 ≤ w 15 3
    · rw [if_pos c2]
      refine pc_call (gb_pc (v1 := v1) (w := w) (by omega)) (fun r1 u2 q => pc_some (pc_lw (fun y e => ?_)))
      have y8 : y 43 8 = a 43 8 := by rw [e, st_k (by decide)]
      rw [if_neg c1, y8, if_neg (by omega), jc_s, if_neg (by decide)]
      refine pc_gd (fun _ => pc_some ?_)
      rw [q.2, e, st_c (by decide)]
      exact x16 v1.toNat (by omega)
    · rw [if_neg c2]
      refine pc_some (pc_lw (fun y e => ?_))
      have y8 : y 43 8 = a 43 8 := by rw [e, st_k (by decide)]
      rw [if_neg c1, y8, if_pos (by omega), jc_s, if_pos rfl]
      exact pc_some rfl
theorem dq_was {w : Wd} {v1 : Int} (h : LU w) (i_v1 : ((-2147483648 : Int) ≤ v1 ∧ v1 ≤ 2147483647)) : OK (f_E_was v1 w) (fun r1 u1 => OK (f_R_was v1 u1) (fun r2 u2 => LU u2 ∧ r1 = r2)) :=
  d_er (xR := fun u => f_R_was v1 u) h (d_was h i_v1) (pc_w (pc_ok (e_E_was h.1.1 i_v1)) (fun _ _ q => g_hi q.1 (by decide))) (fun _ ha _ => er_was ha)
/-! WHO BROUGHT WHOM -/
def RK (P : Int) (b : Nat → Int) (d : Nat → Nat) : Prop := ∀ i : Nat, (i : Int) < P → (d i : Int) < P ∧ (b i = -1 ∨ ((0 ≤ b i ∧ b i < P) ∧ d (b i).toNat < d i))
theorem rk_sn {P wk : Int} {s b f : Nat → Int} (hP : 0 ≤ P ∧ P ≤ 10) (h : Sn P s b f wk) : ∃ d, RK P b d := by
  refine ⟨fun i => if i < P.toNat then ct f P (f i) P.toNat else 0, fun i hi => ⟨?_, ?_⟩⟩
  · show (((if i < P.toNat then ct f P (f i) P.toNat else 0) : Nat) : Int) < P
    rw [if_pos (by omega)]
    have := ct_9 f P (i := i) (by omega) P.toNat (by omega)
    omega
  · by_cases c : b i = -1
    · exact Or.inl c
    · obtain ⟨q0, q1, _, q3⟩ := h.1 i hi c
      refine Or.inr ⟨⟨q0, q1⟩, ?_⟩
      show (if (b i).toNat < P.toNat then ct f P (f (b i).toNat) P.toNat else 0) < (if i < P.toNat then ct f P (f i) P.toNat else 0)
      rw [if_pos (by omega), if_pos (by omega)]
      exact ct_lt f P (by omega) q3 P.toNat (by omega)
/-- from x up to y: so many steps, or -1 -/
def stu (b : Nat → Int) : Nat → Int → Int → Int
  | 0, _, _ => -1
  | n + 1, x, y => if x = -1 then -1 else if x = y then 0 else if stu b n (b x.toNat) y < 0 then -1 else stu b n (b x.toNat) y + 1
theorem stu_rg (b : Nat → Int) (y : Int) : ∀ (n : Nat) (x : Int), -1 ≤ stu b n x y ∧ stu b n x y ≤ n := by
  intro n
  induction n with
  | zero => intro x; exact ⟨by show (-1 : Int) ≤ -1; decide, by show (-1 : Int) ≤ 0; decide⟩
  | succ n ih =>
    intro x
    rw [stu]
    by_cases c1 : x = -1
    · rw [if_pos c1]; omega
    · rw [if_neg c1]
      by_cases c2 : x = y
      · rw [if_pos c2]; omega
      · rw [if_neg c2]
        have := ih (b x.toNat)
        by_cases c3 : stu b n (b x.toNat) y < 0
        · rw [if_pos c3]; omega
        · rw [if_neg c3]; omega
/-- fuel enough: as many steps as the rank -/
theorem stu_fu {P : Int} {b : Nat → Int} {d : Nat → Nat} (h : RK P b d) {y : Int} : ∀ (k : Nat) (x : Int), (x = -1 ∨ ((0 ≤ x ∧ x < P) ∧ d x.toNat < k)) → ∀ n m : Nat, k ≤ n → k ≤ m → 1 ≤ n → 1 ≤ m → stu b n x y = stu b m x y := by
  intro k
  induction k with
  | zero =>
    intro x hx n m _ _ hn hm
    rcases hx with e | e
    · cases n with
      | zero => omega
      | succ n =>
        cases m with
        | zero => omega
        | succ m => rw [stu, stu, if_pos e, if_pos e]
    · omega
  | succ k ih =>
    intro x hx n m kn km hn hm
    cases n with
    | zero => omega
    | succ n =>
      cases m with
      | zero => omega
      | succ m =>
        rw [stu, stu]
        by_cases c1 : x = -1
        · rw [if_pos c1, if_pos c1]
        · rw [if_neg c1, if_neg c1]
          by_cases c2 : x = y
          · rw [if_pos c2, if_pos c2]
          · rw [if_neg c2, if_neg c2]
            have hx2 := hx.resolve_left c1
            have hb := (h x.toNat (by omega)).2
            by_cases k0 : k = 0
            · have hd0 : d x.toNat = 0 := by omega
              have e : b x.toNat = -1 := by
                rcases hb with e | e
                · exact e
                · omega
              have s0 : ∀ j, stu b j (b x.toNat) y = -1 := fun j => by
                cases j with
                | zero => rfl
                | succ j => rw [stu, if_pos e]
              rw [s0, s0]
            · rw [ih (b x.toNat) (by
                rcases hb with e | e
                · exact Or.inl e
                · exact Or.inr ⟨e.1, by omega⟩) n m (by omega) (by omega) (by omega) (by omega)]
theorem bb_pc {v1 : Int} {w : Wd} (h : 0 ≤ v1 ∧ v1 < w 5 3) : PC (f_F_broughtBy v1 w) (fun r u => u = w ∧ r = w 8 v1.toNat) := by
  unfold f_F_broughtBy
  refine pc_call (it_pc v1 w) (fun r1 u2 q => ?_)
  rw [q.1, q.2, show hd (w 5 3) v1 = 1 from if_pos h]
  refine pc_ite (fun e => absurd e (by decide)) (fun _ => ?_)
  exact pc_gd (fun _ => pc_some ⟨rfl, rfl⟩)
theorem su_pc {P y : Int} {b : Nat → Int} {d : Nat → Nat} {w : Wd} (hP : P ≤ 10) (h : RK P b d) (h3 : w 5 3 = P) (h8 : ∀ j : Nat, (j : Int) < P → w 8 j = b j) : ∀ (n : Nat) {x v4 : Int}, 0 ≤ v4 → (x = -1 ∨ ((0 ≤ x ∧ x < P) ∧ v4 + d x.toNat < P)) → PC (f_F_stepsUp_5 n y x v4 w) (fun r u => u = w ∧ r = if stu b 11 x y < 0 then -1 else v4 + stu b 11 x y) := by
  intro n
  induction n with
  | zero => intros; exact pc_none
  | succ n ih =>
    intro x v4 i0 hx
    rw [f_F_stepsUp_5, h3]
    have s0 : x = -1 → stu b 11 x y = -1 := fun e => by rw [stu, if_pos e]
    refine pc_ite (fun c => pc_some ⟨rfl, ?_⟩) (fun c => ?_)
    · have e : x = -1 := by
        rcases hx with e | e
        · exact e
        · omega
      rw [s0 e]; rfl
    refine pc_ite (fun e => pc_some ⟨rfl, ?_⟩) (fun c1 => ?_)
    · rw [s0 e]; rfl
    have hx2 := hx.resolve_left c1
    refine pc_ite (fun e => pc_some ⟨rfl, ?_⟩) (fun c2 => ?_)
    · rw [stu, if_neg c1, if_pos e]; simp
    · refine pc_call (bb_pc (v1 := x) (w := w) (by omega)) (fun r1 u2 q => ?_)
      rw [q.1, q.2, h8 x.toNat (by omega)]
      refine pc_let (fun x3 e3 => ?_)
      rw [wsucc (P := P) (by omega) (by omega)] at e3
      rw [e3]
      have hb := (h x.toNat (by omega)).2
      have dr := (h x.toNat (by omega)).1
      refine pc_w (ih (x := b x.toNat) (v4 := v4 + 1) (by omega) (by
        rcases hb with e | e
        · exact Or.inl e
        · exact Or.inr ⟨e.1, by omega⟩)) (fun r u z => ⟨z.1, ?_⟩)
      have ef : stu b 11 (b x.toNat) y = stu b 10 (b x.toNat) y := stu_fu h 10 (b x.toNat) (by
        rcases hb with e | e
        · exact Or.inl e
        · have := (h (b x.toNat).toNat (by omega)).1
          exact Or.inr ⟨e.1, by omega⟩) 11 10 (by decide) (by decide) (by decide) (by decide)
      have e11 : stu b 11 x y = if stu b 10 (b x.toNat) y < 0 then -1 else stu b 10 (b x.toNat) y + 1 := by
        rw [stu, if_neg c1, if_neg c2]
      rw [z.2, e11, ef]
      by_cases c3 : stu b 10 (b x.toNat) y < 0
      · rw [if_pos c3, if_pos c3]; rfl
      · rw [if_neg c3, if_neg c3, if_neg (by omega)]; omega
theorem steps_pc {P x y : Int} {b : Nat → Int} {d : Nat → Nat} {w : Wd} (hP : P ≤ 10) (h : RK P b d) (h3 : w 5 3 = P) (h8 : ∀ j : Nat, (j : Int) < P → w 8 j = b j) (hx : 0 ≤ x ∧ x < P) : PC (f_F_stepsUp x y w) (fun r u => u = w ∧ r = stu b 11 x y) := by
  unfold f_F_stepsUp
  have dr := (h x.toNat (by omega)).1
  refine pc_w (su_pc hP h h3 h8 FU (x := x) (v4 := 0) (by decide) (Or.inr ⟨hx, by omega⟩)) (fun r u q => ⟨q.1, ?_⟩)
  have := stu_rg b y 11 x
  rw [q.2]
  by_cases c : stu b 11 x y < 0
  · rw [if_pos c]; omega
  · rw [if_neg c]; omega
/-- led by y -/
def des (b : Nat → Int) (y : Int) (q : Nat) : Bool := decide (0 < stu b 11 (q : Int) y)
theorem des_s {P y : Int} {b : Nat → Int} {d : Nat → Nat} (hP : P ≤ 10) (h : RK P b d) (hy : 0 ≤ y ∧ y < P) {q : Nat} (hq : (q : Int) < P) : des b y q = true ↔ (b q = y ∨ (b q ≠ -1 ∧ des b y (b q).toNat = true)) := by
  have hb := (h q hq).2
  have e10 : ∀ x, (x = -1 ∨ (0 ≤ x ∧ x < P)) → stu b 11 x y = stu b 10 x y := fun x hx => stu_fu h 10 x (by
    rcases hx with e | e
    · exact Or.inl e
    · have := (h x.toNat (by omega)).1
      exact Or.inr ⟨e, by omega⟩) 11 10 (by decide) (by decide) (by decide) (by decide)
  -- a rank goes down along the way
  have down : ∀ (k : Nat) (x : Int), (0 ≤ x ∧ x < P) → 0 < stu b k x y → d y.toNat < d x.toNat := by
    intro k
    induction k with
    | zero => intro x _ h0; exact absurd h0 (by show ¬ (0 : Int) < -1; decide)
    | succ k ih =>
      intro x hx h0
      rw [stu, if_neg (show ¬ x = -1 by omega)] at h0
      by_cases c2 : x = y
      · rw [if_pos c2] at h0; omega
      · rw [if_neg c2] at h0
        by_cases c3 : stu b k (b x.toNat) y < 0
        · rw [if_pos c3] at h0; omega
        · have hbx := (h x.toNat (by omega)).2
          have hbn : b x.toNat ≠ -1 := fun e => by
            apply c3
            cases k with
            | zero => show (-1 : Int) < 0; decide
            | succ k => rw [stu, if_pos e]; decide
          have hb2 := hbx.resolve_left hbn
          by_cases c4 : b x.toNat = y
          · have := hb2.2
            rw [c4] at this
            exact this
          · have h1 : 0 < stu b k (b x.toNat) y := by
              cases k with
              | zero => exact absurd (show stu b 0 (b x.toNat) y < 0 by show (-1 : Int) < 0; decide) c3
              | succ k =>
                rw [stu, if_neg hbn, if_neg c4] at c3 ⊢
                by_cases c5 : stu b k (b (b x.toNat).toNat) y < 0
                · rw [if_pos c5] at c3; omega
                · rw [if_neg c5]; omega
            have := ih (b x.toNat) hb2.1 h1
            omega
  have e11 : stu b 11 (q : Int) y = if (q : Int) = y then 0 else if stu b 10 (b q) y < 0 then -1 else stu b 10 (b q) y + 1 := by
    rw [stu, if_neg (show ¬ (q : Int) = -1 by omega)]
    rfl
  unfold des
  rw [decide_eq_true_iff]
  constructor
  · intro h0
    rw [e11] at h0
    by_cases c : (q : Int) = y
    · rw [if_pos c] at h0; omega
    · rw [if_neg c] at h0
      by_cases c3 : stu b 10 (b q) y < 0
      · rw [if_pos c3] at h0; omega
      · have hbn : b q ≠ -1 := fun e => by
          apply c3
          rw [stu, if_pos e]; decide
        have hb2 := hb.resolve_left hbn
        by_cases c4 : b q = y
        · exact Or.inl c4
        · refine Or.inr ⟨hbn, ?_⟩
          rw [decide_eq_true_iff, show (((b q).toNat : Nat) : Int) = b q by omega, e10 (b q) (Or.inr hb2.1)]
          rw [stu, if_neg hbn, if_neg c4] at c3 ⊢
          by_cases c5 : stu b 9 (b (b q).toNat) y < 0
          · rw [if_pos c5] at c3; omega
          · rw [if_neg c5]; omega
  · intro hc
    have nq : (q : Int) ≠ y := fun e => by
      rcases hc with e1 | ⟨e1, e2⟩
      · have hb2 := hb.resolve_left (by omega)
        have := hb2.2
        rw [show (b q).toNat = q by omega] at this
        omega
      · rw [decide_eq_true_iff] at e2
        have hb2 := hb.resolve_left e1
        rw [show (((b q).toNat : Nat) : Int) = b q by omega] at e2
        have := down 11 (b q) hb2.1 e2
        have := hb2.2
        rw [show y.toNat = q by omega] at *
        omega
    rw [e11, if_neg nq]
    rcases hc with e1 | ⟨e1, e2⟩
    · have : stu b 10 (b q) y = 0 := by rw [stu, if_neg (by omega), if_pos e1]
      rw [this]; decide
    · rw [decide_eq_true_iff] at e2
      have hb2 := hb.resolve_left e1
      rw [show (((b q).toNat : Nat) : Int) = b q by omega, e10 (b q) (Or.inr hb2.1)] at e2
      rw [if_neg (by omega)]; omega
/-- all that one led: the class -/
theorem lb_pc {P y : Int} {b : Nat → Int} {d : Nat → Nat} {w : Wd} (hP : 0 ≤ P ∧ P ≤ 10) (h : RK P b d) (h3 : w 5 3 = P) (h8 : ∀ j : Nat, (j : Int) < P → w 8 j = b j) : ∀ (n : Nat) {v2 v3 : Int}, 0 ≤ v3 → v3 ≤ P → B10 v2 (fun k => decide ((k : Int) < v3) && des b y k) → PC (f_F_ledBy_4 n y v2 v3 w) (fun r u => u = w ∧ B10 r (fun k => inP P k && des b y k)) := by
  intro n
  induction n with
  | zero => intros; exact pc_none
  | succ n ih =>
    intro v2 v3 i0 i1 hB
    rw [f_F_ledBy_4, h3]
    refine pc_ite (fun z => ?_) (fun z => ?_)
    · have e : v3 = P := by omega
      subst e
      exact pc_some ⟨rfl, hB⟩
    · refine pc_call (steps_pc (x := v3) (y := y) hP.2 h h3 h8 (by omega)) (fun r1 u2 q => ?_)
      rw [q.1, q.2]
      have nx : ∀ s : Int, s = (if des b y v3.toNat = true then ishl 1 v3 else 0) → PC (f_F_ledBy_29 (f_F_ledBy_4 n) y v3 v2 s w) (fun r u => u = w ∧ B10 r (fun k => inP P k && des b y k)) := by
        intro s e
        unfold f_F_ledBy_29
        refine pc_let (fun x3 e3 => ?_)
        refine pc_let (fun x4 e4 => ?_)
        rw [wsucc (P := P) (by omega) (by omega)] at e4
        rw [e4]
        refine ih (by omega) (by omega) ?_
        rw [e3, e]
        exact b10_step (f := des b y) (by omega) hB
      have ed : des b y v3.toNat = decide (0 < stu b 11 v3 y) := by
        unfold des
        rw [show ((v3.toNat : Nat) : Int) = v3 by omega]
      refine pc_ite (fun c => nx 0 ?_) (fun c => nx _ ?_)
      · rw [ed, decide_eq_false (by omega), if_neg (by decide)]
      · rw [ed, decide_eq_true (by omega), if_pos rfl]
/-! all that one led: the reference -/
def tS (b : Nat → Int) (y v3 : Int) (k : Nat) : Bool := !(b k == -1) && (b k == y || bt v3 (b k).toNat)
theorem lr14 {P y v3 : Int} {b : Nat → Int} {k4 : Int → Int → Int → Wd → Option (Int × Wd)} {w : Wd} {Q : Int → Wd → Prop} (hP : 0 ≤ P ∧ P ≤ 10) (h0 : w 43 0 = P) (h48 : ∀ j : Nat, (j : Int) < P → w 48 j = b j) (hb : ∀ j : Nat, (j : Int) < P → b j = -1 ∨ (0 ≤ b j ∧ b j < P)) (h3 : 0 ≤ v3 ∧ v3 ≤ 1023) (hk : ∀ v2', B10 v2' (fun k => bt v3 k || (inP P k && tS b y v3 k)) → PC (k4 y v2' v3 w) Q) : ∀ (n : Nat) {v2 v4 : Int}, 0 ≤ v4 → v4 ≤ P → B10 v2 (fun k => bt v3 k || (decide ((k : Int) < v4) && tS b y v3 k)) → PC (f_R_ledBy_14 k4 n y v2 v3 v4 w) Q := by
  intro n
  induction n with
  | zero => intros; exact pc_none
  | succ n ih =>
    intro v2 v4 i0 i1 hB
    rw [f_R_ledBy_14, h0]
    refine pc_ite (fun z => ?_) (fun z => ?_)
    · have e : v4 = P := by omega
      subst e
      exact hk v2 hB
    · refine pc_gd (fun _ => ?_)
      rw [h48 v4.toNat (by omega)]
      have hv := hb v4.toNat (by omega)
      have no : tS b y v3 v4.toNat = false → PC (f_R_ledBy_66 k4 (f_R_ledBy_14 k4 n) y v2 v3 v4 w) Q := fun ht => by
        unfold f_R_ledBy_66
        refine pc_let (fun x1 e1 => ?_)
        rw [wsucc (P := P) (by omega) (by omega)] at e1
        rw [e1]
        refine ih (by omega) (by omega) (b10_w hB (fun k _ => ?_))
        by_cases c : k = v4.toNat
        · rw [c, ht, Bool.and_false, Bool.and_false]
        · rw [show decide ((k : Int) < v4 + 1) = decide ((k : Int) < v4) from by
            by_cases c2 : (k : Int) < v4
            · rw [decide_eq_true c2, decide_eq_true (by omega)]
            · rw [decide_eq_false c2, decide_eq_false (by omega)]]
      have yes : tS b y v3 v4.toNat = true → PC (f_R_ledBy_59 k4 (f_R_ledBy_14 k4 n) y v2 v3 v4 w) Q := fun ht => by
        unfold f_R_ledBy_59 f_R_ledBy_66
        refine pc_let (fun x2 e2 => pc_let (fun x1 e1 => ?_))
        rw [wsucc (P := P) (by omega) (by omega)] at e1
        rw [e1, e2]
        refine ih (by omega) (by omega) (b10_w (b10_or hB (b10_1 (i := v4) (by omega))) (fun k _ => ?_))
        by_cases c : k = v4.toNat
        · rw [c, ht, decide_eq_true (show ((v4.toNat : Nat) : Int) < v4 + 1 by omega), decide_eq_true rfl, Bool.or_true]
          simp
        · rw [decide_eq_false c, Bool.or_false, show decide ((k : Int) < v4 + 1) = decide ((k : Int) < v4) from by
            by_cases c2 : (k : Int) < v4
            · rw [decide_eq_true c2, decide_eq_true (by omega)]
            · rw [decide_eq_false c2, decide_eq_false (by omega)]]
      refine pc_ite (fun c => no ?_) (fun c => ?_)
      · unfold tS; rw [c]; rfl
      have hr := hv.resolve_left c
      have e1 : (b v4.toNat == -1) = false := beq_eq_false_iff_ne.mpr c
      refine pc_gd (fun _ => ?_)
      refine pc_ite (fun c2 => yes ?_) (fun c2 => ?_)
      · unfold tS
        rw [e1, beq_iff_eq.mpr c2]; rfl
      · refine pc_gd (fun _ => ?_)
        rw [hasR_10 w (b10_self h3) (by omega), jc_s]
        have et : tS b y v3 v4.toNat = bt v3 (b v4.toNat).toNat := by
          unfold tS
          rw [e1, beq_eq_false_iff_ne.mpr c2]; simp
        cases hbt : bt v3 (b v4.toNat).toNat with
        | false => exact pc_ite (fun _ => no (et.trans hbt)) (fun e => absurd rfl e)
        | true => exact pc_ite (fun e => absurd e (by decide)) (fun _ => yes (et.trans hbt))
theorem lr4 {P y : Int} {b : Nat → Int} {d : Nat → Nat} {w : Wd} (hP : 0 ≤ P ∧ P ≤ 10) (h : RK P b d) (hy : 0 ≤ y ∧ y < P) (h0 : w 43 0 = P) (h48 : ∀ j : Nat, (j : Int) < P → w 48 j = b j) : ∀ (n : Nat) {v2 v3 : Int}, (0 ≤ v2 ∧ v2 ≤ 1023) → (∀ k, k < 10 → bt v2 k = true → (k : Int) < P ∧ des b y k = true) → (v3 = -1 ∨ ((0 ≤ v3 ∧ v3 ≤ 1023) ∧ B10 v2 (fun k => bt v3 k || (inP P k && tS b y v3 k)))) → PC (f_R_ledBy_4 n y v2 v3 w) (fun r u => u = w ∧ B10 r (fun k => inP P k && des b y k)) := by
  have hb : ∀ j : Nat, (j : Int) < P → b j = -1 ∨ (0 ≤ b j ∧ b j < P) := fun j hj => by
    rcases (h j hj).2 with e | e
    · exact Or.inl e
    · exact Or.inr e.1
  intro n
  induction n with
  | zero => intros; exact pc_none
  | succ n ih =>
    intro v2 v3 hr hs hc
    rw [f_R_ledBy_4]
    refine pc_ite (fun e => ?_) (fun e => ?_)
    · rcases hc with c | ⟨c1, c2⟩
      · omega
      · have cl : ∀ q : Nat, (q : Int) < P → tS b y v2 q = true → bt v2 q = true := fun q hq ht => by
          rw [c2.2 q (by omega)]
          show (bt v3 q || (inP P q && tS b y v3 q)) = true
          rw [← e, ht, show inP P q = true from decide_eq_true hq]; simp
        have all : ∀ (k : Nat) (q : Nat), d q < k → (q : Int) < P → des b y q = true → bt v2 q = true := by
          intro k
          induction k with
          | zero => intro q hk; omega
          | succ k ihk =>
            intro q hk hq hd
            refine cl q hq ?_
            have hb2 := (h q hq).2
            rcases (des_s hP.2 h hy hq).mp hd with e1 | ⟨e1, e2⟩
            · unfold tS
              rw [e1, beq_eq_false_iff_ne.mpr (show ¬ y = -1 by omega), beq_iff_eq.mpr (show y = y from rfl)]; rfl
            · have hb3 := hb2.resolve_left e1
              unfold tS
              rw [beq_eq_false_iff_ne.mpr e1, ihk (b q).toNat (by omega) (by omega) e2, Bool.or_true]; rfl
        refine pc_some ⟨rfl, hr, fun k hk => ?_⟩
        show bt v2 k = (inP P k && des b y k)
        cases hbt : bt v2 k with
        | true =>
          obtain ⟨a1, a2⟩ := hs k hk hbt
          rw [a2, show inP P k = true from decide_eq_true a1]; rfl
        | false =>
          cases hp : inP P k with
          | false => rfl
          | true =>
            cases hd : des b y k with
            | false => rfl
            | true =>
              rw [all (d k + 1) k (by omega) (inP_t hp) hd] at hbt
              cases hbt
    · refine lr14 (v3 := v2) hP h0 h48 hb hr (fun v2' hB => ?_) FU (v2 := v2) (v4 := 0) (by decide) hP.1 (b10_w (b10_self hr) (fun k _ => ?_))
      · refine ih hB.1 (fun k hk hbt => ?_) (Or.inr ⟨hr, hB⟩)
        rw [hB.2 k hk, Bool.or_eq_true, Bool.and_eq_true] at hbt
        rcases hbt with e1 | ⟨e1, e2⟩
        · exact hs k hk e1
        · have hkP := inP_t e1
          refine ⟨hkP, (des_s hP.2 h hy hkP).mpr ?_⟩
          unfold tS at e2
          rw [Bool.and_eq_true, Bool.not_eq_true', Bool.or_eq_true] at e2
          rcases e2.2 with e3 | e3
          · exact Or.inl (beq_iff_eq.mp e3)
          · have hn := beq_eq_false_iff_ne.mp e2.1
            have := (hb k hkP).resolve_left hn
            exact Or.inr ⟨hn, (hs (b k).toNat (by omega) e3).2⟩
      · rw [decide_eq_false (show ¬ (k : Int) < 0 by omega)]; simp
theorem ledR_pc {P y : Int} {b : Nat → Int} {d : Nat → Nat} {w : Wd} (hP : 0 ≤ P ∧ P ≤ 10) (h : RK P b d) (hy : 0 ≤ y ∧ y < P) (h0 : w 43 0 = P) (h48 : ∀ j : Nat, (j : Int) < P → w 48 j = b j) : PC (f_R_ledBy y w) (fun r u => u = w ∧ B10 r (fun k => inP P k && des b y k)) := by
  unfold f_R_ledBy
  exact lr4 hP h hy h0 h48 FU (by decide) (fun k _ hb => by rw [bt_0] at hb; cases hb) (Or.inl rfl)
theorem ledE_pc {P y : Int} {b : Nat → Int} {d : Nat → Nat} {w : Wd} (hP : 0 ≤ P ∧ P ≤ 10) (h : RK P b d) (h3 : w 5 3 = P) (h8 : ∀ j : Nat, (j : Int) < P → w 8 j = b j) : PC (f_F_ledBy y w) (fun r u => u = w ∧ B10 r (fun k => inP P k && des b y k)) := by
  unfold f_F_ledBy
  refine lb_pc hP h h3 h8 FU (by decide) hP.1 (b10_w b10_0 (fun k _ => ?_))
  rw [decide_eq_false (show ¬ (k : Int) < 0 by omega)]; rfl
/-! FATHER -/
def fth (c : Nat → Int) : Nat → Int × Int
  | 0 => (-1, 0)
  | n + 1 => if (fth c n).2 < c n then ((n : Int), c n) else fth c n
def cnd (P : Int) (b : Nat → Int) (q : Nat) : Int := ((pn (fun k => inP P k && des b (q : Int) k) 10 : Nat) : Int)
theorem er_father {a w : Wd} (h : ER a w) (hS : Sn (a 43 0) (a 47) (a 48) (a 49) (a 43 8)) : PC (f_E_father w) (fun r _ => PC (f_R_father a) (fun r' _ => r = r')) := by
  have x0 : 0 ≤ a 43 0 ∧ a 43 0 ≤ 10 := h.2.2.1
  have x3 : w 5 3 = a 43 0 := h.1.1.2.1
  have xp : ∀ j : Nat, (j : Int) < a 43 0 → w 6 j = a 44 j ∧ w 7 j = a 45 j ∧ w 8 j = a 48 j := h.1.2.1
  obtain ⟨d, hd⟩ := rk_sn x0 hS
  have nt1 : ∀ (x : Int) (u : Wd), PC (f_N_tell1 x u) (fun _ _ => True) := fun _ _ _ _ _ => trivial
  have pE : ∀ (n : Nat) {v1 v2 v3 : Int}, 0 ≤ v3 → v3 ≤ a 43 0 → v1 = (fth (cnd (a 43 0) (a 48)) v3.toNat).1 → v2 = (fth (cnd (a 43 0) (a 48)) v3.toNat).2 → PC (f_E_father_6 n v1 v2 v3 w) (fun r _ => r = if (fth (cnd (a 43 0) (a 48)) (a 43 0).toNat).1 = -1 then -2 else (fth (cnd (a 43 0) (a 48)) (a 43 0).toNat).1) := by
    intro n
    induction n with
    | zero => intros; exact pc_none
    | succ n ih =>
      intro v1 v2 v3 i0 i1 e1 e2
      rw [f_E_father_6, x3]
      refine pc_ite (fun z => ?_) (fun z => ?_)
      · have e : v3 = a 43 0 := by omega
        rw [e] at e1
        rw [← e1]
        refine pc_ite (fun c => ?_) (fun c => ?_)
        · rw [if_pos c]; exact pc_some rfl
        · rw [if_neg c]
          exact pc_call (nt1 v2 w) (fun _ _ _ => pc_some rfl)
      · refine pc_call (ledE_pc (y := v3) x0 hd x3 (fun j hj => (xp j hj).2.2)) (fun r3 u4 q => ?_)
        rw [q.1, bcs_e q.2, jc_s]
        have ec : ((pn (fun k => inP (a 43 0) k && des (a 48) v3 k) 10 : Nat) : Int) = cnd (a 43 0) (a 48) v3.toNat := by
          unfold cnd
          rw [show ((v3.toNat : Nat) : Int) = v3 by omega]
        rw [ec]
        have ef : fth (cnd (a 43 0) (a 48)) (v3.toNat + 1) = if (fth (cnd (a 43 0) (a 48)) v3.toNat).2 < cnd (a 43 0) (a 48) v3.toNat then (((v3.toNat : Nat) : Int), cnd (a 43 0) (a 48) v3.toNat) else fth (cnd (a 43 0) (a 48)) v3.toNat := rfl
        have e3 : (v3 + 1).toNat = v3.toNat + 1 := by omega
        unfold f_E_father_41
        refine pc_ite (fun c => ?_) (fun c => ?_)
        · refine pc_let (fun x7 e7 => ?_)
          rw [wsucc (P := a 43 0) (by omega) (by omega)] at e7
          rw [if_neg (by omega)] at ef
          rw [e7]
          exact ih (by omega) (by omega) (by rw [e3, ef]; exact e1) (by rw [e3, ef]; exact e2)
        · refine pc_let (fun x7 e7 => ?_)
          rw [wsucc (P := a 43 0) (by omega) (by omega)] at e7
          rw [if_pos (by omega)] at ef
          rw [e7]
          exact ih (by omega) (by omega) (by rw [e3, ef]; show v3 = ((v3.toNat : Nat) : Int); omega) (by rw [e3, ef])
  have pR : ∀ {y : Wd}, y 43 0 = a 43 0 → y 48 = a 48 → ∀ (n : Nat) {v1 v2 v3 : Int}, 0 ≤ v3 → v3 ≤ a 43 0 → v1 = (fth (cnd (a 43 0) (a 48)) v3.toNat).1 → v2 = (fth (cnd (a 43 0) (a 48)) v3.toNat).2 → PC (f_R_father_11 n v1 v2 v3 y) (fun r _ => r = if (fth (cnd (a 43 0) (a 48)) (a 43 0).toNat).1 = -1 then -2 else (fth (cnd (a 43 0) (a 48)) (a 43 0).toNat).1) := by
    intro y y0 y48 n
    induction n with
    | zero => intros; exact pc_none
    | succ n ih =>
      intro v1 v2 v3 i0 i1 e1 e2
      rw [f_R_father_11, y0]
      refine pc_ite (fun z => ?_) (fun z => ?_)
      · have e : v3 = a 43 0 := by omega
        rw [e] at e1
        rw [← e1]
        refine pc_ite (fun c => ?_) (fun c => ?_)
        · rw [if_pos c]; exact pc_some rfl
        · rw [if_neg c]
          refine pc_lw (fun u2 _ => pc_call (rt1 v2 u2) (fun _ _ _ => pc_some rfl))
      · refine pc_call (ledR_pc (y := v3) (b := a 48) x0 hd (by omega) y0 (fun j _ => by rw [y48])) (fun r3 u4 q => ?_)
        rw [q.1, bcs_e q.2, jc_s]
        have ec : ((pn (fun k => inP (a 43 0) k && des (a 48) v3 k) 10 : Nat) : Int) = cnd (a 43 0) (a 48) v3.toNat := by
          unfold cnd
          rw [show ((v3.toNat : Nat) : Int) = v3 by omega]
        rw [ec]
        have ef : fth (cnd (a 43 0) (a 48)) (v3.toNat + 1) = if (fth (cnd (a 43 0) (a 48)) v3.toNat).2 < cnd (a 43 0) (a 48) v3.toNat then (((v3.toNat : Nat) : Int), cnd (a 43 0) (a 48) v3.toNat) else fth (cnd (a 43 0) (a 48)) v3.toNat := rfl
        have e3 : (v3 + 1).toNat = v3.toNat + 1 := by omega
        unfold f_R_father_43
        refine pc_ite (fun c => ?_) (fun c => ?_)
        · refine pc_let (fun x7 e7 => ?_)
          rw [wsucc (P := a 43 0) (by omega) (by omega)] at e7
          rw [if_pos (by omega)] at ef
          rw [e7]
          exact ih (by omega) (by omega) (by rw [e3, ef]; show v3 = ((v3.toNat : Nat) : Int); omega) (by rw [e3, ef])
        · refine pc_let (fun x7 e7 => ?_)
          rw [wsucc (P := a 43 0) (by omega) (by omega)] at e7
          rw [if_neg (by omega)] at ef
          rw [e7]
          exact ih (by omega) (by omega) (by rw [e3, ef]; exact e1) (by rw [e3, ef]; exact e2)
  unfold f_E_father
  refine pc_w (pE FU (v3 := 0) (by decide) x0.1 rfl rfl) (fun r _ q => ?_)
  unfold f_R_father
  refine pc_lw (fun y ey => ?_)
  refine pc_w (pR (y := y) (by rw [ey, st_k (by decide)]) (by rw [ey, st_row (by decide)]) FU (v3 := 0) (by decide) x0.1 rfl rfl) (fun r' _ q' => ?_)
  rw [q, q']
theorem dq_father {w : Wd} (h : LU w) : OK (f_E_father w) (fun r1 u1 => OK (f_R_father u1) (fun r2 u2 => LU u2 ∧ r1 = r2)) :=
  d_er (xR := fun u => f_R_father u) h (d_father h) (pc_w (pc_ok (e_E_father h.1.1)) (fun _ _ q => g_hi q.1 (by decide))) (fun _ ha hs => er_father ha hs)
/-! COMMON -/
theorem er_common {a w : Wd} {v1 v2 : Int} (h : ER a w) (hS : Sn (a 43 0) (a 47) (a 48) (a 49) (a 43 8)) : PC (f_E_common v1 v2 w) (fun r _ => PC (f_R_common v1 v2 a) (fun r' _ => r = r')) := by
  have x0 : 0 ≤ a 43 0 ∧ a 43 0 ≤ 10 := h.2.2.1
  have x3 : w 5 3 = a 43 0 := h.1.1.2.1
  have xp : ∀ j : Nat, (j : Int) < a 43 0 → w 6 j = a 44 j ∧ w 7 j = a 45 j ∧ w 8 j = a 48 j := h.1.2.1
  obtain ⟨d, hrk⟩ := rk_sn x0 hS
  unfold f_E_common f_R_common
  have pE : PC (f_E_areTwo v1 v2 w) (fun r u => u = w ∧ r = if (0 ≤ v1 ∧ v1 < a 43 0) ∧ (0 ≤ v2 ∧ v2 < a 43 0) ∧ v1 ≠ v2 then 1 else 0) := by
    unfold f_E_areTwo
    refine pc_ite (fun c => pc_some ⟨rfl, ?_⟩) (fun c => ?_)
    · rw [if_neg (fun hh => hh.2.2 c)]
    refine pc_call (it_pc v1 w) (fun r1 u2 q => ?_)
    rw [q.1, q.2, x3]
    unfold hd
    by_cases c1 : 0 ≤ v1 ∧ v1 < a 43 0
    · rw [if_pos c1]
      refine pc_ite (fun e => absurd e (by decide)) (fun _ => ?_)
      refine pc_call (it_pc v2 w) (fun r3 u4 q3 => ?_)
      rw [q3.1, q3.2, x3]
      unfold hd
      by_cases c2 : 0 ≤ v2 ∧ v2 < a 43 0
      · rw [if_pos c2]
        refine pc_ite (fun e => absurd e (by decide)) (fun _ => pc_some ⟨rfl, ?_⟩)
        rw [if_pos ⟨c1, c2, c⟩]
      · rw [if_neg c2]
        refine pc_ite (fun _ => pc_some ⟨rfl, ?_⟩) (fun e => absurd rfl e)
        rw [if_neg (fun hh => c2 hh.2.1)]
    · rw [if_neg c1]
      refine pc_ite (fun _ => pc_some ⟨rfl, ?_⟩) (fun e => absurd rfl e)
      rw [if_neg (fun hh => c1 hh.1)]
  have pR : ∀ y : Wd, y 43 0 = a 43 0 → PC (f_R_areTwo v1 v2 y) (fun r u => u = y ∧ r = if (0 ≤ v1 ∧ v1 < a 43 0) ∧ (0 ≤ v2 ∧ v2 < a 43 0) ∧ v1 ≠ v2 then 1 else 0) := fun y y0 => by
    unfold f_R_areTwo
    refine pc_call (io_pc v1 y (by omega)) (fun r1 u2 q => ?_)
    rw [q.1, q.2, y0]
    unfold hd
    by_cases c1 : 0 ≤ v1 ∧ v1 < a 43 0
    · rw [if_pos c1]
      refine pc_ite (fun e => absurd e (by decide)) (fun _ => ?_)
      refine pc_call (io_pc v2 y (by omega)) (fun r3 u4 q3 => ?_)
      rw [q3.1, q3.2, y0]
      unfold hd
      by_cases c2 : 0 ≤ v2 ∧ v2 < a 43 0
      · rw [if_pos c2]
        refine pc_ite (fun e => absurd e (by decide)) (fun _ => ?_)
        refine pc_ite (fun c => pc_some ⟨rfl, ?_⟩) (fun c => pc_some ⟨rfl, ?_⟩)
        · rw [if_neg (fun hh => hh.2.2 c)]
        · rw [if_pos ⟨c1, c2, c⟩]
      · rw [if_neg c2]
        refine pc_ite (fun _ => pc_some ⟨rfl, ?_⟩) (fun e => absurd rfl e)
        rw [if_neg (fun hh => c2 hh.2.1)]
    · rw [if_neg c1]
      refine pc_ite (fun _ => pc_some ⟨rfl, ?_⟩) (fun e => absurd rfl e)
      rw [if_neg (fun hh => c1 hh.1)]
  refine pc_call pE (fun r1 u2 q1 => ?_)
  rw [q1.1, q1.2]
  by_cases cc : (0 ≤ v1 ∧ v1 < a 43 0) ∧ (0 ≤ v2 ∧ v2 < a 43 0) ∧ v1 ≠ v2
  · rw [if_pos cc]
    refine pc_ite (fun e => absurd e (by decide)) (fun _ => ?_)
    have two : ∀ (n m : Nat) {x v4 : Int} {y : Wd}, y 43 0 = a 43 0 → y 48 = a 48 → 0 ≤ v4 → (x = -1 ∨ ((0 ≤ x ∧ x < a 43 0) ∧ v4 + d x.toNat < a 43 0)) → PC (f_E_common_16 n v2 x v4 w) (fun r _ => PC (f_R_common_18 m v2 x y) (fun r' _ => r = r')) := by
      intro n
      induction n with
      | zero => intros; exact pc_none
      | succ n ih =>
        intro m x v4 y y0 y48 i0 hx
        cases m with
        | zero => exact fun _ _ _ => pc_none
        | succ m =>
        rw [f_E_common_16, x3, f_R_common_18]
        refine pc_ite (fun c => pc_some ?_) (fun c => ?_)
        · have e : x = -1 := by
            rcases hx with e | e
            · exact e
            · omega
          rw [if_pos e]; exact pc_some rfl
        refine pc_ite (fun e => pc_some ?_) (fun c1 => ?_)
        · rw [if_pos e]; exact pc_some rfl
        have hx2 := hx.resolve_left c1
        rw [if_neg c1]
        refine pc_call (steps_pc (x := v2) (y := x) x0.2 hrk x3 (fun j hj => (xp j hj).2.2) cc.2.1) (fun r3 u4 q => ?_)
        rw [q.1, q.2]
        have hL := ledR_pc (y := x) (b := a 48) (w := y) x0 hrk hx2.1 y0 (fun j _ => by rw [y48])
        have edes : des (a 48) x v2.toNat = decide (0 < stu (a 48) 11 v2 x) := by
          unfold des
          rw [show ((v2.toNat : Nat) : Int) = v2 by omega]
        have s0 : (v2 = x) → stu (a 48) 11 v2 x = 0 := fun e => by rw [stu, if_neg (show ¬ v2 = -1 by omega), if_pos e]
        have s1 : v2 ≠ x → ¬ stu (a 48) 11 v2 x < 0 → 0 < stu (a 48) 11 v2 x := fun e e2 => by
          rw [stu, if_neg (show ¬ v2 = -1 by omega), if_neg e] at e2 ⊢
          by_cases c5 : stu (a 48) 10 (a 48 v2.toNat) x < 0
          · rw [if_pos c5] at e2; omega
          · rw [if_neg c5]; omega
        have ip2 : inP (a 43 0) v2.toNat = true := decide_eq_true (by omega)
        refine pc_ite (fun c2 => ?_) (fun c2 => ?_)
        · have nx : x ≠ v2 := fun e => by rw [s0 e.symm] at c2; omega
          refine pc_call (bb_pc (v1 := x) (w := w) (by omega)) (fun r5 u6 q5 => ?_)
          rw [q5.1, q5.2, (xp x.toNat (by omega)).2.2]
          refine pc_let (fun x7 e7 => ?_)
          rw [wsucc (P := a 43 0) (by omega) (by omega)] at e7
          rw [e7]
          have hb := (hrk x.toNat (by omega)).2
          refine pc_w (ih m (x := a 48 x.toNat) (v4 := v4 + 1) y0 y48 (by omega) (by
            rcases hb with e | e
            · exact Or.inl e
            · exact Or.inr ⟨e.1, by omega⟩)) (fun r _ q6 => ?_)
          rw [if_neg nx]
          refine pc_call hL (fun r4 u5 q7 => ?_)
          rw [q7.1, hasR_10 y q7.2 (by omega), jc_s, ip2, edes, decide_eq_false (by omega)]
          refine pc_ite (fun _ => ?_) (fun e => absurd rfl e)
          refine pc_gd (fun _ => pc_let (fun x8 e8 => ?_))
          rw [e8, y48]
          exact q6
        · refine pc_some ?_
          by_cases nx : x = v2
          · rw [if_pos nx]; exact pc_some rfl
          · rw [if_neg nx]
            refine pc_call hL (fun r4 u5 q7 => ?_)
            rw [q7.1, hasR_10 y q7.2 (by omega), jc_s, ip2, edes, decide_eq_true (s1 (fun e => nx e.symm) c2)]
            exact pc_ite (fun e => absurd e (by decide)) (fun _ => pc_some rfl)
    intro r u eL
    refine pc_lw (fun y ey => ?_)
    have y0 : y 43 0 = a 43 0 := by rw [ey, st_k (by decide)]
    refine pc_call (pR y y0) (fun r2 u3 q3 => ?_)
    rw [q3.1, q3.2, if_pos cc]
    refine pc_ite (fun e => absurd e (by decide)) (fun _ => ?_)
    have dr := (hrk v1.toNat (by omega)).1
    exact two FU FU y0 (by rw [ey, st_row (by decide)]) (by decide) (Or.inr ⟨cc.1, by omega⟩) r u eL
  · rw [if_neg cc]
    refine pc_ite (fun _ => pc_some (pc_lw (fun y ey => ?_))) (fun e => absurd rfl e)
    refine pc_call (pR y (by rw [ey, st_k (by decide)])) (fun r2 u3 q3 => ?_)
    rw [q3.2, if_neg cc]
    exact pc_ite (fun _ => pc_some rfl) (fun e => absurd rfl e)
theorem dq_common {w : Wd} {v1 v2 : Int} (h : LU w) (i_v1 : ((-2147483648 : Int) ≤ v1 ∧ v1 ≤ 2147483647)) (i_v2 : ((-2147483648 : Int) ≤ v2 ∧ v2 ≤ 2147483647)) : OK (f_E_common v1 v2 w) (fun r1 u1 => OK (f_R_common v1 v2 u1) (fun r2 u2 => LU u2 ∧ r1 = r2)) :=
  d_er (xR := fun u => f_R_common v1 v2 u) h (d_common h i_v1 i_v2) (pc_w (pc_ok (e_E_common h.1.1 i_v1 i_v2)) (fun _ _ q => g_hi q.1 (by decide))) (fun _ ha hs => er_common ha hs)
/-! LED -/
theorem du18 {v1 : Int} {w : Wd} {k4 : Int → Int → Int → Wd → Option (Int × Wd)} {Q : Int → Wd → Prop} (hk : ∀ v2 v3, PC (k4 v1 v2 v3 w) Q) : ∀ (n : Nat) {v2 v3 v4 v5 : Int}, PC (f_R_depthUnder_18 k4 n v1 v2 v3 v4 v5 w) Q := by
  have e45 : ∀ v2 v3 v4 v5, PC (f_R_depthUnder_45 k4 v1 v2 v3 v4 v5 w) Q := fun v2 v3 v4 v5 => by
    unfold f_R_depthUnder_45 f_R_depthUnder_58
    exact pc_ite (fun _ => pc_let (fun _ _ => pc_let (fun _ _ => hk _ _))) (fun _ => pc_let (fun _ _ => hk _ _))
  intro n
  induction n with
  | zero => intros; exact pc_none
  | succ n ih =>
    intro v2 v3 v4 v5
    rw [f_R_depthUnder_18]
    refine pc_ite (fun _ => e45 _ _ _ _) (fun _ => ?_)
    refine pc_ite (fun _ => e45 _ _ _ _) (fun _ => ?_)
    exact pc_gd (fun _ => pc_let (fun _ _ => pc_let (fun _ _ => ih)))
theorem du_pc {v1 : Int} {w : Wd} : PC (f_R_depthUnder v1 w) (fun _ u => u = w) := by
  have : ∀ (n : Nat) {v2 v3 : Int}, PC (f_R_depthUnder_4 n v1 v2 v3 w) (fun _ u => u = w) := by
    intro n
    induction n with
    | zero => intros; exact pc_none
    | succ n ih =>
      intro v2 v3
      rw [f_R_depthUnder_4]
      refine pc_ite (fun _ => pc_some rfl) (fun _ => ?_)
      exact du18 (fun _ _ => ih) FU
  unfold f_R_depthUnder
  exact this FU
theorem er_led {a w : Wd} {v1 : Int} (h : ER a w) (hS : Sn (a 43 0) (a 47) (a 48) (a 49) (a 43 8)) : PC (f_E_led v1 w) (fun r _ => PC (f_R_led v1 a) (fun r' _ => r = r')) := by
  have x0 : 0 ≤ a 43 0 ∧ a 43 0 ≤ 10 := h.2.2.1
  have x3 : w 5 3 = a 43 0 := h.1.1.2.1
  have xp : ∀ j : Nat, (j : Int) < a 43 0 → w 6 j = a 44 j ∧ w 7 j = a 45 j ∧ w 8 j = a 48 j := h.1.2.1
  obtain ⟨d, hrk⟩ := rk_sn x0 hS
  have pE : ∀ (n : Nat) {v2 v3 v4 : Int}, 0 ≤ v4 → v4 ≤ a 43 0 → PC (f_E_led_20 n v1 v2 v3 v4 w) (fun r _ => B10 r (fun k => inP (a 43 0) k && des (a 48) v1 k)) := by
    intro n
    induction n with
    | zero => intros; exact pc_none
    | succ n ih =>
      intro v2 v3 v4 i0 i1
      rw [f_E_led_20, x3]
      refine pc_ite (fun z => ?_) (fun z => ?_)
      · refine pc_call (nt2 v2 v3 w) (fun r3 u4 q => ?_)
        refine pc_call (ledE_pc (y := v1) (w := u4) (b := a 48) x0 hrk (by rw [q 5 (by decide) (by decide)]; exact x3) (fun j hj => by rw [q 8 (by decide) (by decide)]; exact (xp j hj).2.2)) (fun r5 u6 q5 => pc_some q5.2)
      · have nx : ∀ s : Int, PC (f_E_led_51 (f_E_led_20 n) v1 v3 v4 v2 s w) (fun r _ => B10 r (fun k => inP (a 43 0) k && des (a 48) v1 k)) := fun s => by
          unfold f_E_led_51
          refine pc_let (fun x9 _ => ?_)
          refine pc_call (steps_pc (x := v4) (y := v1) x0.2 hrk x3 (fun j hj => (xp j hj).2.2) (by omega)) (fun r10 u11 q => ?_)
          rw [q.1]
          refine pc_let (fun x12 _ => pc_let (fun x13 e13 => ?_))
          rw [wsucc (P := a 43 0) (by omega) (by omega)] at e13
          rw [e13]
          exact ih (by omega) (by omega)
        refine pc_call (bb_pc (v1 := v4) (w := w) (by omega)) (fun r7 u8 q => ?_)
        rw [q.1]
        exact pc_ite (fun _ => nx 1) (fun _ => nx 0)
  have pR : ∀ {y : Wd}, y 43 0 = a 43 0 → y 48 = a 48 → (0 ≤ v1 ∧ v1 < a 43 0) → ∀ (n : Nat) {v2 v3 : Int}, PC (f_R_led_19 n v1 v2 v3 y) (fun r _ => B10 r (fun k => inP (a 43 0) k && des (a 48) v1 k)) := by
    intro y y0 y48 hv n
    induction n with
    | zero => intros; exact pc_none
    | succ n ih =>
      intro v2 v3
      rw [f_R_led_19]
      refine pc_ite (fun z => ?_) (fun z => ?_)
      · refine pc_lw (fun u4 e4 => ?_)
        refine pc_call (rt1 v2 u4) (fun r5 u6 q5 => ?_)
        refine pc_call du_pc (fun r7 u8 q7 => ?_)
        rw [q7]
        refine pc_call (rt1 r7 u6) (fun r9 u10 q9 => ?_)
        have o : ∀ c k, c ≠ 52 → ¬ (c = 43 ∧ (k = 15 ∨ k = 16)) → u10 c k = y c k := fun c k h52 hk => by
          rw [q9 c k h52 hk, q5 c k h52 hk, e4]; unfold st; rw [if_neg (by omega)]
        exact pc_call (ledR_pc (y := v1) (w := u10) (b := a 48) x0 hrk hv (by rw [o 43 0 (by decide) (by decide)]; exact y0) (fun j _ => by rw [o 48 j (by decide) (by omega), y48])) (fun r11 u12 q11 => pc_some q11.2)
      · refine pc_gd (fun _ => ?_)
        unfold f_R_led_43
        exact pc_ite (fun _ => pc_let (fun _ _ => pc_let (fun _ _ => ih))) (fun _ => pc_let (fun _ _ => pc_let (fun _ _ => ih)))
  unfold f_E_led f_R_led
  refine pc_call (it_pc v1 w) (fun r1 u2 q => ?_)
  rw [q.1, q.2, x3]
  unfold hd
  by_cases c1 : 0 ≤ v1 ∧ v1 < a 43 0
  · rw [if_pos c1]
    refine pc_ite (fun e => absurd e (by decide)) (fun _ => ?_)
    refine pc_w (pE FU (by decide) x0.1) (fun r _ q5 => ?_)
    refine pc_lw (fun y ey => ?_)
    have y0 : y 43 0 = a 43 0 := by rw [ey, st_k (by decide)]
    refine pc_call (io_pc v1 y (by omega)) (fun r2 u3 q3 => ?_)
    rw [q3.1, q3.2, y0, show hd (a 43 0) v1 = 1 from if_pos c1]
    refine pc_ite (fun e => absurd e (by decide)) (fun _ => ?_)
    exact pc_w (pR y0 (by rw [ey, st_row (by decide)]) c1 FU) (fun r' _ q6 => b10_eq q5 q6 (fun _ _ => rfl))
  · rw [if_neg c1]
    refine pc_ite (fun _ => pc_some (pc_lw (fun y ey => ?_))) (fun e => absurd rfl e)
    have y0 : y 43 0 = a 43 0 := by rw [ey, st_k (by decide)]
    refine pc_call (io_pc v1 y (by omega)) (fun r2 u3 q3 => ?_)
    rw [q3.2, y0, show hd (a 43 0) v1 = 0 from if_neg c1]
    exact pc_ite (fun _ => pc_some rfl) (fun e => absurd rfl e)
theorem dq_led {w : Wd} {v1 : Int} (h : LU w) (i_v1 : ((-2147483648 : Int) ≤ v1 ∧ v1 ≤ 2147483647)) : OK (f_E_led v1 w) (fun r1 u1 => OK (f_R_led v1 u1) (fun r2 u2 => LU u2 ∧ r1 = r2)) :=
  d_er (xR := fun u => f_R_led v1 u) h (d_led h i_v1) (pc_w (pc_ok (e_E_led h.1.1 i_v1)) (fun _ _ q => g_hi q.1 (by decide))) (fun _ ha hs => er_led ha hs)
/-! LINE -/
theorem pf_pc {x : Int} {w : Wd} (h : 0 ≤ w 3 1 ∧ w 3 1 < 20) : PC (f_N_putFirst x w) (fun _ u => u 3 1 = w 3 1 + 1 ∧ ∀ c, c ≠ 3 → c ≠ 4 → u c = w c) := by
  have l12 : ∀ (n : Nat) {v2 : Int} {y : Wd}, PC (f_N_putFirst_12 n x v2 y) (fun _ u => ∀ c, c ≠ 4 → u c = y c) := by
    intro n
    induction n with
    | zero => intros; exact pc_none
    | succ n ih =>
      intro v2 y
      rw [f_N_putFirst_12]
      refine pc_ite (fun _ => pc_some (fun _ _ => rfl)) (fun _ => ?_)
      refine pc_gd (fun _ => pc_gd (fun _ => pc_lw (fun u4 e4 => pc_gd (fun _ => pc_lw (fun u5 e5 => pc_let (fun x6 _ => ?_))))))
      exact pc_w ih (fun _ u q c hc => by rw [q c hc, e5, st_row hc, e4, st_row hc])
  unfold f_N_putFirst f_N_put
  refine pc_call (P := fun _ u => u 3 1 = w 3 1 + 1 ∧ ∀ c, c ≠ 3 → c ≠ 4 → u c = w c) ?_ (fun r1 u2 q => ?_)
  · refine pc_ite (fun z => by omega) (fun _ => ?_)
    refine pc_gd (fun _ => pc_lw (fun u1 e1 => pc_lw (fun u2 e2 => pc_some ⟨?_, fun c h3 h4 => ?_⟩)))
    · rw [e2, st_eq, e1, st_c (by decide)]; exact w32_id (by omega)
    · rw [e2, st_row h3, e1, st_row h4]
  · refine pc_let (fun x3 _ => ?_)
    exact pc_w (l12 FU) (fun _ u y => ⟨by rw [y 3 (by decide)]; exact q.1, fun c h3 h4 => (y c h4).trans (q.2 c h3 h4)⟩)
theorem rl49 {v1 v2 : Int} : ∀ (n : Nat) {v3 : Int} {w : Wd}, PC (f_R_line_49 n v1 v2 v3 w) (fun r _ => r = v2) := by
  intro n
  induction n with
  | zero => intros; exact pc_none
  | succ n ih =>
    intro v3 w
    rw [f_R_line_49]
    refine pc_ite (fun _ => pc_some rfl) (fun _ => ?_)
    have l59 : ∀ (m : Nat) {v4 v5 : Int}, PC (f_R_line_59 (f_R_line_49 n) m v1 v2 v3 v4 v5 w) (fun r _ => r = v2) := by
      intro m
      induction m with
      | zero => intros; exact pc_none
      | succ m ihm =>
        intro v4 v5
        rw [f_R_line_59]
        refine pc_ite (fun _ => ?_) (fun _ => ?_)
        · exact pc_call (rt1 v4 w) (fun _ _ _ => pc_let (fun _ _ => ih))
        · exact pc_gd (fun _ => pc_let (fun _ _ => pc_let (fun _ _ => ihm)))
    exact l59 FU
theorem er_line {a w : Wd} {v1 : Int} (h : ER a w) (hS : Sn (a 43 0) (a 47) (a 48) (a 49) (a 43 8)) : PC (f_E_line v1 w) (fun r _ => PC (f_R_line v1 a) (fun r' _ => r = r')) := by
  have x0 : 0 ≤ a 43 0 ∧ a 43 0 ≤ 10 := h.2.2.1
  have x3 : w 5 3 = a 43 0 := h.1.1.2.1
  have xp : ∀ j : Nat, (j : Int) < a 43 0 → w 6 j = a 44 j ∧ w 7 j = a 45 j ∧ w 8 j = a 48 j := h.1.2.1
  obtain ⟨d, hrk⟩ := rk_sn x0 hS
  have two : ∀ (n m : Nat) {x v3 : Int} {u y : Wd}, u 5 = w 5 → u 8 = w 8 → u 3 1 = v3 → y 48 = a 48 → 0 ≤ v3 → v3 ≤ 10 → (x = -1 ∨ ((0 ≤ x ∧ x < a 43 0) ∧ v3 + d x.toNat < a 43 0)) → PC (f_E_line_31 n x v3 u) (fun r _ => PC (f_R_line_24 m v1 v3 x y) (fun r' _ => r = r')) := by
    intro n
    induction n with
    | zero => intros; exact pc_none
    | succ n ih =>
      intro m x v3 u y u5 u8 u3 y48 i0 i1 hx
      cases m with
      | zero => exact fun _ _ _ => pc_none
      | succ m =>
      rw [f_E_line_31, u5, x3, f_R_line_24]
      have fin : x = -1 → PC (f_E_line_70 u) (fun r _ => PC (if x = -1 then jlw (st y 43 15 0) fun u5 => f_R_line_49 FU v1 v3 v3 u5 else jlet (w32 (v3 + 1)) fun x11 => jgd ((0 : Int) ≤ x ∧ x < 10) <| jlet (y 48 x.toNat) fun x12 => f_R_line_24 m v1 x11 x12 y) (fun r' _ => r = r')) := fun e => by
        unfold f_E_line_70
        refine pc_some ?_
        rw [if_pos e]
        exact pc_lw (fun _ _ => pc_w (rl49 FU) (fun r' _ q => u3.trans q.symm))
      refine pc_ite (fun c => fin ?_) (fun c => ?_)
      · rcases hx with e | e
        · exact e
        · omega
      refine pc_ite (fun e => fin e) (fun c1 => ?_)
      have hx2 := hx.resolve_left c1
      have dx := (hrk x.toNat (by omega)).1
      refine pc_call (pf_pc (x := x) (w := u) (by omega)) (fun r7 u8' q7 => ?_)
      refine pc_call (bb_pc (v1 := x) (w := u8') (by rw [q7.2 5 (by decide) (by decide), u5]; omega)) (fun r9 u10 q9 => ?_)
      rw [q9.1, q9.2, q7.2 8 (by decide) (by decide), u8, (xp x.toNat (by omega)).2.2]
      refine pc_let (fun x11 e11 => ?_)
      rw [w32_id (show -2147483648 ≤ v3 + 1 ∧ v3 + 1 ≤ 2147483647 by omega)] at e11
      rw [e11]
      have hb := (hrk x.toNat (by omega)).2
      refine pc_w (ih m (x := a 48 x.toNat) (v3 := v3 + 1) (u := u8') (y := y) ((q7.2 5 (by decide) (by decide)).trans u5) ((q7.2 8 (by decide) (by decide)).trans u8) (by rw [q7.1, u3]) y48 (by omega) (by omega) (by
        rcases hb with e | e
        · exact Or.inl e
        · exact Or.inr ⟨e.1, by omega⟩)) (fun r _ q => ?_)
      rw [if_neg c1]
      refine pc_let (fun x12 e12 => pc_gd (fun _ => pc_let (fun x13 e13 => ?_)))
      rw [w32_id (show -2147483648 ≤ v3 + 1 ∧ v3 + 1 ≤ 2147483647 by omega)] at e12
      rw [e12, e13, y48]
      exact q
  unfold f_E_line f_R_line
  refine pc_call (it_pc v1 w) (fun r1 u2 q => ?_)
  rw [q.1, q.2, x3]
  unfold hd
  by_cases c1 : 0 ≤ v1 ∧ v1 < a 43 0
  · rw [if_pos c1]
    refine pc_ite (fun e => absurd e (by decide)) (fun _ => ?_)
    unfold f_N_clear
    refine pc_call (P := fun _ u => u = st w 3 1 0) (pc_lw (fun u1 e1 => pc_some e1)) (fun r3 u4 e4 => ?_)
    have u5 : u4 5 = w 5 := by rw [e4, st_row (by decide)]
    have u8 : u4 8 = w 8 := by rw [e4, st_row (by decide)]
    refine pc_call (bb_pc (v1 := v1) (w := u4) (by rw [u5]; omega)) (fun r5 u6 q5 => ?_)
    rw [q5.1, q5.2, u8, (xp v1.toNat (by omega)).2.2]
    have hb := (hrk v1.toNat (by omega)).2
    have dv := (hrk v1.toNat (by omega)).1
    have hx : a 48 v1.toNat = -1 ∨ ((0 ≤ a 48 v1.toNat ∧ a 48 v1.toNat < a 43 0) ∧ 0 + d (a 48 v1.toNat).toNat < a 43 0) := by
      rcases hb with e | e
      · exact Or.inl e
      · exact Or.inr ⟨e.1, by omega⟩
    intro r u eL
    refine pc_lw (fun y ey => ?_)
    have y0 : y 43 0 = a 43 0 := by rw [ey, st_k (by decide)]
    have y48 : y 48 = a 48 := by rw [ey, st_row (by decide)]
    refine pc_call (io_pc v1 y (by omega)) (fun r2 u3 q3 => ?_)
    rw [q3.1, q3.2, y0, show hd (a 43 0) v1 = 1 from if_pos c1]
    refine pc_ite (fun e => absurd e (by decide)) (fun _ => ?_)
    refine pc_gd (fun _ => pc_let (fun x4 e4' => ?_))
    rw [e4', y48]
    exact two FU FU u5 u8 (by rw [e4, st_eq]) y48 (by decide) (by decide) hx r u eL
  · rw [if_neg c1]
    refine pc_ite (fun _ => pc_some (pc_lw (fun y ey => ?_))) (fun e => absurd rfl e)
    have y0 : y 43 0 = a 43 0 := by rw [ey, st_k (by decide)]
    refine pc_call (io_pc v1 y (by omega)) (fun r2 u3 q3 => ?_)
    rw [q3.2, y0, show hd (a 43 0) v1 = 0 from if_neg c1]
    exact pc_ite (fun _ => pc_some rfl) (fun e => absurd rfl e)
theorem dq_line {w : Wd} {v1 : Int} (h : LU w) (i_v1 : ((-2147483648 : Int) ≤ v1 ∧ v1 ≤ 2147483647)) : OK (f_E_line v1 w) (fun r1 u1 => OK (f_R_line v1 u1) (fun r2 u2 => LU u2 ∧ r1 = r2)) :=
  d_er (xR := fun u => f_R_line v1 u) h (d_line h i_v1) (pc_w (pc_ok (e_E_line h.1.1 i_v1)) (fun _ _ q => g_hi q.1 (by decide))) (fun _ ha hs => er_line ha hs)
/-! OF -/
def ofs (w : Wd) (v1 v2 : Int) : Int := if (0 ≤ v1 ∧ v1 < w 43 0) ∧ (0 ≤ v2 ∧ v2 ≤ 6) then (if v2 = 0 then w 44 v1.toNat else if v2 = 1 then w 45 v1.toNat else if v2 = 2 then (if w 46 v1.toNat = 0 then 0 else 1) else if v2 = 3 then (if w 47 v1.toNat = 0 then 0 else if w 47 v1.toNat = 4 then 2 else 1) else if v2 = 4 then (if gst (w 47 v1.toNat) = true then w 47 v1.toNat - 1 else -1) else if v2 = 5 then w 48 v1.toNat else w 49 v1.toNat) else THR
theorem fw_pc {v1 wk : Int} {w : Wd} (hw : w 15 3 = wk) (h0 : 0 ≤ wk ∧ wk ≤ 60) (hv : 0 ≤ v1 ∧ v1 < 10) : ∀ (n : Nat) {v2 : Int}, 0 ≤ v2 → v2 ≤ wk + 1 → (∀ t : Nat, (t : Int) < v2 → bt (w 16 t) v1.toNat = false) → PC (f_D_firstWeekOf_2 n v1 v2 w) (fun r u => u = w ∧ r = fw (w 16) v1.toNat (wk + 1).toNat) := by
  intro n
  induction n with
  | zero => intros; exact pc_none
  | succ n ih =>
    intro v2 i0 i1 hn
    rw [f_D_firstWeekOf_2, hw]
    refine pc_ite (fun c => pc_some ⟨rfl, ?_⟩) (fun c => ?_)
    · exact (fw_no (fun t ht => hn t (by omega))).symm
    · refine pc_call (gb_pc (v1 := v2) (w := w) (by omega)) (fun r1 u2 q => ?_)
      rw [q.1, q.2, hasE_e w hv, jc_s]
      cases hb : bt (w 16 v2.toNat) v1.toNat with
      | true =>
        refine pc_ite (fun e => absurd e (by decide)) (fun _ => pc_some ⟨rfl, ?_⟩)
        have := fw_at (f := w 16) (j := v1.toNat) (n := v2.toNat) hb (fun t ht => hn t (by omega)) (m := (wk + 1).toNat) (by omega)
        omega
      | false =>
        refine pc_ite (fun _ => ?_) (fun e => absurd rfl e)
        refine pc_let (fun x e => ?_)
        rw [w32_id (by omega)] at e
        rw [e]
        refine ih (by omega) (by omega) (fun t ht => ?_)
        by_cases c2 : (t : Int) = v2
        · rw [show t = v2.toNat by omega]; exact hb
        · exact hn t (by omega)
theorem ofE_pc {w : Wd} {v1 v2 : Int} (hP : 0 ≤ w 43 0 ∧ w 43 0 ≤ 10) (hF : FC w) (h8 : 0 ≤ w 43 8 ∧ w 43 8 ≤ 60) : PC (f_E_of v1 v2 w) (fun r u => u = w ∧ r = ofs w v1 v2) := by
  obtain ⟨fCO, fPP, fHB, fWH, fN, f16, fSN, _⟩ := hF
  have x3 : w 5 3 = w 43 0 := fCO.2.1
  unfold f_E_of ofs
  refine pc_call (it_pc v1 w) (fun r1 u2 q => ?_)
  rw [q.1, q.2, x3]
  unfold hd
  by_cases c1 : 0 ≤ v1 ∧ v1 < w 43 0
  · rw [if_pos c1]
    refine pc_ite (fun e => absurd e (by decide)) (fun _ => ?_)
    by_cases c2 : 0 ≤ v2 ∧ v2 ≤ 6
    · have pp := fPP v1.toNat (by omega)
      have ip : inP (w 43 0) v1.toNat = true := decide_eq_true (by omega)
      have sr4 := fWH.2.2 v1.toNat (by omega)
      refine pc_ite (fun e => by omega) (fun _ => ?_)
      rw [if_pos (show (0 ≤ v1 ∧ v1 < w 43 0) ∧ (0 ≤ v2 ∧ v2 ≤ 6) from ⟨c1, c2⟩)]
      refine pc_ite (fun e => ?_) (fun e0 => ?_)
      · rw [if_pos e]; exact pc_gd (fun _ => pc_some ⟨rfl, pp.1⟩)
      rw [if_neg e0]
      refine pc_ite (fun e => ?_) (fun e1 => ?_)
      · rw [if_pos e]; exact pc_gd (fun _ => pc_some ⟨rfl, pp.2.1⟩)
      rw [if_neg e1]
      refine pc_ite (fun e => ?_) (fun e2 => ?_)
      · rw [if_pos e, has_10 w fHB (by omega), jc_s]
        unfold hB
        rw [ip]
        by_cases z : w 46 v1.toNat = 0
        · rw [if_pos z, z]
          exact pc_ite (fun _ => pc_some ⟨rfl, rfl⟩) (fun e => absurd rfl e)
        · rw [if_neg z, beq_eq_false_iff_ne.mpr z]
          exact pc_ite (fun e => absurd e (by decide)) (fun _ => pc_some ⟨rfl, rfl⟩)
      rw [if_neg e2]
      refine pc_ite (fun e => ?_) (fun e3 => ?_)
      · rw [if_pos e]
        refine pc_call (es_e fWH hP x3) (fun r5 u6 q5 => ?_)
        rw [q5.1, has_10 w q5.2 (by omega), jc_s]
        unfold sr
        rw [ip]
        by_cases z : w 47 v1.toNat = 0
        · rw [if_pos z, z]
          exact pc_ite (fun e => absurd e (by decide)) (fun _ => pc_some ⟨rfl, rfl⟩)
        · rw [if_neg z, beq_eq_false_iff_ne.mpr z]
          refine pc_ite (fun _ => ?_) (fun e => absurd rfl e)
          refine pc_call (eg_e fWH) (fun r9 u10 q9 => ?_)
          rw [q9.1, has_10 w q9.2 (by omega), jc_s]
          unfold gs
          rw [ip]
          by_cases z4 : w 47 v1.toNat = 4
          · rw [if_pos z4, z4]
            exact pc_ite (fun _ => pc_some ⟨rfl, rfl⟩) (fun e => absurd rfl e)
          · rw [if_neg z4, show gst (w 47 v1.toNat) = true from decide_eq_true (by omega)]
            exact pc_ite (fun e => absurd e (by decide)) (fun _ => pc_some ⟨rfl, rfl⟩)
      rw [if_neg e3]
      refine pc_ite (fun e => ?_) (fun e4 => ?_)
      · rw [if_pos e, late_e fWH w, jc_s]
        refine pc_some ⟨rfl, ?_⟩
        unfold gs
        rw [ip]
        by_cases z : gst (w 47 v1.toNat) = true
        · rw [if_pos z, if_pos ⟨by omega, by omega, by rw [z]; rfl⟩]
        · rw [if_neg z, if_neg (fun hh => z (by simpa using hh.2.2))]
      rw [if_neg e4]
      refine pc_ite (fun e => ?_) (fun e5 => ?_)
      · rw [if_pos e]; exact pc_gd (fun _ => pc_some ⟨rfl, pp.2.2⟩)
      rw [if_neg e5]
      refine pc_ite (fun _ => ?_) (fun e6 => by omega)
      unfold f_D_firstWeekOf
      refine pc_call (fw_pc (v1 := v1) (w := w) fN.2.1 h8 (by omega) FU (v2 := 0) (by decide) (by omega) (fun t ht => by omega)) (fun r15 u16 q15 => pc_some ⟨q15.1, ?_⟩)
      rw [q15.2, fSN.2.1 v1.toNat (by omega)]
      exact fw_eq (fun t ht => f16 t (by omega))
    · refine pc_ite (fun _ => pc_some ⟨rfl, ?_⟩) (fun e => by omega)
      rw [if_neg (fun hh => c2 hh.2)]
  · rw [if_neg c1]
    refine pc_ite (fun _ => pc_some ⟨rfl, ?_⟩) (fun e => absurd rfl e)
    rw [if_neg (fun hh => c1 hh.1)]
theorem ofR_pc {w : Wd} {v1 v2 : Int} (hP : 0 ≤ w 43 0 ∧ w 43 0 ≤ 10) : PC (f_R_of v1 v2 w) (fun r u => (ofs w v1 v2 = THR ∧ u 43 16 = 1) ∨ (((0 ≤ v1 ∧ v1 < w 43 0) ∧ (0 ≤ v2 ∧ v2 ≤ 6)) ∧ r = ofs w v1 v2 ∧ u 43 16 = 0)) := by
  unfold f_R_of
  refine pc_lw (fun y ey => ?_)
  have y0 : y 43 0 = w 43 0 := by rw [ey, st_k (by decide)]
  have y16 : y 43 16 = 0 := by rw [ey, st_eq]
  have yr : ∀ c, c ≠ 43 → y c = w c := fun c hc => by rw [ey, st_row hc]
  have los : PC (f_R_of_23 y) (fun r u => u 43 16 = 1) := by
    unfold f_R_of_23 f_R_lost
    refine pc_call (P := fun _ u => u 43 16 = 1) (pc_lw (fun u1 e1 => pc_some (by rw [e1, st_eq]))) (fun r u q => pc_some q)
  refine pc_call (io_pc v1 y (by omega)) (fun r2 u3 q3 => ?_)
  rw [q3.1, q3.2, y0]
  unfold hd ofs
  by_cases c1 : 0 ≤ v1 ∧ v1 < w 43 0
  · rw [if_pos c1]
    refine pc_ite (fun e => absurd e (by decide)) (fun _ => ?_)
    rw [in_e, jc_s]
    by_cases c2 : 0 ≤ v2 ∧ v2 ≤ 6
    · have cc : (0 ≤ v1 ∧ v1 < w 43 0) ∧ (0 ≤ v2 ∧ v2 ≤ 6) := ⟨c1, c2⟩
      rw [if_pos c2, if_pos cc]
      refine pc_ite (fun e => absurd e (by decide)) (fun _ => ?_)
      refine pc_ite (fun e => ?_) (fun e6 => ?_)
      · rw [if_neg (show ¬ v2 = 0 by omega), if_neg (show ¬ v2 = 1 by omega), if_neg (show ¬ v2 = 2 by omega), if_neg (show ¬ v2 = 3 by omega), if_neg (show ¬ v2 = 4 by omega), if_neg (show ¬ v2 = 5 by omega)]
        exact pc_gd (fun _ => pc_some (Or.inr ⟨cc, by rw [yr 49 (by decide)], y16⟩))
      refine pc_ite (fun e => ?_) (fun e0 => ?_)
      · rw [if_pos e]; exact pc_gd (fun _ => pc_some (Or.inr ⟨cc, by rw [yr 44 (by decide)], y16⟩))
      rw [if_neg e0]
      refine pc_ite (fun e => ?_) (fun e1 => ?_)
      · rw [if_pos e]; exact pc_gd (fun _ => pc_some (Or.inr ⟨cc, by rw [yr 45 (by decide)], y16⟩))
      rw [if_neg e1]
      refine pc_ite (fun e => ?_) (fun e2 => ?_)
      · rw [if_pos e, yr 46 (by decide)]
        refine pc_gd (fun _ => pc_ite (fun z => pc_some (Or.inr ⟨cc, ?_, y16⟩)) (fun z => pc_some (Or.inr ⟨cc, ?_, y16⟩)))
        · rw [if_pos z]
        · rw [if_neg z]
      rw [if_neg e2]
      refine pc_ite (fun e => ?_) (fun e3 => ?_)
      · rw [if_pos e, yr 47 (by decide)]
        refine pc_gd (fun _ => pc_ite (fun z => pc_some (Or.inr ⟨cc, ?_, y16⟩)) (fun z => pc_gd (fun _ => pc_ite (fun z4 => pc_some (Or.inr ⟨cc, ?_, y16⟩)) (fun z4 => pc_some (Or.inr ⟨cc, ?_, y16⟩)))))
        · rw [if_pos z]
        · rw [if_neg z, if_pos z4]
        · rw [if_neg z, if_neg z4]
      rw [if_neg e3]
      refine pc_ite (fun e => ?_) (fun e4 => ?_)
      · rw [if_pos e, yr 47 (by decide)]
        refine pc_gd (fun i10 => ?_)
        rw [isG_e, jc_s]
        cases z : gst (w 47 v1.toNat) with
        | false =>
          refine pc_ite (fun _ => pc_some (Or.inr ⟨cc, ?_, y16⟩)) (fun e => absurd rfl e)
          rw [if_neg (by decide)]
        | true =>
          refine pc_ite (fun e => absurd e (by decide)) (fun _ => pc_gd (fun _ => pc_some (Or.inr ⟨cc, ?_, y16⟩)))
          have z2 : 1 ≤ w 47 v1.toNat ∧ w 47 v1.toNat < 4 := of_decide_eq_true z
          rw [if_pos rfl, yr 47 (by decide), w32_id (by omega)]
      rw [if_neg e4]
      refine pc_ite (fun e => ?_) (fun e5 => by omega)
      rw [if_pos e]; exact pc_gd (fun _ => pc_some (Or.inr ⟨cc, by rw [yr 48 (by decide)], y16⟩))
    · rw [if_neg c2, if_neg (fun hh : (0 ≤ v1 ∧ v1 < w 43 0) ∧ (0 ≤ v2 ∧ v2 ≤ 6) => c2 hh.2)]
      refine pc_ite (fun _ => pc_w los (fun r u q => Or.inl ⟨rfl, q⟩)) (fun e => absurd rfl e)
  · rw [if_neg c1, if_neg (fun hh : (0 ≤ v1 ∧ v1 < w 43 0) ∧ (0 ≤ v2 ∧ v2 ≤ 6) => c1 hh.1)]
    refine pc_ite (fun _ => pc_w los (fun r u q => Or.inl ⟨rfl, q⟩)) (fun e => absurd rfl e)
theorem ofs_rg {w : Wd} {v1 v2 : Int} (hG : G [] w w) (c : (0 ≤ v1 ∧ v1 < w 43 0) ∧ (0 ≤ v2 ∧ v2 ≤ 6)) : ofs w v1 v2 ≠ THR := by
  have a44 : (0 : Int) ≤ w 44 v1.toNat ∧ w 44 v1.toNat ≤ 9 := hG.1 44 v1.toNat
  have a45 : (0 : Int) ≤ w 45 v1.toNat ∧ w 45 v1.toNat ≤ 1023 := hG.1 45 v1.toNat
  have a47 : (-2147483648 : Int) ≤ w 47 v1.toNat ∧ w 47 v1.toNat ≤ 2147483647 := hG.1 47 v1.toNat
  have a48 : (-1 : Int) ≤ w 48 v1.toNat ∧ w 48 v1.toNat ≤ 9 := hG.1 48 v1.toNat
  have a49 : (-2147483648 : Int) ≤ w 49 v1.toNat ∧ w 49 v1.toNat ≤ 2147483647 := hG.1 49 v1.toNat
  have et : THR = 4294967296 := rfl
  rw [et]
  unfold ofs
  rw [if_pos c]
  split
  · omega
  split
  · omega
  split
  · split <;> decide
  split
  · split
    · decide
    · split <;> decide
  split
  · split
    · omega
    · decide
  split <;> omega
theorem dq_of {w : Wd} {v1 v2 : Int} (h : LU w) (i_v1 : ((-2147483648 : Int) ≤ v1 ∧ v1 ≤ 2147483647)) (i_v2 : ((-2147483648 : Int) ≤ v2 ∧ v2 ≤ 2147483647)) : OK (f_A_of v1 v2 w) (fun r1 u1 => OK (f_R_of v1 v2 u1) (fun r2 u2 => LU u2 ∧ u2 43 16 = r1 ∧ (r1 = 0 ∨ r1 = 1) ∧ (r1 = 0 → u2 82 0 = r2))) := by
  have hP : 0 ≤ w 43 0 ∧ w 43 0 ≤ 10 := h.1.1.1.1 43 0
  have h8 : 0 ≤ w 43 8 ∧ w 43 8 ≤ 60 := h.1.1.1.1 43 8
  have hE := ofE_pc (w := w) (v1 := v1) (v2 := v2) hP h.1.2 h8
  have hA : PC (f_A_of v1 v2 w) (fun k u => (∀ c, c ≠ 82 → u c = w c) ∧ ((ofs w v1 v2 = THR ∧ k = 1) ∨ (ofs w v1 v2 ≠ THR ∧ k = 0 ∧ u 82 0 = ofs w v1 v2))) := by
    unfold f_A_of
    refine pc_call hE (fun r w1 q => ?_)
    rw [q.1, q.2]
    refine pc_ite (fun e => pc_some ⟨fun _ _ => rfl, Or.inl ⟨e, rfl⟩⟩) (fun e => ?_)
    refine pc_gd (fun _ => pc_lw (fun w2 e2 => pc_some ⟨fun c hc => by rw [e2, st_row hc], Or.inr ⟨e, rfl, ?_⟩⟩))
    rw [e2]; exact st_eq _ _ _ _
  refine ok_w (ok_pc (d_of h i_v1 i_v2) (pc_and (pc_ok (e_A_of h.1.1 i_v1 i_v2)) hA)) (fun k u1 q => ?_)
  obtain ⟨q1, q2, q3, q4⟩ := q
  have u0 : u1 43 0 = w 43 0 := by rw [q3 43 (by decide)]
  have os : ofs u1 v1 v2 = ofs w v1 v2 := by
    unfold ofs
    rw [q3 43 (by decide), q3 44 (by decide), q3 45 (by decide), q3 46 (by decide), q3 47 (by decide), q3 48 (by decide), q3 49 (by decide)]
  refine ok_w (ok_pc q1 (pc_and (ofR_pc (w := u1) (v1 := v1) (v2 := v2) (by omega)) (pc_ok (e_R_of q2.1 i_v1 i_v2)))) (fun b u2 p => ?_)
  obtain ⟨p1, p2, p3⟩ := p
  have p82 : u2 82 0 = u1 82 0 := p3.1.2.1 82 0 rfl
  rw [os, u0] at p2
  rcases p2 with ⟨p2, p4⟩ | ⟨p2, p4, p5⟩
  · rcases q4 with ⟨_, e⟩ | ⟨e, _⟩
    · exact ⟨p1.1, by rw [p4, e], Or.inr e, fun z => by rw [e] at z; cases z⟩
    · exact absurd p2 e
  · have := ofs_rg h.1.1.1 p2
    rcases q4 with ⟨e, _⟩ | ⟨_, e, e2⟩
    · exact absurd e this
    · exact ⟨p1.1, by rw [p5, e], Or.inl e, fun _ => by rw [p82, e2, p4]⟩
/-! BOUND -/
theorem kbn_t {kn : Nat → Int} {f : Nat → Bool} {q : Nat} : ∀ {n : Nat}, kbn kn f n q = true ↔ ∃ i, i < n ∧ f i = true ∧ bt (kn i) q = true := by
  intro n
  induction n with
  | zero => exact ⟨(fun h => by cases h), (fun h => by obtain ⟨i, hi, _⟩ := h; omega)⟩
  | succ n ih =>
    rw [kbn, Bool.or_eq_true, Bool.and_eq_true, ih]
    constructor
    · rintro (⟨i, hi, e⟩ | e)
      · exact ⟨i, by omega, e⟩
      · exact ⟨n, by omega, e⟩
    · rintro ⟨i, hi, e⟩
      by_cases c : i = n
      · rw [c] at e; exact Or.inr e
      · exact Or.inl ⟨i, by omega, e⟩
theorem pn_mono {f g : Nat → Bool} : ∀ {n : Nat}, (∀ k, k < n → f k = true → g k = true) → pn f n ≤ pn g n := by
  intro n
  induction n with
  | zero => intro _; exact Nat.le_refl _
  | succ n ih =>
    intro h
    have h1 := ih (fun k hk => h k (by omega))
    have h2 := h n (by omega)
    rw [pn, pn]
    cases hf : f n with
    | false => simp; omega
    | true => rw [h2 hf]; simp; omega
theorem pn_lt {f g : Nat → Bool} : ∀ {n : Nat}, (∀ k, k < n → f k = true → g k = true) → (∃ k, k < n ∧ f k = false ∧ g k = true) → pn f n + 1 ≤ pn g n := by
  intro n
  induction n with
  | zero => intro _ h; obtain ⟨k, hk, _⟩ := h; omega
  | succ n ih =>
    intro h he
    obtain ⟨k, hk, e1, e2⟩ := he
    rw [pn, pn]
    have h2 := h n (by omega)
    by_cases c : k = n
    · rw [c] at e1 e2
      have h1 := pn_mono (n := n) (fun k hk => h k (by omega))
      rw [e1, e2]; simp; omega
    · have h1 := ih (fun k hk => h k (by omega)) ⟨k, by omega, e1, e2⟩
      cases hf : f n with
      | false => simp; omega
      | true => rw [h2 hf]; simp; omega
theorem pn_pos {f : Nat → Bool} {n k : Nat} (hk : k < n) (h : f k = true) : 1 ≤ pn f n := by
  have h0 : pn (fun _ => false) n = 0 := pn_0 (fun _ _ => rfl)
  have := pn_lt (f := fun _ => false) (g := f) (n := n) (fun k _ e => by cases e) ⟨k, hk, rfl, h⟩
  omega
/-- who hangs together -/
def tgr (kn : Nat → Int) (F g : Nat → Bool) (n : Nat) : Nat → Nat → Bool
  | 0, q => g q
  | k + 1, q => tgr kn F g n k q || (kbn kn (tgr kn F g n k) n q && F q)
theorem tgr_st {kn : Nat → Int} {F g : Nat → Bool} {n : Nat} (hn : n ≤ 10) (hg : ∃ q, q < 10 ∧ g q = true) : ∀ q, q < 10 → tgr kn F g n 11 q = tgr kn F g n 10 q := by
  have key : ∀ k, (∀ q, q < 10 → tgr kn F g n (k + 1) q = tgr kn F g n k q) ∨ k + 1 ≤ pn (tgr kn F g n k) 10 := by
    intro k
    induction k with
    | zero =>
      obtain ⟨q, hq, e⟩ := hg
      exact Or.inr (pn_pos hq (f := tgr kn F g n 0) e)
    | succ k ih =>
      by_cases c : ∀ q, q < 10 → tgr kn F g n (k + 1) q = tgr kn F g n k q
      · refine Or.inl (fun q hq => ?_)
        rw [tgr]
        have e : kbn kn (tgr kn F g n (k + 1)) n q = kbn kn (tgr kn F g n k) n q := kbn_eq (fun j hj => ⟨c j (by omega), rfl⟩)
        rw [e, c q hq]
        have := c q hq
        rw [tgr] at this
        exact this
      · have h1 := ih.resolve_left c
        refine Or.inr ?_
        have : ∃ q, q < 10 ∧ tgr kn F g n k q = false ∧ tgr kn F g n (k + 1) q = true := by
          refine Classical.byContradiction fun hn2 => c (fun q hq => ?_)
          cases h2 : tgr kn F g n k q with
          | true => rw [tgr, h2]; rfl
          | false =>
            cases h3 : tgr kn F g n (k + 1) q with
            | false => rfl
            | true => exact absurd ⟨q, hq, h2, h3⟩ hn2
        have := pn_lt (f := tgr kn F g n k) (g := tgr kn F g n (k + 1)) (n := 10) (fun q hq e => by rw [tgr, e]; rfl) this
        omega
  rcases key 10 with h | h
  · exact h
  · have := pn_le (tgr kn F g n 10) 10
    omega
/-- the least LATE, not above z -/
def mlt (P : Int) (s : Nat → Int) (z : Int) : Nat → Int
  | 0 => z
  | n + 1 => if gs P s n = true then imin (mlt P s z n) (s n - 1) else mlt P s z n
theorem mlt_e {P : Int} {s : Nat → Int} : ∀ n : Nat, ((∀ k, k < n → gs P s k = false) ∧ (∀ z, mlt P s z n = z)) ∨ (mlt P s 3 n = mlt P s 1000000 n ∧ (∃ k, k < n ∧ gs P s k = true) ∧ 0 ≤ mlt P s 3 n ∧ mlt P s 3 n ≤ 2) := by
  intro n
  induction n with
  | zero => exact Or.inl ⟨fun k hk => by omega, fun _ => rfl⟩
  | succ n ih =>
    cases hg : gs P s n with
    | false =>
      have e : ∀ z, mlt P s z (n + 1) = mlt P s z n := fun z => by rw [mlt, if_neg (by rw [hg]; decide)]
      rcases ih with ⟨h1, h2⟩ | ⟨h1, ⟨k, hk, h2⟩, h3⟩
      · refine Or.inl ⟨fun k hk => ?_, fun z => (e z).trans (h2 z)⟩
        by_cases c : k = n
        · rw [c]; exact hg
        · exact h1 k (by omega)
      · refine Or.inr ⟨by rw [e, e]; exact h1, ⟨k, by omega, h2⟩, by rw [e]; exact h3⟩
    | true =>
      have e : ∀ z, mlt P s z (n + 1) = imin (mlt P s z n) (s n - 1) := fun z => by rw [mlt, if_pos hg]
      have hs : 1 ≤ s n ∧ s n < 4 := by
        unfold gs at hg
        rw [Bool.and_eq_true] at hg
        exact of_decide_eq_true hg.2
      have m3 := imin_sp (mlt P s 3 n) (s n - 1)
      have m6 := imin_sp (mlt P s 1000000 n) (s n - 1)
      refine Or.inr ⟨?_, ⟨n, by omega, hg⟩, ?_⟩
      · rw [e, e]
        rcases ih with ⟨h1, h2⟩ | ⟨h1, _, h3⟩
        · have a := h2 3; have b := h2 1000000; omega
        · omega
      · rw [e]
        rcases ih with ⟨h1, h2⟩ | ⟨h1, _, h3⟩
        · have a := h2 3; omega
        · omega
def bnd (g c m : Int) : Int := w32 (w32 (w32 (g * c) + imax 1 (w32 (g - m))) - 1)
theorem bE55 {P v1 v2 : Int} {s : Nat → Int} {f : Nat → Bool} {w : Wd} (hP : 0 ≤ P ∧ P ≤ 10) (h3 : w 5 3 = P) (hW : WH (w 5 4) s P) (hv1 : B10 v1 (gs P s)) (hf : B10 (iand v2 (ixor v1 (-1))) f) : ∀ (n : Nat) {v3 v4 : Int}, 0 ≤ v4 → v4 ≤ P → v3 = mlt P s 3 v4.toNat → PC (f_E_bound_55 n v1 v2 v3 v4 w) (fun r _ => r = bnd (w 5 7) ((pn f 10 : Nat) : Int) (mlt P s 3 P.toNat)) := by
  intro n
  induction n with
  | zero => intros; exact pc_none
  | succ n ih =>
    intro v3 v4 i0 i1 e3
    rw [f_E_bound_55, h3]
    have nx : ∀ x, x = mlt P s 3 (v4.toNat + 1) → v4 < P → PC (f_E_bound_93 (f_E_bound_55 n) v1 v2 x v4 w) (fun r _ => r = bnd (w 5 7) ((pn f 10 : Nat) : Int) (mlt P s 3 P.toNat)) := fun x ex hlt => by
      unfold f_E_bound_93
      refine pc_let (fun x7 e7 => ?_)
      rw [w32_id (by omega)] at e7
      rw [e7]
      exact ih (by omega) (by omega) (by rw [ex, show (v4 + 1).toNat = v4.toNat + 1 by omega])
    refine pc_ite (fun c => ?_) (fun c => ?_)
    · have e : v4 = P := by omega
      rw [bcs_e hf, jc_s]
      refine pc_some ?_
      rw [e3, e]; rfl
    · rw [has_10 w hv1 (by omega), jc_s]
      cases hg : gs P s v4.toNat with
      | false =>
        refine pc_ite (fun _ => nx v3 ?_ (by omega)) (fun e => absurd rfl e)
        rw [mlt, hg, e3]; rfl
      | true =>
        refine pc_ite (fun e => absurd e (by decide)) (fun _ => ?_)
        rw [late_e hW w, jc_s, if_pos ⟨by omega, by omega, hg⟩]
        refine pc_let (fun x ex => nx x ?_ (by omega))
        rw [mlt, hg, ex, e3]; rfl
theorem bE19 {P v1 : Int} {s h kn : Nat → Int} {w : Wd} (hP : 0 ≤ P ∧ P ≤ 10) (h3 : w 5 3 = P) (hW : WH (w 5 4) s P) (h5 : B10 (w 5 5) (hB P h)) (h7 : ∀ j : Nat, (j : Int) < P → w 7 j = kn j ∧ (0 : Int) ≤ kn j ∧ kn j ≤ 1023) (hv1 : B10 v1 (gs P s)) : ∀ (n : Nat) {v2 v3 : Int}, 0 ≤ v3 → v3 ≤ 10 → B10 v2 (tgr kn (fre P s h) (gs P s) P.toNat v3.toNat) → PC (f_E_bound_19 n v1 v2 v3 w) (fun r _ => r = bnd (w 5 7) ((pn (fun k => tgr kn (fre P s h) (gs P s) P.toNat 10 k && !gs P s k) 10 : Nat) : Int) (mlt P s 3 P.toNat)) := by
  intro n
  induction n with
  | zero => intros; exact pc_none
  | succ n ih =>
    intro v2 v3 i0 i1 hB
    rw [f_E_bound_19]
    refine pc_ite (fun c => ?_) (fun c => ?_)
    · rw [show v3.toNat = 10 by omega] at hB
      exact bE55 hP h3 hW hv1 (b10_andn hB hv1.2) FU (by decide) hP.1 rfl
    · refine pc_call (knb_e (w := w) (by omega) hB.2 (fun j hj => by have := h7 j (by omega); omega)) (fun r11 u12 q => ?_)
      rw [q.1]
      refine pc_call (ef_e hW hP h3 h5) (fun r13 u14 q2 => ?_)
      rw [q2.1]
      refine pc_let (fun x15 e15 => pc_let (fun x16 e16 => ?_))
      rw [w32_id (by omega)] at e16
      rw [e16]
      refine ih (by omega) (by omega) ?_
      rw [show (v3 + 1).toNat = v3.toNat + 1 by omega, e15]
      refine b10_w (b10_or hB (b10_and q.2 q2.2.2)) (fun k hk => ?_)
      rw [tgr]
      have e : kbn (w 7) (tgr kn (fre P s h) (gs P s) P.toNat v3.toNat) (w 5 3).toNat k = kbn kn (tgr kn (fre P s h) (gs P s) P.toNat v3.toNat) P.toNat k := by
        rw [h3]
        exact kbn_eq (fun j hj => ⟨rfl, (h7 j (by omega)).1⟩)
      rw [e]
theorem bR86 {P v2 : Int} {s : Nat → Int} {f : Nat → Bool} {w : Wd} (hP : 0 ≤ P ∧ P ≤ 10) (h0 : w 43 0 = P) (h47 : w 47 = s) (hf : B10 v2 f) (hs : ∀ j : Nat, (j : Int) < P → 0 ≤ s j ∧ s j ≤ 4) : ∀ (n : Nat) {v4 v5 : Int}, 0 ≤ v5 → v5 ≤ P → v4 = mlt P s 1000000 v5.toNat → PC (f_R_bound_86 n v2 v4 v5 w) (fun r _ => r = bnd (w 43 10) ((pn f 10 : Nat) : Int) (mlt P s 1000000 P.toNat)) := by
  intro n
  induction n with
  | zero => intros; exact pc_none
  | succ n ih =>
    intro v4 v5 i0 i1 e4
    rw [f_R_bound_86, h0]
    have nx : ∀ x, x = mlt P s 1000000 (v5.toNat + 1) → v5 < P → PC (f_R_bound_124 (f_R_bound_86 n) v2 x v5 w) (fun r _ => r = bnd (w 43 10) ((pn f 10 : Nat) : Int) (mlt P s 1000000 P.toNat)) := fun x ex hlt => by
      unfold f_R_bound_124
      refine pc_let (fun x7 e7 => ?_)
      rw [w32_id (by omega)] at e7
      rw [e7]
      exact ih (by omega) (by omega) (by rw [ex, show (v5 + 1).toNat = v5.toNat + 1 by omega])
    refine pc_ite (fun c => ?_) (fun c => ?_)
    · have e : v5 = P := by omega
      rw [bcs_e hf, jc_s]
      refine pc_some ?_
      rw [e4, e]; rfl
    · refine pc_gd (fun _ => ?_)
      rw [isG_e, jc_s, h47]
      have ip : inP P v5.toNat = true := decide_eq_true (by omega)
      have eg : gs P s v5.toNat = gst (s v5.toNat) := by unfold gs; rw [ip]; rfl
      cases hg : gst (s v5.toNat) with
      | false =>
        refine pc_ite (fun _ => nx v4 ?_ (by omega)) (fun e => absurd rfl e)
        rw [mlt, eg, hg, e4]; rfl
      | true =>
        refine pc_ite (fun e => absurd e (by decide)) (fun _ => ?_)
        refine pc_gd (fun _ => pc_let (fun x ex => nx x ?_ (by omega)))
        have := hs v5.toNat (by omega)
        rw [w32_id (by omega)] at ex
        rw [mlt, eg, hg, ex, e4]; rfl
/-- all that hang together, so far: a set of the reference -/
theorem bR34 {P v1 v3 : Int} {s kn : Nat → Int} {F : Nat → Bool} {k24 : Int → Int → Int → Wd → Option (Int × Wd)} {w : Wd} {Q : Int → Wd → Prop} (hP : 0 ≤ P ∧ P ≤ 10) (h0 : w 43 0 = P) (h47 : w 47 = s) (h45 : ∀ j : Nat, (j : Int) < P → w 45 j = kn j ∧ (0 : Int) ≤ kn j ∧ kn j ≤ 1023) (h1 : B10 v1 F) (h3 : 0 ≤ v3 ∧ v3 ≤ 1023) (hk : ∀ v2', B10 v2' (fun q => bt v3 q || (kbn kn (fun i => gs P s i || bt v3 i) P.toNat q && F q)) → PC (k24 v1 v2' v3 w) Q) : ∀ (n : Nat) {v2 v4 : Int}, 0 ≤ v4 → v4 ≤ P → B10 v2 (fun q => bt v3 q || (kbn kn (fun i => gs P s i || bt v3 i) v4.toNat q && F q)) → PC (f_R_bound_34 k24 n v1 v2 v3 v4 w) Q := by
  intro n
  induction n with
  | zero => intros; exact pc_none
  | succ n ih =>
    intro v2 v4 i0 i1 hB
    rw [f_R_bound_34, h0]
    have nx : ∀ x, B10 x (fun q => bt v3 q || (kbn kn (fun i => gs P s i || bt v3 i) (v4.toNat + 1) q && F q)) → v4 < P → PC (f_R_bound_69 k24 (f_R_bound_34 k24 n) v1 x v3 v4 w) Q := fun x hx hlt => by
      unfold f_R_bound_69
      refine pc_let (fun x7 e7 => ?_)
      rw [w32_id (by omega)] at e7
      rw [e7]
      refine ih (by omega) (by omega) ?_
      rw [show (v4 + 1).toNat = v4.toNat + 1 by omega]
      exact hx
    refine pc_ite (fun c => ?_) (fun c => ?_)
    · have e : v4 = P := by omega
      rw [e] at hB
      exact hk v2 hB
    · refine pc_call (rg_e (w := w) (by omega)) (fun r12 u13 q => ?_)
      rw [q.1]
      have q2 := q.2
      rw [h0, h47] at q2
      have hor := b10_or q2 (b10_self h3)
      rw [hasR_10 w hor (by omega), jc_s]
      cases hg : (gs P s v4.toNat || bt v3 v4.toNat) with
      | false =>
        refine pc_ite (fun _ => nx v2 ?_ (by omega)) (fun e => absurd rfl e)
        refine b10_w hB (fun k _ => ?_)
        rw [kbn, hg]; simp
      | true =>
        refine pc_ite (fun e => absurd e (by decide)) (fun _ => ?_)
        refine pc_gd (fun _ => pc_let (fun x ex => nx x ?_ (by omega)))
        have hj := h45 v4.toNat (by omega)
        rw [ex, hj.1]
        refine b10_w (b10_or hB (b10_and (b10_self hj.2) h1.2)) (fun k _ => ?_)
        rw [kbn, hg]
        cases bt v3 k <;> cases kbn kn (fun i => gs P s i || bt v3 i) v4.toNat k <;> cases bt (kn v4.toNat) k <;> cases F k <;> rfl
theorem bR24 {P v1 : Int} {s h kn : Nat → Int} {w : Wd} (hP : 0 ≤ P ∧ P ≤ 10) (h0 : w 43 0 = P) (h47 : w 47 = s) (h45 : ∀ j : Nat, (j : Int) < P → w 45 j = kn j ∧ (0 : Int) ≤ kn j ∧ kn j ≤ 1023) (h1 : B10 v1 (fre P s h)) (hs : ∀ j : Nat, (j : Int) < P → 0 ≤ s j ∧ s j ≤ 4) (hg : ∃ q, q < 10 ∧ gs P s q = true) : ∀ (n : Nat) {v2 v3 : Int}, (0 ≤ v2 ∧ v2 ≤ 1023) → (∀ q, q < 10 → bt v2 q = true → tgr kn (fre P s h) (gs P s) P.toNat 10 q = true ∧ gs P s q = false) → (v3 = -1 ∨ ((0 ≤ v3 ∧ v3 ≤ 1023) ∧ B10 v2 (fun q => bt v3 q || (kbn kn (fun i => gs P s i || bt v3 i) P.toNat q && fre P s h q)))) → PC (f_R_bound_24 n v1 v2 v3 w) (fun r _ => r = bnd (w 43 10) ((pn (fun k => tgr kn (fre P s h) (gs P s) P.toNat 10 k && !gs P s k) 10 : Nat) : Int) (mlt P s 1000000 P.toNat)) := by
  intro n
  induction n with
  | zero => intros; exact pc_none
  | succ n ih =>
    intro v2 v3 hr hsub hv
    rw [f_R_bound_24]
    have fg : ∀ q, fre P s h q = true → gs P s q = false := fun q e => by
      have := fre_sr e
      unfold gs
      rw [this.2.1]
      cases inP P q <;> rfl
    refine pc_ite (fun c => ?_) (fun c => ?_)
    · have hv2 := (hv.resolve_left (by omega)).2
      rw [← c] at hv2
      have up : ∀ k q, q < 10 → tgr kn (fre P s h) (gs P s) P.toNat k q = true → gs P s q = true ∨ bt v2 q = true := by
        intro k
        induction k with
        | zero => intro q _ e; exact Or.inl e
        | succ k ihk =>
          intro q hq e
          rw [tgr, Bool.or_eq_true, Bool.and_eq_true] at e
          rcases e with e | ⟨e1, e2⟩
          · exact ihk q hq e
          · obtain ⟨i, hi, e3, e4⟩ := kbn_t.mp e1
            right
            rw [hv2.2 q hq, Bool.or_eq_true, Bool.and_eq_true]
            refine Or.inr ⟨kbn_t.mpr ⟨i, hi, ?_, e4⟩, e2⟩
            rw [Bool.or_eq_true]
            exact ihk i (by omega) e3
      refine bR86 hP h0 h47 (f := fun k => tgr kn (fre P s h) (gs P s) P.toNat 10 k && !gs P s k) ⟨hr, fun q hq => ?_⟩ hs FU (by decide) hP.1 rfl
      show bt v2 q = (tgr kn (fre P s h) (gs P s) P.toNat 10 q && !gs P s q)
      cases hb : bt v2 q with
      | true =>
        have := hsub q hq hb
        rw [this.1, this.2]; rfl
      | false =>
        cases ht : tgr kn (fre P s h) (gs P s) P.toNat 10 q with
        | false => rfl
        | true =>
          rcases up 10 q hq ht with e | e
          · rw [e]; rfl
          · rw [hb] at e; cases e
    · refine bR34 hP h0 h47 h45 h1 (v3 := v2) hr (fun v2' hB => ?_) FU (by decide) hP.1 (b10_w (b10_self hr) (fun k _ => ?_))
      · refine ih hB.1 (fun q hq hb => ?_) (Or.inr ⟨hr, hB⟩)
        rw [hB.2 q hq, Bool.or_eq_true, Bool.and_eq_true] at hb
        rcases hb with e | ⟨e1, e2⟩
        · exact hsub q hq e
        · refine ⟨?_, fg q e2⟩
          obtain ⟨i, hi, e3, e4⟩ := kbn_t.mp e1
          rw [← tgr_st (by omega) hg q hq, tgr, Bool.or_eq_true, Bool.and_eq_true]
          refine Or.inr ⟨kbn_t.mpr ⟨i, hi, ?_, e4⟩, e2⟩
          rw [Bool.or_eq_true] at e3
          rcases e3 with e5 | e5
          · have mono : ∀ k, tgr kn (fre P s h) (gs P s) P.toNat k i = true := fun k => by
              induction k with
              | zero => exact e5
              | succ k ihk => rw [tgr, ihk]; rfl
            exact mono 10
          · exact (hsub i (by omega) e5).1
      · simp [kbn]
theorem er_bound {a w : Wd} (h : ER a w) (hG : ∀ j : Nat, (j : Int) < a 43 0 → 0 ≤ a 45 j ∧ a 45 j ≤ 1023) : PC (f_E_bound w) (fun r _ => PC (f_R_bound a) (fun r' _ => r = r')) := by
  have x0 : 0 ≤ a 43 0 ∧ a 43 0 ≤ 10 := h.2.2.1
  have x3 : w 5 3 = a 43 0 := h.1.1.2.1
  have xp : ∀ j : Nat, (j : Int) < a 43 0 → w 6 j = a 44 j ∧ w 7 j = a 45 j ∧ w 8 j = a 48 j := h.1.2.1
  have xh : B10 (w 5 5) (hB (a 43 0) (a 46)) := h.1.2.2.1
  have xw : WH (w 5 4) (a 47) (a 43 0) := h.1.2.2.2.1
  have x7 : w 5 7 = a 43 10 := h.1.1.2.2.1.1
  unfold f_E_bound f_R_bound
  refine pc_call (eg_e xw) (fun r1 u2 q => ?_)
  rw [q.1]
  have hR : ∀ y : Wd, y 43 0 = a 43 0 → y 47 = a 47 → PC (f_R_guests y) (fun r u => u = y ∧ r = r1) := fun y y0 y47 => by
    refine pc_w (rg_e (w := y) (by omega)) (fun r u z => ⟨z.1, ?_⟩)
    have z2 := z.2
    rw [y0, y47] at z2
    exact b10_eq z2 q.2 (fun _ _ => rfl)
  refine pc_ite (fun c => pc_some ?_) (fun c => ?_)
  · refine pc_lw (fun y ey => ?_)
    refine pc_call (hR y (by rw [ey, st_k (by decide)]) (by rw [ey, st_row (by decide)])) (fun r2 u3 z => ?_)
    rw [z.2]
    exact pc_ite (fun _ => pc_some rfl) (fun e => absurd c e)
  · have hg : ∃ q, q < 10 ∧ gs (a 43 0) (a 47) q = true := by
      refine Classical.byContradiction fun hn => c ?_
      refine b10_eq q.2 b10_0 (fun k hk => ?_)
      cases hb : gs (a 43 0) (a 47) k with
      | false => rfl
      | true => exact absurd ⟨k, hk, hb⟩ hn
    refine pc_w (bE19 x0 x3 xw xh (kn := a 45) (fun j hj => ⟨(xp j hj).2.1, hG j hj⟩) q.2 FU (by decide) (by decide) q.2) (fun r _ z => ?_)
    refine pc_lw (fun y ey => ?_)
    have y0 : y 43 0 = a 43 0 := by rw [ey, st_k (by decide)]
    have y10 : y 43 10 = a 43 10 := by rw [ey, st_k (by decide)]
    have yr : ∀ c, c ≠ 43 → y c = a c := fun c hc => by rw [ey, st_row hc]
    refine pc_call (hR y y0 (yr 47 (by decide))) (fun r2 u3 z2 => ?_)
    rw [z2.1, z2.2]
    refine pc_ite (fun e => absurd e c) (fun _ => ?_)
    refine pc_call (rfree_e (w := y) (by omega)) (fun r4 u5 z4 => ?_)
    have b4 := z4.2
    rw [y0, yr 47 (by decide), yr 46 (by decide)] at b4
    rw [z4.1]
    refine pc_w (bR24 (kn := a 45) (h := a 46) (s := a 47) x0 y0 (yr 47 (by decide)) (fun j hj => ⟨by rw [yr 45 (by decide)], hG j hj⟩) b4 xw.2.2 hg FU (v2 := 0) (v3 := -1) (by decide) (fun q _ e => by rw [bt_0] at e; cases e) (Or.inl rfl)) (fun r' _ z5 => ?_)
    rw [z, z5, x7, y10]
    rcases mlt_e (P := a 43 0) (s := a 47) (a 43 0).toNat with ⟨h1, _⟩ | ⟨h1, _⟩
    · obtain ⟨q0, hq0, e0⟩ := hg
      have : (q0 : Int) < a 43 0 := by
        unfold gs at e0
        rw [Bool.and_eq_true] at e0
        exact inP_t e0.1
      rw [h1 q0 (by omega)] at e0
      cases e0
    · rw [h1]
theorem dq_bound {w : Wd} (h : LU w) : OK (f_E_bound w) (fun r1 u1 => OK (f_R_bound u1) (fun r2 u2 => LU u2 ∧ r1 = r2)) :=
  d_er (xR := fun u => f_R_bound u) h (d_bound h) (pc_w (pc_ok (e_E_bound h.1.1)) (fun _ _ q => g_hi q.1 (by decide))) (fun _ ha _ => er_bound ha ha.2.2.2.2.2.1)
/-! A WEEK THAT MAY BE: who moves in it; found by adding PAIRS by who brings -/
def sq (m : Int) (i o : Nat) : Int := ior (ior m (ishl 1 (i : Int))) (ishl 1 (o : Int))
theorem sq_b {m : Int} {f : Nat → Bool} {i o : Nat} (h : B10 m f) (hi : i < 10) (ho : o < 10) : B10 (sq m i o) (fun k => f k || decide (k = i) || decide (k = o)) := by
  have a := b10_1 (i := (i : Int)) (by omega)
  have b := b10_1 (i := (o : Int)) (by omega)
  have ei : ((i : Nat) : Int).toNat = i := by omega
  have eo : ((o : Nat) : Int).toNat = o := by omega
  rw [ei] at a
  rw [eo] at b
  exact b10_or (b10_or h a) b
theorem sq_t {m : Int} {i o k : Nat} (h : 0 ≤ m ∧ m ≤ 1023) (hi : i < 10) (ho : o < 10) (hk : k < 10) : bt (sq m i o) k = (bt m k || decide (k = i) || decide (k = o)) := (sq_b (b10_self h) hi ho).2 k hk
theorem sq_rg {m : Int} {i o : Nat} (h : 0 ≤ m ∧ m ≤ 1023) (hi : i < 10) (ho : o < 10) : 0 ≤ sq m i o ∧ sq m i o ≤ 1023 := (sq_b (b10_self h) hi ho).1
theorem pn_up {f f' : Nat → Bool} {i : Nat} : ∀ {n : Nat}, i < n → (∀ k, k < n → k ≠ i → f' k = f k) → f i = false → f' i = true → pn f' n = pn f n + 1 := by
  intro n
  induction n with
  | zero => intro h; omega
  | succ n ih =>
    intro hi h h0 h1
    rw [pn, pn]
    by_cases c : i = n
    · subst c
      have e : pn f' i = pn f i := pn_eq (fun k hk => h k (by omega) (by omega))
      rw [e, h0, h1]; simp
    · rw [ih (by omega) (fun k hk => h k (by omega)) h0 h1, h n (by omega) (by omega)]; omega
def CHD (P se : Int) (kn : Nat → Int) (br fr sy : Nat → Bool) (f m f' m' : Int) : Prop :=
  ∃ i o : Nat, f ≤ (i : Int) ∧ (i : Int) < P ∧ o < 10 ∧ br i = true ∧ fr o = true ∧ bt (kn i) o = true ∧ bt m o = false ∧ m' = sq m i o ∧ ((pn (fun k => sy k || bt m' k) 10 : Nat) : Int) ≤ se ∧ f' = (i : Int) + 1
def DRC (P se : Int) (kn : Nat → Int) (br fr sy : Nat → Bool) : Nat → Int → Int → Prop
  | 0, f, m => f = 0 ∧ m = 0
  | d + 1, f, m => ∃ f0 m0, DRC P se kn br fr sy d f0 m0 ∧ CHD P se kn br fr sy f0 m0 f m
theorem drc_rg {P se : Int} {kn : Nat → Int} {br fr sy : Nat → Bool} (hP : 0 ≤ P ∧ P ≤ 10) : ∀ {d : Nat} {f m : Int}, DRC P se kn br fr sy d f m → (0 ≤ m ∧ m ≤ 1023) ∧ 0 ≤ f ∧ f ≤ P := by
  intro d
  induction d with
  | zero => intro f m h; obtain ⟨h1, h2⟩ := h; omega
  | succ d ih =>
    intro f m h
    obtain ⟨f0, m0, h0, i, o, h1, h2, h3, h4, h5, h6, h7, h8, h9, h10⟩ := h
    obtain ⟨r1, r2, r3⟩ := ih h0
    rw [h8]
    exact ⟨sq_rg r1 (by omega) h3, by omega, by omega⟩
theorem drc_fr {P se : Int} {kn : Nat → Int} {br fr sy : Nat → Bool} (hP : 0 ≤ P ∧ P ≤ 10) (hd : ∀ k, k < 10 → br k = true → fr k = false) : ∀ {d : Nat} {f m : Int}, DRC P se kn br fr sy d f m → (∀ k : Nat, k < 10 → bt m k = true → br k = true → (k : Int) < f) ∧ ((f = 0 ∧ m = 0) ∨ ∃ k : Nat, (k : Int) + 1 = f ∧ k < 10 ∧ bt m k = true ∧ br k = true) ∧ ∀ k : Nat, k < 10 → bt m k = true → ((k : Int) < P ∧ br k = true) ∨ fr k = true := by
  intro d
  induction d with
  | zero =>
    intro f m h
    obtain ⟨h1, h2⟩ := h
    refine ⟨fun k _ hb => ?_, Or.inl ⟨h1, h2⟩, fun k _ hb => ?_⟩ <;> rw [h2, bt_0] at hb <;> cases hb
  | succ d ih =>
    intro f m h
    obtain ⟨f0, m0, h0, i, o, h1, h2, h3, h4, h5, h6, h7, h8, h9, h10⟩ := h
    have r := drc_rg hP h0
    obtain ⟨q1, q2, q3⟩ := ih h0
    refine ⟨fun k hk hb hbr => ?_, Or.inr ⟨i, by omega, by omega, ?_, h4⟩, fun k hk hb => ?_⟩
    · rw [h8, sq_t r.1 (by omega) h3 hk, Bool.or_eq_true, Bool.or_eq_true, decide_eq_true_iff, decide_eq_true_iff] at hb
      rcases hb with (e | e) | e
      · have := q1 k hk e hbr; omega
      · omega
      · rw [e] at hbr; rw [hd o h3 hbr] at h5; cases h5
    · rw [h8, sq_t r.1 (by omega) h3 (by omega)]; simp
    · rw [h8, sq_t r.1 (by omega) h3 hk, Bool.or_eq_true, Bool.or_eq_true, decide_eq_true_iff, decide_eq_true_iff] at hb
      rcases hb with (e | e) | e
      · exact q3 k hk e
      · rw [e]; exact Or.inl ⟨h2, h4⟩
      · rw [e]; exact Or.inr h5
theorem drc_one {P se : Int} {kn : Nat → Int} {br fr sy : Nat → Bool} (hP : 0 ≤ P ∧ P ≤ 10) (hd : ∀ k, k < 10 → br k = true → fr k = false) {d d' : Nat} {f f' m : Int} (h : DRC P se kn br fr sy d f m) (h' : DRC P se kn br fr sy d' f' m) : f = f' := by
  obtain ⟨a1, a2, _⟩ := drc_fr hP hd h
  obtain ⟨b1, b2, _⟩ := drc_fr hP hd h'
  have le : ∀ {f f' : Int}, ((f = 0 ∧ m = 0) ∨ ∃ k : Nat, (k : Int) + 1 = f ∧ k < 10 ∧ bt m k = true ∧ br k = true) → (∀ k : Nat, k < 10 → bt m k = true → br k = true → (k : Int) < f') → 0 ≤ f' → f ≤ f' := by
    intro f f' h1 h2 h0
    rcases h1 with ⟨e, _⟩ | ⟨k, e, hk, e1, e2⟩
    · omega
    · have := h2 k hk e1 e2; omega
  have := le a2 b1 (drc_rg hP h').2.1
  have := le b2 a1 (drc_rg hP h).2.1
  omega
/-- one more PAIR: who brings and who is brought are new -/
theorem chd_new {P se : Int} {kn : Nat → Int} {br fr sy : Nat → Bool} (hP : 0 ≤ P ∧ P ≤ 10) (hd : ∀ k, k < 10 → br k = true → fr k = false) {d : Nat} {f m : Int} {i o : Nat} (h : DRC P se kn br fr sy d f m) (h1 : f ≤ (i : Int)) (hi : i < 10) (ho : o < 10) (hbr : br i = true) (hfr : fr o = true) : bt m i = false ∧ i ≠ o := by
  refine ⟨?_, fun e => ?_⟩
  · cases hb : bt m i with
    | false => rfl
    | true => have := (drc_fr hP hd h).1 i hi hb hbr; omega
  · rw [← e, hd i hi hbr] at hfr; cases hfr
theorem drc_pn {P se : Int} {kn : Nat → Int} {br fr sy : Nat → Bool} (hP : 0 ≤ P ∧ P ≤ 10) (hd : ∀ k, k < 10 → br k = true → fr k = false) : ∀ {d : Nat} {f m : Int}, DRC P se kn br fr sy d f m → pn (bt m) 10 = 2 * d ∧ cn (fun q => xor (bt m q) (br q)) = cn br := by
  intro d
  induction d with
  | zero =>
    intro f m h
    obtain ⟨h1, h2⟩ := h
    rw [h2]
    refine ⟨pn_0 (fun k _ => bt_0 k), ?_⟩
    congr 1
    funext q
    rw [bt_0]; simp
  | succ d ih =>
    intro f m h
    obtain ⟨f0, m0, h0, i, o, h1, h2, h3, h4, h5, h6, h7, h8, h9, h10⟩ := h
    have r := drc_rg hP h0
    obtain ⟨q1, q2⟩ := ih h0
    have hi : i < 10 := by omega
    obtain ⟨n1, n2⟩ := chd_new hP hd h0 h1 hi h3 h4 h5
    have hbo : br o = false := by
      cases hb : br o with
      | false => rfl
      | true => rw [hd o h3 hb] at h5; cases h5
    have st : ∀ k, k < 10 → bt m k = (bt m0 k || decide (k = i) || decide (k = o)) := fun k hk => by rw [h8]; exact sq_t r.1 hi h3 hk
    constructor
    · have e1 := pn_up (f := bt m0) (f' := fun k => bt m0 k || decide (k = i)) (i := i) (n := 10) hi (fun k _ hn => by rw [decide_eq_false hn, Bool.or_false]) n1 (by rw [decide_eq_true rfl, Bool.or_true])
      have e2 := pn_up (f := fun k => bt m0 k || decide (k = i)) (f' := bt m) (i := o) (n := 10) h3 (fun k hk hn => by rw [st k hk, decide_eq_false hn, Bool.or_false]) (by rw [h7, decide_eq_false (fun e => n2 e.symm)]; rfl) (by rw [st o h3, decide_eq_true rfl, Bool.or_true])
      omega
    · have e1 := cn_up (f := fun k => xor (bt m0 k) (br k) && !decide (k = i)) (f' := fun k => xor (bt m0 k) (br k)) (i := i) hi (fun k _ hn => by rw [decide_eq_false hn]; simp) (by simp) (by rw [n1, h4]; rfl)
      have e2 := cn_up (f := fun k => xor (bt m0 k) (br k) && !decide (k = i)) (f' := fun k => xor (bt m k) (br k)) (i := o) h3 (fun k hk hn => by
        rw [st k hk, decide_eq_false hn, Bool.or_false]
        by_cases c : k = i
        · rw [c, decide_eq_true rfl, n1, h4]; rfl
        · rw [decide_eq_false c]; simp) (by rw [h7, hbo]; rfl) (by rw [st o h3, decide_eq_true rfl, hbo]; simp)
      omega
/-- SEATS at each step are SEATS at the end -/
theorem drc_se {P se : Int} {kn : Nat → Int} {br fr sy : Nat → Bool} (hP : 0 ≤ P ∧ P ≤ 10) : ∀ {d : Nat} {f m : Int}, DRC P se kn br fr sy d f m ↔ DRC P 20 kn br fr sy d f m ∧ (d = 0 ∨ ((pn (fun k => sy k || bt m k) 10 : Nat) : Int) ≤ se) := by
  have up : ∀ m : Int, ((pn (fun k => sy k || bt m k) 10 : Nat) : Int) ≤ 20 := fun m => by have := pn_le (fun k => sy k || bt m k) 10; omega
  intro d
  induction d with
  | zero => intro f m; exact ⟨fun h => ⟨h, Or.inl rfl⟩, fun h => h.1⟩
  | succ d ih =>
    intro f m
    constructor
    · rintro ⟨f0, m0, h0, i, o, h1, h2, h3, h4, h5, h6, h7, h8, h9, h10⟩
      exact ⟨⟨f0, m0, (ih.mp h0).1, i, o, h1, h2, h3, h4, h5, h6, h7, h8, up m, h10⟩, Or.inr h9⟩
    · rintro ⟨⟨f0, m0, h0, i, o, h1, h2, h3, h4, h5, h6, h7, h8, h9, h10⟩, hs⟩
      have hs2 := hs.resolve_left (by omega)
      have r := drc_rg hP h0
      refine ⟨f0, m0, ih.mpr ⟨h0, Or.inr ?_⟩, i, o, h1, h2, h3, h4, h5, h6, h7, h8, hs2, h10⟩
      have := pn_mono (f := fun k => sy k || bt m0 k) (g := fun k => sy k || bt m k) (n := 10) (fun k hk e => by
        rw [Bool.or_eq_true] at e ⊢
        rcases e with e | e
        · exact Or.inl e
        · right; rw [h8, sq_t r.1 (by omega) h3 hk, e]; rfl)
      omega
/-- by the sets alone -/
theorem drc_eq {P se : Int} {kn kn' : Nat → Int} {br br' fr fr' sy sy' : Nat → Bool} (hP : 0 ≤ P ∧ P ≤ 10) (hk : ∀ k : Nat, (k : Int) < P → kn k = kn' k) (hb : ∀ k, k < 10 → br k = br' k) (hf : ∀ k, k < 10 → fr k = fr' k) (hs : ∀ k, k < 10 → sy k = sy' k) : ∀ {d : Nat} {f m : Int}, DRC P se kn br fr sy d f m → DRC P se kn' br' fr' sy' d f m := by
  intro d
  induction d with
  | zero => intro f m h; exact h
  | succ d ih =>
    rintro f m ⟨f0, m0, h0, i, o, h1, h2, h3, h4, h5, h6, h7, h8, h9, h10⟩
    refine ⟨f0, m0, ih h0, i, o, h1, h2, h3, by rw [← hb i (by omega)]; exact h4, by rw [← hf o h3]; exact h5, by rw [← hk i h2]; exact h6, h7, h8, ?_, h10⟩
    rw [← pn_eq (f := fun k => sy k || bt m k) (g := fun k => sy' k || bt m k) (n := 10) (fun k hk => by rw [hs k hk])]
    exact h9
/-- who moves in some WEEK that may be -/
def MOV (P se : Int) (kn : Nat → Int) (br fr sy : Nat → Bool) (m : Int) : Prop := ∃ (d : Nat) (f : Int), DRC P se kn br fr sy d f m
/-- 252 at most -/
theorem mov_few {P se : Int} {kn : Nat → Int} {br fr sy : Nat → Bool} (hP : 0 ≤ P ∧ P ≤ 10) (hd : ∀ k, k < 10 → br k = true → fr k = false) {n : Nat} {F : Nat → Int} (h : ∀ j, j < n → MOV P se kn br fr sy (F j)) (hi : ∀ i j, i < n → j < n → F i = F j → i = j) : n ≤ 252 := by
  refine few (cn_le br) (fun j q => xor (bt (F j) q) (br q)) (fun j hj => ?_) (fun i j hi1 hj e => ?_)
  · obtain ⟨d, f, h1⟩ := h j hj
    exact (drc_pn hP hd h1).2
  · obtain ⟨d, f, h1⟩ := h i hi1
    obtain ⟨d', f', h2⟩ := h j hj
    refine hi i j hi1 hj (bt_ext (drc_rg hP h1).1 (drc_rg hP h2).1 (fun q hq => ?_))
    have h := e q hq
    cases h3 : bt (F i) q <;> cases h4 : bt (F j) q <;> cases h5 : br q <;> simp [h3, h4, h5] at h ⊢
/-- the lowest of some -/
def lwb (x : Int) : Nat → Nat
  | 0 => 0
  | n + 1 => if bt x (9 - n) = true then 9 - n else lwb x n
theorem lwb_e : (List.range 1024).all (fun n => n == 0 || ((Nat.blt (lwb (n : Int) 10) 10 && (bt (n : Int) (lwb (n : Int) 10) && (iand (n : Int) (w32 (-(n : Int))) == ishl 1 ((lwb (n : Int) 10 : Nat) : Int)))) && (List.range 10).all fun k => (Nat.ble (lwb (n : Int) 10) k || !bt (n : Int) k) && (bt (iand (n : Int) (w32 ((n : Int) - 1))) k == (bt (n : Int) k && !(k == lwb (n : Int) 10))))) = true := by decide +kernel
theorem lw_sp {x : Int} (h : 0 ≤ x ∧ x ≤ 1023) (h0 : x ≠ 0) : ∃ o : Nat, o < 10 ∧ bt x o = true ∧ (∀ k, k < o → bt x k = false) ∧ iand x (w32 (-x)) = ishl 1 (o : Int) ∧ B10 (iand x (w32 (x - 1))) (fun k => bt x k && !decide (k = o)) := by
  have h1 := List.all_eq_true.mp lwb_e x.toNat (List.mem_range.mpr (by omega))
  have ex : ((x.toNat : Nat) : Int) = x := by omega
  rw [ex, Bool.or_eq_true, beq_iff_eq, Bool.and_eq_true, Bool.and_eq_true, Bool.and_eq_true, Nat.blt_eq, beq_iff_eq] at h1
  have h2 := h1.resolve_left (by omega)
  obtain ⟨⟨a1, a2, a3⟩, a4⟩ := h2
  have hk : ∀ k, k < 10 → (lwb x 10 ≤ k ∨ bt x k = false) ∧ bt (iand x (w32 (x - 1))) k = (bt x k && !(k == lwb x 10)) := fun k hk => by
    have := List.all_eq_true.mp a4 k (List.mem_range.mpr hk)
    rw [Bool.and_eq_true, Bool.or_eq_true, Nat.ble_eq, Bool.not_eq_true', beq_iff_eq] at this
    exact this
  refine ⟨lwb x 10, a1, a2, fun k hlt => ?_, a3, ?_⟩
  · rcases (hk k (by omega)).1 with e | e
    · omega
    · exact e
  · have r := iand_l (x := x) (y := w32 (x - 1)) (by omega)
    refine ⟨by omega, fun k hk10 => ?_⟩
    show bt (iand x (w32 (x - 1))) k = (bt x k && !decide (k = lwb x 10))
    rw [(hk k hk10).2]
    by_cases c : k = lwb x 10
    · rw [beq_iff_eq.mpr c, decide_eq_true c]
    · rw [beq_eq_false_iff_ne.mpr c, decide_eq_false c]
theorem hi0_e : (List.range 1024).all (fun n => iand (n : Int) (-1024) == 0) = true := by decide +kernel
theorem hiz {x : Int} (h : 0 ≤ x ∧ x ≤ 1023) : iand x (-1024) = 0 := by
  have h1 := eq_of_beq (List.all_eq_true.mp hi0_e x.toNat (List.mem_range.mpr (by omega)))
  rw [show ((x.toNat : Nat) : Int) = x by omega] at h1
  exact h1
/-! ALL WEEKS THAT MAY BE, AS THE CLASS FINDS THEM -/
def FM (w u : Wd) : Prop := (∀ c, c ≠ 24 → c ≠ 25 → c ≠ 26 → c ≠ 27 → u c = w c) ∧ (∀ k, k ≠ 3 → u 24 k = w 24 k) ∧ ∀ k, u 27 k = w 27 k ∨ u 27 k = w 24 4
theorem fm_self (w : Wd) : FM w w := ⟨fun _ _ _ _ _ => rfl, fun _ _ => rfl, fun _ => Or.inl rfl⟩
theorem fm_tr {w u v : Wd} (h : FM w u) (h2 : FM u v) : FM w v := ⟨fun c a b d e => (h2.1 c a b d e).trans (h.1 c a b d e), fun k hk => (h2.2.1 k hk).trans (h.2.1 k hk), fun k => by
  have e4 := h.2.1 4 (by decide)
  rcases h2.2.2 k with e | e
  · rw [e]; exact h.2.2 k
  · exact Or.inr (e.trans e4)⟩
def MCx (P se rd : Int) (kn : Nat → Int) (br fr sy : Nat → Bool) (w : Wd) : Prop := w 5 3 = P ∧ (∀ j : Nat, (j : Int) < P → w 7 j = kn j) ∧ B10 (w 24 6) br ∧ B10 (w 24 7) fr ∧ B10 (w 24 8) sy ∧ w 24 9 = se ∧ w 24 4 = rd
theorem mc_fm {P se rd : Int} {kn : Nat → Int} {br fr sy : Nat → Bool} {w u : Wd} (h : MCx P se rd kn br fr sy w) (f : FM w u) : MCx P se rd kn br fr sy u := by
  unfold MCx
  rw [f.1 5 (by decide) (by decide) (by decide) (by decide), f.1 7 (by decide) (by decide) (by decide) (by decide), f.2.1 6 (by decide), f.2.1 7 (by decide), f.2.1 8 (by decide), f.2.1 9 (by decide), f.2.1 4 (by decide)]
  exact h
def vis (rd : Int) (w : Wd) (m : Int) : Prop := (0 ≤ m ∧ m ≤ 1023) ∧ w 27 m.toNat = rd
def LSx (rd : Int) (M : Int → Prop) (w : Wd) : Prop := 0 ≤ w 24 3 ∧ (∀ k : Nat, (k : Int) < w 24 3 → vis rd w (w 25 k) ∧ M (w 25 k)) ∧ (∀ i j : Nat, (i : Int) < w 24 3 → (j : Int) < w 24 3 → w 25 i = w 25 j → i = j) ∧ (∀ m, vis rd w m → ∃ k : Nat, (k : Int) < w 24 3 ∧ w 25 k = m) ∧ ∀ k : Nat, (k : Int) < w 24 3 → (k = 0 ∧ w 25 k = 0) ∨ (0 < k ∧ 0 ≤ w 26 k ∧ w 26 k < (k : Int) ∧ pn (bt (w 25 k)) 10 = pn (bt (w 25 (w 26 k).toNat)) 10 + 2)
def CLO (P se rd : Int) (kn : Nat → Int) (br fr sy : Nat → Bool) (u : Wd) (x : Int) : Prop := ∀ (d : Nat) (f f' m' : Int), DRC P se kn br fr sy d f x → CHD P se kn br fr sy f x f' m' → vis rd u m'
/-- from w on, all that is new but m has all its children -/
def DL (P se rd : Int) (kn : Nat → Int) (br fr sy : Nat → Bool) (w u : Wd) (m : Int) : Prop := FM w u ∧ LSx rd (MOV P se kn br fr sy) u ∧ (w 24 3 ≤ u 24 3 ∧ (∀ k : Nat, (k : Int) < w 24 3 → u 25 k = w 25 k)) ∧ (∀ x, vis rd w x → vis rd u x) ∧ vis rd u m ∧ ∀ x, vis rd u x → vis rd w x ∨ x = m ∨ CLO P se rd kn br fr sy u x
def DN (P se rd : Int) (kn : Nat → Int) (br fr sy : Nat → Bool) (w u : Wd) (m : Int) : Prop := FM w u ∧ LSx rd (MOV P se kn br fr sy) u ∧ (w 24 3 ≤ u 24 3 ∧ (∀ k : Nat, (k : Int) < w 24 3 → u 25 k = w 25 k)) ∧ (∀ x, vis rd w x → vis rd u x) ∧ vis rd u m ∧ ∀ x, vis rd u x → vis rd w x ∨ CLO P se rd kn br fr sy u x
theorem dl_dn {P se rd : Int} {kn : Nat → Int} {br fr sy : Nat → Bool} {w u v : Wd} {m x : Int} (h : DL P se rd kn br fr sy w u m) (h2 : DN P se rd kn br fr sy u v x) : DL P se rd kn br fr sy w v m := by
  obtain ⟨a1, a2, a3, a4, a5, a6⟩ := h
  obtain ⟨b1, b2, b3, b4, b5, b6⟩ := h2
  refine ⟨fm_tr a1 b1, b2, ⟨by omega, fun k hk => (b3.2 k (by omega)).trans (a3.2 k hk)⟩, fun y hy => b4 y (a4 y hy), b4 m a5, fun y hy => ?_⟩
  rcases b6 y hy with h1 | h1
  · rcases a6 y h1 with h2 | h2 | h2
    · exact Or.inl h2
    · exact Or.inr (Or.inl h2)
    · exact Or.inr (Or.inr (fun d f f' m' e1 e2 => b4 m' (h2 d f f' m' e1 e2)))
  · exact Or.inr (Or.inr h1)
def CDN (P se rd : Int) (kn : Nat → Int) (br fr sy : Nat → Bool) (f m : Int) (u : Wd) (one : Int) (oo : Nat → Bool) : Prop := ∀ i o : Nat, f ≤ (i : Int) → (i : Int) < P → o < 10 → br i = true → fr o = true → bt (kn i) o = true → bt m o = false → ((pn (fun k => sy k || bt (sq m i o) k) 10 : Nat) : Int) ≤ se → ((i : Int) < one ∨ ((i : Int) = one ∧ oo o = false)) → vis rd u (sq m i o)
theorem sp135 {P se rd : Int} {kn : Nat → Int} {br fr sy : Nat → Bool} (hP : 0 ≤ P ∧ P ≤ 10) (hd : ∀ k, k < 10 → br k = true → fr k = false) {rec : Int → Int → Int → Wd → Option (Int × Wd)} {k83 : Int → Int → Int → Wd → Option (Int × Wd)} {w0 : Wd} {d : Nat} {f m v4 v5 : Int} {Q : Int → Wd → Prop} (hm : DRC P se kn br fr sy d f m) (h5 : f ≤ v5 ∧ v5 < P) (hf : 0 ≤ f)
    (hrec : ∀ {d' : Nat} {f' m' b : Int} {u : Wd}, MCx P se rd kn br fr sy u → LSx rd (MOV P se kn br fr sy) u → DRC P se kn br fr sy d' f' m' → (0 ≤ b ∧ b < u 24 3 ∧ pn (bt m') 10 = pn (bt (u 25 b.toNat)) 10 + 2) → PC (rec f' m' b u) (fun _ v => DN P se rd kn br fr sy u v m'))
    (hk : ∀ u, MCx P se rd kn br fr sy u → DL P se rd kn br fr sy w0 u m → (0 ≤ v4 ∧ v4 < u 24 3 ∧ u 25 v4.toNat = m) → CDN P se rd kn br fr sy f m u (v5 + 1) (fun _ => true) → PC (k83 m v4 (v5 + 1) u) Q) :
    ∀ (n : Nat) {v6 v7 : Int} {u : Wd} {oo : Nat → Bool}, 0 ≤ v7 → v7 + ((pn oo 10 : Nat) : Int) ≤ 10 → B10 v6 oo → (∀ o, o < 10 → oo o = true → br v5.toNat = true ∧ fr o = true ∧ bt (kn v5.toNat) o = true ∧ bt m o = false) → MCx P se rd kn br fr sy u → DL P se rd kn br fr sy w0 u m → (0 ≤ v4 ∧ v4 < u 24 3 ∧ u 25 v4.toNat = m) → CDN P se rd kn br fr sy f m u v5 oo → PC (f_M_spread_135 rec k83 n m v4 v5 v6 v7 u) Q := by
  intro n
  induction n with
  | zero => intros; exact pc_none
  | succ n ih =>
    intro v6 v7 u oo i7 i8 hB ho hM hL h4 hC
    rw [f_M_spread_135]
    have fin : (∀ o, o < 10 → oo o = false) → PC (f_M_spread_206 rec k83 m v4 v5 u) Q := fun hz => by
      unfold f_M_spread_206
      refine pc_let (fun x e => ?_)
      rw [w32_id (by omega)] at e
      rw [e]
      refine hk u hM hL h4 (fun i o a1 a2 a3 a4 a5 a6 a7 a8 a9 => hC i o a1 a2 a3 a4 a5 a6 a7 a8 ?_)
      rcases a9 with a9 | a9
      · by_cases c : (i : Int) < v5
        · exact Or.inl c
        · exact Or.inr ⟨by omega, hz o a3⟩
      · cases a9.2
    refine pc_ite (fun c => fin (fun o h10 => ?_)) (fun c => ?_)
    · cases hb : oo o with
      | false => rfl
      | true => have := pn_pos (f := oo) h10 hb; omega
    refine pc_ite (fun c0 => fin (fun o h10 => ?_)) (fun c0 => ?_)
    · rw [← hB.2 o h10, c0, bt_0]
    obtain ⟨o, ho10, e1, e2, e3, e4⟩ := lw_sp hB.1 c0
    rw [e3]
    have hoo : oo o = true := by rw [← hB.2 o ho10]; exact e1
    obtain ⟨b1, b2, b3, b4⟩ := ho o ho10 hoo
    have hmr := (drc_rg hP hm).1
    have e5 : v5 = ((v5.toNat : Nat) : Int) := by omega
    refine pc_let (fun x9 e9 => pc_let (fun x10 e10 => ?_))
    have e9' : x9 = sq m v5.toNat o := by rw [e9]; unfold sq; rw [← e5]
    have r9 : 0 ≤ x9 ∧ x9 ≤ 1023 := by rw [e9']; exact sq_rg hmr (by omega) ho10
    rw [← e10] at e4
    rw [bcs_e (b10_or hM.2.2.2.2.1 (b10_self r9)) u, jc_s, hM.2.2.2.2.2.1]
    have hB' : B10 x10 (fun k => oo k && !decide (k = o)) := b10_w e4 (fun k hk => by rw [hB.2 k hk])
    have hpn : pn oo 10 = pn (fun k => oo k && !decide (k = o)) 10 + 1 := pn_up (f := fun k => oo k && !decide (k = o)) (f' := oo) (i := o) ho10 (fun k _ hn => by rw [decide_eq_false hn]; simp) (by simp) hoo
    have ho' : ∀ o', o' < 10 → (oo o' && !decide (o' = o)) = true → br v5.toNat = true ∧ fr o' = true ∧ bt (kn v5.toNat) o' = true ∧ bt m o' = false := fun o' h10 e => ho o' h10 (by rw [Bool.and_eq_true] at e; exact e.1)
    have f200 : ∀ v, MCx P se rd kn br fr sy v → DL P se rd kn br fr sy w0 v m → (0 ≤ v4 ∧ v4 < v 24 3 ∧ v 25 v4.toNat = m) → CDN P se rd kn br fr sy f m v v5 (fun k => oo k && !decide (k = o)) → PC (f_M_spread_200 rec k83 (f_M_spread_135 rec k83 n) m v4 v5 x10 v7 v) Q := fun v hMv hLv h4v hCv => by
      unfold f_M_spread_200
      refine pc_let (fun x e => ?_)
      rw [w32_id (by omega)] at e
      rw [e]
      exact ih (by omega) (by omega) hB' ho' hMv hLv h4v hCv
    refine pc_ite (fun hs => f200 u hM hL h4 (fun i o' a1 a2 a3 a4 a5 a6 a7 a8 a9 => ?_)) (fun hs => ?_)
    · by_cases c9 : (i : Int) = v5 ∧ o' = o
      · exfalso
        rw [show i = v5.toNat by omega, c9.2, ← e9'] at a8
        omega
      · refine hC i o' a1 a2 a3 a4 a5 a6 a7 a8 ?_
        rcases a9 with a9 | a9
        · exact Or.inl a9
        · refine Or.inr ⟨a9.1, ?_⟩
          have a92 : (oo o' && !decide (o' = o)) = false := a9.2
          rw [decide_eq_false (fun e => c9 ⟨a9.1, e⟩)] at a92
          simpa using a92
    · have hD : DRC P se kn br fr sy (d + 1) (v5 + 1) x9 := ⟨f, m, hm, v5.toNat, o, by omega, by omega, ho10, b1, b2, b3, b4, e9', by omega, by omega⟩
      have hpm := (drc_pn hP hd hm).1
      have hpx := (drc_pn hP hd hD).1
      rw [w32_id (by omega)]
      refine pc_call (hrec hM hL.2.1 hD (b := v4) ⟨h4.1, h4.2.1, by rw [h4.2.2]; omega⟩) (fun r14 v q => ?_)
      have hMv := mc_fm hM q.1
      have hLv := dl_dn hL q
      refine f200 v hMv hLv ⟨h4.1, by have := q.2.2.1.1; omega, by rw [q.2.2.1.2 v4.toNat (by omega)]; exact h4.2.2⟩ (fun i o' a1 a2 a3 a4 a5 a6 a7 a8 a9 => ?_)
      by_cases c9 : (i : Int) = v5 ∧ o' = o
      · rw [show i = v5.toNat by omega, c9.2, ← e9']
        exact q.2.2.2.2.1
      · refine q.2.2.2.1 _ (hC i o' a1 a2 a3 a4 a5 a6 a7 a8 ?_)
        rcases a9 with a9 | a9
        · exact Or.inl a9
        · refine Or.inr ⟨a9.1, ?_⟩
          have a92 : (oo o' && !decide (o' = o)) = false := a9.2
          rw [decide_eq_false (fun e => c9 ⟨a9.1, e⟩)] at a92
          simpa using a92
theorem sp83 {P se rd : Int} {kn : Nat → Int} {br fr sy : Nat → Bool} (hP : 0 ≤ P ∧ P ≤ 10) (hd : ∀ k, k < 10 → br k = true → fr k = false) (hkn : ∀ j : Nat, (j : Int) < P → 0 ≤ kn j ∧ kn j ≤ 1023) {rec : Int → Int → Int → Wd → Option (Int × Wd)} {w0 : Wd} {d : Nat} {f m v4 : Int} (hm : DRC P se kn br fr sy d f m) (hf : 0 ≤ f)
    (hrec : ∀ {d' : Nat} {f' m' b : Int} {u : Wd}, MCx P se rd kn br fr sy u → LSx rd (MOV P se kn br fr sy) u → DRC P se kn br fr sy d' f' m' → (0 ≤ b ∧ b < u 24 3 ∧ pn (bt m') 10 = pn (bt (u 25 b.toNat)) 10 + 2) → PC (rec f' m' b u) (fun _ v => DN P se rd kn br fr sy u v m')) :
    ∀ (n : Nat) {v5 : Int} {u : Wd}, f ≤ v5 → v5 ≤ P → MCx P se rd kn br fr sy u → DL P se rd kn br fr sy w0 u m → (0 ≤ v4 ∧ v4 < u 24 3 ∧ u 25 v4.toNat = m) → CDN P se rd kn br fr sy f m u v5 (fun _ => true) → PC (f_M_spread_83 rec n m v4 v5 u) (fun _ v => DN P se rd kn br fr sy w0 v m) := by
  intro n
  induction n with
  | zero => intros; exact pc_none
  | succ n ih =>
    intro v5 u i5 i6 hM hL h4 hC
    rw [f_M_spread_83]
    refine pc_gd (fun _ => ?_)
    have hmr := (drc_rg hP hm).1
    rw [hM.1]
    refine pc_ite (fun c => pc_some ?_) (fun c => ?_)
    · obtain ⟨a1, a2, a3, a4, a5, a6⟩ := hL
      refine ⟨a1, a2, a3, a4, a5, fun x hx => ?_⟩
      rcases a6 x hx with e | e | e
      · exact Or.inl e
      · refine Or.inr (fun d' f1 f' m' e1 e2 => ?_)
        rw [e] at e1 e2
        obtain ⟨i, o, h1, h2, h3, g4, h5, h6, h7, h8, h9, h10⟩ := e2
        have ef := drc_one hP hd e1 hm
        rw [h8]
        rw [h8] at h9
        exact hC i o (by omega) h2 h3 g4 h5 h6 h7 h9 (Or.inl (by omega))
      · exact Or.inr e
    · have nx : ∀ (v6 : Int) (oo : Nat → Bool), B10 v6 oo → (∀ o, o < 10 → oo o = true → br v5.toNat = true ∧ fr o = true ∧ bt (kn v5.toNat) o = true ∧ bt m o = false) → CDN P se rd kn br fr sy f m u v5 oo → PC (f_M_spread_130 rec (f_M_spread_83 rec n) m v4 v5 v6 u) (fun _ v => DN P se rd kn br fr sy w0 v m) := fun v6 oo hB ho hC2 => by
        unfold f_M_spread_130
        have := pn_le oo 10
        exact sp135 hP hd hm ⟨i5, by omega⟩ hf hrec (fun v hMv hLv h4v hCv => ih (by omega) (by omega) hMv hLv h4v hCv) FU (by decide) (by omega) hB ho hM hL h4 hC2
      rw [has_10 u hM.2.2.1 (by omega), jc_s]
      cases hb : br v5.toNat with
      | false =>
        refine pc_ite (fun _ => nx 0 (fun _ => false) b10_0 (fun o _ e => by cases e) (fun i o a1 a2 a3 a4 a5 a6 a7 a8 a9 => ?_)) (fun e => absurd rfl e)
        rcases a9 with a9 | a9
        · exact hC i o a1 a2 a3 a4 a5 a6 a7 a8 (Or.inl a9)
        · rw [show i = v5.toNat by omega, hb] at a4; cases a4
      | true =>
        refine pc_ite (fun e => absurd e (by decide)) (fun _ => ?_)
        refine pc_gd (fun _ => pc_gd (fun _ => ?_))
        have hj := hkn v5.toNat (by omega)
        rw [hM.2.1 v5.toNat (by omega)]
        have hB := b10_andn (b10_and (b10_self hj) hM.2.2.2.1.2) (b10_self hmr).2
        refine nx _ _ hB (fun o h10 e => ?_) (fun i o a1 a2 a3 a4 a5 a6 a7 a8 a9 => ?_)
        · rw [Bool.and_eq_true, Bool.and_eq_true, Bool.not_eq_true'] at e
          exact ⟨hb, e.1.2, e.1.1, e.2⟩
        · rcases a9 with a9 | a9
          · exact hC i o a1 a2 a3 a4 a5 a6 a7 a8 (Or.inl a9)
          · exfalso
            have a92 : (bt (kn v5.toNat) o && fr o && !bt m o) = false := a9.2
            rw [show v5.toNat = i by omega, a6, a5, a7] at a92
            cases a92
theorem spr_pc {P se rd : Int} {kn : Nat → Int} {br fr sy : Nat → Bool} (hP : 0 ≤ P ∧ P ≤ 10) (hd : ∀ k, k < 10 → br k = true → fr k = false) (hkn : ∀ j : Nat, (j : Int) < P → 0 ≤ kn j ∧ kn j ≤ 1023) : ∀ (D : Nat) {d : Nat} {f m b : Int} {w : Wd}, MCx P se rd kn br fr sy w → LSx rd (MOV P se kn br fr sy) w → DRC P se kn br fr sy d f m → ((w 24 3 = 0 ∧ m = 0) ∨ (0 ≤ b ∧ b < w 24 3 ∧ pn (bt m) 10 = pn (bt (w 25 b.toNat)) 10 + 2)) → PC (f_M_spread D f m b w) (fun _ u => DN P se rd kn br fr sy w u m) := by
  intro D
  induction D with
  | zero => intros; exact pc_none
  | succ D ih =>
    intro d f m b w hM hL hm hb
    rw [f_M_spread]
    unfold f_M_spread_b
    obtain ⟨hmr, hf0, hfP⟩ := drc_rg hP hm
    have hw252 : w 24 3 ≤ 252 := by
      have := mov_few hP hd (n := (w 24 3).toNat) (F := w 25) (fun j hj => (hL.2.1 j (by omega)).2) (fun i j hi hj e => hL.2.2.1 i j (by omega) (by omega) e)
      omega
    have h0 := hL.1
    refine pc_ite (fun c => by omega) (fun _ => ?_)
    refine pc_ite (fun c => by omega) (fun _ => ?_)
    refine pc_ite (fun _ => ?_) (fun c => absurd (hiz hmr) c)
    refine pc_gd (fun _ => ?_)
    rw [hM.2.2.2.2.2.2]
    refine pc_ite (fun c => pc_some ?_) (fun c => ?_)
    · exact ⟨fm_self w, hL, ⟨Int.le_refl _, fun _ _ => rfl⟩, fun _ h => h, ⟨hmr, c⟩, fun _ h => Or.inl h⟩
    · refine pc_let (fun x1 e1 => pc_gd (fun _ => pc_lw (fun u2 e2 => pc_gd (fun _ => pc_lw (fun u3 e3 => pc_gd (fun _ => pc_lw (fun u4 e4 => pc_lw (fun u5 e5 => ?_))))))))
      have s4 : u4 24 3 = w 24 3 := by rw [e4, st_c (by decide), e3, st_c (by decide), e2, st_c (by decide)]
      have z5 : u5 24 3 = w 24 3 + 1 := by rw [e5, st_eq, s4, w32_id (by omega)]
      have z27 : ∀ k, u5 27 k = if k = m.toNat then rd else w 27 k := fun k => by
        rw [e5, st_c (by decide), e4, st_c (by decide), e3, st_c (by decide), e2]
        by_cases ck : k = m.toNat
        · rw [if_pos ck, ck, st_eq]
        · rw [if_neg ck, st_k ck]
      have z25 : ∀ k, u5 25 k = if k = (w 24 3).toNat then m else w 25 k := fun k => by
        rw [e5, st_c (by decide), e4, st_c (by decide), e3, e1]
        by_cases ck : k = (w 24 3).toNat
        · rw [if_pos ck, ck, st_eq]
        · rw [if_neg ck, st_k ck, e2, st_c (by decide)]
      have z26 : ∀ k, u5 26 k = if k = (w 24 3).toNat then b else w 26 k := fun k => by
        rw [e5, st_c (by decide), e4, e1]
        by_cases ck : k = (w 24 3).toNat
        · rw [if_pos ck, ck, st_eq]
        · rw [if_neg ck, st_k ck, e3, st_c (by decide), e2, st_c (by decide)]
      have f5 : FM w u5 := by
        refine ⟨fun c a1 a2 a3 a4 => ?_, fun k hk => ?_, fun k => ?_⟩
        · rw [e5, st_row a1, e4, st_row a3, e3, st_row a2, e2, st_row a4]
        · rw [e5, st_k hk, e4, st_c (by decide), e3, st_c (by decide), e2, st_c (by decide)]
        · rw [z27, hM.2.2.2.2.2.2]
          by_cases ck : k = m.toNat
          · rw [if_pos ck]; exact Or.inr rfl
          · rw [if_neg ck]; exact Or.inl rfl
      have vnew : vis rd u5 m := ⟨hmr, by rw [z27, if_pos rfl]⟩
      have vold : ∀ x, vis rd w x → vis rd u5 x := fun x hx => ⟨hx.1, by
        rw [z27]
        split
        · rfl
        · exact hx.2⟩
      have vback : ∀ x, vis rd u5 x → vis rd w x ∨ x = m := fun x hx => by
        by_cases ck : x.toNat = m.toNat
        · have := hx.1; exact Or.inr (by omega)
        · have h2 := hx.2
          rw [z27, if_neg ck] at h2
          exact Or.inl ⟨hx.1, h2⟩
      have nvm : ¬ vis rd w m := fun hv => c hv.2
      have z25o : ∀ k : Nat, (k : Int) < w 24 3 → u5 25 k = w 25 k := fun k hk => by rw [z25, if_neg (by omega)]
      have z25n : u5 25 (w 24 3).toNat = m := by rw [z25, if_pos rfl]
      have L5 : LSx rd (MOV P se kn br fr sy) u5 := by
        refine ⟨by omega, fun k hk => ?_, fun i j hi hj e => ?_, fun x hx => ?_, fun k hk => ?_⟩
        · by_cases ck : (k : Int) < w 24 3
          · rw [z25o k ck]
            exact ⟨vold _ (hL.2.1 k ck).1, (hL.2.1 k ck).2⟩
          · rw [show k = (w 24 3).toNat by omega, z25n]
            exact ⟨vnew, d, f, hm⟩
        · by_cases ci : (i : Int) < w 24 3
          · by_cases cj : (j : Int) < w 24 3
            · rw [z25o i ci, z25o j cj] at e
              exact hL.2.2.1 i j ci cj e
            · rw [z25o i ci, show j = (w 24 3).toNat by omega, z25n] at e
              have := (hL.2.1 i ci).1
              rw [e] at this
              exact absurd this nvm
          · by_cases cj : (j : Int) < w 24 3
            · rw [z25o j cj, show i = (w 24 3).toNat by omega, z25n] at e
              have := (hL.2.1 j cj).1
              rw [← e] at this
              exact absurd this nvm
            · omega
        · rcases vback x hx with h1 | h1
          · obtain ⟨k, hk, ek⟩ := hL.2.2.2.1 x h1
            exact ⟨k, by omega, by rw [z25o k hk]; exact ek⟩
          · exact ⟨(w 24 3).toNat, by omega, by rw [z25n, h1]⟩
        · by_cases ck : (k : Int) < w 24 3
          · rw [z25o k ck, z26, if_neg (by omega)]
            rcases hL.2.2.2.2 k ck with h1 | ⟨h1, h2, h3, h4⟩
            · exact Or.inl h1
            · refine Or.inr ⟨h1, h2, h3, ?_⟩
              rw [z25o (w 26 k).toNat (by omega)]
              exact h4
          · have ek : k = (w 24 3).toNat := by omega
            rw [ek, z25n, z26, if_pos rfl]
            rcases hb with ⟨h1, h2⟩ | ⟨h1, h2, h3⟩
            · exact Or.inl ⟨by omega, h2⟩
            · refine Or.inr ⟨by omega, h1, by omega, ?_⟩
              rw [z25o b.toNat (by omega)]
              exact h3
      have D5 : DL P se rd kn br fr sy w u5 m := ⟨f5, L5, ⟨by omega, z25o⟩, vold, vnew, fun x hx => (vback x hx).elim Or.inl (fun e => Or.inr (Or.inl e))⟩
      rw [e1]
      refine sp83 hP hd hkn hm hf0 (fun hM' hL' hD' hb' => ih hM' hL' hD' (Or.inr hb')) FU (Int.le_refl f) hfP (mc_fm hM f5) D5 ⟨h0, by omega, z25n⟩ (fun i o a1 _ _ _ _ _ _ _ a9 => ?_)
      rcases a9 with a9 | a9
      · omega
      · cases a9.2
/-! GATHER: the list of all WEEKS that may be -/
def ROK (w : Wd) : Prop := 0 ≤ w 24 4 ∧ ∀ k : Nat, k < 1024 → w 27 k ≤ w 24 4
def FXx (w u : Wd) : Prop := ∀ c, c ≠ 24 → c ≠ 25 → c ≠ 26 → c ≠ 27 → u c = w c
def GA (P se : Int) (kn : Nat → Int) (br fr sy : Nat → Bool) (w u : Wd) : Prop := FXx w u ∧ (u 24 4 = w 24 4 + 1 ∧ ROK u) ∧ (B10 (u 24 6) br ∧ B10 (u 24 7) fr ∧ B10 (u 24 8) sy ∧ u 24 9 = se) ∧ LSx (u 24 4) (MOV P se kn br fr sy) u ∧ ∀ m, MOV P se kn br fr sy m → ∃ k : Nat, (k : Int) < u 24 3 ∧ u 25 k = m
theorem gs_fre {P : Int} {s h : Nat → Int} : ∀ k, k < 10 → gs P s k = true → fre P s h k = false := by
  intro k _ hg
  cases hf : fre P s h k with
  | false => rfl
  | true =>
    have := fre_sr hf
    unfold gs at hg
    rw [this.2.1] at hg
    cases hp : inP P k <;> rw [hp] at hg <;> cases hg
theorem prep_pc {P g x v3 v4 : Int} {s h : Nat → Int} {br : Nat → Bool} {w : Wd} (hP : 0 ≤ P ∧ P ≤ 10) (hW : WH x s P) (h3 : w 5 3 = P) (h5 : B10 (w 5 5) (hB P h)) (hg : 1 ≤ g ∧ g ≤ 3) (h7 : w 5 7 = g) (hb : B10 v3 br) (hr : ROK w) (hlt : w 24 4 < 2147483647) : PC (f_M_prepare x v3 v4 w) (fun _ u => FXx w u ∧ (u 24 4 = w 24 4 + 1 ∧ u 27 = w 27) ∧ (B10 (u 24 6) br ∧ B10 (u 24 7) (fre P s h) ∧ B10 (u 24 8) (sty P s g) ∧ u 24 9 = v4) ∧ u 24 3 = 0 ∧ u 24 5 = 6) := by
  unfold f_M_prepare
  refine pc_lw (fun u1 e1 => pc_lw (fun u2 e2 => ?_))
  have r2 : ∀ c, c ≠ 24 → u2 c = w c := fun c hc => by rw [e2, st_row hc, e1, st_row hc]
  obtain ⟨r3, e3, b3⟩ := eall_e (w := u2) (by rw [r2 5 (by decide)]; omega)
  rw [e3, jc_s]
  unfold f_O_known
  rw [jc_s]
  refine pc_lw (fun u7 e7 => ?_)
  have r7 : ∀ c, c ≠ 24 → u7 c = w c := fun c hc => by rw [e7, st_row hc, r2 c hc]
  obtain ⟨r8, e8, b8⟩ := stay_e (g := u7 5 7) hW (by rw [r7 5 (by decide)]; omega) u7
  rw [e8, jc_s]
  refine pc_lw (fun u10 e10 => pc_lw (fun u11 e11 => pc_lw (fun u12 e12 => pc_lw (fun u13 e13 => pc_some ?_))))
  rw [r2 5 (by decide), h3] at b3
  rw [r7 5 (by decide), h7] at b8
  have a24 : ∀ k, u13 24 k = if k = 4 then w 24 4 + 1 else if k = 3 then 0 else if k = 9 then v4 else if k = 8 then r8 else u7 24 k := fun k => by
    have x4 : u12 24 4 = w 24 4 := by rw [e12, st_k (by decide), e11, st_k (by decide), e10, st_k (by decide), e7, st_k (by decide), e2, st_k (by decide), e1, st_k (by decide)]
    rw [e13]
    by_cases c4 : k = 4
    · rw [if_pos c4, c4, st_eq, x4]; exact w32_id (by have := hr.1; omega)
    · rw [if_neg c4, st_k c4, e12]
      by_cases c3 : k = 3
      · rw [if_pos c3, c3, st_eq]
      · rw [if_neg c3, st_k c3, e11]
        by_cases c9 : k = 9
        · rw [if_pos c9, c9, st_eq]
        · rw [if_neg c9, st_k c9, e10]
          by_cases c8 : k = 8
          · rw [if_pos c8, c8, st_eq]
          · rw [if_neg c8, st_k c8]
  refine ⟨fun c c1 _ _ _ => ?_, ⟨?_, ?_⟩, ⟨?_, ?_, ?_, ?_⟩, ?_, ?_⟩
  · rw [e13, st_row c1, e12, st_row c1, e11, st_row c1, e10, st_row c1, r7 c c1]
  · rw [a24, if_pos rfl]
  · rw [e13, st_row (by decide), e12, st_row (by decide), e11, st_row (by decide), e10, st_row (by decide), r7 27 (by decide)]
  · rw [a24, if_neg (by decide), if_neg (by decide), if_neg (by decide), if_neg (by decide), e7, st_k (by decide), e2, st_eq]; exact hb
  · rw [a24, if_neg (by decide), if_neg (by decide), if_neg (by decide), if_neg (by decide), e7, st_eq]
    rw [r2 5 (by decide)]
    refine b10_w (b10_andn (b10_andn b3 (wh_kn hW).2) h5.2) (fun k _ => ?_)
    unfold fre sr
    cases inP P k with
    | false => rfl
    | true => cases (s k == 0) <;> rfl
  · rw [a24, if_neg (by decide), if_neg (by decide), if_neg (by decide), if_pos rfl]; exact b8
  · rw [a24, if_neg (by decide), if_neg (by decide), if_pos rfl]
  · rw [a24, if_neg (by decide), if_pos rfl]
  · rw [a24, if_neg (by decide), if_neg (by decide), if_neg (by decide), if_neg (by decide), e7, st_k (by decide), e2, st_k (by decide), e1, st_eq]
theorem gat_pc {P g x se : Int} {s h kn : Nat → Int} {w : Wd} (hP : 0 ≤ P ∧ P ≤ 10) (hW : WH x s P) (h3 : w 5 3 = P) (h5 : B10 (w 5 5) (hB P h)) (hg : 1 ≤ g ∧ g ≤ 3) (h7 : w 5 7 = g) (hkn : ∀ j : Nat, (j : Int) < P → w 7 j = kn j ∧ 0 ≤ kn j ∧ kn j ≤ 1023) (hr : ROK w) (hlt : w 24 4 < 2147483647) : PC (f_M_gather x se w) (fun _ u => GA P se kn (gs P s) (fre P s h) (sty P s g) w u) := by
  unfold f_M_gather
  obtain ⟨r1, e1, b1⟩ := og_e hW w
  rw [e1, jc_s]
  refine pc_call (prep_pc hP hW h3 h5 hg h7 b1 hr hlt) (fun r3 u q => ?_)
  obtain ⟨q1, ⟨q2, q3⟩, ⟨q4, q5, q6, q7⟩, q8, q9⟩ := q
  have novis : ∀ m, ¬ vis (u 24 4) u m := fun m hv => by
    have h1 := hv.2
    rw [q3, q2] at h1
    have := hr.2 m.toNat (by have := hv.1; omega)
    omega
  have hM : MCx P se (u 24 4) kn (gs P s) (fre P s h) (sty P s g) u := ⟨by rw [q1 5 (by decide) (by decide) (by decide) (by decide)]; exact h3, fun j hj => by rw [q1 7 (by decide) (by decide) (by decide) (by decide)]; exact (hkn j hj).1, q4, q5, q6, q7, rfl⟩
  have hL : LSx (u 24 4) (MOV P se kn (gs P s) (fre P s h) (sty P s g)) u := ⟨by omega, fun k hk => by omega, fun i j hi hj => by omega, fun m hm => absurd hm (novis m), fun k hk => by omega⟩
  refine pc_call (spr_pc hP gs_fre (fun j hj => (hkn j hj).2) 16 (d := 0) (f := 0) (m := 0) (b := -1) hM hL ⟨rfl, rfl⟩ (Or.inl ⟨q8, rfl⟩)) (fun r5 v q' => pc_some ?_)
  obtain ⟨p1, p2, p3, p4, p5, p6⟩ := q'
  have v4 : v 24 4 = u 24 4 := p1.2.1 4 (by decide)
  have all : ∀ (d : Nat) (f m : Int), DRC P se kn (gs P s) (fre P s h) (sty P s g) d f m → vis (u 24 4) v m := by
    intro d
    induction d with
    | zero => rintro f m ⟨_, e⟩; rw [e]; exact p5
    | succ d ih =>
      rintro f m ⟨f0, m0, h0, hc⟩
      rcases p6 m0 (ih f0 m0 h0) with h1 | h1
      · exact absurd h1 (novis m0)
      · exact h1 d f0 f m h0 hc
  refine ⟨fun c a1 a2 a3 a4 => (p1.1 c a1 a2 a3 a4).trans (q1 c a1 a2 a3 a4), ⟨by rw [v4, q2], ?_⟩, ⟨by rw [p1.2.1 6 (by decide)]; exact q4, by rw [p1.2.1 7 (by decide)]; exact q5, by rw [p1.2.1 8 (by decide)]; exact q6, by rw [p1.2.1 9 (by decide)]; exact q7⟩, by rw [v4]; exact p2, fun m hm => ?_⟩
  · unfold ROK
    rw [v4, q2]
    have := hr.1
    refine ⟨by omega, fun k hk => ?_⟩
    rcases p1.2.2 k with e | e
    · rw [e, q3]; have := hr.2 k hk; omega
    · rw [e, q2]; exact Int.le_refl _
  · obtain ⟨d, f, h0⟩ := hm
    exact p2.2.2.2.1 m (all d f m h0)
/-- whatever it starts from: what stays as it was -/
theorem spf_pc : ∀ (D : Nat) {f m b : Int} {w : Wd}, PC (f_M_spread D f m b w) (fun _ u => FM w u) := by
  intro D
  induction D with
  | zero => intros; exact pc_none
  | succ D ih =>
    intro f m b w
    rw [f_M_spread]
    unfold f_M_spread_b
    have s135 : ∀ {k83 : Int → Int → Int → Wd → Option (Int × Wd)} {v2 v4 v5 : Int}, (∀ u, FM w u → PC (k83 v2 v4 (w32 (v5 + 1)) u) (fun _ u => FM w u)) → ∀ (n : Nat) {v6 v7 : Int} {u : Wd}, FM w u → PC (f_M_spread_135 (f_M_spread D) k83 n v2 v4 v5 v6 v7 u) (fun _ u => FM w u) := by
      intro k83 v2 v4 v5 hk n
      induction n with
      | zero => intros; exact pc_none
      | succ n ihn =>
        intro v6 v7 u hu
        rw [f_M_spread_135]
        refine pc_ite (fun _ => pc_let (fun x e => by rw [e]; exact hk u hu)) (fun _ => ?_)
        refine pc_ite (fun _ => pc_let (fun x e => by rw [e]; exact hk u hu)) (fun _ => ?_)
        refine pc_let (fun x9 _ => pc_let (fun x10 _ => ?_))
        have hbc : ∀ z : Int, PC (f_JI_bitCount z u) (fun _ u' => u' = u) := fun z => by
          show PC (some (bcI z, u)) _
          exact pc_some rfl
        refine pc_call (hbc _) (fun r11 u12 q => ?_)
        rw [q]
        refine pc_ite (fun _ => pc_let (fun x _ => ihn hu)) (fun _ => ?_)
        exact pc_call ih (fun r14 u15 q2 => pc_let (fun x _ => ihn (fm_tr hu q2)))
    have s83 : ∀ (n : Nat) {v2 v4 v5 : Int} {u : Wd}, FM w u → PC (f_M_spread_83 (f_M_spread D) n v2 v4 v5 u) (fun _ u => FM w u) := by
      intro n
      induction n with
      | zero => intros; exact pc_none
      | succ n ihn =>
        intro v2 v4 v5 u hu
        rw [f_M_spread_83]
        refine pc_gd (fun _ => pc_ite (fun _ => pc_some hu) (fun _ => ?_))
        have hhas : ∀ x k : Int, PC (f_E_has x k u) (fun _ u' => u' = u) := fun x k => by
          unfold f_E_has
          refine pc_ite (fun _ => pc_some rfl) (fun _ => pc_ite (fun _ => pc_some rfl) (fun _ => pc_ite (fun _ => pc_some rfl) (fun _ => pc_some rfl)))
        refine pc_call (hhas _ _) (fun r6 u7 q => ?_)
        rw [q]
        refine pc_ite (fun _ => s135 (fun y hy => ihn hy) FU hu) (fun _ => pc_gd (fun _ => pc_gd (fun _ => s135 (fun y hy => ihn hy) FU hu)))
    refine pc_ite (fun _ => pc_some (fm_self w)) (fun _ => ?_)
    refine pc_ite (fun _ => pc_some (fm_self w)) (fun _ => ?_)
    refine pc_ite (fun _ => ?_) (fun _ => pc_some (fm_self w))
    refine pc_gd (fun _ => pc_ite (fun _ => pc_some (fm_self w)) (fun _ => ?_))
    refine pc_let (fun x1 e1 => pc_gd (fun _ => pc_lw (fun u2 e2 => pc_gd (fun _ => pc_lw (fun u3 e3 => pc_gd (fun _ => pc_lw (fun u4 e4 => pc_lw (fun u5 e5 => s83 FU ?_))))))))
    refine ⟨fun c a1 a2 a3 a4 => ?_, fun k hk => ?_, fun k => ?_⟩
    · rw [e5, st_row a1, e4, st_row a3, e3, st_row a2, e2, st_row a4]
    · rw [e5, st_k hk, e4, st_c (by decide), e3, st_c (by decide), e2, st_c (by decide)]
    · rw [e5, st_c (by decide), e4, st_c (by decide), e3, st_c (by decide), e2]
      by_cases ck : k = m.toNat
      · rw [ck, st_eq]; exact Or.inr rfl
      · rw [st_k ck]; exact Or.inl rfl
/-! PAIRS: the class -/
theorem mo_pc {k : Int} {u : Wd} (h : 0 ≤ k ∧ k < u 24 3) : PC (f_M_moversOf k u) (fun r v => v = u ∧ r = u 25 k.toNat) := by
  unfold f_M_moversOf
  rw [if_neg (by omega), if_neg (by omega)]
  exact pc_gd (fun _ => pc_some ⟨rfl, rfl⟩)
theorem ls_rg {rd : Int} {M : Int → Prop} {u : Wd} (h : LSx rd M u) {k : Nat} (hk : (k : Int) < u 24 3) : 0 ≤ u 25 k ∧ u 25 k ≤ 1023 := (h.2.1 k hk).1.1
theorem lw24 {rd : Int} {M : Int → Prop} {u : Wd} (hL : LSx rd M u) (h256 : u 24 3 ≤ 256) : ∀ (n : Nat) {v1 v2 : Int}, 0 ≤ v1 → v1 < u 24 3 → 0 ≤ v2 → (∀ k : Nat, (k : Int) < u 24 3 → (k : Int) < v2 → pn (bt (u 25 k)) 10 ≤ pn (bt (u 25 v1.toNat)) 10) → PC (f_E_largestWeek_24 n v1 v2 u) (fun r v => v = u ∧ (0 ≤ r ∧ r < u 24 3) ∧ ∀ k : Nat, (k : Int) < u 24 3 → pn (bt (u 25 k)) 10 ≤ pn (bt (u 25 r.toNat)) 10) := by
  intro n
  induction n with
  | zero => intros; exact pc_none
  | succ n ih =>
    intro v1 v2 i1 i2 i3 hm
    rw [f_E_largestWeek_24]
    refine pc_ite (fun c => pc_some ⟨rfl, ⟨i1, i2⟩, fun k hk => hm k hk (by omega)⟩) (fun c => ?_)
    refine pc_call (mo_pc (k := v2) (u := u) (by omega)) (fun r3 u4 q => ?_)
    rw [q.1, q.2, bc_self (ls_rg hL (k := v2.toNat) (by omega)), jc_s]
    refine pc_call (mo_pc (k := v1) (u := u) (by omega)) (fun r7 u8 q2 => ?_)
    rw [q2.1, q2.2, bc_self (ls_rg hL (k := v1.toNat) (by omega)), jc_s]
    unfold f_E_largestWeek_62
    refine pc_ite (fun c2 => ?_) (fun c2 => ?_)
    · refine pc_let (fun x e => ?_)
      rw [w32_id (by omega)] at e
      rw [e]
      refine ih i1 i2 (by omega) (fun k hk hlt => ?_)
      by_cases ck : (k : Int) < v2
      · exact hm k hk ck
      · rw [show k = v2.toNat by omega]; omega
    · refine pc_let (fun x e => ?_)
      rw [w32_id (by omega)] at e
      rw [e]
      refine ih i3 (by omega) (by omega) (fun k hk hlt => ?_)
      by_cases ck : (k : Int) < v2
      · have := hm k hk ck; omega
      · rw [show k = v2.toNat by omega]; exact Nat.le_refl _
theorem pf1_pc {x : Int} {w : Wd} (h : 0 ≤ w 3 1 ∧ w 3 1 < 20) : PC (f_N_putFirst x w) (fun _ u => u 3 1 = w 3 1 + 1 ∧ ∀ c, c ≠ 3 → c ≠ 4 → u c = w c) := pf_pc h
theorem lwst_pc (x : Int) (u : Wd) : PC (f_E_lowest x u) (fun _ v => v = u) := by
  unfold f_E_lowest
  refine pc_ite (fun _ => pc_some rfl) (fun _ => ?_)
  have : ∀ z : Int, PC (f_JI_bitCount z u) (fun _ u' => u' = u) := fun z => by
    show PC (some (bcI z, u)) _
    exact pc_some rfl
  exact pc_call (this _) (fun r v q => pc_some q)
/-- how many PAIRS are told -/
theorem tp9 {rd : Int} {M : Int → Prop} {u0 : Wd} (hL : LSx rd M u0) (h256 : u0 24 3 ≤ 256) : ∀ (n : Nat) {v3 v4 : Int} {u : Wd}, 0 ≤ v3 → v3 < u0 24 3 → 0 ≤ v4 → u 3 1 = v4 → (∀ c, c ≠ 3 → c ≠ 4 → u c = u0 c) → 2 * v4 + ((pn (bt (u0 25 v3.toNat)) 10 : Nat) : Int) ≤ 10 → PC (f_M_tellPairs_9 n v3 v4 u) (fun _ v => 2 * v 3 1 = 2 * v4 + ((pn (bt (u0 25 v3.toNat)) 10 : Nat) : Int) ∧ ∀ c, c ≠ 3 → c ≠ 4 → v c = u0 c) := by
  intro n
  induction n with
  | zero => intros; exact pc_none
  | succ n ih =>
    intro v3 v4 u i3 i3' i4 h3 hr hle
    rw [f_M_tellPairs_9, hr 24 (by decide) (by decide)]
    have p0 : (v3.toNat = 0 ∧ u0 25 v3.toNat = 0) → pn (bt (u0 25 v3.toNat)) 10 = 0 := fun e => by rw [e.2]; exact pn_0 (fun k _ => bt_0 k)
    have hp := hL.2.2.2.2 v3.toNat (by omega)
    have fin : pn (bt (u0 25 v3.toNat)) 10 = 0 → PC (some (0, u)) (fun (_ : Int) (v : Wd) => 2 * v 3 1 = 2 * v4 + ((pn (bt (u0 25 v3.toNat)) 10 : Nat) : Int) ∧ ∀ c, c ≠ 3 → c ≠ 4 → v c = u0 c) := fun e => pc_some ⟨by rw [h3, e]; omega, hr⟩
    refine pc_ite (fun c => fin (by omega)) (fun c => ?_)
    refine pc_ite (fun c2 => fin ?_) (fun c2 => ?_)
    · rcases hp with h1 | h1
      · exact p0 h1
      · omega
    refine pc_ite (fun c3 => by omega) (fun _ => ?_)
    refine pc_gd (fun _ => pc_gd (fun _ => ?_))
    rw [hr 26 (by decide) (by decide), hr 25 (by decide) (by decide)]
    have hp2 : 0 < v3.toNat ∧ 0 ≤ u0 26 v3.toNat ∧ u0 26 v3.toNat < ((v3.toNat : Nat) : Int) ∧ pn (bt (u0 25 v3.toNat)) 10 = pn (bt (u0 25 (u0 26 v3.toNat).toNat)) 10 + 2 := by
      rcases hp with h1 | h1
      · exfalso; omega
      · exact h1
    refine pc_call (mo_pc (k := u0 26 v3.toNat) (u := u) (by rw [hr 24 (by decide) (by decide)]; omega)) (fun r3 u4 q => ?_)
    rw [q.1]
    refine pc_let (fun x5 _ => ?_)
    refine pc_call (lwst_pc _ _) (fun r6 u7 q6 => ?_)
    rw [q6]
    refine pc_call (lwst_pc _ _) (fun r8 u9 q8 => ?_)
    rw [q8]
    refine pc_call (pf_pc (w := u) (by omega)) (fun r10 u11 q10 => ?_)
    refine pc_gd (fun _ => pc_let (fun x12 e12 => pc_let (fun x13 e13 => ?_)))
    rw [w32_id (by omega)] at e13
    have r11 : ∀ c, c ≠ 3 → c ≠ 4 → u11 c = u0 c := fun c a b => (q10.2 c a b).trans (hr c a b)
    rw [r11 26 (by decide) (by decide)] at e12
    rw [e12, e13]
    refine pc_w (ih (v3 := u0 26 v3.toNat) (v4 := v4 + 1) (u := u11) hp2.2.1 (by omega) (by omega) (by rw [q10.1, h3]) r11 (by omega)) (fun _ v z => ⟨by omega, z.2⟩)
theorem tp_pc {rd : Int} {M : Int → Prop} {u : Wd} (hL : LSx rd M u) (h256 : u 24 3 ≤ 256) {k : Int} (hk : 0 ≤ k ∧ k < u 24 3) : PC (f_M_tellPairs k u) (fun _ v => 2 * v 3 1 = ((pn (bt (u 25 k.toNat)) 10 : Nat) : Int) ∧ ∀ c, c ≠ 3 → c ≠ 4 → v c = u c) := by
  unfold f_M_tellPairs f_N_clear
  refine pc_call (P := fun _ v => v = st u 3 1 0) (pc_lw (fun u1 e1 => pc_some e1)) (fun r v e => ?_)
  have hle := pn_le (bt (u 25 k.toNat)) 10
  refine pc_w (tp9 hL h256 FU (v3 := k) (v4 := 0) (u := v) hk.1 hk.2 (by decide) (by rw [e, st_eq]) (fun c a b => by rw [e, st_row a]) (by omega)) (fun _ v z => ⟨by omega, z.2⟩)
