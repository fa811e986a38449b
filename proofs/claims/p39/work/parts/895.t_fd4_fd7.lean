/-! EVERY METHOD KEEPS ALL THAT BOTH HAVE IN COMMON -/
theorem w0_FC : FC w0 := by
  have e : w0 43 0 = 0 ∧ w0 5 5 = 0 ∧ w0 5 4 = 0 ∧ (w0 5 6 = w0 43 7 ∧ w0 15 3 = 0 ∧ w0 43 8 = 0 ∧ w0 15 4 = 0 ∧ w0 43 32 = 0) ∧ (w0 16 0 = 0 ∧ w0 50 0 = 0) ∧ (w0 37 2 = 0 ∧ w0 40 2 = 0) ∧ (1 ≤ w0 43 10 ∧ w0 43 10 ≤ 3) ∧ 1 ≤ w0 43 11 ∧ w0 43 11 ≤ 10 := by decide +kernel
  obtain ⟨e0, e55, e54, ⟨e56, e15, e8, e154, e32⟩, ⟨e16, e50⟩, ⟨e37, e40⟩, eg, es⟩ := e
  have ip : ∀ k : Nat, inP 0 k = false := fun k => decide_eq_false (by omega)
  have wt : ∀ t : Nat, (t : Int) ≤ 0 → t = 0 := fun t h => by omega
  refine ⟨w0_LI.2, fun j hj => ?_, ?_, ?_, ⟨e56, by rw [e15, e8], by rw [e154, e32]⟩, fun t ht => ?_, ?_, fun t ht => ?_, fun h => absurd e37 h, fun h => absurd e40 h, eg, es⟩
  · rw [e0] at hj; omega
  · rw [e55, e0]
    exact b10_w b10_0 (fun k _ => by unfold hB; rw [ip k]; rfl)
  · rw [e54, e0]
    refine ⟨by decide, fun k _ => ?_, fun k hk => by omega⟩
    rw [ip k, bt_0, bt_0, bt_0]
    exact ⟨rfl, rfl, rfl⟩
  · rw [e8] at ht
    rw [wt t ht, e16, e50]
  · rw [e0, e8]
    refine ⟨fun j hj => by omega, fun j hj => by omega, ?_, fun t ht => ?_⟩
    · show B10 (w0 50 0) _
      rw [e50]
      exact b10_w b10_0 (fun k _ => by unfold gs; rw [ip k]; rfl)
    · rw [wt t ht, e50]
      exact ⟨by decide, fun j _ hb => by rw [bt_0] at hb; cases hb⟩
  · rw [e32] at ht; omega
theorem w0_LU : LU w0 := ⟨⟨w0_RS, w0_FC⟩, Or.inl (by decide +kernel)⟩
theorem d_sign {w : Wd} {v1 : Int} (h : LU w) (i_v1 : ((-2147483648 : Int) ≤ v1 ∧ v1 ≤ 2147483647)) : OK (f_E_sign v1 w) (fun r1 u1 => OK (f_R_sign v1 u1) (fun r2 u2 => LU u2 ∧ r1 = r2)) := ok_w (ok_pc (c_sign (lf_li h.1) i_v1) (pc_ok (e_E_sign h.1.1 i_v1))) (fun r1 u1 q1 => ok_w (ok_pc q1.1 (pc_ok (e_R_sign q1.2.2.1 i_v1))) (fun r2 u2 q2 => ⟨⟨⟨q2.1.1.1, fc_fr2 h.1.2 q2.1.1.2 (fr_tr (fr_g q1.2.1 rfl) (fr_g q2.2.1 rfl))⟩, ru_fr h.2 (fr_tr (fr_g q1.2.1 rfl) (fr_g q2.2.1 rfl))⟩, q2.1.2⟩))
theorem d_end {w : Wd} {v1 : Int} (h : LU w) (i_v1 : ((-2147483648 : Int) ≤ v1 ∧ v1 ≤ 2147483647)) : OK (f_E_end v1 w) (fun r1 u1 => OK (f_R_end v1 u1) (fun r2 u2 => LU u2 ∧ r1 = r2)) := ok_w (ok_pc (c_end (lf_li h.1) i_v1) (pc_ok (e_E_end h.1.1 i_v1))) (fun r1 u1 q1 => ok_w (ok_pc q1.1 (pc_ok (e_R_end q1.2.2.1 i_v1))) (fun r2 u2 q2 => ⟨⟨⟨q2.1.1.1, fc_fr2 h.1.2 q2.1.1.2 (fr_tr (fr_g q1.2.1 rfl) (fr_g q2.2.1 rfl))⟩, ru_fr h.2 (fr_tr (fr_g q1.2.1 rfl) (fr_g q2.2.1 rfl))⟩, q2.1.2⟩))
theorem d_land {w : Wd} (h : LU w) : OK (f_E_land w) (fun r1 u1 => OK (f_R_land u1) (fun r2 u2 => LU u2 ∧ r1 = r2)) := ok_w (ok_pc (k_land h.1) (pc_ok (e_E_land h.1.1))) (fun r1 u1 q1 => ok_w (ok_pc q1.1 (pc_ok (e_R_land q1.2.2.1))) (fun r2 u2 q2 => ⟨⟨q2.1.1, ru_fr h.2 (fr_tr (fr_g q1.2.1 rfl) (fr_g q2.2.1 rfl))⟩, q2.1.2⟩))
theorem d_rule {w : Wd} (h : LU w) : OK (f_E_rule w) (fun r1 u1 => OK (f_R_rule u1) (fun r2 u2 => LU u2 ∧ r1 = r2)) := k_rule h.1 h.2
theorem d_of {w : Wd} {v1 v2 : Int} (h : LU w) (i_v1 : ((-2147483648 : Int) ≤ v1 ∧ v1 ≤ 2147483647)) (i_v2 : ((-2147483648 : Int) ≤ v2 ∧ v2 ≤ 2147483647)) : OK (f_A_of v1 v2 w) (fun r1 u1 => OK (f_R_of v1 v2 u1) (fun r2 u2 => LU u2 ∧ True)) := ok_w (ok_pc (c_of (lf_li h.1) i_v1 i_v2) (pc_ok (e_A_of h.1.1 i_v1 i_v2))) (fun r1 u1 q1 => ok_w (ok_pc q1.1 (pc_ok (e_R_of q1.2.1 i_v1 i_v2))) (fun r2 u2 q2 => ⟨⟨⟨q2.1.1.1, fc_fr2 h.1.2 q2.1.1.2 (fr_tr (fr_82 q1.2.2) (fr_g q2.2.1 rfl))⟩, ru_fr h.2 (fr_tr (fr_82 q1.2.2) (fr_g q2.2.1 rfl))⟩, q2.1.2⟩))
theorem d_law {w : Wd} {v1 v2 : Int} (h : LU w) (i_v1 : ((-2147483648 : Int) ≤ v1 ∧ v1 ≤ 2147483647)) (i_v2 : ((-2147483648 : Int) ≤ v2 ∧ v2 ≤ 2147483647)) : OK (f_E_law v1 v2 w) (fun r1 u1 => OK (f_R_law v1 v2 u1) (fun r2 u2 => LU u2 ∧ r1 = r2)) := ok_w (ok_pc (k_law h.1 i_v1 i_v2) (pc_ok (e_E_law h.1.1 i_v1 i_v2))) (fun r1 u1 q1 => ok_w (ok_pc q1.1 (pc_ok (e_R_law q1.2.2 i_v1 i_v2))) (fun r2 u2 q2 => ⟨⟨q2.1.1, ru_fr h.2 (fr_tr (fr_g q1.2.1 rfl) (fr_g q2.2.1 rfl))⟩, q2.1.2⟩))
theorem d_meet {w : Wd} {v1 v2 v3 : Int} (h : LU w) (i_v1 : ((-2147483648 : Int) ≤ v1 ∧ v1 ≤ 2147483647)) (i_v2 : ((-2147483648 : Int) ≤ v2 ∧ v2 ≤ 2147483647)) (i_v3 : ((0 : Int) ≤ v3 ∧ v3 ≤ 1)) : OK (f_E_meet v1 v2 v3 w) (fun r1 u1 => OK (f_R_meet v1 v2 v3 u1) (fun r2 u2 => LU u2 ∧ r1 = r2)) := ok_w (ok_pc (k_meet h.1 i_v1 i_v2 i_v3) (pc_ok (e_E_meet h.1.1 i_v1 i_v2 i_v3))) (fun r1 u1 q1 => ok_w (ok_pc q1.1 (pc_ok (e_R_meet q1.2.2 i_v1 i_v2 i_v3))) (fun r2 u2 q2 => ⟨⟨q2.1.1, ru_fr h.2 (fr_tr (fr_g q1.2.1 rfl) (fr_g q2.2.1 rfl))⟩, q2.1.2⟩))
theorem d_hide {w : Wd} {v1 v2 : Int} (h : LU w) (i_v1 : ((-2147483648 : Int) ≤ v1 ∧ v1 ≤ 2147483647)) (i_v2 : ((0 : Int) ≤ v2 ∧ v2 ≤ 1)) : OK (f_E_hide v1 v2 w) (fun r1 u1 => OK (f_R_hide v1 v2 u1) (fun r2 u2 => LU u2 ∧ r1 = r2)) := ok_w (ok_pc (k_hide h.1 i_v1 i_v2) (pc_ok (e_E_hide h.1.1 i_v1 i_v2))) (fun r1 u1 q1 => ok_w (ok_pc q1.1 (pc_ok (e_R_hide q1.2.2 i_v1 i_v2))) (fun r2 u2 q2 => ⟨⟨q2.1.1, ru_fr h.2 (fr_tr (fr_g q1.2.1 rfl) (fr_g q2.2.1 rfl))⟩, q2.1.2⟩))
theorem d_baby {w : Wd} {v1 : Int} (h : LU w) (i_v1 : ((-2147483648 : Int) ≤ v1 ∧ v1 ≤ 2147483647)) : OK (f_E_baby v1 w) (fun r1 u1 => OK (f_R_baby v1 u1) (fun r2 u2 => LU u2 ∧ r1 = r2)) := ok_w (ok_pc (k_baby h.1 i_v1) (pc_ok (e_E_baby h.1.1 i_v1))) (fun r1 u1 q1 => ok_w (ok_pc q1.1 (pc_ok (e_R_baby q1.2.2 i_v1))) (fun r2 u2 q2 => ⟨⟨q2.1.1, ru_fr h.2 (fr_tr (fr_g q1.2.1 rfl) (fr_g q2.2.1 rfl))⟩, q2.1.2⟩))
theorem d_sheet {w : Wd} {v1 v2 v3 v4 : Int} (h : LU w) (i_v1 : ((-2147483648 : Int) ≤ v1 ∧ v1 ≤ 2147483647)) (i_v2 : ((-2147483648 : Int) ≤ v2 ∧ v2 ≤ 2147483647)) (i_v3 : ((-2147483648 : Int) ≤ v3 ∧ v3 ≤ 2147483647)) (i_v4 : ((-2147483648 : Int) ≤ v4 ∧ v4 ≤ 2147483647)) : OK (f_E_sheet v1 v2 v3 v4 w) (fun r1 u1 => OK (f_R_sheet v1 v2 v3 v4 u1) (fun r2 u2 => LU u2 ∧ r1 = r2)) := ok_w (ok_pc (k_sheet h.1 i_v1 i_v2 i_v3 i_v4) (pc_ok (e_E_sheet h.1.1 i_v1 i_v2 i_v3 i_v4))) (fun r1 u1 q1 => ok_w (ok_pc q1.1 (pc_ok (e_R_sheet q1.2.2 i_v1 i_v2 i_v3 i_v4))) (fun r2 u2 q2 => ⟨⟨q2.1.1, ru_fr h.2 (fr_tr (fr_g q1.2.1 rfl) (fr_g q2.2.1 rfl))⟩, q2.1.2⟩))
theorem d_week {w : Wd} (h : LU w) : OK (f_E_week w) (fun r1 u1 => OK (f_R_week u1) (fun r2 u2 => LU u2 ∧ r1 = r2)) := k_week h
theorem d_goes {w : Wd} {v1 : Int} (h : LU w) (i_v1 : ((-2147483648 : Int) ≤ v1 ∧ v1 ≤ 2147483647)) : OK (f_E_goes v1 w) (fun r1 u1 => OK (f_R_goes v1 u1) (fun r2 u2 => LU u2 ∧ r1 = r2)) := k_goes h i_v1
theorem d_undo {w : Wd} (h : LU w) : OK (f_E_undo w) (fun r1 u1 => OK (f_R_undo u1) (fun r2 u2 => LU u2 ∧ r1 = r2)) := ok_w (ok_pc (k_undo h.1) (pc_ok (e_E_undo h.1.1))) (fun r1 u1 q1 => ok_w (ok_pc q1.1 (pc_ok (e_R_undo q1.2.2))) (fun r2 u2 q2 => ⟨⟨q2.1.1, ru_fr h.2 (fr_tr (fr_g q1.2.1 rfl) (fr_g q2.2.1 rfl))⟩, q2.1.2⟩))
theorem d_can {w : Wd} (h : LU w) : OK (f_E_can w) (fun r1 u1 => OK (f_R_can u1) (fun r2 u2 => LU u2 ∧ True)) := ok_w (ok_pc (c_can (lf_li h.1)) (pc_ok (e_E_can h.1.1))) (fun r1 u1 q1 => ok_w (ok_pc q1.1 (pc_ok (e_R_can q1.2.2))) (fun r2 u2 q2 => ⟨⟨⟨q2.1.1.1, fc_fr2 h.1.2 q2.1.1.2 (fr_tr (fr_g q1.2.1 rfl) (fr_g q2.2.1 rfl))⟩, ru_fr h.2 (fr_tr (fr_g q1.2.1 rfl) (fr_g q2.2.1 rfl))⟩, q2.1.2⟩))
theorem d_picks {w : Wd} {v1 : Int} (h : LU w) (i_v1 : ((-2147483648 : Int) ≤ v1 ∧ v1 ≤ 2147483647)) : OK (f_E_picks v1 w) (fun r1 u1 => OK (f_R_picks v1 u1) (fun r2 u2 => LU u2 ∧ r1 = r2)) := k_picks h i_v1
theorem d_pairs {w : Wd} (h : LU w) : OK (f_E_pairs w) (fun r1 u1 => OK (f_R_pairs u1) (fun r2 u2 => LU u2 ∧ True)) := ok_w (ok_pc (c_pairs (lf_li h.1)) (pc_ok (e_E_pairs h.1.1))) (fun r1 u1 q1 => ok_w (ok_pc q1.1 (pc_ok (e_R_pairs q1.2.2))) (fun r2 u2 q2 => ⟨⟨⟨q2.1.1.1, fc_fr2 h.1.2 q2.1.1.2 (fr_tr (fr_g q1.2.1 rfl) (fr_g q2.2.1 rfl))⟩, ru_fr h.2 (fr_tr (fr_g q1.2.1 rfl) (fr_g q2.2.1 rfl))⟩, q2.1.2⟩))
theorem d_bars {w : Wd} (h : LU w) : OK (f_E_bars w) (fun r1 u1 => OK (f_R_bars u1) (fun r2 u2 => LU u2 ∧ True)) := ok_w (ok_pc (c_bars (lf_li h.1)) (pc_ok (e_E_bars h.1.1))) (fun r1 u1 q1 => ok_w (ok_pc q1.1 (pc_ok (e_R_bars q1.2.2))) (fun r2 u2 q2 => ⟨⟨⟨q2.1.1.1, fc_fr2 h.1.2 q2.1.1.2 (fr_tr (fr_g q1.2.1 rfl) (fr_g q2.2.1 rfl))⟩, ru_fr h.2 (fr_tr (fr_g q1.2.1 rfl) (fr_g q2.2.1 rfl))⟩, q2.1.2⟩))
theorem d_states {w : Wd} (h : LU w) : OK (f_E_states w) (fun r1 u1 => OK (f_R_states u1) (fun r2 u2 => LU u2 ∧ True)) := ok_w (ok_pc (c_states (lf_li h.1)) (pc_ok (e_E_states h.1.1))) (fun r1 u1 q1 => ok_w (ok_pc q1.1 (pc_ok (e_R_states q1.2.2))) (fun r2 u2 q2 => ⟨⟨⟨q2.1.1.1, fc_fr2 h.1.2 q2.1.1.2 (fr_tr (fr_g q1.2.1 rfl) (fr_g q2.2.1 rfl))⟩, ru_fr h.2 (fr_tr (fr_g q1.2.1 rfl) (fr_g q2.2.1 rfl))⟩, q2.1.2⟩))
theorem d_most {w : Wd} {v1 : Int} (h : LU w) (i_v1 : ((-2147483648 : Int) ≤ v1 ∧ v1 ≤ 2147483647)) : OK (f_E_most v1 w) (fun r1 u1 => OK (f_R_most v1 u1) (fun r2 u2 => LU u2 ∧ True)) := ok_w (ok_pc (c_most (lf_li h.1) i_v1) (pc_ok (e_E_most h.1.1 i_v1))) (fun r1 u1 q1 => ok_w (ok_pc q1.1 (pc_ok (e_R_most q1.2.2 i_v1))) (fun r2 u2 q2 => ⟨⟨⟨q2.1.1.1, fc_fr2 h.1.2 q2.1.1.2 (fr_tr (fr_g q1.2.1 rfl) (fr_g q2.2.1 rfl))⟩, ru_fr h.2 (fr_tr (fr_g q1.2.1 rfl) (fr_g q2.2.1 rfl))⟩, q2.1.2⟩))
theorem d_reach {w : Wd} {v1 : Int} (h : LU w) (i_v1 : ((-2147483648 : Int) ≤ v1 ∧ v1 ≤ 2147483647)) : OK (f_E_reach v1 w) (fun r1 u1 => OK (f_R_reach v1 u1) (fun r2 u2 => LU u2 ∧ True)) := ok_w (ok_pc (c_reach (lf_li h.1) i_v1) (pc_ok (e_E_reach h.1.1 i_v1))) (fun r1 u1 q1 => ok_w (ok_pc q1.1 (pc_ok (e_R_reach q1.2.2 i_v1))) (fun r2 u2 q2 => ⟨⟨⟨q2.1.1.1, fc_fr2 h.1.2 q2.1.1.2 (fr_tr (fr_g q1.2.1 rfl) (fr_g q2.2.1 rfl))⟩, ru_fr h.2 (fr_tr (fr_g q1.2.1 rfl) (fr_g q2.2.1 rfl))⟩, q2.1.2⟩))
theorem d_fewest {w : Wd} {v1 : Int} (h : LU w) (i_v1 : ((-2147483648 : Int) ≤ v1 ∧ v1 ≤ 2147483647)) : OK (f_E_fewest v1 w) (fun r1 u1 => OK (f_R_fewest v1 u1) (fun r2 u2 => LU u2 ∧ True)) := ok_w (ok_pc (c_fewest (lf_li h.1) i_v1) (pc_ok (e_E_fewest h.1.1 i_v1))) (fun r1 u1 q1 => ok_w (ok_pc q1.1 (pc_ok (e_R_fewest q1.2.2 i_v1))) (fun r2 u2 q2 => ⟨⟨⟨q2.1.1.1, fc_fr2 h.1.2 q2.1.1.2 (fr_tr (fr_g q1.2.1 rfl) (fr_g q2.2.1 rfl))⟩, ru_fr h.2 (fr_tr (fr_g q1.2.1 rfl) (fr_g q2.2.1 rfl))⟩, q2.1.2⟩))
theorem d_crowd {w : Wd} (h : LU w) : OK (f_E_crowd w) (fun r1 u1 => OK (f_R_crowd u1) (fun r2 u2 => LU u2 ∧ True)) := ok_w (ok_pc (c_crowd (lf_li h.1)) (pc_ok (e_E_crowd h.1.1))) (fun r1 u1 q1 => ok_w (ok_pc q1.1 (pc_ok (e_R_crowd q1.2.2))) (fun r2 u2 q2 => ⟨⟨⟨q2.1.1.1, fc_fr2 h.1.2 q2.1.1.2 (fr_tr (fr_g q1.2.1 rfl) (fr_g q2.2.1 rfl))⟩, ru_fr h.2 (fr_tr (fr_g q1.2.1 rfl) (fr_g q2.2.1 rfl))⟩, q2.1.2⟩))
theorem d_both {w : Wd} {v1 v2 v3 : Int} (h : LU w) (i_v1 : ((-2147483648 : Int) ≤ v1 ∧ v1 ≤ 2147483647)) (i_v2 : ((-2147483648 : Int) ≤ v2 ∧ v2 ≤ 2147483647)) (i_v3 : ((-2147483648 : Int) ≤ v3 ∧ v3 ≤ 2147483647)) : OK (f_E_both v1 v2 v3 w) (fun r1 u1 => OK (f_R_both v1 v2 v3 u1) (fun r2 u2 => LU u2 ∧ True)) := ok_w (ok_pc (c_both (lf_li h.1) i_v1 i_v2 i_v3) (pc_ok (e_E_both h.1.1 i_v1 i_v2 i_v3))) (fun r1 u1 q1 => ok_w (ok_pc q1.1 (pc_ok (e_R_both q1.2.2 i_v1 i_v2 i_v3))) (fun r2 u2 q2 => ⟨⟨⟨q2.1.1.1, fc_fr2 h.1.2 q2.1.1.2 (fr_tr (fr_g q1.2.1 rfl) (fr_g q2.2.1 rfl))⟩, ru_fr h.2 (fr_tr (fr_g q1.2.1 rfl) (fr_g q2.2.1 rfl))⟩, q2.1.2⟩))
theorem d_last {w : Wd} (h : LU w) : OK (f_E_last w) (fun r1 u1 => OK (f_R_last u1) (fun r2 u2 => LU u2 ∧ True)) := ok_w (ok_pc (c_last (lf_li h.1)) (pc_ok (e_E_last h.1.1))) (fun r1 u1 q1 => ok_w (ok_pc q1.1 (pc_ok (e_R_last q1.2.2))) (fun r2 u2 q2 => ⟨⟨⟨q2.1.1.1, fc_fr2 h.1.2 q2.1.1.2 (fr_tr (fr_g q1.2.1 rfl) (fr_g q2.2.1 rfl))⟩, ru_fr h.2 (fr_tr (fr_g q1.2.1 rfl) (fr_g q2.2.1 rfl))⟩, q2.1.2⟩))
theorem d_begin {w : Wd} (h : LU w) : OK (f_E_begin w) (fun r1 u1 => OK (f_R_begin2 u1) (fun r2 u2 => LU u2 ∧ True)) := ok_w (ok_pc (c_begin (lf_li h.1)) (pc_ok (e_E_begin h.1.1))) (fun r1 u1 q1 => ok_w (ok_pc q1.1 (pc_ok (e_R_begin2 q1.2.2))) (fun r2 u2 q2 => ⟨⟨⟨q2.1.1.1, fc_fr2 h.1.2 q2.1.1.2 (fr_tr (fr_g q1.2.1 rfl) (fr_g q2.2.1 rfl))⟩, ru_fr h.2 (fr_tr (fr_g q1.2.1 rfl) (fr_g q2.2.1 rfl))⟩, q2.1.2⟩))
theorem d_cheap {w : Wd} {v1 : Int} (h : LU w) (i_v1 : ((-2147483648 : Int) ≤ v1 ∧ v1 ≤ 2147483647)) : OK (f_E_cheap v1 w) (fun r1 u1 => OK (f_R_cheap v1 u1) (fun r2 u2 => LU u2 ∧ True)) := ok_w (ok_pc (c_cheap (lf_li h.1) i_v1) (pc_ok (e_E_cheap h.1.1 i_v1))) (fun r1 u1 q1 => ok_w (ok_pc q1.1 (pc_ok (e_R_cheap q1.2.2 i_v1))) (fun r2 u2 q2 => ⟨⟨⟨q2.1.1.1, fc_fr2 h.1.2 q2.1.1.2 (fr_tr (fr_g q1.2.1 rfl) (fr_g q2.2.1 rfl))⟩, ru_fr h.2 (fr_tr (fr_g q1.2.1 rfl) (fr_g q2.2.1 rfl))⟩, q2.1.2⟩))
theorem d_stays {w : Wd} {v1 : Int} (h : LU w) (i_v1 : ((-2147483648 : Int) ≤ v1 ∧ v1 ≤ 2147483647)) : OK (f_E_stays v1 w) (fun r1 u1 => OK (f_R_stays v1 u1) (fun r2 u2 => LU u2 ∧ True)) := ok_w (ok_pc (c_stays (lf_li h.1) i_v1) (pc_ok (e_E_stays h.1.1 i_v1))) (fun r1 u1 q1 => ok_w (ok_pc q1.1 (pc_ok (e_R_stays q1.2.2 i_v1))) (fun r2 u2 q2 => ⟨⟨⟨q2.1.1.1, fc_fr2 h.1.2 q2.1.1.2 (fr_tr (fr_g q1.2.1 rfl) (fr_g q2.2.1 rfl))⟩, ru_fr h.2 (fr_tr (fr_g q1.2.1 rfl) (fr_g q2.2.1 rfl))⟩, q2.1.2⟩))
theorem d_soonest {w : Wd} {v1 : Int} (h : LU w) (i_v1 : ((-2147483648 : Int) ≤ v1 ∧ v1 ≤ 2147483647)) : OK (f_E_soonest v1 w) (fun r1 u1 => OK (f_R_soonest v1 u1) (fun r2 u2 => LU u2 ∧ True)) := ok_w (ok_pc (c_soonest (lf_li h.1) i_v1) (pc_ok (e_E_soonest h.1.1 i_v1))) (fun r1 u1 q1 => ok_w (ok_pc q1.1 (pc_ok (e_R_soonest q1.2.2 i_v1))) (fun r2 u2 q2 => ⟨⟨⟨q2.1.1.1, fc_fr2 h.1.2 q2.1.1.2 (fr_tr (fr_g q1.2.1 rfl) (fr_g q2.2.1 rfl))⟩, ru_fr h.2 (fr_tr (fr_g q1.2.1 rfl) (fr_g q2.2.1 rfl))⟩, q2.1.2⟩))
theorem d_worth {w : Wd} {v1 : Int} (h : LU w) (i_v1 : ((-2147483648 : Int) ≤ v1 ∧ v1 ≤ 2147483647)) : OK (f_E_worth v1 w) (fun r1 u1 => OK (f_R_worth v1 u1) (fun r2 u2 => LU u2 ∧ True)) := ok_w (ok_pc (c_worth (lf_li h.1) i_v1) (pc_ok (e_E_worth h.1.1 i_v1))) (fun r1 u1 q1 => ok_w (ok_pc q1.1 (pc_ok (e_R_worth q1.2.2 i_v1))) (fun r2 u2 q2 => ⟨⟨⟨q2.1.1.1, fc_fr2 h.1.2 q2.1.1.2 (fr_tr (fr_g q1.2.1 rfl) (fr_g q2.2.1 rfl))⟩, ru_fr h.2 (fr_tr (fr_g q1.2.1 rfl) (fr_g q2.2.1 rfl))⟩, q2.1.2⟩))
theorem d_needed {w : Wd} (h : LU w) : OK (f_E_needed w) (fun r1 u1 => OK (f_R_needed u1) (fun r2 u2 => LU u2 ∧ True)) := ok_w (ok_pc (c_needed (lf_li h.1)) (pc_ok (e_E_needed h.1.1))) (fun r1 u1 q1 => ok_w (ok_pc q1.1 (pc_ok (e_R_needed q1.2.2))) (fun r2 u2 q2 => ⟨⟨⟨q2.1.1.1, fc_fr2 h.1.2 q2.1.1.2 (fr_tr (fr_g q1.2.1 rfl) (fr_g q2.2.1 rfl))⟩, ru_fr h.2 (fr_tr (fr_g q1.2.1 rfl) (fr_g q2.2.1 rfl))⟩, q2.1.2⟩))
theorem d_never {w : Wd} (h : LU w) : OK (f_E_never w) (fun r1 u1 => OK (f_R_never u1) (fun r2 u2 => LU u2 ∧ True)) := ok_w (ok_pc (c_never (lf_li h.1)) (pc_ok (e_E_never h.1.1))) (fun r1 u1 q1 => ok_w (ok_pc q1.1 (pc_ok (e_R_never q1.2.2))) (fun r2 u2 q2 => ⟨⟨⟨q2.1.1.1, fc_fr2 h.1.2 q2.1.1.2 (fr_tr (fr_g q1.2.1 rfl) (fr_g q2.2.1 rfl))⟩, ru_fr h.2 (fr_tr (fr_g q1.2.1 rfl) (fr_g q2.2.1 rfl))⟩, q2.1.2⟩))
theorem d_bound {w : Wd} (h : LU w) : OK (f_E_bound w) (fun r1 u1 => OK (f_R_bound u1) (fun r2 u2 => LU u2 ∧ True)) := ok_w (ok_pc (c_bound (lf_li h.1)) (pc_ok (e_E_bound h.1.1))) (fun r1 u1 q1 => ok_w (ok_pc q1.1 (pc_ok (e_R_bound q1.2.2))) (fun r2 u2 q2 => ⟨⟨⟨q2.1.1.1, fc_fr2 h.1.2 q2.1.1.2 (fr_tr (fr_g q1.2.1 rfl) (fr_g q2.2.1 rfl))⟩, ru_fr h.2 (fr_tr (fr_g q1.2.1 rfl) (fr_g q2.2.1 rfl))⟩, q2.1.2⟩))
theorem d_far {w : Wd} {v1 : Int} (h : LU w) (i_v1 : ((-2147483648 : Int) ≤ v1 ∧ v1 ≤ 2147483647)) : OK (f_E_far v1 w) (fun r1 u1 => OK (f_R_far v1 u1) (fun r2 u2 => LU u2 ∧ True)) := ok_w (ok_pc (c_far (lf_li h.1) i_v1) (pc_ok (e_E_far h.1.1 i_v1))) (fun r1 u1 q1 => ok_w (ok_pc q1.1 (pc_ok (e_R_far q1.2.2 i_v1))) (fun r2 u2 q2 => ⟨⟨⟨q2.1.1.1, fc_fr2 h.1.2 q2.1.1.2 (fr_tr (fr_g q1.2.1 rfl) (fr_g q2.2.1 rfl))⟩, ru_fr h.2 (fr_tr (fr_g q1.2.1 rfl) (fr_g q2.2.1 rfl))⟩, q2.1.2⟩))
theorem d_line {w : Wd} {v1 : Int} (h : LU w) (i_v1 : ((-2147483648 : Int) ≤ v1 ∧ v1 ≤ 2147483647)) : OK (f_E_line v1 w) (fun r1 u1 => OK (f_R_line v1 u1) (fun r2 u2 => LU u2 ∧ True)) := ok_w (ok_pc (c_line (lf_li h.1) i_v1) (pc_ok (e_E_line h.1.1 i_v1))) (fun r1 u1 q1 => ok_w (ok_pc q1.1 (pc_ok (e_R_line q1.2.2 i_v1))) (fun r2 u2 q2 => ⟨⟨⟨q2.1.1.1, fc_fr2 h.1.2 q2.1.1.2 (fr_tr (fr_g q1.2.1 rfl) (fr_g q2.2.1 rfl))⟩, ru_fr h.2 (fr_tr (fr_g q1.2.1 rfl) (fr_g q2.2.1 rfl))⟩, q2.1.2⟩))
theorem d_led {w : Wd} {v1 : Int} (h : LU w) (i_v1 : ((-2147483648 : Int) ≤ v1 ∧ v1 ≤ 2147483647)) : OK (f_E_led v1 w) (fun r1 u1 => OK (f_R_led v1 u1) (fun r2 u2 => LU u2 ∧ True)) := ok_w (ok_pc (c_led (lf_li h.1) i_v1) (pc_ok (e_E_led h.1.1 i_v1))) (fun r1 u1 q1 => ok_w (ok_pc q1.1 (pc_ok (e_R_led q1.2.2 i_v1))) (fun r2 u2 q2 => ⟨⟨⟨q2.1.1.1, fc_fr2 h.1.2 q2.1.1.2 (fr_tr (fr_g q1.2.1 rfl) (fr_g q2.2.1 rfl))⟩, ru_fr h.2 (fr_tr (fr_g q1.2.1 rfl) (fr_g q2.2.1 rfl))⟩, q2.1.2⟩))
theorem d_was {w : Wd} {v1 : Int} (h : LU w) (i_v1 : ((-2147483648 : Int) ≤ v1 ∧ v1 ≤ 2147483647)) : OK (f_E_was v1 w) (fun r1 u1 => OK (f_R_was v1 u1) (fun r2 u2 => LU u2 ∧ True)) := ok_w (ok_pc (c_was (lf_li h.1) i_v1) (pc_ok (e_E_was h.1.1 i_v1))) (fun r1 u1 q1 => ok_w (ok_pc q1.1 (pc_ok (e_R_was q1.2.2 i_v1))) (fun r2 u2 q2 => ⟨⟨⟨q2.1.1.1, fc_fr2 h.1.2 q2.1.1.2 (fr_tr (fr_g q1.2.1 rfl) (fr_g q2.2.1 rfl))⟩, ru_fr h.2 (fr_tr (fr_g q1.2.1 rfl) (fr_g q2.2.1 rfl))⟩, q2.1.2⟩))
theorem d_common {w : Wd} {v1 v2 : Int} (h : LU w) (i_v1 : ((-2147483648 : Int) ≤ v1 ∧ v1 ≤ 2147483647)) (i_v2 : ((-2147483648 : Int) ≤ v2 ∧ v2 ≤ 2147483647)) : OK (f_E_common v1 v2 w) (fun r1 u1 => OK (f_R_common v1 v2 u1) (fun r2 u2 => LU u2 ∧ True)) := ok_w (ok_pc (c_common (lf_li h.1) i_v1 i_v2) (pc_ok (e_E_common h.1.1 i_v1 i_v2))) (fun r1 u1 q1 => ok_w (ok_pc q1.1 (pc_ok (e_R_common q1.2.2 i_v1 i_v2))) (fun r2 u2 q2 => ⟨⟨⟨q2.1.1.1, fc_fr2 h.1.2 q2.1.1.2 (fr_tr (fr_g q1.2.1 rfl) (fr_g q2.2.1 rfl))⟩, ru_fr h.2 (fr_tr (fr_g q1.2.1 rfl) (fr_g q2.2.1 rfl))⟩, q2.1.2⟩))
theorem d_father {w : Wd} (h : LU w) : OK (f_E_father w) (fun r1 u1 => OK (f_R_father u1) (fun r2 u2 => LU u2 ∧ True)) := ok_w (ok_pc (c_father (lf_li h.1)) (pc_ok (e_E_father h.1.1))) (fun r1 u1 q1 => ok_w (ok_pc q1.1 (pc_ok (e_R_father q1.2.2))) (fun r2 u2 q2 => ⟨⟨⟨q2.1.1.1, fc_fr2 h.1.2 q2.1.1.2 (fr_tr (fr_g q1.2.1 rfl) (fr_g q2.2.1 rfl))⟩, ru_fr h.2 (fr_tr (fr_g q1.2.1 rfl) (fr_g q2.2.1 rfl))⟩, q2.1.2⟩))
theorem d_keep {w : Wd} {v1 : Int} (h : LU w) (i_v1 : ((-2147483648 : Int) ≤ v1 ∧ v1 ≤ 2147483647)) : OK (f_E_keep v1 w) (fun r1 u1 => OK (f_R_keep v1 u1) (fun r2 u2 => LU u2 ∧ r1 = r2)) := ok_w (ok_pc (k_keep h.1 i_v1) (pc_ok (e_E_keep h.1.1 i_v1))) (fun r1 u1 q1 => ok_w (ok_pc q1.1 (pc_ok (e_R_keep q1.2.2 i_v1))) (fun r2 u2 q2 => ⟨⟨q2.1.1, ru_fr h.2 (fr_tr (fr_g q1.2.1 rfl) (fr_g q2.2.1 rfl))⟩, q2.1.2⟩))
theorem d_again {w : Wd} {v1 : Int} (h : LU w) (i_v1 : ((-2147483648 : Int) ≤ v1 ∧ v1 ≤ 2147483647)) : OK (f_E_again v1 w) (fun r1 u1 => OK (f_R_again v1 u1) (fun r2 u2 => LU u2 ∧ r1 = r2)) := ok_w (ok_pc (k_again h.1 i_v1) (pc_ok (e_E_again h.1.1 i_v1))) (fun r1 u1 q1 => ok_w (ok_pc q1.1 (pc_ok (e_R_again q1.2.2 i_v1))) (fun r2 u2 q2 => ⟨⟨q2.1.1, ru_fr h.2 (fr_tr (fr_g q1.2.1 rfl) (fr_g q2.2.1 rfl))⟩, q2.1.2⟩))
theorem d_count {w : Wd} {v1 : Int} (h : LU w) (i_v1 : ((-2147483648 : Int) ≤ v1 ∧ v1 ≤ 2147483647)) : OK (f_E_count v1 w) (fun r1 u1 => OK (f_R_count v1 u1) (fun r2 u2 => LU u2 ∧ True)) := ok_w (ok_pc (c_count (lf_li h.1) i_v1) (pc_ok (e_E_count h.1.1 i_v1))) (fun r1 u1 q1 => ok_w (ok_pc q1.1 (pc_ok (e_R_count q1.2.2 i_v1))) (fun r2 u2 q2 => ⟨⟨⟨q2.1.1.1, fc_fr2 h.1.2 q2.1.1.2 (fr_tr (fr_g q1.2.1 rfl) (fr_g q2.2.1 rfl))⟩, ru_fr h.2 (fr_tr (fr_g q1.2.1 rfl) (fr_g q2.2.1 rfl))⟩, q2.1.2⟩))
theorem d_row {w : Wd} {v1 : Int} (h : LU w) (i_v1 : ((-2147483648 : Int) ≤ v1 ∧ v1 ≤ 2147483647)) : OK (f_A_row v1 w) (fun r1 u1 => OK (f_R_row v1 u1) (fun r2 u2 => LU u2 ∧ True)) := ok_w (ok_pc (c_row (lf_li h.1) i_v1) (pc_ok (e_A_row h.1.1 i_v1))) (fun r1 u1 q1 => ok_w (ok_pc q1.1 (pc_ok (e_R_row q1.2.1 i_v1))) (fun r2 u2 q2 => ⟨⟨⟨q2.1.1.1, fc_fr2 h.1.2 q2.1.1.2 (fr_tr (fr_82 q1.2.2) (fr_g q2.2.1 rfl))⟩, ru_fr h.2 (fr_tr (fr_82 q1.2.2) (fr_g q2.2.1 rfl))⟩, q2.1.2⟩))
/-! ANSWERS OF WHAT CHANGES NOTHING: side by side -/
theorem d_er {xE : Option (Int × Wd)} {xR : Wd → Option (Int × Wd)} {w : Wd} (h : LU w) (hd : OK xE (fun _ u1 => OK (xR u1) (fun _ u2 => LU u2 ∧ True))) (hG : PC xE (fun _ u => ∀ c, 43 ≤ c → u c = w c)) (q : ∀ a, ER a w → Sn (a 43 0) (a 47) (a 48) (a 49) (a 43 8) → PC xE (fun r _ => PC (xR a) (fun r' _ => r = r'))) : OK xE (fun r1 u1 => OK (xR u1) (fun r2 u2 => LU u2 ∧ r1 = r2)) := by
  obtain ⟨r1, u1, e1, h1⟩ := hd
  refine ⟨r1, u1, e1, ?_⟩
  obtain ⟨r2, u2, e2, h2, _⟩ := h1
  have hR := hG r1 u1 e1
  refine ⟨r2, u2, e2, h2, q u1 (lu_er h hR) ?_ r1 u1 e1 r2 u2 e2⟩
  rw [hR 43 (by decide), hR 47 (by decide), hR 48 (by decide), hR 49 (by decide)]
  exact h.1.1.2.1.1
theorem gb_pc {v1 : Int} {w : Wd} (h : 0 ≤ v1 ∧ v1 ≤ w 15 3 ∧ w 15 3 ≤ 60) : PC (f_D_guestsBehind v1 w) (fun r u => u = w ∧ r = w 16 v1.toNat) := by
  unfold f_D_guestsBehind f_D_isOne
  rw [if_neg (by omega), if_neg (by omega), if_neg (by omega), jc_s, if_neg (by decide)]
  exact pc_gd (fun _ => pc_some ⟨rfl, rfl⟩)
theorem er_was {a w : Wd} {v1 : Int} (h : ER a w) : PC (f_E_was v1 w) (fun r _ => PC (f_R_was v1 a) (fun r' _ => r = r')) := by
  have x15 : w 15 3 = a 43 8 := h.1.2.2.2.2.1.2.1
  have x8 : 0 ≤ a 43 8 ∧ a 43 8 ≤ 60 := h.2.2.2.2.2.2.1
  have x16 : ∀ t : Nat, (t : Int) ≤ a 43 8 → w 16 t = a 50 t := h.1.2.2.2.2.2.1
  unfold f_E_was f_R_was f_R_in f_E_was_15
  by_cases c1 : v1 < 0
  · rw [if_pos c1]
    refine pc_some (pc_lw (fun y e => ?_))
    rw [if_pos c1, jc_s, if_pos rfl]
    exact pc_some rfl
  · rw [if_neg c1]
    by_cases c2 : v1 ≤ w 15 3
    · rw [if_pos c2]
      refine pc_call (gb_pc (v1 := v1) (w := w) (by omega)) (fun r1 u2 q => pc_some (pc_lw (fun y e => ?_)))
      have y8 : y 43 8 = a 43 8 := by rw [e, st_k (by decide)]
      rw [if_neg c1, y8, if_neg (by omega), jc_s, if_neg (by decide)]
      refine pc_gd (fun _ => pc_some ?_)
      rw [q.2, e, st_c (by decide)]
      exact x16 v1.toNat (by omega)
    · rw [if_neg c2]
      refine pc_some (pc_lw (fun y e => ?_))
      have y8 : y 43 8 = a 43 8 := by rw [e, st_k (by decide)]
      rw [if_neg c1, y8, if_pos (by omega), jc_s, if_pos rfl]
      exact pc_some rfl
theorem dq_was {w : Wd} {v1 : Int} (h : LU w) (i_v1 : ((-2147483648 : Int) ≤ v1 ∧ v1 ≤ 2147483647)) : OK (f_E_was v1 w) (fun r1 u1 => OK (f_R_was v1 u1) (fun r2 u2 => LU u2 ∧ r1 = r2)) :=
  d_er (xR := fun u => f_R_was v1 u) h (d_was h i_v1) (pc_w (pc_ok (e_E_was h.1.1 i_v1)) (fun _ _ q => g_hi q.1 (by decide))) (fun _ ha _ => er_was ha)
/-! WHO BROUGHT WHOM -/
def RK (P : Int) (b : Nat → Int) (d : Nat → Nat) : Prop := ∀ i : Nat, (i : Int) < P → (d i : Int) < P ∧ (b i = -1 ∨ ((0 ≤ b i ∧ b i < P) ∧ d (b i).toNat < d i))
theorem rk_sn {P wk : Int} {s b f : Nat → Int} (hP : 0 ≤ P ∧ P ≤ 10) (h : Sn P s b f wk) : ∃ d, RK P b d := by
  refine ⟨fun i => if i < P.toNat then ct f P (f i) P.toNat else 0, fun i hi => ⟨?_, ?_⟩⟩
  · show (((if i < P.toNat then ct f P (f i) P.toNat else 0) : Nat) : Int) < P
    rw [if_pos (by omega)]
    have := ct_9 f P (i := i) (by omega) P.toNat (by omega)
    omega
  · by_cases c : b i = -1
    · exact Or.inl c
    · obtain ⟨q0, q1, _, q3⟩ := h.1 i hi c
      refine Or.inr ⟨⟨q0, q1⟩, ?_⟩
      show (if (b i).toNat < P.toNat then ct f P (f (b i).toNat) P.toNat else 0) < (if i < P.toNat then ct f P (f i) P.toNat else 0)
      rw [if_pos (by omega), if_pos (by omega)]
      exact ct_lt f P (by omega) q3 P.toNat (by omega)
/-- from x up to y: so many steps, or -1 -/
def stu (b : Nat → Int) : Nat → Int → Int → Int
  | 0, _, _ => -1
  | n + 1, x, y => if x = -1 then -1 else if x = y then 0 else if stu b n (b x.toNat) y < 0 then -1 else stu b n (b x.toNat) y + 1
theorem stu_rg (b : Nat → Int) (y : Int) : ∀ (n : Nat) (x : Int), -1 ≤ stu b n x y ∧ stu b n x y ≤ n := by
  intro n
  induction n with
  | zero => intro x; exact ⟨by show (-1 : Int) ≤ -1; decide, by show (-1 : Int) ≤ 0; decide⟩
  | succ n ih =>
    intro x
    rw [stu]
    by_cases c1 : x = -1
    · rw [if_pos c1]; omega
    · rw [if_neg c1]
      by_cases c2 : x = y
      · rw [if_pos c2]; omega
      · rw [if_neg c2]
        have := ih (b x.toNat)
        by_cases c3 : stu b n (b x.toNat) y < 0
        · rw [if_pos c3]; omega
        · rw [if_neg c3]; omega
/-- fuel enough: as many steps as the rank -/
theorem stu_fu {P : Int} {b : Nat → Int} {d : Nat → Nat} (h : RK P b d) {y : Int} : ∀ (k : Nat) (x : Int), (x = -1 ∨ ((0 ≤ x ∧ x < P) ∧ d x.toNat < k)) → ∀ n m : Nat, k ≤ n → k ≤ m → 1 ≤ n → 1 ≤ m → stu b n x y = stu b m x y := by
  intro k
  induction k with
  | zero =>
    intro x hx n m _ _ hn hm
    rcases hx with e | e
    · cases n with
      | zero => omega
      | succ n =>
        cases m with
        | zero => omega
        | succ m => rw [stu, stu, if_pos e, if_pos e]
    · omega
  | succ k ih =>
    intro x hx n m kn km hn hm
    cases n with
    | zero => omega
    | succ n =>
      cases m with
      | zero => omega
      | succ m =>
        rw [stu, stu]
        by_cases c1 : x = -1
        · rw [if_pos c1, if_pos c1]
        · rw [if_neg c1, if_neg c1]
          by_cases c2 : x = y
          · rw [if_pos c2, if_pos c2]
          · rw [if_neg c2, if_neg c2]
            have hx2 := hx.resolve_left c1
            have hb := (h x.toNat (by omega)).2
            by_cases k0 : k = 0
            · have hd0 : d x.toNat = 0 := by omega
              have e : b x.toNat = -1 := by
                rcases hb with e | e
                · exact e
                · omega
              have s0 : ∀ j, stu b j (b x.toNat) y = -1 := fun j => by
                cases j with
                | zero => rfl
                | succ j => rw [stu, if_pos e]
              rw [s0, s0]
            · rw [ih (b x.toNat) (by
                rcases hb with e | e
                · exact Or.inl e
                · exact Or.inr ⟨e.1, by omega⟩) n m (by omega) (by omega) (by omega) (by omega)]
theorem bb_pc {v1 : Int} {w : Wd} (h : 0 ≤ v1 ∧ v1 < w 5 3) : PC (f_F_broughtBy v1 w) (fun r u => u = w ∧ r = w 8 v1.toNat) := by
  unfold f_F_broughtBy
  refine pc_call (it_pc v1 w) (fun r1 u2 q => ?_)
  rw [q.1, q.2, show hd (w 5 3) v1 = 1 from if_pos h]
  refine pc_ite (fun e => absurd e (by decide)) (fun _ => ?_)
  exact pc_gd (fun _ => pc_some ⟨rfl, rfl⟩)
theorem su_pc {P y : Int} {b : Nat → Int} {d : Nat → Nat} {w : Wd} (hP : P ≤ 10) (h : RK P b d) (h3 : w 5 3 = P) (h8 : ∀ j : Nat, (j : Int) < P → w 8 j = b j) : ∀ (n : Nat) {x v4 : Int}, 0 ≤ v4 → (x = -1 ∨ ((0 ≤ x ∧ x < P) ∧ v4 + d x.toNat < P)) → PC (f_F_stepsUp_5 n y x v4 w) (fun r u => u = w ∧ r = if stu b 11 x y < 0 then -1 else v4 + stu b 11 x y) := by
  intro n
  induction n with
  | zero => intros; exact pc_none
  | succ n ih =>
    intro x v4 i0 hx
    rw [f_F_stepsUp_5, h3]
    have s0 : x = -1 → stu b 11 x y = -1 := fun e => by rw [stu, if_pos e]
    refine pc_ite (fun c => pc_some ⟨rfl, ?_⟩) (fun c => ?_)
    · have e : x = -1 := by
        rcases hx with e | e
        · exact e
        · omega
      rw [s0 e]; rfl
    refine pc_ite (fun e => pc_some ⟨rfl, ?_⟩) (fun c1 => ?_)
    · rw [s0 e]; rfl
    have hx2 := hx.resolve_left c1
    refine pc_ite (fun e => pc_some ⟨rfl, ?_⟩) (fun c2 => ?_)
    · rw [stu, if_neg c1, if_pos e]; simp
    · refine pc_call (bb_pc (v1 := x) (w := w) (by omega)) (fun r1 u2 q => ?_)
      rw [q.1, q.2, h8 x.toNat (by omega)]
      refine pc_let (fun x3 e3 => ?_)
      rw [wsucc (P := P) (by omega) (by omega)] at e3
      rw [e3]
      have hb := (h x.toNat (by omega)).2
      have dr := (h x.toNat (by omega)).1
      refine pc_w (ih (x := b x.toNat) (v4 := v4 + 1) (by omega) (by
        rcases hb with e | e
        · exact Or.inl e
        · exact Or.inr ⟨e.1, by omega⟩)) (fun r u z => ⟨z.1, ?_⟩)
      have ef : stu b 11 (b x.toNat) y = stu b 10 (b x.toNat) y := stu_fu h 10 (b x.toNat) (by
        rcases hb with e | e
        · exact Or.inl e
        · have := (h (b x.toNat).toNat (by omega)).1
          exact Or.inr ⟨e.1, by omega⟩) 11 10 (by decide) (by decide) (by decide) (by decide)
      have e11 : stu b 11 x y = if stu b 10 (b x.toNat) y < 0 then -1 else stu b 10 (b x.toNat) y + 1 := by
        rw [stu, if_neg c1, if_neg c2]
      rw [z.2, e11, ef]
      by_cases c3 : stu b 10 (b x.toNat) y < 0
      · rw [if_pos c3, if_pos c3]; rfl
      · rw [if_neg c3, if_neg c3, if_neg (by omega)]; omega
theorem steps_pc {P x y : Int} {b : Nat → Int} {d : Nat → Nat} {w : Wd} (hP : P ≤ 10) (h : RK P b d) (h3 : w 5 3 = P) (h8 : ∀ j : Nat, (j : Int) < P → w 8 j = b j) (hx : 0 ≤ x ∧ x < P) : PC (f_F_stepsUp x y w) (fun r u => u = w ∧ r = stu b 11 x y) := by
  unfold f_F_stepsUp
  have dr := (h x.toNat (by omega)).1
  refine pc_w (su_pc hP h h3 h8 FU (x := x) (v4 := 0) (by decide) (Or.inr ⟨hx, by omega⟩)) (fun r u q => ⟨q.1, ?_⟩)
  have := stu_rg b y 11 x
  rw [q.2]
  by_cases c : stu b 11 x y < 0
  · rw [if_pos c]; omega
  · rw [if_neg c]; omega
/-- led by y -/
def des (b : Nat → Int) (y : Int) (q : Nat) : Bool := decide (0 < stu b 11 (q : Int) y)
theorem des_s {P y : Int} {b : Nat → Int} {d : Nat → Nat} (hP : P ≤ 10) (h : RK P b d) (hy : 0 ≤ y ∧ y < P) {q : Nat} (hq : (q : Int) < P) : des b y q = true ↔ (b q = y ∨ (b q ≠ -1 ∧ des b y (b q).toNat = true)) := by
  have hb := (h q hq).2
  have e10 : ∀ x, (x = -1 ∨ (0 ≤ x ∧ x < P)) → stu b 11 x y = stu b 10 x y := fun x hx => stu_fu h 10 x (by
    rcases hx with e | e
    · exact Or.inl e
    · have := (h x.toNat (by omega)).1
      exact Or.inr ⟨e, by omega⟩) 11 10 (by decide) (by decide) (by decide) (by decide)
  -- a rank goes down along the way
  have down : ∀ (k : Nat) (x : Int), (0 ≤ x ∧ x < P) → 0 < stu b k x y → d y.toNat < d x.toNat := by
    intro k
    induction k with
    | zero => intro x _ h0; exact absurd h0 (by show ¬ (0 : Int) < -1; decide)
    | succ k ih =>
      intro x hx h0
      rw [stu, if_neg (show ¬ x = -1 by omega)] at h0
      by_cases c2 : x = y
      · rw [if_pos c2] at h0; omega
      · rw [if_neg c2] at h0
        by_cases c3 : stu b k (b x.toNat) y < 0
        · rw [if_pos c3] at h0; omega
        · have hbx := (h x.toNat (by omega)).2
          have hbn : b x.toNat ≠ -1 := fun e => by
            apply c3
            cases k with
            | zero => show (-1 : Int) < 0; decide
            | succ k => rw [stu, if_pos e]; decide
          have hb2 := hbx.resolve_left hbn
          by_cases c4 : b x.toNat = y
          · have := hb2.2
            rw [c4] at this
            exact this
          · have h1 : 0 < stu b k (b x.toNat) y := by
              cases k with
              | zero => exact absurd (show stu b 0 (b x.toNat) y < 0 by show (-1 : Int) < 0; decide) c3
              | succ k =>
                rw [stu, if_neg hbn, if_neg c4] at c3 ⊢
                by_cases c5 : stu b k (b (b x.toNat).toNat) y < 0
                · rw [if_pos c5] at c3; omega
                · rw [if_neg c5]; omega
            have := ih (b x.toNat) hb2.1 h1
            omega
  have e11 : stu b 11 (q : Int) y = if (q : Int) = y then 0 else if stu b 10 (b q) y < 0 then -1 else stu b 10 (b q) y + 1 := by
    rw [stu, if_neg (show ¬ (q : Int) = -1 by omega)]
    rfl
  unfold des
  rw [decide_eq_true_iff]
  constructor
  · intro h0
    rw [e11] at h0
    by_cases c : (q : Int) = y
    · rw [if_pos c] at h0; omega
    · rw [if_neg c] at h0
      by_cases c3 : stu b 10 (b q) y < 0
      · rw [if_pos c3] at h0; omega
      · have hbn : b q ≠ -1 := fun e => by
          apply c3
          rw [stu, if_pos e]; decide
        have hb2 := hb.resolve_left hbn
        by_cases c4 : b q = y
        · exact Or.inl c4
        · refine Or.inr ⟨hbn, ?_⟩
          rw [decide_eq_true_iff, show (((b q).toNat : Nat) : Int) = b q by omega, e10 (b q) (Or.inr hb2.1)]
          rw [stu, if_neg hbn, if_neg c4] at c3 ⊢
          by_cases c5 : stu b 9 (b (b q).toNat) y < 0
          · rw [if_pos c5] at c3; omega
          · rw [if_neg c5]; omega
  · intro hc
    have nq : (q : Int) ≠ y := fun e => by
      rcases hc with e1 | ⟨e1, e2⟩
      · have hb2 := hb.resolve_left (by omega)
        have := hb2.2
        rw [show (b q).toNat = q by omega] at this
        omega
      · rw [decide_eq_true_iff] at e2
        have hb2 := hb.resolve_left e1
        rw [show (((b q).toNat : Nat) : Int) = b q by omega] at e2
        have := down 11 (b q) hb2.1 e2
        have := hb2.2
        rw [show y.toNat = q by omega] at *
        omega
    rw [e11, if_neg nq]
    rcases hc with e1 | ⟨e1, e2⟩
    · have : stu b 10 (b q) y = 0 := by rw [stu, if_neg (by omega), if_pos e1]
      rw [this]; decide
    · rw [decide_eq_true_iff] at e2
      have hb2 := hb.resolve_left e1
      rw [show (((b q).toNat : Nat) : Int) = b q by omega, e10 (b q) (Or.inr hb2.1)] at e2
      rw [if_neg (by omega)]; omega
/-- all that one led: the class -/
theorem lb_pc {P y : Int} {b : Nat → Int} {d : Nat → Nat} {w : Wd} (hP : 0 ≤ P ∧ P ≤ 10) (h : RK P b d) (h3 : w 5 3 = P) (h8 : ∀ j : Nat, (j : Int) < P → w 8 j = b j) : ∀ (n : Nat) {v2 v3 : Int}, 0 ≤ v3 → v3 ≤ P → B10 v2 (fun k => decide ((k : Int) < v3) && des b y k) → PC (f_F_ledBy_4 n y v2 v3 w) (fun r u => u = w ∧ B10 r (fun k => inP P k && des b y k)) := by
  intro n
  induction n with
  | zero => intros; exact pc_none
  | succ n ih =>
    intro v2 v3 i0 i1 hB
    rw [f_F_ledBy_4, h3]
    refine pc_ite (fun z => ?_) (fun z => ?_)
    · have e : v3 = P := by omega
      subst e
      exact pc_some ⟨rfl, hB⟩
    · refine pc_call (steps_pc (x := v3) (y := y) hP.2 h h3 h8 (by omega)) (fun r1 u2 q => ?_)
      rw [q.1, q.2]
      have nx : ∀ s : Int, s = (if des b y v3.toNat = true then ishl 1 v3 else 0) → PC (f_F_ledBy_29 (f_F_ledBy_4 n) y v3 v2 s w) (fun r u => u = w ∧ B10 r (fun k => inP P k && des b y k)) := by
        intro s e
        unfold f_F_ledBy_29
        refine pc_let (fun x3 e3 => ?_)
        refine pc_let (fun x4 e4 => ?_)
        rw [wsucc (P := P) (by omega) (by omega)] at e4
        rw [e4]
        refine ih (by omega) (by omega) ?_
        rw [e3, e]
        exact b10_step (f := des b y) (by omega) hB
      have ed : des b y v3.toNat = decide (0 < stu b 11 v3 y) := by
        unfold des
        rw [show ((v3.toNat : Nat) : Int) = v3 by omega]
      refine pc_ite (fun c => nx 0 ?_) (fun c => nx _ ?_)
      · rw [ed, decide_eq_false (by omega), if_neg (by decide)]
      · rw [ed, decide_eq_true (by omega), if_pos rfl]
/-! all that one led: the reference -/
def tS (b : Nat → Int) (y v3 : Int) (k : Nat) : Bool := !(b k == -1) && (b k == y || bt v3 (b k).toNat)
theorem lr14 {P y v3 : Int} {b : Nat → Int} {k4 : Int → Int → Int → Wd → Option (Int × Wd)} {w : Wd} {Q : Int → Wd → Prop} (hP : 0 ≤ P ∧ P ≤ 10) (h0 : w 43 0 = P) (h48 : ∀ j : Nat, (j : Int) < P → w 48 j = b j) (hb : ∀ j : Nat, (j : Int) < P → b j = -1 ∨ (0 ≤ b j ∧ b j < P)) (h3 : 0 ≤ v3 ∧ v3 ≤ 1023) (hk : ∀ v2', B10 v2' (fun k => bt v3 k || (inP P k && tS b y v3 k)) → PC (k4 y v2' v3 w) Q) : ∀ (n : Nat) {v2 v4 : Int}, 0 ≤ v4 → v4 ≤ P → B10 v2 (fun k => bt v3 k || (decide ((k : Int) < v4) && tS b y v3 k)) → PC (f_R_ledBy_14 k4 n y v2 v3 v4 w) Q := by
  intro n
  induction n with
  | zero => intros; exact pc_none
  | succ n ih =>
    intro v2 v4 i0 i1 hB
    rw [f_R_ledBy_14, h0]
    refine pc_ite (fun z => ?_) (fun z => ?_)
    · have e : v4 = P := by omega
      subst e
      exact hk v2 hB
    · refine pc_gd (fun _ => ?_)
      rw [h48 v4.toNat (by omega)]
      have hv := hb v4.toNat (by omega)
      have no : tS b y v3 v4.toNat = false → PC (f_R_ledBy_66 k4 (f_R_ledBy_14 k4 n) y v2 v3 v4 w) Q := fun ht => by
        unfold f_R_ledBy_66
        refine pc_let (fun x1 e1 => ?_)
        rw [wsucc (P := P) (by omega) (by omega)] at e1
        rw [e1]
        refine ih (by omega) (by omega) (b10_w hB (fun k _ => ?_))
        by_cases c : k = v4.toNat
        · rw [c, ht, Bool.and_false, Bool.and_false]
        · rw [show decide ((k : Int) < v4 + 1) = decide ((k : Int) < v4) from by
            by_cases c2 : (k : Int) < v4
            · rw [decide_eq_true c2, decide_eq_true (by omega)]
            · rw [decide_eq_false c2, decide_eq_false (by omega)]]
      have yes : tS b y v3 v4.toNat = true → PC (f_R_ledBy_59 k4 (f_R_ledBy_14 k4 n) y v2 v3 v4 w) Q := fun ht => by
        unfold f_R_ledBy_59 f_R_ledBy_66
        refine pc_let (fun x2 e2 => pc_let (fun x1 e1 => ?_))
        rw [wsucc (P := P) (by omega) (by omega)] at e1
        rw [e1, e2]
        refine ih (by omega) (by omega) (b10_w (b10_or hB (b10_1 (i := v4) (by omega))) (fun k _ => ?_))
        by_cases c : k = v4.toNat
        · rw [c, ht, decide_eq_true (show ((v4.toNat : Nat) : Int) < v4 + 1 by omega), decide_eq_true rfl, Bool.or_true]
          simp
        · rw [decide_eq_false c, Bool.or_false, show decide ((k : Int) < v4 + 1) = decide ((k : Int) < v4) from by
            by_cases c2 : (k : Int) < v4
            · rw [decide_eq_true c2, decide_eq_true (by omega)]
            · rw [decide_eq_false c2, decide_eq_false (by omega)]]
      refine pc_ite (fun c => no ?_) (fun c => ?_)
      · unfold tS; rw [c]; rfl
      have hr := hv.resolve_left c
      have e1 : (b v4.toNat == -1) = false := beq_eq_false_iff_ne.mpr c
      refine pc_gd (fun _ => ?_)
      refine pc_ite (fun c2 => yes ?_) (fun c2 => ?_)
      · unfold tS
        rw [e1, beq_iff_eq.mpr c2]; rfl
      · refine pc_gd (fun _ => ?_)
        rw [hasR_10 w (b10_self h3) (by omega), jc_s]
        have et : tS b y v3 v4.toNat = bt v3 (b v4.toNat).toNat := by
          unfold tS
          rw [e1, beq_eq_false_iff_ne.mpr c2]; simp
        cases hbt : bt v3 (b v4.toNat).toNat with
        | false => exact pc_ite (fun _ => no (et.trans hbt)) (fun e => absurd rfl e)
        | true => exact pc_ite (fun e => absurd e (by decide)) (fun _ => yes (et.trans hbt))
theorem lr4 {P y : Int} {b : Nat → Int} {d : Nat → Nat} {w : Wd} (hP : 0 ≤ P ∧ P ≤ 10) (h : RK P b d) (hy : 0 ≤ y ∧ y < P) (h0 : w 43 0 = P) (h48 : ∀ j : Nat, (j : Int) < P → w 48 j = b j) : ∀ (n : Nat) {v2 v3 : Int}, (0 ≤ v2 ∧ v2 ≤ 1023) → (∀ k, k < 10 → bt v2 k = true → (k : Int) < P ∧ des b y k = true) → (v3 = -1 ∨ ((0 ≤ v3 ∧ v3 ≤ 1023) ∧ B10 v2 (fun k => bt v3 k || (inP P k && tS b y v3 k)))) → PC (f_R_ledBy_4 n y v2 v3 w) (fun r u => u = w ∧ B10 r (fun k => inP P k && des b y k)) := by
  have hb : ∀ j : Nat, (j : Int) < P → b j = -1 ∨ (0 ≤ b j ∧ b j < P) := fun j hj => by
    rcases (h j hj).2 with e | e
    · exact Or.inl e
    · exact Or.inr e.1
  intro n
  induction n with
  | zero => intros; exact pc_none
  | succ n ih =>
    intro v2 v3 hr hs hc
    rw [f_R_ledBy_4]
    refine pc_ite (fun e => ?_) (fun e => ?_)
    · rcases hc with c | ⟨c1, c2⟩
      · omega
      · have cl : ∀ q : Nat, (q : Int) < P → tS b y v2 q = true → bt v2 q = true := fun q hq ht => by
          rw [c2.2 q (by omega)]
          show (bt v3 q || (inP P q && tS b y v3 q)) = true
          rw [← e, ht, show inP P q = true from decide_eq_true hq]; simp
        have all : ∀ (k : Nat) (q : Nat), d q < k → (q : Int) < P → des b y q = true → bt v2 q = true := by
          intro k
          induction k with
          | zero => intro q hk; omega
          | succ k ihk =>
            intro q hk hq hd
            refine cl q hq ?_
            have hb2 := (h q hq).2
            rcases (des_s hP.2 h hy hq).mp hd with e1 | ⟨e1, e2⟩
            · unfold tS
              rw [e1, beq_eq_false_iff_ne.mpr (show ¬ y = -1 by omega), beq_iff_eq.mpr (show y = y from rfl)]; rfl
            · have hb3 := hb2.resolve_left e1
              unfold tS
              rw [beq_eq_false_iff_ne.mpr e1, ihk (b q).toNat (by omega) (by omega) e2, Bool.or_true]; rfl
        refine pc_some ⟨rfl, hr, fun k hk => ?_⟩
        show bt v2 k = (inP P k && des b y k)
        cases hbt : bt v2 k with
        | true =>
          obtain ⟨a1, a2⟩ := hs k hk hbt
          rw [a2, show inP P k = true from decide_eq_true a1]; rfl
        | false =>
          cases hp : inP P k with
          | false => rfl
          | true =>
            cases hd : des b y k with
            | false => rfl
            | true =>
              rw [all (d k + 1) k (by omega) (inP_t hp) hd] at hbt
              cases hbt
    · refine lr14 (v3 := v2) hP h0 h48 hb hr (fun v2' hB => ?_) FU (v2 := v2) (v4 := 0) (by decide) hP.1 (b10_w (b10_self hr) (fun k _ => ?_))
      · refine ih hB.1 (fun k hk hbt => ?_) (Or.inr ⟨hr, hB⟩)
        rw [hB.2 k hk, Bool.or_eq_true, Bool.and_eq_true] at hbt
        rcases hbt with e1 | ⟨e1, e2⟩
        · exact hs k hk e1
        · have hkP := inP_t e1
          refine ⟨hkP, (des_s hP.2 h hy hkP).mpr ?_⟩
          unfold tS at e2
          rw [Bool.and_eq_true, Bool.not_eq_true', Bool.or_eq_true] at e2
          rcases e2.2 with e3 | e3
          · exact Or.inl (beq_iff_eq.mp e3)
          · have hn := beq_eq_false_iff_ne.mp e2.1
            have := (hb k hkP).resolve_left hn
            exact Or.inr ⟨hn, (hs (b k).toNat (by omega) e3).2⟩
      · rw [decide_eq_false (show ¬ (k : Int) < 0 by omega)]; simp
theorem ledR_pc {P y : Int} {b : Nat → Int} {d : Nat → Nat} {w : Wd} (hP : 0 ≤ P ∧ P ≤ 10) (h : RK P b d) (hy : 0 ≤ y ∧ y < P) (h0 : w 43 0 = P) (h48 : ∀ j : Nat, (j : Int) < P → w 48 j = b j) : PC (f_R_ledBy y w) (fun r u => u = w ∧ B10 r (fun k => inP P k && des b y k)) := by
  unfold f_R_ledBy
  exact lr4 hP h hy h0 h48 FU (by decide) (fun k _ hb => by rw [bt_0] at hb; cases hb) (Or.inl rfl)
theorem ledE_pc {P y : Int} {b : Nat → Int} {d : Nat → Nat} {w : Wd} (hP : 0 ≤ P ∧ P ≤ 10) (h : RK P b d) (h3 : w 5 3 = P) (h8 : ∀ j : Nat, (j : Int) < P → w 8 j = b j) : PC (f_F_ledBy y w) (fun r u => u = w ∧ B10 r (fun k => inP P k && des b y k)) := by
  unfold f_F_ledBy
  refine lb_pc hP h h3 h8 FU (by decide) hP.1 (b10_w b10_0 (fun k _ => ?_))
  rw [decide_eq_false (show ¬ (k : Int) < 0 by omega)]; rfl
/-! FATHER -/
def fth (c : Nat → Int) : Nat → Int × Int
  | 0 => (-1, 0)
  | n + 1 => if (fth c n).2 < c n then ((n : Int), c n) else fth c n
def cnd (P : Int) (b : Nat → Int) (q : Nat) : Int := ((pn (fun k => inP P k && des b (q : Int) k) 10 : Nat) : Int)
theorem er_father {a w : Wd} (h : ER a w) (hS : Sn (a 43 0) (a 47) (a 48) (a 49) (a 43 8)) : PC (f_E_father w) (fun r _ => PC (f_R_father a) (fun r' _ => r = r')) := by
  have x0 : 0 ≤ a 43 0 ∧ a 43 0 ≤ 10 := h.2.2.1
  have x3 : w 5 3 = a 43 0 := h.1.1.2.1
  have xp : ∀ j : Nat, (j : Int) < a 43 0 → w 6 j = a 44 j ∧ w 7 j = a 45 j ∧ w 8 j = a 48 j := h.1.2.1
  obtain ⟨d, hd⟩ := rk_sn x0 hS
  have nt1 : ∀ (x : Int) (u : Wd), PC (f_N_tell1 x u) (fun _ _ => True) := fun _ _ _ _ _ => trivial
  have pE : ∀ (n : Nat) {v1 v2 v3 : Int}, 0 ≤ v3 → v3 ≤ a 43 0 → v1 = (fth (cnd (a 43 0) (a 48)) v3.toNat).1 → v2 = (fth (cnd (a 43 0) (a 48)) v3.toNat).2 → PC (f_E_father_6 n v1 v2 v3 w) (fun r _ => r = if (fth (cnd (a 43 0) (a 48)) (a 43 0).toNat).1 = -1 then -2 else (fth (cnd (a 43 0) (a 48)) (a 43 0).toNat).1) := by
    intro n
    induction n with
    | zero => intros; exact pc_none
    | succ n ih =>
      intro v1 v2 v3 i0 i1 e1 e2
      rw [f_E_father_6, x3]
      refine pc_ite (fun z => ?_) (fun z => ?_)
      · have e : v3 = a 43 0 := by omega
        rw [e] at e1
        rw [← e1]
        refine pc_ite (fun c => ?_) (fun c => ?_)
        · rw [if_pos c]; exact pc_some rfl
        · rw [if_neg c]
          exact pc_call (nt1 v2 w) (fun _ _ _ => pc_some rfl)
      · refine pc_call (ledE_pc (y := v3) x0 hd x3 (fun j hj => (xp j hj).2.2)) (fun r3 u4 q => ?_)
        rw [q.1, bcs_e q.2, jc_s]
        have ec : ((pn (fun k => inP (a 43 0) k && des (a 48) v3 k) 10 : Nat) : Int) = cnd (a 43 0) (a 48) v3.toNat := by
          unfold cnd
          rw [show ((v3.toNat : Nat) : Int) = v3 by omega]
        rw [ec]
        have ef : fth (cnd (a 43 0) (a 48)) (v3.toNat + 1) = if (fth (cnd (a 43 0) (a 48)) v3.toNat).2 < cnd (a 43 0) (a 48) v3.toNat then (((v3.toNat : Nat) : Int), cnd (a 43 0) (a 48) v3.toNat) else fth (cnd (a 43 0) (a 48)) v3.toNat := rfl
        have e3 : (v3 + 1).toNat = v3.toNat + 1 := by omega
        unfold f_E_father_41
        refine pc_ite (fun c => ?_) (fun c => ?_)
        · refine pc_let (fun x7 e7 => ?_)
          rw [wsucc (P := a 43 0) (by omega) (by omega)] at e7
          rw [if_neg (by omega)] at ef
          rw [e7]
          exact ih (by omega) (by omega) (by rw [e3, ef]; exact e1) (by rw [e3, ef]; exact e2)
        · refine pc_let (fun x7 e7 => ?_)
          rw [wsucc (P := a 43 0) (by omega) (by omega)] at e7
          rw [if_pos (by omega)] at ef
          rw [e7]
          exact ih (by omega) (by omega) (by rw [e3, ef]; show v3 = ((v3.toNat : Nat) : Int); omega) (by rw [e3, ef])
  have pR : ∀ {y : Wd}, y 43 0 = a 43 0 → y 48 = a 48 → ∀ (n : Nat) {v1 v2 v3 : Int}, 0 ≤ v3 → v3 ≤ a 43 0 → v1 = (fth (cnd (a 43 0) (a 48)) v3.toNat).1 → v2 = (fth (cnd (a 43 0) (a 48)) v3.toNat).2 → PC (f_R_father_11 n v1 v2 v3 y) (fun r _ => r = if (fth (cnd (a 43 0) (a 48)) (a 43 0).toNat).1 = -1 then -2 else (fth (cnd (a 43 0) (a 48)) (a 43 0).toNat).1) := by
    intro y y0 y48 n
    induction n with
    | zero => intros; exact pc_none
    | succ n ih =>
      intro v1 v2 v3 i0 i1 e1 e2
      rw [f_R_father_11, y0]
      refine pc_ite (fun z => ?_) (fun z => ?_)
      · have e : v3 = a 43 0 := by omega
        rw [e] at e1
        rw [← e1]
        refine pc_ite (fun c => ?_) (fun c => ?_)
        · rw [if_pos c]; exact pc_some rfl
        · rw [if_neg c]
          refine pc_lw (fun u2 _ => pc_call (rt1 v2 u2) (fun _ _ _ => pc_some rfl))
      · refine pc_call (ledR_pc (y := v3) (b := a 48) x0 hd (by omega) y0 (fun j _ => by rw [y48])) (fun r3 u4 q => ?_)
        rw [q.1, bcs_e q.2, jc_s]
        have ec : ((pn (fun k => inP (a 43 0) k && des (a 48) v3 k) 10 : Nat) : Int) = cnd (a 43 0) (a 48) v3.toNat := by
          unfold cnd
          rw [show ((v3.toNat : Nat) : Int) = v3 by omega]
        rw [ec]
        have ef : fth (cnd (a 43 0) (a 48)) (v3.toNat + 1) = if (fth (cnd (a 43 0) (a 48)) v3.toNat).2 < cnd (a 43 0) (a 48) v3.toNat then (((v3.toNat : Nat) : Int), cnd (a 43 0) (a 48) v3.toNat) else fth (cnd (a 43 0) (a 48)) v3.toNat := rfl
        have e3 : (v3 + 1).toNat = v3.toNat + 1 := by omega
        unfold f_R_father_43
        refine pc_ite (fun c => ?_) (fun c => ?_)
        · refine pc_let (fun x7 e7 => ?_)
          rw [wsucc (P := a 43 0) (by omega) (by omega)] at e7
          rw [if_pos (by omega)] at ef
          rw [e7]
          exact ih (by omega) (by omega) (by rw [e3, ef]; show v3 = ((v3.toNat : Nat) : Int); omega) (by rw [e3, ef])
        · refine pc_let (fun x7 e7 => ?_)
          rw [wsucc (P := a 43 0) (by omega) (by omega)] at e7
          rw [if_neg (by omega)] at ef
          rw [e7]
          exact ih (by omega) (by omega) (by rw [e3, ef]; exact e1) (by rw [e3, ef]; exact e2)
  unfold f_E_father
  refine pc_w (pE FU (v3 := 0) (by decide) x0.1 rfl rfl) (fun r _ q => ?_)
  unfold f_R_father
  refine pc_lw (fun y ey => ?_)
  refine pc_w (pR (y := y) (by rw [ey, st_k (by decide)]) (by rw [ey, st_row (by decide)]) FU (v3 := 0) (by decide) x0.1 rfl rfl) (fun r' _ q' => ?_)
  rw [q, q']
theorem dq_father {w : Wd} (h : LU w) : OK (f_E_father w) (fun r1 u1 => OK (f_R_father u1) (fun r2 u2 => LU u2 ∧ r1 = r2)) :=
  d_er (xR := fun u => f_R_father u) h (d_father h) (pc_w (pc_ok (e_E_father h.1.1)) (fun _ _ q => g_hi q.1 (by decide))) (fun _ ha hs => er_father ha hs)
/-! COMMON -/
theorem er_common {a w : Wd} {v1 v2 : Int} (h : ER a w) (hS : Sn (a 43 0) (a 47) (a 48) (a 49) (a 43 8)) : PC (f_E_common v1 v2 w) (fun r _ => PC (f_R_common v1 v2 a) (fun r' _ => r = r')) := by
  have x0 : 0 ≤ a 43 0 ∧ a 43 0 ≤ 10 := h.2.2.1
  have x3 : w 5 3 = a 43 0 := h.1.1.2.1
  have xp : ∀ j : Nat, (j : Int) < a 43 0 → w 6 j = a 44 j ∧ w 7 j = a 45 j ∧ w 8 j = a 48 j := h.1.2.1
  obtain ⟨d, hrk⟩ := rk_sn x0 hS
  unfold f_E_common f_R_common
  have pE : PC (f_E_areTwo v1 v2 w) (fun r u => u = w ∧ r = if (0 ≤ v1 ∧ v1 < a 43 0) ∧ (0 ≤ v2 ∧ v2 < a 43 0) ∧ v1 ≠ v2 then 1 else 0) := by
    unfold f_E_areTwo
    refine pc_ite (fun c => pc_some ⟨rfl, ?_⟩) (fun c => ?_)
    · rw [if_neg (fun hh => hh.2.2 c)]
    refine pc_call (it_pc v1 w) (fun r1 u2 q => ?_)
    rw [q.1, q.2, x3]
    unfold hd
    by_cases c1 : 0 ≤ v1 ∧ v1 < a 43 0
    · rw [if_pos c1]
      refine pc_ite (fun e => absurd e (by decide)) (fun _ => ?_)
      refine pc_call (it_pc v2 w) (fun r3 u4 q3 => ?_)
      rw [q3.1, q3.2, x3]
      unfold hd
      by_cases c2 : 0 ≤ v2 ∧ v2 < a 43 0
      · rw [if_pos c2]
        refine pc_ite (fun e => absurd e (by decide)) (fun _ => pc_some ⟨rfl, ?_⟩)
        rw [if_pos ⟨c1, c2, c⟩]
      · rw [if_neg c2]
        refine pc_ite (fun _ => pc_some ⟨rfl, ?_⟩) (fun e => absurd rfl e)
        rw [if_neg (fun hh => c2 hh.2.1)]
    · rw [if_neg c1]
      refine pc_ite (fun _ => pc_some ⟨rfl, ?_⟩) (fun e => absurd rfl e)
      rw [if_neg (fun hh => c1 hh.1)]
  have pR : ∀ y : Wd, y 43 0 = a 43 0 → PC (f_R_areTwo v1 v2 y) (fun r u => u = y ∧ r = if (0 ≤ v1 ∧ v1 < a 43 0) ∧ (0 ≤ v2 ∧ v2 < a 43 0) ∧ v1 ≠ v2 then 1 else 0) := fun y y0 => by
    unfold f_R_areTwo
    refine pc_call (io_pc v1 y (by omega)) (fun r1 u2 q => ?_)
    rw [q.1, q.2, y0]
    unfold hd
    by_cases c1 : 0 ≤ v1 ∧ v1 < a 43 0
    · rw [if_pos c1]
      refine pc_ite (fun e => absurd e (by decide)) (fun _ => ?_)
      refine pc_call (io_pc v2 y (by omega)) (fun r3 u4 q3 => ?_)
      rw [q3.1, q3.2, y0]
      unfold hd
      by_cases c2 : 0 ≤ v2 ∧ v2 < a 43 0
      · rw [if_pos c2]
        refine pc_ite (fun e => absurd e (by decide)) (fun _ => ?_)
        refine pc_ite (fun c => pc_some ⟨rfl, ?_⟩) (fun c => pc_some ⟨rfl, ?_⟩)
        · rw [if_neg (fun hh => hh.2.2 c)]
        · rw [if_pos ⟨c1, c2, c⟩]
      · rw [if_neg c2]
        refine pc_ite (fun _ => pc_some ⟨rfl, ?_⟩) (fun e => absurd rfl e)
        rw [if_neg (fun hh => c2 hh.2.1)]
    · rw [if_neg c1]
      refine pc_ite (fun _ => pc_some ⟨rfl, ?_⟩) (fun e => absurd rfl e)
      rw [if_neg (fun hh => c1 hh.1)]
  refine pc_call pE (fun r1 u2 q1 => ?_)
  rw [q1.1, q1.2]
  by_cases cc : (0 ≤ v1 ∧ v1 < a 43 0) ∧ (0 ≤ v2 ∧ v2 < a 43 0) ∧ v1 ≠ v2
  · rw [if_pos cc]
    refine pc_ite (fun e => absurd e (by decide)) (fun _ => ?_)
    have two : ∀ (n m : Nat) {x v4 : Int} {y : Wd}, y 43 0 = a 43 0 → y 48 = a 48 → 0 ≤ v4 → (x = -1 ∨ ((0 ≤ x ∧ x < a 43 0) ∧ v4 + d x.toNat < a 43 0)) → PC (f_E_common_16 n v2 x v4 w) (fun r _ => PC (f_R_common_18 m v2 x y) (fun r' _ => r = r')) := by
      intro n
      induction n with
      | zero => intros; exact pc_none
      | succ n ih =>
        intro m x v4 y y0 y48 i0 hx
        cases m with
        | zero => exact fun _ _ _ => pc_none
        | succ m =>
        rw [f_E_common_16, x3, f_R_common_18]
        refine pc_ite (fun c => pc_some ?_) (fun c => ?_)
        · have e : x = -1 := by
            rcases hx with e | e
            · exact e
            · omega
          rw [if_pos e]; exact pc_some rfl
        refine pc_ite (fun e => pc_some ?_) (fun c1 => ?_)
        · rw [if_pos e]; exact pc_some rfl
        have hx2 := hx.resolve_left c1
        rw [if_neg c1]
        refine pc_call (steps_pc (x := v2) (y := x) x0.2 hrk x3 (fun j hj => (xp j hj).2.2) cc.2.1) (fun r3 u4 q => ?_)
        rw [q.1, q.2]
        have hL := ledR_pc (y := x) (b := a 48) (w := y) x0 hrk hx2.1 y0 (fun j _ => by rw [y48])
        have edes : des (a 48) x v2.toNat = decide (0 < stu (a 48) 11 v2 x) := by
          unfold des
          rw [show ((v2.toNat : Nat) : Int) = v2 by omega]
        have s0 : (v2 = x) → stu (a 48) 11 v2 x = 0 := fun e => by rw [stu, if_neg (show ¬ v2 = -1 by omega), if_pos e]
        have s1 : v2 ≠ x → ¬ stu (a 48) 11 v2 x < 0 → 0 < stu (a 48) 11 v2 x := fun e e2 => by
          rw [stu, if_neg (show ¬ v2 = -1 by omega), if_neg e] at e2 ⊢
          by_cases c5 : stu (a 48) 10 (a 48 v2.toNat) x < 0
          · rw [if_pos c5] at e2; omega
          · rw [if_neg c5]; omega
        have ip2 : inP (a 43 0) v2.toNat = true := decide_eq_true (by omega)
        refine pc_ite (fun c2 => ?_) (fun c2 => ?_)
        · have nx : x ≠ v2 := fun e => by rw [s0 e.symm] at c2; omega
          refine pc_call (bb_pc (v1 := x) (w := w) (by omega)) (fun r5 u6 q5 => ?_)
          rw [q5.1, q5.2, (xp x.toNat (by omega)).2.2]
          refine pc_let (fun x7 e7 => ?_)
          rw [wsucc (P := a 43 0) (by omega) (by omega)] at e7
          rw [e7]
          have hb := (hrk x.toNat (by omega)).2
          refine pc_w (ih m (x := a 48 x.toNat) (v4 := v4 + 1) y0 y48 (by omega) (by
            rcases hb with e | e
            · exact Or.inl e
            · exact Or.inr ⟨e.1, by omega⟩)) (fun r _ q6 => ?_)
          rw [if_neg nx]
          refine pc_call hL (fun r4 u5 q7 => ?_)
          rw [q7.1, hasR_10 y q7.2 (by omega), jc_s, ip2, edes, decide_eq_false (by omega)]
          refine pc_ite (fun _ => ?_) (fun e => absurd rfl e)
          refine pc_gd (fun _ => pc_let (fun x8 e8 => ?_))
          rw [e8, y48]
          exact q6
        · refine pc_some ?_
          by_cases nx : x = v2
          · rw [if_pos nx]; exact pc_some rfl
          · rw [if_neg nx]
            refine pc_call hL (fun r4 u5 q7 => ?_)
            rw [q7.1, hasR_10 y q7.2 (by omega), jc_s, ip2, edes, decide_eq_true (s1 (fun e => nx e.symm) c2)]
            exact pc_ite (fun e => absurd e (by decide)) (fun _ => pc_some rfl)
    intro r u eL
    refine pc_lw (fun y ey => ?_)
    have y0 : y 43 0 = a 43 0 := by rw [ey, st_k (by decide)]
    refine pc_call (pR y y0) (fun r2 u3 q3 => ?_)
    rw [q3.1, q3.2, if_pos cc]
    refine pc_ite (fun e => absurd e (by decide)) (fun _ => ?_)
    have dr := (hrk v1.toNat (by omega)).1
    exact two FU FU y0 (by rw [ey, st_row (by decide)]) (by decide) (Or.inr ⟨cc.1, by omega⟩) r u eL
  · rw [if_neg cc]
    refine pc_ite (fun _ => pc_some (pc_lw (fun y ey => ?_))) (fun e => absurd rfl e)
    refine pc_call (pR y (by rw [ey, st_k (by decide)])) (fun r2 u3 q3 => ?_)
    rw [q3.2, if_neg cc]
    exact pc_ite (fun _ => pc_some rfl) (fun e => absurd rfl e)
theorem dq_common {w : Wd} {v1 v2 : Int} (h : LU w) (i_v1 : ((-2147483648 : Int) ≤ v1 ∧ v1 ≤ 2147483647)) (i_v2 : ((-2147483648 : Int) ≤ v2 ∧ v2 ≤ 2147483647)) : OK (f_E_common v1 v2 w) (fun r1 u1 => OK (f_R_common v1 v2 u1) (fun r2 u2 => LU u2 ∧ r1 = r2)) :=
  d_er (xR := fun u => f_R_common v1 v2 u) h (d_common h i_v1 i_v2) (pc_w (pc_ok (e_E_common h.1.1 i_v1 i_v2)) (fun _ _ q => g_hi q.1 (by decide))) (fun _ ha hs => er_common ha hs)
/-! LED -/
theorem du18 {v1 : Int} {w : Wd} {k4 : Int → Int → Int → Wd → Option (Int × Wd)} {Q : Int → Wd → Prop} (hk : ∀ v2 v3, PC (k4 v1 v2 v3 w) Q) : ∀ (n : Nat) {v2 v3 v4 v5 : Int}, PC (f_R_depthUnder_18 k4 n v1 v2 v3 v4 v5 w) Q := by
  have e45 : ∀ v2 v3 v4 v5, PC (f_R_depthUnder_45 k4 v1 v2 v3 v4 v5 w) Q := fun v2 v3 v4 v5 => by
    unfold f_R_depthUnder_45 f_R_depthUnder_58
    exact pc_ite (fun _ => pc_let (fun _ _ => pc_let (fun _ _ => hk _ _))) (fun _ => pc_let (fun _ _ => hk _ _))
  intro n
  induction n with
  | zero => intros; exact pc_none
  | succ n ih =>
    intro v2 v3 v4 v5
    rw [f_R_depthUnder_18]
    refine pc_ite (fun _ => e45 _ _ _ _) (fun _ => ?_)
    refine pc_ite (fun _ => e45 _ _ _ _) (fun _ => ?_)
    exact pc_gd (fun _ => pc_let (fun _ _ => pc_let (fun _ _ => ih)))
theorem du_pc {v1 : Int} {w : Wd} : PC (f_R_depthUnder v1 w) (fun _ u => u = w) := by
  have : ∀ (n : Nat) {v2 v3 : Int}, PC (f_R_depthUnder_4 n v1 v2 v3 w) (fun _ u => u = w) := by
    intro n
    induction n with
    | zero => intros; exact pc_none
    | succ n ih =>
      intro v2 v3
      rw [f_R_depthUnder_4]
      refine pc_ite (fun _ => pc_some rfl) (fun _ => ?_)
      exact du18 (fun _ _ => ih) FU
  unfold f_R_depthUnder
  exact this FU
theorem er_led {a w : Wd} {v1 : Int} (h : ER a w) (hS : Sn (a 43 0) (a 47) (a 48) (a 49) (a 43 8)) : PC (f_E_led v1 w) (fun r _ => PC (f_R_led v1 a) (fun r' _ => r = r')) := by
  have x0 : 0 ≤ a 43 0 ∧ a 43 0 ≤ 10 := h.2.2.1
  have x3 : w 5 3 = a 43 0 := h.1.1.2.1
  have xp : ∀ j : Nat, (j : Int) < a 43 0 → w 6 j = a 44 j ∧ w 7 j = a 45 j ∧ w 8 j = a 48 j := h.1.2.1
  obtain ⟨d, hrk⟩ := rk_sn x0 hS
  have pE : ∀ (n : Nat) {v2 v3 v4 : Int}, 0 ≤ v4 → v4 ≤ a 43 0 → PC (f_E_led_20 n v1 v2 v3 v4 w) (fun r _ => B10 r (fun k => inP (a 43 0) k && des (a 48) v1 k)) := by
    intro n
    induction n with
    | zero => intros; exact pc_none
    | succ n ih =>
      intro v2 v3 v4 i0 i1
      rw [f_E_led_20, x3]
      refine pc_ite (fun z => ?_) (fun z => ?_)
      · refine pc_call (nt2 v2 v3 w) (fun r3 u4 q => ?_)
        refine pc_call (ledE_pc (y := v1) (w := u4) (b := a 48) x0 hrk (by rw [q 5 (by decide) (by decide)]; exact x3) (fun j hj => by rw [q 8 (by decide) (by decide)]; exact (xp j hj).2.2)) (fun r5 u6 q5 => pc_some q5.2)
      · have nx : ∀ s : Int, PC (f_E_led_51 (f_E_led_20 n) v1 v3 v4 v2 s w) (fun r _ => B10 r (fun k => inP (a 43 0) k && des (a 48) v1 k)) := fun s => by
          unfold f_E_led_51
          refine pc_let (fun x9 _ => ?_)
          refine pc_call (steps_pc (x := v4) (y := v1) x0.2 hrk x3 (fun j hj => (xp j hj).2.2) (by omega)) (fun r10 u11 q => ?_)
          rw [q.1]
          refine pc_let (fun x12 _ => pc_let (fun x13 e13 => ?_))
          rw [wsucc (P := a 43 0) (by omega) (by omega)] at e13
          rw [e13]
          exact ih (by omega) (by omega)
        refine pc_call (bb_pc (v1 := v4) (w := w) (by omega)) (fun r7 u8 q => ?_)
        rw [q.1]
        exact pc_ite (fun _ => nx 1) (fun _ => nx 0)
  have pR : ∀ {y : Wd}, y 43 0 = a 43 0 → y 48 = a 48 → (0 ≤ v1 ∧ v1 < a 43 0) → ∀ (n : Nat) {v2 v3 : Int}, PC (f_R_led_19 n v1 v2 v3 y) (fun r _ => B10 r (fun k => inP (a 43 0) k && des (a 48) v1 k)) := by
    intro y y0 y48 hv n
    induction n with
    | zero => intros; exact pc_none
    | succ n ih =>
      intro v2 v3
      rw [f_R_led_19]
      refine pc_ite (fun z => ?_) (fun z => ?_)
      · refine pc_lw (fun u4 e4 => ?_)
        refine pc_call (rt1 v2 u4) (fun r5 u6 q5 => ?_)
        refine pc_call du_pc (fun r7 u8 q7 => ?_)
        rw [q7]
        refine pc_call (rt1 r7 u6) (fun r9 u10 q9 => ?_)
        have o : ∀ c k, c ≠ 52 → ¬ (c = 43 ∧ (k = 15 ∨ k = 16)) → u10 c k = y c k := fun c k h52 hk => by
          rw [q9 c k h52 hk, q5 c k h52 hk, e4]; unfold st; rw [if_neg (by omega)]
        exact pc_call (ledR_pc (y := v1) (w := u10) (b := a 48) x0 hrk hv (by rw [o 43 0 (by decide) (by decide)]; exact y0) (fun j _ => by rw [o 48 j (by decide) (by omega), y48])) (fun r11 u12 q11 => pc_some q11.2)
      · refine pc_gd (fun _ => ?_)
        unfold f_R_led_43
        exact pc_ite (fun _ => pc_let (fun _ _ => pc_let (fun _ _ => ih))) (fun _ => pc_let (fun _ _ => pc_let (fun _ _ => ih)))
  unfold f_E_led f_R_led
  refine pc_call (it_pc v1 w) (fun r1 u2 q => ?_)
  rw [q.1, q.2, x3]
  unfold hd
  by_cases c1 : 0 ≤ v1 ∧ v1 < a 43 0
  · rw [if_pos c1]
    refine pc_ite (fun e => absurd e (by decide)) (fun _ => ?_)
    refine pc_w (pE FU (by decide) x0.1) (fun r _ q5 => ?_)
    refine pc_lw (fun y ey => ?_)
    have y0 : y 43 0 = a 43 0 := by rw [ey, st_k (by decide)]
    refine pc_call (io_pc v1 y (by omega)) (fun r2 u3 q3 => ?_)
    rw [q3.1, q3.2, y0, show hd (a 43 0) v1 = 1 from if_pos c1]
    refine pc_ite (fun e => absurd e (by decide)) (fun _ => ?_)
    exact pc_w (pR y0 (by rw [ey, st_row (by decide)]) c1 FU) (fun r' _ q6 => b10_eq q5 q6 (fun _ _ => rfl))
  · rw [if_neg c1]
    refine pc_ite (fun _ => pc_some (pc_lw (fun y ey => ?_))) (fun e => absurd rfl e)
    have y0 : y 43 0 = a 43 0 := by rw [ey, st_k (by decide)]
    refine pc_call (io_pc v1 y (by omega)) (fun r2 u3 q3 => ?_)
    rw [q3.2, y0, show hd (a 43 0) v1 = 0 from if_neg c1]
    exact pc_ite (fun _ => pc_some rfl) (fun e => absurd rfl e)
theorem dq_led {w : Wd} {v1 : Int} (h : LU w) (i_v1 : ((-2147483648 : Int) ≤ v1 ∧ v1 ≤ 2147483647)) : OK (f_E_led v1 w) (fun r1 u1 => OK (f_R_led v1 u1) (fun r2 u2 => LU u2 ∧ r1 = r2)) :=
  d_er (xR := fun u => f_R_led v1 u) h (d_led h i_v1) (pc_w (pc_ok (e_E_led h.1.1 i_v1)) (fun _ _ q => g_hi q.1 (by decide))) (fun _ ha hs => er_led ha hs)
/-! LINE -/
theorem pf_pc {x : Int} {w : Wd} (h : 0 ≤ w 3 1 ∧ w 3 1 < 20) : PC (f_N_putFirst x w) (fun _ u => u 3 1 = w 3 1 + 1 ∧ ∀ c, c ≠ 3 → c ≠ 4 → u c = w c) := by
  have l12 : ∀ (n : Nat) {v2 : Int} {y : Wd}, PC (f_N_putFirst_12 n x v2 y) (fun _ u => ∀ c, c ≠ 4 → u c = y c) := by
    intro n
    induction n with
    | zero => intros; exact pc_none
    | succ n ih =>
      intro v2 y
      rw [f_N_putFirst_12]
      refine pc_ite (fun _ => pc_some (fun _ _ => rfl)) (fun _ => ?_)
      refine pc_gd (fun _ => pc_gd (fun _ => pc_lw (fun u4 e4 => pc_gd (fun _ => pc_lw (fun u5 e5 => pc_let (fun x6 _ => ?_))))))
      exact pc_w ih (fun _ u q c hc => by rw [q c hc, e5, st_row hc, e4, st_row hc])
  unfold f_N_putFirst f_N_put
  refine pc_call (P := fun _ u => u 3 1 = w 3 1 + 1 ∧ ∀ c, c ≠ 3 → c ≠ 4 → u c = w c) ?_ (fun r1 u2 q => ?_)
  · refine pc_ite (fun z => by omega) (fun _ => ?_)
    refine pc_gd (fun _ => pc_lw (fun u1 e1 => pc_lw (fun u2 e2 => pc_some ⟨?_, fun c h3 h4 => ?_⟩)))
    · rw [e2, st_eq, e1, st_c (by decide)]; exact w32_id (by omega)
    · rw [e2, st_row h3, e1, st_row h4]
  · refine pc_let (fun x3 _ => ?_)
    exact pc_w (l12 FU) (fun _ u y => ⟨by rw [y 3 (by decide)]; exact q.1, fun c h3 h4 => (y c h4).trans (q.2 c h3 h4)⟩)
theorem rl49 {v1 v2 : Int} : ∀ (n : Nat) {v3 : Int} {w : Wd}, PC (f_R_line_49 n v1 v2 v3 w) (fun r _ => r = v2) := by
  intro n
  induction n with
  | zero => intros; exact pc_none
  | succ n ih =>
    intro v3 w
    rw [f_R_line_49]
    refine pc_ite (fun _ => pc_some rfl) (fun _ => ?_)
    have l59 : ∀ (m : Nat) {v4 v5 : Int}, PC (f_R_line_59 (f_R_line_49 n) m v1 v2 v3 v4 v5 w) (fun r _ => r = v2) := by
      intro m
      induction m with
      | zero => intros; exact pc_none
      | succ m ihm =>
        intro v4 v5
        rw [f_R_line_59]
        refine pc_ite (fun _ => ?_) (fun _ => ?_)
        · exact pc_call (rt1 v4 w) (fun _ _ _ => pc_let (fun _ _ => ih))
        · exact pc_gd (fun _ => pc_let (fun _ _ => pc_let (fun _ _ => ihm)))
    exact l59 FU
theorem er_line {a w : Wd} {v1 : Int} (h : ER a w) (hS : Sn (a 43 0) (a 47) (a 48) (a 49) (a 43 8)) : PC (f_E_line v1 w) (fun r _ => PC (f_R_line v1 a) (fun r' _ => r = r')) := by
  have x0 : 0 ≤ a 43 0 ∧ a 43 0 ≤ 10 := h.2.2.1
  have x3 : w 5 3 = a 43 0 := h.1.1.2.1
  have xp : ∀ j : Nat, (j : Int) < a 43 0 → w 6 j = a 44 j ∧ w 7 j = a 45 j ∧ w 8 j = a 48 j := h.1.2.1
  obtain ⟨d, hrk⟩ := rk_sn x0 hS
  have two : ∀ (n m : Nat) {x v3 : Int} {u y : Wd}, u 5 = w 5 → u 8 = w 8 → u 3 1 = v3 → y 48 = a 48 → 0 ≤ v3 → v3 ≤ 10 → (x = -1 ∨ ((0 ≤ x ∧ x < a 43 0) ∧ v3 + d x.toNat < a 43 0)) → PC (f_E_line_31 n x v3 u) (fun r _ => PC (f_R_line_24 m v1 v3 x y) (fun r' _ => r = r')) := by
    intro n
    induction n with
    | zero => intros; exact pc_none
    | succ n ih =>
      intro m x v3 u y u5 u8 u3 y48 i0 i1 hx
      cases m with
      | zero => exact fun _ _ _ => pc_none
      | succ m =>
      rw [f_E_line_31, u5, x3, f_R_line_24]
      have fin : x = -1 → PC (f_E_line_70 u) (fun r _ => PC (if x = -1 then jlw (st y 43 15 0) fun u5 => f_R_line_49 FU v1 v3 v3 u5 else jlet (w32 (v3 + 1)) fun x11 => jgd ((0 : Int) ≤ x ∧ x < 10) <| jlet (y 48 x.toNat) fun x12 => f_R_line_24 m v1 x11 x12 y) (fun r' _ => r = r')) := fun e => by
        unfold f_E_line_70
        refine pc_some ?_
        rw [if_pos e]
        exact pc_lw (fun _ _ => pc_w (rl49 FU) (fun r' _ q => u3.trans q.symm))
      refine pc_ite (fun c => fin ?_) (fun c => ?_)
      · rcases hx with e | e
        · exact e
        · omega
      refine pc_ite (fun e => fin e) (fun c1 => ?_)
      have hx2 := hx.resolve_left c1
      have dx := (hrk x.toNat (by omega)).1
      refine pc_call (pf_pc (x := x) (w := u) (by omega)) (fun r7 u8' q7 => ?_)
      refine pc_call (bb_pc (v1 := x) (w := u8') (by rw [q7.2 5 (by decide) (by decide), u5]; omega)) (fun r9 u10 q9 => ?_)
      rw [q9.1, q9.2, q7.2 8 (by decide) (by decide), u8, (xp x.toNat (by omega)).2.2]
      refine pc_let (fun x11 e11 => ?_)
      rw [w32_id (show -2147483648 ≤ v3 + 1 ∧ v3 + 1 ≤ 2147483647 by omega)] at e11
      rw [e11]
      have hb := (hrk x.toNat (by omega)).2
      refine pc_w (ih m (x := a 48 x.toNat) (v3 := v3 + 1) (u := u8') (y := y) ((q7.2 5 (by decide) (by decide)).trans u5) ((q7.2 8 (by decide) (by decide)).trans u8) (by rw [q7.1, u3]) y48 (by omega) (by omega) (by
        rcases hb with e | e
        · exact Or.inl e
        · exact Or.inr ⟨e.1, by omega⟩)) (fun r _ q => ?_)
      rw [if_neg c1]
      refine pc_let (fun x12 e12 => pc_gd (fun _ => pc_let (fun x13 e13 => ?_)))
      rw [w32_id (show -2147483648 ≤ v3 + 1 ∧ v3 + 1 ≤ 2147483647 by omega)] at e12
      rw [e12, e13, y48]
      exact q
  unfold f_E_line f_R_line
  refine pc_call (it_pc v1 w) (fun r1 u2 q => ?_)
  rw [q.1, q.2, x3]
  unfold hd
  by_cases c1 : 0 ≤ v1 ∧ v1 < a 43 0
  · rw [if_pos c1]
    refine pc_ite (fun e => absurd e (by decide)) (fun _ => ?_)
    unfold f_N_clear
    refine pc_call (P := fun _ u => u = st w 3 1 0) (pc_lw (fun u1 e1 => pc_some e1)) (fun r3 u4 e4 => ?_)
    have u5 : u4 5 = w 5 := by rw [e4, st_row (by decide)]
    have u8 : u4 8 = w 8 := by rw [e4, st_row (by decide)]
    refine pc_call (bb_pc (v1 := v1) (w := u4) (by rw [u5]; omega)) (fun r5 u6 q5 => ?_)
    rw [q5.1, q5.2, u8, (xp v1.toNat (by omega)).2.2]
    have hb := (hrk v1.toNat (by omega)).2
    have dv := (hrk v1.toNat (by omega)).1
    have hx : a 48 v1.toNat = -1 ∨ ((0 ≤ a 48 v1.toNat ∧ a 48 v1.toNat < a 43 0) ∧ 0 + d (a 48 v1.toNat).toNat < a 43 0) := by
      rcases hb with e | e
      · exact Or.inl e
      · exact Or.inr ⟨e.1, by omega⟩
    intro r u eL
    refine pc_lw (fun y ey => ?_)
    have y0 : y 43 0 = a 43 0 := by rw [ey, st_k (by decide)]
    have y48 : y 48 = a 48 := by rw [ey, st_row (by decide)]
    refine pc_call (io_pc v1 y (by omega)) (fun r2 u3 q3 => ?_)
    rw [q3.1, q3.2, y0, show hd (a 43 0) v1 = 1 from if_pos c1]
    refine pc_ite (fun e => absurd e (by decide)) (fun _ => ?_)
    refine pc_gd (fun _ => pc_let (fun x4 e4' => ?_))
    rw [e4', y48]
    exact two FU FU u5 u8 (by rw [e4, st_eq]) y48 (by decide) (by decide) hx r u eL
  · rw [if_neg c1]
    refine pc_ite (fun _ => pc_some (pc_lw (fun y ey => ?_))) (fun e => absurd rfl e)
    have y0 : y 43 0 = a 43 0 := by rw [ey, st_k (by decide)]
    refine pc_call (io_pc v1 y (by omega)) (fun r2 u3 q3 => ?_)
    rw [q3.2, y0, show hd (a 43 0) v1 = 0 from if_neg c1]
    exact pc_ite (fun _ => pc_some rfl) (fun e => absurd rfl e)
theorem dq_line {w : Wd} {v1 : Int} (h : LU w) (i_v1 : ((-2147483648 : Int) ≤ v1 ∧ v1 ≤ 2147483647)) : OK (f_E_line v1 w) (fun r1 u1 => OK (f_R_line v1 u1) (fun r2 u2 => LU u2 ∧ r1 = r2)) :=
  d_er (xR := fun u => f_R_line v1 u) h (d_line h i_v1) (pc_w (pc_ok (e_E_line h.1.1 i_v1)) (fun _ _ q => g_hi q.1 (by decide))) (fun _ ha hs => er_line ha hs)
