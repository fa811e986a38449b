/-! THE LAW'S LOOP ON THE NEW OBJECT -/
theorem q1 : w32 (0 + 1) = 1 := by decide +kernel
theorem q2 : w32 (0 + 2) = 2 := by decide +kernel
theorem q3 : w32 (0 + 3) = 3 := by decide +kernel
theorem q4 : w32 (0 + 4) = 4 := by decide +kernel
theorem gt {c : Prop} [Decidable c] (h : c) {x : Option (Int × Wd)} : jgd c x = x := if_pos h
theorem i32r (x : Int32) : -2147483648 ≤ x.toInt ∧ x.toInt < 2147483648 := ⟨x.le_toInt, x.toInt_lt⟩
theorem jc_is {a : Option (Int × Wd)} {r : Int} {u : Wd} (h : a = some (r, u)) {f : Int → Wd → Option (Int × Wd)} : jcall a f = f r u := by rw [h]; rfl
theorem br_220 {xf : Nat → Int32} : ∃ w9 : Wd, f_A_law_220 5 xf (f_A_law 5 xf 2) 0 w0 = some (1, w9) := by
  obtain ⟨r, u, u2, ha, hb⟩ := two_ok (two_sign ((xf (1 : Int).toNat).toInt))
  refine ⟨u2, ?_⟩
  unfold f_A_law_220
  rw [q1]
  rw [gt (by decide), jc_is ha, gt (by decide), jc_is hb, if_pos rfl]
  exact tail_1316 u2
theorem br_245 {xf : Nat → Int32} : ∃ w9 : Wd, f_A_law_245 5 xf (f_A_law 5 xf 2) 0 w0 = some (1, w9) := by
  obtain ⟨r, u, u2, ha, hb⟩ := two_ok (two_end ((xf (1 : Int).toNat).toInt))
  refine ⟨u2, ?_⟩
  unfold f_A_law_245
  rw [q1]
  rw [gt (by decide), jc_is ha, gt (by decide), jc_is hb, if_pos rfl]
  exact tail_1316 u2
theorem br_270 {xf : Nat → Int32} : ∃ w9 : Wd, f_A_law_270 5 xf (f_A_law 5 xf 2) 0 w0 = some (1, w9) := by
  obtain ⟨r, u, u2, ha, hb⟩ := two_ok (two_land)
  refine ⟨u2, ?_⟩
  unfold f_A_law_270
  rw [jc_is ha, jc_is hb, if_pos rfl]
  exact tail_1316 u2
theorem br_283 {xf : Nat → Int32} : ∃ w9 : Wd, f_A_law_283 5 xf (f_A_law 5 xf 2) 0 w0 = some (1, w9) := by
  obtain ⟨r, u, u2, ha, hb⟩ := two_ok (two_rule)
  refine ⟨u2, ?_⟩
  unfold f_A_law_283
  rw [jc_is ha, jc_is hb, if_pos rfl]
  exact tail_1316 u2
theorem br_296 {xf : Nat → Int32} : ∃ w9 : Wd, f_A_law_296 5 xf (f_A_law 5 xf 2) 0 w0 = some (1, w9) := by
  have ha : f_A_of (xf (1 : Int).toNat).toInt (xf (2 : Int).toNat).toInt w0 = some (1, w0) := by
    unfold f_A_of f_E_of
    rw [isT _ z5_3]; rfl
  have hb : f_R_of (xf (1 : Int).toNat).toInt (xf (2 : Int).toNat).toInt w0 = some (0, st (st w0 43 16 0) 43 16 1) := by
    unfold f_R_of; rw [jlw_eq, isO _ y43_0]; rfl
  have hc : f_R_thrown (st (st w0 43 16 0) 43 16 1) = some (1, st (st w0 43 16 0) 43 16 1) := by
    unfold f_R_thrown; rw [st_eq]
  refine ⟨st (st w0 43 16 0) 43 16 1, ?_⟩
  unfold f_A_law_296
  rw [q1, q2, gt (by decide), gt (by decide), jc_is ha, gt (by decide), gt (by decide), jc_is hb, jc_is hc, if_pos rfl, if_neg (by decide)]
  exact tail_1316 _
theorem br_364 {xf : Nat → Int32} : ∃ w9 : Wd, f_A_law_364 5 xf (f_A_law 5 xf 2) 0 w0 = some (1, w9) := by
  obtain ⟨r, u, u2, ha, hb⟩ := two_ok (two_law ((xf (1 : Int).toNat).toInt) ((xf (2 : Int).toNat).toInt))
  refine ⟨u2, ?_⟩
  unfold f_A_law_364
  rw [q1, q2]
  rw [gt (by decide), gt (by decide), jc_is ha, gt (by decide), gt (by decide), jc_is hb, if_pos rfl]
  exact tail_1316 u2
theorem br_401 {xf : Nat → Int32} : ∃ w9 : Wd, f_A_law_401 5 xf (f_A_law 5 xf 2) 0 w0 = some (1, w9) := by
  by_cases h : (xf (3 : Int).toNat).toInt = 0
  · obtain ⟨r, u, u2, ha, hb⟩ := two_ok (two_meet (xf (1 : Int).toNat).toInt (xf (2 : Int).toNat).toInt 0)
    refine ⟨u2, ?_⟩
    unfold f_A_law_401
    rw [q1, q2, q3, gt (by decide), gt (by decide), gt (by decide), if_pos h]
    unfold f_A_law_428
    rw [q1, q2, q3, jc_is ha, gt (by decide), gt (by decide), gt (by decide), if_pos h]
    unfold f_A_law_458
    rw [jc_is hb, if_pos rfl]
    exact tail_1316 u2
  · obtain ⟨r, u, u2, ha, hb⟩ := two_ok (two_meet (xf (1 : Int).toNat).toInt (xf (2 : Int).toNat).toInt 1)
    refine ⟨u2, ?_⟩
    unfold f_A_law_401
    rw [q1, q2, q3, gt (by decide), gt (by decide), gt (by decide), if_neg h]
    unfold f_A_law_428
    rw [q1, q2, q3, jc_is ha, gt (by decide), gt (by decide), gt (by decide), if_neg h]
    unfold f_A_law_458
    rw [jc_is hb, if_pos rfl]
    exact tail_1316 u2
theorem br_466 {xf : Nat → Int32} : ∃ w9 : Wd, f_A_law_466 5 xf (f_A_law 5 xf 2) 0 w0 = some (1, w9) := by
  by_cases h : (xf (2 : Int).toNat).toInt = 0
  · obtain ⟨r, u, u2, ha, hb⟩ := two_ok (two_hide (xf (1 : Int).toNat).toInt 0)
    refine ⟨u2, ?_⟩
    unfold f_A_law_466
    rw [q1, q2, gt (by decide), gt (by decide), if_pos h]
    unfold f_A_law_487
    rw [q1, q2, jc_is ha, gt (by decide), gt (by decide), if_pos h]
    unfold f_A_law_511
    rw [jc_is hb, if_pos rfl]
    exact tail_1316 u2
  · obtain ⟨r, u, u2, ha, hb⟩ := two_ok (two_hide (xf (1 : Int).toNat).toInt 1)
    refine ⟨u2, ?_⟩
    unfold f_A_law_466
    rw [q1, q2, gt (by decide), gt (by decide), if_neg h]
    unfold f_A_law_487
    rw [q1, q2, jc_is ha, gt (by decide), gt (by decide), if_neg h]
    unfold f_A_law_511
    rw [jc_is hb, if_pos rfl]
    exact tail_1316 u2
theorem br_519 {xf : Nat → Int32} : ∃ w9 : Wd, f_A_law_519 5 xf (f_A_law 5 xf 2) 0 w0 = some (1, w9) := by
  obtain ⟨r, u, u2, ha, hb⟩ := two_ok (two_baby (i32r (xf (1 : Int).toNat)))
  refine ⟨u2, ?_⟩
  unfold f_A_law_519
  rw [q1]
  rw [gt (by decide), jc_is ha, gt (by decide), jc_is hb, if_pos rfl]
  exact tail_1316 u2
theorem br_544 {xf : Nat → Int32} : ∃ w9 : Wd, f_A_law_544 5 xf (f_A_law 5 xf 2) 0 w0 = some (1, w9) := by
  obtain ⟨r, u, u2, ha, hb⟩ := two_ok (two_sheet ((xf (1 : Int).toNat).toInt) ((xf (2 : Int).toNat).toInt) ((xf (3 : Int).toNat).toInt) ((xf (4 : Int).toNat).toInt))
  refine ⟨u2, ?_⟩
  unfold f_A_law_544
  rw [q1, q2, q3, q4]
  rw [gt (by decide), gt (by decide), gt (by decide), gt (by decide), jc_is ha, gt (by decide), gt (by decide), gt (by decide), gt (by decide), jc_is hb, if_pos rfl]
  exact tail_1316 u2
theorem br_605 {xf : Nat → Int32} : ∃ w9 : Wd, f_A_law_605 5 xf (f_A_law 5 xf 2) 0 w0 = some (1, w9) := by
  obtain ⟨r, u, u2, ha, hb⟩ := two_ok (two_week)
  refine ⟨u2, ?_⟩
  unfold f_A_law_605
  rw [jc_is ha, jc_is hb, if_pos rfl]
  exact tail_1316 u2
theorem br_618 {xf : Nat → Int32} : ∃ w9 : Wd, f_A_law_618 5 xf (f_A_law 5 xf 2) 0 w0 = some (1, w9) := by
  obtain ⟨r, u, u2, ha, hb⟩ := two_ok (two_goes ((xf (1 : Int).toNat).toInt))
  refine ⟨u2, ?_⟩
  unfold f_A_law_618
  rw [q1]
  rw [gt (by decide), jc_is ha, gt (by decide), jc_is hb, if_pos rfl]
  exact tail_1316 u2
theorem br_643 {xf : Nat → Int32} : ∃ w9 : Wd, f_A_law_643 5 xf (f_A_law 5 xf 2) 0 w0 = some (1, w9) := by
  obtain ⟨r, u, u2, ha, hb⟩ := two_ok (two_undo)
  refine ⟨u2, ?_⟩
  unfold f_A_law_643
  rw [jc_is ha, jc_is hb, if_pos rfl]
  exact tail_1316 u2
theorem br_656 {xf : Nat → Int32} : ∃ w9 : Wd, f_A_law_656 5 xf (f_A_law 5 xf 2) 0 w0 = some (1, w9) := by
  obtain ⟨r, u, u2, ha, hb⟩ := two_ok (two_can)
  refine ⟨u2, ?_⟩
  unfold f_A_law_656
  rw [jc_is ha, jc_is hb, if_pos rfl]
  exact tail_1316 u2
theorem br_669 {xf : Nat → Int32} : ∃ w9 : Wd, f_A_law_669 5 xf (f_A_law 5 xf 2) 0 w0 = some (1, w9) := by
  obtain ⟨r, u, u2, ha, hb⟩ := two_ok (two_picks ((xf (1 : Int).toNat).toInt))
  refine ⟨u2, ?_⟩
  unfold f_A_law_669
  rw [q1]
  rw [gt (by decide), jc_is ha, gt (by decide), jc_is hb, if_pos rfl]
  exact tail_1316 u2
theorem br_694 {xf : Nat → Int32} : ∃ w9 : Wd, f_A_law_694 5 xf (f_A_law 5 xf 2) 0 w0 = some (1, w9) := by
  obtain ⟨r, u, u2, ha, hb⟩ := two_ok (two_pairs)
  refine ⟨u2, ?_⟩
  unfold f_A_law_694
  rw [jc_is ha, jc_is hb, if_pos rfl]
  exact tail_1316 u2
theorem br_707 {xf : Nat → Int32} : ∃ w9 : Wd, f_A_law_707 5 xf (f_A_law 5 xf 2) 0 w0 = some (1, w9) := by
  obtain ⟨r, u, u2, ha, hb⟩ := two_ok (two_bars)
  refine ⟨u2, ?_⟩
  unfold f_A_law_707
  rw [jc_is ha, jc_is hb, if_pos rfl]
  exact tail_1316 u2
theorem br_720 {xf : Nat → Int32} : ∃ w9 : Wd, f_A_law_720 5 xf (f_A_law 5 xf 2) 0 w0 = some (1, w9) := by
  obtain ⟨r, u, u2, ha, hb⟩ := two_ok (two_states)
  refine ⟨u2, ?_⟩
  unfold f_A_law_720
  rw [jc_is ha, jc_is hb, if_pos rfl]
  exact tail_1316 u2
theorem br_733 {xf : Nat → Int32} : ∃ w9 : Wd, f_A_law_733 5 xf (f_A_law 5 xf 2) 0 w0 = some (1, w9) := by
  obtain ⟨r, u, u2, ha, hb⟩ := two_ok (two_most ((xf (1 : Int).toNat).toInt))
  refine ⟨u2, ?_⟩
  unfold f_A_law_733
  rw [q1]
  rw [gt (by decide), jc_is ha, gt (by decide), jc_is hb, if_pos rfl]
  exact tail_1316 u2
theorem br_758 {xf : Nat → Int32} : ∃ w9 : Wd, f_A_law_758 5 xf (f_A_law 5 xf 2) 0 w0 = some (1, w9) := by
  obtain ⟨r, u, u2, ha, hb⟩ := two_ok (two_reach ((xf (1 : Int).toNat).toInt))
  refine ⟨u2, ?_⟩
  unfold f_A_law_758
  rw [q1]
  rw [gt (by decide), jc_is ha, gt (by decide), jc_is hb, if_pos rfl]
  exact tail_1316 u2
theorem br_783 {xf : Nat → Int32} : ∃ w9 : Wd, f_A_law_783 5 xf (f_A_law 5 xf 2) 0 w0 = some (1, w9) := by
  obtain ⟨r, u, u2, ha, hb⟩ := two_ok (two_fewest ((xf (1 : Int).toNat).toInt))
  refine ⟨u2, ?_⟩
  unfold f_A_law_783
  rw [q1]
  rw [gt (by decide), jc_is ha, gt (by decide), jc_is hb, if_pos rfl]
  exact tail_1316 u2
theorem br_808 {xf : Nat → Int32} : ∃ w9 : Wd, f_A_law_808 5 xf (f_A_law 5 xf 2) 0 w0 = some (1, w9) := by
  obtain ⟨r, u, u2, ha, hb⟩ := two_ok (two_crowd)
  refine ⟨u2, ?_⟩
  unfold f_A_law_808
  rw [jc_is ha, jc_is hb, if_pos rfl]
  exact tail_1316 u2
theorem br_821 {xf : Nat → Int32} : ∃ w9 : Wd, f_A_law_821 5 xf (f_A_law 5 xf 2) 0 w0 = some (1, w9) := by
  obtain ⟨r, u, u2, ha, hb⟩ := two_ok (two_both ((xf (1 : Int).toNat).toInt) ((xf (2 : Int).toNat).toInt) ((xf (3 : Int).toNat).toInt))
  refine ⟨u2, ?_⟩
  unfold f_A_law_821
  rw [q1, q2, q3]
  rw [gt (by decide), gt (by decide), gt (by decide), jc_is ha, gt (by decide), gt (by decide), gt (by decide), jc_is hb, if_pos rfl]
  exact tail_1316 u2
theorem br_870 {xf : Nat → Int32} : ∃ w9 : Wd, f_A_law_870 5 xf (f_A_law 5 xf 2) 0 w0 = some (1, w9) := by
  obtain ⟨r, u, u2, ha, hb⟩ := two_ok (two_last)
  refine ⟨u2, ?_⟩
  unfold f_A_law_870
  rw [jc_is ha, jc_is hb, if_pos rfl]
  exact tail_1316 u2
theorem br_883 {xf : Nat → Int32} : ∃ w9 : Wd, f_A_law_883 5 xf (f_A_law 5 xf 2) 0 w0 = some (1, w9) := by
  obtain ⟨r, u, u2, ha, hb⟩ := two_ok (two_begin)
  refine ⟨u2, ?_⟩
  unfold f_A_law_883
  rw [jc_is ha, jc_is hb, if_pos rfl]
  exact tail_1316 u2
theorem br_896 {xf : Nat → Int32} : ∃ w9 : Wd, f_A_law_896 5 xf (f_A_law 5 xf 2) 0 w0 = some (1, w9) := by
  obtain ⟨r, u, u2, ha, hb⟩ := two_ok (two_cheap ((xf (1 : Int).toNat).toInt))
  refine ⟨u2, ?_⟩
  unfold f_A_law_896
  rw [q1]
  rw [gt (by decide), jc_is ha, gt (by decide), jc_is hb, if_pos rfl]
  exact tail_1316 u2
theorem br_921 {xf : Nat → Int32} : ∃ w9 : Wd, f_A_law_921 5 xf (f_A_law 5 xf 2) 0 w0 = some (1, w9) := by
  obtain ⟨r, u, u2, ha, hb⟩ := two_ok (two_stays ((xf (1 : Int).toNat).toInt))
  refine ⟨u2, ?_⟩
  unfold f_A_law_921
  rw [q1]
  rw [gt (by decide), jc_is ha, gt (by decide), jc_is hb, if_pos rfl]
  exact tail_1316 u2
theorem br_946 {xf : Nat → Int32} : ∃ w9 : Wd, f_A_law_946 5 xf (f_A_law 5 xf 2) 0 w0 = some (1, w9) := by
  obtain ⟨r, u, u2, ha, hb⟩ := two_ok (two_soonest ((xf (1 : Int).toNat).toInt))
  refine ⟨u2, ?_⟩
  unfold f_A_law_946
  rw [q1]
  rw [gt (by decide), jc_is ha, gt (by decide), jc_is hb, if_pos rfl]
  exact tail_1316 u2
theorem br_971 {xf : Nat → Int32} : ∃ w9 : Wd, f_A_law_971 5 xf (f_A_law 5 xf 2) 0 w0 = some (1, w9) := by
  obtain ⟨r, u, u2, ha, hb⟩ := two_ok (two_worth ((xf (1 : Int).toNat).toInt))
  refine ⟨u2, ?_⟩
  unfold f_A_law_971
  rw [q1]
  rw [gt (by decide), jc_is ha, gt (by decide), jc_is hb, if_pos rfl]
  exact tail_1316 u2
theorem br_996 {xf : Nat → Int32} : ∃ w9 : Wd, f_A_law_996 5 xf (f_A_law 5 xf 2) 0 w0 = some (1, w9) := by
  obtain ⟨r, u, u2, ha, hb⟩ := two_ok (two_needed)
  refine ⟨u2, ?_⟩
  unfold f_A_law_996
  rw [jc_is ha, jc_is hb, if_pos rfl]
  exact tail_1316 u2
theorem br_1009 {xf : Nat → Int32} : ∃ w9 : Wd, f_A_law_1009 5 xf (f_A_law 5 xf 2) 0 w0 = some (1, w9) := by
  obtain ⟨r, u, u2, ha, hb⟩ := two_ok (two_never)
  refine ⟨u2, ?_⟩
  unfold f_A_law_1009
  rw [jc_is ha, jc_is hb, if_pos rfl]
  exact tail_1316 u2
theorem br_1022 {xf : Nat → Int32} : ∃ w9 : Wd, f_A_law_1022 5 xf (f_A_law 5 xf 2) 0 w0 = some (1, w9) := by
  obtain ⟨r, u, u2, ha, hb⟩ := two_ok (two_bound)
  refine ⟨u2, ?_⟩
  unfold f_A_law_1022
  rw [jc_is ha, jc_is hb, if_pos rfl]
  exact tail_1316 u2
theorem br_1035 {xf : Nat → Int32} : ∃ w9 : Wd, f_A_law_1035 5 xf (f_A_law 5 xf 2) 0 w0 = some (1, w9) := by
  obtain ⟨r, u, u2, ha, hb⟩ := two_ok (two_far ((xf (1 : Int).toNat).toInt))
  refine ⟨u2, ?_⟩
  unfold f_A_law_1035
  rw [q1]
  rw [gt (by decide), jc_is ha, gt (by decide), jc_is hb, if_pos rfl]
  exact tail_1316 u2
theorem br_1060 {xf : Nat → Int32} : ∃ w9 : Wd, f_A_law_1060 5 xf (f_A_law 5 xf 2) 0 w0 = some (1, w9) := by
  obtain ⟨r, u, u2, ha, hb⟩ := two_ok (two_line ((xf (1 : Int).toNat).toInt))
  refine ⟨u2, ?_⟩
  unfold f_A_law_1060
  rw [q1]
  rw [gt (by decide), jc_is ha, gt (by decide), jc_is hb, if_pos rfl]
  exact tail_1316 u2
theorem br_1085 {xf : Nat → Int32} : ∃ w9 : Wd, f_A_law_1085 5 xf (f_A_law 5 xf 2) 0 w0 = some (1, w9) := by
  obtain ⟨r, u, u2, ha, hb⟩ := two_ok (two_led ((xf (1 : Int).toNat).toInt))
  refine ⟨u2, ?_⟩
  unfold f_A_law_1085
  rw [q1]
  rw [gt (by decide), jc_is ha, gt (by decide), jc_is hb, if_pos rfl]
  exact tail_1316 u2
theorem br_1110 {xf : Nat → Int32} : ∃ w9 : Wd, f_A_law_1110 5 xf (f_A_law 5 xf 2) 0 w0 = some (1, w9) := by
  obtain ⟨r, u, u2, ha, hb⟩ := two_ok (two_was ((xf (1 : Int).toNat).toInt))
  refine ⟨u2, ?_⟩
  unfold f_A_law_1110
  rw [q1]
  rw [gt (by decide), jc_is ha, gt (by decide), jc_is hb, if_pos rfl]
  exact tail_1316 u2
theorem br_1135 {xf : Nat → Int32} : ∃ w9 : Wd, f_A_law_1135 5 xf (f_A_law 5 xf 2) 0 w0 = some (1, w9) := by
  obtain ⟨r, u, u2, ha, hb⟩ := two_ok (two_common ((xf (1 : Int).toNat).toInt) ((xf (2 : Int).toNat).toInt))
  refine ⟨u2, ?_⟩
  unfold f_A_law_1135
  rw [q1, q2]
  rw [gt (by decide), gt (by decide), jc_is ha, gt (by decide), gt (by decide), jc_is hb, if_pos rfl]
  exact tail_1316 u2
theorem br_1172 {xf : Nat → Int32} : ∃ w9 : Wd, f_A_law_1172 5 xf (f_A_law 5 xf 2) 0 w0 = some (1, w9) := by
  obtain ⟨r, u, u2, ha, hb⟩ := two_ok (two_father)
  refine ⟨u2, ?_⟩
  unfold f_A_law_1172
  rw [jc_is ha, jc_is hb, if_pos rfl]
  exact tail_1316 u2
theorem br_1185 {xf : Nat → Int32} : ∃ w9 : Wd, f_A_law_1185 5 xf (f_A_law 5 xf 2) 0 w0 = some (1, w9) := by
  obtain ⟨r, u, u2, ha, hb⟩ := two_ok (two_keep ((xf (1 : Int).toNat).toInt))
  refine ⟨u2, ?_⟩
  unfold f_A_law_1185
  rw [q1]
  rw [gt (by decide), jc_is ha, gt (by decide), jc_is hb, if_pos rfl]
  exact tail_1316 u2
theorem br_1210 {xf : Nat → Int32} : ∃ w9 : Wd, f_A_law_1210 5 xf (f_A_law 5 xf 2) 0 w0 = some (1, w9) := by
  obtain ⟨r, u, u2, ha, hb⟩ := two_ok (two_again ((xf (1 : Int).toNat).toInt))
  refine ⟨u2, ?_⟩
  unfold f_A_law_1210
  rw [q1]
  rw [gt (by decide), jc_is ha, gt (by decide), jc_is hb, if_pos rfl]
  exact tail_1316 u2
theorem br_1235 {xf : Nat → Int32} : ∃ w9 : Wd, f_A_law_1235 5 xf (f_A_law 5 xf 2) 0 w0 = some (1, w9) := by
  obtain ⟨r, u, u2, ha, hb⟩ := two_ok (two_count ((xf (1 : Int).toNat).toInt))
  refine ⟨u2, ?_⟩
  unfold f_A_law_1235
  rw [q1]
  rw [gt (by decide), jc_is ha, gt (by decide), jc_is hb, if_pos rfl]
  exact tail_1316 u2
theorem br_1260 {xf : Nat → Int32} : ∃ w9 : Wd, f_A_law_1260 5 xf (f_A_law 5 xf 2) 0 w0 = some (1, w9) := by
  have e1 : w0 3 1 = 0 := by decide +kernel
  have e2 : w32 (st w0 43 16 0 43 15 - 1) = -1 := by decide +kernel
  have ha : f_A_row (xf (1 : Int).toNat).toInt w0 = some (1, w0) := by
    have h : f_E_row (xf (1 : Int).toNat).toInt w0 = some (THR, w0) := by
      unfold f_E_row; rw [e1]
      split
      · rfl
      · rfl
    unfold f_A_row
    rw [h]; rfl
  have hb : f_R_row (xf (1 : Int).toNat).toInt w0 = some (0, st (st w0 43 16 0) 43 16 1) := by
    unfold f_R_row; rw [jlw_eq, e2, in_no (by omega)]; rfl
  have hc : f_R_thrown (st (st w0 43 16 0) 43 16 1) = some (1, st (st w0 43 16 0) 43 16 1) := by
    unfold f_R_thrown; rw [st_eq]
  refine ⟨st (st w0 43 16 0) 43 16 1, ?_⟩
  unfold f_A_law_1260
  rw [q1, gt (by decide), jc_is ha, gt (by decide), jc_is hb, jc_is hc, if_pos rfl, if_neg (by decide)]
  exact tail_1316 _
theorem jlet_eq {α : Type} {x : Int} {f : Int → α} : jlet x f = f x := rfl
theorem ite_ex {c : Prop} [Decidable c] {a b : Option (Int × Wd)} (h1 : c → ∃ w9 : Wd, a = some (1, w9)) (h2 : ¬ c → ∃ w9 : Wd, b = some (1, w9)) : ∃ w9 : Wd, (if c then a else b) = some (1, w9) := by
  by_cases h : c
  · rw [if_pos h]; exact h1 h
  · rw [if_neg h]; exact h2 h
theorem law5 {xf : Nat → Int32} : ∃ w9 : Wd, f_A_law 5 xf 3 0 w0 = some (1, w9) := by
  rw [f_A_law]
  have e : w32 (((5 : Nat) : Int) - 5) = 0 := by decide +kernel
  rw [e, if_neg (by decide), gt (by decide), jlet_eq]
  generalize iand (xf (0 : Int).toNat).toInt 63 = x
  refine ite_ex (fun _ => ⟨w0, tail_1316 w0⟩) (fun n => ?_)
  refine ite_ex (fun _ => br_220) (fun n0 => ?_)
  refine ite_ex (fun _ => br_245) (fun n1 => ?_)
  refine ite_ex (fun _ => br_270) (fun n2 => ?_)
  refine ite_ex (fun _ => br_283) (fun n3 => ?_)
  refine ite_ex (fun _ => br_296) (fun n4 => ?_)
  refine ite_ex (fun _ => br_364) (fun n5 => ?_)
  refine ite_ex (fun _ => br_401) (fun n6 => ?_)
  refine ite_ex (fun _ => br_466) (fun n7 => ?_)
  refine ite_ex (fun _ => br_519) (fun n8 => ?_)
  refine ite_ex (fun _ => br_544) (fun n9 => ?_)
  refine ite_ex (fun _ => br_605) (fun n10 => ?_)
  refine ite_ex (fun _ => br_618) (fun n11 => ?_)
  refine ite_ex (fun _ => br_643) (fun n12 => ?_)
  refine ite_ex (fun _ => br_656) (fun n13 => ?_)
  refine ite_ex (fun _ => br_669) (fun n14 => ?_)
  refine ite_ex (fun _ => br_694) (fun n15 => ?_)
  refine ite_ex (fun _ => br_707) (fun n16 => ?_)
  refine ite_ex (fun _ => br_720) (fun n17 => ?_)
  refine ite_ex (fun _ => br_733) (fun n18 => ?_)
  refine ite_ex (fun _ => br_758) (fun n19 => ?_)
  refine ite_ex (fun _ => br_783) (fun n20 => ?_)
  refine ite_ex (fun _ => br_808) (fun n21 => ?_)
  refine ite_ex (fun _ => br_821) (fun n22 => ?_)
  refine ite_ex (fun _ => br_870) (fun n23 => ?_)
  refine ite_ex (fun _ => br_883) (fun n24 => ?_)
  refine ite_ex (fun _ => br_896) (fun n25 => ?_)
  refine ite_ex (fun _ => br_921) (fun n26 => ?_)
  refine ite_ex (fun _ => br_946) (fun n27 => ?_)
  refine ite_ex (fun _ => br_971) (fun n28 => ?_)
  refine ite_ex (fun _ => br_996) (fun n29 => ?_)
  refine ite_ex (fun _ => br_1009) (fun n30 => ?_)
  refine ite_ex (fun _ => br_1022) (fun n31 => ?_)
  refine ite_ex (fun _ => br_1035) (fun n32 => ?_)
  refine ite_ex (fun _ => br_1060) (fun n33 => ?_)
  refine ite_ex (fun _ => br_1085) (fun n34 => ?_)
  refine ite_ex (fun _ => br_1110) (fun n35 => ?_)
  refine ite_ex (fun _ => br_1135) (fun n36 => ?_)
  refine ite_ex (fun _ => br_1172) (fun n37 => ?_)
  refine ite_ex (fun _ => br_1185) (fun n38 => ?_)
  refine ite_ex (fun _ => br_1210) (fun n39 => ?_)
  refine ite_ex (fun _ => br_1235) (fun n40 => ?_)
  refine ite_ex (fun _ => br_1260) (fun n41 => ?_)
  omega
theorem pure_law {Ln : Nat} (hL : Ln ≤ 5) {xf : Nat → Int32} : ∃ w9 : Wd, f_A_law Ln xf 3 0 w0 = some (1, w9) := by
  by_cases h5 : Ln = 5
  · subst h5; exact law5
  · refine ⟨w0, ?_⟩
    have h : w32 ((Ln : Int) - 5) < 0 := by
      match Ln, h5, hL with
      | 0, _, _ => decide +kernel
      | 1, _, _ => decide +kernel
      | 2, _, _ => decide +kernel
      | 3, _, _ => decide +kernel
      | 4, _, _ => decide +kernel
      | 5, h, _ => exact absurd rfl h
      | n + 6, _, h => omega
    rw [f_A_law, if_pos h]
