def f_S_weeksOf (v1 : Int) (w : Wd) : Option (Int × Wd) :=
  if v1 < 0 then
    some (0, w)
  else
    if (w 28 7) ≤ v1 then
      some (0, w)
    else
      jgd ((0 : Int) ≤ v1 ∧ v1 < 3000) <|
      some (w 31 v1.toNat, w)
theorem ct_S_weeksOf (v1 : Int) (w : Wd) : Ct y_S_weeksOf prog_9_method_9_code 2 (some .long) 1 1 [(2, 29), (0, v1)] w (f_S_weeksOf v1 w) := by
  refine ct_of (by decide +kernel) (Or.inr (Or.inl ⟨rfl, rfl⟩)) (Nat.le_of_ble_eq_true rfl) ?_
  intro X Qf ad C hn hR hr
  unfold f_S_weeksOf
  show VF X Qf ad NF 0 0 w 0 [(0, (2, 29)), (1, (0, v1))] [] _
  refine vf_iload_n C (f := 1) (zdg dz_S_weeksOf_0 0 rfl) 1 rfl rfl ?_
  refine vf_if_lt C (off := 20) (tgt := 21) (zdg dz_S_weeksOf_0 1 rfl) (by decide) ?_ ?_
  · refine vf_lconst C (z := 0) (f := 0) (zdg dz_S_weeksOf_0 11 rfl) (by decide +kernel) (jz1 rfl) ?_
    exact hr _ _ _ _ (fun h => absurd h (by decide)) (zdg dz_S_weeksOf_0 12 rfl)
  · refine vf_iload_n C (f := 1) (zdg dz_S_weeksOf_0 2 rfl) 1 rfl rfl ?_
    refine vf_aload_n C (f := 0) (zdg dz_S_weeksOf_0 3 rfl) 0 rfl rfl ?_
    refine vf_get C (kd := 0) fl_S_67 sh_28 rfl (by decide) rfl rfl (zdg dz_S_weeksOf_0 4 rfl) ?_
    refine vf_icmp_ge C (off := 12) (tgt := 21) (zdg dz_S_weeksOf_0 5 rfl) (by decide) ?_ ?_
    · refine vf_lconst C (z := 0) (f := 0) (zdg dz_S_weeksOf_0 11 rfl) (by decide +kernel) (jz1 rfl) ?_
      exact hr _ _ _ _ (fun h => absurd h (by decide)) (zdg dz_S_weeksOf_0 12 rfl)
    · refine vf_aload_n C (f := 0) (zdg dz_S_weeksOf_0 6 rfl) 0 rfl rfl ?_
      refine vf_getp C fl_S_18 sh_28 rfl (by decide) rfl (x := 32) rfl (zdg dz_S_weeksOf_0 7 rfl) ?_
      refine vf_iload_n C (f := 1) (zdg dz_S_weeksOf_0 8 rfl) 1 rfl rfl ?_
      refine vf_lald C sh_31 (by decide) rfl (mz := 3000) rfl (zdg dz_S_weeksOf_0 9 rfl) ?_
      refine vf_goto C (off := 4) (tgt := 22) (zdg dz_S_weeksOf_0 10 rfl) (by decide) ?_
      exact hr _ _ _ _ (fun h => absurd h (by decide)) (zdg dz_S_weeksOf_0 12 rfl)
def f_S_canBe (v1 v2 : Int) (w : Wd) : Option (Int × Wd) :=
  jcall (f_S_weeksOf v1 w) fun r1 u2 =>
  if (lcmp (land (lshr r1 v2) 1) 0) = 0 then
    some (0, u2)
  else
    some (1, u2)
theorem ct_S_canBe (v1 v2 : Int) (w : Wd) : Ct y_S_canBe prog_9_method_10_code 3 (some .boolean) 2 4 [(2, 29), (0, v1), (0, v2)] w (f_S_canBe v1 v2 w) := by
  refine ct_of (by decide +kernel) (Or.inr (Or.inr (Or.inl ⟨rfl, rfl⟩))) (Nat.le_of_ble_eq_true rfl) ?_
  intro X Qf ad C hn hR hr
  unfold f_S_canBe
  show VF X Qf ad NF 0 0 w 0 [(0, (2, 29)), (1, (0, v1)), (2, (0, v2))] [] _
  refine vf_aload_n C (f := 0) (zdg dz_S_canBe_0 0 rfl) 0 rfl rfl ?_
  refine vf_iload_n C (f := 1) (zdg dz_S_canBe_0 1 rfl) 1 rfl rfl ?_
  refine vf_callVl C cy_S_weeksOf ml_S_106 rfl (ct_S_weeksOf _ _) (S := []) sh_28 (by decide) rfl (jrm_of hR rfl) rfl rfl (Nat.le_of_ble_eq_true rfl) (zdg dz_S_canBe_0 2 rfl) (fun r1 u2 => ?_)
  refine vf_iload_n C (f := 2) (zdg dz_S_canBe_0 3 rfl) 2 rfl rfl ?_
  refine vf_lshr C (zdg dz_S_canBe_0 4 rfl) ?_
  refine vf_lconst C (z := 1) (f := 1) (zdg dz_S_canBe_0 5 rfl) (by decide +kernel) (jz1 rfl) ?_
  refine vf_land C (zdg dz_S_canBe_0 6 rfl) ?_
  refine vf_lconst C (z := 0) (f := 0) (zdg dz_S_canBe_0 7 rfl) (by decide +kernel) (jz1 rfl) ?_
  refine vf_lcmp C (zdg dz_S_canBe_0 8 rfl) ?_
  refine vf_if_eq C (off := 7) (tgt := 18) (zdg dz_S_canBe_0 9 rfl) (by decide) ?_ ?_
  · refine vf_iconst C (z := 0) (zdg dz_S_canBe_0 12 rfl) (jz rfl) ?_
    exact hr _ _ _ _ (fun _ => Or.inl rfl) (zdg dz_S_canBe_0 13 rfl)
  · refine vf_iconst C (z := 1) (zdg dz_S_canBe_0 10 rfl) (jz rfl) ?_
    refine vf_goto C (off := 4) (tgt := 19) (zdg dz_S_canBe_0 11 rfl) (by decide) ?_
    exact hr _ _ _ _ (fun _ => Or.inr rfl) (zdg dz_S_canBe_0 13 rfl)
def f_E_most_82 (k37 : Int → Int → Int → Int → Wd → Option (Int × Wd)) (v1 v2 v3 v4 : Int) (w : Wd) : Option (Int × Wd) :=
  jlet (w32 (v4 + 1)) fun x9 =>
  k37 v1 v2 v3 x9 w
theorem t_E_most_82 {X : jX} {Qf : Int × Wd → State → Prop} {ad : Nat → Nat} (C : Cx X prog_1_method_20_code "EachBringsAnother") (hn : xn X = 5) (hR : xR X = rmD 21) (hr : Rt X Qf ad prog_1_method_20_code 0) {k37 : Int → Int → Int → Int → Wd → Option (Int × Wd)} (hk37 : ∀ (v1 v2 v3 v4 : Int) (w : Wd), VF X Qf ad NF 0 0 w 37 [(0, (2, 1)), (1, (0, v1)), (2, (0, v2)), (3, (0, v3)), (4, (0, v4))] [] (k37 v1 v2 v3 v4 w)) (v1 v2 v3 v4 : Int) (w : Wd) : VF X Qf ad NF 0 0 w 82 [(0, (2, 1)), (1, (0, v1)), (2, (0, v2)), (3, (0, v3)), (4, (0, v4))] [] (f_E_most_82 k37 v1 v2 v3 v4 w) := by
  unfold f_E_most_82
  refine vf_iinc C (z := 1) (L' := [(0, (2, 1)), (1, (0, v1)), (2, (0, v2)), (3, (0, v3))]) (zdg dz_E_most_1 17 rfl) 4 rfl [0, 1, 2, 3] (jrI rfl rfl) hn (by decide) ?_
  generalize w32 (v4 + 1) = x9
  refine vf_ul ?_
  refine vf_goto C (off := (-48)) (tgt := 37) (zdg dz_E_most_1 18 rfl) (by decide) ?_
  exact vf_perm [1, 2, 3, 4, 0] rfl (hk37 _ _ _ _ _)
def f_E_most_37 : Nat → Int → Int → Int → Int → Wd → Option (Int × Wd)
  | 0, _, _, _, _, _ => none
  | n + 1, v1, v2, v3, v4, w =>
    if (w 28 7) ≤ v4 then
      jcall (f_N_tell1 v3 w) fun r5 u6 =>
      some (v2, u6)
    else
      jcall (f_S_canBe v4 v1 w) fun r7 u8 =>
      if r7 = 0 then
        f_E_most_82 (f_E_most_37 n) v1 v2 v3 v4 u8
      else
        jcall (f_S_guests v4 u8) fun r10 u11 =>
        jcall (f_JI_bitCount r10 u11) fun r12 u13 =>
        jlet (imax v2 r12) fun x14 =>
        jlet (w32 (v3 + 1)) fun x15 =>
        f_E_most_82 (f_E_most_37 n) v1 x14 x15 v4 u13
theorem t_E_most_37 {X : jX} {Qf : Int × Wd → State → Prop} {ad : Nat → Nat} (C : Cx X prog_1_method_20_code "EachBringsAnother") (hn : xn X = 5) (hR : xR X = rmD 21) (hr : Rt X Qf ad prog_1_method_20_code 0) : ∀ (n : Nat) (v1 v2 v3 v4 : Int) (w : Wd), VF X Qf ad NF 0 0 w 37 [(0, (2, 1)), (1, (0, v1)), (2, (0, v2)), (3, (0, v3)), (4, (0, v4))] [] (f_E_most_37 n v1 v2 v3 v4 w) := by
  intro n
  induction n with
  | zero => intros; exact vf_no
  | succ n ih =>
    intro v1 v2 v3 v4 w
    rw [f_E_most_37]
    refine vf_iload C (zdg dz_E_most_0 21 rfl) 4 rfl ?_
    refine vf_aload_n C (f := 0) (zdg dz_E_most_0 22 rfl) 0 rfl rfl ?_
    refine vf_getp C fl_E_68 sh_0 rfl (by decide) rfl (x := 29) rfl (zdg dz_E_most_0 23 rfl) ?_
    refine vf_get C (kd := 0) fl_E_260 sh_28 rfl (by decide) rfl rfl (zdg dz_E_most_1 0 rfl) ?_
    refine vf_icmp_ge C (off := 42) (tgt := 88) (zdg dz_E_most_1 1 rfl) (by decide) ?_ ?_
    · refine vf_aload_n C (f := 0) (zdg dz_E_most_1 19 rfl) 0 rfl rfl ?_
      refine vf_getp C fl_E_19 sh_0 rfl (by decide) rfl (x := 4) rfl (zdg dz_E_most_1 20 rfl) ?_
      refine vf_iload_n C (f := 3) (zdg dz_E_most_1 21 rfl) 3 rfl rfl ?_
      refine vf_callVv C cy_N_tell1 ml_E_231 rfl (ct_N_tell1 _ _) (S := []) sh_3 (by decide) rfl (jrm_of hR rfl) rfl rfl (Nat.le_of_ble_eq_true rfl) (zdg dz_E_most_1 22 rfl) (fun r5 u6 => ?_)
      refine vf_iload_n C (f := 2) (zdg dz_E_most_1 23 rfl) 2 rfl rfl ?_
      exact hr _ _ _ _ (fun h => absurd h (by decide)) (zdg dz_E_most_2 0 rfl)
    · refine vf_aload_n C (f := 0) (zdg dz_E_most_1 2 rfl) 0 rfl rfl ?_
      refine vf_getp C fl_E_68 sh_0 rfl (by decide) rfl (x := 29) rfl (zdg dz_E_most_1 3 rfl) ?_
      refine vf_iload C (zdg dz_E_most_1 4 rfl) 4 rfl ?_
      refine vf_iload_n C (f := 1) (zdg dz_E_most_1 5 rfl) 1 rfl rfl ?_
      refine vf_callVz C cy_S_canBe ml_E_266 rfl (ct_S_canBe _ _ _) (S := []) sh_28 (by decide) rfl (jrm_of hR rfl) rfl rfl (Nat.le_of_ble_eq_true rfl) (zdg dz_E_most_1 6 rfl) (fun r7 u8 => ?_)
      refine vf_if_eq C (off := 23) (tgt := 82) (zdg dz_E_most_1 7 rfl) (by decide) ?_ ?_
      · exact t_E_most_82 C hn hR hr ih _ _ _ _ _
      · refine vf_iload_n C (f := 2) (zdg dz_E_most_1 8 rfl) 2 rfl rfl ?_
        refine vf_aload_n C (f := 0) (zdg dz_E_most_1 9 rfl) 0 rfl rfl ?_
        refine vf_getp C fl_E_68 sh_0 rfl (by decide) rfl (x := 29) rfl (zdg dz_E_most_1 10 rfl) ?_
        refine vf_iload C (zdg dz_E_most_1 11 rfl) 4 rfl ?_
        refine vf_callVi C cy_S_guests ml_E_261 rfl (ct_S_guests _ _) (S := [(0, v2)]) sh_28 (by decide) rfl (jrm_of hR rfl) rfl rfl (Nat.le_of_ble_eq_true rfl) (zdg dz_E_most_1 12 rfl) (fun r10 u11 => ?_)
        refine vf_callSi C cy_JI_bitCount ml_E_245 (ct_JI_bitCount _ _) (S := [(0, v2)]) (jrm_of hR rfl) rfl rfl (Nat.le_of_ble_eq_true rfl) (zdg dz_E_most_1 13 rfl) (fun r12 u13 => ?_)
        refine vf_mmax C ml_E_269 (jrm_n hR (by decide)) ⟨Nat.zero_le _, Nat.zero_le _⟩ (Nat.le_of_ble_eq_true rfl) (zdg dz_E_most_1 14 rfl) ?_
        generalize imax v2 r12 = x14
        refine vf_ul ?_
        refine vf_istore_n C (f := 2) (L' := [(0, (2, 1)), (1, (0, v1)), (3, (0, v3)), (4, (0, v4))]) (zdg dz_E_most_1 15 rfl) [0, 1, 3, 4] (jrI rfl rfl) hn (by decide) rfl ?_
        refine vf_iinc C (z := 1) (L' := [(2, (0, x14)), (0, (2, 1)), (1, (0, v1)), (4, (0, v4))]) (zdg dz_E_most_1 16 rfl) 3 rfl [0, 1, 2, 4] (jrI rfl rfl) hn (by decide) ?_
        generalize w32 (v3 + 1) = x15
        refine vf_ul ?_
        exact vf_perm [2, 3, 1, 0, 4] rfl (t_E_most_82 C hn hR hr ih _ _ _ _ _)
def f_E_most (v1 : Int) (w : Wd) : Option (Int × Wd) :=
  jcall (f_E_isWeek v1 w) fun r1 u2 =>
  if r1 = 0 then
    some ((-1), u2)
  else
    jcall (f_S_run u2) fun r3 u4 =>
    if r3 = 0 then
      some ((-3), u4)
    else
      f_E_most_37 FU v1 0 0 0 u4
theorem ct_E_most (v1 : Int) (w : Wd) : Ct y_E_most prog_1_method_20_code 5 (some .int) 21 0 [(2, 1), (0, v1)] w (f_E_most v1 w) := by
  refine ct_of (by decide +kernel) (Or.inl ⟨rfl, rfl⟩) (Nat.le_of_ble_eq_true rfl) ?_
  intro X Qf ad C hn hR hr
  unfold f_E_most
  show VF X Qf ad NF 0 0 w 0 [(0, (2, 1)), (1, (0, v1))] [] _
  refine vf_iload_n C (f := 1) (zdg dz_E_most_0 0 rfl) 1 rfl rfl ?_
  refine vf_callSz C cy_E_isWeek ml_E_209 (ct_E_isWeek _ _) (S := []) (jrm_of hR rfl) rfl rfl (Nat.le_of_ble_eq_true rfl) (zdg dz_E_most_0 1 rfl) (fun r1 u2 => ?_)
  refine vf_if_ne C (off := 5) (tgt := 9) (zdg dz_E_most_0 2 rfl) (by decide) ?_ ?_
  · refine vf_aload_n C (f := 0) (zdg dz_E_most_0 5 rfl) 0 rfl rfl ?_
    refine vf_getp C fl_E_68 sh_0 rfl (by decide) rfl (x := 29) rfl (zdg dz_E_most_0 6 rfl) ?_
    refine vf_aload_n C (f := 0) (zdg dz_E_most_0 7 rfl) 0 rfl rfl ?_
    refine vf_getp C fl_E_26 sh_0 rfl (by decide) rfl (x := 6) rfl (zdg dz_E_most_0 8 rfl) ?_
    refine vf_aload_n C (f := 0) (zdg dz_E_most_0 9 rfl) 0 rfl rfl ?_
    refine vf_getp C fl_E_61 sh_0 rfl (by decide) rfl (x := 25) rfl (zdg dz_E_most_0 10 rfl) ?_
    refine vf_callVz C cy_S_run ml_E_256 rfl (ct_S_run _) (S := []) sh_28 (by decide) rfl (jrm_of hR rfl) rfl rfl (Nat.le_of_ble_eq_true rfl) (zdg dz_E_most_0 11 rfl) (fun r3 u4 => ?_)
    refine vf_if_ne C (off := 6) (tgt := 30) (zdg dz_E_most_0 12 rfl) (by decide) ?_ ?_
    · refine vf_iconst C (z := 0) (zdg dz_E_most_0 15 rfl) (jz rfl) ?_
      refine vf_istore_n C (f := 2) (L' := [(0, (2, 1)), (1, (0, v1))]) (zdg dz_E_most_0 16 rfl) [0, 1] (jrI rfl rfl) hn (by decide) rfl ?_
      refine vf_iconst C (z := 0) (zdg dz_E_most_0 17 rfl) (jz rfl) ?_
      refine vf_istore_n C (f := 3) (L' := [(2, (0, 0)), (0, (2, 1)), (1, (0, v1))]) (zdg dz_E_most_0 18 rfl) [0, 1, 2] (jrI rfl rfl) hn (by decide) rfl ?_
      refine vf_iconst C (z := 0) (zdg dz_E_most_0 19 rfl) (jz rfl) ?_
      refine vf_istore C (i := 4) (L' := [(3, (0, 0)), (2, (0, 0)), (0, (2, 1)), (1, (0, v1))]) (zdg dz_E_most_0 20 rfl) [0, 1, 2, 3] (jrI rfl rfl) hn (by decide) ?_
      exact vf_perm [3, 4, 2, 1, 0] rfl (t_E_most_37 C hn hR hr FU _ _ _ _ _)
    · refine vf_bipush C (z := (-3)) (zdg dz_E_most_0 13 rfl) (by decide +kernel) (jz rfl) ?_
      exact hr _ _ _ _ (fun h => absurd h (by decide)) (zdg dz_E_most_0 14 rfl)
  · refine vf_iconst C (z := (-1)) (zdg dz_E_most_0 3 rfl) (jz rfl) ?_
    exact hr _ _ _ _ (fun h => absurd h (by decide)) (zdg dz_E_most_0 4 rfl)
def f_E_reach_100 (k39 : Int → Int → Int → Int → Wd → Option (Int × Wd)) (v1 v2 v3 v4 : Int) (w : Wd) : Option (Int × Wd) :=
  jlet (w32 (v4 + 1)) fun x9 =>
  k39 v1 v2 v3 x9 w
theorem t_E_reach_100 {X : jX} {Qf : Int × Wd → State → Prop} {ad : Nat → Nat} (C : Cx X prog_1_method_21_code "EachBringsAnother") (hn : xn X = 5) (hR : xR X = rmD 21) (hr : Rt X Qf ad prog_1_method_21_code 0) {k39 : Int → Int → Int → Int → Wd → Option (Int × Wd)} (hk39 : ∀ (v1 v2 v3 v4 : Int) (w : Wd), VF X Qf ad NF 0 0 w 39 [(0, (2, 1)), (1, (0, v1)), (2, (0, v2)), (3, (0, v3)), (4, (0, v4))] [] (k39 v1 v2 v3 v4 w)) (v1 v2 v3 v4 : Int) (w : Wd) : VF X Qf ad NF 0 0 w 100 [(0, (2, 1)), (1, (0, v1)), (2, (0, v2)), (3, (0, v3)), (4, (0, v4))] [] (f_E_reach_100 k39 v1 v2 v3 v4 w) := by
  unfold f_E_reach_100
  refine vf_iinc C (z := 1) (L' := [(0, (2, 1)), (1, (0, v1)), (2, (0, v2)), (3, (0, v3))]) (zdg dz_E_reach_2 3 rfl) 4 rfl [0, 1, 2, 3] (jrI rfl rfl) hn (by decide) ?_
  generalize w32 (v4 + 1) = x9
  refine vf_ul ?_
  refine vf_goto C (off := (-64)) (tgt := 39) (zdg dz_E_reach_2 4 rfl) (by decide) ?_
  exact vf_perm [1, 2, 3, 4, 0] rfl (hk39 _ _ _ _ _)
def f_E_reach_39 : Nat → Int → Int → Int → Int → Wd → Option (Int × Wd)
  | 0, _, _, _, _, _ => none
  | n + 1, v1, v2, v3, v4, w =>
    if (w 28 7) ≤ v4 then
      jcall (f_N_tell1 (iand v2 v3) w) fun r5 u6 =>
      some (v2, u6)
    else
      jcall (f_S_canBe v4 v1 w) fun r7 u8 =>
      if r7 = 0 then
        f_E_reach_100 (f_E_reach_39 n) v1 v2 v3 v4 u8
      else
        jcall (f_S_guests v4 u8) fun r10 u11 =>
        if r10 = 0 then
          f_E_reach_100 (f_E_reach_39 n) v1 v2 v3 v4 u11
        else
          jcall (f_S_guests v4 u11) fun r12 u13 =>
          jlet (ior v2 r12) fun x14 =>
          jcall (f_S_guests v4 u13) fun r15 u16 =>
          jlet (iand v3 r15) fun x17 =>
          f_E_reach_100 (f_E_reach_39 n) v1 x14 x17 v4 u16
theorem t_E_reach_39 {X : jX} {Qf : Int × Wd → State → Prop} {ad : Nat → Nat} (C : Cx X prog_1_method_21_code "EachBringsAnother") (hn : xn X = 5) (hR : xR X = rmD 21) (hr : Rt X Qf ad prog_1_method_21_code 0) : ∀ (n : Nat) (v1 v2 v3 v4 : Int) (w : Wd), VF X Qf ad NF 0 0 w 39 [(0, (2, 1)), (1, (0, v1)), (2, (0, v2)), (3, (0, v3)), (4, (0, v4))] [] (f_E_reach_39 n v1 v2 v3 v4 w) := by
  intro n
  induction n with
  | zero => intros; exact vf_no
  | succ n ih =>
    intro v1 v2 v3 v4 w
    rw [f_E_reach_39]
    refine vf_iload C (zdg dz_E_reach_0 21 rfl) 4 rfl ?_
    refine vf_aload_n C (f := 0) (zdg dz_E_reach_0 22 rfl) 0 rfl rfl ?_
    refine vf_getp C fl_E_68 sh_0 rfl (by decide) rfl (x := 29) rfl (zdg dz_E_reach_0 23 rfl) ?_
    refine vf_get C (kd := 0) fl_E_260 sh_28 rfl (by decide) rfl rfl (zdg dz_E_reach_1 0 rfl) ?_
    refine vf_icmp_ge C (off := 58) (tgt := 106) (zdg dz_E_reach_1 1 rfl) (by decide) ?_ ?_
    · refine vf_aload_n C (f := 0) (zdg dz_E_reach_2 5 rfl) 0 rfl rfl ?_
      refine vf_getp C fl_E_19 sh_0 rfl (by decide) rfl (x := 4) rfl (zdg dz_E_reach_2 6 rfl) ?_
      refine vf_iload_n C (f := 2) (zdg dz_E_reach_2 7 rfl) 2 rfl rfl ?_
      refine vf_iload_n C (f := 3) (zdg dz_E_reach_2 8 rfl) 3 rfl rfl ?_
      refine vf_iand C (zdg dz_E_reach_2 9 rfl) ?_
      refine vf_callVv C cy_N_tell1 ml_E_231 rfl (ct_N_tell1 _ _) (S := []) sh_3 (by decide) rfl (jrm_of hR rfl) rfl rfl (Nat.le_of_ble_eq_true rfl) (zdg dz_E_reach_2 10 rfl) (fun r5 u6 => ?_)
      refine vf_iload_n C (f := 2) (zdg dz_E_reach_2 11 rfl) 2 rfl rfl ?_
      exact hr _ _ _ _ (fun h => absurd h (by decide)) (zdg dz_E_reach_2 12 rfl)
    · refine vf_aload_n C (f := 0) (zdg dz_E_reach_1 2 rfl) 0 rfl rfl ?_
      refine vf_getp C fl_E_68 sh_0 rfl (by decide) rfl (x := 29) rfl (zdg dz_E_reach_1 3 rfl) ?_
      refine vf_iload C (zdg dz_E_reach_1 4 rfl) 4 rfl ?_
      refine vf_iload_n C (f := 1) (zdg dz_E_reach_1 5 rfl) 1 rfl rfl ?_
      refine vf_callVz C cy_S_canBe ml_E_266 rfl (ct_S_canBe _ _ _) (S := []) sh_28 (by decide) rfl (jrm_of hR rfl) rfl rfl (Nat.le_of_ble_eq_true rfl) (zdg dz_E_reach_1 6 rfl) (fun r7 u8 => ?_)
      refine vf_if_eq C (off := 39) (tgt := 100) (zdg dz_E_reach_1 7 rfl) (by decide) ?_ ?_
      · exact t_E_reach_100 C hn hR hr ih _ _ _ _ _
      · refine vf_aload_n C (f := 0) (zdg dz_E_reach_1 8 rfl) 0 rfl rfl ?_
        refine vf_getp C fl_E_68 sh_0 rfl (by decide) rfl (x := 29) rfl (zdg dz_E_reach_1 9 rfl) ?_
        refine vf_iload C (zdg dz_E_reach_1 10 rfl) 4 rfl ?_
        refine vf_callVi C cy_S_guests ml_E_261 rfl (ct_S_guests _ _) (S := []) sh_28 (by decide) rfl (jrm_of hR rfl) rfl rfl (Nat.le_of_ble_eq_true rfl) (zdg dz_E_reach_1 11 rfl) (fun r10 u11 => ?_)
        refine vf_if_eq C (off := 27) (tgt := 100) (zdg dz_E_reach_1 12 rfl) (by decide) ?_ ?_
        · exact t_E_reach_100 C hn hR hr ih _ _ _ _ _
        · refine vf_iload_n C (f := 2) (zdg dz_E_reach_1 13 rfl) 2 rfl rfl ?_
          refine vf_aload_n C (f := 0) (zdg dz_E_reach_1 14 rfl) 0 rfl rfl ?_
          refine vf_getp C fl_E_68 sh_0 rfl (by decide) rfl (x := 29) rfl (zdg dz_E_reach_1 15 rfl) ?_
          refine vf_iload C (zdg dz_E_reach_1 16 rfl) 4 rfl ?_
          refine vf_callVi C cy_S_guests ml_E_261 rfl (ct_S_guests _ _) (S := [(0, v2)]) sh_28 (by decide) rfl (jrm_of hR rfl) rfl rfl (Nat.le_of_ble_eq_true rfl) (zdg dz_E_reach_1 17 rfl) (fun r12 u13 => ?_)
          refine vf_ior C (zdg dz_E_reach_1 18 rfl) ?_
          generalize ior v2 r12 = x14
          refine vf_ul ?_
          refine vf_istore_n C (f := 2) (L' := [(0, (2, 1)), (1, (0, v1)), (3, (0, v3)), (4, (0, v4))]) (zdg dz_E_reach_1 19 rfl) [0, 1, 3, 4] (jrI rfl rfl) hn (by decide) rfl ?_
          refine vf_iload_n C (f := 3) (zdg dz_E_reach_1 20 rfl) 3 rfl rfl ?_
          refine vf_aload_n C (f := 0) (zdg dz_E_reach_1 21 rfl) 1 rfl rfl ?_
          refine vf_getp C fl_E_68 sh_0 rfl (by decide) rfl (x := 29) rfl (zdg dz_E_reach_1 22 rfl) ?_
          refine vf_iload C (zdg dz_E_reach_1 23 rfl) 4 rfl ?_
          refine vf_callVi C cy_S_guests ml_E_261 rfl (ct_S_guests _ _) (S := [(0, v3)]) sh_28 (by decide) rfl (jrm_of hR rfl) rfl rfl (Nat.le_of_ble_eq_true rfl) (zdg dz_E_reach_2 0 rfl) (fun r15 u16 => ?_)
          refine vf_iand C (zdg dz_E_reach_2 1 rfl) ?_
          generalize iand v3 r15 = x17
          refine vf_ul ?_
          refine vf_istore_n C (f := 3) (L' := [(2, (0, x14)), (0, (2, 1)), (1, (0, v1)), (4, (0, v4))]) (zdg dz_E_reach_2 2 rfl) [0, 1, 2, 4] (jrI rfl rfl) hn (by decide) rfl ?_
          exact vf_perm [2, 3, 1, 0, 4] rfl (t_E_reach_100 C hn hR hr ih _ _ _ _ _)
def f_E_reach (v1 : Int) (w : Wd) : Option (Int × Wd) :=
  jcall (f_E_isWeek v1 w) fun r1 u2 =>
  if r1 = 0 then
    some ((-1), u2)
  else
    jcall (f_S_run u2) fun r3 u4 =>
    if r3 = 0 then
      some ((-3), u4)
    else
      f_E_reach_39 FU v1 0 1023 0 u4
theorem ct_E_reach (v1 : Int) (w : Wd) : Ct y_E_reach prog_1_method_21_code 5 (some .int) 21 0 [(2, 1), (0, v1)] w (f_E_reach v1 w) := by
  refine ct_of (by decide +kernel) (Or.inl ⟨rfl, rfl⟩) (Nat.le_of_ble_eq_true rfl) ?_
  intro X Qf ad C hn hR hr
  unfold f_E_reach
  show VF X Qf ad NF 0 0 w 0 [(0, (2, 1)), (1, (0, v1))] [] _
  refine vf_iload_n C (f := 1) (zdg dz_E_reach_0 0 rfl) 1 rfl rfl ?_
  refine vf_callSz C cy_E_isWeek ml_E_209 (ct_E_isWeek _ _) (S := []) (jrm_of hR rfl) rfl rfl (Nat.le_of_ble_eq_true rfl) (zdg dz_E_reach_0 1 rfl) (fun r1 u2 => ?_)
  refine vf_if_ne C (off := 5) (tgt := 9) (zdg dz_E_reach_0 2 rfl) (by decide) ?_ ?_
  · refine vf_aload_n C (f := 0) (zdg dz_E_reach_0 5 rfl) 0 rfl rfl ?_
    refine vf_getp C fl_E_68 sh_0 rfl (by decide) rfl (x := 29) rfl (zdg dz_E_reach_0 6 rfl) ?_
    refine vf_aload_n C (f := 0) (zdg dz_E_reach_0 7 rfl) 0 rfl rfl ?_
    refine vf_getp C fl_E_26 sh_0 rfl (by decide) rfl (x := 6) rfl (zdg dz_E_reach_0 8 rfl) ?_
    refine vf_aload_n C (f := 0) (zdg dz_E_reach_0 9 rfl) 0 rfl rfl ?_
    refine vf_getp C fl_E_61 sh_0 rfl (by decide) rfl (x := 25) rfl (zdg dz_E_reach_0 10 rfl) ?_
    refine vf_callVz C cy_S_run ml_E_256 rfl (ct_S_run _) (S := []) sh_28 (by decide) rfl (jrm_of hR rfl) rfl rfl (Nat.le_of_ble_eq_true rfl) (zdg dz_E_reach_0 11 rfl) (fun r3 u4 => ?_)
    refine vf_if_ne C (off := 6) (tgt := 30) (zdg dz_E_reach_0 12 rfl) (by decide) ?_ ?_
    · refine vf_iconst C (z := 0) (zdg dz_E_reach_0 15 rfl) (jz rfl) ?_
      refine vf_istore_n C (f := 2) (L' := [(0, (2, 1)), (1, (0, v1))]) (zdg dz_E_reach_0 16 rfl) [0, 1] (jrI rfl rfl) hn (by decide) rfl ?_
      refine vf_sipush C (z := 1023) (zdg dz_E_reach_0 17 rfl) (by decide +kernel) (jz rfl) ?_
      refine vf_istore_n C (f := 3) (L' := [(2, (0, 0)), (0, (2, 1)), (1, (0, v1))]) (zdg dz_E_reach_0 18 rfl) [0, 1, 2] (jrI rfl rfl) hn (by decide) rfl ?_
      refine vf_iconst C (z := 0) (zdg dz_E_reach_0 19 rfl) (jz rfl) ?_
      refine vf_istore C (i := 4) (L' := [(3, (0, 1023)), (2, (0, 0)), (0, (2, 1)), (1, (0, v1))]) (zdg dz_E_reach_0 20 rfl) [0, 1, 2, 3] (jrI rfl rfl) hn (by decide) ?_
      exact vf_perm [3, 4, 2, 1, 0] rfl (t_E_reach_39 C hn hR hr FU _ _ _ _ _)
    · refine vf_bipush C (z := (-3)) (zdg dz_E_reach_0 13 rfl) (by decide +kernel) (jz rfl) ?_
      exact hr _ _ _ _ (fun h => absurd h (by decide)) (zdg dz_E_reach_0 14 rfl)
  · refine vf_iconst C (z := (-1)) (zdg dz_E_reach_0 3 rfl) (jz rfl) ?_
    exact hr _ _ _ _ (fun h => absurd h (by decide)) (zdg dz_E_reach_0 4 rfl)
def f_E_less_10 (v1 : Int) (w : Wd) : Option (Int × Wd) :=
  some (v1, w)
theorem t_E_less_10 {X : jX} {Qf : Int × Wd → State → Prop} {ad : Nat → Nat} (C : Cx X prog_1_method_49_code "EachBringsAnother") (hn : xn X = 2) (hR : xR X = rmD 1) (hr : Rt X Qf ad prog_1_method_49_code 0) (v1 : Int) (w : Wd) : VF X Qf ad NF 0 0 w 10 [(1, (0, v1))] [] (f_E_less_10 v1 w) := by
  unfold f_E_less_10
  refine vf_iload_n C (f := 1) (zdg dz_E_less_0 6 rfl) 0 rfl rfl ?_
  refine vf_goto C (off := 4) (tgt := 15) (zdg dz_E_less_0 7 rfl) (by decide) ?_
  exact hr _ _ _ _ (fun h => absurd h (by decide)) (zdg dz_E_less_0 9 rfl)
def f_E_less (v0 v1 : Int) (w : Wd) : Option (Int × Wd) :=
  if v0 = (-1) then
    f_E_less_10 v1 w
  else
    if v0 ≤ v1 then
      some (v0, w)
    else
      f_E_less_10 v1 w
theorem ct_E_less (v0 v1 : Int) (w : Wd) : Ct y_E_less prog_1_method_49_code 2 (some .int) 1 0 [(0, v0), (0, v1)] w (f_E_less v0 v1 w) := by
  refine ct_of (by decide +kernel) (Or.inl ⟨rfl, rfl⟩) (Nat.le_of_ble_eq_true rfl) ?_
  intro X Qf ad C hn hR hr
  unfold f_E_less
  show VF X Qf ad NF 0 0 w 0 [(0, (0, v0)), (1, (0, v1))] [] _
  refine vf_iload_n C (f := 0) (zdg dz_E_less_0 0 rfl) 0 rfl rfl ?_
  refine vf_iconst C (z := (-1)) (zdg dz_E_less_0 1 rfl) (jz rfl) ?_
  refine vf_icmp_eq C (off := 8) (tgt := 10) (zdg dz_E_less_0 2 rfl) (by decide) ?_ ?_
  · exact vf_perm [1] rfl (t_E_less_10 C hn hR hr _ _)
  · refine vf_iload_n C (f := 1) (zdg dz_E_less_0 3 rfl) 1 rfl rfl ?_
    refine vf_iload_n C (f := 0) (zdg dz_E_less_0 4 rfl) 0 rfl rfl ?_
    refine vf_icmp_ge C (off := 7) (tgt := 14) (zdg dz_E_less_0 5 rfl) (by decide) ?_ ?_
    · refine vf_iload_n C (f := 0) (zdg dz_E_less_0 8 rfl) 0 rfl rfl ?_
      exact hr _ _ _ _ (fun h => absurd h (by decide)) (zdg dz_E_less_0 9 rfl)
    · exact vf_perm [1] rfl (t_E_less_10 C hn hR hr _ _)
def f_S_fewestGuests_42 (k4 : Int → Int → Int → Wd → Option (Int × Wd)) (v1 v2 v3 : Int) (w : Wd) : Option (Int × Wd) :=
  jlet (w32 (v3 + 1)) fun x3 =>
  k4 v1 v2 x3 w
theorem t_S_fewestGuests_42 {X : jX} {Qf : Int × Wd → State → Prop} {ad : Nat → Nat} (C : Cx X prog_9_method_12_code "EachBringsAnother$Search") (hn : xn X = 4) (hR : xR X = rmD 3) (hr : Rt X Qf ad prog_9_method_12_code 0) {k4 : Int → Int → Int → Wd → Option (Int × Wd)} (hk4 : ∀ (v1 v2 v3 : Int) (w : Wd), VF X Qf ad NF 0 0 w 4 [(0, (2, 29)), (1, (0, v1)), (2, (0, v2)), (3, (0, v3))] [] (k4 v1 v2 v3 w)) (v1 v2 v3 : Int) (w : Wd) : VF X Qf ad NF 0 0 w 42 [(0, (2, 29)), (1, (0, v1)), (2, (0, v2)), (3, (0, v3))] [] (f_S_fewestGuests_42 k4 v1 v2 v3 w) := by
  unfold f_S_fewestGuests_42
  refine vf_iinc C (z := 1) (L' := [(0, (2, 29)), (1, (0, v1)), (2, (0, v2))]) (zdg dz_S_fewestGuests_1 0 rfl) 3 rfl [0, 1, 2] (jrI rfl rfl) hn (by decide) ?_
  generalize w32 (v3 + 1) = x3
  refine vf_ul ?_
  refine vf_goto C (off := (-41)) (tgt := 4) (zdg dz_S_fewestGuests_1 1 rfl) (by decide) ?_
  exact vf_perm [1, 2, 3, 0] rfl (hk4 _ _ _ _)
def f_S_fewestGuests_4 : Nat → Int → Int → Int → Wd → Option (Int × Wd)
  | 0, _, _, _, _ => none
  | n + 1, v1, v2, v3, w =>
    if (w 28 7) ≤ v3 then
      some (v2, w)
    else
      jcall (f_S_canBe v3 v1 w) fun r1 u2 =>
      if r1 = 0 then
        f_S_fewestGuests_42 (f_S_fewestGuests_4 n) v1 v2 v3 u2
      else
        jcall (f_S_guests v3 u2) fun r4 u5 =>
        if r4 = 0 then
          f_S_fewestGuests_42 (f_S_fewestGuests_4 n) v1 v2 v3 u5
        else
          jcall (f_S_guests v3 u5) fun r6 u7 =>
          jcall (f_JI_bitCount r6 u7) fun r8 u9 =>
          jcall (f_E_less v2 r8 u9) fun r10 u11 =>
          f_S_fewestGuests_42 (f_S_fewestGuests_4 n) v1 r10 v3 u11
theorem t_S_fewestGuests_4 {X : jX} {Qf : Int × Wd → State → Prop} {ad : Nat → Nat} (C : Cx X prog_9_method_12_code "EachBringsAnother$Search") (hn : xn X = 4) (hR : xR X = rmD 3) (hr : Rt X Qf ad prog_9_method_12_code 0) : ∀ (n : Nat) (v1 v2 v3 : Int) (w : Wd), VF X Qf ad NF 0 0 w 4 [(0, (2, 29)), (1, (0, v1)), (2, (0, v2)), (3, (0, v3))] [] (f_S_fewestGuests_4 n v1 v2 v3 w) := by
  intro n
  induction n with
  | zero => intros; exact vf_no
  | succ n ih =>
    intro v1 v2 v3 w
    rw [f_S_fewestGuests_4]
    refine vf_iload_n C (f := 3) (zdg dz_S_fewestGuests_0 4 rfl) 3 rfl rfl ?_
    refine vf_aload_n C (f := 0) (zdg dz_S_fewestGuests_0 5 rfl) 0 rfl rfl ?_
    refine vf_get C (kd := 0) fl_S_67 sh_28 rfl (by decide) rfl rfl (zdg dz_S_fewestGuests_0 6 rfl) ?_
    refine vf_icmp_ge C (off := 39) (tgt := 48) (zdg dz_S_fewestGuests_0 7 rfl) (by decide) ?_ ?_
    · refine vf_iload_n C (f := 2) (zdg dz_S_fewestGuests_1 2 rfl) 2 rfl rfl ?_
      exact hr _ _ _ _ (fun h => absurd h (by decide)) (zdg dz_S_fewestGuests_1 3 rfl)
    · refine vf_aload_n C (f := 0) (zdg dz_S_fewestGuests_0 8 rfl) 0 rfl rfl ?_
      refine vf_iload_n C (f := 3) (zdg dz_S_fewestGuests_0 9 rfl) 3 rfl rfl ?_
      refine vf_iload_n C (f := 1) (zdg dz_S_fewestGuests_0 10 rfl) 1 rfl rfl ?_
      refine vf_callVz C cy_S_canBe ml_S_121 rfl (ct_S_canBe _ _ _) (S := []) sh_28 (by decide) rfl (jrm_of hR rfl) rfl rfl (Nat.le_of_ble_eq_true rfl) (zdg dz_S_fewestGuests_0 11 rfl) (fun r1 u2 => ?_)
      refine vf_if_eq C (off := 24) (tgt := 42) (zdg dz_S_fewestGuests_0 12 rfl) (by decide) ?_ ?_
      · exact t_S_fewestGuests_42 C hn hR hr ih _ _ _ _
      · refine vf_aload_n C (f := 0) (zdg dz_S_fewestGuests_0 13 rfl) 0 rfl rfl ?_
        refine vf_iload_n C (f := 3) (zdg dz_S_fewestGuests_0 14 rfl) 3 rfl rfl ?_
        refine vf_callVi C cy_S_guests ml_S_70 rfl (ct_S_guests _ _) (S := []) sh_28 (by decide) rfl (jrm_of hR rfl) rfl rfl (Nat.le_of_ble_eq_true rfl) (zdg dz_S_fewestGuests_0 15 rfl) (fun r4 u5 => ?_)
        refine vf_if_eq C (off := 16) (tgt := 42) (zdg dz_S_fewestGuests_0 16 rfl) (by decide) ?_ ?_
        · exact t_S_fewestGuests_42 C hn hR hr ih _ _ _ _
        · refine vf_iload_n C (f := 2) (zdg dz_S_fewestGuests_0 17 rfl) 2 rfl rfl ?_
          refine vf_aload_n C (f := 0) (zdg dz_S_fewestGuests_0 18 rfl) 0 rfl rfl ?_
          refine vf_iload_n C (f := 3) (zdg dz_S_fewestGuests_0 19 rfl) 3 rfl rfl ?_
          refine vf_callVi C cy_S_guests ml_S_70 rfl (ct_S_guests _ _) (S := [(0, v2)]) sh_28 (by decide) rfl (jrm_of hR rfl) rfl rfl (Nat.le_of_ble_eq_true rfl) (zdg dz_S_fewestGuests_0 20 rfl) (fun r6 u7 => ?_)
          refine vf_callSi C cy_JI_bitCount ml_S_110 (ct_JI_bitCount _ _) (S := [(0, v2)]) (jrm_of hR rfl) rfl rfl (Nat.le_of_ble_eq_true rfl) (zdg dz_S_fewestGuests_0 21 rfl) (fun r8 u9 => ?_)
          refine vf_callSi C cy_E_less ml_S_125 (ct_E_less _ _ _) (S := []) (jrm_of hR rfl) rfl rfl (Nat.le_of_ble_eq_true rfl) (zdg dz_S_fewestGuests_0 22 rfl) (fun r10 u11 => ?_)
          refine vf_istore_n C (f := 2) (L' := [(0, (2, 29)), (1, (0, v1)), (3, (0, v3))]) (zdg dz_S_fewestGuests_0 23 rfl) [0, 1, 3] (jrI rfl rfl) hn (by decide) rfl ?_
          exact vf_perm [1, 2, 0, 3] rfl (t_S_fewestGuests_42 C hn hR hr ih _ _ _ _)
def f_S_fewestGuests (v1 : Int) (w : Wd) : Option (Int × Wd) :=
  f_S_fewestGuests_4 FU v1 (-1) 0 w
theorem ct_S_fewestGuests (v1 : Int) (w : Wd) : Ct y_S_fewestGuests prog_9_method_12_code 4 (some .int) 3 0 [(2, 29), (0, v1)] w (f_S_fewestGuests v1 w) := by
  refine ct_of (by decide +kernel) (Or.inl ⟨rfl, rfl⟩) (Nat.le_of_ble_eq_true rfl) ?_
  intro X Qf ad C hn hR hr
  unfold f_S_fewestGuests
  show VF X Qf ad NF 0 0 w 0 [(0, (2, 29)), (1, (0, v1))] [] _
  refine vf_iconst C (z := (-1)) (zdg dz_S_fewestGuests_0 0 rfl) (jz rfl) ?_
  refine vf_istore_n C (f := 2) (L' := [(0, (2, 29)), (1, (0, v1))]) (zdg dz_S_fewestGuests_0 1 rfl) [0, 1] (jrI rfl rfl) hn (by decide) rfl ?_
  refine vf_iconst C (z := 0) (zdg dz_S_fewestGuests_0 2 rfl) (jz rfl) ?_
  refine vf_istore_n C (f := 3) (L' := [(2, (0, (-1))), (0, (2, 29)), (1, (0, v1))]) (zdg dz_S_fewestGuests_0 3 rfl) [0, 1, 2] (jrI rfl rfl) hn (by decide) rfl ?_
  exact vf_perm [2, 3, 1, 0] rfl (t_S_fewestGuests_4 C hn hR hr FU _ _ _ _)
def f_E_fewest (v1 : Int) (w : Wd) : Option (Int × Wd) :=
  jcall (f_E_isWeek v1 w) fun r1 u2 =>
  if r1 = 0 then
    some ((-1), u2)
  else
    jcall (f_S_run u2) fun r3 u4 =>
    if r3 = 0 then
      some ((-3), u4)
    else
      jcall (f_S_fewestGuests v1 u4) fun r5 u6 =>
      if r5 = (-1) then
        some ((-2), u6)
      else
        some (r5, u6)
theorem ct_E_fewest (v1 : Int) (w : Wd) : Ct y_E_fewest prog_1_method_22_code 3 (some .int) 21 0 [(2, 1), (0, v1)] w (f_E_fewest v1 w) := by
  refine ct_of (by decide +kernel) (Or.inl ⟨rfl, rfl⟩) (Nat.le_of_ble_eq_true rfl) ?_
  intro X Qf ad C hn hR hr
  unfold f_E_fewest
  show VF X Qf ad NF 0 0 w 0 [(0, (2, 1)), (1, (0, v1))] [] _
  refine vf_iload_n C (f := 1) (zdg dz_E_fewest_0 0 rfl) 1 rfl rfl ?_
  refine vf_callSz C cy_E_isWeek ml_E_209 (ct_E_isWeek _ _) (S := []) (jrm_of hR rfl) rfl rfl (Nat.le_of_ble_eq_true rfl) (zdg dz_E_fewest_0 1 rfl) (fun r1 u2 => ?_)
  refine vf_if_ne C (off := 5) (tgt := 9) (zdg dz_E_fewest_0 2 rfl) (by decide) ?_ ?_
  · refine vf_aload_n C (f := 0) (zdg dz_E_fewest_0 5 rfl) 0 rfl rfl ?_
    refine vf_getp C fl_E_68 sh_0 rfl (by decide) rfl (x := 29) rfl (zdg dz_E_fewest_0 6 rfl) ?_
    refine vf_aload_n C (f := 0) (zdg dz_E_fewest_0 7 rfl) 0 rfl rfl ?_
    refine vf_getp C fl_E_26 sh_0 rfl (by decide) rfl (x := 6) rfl (zdg dz_E_fewest_0 8 rfl) ?_
    refine vf_aload_n C (f := 0) (zdg dz_E_fewest_0 9 rfl) 0 rfl rfl ?_
    refine vf_getp C fl_E_61 sh_0 rfl (by decide) rfl (x := 25) rfl (zdg dz_E_fewest_0 10 rfl) ?_
    refine vf_callVz C cy_S_run ml_E_256 rfl (ct_S_run _) (S := []) sh_28 (by decide) rfl (jrm_of hR rfl) rfl rfl (Nat.le_of_ble_eq_true rfl) (zdg dz_E_fewest_0 11 rfl) (fun r3 u4 => ?_)
    refine vf_if_ne C (off := 6) (tgt := 30) (zdg dz_E_fewest_0 12 rfl) (by decide) ?_ ?_
    · refine vf_aload_n C (f := 0) (zdg dz_E_fewest_0 15 rfl) 0 rfl rfl ?_
      refine vf_getp C fl_E_68 sh_0 rfl (by decide) rfl (x := 29) rfl (zdg dz_E_fewest_0 16 rfl) ?_
      refine vf_iload_n C (f := 1) (zdg dz_E_fewest_0 17 rfl) 1 rfl rfl ?_
      refine vf_callVi C cy_S_fewestGuests ml_E_274 rfl (ct_S_fewestGuests _ _) (S := []) sh_28 (by decide) rfl (jrm_of hR rfl) rfl rfl (Nat.le_of_ble_eq_true rfl) (zdg dz_E_fewest_0 18 rfl) (fun r5 u6 => ?_)
      refine vf_istore_n C (f := 2) (L' := []) (zdg dz_E_fewest_0 19 rfl) [] (jrI rfl rfl) hn (by decide) rfl ?_
      refine vf_iload_n C (f := 2) (zdg dz_E_fewest_0 20 rfl) 0 rfl rfl ?_
      refine vf_iconst C (z := (-1)) (zdg dz_E_fewest_0 21 rfl) (jz rfl) ?_
      refine vf_icmp_ne C (off := 8) (tgt := 49) (zdg dz_E_fewest_0 22 rfl) (by decide) ?_ ?_
      · refine vf_iload_n C (f := 2) (zdg dz_E_fewest_1 1 rfl) 0 rfl rfl ?_
        exact hr _ _ _ _ (fun h => absurd h (by decide)) (zdg dz_E_fewest_1 2 rfl)
      · refine vf_bipush C (z := (-2)) (zdg dz_E_fewest_0 23 rfl) (by decide +kernel) (jz rfl) ?_
        refine vf_goto C (off := 4) (tgt := 50) (zdg dz_E_fewest_1 0 rfl) (by decide) ?_
        exact hr _ _ _ _ (fun h => absurd h (by decide)) (zdg dz_E_fewest_1 2 rfl)
    · refine vf_bipush C (z := (-3)) (zdg dz_E_fewest_0 13 rfl) (by decide +kernel) (jz rfl) ?_
      exact hr _ _ _ _ (fun h => absurd h (by decide)) (zdg dz_E_fewest_0 14 rfl)
  · refine vf_iconst C (z := (-1)) (zdg dz_E_fewest_0 3 rfl) (jz rfl) ?_
    exact hr _ _ _ _ (fun h => absurd h (by decide)) (zdg dz_E_fewest_0 4 rfl)
def f_E_firstWeek_2 : Nat → Int → Int → Wd → Option (Int × Wd)
  | 0, _, _, _ => none
  | n + 1, v0, v2, w =>
    if (60 : Int) < v2 then
      some ((-1), w)
    else
      if (lcmp (land (lshr v0 v2) 1) 0) = 0 then
        jlet (w32 (v2 + 1)) fun x1 =>
        f_E_firstWeek_2 n v0 x1 w
      else
        some (v2, w)
theorem t_E_firstWeek_2 {X : jX} {Qf : Int × Wd → State → Prop} {ad : Nat → Nat} (C : Cx X prog_1_method_50_code "EachBringsAnother") (hn : xn X = 3) (hR : xR X = rmD 1) (hr : Rt X Qf ad prog_1_method_50_code 0) : ∀ (n : Nat) (v0 v2 : Int) (w : Wd), VF X Qf ad NF 0 0 w 2 [(0, (1, v0)), (2, (0, v2))] [] (f_E_firstWeek_2 n v0 v2 w) := by
  intro n
  induction n with
  | zero => intros; exact vf_no
  | succ n ih =>
    intro v0 v2 w
    rw [f_E_firstWeek_2]
    refine vf_iload_n C (f := 2) (zdg dz_E_firstWeek_0 2 rfl) 1 rfl rfl ?_
    refine vf_bipush C (z := 60) (zdg dz_E_firstWeek_0 3 rfl) (by decide +kernel) (jz rfl) ?_
    refine vf_icmp_gt C (off := 21) (tgt := 26) (zdg dz_E_firstWeek_0 4 rfl) (by decide) ?_ ?_
    · refine vf_iconst C (z := (-1)) (zdg dz_E_firstWeek_0 17 rfl) (jz rfl) ?_
      exact hr _ _ _ _ (fun h => absurd h (by decide)) (zdg dz_E_firstWeek_0 18 rfl)
    · refine vf_lload_n C (f := 0) (zdg dz_E_firstWeek_0 5 rfl) 0 rfl rfl ?_
      refine vf_iload_n C (f := 2) (zdg dz_E_firstWeek_0 6 rfl) 1 rfl rfl ?_
      refine vf_lshr C (zdg dz_E_firstWeek_0 7 rfl) ?_
      refine vf_lconst C (z := 1) (f := 1) (zdg dz_E_firstWeek_0 8 rfl) (by decide +kernel) (jz1 rfl) ?_
      refine vf_land C (zdg dz_E_firstWeek_0 9 rfl) ?_
      refine vf_lconst C (z := 0) (f := 0) (zdg dz_E_firstWeek_0 10 rfl) (by decide +kernel) (jz1 rfl) ?_
      refine vf_lcmp C (zdg dz_E_firstWeek_0 11 rfl) ?_
      refine vf_if_eq C (off := 5) (tgt := 20) (zdg dz_E_firstWeek_0 12 rfl) (by decide) ?_ ?_
      · refine vf_iinc C (z := 1) (L' := [(0, (1, v0))]) (zdg dz_E_firstWeek_0 15 rfl) 1 rfl [0] (jrI rfl rfl) hn (by decide) ?_
        generalize w32 (v2 + 1) = x1
        refine vf_ul ?_
        refine vf_goto C (off := (-21)) (tgt := 2) (zdg dz_E_firstWeek_0 16 rfl) (by decide) ?_
        exact vf_perm [1, 0] rfl (ih _ _ _)
      · refine vf_iload_n C (f := 2) (zdg dz_E_firstWeek_0 13 rfl) 1 rfl rfl ?_
        exact hr _ _ _ _ (fun h => absurd h (by decide)) (zdg dz_E_firstWeek_0 14 rfl)
def f_E_firstWeek (v0 : Int) (w : Wd) : Option (Int × Wd) :=
  f_E_firstWeek_2 FU v0 0 w
theorem ct_E_firstWeek (v0 : Int) (w : Wd) : Ct y_E_firstWeek prog_1_method_50_code 3 (some .int) 1 0 [(1, v0)] w (f_E_firstWeek v0 w) := by
  refine ct_of (by decide +kernel) (Or.inl ⟨rfl, rfl⟩) (Nat.le_of_ble_eq_true rfl) ?_
  intro X Qf ad C hn hR hr
  unfold f_E_firstWeek
  show VF X Qf ad NF 0 0 w 0 [(0, (1, v0))] [] _
  refine vf_iconst C (z := 0) (zdg dz_E_firstWeek_0 0 rfl) (jz rfl) ?_
  refine vf_istore_n C (f := 2) (L' := [(0, (1, v0))]) (zdg dz_E_firstWeek_0 1 rfl) [0] (jrI rfl rfl) hn (by decide) rfl ?_
  exact vf_perm [1, 0] rfl (t_E_firstWeek_2 C hn hR hr FU _ _ _)
def f_S_paidFor (v1 : Int) (w : Wd) : Option (Int × Wd) :=
  if v1 < 0 then
    some (0, w)
  else
    if (w 28 7) ≤ v1 then
      some (0, w)
    else
      jcall (f_F_strangers w) fun r1 u2 =>
      jgd ((0 : Int) ≤ v1 ∧ v1 < 3000) <|
      jcall (f_O_known (u2 30 v1.toNat) u2) fun r3 u4 =>
      jcall (f_F_pricesOf (iand r1 r3) u4) fun r5 u6 =>
      some (r5, u6)
theorem ct_S_paidFor (v1 : Int) (w : Wd) : Ct y_S_paidFor prog_9_method_13_code 3 (some .int) 3 0 [(2, 29), (0, v1), (2, 6)] w (f_S_paidFor v1 w) := by
  refine ct_of (by decide +kernel) (Or.inl ⟨rfl, rfl⟩) (Nat.le_of_ble_eq_true rfl) ?_
  intro X Qf ad C hn hR hr
  unfold f_S_paidFor
  show VF X Qf ad NF 0 0 w 0 [(0, (2, 29)), (1, (0, v1)), (2, (2, 6))] [] _
  refine vf_iload_n C (f := 1) (zdg dz_S_paidFor_0 0 rfl) 1 rfl rfl ?_
  refine vf_if_lt C (off := 32) (tgt := 33) (zdg dz_S_paidFor_0 1 rfl) (by decide) ?_ ?_
  · refine vf_iconst C (z := 0) (zdg dz_S_paidFor_0 17 rfl) (jz rfl) ?_
    exact hr _ _ _ _ (fun h => absurd h (by decide)) (zdg dz_S_paidFor_0 18 rfl)
  · refine vf_iload_n C (f := 1) (zdg dz_S_paidFor_0 2 rfl) 1 rfl rfl ?_
    refine vf_aload_n C (f := 0) (zdg dz_S_paidFor_0 3 rfl) 0 rfl rfl ?_
    refine vf_get C (kd := 0) fl_S_67 sh_28 rfl (by decide) rfl rfl (zdg dz_S_paidFor_0 4 rfl) ?_
    refine vf_icmp_ge C (off := 24) (tgt := 33) (zdg dz_S_paidFor_0 5 rfl) (by decide) ?_ ?_
    · refine vf_iconst C (z := 0) (zdg dz_S_paidFor_0 17 rfl) (jz rfl) ?_
      exact hr _ _ _ _ (fun h => absurd h (by decide)) (zdg dz_S_paidFor_0 18 rfl)
    · refine vf_aload_n C (f := 2) (zdg dz_S_paidFor_0 6 rfl) 2 rfl rfl ?_
      refine vf_aload_n C (f := 2) (zdg dz_S_paidFor_0 7 rfl) 2 rfl rfl ?_
      refine vf_callVi C cy_F_strangers ml_S_128 rfl (ct_F_strangers _) (S := [(2, 6)]) sh_5 (by decide) rfl (jrm_of hR rfl) rfl rfl (Nat.le_of_ble_eq_true rfl) (zdg dz_S_paidFor_0 8 rfl) (fun r1 u2 => ?_)
      refine vf_aload_n C (f := 0) (zdg dz_S_paidFor_0 9 rfl) 0 rfl rfl ?_
      refine vf_getp C fl_S_15 sh_28 rfl (by decide) rfl (x := 31) rfl (zdg dz_S_paidFor_0 10 rfl) ?_
      refine vf_iload_n C (f := 1) (zdg dz_S_paidFor_0 11 rfl) 1 rfl rfl ?_
      refine vf_iald C sh_30 (by decide) rfl (mz := 3000) rfl (zdg dz_S_paidFor_0 12 rfl) ?_
      refine vf_callSi C cy_O_known ml_S_132 (ct_O_known _ _) (S := [(0, r1), (2, 6)]) (jrm_of hR rfl) rfl rfl (Nat.le_of_ble_eq_true rfl) (zdg dz_S_paidFor_0 13 rfl) (fun r3 u4 => ?_)
      refine vf_iand C (zdg dz_S_paidFor_0 14 rfl) ?_
      refine vf_callVi C cy_F_pricesOf ml_S_135 rfl (ct_F_pricesOf _ _) (S := []) sh_5 (by decide) rfl (jrm_of hR rfl) rfl rfl (Nat.le_of_ble_eq_true rfl) (zdg dz_S_paidFor_0 15 rfl) (fun r5 u6 => ?_)
      refine vf_goto C (off := 4) (tgt := 34) (zdg dz_S_paidFor_0 16 rfl) (by decide) ?_
      exact hr _ _ _ _ (fun h => absurd h (by decide)) (zdg dz_S_paidFor_0 18 rfl)
def f_E_crowd_154 (k92 : Int → Int → Int → Int → Wd → Option (Int × Wd)) (v1 v4 v5 v6 : Int) (w : Wd) : Option (Int × Wd) :=
  jlet (w32 (v6 + 1)) fun x13 =>
  k92 v1 v4 v5 x13 w
theorem t_E_crowd_154 {X : jX} {Qf : Int × Wd → State → Prop} {ad : Nat → Nat} (C : Cx X prog_1_method_23_code "EachBringsAnother") (hn : xn X = 7) (hR : xR X = rmD 21) (hr : Rt X Qf ad prog_1_method_23_code 0) {k92 : Int → Int → Int → Int → Wd → Option (Int × Wd)} (hk92 : ∀ (v1 v4 v5 v6 : Int) (w : Wd), VF X Qf ad NF 0 0 w 92 [(0, (2, 1)), (1, (0, v1)), (4, (0, v4)), (5, (0, v5)), (6, (0, v6))] [] (k92 v1 v4 v5 v6 w)) (v1 v4 v5 v6 : Int) (w : Wd) : VF X Qf ad NF 0 0 w 154 [(0, (2, 1)), (1, (0, v1)), (4, (0, v4)), (5, (0, v5)), (6, (0, v6))] [] (f_E_crowd_154 k92 v1 v4 v5 v6 w) := by
  unfold f_E_crowd_154
  refine vf_iinc C (z := 1) (L' := [(0, (2, 1)), (1, (0, v1)), (4, (0, v4)), (5, (0, v5))]) (zdg dz_E_crowd_3 1 rfl) 4 rfl [0, 1, 2, 3] (jrI rfl rfl) hn (by decide) ?_
  generalize w32 (v6 + 1) = x13
  refine vf_ul ?_
  refine vf_goto C (off := (-65)) (tgt := 92) (zdg dz_E_crowd_3 2 rfl) (by decide) ?_
  exact vf_perm [1, 2, 3, 4, 0] rfl (hk92 _ _ _ _ _)
def f_E_crowd_92 : Nat → Int → Int → Int → Int → Wd → Option (Int × Wd)
  | 0, _, _, _, _, _ => none
  | n + 1, v1, v4, v5, v6, w =>
    if (w 28 7) ≤ v6 then
      jcall (f_N_tell2 v1 v5 w) fun r7 u8 =>
      some (v4, u8)
    else
      jcall (f_S_guests v6 w) fun r9 u10 =>
      jcall (f_JI_bitCount r9 u10) fun r11 u12 =>
      if r11 = v1 then
        jcall (f_S_canBe v6 v4 u12) fun r14 u15 =>
        if r14 = 0 then
          f_E_crowd_154 (f_E_crowd_92 n) v1 v4 v5 v6 u15
        else
          jcall (f_S_paidFor v6 u15) fun r16 u17 =>
          jcall (f_E_less v5 r16 u17) fun r18 u19 =>
          f_E_crowd_154 (f_E_crowd_92 n) v1 v4 r18 v6 u19
      else
        f_E_crowd_154 (f_E_crowd_92 n) v1 v4 v5 v6 u12
theorem t_E_crowd_92 {X : jX} {Qf : Int × Wd → State → Prop} {ad : Nat → Nat} (C : Cx X prog_1_method_23_code "EachBringsAnother") (hn : xn X = 7) (hR : xR X = rmD 21) (hr : Rt X Qf ad prog_1_method_23_code 0) : ∀ (n : Nat) (v1 v4 v5 v6 : Int) (w : Wd), VF X Qf ad NF 0 0 w 92 [(0, (2, 1)), (1, (0, v1)), (4, (0, v4)), (5, (0, v5)), (6, (0, v6))] [] (f_E_crowd_92 n v1 v4 v5 v6 w) := by
  intro n
  induction n with
  | zero => intros; exact vf_no
  | succ n ih =>
    intro v1 v4 v5 v6 w
    rw [f_E_crowd_92]
    refine vf_iload C (zdg dz_E_crowd_1 22 rfl) 4 rfl ?_
    refine vf_aload_n C (f := 0) (zdg dz_E_crowd_1 23 rfl) 0 rfl rfl ?_
    refine vf_getp C fl_E_68 sh_0 rfl (by decide) rfl (x := 29) rfl (zdg dz_E_crowd_2 0 rfl) ?_
    refine vf_get C (kd := 0) fl_E_260 sh_28 rfl (by decide) rfl rfl (zdg dz_E_crowd_2 1 rfl) ?_
    refine vf_icmp_ge C (off := 59) (tgt := 160) (zdg dz_E_crowd_2 2 rfl) (by decide) ?_ ?_
    · refine vf_aload_n C (f := 0) (zdg dz_E_crowd_3 3 rfl) 0 rfl rfl ?_
      refine vf_getp C fl_E_19 sh_0 rfl (by decide) rfl (x := 4) rfl (zdg dz_E_crowd_3 4 rfl) ?_
      refine vf_iload_n C (f := 1) (zdg dz_E_crowd_3 5 rfl) 1 rfl rfl ?_
      refine vf_iload C (zdg dz_E_crowd_3 6 rfl) 3 rfl ?_
      refine vf_callVv C cy_N_tell2 ml_E_216 rfl (ct_N_tell2 _ _ _) (S := []) sh_3 (by decide) rfl (jrm_of hR rfl) rfl rfl (Nat.le_of_ble_eq_true rfl) (zdg dz_E_crowd_3 7 rfl) (fun r7 u8 => ?_)
      refine vf_iload C (zdg dz_E_crowd_3 8 rfl) 2 rfl ?_
      exact hr _ _ _ _ (fun h => absurd h (by decide)) (zdg dz_E_crowd_3 9 rfl)
    · refine vf_aload_n C (f := 0) (zdg dz_E_crowd_2 3 rfl) 0 rfl rfl ?_
      refine vf_getp C fl_E_68 sh_0 rfl (by decide) rfl (x := 29) rfl (zdg dz_E_crowd_2 4 rfl) ?_
      refine vf_iload C (zdg dz_E_crowd_2 5 rfl) 4 rfl ?_
      refine vf_callVi C cy_S_guests ml_E_261 rfl (ct_S_guests _ _) (S := []) sh_28 (by decide) rfl (jrm_of hR rfl) rfl rfl (Nat.le_of_ble_eq_true rfl) (zdg dz_E_crowd_2 6 rfl) (fun r9 u10 => ?_)
      refine vf_callSi C cy_JI_bitCount ml_E_245 (ct_JI_bitCount _ _) (S := []) (jrm_of hR rfl) rfl rfl (Nat.le_of_ble_eq_true rfl) (zdg dz_E_crowd_2 7 rfl) (fun r11 u12 => ?_)
      refine vf_iload_n C (f := 1) (zdg dz_E_crowd_2 8 rfl) 1 rfl rfl ?_
      refine vf_icmp_ne C (off := 37) (tgt := 154) (zdg dz_E_crowd_2 9 rfl) (by decide) ?_ ?_
      · exact t_E_crowd_154 C hn hR hr ih _ _ _ _ _
      · refine vf_aload_n C (f := 0) (zdg dz_E_crowd_2 10 rfl) 0 rfl rfl ?_
        refine vf_getp C fl_E_68 sh_0 rfl (by decide) rfl (x := 29) rfl (zdg dz_E_crowd_2 11 rfl) ?_
        refine vf_iload C (zdg dz_E_crowd_2 12 rfl) 4 rfl ?_
        refine vf_iload C (zdg dz_E_crowd_2 13 rfl) 2 rfl ?_
        refine vf_callVz C cy_S_canBe ml_E_266 rfl (ct_S_canBe _ _ _) (S := []) sh_28 (by decide) rfl (jrm_of hR rfl) rfl rfl (Nat.le_of_ble_eq_true rfl) (zdg dz_E_crowd_2 14 rfl) (fun r14 u15 => ?_)
        refine vf_if_eq C (off := 23) (tgt := 154) (zdg dz_E_crowd_2 15 rfl) (by decide) ?_ ?_
        · exact t_E_crowd_154 C hn hR hr ih _ _ _ _ _
        · refine vf_iload C (zdg dz_E_crowd_2 16 rfl) 3 rfl ?_
          refine vf_aload_n C (f := 0) (zdg dz_E_crowd_2 17 rfl) 0 rfl rfl ?_
          refine vf_getp C fl_E_68 sh_0 rfl (by decide) rfl (x := 29) rfl (zdg dz_E_crowd_2 18 rfl) ?_
          refine vf_iload C (zdg dz_E_crowd_2 19 rfl) 4 rfl ?_
          refine vf_aload_n C (f := 0) (zdg dz_E_crowd_2 20 rfl) 0 rfl rfl ?_
          refine vf_getp C fl_E_26 sh_0 rfl (by decide) rfl (x := 6) rfl (zdg dz_E_crowd_2 21 rfl) ?_
          refine vf_callVi C cy_S_paidFor ml_E_285 rfl (ct_S_paidFor _ _) (S := [(0, v5)]) sh_28 (by decide) rfl (jrm_of hR rfl) rfl rfl (Nat.le_of_ble_eq_true rfl) (zdg dz_E_crowd_2 22 rfl) (fun r16 u17 => ?_)
          refine vf_callSi C cy_E_less ml_E_289 (ct_E_less _ _ _) (S := []) (jrm_of hR rfl) rfl rfl (Nat.le_of_ble_eq_true rfl) (zdg dz_E_crowd_2 23 rfl) (fun r18 u19 => ?_)
          refine vf_istore C (i := 5) (L' := [(0, (2, 1)), (1, (0, v1)), (4, (0, v4)), (6, (0, v6))]) (zdg dz_E_crowd_3 0 rfl) [0, 1, 2, 4] (jrI rfl rfl) hn (by decide) ?_
          exact vf_perm [1, 2, 3, 0, 4] rfl (t_E_crowd_154 C hn hR hr ih _ _ _ _ _)
def f_E_crowd_74 (k34 : Int → Int → Int → Wd → Option (Int × Wd)) (v1 v2 v4 : Int) (w : Wd) : Option (Int × Wd) :=
  jlet (w32 (v4 + 1)) fun x24 =>
  k34 v1 v2 x24 w
theorem t_E_crowd_74 {X : jX} {Qf : Int × Wd → State → Prop} {ad : Nat → Nat} (C : Cx X prog_1_method_23_code "EachBringsAnother") (hn : xn X = 7) (hR : xR X = rmD 21) (hr : Rt X Qf ad prog_1_method_23_code 0) {k34 : Int → Int → Int → Wd → Option (Int × Wd)} (hk34 : ∀ (v1 v2 v4 : Int) (w : Wd), VF X Qf ad NF 0 0 w 34 [(0, (2, 1)), (1, (0, v1)), (2, (1, v2)), (4, (0, v4))] [] (k34 v1 v2 v4 w)) (v1 v2 v4 : Int) (w : Wd) : VF X Qf ad NF 0 0 w 74 [(0, (2, 1)), (1, (0, v1)), (2, (1, v2)), (4, (0, v4))] [] (f_E_crowd_74 k34 v1 v2 v4 w) := by
  unfold f_E_crowd_74
  refine vf_iinc C (z := 1) (L' := [(0, (2, 1)), (1, (0, v1)), (2, (1, v2))]) (zdg dz_E_crowd_1 13 rfl) 3 rfl [0, 1, 2] (jrI rfl rfl) hn (by decide) ?_
  generalize w32 (v4 + 1) = x24
  refine vf_ul ?_
  refine vf_goto C (off := (-43)) (tgt := 34) (zdg dz_E_crowd_1 14 rfl) (by decide) ?_
  exact vf_perm [1, 2, 3, 0] rfl (hk34 _ _ _ _)
def f_E_crowd_34 : Nat → Int → Int → Int → Wd → Option (Int × Wd)
  | 0, _, _, _, _ => none
  | n + 1, v1, v2, v4, w =>
    if (w 28 7) ≤ v4 then
      jcall (f_E_firstWeek v2 w) fun r5 u6 =>
      f_E_crowd_92 FU v1 r5 (-1) 0 u6
    else
      jcall (f_S_guests v4 w) fun r20 u21 =>
      jcall (f_JI_bitCount r20 u21) fun r22 u23 =>
      if r22 = v1 then
        jcall (f_S_weeksOf v4 u23) fun r25 u26 =>
        jlet (lor v2 r25) fun x27 =>
        f_E_crowd_74 (f_E_crowd_34 n) v1 x27 v4 u26
      else
        f_E_crowd_74 (f_E_crowd_34 n) v1 v2 v4 u23
theorem t_E_crowd_34 {X : jX} {Qf : Int × Wd → State → Prop} {ad : Nat → Nat} (C : Cx X prog_1_method_23_code "EachBringsAnother") (hn : xn X = 7) (hR : xR X = rmD 21) (hr : Rt X Qf ad prog_1_method_23_code 0) : ∀ (n : Nat) (v1 v2 v4 : Int) (w : Wd), VF X Qf ad NF 0 0 w 34 [(0, (2, 1)), (1, (0, v1)), (2, (1, v2)), (4, (0, v4))] [] (f_E_crowd_34 n v1 v2 v4 w) := by
  intro n
  induction n with
  | zero => intros; exact vf_no
  | succ n ih =>
    intro v1 v2 v4 w
    rw [f_E_crowd_34]
    refine vf_iload C (zdg dz_E_crowd_0 18 rfl) 3 rfl ?_
    refine vf_aload_n C (f := 0) (zdg dz_E_crowd_0 19 rfl) 0 rfl rfl ?_
    refine vf_getp C fl_E_68 sh_0 rfl (by decide) rfl (x := 29) rfl (zdg dz_E_crowd_0 20 rfl) ?_
    refine vf_get C (kd := 0) fl_E_260 sh_28 rfl (by decide) rfl rfl (zdg dz_E_crowd_0 21 rfl) ?_
    refine vf_icmp_ge C (off := 37) (tgt := 80) (zdg dz_E_crowd_0 22 rfl) (by decide) ?_ ?_
    · refine vf_lload_n C (f := 2) (zdg dz_E_crowd_1 15 rfl) 2 rfl rfl ?_
      refine vf_callSi C cy_E_firstWeek ml_E_281 (ct_E_firstWeek _ _) (S := []) (jrm_of hR rfl) rfl rfl (Nat.le_of_ble_eq_true rfl) (zdg dz_E_crowd_1 16 rfl) (fun r5 u6 => ?_)
      refine vf_istore C (i := 4) (L' := [(0, (2, 1)), (1, (0, v1))]) (zdg dz_E_crowd_1 17 rfl) [0, 1] (jrI rfl rfl) hn (by decide) ?_
      refine vf_iconst C (z := (-1)) (zdg dz_E_crowd_1 18 rfl) (jz rfl) ?_
      refine vf_istore C (i := 5) (L' := [(4, (0, r5)), (0, (2, 1)), (1, (0, v1))]) (zdg dz_E_crowd_1 19 rfl) [0, 1, 2] (jrI rfl rfl) hn (by decide) ?_
      refine vf_iconst C (z := 0) (zdg dz_E_crowd_1 20 rfl) (jz rfl) ?_
      refine vf_istore C (i := 6) (L' := [(5, (0, (-1))), (4, (0, r5)), (0, (2, 1)), (1, (0, v1))]) (zdg dz_E_crowd_1 21 rfl) [0, 1, 2, 3] (jrI rfl rfl) hn (by decide) ?_
      exact vf_perm [3, 4, 2, 1, 0] rfl (t_E_crowd_92 C hn hR hr FU _ _ _ _ _)
    · refine vf_aload_n C (f := 0) (zdg dz_E_crowd_0 23 rfl) 0 rfl rfl ?_
      refine vf_getp C fl_E_68 sh_0 rfl (by decide) rfl (x := 29) rfl (zdg dz_E_crowd_1 0 rfl) ?_
      refine vf_iload C (zdg dz_E_crowd_1 1 rfl) 3 rfl ?_
      refine vf_callVi C cy_S_guests ml_E_261 rfl (ct_S_guests _ _) (S := []) sh_28 (by decide) rfl (jrm_of hR rfl) rfl rfl (Nat.le_of_ble_eq_true rfl) (zdg dz_E_crowd_1 2 rfl) (fun r20 u21 => ?_)
      refine vf_callSi C cy_JI_bitCount ml_E_245 (ct_JI_bitCount _ _) (S := []) (jrm_of hR rfl) rfl rfl (Nat.le_of_ble_eq_true rfl) (zdg dz_E_crowd_1 3 rfl) (fun r22 u23 => ?_)
      refine vf_iload_n C (f := 1) (zdg dz_E_crowd_1 4 rfl) 1 rfl rfl ?_
      refine vf_icmp_ne C (off := 15) (tgt := 74) (zdg dz_E_crowd_1 5 rfl) (by decide) ?_ ?_
      · exact t_E_crowd_74 C hn hR hr ih _ _ _ _
      · refine vf_lload_n C (f := 2) (zdg dz_E_crowd_1 6 rfl) 2 rfl rfl ?_
        refine vf_aload_n C (f := 0) (zdg dz_E_crowd_1 7 rfl) 0 rfl rfl ?_
        refine vf_getp C fl_E_68 sh_0 rfl (by decide) rfl (x := 29) rfl (zdg dz_E_crowd_1 8 rfl) ?_
        refine vf_iload C (zdg dz_E_crowd_1 9 rfl) 3 rfl ?_
        refine vf_callVl C cy_S_weeksOf ml_E_277 rfl (ct_S_weeksOf _ _) (S := [(1, v2)]) sh_28 (by decide) rfl (jrm_of hR rfl) rfl rfl (Nat.le_of_ble_eq_true rfl) (zdg dz_E_crowd_1 10 rfl) (fun r25 u26 => ?_)
        refine vf_lor C (zdg dz_E_crowd_1 11 rfl) ?_
        generalize lor v2 r25 = x27
        refine vf_ul ?_
        refine vf_lstore_n C (f := 2) (L' := [(0, (2, 1)), (1, (0, v1)), (4, (0, v4))]) (zdg dz_E_crowd_1 12 rfl) [0, 1, 3] (jrI rfl rfl) hn (by decide) rfl ?_
        exact vf_perm [1, 2, 0, 3] rfl (t_E_crowd_74 C hn hR hr ih _ _ _ _)
def f_E_crowd (w : Wd) : Option (Int × Wd) :=
  jcall (f_S_run w) fun r1 u2 =>
  if r1 = 0 then
    some ((-3), u2)
  else
    jcall (f_S_mostGuests u2) fun r3 u4 =>
    f_E_crowd_34 FU r3 0 0 u4
theorem ct_E_crowd (w : Wd) : Ct y_E_crowd prog_1_method_23_code 7 (some .int) 21 0 [(2, 1)] w (f_E_crowd w) := by
  refine ct_of (by decide +kernel) (Or.inl ⟨rfl, rfl⟩) (Nat.le_of_ble_eq_true rfl) ?_
  intro X Qf ad C hn hR hr
  unfold f_E_crowd
  show VF X Qf ad NF 0 0 w 0 [(0, (2, 1))] [] _
  refine vf_aload_n C (f := 0) (zdg dz_E_crowd_0 0 rfl) 0 rfl rfl ?_
  refine vf_getp C fl_E_68 sh_0 rfl (by decide) rfl (x := 29) rfl (zdg dz_E_crowd_0 1 rfl) ?_
  refine vf_aload_n C (f := 0) (zdg dz_E_crowd_0 2 rfl) 0 rfl rfl ?_
  refine vf_getp C fl_E_26 sh_0 rfl (by decide) rfl (x := 6) rfl (zdg dz_E_crowd_0 3 rfl) ?_
  refine vf_aload_n C (f := 0) (zdg dz_E_crowd_0 4 rfl) 0 rfl rfl ?_
  refine vf_getp C fl_E_61 sh_0 rfl (by decide) rfl (x := 25) rfl (zdg dz_E_crowd_0 5 rfl) ?_
  refine vf_callVz C cy_S_run ml_E_256 rfl (ct_S_run _) (S := []) sh_28 (by decide) rfl (jrm_of hR rfl) rfl rfl (Nat.le_of_ble_eq_true rfl) (zdg dz_E_crowd_0 6 rfl) (fun r1 u2 => ?_)
  refine vf_if_ne C (off := 6) (tgt := 21) (zdg dz_E_crowd_0 7 rfl) (by decide) ?_ ?_
  · refine vf_aload_n C (f := 0) (zdg dz_E_crowd_0 10 rfl) 0 rfl rfl ?_
    refine vf_getp C fl_E_68 sh_0 rfl (by decide) rfl (x := 29) rfl (zdg dz_E_crowd_0 11 rfl) ?_
    refine vf_callVi C cy_S_mostGuests ml_E_263 rfl (ct_S_mostGuests _) (S := []) sh_28 (by decide) rfl (jrm_of hR rfl) rfl rfl (Nat.le_of_ble_eq_true rfl) (zdg dz_E_crowd_0 12 rfl) (fun r3 u4 => ?_)
    refine vf_istore_n C (f := 1) (L' := [(0, (2, 1))]) (zdg dz_E_crowd_0 13 rfl) [0] (jrI rfl rfl) hn (by decide) rfl ?_
    refine vf_lconst C (z := 0) (f := 0) (zdg dz_E_crowd_0 14 rfl) (by decide +kernel) (jz1 rfl) ?_
    refine vf_lstore_n C (f := 2) (L' := [(1, (0, r3)), (0, (2, 1))]) (zdg dz_E_crowd_0 15 rfl) [0, 1] (jrI rfl rfl) hn (by decide) rfl ?_
    refine vf_iconst C (z := 0) (zdg dz_E_crowd_0 16 rfl) (jz rfl) ?_
    refine vf_istore C (i := 4) (L' := [(2, (1, 0)), (1, (0, r3)), (0, (2, 1))]) (zdg dz_E_crowd_0 17 rfl) [0, 1, 2] (jrI rfl rfl) hn (by decide) ?_
    exact vf_perm [3, 2, 1, 0] rfl (t_E_crowd_34 C hn hR hr FU _ _ _ _)
  · refine vf_bipush C (z := (-3)) (zdg dz_E_crowd_0 8 rfl) (by decide +kernel) (jz rfl) ?_
    exact hr _ _ _ _ (fun h => absurd h (by decide)) (zdg dz_E_crowd_0 9 rfl)
def f_S_leastPaid_61 (k6 : Int → Int → Int → Int → Wd → Option (Int × Wd)) (v1 v2 v4 v5 : Int) (w : Wd) : Option (Int × Wd) :=
  jlet (w32 (v5 + 1)) fun x3 =>
  k6 v1 v2 v4 x3 w
theorem t_S_leastPaid_61 {X : jX} {Qf : Int × Wd → State → Prop} {ad : Nat → Nat} (C : Cx X prog_9_method_14_code "EachBringsAnother$Search") (hn : xn X = 6) (hR : xR X = rmD 4) (hr : Rt X Qf ad prog_9_method_14_code 0) {k6 : Int → Int → Int → Int → Wd → Option (Int × Wd)} (hk6 : ∀ (v1 v2 v4 v5 : Int) (w : Wd), VF X Qf ad NF 0 0 w 6 [(0, (2, 29)), (1, (0, v1)), (2, (0, v2)), (3, (2, 6)), (4, (0, v4)), (5, (0, v5))] [] (k6 v1 v2 v4 v5 w)) (v1 v2 v4 v5 : Int) (w : Wd) : VF X Qf ad NF 0 0 w 61 [(0, (2, 29)), (1, (0, v1)), (2, (0, v2)), (3, (2, 6)), (4, (0, v4)), (5, (0, v5))] [] (f_S_leastPaid_61 k6 v1 v2 v4 v5 w) := by
  unfold f_S_leastPaid_61
  refine vf_iinc C (z := 1) (L' := [(0, (2, 29)), (1, (0, v1)), (2, (0, v2)), (3, (2, 6)), (4, (0, v4))]) (zdg dz_S_leastPaid_1 8 rfl) 5 rfl [0, 1, 2, 3, 4] (jrI rfl rfl) hn (by decide) ?_
  generalize w32 (v5 + 1) = x3
  refine vf_ul ?_
  refine vf_goto C (off := (-58)) (tgt := 6) (zdg dz_S_leastPaid_1 9 rfl) (by decide) ?_
  exact vf_perm [1, 2, 3, 4, 5, 0] rfl (hk6 _ _ _ _ _)
def f_S_leastPaid_6 : Nat → Int → Int → Int → Int → Wd → Option (Int × Wd)
  | 0, _, _, _, _, _ => none
  | n + 1, v1, v2, v4, v5, w =>
    if (w 28 7) ≤ v5 then
      some (v4, w)
    else
      jcall (f_S_canBe v5 v2 w) fun r1 u2 =>
      if r1 = 0 then
        f_S_leastPaid_61 (f_S_leastPaid_6 n) v1 v2 v4 v5 u2
      else
        jcall (f_S_guests v5 u2) fun r4 u5 =>
        if r4 = 0 then
          f_S_leastPaid_61 (f_S_leastPaid_6 n) v1 v2 v4 v5 u5
        else
          jcall (f_S_guests v5 u5) fun r6 u7 =>
          if (iand v1 (ixor r6 (-1))) = 0 then
            jcall (f_S_paidFor v5 u7) fun r8 u9 =>
            jcall (f_E_less v4 r8 u9) fun r10 u11 =>
            f_S_leastPaid_61 (f_S_leastPaid_6 n) v1 v2 r10 v5 u11
          else
            f_S_leastPaid_61 (f_S_leastPaid_6 n) v1 v2 v4 v5 u7
theorem t_S_leastPaid_6 {X : jX} {Qf : Int × Wd → State → Prop} {ad : Nat → Nat} (C : Cx X prog_9_method_14_code "EachBringsAnother$Search") (hn : xn X = 6) (hR : xR X = rmD 4) (hr : Rt X Qf ad prog_9_method_14_code 0) : ∀ (n : Nat) (v1 v2 v4 v5 : Int) (w : Wd), VF X Qf ad NF 0 0 w 6 [(0, (2, 29)), (1, (0, v1)), (2, (0, v2)), (3, (2, 6)), (4, (0, v4)), (5, (0, v5))] [] (f_S_leastPaid_6 n v1 v2 v4 v5 w) := by
  intro n
  induction n with
  | zero => intros; exact vf_no
  | succ n ih =>
    intro v1 v2 v4 v5 w
    rw [f_S_leastPaid_6]
    refine vf_iload C (zdg dz_S_leastPaid_0 4 rfl) 5 rfl ?_
    refine vf_aload_n C (f := 0) (zdg dz_S_leastPaid_0 5 rfl) 0 rfl rfl ?_
    refine vf_get C (kd := 0) fl_S_67 sh_28 rfl (by decide) rfl rfl (zdg dz_S_leastPaid_0 6 rfl) ?_
    refine vf_icmp_ge C (off := 55) (tgt := 67) (zdg dz_S_leastPaid_0 7 rfl) (by decide) ?_ ?_
    · refine vf_iload C (zdg dz_S_leastPaid_1 10 rfl) 4 rfl ?_
      exact hr _ _ _ _ (fun h => absurd h (by decide)) (zdg dz_S_leastPaid_1 11 rfl)
    · refine vf_aload_n C (f := 0) (zdg dz_S_leastPaid_0 8 rfl) 0 rfl rfl ?_
      refine vf_iload C (zdg dz_S_leastPaid_0 9 rfl) 5 rfl ?_
      refine vf_iload_n C (f := 2) (zdg dz_S_leastPaid_0 10 rfl) 2 rfl rfl ?_
      refine vf_callVz C cy_S_canBe ml_S_121 rfl (ct_S_canBe _ _ _) (S := []) sh_28 (by decide) rfl (jrm_of hR rfl) rfl rfl (Nat.le_of_ble_eq_true rfl) (zdg dz_S_leastPaid_0 11 rfl) (fun r1 u2 => ?_)
      refine vf_if_eq C (off := 39) (tgt := 61) (zdg dz_S_leastPaid_0 12 rfl) (by decide) ?_ ?_
      · exact t_S_leastPaid_61 C hn hR hr ih _ _ _ _ _
      · refine vf_aload_n C (f := 0) (zdg dz_S_leastPaid_0 13 rfl) 0 rfl rfl ?_
        refine vf_iload C (zdg dz_S_leastPaid_0 14 rfl) 5 rfl ?_
        refine vf_callVi C cy_S_guests ml_S_70 rfl (ct_S_guests _ _) (S := []) sh_28 (by decide) rfl (jrm_of hR rfl) rfl rfl (Nat.le_of_ble_eq_true rfl) (zdg dz_S_leastPaid_0 15 rfl) (fun r4 u5 => ?_)
        refine vf_if_eq C (off := 30) (tgt := 61) (zdg dz_S_leastPaid_0 16 rfl) (by decide) ?_ ?_
        · exact t_S_leastPaid_61 C hn hR hr ih _ _ _ _ _
        · refine vf_iload_n C (f := 1) (zdg dz_S_leastPaid_0 17 rfl) 1 rfl rfl ?_
          refine vf_aload_n C (f := 0) (zdg dz_S_leastPaid_0 18 rfl) 0 rfl rfl ?_
          refine vf_iload C (zdg dz_S_leastPaid_0 19 rfl) 5 rfl ?_
          refine vf_callVi C cy_S_guests ml_S_70 rfl (ct_S_guests _ _) (S := [(0, v1)]) sh_28 (by decide) rfl (jrm_of hR rfl) rfl rfl (Nat.le_of_ble_eq_true rfl) (zdg dz_S_leastPaid_0 20 rfl) (fun r6 u7 => ?_)
          refine vf_iconst C (z := (-1)) (zdg dz_S_leastPaid_0 21 rfl) (jz rfl) ?_
          refine vf_ixor C (zdg dz_S_leastPaid_0 22 rfl) ?_
          refine vf_iand C (zdg dz_S_leastPaid_0 23 rfl) ?_
          refine vf_if_ne C (off := 17) (tgt := 61) (zdg dz_S_leastPaid_1 0 rfl) (by decide) ?_ ?_
          · exact t_S_leastPaid_61 C hn hR hr ih _ _ _ _ _
          · refine vf_iload C (zdg dz_S_leastPaid_1 1 rfl) 4 rfl ?_
            refine vf_aload_n C (f := 0) (zdg dz_S_leastPaid_1 2 rfl) 0 rfl rfl ?_
            refine vf_iload C (zdg dz_S_leastPaid_1 3 rfl) 5 rfl ?_
            refine vf_aload_n C (f := 3) (zdg dz_S_leastPaid_1 4 rfl) 3 rfl rfl ?_
            refine vf_callVi C cy_S_paidFor ml_S_138 rfl (ct_S_paidFor _ _) (S := [(0, v4)]) sh_28 (by decide) rfl (jrm_of hR rfl) rfl rfl (Nat.le_of_ble_eq_true rfl) (zdg dz_S_leastPaid_1 5 rfl) (fun r8 u9 => ?_)
            refine vf_callSi C cy_E_less ml_S_125 (ct_E_less _ _ _) (S := []) (jrm_of hR rfl) rfl rfl (Nat.le_of_ble_eq_true rfl) (zdg dz_S_leastPaid_1 6 rfl) (fun r10 u11 => ?_)
            refine vf_istore C (i := 4) (L' := [(0, (2, 29)), (1, (0, v1)), (2, (0, v2)), (3, (2, 6)), (5, (0, v5))]) (zdg dz_S_leastPaid_1 7 rfl) [0, 1, 2, 3, 5] (jrI rfl rfl) hn (by decide) ?_
            exact vf_perm [1, 2, 3, 4, 0, 5] rfl (t_S_leastPaid_61 C hn hR hr ih _ _ _ _ _)
def f_S_leastPaid (v1 v2 : Int) (w : Wd) : Option (Int × Wd) :=
  f_S_leastPaid_6 FU v1 v2 (-1) 0 w
theorem ct_S_leastPaid (v1 v2 : Int) (w : Wd) : Ct y_S_leastPaid prog_9_method_14_code 6 (some .int) 4 0 [(2, 29), (0, v1), (0, v2), (2, 6)] w (f_S_leastPaid v1 v2 w) := by
  refine ct_of (by decide +kernel) (Or.inl ⟨rfl, rfl⟩) (Nat.le_of_ble_eq_true rfl) ?_
  intro X Qf ad C hn hR hr
  unfold f_S_leastPaid
  show VF X Qf ad NF 0 0 w 0 [(0, (2, 29)), (1, (0, v1)), (2, (0, v2)), (3, (2, 6))] [] _
  refine vf_iconst C (z := (-1)) (zdg dz_S_leastPaid_0 0 rfl) (jz rfl) ?_
  refine vf_istore C (i := 4) (L' := [(0, (2, 29)), (1, (0, v1)), (2, (0, v2)), (3, (2, 6))]) (zdg dz_S_leastPaid_0 1 rfl) [0, 1, 2, 3] (jrI rfl rfl) hn (by decide) ?_
  refine vf_iconst C (z := 0) (zdg dz_S_leastPaid_0 2 rfl) (jz rfl) ?_
  refine vf_istore C (i := 5) (L' := [(4, (0, (-1))), (0, (2, 29)), (1, (0, v1)), (2, (0, v2)), (3, (2, 6))]) (zdg dz_S_leastPaid_0 3 rfl) [0, 1, 2, 3, 4] (jrI rfl rfl) hn (by decide) ?_
  exact vf_perm [2, 3, 4, 5, 1, 0] rfl (t_S_leastPaid_6 C hn hR hr FU _ _ _ _ _)
def f_E_both (v1 v2 v3 : Int) (w : Wd) : Option (Int × Wd) :=
  jcall (f_E_areTwo v1 v2 w) fun r1 u2 =>
  if r1 = 0 then
    some ((-1), u2)
  else
    jcall (f_E_isWeek v3 u2) fun r3 u4 =>
    if r3 = 0 then
      some ((-1), u4)
    else
      jcall (f_S_run u4) fun r5 u6 =>
      if r5 = 0 then
        some ((-3), u6)
      else
        jcall (f_S_leastPaid (ior (ishl 1 v1) (ishl 1 v2)) v3 u6) fun r7 u8 =>
        if r7 = (-1) then
          some ((-2), u8)
        else
          some (r7, u8)
theorem ct_E_both (v1 v2 v3 : Int) (w : Wd) : Ct y_E_both prog_1_method_24_code 5 (some .int) 21 0 [(2, 1), (0, v1), (0, v2), (0, v3)] w (f_E_both v1 v2 v3 w) := by
  refine ct_of (by decide +kernel) (Or.inl ⟨rfl, rfl⟩) (Nat.le_of_ble_eq_true rfl) ?_
  intro X Qf ad C hn hR hr
  unfold f_E_both
  show VF X Qf ad NF 0 0 w 0 [(0, (2, 1)), (1, (0, v1)), (2, (0, v2)), (3, (0, v3))] [] _
  refine vf_aload_n C (f := 0) (zdg dz_E_both_0 0 rfl) 0 rfl rfl ?_
  refine vf_iload_n C (f := 1) (zdg dz_E_both_0 1 rfl) 1 rfl rfl ?_
  refine vf_iload_n C (f := 2) (zdg dz_E_both_0 2 rfl) 2 rfl rfl ?_
  refine vf_callVz C cy_E_areTwo ml_E_165 rfl (ct_E_areTwo _ _ _) (S := []) sh_0 (by decide) rfl (jrm_of hR rfl) rfl rfl (Nat.le_of_ble_eq_true rfl) (zdg dz_E_both_0 3 rfl) (fun r1 u2 => ?_)
  refine vf_if_eq C (off := 10) (tgt := 16) (zdg dz_E_both_0 4 rfl) (by decide) ?_ ?_
  · refine vf_iconst C (z := (-1)) (zdg dz_E_both_0 8 rfl) (jz rfl) ?_
    exact hr _ _ _ _ (fun h => absurd h (by decide)) (zdg dz_E_both_0 9 rfl)
  · refine vf_iload_n C (f := 3) (zdg dz_E_both_0 5 rfl) 3 rfl rfl ?_
    refine vf_callSz C cy_E_isWeek ml_E_209 (ct_E_isWeek _ _) (S := []) (jrm_of hR rfl) rfl rfl (Nat.le_of_ble_eq_true rfl) (zdg dz_E_both_0 6 rfl) (fun r3 u4 => ?_)
    refine vf_if_ne C (off := 5) (tgt := 18) (zdg dz_E_both_0 7 rfl) (by decide) ?_ ?_
    · refine vf_aload_n C (f := 0) (zdg dz_E_both_0 10 rfl) 0 rfl rfl ?_
      refine vf_getp C fl_E_68 sh_0 rfl (by decide) rfl (x := 29) rfl (zdg dz_E_both_0 11 rfl) ?_
      refine vf_aload_n C (f := 0) (zdg dz_E_both_0 12 rfl) 0 rfl rfl ?_
      refine vf_getp C fl_E_26 sh_0 rfl (by decide) rfl (x := 6) rfl (zdg dz_E_both_0 13 rfl) ?_
      refine vf_aload_n C (f := 0) (zdg dz_E_both_0 14 rfl) 0 rfl rfl ?_
      refine vf_getp C fl_E_61 sh_0 rfl (by decide) rfl (x := 25) rfl (zdg dz_E_both_0 15 rfl) ?_
      refine vf_callVz C cy_S_run ml_E_256 rfl (ct_S_run _) (S := []) sh_28 (by decide) rfl (jrm_of hR rfl) rfl rfl (Nat.le_of_ble_eq_true rfl) (zdg dz_E_both_0 16 rfl) (fun r5 u6 => ?_)
      refine vf_if_ne C (off := 6) (tgt := 39) (zdg dz_E_both_0 17 rfl) (by decide) ?_ ?_
      · refine vf_aload_n C (f := 0) (zdg dz_E_both_0 20 rfl) 0 rfl rfl ?_
        refine vf_getp C fl_E_68 sh_0 rfl (by decide) rfl (x := 29) rfl (zdg dz_E_both_0 21 rfl) ?_
        refine vf_iconst C (z := 1) (zdg dz_E_both_0 22 rfl) (jz rfl) ?_
        refine vf_iload_n C (f := 1) (zdg dz_E_both_0 23 rfl) 1 rfl rfl ?_
        refine vf_ishl C (zdg dz_E_both_1 0 rfl) ?_
        refine vf_iconst C (z := 1) (zdg dz_E_both_1 1 rfl) (jz rfl) ?_
        refine vf_iload_n C (f := 2) (zdg dz_E_both_1 2 rfl) 2 rfl rfl ?_
        refine vf_ishl C (zdg dz_E_both_1 3 rfl) ?_
        refine vf_ior C (zdg dz_E_both_1 4 rfl) ?_
        refine vf_iload_n C (f := 3) (zdg dz_E_both_1 5 rfl) 3 rfl rfl ?_
        refine vf_aload_n C (f := 0) (zdg dz_E_both_1 6 rfl) 0 rfl rfl ?_
        refine vf_getp C fl_E_26 sh_0 rfl (by decide) rfl (x := 6) rfl (zdg dz_E_both_1 7 rfl) ?_
        refine vf_callVi C cy_S_leastPaid ml_E_292 rfl (ct_S_leastPaid _ _ _) (S := []) sh_28 (by decide) rfl (jrm_of hR rfl) rfl rfl (Nat.le_of_ble_eq_true rfl) (zdg dz_E_both_1 8 rfl) (fun r7 u8 => ?_)
        refine vf_istore C (i := 4) (L' := []) (zdg dz_E_both_1 9 rfl) [] (jrI rfl rfl) hn (by decide) ?_
        refine vf_iload C (zdg dz_E_both_1 10 rfl) 0 rfl ?_
        refine vf_iconst C (z := (-1)) (zdg dz_E_both_1 11 rfl) (jz rfl) ?_
        refine vf_icmp_ne C (off := 8) (tgt := 71) (zdg dz_E_both_1 12 rfl) (by decide) ?_ ?_
        · refine vf_iload C (zdg dz_E_both_1 15 rfl) 0 rfl ?_
          exact hr _ _ _ _ (fun h => absurd h (by decide)) (zdg dz_E_both_1 16 rfl)
        · refine vf_bipush C (z := (-2)) (zdg dz_E_both_1 13 rfl) (by decide +kernel) (jz rfl) ?_
          refine vf_goto C (off := 5) (tgt := 73) (zdg dz_E_both_1 14 rfl) (by decide) ?_
          exact hr _ _ _ _ (fun h => absurd h (by decide)) (zdg dz_E_both_1 16 rfl)
      · refine vf_bipush C (z := (-3)) (zdg dz_E_both_0 18 rfl) (by decide +kernel) (jz rfl) ?_
        exact hr _ _ _ _ (fun h => absurd h (by decide)) (zdg dz_E_both_0 19 rfl)
    · refine vf_iconst C (z := (-1)) (zdg dz_E_both_0 8 rfl) (jz rfl) ?_
      exact hr _ _ _ _ (fun h => absurd h (by decide)) (zdg dz_E_both_0 9 rfl)
def f_S_weeksWith_61 (k5 : Int → Int → Int → Int → Wd → Option (Int × Wd)) (v1 v2 v3 v5 : Int) (w : Wd) : Option (Int × Wd) :=
  jlet (w32 (v5 + 1)) fun x3 =>
  k5 v1 v2 v3 x3 w
theorem t_S_weeksWith_61 {X : jX} {Qf : Int × Wd → State → Prop} {ad : Nat → Nat} (C : Cx X prog_9_method_15_code "EachBringsAnother$Search") (hn : xn X = 6) (hR : xR X = rmD 3) (hr : Rt X Qf ad prog_9_method_15_code 1) {k5 : Int → Int → Int → Int → Wd → Option (Int × Wd)} (hk5 : ∀ (v1 v2 v3 v5 : Int) (w : Wd), VF X Qf ad NF 0 0 w 5 [(0, (2, 29)), (1, (0, v1)), (2, (0, v2)), (3, (1, v3)), (5, (0, v5))] [] (k5 v1 v2 v3 v5 w)) (v1 v2 v3 v5 : Int) (w : Wd) : VF X Qf ad NF 0 0 w 61 [(0, (2, 29)), (1, (0, v1)), (2, (0, v2)), (3, (1, v3)), (5, (0, v5))] [] (f_S_weeksWith_61 k5 v1 v2 v3 v5 w) := by
  unfold f_S_weeksWith_61
  refine vf_iinc C (z := 1) (L' := [(0, (2, 29)), (1, (0, v1)), (2, (0, v2)), (3, (1, v3))]) (zdg dz_S_weeksWith_1 11 rfl) 4 rfl [0, 1, 2, 3] (jrI rfl rfl) hn (by decide) ?_
  generalize w32 (v5 + 1) = x3
  refine vf_ul ?_
  refine vf_goto C (off := (-59)) (tgt := 5) (zdg dz_S_weeksWith_1 12 rfl) (by decide) ?_
  exact vf_perm [1, 2, 3, 4, 0] rfl (hk5 _ _ _ _ _)
def f_S_weeksWith_5 : Nat → Int → Int → Int → Int → Wd → Option (Int × Wd)
  | 0, _, _, _, _, _ => none
  | n + 1, v1, v2, v3, v5, w =>
    if (w 28 7) ≤ v5 then
      some (v3, w)
    else
      jcall (f_S_guests v5 w) fun r1 u2 =>
      if r1 = 0 then
        f_S_weeksWith_61 (f_S_weeksWith_5 n) v1 v2 v3 v5 u2
      else
        jcall (f_S_guests v5 u2) fun r4 u5 =>
        if (iand v1 (ixor r4 (-1))) = 0 then
          jgd ((0 : Int) ≤ v5 ∧ v5 < 3000) <|
          jcall (f_O_known (u5 30 v5.toNat) u5) fun r6 u7 =>
          if (iand r6 v2) = 0 then
            jgd ((0 : Int) ≤ v5 ∧ v5 < 3000) <|
            jlet (lor v3 (u7 31 v5.toNat)) fun x8 =>
            f_S_weeksWith_61 (f_S_weeksWith_5 n) v1 v2 x8 v5 u7
          else
            f_S_weeksWith_61 (f_S_weeksWith_5 n) v1 v2 v3 v5 u7
        else
          f_S_weeksWith_61 (f_S_weeksWith_5 n) v1 v2 v3 v5 u5
theorem t_S_weeksWith_5 {X : jX} {Qf : Int × Wd → State → Prop} {ad : Nat → Nat} (C : Cx X prog_9_method_15_code "EachBringsAnother$Search") (hn : xn X = 6) (hR : xR X = rmD 3) (hr : Rt X Qf ad prog_9_method_15_code 1) : ∀ (n : Nat) (v1 v2 v3 v5 : Int) (w : Wd), VF X Qf ad NF 0 0 w 5 [(0, (2, 29)), (1, (0, v1)), (2, (0, v2)), (3, (1, v3)), (5, (0, v5))] [] (f_S_weeksWith_5 n v1 v2 v3 v5 w) := by
  intro n
  induction n with
  | zero => intros; exact vf_no
  | succ n ih =>
    intro v1 v2 v3 v5 w
    rw [f_S_weeksWith_5]
    refine vf_iload C (zdg dz_S_weeksWith_0 4 rfl) 4 rfl ?_
    refine vf_aload_n C (f := 0) (zdg dz_S_weeksWith_0 5 rfl) 0 rfl rfl ?_
    refine vf_get C (kd := 0) fl_S_67 sh_28 rfl (by decide) rfl rfl (zdg dz_S_weeksWith_0 6 rfl) ?_
    refine vf_icmp_ge C (off := 56) (tgt := 67) (zdg dz_S_weeksWith_0 7 rfl) (by decide) ?_ ?_
    · refine vf_lload_n C (f := 3) (zdg dz_S_weeksWith_1 13 rfl) 3 rfl rfl ?_
      exact hr _ _ _ _ (fun h => absurd h (by decide)) (zdg dz_S_weeksWith_1 14 rfl)
    · refine vf_aload_n C (f := 0) (zdg dz_S_weeksWith_0 8 rfl) 0 rfl rfl ?_
      refine vf_iload C (zdg dz_S_weeksWith_0 9 rfl) 4 rfl ?_
      refine vf_callVi C cy_S_guests ml_S_70 rfl (ct_S_guests _ _) (S := []) sh_28 (by decide) rfl (jrm_of hR rfl) rfl rfl (Nat.le_of_ble_eq_true rfl) (zdg dz_S_weeksWith_0 10 rfl) (fun r1 u2 => ?_)
      refine vf_if_eq C (off := 41) (tgt := 61) (zdg dz_S_weeksWith_0 11 rfl) (by decide) ?_ ?_
      · exact t_S_weeksWith_61 C hn hR hr ih _ _ _ _ _
      · refine vf_iload_n C (f := 1) (zdg dz_S_weeksWith_0 12 rfl) 1 rfl rfl ?_
        refine vf_aload_n C (f := 0) (zdg dz_S_weeksWith_0 13 rfl) 0 rfl rfl ?_
        refine vf_iload C (zdg dz_S_weeksWith_0 14 rfl) 4 rfl ?_
        refine vf_callVi C cy_S_guests ml_S_70 rfl (ct_S_guests _ _) (S := [(0, v1)]) sh_28 (by decide) rfl (jrm_of hR rfl) rfl rfl (Nat.le_of_ble_eq_true rfl) (zdg dz_S_weeksWith_0 15 rfl) (fun r4 u5 => ?_)
        refine vf_iconst C (z := (-1)) (zdg dz_S_weeksWith_0 16 rfl) (jz rfl) ?_
        refine vf_ixor C (zdg dz_S_weeksWith_0 17 rfl) ?_
        refine vf_iand C (zdg dz_S_weeksWith_0 18 rfl) ?_
        refine vf_if_ne C (off := 28) (tgt := 61) (zdg dz_S_weeksWith_0 19 rfl) (by decide) ?_ ?_
        · exact t_S_weeksWith_61 C hn hR hr ih _ _ _ _ _
        · refine vf_aload_n C (f := 0) (zdg dz_S_weeksWith_0 20 rfl) 0 rfl rfl ?_
          refine vf_getp C fl_S_15 sh_28 rfl (by decide) rfl (x := 31) rfl (zdg dz_S_weeksWith_0 21 rfl) ?_
          refine vf_iload C (zdg dz_S_weeksWith_0 22 rfl) 4 rfl ?_
          refine vf_iald C sh_30 (by decide) rfl (mz := 3000) rfl (zdg dz_S_weeksWith_0 23 rfl) ?_
          refine vf_callSi C cy_O_known ml_S_132 (ct_O_known _ _) (S := []) (jrm_of hR rfl) rfl rfl (Nat.le_of_ble_eq_true rfl) (zdg dz_S_weeksWith_1 0 rfl) (fun r6 u7 => ?_)
          refine vf_iload_n C (f := 2) (zdg dz_S_weeksWith_1 1 rfl) 2 rfl rfl ?_
          refine vf_iand C (zdg dz_S_weeksWith_1 2 rfl) ?_
          refine vf_if_ne C (off := 13) (tgt := 61) (zdg dz_S_weeksWith_1 3 rfl) (by decide) ?_ ?_
          · exact t_S_weeksWith_61 C hn hR hr ih _ _ _ _ _
          · refine vf_lload_n C (f := 3) (zdg dz_S_weeksWith_1 4 rfl) 3 rfl rfl ?_
            refine vf_aload_n C (f := 0) (zdg dz_S_weeksWith_1 5 rfl) 0 rfl rfl ?_
            refine vf_getp C fl_S_18 sh_28 rfl (by decide) rfl (x := 32) rfl (zdg dz_S_weeksWith_1 6 rfl) ?_
            refine vf_iload C (zdg dz_S_weeksWith_1 7 rfl) 4 rfl ?_
            refine vf_lald C sh_31 (by decide) rfl (mz := 3000) rfl (zdg dz_S_weeksWith_1 8 rfl) ?_
            refine vf_lor C (zdg dz_S_weeksWith_1 9 rfl) ?_
            generalize lor v3 (u7 31 v5.toNat) = x8
            refine vf_ul ?_
            refine vf_lstore_n C (f := 3) (L' := [(0, (2, 29)), (1, (0, v1)), (2, (0, v2)), (5, (0, v5))]) (zdg dz_S_weeksWith_1 10 rfl) [0, 1, 2, 4] (jrI rfl rfl) hn (by decide) rfl ?_
            exact vf_perm [1, 2, 3, 0, 4] rfl (t_S_weeksWith_61 C hn hR hr ih _ _ _ _ _)
def f_S_weeksWith (v1 v2 : Int) (w : Wd) : Option (Int × Wd) :=
  f_S_weeksWith_5 FU v1 v2 0 0 w
theorem ct_S_weeksWith (v1 v2 : Int) (w : Wd) : Ct y_S_weeksWith prog_9_method_15_code 6 (some .long) 3 1 [(2, 29), (0, v1), (0, v2)] w (f_S_weeksWith v1 v2 w) := by
  refine ct_of (by decide +kernel) (Or.inr (Or.inl ⟨rfl, rfl⟩)) (Nat.le_of_ble_eq_true rfl) ?_
  intro X Qf ad C hn hR hr
  unfold f_S_weeksWith
  show VF X Qf ad NF 0 0 w 0 [(0, (2, 29)), (1, (0, v1)), (2, (0, v2))] [] _
  refine vf_lconst C (z := 0) (f := 0) (zdg dz_S_weeksWith_0 0 rfl) (by decide +kernel) (jz1 rfl) ?_
  refine vf_lstore_n C (f := 3) (L' := [(0, (2, 29)), (1, (0, v1)), (2, (0, v2))]) (zdg dz_S_weeksWith_0 1 rfl) [0, 1, 2] (jrI rfl rfl) hn (by decide) rfl ?_
  refine vf_iconst C (z := 0) (zdg dz_S_weeksWith_0 2 rfl) (jz rfl) ?_
  refine vf_istore C (i := 5) (L' := [(3, (1, 0)), (0, (2, 29)), (1, (0, v1)), (2, (0, v2))]) (zdg dz_S_weeksWith_0 3 rfl) [0, 1, 2, 3] (jrI rfl rfl) hn (by decide) ?_
  exact vf_perm [2, 3, 4, 1, 0] rfl (t_S_weeksWith_5 C hn hR hr FU _ _ _ _ _)
def f_S_lastWeek_11 : Nat → Int → Int → Wd → Option (Int × Wd)
  | 0, _, _, _ => none
  | n + 1, v3, v5, w =>
    if v5 < 0 then
      some ((-1), w)
    else
      if (lcmp (land (lshr v3 v5) 1) 0) = 0 then
        jlet (w32 (v5 + (-1))) fun x3 =>
        f_S_lastWeek_11 n v3 x3 w
      else
        some (v5, w)
theorem t_S_lastWeek_11 {X : jX} {Qf : Int × Wd → State → Prop} {ad : Nat → Nat} (C : Cx X prog_9_method_16_code "EachBringsAnother$Search") (hn : xn X = 6) (hR : xR X = rmD 4) (hr : Rt X Qf ad prog_9_method_16_code 0) : ∀ (n : Nat) (v3 v5 : Int) (w : Wd), VF X Qf ad NF 0 0 w 11 [(3, (1, v3)), (5, (0, v5))] [] (f_S_lastWeek_11 n v3 v5 w) := by
  intro n
  induction n with
  | zero => intros; exact vf_no
  | succ n ih =>
    intro v3 v5 w
    rw [f_S_lastWeek_11]
    refine vf_iload C (zdg dz_S_lastWeek_0 7 rfl) 1 rfl ?_
    refine vf_if_lt C (off := 23) (tgt := 36) (zdg dz_S_lastWeek_0 8 rfl) (by decide) ?_ ?_
    · refine vf_iconst C (z := (-1)) (zdg dz_S_lastWeek_0 21 rfl) (jz rfl) ?_
      exact hr _ _ _ _ (fun h => absurd h (by decide)) (zdg dz_S_lastWeek_0 22 rfl)
    · refine vf_lload_n C (f := 3) (zdg dz_S_lastWeek_0 9 rfl) 0 rfl rfl ?_
      refine vf_iload C (zdg dz_S_lastWeek_0 10 rfl) 1 rfl ?_
      refine vf_lshr C (zdg dz_S_lastWeek_0 11 rfl) ?_
      refine vf_lconst C (z := 1) (f := 1) (zdg dz_S_lastWeek_0 12 rfl) (by decide +kernel) (jz1 rfl) ?_
      refine vf_land C (zdg dz_S_lastWeek_0 13 rfl) ?_
      refine vf_lconst C (z := 0) (f := 0) (zdg dz_S_lastWeek_0 14 rfl) (by decide +kernel) (jz1 rfl) ?_
      refine vf_lcmp C (zdg dz_S_lastWeek_0 15 rfl) ?_
      refine vf_if_eq C (off := 6) (tgt := 30) (zdg dz_S_lastWeek_0 16 rfl) (by decide) ?_ ?_
      · refine vf_iinc C (z := (-1)) (L' := [(3, (1, v3))]) (zdg dz_S_lastWeek_0 19 rfl) 1 rfl [0] (jrI rfl rfl) hn (by decide) ?_
        generalize w32 (v5 + (-1)) = x3
        refine vf_ul ?_
        refine vf_goto C (off := (-22)) (tgt := 11) (zdg dz_S_lastWeek_0 20 rfl) (by decide) ?_
        exact vf_perm [1, 0] rfl (ih _ _ _)
      · refine vf_iload C (zdg dz_S_lastWeek_0 17 rfl) 1 rfl ?_
        exact hr _ _ _ _ (fun h => absurd h (by decide)) (zdg dz_S_lastWeek_0 18 rfl)
def f_S_lastWeek (v1 v2 : Int) (w : Wd) : Option (Int × Wd) :=
  jcall (f_S_weeksWith v1 v2 w) fun r1 u2 =>
  f_S_lastWeek_11 FU r1 60 u2
theorem ct_S_lastWeek (v1 v2 : Int) (w : Wd) : Ct y_S_lastWeek prog_9_method_16_code 6 (some .int) 4 0 [(2, 29), (0, v1), (0, v2)] w (f_S_lastWeek v1 v2 w) := by
  refine ct_of (by decide +kernel) (Or.inl ⟨rfl, rfl⟩) (Nat.le_of_ble_eq_true rfl) ?_
  intro X Qf ad C hn hR hr
  unfold f_S_lastWeek
  show VF X Qf ad NF 0 0 w 0 [(0, (2, 29)), (1, (0, v1)), (2, (0, v2))] [] _
  refine vf_aload_n C (f := 0) (zdg dz_S_lastWeek_0 0 rfl) 0 rfl rfl ?_
  refine vf_iload_n C (f := 1) (zdg dz_S_lastWeek_0 1 rfl) 1 rfl rfl ?_
  refine vf_iload_n C (f := 2) (zdg dz_S_lastWeek_0 2 rfl) 2 rfl rfl ?_
  refine vf_callVl C cy_S_weeksWith ml_S_142 rfl (ct_S_weeksWith _ _ _) (S := []) sh_28 (by decide) rfl (jrm_of hR rfl) rfl rfl (Nat.le_of_ble_eq_true rfl) (zdg dz_S_lastWeek_0 3 rfl) (fun r1 u2 => ?_)
  refine vf_lstore_n C (f := 3) (L' := []) (zdg dz_S_lastWeek_0 4 rfl) [] (jrI rfl rfl) hn (by decide) rfl ?_
  refine vf_bipush C (z := 60) (zdg dz_S_lastWeek_0 5 rfl) (by decide +kernel) (jz rfl) ?_
  refine vf_istore C (i := 5) (L' := [(3, (1, r1))]) (zdg dz_S_lastWeek_0 6 rfl) [0] (jrI rfl rfl) hn (by decide) ?_
  exact vf_perm [1, 0] rfl (t_S_lastWeek_11 C hn hR hr FU _ _ _)
def f_E_last (w : Wd) : Option (Int × Wd) :=
  jcall (f_S_run w) fun r1 u2 =>
  if r1 = 0 then
    some ((-3), u2)
  else
    jcall (f_S_lastWeek 0 0 u2) fun r3 u4 =>
    if r3 = (-1) then
      some ((-2), u4)
    else
      jcall (f_S_fewestGuests r3 u4) fun r5 u6 =>
      jcall (f_N_tell1 r5 u6) fun r7 u8 =>
      some (r3, u8)
theorem ct_E_last (w : Wd) : Ct y_E_last prog_1_method_25_code 2 (some .int) 21 0 [(2, 1)] w (f_E_last w) := by
  refine ct_of (by decide +kernel) (Or.inl ⟨rfl, rfl⟩) (Nat.le_of_ble_eq_true rfl) ?_
  intro X Qf ad C hn hR hr
  unfold f_E_last
  show VF X Qf ad NF 0 0 w 0 [(0, (2, 1))] [] _
  refine vf_aload_n C (f := 0) (zdg dz_E_last_0 0 rfl) 0 rfl rfl ?_
  refine vf_getp C fl_E_68 sh_0 rfl (by decide) rfl (x := 29) rfl (zdg dz_E_last_0 1 rfl) ?_
  refine vf_aload_n C (f := 0) (zdg dz_E_last_0 2 rfl) 0 rfl rfl ?_
  refine vf_getp C fl_E_26 sh_0 rfl (by decide) rfl (x := 6) rfl (zdg dz_E_last_0 3 rfl) ?_
  refine vf_aload_n C (f := 0) (zdg dz_E_last_0 4 rfl) 0 rfl rfl ?_
  refine vf_getp C fl_E_61 sh_0 rfl (by decide) rfl (x := 25) rfl (zdg dz_E_last_0 5 rfl) ?_
  refine vf_callVz C cy_S_run ml_E_256 rfl (ct_S_run _) (S := []) sh_28 (by decide) rfl (jrm_of hR rfl) rfl rfl (Nat.le_of_ble_eq_true rfl) (zdg dz_E_last_0 6 rfl) (fun r1 u2 => ?_)
  refine vf_if_ne C (off := 6) (tgt := 21) (zdg dz_E_last_0 7 rfl) (by decide) ?_ ?_
  · refine vf_aload_n C (f := 0) (zdg dz_E_last_0 10 rfl) 0 rfl rfl ?_
    refine vf_getp C fl_E_68 sh_0 rfl (by decide) rfl (x := 29) rfl (zdg dz_E_last_0 11 rfl) ?_
    refine vf_iconst C (z := 0) (zdg dz_E_last_0 12 rfl) (jz rfl) ?_
    refine vf_iconst C (z := 0) (zdg dz_E_last_0 13 rfl) (jz rfl) ?_
    refine vf_callVi C cy_S_lastWeek ml_E_296 rfl (ct_S_lastWeek _ _ _) (S := []) sh_28 (by decide) rfl (jrm_of hR rfl) rfl rfl (Nat.le_of_ble_eq_true rfl) (zdg dz_E_last_0 14 rfl) (fun r3 u4 => ?_)
    refine vf_istore_n C (f := 1) (L' := [(0, (2, 1))]) (zdg dz_E_last_0 15 rfl) [0] (jrI rfl rfl) hn (by decide) rfl ?_
    refine vf_iload_n C (f := 1) (zdg dz_E_last_0 16 rfl) 0 rfl rfl ?_
    refine vf_iconst C (z := (-1)) (zdg dz_E_last_0 17 rfl) (jz rfl) ?_
    refine vf_icmp_ne C (off := 6) (tgt := 39) (zdg dz_E_last_0 18 rfl) (by decide) ?_ ?_
    · refine vf_aload_n C (f := 0) (zdg dz_E_last_0 21 rfl) 1 rfl rfl ?_
      refine vf_getp C fl_E_19 sh_0 rfl (by decide) rfl (x := 4) rfl (zdg dz_E_last_0 22 rfl) ?_
      refine vf_aload_n C (f := 0) (zdg dz_E_last_0 23 rfl) 1 rfl rfl ?_
      refine vf_getp C fl_E_68 sh_0 rfl (by decide) rfl (x := 29) rfl (zdg dz_E_last_1 0 rfl) ?_
      refine vf_iload_n C (f := 1) (zdg dz_E_last_1 1 rfl) 0 rfl rfl ?_
      refine vf_callVi C cy_S_fewestGuests ml_E_274 rfl (ct_S_fewestGuests _ _) (S := [(2, 4)]) sh_28 (by decide) rfl (jrm_of hR rfl) rfl rfl (Nat.le_of_ble_eq_true rfl) (zdg dz_E_last_1 2 rfl) (fun r5 u6 => ?_)
      refine vf_callVv C cy_N_tell1 ml_E_231 rfl (ct_N_tell1 _ _) (S := []) sh_3 (by decide) rfl (jrm_of hR rfl) rfl rfl (Nat.le_of_ble_eq_true rfl) (zdg dz_E_last_1 3 rfl) (fun r7 u8 => ?_)
      refine vf_iload_n C (f := 1) (zdg dz_E_last_1 4 rfl) 0 rfl rfl ?_
      exact hr _ _ _ _ (fun h => absurd h (by decide)) (zdg dz_E_last_1 5 rfl)
    · refine vf_bipush C (z := (-2)) (zdg dz_E_last_0 19 rfl) (by decide +kernel) (jz rfl) ?_
      exact hr _ _ _ _ (fun h => absurd h (by decide)) (zdg dz_E_last_0 20 rfl)
  · refine vf_bipush C (z := (-3)) (zdg dz_E_last_0 8 rfl) (by decide +kernel) (jz rfl) ?_
    exact hr _ _ _ _ (fun h => absurd h (by decide)) (zdg dz_E_last_0 9 rfl)
def f_S_leftOf (v1 : Int) (w : Wd) : Option (Int × Wd) :=
  jcall (f_S_slotOf v1 w) fun r1 u2 =>
  jgd ((0 : Int) ≤ r1 ∧ r1 < 8192) <|
  jlet (w32 ((u2 29 r1.toNat) - 1)) fun x3 =>
  if x3 < 0 then
    some (0, u2)
  else
    if (u2 28 7) ≤ x3 then
      some (0, u2)
    else
      jgd ((0 : Int) ≤ x3 ∧ x3 < 3000) <|
      some (u2 32 x3.toNat, u2)
theorem ct_S_leftOf (v1 : Int) (w : Wd) : Ct y_S_leftOf prog_9_method_19_code 3 (some .long) 2 1 [(2, 29), (0, v1)] w (f_S_leftOf v1 w) := by
  refine ct_of (by decide +kernel) (Or.inr (Or.inl ⟨rfl, rfl⟩)) (Nat.le_of_ble_eq_true rfl) ?_
  intro X Qf ad C hn hR hr
  unfold f_S_leftOf
  show VF X Qf ad NF 0 0 w 0 [(0, (2, 29)), (1, (0, v1))] [] _
  refine vf_aload_n C (f := 0) (zdg dz_S_leftOf_0 0 rfl) 0 rfl rfl ?_
  refine vf_getp C fl_S_11 sh_28 rfl (by decide) rfl (x := 30) rfl (zdg dz_S_leftOf_0 1 rfl) ?_
  refine vf_aload_n C (f := 0) (zdg dz_S_leftOf_0 2 rfl) 0 rfl rfl ?_
  refine vf_iload_n C (f := 1) (zdg dz_S_leftOf_0 3 rfl) 1 rfl rfl ?_
  refine vf_callVi C cy_S_slotOf ml_S_99 rfl (ct_S_slotOf _ _) (S := [(2, 30)]) sh_28 (by decide) rfl (jrm_of hR rfl) rfl rfl (Nat.le_of_ble_eq_true rfl) (zdg dz_S_leftOf_0 4 rfl) (fun r1 u2 => ?_)
  refine vf_iald C sh_29 (by decide) rfl (mz := 8192) rfl (zdg dz_S_leftOf_0 5 rfl) ?_
  refine vf_iconst C (z := 1) (zdg dz_S_leftOf_0 6 rfl) (jz rfl) ?_
  refine vf_isub C (zdg dz_S_leftOf_0 7 rfl) ?_
  generalize w32 ((u2 29 r1.toNat) - 1) = x3
  refine vf_ul ?_
  refine vf_istore_n C (f := 2) (L' := [(0, (2, 29))]) (zdg dz_S_leftOf_0 8 rfl) [0] (jrI rfl rfl) hn (by decide) rfl ?_
  refine vf_iload_n C (f := 2) (zdg dz_S_leftOf_0 9 rfl) 0 rfl rfl ?_
  refine vf_if_lt C (off := 20) (tgt := 34) (zdg dz_S_leftOf_0 10 rfl) (by decide) ?_ ?_
  · refine vf_lconst C (z := 0) (f := 0) (zdg dz_S_leftOf_0 20 rfl) (by decide +kernel) (jz1 rfl) ?_
    exact hr _ _ _ _ (fun h => absurd h (by decide)) (zdg dz_S_leftOf_0 21 rfl)
  · refine vf_iload_n C (f := 2) (zdg dz_S_leftOf_0 11 rfl) 0 rfl rfl ?_
    refine vf_aload_n C (f := 0) (zdg dz_S_leftOf_0 12 rfl) 1 rfl rfl ?_
    refine vf_get C (kd := 0) fl_S_67 sh_28 rfl (by decide) rfl rfl (zdg dz_S_leftOf_0 13 rfl) ?_
    refine vf_icmp_ge C (off := 12) (tgt := 34) (zdg dz_S_leftOf_0 14 rfl) (by decide) ?_ ?_
    · refine vf_lconst C (z := 0) (f := 0) (zdg dz_S_leftOf_0 20 rfl) (by decide +kernel) (jz1 rfl) ?_
      exact hr _ _ _ _ (fun h => absurd h (by decide)) (zdg dz_S_leftOf_0 21 rfl)
    · refine vf_aload_n C (f := 0) (zdg dz_S_leftOf_0 15 rfl) 1 rfl rfl ?_
      refine vf_getp C fl_S_22 sh_28 rfl (by decide) rfl (x := 33) rfl (zdg dz_S_leftOf_0 16 rfl) ?_
      refine vf_iload_n C (f := 2) (zdg dz_S_leftOf_0 17 rfl) 0 rfl rfl ?_
      refine vf_lald C sh_32 (by decide) rfl (mz := 3000) rfl (zdg dz_S_leftOf_0 18 rfl) ?_
      refine vf_goto C (off := 4) (tgt := 35) (zdg dz_S_leftOf_0 19 rfl) (by decide) ?_
      exact hr _ _ _ _ (fun h => absurd h (by decide)) (zdg dz_S_leftOf_0 21 rfl)
def f_S_leftBehind_29 : Nat → Int → Int → Int → Wd → Option (Int × Wd)
  | 0, _, _, _, _ => none
  | n + 1, v1, v4, v6, w =>
    if (w 24 3) ≤ v6 then
      some (v4, w)
    else
      jgd ((0 : Int) ≤ v1 ∧ v1 < 3000) <|
      jcall (f_M_moversOf v6 w) fun r5 u6 =>
      jcall (f_O_after (w 30 v1.toNat) r5 (u6 5 7) u6) fun r7 u8 =>
      jcall (f_S_leftOf r7 u8) fun r9 u10 =>
      jlet (lor v4 r9) fun x11 =>
      jlet (w32 (v6 + 1)) fun x12 =>
      f_S_leftBehind_29 n v1 x11 x12 u10
theorem t_S_leftBehind_29 {X : jX} {Qf : Int × Wd → State → Prop} {ad : Nat → Nat} (C : Cx X prog_9_method_18_code "EachBringsAnother$Search") (hn : xn X = 7) (hR : xR X = rmD 19) (hr : Rt X Qf ad prog_9_method_18_code 1) : ∀ (n : Nat) (v1 v4 v6 : Int) (w : Wd), VF X Qf ad NF 0 0 w 29 [(0, (2, 29)), (1, (0, v1)), (2, (2, 6)), (3, (2, 25)), (4, (1, v4)), (6, (0, v6))] [] (f_S_leftBehind_29 n v1 v4 v6 w) := by
  intro n
  induction n with
  | zero => intros; exact vf_no
  | succ n ih =>
    intro v1 v4 v6 w
    rw [f_S_leftBehind_29]
    refine vf_iload C (zdg dz_S_leftBehind_0 17 rfl) 5 rfl ?_
    refine vf_aload_n C (f := 3) (zdg dz_S_leftBehind_0 18 rfl) 3 rfl rfl ?_
    refine vf_get C (kd := 0) fl_S_85 sh_24 rfl (by decide) rfl rfl (zdg dz_S_leftBehind_0 19 rfl) ?_
    refine vf_icmp_ge C (off := 37) (tgt := 72) (zdg dz_S_leftBehind_0 20 rfl) (by decide) ?_ ?_
    · refine vf_lload C (zdg dz_S_leftBehind_1 14 rfl) 4 rfl ?_
      exact hr _ _ _ _ (fun h => absurd h (by decide)) (zdg dz_S_leftBehind_1 15 rfl)
    · refine vf_lload C (zdg dz_S_leftBehind_0 21 rfl) 4 rfl ?_
      refine vf_aload_n C (f := 0) (zdg dz_S_leftBehind_0 22 rfl) 0 rfl rfl ?_
      refine vf_aload_n C (f := 0) (zdg dz_S_leftBehind_0 23 rfl) 0 rfl rfl ?_
      refine vf_getp C fl_S_15 sh_28 rfl (by decide) rfl (x := 31) rfl (zdg dz_S_leftBehind_1 0 rfl) ?_
      refine vf_iload_n C (f := 1) (zdg dz_S_leftBehind_1 1 rfl) 1 rfl rfl ?_
      refine vf_iald C sh_30 (by decide) rfl (mz := 3000) rfl (zdg dz_S_leftBehind_1 2 rfl) ?_
      refine vf_aload_n C (f := 3) (zdg dz_S_leftBehind_1 3 rfl) 3 rfl rfl ?_
      refine vf_iload C (zdg dz_S_leftBehind_1 4 rfl) 5 rfl ?_
      refine vf_callVi C cy_M_moversOf ml_S_86 rfl (ct_M_moversOf _ _) (S := [(0, w 30 v1.toNat), (2, 29), (1, v4)]) sh_24 (by decide) rfl (jrm_of hR rfl) rfl rfl (Nat.le_of_ble_eq_true rfl) (zdg dz_S_leftBehind_1 5 rfl) (fun r5 u6 => ?_)
      refine vf_aload_n C (f := 2) (zdg dz_S_leftBehind_1 6 rfl) 2 rfl rfl ?_
      refine vf_get C (kd := 0) fl_S_89 sh_5 rfl (by decide) rfl rfl (zdg dz_S_leftBehind_1 7 rfl) ?_
      refine vf_callSi C cy_O_after ml_S_92 (ct_O_after _ _ _ _) (S := [(2, 29), (1, v4)]) (jrm_of hR rfl) rfl rfl (Nat.le_of_ble_eq_true rfl) (zdg dz_S_leftBehind_1 8 rfl) (fun r7 u8 => ?_)
      refine vf_callVl C cy_S_leftOf ml_S_150 rfl (ct_S_leftOf _ _) (S := [(1, v4)]) sh_28 (by decide) rfl (jrm_of hR rfl) rfl rfl (Nat.le_of_ble_eq_true rfl) (zdg dz_S_leftBehind_1 9 rfl) (fun r9 u10 => ?_)
      refine vf_lor C (zdg dz_S_leftBehind_1 10 rfl) ?_
      generalize lor v4 r9 = x11
      refine vf_ul ?_
      refine vf_lstore C (i := 4) (L' := [(0, (2, 29)), (1, (0, v1)), (2, (2, 6)), (3, (2, 25)), (6, (0, v6))]) (zdg dz_S_leftBehind_1 11 rfl) [0, 1, 2, 3, 5] (jrI rfl rfl) hn (by decide) ?_
      refine vf_iinc C (z := 1) (L' := [(4, (1, x11)), (0, (2, 29)), (1, (0, v1)), (2, (2, 6)), (3, (2, 25))]) (zdg dz_S_leftBehind_1 12 rfl) 5 rfl [0, 1, 2, 3, 4] (jrI rfl rfl) hn (by decide) ?_
      generalize w32 (v6 + 1) = x12
      refine vf_ul ?_
      refine vf_goto C (off := (-40)) (tgt := 29) (zdg dz_S_leftBehind_1 13 rfl) (by decide) ?_
      exact vf_perm [2, 3, 4, 5, 1, 0] rfl (ih _ _ _ _)
def f_S_leftBehind (v1 : Int) (w : Wd) : Option (Int × Wd) :=
  jcall (f_S_guests v1 w) fun r1 u2 =>
  if r1 = 0 then
    some (0, u2)
  else
    jgd ((0 : Int) ≤ v1 ∧ v1 < 3000) <|
    jcall (f_M_gather (u2 30 v1.toNat) (u2 5 8) u2) fun r3 u4 =>
    f_S_leftBehind_29 FU v1 0 0 u4
theorem ct_S_leftBehind (v1 : Int) (w : Wd) : Ct y_S_leftBehind prog_9_method_18_code 7 (some .long) 19 1 [(2, 29), (0, v1), (2, 6), (2, 25)] w (f_S_leftBehind v1 w) := by
  refine ct_of (by decide +kernel) (Or.inr (Or.inl ⟨rfl, rfl⟩)) (Nat.le_of_ble_eq_true rfl) ?_
  intro X Qf ad C hn hR hr
  unfold f_S_leftBehind
  show VF X Qf ad NF 0 0 w 0 [(0, (2, 29)), (1, (0, v1)), (2, (2, 6)), (3, (2, 25))] [] _
  refine vf_lconst C (z := 0) (f := 0) (zdg dz_S_leftBehind_0 0 rfl) (by decide +kernel) (jz1 rfl) ?_
  refine vf_lstore C (i := 4) (L' := [(0, (2, 29)), (1, (0, v1)), (2, (2, 6)), (3, (2, 25))]) (zdg dz_S_leftBehind_0 1 rfl) [0, 1, 2, 3] (jrI rfl rfl) hn (by decide) ?_
  refine vf_aload_n C (f := 0) (zdg dz_S_leftBehind_0 2 rfl) 1 rfl rfl ?_
  refine vf_iload_n C (f := 1) (zdg dz_S_leftBehind_0 3 rfl) 2 rfl rfl ?_
  refine vf_callVi C cy_S_guests ml_S_70 rfl (ct_S_guests _ _) (S := []) sh_28 (by decide) rfl (jrm_of hR rfl) rfl rfl (Nat.le_of_ble_eq_true rfl) (zdg dz_S_leftBehind_0 4 rfl) (fun r1 u2 => ?_)
  refine vf_if_eq C (off := 64) (tgt := 72) (zdg dz_S_leftBehind_0 5 rfl) (by decide) ?_ ?_
  · refine vf_lload C (zdg dz_S_leftBehind_1 14 rfl) 0 rfl ?_
    exact hr _ _ _ _ (fun h => absurd h (by decide)) (zdg dz_S_leftBehind_1 15 rfl)
  · refine vf_aload_n C (f := 3) (zdg dz_S_leftBehind_0 6 rfl) 4 rfl rfl ?_
    refine vf_aload_n C (f := 2) (zdg dz_S_leftBehind_0 7 rfl) 3 rfl rfl ?_
    refine vf_aload_n C (f := 0) (zdg dz_S_leftBehind_0 8 rfl) 1 rfl rfl ?_
    refine vf_getp C fl_S_15 sh_28 rfl (by decide) rfl (x := 31) rfl (zdg dz_S_leftBehind_0 9 rfl) ?_
    refine vf_iload_n C (f := 1) (zdg dz_S_leftBehind_0 10 rfl) 2 rfl rfl ?_
    refine vf_iald C sh_30 (by decide) rfl (mz := 3000) rfl (zdg dz_S_leftBehind_0 11 rfl) ?_
    refine vf_aload_n C (f := 2) (zdg dz_S_leftBehind_0 12 rfl) 3 rfl rfl ?_
    refine vf_get C (kd := 0) fl_S_76 sh_5 rfl (by decide) rfl rfl (zdg dz_S_leftBehind_0 13 rfl) ?_
    refine vf_callVv C cy_M_gather ml_S_79 rfl (ct_M_gather _ _ _) (S := []) sh_24 (by decide) rfl (jrm_of hR rfl) rfl rfl (Nat.le_of_ble_eq_true rfl) (zdg dz_S_leftBehind_0 14 rfl) (fun r3 u4 => ?_)
    refine vf_iconst C (z := 0) (zdg dz_S_leftBehind_0 15 rfl) (jz rfl) ?_
    refine vf_istore C (i := 6) (L' := [(4, (1, 0)), (0, (2, 29)), (1, (0, v1)), (2, (2, 6)), (3, (2, 25))]) (zdg dz_S_leftBehind_0 16 rfl) [0, 1, 2, 3, 4] (jrI rfl rfl) hn (by decide) ?_
    exact vf_perm [2, 3, 4, 5, 1, 0] rfl (t_S_leftBehind_29 C hn hR hr FU _ _ _ _)
def f_S_lookBack_79 (k8 : Int → Int → Int → Wd → Option (Int × Wd)) (v3 v4 v5 v6 s0 : Int) (w : Wd) : Option (Int × Wd) :=
  jcall (f_S_leftBehind v6 w) fun r5 u6 =>
  jgd ((0 : Int) ≤ v6 ∧ v6 < 3000) <|
  jlw (st u6 32 v6.toNat ((lor s0 (lshl r5 1)))) fun u7 =>
  jlet (w32 (v5 + (-1))) fun x8 =>
  k8 v3 v4 x8 u7
theorem t_S_lookBack_79 {X : jX} {Qf : Int × Wd → State → Prop} {ad : Nat → Nat} (C : Cx X prog_9_method_17_code "EachBringsAnother$Search") (hn : xn X = 10) (hR : xR X = rmD 20) (hr : Rt X Qf ad prog_9_method_17_code 9) {k8 : Int → Int → Int → Wd → Option (Int × Wd)} (hk8 : ∀ (v3 v4 v5 : Int) (w : Wd), VF X Qf ad NF 0 0 w 8 [(0, (2, 29)), (1, (2, 6)), (2, (2, 25)), (3, (0, v3)), (4, (0, v4)), (5, (0, v5))] [] (k8 v3 v4 v5 w)) (v3 v4 v5 v6 s0 : Int) (w : Wd) : VF X Qf ad NF 0 0 w 79 [(0, (2, 29)), (1, (2, 6)), (2, (2, 25)), (3, (0, v3)), (4, (0, v4)), (5, (0, v5)), (6, (0, v6))] [(1, s0)] (f_S_lookBack_79 k8 v3 v4 v5 v6 s0 w) := by
  unfold f_S_lookBack_79
  refine vf_lstore C (i := 8) (L' := [(0, (2, 29)), (1, (2, 6)), (2, (2, 25)), (3, (0, v3)), (4, (0, v4)), (5, (0, v5)), (6, (0, v6))]) (zdg dz_S_lookBack_1 18 rfl) [0, 1, 2, 3, 4, 5, 6] (jrI rfl rfl) hn (by decide) ?_
  refine vf_aload_n C (f := 0) (zdg dz_S_lookBack_1 19 rfl) 1 rfl rfl ?_
  refine vf_getp C fl_S_22 sh_28 rfl (by decide) rfl (x := 33) rfl (zdg dz_S_lookBack_1 20 rfl) ?_
  refine vf_iload C (zdg dz_S_lookBack_1 21 rfl) 7 rfl ?_
  refine vf_lload C (zdg dz_S_lookBack_1 22 rfl) 0 rfl ?_
  refine vf_aload_n C (f := 0) (zdg dz_S_lookBack_1 23 rfl) 1 rfl rfl ?_
  refine vf_iload C (zdg dz_S_lookBack_2 0 rfl) 7 rfl ?_
  refine vf_aload_n C (f := 1) (zdg dz_S_lookBack_2 1 rfl) 2 rfl rfl ?_
  refine vf_aload_n C (f := 2) (zdg dz_S_lookBack_2 2 rfl) 3 rfl rfl ?_
  refine vf_callVl C cy_S_leftBehind ml_S_146 rfl (ct_S_leftBehind _ _) (S := [(1, s0), (0, v6), (2, 33)]) sh_28 (by decide) rfl (jrm_of hR rfl) rfl rfl (Nat.le_of_ble_eq_true rfl) (zdg dz_S_lookBack_2 3 rfl) (fun r5 u6 => ?_)
  refine vf_iconst C (z := 1) (zdg dz_S_lookBack_2 4 rfl) (jz rfl) ?_
  refine vf_lshl C (zdg dz_S_lookBack_2 5 rfl) ?_
  refine vf_lor C (zdg dz_S_lookBack_2 6 rfl) ?_
  refine vf_last C sh_32 (by decide) rfl (mz := 3000) rfl (zdg dz_S_lookBack_2 7 rfl) ?_
  generalize st u6 32 v6.toNat ((lor s0 (lshl r5 1))) = u7
  refine vf_uw ?_
  refine vf_iinc C (z := (-1)) (L' := [(0, (2, 29)), (1, (2, 6)), (2, (2, 25)), (3, (0, v3)), (4, (0, v4))]) (zdg dz_S_lookBack_2 8 rfl) 6 rfl [1, 2, 3, 4, 5] (jrI rfl rfl) hn (by decide) ?_
  generalize w32 (v5 + (-1)) = x8
  refine vf_ul ?_
  refine vf_goto C (off := (-96)) (tgt := 8) (zdg dz_S_lookBack_2 9 rfl) (by decide) ?_
  exact vf_perm [1, 2, 3, 4, 5, 0] rfl (hk8 _ _ _ _)
def f_S_lookBack_78 (k8 : Int → Int → Int → Wd → Option (Int × Wd)) (v3 v4 v5 v6 : Int) (w : Wd) : Option (Int × Wd) :=
  f_S_lookBack_79 k8 v3 v4 v5 v6 0 w
theorem t_S_lookBack_78 {X : jX} {Qf : Int × Wd → State → Prop} {ad : Nat → Nat} (C : Cx X prog_9_method_17_code "EachBringsAnother$Search") (hn : xn X = 10) (hR : xR X = rmD 20) (hr : Rt X Qf ad prog_9_method_17_code 9) {k8 : Int → Int → Int → Wd → Option (Int × Wd)} (hk8 : ∀ (v3 v4 v5 : Int) (w : Wd), VF X Qf ad NF 0 0 w 8 [(0, (2, 29)), (1, (2, 6)), (2, (2, 25)), (3, (0, v3)), (4, (0, v4)), (5, (0, v5))] [] (k8 v3 v4 v5 w)) (v3 v4 v5 v6 : Int) (w : Wd) : VF X Qf ad NF 0 0 w 78 [(0, (2, 29)), (1, (2, 6)), (2, (2, 25)), (3, (0, v3)), (4, (0, v4)), (5, (0, v5)), (6, (0, v6))] [] (f_S_lookBack_78 k8 v3 v4 v5 v6 w) := by
  unfold f_S_lookBack_78
  refine vf_lconst C (z := 0) (f := 0) (zdg dz_S_lookBack_1 17 rfl) (by decide +kernel) (jz1 rfl) ?_
  exact t_S_lookBack_79 C hn hR hr hk8 _ _ _ _ _ _
def f_S_lookBack_74 (k8 : Int → Int → Int → Wd → Option (Int × Wd)) (v3 v4 v5 v6 : Int) (w : Wd) : Option (Int × Wd) :=
  f_S_lookBack_79 k8 v3 v4 v5 v6 1 w
theorem t_S_lookBack_74 {X : jX} {Qf : Int × Wd → State → Prop} {ad : Nat → Nat} (C : Cx X prog_9_method_17_code "EachBringsAnother$Search") (hn : xn X = 10) (hR : xR X = rmD 20) (hr : Rt X Qf ad prog_9_method_17_code 9) {k8 : Int → Int → Int → Wd → Option (Int × Wd)} (hk8 : ∀ (v3 v4 v5 : Int) (w : Wd), VF X Qf ad NF 0 0 w 8 [(0, (2, 29)), (1, (2, 6)), (2, (2, 25)), (3, (0, v3)), (4, (0, v4)), (5, (0, v5))] [] (k8 v3 v4 v5 w)) (v3 v4 v5 v6 : Int) (w : Wd) : VF X Qf ad NF 0 0 w 74 [(0, (2, 29)), (1, (2, 6)), (2, (2, 25)), (3, (0, v3)), (4, (0, v4)), (5, (0, v5)), (6, (0, v6))] [] (f_S_lookBack_74 k8 v3 v4 v5 v6 w) := by
  unfold f_S_lookBack_74
  refine vf_lconst C (z := 1) (f := 1) (zdg dz_S_lookBack_1 15 rfl) (by decide +kernel) (jz1 rfl) ?_
  refine vf_goto C (off := 4) (tgt := 79) (zdg dz_S_lookBack_1 16 rfl) (by decide) ?_
  exact t_S_lookBack_79 C hn hR hr hk8 _ _ _ _ _ _
def f_S_lookBack_49 (k8 : Int → Int → Int → Wd → Option (Int × Wd)) (v3 v4 v5 v6 s0 : Int) (w : Wd) : Option (Int × Wd) :=
  if s0 = 0 then
    f_S_lookBack_78 k8 v3 v4 v5 v6 w
  else
    if v4 = (-1) then
      f_S_lookBack_74 k8 v3 v4 v5 v6 w
    else
      jcall (f_S_paidFor v6 w) fun r9 u10 =>
      if r9 = v4 then
        f_S_lookBack_74 k8 v3 v4 v5 v6 u10
      else
        f_S_lookBack_78 k8 v3 v4 v5 v6 u10
theorem t_S_lookBack_49 {X : jX} {Qf : Int × Wd → State → Prop} {ad : Nat → Nat} (C : Cx X prog_9_method_17_code "EachBringsAnother$Search") (hn : xn X = 10) (hR : xR X = rmD 20) (hr : Rt X Qf ad prog_9_method_17_code 9) {k8 : Int → Int → Int → Wd → Option (Int × Wd)} (hk8 : ∀ (v3 v4 v5 : Int) (w : Wd), VF X Qf ad NF 0 0 w 8 [(0, (2, 29)), (1, (2, 6)), (2, (2, 25)), (3, (0, v3)), (4, (0, v4)), (5, (0, v5))] [] (k8 v3 v4 v5 w)) (v3 v4 v5 v6 s0 : Int) (w : Wd) : VF X Qf ad NF 0 0 w 49 [(0, (2, 29)), (1, (2, 6)), (2, (2, 25)), (3, (0, v3)), (4, (0, v4)), (5, (0, v5)), (6, (0, v6))] [(0, s0)] (f_S_lookBack_49 k8 v3 v4 v5 v6 s0 w) := by
  unfold f_S_lookBack_49
  refine vf_istore C (i := 7) (L' := [(0, (2, 29)), (1, (2, 6)), (2, (2, 25)), (3, (0, v3)), (4, (0, v4)), (5, (0, v5)), (6, (0, v6))]) (zdg dz_S_lookBack_1 3 rfl) [0, 1, 2, 3, 4, 5, 6] (jrI rfl rfl) hn (by decide) ?_
  refine vf_iload C (zdg dz_S_lookBack_1 4 rfl) 0 rfl ?_
  refine vf_if_eq C (off := 25) (tgt := 78) (zdg dz_S_lookBack_1 5 rfl) (by decide) ?_ ?_
  · exact vf_perm [1, 2, 3, 4, 5, 6, 7] rfl (t_S_lookBack_78 C hn hR hr hk8 _ _ _ _ _)
  · refine vf_iload C (zdg dz_S_lookBack_1 6 rfl) 5 rfl ?_
    refine vf_iconst C (z := (-1)) (zdg dz_S_lookBack_1 7 rfl) (jz rfl) ?_
    refine vf_icmp_eq C (off := 15) (tgt := 74) (zdg dz_S_lookBack_1 8 rfl) (by decide) ?_ ?_
    · exact vf_perm [1, 2, 3, 4, 5, 6, 7] rfl (t_S_lookBack_74 C hn hR hr hk8 _ _ _ _ _)
    · refine vf_aload_n C (f := 0) (zdg dz_S_lookBack_1 9 rfl) 1 rfl rfl ?_
      refine vf_iload C (zdg dz_S_lookBack_1 10 rfl) 7 rfl ?_
      refine vf_aload_n C (f := 1) (zdg dz_S_lookBack_1 11 rfl) 2 rfl rfl ?_
      refine vf_callVi C cy_S_paidFor ml_S_138 rfl (ct_S_paidFor _ _) (S := []) sh_28 (by decide) rfl (jrm_of hR rfl) rfl rfl (Nat.le_of_ble_eq_true rfl) (zdg dz_S_lookBack_1 12 rfl) (fun r9 u10 => ?_)
      refine vf_iload C (zdg dz_S_lookBack_1 13 rfl) 5 rfl ?_
      refine vf_icmp_ne C (off := 7) (tgt := 78) (zdg dz_S_lookBack_1 14 rfl) (by decide) ?_ ?_
      · exact vf_perm [1, 2, 3, 4, 5, 6, 7] rfl (t_S_lookBack_78 C hn hR hr hk8 _ _ _ _ _)
      · exact vf_perm [1, 2, 3, 4, 5, 6, 7] rfl (t_S_lookBack_74 C hn hR hr hk8 _ _ _ _ _)
def f_S_lookBack_48 (k8 : Int → Int → Int → Wd → Option (Int × Wd)) (v3 v4 v5 v6 : Int) (w : Wd) : Option (Int × Wd) :=
  f_S_lookBack_49 k8 v3 v4 v5 v6 0 w
theorem t_S_lookBack_48 {X : jX} {Qf : Int × Wd → State → Prop} {ad : Nat → Nat} (C : Cx X prog_9_method_17_code "EachBringsAnother$Search") (hn : xn X = 10) (hR : xR X = rmD 20) (hr : Rt X Qf ad prog_9_method_17_code 9) {k8 : Int → Int → Int → Wd → Option (Int × Wd)} (hk8 : ∀ (v3 v4 v5 : Int) (w : Wd), VF X Qf ad NF 0 0 w 8 [(0, (2, 29)), (1, (2, 6)), (2, (2, 25)), (3, (0, v3)), (4, (0, v4)), (5, (0, v5))] [] (k8 v3 v4 v5 w)) (v3 v4 v5 v6 : Int) (w : Wd) : VF X Qf ad NF 0 0 w 48 [(0, (2, 29)), (1, (2, 6)), (2, (2, 25)), (3, (0, v3)), (4, (0, v4)), (5, (0, v5)), (6, (0, v6))] [] (f_S_lookBack_48 k8 v3 v4 v5 v6 w) := by
  unfold f_S_lookBack_48
  refine vf_iconst C (z := 0) (zdg dz_S_lookBack_1 2 rfl) (jz rfl) ?_
  exact t_S_lookBack_49 C hn hR hr hk8 _ _ _ _ _ _
def f_S_lookBack_8 : Nat → Int → Int → Int → Wd → Option (Int × Wd)
  | 0, _, _, _, _ => none
  | n + 1, v3, v4, v5, w =>
    if v5 < 0 then
      some (0, w)
    else
      jgd ((0 : Int) ≤ v5 ∧ v5 < 3000) <|
      jlet (w 35 v5.toNat) fun x2 =>
      jcall (f_S_guests x2 w) fun r3 u4 =>
      if r3 = 0 then
        f_S_lookBack_48 (f_S_lookBack_8 n) v3 v4 v5 x2 u4
      else
        jcall (f_S_guests x2 u4) fun r11 u12 =>
        if (iand v3 (ixor r11 (-1))) = 0 then
          f_S_lookBack_49 (f_S_lookBack_8 n) v3 v4 v5 x2 1 u12
        else
          f_S_lookBack_48 (f_S_lookBack_8 n) v3 v4 v5 x2 u12
theorem t_S_lookBack_8 {X : jX} {Qf : Int × Wd → State → Prop} {ad : Nat → Nat} (C : Cx X prog_9_method_17_code "EachBringsAnother$Search") (hn : xn X = 10) (hR : xR X = rmD 20) (hr : Rt X Qf ad prog_9_method_17_code 9) : ∀ (n : Nat) (v3 v4 v5 : Int) (w : Wd), VF X Qf ad NF 0 0 w 8 [(0, (2, 29)), (1, (2, 6)), (2, (2, 25)), (3, (0, v3)), (4, (0, v4)), (5, (0, v5))] [] (f_S_lookBack_8 n v3 v4 v5 w) := by
  intro n
  induction n with
  | zero => intros; exact vf_no
  | succ n ih =>
    intro v3 v4 v5 w
    rw [f_S_lookBack_8]
    refine vf_iload C (zdg dz_S_lookBack_0 5 rfl) 5 rfl ?_
    refine vf_if_lt C (off := 97) (tgt := 107) (zdg dz_S_lookBack_0 6 rfl) (by decide) ?_ ?_
    · exact hr _ _ _ _ (fun h => absurd h (by decide)) (zdg dz_S_lookBack_2 10 rfl)
    · refine vf_aload_n C (f := 0) (zdg dz_S_lookBack_0 7 rfl) 0 rfl rfl ?_
      refine vf_getp C fl_S_31 sh_28 rfl (by decide) rfl (x := 36) rfl (zdg dz_S_lookBack_0 8 rfl) ?_
      refine vf_iload C (zdg dz_S_lookBack_0 9 rfl) 5 rfl ?_
      refine vf_iald C sh_35 (by decide) rfl (mz := 3000) rfl (zdg dz_S_lookBack_0 10 rfl) ?_
      generalize w 35 v5.toNat = x2
      refine vf_ul ?_
      refine vf_istore C (i := 6) (L' := [(0, (2, 29)), (1, (2, 6)), (2, (2, 25)), (3, (0, v3)), (4, (0, v4)), (5, (0, v5))]) (zdg dz_S_lookBack_0 11 rfl) [0, 1, 2, 3, 4, 5] (jrI rfl rfl) hn (by decide) ?_
      refine vf_aload_n C (f := 0) (zdg dz_S_lookBack_0 12 rfl) 1 rfl rfl ?_
      refine vf_iload C (zdg dz_S_lookBack_0 13 rfl) 0 rfl ?_
      refine vf_callVi C cy_S_guests ml_S_70 rfl (ct_S_guests _ _) (S := []) sh_28 (by decide) rfl (jrm_of hR rfl) rfl rfl (Nat.le_of_ble_eq_true rfl) (zdg dz_S_lookBack_0 14 rfl) (fun r3 u4 => ?_)
      refine vf_if_eq C (off := 20) (tgt := 48) (zdg dz_S_lookBack_0 15 rfl) (by decide) ?_ ?_
      · exact vf_perm [1, 2, 3, 4, 5, 6, 0] rfl (t_S_lookBack_48 C hn hR hr ih _ _ _ _ _)
      · refine vf_iload_n C (f := 3) (zdg dz_S_lookBack_0 16 rfl) 4 rfl rfl ?_
        refine vf_aload_n C (f := 0) (zdg dz_S_lookBack_0 17 rfl) 1 rfl rfl ?_
        refine vf_iload C (zdg dz_S_lookBack_0 18 rfl) 0 rfl ?_
        refine vf_callVi C cy_S_guests ml_S_70 rfl (ct_S_guests _ _) (S := [(0, v3)]) sh_28 (by decide) rfl (jrm_of hR rfl) rfl rfl (Nat.le_of_ble_eq_true rfl) (zdg dz_S_lookBack_0 19 rfl) (fun r11 u12 => ?_)
        refine vf_iconst C (z := (-1)) (zdg dz_S_lookBack_0 20 rfl) (jz rfl) ?_
        refine vf_ixor C (zdg dz_S_lookBack_0 21 rfl) ?_
        refine vf_iand C (zdg dz_S_lookBack_0 22 rfl) ?_
        refine vf_if_ne C (off := 7) (tgt := 48) (zdg dz_S_lookBack_0 23 rfl) (by decide) ?_ ?_
        · exact vf_perm [1, 2, 3, 4, 5, 6, 0] rfl (t_S_lookBack_48 C hn hR hr ih _ _ _ _ _)
        · refine vf_iconst C (z := 1) (zdg dz_S_lookBack_1 0 rfl) (jz rfl) ?_
          refine vf_goto C (off := 4) (tgt := 49) (zdg dz_S_lookBack_1 1 rfl) (by decide) ?_
          exact vf_perm [1, 2, 3, 4, 5, 6, 0] rfl (t_S_lookBack_49 C hn hR hr ih _ _ _ _ _ _)
def f_S_lookBack (v3 v4 : Int) (w : Wd) : Option (Int × Wd) :=
  jlet (w32 ((w 28 8) - 1)) fun x1 =>
  f_S_lookBack_8 FU v3 v4 x1 w
theorem ct_S_lookBack (v3 v4 : Int) (w : Wd) : Ct y_S_lookBack prog_9_method_17_code 10 none 20 9 [(2, 29), (2, 6), (2, 25), (0, v3), (0, v4)] w (f_S_lookBack v3 v4 w) := by
  refine ct_of (by decide +kernel) (Or.inr (Or.inr (Or.inr ⟨rfl, rfl⟩))) (Nat.le_of_ble_eq_true rfl) ?_
  intro X Qf ad C hn hR hr
  unfold f_S_lookBack
  show VF X Qf ad NF 0 0 w 0 [(0, (2, 29)), (1, (2, 6)), (2, (2, 25)), (3, (0, v3)), (4, (0, v4))] [] _
  refine vf_aload_n C (f := 0) (zdg dz_S_lookBack_0 0 rfl) 0 rfl rfl ?_
  refine vf_get C (kd := 0) fl_S_54 sh_28 rfl (by decide) rfl rfl (zdg dz_S_lookBack_0 1 rfl) ?_
  refine vf_iconst C (z := 1) (zdg dz_S_lookBack_0 2 rfl) (jz rfl) ?_
  refine vf_isub C (zdg dz_S_lookBack_0 3 rfl) ?_
  generalize w32 ((w 28 8) - 1) = x1
  refine vf_ul ?_
  refine vf_istore C (i := 5) (L' := [(0, (2, 29)), (1, (2, 6)), (2, (2, 25)), (3, (0, v3)), (4, (0, v4))]) (zdg dz_S_lookBack_0 4 rfl) [0, 1, 2, 3, 4] (jrI rfl rfl) hn (by decide) ?_
  exact vf_perm [1, 2, 3, 4, 5, 0] rfl (t_S_lookBack_8 C hn hR hr FU _ _ _ _)
def f_S_leads (v1 v2 : Int) (w : Wd) : Option (Int × Wd) :=
  jcall (f_S_leftOf v1 w) fun r1 u2 =>
  if (lcmp (land (lshr r1 v2) 1) 0) = 0 then
    some (0, u2)
  else
    some (1, u2)
theorem ct_S_leads (v1 v2 : Int) (w : Wd) : Ct y_S_leads prog_9_method_20_code 3 (some .boolean) 3 4 [(2, 29), (0, v1), (0, v2)] w (f_S_leads v1 v2 w) := by
  refine ct_of (by decide +kernel) (Or.inr (Or.inr (Or.inl ⟨rfl, rfl⟩))) (Nat.le_of_ble_eq_true rfl) ?_
  intro X Qf ad C hn hR hr
  unfold f_S_leads
  show VF X Qf ad NF 0 0 w 0 [(0, (2, 29)), (1, (0, v1)), (2, (0, v2))] [] _
  refine vf_aload_n C (f := 0) (zdg dz_S_leads_0 0 rfl) 0 rfl rfl ?_
  refine vf_iload_n C (f := 1) (zdg dz_S_leads_0 1 rfl) 1 rfl rfl ?_
  refine vf_callVl C cy_S_leftOf ml_S_150 rfl (ct_S_leftOf _ _) (S := []) sh_28 (by decide) rfl (jrm_of hR rfl) rfl rfl (Nat.le_of_ble_eq_true rfl) (zdg dz_S_leads_0 2 rfl) (fun r1 u2 => ?_)
  refine vf_iload_n C (f := 2) (zdg dz_S_leads_0 3 rfl) 2 rfl rfl ?_
  refine vf_lshr C (zdg dz_S_leads_0 4 rfl) ?_
  refine vf_lconst C (z := 1) (f := 1) (zdg dz_S_leads_0 5 rfl) (by decide +kernel) (jz1 rfl) ?_
  refine vf_land C (zdg dz_S_leads_0 6 rfl) ?_
  refine vf_lconst C (z := 0) (f := 0) (zdg dz_S_leads_0 7 rfl) (by decide +kernel) (jz1 rfl) ?_
  refine vf_lcmp C (zdg dz_S_leads_0 8 rfl) ?_
  refine vf_if_eq C (off := 7) (tgt := 18) (zdg dz_S_leads_0 9 rfl) (by decide) ?_ ?_
  · refine vf_iconst C (z := 0) (zdg dz_S_leads_0 12 rfl) (jz rfl) ?_
    exact hr _ _ _ _ (fun _ => Or.inl rfl) (zdg dz_S_leads_0 13 rfl)
  · refine vf_iconst C (z := 1) (zdg dz_S_leads_0 10 rfl) (jz rfl) ?_
    refine vf_goto C (off := 4) (tgt := 19) (zdg dz_S_leads_0 11 rfl) (by decide) ?_
    exact hr _ _ _ _ (fun _ => Or.inr rfl) (zdg dz_S_leads_0 13 rfl)
def f_E_firstThatLeads_2 : Nat → Int → Int → Wd → Option (Int × Wd)
  | 0, _, _, _ => none
  | n + 1, v1, v2, w =>
    if (w 24 3) ≤ v2 then
      some ((-1), w)
    else
      jcall (f_M_moversOf v2 w) fun r1 u2 =>
      jcall (f_O_after (w 5 4) r1 (u2 5 7) u2) fun r3 u4 =>
      jcall (f_S_leads r3 (w32 (v1 - 1)) u4) fun r5 u6 =>
      if r5 = 0 then
        jlet (w32 (v2 + 1)) fun x7 =>
        f_E_firstThatLeads_2 n v1 x7 u6
      else
        some (v2, u6)
theorem t_E_firstThatLeads_2 {X : jX} {Qf : Int × Wd → State → Prop} {ad : Nat → Nat} (C : Cx X prog_1_method_56_code "EachBringsAnother") (hn : xn X = 4) (hR : xR X = rmD 4) (hr : Rt X Qf ad prog_1_method_56_code 0) : ∀ (n : Nat) (v1 v2 : Int) (w : Wd), VF X Qf ad NF 0 0 w 2 [(0, (2, 1)), (1, (0, v1)), (2, (0, v2))] [] (f_E_firstThatLeads_2 n v1 v2 w) := by
  intro n
  induction n with
  | zero => intros; exact vf_no
  | succ n ih =>
    intro v1 v2 w
    rw [f_E_firstThatLeads_2]
    refine vf_iload_n C (f := 2) (zdg dz_E_firstThatLeads_0 2 rfl) 2 rfl rfl ?_
    refine vf_aload_n C (f := 0) (zdg dz_E_firstThatLeads_0 3 rfl) 0 rfl rfl ?_
    refine vf_getp C fl_E_61 sh_0 rfl (by decide) rfl (x := 25) rfl (zdg dz_E_firstThatLeads_0 4 rfl) ?_
    refine vf_get C (kd := 0) fl_E_227 sh_24 rfl (by decide) rfl rfl (zdg dz_E_firstThatLeads_0 5 rfl) ?_
    refine vf_icmp_ge C (off := 51) (tgt := 61) (zdg dz_E_firstThatLeads_0 6 rfl) (by decide) ?_ ?_
    · refine vf_iconst C (z := (-1)) (zdg dz_E_firstThatLeads_1 7 rfl) (jz rfl) ?_
      exact hr _ _ _ _ (fun h => absurd h (by decide)) (zdg dz_E_firstThatLeads_1 8 rfl)
    · refine vf_aload_n C (f := 0) (zdg dz_E_firstThatLeads_0 7 rfl) 0 rfl rfl ?_
      refine vf_getp C fl_E_26 sh_0 rfl (by decide) rfl (x := 6) rfl (zdg dz_E_firstThatLeads_0 8 rfl) ?_
      refine vf_get C (kd := 0) fl_E_139 sh_5 rfl (by decide) rfl rfl (zdg dz_E_firstThatLeads_0 9 rfl) ?_
      refine vf_aload_n C (f := 0) (zdg dz_E_firstThatLeads_0 10 rfl) 0 rfl rfl ?_
      refine vf_getp C fl_E_61 sh_0 rfl (by decide) rfl (x := 25) rfl (zdg dz_E_firstThatLeads_0 11 rfl) ?_
      refine vf_iload_n C (f := 2) (zdg dz_E_firstThatLeads_0 12 rfl) 2 rfl rfl ?_
      refine vf_callVi C cy_M_moversOf ml_E_228 rfl (ct_M_moversOf _ _) (S := [(0, w 5 4)]) sh_24 (by decide) rfl (jrm_of hR rfl) rfl rfl (Nat.le_of_ble_eq_true rfl) (zdg dz_E_firstThatLeads_0 13 rfl) (fun r1 u2 => ?_)
      refine vf_aload_n C (f := 0) (zdg dz_E_firstThatLeads_0 14 rfl) 0 rfl rfl ?_
      refine vf_getp C fl_E_26 sh_0 rfl (by decide) rfl (x := 6) rfl (zdg dz_E_firstThatLeads_0 15 rfl) ?_
      refine vf_get C (kd := 0) fl_E_156 sh_5 rfl (by decide) rfl rfl (zdg dz_E_firstThatLeads_0 16 rfl) ?_
      refine vf_callSi C cy_O_after ml_E_381 (ct_O_after _ _ _ _) (S := []) (jrm_of hR rfl) rfl rfl (Nat.le_of_ble_eq_true rfl) (zdg dz_E_firstThatLeads_0 17 rfl) (fun r3 u4 => ?_)
      refine vf_istore_n C (f := 3) (L' := [(0, (2, 1)), (1, (0, v1)), (2, (0, v2))]) (zdg dz_E_firstThatLeads_0 18 rfl) [0, 1, 2] (jrI rfl rfl) hn (by decide) rfl ?_
      refine vf_aload_n C (f := 0) (zdg dz_E_firstThatLeads_0 19 rfl) 1 rfl rfl ?_
      refine vf_getp C fl_E_68 sh_0 rfl (by decide) rfl (x := 29) rfl (zdg dz_E_firstThatLeads_0 20 rfl) ?_
      refine vf_iload_n C (f := 3) (zdg dz_E_firstThatLeads_0 21 rfl) 0 rfl rfl ?_
      refine vf_iload_n C (f := 1) (zdg dz_E_firstThatLeads_0 22 rfl) 2 rfl rfl ?_
      refine vf_iconst C (z := 1) (zdg dz_E_firstThatLeads_0 23 rfl) (jz rfl) ?_
      refine vf_isub C (zdg dz_E_firstThatLeads_1 0 rfl) ?_
      refine vf_callVz C cy_S_leads ml_E_388 rfl (ct_S_leads _ _ _) (S := []) sh_28 (by decide) rfl (jrm_of hR rfl) rfl rfl (Nat.le_of_ble_eq_true rfl) (zdg dz_E_firstThatLeads_1 1 rfl) (fun r5 u6 => ?_)
      refine vf_if_eq C (off := 5) (tgt := 55) (zdg dz_E_firstThatLeads_1 2 rfl) (by decide) ?_ ?_
      · refine vf_iinc C (z := 1) (L' := [(0, (2, 1)), (1, (0, v1))]) (zdg dz_E_firstThatLeads_1 5 rfl) 3 rfl [1, 2] (jrI rfl rfl) hn (by decide) ?_
        generalize w32 (v2 + 1) = x7
        refine vf_ul ?_
        refine vf_goto C (off := (-56)) (tgt := 2) (zdg dz_E_firstThatLeads_1 6 rfl) (by decide) ?_
        exact vf_perm [1, 2, 0] rfl (ih _ _ _)
      · refine vf_iload_n C (f := 2) (zdg dz_E_firstThatLeads_1 3 rfl) 3 rfl rfl ?_
        exact hr _ _ _ _ (fun h => absurd h (by decide)) (zdg dz_E_firstThatLeads_1 4 rfl)
def f_E_firstThatLeads (v1 : Int) (w : Wd) : Option (Int × Wd) :=
  f_E_firstThatLeads_2 FU v1 0 w
theorem ct_E_firstThatLeads (v1 : Int) (w : Wd) : Ct y_E_firstThatLeads prog_1_method_56_code 4 (some .int) 4 0 [(2, 1), (0, v1)] w (f_E_firstThatLeads v1 w) := by
  refine ct_of (by decide +kernel) (Or.inl ⟨rfl, rfl⟩) (Nat.le_of_ble_eq_true rfl) ?_
  intro X Qf ad C hn hR hr
  unfold f_E_firstThatLeads
  show VF X Qf ad NF 0 0 w 0 [(0, (2, 1)), (1, (0, v1))] [] _
  refine vf_iconst C (z := 0) (zdg dz_E_firstThatLeads_0 0 rfl) (jz rfl) ?_
  refine vf_istore_n C (f := 2) (L' := [(0, (2, 1)), (1, (0, v1))]) (zdg dz_E_firstThatLeads_0 1 rfl) [0, 1] (jrI rfl rfl) hn (by decide) rfl ?_
  exact vf_perm [1, 2, 0] rfl (t_E_firstThatLeads_2 C hn hR hr FU _ _ _)
def f_E_tellFirstWeek (v1 : Int) (w : Wd) : Option (Int × Wd) :=
  jcall (f_M_gather (w 5 4) (w 5 8) w) fun r1 u2 =>
  jcall (f_E_firstThatLeads v1 u2) fun r3 u4 =>
  if r3 = (-1) then
    some (0, u4)
  else
    jcall (f_M_tellPairs r3 u4) fun r5 u6 =>
    some (0, u6)
theorem ct_E_tellFirstWeek (v1 : Int) (w : Wd) : Ct y_E_tellFirstWeek prog_1_method_55_code 3 none 19 9 [(2, 1), (0, v1)] w (f_E_tellFirstWeek v1 w) := by
  refine ct_of (by decide +kernel) (Or.inr (Or.inr (Or.inr ⟨rfl, rfl⟩))) (Nat.le_of_ble_eq_true rfl) ?_
  intro X Qf ad C hn hR hr
  unfold f_E_tellFirstWeek
  show VF X Qf ad NF 0 0 w 0 [(0, (2, 1)), (1, (0, v1))] [] _
  refine vf_aload_n C (f := 0) (zdg dz_E_tellFirstWeek_0 0 rfl) 0 rfl rfl ?_
  refine vf_getp C fl_E_61 sh_0 rfl (by decide) rfl (x := 25) rfl (zdg dz_E_tellFirstWeek_0 1 rfl) ?_
  refine vf_aload_n C (f := 0) (zdg dz_E_tellFirstWeek_0 2 rfl) 0 rfl rfl ?_
  refine vf_getp C fl_E_26 sh_0 rfl (by decide) rfl (x := 6) rfl (zdg dz_E_tellFirstWeek_0 3 rfl) ?_
  refine vf_aload_n C (f := 0) (zdg dz_E_tellFirstWeek_0 4 rfl) 0 rfl rfl ?_
  refine vf_getp C fl_E_26 sh_0 rfl (by decide) rfl (x := 6) rfl (zdg dz_E_tellFirstWeek_0 5 rfl) ?_
  refine vf_get C (kd := 0) fl_E_139 sh_5 rfl (by decide) rfl rfl (zdg dz_E_tellFirstWeek_0 6 rfl) ?_
  refine vf_aload_n C (f := 0) (zdg dz_E_tellFirstWeek_0 7 rfl) 0 rfl rfl ?_
  refine vf_getp C fl_E_26 sh_0 rfl (by decide) rfl (x := 6) rfl (zdg dz_E_tellFirstWeek_0 8 rfl) ?_
  refine vf_get C (kd := 0) fl_E_159 sh_5 rfl (by decide) rfl rfl (zdg dz_E_tellFirstWeek_0 9 rfl) ?_
  refine vf_callVv C cy_M_gather ml_E_223 rfl (ct_M_gather _ _ _) (S := []) sh_24 (by decide) rfl (jrm_of hR rfl) rfl rfl (Nat.le_of_ble_eq_true rfl) (zdg dz_E_tellFirstWeek_0 10 rfl) (fun r1 u2 => ?_)
  refine vf_aload_n C (f := 0) (zdg dz_E_tellFirstWeek_0 11 rfl) 0 rfl rfl ?_
  refine vf_iload_n C (f := 1) (zdg dz_E_tellFirstWeek_0 12 rfl) 1 rfl rfl ?_
  refine vf_callVi C cy_E_firstThatLeads ml_E_385 rfl (ct_E_firstThatLeads _ _) (S := []) sh_0 (by decide) rfl (jrm_of hR rfl) rfl rfl (Nat.le_of_ble_eq_true rfl) (zdg dz_E_tellFirstWeek_0 13 rfl) (fun r3 u4 => ?_)
  refine vf_istore_n C (f := 2) (L' := [(0, (2, 1))]) (zdg dz_E_tellFirstWeek_0 14 rfl) [0] (jrI rfl rfl) hn (by decide) rfl ?_
  refine vf_iload_n C (f := 2) (zdg dz_E_tellFirstWeek_0 15 rfl) 0 rfl rfl ?_
  refine vf_iconst C (z := (-1)) (zdg dz_E_tellFirstWeek_0 16 rfl) (jz rfl) ?_
  refine vf_icmp_eq C (off := 15) (tgt := 48) (zdg dz_E_tellFirstWeek_0 17 rfl) (by decide) ?_ ?_
  · exact hr _ _ _ _ (fun h => absurd h (by decide)) (zdg dz_E_tellFirstWeek_1 0 rfl)
  · refine vf_aload_n C (f := 0) (zdg dz_E_tellFirstWeek_0 18 rfl) 1 rfl rfl ?_
    refine vf_getp C fl_E_61 sh_0 rfl (by decide) rfl (x := 25) rfl (zdg dz_E_tellFirstWeek_0 19 rfl) ?_
    refine vf_iload_n C (f := 2) (zdg dz_E_tellFirstWeek_0 20 rfl) 0 rfl rfl ?_
    refine vf_aload_n C (f := 0) (zdg dz_E_tellFirstWeek_0 21 rfl) 1 rfl rfl ?_
    refine vf_getp C fl_E_19 sh_0 rfl (by decide) rfl (x := 4) rfl (zdg dz_E_tellFirstWeek_0 22 rfl) ?_
    refine vf_callVv C cy_M_tellPairs ml_E_240 rfl (ct_M_tellPairs _ _) (S := []) sh_24 (by decide) rfl (jrm_of hR rfl) rfl rfl (Nat.le_of_ble_eq_true rfl) (zdg dz_E_tellFirstWeek_0 23 rfl) (fun r5 u6 => ?_)
    exact hr _ _ _ _ (fun h => absurd h (by decide)) (zdg dz_E_tellFirstWeek_1 0 rfl)
def f_E_begin (w : Wd) : Option (Int × Wd) :=
  jcall (f_S_run w) fun r1 u2 =>
  if r1 = 0 then
    some ((-3), u2)
  else
    jcall (f_S_lastWeek 0 0 u2) fun r3 u4 =>
    if (0 : Int) < r3 then
      jcall (f_S_lookBack 0 (-1) u4) fun r5 u6 =>
      jcall (f_E_tellFirstWeek r3 u6) fun r7 u8 =>
      some (u8 3 1, u8)
    else
      some ((-2), u4)
theorem ct_E_begin (w : Wd) : Ct y_E_begin prog_1_method_26_code 2 (some .int) 21 0 [(2, 1)] w (f_E_begin w) := by
  refine ct_of (by decide +kernel) (Or.inl ⟨rfl, rfl⟩) (Nat.le_of_ble_eq_true rfl) ?_
  intro X Qf ad C hn hR hr
  unfold f_E_begin
  show VF X Qf ad NF 0 0 w 0 [(0, (2, 1))] [] _
  refine vf_aload_n C (f := 0) (zdg dz_E_begin_0 0 rfl) 0 rfl rfl ?_
  refine vf_getp C fl_E_68 sh_0 rfl (by decide) rfl (x := 29) rfl (zdg dz_E_begin_0 1 rfl) ?_
  refine vf_aload_n C (f := 0) (zdg dz_E_begin_0 2 rfl) 0 rfl rfl ?_
  refine vf_getp C fl_E_26 sh_0 rfl (by decide) rfl (x := 6) rfl (zdg dz_E_begin_0 3 rfl) ?_
  refine vf_aload_n C (f := 0) (zdg dz_E_begin_0 4 rfl) 0 rfl rfl ?_
  refine vf_getp C fl_E_61 sh_0 rfl (by decide) rfl (x := 25) rfl (zdg dz_E_begin_0 5 rfl) ?_
  refine vf_callVz C cy_S_run ml_E_256 rfl (ct_S_run _) (S := []) sh_28 (by decide) rfl (jrm_of hR rfl) rfl rfl (Nat.le_of_ble_eq_true rfl) (zdg dz_E_begin_0 6 rfl) (fun r1 u2 => ?_)
  refine vf_if_ne C (off := 6) (tgt := 21) (zdg dz_E_begin_0 7 rfl) (by decide) ?_ ?_
  · refine vf_aload_n C (f := 0) (zdg dz_E_begin_0 10 rfl) 0 rfl rfl ?_
    refine vf_getp C fl_E_68 sh_0 rfl (by decide) rfl (x := 29) rfl (zdg dz_E_begin_0 11 rfl) ?_
    refine vf_iconst C (z := 0) (zdg dz_E_begin_0 12 rfl) (jz rfl) ?_
    refine vf_iconst C (z := 0) (zdg dz_E_begin_0 13 rfl) (jz rfl) ?_
    refine vf_callVi C cy_S_lastWeek ml_E_296 rfl (ct_S_lastWeek _ _ _) (S := []) sh_28 (by decide) rfl (jrm_of hR rfl) rfl rfl (Nat.le_of_ble_eq_true rfl) (zdg dz_E_begin_0 14 rfl) (fun r3 u4 => ?_)
    refine vf_istore_n C (f := 1) (L' := [(0, (2, 1))]) (zdg dz_E_begin_0 15 rfl) [0] (jrI rfl rfl) hn (by decide) rfl ?_
    refine vf_iload_n C (f := 1) (zdg dz_E_begin_0 16 rfl) 0 rfl rfl ?_
    refine vf_if_gt C (off := 6) (tgt := 38) (zdg dz_E_begin_0 17 rfl) (by decide) ?_ ?_
    · refine vf_aload_n C (f := 0) (zdg dz_E_begin_0 20 rfl) 1 rfl rfl ?_
      refine vf_getp C fl_E_68 sh_0 rfl (by decide) rfl (x := 29) rfl (zdg dz_E_begin_0 21 rfl) ?_
      refine vf_aload_n C (f := 0) (zdg dz_E_begin_0 22 rfl) 1 rfl rfl ?_
      refine vf_getp C fl_E_26 sh_0 rfl (by decide) rfl (x := 6) rfl (zdg dz_E_begin_0 23 rfl) ?_
      refine vf_aload_n C (f := 0) (zdg dz_E_begin_1 0 rfl) 1 rfl rfl ?_
      refine vf_getp C fl_E_61 sh_0 rfl (by decide) rfl (x := 25) rfl (zdg dz_E_begin_1 1 rfl) ?_
      refine vf_iconst C (z := 0) (zdg dz_E_begin_1 2 rfl) (jz rfl) ?_
      refine vf_iconst C (z := (-1)) (zdg dz_E_begin_1 3 rfl) (jz rfl) ?_
      refine vf_callVv C cy_S_lookBack ml_E_299 rfl (ct_S_lookBack _ _ _) (S := []) sh_28 (by decide) rfl (jrm_of hR rfl) rfl rfl (Nat.le_of_ble_eq_true rfl) (zdg dz_E_begin_1 4 rfl) (fun r5 u6 => ?_)
      refine vf_aload_n C (f := 0) (zdg dz_E_begin_1 5 rfl) 1 rfl rfl ?_
      refine vf_iload_n C (f := 1) (zdg dz_E_begin_1 6 rfl) 0 rfl rfl ?_
      refine vf_callVv C cy_E_tellFirstWeek ml_E_303 rfl (ct_E_tellFirstWeek _ _) (S := []) sh_0 (by decide) rfl (jrm_of hR rfl) rfl rfl (Nat.le_of_ble_eq_true rfl) (zdg dz_E_begin_1 7 rfl) (fun r7 u8 => ?_)
      refine vf_aload_n C (f := 0) (zdg dz_E_begin_1 8 rfl) 1 rfl rfl ?_
      refine vf_getp C fl_E_19 sh_0 rfl (by decide) rfl (x := 4) rfl (zdg dz_E_begin_1 9 rfl) ?_
      refine vf_get C (kd := 0) fl_E_244 sh_3 rfl (by decide) rfl rfl (zdg dz_E_begin_1 10 rfl) ?_
      exact hr _ _ _ _ (fun h => absurd h (by decide)) (zdg dz_E_begin_1 11 rfl)
    · refine vf_bipush C (z := (-2)) (zdg dz_E_begin_0 18 rfl) (by decide +kernel) (jz rfl) ?_
      exact hr _ _ _ _ (fun h => absurd h (by decide)) (zdg dz_E_begin_0 19 rfl)
  · refine vf_bipush C (z := (-3)) (zdg dz_E_begin_0 8 rfl) (by decide +kernel) (jz rfl) ?_
    exact hr _ _ _ _ (fun h => absurd h (by decide)) (zdg dz_E_begin_0 9 rfl)
def f_E_cheap (v1 : Int) (w : Wd) : Option (Int × Wd) :=
  jcall (f_E_isWeek v1 w) fun r1 u2 =>
  if r1 = 0 then
    some ((-1), u2)
  else
    jcall (f_S_run u2) fun r3 u4 =>
    if r3 = 0 then
      some ((-3), u4)
    else
      jcall (f_S_leastPaid 0 v1 u4) fun r5 u6 =>
      if r5 = (-1) then
        some ((-2), u6)
      else
        if v1 = 0 then
          jcall (f_N_clear u6) fun r11 u12 =>
          some (r5, u12)
        else
          jcall (f_S_lookBack 0 r5 u6) fun r7 u8 =>
          jcall (f_E_tellFirstWeek v1 u8) fun r9 u10 =>
          some (r5, u10)
theorem ct_E_cheap (v1 : Int) (w : Wd) : Ct y_E_cheap prog_1_method_27_code 3 (some .int) 21 0 [(2, 1), (0, v1)] w (f_E_cheap v1 w) := by
  refine ct_of (by decide +kernel) (Or.inl ⟨rfl, rfl⟩) (Nat.le_of_ble_eq_true rfl) ?_
  intro X Qf ad C hn hR hr
  unfold f_E_cheap
  show VF X Qf ad NF 0 0 w 0 [(0, (2, 1)), (1, (0, v1))] [] _
  refine vf_iload_n C (f := 1) (zdg dz_E_cheap_0 0 rfl) 1 rfl rfl ?_
  refine vf_callSz C cy_E_isWeek ml_E_209 (ct_E_isWeek _ _) (S := []) (jrm_of hR rfl) rfl rfl (Nat.le_of_ble_eq_true rfl) (zdg dz_E_cheap_0 1 rfl) (fun r1 u2 => ?_)
  refine vf_if_ne C (off := 5) (tgt := 9) (zdg dz_E_cheap_0 2 rfl) (by decide) ?_ ?_
  · refine vf_aload_n C (f := 0) (zdg dz_E_cheap_0 5 rfl) 0 rfl rfl ?_
    refine vf_getp C fl_E_68 sh_0 rfl (by decide) rfl (x := 29) rfl (zdg dz_E_cheap_0 6 rfl) ?_
    refine vf_aload_n C (f := 0) (zdg dz_E_cheap_0 7 rfl) 0 rfl rfl ?_
    refine vf_getp C fl_E_26 sh_0 rfl (by decide) rfl (x := 6) rfl (zdg dz_E_cheap_0 8 rfl) ?_
    refine vf_aload_n C (f := 0) (zdg dz_E_cheap_0 9 rfl) 0 rfl rfl ?_
    refine vf_getp C fl_E_61 sh_0 rfl (by decide) rfl (x := 25) rfl (zdg dz_E_cheap_0 10 rfl) ?_
    refine vf_callVz C cy_S_run ml_E_256 rfl (ct_S_run _) (S := []) sh_28 (by decide) rfl (jrm_of hR rfl) rfl rfl (Nat.le_of_ble_eq_true rfl) (zdg dz_E_cheap_0 11 rfl) (fun r3 u4 => ?_)
    refine vf_if_ne C (off := 6) (tgt := 30) (zdg dz_E_cheap_0 12 rfl) (by decide) ?_ ?_
    · refine vf_aload_n C (f := 0) (zdg dz_E_cheap_0 15 rfl) 0 rfl rfl ?_
      refine vf_getp C fl_E_68 sh_0 rfl (by decide) rfl (x := 29) rfl (zdg dz_E_cheap_0 16 rfl) ?_
      refine vf_iconst C (z := 0) (zdg dz_E_cheap_0 17 rfl) (jz rfl) ?_
      refine vf_iload_n C (f := 1) (zdg dz_E_cheap_0 18 rfl) 1 rfl rfl ?_
      refine vf_aload_n C (f := 0) (zdg dz_E_cheap_0 19 rfl) 0 rfl rfl ?_
      refine vf_getp C fl_E_26 sh_0 rfl (by decide) rfl (x := 6) rfl (zdg dz_E_cheap_0 20 rfl) ?_
      refine vf_callVi C cy_S_leastPaid ml_E_292 rfl (ct_S_leastPaid _ _ _) (S := []) sh_28 (by decide) rfl (jrm_of hR rfl) rfl rfl (Nat.le_of_ble_eq_true rfl) (zdg dz_E_cheap_0 21 rfl) (fun r5 u6 => ?_)
      refine vf_istore_n C (f := 2) (L' := [(0, (2, 1)), (1, (0, v1))]) (zdg dz_E_cheap_0 22 rfl) [0, 1] (jrI rfl rfl) hn (by decide) rfl ?_
      refine vf_iload_n C (f := 2) (zdg dz_E_cheap_0 23 rfl) 0 rfl rfl ?_
      refine vf_iconst C (z := (-1)) (zdg dz_E_cheap_1 0 rfl) (jz rfl) ?_
      refine vf_icmp_ne C (off := 6) (tgt := 52) (zdg dz_E_cheap_1 1 rfl) (by decide) ?_ ?_
      · refine vf_iload_n C (f := 1) (zdg dz_E_cheap_1 4 rfl) 2 rfl rfl ?_
        refine vf_if_ne C (off := 12) (tgt := 65) (zdg dz_E_cheap_1 5 rfl) (by decide) ?_ ?_
        · refine vf_aload_n C (f := 0) (zdg dz_E_cheap_1 11 rfl) 1 rfl rfl ?_
          refine vf_getp C fl_E_68 sh_0 rfl (by decide) rfl (x := 29) rfl (zdg dz_E_cheap_1 12 rfl) ?_
          refine vf_aload_n C (f := 0) (zdg dz_E_cheap_1 13 rfl) 1 rfl rfl ?_
          refine vf_getp C fl_E_26 sh_0 rfl (by decide) rfl (x := 6) rfl (zdg dz_E_cheap_1 14 rfl) ?_
          refine vf_aload_n C (f := 0) (zdg dz_E_cheap_1 15 rfl) 1 rfl rfl ?_
          refine vf_getp C fl_E_61 sh_0 rfl (by decide) rfl (x := 25) rfl (zdg dz_E_cheap_1 16 rfl) ?_
          refine vf_iconst C (z := 0) (zdg dz_E_cheap_1 17 rfl) (jz rfl) ?_
          refine vf_iload_n C (f := 2) (zdg dz_E_cheap_1 18 rfl) 0 rfl rfl ?_
          refine vf_callVv C cy_S_lookBack ml_E_299 rfl (ct_S_lookBack _ _ _) (S := []) sh_28 (by decide) rfl (jrm_of hR rfl) rfl rfl (Nat.le_of_ble_eq_true rfl) (zdg dz_E_cheap_1 19 rfl) (fun r7 u8 => ?_)
          refine vf_aload_n C (f := 0) (zdg dz_E_cheap_1 20 rfl) 1 rfl rfl ?_
          refine vf_iload_n C (f := 1) (zdg dz_E_cheap_1 21 rfl) 2 rfl rfl ?_
          refine vf_callVv C cy_E_tellFirstWeek ml_E_303 rfl (ct_E_tellFirstWeek _ _) (S := []) sh_0 (by decide) rfl (jrm_of hR rfl) rfl rfl (Nat.le_of_ble_eq_true rfl) (zdg dz_E_cheap_1 22 rfl) (fun r9 u10 => ?_)
          refine vf_iload_n C (f := 2) (zdg dz_E_cheap_1 23 rfl) 0 rfl rfl ?_
          exact hr _ _ _ _ (fun h => absurd h (by decide)) (zdg dz_E_cheap_2 0 rfl)
        · refine vf_aload_n C (f := 0) (zdg dz_E_cheap_1 6 rfl) 1 rfl rfl ?_
          refine vf_getp C fl_E_19 sh_0 rfl (by decide) rfl (x := 4) rfl (zdg dz_E_cheap_1 7 rfl) ?_
          refine vf_callVv C cy_N_clear ml_E_306 rfl (ct_N_clear _) (S := []) sh_3 (by decide) rfl (jrm_of hR rfl) rfl rfl (Nat.le_of_ble_eq_true rfl) (zdg dz_E_cheap_1 8 rfl) (fun r11 u12 => ?_)
          refine vf_iload_n C (f := 2) (zdg dz_E_cheap_1 9 rfl) 0 rfl rfl ?_
          exact hr _ _ _ _ (fun h => absurd h (by decide)) (zdg dz_E_cheap_1 10 rfl)
      · refine vf_bipush C (z := (-2)) (zdg dz_E_cheap_1 2 rfl) (by decide +kernel) (jz rfl) ?_
        exact hr _ _ _ _ (fun h => absurd h (by decide)) (zdg dz_E_cheap_1 3 rfl)
    · refine vf_bipush C (z := (-3)) (zdg dz_E_cheap_0 13 rfl) (by decide +kernel) (jz rfl) ?_
      exact hr _ _ _ _ (fun h => absurd h (by decide)) (zdg dz_E_cheap_0 14 rfl)
  · refine vf_iconst C (z := (-1)) (zdg dz_E_cheap_0 3 rfl) (jz rfl) ?_
    exact hr _ _ _ _ (fun h => absurd h (by decide)) (zdg dz_E_cheap_0 4 rfl)
def f_M_gatherBehind_34 (v3 : Int) (w : Wd) : Option (Int × Wd) :=
  jcall (f_M_spread 16 0 v3 (-1) w) fun r3 u4 =>
  some (0, u4)
theorem t_M_gatherBehind_34 {X : jX} {Qf : Int × Wd → State → Prop} {ad : Nat → Nat} (C : Cx X prog_6_method_3_code "EachBringsAnother$Moves") (hn : xn X = 4) (hR : xR X = rmD 18) (hr : Rt X Qf ad prog_6_method_3_code 9) (v3 : Int) (w : Wd) : VF X Qf ad NF 0 0 w 34 [(0, (2, 25)), (3, (0, v3))] [] (f_M_gatherBehind_34 v3 w) := by
  unfold f_M_gatherBehind_34
  refine vf_aload_n C (f := 0) (zdg dz_M_gatherBehind_0 18 rfl) 0 rfl rfl ?_
  refine vf_iconst C (z := 0) (zdg dz_M_gatherBehind_0 19 rfl) (jz rfl) ?_
  refine vf_iload_n C (f := 3) (zdg dz_M_gatherBehind_0 20 rfl) 1 rfl rfl ?_
  refine vf_iconst C (z := (-1)) (zdg dz_M_gatherBehind_0 21 rfl) (jz rfl) ?_
  refine vf_callVv C cy_M_spread ml_M_31 rfl (ct_M_spread _ _ _ _) (S := []) sh_24 (by decide) rfl (jrm_of hR rfl) rfl rfl (Nat.le_of_ble_eq_true rfl) (zdg dz_M_gatherBehind_0 22 rfl) (fun r3 u4 => ?_)
  exact hr _ _ _ _ (fun h => absurd h (by decide)) (zdg dz_M_gatherBehind_0 23 rfl)
def f_M_gatherBehind (v2 v3 : Int) (w : Wd) : Option (Int × Wd) :=
  jcall (f_M_prepare (w 5 4) v2 (w 5 8) w) fun r1 u2 =>
  if v3 = 0 then
    f_M_gatherBehind_34 v3 u2
  else
    jcall (f_JI_bitCount (ior (u2 24 8) v3) u2) fun r5 u6 =>
    if (u6 24 9) < r5 then
      some (0, u6)
    else
      f_M_gatherBehind_34 v3 u6
theorem ct_M_gatherBehind (v2 v3 : Int) (w : Wd) : Ct y_M_gatherBehind prog_6_method_3_code 4 none 18 9 [(2, 25), (2, 6), (0, v2), (0, v3)] w (f_M_gatherBehind v2 v3 w) := by
  refine ct_of (by decide +kernel) (Or.inr (Or.inr (Or.inr ⟨rfl, rfl⟩))) (Nat.le_of_ble_eq_true rfl) ?_
  intro X Qf ad C hn hR hr
  unfold f_M_gatherBehind
  show VF X Qf ad NF 0 0 w 0 [(0, (2, 25)), (1, (2, 6)), (2, (0, v2)), (3, (0, v3))] [] _
  refine vf_aload_n C (f := 0) (zdg dz_M_gatherBehind_0 0 rfl) 0 rfl rfl ?_
  refine vf_aload_n C (f := 1) (zdg dz_M_gatherBehind_0 1 rfl) 1 rfl rfl ?_
  refine vf_aload_n C (f := 1) (zdg dz_M_gatherBehind_0 2 rfl) 1 rfl rfl ?_
  refine vf_get C (kd := 0) fl_M_35 sh_5 rfl (by decide) rfl rfl (zdg dz_M_gatherBehind_0 3 rfl) ?_
  refine vf_iload_n C (f := 2) (zdg dz_M_gatherBehind_0 4 rfl) 2 rfl rfl ?_
  refine vf_aload_n C (f := 1) (zdg dz_M_gatherBehind_0 5 rfl) 1 rfl rfl ?_
  refine vf_get C (kd := 0) fl_M_41 sh_5 rfl (by decide) rfl rfl (zdg dz_M_gatherBehind_0 6 rfl) ?_
  refine vf_callVv C cy_M_prepare ml_M_27 rfl (ct_M_prepare _ _ _ _) (S := []) sh_24 (by decide) rfl (jrm_of hR rfl) rfl rfl (Nat.le_of_ble_eq_true rfl) (zdg dz_M_gatherBehind_0 7 rfl) (fun r1 u2 => ?_)
  refine vf_iload_n C (f := 3) (zdg dz_M_gatherBehind_0 8 rfl) 3 rfl rfl ?_
  refine vf_if_eq C (off := 19) (tgt := 34) (zdg dz_M_gatherBehind_0 9 rfl) (by decide) ?_ ?_
  · exact vf_perm [0, 3] rfl (t_M_gatherBehind_34 C hn hR hr _ _)
  · refine vf_aload_n C (f := 0) (zdg dz_M_gatherBehind_0 10 rfl) 0 rfl rfl ?_
    refine vf_get C (kd := 0) fl_M_44 sh_24 rfl (by decide) rfl rfl (zdg dz_M_gatherBehind_0 11 rfl) ?_
    refine vf_iload_n C (f := 3) (zdg dz_M_gatherBehind_0 12 rfl) 3 rfl rfl ?_
    refine vf_ior C (zdg dz_M_gatherBehind_0 13 rfl) ?_
    refine vf_callSi C cy_JI_bitCount ml_M_47 (ct_JI_bitCount _ _) (S := []) (jrm_of hR rfl) rfl rfl (Nat.le_of_ble_eq_true rfl) (zdg dz_M_gatherBehind_0 14 rfl) (fun r5 u6 => ?_)
    refine vf_aload_n C (f := 0) (zdg dz_M_gatherBehind_0 15 rfl) 0 rfl rfl ?_
    refine vf_get C (kd := 0) fl_M_52 sh_24 rfl (by decide) rfl rfl (zdg dz_M_gatherBehind_0 16 rfl) ?_
    refine vf_icmp_gt C (off := 10) (tgt := 41) (zdg dz_M_gatherBehind_0 17 rfl) (by decide) ?_ ?_
    · exact hr _ _ _ _ (fun h => absurd h (by decide)) (zdg dz_M_gatherBehind_0 23 rfl)
    · exact vf_perm [0, 3] rfl (t_M_gatherBehind_34 C hn hR hr _ _)
def f_E_firstToBring_111 (k41 : Int → Int → Int → Int → Wd → Option (Int × Wd)) (v1 v2 v3 v4 : Int) (w : Wd) : Option (Int × Wd) :=
  jlet (w32 (v4 + 1)) fun x14 =>
  k41 v1 v2 v3 x14 w
theorem t_E_firstToBring_111 {X : jX} {Qf : Int × Wd → State → Prop} {ad : Nat → Nat} (C : Cx X prog_1_method_57_code "EachBringsAnother") (hn : xn X = 5) (hR : xR X = rmD 19) (hr : Rt X Qf ad prog_1_method_57_code 0) {k41 : Int → Int → Int → Int → Wd → Option (Int × Wd)} (hk41 : ∀ (v1 v2 v3 v4 : Int) (w : Wd), VF X Qf ad NF 0 0 w 41 [(0, (2, 1)), (1, (0, v1)), (2, (0, v2)), (3, (0, v3)), (4, (0, v4))] [] (k41 v1 v2 v3 v4 w)) (v1 v2 v3 v4 : Int) (w : Wd) : VF X Qf ad NF 0 0 w 111 [(0, (2, 1)), (1, (0, v1)), (2, (0, v2)), (3, (0, v3)), (4, (0, v4))] [] (f_E_firstToBring_111 k41 v1 v2 v3 v4 w) := by
  unfold f_E_firstToBring_111
  refine vf_iinc C (z := 1) (L' := [(0, (2, 1)), (1, (0, v1)), (2, (0, v2)), (3, (0, v3))]) (zdg dz_E_firstToBring_2 16 rfl) 4 rfl [0, 1, 2, 3] (jrI rfl rfl) hn (by decide) ?_
  generalize w32 (v4 + 1) = x14
  refine vf_ul ?_
  refine vf_goto C (off := (-73)) (tgt := 41) (zdg dz_E_firstToBring_2 17 rfl) (by decide) ?_
  exact vf_perm [1, 2, 3, 4, 0] rfl (hk41 _ _ _ _ _)
def f_E_firstToBring_41 : Nat → Int → Int → Int → Int → Wd → Option (Int × Wd)
  | 0, _, _, _, _, _ => none
  | n + 1, v1, v2, v3, v4, w =>
    if (w 5 3) ≤ v4 then
      some ((-1), w)
    else
      jcall (f_F_knownBy (ishl 1 v1) w) fun r8 u9 =>
      jcall (f_F_free u9) fun r10 u11 =>
      jcall (f_E_has (iand r8 r10) v4 u11) fun r12 u13 =>
      if r12 = 0 then
        f_E_firstToBring_111 (f_E_firstToBring_41 n) v1 v2 v3 v4 u13
      else
        jcall (f_M_gatherBehind v3 (ior (ishl 1 v1) (ishl 1 v4)) u13) fun r15 u16 =>
        jcall (f_E_firstThatLeads v2 u16) fun r17 u18 =>
        if r17 = (-1) then
          f_E_firstToBring_111 (f_E_firstToBring_41 n) v1 v2 v3 v4 u18
        else
          some (v4, u18)
theorem t_E_firstToBring_41 {X : jX} {Qf : Int × Wd → State → Prop} {ad : Nat → Nat} (C : Cx X prog_1_method_57_code "EachBringsAnother") (hn : xn X = 5) (hR : xR X = rmD 19) (hr : Rt X Qf ad prog_1_method_57_code 0) : ∀ (n : Nat) (v1 v2 v3 v4 : Int) (w : Wd), VF X Qf ad NF 0 0 w 41 [(0, (2, 1)), (1, (0, v1)), (2, (0, v2)), (3, (0, v3)), (4, (0, v4))] [] (f_E_firstToBring_41 n v1 v2 v3 v4 w) := by
  intro n
  induction n with
  | zero => intros; exact vf_no
  | succ n ih =>
    intro v1 v2 v3 v4 w
    rw [f_E_firstToBring_41]
    refine vf_iload C (zdg dz_E_firstToBring_1 2 rfl) 4 rfl ?_
    refine vf_aload_n C (f := 0) (zdg dz_E_firstToBring_1 3 rfl) 0 rfl rfl ?_
    refine vf_getp C fl_E_26 sh_0 rfl (by decide) rfl (x := 6) rfl (zdg dz_E_firstToBring_1 4 rfl) ?_
    refine vf_get C (kd := 0) fl_E_87 sh_5 rfl (by decide) rfl rfl (zdg dz_E_firstToBring_1 5 rfl) ?_
    refine vf_icmp_ge C (off := 67) (tgt := 117) (zdg dz_E_firstToBring_1 6 rfl) (by decide) ?_ ?_
    · refine vf_iconst C (z := (-1)) (zdg dz_E_firstToBring_2 18 rfl) (jz rfl) ?_
      exact hr _ _ _ _ (fun h => absurd h (by decide)) (zdg dz_E_firstToBring_2 19 rfl)
    · refine vf_aload_n C (f := 0) (zdg dz_E_firstToBring_1 7 rfl) 0 rfl rfl ?_
      refine vf_getp C fl_E_26 sh_0 rfl (by decide) rfl (x := 6) rfl (zdg dz_E_firstToBring_1 8 rfl) ?_
      refine vf_iconst C (z := 1) (zdg dz_E_firstToBring_1 9 rfl) (jz rfl) ?_
      refine vf_iload_n C (f := 1) (zdg dz_E_firstToBring_1 10 rfl) 1 rfl rfl ?_
      refine vf_ishl C (zdg dz_E_firstToBring_1 11 rfl) ?_
      refine vf_callVi C cy_F_knownBy ml_E_250 rfl (ct_F_knownBy _ _) (S := []) sh_5 (by decide) rfl (jrm_of hR rfl) rfl rfl (Nat.le_of_ble_eq_true rfl) (zdg dz_E_firstToBring_1 12 rfl) (fun r8 u9 => ?_)
      refine vf_aload_n C (f := 0) (zdg dz_E_firstToBring_1 13 rfl) 0 rfl rfl ?_
      refine vf_getp C fl_E_26 sh_0 rfl (by decide) rfl (x := 6) rfl (zdg dz_E_firstToBring_1 14 rfl) ?_
      refine vf_callVi C cy_F_free ml_E_253 rfl (ct_F_free _) (S := [(0, r8)]) sh_5 (by decide) rfl (jrm_of hR rfl) rfl rfl (Nat.le_of_ble_eq_true rfl) (zdg dz_E_firstToBring_1 15 rfl) (fun r10 u11 => ?_)
      refine vf_iand C (zdg dz_E_firstToBring_1 16 rfl) ?_
      refine vf_iload C (zdg dz_E_firstToBring_1 17 rfl) 4 rfl ?_
      refine vf_callSz C cy_E_has ml_E_128 (ct_E_has _ _ _) (S := []) (jrm_of hR rfl) rfl rfl (Nat.le_of_ble_eq_true rfl) (zdg dz_E_firstToBring_1 18 rfl) (fun r12 u13 => ?_)
      refine vf_if_eq C (off := 35) (tgt := 111) (zdg dz_E_firstToBring_1 19 rfl) (by decide) ?_ ?_
      · exact t_E_firstToBring_111 C hn hR hr ih _ _ _ _ _
      · refine vf_aload_n C (f := 0) (zdg dz_E_firstToBring_1 20 rfl) 0 rfl rfl ?_
        refine vf_getp C fl_E_61 sh_0 rfl (by decide) rfl (x := 25) rfl (zdg dz_E_firstToBring_1 21 rfl) ?_
        refine vf_aload_n C (f := 0) (zdg dz_E_firstToBring_1 22 rfl) 0 rfl rfl ?_
        refine vf_getp C fl_E_26 sh_0 rfl (by decide) rfl (x := 6) rfl (zdg dz_E_firstToBring_1 23 rfl) ?_
        refine vf_iload_n C (f := 3) (zdg dz_E_firstToBring_2 0 rfl) 3 rfl rfl ?_
        refine vf_iconst C (z := 1) (zdg dz_E_firstToBring_2 1 rfl) (jz rfl) ?_
        refine vf_iload_n C (f := 1) (zdg dz_E_firstToBring_2 2 rfl) 1 rfl rfl ?_
        refine vf_ishl C (zdg dz_E_firstToBring_2 3 rfl) ?_
        refine vf_iconst C (z := 1) (zdg dz_E_firstToBring_2 4 rfl) (jz rfl) ?_
        refine vf_iload C (zdg dz_E_firstToBring_2 5 rfl) 4 rfl ?_
        refine vf_ishl C (zdg dz_E_firstToBring_2 6 rfl) ?_
        refine vf_ior C (zdg dz_E_firstToBring_2 7 rfl) ?_
        refine vf_callVv C cy_M_gatherBehind ml_E_391 rfl (ct_M_gatherBehind _ _ _) (S := []) sh_24 (by decide) rfl (jrm_of hR rfl) rfl rfl (Nat.le_of_ble_eq_true rfl) (zdg dz_E_firstToBring_2 8 rfl) (fun r15 u16 => ?_)
        refine vf_aload_n C (f := 0) (zdg dz_E_firstToBring_2 9 rfl) 0 rfl rfl ?_
        refine vf_iload_n C (f := 2) (zdg dz_E_firstToBring_2 10 rfl) 2 rfl rfl ?_
        refine vf_callVi C cy_E_firstThatLeads ml_E_385 rfl (ct_E_firstThatLeads _ _) (S := []) sh_0 (by decide) rfl (jrm_of hR rfl) rfl rfl (Nat.le_of_ble_eq_true rfl) (zdg dz_E_firstToBring_2 11 rfl) (fun r17 u18 => ?_)
        refine vf_iconst C (z := (-1)) (zdg dz_E_firstToBring_2 12 rfl) (jz rfl) ?_
        refine vf_icmp_eq C (off := 6) (tgt := 111) (zdg dz_E_firstToBring_2 13 rfl) (by decide) ?_ ?_
        · exact t_E_firstToBring_111 C hn hR hr ih _ _ _ _ _
        · refine vf_iload C (zdg dz_E_firstToBring_2 14 rfl) 4 rfl ?_
          exact hr _ _ _ _ (fun h => absurd h (by decide)) (zdg dz_E_firstToBring_2 15 rfl)
def f_E_firstToBring (v1 v2 : Int) (w : Wd) : Option (Int × Wd) :=
  jcall (f_F_guests w) fun r1 u2 =>
  jlet (iand r1 (ixor (ishl 1 v1) (-1))) fun x3 =>
  jcall (f_M_gatherBehind x3 0 u2) fun r4 u5 =>
  jcall (f_E_firstThatLeads v2 u5) fun r6 u7 =>
  if r6 = (-1) then
    f_E_firstToBring_41 FU v1 v2 x3 0 u7
  else
    some ((-1), u7)
theorem ct_E_firstToBring (v1 v2 : Int) (w : Wd) : Ct y_E_firstToBring prog_1_method_57_code 5 (some .int) 19 0 [(2, 1), (0, v1), (0, v2)] w (f_E_firstToBring v1 v2 w) := by
  refine ct_of (by decide +kernel) (Or.inl ⟨rfl, rfl⟩) (Nat.le_of_ble_eq_true rfl) ?_
  intro X Qf ad C hn hR hr
  unfold f_E_firstToBring
  show VF X Qf ad NF 0 0 w 0 [(0, (2, 1)), (1, (0, v1)), (2, (0, v2))] [] _
  refine vf_aload_n C (f := 0) (zdg dz_E_firstToBring_0 0 rfl) 0 rfl rfl ?_
  refine vf_getp C fl_E_26 sh_0 rfl (by decide) rfl (x := 6) rfl (zdg dz_E_firstToBring_0 1 rfl) ?_
  refine vf_callVi C cy_F_guests ml_E_136 rfl (ct_F_guests _) (S := []) sh_5 (by decide) rfl (jrm_of hR rfl) rfl rfl (Nat.le_of_ble_eq_true rfl) (zdg dz_E_firstToBring_0 2 rfl) (fun r1 u2 => ?_)
  refine vf_iconst C (z := 1) (zdg dz_E_firstToBring_0 3 rfl) (jz rfl) ?_
  refine vf_iload_n C (f := 1) (zdg dz_E_firstToBring_0 4 rfl) 1 rfl rfl ?_
  refine vf_ishl C (zdg dz_E_firstToBring_0 5 rfl) ?_
  refine vf_iconst C (z := (-1)) (zdg dz_E_firstToBring_0 6 rfl) (jz rfl) ?_
  refine vf_ixor C (zdg dz_E_firstToBring_0 7 rfl) ?_
  refine vf_iand C (zdg dz_E_firstToBring_0 8 rfl) ?_
  generalize iand r1 (ixor (ishl 1 v1) (-1)) = x3
  refine vf_ul ?_
  refine vf_istore_n C (f := 3) (L' := [(0, (2, 1)), (1, (0, v1)), (2, (0, v2))]) (zdg dz_E_firstToBring_0 9 rfl) [0, 1, 2] (jrI rfl rfl) hn (by decide) rfl ?_
  refine vf_aload_n C (f := 0) (zdg dz_E_firstToBring_0 10 rfl) 1 rfl rfl ?_
  refine vf_getp C fl_E_61 sh_0 rfl (by decide) rfl (x := 25) rfl (zdg dz_E_firstToBring_0 11 rfl) ?_
  refine vf_aload_n C (f := 0) (zdg dz_E_firstToBring_0 12 rfl) 1 rfl rfl ?_
  refine vf_getp C fl_E_26 sh_0 rfl (by decide) rfl (x := 6) rfl (zdg dz_E_firstToBring_0 13 rfl) ?_
  refine vf_iload_n C (f := 3) (zdg dz_E_firstToBring_0 14 rfl) 0 rfl rfl ?_
  refine vf_iconst C (z := 0) (zdg dz_E_firstToBring_0 15 rfl) (jz rfl) ?_
  refine vf_callVv C cy_M_gatherBehind ml_E_391 rfl (ct_M_gatherBehind _ _ _) (S := []) sh_24 (by decide) rfl (jrm_of hR rfl) rfl rfl (Nat.le_of_ble_eq_true rfl) (zdg dz_E_firstToBring_0 16 rfl) (fun r4 u5 => ?_)
  refine vf_aload_n C (f := 0) (zdg dz_E_firstToBring_0 17 rfl) 1 rfl rfl ?_
  refine vf_iload_n C (f := 2) (zdg dz_E_firstToBring_0 18 rfl) 3 rfl rfl ?_
  refine vf_callVi C cy_E_firstThatLeads ml_E_385 rfl (ct_E_firstThatLeads _ _) (S := []) sh_0 (by decide) rfl (jrm_of hR rfl) rfl rfl (Nat.le_of_ble_eq_true rfl) (zdg dz_E_firstToBring_0 19 rfl) (fun r6 u7 => ?_)
  refine vf_iconst C (z := (-1)) (zdg dz_E_firstToBring_0 20 rfl) (jz rfl) ?_
  refine vf_icmp_eq C (off := 5) (tgt := 38) (zdg dz_E_firstToBring_0 21 rfl) (by decide) ?_ ?_
  · refine vf_iconst C (z := 0) (zdg dz_E_firstToBring_1 0 rfl) (jz rfl) ?_
    refine vf_istore C (i := 4) (L' := [(3, (0, x3)), (0, (2, 1)), (1, (0, v1)), (2, (0, v2))]) (zdg dz_E_firstToBring_1 1 rfl) [0, 1, 2, 3] (jrI rfl rfl) hn (by decide) ?_
    exact vf_perm [2, 3, 4, 1, 0] rfl (t_E_firstToBring_41 C hn hR hr FU _ _ _ _ _)
  · refine vf_iconst C (z := (-1)) (zdg dz_E_firstToBring_0 22 rfl) (jz rfl) ?_
    exact hr _ _ _ _ (fun h => absurd h (by decide)) (zdg dz_E_firstToBring_0 23 rfl)
def f_E_stays_95 (v2 v3 : Int) (w : Wd) : Option (Int × Wd) :=
  jcall (f_N_tell1 v3 w) fun r11 u12 =>
  some (v2, u12)
theorem t_E_stays_95 {X : jX} {Qf : Int × Wd → State → Prop} {ad : Nat → Nat} (C : Cx X prog_1_method_28_code "EachBringsAnother") (hn : xn X = 4) (hR : xR X = rmD 21) (hr : Rt X Qf ad prog_1_method_28_code 0) (v2 v3 : Int) (w : Wd) : VF X Qf ad NF 0 0 w 95 [(0, (2, 1)), (2, (0, v2)), (3, (0, v3))] [] (f_E_stays_95 v2 v3 w) := by
  unfold f_E_stays_95
  refine vf_aload_n C (f := 0) (zdg dz_E_stays_2 5 rfl) 0 rfl rfl ?_
  refine vf_getp C fl_E_19 sh_0 rfl (by decide) rfl (x := 4) rfl (zdg dz_E_stays_2 6 rfl) ?_
  refine vf_iload_n C (f := 3) (zdg dz_E_stays_2 7 rfl) 2 rfl rfl ?_
  refine vf_callVv C cy_N_tell1 ml_E_231 rfl (ct_N_tell1 _ _) (S := []) sh_3 (by decide) rfl (jrm_of hR rfl) rfl rfl (Nat.le_of_ble_eq_true rfl) (zdg dz_E_stays_2 8 rfl) (fun r11 u12 => ?_)
  refine vf_iload_n C (f := 2) (zdg dz_E_stays_2 9 rfl) 1 rfl rfl ?_
  exact hr _ _ _ _ (fun h => absurd h (by decide)) (zdg dz_E_stays_2 10 rfl)
def f_E_stays (v1 : Int) (w : Wd) : Option (Int × Wd) :=
  jcall (f_F_isThere v1 w) fun r1 u2 =>
  if r1 = 0 then
    some ((-1), u2)
  else
    jcall (f_S_run u2) fun r3 u4 =>
    if r3 = 0 then
      some ((-3), u4)
    else
      jcall (f_F_guests u4) fun r5 u6 =>
      jcall (f_E_has r5 v1 u6) fun r7 u8 =>
      if r7 = 0 then
        some ((-2), u8)
      else
        jcall (f_S_lastWeek (ishl 1 v1) 0 u8) fun r9 u10 =>
        if r9 ≤ 0 then
          f_E_stays_95 r9 (-1) u10
        else
          jcall (f_S_lookBack (ishl 1 v1) (-1) u10) fun r13 u14 =>
          jcall (f_E_firstToBring v1 r9 u14) fun r15 u16 =>
          f_E_stays_95 r9 r15 u16
theorem ct_E_stays (v1 : Int) (w : Wd) : Ct y_E_stays prog_1_method_28_code 4 (some .int) 21 0 [(2, 1), (0, v1)] w (f_E_stays v1 w) := by
  refine ct_of (by decide +kernel) (Or.inl ⟨rfl, rfl⟩) (Nat.le_of_ble_eq_true rfl) ?_
  intro X Qf ad C hn hR hr
  unfold f_E_stays
  show VF X Qf ad NF 0 0 w 0 [(0, (2, 1)), (1, (0, v1))] [] _
  refine vf_aload_n C (f := 0) (zdg dz_E_stays_0 0 rfl) 0 rfl rfl ?_
  refine vf_getp C fl_E_26 sh_0 rfl (by decide) rfl (x := 6) rfl (zdg dz_E_stays_0 1 rfl) ?_
  refine vf_iload_n C (f := 1) (zdg dz_E_stays_0 2 rfl) 1 rfl rfl ?_
  refine vf_callVz C cy_F_isThere ml_E_108 rfl (ct_F_isThere _ _) (S := []) sh_5 (by decide) rfl (jrm_of hR rfl) rfl rfl (Nat.le_of_ble_eq_true rfl) (zdg dz_E_stays_0 3 rfl) (fun r1 u2 => ?_)
  refine vf_if_ne C (off := 5) (tgt := 13) (zdg dz_E_stays_0 4 rfl) (by decide) ?_ ?_
  · refine vf_aload_n C (f := 0) (zdg dz_E_stays_0 7 rfl) 0 rfl rfl ?_
    refine vf_getp C fl_E_68 sh_0 rfl (by decide) rfl (x := 29) rfl (zdg dz_E_stays_0 8 rfl) ?_
    refine vf_aload_n C (f := 0) (zdg dz_E_stays_0 9 rfl) 0 rfl rfl ?_
    refine vf_getp C fl_E_26 sh_0 rfl (by decide) rfl (x := 6) rfl (zdg dz_E_stays_0 10 rfl) ?_
    refine vf_aload_n C (f := 0) (zdg dz_E_stays_0 11 rfl) 0 rfl rfl ?_
    refine vf_getp C fl_E_61 sh_0 rfl (by decide) rfl (x := 25) rfl (zdg dz_E_stays_0 12 rfl) ?_
    refine vf_callVz C cy_S_run ml_E_256 rfl (ct_S_run _) (S := []) sh_28 (by decide) rfl (jrm_of hR rfl) rfl rfl (Nat.le_of_ble_eq_true rfl) (zdg dz_E_stays_0 13 rfl) (fun r3 u4 => ?_)
    refine vf_if_ne C (off := 6) (tgt := 34) (zdg dz_E_stays_0 14 rfl) (by decide) ?_ ?_
    · refine vf_aload_n C (f := 0) (zdg dz_E_stays_0 17 rfl) 0 rfl rfl ?_
      refine vf_getp C fl_E_26 sh_0 rfl (by decide) rfl (x := 6) rfl (zdg dz_E_stays_0 18 rfl) ?_
      refine vf_callVi C cy_F_guests ml_E_136 rfl (ct_F_guests _) (S := []) sh_5 (by decide) rfl (jrm_of hR rfl) rfl rfl (Nat.le_of_ble_eq_true rfl) (zdg dz_E_stays_0 19 rfl) (fun r5 u6 => ?_)
      refine vf_iload_n C (f := 1) (zdg dz_E_stays_0 20 rfl) 1 rfl rfl ?_
      refine vf_callSz C cy_E_has ml_E_128 (ct_E_has _ _ _) (S := []) (jrm_of hR rfl) rfl rfl (Nat.le_of_ble_eq_true rfl) (zdg dz_E_stays_0 21 rfl) (fun r7 u8 => ?_)
      refine vf_if_ne C (off := 6) (tgt := 51) (zdg dz_E_stays_0 22 rfl) (by decide) ?_ ?_
      · refine vf_aload_n C (f := 0) (zdg dz_E_stays_1 1 rfl) 0 rfl rfl ?_
        refine vf_getp C fl_E_68 sh_0 rfl (by decide) rfl (x := 29) rfl (zdg dz_E_stays_1 2 rfl) ?_
        refine vf_iconst C (z := 1) (zdg dz_E_stays_1 3 rfl) (jz rfl) ?_
        refine vf_iload_n C (f := 1) (zdg dz_E_stays_1 4 rfl) 1 rfl rfl ?_
        refine vf_ishl C (zdg dz_E_stays_1 5 rfl) ?_
        refine vf_iconst C (z := 0) (zdg dz_E_stays_1 6 rfl) (jz rfl) ?_
        refine vf_callVi C cy_S_lastWeek ml_E_296 rfl (ct_S_lastWeek _ _ _) (S := []) sh_28 (by decide) rfl (jrm_of hR rfl) rfl rfl (Nat.le_of_ble_eq_true rfl) (zdg dz_E_stays_1 7 rfl) (fun r9 u10 => ?_)
        refine vf_istore_n C (f := 2) (L' := [(0, (2, 1)), (1, (0, v1))]) (zdg dz_E_stays_1 8 rfl) [0, 1] (jrI rfl rfl) hn (by decide) rfl ?_
        refine vf_iconst C (z := (-1)) (zdg dz_E_stays_1 9 rfl) (jz rfl) ?_
        refine vf_istore_n C (f := 3) (L' := [(2, (0, r9)), (0, (2, 1)), (1, (0, v1))]) (zdg dz_E_stays_1 10 rfl) [0, 1, 2] (jrI rfl rfl) hn (by decide) rfl ?_
        refine vf_iload_n C (f := 2) (zdg dz_E_stays_1 11 rfl) 1 rfl rfl ?_
        refine vf_if_le C (off := 29) (tgt := 95) (zdg dz_E_stays_1 12 rfl) (by decide) ?_ ?_
        · exact vf_perm [2, 1, 0] rfl (t_E_stays_95 C hn hR hr _ _ _)
        · refine vf_aload_n C (f := 0) (zdg dz_E_stays_1 13 rfl) 2 rfl rfl ?_
          refine vf_getp C fl_E_68 sh_0 rfl (by decide) rfl (x := 29) rfl (zdg dz_E_stays_1 14 rfl) ?_
          refine vf_aload_n C (f := 0) (zdg dz_E_stays_1 15 rfl) 2 rfl rfl ?_
          refine vf_getp C fl_E_26 sh_0 rfl (by decide) rfl (x := 6) rfl (zdg dz_E_stays_1 16 rfl) ?_
          refine vf_aload_n C (f := 0) (zdg dz_E_stays_1 17 rfl) 2 rfl rfl ?_
          refine vf_getp C fl_E_61 sh_0 rfl (by decide) rfl (x := 25) rfl (zdg dz_E_stays_1 18 rfl) ?_
          refine vf_iconst C (z := 1) (zdg dz_E_stays_1 19 rfl) (jz rfl) ?_
          refine vf_iload_n C (f := 1) (zdg dz_E_stays_1 20 rfl) 3 rfl rfl ?_
          refine vf_ishl C (zdg dz_E_stays_1 21 rfl) ?_
          refine vf_iconst C (z := (-1)) (zdg dz_E_stays_1 22 rfl) (jz rfl) ?_
          refine vf_callVv C cy_S_lookBack ml_E_299 rfl (ct_S_lookBack _ _ _) (S := []) sh_28 (by decide) rfl (jrm_of hR rfl) rfl rfl (Nat.le_of_ble_eq_true rfl) (zdg dz_E_stays_1 23 rfl) (fun r13 u14 => ?_)
          refine vf_aload_n C (f := 0) (zdg dz_E_stays_2 0 rfl) 2 rfl rfl ?_
          refine vf_iload_n C (f := 1) (zdg dz_E_stays_2 1 rfl) 3 rfl rfl ?_
          refine vf_iload_n C (f := 2) (zdg dz_E_stays_2 2 rfl) 1 rfl rfl ?_
          refine vf_callVi C cy_E_firstToBring ml_E_307 rfl (ct_E_firstToBring _ _ _) (S := []) sh_0 (by decide) rfl (jrm_of hR rfl) rfl rfl (Nat.le_of_ble_eq_true rfl) (zdg dz_E_stays_2 3 rfl) (fun r15 u16 => ?_)
          refine vf_istore_n C (f := 3) (L' := [(2, (0, r9)), (0, (2, 1))]) (zdg dz_E_stays_2 4 rfl) [1, 2] (jrI rfl rfl) hn (by decide) rfl ?_
          exact vf_perm [2, 1, 0] rfl (t_E_stays_95 C hn hR hr _ _ _)
      · refine vf_bipush C (z := (-2)) (zdg dz_E_stays_0 23 rfl) (by decide +kernel) (jz rfl) ?_
        exact hr _ _ _ _ (fun h => absurd h (by decide)) (zdg dz_E_stays_1 0 rfl)
    · refine vf_bipush C (z := (-3)) (zdg dz_E_stays_0 15 rfl) (by decide +kernel) (jz rfl) ?_
      exact hr _ _ _ _ (fun h => absurd h (by decide)) (zdg dz_E_stays_0 16 rfl)
  · refine vf_iconst C (z := (-1)) (zdg dz_E_stays_0 5 rfl) (jz rfl) ?_
    exact hr _ _ _ _ (fun h => absurd h (by decide)) (zdg dz_E_stays_0 6 rfl)
def f_E_soonest (v1 : Int) (w : Wd) : Option (Int × Wd) :=
  jcall (f_F_isThere v1 w) fun r1 u2 =>
  if r1 = 0 then
    some ((-1), u2)
  else
    jcall (f_S_run u2) fun r3 u4 =>
    if r3 = 0 then
      some ((-3), u4)
    else
      jcall (f_S_weeksWith (ishl 1 v1) 0 u4) fun r5 u6 =>
      jcall (f_E_firstWeek r5 u6) fun r7 u8 =>
      if r7 = (-1) then
        some ((-2), u8)
      else
        some (r7, u8)
theorem ct_E_soonest (v1 : Int) (w : Wd) : Ct y_E_soonest prog_1_method_29_code 3 (some .int) 21 0 [(2, 1), (0, v1)] w (f_E_soonest v1 w) := by
  refine ct_of (by decide +kernel) (Or.inl ⟨rfl, rfl⟩) (Nat.le_of_ble_eq_true rfl) ?_
  intro X Qf ad C hn hR hr
  unfold f_E_soonest
  show VF X Qf ad NF 0 0 w 0 [(0, (2, 1)), (1, (0, v1))] [] _
  refine vf_aload_n C (f := 0) (zdg dz_E_soonest_0 0 rfl) 0 rfl rfl ?_
  refine vf_getp C fl_E_26 sh_0 rfl (by decide) rfl (x := 6) rfl (zdg dz_E_soonest_0 1 rfl) ?_
  refine vf_iload_n C (f := 1) (zdg dz_E_soonest_0 2 rfl) 1 rfl rfl ?_
  refine vf_callVz C cy_F_isThere ml_E_108 rfl (ct_F_isThere _ _) (S := []) sh_5 (by decide) rfl (jrm_of hR rfl) rfl rfl (Nat.le_of_ble_eq_true rfl) (zdg dz_E_soonest_0 3 rfl) (fun r1 u2 => ?_)
  refine vf_if_ne C (off := 5) (tgt := 13) (zdg dz_E_soonest_0 4 rfl) (by decide) ?_ ?_
  · refine vf_aload_n C (f := 0) (zdg dz_E_soonest_0 7 rfl) 0 rfl rfl ?_
    refine vf_getp C fl_E_68 sh_0 rfl (by decide) rfl (x := 29) rfl (zdg dz_E_soonest_0 8 rfl) ?_
    refine vf_aload_n C (f := 0) (zdg dz_E_soonest_0 9 rfl) 0 rfl rfl ?_
    refine vf_getp C fl_E_26 sh_0 rfl (by decide) rfl (x := 6) rfl (zdg dz_E_soonest_0 10 rfl) ?_
    refine vf_aload_n C (f := 0) (zdg dz_E_soonest_0 11 rfl) 0 rfl rfl ?_
    refine vf_getp C fl_E_61 sh_0 rfl (by decide) rfl (x := 25) rfl (zdg dz_E_soonest_0 12 rfl) ?_
    refine vf_callVz C cy_S_run ml_E_256 rfl (ct_S_run _) (S := []) sh_28 (by decide) rfl (jrm_of hR rfl) rfl rfl (Nat.le_of_ble_eq_true rfl) (zdg dz_E_soonest_0 13 rfl) (fun r3 u4 => ?_)
    refine vf_if_ne C (off := 6) (tgt := 34) (zdg dz_E_soonest_0 14 rfl) (by decide) ?_ ?_
    · refine vf_aload_n C (f := 0) (zdg dz_E_soonest_0 17 rfl) 0 rfl rfl ?_
      refine vf_getp C fl_E_68 sh_0 rfl (by decide) rfl (x := 29) rfl (zdg dz_E_soonest_0 18 rfl) ?_
      refine vf_iconst C (z := 1) (zdg dz_E_soonest_0 19 rfl) (jz rfl) ?_
      refine vf_iload_n C (f := 1) (zdg dz_E_soonest_0 20 rfl) 1 rfl rfl ?_
      refine vf_ishl C (zdg dz_E_soonest_0 21 rfl) ?_
      refine vf_iconst C (z := 0) (zdg dz_E_soonest_0 22 rfl) (jz rfl) ?_
      refine vf_callVl C cy_S_weeksWith ml_E_310 rfl (ct_S_weeksWith _ _ _) (S := []) sh_28 (by decide) rfl (jrm_of hR rfl) rfl rfl (Nat.le_of_ble_eq_true rfl) (zdg dz_E_soonest_0 23 rfl) (fun r5 u6 => ?_)
      refine vf_callSi C cy_E_firstWeek ml_E_281 (ct_E_firstWeek _ _) (S := []) (jrm_of hR rfl) rfl rfl (Nat.le_of_ble_eq_true rfl) (zdg dz_E_soonest_1 0 rfl) (fun r7 u8 => ?_)
      refine vf_istore_n C (f := 2) (L' := []) (zdg dz_E_soonest_1 1 rfl) [] (jrI rfl rfl) hn (by decide) rfl ?_
      refine vf_iload_n C (f := 2) (zdg dz_E_soonest_1 2 rfl) 0 rfl rfl ?_
      refine vf_iconst C (z := (-1)) (zdg dz_E_soonest_1 3 rfl) (jz rfl) ?_
      refine vf_icmp_ne C (off := 8) (tgt := 59) (zdg dz_E_soonest_1 4 rfl) (by decide) ?_ ?_
      · refine vf_iload_n C (f := 2) (zdg dz_E_soonest_1 7 rfl) 0 rfl rfl ?_
        exact hr _ _ _ _ (fun h => absurd h (by decide)) (zdg dz_E_soonest_1 8 rfl)
      · refine vf_bipush C (z := (-2)) (zdg dz_E_soonest_1 5 rfl) (by decide +kernel) (jz rfl) ?_
        refine vf_goto C (off := 4) (tgt := 60) (zdg dz_E_soonest_1 6 rfl) (by decide) ?_
        exact hr _ _ _ _ (fun h => absurd h (by decide)) (zdg dz_E_soonest_1 8 rfl)
    · refine vf_bipush C (z := (-3)) (zdg dz_E_soonest_0 15 rfl) (by decide +kernel) (jz rfl) ?_
      exact hr _ _ _ _ (fun h => absurd h (by decide)) (zdg dz_E_soonest_0 16 rfl)
  · refine vf_iconst C (z := (-1)) (zdg dz_E_soonest_0 5 rfl) (jz rfl) ?_
    exact hr _ _ _ _ (fun h => absurd h (by decide)) (zdg dz_E_soonest_0 6 rfl)
def f_E_worth (v1 : Int) (w : Wd) : Option (Int × Wd) :=
  jcall (f_F_free w) fun r1 u2 =>
  jcall (f_E_has r1 v1 u2) fun r3 u4 =>
  if r3 = 0 then
    some ((-1), u4)
  else
    jcall (f_S_run u4) fun r5 u6 =>
    if r5 = 0 then
      some ((-3), u6)
    else
      jcall (f_S_lastWeek 0 0 u6) fun r7 u8 =>
      if r7 = (-1) then
        some ((-2), u8)
      else
        jcall (f_S_lastWeek 0 (ishl 1 v1) u8) fun r9 u10 =>
        some (w32 (r7 - r9), u10)
theorem ct_E_worth (v1 : Int) (w : Wd) : Ct y_E_worth prog_1_method_30_code 3 (some .int) 21 0 [(2, 1), (0, v1)] w (f_E_worth v1 w) := by
  refine ct_of (by decide +kernel) (Or.inl ⟨rfl, rfl⟩) (Nat.le_of_ble_eq_true rfl) ?_
  intro X Qf ad C hn hR hr
  unfold f_E_worth
  show VF X Qf ad NF 0 0 w 0 [(0, (2, 1)), (1, (0, v1))] [] _
  refine vf_aload_n C (f := 0) (zdg dz_E_worth_0 0 rfl) 0 rfl rfl ?_
  refine vf_getp C fl_E_26 sh_0 rfl (by decide) rfl (x := 6) rfl (zdg dz_E_worth_0 1 rfl) ?_
  refine vf_callVi C cy_F_free ml_E_253 rfl (ct_F_free _) (S := []) sh_5 (by decide) rfl (jrm_of hR rfl) rfl rfl (Nat.le_of_ble_eq_true rfl) (zdg dz_E_worth_0 2 rfl) (fun r1 u2 => ?_)
  refine vf_iload_n C (f := 1) (zdg dz_E_worth_0 3 rfl) 1 rfl rfl ?_
  refine vf_callSz C cy_E_has ml_E_128 (ct_E_has _ _ _) (S := []) (jrm_of hR rfl) rfl rfl (Nat.le_of_ble_eq_true rfl) (zdg dz_E_worth_0 4 rfl) (fun r3 u4 => ?_)
  refine vf_if_ne C (off := 5) (tgt := 16) (zdg dz_E_worth_0 5 rfl) (by decide) ?_ ?_
  · refine vf_aload_n C (f := 0) (zdg dz_E_worth_0 8 rfl) 0 rfl rfl ?_
    refine vf_getp C fl_E_68 sh_0 rfl (by decide) rfl (x := 29) rfl (zdg dz_E_worth_0 9 rfl) ?_
    refine vf_aload_n C (f := 0) (zdg dz_E_worth_0 10 rfl) 0 rfl rfl ?_
    refine vf_getp C fl_E_26 sh_0 rfl (by decide) rfl (x := 6) rfl (zdg dz_E_worth_0 11 rfl) ?_
    refine vf_aload_n C (f := 0) (zdg dz_E_worth_0 12 rfl) 0 rfl rfl ?_
    refine vf_getp C fl_E_61 sh_0 rfl (by decide) rfl (x := 25) rfl (zdg dz_E_worth_0 13 rfl) ?_
    refine vf_callVz C cy_S_run ml_E_256 rfl (ct_S_run _) (S := []) sh_28 (by decide) rfl (jrm_of hR rfl) rfl rfl (Nat.le_of_ble_eq_true rfl) (zdg dz_E_worth_0 14 rfl) (fun r5 u6 => ?_)
    refine vf_if_ne C (off := 6) (tgt := 37) (zdg dz_E_worth_0 15 rfl) (by decide) ?_ ?_
    · refine vf_aload_n C (f := 0) (zdg dz_E_worth_0 18 rfl) 0 rfl rfl ?_
      refine vf_getp C fl_E_68 sh_0 rfl (by decide) rfl (x := 29) rfl (zdg dz_E_worth_0 19 rfl) ?_
      refine vf_iconst C (z := 0) (zdg dz_E_worth_0 20 rfl) (jz rfl) ?_
      refine vf_iconst C (z := 0) (zdg dz_E_worth_0 21 rfl) (jz rfl) ?_
      refine vf_callVi C cy_S_lastWeek ml_E_296 rfl (ct_S_lastWeek _ _ _) (S := []) sh_28 (by decide) rfl (jrm_of hR rfl) rfl rfl (Nat.le_of_ble_eq_true rfl) (zdg dz_E_worth_0 22 rfl) (fun r7 u8 => ?_)
      refine vf_istore_n C (f := 2) (L' := [(0, (2, 1)), (1, (0, v1))]) (zdg dz_E_worth_0 23 rfl) [0, 1] (jrI rfl rfl) hn (by decide) rfl ?_
      refine vf_iload_n C (f := 2) (zdg dz_E_worth_1 0 rfl) 0 rfl rfl ?_
      refine vf_iconst C (z := (-1)) (zdg dz_E_worth_1 1 rfl) (jz rfl) ?_
      refine vf_icmp_ne C (off := 8) (tgt := 57) (zdg dz_E_worth_1 2 rfl) (by decide) ?_ ?_
      · refine vf_iload_n C (f := 2) (zdg dz_E_worth_1 5 rfl) 0 rfl rfl ?_
        refine vf_aload_n C (f := 0) (zdg dz_E_worth_1 6 rfl) 1 rfl rfl ?_
        refine vf_getp C fl_E_68 sh_0 rfl (by decide) rfl (x := 29) rfl (zdg dz_E_worth_1 7 rfl) ?_
        refine vf_iconst C (z := 0) (zdg dz_E_worth_1 8 rfl) (jz rfl) ?_
        refine vf_iconst C (z := 1) (zdg dz_E_worth_1 9 rfl) (jz rfl) ?_
        refine vf_iload_n C (f := 1) (zdg dz_E_worth_1 10 rfl) 2 rfl rfl ?_
        refine vf_ishl C (zdg dz_E_worth_1 11 rfl) ?_
        refine vf_callVi C cy_S_lastWeek ml_E_296 rfl (ct_S_lastWeek _ _ _) (S := [(0, r7)]) sh_28 (by decide) rfl (jrm_of hR rfl) rfl rfl (Nat.le_of_ble_eq_true rfl) (zdg dz_E_worth_1 12 rfl) (fun r9 u10 => ?_)
        refine vf_isub C (zdg dz_E_worth_1 13 rfl) ?_
        exact hr _ _ _ _ (fun h => absurd h (by decide)) (zdg dz_E_worth_1 14 rfl)
      · refine vf_bipush C (z := (-2)) (zdg dz_E_worth_1 3 rfl) (by decide +kernel) (jz rfl) ?_
        refine vf_goto C (off := 16) (tgt := 70) (zdg dz_E_worth_1 4 rfl) (by decide) ?_
        exact hr _ _ _ _ (fun h => absurd h (by decide)) (zdg dz_E_worth_1 14 rfl)
    · refine vf_bipush C (z := (-3)) (zdg dz_E_worth_0 16 rfl) (by decide +kernel) (jz rfl) ?_
      exact hr _ _ _ _ (fun h => absurd h (by decide)) (zdg dz_E_worth_0 17 rfl)
  · refine vf_iconst C (z := (-1)) (zdg dz_E_worth_0 6 rfl) (jz rfl) ?_
    exact hr _ _ _ _ (fun h => absurd h (by decide)) (zdg dz_E_worth_0 7 rfl)
def f_E_needed_89 (k43 : Int → Int → Int → Wd → Option (Int × Wd)) (v1 v2 v3 : Int) (w : Wd) : Option (Int × Wd) :=
  jlet (w32 (v3 + 1)) fun x9 =>
  k43 v1 v2 x9 w
theorem t_E_needed_89 {X : jX} {Qf : Int × Wd → State → Prop} {ad : Nat → Nat} (C : Cx X prog_1_method_31_code "EachBringsAnother") (hn : xn X = 4) (hR : xR X = rmD 21) (hr : Rt X Qf ad prog_1_method_31_code 0) {k43 : Int → Int → Int → Wd → Option (Int × Wd)} (hk43 : ∀ (v1 v2 v3 : Int) (w : Wd), VF X Qf ad NF 0 0 w 43 [(0, (2, 1)), (1, (0, v1)), (2, (0, v2)), (3, (0, v3))] [] (k43 v1 v2 v3 w)) (v1 v2 v3 : Int) (w : Wd) : VF X Qf ad NF 0 0 w 89 [(0, (2, 1)), (1, (0, v1)), (2, (0, v2)), (3, (0, v3))] [] (f_E_needed_89 k43 v1 v2 v3 w) := by
  unfold f_E_needed_89
  refine vf_iinc C (z := 1) (L' := [(0, (2, 1)), (1, (0, v1)), (2, (0, v2))]) (zdg dz_E_needed_2 3 rfl) 3 rfl [0, 1, 2] (jrI rfl rfl) hn (by decide) ?_
  generalize w32 (v3 + 1) = x9
  refine vf_ul ?_
  refine vf_goto C (off := (-49)) (tgt := 43) (zdg dz_E_needed_2 4 rfl) (by decide) ?_
  exact vf_perm [1, 2, 3, 0] rfl (hk43 _ _ _ _)
def f_E_needed_43 : Nat → Int → Int → Int → Wd → Option (Int × Wd)
  | 0, _, _, _, _ => none
  | n + 1, v1, v2, v3, w =>
    if (w 5 3) ≤ v3 then
      some (v2, w)
    else
      jcall (f_F_free w) fun r5 u6 =>
      jcall (f_E_has r5 v3 u6) fun r7 u8 =>
      if r7 = 0 then
        f_E_needed_89 (f_E_needed_43 n) v1 v2 v3 u8
      else
        jcall (f_S_lastWeek 0 (ishl 1 v3) u8) fun r10 u11 =>
        if v1 ≤ r10 then
          f_E_needed_89 (f_E_needed_43 n) v1 v2 v3 u11
        else
          jlet (ior v2 (ishl 1 v3)) fun x12 =>
          f_E_needed_89 (f_E_needed_43 n) v1 x12 v3 u11
theorem t_E_needed_43 {X : jX} {Qf : Int × Wd → State → Prop} {ad : Nat → Nat} (C : Cx X prog_1_method_31_code "EachBringsAnother") (hn : xn X = 4) (hR : xR X = rmD 21) (hr : Rt X Qf ad prog_1_method_31_code 0) : ∀ (n : Nat) (v1 v2 v3 : Int) (w : Wd), VF X Qf ad NF 0 0 w 43 [(0, (2, 1)), (1, (0, v1)), (2, (0, v2)), (3, (0, v3))] [] (f_E_needed_43 n v1 v2 v3 w) := by
  intro n
  induction n with
  | zero => intros; exact vf_no
  | succ n ih =>
    intro v1 v2 v3 w
    rw [f_E_needed_43]
    refine vf_iload_n C (f := 3) (zdg dz_E_needed_1 1 rfl) 3 rfl rfl ?_
    refine vf_aload_n C (f := 0) (zdg dz_E_needed_1 2 rfl) 0 rfl rfl ?_
    refine vf_getp C fl_E_26 sh_0 rfl (by decide) rfl (x := 6) rfl (zdg dz_E_needed_1 3 rfl) ?_
    refine vf_get C (kd := 0) fl_E_87 sh_5 rfl (by decide) rfl rfl (zdg dz_E_needed_1 4 rfl) ?_
    refine vf_icmp_ge C (off := 44) (tgt := 95) (zdg dz_E_needed_1 5 rfl) (by decide) ?_ ?_
    · refine vf_iload_n C (f := 2) (zdg dz_E_needed_2 5 rfl) 2 rfl rfl ?_
      exact hr _ _ _ _ (fun h => absurd h (by decide)) (zdg dz_E_needed_2 6 rfl)
    · refine vf_aload_n C (f := 0) (zdg dz_E_needed_1 6 rfl) 0 rfl rfl ?_
      refine vf_getp C fl_E_26 sh_0 rfl (by decide) rfl (x := 6) rfl (zdg dz_E_needed_1 7 rfl) ?_
      refine vf_callVi C cy_F_free ml_E_253 rfl (ct_F_free _) (S := []) sh_5 (by decide) rfl (jrm_of hR rfl) rfl rfl (Nat.le_of_ble_eq_true rfl) (zdg dz_E_needed_1 8 rfl) (fun r5 u6 => ?_)
      refine vf_iload_n C (f := 3) (zdg dz_E_needed_1 9 rfl) 3 rfl rfl ?_
      refine vf_callSz C cy_E_has ml_E_128 (ct_E_has _ _ _) (S := []) (jrm_of hR rfl) rfl rfl (Nat.le_of_ble_eq_true rfl) (zdg dz_E_needed_1 10 rfl) (fun r7 u8 => ?_)
      refine vf_if_eq C (off := 24) (tgt := 89) (zdg dz_E_needed_1 11 rfl) (by decide) ?_ ?_
      · exact t_E_needed_89 C hn hR hr ih _ _ _ _
      · refine vf_aload_n C (f := 0) (zdg dz_E_needed_1 12 rfl) 0 rfl rfl ?_
        refine vf_getp C fl_E_68 sh_0 rfl (by decide) rfl (x := 29) rfl (zdg dz_E_needed_1 13 rfl) ?_
        refine vf_iconst C (z := 0) (zdg dz_E_needed_1 14 rfl) (jz rfl) ?_
        refine vf_iconst C (z := 1) (zdg dz_E_needed_1 15 rfl) (jz rfl) ?_
        refine vf_iload_n C (f := 3) (zdg dz_E_needed_1 16 rfl) 3 rfl rfl ?_
        refine vf_ishl C (zdg dz_E_needed_1 17 rfl) ?_
        refine vf_callVi C cy_S_lastWeek ml_E_296 rfl (ct_S_lastWeek _ _ _) (S := []) sh_28 (by decide) rfl (jrm_of hR rfl) rfl rfl (Nat.le_of_ble_eq_true rfl) (zdg dz_E_needed_1 18 rfl) (fun r10 u11 => ?_)
        refine vf_iload_n C (f := 1) (zdg dz_E_needed_1 19 rfl) 1 rfl rfl ?_
        refine vf_icmp_ge C (off := 9) (tgt := 89) (zdg dz_E_needed_1 20 rfl) (by decide) ?_ ?_
        · exact t_E_needed_89 C hn hR hr ih _ _ _ _
        · refine vf_iload_n C (f := 2) (zdg dz_E_needed_1 21 rfl) 2 rfl rfl ?_
          refine vf_iconst C (z := 1) (zdg dz_E_needed_1 22 rfl) (jz rfl) ?_
          refine vf_iload_n C (f := 3) (zdg dz_E_needed_1 23 rfl) 3 rfl rfl ?_
          refine vf_ishl C (zdg dz_E_needed_2 0 rfl) ?_
          refine vf_ior C (zdg dz_E_needed_2 1 rfl) ?_
          generalize ior v2 (ishl 1 v3) = x12
          refine vf_ul ?_
          refine vf_istore_n C (f := 2) (L' := [(0, (2, 1)), (1, (0, v1)), (3, (0, v3))]) (zdg dz_E_needed_2 2 rfl) [0, 1, 3] (jrI rfl rfl) hn (by decide) rfl ?_
          exact vf_perm [1, 2, 0, 3] rfl (t_E_needed_89 C hn hR hr ih _ _ _ _)
def f_E_needed (w : Wd) : Option (Int × Wd) :=
  jcall (f_S_run w) fun r1 u2 =>
  if r1 = 0 then
    some ((-3), u2)
  else
    jcall (f_S_lastWeek 0 0 u2) fun r3 u4 =>
    if r3 = (-1) then
      some ((-2), u4)
    else
      f_E_needed_43 FU r3 0 0 u4
theorem ct_E_needed (w : Wd) : Ct y_E_needed prog_1_method_31_code 4 (some .int) 21 0 [(2, 1)] w (f_E_needed w) := by
  refine ct_of (by decide +kernel) (Or.inl ⟨rfl, rfl⟩) (Nat.le_of_ble_eq_true rfl) ?_
  intro X Qf ad C hn hR hr
  unfold f_E_needed
  show VF X Qf ad NF 0 0 w 0 [(0, (2, 1))] [] _
  refine vf_aload_n C (f := 0) (zdg dz_E_needed_0 0 rfl) 0 rfl rfl ?_
  refine vf_getp C fl_E_68 sh_0 rfl (by decide) rfl (x := 29) rfl (zdg dz_E_needed_0 1 rfl) ?_
  refine vf_aload_n C (f := 0) (zdg dz_E_needed_0 2 rfl) 0 rfl rfl ?_
  refine vf_getp C fl_E_26 sh_0 rfl (by decide) rfl (x := 6) rfl (zdg dz_E_needed_0 3 rfl) ?_
  refine vf_aload_n C (f := 0) (zdg dz_E_needed_0 4 rfl) 0 rfl rfl ?_
  refine vf_getp C fl_E_61 sh_0 rfl (by decide) rfl (x := 25) rfl (zdg dz_E_needed_0 5 rfl) ?_
  refine vf_callVz C cy_S_run ml_E_256 rfl (ct_S_run _) (S := []) sh_28 (by decide) rfl (jrm_of hR rfl) rfl rfl (Nat.le_of_ble_eq_true rfl) (zdg dz_E_needed_0 6 rfl) (fun r1 u2 => ?_)
  refine vf_if_ne C (off := 6) (tgt := 21) (zdg dz_E_needed_0 7 rfl) (by decide) ?_ ?_
  · refine vf_aload_n C (f := 0) (zdg dz_E_needed_0 10 rfl) 0 rfl rfl ?_
    refine vf_getp C fl_E_68 sh_0 rfl (by decide) rfl (x := 29) rfl (zdg dz_E_needed_0 11 rfl) ?_
    refine vf_iconst C (z := 0) (zdg dz_E_needed_0 12 rfl) (jz rfl) ?_
    refine vf_iconst C (z := 0) (zdg dz_E_needed_0 13 rfl) (jz rfl) ?_
    refine vf_callVi C cy_S_lastWeek ml_E_296 rfl (ct_S_lastWeek _ _ _) (S := []) sh_28 (by decide) rfl (jrm_of hR rfl) rfl rfl (Nat.le_of_ble_eq_true rfl) (zdg dz_E_needed_0 14 rfl) (fun r3 u4 => ?_)
    refine vf_istore_n C (f := 1) (L' := [(0, (2, 1))]) (zdg dz_E_needed_0 15 rfl) [0] (jrI rfl rfl) hn (by decide) rfl ?_
    refine vf_iload_n C (f := 1) (zdg dz_E_needed_0 16 rfl) 0 rfl rfl ?_
    refine vf_iconst C (z := (-1)) (zdg dz_E_needed_0 17 rfl) (jz rfl) ?_
    refine vf_icmp_ne C (off := 6) (tgt := 39) (zdg dz_E_needed_0 18 rfl) (by decide) ?_ ?_
    · refine vf_iconst C (z := 0) (zdg dz_E_needed_0 21 rfl) (jz rfl) ?_
      refine vf_istore_n C (f := 2) (L' := [(1, (0, r3)), (0, (2, 1))]) (zdg dz_E_needed_0 22 rfl) [0, 1] (jrI rfl rfl) hn (by decide) rfl ?_
      refine vf_iconst C (z := 0) (zdg dz_E_needed_0 23 rfl) (jz rfl) ?_
      refine vf_istore_n C (f := 3) (L' := [(2, (0, 0)), (1, (0, r3)), (0, (2, 1))]) (zdg dz_E_needed_1 0 rfl) [0, 1, 2] (jrI rfl rfl) hn (by decide) rfl ?_
      exact vf_perm [3, 2, 1, 0] rfl (t_E_needed_43 C hn hR hr FU _ _ _ _)
    · refine vf_bipush C (z := (-2)) (zdg dz_E_needed_0 19 rfl) (by decide +kernel) (jz rfl) ?_
      exact hr _ _ _ _ (fun h => absurd h (by decide)) (zdg dz_E_needed_0 20 rfl)
  · refine vf_bipush C (z := (-3)) (zdg dz_E_needed_0 8 rfl) (by decide +kernel) (jz rfl) ?_
    exact hr _ _ _ _ (fun h => absurd h (by decide)) (zdg dz_E_needed_0 9 rfl)
def f_E_never_25 : Nat → Int → Int → Wd → Option (Int × Wd)
  | 0, _, _, _ => none
  | n + 1, v1, v2, w =>
    if (w 28 7) ≤ v2 then
      jcall (f_F_strangers w) fun r3 u4 =>
      some (iand r3 (ixor v1 (-1)), u4)
    else
      jcall (f_S_guests v2 w) fun r5 u6 =>
      jlet (ior v1 r5) fun x7 =>
      jlet (w32 (v2 + 1)) fun x8 =>
      f_E_never_25 n x7 x8 u6
theorem t_E_never_25 {X : jX} {Qf : Int × Wd → State → Prop} {ad : Nat → Nat} (C : Cx X prog_1_method_32_code "EachBringsAnother") (hn : xn X = 3) (hR : xR X = rmD 21) (hr : Rt X Qf ad prog_1_method_32_code 0) : ∀ (n : Nat) (v1 v2 : Int) (w : Wd), VF X Qf ad NF 0 0 w 25 [(0, (2, 1)), (1, (0, v1)), (2, (0, v2))] [] (f_E_never_25 n v1 v2 w) := by
  intro n
  induction n with
  | zero => intros; exact vf_no
  | succ n ih =>
    intro v1 v2 w
    rw [f_E_never_25]
    refine vf_iload_n C (f := 2) (zdg dz_E_never_0 14 rfl) 2 rfl rfl ?_
    refine vf_aload_n C (f := 0) (zdg dz_E_never_0 15 rfl) 0 rfl rfl ?_
    refine vf_getp C fl_E_68 sh_0 rfl (by decide) rfl (x := 29) rfl (zdg dz_E_never_0 16 rfl) ?_
    refine vf_get C (kd := 0) fl_E_260 sh_28 rfl (by decide) rfl rfl (zdg dz_E_never_0 17 rfl) ?_
    refine vf_icmp_ge C (off := 20) (tgt := 53) (zdg dz_E_never_0 18 rfl) (by decide) ?_ ?_
    · refine vf_aload_n C (f := 0) (zdg dz_E_never_1 4 rfl) 0 rfl rfl ?_
      refine vf_getp C fl_E_26 sh_0 rfl (by decide) rfl (x := 6) rfl (zdg dz_E_never_1 5 rfl) ?_
      refine vf_callVi C cy_F_strangers ml_E_132 rfl (ct_F_strangers _) (S := []) sh_5 (by decide) rfl (jrm_of hR rfl) rfl rfl (Nat.le_of_ble_eq_true rfl) (zdg dz_E_never_1 6 rfl) (fun r3 u4 => ?_)
      refine vf_iload_n C (f := 1) (zdg dz_E_never_1 7 rfl) 1 rfl rfl ?_
      refine vf_iconst C (z := (-1)) (zdg dz_E_never_1 8 rfl) (jz rfl) ?_
      refine vf_ixor C (zdg dz_E_never_1 9 rfl) ?_
      refine vf_iand C (zdg dz_E_never_1 10 rfl) ?_
      exact hr _ _ _ _ (fun h => absurd h (by decide)) (zdg dz_E_never_1 11 rfl)
    · refine vf_iload_n C (f := 1) (zdg dz_E_never_0 19 rfl) 1 rfl rfl ?_
      refine vf_aload_n C (f := 0) (zdg dz_E_never_0 20 rfl) 0 rfl rfl ?_
      refine vf_getp C fl_E_68 sh_0 rfl (by decide) rfl (x := 29) rfl (zdg dz_E_never_0 21 rfl) ?_
      refine vf_iload_n C (f := 2) (zdg dz_E_never_0 22 rfl) 2 rfl rfl ?_
      refine vf_callVi C cy_S_guests ml_E_261 rfl (ct_S_guests _ _) (S := [(0, v1)]) sh_28 (by decide) rfl (jrm_of hR rfl) rfl rfl (Nat.le_of_ble_eq_true rfl) (zdg dz_E_never_0 23 rfl) (fun r5 u6 => ?_)
      refine vf_ior C (zdg dz_E_never_1 0 rfl) ?_
      generalize ior v1 r5 = x7
      refine vf_ul ?_
      refine vf_istore_n C (f := 1) (L' := [(0, (2, 1)), (2, (0, v2))]) (zdg dz_E_never_1 1 rfl) [0, 2] (jrI rfl rfl) hn (by decide) rfl ?_
      refine vf_iinc C (z := 1) (L' := [(1, (0, x7)), (0, (2, 1))]) (zdg dz_E_never_1 2 rfl) 2 rfl [0, 1] (jrI rfl rfl) hn (by decide) ?_
      generalize w32 (v2 + 1) = x8
      refine vf_ul ?_
      refine vf_goto C (off := (-25)) (tgt := 25) (zdg dz_E_never_1 3 rfl) (by decide) ?_
      exact vf_perm [2, 1, 0] rfl (ih _ _ _)
def f_E_never (w : Wd) : Option (Int × Wd) :=
  jcall (f_S_run w) fun r1 u2 =>
  if r1 = 0 then
    some ((-3), u2)
  else
    f_E_never_25 FU 0 0 u2
theorem ct_E_never (w : Wd) : Ct y_E_never prog_1_method_32_code 3 (some .int) 21 0 [(2, 1)] w (f_E_never w) := by
  refine ct_of (by decide +kernel) (Or.inl ⟨rfl, rfl⟩) (Nat.le_of_ble_eq_true rfl) ?_
  intro X Qf ad C hn hR hr
  unfold f_E_never
  show VF X Qf ad NF 0 0 w 0 [(0, (2, 1))] [] _
  refine vf_aload_n C (f := 0) (zdg dz_E_never_0 0 rfl) 0 rfl rfl ?_
  refine vf_getp C fl_E_68 sh_0 rfl (by decide) rfl (x := 29) rfl (zdg dz_E_never_0 1 rfl) ?_
  refine vf_aload_n C (f := 0) (zdg dz_E_never_0 2 rfl) 0 rfl rfl ?_
  refine vf_getp C fl_E_26 sh_0 rfl (by decide) rfl (x := 6) rfl (zdg dz_E_never_0 3 rfl) ?_
  refine vf_aload_n C (f := 0) (zdg dz_E_never_0 4 rfl) 0 rfl rfl ?_
  refine vf_getp C fl_E_61 sh_0 rfl (by decide) rfl (x := 25) rfl (zdg dz_E_never_0 5 rfl) ?_
  refine vf_callVz C cy_S_run ml_E_256 rfl (ct_S_run _) (S := []) sh_28 (by decide) rfl (jrm_of hR rfl) rfl rfl (Nat.le_of_ble_eq_true rfl) (zdg dz_E_never_0 6 rfl) (fun r1 u2 => ?_)
  refine vf_if_ne C (off := 6) (tgt := 21) (zdg dz_E_never_0 7 rfl) (by decide) ?_ ?_
  · refine vf_iconst C (z := 0) (zdg dz_E_never_0 10 rfl) (jz rfl) ?_
    refine vf_istore_n C (f := 1) (L' := [(0, (2, 1))]) (zdg dz_E_never_0 11 rfl) [0] (jrI rfl rfl) hn (by decide) rfl ?_
    refine vf_iconst C (z := 0) (zdg dz_E_never_0 12 rfl) (jz rfl) ?_
    refine vf_istore_n C (f := 2) (L' := [(1, (0, 0)), (0, (2, 1))]) (zdg dz_E_never_0 13 rfl) [0, 1] (jrI rfl rfl) hn (by decide) rfl ?_
    exact vf_perm [2, 1, 0] rfl (t_E_never_25 C hn hR hr FU _ _ _)
  · refine vf_bipush C (z := (-3)) (zdg dz_E_never_0 8 rfl) (by decide +kernel) (jz rfl) ?_
    exact hr _ _ _ _ (fun h => absurd h (by decide)) (zdg dz_E_never_0 9 rfl)
def f_E_bound_93 (k55 : Int → Int → Int → Int → Wd → Option (Int × Wd)) (v1 v2 v3 v4 : Int) (w : Wd) : Option (Int × Wd) :=
  jlet (w32 (v4 + 1)) fun x7 =>
  k55 v1 v2 v3 x7 w
theorem t_E_bound_93 {X : jX} {Qf : Int × Wd → State → Prop} {ad : Nat → Nat} (C : Cx X prog_1_method_33_code "EachBringsAnother") (hn : xn X = 5) (hR : xR X = rmD 4) (hr : Rt X Qf ad prog_1_method_33_code 0) {k55 : Int → Int → Int → Int → Wd → Option (Int × Wd)} (hk55 : ∀ (v1 v2 v3 v4 : Int) (w : Wd), VF X Qf ad NF 0 0 w 55 [(0, (2, 1)), (1, (0, v1)), (2, (0, v2)), (3, (0, v3)), (4, (0, v4))] [] (k55 v1 v2 v3 v4 w)) (v1 v2 v3 v4 : Int) (w : Wd) : VF X Qf ad NF 0 0 w 93 [(0, (2, 1)), (1, (0, v1)), (2, (0, v2)), (3, (0, v3)), (4, (0, v4))] [] (f_E_bound_93 k55 v1 v2 v3 v4 w) := by
  unfold f_E_bound_93
  refine vf_iinc C (z := 1) (L' := [(0, (2, 1)), (1, (0, v1)), (2, (0, v2)), (3, (0, v3))]) (zdg dz_E_bound_2 1 rfl) 4 rfl [0, 1, 2, 3] (jrI rfl rfl) hn (by decide) ?_
  generalize w32 (v4 + 1) = x7
  refine vf_ul ?_
  refine vf_goto C (off := (-41)) (tgt := 55) (zdg dz_E_bound_2 2 rfl) (by decide) ?_
  exact vf_perm [1, 2, 3, 4, 0] rfl (hk55 _ _ _ _ _)
def f_E_bound_55 : Nat → Int → Int → Int → Int → Wd → Option (Int × Wd)
  | 0, _, _, _, _, _ => none
  | n + 1, v1, v2, v3, v4, w =>
    if (w 5 3) ≤ v4 then
      jcall (f_JI_bitCount (iand v2 (ixor v1 (-1))) w) fun r3 u4 =>
      some (w32 ((w32 ((w32 ((w 5 7) * r3)) + (imax 1 (w32 ((u4 5 7) - v3))))) - 1), u4)
    else
      jcall (f_E_has v1 v4 w) fun r5 u6 =>
      if r5 = 0 then
        f_E_bound_93 (f_E_bound_55 n) v1 v2 v3 v4 u6
      else
        jcall (f_O_late (u6 5 4) v4 u6) fun r8 u9 =>
        jlet (imin v3 r8) fun x10 =>
        f_E_bound_93 (f_E_bound_55 n) v1 v2 x10 v4 u9
theorem t_E_bound_55 {X : jX} {Qf : Int × Wd → State → Prop} {ad : Nat → Nat} (C : Cx X prog_1_method_33_code "EachBringsAnother") (hn : xn X = 5) (hR : xR X = rmD 4) (hr : Rt X Qf ad prog_1_method_33_code 0) : ∀ (n : Nat) (v1 v2 v3 v4 : Int) (w : Wd), VF X Qf ad NF 0 0 w 55 [(0, (2, 1)), (1, (0, v1)), (2, (0, v2)), (3, (0, v3)), (4, (0, v4))] [] (f_E_bound_55 n v1 v2 v3 v4 w) := by
  intro n
  induction n with
  | zero => intros; exact vf_no
  | succ n ih =>
    intro v1 v2 v3 v4 w
    rw [f_E_bound_55]
    refine vf_iload C (zdg dz_E_bound_1 8 rfl) 4 rfl ?_
    refine vf_aload_n C (f := 0) (zdg dz_E_bound_1 9 rfl) 0 rfl rfl ?_
    refine vf_getp C fl_E_26 sh_0 rfl (by decide) rfl (x := 6) rfl (zdg dz_E_bound_1 10 rfl) ?_
    refine vf_get C (kd := 0) fl_E_87 sh_5 rfl (by decide) rfl rfl (zdg dz_E_bound_1 11 rfl) ?_
    refine vf_icmp_ge C (off := 35) (tgt := 99) (zdg dz_E_bound_1 12 rfl) (by decide) ?_ ?_
    · refine vf_aload_n C (f := 0) (zdg dz_E_bound_2 3 rfl) 0 rfl rfl ?_
      refine vf_getp C fl_E_26 sh_0 rfl (by decide) rfl (x := 6) rfl (zdg dz_E_bound_2 4 rfl) ?_
      refine vf_get C (kd := 0) fl_E_156 sh_5 rfl (by decide) rfl rfl (zdg dz_E_bound_2 5 rfl) ?_
      refine vf_iload_n C (f := 2) (zdg dz_E_bound_2 6 rfl) 2 rfl rfl ?_
      refine vf_iload_n C (f := 1) (zdg dz_E_bound_2 7 rfl) 1 rfl rfl ?_
      refine vf_iconst C (z := (-1)) (zdg dz_E_bound_2 8 rfl) (jz rfl) ?_
      refine vf_ixor C (zdg dz_E_bound_2 9 rfl) ?_
      refine vf_iand C (zdg dz_E_bound_2 10 rfl) ?_
      refine vf_callSi C cy_JI_bitCount ml_E_245 (ct_JI_bitCount _ _) (S := [(0, w 5 7)]) (jrm_of hR rfl) rfl rfl (Nat.le_of_ble_eq_true rfl) (zdg dz_E_bound_2 11 rfl) (fun r3 u4 => ?_)
      refine vf_imul C (zdg dz_E_bound_2 12 rfl) ?_
      refine vf_iconst C (z := 1) (zdg dz_E_bound_2 13 rfl) (jz rfl) ?_
      refine vf_aload_n C (f := 0) (zdg dz_E_bound_2 14 rfl) 0 rfl rfl ?_
      refine vf_getp C fl_E_26 sh_0 rfl (by decide) rfl (x := 6) rfl (zdg dz_E_bound_2 15 rfl) ?_
      refine vf_get C (kd := 0) fl_E_156 sh_5 rfl (by decide) rfl rfl (zdg dz_E_bound_2 16 rfl) ?_
      refine vf_iload_n C (f := 3) (zdg dz_E_bound_2 17 rfl) 3 rfl rfl ?_
      refine vf_isub C (zdg dz_E_bound_2 18 rfl) ?_
      refine vf_mmax C ml_E_269 (jrm_n hR (by decide)) ⟨Nat.zero_le _, Nat.zero_le _⟩ (Nat.le_of_ble_eq_true rfl) (zdg dz_E_bound_2 19 rfl) ?_
      refine vf_iadd C (zdg dz_E_bound_2 20 rfl) ?_
      refine vf_iconst C (z := 1) (zdg dz_E_bound_2 21 rfl) (jz rfl) ?_
      refine vf_isub C (zdg dz_E_bound_2 22 rfl) ?_
      exact hr _ _ _ _ (fun h => absurd h (by decide)) (zdg dz_E_bound_2 23 rfl)
    · refine vf_iload_n C (f := 1) (zdg dz_E_bound_1 13 rfl) 1 rfl rfl ?_
      refine vf_iload C (zdg dz_E_bound_1 14 rfl) 4 rfl ?_
      refine vf_callSz C cy_E_has ml_E_128 (ct_E_has _ _ _) (S := []) (jrm_of hR rfl) rfl rfl (Nat.le_of_ble_eq_true rfl) (zdg dz_E_bound_1 15 rfl) (fun r5 u6 => ?_)
      refine vf_if_eq C (off := 20) (tgt := 93) (zdg dz_E_bound_1 16 rfl) (by decide) ?_ ?_
      · exact t_E_bound_93 C hn hR hr ih _ _ _ _ _
      · refine vf_iload_n C (f := 3) (zdg dz_E_bound_1 17 rfl) 3 rfl rfl ?_
        refine vf_aload_n C (f := 0) (zdg dz_E_bound_1 18 rfl) 0 rfl rfl ?_
        refine vf_getp C fl_E_26 sh_0 rfl (by decide) rfl (x := 6) rfl (zdg dz_E_bound_1 19 rfl) ?_
        refine vf_get C (kd := 0) fl_E_139 sh_5 rfl (by decide) rfl rfl (zdg dz_E_bound_1 20 rfl) ?_
        refine vf_iload C (zdg dz_E_bound_1 21 rfl) 4 rfl ?_
        refine vf_callSi C cy_O_late ml_E_142 (ct_O_late _ _ _) (S := [(0, v3)]) (jrm_of hR rfl) rfl rfl (Nat.le_of_ble_eq_true rfl) (zdg dz_E_bound_1 22 rfl) (fun r8 u9 => ?_)
        refine vf_mmin C ml_E_314 (jrm_n hR (by decide)) ⟨Nat.zero_le _, Nat.zero_le _⟩ (Nat.le_of_ble_eq_true rfl) (zdg dz_E_bound_1 23 rfl) ?_
        generalize imin v3 r8 = x10
        refine vf_ul ?_
        refine vf_istore_n C (f := 3) (L' := [(0, (2, 1)), (1, (0, v1)), (2, (0, v2)), (4, (0, v4))]) (zdg dz_E_bound_2 0 rfl) [0, 1, 2, 4] (jrI rfl rfl) hn (by decide) rfl ?_
        exact vf_perm [1, 2, 3, 0, 4] rfl (t_E_bound_93 C hn hR hr ih _ _ _ _ _)
def f_E_bound_19 : Nat → Int → Int → Int → Wd → Option (Int × Wd)
  | 0, _, _, _, _ => none
  | n + 1, v1, v2, v3, w =>
    if (10 : Int) ≤ v3 then
      f_E_bound_55 FU v1 v2 3 0 w
    else
      jcall (f_F_knownBy v2 w) fun r11 u12 =>
      jcall (f_F_free u12) fun r13 u14 =>
      jlet (ior v2 (iand r11 r13)) fun x15 =>
      jlet (w32 (v3 + 1)) fun x16 =>
      f_E_bound_19 n v1 x15 x16 u14
theorem t_E_bound_19 {X : jX} {Qf : Int × Wd → State → Prop} {ad : Nat → Nat} (C : Cx X prog_1_method_33_code "EachBringsAnother") (hn : xn X = 5) (hR : xR X = rmD 4) (hr : Rt X Qf ad prog_1_method_33_code 0) : ∀ (n : Nat) (v1 v2 v3 : Int) (w : Wd), VF X Qf ad NF 0 0 w 19 [(0, (2, 1)), (1, (0, v1)), (2, (0, v2)), (3, (0, v3))] [] (f_E_bound_19 n v1 v2 v3 w) := by
  intro n
  induction n with
  | zero => intros; exact vf_no
  | succ n ih =>
    intro v1 v2 v3 w
    rw [f_E_bound_19]
    refine vf_iload_n C (f := 3) (zdg dz_E_bound_0 12 rfl) 3 rfl rfl ?_
    refine vf_bipush C (z := 10) (zdg dz_E_bound_0 13 rfl) (by decide +kernel) (jz rfl) ?_
    refine vf_icmp_ge C (off := 28) (tgt := 50) (zdg dz_E_bound_0 14 rfl) (by decide) ?_ ?_
    · refine vf_iconst C (z := 3) (zdg dz_E_bound_1 4 rfl) (jz rfl) ?_
      refine vf_istore_n C (f := 3) (L' := [(0, (2, 1)), (1, (0, v1)), (2, (0, v2))]) (zdg dz_E_bound_1 5 rfl) [0, 1, 2] (jrI rfl rfl) hn (by decide) rfl ?_
      refine vf_iconst C (z := 0) (zdg dz_E_bound_1 6 rfl) (jz rfl) ?_
      refine vf_istore C (i := 4) (L' := [(3, (0, 3)), (0, (2, 1)), (1, (0, v1)), (2, (0, v2))]) (zdg dz_E_bound_1 7 rfl) [0, 1, 2, 3] (jrI rfl rfl) hn (by decide) ?_
      exact vf_perm [2, 3, 4, 1, 0] rfl (t_E_bound_55 C hn hR hr FU _ _ _ _ _)
    · refine vf_iload_n C (f := 2) (zdg dz_E_bound_0 15 rfl) 2 rfl rfl ?_
      refine vf_aload_n C (f := 0) (zdg dz_E_bound_0 16 rfl) 0 rfl rfl ?_
      refine vf_getp C fl_E_26 sh_0 rfl (by decide) rfl (x := 6) rfl (zdg dz_E_bound_0 17 rfl) ?_
      refine vf_iload_n C (f := 2) (zdg dz_E_bound_0 18 rfl) 2 rfl rfl ?_
      refine vf_callVi C cy_F_knownBy ml_E_250 rfl (ct_F_knownBy _ _) (S := [(0, v2)]) sh_5 (by decide) rfl (jrm_of hR rfl) rfl rfl (Nat.le_of_ble_eq_true rfl) (zdg dz_E_bound_0 19 rfl) (fun r11 u12 => ?_)
      refine vf_aload_n C (f := 0) (zdg dz_E_bound_0 20 rfl) 0 rfl rfl ?_
      refine vf_getp C fl_E_26 sh_0 rfl (by decide) rfl (x := 6) rfl (zdg dz_E_bound_0 21 rfl) ?_
      refine vf_callVi C cy_F_free ml_E_253 rfl (ct_F_free _) (S := [(0, r11), (0, v2)]) sh_5 (by decide) rfl (jrm_of hR rfl) rfl rfl (Nat.le_of_ble_eq_true rfl) (zdg dz_E_bound_0 22 rfl) (fun r13 u14 => ?_)
      refine vf_iand C (zdg dz_E_bound_0 23 rfl) ?_
      refine vf_ior C (zdg dz_E_bound_1 0 rfl) ?_
      generalize ior v2 (iand r11 r13) = x15
      refine vf_ul ?_
      refine vf_istore_n C (f := 2) (L' := [(0, (2, 1)), (1, (0, v1)), (3, (0, v3))]) (zdg dz_E_bound_1 1 rfl) [0, 1, 3] (jrI rfl rfl) hn (by decide) rfl ?_
      refine vf_iinc C (z := 1) (L' := [(2, (0, x15)), (0, (2, 1)), (1, (0, v1))]) (zdg dz_E_bound_1 2 rfl) 3 rfl [0, 1, 2] (jrI rfl rfl) hn (by decide) ?_
      generalize w32 (v3 + 1) = x16
      refine vf_ul ?_
      refine vf_goto C (off := (-28)) (tgt := 19) (zdg dz_E_bound_1 3 rfl) (by decide) ?_
      exact vf_perm [2, 3, 1, 0] rfl (ih _ _ _ _)
def f_E_bound (w : Wd) : Option (Int × Wd) :=
  jcall (f_F_guests w) fun r1 u2 =>
  if r1 = 0 then
    some ((-2), u2)
  else
    f_E_bound_19 FU r1 r1 0 u2
theorem ct_E_bound (w : Wd) : Ct y_E_bound prog_1_method_33_code 5 (some .int) 4 0 [(2, 1)] w (f_E_bound w) := by
  refine ct_of (by decide +kernel) (Or.inl ⟨rfl, rfl⟩) (Nat.le_of_ble_eq_true rfl) ?_
  intro X Qf ad C hn hR hr
  unfold f_E_bound
  show VF X Qf ad NF 0 0 w 0 [(0, (2, 1))] [] _
  refine vf_aload_n C (f := 0) (zdg dz_E_bound_0 0 rfl) 0 rfl rfl ?_
  refine vf_getp C fl_E_26 sh_0 rfl (by decide) rfl (x := 6) rfl (zdg dz_E_bound_0 1 rfl) ?_
  refine vf_callVi C cy_F_guests ml_E_136 rfl (ct_F_guests _) (S := []) sh_5 (by decide) rfl (jrm_of hR rfl) rfl rfl (Nat.le_of_ble_eq_true rfl) (zdg dz_E_bound_0 2 rfl) (fun r1 u2 => ?_)
  refine vf_istore_n C (f := 1) (L' := [(0, (2, 1))]) (zdg dz_E_bound_0 3 rfl) [0] (jrI rfl rfl) hn (by decide) rfl ?_
  refine vf_iload_n C (f := 1) (zdg dz_E_bound_0 4 rfl) 0 rfl rfl ?_
  refine vf_if_ne C (off := 6) (tgt := 15) (zdg dz_E_bound_0 5 rfl) (by decide) ?_ ?_
  · refine vf_iload_n C (f := 1) (zdg dz_E_bound_0 8 rfl) 0 rfl rfl ?_
    refine vf_istore_n C (f := 2) (L' := [(1, (0, r1)), (0, (2, 1))]) (zdg dz_E_bound_0 9 rfl) [0, 1] (jrI rfl rfl) hn (by decide) rfl ?_
    refine vf_iconst C (z := 0) (zdg dz_E_bound_0 10 rfl) (jz rfl) ?_
    refine vf_istore_n C (f := 3) (L' := [(2, (0, r1)), (1, (0, r1)), (0, (2, 1))]) (zdg dz_E_bound_0 11 rfl) [0, 1, 2] (jrI rfl rfl) hn (by decide) rfl ?_
    exact vf_perm [3, 2, 1, 0] rfl (t_E_bound_19 C hn hR hr FU _ _ _ _)
  · refine vf_bipush C (z := (-2)) (zdg dz_E_bound_0 6 rfl) (by decide +kernel) (jz rfl) ?_
    exact hr _ _ _ _ (fun h => absurd h (by decide)) (zdg dz_E_bound_0 7 rfl)
def f_F_within_12 : Nat → Int → Int → Int → Wd → Option (Int × Wd)
  | 0, _, _, _, _ => none
  | n + 1, v2, v3, v4, w =>
    if v2 ≤ v4 then
      some (v3, w)
    else
      jcall (f_F_knownBy v3 w) fun r4 u5 =>
      jcall (f_F_free u5) fun r6 u7 =>
      jlet (ior v3 (iand r4 r6)) fun x8 =>
      jlet (w32 (v4 + 1)) fun x9 =>
      f_F_within_12 n v2 x8 x9 u7
theorem t_F_within_12 {X : jX} {Qf : Int × Wd → State → Prop} {ad : Nat → Nat} (C : Cx X prog_3_method_15_code "EachBringsAnother$Folk") (hn : xn X = 5) (hR : xR X = rmD 4) (hr : Rt X Qf ad prog_3_method_15_code 0) : ∀ (n : Nat) (v2 v3 v4 : Int) (w : Wd), VF X Qf ad NF 0 0 w 12 [(0, (2, 6)), (2, (0, v2)), (3, (0, v3)), (4, (0, v4))] [] (f_F_within_12 n v2 v3 v4 w) := by
  intro n
  induction n with
  | zero => intros; exact vf_no
  | succ n ih =>
    intro v2 v3 v4 w
    rw [f_F_within_12]
    refine vf_iload C (zdg dz_F_within_0 9 rfl) 3 rfl ?_
    refine vf_iload_n C (f := 2) (zdg dz_F_within_0 10 rfl) 1 rfl rfl ?_
    refine vf_icmp_ge C (off := 22) (tgt := 37) (zdg dz_F_within_0 11 rfl) (by decide) ?_ ?_
    · refine vf_iload_n C (f := 3) (zdg dz_F_within_0 23 rfl) 2 rfl rfl ?_
      exact hr _ _ _ _ (fun h => absurd h (by decide)) (zdg dz_F_within_1 0 rfl)
    · refine vf_iload_n C (f := 3) (zdg dz_F_within_0 12 rfl) 2 rfl rfl ?_
      refine vf_aload_n C (f := 0) (zdg dz_F_within_0 13 rfl) 0 rfl rfl ?_
      refine vf_iload_n C (f := 3) (zdg dz_F_within_0 14 rfl) 2 rfl rfl ?_
      refine vf_callVi C cy_F_knownBy ml_F_83 rfl (ct_F_knownBy _ _) (S := [(0, v3)]) sh_5 (by decide) rfl (jrm_of hR rfl) rfl rfl (Nat.le_of_ble_eq_true rfl) (zdg dz_F_within_0 15 rfl) (fun r4 u5 => ?_)
      refine vf_aload_n C (f := 0) (zdg dz_F_within_0 16 rfl) 0 rfl rfl ?_
      refine vf_callVi C cy_F_free ml_F_80 rfl (ct_F_free _) (S := [(0, r4), (0, v3)]) sh_5 (by decide) rfl (jrm_of hR rfl) rfl rfl (Nat.le_of_ble_eq_true rfl) (zdg dz_F_within_0 17 rfl) (fun r6 u7 => ?_)
      refine vf_iand C (zdg dz_F_within_0 18 rfl) ?_
      refine vf_ior C (zdg dz_F_within_0 19 rfl) ?_
      generalize ior v3 (iand r4 r6) = x8
      refine vf_ul ?_
      refine vf_istore_n C (f := 3) (L' := [(0, (2, 6)), (2, (0, v2)), (4, (0, v4))]) (zdg dz_F_within_0 20 rfl) [0, 1, 3] (jrI rfl rfl) hn (by decide) rfl ?_
      refine vf_iinc C (z := 1) (L' := [(3, (0, x8)), (0, (2, 6)), (2, (0, v2))]) (zdg dz_F_within_0 21 rfl) 3 rfl [0, 1, 2] (jrI rfl rfl) hn (by decide) ?_
      generalize w32 (v4 + 1) = x9
      refine vf_ul ?_
      refine vf_goto C (off := (-22)) (tgt := 12) (zdg dz_F_within_0 22 rfl) (by decide) ?_
      exact vf_perm [2, 3, 1, 0] rfl (ih _ _ _ _)
def f_F_within (v1 v2 : Int) (w : Wd) : Option (Int × Wd) :=
  jcall (f_F_free w) fun r1 u2 =>
  jlet (iand (ishl 1 v1) r1) fun x3 =>
  f_F_within_12 FU v2 x3 0 u2
theorem ct_F_within (v1 v2 : Int) (w : Wd) : Ct y_F_within prog_3_method_15_code 5 (some .int) 4 0 [(2, 6), (0, v1), (0, v2)] w (f_F_within v1 v2 w) := by
  refine ct_of (by decide +kernel) (Or.inl ⟨rfl, rfl⟩) (Nat.le_of_ble_eq_true rfl) ?_
  intro X Qf ad C hn hR hr
  unfold f_F_within
  show VF X Qf ad NF 0 0 w 0 [(0, (2, 6)), (1, (0, v1)), (2, (0, v2))] [] _
  refine vf_iconst C (z := 1) (zdg dz_F_within_0 0 rfl) (jz rfl) ?_
  refine vf_iload_n C (f := 1) (zdg dz_F_within_0 1 rfl) 1 rfl rfl ?_
  refine vf_ishl C (zdg dz_F_within_0 2 rfl) ?_
  refine vf_aload_n C (f := 0) (zdg dz_F_within_0 3 rfl) 0 rfl rfl ?_
  refine vf_callVi C cy_F_free ml_F_80 rfl (ct_F_free _) (S := [(0, ishl 1 v1)]) sh_5 (by decide) rfl (jrm_of hR rfl) rfl rfl (Nat.le_of_ble_eq_true rfl) (zdg dz_F_within_0 4 rfl) (fun r1 u2 => ?_)
  refine vf_iand C (zdg dz_F_within_0 5 rfl) ?_
  generalize iand (ishl 1 v1) r1 = x3
  refine vf_ul ?_
  refine vf_istore_n C (f := 3) (L' := [(0, (2, 6)), (2, (0, v2))]) (zdg dz_F_within_0 6 rfl) [0, 2] (jrI rfl rfl) hn (by decide) rfl ?_
  refine vf_iconst C (z := 0) (zdg dz_F_within_0 7 rfl) (jz rfl) ?_
  refine vf_istore C (i := 4) (L' := [(3, (0, x3)), (0, (2, 6)), (2, (0, v2))]) (zdg dz_F_within_0 8 rfl) [0, 1, 2] (jrI rfl rfl) hn (by decide) ?_
  exact vf_perm [2, 3, 1, 0] rfl (t_F_within_12 C hn hR hr FU _ _ _ _)
def f_E_tellWay_13 : Nat → Int → Int → Int → Wd → Option (Int × Wd)
  | 0, _, _, _, _ => none
  | n + 1, v1, v4, v5, w =>
    if v5 ≤ 0 then
      some (0, w)
    else
      jcall (f_F_within v1 v5 w) fun r3 u4 =>
      jcall (f_E_lowest (iand v4 r3) u4) fun r5 u6 =>
      jcall (f_N_put r5 u6) fun r7 u8 =>
      jcall (f_F_knownBy (ishl 1 r5) u8) fun r9 u10 =>
      jlet (w32 (v5 + (-1))) fun x11 =>
      f_E_tellWay_13 n v1 r9 x11 u10
theorem t_E_tellWay_13 {X : jX} {Qf : Int × Wd → State → Prop} {ad : Nat → Nat} (C : Cx X prog_1_method_58_code "EachBringsAnother") (hn : xn X = 7) (hR : xR X = rmD 5) (hr : Rt X Qf ad prog_1_method_58_code 9) : ∀ (n : Nat) (v1 v4 v5 : Int) (w : Wd), VF X Qf ad NF 0 0 w 13 [(0, (2, 1)), (1, (0, v1)), (4, (0, v4)), (5, (0, v5))] [] (f_E_tellWay_13 n v1 v4 v5 w) := by
  intro n
  induction n with
  | zero => intros; exact vf_no
  | succ n ih =>
    intro v1 v4 v5 w
    rw [f_E_tellWay_13]
    refine vf_iload C (zdg dz_E_tellWay_0 7 rfl) 3 rfl ?_
    refine vf_if_le C (off := 49) (tgt := 64) (zdg dz_E_tellWay_0 8 rfl) (by decide) ?_ ?_
    · exact hr _ _ _ _ (fun h => absurd h (by decide)) (zdg dz_E_tellWay_1 7 rfl)
    · refine vf_iload C (zdg dz_E_tellWay_0 9 rfl) 2 rfl ?_
      refine vf_aload_n C (f := 0) (zdg dz_E_tellWay_0 10 rfl) 0 rfl rfl ?_
      refine vf_getp C fl_E_26 sh_0 rfl (by decide) rfl (x := 6) rfl (zdg dz_E_tellWay_0 11 rfl) ?_
      refine vf_iload_n C (f := 1) (zdg dz_E_tellWay_0 12 rfl) 1 rfl rfl ?_
      refine vf_iload C (zdg dz_E_tellWay_0 13 rfl) 3 rfl ?_
      refine vf_callVi C cy_F_within ml_E_317 rfl (ct_F_within _ _ _) (S := [(0, v4)]) sh_5 (by decide) rfl (jrm_of hR rfl) rfl rfl (Nat.le_of_ble_eq_true rfl) (zdg dz_E_tellWay_0 14 rfl) (fun r3 u4 => ?_)
      refine vf_iand C (zdg dz_E_tellWay_0 15 rfl) ?_
      refine vf_callSi C cy_E_lowest ml_E_394 (ct_E_lowest _ _) (S := []) (jrm_of hR rfl) rfl rfl (Nat.le_of_ble_eq_true rfl) (zdg dz_E_tellWay_0 16 rfl) (fun r5 u6 => ?_)
      refine vf_istore C (i := 6) (L' := [(0, (2, 1)), (1, (0, v1)), (5, (0, v5))]) (zdg dz_E_tellWay_0 17 rfl) [0, 1, 3] (jrI rfl rfl) hn (by decide) ?_
      refine vf_aload_n C (f := 0) (zdg dz_E_tellWay_0 18 rfl) 1 rfl rfl ?_
      refine vf_getp C fl_E_19 sh_0 rfl (by decide) rfl (x := 4) rfl (zdg dz_E_tellWay_0 19 rfl) ?_
      refine vf_iload C (zdg dz_E_tellWay_0 20 rfl) 0 rfl ?_
      refine vf_callVv C cy_N_put ml_E_397 rfl (ct_N_put _ _) (S := []) sh_3 (by decide) rfl (jrm_of hR rfl) rfl rfl (Nat.le_of_ble_eq_true rfl) (zdg dz_E_tellWay_0 21 rfl) (fun r7 u8 => ?_)
      refine vf_aload_n C (f := 0) (zdg dz_E_tellWay_0 22 rfl) 1 rfl rfl ?_
      refine vf_getp C fl_E_26 sh_0 rfl (by decide) rfl (x := 6) rfl (zdg dz_E_tellWay_0 23 rfl) ?_
      refine vf_iconst C (z := 1) (zdg dz_E_tellWay_1 0 rfl) (jz rfl) ?_
      refine vf_iload C (zdg dz_E_tellWay_1 1 rfl) 0 rfl ?_
      refine vf_ishl C (zdg dz_E_tellWay_1 2 rfl) ?_
      refine vf_callVi C cy_F_knownBy ml_E_250 rfl (ct_F_knownBy _ _) (S := []) sh_5 (by decide) rfl (jrm_of hR rfl) rfl rfl (Nat.le_of_ble_eq_true rfl) (zdg dz_E_tellWay_1 3 rfl) (fun r9 u10 => ?_)
      refine vf_istore C (i := 4) (L' := [(0, (2, 1)), (1, (0, v1)), (5, (0, v5))]) (zdg dz_E_tellWay_1 4 rfl) [1, 2, 3] (jrI rfl rfl) hn (by decide) ?_
      refine vf_iinc C (z := (-1)) (L' := [(4, (0, r9)), (0, (2, 1)), (1, (0, v1))]) (zdg dz_E_tellWay_1 5 rfl) 3 rfl [0, 1, 2] (jrI rfl rfl) hn (by decide) ?_
      generalize w32 (v5 + (-1)) = x11
      refine vf_ul ?_
      refine vf_goto C (off := (-48)) (tgt := 13) (zdg dz_E_tellWay_1 6 rfl) (by decide) ?_
      exact vf_perm [2, 3, 1, 0] rfl (ih _ _ _ _)
def f_E_tellWay (v1 v2 v3 : Int) (w : Wd) : Option (Int × Wd) :=
  jcall (f_N_clear w) fun r1 u2 =>
  f_E_tellWay_13 FU v1 v3 v2 u2
theorem ct_E_tellWay (v1 v2 v3 : Int) (w : Wd) : Ct y_E_tellWay prog_1_method_58_code 7 none 5 9 [(2, 1), (0, v1), (0, v2), (0, v3)] w (f_E_tellWay v1 v2 v3 w) := by
  refine ct_of (by decide +kernel) (Or.inr (Or.inr (Or.inr ⟨rfl, rfl⟩))) (Nat.le_of_ble_eq_true rfl) ?_
  intro X Qf ad C hn hR hr
  unfold f_E_tellWay
  show VF X Qf ad NF 0 0 w 0 [(0, (2, 1)), (1, (0, v1)), (2, (0, v2)), (3, (0, v3))] [] _
  refine vf_aload_n C (f := 0) (zdg dz_E_tellWay_0 0 rfl) 0 rfl rfl ?_
  refine vf_getp C fl_E_19 sh_0 rfl (by decide) rfl (x := 4) rfl (zdg dz_E_tellWay_0 1 rfl) ?_
  refine vf_callVv C cy_N_clear ml_E_306 rfl (ct_N_clear _) (S := []) sh_3 (by decide) rfl (jrm_of hR rfl) rfl rfl (Nat.le_of_ble_eq_true rfl) (zdg dz_E_tellWay_0 2 rfl) (fun r1 u2 => ?_)
  refine vf_iload_n C (f := 3) (zdg dz_E_tellWay_0 3 rfl) 3 rfl rfl ?_
  refine vf_istore C (i := 4) (L' := [(0, (2, 1)), (1, (0, v1)), (2, (0, v2))]) (zdg dz_E_tellWay_0 4 rfl) [0, 1, 2] (jrI rfl rfl) hn (by decide) ?_
  refine vf_iload_n C (f := 2) (zdg dz_E_tellWay_0 5 rfl) 3 rfl rfl ?_
  refine vf_istore C (i := 5) (L' := [(4, (0, v3)), (0, (2, 1)), (1, (0, v1))]) (zdg dz_E_tellWay_0 6 rfl) [0, 1, 2] (jrI rfl rfl) hn (by decide) ?_
  exact vf_perm [2, 3, 1, 0] rfl (t_E_tellWay_13 C hn hR hr FU _ _ _ _)
def f_E_far_118 (v1 v2 v3 : Int) (w : Wd) : Option (Int × Wd) :=
  if v3 = (-1) then
    some ((-2), w)
  else
    jcall (f_E_tellWay v1 v3 v2 w) fun r15 u16 =>
    some (w32 (v3 + 1), u16)
theorem t_E_far_118 {X : jX} {Qf : Int × Wd → State → Prop} {ad : Nat → Nat} (C : Cx X prog_1_method_34_code "EachBringsAnother") (hn : xn X = 5) (hR : xR X = rmD 6) (hr : Rt X Qf ad prog_1_method_34_code 0) (v1 v2 v3 : Int) (w : Wd) : VF X Qf ad NF 0 0 w 118 [(0, (2, 1)), (1, (0, v1)), (2, (0, v2)), (3, (0, v3))] [] (f_E_far_118 v1 v2 v3 w) := by
  unfold f_E_far_118
  refine vf_iload_n C (f := 3) (zdg dz_E_far_2 11 rfl) 3 rfl rfl ?_
  refine vf_iconst C (z := (-1)) (zdg dz_E_far_2 12 rfl) (jz rfl) ?_
  refine vf_icmp_ne C (off := 6) (tgt := 126) (zdg dz_E_far_2 13 rfl) (by decide) ?_ ?_
  · refine vf_aload_n C (f := 0) (zdg dz_E_far_2 16 rfl) 0 rfl rfl ?_
    refine vf_iload_n C (f := 1) (zdg dz_E_far_2 17 rfl) 1 rfl rfl ?_
    refine vf_iload_n C (f := 3) (zdg dz_E_far_2 18 rfl) 3 rfl rfl ?_
    refine vf_iload_n C (f := 2) (zdg dz_E_far_2 19 rfl) 2 rfl rfl ?_
    refine vf_callVv C cy_E_tellWay ml_E_320 rfl (ct_E_tellWay _ _ _ _) (S := []) sh_0 (by decide) rfl (jrm_of hR rfl) rfl rfl (Nat.le_of_ble_eq_true rfl) (zdg dz_E_far_2 20 rfl) (fun r15 u16 => ?_)
    refine vf_iload_n C (f := 3) (zdg dz_E_far_2 21 rfl) 3 rfl rfl ?_
    refine vf_iconst C (z := 1) (zdg dz_E_far_2 22 rfl) (jz rfl) ?_
    refine vf_iadd C (zdg dz_E_far_2 23 rfl) ?_
    exact hr _ _ _ _ (fun h => absurd h (by decide)) (zdg dz_E_far_3 0 rfl)
  · refine vf_bipush C (z := (-2)) (zdg dz_E_far_2 14 rfl) (by decide +kernel) (jz rfl) ?_
    exact hr _ _ _ _ (fun h => absurd h (by decide)) (zdg dz_E_far_2 15 rfl)
def f_E_far_111 (k73 : Int → Int → Int → Int → Wd → Option (Int × Wd)) (v1 v2 v4 s0 : Int) (w : Wd) : Option (Int × Wd) :=
  jlet (w32 (v4 + 1)) fun x19 =>
  k73 v1 v2 s0 x19 w
theorem t_E_far_111 {X : jX} {Qf : Int × Wd → State → Prop} {ad : Nat → Nat} (C : Cx X prog_1_method_34_code "EachBringsAnother") (hn : xn X = 5) (hR : xR X = rmD 6) (hr : Rt X Qf ad prog_1_method_34_code 0) {k73 : Int → Int → Int → Int → Wd → Option (Int × Wd)} (hk73 : ∀ (v1 v2 v3 v4 : Int) (w : Wd), VF X Qf ad NF 0 0 w 73 [(0, (2, 1)), (1, (0, v1)), (2, (0, v2)), (3, (0, v3)), (4, (0, v4))] [] (k73 v1 v2 v3 v4 w)) (v1 v2 v4 s0 : Int) (w : Wd) : VF X Qf ad NF 0 0 w 111 [(0, (2, 1)), (1, (0, v1)), (2, (0, v2)), (4, (0, v4))] [(0, s0)] (f_E_far_111 k73 v1 v2 v4 s0 w) := by
  unfold f_E_far_111
  refine vf_istore_n C (f := 3) (L' := [(0, (2, 1)), (1, (0, v1)), (2, (0, v2)), (4, (0, v4))]) (zdg dz_E_far_2 8 rfl) [0, 1, 2, 3] (jrI rfl rfl) hn (by decide) rfl ?_
  refine vf_iinc C (z := 1) (L' := [(3, (0, s0)), (0, (2, 1)), (1, (0, v1)), (2, (0, v2))]) (zdg dz_E_far_2 9 rfl) 4 rfl [0, 1, 2, 3] (jrI rfl rfl) hn (by decide) ?_
  generalize w32 (v4 + 1) = x19
  refine vf_ul ?_
  refine vf_goto C (off := (-42)) (tgt := 73) (zdg dz_E_far_2 10 rfl) (by decide) ?_
  exact vf_perm [2, 3, 4, 1, 0] rfl (hk73 _ _ _ _ _)
def f_E_far_73 : Nat → Int → Int → Int → Int → Wd → Option (Int × Wd)
  | 0, _, _, _, _, _ => none
  | n + 1, v1, v2, v3, v4, w =>
    if (w 5 3) ≤ v4 then
      f_E_far_118 v1 v2 v3 w
    else
      if v3 = (-1) then
        jcall (f_F_within v1 v4 w) fun r17 u18 =>
        if (iand r17 v2) = 0 then
          f_E_far_111 (f_E_far_73 n) v1 v2 v4 (-1) u18
        else
          f_E_far_111 (f_E_far_73 n) v1 v2 v4 v4 u18
      else
        f_E_far_118 v1 v2 v3 w
theorem t_E_far_73 {X : jX} {Qf : Int × Wd → State → Prop} {ad : Nat → Nat} (C : Cx X prog_1_method_34_code "EachBringsAnother") (hn : xn X = 5) (hR : xR X = rmD 6) (hr : Rt X Qf ad prog_1_method_34_code 0) : ∀ (n : Nat) (v1 v2 v3 v4 : Int) (w : Wd), VF X Qf ad NF 0 0 w 73 [(0, (2, 1)), (1, (0, v1)), (2, (0, v2)), (3, (0, v3)), (4, (0, v4))] [] (f_E_far_73 n v1 v2 v3 v4 w) := by
  intro n
  induction n with
  | zero => intros; exact vf_no
  | succ n ih =>
    intro v1 v2 v3 v4 w
    rw [f_E_far_73]
    refine vf_iload C (zdg dz_E_far_1 13 rfl) 4 rfl ?_
    refine vf_aload_n C (f := 0) (zdg dz_E_far_1 14 rfl) 0 rfl rfl ?_
    refine vf_getp C fl_E_26 sh_0 rfl (by decide) rfl (x := 6) rfl (zdg dz_E_far_1 15 rfl) ?_
    refine vf_get C (kd := 0) fl_E_87 sh_5 rfl (by decide) rfl rfl (zdg dz_E_far_1 16 rfl) ?_
    refine vf_icmp_ge C (off := 36) (tgt := 118) (zdg dz_E_far_1 17 rfl) (by decide) ?_ ?_
    · exact vf_perm [0, 1, 2, 3] rfl (t_E_far_118 C hn hR hr _ _ _ _)
    · refine vf_iload_n C (f := 3) (zdg dz_E_far_1 18 rfl) 3 rfl rfl ?_
      refine vf_iconst C (z := (-1)) (zdg dz_E_far_1 19 rfl) (jz rfl) ?_
      refine vf_icmp_ne C (off := 31) (tgt := 118) (zdg dz_E_far_1 20 rfl) (by decide) ?_ ?_
      · exact vf_perm [0, 1, 2, 3] rfl (t_E_far_118 C hn hR hr _ _ _ _)
      · refine vf_aload_n C (f := 0) (zdg dz_E_far_1 21 rfl) 0 rfl rfl ?_
        refine vf_getp C fl_E_26 sh_0 rfl (by decide) rfl (x := 6) rfl (zdg dz_E_far_1 22 rfl) ?_
        refine vf_iload_n C (f := 1) (zdg dz_E_far_1 23 rfl) 1 rfl rfl ?_
        refine vf_iload C (zdg dz_E_far_2 0 rfl) 4 rfl ?_
        refine vf_callVi C cy_F_within ml_E_317 rfl (ct_F_within _ _ _) (S := []) sh_5 (by decide) rfl (jrm_of hR rfl) rfl rfl (Nat.le_of_ble_eq_true rfl) (zdg dz_E_far_2 1 rfl) (fun r17 u18 => ?_)
        refine vf_iload_n C (f := 2) (zdg dz_E_far_2 2 rfl) 2 rfl rfl ?_
        refine vf_iand C (zdg dz_E_far_2 3 rfl) ?_
        refine vf_if_eq C (off := 8) (tgt := 110) (zdg dz_E_far_2 4 rfl) (by decide) ?_ ?_
        · refine vf_iconst C (z := (-1)) (zdg dz_E_far_2 7 rfl) (jz rfl) ?_
          exact vf_perm [0, 1, 2, 4] rfl (t_E_far_111 C hn hR hr ih _ _ _ _ _)
        · refine vf_iload C (zdg dz_E_far_2 5 rfl) 4 rfl ?_
          refine vf_goto C (off := 4) (tgt := 111) (zdg dz_E_far_2 6 rfl) (by decide) ?_
          exact vf_perm [0, 1, 2, 4] rfl (t_E_far_111 C hn hR hr ih _ _ _ _ _)
def f_E_far (v1 : Int) (w : Wd) : Option (Int × Wd) :=
  jcall (f_F_isThere v1 w) fun r1 u2 =>
  if r1 = 0 then
    some ((-1), u2)
  else
    jcall (f_F_guests u2) fun r3 u4 =>
    jcall (f_E_has r3 v1 u4) fun r5 u6 =>
    if r5 = 0 then
      jcall (f_F_free u6) fun r7 u8 =>
      jcall (f_E_has r7 v1 u8) fun r9 u10 =>
      if r9 = 0 then
        some ((-2), u10)
      else
        jcall (f_F_guests u10) fun r11 u12 =>
        jcall (f_F_knownBy r11 u12) fun r13 u14 =>
        f_E_far_73 FU v1 r13 (-1) 0 u14
    else
      jcall (f_N_clear u6) fun r20 u21 =>
      some (0, u21)
theorem ct_E_far (v1 : Int) (w : Wd) : Ct y_E_far prog_1_method_34_code 5 (some .int) 6 0 [(2, 1), (0, v1)] w (f_E_far v1 w) := by
  refine ct_of (by decide +kernel) (Or.inl ⟨rfl, rfl⟩) (Nat.le_of_ble_eq_true rfl) ?_
  intro X Qf ad C hn hR hr
  unfold f_E_far
  show VF X Qf ad NF 0 0 w 0 [(0, (2, 1)), (1, (0, v1))] [] _
  refine vf_aload_n C (f := 0) (zdg dz_E_far_0 0 rfl) 0 rfl rfl ?_
  refine vf_getp C fl_E_26 sh_0 rfl (by decide) rfl (x := 6) rfl (zdg dz_E_far_0 1 rfl) ?_
  refine vf_iload_n C (f := 1) (zdg dz_E_far_0 2 rfl) 1 rfl rfl ?_
  refine vf_callVz C cy_F_isThere ml_E_108 rfl (ct_F_isThere _ _) (S := []) sh_5 (by decide) rfl (jrm_of hR rfl) rfl rfl (Nat.le_of_ble_eq_true rfl) (zdg dz_E_far_0 3 rfl) (fun r1 u2 => ?_)
  refine vf_if_ne C (off := 5) (tgt := 13) (zdg dz_E_far_0 4 rfl) (by decide) ?_ ?_
  · refine vf_aload_n C (f := 0) (zdg dz_E_far_0 7 rfl) 0 rfl rfl ?_
    refine vf_getp C fl_E_26 sh_0 rfl (by decide) rfl (x := 6) rfl (zdg dz_E_far_0 8 rfl) ?_
    refine vf_callVi C cy_F_guests ml_E_136 rfl (ct_F_guests _) (S := []) sh_5 (by decide) rfl (jrm_of hR rfl) rfl rfl (Nat.le_of_ble_eq_true rfl) (zdg dz_E_far_0 9 rfl) (fun r3 u4 => ?_)
    refine vf_iload_n C (f := 1) (zdg dz_E_far_0 10 rfl) 1 rfl rfl ?_
    refine vf_callSz C cy_E_has ml_E_128 (ct_E_has _ _ _) (S := []) (jrm_of hR rfl) rfl rfl (Nat.le_of_ble_eq_true rfl) (zdg dz_E_far_0 11 rfl) (fun r5 u6 => ?_)
    refine vf_if_eq C (off := 12) (tgt := 36) (zdg dz_E_far_0 12 rfl) (by decide) ?_ ?_
    · refine vf_aload_n C (f := 0) (zdg dz_E_far_0 18 rfl) 0 rfl rfl ?_
      refine vf_getp C fl_E_26 sh_0 rfl (by decide) rfl (x := 6) rfl (zdg dz_E_far_0 19 rfl) ?_
      refine vf_callVi C cy_F_free ml_E_253 rfl (ct_F_free _) (S := []) sh_5 (by decide) rfl (jrm_of hR rfl) rfl rfl (Nat.le_of_ble_eq_true rfl) (zdg dz_E_far_0 20 rfl) (fun r7 u8 => ?_)
      refine vf_iload_n C (f := 1) (zdg dz_E_far_0 21 rfl) 1 rfl rfl ?_
      refine vf_callSz C cy_E_has ml_E_128 (ct_E_has _ _ _) (S := []) (jrm_of hR rfl) rfl rfl (Nat.le_of_ble_eq_true rfl) (zdg dz_E_far_0 22 rfl) (fun r9 u10 => ?_)
      refine vf_if_ne C (off := 6) (tgt := 53) (zdg dz_E_far_0 23 rfl) (by decide) ?_ ?_
      · refine vf_aload_n C (f := 0) (zdg dz_E_far_1 2 rfl) 0 rfl rfl ?_
        refine vf_getp C fl_E_26 sh_0 rfl (by decide) rfl (x := 6) rfl (zdg dz_E_far_1 3 rfl) ?_
        refine vf_aload_n C (f := 0) (zdg dz_E_far_1 4 rfl) 0 rfl rfl ?_
        refine vf_getp C fl_E_26 sh_0 rfl (by decide) rfl (x := 6) rfl (zdg dz_E_far_1 5 rfl) ?_
        refine vf_callVi C cy_F_guests ml_E_136 rfl (ct_F_guests _) (S := [(2, 6)]) sh_5 (by decide) rfl (jrm_of hR rfl) rfl rfl (Nat.le_of_ble_eq_true rfl) (zdg dz_E_far_1 6 rfl) (fun r11 u12 => ?_)
        refine vf_callVi C cy_F_knownBy ml_E_250 rfl (ct_F_knownBy _ _) (S := []) sh_5 (by decide) rfl (jrm_of hR rfl) rfl rfl (Nat.le_of_ble_eq_true rfl) (zdg dz_E_far_1 7 rfl) (fun r13 u14 => ?_)
        refine vf_istore_n C (f := 2) (L' := [(0, (2, 1)), (1, (0, v1))]) (zdg dz_E_far_1 8 rfl) [0, 1] (jrI rfl rfl) hn (by decide) rfl ?_
        refine vf_iconst C (z := (-1)) (zdg dz_E_far_1 9 rfl) (jz rfl) ?_
        refine vf_istore_n C (f := 3) (L' := [(2, (0, r13)), (0, (2, 1)), (1, (0, v1))]) (zdg dz_E_far_1 10 rfl) [0, 1, 2] (jrI rfl rfl) hn (by decide) rfl ?_
        refine vf_iconst C (z := 0) (zdg dz_E_far_1 11 rfl) (jz rfl) ?_
        refine vf_istore C (i := 4) (L' := [(3, (0, (-1))), (2, (0, r13)), (0, (2, 1)), (1, (0, v1))]) (zdg dz_E_far_1 12 rfl) [0, 1, 2, 3] (jrI rfl rfl) hn (by decide) ?_
        exact vf_perm [3, 4, 2, 1, 0] rfl (t_E_far_73 C hn hR hr FU _ _ _ _ _)
      · refine vf_bipush C (z := (-2)) (zdg dz_E_far_1 0 rfl) (by decide +kernel) (jz rfl) ?_
        exact hr _ _ _ _ (fun h => absurd h (by decide)) (zdg dz_E_far_1 1 rfl)
    · refine vf_aload_n C (f := 0) (zdg dz_E_far_0 13 rfl) 0 rfl rfl ?_
      refine vf_getp C fl_E_19 sh_0 rfl (by decide) rfl (x := 4) rfl (zdg dz_E_far_0 14 rfl) ?_
      refine vf_callVv C cy_N_clear ml_E_306 rfl (ct_N_clear _) (S := []) sh_3 (by decide) rfl (jrm_of hR rfl) rfl rfl (Nat.le_of_ble_eq_true rfl) (zdg dz_E_far_0 15 rfl) (fun r20 u21 => ?_)
      refine vf_iconst C (z := 0) (zdg dz_E_far_0 16 rfl) (jz rfl) ?_
      exact hr _ _ _ _ (fun h => absurd h (by decide)) (zdg dz_E_far_0 17 rfl)
  · refine vf_iconst C (z := (-1)) (zdg dz_E_far_0 5 rfl) (jz rfl) ?_
    exact hr _ _ _ _ (fun h => absurd h (by decide)) (zdg dz_E_far_0 6 rfl)
def f_F_broughtBy (v1 : Int) (w : Wd) : Option (Int × Wd) :=
  jcall (f_F_isThere v1 w) fun r1 u2 =>
  if r1 = 0 then
    some ((-1), u2)
  else
    jgd ((0 : Int) ≤ v1 ∧ v1 < 10) <|
    some (u2 8 v1.toNat, u2)
theorem ct_F_broughtBy (v1 : Int) (w : Wd) : Ct y_F_broughtBy prog_3_method_12_code 2 (some .int) 2 0 [(2, 6), (0, v1)] w (f_F_broughtBy v1 w) := by
  refine ct_of (by decide +kernel) (Or.inl ⟨rfl, rfl⟩) (Nat.le_of_ble_eq_true rfl) ?_
  intro X Qf ad C hn hR hr
  unfold f_F_broughtBy
  show VF X Qf ad NF 0 0 w 0 [(0, (2, 6)), (1, (0, v1))] [] _
  refine vf_aload_n C (f := 0) (zdg dz_F_broughtBy_0 0 rfl) 0 rfl rfl ?_
  refine vf_iload_n C (f := 1) (zdg dz_F_broughtBy_0 1 rfl) 1 rfl rfl ?_
  refine vf_callVz C cy_F_isThere ml_F_70 rfl (ct_F_isThere _ _) (S := []) sh_5 (by decide) rfl (jrm_of hR rfl) rfl rfl (Nat.le_of_ble_eq_true rfl) (zdg dz_F_broughtBy_0 2 rfl) (fun r1 u2 => ?_)
  refine vf_if_eq C (off := 12) (tgt := 17) (zdg dz_F_broughtBy_0 3 rfl) (by decide) ?_ ?_
  · refine vf_iconst C (z := (-1)) (zdg dz_F_broughtBy_0 9 rfl) (jz rfl) ?_
    exact hr _ _ _ _ (fun h => absurd h (by decide)) (zdg dz_F_broughtBy_0 10 rfl)
  · refine vf_aload_n C (f := 0) (zdg dz_F_broughtBy_0 4 rfl) 0 rfl rfl ?_
    refine vf_getp C fl_F_18 sh_5 rfl (by decide) rfl (x := 9) rfl (zdg dz_F_broughtBy_0 5 rfl) ?_
    refine vf_iload_n C (f := 1) (zdg dz_F_broughtBy_0 6 rfl) 1 rfl rfl ?_
    refine vf_iald C sh_8 (by decide) rfl (mz := 10) rfl (zdg dz_F_broughtBy_0 7 rfl) ?_
    refine vf_goto C (off := 4) (tgt := 18) (zdg dz_F_broughtBy_0 8 rfl) (by decide) ?_
    exact hr _ _ _ _ (fun h => absurd h (by decide)) (zdg dz_F_broughtBy_0 10 rfl)
def f_E_line_70 (w : Wd) : Option (Int × Wd) :=
  some (w 3 1, w)
theorem t_E_line_70 {X : jX} {Qf : Int × Wd → State → Prop} {ad : Nat → Nat} (C : Cx X prog_1_method_35_code "EachBringsAnother") (hn : xn X = 4) (hR : xR X = rmD 3) (hr : Rt X Qf ad prog_1_method_35_code 0) (w : Wd) : VF X Qf ad NF 0 0 w 70 [(0, (2, 1))] [] (f_E_line_70 w) := by
  unfold f_E_line_70
  refine vf_aload_n C (f := 0) (zdg dz_E_line_1 12 rfl) 0 rfl rfl ?_
  refine vf_getp C fl_E_19 sh_0 rfl (by decide) rfl (x := 4) rfl (zdg dz_E_line_1 13 rfl) ?_
  refine vf_get C (kd := 0) fl_E_244 sh_3 rfl (by decide) rfl rfl (zdg dz_E_line_1 14 rfl) ?_
  exact hr _ _ _ _ (fun h => absurd h (by decide)) (zdg dz_E_line_1 15 rfl)
def f_E_line_31 : Nat → Int → Int → Wd → Option (Int × Wd)
  | 0, _, _, _ => none
  | n + 1, v2, v3, w =>
    if (w 5 3) ≤ v3 then
      f_E_line_70 w
    else
      if v2 = (-1) then
        f_E_line_70 w
      else
        jcall (f_N_putFirst v2 w) fun r7 u8 =>
        jcall (f_F_broughtBy v2 u8) fun r9 u10 =>
        jlet (w32 (v3 + 1)) fun x11 =>
        f_E_line_31 n r9 x11 u10
theorem t_E_line_31 {X : jX} {Qf : Int × Wd → State → Prop} {ad : Nat → Nat} (C : Cx X prog_1_method_35_code "EachBringsAnother") (hn : xn X = 4) (hR : xR X = rmD 3) (hr : Rt X Qf ad prog_1_method_35_code 0) : ∀ (n : Nat) (v2 v3 : Int) (w : Wd), VF X Qf ad NF 0 0 w 31 [(0, (2, 1)), (2, (0, v2)), (3, (0, v3))] [] (f_E_line_31 n v2 v3 w) := by
  intro n
  induction n with
  | zero => intros; exact vf_no
  | succ n ih =>
    intro v2 v3 w
    rw [f_E_line_31]
    refine vf_iload_n C (f := 3) (zdg dz_E_line_0 17 rfl) 2 rfl rfl ?_
    refine vf_aload_n C (f := 0) (zdg dz_E_line_0 18 rfl) 0 rfl rfl ?_
    refine vf_getp C fl_E_26 sh_0 rfl (by decide) rfl (x := 6) rfl (zdg dz_E_line_0 19 rfl) ?_
    refine vf_get C (kd := 0) fl_E_87 sh_5 rfl (by decide) rfl rfl (zdg dz_E_line_0 20 rfl) ?_
    refine vf_icmp_ge C (off := 31) (tgt := 70) (zdg dz_E_line_0 21 rfl) (by decide) ?_ ?_
    · exact vf_perm [0] rfl (t_E_line_70 C hn hR hr _)
    · refine vf_iload_n C (f := 2) (zdg dz_E_line_0 22 rfl) 1 rfl rfl ?_
      refine vf_iconst C (z := (-1)) (zdg dz_E_line_0 23 rfl) (jz rfl) ?_
      refine vf_icmp_eq C (off := 26) (tgt := 70) (zdg dz_E_line_1 0 rfl) (by decide) ?_ ?_
      · exact vf_perm [0] rfl (t_E_line_70 C hn hR hr _)
      · refine vf_aload_n C (f := 0) (zdg dz_E_line_1 1 rfl) 0 rfl rfl ?_
        refine vf_getp C fl_E_19 sh_0 rfl (by decide) rfl (x := 4) rfl (zdg dz_E_line_1 2 rfl) ?_
        refine vf_iload_n C (f := 2) (zdg dz_E_line_1 3 rfl) 1 rfl rfl ?_
        refine vf_callVv C cy_N_putFirst ml_E_327 rfl (ct_N_putFirst _ _) (S := []) sh_3 (by decide) rfl (jrm_of hR rfl) rfl rfl (Nat.le_of_ble_eq_true rfl) (zdg dz_E_line_1 4 rfl) (fun r7 u8 => ?_)
        refine vf_aload_n C (f := 0) (zdg dz_E_line_1 5 rfl) 0 rfl rfl ?_
        refine vf_getp C fl_E_26 sh_0 rfl (by decide) rfl (x := 6) rfl (zdg dz_E_line_1 6 rfl) ?_
        refine vf_iload_n C (f := 2) (zdg dz_E_line_1 7 rfl) 1 rfl rfl ?_
        refine vf_callVi C cy_F_broughtBy ml_E_324 rfl (ct_F_broughtBy _ _) (S := []) sh_5 (by decide) rfl (jrm_of hR rfl) rfl rfl (Nat.le_of_ble_eq_true rfl) (zdg dz_E_line_1 8 rfl) (fun r9 u10 => ?_)
        refine vf_istore_n C (f := 2) (L' := [(0, (2, 1)), (3, (0, v3))]) (zdg dz_E_line_1 9 rfl) [0, 2] (jrI rfl rfl) hn (by decide) rfl ?_
        refine vf_iinc C (z := 1) (L' := [(2, (0, r9)), (0, (2, 1))]) (zdg dz_E_line_1 10 rfl) 2 rfl [0, 1] (jrI rfl rfl) hn (by decide) ?_
        generalize w32 (v3 + 1) = x11
        refine vf_ul ?_
        refine vf_goto C (off := (-36)) (tgt := 31) (zdg dz_E_line_1 11 rfl) (by decide) ?_
        exact vf_perm [2, 1, 0] rfl (ih _ _ _)
def f_E_line (v1 : Int) (w : Wd) : Option (Int × Wd) :=
  jcall (f_F_isThere v1 w) fun r1 u2 =>
  if r1 = 0 then
    some ((-1), u2)
  else
    jcall (f_N_clear u2) fun r3 u4 =>
    jcall (f_F_broughtBy v1 u4) fun r5 u6 =>
    f_E_line_31 FU r5 0 u6
theorem ct_E_line (v1 : Int) (w : Wd) : Ct y_E_line prog_1_method_35_code 4 (some .int) 3 0 [(2, 1), (0, v1)] w (f_E_line v1 w) := by
  refine ct_of (by decide +kernel) (Or.inl ⟨rfl, rfl⟩) (Nat.le_of_ble_eq_true rfl) ?_
  intro X Qf ad C hn hR hr
  unfold f_E_line
  show VF X Qf ad NF 0 0 w 0 [(0, (2, 1)), (1, (0, v1))] [] _
  refine vf_aload_n C (f := 0) (zdg dz_E_line_0 0 rfl) 0 rfl rfl ?_
  refine vf_getp C fl_E_26 sh_0 rfl (by decide) rfl (x := 6) rfl (zdg dz_E_line_0 1 rfl) ?_
  refine vf_iload_n C (f := 1) (zdg dz_E_line_0 2 rfl) 1 rfl rfl ?_
  refine vf_callVz C cy_F_isThere ml_E_108 rfl (ct_F_isThere _ _) (S := []) sh_5 (by decide) rfl (jrm_of hR rfl) rfl rfl (Nat.le_of_ble_eq_true rfl) (zdg dz_E_line_0 3 rfl) (fun r1 u2 => ?_)
  refine vf_if_ne C (off := 5) (tgt := 13) (zdg dz_E_line_0 4 rfl) (by decide) ?_ ?_
  · refine vf_aload_n C (f := 0) (zdg dz_E_line_0 7 rfl) 0 rfl rfl ?_
    refine vf_getp C fl_E_19 sh_0 rfl (by decide) rfl (x := 4) rfl (zdg dz_E_line_0 8 rfl) ?_
    refine vf_callVv C cy_N_clear ml_E_306 rfl (ct_N_clear _) (S := []) sh_3 (by decide) rfl (jrm_of hR rfl) rfl rfl (Nat.le_of_ble_eq_true rfl) (zdg dz_E_line_0 9 rfl) (fun r3 u4 => ?_)
    refine vf_aload_n C (f := 0) (zdg dz_E_line_0 10 rfl) 0 rfl rfl ?_
    refine vf_getp C fl_E_26 sh_0 rfl (by decide) rfl (x := 6) rfl (zdg dz_E_line_0 11 rfl) ?_
    refine vf_iload_n C (f := 1) (zdg dz_E_line_0 12 rfl) 1 rfl rfl ?_
    refine vf_callVi C cy_F_broughtBy ml_E_324 rfl (ct_F_broughtBy _ _) (S := []) sh_5 (by decide) rfl (jrm_of hR rfl) rfl rfl (Nat.le_of_ble_eq_true rfl) (zdg dz_E_line_0 13 rfl) (fun r5 u6 => ?_)
    refine vf_istore_n C (f := 2) (L' := [(0, (2, 1))]) (zdg dz_E_line_0 14 rfl) [0] (jrI rfl rfl) hn (by decide) rfl ?_
    refine vf_iconst C (z := 0) (zdg dz_E_line_0 15 rfl) (jz rfl) ?_
    refine vf_istore_n C (f := 3) (L' := [(2, (0, r5)), (0, (2, 1))]) (zdg dz_E_line_0 16 rfl) [0, 1] (jrI rfl rfl) hn (by decide) rfl ?_
    exact vf_perm [2, 1, 0] rfl (t_E_line_31 C hn hR hr FU _ _ _)
  · refine vf_iconst C (z := (-1)) (zdg dz_E_line_0 5 rfl) (jz rfl) ?_
    exact hr _ _ _ _ (fun h => absurd h (by decide)) (zdg dz_E_line_0 6 rfl)
def f_F_stepsUp_5 : Nat → Int → Int → Int → Wd → Option (Int × Wd)
  | 0, _, _, _, _ => none
  | n + 1, v2, v3, v4, w =>
    if (w 5 3) ≤ v4 then
      some ((-1), w)
    else
      if v3 = (-1) then
        some ((-1), w)
      else
        if v3 = v2 then
          some (v4, w)
        else
          jcall (f_F_broughtBy v3 w) fun r1 u2 =>
          jlet (w32 (v4 + 1)) fun x3 =>
          f_F_stepsUp_5 n v2 r1 x3 u2
theorem t_F_stepsUp_5 {X : jX} {Qf : Int × Wd → State → Prop} {ad : Nat → Nat} (C : Cx X prog_3_method_13_code "EachBringsAnother$Folk") (hn : xn X = 5) (hR : xR X = rmD 3) (hr : Rt X Qf ad prog_3_method_13_code 0) : ∀ (n : Nat) (v2 v3 v4 : Int) (w : Wd), VF X Qf ad NF 0 0 w 5 [(0, (2, 6)), (2, (0, v2)), (3, (0, v3)), (4, (0, v4))] [] (f_F_stepsUp_5 n v2 v3 v4 w) := by
  intro n
  induction n with
  | zero => intros; exact vf_no
  | succ n ih =>
    intro v2 v3 v4 w
    rw [f_F_stepsUp_5]
    refine vf_iload C (zdg dz_F_stepsUp_0 4 rfl) 3 rfl ?_
    refine vf_aload_n C (f := 0) (zdg dz_F_stepsUp_0 5 rfl) 0 rfl rfl ?_
    refine vf_get C (kd := 0) fl_F_28 sh_5 rfl (by decide) rfl rfl (zdg dz_F_stepsUp_0 6 rfl) ?_
    refine vf_icmp_ge C (off := 28) (tgt := 39) (zdg dz_F_stepsUp_0 7 rfl) (by decide) ?_ ?_
    · refine vf_iconst C (z := (-1)) (zdg dz_F_stepsUp_0 22 rfl) (jz rfl) ?_
      exact hr _ _ _ _ (fun h => absurd h (by decide)) (zdg dz_F_stepsUp_0 23 rfl)
    · refine vf_iload_n C (f := 3) (zdg dz_F_stepsUp_0 8 rfl) 2 rfl rfl ?_
      refine vf_iconst C (z := (-1)) (zdg dz_F_stepsUp_0 9 rfl) (jz rfl) ?_
      refine vf_icmp_eq C (off := 23) (tgt := 39) (zdg dz_F_stepsUp_0 10 rfl) (by decide) ?_ ?_
      · refine vf_iconst C (z := (-1)) (zdg dz_F_stepsUp_0 22 rfl) (jz rfl) ?_
        exact hr _ _ _ _ (fun h => absurd h (by decide)) (zdg dz_F_stepsUp_0 23 rfl)
      · refine vf_iload_n C (f := 3) (zdg dz_F_stepsUp_0 11 rfl) 2 rfl rfl ?_
        refine vf_iload_n C (f := 2) (zdg dz_F_stepsUp_0 12 rfl) 1 rfl rfl ?_
        refine vf_icmp_ne C (off := 6) (tgt := 27) (zdg dz_F_stepsUp_0 13 rfl) (by decide) ?_ ?_
        · refine vf_aload_n C (f := 0) (zdg dz_F_stepsUp_0 16 rfl) 0 rfl rfl ?_
          refine vf_iload_n C (f := 3) (zdg dz_F_stepsUp_0 17 rfl) 2 rfl rfl ?_
          refine vf_callVi C cy_F_broughtBy ml_F_74 rfl (ct_F_broughtBy _ _) (S := []) sh_5 (by decide) rfl (jrm_of hR rfl) rfl rfl (Nat.le_of_ble_eq_true rfl) (zdg dz_F_stepsUp_0 18 rfl) (fun r1 u2 => ?_)
          refine vf_istore_n C (f := 3) (L' := [(0, (2, 6)), (2, (0, v2)), (4, (0, v4))]) (zdg dz_F_stepsUp_0 19 rfl) [0, 1, 3] (jrI rfl rfl) hn (by decide) rfl ?_
          refine vf_iinc C (z := 1) (L' := [(3, (0, r1)), (0, (2, 6)), (2, (0, v2))]) (zdg dz_F_stepsUp_0 20 rfl) 3 rfl [0, 1, 2] (jrI rfl rfl) hn (by decide) ?_
          generalize w32 (v4 + 1) = x3
          refine vf_ul ?_
          refine vf_goto C (off := (-31)) (tgt := 5) (zdg dz_F_stepsUp_0 21 rfl) (by decide) ?_
          exact vf_perm [2, 3, 1, 0] rfl (ih _ _ _ _)
        · refine vf_iload C (zdg dz_F_stepsUp_0 14 rfl) 3 rfl ?_
          exact hr _ _ _ _ (fun h => absurd h (by decide)) (zdg dz_F_stepsUp_0 15 rfl)
def f_F_stepsUp (v1 v2 : Int) (w : Wd) : Option (Int × Wd) :=
  f_F_stepsUp_5 FU v2 v1 0 w
theorem ct_F_stepsUp (v1 v2 : Int) (w : Wd) : Ct y_F_stepsUp prog_3_method_13_code 5 (some .int) 3 0 [(2, 6), (0, v1), (0, v2)] w (f_F_stepsUp v1 v2 w) := by
  refine ct_of (by decide +kernel) (Or.inl ⟨rfl, rfl⟩) (Nat.le_of_ble_eq_true rfl) ?_
  intro X Qf ad C hn hR hr
  unfold f_F_stepsUp
  show VF X Qf ad NF 0 0 w 0 [(0, (2, 6)), (1, (0, v1)), (2, (0, v2))] [] _
  refine vf_iload_n C (f := 1) (zdg dz_F_stepsUp_0 0 rfl) 1 rfl rfl ?_
  refine vf_istore_n C (f := 3) (L' := [(0, (2, 6)), (2, (0, v2))]) (zdg dz_F_stepsUp_0 1 rfl) [0, 2] (jrI rfl rfl) hn (by decide) rfl ?_
  refine vf_iconst C (z := 0) (zdg dz_F_stepsUp_0 2 rfl) (jz rfl) ?_
  refine vf_istore C (i := 4) (L' := [(3, (0, v1)), (0, (2, 6)), (2, (0, v2))]) (zdg dz_F_stepsUp_0 3 rfl) [0, 1, 2] (jrI rfl rfl) hn (by decide) ?_
  exact vf_perm [2, 3, 1, 0] rfl (t_F_stepsUp_5 C hn hR hr FU _ _ _ _)
def f_F_ledBy_29 (k4 : Int → Int → Int → Wd → Option (Int × Wd)) (v1 v3 s0 s1 : Int) (w : Wd) : Option (Int × Wd) :=
  jlet (ior s0 s1) fun x3 =>
  jlet (w32 (v3 + 1)) fun x4 =>
  k4 v1 x3 x4 w
theorem t_F_ledBy_29 {X : jX} {Qf : Int × Wd → State → Prop} {ad : Nat → Nat} (C : Cx X prog_3_method_14_code "EachBringsAnother$Folk") (hn : xn X = 4) (hR : xR X = rmD 4) (hr : Rt X Qf ad prog_3_method_14_code 0) {k4 : Int → Int → Int → Wd → Option (Int × Wd)} (hk4 : ∀ (v1 v2 v3 : Int) (w : Wd), VF X Qf ad NF 0 0 w 4 [(0, (2, 6)), (1, (0, v1)), (2, (0, v2)), (3, (0, v3))] [] (k4 v1 v2 v3 w)) (v1 v3 s0 s1 : Int) (w : Wd) : VF X Qf ad NF 0 0 w 29 [(0, (2, 6)), (1, (0, v1)), (3, (0, v3))] [(0, s1), (0, s0)] (f_F_ledBy_29 k4 v1 v3 s0 s1 w) := by
  unfold f_F_ledBy_29
  refine vf_ior C (zdg dz_F_ledBy_0 19 rfl) ?_
  generalize ior s0 s1 = x3
  refine vf_ul ?_
  refine vf_istore_n C (f := 2) (L' := [(0, (2, 6)), (1, (0, v1)), (3, (0, v3))]) (zdg dz_F_ledBy_0 20 rfl) [0, 1, 2] (jrI rfl rfl) hn (by decide) rfl ?_
  refine vf_iinc C (z := 1) (L' := [(2, (0, x3)), (0, (2, 6)), (1, (0, v1))]) (zdg dz_F_ledBy_0 21 rfl) 3 rfl [0, 1, 2] (jrI rfl rfl) hn (by decide) ?_
  generalize w32 (v3 + 1) = x4
  refine vf_ul ?_
  refine vf_goto C (off := (-30)) (tgt := 4) (zdg dz_F_ledBy_0 22 rfl) (by decide) ?_
  exact vf_perm [2, 3, 1, 0] rfl (hk4 _ _ _ _)
def f_F_ledBy_4 : Nat → Int → Int → Int → Wd → Option (Int × Wd)
  | 0, _, _, _, _ => none
  | n + 1, v1, v2, v3, w =>
    if (w 5 3) ≤ v3 then
      some (v2, w)
    else
      jcall (f_F_stepsUp v3 v1 w) fun r1 u2 =>
      if r1 ≤ 0 then
        f_F_ledBy_29 (f_F_ledBy_4 n) v1 v3 v2 0 u2
      else
        f_F_ledBy_29 (f_F_ledBy_4 n) v1 v3 v2 (ishl 1 v3) u2
theorem t_F_ledBy_4 {X : jX} {Qf : Int × Wd → State → Prop} {ad : Nat → Nat} (C : Cx X prog_3_method_14_code "EachBringsAnother$Folk") (hn : xn X = 4) (hR : xR X = rmD 4) (hr : Rt X Qf ad prog_3_method_14_code 0) : ∀ (n : Nat) (v1 v2 v3 : Int) (w : Wd), VF X Qf ad NF 0 0 w 4 [(0, (2, 6)), (1, (0, v1)), (2, (0, v2)), (3, (0, v3))] [] (f_F_ledBy_4 n v1 v2 v3 w) := by
  intro n
  induction n with
  | zero => intros; exact vf_no
  | succ n ih =>
    intro v1 v2 v3 w
    rw [f_F_ledBy_4]
    refine vf_iload_n C (f := 3) (zdg dz_F_ledBy_0 4 rfl) 3 rfl rfl ?_
    refine vf_aload_n C (f := 0) (zdg dz_F_ledBy_0 5 rfl) 0 rfl rfl ?_
    refine vf_get C (kd := 0) fl_F_28 sh_5 rfl (by decide) rfl rfl (zdg dz_F_ledBy_0 6 rfl) ?_
    refine vf_icmp_ge C (off := 28) (tgt := 37) (zdg dz_F_ledBy_0 7 rfl) (by decide) ?_ ?_
    · refine vf_iload_n C (f := 2) (zdg dz_F_ledBy_0 23 rfl) 2 rfl rfl ?_
      exact hr _ _ _ _ (fun h => absurd h (by decide)) (zdg dz_F_ledBy_1 0 rfl)
    · refine vf_iload_n C (f := 2) (zdg dz_F_ledBy_0 8 rfl) 2 rfl rfl ?_
      refine vf_aload_n C (f := 0) (zdg dz_F_ledBy_0 9 rfl) 0 rfl rfl ?_
      refine vf_iload_n C (f := 3) (zdg dz_F_ledBy_0 10 rfl) 3 rfl rfl ?_
      refine vf_iload_n C (f := 1) (zdg dz_F_ledBy_0 11 rfl) 1 rfl rfl ?_
      refine vf_callVi C cy_F_stepsUp ml_F_77 rfl (ct_F_stepsUp _ _ _) (S := [(0, v2)]) sh_5 (by decide) rfl (jrm_of hR rfl) rfl rfl (Nat.le_of_ble_eq_true rfl) (zdg dz_F_ledBy_0 12 rfl) (fun r1 u2 => ?_)
      refine vf_if_le C (off := 9) (tgt := 28) (zdg dz_F_ledBy_0 13 rfl) (by decide) ?_ ?_
      · refine vf_iconst C (z := 0) (zdg dz_F_ledBy_0 18 rfl) (jz rfl) ?_
        exact vf_perm [0, 1, 3] rfl (t_F_ledBy_29 C hn hR hr ih _ _ _ _ _)
      · refine vf_iconst C (z := 1) (zdg dz_F_ledBy_0 14 rfl) (jz rfl) ?_
        refine vf_iload_n C (f := 3) (zdg dz_F_ledBy_0 15 rfl) 3 rfl rfl ?_
        refine vf_ishl C (zdg dz_F_ledBy_0 16 rfl) ?_
        refine vf_goto C (off := 4) (tgt := 29) (zdg dz_F_ledBy_0 17 rfl) (by decide) ?_
        exact vf_perm [0, 1, 3] rfl (t_F_ledBy_29 C hn hR hr ih _ _ _ _ _)
def f_F_ledBy (v1 : Int) (w : Wd) : Option (Int × Wd) :=
  f_F_ledBy_4 FU v1 0 0 w
theorem ct_F_ledBy (v1 : Int) (w : Wd) : Ct y_F_ledBy prog_3_method_14_code 4 (some .int) 4 0 [(2, 6), (0, v1)] w (f_F_ledBy v1 w) := by
  refine ct_of (by decide +kernel) (Or.inl ⟨rfl, rfl⟩) (Nat.le_of_ble_eq_true rfl) ?_
  intro X Qf ad C hn hR hr
  unfold f_F_ledBy
  show VF X Qf ad NF 0 0 w 0 [(0, (2, 6)), (1, (0, v1))] [] _
  refine vf_iconst C (z := 0) (zdg dz_F_ledBy_0 0 rfl) (jz rfl) ?_
  refine vf_istore_n C (f := 2) (L' := [(0, (2, 6)), (1, (0, v1))]) (zdg dz_F_ledBy_0 1 rfl) [0, 1] (jrI rfl rfl) hn (by decide) rfl ?_
  refine vf_iconst C (z := 0) (zdg dz_F_ledBy_0 2 rfl) (jz rfl) ?_
  refine vf_istore_n C (f := 3) (L' := [(2, (0, 0)), (0, (2, 6)), (1, (0, v1))]) (zdg dz_F_ledBy_0 3 rfl) [0, 1, 2] (jrI rfl rfl) hn (by decide) rfl ?_
  exact vf_perm [2, 3, 1, 0] rfl (t_F_ledBy_4 C hn hR hr FU _ _ _ _)
def f_E_led_51 (k20 : Int → Int → Int → Int → Wd → Option (Int × Wd)) (v1 v3 v4 s0 s1 : Int) (w : Wd) : Option (Int × Wd) :=
  jlet (w32 (s0 + s1)) fun x9 =>
  jcall (f_F_stepsUp v4 v1 w) fun r10 u11 =>
  jlet (imax v3 r10) fun x12 =>
  jlet (w32 (v4 + 1)) fun x13 =>
  k20 v1 x9 x12 x13 u11
theorem t_E_led_51 {X : jX} {Qf : Int × Wd → State → Prop} {ad : Nat → Nat} (C : Cx X prog_1_method_36_code "EachBringsAnother") (hn : xn X = 5) (hR : xR X = rmD 5) (hr : Rt X Qf ad prog_1_method_36_code 0) {k20 : Int → Int → Int → Int → Wd → Option (Int × Wd)} (hk20 : ∀ (v1 v2 v3 v4 : Int) (w : Wd), VF X Qf ad NF 0 0 w 20 [(0, (2, 1)), (1, (0, v1)), (2, (0, v2)), (3, (0, v3)), (4, (0, v4))] [] (k20 v1 v2 v3 v4 w)) (v1 v3 v4 s0 s1 : Int) (w : Wd) : VF X Qf ad NF 0 0 w 51 [(0, (2, 1)), (1, (0, v1)), (3, (0, v3)), (4, (0, v4))] [(0, s1), (0, s0)] (f_E_led_51 k20 v1 v3 v4 s0 s1 w) := by
  unfold f_E_led_51
  refine vf_iadd C (zdg dz_E_led_1 4 rfl) ?_
  generalize w32 (s0 + s1) = x9
  refine vf_ul ?_
  refine vf_istore_n C (f := 2) (L' := [(0, (2, 1)), (1, (0, v1)), (3, (0, v3)), (4, (0, v4))]) (zdg dz_E_led_1 5 rfl) [0, 1, 2, 3] (jrI rfl rfl) hn (by decide) rfl ?_
  refine vf_iload_n C (f := 3) (zdg dz_E_led_1 6 rfl) 3 rfl rfl ?_
  refine vf_aload_n C (f := 0) (zdg dz_E_led_1 7 rfl) 1 rfl rfl ?_
  refine vf_getp C fl_E_26 sh_0 rfl (by decide) rfl (x := 6) rfl (zdg dz_E_led_1 8 rfl) ?_
  refine vf_iload C (zdg dz_E_led_1 9 rfl) 4 rfl ?_
  refine vf_iload_n C (f := 1) (zdg dz_E_led_1 10 rfl) 2 rfl rfl ?_
  refine vf_callVi C cy_F_stepsUp ml_E_330 rfl (ct_F_stepsUp _ _ _) (S := [(0, v3)]) sh_5 (by decide) rfl (jrm_of hR rfl) rfl rfl (Nat.le_of_ble_eq_true rfl) (zdg dz_E_led_1 11 rfl) (fun r10 u11 => ?_)
  refine vf_mmax C ml_E_269 (jrm_n hR (by decide)) ⟨Nat.zero_le _, Nat.zero_le _⟩ (Nat.le_of_ble_eq_true rfl) (zdg dz_E_led_1 12 rfl) ?_
  generalize imax v3 r10 = x12
  refine vf_ul ?_
  refine vf_istore_n C (f := 3) (L' := [(2, (0, x9)), (0, (2, 1)), (1, (0, v1)), (4, (0, v4))]) (zdg dz_E_led_1 13 rfl) [0, 1, 2, 4] (jrI rfl rfl) hn (by decide) rfl ?_
  refine vf_iinc C (z := 1) (L' := [(3, (0, x12)), (2, (0, x9)), (0, (2, 1)), (1, (0, v1))]) (zdg dz_E_led_1 14 rfl) 4 rfl [0, 1, 2, 3] (jrI rfl rfl) hn (by decide) ?_
  generalize w32 (v4 + 1) = x13
  refine vf_ul ?_
  refine vf_goto C (off := (-51)) (tgt := 20) (zdg dz_E_led_1 15 rfl) (by decide) ?_
  exact vf_perm [3, 4, 2, 1, 0] rfl (hk20 _ _ _ _ _)
def f_E_led_20 : Nat → Int → Int → Int → Int → Wd → Option (Int × Wd)
  | 0, _, _, _, _, _ => none
  | n + 1, v1, v2, v3, v4, w =>
    if (w 5 3) ≤ v4 then
      jcall (f_N_tell2 v2 v3 w) fun r3 u4 =>
      jcall (f_F_ledBy v1 u4) fun r5 u6 =>
      some (r5, u6)
    else
      jcall (f_F_broughtBy v4 w) fun r7 u8 =>
      if r7 = v1 then
        f_E_led_51 (f_E_led_20 n) v1 v3 v4 v2 1 u8
      else
        f_E_led_51 (f_E_led_20 n) v1 v3 v4 v2 0 u8
theorem t_E_led_20 {X : jX} {Qf : Int × Wd → State → Prop} {ad : Nat → Nat} (C : Cx X prog_1_method_36_code "EachBringsAnother") (hn : xn X = 5) (hR : xR X = rmD 5) (hr : Rt X Qf ad prog_1_method_36_code 0) : ∀ (n : Nat) (v1 v2 v3 v4 : Int) (w : Wd), VF X Qf ad NF 0 0 w 20 [(0, (2, 1)), (1, (0, v1)), (2, (0, v2)), (3, (0, v3)), (4, (0, v4))] [] (f_E_led_20 n v1 v2 v3 v4 w) := by
  intro n
  induction n with
  | zero => intros; exact vf_no
  | succ n ih =>
    intro v1 v2 v3 v4 w
    rw [f_E_led_20]
    refine vf_iload C (zdg dz_E_led_0 13 rfl) 4 rfl ?_
    refine vf_aload_n C (f := 0) (zdg dz_E_led_0 14 rfl) 0 rfl rfl ?_
    refine vf_getp C fl_E_26 sh_0 rfl (by decide) rfl (x := 6) rfl (zdg dz_E_led_0 15 rfl) ?_
    refine vf_get C (kd := 0) fl_E_87 sh_5 rfl (by decide) rfl rfl (zdg dz_E_led_0 16 rfl) ?_
    refine vf_icmp_ge C (off := 45) (tgt := 74) (zdg dz_E_led_0 17 rfl) (by decide) ?_ ?_
    · refine vf_aload_n C (f := 0) (zdg dz_E_led_1 16 rfl) 0 rfl rfl ?_
      refine vf_getp C fl_E_19 sh_0 rfl (by decide) rfl (x := 4) rfl (zdg dz_E_led_1 17 rfl) ?_
      refine vf_iload_n C (f := 2) (zdg dz_E_led_1 18 rfl) 2 rfl rfl ?_
      refine vf_iload_n C (f := 3) (zdg dz_E_led_1 19 rfl) 3 rfl rfl ?_
      refine vf_callVv C cy_N_tell2 ml_E_216 rfl (ct_N_tell2 _ _ _) (S := []) sh_3 (by decide) rfl (jrm_of hR rfl) rfl rfl (Nat.le_of_ble_eq_true rfl) (zdg dz_E_led_1 20 rfl) (fun r3 u4 => ?_)
      refine vf_aload_n C (f := 0) (zdg dz_E_led_1 21 rfl) 0 rfl rfl ?_
      refine vf_getp C fl_E_26 sh_0 rfl (by decide) rfl (x := 6) rfl (zdg dz_E_led_1 22 rfl) ?_
      refine vf_iload_n C (f := 1) (zdg dz_E_led_1 23 rfl) 1 rfl rfl ?_
      refine vf_callVi C cy_F_ledBy ml_E_333 rfl (ct_F_ledBy _ _) (S := []) sh_5 (by decide) rfl (jrm_of hR rfl) rfl rfl (Nat.le_of_ble_eq_true rfl) (zdg dz_E_led_2 0 rfl) (fun r5 u6 => ?_)
      exact hr _ _ _ _ (fun h => absurd h (by decide)) (zdg dz_E_led_2 1 rfl)
    · refine vf_iload_n C (f := 2) (zdg dz_E_led_0 18 rfl) 2 rfl rfl ?_
      refine vf_aload_n C (f := 0) (zdg dz_E_led_0 19 rfl) 0 rfl rfl ?_
      refine vf_getp C fl_E_26 sh_0 rfl (by decide) rfl (x := 6) rfl (zdg dz_E_led_0 20 rfl) ?_
      refine vf_iload C (zdg dz_E_led_0 21 rfl) 4 rfl ?_
      refine vf_callVi C cy_F_broughtBy ml_E_324 rfl (ct_F_broughtBy _ _) (S := [(0, v2)]) sh_5 (by decide) rfl (jrm_of hR rfl) rfl rfl (Nat.le_of_ble_eq_true rfl) (zdg dz_E_led_0 22 rfl) (fun r7 u8 => ?_)
      refine vf_iload_n C (f := 1) (zdg dz_E_led_0 23 rfl) 1 rfl rfl ?_
      refine vf_icmp_ne C (off := 7) (tgt := 50) (zdg dz_E_led_1 0 rfl) (by decide) ?_ ?_
      · refine vf_iconst C (z := 0) (zdg dz_E_led_1 3 rfl) (jz rfl) ?_
        exact vf_perm [0, 1, 3, 4] rfl (t_E_led_51 C hn hR hr ih _ _ _ _ _ _)
      · refine vf_iconst C (z := 1) (zdg dz_E_led_1 1 rfl) (jz rfl) ?_
        refine vf_goto C (off := 4) (tgt := 51) (zdg dz_E_led_1 2 rfl) (by decide) ?_
        exact vf_perm [0, 1, 3, 4] rfl (t_E_led_51 C hn hR hr ih _ _ _ _ _ _)
def f_E_led (v1 : Int) (w : Wd) : Option (Int × Wd) :=
  jcall (f_F_isThere v1 w) fun r1 u2 =>
  if r1 = 0 then
    some ((-1), u2)
  else
    f_E_led_20 FU v1 0 0 0 u2
theorem ct_E_led (v1 : Int) (w : Wd) : Ct y_E_led prog_1_method_36_code 5 (some .int) 5 0 [(2, 1), (0, v1)] w (f_E_led v1 w) := by
  refine ct_of (by decide +kernel) (Or.inl ⟨rfl, rfl⟩) (Nat.le_of_ble_eq_true rfl) ?_
  intro X Qf ad C hn hR hr
  unfold f_E_led
  show VF X Qf ad NF 0 0 w 0 [(0, (2, 1)), (1, (0, v1))] [] _
  refine vf_aload_n C (f := 0) (zdg dz_E_led_0 0 rfl) 0 rfl rfl ?_
  refine vf_getp C fl_E_26 sh_0 rfl (by decide) rfl (x := 6) rfl (zdg dz_E_led_0 1 rfl) ?_
  refine vf_iload_n C (f := 1) (zdg dz_E_led_0 2 rfl) 1 rfl rfl ?_
  refine vf_callVz C cy_F_isThere ml_E_108 rfl (ct_F_isThere _ _) (S := []) sh_5 (by decide) rfl (jrm_of hR rfl) rfl rfl (Nat.le_of_ble_eq_true rfl) (zdg dz_E_led_0 3 rfl) (fun r1 u2 => ?_)
  refine vf_if_ne C (off := 5) (tgt := 13) (zdg dz_E_led_0 4 rfl) (by decide) ?_ ?_
  · refine vf_iconst C (z := 0) (zdg dz_E_led_0 7 rfl) (jz rfl) ?_
    refine vf_istore_n C (f := 2) (L' := [(0, (2, 1)), (1, (0, v1))]) (zdg dz_E_led_0 8 rfl) [0, 1] (jrI rfl rfl) hn (by decide) rfl ?_
    refine vf_iconst C (z := 0) (zdg dz_E_led_0 9 rfl) (jz rfl) ?_
    refine vf_istore_n C (f := 3) (L' := [(2, (0, 0)), (0, (2, 1)), (1, (0, v1))]) (zdg dz_E_led_0 10 rfl) [0, 1, 2] (jrI rfl rfl) hn (by decide) rfl ?_
    refine vf_iconst C (z := 0) (zdg dz_E_led_0 11 rfl) (jz rfl) ?_
    refine vf_istore C (i := 4) (L' := [(3, (0, 0)), (2, (0, 0)), (0, (2, 1)), (1, (0, v1))]) (zdg dz_E_led_0 12 rfl) [0, 1, 2, 3] (jrI rfl rfl) hn (by decide) ?_
    exact vf_perm [3, 4, 2, 1, 0] rfl (t_E_led_20 C hn hR hr FU _ _ _ _ _)
  · refine vf_iconst C (z := (-1)) (zdg dz_E_led_0 5 rfl) (jz rfl) ?_
    exact hr _ _ _ _ (fun h => absurd h (by decide)) (zdg dz_E_led_0 6 rfl)
def f_E_was_15 (w : Wd) : Option (Int × Wd) :=
  some ((-1), w)
theorem t_E_was_15 {X : jX} {Qf : Int × Wd → State → Prop} {ad : Nat → Nat} (C : Cx X prog_1_method_37_code "EachBringsAnother") (hn : xn X = 2) (hR : xR X = rmD 3) (hr : Rt X Qf ad prog_1_method_37_code 0) (w : Wd) : VF X Qf ad NF 0 0 w 15 [] [] (f_E_was_15 w) := by
  unfold f_E_was_15
  refine vf_iconst C (z := (-1)) (zdg dz_E_was_0 7 rfl) (jz rfl) ?_
  refine vf_goto C (off := 11) (tgt := 27) (zdg dz_E_was_0 8 rfl) (by decide) ?_
  exact hr _ _ _ _ (fun h => absurd h (by decide)) (zdg dz_E_was_0 13 rfl)
def f_E_was (v1 : Int) (w : Wd) : Option (Int × Wd) :=
  if v1 < 0 then
    f_E_was_15 w
  else
    if v1 ≤ (w 15 3) then
      jcall (f_D_guestsBehind v1 w) fun r1 u2 =>
      some (r1, u2)
    else
      f_E_was_15 w
theorem ct_E_was (v1 : Int) (w : Wd) : Ct y_E_was prog_1_method_37_code 2 (some .int) 3 0 [(2, 1), (0, v1)] w (f_E_was v1 w) := by
  refine ct_of (by decide +kernel) (Or.inl ⟨rfl, rfl⟩) (Nat.le_of_ble_eq_true rfl) ?_
  intro X Qf ad C hn hR hr
  unfold f_E_was
  show VF X Qf ad NF 0 0 w 0 [(0, (2, 1)), (1, (0, v1))] [] _
  refine vf_iload_n C (f := 1) (zdg dz_E_was_0 0 rfl) 1 rfl rfl ?_
  refine vf_if_lt C (off := 14) (tgt := 15) (zdg dz_E_was_0 1 rfl) (by decide) ?_ ?_
  · exact vf_perm [] rfl (t_E_was_15 C hn hR hr _)
  · refine vf_iload_n C (f := 1) (zdg dz_E_was_0 2 rfl) 1 rfl rfl ?_
    refine vf_aload_n C (f := 0) (zdg dz_E_was_0 3 rfl) 0 rfl rfl ?_
    refine vf_getp C fl_E_47 sh_0 rfl (by decide) rfl (x := 16) rfl (zdg dz_E_was_0 4 rfl) ?_
    refine vf_get C (kd := 0) fl_E_192 sh_15 rfl (by decide) rfl rfl (zdg dz_E_was_0 5 rfl) ?_
    refine vf_icmp_le C (off := 7) (tgt := 19) (zdg dz_E_was_0 6 rfl) (by decide) ?_ ?_
    · refine vf_aload_n C (f := 0) (zdg dz_E_was_0 9 rfl) 0 rfl rfl ?_
      refine vf_getp C fl_E_47 sh_0 rfl (by decide) rfl (x := 16) rfl (zdg dz_E_was_0 10 rfl) ?_
      refine vf_iload_n C (f := 1) (zdg dz_E_was_0 11 rfl) 1 rfl rfl ?_
      refine vf_callVi C cy_D_guestsBehind ml_E_336 rfl (ct_D_guestsBehind _ _) (S := []) sh_15 (by decide) rfl (jrm_of hR rfl) rfl rfl (Nat.le_of_ble_eq_true rfl) (zdg dz_E_was_0 12 rfl) (fun r1 u2 => ?_)
      exact hr _ _ _ _ (fun h => absurd h (by decide)) (zdg dz_E_was_0 13 rfl)
    · exact vf_perm [] rfl (t_E_was_15 C hn hR hr _)
def f_E_common_16 : Nat → Int → Int → Int → Wd → Option (Int × Wd)
  | 0, _, _, _, _ => none
  | n + 1, v2, v3, v4, w =>
    if (w 5 3) ≤ v4 then
      some ((-2), w)
    else
      if v3 = (-1) then
        some ((-2), w)
      else
        jcall (f_F_stepsUp v2 v3 w) fun r3 u4 =>
        if r3 < 0 then
          jcall (f_F_broughtBy v3 u4) fun r5 u6 =>
          jlet (w32 (v4 + 1)) fun x7 =>
          f_E_common_16 n v2 r5 x7 u6
        else
          some (v3, u4)
theorem t_E_common_16 {X : jX} {Qf : Int × Wd → State → Prop} {ad : Nat → Nat} (C : Cx X prog_1_method_38_code "EachBringsAnother") (hn : xn X = 5) (hR : xR X = rmD 4) (hr : Rt X Qf ad prog_1_method_38_code 0) : ∀ (n : Nat) (v2 v3 v4 : Int) (w : Wd), VF X Qf ad NF 0 0 w 16 [(0, (2, 1)), (2, (0, v2)), (3, (0, v3)), (4, (0, v4))] [] (f_E_common_16 n v2 v3 v4 w) := by
  intro n
  induction n with
  | zero => intros; exact vf_no
  | succ n ih =>
    intro v2 v3 v4 w
    rw [f_E_common_16]
    refine vf_iload C (zdg dz_E_common_0 11 rfl) 3 rfl ?_
    refine vf_aload_n C (f := 0) (zdg dz_E_common_0 12 rfl) 0 rfl rfl ?_
    refine vf_getp C fl_E_26 sh_0 rfl (by decide) rfl (x := 6) rfl (zdg dz_E_common_0 13 rfl) ?_
    refine vf_get C (kd := 0) fl_E_87 sh_5 rfl (by decide) rfl rfl (zdg dz_E_common_0 14 rfl) ?_
    refine vf_icmp_ge C (off := 37) (tgt := 62) (zdg dz_E_common_0 15 rfl) (by decide) ?_ ?_
    · refine vf_bipush C (z := (-2)) (zdg dz_E_common_1 10 rfl) (by decide +kernel) (jz rfl) ?_
      exact hr _ _ _ _ (fun h => absurd h (by decide)) (zdg dz_E_common_1 11 rfl)
    · refine vf_iload_n C (f := 3) (zdg dz_E_common_0 16 rfl) 2 rfl rfl ?_
      refine vf_iconst C (z := (-1)) (zdg dz_E_common_0 17 rfl) (jz rfl) ?_
      refine vf_icmp_eq C (off := 32) (tgt := 62) (zdg dz_E_common_0 18 rfl) (by decide) ?_ ?_
      · refine vf_bipush C (z := (-2)) (zdg dz_E_common_1 10 rfl) (by decide +kernel) (jz rfl) ?_
        exact hr _ _ _ _ (fun h => absurd h (by decide)) (zdg dz_E_common_1 11 rfl)
      · refine vf_aload_n C (f := 0) (zdg dz_E_common_0 19 rfl) 0 rfl rfl ?_
        refine vf_getp C fl_E_26 sh_0 rfl (by decide) rfl (x := 6) rfl (zdg dz_E_common_0 20 rfl) ?_
        refine vf_iload_n C (f := 2) (zdg dz_E_common_0 21 rfl) 1 rfl rfl ?_
        refine vf_iload_n C (f := 3) (zdg dz_E_common_0 22 rfl) 2 rfl rfl ?_
        refine vf_callVi C cy_F_stepsUp ml_E_330 rfl (ct_F_stepsUp _ _ _) (S := []) sh_5 (by decide) rfl (jrm_of hR rfl) rfl rfl (Nat.le_of_ble_eq_true rfl) (zdg dz_E_common_0 23 rfl) (fun r3 u4 => ?_)
        refine vf_if_lt C (off := 5) (tgt := 47) (zdg dz_E_common_1 0 rfl) (by decide) ?_ ?_
        · refine vf_aload_n C (f := 0) (zdg dz_E_common_1 3 rfl) 0 rfl rfl ?_
          refine vf_getp C fl_E_26 sh_0 rfl (by decide) rfl (x := 6) rfl (zdg dz_E_common_1 4 rfl) ?_
          refine vf_iload_n C (f := 3) (zdg dz_E_common_1 5 rfl) 2 rfl rfl ?_
          refine vf_callVi C cy_F_broughtBy ml_E_324 rfl (ct_F_broughtBy _ _) (S := []) sh_5 (by decide) rfl (jrm_of hR rfl) rfl rfl (Nat.le_of_ble_eq_true rfl) (zdg dz_E_common_1 6 rfl) (fun r5 u6 => ?_)
          refine vf_istore_n C (f := 3) (L' := [(0, (2, 1)), (2, (0, v2)), (4, (0, v4))]) (zdg dz_E_common_1 7 rfl) [0, 1, 3] (jrI rfl rfl) hn (by decide) rfl ?_
          refine vf_iinc C (z := 1) (L' := [(3, (0, r5)), (0, (2, 1)), (2, (0, v2))]) (zdg dz_E_common_1 8 rfl) 3 rfl [0, 1, 2] (jrI rfl rfl) hn (by decide) ?_
          generalize w32 (v4 + 1) = x7
          refine vf_ul ?_
          refine vf_goto C (off := (-43)) (tgt := 16) (zdg dz_E_common_1 9 rfl) (by decide) ?_
          exact vf_perm [2, 3, 1, 0] rfl (ih _ _ _ _)
        · refine vf_iload_n C (f := 3) (zdg dz_E_common_1 1 rfl) 2 rfl rfl ?_
          exact hr _ _ _ _ (fun h => absurd h (by decide)) (zdg dz_E_common_1 2 rfl)
def f_E_common (v1 v2 : Int) (w : Wd) : Option (Int × Wd) :=
  jcall (f_E_areTwo v1 v2 w) fun r1 u2 =>
  if r1 = 0 then
    some ((-1), u2)
  else
    f_E_common_16 FU v2 v1 0 u2
theorem ct_E_common (v1 v2 : Int) (w : Wd) : Ct y_E_common prog_1_method_38_code 5 (some .int) 4 0 [(2, 1), (0, v1), (0, v2)] w (f_E_common v1 v2 w) := by
  refine ct_of (by decide +kernel) (Or.inl ⟨rfl, rfl⟩) (Nat.le_of_ble_eq_true rfl) ?_
  intro X Qf ad C hn hR hr
  unfold f_E_common
  show VF X Qf ad NF 0 0 w 0 [(0, (2, 1)), (1, (0, v1)), (2, (0, v2))] [] _
  refine vf_aload_n C (f := 0) (zdg dz_E_common_0 0 rfl) 0 rfl rfl ?_
  refine vf_iload_n C (f := 1) (zdg dz_E_common_0 1 rfl) 1 rfl rfl ?_
  refine vf_iload_n C (f := 2) (zdg dz_E_common_0 2 rfl) 2 rfl rfl ?_
  refine vf_callVz C cy_E_areTwo ml_E_165 rfl (ct_E_areTwo _ _ _) (S := []) sh_0 (by decide) rfl (jrm_of hR rfl) rfl rfl (Nat.le_of_ble_eq_true rfl) (zdg dz_E_common_0 3 rfl) (fun r1 u2 => ?_)
  refine vf_if_ne C (off := 5) (tgt := 11) (zdg dz_E_common_0 4 rfl) (by decide) ?_ ?_
  · refine vf_iload_n C (f := 1) (zdg dz_E_common_0 7 rfl) 1 rfl rfl ?_
    refine vf_istore_n C (f := 3) (L' := [(0, (2, 1)), (2, (0, v2))]) (zdg dz_E_common_0 8 rfl) [0, 2] (jrI rfl rfl) hn (by decide) rfl ?_
    refine vf_iconst C (z := 0) (zdg dz_E_common_0 9 rfl) (jz rfl) ?_
    refine vf_istore C (i := 4) (L' := [(3, (0, v1)), (0, (2, 1)), (2, (0, v2))]) (zdg dz_E_common_0 10 rfl) [0, 1, 2] (jrI rfl rfl) hn (by decide) ?_
    exact vf_perm [2, 3, 1, 0] rfl (t_E_common_16 C hn hR hr FU _ _ _ _)
  · refine vf_iconst C (z := (-1)) (zdg dz_E_common_0 5 rfl) (jz rfl) ?_
    exact hr _ _ _ _ (fun h => absurd h (by decide)) (zdg dz_E_common_0 6 rfl)
def f_E_father_41 (k6 : Int → Int → Int → Wd → Option (Int × Wd)) (v1 v2 v3 : Int) (w : Wd) : Option (Int × Wd) :=
  jlet (w32 (v3 + 1)) fun x7 =>
  k6 v1 v2 x7 w
theorem t_E_father_41 {X : jX} {Qf : Int × Wd → State → Prop} {ad : Nat → Nat} (C : Cx X prog_1_method_39_code "EachBringsAnother") (hn : xn X = 5) (hR : xR X = rmD 5) (hr : Rt X Qf ad prog_1_method_39_code 0) {k6 : Int → Int → Int → Wd → Option (Int × Wd)} (hk6 : ∀ (v1 v2 v3 : Int) (w : Wd), VF X Qf ad NF 0 0 w 6 [(0, (2, 1)), (1, (0, v1)), (2, (0, v2)), (3, (0, v3))] [] (k6 v1 v2 v3 w)) (v1 v2 v3 : Int) (w : Wd) : VF X Qf ad NF 0 0 w 41 [(0, (2, 1)), (1, (0, v1)), (2, (0, v2)), (3, (0, v3))] [] (f_E_father_41 k6 v1 v2 v3 w) := by
  unfold f_E_father_41
  refine vf_iinc C (z := 1) (L' := [(0, (2, 1)), (1, (0, v1)), (2, (0, v2))]) (zdg dz_E_father_1 0 rfl) 3 rfl [0, 1, 2] (jrI rfl rfl) hn (by decide) ?_
  generalize w32 (v3 + 1) = x7
  refine vf_ul ?_
  refine vf_goto C (off := (-38)) (tgt := 6) (zdg dz_E_father_1 1 rfl) (by decide) ?_
  exact vf_perm [1, 2, 3, 0] rfl (hk6 _ _ _ _)
def f_E_father_6 : Nat → Int → Int → Int → Wd → Option (Int × Wd)
  | 0, _, _, _, _ => none
  | n + 1, v1, v2, v3, w =>
    if (w 5 3) ≤ v3 then
      if v1 = (-1) then
        some ((-2), w)
      else
        jcall (f_N_tell1 v2 w) fun r1 u2 =>
        some (v1, u2)
    else
      jcall (f_F_ledBy v3 w) fun r3 u4 =>
      jcall (f_JI_bitCount r3 u4) fun r5 u6 =>
      if r5 ≤ v2 then
        f_E_father_41 (f_E_father_6 n) v1 v2 v3 u6
      else
        f_E_father_41 (f_E_father_6 n) v3 r5 v3 u6
theorem t_E_father_6 {X : jX} {Qf : Int × Wd → State → Prop} {ad : Nat → Nat} (C : Cx X prog_1_method_39_code "EachBringsAnother") (hn : xn X = 5) (hR : xR X = rmD 5) (hr : Rt X Qf ad prog_1_method_39_code 0) : ∀ (n : Nat) (v1 v2 v3 : Int) (w : Wd), VF X Qf ad NF 0 0 w 6 [(0, (2, 1)), (1, (0, v1)), (2, (0, v2)), (3, (0, v3))] [] (f_E_father_6 n v1 v2 v3 w) := by
  intro n
  induction n with
  | zero => intros; exact vf_no
  | succ n ih =>
    intro v1 v2 v3 w
    rw [f_E_father_6]
    refine vf_iload_n C (f := 3) (zdg dz_E_father_0 6 rfl) 3 rfl rfl ?_
    refine vf_aload_n C (f := 0) (zdg dz_E_father_0 7 rfl) 0 rfl rfl ?_
    refine vf_getp C fl_E_26 sh_0 rfl (by decide) rfl (x := 6) rfl (zdg dz_E_father_0 8 rfl) ?_
    refine vf_get C (kd := 0) fl_E_87 sh_5 rfl (by decide) rfl rfl (zdg dz_E_father_0 9 rfl) ?_
    refine vf_icmp_ge C (off := 33) (tgt := 47) (zdg dz_E_father_0 10 rfl) (by decide) ?_ ?_
    · refine vf_iload_n C (f := 1) (zdg dz_E_father_1 2 rfl) 1 rfl rfl ?_
      refine vf_iconst C (z := (-1)) (zdg dz_E_father_1 3 rfl) (jz rfl) ?_
      refine vf_icmp_ne C (off := 6) (tgt := 55) (zdg dz_E_father_1 4 rfl) (by decide) ?_ ?_
      · refine vf_aload_n C (f := 0) (zdg dz_E_father_1 7 rfl) 0 rfl rfl ?_
        refine vf_getp C fl_E_19 sh_0 rfl (by decide) rfl (x := 4) rfl (zdg dz_E_father_1 8 rfl) ?_
        refine vf_iload_n C (f := 2) (zdg dz_E_father_1 9 rfl) 2 rfl rfl ?_
        refine vf_callVv C cy_N_tell1 ml_E_231 rfl (ct_N_tell1 _ _) (S := []) sh_3 (by decide) rfl (jrm_of hR rfl) rfl rfl (Nat.le_of_ble_eq_true rfl) (zdg dz_E_father_1 10 rfl) (fun r1 u2 => ?_)
        refine vf_iload_n C (f := 1) (zdg dz_E_father_1 11 rfl) 1 rfl rfl ?_
        exact hr _ _ _ _ (fun h => absurd h (by decide)) (zdg dz_E_father_1 12 rfl)
      · refine vf_bipush C (z := (-2)) (zdg dz_E_father_1 5 rfl) (by decide +kernel) (jz rfl) ?_
        exact hr _ _ _ _ (fun h => absurd h (by decide)) (zdg dz_E_father_1 6 rfl)
    · refine vf_aload_n C (f := 0) (zdg dz_E_father_0 11 rfl) 0 rfl rfl ?_
      refine vf_getp C fl_E_26 sh_0 rfl (by decide) rfl (x := 6) rfl (zdg dz_E_father_0 12 rfl) ?_
      refine vf_iload_n C (f := 3) (zdg dz_E_father_0 13 rfl) 3 rfl rfl ?_
      refine vf_callVi C cy_F_ledBy ml_E_333 rfl (ct_F_ledBy _ _) (S := []) sh_5 (by decide) rfl (jrm_of hR rfl) rfl rfl (Nat.le_of_ble_eq_true rfl) (zdg dz_E_father_0 14 rfl) (fun r3 u4 => ?_)
      refine vf_callSi C cy_JI_bitCount ml_E_245 (ct_JI_bitCount _ _) (S := []) (jrm_of hR rfl) rfl rfl (Nat.le_of_ble_eq_true rfl) (zdg dz_E_father_0 15 rfl) (fun r5 u6 => ?_)
      refine vf_istore C (i := 4) (L' := [(0, (2, 1)), (1, (0, v1)), (2, (0, v2)), (3, (0, v3))]) (zdg dz_E_father_0 16 rfl) [0, 1, 2, 3] (jrI rfl rfl) hn (by decide) ?_
      refine vf_iload C (zdg dz_E_father_0 17 rfl) 0 rfl ?_
      refine vf_iload_n C (f := 2) (zdg dz_E_father_0 18 rfl) 3 rfl rfl ?_
      refine vf_icmp_le C (off := 8) (tgt := 41) (zdg dz_E_father_0 19 rfl) (by decide) ?_ ?_
      · exact vf_perm [1, 2, 3, 4] rfl (t_E_father_41 C hn hR hr ih _ _ _ _)
      · refine vf_iload_n C (f := 3) (zdg dz_E_father_0 20 rfl) 4 rfl rfl ?_
        refine vf_istore_n C (f := 1) (L' := [(4, (0, r5)), (0, (2, 1)), (3, (0, v3))]) (zdg dz_E_father_0 21 rfl) [0, 1, 4] (jrI rfl rfl) hn (by decide) rfl ?_
        refine vf_iload C (zdg dz_E_father_0 22 rfl) 1 rfl ?_
        refine vf_istore_n C (f := 2) (L' := [(1, (0, v3)), (0, (2, 1)), (3, (0, v3))]) (zdg dz_E_father_0 23 rfl) [0, 2, 3] (jrI rfl rfl) hn (by decide) rfl ?_
        exact vf_perm [2, 1, 0, 3] rfl (t_E_father_41 C hn hR hr ih _ _ _ _)
def f_E_father (w : Wd) : Option (Int × Wd) :=
  f_E_father_6 FU (-1) 0 0 w
theorem ct_E_father (w : Wd) : Ct y_E_father prog_1_method_39_code 5 (some .int) 5 0 [(2, 1)] w (f_E_father w) := by
  refine ct_of (by decide +kernel) (Or.inl ⟨rfl, rfl⟩) (Nat.le_of_ble_eq_true rfl) ?_
  intro X Qf ad C hn hR hr
  unfold f_E_father
  show VF X Qf ad NF 0 0 w 0 [(0, (2, 1))] [] _
  refine vf_iconst C (z := (-1)) (zdg dz_E_father_0 0 rfl) (jz rfl) ?_
  refine vf_istore_n C (f := 1) (L' := [(0, (2, 1))]) (zdg dz_E_father_0 1 rfl) [0] (jrI rfl rfl) hn (by decide) rfl ?_
  refine vf_iconst C (z := 0) (zdg dz_E_father_0 2 rfl) (jz rfl) ?_
  refine vf_istore_n C (f := 2) (L' := [(1, (0, (-1))), (0, (2, 1))]) (zdg dz_E_father_0 3 rfl) [0, 1] (jrI rfl rfl) hn (by decide) rfl ?_
  refine vf_iconst C (z := 0) (zdg dz_E_father_0 4 rfl) (jz rfl) ?_
  refine vf_istore_n C (f := 3) (L' := [(2, (0, 0)), (1, (0, (-1))), (0, (2, 1))]) (zdg dz_E_father_0 5 rfl) [0, 1, 2] (jrI rfl rfl) hn (by decide) rfl ?_
  exact vf_perm [3, 2, 1, 0] rfl (t_E_father_6 C hn hR hr FU _ _ _ _)
def f_K_take (w : Wd) : Option (Int × Wd) :=
  jlw (st w 37 2 1) fun u1 =>
  jlw (st u1 37 3 (u1 5 3)) fun u2 =>
  jlw (st u2 37 4 (u2 5 4)) fun u3 =>
  jlw (st u3 37 5 (u3 5 5)) fun u4 =>
  jlw (st u4 37 6 (u4 5 6)) fun u5 =>
  jlw (st u5 37 7 (u5 5 7)) fun u6 =>
  jlw (st u6 37 8 (u6 5 8)) fun u7 =>
  jlw (st u7 37 9 (u7 15 3)) fun u8 =>
  jgd ((0 : Int) ≤ (0 : Int) ∧ (0 : Int) ≤ (0 : Int) ∧ (0 : Int) ≤ (10 : Int) ∧ (0 : Int) + (10 : Int) ≤ 10 ∧ (0 : Int) + (10 : Int) ≤ 10) <|
  jlw (cpy u8 8 38 0 0 10) fun u9 =>
  jgd ((0 : Int) ≤ (0 : Int) ∧ (0 : Int) ≤ (0 : Int) ∧ (0 : Int) ≤ (61 : Int) ∧ (0 : Int) + (61 : Int) ≤ 61 ∧ (0 : Int) + (61 : Int) ≤ 61) <|
  jlw (cpy u9 16 39 0 0 61) fun u10 =>
  some (0, u10)
theorem ct_K_take (w : Wd) : Ct y_K_take prog_4_method_3_code 3 none 1 9 [(2, 38), (2, 6), (2, 16)] w (f_K_take w) := by
  refine ct_of (by decide +kernel) (Or.inr (Or.inr (Or.inr ⟨rfl, rfl⟩))) (Nat.le_of_ble_eq_true rfl) ?_
  intro X Qf ad C hn hR hr
  unfold f_K_take
  show VF X Qf ad NF 0 0 w 0 [(0, (2, 38)), (1, (2, 6)), (2, (2, 16))] [] _
  refine vf_aload_n C (f := 0) (zdg dz_K_take_0 0 rfl) 0 rfl rfl ?_
  refine vf_iconst C (z := 1) (zdg dz_K_take_0 1 rfl) (jz rfl) ?_
  refine vf_putzl C fl_K_18 fk_6_2 sh_37 rfl (by decide) rfl (Or.inr rfl) (zdg dz_K_take_0 2 rfl) ?_
  generalize st w 37 2 1 = u1
  refine vf_uw ?_
  refine vf_aload_n C (f := 0) (zdg dz_K_take_0 3 rfl) 0 rfl rfl ?_
  refine vf_aload_n C (f := 1) (zdg dz_K_take_0 4 rfl) 1 rfl rfl ?_
  refine vf_get C (kd := 0) fl_K_26 sh_5 rfl (by decide) rfl rfl (zdg dz_K_take_0 5 rfl) ?_
  refine vf_put C (kd := 0) fl_K_22 fk_6_3 sh_37 rfl (by decide) rfl rfl (by decide) (zdg dz_K_take_0 6 rfl) ?_
  generalize st u1 37 3 (u1 5 3) = u2
  refine vf_uw ?_
  refine vf_aload_n C (f := 0) (zdg dz_K_take_0 7 rfl) 0 rfl rfl ?_
  refine vf_aload_n C (f := 1) (zdg dz_K_take_0 8 rfl) 1 rfl rfl ?_
  refine vf_get C (kd := 0) fl_K_29 sh_5 rfl (by decide) rfl rfl (zdg dz_K_take_0 9 rfl) ?_
  refine vf_put C (kd := 0) fl_K_32 fk_6_4 sh_37 rfl (by decide) rfl rfl (by decide) (zdg dz_K_take_0 10 rfl) ?_
  generalize st u2 37 4 (u2 5 4) = u3
  refine vf_uw ?_
  refine vf_aload_n C (f := 0) (zdg dz_K_take_0 11 rfl) 0 rfl rfl ?_
  refine vf_aload_n C (f := 1) (zdg dz_K_take_0 12 rfl) 1 rfl rfl ?_
  refine vf_get C (kd := 0) fl_K_33 sh_5 rfl (by decide) rfl rfl (zdg dz_K_take_0 13 rfl) ?_
  refine vf_put C (kd := 0) fl_K_36 fk_6_5 sh_37 rfl (by decide) rfl rfl (by decide) (zdg dz_K_take_0 14 rfl) ?_
  generalize st u3 37 5 (u3 5 5) = u4
  refine vf_uw ?_
  refine vf_aload_n C (f := 0) (zdg dz_K_take_0 15 rfl) 0 rfl rfl ?_
  refine vf_aload_n C (f := 1) (zdg dz_K_take_0 16 rfl) 1 rfl rfl ?_
  refine vf_get C (kd := 0) fl_K_37 sh_5 rfl (by decide) rfl rfl (zdg dz_K_take_0 17 rfl) ?_
  refine vf_put C (kd := 0) fl_K_40 fk_6_6 sh_37 rfl (by decide) rfl rfl (by decide) (zdg dz_K_take_0 18 rfl) ?_
  generalize st u4 37 6 (u4 5 6) = u5
  refine vf_uw ?_
  refine vf_aload_n C (f := 0) (zdg dz_K_take_0 19 rfl) 0 rfl rfl ?_
  refine vf_aload_n C (f := 1) (zdg dz_K_take_0 20 rfl) 1 rfl rfl ?_
  refine vf_get C (kd := 0) fl_K_41 sh_5 rfl (by decide) rfl rfl (zdg dz_K_take_0 21 rfl) ?_
  refine vf_put C (kd := 0) fl_K_44 fk_6_7 sh_37 rfl (by decide) rfl rfl (by decide) (zdg dz_K_take_0 22 rfl) ?_
  generalize st u5 37 7 (u5 5 7) = u6
  refine vf_uw ?_
  refine vf_aload_n C (f := 0) (zdg dz_K_take_0 23 rfl) 0 rfl rfl ?_
  refine vf_aload_n C (f := 1) (zdg dz_K_take_1 0 rfl) 1 rfl rfl ?_
  refine vf_get C (kd := 0) fl_K_45 sh_5 rfl (by decide) rfl rfl (zdg dz_K_take_1 1 rfl) ?_
  refine vf_put C (kd := 0) fl_K_48 fk_6_8 sh_37 rfl (by decide) rfl rfl (by decide) (zdg dz_K_take_1 2 rfl) ?_
  generalize st u6 37 8 (u6 5 8) = u7
  refine vf_uw ?_
  refine vf_aload_n C (f := 0) (zdg dz_K_take_1 3 rfl) 0 rfl rfl ?_
  refine vf_aload_n C (f := 2) (zdg dz_K_take_1 4 rfl) 2 rfl rfl ?_
  refine vf_get C (kd := 0) fl_K_49 sh_15 rfl (by decide) rfl rfl (zdg dz_K_take_1 5 rfl) ?_
  refine vf_put C (kd := 0) fl_K_54 fk_6_9 sh_37 rfl (by decide) rfl rfl (by decide) (zdg dz_K_take_1 6 rfl) ?_
  generalize st u7 37 9 (u7 15 3) = u8
  refine vf_uw ?_
  refine vf_aload_n C (f := 1) (zdg dz_K_take_1 7 rfl) 1 rfl rfl ?_
  refine vf_getp C fl_K_55 sh_5 rfl (by decide) rfl (x := 9) rfl (zdg dz_K_take_1 8 rfl) ?_
  refine vf_iconst C (z := 0) (zdg dz_K_take_1 9 rfl) (jz rfl) ?_
  refine vf_aload_n C (f := 0) (zdg dz_K_take_1 10 rfl) 0 rfl rfl ?_
  refine vf_getp C fl_K_9 sh_37 rfl (by decide) rfl (x := 39) rfl (zdg dz_K_take_1 11 rfl) ?_
  refine vf_iconst C (z := 0) (zdg dz_K_take_1 12 rfl) (jz rfl) ?_
  refine vf_bipush C (z := 10) (zdg dz_K_take_1 13 rfl) (by decide +kernel) (jz rfl) ?_
  refine vf_copy C ml_K_56 sh_8 sh_38 (by decide) (by decide) (by decide) rfl rfl rfl rfl (jrm_n hR (by decide)) (Nat.le_of_ble_eq_true rfl) (by decide +kernel) ?_
  generalize cpy u8 8 38 0 0 10 = u9
  refine vf_uw ?_
  refine vf_aload_n C (f := 2) (zdg dz_K_take_1 15 rfl) 2 rfl rfl ?_
  refine vf_getp C fl_K_62 sh_15 rfl (by decide) rfl (x := 17) rfl (zdg dz_K_take_1 16 rfl) ?_
  refine vf_iconst C (z := 0) (zdg dz_K_take_1 17 rfl) (jz rfl) ?_
  refine vf_aload_n C (f := 0) (zdg dz_K_take_1 18 rfl) 0 rfl rfl ?_
  refine vf_getp C fl_K_15 sh_37 rfl (by decide) rfl (x := 40) rfl (zdg dz_K_take_1 19 rfl) ?_
  refine vf_iconst C (z := 0) (zdg dz_K_take_1 20 rfl) (jz rfl) ?_
  refine vf_bipush C (z := 61) (zdg dz_K_take_1 21 rfl) (by decide +kernel) (jz rfl) ?_
  refine vf_copy C ml_K_56 sh_16 sh_39 (by decide) (by decide) (by decide) rfl rfl rfl rfl (jrm_n hR (by decide)) (Nat.le_of_ble_eq_true rfl) (by decide +kernel) ?_
  generalize cpy u9 16 39 0 0 61 = u10
  refine vf_uw ?_
  exact hr _ _ _ _ (fun h => absurd h (by decide)) (zdg dz_K_take_1 23 rfl)
def f_K_take_40_5_15 (w : Wd) : Option (Int × Wd) :=
  jlw (st w 40 2 1) fun u1 =>
  jlw (st u1 40 3 (u1 5 3)) fun u2 =>
  jlw (st u2 40 4 (u2 5 4)) fun u3 =>
  jlw (st u3 40 5 (u3 5 5)) fun u4 =>
  jlw (st u4 40 6 (u4 5 6)) fun u5 =>
  jlw (st u5 40 7 (u5 5 7)) fun u6 =>
  jlw (st u6 40 8 (u6 5 8)) fun u7 =>
  jlw (st u7 40 9 (u7 15 3)) fun u8 =>
  jgd ((0 : Int) ≤ (0 : Int) ∧ (0 : Int) ≤ (0 : Int) ∧ (0 : Int) ≤ (10 : Int) ∧ (0 : Int) + (10 : Int) ≤ 10 ∧ (0 : Int) + (10 : Int) ≤ 10) <|
  jlw (cpy u8 8 41 0 0 10) fun u9 =>
  jgd ((0 : Int) ≤ (0 : Int) ∧ (0 : Int) ≤ (0 : Int) ∧ (0 : Int) ≤ (61 : Int) ∧ (0 : Int) + (61 : Int) ≤ 61 ∧ (0 : Int) + (61 : Int) ≤ 61) <|
  jlw (cpy u9 16 42 0 0 61) fun u10 =>
  some (0, u10)
theorem ct_K_take_40_5_15 (w : Wd) : Ct y_K_take prog_4_method_3_code 3 none 1 9 [(2, 41), (2, 6), (2, 16)] w (f_K_take_40_5_15 w) := by
  refine ct_of (by decide +kernel) (Or.inr (Or.inr (Or.inr ⟨rfl, rfl⟩))) (Nat.le_of_ble_eq_true rfl) ?_
  intro X Qf ad C hn hR hr
  unfold f_K_take_40_5_15
  show VF X Qf ad NF 0 0 w 0 [(0, (2, 41)), (1, (2, 6)), (2, (2, 16))] [] _
  refine vf_aload_n C (f := 0) (zdg dz_K_take_0 0 rfl) 0 rfl rfl ?_
  refine vf_iconst C (z := 1) (zdg dz_K_take_0 1 rfl) (jz rfl) ?_
  refine vf_putzl C fl_K_18 fk_6_2 sh_40 rfl (by decide) rfl (Or.inr rfl) (zdg dz_K_take_0 2 rfl) ?_
  generalize st w 40 2 1 = u1
  refine vf_uw ?_
  refine vf_aload_n C (f := 0) (zdg dz_K_take_0 3 rfl) 0 rfl rfl ?_
  refine vf_aload_n C (f := 1) (zdg dz_K_take_0 4 rfl) 1 rfl rfl ?_
  refine vf_get C (kd := 0) fl_K_26 sh_5 rfl (by decide) rfl rfl (zdg dz_K_take_0 5 rfl) ?_
  refine vf_put C (kd := 0) fl_K_22 fk_6_3 sh_40 rfl (by decide) rfl rfl (by decide) (zdg dz_K_take_0 6 rfl) ?_
  generalize st u1 40 3 (u1 5 3) = u2
  refine vf_uw ?_
  refine vf_aload_n C (f := 0) (zdg dz_K_take_0 7 rfl) 0 rfl rfl ?_
  refine vf_aload_n C (f := 1) (zdg dz_K_take_0 8 rfl) 1 rfl rfl ?_
  refine vf_get C (kd := 0) fl_K_29 sh_5 rfl (by decide) rfl rfl (zdg dz_K_take_0 9 rfl) ?_
  refine vf_put C (kd := 0) fl_K_32 fk_6_4 sh_40 rfl (by decide) rfl rfl (by decide) (zdg dz_K_take_0 10 rfl) ?_
  generalize st u2 40 4 (u2 5 4) = u3
  refine vf_uw ?_
  refine vf_aload_n C (f := 0) (zdg dz_K_take_0 11 rfl) 0 rfl rfl ?_
  refine vf_aload_n C (f := 1) (zdg dz_K_take_0 12 rfl) 1 rfl rfl ?_
  refine vf_get C (kd := 0) fl_K_33 sh_5 rfl (by decide) rfl rfl (zdg dz_K_take_0 13 rfl) ?_
  refine vf_put C (kd := 0) fl_K_36 fk_6_5 sh_40 rfl (by decide) rfl rfl (by decide) (zdg dz_K_take_0 14 rfl) ?_
  generalize st u3 40 5 (u3 5 5) = u4
  refine vf_uw ?_
  refine vf_aload_n C (f := 0) (zdg dz_K_take_0 15 rfl) 0 rfl rfl ?_
  refine vf_aload_n C (f := 1) (zdg dz_K_take_0 16 rfl) 1 rfl rfl ?_
  refine vf_get C (kd := 0) fl_K_37 sh_5 rfl (by decide) rfl rfl (zdg dz_K_take_0 17 rfl) ?_
  refine vf_put C (kd := 0) fl_K_40 fk_6_6 sh_40 rfl (by decide) rfl rfl (by decide) (zdg dz_K_take_0 18 rfl) ?_
  generalize st u4 40 6 (u4 5 6) = u5
  refine vf_uw ?_
  refine vf_aload_n C (f := 0) (zdg dz_K_take_0 19 rfl) 0 rfl rfl ?_
  refine vf_aload_n C (f := 1) (zdg dz_K_take_0 20 rfl) 1 rfl rfl ?_
  refine vf_get C (kd := 0) fl_K_41 sh_5 rfl (by decide) rfl rfl (zdg dz_K_take_0 21 rfl) ?_
  refine vf_put C (kd := 0) fl_K_44 fk_6_7 sh_40 rfl (by decide) rfl rfl (by decide) (zdg dz_K_take_0 22 rfl) ?_
  generalize st u5 40 7 (u5 5 7) = u6
  refine vf_uw ?_
  refine vf_aload_n C (f := 0) (zdg dz_K_take_0 23 rfl) 0 rfl rfl ?_
  refine vf_aload_n C (f := 1) (zdg dz_K_take_1 0 rfl) 1 rfl rfl ?_
  refine vf_get C (kd := 0) fl_K_45 sh_5 rfl (by decide) rfl rfl (zdg dz_K_take_1 1 rfl) ?_
  refine vf_put C (kd := 0) fl_K_48 fk_6_8 sh_40 rfl (by decide) rfl rfl (by decide) (zdg dz_K_take_1 2 rfl) ?_
  generalize st u6 40 8 (u6 5 8) = u7
  refine vf_uw ?_
  refine vf_aload_n C (f := 0) (zdg dz_K_take_1 3 rfl) 0 rfl rfl ?_
  refine vf_aload_n C (f := 2) (zdg dz_K_take_1 4 rfl) 2 rfl rfl ?_
  refine vf_get C (kd := 0) fl_K_49 sh_15 rfl (by decide) rfl rfl (zdg dz_K_take_1 5 rfl) ?_
  refine vf_put C (kd := 0) fl_K_54 fk_6_9 sh_40 rfl (by decide) rfl rfl (by decide) (zdg dz_K_take_1 6 rfl) ?_
  generalize st u7 40 9 (u7 15 3) = u8
  refine vf_uw ?_
  refine vf_aload_n C (f := 1) (zdg dz_K_take_1 7 rfl) 1 rfl rfl ?_
  refine vf_getp C fl_K_55 sh_5 rfl (by decide) rfl (x := 9) rfl (zdg dz_K_take_1 8 rfl) ?_
  refine vf_iconst C (z := 0) (zdg dz_K_take_1 9 rfl) (jz rfl) ?_
  refine vf_aload_n C (f := 0) (zdg dz_K_take_1 10 rfl) 0 rfl rfl ?_
  refine vf_getp C fl_K_9 sh_40 rfl (by decide) rfl (x := 42) rfl (zdg dz_K_take_1 11 rfl) ?_
  refine vf_iconst C (z := 0) (zdg dz_K_take_1 12 rfl) (jz rfl) ?_
  refine vf_bipush C (z := 10) (zdg dz_K_take_1 13 rfl) (by decide +kernel) (jz rfl) ?_
  refine vf_copy C ml_K_56 sh_8 sh_41 (by decide) (by decide) (by decide) rfl rfl rfl rfl (jrm_n hR (by decide)) (Nat.le_of_ble_eq_true rfl) (by decide +kernel) ?_
  generalize cpy u8 8 41 0 0 10 = u9
  refine vf_uw ?_
  refine vf_aload_n C (f := 2) (zdg dz_K_take_1 15 rfl) 2 rfl rfl ?_
  refine vf_getp C fl_K_62 sh_15 rfl (by decide) rfl (x := 17) rfl (zdg dz_K_take_1 16 rfl) ?_
  refine vf_iconst C (z := 0) (zdg dz_K_take_1 17 rfl) (jz rfl) ?_
  refine vf_aload_n C (f := 0) (zdg dz_K_take_1 18 rfl) 0 rfl rfl ?_
  refine vf_getp C fl_K_15 sh_40 rfl (by decide) rfl (x := 43) rfl (zdg dz_K_take_1 19 rfl) ?_
  refine vf_iconst C (z := 0) (zdg dz_K_take_1 20 rfl) (jz rfl) ?_
  refine vf_bipush C (z := 61) (zdg dz_K_take_1 21 rfl) (by decide +kernel) (jz rfl) ?_
  refine vf_copy C ml_K_56 sh_16 sh_42 (by decide) (by decide) (by decide) rfl rfl rfl rfl (jrm_n hR (by decide)) (Nat.le_of_ble_eq_true rfl) (by decide +kernel) ?_
  generalize cpy u9 16 42 0 0 61 = u10
  refine vf_uw ?_
  exact hr _ _ _ _ (fun h => absurd h (by decide)) (zdg dz_K_take_1 23 rfl)
def f_E_keep (v1 : Int) (w : Wd) : Option (Int × Wd) :=
  if v1 < 0 then
    some (0, w)
  else
    if v1 < 2 then
      if v1 = 0 then
        jcall (f_K_take w) fun r1 u2 =>
        some (1, u2)
      else
      if v1 = 1 then
        jcall (f_K_take_40_5_15 w) fun r3 u4 =>
        some (1, u4)
      else
      none
    else
      some (0, w)
theorem ct_E_keep (v1 : Int) (w : Wd) : Ct y_E_keep prog_1_method_40_code 2 (some .boolean) 2 4 [(2, 1), (0, v1)] w (f_E_keep v1 w) := by
  refine ct_of (by decide +kernel) (Or.inr (Or.inr (Or.inl ⟨rfl, rfl⟩))) (Nat.le_of_ble_eq_true rfl) ?_
  intro X Qf ad C hn hR hr
  unfold f_E_keep
  show VF X Qf ad NF 0 0 w 0 [(0, (2, 1)), (1, (0, v1))] [] _
  refine vf_iload_n C (f := 1) (zdg dz_E_keep_0 0 rfl) 1 rfl rfl ?_
  refine vf_if_lt C (off := 12) (tgt := 13) (zdg dz_E_keep_0 1 rfl) (by decide) ?_ ?_
  · refine vf_iconst C (z := 0) (zdg dz_E_keep_0 7 rfl) (jz rfl) ?_
    exact hr _ _ _ _ (fun _ => Or.inl rfl) (zdg dz_E_keep_0 8 rfl)
  · refine vf_iload_n C (f := 1) (zdg dz_E_keep_0 2 rfl) 1 rfl rfl ?_
    refine vf_aload_n C (f := 0) (zdg dz_E_keep_0 3 rfl) 0 rfl rfl ?_
    refine vf_getp C fl_E_75 sh_0 rfl (by decide) rfl (x := 37) rfl (zdg dz_E_keep_0 4 rfl) ?_
    refine vf_alen C sh_36 (by decide) (by decide) rfl (x := 2) rfl (jz rfl) (zdg dz_E_keep_0 5 rfl) ?_
    refine vf_icmp_lt C (off := 5) (tgt := 15) (zdg dz_E_keep_0 6 rfl) (by decide) ?_ ?_
    · refine vf_aload_n C (f := 0) (zdg dz_E_keep_0 9 rfl) 0 rfl rfl ?_
      refine vf_getp C fl_E_75 sh_0 rfl (by decide) rfl (x := 37) rfl (zdg dz_E_keep_0 10 rfl) ?_
      refine vf_iload_n C (f := 1) (zdg dz_E_keep_0 11 rfl) 1 rfl rfl ?_
      refine vf_if _ (fun h => ?_) (fun _ => ?_)
      · refine vf_aald C sh_36 (by decide) rfl (by rw [h]; decide) (z := 38) (by rw [h]; rfl) (x := 38) rfl (zdg dz_E_keep_0 12 rfl) ?_
        refine vf_aload_n C (f := 0) (zdg dz_E_keep_0 13 rfl) 0 rfl rfl ?_
        refine vf_getp C fl_E_26 sh_0 rfl (by decide) rfl (x := 6) rfl (zdg dz_E_keep_0 14 rfl) ?_
        refine vf_aload_n C (f := 0) (zdg dz_E_keep_0 15 rfl) 0 rfl rfl ?_
        refine vf_getp C fl_E_47 sh_0 rfl (by decide) rfl (x := 16) rfl (zdg dz_E_keep_0 16 rfl) ?_
        refine vf_callVv C cy_K_take ml_E_339 rfl (ct_K_take _) (S := []) sh_37 (by decide) rfl (jrm_of hR rfl) rfl rfl (Nat.le_of_ble_eq_true rfl) (zdg dz_E_keep_0 17 rfl) (fun r1 u2 => ?_)
        refine vf_iconst C (z := 1) (zdg dz_E_keep_0 18 rfl) (jz rfl) ?_
        exact hr _ _ _ _ (fun _ => Or.inr rfl) (zdg dz_E_keep_0 19 rfl)
      refine vf_if _ (fun h => ?_) (fun _ => ?_)
      · refine vf_aald C sh_36 (by decide) rfl (by rw [h]; decide) (z := 41) (by rw [h]; rfl) (x := 41) rfl (zdg dz_E_keep_0 12 rfl) ?_
        refine vf_aload_n C (f := 0) (zdg dz_E_keep_0 13 rfl) 0 rfl rfl ?_
        refine vf_getp C fl_E_26 sh_0 rfl (by decide) rfl (x := 6) rfl (zdg dz_E_keep_0 14 rfl) ?_
        refine vf_aload_n C (f := 0) (zdg dz_E_keep_0 15 rfl) 0 rfl rfl ?_
        refine vf_getp C fl_E_47 sh_0 rfl (by decide) rfl (x := 16) rfl (zdg dz_E_keep_0 16 rfl) ?_
        refine vf_callVv C cy_K_take ml_E_339 rfl (ct_K_take_40_5_15 _) (S := []) sh_40 (by decide) rfl (jrm_of hR rfl) rfl rfl (Nat.le_of_ble_eq_true rfl) (zdg dz_E_keep_0 17 rfl) (fun r3 u4 => ?_)
        refine vf_iconst C (z := 1) (zdg dz_E_keep_0 18 rfl) (jz rfl) ?_
        exact hr _ _ _ _ (fun _ => Or.inr rfl) (zdg dz_E_keep_0 19 rfl)
      exact vf_no
    · refine vf_iconst C (z := 0) (zdg dz_E_keep_0 7 rfl) (jz rfl) ?_
      exact hr _ _ _ _ (fun _ => Or.inl rfl) (zdg dz_E_keep_0 8 rfl)
