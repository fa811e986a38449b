section
def f_S_weeksOf (v1 : Int) (w : Wd) : Option (Int × Wd) :=
  if v1 < 0 then
    some (0, w)
  else
    if (w 28 7) ≤ v1 then
      some (0, w)
    else
      jgd ((0 : Int) ≤ v1 ∧ v1 < 3000) <|
      some (w 31 v1.toNat, w)
theorem ct_S_weeksOf (v1 : Int) (w : Wd) : Ct y_S_weeksOf prog_9_method_9_code 2 (some .long) 1 1 [(2, 29), (0, v1)] w (f_S_weeksOf v1 w) := by
  refine ct_of (by decide +kernel) (Or.inr (Or.inl ⟨rfl, rfl⟩)) (Nat.le_of_ble_eq_true rfl) ?_
  intro X Qf ad C hn hR hr
  unfold f_S_weeksOf
  show VF X Qf ad NF 0 0 w 0 [(0, (2, 29)), (1, (0, v1))] [] _
  refine vf_iload_n C (f := 1) (zdg dz_S_weeksOf_0 0 rfl) 1 rfl rfl ?_
  refine vf_if_lt C (off := 20) (tgt := 21) (zdg dz_S_weeksOf_0 1 rfl) (by decide) ?_ ?_
  · refine vf_lconst C (z := 0) (f := 0) (zdg dz_S_weeksOf_0 11 rfl) (by decide +kernel) (jz1 rfl) ?_
    exact hr _ _ _ _ (fun h => absurd h (by decide)) (zdg dz_S_weeksOf_0 12 rfl)
  · refine vf_iload_n C (f := 1) (zdg dz_S_weeksOf_0 2 rfl) 1 rfl rfl ?_
    refine vf_aload_n C (f := 0) (zdg dz_S_weeksOf_0 3 rfl) 0 rfl rfl ?_
    refine vf_get C (kd := 0) fl_S_67 sh_28 rfl (by decide) rfl rfl (zdg dz_S_weeksOf_0 4 rfl) ?_
    refine vf_icmp_ge C (off := 12) (tgt := 21) (zdg dz_S_weeksOf_0 5 rfl) (by decide) ?_ ?_
    · refine vf_lconst C (z := 0) (f := 0) (zdg dz_S_weeksOf_0 11 rfl) (by decide +kernel) (jz1 rfl) ?_
      exact hr _ _ _ _ (fun h => absurd h (by decide)) (zdg dz_S_weeksOf_0 12 rfl)
    · refine vf_aload_n C (f := 0) (zdg dz_S_weeksOf_0 6 rfl) 0 rfl rfl ?_
      refine vf_getp C fl_S_18 sh_28 rfl (by decide) rfl (x := 32) rfl (zdg dz_S_weeksOf_0 7 rfl) ?_
      refine vf_iload_n C (f := 1) (zdg dz_S_weeksOf_0 8 rfl) 1 rfl rfl ?_
      refine vf_lald C sh_31 (by decide) rfl (mz := 3000) rfl (zdg dz_S_weeksOf_0 9 rfl) ?_
      refine vf_goto C (off := 4) (tgt := 22) (zdg dz_S_weeksOf_0 10 rfl) (by decide) ?_
      exact hr _ _ _ _ (fun h => absurd h (by decide)) (zdg dz_S_weeksOf_0 12 rfl)
def f_S_canBe (v1 v2 : Int) (w : Wd) : Option (Int × Wd) :=
  jcall (f_S_weeksOf v1 w) fun r1 u2 =>
  if (lcmp (land (lshr r1 v2) 1) 0) = 0 then
    some (0, u2)
  else
    some (1, u2)
theorem ct_S_canBe (v1 v2 : Int) (w : Wd) : Ct y_S_canBe prog_9_method_10_code 3 (some .boolean) 2 4 [(2, 29), (0, v1), (0, v2)] w (f_S_canBe v1 v2 w) := by
  refine ct_of (by decide +kernel) (Or.inr (Or.inr (Or.inl ⟨rfl, rfl⟩))) (Nat.le_of_ble_eq_true rfl) ?_
  intro X Qf ad C hn hR hr
  unfold f_S_canBe
  show VF X Qf ad NF 0 0 w 0 [(0, (2, 29)), (1, (0, v1)), (2, (0, v2))] [] _
  refine vf_aload_n C (f := 0) (zdg dz_S_canBe_0 0 rfl) 0 rfl rfl ?_
  refine vf_iload_n C (f := 1) (zdg dz_S_canBe_0 1 rfl) 1 rfl rfl ?_
  refine vf_callVl C cy_S_weeksOf ml_S_106 rfl (ct_S_weeksOf _ _) (S := []) sh_28 (by decide) rfl (jrm_of hR rfl) rfl rfl (Nat.le_of_ble_eq_true rfl) (zdg dz_S_canBe_0 2 rfl) (fun r1 u2 => ?_)
  refine vf_iload_n C (f := 2) (zdg dz_S_canBe_0 3 rfl) 2 rfl rfl ?_
  refine vf_lshr C (zdg dz_S_canBe_0 4 rfl) ?_
  refine vf_lconst C (z := 1) (f := 1) (zdg dz_S_canBe_0 5 rfl) (by decide +kernel) (jz1 rfl) ?_
  refine vf_land C (zdg dz_S_canBe_0 6 rfl) ?_
  refine vf_lconst C (z := 0) (f := 0) (zdg dz_S_canBe_0 7 rfl) (by decide +kernel) (jz1 rfl) ?_
  refine vf_lcmp C (zdg dz_S_canBe_0 8 rfl) ?_
  refine vf_if_eq C (off := 7) (tgt := 18) (zdg dz_S_canBe_0 9 rfl) (by decide) ?_ ?_
  · refine vf_iconst C (z := 0) (zdg dz_S_canBe_0 12 rfl) (jz rfl) ?_
    exact hr _ _ _ _ (fun _ => Or.inl rfl) (zdg dz_S_canBe_0 13 rfl)
  · refine vf_iconst C (z := 1) (zdg dz_S_canBe_0 10 rfl) (jz rfl) ?_
    refine vf_goto C (off := 4) (tgt := 19) (zdg dz_S_canBe_0 11 rfl) (by decide) ?_
    exact hr _ _ _ _ (fun _ => Or.inr rfl) (zdg dz_S_canBe_0 13 rfl)
def f_E_most_82 (k37 : Int → Int → Int → Int → Wd → Option (Int × Wd)) (v1 v2 v3 v4 : Int) (w : Wd) : Option (Int × Wd) :=
  jlet (w32 (v4 + 1)) fun x9 =>
  k37 v1 v2 v3 x9 w
theorem t_E_most_82 {X : jX} {Qf : Int × Wd → State → Prop} {ad : Nat → Nat} (C : Cx X prog_1_method_20_code "EachBringsAnother") (hn : xn X = 5) (hR : xR X = rmD 21) (hr : Rt X Qf ad prog_1_method_20_code 0) {k37 : Int → Int → Int → Int → Wd → Option (Int × Wd)} (hk37 : ∀ (v1 v2 v3 v4 : Int) (w : Wd), VF X Qf ad NF 0 0 w 37 [(0, (2, 1)), (1, (0, v1)), (2, (0, v2)), (3, (0, v3)), (4, (0, v4))] [] (k37 v1 v2 v3 v4 w)) (v1 v2 v3 v4 : Int) (w : Wd) : VF X Qf ad NF 0 0 w 82 [(0, (2, 1)), (1, (0, v1)), (2, (0, v2)), (3, (0, v3)), (4, (0, v4))] [] (f_E_most_82 k37 v1 v2 v3 v4 w) := by
  unfold f_E_most_82
  refine vf_iinc C (z := 1) (L' := [(0, (2, 1)), (1, (0, v1)), (2, (0, v2)), (3, (0, v3))]) (zdg dz_E_most_1 17 rfl) 4 rfl [0, 1, 2, 3] (jrI rfl rfl) hn (by decide) ?_
  generalize w32 (v4 + 1) = x9
  refine vf_ul ?_
  refine vf_goto C (off := (-48)) (tgt := 37) (zdg dz_E_most_1 18 rfl) (by decide) ?_
  exact vf_perm [1, 2, 3, 4, 0] rfl (hk37 _ _ _ _ _)
def f_E_most_37 : Nat → Int → Int → Int → Int → Wd → Option (Int × Wd)
  | 0, _, _, _, _, _ => none
  | n + 1, v1, v2, v3, v4, w =>
    if (w 28 7) ≤ v4 then
      jcall (f_N_tell1 v3 w) fun r5 u6 =>
      some (v2, u6)
    else
      jcall (f_S_canBe v4 v1 w) fun r7 u8 =>
      if r7 = 0 then
        f_E_most_82 (f_E_most_37 n) v1 v2 v3 v4 u8
      else
        jcall (f_S_guests v4 u8) fun r10 u11 =>
        jcall (f_JI_bitCount r10 u11) fun r12 u13 =>
        jlet (imax v2 r12) fun x14 =>
        jlet (w32 (v3 + 1)) fun x15 =>
        f_E_most_82 (f_E_most_37 n) v1 x14 x15 v4 u13
theorem t_E_most_37 {X : jX} {Qf : Int × Wd → State → Prop} {ad : Nat → Nat} (C : Cx X prog_1_method_20_code "EachBringsAnother") (hn : xn X = 5) (hR : xR X = rmD 21) (hr : Rt X Qf ad prog_1_method_20_code 0) : ∀ (n : Nat) (v1 v2 v3 v4 : Int) (w : Wd), VF X Qf ad NF 0 0 w 37 [(0, (2, 1)), (1, (0, v1)), (2, (0, v2)), (3, (0, v3)), (4, (0, v4))] [] (f_E_most_37 n v1 v2 v3 v4 w) := by
  intro n
  induction n with
  | zero => intros; exact vf_no
  | succ n ih =>
    intro v1 v2 v3 v4 w
    rw [f_E_most_37]
    refine vf_iload C (zdg dz_E_most_0 21 rfl) 4 rfl ?_
    refine vf_aload_n C (f := 0) (zdg dz_E_most_0 22 rfl) 0 rfl rfl ?_
    refine vf_getp C fl_E_68 sh_0 rfl (by decide) rfl (x := 29) rfl (zdg dz_E_most_0 23 rfl) ?_
    refine vf_get C (kd := 0) fl_E_260 sh_28 rfl (by decide) rfl rfl (zdg dz_E_most_1 0 rfl) ?_
    refine vf_icmp_ge C (off := 42) (tgt := 88) (zdg dz_E_most_1 1 rfl) (by decide) ?_ ?_
    · refine vf_aload_n C (f := 0) (zdg dz_E_most_1 19 rfl) 0 rfl rfl ?_
      refine vf_getp C fl_E_19 sh_0 rfl (by decide) rfl (x := 4) rfl (zdg dz_E_most_1 20 rfl) ?_
      refine vf_iload_n C (f := 3) (zdg dz_E_most_1 21 rfl) 3 rfl rfl ?_
      refine vf_callVv C cy_N_tell1 ml_E_231 rfl (ct_N_tell1 _ _) (S := []) sh_3 (by decide) rfl (jrm_of hR rfl) rfl rfl (Nat.le_of_ble_eq_true rfl) (zdg dz_E_most_1 22 rfl) (fun r5 u6 => ?_)
      refine vf_iload_n C (f := 2) (zdg dz_E_most_1 23 rfl) 2 rfl rfl ?_
      exact hr _ _ _ _ (fun h => absurd h (by decide)) (zdg dz_E_most_2 0 rfl)
    · refine vf_aload_n C (f := 0) (zdg dz_E_most_1 2 rfl) 0 rfl rfl ?_
      refine vf_getp C fl_E_68 sh_0 rfl (by decide) rfl (x := 29) rfl (zdg dz_E_most_1 3 rfl) ?_
      refine vf_iload C (zdg dz_E_most_1 4 rfl) 4 rfl ?_
      refine vf_iload_n C (f := 1) (zdg dz_E_most_1 5 rfl) 1 rfl rfl ?_
      refine vf_callVz C cy_S_canBe ml_E_266 rfl (ct_S_canBe _ _ _) (S := []) sh_28 (by decide) rfl (jrm_of hR rfl) rfl rfl (Nat.le_of_ble_eq_true rfl) (zdg dz_E_most_1 6 rfl) (fun r7 u8 => ?_)
      refine vf_if_eq C (off := 23) (tgt := 82) (zdg dz_E_most_1 7 rfl) (by decide) ?_ ?_
      · exact t_E_most_82 C hn hR hr ih _ _ _ _ _
      · refine vf_iload_n C (f := 2) (zdg dz_E_most_1 8 rfl) 2 rfl rfl ?_
        refine vf_aload_n C (f := 0) (zdg dz_E_most_1 9 rfl) 0 rfl rfl ?_
        refine vf_getp C fl_E_68 sh_0 rfl (by decide) rfl (x := 29) rfl (zdg dz_E_most_1 10 rfl) ?_
        refine vf_iload C (zdg dz_E_most_1 11 rfl) 4 rfl ?_
        refine vf_callVi C cy_S_guests ml_E_261 rfl (ct_S_guests _ _) (S := [(0, v2)]) sh_28 (by decide) rfl (jrm_of hR rfl) rfl rfl (Nat.le_of_ble_eq_true rfl) (zdg dz_E_most_1 12 rfl) (fun r10 u11 => ?_)
        refine vf_callSi C cy_JI_bitCount ml_E_245 (ct_JI_bitCount _ _) (S := [(0, v2)]) (jrm_of hR rfl) rfl rfl (Nat.le_of_ble_eq_true rfl) (zdg dz_E_most_1 13 rfl) (fun r12 u13 => ?_)
        refine vf_mmax C ml_E_269 (jrm_n hR (by decide)) ⟨Nat.zero_le _, Nat.zero_le _⟩ (Nat.le_of_ble_eq_true rfl) (zdg dz_E_most_1 14 rfl) ?_
        generalize imax v2 r12 = x14
        refine vf_ul ?_
        refine vf_istore_n C (f := 2) (L' := [(0, (2, 1)), (1, (0, v1)), (3, (0, v3)), (4, (0, v4))]) (zdg dz_E_most_1 15 rfl) [0, 1, 3, 4] (jrI rfl rfl) hn (by decide) rfl ?_
        refine vf_iinc C (z := 1) (L' := [(2, (0, x14)), (0, (2, 1)), (1, (0, v1)), (4, (0, v4))]) (zdg dz_E_most_1 16 rfl) 3 rfl [0, 1, 2, 4] (jrI rfl rfl) hn (by decide) ?_
        generalize w32 (v3 + 1) = x15
        refine vf_ul ?_
        exact vf_perm [2, 3, 1, 0, 4] rfl (t_E_most_82 C hn hR hr ih _ _ _ _ _)
def f_E_most (v1 : Int) (w : Wd) : Option (Int × Wd) :=
  jcall (f_E_isWeek v1 w) fun r1 u2 =>
  if r1 = 0 then
    some ((-1), u2)
  else
    jcall (f_S_run u2) fun r3 u4 =>
    if r3 = 0 then
      some ((-3), u4)
    else
      f_E_most_37 FU v1 0 0 0 u4
theorem ct_E_most (v1 : Int) (w : Wd) : Ct y_E_most prog_1_method_20_code 5 (some .int) 21 0 [(2, 1), (0, v1)] w (f_E_most v1 w) := by
  refine ct_of (by decide +kernel) (Or.inl ⟨rfl, rfl⟩) (Nat.le_of_ble_eq_true rfl) ?_
  intro X Qf ad C hn hR hr
  unfold f_E_most
  show VF X Qf ad NF 0 0 w 0 [(0, (2, 1)), (1, (0, v1))] [] _
  refine vf_iload_n C (f := 1) (zdg dz_E_most_0 0 rfl) 1 rfl rfl ?_
  refine vf_callSz C cy_E_isWeek ml_E_209 (ct_E_isWeek _ _) (S := []) (jrm_of hR rfl) rfl rfl (Nat.le_of_ble_eq_true rfl) (zdg dz_E_most_0 1 rfl) (fun r1 u2 => ?_)
  refine vf_if_ne C (off := 5) (tgt := 9) (zdg dz_E_most_0 2 rfl) (by decide) ?_ ?_
  · refine vf_aload_n C (f := 0) (zdg dz_E_most_0 5 rfl) 0 rfl rfl ?_
    refine vf_getp C fl_E_68 sh_0 rfl (by decide) rfl (x := 29) rfl (zdg dz_E_most_0 6 rfl) ?_
    refine vf_aload_n C (f := 0) (zdg dz_E_most_0 7 rfl) 0 rfl rfl ?_
    refine vf_getp C fl_E_26 sh_0 rfl (by decide) rfl (x := 6) rfl (zdg dz_E_most_0 8 rfl) ?_
    refine vf_aload_n C (f := 0) (zdg dz_E_most_0 9 rfl) 0 rfl rfl ?_
    refine vf_getp C fl_E_61 sh_0 rfl (by decide) rfl (x := 25) rfl (zdg dz_E_most_0 10 rfl) ?_
    refine vf_callVz C cy_S_run ml_E_256 rfl (ct_S_run _) (S := []) sh_28 (by decide) rfl (jrm_of hR rfl) rfl rfl (Nat.le_of_ble_eq_true rfl) (zdg dz_E_most_0 11 rfl) (fun r3 u4 => ?_)
    refine vf_if_ne C (off := 6) (tgt := 30) (zdg dz_E_most_0 12 rfl) (by decide) ?_ ?_
    · refine vf_iconst C (z := 0) (zdg dz_E_most_0 15 rfl) (jz rfl) ?_
      refine vf_istore_n C (f := 2) (L' := [(0, (2, 1)), (1, (0, v1))]) (zdg dz_E_most_0 16 rfl) [0, 1] (jrI rfl rfl) hn (by decide) rfl ?_
      refine vf_iconst C (z := 0) (zdg dz_E_most_0 17 rfl) (jz rfl) ?_
      refine vf_istore_n C (f := 3) (L' := [(2, (0, 0)), (0, (2, 1)), (1, (0, v1))]) (zdg dz_E_most_0 18 rfl) [0, 1, 2] (jrI rfl rfl) hn (by decide) rfl ?_
      refine vf_iconst C (z := 0) (zdg dz_E_most_0 19 rfl) (jz rfl) ?_
      refine vf_istore C (i := 4) (L' := [(3, (0, 0)), (2, (0, 0)), (0, (2, 1)), (1, (0, v1))]) (zdg dz_E_most_0 20 rfl) [0, 1, 2, 3] (jrI rfl rfl) hn (by decide) ?_
      exact vf_perm [3, 4, 2, 1, 0] rfl (t_E_most_37 C hn hR hr FU _ _ _ _ _)
    · refine vf_bipush C (z := (-3)) (zdg dz_E_most_0 13 rfl) (by decide +kernel) (jz rfl) ?_
      exact hr _ _ _ _ (fun h => absurd h (by decide)) (zdg dz_E_most_0 14 rfl)
  · refine vf_iconst C (z := (-1)) (zdg dz_E_most_0 3 rfl) (jz rfl) ?_
    exact hr _ _ _ _ (fun h => absurd h (by decide)) (zdg dz_E_most_0 4 rfl)
def f_E_reach_100 (k39 : Int → Int → Int → Int → Wd → Option (Int × Wd)) (v1 v2 v3 v4 : Int) (w : Wd) : Option (Int × Wd) :=
  jlet (w32 (v4 + 1)) fun x9 =>
  k39 v1 v2 v3 x9 w
theorem t_E_reach_100 {X : jX} {Qf : Int × Wd → State → Prop} {ad : Nat → Nat} (C : Cx X prog_1_method_21_code "EachBringsAnother") (hn : xn X = 5) (hR : xR X = rmD 21) (hr : Rt X Qf ad prog_1_method_21_code 0) {k39 : Int → Int → Int → Int → Wd → Option (Int × Wd)} (hk39 : ∀ (v1 v2 v3 v4 : Int) (w : Wd), VF X Qf ad NF 0 0 w 39 [(0, (2, 1)), (1, (0, v1)), (2, (0, v2)), (3, (0, v3)), (4, (0, v4))] [] (k39 v1 v2 v3 v4 w)) (v1 v2 v3 v4 : Int) (w : Wd) : VF X Qf ad NF 0 0 w 100 [(0, (2, 1)), (1, (0, v1)), (2, (0, v2)), (3, (0, v3)), (4, (0, v4))] [] (f_E_reach_100 k39 v1 v2 v3 v4 w) := by
  unfold f_E_reach_100
  refine vf_iinc C (z := 1) (L' := [(0, (2, 1)), (1, (0, v1)), (2, (0, v2)), (3, (0, v3))]) (zdg dz_E_reach_2 3 rfl) 4 rfl [0, 1, 2, 3] (jrI rfl rfl) hn (by decide) ?_
  generalize w32 (v4 + 1) = x9
  refine vf_ul ?_
  refine vf_goto C (off := (-64)) (tgt := 39) (zdg dz_E_reach_2 4 rfl) (by decide) ?_
  exact vf_perm [1, 2, 3, 4, 0] rfl (hk39 _ _ _ _ _)
def f_E_reach_39 : Nat → Int → Int → Int → Int → Wd → Option (Int × Wd)
  | 0, _, _, _, _, _ => none
  | n + 1, v1, v2, v3, v4, w =>
    if (w 28 7) ≤ v4 then
      jcall (f_N_tell1 (iand v2 v3) w) fun r5 u6 =>
      some (v2, u6)
    else
      jcall (f_S_canBe v4 v1 w) fun r7 u8 =>
      if r7 = 0 then
        f_E_reach_100 (f_E_reach_39 n) v1 v2 v3 v4 u8
      else
        jcall (f_S_guests v4 u8) fun r10 u11 =>
        if r10 = 0 then
          f_E_reach_100 (f_E_reach_39 n) v1 v2 v3 v4 u11
        else
          jcall (f_S_guests v4 u11) fun r12 u13 =>
          jlet (ior v2 r12) fun x14 =>
          jcall (f_S_guests v4 u13) fun r15 u16 =>
          jlet (iand v3 r15) fun x17 =>
          f_E_reach_100 (f_E_reach_39 n) v1 x14 x17 v4 u16
theorem t_E_reach_39 {X : jX} {Qf : Int × Wd → State → Prop} {ad : Nat → Nat} (C : Cx X prog_1_method_21_code "EachBringsAnother") (hn : xn X = 5) (hR : xR X = rmD 21) (hr : Rt X Qf ad prog_1_method_21_code 0) : ∀ (n : Nat) (v1 v2 v3 v4 : Int) (w : Wd), VF X Qf ad NF 0 0 w 39 [(0, (2, 1)), (1, (0, v1)), (2, (0, v2)), (3, (0, v3)), (4, (0, v4))] [] (f_E_reach_39 n v1 v2 v3 v4 w) := by
  intro n
  induction n with
  | zero => intros; exact vf_no
  | succ n ih =>
    intro v1 v2 v3 v4 w
    rw [f_E_reach_39]
    refine vf_iload C (zdg dz_E_reach_0 21 rfl) 4 rfl ?_
    refine vf_aload_n C (f := 0) (zdg dz_E_reach_0 22 rfl) 0 rfl rfl ?_
    refine vf_getp C fl_E_68 sh_0 rfl (by decide) rfl (x := 29) rfl (zdg dz_E_reach_0 23 rfl) ?_
    refine vf_get C (kd := 0) fl_E_260 sh_28 rfl (by decide) rfl rfl (zdg dz_E_reach_1 0 rfl) ?_
    refine vf_icmp_ge C (off := 58) (tgt := 106) (zdg dz_E_reach_1 1 rfl) (by decide) ?_ ?_
    · refine vf_aload_n C (f := 0) (zdg dz_E_reach_2 5 rfl) 0 rfl rfl ?_
      refine vf_getp C fl_E_19 sh_0 rfl (by decide) rfl (x := 4) rfl (zdg dz_E_reach_2 6 rfl) ?_
      refine vf_iload_n C (f := 2) (zdg dz_E_reach_2 7 rfl) 2 rfl rfl ?_
      refine vf_iload_n C (f := 3) (zdg dz_E_reach_2 8 rfl) 3 rfl rfl ?_
      refine vf_iand C (zdg dz_E_reach_2 9 rfl) ?_
      refine vf_callVv C cy_N_tell1 ml_E_231 rfl (ct_N_tell1 _ _) (S := []) sh_3 (by decide) rfl (jrm_of hR rfl) rfl rfl (Nat.le_of_ble_eq_true rfl) (zdg dz_E_reach_2 10 rfl) (fun r5 u6 => ?_)
      refine vf_iload_n C (f := 2) (zdg dz_E_reach_2 11 rfl) 2 rfl rfl ?_
      exact hr _ _ _ _ (fun h => absurd h (by decide)) (zdg dz_E_reach_2 12 rfl)
    · refine vf_aload_n C (f := 0) (zdg dz_E_reach_1 2 rfl) 0 rfl rfl ?_
      refine vf_getp C fl_E_68 sh_0 rfl (by decide) rfl (x := 29) rfl (zdg dz_E_reach_1 3 rfl) ?_
      refine vf_iload C (zdg dz_E_reach_1 4 rfl) 4 rfl ?_
      refine vf_iload_n C (f := 1) (zdg dz_E_reach_1 5 rfl) 1 rfl rfl ?_
      refine vf_callVz C cy_S_canBe ml_E_266 rfl (ct_S_canBe _ _ _) (S := []) sh_28 (by decide) rfl (jrm_of hR rfl) rfl rfl (Nat.le_of_ble_eq_true rfl) (zdg dz_E_reach_1 6 rfl) (fun r7 u8 => ?_)
      refine vf_if_eq C (off := 39) (tgt := 100) (zdg dz_E_reach_1 7 rfl) (by decide) ?_ ?_
      · exact t_E_reach_100 C hn hR hr ih _ _ _ _ _
      · refine vf_aload_n C (f := 0) (zdg dz_E_reach_1 8 rfl) 0 rfl rfl ?_
        refine vf_getp C fl_E_68 sh_0 rfl (by decide) rfl (x := 29) rfl (zdg dz_E_reach_1 9 rfl) ?_
        refine vf_iload C (zdg dz_E_reach_1 10 rfl) 4 rfl ?_
        refine vf_callVi C cy_S_guests ml_E_261 rfl (ct_S_guests _ _) (S := []) sh_28 (by decide) rfl (jrm_of hR rfl) rfl rfl (Nat.le_of_ble_eq_true rfl) (zdg dz_E_reach_1 11 rfl) (fun r10 u11 => ?_)
        refine vf_if_eq C (off := 27) (tgt := 100) (zdg dz_E_reach_1 12 rfl) (by decide) ?_ ?_
        · exact t_E_reach_100 C hn hR hr ih _ _ _ _ _
        · refine vf_iload_n C (f := 2) (zdg dz_E_reach_1 13 rfl) 2 rfl rfl ?_
          refine vf_aload_n C (f := 0) (zdg dz_E_reach_1 14 rfl) 0 rfl rfl ?_
          refine vf_getp C fl_E_68 sh_0 rfl (by decide) rfl (x := 29) rfl (zdg dz_E_reach_1 15 rfl) ?_
          refine vf_iload C (zdg dz_E_reach_1 16 rfl) 4 rfl ?_
          refine vf_callVi C cy_S_guests ml_E_261 rfl (ct_S_guests _ _) (S := [(0, v2)]) sh_28 (by decide) rfl (jrm_of hR rfl) rfl rfl (Nat.le_of_ble_eq_true rfl) (zdg dz_E_reach_1 17 rfl) (fun r12 u13 => ?_)
          refine vf_ior C (zdg dz_E_reach_1 18 rfl) ?_
          generalize ior v2 r12 = x14
          refine vf_ul ?_
          refine vf_istore_n C (f := 2) (L' := [(0, (2, 1)), (1, (0, v1)), (3, (0, v3)), (4, (0, v4))]) (zdg dz_E_reach_1 19 rfl) [0, 1, 3, 4] (jrI rfl rfl) hn (by decide) rfl ?_
          refine vf_iload_n C (f := 3) (zdg dz_E_reach_1 20 rfl) 3 rfl rfl ?_
          refine vf_aload_n C (f := 0) (zdg dz_E_reach_1 21 rfl) 1 rfl rfl ?_
          refine vf_getp C fl_E_68 sh_0 rfl (by decide) rfl (x := 29) rfl (zdg dz_E_reach_1 22 rfl) ?_
          refine vf_iload C (zdg dz_E_reach_1 23 rfl) 4 rfl ?_
          refine vf_callVi C cy_S_guests ml_E_261 rfl (ct_S_guests _ _) (S := [(0, v3)]) sh_28 (by decide) rfl (jrm_of hR rfl) rfl rfl (Nat.le_of_ble_eq_true rfl) (zdg dz_E_reach_2 0 rfl) (fun r15 u16 => ?_)
          refine vf_iand C (zdg dz_E_reach_2 1 rfl) ?_
          generalize iand v3 r15 = x17
          refine vf_ul ?_
          refine vf_istore_n C (f := 3) (L' := [(2, (0, x14)), (0, (2, 1)), (1, (0, v1)), (4, (0, v4))]) (zdg dz_E_reach_2 2 rfl) [0, 1, 2, 4] (jrI rfl rfl) hn (by decide) rfl ?_
          exact vf_perm [2, 3, 1, 0, 4] rfl (t_E_reach_100 C hn hR hr ih _ _ _ _ _)
def f_E_reach (v1 : Int) (w : Wd) : Option (Int × Wd) :=
  jcall (f_E_isWeek v1 w) fun r1 u2 =>
  if r1 = 0 then
    some ((-1), u2)
  else
    jcall (f_S_run u2) fun r3 u4 =>
    if r3 = 0 then
      some ((-3), u4)
    else
      f_E_reach_39 FU v1 0 1023 0 u4
theorem ct_E_reach (v1 : Int) (w : Wd) : Ct y_E_reach prog_1_method_21_code 5 (some .int) 21 0 [(2, 1), (0, v1)] w (f_E_reach v1 w) := by
  refine ct_of (by decide +kernel) (Or.inl ⟨rfl, rfl⟩) (Nat.le_of_ble_eq_true rfl) ?_
  intro X Qf ad C hn hR hr
  unfold f_E_reach
  show VF X Qf ad NF 0 0 w 0 [(0, (2, 1)), (1, (0, v1))] [] _
  refine vf_iload_n C (f := 1) (zdg dz_E_reach_0 0 rfl) 1 rfl rfl ?_
  refine vf_callSz C cy_E_isWeek ml_E_209 (ct_E_isWeek _ _) (S := []) (jrm_of hR rfl) rfl rfl (Nat.le_of_ble_eq_true rfl) (zdg dz_E_reach_0 1 rfl) (fun r1 u2 => ?_)
  refine vf_if_ne C (off := 5) (tgt := 9) (zdg dz_E_reach_0 2 rfl) (by decide) ?_ ?_
  · refine vf_aload_n C (f := 0) (zdg dz_E_reach_0 5 rfl) 0 rfl rfl ?_
    refine vf_getp C fl_E_68 sh_0 rfl (by decide) rfl (x := 29) rfl (zdg dz_E_reach_0 6 rfl) ?_
    refine vf_aload_n C (f := 0) (zdg dz_E_reach_0 7 rfl) 0 rfl rfl ?_
    refine vf_getp C fl_E_26 sh_0 rfl (by decide) rfl (x := 6) rfl (zdg dz_E_reach_0 8 rfl) ?_
    refine vf_aload_n C (f := 0) (zdg dz_E_reach_0 9 rfl) 0 rfl rfl ?_
    refine vf_getp C fl_E_61 sh_0 rfl (by decide) rfl (x := 25) rfl (zdg dz_E_reach_0 10 rfl) ?_
    refine vf_callVz C cy_S_run ml_E_256 rfl (ct_S_run _) (S := []) sh_28 (by decide) rfl (jrm_of hR rfl) rfl rfl (Nat.le_of_ble_eq_true rfl) (zdg dz_E_reach_0 11 rfl) (fun r3 u4 => ?_)
    refine vf_if_ne C (off := 6) (tgt := 30) (zdg dz_E_reach_0 12 rfl) (by decide) ?_ ?_
    · refine vf_iconst C (z := 0) (zdg dz_E_reach_0 15 rfl) (jz rfl) ?_
      refine vf_istore_n C (f := 2) (L' := [(0, (2, 1)), (1, (0, v1))]) (zdg dz_E_reach_0 16 rfl) [0, 1] (jrI rfl rfl) hn (by decide) rfl ?_
      refine vf_sipush C (z := 1023) (zdg dz_E_reach_0 17 rfl) (by decide +kernel) (jz rfl) ?_
      refine vf_istore_n C (f := 3) (L' := [(2, (0, 0)), (0, (2, 1)), (1, (0, v1))]) (zdg dz_E_reach_0 18 rfl) [0, 1, 2] (jrI rfl rfl) hn (by decide) rfl ?_
      refine vf_iconst C (z := 0) (zdg dz_E_reach_0 19 rfl) (jz rfl) ?_
      refine vf_istore C (i := 4) (L' := [(3, (0, 1023)), (2, (0, 0)), (0, (2, 1)), (1, (0, v1))]) (zdg dz_E_reach_0 20 rfl) [0, 1, 2, 3] (jrI rfl rfl) hn (by decide) ?_
      exact vf_perm [3, 4, 2, 1, 0] rfl (t_E_reach_39 C hn hR hr FU _ _ _ _ _)
    · refine vf_bipush C (z := (-3)) (zdg dz_E_reach_0 13 rfl) (by decide +kernel) (jz rfl) ?_
      exact hr _ _ _ _ (fun h => absurd h (by decide)) (zdg dz_E_reach_0 14 rfl)
  · refine vf_iconst C (z := (-1)) (zdg dz_E_reach_0 3 rfl) (jz rfl) ?_
    exact hr _ _ _ _ (fun h => absurd h (by decide)) (zdg dz_E_reach_0 4 rfl)
def f_E_less_10 (v1 : Int) (w : Wd) : Option (Int × Wd) :=
  some (v1, w)
theorem t_E_less_10 {X : jX} {Qf : Int × Wd → State → Prop} {ad : Nat → Nat} (C : Cx X prog_1_method_49_code "EachBringsAnother") (hn : xn X = 2) (hR : xR X = rmD 1) (hr : Rt X Qf ad prog_1_method_49_code 0) (v1 : Int) (w : Wd) : VF X Qf ad NF 0 0 w 10 [(1, (0, v1))] [] (f_E_less_10 v1 w) := by
  unfold f_E_less_10
  refine vf_iload_n C (f := 1) (zdg dz_E_less_0 6 rfl) 0 rfl rfl ?_
  refine vf_goto C (off := 4) (tgt := 15) (zdg dz_E_less_0 7 rfl) (by decide) ?_
  exact hr _ _ _ _ (fun h => absurd h (by decide)) (zdg dz_E_less_0 9 rfl)
def f_E_less (v0 v1 : Int) (w : Wd) : Option (Int × Wd) :=
  if v0 = (-1) then
    f_E_less_10 v1 w
  else
    if v0 ≤ v1 then
      some (v0, w)
    else
      f_E_less_10 v1 w
theorem ct_E_less (v0 v1 : Int) (w : Wd) : Ct y_E_less prog_1_method_49_code 2 (some .int) 1 0 [(0, v0), (0, v1)] w (f_E_less v0 v1 w) := by
  refine ct_of (by decide +kernel) (Or.inl ⟨rfl, rfl⟩) (Nat.le_of_ble_eq_true rfl) ?_
  intro X Qf ad C hn hR hr
  unfold f_E_less
  show VF X Qf ad NF 0 0 w 0 [(0, (0, v0)), (1, (0, v1))] [] _
  refine vf_iload_n C (f := 0) (zdg dz_E_less_0 0 rfl) 0 rfl rfl ?_
  refine vf_iconst C (z := (-1)) (zdg dz_E_less_0 1 rfl) (jz rfl) ?_
  refine vf_icmp_eq C (off := 8) (tgt := 10) (zdg dz_E_less_0 2 rfl) (by decide) ?_ ?_
  · exact vf_perm [1] rfl (t_E_less_10 C hn hR hr _ _)
  · refine vf_iload_n C (f := 1) (zdg dz_E_less_0 3 rfl) 1 rfl rfl ?_
    refine vf_iload_n C (f := 0) (zdg dz_E_less_0 4 rfl) 0 rfl rfl ?_
    refine vf_icmp_ge C (off := 7) (tgt := 14) (zdg dz_E_less_0 5 rfl) (by decide) ?_ ?_
    · refine vf_iload_n C (f := 0) (zdg dz_E_less_0 8 rfl) 0 rfl rfl ?_
      exact hr _ _ _ _ (fun h => absurd h (by decide)) (zdg dz_E_less_0 9 rfl)
    · exact vf_perm [1] rfl (t_E_less_10 C hn hR hr _ _)
def f_S_fewestGuests_42 (k4 : Int → Int → Int → Wd → Option (Int × Wd)) (v1 v2 v3 : Int) (w : Wd) : Option (Int × Wd) :=
  jlet (w32 (v3 + 1)) fun x3 =>
  k4 v1 v2 x3 w
theorem t_S_fewestGuests_42 {X : jX} {Qf : Int × Wd → State → Prop} {ad : Nat → Nat} (C : Cx X prog_9_method_12_code "EachBringsAnother$Search") (hn : xn X = 4) (hR : xR X = rmD 3) (hr : Rt X Qf ad prog_9_method_12_code 0) {k4 : Int → Int → Int → Wd → Option (Int × Wd)} (hk4 : ∀ (v1 v2 v3 : Int) (w : Wd), VF X Qf ad NF 0 0 w 4 [(0, (2, 29)), (1, (0, v1)), (2, (0, v2)), (3, (0, v3))] [] (k4 v1 v2 v3 w)) (v1 v2 v3 : Int) (w : Wd) : VF X Qf ad NF 0 0 w 42 [(0, (2, 29)), (1, (0, v1)), (2, (0, v2)), (3, (0, v3))] [] (f_S_fewestGuests_42 k4 v1 v2 v3 w) := by
  unfold f_S_fewestGuests_42
  refine vf_iinc C (z := 1) (L' := [(0, (2, 29)), (1, (0, v1)), (2, (0, v2))]) (zdg dz_S_fewestGuests_1 0 rfl) 3 rfl [0, 1, 2] (jrI rfl rfl) hn (by decide) ?_
  generalize w32 (v3 + 1) = x3
  refine vf_ul ?_
  refine vf_goto C (off := (-41)) (tgt := 4) (zdg dz_S_fewestGuests_1 1 rfl) (by decide) ?_
  exact vf_perm [1, 2, 3, 0] rfl (hk4 _ _ _ _)
def f_S_fewestGuests_4 : Nat → Int → Int → Int → Wd → Option (Int × Wd)
  | 0, _, _, _, _ => none
  | n + 1, v1, v2, v3, w =>
    if (w 28 7) ≤ v3 then
      some (v2, w)
    else
      jcall (f_S_canBe v3 v1 w) fun r1 u2 =>
      if r1 = 0 then
        f_S_fewestGuests_42 (f_S_fewestGuests_4 n) v1 v2 v3 u2
      else
        jcall (f_S_guests v3 u2) fun r4 u5 =>
        if r4 = 0 then
          f_S_fewestGuests_42 (f_S_fewestGuests_4 n) v1 v2 v3 u5
        else
          jcall (f_S_guests v3 u5) fun r6 u7 =>
          jcall (f_JI_bitCount r6 u7) fun r8 u9 =>
          jcall (f_E_less v2 r8 u9) fun r10 u11 =>
          f_S_fewestGuests_42 (f_S_fewestGuests_4 n) v1 r10 v3 u11
theorem t_S_fewestGuests_4 {X : jX} {Qf : Int × Wd → State → Prop} {ad : Nat → Nat} (C : Cx X prog_9_method_12_code "EachBringsAnother$Search") (hn : xn X = 4) (hR : xR X = rmD 3) (hr : Rt X Qf ad prog_9_method_12_code 0) : ∀ (n : Nat) (v1 v2 v3 : Int) (w : Wd), VF X Qf ad NF 0 0 w 4 [(0, (2, 29)), (1, (0, v1)), (2, (0, v2)), (3, (0, v3))] [] (f_S_fewestGuests_4 n v1 v2 v3 w) := by
  intro n
  induction n with
  | zero => intros; exact vf_no
  | succ n ih =>
    intro v1 v2 v3 w
    rw [f_S_fewestGuests_4]
    refine vf_iload_n C (f := 3) (zdg dz_S_fewestGuests_0 4 rfl) 3 rfl rfl ?_
    refine vf_aload_n C (f := 0) (zdg dz_S_fewestGuests_0 5 rfl) 0 rfl rfl ?_
    refine vf_get C (kd := 0) fl_S_67 sh_28 rfl (by decide) rfl rfl (zdg dz_S_fewestGuests_0 6 rfl) ?_
    refine vf_icmp_ge C (off := 39) (tgt := 48) (zdg dz_S_fewestGuests_0 7 rfl) (by decide) ?_ ?_
    · refine vf_iload_n C (f := 2) (zdg dz_S_fewestGuests_1 2 rfl) 2 rfl rfl ?_
      exact hr _ _ _ _ (fun h => absurd h (by decide)) (zdg dz_S_fewestGuests_1 3 rfl)
    · refine vf_aload_n C (f := 0) (zdg dz_S_fewestGuests_0 8 rfl) 0 rfl rfl ?_
      refine vf_iload_n C (f := 3) (zdg dz_S_fewestGuests_0 9 rfl) 3 rfl rfl ?_
      refine vf_iload_n C (f := 1) (zdg dz_S_fewestGuests_0 10 rfl) 1 rfl rfl ?_
      refine vf_callVz C cy_S_canBe ml_S_121 rfl (ct_S_canBe _ _ _) (S := []) sh_28 (by decide) rfl (jrm_of hR rfl) rfl rfl (Nat.le_of_ble_eq_true rfl) (zdg dz_S_fewestGuests_0 11 rfl) (fun r1 u2 => ?_)
      refine vf_if_eq C (off := 24) (tgt := 42) (zdg dz_S_fewestGuests_0 12 rfl) (by decide) ?_ ?_
      · exact t_S_fewestGuests_42 C hn hR hr ih _ _ _ _
      · refine vf_aload_n C (f := 0) (zdg dz_S_fewestGuests_0 13 rfl) 0 rfl rfl ?_
        refine vf_iload_n C (f := 3) (zdg dz_S_fewestGuests_0 14 rfl) 3 rfl rfl ?_
        refine vf_callVi C cy_S_guests ml_S_70 rfl (ct_S_guests _ _) (S := []) sh_28 (by decide) rfl (jrm_of hR rfl) rfl rfl (Nat.le_of_ble_eq_true rfl) (zdg dz_S_fewestGuests_0 15 rfl) (fun r4 u5 => ?_)
        refine vf_if_eq C (off := 16) (tgt := 42) (zdg dz_S_fewestGuests_0 16 rfl) (by decide) ?_ ?_
        · exact t_S_fewestGuests_42 C hn hR hr ih _ _ _ _
        · refine vf_iload_n C (f := 2) (zdg dz_S_fewestGuests_0 17 rfl) 2 rfl rfl ?_
          refine vf_aload_n C (f := 0) (zdg dz_S_fewestGuests_0 18 rfl) 0 rfl rfl ?_
          refine vf_iload_n C (f := 3) (zdg dz_S_fewestGuests_0 19 rfl) 3 rfl rfl ?_
          refine vf_callVi C cy_S_guests ml_S_70 rfl (ct_S_guests _ _) (S := [(0, v2)]) sh_28 (by decide) rfl (jrm_of hR rfl) rfl rfl (Nat.le_of_ble_eq_true rfl) (zdg dz_S_fewestGuests_0 20 rfl) (fun r6 u7 => ?_)
          refine vf_callSi C cy_JI_bitCount ml_S_110 (ct_JI_bitCount _ _) (S := [(0, v2)]) (jrm_of hR rfl) rfl rfl (Nat.le_of_ble_eq_true rfl) (zdg dz_S_fewestGuests_0 21 rfl) (fun r8 u9 => ?_)
          refine vf_callSi C cy_E_less ml_S_125 (ct_E_less _ _ _) (S := []) (jrm_of hR rfl) rfl rfl (Nat.le_of_ble_eq_true rfl) (zdg dz_S_fewestGuests_0 22 rfl) (fun r10 u11 => ?_)
          refine vf_istore_n C (f := 2) (L' := [(0, (2, 29)), (1, (0, v1)), (3, (0, v3))]) (zdg dz_S_fewestGuests_0 23 rfl) [0, 1, 3] (jrI rfl rfl) hn (by decide) rfl ?_
          exact vf_perm [1, 2, 0, 3] rfl (t_S_fewestGuests_42 C hn hR hr ih _ _ _ _)
def f_S_fewestGuests (v1 : Int) (w : Wd) : Option (Int × Wd) :=
  f_S_fewestGuests_4 FU v1 (-1) 0 w
theorem ct_S_fewestGuests (v1 : Int) (w : Wd) : Ct y_S_fewestGuests prog_9_method_12_code 4 (some .int) 3 0 [(2, 29), (0, v1)] w (f_S_fewestGuests v1 w) := by
  refine ct_of (by decide +kernel) (Or.inl ⟨rfl, rfl⟩) (Nat.le_of_ble_eq_true rfl) ?_
  intro X Qf ad C hn hR hr
  unfold f_S_fewestGuests
  show VF X Qf ad NF 0 0 w 0 [(0, (2, 29)), (1, (0, v1))] [] _
  refine vf_iconst C (z := (-1)) (zdg dz_S_fewestGuests_0 0 rfl) (jz rfl) ?_
  refine vf_istore_n C (f := 2) (L' := [(0, (2, 29)), (1, (0, v1))]) (zdg dz_S_fewestGuests_0 1 rfl) [0, 1] (jrI rfl rfl) hn (by decide) rfl ?_
  refine vf_iconst C (z := 0) (zdg dz_S_fewestGuests_0 2 rfl) (jz rfl) ?_
  refine vf_istore_n C (f := 3) (L' := [(2, (0, (-1))), (0, (2, 29)), (1, (0, v1))]) (zdg dz_S_fewestGuests_0 3 rfl) [0, 1, 2] (jrI rfl rfl) hn (by decide) rfl ?_
  exact vf_perm [2, 3, 1, 0] rfl (t_S_fewestGuests_4 C hn hR hr FU _ _ _ _)
def f_E_fewest (v1 : Int) (w : Wd) : Option (Int × Wd) :=
  jcall (f_E_isWeek v1 w) fun r1 u2 =>
  if r1 = 0 then
    some ((-1), u2)
  else
    jcall (f_S_run u2) fun r3 u4 =>
    if r3 = 0 then
      some ((-3), u4)
    else
      jcall (f_S_fewestGuests v1 u4) fun r5 u6 =>
      if r5 = (-1) then
        some ((-2), u6)
      else
        some (r5, u6)
theorem ct_E_fewest (v1 : Int) (w : Wd) : Ct y_E_fewest prog_1_method_22_code 3 (some .int) 21 0 [(2, 1), (0, v1)] w (f_E_fewest v1 w) := by
  refine ct_of (by decide +kernel) (Or.inl ⟨rfl, rfl⟩) (Nat.le_of_ble_eq_true rfl) ?_
  intro X Qf ad C hn hR hr
  unfold f_E_fewest
  show VF X Qf ad NF 0 0 w 0 [(0, (2, 1)), (1, (0, v1))] [] _
  refine vf_iload_n C (f := 1) (zdg dz_E_fewest_0 0 rfl) 1 rfl rfl ?_
  refine vf_callSz C cy_E_isWeek ml_E_209 (ct_E_isWeek _ _) (S := []) (jrm_of hR rfl) rfl rfl (Nat.le_of_ble_eq_true rfl) (zdg dz_E_fewest_0 1 rfl) (fun r1 u2 => ?_)
  refine vf_if_ne C (off := 5) (tgt := 9) (zdg dz_E_fewest_0 2 rfl) (by decide) ?_ ?_
  · refine vf_aload_n C (f := 0) (zdg dz_E_fewest_0 5 rfl) 0 rfl rfl ?_
    refine vf_getp C fl_E_68 sh_0 rfl (by decide) rfl (x := 29) rfl (zdg dz_E_fewest_0 6 rfl) ?_
    refine vf_aload_n C (f := 0) (zdg dz_E_fewest_0 7 rfl) 0 rfl rfl ?_
    refine vf_getp C fl_E_26 sh_0 rfl (by decide) rfl (x := 6) rfl (zdg dz_E_fewest_0 8 rfl) ?_
    refine vf_aload_n C (f := 0) (zdg dz_E_fewest_0 9 rfl) 0 rfl rfl ?_
    refine vf_getp C fl_E_61 sh_0 rfl (by decide) rfl (x := 25) rfl (zdg dz_E_fewest_0 10 rfl) ?_
    refine vf_callVz C cy_S_run ml_E_256 rfl (ct_S_run _) (S := []) sh_28 (by decide) rfl (jrm_of hR rfl) rfl rfl (Nat.le_of_ble_eq_true rfl) (zdg dz_E_fewest_0 11 rfl) (fun r3 u4 => ?_)
    refine vf_if_ne C (off := 6) (tgt := 30) (zdg dz_E_fewest_0 12 rfl) (by decide) ?_ ?_
    · refine vf_aload_n C (f := 0) (zdg dz_E_fewest_0 15 rfl) 0 rfl rfl ?_
      refine vf_getp C fl_E_68 sh_0 rfl (by decide) rfl (x := 29) rfl (zdg dz_E_fewest_0 16 rfl) ?_
      refine vf_iload_n C (f := 1) (zdg dz_E_fewest_0 17 rfl) 1 rfl rfl ?_
      refine vf_callVi C cy_S_fewestGuests ml_E_274 rfl (ct_S_fewestGuests _ _) (S := []) sh_28 (by decide) rfl (jrm_of hR rfl) rfl rfl (Nat.le_of_ble_eq_true rfl) (zdg dz_E_fewest_0 18 rfl) (fun r5 u6 => ?_)
      refine vf_istore_n C (f := 2) (L' := []) (zdg dz_E_fewest_0 19 rfl) [] (jrI rfl rfl) hn (by decide) rfl ?_
      refine vf_iload_n C (f := 2) (zdg dz_E_fewest_0 20 rfl) 0 rfl rfl ?_
      refine vf_iconst C (z := (-1)) (zdg dz_E_fewest_0 21 rfl) (jz rfl) ?_
      refine vf_icmp_ne C (off := 8) (tgt := 49) (zdg dz_E_fewest_0 22 rfl) (by decide) ?_ ?_
      · refine vf_iload_n C (f := 2) (zdg dz_E_fewest_1 1 rfl) 0 rfl rfl ?_
        exact hr _ _ _ _ (fun h => absurd h (by decide)) (zdg dz_E_fewest_1 2 rfl)
      · refine vf_bipush C (z := (-2)) (zdg dz_E_fewest_0 23 rfl) (by decide +kernel) (jz rfl) ?_
        refine vf_goto C (off := 4) (tgt := 50) (zdg dz_E_fewest_1 0 rfl) (by decide) ?_
        exact hr _ _ _ _ (fun h => absurd h (by decide)) (zdg dz_E_fewest_1 2 rfl)
    · refine vf_bipush C (z := (-3)) (zdg dz_E_fewest_0 13 rfl) (by decide +kernel) (jz rfl) ?_
      exact hr _ _ _ _ (fun h => absurd h (by decide)) (zdg dz_E_fewest_0 14 rfl)
  · refine vf_iconst C (z := (-1)) (zdg dz_E_fewest_0 3 rfl) (jz rfl) ?_
    exact hr _ _ _ _ (fun h => absurd h (by decide)) (zdg dz_E_fewest_0 4 rfl)
def f_E_firstWeek_2 : Nat → Int → Int → Wd → Option (Int × Wd)
  | 0, _, _, _ => none
  | n + 1, v0, v2, w =>
    if (60 : Int) < v2 then
      some ((-1), w)
    else
      if (lcmp (land (lshr v0 v2) 1) 0) = 0 then
        jlet (w32 (v2 + 1)) fun x1 =>
        f_E_firstWeek_2 n v0 x1 w
      else
        some (v2, w)
theorem t_E_firstWeek_2 {X : jX} {Qf : Int × Wd → State → Prop} {ad : Nat → Nat} (C : Cx X prog_1_method_50_code "EachBringsAnother") (hn : xn X = 3) (hR : xR X = rmD 1) (hr : Rt X Qf ad prog_1_method_50_code 0) : ∀ (n : Nat) (v0 v2 : Int) (w : Wd), VF X Qf ad NF 0 0 w 2 [(0, (1, v0)), (2, (0, v2))] [] (f_E_firstWeek_2 n v0 v2 w) := by
  intro n
  induction n with
  | zero => intros; exact vf_no
  | succ n ih =>
    intro v0 v2 w
    rw [f_E_firstWeek_2]
    refine vf_iload_n C (f := 2) (zdg dz_E_firstWeek_0 2 rfl) 1 rfl rfl ?_
    refine vf_bipush C (z := 60) (zdg dz_E_firstWeek_0 3 rfl) (by decide +kernel) (jz rfl) ?_
    refine vf_icmp_gt C (off := 21) (tgt := 26) (zdg dz_E_firstWeek_0 4 rfl) (by decide) ?_ ?_
    · refine vf_iconst C (z := (-1)) (zdg dz_E_firstWeek_0 17 rfl) (jz rfl) ?_
      exact hr _ _ _ _ (fun h => absurd h (by decide)) (zdg dz_E_firstWeek_0 18 rfl)
    · refine vf_lload_n C (f := 0) (zdg dz_E_firstWeek_0 5 rfl) 0 rfl rfl ?_
      refine vf_iload_n C (f := 2) (zdg dz_E_firstWeek_0 6 rfl) 1 rfl rfl ?_
      refine vf_lshr C (zdg dz_E_firstWeek_0 7 rfl) ?_
      refine vf_lconst C (z := 1) (f := 1) (zdg dz_E_firstWeek_0 8 rfl) (by decide +kernel) (jz1 rfl) ?_
      refine vf_land C (zdg dz_E_firstWeek_0 9 rfl) ?_
      refine vf_lconst C (z := 0) (f := 0) (zdg dz_E_firstWeek_0 10 rfl) (by decide +kernel) (jz1 rfl) ?_
      refine vf_lcmp C (zdg dz_E_firstWeek_0 11 rfl) ?_
      refine vf_if_eq C (off := 5) (tgt := 20) (zdg dz_E_firstWeek_0 12 rfl) (by decide) ?_ ?_
      · refine vf_iinc C (z := 1) (L' := [(0, (1, v0))]) (zdg dz_E_firstWeek_0 15 rfl) 1 rfl [0] (jrI rfl rfl) hn (by decide) ?_
        generalize w32 (v2 + 1) = x1
        refine vf_ul ?_
        refine vf_goto C (off := (-21)) (tgt := 2) (zdg dz_E_firstWeek_0 16 rfl) (by decide) ?_
        exact vf_perm [1, 0] rfl (ih _ _ _)
      · refine vf_iload_n C (f := 2) (zdg dz_E_firstWeek_0 13 rfl) 1 rfl rfl ?_
        exact hr _ _ _ _ (fun h => absurd h (by decide)) (zdg dz_E_firstWeek_0 14 rfl)
def f_E_firstWeek (v0 : Int) (w : Wd) : Option (Int × Wd) :=
  f_E_firstWeek_2 FU v0 0 w
theorem ct_E_firstWeek (v0 : Int) (w : Wd) : Ct y_E_firstWeek prog_1_method_50_code 3 (some .int) 1 0 [(1, v0)] w (f_E_firstWeek v0 w) := by
  refine ct_of (by decide +kernel) (Or.inl ⟨rfl, rfl⟩) (Nat.le_of_ble_eq_true rfl) ?_
  intro X Qf ad C hn hR hr
  unfold f_E_firstWeek
  show VF X Qf ad NF 0 0 w 0 [(0, (1, v0))] [] _
  refine vf_iconst C (z := 0) (zdg dz_E_firstWeek_0 0 rfl) (jz rfl) ?_
  refine vf_istore_n C (f := 2) (L' := [(0, (1, v0))]) (zdg dz_E_firstWeek_0 1 rfl) [0] (jrI rfl rfl) hn (by decide) rfl ?_
  exact vf_perm [1, 0] rfl (t_E_firstWeek_2 C hn hR hr FU _ _ _)
def f_S_paidFor (v1 : Int) (w : Wd) : Option (Int × Wd) :=
  if v1 < 0 then
    some (0, w)
  else
    if (w 28 7) ≤ v1 then
      some (0, w)
    else
      jcall (f_F_strangers w) fun r1 u2 =>
      jgd ((0 : Int) ≤ v1 ∧ v1 < 3000) <|
      jcall (f_O_known (u2 30 v1.toNat) u2) fun r3 u4 =>
      jcall (f_F_pricesOf (iand r1 r3) u4) fun r5 u6 =>
      some (r5, u6)
theorem ct_S_paidFor (v1 : Int) (w : Wd) : Ct y_S_paidFor prog_9_method_13_code 3 (some .int) 3 0 [(2, 29), (0, v1), (2, 6)] w (f_S_paidFor v1 w) := by
  refine ct_of (by decide +kernel) (Or.inl ⟨rfl, rfl⟩) (Nat.le_of_ble_eq_true rfl) ?_
  intro X Qf ad C hn hR hr
  unfold f_S_paidFor
  show VF X Qf ad NF 0 0 w 0 [(0, (2, 29)), (1, (0, v1)), (2, (2, 6))] [] _
  refine vf_iload_n C (f := 1) (zdg dz_S_paidFor_0 0 rfl) 1 rfl rfl ?_
  refine vf_if_lt C (off := 32) (tgt := 33) (zdg dz_S_paidFor_0 1 rfl) (by decide) ?_ ?_
  · refine vf_iconst C (z := 0) (zdg dz_S_paidFor_0 17 rfl) (jz rfl) ?_
    exact hr _ _ _ _ (fun h => absurd h (by decide)) (zdg dz_S_paidFor_0 18 rfl)
  · refine vf_iload_n C (f := 1) (zdg dz_S_paidFor_0 2 rfl) 1 rfl rfl ?_
    refine vf_aload_n C (f := 0) (zdg dz_S_paidFor_0 3 rfl) 0 rfl rfl ?_
    refine vf_get C (kd := 0) fl_S_67 sh_28 rfl (by decide) rfl rfl (zdg dz_S_paidFor_0 4 rfl) ?_
    refine vf_icmp_ge C (off := 24) (tgt := 33) (zdg dz_S_paidFor_0 5 rfl) (by decide) ?_ ?_
    · refine vf_iconst C (z := 0) (zdg dz_S_paidFor_0 17 rfl) (jz rfl) ?_
      exact hr _ _ _ _ (fun h => absurd h (by decide)) (zdg dz_S_paidFor_0 18 rfl)
    · refine vf_aload_n C (f := 2) (zdg dz_S_paidFor_0 6 rfl) 2 rfl rfl ?_
      refine vf_aload_n C (f := 2) (zdg dz_S_paidFor_0 7 rfl) 2 rfl rfl ?_
      refine vf_callVi C cy_F_strangers ml_S_128 rfl (ct_F_strangers _) (S := [(2, 6)]) sh_5 (by decide) rfl (jrm_of hR rfl) rfl rfl (Nat.le_of_ble_eq_true rfl) (zdg dz_S_paidFor_0 8 rfl) (fun r1 u2 => ?_)
      refine vf_aload_n C (f := 0) (zdg dz_S_paidFor_0 9 rfl) 0 rfl rfl ?_
      refine vf_getp C fl_S_15 sh_28 rfl (by decide) rfl (x := 31) rfl (zdg dz_S_paidFor_0 10 rfl) ?_
      refine vf_iload_n C (f := 1) (zdg dz_S_paidFor_0 11 rfl) 1 rfl rfl ?_
      refine vf_iald C sh_30 (by decide) rfl (mz := 3000) rfl (zdg dz_S_paidFor_0 12 rfl) ?_
      refine vf_callSi C cy_O_known ml_S_132 (ct_O_known _ _) (S := [(0, r1), (2, 6)]) (jrm_of hR rfl) rfl rfl (Nat.le_of_ble_eq_true rfl) (zdg dz_S_paidFor_0 13 rfl) (fun r3 u4 => ?_)
      refine vf_iand C (zdg dz_S_paidFor_0 14 rfl) ?_
      refine vf_callVi C cy_F_pricesOf ml_S_135 rfl (ct_F_pricesOf _ _) (S := []) sh_5 (by decide) rfl (jrm_of hR rfl) rfl rfl (Nat.le_of_ble_eq_true rfl) (zdg dz_S_paidFor_0 15 rfl) (fun r5 u6 => ?_)
      refine vf_goto C (off := 4) (tgt := 34) (zdg dz_S_paidFor_0 16 rfl) (by decide) ?_
      exact hr _ _ _ _ (fun h => absurd h (by decide)) (zdg dz_S_paidFor_0 18 rfl)
def f_E_crowd_154 (k92 : Int → Int → Int → Int → Wd → Option (Int × Wd)) (v1 v4 v5 v6 : Int) (w : Wd) : Option (Int × Wd) :=
  jlet (w32 (v6 + 1)) fun x13 =>
  k92 v1 v4 v5 x13 w
theorem t_E_crowd_154 {X : jX} {Qf : Int × Wd → State → Prop} {ad : Nat → Nat} (C : Cx X prog_1_method_23_code "EachBringsAnother") (hn : xn X = 7) (hR : xR X = rmD 21) (hr : Rt X Qf ad prog_1_method_23_code 0) {k92 : Int → Int → Int → Int → Wd → Option (Int × Wd)} (hk92 : ∀ (v1 v4 v5 v6 : Int) (w : Wd), VF X Qf ad NF 0 0 w 92 [(0, (2, 1)), (1, (0, v1)), (4, (0, v4)), (5, (0, v5)), (6, (0, v6))] [] (k92 v1 v4 v5 v6 w)) (v1 v4 v5 v6 : Int) (w : Wd) : VF X Qf ad NF 0 0 w 154 [(0, (2, 1)), (1, (0, v1)), (4, (0, v4)), (5, (0, v5)), (6, (0, v6))] [] (f_E_crowd_154 k92 v1 v4 v5 v6 w) := by
  unfold f_E_crowd_154
  refine vf_iinc C (z := 1) (L' := [(0, (2, 1)), (1, (0, v1)), (4, (0, v4)), (5, (0, v5))]) (zdg dz_E_crowd_3 1 rfl) 4 rfl [0, 1, 2, 3] (jrI rfl rfl) hn (by decide) ?_
  generalize w32 (v6 + 1) = x13
  refine vf_ul ?_
  refine vf_goto C (off := (-65)) (tgt := 92) (zdg dz_E_crowd_3 2 rfl) (by decide) ?_
  exact vf_perm [1, 2, 3, 4, 0] rfl (hk92 _ _ _ _ _)
def f_E_crowd_92 : Nat → Int → Int → Int → Int → Wd → Option (Int × Wd)
  | 0, _, _, _, _, _ => none
  | n + 1, v1, v4, v5, v6, w =>
    if (w 28 7) ≤ v6 then
      jcall (f_N_tell2 v1 v5 w) fun r7 u8 =>
      some (v4, u8)
    else
      jcall (f_S_guests v6 w) fun r9 u10 =>
      jcall (f_JI_bitCount r9 u10) fun r11 u12 =>
      if r11 = v1 then
        jcall (f_S_canBe v6 v4 u12) fun r14 u15 =>
        if r14 = 0 then
          f_E_crowd_154 (f_E_crowd_92 n) v1 v4 v5 v6 u15
        else
          jcall (f_S_paidFor v6 u15) fun r16 u17 =>
          jcall (f_E_less v5 r16 u17) fun r18 u19 =>
          f_E_crowd_154 (f_E_crowd_92 n) v1 v4 r18 v6 u19
      else
        f_E_crowd_154 (f_E_crowd_92 n) v1 v4 v5 v6 u12
theorem t_E_crowd_92 {X : jX} {Qf : Int × Wd → State → Prop} {ad : Nat → Nat} (C : Cx X prog_1_method_23_code "EachBringsAnother") (hn : xn X = 7) (hR : xR X = rmD 21) (hr : Rt X Qf ad prog_1_method_23_code 0) : ∀ (n : Nat) (v1 v4 v5 v6 : Int) (w : Wd), VF X Qf ad NF 0 0 w 92 [(0, (2, 1)), (1, (0, v1)), (4, (0, v4)), (5, (0, v5)), (6, (0, v6))] [] (f_E_crowd_92 n v1 v4 v5 v6 w) := by
  intro n
  induction n with
  | zero => intros; exact vf_no
  | succ n ih =>
    intro v1 v4 v5 v6 w
    rw [f_E_crowd_92]
    refine vf_iload C (zdg dz_E_crowd_1 22 rfl) 4 rfl ?_
    refine vf_aload_n C (f := 0) (zdg dz_E_crowd_1 23 rfl) 0 rfl rfl ?_
    refine vf_getp C fl_E_68 sh_0 rfl (by decide) rfl (x := 29) rfl (zdg dz_E_crowd_2 0 rfl) ?_
    refine vf_get C (kd := 0) fl_E_260 sh_28 rfl (by decide) rfl rfl (zdg dz_E_crowd_2 1 rfl) ?_
    refine vf_icmp_ge C (off := 59) (tgt := 160) (zdg dz_E_crowd_2 2 rfl) (by decide) ?_ ?_
    · refine vf_aload_n C (f := 0) (zdg dz_E_crowd_3 3 rfl) 0 rfl rfl ?_
      refine vf_getp C fl_E_19 sh_0 rfl (by decide) rfl (x := 4) rfl (zdg dz_E_crowd_3 4 rfl) ?_
      refine vf_iload_n C (f := 1) (zdg dz_E_crowd_3 5 rfl) 1 rfl rfl ?_
      refine vf_iload C (zdg dz_E_crowd_3 6 rfl) 3 rfl ?_
      refine vf_callVv C cy_N_tell2 ml_E_216 rfl (ct_N_tell2 _ _ _) (S := []) sh_3 (by decide) rfl (jrm_of hR rfl) rfl rfl (Nat.le_of_ble_eq_true rfl) (zdg dz_E_crowd_3 7 rfl) (fun r7 u8 => ?_)
      refine vf_iload C (zdg dz_E_crowd_3 8 rfl) 2 rfl ?_
      exact hr _ _ _ _ (fun h => absurd h (by decide)) (zdg dz_E_crowd_3 9 rfl)
    · refine vf_aload_n C (f := 0) (zdg dz_E_crowd_2 3 rfl) 0 rfl rfl ?_
      refine vf_getp C fl_E_68 sh_0 rfl (by decide) rfl (x := 29) rfl (zdg dz_E_crowd_2 4 rfl) ?_
      refine vf_iload C (zdg dz_E_crowd_2 5 rfl) 4 rfl ?_
      refine vf_callVi C cy_S_guests ml_E_261 rfl (ct_S_guests _ _) (S := []) sh_28 (by decide) rfl (jrm_of hR rfl) rfl rfl (Nat.le_of_ble_eq_true rfl) (zdg dz_E_crowd_2 6 rfl) (fun r9 u10 => ?_)
      refine vf_callSi C cy_JI_bitCount ml_E_245 (ct_JI_bitCount _ _) (S := []) (jrm_of hR rfl) rfl rfl (Nat.le_of_ble_eq_true rfl) (zdg dz_E_crowd_2 7 rfl) (fun r11 u12 => ?_)
      refine vf_iload_n C (f := 1) (zdg dz_E_crowd_2 8 rfl) 1 rfl rfl ?_
      refine vf_icmp_ne C (off := 37) (tgt := 154) (zdg dz_E_crowd_2 9 rfl) (by decide) ?_ ?_
      · exact t_E_crowd_154 C hn hR hr ih _ _ _ _ _
      · refine vf_aload_n C (f := 0) (zdg dz_E_crowd_2 10 rfl) 0 rfl rfl ?_
        refine vf_getp C fl_E_68 sh_0 rfl (by decide) rfl (x := 29) rfl (zdg dz_E_crowd_2 11 rfl) ?_
        refine vf_iload C (zdg dz_E_crowd_2 12 rfl) 4 rfl ?_
        refine vf_iload C (zdg dz_E_crowd_2 13 rfl) 2 rfl ?_
        refine vf_callVz C cy_S_canBe ml_E_266 rfl (ct_S_canBe _ _ _) (S := []) sh_28 (by decide) rfl (jrm_of hR rfl) rfl rfl (Nat.le_of_ble_eq_true rfl) (zdg dz_E_crowd_2 14 rfl) (fun r14 u15 => ?_)
        refine vf_if_eq C (off := 23) (tgt := 154) (zdg dz_E_crowd_2 15 rfl) (by decide) ?_ ?_
        · exact t_E_crowd_154 C hn hR hr ih _ _ _ _ _
        · refine vf_iload C (zdg dz_E_crowd_2 16 rfl) 3 rfl ?_
          refine vf_aload_n C (f := 0) (zdg dz_E_crowd_2 17 rfl) 0 rfl rfl ?_
          refine vf_getp C fl_E_68 sh_0 rfl (by decide) rfl (x := 29) rfl (zdg dz_E_crowd_2 18 rfl) ?_
          refine vf_iload C (zdg dz_E_crowd_2 19 rfl) 4 rfl ?_
          refine vf_aload_n C (f := 0) (zdg dz_E_crowd_2 20 rfl) 0 rfl rfl ?_
          refine vf_getp C fl_E_26 sh_0 rfl (by decide) rfl (x := 6) rfl (zdg dz_E_crowd_2 21 rfl) ?_
          refine vf_callVi C cy_S_paidFor ml_E_285 rfl (ct_S_paidFor _ _) (S := [(0, v5)]) sh_28 (by decide) rfl (jrm_of hR rfl) rfl rfl (Nat.le_of_ble_eq_true rfl) (zdg dz_E_crowd_2 22 rfl) (fun r16 u17 => ?_)
          refine vf_callSi C cy_E_less ml_E_289 (ct_E_less _ _ _) (S := []) (jrm_of hR rfl) rfl rfl (Nat.le_of_ble_eq_true rfl) (zdg dz_E_crowd_2 23 rfl) (fun r18 u19 => ?_)
          refine vf_istore C (i := 5) (L' := [(0, (2, 1)), (1, (0, v1)), (4, (0, v4)), (6, (0, v6))]) (zdg dz_E_crowd_3 0 rfl) [0, 1, 2, 4] (jrI rfl rfl) hn (by decide) ?_
          exact vf_perm [1, 2, 3, 0, 4] rfl (t_E_crowd_154 C hn hR hr ih _ _ _ _ _)
def f_E_crowd_74 (k34 : Int → Int → Int → Wd → Option (Int × Wd)) (v1 v2 v4 : Int) (w : Wd) : Option (Int × Wd) :=
  jlet (w32 (v4 + 1)) fun x24 =>
  k34 v1 v2 x24 w
theorem t_E_crowd_74 {X : jX} {Qf : Int × Wd → State → Prop} {ad : Nat → Nat} (C : Cx X prog_1_method_23_code "EachBringsAnother") (hn : xn X = 7) (hR : xR X = rmD 21) (hr : Rt X Qf ad prog_1_method_23_code 0) {k34 : Int → Int → Int → Wd → Option (Int × Wd)} (hk34 : ∀ (v1 v2 v4 : Int) (w : Wd), VF X Qf ad NF 0 0 w 34 [(0, (2, 1)), (1, (0, v1)), (2, (1, v2)), (4, (0, v4))] [] (k34 v1 v2 v4 w)) (v1 v2 v4 : Int) (w : Wd) : VF X Qf ad NF 0 0 w 74 [(0, (2, 1)), (1, (0, v1)), (2, (1, v2)), (4, (0, v4))] [] (f_E_crowd_74 k34 v1 v2 v4 w) := by
  unfold f_E_crowd_74
  refine vf_iinc C (z := 1) (L' := [(0, (2, 1)), (1, (0, v1)), (2, (1, v2))]) (zdg dz_E_crowd_1 13 rfl) 3 rfl [0, 1, 2] (jrI rfl rfl) hn (by decide) ?_
  generalize w32 (v4 + 1) = x24
  refine vf_ul ?_
  refine vf_goto C (off := (-43)) (tgt := 34) (zdg dz_E_crowd_1 14 rfl) (by decide) ?_
  exact vf_perm [1, 2, 3, 0] rfl (hk34 _ _ _ _)
def f_E_crowd_34 : Nat → Int → Int → Int → Wd → Option (Int × Wd)
  | 0, _, _, _, _ => none
  | n + 1, v1, v2, v4, w =>
    if (w 28 7) ≤ v4 then
      jcall (f_E_firstWeek v2 w) fun r5 u6 =>
      f_E_crowd_92 FU v1 r5 (-1) 0 u6
    else
      jcall (f_S_guests v4 w) fun r20 u21 =>
      jcall (f_JI_bitCount r20 u21) fun r22 u23 =>
      if r22 = v1 then
        jcall (f_S_weeksOf v4 u23) fun r25 u26 =>
        jlet (lor v2 r25) fun x27 =>
        f_E_crowd_74 (f_E_crowd_34 n) v1 x27 v4 u26
      else
        f_E_crowd_74 (f_E_crowd_34 n) v1 v2 v4 u23
theorem t_E_crowd_34 {X : jX} {Qf : Int × Wd → State → Prop} {ad : Nat → Nat} (C : Cx X prog_1_method_23_code "EachBringsAnother") (hn : xn X = 7) (hR : xR X = rmD 21) (hr : Rt X Qf ad prog_1_method_23_code 0) : ∀ (n : Nat) (v1 v2 v4 : Int) (w : Wd), VF X Qf ad NF 0 0 w 34 [(0, (2, 1)), (1, (0, v1)), (2, (1, v2)), (4, (0, v4))] [] (f_E_crowd_34 n v1 v2 v4 w) := by
  intro n
  induction n with
  | zero => intros; exact vf_no
  | succ n ih =>
    intro v1 v2 v4 w
    rw [f_E_crowd_34]
    refine vf_iload C (zdg dz_E_crowd_0 18 rfl) 3 rfl ?_
    refine vf_aload_n C (f := 0) (zdg dz_E_crowd_0 19 rfl) 0 rfl rfl ?_
    refine vf_getp C fl_E_68 sh_0 rfl (by decide) rfl (x := 29) rfl (zdg dz_E_crowd_0 20 rfl) ?_
    refine vf_get C (kd := 0) fl_E_260 sh_28 rfl (by decide) rfl rfl (zdg dz_E_crowd_0 21 rfl) ?_
    refine vf_icmp_ge C (off := 37) (tgt := 80) (zdg dz_E_crowd_0 22 rfl) (by decide) ?_ ?_
    · refine vf_lload_n C (f := 2) (zdg dz_E_crowd_1 15 rfl) 2 rfl rfl ?_
      refine vf_callSi C cy_E_firstWeek ml_E_281 (ct_E_firstWeek _ _) (S := []) (jrm_of hR rfl) rfl rfl (Nat.le_of_ble_eq_true rfl) (zdg dz_E_crowd_1 16 rfl) (fun r5 u6 => ?_)
      refine vf_istore C (i := 4) (L' := [(0, (2, 1)), (1, (0, v1))]) (zdg dz_E_crowd_1 17 rfl) [0, 1] (jrI rfl rfl) hn (by decide) ?_
      refine vf_iconst C (z := (-1)) (zdg dz_E_crowd_1 18 rfl) (jz rfl) ?_
      refine vf_istore C (i := 5) (L' := [(4, (0, r5)), (0, (2, 1)), (1, (0, v1))]) (zdg dz_E_crowd_1 19 rfl) [0, 1, 2] (jrI rfl rfl) hn (by decide) ?_
      refine vf_iconst C (z := 0) (zdg dz_E_crowd_1 20 rfl) (jz rfl) ?_
      refine vf_istore C (i := 6) (L' := [(5, (0, (-1))), (4, (0, r5)), (0, (2, 1)), (1, (0, v1))]) (zdg dz_E_crowd_1 21 rfl) [0, 1, 2, 3] (jrI rfl rfl) hn (by decide) ?_
      exact vf_perm [3, 4, 2, 1, 0] rfl (t_E_crowd_92 C hn hR hr FU _ _ _ _ _)
    · refine vf_aload_n C (f := 0) (zdg dz_E_crowd_0 23 rfl) 0 rfl rfl ?_
      refine vf_getp C fl_E_68 sh_0 rfl (by decide) rfl (x := 29) rfl (zdg dz_E_crowd_1 0 rfl) ?_
      refine vf_iload C (zdg dz_E_crowd_1 1 rfl) 3 rfl ?_
      refine vf_callVi C cy_S_guests ml_E_261 rfl (ct_S_guests _ _) (S := []) sh_28 (by decide) rfl (jrm_of hR rfl) rfl rfl (Nat.le_of_ble_eq_true rfl) (zdg dz_E_crowd_1 2 rfl) (fun r20 u21 => ?_)
      refine vf_callSi C cy_JI_bitCount ml_E_245 (ct_JI_bitCount _ _) (S := []) (jrm_of hR rfl) rfl rfl (Nat.le_of_ble_eq_true rfl) (zdg dz_E_crowd_1 3 rfl) (fun r22 u23 => ?_)
      refine vf_iload_n C (f := 1) (zdg dz_E_crowd_1 4 rfl) 1 rfl rfl ?_
      refine vf_icmp_ne C (off := 15) (tgt := 74) (zdg dz_E_crowd_1 5 rfl) (by decide) ?_ ?_
      · exact t_E_crowd_74 C hn hR hr ih _ _ _ _
      · refine vf_lload_n C (f := 2) (zdg dz_E_crowd_1 6 rfl) 2 rfl rfl ?_
        refine vf_aload_n C (f := 0) (zdg dz_E_crowd_1 7 rfl) 0 rfl rfl ?_
        refine vf_getp C fl_E_68 sh_0 rfl (by decide) rfl (x := 29) rfl (zdg dz_E_crowd_1 8 rfl) ?_
        refine vf_iload C (zdg dz_E_crowd_1 9 rfl) 3 rfl ?_
        refine vf_callVl C cy_S_weeksOf ml_E_277 rfl (ct_S_weeksOf _ _) (S := [(1, v2)]) sh_28 (by decide) rfl (jrm_of hR rfl) rfl rfl (Nat.le_of_ble_eq_true rfl) (zdg dz_E_crowd_1 10 rfl) (fun r25 u26 => ?_)
        refine vf_lor C (zdg dz_E_crowd_1 11 rfl) ?_
        generalize lor v2 r25 = x27
        refine vf_ul ?_
        refine vf_lstore_n C (f := 2) (L' := [(0, (2, 1)), (1, (0, v1)), (4, (0, v4))]) (zdg dz_E_crowd_1 12 rfl) [0, 1, 3] (jrI rfl rfl) hn (by decide) rfl ?_
        exact vf_perm [1, 2, 0, 3] rfl (t_E_crowd_74 C hn hR hr ih _ _ _ _)
def f_E_crowd (w : Wd) : Option (Int × Wd) :=
  jcall (f_S_run w) fun r1 u2 =>
  if r1 = 0 then
    some ((-3), u2)
  else
    jcall (f_S_mostGuests u2) fun r3 u4 =>
    f_E_crowd_34 FU r3 0 0 u4
theorem ct_E_crowd (w : Wd) : Ct y_E_crowd prog_1_method_23_code 7 (some .int) 21 0 [(2, 1)] w (f_E_crowd w) := by
  refine ct_of (by decide +kernel) (Or.inl ⟨rfl, rfl⟩) (Nat.le_of_ble_eq_true rfl) ?_
  intro X Qf ad C hn hR hr
  unfold f_E_crowd
  show VF X Qf ad NF 0 0 w 0 [(0, (2, 1))] [] _
  refine vf_aload_n C (f := 0) (zdg dz_E_crowd_0 0 rfl) 0 rfl rfl ?_
  refine vf_getp C fl_E_68 sh_0 rfl (by decide) rfl (x := 29) rfl (zdg dz_E_crowd_0 1 rfl) ?_
  refine vf_aload_n C (f := 0) (zdg dz_E_crowd_0 2 rfl) 0 rfl rfl ?_
  refine vf_getp C fl_E_26 sh_0 rfl (by decide) rfl (x := 6) rfl (zdg dz_E_crowd_0 3 rfl) ?_
  refine vf_aload_n C (f := 0) (zdg dz_E_crowd_0 4 rfl) 0 rfl rfl ?_
  refine vf_getp C fl_E_61 sh_0 rfl (by decide) rfl (x := 25) rfl (zdg dz_E_crowd_0 5 rfl) ?_
  refine vf_callVz C cy_S_run ml_E_256 rfl (ct_S_run _) (S := []) sh_28 (by decide) rfl (jrm_of hR rfl) rfl rfl (Nat.le_of_ble_eq_true rfl) (zdg dz_E_crowd_0 6 rfl) (fun r1 u2 => ?_)
  refine vf_if_ne C (off := 6) (tgt := 21) (zdg dz_E_crowd_0 7 rfl) (by decide) ?_ ?_
  · refine vf_aload_n C (f := 0) (zdg dz_E_crowd_0 10 rfl) 0 rfl rfl ?_
    refine vf_getp C fl_E_68 sh_0 rfl (by decide) rfl (x := 29) rfl (zdg dz_E_crowd_0 11 rfl) ?_
    refine vf_callVi C cy_S_mostGuests ml_E_263 rfl (ct_S_mostGuests _) (S := []) sh_28 (by decide) rfl (jrm_of hR rfl) rfl rfl (Nat.le_of_ble_eq_true rfl) (zdg dz_E_crowd_0 12 rfl) (fun r3 u4 => ?_)
    refine vf_istore_n C (f := 1) (L' := [(0, (2, 1))]) (zdg dz_E_crowd_0 13 rfl) [0] (jrI rfl rfl) hn (by decide) rfl ?_
    refine vf_lconst C (z := 0) (f := 0) (zdg dz_E_crowd_0 14 rfl) (by decide +kernel) (jz1 rfl) ?_
    refine vf_lstore_n C (f := 2) (L' := [(1, (0, r3)), (0, (2, 1))]) (zdg dz_E_crowd_0 15 rfl) [0, 1] (jrI rfl rfl) hn (by decide) rfl ?_
    refine vf_iconst C (z := 0) (zdg dz_E_crowd_0 16 rfl) (jz rfl) ?_
    refine vf_istore C (i := 4) (L' := [(2, (1, 0)), (1, (0, r3)), (0, (2, 1))]) (zdg dz_E_crowd_0 17 rfl) [0, 1, 2] (jrI rfl rfl) hn (by decide) ?_
    exact vf_perm [3, 2, 1, 0] rfl (t_E_crowd_34 C hn hR hr FU _ _ _ _)
  · refine vf_bipush C (z := (-3)) (zdg dz_E_crowd_0 8 rfl) (by decide +kernel) (jz rfl) ?_
    exact hr _ _ _ _ (fun h => absurd h (by decide)) (zdg dz_E_crowd_0 9 rfl)
def f_S_leastPaid_61 (k6 : Int → Int → Int → Int → Wd → Option (Int × Wd)) (v1 v2 v4 v5 : Int) (w : Wd) : Option (Int × Wd) :=
  jlet (w32 (v5 + 1)) fun x3 =>
  k6 v1 v2 v4 x3 w
theorem t_S_leastPaid_61 {X : jX} {Qf : Int × Wd → State → Prop} {ad : Nat → Nat} (C : Cx X prog_9_method_14_code "EachBringsAnother$Search") (hn : xn X = 6) (hR : xR X = rmD 4) (hr : Rt X Qf ad prog_9_method_14_code 0) {k6 : Int → Int → Int → Int → Wd → Option (Int × Wd)} (hk6 : ∀ (v1 v2 v4 v5 : Int) (w : Wd), VF X Qf ad NF 0 0 w 6 [(0, (2, 29)), (1, (0, v1)), (2, (0, v2)), (3, (2, 6)), (4, (0, v4)), (5, (0, v5))] [] (k6 v1 v2 v4 v5 w)) (v1 v2 v4 v5 : Int) (w : Wd) : VF X Qf ad NF 0 0 w 61 [(0, (2, 29)), (1, (0, v1)), (2, (0, v2)), (3, (2, 6)), (4, (0, v4)), (5, (0, v5))] [] (f_S_leastPaid_61 k6 v1 v2 v4 v5 w) := by
  unfold f_S_leastPaid_61
  refine vf_iinc C (z := 1) (L' := [(0, (2, 29)), (1, (0, v1)), (2, (0, v2)), (3, (2, 6)), (4, (0, v4))]) (zdg dz_S_leastPaid_1 8 rfl) 5 rfl [0, 1, 2, 3, 4] (jrI rfl rfl) hn (by decide) ?_
  generalize w32 (v5 + 1) = x3
  refine vf_ul ?_
  refine vf_goto C (off := (-58)) (tgt := 6) (zdg dz_S_leastPaid_1 9 rfl) (by decide) ?_
  exact vf_perm [1, 2, 3, 4, 5, 0] rfl (hk6 _ _ _ _ _)
def f_S_leastPaid_6 : Nat → Int → Int → Int → Int → Wd → Option (Int × Wd)
  | 0, _, _, _, _, _ => none
  | n + 1, v1, v2, v4, v5, w =>
    if (w 28 7) ≤ v5 then
      some (v4, w)
    else
      jcall (f_S_canBe v5 v2 w) fun r1 u2 =>
      if r1 = 0 then
        f_S_leastPaid_61 (f_S_leastPaid_6 n) v1 v2 v4 v5 u2
      else
        jcall (f_S_guests v5 u2) fun r4 u5 =>
        if r4 = 0 then
          f_S_leastPaid_61 (f_S_leastPaid_6 n) v1 v2 v4 v5 u5
        else
          jcall (f_S_guests v5 u5) fun r6 u7 =>
          if (iand v1 (ixor r6 (-1))) = 0 then
            jcall (f_S_paidFor v5 u7) fun r8 u9 =>
            jcall (f_E_less v4 r8 u9) fun r10 u11 =>
            f_S_leastPaid_61 (f_S_leastPaid_6 n) v1 v2 r10 v5 u11
          else
            f_S_leastPaid_61 (f_S_leastPaid_6 n) v1 v2 v4 v5 u7
theorem t_S_leastPaid_6 {X : jX} {Qf : Int × Wd → State → Prop} {ad : Nat → Nat} (C : Cx X prog_9_method_14_code "EachBringsAnother$Search") (hn : xn X = 6) (hR : xR X = rmD 4) (hr : Rt X Qf ad prog_9_method_14_code 0) : ∀ (n : Nat) (v1 v2 v4 v5 : Int) (w : Wd), VF X Qf ad NF 0 0 w 6 [(0, (2, 29)), (1, (0, v1)), (2, (0, v2)), (3, (2, 6)), (4, (0, v4)), (5, (0, v5))] [] (f_S_leastPaid_6 n v1 v2 v4 v5 w) := by
  intro n
  induction n with
  | zero => intros; exact vf_no
  | succ n ih =>
    intro v1 v2 v4 v5 w
    rw [f_S_leastPaid_6]
    refine vf_iload C (zdg dz_S_leastPaid_0 4 rfl) 5 rfl ?_
    refine vf_aload_n C (f := 0) (zdg dz_S_leastPaid_0 5 rfl) 0 rfl rfl ?_
    refine vf_get C (kd := 0) fl_S_67 sh_28 rfl (by decide) rfl rfl (zdg dz_S_leastPaid_0 6 rfl) ?_
    refine vf_icmp_ge C (off := 55) (tgt := 67) (zdg dz_S_leastPaid_0 7 rfl) (by decide) ?_ ?_
    · refine vf_iload C (zdg dz_S_leastPaid_1 10 rfl) 4 rfl ?_
      exact hr _ _ _ _ (fun h => absurd h (by decide)) (zdg dz_S_leastPaid_1 11 rfl)
    · refine vf_aload_n C (f := 0) (zdg dz_S_leastPaid_0 8 rfl) 0 rfl rfl ?_
      refine vf_iload C (zdg dz_S_leastPaid_0 9 rfl) 5 rfl ?_
      refine vf_iload_n C (f := 2) (zdg dz_S_leastPaid_0 10 rfl) 2 rfl rfl ?_
      refine vf_callVz C cy_S_canBe ml_S_121 rfl (ct_S_canBe _ _ _) (S := []) sh_28 (by decide) rfl (jrm_of hR rfl) rfl rfl (Nat.le_of_ble_eq_true rfl) (zdg dz_S_leastPaid_0 11 rfl) (fun r1 u2 => ?_)
      refine vf_if_eq C (off := 39) (tgt := 61) (zdg dz_S_leastPaid_0 12 rfl) (by decide) ?_ ?_
      · exact t_S_leastPaid_61 C hn hR hr ih _ _ _ _ _
      · refine vf_aload_n C (f := 0) (zdg dz_S_leastPaid_0 13 rfl) 0 rfl rfl ?_
        refine vf_iload C (zdg dz_S_leastPaid_0 14 rfl) 5 rfl ?_
        refine vf_callVi C cy_S_guests ml_S_70 rfl (ct_S_guests _ _) (S := []) sh_28 (by decide) rfl (jrm_of hR rfl) rfl rfl (Nat.le_of_ble_eq_true rfl) (zdg dz_S_leastPaid_0 15 rfl) (fun r4 u5 => ?_)
        refine vf_if_eq C (off := 30) (tgt := 61) (zdg dz_S_leastPaid_0 16 rfl) (by decide) ?_ ?_
        · exact t_S_leastPaid_61 C hn hR hr ih _ _ _ _ _
        · refine vf_iload_n C (f := 1) (zdg dz_S_leastPaid_0 17 rfl) 1 rfl rfl ?_
          refine vf_aload_n C (f := 0) (zdg dz_S_leastPaid_0 18 rfl) 0 rfl rfl ?_
          refine vf_iload C (zdg dz_S_leastPaid_0 19 rfl) 5 rfl ?_
          refine vf_callVi C cy_S_guests ml_S_70 rfl (ct_S_guests _ _) (S := [(0, v1)]) sh_28 (by decide) rfl (jrm_of hR rfl) rfl rfl (Nat.le_of_ble_eq_true rfl) (zdg dz_S_leastPaid_0 20 rfl) (fun r6 u7 => ?_)
          refine vf_iconst C (z := (-1)) (zdg dz_S_leastPaid_0 21 rfl) (jz rfl) ?_
          refine vf_ixor C (zdg dz_S_leastPaid_0 22 rfl) ?_
          refine vf_iand C (zdg dz_S_leastPaid_0 23 rfl) ?_
          refine vf_if_ne C (off := 17) (tgt := 61) (zdg dz_S_leastPaid_1 0 rfl) (by decide) ?_ ?_
          · exact t_S_leastPaid_61 C hn hR hr ih _ _ _ _ _
          · refine vf_iload C (zdg dz_S_leastPaid_1 1 rfl) 4 rfl ?_
            refine vf_aload_n C (f := 0) (zdg dz_S_leastPaid_1 2 rfl) 0 rfl rfl ?_
            refine vf_iload C (zdg dz_S_leastPaid_1 3 rfl) 5 rfl ?_
            refine vf_aload_n C (f := 3) (zdg dz_S_leastPaid_1 4 rfl) 3 rfl rfl ?_
            refine vf_callVi C cy_S_paidFor ml_S_138 rfl (ct_S_paidFor _ _) (S := [(0, v4)]) sh_28 (by decide) rfl (jrm_of hR rfl) rfl rfl (Nat.le_of_ble_eq_true rfl) (zdg dz_S_leastPaid_1 5 rfl) (fun r8 u9 => ?_)
            refine vf_callSi C cy_E_less ml_S_125 (ct_E_less _ _ _) (S := []) (jrm_of hR rfl) rfl rfl (Nat.le_of_ble_eq_true rfl) (zdg dz_S_leastPaid_1 6 rfl) (fun r10 u11 => ?_)
            refine vf_istore C (i := 4) (L' := [(0, (2, 29)), (1, (0, v1)), (2, (0, v2)), (3, (2, 6)), (5, (0, v5))]) (zdg dz_S_leastPaid_1 7 rfl) [0, 1, 2, 3, 5] (jrI rfl rfl) hn (by decide) ?_
            exact vf_perm [1, 2, 3, 4, 0, 5] rfl (t_S_leastPaid_61 C hn hR hr ih _ _ _ _ _)
def f_S_leastPaid (v1 v2 : Int) (w : Wd) : Option (Int × Wd) :=
  f_S_leastPaid_6 FU v1 v2 (-1) 0 w
theorem ct_S_leastPaid (v1 v2 : Int) (w : Wd) : Ct y_S_leastPaid prog_9_method_14_code 6 (some .int) 4 0 [(2, 29), (0, v1), (0, v2), (2, 6)] w (f_S_leastPaid v1 v2 w) := by
  refine ct_of (by decide +kernel) (Or.inl ⟨rfl, rfl⟩) (Nat.le_of_ble_eq_true rfl) ?_
  intro X Qf ad C hn hR hr
  unfold f_S_leastPaid
  show VF X Qf ad NF 0 0 w 0 [(0, (2, 29)), (1, (0, v1)), (2, (0, v2)), (3, (2, 6))] [] _
  refine vf_iconst C (z := (-1)) (zdg dz_S_leastPaid_0 0 rfl) (jz rfl) ?_
  refine vf_istore C (i := 4) (L' := [(0, (2, 29)), (1, (0, v1)), (2, (0, v2)), (3, (2, 6))]) (zdg dz_S_leastPaid_0 1 rfl) [0, 1, 2, 3] (jrI rfl rfl) hn (by decide) ?_
  refine vf_iconst C (z := 0) (zdg dz_S_leastPaid_0 2 rfl) (jz rfl) ?_
  refine vf_istore C (i := 5) (L' := [(4, (0, (-1))), (0, (2, 29)), (1, (0, v1)), (2, (0, v2)), (3, (2, 6))]) (zdg dz_S_leastPaid_0 3 rfl) [0, 1, 2, 3, 4] (jrI rfl rfl) hn (by decide) ?_
  exact vf_perm [2, 3, 4, 5, 1, 0] rfl (t_S_leastPaid_6 C hn hR hr FU _ _ _ _ _)
def f_E_both (v1 v2 v3 : Int) (w : Wd) : Option (Int × Wd) :=
  jcall (f_E_areTwo v1 v2 w) fun r1 u2 =>
  if r1 = 0 then
    some ((-1), u2)
  else
    jcall (f_E_isWeek v3 u2) fun r3 u4 =>
    if r3 = 0 then
      some ((-1), u4)
    else
      jcall (f_S_run u4) fun r5 u6 =>
      if r5 = 0 then
        some ((-3), u6)
      else
        jcall (f_S_leastPaid (ior (ishl 1 v1) (ishl 1 v2)) v3 u6) fun r7 u8 =>
        if r7 = (-1) then
          some ((-2), u8)
        else
          some (r7, u8)
theorem ct_E_both (v1 v2 v3 : Int) (w : Wd) : Ct y_E_both prog_1_method_24_code 5 (some .int) 21 0 [(2, 1), (0, v1), (0, v2), (0, v3)] w (f_E_both v1 v2 v3 w) := by
  refine ct_of (by decide +kernel) (Or.inl ⟨rfl, rfl⟩) (Nat.le_of_ble_eq_true rfl) ?_
  intro X Qf ad C hn hR hr
  unfold f_E_both
  show VF X Qf ad NF 0 0 w 0 [(0, (2, 1)), (1, (0, v1)), (2, (0, v2)), (3, (0, v3))] [] _
  refine vf_aload_n C (f := 0) (zdg dz_E_both_0 0 rfl) 0 rfl rfl ?_
  refine vf_iload_n C (f := 1) (zdg dz_E_both_0 1 rfl) 1 rfl rfl ?_
  refine vf_iload_n C (f := 2) (zdg dz_E_both_0 2 rfl) 2 rfl rfl ?_
  refine vf_callVz C cy_E_areTwo ml_E_165 rfl (ct_E_areTwo _ _ _) (S := []) sh_0 (by decide) rfl (jrm_of hR rfl) rfl rfl (Nat.le_of_ble_eq_true rfl) (zdg dz_E_both_0 3 rfl) (fun r1 u2 => ?_)
  refine vf_if_eq C (off := 10) (tgt := 16) (zdg dz_E_both_0 4 rfl) (by decide) ?_ ?_
  · refine vf_iconst C (z := (-1)) (zdg dz_E_both_0 8 rfl) (jz rfl) ?_
    exact hr _ _ _ _ (fun h => absurd h (by decide)) (zdg dz_E_both_0 9 rfl)
  · refine vf_iload_n C (f := 3) (zdg dz_E_both_0 5 rfl) 3 rfl rfl ?_
    refine vf_callSz C cy_E_isWeek ml_E_209 (ct_E_isWeek _ _) (S := []) (jrm_of hR rfl) rfl rfl (Nat.le_of_ble_eq_true rfl) (zdg dz_E_both_0 6 rfl) (fun r3 u4 => ?_)
    refine vf_if_ne C (off := 5) (tgt := 18) (zdg dz_E_both_0 7 rfl) (by decide) ?_ ?_
    · refine vf_aload_n C (f := 0) (zdg dz_E_both_0 10 rfl) 0 rfl rfl ?_
      refine vf_getp C fl_E_68 sh_0 rfl (by decide) rfl (x := 29) rfl (zdg dz_E_both_0 11 rfl) ?_
      refine vf_aload_n C (f := 0) (zdg dz_E_both_0 12 rfl) 0 rfl rfl ?_
      refine vf_getp C fl_E_26 sh_0 rfl (by decide) rfl (x := 6) rfl (zdg dz_E_both_0 13 rfl) ?_
      refine vf_aload_n C (f := 0) (zdg dz_E_both_0 14 rfl) 0 rfl rfl ?_
      refine vf_getp C fl_E_61 sh_0 rfl (by decide) rfl (x := 25) rfl (zdg dz_E_both_0 15 rfl) ?_
      refine vf_callVz C cy_S_run ml_E_256 rfl (ct_S_run _) (S := []) sh_28 (by decide) rfl (jrm_of hR rfl) rfl rfl (Nat.le_of_ble_eq_true rfl) (zdg dz_E_both_0 16 rfl) (fun r5 u6 => ?_)
      refine vf_if_ne C (off := 6) (tgt := 39) (zdg dz_E_both_0 17 rfl) (by decide) ?_ ?_
      · refine vf_aload_n C (f := 0) (zdg dz_E_both_0 20 rfl) 0 rfl rfl ?_
        refine vf_getp C fl_E_68 sh_0 rfl (by decide) rfl (x := 29) rfl (zdg dz_E_both_0 21 rfl) ?_
        refine vf_iconst C (z := 1) (zdg dz_E_both_0 22 rfl) (jz rfl) ?_
        refine vf_iload_n C (f := 1) (zdg dz_E_both_0 23 rfl) 1 rfl rfl ?_
        refine vf_ishl C (zdg dz_E_both_1 0 rfl) ?_
        refine vf_iconst C (z := 1) (zdg dz_E_both_1 1 rfl) (jz rfl) ?_
        refine vf_iload_n C (f := 2) (zdg dz_E_both_1 2 rfl) 2 rfl rfl ?_
        refine vf_ishl C (zdg dz_E_both_1 3 rfl) ?_
        refine vf_ior C (zdg dz_E_both_1 4 rfl) ?_
        refine vf_iload_n C (f := 3) (zdg dz_E_both_1 5 rfl) 3 rfl rfl ?_
        refine vf_aload_n C (f := 0) (zdg dz_E_both_1 6 rfl) 0 rfl rfl ?_
        refine vf_getp C fl_E_26 sh_0 rfl (by decide) rfl (x := 6) rfl (zdg dz_E_both_1 7 rfl) ?_
        refine vf_callVi C cy_S_leastPaid ml_E_292 rfl (ct_S_leastPaid _ _ _) (S := []) sh_28 (by decide) rfl (jrm_of hR rfl) rfl rfl (Nat.le_of_ble_eq_true rfl) (zdg dz_E_both_1 8 rfl) (fun r7 u8 => ?_)
        refine vf_istore C (i := 4) (L' := []) (zdg dz_E_both_1 9 rfl) [] (jrI rfl rfl) hn (by decide) ?_
        refine vf_iload C (zdg dz_E_both_1 10 rfl) 0 rfl ?_
        refine vf_iconst C (z := (-1)) (zdg dz_E_both_1 11 rfl) (jz rfl) ?_
        refine vf_icmp_ne C (off := 8) (tgt := 71) (zdg dz_E_both_1 12 rfl) (by decide) ?_ ?_
        · refine vf_iload C (zdg dz_E_both_1 15 rfl) 0 rfl ?_
          exact hr _ _ _ _ (fun h => absurd h (by decide)) (zdg dz_E_both_1 16 rfl)
        · refine vf_bipush C (z := (-2)) (zdg dz_E_both_1 13 rfl) (by decide +kernel) (jz rfl) ?_
          refine vf_goto C (off := 5) (tgt := 73) (zdg dz_E_both_1 14 rfl) (by decide) ?_
          exact hr _ _ _ _ (fun h => absurd h (by decide)) (zdg dz_E_both_1 16 rfl)
      · refine vf_bipush C (z := (-3)) (zdg dz_E_both_0 18 rfl) (by decide +kernel) (jz rfl) ?_
        exact hr _ _ _ _ (fun h => absurd h (by decide)) (zdg dz_E_both_0 19 rfl)
    · refine vf_iconst C (z := (-1)) (zdg dz_E_both_0 8 rfl) (jz rfl) ?_
      exact hr _ _ _ _ (fun h => absurd h (by decide)) (zdg dz_E_both_0 9 rfl)
def f_S_weeksWith_61 (k5 : Int → Int → Int → Int → Wd → Option (Int × Wd)) (v1 v2 v3 v5 : Int) (w : Wd) : Option (Int × Wd) :=
  jlet (w32 (v5 + 1)) fun x3 =>
  k5 v1 v2 v3 x3 w
theorem t_S_weeksWith_61 {X : jX} {Qf : Int × Wd → State → Prop} {ad : Nat → Nat} (C : Cx X prog_9_method_15_code "EachBringsAnother$Search") (hn : xn X = 6) (hR : xR X = rmD 3) (hr : Rt X Qf ad prog_9_method_15_code 1) {k5 : Int → Int → Int → Int → Wd → Option (Int × Wd)} (hk5 : ∀ (v1 v2 v3 v5 : Int) (w : Wd), VF X Qf ad NF 0 0 w 5 [(0, (2, 29)), (1, (0, v1)), (2, (0, v2)), (3, (1, v3)), (5, (0, v5))] [] (k5 v1 v2 v3 v5 w)) (v1 v2 v3 v5 : Int) (w : Wd) : VF X Qf ad NF 0 0 w 61 [(0, (2, 29)), (1, (0, v1)), (2, (0, v2)), (3, (1, v3)), (5, (0, v5))] [] (f_S_weeksWith_61 k5 v1 v2 v3 v5 w) := by
  unfold f_S_weeksWith_61
  refine vf_iinc C (z := 1) (L' := [(0, (2, 29)), (1, (0, v1)), (2, (0, v2)), (3, (1, v3))]) (zdg dz_S_weeksWith_1 11 rfl) 4 rfl [0, 1, 2, 3] (jrI rfl rfl) hn (by decide) ?_
  generalize w32 (v5 + 1) = x3
  refine vf_ul ?_
  refine vf_goto C (off := (-59)) (tgt := 5) (zdg dz_S_weeksWith_1 12 rfl) (by decide) ?_
  exact vf_perm [1, 2, 3, 4, 0] rfl (hk5 _ _ _ _ _)
def f_S_weeksWith_5 : Nat → Int → Int → Int → Int → Wd → Option (Int × Wd)
  | 0, _, _, _, _, _ => none
  | n + 1, v1, v2, v3, v5, w =>
    if (w 28 7) ≤ v5 then
      some (v3, w)
    else
      jcall (f_S_guests v5 w) fun r1 u2 =>
      if r1 = 0 then
        f_S_weeksWith_61 (f_S_weeksWith_5 n) v1 v2 v3 v5 u2
      else
        jcall (f_S_guests v5 u2) fun r4 u5 =>
        if (iand v1 (ixor r4 (-1))) = 0 then
          jgd ((0 : Int) ≤ v5 ∧ v5 < 3000) <|
          jcall (f_O_known (u5 30 v5.toNat) u5) fun r6 u7 =>
          if (iand r6 v2) = 0 then
            jgd ((0 : Int) ≤ v5 ∧ v5 < 3000) <|
            jlet (lor v3 (u7 31 v5.toNat)) fun x8 =>
            f_S_weeksWith_61 (f_S_weeksWith_5 n) v1 v2 x8 v5 u7
          else
            f_S_weeksWith_61 (f_S_weeksWith_5 n) v1 v2 v3 v5 u7
        else
          f_S_weeksWith_61 (f_S_weeksWith_5 n) v1 v2 v3 v5 u5
theorem t_S_weeksWith_5 {X : jX} {Qf : Int × Wd → State → Prop} {ad : Nat → Nat} (C : Cx X prog_9_method_15_code "EachBringsAnother$Search") (hn : xn X = 6) (hR : xR X = rmD 3) (hr : Rt X Qf ad prog_9_method_15_code 1) : ∀ (n : Nat) (v1 v2 v3 v5 : Int) (w : Wd), VF X Qf ad NF 0 0 w 5 [(0, (2, 29)), (1, (0, v1)), (2, (0, v2)), (3, (1, v3)), (5, (0, v5))] [] (f_S_weeksWith_5 n v1 v2 v3 v5 w) := by
  intro n
  induction n with
  | zero => intros; exact vf_no
  | succ n ih =>
    intro v1 v2 v3 v5 w
    rw [f_S_weeksWith_5]
    refine vf_iload C (zdg dz_S_weeksWith_0 4 rfl) 4 rfl ?_
    refine vf_aload_n C (f := 0) (zdg dz_S_weeksWith_0 5 rfl) 0 rfl rfl ?_
    refine vf_get C (kd := 0) fl_S_67 sh_28 rfl (by decide) rfl rfl (zdg dz_S_weeksWith_0 6 rfl) ?_
    refine vf_icmp_ge C (off := 56) (tgt := 67) (zdg dz_S_weeksWith_0 7 rfl) (by decide) ?_ ?_
    · refine vf_lload_n C (f := 3) (zdg dz_S_weeksWith_1 13 rfl) 3 rfl rfl ?_
      exact hr _ _ _ _ (fun h => absurd h (by decide)) (zdg dz_S_weeksWith_1 14 rfl)
    · refine vf_aload_n C (f := 0) (zdg dz_S_weeksWith_0 8 rfl) 0 rfl rfl ?_
      refine vf_iload C (zdg dz_S_weeksWith_0 9 rfl) 4 rfl ?_
      refine vf_callVi C cy_S_guests ml_S_70 rfl (ct_S_guests _ _) (S := []) sh_28 (by decide) rfl (jrm_of hR rfl) rfl rfl (Nat.le_of_ble_eq_true rfl) (zdg dz_S_weeksWith_0 10 rfl) (fun r1 u2 => ?_)
      refine vf_if_eq C (off := 41) (tgt := 61) (zdg dz_S_weeksWith_0 11 rfl) (by decide) ?_ ?_
      · exact t_S_weeksWith_61 C hn hR hr ih _ _ _ _ _
      · refine vf_iload_n C (f := 1) (zdg dz_S_weeksWith_0 12 rfl) 1 rfl rfl ?_
        refine vf_aload_n C (f := 0) (zdg dz_S_weeksWith_0 13 rfl) 0 rfl rfl ?_
        refine vf_iload C (zdg dz_S_weeksWith_0 14 rfl) 4 rfl ?_
        refine vf_callVi C cy_S_guests ml_S_70 rfl (ct_S_guests _ _) (S := [(0, v1)]) sh_28 (by decide) rfl (jrm_of hR rfl) rfl rfl (Nat.le_of_ble_eq_true rfl) (zdg dz_S_weeksWith_0 15 rfl) (fun r4 u5 => ?_)
        refine vf_iconst C (z := (-1)) (zdg dz_S_weeksWith_0 16 rfl) (jz rfl) ?_
        refine vf_ixor C (zdg dz_S_weeksWith_0 17 rfl) ?_
        refine vf_iand C (zdg dz_S_weeksWith_0 18 rfl) ?_
        refine vf_if_ne C (off := 28) (tgt := 61) (zdg dz_S_weeksWith_0 19 rfl) (by decide) ?_ ?_
        · exact t_S_weeksWith_61 C hn hR hr ih _ _ _ _ _
        · refine vf_aload_n C (f := 0) (zdg dz_S_weeksWith_0 20 rfl) 0 rfl rfl ?_
          refine vf_getp C fl_S_15 sh_28 rfl (by decide) rfl (x := 31) rfl (zdg dz_S_weeksWith_0 21 rfl) ?_
          refine vf_iload C (zdg dz_S_weeksWith_0 22 rfl) 4 rfl ?_
          refine vf_iald C sh_30 (by decide) rfl (mz := 3000) rfl (zdg dz_S_weeksWith_0 23 rfl) ?_
          refine vf_callSi C cy_O_known ml_S_132 (ct_O_known _ _) (S := []) (jrm_of hR rfl) rfl rfl (Nat.le_of_ble_eq_true rfl) (zdg dz_S_weeksWith_1 0 rfl) (fun r6 u7 => ?_)
          refine vf_iload_n C (f := 2) (zdg dz_S_weeksWith_1 1 rfl) 2 rfl rfl ?_
          refine vf_iand C (zdg dz_S_weeksWith_1 2 rfl) ?_
          refine vf_if_ne C (off := 13) (tgt := 61) (zdg dz_S_weeksWith_1 3 rfl) (by decide) ?_ ?_
          · exact t_S_weeksWith_61 C hn hR hr ih _ _ _ _ _
          · refine vf_lload_n C (f := 3) (zdg dz_S_weeksWith_1 4 rfl) 3 rfl rfl ?_
            refine vf_aload_n C (f := 0) (zdg dz_S_weeksWith_1 5 rfl) 0 rfl rfl ?_
            refine vf_getp C fl_S_18 sh_28 rfl (by decide) rfl (x := 32) rfl (zdg dz_S_weeksWith_1 6 rfl) ?_
            refine vf_iload C (zdg dz_S_weeksWith_1 7 rfl) 4 rfl ?_
            refine vf_lald C sh_31 (by decide) rfl (mz := 3000) rfl (zdg dz_S_weeksWith_1 8 rfl) ?_
            refine vf_lor C (zdg dz_S_weeksWith_1 9 rfl) ?_
            generalize lor v3 (u7 31 v5.toNat) = x8
            refine vf_ul ?_
            refine vf_lstore_n C (f := 3) (L' := [(0, (2, 29)), (1, (0, v1)), (2, (0, v2)), (5, (0, v5))]) (zdg dz_S_weeksWith_1 10 rfl) [0, 1, 2, 4] (jrI rfl rfl) hn (by decide) rfl ?_
            exact vf_perm [1, 2, 3, 0, 4] rfl (t_S_weeksWith_61 C hn hR hr ih _ _ _ _ _)
def f_S_weeksWith (v1 v2 : Int) (w : Wd) : Option (Int × Wd) :=
  f_S_weeksWith_5 FU v1 v2 0 0 w
theorem ct_S_weeksWith (v1 v2 : Int) (w : Wd) : Ct y_S_weeksWith prog_9_method_15_code 6 (some .long) 3 1 [(2, 29), (0, v1), (0, v2)] w (f_S_weeksWith v1 v2 w) := by
  refine ct_of (by decide +kernel) (Or.inr (Or.inl ⟨rfl, rfl⟩)) (Nat.le_of_ble_eq_true rfl) ?_
  intro X Qf ad C hn hR hr
  unfold f_S_weeksWith
  show VF X Qf ad NF 0 0 w 0 [(0, (2, 29)), (1, (0, v1)), (2, (0, v2))] [] _
  refine vf_lconst C (z := 0) (f := 0) (zdg dz_S_weeksWith_0 0 rfl) (by decide +kernel) (jz1 rfl) ?_
  refine vf_lstore_n C (f := 3) (L' := [(0, (2, 29)), (1, (0, v1)), (2, (0, v2))]) (zdg dz_S_weeksWith_0 1 rfl) [0, 1, 2] (jrI rfl rfl) hn (by decide) rfl ?_
  refine vf_iconst C (z := 0) (zdg dz_S_weeksWith_0 2 rfl) (jz rfl) ?_
  refine vf_istore C (i := 5) (L' := [(3, (1, 0)), (0, (2, 29)), (1, (0, v1)), (2, (0, v2))]) (zdg dz_S_weeksWith_0 3 rfl) [0, 1, 2, 3] (jrI rfl rfl) hn (by decide) ?_
  exact vf_perm [2, 3, 4, 1, 0] rfl (t_S_weeksWith_5 C hn hR hr FU _ _ _ _ _)
def f_S_lastWeek_11 : Nat → Int → Int → Wd → Option (Int × Wd)
  | 0, _, _, _ => none
  | n + 1, v3, v5, w =>
    if v5 < 0 then
      some ((-1), w)
    else
      if (lcmp (land (lshr v3 v5) 1) 0) = 0 then
        jlet (w32 (v5 + (-1))) fun x3 =>
        f_S_lastWeek_11 n v3 x3 w
      else
        some (v5, w)
theorem t_S_lastWeek_11 {X : jX} {Qf : Int × Wd → State → Prop} {ad : Nat → Nat} (C : Cx X prog_9_method_16_code "EachBringsAnother$Search") (hn : xn X = 6) (hR : xR X = rmD 4) (hr : Rt X Qf ad prog_9_method_16_code 0) : ∀ (n : Nat) (v3 v5 : Int) (w : Wd), VF X Qf ad NF 0 0 w 11 [(3, (1, v3)), (5, (0, v5))] [] (f_S_lastWeek_11 n v3 v5 w) := by
  intro n
  induction n with
  | zero => intros; exact vf_no
  | succ n ih =>
    intro v3 v5 w
    rw [f_S_lastWeek_11]
    refine vf_iload C (zdg dz_S_lastWeek_0 7 rfl) 1 rfl ?_
    refine vf_if_lt C (off := 23) (tgt := 36) (zdg dz_S_lastWeek_0 8 rfl) (by decide) ?_ ?_
    · refine vf_iconst C (z := (-1)) (zdg dz_S_lastWeek_0 21 rfl) (jz rfl) ?_
      exact hr _ _ _ _ (fun h => absurd h (by decide)) (zdg dz_S_lastWeek_0 22 rfl)
    · refine vf_lload_n C (f := 3) (zdg dz_S_lastWeek_0 9 rfl) 0 rfl rfl ?_
      refine vf_iload C (zdg dz_S_lastWeek_0 10 rfl) 1 rfl ?_
      refine vf_lshr C (zdg dz_S_lastWeek_0 11 rfl) ?_
      refine vf_lconst C (z := 1) (f := 1) (zdg dz_S_lastWeek_0 12 rfl) (by decide +kernel) (jz1 rfl) ?_
      refine vf_land C (zdg dz_S_lastWeek_0 13 rfl) ?_
      refine vf_lconst C (z := 0) (f := 0) (zdg dz_S_lastWeek_0 14 rfl) (by decide +kernel) (jz1 rfl) ?_
      refine vf_lcmp C (zdg dz_S_lastWeek_0 15 rfl) ?_
      refine vf_if_eq C (off := 6) (tgt := 30) (zdg dz_S_lastWeek_0 16 rfl) (by decide) ?_ ?_
      · refine vf_iinc C (z := (-1)) (L' := [(3, (1, v3))]) (zdg dz_S_lastWeek_0 19 rfl) 1 rfl [0] (jrI rfl rfl) hn (by decide) ?_
        generalize w32 (v5 + (-1)) = x3
        refine vf_ul ?_
        refine vf_goto C (off := (-22)) (tgt := 11) (zdg dz_S_lastWeek_0 20 rfl) (by decide) ?_
        exact vf_perm [1, 0] rfl (ih _ _ _)
      · refine vf_iload C (zdg dz_S_lastWeek_0 17 rfl) 1 rfl ?_
        exact hr _ _ _ _ (fun h => absurd h (by decide)) (zdg dz_S_lastWeek_0 18 rfl)
def f_S_lastWeek (v1 v2 : Int) (w : Wd) : Option (Int × Wd) :=
  jcall (f_S_weeksWith v1 v2 w) fun r1 u2 =>
  f_S_lastWeek_11 FU r1 60 u2
theorem ct_S_lastWeek (v1 v2 : Int) (w : Wd) : Ct y_S_lastWeek prog_9_method_16_code 6 (some .int) 4 0 [(2, 29), (0, v1), (0, v2)] w (f_S_lastWeek v1 v2 w) := by
  refine ct_of (by decide +kernel) (Or.inl ⟨rfl, rfl⟩) (Nat.le_of_ble_eq_true rfl) ?_
  intro X Qf ad C hn hR hr
  unfold f_S_lastWeek
  show VF X Qf ad NF 0 0 w 0 [(0, (2, 29)), (1, (0, v1)), (2, (0, v2))] [] _
  refine vf_aload_n C (f := 0) (zdg dz_S_lastWeek_0 0 rfl) 0 rfl rfl ?_
  refine vf_iload_n C (f := 1) (zdg dz_S_lastWeek_0 1 rfl) 1 rfl rfl ?_
  refine vf_iload_n C (f := 2) (zdg dz_S_lastWeek_0 2 rfl) 2 rfl rfl ?_
  refine vf_callVl C cy_S_weeksWith ml_S_142 rfl (ct_S_weeksWith _ _ _) (S := []) sh_28 (by decide) rfl (jrm_of hR rfl) rfl rfl (Nat.le_of_ble_eq_true rfl) (zdg dz_S_lastWeek_0 3 rfl) (fun r1 u2 => ?_)
  refine vf_lstore_n C (f := 3) (L' := []) (zdg dz_S_lastWeek_0 4 rfl) [] (jrI rfl rfl) hn (by decide) rfl ?_
  refine vf_bipush C (z := 60) (zdg dz_S_lastWeek_0 5 rfl) (by decide +kernel) (jz rfl) ?_
  refine vf_istore C (i := 5) (L' := [(3, (1, r1))]) (zdg dz_S_lastWeek_0 6 rfl) [0] (jrI rfl rfl) hn (by decide) ?_
  exact vf_perm [1, 0] rfl (t_S_lastWeek_11 C hn hR hr FU _ _ _)
def f_E_last (w : Wd) : Option (Int × Wd) :=
  jcall (f_S_run w) fun r1 u2 =>
  if r1 = 0 then
    some ((-3), u2)
  else
    jcall (f_S_lastWeek 0 0 u2) fun r3 u4 =>
    if r3 = (-1) then
      some ((-2), u4)
    else
      jcall (f_S_fewestGuests r3 u4) fun r5 u6 =>
      jcall (f_N_tell1 r5 u6) fun r7 u8 =>
      some (r3, u8)
theorem ct_E_last (w : Wd) : Ct y_E_last prog_1_method_25_code 2 (some .int) 21 0 [(2, 1)] w (f_E_last w) := by
  refine ct_of (by decide +kernel) (Or.inl ⟨rfl, rfl⟩) (Nat.le_of_ble_eq_true rfl) ?_
  intro X Qf ad C hn hR hr
  unfold f_E_last
  show VF X Qf ad NF 0 0 w 0 [(0, (2, 1))] [] _
  refine vf_aload_n C (f := 0) (zdg dz_E_last_0 0 rfl) 0 rfl rfl ?_
  refine vf_getp C fl_E_68 sh_0 rfl (by decide) rfl (x := 29) rfl (zdg dz_E_last_0 1 rfl) ?_
  refine vf_aload_n C (f := 0) (zdg dz_E_last_0 2 rfl) 0 rfl rfl ?_
  refine vf_getp C fl_E_26 sh_0 rfl (by decide) rfl (x := 6) rfl (zdg dz_E_last_0 3 rfl) ?_
  refine vf_aload_n C (f := 0) (zdg dz_E_last_0 4 rfl) 0 rfl rfl ?_
  refine vf_getp C fl_E_61 sh_0 rfl (by decide) rfl (x := 25) rfl (zdg dz_E_last_0 5 rfl) ?_
  refine vf_callVz C cy_S_run ml_E_256 rfl (ct_S_run _) (S := []) sh_28 (by decide) rfl (jrm_of hR rfl) rfl rfl (Nat.le_of_ble_eq_true rfl) (zdg dz_E_last_0 6 rfl) (fun r1 u2 => ?_)
  refine vf_if_ne C (off := 6) (tgt := 21) (zdg dz_E_last_0 7 rfl) (by decide) ?_ ?_
  · refine vf_aload_n C (f := 0) (zdg dz_E_last_0 10 rfl) 0 rfl rfl ?_
    refine vf_getp C fl_E_68 sh_0 rfl (by decide) rfl (x := 29) rfl (zdg dz_E_last_0 11 rfl) ?_
    refine vf_iconst C (z := 0) (zdg dz_E_last_0 12 rfl) (jz rfl) ?_
    refine vf_iconst C (z := 0) (zdg dz_E_last_0 13 rfl) (jz rfl) ?_
    refine vf_callVi C cy_S_lastWeek ml_E_296 rfl (ct_S_lastWeek _ _ _) (S := []) sh_28 (by decide) rfl (jrm_of hR rfl) rfl rfl (Nat.le_of_ble_eq_true rfl) (zdg dz_E_last_0 14 rfl) (fun r3 u4 => ?_)
    refine vf_istore_n C (f := 1) (L' := [(0, (2, 1))]) (zdg dz_E_last_0 15 rfl) [0] (jrI rfl rfl) hn (by decide) rfl ?_
    refine vf_iload_n C (f := 1) (zdg dz_E_last_0 16 rfl) 0 rfl rfl ?_
    refine vf_iconst C (z := (-1)) (zdg dz_E_last_0 17 rfl) (jz rfl) ?_
    refine vf_icmp_ne C (off := 6) (tgt := 39) (zdg dz_E_last_0 18 rfl) (by decide) ?_ ?_
    · refine vf_aload_n C (f := 0) (zdg dz_E_last_0 21 rfl) 1 rfl rfl ?_
      refine vf_getp C fl_E_19 sh_0 rfl (by decide) rfl (x := 4) rfl (zdg dz_E_last_0 22 rfl) ?_
      refine vf_aload_n C (f := 0) (zdg dz_E_last_0 23 rfl) 1 rfl rfl ?_
      refine vf_getp C fl_E_68 sh_0 rfl (by decide) rfl (x := 29) rfl (zdg dz_E_last_1 0 rfl) ?_
      refine vf_iload_n C (f := 1) (zdg dz_E_last_1 1 rfl) 0 rfl rfl ?_
      refine vf_callVi C cy_S_fewestGuests ml_E_274 rfl (ct_S_fewestGuests _ _) (S := [(2, 4)]) sh_28 (by decide) rfl (jrm_of hR rfl) rfl rfl (Nat.le_of_ble_eq_true rfl) (zdg dz_E_last_1 2 rfl) (fun r5 u6 => ?_)
      refine vf_callVv C cy_N_tell1 ml_E_231 rfl (ct_N_tell1 _ _) (S := []) sh_3 (by decide) rfl (jrm_of hR rfl) rfl rfl (Nat.le_of_ble_eq_true rfl) (zdg dz_E_last_1 3 rfl) (fun r7 u8 => ?_)
      refine vf_iload_n C (f := 1) (zdg dz_E_last_1 4 rfl) 0 rfl rfl ?_
      exact hr _ _ _ _ (fun h => absurd h (by decide)) (zdg dz_E_last_1 5 rfl)
    · refine vf_bipush C (z := (-2)) (zdg dz_E_last_0 19 rfl) (by decide +kernel) (jz rfl) ?_
      exact hr _ _ _ _ (fun h => absurd h (by decide)) (zdg dz_E_last_0 20 rfl)
  · refine vf_bipush C (z := (-3)) (zdg dz_E_last_0 8 rfl) (by decide +kernel) (jz rfl) ?_
    exact hr _ _ _ _ (fun h => absurd h (by decide)) (zdg dz_E_last_0 9 rfl)
def f_S_leftOf (v1 : Int) (w : Wd) : Option (Int × Wd) :=
  jcall (f_S_slotOf v1 w) fun r1 u2 =>
  jgd ((0 : Int) ≤ r1 ∧ r1 < 8192) <|
  jlet (w32 ((u2 29 r1.toNat) - 1)) fun x3 =>
  if x3 < 0 then
    some (0, u2)
  else
    if (u2 28 7) ≤ x3 then
      some (0, u2)
    else
      jgd ((0 : Int) ≤ x3 ∧ x3 < 3000) <|
      some (u2 32 x3.toNat, u2)
theorem ct_S_leftOf (v1 : Int) (w : Wd) : Ct y_S_leftOf prog_9_method_19_code 3 (some .long) 2 1 [(2, 29), (0, v1)] w (f_S_leftOf v1 w) := by
  refine ct_of (by decide +kernel) (Or.inr (Or.inl ⟨rfl, rfl⟩)) (Nat.le_of_ble_eq_true rfl) ?_
  intro X Qf ad C hn hR hr
  unfold f_S_leftOf
  show VF X Qf ad NF 0 0 w 0 [(0, (2, 29)), (1, (0, v1))] [] _
  refine vf_aload_n C (f := 0) (zdg dz_S_leftOf_0 0 rfl) 0 rfl rfl ?_
  refine vf_getp C fl_S_11 sh_28 rfl (by decide) rfl (x := 30) rfl (zdg dz_S_leftOf_0 1 rfl) ?_
  refine vf_aload_n C (f := 0) (zdg dz_S_leftOf_0 2 rfl) 0 rfl rfl ?_
  refine vf_iload_n C (f := 1) (zdg dz_S_leftOf_0 3 rfl) 1 rfl rfl ?_
  refine vf_callVi C cy_S_slotOf ml_S_99 rfl (ct_S_slotOf _ _) (S := [(2, 30)]) sh_28 (by decide) rfl (jrm_of hR rfl) rfl rfl (Nat.le_of_ble_eq_true rfl) (zdg dz_S_leftOf_0 4 rfl) (fun r1 u2 => ?_)
  refine vf_iald C sh_29 (by decide) rfl (mz := 8192) rfl (zdg dz_S_leftOf_0 5 rfl) ?_
  refine vf_iconst C (z := 1) (zdg dz_S_leftOf_0 6 rfl) (jz rfl) ?_
  refine vf_isub C (zdg dz_S_leftOf_0 7 rfl) ?_
  generalize w32 ((u2 29 r1.toNat) - 1) = x3
  refine vf_ul ?_
  refine vf_istore_n C (f := 2) (L' := [(0, (2, 29))]) (zdg dz_S_leftOf_0 8 rfl) [0] (jrI rfl rfl) hn (by decide) rfl ?_
  refine vf_iload_n C (f := 2) (zdg dz_S_leftOf_0 9 rfl) 0 rfl rfl ?_
  refine vf_if_lt C (off := 20) (tgt := 34) (zdg dz_S_leftOf_0 10 rfl) (by decide) ?_ ?_
  · refine vf_lconst C (z := 0) (f := 0) (zdg dz_S_leftOf_0 20 rfl) (by decide +kernel) (jz1 rfl) ?_
    exact hr _ _ _ _ (fun h => absurd h (by decide)) (zdg dz_S_leftOf_0 21 rfl)
  · refine vf_iload_n C (f := 2) (zdg dz_S_leftOf_0 11 rfl) 0 rfl rfl ?_
    refine vf_aload_n C (f := 0) (zdg dz_S_leftOf_0 12 rfl) 1 rfl rfl ?_
    refine vf_get C (kd := 0) fl_S_67 sh_28 rfl (by decide) rfl rfl (zdg dz_S_leftOf_0 13 rfl) ?_
    refine vf_icmp_ge C (off := 12) (tgt := 34) (zdg dz_S_leftOf_0 14 rfl) (by decide) ?_ ?_
    · refine vf_lconst C (z := 0) (f := 0) (zdg dz_S_leftOf_0 20 rfl) (by decide +kernel) (jz1 rfl) ?_
      exact hr _ _ _ _ (fun h => absurd h (by decide)) (zdg dz_S_leftOf_0 21 rfl)
    · refine vf_aload_n C (f := 0) (zdg dz_S_leftOf_0 15 rfl) 1 rfl rfl ?_
      refine vf_getp C fl_S_22 sh_28 rfl (by decide) rfl (x := 33) rfl (zdg dz_S_leftOf_0 16 rfl) ?_
      refine vf_iload_n C (f := 2) (zdg dz_S_leftOf_0 17 rfl) 0 rfl rfl ?_
      refine vf_lald C sh_32 (by decide) rfl (mz := 3000) rfl (zdg dz_S_leftOf_0 18 rfl) ?_
      refine vf_goto C (off := 4) (tgt := 35) (zdg dz_S_leftOf_0 19 rfl) (by decide) ?_
      exact hr _ _ _ _ (fun h => absurd h (by decide)) (zdg dz_S_leftOf_0 21 rfl)
def f_S_leftBehind_29 : Nat → Int → Int → Int → Wd → Option (Int × Wd)
  | 0, _, _, _, _ => none
  | n + 1, v1, v4, v6, w =>
    if (w 24 3) ≤ v6 then
      some (v4, w)
    else
      jgd ((0 : Int) ≤ v1 ∧ v1 < 3000) <|
      jcall (f_M_moversOf v6 w) fun r5 u6 =>
      jcall (f_O_after (w 30 v1.toNat) r5 (u6 5 7) u6) fun r7 u8 =>
      jcall (f_S_leftOf r7 u8) fun r9 u10 =>
      jlet (lor v4 r9) fun x11 =>
      jlet (w32 (v6 + 1)) fun x12 =>
      f_S_leftBehind_29 n v1 x11 x12 u10
theorem t_S_leftBehind_29 {X : jX} {Qf : Int × Wd → State → Prop} {ad : Nat → Nat} (C : Cx X prog_9_method_18_code "EachBringsAnother$Search") (hn : xn X = 7) (hR : xR X = rmD 19) (hr : Rt X Qf ad prog_9_method_18_code 1) : ∀ (n : Nat) (v1 v4 v6 : Int) (w : Wd), VF X Qf ad NF 0 0 w 29 [(0, (2, 29)), (1, (0, v1)), (2, (2, 6)), (3, (2, 25)), (4, (1, v4)), (6, (0, v6))] [] (f_S_leftBehind_29 n v1 v4 v6 w) := by
  intro n
  induction n with
  | zero => intros; exact vf_no
  | succ n ih =>
    intro v1 v4 v6 w
    rw [f_S_leftBehind_29]
    refine vf_iload C (zdg dz_S_leftBehind_0 17 rfl) 5 rfl ?_
    refine vf_aload_n C (f := 3) (zdg dz_S_leftBehind_0 18 rfl) 3 rfl rfl ?_
    refine vf_get C (kd := 0) fl_S_85 sh_24 rfl (by decide) rfl rfl (zdg dz_S_leftBehind_0 19 rfl) ?_
    refine vf_icmp_ge C (off := 37) (tgt := 72) (zdg dz_S_leftBehind_0 20 rfl) (by decide) ?_ ?_
    · refine vf_lload C (zdg dz_S_leftBehind_1 14 rfl) 4 rfl ?_
      exact hr _ _ _ _ (fun h => absurd h (by decide)) (zdg dz_S_leftBehind_1 15 rfl)
    · refine vf_lload C (zdg dz_S_leftBehind_0 21 rfl) 4 rfl ?_
      refine vf_aload_n C (f := 0) (zdg dz_S_leftBehind_0 22 rfl) 0 rfl rfl ?_
      refine vf_aload_n C (f := 0) (zdg dz_S_leftBehind_0 23 rfl) 0 rfl rfl ?_
      refine vf_getp C fl_S_15 sh_28 rfl (by decide) rfl (x := 31) rfl (zdg dz_S_leftBehind_1 0 rfl) ?_
      refine vf_iload_n C (f := 1) (zdg dz_S_leftBehind_1 1 rfl) 1 rfl rfl ?_
      refine vf_iald C sh_30 (by decide) rfl (mz := 3000) rfl (zdg dz_S_leftBehind_1 2 rfl) ?_
      refine vf_aload_n C (f := 3) (zdg dz_S_leftBehind_1 3 rfl) 3 rfl rfl ?_
      refine vf_iload C (zdg dz_S_leftBehind_1 4 rfl) 5 rfl ?_
      refine vf_callVi C cy_M_moversOf ml_S_86 rfl (ct_M_moversOf _ _) (S := [(0, w 30 v1.toNat), (2, 29), (1, v4)]) sh_24 (by decide) rfl (jrm_of hR rfl) rfl rfl (Nat.le_of_ble_eq_true rfl) (zdg dz_S_leftBehind_1 5 rfl) (fun r5 u6 => ?_)
      refine vf_aload_n C (f := 2) (zdg dz_S_leftBehind_1 6 rfl) 2 rfl rfl ?_
      refine vf_get C (kd := 0) fl_S_89 sh_5 rfl (by decide) rfl rfl (zdg dz_S_leftBehind_1 7 rfl) ?_
      refine vf_callSi C cy_O_after ml_S_92 (ct_O_after _ _ _ _) (S := [(2, 29), (1, v4)]) (jrm_of hR rfl) rfl rfl (Nat.le_of_ble_eq_true rfl) (zdg dz_S_leftBehind_1 8 rfl) (fun r7 u8 => ?_)
      refine vf_callVl C cy_S_leftOf ml_S_150 rfl (ct_S_leftOf _ _) (S := [(1, v4)]) sh_28 (by decide) rfl (jrm_of hR rfl) rfl rfl (Nat.le_of_ble_eq_true rfl) (zdg dz_S_leftBehind_1 9 rfl) (fun r9 u10 => ?_)
      refine vf_lor C (zdg dz_S_leftBehind_1 10 rfl) ?_
      generalize lor v4 r9 = x11
      refine vf_ul ?_
      refine vf_lstore C (i := 4) (L' := [(0, (2, 29)), (1, (0, v1)), (2, (2, 6)), (3, (2, 25)), (6, (0, v6))]) (zdg dz_S_leftBehind_1 11 rfl) [0, 1, 2, 3, 5] (jrI rfl rfl) hn (by decide) ?_
      refine vf_iinc C (z := 1) (L' := [(4, (1, x11)), (0, (2, 29)), (1, (0, v1)), (2, (2, 6)), (3, (2, 25))]) (zdg dz_S_leftBehind_1 12 rfl) 5 rfl [0, 1, 2, 3, 4] (jrI rfl rfl) hn (by decide) ?_
      generalize w32 (v6 + 1) = x12
      refine vf_ul ?_
      refine vf_goto C (off := (-40)) (tgt := 29) (zdg dz_S_leftBehind_1 13 rfl) (by decide) ?_
      exact vf_perm [2, 3, 4, 5, 1, 0] rfl (ih _ _ _ _)
def f_S_leftBehind (v1 : Int) (w : Wd) : Option (Int × Wd) :=
  jcall (f_S_guests v1 w) fun r1 u2 =>
  if r1 = 0 then
    some (0, u2)
  else
    jgd ((0 : Int) ≤ v1 ∧ v1 < 3000) <|
    jcall (f_M_gather (u2 30 v1.toNat) (u2 5 8) u2) fun r3 u4 =>
    f_S_leftBehind_29 FU v1 0 0 u4
theorem ct_S_leftBehind (v1 : Int) (w : Wd) : Ct y_S_leftBehind prog_9_method_18_code 7 (some .long) 19 1 [(2, 29), (0, v1), (2, 6), (2, 25)] w (f_S_leftBehind v1 w) := by
  refine ct_of (by decide +kernel) (Or.inr (Or.inl ⟨rfl, rfl⟩)) (Nat.le_of_ble_eq_true rfl) ?_
  intro X Qf ad C hn hR hr
  unfold f_S_leftBehind
  show VF X Qf ad NF 0 0 w 0 [(0, (2, 29)), (1, (0, v1)), (2, (2, 6)), (3, (2, 25))] [] _
  refine vf_lconst C (z := 0) (f := 0) (zdg dz_S_leftBehind_0 0 rfl) (by decide +kernel) (jz1 rfl) ?_
  refine vf_lstore C (i := 4) (L' := [(0, (2, 29)), (1, (0, v1)), (2, (2, 6)), (3, (2, 25))]) (zdg dz_S_leftBehind_0 1 rfl) [0, 1, 2, 3] (jrI rfl rfl) hn (by decide) ?_
  refine vf_aload_n C (f := 0) (zdg dz_S_leftBehind_0 2 rfl) 1 rfl rfl ?_
  refine vf_iload_n C (f := 1) (zdg dz_S_leftBehind_0 3 rfl) 2 rfl rfl ?_
  refine vf_callVi C cy_S_guests ml_S_70 rfl (ct_S_guests _ _) (S := []) sh_28 (by decide) rfl (jrm_of hR rfl) rfl rfl (Nat.le_of_ble_eq_true rfl) (zdg dz_S_leftBehind_0 4 rfl) (fun r1 u2 => ?_)
  refine vf_if_eq C (off := 64) (tgt := 72) (zdg dz_S_leftBehind_0 5 rfl) (by decide) ?_ ?_
  · refine vf_lload C (zdg dz_S_leftBehind_1 14 rfl) 0 rfl ?_
    exact hr _ _ _ _ (fun h => absurd h (by decide)) (zdg dz_S_leftBehind_1 15 rfl)
  · refine vf_aload_n C (f := 3) (zdg dz_S_leftBehind_0 6 rfl) 4 rfl rfl ?_
    refine vf_aload_n C (f := 2) (zdg dz_S_leftBehind_0 7 rfl) 3 rfl rfl ?_
    refine vf_aload_n C (f := 0) (zdg dz_S_leftBehind_0 8 rfl) 1 rfl rfl ?_
    refine vf_getp C fl_S_15 sh_28 rfl (by decide) rfl (x := 31) rfl (zdg dz_S_leftBehind_0 9 rfl) ?_
    refine vf_iload_n C (f := 1) (zdg dz_S_leftBehind_0 10 rfl) 2 rfl rfl ?_
    refine vf_iald C sh_30 (by decide) rfl (mz := 3000) rfl (zdg dz_S_leftBehind_0 11 rfl) ?_
    refine vf_aload_n C (f := 2) (zdg dz_S_leftBehind_0 12 rfl) 3 rfl rfl ?_
    refine vf_get C (kd := 0) fl_S_76 sh_5 rfl (by decide) rfl rfl (zdg dz_S_leftBehind_0 13 rfl) ?_
    refine vf_callVv C cy_M_gather ml_S_79 rfl (ct_M_gather _ _ _) (S := []) sh_24 (by decide) rfl (jrm_of hR rfl) rfl rfl (Nat.le_of_ble_eq_true rfl) (zdg dz_S_leftBehind_0 14 rfl) (fun r3 u4 => ?_)
    refine vf_iconst C (z := 0) (zdg dz_S_leftBehind_0 15 rfl) (jz rfl) ?_
    refine vf_istore C (i := 6) (L' := [(4, (1, 0)), (0, (2, 29)), (1, (0, v1)), (2, (2, 6)), (3, (2, 25))]) (zdg dz_S_leftBehind_0 16 rfl) [0, 1, 2, 3, 4] (jrI rfl rfl) hn (by decide) ?_
    exact vf_perm [2, 3, 4, 5, 1, 0] rfl (t_S_leftBehind_29 C hn hR hr FU _ _ _ _)
def f_S_lookBack_79 (k8 : Int → Int → Int → Wd → Option (Int × Wd)) (v3 v4 v5 v6 s0 : Int) (w : Wd) : Option (Int × Wd) :=
  jcall (f_S_leftBehind v6 w) fun r5 u6 =>
  jgd ((0 : Int) ≤ v6 ∧ v6 < 3000) <|
  jlw (st u6 32 v6.toNat ((lor s0 (lshl r5 1)))) fun u7 =>
  jlet (w32 (v5 + (-1))) fun x8 =>
  k8 v3 v4 x8 u7
theorem t_S_lookBack_79 {X : jX} {Qf : Int × Wd → State → Prop} {ad : Nat → Nat} (C : Cx X prog_9_method_17_code "EachBringsAnother$Search") (hn : xn X = 10) (hR : xR X = rmD 20) (hr : Rt X Qf ad prog_9_method_17_code 9) {k8 : Int → Int → Int → Wd → Option (Int × Wd)} (hk8 : ∀ (v3 v4 v5 : Int) (w : Wd), VF X Qf ad NF 0 0 w 8 [(0, (2, 29)), (1, (2, 6)), (2, (2, 25)), (3, (0, v3)), (4, (0, v4)), (5, (0, v5))] [] (k8 v3 v4 v5 w)) (v3 v4 v5 v6 s0 : Int) (w : Wd) : VF X Qf ad NF 0 0 w 79 [(0, (2, 29)), (1, (2, 6)), (2, (2, 25)), (3, (0, v3)), (4, (0, v4)), (5, (0, v5)), (6, (0, v6))] [(1, s0)] (f_S_lookBack_79 k8 v3 v4 v5 v6 s0 w) := by
  unfold f_S_lookBack_79
  refine vf_lstore C (i := 8) (L' := [(0, (2, 29)), (1, (2, 6)), (2, (2, 25)), (3, (0, v3)), (4, (0, v4)), (5, (0, v5)), (6, (0, v6))]) (zdg dz_S_lookBack_1 18 rfl) [0, 1, 2, 3, 4, 5, 6] (jrI rfl rfl) hn (by decide) ?_
  refine vf_aload_n C (f := 0) (zdg dz_S_lookBack_1 19 rfl) 1 rfl rfl ?_
  refine vf_getp C fl_S_22 sh_28 rfl (by decide) rfl (x := 33) rfl (zdg dz_S_lookBack_1 20 rfl) ?_
  refine vf_iload C (zdg dz_S_lookBack_1 21 rfl) 7 rfl ?_
  refine vf_lload C (zdg dz_S_lookBack_1 22 rfl) 0 rfl ?_
  refine vf_aload_n C (f := 0) (zdg dz_S_lookBack_1 23 rfl) 1 rfl rfl ?_
  refine vf_iload C (zdg dz_S_lookBack_2 0 rfl) 7 rfl ?_
  refine vf_aload_n C (f := 1) (zdg dz_S_lookBack_2 1 rfl) 2 rfl rfl ?_
  refine vf_aload_n C (f := 2) (zdg dz_S_lookBack_2 2 rfl) 3 rfl rfl ?_
  refine vf_callVl C cy_S_leftBehind ml_S_146 rfl (ct_S_leftBehind _ _) (S := [(1, s0), (0, v6), (2, 33)]) sh_28 (by decide) rfl (jrm_of hR rfl) rfl rfl (Nat.le_of_ble_eq_true rfl) (zdg dz_S_lookBack_2 3 rfl) (fun r5 u6 => ?_)
  refine vf_iconst C (z := 1) (zdg dz_S_lookBack_2 4 rfl) (jz rfl) ?_
  refine vf_lshl C (zdg dz_S_lookBack_2 5 rfl) ?_
  refine vf_lor C (zdg dz_S_lookBack_2 6 rfl) ?_
  refine vf_last C sh_32 (by decide) rfl (mz := 3000) rfl (zdg dz_S_lookBack_2 7 rfl) ?_
  generalize st u6 32 v6.toNat ((lor s0 (lshl r5 1))) = u7
  refine vf_uw ?_
  refine vf_iinc C (z := (-1)) (L' := [(0, (2, 29)), (1, (2, 6)), (2, (2, 25)), (3, (0, v3)), (4, (0, v4))]) (zdg dz_S_lookBack_2 8 rfl) 6 rfl [1, 2, 3, 4, 5] (jrI rfl rfl) hn (by decide) ?_
  generalize w32 (v5 + (-1)) = x8
  refine vf_ul ?_
  refine vf_goto C (off := (-96)) (tgt := 8) (zdg dz_S_lookBack_2 9 rfl) (by decide) ?_
  exact vf_perm [1, 2, 3, 4, 5, 0] rfl (hk8 _ _ _ _)
def f_S_lookBack_78 (k8 : Int → Int → Int → Wd → Option (Int × Wd)) (v3 v4 v5 v6 : Int) (w : Wd) : Option (Int × Wd) :=
  f_S_lookBack_79 k8 v3 v4 v5 v6 0 w
theorem t_S_lookBack_78 {X : jX} {Qf : Int × Wd → State → Prop} {ad : Nat → Nat} (C : Cx X prog_9_method_17_code "EachBringsAnother$Search") (hn : xn X = 10) (hR : xR X = rmD 20) (hr : Rt X Qf ad prog_9_method_17_code 9) {k8 : Int → Int → Int → Wd → Option (Int × Wd)} (hk8 : ∀ (v3 v4 v5 : Int) (w : Wd), VF X Qf ad NF 0 0 w 8 [(0, (2, 29)), (1, (2, 6)), (2, (2, 25)), (3, (0, v3)), (4, (0, v4)), (5, (0, v5))] [] (k8 v3 v4 v5 w)) (v3 v4 v5 v6 : Int) (w : Wd) : VF X Qf ad NF 0 0 w 78 [(0, (2, 29)), (1, (2, 6)), (2, (2, 25)), (3, (0, v3)), (4, (0, v4)), (5, (0, v5)), (6, (0, v6))] [] (f_S_lookBack_78 k8 v3 v4 v5 v6 w) := by
  unfold f_S_lookBack_78
  refine vf_lconst C (z := 0) (f := 0) (zdg dz_S_lookBack_1 17 rfl) (by decide +kernel) (jz1 rfl) ?_
  exact t_S_lookBack_79 C hn hR hr hk8 _ _ _ _ _ _
def f_S_lookBack_74 (k8 : Int → Int → Int → Wd → Option (Int × Wd)) (v3 v4 v5 v6 : Int) (w : Wd) : Option (Int × Wd) :=
  f_S_lookBack_79 k8 v3 v4 v5 v6 1 w
theorem t_S_lookBack_74 {X : jX} {Qf : Int × Wd → State → Prop} {ad : Nat → Nat} (C : Cx X prog_9_method_17_code "EachBringsAnother$Search") (hn : xn X = 10) (hR : xR X = rmD 20) (hr : Rt X Qf ad prog_9_method_17_code 9) {k8 : Int → Int → Int → Wd → Option (Int × Wd)} (hk8 : ∀ (v3 v4 v5 : Int) (w : Wd), VF X Qf ad NF 0 0 w 8 [(0, (2, 29)), (1, (2, 6)), (2, (2, 25)), (3, (0, v3)), (4, (0, v4)), (5, (0, v5))] [] (k8 v3 v4 v5 w)) (v3 v4 v5 v6 : Int) (w : Wd) : VF X Qf ad NF 0 0 w 74 [(0, (2, 29)), (1, (2, 6)), (2, (2, 25)), (3, (0, v3)), (4, (0, v4)), (5, (0, v5)), (6, (0, v6))] [] (f_S_lookBack_74 k8 v3 v4 v5 v6 w) := by
  unfold f_S_lookBack_74
  refine vf_lconst C (z := 1) (f := 1) (zdg dz_S_lookBack_1 15 rfl) (by decide +kernel) (jz1 rfl) ?_
  refine vf_goto C (off := 4) (tgt := 79) (zdg dz_S_lookBack_1 16 rfl) (by decide) ?_
  exact t_S_lookBack_79 C hn hR hr hk8 _ _ _ _ _ _
def f_S_lookBack_49 (k8 : Int → Int → Int → Wd → Option (Int × Wd)) (v3 v4 v5 v6 s0 : Int) (w : Wd) : Option (Int × Wd) :=
  if s0 = 0 then
    f_S_lookBack_78 k8 v3 v4 v5 v6 w
  else
    if v4 = (-1) then
      f_S_lookBack_74 k8 v3 v4 v5 v6 w
    else
      jcall (f_S_paidFor v6 w) fun r9 u10 =>
      if r9 = v4 then
        f_S_lookBack_74 k8 v3 v4 v5 v6 u10
      else
        f_S_lookBack_78 k8 v3 v4 v5 v6 u10
theorem t_S_lookBack_49 {X : jX} {Qf : Int × Wd → State → Prop} {ad : Nat → Nat} (C : Cx X prog_9_method_17_code "EachBringsAnother$Search") (hn : xn X = 10) (hR : xR X = rmD 20) (hr : Rt X Qf ad prog_9_method_17_code 9) {k8 : Int → Int → Int → Wd → Option (Int × Wd)} (hk8 : ∀ (v3 v4 v5 : Int) (w : Wd), VF X Qf ad NF 0 0 w 8 [(0, (2, 29)), (1, (2, 6)), (2, (2, 25)), (3, (0, v3)), (4, (0, v4)), (5, (0, v5))] [] (k8 v3 v4 v5 w)) (v3 v4 v5 v6 s0 : Int) (w : Wd) : VF X Qf ad NF 0 0 w 49 [(0, (2, 29)), (1, (2, 6)), (2, (2, 25)), (3, (0, v3)), (4, (0, v4)), (5, (0, v5)), (6, (0, v6))] [(0, s0)] (f_S_lookBack_49 k8 v3 v4 v5 v6 s0 w) := by
  unfold f_S_lookBack_49
  refine vf_istore C (i := 7) (L' := [(0, (2, 29)), (1, (2, 6)), (2, (2, 25)), (3, (0, v3)), (4, (0, v4)), (5, (0, v5)), (6, (0, v6))]) (zdg dz_S_lookBack_1 3 rfl) [0, 1, 2, 3, 4, 5, 6] (jrI rfl rfl) hn (by decide) ?_
  refine vf_iload C (zdg dz_S_lookBack_1 4 rfl) 0 rfl ?_
  refine vf_if_eq C (off := 25) (tgt := 78) (zdg dz_S_lookBack_1 5 rfl) (by decide) ?_ ?_
  · exact vf_perm [1, 2, 3, 4, 5, 6, 7] rfl (t_S_lookBack_78 C hn hR hr hk8 _ _ _ _ _)
  · refine vf_iload C (zdg dz_S_lookBack_1 6 rfl) 5 rfl ?_
    refine vf_iconst C (z := (-1)) (zdg dz_S_lookBack_1 7 rfl) (jz rfl) ?_
    refine vf_icmp_eq C (off := 15) (tgt := 74) (zdg dz_S_lookBack_1 8 rfl) (by decide) ?_ ?_
    · exact vf_perm [1, 2, 3, 4, 5, 6, 7] rfl (t_S_lookBack_74 C hn hR hr hk8 _ _ _ _ _)
    · refine vf_aload_n C (f := 0) (zdg dz_S_lookBack_1 9 rfl) 1 rfl rfl ?_
      refine vf_iload C (zdg dz_S_lookBack_1 10 rfl) 7 rfl ?_
      refine vf_aload_n C (f := 1) (zdg dz_S_lookBack_1 11 rfl) 2 rfl rfl ?_
      refine vf_callVi C cy_S_paidFor ml_S_138 rfl (ct_S_paidFor _ _) (S := []) sh_28 (by decide) rfl (jrm_of hR rfl) rfl rfl (Nat.le_of_ble_eq_true rfl) (zdg dz_S_lookBack_1 12 rfl) (fun r9 u10 => ?_)
      refine vf_iload C (zdg dz_S_lookBack_1 13 rfl) 5 rfl ?_
      refine vf_icmp_ne C (off := 7) (tgt := 78) (zdg dz_S_lookBack_1 14 rfl) (by decide) ?_ ?_
      · exact vf_perm [1, 2, 3, 4, 5, 6, 7] rfl (t_S_lookBack_78 C hn hR hr hk8 _ _ _ _ _)
      · exact vf_perm [1, 2, 3, 4, 5, 6, 7] rfl (t_S_lookBack_74 C hn hR hr hk8 _ _ _ _ _)
def f_S_lookBack_48 (k8 : Int → Int → Int → Wd → Option (Int × Wd)) (v3 v4 v5 v6 : Int) (w : Wd) : Option (Int × Wd) :=
  f_S_lookBack_49 k8 v3 v4 v5 v6 0 w
theorem t_S_lookBack_48 {X : jX} {Qf : Int × Wd → State → Prop} {ad : Nat → Nat} (C : Cx X prog_9_method_17_code "EachBringsAnother$Search") (hn : xn X = 10) (hR : xR X = rmD 20) (hr : Rt X Qf ad prog_9_method_17_code 9) {k8 : Int → Int → Int → Wd → Option (Int × Wd)} (hk8 : ∀ (v3 v4 v5 : Int) (w : Wd), VF X Qf ad NF 0 0 w 8 [(0, (2, 29)), (1, (2, 6)), (2, (2, 25)), (3, (0, v3)), (4, (0, v4)), (5, (0, v5))] [] (k8 v3 v4 v5 w)) (v3 v4 v5 v6 : Int) (w : Wd) : VF X Qf ad NF 0 0 w 48 [(0, (2, 29)), (1, (2, 6)), (2, (2, 25)), (3, (0, v3)), (4, (0, v4)), (5, (0, v5)), (6, (0, v6))] [] (f_S_lookBack_48 k8 v3 v4 v5 v6 w) := by
  unfold f_S_lookBack_48
  refine vf_iconst C (z := 0) (zdg dz_S_lookBack_1 2 rfl) (jz rfl) ?_
  exact t_S_lookBack_49 C hn hR hr hk8 _ _ _ _ _ _
def f_S_lookBack_8 : Nat → Int → Int → Int → Wd → Option (Int × Wd)
  | 0, _, _, _, _ => none
  | n + 1, v3, v4, v5, w =>
    if v5 < 0 then
      some (0, w)
    else
      jgd ((0 : Int) ≤ v5 ∧ v5 < 3000) <|
      jlet (w 35 v5.toNat) fun x2 =>
      jcall (f_S_guests x2 w) fun r3 u4 =>
      if r3 = 0 then
        f_S_lookBack_48 (f_S_lookBack_8 n) v3 v4 v5 x2 u4
      else
        jcall (f_S_guests x2 u4) fun r11 u12 =>
        if (iand v3 (ixor r11 (-1))) = 0 then
          f_S_lookBack_49 (f_S_lookBack_8 n) v3 v4 v5 x2 1 u12
        else
          f_S_lookBack_48 (f_S_lookBack_8 n) v3 v4 v5 x2 u12
theorem t_S_lookBack_8 {X : jX} {Qf : Int × Wd → State → Prop} {ad : Nat → Nat} (C : Cx X prog_9_method_17_code "EachBringsAnother$Search") (hn : xn X = 10) (hR : xR X = rmD 20) (hr : Rt X Qf ad prog_9_method_17_code 9) : ∀ (n : Nat) (v3 v4 v5 : Int) (w : Wd), VF X Qf ad NF 0 0 w 8 [(0, (2, 29)), (1, (2, 6)), (2, (2, 25)), (3, (0, v3)), (4, (0, v4)), (5, (0, v5))] [] (f_S_lookBack_8 n v3 v4 v5 w) := by
  intro n
  induction n with
  | zero => intros; exact vf_no
  | succ n ih =>
    intro v3 v4 v5 w
    rw [f_S_lookBack_8]
    refine vf_iload C (zdg dz_S_lookBack_0 5 rfl) 5 rfl ?_
    refine vf_if_lt C (off := 97) (tgt := 107) (zdg dz_S_lookBack_0 6 rfl) (by decide) ?_ ?_
    · exact hr _ _ _ _ (fun h => absurd h (by decide)) (zdg dz_S_lookBack_2 10 rfl)
    · refine vf_aload_n C (f := 0) (zdg dz_S_lookBack_0 7 rfl) 0 rfl rfl ?_
      refine vf_getp C fl_S_31 sh_28 rfl (by decide) rfl (x := 36) rfl (zdg dz_S_lookBack_0 8 rfl) ?_
      refine vf_iload C (zdg dz_S_lookBack_0 9 rfl) 5 rfl ?_
      refine vf_iald C sh_35 (by decide) rfl (mz := 3000) rfl (zdg dz_S_lookBack_0 10 rfl) ?_
      generalize w 35 v5.toNat = x2
      refine vf_ul ?_
      refine vf_istore C (i := 6) (L' := [(0, (2, 29)), (1, (2, 6)), (2, (2, 25)), (3, (0, v3)), (4, (0, v4)), (5, (0, v5))]) (zdg dz_S_lookBack_0 11 rfl) [0, 1, 2, 3, 4, 5] (jrI rfl rfl) hn (by decide) ?_
      refine vf_aload_n C (f := 0) (zdg dz_S_lookBack_0 12 rfl) 1 rfl rfl ?_
      refine vf_iload C (zdg dz_S_lookBack_0 13 rfl) 0 rfl ?_
      refine vf_callVi C cy_S_guests ml_S_70 rfl (ct_S_guests _ _) (S := []) sh_28 (by decide) rfl (jrm_of hR rfl) rfl rfl (Nat.le_of_ble_eq_true rfl) (zdg dz_S_lookBack_0 14 rfl) (fun r3 u4 => ?_)
      refine vf_if_eq C (off := 20) (tgt := 48) (zdg dz_S_lookBack_0 15 rfl) (by decide) ?_ ?_
      · exact vf_perm [1, 2, 3, 4, 5, 6, 0] rfl (t_S_lookBack_48 C hn hR hr ih _ _ _ _ _)
      · refine vf_iload_n C (f := 3) (zdg dz_S_lookBack_0 16 rfl) 4 rfl rfl ?_
        refine vf_aload_n C (f := 0) (zdg dz_S_lookBack_0 17 rfl) 1 rfl rfl ?_
        refine vf_iload C (zdg dz_S_lookBack_0 18 rfl) 0 rfl ?_
        refine vf_callVi C cy_S_guests ml_S_70 rfl (ct_S_guests _ _) (S := [(0, v3)]) sh_28 (by decide) rfl (jrm_of hR rfl) rfl rfl (Nat.le_of_ble_eq_true rfl) (zdg dz_S_lookBack_0 19 rfl) (fun r11 u12 => ?_)
        refine vf_iconst C (z := (-1)) (zdg dz_S_lookBack_0 20 rfl) (jz rfl) ?_
        refine vf_ixor C (zdg dz_S_lookBack_0 21 rfl) ?_
        refine vf_iand C (zdg dz_S_lookBack_0 22 rfl) ?_
        refine vf_if_ne C (off := 7) (tgt := 48) (zdg dz_S_lookBack_0 23 rfl) (by decide) ?_ ?_
        · exact vf_perm [1, 2, 3, 4, 5, 6, 0] rfl (t_S_lookBack_48 C hn hR hr ih _ _ _ _ _)
        · refine vf_iconst C (z := 1) (zdg dz_S_lookBack_1 0 rfl) (jz rfl) ?_
          refine vf_goto C (off := 4) (tgt := 49) (zdg dz_S_lookBack_1 1 rfl) (by decide) ?_
          exact vf_perm [1, 2, 3, 4, 5, 6, 0] rfl (t_S_lookBack_49 C hn hR hr ih _ _ _ _ _ _)
def f_S_lookBack (v3 v4 : Int) (w : Wd) : Option (Int × Wd) :=
  jlet (w32 ((w 28 8) - 1)) fun x1 =>
  f_S_lookBack_8 FU v3 v4 x1 w
theorem ct_S_lookBack (v3 v4 : Int) (w : Wd) : Ct y_S_lookBack prog_9_method_17_code 10 none 20 9 [(2, 29), (2, 6), (2, 25), (0, v3), (0, v4)] w (f_S_lookBack v3 v4 w) := by
  refine ct_of (by decide +kernel) (Or.inr (Or.inr (Or.inr ⟨rfl, rfl⟩))) (Nat.le_of_ble_eq_true rfl) ?_
  intro X Qf ad C hn hR hr
  unfold f_S_lookBack
  show VF X Qf ad NF 0 0 w 0 [(0, (2, 29)), (1, (2, 6)), (2, (2, 25)), (3, (0, v3)), (4, (0, v4))] [] _
  refine vf_aload_n C (f := 0) (zdg dz_S_lookBack_0 0 rfl) 0 rfl rfl ?_
  refine vf_get C (kd := 0) fl_S_54 sh_28 rfl (by decide) rfl rfl (zdg dz_S_lookBack_0 1 rfl) ?_
  refine vf_iconst C (z := 1) (zdg dz_S_lookBack_0 2 rfl) (jz rfl) ?_
  refine vf_isub C (zdg dz_S_lookBack_0 3 rfl) ?_
  generalize w32 ((w 28 8) - 1) = x1
  refine vf_ul ?_
  refine vf_istore C (i := 5) (L' := [(0, (2, 29)), (1, (2, 6)), (2, (2, 25)), (3, (0, v3)), (4, (0, v4))]) (zdg dz_S_lookBack_0 4 rfl) [0, 1, 2, 3, 4] (jrI rfl rfl) hn (by decide) ?_
  exact vf_perm [1, 2, 3, 4, 5, 0] rfl (t_S_lookBack_8 C hn hR hr FU _ _ _ _)
def f_S_leads (v1 v2 : Int) (w : Wd) : Option (Int × Wd) :=
  jcall (f_S_leftOf v1 w) fun r1 u2 =>
  if (lcmp (land (lshr r1 v2) 1) 0) = 0 then
    some (0, u2)
  else
    some (1, u2)
theorem ct_S_leads (v1 v2 : Int) (w : Wd) : Ct y_S_leads prog_9_method_20_code 3 (some .boolean) 3 4 [(2, 29), (0, v1), (0, v2)] w (f_S_leads v1 v2 w) := by
  refine ct_of (by decide +kernel) (Or.inr (Or.inr (Or.inl ⟨rfl, rfl⟩))) (Nat.le_of_ble_eq_true rfl) ?_
  intro X Qf ad C hn hR hr
  unfold f_S_leads
  show VF X Qf ad NF 0 0 w 0 [(0, (2, 29)), (1, (0, v1)), (2, (0, v2))] [] _
  refine vf_aload_n C (f := 0) (zdg dz_S_leads_0 0 rfl) 0 rfl rfl ?_
  refine vf_iload_n C (f := 1) (zdg dz_S_leads_0 1 rfl) 1 rfl rfl ?_
  refine vf_callVl C cy_S_leftOf ml_S_150 rfl (ct_S_leftOf _ _) (S := []) sh_28 (by decide) rfl (jrm_of hR rfl) rfl rfl (Nat.le_of_ble_eq_true rfl) (zdg dz_S_leads_0 2 rfl) (fun r1 u2 => ?_)
  refine vf_iload_n C (f := 2) (zdg dz_S_leads_0 3 rfl) 2 rfl rfl ?_
  refine vf_lshr C (zdg dz_S_leads_0 4 rfl) ?_
  refine vf_lconst C (z := 1) (f := 1) (zdg dz_S_leads_0 5 rfl) (by decide +kernel) (jz1 rfl) ?_
  refine vf_land C (zdg dz_S_leads_0 6 rfl) ?_
  refine vf_lconst C (z := 0) (f := 0) (zdg dz_S_leads_0 7 rfl) (by decide +kernel) (jz1 rfl) ?_
  refine vf_lcmp C (zdg dz_S_leads_0 8 rfl) ?_
  refine vf_if_eq C (off := 7) (tgt := 18) (zdg dz_S_leads_0 9 rfl) (by decide) ?_ ?_
  · refine vf_iconst C (z := 0) (zdg dz_S_leads_0 12 rfl) (jz rfl) ?_
    exact hr _ _ _ _ (fun _ => Or.inl rfl) (zdg dz_S_leads_0 13 rfl)
  · refine vf_iconst C (z := 1) (zdg dz_S_leads_0 10 rfl) (jz rfl) ?_
    refine vf_goto C (off := 4) (tgt := 19) (zdg dz_S_leads_0 11 rfl) (by decide) ?_
    exact hr _ _ _ _ (fun _ => Or.inr rfl) (zdg dz_S_leads_0 13 rfl)
def f_E_firstThatLeads_2 : Nat → Int → Int → Wd → Option (Int × Wd)
  | 0, _, _, _ => none
  | n + 1, v1, v2, w =>
    if (w 24 3) ≤ v2 then
      some ((-1), w)
    else
      jcall (f_M_moversOf v2 w) fun r1 u2 =>
      jcall (f_O_after (w 5 4) r1 (u2 5 7) u2) fun r3 u4 =>
      jcall (f_S_leads r3 (w32 (v1 - 1)) u4) fun r5 u6 =>
      if r5 = 0 then
        jlet (w32 (v2 + 1)) fun x7 =>
        f_E_firstThatLeads_2 n v1 x7 u6
      else
        some (v2, u6)
theorem t_E_firstThatLeads_2 {X : jX} {Qf : Int × Wd → State → Prop} {ad : Nat → Nat} (C : Cx X prog_1_method_56_code "EachBringsAnother") (hn : xn X = 4) (hR : xR X = rmD 4) (hr : Rt X Qf ad prog_1_method_56_code 0) : ∀ (n : Nat) (v1 v2 : Int) (w : Wd), VF X Qf ad NF 0 0 w 2 [(0, (2, 1)), (1, (0, v1)), (2, (0, v2))] [] (f_E_firstThatLeads_2 n v1 v2 w) := by
  intro n
  induction n with
  | zero => intros; exact vf_no
  | succ n ih =>
    intro v1 v2 w
    rw [f_E_firstThatLeads_2]
    refine vf_iload_n C (f := 2) (zdg dz_E_firstThatLeads_0 2 rfl) 2 rfl rfl ?_
    refine vf_aload_n C (f := 0) (zdg dz_E_firstThatLeads_0 3 rfl) 0 rfl rfl ?_
    refine vf_getp C fl_E_61 sh_0 rfl (by decide) rfl (x := 25) rfl (zdg dz_E_firstThatLeads_0 4 rfl) ?_
    refine vf_get C (kd := 0) fl_E_227 sh_24 rfl (by decide) rfl rfl (zdg dz_E_firstThatLeads_0 5 rfl) ?_
    refine vf_icmp_ge C (off := 51) (tgt := 61) (zdg dz_E_firstThatLeads_0 6 rfl) (by decide) ?_ ?_
    · refine vf_iconst C (z := (-1)) (zdg dz_E_firstThatLeads_1 7 rfl) (jz rfl) ?_
      exact hr _ _ _ _ (fun h => absurd h (by decide)) (zdg dz_E_firstThatLeads_1 8 rfl)
    · refine vf_aload_n C (f := 0) (zdg dz_E_firstThatLeads_0 7 rfl) 0 rfl rfl ?_
      refine vf_getp C fl_E_26 sh_0 rfl (by decide) rfl (x := 6) rfl (zdg dz_E_firstThatLeads_0 8 rfl) ?_
      refine vf_get C (kd := 0) fl_E_139 sh_5 rfl (by decide) rfl rfl (zdg dz_E_firstThatLeads_0 9 rfl) ?_
      refine vf_aload_n C (f := 0) (zdg dz_E_firstThatLeads_0 10 rfl) 0 rfl rfl ?_
      refine vf_getp C fl_E_61 sh_0 rfl (by decide) rfl (x := 25) rfl (zdg dz_E_firstThatLeads_0 11 rfl) ?_
      refine vf_iload_n C (f := 2) (zdg dz_E_firstThatLeads_0 12 rfl) 2 rfl rfl ?_
      refine vf_callVi C cy_M_moversOf ml_E_228 rfl (ct_M_moversOf _ _) (S := [(0, w 5 4)]) sh_24 (by decide) rfl (jrm_of hR rfl) rfl rfl (Nat.le_of_ble_eq_true rfl) (zdg dz_E_firstThatLeads_0 13 rfl) (fun r1 u2 => ?_)
      refine vf_aload_n C (f := 0) (zdg dz_E_firstThatLeads_0 14 rfl) 0 rfl rfl ?_
      refine vf_getp C fl_E_26 sh_0 rfl (by decide) rfl (x := 6) rfl (zdg dz_E_firstThatLeads_0 15 rfl) ?_
      refine vf_get C (kd := 0) fl_E_156 sh_5 rfl (by decide) rfl rfl (zdg dz_E_firstThatLeads_0 16 rfl) ?_
      refine vf_callSi C cy_O_after ml_E_381 (ct_O_after _ _ _ _) (S := []) (jrm_of hR rfl) rfl rfl (Nat.le_of_ble_eq_true rfl) (zdg dz_E_firstThatLeads_0 17 rfl) (fun r3 u4 => ?_)
      refine vf_istore_n C (f := 3) (L' := [(0, (2, 1)), (1, (0, v1)), (2, (0, v2))]) (zdg dz_E_firstThatLeads_0 18 rfl) [0, 1, 2] (jrI rfl rfl) hn (by decide) rfl ?_
      refine vf_aload_n C (f := 0) (zdg dz_E_firstThatLeads_0 19 rfl) 1 rfl rfl ?_
      refine vf_getp C fl_E_68 sh_0 rfl (by decide) rfl (x := 29) rfl (zdg dz_E_firstThatLeads_0 20 rfl) ?_
      refine vf_iload_n C (f := 3) (zdg dz_E_firstThatLeads_0 21 rfl) 0 rfl rfl ?_
      refine vf_iload_n C (f := 1) (zdg dz_E_firstThatLeads_0 22 rfl) 2 rfl rfl ?_
      refine vf_iconst C (z := 1) (zdg dz_E_firstThatLeads_0 23 rfl) (jz rfl) ?_
      refine vf_isub C (zdg dz_E_firstThatLeads_1 0 rfl) ?_
      refine vf_callVz C cy_S_leads ml_E_388 rfl (ct_S_leads _ _ _) (S := []) sh_28 (by decide) rfl (jrm_of hR rfl) rfl rfl (Nat.le_of_ble_eq_true rfl) (zdg dz_E_firstThatLeads_1 1 rfl) (fun r5 u6 => ?_)
      refine vf_if_eq C (off := 5) (tgt := 55) (zdg dz_E_firstThatLeads_1 2 rfl) (by decide) ?_ ?_
      · refine vf_iinc C (z := 1) (L' := [(0, (2, 1)), (1, (0, v1))]) (zdg dz_E_firstThatLeads_1 5 rfl) 3 rfl [1, 2] (jrI rfl rfl) hn (by decide) ?_
        generalize w32 (v2 + 1) = x7
        refine vf_ul ?_
        refine vf_goto C (off := (-56)) (tgt := 2) (zdg dz_E_firstThatLeads_1 6 rfl) (by decide) ?_
        exact vf_perm [1, 2, 0] rfl (ih _ _ _)
      · refine vf_iload_n C (f := 2) (zdg dz_E_firstThatLeads_1 3 rfl) 3 rfl rfl ?_
        exact hr _ _ _ _ (fun h => absurd h (by decide)) (zdg dz_E_firstThatLeads_1 4 rfl)
def f_E_firstThatLeads (v1 : Int) (w : Wd) : Option (Int × Wd) :=
  f_E_firstThatLeads_2 FU v1 0 w
theorem ct_E_firstThatLeads (v1 : Int) (w : Wd) : Ct y_E_firstThatLeads prog_1_method_56_code 4 (some .int) 4 0 [(2, 1), (0, v1)] w (f_E_firstThatLeads v1 w) := by
  refine ct_of (by decide +kernel) (Or.inl ⟨rfl, rfl⟩) (Nat.le_of_ble_eq_true rfl) ?_
  intro X Qf ad C hn hR hr
  unfold f_E_firstThatLeads
  show VF X Qf ad NF 0 0 w 0 [(0, (2, 1)), (1, (0, v1))] [] _
  refine vf_iconst C (z := 0) (zdg dz_E_firstThatLeads_0 0 rfl) (jz rfl) ?_
  refine vf_istore_n C (f := 2) (L' := [(0, (2, 1)), (1, (0, v1))]) (zdg dz_E_firstThatLeads_0 1 rfl) [0, 1] (jrI rfl rfl) hn (by decide) rfl ?_
  exact vf_perm [1, 2, 0] rfl (t_E_firstThatLeads_2 C hn hR hr FU _ _ _)
def f_E_tellFirstWeek (v1 : Int) (w : Wd) : Option (Int × Wd) :=
  jcall (f_M_gather (w 5 4) (w 5 8) w) fun r1 u2 =>
  jcall (f_E_firstThatLeads v1 u2) fun r3 u4 =>
  if r3 = (-1) then
    some (0, u4)
  else
    jcall (f_M_tellPairs r3 u4) fun r5 u6 =>
    some (0, u6)
theorem ct_E_tellFirstWeek (v1 : Int) (w : Wd) : Ct y_E_tellFirstWeek prog_1_method_55_code 3 none 19 9 [(2, 1), (0, v1)] w (f_E_tellFirstWeek v1 w) := by
  refine ct_of (by decide +kernel) (Or.inr (Or.inr (Or.inr ⟨rfl, rfl⟩))) (Nat.le_of_ble_eq_true rfl) ?_
  intro X Qf ad C hn hR hr
  unfold f_E_tellFirstWeek
  show VF X Qf ad NF 0 0 w 0 [(0, (2, 1)), (1, (0, v1))] [] _
  refine vf_aload_n C (f := 0) (zdg dz_E_tellFirstWeek_0 0 rfl) 0 rfl rfl ?_
  refine vf_getp C fl_E_61 sh_0 rfl (by decide) rfl (x := 25) rfl (zdg dz_E_tellFirstWeek_0 1 rfl) ?_
  refine vf_aload_n C (f := 0) (zdg dz_E_tellFirstWeek_0 2 rfl) 0 rfl rfl ?_
  refine vf_getp C fl_E_26 sh_0 rfl (by decide) rfl (x := 6) rfl (zdg dz_E_tellFirstWeek_0 3 rfl) ?_
  refine vf_aload_n C (f := 0) (zdg dz_E_tellFirstWeek_0 4 rfl) 0 rfl rfl ?_
  refine vf_getp C fl_E_26 sh_0 rfl (by decide) rfl (x := 6) rfl (zdg dz_E_tellFirstWeek_0 5 rfl) ?_
  refine vf_get C (kd := 0) fl_E_139 sh_5 rfl (by decide) rfl rfl (zdg dz_E_tellFirstWeek_0 6 rfl) ?_
  refine vf_aload_n C (f := 0) (zdg dz_E_tellFirstWeek_0 7 rfl) 0 rfl rfl ?_
  refine vf_getp C fl_E_26 sh_0 rfl (by decide) rfl (x := 6) rfl (zdg dz_E_tellFirstWeek_0 8 rfl) ?_
  refine vf_get C (kd := 0) fl_E_159 sh_5 rfl (by decide) rfl rfl (zdg dz_E_tellFirstWeek_0 9 rfl) ?_
  refine vf_callVv C cy_M_gather ml_E_223 rfl (ct_M_gather _ _ _) (S := []) sh_24 (by decide) rfl (jrm_of hR rfl) rfl rfl (Nat.le_of_ble_eq_true rfl) (zdg dz_E_tellFirstWeek_0 10 rfl) (fun r1 u2 => ?_)
  refine vf_aload_n C (f := 0) (zdg dz_E_tellFirstWeek_0 11 rfl) 0 rfl rfl ?_
  refine vf_iload_n C (f := 1) (zdg dz_E_tellFirstWeek_0 12 rfl) 1 rfl rfl ?_
  refine vf_callVi C cy_E_firstThatLeads ml_E_385 rfl (ct_E_firstThatLeads _ _) (S := []) sh_0 (by decide) rfl (jrm_of hR rfl) rfl rfl (Nat.le_of_ble_eq_true rfl) (zdg dz_E_tellFirstWeek_0 13 rfl) (fun r3 u4 => ?_)
  refine vf_istore_n C (f := 2) (L' := [(0, (2, 1))]) (zdg dz_E_tellFirstWeek_0 14 rfl) [0] (jrI rfl rfl) hn (by decide) rfl ?_
  refine vf_iload_n C (f := 2) (zdg dz_E_tellFirstWeek_0 15 rfl) 0 rfl rfl ?_
  refine vf_iconst C (z := (-1)) (zdg dz_E_tellFirstWeek_0 16 rfl) (jz rfl) ?_
  refine vf_icmp_eq C (off := 15) (tgt := 48) (zdg dz_E_tellFirstWeek_0 17 rfl) (by decide) ?_ ?_
  · exact hr _ _ _ _ (fun h => absurd h (by decide)) (zdg dz_E_tellFirstWeek_1 0 rfl)
  · refine vf_aload_n C (f := 0) (zdg dz_E_tellFirstWeek_0 18 rfl) 1 rfl rfl ?_
    refine vf_getp C fl_E_61 sh_0 rfl (by decide) rfl (x := 25) rfl (zdg dz_E_tellFirstWeek_0 19 rfl) ?_
    refine vf_iload_n C (f := 2) (zdg dz_E_tellFirstWeek_0 20 rfl) 0 rfl rfl ?_
    refine vf_aload_n C (f := 0) (zdg dz_E_tellFirstWeek_0 21 rfl) 1 rfl rfl ?_
    refine vf_getp C fl_E_19 sh_0 rfl (by decide) rfl (x := 4) rfl (zdg dz_E_tellFirstWeek_0 22 rfl) ?_
    refine vf_callVv C cy_M_tellPairs ml_E_240 rfl (ct_M_tellPairs _ _) (S := []) sh_24 (by decide) rfl (jrm_of hR rfl) rfl rfl (Nat.le_of_ble_eq_true rfl) (zdg dz_E_tellFirstWeek_0 23 rfl) (fun r5 u6 => ?_)
    exact hr _ _ _ _ (fun h => absurd h (by decide)) (zdg dz_E_tellFirstWeek_1 0 rfl)
def f_E_begin (w : Wd) : Option (Int × Wd) :=
  jcall (f_S_run w) fun r1 u2 =>
  if r1 = 0 then
    some ((-3), u2)
  else
    jcall (f_S_lastWeek 0 0 u2) fun r3 u4 =>
    if (0 : Int) < r3 then
      jcall (f_S_lookBack 0 (-1) u4) fun r5 u6 =>
      jcall (f_E_tellFirstWeek r3 u6) fun r7 u8 =>
      some (u8 3 1, u8)
    else
      some ((-2), u4)
theorem ct_E_begin (w : Wd) : Ct y_E_begin prog_1_method_26_code 2 (some .int) 21 0 [(2, 1)] w (f_E_begin w) := by
  refine ct_of (by decide +kernel) (Or.inl ⟨rfl, rfl⟩) (Nat.le_of_ble_eq_true rfl) ?_
  intro X Qf ad C hn hR hr
  unfold f_E_begin
  show VF X Qf ad NF 0 0 w 0 [(0, (2, 1))] [] _
  refine vf_aload_n C (f := 0) (zdg dz_E_begin_0 0 rfl) 0 rfl rfl ?_
  refine vf_getp C fl_E_68 sh_0 rfl (by decide) rfl (x := 29) rfl (zdg dz_E_begin_0 1 rfl) ?_
  refine vf_aload_n C (f := 0) (zdg dz_E_begin_0 2 rfl) 0 rfl rfl ?_
  refine vf_getp C fl_E_26 sh_0 rfl (by decide) rfl (x := 6) rfl (zdg dz_E_begin_0 3 rfl) ?_
  refine vf_aload_n C (f := 0) (zdg dz_E_begin_0 4 rfl) 0 rfl rfl ?_
  refine vf_getp C fl_E_61 sh_0 rfl (by decide) rfl (x := 25) rfl (zdg dz_E_begin_0 5 rfl) ?_
  refine vf_callVz C cy_S_run ml_E_256 rfl (ct_S_run _) (S := []) sh_28 (by decide) rfl (jrm_of hR rfl) rfl rfl (Nat.le_of_ble_eq_true rfl) (zdg dz_E_begin_0 6 rfl) (fun r1 u2 => ?_)
  refine vf_if_ne C (off := 6) (tgt := 21) (zdg dz_E_begin_0 7 rfl) (by decide) ?_ ?_
  · refine vf_aload_n C (f := 0) (zdg dz_E_begin_0 10 rfl) 0 rfl rfl ?_
    refine vf_getp C fl_E_68 sh_0 rfl (by decide) rfl (x := 29) rfl (zdg dz_E_begin_0 11 rfl) ?_
    refine vf_iconst C (z := 0) (zdg dz_E_begin_0 12 rfl) (jz rfl) ?_
    refine vf_iconst C (z := 0) (zdg dz_E_begin_0 13 rfl) (jz rfl) ?_
    refine vf_callVi C cy_S_lastWeek ml_E_296 rfl (ct_S_lastWeek _ _ _) (S := []) sh_28 (by decide) rfl (jrm_of hR rfl) rfl rfl (Nat.le_of_ble_eq_true rfl) (zdg dz_E_begin_0 14 rfl) (fun r3 u4 => ?_)
    refine vf_istore_n C (f := 1) (L' := [(0, (2, 1))]) (zdg dz_E_begin_0 15 rfl) [0] (jrI rfl rfl) hn (by decide) rfl ?_
    refine vf_iload_n C (f := 1) (zdg dz_E_begin_0 16 rfl) 0 rfl rfl ?_
    refine vf_if_gt C (off := 6) (tgt := 38) (zdg dz_E_begin_0 17 rfl) (by decide) ?_ ?_
    · refine vf_aload_n C (f := 0) (zdg dz_E_begin_0 20 rfl) 1 rfl rfl ?_
      refine vf_getp C fl_E_68 sh_0 rfl (by decide) rfl (x := 29) rfl (zdg dz_E_begin_0 21 rfl) ?_
      refine vf_aload_n C (f := 0) (zdg dz_E_begin_0 22 rfl) 1 rfl rfl ?_
      refine vf_getp C fl_E_26 sh_0 rfl (by decide) rfl (x := 6) rfl (zdg dz_E_begin_0 23 rfl) ?_
      refine vf_aload_n C (f := 0) (zdg dz_E_begin_1 0 rfl) 1 rfl rfl ?_
      refine vf_getp C fl_E_61 sh_0 rfl (by decide) rfl (x := 25) rfl (zdg dz_E_begin_1 1 rfl) ?_
      refine vf_iconst C (z := 0) (zdg dz_E_begin_1 2 rfl) (jz rfl) ?_
      refine vf_iconst C (z := (-1)) (zdg dz_E_begin_1 3 rfl) (jz rfl) ?_
      refine vf_callVv C cy_S_lookBack ml_E_299 rfl (ct_S_lookBack _ _ _) (S := []) sh_28 (by decide) rfl (jrm_of hR rfl) rfl rfl (Nat.le_of_ble_eq_true rfl) (zdg dz_E_begin_1 4 rfl) (fun r5 u6 => ?_)
      refine vf_aload_n C (f := 0) (zdg dz_E_begin_1 5 rfl) 1 rfl rfl ?_
      refine vf_iload_n C (f := 1) (zdg dz_E_begin_1 6 rfl) 0 rfl rfl ?_
      refine vf_callVv C cy_E_tellFirstWeek ml_E_303 rfl (ct_E_tellFirstWeek _ _) (S := []) sh_0 (by decide) rfl (jrm_of hR rfl) rfl rfl (Nat.le_of_ble_eq_true rfl) (zdg dz_E_begin_1 7 rfl) (fun r7 u8 => ?_)
      refine vf_aload_n C (f := 0) (zdg dz_E_begin_1 8 rfl) 1 rfl rfl ?_
      refine vf_getp C fl_E_19 sh_0 rfl (by decide) rfl (x := 4) rfl (zdg dz_E_begin_1 9 rfl) ?_
      refine vf_get C (kd := 0) fl_E_244 sh_3 rfl (by decide) rfl rfl (zdg dz_E_begin_1 10 rfl) ?_
      exact hr _ _ _ _ (fun h => absurd h (by decide)) (zdg dz_E_begin_1 11 rfl)
    · refine vf_bipush C (z := (-2)) (zdg dz_E_begin_0 18 rfl) (by decide +kernel) (jz rfl) ?_
      exact hr _ _ _ _ (fun h => absurd h (by decide)) (zdg dz_E_begin_0 19 rfl)
  · refine vf_bipush C (z := (-3)) (zdg dz_E_begin_0 8 rfl) (by decide +kernel) (jz rfl) ?_
    exact hr _ _ _ _ (fun h => absurd h (by decide)) (zdg dz_E_begin_0 9 rfl)
def f_E_cheap (v1 : Int) (w : Wd) : Option (Int × Wd) :=
  jcall (f_E_isWeek v1 w) fun r1 u2 =>
  if r1 = 0 then
    some ((-1), u2)
  else
    jcall (f_S_run u2) fun r3 u4 =>
    if r3 = 0 then
      some ((-3), u4)
    else
      jcall (f_S_leastPaid 0 v1 u4) fun r5 u6 =>
      if r5 = (-1) then
        some ((-2), u6)
      else
        if v1 = 0 then
          jcall (f_N_clear u6) fun r11 u12 =>
          some (r5, u12)
        else
          jcall (f_S_lookBack 0 r5 u6) fun r7 u8 =>
          jcall (f_E_tellFirstWeek v1 u8) fun r9 u10 =>
          some (r5, u10)
theorem ct_E_cheap (v1 : Int) (w : Wd) : Ct y_E_cheap prog_1_method_27_code 3 (some .int) 21 0 [(2, 1), (0, v1)] w (f_E_cheap v1 w) := by
  refine ct_of (by decide +kernel) (Or.inl ⟨rfl, rfl⟩) (Nat.le_of_ble_eq_true rfl) ?_
  intro X Qf ad C hn hR hr
  unfold f_E_cheap
  show VF X Qf ad NF 0 0 w 0 [(0, (2, 1)), (1, (0, v1))] [] _
  refine vf_iload_n C (f := 1) (zdg dz_E_cheap_0 0 rfl) 1 rfl rfl ?_
  refine vf_callSz C cy_E_isWeek ml_E_209 (ct_E_isWeek _ _) (S := []) (jrm_of hR rfl) rfl rfl (Nat.le_of_ble_eq_true rfl) (zdg dz_E_cheap_0 1 rfl) (fun r1 u2 => ?_)
  refine vf_if_ne C (off := 5) (tgt := 9) (zdg dz_E_cheap_0 2 rfl) (by decide) ?_ ?_
  · refine vf_aload_n C (f := 0) (zdg dz_E_cheap_0 5 rfl) 0 rfl rfl ?_
    refine vf_getp C fl_E_68 sh_0 rfl (by decide) rfl (x := 29) rfl (zdg dz_E_cheap_0 6 rfl) ?_
    refine vf_aload_n C (f := 0) (zdg dz_E_cheap_0 7 rfl) 0 rfl rfl ?_
    refine vf_getp C fl_E_26 sh_0 rfl (by decide) rfl (x := 6) rfl (zdg dz_E_cheap_0 8 rfl) ?_
    refine vf_aload_n C (f := 0) (zdg dz_E_cheap_0 9 rfl) 0 rfl rfl ?_
    refine vf_getp C fl_E_61 sh_0 rfl (by decide) rfl (x := 25) rfl (zdg dz_E_cheap_0 10 rfl) ?_
    refine vf_callVz C cy_S_run ml_E_256 rfl (ct_S_run _) (S := []) sh_28 (by decide) rfl (jrm_of hR rfl) rfl rfl (Nat.le_of_ble_eq_true rfl) (zdg dz_E_cheap_0 11 rfl) (fun r3 u4 => ?_)
    refine vf_if_ne C (off := 6) (tgt := 30) (zdg dz_E_cheap_0 12 rfl) (by decide) ?_ ?_
    · refine vf_aload_n C (f := 0) (zdg dz_E_cheap_0 15 rfl) 0 rfl rfl ?_
      refine vf_getp C fl_E_68 sh_0 rfl (by decide) rfl (x := 29) rfl (zdg dz_E_cheap_0 16 rfl) ?_
      refine vf_iconst C (z := 0) (zdg dz_E_cheap_0 17 rfl) (jz rfl) ?_
      refine vf_iload_n C (f := 1) (zdg dz_E_cheap_0 18 rfl) 1 rfl rfl ?_
      refine vf_aload_n C (f := 0) (zdg dz_E_cheap_0 19 rfl) 0 rfl rfl ?_
      refine vf_getp C fl_E_26 sh_0 rfl (by decide) rfl (x := 6) rfl (zdg dz_E_cheap_0 20 rfl) ?_
      refine vf_callVi C cy_S_leastPaid ml_E_292 rfl (ct_S_leastPaid _ _ _) (S := []) sh_28 (by decide) rfl (jrm_of hR rfl) rfl rfl (Nat.le_of_ble_eq_true rfl) (zdg dz_E_cheap_0 21 rfl) (fun r5 u6 => ?_)
      refine vf_istore_n C (f := 2) (L' := [(0, (2, 1)), (1, (0, v1))]) (zdg dz_E_cheap_0 22 rfl) [0, 1] (jrI rfl rfl) hn (by decide) rfl ?_
      refine vf_iload_n C (f := 2) (zdg dz_E_cheap_0 23 rfl) 0 rfl rfl ?_
      refine vf_iconst C (z := (-1)) (zdg dz_E_cheap_1 0 rfl) (jz rfl) ?_
      refine vf_icmp_ne C (off := 6) (tgt := 52) (zdg dz_E_cheap_1 1 rfl) (by decide) ?_ ?_
      · refine vf_iload_n C (f := 1) (zdg dz_E_cheap_1 4 rfl) 2 rfl rfl ?_
        refine vf_if_ne C (off := 12) (tgt := 65) (zdg dz_E_cheap_1 5 rfl) (by decide) ?_ ?_
        · refine vf_aload_n C (f := 0) (zdg dz_E_cheap_1 11 rfl) 1 rfl rfl ?_
          refine vf_getp C fl_E_68 sh_0 rfl (by decide) rfl (x := 29) rfl (zdg dz_E_cheap_1 12 rfl) ?_
          refine vf_aload_n C (f := 0) (zdg dz_E_cheap_1 13 rfl) 1 rfl rfl ?_
          refine vf_getp C fl_E_26 sh_0 rfl (by decide) rfl (x := 6) rfl (zdg dz_E_cheap_1 14 rfl) ?_
          refine vf_aload_n C (f := 0) (zdg dz_E_cheap_1 15 rfl) 1 rfl rfl ?_
          refine vf_getp C fl_E_61 sh_0 rfl (by decide) rfl (x := 25) rfl (zdg dz_E_cheap_1 16 rfl) ?_
          refine vf_iconst C (z := 0) (zdg dz_E_cheap_1 17 rfl) (jz rfl) ?_
          refine vf_iload_n C (f := 2) (zdg dz_E_cheap_1 18 rfl) 0 rfl rfl ?_
          refine vf_callVv C cy_S_lookBack ml_E_299 rfl (ct_S_lookBack _ _ _) (S := []) sh_28 (by decide) rfl (jrm_of hR rfl) rfl rfl (Nat.le_of_ble_eq_true rfl) (zdg dz_E_cheap_1 19 rfl) (fun r7 u8 => ?_)
          refine vf_aload_n C (f := 0) (zdg dz_E_cheap_1 20 rfl) 1 rfl rfl ?_
          refine vf_iload_n C (f := 1) (zdg dz_E_cheap_1 21 rfl) 2 rfl rfl ?_
          refine vf_callVv C cy_E_tellFirstWeek ml_E_303 rfl (ct_E_tellFirstWeek _ _) (S := []) sh_0 (by decide) rfl (jrm_of hR rfl) rfl rfl (Nat.le_of_ble_eq_true rfl) (zdg dz_E_cheap_1 22 rfl) (fun r9 u10 => ?_)
          refine vf_iload_n C (f := 2) (zdg dz_E_cheap_1 23 rfl) 0 rfl rfl ?_
          exact hr _ _ _ _ (fun h => absurd h (by decide)) (zdg dz_E_cheap_2 0 rfl)
        · refine vf_aload_n C (f := 0) (zdg dz_E_cheap_1 6 rfl) 1 rfl rfl ?_
          refine vf_getp C fl_E_19 sh_0 rfl (by decide) rfl (x := 4) rfl (zdg dz_E_cheap_1 7 rfl) ?_
          refine vf_callVv C cy_N_clear ml_E_306 rfl (ct_N_clear _) (S := []) sh_3 (by decide) rfl (jrm_of hR rfl) rfl rfl (Nat.le_of_ble_eq_true rfl) (zdg dz_E_cheap_1 8 rfl) (fun r11 u12 => ?_)
          refine vf_iload_n C (f := 2) (zdg dz_E_cheap_1 9 rfl) 0 rfl rfl ?_
          exact hr _ _ _ _ (fun h => absurd h (by decide)) (zdg dz_E_cheap_1 10 rfl)
      · refine vf_bipush C (z := (-2)) (zdg dz_E_cheap_1 2 rfl) (by decide +kernel) (jz rfl) ?_
        exact hr _ _ _ _ (fun h => absurd h (by decide)) (zdg dz_E_cheap_1 3 rfl)
    · refine vf_bipush C (z := (-3)) (zdg dz_E_cheap_0 13 rfl) (by decide +kernel) (jz rfl) ?_
      exact hr _ _ _ _ (fun h => absurd h (by decide)) (zdg dz_E_cheap_0 14 rfl)
  · refine vf_iconst C (z := (-1)) (zdg dz_E_cheap_0 3 rfl) (jz rfl) ?_
    exact hr _ _ _ _ (fun h => absurd h (by decide)) (zdg dz_E_cheap_0 4 rfl)
def f_M_gatherBehind_34 (v3 : Int) (w : Wd) : Option (Int × Wd) :=
  jcall (f_M_spread 16 0 v3 (-1) w) fun r3 u4 =>
  some (0, u4)
theorem t_M_gatherBehind_34 {X : jX} {Qf : Int × Wd → State → Prop} {ad : Nat → Nat} (C : Cx X prog_6_method_3_code "EachBringsAnother$Moves") (hn : xn X = 4) (hR : xR X = rmD 18) (hr : Rt X Qf ad prog_6_method_3_code 9) (v3 : Int) (w : Wd) : VF X Qf ad NF 0 0 w 34 [(0, (2, 25)), (3, (0, v3))] [] (f_M_gatherBehind_34 v3 w) := by
  unfold f_M_gatherBehind_34
  refine vf_aload_n C (f := 0) (zdg dz_M_gatherBehind_0 18 rfl) 0 rfl rfl ?_
  refine vf_iconst C (z := 0) (zdg dz_M_gatherBehind_0 19 rfl) (jz rfl) ?_
  refine vf_iload_n C (f := 3) (zdg dz_M_gatherBehind_0 20 rfl) 1 rfl rfl ?_
  refine vf_iconst C (z := (-1)) (zdg dz_M_gatherBehind_0 21 rfl) (jz rfl) ?_
  refine vf_callVv C cy_M_spread ml_M_31 rfl (ct_M_spread _ _ _ _) (S := []) sh_24 (by decide) rfl (jrm_of hR rfl) rfl rfl (Nat.le_of_ble_eq_true rfl) (zdg dz_M_gatherBehind_0 22 rfl) (fun r3 u4 => ?_)
  exact hr _ _ _ _ (fun h => absurd h (by decide)) (zdg dz_M_gatherBehind_0 23 rfl)
def f_M_gatherBehind (v2 v3 : Int) (w : Wd) : Option (Int × Wd) :=
  jcall (f_M_prepare (w 5 4) v2 (w 5 8) w) fun r1 u2 =>
  if v3 = 0 then
    f_M_gatherBehind_34 v3 u2
  else
    jcall (f_JI_bitCount (ior (u2 24 8) v3) u2) fun r5 u6 =>
    if (u6 24 9) < r5 then
      some (0, u6)
    else
      f_M_gatherBehind_34 v3 u6
theorem ct_M_gatherBehind (v2 v3 : Int) (w : Wd) : Ct y_M_gatherBehind prog_6_method_3_code 4 none 18 9 [(2, 25), (2, 6), (0, v2), (0, v3)] w (f_M_gatherBehind v2 v3 w) := by
  refine ct_of (by decide +kernel) (Or.inr (Or.inr (Or.inr ⟨rfl, rfl⟩))) (Nat.le_of_ble_eq_true rfl) ?_
  intro X Qf ad C hn hR hr
  unfold f_M_gatherBehind
  show VF X Qf ad NF 0 0 w 0 [(0, (2, 25)), (1, (2, 6)), (2, (0, v2)), (3, (0, v3))] [] _
  refine vf_aload_n C (f := 0) (zdg dz_M_gatherBehind_0 0 rfl) 0 rfl rfl ?_
  refine vf_aload_n C (f := 1) (zdg dz_M_gatherBehind_0 1 rfl) 1 rfl rfl ?_
  refine vf_aload_n C (f := 1) (zdg dz_M_gatherBehind_0 2 rfl) 1 rfl rfl ?_
  refine vf_get C (kd := 0) fl_M_35 sh_5 rfl (by decide) rfl rfl (zdg dz_M_gatherBehind_0 3 rfl) ?_
  refine vf_iload_n C (f := 2) (zdg dz_M_gatherBehind_0 4 rfl) 2 rfl rfl ?_
  refine vf_aload_n C (f := 1) (zdg dz_M_gatherBehind_0 5 rfl) 1 rfl rfl ?_
  refine vf_get C (kd := 0) fl_M_41 sh_5 rfl (by decide) rfl rfl (zdg dz_M_gatherBehind_0 6 rfl) ?_
  refine vf_callVv C cy_M_prepare ml_M_27 rfl (ct_M_prepare _ _ _ _) (S := []) sh_24 (by decide) rfl (jrm_of hR rfl) rfl rfl (Nat.le_of_ble_eq_true rfl) (zdg dz_M_gatherBehind_0 7 rfl) (fun r1 u2 => ?_)
  refine vf_iload_n C (f := 3) (zdg dz_M_gatherBehind_0 8 rfl) 3 rfl rfl ?_
  refine vf_if_eq C (off := 19) (tgt := 34) (zdg dz_M_gatherBehind_0 9 rfl) (by decide) ?_ ?_
  · exact vf_perm [0, 3] rfl (t_M_gatherBehind_34 C hn hR hr _ _)
  · refine vf_aload_n C (f := 0) (zdg dz_M_gatherBehind_0 10 rfl) 0 rfl rfl ?_
    refine vf_get C (kd := 0) fl_M_44 sh_24 rfl (by decide) rfl rfl (zdg dz_M_gatherBehind_0 11 rfl) ?_
    refine vf_iload_n C (f := 3) (zdg dz_M_gatherBehind_0 12 rfl) 3 rfl rfl ?_
    refine vf_ior C (zdg dz_M_gatherBehind_0 13 rfl) ?_
    refine vf_callSi C cy_JI_bitCount ml_M_47 (ct_JI_bitCount _ _) (S := []) (jrm_of hR rfl) rfl rfl (Nat.le_of_ble_eq_true rfl) (zdg dz_M_gatherBehind_0 14 rfl) (fun r5 u6 => ?_)
    refine vf_aload_n C (f := 0) (zdg dz_M_gatherBehind_0 15 rfl) 0 rfl rfl ?_
    refine vf_get C (kd := 0) fl_M_52 sh_24 rfl (by decide) rfl rfl (zdg dz_M_gatherBehind_0 16 rfl) ?_
    refine vf_icmp_gt C (off := 10) (tgt := 41) (zdg dz_M_gatherBehind_0 17 rfl) (by decide) ?_ ?_
    · exact hr _ _ _ _ (fun h => absurd h (by decide)) (zdg dz_M_gatherBehind_0 23 rfl)
    · exact vf_perm [0, 3] rfl (t_M_gatherBehind_34 C hn hR hr _ _)
def f_E_firstToBring_111 (k41 : Int → Int → Int → Int → Wd → Option (Int × Wd)) (v1 v2 v3 v4 : Int) (w : Wd) : Option (Int × Wd) :=
  jlet (w32 (v4 + 1)) fun x14 =>
  k41 v1 v2 v3 x14 w
theorem t_E_firstToBring_111 {X : jX} {Qf : Int × Wd → State → Prop} {ad : Nat → Nat} (C : Cx X prog_1_method_57_code "EachBringsAnother") (hn : xn X = 5) (hR : xR X = rmD 19) (hr : Rt X Qf ad prog_1_method_57_code 0) {k41 : Int → Int → Int → Int → Wd → Option (Int × Wd)} (hk41 : ∀ (v1 v2 v3 v4 : Int) (w : Wd), VF X Qf ad NF 0 0 w 41 [(0, (2, 1)), (1, (0, v1)), (2, (0, v2)), (3, (0, v3)), (4, (0, v4))] [] (k41 v1 v2 v3 v4 w)) (v1 v2 v3 v4 : Int) (w : Wd) : VF X Qf ad NF 0 0 w 111 [(0, (2, 1)), (1, (0, v1)), (2, (0, v2)), (3, (0, v3)), (4, (0, v4))] [] (f_E_firstToBring_111 k41 v1 v2 v3 v4 w) := by
  unfold f_E_firstToBring_111
  refine vf_iinc C (z := 1) (L' := [(0, (2, 1)), (1, (0, v1)), (2, (0, v2)), (3, (0, v3))]) (zdg dz_E_firstToBring_2 16 rfl) 4 rfl [0, 1, 2, 3] (jrI rfl rfl) hn (by decide) ?_
  generalize w32 (v4 + 1) = x14
  refine vf_ul ?_
  refine vf_goto C (off := (-73)) (tgt := 41) (zdg dz_E_firstToBring_2 17 rfl) (by decide) ?_
  exact vf_perm [1, 2, 3, 4, 0] rfl (hk41 _ _ _ _ _)
def f_E_firstToBring_41 : Nat → Int → Int → Int → Int → Wd → Option (Int × Wd)
  | 0, _, _, _, _, _ => none
  | n + 1, v1, v2, v3, v4, w =>
    if (w 5 3) ≤ v4 then
      some ((-1), w)
    else
      jcall (f_F_knownBy (ishl 1 v1) w) fun r8 u9 =>
      jcall (f_F_free u9) fun r10 u11 =>
      jcall (f_E_has (iand r8 r10) v4 u11) fun r12 u13 =>
      if r12 = 0 then
        f_E_firstToBring_111 (f_E_firstToBring_41 n) v1 v2 v3 v4 u13
      else
        jcall (f_M_gatherBehind v3 (ior (ishl 1 v1) (ishl 1 v4)) u13) fun r15 u16 =>
        jcall (f_E_firstThatLeads v2 u16) fun r17 u18 =>
        if r17 = (-1) then
          f_E_firstToBring_111 (f_E_firstToBring_41 n) v1 v2 v3 v4 u18
        else
          some (v4, u18)
theorem t_E_firstToBring_41 {X : jX} {Qf : Int × Wd → State → Prop} {ad : Nat → Nat} (C : Cx X prog_1_method_57_code "EachBringsAnother") (hn : xn X = 5) (hR : xR X = rmD 19) (hr : Rt X Qf ad prog_1_method_57_code 0) : ∀ (n : Nat) (v1 v2 v3 v4 : Int) (w : Wd), VF X Qf ad NF 0 0 w 41 [(0, (2, 1)), (1, (0, v1)), (2, (0, v2)), (3, (0, v3)), (4, (0, v4))] [] (f_E_firstToBring_41 n v1 v2 v3 v4 w) := by
  intro n
  induction n with
  | zero => intros; exact vf_no
  | succ n ih =>
    intro v1 v2 v3 v4 w
    rw [f_E_firstToBring_41]
    refine vf_iload C (zdg dz_E_firstToBring_1 2 rfl) 4 rfl ?_
    refine vf_aload_n C (f := 0) (zdg dz_E_firstToBring_1 3 rfl) 0 rfl rfl ?_
    refine vf_getp C fl_E_26 sh_0 rfl (by decide) rfl (x := 6) rfl (zdg dz_E_firstToBring_1 4 rfl) ?_
    refine vf_get C (kd := 0) fl_E_87 sh_5 rfl (by decide) rfl rfl (zdg dz_E_firstToBring_1 5 rfl) ?_
    refine vf_icmp_ge C (off := 67) (tgt := 117) (zdg dz_E_firstToBring_1 6 rfl) (by decide) ?_ ?_
    · refine vf_iconst C (z := (-1)) (zdg dz_E_firstToBring_2 18 rfl) (jz rfl) ?_
      exact hr _ _ _ _ (fun h => absurd h (by decide)) (zdg dz_E_firstToBring_2 19 rfl)
    · refine vf_aload_n C (f := 0) (zdg dz_E_firstToBring_1 7 rfl) 0 rfl rfl ?_
      refine vf_getp C fl_E_26 sh_0 rfl (by decide) rfl (x := 6) rfl (zdg dz_E_firstToBring_1 8 rfl) ?_
      refine vf_iconst C (z := 1) (zdg dz_E_firstToBring_1 9 rfl) (jz rfl) ?_
      refine vf_iload_n C (f := 1) (zdg dz_E_firstToBring_1 10 rfl) 1 rfl rfl ?_
      refine vf_ishl C (zdg dz_E_firstToBring_1 11 rfl) ?_
      refine vf_callVi C cy_F_knownBy ml_E_250 rfl (ct_F_knownBy _ _) (S := []) sh_5 (by decide) rfl (jrm_of hR rfl) rfl rfl (Nat.le_of_ble_eq_true rfl) (zdg dz_E_firstToBring_1 12 rfl) (fun r8 u9 => ?_)
      refine vf_aload_n C (f := 0) (zdg dz_E_firstToBring_1 13 rfl) 0 rfl rfl ?_
      refine vf_getp C fl_E_26 sh_0 rfl (by decide) rfl (x := 6) rfl (zdg dz_E_firstToBring_1 14 rfl) ?_
      refine vf_callVi C cy_F_free ml_E_253 rfl (ct_F_free _) (S := [(0, r8)]) sh_5 (by decide) rfl (jrm_of hR rfl) rfl rfl (Nat.le_of_ble_eq_true rfl) (zdg dz_E_firstToBring_1 15 rfl) (fun r10 u11 => ?_)
      refine vf_iand C (zdg dz_E_firstToBring_1 16 rfl) ?_
      refine vf_iload C (zdg dz_E_firstToBring_1 17 rfl) 4 rfl ?_
      refine vf_callSz C cy_E_has ml_E_128 (ct_E_has _ _ _) (S := []) (jrm_of hR rfl) rfl rfl (Nat.le_of_ble_eq_true rfl) (zdg dz_E_firstToBring_1 18 rfl) (fun r12 u13 => ?_)
      refine vf_if_eq C (off := 35) (tgt := 111) (zdg dz_E_firstToBring_1 19 rfl) (by decide) ?_ ?_
      · exact t_E_firstToBring_111 C hn hR hr ih _ _ _ _ _
      · refine vf_aload_n C (f := 0) (zdg dz_E_firstToBring_1 20 rfl) 0 rfl rfl ?_
        refine vf_getp C fl_E_61 sh_0 rfl (by decide) rfl (x := 25) rfl (zdg dz_E_firstToBring_1 21 rfl) ?_
        refine vf_aload_n C (f := 0) (zdg dz_E_firstToBring_1 22 rfl) 0 rfl rfl ?_
        refine vf_getp C fl_E_26 sh_0 rfl (by decide) rfl (x := 6) rfl (zdg dz_E_firstToBring_1 23 rfl) ?_
        refine vf_iload_n C (f := 3) (zdg dz_E_firstToBring_2 0 rfl) 3 rfl rfl ?_
        refine vf_iconst C (z := 1) (zdg dz_E_firstToBring_2 1 rfl) (jz rfl) ?_
        refine vf_iload_n C (f := 1) (zdg dz_E_firstToBring_2 2 rfl) 1 rfl rfl ?_
        refine vf_ishl C (zdg dz_E_firstToBring_2 3 rfl) ?_
        refine vf_iconst C (z := 1) (zdg dz_E_firstToBring_2 4 rfl) (jz rfl) ?_
        refine vf_iload C (zdg dz_E_firstToBring_2 5 rfl) 4 rfl ?_
        refine vf_ishl C (zdg dz_E_firstToBring_2 6 rfl) ?_
        refine vf_ior C (zdg dz_E_firstToBring_2 7 rfl) ?_
        refine vf_callVv C cy_M_gatherBehind ml_E_391 rfl (ct_M_gatherBehind _ _ _) (S := []) sh_24 (by decide) rfl (jrm_of hR rfl) rfl rfl (Nat.le_of_ble_eq_true rfl) (zdg dz_E_firstToBring_2 8 rfl) (fun r15 u16 => ?_)
        refine vf_aload_n C (f := 0) (zdg dz_E_firstToBring_2 9 rfl) 0 rfl rfl ?_
        refine vf_iload_n C (f := 2) (zdg dz_E_firstToBring_2 10 rfl) 2 rfl rfl ?_
        refine vf_callVi C cy_E_firstThatLeads ml_E_385 rfl (ct_E_firstThatLeads _ _) (S := []) sh_0 (by decide) rfl (jrm_of hR rfl) rfl rfl (Nat.le_of_ble_eq_true rfl) (zdg dz_E_firstToBring_2 11 rfl) (fun r17 u18 => ?_)
        refine vf_iconst C (z := (-1)) (zdg dz_E_firstToBring_2 12 rfl) (jz rfl) ?_
        refine vf_icmp_eq C (off := 6) (tgt := 111) (zdg dz_E_firstToBring_2 13 rfl) (by decide) ?_ ?_
        · exact t_E_firstToBring_111 C hn hR hr ih _ _ _ _ _
        · refine vf_iload C (zdg dz_E_firstToBring_2 14 rfl) 4 rfl ?_
          exact hr _ _ _ _ (fun h => absurd h (by decide)) (zdg dz_E_firstToBring_2 15 rfl)
def f_E_firstToBring (v1 v2 : Int) (w : Wd) : Option (Int × Wd) :=
  jcall (f_F_guests w) fun r1 u2 =>
  jlet (iand r1 (ixor (ishl 1 v1) (-1))) fun x3 =>
  jcall (f_M_gatherBehind x3 0 u2) fun r4 u5 =>
  jcall (f_E_firstThatLeads v2 u5) fun r6 u7 =>
  if r6 = (-1) then
    f_E_firstToBring_41 FU v1 v2 x3 0 u7
  else
    some ((-1), u7)
theorem ct_E_firstToBring (v1 v2 : Int) (w : Wd) : Ct y_E_firstToBring prog_1_method_57_code 5 (some .int) 19 0 [(2, 1), (0, v1), (0, v2)] w (f_E_firstToBring v1 v2 w) := by
  refine ct_of (by decide +kernel) (Or.inl ⟨rfl, rfl⟩) (Nat.le_of_ble_eq_true rfl) ?_
  intro X Qf ad C hn hR hr
  unfold f_E_firstToBring
  show VF X Qf ad NF 0 0 w 0 [(0, (2, 1)), (1, (0, v1)), (2, (0, v2))] [] _
  refine vf_aload_n C (f := 0) (zdg dz_E_firstToBring_0 0 rfl) 0 rfl rfl ?_
  refine vf_getp C fl_E_26 sh_0 rfl (by decide) rfl (x := 6) rfl (zdg dz_E_firstToBring_0 1 rfl) ?_
  refine vf_callVi C cy_F_guests ml_E_136 rfl (ct_F_guests _) (S := []) sh_5 (by decide) rfl (jrm_of hR rfl) rfl rfl (Nat.le_of_ble_eq_true rfl) (zdg dz_E_firstToBring_0 2 rfl) (fun r1 u2 => ?_)
  refine vf_iconst C (z := 1) (zdg dz_E_firstToBring_0 3 rfl) (jz rfl) ?_
  refine vf_iload_n C (f := 1) (zdg dz_E_firstToBring_0 4 rfl) 1 rfl rfl ?_
  refine vf_ishl C (zdg dz_E_firstToBring_0 5 rfl) ?_
  refine vf_iconst C (z := (-1)) (zdg dz_E_firstToBring_0 6 rfl) (jz rfl) ?_
  refine vf_ixor C (zdg dz_E_firstToBring_0 7 rfl) ?_
  refine vf_iand C (zdg dz_E_firstToBring_0 8 rfl) ?_
  generalize iand r1 (ixor (ishl 1 v1) (-1)) = x3
  refine vf_ul ?_
  refine vf_istore_n C (f := 3) (L' := [(0, (2, 1)), (1, (0, v1)), (2, (0, v2))]) (zdg dz_E_firstToBring_0 9 rfl) [0, 1, 2] (jrI rfl rfl) hn (by decide) rfl ?_
  refine vf_aload_n C (f := 0) (zdg dz_E_firstToBring_0 10 rfl) 1 rfl rfl ?_
  refine vf_getp C fl_E_61 sh_0 rfl (by decide) rfl (x := 25) rfl (zdg dz_E_firstToBring_0 11 rfl) ?_
  refine vf_aload_n C (f := 0) (zdg dz_E_firstToBring_0 12 rfl) 1 rfl rfl ?_
  refine vf_getp C fl_E_26 sh_0 rfl (by decide) rfl (x := 6) rfl (zdg dz_E_firstToBring_0 13 rfl) ?_
  refine vf_iload_n C (f := 3) (zdg dz_E_firstToBring_0 14 rfl) 0 rfl rfl ?_
  refine vf_iconst C (z := 0) (zdg dz_E_firstToBring_0 15 rfl) (jz rfl) ?_
  refine vf_callVv C cy_M_gatherBehind ml_E_391 rfl (ct_M_gatherBehind _ _ _) (S := []) sh_24 (by decide) rfl (jrm_of hR rfl) rfl rfl (Nat.le_of_ble_eq_true rfl) (zdg dz_E_firstToBring_0 16 rfl) (fun r4 u5 => ?_)
  refine vf_aload_n C (f := 0) (zdg dz_E_firstToBring_0 17 rfl) 1 rfl rfl ?_
  refine vf_iload_n C (f := 2) (zdg dz_E_firstToBring_0 18 rfl) 3 rfl rfl ?_
  refine vf_callVi C cy_E_firstThatLeads ml_E_385 rfl (ct_E_firstThatLeads _ _) (S := []) sh_0 (by decide) rfl (jrm_of hR rfl) rfl rfl (Nat.le_of_ble_eq_true rfl) (zdg dz_E_firstToBring_0 19 rfl) (fun r6 u7 => ?_)
  refine vf_iconst C (z := (-1)) (zdg dz_E_firstToBring_0 20 rfl) (jz rfl) ?_
  refine vf_icmp_eq C (off := 5) (tgt := 38) (zdg dz_E_firstToBring_0 21 rfl) (by decide) ?_ ?_
  · refine vf_iconst C (z := 0) (zdg dz_E_firstToBring_1 0 rfl) (jz rfl) ?_
    refine vf_istore C (i := 4) (L' := [(3, (0, x3)), (0, (2, 1)), (1, (0, v1)), (2, (0, v2))]) (zdg dz_E_firstToBring_1 1 rfl) [0, 1, 2, 3] (jrI rfl rfl) hn (by decide) ?_
    exact vf_perm [2, 3, 4, 1, 0] rfl (t_E_firstToBring_41 C hn hR hr FU _ _ _ _ _)
  · refine vf_iconst C (z := (-1)) (zdg dz_E_firstToBring_0 22 rfl) (jz rfl) ?_
    exact hr _ _ _ _ (fun h => absurd h (by decide)) (zdg dz_E_firstToBring_0 23 rfl)
def f_E_stays_95 (v2 v3 : Int) (w : Wd) : Option (Int × Wd) :=
  jcall (f_N_tell1 v3 w) fun r11 u12 =>
  some (v2, u12)
theorem t_E_stays_95 {X : jX} {Qf : Int × Wd → State → Prop} {ad : Nat → Nat} (C : Cx X prog_1_method_28_code "EachBringsAnother") (hn : xn X = 4) (hR : xR X = rmD 21) (hr : Rt X Qf ad prog_1_method_28_code 0) (v2 v3 : Int) (w : Wd) : VF X Qf ad NF 0 0 w 95 [(0, (2, 1)), (2, (0, v2)), (3, (0, v3))] [] (f_E_stays_95 v2 v3 w) := by
  unfold f_E_stays_95
  refine vf_aload_n C (f := 0) (zdg dz_E_stays_2 5 rfl) 0 rfl rfl ?_
  refine vf_getp C fl_E_19 sh_0 rfl (by decide) rfl (x := 4) rfl (zdg dz_E_stays_2 6 rfl) ?_
  refine vf_iload_n C (f := 3) (zdg dz_E_stays_2 7 rfl) 2 rfl rfl ?_
  refine vf_callVv C cy_N_tell1 ml_E_231 rfl (ct_N_tell1 _ _) (S := []) sh_3 (by decide) rfl (jrm_of hR rfl) rfl rfl (Nat.le_of_ble_eq_true rfl) (zdg dz_E_stays_2 8 rfl) (fun r11 u12 => ?_)
  refine vf_iload_n C (f := 2) (zdg dz_E_stays_2 9 rfl) 1 rfl rfl ?_
  exact hr _ _ _ _ (fun h => absurd h (by decide)) (zdg dz_E_stays_2 10 rfl)
def f_E_stays (v1 : Int) (w : Wd) : Option (Int × Wd) :=
  jcall (f_F_isThere v1 w) fun r1 u2 =>
  if r1 = 0 then
    some ((-1), u2)
  else
    jcall (f_S_run u2) fun r3 u4 =>
    if r3 = 0 then
      some ((-3), u4)
    else
      jcall (f_F_guests u4) fun r5 u6 =>
      jcall (f_E_has r5 v1 u6) fun r7 u8 =>
      if r7 = 0 then
        some ((-2), u8)
      else
        jcall (f_S_lastWeek (ishl 1 v1) 0 u8) fun r9 u10 =>
        if r9 ≤ 0 then
          f_E_stays_95 r9 (-1) u10
        else
          jcall (f_S_lookBack (ishl 1 v1) (-1) u10) fun r13 u14 =>
          jcall (f_E_firstToBring v1 r9 u14) fun r15 u16 =>
          f_E_stays_95 r9 r15 u16
theorem ct_E_stays (v1 : Int) (w : Wd) : Ct y_E_stays prog_1_method_28_code 4 (some .int) 21 0 [(2, 1), (0, v1)] w (f_E_stays v1 w) := by
  refine ct_of (by decide +kernel) (Or.inl ⟨rfl, rfl⟩) (Nat.le_of_ble_eq_true rfl) ?_
  intro X Qf ad C hn hR hr
  unfold f_E_stays
  show VF X Qf ad NF 0 0 w 0 [(0, (2, 1)), (1, (0, v1))] [] _
  refine vf_aload_n C (f := 0) (zdg dz_E_stays_0 0 rfl) 0 rfl rfl ?_
  refine vf_getp C fl_E_26 sh_0 rfl (by decide) rfl (x := 6) rfl (zdg dz_E_stays_0 1 rfl) ?_
  refine vf_iload_n C (f := 1) (zdg dz_E_stays_0 2 rfl) 1 rfl rfl ?_
  refine vf_callVz C cy_F_isThere ml_E_108 rfl (ct_F_isThere _ _) (S := []) sh_5 (by decide) rfl (jrm_of hR rfl) rfl rfl (Nat.le_of_ble_eq_true rfl) (zdg dz_E_stays_0 3 rfl) (fun r1 u2 => ?_)
  refine vf_if_ne C (off := 5) (tgt := 13) (zdg dz_E_stays_0 4 rfl) (by decide) ?_ ?_
  · refine vf_aload_n C (f := 0) (zdg dz_E_stays_0 7 rfl) 0 rfl rfl ?_
    refine vf_getp C fl_E_68 sh_0 rfl (by decide) rfl (x := 29) rfl (zdg dz_E_stays_0 8 rfl) ?_
    refine vf_aload_n C (f := 0) (zdg dz_E_stays_0 9 rfl) 0 rfl rfl ?_
    refine vf_getp C fl_E_26 sh_0 rfl (by decide) rfl (x := 6) rfl (zdg dz_E_stays_0 10 rfl) ?_
    refine vf_aload_n C (f := 0) (zdg dz_E_stays_0 11 rfl) 0 rfl rfl ?_
    refine vf_getp C fl_E_61 sh_0 rfl (by decide) rfl (x := 25) rfl (zdg dz_E_stays_0 12 rfl) ?_
    refine vf_callVz C cy_S_run ml_E_256 rfl (ct_S_run _) (S := []) sh_28 (by decide) rfl (jrm_of hR rfl) rfl rfl (Nat.le_of_ble_eq_true rfl) (zdg dz_E_stays_0 13 rfl) (fun r3 u4 => ?_)
    refine vf_if_ne C (off := 6) (tgt := 34) (zdg dz_E_stays_0 14 rfl) (by decide) ?_ ?_
    · refine vf_aload_n C (f := 0) (zdg dz_E_stays_0 17 rfl) 0 rfl rfl ?_
      refine vf_getp C fl_E_26 sh_0 rfl (by decide) rfl (x := 6) rfl (zdg dz_E_stays_0 18 rfl) ?_
      refine vf_callVi C cy_F_guests ml_E_136 rfl (ct_F_guests _) (S := []) sh_5 (by decide) rfl (jrm_of hR rfl) rfl rfl (Nat.le_of_ble_eq_true rfl) (zdg dz_E_stays_0 19 rfl) (fun r5 u6 => ?_)
      refine vf_iload_n C (f := 1) (zdg dz_E_stays_0 20 rfl) 1 rfl rfl ?_
      refine vf_callSz C cy_E_has ml_E_128 (ct_E_has _ _ _) (S := []) (jrm_of hR rfl) rfl rfl (Nat.le_of_ble_eq_true rfl) (zdg dz_E_stays_0 21 rfl) (fun r7 u8 => ?_)
      refine vf_if_ne C (off := 6) (tgt := 51) (zdg dz_E_stays_0 22 rfl) (by decide) ?_ ?_
      · refine vf_aload_n C (f := 0) (zdg dz_E_stays_1 1 rfl) 0 rfl rfl ?_
        refine vf_getp C fl_E_68 sh_0 rfl (by decide) rfl (x := 29) rfl (zdg dz_E_stays_1 2 rfl) ?_
        refine vf_iconst C (z := 1) (zdg dz_E_stays_1 3 rfl) (jz rfl) ?_
        refine vf_iload_n C (f := 1) (zdg dz_E_stays_1 4 rfl) 1 rfl rfl ?_
        refine vf_ishl C (zdg dz_E_stays_1 5 rfl) ?_
        refine vf_iconst C (z := 0) (zdg dz_E_stays_1 6 rfl) (jz rfl) ?_
        refine vf_callVi C cy_S_lastWeek ml_E_296 rfl (ct_S_lastWeek _ _ _) (S := []) sh_28 (by decide) rfl (jrm_of hR rfl) rfl rfl (Nat.le_of_ble_eq_true rfl) (zdg dz_E_stays_1 7 rfl) (fun r9 u10 => ?_)
        refine vf_istore_n C (f := 2) (L' := [(0, (2, 1)), (1, (0, v1))]) (zdg dz_E_stays_1 8 rfl) [0, 1] (jrI rfl rfl) hn (by decide) rfl ?_
        refine vf_iconst C (z := (-1)) (zdg dz_E_stays_1 9 rfl) (jz rfl) ?_
        refine vf_istore_n C (f := 3) (L' := [(2, (0, r9)), (0, (2, 1)), (1, (0, v1))]) (zdg dz_E_stays_1 10 rfl) [0, 1, 2] (jrI rfl rfl) hn (by decide) rfl ?_
        refine vf_iload_n C (f := 2) (zdg dz_E_stays_1 11 rfl) 1 rfl rfl ?_
        refine vf_if_le C (off := 29) (tgt := 95) (zdg dz_E_stays_1 12 rfl) (by decide) ?_ ?_
        · exact vf_perm [2, 1, 0] rfl (t_E_stays_95 C hn hR hr _ _ _)
        · refine vf_aload_n C (f := 0) (zdg dz_E_stays_1 13 rfl) 2 rfl rfl ?_
          refine vf_getp C fl_E_68 sh_0 rfl (by decide) rfl (x := 29) rfl (zdg dz_E_stays_1 14 rfl) ?_
          refine vf_aload_n C (f := 0) (zdg dz_E_stays_1 15 rfl) 2 rfl rfl ?_
          refine vf_getp C fl_E_26 sh_0 rfl (by decide) rfl (x := 6) rfl (zdg dz_E_stays_1 16 rfl) ?_
          refine vf_aload_n C (f := 0) (zdg dz_E_stays_1 17 rfl) 2 rfl rfl ?_
          refine vf_getp C fl_E_61 sh_0 rfl (by decide) rfl (x := 25) rfl (zdg dz_E_stays_1 18 rfl) ?_
          refine vf_iconst C (z := 1) (zdg dz_E_stays_1 19 rfl) (jz rfl) ?_
          refine vf_iload_n C (f := 1) (zdg dz_E_stays_1 20 rfl) 3 rfl rfl ?_
          refine vf_ishl C (zdg dz_E_stays_1 21 rfl) ?_
          refine vf_iconst C (z := (-1)) (zdg dz_E_stays_1 22 rfl) (jz rfl) ?_
          refine vf_callVv C cy_S_lookBack ml_E_299 rfl (ct_S_lookBack _ _ _) (S := []) sh_28 (by decide) rfl (jrm_of hR rfl) rfl rfl (Nat.le_of_ble_eq_true rfl) (zdg dz_E_stays_1 23 rfl) (fun r13 u14 => ?_)
          refine vf_aload_n C (f := 0) (zdg dz_E_stays_2 0 rfl) 2 rfl rfl ?_
          refine vf_iload_n C (f := 1) (zdg dz_E_stays_2 1 rfl) 3 rfl rfl ?_
          refine vf_iload_n C (f := 2) (zdg dz_E_stays_2 2 rfl) 1 rfl rfl ?_
          refine vf_callVi C cy_E_firstToBring ml_E_307 rfl (ct_E_firstToBring _ _ _) (S := []) sh_0 (by decide) rfl (jrm_of hR rfl) rfl rfl (Nat.le_of_ble_eq_true rfl) (zdg dz_E_stays_2 3 rfl) (fun r15 u16 => ?_)
          refine vf_istore_n C (f := 3) (L' := [(2, (0, r9)), (0, (2, 1))]) (zdg dz_E_stays_2 4 rfl) [1, 2] (jrI rfl rfl) hn (by decide) rfl ?_
          exact vf_perm [2, 1, 0] rfl (t_E_stays_95 C hn hR hr _ _ _)
      · refine vf_bipush C (z := (-2)) (zdg dz_E_stays_0 23 rfl) (by decide +kernel) (jz rfl) ?_
        exact hr _ _ _ _ (fun h => absurd h (by decide)) (zdg dz_E_stays_1 0 rfl)
    · refine vf_bipush C (z := (-3)) (zdg dz_E_stays_0 15 rfl) (by decide +kernel) (jz rfl) ?_
      exact hr _ _ _ _ (fun h => absurd h (by decide)) (zdg dz_E_stays_0 16 rfl)
  · refine vf_iconst C (z := (-1)) (zdg dz_E_stays_0 5 rfl) (jz rfl) ?_
    exact hr _ _ _ _ (fun h => absurd h (by decide)) (zdg dz_E_stays_0 6 rfl)
def f_E_soonest (v1 : Int) (w : Wd) : Option (Int × Wd) :=
  jcall (f_F_isThere v1 w) fun r1 u2 =>
  if r1 = 0 then
    some ((-1), u2)
  else
    jcall (f_S_run u2) fun r3 u4 =>
    if r3 = 0 then
      some ((-3), u4)
    else
      jcall (f_S_weeksWith (ishl 1 v1) 0 u4) fun r5 u6 =>
      jcall (f_E_firstWeek r5 u6) fun r7 u8 =>
      if r7 = (-1) then
        some ((-2), u8)
      else
        some (r7, u8)
theorem ct_E_soonest (v1 : Int) (w : Wd) : Ct y_E_soonest prog_1_method_29_code 3 (some .int) 21 0 [(2, 1), (0, v1)] w (f_E_soonest v1 w) := by
  refine ct_of (by decide +kernel) (Or.inl ⟨rfl, rfl⟩) (Nat.le_of_ble_eq_true rfl) ?_
  intro X Qf ad C hn hR hr
  unfold f_E_soonest
  show VF X Qf ad NF 0 0 w 0 [(0, (2, 1)), (1, (0, v1))] [] _
  refine vf_aload_n C (f := 0) (zdg dz_E_soonest_0 0 rfl) 0 rfl rfl ?_
  refine vf_getp C fl_E_26 sh_0 rfl (by decide) rfl (x := 6) rfl (zdg dz_E_soonest_0 1 rfl) ?_
  refine vf_iload_n C (f := 1) (zdg dz_E_soonest_0 2 rfl) 1 rfl rfl ?_
  refine vf_callVz C cy_F_isThere ml_E_108 rfl (ct_F_isThere _ _) (S := []) sh_5 (by decide) rfl (jrm_of hR rfl) rfl rfl (Nat.le_of_ble_eq_true rfl) (zdg dz_E_soonest_0 3 rfl) (fun r1 u2 => ?_)
  refine vf_if_ne C (off := 5) (tgt := 13) (zdg dz_E_soonest_0 4 rfl) (by decide) ?_ ?_
  · refine vf_aload_n C (f := 0) (zdg dz_E_soonest_0 7 rfl) 0 rfl rfl ?_
    refine vf_getp C fl_E_68 sh_0 rfl (by decide) rfl (x := 29) rfl (zdg dz_E_soonest_0 8 rfl) ?_
    refine vf_aload_n C (f := 0) (zdg dz_E_soonest_0 9 rfl) 0 rfl rfl ?_
    refine vf_getp C fl_E_26 sh_0 rfl (by decide) rfl (x := 6) rfl (zdg dz_E_soonest_0 10 rfl) ?_
    refine vf_aload_n C (f := 0) (zdg dz_E_soonest_0 11 rfl) 0 rfl rfl ?_
    refine vf_getp C fl_E_61 sh_0 rfl (by decide) rfl (x := 25) rfl (zdg dz_E_soonest_0 12 rfl) ?_
    refine vf_callVz C cy_S_run ml_E_256 rfl (ct_S_run _) (S := []) sh_28 (by decide) rfl (jrm_of hR rfl) rfl rfl (Nat.le_of_ble_eq_true rfl) (zdg dz_E_soonest_0 13 rfl) (fun r3 u4 => ?_)
    refine vf_if_ne C (off := 6) (tgt := 34) (zdg dz_E_soonest_0 14 rfl) (by decide) ?_ ?_
    · refine vf_aload_n C (f := 0) (zdg dz_E_soonest_0 17 rfl) 0 rfl rfl ?_
      refine vf_getp C fl_E_68 sh_0 rfl (by decide) rfl (x := 29) rfl (zdg dz_E_soonest_0 18 rfl) ?_
      refine vf_iconst C (z := 1) (zdg dz_E_soonest_0 19 rfl) (jz rfl) ?_
      refine vf_iload_n C (f := 1) (zdg dz_E_soonest_0 20 rfl) 1 rfl rfl ?_
      refine vf_ishl C (zdg dz_E_soonest_0 21 rfl) ?_
      refine vf_iconst C (z := 0) (zdg dz_E_soonest_0 22 rfl) (jz rfl) ?_
      refine vf_callVl C cy_S_weeksWith ml_E_310 rfl (ct_S_weeksWith _ _ _) (S := []) sh_28 (by decide) rfl (jrm_of hR rfl) rfl rfl (Nat.le_of_ble_eq_true rfl) (zdg dz_E_soonest_0 23 rfl) (fun r5 u6 => ?_)
      refine vf_callSi C cy_E_firstWeek ml_E_281 (ct_E_firstWeek _ _) (S := []) (jrm_of hR rfl) rfl rfl (Nat.le_of_ble_eq_true rfl) (zdg dz_E_soonest_1 0 rfl) (fun r7 u8 => ?_)
      refine vf_istore_n C (f := 2) (L' := []) (zdg dz_E_soonest_1 1 rfl) [] (jrI rfl rfl) hn (by decide) rfl ?_
      refine vf_iload_n C (f := 2) (zdg dz_E_soonest_1 2 rfl) 0 rfl rfl ?_
      refine vf_iconst C (z := (-1)) (zdg dz_E_soonest_1 3 rfl) (jz rfl) ?_
      refine vf_icmp_ne C (off := 8) (tgt := 59) (zdg dz_E_soonest_1 4 rfl) (by decide) ?_ ?_
      · refine vf_iload_n C (f := 2) (zdg dz_E_soonest_1 7 rfl) 0 rfl rfl ?_
        exact hr _ _ _ _ (fun h => absurd h (by decide)) (zdg dz_E_soonest_1 8 rfl)
      · refine vf_bipush C (z := (-2)) (zdg dz_E_soonest_1 5 rfl) (by decide +kernel) (jz rfl) ?_
        refine vf_goto C (off := 4) (tgt := 60) (zdg dz_E_soonest_1 6 rfl) (by decide) ?_
        exact hr _ _ _ _ (fun h => absurd h (by decide)) (zdg dz_E_soonest_1 8 rfl)
    · refine vf_bipush C (z := (-3)) (zdg dz_E_soonest_0 15 rfl) (by decide +kernel) (jz rfl) ?_
      exact hr _ _ _ _ (fun h => absurd h (by decide)) (zdg dz_E_soonest_0 16 rfl)
  · refine vf_iconst C (z := (-1)) (zdg dz_E_soonest_0 5 rfl) (jz rfl) ?_
    exact hr _ _ _ _ (fun h => absurd h (by decide)) (zdg dz_E_soonest_0 6 rfl)
def f_E_worth (v1 : Int) (w : Wd) : Option (Int × Wd) :=
  jcall (f_F_free w) fun r1 u2 =>
  jcall (f_E_has r1 v1 u2) fun r3 u4 =>
  if r3 = 0 then
    some ((-1), u4)
  else
    jcall (f_S_run u4) fun r5 u6 =>
    if r5 = 0 then
      some ((-3), u6)
    else
      jcall (f_S_lastWeek 0 0 u6) fun r7 u8 =>
      if r7 = (-1) then
        some ((-2), u8)
      else
        jcall (f_S_lastWeek 0 (ishl 1 v1) u8) fun r9 u10 =>
        some (w32 (r7 - r9), u10)
theorem ct_E_worth (v1 : Int) (w : Wd) : Ct y_E_worth prog_1_method_30_code 3 (some .int) 21 0 [(2, 1), (0, v1)] w (f_E_worth v1 w) := by
  refine ct_of (by decide +kernel) (Or.inl ⟨rfl, rfl⟩) (Nat.le_of_ble_eq_true rfl) ?_
  intro X Qf ad C hn hR hr
  unfold f_E_worth
  show VF X Qf ad NF 0 0 w 0 [(0, (2, 1)), (1, (0, v1))] [] _
  refine vf_aload_n C (f := 0) (zdg dz_E_worth_0 0 rfl) 0 rfl rfl ?_
  refine vf_getp C fl_E_26 sh_0 rfl (by decide) rfl (x := 6) rfl (zdg dz_E_worth_0 1 rfl) ?_
  refine vf_callVi C cy_F_free ml_E_253 rfl (ct_F_free _) (S := []) sh_5 (by decide) rfl (jrm_of hR rfl) rfl rfl (Nat.le_of_ble_eq_true rfl) (zdg dz_E_worth_0 2 rfl) (fun r1 u2 => ?_)
  refine vf_iload_n C (f := 1) (zdg dz_E_worth_0 3 rfl) 1 rfl rfl ?_
  refine vf_callSz C cy_E_has ml_E_128 (ct_E_has _ _ _) (S := []) (jrm_of hR rfl) rfl rfl (Nat.le_of_ble_eq_true rfl) (zdg dz_E_worth_0 4 rfl) (fun r3 u4 => ?_)
  refine vf_if_ne C (off := 5) (tgt := 16) (zdg dz_E_worth_0 5 rfl) (by decide) ?_ ?_
  · refine vf_aload_n C (f := 0) (zdg dz_E_worth_0 8 rfl) 0 rfl rfl ?_
    refine vf_getp C fl_E_68 sh_0 rfl (by decide) rfl (x := 29) rfl (zdg dz_E_worth_0 9 rfl) ?_
    refine vf_aload_n C (f := 0) (zdg dz_E_worth_0 10 rfl) 0 rfl rfl ?_
    refine vf_getp C fl_E_26 sh_0 rfl (by decide) rfl (x := 6) rfl (zdg dz_E_worth_0 11 rfl) ?_
    refine vf_aload_n C (f := 0) (zdg dz_E_worth_0 12 rfl) 0 rfl rfl ?_
    refine vf_getp C fl_E_61 sh_0 rfl (by decide) rfl (x := 25) rfl (zdg dz_E_worth_0 13 rfl) ?_
    refine vf_callVz C cy_S_run ml_E_256 rfl (ct_S_run _) (S := []) sh_28 (by decide) rfl (jrm_of hR rfl) rfl rfl (Nat.le_of_ble_eq_true rfl) (zdg dz_E_worth_0 14 rfl) (fun r5 u6 => ?_)
    refine vf_if_ne C (off := 6) (tgt := 37) (zdg dz_E_worth_0 15 rfl) (by decide) ?_ ?_
    · refine vf_aload_n C (f := 0) (zdg dz_E_worth_0 18 rfl) 0 rfl rfl ?_
      refine vf_getp C fl_E_68 sh_0 rfl (by decide) rfl (x := 29) rfl (zdg dz_E_worth_0 19 rfl) ?_
      refine vf_iconst C (z := 0) (zdg dz_E_worth_0 20 rfl) (jz rfl) ?_
      refine vf_iconst C (z := 0) (zdg dz_E_worth_0 21 rfl) (jz rfl) ?_
      refine vf_callVi C cy_S_lastWeek ml_E_296 rfl (ct_S_lastWeek _ _ _) (S := []) sh_28 (by decide) rfl (jrm_of hR rfl) rfl rfl (Nat.le_of_ble_eq_true rfl) (zdg dz_E_worth_0 22 rfl) (fun r7 u8 => ?_)
      refine vf_istore_n C (f := 2) (L' := [(0, (2, 1)), (1, (0, v1))]) (zdg dz_E_worth_0 23 rfl) [0, 1] (jrI rfl rfl) hn (by decide) rfl ?_
      refine vf_iload_n C (f := 2) (zdg dz_E_worth_1 0 rfl) 0 rfl rfl ?_
      refine vf_iconst C (z := (-1)) (zdg dz_E_worth_1 1 rfl) (jz rfl) ?_
      refine vf_icmp_ne C (off := 8) (tgt := 57) (zdg dz_E_worth_1 2 rfl) (by decide) ?_ ?_
      · refine vf_iload_n C (f := 2) (zdg dz_E_worth_1 5 rfl) 0 rfl rfl ?_
        refine vf_aload_n C (f := 0) (zdg dz_E_worth_1 6 rfl) 1 rfl rfl ?_
        refine vf_getp C fl_E_68 sh_0 rfl (by decide) rfl (x := 29) rfl (zdg dz_E_worth_1 7 rfl) ?_
        refine vf_iconst C (z := 0) (zdg dz_E_worth_1 8 rfl) (jz rfl) ?_
        refine vf_iconst C (z := 1) (zdg dz_E_worth_1 9 rfl) (jz rfl) ?_
        refine vf_iload_n C (f := 1) (zdg dz_E_worth_1 10 rfl) 2 rfl rfl ?_
        refine vf_ishl C (zdg dz_E_worth_1 11 rfl) ?_
        refine vf_callVi C cy_S_lastWeek ml_E_296 rfl (ct_S_lastWeek _ _ _) (S := [(0, r7)]) sh_28 (by decide) rfl (jrm_of hR rfl) rfl rfl (Nat.le_of_ble_eq_true rfl) (zdg dz_E_worth_1 12 rfl) (fun r9 u10 => ?_)
        refine vf_isub C (zdg dz_E_worth_1 13 rfl) ?_
        exact hr _ _ _ _ (fun h => absurd h (by decide)) (zdg dz_E_worth_1 14 rfl)
      · refine vf_bipush C (z := (-2)) (zdg dz_E_worth_1 3 rfl) (by decide +kernel) (jz rfl) ?_
        refine vf_goto C (off := 16) (tgt := 70) (zdg dz_E_worth_1 4 rfl) (by decide) ?_
        exact hr _ _ _ _ (fun h => absurd h (by decide)) (zdg dz_E_worth_1 14 rfl)
    · refine vf_bipush C (z := (-3)) (zdg dz_E_worth_0 16 rfl) (by decide +kernel) (jz rfl) ?_
      exact hr _ _ _ _ (fun h => absurd h (by decide)) (zdg dz_E_worth_0 17 rfl)
  · refine vf_iconst C (z := (-1)) (zdg dz_E_worth_0 6 rfl) (jz rfl) ?_
    exact hr _ _ _ _ (fun h => absurd h (by decide)) (zdg dz_E_worth_0 7 rfl)
def f_E_needed_89 (k43 : Int → Int → Int → Wd → Option (Int × Wd)) (v1 v2 v3 : Int) (w : Wd) : Option (Int × Wd) :=
  jlet (w32 (v3 + 1)) fun x9 =>
  k43 v1 v2 x9 w
theorem t_E_needed_89 {X : jX} {Qf : Int × Wd → State → Prop} {ad : Nat → Nat} (C : Cx X prog_1_method_31_code "EachBringsAnother") (hn : xn X = 4) (hR : xR X = rmD 21) (hr : Rt X Qf ad prog_1_method_31_code 0) {k43 : Int → Int → Int → Wd → Option (Int × Wd)} (hk43 : ∀ (v1 v2 v3 : Int) (w : Wd), VF X Qf ad NF 0 0 w 43 [(0, (2, 1)), (1, (0, v1)), (2, (0, v2)), (3, (0, v3))] [] (k43 v1 v2 v3 w)) (v1 v2 v3 : Int) (w : Wd) : VF X Qf ad NF 0 0 w 89 [(0, (2, 1)), (1, (0, v1)), (2, (0, v2)), (3, (0, v3))] [] (f_E_needed_89 k43 v1 v2 v3 w) := by
  unfold f_E_needed_89
  refine vf_iinc C (z := 1) (L' := [(0, (2, 1)), (1, (0, v1)), (2, (0, v2))]) (zdg dz_E_needed_2 3 rfl) 3 rfl [0, 1, 2] (jrI rfl rfl) hn (by decide) ?_
  generalize w32 (v3 + 1) = x9
  refine vf_ul ?_
  refine vf_goto C (off := (-49)) (tgt := 43) (zdg dz_E_needed_2 4 rfl) (by decide) ?_
  exact vf_perm [1, 2, 3, 0] rfl (hk43 _ _ _ _)
def f_E_needed_43 : Nat → Int → Int → Int → Wd → Option (Int × Wd)
  | 0, _, _, _, _ => none
  | n + 1, v1, v2, v3, w =>
    if (w 5 3) ≤ v3 then
      some (v2, w)
    else
      jcall (f_F_free w) fun r5 u6 =>
      jcall (f_E_has r5 v3 u6) fun r7 u8 =>
      if r7 = 0 then
        f_E_needed_89 (f_E_needed_43 n) v1 v2 v3 u8
      else
        jcall (f_S_lastWeek 0 (ishl 1 v3) u8) fun r10 u11 =>
        if v1 ≤ r10 then
          f_E_needed_89 (f_E_needed_43 n) v1 v2 v3 u11
        else
          jlet (ior v2 (ishl 1 v3)) fun x12 =>
          f_E_needed_89 (f_E_needed_43 n) v1 x12 v3 u11
theorem t_E_needed_43 {X : jX} {Qf : Int × Wd → State → Prop} {ad : Nat → Nat} (C : Cx X prog_1_method_31_code "EachBringsAnother") (hn : xn X = 4) (hR : xR X = rmD 21) (hr : Rt X Qf ad prog_1_method_31_code 0) : ∀ (n : Nat) (v1 v2 v3 : Int) (w : Wd), VF X Qf ad NF 0 0 w 43 [(0, (2, 1)), (1, (0, v1)), (2, (0, v2)), (3, (0, v3))] [] (f_E_needed_43 n v1 v2 v3 w) := by
  intro n
  induction n with
  | zero => intros; exact vf_no
  | succ n ih =>
    intro v1 v2 v3 w
    rw [f_E_needed_43]
    refine vf_iload_n C (f := 3) (zdg dz_E_needed_1 1 rfl) 3 rfl rfl ?_
    refine vf_aload_n C (f := 0) (zdg dz_E_needed_1 2 rfl) 0 rfl rfl ?_
    refine vf_getp C fl_E_26 sh_0 rfl (by decide) rfl (x := 6) rfl (zdg dz_E_needed_1 3 rfl) ?_
    refine vf_get C (kd := 0) fl_E_87 sh_5 rfl (by decide) rfl rfl (zdg dz_E_needed_1 4 rfl) ?_
    refine vf_icmp_ge C (off := 44) (tgt := 95) (zdg dz_E_needed_1 5 rfl) (by decide) ?_ ?_
    · refine vf_iload_n C (f := 2) (zdg dz_E_needed_2 5 rfl) 2 rfl rfl ?_
      exact hr _ _ _ _ (fun h => absurd h (by decide)) (zdg dz_E_needed_2 6 rfl)
    · refine vf_aload_n C (f := 0) (zdg dz_E_needed_1 6 rfl) 0 rfl rfl ?_
      refine vf_getp C fl_E_26 sh_0 rfl (by decide) rfl (x := 6) rfl (zdg dz_E_needed_1 7 rfl) ?_
      refine vf_callVi C cy_F_free ml_E_253 rfl (ct_F_free _) (S := []) sh_5 (by decide) rfl (jrm_of hR rfl) rfl rfl (Nat.le_of_ble_eq_true rfl) (zdg dz_E_needed_1 8 rfl) (fun r5 u6 => ?_)
      refine vf_iload_n C (f := 3) (zdg dz_E_needed_1 9 rfl) 3 rfl rfl ?_
      refine vf_callSz C cy_E_has ml_E_128 (ct_E_has _ _ _) (S := []) (jrm_of hR rfl) rfl rfl (Nat.le_of_ble_eq_true rfl) (zdg dz_E_needed_1 10 rfl) (fun r7 u8 => ?_)
      refine vf_if_eq C (off := 24) (tgt := 89) (zdg dz_E_needed_1 11 rfl) (by decide) ?_ ?_
      · exact t_E_needed_89 C hn hR hr ih _ _ _ _
      · refine vf_aload_n C (f := 0) (zdg dz_E_needed_1 12 rfl) 0 rfl rfl ?_
        refine vf_getp C fl_E_68 sh_0 rfl (by decide) rfl (x := 29) rfl (zdg dz_E_needed_1 13 rfl) ?_
        refine vf_iconst C (z := 0) (zdg dz_E_needed_1 14 rfl) (jz rfl) ?_
        refine vf_iconst C (z := 1) (zdg dz_E_needed_1 15 rfl) (jz rfl) ?_
        refine vf_iload_n C (f := 3) (zdg dz_E_needed_1 16 rfl) 3 rfl rfl ?_
        refine vf_ishl C (zdg dz_E_needed_1 17 rfl) ?_
        refine vf_callVi C cy_S_lastWeek ml_E_296 rfl (ct_S_lastWeek _ _ _) (S := []) sh_28 (by decide) rfl (jrm_of hR rfl) rfl rfl (Nat.le_of_ble_eq_true rfl) (zdg dz_E_needed_1 18 rfl) (fun r10 u11 => ?_)
        refine vf_iload_n C (f := 1) (zdg dz_E_needed_1 19 rfl) 1 rfl rfl ?_
        refine vf_icmp_ge C (off := 9) (tgt := 89) (zdg dz_E_needed_1 20 rfl) (by decide) ?_ ?_
        · exact t_E_needed_89 C hn hR hr ih _ _ _ _
        · refine vf_iload_n C (f := 2) (zdg dz_E_needed_1 21 rfl) 2 rfl rfl ?_
          refine vf_iconst C (z := 1) (zdg dz_E_needed_1 22 rfl) (jz rfl) ?_
          refine vf_iload_n C (f := 3) (zdg dz_E_needed_1 23 rfl) 3 rfl rfl ?_
          refine vf_ishl C (zdg dz_E_needed_2 0 rfl) ?_
          refine vf_ior C (zdg dz_E_needed_2 1 rfl) ?_
          generalize ior v2 (ishl 1 v3) = x12
          refine vf_ul ?_
          refine vf_istore_n C (f := 2) (L' := [(0, (2, 1)), (1, (0, v1)), (3, (0, v3))]) (zdg dz_E_needed_2 2 rfl) [0, 1, 3] (jrI rfl rfl) hn (by decide) rfl ?_
          exact vf_perm [1, 2, 0, 3] rfl (t_E_needed_89 C hn hR hr ih _ _ _ _)
def f_E_needed (w : Wd) : Option (Int × Wd) :=
  jcall (f_S_run w) fun r1 u2 =>
  if r1 = 0 then
    some ((-3), u2)
  else
    jcall (f_S_lastWeek 0 0 u2) fun r3 u4 =>
    if r3 = (-1) then
      some ((-2), u4)
    else
      f_E_needed_43 FU r3 0 0 u4
theorem ct_E_needed (w : Wd) : Ct y_E_needed prog_1_method_31_code 4 (some .int) 21 0 [(2, 1)] w (f_E_needed w) := by
  refine ct_of (by decide +kernel) (Or.inl ⟨rfl, rfl⟩) (Nat.le_of_ble_eq_true rfl) ?_
  intro X Qf ad C hn hR hr
  unfold f_E_needed
  show VF X Qf ad NF 0 0 w 0 [(0, (2, 1))] [] _
  refine vf_aload_n C (f := 0) (zdg dz_E_needed_0 0 rfl) 0 rfl rfl ?_
  refine vf_getp C fl_E_68 sh_0 rfl (by decide) rfl (x := 29) rfl (zdg dz_E_needed_0 1 rfl) ?_
  refine vf_aload_n C (f := 0) (zdg dz_E_needed_0 2 rfl) 0 rfl rfl ?_
  refine vf_getp C fl_E_26 sh_0 rfl (by decide) rfl (x := 6) rfl (zdg dz_E_needed_0 3 rfl) ?_
  refine vf_aload_n C (f := 0) (zdg dz_E_needed_0 4 rfl) 0 rfl rfl ?_
  refine vf_getp C fl_E_61 sh_0 rfl (by decide) rfl (x := 25) rfl (zdg dz_E_needed_0 5 rfl) ?_
  refine vf_callVz C cy_S_run ml_E_256 rfl (ct_S_run _) (S := []) sh_28 (by decide) rfl (jrm_of hR rfl) rfl rfl (Nat.le_of_ble_eq_true rfl) (zdg dz_E_needed_0 6 rfl) (fun r1 u2 => ?_)
  refine vf_if_ne C (off := 6) (tgt := 21) (zdg dz_E_needed_0 7 rfl) (by decide) ?_ ?_
  · refine vf_aload_n C (f := 0) (zdg dz_E_needed_0 10 rfl) 0 rfl rfl ?_
    refine vf_getp C fl_E_68 sh_0 rfl (by decide) rfl (x := 29) rfl (zdg dz_E_needed_0 11 rfl) ?_
    refine vf_iconst C (z := 0) (zdg dz_E_needed_0 12 rfl) (jz rfl) ?_
    refine vf_iconst C (z := 0) (zdg dz_E_needed_0 13 rfl) (jz rfl) ?_
    refine vf_callVi C cy_S_lastWeek ml_E_296 rfl (ct_S_lastWeek _ _ _) (S := []) sh_28 (by decide) rfl (jrm_of hR rfl) rfl rfl (Nat.le_of_ble_eq_true rfl) (zdg dz_E_needed_0 14 rfl) (fun r3 u4 => ?_)
    refine vf_istore_n C (f := 1) (L' := [(0, (2, 1))]) (zdg dz_E_needed_0 15 rfl) [0] (jrI rfl rfl) hn (by decide) rfl ?_
    refine vf_iload_n C (f := 1) (zdg dz_E_needed_0 16 rfl) 0 rfl rfl ?_
    refine vf_iconst C (z := (-1)) (zdg dz_E_needed_0 17 rfl) (jz rfl) ?_
    refine vf_icmp_ne C (off := 6) (tgt := 39) (zdg dz_E_needed_0 18 rfl) (by decide) ?_ ?_
    · refine vf_iconst C (z := 0) (zdg dz_E_needed_0 21 rfl) (jz rfl) ?_
      refine vf_istore_n C (f := 2) (L' := [(1, (0, r3)), (0, (2, 1))]) (zdg dz_E_needed_0 22 rfl) [0, 1] (jrI rfl rfl) hn (by decide) rfl ?_
      refine vf_iconst C (z := 0) (zdg dz_E_needed_0 23 rfl) (jz rfl) ?_
      refine vf_istore_n C (f := 3) (L' := [(2, (0, 0)), (1, (0, r3)), (0, (2, 1))]) (zdg dz_E_needed_1 0 rfl) [0, 1, 2] (jrI rfl rfl) hn (by decide) rfl ?_
      exact vf_perm [3, 2, 1, 0] rfl (t_E_needed_43 C hn hR hr FU _ _ _ _)
    · refine vf_bipush C (z := (-2)) (zdg dz_E_needed_0 19 rfl) (by decide +kernel) (jz rfl) ?_
      exact hr _ _ _ _ (fun h => absurd h (by decide)) (zdg dz_E_needed_0 20 rfl)
  · refine vf_bipush C (z := (-3)) (zdg dz_E_needed_0 8 rfl) (by decide +kernel) (jz rfl) ?_
    exact hr _ _ _ _ (fun h => absurd h (by decide)) (zdg dz_E_needed_0 9 rfl)
def f_E_never_25 : Nat → Int → Int → Wd → Option (Int × Wd)
  | 0, _, _, _ => none
  | n + 1, v1, v2, w =>
    if (w 28 7) ≤ v2 then
      jcall (f_F_strangers w) fun r3 u4 =>
      some (iand r3 (ixor v1 (-1)), u4)
    else
      jcall (f_S_guests v2 w) fun r5 u6 =>
      jlet (ior v1 r5) fun x7 =>
      jlet (w32 (v2 + 1)) fun x8 =>
      f_E_never_25 n x7 x8 u6
theorem t_E_never_25 {X : jX} {Qf : Int × Wd → State → Prop} {ad : Nat → Nat} (C : Cx X prog_1_method_32_code "EachBringsAnother") (hn : xn X = 3) (hR : xR X = rmD 21) (hr : Rt X Qf ad prog_1_method_32_code 0) : ∀ (n : Nat) (v1 v2 : Int) (w : Wd), VF X Qf ad NF 0 0 w 25 [(0, (2, 1)), (1, (0, v1)), (2, (0, v2))] [] (f_E_never_25 n v1 v2 w) := by
  intro n
  induction n with
  | zero => intros; exact vf_no
  | succ n ih =>
    intro v1 v2 w
    rw [f_E_never_25]
    refine vf_iload_n C (f := 2) (zdg dz_E_never_0 14 rfl) 2 rfl rfl ?_
    refine vf_aload_n C (f := 0) (zdg dz_E_never_0 15 rfl) 0 rfl rfl ?_
    refine vf_getp C fl_E_68 sh_0 rfl (by decide) rfl (x := 29) rfl (zdg dz_E_never_0 16 rfl) ?_
    refine vf_get C (kd := 0) fl_E_260 sh_28 rfl (by decide) rfl rfl (zdg dz_E_never_0 17 rfl) ?_
    refine vf_icmp_ge C (off := 20) (tgt := 53) (zdg dz_E_never_0 18 rfl) (by decide) ?_ ?_
    · refine vf_aload_n C (f := 0) (zdg dz_E_never_1 4 rfl) 0 rfl rfl ?_
      refine vf_getp C fl_E_26 sh_0 rfl (by decide) rfl (x := 6) rfl (zdg dz_E_never_1 5 rfl) ?_
      refine vf_callVi C cy_F_strangers ml_E_132 rfl (ct_F_strangers _) (S := []) sh_5 (by decide) rfl (jrm_of hR rfl) rfl rfl (Nat.le_of_ble_eq_true rfl) (zdg dz_E_never_1 6 rfl) (fun r3 u4 => ?_)
      refine vf_iload_n C (f := 1) (zdg dz_E_never_1 7 rfl) 1 rfl rfl ?_
      refine vf_iconst C (z := (-1)) (zdg dz_E_never_1 8 rfl) (jz rfl) ?_
      refine vf_ixor C (zdg dz_E_never_1 9 rfl) ?_
      refine vf_iand C (zdg dz_E_never_1 10 rfl) ?_
      exact hr _ _ _ _ (fun h => absurd h (by decide)) (zdg dz_E_never_1 11 rfl)
    · refine vf_iload_n C (f := 1) (zdg dz_E_never_0 19 rfl) 1 rfl rfl ?_
      refine vf_aload_n C (f := 0) (zdg dz_E_never_0 20 rfl) 0 rfl rfl ?_
      refine vf_getp C fl_E_68 sh_0 rfl (by decide) rfl (x := 29) rfl (zdg dz_E_never_0 21 rfl) ?_
      refine vf_iload_n C (f := 2) (zdg dz_E_never_0 22 rfl) 2 rfl rfl ?_
      refine vf_callVi C cy_S_guests ml_E_261 rfl (ct_S_guests _ _) (S := [(0, v1)]) sh_28 (by decide) rfl (jrm_of hR rfl) rfl rfl (Nat.le_of_ble_eq_true rfl) (zdg dz_E_never_0 23 rfl) (fun r5 u6 => ?_)
      refine vf_ior C (zdg dz_E_never_1 0 rfl) ?_
      generalize ior v1 r5 = x7
      refine vf_ul ?_
      refine vf_istore_n C (f := 1) (L' := [(0, (2, 1)), (2, (0, v2))]) (zdg dz_E_never_1 1 rfl) [0, 2] (jrI rfl rfl) hn (by decide) rfl ?_
      refine vf_iinc C (z := 1) (L' := [(1, (0, x7)), (0, (2, 1))]) (zdg dz_E_never_1 2 rfl) 2 rfl [0, 1] (jrI rfl rfl) hn (by decide) ?_
      generalize w32 (v2 + 1) = x8
      refine vf_ul ?_
      refine vf_goto C (off := (-25)) (tgt := 25) (zdg dz_E_never_1 3 rfl) (by decide) ?_
      exact vf_perm [2, 1, 0] rfl (ih _ _ _)
def f_E_never (w : Wd) : Option (Int × Wd) :=
  jcall (f_S_run w) fun r1 u2 =>
  if r1 = 0 then
    some ((-3), u2)
  else
    f_E_never_25 FU 0 0 u2
theorem ct_E_never (w : Wd) : Ct y_E_never prog_1_method_32_code 3 (some .int) 21 0 [(2, 1)] w (f_E_never w) := by
  refine ct_of (by decide +kernel) (Or.inl ⟨rfl, rfl⟩) (Nat.le_of_ble_eq_true rfl) ?_
  intro X Qf ad C hn hR hr
  unfold f_E_never
  show VF X Qf ad NF 0 0 w 0 [(0, (2, 1))] [] _
  refine vf_aload_n C (f := 0) (zdg dz_E_never_0 0 rfl) 0 rfl rfl ?_
  refine vf_getp C fl_E_68 sh_0 rfl (by decide) rfl (x := 29) rfl (zdg dz_E_never_0 1 rfl) ?_
  refine vf_aload_n C (f := 0) (zdg dz_E_never_0 2 rfl) 0 rfl rfl ?_
  refine vf_getp C fl_E_26 sh_0 rfl (by decide) rfl (x := 6) rfl (zdg dz_E_never_0 3 rfl) ?_
  refine vf_aload_n C (f := 0) (zdg dz_E_never_0 4 rfl) 0 rfl rfl ?_
  refine vf_getp C fl_E_61 sh_0 rfl (by decide) rfl (x := 25) rfl (zdg dz_E_never_0 5 rfl) ?_
  refine vf_callVz C cy_S_run ml_E_256 rfl (ct_S_run _) (S := []) sh_28 (by decide) rfl (jrm_of hR rfl) rfl rfl (Nat.le_of_ble_eq_true rfl) (zdg dz_E_never_0 6 rfl) (fun r1 u2 => ?_)
  refine vf_if_ne C (off := 6) (tgt := 21) (zdg dz_E_never_0 7 rfl) (by decide) ?_ ?_
  · refine vf_iconst C (z := 0) (zdg dz_E_never_0 10 rfl) (jz rfl) ?_
    refine vf_istore_n C (f := 1) (L' := [(0, (2, 1))]) (zdg dz_E_never_0 11 rfl) [0] (jrI rfl rfl) hn (by decide) rfl ?_
    refine vf_iconst C (z := 0) (zdg dz_E_never_0 12 rfl) (jz rfl) ?_
    refine vf_istore_n C (f := 2) (L' := [(1, (0, 0)), (0, (2, 1))]) (zdg dz_E_never_0 13 rfl) [0, 1] (jrI rfl rfl) hn (by decide) rfl ?_
    exact vf_perm [2, 1, 0] rfl (t_E_never_25 C hn hR hr FU _ _ _)
  · refine vf_bipush C (z := (-3)) (zdg dz_E_never_0 8 rfl) (by decide +kernel) (jz rfl) ?_
    exact hr _ _ _ _ (fun h => absurd h (by decide)) (zdg dz_E_never_0 9 rfl)
def f_E_bound_93 (k55 : Int → Int → Int → Int → Wd → Option (Int × Wd)) (v1 v2 v3 v4 : Int) (w : Wd) : Option (Int × Wd) :=
  jlet (w32 (v4 + 1)) fun x7 =>
  k55 v1 v2 v3 x7 w
theorem t_E_bound_93 {X : jX} {Qf : Int × Wd → State → Prop} {ad : Nat → Nat} (C : Cx X prog_1_method_33_code "EachBringsAnother") (hn : xn X = 5) (hR : xR X = rmD 4) (hr : Rt X Qf ad prog_1_method_33_code 0) {k55 : Int → Int → Int → Int → Wd → Option (Int × Wd)} (hk55 : ∀ (v1 v2 v3 v4 : Int) (w : Wd), VF X Qf ad NF 0 0 w 55 [(0, (2, 1)), (1, (0, v1)), (2, (0, v2)), (3, (0, v3)), (4, (0, v4))] [] (k55 v1 v2 v3 v4 w)) (v1 v2 v3 v4 : Int) (w : Wd) : VF X Qf ad NF 0 0 w 93 [(0, (2, 1)), (1, (0, v1)), (2, (0, v2)), (3, (0, v3)), (4, (0, v4))] [] (f_E_bound_93 k55 v1 v2 v3 v4 w) := by
  unfold f_E_bound_93
  refine vf_iinc C (z := 1) (L' := [(0, (2, 1)), (1, (0, v1)), (2, (0, v2)), (3, (0, v3))]) (zdg dz_E_bound_2 1 rfl) 4 rfl [0, 1, 2, 3] (jrI rfl rfl) hn (by decide) ?_
  generalize w32 (v4 + 1) = x7
  refine vf_ul ?_
  refine vf_goto C (off := (-41)) (tgt := 55) (zdg dz_E_bound_2 2 rfl) (by decide) ?_
  exact vf_perm [1, 2, 3, 4, 0] rfl (hk55 _ _ _ _ _)
def f_E_bound_55 : Nat → Int → Int → Int → Int → Wd → Option (Int × Wd)
  | 0, _, _, _, _, _ => none
  | n + 1, v1, v2, v3, v4, w =>
    if (w 5 3) ≤ v4 then
      jcall (f_JI_bitCount (iand v2 (ixor v1 (-1))) w) fun r3 u4 =>
      some (w32 ((w32 ((w32 ((w 5 7) * r3)) + (imax 1 (w32 ((u4 5 7) - v3))))) - 1), u4)
    else
      jcall (f_E_has v1 v4 w) fun r5 u6 =>
      if r5 = 0 then
        f_E_bound_93 (f_E_bound_55 n) v1 v2 v3 v4 u6
      else
        jcall (f_O_late (u6 5 4) v4 u6) fun r8 u9 =>
        jlet (imin v3 r8) fun x10 =>
        f_E_bound_93 (f_E_bound_55 n) v1 v2 x10 v4 u9
theorem t_E_bound_55 {X : jX} {Qf : Int × Wd → State → Prop} {ad : Nat → Nat} (C : Cx X prog_1_method_33_code "EachBringsAnother") (hn : xn X = 5) (hR : xR X = rmD 4) (hr : Rt X Qf ad prog_1_method_33_code 0) : ∀ (n : Nat) (v1 v2 v3 v4 : Int) (w : Wd), VF X Qf ad NF 0 0 w 55 [(0, (2, 1)), (1, (0, v1)), (2, (0, v2)), (3, (0, v3)), (4, (0, v4))] [] (f_E_bound_55 n v1 v2 v3 v4 w) := by
  intro n
  induction n with
  | zero => intros; exact vf_no
  | succ n ih =>
    intro v1 v2 v3 v4 w
    rw [f_E_bound_55]
    refine vf_iload C (zdg dz_E_bound_1 8 rfl) 4 rfl ?_
    refine vf_aload_n C (f := 0) (zdg dz_E_bound_1 9 rfl) 0 rfl rfl ?_
    refine vf_getp C fl_E_26 sh_0 rfl (by decide) rfl (x := 6) rfl (zdg dz_E_bound_1 10 rfl) ?_
    refine vf_get C (kd := 0) fl_E_87 sh_5 rfl (by decide) rfl rfl (zdg dz_E_bound_1 11 rfl) ?_
    refine vf_icmp_ge C (off := 35) (tgt := 99) (zdg dz_E_bound_1 12 rfl) (by decide) ?_ ?_
    · refine vf_aload_n C (f := 0) (zdg dz_E_bound_2 3 rfl) 0 rfl rfl ?_
      refine vf_getp C fl_E_26 sh_0 rfl (by decide) rfl (x := 6) rfl (zdg dz_E_bound_2 4 rfl) ?_
      refine vf_get C (kd := 0) fl_E_156 sh_5 rfl (by decide) rfl rfl (zdg dz_E_bound_2 5 rfl) ?_
      refine vf_iload_n C (f := 2) (zdg dz_E_bound_2 6 rfl) 2 rfl rfl ?_
      refine vf_iload_n C (f := 1) (zdg dz_E_bound_2 7 rfl) 1 rfl rfl ?_
      refine vf_iconst C (z := (-1)) (zdg dz_E_bound_2 8 rfl) (jz rfl) ?_
      refine vf_ixor C (zdg dz_E_bound_2 9 rfl) ?_
      refine vf_iand C (zdg dz_E_bound_2 10 rfl) ?_
      refine vf_callSi C cy_JI_bitCount ml_E_245 (ct_JI_bitCount _ _) (S := [(0, w 5 7)]) (jrm_of hR rfl) rfl rfl (Nat.le_of_ble_eq_true rfl) (zdg dz_E_bound_2 11 rfl) (fun r3 u4 => ?_)
      refine vf_imul C (zdg dz_E_bound_2 12 rfl) ?_
      refine vf_iconst C (z := 1) (zdg dz_E_bound_2 13 rfl) (jz rfl) ?_
      refine vf_aload_n C (f := 0) (zdg dz_E_bound_2 14 rfl) 0 rfl rfl ?_
      refine vf_getp C fl_E_26 sh_0 rfl (by decide) rfl (x := 6) rfl (zdg dz_E_bound_2 15 rfl) ?_
      refine vf_get C (kd := 0) fl_E_156 sh_5 rfl (by decide) rfl rfl (zdg dz_E_bound_2 16 rfl) ?_
      refine vf_iload_n C (f := 3) (zdg dz_E_bound_2 17 rfl) 3 rfl rfl ?_
      refine vf_isub C (zdg dz_E_bound_2 18 rfl) ?_
      refine vf_mmax C ml_E_269 (jrm_n hR (by decide)) ⟨Nat.zero_le _, Nat.zero_le _⟩ (Nat.le_of_ble_eq_true rfl) (zdg dz_E_bound_2 19 rfl) ?_
      refine vf_iadd C (zdg dz_E_bound_2 20 rfl) ?_
      refine vf_iconst C (z := 1) (zdg dz_E_bound_2 21 rfl) (jz rfl) ?_
      refine vf_isub C (zdg dz_E_bound_2 22 rfl) ?_
      exact hr _ _ _ _ (fun h => absurd h (by decide)) (zdg dz_E_bound_2 23 rfl)
    · refine vf_iload_n C (f := 1) (zdg dz_E_bound_1 13 rfl) 1 rfl rfl ?_
      refine vf_iload C (zdg dz_E_bound_1 14 rfl) 4 rfl ?_
      refine vf_callSz C cy_E_has ml_E_128 (ct_E_has _ _ _) (S := []) (jrm_of hR rfl) rfl rfl (Nat.le_of_ble_eq_true rfl) (zdg dz_E_bound_1 15 rfl) (fun r5 u6 => ?_)
      refine vf_if_eq C (off := 20) (tgt := 93) (zdg dz_E_bound_1 16 rfl) (by decide) ?_ ?_
      · exact t_E_bound_93 C hn hR hr ih _ _ _ _ _
      · refine vf_iload_n C (f := 3) (zdg dz_E_bound_1 17 rfl) 3 rfl rfl ?_
        refine vf_aload_n C (f := 0) (zdg dz_E_bound_1 18 rfl) 0 rfl rfl ?_
        refine vf_getp C fl_E_26 sh_0 rfl (by decide) rfl (x := 6) rfl (zdg dz_E_bound_1 19 rfl) ?_
        refine vf_get C (kd := 0) fl_E_139 sh_5 rfl (by decide) rfl rfl (zdg dz_E_bound_1 20 rfl) ?_
        refine vf_iload C (zdg dz_E_bound_1 21 rfl) 4 rfl ?_
        refine vf_callSi C cy_O_late ml_E_142 (ct_O_late _ _ _) (S := [(0, v3)]) (jrm_of hR rfl) rfl rfl (Nat.le_of_ble_eq_true rfl) (zdg dz_E_bound_1 22 rfl) (fun r8 u9 => ?_)
        refine vf_mmin C ml_E_314 (jrm_n hR (by decide)) ⟨Nat.zero_le _, Nat.zero_le _⟩ (Nat.le_of_ble_eq_true rfl) (zdg dz_E_bound_1 23 rfl) ?_
        generalize imin v3 r8 = x10
        refine vf_ul ?_
        refine vf_istore_n C (f := 3) (L' := [(0, (2, 1)), (1, (0, v1)), (2, (0, v2)), (4, (0, v4))]) (zdg dz_E_bound_2 0 rfl) [0, 1, 2, 4] (jrI rfl rfl) hn (by decide) rfl ?_
        exact vf_perm [1, 2, 3, 0, 4] rfl (t_E_bound_93 C hn hR hr ih _ _ _ _ _)
def f_E_bound_19 : Nat → Int → Int → Int → Wd → Option (Int × Wd)
  | 0, _, _, _, _ => none
  | n + 1, v1, v2, v3, w =>
    if (10 : Int) ≤ v3 then
      f_E_bound_55 FU v1 v2 3 0 w
    else
      jcall (f_F_knownBy v2 w) fun r11 u12 =>
      jcall (f_F_free u12) fun r13 u14 =>
      jlet (ior v2 (iand r11 r13)) fun x15 =>
      jlet (w32 (v3 + 1)) fun x16 =>
      f_E_bound_19 n v1 x15 x16 u14
theorem t_E_bound_19 {X : jX} {Qf : Int × Wd → State → Prop} {ad : Nat → Nat} (C : Cx X prog_1_method_33_code "EachBringsAnother") (hn : xn X = 5) (hR : xR X = rmD 4) (hr : Rt X Qf ad prog_1_method_33_code 0) : ∀ (n : Nat) (v1 v2 v3 : Int) (w : Wd), VF X Qf ad NF 0 0 w 19 [(0, (2, 1)), (1, (0, v1)), (2, (0, v2)), (3, (0, v3))] [] (f_E_bound_19 n v1 v2 v3 w) := by
  intro n
  induction n with
  | zero => intros; exact vf_no
  | succ n ih =>
    intro v1 v2 v3 w
    rw [f_E_bound_19]
    refine vf_iload_n C (f := 3) (zdg dz_E_bound_0 12 rfl) 3 rfl rfl ?_
    refine vf_bipush C (z := 10) (zdg dz_E_bound_0 13 rfl) (by decide +kernel) (jz rfl) ?_
    refine vf_icmp_ge C (off := 28) (tgt := 50) (zdg dz_E_bound_0 14 rfl) (by decide) ?_ ?_
    · refine vf_iconst C (z := 3) (zdg dz_E_bound_1 4 rfl) (jz rfl) ?_
      refine vf_istore_n C (f := 3) (L' := [(0, (2, 1)), (1, (0, v1)), (2, (0, v2))]) (zdg dz_E_bound_1 5 rfl) [0, 1, 2] (jrI rfl rfl) hn (by decide) rfl ?_
      refine vf_iconst C (z := 0) (zdg dz_E_bound_1 6 rfl) (jz rfl) ?_
      refine vf_istore C (i := 4) (L' := [(3, (0, 3)), (0, (2, 1)), (1, (0, v1)), (2, (0, v2))]) (zdg dz_E_bound_1 7 rfl) [0, 1, 2, 3] (jrI rfl rfl) hn (by decide) ?_
      exact vf_perm [2, 3, 4, 1, 0] rfl (t_E_bound_55 C hn hR hr FU _ _ _ _ _)
    · refine vf_iload_n C (f := 2) (zdg dz_E_bound_0 15 rfl) 2 rfl rfl ?_
      refine vf_aload_n C (f := 0) (zdg dz_E_bound_0 16 rfl) 0 rfl rfl ?_
      refine vf_getp C fl_E_26 sh_0 rfl (by decide) rfl (x := 6) rfl (zdg dz_E_bound_0 17 rfl) ?_
      refine vf_iload_n C (f := 2) (zdg dz_E_bound_0 18 rfl) 2 rfl rfl ?_
      refine vf_callVi C cy_F_knownBy ml_E_250 rfl (ct_F_knownBy _ _) (S := [(0, v2)]) sh_5 (by decide) rfl (jrm_of hR rfl) rfl rfl (Nat.le_of_ble_eq_true rfl) (zdg dz_E_bound_0 19 rfl) (fun r11 u12 => ?_)
      refine vf_aload_n C (f := 0) (zdg dz_E_bound_0 20 rfl) 0 rfl rfl ?_
      refine vf_getp C fl_E_26 sh_0 rfl (by decide) rfl (x := 6) rfl (zdg dz_E_bound_0 21 rfl) ?_
      refine vf_callVi C cy_F_free ml_E_253 rfl (ct_F_free _) (S := [(0, r11), (0, v2)]) sh_5 (by decide) rfl (jrm_of hR rfl) rfl rfl (Nat.le_of_ble_eq_true rfl) (zdg dz_E_bound_0 22 rfl) (fun r13 u14 => ?_)
      refine vf_iand C (zdg dz_E_bound_0 23 rfl) ?_
      refine vf_ior C (zdg dz_E_bound_1 0 rfl) ?_
      generalize ior v2 (iand r11 r13) = x15
      refine vf_ul ?_
      refine vf_istore_n C (f := 2) (L' := [(0, (2, 1)), (1, (0, v1)), (3, (0, v3))]) (zdg dz_E_bound_1 1 rfl) [0, 1, 3] (jrI rfl rfl) hn (by decide) rfl ?_
      refine vf_iinc C (z := 1) (L' := [(2, (0, x15)), (0, (2, 1)), (1, (0, v1))]) (zdg dz_E_bound_1 2 rfl) 3 rfl [0, 1, 2] (jrI rfl rfl) hn (by decide) ?_
      generalize w32 (v3 + 1) = x16
      refine vf_ul ?_
      refine vf_goto C (off := (-28)) (tgt := 19) (zdg dz_E_bound_1 3 rfl) (by decide) ?_
      exact vf_perm [2, 3, 1, 0] rfl (ih _ _ _ _)
def f_E_bound (w : Wd) : Option (Int × Wd) :=
  jcall (f_F_guests w) fun r1 u2 =>
  if r1 = 0 then
    some ((-2), u2)
  else
    f_E_bound_19 FU r1 r1 0 u2
theorem ct_E_bound (w : Wd) : Ct y_E_bound prog_1_method_33_code 5 (some .int) 4 0 [(2, 1)] w (f_E_bound w) := by
  refine ct_of (by decide +kernel) (Or.inl ⟨rfl, rfl⟩) (Nat.le_of_ble_eq_true rfl) ?_
  intro X Qf ad C hn hR hr
  unfold f_E_bound
  show VF X Qf ad NF 0 0 w 0 [(0, (2, 1))] [] _
  refine vf_aload_n C (f := 0) (zdg dz_E_bound_0 0 rfl) 0 rfl rfl ?_
  refine vf_getp C fl_E_26 sh_0 rfl (by decide) rfl (x := 6) rfl (zdg dz_E_bound_0 1 rfl) ?_
  refine vf_callVi C cy_F_guests ml_E_136 rfl (ct_F_guests _) (S := []) sh_5 (by decide) rfl (jrm_of hR rfl) rfl rfl (Nat.le_of_ble_eq_true rfl) (zdg dz_E_bound_0 2 rfl) (fun r1 u2 => ?_)
  refine vf_istore_n C (f := 1) (L' := [(0, (2, 1))]) (zdg dz_E_bound_0 3 rfl) [0] (jrI rfl rfl) hn (by decide) rfl ?_
  refine vf_iload_n C (f := 1) (zdg dz_E_bound_0 4 rfl) 0 rfl rfl ?_
  refine vf_if_ne C (off := 6) (tgt := 15) (zdg dz_E_bound_0 5 rfl) (by decide) ?_ ?_
  · refine vf_iload_n C (f := 1) (zdg dz_E_bound_0 8 rfl) 0 rfl rfl ?_
    refine vf_istore_n C (f := 2) (L' := [(1, (0, r1)), (0, (2, 1))]) (zdg dz_E_bound_0 9 rfl) [0, 1] (jrI rfl rfl) hn (by decide) rfl ?_
    refine vf_iconst C (z := 0) (zdg dz_E_bound_0 10 rfl) (jz rfl) ?_
    refine vf_istore_n C (f := 3) (L' := [(2, (0, r1)), (1, (0, r1)), (0, (2, 1))]) (zdg dz_E_bound_0 11 rfl) [0, 1, 2] (jrI rfl rfl) hn (by decide) rfl ?_
    exact vf_perm [3, 2, 1, 0] rfl (t_E_bound_19 C hn hR hr FU _ _ _ _)
  · refine vf_bipush C (z := (-2)) (zdg dz_E_bound_0 6 rfl) (by decide +kernel) (jz rfl) ?_
    exact hr _ _ _ _ (fun h => absurd h (by decide)) (zdg dz_E_bound_0 7 rfl)
def f_F_within_12 : Nat → Int → Int → Int → Wd → Option (Int × Wd)
  | 0, _, _, _, _ => none
  | n + 1, v2, v3, v4, w =>
    if v2 ≤ v4 then
      some (v3, w)
    else
      jcall (f_F_knownBy v3 w) fun r4 u5 =>
      jcall (f_F_free u5) fun r6 u7 =>
      jlet (ior v3 (iand r4 r6)) fun x8 =>
      jlet (w32 (v4 + 1)) fun x9 =>
      f_F_within_12 n v2 x8 x9 u7
theorem t_F_within_12 {X : jX} {Qf : Int × Wd → State → Prop} {ad : Nat → Nat} (C : Cx X prog_3_method_15_code "EachBringsAnother$Folk") (hn : xn X = 5) (hR : xR X = rmD 4) (hr : Rt X Qf ad prog_3_method_15_code 0) : ∀ (n : Nat) (v2 v3 v4 : Int) (w : Wd), VF X Qf ad NF 0 0 w 12 [(0, (2, 6)), (2, (0, v2)), (3, (0, v3)), (4, (0, v4))] [] (f_F_within_12 n v2 v3 v4 w) := by
  intro n
  induction n with
  | zero => intros; exact vf_no
  | succ n ih =>
    intro v2 v3 v4 w
    rw [f_F_within_12]
    refine vf_iload C (zdg dz_F_within_0 9 rfl) 3 rfl ?_
    refine vf_iload_n C (f := 2) (zdg dz_F_within_0 10 rfl) 1 rfl rfl ?_
    refine vf_icmp_ge C (off := 22) (tgt := 37) (zdg dz_F_within_0 11 rfl) (by decide) ?_ ?_
    · refine vf_iload_n C (f := 3) (zdg dz_F_within_0 23 rfl) 2 rfl rfl ?_
      exact hr _ _ _ _ (fun h => absurd h (by decide)) (zdg dz_F_within_1 0 rfl)
    · refine vf_iload_n C (f := 3) (zdg dz_F_within_0 12 rfl) 2 rfl rfl ?_
      refine vf_aload_n C (f := 0) (zdg dz_F_within_0 13 rfl) 0 rfl rfl ?_
      refine vf_iload_n C (f := 3) (zdg dz_F_within_0 14 rfl) 2 rfl rfl ?_
      refine vf_callVi C cy_F_knownBy ml_F_83 rfl (ct_F_knownBy _ _) (S := [(0, v3)]) sh_5 (by decide) rfl (jrm_of hR rfl) rfl rfl (Nat.le_of_ble_eq_true rfl) (zdg dz_F_within_0 15 rfl) (fun r4 u5 => ?_)
      refine vf_aload_n C (f := 0) (zdg dz_F_within_0 16 rfl) 0 rfl rfl ?_
      refine vf_callVi C cy_F_free ml_F_80 rfl (ct_F_free _) (S := [(0, r4), (0, v3)]) sh_5 (by decide) rfl (jrm_of hR rfl) rfl rfl (Nat.le_of_ble_eq_true rfl) (zdg dz_F_within_0 17 rfl) (fun r6 u7 => ?_)
      refine vf_iand C (zdg dz_F_within_0 18 rfl) ?_
      refine vf_ior C (zdg dz_F_within_0 19 rfl) ?_
      generalize ior v3 (iand r4 r6) = x8
      refine vf_ul ?_
      refine vf_istore_n C (f := 3) (L' := [(0, (2, 6)), (2, (0, v2)), (4, (0, v4))]) (zdg dz_F_within_0 20 rfl) [0, 1, 3] (jrI rfl rfl) hn (by decide) rfl ?_
      refine vf_iinc C (z := 1) (L' := [(3, (0, x8)), (0, (2, 6)), (2, (0, v2))]) (zdg dz_F_within_0 21 rfl) 3 rfl [0, 1, 2] (jrI rfl rfl) hn (by decide) ?_
      generalize w32 (v4 + 1) = x9
      refine vf_ul ?_
      refine vf_goto C (off := (-22)) (tgt := 12) (zdg dz_F_within_0 22 rfl) (by decide) ?_
      exact vf_perm [2, 3, 1, 0] rfl (ih _ _ _ _)
def f_F_within (v1 v2 : Int) (w : Wd) : Option (Int × Wd) :=
  jcall (f_F_free w) fun r1 u2 =>
  jlet (iand (ishl 1 v1) r1) fun x3 =>
  f_F_within_12 FU v2 x3 0 u2
theorem ct_F_within (v1 v2 : Int) (w : Wd) : Ct y_F_within prog_3_method_15_code 5 (some .int) 4 0 [(2, 6), (0, v1), (0, v2)] w (f_F_within v1 v2 w) := by
  refine ct_of (by decide +kernel) (Or.inl ⟨rfl, rfl⟩) (Nat.le_of_ble_eq_true rfl) ?_
  intro X Qf ad C hn hR hr
  unfold f_F_within
  show VF X Qf ad NF 0 0 w 0 [(0, (2, 6)), (1, (0, v1)), (2, (0, v2))] [] _
  refine vf_iconst C (z := 1) (zdg dz_F_within_0 0 rfl) (jz rfl) ?_
  refine vf_iload_n C (f := 1) (zdg dz_F_within_0 1 rfl) 1 rfl rfl ?_
  refine vf_ishl C (zdg dz_F_within_0 2 rfl) ?_
  refine vf_aload_n C (f := 0) (zdg dz_F_within_0 3 rfl) 0 rfl rfl ?_
  refine vf_callVi C cy_F_free ml_F_80 rfl (ct_F_free _) (S := [(0, ishl 1 v1)]) sh_5 (by decide) rfl (jrm_of hR rfl) rfl rfl (Nat.le_of_ble_eq_true rfl) (zdg dz_F_within_0 4 rfl) (fun r1 u2 => ?_)
  refine vf_iand C (zdg dz_F_within_0 5 rfl) ?_
  generalize iand (ishl 1 v1) r1 = x3
  refine vf_ul ?_
  refine vf_istore_n C (f := 3) (L' := [(0, (2, 6)), (2, (0, v2))]) (zdg dz_F_within_0 6 rfl) [0, 2] (jrI rfl rfl) hn (by decide) rfl ?_
  refine vf_iconst C (z := 0) (zdg dz_F_within_0 7 rfl) (jz rfl) ?_
  refine vf_istore C (i := 4) (L' := [(3, (0, x3)), (0, (2, 6)), (2, (0, v2))]) (zdg dz_F_within_0 8 rfl) [0, 1, 2] (jrI rfl rfl) hn (by decide) ?_
  exact vf_perm [2, 3, 1, 0] rfl (t_F_within_12 C hn hR hr FU _ _ _ _)
def f_E_tellWay_13 : Nat → Int → Int → Int → Wd → Option (Int × Wd)
  | 0, _, _, _, _ => none
  | n + 1, v1, v4, v5, w =>
    if v5 ≤ 0 then
      some (0, w)
    else
      jcall (f_F_within v1 v5 w) fun r3 u4 =>
      jcall (f_E_lowest (iand v4 r3) u4) fun r5 u6 =>
      jcall (f_N_put r5 u6) fun r7 u8 =>
      jcall (f_F_knownBy (ishl 1 r5) u8) fun r9 u10 =>
      jlet (w32 (v5 + (-1))) fun x11 =>
      f_E_tellWay_13 n v1 r9 x11 u10
theorem t_E_tellWay_13 {X : jX} {Qf : Int × Wd → State → Prop} {ad : Nat → Nat} (C : Cx X prog_1_method_58_code "EachBringsAnother") (hn : xn X = 7) (hR : xR X = rmD 5) (hr : Rt X Qf ad prog_1_method_58_code 9) : ∀ (n : Nat) (v1 v4 v5 : Int) (w : Wd), VF X Qf ad NF 0 0 w 13 [(0, (2, 1)), (1, (0, v1)), (4, (0, v4)), (5, (0, v5))] [] (f_E_tellWay_13 n v1 v4 v5 w) := by
  intro n
  induction n with
  | zero => intros; exact vf_no
  | succ n ih =>
    intro v1 v4 v5 w
    rw [f_E_tellWay_13]
    refine vf_iload C (zdg dz_E_tellWay_0 7 rfl) 3 rfl ?_
    refine vf_if_le C (off := 49) (tgt := 64) (zdg dz_E_tellWay_0 8 rfl) (by decide) ?_ ?_
    · exact hr _ _ _ _ (fun h => absurd h (by decide)) (zdg dz_E_tellWay_1 7 rfl)
    · refine vf_iload C (zdg dz_E_tellWay_0 9 rfl) 2 rfl ?_
      refine vf_aload_n C (f := 0) (zdg dz_E_tellWay_0 10 rfl) 0 rfl rfl ?_
      refine vf_getp C fl_E_26 sh_0 rfl (by decide) rfl (x := 6) rfl (zdg dz_E_tellWay_0 11 rfl) ?_
      refine vf_iload_n C (f := 1) (zdg dz_E_tellWay_0 12 rfl) 1 rfl rfl ?_
      refine vf_iload C (zdg dz_E_tellWay_0 13 rfl) 3 rfl ?_
      refine vf_callVi C cy_F_within ml_E_317 rfl (ct_F_within _ _ _) (S := [(0, v4)]) sh_5 (by decide) rfl (jrm_of hR rfl) rfl rfl (Nat.le_of_ble_eq_true rfl) (zdg dz_E_tellWay_0 14 rfl) (fun r3 u4 => ?_)
      refine vf_iand C (zdg dz_E_tellWay_0 15 rfl) ?_
      refine vf_callSi C cy_E_lowest ml_E_394 (ct_E_lowest _ _) (S := []) (jrm_of hR rfl) rfl rfl (Nat.le_of_ble_eq_true rfl) (zdg dz_E_tellWay_0 16 rfl) (fun r5 u6 => ?_)
      refine vf_istore C (i := 6) (L' := [(0, (2, 1)), (1, (0, v1)), (5, (0, v5))]) (zdg dz_E_tellWay_0 17 rfl) [0, 1, 3] (jrI rfl rfl) hn (by decide) ?_
      refine vf_aload_n C (f := 0) (zdg dz_E_tellWay_0 18 rfl) 1 rfl rfl ?_
      refine vf_getp C fl_E_19 sh_0 rfl (by decide) rfl (x := 4) rfl (zdg dz_E_tellWay_0 19 rfl) ?_
      refine vf_iload C (zdg dz_E_tellWay_0 20 rfl) 0 rfl ?_
      refine vf_callVv C cy_N_put ml_E_397 rfl (ct_N_put _ _) (S := []) sh_3 (by decide) rfl (jrm_of hR rfl) rfl rfl (Nat.le_of_ble_eq_true rfl) (zdg dz_E_tellWay_0 21 rfl) (fun r7 u8 => ?_)
      refine vf_aload_n C (f := 0) (zdg dz_E_tellWay_0 22 rfl) 1 rfl rfl ?_
      refine vf_getp C fl_E_26 sh_0 rfl (by decide) rfl (x := 6) rfl (zdg dz_E_tellWay_0 23 rfl) ?_
      refine vf_iconst C (z := 1) (zdg dz_E_tellWay_1 0 rfl) (jz rfl) ?_
      refine vf_iload C (zdg dz_E_tellWay_1 1 rfl) 0 rfl ?_
      refine vf_ishl C (zdg dz_E_tellWay_1 2 rfl) ?_
      refine vf_callVi C cy_F_knownBy ml_E_250 rfl (ct_F_knownBy _ _) (S := []) sh_5 (by decide) rfl (jrm_of hR rfl) rfl rfl (Nat.le_of_ble_eq_true rfl) (zdg dz_E_tellWay_1 3 rfl) (fun r9 u10 => ?_)
      refine vf_istore C (i := 4) (L' := [(0, (2, 1)), (1, (0, v1)), (5, (0, v5))]) (zdg dz_E_tellWay_1 4 rfl) [1, 2, 3] (jrI rfl rfl) hn (by decide) ?_
      refine vf_iinc C (z := (-1)) (L' := [(4, (0, r9)), (0, (2, 1)), (1, (0, v1))]) (zdg dz_E_tellWay_1 5 rfl) 3 rfl [0, 1, 2] (jrI rfl rfl) hn (by decide) ?_
      generalize w32 (v5 + (-1)) = x11
      refine vf_ul ?_
      refine vf_goto C (off := (-48)) (tgt := 13) (zdg dz_E_tellWay_1 6 rfl) (by decide) ?_
      exact vf_perm [2, 3, 1, 0] rfl (ih _ _ _ _)
def f_E_tellWay (v1 v2 v3 : Int) (w : Wd) : Option (Int × Wd) :=
  jcall (f_N_clear w) fun r1 u2 =>
  f_E_tellWay_13 FU v1 v3 v2 u2
theorem ct_E_tellWay (v1 v2 v3 : Int) (w : Wd) : Ct y_E_tellWay prog_1_method_58_code 7 none 5 9 [(2, 1), (0, v1), (0, v2), (0, v3)] w (f_E_tellWay v1 v2 v3 w) := by
  refine ct_of (by decide +kernel) (Or.inr (Or.inr (Or.inr ⟨rfl, rfl⟩))) (Nat.le_of_ble_eq_true rfl) ?_
  intro X Qf ad C hn hR hr
  unfold f_E_tellWay
  show VF X Qf ad NF 0 0 w 0 [(0, (2, 1)), (1, (0, v1)), (2, (0, v2)), (3, (0, v3))] [] _
  refine vf_aload_n C (f := 0) (zdg dz_E_tellWay_0 0 rfl) 0 rfl rfl ?_
  refine vf_getp C fl_E_19 sh_0 rfl (by decide) rfl (x := 4) rfl (zdg dz_E_tellWay_0 1 rfl) ?_
  refine vf_callVv C cy_N_clear ml_E_306 rfl (ct_N_clear _) (S := []) sh_3 (by decide) rfl (jrm_of hR rfl) rfl rfl (Nat.le_of_ble_eq_true rfl) (zdg dz_E_tellWay_0 2 rfl) (fun r1 u2 => ?_)
  refine vf_iload_n C (f := 3) (zdg dz_E_tellWay_0 3 rfl) 3 rfl rfl ?_
  refine vf_istore C (i := 4) (L' := [(0, (2, 1)), (1, (0, v1)), (2, (0, v2))]) (zdg dz_E_tellWay_0 4 rfl) [0, 1, 2] (jrI rfl rfl) hn (by decide) ?_
  refine vf_iload_n C (f := 2) (zdg dz_E_tellWay_0 5 rfl) 3 rfl rfl ?_
  refine vf_istore C (i := 5) (L' := [(4, (0, v3)), (0, (2, 1)), (1, (0, v1))]) (zdg dz_E_tellWay_0 6 rfl) [0, 1, 2] (jrI rfl rfl) hn (by decide) ?_
  exact vf_perm [2, 3, 1, 0] rfl (t_E_tellWay_13 C hn hR hr FU _ _ _ _)
def f_E_far_118 (v1 v2 v3 : Int) (w : Wd) : Option (Int × Wd) :=
  if v3 = (-1) then
    some ((-2), w)
  else
    jcall (f_E_tellWay v1 v3 v2 w) fun r15 u16 =>
    some (w32 (v3 + 1), u16)
theorem t_E_far_118 {X : jX} {Qf : Int × Wd → State → Prop} {ad : Nat → Nat} (C : Cx X prog_1_method_34_code "EachBringsAnother") (hn : xn X = 5) (hR : xR X = rmD 6) (hr : Rt X Qf ad prog_1_method_34_code 0) (v1 v2 v3 : Int) (w : Wd) : VF X Qf ad NF 0 0 w 118 [(0, (2, 1)), (1, (0, v1)), (2, (0, v2)), (3, (0, v3))] [] (f_E_far_118 v1 v2 v3 w) := by
  unfold f_E_far_118
  refine vf_iload_n C (f := 3) (zdg dz_E_far_2 11 rfl) 3 rfl rfl ?_
  refine vf_iconst C (z := (-1)) (zdg dz_E_far_2 12 rfl) (jz rfl) ?_
  refine vf_icmp_ne C (off := 6) (tgt := 126) (zdg dz_E_far_2 13 rfl) (by decide) ?_ ?_
  · refine vf_aload_n C (f := 0) (zdg dz_E_far_2 16 rfl) 0 rfl rfl ?_
    refine vf_iload_n C (f := 1) (zdg dz_E_far_2 17 rfl) 1 rfl rfl ?_
    refine vf_iload_n C (f := 3) (zdg dz_E_far_2 18 rfl) 3 rfl rfl ?_
    refine vf_iload_n C (f := 2) (zdg dz_E_far_2 19 rfl) 2 rfl rfl ?_
    refine vf_callVv C cy_E_tellWay ml_E_320 rfl (ct_E_tellWay _ _ _ _) (S := []) sh_0 (by decide) rfl (jrm_of hR rfl) rfl rfl (Nat.le_of_ble_eq_true rfl) (zdg dz_E_far_2 20 rfl) (fun r15 u16 => ?_)
    refine vf_iload_n C (f := 3) (zdg dz_E_far_2 21 rfl) 3 rfl rfl ?_
    refine vf_iconst C (z := 1) (zdg dz_E_far_2 22 rfl) (jz rfl) ?_
    refine vf_iadd C (zdg dz_E_far_2 23 rfl) ?_
    exact hr _ _ _ _ (fun h => absurd h (by decide)) (zdg dz_E_far_3 0 rfl)
  · refine vf_bipush C (z := (-2)) (zdg dz_E_far_2 14 rfl) (by decide +kernel) (jz rfl) ?_
    exact hr _ _ _ _ (fun h => absurd h (by decide)) (zdg dz_E_far_2 15 rfl)
def f_E_far_111 (k73 : Int → Int → Int → Int → Wd → Option (Int × Wd)) (v1 v2 v4 s0 : Int) (w : Wd) : Option (Int × Wd) :=
  jlet (w32 (v4 + 1)) fun x19 =>
  k73 v1 v2 s0 x19 w
theorem t_E_far_111 {X : jX} {Qf : Int × Wd → State → Prop} {ad : Nat → Nat} (C : Cx X prog_1_method_34_code "EachBringsAnother") (hn : xn X = 5) (hR : xR X = rmD 6) (hr : Rt X Qf ad prog_1_method_34_code 0) {k73 : Int → Int → Int → Int → Wd → Option (Int × Wd)} (hk73 : ∀ (v1 v2 v3 v4 : Int) (w : Wd), VF X Qf ad NF 0 0 w 73 [(0, (2, 1)), (1, (0, v1)), (2, (0, v2)), (3, (0, v3)), (4, (0, v4))] [] (k73 v1 v2 v3 v4 w)) (v1 v2 v4 s0 : Int) (w : Wd) : VF X Qf ad NF 0 0 w 111 [(0, (2, 1)), (1, (0, v1)), (2, (0, v2)), (4, (0, v4))] [(0, s0)] (f_E_far_111 k73 v1 v2 v4 s0 w) := by
  unfold f_E_far_111
  refine vf_istore_n C (f := 3) (L' := [(0, (2, 1)), (1, (0, v1)), (2, (0, v2)), (4, (0, v4))]) (zdg dz_E_far_2 8 rfl) [0, 1, 2, 3] (jrI rfl rfl) hn (by decide) rfl ?_
  refine vf_iinc C (z := 1) (L' := [(3, (0, s0)), (0, (2, 1)), (1, (0, v1)), (2, (0, v2))]) (zdg dz_E_far_2 9 rfl) 4 rfl [0, 1, 2, 3] (jrI rfl rfl) hn (by decide) ?_
  generalize w32 (v4 + 1) = x19
  refine vf_ul ?_
  refine vf_goto C (off := (-42)) (tgt := 73) (zdg dz_E_far_2 10 rfl) (by decide) ?_
  exact vf_perm [2, 3, 4, 1, 0] rfl (hk73 _ _ _ _ _)
def f_E_far_73 : Nat → Int → Int → Int → Int → Wd → Option (Int × Wd)
  | 0, _, _, _, _, _ => none
  | n + 1, v1, v2, v3, v4, w =>
    if (w 5 3) ≤ v4 then
      f_E_far_118 v1 v2 v3 w
    else
      if v3 = (-1) then
        jcall (f_F_within v1 v4 w) fun r17 u18 =>
        if (iand r17 v2) = 0 then
          f_E_far_111 (f_E_far_73 n) v1 v2 v4 (-1) u18
        else
          f_E_far_111 (f_E_far_73 n) v1 v2 v4 v4 u18
      else
        f_E_far_118 v1 v2 v3 w
theorem t_E_far_73 {X : jX} {Qf : Int × Wd → State → Prop} {ad : Nat → Nat} (C : Cx X prog_1_method_34_code "EachBringsAnother") (hn : xn X = 5) (hR : xR X = rmD 6) (hr : Rt X Qf ad prog_1_method_34_code 0) : ∀ (n : Nat) (v1 v2 v3 v4 : Int) (w : Wd), VF X Qf ad NF 0 0 w 73 [(0, (2, 1)), (1, (0, v1)), (2, (0, v2)), (3, (0, v3)), (4, (0, v4))] [] (f_E_far_73 n v1 v2 v3 v4 w) := by
  intro n
  induction n with
  | zero => intros; exact vf_no
  | succ n ih =>
    intro v1 v2 v3 v4 w
    rw [f_E_far_73]
    refine vf_iload C (zdg dz_E_far_1 13 rfl) 4 rfl ?_
    refine vf_aload_n C (f := 0) (zdg dz_E_far_1 14 rfl) 0 rfl rfl ?_
    refine vf_getp C fl_E_26 sh_0 rfl (by decide) rfl (x := 6) rfl (zdg dz_E_far_1 15 rfl) ?_
    refine vf_get C (kd := 0) fl_E_87 sh_5 rfl (by decide) rfl rfl (zdg dz_E_far_1 16 rfl) ?_
    refine vf_icmp_ge C (off := 36) (tgt := 118) (zdg dz_E_far_1 17 rfl) (by decide) ?_ ?_
    · exact vf_perm [0, 1, 2, 3] rfl (t_E_far_118 C hn hR hr _ _ _ _)
    · refine vf_iload_n C (f := 3) (zdg dz_E_far_1 18 rfl) 3 rfl rfl ?_
      refine vf_iconst C (z := (-1)) (zdg dz_E_far_1 19 rfl) (jz rfl) ?_
      refine vf_icmp_ne C (off := 31) (tgt := 118) (zdg dz_E_far_1 20 rfl) (by decide) ?_ ?_
      · exact vf_perm [0, 1, 2, 3] rfl (t_E_far_118 C hn hR hr _ _ _ _)
      · refine vf_aload_n C (f := 0) (zdg dz_E_far_1 21 rfl) 0 rfl rfl ?_
        refine vf_getp C fl_E_26 sh_0 rfl (by decide) rfl (x := 6) rfl (zdg dz_E_far_1 22 rfl) ?_
        refine vf_iload_n C (f := 1) (zdg dz_E_far_1 23 rfl) 1 rfl rfl ?_
        refine vf_iload C (zdg dz_E_far_2 0 rfl) 4 rfl ?_
        refine vf_callVi C cy_F_within ml_E_317 rfl (ct_F_within _ _ _) (S := []) sh_5 (by decide) rfl (jrm_of hR rfl) rfl rfl (Nat.le_of_ble_eq_true rfl) (zdg dz_E_far_2 1 rfl) (fun r17 u18 => ?_)
        refine vf_iload_n C (f := 2) (zdg dz_E_far_2 2 rfl) 2 rfl rfl ?_
        refine vf_iand C (zdg dz_E_far_2 3 rfl) ?_
        refine vf_if_eq C (off := 8) (tgt := 110) (zdg dz_E_far_2 4 rfl) (by decide) ?_ ?_
        · refine vf_iconst C (z := (-1)) (zdg dz_E_far_2 7 rfl) (jz rfl) ?_
          exact vf_perm [0, 1, 2, 4] rfl (t_E_far_111 C hn hR hr ih _ _ _ _ _)
        · refine vf_iload C (zdg dz_E_far_2 5 rfl) 4 rfl ?_
          refine vf_goto C (off := 4) (tgt := 111) (zdg dz_E_far_2 6 rfl) (by decide) ?_
          exact vf_perm [0, 1, 2, 4] rfl (t_E_far_111 C hn hR hr ih _ _ _ _ _)
def f_E_far (v1 : Int) (w : Wd) : Option (Int × Wd) :=
  jcall (f_F_isThere v1 w) fun r1 u2 =>
  if r1 = 0 then
    some ((-1), u2)
  else
    jcall (f_F_guests u2) fun r3 u4 =>
    jcall (f_E_has r3 v1 u4) fun r5 u6 =>
    if r5 = 0 then
      jcall (f_F_free u6) fun r7 u8 =>
      jcall (f_E_has r7 v1 u8) fun r9 u10 =>
      if r9 = 0 then
        some ((-2), u10)
      else
        jcall (f_F_guests u10) fun r11 u12 =>
        jcall (f_F_knownBy r11 u12) fun r13 u14 =>
        f_E_far_73 FU v1 r13 (-1) 0 u14
    else
      jcall (f_N_clear u6) fun r20 u21 =>
      some (0, u21)
theorem ct_E_far (v1 : Int) (w : Wd) : Ct y_E_far prog_1_method_34_code 5 (some .int) 6 0 [(2, 1), (0, v1)] w (f_E_far v1 w) := by
  refine ct_of (by decide +kernel) (Or.inl ⟨rfl, rfl⟩) (Nat.le_of_ble_eq_true rfl) ?_
  intro X Qf ad C hn hR hr
  unfold f_E_far
  show VF X Qf ad NF 0 0 w 0 [(0, (2, 1)), (1, (0, v1))] [] _
  refine vf_aload_n C (f := 0) (zdg dz_E_far_0 0 rfl) 0 rfl rfl ?_
  refine vf_getp C fl_E_26 sh_0 rfl (by decide) rfl (x := 6) rfl (zdg dz_E_far_0 1 rfl) ?_
  refine vf_iload_n C (f := 1) (zdg dz_E_far_0 2 rfl) 1 rfl rfl ?_
  refine vf_callVz C cy_F_isThere ml_E_108 rfl (ct_F_isThere _ _) (S := []) sh_5 (by decide) rfl (jrm_of hR rfl) rfl rfl (Nat.le_of_ble_eq_true rfl) (zdg dz_E_far_0 3 rfl) (fun r1 u2 => ?_)
  refine vf_if_ne C (off := 5) (tgt := 13) (zdg dz_E_far_0 4 rfl) (by decide) ?_ ?_
  · refine vf_aload_n C (f := 0) (zdg dz_E_far_0 7 rfl) 0 rfl rfl ?_
    refine vf_getp C fl_E_26 sh_0 rfl (by decide) rfl (x := 6) rfl (zdg dz_E_far_0 8 rfl) ?_
    refine vf_callVi C cy_F_guests ml_E_136 rfl (ct_F_guests _) (S := []) sh_5 (by decide) rfl (jrm_of hR rfl) rfl rfl (Nat.le_of_ble_eq_true rfl) (zdg dz_E_far_0 9 rfl) (fun r3 u4 => ?_)
    refine vf_iload_n C (f := 1) (zdg dz_E_far_0 10 rfl) 1 rfl rfl ?_
    refine vf_callSz C cy_E_has ml_E_128 (ct_E_has _ _ _) (S := []) (jrm_of hR rfl) rfl rfl (Nat.le_of_ble_eq_true rfl) (zdg dz_E_far_0 11 rfl) (fun r5 u6 => ?_)
    refine vf_if_eq C (off := 12) (tgt := 36) (zdg dz_E_far_0 12 rfl) (by decide) ?_ ?_
    · refine vf_aload_n C (f := 0) (zdg dz_E_far_0 18 rfl) 0 rfl rfl ?_
      refine vf_getp C fl_E_26 sh_0 rfl (by decide) rfl (x := 6) rfl (zdg dz_E_far_0 19 rfl) ?_
      refine vf_callVi C cy_F_free ml_E_253 rfl (ct_F_free _) (S := []) sh_5 (by decide) rfl (jrm_of hR rfl) rfl rfl (Nat.le_of_ble_eq_true rfl) (zdg dz_E_far_0 20 rfl) (fun r7 u8 => ?_)
      refine vf_iload_n C (f := 1) (zdg dz_E_far_0 21 rfl) 1 rfl rfl ?_
      refine vf_callSz C cy_E_has ml_E_128 (ct_E_has _ _ _) (S := []) (jrm_of hR rfl) rfl rfl (Nat.le_of_ble_eq_true rfl) (zdg dz_E_far_0 22 rfl) (fun r9 u10 => ?_)
      refine vf_if_ne C (off := 6) (tgt := 53) (zdg dz_E_far_0 23 rfl) (by decide) ?_ ?_
      · refine vf_aload_n C (f := 0) (zdg dz_E_far_1 2 rfl) 0 rfl rfl ?_
        refine vf_getp C fl_E_26 sh_0 rfl (by decide) rfl (x := 6) rfl (zdg dz_E_far_1 3 rfl) ?_
        refine vf_aload_n C (f := 0) (zdg dz_E_far_1 4 rfl) 0 rfl rfl ?_
        refine vf_getp C fl_E_26 sh_0 rfl (by decide) rfl (x := 6) rfl (zdg dz_E_far_1 5 rfl) ?_
        refine vf_callVi C cy_F_guests ml_E_136 rfl (ct_F_guests _) (S := [(2, 6)]) sh_5 (by decide) rfl (jrm_of hR rfl) rfl rfl (Nat.le_of_ble_eq_true rfl) (zdg dz_E_far_1 6 rfl) (fun r11 u12 => ?_)
        refine vf_callVi C cy_F_knownBy ml_E_250 rfl (ct_F_knownBy _ _) (S := []) sh_5 (by decide) rfl (jrm_of hR rfl) rfl rfl (Nat.le_of_ble_eq_true rfl) (zdg dz_E_far_1 7 rfl) (fun r13 u14 => ?_)
        refine vf_istore_n C (f := 2) (L' := [(0, (2, 1)), (1, (0, v1))]) (zdg dz_E_far_1 8 rfl) [0, 1] (jrI rfl rfl) hn (by decide) rfl ?_
        refine vf_iconst C (z := (-1)) (zdg dz_E_far_1 9 rfl) (jz rfl) ?_
        refine vf_istore_n C (f := 3) (L' := [(2, (0, r13)), (0, (2, 1)), (1, (0, v1))]) (zdg dz_E_far_1 10 rfl) [0, 1, 2] (jrI rfl rfl) hn (by decide) rfl ?_
        refine vf_iconst C (z := 0) (zdg dz_E_far_1 11 rfl) (jz rfl) ?_
        refine vf_istore C (i := 4) (L' := [(3, (0, (-1))), (2, (0, r13)), (0, (2, 1)), (1, (0, v1))]) (zdg dz_E_far_1 12 rfl) [0, 1, 2, 3] (jrI rfl rfl) hn (by decide) ?_
        exact vf_perm [3, 4, 2, 1, 0] rfl (t_E_far_73 C hn hR hr FU _ _ _ _ _)
      · refine vf_bipush C (z := (-2)) (zdg dz_E_far_1 0 rfl) (by decide +kernel) (jz rfl) ?_
        exact hr _ _ _ _ (fun h => absurd h (by decide)) (zdg dz_E_far_1 1 rfl)
    · refine vf_aload_n C (f := 0) (zdg dz_E_far_0 13 rfl) 0 rfl rfl ?_
      refine vf_getp C fl_E_19 sh_0 rfl (by decide) rfl (x := 4) rfl (zdg dz_E_far_0 14 rfl) ?_
      refine vf_callVv C cy_N_clear ml_E_306 rfl (ct_N_clear _) (S := []) sh_3 (by decide) rfl (jrm_of hR rfl) rfl rfl (Nat.le_of_ble_eq_true rfl) (zdg dz_E_far_0 15 rfl) (fun r20 u21 => ?_)
      refine vf_iconst C (z := 0) (zdg dz_E_far_0 16 rfl) (jz rfl) ?_
      exact hr _ _ _ _ (fun h => absurd h (by decide)) (zdg dz_E_far_0 17 rfl)
  · refine vf_iconst C (z := (-1)) (zdg dz_E_far_0 5 rfl) (jz rfl) ?_
    exact hr _ _ _ _ (fun h => absurd h (by decide)) (zdg dz_E_far_0 6 rfl)
def f_F_broughtBy (v1 : Int) (w : Wd) : Option (Int × Wd) :=
  jcall (f_F_isThere v1 w) fun r1 u2 =>
  if r1 = 0 then
    some ((-1), u2)
  else
    jgd ((0 : Int) ≤ v1 ∧ v1 < 10) <|
    some (u2 8 v1.toNat, u2)
theorem ct_F_broughtBy (v1 : Int) (w : Wd) : Ct y_F_broughtBy prog_3_method_12_code 2 (some .int) 2 0 [(2, 6), (0, v1)] w (f_F_broughtBy v1 w) := by
  refine ct_of (by decide +kernel) (Or.inl ⟨rfl, rfl⟩) (Nat.le_of_ble_eq_true rfl) ?_
  intro X Qf ad C hn hR hr
  unfold f_F_broughtBy
  show VF X Qf ad NF 0 0 w 0 [(0, (2, 6)), (1, (0, v1))] [] _
  refine vf_aload_n C (f := 0) (zdg dz_F_broughtBy_0 0 rfl) 0 rfl rfl ?_
  refine vf_iload_n C (f := 1) (zdg dz_F_broughtBy_0 1 rfl) 1 rfl rfl ?_
  refine vf_callVz C cy_F_isThere ml_F_70 rfl (ct_F_isThere _ _) (S := []) sh_5 (by decide) rfl (jrm_of hR rfl) rfl rfl (Nat.le_of_ble_eq_true rfl) (zdg dz_F_broughtBy_0 2 rfl) (fun r1 u2 => ?_)
  refine vf_if_eq C (off := 12) (tgt := 17) (zdg dz_F_broughtBy_0 3 rfl) (by decide) ?_ ?_
  · refine vf_iconst C (z := (-1)) (zdg dz_F_broughtBy_0 9 rfl) (jz rfl) ?_
    exact hr _ _ _ _ (fun h => absurd h (by decide)) (zdg dz_F_broughtBy_0 10 rfl)
  · refine vf_aload_n C (f := 0) (zdg dz_F_broughtBy_0 4 rfl) 0 rfl rfl ?_
    refine vf_getp C fl_F_18 sh_5 rfl (by decide) rfl (x := 9) rfl (zdg dz_F_broughtBy_0 5 rfl) ?_
    refine vf_iload_n C (f := 1) (zdg dz_F_broughtBy_0 6 rfl) 1 rfl rfl ?_
    refine vf_iald C sh_8 (by decide) rfl (mz := 10) rfl (zdg dz_F_broughtBy_0 7 rfl) ?_
    refine vf_goto C (off := 4) (tgt := 18) (zdg dz_F_broughtBy_0 8 rfl) (by decide) ?_
    exact hr _ _ _ _ (fun h => absurd h (by decide)) (zdg dz_F_broughtBy_0 10 rfl)
def f_E_line_70 (w : Wd) : Option (Int × Wd) :=
  some (w 3 1, w)
theorem t_E_line_70 {X : jX} {Qf : Int × Wd → State → Prop} {ad : Nat → Nat} (C : Cx X prog_1_method_35_code "EachBringsAnother") (hn : xn X = 4) (hR : xR X = rmD 3) (hr : Rt X Qf ad prog_1_method_35_code 0) (w : Wd) : VF X Qf ad NF 0 0 w 70 [(0, (2, 1))] [] (f_E_line_70 w) := by
  unfold f_E_line_70
  refine vf_aload_n C (f := 0) (zdg dz_E_line_1 12 rfl) 0 rfl rfl ?_
  refine vf_getp C fl_E_19 sh_0 rfl (by decide) rfl (x := 4) rfl (zdg dz_E_line_1 13 rfl) ?_
  refine vf_get C (kd := 0) fl_E_244 sh_3 rfl (by decide) rfl rfl (zdg dz_E_line_1 14 rfl) ?_
  exact hr _ _ _ _ (fun h => absurd h (by decide)) (zdg dz_E_line_1 15 rfl)
def f_E_line_31 : Nat → Int → Int → Wd → Option (Int × Wd)
  | 0, _, _, _ => none
  | n + 1, v2, v3, w =>
    if (w 5 3) ≤ v3 then
      f_E_line_70 w
    else
      if v2 = (-1) then
        f_E_line_70 w
      else
        jcall (f_N_putFirst v2 w) fun r7 u8 =>
        jcall (f_F_broughtBy v2 u8) fun r9 u10 =>
        jlet (w32 (v3 + 1)) fun x11 =>
        f_E_line_31 n r9 x11 u10
theorem t_E_line_31 {X : jX} {Qf : Int × Wd → State → Prop} {ad : Nat → Nat} (C : Cx X prog_1_method_35_code "EachBringsAnother") (hn : xn X = 4) (hR : xR X = rmD 3) (hr : Rt X Qf ad prog_1_method_35_code 0) : ∀ (n : Nat) (v2 v3 : Int) (w : Wd), VF X Qf ad NF 0 0 w 31 [(0, (2, 1)), (2, (0, v2)), (3, (0, v3))] [] (f_E_line_31 n v2 v3 w) := by
  intro n
  induction n with
  | zero => intros; exact vf_no
  | succ n ih =>
    intro v2 v3 w
    rw [f_E_line_31]
    refine vf_iload_n C (f := 3) (zdg dz_E_line_0 17 rfl) 2 rfl rfl ?_
    refine vf_aload_n C (f := 0) (zdg dz_E_line_0 18 rfl) 0 rfl rfl ?_
    refine vf_getp C fl_E_26 sh_0 rfl (by decide) rfl (x := 6) rfl (zdg dz_E_line_0 19 rfl) ?_
    refine vf_get C (kd := 0) fl_E_87 sh_5 rfl (by decide) rfl rfl (zdg dz_E_line_0 20 rfl) ?_
    refine vf_icmp_ge C (off := 31) (tgt := 70) (zdg dz_E_line_0 21 rfl) (by decide) ?_ ?_
    · exact vf_perm [0] rfl (t_E_line_70 C hn hR hr _)
    · refine vf_iload_n C (f := 2) (zdg dz_E_line_0 22 rfl) 1 rfl rfl ?_
      refine vf_iconst C (z := (-1)) (zdg dz_E_line_0 23 rfl) (jz rfl) ?_
      refine vf_icmp_eq C (off := 26) (tgt := 70) (zdg dz_E_line_1 0 rfl) (by decide) ?_ ?_
      · exact vf_perm [0] rfl (t_E_line_70 C hn hR hr _)
      · refine vf_aload_n C (f := 0) (zdg dz_E_line_1 1 rfl) 0 rfl rfl ?_
        refine vf_getp C fl_E_19 sh_0 rfl (by decide) rfl (x := 4) rfl (zdg dz_E_line_1 2 rfl) ?_
        refine vf_iload_n C (f := 2) (zdg dz_E_line_1 3 rfl) 1 rfl rfl ?_
        refine vf_callVv C cy_N_putFirst ml_E_327 rfl (ct_N_putFirst _ _) (S := []) sh_3 (by decide) rfl (jrm_of hR rfl) rfl rfl (Nat.le_of_ble_eq_true rfl) (zdg dz_E_line_1 4 rfl) (fun r7 u8 => ?_)
        refine vf_aload_n C (f := 0) (zdg dz_E_line_1 5 rfl) 0 rfl rfl ?_
        refine vf_getp C fl_E_26 sh_0 rfl (by decide) rfl (x := 6) rfl (zdg dz_E_line_1 6 rfl) ?_
        refine vf_iload_n C (f := 2) (zdg dz_E_line_1 7 rfl) 1 rfl rfl ?_
        refine vf_callVi C cy_F_broughtBy ml_E_324 rfl (ct_F_broughtBy _ _) (S := []) sh_5 (by decide) rfl (jrm_of hR rfl) rfl rfl (Nat.le_of_ble_eq_true rfl) (zdg dz_E_line_1 8 rfl) (fun r9 u10 => ?_)
        refine vf_istore_n C (f := 2) (L' := [(0, (2, 1)), (3, (0, v3))]) (zdg dz_E_line_1 9 rfl) [0, 2] (jrI rfl rfl) hn (by decide) rfl ?_
        refine vf_iinc C (z := 1) (L' := [(2, (0, r9)), (0, (2, 1))]) (zdg dz_E_line_1 10 rfl) 2 rfl [0, 1] (jrI rfl rfl) hn (by decide) ?_
        generalize w32 (v3 + 1) = x11
        refine vf_ul ?_
        refine vf_goto C (off := (-36)) (tgt := 31) (zdg dz_E_line_1 11 rfl) (by decide) ?_
        exact vf_perm [2, 1, 0] rfl (ih _ _ _)
def f_E_line (v1 : Int) (w : Wd) : Option (Int × Wd) :=
  jcall (f_F_isThere v1 w) fun r1 u2 =>
  if r1 = 0 then
    some ((-1), u2)
  else
    jcall (f_N_clear u2) fun r3 u4 =>
    jcall (f_F_broughtBy v1 u4) fun r5 u6 =>
    f_E_line_31 FU r5 0 u6
theorem ct_E_line (v1 : Int) (w : Wd) : Ct y_E_line prog_1_method_35_code 4 (some .int) 3 0 [(2, 1), (0, v1)] w (f_E_line v1 w) := by
  refine ct_of (by decide +kernel) (Or.inl ⟨rfl, rfl⟩) (Nat.le_of_ble_eq_true rfl) ?_
  intro X Qf ad C hn hR hr
  unfold f_E_line
  show VF X Qf ad NF 0 0 w 0 [(0, (2, 1)), (1, (0, v1))] [] _
  refine vf_aload_n C (f := 0) (zdg dz_E_line_0 0 rfl) 0 rfl rfl ?_
  refine vf_getp C fl_E_26 sh_0 rfl (by decide) rfl (x := 6) rfl (zdg dz_E_line_0 1 rfl) ?_
  refine vf_iload_n C (f := 1) (zdg dz_E_line_0 2 rfl) 1 rfl rfl ?_
  refine vf_callVz C cy_F_isThere ml_E_108 rfl (ct_F_isThere _ _) (S := []) sh_5 (by decide) rfl (jrm_of hR rfl) rfl rfl (Nat.le_of_ble_eq_true rfl) (zdg dz_E_line_0 3 rfl) (fun r1 u2 => ?_)
  refine vf_if_ne C (off := 5) (tgt := 13) (zdg dz_E_line_0 4 rfl) (by decide) ?_ ?_
  · refine vf_aload_n C (f := 0) (zdg dz_E_line_0 7 rfl) 0 rfl rfl ?_
    refine vf_getp C fl_E_19 sh_0 rfl (by decide) rfl (x := 4) rfl (zdg dz_E_line_0 8 rfl) ?_
    refine vf_callVv C cy_N_clear ml_E_306 rfl (ct_N_clear _) (S := []) sh_3 (by decide) rfl (jrm_of hR rfl) rfl rfl (Nat.le_of_ble_eq_true rfl) (zdg dz_E_line_0 9 rfl) (fun r3 u4 => ?_)
    refine vf_aload_n C (f := 0) (zdg dz_E_line_0 10 rfl) 0 rfl rfl ?_
    refine vf_getp C fl_E_26 sh_0 rfl (by decide) rfl (x := 6) rfl (zdg dz_E_line_0 11 rfl) ?_
    refine vf_iload_n C (f := 1) (zdg dz_E_line_0 12 rfl) 1 rfl rfl ?_
    refine vf_callVi C cy_F_broughtBy ml_E_324 rfl (ct_F_broughtBy _ _) (S := []) sh_5 (by decide) rfl (jrm_of hR rfl) rfl rfl (Nat.le_of_ble_eq_true rfl) (zdg dz_E_line_0 13 rfl) (fun r5 u6 => ?_)
    refine vf_istore_n C (f := 2) (L' := [(0, (2, 1))]) (zdg dz_E_line_0 14 rfl) [0] (jrI rfl rfl) hn (by decide) rfl ?_
    refine vf_iconst C (z := 0) (zdg dz_E_line_0 15 rfl) (jz rfl) ?_
    refine vf_istore_n C (f := 3) (L' := [(2, (0, r5)), (0, (2, 1))]) (zdg dz_E_line_0 16 rfl) [0, 1] (jrI rfl rfl) hn (by decide) rfl ?_
    exact vf_perm [2, 1, 0] rfl (t_E_line_31 C hn hR hr FU _ _ _)
  · refine vf_iconst C (z := (-1)) (zdg dz_E_line_0 5 rfl) (jz rfl) ?_
    exact hr _ _ _ _ (fun h => absurd h (by decide)) (zdg dz_E_line_0 6 rfl)
def f_F_stepsUp_5 : Nat → Int → Int → Int → Wd → Option (Int × Wd)
  | 0, _, _, _, _ => none
  | n + 1, v2, v3, v4, w =>
    if (w 5 3) ≤ v4 then
      some ((-1), w)
    else
      if v3 = (-1) then
        some ((-1), w)
      else
        if v3 = v2 then
          some (v4, w)
        else
          jcall (f_F_broughtBy v3 w) fun r1 u2 =>
          jlet (w32 (v4 + 1)) fun x3 =>
          f_F_stepsUp_5 n v2 r1 x3 u2
theorem t_F_stepsUp_5 {X : jX} {Qf : Int × Wd → State → Prop} {ad : Nat → Nat} (C : Cx X prog_3_method_13_code "EachBringsAnother$Folk") (hn : xn X = 5) (hR : xR X = rmD 3) (hr : Rt X Qf ad prog_3_method_13_code 0) : ∀ (n : Nat) (v2 v3 v4 : Int) (w : Wd), VF X Qf ad NF 0 0 w 5 [(0, (2, 6)), (2, (0, v2)), (3, (0, v3)), (4, (0, v4))] [] (f_F_stepsUp_5 n v2 v3 v4 w) := by
  intro n
  induction n with
  | zero => intros; exact vf_no
  | succ n ih =>
    intro v2 v3 v4 w
    rw [f_F_stepsUp_5]
    refine vf_iload C (zdg dz_F_stepsUp_0 4 rfl) 3 rfl ?_
    refine vf_aload_n C (f := 0) (zdg dz_F_stepsUp_0 5 rfl) 0 rfl rfl ?_
    refine vf_get C (kd := 0) fl_F_28 sh_5 rfl (by decide) rfl rfl (zdg dz_F_stepsUp_0 6 rfl) ?_
    refine vf_icmp_ge C (off := 28) (tgt := 39) (zdg dz_F_stepsUp_0 7 rfl) (by decide) ?_ ?_
    · refine vf_iconst C (z := (-1)) (zdg dz_F_stepsUp_0 22 rfl) (jz rfl) ?_
      exact hr _ _ _ _ (fun h => absurd h (by decide)) (zdg dz_F_stepsUp_0 23 rfl)
    · refine vf_iload_n C (f := 3) (zdg dz_F_stepsUp_0 8 rfl) 2 rfl rfl ?_
      refine vf_iconst C (z := (-1)) (zdg dz_F_stepsUp_0 9 rfl) (jz rfl) ?_
      refine vf_icmp_eq C (off := 23) (tgt := 39) (zdg dz_F_stepsUp_0 10 rfl) (by decide) ?_ ?_
      · refine vf_iconst C (z := (-1)) (zdg dz_F_stepsUp_0 22 rfl) (jz rfl) ?_
        exact hr _ _ _ _ (fun h => absurd h (by decide)) (zdg dz_F_stepsUp_0 23 rfl)
      · refine vf_iload_n C (f := 3) (zdg dz_F_stepsUp_0 11 rfl) 2 rfl rfl ?_
        refine vf_iload_n C (f := 2) (zdg dz_F_stepsUp_0 12 rfl) 1 rfl rfl ?_
        refine vf_icmp_ne C (off := 6) (tgt := 27) (zdg dz_F_stepsUp_0 13 rfl) (by decide) ?_ ?_
        · refine vf_aload_n C (f := 0) (zdg dz_F_stepsUp_0 16 rfl) 0 rfl rfl ?_
          refine vf_iload_n C (f := 3) (zdg dz_F_stepsUp_0 17 rfl) 2 rfl rfl ?_
          refine vf_callVi C cy_F_broughtBy ml_F_74 rfl (ct_F_broughtBy _ _) (S := []) sh_5 (by decide) rfl (jrm_of hR rfl) rfl rfl (Nat.le_of_ble_eq_true rfl) (zdg dz_F_stepsUp_0 18 rfl) (fun r1 u2 => ?_)
          refine vf_istore_n C (f := 3) (L' := [(0, (2, 6)), (2, (0, v2)), (4, (0, v4))]) (zdg dz_F_stepsUp_0 19 rfl) [0, 1, 3] (jrI rfl rfl) hn (by decide) rfl ?_
          refine vf_iinc C (z := 1) (L' := [(3, (0, r1)), (0, (2, 6)), (2, (0, v2))]) (zdg dz_F_stepsUp_0 20 rfl) 3 rfl [0, 1, 2] (jrI rfl rfl) hn (by decide) ?_
          generalize w32 (v4 + 1) = x3
          refine vf_ul ?_
          refine vf_goto C (off := (-31)) (tgt := 5) (zdg dz_F_stepsUp_0 21 rfl) (by decide) ?_
          exact vf_perm [2, 3, 1, 0] rfl (ih _ _ _ _)
        · refine vf_iload C (zdg dz_F_stepsUp_0 14 rfl) 3 rfl ?_
          exact hr _ _ _ _ (fun h => absurd h (by decide)) (zdg dz_F_stepsUp_0 15 rfl)
def f_F_stepsUp (v1 v2 : Int) (w : Wd) : Option (Int × Wd) :=
  f_F_stepsUp_5 FU v2 v1 0 w
theorem ct_F_stepsUp (v1 v2 : Int) (w : Wd) : Ct y_F_stepsUp prog_3_method_13_code 5 (some .int) 3 0 [(2, 6), (0, v1), (0, v2)] w (f_F_stepsUp v1 v2 w) := by
  refine ct_of (by decide +kernel) (Or.inl ⟨rfl, rfl⟩) (Nat.le_of_ble_eq_true rfl) ?_
  intro X Qf ad C hn hR hr
  unfold f_F_stepsUp
  show VF X Qf ad NF 0 0 w 0 [(0, (2, 6)), (1, (0, v1)), (2, (0, v2))] [] _
  refine vf_iload_n C (f := 1) (zdg dz_F_stepsUp_0 0 rfl) 1 rfl rfl ?_
  refine vf_istore_n C (f := 3) (L' := [(0, (2, 6)), (2, (0, v2))]) (zdg dz_F_stepsUp_0 1 rfl) [0, 2] (jrI rfl rfl) hn (by decide) rfl ?_
  refine vf_iconst C (z := 0) (zdg dz_F_stepsUp_0 2 rfl) (jz rfl) ?_
  refine vf_istore C (i := 4) (L' := [(3, (0, v1)), (0, (2, 6)), (2, (0, v2))]) (zdg dz_F_stepsUp_0 3 rfl) [0, 1, 2] (jrI rfl rfl) hn (by decide) ?_
  exact vf_perm [2, 3, 1, 0] rfl (t_F_stepsUp_5 C hn hR hr FU _ _ _ _)
def f_F_ledBy_29 (k4 : Int → Int → Int → Wd → Option (Int × Wd)) (v1 v3 s0 s1 : Int) (w : Wd) : Option (Int × Wd) :=
  jlet (ior s0 s1) fun x3 =>
  jlet (w32 (v3 + 1)) fun x4 =>
  k4 v1 x3 x4 w
theorem t_F_ledBy_29 {X : jX} {Qf : Int × Wd → State → Prop} {ad : Nat → Nat} (C : Cx X prog_3_method_14_code "EachBringsAnother$Folk") (hn : xn X = 4) (hR : xR X = rmD 4) (hr : Rt X Qf ad prog_3_method_14_code 0) {k4 : Int → Int → Int → Wd → Option (Int × Wd)} (hk4 : ∀ (v1 v2 v3 : Int) (w : Wd), VF X Qf ad NF 0 0 w 4 [(0, (2, 6)), (1, (0, v1)), (2, (0, v2)), (3, (0, v3))] [] (k4 v1 v2 v3 w)) (v1 v3 s0 s1 : Int) (w : Wd) : VF X Qf ad NF 0 0 w 29 [(0, (2, 6)), (1, (0, v1)), (3, (0, v3))] [(0, s1), (0, s0)] (f_F_ledBy_29 k4 v1 v3 s0 s1 w) := by
  unfold f_F_ledBy_29
  refine vf_ior C (zdg dz_F_ledBy_0 19 rfl) ?_
  generalize ior s0 s1 = x3
  refine vf_ul ?_
  refine vf_istore_n C (f := 2) (L' := [(0, (2, 6)), (1, (0, v1)), (3, (0, v3))]) (zdg dz_F_ledBy_0 20 rfl) [0, 1, 2] (jrI rfl rfl) hn (by decide) rfl ?_
  refine vf_iinc C (z := 1) (L' := [(2, (0, x3)), (0, (2, 6)), (1, (0, v1))]) (zdg dz_F_ledBy_0 21 rfl) 3 rfl [0, 1, 2] (jrI rfl rfl) hn (by decide) ?_
  generalize w32 (v3 + 1) = x4
  refine vf_ul ?_
  refine vf_goto C (off := (-30)) (tgt := 4) (zdg dz_F_ledBy_0 22 rfl) (by decide) ?_
  exact vf_perm [2, 3, 1, 0] rfl (hk4 _ _ _ _)
def f_F_ledBy_4 : Nat → Int → Int → Int → Wd → Option (Int × Wd)
  | 0, _, _, _, _ => none
  | n + 1, v1, v2, v3, w =>
    if (w 5 3) ≤ v3 then
      some (v2, w)
    else
      jcall (f_F_stepsUp v3 v1 w) fun r1 u2 =>
      if r1 ≤ 0 then
        f_F_ledBy_29 (f_F_ledBy_4 n) v1 v3 v2 0 u2
      else
        f_F_ledBy_29 (f_F_ledBy_4 n) v1 v3 v2 (ishl 1 v3) u2
theorem t_F_ledBy_4 {X : jX} {Qf : Int × Wd → State → Prop} {ad : Nat → Nat} (C : Cx X prog_3_method_14_code "EachBringsAnother$Folk") (hn : xn X = 4) (hR : xR X = rmD 4) (hr : Rt X Qf ad prog_3_method_14_code 0) : ∀ (n : Nat) (v1 v2 v3 : Int) (w : Wd), VF X Qf ad NF 0 0 w 4 [(0, (2, 6)), (1, (0, v1)), (2, (0, v2)), (3, (0, v3))] [] (f_F_ledBy_4 n v1 v2 v3 w) := by
  intro n
  induction n with
  | zero => intros; exact vf_no
  | succ n ih =>
    intro v1 v2 v3 w
    rw [f_F_ledBy_4]
    refine vf_iload_n C (f := 3) (zdg dz_F_ledBy_0 4 rfl) 3 rfl rfl ?_
    refine vf_aload_n C (f := 0) (zdg dz_F_ledBy_0 5 rfl) 0 rfl rfl ?_
    refine vf_get C (kd := 0) fl_F_28 sh_5 rfl (by decide) rfl rfl (zdg dz_F_ledBy_0 6 rfl) ?_
    refine vf_icmp_ge C (off := 28) (tgt := 37) (zdg dz_F_ledBy_0 7 rfl) (by decide) ?_ ?_
    · refine vf_iload_n C (f := 2) (zdg dz_F_ledBy_0 23 rfl) 2 rfl rfl ?_
      exact hr _ _ _ _ (fun h => absurd h (by decide)) (zdg dz_F_ledBy_1 0 rfl)
    · refine vf_iload_n C (f := 2) (zdg dz_F_ledBy_0 8 rfl) 2 rfl rfl ?_
      refine vf_aload_n C (f := 0) (zdg dz_F_ledBy_0 9 rfl) 0 rfl rfl ?_
      refine vf_iload_n C (f := 3) (zdg dz_F_ledBy_0 10 rfl) 3 rfl rfl ?_
      refine vf_iload_n C (f := 1) (zdg dz_F_ledBy_0 11 rfl) 1 rfl rfl ?_
      refine vf_callVi C cy_F_stepsUp ml_F_77 rfl (ct_F_stepsUp _ _ _) (S := [(0, v2)]) sh_5 (by decide) rfl (jrm_of hR rfl) rfl rfl (Nat.le_of_ble_eq_true rfl) (zdg dz_F_ledBy_0 12 rfl) (fun r1 u2 => ?_)
      refine vf_if_le C (off := 9) (tgt := 28) (zdg dz_F_ledBy_0 13 rfl) (by decide) ?_ ?_
      · refine vf_iconst C (z := 0) (zdg dz_F_ledBy_0 18 rfl) (jz rfl) ?_
        exact vf_perm [0, 1, 3] rfl (t_F_ledBy_29 C hn hR hr ih _ _ _ _ _)
      · refine vf_iconst C (z := 1) (zdg dz_F_ledBy_0 14 rfl) (jz rfl) ?_
        refine vf_iload_n C (f := 3) (zdg dz_F_ledBy_0 15 rfl) 3 rfl rfl ?_
        refine vf_ishl C (zdg dz_F_ledBy_0 16 rfl) ?_
        refine vf_goto C (off := 4) (tgt := 29) (zdg dz_F_ledBy_0 17 rfl) (by decide) ?_
        exact vf_perm [0, 1, 3] rfl (t_F_ledBy_29 C hn hR hr ih _ _ _ _ _)
def f_F_ledBy (v1 : Int) (w : Wd) : Option (Int × Wd) :=
  f_F_ledBy_4 FU v1 0 0 w
theorem ct_F_ledBy (v1 : Int) (w : Wd) : Ct y_F_ledBy prog_3_method_14_code 4 (some .int) 4 0 [(2, 6), (0, v1)] w (f_F_ledBy v1 w) := by
  refine ct_of (by decide +kernel) (Or.inl ⟨rfl, rfl⟩) (Nat.le_of_ble_eq_true rfl) ?_
  intro X Qf ad C hn hR hr
  unfold f_F_ledBy
  show VF X Qf ad NF 0 0 w 0 [(0, (2, 6)), (1, (0, v1))] [] _
  refine vf_iconst C (z := 0) (zdg dz_F_ledBy_0 0 rfl) (jz rfl) ?_
  refine vf_istore_n C (f := 2) (L' := [(0, (2, 6)), (1, (0, v1))]) (zdg dz_F_ledBy_0 1 rfl) [0, 1] (jrI rfl rfl) hn (by decide) rfl ?_
  refine vf_iconst C (z := 0) (zdg dz_F_ledBy_0 2 rfl) (jz rfl) ?_
  refine vf_istore_n C (f := 3) (L' := [(2, (0, 0)), (0, (2, 6)), (1, (0, v1))]) (zdg dz_F_ledBy_0 3 rfl) [0, 1, 2] (jrI rfl rfl) hn (by decide) rfl ?_
  exact vf_perm [2, 3, 1, 0] rfl (t_F_ledBy_4 C hn hR hr FU _ _ _ _)
def f_E_led_51 (k20 : Int → Int → Int → Int → Wd → Option (Int × Wd)) (v1 v3 v4 s0 s1 : Int) (w : Wd) : Option (Int × Wd) :=
  jlet (w32 (s0 + s1)) fun x9 =>
  jcall (f_F_stepsUp v4 v1 w) fun r10 u11 =>
  jlet (imax v3 r10) fun x12 =>
  jlet (w32 (v4 + 1)) fun x13 =>
  k20 v1 x9 x12 x13 u11
theorem t_E_led_51 {X : jX} {Qf : Int × Wd → State → Prop} {ad : Nat → Nat} (C : Cx X prog_1_method_36_code "EachBringsAnother") (hn : xn X = 5) (hR : xR X = rmD 5) (hr : Rt X Qf ad prog_1_method_36_code 0) {k20 : Int → Int → Int → Int → Wd → Option (Int × Wd)} (hk20 : ∀ (v1 v2 v3 v4 : Int) (w : Wd), VF X Qf ad NF 0 0 w 20 [(0, (2, 1)), (1, (0, v1)), (2, (0, v2)), (3, (0, v3)), (4, (0, v4))] [] (k20 v1 v2 v3 v4 w)) (v1 v3 v4 s0 s1 : Int) (w : Wd) : VF X Qf ad NF 0 0 w 51 [(0, (2, 1)), (1, (0, v1)), (3, (0, v3)), (4, (0, v4))] [(0, s1), (0, s0)] (f_E_led_51 k20 v1 v3 v4 s0 s1 w) := by
  unfold f_E_led_51
  refine vf_iadd C (zdg dz_E_led_1 4 rfl) ?_
  generalize w32 (s0 + s1) = x9
  refine vf_ul ?_
  refine vf_istore_n C (f := 2) (L' := [(0, (2, 1)), (1, (0, v1)), (3, (0, v3)), (4, (0, v4))]) (zdg dz_E_led_1 5 rfl) [0, 1, 2, 3] (jrI rfl rfl) hn (by decide) rfl ?_
  refine vf_iload_n C (f := 3) (zdg dz_E_led_1 6 rfl) 3 rfl rfl ?_
  refine vf_aload_n C (f := 0) (zdg dz_E_led_1 7 rfl) 1 rfl rfl ?_
  refine vf_getp C fl_E_26 sh_0 rfl (by decide) rfl (x := 6) rfl (zdg dz_E_led_1 8 rfl) ?_
  refine vf_iload C (zdg dz_E_led_1 9 rfl) 4 rfl ?_
  refine vf_iload_n C (f := 1) (zdg dz_E_led_1 10 rfl) 2 rfl rfl ?_
  refine vf_callVi C cy_F_stepsUp ml_E_330 rfl (ct_F_stepsUp _ _ _) (S := [(0, v3)]) sh_5 (by decide) rfl (jrm_of hR rfl) rfl rfl (Nat.le_of_ble_eq_true rfl) (zdg dz_E_led_1 11 rfl) (fun r10 u11 => ?_)
  refine vf_mmax C ml_E_269 (jrm_n hR (by decide)) ⟨Nat.zero_le _, Nat.zero_le _⟩ (Nat.le_of_ble_eq_true rfl) (zdg dz_E_led_1 12 rfl) ?_
  generalize imax v3 r10 = x12
  refine vf_ul ?_
  refine vf_istore_n C (f := 3) (L' := [(2, (0, x9)), (0, (2, 1)), (1, (0, v1)), (4, (0, v4))]) (zdg dz_E_led_1 13 rfl) [0, 1, 2, 4] (jrI rfl rfl) hn (by decide) rfl ?_
  refine vf_iinc C (z := 1) (L' := [(3, (0, x12)), (2, (0, x9)), (0, (2, 1)), (1, (0, v1))]) (zdg dz_E_led_1 14 rfl) 4 rfl [0, 1, 2, 3] (jrI rfl rfl) hn (by decide) ?_
  generalize w32 (v4 + 1) = x13
  refine vf_ul ?_
  refine vf_goto C (off := (-51)) (tgt := 20) (zdg dz_E_led_1 15 rfl) (by decide) ?_
  exact vf_perm [3, 4, 2, 1, 0] rfl (hk20 _ _ _ _ _)
def f_E_led_20 : Nat → Int → Int → Int → Int → Wd → Option (Int × Wd)
  | 0, _, _, _, _, _ => none
  | n + 1, v1, v2, v3, v4, w =>
    if (w 5 3) ≤ v4 then
      jcall (f_N_tell2 v2 v3 w) fun r3 u4 =>
      jcall (f_F_ledBy v1 u4) fun r5 u6 =>
      some (r5, u6)
    else
      jcall (f_F_broughtBy v4 w) fun r7 u8 =>
      if r7 = v1 then
        f_E_led_51 (f_E_led_20 n) v1 v3 v4 v2 1 u8
      else
        f_E_led_51 (f_E_led_20 n) v1 v3 v4 v2 0 u8
theorem t_E_led_20 {X : jX} {Qf : Int × Wd → State → Prop} {ad : Nat → Nat} (C : Cx X prog_1_method_36_code "EachBringsAnother") (hn : xn X = 5) (hR : xR X = rmD 5) (hr : Rt X Qf ad prog_1_method_36_code 0) : ∀ (n : Nat) (v1 v2 v3 v4 : Int) (w : Wd), VF X Qf ad NF 0 0 w 20 [(0, (2, 1)), (1, (0, v1)), (2, (0, v2)), (3, (0, v3)), (4, (0, v4))] [] (f_E_led_20 n v1 v2 v3 v4 w) := by
  intro n
  induction n with
  | zero => intros; exact vf_no
  | succ n ih =>
    intro v1 v2 v3 v4 w
    rw [f_E_led_20]
    refine vf_iload C (zdg dz_E_led_0 13 rfl) 4 rfl ?_
    refine vf_aload_n C (f := 0) (zdg dz_E_led_0 14 rfl) 0 rfl rfl ?_
    refine vf_getp C fl_E_26 sh_0 rfl (by decide) rfl (x := 6) rfl (zdg dz_E_led_0 15 rfl) ?_
    refine vf_get C (kd := 0) fl_E_87 sh_5 rfl (by decide) rfl rfl (zdg dz_E_led_0 16 rfl) ?_
    refine vf_icmp_ge C (off := 45) (tgt := 74) (zdg dz_E_led_0 17 rfl) (by decide) ?_ ?_
    · refine vf_aload_n C (f := 0) (zdg dz_E_led_1 16 rfl) 0 rfl rfl ?_
      refine vf_getp C fl_E_19 sh_0 rfl (by decide) rfl (x := 4) rfl (zdg dz_E_led_1 17 rfl) ?_
      refine vf_iload_n C (f := 2) (zdg dz_E_led_1 18 rfl) 2 rfl rfl ?_
      refine vf_iload_n C (f := 3) (zdg dz_E_led_1 19 rfl) 3 rfl rfl ?_
      refine vf_callVv C cy_N_tell2 ml_E_216 rfl (ct_N_tell2 _ _ _) (S := []) sh_3 (by decide) rfl (jrm_of hR rfl) rfl rfl (Nat.le_of_ble_eq_true rfl) (zdg dz_E_led_1 20 rfl) (fun r3 u4 => ?_)
      refine vf_aload_n C (f := 0) (zdg dz_E_led_1 21 rfl) 0 rfl rfl ?_
      refine vf_getp C fl_E_26 sh_0 rfl (by decide) rfl (x := 6) rfl (zdg dz_E_led_1 22 rfl) ?_
      refine vf_iload_n C (f := 1) (zdg dz_E_led_1 23 rfl) 1 rfl rfl ?_
      refine vf_callVi C cy_F_ledBy ml_E_333 rfl (ct_F_ledBy _ _) (S := []) sh_5 (by decide) rfl (jrm_of hR rfl) rfl rfl (Nat.le_of_ble_eq_true rfl) (zdg dz_E_led_2 0 rfl) (fun r5 u6 => ?_)
      exact hr _ _ _ _ (fun h => absurd h (by decide)) (zdg dz_E_led_2 1 rfl)
    · refine vf_iload_n C (f := 2) (zdg dz_E_led_0 18 rfl) 2 rfl rfl ?_
      refine vf_aload_n C (f := 0) (zdg dz_E_led_0 19 rfl) 0 rfl rfl ?_
      refine vf_getp C fl_E_26 sh_0 rfl (by decide) rfl (x := 6) rfl (zdg dz_E_led_0 20 rfl) ?_
      refine vf_iload C (zdg dz_E_led_0 21 rfl) 4 rfl ?_
      refine vf_callVi C cy_F_broughtBy ml_E_324 rfl (ct_F_broughtBy _ _) (S := [(0, v2)]) sh_5 (by decide) rfl (jrm_of hR rfl) rfl rfl (Nat.le_of_ble_eq_true rfl) (zdg dz_E_led_0 22 rfl) (fun r7 u8 => ?_)
      refine vf_iload_n C (f := 1) (zdg dz_E_led_0 23 rfl) 1 rfl rfl ?_
      refine vf_icmp_ne C (off := 7) (tgt := 50) (zdg dz_E_led_1 0 rfl) (by decide) ?_ ?_
      · refine vf_iconst C (z := 0) (zdg dz_E_led_1 3 rfl) (jz rfl) ?_
        exact vf_perm [0, 1, 3, 4] rfl (t_E_led_51 C hn hR hr ih _ _ _ _ _ _)
      · refine vf_iconst C (z := 1) (zdg dz_E_led_1 1 rfl) (jz rfl) ?_
        refine vf_goto C (off := 4) (tgt := 51) (zdg dz_E_led_1 2 rfl) (by decide) ?_
        exact vf_perm [0, 1, 3, 4] rfl (t_E_led_51 C hn hR hr ih _ _ _ _ _ _)
def f_E_led (v1 : Int) (w : Wd) : Option (Int × Wd) :=
  jcall (f_F_isThere v1 w) fun r1 u2 =>
  if r1 = 0 then
    some ((-1), u2)
  else
    f_E_led_20 FU v1 0 0 0 u2
theorem ct_E_led (v1 : Int) (w : Wd) : Ct y_E_led prog_1_method_36_code 5 (some .int) 5 0 [(2, 1), (0, v1)] w (f_E_led v1 w) := by
  refine ct_of (by decide +kernel) (Or.inl ⟨rfl, rfl⟩) (Nat.le_of_ble_eq_true rfl) ?_
  intro X Qf ad C hn hR hr
  unfold f_E_led
  show VF X Qf ad NF 0 0 w 0 [(0, (2, 1)), (1, (0, v1))] [] _
  refine vf_aload_n C (f := 0) (zdg dz_E_led_0 0 rfl) 0 rfl rfl ?_
  refine vf_getp C fl_E_26 sh_0 rfl (by decide) rfl (x := 6) rfl (zdg dz_E_led_0 1 rfl) ?_
  refine vf_iload_n C (f := 1) (zdg dz_E_led_0 2 rfl) 1 rfl rfl ?_
  refine vf_callVz C cy_F_isThere ml_E_108 rfl (ct_F_isThere _ _) (S := []) sh_5 (by decide) rfl (jrm_of hR rfl) rfl rfl (Nat.le_of_ble_eq_true rfl) (zdg dz_E_led_0 3 rfl) (fun r1 u2 => ?_)
  refine vf_if_ne C (off := 5) (tgt := 13) (zdg dz_E_led_0 4 rfl) (by decide) ?_ ?_
  · refine vf_iconst C (z := 0) (zdg dz_E_led_0 7 rfl) (jz rfl) ?_
    refine vf_istore_n C (f := 2) (L' := [(0, (2, 1)), (1, (0, v1))]) (zdg dz_E_led_0 8 rfl) [0, 1] (jrI rfl rfl) hn (by decide) rfl ?_
    refine vf_iconst C (z := 0) (zdg dz_E_led_0 9 rfl) (jz rfl) ?_
    refine vf_istore_n C (f := 3) (L' := [(2, (0, 0)), (0, (2, 1)), (1, (0, v1))]) (zdg dz_E_led_0 10 rfl) [0, 1, 2] (jrI rfl rfl) hn (by decide) rfl ?_
    refine vf_iconst C (z := 0) (zdg dz_E_led_0 11 rfl) (jz rfl) ?_
    refine vf_istore C (i := 4) (L' := [(3, (0, 0)), (2, (0, 0)), (0, (2, 1)), (1, (0, v1))]) (zdg dz_E_led_0 12 rfl) [0, 1, 2, 3] (jrI rfl rfl) hn (by decide) ?_
    exact vf_perm [3, 4, 2, 1, 0] rfl (t_E_led_20 C hn hR hr FU _ _ _ _ _)
  · refine vf_iconst C (z := (-1)) (zdg dz_E_led_0 5 rfl) (jz rfl) ?_
    exact hr _ _ _ _ (fun h => absurd h (by decide)) (zdg dz_E_led_0 6 rfl)
def f_E_was_15 (w : Wd) : Option (Int × Wd) :=
  some ((-1), w)
theorem t_E_was_15 {X : jX} {Qf : Int × Wd → State → Prop} {ad : Nat → Nat} (C : Cx X prog_1_method_37_code "EachBringsAnother") (hn : xn X = 2) (hR : xR X = rmD 3) (hr : Rt X Qf ad prog_1_method_37_code 0) (w : Wd) : VF X Qf ad NF 0 0 w 15 [] [] (f_E_was_15 w) := by
  unfold f_E_was_15
  refine vf_iconst C (z := (-1)) (zdg dz_E_was_0 7 rfl) (jz rfl) ?_
  refine vf_goto C (off := 11) (tgt := 27) (zdg dz_E_was_0 8 rfl) (by decide) ?_
  exact hr _ _ _ _ (fun h => absurd h (by decide)) (zdg dz_E_was_0 13 rfl)
def f_E_was (v1 : Int) (w : Wd) : Option (Int × Wd) :=
  if v1 < 0 then
    f_E_was_15 w
  else
    if v1 ≤ (w 15 3) then
      jcall (f_D_guestsBehind v1 w) fun r1 u2 =>
      some (r1, u2)
    else
      f_E_was_15 w
theorem ct_E_was (v1 : Int) (w : Wd) : Ct y_E_was prog_1_method_37_code 2 (some .int) 3 0 [(2, 1), (0, v1)] w (f_E_was v1 w) := by
  refine ct_of (by decide +kernel) (Or.inl ⟨rfl, rfl⟩) (Nat.le_of_ble_eq_true rfl) ?_
  intro X Qf ad C hn hR hr
  unfold f_E_was
  show VF X Qf ad NF 0 0 w 0 [(0, (2, 1)), (1, (0, v1))] [] _
  refine vf_iload_n C (f := 1) (zdg dz_E_was_0 0 rfl) 1 rfl rfl ?_
  refine vf_if_lt C (off := 14) (tgt := 15) (zdg dz_E_was_0 1 rfl) (by decide) ?_ ?_
  · exact vf_perm [] rfl (t_E_was_15 C hn hR hr _)
  · refine vf_iload_n C (f := 1) (zdg dz_E_was_0 2 rfl) 1 rfl rfl ?_
    refine vf_aload_n C (f := 0) (zdg dz_E_was_0 3 rfl) 0 rfl rfl ?_
    refine vf_getp C fl_E_47 sh_0 rfl (by decide) rfl (x := 16) rfl (zdg dz_E_was_0 4 rfl) ?_
    refine vf_get C (kd := 0) fl_E_192 sh_15 rfl (by decide) rfl rfl (zdg dz_E_was_0 5 rfl) ?_
    refine vf_icmp_le C (off := 7) (tgt := 19) (zdg dz_E_was_0 6 rfl) (by decide) ?_ ?_
    · refine vf_aload_n C (f := 0) (zdg dz_E_was_0 9 rfl) 0 rfl rfl ?_
      refine vf_getp C fl_E_47 sh_0 rfl (by decide) rfl (x := 16) rfl (zdg dz_E_was_0 10 rfl) ?_
      refine vf_iload_n C (f := 1) (zdg dz_E_was_0 11 rfl) 1 rfl rfl ?_
      refine vf_callVi C cy_D_guestsBehind ml_E_336 rfl (ct_D_guestsBehind _ _) (S := []) sh_15 (by decide) rfl (jrm_of hR rfl) rfl rfl (Nat.le_of_ble_eq_true rfl) (zdg dz_E_was_0 12 rfl) (fun r1 u2 => ?_)
      exact hr _ _ _ _ (fun h => absurd h (by decide)) (zdg dz_E_was_0 13 rfl)
    · exact vf_perm [] rfl (t_E_was_15 C hn hR hr _)
def f_E_common_16 : Nat → Int → Int → Int → Wd → Option (Int × Wd)
  | 0, _, _, _, _ => none
  | n + 1, v2, v3, v4, w =>
    if (w 5 3) ≤ v4 then
      some ((-2), w)
    else
      if v3 = (-1) then
        some ((-2), w)
      else
        jcall (f_F_stepsUp v2 v3 w) fun r3 u4 =>
        if r3 < 0 then
          jcall (f_F_broughtBy v3 u4) fun r5 u6 =>
          jlet (w32 (v4 + 1)) fun x7 =>
          f_E_common_16 n v2 r5 x7 u6
        else
          some (v3, u4)
theorem t_E_common_16 {X : jX} {Qf : Int × Wd → State → Prop} {ad : Nat → Nat} (C : Cx X prog_1_method_38_code "EachBringsAnother") (hn : xn X = 5) (hR : xR X = rmD 4) (hr : Rt X Qf ad prog_1_method_38_code 0) : ∀ (n : Nat) (v2 v3 v4 : Int) (w : Wd), VF X Qf ad NF 0 0 w 16 [(0, (2, 1)), (2, (0, v2)), (3, (0, v3)), (4, (0, v4))] [] (f_E_common_16 n v2 v3 v4 w) := by
  intro n
  induction n with
  | zero => intros; exact vf_no
  | succ n ih =>
    intro v2 v3 v4 w
    rw [f_E_common_16]
    refine vf_iload C (zdg dz_E_common_0 11 rfl) 3 rfl ?_
    refine vf_aload_n C (f := 0) (zdg dz_E_common_0 12 rfl) 0 rfl rfl ?_
    refine vf_getp C fl_E_26 sh_0 rfl (by decide) rfl (x := 6) rfl (zdg dz_E_common_0 13 rfl) ?_
    refine vf_get C (kd := 0) fl_E_87 sh_5 rfl (by decide) rfl rfl (zdg dz_E_common_0 14 rfl) ?_
    refine vf_icmp_ge C (off := 37) (tgt := 62) (zdg dz_E_common_0 15 rfl) (by decide) ?_ ?_
    · refine vf_bipush C (z := (-2)) (zdg dz_E_common_1 10 rfl) (by decide +kernel) (jz rfl) ?_
      exact hr _ _ _ _ (fun h => absurd h (by decide)) (zdg dz_E_common_1 11 rfl)
    · refine vf_iload_n C (f := 3) (zdg dz_E_common_0 16 rfl) 2 rfl rfl ?_
      refine vf_iconst C (z := (-1)) (zdg dz_E_common_0 17 rfl) (jz rfl) ?_
      refine vf_icmp_eq C (off := 32) (tgt := 62) (zdg dz_E_common_0 18 rfl) (by decide) ?_ ?_
      · refine vf_bipush C (z := (-2)) (zdg dz_E_common_1 10 rfl) (by decide +kernel) (jz rfl) ?_
        exact hr _ _ _ _ (fun h => absurd h (by decide)) (zdg dz_E_common_1 11 rfl)
      · refine vf_aload_n C (f := 0) (zdg dz_E_common_0 19 rfl) 0 rfl rfl ?_
        refine vf_getp C fl_E_26 sh_0 rfl (by decide) rfl (x := 6) rfl (zdg dz_E_common_0 20 rfl) ?_
        refine vf_iload_n C (f := 2) (zdg dz_E_common_0 21 rfl) 1 rfl rfl ?_
        refine vf_iload_n C (f := 3) (zdg dz_E_common_0 22 rfl) 2 rfl rfl ?_
        refine vf_callVi C cy_F_stepsUp ml_E_330 rfl (ct_F_stepsUp _ _ _) (S := []) sh_5 (by decide) rfl (jrm_of hR rfl) rfl rfl (Nat.le_of_ble_eq_true rfl) (zdg dz_E_common_0 23 rfl) (fun r3 u4 => ?_)
        refine vf_if_lt C (off := 5) (tgt := 47) (zdg dz_E_common_1 0 rfl) (by decide) ?_ ?_
        · refine vf_aload_n C (f := 0) (zdg dz_E_common_1 3 rfl) 0 rfl rfl ?_
          refine vf_getp C fl_E_26 sh_0 rfl (by decide) rfl (x := 6) rfl (zdg dz_E_common_1 4 rfl) ?_
          refine vf_iload_n C (f := 3) (zdg dz_E_common_1 5 rfl) 2 rfl rfl ?_
          refine vf_callVi C cy_F_broughtBy ml_E_324 rfl (ct_F_broughtBy _ _) (S := []) sh_5 (by decide) rfl (jrm_of hR rfl) rfl rfl (Nat.le_of_ble_eq_true rfl) (zdg dz_E_common_1 6 rfl) (fun r5 u6 => ?_)
          refine vf_istore_n C (f := 3) (L' := [(0, (2, 1)), (2, (0, v2)), (4, (0, v4))]) (zdg dz_E_common_1 7 rfl) [0, 1, 3] (jrI rfl rfl) hn (by decide) rfl ?_
          refine vf_iinc C (z := 1) (L' := [(3, (0, r5)), (0, (2, 1)), (2, (0, v2))]) (zdg dz_E_common_1 8 rfl) 3 rfl [0, 1, 2] (jrI rfl rfl) hn (by decide) ?_
          generalize w32 (v4 + 1) = x7
          refine vf_ul ?_
          refine vf_goto C (off := (-43)) (tgt := 16) (zdg dz_E_common_1 9 rfl) (by decide) ?_
          exact vf_perm [2, 3, 1, 0] rfl (ih _ _ _ _)
        · refine vf_iload_n C (f := 3) (zdg dz_E_common_1 1 rfl) 2 rfl rfl ?_
          exact hr _ _ _ _ (fun h => absurd h (by decide)) (zdg dz_E_common_1 2 rfl)
def f_E_common (v1 v2 : Int) (w : Wd) : Option (Int × Wd) :=
  jcall (f_E_areTwo v1 v2 w) fun r1 u2 =>
  if r1 = 0 then
    some ((-1), u2)
  else
    f_E_common_16 FU v2 v1 0 u2
theorem ct_E_common (v1 v2 : Int) (w : Wd) : Ct y_E_common prog_1_method_38_code 5 (some .int) 4 0 [(2, 1), (0, v1), (0, v2)] w (f_E_common v1 v2 w) := by
  refine ct_of (by decide +kernel) (Or.inl ⟨rfl, rfl⟩) (Nat.le_of_ble_eq_true rfl) ?_
  intro X Qf ad C hn hR hr
  unfold f_E_common
  show VF X Qf ad NF 0 0 w 0 [(0, (2, 1)), (1, (0, v1)), (2, (0, v2))] [] _
  refine vf_aload_n C (f := 0) (zdg dz_E_common_0 0 rfl) 0 rfl rfl ?_
  refine vf_iload_n C (f := 1) (zdg dz_E_common_0 1 rfl) 1 rfl rfl ?_
  refine vf_iload_n C (f := 2) (zdg dz_E_common_0 2 rfl) 2 rfl rfl ?_
  refine vf_callVz C cy_E_areTwo ml_E_165 rfl (ct_E_areTwo _ _ _) (S := []) sh_0 (by decide) rfl (jrm_of hR rfl) rfl rfl (Nat.le_of_ble_eq_true rfl) (zdg dz_E_common_0 3 rfl) (fun r1 u2 => ?_)
  refine vf_if_ne C (off := 5) (tgt := 11) (zdg dz_E_common_0 4 rfl) (by decide) ?_ ?_
  · refine vf_iload_n C (f := 1) (zdg dz_E_common_0 7 rfl) 1 rfl rfl ?_
    refine vf_istore_n C (f := 3) (L' := [(0, (2, 1)), (2, (0, v2))]) (zdg dz_E_common_0 8 rfl) [0, 2] (jrI rfl rfl) hn (by decide) rfl ?_
    refine vf_iconst C (z := 0) (zdg dz_E_common_0 9 rfl) (jz rfl) ?_
    refine vf_istore C (i := 4) (L' := [(3, (0, v1)), (0, (2, 1)), (2, (0, v2))]) (zdg dz_E_common_0 10 rfl) [0, 1, 2] (jrI rfl rfl) hn (by decide) ?_
    exact vf_perm [2, 3, 1, 0] rfl (t_E_common_16 C hn hR hr FU _ _ _ _)
  · refine vf_iconst C (z := (-1)) (zdg dz_E_common_0 5 rfl) (jz rfl) ?_
    exact hr _ _ _ _ (fun h => absurd h (by decide)) (zdg dz_E_common_0 6 rfl)
def f_E_father_41 (k6 : Int → Int → Int → Wd → Option (Int × Wd)) (v1 v2 v3 : Int) (w : Wd) : Option (Int × Wd) :=
  jlet (w32 (v3 + 1)) fun x7 =>
  k6 v1 v2 x7 w
theorem t_E_father_41 {X : jX} {Qf : Int × Wd → State → Prop} {ad : Nat → Nat} (C : Cx X prog_1_method_39_code "EachBringsAnother") (hn : xn X = 5) (hR : xR X = rmD 5) (hr : Rt X Qf ad prog_1_method_39_code 0) {k6 : Int → Int → Int → Wd → Option (Int × Wd)} (hk6 : ∀ (v1 v2 v3 : Int) (w : Wd), VF X Qf ad NF 0 0 w 6 [(0, (2, 1)), (1, (0, v1)), (2, (0, v2)), (3, (0, v3))] [] (k6 v1 v2 v3 w)) (v1 v2 v3 : Int) (w : Wd) : VF X Qf ad NF 0 0 w 41 [(0, (2, 1)), (1, (0, v1)), (2, (0, v2)), (3, (0, v3))] [] (f_E_father_41 k6 v1 v2 v3 w) := by
  unfold f_E_father_41
  refine vf_iinc C (z := 1) (L' := [(0, (2, 1)), (1, (0, v1)), (2, (0, v2))]) (zdg dz_E_father_1 0 rfl) 3 rfl [0, 1, 2] (jrI rfl rfl) hn (by decide) ?_
  generalize w32 (v3 + 1) = x7
  refine vf_ul ?_
  refine vf_goto C (off := (-38)) (tgt := 6) (zdg dz_E_father_1 1 rfl) (by decide) ?_
  exact vf_perm [1, 2, 3, 0] rfl (hk6 _ _ _ _)
def f_E_father_6 : Nat → Int → Int → Int → Wd → Option (Int × Wd)
  | 0, _, _, _, _ => none
  | n + 1, v1, v2, v3, w =>
    if (w 5 3) ≤ v3 then
      if v1 = (-1) then
        some ((-2), w)
      else
        jcall (f_N_tell1 v2 w) fun r1 u2 =>
        some (v1, u2)
    else
      jcall (f_F_ledBy v3 w) fun r3 u4 =>
      jcall (f_JI_bitCount r3 u4) fun r5 u6 =>
      if r5 ≤ v2 then
        f_E_father_41 (f_E_father_6 n) v1 v2 v3 u6
      else
        f_E_father_41 (f_E_father_6 n) v3 r5 v3 u6
theorem t_E_father_6 {X : jX} {Qf : Int × Wd → State → Prop} {ad : Nat → Nat} (C : Cx X prog_1_method_39_code "EachBringsAnother") (hn : xn X = 5) (hR : xR X = rmD 5) (hr : Rt X Qf ad prog_1_method_39_code 0) : ∀ (n : Nat) (v1 v2 v3 : Int) (w : Wd), VF X Qf ad NF 0 0 w 6 [(0, (2, 1)), (1, (0, v1)), (2, (0, v2)), (3, (0, v3))] [] (f_E_father_6 n v1 v2 v3 w) := by
  intro n
  induction n with
  | zero => intros; exact vf_no
  | succ n ih =>
    intro v1 v2 v3 w
    rw [f_E_father_6]
    refine vf_iload_n C (f := 3) (zdg dz_E_father_0 6 rfl) 3 rfl rfl ?_
    refine vf_aload_n C (f := 0) (zdg dz_E_father_0 7 rfl) 0 rfl rfl ?_
    refine vf_getp C fl_E_26 sh_0 rfl (by decide) rfl (x := 6) rfl (zdg dz_E_father_0 8 rfl) ?_
    refine vf_get C (kd := 0) fl_E_87 sh_5 rfl (by decide) rfl rfl (zdg dz_E_father_0 9 rfl) ?_
    refine vf_icmp_ge C (off := 33) (tgt := 47) (zdg dz_E_father_0 10 rfl) (by decide) ?_ ?_
    · refine vf_iload_n C (f := 1) (zdg dz_E_father_1 2 rfl) 1 rfl rfl ?_
      refine vf_iconst C (z := (-1)) (zdg dz_E_father_1 3 rfl) (jz rfl) ?_
      refine vf_icmp_ne C (off := 6) (tgt := 55) (zdg dz_E_father_1 4 rfl) (by decide) ?_ ?_
      · refine vf_aload_n C (f := 0) (zdg dz_E_father_1 7 rfl) 0 rfl rfl ?_
        refine vf_getp C fl_E_19 sh_0 rfl (by decide) rfl (x := 4) rfl (zdg dz_E_father_1 8 rfl) ?_
        refine vf_iload_n C (f := 2) (zdg dz_E_father_1 9 rfl) 2 rfl rfl ?_
        refine vf_callVv C cy_N_tell1 ml_E_231 rfl (ct_N_tell1 _ _) (S := []) sh_3 (by decide) rfl (jrm_of hR rfl) rfl rfl (Nat.le_of_ble_eq_true rfl) (zdg dz_E_father_1 10 rfl) (fun r1 u2 => ?_)
        refine vf_iload_n C (f := 1) (zdg dz_E_father_1 11 rfl) 1 rfl rfl ?_
        exact hr _ _ _ _ (fun h => absurd h (by decide)) (zdg dz_E_father_1 12 rfl)
      · refine vf_bipush C (z := (-2)) (zdg dz_E_father_1 5 rfl) (by decide +kernel) (jz rfl) ?_
        exact hr _ _ _ _ (fun h => absurd h (by decide)) (zdg dz_E_father_1 6 rfl)
    · refine vf_aload_n C (f := 0) (zdg dz_E_father_0 11 rfl) 0 rfl rfl ?_
      refine vf_getp C fl_E_26 sh_0 rfl (by decide) rfl (x := 6) rfl (zdg dz_E_father_0 12 rfl) ?_
      refine vf_iload_n C (f := 3) (zdg dz_E_father_0 13 rfl) 3 rfl rfl ?_
      refine vf_callVi C cy_F_ledBy ml_E_333 rfl (ct_F_ledBy _ _) (S := []) sh_5 (by decide) rfl (jrm_of hR rfl) rfl rfl (Nat.le_of_ble_eq_true rfl) (zdg dz_E_father_0 14 rfl) (fun r3 u4 => ?_)
      refine vf_callSi C cy_JI_bitCount ml_E_245 (ct_JI_bitCount _ _) (S := []) (jrm_of hR rfl) rfl rfl (Nat.le_of_ble_eq_true rfl) (zdg dz_E_father_0 15 rfl) (fun r5 u6 => ?_)
      refine vf_istore C (i := 4) (L' := [(0, (2, 1)), (1, (0, v1)), (2, (0, v2)), (3, (0, v3))]) (zdg dz_E_father_0 16 rfl) [0, 1, 2, 3] (jrI rfl rfl) hn (by decide) ?_
      refine vf_iload C (zdg dz_E_father_0 17 rfl) 0 rfl ?_
      refine vf_iload_n C (f := 2) (zdg dz_E_father_0 18 rfl) 3 rfl rfl ?_
      refine vf_icmp_le C (off := 8) (tgt := 41) (zdg dz_E_father_0 19 rfl) (by decide) ?_ ?_
      · exact vf_perm [1, 2, 3, 4] rfl (t_E_father_41 C hn hR hr ih _ _ _ _)
      · refine vf_iload_n C (f := 3) (zdg dz_E_father_0 20 rfl) 4 rfl rfl ?_
        refine vf_istore_n C (f := 1) (L' := [(4, (0, r5)), (0, (2, 1)), (3, (0, v3))]) (zdg dz_E_father_0 21 rfl) [0, 1, 4] (jrI rfl rfl) hn (by decide) rfl ?_
        refine vf_iload C (zdg dz_E_father_0 22 rfl) 1 rfl ?_
        refine vf_istore_n C (f := 2) (L' := [(1, (0, v3)), (0, (2, 1)), (3, (0, v3))]) (zdg dz_E_father_0 23 rfl) [0, 2, 3] (jrI rfl rfl) hn (by decide) rfl ?_
        exact vf_perm [2, 1, 0, 3] rfl (t_E_father_41 C hn hR hr ih _ _ _ _)
def f_E_father (w : Wd) : Option (Int × Wd) :=
  f_E_father_6 FU (-1) 0 0 w
theorem ct_E_father (w : Wd) : Ct y_E_father prog_1_method_39_code 5 (some .int) 5 0 [(2, 1)] w (f_E_father w) := by
  refine ct_of (by decide +kernel) (Or.inl ⟨rfl, rfl⟩) (Nat.le_of_ble_eq_true rfl) ?_
  intro X Qf ad C hn hR hr
  unfold f_E_father
  show VF X Qf ad NF 0 0 w 0 [(0, (2, 1))] [] _
  refine vf_iconst C (z := (-1)) (zdg dz_E_father_0 0 rfl) (jz rfl) ?_
  refine vf_istore_n C (f := 1) (L' := [(0, (2, 1))]) (zdg dz_E_father_0 1 rfl) [0] (jrI rfl rfl) hn (by decide) rfl ?_
  refine vf_iconst C (z := 0) (zdg dz_E_father_0 2 rfl) (jz rfl) ?_
  refine vf_istore_n C (f := 2) (L' := [(1, (0, (-1))), (0, (2, 1))]) (zdg dz_E_father_0 3 rfl) [0, 1] (jrI rfl rfl) hn (by decide) rfl ?_
  refine vf_iconst C (z := 0) (zdg dz_E_father_0 4 rfl) (jz rfl) ?_
  refine vf_istore_n C (f := 3) (L' := [(2, (0, 0)), (1, (0, (-1))), (0, (2, 1))]) (zdg dz_E_father_0 5 rfl) [0, 1, 2] (jrI rfl rfl) hn (by decide) rfl ?_
  exact vf_perm [3, 2, 1, 0] rfl (t_E_father_6 C hn hR hr FU _ _ _ _)
def f_K_take (w : Wd) : Option (Int × Wd) :=
  jlw (st w 37 2 1) fun u1 =>
  jlw (st u1 37 3 (u1 5 3)) fun u2 =>
  jlw (st u2 37 4 (u2 5 4)) fun u3 =>
  jlw (st u3 37 5 (u3 5 5)) fun u4 =>
  jlw (st u4 37 6 (u4 5 6)) fun u5 =>
  jlw (st u5 37 7 (u5 5 7)) fun u6 =>
  jlw (st u6 37 8 (u6 5 8)) fun u7 =>
  jlw (st u7 37 9 (u7 15 3)) fun u8 =>
  jgd ((0 : Int) ≤ (0 : Int) ∧ (0 : Int) ≤ (0 : Int) ∧ (0 : Int) ≤ (10 : Int) ∧ (0 : Int) + (10 : Int) ≤ 10 ∧ (0 : Int) + (10 : Int) ≤ 10) <|
  jlw (cpy u8 8 38 0 0 10) fun u9 =>
  jgd ((0 : Int) ≤ (0 : Int) ∧ (0 : Int) ≤ (0 : Int) ∧ (0 : Int) ≤ (61 : Int) ∧ (0 : Int) + (61 : Int) ≤ 61 ∧ (0 : Int) + (61 : Int) ≤ 61) <|
  jlw (cpy u9 16 39 0 0 61) fun u10 =>
  some (0, u10)
theorem ct_K_take (w : Wd) : Ct y_K_take prog_4_method_3_code 3 none 1 9 [(2, 38), (2, 6), (2, 16)] w (f_K_take w) := by
  refine ct_of (by decide +kernel) (Or.inr (Or.inr (Or.inr ⟨rfl, rfl⟩))) (Nat.le_of_ble_eq_true rfl) ?_
  intro X Qf ad C hn hR hr
  unfold f_K_take
  show VF X Qf ad NF 0 0 w 0 [(0, (2, 38)), (1, (2, 6)), (2, (2, 16))] [] _
  refine vf_aload_n C (f := 0) (zdg dz_K_take_0 0 rfl) 0 rfl rfl ?_
  refine vf_iconst C (z := 1) (zdg dz_K_take_0 1 rfl) (jz rfl) ?_
  refine vf_putzl C fl_K_18 fk_6_2 sh_37 rfl (by decide) rfl (Or.inr rfl) (zdg dz_K_take_0 2 rfl) ?_
  generalize st w 37 2 1 = u1
  refine vf_uw ?_
  refine vf_aload_n C (f := 0) (zdg dz_K_take_0 3 rfl) 0 rfl rfl ?_
  refine vf_aload_n C (f := 1) (zdg dz_K_take_0 4 rfl) 1 rfl rfl ?_
  refine vf_get C (kd := 0) fl_K_26 sh_5 rfl (by decide) rfl rfl (zdg dz_K_take_0 5 rfl) ?_
  refine vf_put C (kd := 0) fl_K_22 fk_6_3 sh_37 rfl (by decide) rfl rfl (by decide) (zdg dz_K_take_0 6 rfl) ?_
  generalize st u1 37 3 (u1 5 3) = u2
  refine vf_uw ?_
  refine vf_aload_n C (f := 0) (zdg dz_K_take_0 7 rfl) 0 rfl rfl ?_
  refine vf_aload_n C (f := 1) (zdg dz_K_take_0 8 rfl) 1 rfl rfl ?_
  refine vf_get C (kd := 0) fl_K_29 sh_5 rfl (by decide) rfl rfl (zdg dz_K_take_0 9 rfl) ?_
  refine vf_put C (kd := 0) fl_K_32 fk_6_4 sh_37 rfl (by decide) rfl rfl (by decide) (zdg dz_K_take_0 10 rfl) ?_
  generalize st u2 37 4 (u2 5 4) = u3
  refine vf_uw ?_
  refine vf_aload_n C (f := 0) (zdg dz_K_take_0 11 rfl) 0 rfl rfl ?_
  refine vf_aload_n C (f := 1) (zdg dz_K_take_0 12 rfl) 1 rfl rfl ?_
  refine vf_get C (kd := 0) fl_K_33 sh_5 rfl (by decide) rfl rfl (zdg dz_K_take_0 13 rfl) ?_
  refine vf_put C (kd := 0) fl_K_36 fk_6_5 sh_37 rfl (by decide) rfl rfl (by decide) (zdg dz_K_take_0 14 rfl) ?_
  generalize st u3 37 5 (u3 5 5) = u4
  refine vf_uw ?_
  refine vf_aload_n C (f := 0) (zdg dz_K_take_0 15 rfl) 0 rfl rfl ?_
  refine vf_aload_n C (f := 1) (zdg dz_K_take_0 16 rfl) 1 rfl rfl ?_
  refine vf_get C (kd := 0) fl_K_37 sh_5 rfl (by decide) rfl rfl (zdg dz_K_take_0 17 rfl) ?_
  refine vf_put C (kd := 0) fl_K_40 fk_6_6 sh_37 rfl (by decide) rfl rfl (by decide) (zdg dz_K_take_0 18 rfl) ?_
  generalize st u4 37 6 (u4 5 6) = u5
  refine vf_uw ?_
  refine vf_aload_n C (f := 0) (zdg dz_K_take_0 19 rfl) 0 rfl rfl ?_
  refine vf_aload_n C (f := 1) (zdg dz_K_take_0 20 rfl) 1 rfl rfl ?_
  refine vf_get C (kd := 0) fl_K_41 sh_5 rfl (by decide) rfl rfl (zdg dz_K_take_0 21 rfl) ?_
  refine vf_put C (kd := 0) fl_K_44 fk_6_7 sh_37 rfl (by decide) rfl rfl (by decide) (zdg dz_K_take_0 22 rfl) ?_
  generalize st u5 37 7 (u5 5 7) = u6
  refine vf_uw ?_
  refine vf_aload_n C (f := 0) (zdg dz_K_take_0 23 rfl) 0 rfl rfl ?_
  refine vf_aload_n C (f := 1) (zdg dz_K_take_1 0 rfl) 1 rfl rfl ?_
  refine vf_get C (kd := 0) fl_K_45 sh_5 rfl (by decide) rfl rfl (zdg dz_K_take_1 1 rfl) ?_
  refine vf_put C (kd := 0) fl_K_48 fk_6_8 sh_37 rfl (by decide) rfl rfl (by decide) (zdg dz_K_take_1 2 rfl) ?_
  generalize st u6 37 8 (u6 5 8) = u7
  refine vf_uw ?_
  refine vf_aload_n C (f := 0) (zdg dz_K_take_1 3 rfl) 0 rfl rfl ?_
  refine vf_aload_n C (f := 2) (zdg dz_K_take_1 4 rfl) 2 rfl rfl ?_
  refine vf_get C (kd := 0) fl_K_49 sh_15 rfl (by decide) rfl rfl (zdg dz_K_take_1 5 rfl) ?_
  refine vf_put C (kd := 0) fl_K_54 fk_6_9 sh_37 rfl (by decide) rfl rfl (by decide) (zdg dz_K_take_1 6 rfl) ?_
  generalize st u7 37 9 (u7 15 3) = u8
  refine vf_uw ?_
  refine vf_aload_n C (f := 1) (zdg dz_K_take_1 7 rfl) 1 rfl rfl ?_
  refine vf_getp C fl_K_55 sh_5 rfl (by decide) rfl (x := 9) rfl (zdg dz_K_take_1 8 rfl) ?_
  refine vf_iconst C (z := 0) (zdg dz_K_take_1 9 rfl) (jz rfl) ?_
  refine vf_aload_n C (f := 0) (zdg dz_K_take_1 10 rfl) 0 rfl rfl ?_
  refine vf_getp C fl_K_9 sh_37 rfl (by decide) rfl (x := 39) rfl (zdg dz_K_take_1 11 rfl) ?_
  refine vf_iconst C (z := 0) (zdg dz_K_take_1 12 rfl) (jz rfl) ?_
  refine vf_bipush C (z := 10) (zdg dz_K_take_1 13 rfl) (by decide +kernel) (jz rfl) ?_
  refine vf_copy C ml_K_56 sh_8 sh_38 (by decide) (by decide) (by decide) rfl rfl rfl rfl (jrm_n hR (by decide)) (Nat.le_of_ble_eq_true rfl) (by decide +kernel) ?_
  generalize cpy u8 8 38 0 0 10 = u9
  refine vf_uw ?_
  refine vf_aload_n C (f := 2) (zdg dz_K_take_1 15 rfl) 2 rfl rfl ?_
  refine vf_getp C fl_K_62 sh_15 rfl (by decide) rfl (x := 17) rfl (zdg dz_K_take_1 16 rfl) ?_
  refine vf_iconst C (z := 0) (zdg dz_K_take_1 17 rfl) (jz rfl) ?_
  refine vf_aload_n C (f := 0) (zdg dz_K_take_1 18 rfl) 0 rfl rfl ?_
  refine vf_getp C fl_K_15 sh_37 rfl (by decide) rfl (x := 40) rfl (zdg dz_K_take_1 19 rfl) ?_
  refine vf_iconst C (z := 0) (zdg dz_K_take_1 20 rfl) (jz rfl) ?_
  refine vf_bipush C (z := 61) (zdg dz_K_take_1 21 rfl) (by decide +kernel) (jz rfl) ?_
  refine vf_copy C ml_K_56 sh_16 sh_39 (by decide) (by decide) (by decide) rfl rfl rfl rfl (jrm_n hR (by decide)) (Nat.le_of_ble_eq_true rfl) (by decide +kernel) ?_
  generalize cpy u9 16 39 0 0 61 = u10
  refine vf_uw ?_
  exact hr _ _ _ _ (fun h => absurd h (by decide)) (zdg dz_K_take_1 23 rfl)
def f_K_take_40_5_15 (w : Wd) : Option (Int × Wd) :=
  jlw (st w 40 2 1) fun u1 =>
  jlw (st u1 40 3 (u1 5 3)) fun u2 =>
  jlw (st u2 40 4 (u2 5 4)) fun u3 =>
  jlw (st u3 40 5 (u3 5 5)) fun u4 =>
  jlw (st u4 40 6 (u4 5 6)) fun u5 =>
  jlw (st u5 40 7 (u5 5 7)) fun u6 =>
  jlw (st u6 40 8 (u6 5 8)) fun u7 =>
  jlw (st u7 40 9 (u7 15 3)) fun u8 =>
  jgd ((0 : Int) ≤ (0 : Int) ∧ (0 : Int) ≤ (0 : Int) ∧ (0 : Int) ≤ (10 : Int) ∧ (0 : Int) + (10 : Int) ≤ 10 ∧ (0 : Int) + (10 : Int) ≤ 10) <|
  jlw (cpy u8 8 41 0 0 10) fun u9 =>
  jgd ((0 : Int) ≤ (0 : Int) ∧ (0 : Int) ≤ (0 : Int) ∧ (0 : Int) ≤ (61 : Int) ∧ (0 : Int) + (61 : Int) ≤ 61 ∧ (0 : Int) + (61 : Int) ≤ 61) <|
  jlw (cpy u9 16 42 0 0 61) fun u10 =>
  some (0, u10)
theorem ct_K_take_40_5_15 (w : Wd) : Ct y_K_take prog_4_method_3_code 3 none 1 9 [(2, 41), (2, 6), (2, 16)] w (f_K_take_40_5_15 w) := by
  refine ct_of (by decide +kernel) (Or.inr (Or.inr (Or.inr ⟨rfl, rfl⟩))) (Nat.le_of_ble_eq_true rfl) ?_
  intro X Qf ad C hn hR hr
  unfold f_K_take_40_5_15
  show VF X Qf ad NF 0 0 w 0 [(0, (2, 41)), (1, (2, 6)), (2, (2, 16))] [] _
  refine vf_aload_n C (f := 0) (zdg dz_K_take_0 0 rfl) 0 rfl rfl ?_
  refine vf_iconst C (z := 1) (zdg dz_K_take_0 1 rfl) (jz rfl) ?_
  refine vf_putzl C fl_K_18 fk_6_2 sh_40 rfl (by decide) rfl (Or.inr rfl) (zdg dz_K_take_0 2 rfl) ?_
  generalize st w 40 2 1 = u1
  refine vf_uw ?_
  refine vf_aload_n C (f := 0) (zdg dz_K_take_0 3 rfl) 0 rfl rfl ?_
  refine vf_aload_n C (f := 1) (zdg dz_K_take_0 4 rfl) 1 rfl rfl ?_
  refine vf_get C (kd := 0) fl_K_26 sh_5 rfl (by decide) rfl rfl (zdg dz_K_take_0 5 rfl) ?_
  refine vf_put C (kd := 0) fl_K_22 fk_6_3 sh_40 rfl (by decide) rfl rfl (by decide) (zdg dz_K_take_0 6 rfl) ?_
  generalize st u1 40 3 (u1 5 3) = u2
  refine vf_uw ?_
  refine vf_aload_n C (f := 0) (zdg dz_K_take_0 7 rfl) 0 rfl rfl ?_
  refine vf_aload_n C (f := 1) (zdg dz_K_take_0 8 rfl) 1 rfl rfl ?_
  refine vf_get C (kd := 0) fl_K_29 sh_5 rfl (by decide) rfl rfl (zdg dz_K_take_0 9 rfl) ?_
  refine vf_put C (kd := 0) fl_K_32 fk_6_4 sh_40 rfl (by decide) rfl rfl (by decide) (zdg dz_K_take_0 10 rfl) ?_
  generalize st u2 40 4 (u2 5 4) = u3
  refine vf_uw ?_
  refine vf_aload_n C (f := 0) (zdg dz_K_take_0 11 rfl) 0 rfl rfl ?_
  refine vf_aload_n C (f := 1) (zdg dz_K_take_0 12 rfl) 1 rfl rfl ?_
  refine vf_get C (kd := 0) fl_K_33 sh_5 rfl (by decide) rfl rfl (zdg dz_K_take_0 13 rfl) ?_
  refine vf_put C (kd := 0) fl_K_36 fk_6_5 sh_40 rfl (by decide) rfl rfl (by decide) (zdg dz_K_take_0 14 rfl) ?_
  generalize st u3 40 5 (u3 5 5) = u4
  refine vf_uw ?_
  refine vf_aload_n C (f := 0) (zdg dz_K_take_0 15 rfl) 0 rfl rfl ?_
  refine vf_aload_n C (f := 1) (zdg dz_K_take_0 16 rfl) 1 rfl rfl ?_
  refine vf_get C (kd := 0) fl_K_37 sh_5 rfl (by decide) rfl rfl (zdg dz_K_take_0 17 rfl) ?_
  refine vf_put C (kd := 0) fl_K_40 fk_6_6 sh_40 rfl (by decide) rfl rfl (by decide) (zdg dz_K_take_0 18 rfl) ?_
  generalize st u4 40 6 (u4 5 6) = u5
  refine vf_uw ?_
  refine vf_aload_n C (f := 0) (zdg dz_K_take_0 19 rfl) 0 rfl rfl ?_
  refine vf_aload_n C (f := 1) (zdg dz_K_take_0 20 rfl) 1 rfl rfl ?_
  refine vf_get C (kd := 0) fl_K_41 sh_5 rfl (by decide) rfl rfl (zdg dz_K_take_0 21 rfl) ?_
  refine vf_put C (kd := 0) fl_K_44 fk_6_7 sh_40 rfl (by decide) rfl rfl (by decide) (zdg dz_K_take_0 22 rfl) ?_
  generalize st u5 40 7 (u5 5 7) = u6
  refine vf_uw ?_
  refine vf_aload_n C (f := 0) (zdg dz_K_take_0 23 rfl) 0 rfl rfl ?_
  refine vf_aload_n C (f := 1) (zdg dz_K_take_1 0 rfl) 1 rfl rfl ?_
  refine vf_get C (kd := 0) fl_K_45 sh_5 rfl (by decide) rfl rfl (zdg dz_K_take_1 1 rfl) ?_
  refine vf_put C (kd := 0) fl_K_48 fk_6_8 sh_40 rfl (by decide) rfl rfl (by decide) (zdg dz_K_take_1 2 rfl) ?_
  generalize st u6 40 8 (u6 5 8) = u7
  refine vf_uw ?_
  refine vf_aload_n C (f := 0) (zdg dz_K_take_1 3 rfl) 0 rfl rfl ?_
  refine vf_aload_n C (f := 2) (zdg dz_K_take_1 4 rfl) 2 rfl rfl ?_
  refine vf_get C (kd := 0) fl_K_49 sh_15 rfl (by decide) rfl rfl (zdg dz_K_take_1 5 rfl) ?_
  refine vf_put C (kd := 0) fl_K_54 fk_6_9 sh_40 rfl (by decide) rfl rfl (by decide) (zdg dz_K_take_1 6 rfl) ?_
  generalize st u7 40 9 (u7 15 3) = u8
  refine vf_uw ?_
  refine vf_aload_n C (f := 1) (zdg dz_K_take_1 7 rfl) 1 rfl rfl ?_
  refine vf_getp C fl_K_55 sh_5 rfl (by decide) rfl (x := 9) rfl (zdg dz_K_take_1 8 rfl) ?_
  refine vf_iconst C (z := 0) (zdg dz_K_take_1 9 rfl) (jz rfl) ?_
  refine vf_aload_n C (f := 0) (zdg dz_K_take_1 10 rfl) 0 rfl rfl ?_
  refine vf_getp C fl_K_9 sh_40 rfl (by decide) rfl (x := 42) rfl (zdg dz_K_take_1 11 rfl) ?_
  refine vf_iconst C (z := 0) (zdg dz_K_take_1 12 rfl) (jz rfl) ?_
  refine vf_bipush C (z := 10) (zdg dz_K_take_1 13 rfl) (by decide +kernel) (jz rfl) ?_
  refine vf_copy C ml_K_56 sh_8 sh_41 (by decide) (by decide) (by decide) rfl rfl rfl rfl (jrm_n hR (by decide)) (Nat.le_of_ble_eq_true rfl) (by decide +kernel) ?_
  generalize cpy u8 8 41 0 0 10 = u9
  refine vf_uw ?_
  refine vf_aload_n C (f := 2) (zdg dz_K_take_1 15 rfl) 2 rfl rfl ?_
  refine vf_getp C fl_K_62 sh_15 rfl (by decide) rfl (x := 17) rfl (zdg dz_K_take_1 16 rfl) ?_
  refine vf_iconst C (z := 0) (zdg dz_K_take_1 17 rfl) (jz rfl) ?_
  refine vf_aload_n C (f := 0) (zdg dz_K_take_1 18 rfl) 0 rfl rfl ?_
  refine vf_getp C fl_K_15 sh_40 rfl (by decide) rfl (x := 43) rfl (zdg dz_K_take_1 19 rfl) ?_
  refine vf_iconst C (z := 0) (zdg dz_K_take_1 20 rfl) (jz rfl) ?_
  refine vf_bipush C (z := 61) (zdg dz_K_take_1 21 rfl) (by decide +kernel) (jz rfl) ?_
  refine vf_copy C ml_K_56 sh_16 sh_42 (by decide) (by decide) (by decide) rfl rfl rfl rfl (jrm_n hR (by decide)) (Nat.le_of_ble_eq_true rfl) (by decide +kernel) ?_
  generalize cpy u9 16 42 0 0 61 = u10
  refine vf_uw ?_
  exact hr _ _ _ _ (fun h => absurd h (by decide)) (zdg dz_K_take_1 23 rfl)
def f_E_keep (v1 : Int) (w : Wd) : Option (Int × Wd) :=
  if v1 < 0 then
    some (0, w)
  else
    if v1 < 2 then
      if v1 = 0 then
        jcall (f_K_take w) fun r1 u2 =>
        some (1, u2)
      else
      if v1 = 1 then
        jcall (f_K_take_40_5_15 w) fun r3 u4 =>
        some (1, u4)
      else
      none
    else
      some (0, w)
theorem ct_E_keep (v1 : Int) (w : Wd) : Ct y_E_keep prog_1_method_40_code 2 (some .boolean) 2 4 [(2, 1), (0, v1)] w (f_E_keep v1 w) := by
  refine ct_of (by decide +kernel) (Or.inr (Or.inr (Or.inl ⟨rfl, rfl⟩))) (Nat.le_of_ble_eq_true rfl) ?_
  intro X Qf ad C hn hR hr
  unfold f_E_keep
  show VF X Qf ad NF 0 0 w 0 [(0, (2, 1)), (1, (0, v1))] [] _
  refine vf_iload_n C (f := 1) (zdg dz_E_keep_0 0 rfl) 1 rfl rfl ?_
  refine vf_if_lt C (off := 12) (tgt := 13) (zdg dz_E_keep_0 1 rfl) (by decide) ?_ ?_
  · refine vf_iconst C (z := 0) (zdg dz_E_keep_0 7 rfl) (jz rfl) ?_
    exact hr _ _ _ _ (fun _ => Or.inl rfl) (zdg dz_E_keep_0 8 rfl)
  · refine vf_iload_n C (f := 1) (zdg dz_E_keep_0 2 rfl) 1 rfl rfl ?_
    refine vf_aload_n C (f := 0) (zdg dz_E_keep_0 3 rfl) 0 rfl rfl ?_
    refine vf_getp C fl_E_75 sh_0 rfl (by decide) rfl (x := 37) rfl (zdg dz_E_keep_0 4 rfl) ?_
    refine vf_alen C sh_36 (by decide) (by decide) rfl (x := 2) rfl (jz rfl) (zdg dz_E_keep_0 5 rfl) ?_
    refine vf_icmp_lt C (off := 5) (tgt := 15) (zdg dz_E_keep_0 6 rfl) (by decide) ?_ ?_
    · refine vf_aload_n C (f := 0) (zdg dz_E_keep_0 9 rfl) 0 rfl rfl ?_
      refine vf_getp C fl_E_75 sh_0 rfl (by decide) rfl (x := 37) rfl (zdg dz_E_keep_0 10 rfl) ?_
      refine vf_iload_n C (f := 1) (zdg dz_E_keep_0 11 rfl) 1 rfl rfl ?_
      refine vf_if _ (fun h => ?_) (fun _ => ?_)
      · refine vf_aald C sh_36 (by decide) rfl (by rw [h]; decide) (z := 38) (by rw [h]; rfl) (x := 38) rfl (zdg dz_E_keep_0 12 rfl) ?_
        refine vf_aload_n C (f := 0) (zdg dz_E_keep_0 13 rfl) 0 rfl rfl ?_
        refine vf_getp C fl_E_26 sh_0 rfl (by decide) rfl (x := 6) rfl (zdg dz_E_keep_0 14 rfl) ?_
        refine vf_aload_n C (f := 0) (zdg dz_E_keep_0 15 rfl) 0 rfl rfl ?_
        refine vf_getp C fl_E_47 sh_0 rfl (by decide) rfl (x := 16) rfl (zdg dz_E_keep_0 16 rfl) ?_
        refine vf_callVv C cy_K_take ml_E_339 rfl (ct_K_take _) (S := []) sh_37 (by decide) rfl (jrm_of hR rfl) rfl rfl (Nat.le_of_ble_eq_true rfl) (zdg dz_E_keep_0 17 rfl) (fun r1 u2 => ?_)
        refine vf_iconst C (z := 1) (zdg dz_E_keep_0 18 rfl) (jz rfl) ?_
        exact hr _ _ _ _ (fun _ => Or.inr rfl) (zdg dz_E_keep_0 19 rfl)
      refine vf_if _ (fun h => ?_) (fun _ => ?_)
      · refine vf_aald C sh_36 (by decide) rfl (by rw [h]; decide) (z := 41) (by rw [h]; rfl) (x := 41) rfl (zdg dz_E_keep_0 12 rfl) ?_
        refine vf_aload_n C (f := 0) (zdg dz_E_keep_0 13 rfl) 0 rfl rfl ?_
        refine vf_getp C fl_E_26 sh_0 rfl (by decide) rfl (x := 6) rfl (zdg dz_E_keep_0 14 rfl) ?_
        refine vf_aload_n C (f := 0) (zdg dz_E_keep_0 15 rfl) 0 rfl rfl ?_
        refine vf_getp C fl_E_47 sh_0 rfl (by decide) rfl (x := 16) rfl (zdg dz_E_keep_0 16 rfl) ?_
        refine vf_callVv C cy_K_take ml_E_339 rfl (ct_K_take_40_5_15 _) (S := []) sh_40 (by decide) rfl (jrm_of hR rfl) rfl rfl (Nat.le_of_ble_eq_true rfl) (zdg dz_E_keep_0 17 rfl) (fun r3 u4 => ?_)
        refine vf_iconst C (z := 1) (zdg dz_E_keep_0 18 rfl) (jz rfl) ?_
        exact hr _ _ _ _ (fun _ => Or.inr rfl) (zdg dz_E_keep_0 19 rfl)
      exact vf_no
    · refine vf_iconst C (z := 0) (zdg dz_E_keep_0 7 rfl) (jz rfl) ?_
      exact hr _ _ _ _ (fun _ => Or.inl rfl) (zdg dz_E_keep_0 8 rfl)
end
section
def f_K_fits (w : Wd) : Option (Int × Wd) :=
  if (w 37 2) = 0 then
    some (0, w)
  else
    if (w 37 3) = (w 5 3) then
      some (1, w)
    else
      some (0, w)
theorem ct_K_fits (w : Wd) : Ct y_K_fits prog_4_method_2_code 2 (some .boolean) 1 4 [(2, 38), (2, 6)] w (f_K_fits w) := by
  refine ct_of (by decide +kernel) (Or.inr (Or.inr (Or.inl ⟨rfl, rfl⟩))) (Nat.le_of_ble_eq_true rfl) ?_
  intro X Qf ad C hn hR hr
  unfold f_K_fits
  show VF X Qf ad NF 0 0 w 0 [(0, (2, 38)), (1, (2, 6))] [] _
  refine vf_aload_n C (f := 0) (zdg dz_K_fits_0 0 rfl) 0 rfl rfl ?_
  refine vf_get C (kd := 0) fl_K_18 sh_37 rfl (by decide) rfl rfl (zdg dz_K_fits_0 1 rfl) ?_
  refine vf_if_eq C (off := 18) (tgt := 22) (zdg dz_K_fits_0 2 rfl) (by decide) ?_ ?_
  · refine vf_iconst C (z := 0) (zdg dz_K_fits_0 10 rfl) (jz rfl) ?_
    exact hr _ _ _ _ (fun _ => Or.inl rfl) (zdg dz_K_fits_0 11 rfl)
  · refine vf_aload_n C (f := 0) (zdg dz_K_fits_0 3 rfl) 0 rfl rfl ?_
    refine vf_get C (kd := 0) fl_K_22 sh_37 rfl (by decide) rfl rfl (zdg dz_K_fits_0 4 rfl) ?_
    refine vf_aload_n C (f := 1) (zdg dz_K_fits_0 5 rfl) 1 rfl rfl ?_
    refine vf_get C (kd := 0) fl_K_26 sh_5 rfl (by decide) rfl rfl (zdg dz_K_fits_0 6 rfl) ?_
    refine vf_icmp_ne C (off := 7) (tgt := 22) (zdg dz_K_fits_0 7 rfl) (by decide) ?_ ?_
    · refine vf_iconst C (z := 0) (zdg dz_K_fits_0 10 rfl) (jz rfl) ?_
      exact hr _ _ _ _ (fun _ => Or.inl rfl) (zdg dz_K_fits_0 11 rfl)
    · refine vf_iconst C (z := 1) (zdg dz_K_fits_0 8 rfl) (jz rfl) ?_
      refine vf_goto C (off := 4) (tgt := 23) (zdg dz_K_fits_0 9 rfl) (by decide) ?_
      exact hr _ _ _ _ (fun _ => Or.inr rfl) (zdg dz_K_fits_0 11 rfl)
def f_K_giveBack (w : Wd) : Option (Int × Wd) :=
  jlw (st w 5 4 (w 37 4)) fun u1 =>
  jlw (st u1 5 5 (u1 37 5)) fun u2 =>
  jlw (st u2 5 6 (u2 37 6)) fun u3 =>
  jlw (st u3 5 7 (u3 37 7)) fun u4 =>
  jlw (st u4 5 8 (u4 37 8)) fun u5 =>
  jlw (st u5 15 3 (u5 37 9)) fun u6 =>
  jlw (st u6 15 4 0) fun u7 =>
  jgd ((0 : Int) ≤ (0 : Int) ∧ (0 : Int) ≤ (0 : Int) ∧ (0 : Int) ≤ (10 : Int) ∧ (0 : Int) + (10 : Int) ≤ 10 ∧ (0 : Int) + (10 : Int) ≤ 10) <|
  jlw (cpy u7 38 8 0 0 10) fun u8 =>
  jgd ((0 : Int) ≤ (0 : Int) ∧ (0 : Int) ≤ (0 : Int) ∧ (0 : Int) ≤ (61 : Int) ∧ (0 : Int) + (61 : Int) ≤ 61 ∧ (0 : Int) + (61 : Int) ≤ 61) <|
  jlw (cpy u8 39 16 0 0 61) fun u9 =>
  some (0, u9)
theorem ct_K_giveBack (w : Wd) : Ct y_K_giveBack prog_4_method_4_code 3 none 1 9 [(2, 38), (2, 6), (2, 16)] w (f_K_giveBack w) := by
  refine ct_of (by decide +kernel) (Or.inr (Or.inr (Or.inr ⟨rfl, rfl⟩))) (Nat.le_of_ble_eq_true rfl) ?_
  intro X Qf ad C hn hR hr
  unfold f_K_giveBack
  show VF X Qf ad NF 0 0 w 0 [(0, (2, 38)), (1, (2, 6)), (2, (2, 16))] [] _
  refine vf_aload_n C (f := 1) (zdg dz_K_giveBack_0 0 rfl) 1 rfl rfl ?_
  refine vf_aload_n C (f := 0) (zdg dz_K_giveBack_0 1 rfl) 0 rfl rfl ?_
  refine vf_get C (kd := 0) fl_K_32 sh_37 rfl (by decide) rfl rfl (zdg dz_K_giveBack_0 2 rfl) ?_
  refine vf_put C (kd := 0) fl_K_29 fk_2_4 sh_5 rfl (by decide) rfl rfl (by decide) (zdg dz_K_giveBack_0 3 rfl) ?_
  generalize st w 5 4 (w 37 4) = u1
  refine vf_uw ?_
  refine vf_aload_n C (f := 1) (zdg dz_K_giveBack_0 4 rfl) 1 rfl rfl ?_
  refine vf_aload_n C (f := 0) (zdg dz_K_giveBack_0 5 rfl) 0 rfl rfl ?_
  refine vf_get C (kd := 0) fl_K_36 sh_37 rfl (by decide) rfl rfl (zdg dz_K_giveBack_0 6 rfl) ?_
  refine vf_put C (kd := 0) fl_K_33 fk_2_5 sh_5 rfl (by decide) rfl rfl (by decide) (zdg dz_K_giveBack_0 7 rfl) ?_
  generalize st u1 5 5 (u1 37 5) = u2
  refine vf_uw ?_
  refine vf_aload_n C (f := 1) (zdg dz_K_giveBack_0 8 rfl) 1 rfl rfl ?_
  refine vf_aload_n C (f := 0) (zdg dz_K_giveBack_0 9 rfl) 0 rfl rfl ?_
  refine vf_get C (kd := 0) fl_K_40 sh_37 rfl (by decide) rfl rfl (zdg dz_K_giveBack_0 10 rfl) ?_
  refine vf_put C (kd := 0) fl_K_37 fk_2_6 sh_5 rfl (by decide) rfl rfl (by decide) (zdg dz_K_giveBack_0 11 rfl) ?_
  generalize st u2 5 6 (u2 37 6) = u3
  refine vf_uw ?_
  refine vf_aload_n C (f := 1) (zdg dz_K_giveBack_0 12 rfl) 1 rfl rfl ?_
  refine vf_aload_n C (f := 0) (zdg dz_K_giveBack_0 13 rfl) 0 rfl rfl ?_
  refine vf_get C (kd := 0) fl_K_44 sh_37 rfl (by decide) rfl rfl (zdg dz_K_giveBack_0 14 rfl) ?_
  refine vf_put C (kd := 0) fl_K_41 fk_2_7 sh_5 rfl (by decide) rfl rfl (by decide) (zdg dz_K_giveBack_0 15 rfl) ?_
  generalize st u3 5 7 (u3 37 7) = u4
  refine vf_uw ?_
  refine vf_aload_n C (f := 1) (zdg dz_K_giveBack_0 16 rfl) 1 rfl rfl ?_
  refine vf_aload_n C (f := 0) (zdg dz_K_giveBack_0 17 rfl) 0 rfl rfl ?_
  refine vf_get C (kd := 0) fl_K_48 sh_37 rfl (by decide) rfl rfl (zdg dz_K_giveBack_0 18 rfl) ?_
  refine vf_put C (kd := 0) fl_K_45 fk_2_8 sh_5 rfl (by decide) rfl rfl (by decide) (zdg dz_K_giveBack_0 19 rfl) ?_
  generalize st u4 5 8 (u4 37 8) = u5
  refine vf_uw ?_
  refine vf_aload_n C (f := 2) (zdg dz_K_giveBack_0 20 rfl) 2 rfl rfl ?_
  refine vf_aload_n C (f := 0) (zdg dz_K_giveBack_0 21 rfl) 0 rfl rfl ?_
  refine vf_get C (kd := 0) fl_K_54 sh_37 rfl (by decide) rfl rfl (zdg dz_K_giveBack_0 22 rfl) ?_
  refine vf_put C (kd := 0) fl_K_49 fk_5_3 sh_15 rfl (by decide) rfl rfl (by decide) (zdg dz_K_giveBack_0 23 rfl) ?_
  generalize st u5 15 3 (u5 37 9) = u6
  refine vf_uw ?_
  refine vf_aload_n C (f := 2) (zdg dz_K_giveBack_1 0 rfl) 2 rfl rfl ?_
  refine vf_iconst C (z := 0) (zdg dz_K_giveBack_1 1 rfl) (jz rfl) ?_
  refine vf_put C (kd := 0) fl_K_63 fk_5_4 sh_15 rfl (by decide) rfl rfl (by decide) (zdg dz_K_giveBack_1 2 rfl) ?_
  generalize st u6 15 4 0 = u7
  refine vf_uw ?_
  refine vf_aload_n C (f := 0) (zdg dz_K_giveBack_1 3 rfl) 0 rfl rfl ?_
  refine vf_getp C fl_K_9 sh_37 rfl (by decide) rfl (x := 39) rfl (zdg dz_K_giveBack_1 4 rfl) ?_
  refine vf_iconst C (z := 0) (zdg dz_K_giveBack_1 5 rfl) (jz rfl) ?_
  refine vf_aload_n C (f := 1) (zdg dz_K_giveBack_1 6 rfl) 1 rfl rfl ?_
  refine vf_getp C fl_K_55 sh_5 rfl (by decide) rfl (x := 9) rfl (zdg dz_K_giveBack_1 7 rfl) ?_
  refine vf_iconst C (z := 0) (zdg dz_K_giveBack_1 8 rfl) (jz rfl) ?_
  refine vf_bipush C (z := 10) (zdg dz_K_giveBack_1 9 rfl) (by decide +kernel) (jz rfl) ?_
  refine vf_copy C ml_K_56 sh_38 sh_8 (by decide) (by decide) (by decide) rfl rfl rfl rfl (jrm_n hR (by decide)) (Nat.le_of_ble_eq_true rfl) (by decide +kernel) ?_
  generalize cpy u7 38 8 0 0 10 = u8
  refine vf_uw ?_
  refine vf_aload_n C (f := 0) (zdg dz_K_giveBack_1 11 rfl) 0 rfl rfl ?_
  refine vf_getp C fl_K_15 sh_37 rfl (by decide) rfl (x := 40) rfl (zdg dz_K_giveBack_1 12 rfl) ?_
  refine vf_iconst C (z := 0) (zdg dz_K_giveBack_1 13 rfl) (jz rfl) ?_
  refine vf_aload_n C (f := 2) (zdg dz_K_giveBack_1 14 rfl) 2 rfl rfl ?_
  refine vf_getp C fl_K_62 sh_15 rfl (by decide) rfl (x := 17) rfl (zdg dz_K_giveBack_1 15 rfl) ?_
  refine vf_iconst C (z := 0) (zdg dz_K_giveBack_1 16 rfl) (jz rfl) ?_
  refine vf_bipush C (z := 61) (zdg dz_K_giveBack_1 17 rfl) (by decide +kernel) (jz rfl) ?_
  refine vf_copy C ml_K_56 sh_39 sh_16 (by decide) (by decide) (by decide) rfl rfl rfl rfl (jrm_n hR (by decide)) (Nat.le_of_ble_eq_true rfl) (by decide +kernel) ?_
  generalize cpy u8 39 16 0 0 61 = u9
  refine vf_uw ?_
  exact hr _ _ _ _ (fun h => absurd h (by decide)) (zdg dz_K_giveBack_1 19 rfl)
def f_K_giveBack_40_5_15 (w : Wd) : Option (Int × Wd) :=
  jlw (st w 5 4 (w 40 4)) fun u1 =>
  jlw (st u1 5 5 (u1 40 5)) fun u2 =>
  jlw (st u2 5 6 (u2 40 6)) fun u3 =>
  jlw (st u3 5 7 (u3 40 7)) fun u4 =>
  jlw (st u4 5 8 (u4 40 8)) fun u5 =>
  jlw (st u5 15 3 (u5 40 9)) fun u6 =>
  jlw (st u6 15 4 0) fun u7 =>
  jgd ((0 : Int) ≤ (0 : Int) ∧ (0 : Int) ≤ (0 : Int) ∧ (0 : Int) ≤ (10 : Int) ∧ (0 : Int) + (10 : Int) ≤ 10 ∧ (0 : Int) + (10 : Int) ≤ 10) <|
  jlw (cpy u7 41 8 0 0 10) fun u8 =>
  jgd ((0 : Int) ≤ (0 : Int) ∧ (0 : Int) ≤ (0 : Int) ∧ (0 : Int) ≤ (61 : Int) ∧ (0 : Int) + (61 : Int) ≤ 61 ∧ (0 : Int) + (61 : Int) ≤ 61) <|
  jlw (cpy u8 42 16 0 0 61) fun u9 =>
  some (0, u9)
theorem ct_K_giveBack_40_5_15 (w : Wd) : Ct y_K_giveBack prog_4_method_4_code 3 none 1 9 [(2, 41), (2, 6), (2, 16)] w (f_K_giveBack_40_5_15 w) := by
  refine ct_of (by decide +kernel) (Or.inr (Or.inr (Or.inr ⟨rfl, rfl⟩))) (Nat.le_of_ble_eq_true rfl) ?_
  intro X Qf ad C hn hR hr
  unfold f_K_giveBack_40_5_15
  show VF X Qf ad NF 0 0 w 0 [(0, (2, 41)), (1, (2, 6)), (2, (2, 16))] [] _
  refine vf_aload_n C (f := 1) (zdg dz_K_giveBack_0 0 rfl) 1 rfl rfl ?_
  refine vf_aload_n C (f := 0) (zdg dz_K_giveBack_0 1 rfl) 0 rfl rfl ?_
  refine vf_get C (kd := 0) fl_K_32 sh_40 rfl (by decide) rfl rfl (zdg dz_K_giveBack_0 2 rfl) ?_
  refine vf_put C (kd := 0) fl_K_29 fk_2_4 sh_5 rfl (by decide) rfl rfl (by decide) (zdg dz_K_giveBack_0 3 rfl) ?_
  generalize st w 5 4 (w 40 4) = u1
  refine vf_uw ?_
  refine vf_aload_n C (f := 1) (zdg dz_K_giveBack_0 4 rfl) 1 rfl rfl ?_
  refine vf_aload_n C (f := 0) (zdg dz_K_giveBack_0 5 rfl) 0 rfl rfl ?_
  refine vf_get C (kd := 0) fl_K_36 sh_40 rfl (by decide) rfl rfl (zdg dz_K_giveBack_0 6 rfl) ?_
  refine vf_put C (kd := 0) fl_K_33 fk_2_5 sh_5 rfl (by decide) rfl rfl (by decide) (zdg dz_K_giveBack_0 7 rfl) ?_
  generalize st u1 5 5 (u1 40 5) = u2
  refine vf_uw ?_
  refine vf_aload_n C (f := 1) (zdg dz_K_giveBack_0 8 rfl) 1 rfl rfl ?_
  refine vf_aload_n C (f := 0) (zdg dz_K_giveBack_0 9 rfl) 0 rfl rfl ?_
  refine vf_get C (kd := 0) fl_K_40 sh_40 rfl (by decide) rfl rfl (zdg dz_K_giveBack_0 10 rfl) ?_
  refine vf_put C (kd := 0) fl_K_37 fk_2_6 sh_5 rfl (by decide) rfl rfl (by decide) (zdg dz_K_giveBack_0 11 rfl) ?_
  generalize st u2 5 6 (u2 40 6) = u3
  refine vf_uw ?_
  refine vf_aload_n C (f := 1) (zdg dz_K_giveBack_0 12 rfl) 1 rfl rfl ?_
  refine vf_aload_n C (f := 0) (zdg dz_K_giveBack_0 13 rfl) 0 rfl rfl ?_
  refine vf_get C (kd := 0) fl_K_44 sh_40 rfl (by decide) rfl rfl (zdg dz_K_giveBack_0 14 rfl) ?_
  refine vf_put C (kd := 0) fl_K_41 fk_2_7 sh_5 rfl (by decide) rfl rfl (by decide) (zdg dz_K_giveBack_0 15 rfl) ?_
  generalize st u3 5 7 (u3 40 7) = u4
  refine vf_uw ?_
  refine vf_aload_n C (f := 1) (zdg dz_K_giveBack_0 16 rfl) 1 rfl rfl ?_
  refine vf_aload_n C (f := 0) (zdg dz_K_giveBack_0 17 rfl) 0 rfl rfl ?_
  refine vf_get C (kd := 0) fl_K_48 sh_40 rfl (by decide) rfl rfl (zdg dz_K_giveBack_0 18 rfl) ?_
  refine vf_put C (kd := 0) fl_K_45 fk_2_8 sh_5 rfl (by decide) rfl rfl (by decide) (zdg dz_K_giveBack_0 19 rfl) ?_
  generalize st u4 5 8 (u4 40 8) = u5
  refine vf_uw ?_
  refine vf_aload_n C (f := 2) (zdg dz_K_giveBack_0 20 rfl) 2 rfl rfl ?_
  refine vf_aload_n C (f := 0) (zdg dz_K_giveBack_0 21 rfl) 0 rfl rfl ?_
  refine vf_get C (kd := 0) fl_K_54 sh_40 rfl (by decide) rfl rfl (zdg dz_K_giveBack_0 22 rfl) ?_
  refine vf_put C (kd := 0) fl_K_49 fk_5_3 sh_15 rfl (by decide) rfl rfl (by decide) (zdg dz_K_giveBack_0 23 rfl) ?_
  generalize st u5 15 3 (u5 40 9) = u6
  refine vf_uw ?_
  refine vf_aload_n C (f := 2) (zdg dz_K_giveBack_1 0 rfl) 2 rfl rfl ?_
  refine vf_iconst C (z := 0) (zdg dz_K_giveBack_1 1 rfl) (jz rfl) ?_
  refine vf_put C (kd := 0) fl_K_63 fk_5_4 sh_15 rfl (by decide) rfl rfl (by decide) (zdg dz_K_giveBack_1 2 rfl) ?_
  generalize st u6 15 4 0 = u7
  refine vf_uw ?_
  refine vf_aload_n C (f := 0) (zdg dz_K_giveBack_1 3 rfl) 0 rfl rfl ?_
  refine vf_getp C fl_K_9 sh_40 rfl (by decide) rfl (x := 42) rfl (zdg dz_K_giveBack_1 4 rfl) ?_
  refine vf_iconst C (z := 0) (zdg dz_K_giveBack_1 5 rfl) (jz rfl) ?_
  refine vf_aload_n C (f := 1) (zdg dz_K_giveBack_1 6 rfl) 1 rfl rfl ?_
  refine vf_getp C fl_K_55 sh_5 rfl (by decide) rfl (x := 9) rfl (zdg dz_K_giveBack_1 7 rfl) ?_
  refine vf_iconst C (z := 0) (zdg dz_K_giveBack_1 8 rfl) (jz rfl) ?_
  refine vf_bipush C (z := 10) (zdg dz_K_giveBack_1 9 rfl) (by decide +kernel) (jz rfl) ?_
  refine vf_copy C ml_K_56 sh_41 sh_8 (by decide) (by decide) (by decide) rfl rfl rfl rfl (jrm_n hR (by decide)) (Nat.le_of_ble_eq_true rfl) (by decide +kernel) ?_
  generalize cpy u7 41 8 0 0 10 = u8
  refine vf_uw ?_
  refine vf_aload_n C (f := 0) (zdg dz_K_giveBack_1 11 rfl) 0 rfl rfl ?_
  refine vf_getp C fl_K_15 sh_40 rfl (by decide) rfl (x := 43) rfl (zdg dz_K_giveBack_1 12 rfl) ?_
  refine vf_iconst C (z := 0) (zdg dz_K_giveBack_1 13 rfl) (jz rfl) ?_
  refine vf_aload_n C (f := 2) (zdg dz_K_giveBack_1 14 rfl) 2 rfl rfl ?_
  refine vf_getp C fl_K_62 sh_15 rfl (by decide) rfl (x := 17) rfl (zdg dz_K_giveBack_1 15 rfl) ?_
  refine vf_iconst C (z := 0) (zdg dz_K_giveBack_1 16 rfl) (jz rfl) ?_
  refine vf_bipush C (z := 61) (zdg dz_K_giveBack_1 17 rfl) (by decide +kernel) (jz rfl) ?_
  refine vf_copy C ml_K_56 sh_42 sh_16 (by decide) (by decide) (by decide) rfl rfl rfl rfl (jrm_n hR (by decide)) (Nat.le_of_ble_eq_true rfl) (by decide +kernel) ?_
  generalize cpy u8 42 16 0 0 61 = u9
  refine vf_uw ?_
  exact hr _ _ _ _ (fun h => absurd h (by decide)) (zdg dz_K_giveBack_1 19 rfl)
def f_K_fits_40_5 (w : Wd) : Option (Int × Wd) :=
  if (w 40 2) = 0 then
    some (0, w)
  else
    if (w 40 3) = (w 5 3) then
      some (1, w)
    else
      some (0, w)
theorem ct_K_fits_40_5 (w : Wd) : Ct y_K_fits prog_4_method_2_code 2 (some .boolean) 1 4 [(2, 41), (2, 6)] w (f_K_fits_40_5 w) := by
  refine ct_of (by decide +kernel) (Or.inr (Or.inr (Or.inl ⟨rfl, rfl⟩))) (Nat.le_of_ble_eq_true rfl) ?_
  intro X Qf ad C hn hR hr
  unfold f_K_fits_40_5
  show VF X Qf ad NF 0 0 w 0 [(0, (2, 41)), (1, (2, 6))] [] _
  refine vf_aload_n C (f := 0) (zdg dz_K_fits_0 0 rfl) 0 rfl rfl ?_
  refine vf_get C (kd := 0) fl_K_18 sh_40 rfl (by decide) rfl rfl (zdg dz_K_fits_0 1 rfl) ?_
  refine vf_if_eq C (off := 18) (tgt := 22) (zdg dz_K_fits_0 2 rfl) (by decide) ?_ ?_
  · refine vf_iconst C (z := 0) (zdg dz_K_fits_0 10 rfl) (jz rfl) ?_
    exact hr _ _ _ _ (fun _ => Or.inl rfl) (zdg dz_K_fits_0 11 rfl)
  · refine vf_aload_n C (f := 0) (zdg dz_K_fits_0 3 rfl) 0 rfl rfl ?_
    refine vf_get C (kd := 0) fl_K_22 sh_40 rfl (by decide) rfl rfl (zdg dz_K_fits_0 4 rfl) ?_
    refine vf_aload_n C (f := 1) (zdg dz_K_fits_0 5 rfl) 1 rfl rfl ?_
    refine vf_get C (kd := 0) fl_K_26 sh_5 rfl (by decide) rfl rfl (zdg dz_K_fits_0 6 rfl) ?_
    refine vf_icmp_ne C (off := 7) (tgt := 22) (zdg dz_K_fits_0 7 rfl) (by decide) ?_ ?_
    · refine vf_iconst C (z := 0) (zdg dz_K_fits_0 10 rfl) (jz rfl) ?_
      exact hr _ _ _ _ (fun _ => Or.inl rfl) (zdg dz_K_fits_0 11 rfl)
    · refine vf_iconst C (z := 1) (zdg dz_K_fits_0 8 rfl) (jz rfl) ?_
      refine vf_goto C (off := 4) (tgt := 23) (zdg dz_K_fits_0 9 rfl) (by decide) ?_
      exact hr _ _ _ _ (fun _ => Or.inr rfl) (zdg dz_K_fits_0 11 rfl)
def f_E_again (v1 : Int) (w : Wd) : Option (Int × Wd) :=
  if v1 < 0 then
    some (0, w)
  else
    if (2 : Int) ≤ v1 then
      some (0, w)
    else
      if v1 = 0 then
        jcall (f_K_fits w) fun r1 u2 =>
        if r1 = 0 then
          some (0, u2)
        else
          if v1 = 0 then
            jcall (f_K_giveBack u2) fun r3 u4 =>
            jcall (f_S_forget u4) fun r5 u6 =>
            some (1, u6)
          else
          if v1 = 1 then
            jcall (f_K_giveBack_40_5_15 u2) fun r7 u8 =>
            jcall (f_S_forget u8) fun r9 u10 =>
            some (1, u10)
          else
          none
      else
      if v1 = 1 then
        jcall (f_K_fits_40_5 w) fun r11 u12 =>
        if r11 = 0 then
          some (0, u12)
        else
          if v1 = 0 then
            jcall (f_K_giveBack u12) fun r13 u14 =>
            jcall (f_S_forget u14) fun r15 u16 =>
            some (1, u16)
          else
          if v1 = 1 then
            jcall (f_K_giveBack_40_5_15 u12) fun r17 u18 =>
            jcall (f_S_forget u18) fun r19 u20 =>
            some (1, u20)
          else
          none
      else
      none
theorem ct_E_again (v1 : Int) (w : Wd) : Ct y_E_again prog_1_method_41_code 2 (some .boolean) 2 4 [(2, 1), (0, v1)] w (f_E_again v1 w) := by
  refine ct_of (by decide +kernel) (Or.inr (Or.inr (Or.inl ⟨rfl, rfl⟩))) (Nat.le_of_ble_eq_true rfl) ?_
  intro X Qf ad C hn hR hr
  unfold f_E_again
  show VF X Qf ad NF 0 0 w 0 [(0, (2, 1)), (1, (0, v1))] [] _
  refine vf_iload_n C (f := 1) (zdg dz_E_again_0 0 rfl) 1 rfl rfl ?_
  refine vf_if_lt C (off := 28) (tgt := 29) (zdg dz_E_again_0 1 rfl) (by decide) ?_ ?_
  · refine vf_iconst C (z := 0) (zdg dz_E_again_0 15 rfl) (jz rfl) ?_
    exact hr _ _ _ _ (fun _ => Or.inl rfl) (zdg dz_E_again_0 16 rfl)
  · refine vf_iload_n C (f := 1) (zdg dz_E_again_0 2 rfl) 1 rfl rfl ?_
    refine vf_aload_n C (f := 0) (zdg dz_E_again_0 3 rfl) 0 rfl rfl ?_
    refine vf_getp C fl_E_75 sh_0 rfl (by decide) rfl (x := 37) rfl (zdg dz_E_again_0 4 rfl) ?_
    refine vf_alen C sh_36 (by decide) (by decide) rfl (x := 2) rfl (jz rfl) (zdg dz_E_again_0 5 rfl) ?_
    refine vf_icmp_ge C (off := 19) (tgt := 29) (zdg dz_E_again_0 6 rfl) (by decide) ?_ ?_
    · refine vf_iconst C (z := 0) (zdg dz_E_again_0 15 rfl) (jz rfl) ?_
      exact hr _ _ _ _ (fun _ => Or.inl rfl) (zdg dz_E_again_0 16 rfl)
    · refine vf_aload_n C (f := 0) (zdg dz_E_again_0 7 rfl) 0 rfl rfl ?_
      refine vf_getp C fl_E_75 sh_0 rfl (by decide) rfl (x := 37) rfl (zdg dz_E_again_0 8 rfl) ?_
      refine vf_iload_n C (f := 1) (zdg dz_E_again_0 9 rfl) 1 rfl rfl ?_
      refine vf_if _ (fun h => ?_) (fun _ => ?_)
      · refine vf_aald C sh_36 (by decide) rfl (by rw [h]; decide) (z := 38) (by rw [h]; rfl) (x := 38) rfl (zdg dz_E_again_0 10 rfl) ?_
        refine vf_aload_n C (f := 0) (zdg dz_E_again_0 11 rfl) 0 rfl rfl ?_
        refine vf_getp C fl_E_26 sh_0 rfl (by decide) rfl (x := 6) rfl (zdg dz_E_again_0 12 rfl) ?_
        refine vf_callVz C cy_K_fits ml_E_343 rfl (ct_K_fits _) (S := []) sh_37 (by decide) rfl (jrm_of hR rfl) rfl rfl (Nat.le_of_ble_eq_true rfl) (zdg dz_E_again_0 13 rfl) (fun r1 u2 => ?_)
        refine vf_if_ne C (off := 5) (tgt := 31) (zdg dz_E_again_0 14 rfl) (by decide) ?_ ?_
        · refine vf_aload_n C (f := 0) (zdg dz_E_again_0 17 rfl) 0 rfl rfl ?_
          refine vf_getp C fl_E_75 sh_0 rfl (by decide) rfl (x := 37) rfl (zdg dz_E_again_0 18 rfl) ?_
          refine vf_iload_n C (f := 1) (zdg dz_E_again_0 19 rfl) 1 rfl rfl ?_
          refine vf_if _ (fun h => ?_) (fun _ => ?_)
          · refine vf_aald C sh_36 (by decide) rfl (by rw [h]; decide) (z := 38) (by rw [h]; rfl) (x := 38) rfl (zdg dz_E_again_0 20 rfl) ?_
            refine vf_aload_n C (f := 0) (zdg dz_E_again_0 21 rfl) 0 rfl rfl ?_
            refine vf_getp C fl_E_26 sh_0 rfl (by decide) rfl (x := 6) rfl (zdg dz_E_again_0 22 rfl) ?_
            refine vf_aload_n C (f := 0) (zdg dz_E_again_0 23 rfl) 0 rfl rfl ?_
            refine vf_getp C fl_E_47 sh_0 rfl (by decide) rfl (x := 16) rfl (zdg dz_E_again_1 0 rfl) ?_
            refine vf_callVv C cy_K_giveBack ml_E_346 rfl (ct_K_giveBack _) (S := []) sh_37 (by decide) rfl (jrm_of hR rfl) rfl rfl (Nat.le_of_ble_eq_true rfl) (zdg dz_E_again_1 1 rfl) (fun r3 u4 => ?_)
            refine vf_aload_n C (f := 0) (zdg dz_E_again_1 2 rfl) 0 rfl rfl ?_
            refine vf_getp C fl_E_68 sh_0 rfl (by decide) rfl (x := 29) rfl (zdg dz_E_again_1 3 rfl) ?_
            refine vf_callVv C cy_S_forget ml_E_162 rfl (ct_S_forget _) (S := []) sh_28 (by decide) rfl (jrm_of hR rfl) rfl rfl (Nat.le_of_ble_eq_true rfl) (zdg dz_E_again_1 4 rfl) (fun r5 u6 => ?_)
            refine vf_iconst C (z := 1) (zdg dz_E_again_1 5 rfl) (jz rfl) ?_
            exact hr _ _ _ _ (fun _ => Or.inr rfl) (zdg dz_E_again_1 6 rfl)
          refine vf_if _ (fun h => ?_) (fun _ => ?_)
          · refine vf_aald C sh_36 (by decide) rfl (by rw [h]; decide) (z := 41) (by rw [h]; rfl) (x := 41) rfl (zdg dz_E_again_0 20 rfl) ?_
            refine vf_aload_n C (f := 0) (zdg dz_E_again_0 21 rfl) 0 rfl rfl ?_
            refine vf_getp C fl_E_26 sh_0 rfl (by decide) rfl (x := 6) rfl (zdg dz_E_again_0 22 rfl) ?_
            refine vf_aload_n C (f := 0) (zdg dz_E_again_0 23 rfl) 0 rfl rfl ?_
            refine vf_getp C fl_E_47 sh_0 rfl (by decide) rfl (x := 16) rfl (zdg dz_E_again_1 0 rfl) ?_
            refine vf_callVv C cy_K_giveBack ml_E_346 rfl (ct_K_giveBack_40_5_15 _) (S := []) sh_40 (by decide) rfl (jrm_of hR rfl) rfl rfl (Nat.le_of_ble_eq_true rfl) (zdg dz_E_again_1 1 rfl) (fun r7 u8 => ?_)
            refine vf_aload_n C (f := 0) (zdg dz_E_again_1 2 rfl) 0 rfl rfl ?_
            refine vf_getp C fl_E_68 sh_0 rfl (by decide) rfl (x := 29) rfl (zdg dz_E_again_1 3 rfl) ?_
            refine vf_callVv C cy_S_forget ml_E_162 rfl (ct_S_forget _) (S := []) sh_28 (by decide) rfl (jrm_of hR rfl) rfl rfl (Nat.le_of_ble_eq_true rfl) (zdg dz_E_again_1 4 rfl) (fun r9 u10 => ?_)
            refine vf_iconst C (z := 1) (zdg dz_E_again_1 5 rfl) (jz rfl) ?_
            exact hr _ _ _ _ (fun _ => Or.inr rfl) (zdg dz_E_again_1 6 rfl)
          exact vf_no
        · refine vf_iconst C (z := 0) (zdg dz_E_again_0 15 rfl) (jz rfl) ?_
          exact hr _ _ _ _ (fun _ => Or.inl rfl) (zdg dz_E_again_0 16 rfl)
      refine vf_if _ (fun h => ?_) (fun _ => ?_)
      · refine vf_aald C sh_36 (by decide) rfl (by rw [h]; decide) (z := 41) (by rw [h]; rfl) (x := 41) rfl (zdg dz_E_again_0 10 rfl) ?_
        refine vf_aload_n C (f := 0) (zdg dz_E_again_0 11 rfl) 0 rfl rfl ?_
        refine vf_getp C fl_E_26 sh_0 rfl (by decide) rfl (x := 6) rfl (zdg dz_E_again_0 12 rfl) ?_
        refine vf_callVz C cy_K_fits ml_E_343 rfl (ct_K_fits_40_5 _) (S := []) sh_40 (by decide) rfl (jrm_of hR rfl) rfl rfl (Nat.le_of_ble_eq_true rfl) (zdg dz_E_again_0 13 rfl) (fun r11 u12 => ?_)
        refine vf_if_ne C (off := 5) (tgt := 31) (zdg dz_E_again_0 14 rfl) (by decide) ?_ ?_
        · refine vf_aload_n C (f := 0) (zdg dz_E_again_0 17 rfl) 0 rfl rfl ?_
          refine vf_getp C fl_E_75 sh_0 rfl (by decide) rfl (x := 37) rfl (zdg dz_E_again_0 18 rfl) ?_
          refine vf_iload_n C (f := 1) (zdg dz_E_again_0 19 rfl) 1 rfl rfl ?_
          refine vf_if _ (fun h => ?_) (fun _ => ?_)
          · refine vf_aald C sh_36 (by decide) rfl (by rw [h]; decide) (z := 38) (by rw [h]; rfl) (x := 38) rfl (zdg dz_E_again_0 20 rfl) ?_
            refine vf_aload_n C (f := 0) (zdg dz_E_again_0 21 rfl) 0 rfl rfl ?_
            refine vf_getp C fl_E_26 sh_0 rfl (by decide) rfl (x := 6) rfl (zdg dz_E_again_0 22 rfl) ?_
            refine vf_aload_n C (f := 0) (zdg dz_E_again_0 23 rfl) 0 rfl rfl ?_
            refine vf_getp C fl_E_47 sh_0 rfl (by decide) rfl (x := 16) rfl (zdg dz_E_again_1 0 rfl) ?_
            refine vf_callVv C cy_K_giveBack ml_E_346 rfl (ct_K_giveBack _) (S := []) sh_37 (by decide) rfl (jrm_of hR rfl) rfl rfl (Nat.le_of_ble_eq_true rfl) (zdg dz_E_again_1 1 rfl) (fun r13 u14 => ?_)
            refine vf_aload_n C (f := 0) (zdg dz_E_again_1 2 rfl) 0 rfl rfl ?_
            refine vf_getp C fl_E_68 sh_0 rfl (by decide) rfl (x := 29) rfl (zdg dz_E_again_1 3 rfl) ?_
            refine vf_callVv C cy_S_forget ml_E_162 rfl (ct_S_forget _) (S := []) sh_28 (by decide) rfl (jrm_of hR rfl) rfl rfl (Nat.le_of_ble_eq_true rfl) (zdg dz_E_again_1 4 rfl) (fun r15 u16 => ?_)
            refine vf_iconst C (z := 1) (zdg dz_E_again_1 5 rfl) (jz rfl) ?_
            exact hr _ _ _ _ (fun _ => Or.inr rfl) (zdg dz_E_again_1 6 rfl)
          refine vf_if _ (fun h => ?_) (fun _ => ?_)
          · refine vf_aald C sh_36 (by decide) rfl (by rw [h]; decide) (z := 41) (by rw [h]; rfl) (x := 41) rfl (zdg dz_E_again_0 20 rfl) ?_
            refine vf_aload_n C (f := 0) (zdg dz_E_again_0 21 rfl) 0 rfl rfl ?_
            refine vf_getp C fl_E_26 sh_0 rfl (by decide) rfl (x := 6) rfl (zdg dz_E_again_0 22 rfl) ?_
            refine vf_aload_n C (f := 0) (zdg dz_E_again_0 23 rfl) 0 rfl rfl ?_
            refine vf_getp C fl_E_47 sh_0 rfl (by decide) rfl (x := 16) rfl (zdg dz_E_again_1 0 rfl) ?_
            refine vf_callVv C cy_K_giveBack ml_E_346 rfl (ct_K_giveBack_40_5_15 _) (S := []) sh_40 (by decide) rfl (jrm_of hR rfl) rfl rfl (Nat.le_of_ble_eq_true rfl) (zdg dz_E_again_1 1 rfl) (fun r17 u18 => ?_)
            refine vf_aload_n C (f := 0) (zdg dz_E_again_1 2 rfl) 0 rfl rfl ?_
            refine vf_getp C fl_E_68 sh_0 rfl (by decide) rfl (x := 29) rfl (zdg dz_E_again_1 3 rfl) ?_
            refine vf_callVv C cy_S_forget ml_E_162 rfl (ct_S_forget _) (S := []) sh_28 (by decide) rfl (jrm_of hR rfl) rfl rfl (Nat.le_of_ble_eq_true rfl) (zdg dz_E_again_1 4 rfl) (fun r19 u20 => ?_)
            refine vf_iconst C (z := 1) (zdg dz_E_again_1 5 rfl) (jz rfl) ?_
            exact hr _ _ _ _ (fun _ => Or.inr rfl) (zdg dz_E_again_1 6 rfl)
          exact vf_no
        · refine vf_iconst C (z := 0) (zdg dz_E_again_0 15 rfl) (jz rfl) ?_
          exact hr _ _ _ _ (fun _ => Or.inl rfl) (zdg dz_E_again_0 16 rfl)
      exact vf_no
def f_E_count (v1 : Int) (w : Wd) : Option (Int × Wd) :=
  if v1 < 0 ∨ 9 < v1 then
    some ((-1), w)
  else
  if v1 = 0 then
    some (w 5 3, w)
  else
  if v1 = 1 then
    some (w 15 3, w)
  else
  if v1 = 2 then
    jcall (f_F_guests w) fun r1 u2 =>
    some (r1, u2)
  else
  if v1 = 3 then
    jcall (f_F_strangers w) fun r3 u4 =>
    some (r3, u4)
  else
  if v1 = 4 then
    jcall (f_O_out (w 5 4) w) fun r5 u6 =>
    some (r5, u6)
  else
  if v1 = 5 then
    some (w 5 6, w)
  else
  if v1 = 6 then
    some (w 15 4, w)
  else
  if v1 = 7 then
    some (w 3 1, w)
  else
  if v1 = 8 then
    some (w 1 1, w)
  else
  if v1 = 9 then
    some (w 5 5, w)
  else
  none
theorem ct_E_count (v1 : Int) (w : Wd) : Ct y_E_count prog_1_method_42_code 2 (some .int) 3 0 [(2, 1), (0, v1)] w (f_E_count v1 w) := by
  refine ct_of (by decide +kernel) (Or.inl ⟨rfl, rfl⟩) (Nat.le_of_ble_eq_true rfl) ?_
  intro X Qf ad C hn hR hr
  unfold f_E_count
  show VF X Qf ad NF 0 0 w 0 [(0, (2, 1)), (1, (0, v1))] [] _
  refine vf_iload_n C (f := 1) (zdg dz_E_count_0 0 rfl) 1 rfl rfl ?_
  refine vf_if _ (fun h => ?_) (fun _ => ?_)
  · refine vf_swd C (dflt := 138) (lo := 0) (hi := 9) (offs := #[55, 63, 71, 79, 87, 98, 106, 114, 122, 130]) (len := 55) (tgt := 139) (by decide +kernel) h (by decide) ?_
    refine vf_iconst C (z := (-1)) (zdg dz_E_count_1 18 rfl) (jz rfl) ?_
    exact hr _ _ _ _ (fun h => absurd h (by decide)) (zdg dz_E_count_1 19 rfl)
  refine vf_if _ (fun h => ?_) (fun _ => ?_)
  · refine vf_swx C (dflt := 138) (lo := 0) (hi := 9) (offs := #[55, 63, 71, 79, 87, 98, 106, 114, 122, 130]) (len := 55) (z := 0) (off := 55) (tgt := 56) (by decide +kernel) h (by decide) (by decide) rfl (by decide) ?_
    refine vf_aload_n C (f := 0) (zdg dz_E_count_0 1 rfl) 0 rfl rfl ?_
    refine vf_getp C fl_E_26 sh_0 rfl (by decide) rfl (x := 6) rfl (zdg dz_E_count_0 2 rfl) ?_
    refine vf_get C (kd := 0) fl_E_87 sh_5 rfl (by decide) rfl rfl (zdg dz_E_count_0 3 rfl) ?_
    exact hr _ _ _ _ (fun h => absurd h (by decide)) (zdg dz_E_count_0 4 rfl)
  refine vf_if _ (fun h => ?_) (fun _ => ?_)
  · refine vf_swx C (dflt := 138) (lo := 0) (hi := 9) (offs := #[55, 63, 71, 79, 87, 98, 106, 114, 122, 130]) (len := 55) (z := 1) (off := 63) (tgt := 64) (by decide +kernel) h (by decide) (by decide) rfl (by decide) ?_
    refine vf_aload_n C (f := 0) (zdg dz_E_count_0 5 rfl) 0 rfl rfl ?_
    refine vf_getp C fl_E_47 sh_0 rfl (by decide) rfl (x := 16) rfl (zdg dz_E_count_0 6 rfl) ?_
    refine vf_get C (kd := 0) fl_E_192 sh_15 rfl (by decide) rfl rfl (zdg dz_E_count_0 7 rfl) ?_
    exact hr _ _ _ _ (fun h => absurd h (by decide)) (zdg dz_E_count_0 8 rfl)
  refine vf_if _ (fun h => ?_) (fun _ => ?_)
  · refine vf_swx C (dflt := 138) (lo := 0) (hi := 9) (offs := #[55, 63, 71, 79, 87, 98, 106, 114, 122, 130]) (len := 55) (z := 2) (off := 71) (tgt := 72) (by decide +kernel) h (by decide) (by decide) rfl (by decide) ?_
    refine vf_aload_n C (f := 0) (zdg dz_E_count_0 9 rfl) 0 rfl rfl ?_
    refine vf_getp C fl_E_26 sh_0 rfl (by decide) rfl (x := 6) rfl (zdg dz_E_count_0 10 rfl) ?_
    refine vf_callVi C cy_F_guests ml_E_136 rfl (ct_F_guests _) (S := []) sh_5 (by decide) rfl (jrm_of hR rfl) rfl rfl (Nat.le_of_ble_eq_true rfl) (zdg dz_E_count_0 11 rfl) (fun r1 u2 => ?_)
    exact hr _ _ _ _ (fun h => absurd h (by decide)) (zdg dz_E_count_0 12 rfl)
  refine vf_if _ (fun h => ?_) (fun _ => ?_)
  · refine vf_swx C (dflt := 138) (lo := 0) (hi := 9) (offs := #[55, 63, 71, 79, 87, 98, 106, 114, 122, 130]) (len := 55) (z := 3) (off := 79) (tgt := 80) (by decide +kernel) h (by decide) (by decide) rfl (by decide) ?_
    refine vf_aload_n C (f := 0) (zdg dz_E_count_0 13 rfl) 0 rfl rfl ?_
    refine vf_getp C fl_E_26 sh_0 rfl (by decide) rfl (x := 6) rfl (zdg dz_E_count_0 14 rfl) ?_
    refine vf_callVi C cy_F_strangers ml_E_132 rfl (ct_F_strangers _) (S := []) sh_5 (by decide) rfl (jrm_of hR rfl) rfl rfl (Nat.le_of_ble_eq_true rfl) (zdg dz_E_count_0 15 rfl) (fun r3 u4 => ?_)
    exact hr _ _ _ _ (fun h => absurd h (by decide)) (zdg dz_E_count_0 16 rfl)
  refine vf_if _ (fun h => ?_) (fun _ => ?_)
  · refine vf_swx C (dflt := 138) (lo := 0) (hi := 9) (offs := #[55, 63, 71, 79, 87, 98, 106, 114, 122, 130]) (len := 55) (z := 4) (off := 87) (tgt := 88) (by decide +kernel) h (by decide) (by decide) rfl (by decide) ?_
    refine vf_aload_n C (f := 0) (zdg dz_E_count_0 17 rfl) 0 rfl rfl ?_
    refine vf_getp C fl_E_26 sh_0 rfl (by decide) rfl (x := 6) rfl (zdg dz_E_count_0 18 rfl) ?_
    refine vf_get C (kd := 0) fl_E_139 sh_5 rfl (by decide) rfl rfl (zdg dz_E_count_0 19 rfl) ?_
    refine vf_callSi C cy_O_out ml_E_349 (ct_O_out _ _) (S := []) (jrm_of hR rfl) rfl rfl (Nat.le_of_ble_eq_true rfl) (zdg dz_E_count_0 20 rfl) (fun r5 u6 => ?_)
    exact hr _ _ _ _ (fun h => absurd h (by decide)) (zdg dz_E_count_0 21 rfl)
  refine vf_if _ (fun h => ?_) (fun _ => ?_)
  · refine vf_swx C (dflt := 138) (lo := 0) (hi := 9) (offs := #[55, 63, 71, 79, 87, 98, 106, 114, 122, 130]) (len := 55) (z := 5) (off := 98) (tgt := 99) (by decide +kernel) h (by decide) (by decide) rfl (by decide) ?_
    refine vf_aload_n C (f := 0) (zdg dz_E_count_0 22 rfl) 0 rfl rfl ?_
    refine vf_getp C fl_E_26 sh_0 rfl (by decide) rfl (x := 6) rfl (zdg dz_E_count_0 23 rfl) ?_
    refine vf_get C (kd := 0) fl_E_352 sh_5 rfl (by decide) rfl rfl (zdg dz_E_count_1 0 rfl) ?_
    exact hr _ _ _ _ (fun h => absurd h (by decide)) (zdg dz_E_count_1 1 rfl)
  refine vf_if _ (fun h => ?_) (fun _ => ?_)
  · refine vf_swx C (dflt := 138) (lo := 0) (hi := 9) (offs := #[55, 63, 71, 79, 87, 98, 106, 114, 122, 130]) (len := 55) (z := 6) (off := 106) (tgt := 107) (by decide +kernel) h (by decide) (by decide) rfl (by decide) ?_
    refine vf_aload_n C (f := 0) (zdg dz_E_count_1 2 rfl) 0 rfl rfl ?_
    refine vf_getp C fl_E_47 sh_0 rfl (by decide) rfl (x := 16) rfl (zdg dz_E_count_1 3 rfl) ?_
    refine vf_get C (kd := 0) fl_E_355 sh_15 rfl (by decide) rfl rfl (zdg dz_E_count_1 4 rfl) ?_
    exact hr _ _ _ _ (fun h => absurd h (by decide)) (zdg dz_E_count_1 5 rfl)
  refine vf_if _ (fun h => ?_) (fun _ => ?_)
  · refine vf_swx C (dflt := 138) (lo := 0) (hi := 9) (offs := #[55, 63, 71, 79, 87, 98, 106, 114, 122, 130]) (len := 55) (z := 7) (off := 114) (tgt := 115) (by decide +kernel) h (by decide) (by decide) rfl (by decide) ?_
    refine vf_aload_n C (f := 0) (zdg dz_E_count_1 6 rfl) 0 rfl rfl ?_
    refine vf_getp C fl_E_19 sh_0 rfl (by decide) rfl (x := 4) rfl (zdg dz_E_count_1 7 rfl) ?_
    refine vf_get C (kd := 0) fl_E_244 sh_3 rfl (by decide) rfl rfl (zdg dz_E_count_1 8 rfl) ?_
    exact hr _ _ _ _ (fun h => absurd h (by decide)) (zdg dz_E_count_1 9 rfl)
  refine vf_if _ (fun h => ?_) (fun _ => ?_)
  · refine vf_swx C (dflt := 138) (lo := 0) (hi := 9) (offs := #[55, 63, 71, 79, 87, 98, 106, 114, 122, 130]) (len := 55) (z := 8) (off := 122) (tgt := 123) (by decide +kernel) h (by decide) (by decide) rfl (by decide) ?_
    refine vf_aload_n C (f := 0) (zdg dz_E_count_1 10 rfl) 0 rfl rfl ?_
    refine vf_getp C fl_E_12 sh_0 rfl (by decide) rfl (x := 2) rfl (zdg dz_E_count_1 11 rfl) ?_
    refine vf_get C (kd := 0) fl_E_358 sh_1 rfl (by decide) rfl rfl (zdg dz_E_count_1 12 rfl) ?_
    exact hr _ _ _ _ (fun h => absurd h (by decide)) (zdg dz_E_count_1 13 rfl)
  refine vf_if _ (fun h => ?_) (fun _ => ?_)
  · refine vf_swx C (dflt := 138) (lo := 0) (hi := 9) (offs := #[55, 63, 71, 79, 87, 98, 106, 114, 122, 130]) (len := 55) (z := 9) (off := 130) (tgt := 131) (by decide +kernel) h (by decide) (by decide) rfl (by decide) ?_
    refine vf_aload_n C (f := 0) (zdg dz_E_count_1 14 rfl) 0 rfl rfl ?_
    refine vf_getp C fl_E_26 sh_0 rfl (by decide) rfl (x := 6) rfl (zdg dz_E_count_1 15 rfl) ?_
    refine vf_get C (kd := 0) fl_E_125 sh_5 rfl (by decide) rfl rfl (zdg dz_E_count_1 16 rfl) ?_
    exact hr _ _ _ _ (fun h => absurd h (by decide)) (zdg dz_E_count_1 17 rfl)
  exact vf_no
def f_N_number (v1 : Int) (w : Wd) : Option (Int × Wd) :=
  if v1 < 0 then
    some ((-1), w)
  else
    if (w 3 1) ≤ v1 then
      some ((-1), w)
    else
      jgd ((0 : Int) ≤ v1 ∧ v1 < 20) <|
      some (w 4 v1.toNat, w)
theorem ct_N_number (v1 : Int) (w : Wd) : Ct y_N_number prog_7_method_7_code 2 (some .int) 1 0 [(2, 4), (0, v1)] w (f_N_number v1 w) := by
  refine ct_of (by decide +kernel) (Or.inl ⟨rfl, rfl⟩) (Nat.le_of_ble_eq_true rfl) ?_
  intro X Qf ad C hn hR hr
  unfold f_N_number
  show VF X Qf ad NF 0 0 w 0 [(0, (2, 4)), (1, (0, v1))] [] _
  refine vf_iload_n C (f := 1) (zdg dz_N_number_0 0 rfl) 1 rfl rfl ?_
  refine vf_if_lt C (off := 20) (tgt := 21) (zdg dz_N_number_0 1 rfl) (by decide) ?_ ?_
  · refine vf_iconst C (z := (-1)) (zdg dz_N_number_0 11 rfl) (jz rfl) ?_
    exact hr _ _ _ _ (fun h => absurd h (by decide)) (zdg dz_N_number_0 12 rfl)
  · refine vf_iload_n C (f := 1) (zdg dz_N_number_0 2 rfl) 1 rfl rfl ?_
    refine vf_aload_n C (f := 0) (zdg dz_N_number_0 3 rfl) 0 rfl rfl ?_
    refine vf_get C (kd := 0) fl_N_15 sh_3 rfl (by decide) rfl rfl (zdg dz_N_number_0 4 rfl) ?_
    refine vf_icmp_ge C (off := 12) (tgt := 21) (zdg dz_N_number_0 5 rfl) (by decide) ?_ ?_
    · refine vf_iconst C (z := (-1)) (zdg dz_N_number_0 11 rfl) (jz rfl) ?_
      exact hr _ _ _ _ (fun h => absurd h (by decide)) (zdg dz_N_number_0 12 rfl)
    · refine vf_aload_n C (f := 0) (zdg dz_N_number_0 6 rfl) 0 rfl rfl ?_
      refine vf_getp C fl_N_9 sh_3 rfl (by decide) rfl (x := 5) rfl (zdg dz_N_number_0 7 rfl) ?_
      refine vf_iload_n C (f := 1) (zdg dz_N_number_0 8 rfl) 1 rfl rfl ?_
      refine vf_iald C sh_4 (by decide) rfl (mz := 20) rfl (zdg dz_N_number_0 9 rfl) ?_
      refine vf_goto C (off := 4) (tgt := 22) (zdg dz_N_number_0 10 rfl) (by decide) ?_
      exact hr _ _ _ _ (fun h => absurd h (by decide)) (zdg dz_N_number_0 12 rfl)
def f_R_in (v0 v1 v2 : Int) (w : Wd) : Option (Int × Wd) :=
  if v0 < v1 then
    some (0, w)
  else
    if v2 < v0 then
      some (0, w)
    else
      some (1, w)
theorem ct_R_in (v0 v1 v2 : Int) (w : Wd) : Ct y_R_in prog_14_method_3_code 3 (some .boolean) 1 4 [(0, v0), (0, v1), (0, v2)] w (f_R_in v0 v1 v2 w) := by
  refine ct_of (by decide +kernel) (Or.inr (Or.inr (Or.inl ⟨rfl, rfl⟩))) (Nat.le_of_ble_eq_true rfl) ?_
  intro X Qf ad C hn hR hr
  unfold f_R_in
  show VF X Qf ad NF 0 0 w 0 [(0, (0, v0)), (1, (0, v1)), (2, (0, v2))] [] _
  refine vf_iload_n C (f := 0) (zdg dz_R_in_0 0 rfl) 0 rfl rfl ?_
  refine vf_iload_n C (f := 1) (zdg dz_R_in_0 1 rfl) 1 rfl rfl ?_
  refine vf_icmp_lt C (off := 12) (tgt := 14) (zdg dz_R_in_0 2 rfl) (by decide) ?_ ?_
  · refine vf_iconst C (z := 0) (zdg dz_R_in_0 8 rfl) (jz rfl) ?_
    exact hr _ _ _ _ (fun _ => Or.inl rfl) (zdg dz_R_in_0 9 rfl)
  · refine vf_iload_n C (f := 0) (zdg dz_R_in_0 3 rfl) 0 rfl rfl ?_
    refine vf_iload_n C (f := 2) (zdg dz_R_in_0 4 rfl) 2 rfl rfl ?_
    refine vf_icmp_gt C (off := 7) (tgt := 14) (zdg dz_R_in_0 5 rfl) (by decide) ?_ ?_
    · refine vf_iconst C (z := 0) (zdg dz_R_in_0 8 rfl) (jz rfl) ?_
      exact hr _ _ _ _ (fun _ => Or.inl rfl) (zdg dz_R_in_0 9 rfl)
    · refine vf_iconst C (z := 1) (zdg dz_R_in_0 6 rfl) (jz rfl) ?_
      refine vf_goto C (off := 4) (tgt := 15) (zdg dz_R_in_0 7 rfl) (by decide) ?_
      exact hr _ _ _ _ (fun _ => Or.inr rfl) (zdg dz_R_in_0 9 rfl)
def f_R_has (v0 v1 : Int) (w : Wd) : Option (Int × Wd) :=
  if (iand (ishr v0 v1) 1) = 1 then
    some (1, w)
  else
    some (0, w)
theorem ct_R_has (v0 v1 : Int) (w : Wd) : Ct y_R_has prog_14_method_4_code 2 (some .boolean) 1 4 [(0, v0), (0, v1)] w (f_R_has v0 v1 w) := by
  refine ct_of (by decide +kernel) (Or.inr (Or.inr (Or.inl ⟨rfl, rfl⟩))) (Nat.le_of_ble_eq_true rfl) ?_
  intro X Qf ad C hn hR hr
  unfold f_R_has
  show VF X Qf ad NF 0 0 w 0 [(0, (0, v0)), (1, (0, v1))] [] _
  refine vf_iload_n C (f := 0) (zdg dz_R_has_0 0 rfl) 0 rfl rfl ?_
  refine vf_iload_n C (f := 1) (zdg dz_R_has_0 1 rfl) 1 rfl rfl ?_
  refine vf_ishr C (zdg dz_R_has_0 2 rfl) ?_
  refine vf_iconst C (z := 1) (zdg dz_R_has_0 3 rfl) (jz rfl) ?_
  refine vf_iand C (zdg dz_R_has_0 4 rfl) ?_
  refine vf_iconst C (z := 1) (zdg dz_R_has_0 5 rfl) (jz rfl) ?_
  refine vf_icmp_ne C (off := 7) (tgt := 13) (zdg dz_R_has_0 6 rfl) (by decide) ?_ ?_
  · refine vf_iconst C (z := 0) (zdg dz_R_has_0 9 rfl) (jz rfl) ?_
    exact hr _ _ _ _ (fun _ => Or.inl rfl) (zdg dz_R_has_0 10 rfl)
  · refine vf_iconst C (z := 1) (zdg dz_R_has_0 7 rfl) (jz rfl) ?_
    refine vf_goto C (off := 4) (tgt := 14) (zdg dz_R_has_0 8 rfl) (by decide) ?_
    exact hr _ _ _ _ (fun _ => Or.inr rfl) (zdg dz_R_has_0 10 rfl)
def f_R_lost (w : Wd) : Option (Int × Wd) :=
  jlw (st w 43 16 1) fun u1 =>
  some (0, u1)
theorem ct_R_lost (w : Wd) : Ct y_R_lost prog_14_method_5_code 1 (some .int) 1 0 [(2, 44)] w (f_R_lost w) := by
  refine ct_of (by decide +kernel) (Or.inl ⟨rfl, rfl⟩) (Nat.le_of_ble_eq_true rfl) ?_
  intro X Qf ad C hn hR hr
  unfold f_R_lost
  show VF X Qf ad NF 0 0 w 0 [(0, (2, 44))] [] _
  refine vf_aload_n C (f := 0) (zdg dz_R_lost_0 0 rfl) 0 rfl rfl ?_
  refine vf_iconst C (z := 1) (zdg dz_R_lost_0 1 rfl) (jz rfl) ?_
  refine vf_put C (kd := 0) fl_R_138 fk_11_16 sh_43 rfl (by decide) rfl rfl (by decide) (zdg dz_R_lost_0 2 rfl) ?_
  generalize st w 43 16 1 = u1
  refine vf_uw ?_
  refine vf_iconst C (z := 0) (zdg dz_R_lost_0 3 rfl) (jz rfl) ?_
  exact hr _ _ _ _ (fun h => absurd h (by decide)) (zdg dz_R_lost_0 4 rfl)
def f_R_tell (v1 : Int) (w : Wd) : Option (Int × Wd) :=
  jgd ((0 : Int) ≤ (w 43 15) ∧ (w 43 15) < 16) <|
  jlw (st w 52 (w 43 15).toNat v1) fun u1 =>
  jlw (st u1 43 15 (w32 ((u1 43 15) + 1))) fun u2 =>
  some (0, u2)
theorem ct_R_tell (v1 : Int) (w : Wd) : Ct y_R_tell prog_14_method_6_code 2 none 1 9 [(2, 44), (0, v1)] w (f_R_tell v1 w) := by
  refine ct_of (by decide +kernel) (Or.inr (Or.inr (Or.inr ⟨rfl, rfl⟩))) (Nat.le_of_ble_eq_true rfl) ?_
  intro X Qf ad C hn hR hr
  unfold f_R_tell
  show VF X Qf ad NF 0 0 w 0 [(0, (2, 44)), (1, (0, v1))] [] _
  refine vf_aload_n C (f := 0) (zdg dz_R_tell_0 0 rfl) 0 rfl rfl ?_
  refine vf_getp C fl_R_43 sh_43 rfl (by decide) rfl (x := 53) rfl (zdg dz_R_tell_0 1 rfl) ?_
  refine vf_aload_n C (f := 0) (zdg dz_R_tell_0 2 rfl) 0 rfl rfl ?_
  refine vf_get C (kd := 0) fl_R_141 sh_43 rfl (by decide) rfl rfl (zdg dz_R_tell_0 3 rfl) ?_
  refine vf_iload_n C (f := 1) (zdg dz_R_tell_0 4 rfl) 1 rfl rfl ?_
  refine vf_iast C sh_52 (by decide) rfl (mz := 16) rfl (zdg dz_R_tell_0 5 rfl) ?_
  generalize st w 52 (w 43 15).toNat v1 = u1
  refine vf_uw ?_
  refine vf_aload_n C (f := 0) (zdg dz_R_tell_0 6 rfl) 0 rfl rfl ?_
  refine vf_dup C (zdg dz_R_tell_0 7 rfl) (Nat.succ_ne_self 1) ?_
  refine vf_get C (kd := 0) fl_R_141 sh_43 rfl (by decide) rfl rfl (zdg dz_R_tell_0 8 rfl) ?_
  refine vf_iconst C (z := 1) (zdg dz_R_tell_0 9 rfl) (jz rfl) ?_
  refine vf_iadd C (zdg dz_R_tell_0 10 rfl) ?_
  refine vf_put C (kd := 0) fl_R_141 fk_11_15 sh_43 rfl (by decide) rfl rfl (by decide) (zdg dz_R_tell_0 11 rfl) ?_
  generalize st u1 43 15 (w32 ((u1 43 15) + 1)) = u2
  refine vf_uw ?_
  exact hr _ _ _ _ (fun h => absurd h (by decide)) (zdg dz_R_tell_0 12 rfl)
def f_R_isOne (v1 : Int) (w : Wd) : Option (Int × Wd) :=
  jcall (f_R_in v1 0 (w32 ((w 43 0) - 1)) w) fun r1 u2 =>
  if r1 = 0 ∨ r1 = 1 then some (r1, u2) else none
theorem ct_R_isOne (v1 : Int) (w : Wd) : Ct y_R_isOne prog_14_method_7_code 2 (some .boolean) 2 4 [(2, 44), (0, v1)] w (f_R_isOne v1 w) := by
  refine ct_of (by decide +kernel) (Or.inr (Or.inr (Or.inl ⟨rfl, rfl⟩))) (Nat.le_of_ble_eq_true rfl) ?_
  intro X Qf ad C hn hR hr
  unfold f_R_isOne
  show VF X Qf ad NF 0 0 w 0 [(0, (2, 44)), (1, (0, v1))] [] _
  refine vf_iload_n C (f := 1) (zdg dz_R_isOne_0 0 rfl) 1 rfl rfl ?_
  refine vf_iconst C (z := 0) (zdg dz_R_isOne_0 1 rfl) (jz rfl) ?_
  refine vf_aload_n C (f := 0) (zdg dz_R_isOne_0 2 rfl) 0 rfl rfl ?_
  refine vf_get C (kd := 0) fl_R_144 sh_43 rfl (by decide) rfl rfl (zdg dz_R_isOne_0 3 rfl) ?_
  refine vf_iconst C (z := 1) (zdg dz_R_isOne_0 4 rfl) (jz rfl) ?_
  refine vf_isub C (zdg dz_R_isOne_0 5 rfl) ?_
  refine vf_callSz C cy_R_in ml_R_147 (ct_R_in _ _ _ _) (S := []) (jrm_of hR rfl) rfl rfl (Nat.le_of_ble_eq_true rfl) (zdg dz_R_isOne_0 6 rfl) (fun r1 u2 => ?_)
  refine vf_if _ (fun h => ?_) (fun _ => vf_no)
  exact hr _ _ _ _ (fun _ => h) (zdg dz_R_isOne_0 7 rfl)
def f_R_areTwo (v1 v2 : Int) (w : Wd) : Option (Int × Wd) :=
  jcall (f_R_isOne v1 w) fun r1 u2 =>
  if r1 = 0 then
    some (0, u2)
  else
    jcall (f_R_isOne v2 u2) fun r3 u4 =>
    if r3 = 0 then
      some (0, u4)
    else
      if v1 = v2 then
        some (0, u4)
      else
        some (1, u4)
theorem ct_R_areTwo (v1 v2 : Int) (w : Wd) : Ct y_R_areTwo prog_14_method_8_code 3 (some .boolean) 3 4 [(2, 44), (0, v1), (0, v2)] w (f_R_areTwo v1 v2 w) := by
  refine ct_of (by decide +kernel) (Or.inr (Or.inr (Or.inl ⟨rfl, rfl⟩))) (Nat.le_of_ble_eq_true rfl) ?_
  intro X Qf ad C hn hR hr
  unfold f_R_areTwo
  show VF X Qf ad NF 0 0 w 0 [(0, (2, 44)), (1, (0, v1)), (2, (0, v2))] [] _
  refine vf_aload_n C (f := 0) (zdg dz_R_areTwo_0 0 rfl) 0 rfl rfl ?_
  refine vf_iload_n C (f := 1) (zdg dz_R_areTwo_0 1 rfl) 1 rfl rfl ?_
  refine vf_callVz C cy_R_isOne ml_R_151 rfl (ct_R_isOne _ _) (S := []) sh_43 (by decide) rfl (jrm_of hR rfl) rfl rfl (Nat.le_of_ble_eq_true rfl) (zdg dz_R_areTwo_0 2 rfl) (fun r1 u2 => ?_)
  refine vf_if_eq C (off := 20) (tgt := 25) (zdg dz_R_areTwo_0 3 rfl) (by decide) ?_ ?_
  · refine vf_iconst C (z := 0) (zdg dz_R_areTwo_0 13 rfl) (jz rfl) ?_
    exact hr _ _ _ _ (fun _ => Or.inl rfl) (zdg dz_R_areTwo_0 14 rfl)
  · refine vf_aload_n C (f := 0) (zdg dz_R_areTwo_0 4 rfl) 0 rfl rfl ?_
    refine vf_iload_n C (f := 2) (zdg dz_R_areTwo_0 5 rfl) 2 rfl rfl ?_
    refine vf_callVz C cy_R_isOne ml_R_151 rfl (ct_R_isOne _ _) (S := []) sh_43 (by decide) rfl (jrm_of hR rfl) rfl rfl (Nat.le_of_ble_eq_true rfl) (zdg dz_R_areTwo_0 6 rfl) (fun r3 u4 => ?_)
    refine vf_if_eq C (off := 12) (tgt := 25) (zdg dz_R_areTwo_0 7 rfl) (by decide) ?_ ?_
    · refine vf_iconst C (z := 0) (zdg dz_R_areTwo_0 13 rfl) (jz rfl) ?_
      exact hr _ _ _ _ (fun _ => Or.inl rfl) (zdg dz_R_areTwo_0 14 rfl)
    · refine vf_iload_n C (f := 1) (zdg dz_R_areTwo_0 8 rfl) 1 rfl rfl ?_
      refine vf_iload_n C (f := 2) (zdg dz_R_areTwo_0 9 rfl) 2 rfl rfl ?_
      refine vf_icmp_eq C (off := 7) (tgt := 25) (zdg dz_R_areTwo_0 10 rfl) (by decide) ?_ ?_
      · refine vf_iconst C (z := 0) (zdg dz_R_areTwo_0 13 rfl) (jz rfl) ?_
        exact hr _ _ _ _ (fun _ => Or.inl rfl) (zdg dz_R_areTwo_0 14 rfl)
      · refine vf_iconst C (z := 1) (zdg dz_R_areTwo_0 11 rfl) (jz rfl) ?_
        refine vf_goto C (off := 4) (tgt := 26) (zdg dz_R_areTwo_0 12 rfl) (by decide) ?_
        exact hr _ _ _ _ (fun _ => Or.inr rfl) (zdg dz_R_areTwo_0 14 rfl)
def f_R_isGuest (v0 : Int) (w : Wd) : Option (Int × Wd) :=
  if v0 < 1 then
    some (0, w)
  else
    if (4 : Int) ≤ v0 then
      some (0, w)
    else
      some (1, w)
theorem ct_R_isGuest (v0 : Int) (w : Wd) : Ct y_R_isGuest prog_14_method_9_code 1 (some .boolean) 1 4 [(0, v0)] w (f_R_isGuest v0 w) := by
  refine ct_of (by decide +kernel) (Or.inr (Or.inr (Or.inl ⟨rfl, rfl⟩))) (Nat.le_of_ble_eq_true rfl) ?_
  intro X Qf ad C hn hR hr
  unfold f_R_isGuest
  show VF X Qf ad NF 0 0 w 0 [(0, (0, v0))] [] _
  refine vf_iload_n C (f := 0) (zdg dz_R_isGuest_0 0 rfl) 0 rfl rfl ?_
  refine vf_iconst C (z := 1) (zdg dz_R_isGuest_0 1 rfl) (jz rfl) ?_
  refine vf_icmp_lt C (off := 12) (tgt := 14) (zdg dz_R_isGuest_0 2 rfl) (by decide) ?_ ?_
  · refine vf_iconst C (z := 0) (zdg dz_R_isGuest_0 8 rfl) (jz rfl) ?_
    exact hr _ _ _ _ (fun _ => Or.inl rfl) (zdg dz_R_isGuest_0 9 rfl)
  · refine vf_iload_n C (f := 0) (zdg dz_R_isGuest_0 3 rfl) 0 rfl rfl ?_
    refine vf_iconst C (z := 4) (zdg dz_R_isGuest_0 4 rfl) (jz rfl) ?_
    refine vf_icmp_ge C (off := 7) (tgt := 14) (zdg dz_R_isGuest_0 5 rfl) (by decide) ?_ ?_
    · refine vf_iconst C (z := 0) (zdg dz_R_isGuest_0 8 rfl) (jz rfl) ?_
      exact hr _ _ _ _ (fun _ => Or.inl rfl) (zdg dz_R_isGuest_0 9 rfl)
    · refine vf_iconst C (z := 1) (zdg dz_R_isGuest_0 6 rfl) (jz rfl) ?_
      refine vf_goto C (off := 4) (tgt := 15) (zdg dz_R_isGuest_0 7 rfl) (by decide) ?_
      exact hr _ _ _ _ (fun _ => Or.inr rfl) (zdg dz_R_isGuest_0 9 rfl)
def f_R_those_38 (k5 : Int → Int → Int → Int → Wd → Option (Int × Wd)) (v1 v2 v4 s0 s1 : Int) (w : Wd) : Option (Int × Wd) :=
  jlet (ior s0 s1) fun x3 =>
  jlet (w32 (v4 + 1)) fun x4 =>
  k5 v1 v2 x3 x4 w
theorem t_R_those_38 {X : jX} {Qf : Int × Wd → State → Prop} {ad : Nat → Nat} (C : Cx X prog_14_method_10_code "EachBringsAnotherModel") (hn : xn X = 5) (hR : xR X = rmD 2) (hr : Rt X Qf ad prog_14_method_10_code 0) {k5 : Int → Int → Int → Int → Wd → Option (Int × Wd)} (hk5 : ∀ (v1 v2 v3 v4 : Int) (w : Wd), VF X Qf ad NF 0 0 w 5 [(0, (2, 44)), (1, (0, v1)), (2, (0, v2)), (3, (0, v3)), (4, (0, v4))] [] (k5 v1 v2 v3 v4 w)) (v1 v2 v4 s0 s1 : Int) (w : Wd) : VF X Qf ad NF 0 0 w 38 [(0, (2, 44)), (1, (0, v1)), (2, (0, v2)), (4, (0, v4))] [(0, s1), (0, s0)] (f_R_those_38 k5 v1 v2 v4 s0 s1 w) := by
  unfold f_R_those_38
  refine vf_ior C (zdg dz_R_those_0 22 rfl) ?_
  generalize ior s0 s1 = x3
  refine vf_ul ?_
  refine vf_istore_n C (f := 3) (L' := [(0, (2, 44)), (1, (0, v1)), (2, (0, v2)), (4, (0, v4))]) (zdg dz_R_those_0 23 rfl) [0, 1, 2, 3] (jrI rfl rfl) hn (by decide) rfl ?_
  refine vf_iinc C (z := 1) (L' := [(3, (0, x3)), (0, (2, 44)), (1, (0, v1)), (2, (0, v2))]) (zdg dz_R_those_1 0 rfl) 4 rfl [0, 1, 2, 3] (jrI rfl rfl) hn (by decide) ?_
  generalize w32 (v4 + 1) = x4
  refine vf_ul ?_
  refine vf_goto C (off := (-38)) (tgt := 5) (zdg dz_R_those_1 1 rfl) (by decide) ?_
  exact vf_perm [2, 3, 4, 1, 0] rfl (hk5 _ _ _ _ _)
def f_R_those_5 : Nat → Int → Int → Int → Int → Wd → Option (Int × Wd)
  | 0, _, _, _, _, _ => none
  | n + 1, v1, v2, v3, v4, w =>
    if (w 43 0) ≤ v4 then
      some (v3, w)
    else
      jgd ((0 : Int) ≤ v4 ∧ v4 < 10) <|
      jcall (f_R_in (w 47 v4.toNat) v1 v2 w) fun r1 u2 =>
      if r1 = 0 then
        f_R_those_38 (f_R_those_5 n) v1 v2 v4 v3 0 u2
      else
        f_R_those_38 (f_R_those_5 n) v1 v2 v4 v3 (ishl 1 v4) u2
theorem t_R_those_5 {X : jX} {Qf : Int × Wd → State → Prop} {ad : Nat → Nat} (C : Cx X prog_14_method_10_code "EachBringsAnotherModel") (hn : xn X = 5) (hR : xR X = rmD 2) (hr : Rt X Qf ad prog_14_method_10_code 0) : ∀ (n : Nat) (v1 v2 v3 v4 : Int) (w : Wd), VF X Qf ad NF 0 0 w 5 [(0, (2, 44)), (1, (0, v1)), (2, (0, v2)), (3, (0, v3)), (4, (0, v4))] [] (f_R_those_5 n v1 v2 v3 v4 w) := by
  intro n
  induction n with
  | zero => intros; exact vf_no
  | succ n ih =>
    intro v1 v2 v3 v4 w
    rw [f_R_those_5]
    refine vf_iload C (zdg dz_R_those_0 4 rfl) 4 rfl ?_
    refine vf_aload_n C (f := 0) (zdg dz_R_those_0 5 rfl) 0 rfl rfl ?_
    refine vf_get C (kd := 0) fl_R_144 sh_43 rfl (by decide) rfl rfl (zdg dz_R_those_0 6 rfl) ?_
    refine vf_icmp_ge C (off := 35) (tgt := 46) (zdg dz_R_those_0 7 rfl) (by decide) ?_ ?_
    · refine vf_iload_n C (f := 3) (zdg dz_R_those_1 2 rfl) 3 rfl rfl ?_
      exact hr _ _ _ _ (fun h => absurd h (by decide)) (zdg dz_R_those_1 3 rfl)
    · refine vf_iload_n C (f := 3) (zdg dz_R_those_0 8 rfl) 3 rfl rfl ?_
      refine vf_aload_n C (f := 0) (zdg dz_R_those_0 9 rfl) 0 rfl rfl ?_
      refine vf_getp C fl_R_20 sh_43 rfl (by decide) rfl (x := 48) rfl (zdg dz_R_those_0 10 rfl) ?_
      refine vf_iload C (zdg dz_R_those_0 11 rfl) 4 rfl ?_
      refine vf_iald C sh_47 (by decide) rfl (mz := 10) rfl (zdg dz_R_those_0 12 rfl) ?_
      refine vf_iload_n C (f := 1) (zdg dz_R_those_0 13 rfl) 1 rfl rfl ?_
      refine vf_iload_n C (f := 2) (zdg dz_R_those_0 14 rfl) 2 rfl rfl ?_
      refine vf_callSz C cy_R_in ml_R_147 (ct_R_in _ _ _ _) (S := [(0, v3)]) (jrm_of hR rfl) rfl rfl (Nat.le_of_ble_eq_true rfl) (zdg dz_R_those_0 15 rfl) (fun r1 u2 => ?_)
      refine vf_if_eq C (off := 10) (tgt := 37) (zdg dz_R_those_0 16 rfl) (by decide) ?_ ?_
      · refine vf_iconst C (z := 0) (zdg dz_R_those_0 21 rfl) (jz rfl) ?_
        exact vf_perm [0, 1, 2, 4] rfl (t_R_those_38 C hn hR hr ih _ _ _ _ _ _)
      · refine vf_iconst C (z := 1) (zdg dz_R_those_0 17 rfl) (jz rfl) ?_
        refine vf_iload C (zdg dz_R_those_0 18 rfl) 4 rfl ?_
        refine vf_ishl C (zdg dz_R_those_0 19 rfl) ?_
        refine vf_goto C (off := 4) (tgt := 38) (zdg dz_R_those_0 20 rfl) (by decide) ?_
        exact vf_perm [0, 1, 2, 4] rfl (t_R_those_38 C hn hR hr ih _ _ _ _ _ _)
def f_R_those (v1 v2 : Int) (w : Wd) : Option (Int × Wd) :=
  f_R_those_5 FU v1 v2 0 0 w
theorem ct_R_those (v1 v2 : Int) (w : Wd) : Ct y_R_those prog_14_method_10_code 5 (some .int) 2 0 [(2, 44), (0, v1), (0, v2)] w (f_R_those v1 v2 w) := by
  refine ct_of (by decide +kernel) (Or.inl ⟨rfl, rfl⟩) (Nat.le_of_ble_eq_true rfl) ?_
  intro X Qf ad C hn hR hr
  unfold f_R_those
  show VF X Qf ad NF 0 0 w 0 [(0, (2, 44)), (1, (0, v1)), (2, (0, v2))] [] _
  refine vf_iconst C (z := 0) (zdg dz_R_those_0 0 rfl) (jz rfl) ?_
  refine vf_istore_n C (f := 3) (L' := [(0, (2, 44)), (1, (0, v1)), (2, (0, v2))]) (zdg dz_R_those_0 1 rfl) [0, 1, 2] (jrI rfl rfl) hn (by decide) rfl ?_
  refine vf_iconst C (z := 0) (zdg dz_R_those_0 2 rfl) (jz rfl) ?_
  refine vf_istore C (i := 4) (L' := [(3, (0, 0)), (0, (2, 44)), (1, (0, v1)), (2, (0, v2))]) (zdg dz_R_those_0 3 rfl) [0, 1, 2, 3] (jrI rfl rfl) hn (by decide) ?_
  exact vf_perm [2, 3, 4, 1, 0] rfl (t_R_those_5 C hn hR hr FU _ _ _ _ _)
def f_R_guests (w : Wd) : Option (Int × Wd) :=
  jcall (f_R_those 1 3 w) fun r1 u2 =>
  some (r1, u2)
theorem ct_R_guests (w : Wd) : Ct y_R_guests prog_14_method_11_code 1 (some .int) 3 0 [(2, 44)] w (f_R_guests w) := by
  refine ct_of (by decide +kernel) (Or.inl ⟨rfl, rfl⟩) (Nat.le_of_ble_eq_true rfl) ?_
  intro X Qf ad C hn hR hr
  unfold f_R_guests
  show VF X Qf ad NF 0 0 w 0 [(0, (2, 44))] [] _
  refine vf_aload_n C (f := 0) (zdg dz_R_guests_0 0 rfl) 0 rfl rfl ?_
  refine vf_iconst C (z := 1) (zdg dz_R_guests_0 1 rfl) (jz rfl) ?_
  refine vf_iconst C (z := 3) (zdg dz_R_guests_0 2 rfl) (jz rfl) ?_
  refine vf_callVi C cy_R_those ml_R_155 rfl (ct_R_those _ _ _) (S := []) sh_43 (by decide) rfl (jrm_of hR rfl) rfl rfl (Nat.le_of_ble_eq_true rfl) (zdg dz_R_guests_0 3 rfl) (fun r1 u2 => ?_)
  exact hr _ _ _ _ (fun h => absurd h (by decide)) (zdg dz_R_guests_0 4 rfl)
def f_R_hidden_29 (k4 : Int → Int → Wd → Option (Int × Wd)) (v2 s0 s1 : Int) (w : Wd) : Option (Int × Wd) :=
  jlet (ior s0 s1) fun x1 =>
  jlet (w32 (v2 + 1)) fun x2 =>
  k4 x1 x2 w
theorem t_R_hidden_29 {X : jX} {Qf : Int × Wd → State → Prop} {ad : Nat → Nat} (C : Cx X prog_14_method_12_code "EachBringsAnotherModel") (hn : xn X = 3) (hR : xR X = rmD 1) (hr : Rt X Qf ad prog_14_method_12_code 0) {k4 : Int → Int → Wd → Option (Int × Wd)} (hk4 : ∀ (v1 v2 : Int) (w : Wd), VF X Qf ad NF 0 0 w 4 [(0, (2, 44)), (1, (0, v1)), (2, (0, v2))] [] (k4 v1 v2 w)) (v2 s0 s1 : Int) (w : Wd) : VF X Qf ad NF 0 0 w 29 [(0, (2, 44)), (2, (0, v2))] [(0, s1), (0, s0)] (f_R_hidden_29 k4 v2 s0 s1 w) := by
  unfold f_R_hidden_29
  refine vf_ior C (zdg dz_R_hidden_0 19 rfl) ?_
  generalize ior s0 s1 = x1
  refine vf_ul ?_
  refine vf_istore_n C (f := 1) (L' := [(0, (2, 44)), (2, (0, v2))]) (zdg dz_R_hidden_0 20 rfl) [0, 1] (jrI rfl rfl) hn (by decide) rfl ?_
  refine vf_iinc C (z := 1) (L' := [(1, (0, x1)), (0, (2, 44))]) (zdg dz_R_hidden_0 21 rfl) 2 rfl [0, 1] (jrI rfl rfl) hn (by decide) ?_
  generalize w32 (v2 + 1) = x2
  refine vf_ul ?_
  refine vf_goto C (off := (-30)) (tgt := 4) (zdg dz_R_hidden_0 22 rfl) (by decide) ?_
  exact vf_perm [2, 1, 0] rfl (hk4 _ _ _)
def f_R_hidden_4 : Nat → Int → Int → Wd → Option (Int × Wd)
  | 0, _, _, _ => none
  | n + 1, v1, v2, w =>
    if (w 43 0) ≤ v2 then
      some (v1, w)
    else
      jgd ((0 : Int) ≤ v2 ∧ v2 < 10) <|
      if (w 46 v2.toNat) = 0 then
        f_R_hidden_29 (f_R_hidden_4 n) v2 v1 0 w
      else
        f_R_hidden_29 (f_R_hidden_4 n) v2 v1 (ishl 1 v2) w
theorem t_R_hidden_4 {X : jX} {Qf : Int × Wd → State → Prop} {ad : Nat → Nat} (C : Cx X prog_14_method_12_code "EachBringsAnotherModel") (hn : xn X = 3) (hR : xR X = rmD 1) (hr : Rt X Qf ad prog_14_method_12_code 0) : ∀ (n : Nat) (v1 v2 : Int) (w : Wd), VF X Qf ad NF 0 0 w 4 [(0, (2, 44)), (1, (0, v1)), (2, (0, v2))] [] (f_R_hidden_4 n v1 v2 w) := by
  intro n
  induction n with
  | zero => intros; exact vf_no
  | succ n ih =>
    intro v1 v2 w
    rw [f_R_hidden_4]
    refine vf_iload_n C (f := 2) (zdg dz_R_hidden_0 4 rfl) 2 rfl rfl ?_
    refine vf_aload_n C (f := 0) (zdg dz_R_hidden_0 5 rfl) 0 rfl rfl ?_
    refine vf_get C (kd := 0) fl_R_144 sh_43 rfl (by decide) rfl rfl (zdg dz_R_hidden_0 6 rfl) ?_
    refine vf_icmp_ge C (off := 28) (tgt := 37) (zdg dz_R_hidden_0 7 rfl) (by decide) ?_ ?_
    · refine vf_iload_n C (f := 1) (zdg dz_R_hidden_0 23 rfl) 1 rfl rfl ?_
      exact hr _ _ _ _ (fun h => absurd h (by decide)) (zdg dz_R_hidden_1 0 rfl)
    · refine vf_iload_n C (f := 1) (zdg dz_R_hidden_0 8 rfl) 1 rfl rfl ?_
      refine vf_aload_n C (f := 0) (zdg dz_R_hidden_0 9 rfl) 0 rfl rfl ?_
      refine vf_getp C fl_R_16 sh_43 rfl (by decide) rfl (x := 47) rfl (zdg dz_R_hidden_0 10 rfl) ?_
      refine vf_iload_n C (f := 2) (zdg dz_R_hidden_0 11 rfl) 2 rfl rfl ?_
      refine vf_zald C sh_46 (by decide) rfl (mz := 10) rfl (zdg dz_R_hidden_0 12 rfl) ?_
      refine vf_if_eq C (off := 9) (tgt := 28) (zdg dz_R_hidden_0 13 rfl) (by decide) ?_ ?_
      · refine vf_iconst C (z := 0) (zdg dz_R_hidden_0 18 rfl) (jz rfl) ?_
        exact vf_perm [0, 2] rfl (t_R_hidden_29 C hn hR hr ih _ _ _ _)
      · refine vf_iconst C (z := 1) (zdg dz_R_hidden_0 14 rfl) (jz rfl) ?_
        refine vf_iload_n C (f := 2) (zdg dz_R_hidden_0 15 rfl) 2 rfl rfl ?_
        refine vf_ishl C (zdg dz_R_hidden_0 16 rfl) ?_
        refine vf_goto C (off := 4) (tgt := 29) (zdg dz_R_hidden_0 17 rfl) (by decide) ?_
        exact vf_perm [0, 2] rfl (t_R_hidden_29 C hn hR hr ih _ _ _ _)
def f_R_hidden (w : Wd) : Option (Int × Wd) :=
  f_R_hidden_4 FU 0 0 w
theorem ct_R_hidden (w : Wd) : Ct y_R_hidden prog_14_method_12_code 3 (some .int) 1 0 [(2, 44)] w (f_R_hidden w) := by
  refine ct_of (by decide +kernel) (Or.inl ⟨rfl, rfl⟩) (Nat.le_of_ble_eq_true rfl) ?_
  intro X Qf ad C hn hR hr
  unfold f_R_hidden
  show VF X Qf ad NF 0 0 w 0 [(0, (2, 44))] [] _
  refine vf_iconst C (z := 0) (zdg dz_R_hidden_0 0 rfl) (jz rfl) ?_
  refine vf_istore_n C (f := 1) (L' := [(0, (2, 44))]) (zdg dz_R_hidden_0 1 rfl) [0] (jrI rfl rfl) hn (by decide) rfl ?_
  refine vf_iconst C (z := 0) (zdg dz_R_hidden_0 2 rfl) (jz rfl) ?_
  refine vf_istore_n C (f := 2) (L' := [(1, (0, 0)), (0, (2, 44))]) (zdg dz_R_hidden_0 3 rfl) [0, 1] (jrI rfl rfl) hn (by decide) rfl ?_
  exact vf_perm [2, 1, 0] rfl (t_R_hidden_4 C hn hR hr FU _ _ _)
def f_R_free (w : Wd) : Option (Int × Wd) :=
  jcall (f_R_those 0 0 w) fun r1 u2 =>
  jcall (f_R_hidden u2) fun r3 u4 =>
  some (iand r1 (ixor r3 (-1)), u4)
theorem ct_R_free (w : Wd) : Ct y_R_free prog_14_method_13_code 1 (some .int) 3 0 [(2, 44)] w (f_R_free w) := by
  refine ct_of (by decide +kernel) (Or.inl ⟨rfl, rfl⟩) (Nat.le_of_ble_eq_true rfl) ?_
  intro X Qf ad C hn hR hr
  unfold f_R_free
  show VF X Qf ad NF 0 0 w 0 [(0, (2, 44))] [] _
  refine vf_aload_n C (f := 0) (zdg dz_R_free_0 0 rfl) 0 rfl rfl ?_
  refine vf_iconst C (z := 0) (zdg dz_R_free_0 1 rfl) (jz rfl) ?_
  refine vf_iconst C (z := 0) (zdg dz_R_free_0 2 rfl) (jz rfl) ?_
  refine vf_callVi C cy_R_those ml_R_155 rfl (ct_R_those _ _ _) (S := []) sh_43 (by decide) rfl (jrm_of hR rfl) rfl rfl (Nat.le_of_ble_eq_true rfl) (zdg dz_R_free_0 3 rfl) (fun r1 u2 => ?_)
  refine vf_aload_n C (f := 0) (zdg dz_R_free_0 4 rfl) 0 rfl rfl ?_
  refine vf_callVi C cy_R_hidden ml_R_159 rfl (ct_R_hidden _) (S := [(0, r1)]) sh_43 (by decide) rfl (jrm_of hR rfl) rfl rfl (Nat.le_of_ble_eq_true rfl) (zdg dz_R_free_0 5 rfl) (fun r3 u4 => ?_)
  refine vf_iconst C (z := (-1)) (zdg dz_R_free_0 6 rfl) (jz rfl) ?_
  refine vf_ixor C (zdg dz_R_free_0 7 rfl) ?_
  refine vf_iand C (zdg dz_R_free_0 8 rfl) ?_
  exact hr _ _ _ _ (fun h => absurd h (by decide)) (zdg dz_R_free_0 9 rfl)
def f_R_sign_20 : Nat → Int → Int → Wd → Option (Int × Wd)
  | 0, _, _, _ => none
  | n + 1, v1, v2, w =>
    if v2 < 0 then
      some (w 43 13, w)
    else
      jlet (w 43 13) fun x2 =>
      jlw (st w 43 13 (w32 (x2 + 1))) fun u3 =>
      jgd ((0 : Int) ≤ x2 ∧ x2 < 80) <|
      jlw (st u3 51 x2.toNat (nb (i2b (ishr v1 (w32 (8 * v2)))))) fun u4 =>
      jlet (w32 (v2 + (-1))) fun x5 =>
      f_R_sign_20 n v1 x5 u4
theorem t_R_sign_20 {X : jX} {Qf : Int × Wd → State → Prop} {ad : Nat → Nat} (C : Cx X prog_14_method_14_code "EachBringsAnotherModel") (hn : xn X = 3) (hR : xR X = rmD 1) (hr : Rt X Qf ad prog_14_method_14_code 0) : ∀ (n : Nat) (v1 v2 : Int) (w : Wd), VF X Qf ad NF 0 0 w 20 [(0, (2, 44)), (1, (0, v1)), (2, (0, v2))] [] (f_R_sign_20 n v1 v2 w) := by
  intro n
  induction n with
  | zero => intros; exact vf_no
  | succ n ih =>
    intro v1 v2 w
    rw [f_R_sign_20]
    refine vf_iload_n C (f := 2) (zdg dz_R_sign_0 13 rfl) 2 rfl rfl ?_
    refine vf_if_lt C (off := 32) (tgt := 53) (zdg dz_R_sign_0 14 rfl) (by decide) ?_ ?_
    · refine vf_aload_n C (f := 0) (zdg dz_R_sign_1 9 rfl) 0 rfl rfl ?_
      refine vf_get C (kd := 0) fl_R_163 sh_43 rfl (by decide) rfl rfl (zdg dz_R_sign_1 10 rfl) ?_
      exact hr _ _ _ _ (fun h => absurd h (by decide)) (zdg dz_R_sign_1 11 rfl)
    · refine vf_aload_n C (f := 0) (zdg dz_R_sign_0 15 rfl) 0 rfl rfl ?_
      refine vf_getp C fl_R_39 sh_43 rfl (by decide) rfl (x := 52) rfl (zdg dz_R_sign_0 16 rfl) ?_
      refine vf_aload_n C (f := 0) (zdg dz_R_sign_0 17 rfl) 0 rfl rfl ?_
      refine vf_dup C (zdg dz_R_sign_0 18 rfl) (Nat.succ_ne_self 1) ?_
      refine vf_get C (kd := 0) fl_R_163 sh_43 rfl (by decide) rfl rfl (zdg dz_R_sign_0 19 rfl) ?_
      generalize w 43 13 = x2
      refine vf_ul ?_
      refine vf_dup_x1 C (zdg dz_R_sign_0 20 rfl) Nat.zero_ne_one (Nat.succ_ne_self 1) ?_
      refine vf_iconst C (z := 1) (zdg dz_R_sign_0 21 rfl) (jz rfl) ?_
      refine vf_iadd C (zdg dz_R_sign_0 22 rfl) ?_
      refine vf_put C (kd := 0) fl_R_163 fk_11_13 sh_43 rfl (by decide) rfl rfl (by decide) (zdg dz_R_sign_0 23 rfl) ?_
      generalize st w 43 13 (w32 (x2 + 1)) = u3
      refine vf_uw ?_
      refine vf_iload_n C (f := 1) (zdg dz_R_sign_1 0 rfl) 1 rfl rfl ?_
      refine vf_bipush C (z := 8) (zdg dz_R_sign_1 1 rfl) (by decide +kernel) (jz rfl) ?_
      refine vf_iload_n C (f := 2) (zdg dz_R_sign_1 2 rfl) 2 rfl rfl ?_
      refine vf_imul C (zdg dz_R_sign_1 3 rfl) ?_
      refine vf_ishr C (zdg dz_R_sign_1 4 rfl) ?_
      refine vf_i2b C (zdg dz_R_sign_1 5 rfl) ?_
      refine vf_bast C sh_51 (by decide) rfl (mz := 80) rfl (zdg dz_R_sign_1 6 rfl) ?_
      generalize st u3 51 x2.toNat (nb (i2b (ishr v1 (w32 (8 * v2))))) = u4
      refine vf_uw ?_
      refine vf_iinc C (z := (-1)) (L' := [(0, (2, 44)), (1, (0, v1))]) (zdg dz_R_sign_1 7 rfl) 2 rfl [0, 1] (jrI rfl rfl) hn (by decide) ?_
      generalize w32 (v2 + (-1)) = x5
      refine vf_ul ?_
      refine vf_goto C (off := (-30)) (tgt := 20) (zdg dz_R_sign_1 8 rfl) (by decide) ?_
      exact vf_perm [1, 2, 0] rfl (ih _ _ _)
def f_R_sign (v1 : Int) (w : Wd) : Option (Int × Wd) :=
  jlw (st w 43 16 0) fun u1 =>
  if (w32 ((u1 43 13) + 4)) ≤ 80 then
    f_R_sign_20 FU v1 3 u1
  else
    some ((-1), u1)
theorem ct_R_sign (v1 : Int) (w : Wd) : Ct y_R_sign prog_14_method_14_code 3 (some .int) 1 0 [(2, 44), (0, v1)] w (f_R_sign v1 w) := by
  refine ct_of (by decide +kernel) (Or.inl ⟨rfl, rfl⟩) (Nat.le_of_ble_eq_true rfl) ?_
  intro X Qf ad C hn hR hr
  unfold f_R_sign
  show VF X Qf ad NF 0 0 w 0 [(0, (2, 44)), (1, (0, v1))] [] _
  refine vf_aload_n C (f := 0) (zdg dz_R_sign_0 0 rfl) 0 rfl rfl ?_
  refine vf_iconst C (z := 0) (zdg dz_R_sign_0 1 rfl) (jz rfl) ?_
  refine vf_put C (kd := 0) fl_R_138 fk_11_16 sh_43 rfl (by decide) rfl rfl (by decide) (zdg dz_R_sign_0 2 rfl) ?_
  generalize st w 43 16 0 = u1
  refine vf_uw ?_
  refine vf_aload_n C (f := 0) (zdg dz_R_sign_0 3 rfl) 0 rfl rfl ?_
  refine vf_get C (kd := 0) fl_R_163 sh_43 rfl (by decide) rfl rfl (zdg dz_R_sign_0 4 rfl) ?_
  refine vf_iconst C (z := 4) (zdg dz_R_sign_0 5 rfl) (jz rfl) ?_
  refine vf_iadd C (zdg dz_R_sign_0 6 rfl) ?_
  refine vf_bipush C (z := 80) (zdg dz_R_sign_0 7 rfl) (by decide +kernel) (jz rfl) ?_
  refine vf_icmp_le C (off := 5) (tgt := 18) (zdg dz_R_sign_0 8 rfl) (by decide) ?_ ?_
  · refine vf_iconst C (z := 3) (zdg dz_R_sign_0 11 rfl) (jz rfl) ?_
    refine vf_istore_n C (f := 2) (L' := [(0, (2, 44)), (1, (0, v1))]) (zdg dz_R_sign_0 12 rfl) [0, 1] (jrI rfl rfl) hn (by decide) rfl ?_
    exact vf_perm [1, 2, 0] rfl (t_R_sign_20 C hn hR hr FU _ _ _)
  · refine vf_iconst C (z := (-1)) (zdg dz_R_sign_0 9 rfl) (jz rfl) ?_
    exact hr _ _ _ _ (fun h => absurd h (by decide)) (zdg dz_R_sign_0 10 rfl)
def f_R_end (v1 : Int) (w : Wd) : Option (Int × Wd) :=
  jlw (st w 43 16 0) fun u1 =>
  jcall (f_R_in v1 0 (u1 43 13) u1) fun r2 u3 =>
  if r2 = 0 then
    some (0, u3)
  else
    jlw (st u3 43 13 v1) fun u4 =>
    some (1, u4)
theorem ct_R_end (v1 : Int) (w : Wd) : Ct y_R_end prog_14_method_15_code 2 (some .boolean) 2 4 [(2, 44), (0, v1)] w (f_R_end v1 w) := by
  refine ct_of (by decide +kernel) (Or.inr (Or.inr (Or.inl ⟨rfl, rfl⟩))) (Nat.le_of_ble_eq_true rfl) ?_
  intro X Qf ad C hn hR hr
  unfold f_R_end
  show VF X Qf ad NF 0 0 w 0 [(0, (2, 44)), (1, (0, v1))] [] _
  refine vf_aload_n C (f := 0) (zdg dz_R_end_0 0 rfl) 0 rfl rfl ?_
  refine vf_iconst C (z := 0) (zdg dz_R_end_0 1 rfl) (jz rfl) ?_
  refine vf_put C (kd := 0) fl_R_138 fk_11_16 sh_43 rfl (by decide) rfl rfl (by decide) (zdg dz_R_end_0 2 rfl) ?_
  generalize st w 43 16 0 = u1
  refine vf_uw ?_
  refine vf_iload_n C (f := 1) (zdg dz_R_end_0 3 rfl) 1 rfl rfl ?_
  refine vf_iconst C (z := 0) (zdg dz_R_end_0 4 rfl) (jz rfl) ?_
  refine vf_aload_n C (f := 0) (zdg dz_R_end_0 5 rfl) 0 rfl rfl ?_
  refine vf_get C (kd := 0) fl_R_163 sh_43 rfl (by decide) rfl rfl (zdg dz_R_end_0 6 rfl) ?_
  refine vf_callSz C cy_R_in ml_R_147 (ct_R_in _ _ _ _) (S := []) (jrm_of hR rfl) rfl rfl (Nat.le_of_ble_eq_true rfl) (zdg dz_R_end_0 7 rfl) (fun r2 u3 => ?_)
  refine vf_if_ne C (off := 5) (tgt := 19) (zdg dz_R_end_0 8 rfl) (by decide) ?_ ?_
  · refine vf_aload_n C (f := 0) (zdg dz_R_end_0 11 rfl) 0 rfl rfl ?_
    refine vf_iload_n C (f := 1) (zdg dz_R_end_0 12 rfl) 1 rfl rfl ?_
    refine vf_put C (kd := 0) fl_R_163 fk_11_13 sh_43 rfl (by decide) rfl rfl (by decide) (zdg dz_R_end_0 13 rfl) ?_
    generalize st u3 43 13 v1 = u4
    refine vf_uw ?_
    refine vf_iconst C (z := 1) (zdg dz_R_end_0 14 rfl) (jz rfl) ?_
    exact hr _ _ _ _ (fun _ => Or.inr rfl) (zdg dz_R_end_0 15 rfl)
  · refine vf_iconst C (z := 0) (zdg dz_R_end_0 9 rfl) (jz rfl) ?_
    exact hr _ _ _ _ (fun _ => Or.inl rfl) (zdg dz_R_end_0 10 rfl)
def f_R_here (w : Wd) : Option (Int × Wd) :=
  if (w 43 18) ≤ (w 43 20) then
    some ((-1), w)
  else
    if (w 43 19) ≤ (w 43 20) then
      some ((-1), w)
    else
      if (w 43 17) = 52 then
        jgd ((0 : Int) ≤ (w 43 20) ∧ (w 43 20) < 80) <|
        some (w 51 (w 43 20).toNat, w)
      else
      if (w 43 17) = 58 then
        jgd ((0 : Int) ≤ (w 43 20) ∧ (w 43 20) < 40) <|
        some (w 57 (w 43 20).toNat, w)
      else
      none
theorem ct_R_here (w : Wd) : Ct y_R_here prog_14_method_17_code 1 (some .int) 1 0 [(2, 44)] w (f_R_here w) := by
  refine ct_of (by decide +kernel) (Or.inl ⟨rfl, rfl⟩) (Nat.le_of_ble_eq_true rfl) ?_
  intro X Qf ad C hn hR hr
  unfold f_R_here
  show VF X Qf ad NF 0 0 w 0 [(0, (2, 44))] [] _
  refine vf_aload_n C (f := 0) (zdg dz_R_here_0 0 rfl) 0 rfl rfl ?_
  refine vf_get C (kd := 0) fl_R_175 sh_43 rfl (by decide) rfl rfl (zdg dz_R_here_0 1 rfl) ?_
  refine vf_aload_n C (f := 0) (zdg dz_R_here_0 2 rfl) 0 rfl rfl ?_
  refine vf_get C (kd := 0) fl_R_169 sh_43 rfl (by decide) rfl rfl (zdg dz_R_here_0 3 rfl) ?_
  refine vf_icmp_ge C (off := 26) (tgt := 34) (zdg dz_R_here_0 4 rfl) (by decide) ?_ ?_
  · refine vf_iconst C (z := (-1)) (zdg dz_R_here_0 16 rfl) (jz rfl) ?_
    exact hr _ _ _ _ (fun h => absurd h (by decide)) (zdg dz_R_here_0 17 rfl)
  · refine vf_aload_n C (f := 0) (zdg dz_R_here_0 5 rfl) 0 rfl rfl ?_
    refine vf_get C (kd := 0) fl_R_175 sh_43 rfl (by decide) rfl rfl (zdg dz_R_here_0 6 rfl) ?_
    refine vf_aload_n C (f := 0) (zdg dz_R_here_0 7 rfl) 0 rfl rfl ?_
    refine vf_get C (kd := 0) fl_R_172 sh_43 rfl (by decide) rfl rfl (zdg dz_R_here_0 8 rfl) ?_
    refine vf_icmp_ge C (off := 15) (tgt := 34) (zdg dz_R_here_0 9 rfl) (by decide) ?_ ?_
    · refine vf_iconst C (z := (-1)) (zdg dz_R_here_0 16 rfl) (jz rfl) ?_
      exact hr _ _ _ _ (fun h => absurd h (by decide)) (zdg dz_R_here_0 17 rfl)
    · refine vf_aload_n C (f := 0) (zdg dz_R_here_0 10 rfl) 0 rfl rfl ?_
      refine vf_get C (kd := 2) fl_R_166 sh_43 rfl (by decide) rfl rfl (zdg dz_R_here_0 11 rfl) ?_
      refine vf_aload_n C (f := 0) (zdg dz_R_here_0 12 rfl) 0 rfl rfl ?_
      refine vf_get C (kd := 0) fl_R_175 sh_43 rfl (by decide) rfl rfl (zdg dz_R_here_0 13 rfl) ?_
      refine vf_if _ (fun hq51 => ?_) (fun _ => ?_)
      · refine vf_bald C sh_51 (by decide) hq51 (mz := 80) rfl (zdg dz_R_here_0 14 rfl) ?_
        refine vf_goto C (off := 4) (tgt := 35) (zdg dz_R_here_0 15 rfl) (by decide) ?_
        exact hr _ _ _ _ (fun h => absurd h (by decide)) (zdg dz_R_here_0 17 rfl)
      refine vf_if _ (fun hq57 => ?_) (fun _ => ?_)
      · refine vf_bald C sh_57 (by decide) hq57 (mz := 40) rfl (zdg dz_R_here_0 14 rfl) ?_
        refine vf_goto C (off := 4) (tgt := 35) (zdg dz_R_here_0 15 rfl) (by decide) ?_
        exact hr _ _ _ _ (fun h => absurd h (by decide)) (zdg dz_R_here_0 17 rfl)
      exact vf_no
def f_R_fine (w : Wd) : Option (Int × Wd) :=
  if (w 43 21) = (-1) then
    some (1, w)
  else
    some (0, w)
theorem ct_R_fine (w : Wd) : Ct y_R_fine prog_14_method_18_code 1 (some .boolean) 1 4 [(2, 44)] w (f_R_fine w) := by
  refine ct_of (by decide +kernel) (Or.inr (Or.inr (Or.inl ⟨rfl, rfl⟩))) (Nat.le_of_ble_eq_true rfl) ?_
  intro X Qf ad C hn hR hr
  unfold f_R_fine
  show VF X Qf ad NF 0 0 w 0 [(0, (2, 44))] [] _
  refine vf_aload_n C (f := 0) (zdg dz_R_fine_0 0 rfl) 0 rfl rfl ?_
  refine vf_get C (kd := 0) fl_R_178 sh_43 rfl (by decide) rfl rfl (zdg dz_R_fine_0 1 rfl) ?_
  refine vf_iconst C (z := (-1)) (zdg dz_R_fine_0 2 rfl) (jz rfl) ?_
  refine vf_icmp_ne C (off := 7) (tgt := 12) (zdg dz_R_fine_0 3 rfl) (by decide) ?_ ?_
  · refine vf_iconst C (z := 0) (zdg dz_R_fine_0 6 rfl) (jz rfl) ?_
    exact hr _ _ _ _ (fun _ => Or.inl rfl) (zdg dz_R_fine_0 7 rfl)
  · refine vf_iconst C (z := 1) (zdg dz_R_fine_0 4 rfl) (jz rfl) ?_
    refine vf_goto C (off := 4) (tgt := 13) (zdg dz_R_fine_0 5 rfl) (by decide) ?_
    exact hr _ _ _ _ (fun _ => Or.inr rfl) (zdg dz_R_fine_0 7 rfl)
def f_R_fault (v1 : Int) (w : Wd) : Option (Int × Wd) :=
  jcall (f_R_fine w) fun r1 u2 =>
  if r1 = 0 then
    some (0, u2)
  else
    jlw (st u2 43 21 v1) fun u3 =>
    some (0, u3)
theorem ct_R_fault (v1 : Int) (w : Wd) : Ct y_R_fault prog_14_method_19_code 2 none 2 9 [(2, 44), (0, v1)] w (f_R_fault v1 w) := by
  refine ct_of (by decide +kernel) (Or.inr (Or.inr (Or.inr ⟨rfl, rfl⟩))) (Nat.le_of_ble_eq_true rfl) ?_
  intro X Qf ad C hn hR hr
  unfold f_R_fault
  show VF X Qf ad NF 0 0 w 0 [(0, (2, 44)), (1, (0, v1))] [] _
  refine vf_aload_n C (f := 0) (zdg dz_R_fault_0 0 rfl) 0 rfl rfl ?_
  refine vf_callVz C cy_R_fine ml_R_181 rfl (ct_R_fine _) (S := []) sh_43 (by decide) rfl (jrm_of hR rfl) rfl rfl (Nat.le_of_ble_eq_true rfl) (zdg dz_R_fault_0 1 rfl) (fun r1 u2 => ?_)
  refine vf_if_eq C (off := 8) (tgt := 12) (zdg dz_R_fault_0 2 rfl) (by decide) ?_ ?_
  · exact hr _ _ _ _ (fun h => absurd h (by decide)) (zdg dz_R_fault_0 6 rfl)
  · refine vf_aload_n C (f := 0) (zdg dz_R_fault_0 3 rfl) 0 rfl rfl ?_
    refine vf_iload_n C (f := 1) (zdg dz_R_fault_0 4 rfl) 1 rfl rfl ?_
    refine vf_put C (kd := 0) fl_R_178 fk_11_21 sh_43 rfl (by decide) rfl rfl (by decide) (zdg dz_R_fault_0 5 rfl) ?_
    generalize st u2 43 21 v1 = u3
    refine vf_uw ?_
    exact hr _ _ _ _ (fun h => absurd h (by decide)) (zdg dz_R_fault_0 6 rfl)
def f_R_passes (v1 : Int) (w : Wd) : Option (Int × Wd) :=
  jcall (f_R_fine w) fun r1 u2 =>
  if r1 = 0 then
    some (0, u2)
  else
    jcall (f_R_here u2) fun r3 u4 =>
    if r3 = v1 then
      jlw (st u4 43 20 (w32 ((u4 43 20) + 1))) fun u5 =>
      some (1, u5)
    else
      some (0, u4)
theorem ct_R_passes (v1 : Int) (w : Wd) : Ct y_R_passes prog_14_method_20_code 2 (some .boolean) 2 4 [(2, 44), (0, v1)] w (f_R_passes v1 w) := by
  refine ct_of (by decide +kernel) (Or.inr (Or.inr (Or.inl ⟨rfl, rfl⟩))) (Nat.le_of_ble_eq_true rfl) ?_
  intro X Qf ad C hn hR hr
  unfold f_R_passes
  show VF X Qf ad NF 0 0 w 0 [(0, (2, 44)), (1, (0, v1))] [] _
  refine vf_aload_n C (f := 0) (zdg dz_R_passes_0 0 rfl) 0 rfl rfl ?_
  refine vf_callVz C cy_R_fine ml_R_181 rfl (ct_R_fine _) (S := []) sh_43 (by decide) rfl (jrm_of hR rfl) rfl rfl (Nat.le_of_ble_eq_true rfl) (zdg dz_R_passes_0 1 rfl) (fun r1 u2 => ?_)
  refine vf_if_eq C (off := 11) (tgt := 15) (zdg dz_R_passes_0 2 rfl) (by decide) ?_ ?_
  · refine vf_iconst C (z := 0) (zdg dz_R_passes_0 7 rfl) (jz rfl) ?_
    exact hr _ _ _ _ (fun _ => Or.inl rfl) (zdg dz_R_passes_0 8 rfl)
  · refine vf_aload_n C (f := 0) (zdg dz_R_passes_0 3 rfl) 0 rfl rfl ?_
    refine vf_callVi C cy_R_here ml_R_185 rfl (ct_R_here _) (S := []) sh_43 (by decide) rfl (jrm_of hR rfl) rfl rfl (Nat.le_of_ble_eq_true rfl) (zdg dz_R_passes_0 4 rfl) (fun r3 u4 => ?_)
    refine vf_iload_n C (f := 1) (zdg dz_R_passes_0 5 rfl) 1 rfl rfl ?_
    refine vf_icmp_eq C (off := 5) (tgt := 17) (zdg dz_R_passes_0 6 rfl) (by decide) ?_ ?_
    · refine vf_aload_n C (f := 0) (zdg dz_R_passes_0 9 rfl) 0 rfl rfl ?_
      refine vf_dup C (zdg dz_R_passes_0 10 rfl) (Nat.succ_ne_self 1) ?_
      refine vf_get C (kd := 0) fl_R_175 sh_43 rfl (by decide) rfl rfl (zdg dz_R_passes_0 11 rfl) ?_
      refine vf_iconst C (z := 1) (zdg dz_R_passes_0 12 rfl) (jz rfl) ?_
      refine vf_iadd C (zdg dz_R_passes_0 13 rfl) ?_
      refine vf_put C (kd := 0) fl_R_175 fk_11_20 sh_43 rfl (by decide) rfl rfl (by decide) (zdg dz_R_passes_0 14 rfl) ?_
      generalize st u4 43 20 (w32 ((u4 43 20) + 1)) = u5
      refine vf_uw ?_
      refine vf_iconst C (z := 1) (zdg dz_R_passes_0 15 rfl) (jz rfl) ?_
      exact hr _ _ _ _ (fun _ => Or.inr rfl) (zdg dz_R_passes_0 16 rfl)
    · refine vf_iconst C (z := 0) (zdg dz_R_passes_0 7 rfl) (jz rfl) ?_
      exact hr _ _ _ _ (fun _ => Or.inl rfl) (zdg dz_R_passes_0 8 rfl)
def f_R_begin1_43_51 (v2 v3 : Int) (w : Wd) : Option (Int × Wd) :=
  jlw (st w 43 17 52) fun u1 =>
  jlw (st u1 43 18 v2) fun u2 =>
  jlw (st u2 43 19 v3) fun u3 =>
  jlw (st u3 43 20 0) fun u4 =>
  jlw (st u4 43 21 (-1)) fun u5 =>
  some (0, u5)
theorem ct_R_begin1_43_51 (v2 v3 : Int) (w : Wd) : Ct y_R_begin1 prog_14_method_16_code 4 none 1 9 [(2, 44), (2, 52), (0, v2), (0, v3)] w (f_R_begin1_43_51 v2 v3 w) := by
  refine ct_of (by decide +kernel) (Or.inr (Or.inr (Or.inr ⟨rfl, rfl⟩))) (Nat.le_of_ble_eq_true rfl) ?_
  intro X Qf ad C hn hR hr
  unfold f_R_begin1_43_51
  show VF X Qf ad NF 0 0 w 0 [(0, (2, 44)), (1, (2, 52)), (2, (0, v2)), (3, (0, v3))] [] _
  refine vf_aload_n C (f := 0) (zdg dz_R_begin1_0 0 rfl) 0 rfl rfl ?_
  refine vf_aload_n C (f := 1) (zdg dz_R_begin1_0 1 rfl) 1 rfl rfl ?_
  refine vf_put C (kd := 2) fl_R_166 fk_11_17 sh_43 rfl (by decide) rfl rfl (by decide) (zdg dz_R_begin1_0 2 rfl) ?_
  generalize st w 43 17 52 = u1
  refine vf_uw ?_
  refine vf_aload_n C (f := 0) (zdg dz_R_begin1_0 3 rfl) 0 rfl rfl ?_
  refine vf_iload_n C (f := 2) (zdg dz_R_begin1_0 4 rfl) 2 rfl rfl ?_
  refine vf_put C (kd := 0) fl_R_169 fk_11_18 sh_43 rfl (by decide) rfl rfl (by decide) (zdg dz_R_begin1_0 5 rfl) ?_
  generalize st u1 43 18 v2 = u2
  refine vf_uw ?_
  refine vf_aload_n C (f := 0) (zdg dz_R_begin1_0 6 rfl) 0 rfl rfl ?_
  refine vf_iload_n C (f := 3) (zdg dz_R_begin1_0 7 rfl) 3 rfl rfl ?_
  refine vf_put C (kd := 0) fl_R_172 fk_11_19 sh_43 rfl (by decide) rfl rfl (by decide) (zdg dz_R_begin1_0 8 rfl) ?_
  generalize st u2 43 19 v3 = u3
  refine vf_uw ?_
  refine vf_aload_n C (f := 0) (zdg dz_R_begin1_0 9 rfl) 0 rfl rfl ?_
  refine vf_iconst C (z := 0) (zdg dz_R_begin1_0 10 rfl) (jz rfl) ?_
  refine vf_put C (kd := 0) fl_R_175 fk_11_20 sh_43 rfl (by decide) rfl rfl (by decide) (zdg dz_R_begin1_0 11 rfl) ?_
  generalize st u3 43 20 0 = u4
  refine vf_uw ?_
  refine vf_aload_n C (f := 0) (zdg dz_R_begin1_0 12 rfl) 0 rfl rfl ?_
  refine vf_iconst C (z := (-1)) (zdg dz_R_begin1_0 13 rfl) (jz rfl) ?_
  refine vf_put C (kd := 0) fl_R_178 fk_11_21 sh_43 rfl (by decide) rfl rfl (by decide) (zdg dz_R_begin1_0 14 rfl) ?_
  generalize st u4 43 21 (-1) = u5
  refine vf_uw ?_
  exact hr _ _ _ _ (fun h => absurd h (by decide)) (zdg dz_R_begin1_0 15 rfl)
def f_R_told (w : Wd) : Option (Int × Wd) :=
  jcall (f_R_guests w) fun r1 u2 =>
  jgd ((0 : Int) ≤ (w 43 8) ∧ (w 43 8) < 61) <|
  jlw (st u2 50 (w 43 8).toNat r1) fun u3 =>
  jlw (st u3 43 32 0) fun u4 =>
  jlw (st u4 43 56 (w32 ((u4 43 56) + 1))) fun u5 =>
  some (0, u5)
theorem ct_R_told (w : Wd) : Ct y_R_told prog_14_method_24_code 1 none 4 9 [(2, 44)] w (f_R_told w) := by
  refine ct_of (by decide +kernel) (Or.inr (Or.inr (Or.inr ⟨rfl, rfl⟩))) (Nat.le_of_ble_eq_true rfl) ?_
  intro X Qf ad C hn hR hr
  unfold f_R_told
  show VF X Qf ad NF 0 0 w 0 [(0, (2, 44))] [] _
  refine vf_aload_n C (f := 0) (zdg dz_R_told_0 0 rfl) 0 rfl rfl ?_
  refine vf_getp C fl_R_29 sh_43 rfl (by decide) rfl (x := 51) rfl (zdg dz_R_told_0 1 rfl) ?_
  refine vf_aload_n C (f := 0) (zdg dz_R_told_0 2 rfl) 0 rfl rfl ?_
  refine vf_get C (kd := 0) fl_R_214 sh_43 rfl (by decide) rfl rfl (zdg dz_R_told_0 3 rfl) ?_
  refine vf_aload_n C (f := 0) (zdg dz_R_told_0 4 rfl) 0 rfl rfl ?_
  refine vf_callVi C cy_R_guests ml_R_217 rfl (ct_R_guests _) (S := [(0, w 43 8), (2, 51)]) sh_43 (by decide) rfl (jrm_of hR rfl) rfl rfl (Nat.le_of_ble_eq_true rfl) (zdg dz_R_told_0 5 rfl) (fun r1 u2 => ?_)
  refine vf_iast C sh_50 (by decide) rfl (mz := 61) rfl (zdg dz_R_told_0 6 rfl) ?_
  generalize st u2 50 (w 43 8).toNat r1 = u3
  refine vf_uw ?_
  refine vf_aload_n C (f := 0) (zdg dz_R_told_0 7 rfl) 0 rfl rfl ?_
  refine vf_iconst C (z := 0) (zdg dz_R_told_0 8 rfl) (jz rfl) ?_
  refine vf_put C (kd := 0) fl_R_220 fk_11_32 sh_43 rfl (by decide) rfl rfl (by decide) (zdg dz_R_told_0 9 rfl) ?_
  generalize st u3 43 32 0 = u4
  refine vf_uw ?_
  refine vf_aload_n C (f := 0) (zdg dz_R_told_0 10 rfl) 0 rfl rfl ?_
  refine vf_dup C (zdg dz_R_told_0 11 rfl) (Nat.succ_ne_self 1) ?_
  refine vf_get C (kd := 0) fl_R_223 sh_43 rfl (by decide) rfl rfl (zdg dz_R_told_0 12 rfl) ?_
  refine vf_iconst C (z := 1) (zdg dz_R_told_0 13 rfl) (jz rfl) ?_
  refine vf_iadd C (zdg dz_R_told_0 14 rfl) ?_
  refine vf_put C (kd := 0) fl_R_223 fk_11_56 sh_43 rfl (by decide) rfl rfl (by decide) (zdg dz_R_told_0 15 rfl) ?_
  generalize st u4 43 56 (w32 ((u4 43 56) + 1)) = u5
  refine vf_uw ?_
  exact hr _ _ _ _ (fun h => absurd h (by decide)) (zdg dz_R_told_0 16 rfl)
def f_R_add_93 (s1 s2 : Int) (w : Wd) : Option (Int × Wd) :=
  jgd ((0 : Int) ≤ s1 ∧ s1 < 10) <|
  jlw (st w 49 s1.toNat s2) fun u6 =>
  some (0, u6)
theorem t_R_add_93 {X : jX} {Qf : Int × Wd → State → Prop} {ad : Nat → Nat} (C : Cx X prog_14_method_23_code "EachBringsAnotherModel") (hn : xn X = 7) (hR : xR X = rmD 2) (hr : Rt X Qf ad prog_14_method_23_code 9) (s1 s2 : Int) (w : Wd) : VF X Qf ad NF 0 0 w 93 [] [(0, s2), (0, s1), (2, 50)] (f_R_add_93 s1 s2 w) := by
  unfold f_R_add_93
  refine vf_iast C sh_49 (by decide) rfl (mz := 10) rfl (zdg dz_R_add_2 8 rfl) ?_
  generalize st w 49 s1.toNat s2 = u6
  refine vf_uw ?_
  exact hr _ _ _ _ (fun h => absurd h (by decide)) (zdg dz_R_add_2 9 rfl)
def f_R_add_45 (k17 : Int → Int → Int → Int → Int → Wd → Option (Int × Wd)) (v1 v3 v4 v5 v6 : Int) (w : Wd) : Option (Int × Wd) :=
  jlet (w32 (v6 + 1)) fun x9 =>
  k17 v1 v3 v4 v5 x9 w
theorem t_R_add_45 {X : jX} {Qf : Int × Wd → State → Prop} {ad : Nat → Nat} (C : Cx X prog_14_method_23_code "EachBringsAnotherModel") (hn : xn X = 7) (hR : xR X = rmD 2) (hr : Rt X Qf ad prog_14_method_23_code 9) {k17 : Int → Int → Int → Int → Int → Wd → Option (Int × Wd)} (hk17 : ∀ (v1 v3 v4 v5 v6 : Int) (w : Wd), VF X Qf ad NF 0 0 w 17 [(0, (2, 44)), (1, (0, v1)), (3, (0, v3)), (4, (0, v4)), (5, (0, v5)), (6, (0, v6))] [] (k17 v1 v3 v4 v5 v6 w)) (v1 v3 v4 v5 v6 : Int) (w : Wd) : VF X Qf ad NF 0 0 w 45 [(0, (2, 44)), (1, (0, v1)), (3, (0, v3)), (4, (0, v4)), (5, (0, v5)), (6, (0, v6))] [] (f_R_add_45 k17 v1 v3 v4 v5 v6 w) := by
  unfold f_R_add_45
  refine vf_iinc C (z := 1) (L' := [(0, (2, 44)), (1, (0, v1)), (3, (0, v3)), (4, (0, v4)), (5, (0, v5))]) (zdg dz_R_add_1 5 rfl) 5 rfl [0, 1, 2, 3, 4] (jrI rfl rfl) hn (by decide) ?_
  generalize w32 (v6 + 1) = x9
  refine vf_ul ?_
  refine vf_goto C (off := (-31)) (tgt := 17) (zdg dz_R_add_1 6 rfl) (by decide) ?_
  exact vf_perm [1, 2, 3, 4, 5, 0] rfl (hk17 _ _ _ _ _ _)
def f_R_add_17 : Nat → Int → Int → Int → Int → Int → Wd → Option (Int × Wd)
  | 0, _, _, _, _, _, _ => none
  | n + 1, v1, v3, v4, v5, v6, w =>
    if v1 ≤ v6 then
      jgd ((0 : Int) ≤ v1 ∧ v1 < 10) <|
      jlw (st w 47 v1.toNat v4) fun u3 =>
      jgd ((0 : Int) ≤ v1 ∧ v1 < 10) <|
      jlw (st u3 46 v1.toNat (nz v5)) fun u4 =>
      jgd ((0 : Int) ≤ v1 ∧ v1 < 10) <|
      jlw (st u4 48 v1.toNat (-1)) fun u5 =>
      if v4 = 1 then
        f_R_add_93 v1 (u5 43 8) u5
      else
        f_R_add_93 v1 (-1) u5
    else
      jcall (f_R_has v3 v6 w) fun r7 u8 =>
      if r7 = 0 then
        f_R_add_45 (f_R_add_17 n) v1 v3 v4 v5 v6 u8
      else
        jgd ((0 : Int) ≤ v6 ∧ v6 < 10) <|
        jgd ((0 : Int) ≤ v6 ∧ v6 < 10) <|
        jlw (st u8 45 v6.toNat ((ior (u8 45 v6.toNat) (ishl 1 v1)))) fun u10 =>
        f_R_add_45 (f_R_add_17 n) v1 v3 v4 v5 v6 u10
theorem t_R_add_17 {X : jX} {Qf : Int × Wd → State → Prop} {ad : Nat → Nat} (C : Cx X prog_14_method_23_code "EachBringsAnotherModel") (hn : xn X = 7) (hR : xR X = rmD 2) (hr : Rt X Qf ad prog_14_method_23_code 9) : ∀ (n : Nat) (v1 v3 v4 v5 v6 : Int) (w : Wd), VF X Qf ad NF 0 0 w 17 [(0, (2, 44)), (1, (0, v1)), (3, (0, v3)), (4, (0, v4)), (5, (0, v5)), (6, (0, v6))] [] (f_R_add_17 n v1 v3 v4 v5 v6 w) := by
  intro n
  induction n with
  | zero => intros; exact vf_no
  | succ n ih =>
    intro v1 v3 v4 v5 v6 w
    rw [f_R_add_17]
    refine vf_iload C (zdg dz_R_add_0 12 rfl) 5 rfl ?_
    refine vf_iload_n C (f := 1) (zdg dz_R_add_0 13 rfl) 1 rfl rfl ?_
    refine vf_icmp_ge C (off := 31) (tgt := 51) (zdg dz_R_add_0 14 rfl) (by decide) ?_ ?_
    · refine vf_aload_n C (f := 0) (zdg dz_R_add_1 7 rfl) 0 rfl rfl ?_
      refine vf_getp C fl_R_20 sh_43 rfl (by decide) rfl (x := 48) rfl (zdg dz_R_add_1 8 rfl) ?_
      refine vf_iload_n C (f := 1) (zdg dz_R_add_1 9 rfl) 1 rfl rfl ?_
      refine vf_iload C (zdg dz_R_add_1 10 rfl) 3 rfl ?_
      refine vf_iast C sh_47 (by decide) rfl (mz := 10) rfl (zdg dz_R_add_1 11 rfl) ?_
      generalize st w 47 v1.toNat v4 = u3
      refine vf_uw ?_
      refine vf_aload_n C (f := 0) (zdg dz_R_add_1 12 rfl) 0 rfl rfl ?_
      refine vf_getp C fl_R_16 sh_43 rfl (by decide) rfl (x := 47) rfl (zdg dz_R_add_1 13 rfl) ?_
      refine vf_iload_n C (f := 1) (zdg dz_R_add_1 14 rfl) 1 rfl rfl ?_
      refine vf_iload C (zdg dz_R_add_1 15 rfl) 4 rfl ?_
      refine vf_zast C sh_46 (by decide) rfl (mz := 10) rfl (zdg dz_R_add_1 16 rfl) ?_
      generalize st u3 46 v1.toNat (nz v5) = u4
      refine vf_uw ?_
      refine vf_aload_n C (f := 0) (zdg dz_R_add_1 17 rfl) 0 rfl rfl ?_
      refine vf_getp C fl_R_23 sh_43 rfl (by decide) rfl (x := 49) rfl (zdg dz_R_add_1 18 rfl) ?_
      refine vf_iload_n C (f := 1) (zdg dz_R_add_1 19 rfl) 1 rfl rfl ?_
      refine vf_iconst C (z := (-1)) (zdg dz_R_add_1 20 rfl) (jz rfl) ?_
      refine vf_iast C sh_48 (by decide) rfl (mz := 10) rfl (zdg dz_R_add_1 21 rfl) ?_
      generalize st u4 48 v1.toNat (-1) = u5
      refine vf_uw ?_
      refine vf_aload_n C (f := 0) (zdg dz_R_add_1 22 rfl) 0 rfl rfl ?_
      refine vf_getp C fl_R_26 sh_43 rfl (by decide) rfl (x := 50) rfl (zdg dz_R_add_1 23 rfl) ?_
      refine vf_iload_n C (f := 1) (zdg dz_R_add_2 0 rfl) 1 rfl rfl ?_
      refine vf_iload C (zdg dz_R_add_2 1 rfl) 3 rfl ?_
      refine vf_iconst C (z := 1) (zdg dz_R_add_2 2 rfl) (jz rfl) ?_
      refine vf_icmp_ne C (off := 10) (tgt := 92) (zdg dz_R_add_2 3 rfl) (by decide) ?_ ?_
      · refine vf_iconst C (z := (-1)) (zdg dz_R_add_2 7 rfl) (jz rfl) ?_
        exact vf_perm [] rfl (t_R_add_93 C hn hR hr _ _ _)
      · refine vf_aload_n C (f := 0) (zdg dz_R_add_2 4 rfl) 0 rfl rfl ?_
        refine vf_get C (kd := 0) fl_R_214 sh_43 rfl (by decide) rfl rfl (zdg dz_R_add_2 5 rfl) ?_
        refine vf_goto C (off := 4) (tgt := 93) (zdg dz_R_add_2 6 rfl) (by decide) ?_
        exact vf_perm [] rfl (t_R_add_93 C hn hR hr _ _ _)
    · refine vf_iload_n C (f := 3) (zdg dz_R_add_0 15 rfl) 2 rfl rfl ?_
      refine vf_iload C (zdg dz_R_add_0 16 rfl) 5 rfl ?_
      refine vf_callSz C cy_R_has ml_R_210 (ct_R_has _ _ _) (S := []) (jrm_of hR rfl) rfl rfl (Nat.le_of_ble_eq_true rfl) (zdg dz_R_add_0 17 rfl) (fun r7 u8 => ?_)
      refine vf_if_eq C (off := 16) (tgt := 45) (zdg dz_R_add_0 18 rfl) (by decide) ?_ ?_
      · exact t_R_add_45 C hn hR hr ih _ _ _ _ _ _
      · refine vf_aload_n C (f := 0) (zdg dz_R_add_0 19 rfl) 0 rfl rfl ?_
        refine vf_getp C fl_R_13 sh_43 rfl (by decide) rfl (x := 46) rfl (zdg dz_R_add_0 20 rfl) ?_
        refine vf_iload C (zdg dz_R_add_0 21 rfl) 5 rfl ?_
        refine vf_dup2 C (zdg dz_R_add_0 22 rfl) Nat.zero_ne_one (Nat.succ_ne_self 1) ?_
        refine vf_iald C sh_45 (by decide) rfl (mz := 10) rfl (zdg dz_R_add_0 23 rfl) ?_
        refine vf_iconst C (z := 1) (zdg dz_R_add_1 0 rfl) (jz rfl) ?_
        refine vf_iload_n C (f := 1) (zdg dz_R_add_1 1 rfl) 1 rfl rfl ?_
        refine vf_ishl C (zdg dz_R_add_1 2 rfl) ?_
        refine vf_ior C (zdg dz_R_add_1 3 rfl) ?_
        refine vf_iast C sh_45 (by decide) rfl (mz := 10) rfl (zdg dz_R_add_1 4 rfl) ?_
        generalize st u8 45 v6.toNat ((ior (u8 45 v6.toNat) (ishl 1 v1))) = u10
        refine vf_uw ?_
        exact t_R_add_45 C hn hR hr ih _ _ _ _ _ _
def f_R_add (v1 v2 v3 v4 v5 : Int) (w : Wd) : Option (Int × Wd) :=
  jgd ((0 : Int) ≤ v1 ∧ v1 < 10) <|
  jlw (st w 44 v1.toNat v2) fun u1 =>
  jgd ((0 : Int) ≤ v1 ∧ v1 < 10) <|
  jlw (st u1 45 v1.toNat v3) fun u2 =>
  f_R_add_17 FU v1 v3 v4 v5 0 u2
theorem ct_R_add (v1 v2 v3 v4 v5 : Int) (w : Wd) : Ct y_R_add prog_14_method_23_code 7 none 2 9 [(2, 44), (0, v1), (0, v2), (0, v3), (0, v4), (0, v5)] w (f_R_add v1 v2 v3 v4 v5 w) := by
  refine ct_of (by decide +kernel) (Or.inr (Or.inr (Or.inr ⟨rfl, rfl⟩))) (Nat.le_of_ble_eq_true rfl) ?_
  intro X Qf ad C hn hR hr
  unfold f_R_add
  show VF X Qf ad NF 0 0 w 0 [(0, (2, 44)), (1, (0, v1)), (2, (0, v2)), (3, (0, v3)), (4, (0, v4)), (5, (0, v5))] [] _
  refine vf_aload_n C (f := 0) (zdg dz_R_add_0 0 rfl) 0 rfl rfl ?_
  refine vf_getp C fl_R_9 sh_43 rfl (by decide) rfl (x := 45) rfl (zdg dz_R_add_0 1 rfl) ?_
  refine vf_iload_n C (f := 1) (zdg dz_R_add_0 2 rfl) 1 rfl rfl ?_
  refine vf_iload_n C (f := 2) (zdg dz_R_add_0 3 rfl) 2 rfl rfl ?_
  refine vf_iast C sh_44 (by decide) rfl (mz := 10) rfl (zdg dz_R_add_0 4 rfl) ?_
  generalize st w 44 v1.toNat v2 = u1
  refine vf_uw ?_
  refine vf_aload_n C (f := 0) (zdg dz_R_add_0 5 rfl) 0 rfl rfl ?_
  refine vf_getp C fl_R_13 sh_43 rfl (by decide) rfl (x := 46) rfl (zdg dz_R_add_0 6 rfl) ?_
  refine vf_iload_n C (f := 1) (zdg dz_R_add_0 7 rfl) 1 rfl rfl ?_
  refine vf_iload_n C (f := 3) (zdg dz_R_add_0 8 rfl) 3 rfl rfl ?_
  refine vf_iast C sh_45 (by decide) rfl (mz := 10) rfl (zdg dz_R_add_0 9 rfl) ?_
  generalize st u1 45 v1.toNat v3 = u2
  refine vf_uw ?_
  refine vf_iconst C (z := 0) (zdg dz_R_add_0 10 rfl) (jz rfl) ?_
  refine vf_istore C (i := 6) (L' := [(0, (2, 44)), (1, (0, v1)), (3, (0, v3)), (4, (0, v4)), (5, (0, v5))]) (zdg dz_R_add_0 11 rfl) [0, 1, 3, 4, 5] (jrI rfl rfl) hn (by decide) ?_
  exact vf_perm [1, 2, 3, 4, 5, 0] rfl (t_R_add_17 C hn hR hr FU _ _ _ _ _ _)
def f_R_readOne_142 (v1 s1 s2 : Int) (w : Wd) : Option (Int × Wd) :=
  jgd ((0 : Int) ≤ s1 ∧ s1 < 10) <|
  jlw (st w 55 s1.toNat s2) fun u16 =>
  jcall (f_R_passes 63 u16) fun r17 u18 =>
  jgd ((0 : Int) ≤ v1 ∧ v1 < 10) <|
  jlw (st u18 56 v1.toNat (nz r17)) fun u19 =>
  some (0, u19)
theorem t_R_readOne_142 {X : jX} {Qf : Int × Wd → State → Prop} {ad : Nat → Nat} (C : Cx X prog_14_method_22_code "EachBringsAnotherModel") (hn : xn X = 4) (hR : xR X = rmD 3) (hr : Rt X Qf ad prog_14_method_22_code 9) (v1 s1 s2 : Int) (w : Wd) : VF X Qf ad NF 0 0 w 142 [(0, (2, 44)), (1, (0, v1))] [(0, s2), (0, s1), (2, 56)] (f_R_readOne_142 v1 s1 s2 w) := by
  unfold f_R_readOne_142
  refine vf_iast C sh_55 (by decide) rfl (mz := 10) rfl (zdg dz_R_readOne_3 11 rfl) ?_
  generalize st w 55 s1.toNat s2 = u16
  refine vf_uw ?_
  refine vf_aload_n C (f := 0) (zdg dz_R_readOne_3 12 rfl) 0 rfl rfl ?_
  refine vf_getp C fl_R_55 sh_43 rfl (by decide) rfl (x := 57) rfl (zdg dz_R_readOne_3 13 rfl) ?_
  refine vf_iload_n C (f := 1) (zdg dz_R_readOne_3 14 rfl) 1 rfl rfl ?_
  refine vf_aload_n C (f := 0) (zdg dz_R_readOne_3 15 rfl) 0 rfl rfl ?_
  refine vf_bipush C (z := 63) (zdg dz_R_readOne_3 16 rfl) (by decide +kernel) (jz rfl) ?_
  refine vf_callVz C cy_R_passes ml_R_199 rfl (ct_R_passes _ _) (S := [(0, v1), (2, 57)]) sh_43 (by decide) rfl (jrm_of hR rfl) rfl rfl (Nat.le_of_ble_eq_true rfl) (zdg dz_R_readOne_3 17 rfl) (fun r17 u18 => ?_)
  refine vf_zast C sh_56 (by decide) rfl (mz := 10) rfl (zdg dz_R_readOne_3 18 rfl) ?_
  generalize st u18 56 v1.toNat (nz r17) = u19
  refine vf_uw ?_
  exact hr _ _ _ _ (fun h => absurd h (by decide)) (zdg dz_R_readOne_3 19 rfl)
def f_R_readOne_87 (w : Wd) : Option (Int × Wd) :=
  jcall (f_R_fault (w 43 20) w) fun r23 u24 =>
  some (0, u24)
theorem t_R_readOne_87 {X : jX} {Qf : Int × Wd → State → Prop} {ad : Nat → Nat} (C : Cx X prog_14_method_22_code "EachBringsAnotherModel") (hn : xn X = 4) (hR : xR X = rmD 3) (hr : Rt X Qf ad prog_14_method_22_code 9) (w : Wd) : VF X Qf ad NF 0 0 w 87 [(0, (2, 44))] [] (f_R_readOne_87 w) := by
  unfold f_R_readOne_87
  refine vf_aload_n C (f := 0) (zdg dz_R_readOne_2 1 rfl) 0 rfl rfl ?_
  refine vf_aload_n C (f := 0) (zdg dz_R_readOne_2 2 rfl) 0 rfl rfl ?_
  refine vf_get C (kd := 0) fl_R_175 sh_43 rfl (by decide) rfl rfl (zdg dz_R_readOne_2 3 rfl) ?_
  refine vf_callVv C cy_R_fault ml_R_192 rfl (ct_R_fault _ _) (S := []) sh_43 (by decide) rfl (jrm_of hR rfl) rfl rfl (Nat.le_of_ble_eq_true rfl) (zdg dz_R_readOne_2 4 rfl) (fun r23 u24 => ?_)
  exact hr _ _ _ _ (fun h => absurd h (by decide)) (zdg dz_R_readOne_2 5 rfl)
def f_R_readOne_55 : Nat → Int → Int → Wd → Option (Int × Wd)
  | 0, _, _, _ => none
  | n + 1, v1, v2, w =>
    jcall (f_R_here w) fun r10 u11 =>
    jcall (f_R_in r10 97 106 u11) fun r12 u13 =>
    if r12 = 0 then
      jcall (f_R_passes 33 u13) fun r14 u15 =>
      if r14 = 0 then
        f_R_readOne_142 v1 v1 0 u15
      else
        f_R_readOne_142 v1 v1 1 u15
    else
      jcall (f_R_here u13) fun r20 u21 =>
      jlet (w32 (r20 - 97)) fun x22 =>
      if x22 ≤ v2 then
        f_R_readOne_87 u21
      else
        if x22 < v1 then
          jgd ((0 : Int) ≤ v1 ∧ v1 < 10) <|
          jgd ((0 : Int) ≤ v1 ∧ v1 < 10) <|
          jlw (st u21 54 v1.toNat ((ior (u21 54 v1.toNat) (ishl 1 x22)))) fun u25 =>
          jlw (st u25 43 20 (w32 ((u25 43 20) + 1))) fun u26 =>
          f_R_readOne_55 n v1 x22 u26
        else
          f_R_readOne_87 u21
theorem t_R_readOne_55 {X : jX} {Qf : Int × Wd → State → Prop} {ad : Nat → Nat} (C : Cx X prog_14_method_22_code "EachBringsAnotherModel") (hn : xn X = 4) (hR : xR X = rmD 3) (hr : Rt X Qf ad prog_14_method_22_code 9) : ∀ (n : Nat) (v1 v2 : Int) (w : Wd), VF X Qf ad NF 0 0 w 55 [(0, (2, 44)), (1, (0, v1)), (2, (0, v2))] [] (f_R_readOne_55 n v1 v2 w) := by
  intro n
  induction n with
  | zero => intros; exact vf_no
  | succ n ih =>
    intro v1 v2 w
    rw [f_R_readOne_55]
    refine vf_aload_n C (f := 0) (zdg dz_R_readOne_1 8 rfl) 0 rfl rfl ?_
    refine vf_callVi C cy_R_here ml_R_185 rfl (ct_R_here _) (S := []) sh_43 (by decide) rfl (jrm_of hR rfl) rfl rfl (Nat.le_of_ble_eq_true rfl) (zdg dz_R_readOne_1 9 rfl) (fun r10 u11 => ?_)
    refine vf_bipush C (z := 97) (zdg dz_R_readOne_1 10 rfl) (by decide +kernel) (jz rfl) ?_
    refine vf_bipush C (z := 106) (zdg dz_R_readOne_1 11 rfl) (by decide +kernel) (jz rfl) ?_
    refine vf_callSz C cy_R_in ml_R_147 (ct_R_in _ _ _ _) (S := []) (jrm_of hR rfl) rfl rfl (Nat.le_of_ble_eq_true rfl) (zdg dz_R_readOne_1 12 rfl) (fun r12 u13 => ?_)
    refine vf_if_eq C (off := 57) (tgt := 123) (zdg dz_R_readOne_1 13 rfl) (by decide) ?_ ?_
    · refine vf_aload_n C (f := 0) (zdg dz_R_readOne_3 1 rfl) 0 rfl rfl ?_
      refine vf_getp C fl_R_52 sh_43 rfl (by decide) rfl (x := 56) rfl (zdg dz_R_readOne_3 2 rfl) ?_
      refine vf_iload_n C (f := 1) (zdg dz_R_readOne_3 3 rfl) 1 rfl rfl ?_
      refine vf_aload_n C (f := 0) (zdg dz_R_readOne_3 4 rfl) 0 rfl rfl ?_
      refine vf_bipush C (z := 33) (zdg dz_R_readOne_3 5 rfl) (by decide +kernel) (jz rfl) ?_
      refine vf_callVz C cy_R_passes ml_R_199 rfl (ct_R_passes _ _) (S := [(0, v1), (2, 56)]) sh_43 (by decide) rfl (jrm_of hR rfl) rfl rfl (Nat.le_of_ble_eq_true rfl) (zdg dz_R_readOne_3 6 rfl) (fun r14 u15 => ?_)
      refine vf_if_eq C (off := 7) (tgt := 141) (zdg dz_R_readOne_3 7 rfl) (by decide) ?_ ?_
      · refine vf_iconst C (z := 0) (zdg dz_R_readOne_3 10 rfl) (jz rfl) ?_
        exact vf_perm [0, 1] rfl (t_R_readOne_142 C hn hR hr _ _ _ _)
      · refine vf_iconst C (z := 1) (zdg dz_R_readOne_3 8 rfl) (jz rfl) ?_
        refine vf_goto C (off := 4) (tgt := 142) (zdg dz_R_readOne_3 9 rfl) (by decide) ?_
        exact vf_perm [0, 1] rfl (t_R_readOne_142 C hn hR hr _ _ _ _)
    · refine vf_aload_n C (f := 0) (zdg dz_R_readOne_1 14 rfl) 0 rfl rfl ?_
      refine vf_callVi C cy_R_here ml_R_185 rfl (ct_R_here _) (S := []) sh_43 (by decide) rfl (jrm_of hR rfl) rfl rfl (Nat.le_of_ble_eq_true rfl) (zdg dz_R_readOne_1 15 rfl) (fun r20 u21 => ?_)
      refine vf_bipush C (z := 97) (zdg dz_R_readOne_1 16 rfl) (by decide +kernel) (jz rfl) ?_
      refine vf_isub C (zdg dz_R_readOne_1 17 rfl) ?_
      generalize w32 (r20 - 97) = x22
      refine vf_ul ?_
      refine vf_istore_n C (f := 3) (L' := [(0, (2, 44)), (1, (0, v1)), (2, (0, v2))]) (zdg dz_R_readOne_1 18 rfl) [0, 1, 2] (jrI rfl rfl) hn (by decide) rfl ?_
      refine vf_iload_n C (f := 3) (zdg dz_R_readOne_1 19 rfl) 0 rfl rfl ?_
      refine vf_iload_n C (f := 2) (zdg dz_R_readOne_1 20 rfl) 3 rfl rfl ?_
      refine vf_icmp_le C (off := 8) (tgt := 87) (zdg dz_R_readOne_1 21 rfl) (by decide) ?_ ?_
      · exact vf_perm [1] rfl (t_R_readOne_87 C hn hR hr _)
      · refine vf_iload_n C (f := 3) (zdg dz_R_readOne_1 22 rfl) 0 rfl rfl ?_
        refine vf_iload_n C (f := 1) (zdg dz_R_readOne_1 23 rfl) 2 rfl rfl ?_
        refine vf_icmp_lt C (off := 12) (tgt := 96) (zdg dz_R_readOne_2 0 rfl) (by decide) ?_ ?_
        · refine vf_aload_n C (f := 0) (zdg dz_R_readOne_2 6 rfl) 1 rfl rfl ?_
          refine vf_getp C fl_R_49 sh_43 rfl (by decide) rfl (x := 55) rfl (zdg dz_R_readOne_2 7 rfl) ?_
          refine vf_iload_n C (f := 1) (zdg dz_R_readOne_2 8 rfl) 2 rfl rfl ?_
          refine vf_dup2 C (zdg dz_R_readOne_2 9 rfl) Nat.zero_ne_one (Nat.succ_ne_self 1) ?_
          refine vf_iald C sh_54 (by decide) rfl (mz := 10) rfl (zdg dz_R_readOne_2 10 rfl) ?_
          refine vf_iconst C (z := 1) (zdg dz_R_readOne_2 11 rfl) (jz rfl) ?_
          refine vf_iload_n C (f := 3) (zdg dz_R_readOne_2 12 rfl) 0 rfl rfl ?_
          refine vf_ishl C (zdg dz_R_readOne_2 13 rfl) ?_
          refine vf_ior C (zdg dz_R_readOne_2 14 rfl) ?_
          refine vf_iast C sh_54 (by decide) rfl (mz := 10) rfl (zdg dz_R_readOne_2 15 rfl) ?_
          generalize st u21 54 v1.toNat ((ior (u21 54 v1.toNat) (ishl 1 x22))) = u25
          refine vf_uw ?_
          refine vf_iload_n C (f := 3) (zdg dz_R_readOne_2 16 rfl) 0 rfl rfl ?_
          refine vf_istore_n C (f := 2) (L' := [(0, (2, 44)), (1, (0, v1))]) (zdg dz_R_readOne_2 17 rfl) [1, 2] (jrI rfl rfl) hn (by decide) rfl ?_
          refine vf_aload_n C (f := 0) (zdg dz_R_readOne_2 18 rfl) 1 rfl rfl ?_
          refine vf_dup C (zdg dz_R_readOne_2 19 rfl) (Nat.succ_ne_self 1) ?_
          refine vf_get C (kd := 0) fl_R_175 sh_43 rfl (by decide) rfl rfl (zdg dz_R_readOne_2 20 rfl) ?_
          refine vf_iconst C (z := 1) (zdg dz_R_readOne_2 21 rfl) (jz rfl) ?_
          refine vf_iadd C (zdg dz_R_readOne_2 22 rfl) ?_
          refine vf_put C (kd := 0) fl_R_175 fk_11_20 sh_43 rfl (by decide) rfl rfl (by decide) (zdg dz_R_readOne_2 23 rfl) ?_
          generalize st u25 43 20 (w32 ((u25 43 20) + 1)) = u26
          refine vf_uw ?_
          refine vf_goto C (off := (-65)) (tgt := 55) (zdg dz_R_readOne_3 0 rfl) (by decide) ?_
          exact vf_perm [1, 2, 0] rfl (ih _ _ _)
        · exact vf_perm [1] rfl (t_R_readOne_87 C hn hR hr _)
def f_R_readOne (v1 : Int) (w : Wd) : Option (Int × Wd) :=
  jcall (f_R_here w) fun r1 u2 =>
  jcall (f_R_in r1 48 57 u2) fun r3 u4 =>
  if r3 = 0 then
    jcall (f_R_fault (u4 43 20) u4) fun r27 u28 =>
    some (0, u28)
  else
    jcall (f_R_here u4) fun r5 u6 =>
    jgd ((0 : Int) ≤ v1 ∧ v1 < 10) <|
    jlw (st u6 53 v1.toNat ((w32 (r5 - 48)))) fun u7 =>
    jlw (st u7 43 20 (w32 ((u7 43 20) + 1))) fun u8 =>
    jgd ((0 : Int) ≤ v1 ∧ v1 < 10) <|
    jlw (st u8 54 v1.toNat 0) fun u9 =>
    f_R_readOne_55 FU v1 (-1) u9
theorem ct_R_readOne (v1 : Int) (w : Wd) : Ct y_R_readOne prog_14_method_22_code 4 none 3 9 [(2, 44), (0, v1)] w (f_R_readOne v1 w) := by
  refine ct_of (by decide +kernel) (Or.inr (Or.inr (Or.inr ⟨rfl, rfl⟩))) (Nat.le_of_ble_eq_true rfl) ?_
  intro X Qf ad C hn hR hr
  unfold f_R_readOne
  show VF X Qf ad NF 0 0 w 0 [(0, (2, 44)), (1, (0, v1))] [] _
  refine vf_aload_n C (f := 0) (zdg dz_R_readOne_0 0 rfl) 0 rfl rfl ?_
  refine vf_callVi C cy_R_here ml_R_185 rfl (ct_R_here _) (S := []) sh_43 (by decide) rfl (jrm_of hR rfl) rfl rfl (Nat.le_of_ble_eq_true rfl) (zdg dz_R_readOne_0 1 rfl) (fun r1 u2 => ?_)
  refine vf_bipush C (z := 48) (zdg dz_R_readOne_0 2 rfl) (by decide +kernel) (jz rfl) ?_
  refine vf_bipush C (z := 57) (zdg dz_R_readOne_0 3 rfl) (by decide +kernel) (jz rfl) ?_
  refine vf_callSz C cy_R_in ml_R_147 (ct_R_in _ _ _ _) (S := []) (jrm_of hR rfl) rfl rfl (Nat.le_of_ble_eq_true rfl) (zdg dz_R_readOne_0 4 rfl) (fun r3 u4 => ?_)
  refine vf_if_ne C (off := 12) (tgt := 23) (zdg dz_R_readOne_0 5 rfl) (by decide) ?_ ?_
  · refine vf_aload_n C (f := 0) (zdg dz_R_readOne_0 11 rfl) 0 rfl rfl ?_
    refine vf_getp C fl_R_46 sh_43 rfl (by decide) rfl (x := 54) rfl (zdg dz_R_readOne_0 12 rfl) ?_
    refine vf_iload_n C (f := 1) (zdg dz_R_readOne_0 13 rfl) 1 rfl rfl ?_
    refine vf_aload_n C (f := 0) (zdg dz_R_readOne_0 14 rfl) 0 rfl rfl ?_
    refine vf_callVi C cy_R_here ml_R_185 rfl (ct_R_here _) (S := [(0, v1), (2, 54)]) sh_43 (by decide) rfl (jrm_of hR rfl) rfl rfl (Nat.le_of_ble_eq_true rfl) (zdg dz_R_readOne_0 15 rfl) (fun r5 u6 => ?_)
    refine vf_bipush C (z := 48) (zdg dz_R_readOne_0 16 rfl) (by decide +kernel) (jz rfl) ?_
    refine vf_isub C (zdg dz_R_readOne_0 17 rfl) ?_
    refine vf_iast C sh_53 (by decide) rfl (mz := 10) rfl (zdg dz_R_readOne_0 18 rfl) ?_
    generalize st u6 53 v1.toNat ((w32 (r5 - 48))) = u7
    refine vf_uw ?_
    refine vf_aload_n C (f := 0) (zdg dz_R_readOne_0 19 rfl) 0 rfl rfl ?_
    refine vf_dup C (zdg dz_R_readOne_0 20 rfl) (Nat.succ_ne_self 1) ?_
    refine vf_get C (kd := 0) fl_R_175 sh_43 rfl (by decide) rfl rfl (zdg dz_R_readOne_0 21 rfl) ?_
    refine vf_iconst C (z := 1) (zdg dz_R_readOne_0 22 rfl) (jz rfl) ?_
    refine vf_iadd C (zdg dz_R_readOne_0 23 rfl) ?_
    refine vf_put C (kd := 0) fl_R_175 fk_11_20 sh_43 rfl (by decide) rfl rfl (by decide) (zdg dz_R_readOne_1 0 rfl) ?_
    generalize st u7 43 20 (w32 ((u7 43 20) + 1)) = u8
    refine vf_uw ?_
    refine vf_aload_n C (f := 0) (zdg dz_R_readOne_1 1 rfl) 0 rfl rfl ?_
    refine vf_getp C fl_R_49 sh_43 rfl (by decide) rfl (x := 55) rfl (zdg dz_R_readOne_1 2 rfl) ?_
    refine vf_iload_n C (f := 1) (zdg dz_R_readOne_1 3 rfl) 1 rfl rfl ?_
    refine vf_iconst C (z := 0) (zdg dz_R_readOne_1 4 rfl) (jz rfl) ?_
    refine vf_iast C sh_54 (by decide) rfl (mz := 10) rfl (zdg dz_R_readOne_1 5 rfl) ?_
    generalize st u8 54 v1.toNat 0 = u9
    refine vf_uw ?_
    refine vf_iconst C (z := (-1)) (zdg dz_R_readOne_1 6 rfl) (jz rfl) ?_
    refine vf_istore_n C (f := 2) (L' := [(0, (2, 44)), (1, (0, v1))]) (zdg dz_R_readOne_1 7 rfl) [0, 1] (jrI rfl rfl) hn (by decide) rfl ?_
    exact vf_perm [1, 2, 0] rfl (t_R_readOne_55 C hn hR hr FU _ _ _)
  · refine vf_aload_n C (f := 0) (zdg dz_R_readOne_0 6 rfl) 0 rfl rfl ?_
    refine vf_aload_n C (f := 0) (zdg dz_R_readOne_0 7 rfl) 0 rfl rfl ?_
    refine vf_get C (kd := 0) fl_R_175 sh_43 rfl (by decide) rfl rfl (zdg dz_R_readOne_0 8 rfl) ?_
    refine vf_callVv C cy_R_fault ml_R_192 rfl (ct_R_fault _ _) (S := []) sh_43 (by decide) rfl (jrm_of hR rfl) rfl rfl (Nat.le_of_ble_eq_true rfl) (zdg dz_R_readOne_0 9 rfl) (fun r27 u28 => ?_)
    exact hr _ _ _ _ (fun h => absurd h (by decide)) (zdg dz_R_readOne_0 10 rfl)
def f_R_land_132 : Nat → Int → Int → Int → Wd → Option (Int × Wd)
  | 0, _, _, _, _ => none
  | n + 1, v1, v3, v4, w =>
    if v1 ≤ v4 then
      jlw (st w 43 0 v1) fun u10 =>
      jcall (f_R_told u10) fun r11 u12 =>
      some (v3, u12)
    else
      jgd ((0 : Int) ≤ v4 ∧ v4 < 10) <|
      jgd ((0 : Int) ≤ v4 ∧ v4 < 10) <|
      jgd ((0 : Int) ≤ v4 ∧ v4 < 10) <|
      jgd ((0 : Int) ≤ v4 ∧ v4 < 10) <|
      jcall (f_R_add v4 (w 53 v4.toNat) (w 54 v4.toNat) (w 55 v4.toNat) (w 56 v4.toNat) w) fun r13 u14 =>
      jlet (w32 (v4 + 1)) fun x15 =>
      f_R_land_132 n v1 v3 x15 u14
theorem t_R_land_132 {X : jX} {Qf : Int × Wd → State → Prop} {ad : Nat → Nat} (C : Cx X prog_14_method_21_code "EachBringsAnotherModel") (hn : xn X = 5) (hR : xR X = rmD 5) (hr : Rt X Qf ad prog_14_method_21_code 0) : ∀ (n : Nat) (v1 v3 v4 : Int) (w : Wd), VF X Qf ad NF 0 0 w 132 [(0, (2, 44)), (1, (0, v1)), (3, (0, v3)), (4, (0, v4))] [] (f_R_land_132 n v1 v3 v4 w) := by
  intro n
  induction n with
  | zero => intros; exact vf_no
  | succ n ih =>
    intro v1 v3 v4 w
    rw [f_R_land_132]
    refine vf_iload C (zdg dz_R_land_2 22 rfl) 3 rfl ?_
    refine vf_iload_n C (f := 1) (zdg dz_R_land_2 23 rfl) 1 rfl rfl ?_
    refine vf_icmp_ge C (off := 43) (tgt := 178) (zdg dz_R_land_3 0 rfl) (by decide) ?_ ?_
    · refine vf_aload_n C (f := 0) (zdg dz_R_land_3 22 rfl) 0 rfl rfl ?_
      refine vf_iload_n C (f := 1) (zdg dz_R_land_3 23 rfl) 1 rfl rfl ?_
      refine vf_put C (kd := 0) fl_R_144 fk_11_0 sh_43 rfl (by decide) rfl rfl (by decide) (zdg dz_R_land_4 0 rfl) ?_
      generalize st w 43 0 v1 = u10
      refine vf_uw ?_
      refine vf_aload_n C (f := 0) (zdg dz_R_land_4 1 rfl) 0 rfl rfl ?_
      refine vf_callVv C cy_R_told ml_R_207 rfl (ct_R_told _) (S := []) sh_43 (by decide) rfl (jrm_of hR rfl) rfl rfl (Nat.le_of_ble_eq_true rfl) (zdg dz_R_land_4 2 rfl) (fun r11 u12 => ?_)
      refine vf_iload_n C (f := 3) (zdg dz_R_land_4 3 rfl) 2 rfl rfl ?_
      exact hr _ _ _ _ (fun h => absurd h (by decide)) (zdg dz_R_land_4 4 rfl)
    · refine vf_aload_n C (f := 0) (zdg dz_R_land_3 1 rfl) 0 rfl rfl ?_
      refine vf_iload C (zdg dz_R_land_3 2 rfl) 3 rfl ?_
      refine vf_aload_n C (f := 0) (zdg dz_R_land_3 3 rfl) 0 rfl rfl ?_
      refine vf_getp C fl_R_46 sh_43 rfl (by decide) rfl (x := 54) rfl (zdg dz_R_land_3 4 rfl) ?_
      refine vf_iload C (zdg dz_R_land_3 5 rfl) 3 rfl ?_
      refine vf_iald C sh_53 (by decide) rfl (mz := 10) rfl (zdg dz_R_land_3 6 rfl) ?_
      refine vf_aload_n C (f := 0) (zdg dz_R_land_3 7 rfl) 0 rfl rfl ?_
      refine vf_getp C fl_R_49 sh_43 rfl (by decide) rfl (x := 55) rfl (zdg dz_R_land_3 8 rfl) ?_
      refine vf_iload C (zdg dz_R_land_3 9 rfl) 3 rfl ?_
      refine vf_iald C sh_54 (by decide) rfl (mz := 10) rfl (zdg dz_R_land_3 10 rfl) ?_
      refine vf_aload_n C (f := 0) (zdg dz_R_land_3 11 rfl) 0 rfl rfl ?_
      refine vf_getp C fl_R_52 sh_43 rfl (by decide) rfl (x := 56) rfl (zdg dz_R_land_3 12 rfl) ?_
      refine vf_iload C (zdg dz_R_land_3 13 rfl) 3 rfl ?_
      refine vf_iald C sh_55 (by decide) rfl (mz := 10) rfl (zdg dz_R_land_3 14 rfl) ?_
      refine vf_aload_n C (f := 0) (zdg dz_R_land_3 15 rfl) 0 rfl rfl ?_
      refine vf_getp C fl_R_55 sh_43 rfl (by decide) rfl (x := 57) rfl (zdg dz_R_land_3 16 rfl) ?_
      refine vf_iload C (zdg dz_R_land_3 17 rfl) 3 rfl ?_
      refine vf_zald C sh_56 (by decide) rfl (mz := 10) rfl (zdg dz_R_land_3 18 rfl) ?_
      refine vf_callVv C cy_R_add ml_R_203 rfl (ct_R_add _ _ _ _ _ _) (S := []) sh_43 (by decide) rfl (jrm_of hR rfl) rfl rfl (Nat.le_of_ble_eq_true rfl) (zdg dz_R_land_3 19 rfl) (fun r13 u14 => ?_)
      refine vf_iinc C (z := 1) (L' := [(0, (2, 44)), (1, (0, v1)), (3, (0, v3))]) (zdg dz_R_land_3 20 rfl) 3 rfl [0, 1, 2] (jrI rfl rfl) hn (by decide) ?_
      generalize w32 (v4 + 1) = x15
      refine vf_ul ?_
      refine vf_goto C (off := (-43)) (tgt := 132) (zdg dz_R_land_3 21 rfl) (by decide) ?_
      exact vf_perm [1, 2, 3, 0] rfl (ih _ _ _ _)
def f_R_land_105 (v1 : Int) (w : Wd) : Option (Int × Wd) :=
  jcall (f_R_fine w) fun r6 u7 =>
  if r6 = 0 then
    some (w32 ((-1) - (u7 43 21)), u7)
  else
    jlet (w32 (v1 - (u7 43 0))) fun x8 =>
    jlet (u7 43 0) fun x9 =>
    f_R_land_132 FU v1 x8 x9 u7
theorem t_R_land_105 {X : jX} {Qf : Int × Wd → State → Prop} {ad : Nat → Nat} (C : Cx X prog_14_method_21_code "EachBringsAnotherModel") (hn : xn X = 5) (hR : xR X = rmD 5) (hr : Rt X Qf ad prog_14_method_21_code 0) (v1 : Int) (w : Wd) : VF X Qf ad NF 0 0 w 105 [(0, (2, 44)), (1, (0, v1))] [] (f_R_land_105 v1 w) := by
  unfold f_R_land_105
  refine vf_aload_n C (f := 0) (zdg dz_R_land_2 6 rfl) 0 rfl rfl ?_
  refine vf_callVz C cy_R_fine ml_R_181 rfl (ct_R_fine _) (S := []) sh_43 (by decide) rfl (jrm_of hR rfl) rfl rfl (Nat.le_of_ble_eq_true rfl) (zdg dz_R_land_2 7 rfl) (fun r6 u7 => ?_)
  refine vf_if_ne C (off := 10) (tgt := 119) (zdg dz_R_land_2 8 rfl) (by decide) ?_ ?_
  · refine vf_iload_n C (f := 1) (zdg dz_R_land_2 14 rfl) 1 rfl rfl ?_
    refine vf_aload_n C (f := 0) (zdg dz_R_land_2 15 rfl) 0 rfl rfl ?_
    refine vf_get C (kd := 0) fl_R_144 sh_43 rfl (by decide) rfl rfl (zdg dz_R_land_2 16 rfl) ?_
    refine vf_isub C (zdg dz_R_land_2 17 rfl) ?_
    generalize w32 (v1 - (u7 43 0)) = x8
    refine vf_ul ?_
    refine vf_istore_n C (f := 3) (L' := [(0, (2, 44)), (1, (0, v1))]) (zdg dz_R_land_2 18 rfl) [0, 1] (jrI rfl rfl) hn (by decide) rfl ?_
    refine vf_aload_n C (f := 0) (zdg dz_R_land_2 19 rfl) 1 rfl rfl ?_
    refine vf_get C (kd := 0) fl_R_144 sh_43 rfl (by decide) rfl rfl (zdg dz_R_land_2 20 rfl) ?_
    generalize u7 43 0 = x9
    refine vf_ul ?_
    refine vf_istore C (i := 4) (L' := [(3, (0, x8)), (0, (2, 44)), (1, (0, v1))]) (zdg dz_R_land_2 21 rfl) [0, 1, 2] (jrI rfl rfl) hn (by decide) ?_
    exact vf_perm [2, 3, 1, 0] rfl (t_R_land_132 C hn hR hr FU _ _ _ _)
  · refine vf_iconst C (z := (-1)) (zdg dz_R_land_2 9 rfl) (jz rfl) ?_
    refine vf_aload_n C (f := 0) (zdg dz_R_land_2 10 rfl) 0 rfl rfl ?_
    refine vf_get C (kd := 0) fl_R_178 sh_43 rfl (by decide) rfl rfl (zdg dz_R_land_2 11 rfl) ?_
    refine vf_isub C (zdg dz_R_land_2 12 rfl) ?_
    exact hr _ _ _ _ (fun h => absurd h (by decide)) (zdg dz_R_land_2 13 rfl)
def f_R_land_86 (v1 : Int) (w : Wd) : Option (Int × Wd) :=
  if (w 43 18) ≤ (w 43 20) then
    f_R_land_105 v1 w
  else
    jcall (f_R_fault (w 43 20) w) fun r16 u17 =>
    f_R_land_105 v1 u17
theorem t_R_land_86 {X : jX} {Qf : Int × Wd → State → Prop} {ad : Nat → Nat} (C : Cx X prog_14_method_21_code "EachBringsAnotherModel") (hn : xn X = 5) (hR : xR X = rmD 5) (hr : Rt X Qf ad prog_14_method_21_code 0) (v1 : Int) (w : Wd) : VF X Qf ad NF 0 0 w 86 [(0, (2, 44)), (1, (0, v1))] [] (f_R_land_86 v1 w) := by
  unfold f_R_land_86
  refine vf_aload_n C (f := 0) (zdg dz_R_land_1 21 rfl) 0 rfl rfl ?_
  refine vf_get C (kd := 0) fl_R_175 sh_43 rfl (by decide) rfl rfl (zdg dz_R_land_1 22 rfl) ?_
  refine vf_aload_n C (f := 0) (zdg dz_R_land_1 23 rfl) 0 rfl rfl ?_
  refine vf_get C (kd := 0) fl_R_169 sh_43 rfl (by decide) rfl rfl (zdg dz_R_land_2 0 rfl) ?_
  refine vf_icmp_ge C (off := 11) (tgt := 105) (zdg dz_R_land_2 1 rfl) (by decide) ?_ ?_
  · exact t_R_land_105 C hn hR hr _ _
  · refine vf_aload_n C (f := 0) (zdg dz_R_land_2 2 rfl) 0 rfl rfl ?_
    refine vf_aload_n C (f := 0) (zdg dz_R_land_2 3 rfl) 0 rfl rfl ?_
    refine vf_get C (kd := 0) fl_R_175 sh_43 rfl (by decide) rfl rfl (zdg dz_R_land_2 4 rfl) ?_
    refine vf_callVv C cy_R_fault ml_R_192 rfl (ct_R_fault _ _) (S := []) sh_43 (by decide) rfl (jrm_of hR rfl) rfl rfl (Nat.le_of_ble_eq_true rfl) (zdg dz_R_land_2 5 rfl) (fun r16 u17 => ?_)
    exact t_R_land_105 C hn hR hr _ _
def f_R_land_73 (k40 : Int → Int → Wd → Option (Int × Wd)) (v1 : Int) (w : Wd) : Option (Int × Wd) :=
  jlet (w32 (v1 + 1)) fun x22 =>
  jcall (f_R_passes 59 w) fun r23 u24 =>
  k40 x22 r23 u24
theorem t_R_land_73 {X : jX} {Qf : Int × Wd → State → Prop} {ad : Nat → Nat} (C : Cx X prog_14_method_21_code "EachBringsAnotherModel") (hn : xn X = 5) (hR : xR X = rmD 5) (hr : Rt X Qf ad prog_14_method_21_code 0) {k40 : Int → Int → Wd → Option (Int × Wd)} (hk40 : ∀ (v1 v2 : Int) (w : Wd), VF X Qf ad NF 0 0 w 40 [(0, (2, 44)), (1, (0, v1)), (2, (0, v2))] [] (k40 v1 v2 w)) (v1 : Int) (w : Wd) : VF X Qf ad NF 0 0 w 73 [(0, (2, 44)), (1, (0, v1))] [] (f_R_land_73 k40 v1 w) := by
  unfold f_R_land_73
  refine vf_iinc C (z := 1) (L' := [(0, (2, 44))]) (zdg dz_R_land_1 15 rfl) 1 rfl [0] (jrI rfl rfl) hn (by decide) ?_
  generalize w32 (v1 + 1) = x22
  refine vf_ul ?_
  refine vf_aload_n C (f := 0) (zdg dz_R_land_1 16 rfl) 1 rfl rfl ?_
  refine vf_bipush C (z := 59) (zdg dz_R_land_1 17 rfl) (by decide +kernel) (jz rfl) ?_
  refine vf_callVz C cy_R_passes ml_R_199 rfl (ct_R_passes _ _) (S := []) sh_43 (by decide) rfl (jrm_of hR rfl) rfl rfl (Nat.le_of_ble_eq_true rfl) (zdg dz_R_land_1 18 rfl) (fun r23 u24 => ?_)
  refine vf_istore_n C (f := 2) (L' := [(1, (0, x22)), (0, (2, 44))]) (zdg dz_R_land_1 19 rfl) [0, 1] (jrI rfl rfl) hn (by decide) rfl ?_
  refine vf_goto C (off := (-43)) (tgt := 40) (zdg dz_R_land_1 20 rfl) (by decide) ?_
  exact vf_perm [2, 1, 0] rfl (hk40 _ _ _)
def f_R_land_40 : Nat → Int → Int → Wd → Option (Int × Wd)
  | 0, _, _, _ => none
  | n + 1, v1, v2, w =>
    if v2 = 0 then
      f_R_land_86 v1 w
    else
      jcall (f_R_fine w) fun r18 u19 =>
      if r18 = 0 then
        f_R_land_86 v1 u19
      else
        if v1 = 10 then
          jcall (f_R_fault (u19 43 20) u19) fun r25 u26 =>
          f_R_land_73 (f_R_land_40 n) v1 u26
        else
          jcall (f_R_readOne v1 u19) fun r20 u21 =>
          f_R_land_73 (f_R_land_40 n) v1 u21
theorem t_R_land_40 {X : jX} {Qf : Int × Wd → State → Prop} {ad : Nat → Nat} (C : Cx X prog_14_method_21_code "EachBringsAnotherModel") (hn : xn X = 5) (hR : xR X = rmD 5) (hr : Rt X Qf ad prog_14_method_21_code 0) : ∀ (n : Nat) (v1 v2 : Int) (w : Wd), VF X Qf ad NF 0 0 w 40 [(0, (2, 44)), (1, (0, v1)), (2, (0, v2))] [] (f_R_land_40 n v1 v2 w) := by
  intro n
  induction n with
  | zero => intros; exact vf_no
  | succ n ih =>
    intro v1 v2 w
    rw [f_R_land_40]
    refine vf_iload_n C (f := 2) (zdg dz_R_land_0 23 rfl) 2 rfl rfl ?_
    refine vf_if_eq C (off := 45) (tgt := 86) (zdg dz_R_land_1 0 rfl) (by decide) ?_ ?_
    · exact vf_perm [0, 1] rfl (t_R_land_86 C hn hR hr _ _)
    · refine vf_aload_n C (f := 0) (zdg dz_R_land_1 1 rfl) 0 rfl rfl ?_
      refine vf_callVz C cy_R_fine ml_R_181 rfl (ct_R_fine _) (S := []) sh_43 (by decide) rfl (jrm_of hR rfl) rfl rfl (Nat.le_of_ble_eq_true rfl) (zdg dz_R_land_1 2 rfl) (fun r18 u19 => ?_)
      refine vf_if_eq C (off := 38) (tgt := 86) (zdg dz_R_land_1 3 rfl) (by decide) ?_ ?_
      · exact vf_perm [0, 1] rfl (t_R_land_86 C hn hR hr _ _)
      · refine vf_iload_n C (f := 1) (zdg dz_R_land_1 4 rfl) 1 rfl rfl ?_
        refine vf_bipush C (z := 10) (zdg dz_R_land_1 5 rfl) (by decide +kernel) (jz rfl) ?_
        refine vf_icmp_ne C (off := 14) (tgt := 68) (zdg dz_R_land_1 6 rfl) (by decide) ?_ ?_
        · refine vf_aload_n C (f := 0) (zdg dz_R_land_1 12 rfl) 0 rfl rfl ?_
          refine vf_iload_n C (f := 1) (zdg dz_R_land_1 13 rfl) 1 rfl rfl ?_
          refine vf_callVv C cy_R_readOne ml_R_196 rfl (ct_R_readOne _ _) (S := []) sh_43 (by decide) rfl (jrm_of hR rfl) rfl rfl (Nat.le_of_ble_eq_true rfl) (zdg dz_R_land_1 14 rfl) (fun r20 u21 => ?_)
          exact vf_perm [0, 1] rfl (t_R_land_73 C hn hR hr ih _ _)
        · refine vf_aload_n C (f := 0) (zdg dz_R_land_1 7 rfl) 0 rfl rfl ?_
          refine vf_aload_n C (f := 0) (zdg dz_R_land_1 8 rfl) 0 rfl rfl ?_
          refine vf_get C (kd := 0) fl_R_175 sh_43 rfl (by decide) rfl rfl (zdg dz_R_land_1 9 rfl) ?_
          refine vf_callVv C cy_R_fault ml_R_192 rfl (ct_R_fault _ _) (S := []) sh_43 (by decide) rfl (jrm_of hR rfl) rfl rfl (Nat.le_of_ble_eq_true rfl) (zdg dz_R_land_1 10 rfl) (fun r25 u26 => ?_)
          refine vf_goto C (off := 8) (tgt := 73) (zdg dz_R_land_1 11 rfl) (by decide) ?_
          exact vf_perm [0, 1] rfl (t_R_land_73 C hn hR hr ih _ _)
def f_R_land (w : Wd) : Option (Int × Wd) :=
  jlw (st w 43 16 0) fun u1 =>
  jcall (f_R_begin1_43_51 (u1 43 13) 76 u1) fun r2 u3 =>
  jlw (st u3 43 13 0) fun u4 =>
  if (u4 43 18) = 0 then
    some (0, u4)
  else
    jlet (u4 43 0) fun x5 =>
    f_R_land_40 FU x5 1 u4
theorem ct_R_land (w : Wd) : Ct y_R_land prog_14_method_21_code 5 (some .int) 5 0 [(2, 44)] w (f_R_land w) := by
  refine ct_of (by decide +kernel) (Or.inl ⟨rfl, rfl⟩) (Nat.le_of_ble_eq_true rfl) ?_
  intro X Qf ad C hn hR hr
  unfold f_R_land
  show VF X Qf ad NF 0 0 w 0 [(0, (2, 44))] [] _
  refine vf_aload_n C (f := 0) (zdg dz_R_land_0 0 rfl) 0 rfl rfl ?_
  refine vf_iconst C (z := 0) (zdg dz_R_land_0 1 rfl) (jz rfl) ?_
  refine vf_put C (kd := 0) fl_R_138 fk_11_16 sh_43 rfl (by decide) rfl rfl (by decide) (zdg dz_R_land_0 2 rfl) ?_
  generalize st w 43 16 0 = u1
  refine vf_uw ?_
  refine vf_aload_n C (f := 0) (zdg dz_R_land_0 3 rfl) 0 rfl rfl ?_
  refine vf_aload_n C (f := 0) (zdg dz_R_land_0 4 rfl) 0 rfl rfl ?_
  refine vf_getp C fl_R_39 sh_43 rfl (by decide) rfl (x := 52) rfl (zdg dz_R_land_0 5 rfl) ?_
  refine vf_aload_n C (f := 0) (zdg dz_R_land_0 6 rfl) 0 rfl rfl ?_
  refine vf_get C (kd := 0) fl_R_163 sh_43 rfl (by decide) rfl rfl (zdg dz_R_land_0 7 rfl) ?_
  refine vf_bipush C (z := 76) (zdg dz_R_land_0 8 rfl) (by decide +kernel) (jz rfl) ?_
  refine vf_callVv C cy_R_begin1 ml_R_188 rfl (ct_R_begin1_43_51 _ _ _) (S := []) sh_43 (by decide) rfl (jrm_of hR rfl) rfl rfl (Nat.le_of_ble_eq_true rfl) (zdg dz_R_land_0 9 rfl) (fun r2 u3 => ?_)
  refine vf_aload_n C (f := 0) (zdg dz_R_land_0 10 rfl) 0 rfl rfl ?_
  refine vf_iconst C (z := 0) (zdg dz_R_land_0 11 rfl) (jz rfl) ?_
  refine vf_put C (kd := 0) fl_R_163 fk_11_13 sh_43 rfl (by decide) rfl rfl (by decide) (zdg dz_R_land_0 12 rfl) ?_
  generalize st u3 43 13 0 = u4
  refine vf_uw ?_
  refine vf_aload_n C (f := 0) (zdg dz_R_land_0 13 rfl) 0 rfl rfl ?_
  refine vf_get C (kd := 0) fl_R_169 sh_43 rfl (by decide) rfl rfl (zdg dz_R_land_0 14 rfl) ?_
  refine vf_if_ne C (off := 5) (tgt := 33) (zdg dz_R_land_0 15 rfl) (by decide) ?_ ?_
  · refine vf_aload_n C (f := 0) (zdg dz_R_land_0 18 rfl) 0 rfl rfl ?_
    refine vf_get C (kd := 0) fl_R_144 sh_43 rfl (by decide) rfl rfl (zdg dz_R_land_0 19 rfl) ?_
    generalize u4 43 0 = x5
    refine vf_ul ?_
    refine vf_istore_n C (f := 1) (L' := [(0, (2, 44))]) (zdg dz_R_land_0 20 rfl) [0] (jrI rfl rfl) hn (by decide) rfl ?_
    refine vf_iconst C (z := 1) (zdg dz_R_land_0 21 rfl) (jz rfl) ?_
    refine vf_istore_n C (f := 2) (L' := [(1, (0, x5)), (0, (2, 44))]) (zdg dz_R_land_0 22 rfl) [0, 1] (jrI rfl rfl) hn (by decide) rfl ?_
    exact vf_perm [2, 1, 0] rfl (t_R_land_40 C hn hR hr FU _ _ _)
  · refine vf_iconst C (z := 0) (zdg dz_R_land_0 16 rfl) (jz rfl) ?_
    exact hr _ _ _ _ (fun h => absurd h (by decide)) (zdg dz_R_land_0 17 rfl)
def f_R_letter_151 (w : Wd) : Option (Int × Wd) :=
  some (w 43 8, w)
theorem t_R_letter_151 {X : jX} {Qf : Int × Wd → State → Prop} {ad : Nat → Nat} (C : Cx X prog_14_method_29_code "EachBringsAnotherModel") (hn : xn X = 2) (hR : xR X = rmD 4) (hr : Rt X Qf ad prog_14_method_29_code 0) (w : Wd) : VF X Qf ad NF 0 0 w 151 [(0, (2, 44))] [] (f_R_letter_151 w) := by
  unfold f_R_letter_151
  refine vf_aload_n C (f := 0) (zdg dz_R_letter_2 2 rfl) 0 rfl rfl ?_
  refine vf_get C (kd := 0) fl_R_214 sh_43 rfl (by decide) rfl rfl (zdg dz_R_letter_2 3 rfl) ?_
  exact hr _ _ _ _ (fun h => absurd h (by decide)) (zdg dz_R_letter_2 4 rfl)
def f_R_letter (v1 : Int) (w : Wd) : Option (Int × Wd) :=
  if v1 < 103 ∨ 115 < v1 then
    f_R_letter_151 w
  else
  if v1 = 103 then
    jgd ((0 : Int) ≤ (w 43 28) ∧ (w 43 28) < 10) <|
    jcall (f_R_guests w) fun r1 u2 =>
    jcall (f_JI_bitCount (iand (w 45 (w 43 28).toNat) r1) u2) fun r3 u4 =>
    some (r3, u4)
  else
  if v1 = 104 then
    f_R_letter_151 w
  else
  if v1 = 105 then
    some (w 43 28, w)
  else
  if v1 = 106 then
    f_R_letter_151 w
  else
  if v1 = 107 then
    jgd ((0 : Int) ≤ (w 43 28) ∧ (w 43 28) < 10) <|
    jcall (f_JI_bitCount (w 45 (w 43 28).toNat) w) fun r5 u6 =>
    some (r5, u6)
  else
  if v1 = 108 then
    jgd ((0 : Int) ≤ (w 43 29) ∧ (w 43 29) < 10) <|
    some (w32 ((w 47 (w 43 29).toNat) - 1), w)
  else
  if v1 = 109 then
    f_R_letter_151 w
  else
  if v1 = 110 then
    some (w 43 29, w)
  else
  if v1 = 111 then
    f_R_letter_151 w
  else
  if v1 = 112 then
    jgd ((0 : Int) ≤ (w 43 28) ∧ (w 43 28) < 10) <|
    some (w 44 (w 43 28).toNat, w)
  else
  if v1 = 113 then
    f_R_letter_151 w
  else
  if v1 = 114 then
    f_R_letter_151 w
  else
  if v1 = 115 then
    jgd ((0 : Int) ≤ (w 43 28) ∧ (w 43 28) < 10) <|
    jcall (f_R_those 0 0 w) fun r7 u8 =>
    jcall (f_JI_bitCount (iand (w 45 (w 43 28).toNat) r7) u8) fun r9 u10 =>
    some (r9, u10)
  else
  none
theorem ct_R_letter (v1 : Int) (w : Wd) : Ct y_R_letter prog_14_method_29_code 2 (some .int) 4 0 [(2, 44), (0, v1)] w (f_R_letter v1 w) := by
  refine ct_of (by decide +kernel) (Or.inl ⟨rfl, rfl⟩) (Nat.le_of_ble_eq_true rfl) ?_
  intro X Qf ad C hn hR hr
  unfold f_R_letter
  show VF X Qf ad NF 0 0 w 0 [(0, (2, 44)), (1, (0, v1))] [] _
  refine vf_iload_n C (f := 1) (zdg dz_R_letter_0 0 rfl) 1 rfl rfl ?_
  refine vf_if _ (fun h => ?_) (fun _ => ?_)
  · refine vf_swd C (dflt := 150) (lo := 103) (hi := 115) (offs := #[115, 150, 67, 150, 82, 133, 150, 145, 150, 72, 150, 150, 95]) (len := 67) (tgt := 151) (by decide +kernel) h (by decide) ?_
    exact vf_perm [0] rfl (t_R_letter_151 C hn hR hr _)
  refine vf_if _ (fun h => ?_) (fun _ => ?_)
  · refine vf_swx C (dflt := 150) (lo := 103) (hi := 115) (offs := #[115, 150, 67, 150, 82, 133, 150, 145, 150, 72, 150, 150, 95]) (len := 67) (z := 103) (off := 115) (tgt := 116) (by decide +kernel) h (by decide) (by decide) rfl (by decide) ?_
    refine vf_aload_n C (f := 0) (zdg dz_R_letter_1 5 rfl) 0 rfl rfl ?_
    refine vf_getp C fl_R_13 sh_43 rfl (by decide) rfl (x := 46) rfl (zdg dz_R_letter_1 6 rfl) ?_
    refine vf_aload_n C (f := 0) (zdg dz_R_letter_1 7 rfl) 0 rfl rfl ?_
    refine vf_get C (kd := 0) fl_R_61 sh_43 rfl (by decide) rfl rfl (zdg dz_R_letter_1 8 rfl) ?_
    refine vf_iald C sh_45 (by decide) rfl (mz := 10) rfl (zdg dz_R_letter_1 9 rfl) ?_
    refine vf_aload_n C (f := 0) (zdg dz_R_letter_1 10 rfl) 0 rfl rfl ?_
    refine vf_callVi C cy_R_guests ml_R_217 rfl (ct_R_guests _) (S := [(0, w 45 (w 43 28).toNat)]) sh_43 (by decide) rfl (jrm_of hR rfl) rfl rfl (Nat.le_of_ble_eq_true rfl) (zdg dz_R_letter_1 11 rfl) (fun r1 u2 => ?_)
    refine vf_iand C (zdg dz_R_letter_1 12 rfl) ?_
    refine vf_callSi C cy_JI_bitCount ml_R_242 (ct_JI_bitCount _ _) (S := []) (jrm_of hR rfl) rfl rfl (Nat.le_of_ble_eq_true rfl) (zdg dz_R_letter_1 13 rfl) (fun r3 u4 => ?_)
    exact hr _ _ _ _ (fun h => absurd h (by decide)) (zdg dz_R_letter_1 14 rfl)
  refine vf_if _ (fun h => ?_) (fun _ => ?_)
  · refine vf_swx C (dflt := 150) (lo := 103) (hi := 115) (offs := #[115, 150, 67, 150, 82, 133, 150, 145, 150, 72, 150, 150, 95]) (len := 67) (z := 104) (off := 150) (tgt := 151) (by decide +kernel) h (by decide) (by decide) rfl (by decide) ?_
    exact vf_perm [0] rfl (t_R_letter_151 C hn hR hr _)
  refine vf_if _ (fun h => ?_) (fun _ => ?_)
  · refine vf_swx C (dflt := 150) (lo := 103) (hi := 115) (offs := #[115, 150, 67, 150, 82, 133, 150, 145, 150, 72, 150, 150, 95]) (len := 67) (z := 105) (off := 67) (tgt := 68) (by decide +kernel) h (by decide) (by decide) rfl (by decide) ?_
    refine vf_aload_n C (f := 0) (zdg dz_R_letter_0 1 rfl) 0 rfl rfl ?_
    refine vf_get C (kd := 0) fl_R_61 sh_43 rfl (by decide) rfl rfl (zdg dz_R_letter_0 2 rfl) ?_
    exact hr _ _ _ _ (fun h => absurd h (by decide)) (zdg dz_R_letter_0 3 rfl)
  refine vf_if _ (fun h => ?_) (fun _ => ?_)
  · refine vf_swx C (dflt := 150) (lo := 103) (hi := 115) (offs := #[115, 150, 67, 150, 82, 133, 150, 145, 150, 72, 150, 150, 95]) (len := 67) (z := 106) (off := 150) (tgt := 151) (by decide +kernel) h (by decide) (by decide) rfl (by decide) ?_
    exact vf_perm [0] rfl (t_R_letter_151 C hn hR hr _)
  refine vf_if _ (fun h => ?_) (fun _ => ?_)
  · refine vf_swx C (dflt := 150) (lo := 103) (hi := 115) (offs := #[115, 150, 67, 150, 82, 133, 150, 145, 150, 72, 150, 150, 95]) (len := 67) (z := 107) (off := 82) (tgt := 83) (by decide +kernel) h (by decide) (by decide) rfl (by decide) ?_
    refine vf_aload_n C (f := 0) (zdg dz_R_letter_0 10 rfl) 0 rfl rfl ?_
    refine vf_getp C fl_R_13 sh_43 rfl (by decide) rfl (x := 46) rfl (zdg dz_R_letter_0 11 rfl) ?_
    refine vf_aload_n C (f := 0) (zdg dz_R_letter_0 12 rfl) 0 rfl rfl ?_
    refine vf_get C (kd := 0) fl_R_61 sh_43 rfl (by decide) rfl rfl (zdg dz_R_letter_0 13 rfl) ?_
    refine vf_iald C sh_45 (by decide) rfl (mz := 10) rfl (zdg dz_R_letter_0 14 rfl) ?_
    refine vf_callSi C cy_JI_bitCount ml_R_242 (ct_JI_bitCount _ _) (S := []) (jrm_of hR rfl) rfl rfl (Nat.le_of_ble_eq_true rfl) (zdg dz_R_letter_0 15 rfl) (fun r5 u6 => ?_)
    exact hr _ _ _ _ (fun h => absurd h (by decide)) (zdg dz_R_letter_0 16 rfl)
  refine vf_if _ (fun h => ?_) (fun _ => ?_)
  · refine vf_swx C (dflt := 150) (lo := 103) (hi := 115) (offs := #[115, 150, 67, 150, 82, 133, 150, 145, 150, 72, 150, 150, 95]) (len := 67) (z := 108) (off := 133) (tgt := 134) (by decide +kernel) h (by decide) (by decide) rfl (by decide) ?_
    refine vf_aload_n C (f := 0) (zdg dz_R_letter_1 15 rfl) 0 rfl rfl ?_
    refine vf_getp C fl_R_20 sh_43 rfl (by decide) rfl (x := 48) rfl (zdg dz_R_letter_1 16 rfl) ?_
    refine vf_aload_n C (f := 0) (zdg dz_R_letter_1 17 rfl) 0 rfl rfl ?_
    refine vf_get C (kd := 0) fl_R_247 sh_43 rfl (by decide) rfl rfl (zdg dz_R_letter_1 18 rfl) ?_
    refine vf_iald C sh_47 (by decide) rfl (mz := 10) rfl (zdg dz_R_letter_1 19 rfl) ?_
    refine vf_iconst C (z := 1) (zdg dz_R_letter_1 20 rfl) (jz rfl) ?_
    refine vf_isub C (zdg dz_R_letter_1 21 rfl) ?_
    exact hr _ _ _ _ (fun h => absurd h (by decide)) (zdg dz_R_letter_1 22 rfl)
  refine vf_if _ (fun h => ?_) (fun _ => ?_)
  · refine vf_swx C (dflt := 150) (lo := 103) (hi := 115) (offs := #[115, 150, 67, 150, 82, 133, 150, 145, 150, 72, 150, 150, 95]) (len := 67) (z := 109) (off := 150) (tgt := 151) (by decide +kernel) h (by decide) (by decide) rfl (by decide) ?_
    exact vf_perm [0] rfl (t_R_letter_151 C hn hR hr _)
  refine vf_if _ (fun h => ?_) (fun _ => ?_)
  · refine vf_swx C (dflt := 150) (lo := 103) (hi := 115) (offs := #[115, 150, 67, 150, 82, 133, 150, 145, 150, 72, 150, 150, 95]) (len := 67) (z := 110) (off := 145) (tgt := 146) (by decide +kernel) h (by decide) (by decide) rfl (by decide) ?_
    refine vf_aload_n C (f := 0) (zdg dz_R_letter_1 23 rfl) 0 rfl rfl ?_
    refine vf_get C (kd := 0) fl_R_247 sh_43 rfl (by decide) rfl rfl (zdg dz_R_letter_2 0 rfl) ?_
    exact hr _ _ _ _ (fun h => absurd h (by decide)) (zdg dz_R_letter_2 1 rfl)
  refine vf_if _ (fun h => ?_) (fun _ => ?_)
  · refine vf_swx C (dflt := 150) (lo := 103) (hi := 115) (offs := #[115, 150, 67, 150, 82, 133, 150, 145, 150, 72, 150, 150, 95]) (len := 67) (z := 111) (off := 150) (tgt := 151) (by decide +kernel) h (by decide) (by decide) rfl (by decide) ?_
    exact vf_perm [0] rfl (t_R_letter_151 C hn hR hr _)
  refine vf_if _ (fun h => ?_) (fun _ => ?_)
  · refine vf_swx C (dflt := 150) (lo := 103) (hi := 115) (offs := #[115, 150, 67, 150, 82, 133, 150, 145, 150, 72, 150, 150, 95]) (len := 67) (z := 112) (off := 72) (tgt := 73) (by decide +kernel) h (by decide) (by decide) rfl (by decide) ?_
    refine vf_aload_n C (f := 0) (zdg dz_R_letter_0 4 rfl) 0 rfl rfl ?_
    refine vf_getp C fl_R_9 sh_43 rfl (by decide) rfl (x := 45) rfl (zdg dz_R_letter_0 5 rfl) ?_
    refine vf_aload_n C (f := 0) (zdg dz_R_letter_0 6 rfl) 0 rfl rfl ?_
    refine vf_get C (kd := 0) fl_R_61 sh_43 rfl (by decide) rfl rfl (zdg dz_R_letter_0 7 rfl) ?_
    refine vf_iald C sh_44 (by decide) rfl (mz := 10) rfl (zdg dz_R_letter_0 8 rfl) ?_
    exact hr _ _ _ _ (fun h => absurd h (by decide)) (zdg dz_R_letter_0 9 rfl)
  refine vf_if _ (fun h => ?_) (fun _ => ?_)
  · refine vf_swx C (dflt := 150) (lo := 103) (hi := 115) (offs := #[115, 150, 67, 150, 82, 133, 150, 145, 150, 72, 150, 150, 95]) (len := 67) (z := 113) (off := 150) (tgt := 151) (by decide +kernel) h (by decide) (by decide) rfl (by decide) ?_
    exact vf_perm [0] rfl (t_R_letter_151 C hn hR hr _)
  refine vf_if _ (fun h => ?_) (fun _ => ?_)
  · refine vf_swx C (dflt := 150) (lo := 103) (hi := 115) (offs := #[115, 150, 67, 150, 82, 133, 150, 145, 150, 72, 150, 150, 95]) (len := 67) (z := 114) (off := 150) (tgt := 151) (by decide +kernel) h (by decide) (by decide) rfl (by decide) ?_
    exact vf_perm [0] rfl (t_R_letter_151 C hn hR hr _)
  refine vf_if _ (fun h => ?_) (fun _ => ?_)
  · refine vf_swx C (dflt := 150) (lo := 103) (hi := 115) (offs := #[115, 150, 67, 150, 82, 133, 150, 145, 150, 72, 150, 150, 95]) (len := 67) (z := 115) (off := 95) (tgt := 96) (by decide +kernel) h (by decide) (by decide) rfl (by decide) ?_
    refine vf_aload_n C (f := 0) (zdg dz_R_letter_0 17 rfl) 0 rfl rfl ?_
    refine vf_getp C fl_R_13 sh_43 rfl (by decide) rfl (x := 46) rfl (zdg dz_R_letter_0 18 rfl) ?_
    refine vf_aload_n C (f := 0) (zdg dz_R_letter_0 19 rfl) 0 rfl rfl ?_
    refine vf_get C (kd := 0) fl_R_61 sh_43 rfl (by decide) rfl rfl (zdg dz_R_letter_0 20 rfl) ?_
    refine vf_iald C sh_45 (by decide) rfl (mz := 10) rfl (zdg dz_R_letter_0 21 rfl) ?_
    refine vf_aload_n C (f := 0) (zdg dz_R_letter_0 22 rfl) 0 rfl rfl ?_
    refine vf_iconst C (z := 0) (zdg dz_R_letter_0 23 rfl) (jz rfl) ?_
    refine vf_iconst C (z := 0) (zdg dz_R_letter_1 0 rfl) (jz rfl) ?_
    refine vf_callVi C cy_R_those ml_R_155 rfl (ct_R_those _ _ _) (S := [(0, w 45 (w 43 28).toNat)]) sh_43 (by decide) rfl (jrm_of hR rfl) rfl rfl (Nat.le_of_ble_eq_true rfl) (zdg dz_R_letter_1 1 rfl) (fun r7 u8 => ?_)
    refine vf_iand C (zdg dz_R_letter_1 2 rfl) ?_
    refine vf_callSi C cy_JI_bitCount ml_R_242 (ct_JI_bitCount _ _) (S := []) (jrm_of hR rfl) rfl rfl (Nat.le_of_ble_eq_true rfl) (zdg dz_R_letter_1 3 rfl) (fun r9 u10 => ?_)
    exact hr _ _ _ _ (fun h => absurd h (by decide)) (zdg dz_R_letter_1 4 rfl)
  exact vf_no
def f_R_held_b (rec : Nat → Int → Wd → Option (Int × Wd)) (v1 : Int) (w : Wd) : Option (Int × Wd) :=
  jcall (rec 1 v1 w) fun r1 u2 =>
  jcall (f_R_passes 60 u2) fun r3 u4 =>
  if r3 = 0 then
    jcall (f_R_passes 62 u4) fun r5 u6 =>
    if r5 = 0 then
      jcall (f_R_passes 61 u6) fun r7 u8 =>
      if r7 = 0 then
        some (r1, u8)
      else
        jcall (rec 1 v1 u8) fun r9 u10 =>
        if r1 = r9 then
          some (1, u10)
        else
          some (0, u10)
    else
      jcall (rec 1 v1 u6) fun r11 u12 =>
      if r1 ≤ r11 then
        some (0, u12)
      else
        some (1, u12)
  else
    jcall (rec 1 v1 u4) fun r13 u14 =>
    if r13 ≤ r1 then
      some (0, u14)
    else
      some (1, u14)
theorem ct_R_held_b {dd : Nat} {rec : Nat → Int → Wd → Option (Int × Wd)} (hrec_held : ∀ (v1 : Int) (w : Wd), Ct y_R_held prog_14_method_25_code 3 (some .int) (4 + dd) 0 [(2, 44), (0, v1)] w (rec 0 v1 w)) (hrec_sum : ∀ (v1 : Int) (w : Wd), Ct y_R_sum prog_14_method_26_code 5 (some .int) (4 + dd) 0 [(2, 44), (0, v1)] w (rec 1 v1 w)) (hrec_product : ∀ (v1 : Int) (w : Wd), Ct y_R_product prog_14_method_27_code 5 (some .int) (4 + dd) 0 [(2, 44), (0, v1)] w (rec 2 v1 w)) (hrec_thing : ∀ (v1 : Int) (w : Wd), Ct y_R_thing prog_14_method_28_code 5 (some .int) (4 + dd) 0 [(2, 44), (0, v1)] w (rec 3 v1 w)) (v1 : Int) (w : Wd) : Ct y_R_held prog_14_method_25_code 3 (some .int) (4 + dd + 1) 0 [(2, 44), (0, v1)] w (f_R_held_b rec v1 w) := by
  refine ct_of (by decide +kernel) (Or.inl ⟨rfl, rfl⟩) (Nat.le_of_ble_eq_true rfl) ?_
  intro X Qf ad C hn hR hr
  unfold f_R_held_b
  show VF X Qf ad NF 0 0 w 0 [(0, (2, 44)), (1, (0, v1))] [] _
  refine vf_aload_n C (f := 0) (zdg dz_R_held_0 0 rfl) 0 rfl rfl ?_
  refine vf_iload_n C (f := 1) (zdg dz_R_held_0 1 rfl) 1 rfl rfl ?_
  refine vf_callVi C cy_R_sum ml_R_226 rfl (hrec_sum _ _) (S := []) sh_43 (by decide) rfl (jrm_o hR (by omega) (by decide)) rfl rfl (Nat.le_of_ble_eq_true rfl) (zdg dz_R_held_0 2 rfl) (fun r1 u2 => ?_)
  refine vf_istore_n C (f := 2) (L' := [(0, (2, 44)), (1, (0, v1))]) (zdg dz_R_held_0 3 rfl) [0, 1] (jrI rfl rfl) hn (by decide) rfl ?_
  refine vf_aload_n C (f := 0) (zdg dz_R_held_0 4 rfl) 1 rfl rfl ?_
  refine vf_bipush C (z := 60) (zdg dz_R_held_0 5 rfl) (by decide +kernel) (jz rfl) ?_
  refine vf_callVz C cy_R_passes ml_R_199 rfl (ct_R_passes _ _) (S := []) sh_43 (by decide) rfl (jrm_o hR (by omega) (by decide)) rfl rfl (Nat.le_of_ble_eq_true rfl) (zdg dz_R_held_0 6 rfl) (fun r3 u4 => ?_)
  refine vf_if_eq C (off := 18) (tgt := 30) (zdg dz_R_held_0 7 rfl) (by decide) ?_ ?_
  · refine vf_aload_n C (f := 0) (zdg dz_R_held_0 17 rfl) 1 rfl rfl ?_
    refine vf_bipush C (z := 62) (zdg dz_R_held_0 18 rfl) (by decide +kernel) (jz rfl) ?_
    refine vf_callVz C cy_R_passes ml_R_199 rfl (ct_R_passes _ _) (S := []) sh_43 (by decide) rfl (jrm_o hR (by omega) (by decide)) rfl rfl (Nat.le_of_ble_eq_true rfl) (zdg dz_R_held_0 19 rfl) (fun r5 u6 => ?_)
    refine vf_if_eq C (off := 18) (tgt := 54) (zdg dz_R_held_0 20 rfl) (by decide) ?_ ?_
    · refine vf_aload_n C (f := 0) (zdg dz_R_held_1 6 rfl) 1 rfl rfl ?_
      refine vf_bipush C (z := 61) (zdg dz_R_held_1 7 rfl) (by decide +kernel) (jz rfl) ?_
      refine vf_callVz C cy_R_passes ml_R_199 rfl (ct_R_passes _ _) (S := []) sh_43 (by decide) rfl (jrm_o hR (by omega) (by decide)) rfl rfl (Nat.le_of_ble_eq_true rfl) (zdg dz_R_held_1 8 rfl) (fun r7 u8 => ?_)
      refine vf_if_eq C (off := 18) (tgt := 78) (zdg dz_R_held_1 9 rfl) (by decide) ?_ ?_
      · refine vf_iload_n C (f := 2) (zdg dz_R_held_1 19 rfl) 0 rfl rfl ?_
        exact hr _ _ _ _ (fun h => absurd h (by decide)) (zdg dz_R_held_1 20 rfl)
      · refine vf_iload_n C (f := 2) (zdg dz_R_held_1 10 rfl) 0 rfl rfl ?_
        refine vf_aload_n C (f := 0) (zdg dz_R_held_1 11 rfl) 1 rfl rfl ?_
        refine vf_iload_n C (f := 1) (zdg dz_R_held_1 12 rfl) 2 rfl rfl ?_
        refine vf_callVi C cy_R_sum ml_R_226 rfl (hrec_sum _ _) (S := [(0, r1)]) sh_43 (by decide) rfl (jrm_o hR (by omega) (by decide)) rfl rfl (Nat.le_of_ble_eq_true rfl) (zdg dz_R_held_1 13 rfl) (fun r9 u10 => ?_)
        refine vf_icmp_ne C (off := 7) (tgt := 76) (zdg dz_R_held_1 14 rfl) (by decide) ?_ ?_
        · refine vf_iconst C (z := 0) (zdg dz_R_held_1 17 rfl) (jz rfl) ?_
          exact hr _ _ _ _ (fun h => absurd h (by decide)) (zdg dz_R_held_1 18 rfl)
        · refine vf_iconst C (z := 1) (zdg dz_R_held_1 15 rfl) (jz rfl) ?_
          refine vf_goto C (off := 4) (tgt := 77) (zdg dz_R_held_1 16 rfl) (by decide) ?_
          exact hr _ _ _ _ (fun h => absurd h (by decide)) (zdg dz_R_held_1 18 rfl)
    · refine vf_iload_n C (f := 2) (zdg dz_R_held_0 21 rfl) 0 rfl rfl ?_
      refine vf_aload_n C (f := 0) (zdg dz_R_held_0 22 rfl) 1 rfl rfl ?_
      refine vf_iload_n C (f := 1) (zdg dz_R_held_0 23 rfl) 2 rfl rfl ?_
      refine vf_callVi C cy_R_sum ml_R_226 rfl (hrec_sum _ _) (S := [(0, r1)]) sh_43 (by decide) rfl (jrm_o hR (by omega) (by decide)) rfl rfl (Nat.le_of_ble_eq_true rfl) (zdg dz_R_held_1 0 rfl) (fun r11 u12 => ?_)
      refine vf_icmp_le C (off := 7) (tgt := 52) (zdg dz_R_held_1 1 rfl) (by decide) ?_ ?_
      · refine vf_iconst C (z := 0) (zdg dz_R_held_1 4 rfl) (jz rfl) ?_
        exact hr _ _ _ _ (fun h => absurd h (by decide)) (zdg dz_R_held_1 5 rfl)
      · refine vf_iconst C (z := 1) (zdg dz_R_held_1 2 rfl) (jz rfl) ?_
        refine vf_goto C (off := 4) (tgt := 53) (zdg dz_R_held_1 3 rfl) (by decide) ?_
        exact hr _ _ _ _ (fun h => absurd h (by decide)) (zdg dz_R_held_1 5 rfl)
  · refine vf_iload_n C (f := 2) (zdg dz_R_held_0 8 rfl) 0 rfl rfl ?_
    refine vf_aload_n C (f := 0) (zdg dz_R_held_0 9 rfl) 1 rfl rfl ?_
    refine vf_iload_n C (f := 1) (zdg dz_R_held_0 10 rfl) 2 rfl rfl ?_
    refine vf_callVi C cy_R_sum ml_R_226 rfl (hrec_sum _ _) (S := [(0, r1)]) sh_43 (by decide) rfl (jrm_o hR (by omega) (by decide)) rfl rfl (Nat.le_of_ble_eq_true rfl) (zdg dz_R_held_0 11 rfl) (fun r13 u14 => ?_)
    refine vf_icmp_ge C (off := 7) (tgt := 28) (zdg dz_R_held_0 12 rfl) (by decide) ?_ ?_
    · refine vf_iconst C (z := 0) (zdg dz_R_held_0 15 rfl) (jz rfl) ?_
      exact hr _ _ _ _ (fun h => absurd h (by decide)) (zdg dz_R_held_0 16 rfl)
    · refine vf_iconst C (z := 1) (zdg dz_R_held_0 13 rfl) (jz rfl) ?_
      refine vf_goto C (off := 4) (tgt := 29) (zdg dz_R_held_0 14 rfl) (by decide) ?_
      exact hr _ _ _ _ (fun h => absurd h (by decide)) (zdg dz_R_held_0 16 rfl)
def f_R_sum_78 (rec : Nat → Int → Wd → Option (Int × Wd)) (k6 : Int → Int → Wd → Option (Int × Wd)) (v1 s0 : Int) (w : Wd) : Option (Int × Wd) :=
  k6 v1 s0 w
theorem t_R_sum_78 {X : jX} {Qf : Int × Wd → State → Prop} {ad : Nat → Nat} (C : Cx X prog_14_method_26_code "EachBringsAnotherModel") (hn : xn X = 5) {dd : Nat} (hR : xR X = rmD (4 + dd + 1)) (hr : Rt X Qf ad prog_14_method_26_code 0) {rec : Nat → Int → Wd → Option (Int × Wd)} (hrec_held : ∀ (v1 : Int) (w : Wd), Ct y_R_held prog_14_method_25_code 3 (some .int) (4 + dd) 0 [(2, 44), (0, v1)] w (rec 0 v1 w)) (hrec_sum : ∀ (v1 : Int) (w : Wd), Ct y_R_sum prog_14_method_26_code 5 (some .int) (4 + dd) 0 [(2, 44), (0, v1)] w (rec 1 v1 w)) (hrec_product : ∀ (v1 : Int) (w : Wd), Ct y_R_product prog_14_method_27_code 5 (some .int) (4 + dd) 0 [(2, 44), (0, v1)] w (rec 2 v1 w)) (hrec_thing : ∀ (v1 : Int) (w : Wd), Ct y_R_thing prog_14_method_28_code 5 (some .int) (4 + dd) 0 [(2, 44), (0, v1)] w (rec 3 v1 w)) {k6 : Int → Int → Wd → Option (Int × Wd)} (hk6 : ∀ (v1 v2 : Int) (w : Wd), VF X Qf ad NF 0 0 w 6 [(0, (2, 44)), (1, (0, v1)), (2, (0, v2))] [] (k6 v1 v2 w)) (v1 s0 : Int) (w : Wd) : VF X Qf ad NF 0 0 w 78 [(0, (2, 44)), (1, (0, v1))] [(0, s0)] (f_R_sum_78 rec k6 v1 s0 w) := by
  unfold f_R_sum_78
  refine vf_istore_n C (f := 2) (L' := [(0, (2, 44)), (1, (0, v1))]) (zdg dz_R_sum_1 18 rfl) [0, 1] (jrI rfl rfl) hn (by decide) rfl ?_
  refine vf_goto C (off := (-73)) (tgt := 6) (zdg dz_R_sum_1 19 rfl) (by decide) ?_
  exact vf_perm [1, 2, 0] rfl (hk6 _ _ _)
def f_R_sum_45 (rec : Nat → Int → Wd → Option (Int × Wd)) (k6 : Int → Int → Wd → Option (Int × Wd)) (v1 v2 s0 : Int) (w : Wd) : Option (Int × Wd) :=
  jlw (st w 43 20 (w32 ((w 43 20) + 1))) fun u9 =>
  jcall (rec 2 v1 u9) fun r10 u11 =>
  if s0 = 0 then
    f_R_sum_78 rec k6 v1 (w32 (v2 - r10)) u11
  else
    f_R_sum_78 rec k6 v1 (w32 (v2 + r10)) u11
theorem t_R_sum_45 {X : jX} {Qf : Int × Wd → State → Prop} {ad : Nat → Nat} (C : Cx X prog_14_method_26_code "EachBringsAnotherModel") (hn : xn X = 5) {dd : Nat} (hR : xR X = rmD (4 + dd + 1)) (hr : Rt X Qf ad prog_14_method_26_code 0) {rec : Nat → Int → Wd → Option (Int × Wd)} (hrec_held : ∀ (v1 : Int) (w : Wd), Ct y_R_held prog_14_method_25_code 3 (some .int) (4 + dd) 0 [(2, 44), (0, v1)] w (rec 0 v1 w)) (hrec_sum : ∀ (v1 : Int) (w : Wd), Ct y_R_sum prog_14_method_26_code 5 (some .int) (4 + dd) 0 [(2, 44), (0, v1)] w (rec 1 v1 w)) (hrec_product : ∀ (v1 : Int) (w : Wd), Ct y_R_product prog_14_method_27_code 5 (some .int) (4 + dd) 0 [(2, 44), (0, v1)] w (rec 2 v1 w)) (hrec_thing : ∀ (v1 : Int) (w : Wd), Ct y_R_thing prog_14_method_28_code 5 (some .int) (4 + dd) 0 [(2, 44), (0, v1)] w (rec 3 v1 w)) {k6 : Int → Int → Wd → Option (Int × Wd)} (hk6 : ∀ (v1 v2 : Int) (w : Wd), VF X Qf ad NF 0 0 w 6 [(0, (2, 44)), (1, (0, v1)), (2, (0, v2))] [] (k6 v1 v2 w)) (v1 v2 s0 : Int) (w : Wd) : VF X Qf ad NF 0 0 w 45 [(0, (2, 44)), (1, (0, v1)), (2, (0, v2))] [(0, s0)] (f_R_sum_45 rec k6 v1 v2 s0 w) := by
  unfold f_R_sum_45
  refine vf_istore_n C (f := 3) (L' := [(0, (2, 44)), (1, (0, v1)), (2, (0, v2))]) (zdg dz_R_sum_0 22 rfl) [0, 1, 2] (jrI rfl rfl) hn (by decide) rfl ?_
  refine vf_aload_n C (f := 0) (zdg dz_R_sum_0 23 rfl) 1 rfl rfl ?_
  refine vf_dup C (zdg dz_R_sum_1 0 rfl) (Nat.succ_ne_self 1) ?_
  refine vf_get C (kd := 0) fl_R_175 sh_43 rfl (by decide) rfl rfl (zdg dz_R_sum_1 1 rfl) ?_
  refine vf_iconst C (z := 1) (zdg dz_R_sum_1 2 rfl) (jz rfl) ?_
  refine vf_iadd C (zdg dz_R_sum_1 3 rfl) ?_
  refine vf_put C (kd := 0) fl_R_175 fk_11_20 sh_43 rfl (by decide) rfl rfl (by decide) (zdg dz_R_sum_1 4 rfl) ?_
  generalize st w 43 20 (w32 ((w 43 20) + 1)) = u9
  refine vf_uw ?_
  refine vf_aload_n C (f := 0) (zdg dz_R_sum_1 5 rfl) 1 rfl rfl ?_
  refine vf_iload_n C (f := 1) (zdg dz_R_sum_1 6 rfl) 2 rfl rfl ?_
  refine vf_callVi C cy_R_product ml_R_230 rfl (hrec_product _ _) (S := []) sh_43 (by decide) rfl (jrm_o hR (by omega) (by decide)) rfl rfl (Nat.le_of_ble_eq_true rfl) (zdg dz_R_sum_1 7 rfl) (fun r10 u11 => ?_)
  refine vf_istore C (i := 4) (L' := [(3, (0, s0)), (0, (2, 44)), (1, (0, v1)), (2, (0, v2))]) (zdg dz_R_sum_1 8 rfl) [0, 1, 2, 3] (jrI rfl rfl) hn (by decide) ?_
  refine vf_iload_n C (f := 3) (zdg dz_R_sum_1 9 rfl) 1 rfl rfl ?_
  refine vf_if_eq C (off := 10) (tgt := 74) (zdg dz_R_sum_1 10 rfl) (by decide) ?_ ?_
  · refine vf_iload_n C (f := 2) (zdg dz_R_sum_1 15 rfl) 4 rfl rfl ?_
    refine vf_iload C (zdg dz_R_sum_1 16 rfl) 0 rfl ?_
    refine vf_isub C (zdg dz_R_sum_1 17 rfl) ?_
    exact vf_perm [2, 3] rfl (t_R_sum_78 C hn hR hr hrec_held hrec_sum hrec_product hrec_thing hk6 _ _ _)
  · refine vf_iload_n C (f := 2) (zdg dz_R_sum_1 11 rfl) 4 rfl rfl ?_
    refine vf_iload C (zdg dz_R_sum_1 12 rfl) 0 rfl ?_
    refine vf_iadd C (zdg dz_R_sum_1 13 rfl) ?_
    refine vf_goto C (off := 7) (tgt := 78) (zdg dz_R_sum_1 14 rfl) (by decide) ?_
    exact vf_perm [2, 3] rfl (t_R_sum_78 C hn hR hr hrec_held hrec_sum hrec_product hrec_thing hk6 _ _ _)
def f_R_sum_31 (rec : Nat → Int → Wd → Option (Int × Wd)) (k6 : Int → Int → Wd → Option (Int × Wd)) (v1 v2 : Int) (w : Wd) : Option (Int × Wd) :=
  jcall (f_R_here w) fun r7 u8 =>
  if r7 = 43 then
    f_R_sum_45 rec k6 v1 v2 1 u8
  else
    f_R_sum_45 rec k6 v1 v2 0 u8
theorem t_R_sum_31 {X : jX} {Qf : Int × Wd → State → Prop} {ad : Nat → Nat} (C : Cx X prog_14_method_26_code "EachBringsAnotherModel") (hn : xn X = 5) {dd : Nat} (hR : xR X = rmD (4 + dd + 1)) (hr : Rt X Qf ad prog_14_method_26_code 0) {rec : Nat → Int → Wd → Option (Int × Wd)} (hrec_held : ∀ (v1 : Int) (w : Wd), Ct y_R_held prog_14_method_25_code 3 (some .int) (4 + dd) 0 [(2, 44), (0, v1)] w (rec 0 v1 w)) (hrec_sum : ∀ (v1 : Int) (w : Wd), Ct y_R_sum prog_14_method_26_code 5 (some .int) (4 + dd) 0 [(2, 44), (0, v1)] w (rec 1 v1 w)) (hrec_product : ∀ (v1 : Int) (w : Wd), Ct y_R_product prog_14_method_27_code 5 (some .int) (4 + dd) 0 [(2, 44), (0, v1)] w (rec 2 v1 w)) (hrec_thing : ∀ (v1 : Int) (w : Wd), Ct y_R_thing prog_14_method_28_code 5 (some .int) (4 + dd) 0 [(2, 44), (0, v1)] w (rec 3 v1 w)) {k6 : Int → Int → Wd → Option (Int × Wd)} (hk6 : ∀ (v1 v2 : Int) (w : Wd), VF X Qf ad NF 0 0 w 6 [(0, (2, 44)), (1, (0, v1)), (2, (0, v2))] [] (k6 v1 v2 w)) (v1 v2 : Int) (w : Wd) : VF X Qf ad NF 0 0 w 31 [(0, (2, 44)), (1, (0, v1)), (2, (0, v2))] [] (f_R_sum_31 rec k6 v1 v2 w) := by
  unfold f_R_sum_31
  refine vf_aload_n C (f := 0) (zdg dz_R_sum_0 15 rfl) 0 rfl rfl ?_
  refine vf_callVi C cy_R_here ml_R_185 rfl (ct_R_here _) (S := []) sh_43 (by decide) rfl (jrm_o hR (by omega) (by decide)) rfl rfl (Nat.le_of_ble_eq_true rfl) (zdg dz_R_sum_0 16 rfl) (fun r7 u8 => ?_)
  refine vf_bipush C (z := 43) (zdg dz_R_sum_0 17 rfl) (by decide +kernel) (jz rfl) ?_
  refine vf_icmp_ne C (off := 7) (tgt := 44) (zdg dz_R_sum_0 18 rfl) (by decide) ?_ ?_
  · refine vf_iconst C (z := 0) (zdg dz_R_sum_0 21 rfl) (jz rfl) ?_
    exact t_R_sum_45 C hn hR hr hrec_held hrec_sum hrec_product hrec_thing hk6 _ _ _ _
  · refine vf_iconst C (z := 1) (zdg dz_R_sum_0 19 rfl) (jz rfl) ?_
    refine vf_goto C (off := 4) (tgt := 45) (zdg dz_R_sum_0 20 rfl) (by decide) ?_
    exact t_R_sum_45 C hn hR hr hrec_held hrec_sum hrec_product hrec_thing hk6 _ _ _ _
def f_R_sum_6 (rec : Nat → Int → Wd → Option (Int × Wd)) : Nat → Int → Int → Wd → Option (Int × Wd)
  | 0, _, _, _ => none
  | n + 1, v1, v2, w =>
    jcall (f_R_fine w) fun r3 u4 =>
    if r3 = 0 then
      some (v2, u4)
    else
      jcall (f_R_here u4) fun r5 u6 =>
      if r5 = 43 then
        f_R_sum_31 rec (f_R_sum_6 rec n) v1 v2 u6
      else
        jcall (f_R_here u6) fun r12 u13 =>
        if r12 = 45 then
          f_R_sum_31 rec (f_R_sum_6 rec n) v1 v2 u13
        else
          some (v2, u13)
theorem t_R_sum_6 {X : jX} {Qf : Int × Wd → State → Prop} {ad : Nat → Nat} (C : Cx X prog_14_method_26_code "EachBringsAnotherModel") (hn : xn X = 5) {dd : Nat} (hR : xR X = rmD (4 + dd + 1)) (hr : Rt X Qf ad prog_14_method_26_code 0) {rec : Nat → Int → Wd → Option (Int × Wd)} (hrec_held : ∀ (v1 : Int) (w : Wd), Ct y_R_held prog_14_method_25_code 3 (some .int) (4 + dd) 0 [(2, 44), (0, v1)] w (rec 0 v1 w)) (hrec_sum : ∀ (v1 : Int) (w : Wd), Ct y_R_sum prog_14_method_26_code 5 (some .int) (4 + dd) 0 [(2, 44), (0, v1)] w (rec 1 v1 w)) (hrec_product : ∀ (v1 : Int) (w : Wd), Ct y_R_product prog_14_method_27_code 5 (some .int) (4 + dd) 0 [(2, 44), (0, v1)] w (rec 2 v1 w)) (hrec_thing : ∀ (v1 : Int) (w : Wd), Ct y_R_thing prog_14_method_28_code 5 (some .int) (4 + dd) 0 [(2, 44), (0, v1)] w (rec 3 v1 w)) : ∀ (n : Nat) (v1 v2 : Int) (w : Wd), VF X Qf ad NF 0 0 w 6 [(0, (2, 44)), (1, (0, v1)), (2, (0, v2))] [] (f_R_sum_6 rec n v1 v2 w) := by
  intro n
  induction n with
  | zero => intros; exact vf_no
  | succ n ih =>
    intro v1 v2 w
    rw [f_R_sum_6]
    refine vf_aload_n C (f := 0) (zdg dz_R_sum_0 4 rfl) 0 rfl rfl ?_
    refine vf_callVz C cy_R_fine ml_R_181 rfl (ct_R_fine _) (S := []) sh_43 (by decide) rfl (jrm_o hR (by omega) (by decide)) rfl rfl (Nat.le_of_ble_eq_true rfl) (zdg dz_R_sum_0 5 rfl) (fun r3 u4 => ?_)
    refine vf_if_eq C (off := 72) (tgt := 82) (zdg dz_R_sum_0 6 rfl) (by decide) ?_ ?_
    · refine vf_iload_n C (f := 2) (zdg dz_R_sum_1 20 rfl) 2 rfl rfl ?_
      exact hr _ _ _ _ (fun h => absurd h (by decide)) (zdg dz_R_sum_1 21 rfl)
    · refine vf_aload_n C (f := 0) (zdg dz_R_sum_0 7 rfl) 0 rfl rfl ?_
      refine vf_callVi C cy_R_here ml_R_185 rfl (ct_R_here _) (S := []) sh_43 (by decide) rfl (jrm_o hR (by omega) (by decide)) rfl rfl (Nat.le_of_ble_eq_true rfl) (zdg dz_R_sum_0 8 rfl) (fun r5 u6 => ?_)
      refine vf_bipush C (z := 43) (zdg dz_R_sum_0 9 rfl) (by decide +kernel) (jz rfl) ?_
      refine vf_icmp_eq C (off := 12) (tgt := 31) (zdg dz_R_sum_0 10 rfl) (by decide) ?_ ?_
      · exact t_R_sum_31 C hn hR hr hrec_held hrec_sum hrec_product hrec_thing ih _ _ _
      · refine vf_aload_n C (f := 0) (zdg dz_R_sum_0 11 rfl) 0 rfl rfl ?_
        refine vf_callVi C cy_R_here ml_R_185 rfl (ct_R_here _) (S := []) sh_43 (by decide) rfl (jrm_o hR (by omega) (by decide)) rfl rfl (Nat.le_of_ble_eq_true rfl) (zdg dz_R_sum_0 12 rfl) (fun r12 u13 => ?_)
        refine vf_bipush C (z := 45) (zdg dz_R_sum_0 13 rfl) (by decide +kernel) (jz rfl) ?_
        refine vf_icmp_ne C (off := 54) (tgt := 82) (zdg dz_R_sum_0 14 rfl) (by decide) ?_ ?_
        · refine vf_iload_n C (f := 2) (zdg dz_R_sum_1 20 rfl) 2 rfl rfl ?_
          exact hr _ _ _ _ (fun h => absurd h (by decide)) (zdg dz_R_sum_1 21 rfl)
        · exact t_R_sum_31 C hn hR hr hrec_held hrec_sum hrec_product hrec_thing ih _ _ _
def f_R_sum_b (rec : Nat → Int → Wd → Option (Int × Wd)) (v1 : Int) (w : Wd) : Option (Int × Wd) :=
  jcall (rec 2 v1 w) fun r1 u2 =>
  f_R_sum_6 rec FU v1 r1 u2
theorem ct_R_sum_b {dd : Nat} {rec : Nat → Int → Wd → Option (Int × Wd)} (hrec_held : ∀ (v1 : Int) (w : Wd), Ct y_R_held prog_14_method_25_code 3 (some .int) (4 + dd) 0 [(2, 44), (0, v1)] w (rec 0 v1 w)) (hrec_sum : ∀ (v1 : Int) (w : Wd), Ct y_R_sum prog_14_method_26_code 5 (some .int) (4 + dd) 0 [(2, 44), (0, v1)] w (rec 1 v1 w)) (hrec_product : ∀ (v1 : Int) (w : Wd), Ct y_R_product prog_14_method_27_code 5 (some .int) (4 + dd) 0 [(2, 44), (0, v1)] w (rec 2 v1 w)) (hrec_thing : ∀ (v1 : Int) (w : Wd), Ct y_R_thing prog_14_method_28_code 5 (some .int) (4 + dd) 0 [(2, 44), (0, v1)] w (rec 3 v1 w)) (v1 : Int) (w : Wd) : Ct y_R_sum prog_14_method_26_code 5 (some .int) (4 + dd + 1) 0 [(2, 44), (0, v1)] w (f_R_sum_b rec v1 w) := by
  refine ct_of (by decide +kernel) (Or.inl ⟨rfl, rfl⟩) (Nat.le_of_ble_eq_true rfl) ?_
  intro X Qf ad C hn hR hr
  unfold f_R_sum_b
  show VF X Qf ad NF 0 0 w 0 [(0, (2, 44)), (1, (0, v1))] [] _
  refine vf_aload_n C (f := 0) (zdg dz_R_sum_0 0 rfl) 0 rfl rfl ?_
  refine vf_iload_n C (f := 1) (zdg dz_R_sum_0 1 rfl) 1 rfl rfl ?_
  refine vf_callVi C cy_R_product ml_R_230 rfl (hrec_product _ _) (S := []) sh_43 (by decide) rfl (jrm_o hR (by omega) (by decide)) rfl rfl (Nat.le_of_ble_eq_true rfl) (zdg dz_R_sum_0 2 rfl) (fun r1 u2 => ?_)
  refine vf_istore_n C (f := 2) (L' := [(0, (2, 44)), (1, (0, v1))]) (zdg dz_R_sum_0 3 rfl) [0, 1] (jrI rfl rfl) hn (by decide) rfl ?_
  exact vf_perm [1, 2, 0] rfl (t_R_sum_6 C hn hR hr hrec_held hrec_sum hrec_product hrec_thing FU _ _ _)
def f_R_product_87 (rec : Nat → Int → Wd → Option (Int × Wd)) (k6 : Int → Int → Wd → Option (Int × Wd)) (v1 s0 : Int) (w : Wd) : Option (Int × Wd) :=
  k6 v1 s0 w
theorem t_R_product_87 {X : jX} {Qf : Int × Wd → State → Prop} {ad : Nat → Nat} (C : Cx X prog_14_method_27_code "EachBringsAnotherModel") (hn : xn X = 5) {dd : Nat} (hR : xR X = rmD (4 + dd + 1)) (hr : Rt X Qf ad prog_14_method_27_code 0) {rec : Nat → Int → Wd → Option (Int × Wd)} (hrec_held : ∀ (v1 : Int) (w : Wd), Ct y_R_held prog_14_method_25_code 3 (some .int) (4 + dd) 0 [(2, 44), (0, v1)] w (rec 0 v1 w)) (hrec_sum : ∀ (v1 : Int) (w : Wd), Ct y_R_sum prog_14_method_26_code 5 (some .int) (4 + dd) 0 [(2, 44), (0, v1)] w (rec 1 v1 w)) (hrec_product : ∀ (v1 : Int) (w : Wd), Ct y_R_product prog_14_method_27_code 5 (some .int) (4 + dd) 0 [(2, 44), (0, v1)] w (rec 2 v1 w)) (hrec_thing : ∀ (v1 : Int) (w : Wd), Ct y_R_thing prog_14_method_28_code 5 (some .int) (4 + dd) 0 [(2, 44), (0, v1)] w (rec 3 v1 w)) {k6 : Int → Int → Wd → Option (Int × Wd)} (hk6 : ∀ (v1 v2 : Int) (w : Wd), VF X Qf ad NF 0 0 w 6 [(0, (2, 44)), (1, (0, v1)), (2, (0, v2))] [] (k6 v1 v2 w)) (v1 s0 : Int) (w : Wd) : VF X Qf ad NF 0 0 w 87 [(0, (2, 44)), (1, (0, v1))] [(0, s0)] (f_R_product_87 rec k6 v1 s0 w) := by
  unfold f_R_product_87
  refine vf_istore_n C (f := 2) (L' := [(0, (2, 44)), (1, (0, v1))]) (zdg dz_R_product_1 22 rfl) [0, 1] (jrI rfl rfl) hn (by decide) rfl ?_
  refine vf_goto C (off := (-82)) (tgt := 6) (zdg dz_R_product_1 23 rfl) (by decide) ?_
  exact vf_perm [1, 2, 0] rfl (hk6 _ _ _)
def f_R_product_45 (rec : Nat → Int → Wd → Option (Int × Wd)) (k6 : Int → Int → Wd → Option (Int × Wd)) (v1 v2 s0 : Int) (w : Wd) : Option (Int × Wd) :=
  jlw (st w 43 20 (w32 ((w 43 20) + 1))) fun u9 =>
  jcall (rec 3 v1 u9) fun r10 u11 =>
  if s0 = 0 then
    if r10 = 0 then
      f_R_product_87 rec k6 v1 0 u11
    else
      if r10 = 0 then none else
      f_R_product_87 rec k6 v1 (idiv v2 r10) u11
  else
    f_R_product_87 rec k6 v1 (w32 (v2 * r10)) u11
theorem t_R_product_45 {X : jX} {Qf : Int × Wd → State → Prop} {ad : Nat → Nat} (C : Cx X prog_14_method_27_code "EachBringsAnotherModel") (hn : xn X = 5) {dd : Nat} (hR : xR X = rmD (4 + dd + 1)) (hr : Rt X Qf ad prog_14_method_27_code 0) {rec : Nat → Int → Wd → Option (Int × Wd)} (hrec_held : ∀ (v1 : Int) (w : Wd), Ct y_R_held prog_14_method_25_code 3 (some .int) (4 + dd) 0 [(2, 44), (0, v1)] w (rec 0 v1 w)) (hrec_sum : ∀ (v1 : Int) (w : Wd), Ct y_R_sum prog_14_method_26_code 5 (some .int) (4 + dd) 0 [(2, 44), (0, v1)] w (rec 1 v1 w)) (hrec_product : ∀ (v1 : Int) (w : Wd), Ct y_R_product prog_14_method_27_code 5 (some .int) (4 + dd) 0 [(2, 44), (0, v1)] w (rec 2 v1 w)) (hrec_thing : ∀ (v1 : Int) (w : Wd), Ct y_R_thing prog_14_method_28_code 5 (some .int) (4 + dd) 0 [(2, 44), (0, v1)] w (rec 3 v1 w)) {k6 : Int → Int → Wd → Option (Int × Wd)} (hk6 : ∀ (v1 v2 : Int) (w : Wd), VF X Qf ad NF 0 0 w 6 [(0, (2, 44)), (1, (0, v1)), (2, (0, v2))] [] (k6 v1 v2 w)) (v1 v2 s0 : Int) (w : Wd) : VF X Qf ad NF 0 0 w 45 [(0, (2, 44)), (1, (0, v1)), (2, (0, v2))] [(0, s0)] (f_R_product_45 rec k6 v1 v2 s0 w) := by
  unfold f_R_product_45
  refine vf_istore_n C (f := 3) (L' := [(0, (2, 44)), (1, (0, v1)), (2, (0, v2))]) (zdg dz_R_product_0 22 rfl) [0, 1, 2] (jrI rfl rfl) hn (by decide) rfl ?_
  refine vf_aload_n C (f := 0) (zdg dz_R_product_0 23 rfl) 1 rfl rfl ?_
  refine vf_dup C (zdg dz_R_product_1 0 rfl) (Nat.succ_ne_self 1) ?_
  refine vf_get C (kd := 0) fl_R_175 sh_43 rfl (by decide) rfl rfl (zdg dz_R_product_1 1 rfl) ?_
  refine vf_iconst C (z := 1) (zdg dz_R_product_1 2 rfl) (jz rfl) ?_
  refine vf_iadd C (zdg dz_R_product_1 3 rfl) ?_
  refine vf_put C (kd := 0) fl_R_175 fk_11_20 sh_43 rfl (by decide) rfl rfl (by decide) (zdg dz_R_product_1 4 rfl) ?_
  generalize st w 43 20 (w32 ((w 43 20) + 1)) = u9
  refine vf_uw ?_
  refine vf_aload_n C (f := 0) (zdg dz_R_product_1 5 rfl) 1 rfl rfl ?_
  refine vf_iload_n C (f := 1) (zdg dz_R_product_1 6 rfl) 2 rfl rfl ?_
  refine vf_callVi C cy_R_thing ml_R_233 rfl (hrec_thing _ _) (S := []) sh_43 (by decide) rfl (jrm_o hR (by omega) (by decide)) rfl rfl (Nat.le_of_ble_eq_true rfl) (zdg dz_R_product_1 7 rfl) (fun r10 u11 => ?_)
  refine vf_istore C (i := 4) (L' := [(3, (0, s0)), (0, (2, 44)), (1, (0, v1)), (2, (0, v2))]) (zdg dz_R_product_1 8 rfl) [0, 1, 2, 3] (jrI rfl rfl) hn (by decide) ?_
  refine vf_iload_n C (f := 3) (zdg dz_R_product_1 9 rfl) 1 rfl rfl ?_
  refine vf_if_eq C (off := 10) (tgt := 74) (zdg dz_R_product_1 10 rfl) (by decide) ?_ ?_
  · refine vf_iload C (zdg dz_R_product_1 15 rfl) 0 rfl ?_
    refine vf_if_ne C (off := 7) (tgt := 83) (zdg dz_R_product_1 16 rfl) (by decide) ?_ ?_
    · refine vf_iload_n C (f := 2) (zdg dz_R_product_1 19 rfl) 4 rfl rfl ?_
      refine vf_iload C (zdg dz_R_product_1 20 rfl) 0 rfl ?_
      refine vf_idiv C (zdg dz_R_product_1 21 rfl) ?_
      exact vf_perm [2, 3] rfl (t_R_product_87 C hn hR hr hrec_held hrec_sum hrec_product hrec_thing hk6 _ _ _)
    · refine vf_iconst C (z := 0) (zdg dz_R_product_1 17 rfl) (jz rfl) ?_
      refine vf_goto C (off := 7) (tgt := 87) (zdg dz_R_product_1 18 rfl) (by decide) ?_
      exact vf_perm [2, 3] rfl (t_R_product_87 C hn hR hr hrec_held hrec_sum hrec_product hrec_thing hk6 _ _ _)
  · refine vf_iload_n C (f := 2) (zdg dz_R_product_1 11 rfl) 4 rfl rfl ?_
    refine vf_iload C (zdg dz_R_product_1 12 rfl) 0 rfl ?_
    refine vf_imul C (zdg dz_R_product_1 13 rfl) ?_
    refine vf_goto C (off := 16) (tgt := 87) (zdg dz_R_product_1 14 rfl) (by decide) ?_
    exact vf_perm [2, 3] rfl (t_R_product_87 C hn hR hr hrec_held hrec_sum hrec_product hrec_thing hk6 _ _ _)
def f_R_product_31 (rec : Nat → Int → Wd → Option (Int × Wd)) (k6 : Int → Int → Wd → Option (Int × Wd)) (v1 v2 : Int) (w : Wd) : Option (Int × Wd) :=
  jcall (f_R_here w) fun r7 u8 =>
  if r7 = 42 then
    f_R_product_45 rec k6 v1 v2 1 u8
  else
    f_R_product_45 rec k6 v1 v2 0 u8
theorem t_R_product_31 {X : jX} {Qf : Int × Wd → State → Prop} {ad : Nat → Nat} (C : Cx X prog_14_method_27_code "EachBringsAnotherModel") (hn : xn X = 5) {dd : Nat} (hR : xR X = rmD (4 + dd + 1)) (hr : Rt X Qf ad prog_14_method_27_code 0) {rec : Nat → Int → Wd → Option (Int × Wd)} (hrec_held : ∀ (v1 : Int) (w : Wd), Ct y_R_held prog_14_method_25_code 3 (some .int) (4 + dd) 0 [(2, 44), (0, v1)] w (rec 0 v1 w)) (hrec_sum : ∀ (v1 : Int) (w : Wd), Ct y_R_sum prog_14_method_26_code 5 (some .int) (4 + dd) 0 [(2, 44), (0, v1)] w (rec 1 v1 w)) (hrec_product : ∀ (v1 : Int) (w : Wd), Ct y_R_product prog_14_method_27_code 5 (some .int) (4 + dd) 0 [(2, 44), (0, v1)] w (rec 2 v1 w)) (hrec_thing : ∀ (v1 : Int) (w : Wd), Ct y_R_thing prog_14_method_28_code 5 (some .int) (4 + dd) 0 [(2, 44), (0, v1)] w (rec 3 v1 w)) {k6 : Int → Int → Wd → Option (Int × Wd)} (hk6 : ∀ (v1 v2 : Int) (w : Wd), VF X Qf ad NF 0 0 w 6 [(0, (2, 44)), (1, (0, v1)), (2, (0, v2))] [] (k6 v1 v2 w)) (v1 v2 : Int) (w : Wd) : VF X Qf ad NF 0 0 w 31 [(0, (2, 44)), (1, (0, v1)), (2, (0, v2))] [] (f_R_product_31 rec k6 v1 v2 w) := by
  unfold f_R_product_31
  refine vf_aload_n C (f := 0) (zdg dz_R_product_0 15 rfl) 0 rfl rfl ?_
  refine vf_callVi C cy_R_here ml_R_185 rfl (ct_R_here _) (S := []) sh_43 (by decide) rfl (jrm_o hR (by omega) (by decide)) rfl rfl (Nat.le_of_ble_eq_true rfl) (zdg dz_R_product_0 16 rfl) (fun r7 u8 => ?_)
  refine vf_bipush C (z := 42) (zdg dz_R_product_0 17 rfl) (by decide +kernel) (jz rfl) ?_
  refine vf_icmp_ne C (off := 7) (tgt := 44) (zdg dz_R_product_0 18 rfl) (by decide) ?_ ?_
  · refine vf_iconst C (z := 0) (zdg dz_R_product_0 21 rfl) (jz rfl) ?_
    exact t_R_product_45 C hn hR hr hrec_held hrec_sum hrec_product hrec_thing hk6 _ _ _ _
  · refine vf_iconst C (z := 1) (zdg dz_R_product_0 19 rfl) (jz rfl) ?_
    refine vf_goto C (off := 4) (tgt := 45) (zdg dz_R_product_0 20 rfl) (by decide) ?_
    exact t_R_product_45 C hn hR hr hrec_held hrec_sum hrec_product hrec_thing hk6 _ _ _ _
def f_R_product_6 (rec : Nat → Int → Wd → Option (Int × Wd)) : Nat → Int → Int → Wd → Option (Int × Wd)
  | 0, _, _, _ => none
  | n + 1, v1, v2, w =>
    jcall (f_R_fine w) fun r3 u4 =>
    if r3 = 0 then
      some (v2, u4)
    else
      jcall (f_R_here u4) fun r5 u6 =>
      if r5 = 42 then
        f_R_product_31 rec (f_R_product_6 rec n) v1 v2 u6
      else
        jcall (f_R_here u6) fun r12 u13 =>
        if r12 = 47 then
          f_R_product_31 rec (f_R_product_6 rec n) v1 v2 u13
        else
          some (v2, u13)
theorem t_R_product_6 {X : jX} {Qf : Int × Wd → State → Prop} {ad : Nat → Nat} (C : Cx X prog_14_method_27_code "EachBringsAnotherModel") (hn : xn X = 5) {dd : Nat} (hR : xR X = rmD (4 + dd + 1)) (hr : Rt X Qf ad prog_14_method_27_code 0) {rec : Nat → Int → Wd → Option (Int × Wd)} (hrec_held : ∀ (v1 : Int) (w : Wd), Ct y_R_held prog_14_method_25_code 3 (some .int) (4 + dd) 0 [(2, 44), (0, v1)] w (rec 0 v1 w)) (hrec_sum : ∀ (v1 : Int) (w : Wd), Ct y_R_sum prog_14_method_26_code 5 (some .int) (4 + dd) 0 [(2, 44), (0, v1)] w (rec 1 v1 w)) (hrec_product : ∀ (v1 : Int) (w : Wd), Ct y_R_product prog_14_method_27_code 5 (some .int) (4 + dd) 0 [(2, 44), (0, v1)] w (rec 2 v1 w)) (hrec_thing : ∀ (v1 : Int) (w : Wd), Ct y_R_thing prog_14_method_28_code 5 (some .int) (4 + dd) 0 [(2, 44), (0, v1)] w (rec 3 v1 w)) : ∀ (n : Nat) (v1 v2 : Int) (w : Wd), VF X Qf ad NF 0 0 w 6 [(0, (2, 44)), (1, (0, v1)), (2, (0, v2))] [] (f_R_product_6 rec n v1 v2 w) := by
  intro n
  induction n with
  | zero => intros; exact vf_no
  | succ n ih =>
    intro v1 v2 w
    rw [f_R_product_6]
    refine vf_aload_n C (f := 0) (zdg dz_R_product_0 4 rfl) 0 rfl rfl ?_
    refine vf_callVz C cy_R_fine ml_R_181 rfl (ct_R_fine _) (S := []) sh_43 (by decide) rfl (jrm_o hR (by omega) (by decide)) rfl rfl (Nat.le_of_ble_eq_true rfl) (zdg dz_R_product_0 5 rfl) (fun r3 u4 => ?_)
    refine vf_if_eq C (off := 81) (tgt := 91) (zdg dz_R_product_0 6 rfl) (by decide) ?_ ?_
    · refine vf_iload_n C (f := 2) (zdg dz_R_product_2 0 rfl) 2 rfl rfl ?_
      exact hr _ _ _ _ (fun h => absurd h (by decide)) (zdg dz_R_product_2 1 rfl)
    · refine vf_aload_n C (f := 0) (zdg dz_R_product_0 7 rfl) 0 rfl rfl ?_
      refine vf_callVi C cy_R_here ml_R_185 rfl (ct_R_here _) (S := []) sh_43 (by decide) rfl (jrm_o hR (by omega) (by decide)) rfl rfl (Nat.le_of_ble_eq_true rfl) (zdg dz_R_product_0 8 rfl) (fun r5 u6 => ?_)
      refine vf_bipush C (z := 42) (zdg dz_R_product_0 9 rfl) (by decide +kernel) (jz rfl) ?_
      refine vf_icmp_eq C (off := 12) (tgt := 31) (zdg dz_R_product_0 10 rfl) (by decide) ?_ ?_
      · exact t_R_product_31 C hn hR hr hrec_held hrec_sum hrec_product hrec_thing ih _ _ _
      · refine vf_aload_n C (f := 0) (zdg dz_R_product_0 11 rfl) 0 rfl rfl ?_
        refine vf_callVi C cy_R_here ml_R_185 rfl (ct_R_here _) (S := []) sh_43 (by decide) rfl (jrm_o hR (by omega) (by decide)) rfl rfl (Nat.le_of_ble_eq_true rfl) (zdg dz_R_product_0 12 rfl) (fun r12 u13 => ?_)
        refine vf_bipush C (z := 47) (zdg dz_R_product_0 13 rfl) (by decide +kernel) (jz rfl) ?_
        refine vf_icmp_ne C (off := 63) (tgt := 91) (zdg dz_R_product_0 14 rfl) (by decide) ?_ ?_
        · refine vf_iload_n C (f := 2) (zdg dz_R_product_2 0 rfl) 2 rfl rfl ?_
          exact hr _ _ _ _ (fun h => absurd h (by decide)) (zdg dz_R_product_2 1 rfl)
        · exact t_R_product_31 C hn hR hr hrec_held hrec_sum hrec_product hrec_thing ih _ _ _
def f_R_product_b (rec : Nat → Int → Wd → Option (Int × Wd)) (v1 : Int) (w : Wd) : Option (Int × Wd) :=
  jcall (rec 3 v1 w) fun r1 u2 =>
  f_R_product_6 rec FU v1 r1 u2
theorem ct_R_product_b {dd : Nat} {rec : Nat → Int → Wd → Option (Int × Wd)} (hrec_held : ∀ (v1 : Int) (w : Wd), Ct y_R_held prog_14_method_25_code 3 (some .int) (4 + dd) 0 [(2, 44), (0, v1)] w (rec 0 v1 w)) (hrec_sum : ∀ (v1 : Int) (w : Wd), Ct y_R_sum prog_14_method_26_code 5 (some .int) (4 + dd) 0 [(2, 44), (0, v1)] w (rec 1 v1 w)) (hrec_product : ∀ (v1 : Int) (w : Wd), Ct y_R_product prog_14_method_27_code 5 (some .int) (4 + dd) 0 [(2, 44), (0, v1)] w (rec 2 v1 w)) (hrec_thing : ∀ (v1 : Int) (w : Wd), Ct y_R_thing prog_14_method_28_code 5 (some .int) (4 + dd) 0 [(2, 44), (0, v1)] w (rec 3 v1 w)) (v1 : Int) (w : Wd) : Ct y_R_product prog_14_method_27_code 5 (some .int) (4 + dd + 1) 0 [(2, 44), (0, v1)] w (f_R_product_b rec v1 w) := by
  refine ct_of (by decide +kernel) (Or.inl ⟨rfl, rfl⟩) (Nat.le_of_ble_eq_true rfl) ?_
  intro X Qf ad C hn hR hr
  unfold f_R_product_b
  show VF X Qf ad NF 0 0 w 0 [(0, (2, 44)), (1, (0, v1))] [] _
  refine vf_aload_n C (f := 0) (zdg dz_R_product_0 0 rfl) 0 rfl rfl ?_
  refine vf_iload_n C (f := 1) (zdg dz_R_product_0 1 rfl) 1 rfl rfl ?_
  refine vf_callVi C cy_R_thing ml_R_233 rfl (hrec_thing _ _) (S := []) sh_43 (by decide) rfl (jrm_o hR (by omega) (by decide)) rfl rfl (Nat.le_of_ble_eq_true rfl) (zdg dz_R_product_0 2 rfl) (fun r1 u2 => ?_)
  refine vf_istore_n C (f := 2) (L' := [(0, (2, 44)), (1, (0, v1))]) (zdg dz_R_product_0 3 rfl) [0, 1] (jrI rfl rfl) hn (by decide) rfl ?_
  exact vf_perm [1, 2, 0] rfl (t_R_product_6 C hn hR hr hrec_held hrec_sum hrec_product hrec_thing FU _ _ _)
def f_R_thing_203 (rec : Nat → Int → Wd → Option (Int × Wd)) (v2 : Int) (w : Wd) : Option (Int × Wd) :=
  jlw (st w 43 20 (w32 ((w 43 20) + 1))) fun u9 =>
  if (u9 43 28) = (-1) then
    some (0, u9)
  else
    jcall (f_R_letter v2 u9) fun r10 u11 =>
    some (r10, u11)
theorem t_R_thing_203 {X : jX} {Qf : Int × Wd → State → Prop} {ad : Nat → Nat} (C : Cx X prog_14_method_28_code "EachBringsAnotherModel") (hn : xn X = 5) {dd : Nat} (hR : xR X = rmD (4 + dd + 1)) (hr : Rt X Qf ad prog_14_method_28_code 0) {rec : Nat → Int → Wd → Option (Int × Wd)} (hrec_held : ∀ (v1 : Int) (w : Wd), Ct y_R_held prog_14_method_25_code 3 (some .int) (4 + dd) 0 [(2, 44), (0, v1)] w (rec 0 v1 w)) (hrec_sum : ∀ (v1 : Int) (w : Wd), Ct y_R_sum prog_14_method_26_code 5 (some .int) (4 + dd) 0 [(2, 44), (0, v1)] w (rec 1 v1 w)) (hrec_product : ∀ (v1 : Int) (w : Wd), Ct y_R_product prog_14_method_27_code 5 (some .int) (4 + dd) 0 [(2, 44), (0, v1)] w (rec 2 v1 w)) (hrec_thing : ∀ (v1 : Int) (w : Wd), Ct y_R_thing prog_14_method_28_code 5 (some .int) (4 + dd) 0 [(2, 44), (0, v1)] w (rec 3 v1 w)) (v2 : Int) (w : Wd) : VF X Qf ad NF 0 0 w 203 [(0, (2, 44)), (2, (0, v2))] [] (f_R_thing_203 rec v2 w) := by
  unfold f_R_thing_203
  refine vf_aload_n C (f := 0) (zdg dz_R_thing_4 16 rfl) 0 rfl rfl ?_
  refine vf_dup C (zdg dz_R_thing_4 17 rfl) (Nat.succ_ne_self 1) ?_
  refine vf_get C (kd := 0) fl_R_175 sh_43 rfl (by decide) rfl rfl (zdg dz_R_thing_4 18 rfl) ?_
  refine vf_iconst C (z := 1) (zdg dz_R_thing_4 19 rfl) (jz rfl) ?_
  refine vf_iadd C (zdg dz_R_thing_4 20 rfl) ?_
  refine vf_put C (kd := 0) fl_R_175 fk_11_20 sh_43 rfl (by decide) rfl rfl (by decide) (zdg dz_R_thing_4 21 rfl) ?_
  generalize st w 43 20 (w32 ((w 43 20) + 1)) = u9
  refine vf_uw ?_
  refine vf_aload_n C (f := 0) (zdg dz_R_thing_4 22 rfl) 0 rfl rfl ?_
  refine vf_get C (kd := 0) fl_R_61 sh_43 rfl (by decide) rfl rfl (zdg dz_R_thing_4 23 rfl) ?_
  refine vf_iconst C (z := (-1)) (zdg dz_R_thing_5 0 rfl) (jz rfl) ?_
  refine vf_icmp_ne C (off := 7) (tgt := 225) (zdg dz_R_thing_5 1 rfl) (by decide) ?_ ?_
  · refine vf_aload_n C (f := 0) (zdg dz_R_thing_5 4 rfl) 0 rfl rfl ?_
    refine vf_iload_n C (f := 2) (zdg dz_R_thing_5 5 rfl) 1 rfl rfl ?_
    refine vf_callVi C cy_R_letter ml_R_239 rfl (ct_R_letter _ _) (S := []) sh_43 (by decide) rfl (jrm_o hR (by omega) (by decide)) rfl rfl (Nat.le_of_ble_eq_true rfl) (zdg dz_R_thing_5 6 rfl) (fun r10 u11 => ?_)
    exact hr _ _ _ _ (fun h => absurd h (by decide)) (zdg dz_R_thing_5 7 rfl)
  · refine vf_iconst C (z := 0) (zdg dz_R_thing_5 2 rfl) (jz rfl) ?_
    refine vf_goto C (off := 8) (tgt := 230) (zdg dz_R_thing_5 3 rfl) (by decide) ?_
    exact hr _ _ _ _ (fun h => absurd h (by decide)) (zdg dz_R_thing_5 7 rfl)
def f_R_thing_94 (rec : Nat → Int → Wd → Option (Int × Wd)) : Nat → Int → Int → Wd → Option (Int × Wd)
  | 0, _, _, _ => none
  | n + 1, v3, v4, w =>
    if (3 : Int) ≤ v4 then
      some (v3, w)
    else
      jcall (f_R_here w) fun r14 u15 =>
      jcall (f_R_in r14 48 57 u15) fun r16 u17 =>
      if r16 = 0 then
        some (v3, u17)
      else
        jcall (f_R_here u17) fun r18 u19 =>
        jlet (w32 ((w32 ((w32 (10 * v3)) + r18)) - 48)) fun x20 =>
        jlw (st u19 43 20 (w32 ((u19 43 20) + 1))) fun u21 =>
        jlet (w32 (v4 + 1)) fun x22 =>
        f_R_thing_94 rec n x20 x22 u21
theorem t_R_thing_94 {X : jX} {Qf : Int × Wd → State → Prop} {ad : Nat → Nat} (C : Cx X prog_14_method_28_code "EachBringsAnotherModel") (hn : xn X = 5) {dd : Nat} (hR : xR X = rmD (4 + dd + 1)) (hr : Rt X Qf ad prog_14_method_28_code 0) {rec : Nat → Int → Wd → Option (Int × Wd)} (hrec_held : ∀ (v1 : Int) (w : Wd), Ct y_R_held prog_14_method_25_code 3 (some .int) (4 + dd) 0 [(2, 44), (0, v1)] w (rec 0 v1 w)) (hrec_sum : ∀ (v1 : Int) (w : Wd), Ct y_R_sum prog_14_method_26_code 5 (some .int) (4 + dd) 0 [(2, 44), (0, v1)] w (rec 1 v1 w)) (hrec_product : ∀ (v1 : Int) (w : Wd), Ct y_R_product prog_14_method_27_code 5 (some .int) (4 + dd) 0 [(2, 44), (0, v1)] w (rec 2 v1 w)) (hrec_thing : ∀ (v1 : Int) (w : Wd), Ct y_R_thing prog_14_method_28_code 5 (some .int) (4 + dd) 0 [(2, 44), (0, v1)] w (rec 3 v1 w)) : ∀ (n : Nat) (v3 v4 : Int) (w : Wd), VF X Qf ad NF 0 0 w 94 [(0, (2, 44)), (3, (0, v3)), (4, (0, v4))] [] (f_R_thing_94 rec n v3 v4 w) := by
  intro n
  induction n with
  | zero => intros; exact vf_no
  | succ n ih =>
    intro v3 v4 w
    rw [f_R_thing_94]
    refine vf_iload C (zdg dz_R_thing_2 6 rfl) 2 rfl ?_
    refine vf_iconst C (z := 3) (zdg dz_R_thing_2 7 rfl) (jz rfl) ?_
    refine vf_icmp_ge C (off := 46) (tgt := 143) (zdg dz_R_thing_2 8 rfl) (by decide) ?_ ?_
    · refine vf_iload_n C (f := 3) (zdg dz_R_thing_3 8 rfl) 1 rfl rfl ?_
      exact hr _ _ _ _ (fun h => absurd h (by decide)) (zdg dz_R_thing_3 9 rfl)
    · refine vf_aload_n C (f := 0) (zdg dz_R_thing_2 9 rfl) 0 rfl rfl ?_
      refine vf_callVi C cy_R_here ml_R_185 rfl (ct_R_here _) (S := []) sh_43 (by decide) rfl (jrm_o hR (by omega) (by decide)) rfl rfl (Nat.le_of_ble_eq_true rfl) (zdg dz_R_thing_2 10 rfl) (fun r14 u15 => ?_)
      refine vf_bipush C (z := 48) (zdg dz_R_thing_2 11 rfl) (by decide +kernel) (jz rfl) ?_
      refine vf_bipush C (z := 57) (zdg dz_R_thing_2 12 rfl) (by decide +kernel) (jz rfl) ?_
      refine vf_callSz C cy_R_in ml_R_147 (ct_R_in _ _ _ _) (S := []) (jrm_o hR (by omega) (by decide)) rfl rfl (Nat.le_of_ble_eq_true rfl) (zdg dz_R_thing_2 13 rfl) (fun r16 u17 => ?_)
      refine vf_if_eq C (off := 32) (tgt := 143) (zdg dz_R_thing_2 14 rfl) (by decide) ?_ ?_
      · refine vf_iload_n C (f := 3) (zdg dz_R_thing_3 8 rfl) 1 rfl rfl ?_
        exact hr _ _ _ _ (fun h => absurd h (by decide)) (zdg dz_R_thing_3 9 rfl)
      · refine vf_bipush C (z := 10) (zdg dz_R_thing_2 15 rfl) (by decide +kernel) (jz rfl) ?_
        refine vf_iload_n C (f := 3) (zdg dz_R_thing_2 16 rfl) 1 rfl rfl ?_
        refine vf_imul C (zdg dz_R_thing_2 17 rfl) ?_
        refine vf_aload_n C (f := 0) (zdg dz_R_thing_2 18 rfl) 0 rfl rfl ?_
        refine vf_callVi C cy_R_here ml_R_185 rfl (ct_R_here _) (S := [(0, w32 (10 * v3))]) sh_43 (by decide) rfl (jrm_o hR (by omega) (by decide)) rfl rfl (Nat.le_of_ble_eq_true rfl) (zdg dz_R_thing_2 19 rfl) (fun r18 u19 => ?_)
        refine vf_iadd C (zdg dz_R_thing_2 20 rfl) ?_
        refine vf_bipush C (z := 48) (zdg dz_R_thing_2 21 rfl) (by decide +kernel) (jz rfl) ?_
        refine vf_isub C (zdg dz_R_thing_2 22 rfl) ?_
        generalize w32 ((w32 ((w32 (10 * v3)) + r18)) - 48) = x20
        refine vf_ul ?_
        refine vf_istore_n C (f := 3) (L' := [(0, (2, 44)), (4, (0, v4))]) (zdg dz_R_thing_2 23 rfl) [0, 2] (jrI rfl rfl) hn (by decide) rfl ?_
        refine vf_aload_n C (f := 0) (zdg dz_R_thing_3 0 rfl) 1 rfl rfl ?_
        refine vf_dup C (zdg dz_R_thing_3 1 rfl) (Nat.succ_ne_self 1) ?_
        refine vf_get C (kd := 0) fl_R_175 sh_43 rfl (by decide) rfl rfl (zdg dz_R_thing_3 2 rfl) ?_
        refine vf_iconst C (z := 1) (zdg dz_R_thing_3 3 rfl) (jz rfl) ?_
        refine vf_iadd C (zdg dz_R_thing_3 4 rfl) ?_
        refine vf_put C (kd := 0) fl_R_175 fk_11_20 sh_43 rfl (by decide) rfl rfl (by decide) (zdg dz_R_thing_3 5 rfl) ?_
        generalize st u19 43 20 (w32 ((u19 43 20) + 1)) = u21
        refine vf_uw ?_
        refine vf_iinc C (z := 1) (L' := [(3, (0, x20)), (0, (2, 44))]) (zdg dz_R_thing_3 6 rfl) 2 rfl [0, 1] (jrI rfl rfl) hn (by decide) ?_
        generalize w32 (v4 + 1) = x22
        refine vf_ul ?_
        refine vf_goto C (off := (-46)) (tgt := 94) (zdg dz_R_thing_3 7 rfl) (by decide) ?_
        exact vf_perm [2, 1, 0] rfl (ih _ _ _)
def f_R_thing_78 (rec : Nat → Int → Wd → Option (Int × Wd)) (v2 : Int) (w : Wd) : Option (Int × Wd) :=
  jcall (f_R_in v2 48 57 w) fun r7 u8 =>
  if r7 = 0 then
    if v2 = 105 then
      f_R_thing_203 rec v2 u8
    else
      if v2 = 112 then
        f_R_thing_203 rec v2 u8
      else
        if v2 = 107 then
          f_R_thing_203 rec v2 u8
        else
          if v2 = 115 then
            f_R_thing_203 rec v2 u8
          else
            if v2 = 103 then
              f_R_thing_203 rec v2 u8
            else
              if v2 = 108 then
                f_R_thing_203 rec v2 u8
              else
                if v2 = 110 then
                  f_R_thing_203 rec v2 u8
                else
                  if v2 = 119 then
                    f_R_thing_203 rec v2 u8
                  else
                    jcall (f_R_fault (u8 43 20) u8) fun r12 u13 =>
                    some (0, u13)
  else
    f_R_thing_94 rec FU 0 0 u8
theorem t_R_thing_78 {X : jX} {Qf : Int × Wd → State → Prop} {ad : Nat → Nat} (C : Cx X prog_14_method_28_code "EachBringsAnotherModel") (hn : xn X = 5) {dd : Nat} (hR : xR X = rmD (4 + dd + 1)) (hr : Rt X Qf ad prog_14_method_28_code 0) {rec : Nat → Int → Wd → Option (Int × Wd)} (hrec_held : ∀ (v1 : Int) (w : Wd), Ct y_R_held prog_14_method_25_code 3 (some .int) (4 + dd) 0 [(2, 44), (0, v1)] w (rec 0 v1 w)) (hrec_sum : ∀ (v1 : Int) (w : Wd), Ct y_R_sum prog_14_method_26_code 5 (some .int) (4 + dd) 0 [(2, 44), (0, v1)] w (rec 1 v1 w)) (hrec_product : ∀ (v1 : Int) (w : Wd), Ct y_R_product prog_14_method_27_code 5 (some .int) (4 + dd) 0 [(2, 44), (0, v1)] w (rec 2 v1 w)) (hrec_thing : ∀ (v1 : Int) (w : Wd), Ct y_R_thing prog_14_method_28_code 5 (some .int) (4 + dd) 0 [(2, 44), (0, v1)] w (rec 3 v1 w)) (v2 : Int) (w : Wd) : VF X Qf ad NF 0 0 w 78 [(0, (2, 44)), (2, (0, v2))] [] (f_R_thing_78 rec v2 w) := by
  unfold f_R_thing_78
  refine vf_iload_n C (f := 2) (zdg dz_R_thing_1 21 rfl) 1 rfl rfl ?_
  refine vf_bipush C (z := 48) (zdg dz_R_thing_1 22 rfl) (by decide +kernel) (jz rfl) ?_
  refine vf_bipush C (z := 57) (zdg dz_R_thing_1 23 rfl) (by decide +kernel) (jz rfl) ?_
  refine vf_callSz C cy_R_in ml_R_147 (ct_R_in _ _ _ _) (S := []) (jrm_o hR (by omega) (by decide)) rfl rfl (Nat.le_of_ble_eq_true rfl) (zdg dz_R_thing_2 0 rfl) (fun r7 u8 => ?_)
  refine vf_if_eq C (off := 59) (tgt := 145) (zdg dz_R_thing_2 1 rfl) (by decide) ?_ ?_
  · refine vf_iload_n C (f := 2) (zdg dz_R_thing_3 10 rfl) 1 rfl rfl ?_
    refine vf_bipush C (z := 105) (zdg dz_R_thing_3 11 rfl) (by decide +kernel) (jz rfl) ?_
    refine vf_icmp_eq C (off := 55) (tgt := 203) (zdg dz_R_thing_3 12 rfl) (by decide) ?_ ?_
    · exact t_R_thing_203 C hn hR hr hrec_held hrec_sum hrec_product hrec_thing _ _
    · refine vf_iload_n C (f := 2) (zdg dz_R_thing_3 13 rfl) 1 rfl rfl ?_
      refine vf_bipush C (z := 112) (zdg dz_R_thing_3 14 rfl) (by decide +kernel) (jz rfl) ?_
      refine vf_icmp_eq C (off := 49) (tgt := 203) (zdg dz_R_thing_3 15 rfl) (by decide) ?_ ?_
      · exact t_R_thing_203 C hn hR hr hrec_held hrec_sum hrec_product hrec_thing _ _
      · refine vf_iload_n C (f := 2) (zdg dz_R_thing_3 16 rfl) 1 rfl rfl ?_
        refine vf_bipush C (z := 107) (zdg dz_R_thing_3 17 rfl) (by decide +kernel) (jz rfl) ?_
        refine vf_icmp_eq C (off := 43) (tgt := 203) (zdg dz_R_thing_3 18 rfl) (by decide) ?_ ?_
        · exact t_R_thing_203 C hn hR hr hrec_held hrec_sum hrec_product hrec_thing _ _
        · refine vf_iload_n C (f := 2) (zdg dz_R_thing_3 19 rfl) 1 rfl rfl ?_
          refine vf_bipush C (z := 115) (zdg dz_R_thing_3 20 rfl) (by decide +kernel) (jz rfl) ?_
          refine vf_icmp_eq C (off := 37) (tgt := 203) (zdg dz_R_thing_3 21 rfl) (by decide) ?_ ?_
          · exact t_R_thing_203 C hn hR hr hrec_held hrec_sum hrec_product hrec_thing _ _
          · refine vf_iload_n C (f := 2) (zdg dz_R_thing_3 22 rfl) 1 rfl rfl ?_
            refine vf_bipush C (z := 103) (zdg dz_R_thing_3 23 rfl) (by decide +kernel) (jz rfl) ?_
            refine vf_icmp_eq C (off := 31) (tgt := 203) (zdg dz_R_thing_4 0 rfl) (by decide) ?_ ?_
            · exact t_R_thing_203 C hn hR hr hrec_held hrec_sum hrec_product hrec_thing _ _
            · refine vf_iload_n C (f := 2) (zdg dz_R_thing_4 1 rfl) 1 rfl rfl ?_
              refine vf_bipush C (z := 108) (zdg dz_R_thing_4 2 rfl) (by decide +kernel) (jz rfl) ?_
              refine vf_icmp_eq C (off := 25) (tgt := 203) (zdg dz_R_thing_4 3 rfl) (by decide) ?_ ?_
              · exact t_R_thing_203 C hn hR hr hrec_held hrec_sum hrec_product hrec_thing _ _
              · refine vf_iload_n C (f := 2) (zdg dz_R_thing_4 4 rfl) 1 rfl rfl ?_
                refine vf_bipush C (z := 110) (zdg dz_R_thing_4 5 rfl) (by decide +kernel) (jz rfl) ?_
                refine vf_icmp_eq C (off := 19) (tgt := 203) (zdg dz_R_thing_4 6 rfl) (by decide) ?_ ?_
                · exact t_R_thing_203 C hn hR hr hrec_held hrec_sum hrec_product hrec_thing _ _
                · refine vf_iload_n C (f := 2) (zdg dz_R_thing_4 7 rfl) 1 rfl rfl ?_
                  refine vf_bipush C (z := 119) (zdg dz_R_thing_4 8 rfl) (by decide +kernel) (jz rfl) ?_
                  refine vf_icmp_eq C (off := 13) (tgt := 203) (zdg dz_R_thing_4 9 rfl) (by decide) ?_ ?_
                  · exact t_R_thing_203 C hn hR hr hrec_held hrec_sum hrec_product hrec_thing _ _
                  · refine vf_aload_n C (f := 0) (zdg dz_R_thing_4 10 rfl) 0 rfl rfl ?_
                    refine vf_aload_n C (f := 0) (zdg dz_R_thing_4 11 rfl) 0 rfl rfl ?_
                    refine vf_get C (kd := 0) fl_R_175 sh_43 rfl (by decide) rfl rfl (zdg dz_R_thing_4 12 rfl) ?_
                    refine vf_callVv C cy_R_fault ml_R_192 rfl (ct_R_fault _ _) (S := []) sh_43 (by decide) rfl (jrm_o hR (by omega) (by decide)) rfl rfl (Nat.le_of_ble_eq_true rfl) (zdg dz_R_thing_4 13 rfl) (fun r12 u13 => ?_)
                    refine vf_iconst C (z := 0) (zdg dz_R_thing_4 14 rfl) (jz rfl) ?_
                    exact hr _ _ _ _ (fun h => absurd h (by decide)) (zdg dz_R_thing_4 15 rfl)
  · refine vf_iconst C (z := 0) (zdg dz_R_thing_2 2 rfl) (jz rfl) ?_
    refine vf_istore_n C (f := 3) (L' := [(0, (2, 44))]) (zdg dz_R_thing_2 3 rfl) [0] (jrI rfl rfl) hn (by decide) rfl ?_
    refine vf_iconst C (z := 0) (zdg dz_R_thing_2 4 rfl) (jz rfl) ?_
    refine vf_istore C (i := 4) (L' := [(3, (0, 0)), (0, (2, 44))]) (zdg dz_R_thing_2 5 rfl) [0, 1] (jrI rfl rfl) hn (by decide) ?_
    exact vf_perm [2, 1, 0] rfl (t_R_thing_94 C hn hR hr hrec_held hrec_sum hrec_product hrec_thing FU _ _ _)
def f_R_thing_b (rec : Nat → Int → Wd → Option (Int × Wd)) (v1 : Int) (w : Wd) : Option (Int × Wd) :=
  jcall (f_R_passes 45 w) fun r1 u2 =>
  if r1 = 0 then
    jcall (f_R_fine u2) fun r3 u4 =>
    if r3 = 0 then
      some (0, u4)
    else
      jcall (f_R_here u4) fun r5 u6 =>
      if r5 = 40 then
        if (4 : Int) ≤ v1 then
          f_R_thing_78 rec r5 u6
        else
          jlw (st u6 43 20 (w32 ((u6 43 20) + 1))) fun u23 =>
          jcall (rec 0 (w32 (v1 + 1)) u23) fun r24 u25 =>
          jcall (f_R_passes 41 u25) fun r26 u27 =>
          if r26 = 0 then
            jcall (f_R_fault (u27 43 20) u27) fun r28 u29 =>
            some (r24, u29)
          else
            some (r24, u27)
      else
        f_R_thing_78 rec r5 u6
  else
    jcall (rec 3 v1 u2) fun r30 u31 =>
    some (w32 (-r30), u31)
theorem ct_R_thing_b {dd : Nat} {rec : Nat → Int → Wd → Option (Int × Wd)} (hrec_held : ∀ (v1 : Int) (w : Wd), Ct y_R_held prog_14_method_25_code 3 (some .int) (4 + dd) 0 [(2, 44), (0, v1)] w (rec 0 v1 w)) (hrec_sum : ∀ (v1 : Int) (w : Wd), Ct y_R_sum prog_14_method_26_code 5 (some .int) (4 + dd) 0 [(2, 44), (0, v1)] w (rec 1 v1 w)) (hrec_product : ∀ (v1 : Int) (w : Wd), Ct y_R_product prog_14_method_27_code 5 (some .int) (4 + dd) 0 [(2, 44), (0, v1)] w (rec 2 v1 w)) (hrec_thing : ∀ (v1 : Int) (w : Wd), Ct y_R_thing prog_14_method_28_code 5 (some .int) (4 + dd) 0 [(2, 44), (0, v1)] w (rec 3 v1 w)) (v1 : Int) (w : Wd) : Ct y_R_thing prog_14_method_28_code 5 (some .int) (4 + dd + 1) 0 [(2, 44), (0, v1)] w (f_R_thing_b rec v1 w) := by
  refine ct_of (by decide +kernel) (Or.inl ⟨rfl, rfl⟩) (Nat.le_of_ble_eq_true rfl) ?_
  intro X Qf ad C hn hR hr
  unfold f_R_thing_b
  show VF X Qf ad NF 0 0 w 0 [(0, (2, 44)), (1, (0, v1))] [] _
  refine vf_aload_n C (f := 0) (zdg dz_R_thing_0 0 rfl) 0 rfl rfl ?_
  refine vf_bipush C (z := 45) (zdg dz_R_thing_0 1 rfl) (by decide +kernel) (jz rfl) ?_
  refine vf_callVz C cy_R_passes ml_R_199 rfl (ct_R_passes _ _) (S := []) sh_43 (by decide) rfl (jrm_o hR (by omega) (by decide)) rfl rfl (Nat.le_of_ble_eq_true rfl) (zdg dz_R_thing_0 2 rfl) (fun r1 u2 => ?_)
  refine vf_if_eq C (off := 10) (tgt := 16) (zdg dz_R_thing_0 3 rfl) (by decide) ?_ ?_
  · refine vf_aload_n C (f := 0) (zdg dz_R_thing_0 9 rfl) 0 rfl rfl ?_
    refine vf_callVz C cy_R_fine ml_R_181 rfl (ct_R_fine _) (S := []) sh_43 (by decide) rfl (jrm_o hR (by omega) (by decide)) rfl rfl (Nat.le_of_ble_eq_true rfl) (zdg dz_R_thing_0 10 rfl) (fun r3 u4 => ?_)
    refine vf_if_ne C (off := 5) (tgt := 25) (zdg dz_R_thing_0 11 rfl) (by decide) ?_ ?_
    · refine vf_aload_n C (f := 0) (zdg dz_R_thing_0 14 rfl) 0 rfl rfl ?_
      refine vf_callVi C cy_R_here ml_R_185 rfl (ct_R_here _) (S := []) sh_43 (by decide) rfl (jrm_o hR (by omega) (by decide)) rfl rfl (Nat.le_of_ble_eq_true rfl) (zdg dz_R_thing_0 15 rfl) (fun r5 u6 => ?_)
      refine vf_istore_n C (f := 2) (L' := [(0, (2, 44)), (1, (0, v1))]) (zdg dz_R_thing_0 16 rfl) [0, 1] (jrI rfl rfl) hn (by decide) rfl ?_
      refine vf_iload_n C (f := 2) (zdg dz_R_thing_0 17 rfl) 0 rfl rfl ?_
      refine vf_bipush C (z := 40) (zdg dz_R_thing_0 18 rfl) (by decide +kernel) (jz rfl) ?_
      refine vf_icmp_ne C (off := 45) (tgt := 78) (zdg dz_R_thing_0 19 rfl) (by decide) ?_ ?_
      · exact vf_perm [1, 0] rfl (t_R_thing_78 C hn hR hr hrec_held hrec_sum hrec_product hrec_thing _ _)
      · refine vf_iload_n C (f := 1) (zdg dz_R_thing_0 20 rfl) 2 rfl rfl ?_
        refine vf_iconst C (z := 4) (zdg dz_R_thing_0 21 rfl) (jz rfl) ?_
        refine vf_icmp_ge C (off := 40) (tgt := 78) (zdg dz_R_thing_0 22 rfl) (by decide) ?_ ?_
        · exact vf_perm [1, 0] rfl (t_R_thing_78 C hn hR hr hrec_held hrec_sum hrec_product hrec_thing _ _)
        · refine vf_aload_n C (f := 0) (zdg dz_R_thing_0 23 rfl) 1 rfl rfl ?_
          refine vf_dup C (zdg dz_R_thing_1 0 rfl) (Nat.succ_ne_self 1) ?_
          refine vf_get C (kd := 0) fl_R_175 sh_43 rfl (by decide) rfl rfl (zdg dz_R_thing_1 1 rfl) ?_
          refine vf_iconst C (z := 1) (zdg dz_R_thing_1 2 rfl) (jz rfl) ?_
          refine vf_iadd C (zdg dz_R_thing_1 3 rfl) ?_
          refine vf_put C (kd := 0) fl_R_175 fk_11_20 sh_43 rfl (by decide) rfl rfl (by decide) (zdg dz_R_thing_1 4 rfl) ?_
          generalize st u6 43 20 (w32 ((u6 43 20) + 1)) = u23
          refine vf_uw ?_
          refine vf_aload_n C (f := 0) (zdg dz_R_thing_1 5 rfl) 1 rfl rfl ?_
          refine vf_iload_n C (f := 1) (zdg dz_R_thing_1 6 rfl) 2 rfl rfl ?_
          refine vf_iconst C (z := 1) (zdg dz_R_thing_1 7 rfl) (jz rfl) ?_
          refine vf_iadd C (zdg dz_R_thing_1 8 rfl) ?_
          refine vf_callVi C cy_R_held ml_R_236 rfl (hrec_held _ _) (S := []) sh_43 (by decide) rfl (jrm_o hR (by omega) (by decide)) rfl rfl (Nat.le_of_ble_eq_true rfl) (zdg dz_R_thing_1 9 rfl) (fun r24 u25 => ?_)
          refine vf_istore_n C (f := 3) (L' := [(0, (2, 44))]) (zdg dz_R_thing_1 10 rfl) [1] (jrI rfl rfl) hn (by decide) rfl ?_
          refine vf_aload_n C (f := 0) (zdg dz_R_thing_1 11 rfl) 1 rfl rfl ?_
          refine vf_bipush C (z := 41) (zdg dz_R_thing_1 12 rfl) (by decide +kernel) (jz rfl) ?_
          refine vf_callVz C cy_R_passes ml_R_199 rfl (ct_R_passes _ _) (S := []) sh_43 (by decide) rfl (jrm_o hR (by omega) (by decide)) rfl rfl (Nat.le_of_ble_eq_true rfl) (zdg dz_R_thing_1 13 rfl) (fun r26 u27 => ?_)
          refine vf_if_ne C (off := 11) (tgt := 76) (zdg dz_R_thing_1 14 rfl) (by decide) ?_ ?_
          · refine vf_iload_n C (f := 3) (zdg dz_R_thing_1 19 rfl) 0 rfl rfl ?_
            exact hr _ _ _ _ (fun h => absurd h (by decide)) (zdg dz_R_thing_1 20 rfl)
          · refine vf_aload_n C (f := 0) (zdg dz_R_thing_1 15 rfl) 1 rfl rfl ?_
            refine vf_aload_n C (f := 0) (zdg dz_R_thing_1 16 rfl) 1 rfl rfl ?_
            refine vf_get C (kd := 0) fl_R_175 sh_43 rfl (by decide) rfl rfl (zdg dz_R_thing_1 17 rfl) ?_
            refine vf_callVv C cy_R_fault ml_R_192 rfl (ct_R_fault _ _) (S := []) sh_43 (by decide) rfl (jrm_o hR (by omega) (by decide)) rfl rfl (Nat.le_of_ble_eq_true rfl) (zdg dz_R_thing_1 18 rfl) (fun r28 u29 => ?_)
            refine vf_iload_n C (f := 3) (zdg dz_R_thing_1 19 rfl) 0 rfl rfl ?_
            exact hr _ _ _ _ (fun h => absurd h (by decide)) (zdg dz_R_thing_1 20 rfl)
    · refine vf_iconst C (z := 0) (zdg dz_R_thing_0 12 rfl) (jz rfl) ?_
      exact hr _ _ _ _ (fun h => absurd h (by decide)) (zdg dz_R_thing_0 13 rfl)
  · refine vf_aload_n C (f := 0) (zdg dz_R_thing_0 4 rfl) 0 rfl rfl ?_
    refine vf_iload_n C (f := 1) (zdg dz_R_thing_0 5 rfl) 1 rfl rfl ?_
    refine vf_callVi C cy_R_thing ml_R_233 rfl (hrec_thing _ _) (S := []) sh_43 (by decide) rfl (jrm_o hR (by omega) (by decide)) rfl rfl (Nat.le_of_ble_eq_true rfl) (zdg dz_R_thing_0 6 rfl) (fun r30 u31 => ?_)
    refine vf_ineg C (zdg dz_R_thing_0 7 rfl) ?_
    exact hr _ _ _ _ (fun h => absurd h (by decide)) (zdg dz_R_thing_0 8 rfl)
def f_R_grp : Nat → Nat → Int → Wd → Option (Int × Wd)
  | 0, _, _, _ => none
  | d + 1, 0, v, w => f_R_held_b (f_R_grp d) v w
  | d + 1, 1, v, w => f_R_sum_b (f_R_grp d) v w
  | d + 1, 2, v, w => f_R_product_b (f_R_grp d) v w
  | d + 1, _, v, w => f_R_thing_b (f_R_grp d) v w
theorem ct_R_grp_all : ∀ dd : Nat, (∀ (v1 : Int) (w : Wd), Ct y_R_held prog_14_method_25_code 3 (some .int) (4 + dd) 0 [(2, 44), (0, v1)] w (f_R_grp dd 0 v1 w)) ∧ (∀ (v1 : Int) (w : Wd), Ct y_R_sum prog_14_method_26_code 5 (some .int) (4 + dd) 0 [(2, 44), (0, v1)] w (f_R_grp dd 1 v1 w)) ∧ (∀ (v1 : Int) (w : Wd), Ct y_R_product prog_14_method_27_code 5 (some .int) (4 + dd) 0 [(2, 44), (0, v1)] w (f_R_grp dd 2 v1 w)) ∧ (∀ (v1 : Int) (w : Wd), Ct y_R_thing prog_14_method_28_code 5 (some .int) (4 + dd) 0 [(2, 44), (0, v1)] w (f_R_grp dd 3 v1 w)) := by
  intro dd
  induction dd with
  | zero => exact ⟨(fun _ _  l D cA ad o ho => by cases ho), (fun _ _  l D cA ad o ho => by cases ho), (fun _ _  l D cA ad o ho => by cases ho), (fun _ _  l D cA ad o ho => by cases ho)⟩
  | succ dd ih =>
    obtain ⟨h0, h1, h2, h3⟩ := ih
    exact ⟨fun v w => ct_R_held_b h0 h1 h2 h3 v w, fun v w => ct_R_sum_b h0 h1 h2 h3 v w, fun v w => ct_R_product_b h0 h1 h2 h3 v w, fun v w => ct_R_thing_b h0 h1 h2 h3 v w⟩
theorem ct_R_held (v1 : Int) (w : Wd) : Ct y_R_held prog_14_method_25_code 3 (some .int) 104 0 [(2, 44), (0, v1)] w (f_R_grp 100 0 v1 w) := (ct_R_grp_all 100).1 v1 w
theorem ct_R_sum (v1 : Int) (w : Wd) : Ct y_R_sum prog_14_method_26_code 5 (some .int) 104 0 [(2, 44), (0, v1)] w (f_R_grp 100 1 v1 w) := (ct_R_grp_all 100).2.1 v1 w
theorem ct_R_product (v1 : Int) (w : Wd) : Ct y_R_product prog_14_method_27_code 5 (some .int) 104 0 [(2, 44), (0, v1)] w (f_R_grp 100 2 v1 w) := (ct_R_grp_all 100).2.2.1 v1 w
theorem ct_R_thing (v1 : Int) (w : Wd) : Ct y_R_thing prog_14_method_28_code 5 (some .int) 104 0 [(2, 44), (0, v1)] w (f_R_grp 100 3 v1 w) := (ct_R_grp_all 100).2.2.2 v1 w
def f_R_rule_73 : Nat → Int → Int → Wd → Option (Int × Wd)
  | 0, _, _, _ => none
  | n + 1, v1, v2, w =>
    if v1 ≤ v2 then
      jlw (st w 43 27 v1) fun u7 =>
      some (0, u7)
    else
      jgd ((0 : Int) ≤ v2 ∧ v2 < 80) <|
      jgd ((0 : Int) ≤ v2 ∧ v2 < 40) <|
      jlw (st w 57 v2.toNat (nb (w 51 v2.toNat))) fun u8 =>
      jlet (w32 (v2 + 1)) fun x9 =>
      f_R_rule_73 n v1 x9 u8
theorem t_R_rule_73 {X : jX} {Qf : Int × Wd → State → Prop} {ad : Nat → Nat} (C : Cx X prog_14_method_30_code "EachBringsAnotherModel") (hn : xn X = 3) (hR : xR X = rmD 105) (hr : Rt X Qf ad prog_14_method_30_code 0) : ∀ (n : Nat) (v1 v2 : Int) (w : Wd), VF X Qf ad NF 0 0 w 73 [(0, (2, 44)), (1, (0, v1)), (2, (0, v2))] [] (f_R_rule_73 n v1 v2 w) := by
  intro n
  induction n with
  | zero => intros; exact vf_no
  | succ n ih =>
    intro v1 v2 w
    rw [f_R_rule_73]
    refine vf_iload_n C (f := 2) (zdg dz_R_rule_1 18 rfl) 2 rfl rfl ?_
    refine vf_iload_n C (f := 1) (zdg dz_R_rule_1 19 rfl) 1 rfl rfl ?_
    refine vf_icmp_ge C (off := 21) (tgt := 96) (zdg dz_R_rule_1 20 rfl) (by decide) ?_ ?_
    · refine vf_aload_n C (f := 0) (zdg dz_R_rule_2 7 rfl) 0 rfl rfl ?_
      refine vf_iload_n C (f := 1) (zdg dz_R_rule_2 8 rfl) 1 rfl rfl ?_
      refine vf_put C (kd := 0) fl_R_250 fk_11_27 sh_43 rfl (by decide) rfl rfl (by decide) (zdg dz_R_rule_2 9 rfl) ?_
      generalize st w 43 27 v1 = u7
      refine vf_uw ?_
      refine vf_iconst C (z := 0) (zdg dz_R_rule_2 10 rfl) (jz rfl) ?_
      exact hr _ _ _ _ (fun h => absurd h (by decide)) (zdg dz_R_rule_2 11 rfl)
    · refine vf_aload_n C (f := 0) (zdg dz_R_rule_1 21 rfl) 0 rfl rfl ?_
      refine vf_getp C fl_R_58 sh_43 rfl (by decide) rfl (x := 58) rfl (zdg dz_R_rule_1 22 rfl) ?_
      refine vf_iload_n C (f := 2) (zdg dz_R_rule_1 23 rfl) 2 rfl rfl ?_
      refine vf_aload_n C (f := 0) (zdg dz_R_rule_2 0 rfl) 0 rfl rfl ?_
      refine vf_getp C fl_R_39 sh_43 rfl (by decide) rfl (x := 52) rfl (zdg dz_R_rule_2 1 rfl) ?_
      refine vf_iload_n C (f := 2) (zdg dz_R_rule_2 2 rfl) 2 rfl rfl ?_
      refine vf_bald C sh_51 (by decide) rfl (mz := 80) rfl (zdg dz_R_rule_2 3 rfl) ?_
      refine vf_bast C sh_57 (by decide) rfl (mz := 40) rfl (zdg dz_R_rule_2 4 rfl) ?_
      generalize st w 57 v2.toNat (nb (w 51 v2.toNat)) = u8
      refine vf_uw ?_
      refine vf_iinc C (z := 1) (L' := [(0, (2, 44)), (1, (0, v1))]) (zdg dz_R_rule_2 5 rfl) 2 rfl [0, 1] (jrI rfl rfl) hn (by decide) ?_
      generalize w32 (v2 + 1) = x9
      refine vf_ul ?_
      refine vf_goto C (off := (-20)) (tgt := 73) (zdg dz_R_rule_2 6 rfl) (by decide) ?_
      exact vf_perm [1, 2, 0] rfl (ih _ _ _)
def f_R_rule_71 (v1 : Int) (w : Wd) : Option (Int × Wd) :=
  f_R_rule_73 FU v1 0 w
theorem t_R_rule_71 {X : jX} {Qf : Int × Wd → State → Prop} {ad : Nat → Nat} (C : Cx X prog_14_method_30_code "EachBringsAnotherModel") (hn : xn X = 3) (hR : xR X = rmD 105) (hr : Rt X Qf ad prog_14_method_30_code 0) (v1 : Int) (w : Wd) : VF X Qf ad NF 0 0 w 71 [(0, (2, 44)), (1, (0, v1))] [] (f_R_rule_71 v1 w) := by
  unfold f_R_rule_71
  refine vf_iconst C (z := 0) (zdg dz_R_rule_1 16 rfl) (jz rfl) ?_
  refine vf_istore_n C (f := 2) (L' := [(0, (2, 44)), (1, (0, v1))]) (zdg dz_R_rule_1 17 rfl) [0, 1] (jrI rfl rfl) hn (by decide) rfl ?_
  exact vf_perm [1, 2, 0] rfl (t_R_rule_73 C hn hR hr FU _ _ _)
def f_R_rule_57 (v1 : Int) (w : Wd) : Option (Int × Wd) :=
  jcall (f_R_fine w) fun r12 u13 =>
  if r12 = 0 then
    some (w32 ((-1) - (u13 43 21)), u13)
  else
    f_R_rule_71 v1 u13
theorem t_R_rule_57 {X : jX} {Qf : Int × Wd → State → Prop} {ad : Nat → Nat} (C : Cx X prog_14_method_30_code "EachBringsAnotherModel") (hn : xn X = 3) (hR : xR X = rmD 105) (hr : Rt X Qf ad prog_14_method_30_code 0) (v1 : Int) (w : Wd) : VF X Qf ad NF 0 0 w 57 [(0, (2, 44)), (1, (0, v1))] [] (f_R_rule_57 v1 w) := by
  unfold f_R_rule_57
  refine vf_aload_n C (f := 0) (zdg dz_R_rule_1 8 rfl) 0 rfl rfl ?_
  refine vf_callVz C cy_R_fine ml_R_181 rfl (ct_R_fine _) (S := []) sh_43 (by decide) rfl (jrm_of hR rfl) rfl rfl (Nat.le_of_ble_eq_true rfl) (zdg dz_R_rule_1 9 rfl) (fun r12 u13 => ?_)
  refine vf_if_ne C (off := 10) (tgt := 71) (zdg dz_R_rule_1 10 rfl) (by decide) ?_ ?_
  · exact t_R_rule_71 C hn hR hr _ _
  · refine vf_iconst C (z := (-1)) (zdg dz_R_rule_1 11 rfl) (jz rfl) ?_
    refine vf_aload_n C (f := 0) (zdg dz_R_rule_1 12 rfl) 0 rfl rfl ?_
    refine vf_get C (kd := 0) fl_R_178 sh_43 rfl (by decide) rfl rfl (zdg dz_R_rule_1 13 rfl) ?_
    refine vf_isub C (zdg dz_R_rule_1 14 rfl) ?_
    exact hr _ _ _ _ (fun h => absurd h (by decide)) (zdg dz_R_rule_1 15 rfl)
def f_R_rule (w : Wd) : Option (Int × Wd) :=
  jlw (st w 43 16 0) fun u1 =>
  jlet (u1 43 13) fun x2 =>
  jcall (f_R_begin1_43_51 x2 40 u1) fun r3 u4 =>
  jlw (st u4 43 13 0) fun u5 =>
  jlw (st u5 43 28 (-1)) fun u6 =>
  if x2 ≤ 0 then
    f_R_rule_71 x2 u6
  else
    jcall (f_R_grp 100 0 0 u6) fun r10 u11 =>
    if x2 ≤ (u11 43 20) then
      f_R_rule_57 x2 u11
    else
      jcall (f_R_fault (u11 43 20) u11) fun r14 u15 =>
      f_R_rule_57 x2 u15
theorem ct_R_rule (w : Wd) : Ct y_R_rule prog_14_method_30_code 3 (some .int) 105 0 [(2, 44)] w (f_R_rule w) := by
  refine ct_of (by decide +kernel) (Or.inl ⟨rfl, rfl⟩) (Nat.le_of_ble_eq_true rfl) ?_
  intro X Qf ad C hn hR hr
  unfold f_R_rule
  show VF X Qf ad NF 0 0 w 0 [(0, (2, 44))] [] _
  refine vf_aload_n C (f := 0) (zdg dz_R_rule_0 0 rfl) 0 rfl rfl ?_
  refine vf_iconst C (z := 0) (zdg dz_R_rule_0 1 rfl) (jz rfl) ?_
  refine vf_put C (kd := 0) fl_R_138 fk_11_16 sh_43 rfl (by decide) rfl rfl (by decide) (zdg dz_R_rule_0 2 rfl) ?_
  generalize st w 43 16 0 = u1
  refine vf_uw ?_
  refine vf_aload_n C (f := 0) (zdg dz_R_rule_0 3 rfl) 0 rfl rfl ?_
  refine vf_get C (kd := 0) fl_R_163 sh_43 rfl (by decide) rfl rfl (zdg dz_R_rule_0 4 rfl) ?_
  generalize u1 43 13 = x2
  refine vf_ul ?_
  refine vf_istore_n C (f := 1) (L' := [(0, (2, 44))]) (zdg dz_R_rule_0 5 rfl) [0] (jrI rfl rfl) hn (by decide) rfl ?_
  refine vf_aload_n C (f := 0) (zdg dz_R_rule_0 6 rfl) 1 rfl rfl ?_
  refine vf_aload_n C (f := 0) (zdg dz_R_rule_0 7 rfl) 1 rfl rfl ?_
  refine vf_getp C fl_R_39 sh_43 rfl (by decide) rfl (x := 52) rfl (zdg dz_R_rule_0 8 rfl) ?_
  refine vf_iload_n C (f := 1) (zdg dz_R_rule_0 9 rfl) 0 rfl rfl ?_
  refine vf_bipush C (z := 40) (zdg dz_R_rule_0 10 rfl) (by decide +kernel) (jz rfl) ?_
  refine vf_callVv C cy_R_begin1 ml_R_188 rfl (ct_R_begin1_43_51 _ _ _) (S := []) sh_43 (by decide) rfl (jrm_of hR rfl) rfl rfl (Nat.le_of_ble_eq_true rfl) (zdg dz_R_rule_0 11 rfl) (fun r3 u4 => ?_)
  refine vf_aload_n C (f := 0) (zdg dz_R_rule_0 12 rfl) 1 rfl rfl ?_
  refine vf_iconst C (z := 0) (zdg dz_R_rule_0 13 rfl) (jz rfl) ?_
  refine vf_put C (kd := 0) fl_R_163 fk_11_13 sh_43 rfl (by decide) rfl rfl (by decide) (zdg dz_R_rule_0 14 rfl) ?_
  generalize st u4 43 13 0 = u5
  refine vf_uw ?_
  refine vf_aload_n C (f := 0) (zdg dz_R_rule_0 15 rfl) 1 rfl rfl ?_
  refine vf_iconst C (z := (-1)) (zdg dz_R_rule_0 16 rfl) (jz rfl) ?_
  refine vf_put C (kd := 0) fl_R_61 fk_11_28 sh_43 rfl (by decide) rfl rfl (by decide) (zdg dz_R_rule_0 17 rfl) ?_
  generalize st u5 43 28 (-1) = u6
  refine vf_uw ?_
  refine vf_iload_n C (f := 1) (zdg dz_R_rule_0 18 rfl) 0 rfl rfl ?_
  refine vf_if_le C (off := 39) (tgt := 71) (zdg dz_R_rule_0 19 rfl) (by decide) ?_ ?_
  · exact vf_perm [1, 0] rfl (t_R_rule_71 C hn hR hr _ _)
  · refine vf_aload_n C (f := 0) (zdg dz_R_rule_0 20 rfl) 1 rfl rfl ?_
    refine vf_iconst C (z := 0) (zdg dz_R_rule_0 21 rfl) (jz rfl) ?_
    refine vf_callVi C cy_R_held ml_R_236 rfl (ct_R_held _ _) (S := []) sh_43 (by decide) rfl (jrm_of hR rfl) rfl rfl (Nat.le_of_ble_eq_true rfl) (zdg dz_R_rule_0 22 rfl) (fun r10 u11 => ?_)
    refine vf_pop C (zdg dz_R_rule_0 23 rfl) Nat.zero_ne_one ?_
    refine vf_aload_n C (f := 0) (zdg dz_R_rule_1 0 rfl) 1 rfl rfl ?_
    refine vf_get C (kd := 0) fl_R_175 sh_43 rfl (by decide) rfl rfl (zdg dz_R_rule_1 1 rfl) ?_
    refine vf_iload_n C (f := 1) (zdg dz_R_rule_1 2 rfl) 0 rfl rfl ?_
    refine vf_icmp_ge C (off := 11) (tgt := 57) (zdg dz_R_rule_1 3 rfl) (by decide) ?_ ?_
    · exact vf_perm [1, 0] rfl (t_R_rule_57 C hn hR hr _ _)
    · refine vf_aload_n C (f := 0) (zdg dz_R_rule_1 4 rfl) 1 rfl rfl ?_
      refine vf_aload_n C (f := 0) (zdg dz_R_rule_1 5 rfl) 1 rfl rfl ?_
      refine vf_get C (kd := 0) fl_R_175 sh_43 rfl (by decide) rfl rfl (zdg dz_R_rule_1 6 rfl) ?_
      refine vf_callVv C cy_R_fault ml_R_192 rfl (ct_R_fault _ _) (S := []) sh_43 (by decide) rfl (jrm_of hR rfl) rfl rfl (Nat.le_of_ble_eq_true rfl) (zdg dz_R_rule_1 7 rfl) (fun r14 u15 => ?_)
      exact vf_perm [1, 0] rfl (t_R_rule_57 C hn hR hr _ _)
def f_R_begin1_43_57 (v2 v3 : Int) (w : Wd) : Option (Int × Wd) :=
  jlw (st w 43 17 58) fun u1 =>
  jlw (st u1 43 18 v2) fun u2 =>
  jlw (st u2 43 19 v3) fun u3 =>
  jlw (st u3 43 20 0) fun u4 =>
  jlw (st u4 43 21 (-1)) fun u5 =>
  some (0, u5)
theorem ct_R_begin1_43_57 (v2 v3 : Int) (w : Wd) : Ct y_R_begin1 prog_14_method_16_code 4 none 1 9 [(2, 44), (2, 58), (0, v2), (0, v3)] w (f_R_begin1_43_57 v2 v3 w) := by
  refine ct_of (by decide +kernel) (Or.inr (Or.inr (Or.inr ⟨rfl, rfl⟩))) (Nat.le_of_ble_eq_true rfl) ?_
  intro X Qf ad C hn hR hr
  unfold f_R_begin1_43_57
  show VF X Qf ad NF 0 0 w 0 [(0, (2, 44)), (1, (2, 58)), (2, (0, v2)), (3, (0, v3))] [] _
  refine vf_aload_n C (f := 0) (zdg dz_R_begin1_0 0 rfl) 0 rfl rfl ?_
  refine vf_aload_n C (f := 1) (zdg dz_R_begin1_0 1 rfl) 1 rfl rfl ?_
  refine vf_put C (kd := 2) fl_R_166 fk_11_17 sh_43 rfl (by decide) rfl rfl (by decide) (zdg dz_R_begin1_0 2 rfl) ?_
  generalize st w 43 17 58 = u1
  refine vf_uw ?_
  refine vf_aload_n C (f := 0) (zdg dz_R_begin1_0 3 rfl) 0 rfl rfl ?_
  refine vf_iload_n C (f := 2) (zdg dz_R_begin1_0 4 rfl) 2 rfl rfl ?_
  refine vf_put C (kd := 0) fl_R_169 fk_11_18 sh_43 rfl (by decide) rfl rfl (by decide) (zdg dz_R_begin1_0 5 rfl) ?_
  generalize st u1 43 18 v2 = u2
  refine vf_uw ?_
  refine vf_aload_n C (f := 0) (zdg dz_R_begin1_0 6 rfl) 0 rfl rfl ?_
  refine vf_iload_n C (f := 3) (zdg dz_R_begin1_0 7 rfl) 3 rfl rfl ?_
  refine vf_put C (kd := 0) fl_R_172 fk_11_19 sh_43 rfl (by decide) rfl rfl (by decide) (zdg dz_R_begin1_0 8 rfl) ?_
  generalize st u2 43 19 v3 = u3
  refine vf_uw ?_
  refine vf_aload_n C (f := 0) (zdg dz_R_begin1_0 9 rfl) 0 rfl rfl ?_
  refine vf_iconst C (z := 0) (zdg dz_R_begin1_0 10 rfl) (jz rfl) ?_
  refine vf_put C (kd := 0) fl_R_175 fk_11_20 sh_43 rfl (by decide) rfl rfl (by decide) (zdg dz_R_begin1_0 11 rfl) ?_
  generalize st u3 43 20 0 = u4
  refine vf_uw ?_
  refine vf_aload_n C (f := 0) (zdg dz_R_begin1_0 12 rfl) 0 rfl rfl ?_
  refine vf_iconst C (z := (-1)) (zdg dz_R_begin1_0 13 rfl) (jz rfl) ?_
  refine vf_put C (kd := 0) fl_R_178 fk_11_21 sh_43 rfl (by decide) rfl rfl (by decide) (zdg dz_R_begin1_0 14 rfl) ?_
  generalize st u4 43 21 (-1) = u5
  refine vf_uw ?_
  exact hr _ _ _ _ (fun h => absurd h (by decide)) (zdg dz_R_begin1_0 15 rfl)
def f_R_ruleFor (v1 v2 : Int) (w : Wd) : Option (Int × Wd) :=
  if (w 43 27) = 0 then
    some (0, w)
  else
    jcall (f_R_begin1_43_57 (w 43 27) 40 w) fun r1 u2 =>
    jlw (st u2 43 28 v1) fun u3 =>
    jlw (st u3 43 29 v2) fun u4 =>
    jcall (f_R_grp 100 0 0 u4) fun r5 u6 =>
    some (r5, u6)
theorem ct_R_ruleFor (v1 v2 : Int) (w : Wd) : Ct y_R_ruleFor prog_14_method_31_code 3 (some .int) 105 0 [(2, 44), (0, v1), (0, v2)] w (f_R_ruleFor v1 v2 w) := by
  refine ct_of (by decide +kernel) (Or.inl ⟨rfl, rfl⟩) (Nat.le_of_ble_eq_true rfl) ?_
  intro X Qf ad C hn hR hr
  unfold f_R_ruleFor
  show VF X Qf ad NF 0 0 w 0 [(0, (2, 44)), (1, (0, v1)), (2, (0, v2))] [] _
  refine vf_aload_n C (f := 0) (zdg dz_R_ruleFor_0 0 rfl) 0 rfl rfl ?_
  refine vf_get C (kd := 0) fl_R_250 sh_43 rfl (by decide) rfl rfl (zdg dz_R_ruleFor_0 1 rfl) ?_
  refine vf_if_ne C (off := 5) (tgt := 9) (zdg dz_R_ruleFor_0 2 rfl) (by decide) ?_ ?_
  · refine vf_aload_n C (f := 0) (zdg dz_R_ruleFor_0 5 rfl) 0 rfl rfl ?_
    refine vf_aload_n C (f := 0) (zdg dz_R_ruleFor_0 6 rfl) 0 rfl rfl ?_
    refine vf_getp C fl_R_58 sh_43 rfl (by decide) rfl (x := 58) rfl (zdg dz_R_ruleFor_0 7 rfl) ?_
    refine vf_aload_n C (f := 0) (zdg dz_R_ruleFor_0 8 rfl) 0 rfl rfl ?_
    refine vf_get C (kd := 0) fl_R_250 sh_43 rfl (by decide) rfl rfl (zdg dz_R_ruleFor_0 9 rfl) ?_
    refine vf_bipush C (z := 40) (zdg dz_R_ruleFor_0 10 rfl) (by decide +kernel) (jz rfl) ?_
    refine vf_callVv C cy_R_begin1 ml_R_188 rfl (ct_R_begin1_43_57 _ _ _) (S := []) sh_43 (by decide) rfl (jrm_of hR rfl) rfl rfl (Nat.le_of_ble_eq_true rfl) (zdg dz_R_ruleFor_0 11 rfl) (fun r1 u2 => ?_)
    refine vf_aload_n C (f := 0) (zdg dz_R_ruleFor_0 12 rfl) 0 rfl rfl ?_
    refine vf_iload_n C (f := 1) (zdg dz_R_ruleFor_0 13 rfl) 1 rfl rfl ?_
    refine vf_put C (kd := 0) fl_R_61 fk_11_28 sh_43 rfl (by decide) rfl rfl (by decide) (zdg dz_R_ruleFor_0 14 rfl) ?_
    generalize st u2 43 28 v1 = u3
    refine vf_uw ?_
    refine vf_aload_n C (f := 0) (zdg dz_R_ruleFor_0 15 rfl) 0 rfl rfl ?_
    refine vf_iload_n C (f := 2) (zdg dz_R_ruleFor_0 16 rfl) 2 rfl rfl ?_
    refine vf_put C (kd := 0) fl_R_247 fk_11_29 sh_43 rfl (by decide) rfl rfl (by decide) (zdg dz_R_ruleFor_0 17 rfl) ?_
    generalize st u3 43 29 v2 = u4
    refine vf_uw ?_
    refine vf_aload_n C (f := 0) (zdg dz_R_ruleFor_0 18 rfl) 0 rfl rfl ?_
    refine vf_iconst C (z := 0) (zdg dz_R_ruleFor_0 19 rfl) (jz rfl) ?_
    refine vf_callVi C cy_R_held ml_R_236 rfl (ct_R_held _ _) (S := []) sh_43 (by decide) rfl (jrm_of hR rfl) rfl rfl (Nat.le_of_ble_eq_true rfl) (zdg dz_R_ruleFor_0 20 rfl) (fun r5 u6 => ?_)
    exact hr _ _ _ _ (fun h => absurd h (by decide)) (zdg dz_R_ruleFor_0 21 rfl)
  · refine vf_iconst C (z := 0) (zdg dz_R_ruleFor_0 3 rfl) (jz rfl) ?_
    exact hr _ _ _ _ (fun h => absurd h (by decide)) (zdg dz_R_ruleFor_0 4 rfl)
def f_R_of_23 (w : Wd) : Option (Int × Wd) :=
  jcall (f_R_lost w) fun r4 u5 =>
  some (r4, u5)
theorem t_R_of_23 {X : jX} {Qf : Int × Wd → State → Prop} {ad : Nat → Nat} (C : Cx X prog_14_method_32_code "EachBringsAnotherModel") (hn : xn X = 3) (hR : xR X = rmD 3) (hr : Rt X Qf ad prog_14_method_32_code 0) (w : Wd) : VF X Qf ad NF 0 0 w 23 [(0, (2, 44))] [] (f_R_of_23 w) := by
  unfold f_R_of_23
  refine vf_aload_n C (f := 0) (zdg dz_R_of_0 12 rfl) 0 rfl rfl ?_
  refine vf_callVi C cy_R_lost ml_R_253 rfl (ct_R_lost _) (S := []) sh_43 (by decide) rfl (jrm_of hR rfl) rfl rfl (Nat.le_of_ble_eq_true rfl) (zdg dz_R_of_0 13 rfl) (fun r4 u5 => ?_)
  exact hr _ _ _ _ (fun h => absurd h (by decide)) (zdg dz_R_of_0 14 rfl)
def f_R_of (v1 v2 : Int) (w : Wd) : Option (Int × Wd) :=
  jlw (st w 43 16 0) fun u1 =>
  jcall (f_R_isOne v1 u1) fun r2 u3 =>
  if r2 = 0 then
    f_R_of_23 u3
  else
    jcall (f_R_in v2 0 6 u3) fun r6 u7 =>
    if r6 = 0 then
      f_R_of_23 u7
    else
      if v2 < 0 ∨ 5 < v2 then
        jgd ((0 : Int) ≤ v1 ∧ v1 < 10) <|
        some (u7 49 v1.toNat, u7)
      else
      if v2 = 0 then
        jgd ((0 : Int) ≤ v1 ∧ v1 < 10) <|
        some (u7 44 v1.toNat, u7)
      else
      if v2 = 1 then
        jgd ((0 : Int) ≤ v1 ∧ v1 < 10) <|
        some (u7 45 v1.toNat, u7)
      else
      if v2 = 2 then
        jgd ((0 : Int) ≤ v1 ∧ v1 < 10) <|
        if (u7 46 v1.toNat) = 0 then
          some (0, u7)
        else
          some (1, u7)
      else
      if v2 = 3 then
        jgd ((0 : Int) ≤ v1 ∧ v1 < 10) <|
        if (u7 47 v1.toNat) = 0 then
          some (0, u7)
        else
          jgd ((0 : Int) ≤ v1 ∧ v1 < 10) <|
          if (u7 47 v1.toNat) = 4 then
            some (2, u7)
          else
            some (1, u7)
      else
      if v2 = 4 then
        jgd ((0 : Int) ≤ v1 ∧ v1 < 10) <|
        jcall (f_R_isGuest (u7 47 v1.toNat) u7) fun r8 u9 =>
        if r8 = 0 then
          some ((-1), u9)
        else
          jgd ((0 : Int) ≤ v1 ∧ v1 < 10) <|
          some (w32 ((u9 47 v1.toNat) - 1), u9)
      else
      if v2 = 5 then
        jgd ((0 : Int) ≤ v1 ∧ v1 < 10) <|
        some (u7 48 v1.toNat, u7)
      else
      none
theorem ct_R_of (v1 v2 : Int) (w : Wd) : Ct y_R_of prog_14_method_32_code 3 (some .int) 3 0 [(2, 44), (0, v1), (0, v2)] w (f_R_of v1 v2 w) := by
  refine ct_of (by decide +kernel) (Or.inl ⟨rfl, rfl⟩) (Nat.le_of_ble_eq_true rfl) ?_
  intro X Qf ad C hn hR hr
  unfold f_R_of
  show VF X Qf ad NF 0 0 w 0 [(0, (2, 44)), (1, (0, v1)), (2, (0, v2))] [] _
  refine vf_aload_n C (f := 0) (zdg dz_R_of_0 0 rfl) 0 rfl rfl ?_
  refine vf_iconst C (z := 0) (zdg dz_R_of_0 1 rfl) (jz rfl) ?_
  refine vf_put C (kd := 0) fl_R_138 fk_11_16 sh_43 rfl (by decide) rfl rfl (by decide) (zdg dz_R_of_0 2 rfl) ?_
  generalize st w 43 16 0 = u1
  refine vf_uw ?_
  refine vf_aload_n C (f := 0) (zdg dz_R_of_0 3 rfl) 0 rfl rfl ?_
  refine vf_iload_n C (f := 1) (zdg dz_R_of_0 4 rfl) 1 rfl rfl ?_
  refine vf_callVz C cy_R_isOne ml_R_151 rfl (ct_R_isOne _ _) (S := []) sh_43 (by decide) rfl (jrm_of hR rfl) rfl rfl (Nat.le_of_ble_eq_true rfl) (zdg dz_R_of_0 5 rfl) (fun r2 u3 => ?_)
  refine vf_if_eq C (off := 13) (tgt := 23) (zdg dz_R_of_0 6 rfl) (by decide) ?_ ?_
  · exact vf_perm [0] rfl (t_R_of_23 C hn hR hr _)
  · refine vf_iload_n C (f := 2) (zdg dz_R_of_0 7 rfl) 2 rfl rfl ?_
    refine vf_iconst C (z := 0) (zdg dz_R_of_0 8 rfl) (jz rfl) ?_
    refine vf_bipush C (z := 6) (zdg dz_R_of_0 9 rfl) (by decide +kernel) (jz rfl) ?_
    refine vf_callSz C cy_R_in ml_R_147 (ct_R_in _ _ _ _) (S := []) (jrm_of hR rfl) rfl rfl (Nat.le_of_ble_eq_true rfl) (zdg dz_R_of_0 10 rfl) (fun r6 u7 => ?_)
    refine vf_if_ne C (off := 8) (tgt := 28) (zdg dz_R_of_0 11 rfl) (by decide) ?_ ?_
    · refine vf_iload_n C (f := 2) (zdg dz_R_of_0 15 rfl) 2 rfl rfl ?_
      refine vf_if _ (fun h => ?_) (fun _ => ?_)
      · refine vf_swd C (dflt := 129) (lo := 0) (hi := 5) (offs := #[39, 46, 53, 68, 97, 122]) (len := 39) (tgt := 158) (by decide +kernel) h (by decide) ?_
        refine vf_aload_n C (f := 0) (zdg dz_R_of_3 0 rfl) 0 rfl rfl ?_
        refine vf_getp C fl_R_26 sh_43 rfl (by decide) rfl (x := 50) rfl (zdg dz_R_of_3 1 rfl) ?_
        refine vf_iload_n C (f := 1) (zdg dz_R_of_3 2 rfl) 1 rfl rfl ?_
        refine vf_iald C sh_49 (by decide) rfl (mz := 10) rfl (zdg dz_R_of_3 3 rfl) ?_
        exact hr _ _ _ _ (fun h => absurd h (by decide)) (zdg dz_R_of_3 4 rfl)
      refine vf_if _ (fun h => ?_) (fun _ => ?_)
      · refine vf_swx C (dflt := 129) (lo := 0) (hi := 5) (offs := #[39, 46, 53, 68, 97, 122]) (len := 39) (z := 0) (off := 39) (tgt := 68) (by decide +kernel) h (by decide) (by decide) rfl (by decide) ?_
        refine vf_aload_n C (f := 0) (zdg dz_R_of_0 16 rfl) 0 rfl rfl ?_
        refine vf_getp C fl_R_9 sh_43 rfl (by decide) rfl (x := 45) rfl (zdg dz_R_of_0 17 rfl) ?_
        refine vf_iload_n C (f := 1) (zdg dz_R_of_0 18 rfl) 1 rfl rfl ?_
        refine vf_iald C sh_44 (by decide) rfl (mz := 10) rfl (zdg dz_R_of_0 19 rfl) ?_
        exact hr _ _ _ _ (fun h => absurd h (by decide)) (zdg dz_R_of_0 20 rfl)
      refine vf_if _ (fun h => ?_) (fun _ => ?_)
      · refine vf_swx C (dflt := 129) (lo := 0) (hi := 5) (offs := #[39, 46, 53, 68, 97, 122]) (len := 39) (z := 1) (off := 46) (tgt := 75) (by decide +kernel) h (by decide) (by decide) rfl (by decide) ?_
        refine vf_aload_n C (f := 0) (zdg dz_R_of_0 21 rfl) 0 rfl rfl ?_
        refine vf_getp C fl_R_13 sh_43 rfl (by decide) rfl (x := 46) rfl (zdg dz_R_of_0 22 rfl) ?_
        refine vf_iload_n C (f := 1) (zdg dz_R_of_0 23 rfl) 1 rfl rfl ?_
        refine vf_iald C sh_45 (by decide) rfl (mz := 10) rfl (zdg dz_R_of_1 0 rfl) ?_
        exact hr _ _ _ _ (fun h => absurd h (by decide)) (zdg dz_R_of_1 1 rfl)
      refine vf_if _ (fun h => ?_) (fun _ => ?_)
      · refine vf_swx C (dflt := 129) (lo := 0) (hi := 5) (offs := #[39, 46, 53, 68, 97, 122]) (len := 39) (z := 2) (off := 53) (tgt := 82) (by decide +kernel) h (by decide) (by decide) rfl (by decide) ?_
        refine vf_aload_n C (f := 0) (zdg dz_R_of_1 2 rfl) 0 rfl rfl ?_
        refine vf_getp C fl_R_16 sh_43 rfl (by decide) rfl (x := 47) rfl (zdg dz_R_of_1 3 rfl) ?_
        refine vf_iload_n C (f := 1) (zdg dz_R_of_1 4 rfl) 1 rfl rfl ?_
        refine vf_zald C sh_46 (by decide) rfl (mz := 10) rfl (zdg dz_R_of_1 5 rfl) ?_
        refine vf_if_eq C (off := 7) (tgt := 95) (zdg dz_R_of_1 6 rfl) (by decide) ?_ ?_
        · refine vf_iconst C (z := 0) (zdg dz_R_of_1 9 rfl) (jz rfl) ?_
          exact hr _ _ _ _ (fun h => absurd h (by decide)) (zdg dz_R_of_1 10 rfl)
        · refine vf_iconst C (z := 1) (zdg dz_R_of_1 7 rfl) (jz rfl) ?_
          refine vf_goto C (off := 4) (tgt := 96) (zdg dz_R_of_1 8 rfl) (by decide) ?_
          exact hr _ _ _ _ (fun h => absurd h (by decide)) (zdg dz_R_of_1 10 rfl)
      refine vf_if _ (fun h => ?_) (fun _ => ?_)
      · refine vf_swx C (dflt := 129) (lo := 0) (hi := 5) (offs := #[39, 46, 53, 68, 97, 122]) (len := 39) (z := 3) (off := 68) (tgt := 97) (by decide +kernel) h (by decide) (by decide) rfl (by decide) ?_
        refine vf_aload_n C (f := 0) (zdg dz_R_of_1 11 rfl) 0 rfl rfl ?_
        refine vf_getp C fl_R_20 sh_43 rfl (by decide) rfl (x := 48) rfl (zdg dz_R_of_1 12 rfl) ?_
        refine vf_iload_n C (f := 1) (zdg dz_R_of_1 13 rfl) 1 rfl rfl ?_
        refine vf_iald C sh_47 (by decide) rfl (mz := 10) rfl (zdg dz_R_of_1 14 rfl) ?_
        refine vf_if_ne C (off := 7) (tgt := 110) (zdg dz_R_of_1 15 rfl) (by decide) ?_ ?_
        · refine vf_aload_n C (f := 0) (zdg dz_R_of_1 18 rfl) 0 rfl rfl ?_
          refine vf_getp C fl_R_20 sh_43 rfl (by decide) rfl (x := 48) rfl (zdg dz_R_of_1 19 rfl) ?_
          refine vf_iload_n C (f := 1) (zdg dz_R_of_1 20 rfl) 1 rfl rfl ?_
          refine vf_iald C sh_47 (by decide) rfl (mz := 10) rfl (zdg dz_R_of_1 21 rfl) ?_
          refine vf_iconst C (z := 4) (zdg dz_R_of_1 22 rfl) (jz rfl) ?_
          refine vf_icmp_ne C (off := 7) (tgt := 124) (zdg dz_R_of_1 23 rfl) (by decide) ?_ ?_
          · refine vf_iconst C (z := 1) (zdg dz_R_of_2 2 rfl) (jz rfl) ?_
            exact hr _ _ _ _ (fun h => absurd h (by decide)) (zdg dz_R_of_2 3 rfl)
          · refine vf_iconst C (z := 2) (zdg dz_R_of_2 0 rfl) (jz rfl) ?_
            refine vf_goto C (off := 4) (tgt := 125) (zdg dz_R_of_2 1 rfl) (by decide) ?_
            exact hr _ _ _ _ (fun h => absurd h (by decide)) (zdg dz_R_of_2 3 rfl)
        · refine vf_iconst C (z := 0) (zdg dz_R_of_1 16 rfl) (jz rfl) ?_
          refine vf_goto C (off := 18) (tgt := 125) (zdg dz_R_of_1 17 rfl) (by decide) ?_
          exact hr _ _ _ _ (fun h => absurd h (by decide)) (zdg dz_R_of_2 3 rfl)
      refine vf_if _ (fun h => ?_) (fun _ => ?_)
      · refine vf_swx C (dflt := 129) (lo := 0) (hi := 5) (offs := #[39, 46, 53, 68, 97, 122]) (len := 39) (z := 4) (off := 97) (tgt := 126) (by decide +kernel) h (by decide) (by decide) rfl (by decide) ?_
        refine vf_aload_n C (f := 0) (zdg dz_R_of_2 4 rfl) 0 rfl rfl ?_
        refine vf_getp C fl_R_20 sh_43 rfl (by decide) rfl (x := 48) rfl (zdg dz_R_of_2 5 rfl) ?_
        refine vf_iload_n C (f := 1) (zdg dz_R_of_2 6 rfl) 1 rfl rfl ?_
        refine vf_iald C sh_47 (by decide) rfl (mz := 10) rfl (zdg dz_R_of_2 7 rfl) ?_
        refine vf_callSz C cy_R_isGuest ml_R_256 (ct_R_isGuest _ _) (S := []) (jrm_of hR rfl) rfl rfl (Nat.le_of_ble_eq_true rfl) (zdg dz_R_of_2 8 rfl) (fun r8 u9 => ?_)
        refine vf_if_eq C (off := 14) (tgt := 149) (zdg dz_R_of_2 9 rfl) (by decide) ?_ ?_
        · refine vf_iconst C (z := (-1)) (zdg dz_R_of_2 17 rfl) (jz rfl) ?_
          exact hr _ _ _ _ (fun h => absurd h (by decide)) (zdg dz_R_of_2 18 rfl)
        · refine vf_aload_n C (f := 0) (zdg dz_R_of_2 10 rfl) 0 rfl rfl ?_
          refine vf_getp C fl_R_20 sh_43 rfl (by decide) rfl (x := 48) rfl (zdg dz_R_of_2 11 rfl) ?_
          refine vf_iload_n C (f := 1) (zdg dz_R_of_2 12 rfl) 1 rfl rfl ?_
          refine vf_iald C sh_47 (by decide) rfl (mz := 10) rfl (zdg dz_R_of_2 13 rfl) ?_
          refine vf_iconst C (z := 1) (zdg dz_R_of_2 14 rfl) (jz rfl) ?_
          refine vf_isub C (zdg dz_R_of_2 15 rfl) ?_
          refine vf_goto C (off := 4) (tgt := 150) (zdg dz_R_of_2 16 rfl) (by decide) ?_
          exact hr _ _ _ _ (fun h => absurd h (by decide)) (zdg dz_R_of_2 18 rfl)
      refine vf_if _ (fun h => ?_) (fun _ => ?_)
      · refine vf_swx C (dflt := 129) (lo := 0) (hi := 5) (offs := #[39, 46, 53, 68, 97, 122]) (len := 39) (z := 5) (off := 122) (tgt := 151) (by decide +kernel) h (by decide) (by decide) rfl (by decide) ?_
        refine vf_aload_n C (f := 0) (zdg dz_R_of_2 19 rfl) 0 rfl rfl ?_
        refine vf_getp C fl_R_23 sh_43 rfl (by decide) rfl (x := 49) rfl (zdg dz_R_of_2 20 rfl) ?_
        refine vf_iload_n C (f := 1) (zdg dz_R_of_2 21 rfl) 1 rfl rfl ?_
        refine vf_iald C sh_48 (by decide) rfl (mz := 10) rfl (zdg dz_R_of_2 22 rfl) ?_
        exact hr _ _ _ _ (fun h => absurd h (by decide)) (zdg dz_R_of_2 23 rfl)
      exact vf_no
    · exact vf_perm [0] rfl (t_R_of_23 C hn hR hr _)
def f_R_law_49 (v1 v2 s0 : Int) (w : Wd) : Option (Int × Wd) :=
  if v1 = 0 then
    jlw (st w 43 10 v2) fun u7 =>
    some (s0, u7)
  else
    jlw (st w 43 11 v2) fun u6 =>
    some (s0, u6)
theorem t_R_law_49 {X : jX} {Qf : Int × Wd → State → Prop} {ad : Nat → Nat} (C : Cx X prog_14_method_33_code "EachBringsAnotherModel") (hn : xn X = 4) (hR : xR X = rmD 2) (hr : Rt X Qf ad prog_14_method_33_code 0) (v1 v2 s0 : Int) (w : Wd) : VF X Qf ad NF 0 0 w 49 [(0, (2, 44)), (1, (0, v1)), (2, (0, v2))] [(0, s0)] (f_R_law_49 v1 v2 s0 w) := by
  unfold f_R_law_49
  refine vf_istore_n C (f := 3) (L' := [(0, (2, 44)), (1, (0, v1)), (2, (0, v2))]) (zdg dz_R_law_1 2 rfl) [0, 1, 2] (jrI rfl rfl) hn (by decide) rfl ?_
  refine vf_iload_n C (f := 1) (zdg dz_R_law_1 3 rfl) 2 rfl rfl ?_
  refine vf_if_ne C (off := 11) (tgt := 62) (zdg dz_R_law_1 4 rfl) (by decide) ?_ ?_
  · refine vf_aload_n C (f := 0) (zdg dz_R_law_1 9 rfl) 1 rfl rfl ?_
    refine vf_iload_n C (f := 2) (zdg dz_R_law_1 10 rfl) 3 rfl rfl ?_
    refine vf_put C (kd := 0) fl_R_36 fk_11_11 sh_43 rfl (by decide) rfl rfl (by decide) (zdg dz_R_law_1 11 rfl) ?_
    generalize st w 43 11 v2 = u6
    refine vf_uw ?_
    refine vf_iload_n C (f := 3) (zdg dz_R_law_1 12 rfl) 0 rfl rfl ?_
    exact hr _ _ _ _ (fun h => absurd h (by decide)) (zdg dz_R_law_1 13 rfl)
  · refine vf_aload_n C (f := 0) (zdg dz_R_law_1 5 rfl) 1 rfl rfl ?_
    refine vf_iload_n C (f := 2) (zdg dz_R_law_1 6 rfl) 3 rfl rfl ?_
    refine vf_put C (kd := 0) fl_R_32 fk_11_10 sh_43 rfl (by decide) rfl rfl (by decide) (zdg dz_R_law_1 7 rfl) ?_
    generalize st w 43 10 v2 = u7
    refine vf_uw ?_
    refine vf_goto C (off := 8) (tgt := 67) (zdg dz_R_law_1 8 rfl) (by decide) ?_
    refine vf_iload_n C (f := 3) (zdg dz_R_law_1 12 rfl) 0 rfl rfl ?_
    exact hr _ _ _ _ (fun h => absurd h (by decide)) (zdg dz_R_law_1 13 rfl)
def f_R_law_26 (v1 v2 s0 s1 s2 : Int) (w : Wd) : Option (Int × Wd) :=
  jcall (f_R_in s0 s1 s2 w) fun r4 u5 =>
  if r4 = 0 then
    some ((-1), u5)
  else
    if v1 = 0 then
      f_R_law_49 v1 v2 (u5 43 10) u5
    else
      f_R_law_49 v1 v2 (u5 43 11) u5
theorem t_R_law_26 {X : jX} {Qf : Int × Wd → State → Prop} {ad : Nat → Nat} (C : Cx X prog_14_method_33_code "EachBringsAnotherModel") (hn : xn X = 4) (hR : xR X = rmD 2) (hr : Rt X Qf ad prog_14_method_33_code 0) (v1 v2 s0 s1 s2 : Int) (w : Wd) : VF X Qf ad NF 0 0 w 26 [(0, (2, 44)), (1, (0, v1)), (2, (0, v2))] [(0, s2), (0, s1), (0, s0)] (f_R_law_26 v1 v2 s0 s1 s2 w) := by
  unfold f_R_law_26
  refine vf_callSz C cy_R_in ml_R_147 (ct_R_in _ _ _ _) (S := []) (jrm_of hR rfl) rfl rfl (Nat.le_of_ble_eq_true rfl) (zdg dz_R_law_0 15 rfl) (fun r4 u5 => ?_)
  refine vf_if_ne C (off := 5) (tgt := 34) (zdg dz_R_law_0 16 rfl) (by decide) ?_ ?_
  · refine vf_iload_n C (f := 1) (zdg dz_R_law_0 19 rfl) 1 rfl rfl ?_
    refine vf_if_ne C (off := 10) (tgt := 45) (zdg dz_R_law_0 20 rfl) (by decide) ?_ ?_
    · refine vf_aload_n C (f := 0) (zdg dz_R_law_1 0 rfl) 0 rfl rfl ?_
      refine vf_get C (kd := 0) fl_R_36 sh_43 rfl (by decide) rfl rfl (zdg dz_R_law_1 1 rfl) ?_
      exact t_R_law_49 C hn hR hr _ _ _ _
    · refine vf_aload_n C (f := 0) (zdg dz_R_law_0 21 rfl) 0 rfl rfl ?_
      refine vf_get C (kd := 0) fl_R_32 sh_43 rfl (by decide) rfl rfl (zdg dz_R_law_0 22 rfl) ?_
      refine vf_goto C (off := 7) (tgt := 49) (zdg dz_R_law_0 23 rfl) (by decide) ?_
      exact t_R_law_49 C hn hR hr _ _ _ _
  · refine vf_iconst C (z := (-1)) (zdg dz_R_law_0 17 rfl) (jz rfl) ?_
    exact hr _ _ _ _ (fun h => absurd h (by decide)) (zdg dz_R_law_0 18 rfl)
def f_R_law (v1 v2 : Int) (w : Wd) : Option (Int × Wd) :=
  jlw (st w 43 16 0) fun u1 =>
  jcall (f_R_in v1 0 1 u1) fun r2 u3 =>
  if r2 = 0 then
    some ((-1), u3)
  else
    if v1 = 0 then
      f_R_law_26 v1 v2 v2 1 3 u3
    else
      f_R_law_26 v1 v2 v2 1 10 u3
theorem ct_R_law (v1 v2 : Int) (w : Wd) : Ct y_R_law prog_14_method_33_code 4 (some .int) 2 0 [(2, 44), (0, v1), (0, v2)] w (f_R_law v1 v2 w) := by
  refine ct_of (by decide +kernel) (Or.inl ⟨rfl, rfl⟩) (Nat.le_of_ble_eq_true rfl) ?_
  intro X Qf ad C hn hR hr
  unfold f_R_law
  show VF X Qf ad NF 0 0 w 0 [(0, (2, 44)), (1, (0, v1)), (2, (0, v2))] [] _
  refine vf_aload_n C (f := 0) (zdg dz_R_law_0 0 rfl) 0 rfl rfl ?_
  refine vf_iconst C (z := 0) (zdg dz_R_law_0 1 rfl) (jz rfl) ?_
  refine vf_put C (kd := 0) fl_R_138 fk_11_16 sh_43 rfl (by decide) rfl rfl (by decide) (zdg dz_R_law_0 2 rfl) ?_
  generalize st w 43 16 0 = u1
  refine vf_uw ?_
  refine vf_iload_n C (f := 1) (zdg dz_R_law_0 3 rfl) 1 rfl rfl ?_
  refine vf_iconst C (z := 0) (zdg dz_R_law_0 4 rfl) (jz rfl) ?_
  refine vf_iconst C (z := 1) (zdg dz_R_law_0 5 rfl) (jz rfl) ?_
  refine vf_callSz C cy_R_in ml_R_147 (ct_R_in _ _ _ _) (S := []) (jrm_of hR rfl) rfl rfl (Nat.le_of_ble_eq_true rfl) (zdg dz_R_law_0 6 rfl) (fun r2 u3 => ?_)
  refine vf_if_eq C (off := 21) (tgt := 32) (zdg dz_R_law_0 7 rfl) (by decide) ?_ ?_
  · refine vf_iconst C (z := (-1)) (zdg dz_R_law_0 17 rfl) (jz rfl) ?_
    exact hr _ _ _ _ (fun h => absurd h (by decide)) (zdg dz_R_law_0 18 rfl)
  · refine vf_iload_n C (f := 2) (zdg dz_R_law_0 8 rfl) 2 rfl rfl ?_
    refine vf_iconst C (z := 1) (zdg dz_R_law_0 9 rfl) (jz rfl) ?_
    refine vf_iload_n C (f := 1) (zdg dz_R_law_0 10 rfl) 1 rfl rfl ?_
    refine vf_if_ne C (off := 7) (tgt := 24) (zdg dz_R_law_0 11 rfl) (by decide) ?_ ?_
    · refine vf_bipush C (z := 10) (zdg dz_R_law_0 14 rfl) (by decide +kernel) (jz rfl) ?_
      exact t_R_law_26 C hn hR hr _ _ _ _ _ _
    · refine vf_iconst C (z := 3) (zdg dz_R_law_0 12 rfl) (jz rfl) ?_
      refine vf_goto C (off := 5) (tgt := 26) (zdg dz_R_law_0 13 rfl) (by decide) ?_
      exact t_R_law_26 C hn hR hr _ _ _ _ _ _
def f_R_meet_85 (s1 s2 : Int) (w : Wd) : Option (Int × Wd) :=
  jgd ((0 : Int) ≤ s1 ∧ s1 < 10) <|
  jlw (st w 45 s1.toNat s2) fun u5 =>
  some (1, u5)
theorem t_R_meet_85 {X : jX} {Qf : Int × Wd → State → Prop} {ad : Nat → Nat} (C : Cx X prog_14_method_34_code "EachBringsAnotherModel") (hn : xn X = 4) (hR : xR X = rmD 4) (hr : Rt X Qf ad prog_14_method_34_code 4) (s1 s2 : Int) (w : Wd) : VF X Qf ad NF 0 0 w 85 [] [(0, s2), (0, s1), (2, 46)] (f_R_meet_85 s1 s2 w) := by
  unfold f_R_meet_85
  refine vf_iast C sh_45 (by decide) rfl (mz := 10) rfl (zdg dz_R_meet_2 11 rfl) ?_
  generalize st w 45 s1.toNat s2 = u5
  refine vf_uw ?_
  refine vf_iconst C (z := 1) (zdg dz_R_meet_2 12 rfl) (jz rfl) ?_
  exact hr _ _ _ _ (fun _ => Or.inr rfl) (zdg dz_R_meet_2 13 rfl)
def f_R_meet_50 (v1 v2 v3 s1 s2 : Int) (w : Wd) : Option (Int × Wd) :=
  jgd ((0 : Int) ≤ s1 ∧ s1 < 10) <|
  jlw (st w 45 s1.toNat s2) fun u4 =>
  if v3 = 0 then
    jgd ((0 : Int) ≤ v2 ∧ v2 < 10) <|
    f_R_meet_85 v2 (iand (u4 45 v2.toNat) (ixor (ishl 1 v1) (-1))) u4
  else
    jgd ((0 : Int) ≤ v2 ∧ v2 < 10) <|
    f_R_meet_85 v2 (ior (u4 45 v2.toNat) (ishl 1 v1)) u4
theorem t_R_meet_50 {X : jX} {Qf : Int × Wd → State → Prop} {ad : Nat → Nat} (C : Cx X prog_14_method_34_code "EachBringsAnotherModel") (hn : xn X = 4) (hR : xR X = rmD 4) (hr : Rt X Qf ad prog_14_method_34_code 4) (v1 v2 v3 s1 s2 : Int) (w : Wd) : VF X Qf ad NF 0 0 w 50 [(0, (2, 44)), (1, (0, v1)), (2, (0, v2)), (3, (0, v3))] [(0, s2), (0, s1), (2, 46)] (f_R_meet_50 v1 v2 v3 s1 s2 w) := by
  unfold f_R_meet_50
  refine vf_iast C sh_45 (by decide) rfl (mz := 10) rfl (zdg dz_R_meet_1 10 rfl) ?_
  generalize st w 45 s1.toNat s2 = u4
  refine vf_uw ?_
  refine vf_aload_n C (f := 0) (zdg dz_R_meet_1 11 rfl) 0 rfl rfl ?_
  refine vf_getp C fl_R_13 sh_43 rfl (by decide) rfl (x := 46) rfl (zdg dz_R_meet_1 12 rfl) ?_
  refine vf_iload_n C (f := 2) (zdg dz_R_meet_1 13 rfl) 2 rfl rfl ?_
  refine vf_iload_n C (f := 3) (zdg dz_R_meet_1 14 rfl) 3 rfl rfl ?_
  refine vf_if_eq C (off := 16) (tgt := 73) (zdg dz_R_meet_1 15 rfl) (by decide) ?_ ?_
  · refine vf_aload_n C (f := 0) (zdg dz_R_meet_2 1 rfl) 0 rfl rfl ?_
    refine vf_getp C fl_R_13 sh_43 rfl (by decide) rfl (x := 46) rfl (zdg dz_R_meet_2 2 rfl) ?_
    refine vf_iload_n C (f := 2) (zdg dz_R_meet_2 3 rfl) 2 rfl rfl ?_
    refine vf_iald C sh_45 (by decide) rfl (mz := 10) rfl (zdg dz_R_meet_2 4 rfl) ?_
    refine vf_iconst C (z := 1) (zdg dz_R_meet_2 5 rfl) (jz rfl) ?_
    refine vf_iload_n C (f := 1) (zdg dz_R_meet_2 6 rfl) 1 rfl rfl ?_
    refine vf_ishl C (zdg dz_R_meet_2 7 rfl) ?_
    refine vf_iconst C (z := (-1)) (zdg dz_R_meet_2 8 rfl) (jz rfl) ?_
    refine vf_ixor C (zdg dz_R_meet_2 9 rfl) ?_
    refine vf_iand C (zdg dz_R_meet_2 10 rfl) ?_
    exact vf_perm [] rfl (t_R_meet_85 C hn hR hr _ _ _)
  · refine vf_aload_n C (f := 0) (zdg dz_R_meet_1 16 rfl) 0 rfl rfl ?_
    refine vf_getp C fl_R_13 sh_43 rfl (by decide) rfl (x := 46) rfl (zdg dz_R_meet_1 17 rfl) ?_
    refine vf_iload_n C (f := 2) (zdg dz_R_meet_1 18 rfl) 2 rfl rfl ?_
    refine vf_iald C sh_45 (by decide) rfl (mz := 10) rfl (zdg dz_R_meet_1 19 rfl) ?_
    refine vf_iconst C (z := 1) (zdg dz_R_meet_1 20 rfl) (jz rfl) ?_
    refine vf_iload_n C (f := 1) (zdg dz_R_meet_1 21 rfl) 1 rfl rfl ?_
    refine vf_ishl C (zdg dz_R_meet_1 22 rfl) ?_
    refine vf_ior C (zdg dz_R_meet_1 23 rfl) ?_
    refine vf_goto C (off := 15) (tgt := 85) (zdg dz_R_meet_2 0 rfl) (by decide) ?_
    exact vf_perm [] rfl (t_R_meet_85 C hn hR hr _ _ _)
def f_R_meet (v1 v2 v3 : Int) (w : Wd) : Option (Int × Wd) :=
  jlw (st w 43 16 0) fun u1 =>
  jcall (f_R_areTwo v1 v2 u1) fun r2 u3 =>
  if r2 = 0 then
    some (0, u3)
  else
    if v3 = 0 then
      jgd ((0 : Int) ≤ v1 ∧ v1 < 10) <|
      f_R_meet_50 v1 v2 v3 v1 (iand (u3 45 v1.toNat) (ixor (ishl 1 v2) (-1))) u3
    else
      jgd ((0 : Int) ≤ v1 ∧ v1 < 10) <|
      f_R_meet_50 v1 v2 v3 v1 (ior (u3 45 v1.toNat) (ishl 1 v2)) u3
theorem ct_R_meet (v1 v2 v3 : Int) (w : Wd) : Ct y_R_meet prog_14_method_34_code 4 (some .boolean) 4 4 [(2, 44), (0, v1), (0, v2), (0, v3)] w (f_R_meet v1 v2 v3 w) := by
  refine ct_of (by decide +kernel) (Or.inr (Or.inr (Or.inl ⟨rfl, rfl⟩))) (Nat.le_of_ble_eq_true rfl) ?_
  intro X Qf ad C hn hR hr
  unfold f_R_meet
  show VF X Qf ad NF 0 0 w 0 [(0, (2, 44)), (1, (0, v1)), (2, (0, v2)), (3, (0, v3))] [] _
  refine vf_aload_n C (f := 0) (zdg dz_R_meet_0 0 rfl) 0 rfl rfl ?_
  refine vf_iconst C (z := 0) (zdg dz_R_meet_0 1 rfl) (jz rfl) ?_
  refine vf_put C (kd := 0) fl_R_138 fk_11_16 sh_43 rfl (by decide) rfl rfl (by decide) (zdg dz_R_meet_0 2 rfl) ?_
  generalize st w 43 16 0 = u1
  refine vf_uw ?_
  refine vf_aload_n C (f := 0) (zdg dz_R_meet_0 3 rfl) 0 rfl rfl ?_
  refine vf_iload_n C (f := 1) (zdg dz_R_meet_0 4 rfl) 1 rfl rfl ?_
  refine vf_iload_n C (f := 2) (zdg dz_R_meet_0 5 rfl) 2 rfl rfl ?_
  refine vf_callVz C cy_R_areTwo ml_R_259 rfl (ct_R_areTwo _ _ _) (S := []) sh_43 (by decide) rfl (jrm_of hR rfl) rfl rfl (Nat.le_of_ble_eq_true rfl) (zdg dz_R_meet_0 6 rfl) (fun r2 u3 => ?_)
  refine vf_if_ne C (off := 5) (tgt := 16) (zdg dz_R_meet_0 7 rfl) (by decide) ?_ ?_
  · refine vf_aload_n C (f := 0) (zdg dz_R_meet_0 10 rfl) 0 rfl rfl ?_
    refine vf_getp C fl_R_13 sh_43 rfl (by decide) rfl (x := 46) rfl (zdg dz_R_meet_0 11 rfl) ?_
    refine vf_iload_n C (f := 1) (zdg dz_R_meet_0 12 rfl) 1 rfl rfl ?_
    refine vf_iload_n C (f := 3) (zdg dz_R_meet_0 13 rfl) 3 rfl rfl ?_
    refine vf_if_eq C (off := 16) (tgt := 38) (zdg dz_R_meet_0 14 rfl) (by decide) ?_ ?_
    · refine vf_aload_n C (f := 0) (zdg dz_R_meet_1 0 rfl) 0 rfl rfl ?_
      refine vf_getp C fl_R_13 sh_43 rfl (by decide) rfl (x := 46) rfl (zdg dz_R_meet_1 1 rfl) ?_
      refine vf_iload_n C (f := 1) (zdg dz_R_meet_1 2 rfl) 1 rfl rfl ?_
      refine vf_iald C sh_45 (by decide) rfl (mz := 10) rfl (zdg dz_R_meet_1 3 rfl) ?_
      refine vf_iconst C (z := 1) (zdg dz_R_meet_1 4 rfl) (jz rfl) ?_
      refine vf_iload_n C (f := 2) (zdg dz_R_meet_1 5 rfl) 2 rfl rfl ?_
      refine vf_ishl C (zdg dz_R_meet_1 6 rfl) ?_
      refine vf_iconst C (z := (-1)) (zdg dz_R_meet_1 7 rfl) (jz rfl) ?_
      refine vf_ixor C (zdg dz_R_meet_1 8 rfl) ?_
      refine vf_iand C (zdg dz_R_meet_1 9 rfl) ?_
      exact t_R_meet_50 C hn hR hr _ _ _ _ _ _
    · refine vf_aload_n C (f := 0) (zdg dz_R_meet_0 15 rfl) 0 rfl rfl ?_
      refine vf_getp C fl_R_13 sh_43 rfl (by decide) rfl (x := 46) rfl (zdg dz_R_meet_0 16 rfl) ?_
      refine vf_iload_n C (f := 1) (zdg dz_R_meet_0 17 rfl) 1 rfl rfl ?_
      refine vf_iald C sh_45 (by decide) rfl (mz := 10) rfl (zdg dz_R_meet_0 18 rfl) ?_
      refine vf_iconst C (z := 1) (zdg dz_R_meet_0 19 rfl) (jz rfl) ?_
      refine vf_iload_n C (f := 2) (zdg dz_R_meet_0 20 rfl) 2 rfl rfl ?_
      refine vf_ishl C (zdg dz_R_meet_0 21 rfl) ?_
      refine vf_ior C (zdg dz_R_meet_0 22 rfl) ?_
      refine vf_goto C (off := 15) (tgt := 50) (zdg dz_R_meet_0 23 rfl) (by decide) ?_
      exact t_R_meet_50 C hn hR hr _ _ _ _ _ _
  · refine vf_iconst C (z := 0) (zdg dz_R_meet_0 8 rfl) (jz rfl) ?_
    exact hr _ _ _ _ (fun _ => Or.inl rfl) (zdg dz_R_meet_0 9 rfl)
def f_R_hide (v1 v2 : Int) (w : Wd) : Option (Int × Wd) :=
  jlw (st w 43 16 0) fun u1 =>
  jcall (f_R_isOne v1 u1) fun r2 u3 =>
  if r2 = 0 then
    some (0, u3)
  else
    jgd ((0 : Int) ≤ v1 ∧ v1 < 10) <|
    jlw (st u3 46 v1.toNat (nz v2)) fun u4 =>
    some (1, u4)
theorem ct_R_hide (v1 v2 : Int) (w : Wd) : Ct y_R_hide prog_14_method_35_code 3 (some .boolean) 3 4 [(2, 44), (0, v1), (0, v2)] w (f_R_hide v1 v2 w) := by
  refine ct_of (by decide +kernel) (Or.inr (Or.inr (Or.inl ⟨rfl, rfl⟩))) (Nat.le_of_ble_eq_true rfl) ?_
  intro X Qf ad C hn hR hr
  unfold f_R_hide
  show VF X Qf ad NF 0 0 w 0 [(0, (2, 44)), (1, (0, v1)), (2, (0, v2))] [] _
  refine vf_aload_n C (f := 0) (zdg dz_R_hide_0 0 rfl) 0 rfl rfl ?_
  refine vf_iconst C (z := 0) (zdg dz_R_hide_0 1 rfl) (jz rfl) ?_
  refine vf_put C (kd := 0) fl_R_138 fk_11_16 sh_43 rfl (by decide) rfl rfl (by decide) (zdg dz_R_hide_0 2 rfl) ?_
  generalize st w 43 16 0 = u1
  refine vf_uw ?_
  refine vf_aload_n C (f := 0) (zdg dz_R_hide_0 3 rfl) 0 rfl rfl ?_
  refine vf_iload_n C (f := 1) (zdg dz_R_hide_0 4 rfl) 1 rfl rfl ?_
  refine vf_callVz C cy_R_isOne ml_R_151 rfl (ct_R_isOne _ _) (S := []) sh_43 (by decide) rfl (jrm_of hR rfl) rfl rfl (Nat.le_of_ble_eq_true rfl) (zdg dz_R_hide_0 5 rfl) (fun r2 u3 => ?_)
  refine vf_if_ne C (off := 5) (tgt := 15) (zdg dz_R_hide_0 6 rfl) (by decide) ?_ ?_
  · refine vf_aload_n C (f := 0) (zdg dz_R_hide_0 9 rfl) 0 rfl rfl ?_
    refine vf_getp C fl_R_16 sh_43 rfl (by decide) rfl (x := 47) rfl (zdg dz_R_hide_0 10 rfl) ?_
    refine vf_iload_n C (f := 1) (zdg dz_R_hide_0 11 rfl) 1 rfl rfl ?_
    refine vf_iload_n C (f := 2) (zdg dz_R_hide_0 12 rfl) 2 rfl rfl ?_
    refine vf_zast C sh_46 (by decide) rfl (mz := 10) rfl (zdg dz_R_hide_0 13 rfl) ?_
    generalize st u3 46 v1.toNat (nz v2) = u4
    refine vf_uw ?_
    refine vf_iconst C (z := 1) (zdg dz_R_hide_0 14 rfl) (jz rfl) ?_
    exact hr _ _ _ _ (fun _ => Or.inr rfl) (zdg dz_R_hide_0 15 rfl)
  · refine vf_iconst C (z := 0) (zdg dz_R_hide_0 7 rfl) (jz rfl) ?_
    exact hr _ _ _ _ (fun _ => Or.inl rfl) (zdg dz_R_hide_0 8 rfl)
def f_R_baby (v1 : Int) (w : Wd) : Option (Int × Wd) :=
  jlw (st w 43 16 0) fun u1 =>
  jcall (f_R_in v1 0 (w32 ((ishl 1 (u1 43 0)) - 1)) u1) fun r2 u3 =>
  if r2 = 0 then
    some ((-1), u3)
  else
    if (u3 43 0) = 10 then
      some ((-1), u3)
    else
      jcall (f_R_add (u3 43 0) 0 v1 0 0 u3) fun r4 u5 =>
      jlw (st u5 43 0 (w32 ((u5 43 0) + 1))) fun u6 =>
      jcall (f_R_told u6) fun r7 u8 =>
      some (w32 ((u8 43 0) - 1), u8)
theorem ct_R_baby (v1 : Int) (w : Wd) : Ct y_R_baby prog_14_method_36_code 2 (some .int) 5 0 [(2, 44), (0, v1)] w (f_R_baby v1 w) := by
  refine ct_of (by decide +kernel) (Or.inl ⟨rfl, rfl⟩) (Nat.le_of_ble_eq_true rfl) ?_
  intro X Qf ad C hn hR hr
  unfold f_R_baby
  show VF X Qf ad NF 0 0 w 0 [(0, (2, 44)), (1, (0, v1))] [] _
  refine vf_aload_n C (f := 0) (zdg dz_R_baby_0 0 rfl) 0 rfl rfl ?_
  refine vf_iconst C (z := 0) (zdg dz_R_baby_0 1 rfl) (jz rfl) ?_
  refine vf_put C (kd := 0) fl_R_138 fk_11_16 sh_43 rfl (by decide) rfl rfl (by decide) (zdg dz_R_baby_0 2 rfl) ?_
  generalize st w 43 16 0 = u1
  refine vf_uw ?_
  refine vf_iload_n C (f := 1) (zdg dz_R_baby_0 3 rfl) 1 rfl rfl ?_
  refine vf_iconst C (z := 0) (zdg dz_R_baby_0 4 rfl) (jz rfl) ?_
  refine vf_iconst C (z := 1) (zdg dz_R_baby_0 5 rfl) (jz rfl) ?_
  refine vf_aload_n C (f := 0) (zdg dz_R_baby_0 6 rfl) 0 rfl rfl ?_
  refine vf_get C (kd := 0) fl_R_144 sh_43 rfl (by decide) rfl rfl (zdg dz_R_baby_0 7 rfl) ?_
  refine vf_ishl C (zdg dz_R_baby_0 8 rfl) ?_
  refine vf_iconst C (z := 1) (zdg dz_R_baby_0 9 rfl) (jz rfl) ?_
  refine vf_isub C (zdg dz_R_baby_0 10 rfl) ?_
  refine vf_callSz C cy_R_in ml_R_147 (ct_R_in _ _ _ _) (S := []) (jrm_of hR rfl) rfl rfl (Nat.le_of_ble_eq_true rfl) (zdg dz_R_baby_0 11 rfl) (fun r2 u3 => ?_)
  refine vf_if_eq C (off := 12) (tgt := 30) (zdg dz_R_baby_0 12 rfl) (by decide) ?_ ?_
  · refine vf_iconst C (z := (-1)) (zdg dz_R_baby_0 17 rfl) (jz rfl) ?_
    exact hr _ _ _ _ (fun h => absurd h (by decide)) (zdg dz_R_baby_0 18 rfl)
  · refine vf_aload_n C (f := 0) (zdg dz_R_baby_0 13 rfl) 0 rfl rfl ?_
    refine vf_get C (kd := 0) fl_R_144 sh_43 rfl (by decide) rfl rfl (zdg dz_R_baby_0 14 rfl) ?_
    refine vf_bipush C (z := 10) (zdg dz_R_baby_0 15 rfl) (by decide +kernel) (jz rfl) ?_
    refine vf_icmp_ne C (off := 5) (tgt := 32) (zdg dz_R_baby_0 16 rfl) (by decide) ?_ ?_
    · refine vf_aload_n C (f := 0) (zdg dz_R_baby_0 19 rfl) 0 rfl rfl ?_
      refine vf_aload_n C (f := 0) (zdg dz_R_baby_0 20 rfl) 0 rfl rfl ?_
      refine vf_get C (kd := 0) fl_R_144 sh_43 rfl (by decide) rfl rfl (zdg dz_R_baby_0 21 rfl) ?_
      refine vf_iconst C (z := 0) (zdg dz_R_baby_0 22 rfl) (jz rfl) ?_
      refine vf_iload_n C (f := 1) (zdg dz_R_baby_0 23 rfl) 1 rfl rfl ?_
      refine vf_iconst C (z := 0) (zdg dz_R_baby_1 0 rfl) (jz rfl) ?_
      refine vf_iconst C (z := 0) (zdg dz_R_baby_1 1 rfl) (jz rfl) ?_
      refine vf_callVv C cy_R_add ml_R_203 rfl (ct_R_add _ _ _ _ _ _) (S := []) sh_43 (by decide) rfl (jrm_of hR rfl) rfl rfl (Nat.le_of_ble_eq_true rfl) (zdg dz_R_baby_1 2 rfl) (fun r4 u5 => ?_)
      refine vf_aload_n C (f := 0) (zdg dz_R_baby_1 3 rfl) 0 rfl rfl ?_
      refine vf_dup C (zdg dz_R_baby_1 4 rfl) (Nat.succ_ne_self 1) ?_
      refine vf_get C (kd := 0) fl_R_144 sh_43 rfl (by decide) rfl rfl (zdg dz_R_baby_1 5 rfl) ?_
      refine vf_iconst C (z := 1) (zdg dz_R_baby_1 6 rfl) (jz rfl) ?_
      refine vf_iadd C (zdg dz_R_baby_1 7 rfl) ?_
      refine vf_put C (kd := 0) fl_R_144 fk_11_0 sh_43 rfl (by decide) rfl rfl (by decide) (zdg dz_R_baby_1 8 rfl) ?_
      generalize st u5 43 0 (w32 ((u5 43 0) + 1)) = u6
      refine vf_uw ?_
      refine vf_aload_n C (f := 0) (zdg dz_R_baby_1 9 rfl) 0 rfl rfl ?_
      refine vf_callVv C cy_R_told ml_R_207 rfl (ct_R_told _) (S := []) sh_43 (by decide) rfl (jrm_of hR rfl) rfl rfl (Nat.le_of_ble_eq_true rfl) (zdg dz_R_baby_1 10 rfl) (fun r7 u8 => ?_)
      refine vf_aload_n C (f := 0) (zdg dz_R_baby_1 11 rfl) 0 rfl rfl ?_
      refine vf_get C (kd := 0) fl_R_144 sh_43 rfl (by decide) rfl rfl (zdg dz_R_baby_1 12 rfl) ?_
      refine vf_iconst C (z := 1) (zdg dz_R_baby_1 13 rfl) (jz rfl) ?_
      refine vf_isub C (zdg dz_R_baby_1 14 rfl) ?_
      exact hr _ _ _ _ (fun h => absurd h (by decide)) (zdg dz_R_baby_1 15 rfl)
    · refine vf_iconst C (z := (-1)) (zdg dz_R_baby_0 17 rfl) (jz rfl) ?_
      exact hr _ _ _ _ (fun h => absurd h (by decide)) (zdg dz_R_baby_0 18 rfl)
def f_R_sheet_109 (k43 : Int → Int → Int → Int → Int → Int → Wd → Option (Int × Wd)) (v1 v2 v4 v5 v6 v7 s1 s2 : Int) (w : Wd) : Option (Int × Wd) :=
  jgd ((0 : Int) ≤ s1 ∧ s1 < 10) <|
  jlw (st w 44 s1.toNat s2) fun u4 =>
  jgd ((0 : Int) ≤ v7 ∧ v7 < 10) <|
  jlet (w32 (v5 + (u4 44 v7.toNat))) fun x5 =>
  jlet (w32 (v6 + v4)) fun x6 =>
  jlet (w32 (v7 + 1)) fun x7 =>
  k43 v1 v2 v4 x5 x6 x7 u4
theorem t_R_sheet_109 {X : jX} {Qf : Int × Wd → State → Prop} {ad : Nat → Nat} (C : Cx X prog_14_method_37_code "EachBringsAnotherModel") (hn : xn X = 9) (hR : xR X = rmD 2) (hr : Rt X Qf ad prog_14_method_37_code 0) {k43 : Int → Int → Int → Int → Int → Int → Wd → Option (Int × Wd)} (hk43 : ∀ (v1 v2 v4 v5 v6 v7 : Int) (w : Wd), VF X Qf ad NF 0 0 w 43 [(0, (2, 44)), (1, (0, v1)), (2, (0, v2)), (4, (0, v4)), (5, (0, v5)), (6, (0, v6)), (7, (0, v7))] [] (k43 v1 v2 v4 v5 v6 v7 w)) (v1 v2 v4 v5 v6 v7 s1 s2 : Int) (w : Wd) : VF X Qf ad NF 0 0 w 109 [(0, (2, 44)), (1, (0, v1)), (2, (0, v2)), (4, (0, v4)), (5, (0, v5)), (6, (0, v6)), (7, (0, v7))] [(0, s2), (0, s1), (2, 45)] (f_R_sheet_109 k43 v1 v2 v4 v5 v6 v7 s1 s2 w) := by
  unfold f_R_sheet_109
  refine vf_iast C sh_44 (by decide) rfl (mz := 10) rfl (zdg dz_R_sheet_2 11 rfl) ?_
  generalize st w 44 s1.toNat s2 = u4
  refine vf_uw ?_
  refine vf_iload C (zdg dz_R_sheet_2 12 rfl) 4 rfl ?_
  refine vf_aload_n C (f := 0) (zdg dz_R_sheet_2 13 rfl) 0 rfl rfl ?_
  refine vf_getp C fl_R_9 sh_43 rfl (by decide) rfl (x := 45) rfl (zdg dz_R_sheet_2 14 rfl) ?_
  refine vf_iload C (zdg dz_R_sheet_2 15 rfl) 6 rfl ?_
  refine vf_iald C sh_44 (by decide) rfl (mz := 10) rfl (zdg dz_R_sheet_2 16 rfl) ?_
  refine vf_iadd C (zdg dz_R_sheet_2 17 rfl) ?_
  generalize w32 (v5 + (u4 44 v7.toNat)) = x5
  refine vf_ul ?_
  refine vf_istore C (i := 5) (L' := [(0, (2, 44)), (1, (0, v1)), (2, (0, v2)), (4, (0, v4)), (6, (0, v6)), (7, (0, v7))]) (zdg dz_R_sheet_2 18 rfl) [0, 1, 2, 3, 5, 6] (jrI rfl rfl) hn (by decide) ?_
  refine vf_iload C (zdg dz_R_sheet_2 19 rfl) 5 rfl ?_
  refine vf_iload C (zdg dz_R_sheet_2 20 rfl) 4 rfl ?_
  refine vf_iadd C (zdg dz_R_sheet_2 21 rfl) ?_
  generalize w32 (v6 + v4) = x6
  refine vf_ul ?_
  refine vf_istore C (i := 6) (L' := [(5, (0, x5)), (0, (2, 44)), (1, (0, v1)), (2, (0, v2)), (4, (0, v4)), (7, (0, v7))]) (zdg dz_R_sheet_2 22 rfl) [0, 1, 2, 3, 4, 6] (jrI rfl rfl) hn (by decide) ?_
  refine vf_iinc C (z := 1) (L' := [(6, (0, x6)), (5, (0, x5)), (0, (2, 44)), (1, (0, v1)), (2, (0, v2)), (4, (0, v4))]) (zdg dz_R_sheet_2 23 rfl) 6 rfl [0, 1, 2, 3, 4, 5] (jrI rfl rfl) hn (by decide) ?_
  generalize w32 (v7 + 1) = x7
  refine vf_ul ?_
  refine vf_goto C (off := (-89)) (tgt := 43) (zdg dz_R_sheet_3 0 rfl) (by decide) ?_
  exact vf_perm [3, 4, 5, 6, 2, 1, 0] rfl (hk43 _ _ _ _ _ _ _)
def f_R_sheet_94 (k43 : Int → Int → Int → Int → Int → Int → Wd → Option (Int × Wd)) (v1 v2 v4 v5 v6 v7 s1 : Int) (w : Wd) : Option (Int × Wd) :=
  f_R_sheet_109 k43 v1 v2 v4 v5 v6 v7 s1 0 w
theorem t_R_sheet_94 {X : jX} {Qf : Int × Wd → State → Prop} {ad : Nat → Nat} (C : Cx X prog_14_method_37_code "EachBringsAnotherModel") (hn : xn X = 9) (hR : xR X = rmD 2) (hr : Rt X Qf ad prog_14_method_37_code 0) {k43 : Int → Int → Int → Int → Int → Int → Wd → Option (Int × Wd)} (hk43 : ∀ (v1 v2 v4 v5 v6 v7 : Int) (w : Wd), VF X Qf ad NF 0 0 w 43 [(0, (2, 44)), (1, (0, v1)), (2, (0, v2)), (4, (0, v4)), (5, (0, v5)), (6, (0, v6)), (7, (0, v7))] [] (k43 v1 v2 v4 v5 v6 v7 w)) (v1 v2 v4 v5 v6 v7 s1 : Int) (w : Wd) : VF X Qf ad NF 0 0 w 94 [(0, (2, 44)), (1, (0, v1)), (2, (0, v2)), (4, (0, v4)), (5, (0, v5)), (6, (0, v6)), (7, (0, v7))] [(0, s1), (2, 45)] (f_R_sheet_94 k43 v1 v2 v4 v5 v6 v7 s1 w) := by
  unfold f_R_sheet_94
  refine vf_iconst C (z := 0) (zdg dz_R_sheet_2 4 rfl) (jz rfl) ?_
  refine vf_goto C (off := 14) (tgt := 109) (zdg dz_R_sheet_2 5 rfl) (by decide) ?_
  exact t_R_sheet_109 C hn hR hr hk43 _ _ _ _ _ _ _ _ _
def f_R_sheet_75 (k43 : Int → Int → Int → Int → Int → Int → Wd → Option (Int × Wd)) (v1 v2 v4 v5 v6 v7 s0 : Int) (w : Wd) : Option (Int × Wd) :=
  if v1 = 3 then
    f_R_sheet_94 k43 v1 v2 v4 v5 v6 v7 v7 w
  else
    if v7 < v2 then
      f_R_sheet_109 k43 v1 v2 v4 v5 v6 v7 v7 (imax 0 (imin 9 s0)) w
    else
      f_R_sheet_94 k43 v1 v2 v4 v5 v6 v7 v7 w
theorem t_R_sheet_75 {X : jX} {Qf : Int × Wd → State → Prop} {ad : Nat → Nat} (C : Cx X prog_14_method_37_code "EachBringsAnotherModel") (hn : xn X = 9) (hR : xR X = rmD 2) (hr : Rt X Qf ad prog_14_method_37_code 0) {k43 : Int → Int → Int → Int → Int → Int → Wd → Option (Int × Wd)} (hk43 : ∀ (v1 v2 v4 v5 v6 v7 : Int) (w : Wd), VF X Qf ad NF 0 0 w 43 [(0, (2, 44)), (1, (0, v1)), (2, (0, v2)), (4, (0, v4)), (5, (0, v5)), (6, (0, v6)), (7, (0, v7))] [] (k43 v1 v2 v4 v5 v6 v7 w)) (v1 v2 v4 v5 v6 v7 s0 : Int) (w : Wd) : VF X Qf ad NF 0 0 w 75 [(0, (2, 44)), (1, (0, v1)), (2, (0, v2)), (4, (0, v4)), (5, (0, v5)), (6, (0, v6)), (7, (0, v7))] [(0, s0)] (f_R_sheet_75 k43 v1 v2 v4 v5 v6 v7 s0 w) := by
  unfold f_R_sheet_75
  refine vf_istore C (i := 8) (L' := [(0, (2, 44)), (1, (0, v1)), (2, (0, v2)), (4, (0, v4)), (5, (0, v5)), (6, (0, v6)), (7, (0, v7))]) (zdg dz_R_sheet_1 18 rfl) [0, 1, 2, 3, 4, 5, 6] (jrI rfl rfl) hn (by decide) ?_
  refine vf_aload_n C (f := 0) (zdg dz_R_sheet_1 19 rfl) 1 rfl rfl ?_
  refine vf_getp C fl_R_9 sh_43 rfl (by decide) rfl (x := 45) rfl (zdg dz_R_sheet_1 20 rfl) ?_
  refine vf_iload C (zdg dz_R_sheet_1 21 rfl) 7 rfl ?_
  refine vf_iload_n C (f := 1) (zdg dz_R_sheet_1 22 rfl) 2 rfl rfl ?_
  refine vf_iconst C (z := 3) (zdg dz_R_sheet_1 23 rfl) (jz rfl) ?_
  refine vf_icmp_eq C (off := 9) (tgt := 94) (zdg dz_R_sheet_2 0 rfl) (by decide) ?_ ?_
  · exact vf_perm [1, 2, 3, 4, 5, 6, 7] rfl (t_R_sheet_94 C hn hR hr hk43 _ _ _ _ _ _ _ _)
  · refine vf_iload C (zdg dz_R_sheet_2 1 rfl) 7 rfl ?_
    refine vf_iload_n C (f := 2) (zdg dz_R_sheet_2 2 rfl) 3 rfl rfl ?_
    refine vf_icmp_lt C (off := 7) (tgt := 98) (zdg dz_R_sheet_2 3 rfl) (by decide) ?_ ?_
    · refine vf_iconst C (z := 0) (zdg dz_R_sheet_2 6 rfl) (jz rfl) ?_
      refine vf_bipush C (z := 9) (zdg dz_R_sheet_2 7 rfl) (by decide +kernel) (jz rfl) ?_
      refine vf_iload C (zdg dz_R_sheet_2 8 rfl) 0 rfl ?_
      refine vf_mmin C ml_R_262 (jrm_n hR (by decide)) ⟨Nat.zero_le _, Nat.zero_le _⟩ (Nat.le_of_ble_eq_true rfl) (zdg dz_R_sheet_2 9 rfl) ?_
      refine vf_mmax C ml_R_267 (jrm_n hR (by decide)) ⟨Nat.zero_le _, Nat.zero_le _⟩ (Nat.le_of_ble_eq_true rfl) (zdg dz_R_sheet_2 10 rfl) ?_
      exact vf_perm [1, 2, 3, 4, 5, 6, 7] rfl (t_R_sheet_109 C hn hR hr hk43 _ _ _ _ _ _ _ _ _)
    · exact vf_perm [1, 2, 3, 4, 5, 6, 7] rfl (t_R_sheet_94 C hn hR hr hk43 _ _ _ _ _ _ _ _)
def f_R_sheet_43 : Nat → Int → Int → Int → Int → Int → Int → Wd → Option (Int × Wd)
  | 0, _, _, _, _, _, _, _ => none
  | n + 1, v1, v2, v4, v5, v6, v7, w =>
    if (w 43 0) ≤ v7 then
      if v1 = 3 then
        some ((-3), w)
      else
        some (v5, w)
    else
      if v1 = 0 then
        f_R_sheet_75 (f_R_sheet_43 n) v1 v2 v4 v5 v6 v7 (i2b v6) w
      else
        if v1 = 1 then
          f_R_sheet_75 (f_R_sheet_43 n) v1 v2 v4 v5 v6 v7 (i2s v6) w
        else
          f_R_sheet_75 (f_R_sheet_43 n) v1 v2 v4 v5 v6 v7 v6 w
theorem t_R_sheet_43 {X : jX} {Qf : Int × Wd → State → Prop} {ad : Nat → Nat} (C : Cx X prog_14_method_37_code "EachBringsAnotherModel") (hn : xn X = 9) (hR : xR X = rmD 2) (hr : Rt X Qf ad prog_14_method_37_code 0) : ∀ (n : Nat) (v1 v2 v4 v5 v6 v7 : Int) (w : Wd), VF X Qf ad NF 0 0 w 43 [(0, (2, 44)), (1, (0, v1)), (2, (0, v2)), (4, (0, v4)), (5, (0, v5)), (6, (0, v6)), (7, (0, v7))] [] (f_R_sheet_43 n v1 v2 v4 v5 v6 v7 w) := by
  intro n
  induction n with
  | zero => intros; exact vf_no
  | succ n ih =>
    intro v1 v2 v4 v5 v6 v7 w
    rw [f_R_sheet_43]
    refine vf_iload C (zdg dz_R_sheet_1 2 rfl) 6 rfl ?_
    refine vf_aload_n C (f := 0) (zdg dz_R_sheet_1 3 rfl) 0 rfl rfl ?_
    refine vf_get C (kd := 0) fl_R_144 sh_43 rfl (by decide) rfl rfl (zdg dz_R_sheet_1 4 rfl) ?_
    refine vf_icmp_ge C (off := 86) (tgt := 135) (zdg dz_R_sheet_1 5 rfl) (by decide) ?_ ?_
    · refine vf_iload_n C (f := 1) (zdg dz_R_sheet_3 1 rfl) 1 rfl rfl ?_
      refine vf_iconst C (z := 3) (zdg dz_R_sheet_3 2 rfl) (jz rfl) ?_
      refine vf_icmp_ne C (off := 8) (tgt := 145) (zdg dz_R_sheet_3 3 rfl) (by decide) ?_ ?_
      · refine vf_iload C (zdg dz_R_sheet_3 6 rfl) 4 rfl ?_
        exact hr _ _ _ _ (fun h => absurd h (by decide)) (zdg dz_R_sheet_3 7 rfl)
      · refine vf_bipush C (z := (-3)) (zdg dz_R_sheet_3 4 rfl) (by decide +kernel) (jz rfl) ?_
        refine vf_goto C (off := 5) (tgt := 147) (zdg dz_R_sheet_3 5 rfl) (by decide) ?_
        exact hr _ _ _ _ (fun h => absurd h (by decide)) (zdg dz_R_sheet_3 7 rfl)
    · refine vf_iload_n C (f := 1) (zdg dz_R_sheet_1 6 rfl) 1 rfl rfl ?_
      refine vf_if_ne C (off := 9) (tgt := 62) (zdg dz_R_sheet_1 7 rfl) (by decide) ?_ ?_
      · refine vf_iload_n C (f := 1) (zdg dz_R_sheet_1 11 rfl) 1 rfl rfl ?_
        refine vf_iconst C (z := 1) (zdg dz_R_sheet_1 12 rfl) (jz rfl) ?_
        refine vf_icmp_ne C (off := 9) (tgt := 73) (zdg dz_R_sheet_1 13 rfl) (by decide) ?_ ?_
        · refine vf_iload C (zdg dz_R_sheet_1 17 rfl) 5 rfl ?_
          exact t_R_sheet_75 C hn hR hr ih _ _ _ _ _ _ _ _
        · refine vf_iload C (zdg dz_R_sheet_1 14 rfl) 5 rfl ?_
          refine vf_i2s C (zdg dz_R_sheet_1 15 rfl) ?_
          refine vf_goto C (off := 5) (tgt := 75) (zdg dz_R_sheet_1 16 rfl) (by decide) ?_
          exact t_R_sheet_75 C hn hR hr ih _ _ _ _ _ _ _ _
      · refine vf_iload C (zdg dz_R_sheet_1 8 rfl) 5 rfl ?_
        refine vf_i2b C (zdg dz_R_sheet_1 9 rfl) ?_
        refine vf_goto C (off := 16) (tgt := 75) (zdg dz_R_sheet_1 10 rfl) (by decide) ?_
        exact t_R_sheet_75 C hn hR hr ih _ _ _ _ _ _ _ _
def f_R_sheet_34 (v1 v2 v3 v4 : Int) (w : Wd) : Option (Int × Wd) :=
  f_R_sheet_43 FU v1 v2 v4 0 v3 0 w
theorem t_R_sheet_34 {X : jX} {Qf : Int × Wd → State → Prop} {ad : Nat → Nat} (C : Cx X prog_14_method_37_code "EachBringsAnotherModel") (hn : xn X = 9) (hR : xR X = rmD 2) (hr : Rt X Qf ad prog_14_method_37_code 0) (v1 v2 v3 v4 : Int) (w : Wd) : VF X Qf ad NF 0 0 w 34 [(0, (2, 44)), (1, (0, v1)), (2, (0, v2)), (3, (0, v3)), (4, (0, v4))] [] (f_R_sheet_34 v1 v2 v3 v4 w) := by
  unfold f_R_sheet_34
  refine vf_iconst C (z := 0) (zdg dz_R_sheet_0 20 rfl) (jz rfl) ?_
  refine vf_istore C (i := 5) (L' := [(0, (2, 44)), (1, (0, v1)), (2, (0, v2)), (3, (0, v3)), (4, (0, v4))]) (zdg dz_R_sheet_0 21 rfl) [0, 1, 2, 3, 4] (jrI rfl rfl) hn (by decide) ?_
  refine vf_iload_n C (f := 3) (zdg dz_R_sheet_0 22 rfl) 4 rfl rfl ?_
  refine vf_istore C (i := 6) (L' := [(5, (0, 0)), (0, (2, 44)), (1, (0, v1)), (2, (0, v2)), (4, (0, v4))]) (zdg dz_R_sheet_0 23 rfl) [0, 1, 2, 3, 5] (jrI rfl rfl) hn (by decide) ?_
  refine vf_iconst C (z := 0) (zdg dz_R_sheet_1 0 rfl) (jz rfl) ?_
  refine vf_istore C (i := 7) (L' := [(6, (0, v3)), (5, (0, 0)), (0, (2, 44)), (1, (0, v1)), (2, (0, v2)), (4, (0, v4))]) (zdg dz_R_sheet_1 1 rfl) [0, 1, 2, 3, 4, 5] (jrI rfl rfl) hn (by decide) ?_
  exact vf_perm [3, 4, 5, 6, 2, 1, 0] rfl (t_R_sheet_43 C hn hR hr FU _ _ _ _ _ _ _)
def f_R_sheet (v1 v2 v3 v4 : Int) (w : Wd) : Option (Int × Wd) :=
  jlw (st w 43 16 0) fun u1 =>
  jcall (f_R_in v1 0 3 u1) fun r2 u3 =>
  if r2 = 0 then
    some ((-1), u3)
  else
    if v2 ≤ 10 then
      if (3 : Int) ≤ v1 then
        f_R_sheet_34 v1 v2 v3 v4 u3
      else
        if (0 : Int) ≤ v2 then
          f_R_sheet_34 v1 v2 v3 v4 u3
        else
          some ((-2), u3)
    else
      some ((-1), u3)
theorem ct_R_sheet (v1 v2 v3 v4 : Int) (w : Wd) : Ct y_R_sheet prog_14_method_37_code 9 (some .int) 2 0 [(2, 44), (0, v1), (0, v2), (0, v3), (0, v4)] w (f_R_sheet v1 v2 v3 v4 w) := by
  refine ct_of (by decide +kernel) (Or.inl ⟨rfl, rfl⟩) (Nat.le_of_ble_eq_true rfl) ?_
  intro X Qf ad C hn hR hr
  unfold f_R_sheet
  show VF X Qf ad NF 0 0 w 0 [(0, (2, 44)), (1, (0, v1)), (2, (0, v2)), (3, (0, v3)), (4, (0, v4))] [] _
  refine vf_aload_n C (f := 0) (zdg dz_R_sheet_0 0 rfl) 0 rfl rfl ?_
  refine vf_iconst C (z := 0) (zdg dz_R_sheet_0 1 rfl) (jz rfl) ?_
  refine vf_put C (kd := 0) fl_R_138 fk_11_16 sh_43 rfl (by decide) rfl rfl (by decide) (zdg dz_R_sheet_0 2 rfl) ?_
  generalize st w 43 16 0 = u1
  refine vf_uw ?_
  refine vf_iload_n C (f := 1) (zdg dz_R_sheet_0 3 rfl) 1 rfl rfl ?_
  refine vf_iconst C (z := 0) (zdg dz_R_sheet_0 4 rfl) (jz rfl) ?_
  refine vf_iconst C (z := 3) (zdg dz_R_sheet_0 5 rfl) (jz rfl) ?_
  refine vf_callSz C cy_R_in ml_R_147 (ct_R_in _ _ _ _) (S := []) (jrm_of hR rfl) rfl rfl (Nat.le_of_ble_eq_true rfl) (zdg dz_R_sheet_0 6 rfl) (fun r2 u3 => ?_)
  refine vf_if_eq C (off := 9) (tgt := 20) (zdg dz_R_sheet_0 7 rfl) (by decide) ?_ ?_
  · refine vf_iconst C (z := (-1)) (zdg dz_R_sheet_0 11 rfl) (jz rfl) ?_
    exact hr _ _ _ _ (fun h => absurd h (by decide)) (zdg dz_R_sheet_0 12 rfl)
  · refine vf_iload_n C (f := 2) (zdg dz_R_sheet_0 8 rfl) 2 rfl rfl ?_
    refine vf_bipush C (z := 10) (zdg dz_R_sheet_0 9 rfl) (by decide +kernel) (jz rfl) ?_
    refine vf_icmp_le C (off := 5) (tgt := 22) (zdg dz_R_sheet_0 10 rfl) (by decide) ?_ ?_
    · refine vf_iload_n C (f := 1) (zdg dz_R_sheet_0 13 rfl) 1 rfl rfl ?_
      refine vf_iconst C (z := 3) (zdg dz_R_sheet_0 14 rfl) (jz rfl) ?_
      refine vf_icmp_ge C (off := 10) (tgt := 34) (zdg dz_R_sheet_0 15 rfl) (by decide) ?_ ?_
      · exact t_R_sheet_34 C hn hR hr _ _ _ _ _
      · refine vf_iload_n C (f := 2) (zdg dz_R_sheet_0 16 rfl) 2 rfl rfl ?_
        refine vf_if_ge C (off := 6) (tgt := 34) (zdg dz_R_sheet_0 17 rfl) (by decide) ?_ ?_
        · exact t_R_sheet_34 C hn hR hr _ _ _ _ _
        · refine vf_bipush C (z := (-2)) (zdg dz_R_sheet_0 18 rfl) (by decide +kernel) (jz rfl) ?_
          exact hr _ _ _ _ (fun h => absurd h (by decide)) (zdg dz_R_sheet_0 19 rfl)
    · refine vf_iconst C (z := (-1)) (zdg dz_R_sheet_0 11 rfl) (jz rfl) ?_
      exact hr _ _ _ _ (fun h => absurd h (by decide)) (zdg dz_R_sheet_0 12 rfl)
end
