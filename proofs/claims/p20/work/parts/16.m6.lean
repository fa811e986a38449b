def f_R_never_25 : Nat → Int → Int → Wd → Option (Int × Wd)
  | 0, _, _, _ => none
  | n + 1, v1, v2, w =>
    if (w 43 40) ≤ v2 then
      some (v1, w)
    else
      jcall (f_R_guestsIn v2 w) fun r6 u7 =>
      jlet (iand v1 (ixor r6 (-1))) fun x8 =>
      jlet (w32 (v2 + 1)) fun x9 =>
      f_R_never_25 n x8 x9 u7
theorem t_R_never_25 {X : jX} {Qf : Int × Wd → State → Prop} {ad : Nat → Nat} (C : Cx X prog_14_method_92_code "EachBringsAnotherModel") (hn : xn X = 3) (hR : xR X = rmD 20) (hr : Rt X Qf ad prog_14_method_92_code 0) : ∀ (n : Nat) (v1 v2 : Int) (w : Wd), VF X Qf ad NF 0 0 w 25 [(0, (2, 44)), (1, (0, v1)), (2, (0, v2))] [] (f_R_never_25 n v1 v2 w) := by
  intro n
  induction n with
  | zero => intros; exact vf_no
  | succ n ih =>
    intro v1 v2 w
    rw [f_R_never_25]
    refine vf_iload_n C (f := 2) (zdg dz_R_never_0 16 rfl) 2 rfl rfl ?_
    refine vf_aload_n C (f := 0) (zdg dz_R_never_0 17 rfl) 0 rfl rfl ?_
    refine vf_get C (kd := 0) fl_R_314 sh_43 rfl (by decide) rfl rfl (zdg dz_R_never_0 18 rfl) ?_
    refine vf_icmp_ge C (off := 19) (tgt := 49) (zdg dz_R_never_0 19 rfl) (by decide) ?_ ?_
    · refine vf_iload_n C (f := 1) (zdg dz_R_never_1 6 rfl) 1 rfl rfl ?_
      exact hr _ _ _ _ (fun h => absurd h (by decide)) (zdg dz_R_never_1 7 rfl)
    · refine vf_iload_n C (f := 1) (zdg dz_R_never_0 20 rfl) 1 rfl rfl ?_
      refine vf_aload_n C (f := 0) (zdg dz_R_never_0 21 rfl) 0 rfl rfl ?_
      refine vf_iload_n C (f := 2) (zdg dz_R_never_0 22 rfl) 2 rfl rfl ?_
      refine vf_callVi C cy_R_guestsIn ml_R_345 rfl (ct_R_guestsIn _ _) (S := [(0, v1)]) sh_43 (by decide) rfl (jrm_of hR rfl) rfl rfl (Nat.le_of_ble_eq_true rfl) (zdg dz_R_never_0 23 rfl) (fun r6 u7 => ?_)
      refine vf_iconst C (z := (-1)) (zdg dz_R_never_1 0 rfl) (jz rfl) ?_
      refine vf_ixor C (zdg dz_R_never_1 1 rfl) ?_
      refine vf_iand C (zdg dz_R_never_1 2 rfl) ?_
      generalize iand v1 (ixor r6 (-1)) = x8
      refine vf_ul ?_
      refine vf_istore_n C (f := 1) (L' := [(0, (2, 44)), (2, (0, v2))]) (zdg dz_R_never_1 3 rfl) [0, 2] (jrI rfl rfl) hn (by decide) rfl ?_
      refine vf_iinc C (z := 1) (L' := [(1, (0, x8)), (0, (2, 44))]) (zdg dz_R_never_1 4 rfl) 2 rfl [0, 1] (jrI rfl rfl) hn (by decide) ?_
      generalize w32 (v2 + 1) = x9
      refine vf_ul ?_
      refine vf_goto C (off := (-21)) (tgt := 25) (zdg dz_R_never_1 5 rfl) (by decide) ?_
      exact vf_perm [2, 1, 0] rfl (ih _ _ _)
def f_R_never (w : Wd) : Option (Int × Wd) :=
  jlw (st w 43 16 0) fun u1 =>
  jcall (f_R_findStates 0 u1) fun r2 u3 =>
  if r2 = 0 then
    some ((-3), u3)
  else
    jcall (f_R_those 0 0 u3) fun r4 u5 =>
    f_R_never_25 FU r4 0 u5
theorem ct_R_never (w : Wd) : Ct y_R_never prog_14_method_92_code 3 (some .int) 20 0 [(2, 44)] w (f_R_never w) := by
  refine ct_of (by decide +kernel) (Or.inl ⟨rfl, rfl⟩) (Nat.le_of_ble_eq_true rfl) ?_
  intro X Qf ad C hn hR hr
  unfold f_R_never
  show VF X Qf ad NF 0 0 w 0 [(0, (2, 44))] [] _
  refine vf_aload_n C (f := 0) (zdg dz_R_never_0 0 rfl) 0 rfl rfl ?_
  refine vf_iconst C (z := 0) (zdg dz_R_never_0 1 rfl) (jz rfl) ?_
  refine vf_put C (kd := 0) fl_R_138 fk_11_16 sh_43 rfl (by decide) rfl rfl (by decide) (zdg dz_R_never_0 2 rfl) ?_
  generalize st w 43 16 0 = u1
  refine vf_uw ?_
  refine vf_aload_n C (f := 0) (zdg dz_R_never_0 3 rfl) 0 rfl rfl ?_
  refine vf_iconst C (z := 0) (zdg dz_R_never_0 4 rfl) (jz rfl) ?_
  refine vf_callVz C cy_R_findStates ml_R_342 rfl (ct_R_findStates _ _) (S := []) sh_43 (by decide) rfl (jrm_of hR rfl) rfl rfl (Nat.le_of_ble_eq_true rfl) (zdg dz_R_never_0 5 rfl) (fun r2 u3 => ?_)
  refine vf_if_ne C (off := 6) (tgt := 16) (zdg dz_R_never_0 6 rfl) (by decide) ?_ ?_
  · refine vf_aload_n C (f := 0) (zdg dz_R_never_0 9 rfl) 0 rfl rfl ?_
    refine vf_iconst C (z := 0) (zdg dz_R_never_0 10 rfl) (jz rfl) ?_
    refine vf_iconst C (z := 0) (zdg dz_R_never_0 11 rfl) (jz rfl) ?_
    refine vf_callVi C cy_R_those ml_R_155 rfl (ct_R_those _ _ _) (S := []) sh_43 (by decide) rfl (jrm_of hR rfl) rfl rfl (Nat.le_of_ble_eq_true rfl) (zdg dz_R_never_0 12 rfl) (fun r4 u5 => ?_)
    refine vf_istore_n C (f := 1) (L' := [(0, (2, 44))]) (zdg dz_R_never_0 13 rfl) [0] (jrI rfl rfl) hn (by decide) rfl ?_
    refine vf_iconst C (z := 0) (zdg dz_R_never_0 14 rfl) (jz rfl) ?_
    refine vf_istore_n C (f := 2) (L' := [(1, (0, r4)), (0, (2, 44))]) (zdg dz_R_never_0 15 rfl) [0, 1] (jrI rfl rfl) hn (by decide) rfl ?_
    exact vf_perm [2, 1, 0] rfl (t_R_never_25 C hn hR hr FU _ _ _)
  · refine vf_bipush C (z := (-3)) (zdg dz_R_never_0 7 rfl) (by decide +kernel) (jz rfl) ?_
    exact hr _ _ _ _ (fun h => absurd h (by decide)) (zdg dz_R_never_0 8 rfl)
def f_R_bound_124 (k86 : Int → Int → Int → Wd → Option (Int × Wd)) (v2 v4 v5 : Int) (w : Wd) : Option (Int × Wd) :=
  jlet (w32 (v5 + 1)) fun x10 =>
  k86 v2 v4 x10 w
theorem t_R_bound_124 {X : jX} {Qf : Int × Wd → State → Prop} {ad : Nat → Nat} (C : Cx X prog_14_method_93_code "EachBringsAnotherModel") (hn : xn X = 6) (hR : xR X = rmD 4) (hr : Rt X Qf ad prog_14_method_93_code 0) {k86 : Int → Int → Int → Wd → Option (Int × Wd)} (hk86 : ∀ (v2 v4 v5 : Int) (w : Wd), VF X Qf ad NF 0 0 w 86 [(0, (2, 44)), (2, (0, v2)), (4, (0, v4)), (5, (0, v5))] [] (k86 v2 v4 v5 w)) (v2 v4 v5 : Int) (w : Wd) : VF X Qf ad NF 0 0 w 124 [(0, (2, 44)), (2, (0, v2)), (4, (0, v4)), (5, (0, v5))] [] (f_R_bound_124 k86 v2 v4 v5 w) := by
  unfold f_R_bound_124
  refine vf_iinc C (z := 1) (L' := [(0, (2, 44)), (2, (0, v2)), (4, (0, v4))]) (zdg dz_R_bound_2 20 rfl) 3 rfl [0, 1, 2] (jrI rfl rfl) hn (by decide) ?_
  generalize w32 (v5 + 1) = x10
  refine vf_ul ?_
  refine vf_goto C (off := (-41)) (tgt := 86) (zdg dz_R_bound_2 21 rfl) (by decide) ?_
  exact vf_perm [1, 2, 3, 0] rfl (hk86 _ _ _ _)
def f_R_bound_86 : Nat → Int → Int → Int → Wd → Option (Int × Wd)
  | 0, _, _, _, _ => none
  | n + 1, v2, v4, v5, w =>
    if (w 43 0) ≤ v5 then
      jcall (f_JI_bitCount v2 w) fun r6 u7 =>
      some (w32 ((w32 ((w32 ((w 43 10) * r6)) + (imax 1 (w32 ((u7 43 10) - v4))))) - 1), u7)
    else
      jgd ((0 : Int) ≤ v5 ∧ v5 < 10) <|
      jcall (f_R_isGuest (w 47 v5.toNat) w) fun r8 u9 =>
      if r8 = 0 then
        f_R_bound_124 (f_R_bound_86 n) v2 v4 v5 u9
      else
        jgd ((0 : Int) ≤ v5 ∧ v5 < 10) <|
        jlet (imin v4 (w32 ((u9 47 v5.toNat) - 1))) fun x11 =>
        f_R_bound_124 (f_R_bound_86 n) v2 x11 v5 u9
theorem t_R_bound_86 {X : jX} {Qf : Int × Wd → State → Prop} {ad : Nat → Nat} (C : Cx X prog_14_method_93_code "EachBringsAnotherModel") (hn : xn X = 6) (hR : xR X = rmD 4) (hr : Rt X Qf ad prog_14_method_93_code 0) : ∀ (n : Nat) (v2 v4 v5 : Int) (w : Wd), VF X Qf ad NF 0 0 w 86 [(0, (2, 44)), (2, (0, v2)), (4, (0, v4)), (5, (0, v5))] [] (f_R_bound_86 n v2 v4 v5 w) := by
  intro n
  induction n with
  | zero => intros; exact vf_no
  | succ n ih =>
    intro v2 v4 v5 w
    rw [f_R_bound_86]
    refine vf_iload C (zdg dz_R_bound_2 1 rfl) 3 rfl ?_
    refine vf_aload_n C (f := 0) (zdg dz_R_bound_2 2 rfl) 0 rfl rfl ?_
    refine vf_get C (kd := 0) fl_R_144 sh_43 rfl (by decide) rfl rfl (zdg dz_R_bound_2 3 rfl) ?_
    refine vf_icmp_ge C (off := 38) (tgt := 130) (zdg dz_R_bound_2 4 rfl) (by decide) ?_ ?_
    · refine vf_aload_n C (f := 0) (zdg dz_R_bound_2 22 rfl) 0 rfl rfl ?_
      refine vf_get C (kd := 0) fl_R_32 sh_43 rfl (by decide) rfl rfl (zdg dz_R_bound_2 23 rfl) ?_
      refine vf_iload_n C (f := 2) (zdg dz_R_bound_3 0 rfl) 1 rfl rfl ?_
      refine vf_callSi C cy_JI_bitCount ml_R_242 (ct_JI_bitCount _ _) (S := [(0, w 43 10)]) (jrm_of hR rfl) rfl rfl (Nat.le_of_ble_eq_true rfl) (zdg dz_R_bound_3 1 rfl) (fun r6 u7 => ?_)
      refine vf_imul C (zdg dz_R_bound_3 2 rfl) ?_
      refine vf_iconst C (z := 1) (zdg dz_R_bound_3 3 rfl) (jz rfl) ?_
      refine vf_aload_n C (f := 0) (zdg dz_R_bound_3 4 rfl) 0 rfl rfl ?_
      refine vf_get C (kd := 0) fl_R_32 sh_43 rfl (by decide) rfl rfl (zdg dz_R_bound_3 5 rfl) ?_
      refine vf_iload C (zdg dz_R_bound_3 6 rfl) 2 rfl ?_
      refine vf_isub C (zdg dz_R_bound_3 7 rfl) ?_
      refine vf_mmax C ml_R_267 (jrm_n hR (by decide)) ⟨Nat.zero_le _, Nat.zero_le _⟩ (Nat.le_of_ble_eq_true rfl) (zdg dz_R_bound_3 8 rfl) ?_
      refine vf_iadd C (zdg dz_R_bound_3 9 rfl) ?_
      refine vf_iconst C (z := 1) (zdg dz_R_bound_3 10 rfl) (jz rfl) ?_
      refine vf_isub C (zdg dz_R_bound_3 11 rfl) ?_
      exact hr _ _ _ _ (fun h => absurd h (by decide)) (zdg dz_R_bound_3 12 rfl)
    · refine vf_aload_n C (f := 0) (zdg dz_R_bound_2 5 rfl) 0 rfl rfl ?_
      refine vf_getp C fl_R_20 sh_43 rfl (by decide) rfl (x := 48) rfl (zdg dz_R_bound_2 6 rfl) ?_
      refine vf_iload C (zdg dz_R_bound_2 7 rfl) 3 rfl ?_
      refine vf_iald C sh_47 (by decide) rfl (mz := 10) rfl (zdg dz_R_bound_2 8 rfl) ?_
      refine vf_callSz C cy_R_isGuest ml_R_256 (ct_R_isGuest _ _) (S := []) (jrm_of hR rfl) rfl rfl (Nat.le_of_ble_eq_true rfl) (zdg dz_R_bound_2 9 rfl) (fun r8 u9 => ?_)
      refine vf_if_eq C (off := 19) (tgt := 124) (zdg dz_R_bound_2 10 rfl) (by decide) ?_ ?_
      · exact t_R_bound_124 C hn hR hr ih _ _ _ _
      · refine vf_iload C (zdg dz_R_bound_2 11 rfl) 2 rfl ?_
        refine vf_aload_n C (f := 0) (zdg dz_R_bound_2 12 rfl) 0 rfl rfl ?_
        refine vf_getp C fl_R_20 sh_43 rfl (by decide) rfl (x := 48) rfl (zdg dz_R_bound_2 13 rfl) ?_
        refine vf_iload C (zdg dz_R_bound_2 14 rfl) 3 rfl ?_
        refine vf_iald C sh_47 (by decide) rfl (mz := 10) rfl (zdg dz_R_bound_2 15 rfl) ?_
        refine vf_iconst C (z := 1) (zdg dz_R_bound_2 16 rfl) (jz rfl) ?_
        refine vf_isub C (zdg dz_R_bound_2 17 rfl) ?_
        refine vf_mmin C ml_R_262 (jrm_n hR (by decide)) ⟨Nat.zero_le _, Nat.zero_le _⟩ (Nat.le_of_ble_eq_true rfl) (zdg dz_R_bound_2 18 rfl) ?_
        generalize imin v4 (w32 ((u9 47 v5.toNat) - 1)) = x11
        refine vf_ul ?_
        refine vf_istore C (i := 4) (L' := [(0, (2, 44)), (2, (0, v2)), (5, (0, v5))]) (zdg dz_R_bound_2 19 rfl) [0, 1, 3] (jrI rfl rfl) hn (by decide) ?_
        exact vf_perm [1, 2, 0, 3] rfl (t_R_bound_124 C hn hR hr ih _ _ _ _)
def f_R_bound_69 (k24 : Int → Int → Int → Wd → Option (Int × Wd)) (k34 : Int → Int → Int → Int → Wd → Option (Int × Wd)) (v1 v2 v3 v4 : Int) (w : Wd) : Option (Int × Wd) :=
  jlet (w32 (v4 + 1)) fun x16 =>
  k34 v1 v2 v3 x16 w
theorem t_R_bound_69 {X : jX} {Qf : Int × Wd → State → Prop} {ad : Nat → Nat} (C : Cx X prog_14_method_93_code "EachBringsAnotherModel") (hn : xn X = 6) (hR : xR X = rmD 4) (hr : Rt X Qf ad prog_14_method_93_code 0) {k24 : Int → Int → Int → Wd → Option (Int × Wd)} (hk24 : ∀ (v1 v2 v3 : Int) (w : Wd), VF X Qf ad NF 0 0 w 24 [(0, (2, 44)), (1, (0, v1)), (2, (0, v2)), (3, (0, v3))] [] (k24 v1 v2 v3 w)) {k34 : Int → Int → Int → Int → Wd → Option (Int × Wd)} (hk34 : ∀ (v1 v2 v3 v4 : Int) (w : Wd), VF X Qf ad NF 0 0 w 34 [(0, (2, 44)), (1, (0, v1)), (2, (0, v2)), (3, (0, v3)), (4, (0, v4))] [] (k34 v1 v2 v3 v4 w)) (v1 v2 v3 v4 : Int) (w : Wd) : VF X Qf ad NF 0 0 w 69 [(0, (2, 44)), (1, (0, v1)), (2, (0, v2)), (3, (0, v3)), (4, (0, v4))] [] (f_R_bound_69 k24 k34 v1 v2 v3 v4 w) := by
  unfold f_R_bound_69
  refine vf_iinc C (z := 1) (L' := [(0, (2, 44)), (1, (0, v1)), (2, (0, v2)), (3, (0, v3))]) (zdg dz_R_bound_1 18 rfl) 4 rfl [0, 1, 2, 3] (jrI rfl rfl) hn (by decide) ?_
  generalize w32 (v4 + 1) = x16
  refine vf_ul ?_
  refine vf_goto C (off := (-38)) (tgt := 34) (zdg dz_R_bound_1 19 rfl) (by decide) ?_
  exact vf_perm [1, 2, 3, 4, 0] rfl (hk34 _ _ _ _ _)
def f_R_bound_34 (k24 : Int → Int → Int → Wd → Option (Int × Wd)) : Nat → Int → Int → Int → Int → Wd → Option (Int × Wd)
  | 0, _, _, _, _, _ => none
  | n + 1, v1, v2, v3, v4, w =>
    if (w 43 0) ≤ v4 then
      k24 v1 v2 v3 w
    else
      jcall (f_R_guests w) fun r12 u13 =>
      jcall (f_R_has (ior r12 v3) v4 u13) fun r14 u15 =>
      if r14 = 0 then
        f_R_bound_69 k24 (f_R_bound_34 k24 n) v1 v2 v3 v4 u15
      else
        jgd ((0 : Int) ≤ v4 ∧ v4 < 10) <|
        jlet (ior v2 (iand (u15 45 v4.toNat) v1)) fun x17 =>
        f_R_bound_69 k24 (f_R_bound_34 k24 n) v1 x17 v3 v4 u15
theorem t_R_bound_34 {X : jX} {Qf : Int × Wd → State → Prop} {ad : Nat → Nat} (C : Cx X prog_14_method_93_code "EachBringsAnotherModel") (hn : xn X = 6) (hR : xR X = rmD 4) (hr : Rt X Qf ad prog_14_method_93_code 0) {k24 : Int → Int → Int → Wd → Option (Int × Wd)} (hk24 : ∀ (v1 v2 v3 : Int) (w : Wd), VF X Qf ad NF 0 0 w 24 [(0, (2, 44)), (1, (0, v1)), (2, (0, v2)), (3, (0, v3))] [] (k24 v1 v2 v3 w)) : ∀ (n : Nat) (v1 v2 v3 v4 : Int) (w : Wd), VF X Qf ad NF 0 0 w 34 [(0, (2, 44)), (1, (0, v1)), (2, (0, v2)), (3, (0, v3)), (4, (0, v4))] [] (f_R_bound_34 k24 n v1 v2 v3 v4 w) := by
  intro n
  induction n with
  | zero => intros; exact vf_no
  | succ n ih =>
    intro v1 v2 v3 v4 w
    rw [f_R_bound_34]
    refine vf_iload C (zdg dz_R_bound_0 22 rfl) 4 rfl ?_
    refine vf_aload_n C (f := 0) (zdg dz_R_bound_0 23 rfl) 0 rfl rfl ?_
    refine vf_get C (kd := 0) fl_R_144 sh_43 rfl (by decide) rfl rfl (zdg dz_R_bound_1 0 rfl) ?_
    refine vf_icmp_ge C (off := 35) (tgt := 75) (zdg dz_R_bound_1 1 rfl) (by decide) ?_ ?_
    · refine vf_goto C (off := (-51)) (tgt := 24) (zdg dz_R_bound_1 20 rfl) (by decide) ?_
      exact vf_perm [0, 1, 2, 3] rfl (hk24 _ _ _ _)
    · refine vf_aload_n C (f := 0) (zdg dz_R_bound_1 2 rfl) 0 rfl rfl ?_
      refine vf_callVi C cy_R_guests ml_R_217 rfl (ct_R_guests _) (S := []) sh_43 (by decide) rfl (jrm_of hR rfl) rfl rfl (Nat.le_of_ble_eq_true rfl) (zdg dz_R_bound_1 3 rfl) (fun r12 u13 => ?_)
      refine vf_iload_n C (f := 3) (zdg dz_R_bound_1 4 rfl) 3 rfl rfl ?_
      refine vf_ior C (zdg dz_R_bound_1 5 rfl) ?_
      refine vf_iload C (zdg dz_R_bound_1 6 rfl) 4 rfl ?_
      refine vf_callSz C cy_R_has ml_R_210 (ct_R_has _ _ _) (S := []) (jrm_of hR rfl) rfl rfl (Nat.le_of_ble_eq_true rfl) (zdg dz_R_bound_1 7 rfl) (fun r14 u15 => ?_)
      refine vf_if_eq C (off := 15) (tgt := 69) (zdg dz_R_bound_1 8 rfl) (by decide) ?_ ?_
      · exact t_R_bound_69 C hn hR hr hk24 ih _ _ _ _ _
      · refine vf_iload_n C (f := 2) (zdg dz_R_bound_1 9 rfl) 2 rfl rfl ?_
        refine vf_aload_n C (f := 0) (zdg dz_R_bound_1 10 rfl) 0 rfl rfl ?_
        refine vf_getp C fl_R_13 sh_43 rfl (by decide) rfl (x := 46) rfl (zdg dz_R_bound_1 11 rfl) ?_
        refine vf_iload C (zdg dz_R_bound_1 12 rfl) 4 rfl ?_
        refine vf_iald C sh_45 (by decide) rfl (mz := 10) rfl (zdg dz_R_bound_1 13 rfl) ?_
        refine vf_iload_n C (f := 1) (zdg dz_R_bound_1 14 rfl) 1 rfl rfl ?_
        refine vf_iand C (zdg dz_R_bound_1 15 rfl) ?_
        refine vf_ior C (zdg dz_R_bound_1 16 rfl) ?_
        generalize ior v2 (iand (u15 45 v4.toNat) v1) = x17
        refine vf_ul ?_
        refine vf_istore_n C (f := 2) (L' := [(0, (2, 44)), (1, (0, v1)), (3, (0, v3)), (4, (0, v4))]) (zdg dz_R_bound_1 17 rfl) [0, 1, 3, 4] (jrI rfl rfl) hn (by decide) rfl ?_
        exact vf_perm [1, 2, 0, 3, 4] rfl (t_R_bound_69 C hn hR hr hk24 ih _ _ _ _ _)
def f_R_bound_24 : Nat → Int → Int → Int → Wd → Option (Int × Wd)
  | 0, _, _, _, _ => none
  | n + 1, v1, v2, v3, w =>
    if v2 = v3 then
      f_R_bound_86 FU v2 1000000 0 w
    else
      f_R_bound_34 (f_R_bound_24 n) FU v1 v2 v2 0 w
theorem t_R_bound_24 {X : jX} {Qf : Int × Wd → State → Prop} {ad : Nat → Nat} (C : Cx X prog_14_method_93_code "EachBringsAnotherModel") (hn : xn X = 6) (hR : xR X = rmD 4) (hr : Rt X Qf ad prog_14_method_93_code 0) : ∀ (n : Nat) (v1 v2 v3 : Int) (w : Wd), VF X Qf ad NF 0 0 w 24 [(0, (2, 44)), (1, (0, v1)), (2, (0, v2)), (3, (0, v3))] [] (f_R_bound_24 n v1 v2 v3 w) := by
  intro n
  induction n with
  | zero => intros; exact vf_no
  | succ n ih =>
    intro v1 v2 v3 w
    rw [f_R_bound_24]
    refine vf_iload_n C (f := 2) (zdg dz_R_bound_0 15 rfl) 2 rfl rfl ?_
    refine vf_iload_n C (f := 3) (zdg dz_R_bound_0 16 rfl) 3 rfl rfl ?_
    refine vf_icmp_eq C (off := 52) (tgt := 78) (zdg dz_R_bound_0 17 rfl) (by decide) ?_ ?_
    · refine vf_ldcw C (z := 1000000) (i := 348) (zdg dz_R_bound_1 21 rfl) kc_R_348 (by decide +kernel) (jz rfl) ?_
      refine vf_istore C (i := 4) (L' := [(0, (2, 44)), (2, (0, v2))]) (zdg dz_R_bound_1 22 rfl) [0, 2] (jrI rfl rfl) hn (by decide) ?_
      refine vf_iconst C (z := 0) (zdg dz_R_bound_1 23 rfl) (jz rfl) ?_
      refine vf_istore C (i := 5) (L' := [(4, (0, 1000000)), (0, (2, 44)), (2, (0, v2))]) (zdg dz_R_bound_2 0 rfl) [0, 1, 2] (jrI rfl rfl) hn (by decide) ?_
      exact vf_perm [2, 3, 1, 0] rfl (t_R_bound_86 C hn hR hr FU _ _ _ _)
    · refine vf_iload_n C (f := 2) (zdg dz_R_bound_0 18 rfl) 2 rfl rfl ?_
      refine vf_istore_n C (f := 3) (L' := [(0, (2, 44)), (1, (0, v1)), (2, (0, v2))]) (zdg dz_R_bound_0 19 rfl) [0, 1, 2] (jrI rfl rfl) hn (by decide) rfl ?_
      refine vf_iconst C (z := 0) (zdg dz_R_bound_0 20 rfl) (jz rfl) ?_
      refine vf_istore C (i := 4) (L' := [(3, (0, v2)), (0, (2, 44)), (1, (0, v1)), (2, (0, v2))]) (zdg dz_R_bound_0 21 rfl) [0, 1, 2, 3] (jrI rfl rfl) hn (by decide) ?_
      exact vf_perm [2, 3, 4, 1, 0] rfl (t_R_bound_34 C hn hR hr ih FU _ _ _ _ _)
def f_R_bound (w : Wd) : Option (Int × Wd) :=
  jlw (st w 43 16 0) fun u1 =>
  jcall (f_R_guests u1) fun r2 u3 =>
  if r2 = 0 then
    some ((-2), u3)
  else
    jcall (f_R_free u3) fun r4 u5 =>
    f_R_bound_24 FU r4 0 (-1) u5
theorem ct_R_bound (w : Wd) : Ct y_R_bound prog_14_method_93_code 6 (some .int) 4 0 [(2, 44)] w (f_R_bound w) := by
  refine ct_of (by decide +kernel) (Or.inl ⟨rfl, rfl⟩) (Nat.le_of_ble_eq_true rfl) ?_
  intro X Qf ad C hn hR hr
  unfold f_R_bound
  show VF X Qf ad NF 0 0 w 0 [(0, (2, 44))] [] _
  refine vf_aload_n C (f := 0) (zdg dz_R_bound_0 0 rfl) 0 rfl rfl ?_
  refine vf_iconst C (z := 0) (zdg dz_R_bound_0 1 rfl) (jz rfl) ?_
  refine vf_put C (kd := 0) fl_R_138 fk_11_16 sh_43 rfl (by decide) rfl rfl (by decide) (zdg dz_R_bound_0 2 rfl) ?_
  generalize st w 43 16 0 = u1
  refine vf_uw ?_
  refine vf_aload_n C (f := 0) (zdg dz_R_bound_0 3 rfl) 0 rfl rfl ?_
  refine vf_callVi C cy_R_guests ml_R_217 rfl (ct_R_guests _) (S := []) sh_43 (by decide) rfl (jrm_of hR rfl) rfl rfl (Nat.le_of_ble_eq_true rfl) (zdg dz_R_bound_0 4 rfl) (fun r2 u3 => ?_)
  refine vf_if_ne C (off := 6) (tgt := 15) (zdg dz_R_bound_0 5 rfl) (by decide) ?_ ?_
  · refine vf_aload_n C (f := 0) (zdg dz_R_bound_0 8 rfl) 0 rfl rfl ?_
    refine vf_callVi C cy_R_free ml_R_286 rfl (ct_R_free _) (S := []) sh_43 (by decide) rfl (jrm_of hR rfl) rfl rfl (Nat.le_of_ble_eq_true rfl) (zdg dz_R_bound_0 9 rfl) (fun r4 u5 => ?_)
    refine vf_istore_n C (f := 1) (L' := [(0, (2, 44))]) (zdg dz_R_bound_0 10 rfl) [0] (jrI rfl rfl) hn (by decide) rfl ?_
    refine vf_iconst C (z := 0) (zdg dz_R_bound_0 11 rfl) (jz rfl) ?_
    refine vf_istore_n C (f := 2) (L' := [(1, (0, r4)), (0, (2, 44))]) (zdg dz_R_bound_0 12 rfl) [0, 1] (jrI rfl rfl) hn (by decide) rfl ?_
    refine vf_iconst C (z := (-1)) (zdg dz_R_bound_0 13 rfl) (jz rfl) ?_
    refine vf_istore_n C (f := 3) (L' := [(2, (0, 0)), (1, (0, r4)), (0, (2, 44))]) (zdg dz_R_bound_0 14 rfl) [0, 1, 2] (jrI rfl rfl) hn (by decide) rfl ?_
    exact vf_perm [3, 2, 1, 0] rfl (t_R_bound_24 C hn hR hr FU _ _ _ _)
  · refine vf_bipush C (z := (-2)) (zdg dz_R_bound_0 6 rfl) (by decide +kernel) (jz rfl) ?_
    exact hr _ _ _ _ (fun h => absurd h (by decide)) (zdg dz_R_bound_0 7 rfl)
def f_R_far_427 (k341 : Int → Int → Int → Int → Wd → Option (Int × Wd)) (k396 : Int → Int → Int → Int → Int → Wd → Option (Int × Wd)) (v2 v3 v5 v6 v7 : Int) (w : Wd) : Option (Int × Wd) :=
  jlet (w32 (v7 + 1)) fun x12 =>
  k396 v2 v3 v5 v6 x12 w
theorem t_R_far_427 {X : jX} {Qf : Int × Wd → State → Prop} {ad : Nat → Nat} (C : Cx X prog_14_method_94_code "EachBringsAnotherModel") (hn : xn X = 8) (hR : xR X = rmD 4) (hr : Rt X Qf ad prog_14_method_94_code 0) {k341 : Int → Int → Int → Int → Wd → Option (Int × Wd)} (hk341 : ∀ (v2 v3 v4 v5 : Int) (w : Wd), VF X Qf ad NF 0 0 w 341 [(0, (2, 44)), (2, (0, v2)), (3, (0, v3)), (4, (0, v4)), (5, (0, v5))] [] (k341 v2 v3 v4 v5 w)) {k396 : Int → Int → Int → Int → Int → Wd → Option (Int × Wd)} (hk396 : ∀ (v2 v3 v5 v6 v7 : Int) (w : Wd), VF X Qf ad NF 0 0 w 396 [(0, (2, 44)), (2, (0, v2)), (3, (0, v3)), (5, (0, v5)), (6, (0, v6)), (7, (0, v7))] [] (k396 v2 v3 v5 v6 v7 w)) (v2 v3 v5 v6 v7 : Int) (w : Wd) : VF X Qf ad NF 0 0 w 427 [(0, (2, 44)), (2, (0, v2)), (3, (0, v3)), (5, (0, v5)), (6, (0, v6)), (7, (0, v7))] [] (f_R_far_427 k341 k396 v2 v3 v5 v6 v7 w) := by
  unfold f_R_far_427
  refine vf_iinc C (z := 1) (L' := [(0, (2, 44)), (2, (0, v2)), (3, (0, v3)), (5, (0, v5)), (6, (0, v6))]) (zdg dz_R_far_8 23 rfl) 5 rfl [0, 1, 2, 3, 4] (jrI rfl rfl) hn (by decide) ?_
  generalize w32 (v7 + 1) = x12
  refine vf_ul ?_
  refine vf_goto C (off := (-34)) (tgt := 396) (zdg dz_R_far_9 0 rfl) (by decide) ?_
  exact vf_perm [1, 2, 3, 4, 5, 0] rfl (hk396 _ _ _ _ _ _)
def f_R_far_396 (k341 : Int → Int → Int → Int → Wd → Option (Int × Wd)) : Nat → Int → Int → Int → Int → Int → Wd → Option (Int × Wd)
  | 0, _, _, _, _, _, _ => none
  | n + 1, v2, v3, v5, v6, v7, w =>
    jcall (f_R_has v6 v7 w) fun r10 u11 =>
    if r10 = 0 then
      f_R_far_427 k341 (f_R_far_396 k341 n) v2 v3 v5 v6 v7 u11
    else
      jgd ((0 : Int) ≤ v7 ∧ v7 < 10) <|
      if (u11 78 v7.toNat) = v5 then
        jcall (f_R_has v2 v7 u11) fun r13 u14 =>
        if r13 = 0 then
          f_R_far_427 k341 (f_R_far_396 k341 n) v2 v3 v5 v6 v7 u14
        else
          jcall (f_R_tell v7 u14) fun r15 u16 =>
          jlet (ishl 1 v7) fun x17 =>
          jlet (w32 (v5 + (-1))) fun x18 =>
          k341 v2 v3 x17 x18 u16
      else
        f_R_far_427 k341 (f_R_far_396 k341 n) v2 v3 v5 v6 v7 u11
theorem t_R_far_396 {X : jX} {Qf : Int × Wd → State → Prop} {ad : Nat → Nat} (C : Cx X prog_14_method_94_code "EachBringsAnotherModel") (hn : xn X = 8) (hR : xR X = rmD 4) (hr : Rt X Qf ad prog_14_method_94_code 0) {k341 : Int → Int → Int → Int → Wd → Option (Int × Wd)} (hk341 : ∀ (v2 v3 v4 v5 : Int) (w : Wd), VF X Qf ad NF 0 0 w 341 [(0, (2, 44)), (2, (0, v2)), (3, (0, v3)), (4, (0, v4)), (5, (0, v5))] [] (k341 v2 v3 v4 v5 w)) : ∀ (n : Nat) (v2 v3 v5 v6 v7 : Int) (w : Wd), VF X Qf ad NF 0 0 w 396 [(0, (2, 44)), (2, (0, v2)), (3, (0, v3)), (5, (0, v5)), (6, (0, v6)), (7, (0, v7))] [] (f_R_far_396 k341 n v2 v3 v5 v6 v7 w) := by
  intro n
  induction n with
  | zero => intros; exact vf_no
  | succ n ih =>
    intro v2 v3 v5 v6 v7 w
    rw [f_R_far_396]
    refine vf_iload C (zdg dz_R_far_8 9 rfl) 4 rfl ?_
    refine vf_iload C (zdg dz_R_far_8 10 rfl) 5 rfl ?_
    refine vf_callSz C cy_R_has ml_R_210 (ct_R_has _ _ _) (S := []) (jrm_of hR rfl) rfl rfl (Nat.le_of_ble_eq_true rfl) (zdg dz_R_far_8 11 rfl) (fun r10 u11 => ?_)
    refine vf_if_eq C (off := 24) (tgt := 427) (zdg dz_R_far_8 12 rfl) (by decide) ?_ ?_
    · exact t_R_far_427 C hn hR hr hk341 ih _ _ _ _ _ _
    · refine vf_aload_n C (f := 0) (zdg dz_R_far_8 13 rfl) 0 rfl rfl ?_
      refine vf_getp C fl_R_126 sh_43 rfl (by decide) rfl (x := 79) rfl (zdg dz_R_far_8 14 rfl) ?_
      refine vf_iload C (zdg dz_R_far_8 15 rfl) 5 rfl ?_
      refine vf_iald C sh_78 (by decide) rfl (mz := 10) rfl (zdg dz_R_far_8 16 rfl) ?_
      refine vf_iload C (zdg dz_R_far_8 17 rfl) 3 rfl ?_
      refine vf_icmp_ne C (off := 12) (tgt := 427) (zdg dz_R_far_8 18 rfl) (by decide) ?_ ?_
      · exact t_R_far_427 C hn hR hr hk341 ih _ _ _ _ _ _
      · refine vf_iload_n C (f := 2) (zdg dz_R_far_8 19 rfl) 1 rfl rfl ?_
        refine vf_iload C (zdg dz_R_far_8 20 rfl) 5 rfl ?_
        refine vf_callSz C cy_R_has ml_R_210 (ct_R_has _ _ _) (S := []) (jrm_of hR rfl) rfl rfl (Nat.le_of_ble_eq_true rfl) (zdg dz_R_far_8 21 rfl) (fun r13 u14 => ?_)
        refine vf_if_ne C (off := 9) (tgt := 433) (zdg dz_R_far_8 22 rfl) (by decide) ?_ ?_
        · refine vf_aload_n C (f := 0) (zdg dz_R_far_9 1 rfl) 0 rfl rfl ?_
          refine vf_iload C (zdg dz_R_far_9 2 rfl) 5 rfl ?_
          refine vf_callVv C cy_R_tell ml_R_304 rfl (ct_R_tell _ _) (S := []) sh_43 (by decide) rfl (jrm_of hR rfl) rfl rfl (Nat.le_of_ble_eq_true rfl) (zdg dz_R_far_9 3 rfl) (fun r15 u16 => ?_)
          refine vf_iconst C (z := 1) (zdg dz_R_far_9 4 rfl) (jz rfl) ?_
          refine vf_iload C (zdg dz_R_far_9 5 rfl) 5 rfl ?_
          refine vf_ishl C (zdg dz_R_far_9 6 rfl) ?_
          generalize ishl 1 v7 = x17
          refine vf_ul ?_
          refine vf_istore C (i := 4) (L' := [(0, (2, 44)), (2, (0, v2)), (3, (0, v3)), (5, (0, v5))]) (zdg dz_R_far_9 7 rfl) [0, 1, 2, 3] (jrI rfl rfl) hn (by decide) ?_
          refine vf_iinc C (z := (-1)) (L' := [(4, (0, x17)), (0, (2, 44)), (2, (0, v2)), (3, (0, v3))]) (zdg dz_R_far_9 8 rfl) 4 rfl [0, 1, 2, 3] (jrI rfl rfl) hn (by decide) ?_
          generalize w32 (v5 + (-1)) = x18
          refine vf_ul ?_
          refine vf_goto C (off := (-107)) (tgt := 341) (zdg dz_R_far_9 9 rfl) (by decide) ?_
          exact vf_perm [2, 3, 4, 1, 0] rfl (hk341 _ _ _ _ _)
        · exact t_R_far_427 C hn hR hr hk341 ih _ _ _ _ _ _
def f_R_far_384 (k341 : Int → Int → Int → Int → Wd → Option (Int × Wd)) (k352 : Int → Int → Int → Int → Int → Int → Wd → Option (Int × Wd)) (v2 v3 v4 v5 v7 s0 s1 : Int) (w : Wd) : Option (Int × Wd) :=
  jlet (ior s0 s1) fun x21 =>
  jlet (w32 (v7 + 1)) fun x22 =>
  k352 v2 v3 v4 v5 x21 x22 w
theorem t_R_far_384 {X : jX} {Qf : Int × Wd → State → Prop} {ad : Nat → Nat} (C : Cx X prog_14_method_94_code "EachBringsAnotherModel") (hn : xn X = 8) (hR : xR X = rmD 4) (hr : Rt X Qf ad prog_14_method_94_code 0) {k341 : Int → Int → Int → Int → Wd → Option (Int × Wd)} (hk341 : ∀ (v2 v3 v4 v5 : Int) (w : Wd), VF X Qf ad NF 0 0 w 341 [(0, (2, 44)), (2, (0, v2)), (3, (0, v3)), (4, (0, v4)), (5, (0, v5))] [] (k341 v2 v3 v4 v5 w)) {k352 : Int → Int → Int → Int → Int → Int → Wd → Option (Int × Wd)} (hk352 : ∀ (v2 v3 v4 v5 v6 v7 : Int) (w : Wd), VF X Qf ad NF 0 0 w 352 [(0, (2, 44)), (2, (0, v2)), (3, (0, v3)), (4, (0, v4)), (5, (0, v5)), (6, (0, v6)), (7, (0, v7))] [] (k352 v2 v3 v4 v5 v6 v7 w)) (v2 v3 v4 v5 v7 s0 s1 : Int) (w : Wd) : VF X Qf ad NF 0 0 w 384 [(0, (2, 44)), (2, (0, v2)), (3, (0, v3)), (4, (0, v4)), (5, (0, v5)), (7, (0, v7))] [(0, s1), (0, s0)] (f_R_far_384 k341 k352 v2 v3 v4 v5 v7 s0 s1 w) := by
  unfold f_R_far_384
  refine vf_ior C (zdg dz_R_far_8 3 rfl) ?_
  generalize ior s0 s1 = x21
  refine vf_ul ?_
  refine vf_istore C (i := 6) (L' := [(0, (2, 44)), (2, (0, v2)), (3, (0, v3)), (4, (0, v4)), (5, (0, v5)), (7, (0, v7))]) (zdg dz_R_far_8 4 rfl) [0, 1, 2, 3, 4, 5] (jrI rfl rfl) hn (by decide) ?_
  refine vf_iinc C (z := 1) (L' := [(6, (0, x21)), (0, (2, 44)), (2, (0, v2)), (3, (0, v3)), (4, (0, v4)), (5, (0, v5))]) (zdg dz_R_far_8 5 rfl) 6 rfl [0, 1, 2, 3, 4, 5] (jrI rfl rfl) hn (by decide) ?_
  generalize w32 (v7 + 1) = x22
  refine vf_ul ?_
  refine vf_goto C (off := (-38)) (tgt := 352) (zdg dz_R_far_8 6 rfl) (by decide) ?_
  exact vf_perm [2, 3, 4, 5, 6, 1, 0] rfl (hk352 _ _ _ _ _ _ _)
def f_R_far_352 (k341 : Int → Int → Int → Int → Wd → Option (Int × Wd)) : Nat → Int → Int → Int → Int → Int → Int → Wd → Option (Int × Wd)
  | 0, _, _, _, _, _, _, _ => none
  | n + 1, v2, v3, v4, v5, v6, v7, w =>
    if (w 43 0) ≤ v7 then
      f_R_far_396 k341 FU v2 v3 v5 v6 0 w
    else
      jcall (f_R_has v4 v7 w) fun r19 u20 =>
      if r19 = 0 then
        f_R_far_384 k341 (f_R_far_352 k341 n) v2 v3 v4 v5 v7 v6 0 u20
      else
        jgd ((0 : Int) ≤ v7 ∧ v7 < 10) <|
        f_R_far_384 k341 (f_R_far_352 k341 n) v2 v3 v4 v5 v7 v6 (u20 45 v7.toNat) u20
theorem t_R_far_352 {X : jX} {Qf : Int × Wd → State → Prop} {ad : Nat → Nat} (C : Cx X prog_14_method_94_code "EachBringsAnotherModel") (hn : xn X = 8) (hR : xR X = rmD 4) (hr : Rt X Qf ad prog_14_method_94_code 0) {k341 : Int → Int → Int → Int → Wd → Option (Int × Wd)} (hk341 : ∀ (v2 v3 v4 v5 : Int) (w : Wd), VF X Qf ad NF 0 0 w 341 [(0, (2, 44)), (2, (0, v2)), (3, (0, v3)), (4, (0, v4)), (5, (0, v5))] [] (k341 v2 v3 v4 v5 w)) : ∀ (n : Nat) (v2 v3 v4 v5 v6 v7 : Int) (w : Wd), VF X Qf ad NF 0 0 w 352 [(0, (2, 44)), (2, (0, v2)), (3, (0, v3)), (4, (0, v4)), (5, (0, v5)), (6, (0, v6)), (7, (0, v7))] [] (f_R_far_352 k341 n v2 v3 v4 v5 v6 v7 w) := by
  intro n
  induction n with
  | zero => intros; exact vf_no
  | succ n ih =>
    intro v2 v3 v4 v5 v6 v7 w
    rw [f_R_far_352]
    refine vf_iload C (zdg dz_R_far_7 12 rfl) 6 rfl ?_
    refine vf_aload_n C (f := 0) (zdg dz_R_far_7 13 rfl) 0 rfl rfl ?_
    refine vf_get C (kd := 0) fl_R_144 sh_43 rfl (by decide) rfl rfl (zdg dz_R_far_7 14 rfl) ?_
    refine vf_icmp_ge C (off := 35) (tgt := 393) (zdg dz_R_far_7 15 rfl) (by decide) ?_ ?_
    · refine vf_iconst C (z := 0) (zdg dz_R_far_8 7 rfl) (jz rfl) ?_
      refine vf_istore C (i := 7) (L' := [(0, (2, 44)), (2, (0, v2)), (3, (0, v3)), (5, (0, v5)), (6, (0, v6))]) (zdg dz_R_far_8 8 rfl) [0, 1, 2, 4, 5] (jrI rfl rfl) hn (by decide) ?_
      exact vf_perm [1, 2, 3, 4, 5, 0] rfl (t_R_far_396 C hn hR hr hk341 FU _ _ _ _ _ _)
    · refine vf_iload C (zdg dz_R_far_7 16 rfl) 5 rfl ?_
      refine vf_iload C (zdg dz_R_far_7 17 rfl) 3 rfl ?_
      refine vf_iload C (zdg dz_R_far_7 18 rfl) 6 rfl ?_
      refine vf_callSz C cy_R_has ml_R_210 (ct_R_has _ _ _) (S := [(0, v6)]) (jrm_of hR rfl) rfl rfl (Nat.le_of_ble_eq_true rfl) (zdg dz_R_far_7 19 rfl) (fun r19 u20 => ?_)
      refine vf_if_eq C (off := 13) (tgt := 383) (zdg dz_R_far_7 20 rfl) (by decide) ?_ ?_
      · refine vf_iconst C (z := 0) (zdg dz_R_far_8 2 rfl) (jz rfl) ?_
        exact vf_perm [0, 1, 2, 3, 4, 6] rfl (t_R_far_384 C hn hR hr hk341 ih _ _ _ _ _ _ _ _)
      · refine vf_aload_n C (f := 0) (zdg dz_R_far_7 21 rfl) 0 rfl rfl ?_
        refine vf_getp C fl_R_13 sh_43 rfl (by decide) rfl (x := 46) rfl (zdg dz_R_far_7 22 rfl) ?_
        refine vf_iload C (zdg dz_R_far_7 23 rfl) 6 rfl ?_
        refine vf_iald C sh_45 (by decide) rfl (mz := 10) rfl (zdg dz_R_far_8 0 rfl) ?_
        refine vf_goto C (off := 4) (tgt := 384) (zdg dz_R_far_8 1 rfl) (by decide) ?_
        exact vf_perm [0, 1, 2, 3, 4, 6] rfl (t_R_far_384 C hn hR hr hk341 ih _ _ _ _ _ _ _ _)
def f_R_far_341 : Nat → Int → Int → Int → Int → Wd → Option (Int × Wd)
  | 0, _, _, _, _, _ => none
  | n + 1, v2, v3, v4, v5, w =>
    if v5 ≤ 0 then
      some (v3, w)
    else
      f_R_far_352 (f_R_far_341 n) FU v2 v3 v4 v5 0 0 w
theorem t_R_far_341 {X : jX} {Qf : Int × Wd → State → Prop} {ad : Nat → Nat} (C : Cx X prog_14_method_94_code "EachBringsAnotherModel") (hn : xn X = 8) (hR : xR X = rmD 4) (hr : Rt X Qf ad prog_14_method_94_code 0) : ∀ (n : Nat) (v2 v3 v4 v5 : Int) (w : Wd), VF X Qf ad NF 0 0 w 341 [(0, (2, 44)), (2, (0, v2)), (3, (0, v3)), (4, (0, v4)), (5, (0, v5))] [] (f_R_far_341 n v2 v3 v4 v5 w) := by
  intro n
  induction n with
  | zero => intros; exact vf_no
  | succ n ih =>
    intro v2 v3 v4 v5 w
    rw [f_R_far_341]
    refine vf_iload C (zdg dz_R_far_7 6 rfl) 4 rfl ?_
    refine vf_if_le C (off := 108) (tgt := 451) (zdg dz_R_far_7 7 rfl) (by decide) ?_ ?_
    · refine vf_iload_n C (f := 3) (zdg dz_R_far_9 10 rfl) 2 rfl rfl ?_
      exact hr _ _ _ _ (fun h => absurd h (by decide)) (zdg dz_R_far_9 11 rfl)
    · refine vf_iconst C (z := 0) (zdg dz_R_far_7 8 rfl) (jz rfl) ?_
      refine vf_istore C (i := 6) (L' := [(0, (2, 44)), (2, (0, v2)), (3, (0, v3)), (4, (0, v4)), (5, (0, v5))]) (zdg dz_R_far_7 9 rfl) [0, 1, 2, 3, 4] (jrI rfl rfl) hn (by decide) ?_
      refine vf_iconst C (z := 0) (zdg dz_R_far_7 10 rfl) (jz rfl) ?_
      refine vf_istore C (i := 7) (L' := [(6, (0, 0)), (0, (2, 44)), (2, (0, v2)), (3, (0, v3)), (4, (0, v4)), (5, (0, v5))]) (zdg dz_R_far_7 11 rfl) [0, 1, 2, 3, 4, 5] (jrI rfl rfl) hn (by decide) ?_
      exact vf_perm [2, 3, 4, 5, 6, 1, 0] rfl (t_R_far_352 C hn hR hr ih FU _ _ _ _ _ _ _)
def f_R_far_327 (k284 : Int → Int → Int → Int → Wd → Option (Int × Wd)) (v2 v3 v5 s0 s1 : Int) (w : Wd) : Option (Int × Wd) :=
  jlet (ior s0 s1) fun x25 =>
  jlet (w32 (v5 + 1)) fun x26 =>
  k284 v2 v3 x25 x26 w
theorem t_R_far_327 {X : jX} {Qf : Int × Wd → State → Prop} {ad : Nat → Nat} (C : Cx X prog_14_method_94_code "EachBringsAnotherModel") (hn : xn X = 8) (hR : xR X = rmD 4) (hr : Rt X Qf ad prog_14_method_94_code 0) {k284 : Int → Int → Int → Int → Wd → Option (Int × Wd)} (hk284 : ∀ (v2 v3 v4 v5 : Int) (w : Wd), VF X Qf ad NF 0 0 w 284 [(0, (2, 44)), (2, (0, v2)), (3, (0, v3)), (4, (0, v4)), (5, (0, v5))] [] (k284 v2 v3 v4 v5 w)) (v2 v3 v5 s0 s1 : Int) (w : Wd) : VF X Qf ad NF 0 0 w 327 [(0, (2, 44)), (2, (0, v2)), (3, (0, v3)), (5, (0, v5))] [(0, s1), (0, s0)] (f_R_far_327 k284 v2 v3 v5 s0 s1 w) := by
  unfold f_R_far_327
  refine vf_ior C (zdg dz_R_far_6 22 rfl) ?_
  generalize ior s0 s1 = x25
  refine vf_ul ?_
  refine vf_istore C (i := 4) (L' := [(0, (2, 44)), (2, (0, v2)), (3, (0, v3)), (5, (0, v5))]) (zdg dz_R_far_6 23 rfl) [0, 1, 2, 3] (jrI rfl rfl) hn (by decide) ?_
  refine vf_iinc C (z := 1) (L' := [(4, (0, x25)), (0, (2, 44)), (2, (0, v2)), (3, (0, v3))]) (zdg dz_R_far_7 0 rfl) 4 rfl [0, 1, 2, 3] (jrI rfl rfl) hn (by decide) ?_
  generalize w32 (v5 + 1) = x26
  refine vf_ul ?_
  refine vf_goto C (off := (-49)) (tgt := 284) (zdg dz_R_far_7 1 rfl) (by decide) ?_
  exact vf_perm [2, 3, 4, 1, 0] rfl (hk284 _ _ _ _ _)
def f_R_far_326 (k284 : Int → Int → Int → Int → Wd → Option (Int × Wd)) (v2 v3 v5 s0 : Int) (w : Wd) : Option (Int × Wd) :=
  f_R_far_327 k284 v2 v3 v5 s0 0 w
theorem t_R_far_326 {X : jX} {Qf : Int × Wd → State → Prop} {ad : Nat → Nat} (C : Cx X prog_14_method_94_code "EachBringsAnotherModel") (hn : xn X = 8) (hR : xR X = rmD 4) (hr : Rt X Qf ad prog_14_method_94_code 0) {k284 : Int → Int → Int → Int → Wd → Option (Int × Wd)} (hk284 : ∀ (v2 v3 v4 v5 : Int) (w : Wd), VF X Qf ad NF 0 0 w 284 [(0, (2, 44)), (2, (0, v2)), (3, (0, v3)), (4, (0, v4)), (5, (0, v5))] [] (k284 v2 v3 v4 v5 w)) (v2 v3 v5 s0 : Int) (w : Wd) : VF X Qf ad NF 0 0 w 326 [(0, (2, 44)), (2, (0, v2)), (3, (0, v3)), (5, (0, v5))] [(0, s0)] (f_R_far_326 k284 v2 v3 v5 s0 w) := by
  unfold f_R_far_326
  refine vf_iconst C (z := 0) (zdg dz_R_far_6 21 rfl) (jz rfl) ?_
  exact t_R_far_327 C hn hR hr hk284 _ _ _ _ _ _
def f_R_far_284 : Nat → Int → Int → Int → Int → Wd → Option (Int × Wd)
  | 0, _, _, _, _, _ => none
  | n + 1, v2, v3, v4, v5, w =>
    if (w 43 0) ≤ v5 then
      jlet (w32 (v3 - 1)) fun x9 =>
      f_R_far_341 FU v2 v3 v4 x9 w
    else
      jgd ((0 : Int) ≤ v5 ∧ v5 < 10) <|
      jcall (f_R_isGuest (w 47 v5.toNat) w) fun r23 u24 =>
      if r23 = 0 then
        f_R_far_326 (f_R_far_284 n) v2 v3 v5 v4 u24
      else
        jgd ((0 : Int) ≤ v5 ∧ v5 < 10) <|
        if (u24 78 v5.toNat) = v3 then
          f_R_far_327 (f_R_far_284 n) v2 v3 v5 v4 (ishl 1 v5) u24
        else
          f_R_far_326 (f_R_far_284 n) v2 v3 v5 v4 u24
theorem t_R_far_284 {X : jX} {Qf : Int × Wd → State → Prop} {ad : Nat → Nat} (C : Cx X prog_14_method_94_code "EachBringsAnotherModel") (hn : xn X = 8) (hR : xR X = rmD 4) (hr : Rt X Qf ad prog_14_method_94_code 0) : ∀ (n : Nat) (v2 v3 v4 v5 : Int) (w : Wd), VF X Qf ad NF 0 0 w 284 [(0, (2, 44)), (2, (0, v2)), (3, (0, v3)), (4, (0, v4)), (5, (0, v5))] [] (f_R_far_284 n v2 v3 v4 v5 w) := by
  intro n
  induction n with
  | zero => intros; exact vf_no
  | succ n ih =>
    intro v2 v3 v4 v5 w
    rw [f_R_far_284]
    refine vf_iload C (zdg dz_R_far_6 0 rfl) 4 rfl ?_
    refine vf_aload_n C (f := 0) (zdg dz_R_far_6 1 rfl) 0 rfl rfl ?_
    refine vf_get C (kd := 0) fl_R_144 sh_43 rfl (by decide) rfl rfl (zdg dz_R_far_6 2 rfl) ?_
    refine vf_icmp_ge C (off := 46) (tgt := 336) (zdg dz_R_far_6 3 rfl) (by decide) ?_ ?_
    · refine vf_iload_n C (f := 3) (zdg dz_R_far_7 2 rfl) 2 rfl rfl ?_
      refine vf_iconst C (z := 1) (zdg dz_R_far_7 3 rfl) (jz rfl) ?_
      refine vf_isub C (zdg dz_R_far_7 4 rfl) ?_
      generalize w32 (v3 - 1) = x9
      refine vf_ul ?_
      refine vf_istore C (i := 5) (L' := [(0, (2, 44)), (2, (0, v2)), (3, (0, v3)), (4, (0, v4))]) (zdg dz_R_far_7 5 rfl) [0, 1, 2, 3] (jrI rfl rfl) hn (by decide) ?_
      exact vf_perm [1, 2, 3, 4, 0] rfl (t_R_far_341 C hn hR hr FU _ _ _ _ _)
    · refine vf_iload C (zdg dz_R_far_6 4 rfl) 3 rfl ?_
      refine vf_aload_n C (f := 0) (zdg dz_R_far_6 5 rfl) 0 rfl rfl ?_
      refine vf_getp C fl_R_20 sh_43 rfl (by decide) rfl (x := 48) rfl (zdg dz_R_far_6 6 rfl) ?_
      refine vf_iload C (zdg dz_R_far_6 7 rfl) 4 rfl ?_
      refine vf_iald C sh_47 (by decide) rfl (mz := 10) rfl (zdg dz_R_far_6 8 rfl) ?_
      refine vf_callSz C cy_R_isGuest ml_R_256 (ct_R_isGuest _ _) (S := [(0, v4)]) (jrm_of hR rfl) rfl rfl (Nat.le_of_ble_eq_true rfl) (zdg dz_R_far_6 9 rfl) (fun r23 u24 => ?_)
      refine vf_if_eq C (off := 21) (tgt := 326) (zdg dz_R_far_6 10 rfl) (by decide) ?_ ?_
      · exact vf_perm [0, 1, 2, 4] rfl (t_R_far_326 C hn hR hr ih _ _ _ _ _)
      · refine vf_aload_n C (f := 0) (zdg dz_R_far_6 11 rfl) 0 rfl rfl ?_
        refine vf_getp C fl_R_126 sh_43 rfl (by decide) rfl (x := 79) rfl (zdg dz_R_far_6 12 rfl) ?_
        refine vf_iload C (zdg dz_R_far_6 13 rfl) 4 rfl ?_
        refine vf_iald C sh_78 (by decide) rfl (mz := 10) rfl (zdg dz_R_far_6 14 rfl) ?_
        refine vf_iload_n C (f := 3) (zdg dz_R_far_6 15 rfl) 2 rfl rfl ?_
        refine vf_icmp_ne C (off := 10) (tgt := 326) (zdg dz_R_far_6 16 rfl) (by decide) ?_ ?_
        · exact vf_perm [0, 1, 2, 4] rfl (t_R_far_326 C hn hR hr ih _ _ _ _ _)
        · refine vf_iconst C (z := 1) (zdg dz_R_far_6 17 rfl) (jz rfl) ?_
          refine vf_iload C (zdg dz_R_far_6 18 rfl) 4 rfl ?_
          refine vf_ishl C (zdg dz_R_far_6 19 rfl) ?_
          refine vf_goto C (off := 4) (tgt := 327) (zdg dz_R_far_6 20 rfl) (by decide) ?_
          exact vf_perm [0, 1, 2, 4] rfl (t_R_far_327 C hn hR hr ih _ _ _ _ _ _)
def f_R_far_257 (k223 : Int → Int → Int → Wd → Option (Int × Wd)) (v2 v3 v4 : Int) (w : Wd) : Option (Int × Wd) :=
  jlet (w32 (v4 + 1)) fun x29 =>
  k223 v2 v3 x29 w
theorem t_R_far_257 {X : jX} {Qf : Int × Wd → State → Prop} {ad : Nat → Nat} (C : Cx X prog_14_method_94_code "EachBringsAnotherModel") (hn : xn X = 8) (hR : xR X = rmD 4) (hr : Rt X Qf ad prog_14_method_94_code 0) {k223 : Int → Int → Int → Wd → Option (Int × Wd)} (hk223 : ∀ (v2 v3 v4 : Int) (w : Wd), VF X Qf ad NF 0 0 w 223 [(0, (2, 44)), (2, (0, v2)), (3, (0, v3)), (4, (0, v4))] [] (k223 v2 v3 v4 w)) (v2 v3 v4 : Int) (w : Wd) : VF X Qf ad NF 0 0 w 257 [(0, (2, 44)), (2, (0, v2)), (3, (0, v3)), (4, (0, v4))] [] (f_R_far_257 k223 v2 v3 v4 w) := by
  unfold f_R_far_257
  refine vf_iinc C (z := 1) (L' := [(0, (2, 44)), (2, (0, v2)), (3, (0, v3))]) (zdg dz_R_far_5 10 rfl) 3 rfl [0, 1, 2] (jrI rfl rfl) hn (by decide) ?_
  generalize w32 (v4 + 1) = x29
  refine vf_ul ?_
  refine vf_goto C (off := (-37)) (tgt := 223) (zdg dz_R_far_5 11 rfl) (by decide) ?_
  exact vf_perm [1, 2, 3, 0] rfl (hk223 _ _ _ _)
def f_R_far_223 : Nat → Int → Int → Int → Wd → Option (Int × Wd)
  | 0, _, _, _, _ => none
  | n + 1, v2, v3, v4, w =>
    if (w 43 0) ≤ v4 then
      if v3 = 1000000 then
        some ((-2), w)
      else
        jlw (st w 43 15 0) fun u8 =>
        f_R_far_284 FU v2 v3 0 0 u8
    else
      jgd ((0 : Int) ≤ v4 ∧ v4 < 10) <|
      jcall (f_R_isGuest (w 47 v4.toNat) w) fun r27 u28 =>
      if r27 = 0 then
        f_R_far_257 (f_R_far_223 n) v2 v3 v4 u28
      else
        jgd ((0 : Int) ≤ v4 ∧ v4 < 10) <|
        jlet (imin v3 (u28 78 v4.toNat)) fun x30 =>
        f_R_far_257 (f_R_far_223 n) v2 x30 v4 u28
theorem t_R_far_223 {X : jX} {Qf : Int × Wd → State → Prop} {ad : Nat → Nat} (C : Cx X prog_14_method_94_code "EachBringsAnotherModel") (hn : xn X = 8) (hR : xR X = rmD 4) (hr : Rt X Qf ad prog_14_method_94_code 0) : ∀ (n : Nat) (v2 v3 v4 : Int) (w : Wd), VF X Qf ad NF 0 0 w 223 [(0, (2, 44)), (2, (0, v2)), (3, (0, v3)), (4, (0, v4))] [] (f_R_far_223 n v2 v3 v4 w) := by
  intro n
  induction n with
  | zero => intros; exact vf_no
  | succ n ih =>
    intro v2 v3 v4 w
    rw [f_R_far_223]
    refine vf_iload C (zdg dz_R_far_4 17 rfl) 3 rfl ?_
    refine vf_aload_n C (f := 0) (zdg dz_R_far_4 18 rfl) 0 rfl rfl ?_
    refine vf_get C (kd := 0) fl_R_144 sh_43 rfl (by decide) rfl rfl (zdg dz_R_far_4 19 rfl) ?_
    refine vf_icmp_ge C (off := 34) (tgt := 263) (zdg dz_R_far_4 20 rfl) (by decide) ?_ ?_
    · refine vf_iload_n C (f := 3) (zdg dz_R_far_5 12 rfl) 2 rfl rfl ?_
      refine vf_ldcw C (z := 1000000) (i := 348) (zdg dz_R_far_5 13 rfl) kc_R_348 (by decide +kernel) (jz rfl) ?_
      refine vf_icmp_ne C (off := 6) (tgt := 273) (zdg dz_R_far_5 14 rfl) (by decide) ?_ ?_
      · refine vf_aload_n C (f := 0) (zdg dz_R_far_5 17 rfl) 0 rfl rfl ?_
        refine vf_iconst C (z := 0) (zdg dz_R_far_5 18 rfl) (jz rfl) ?_
        refine vf_put C (kd := 0) fl_R_141 fk_11_15 sh_43 rfl (by decide) rfl rfl (by decide) (zdg dz_R_far_5 19 rfl) ?_
        generalize st w 43 15 0 = u8
        refine vf_uw ?_
        refine vf_iconst C (z := 0) (zdg dz_R_far_5 20 rfl) (jz rfl) ?_
        refine vf_istore C (i := 4) (L' := [(0, (2, 44)), (2, (0, v2)), (3, (0, v3))]) (zdg dz_R_far_5 21 rfl) [0, 1, 2] (jrI rfl rfl) hn (by decide) ?_
        refine vf_iconst C (z := 0) (zdg dz_R_far_5 22 rfl) (jz rfl) ?_
        refine vf_istore C (i := 5) (L' := [(4, (0, 0)), (0, (2, 44)), (2, (0, v2)), (3, (0, v3))]) (zdg dz_R_far_5 23 rfl) [0, 1, 2, 3] (jrI rfl rfl) hn (by decide) ?_
        exact vf_perm [2, 3, 4, 1, 0] rfl (t_R_far_284 C hn hR hr FU _ _ _ _ _)
      · refine vf_bipush C (z := (-2)) (zdg dz_R_far_5 15 rfl) (by decide +kernel) (jz rfl) ?_
        exact hr _ _ _ _ (fun h => absurd h (by decide)) (zdg dz_R_far_5 16 rfl)
    · refine vf_aload_n C (f := 0) (zdg dz_R_far_4 21 rfl) 0 rfl rfl ?_
      refine vf_getp C fl_R_20 sh_43 rfl (by decide) rfl (x := 48) rfl (zdg dz_R_far_4 22 rfl) ?_
      refine vf_iload C (zdg dz_R_far_4 23 rfl) 3 rfl ?_
      refine vf_iald C sh_47 (by decide) rfl (mz := 10) rfl (zdg dz_R_far_5 0 rfl) ?_
      refine vf_callSz C cy_R_isGuest ml_R_256 (ct_R_isGuest _ _) (S := []) (jrm_of hR rfl) rfl rfl (Nat.le_of_ble_eq_true rfl) (zdg dz_R_far_5 1 rfl) (fun r27 u28 => ?_)
      refine vf_if_eq C (off := 15) (tgt := 257) (zdg dz_R_far_5 2 rfl) (by decide) ?_ ?_
      · exact t_R_far_257 C hn hR hr ih _ _ _ _
      · refine vf_iload_n C (f := 3) (zdg dz_R_far_5 3 rfl) 2 rfl rfl ?_
        refine vf_aload_n C (f := 0) (zdg dz_R_far_5 4 rfl) 0 rfl rfl ?_
        refine vf_getp C fl_R_126 sh_43 rfl (by decide) rfl (x := 79) rfl (zdg dz_R_far_5 5 rfl) ?_
        refine vf_iload C (zdg dz_R_far_5 6 rfl) 3 rfl ?_
        refine vf_iald C sh_78 (by decide) rfl (mz := 10) rfl (zdg dz_R_far_5 7 rfl) ?_
        refine vf_mmin C ml_R_262 (jrm_n hR (by decide)) ⟨Nat.zero_le _, Nat.zero_le _⟩ (Nat.le_of_ble_eq_true rfl) (zdg dz_R_far_5 8 rfl) ?_
        generalize imin v3 (u28 78 v4.toNat) = x30
        refine vf_ul ?_
        refine vf_istore_n C (f := 3) (L' := [(0, (2, 44)), (2, (0, v2)), (4, (0, v4))]) (zdg dz_R_far_5 9 rfl) [0, 1, 3] (jrI rfl rfl) hn (by decide) rfl ?_
        exact vf_perm [1, 2, 0, 3] rfl (t_R_far_257 C hn hR hr ih _ _ _ _)
def f_R_far_204 (k79 : Int → Int → Wd → Option (Int × Wd)) (k90 : Int → Int → Int → Wd → Option (Int × Wd)) (v2 v3 v4 : Int) (w : Wd) : Option (Int × Wd) :=
  jlet (w32 (v4 + 1)) fun x32 =>
  k90 v2 v3 x32 w
theorem t_R_far_204 {X : jX} {Qf : Int × Wd → State → Prop} {ad : Nat → Nat} (C : Cx X prog_14_method_94_code "EachBringsAnotherModel") (hn : xn X = 8) (hR : xR X = rmD 4) (hr : Rt X Qf ad prog_14_method_94_code 0) {k79 : Int → Int → Wd → Option (Int × Wd)} (hk79 : ∀ (v2 v3 : Int) (w : Wd), VF X Qf ad NF 0 0 w 79 [(0, (2, 44)), (2, (0, v2)), (3, (0, v3))] [] (k79 v2 v3 w)) {k90 : Int → Int → Int → Wd → Option (Int × Wd)} (hk90 : ∀ (v2 v3 v4 : Int) (w : Wd), VF X Qf ad NF 0 0 w 90 [(0, (2, 44)), (2, (0, v2)), (3, (0, v3)), (4, (0, v4))] [] (k90 v2 v3 v4 w)) (v2 v3 v4 : Int) (w : Wd) : VF X Qf ad NF 0 0 w 204 [(0, (2, 44)), (2, (0, v2)), (3, (0, v3)), (4, (0, v4))] [] (f_R_far_204 k79 k90 v2 v3 v4 w) := by
  unfold f_R_far_204
  refine vf_iinc C (z := 1) (L' := [(0, (2, 44)), (2, (0, v2)), (3, (0, v3))]) (zdg dz_R_far_4 9 rfl) 3 rfl [0, 1, 2] (jrI rfl rfl) hn (by decide) ?_
  generalize w32 (v4 + 1) = x32
  refine vf_ul ?_
  refine vf_goto C (off := (-117)) (tgt := 90) (zdg dz_R_far_4 10 rfl) (by decide) ?_
  exact vf_perm [1, 2, 3, 0] rfl (hk90 _ _ _ _)
def f_R_far_198 (k79 : Int → Int → Wd → Option (Int × Wd)) (k90 : Int → Int → Int → Wd → Option (Int × Wd)) (k129 : Int → Int → Int → Int → Wd → Option (Int × Wd)) (v2 v3 v4 v5 : Int) (w : Wd) : Option (Int × Wd) :=
  jlet (w32 (v5 + 1)) fun x37 =>
  k129 v2 v3 v4 x37 w
theorem t_R_far_198 {X : jX} {Qf : Int × Wd → State → Prop} {ad : Nat → Nat} (C : Cx X prog_14_method_94_code "EachBringsAnotherModel") (hn : xn X = 8) (hR : xR X = rmD 4) (hr : Rt X Qf ad prog_14_method_94_code 0) {k79 : Int → Int → Wd → Option (Int × Wd)} (hk79 : ∀ (v2 v3 : Int) (w : Wd), VF X Qf ad NF 0 0 w 79 [(0, (2, 44)), (2, (0, v2)), (3, (0, v3))] [] (k79 v2 v3 w)) {k90 : Int → Int → Int → Wd → Option (Int × Wd)} (hk90 : ∀ (v2 v3 v4 : Int) (w : Wd), VF X Qf ad NF 0 0 w 90 [(0, (2, 44)), (2, (0, v2)), (3, (0, v3)), (4, (0, v4))] [] (k90 v2 v3 v4 w)) {k129 : Int → Int → Int → Int → Wd → Option (Int × Wd)} (hk129 : ∀ (v2 v3 v4 v5 : Int) (w : Wd), VF X Qf ad NF 0 0 w 129 [(0, (2, 44)), (2, (0, v2)), (3, (0, v3)), (4, (0, v4)), (5, (0, v5))] [] (k129 v2 v3 v4 v5 w)) (v2 v3 v4 v5 : Int) (w : Wd) : VF X Qf ad NF 0 0 w 198 [(0, (2, 44)), (2, (0, v2)), (3, (0, v3)), (4, (0, v4)), (5, (0, v5))] [] (f_R_far_198 k79 k90 k129 v2 v3 v4 v5 w) := by
  unfold f_R_far_198
  refine vf_iinc C (z := 1) (L' := [(0, (2, 44)), (2, (0, v2)), (3, (0, v3)), (4, (0, v4))]) (zdg dz_R_far_4 7 rfl) 4 rfl [0, 1, 2, 3] (jrI rfl rfl) hn (by decide) ?_
  generalize w32 (v5 + 1) = x37
  refine vf_ul ?_
  refine vf_goto C (off := (-72)) (tgt := 129) (zdg dz_R_far_4 8 rfl) (by decide) ?_
  exact vf_perm [1, 2, 3, 4, 0] rfl (hk129 _ _ _ _ _)
def f_R_far_188 (k79 : Int → Int → Wd → Option (Int × Wd)) (k90 : Int → Int → Int → Wd → Option (Int × Wd)) (k129 : Int → Int → Int → Int → Wd → Option (Int × Wd)) (v2 v3 v4 v5 : Int) (w : Wd) : Option (Int × Wd) :=
  jgd ((0 : Int) ≤ v5 ∧ v5 < 10) <|
  jlw (st w 78 v5.toNat ((w32 (v3 + 1)))) fun u40 =>
  f_R_far_198 k79 k90 k129 v2 v3 v4 v5 u40
theorem t_R_far_188 {X : jX} {Qf : Int × Wd → State → Prop} {ad : Nat → Nat} (C : Cx X prog_14_method_94_code "EachBringsAnotherModel") (hn : xn X = 8) (hR : xR X = rmD 4) (hr : Rt X Qf ad prog_14_method_94_code 0) {k79 : Int → Int → Wd → Option (Int × Wd)} (hk79 : ∀ (v2 v3 : Int) (w : Wd), VF X Qf ad NF 0 0 w 79 [(0, (2, 44)), (2, (0, v2)), (3, (0, v3))] [] (k79 v2 v3 w)) {k90 : Int → Int → Int → Wd → Option (Int × Wd)} (hk90 : ∀ (v2 v3 v4 : Int) (w : Wd), VF X Qf ad NF 0 0 w 90 [(0, (2, 44)), (2, (0, v2)), (3, (0, v3)), (4, (0, v4))] [] (k90 v2 v3 v4 w)) {k129 : Int → Int → Int → Int → Wd → Option (Int × Wd)} (hk129 : ∀ (v2 v3 v4 v5 : Int) (w : Wd), VF X Qf ad NF 0 0 w 129 [(0, (2, 44)), (2, (0, v2)), (3, (0, v3)), (4, (0, v4)), (5, (0, v5))] [] (k129 v2 v3 v4 v5 w)) (v2 v3 v4 v5 : Int) (w : Wd) : VF X Qf ad NF 0 0 w 188 [(0, (2, 44)), (2, (0, v2)), (3, (0, v3)), (4, (0, v4)), (5, (0, v5))] [] (f_R_far_188 k79 k90 k129 v2 v3 v4 v5 w) := by
  unfold f_R_far_188
  refine vf_aload_n C (f := 0) (zdg dz_R_far_4 0 rfl) 0 rfl rfl ?_
  refine vf_getp C fl_R_126 sh_43 rfl (by decide) rfl (x := 79) rfl (zdg dz_R_far_4 1 rfl) ?_
  refine vf_iload C (zdg dz_R_far_4 2 rfl) 4 rfl ?_
  refine vf_iload_n C (f := 3) (zdg dz_R_far_4 3 rfl) 2 rfl rfl ?_
  refine vf_iconst C (z := 1) (zdg dz_R_far_4 4 rfl) (jz rfl) ?_
  refine vf_iadd C (zdg dz_R_far_4 5 rfl) ?_
  refine vf_iast C sh_78 (by decide) rfl (mz := 10) rfl (zdg dz_R_far_4 6 rfl) ?_
  generalize st w 78 v5.toNat ((w32 (v3 + 1))) = u40
  refine vf_uw ?_
  exact t_R_far_198 C hn hR hr hk79 hk90 hk129 _ _ _ _ _
def f_R_far_129 (k79 : Int → Int → Wd → Option (Int × Wd)) (k90 : Int → Int → Int → Wd → Option (Int × Wd)) : Nat → Int → Int → Int → Int → Wd → Option (Int × Wd)
  | 0, _, _, _, _, _ => none
  | n + 1, v2, v3, v4, v5, w =>
    if (w 43 0) ≤ v5 then
      f_R_far_204 k79 k90 v2 v3 v4 w
    else
      jgd ((0 : Int) ≤ v4 ∧ v4 < 10) <|
      jcall (f_R_has (w 45 v4.toNat) v5 w) fun r35 u36 =>
      if r35 = 0 then
        f_R_far_198 k79 k90 (f_R_far_129 k79 k90 n) v2 v3 v4 v5 u36
      else
        jgd ((0 : Int) ≤ v5 ∧ v5 < 10) <|
        if (u36 78 v5.toNat) = 1000000 then
          jcall (f_R_has v2 v5 u36) fun r38 u39 =>
          if r38 = 0 then
            jgd ((0 : Int) ≤ v5 ∧ v5 < 10) <|
            jcall (f_R_isGuest (u39 47 v5.toNat) u39) fun r41 u42 =>
            if r41 = 0 then
              f_R_far_198 k79 k90 (f_R_far_129 k79 k90 n) v2 v3 v4 v5 u42
            else
              f_R_far_188 k79 k90 (f_R_far_129 k79 k90 n) v2 v3 v4 v5 u42
          else
            f_R_far_188 k79 k90 (f_R_far_129 k79 k90 n) v2 v3 v4 v5 u39
        else
          f_R_far_198 k79 k90 (f_R_far_129 k79 k90 n) v2 v3 v4 v5 u36
theorem t_R_far_129 {X : jX} {Qf : Int × Wd → State → Prop} {ad : Nat → Nat} (C : Cx X prog_14_method_94_code "EachBringsAnotherModel") (hn : xn X = 8) (hR : xR X = rmD 4) (hr : Rt X Qf ad prog_14_method_94_code 0) {k79 : Int → Int → Wd → Option (Int × Wd)} (hk79 : ∀ (v2 v3 : Int) (w : Wd), VF X Qf ad NF 0 0 w 79 [(0, (2, 44)), (2, (0, v2)), (3, (0, v3))] [] (k79 v2 v3 w)) {k90 : Int → Int → Int → Wd → Option (Int × Wd)} (hk90 : ∀ (v2 v3 v4 : Int) (w : Wd), VF X Qf ad NF 0 0 w 90 [(0, (2, 44)), (2, (0, v2)), (3, (0, v3)), (4, (0, v4))] [] (k90 v2 v3 v4 w)) : ∀ (n : Nat) (v2 v3 v4 v5 : Int) (w : Wd), VF X Qf ad NF 0 0 w 129 [(0, (2, 44)), (2, (0, v2)), (3, (0, v3)), (4, (0, v4)), (5, (0, v5))] [] (f_R_far_129 k79 k90 n v2 v3 v4 v5 w) := by
  intro n
  induction n with
  | zero => intros; exact vf_no
  | succ n ih =>
    intro v2 v3 v4 v5 w
    rw [f_R_far_129]
    refine vf_iload C (zdg dz_R_far_2 21 rfl) 4 rfl ?_
    refine vf_aload_n C (f := 0) (zdg dz_R_far_2 22 rfl) 0 rfl rfl ?_
    refine vf_get C (kd := 0) fl_R_144 sh_43 rfl (by decide) rfl rfl (zdg dz_R_far_2 23 rfl) ?_
    refine vf_icmp_ge C (off := 69) (tgt := 204) (zdg dz_R_far_3 0 rfl) (by decide) ?_ ?_
    · exact vf_perm [0, 1, 2, 3] rfl (t_R_far_204 C hn hR hr hk79 hk90 _ _ _ _)
    · refine vf_aload_n C (f := 0) (zdg dz_R_far_3 1 rfl) 0 rfl rfl ?_
      refine vf_getp C fl_R_13 sh_43 rfl (by decide) rfl (x := 46) rfl (zdg dz_R_far_3 2 rfl) ?_
      refine vf_iload C (zdg dz_R_far_3 3 rfl) 3 rfl ?_
      refine vf_iald C sh_45 (by decide) rfl (mz := 10) rfl (zdg dz_R_far_3 4 rfl) ?_
      refine vf_iload C (zdg dz_R_far_3 5 rfl) 4 rfl ?_
      refine vf_callSz C cy_R_has ml_R_210 (ct_R_has _ _ _) (S := []) (jrm_of hR rfl) rfl rfl (Nat.le_of_ble_eq_true rfl) (zdg dz_R_far_3 6 rfl) (fun r35 u36 => ?_)
      refine vf_if_eq C (off := 48) (tgt := 198) (zdg dz_R_far_3 7 rfl) (by decide) ?_ ?_
      · exact t_R_far_198 C hn hR hr hk79 hk90 ih _ _ _ _ _
      · refine vf_aload_n C (f := 0) (zdg dz_R_far_3 8 rfl) 0 rfl rfl ?_
        refine vf_getp C fl_R_126 sh_43 rfl (by decide) rfl (x := 79) rfl (zdg dz_R_far_3 9 rfl) ?_
        refine vf_iload C (zdg dz_R_far_3 10 rfl) 4 rfl ?_
        refine vf_iald C sh_78 (by decide) rfl (mz := 10) rfl (zdg dz_R_far_3 11 rfl) ?_
        refine vf_ldcw C (z := 1000000) (i := 348) (zdg dz_R_far_3 12 rfl) kc_R_348 (by decide +kernel) (jz rfl) ?_
        refine vf_icmp_ne C (off := 35) (tgt := 198) (zdg dz_R_far_3 13 rfl) (by decide) ?_ ?_
        · exact t_R_far_198 C hn hR hr hk79 hk90 ih _ _ _ _ _
        · refine vf_iload_n C (f := 2) (zdg dz_R_far_3 14 rfl) 1 rfl rfl ?_
          refine vf_iload C (zdg dz_R_far_3 15 rfl) 4 rfl ?_
          refine vf_callSz C cy_R_has ml_R_210 (ct_R_has _ _ _) (S := []) (jrm_of hR rfl) rfl rfl (Nat.le_of_ble_eq_true rfl) (zdg dz_R_far_3 16 rfl) (fun r38 u39 => ?_)
          refine vf_if_ne C (off := 16) (tgt := 188) (zdg dz_R_far_3 17 rfl) (by decide) ?_ ?_
          · exact t_R_far_188 C hn hR hr hk79 hk90 ih _ _ _ _ _
          · refine vf_aload_n C (f := 0) (zdg dz_R_far_3 18 rfl) 0 rfl rfl ?_
            refine vf_getp C fl_R_20 sh_43 rfl (by decide) rfl (x := 48) rfl (zdg dz_R_far_3 19 rfl) ?_
            refine vf_iload C (zdg dz_R_far_3 20 rfl) 4 rfl ?_
            refine vf_iald C sh_47 (by decide) rfl (mz := 10) rfl (zdg dz_R_far_3 21 rfl) ?_
            refine vf_callSz C cy_R_isGuest ml_R_256 (ct_R_isGuest _ _) (S := []) (jrm_of hR rfl) rfl rfl (Nat.le_of_ble_eq_true rfl) (zdg dz_R_far_3 22 rfl) (fun r41 u42 => ?_)
            refine vf_if_eq C (off := 13) (tgt := 198) (zdg dz_R_far_3 23 rfl) (by decide) ?_ ?_
            · exact t_R_far_198 C hn hR hr hk79 hk90 ih _ _ _ _ _
            · exact t_R_far_188 C hn hR hr hk79 hk90 ih _ _ _ _ _
def f_R_far_90 (k79 : Int → Int → Wd → Option (Int × Wd)) : Nat → Int → Int → Int → Wd → Option (Int × Wd)
  | 0, _, _, _, _ => none
  | n + 1, v2, v3, v4, w =>
    if (w 43 0) ≤ v4 then
      jlet (w32 (v3 + 1)) fun x31 =>
      k79 v2 x31 w
    else
      jgd ((0 : Int) ≤ v4 ∧ v4 < 10) <|
      if (w 78 v4.toNat) = v3 then
        jgd ((0 : Int) ≤ v4 ∧ v4 < 10) <|
        jcall (f_R_isGuest (w 47 v4.toNat) w) fun r33 u34 =>
        if r33 = 0 then
          f_R_far_129 k79 (f_R_far_90 k79 n) FU v2 v3 v4 0 u34
        else
          f_R_far_204 k79 (f_R_far_90 k79 n) v2 v3 v4 u34
      else
        f_R_far_204 k79 (f_R_far_90 k79 n) v2 v3 v4 w
theorem t_R_far_90 {X : jX} {Qf : Int × Wd → State → Prop} {ad : Nat → Nat} (C : Cx X prog_14_method_94_code "EachBringsAnotherModel") (hn : xn X = 8) (hR : xR X = rmD 4) (hr : Rt X Qf ad prog_14_method_94_code 0) {k79 : Int → Int → Wd → Option (Int × Wd)} (hk79 : ∀ (v2 v3 : Int) (w : Wd), VF X Qf ad NF 0 0 w 79 [(0, (2, 44)), (2, (0, v2)), (3, (0, v3))] [] (k79 v2 v3 w)) : ∀ (n : Nat) (v2 v3 v4 : Int) (w : Wd), VF X Qf ad NF 0 0 w 90 [(0, (2, 44)), (2, (0, v2)), (3, (0, v3)), (4, (0, v4))] [] (f_R_far_90 k79 n v2 v3 v4 w) := by
  intro n
  induction n with
  | zero => intros; exact vf_no
  | succ n ih =>
    intro v2 v3 v4 w
    rw [f_R_far_90]
    refine vf_iload C (zdg dz_R_far_2 2 rfl) 3 rfl ?_
    refine vf_aload_n C (f := 0) (zdg dz_R_far_2 3 rfl) 0 rfl rfl ?_
    refine vf_get C (kd := 0) fl_R_144 sh_43 rfl (by decide) rfl rfl (zdg dz_R_far_2 4 rfl) ?_
    refine vf_icmp_ge C (off := 114) (tgt := 210) (zdg dz_R_far_2 5 rfl) (by decide) ?_ ?_
    · refine vf_iinc C (z := 1) (L' := [(0, (2, 44)), (2, (0, v2))]) (zdg dz_R_far_4 11 rfl) 2 rfl [0, 1] (jrI rfl rfl) hn (by decide) ?_
      generalize w32 (v3 + 1) = x31
      refine vf_ul ?_
      refine vf_goto C (off := (-134)) (tgt := 79) (zdg dz_R_far_4 12 rfl) (by decide) ?_
      exact vf_perm [1, 2, 0] rfl (hk79 _ _ _)
    · refine vf_aload_n C (f := 0) (zdg dz_R_far_2 6 rfl) 0 rfl rfl ?_
      refine vf_getp C fl_R_126 sh_43 rfl (by decide) rfl (x := 79) rfl (zdg dz_R_far_2 7 rfl) ?_
      refine vf_iload C (zdg dz_R_far_2 8 rfl) 3 rfl ?_
      refine vf_iald C sh_78 (by decide) rfl (mz := 10) rfl (zdg dz_R_far_2 9 rfl) ?_
      refine vf_iload_n C (f := 3) (zdg dz_R_far_2 10 rfl) 2 rfl rfl ?_
      refine vf_icmp_ne C (off := 97) (tgt := 204) (zdg dz_R_far_2 11 rfl) (by decide) ?_ ?_
      · exact t_R_far_204 C hn hR hr hk79 ih _ _ _ _
      · refine vf_aload_n C (f := 0) (zdg dz_R_far_2 12 rfl) 0 rfl rfl ?_
        refine vf_getp C fl_R_20 sh_43 rfl (by decide) rfl (x := 48) rfl (zdg dz_R_far_2 13 rfl) ?_
        refine vf_iload C (zdg dz_R_far_2 14 rfl) 3 rfl ?_
        refine vf_iald C sh_47 (by decide) rfl (mz := 10) rfl (zdg dz_R_far_2 15 rfl) ?_
        refine vf_callSz C cy_R_isGuest ml_R_256 (ct_R_isGuest _ _) (S := []) (jrm_of hR rfl) rfl rfl (Nat.le_of_ble_eq_true rfl) (zdg dz_R_far_2 16 rfl) (fun r33 u34 => ?_)
        refine vf_if_eq C (off := 6) (tgt := 126) (zdg dz_R_far_2 17 rfl) (by decide) ?_ ?_
        · refine vf_iconst C (z := 0) (zdg dz_R_far_2 19 rfl) (jz rfl) ?_
          refine vf_istore C (i := 5) (L' := [(0, (2, 44)), (2, (0, v2)), (3, (0, v3)), (4, (0, v4))]) (zdg dz_R_far_2 20 rfl) [0, 1, 2, 3] (jrI rfl rfl) hn (by decide) ?_
          exact vf_perm [1, 2, 3, 4, 0] rfl (t_R_far_129 C hn hR hr hk79 ih FU _ _ _ _ _)
        · refine vf_goto C (off := 81) (tgt := 204) (zdg dz_R_far_2 18 rfl) (by decide) ?_
          exact t_R_far_204 C hn hR hr hk79 ih _ _ _ _
def f_R_far_79 : Nat → Int → Int → Wd → Option (Int × Wd)
  | 0, _, _, _ => none
  | n + 1, v2, v3, w =>
    if (w 43 0) ≤ v3 then
      f_R_far_223 FU v2 1000000 0 w
    else
      f_R_far_90 (f_R_far_79 n) FU v2 v3 0 w
theorem t_R_far_79 {X : jX} {Qf : Int × Wd → State → Prop} {ad : Nat → Nat} (C : Cx X prog_14_method_94_code "EachBringsAnotherModel") (hn : xn X = 8) (hR : xR X = rmD 4) (hr : Rt X Qf ad prog_14_method_94_code 0) : ∀ (n : Nat) (v2 v3 : Int) (w : Wd), VF X Qf ad NF 0 0 w 79 [(0, (2, 44)), (2, (0, v2)), (3, (0, v3))] [] (f_R_far_79 n v2 v3 w) := by
  intro n
  induction n with
  | zero => intros; exact vf_no
  | succ n ih =>
    intro v2 v3 w
    rw [f_R_far_79]
    refine vf_iload_n C (f := 3) (zdg dz_R_far_1 20 rfl) 2 rfl rfl ?_
    refine vf_aload_n C (f := 0) (zdg dz_R_far_1 21 rfl) 0 rfl rfl ?_
    refine vf_get C (kd := 0) fl_R_144 sh_43 rfl (by decide) rfl rfl (zdg dz_R_far_1 22 rfl) ?_
    refine vf_icmp_ge C (off := 132) (tgt := 216) (zdg dz_R_far_1 23 rfl) (by decide) ?_ ?_
    · refine vf_ldcw C (z := 1000000) (i := 348) (zdg dz_R_far_4 13 rfl) kc_R_348 (by decide +kernel) (jz rfl) ?_
      refine vf_istore_n C (f := 3) (L' := [(0, (2, 44)), (2, (0, v2))]) (zdg dz_R_far_4 14 rfl) [0, 1] (jrI rfl rfl) hn (by decide) rfl ?_
      refine vf_iconst C (z := 0) (zdg dz_R_far_4 15 rfl) (jz rfl) ?_
      refine vf_istore C (i := 4) (L' := [(3, (0, 1000000)), (0, (2, 44)), (2, (0, v2))]) (zdg dz_R_far_4 16 rfl) [0, 1, 2] (jrI rfl rfl) hn (by decide) ?_
      exact vf_perm [2, 3, 1, 0] rfl (t_R_far_223 C hn hR hr FU _ _ _ _)
    · refine vf_iconst C (z := 0) (zdg dz_R_far_2 0 rfl) (jz rfl) ?_
      refine vf_istore C (i := 4) (L' := [(0, (2, 44)), (2, (0, v2)), (3, (0, v3))]) (zdg dz_R_far_2 1 rfl) [0, 1, 2] (jrI rfl rfl) hn (by decide) ?_
      exact vf_perm [1, 2, 3, 0] rfl (t_R_far_90 C hn hR hr ih FU _ _ _ _)
def f_R_far_70 (k45 : Int → Int → Int → Wd → Option (Int × Wd)) (v1 v2 v3 s1 s2 : Int) (w : Wd) : Option (Int × Wd) :=
  jgd ((0 : Int) ≤ s1 ∧ s1 < 10) <|
  jlw (st w 78 s1.toNat s2) fun u43 =>
  jlet (w32 (v3 + 1)) fun x44 =>
  k45 v1 v2 x44 u43
theorem t_R_far_70 {X : jX} {Qf : Int × Wd → State → Prop} {ad : Nat → Nat} (C : Cx X prog_14_method_94_code "EachBringsAnotherModel") (hn : xn X = 8) (hR : xR X = rmD 4) (hr : Rt X Qf ad prog_14_method_94_code 0) {k45 : Int → Int → Int → Wd → Option (Int × Wd)} (hk45 : ∀ (v1 v2 v3 : Int) (w : Wd), VF X Qf ad NF 0 0 w 45 [(0, (2, 44)), (1, (0, v1)), (2, (0, v2)), (3, (0, v3))] [] (k45 v1 v2 v3 w)) (v1 v2 v3 s1 s2 : Int) (w : Wd) : VF X Qf ad NF 0 0 w 70 [(0, (2, 44)), (1, (0, v1)), (2, (0, v2)), (3, (0, v3))] [(0, s2), (0, s1), (2, 79)] (f_R_far_70 k45 v1 v2 v3 s1 s2 w) := by
  unfold f_R_far_70
  refine vf_iast C sh_78 (by decide) rfl (mz := 10) rfl (zdg dz_R_far_1 15 rfl) ?_
  generalize st w 78 s1.toNat s2 = u43
  refine vf_uw ?_
  refine vf_iinc C (z := 1) (L' := [(0, (2, 44)), (1, (0, v1)), (2, (0, v2))]) (zdg dz_R_far_1 16 rfl) 3 rfl [0, 1, 2] (jrI rfl rfl) hn (by decide) ?_
  generalize w32 (v3 + 1) = x44
  refine vf_ul ?_
  refine vf_goto C (off := (-29)) (tgt := 45) (zdg dz_R_far_1 17 rfl) (by decide) ?_
  exact vf_perm [1, 2, 3, 0] rfl (hk45 _ _ _ _)
def f_R_far_45 : Nat → Int → Int → Int → Wd → Option (Int × Wd)
  | 0, _, _, _, _ => none
  | n + 1, v1, v2, v3, w =>
    if (w 43 0) ≤ v3 then
      f_R_far_79 FU v2 0 w
    else
      if v3 = v1 then
        f_R_far_70 (f_R_far_45 n) v1 v2 v3 v3 0 w
      else
        f_R_far_70 (f_R_far_45 n) v1 v2 v3 v3 1000000 w
theorem t_R_far_45 {X : jX} {Qf : Int × Wd → State → Prop} {ad : Nat → Nat} (C : Cx X prog_14_method_94_code "EachBringsAnotherModel") (hn : xn X = 8) (hR : xR X = rmD 4) (hr : Rt X Qf ad prog_14_method_94_code 0) : ∀ (n : Nat) (v1 v2 v3 : Int) (w : Wd), VF X Qf ad NF 0 0 w 45 [(0, (2, 44)), (1, (0, v1)), (2, (0, v2)), (3, (0, v3))] [] (f_R_far_45 n v1 v2 v3 w) := by
  intro n
  induction n with
  | zero => intros; exact vf_no
  | succ n ih =>
    intro v1 v2 v3 w
    rw [f_R_far_45]
    refine vf_iload_n C (f := 3) (zdg dz_R_far_1 2 rfl) 3 rfl rfl ?_
    refine vf_aload_n C (f := 0) (zdg dz_R_far_1 3 rfl) 0 rfl rfl ?_
    refine vf_get C (kd := 0) fl_R_144 sh_43 rfl (by decide) rfl rfl (zdg dz_R_far_1 4 rfl) ?_
    refine vf_icmp_ge C (off := 27) (tgt := 77) (zdg dz_R_far_1 5 rfl) (by decide) ?_ ?_
    · refine vf_iconst C (z := 0) (zdg dz_R_far_1 18 rfl) (jz rfl) ?_
      refine vf_istore_n C (f := 3) (L' := [(0, (2, 44)), (2, (0, v2))]) (zdg dz_R_far_1 19 rfl) [0, 2] (jrI rfl rfl) hn (by decide) rfl ?_
      exact vf_perm [1, 2, 0] rfl (t_R_far_79 C hn hR hr FU _ _ _)
    · refine vf_aload_n C (f := 0) (zdg dz_R_far_1 6 rfl) 0 rfl rfl ?_
      refine vf_getp C fl_R_126 sh_43 rfl (by decide) rfl (x := 79) rfl (zdg dz_R_far_1 7 rfl) ?_
      refine vf_iload_n C (f := 3) (zdg dz_R_far_1 8 rfl) 3 rfl rfl ?_
      refine vf_iload_n C (f := 3) (zdg dz_R_far_1 9 rfl) 3 rfl rfl ?_
      refine vf_iload_n C (f := 1) (zdg dz_R_far_1 10 rfl) 1 rfl rfl ?_
      refine vf_icmp_ne C (off := 7) (tgt := 67) (zdg dz_R_far_1 11 rfl) (by decide) ?_ ?_
      · refine vf_ldcw C (z := 1000000) (i := 348) (zdg dz_R_far_1 14 rfl) kc_R_348 (by decide +kernel) (jz rfl) ?_
        exact t_R_far_70 C hn hR hr ih _ _ _ _ _ _
      · refine vf_iconst C (z := 0) (zdg dz_R_far_1 12 rfl) (jz rfl) ?_
        refine vf_goto C (off := 6) (tgt := 70) (zdg dz_R_far_1 13 rfl) (by decide) ?_
        exact t_R_far_70 C hn hR hr ih _ _ _ _ _ _
def f_R_far_43 (v1 v2 : Int) (w : Wd) : Option (Int × Wd) :=
  f_R_far_45 FU v1 v2 0 w
theorem t_R_far_43 {X : jX} {Qf : Int × Wd → State → Prop} {ad : Nat → Nat} (C : Cx X prog_14_method_94_code "EachBringsAnotherModel") (hn : xn X = 8) (hR : xR X = rmD 4) (hr : Rt X Qf ad prog_14_method_94_code 0) (v1 v2 : Int) (w : Wd) : VF X Qf ad NF 0 0 w 43 [(0, (2, 44)), (1, (0, v1)), (2, (0, v2))] [] (f_R_far_43 v1 v2 w) := by
  unfold f_R_far_43
  refine vf_iconst C (z := 0) (zdg dz_R_far_1 0 rfl) (jz rfl) ?_
  refine vf_istore_n C (f := 3) (L' := [(0, (2, 44)), (1, (0, v1)), (2, (0, v2))]) (zdg dz_R_far_1 1 rfl) [0, 1, 2] (jrI rfl rfl) hn (by decide) rfl ?_
  exact vf_perm [1, 2, 3, 0] rfl (t_R_far_45 C hn hR hr FU _ _ _ _)
def f_R_far (v1 : Int) (w : Wd) : Option (Int × Wd) :=
  jlw (st w 43 16 0) fun u1 =>
  jcall (f_R_isOne v1 u1) fun r2 u3 =>
  if r2 = 0 then
    some ((-1), u3)
  else
    jcall (f_R_free u3) fun r4 u5 =>
    jgd ((0 : Int) ≤ v1 ∧ v1 < 10) <|
    jcall (f_R_isGuest (u5 47 v1.toNat) u5) fun r6 u7 =>
    if r6 = 0 then
      jcall (f_R_has r4 v1 u7) fun r45 u46 =>
      if r45 = 0 then
        some ((-2), u46)
      else
        f_R_far_43 v1 r4 u46
    else
      f_R_far_43 v1 r4 u7
theorem ct_R_far (v1 : Int) (w : Wd) : Ct y_R_far prog_14_method_94_code 8 (some .int) 4 0 [(2, 44), (0, v1)] w (f_R_far v1 w) := by
  refine ct_of (by decide +kernel) (Or.inl ⟨rfl, rfl⟩) (Nat.le_of_ble_eq_true rfl) ?_
  intro X Qf ad C hn hR hr
  unfold f_R_far
  show VF X Qf ad NF 0 0 w 0 [(0, (2, 44)), (1, (0, v1))] [] _
  refine vf_aload_n C (f := 0) (zdg dz_R_far_0 0 rfl) 0 rfl rfl ?_
  refine vf_iconst C (z := 0) (zdg dz_R_far_0 1 rfl) (jz rfl) ?_
  refine vf_put C (kd := 0) fl_R_138 fk_11_16 sh_43 rfl (by decide) rfl rfl (by decide) (zdg dz_R_far_0 2 rfl) ?_
  generalize st w 43 16 0 = u1
  refine vf_uw ?_
  refine vf_aload_n C (f := 0) (zdg dz_R_far_0 3 rfl) 0 rfl rfl ?_
  refine vf_iload_n C (f := 1) (zdg dz_R_far_0 4 rfl) 1 rfl rfl ?_
  refine vf_callVz C cy_R_isOne ml_R_151 rfl (ct_R_isOne _ _) (S := []) sh_43 (by decide) rfl (jrm_of hR rfl) rfl rfl (Nat.le_of_ble_eq_true rfl) (zdg dz_R_far_0 5 rfl) (fun r2 u3 => ?_)
  refine vf_if_ne C (off := 5) (tgt := 15) (zdg dz_R_far_0 6 rfl) (by decide) ?_ ?_
  · refine vf_aload_n C (f := 0) (zdg dz_R_far_0 9 rfl) 0 rfl rfl ?_
    refine vf_callVi C cy_R_free ml_R_286 rfl (ct_R_free _) (S := []) sh_43 (by decide) rfl (jrm_of hR rfl) rfl rfl (Nat.le_of_ble_eq_true rfl) (zdg dz_R_far_0 10 rfl) (fun r4 u5 => ?_)
    refine vf_istore_n C (f := 2) (L' := [(0, (2, 44)), (1, (0, v1))]) (zdg dz_R_far_0 11 rfl) [0, 1] (jrI rfl rfl) hn (by decide) rfl ?_
    refine vf_aload_n C (f := 0) (zdg dz_R_far_0 12 rfl) 1 rfl rfl ?_
    refine vf_getp C fl_R_20 sh_43 rfl (by decide) rfl (x := 48) rfl (zdg dz_R_far_0 13 rfl) ?_
    refine vf_iload_n C (f := 1) (zdg dz_R_far_0 14 rfl) 2 rfl rfl ?_
    refine vf_iald C sh_47 (by decide) rfl (mz := 10) rfl (zdg dz_R_far_0 15 rfl) ?_
    refine vf_callSz C cy_R_isGuest ml_R_256 (ct_R_isGuest _ _) (S := []) (jrm_of hR rfl) rfl rfl (Nat.le_of_ble_eq_true rfl) (zdg dz_R_far_0 16 rfl) (fun r6 u7 => ?_)
    refine vf_if_ne C (off := 14) (tgt := 43) (zdg dz_R_far_0 17 rfl) (by decide) ?_ ?_
    · exact vf_perm [1, 2, 0] rfl (t_R_far_43 C hn hR hr _ _ _)
    · refine vf_iload_n C (f := 2) (zdg dz_R_far_0 18 rfl) 0 rfl rfl ?_
      refine vf_iload_n C (f := 1) (zdg dz_R_far_0 19 rfl) 2 rfl rfl ?_
      refine vf_callSz C cy_R_has ml_R_210 (ct_R_has _ _ _) (S := []) (jrm_of hR rfl) rfl rfl (Nat.le_of_ble_eq_true rfl) (zdg dz_R_far_0 20 rfl) (fun r45 u46 => ?_)
      refine vf_if_ne C (off := 6) (tgt := 43) (zdg dz_R_far_0 21 rfl) (by decide) ?_ ?_
      · exact vf_perm [1, 2, 0] rfl (t_R_far_43 C hn hR hr _ _ _)
      · refine vf_bipush C (z := (-2)) (zdg dz_R_far_0 22 rfl) (by decide +kernel) (jz rfl) ?_
        exact hr _ _ _ _ (fun h => absurd h (by decide)) (zdg dz_R_far_0 23 rfl)
  · refine vf_iconst C (z := (-1)) (zdg dz_R_far_0 7 rfl) (jz rfl) ?_
    exact hr _ _ _ _ (fun h => absurd h (by decide)) (zdg dz_R_far_0 8 rfl)
def f_R_ledBy_66 (k4 : Int → Int → Int → Wd → Option (Int × Wd)) (k14 : Int → Int → Int → Int → Wd → Option (Int × Wd)) (v1 v2 v3 v4 : Int) (w : Wd) : Option (Int × Wd) :=
  jlet (w32 (v4 + 1)) fun x1 =>
  k14 v1 v2 v3 x1 w
theorem t_R_ledBy_66 {X : jX} {Qf : Int × Wd → State → Prop} {ad : Nat → Nat} (C : Cx X prog_14_method_95_code "EachBringsAnotherModel") (hn : xn X = 5) (hR : xR X = rmD 2) (hr : Rt X Qf ad prog_14_method_95_code 0) {k4 : Int → Int → Int → Wd → Option (Int × Wd)} (hk4 : ∀ (v1 v2 v3 : Int) (w : Wd), VF X Qf ad NF 0 0 w 4 [(0, (2, 44)), (1, (0, v1)), (2, (0, v2)), (3, (0, v3))] [] (k4 v1 v2 v3 w)) {k14 : Int → Int → Int → Int → Wd → Option (Int × Wd)} (hk14 : ∀ (v1 v2 v3 v4 : Int) (w : Wd), VF X Qf ad NF 0 0 w 14 [(0, (2, 44)), (1, (0, v1)), (2, (0, v2)), (3, (0, v3)), (4, (0, v4))] [] (k14 v1 v2 v3 v4 w)) (v1 v2 v3 v4 : Int) (w : Wd) : VF X Qf ad NF 0 0 w 66 [(0, (2, 44)), (1, (0, v1)), (2, (0, v2)), (3, (0, v3)), (4, (0, v4))] [] (f_R_ledBy_66 k4 k14 v1 v2 v3 v4 w) := by
  unfold f_R_ledBy_66
  refine vf_iinc C (z := 1) (L' := [(0, (2, 44)), (1, (0, v1)), (2, (0, v2)), (3, (0, v3))]) (zdg dz_R_ledBy_1 16 rfl) 4 rfl [0, 1, 2, 3] (jrI rfl rfl) hn (by decide) ?_
  generalize w32 (v4 + 1) = x1
  refine vf_ul ?_
  refine vf_goto C (off := (-55)) (tgt := 14) (zdg dz_R_ledBy_1 17 rfl) (by decide) ?_
  exact vf_perm [1, 2, 3, 4, 0] rfl (hk14 _ _ _ _ _)
def f_R_ledBy_59 (k4 : Int → Int → Int → Wd → Option (Int × Wd)) (k14 : Int → Int → Int → Int → Wd → Option (Int × Wd)) (v1 v2 v3 v4 : Int) (w : Wd) : Option (Int × Wd) :=
  jlet (ior v2 (ishl 1 v4)) fun x2 =>
  f_R_ledBy_66 k4 k14 v1 x2 v3 v4 w
theorem t_R_ledBy_59 {X : jX} {Qf : Int × Wd → State → Prop} {ad : Nat → Nat} (C : Cx X prog_14_method_95_code "EachBringsAnotherModel") (hn : xn X = 5) (hR : xR X = rmD 2) (hr : Rt X Qf ad prog_14_method_95_code 0) {k4 : Int → Int → Int → Wd → Option (Int × Wd)} (hk4 : ∀ (v1 v2 v3 : Int) (w : Wd), VF X Qf ad NF 0 0 w 4 [(0, (2, 44)), (1, (0, v1)), (2, (0, v2)), (3, (0, v3))] [] (k4 v1 v2 v3 w)) {k14 : Int → Int → Int → Int → Wd → Option (Int × Wd)} (hk14 : ∀ (v1 v2 v3 v4 : Int) (w : Wd), VF X Qf ad NF 0 0 w 14 [(0, (2, 44)), (1, (0, v1)), (2, (0, v2)), (3, (0, v3)), (4, (0, v4))] [] (k14 v1 v2 v3 v4 w)) (v1 v2 v3 v4 : Int) (w : Wd) : VF X Qf ad NF 0 0 w 59 [(0, (2, 44)), (1, (0, v1)), (2, (0, v2)), (3, (0, v3)), (4, (0, v4))] [] (f_R_ledBy_59 k4 k14 v1 v2 v3 v4 w) := by
  unfold f_R_ledBy_59
  refine vf_iload_n C (f := 2) (zdg dz_R_ledBy_1 10 rfl) 2 rfl rfl ?_
  refine vf_iconst C (z := 1) (zdg dz_R_ledBy_1 11 rfl) (jz rfl) ?_
  refine vf_iload C (zdg dz_R_ledBy_1 12 rfl) 4 rfl ?_
  refine vf_ishl C (zdg dz_R_ledBy_1 13 rfl) ?_
  refine vf_ior C (zdg dz_R_ledBy_1 14 rfl) ?_
  generalize ior v2 (ishl 1 v4) = x2
  refine vf_ul ?_
  refine vf_istore_n C (f := 2) (L' := [(0, (2, 44)), (1, (0, v1)), (3, (0, v3)), (4, (0, v4))]) (zdg dz_R_ledBy_1 15 rfl) [0, 1, 3, 4] (jrI rfl rfl) hn (by decide) rfl ?_
  exact vf_perm [1, 2, 0, 3, 4] rfl (t_R_ledBy_66 C hn hR hr hk4 hk14 _ _ _ _ _)
def f_R_ledBy_14 (k4 : Int → Int → Int → Wd → Option (Int × Wd)) : Nat → Int → Int → Int → Int → Wd → Option (Int × Wd)
  | 0, _, _, _, _, _ => none
  | n + 1, v1, v2, v3, v4, w =>
    if (w 43 0) ≤ v4 then
      k4 v1 v2 v3 w
    else
      jgd ((0 : Int) ≤ v4 ∧ v4 < 10) <|
      if (w 48 v4.toNat) = (-1) then
        f_R_ledBy_66 k4 (f_R_ledBy_14 k4 n) v1 v2 v3 v4 w
      else
        jgd ((0 : Int) ≤ v4 ∧ v4 < 10) <|
        if (w 48 v4.toNat) = v1 then
          f_R_ledBy_59 k4 (f_R_ledBy_14 k4 n) v1 v2 v3 v4 w
        else
          jgd ((0 : Int) ≤ v4 ∧ v4 < 10) <|
          jcall (f_R_has v3 (w 48 v4.toNat) w) fun r3 u4 =>
          if r3 = 0 then
            f_R_ledBy_66 k4 (f_R_ledBy_14 k4 n) v1 v2 v3 v4 u4
          else
            f_R_ledBy_59 k4 (f_R_ledBy_14 k4 n) v1 v2 v3 v4 u4
theorem t_R_ledBy_14 {X : jX} {Qf : Int × Wd → State → Prop} {ad : Nat → Nat} (C : Cx X prog_14_method_95_code "EachBringsAnotherModel") (hn : xn X = 5) (hR : xR X = rmD 2) (hr : Rt X Qf ad prog_14_method_95_code 0) {k4 : Int → Int → Int → Wd → Option (Int × Wd)} (hk4 : ∀ (v1 v2 v3 : Int) (w : Wd), VF X Qf ad NF 0 0 w 4 [(0, (2, 44)), (1, (0, v1)), (2, (0, v2)), (3, (0, v3))] [] (k4 v1 v2 v3 w)) : ∀ (n : Nat) (v1 v2 v3 v4 : Int) (w : Wd), VF X Qf ad NF 0 0 w 14 [(0, (2, 44)), (1, (0, v1)), (2, (0, v2)), (3, (0, v3)), (4, (0, v4))] [] (f_R_ledBy_14 k4 n v1 v2 v3 v4 w) := by
  intro n
  induction n with
  | zero => intros; exact vf_no
  | succ n ih =>
    intro v1 v2 v3 v4 w
    rw [f_R_ledBy_14]
    refine vf_iload C (zdg dz_R_ledBy_0 11 rfl) 4 rfl ?_
    refine vf_aload_n C (f := 0) (zdg dz_R_ledBy_0 12 rfl) 0 rfl rfl ?_
    refine vf_get C (kd := 0) fl_R_144 sh_43 rfl (by decide) rfl rfl (zdg dz_R_ledBy_0 13 rfl) ?_
    refine vf_icmp_ge C (off := 52) (tgt := 72) (zdg dz_R_ledBy_0 14 rfl) (by decide) ?_ ?_
    · refine vf_goto C (off := (-68)) (tgt := 4) (zdg dz_R_ledBy_1 18 rfl) (by decide) ?_
      exact vf_perm [0, 1, 2, 3] rfl (hk4 _ _ _ _)
    · refine vf_aload_n C (f := 0) (zdg dz_R_ledBy_0 15 rfl) 0 rfl rfl ?_
      refine vf_getp C fl_R_23 sh_43 rfl (by decide) rfl (x := 49) rfl (zdg dz_R_ledBy_0 16 rfl) ?_
      refine vf_iload C (zdg dz_R_ledBy_0 17 rfl) 4 rfl ?_
      refine vf_iald C sh_48 (by decide) rfl (mz := 10) rfl (zdg dz_R_ledBy_0 18 rfl) ?_
      refine vf_iconst C (z := (-1)) (zdg dz_R_ledBy_0 19 rfl) (jz rfl) ?_
      refine vf_icmp_eq C (off := 35) (tgt := 66) (zdg dz_R_ledBy_0 20 rfl) (by decide) ?_ ?_
      · exact t_R_ledBy_66 C hn hR hr hk4 ih _ _ _ _ _
      · refine vf_aload_n C (f := 0) (zdg dz_R_ledBy_0 21 rfl) 0 rfl rfl ?_
        refine vf_getp C fl_R_23 sh_43 rfl (by decide) rfl (x := 49) rfl (zdg dz_R_ledBy_0 22 rfl) ?_
        refine vf_iload C (zdg dz_R_ledBy_0 23 rfl) 4 rfl ?_
        refine vf_iald C sh_48 (by decide) rfl (mz := 10) rfl (zdg dz_R_ledBy_1 0 rfl) ?_
        refine vf_iload_n C (f := 1) (zdg dz_R_ledBy_1 1 rfl) 1 rfl rfl ?_
        refine vf_icmp_eq C (off := 17) (tgt := 59) (zdg dz_R_ledBy_1 2 rfl) (by decide) ?_ ?_
        · exact t_R_ledBy_59 C hn hR hr hk4 ih _ _ _ _ _
        · refine vf_iload_n C (f := 3) (zdg dz_R_ledBy_1 3 rfl) 3 rfl rfl ?_
          refine vf_aload_n C (f := 0) (zdg dz_R_ledBy_1 4 rfl) 0 rfl rfl ?_
          refine vf_getp C fl_R_23 sh_43 rfl (by decide) rfl (x := 49) rfl (zdg dz_R_ledBy_1 5 rfl) ?_
          refine vf_iload C (zdg dz_R_ledBy_1 6 rfl) 4 rfl ?_
          refine vf_iald C sh_48 (by decide) rfl (mz := 10) rfl (zdg dz_R_ledBy_1 7 rfl) ?_
          refine vf_callSz C cy_R_has ml_R_210 (ct_R_has _ _ _) (S := []) (jrm_of hR rfl) rfl rfl (Nat.le_of_ble_eq_true rfl) (zdg dz_R_ledBy_1 8 rfl) (fun r3 u4 => ?_)
          refine vf_if_eq C (off := 10) (tgt := 66) (zdg dz_R_ledBy_1 9 rfl) (by decide) ?_ ?_
          · exact t_R_ledBy_66 C hn hR hr hk4 ih _ _ _ _ _
          · exact t_R_ledBy_59 C hn hR hr hk4 ih _ _ _ _ _
def f_R_ledBy_4 : Nat → Int → Int → Int → Wd → Option (Int × Wd)
  | 0, _, _, _, _ => none
  | n + 1, v1, v2, v3, w =>
    if v2 = v3 then
      some (v2, w)
    else
      f_R_ledBy_14 (f_R_ledBy_4 n) FU v1 v2 v2 0 w
theorem t_R_ledBy_4 {X : jX} {Qf : Int × Wd → State → Prop} {ad : Nat → Nat} (C : Cx X prog_14_method_95_code "EachBringsAnotherModel") (hn : xn X = 5) (hR : xR X = rmD 2) (hr : Rt X Qf ad prog_14_method_95_code 0) : ∀ (n : Nat) (v1 v2 v3 : Int) (w : Wd), VF X Qf ad NF 0 0 w 4 [(0, (2, 44)), (1, (0, v1)), (2, (0, v2)), (3, (0, v3))] [] (f_R_ledBy_4 n v1 v2 v3 w) := by
  intro n
  induction n with
  | zero => intros; exact vf_no
  | succ n ih =>
    intro v1 v2 v3 w
    rw [f_R_ledBy_4]
    refine vf_iload_n C (f := 2) (zdg dz_R_ledBy_0 4 rfl) 2 rfl rfl ?_
    refine vf_iload_n C (f := 3) (zdg dz_R_ledBy_0 5 rfl) 3 rfl rfl ?_
    refine vf_icmp_eq C (off := 69) (tgt := 75) (zdg dz_R_ledBy_0 6 rfl) (by decide) ?_ ?_
    · refine vf_iload_n C (f := 2) (zdg dz_R_ledBy_1 19 rfl) 2 rfl rfl ?_
      exact hr _ _ _ _ (fun h => absurd h (by decide)) (zdg dz_R_ledBy_1 20 rfl)
    · refine vf_iload_n C (f := 2) (zdg dz_R_ledBy_0 7 rfl) 2 rfl rfl ?_
      refine vf_istore_n C (f := 3) (L' := [(0, (2, 44)), (1, (0, v1)), (2, (0, v2))]) (zdg dz_R_ledBy_0 8 rfl) [0, 1, 2] (jrI rfl rfl) hn (by decide) rfl ?_
      refine vf_iconst C (z := 0) (zdg dz_R_ledBy_0 9 rfl) (jz rfl) ?_
      refine vf_istore C (i := 4) (L' := [(3, (0, v2)), (0, (2, 44)), (1, (0, v1)), (2, (0, v2))]) (zdg dz_R_ledBy_0 10 rfl) [0, 1, 2, 3] (jrI rfl rfl) hn (by decide) ?_
      exact vf_perm [2, 3, 4, 1, 0] rfl (t_R_ledBy_14 C hn hR hr ih FU _ _ _ _ _)
def f_R_ledBy (v1 : Int) (w : Wd) : Option (Int × Wd) :=
  f_R_ledBy_4 FU v1 0 (-1) w
theorem ct_R_ledBy (v1 : Int) (w : Wd) : Ct y_R_ledBy prog_14_method_95_code 5 (some .int) 2 0 [(2, 44), (0, v1)] w (f_R_ledBy v1 w) := by
  refine ct_of (by decide +kernel) (Or.inl ⟨rfl, rfl⟩) (Nat.le_of_ble_eq_true rfl) ?_
  intro X Qf ad C hn hR hr
  unfold f_R_ledBy
  show VF X Qf ad NF 0 0 w 0 [(0, (2, 44)), (1, (0, v1))] [] _
  refine vf_iconst C (z := 0) (zdg dz_R_ledBy_0 0 rfl) (jz rfl) ?_
  refine vf_istore_n C (f := 2) (L' := [(0, (2, 44)), (1, (0, v1))]) (zdg dz_R_ledBy_0 1 rfl) [0, 1] (jrI rfl rfl) hn (by decide) rfl ?_
  refine vf_iconst C (z := (-1)) (zdg dz_R_ledBy_0 2 rfl) (jz rfl) ?_
  refine vf_istore_n C (f := 3) (L' := [(2, (0, 0)), (0, (2, 44)), (1, (0, v1))]) (zdg dz_R_ledBy_0 3 rfl) [0, 1, 2] (jrI rfl rfl) hn (by decide) rfl ?_
  exact vf_perm [2, 3, 1, 0] rfl (t_R_ledBy_4 C hn hR hr FU _ _ _ _)
def f_R_line_59 (k49 : Int → Int → Int → Wd → Option (Int × Wd)) : Nat → Int → Int → Int → Int → Int → Wd → Option (Int × Wd)
  | 0, _, _, _, _, _, _ => none
  | n + 1, v1, v2, v3, v4, v5, w =>
    if v3 ≤ v5 then
      jcall (f_R_tell v4 w) fun r6 u7 =>
      jlet (w32 (v3 + (-1))) fun x8 =>
      k49 v1 v2 x8 u7
    else
      jgd ((0 : Int) ≤ v4 ∧ v4 < 10) <|
      jlet (w 48 v4.toNat) fun x9 =>
      jlet (w32 (v5 + 1)) fun x10 =>
      f_R_line_59 k49 n v1 v2 v3 x9 x10 w
theorem t_R_line_59 {X : jX} {Qf : Int × Wd → State → Prop} {ad : Nat → Nat} (C : Cx X prog_14_method_96_code "EachBringsAnotherModel") (hn : xn X = 6) (hR : xR X = rmD 3) (hr : Rt X Qf ad prog_14_method_96_code 0) {k49 : Int → Int → Int → Wd → Option (Int × Wd)} (hk49 : ∀ (v1 v2 v3 : Int) (w : Wd), VF X Qf ad NF 0 0 w 49 [(0, (2, 44)), (1, (0, v1)), (2, (0, v2)), (3, (0, v3))] [] (k49 v1 v2 v3 w)) : ∀ (n : Nat) (v1 v2 v3 v4 v5 : Int) (w : Wd), VF X Qf ad NF 0 0 w 59 [(0, (2, 44)), (1, (0, v1)), (2, (0, v2)), (3, (0, v3)), (4, (0, v4)), (5, (0, v5))] [] (f_R_line_59 k49 n v1 v2 v3 v4 v5 w) := by
  intro n
  induction n with
  | zero => intros; exact vf_no
  | succ n ih =>
    intro v1 v2 v3 v4 v5 w
    rw [f_R_line_59]
    refine vf_iload C (zdg dz_R_line_1 13 rfl) 5 rfl ?_
    refine vf_iload_n C (f := 3) (zdg dz_R_line_1 14 rfl) 3 rfl rfl ?_
    refine vf_icmp_ge C (off := 18) (tgt := 80) (zdg dz_R_line_1 15 rfl) (by decide) ?_ ?_
    · refine vf_aload_n C (f := 0) (zdg dz_R_line_1 23 rfl) 0 rfl rfl ?_
      refine vf_iload C (zdg dz_R_line_2 0 rfl) 4 rfl ?_
      refine vf_callVv C cy_R_tell ml_R_304 rfl (ct_R_tell _ _) (S := []) sh_43 (by decide) rfl (jrm_of hR rfl) rfl rfl (Nat.le_of_ble_eq_true rfl) (zdg dz_R_line_2 1 rfl) (fun r6 u7 => ?_)
      refine vf_iinc C (z := (-1)) (L' := [(0, (2, 44)), (1, (0, v1)), (2, (0, v2))]) (zdg dz_R_line_2 2 rfl) 3 rfl [0, 1, 2] (jrI rfl rfl) hn (by decide) ?_
      generalize w32 (v3 + (-1)) = x8
      refine vf_ul ?_
      refine vf_goto C (off := (-40)) (tgt := 49) (zdg dz_R_line_2 3 rfl) (by decide) ?_
      exact vf_perm [1, 2, 3, 0] rfl (hk49 _ _ _ _)
    · refine vf_aload_n C (f := 0) (zdg dz_R_line_1 16 rfl) 0 rfl rfl ?_
      refine vf_getp C fl_R_23 sh_43 rfl (by decide) rfl (x := 49) rfl (zdg dz_R_line_1 17 rfl) ?_
      refine vf_iload C (zdg dz_R_line_1 18 rfl) 4 rfl ?_
      refine vf_iald C sh_48 (by decide) rfl (mz := 10) rfl (zdg dz_R_line_1 19 rfl) ?_
      generalize w 48 v4.toNat = x9
      refine vf_ul ?_
      refine vf_istore C (i := 4) (L' := [(0, (2, 44)), (1, (0, v1)), (2, (0, v2)), (3, (0, v3)), (5, (0, v5))]) (zdg dz_R_line_1 20 rfl) [0, 1, 2, 3, 5] (jrI rfl rfl) hn (by decide) ?_
      refine vf_iinc C (z := 1) (L' := [(4, (0, x9)), (0, (2, 44)), (1, (0, v1)), (2, (0, v2)), (3, (0, v3))]) (zdg dz_R_line_1 21 rfl) 5 rfl [0, 1, 2, 3, 4] (jrI rfl rfl) hn (by decide) ?_
      generalize w32 (v5 + 1) = x10
      refine vf_ul ?_
      refine vf_goto C (off := (-18)) (tgt := 59) (zdg dz_R_line_1 22 rfl) (by decide) ?_
      exact vf_perm [2, 3, 4, 5, 1, 0] rfl (ih _ _ _ _ _ _)
def f_R_line_49 : Nat → Int → Int → Int → Wd → Option (Int × Wd)
  | 0, _, _, _, _ => none
  | n + 1, v1, v2, v3, w =>
    if v3 ≤ 0 then
      some (v2, w)
    else
      f_R_line_59 (f_R_line_49 n) FU v1 v2 v3 v1 0 w
theorem t_R_line_49 {X : jX} {Qf : Int × Wd → State → Prop} {ad : Nat → Nat} (C : Cx X prog_14_method_96_code "EachBringsAnotherModel") (hn : xn X = 6) (hR : xR X = rmD 3) (hr : Rt X Qf ad prog_14_method_96_code 0) : ∀ (n : Nat) (v1 v2 v3 : Int) (w : Wd), VF X Qf ad NF 0 0 w 49 [(0, (2, 44)), (1, (0, v1)), (2, (0, v2)), (3, (0, v3))] [] (f_R_line_49 n v1 v2 v3 w) := by
  intro n
  induction n with
  | zero => intros; exact vf_no
  | succ n ih =>
    intro v1 v2 v3 w
    rw [f_R_line_49]
    refine vf_iload_n C (f := 3) (zdg dz_R_line_1 7 rfl) 3 rfl rfl ?_
    refine vf_if_le C (off := 42) (tgt := 92) (zdg dz_R_line_1 8 rfl) (by decide) ?_ ?_
    · refine vf_iload_n C (f := 2) (zdg dz_R_line_2 4 rfl) 2 rfl rfl ?_
      exact hr _ _ _ _ (fun h => absurd h (by decide)) (zdg dz_R_line_2 5 rfl)
    · refine vf_iload_n C (f := 1) (zdg dz_R_line_1 9 rfl) 1 rfl rfl ?_
      refine vf_istore C (i := 4) (L' := [(0, (2, 44)), (1, (0, v1)), (2, (0, v2)), (3, (0, v3))]) (zdg dz_R_line_1 10 rfl) [0, 1, 2, 3] (jrI rfl rfl) hn (by decide) ?_
      refine vf_iconst C (z := 0) (zdg dz_R_line_1 11 rfl) (jz rfl) ?_
      refine vf_istore C (i := 5) (L' := [(4, (0, v1)), (0, (2, 44)), (1, (0, v1)), (2, (0, v2)), (3, (0, v3))]) (zdg dz_R_line_1 12 rfl) [0, 1, 2, 3, 4] (jrI rfl rfl) hn (by decide) ?_
      exact vf_perm [2, 3, 4, 5, 1, 0] rfl (t_R_line_59 C hn hR hr ih FU _ _ _ _ _ _)
def f_R_line_24 : Nat → Int → Int → Int → Wd → Option (Int × Wd)
  | 0, _, _, _, _ => none
  | n + 1, v1, v2, v3, w =>
    if v3 = (-1) then
      jlw (st w 43 15 0) fun u5 =>
      f_R_line_49 FU v1 v2 v2 u5
    else
      jlet (w32 (v2 + 1)) fun x11 =>
      jgd ((0 : Int) ≤ v3 ∧ v3 < 10) <|
      jlet (w 48 v3.toNat) fun x12 =>
      f_R_line_24 n v1 x11 x12 w
theorem t_R_line_24 {X : jX} {Qf : Int × Wd → State → Prop} {ad : Nat → Nat} (C : Cx X prog_14_method_96_code "EachBringsAnotherModel") (hn : xn X = 6) (hR : xR X = rmD 3) (hr : Rt X Qf ad prog_14_method_96_code 0) : ∀ (n : Nat) (v1 v2 v3 : Int) (w : Wd), VF X Qf ad NF 0 0 w 24 [(0, (2, 44)), (1, (0, v1)), (2, (0, v2)), (3, (0, v3))] [] (f_R_line_24 n v1 v2 v3 w) := by
  intro n
  induction n with
  | zero => intros; exact vf_no
  | succ n ih =>
    intro v1 v2 v3 w
    rw [f_R_line_24]
    refine vf_iload_n C (f := 3) (zdg dz_R_line_0 16 rfl) 3 rfl rfl ?_
    refine vf_iconst C (z := (-1)) (zdg dz_R_line_0 17 rfl) (jz rfl) ?_
    refine vf_icmp_eq C (off := 16) (tgt := 42) (zdg dz_R_line_0 18 rfl) (by decide) ?_ ?_
    · refine vf_aload_n C (f := 0) (zdg dz_R_line_1 2 rfl) 0 rfl rfl ?_
      refine vf_iconst C (z := 0) (zdg dz_R_line_1 3 rfl) (jz rfl) ?_
      refine vf_put C (kd := 0) fl_R_141 fk_11_15 sh_43 rfl (by decide) rfl rfl (by decide) (zdg dz_R_line_1 4 rfl) ?_
      generalize st w 43 15 0 = u5
      refine vf_uw ?_
      refine vf_iload_n C (f := 2) (zdg dz_R_line_1 5 rfl) 2 rfl rfl ?_
      refine vf_istore_n C (f := 3) (L' := [(0, (2, 44)), (1, (0, v1)), (2, (0, v2))]) (zdg dz_R_line_1 6 rfl) [0, 1, 2] (jrI rfl rfl) hn (by decide) rfl ?_
      exact vf_perm [1, 2, 3, 0] rfl (t_R_line_49 C hn hR hr FU _ _ _ _)
    · refine vf_iinc C (z := 1) (L' := [(0, (2, 44)), (1, (0, v1)), (3, (0, v3))]) (zdg dz_R_line_0 19 rfl) 2 rfl [0, 1, 3] (jrI rfl rfl) hn (by decide) ?_
      generalize w32 (v2 + 1) = x11
      refine vf_ul ?_
      refine vf_aload_n C (f := 0) (zdg dz_R_line_0 20 rfl) 1 rfl rfl ?_
      refine vf_getp C fl_R_23 sh_43 rfl (by decide) rfl (x := 49) rfl (zdg dz_R_line_0 21 rfl) ?_
      refine vf_iload_n C (f := 3) (zdg dz_R_line_0 22 rfl) 3 rfl rfl ?_
      refine vf_iald C sh_48 (by decide) rfl (mz := 10) rfl (zdg dz_R_line_0 23 rfl) ?_
      generalize w 48 v3.toNat = x12
      refine vf_ul ?_
      refine vf_istore_n C (f := 3) (L' := [(2, (0, x11)), (0, (2, 44)), (1, (0, v1))]) (zdg dz_R_line_1 0 rfl) [0, 1, 2] (jrI rfl rfl) hn (by decide) rfl ?_
      refine vf_goto C (off := (-15)) (tgt := 24) (zdg dz_R_line_1 1 rfl) (by decide) ?_
      exact vf_perm [2, 3, 1, 0] rfl (ih _ _ _ _)
def f_R_line (v1 : Int) (w : Wd) : Option (Int × Wd) :=
  jlw (st w 43 16 0) fun u1 =>
  jcall (f_R_isOne v1 u1) fun r2 u3 =>
  if r2 = 0 then
    some ((-1), u3)
  else
    jgd ((0 : Int) ≤ v1 ∧ v1 < 10) <|
    jlet (u3 48 v1.toNat) fun x4 =>
    f_R_line_24 FU v1 0 x4 u3
theorem ct_R_line (v1 : Int) (w : Wd) : Ct y_R_line prog_14_method_96_code 6 (some .int) 3 0 [(2, 44), (0, v1)] w (f_R_line v1 w) := by
  refine ct_of (by decide +kernel) (Or.inl ⟨rfl, rfl⟩) (Nat.le_of_ble_eq_true rfl) ?_
  intro X Qf ad C hn hR hr
  unfold f_R_line
  show VF X Qf ad NF 0 0 w 0 [(0, (2, 44)), (1, (0, v1))] [] _
  refine vf_aload_n C (f := 0) (zdg dz_R_line_0 0 rfl) 0 rfl rfl ?_
  refine vf_iconst C (z := 0) (zdg dz_R_line_0 1 rfl) (jz rfl) ?_
  refine vf_put C (kd := 0) fl_R_138 fk_11_16 sh_43 rfl (by decide) rfl rfl (by decide) (zdg dz_R_line_0 2 rfl) ?_
  generalize st w 43 16 0 = u1
  refine vf_uw ?_
  refine vf_aload_n C (f := 0) (zdg dz_R_line_0 3 rfl) 0 rfl rfl ?_
  refine vf_iload_n C (f := 1) (zdg dz_R_line_0 4 rfl) 1 rfl rfl ?_
  refine vf_callVz C cy_R_isOne ml_R_151 rfl (ct_R_isOne _ _) (S := []) sh_43 (by decide) rfl (jrm_of hR rfl) rfl rfl (Nat.le_of_ble_eq_true rfl) (zdg dz_R_line_0 5 rfl) (fun r2 u3 => ?_)
  refine vf_if_ne C (off := 5) (tgt := 15) (zdg dz_R_line_0 6 rfl) (by decide) ?_ ?_
  · refine vf_iconst C (z := 0) (zdg dz_R_line_0 9 rfl) (jz rfl) ?_
    refine vf_istore_n C (f := 2) (L' := [(0, (2, 44)), (1, (0, v1))]) (zdg dz_R_line_0 10 rfl) [0, 1] (jrI rfl rfl) hn (by decide) rfl ?_
    refine vf_aload_n C (f := 0) (zdg dz_R_line_0 11 rfl) 1 rfl rfl ?_
    refine vf_getp C fl_R_23 sh_43 rfl (by decide) rfl (x := 49) rfl (zdg dz_R_line_0 12 rfl) ?_
    refine vf_iload_n C (f := 1) (zdg dz_R_line_0 13 rfl) 2 rfl rfl ?_
    refine vf_iald C sh_48 (by decide) rfl (mz := 10) rfl (zdg dz_R_line_0 14 rfl) ?_
    generalize u3 48 v1.toNat = x4
    refine vf_ul ?_
    refine vf_istore_n C (f := 3) (L' := [(2, (0, 0)), (0, (2, 44)), (1, (0, v1))]) (zdg dz_R_line_0 15 rfl) [0, 1, 2] (jrI rfl rfl) hn (by decide) rfl ?_
    exact vf_perm [2, 3, 1, 0] rfl (t_R_line_24 C hn hR hr FU _ _ _ _)
  · refine vf_iconst C (z := (-1)) (zdg dz_R_line_0 7 rfl) (jz rfl) ?_
    exact hr _ _ _ _ (fun h => absurd h (by decide)) (zdg dz_R_line_0 8 rfl)
def f_R_depthUnder_58 (k4 : Int → Int → Int → Wd → Option (Int × Wd)) (v1 v2 v3 : Int) (w : Wd) : Option (Int × Wd) :=
  jlet (w32 (v3 + 1)) fun x1 =>
  k4 v1 v2 x1 w
theorem t_R_depthUnder_58 {X : jX} {Qf : Int × Wd → State → Prop} {ad : Nat → Nat} (C : Cx X prog_14_method_97_code "EachBringsAnotherModel") (hn : xn X = 6) (hR : xR X = rmD 1) (hr : Rt X Qf ad prog_14_method_97_code 0) {k4 : Int → Int → Int → Wd → Option (Int × Wd)} (hk4 : ∀ (v1 v2 v3 : Int) (w : Wd), VF X Qf ad NF 0 0 w 4 [(0, (2, 44)), (1, (0, v1)), (2, (0, v2)), (3, (0, v3))] [] (k4 v1 v2 v3 w)) (v1 v2 v3 : Int) (w : Wd) : VF X Qf ad NF 0 0 w 58 [(0, (2, 44)), (1, (0, v1)), (2, (0, v2)), (3, (0, v3))] [] (f_R_depthUnder_58 k4 v1 v2 v3 w) := by
  unfold f_R_depthUnder_58
  refine vf_iinc C (z := 1) (L' := [(0, (2, 44)), (1, (0, v1)), (2, (0, v2))]) (zdg dz_R_depthUnder_1 8 rfl) 3 rfl [0, 1, 2] (jrI rfl rfl) hn (by decide) ?_
  generalize w32 (v3 + 1) = x1
  refine vf_ul ?_
  refine vf_goto C (off := (-57)) (tgt := 4) (zdg dz_R_depthUnder_1 9 rfl) (by decide) ?_
  exact vf_perm [1, 2, 3, 0] rfl (hk4 _ _ _ _)
def f_R_depthUnder_45 (k4 : Int → Int → Int → Wd → Option (Int × Wd)) (v1 v2 v3 v4 v5 : Int) (w : Wd) : Option (Int × Wd) :=
  if v5 = v1 then
    jlet (imax v2 v4) fun x2 =>
    f_R_depthUnder_58 k4 v1 x2 v3 w
  else
    f_R_depthUnder_58 k4 v1 v2 v3 w
theorem t_R_depthUnder_45 {X : jX} {Qf : Int × Wd → State → Prop} {ad : Nat → Nat} (C : Cx X prog_14_method_97_code "EachBringsAnotherModel") (hn : xn X = 6) (hR : xR X = rmD 1) (hr : Rt X Qf ad prog_14_method_97_code 0) {k4 : Int → Int → Int → Wd → Option (Int × Wd)} (hk4 : ∀ (v1 v2 v3 : Int) (w : Wd), VF X Qf ad NF 0 0 w 4 [(0, (2, 44)), (1, (0, v1)), (2, (0, v2)), (3, (0, v3))] [] (k4 v1 v2 v3 w)) (v1 v2 v3 v4 v5 : Int) (w : Wd) : VF X Qf ad NF 0 0 w 45 [(0, (2, 44)), (1, (0, v1)), (2, (0, v2)), (3, (0, v3)), (4, (0, v4)), (5, (0, v5))] [] (f_R_depthUnder_45 k4 v1 v2 v3 v4 v5 w) := by
  unfold f_R_depthUnder_45
  refine vf_iload C (zdg dz_R_depthUnder_1 1 rfl) 5 rfl ?_
  refine vf_iload_n C (f := 1) (zdg dz_R_depthUnder_1 2 rfl) 1 rfl rfl ?_
  refine vf_icmp_ne C (off := 10) (tgt := 58) (zdg dz_R_depthUnder_1 3 rfl) (by decide) ?_ ?_
  · exact vf_perm [0, 1, 2, 3] rfl (t_R_depthUnder_58 C hn hR hr hk4 _ _ _ _)
  · refine vf_iload_n C (f := 2) (zdg dz_R_depthUnder_1 4 rfl) 2 rfl rfl ?_
    refine vf_iload C (zdg dz_R_depthUnder_1 5 rfl) 4 rfl ?_
    refine vf_mmax C ml_R_267 (jrm_n hR (by decide)) ⟨Nat.zero_le _, Nat.zero_le _⟩ (Nat.le_of_ble_eq_true rfl) (zdg dz_R_depthUnder_1 6 rfl) ?_
    generalize imax v2 v4 = x2
    refine vf_ul ?_
    refine vf_istore_n C (f := 2) (L' := [(0, (2, 44)), (1, (0, v1)), (3, (0, v3))]) (zdg dz_R_depthUnder_1 7 rfl) [0, 1, 3] (jrI rfl rfl) hn (by decide) rfl ?_
    exact vf_perm [1, 2, 0, 3] rfl (t_R_depthUnder_58 C hn hR hr hk4 _ _ _ _)
def f_R_depthUnder_18 (k4 : Int → Int → Int → Wd → Option (Int × Wd)) : Nat → Int → Int → Int → Int → Int → Wd → Option (Int × Wd)
  | 0, _, _, _, _, _, _ => none
  | n + 1, v1, v2, v3, v4, v5, w =>
    if v5 = (-1) then
      f_R_depthUnder_45 k4 v1 v2 v3 v4 v5 w
    else
      if v5 = v1 then
        f_R_depthUnder_45 k4 v1 v2 v3 v4 v5 w
      else
        jgd ((0 : Int) ≤ v5 ∧ v5 < 10) <|
        jlet (w 48 v5.toNat) fun x3 =>
        jlet (w32 (v4 + 1)) fun x4 =>
        f_R_depthUnder_18 k4 n v1 v2 v3 x4 x3 w
theorem t_R_depthUnder_18 {X : jX} {Qf : Int × Wd → State → Prop} {ad : Nat → Nat} (C : Cx X prog_14_method_97_code "EachBringsAnotherModel") (hn : xn X = 6) (hR : xR X = rmD 1) (hr : Rt X Qf ad prog_14_method_97_code 0) {k4 : Int → Int → Int → Wd → Option (Int × Wd)} (hk4 : ∀ (v1 v2 v3 : Int) (w : Wd), VF X Qf ad NF 0 0 w 4 [(0, (2, 44)), (1, (0, v1)), (2, (0, v2)), (3, (0, v3))] [] (k4 v1 v2 v3 w)) : ∀ (n : Nat) (v1 v2 v3 v4 v5 : Int) (w : Wd), VF X Qf ad NF 0 0 w 18 [(0, (2, 44)), (1, (0, v1)), (2, (0, v2)), (3, (0, v3)), (4, (0, v4)), (5, (0, v5))] [] (f_R_depthUnder_18 k4 n v1 v2 v3 v4 v5 w) := by
  intro n
  induction n with
  | zero => intros; exact vf_no
  | succ n ih =>
    intro v1 v2 v3 v4 v5 w
    rw [f_R_depthUnder_18]
    refine vf_iload C (zdg dz_R_depthUnder_0 12 rfl) 5 rfl ?_
    refine vf_iconst C (z := (-1)) (zdg dz_R_depthUnder_0 13 rfl) (jz rfl) ?_
    refine vf_icmp_eq C (off := 24) (tgt := 45) (zdg dz_R_depthUnder_0 14 rfl) (by decide) ?_ ?_
    · exact t_R_depthUnder_45 C hn hR hr hk4 _ _ _ _ _ _
    · refine vf_iload C (zdg dz_R_depthUnder_0 15 rfl) 5 rfl ?_
      refine vf_iload_n C (f := 1) (zdg dz_R_depthUnder_0 16 rfl) 1 rfl rfl ?_
      refine vf_icmp_eq C (off := 18) (tgt := 45) (zdg dz_R_depthUnder_0 17 rfl) (by decide) ?_ ?_
      · exact t_R_depthUnder_45 C hn hR hr hk4 _ _ _ _ _ _
      · refine vf_aload_n C (f := 0) (zdg dz_R_depthUnder_0 18 rfl) 0 rfl rfl ?_
        refine vf_getp C fl_R_23 sh_43 rfl (by decide) rfl (x := 49) rfl (zdg dz_R_depthUnder_0 19 rfl) ?_
        refine vf_iload C (zdg dz_R_depthUnder_0 20 rfl) 5 rfl ?_
        refine vf_iald C sh_48 (by decide) rfl (mz := 10) rfl (zdg dz_R_depthUnder_0 21 rfl) ?_
        generalize w 48 v5.toNat = x3
        refine vf_ul ?_
        refine vf_istore C (i := 5) (L' := [(0, (2, 44)), (1, (0, v1)), (2, (0, v2)), (3, (0, v3)), (4, (0, v4))]) (zdg dz_R_depthUnder_0 22 rfl) [0, 1, 2, 3, 4] (jrI rfl rfl) hn (by decide) ?_
        refine vf_iinc C (z := 1) (L' := [(5, (0, x3)), (0, (2, 44)), (1, (0, v1)), (2, (0, v2)), (3, (0, v3))]) (zdg dz_R_depthUnder_0 23 rfl) 5 rfl [0, 1, 2, 3, 4] (jrI rfl rfl) hn (by decide) ?_
        generalize w32 (v4 + 1) = x4
        refine vf_ul ?_
        refine vf_goto C (off := (-24)) (tgt := 18) (zdg dz_R_depthUnder_1 0 rfl) (by decide) ?_
        exact vf_perm [2, 3, 4, 5, 0, 1] rfl (ih _ _ _ _ _ _)
def f_R_depthUnder_4 : Nat → Int → Int → Int → Wd → Option (Int × Wd)
  | 0, _, _, _, _ => none
  | n + 1, v1, v2, v3, w =>
    if (w 43 0) ≤ v3 then
      some (v2, w)
    else
      f_R_depthUnder_18 (f_R_depthUnder_4 n) FU v1 v2 v3 0 v3 w
theorem t_R_depthUnder_4 {X : jX} {Qf : Int × Wd → State → Prop} {ad : Nat → Nat} (C : Cx X prog_14_method_97_code "EachBringsAnotherModel") (hn : xn X = 6) (hR : xR X = rmD 1) (hr : Rt X Qf ad prog_14_method_97_code 0) : ∀ (n : Nat) (v1 v2 v3 : Int) (w : Wd), VF X Qf ad NF 0 0 w 4 [(0, (2, 44)), (1, (0, v1)), (2, (0, v2)), (3, (0, v3))] [] (f_R_depthUnder_4 n v1 v2 v3 w) := by
  intro n
  induction n with
  | zero => intros; exact vf_no
  | succ n ih =>
    intro v1 v2 v3 w
    rw [f_R_depthUnder_4]
    refine vf_iload_n C (f := 3) (zdg dz_R_depthUnder_0 4 rfl) 3 rfl rfl ?_
    refine vf_aload_n C (f := 0) (zdg dz_R_depthUnder_0 5 rfl) 0 rfl rfl ?_
    refine vf_get C (kd := 0) fl_R_144 sh_43 rfl (by decide) rfl rfl (zdg dz_R_depthUnder_0 6 rfl) ?_
    refine vf_icmp_ge C (off := 55) (tgt := 64) (zdg dz_R_depthUnder_0 7 rfl) (by decide) ?_ ?_
    · refine vf_iload_n C (f := 2) (zdg dz_R_depthUnder_1 10 rfl) 2 rfl rfl ?_
      exact hr _ _ _ _ (fun h => absurd h (by decide)) (zdg dz_R_depthUnder_1 11 rfl)
    · refine vf_iconst C (z := 0) (zdg dz_R_depthUnder_0 8 rfl) (jz rfl) ?_
      refine vf_istore C (i := 4) (L' := [(0, (2, 44)), (1, (0, v1)), (2, (0, v2)), (3, (0, v3))]) (zdg dz_R_depthUnder_0 9 rfl) [0, 1, 2, 3] (jrI rfl rfl) hn (by decide) ?_
      refine vf_iload_n C (f := 3) (zdg dz_R_depthUnder_0 10 rfl) 4 rfl rfl ?_
      refine vf_istore C (i := 5) (L' := [(4, (0, 0)), (0, (2, 44)), (1, (0, v1)), (2, (0, v2)), (3, (0, v3))]) (zdg dz_R_depthUnder_0 11 rfl) [0, 1, 2, 3, 4] (jrI rfl rfl) hn (by decide) ?_
      exact vf_perm [2, 3, 4, 5, 1, 0] rfl (t_R_depthUnder_18 C hn hR hr ih FU _ _ _ _ _ _)
def f_R_depthUnder (v1 : Int) (w : Wd) : Option (Int × Wd) :=
  f_R_depthUnder_4 FU v1 0 0 w
theorem ct_R_depthUnder (v1 : Int) (w : Wd) : Ct y_R_depthUnder prog_14_method_97_code 6 (some .int) 1 0 [(2, 44), (0, v1)] w (f_R_depthUnder v1 w) := by
  refine ct_of (by decide +kernel) (Or.inl ⟨rfl, rfl⟩) (Nat.le_of_ble_eq_true rfl) ?_
  intro X Qf ad C hn hR hr
  unfold f_R_depthUnder
  show VF X Qf ad NF 0 0 w 0 [(0, (2, 44)), (1, (0, v1))] [] _
  refine vf_iconst C (z := 0) (zdg dz_R_depthUnder_0 0 rfl) (jz rfl) ?_
  refine vf_istore_n C (f := 2) (L' := [(0, (2, 44)), (1, (0, v1))]) (zdg dz_R_depthUnder_0 1 rfl) [0, 1] (jrI rfl rfl) hn (by decide) rfl ?_
  refine vf_iconst C (z := 0) (zdg dz_R_depthUnder_0 2 rfl) (jz rfl) ?_
  refine vf_istore_n C (f := 3) (L' := [(2, (0, 0)), (0, (2, 44)), (1, (0, v1))]) (zdg dz_R_depthUnder_0 3 rfl) [0, 1, 2] (jrI rfl rfl) hn (by decide) rfl ?_
  exact vf_perm [2, 3, 1, 0] rfl (t_R_depthUnder_4 C hn hR hr FU _ _ _ _)
def f_R_led_43 (k19 : Int → Int → Int → Wd → Option (Int × Wd)) (v1 v3 s0 s1 : Int) (w : Wd) : Option (Int × Wd) :=
  jlet (w32 (s0 + s1)) fun x13 =>
  jlet (w32 (v3 + 1)) fun x14 =>
  k19 v1 x13 x14 w
theorem t_R_led_43 {X : jX} {Qf : Int × Wd → State → Prop} {ad : Nat → Nat} (C : Cx X prog_14_method_98_code "EachBringsAnotherModel") (hn : xn X = 4) (hR : xR X = rmD 3) (hr : Rt X Qf ad prog_14_method_98_code 0) {k19 : Int → Int → Int → Wd → Option (Int × Wd)} (hk19 : ∀ (v1 v2 v3 : Int) (w : Wd), VF X Qf ad NF 0 0 w 19 [(0, (2, 44)), (1, (0, v1)), (2, (0, v2)), (3, (0, v3))] [] (k19 v1 v2 v3 w)) (v1 v3 s0 s1 : Int) (w : Wd) : VF X Qf ad NF 0 0 w 43 [(0, (2, 44)), (1, (0, v1)), (3, (0, v3))] [(0, s1), (0, s0)] (f_R_led_43 k19 v1 v3 s0 s1 w) := by
  unfold f_R_led_43
  refine vf_iadd C (zdg dz_R_led_1 3 rfl) ?_
  generalize w32 (s0 + s1) = x13
  refine vf_ul ?_
  refine vf_istore_n C (f := 2) (L' := [(0, (2, 44)), (1, (0, v1)), (3, (0, v3))]) (zdg dz_R_led_1 4 rfl) [0, 1, 2] (jrI rfl rfl) hn (by decide) rfl ?_
  refine vf_iinc C (z := 1) (L' := [(2, (0, x13)), (0, (2, 44)), (1, (0, v1))]) (zdg dz_R_led_1 5 rfl) 3 rfl [0, 1, 2] (jrI rfl rfl) hn (by decide) ?_
  generalize w32 (v3 + 1) = x14
  refine vf_ul ?_
  refine vf_goto C (off := (-29)) (tgt := 19) (zdg dz_R_led_1 6 rfl) (by decide) ?_
  exact vf_perm [2, 3, 1, 0] rfl (hk19 _ _ _ _)
def f_R_led_19 : Nat → Int → Int → Int → Wd → Option (Int × Wd)
  | 0, _, _, _, _ => none
  | n + 1, v1, v2, v3, w =>
    if (w 43 0) ≤ v3 then
      jlw (st w 43 15 0) fun u4 =>
      jcall (f_R_tell v2 u4) fun r5 u6 =>
      jcall (f_R_depthUnder v1 u6) fun r7 u8 =>
      jcall (f_R_tell r7 u8) fun r9 u10 =>
      jcall (f_R_ledBy v1 u10) fun r11 u12 =>
      some (r11, u12)
    else
      jgd ((0 : Int) ≤ v3 ∧ v3 < 10) <|
      if (w 48 v3.toNat) = v1 then
        f_R_led_43 (f_R_led_19 n) v1 v3 v2 1 w
      else
        f_R_led_43 (f_R_led_19 n) v1 v3 v2 0 w
theorem t_R_led_19 {X : jX} {Qf : Int × Wd → State → Prop} {ad : Nat → Nat} (C : Cx X prog_14_method_98_code "EachBringsAnotherModel") (hn : xn X = 4) (hR : xR X = rmD 3) (hr : Rt X Qf ad prog_14_method_98_code 0) : ∀ (n : Nat) (v1 v2 v3 : Int) (w : Wd), VF X Qf ad NF 0 0 w 19 [(0, (2, 44)), (1, (0, v1)), (2, (0, v2)), (3, (0, v3))] [] (f_R_led_19 n v1 v2 v3 w) := by
  intro n
  induction n with
  | zero => intros; exact vf_no
  | succ n ih =>
    intro v1 v2 v3 w
    rw [f_R_led_19]
    refine vf_iload_n C (f := 3) (zdg dz_R_led_0 13 rfl) 3 rfl rfl ?_
    refine vf_aload_n C (f := 0) (zdg dz_R_led_0 14 rfl) 0 rfl rfl ?_
    refine vf_get C (kd := 0) fl_R_144 sh_43 rfl (by decide) rfl rfl (zdg dz_R_led_0 15 rfl) ?_
    refine vf_icmp_ge C (off := 27) (tgt := 51) (zdg dz_R_led_0 16 rfl) (by decide) ?_ ?_
    · refine vf_aload_n C (f := 0) (zdg dz_R_led_1 7 rfl) 0 rfl rfl ?_
      refine vf_iconst C (z := 0) (zdg dz_R_led_1 8 rfl) (jz rfl) ?_
      refine vf_put C (kd := 0) fl_R_141 fk_11_15 sh_43 rfl (by decide) rfl rfl (by decide) (zdg dz_R_led_1 9 rfl) ?_
      generalize st w 43 15 0 = u4
      refine vf_uw ?_
      refine vf_aload_n C (f := 0) (zdg dz_R_led_1 10 rfl) 0 rfl rfl ?_
      refine vf_iload_n C (f := 2) (zdg dz_R_led_1 11 rfl) 2 rfl rfl ?_
      refine vf_callVv C cy_R_tell ml_R_304 rfl (ct_R_tell _ _) (S := []) sh_43 (by decide) rfl (jrm_of hR rfl) rfl rfl (Nat.le_of_ble_eq_true rfl) (zdg dz_R_led_1 12 rfl) (fun r5 u6 => ?_)
      refine vf_aload_n C (f := 0) (zdg dz_R_led_1 13 rfl) 0 rfl rfl ?_
      refine vf_aload_n C (f := 0) (zdg dz_R_led_1 14 rfl) 0 rfl rfl ?_
      refine vf_iload_n C (f := 1) (zdg dz_R_led_1 15 rfl) 1 rfl rfl ?_
      refine vf_callVi C cy_R_depthUnder ml_R_401 rfl (ct_R_depthUnder _ _) (S := [(2, 44)]) sh_43 (by decide) rfl (jrm_of hR rfl) rfl rfl (Nat.le_of_ble_eq_true rfl) (zdg dz_R_led_1 16 rfl) (fun r7 u8 => ?_)
      refine vf_callVv C cy_R_tell ml_R_304 rfl (ct_R_tell _ _) (S := []) sh_43 (by decide) rfl (jrm_of hR rfl) rfl rfl (Nat.le_of_ble_eq_true rfl) (zdg dz_R_led_1 17 rfl) (fun r9 u10 => ?_)
      refine vf_aload_n C (f := 0) (zdg dz_R_led_1 18 rfl) 0 rfl rfl ?_
      refine vf_iload_n C (f := 1) (zdg dz_R_led_1 19 rfl) 1 rfl rfl ?_
      refine vf_callVi C cy_R_ledBy ml_R_404 rfl (ct_R_ledBy _ _) (S := []) sh_43 (by decide) rfl (jrm_of hR rfl) rfl rfl (Nat.le_of_ble_eq_true rfl) (zdg dz_R_led_1 20 rfl) (fun r11 u12 => ?_)
      exact hr _ _ _ _ (fun h => absurd h (by decide)) (zdg dz_R_led_1 21 rfl)
    · refine vf_iload_n C (f := 2) (zdg dz_R_led_0 17 rfl) 2 rfl rfl ?_
      refine vf_aload_n C (f := 0) (zdg dz_R_led_0 18 rfl) 0 rfl rfl ?_
      refine vf_getp C fl_R_23 sh_43 rfl (by decide) rfl (x := 49) rfl (zdg dz_R_led_0 19 rfl) ?_
      refine vf_iload_n C (f := 3) (zdg dz_R_led_0 20 rfl) 3 rfl rfl ?_
      refine vf_iald C sh_48 (by decide) rfl (mz := 10) rfl (zdg dz_R_led_0 21 rfl) ?_
      refine vf_iload_n C (f := 1) (zdg dz_R_led_0 22 rfl) 1 rfl rfl ?_
      refine vf_icmp_ne C (off := 7) (tgt := 42) (zdg dz_R_led_0 23 rfl) (by decide) ?_ ?_
      · refine vf_iconst C (z := 0) (zdg dz_R_led_1 2 rfl) (jz rfl) ?_
        exact vf_perm [0, 1, 3] rfl (t_R_led_43 C hn hR hr ih _ _ _ _ _)
      · refine vf_iconst C (z := 1) (zdg dz_R_led_1 0 rfl) (jz rfl) ?_
        refine vf_goto C (off := 4) (tgt := 43) (zdg dz_R_led_1 1 rfl) (by decide) ?_
        exact vf_perm [0, 1, 3] rfl (t_R_led_43 C hn hR hr ih _ _ _ _ _)
def f_R_led (v1 : Int) (w : Wd) : Option (Int × Wd) :=
  jlw (st w 43 16 0) fun u1 =>
  jcall (f_R_isOne v1 u1) fun r2 u3 =>
  if r2 = 0 then
    some ((-1), u3)
  else
    f_R_led_19 FU v1 0 0 u3
theorem ct_R_led (v1 : Int) (w : Wd) : Ct y_R_led prog_14_method_98_code 4 (some .int) 3 0 [(2, 44), (0, v1)] w (f_R_led v1 w) := by
  refine ct_of (by decide +kernel) (Or.inl ⟨rfl, rfl⟩) (Nat.le_of_ble_eq_true rfl) ?_
  intro X Qf ad C hn hR hr
  unfold f_R_led
  show VF X Qf ad NF 0 0 w 0 [(0, (2, 44)), (1, (0, v1))] [] _
  refine vf_aload_n C (f := 0) (zdg dz_R_led_0 0 rfl) 0 rfl rfl ?_
  refine vf_iconst C (z := 0) (zdg dz_R_led_0 1 rfl) (jz rfl) ?_
  refine vf_put C (kd := 0) fl_R_138 fk_11_16 sh_43 rfl (by decide) rfl rfl (by decide) (zdg dz_R_led_0 2 rfl) ?_
  generalize st w 43 16 0 = u1
  refine vf_uw ?_
  refine vf_aload_n C (f := 0) (zdg dz_R_led_0 3 rfl) 0 rfl rfl ?_
  refine vf_iload_n C (f := 1) (zdg dz_R_led_0 4 rfl) 1 rfl rfl ?_
  refine vf_callVz C cy_R_isOne ml_R_151 rfl (ct_R_isOne _ _) (S := []) sh_43 (by decide) rfl (jrm_of hR rfl) rfl rfl (Nat.le_of_ble_eq_true rfl) (zdg dz_R_led_0 5 rfl) (fun r2 u3 => ?_)
  refine vf_if_ne C (off := 5) (tgt := 15) (zdg dz_R_led_0 6 rfl) (by decide) ?_ ?_
  · refine vf_iconst C (z := 0) (zdg dz_R_led_0 9 rfl) (jz rfl) ?_
    refine vf_istore_n C (f := 2) (L' := [(0, (2, 44)), (1, (0, v1))]) (zdg dz_R_led_0 10 rfl) [0, 1] (jrI rfl rfl) hn (by decide) rfl ?_
    refine vf_iconst C (z := 0) (zdg dz_R_led_0 11 rfl) (jz rfl) ?_
    refine vf_istore_n C (f := 3) (L' := [(2, (0, 0)), (0, (2, 44)), (1, (0, v1))]) (zdg dz_R_led_0 12 rfl) [0, 1, 2] (jrI rfl rfl) hn (by decide) rfl ?_
    exact vf_perm [2, 3, 1, 0] rfl (t_R_led_19 C hn hR hr FU _ _ _ _)
  · refine vf_iconst C (z := (-1)) (zdg dz_R_led_0 7 rfl) (jz rfl) ?_
    exact hr _ _ _ _ (fun h => absurd h (by decide)) (zdg dz_R_led_0 8 rfl)
def f_R_was (v1 : Int) (w : Wd) : Option (Int × Wd) :=
  jlw (st w 43 16 0) fun u1 =>
  jcall (f_R_in v1 0 (u1 43 8) u1) fun r2 u3 =>
  if r2 = 0 then
    some ((-1), u3)
  else
    jgd ((0 : Int) ≤ v1 ∧ v1 < 61) <|
    some (u3 50 v1.toNat, u3)
theorem ct_R_was (v1 : Int) (w : Wd) : Ct y_R_was prog_14_method_99_code 2 (some .int) 2 0 [(2, 44), (0, v1)] w (f_R_was v1 w) := by
  refine ct_of (by decide +kernel) (Or.inl ⟨rfl, rfl⟩) (Nat.le_of_ble_eq_true rfl) ?_
  intro X Qf ad C hn hR hr
  unfold f_R_was
  show VF X Qf ad NF 0 0 w 0 [(0, (2, 44)), (1, (0, v1))] [] _
  refine vf_aload_n C (f := 0) (zdg dz_R_was_0 0 rfl) 0 rfl rfl ?_
  refine vf_iconst C (z := 0) (zdg dz_R_was_0 1 rfl) (jz rfl) ?_
  refine vf_put C (kd := 0) fl_R_138 fk_11_16 sh_43 rfl (by decide) rfl rfl (by decide) (zdg dz_R_was_0 2 rfl) ?_
  generalize st w 43 16 0 = u1
  refine vf_uw ?_
  refine vf_iload_n C (f := 1) (zdg dz_R_was_0 3 rfl) 1 rfl rfl ?_
  refine vf_iconst C (z := 0) (zdg dz_R_was_0 4 rfl) (jz rfl) ?_
  refine vf_aload_n C (f := 0) (zdg dz_R_was_0 5 rfl) 0 rfl rfl ?_
  refine vf_get C (kd := 0) fl_R_214 sh_43 rfl (by decide) rfl rfl (zdg dz_R_was_0 6 rfl) ?_
  refine vf_callSz C cy_R_in ml_R_147 (ct_R_in _ _ _ _) (S := []) (jrm_of hR rfl) rfl rfl (Nat.le_of_ble_eq_true rfl) (zdg dz_R_was_0 7 rfl) (fun r2 u3 => ?_)
  refine vf_if_eq C (off := 12) (tgt := 26) (zdg dz_R_was_0 8 rfl) (by decide) ?_ ?_
  · refine vf_iconst C (z := (-1)) (zdg dz_R_was_0 14 rfl) (jz rfl) ?_
    exact hr _ _ _ _ (fun h => absurd h (by decide)) (zdg dz_R_was_0 15 rfl)
  · refine vf_aload_n C (f := 0) (zdg dz_R_was_0 9 rfl) 0 rfl rfl ?_
    refine vf_getp C fl_R_29 sh_43 rfl (by decide) rfl (x := 51) rfl (zdg dz_R_was_0 10 rfl) ?_
    refine vf_iload_n C (f := 1) (zdg dz_R_was_0 11 rfl) 1 rfl rfl ?_
    refine vf_iald C sh_50 (by decide) rfl (mz := 61) rfl (zdg dz_R_was_0 12 rfl) ?_
    refine vf_goto C (off := 4) (tgt := 27) (zdg dz_R_was_0 13 rfl) (by decide) ?_
    exact hr _ _ _ _ (fun h => absurd h (by decide)) (zdg dz_R_was_0 15 rfl)
def f_R_common_18 : Nat → Int → Int → Wd → Option (Int × Wd)
  | 0, _, _, _ => none
  | n + 1, v2, v3, w =>
    if v3 = (-1) then
      some ((-2), w)
    else
      if v3 = v2 then
        some (v3, w)
      else
        jcall (f_R_ledBy v3 w) fun r4 u5 =>
        jcall (f_R_has r4 v2 u5) fun r6 u7 =>
        if r6 = 0 then
          jgd ((0 : Int) ≤ v3 ∧ v3 < 10) <|
          jlet (u7 48 v3.toNat) fun x8 =>
          f_R_common_18 n v2 x8 u7
        else
          some (v3, u7)
theorem t_R_common_18 {X : jX} {Qf : Int × Wd → State → Prop} {ad : Nat → Nat} (C : Cx X prog_14_method_100_code "EachBringsAnotherModel") (hn : xn X = 4) (hR : xR X = rmD 4) (hr : Rt X Qf ad prog_14_method_100_code 0) : ∀ (n : Nat) (v2 v3 : Int) (w : Wd), VF X Qf ad NF 0 0 w 18 [(0, (2, 44)), (2, (0, v2)), (3, (0, v3))] [] (f_R_common_18 n v2 v3 w) := by
  intro n
  induction n with
  | zero => intros; exact vf_no
  | succ n ih =>
    intro v2 v3 w
    rw [f_R_common_18]
    refine vf_iload_n C (f := 3) (zdg dz_R_common_0 12 rfl) 2 rfl rfl ?_
    refine vf_iconst C (z := (-1)) (zdg dz_R_common_0 13 rfl) (jz rfl) ?_
    refine vf_icmp_eq C (off := 32) (tgt := 52) (zdg dz_R_common_0 14 rfl) (by decide) ?_ ?_
    · refine vf_bipush C (z := (-2)) (zdg dz_R_common_1 8 rfl) (by decide +kernel) (jz rfl) ?_
      exact hr _ _ _ _ (fun h => absurd h (by decide)) (zdg dz_R_common_1 9 rfl)
    · refine vf_iload_n C (f := 3) (zdg dz_R_common_0 15 rfl) 2 rfl rfl ?_
      refine vf_iload_n C (f := 2) (zdg dz_R_common_0 16 rfl) 1 rfl rfl ?_
      refine vf_icmp_eq C (off := 15) (tgt := 40) (zdg dz_R_common_0 17 rfl) (by decide) ?_ ?_
      · refine vf_iload_n C (f := 3) (zdg dz_R_common_1 0 rfl) 2 rfl rfl ?_
        exact hr _ _ _ _ (fun h => absurd h (by decide)) (zdg dz_R_common_1 1 rfl)
      · refine vf_aload_n C (f := 0) (zdg dz_R_common_0 18 rfl) 0 rfl rfl ?_
        refine vf_iload_n C (f := 3) (zdg dz_R_common_0 19 rfl) 2 rfl rfl ?_
        refine vf_callVi C cy_R_ledBy ml_R_404 rfl (ct_R_ledBy _ _) (S := []) sh_43 (by decide) rfl (jrm_of hR rfl) rfl rfl (Nat.le_of_ble_eq_true rfl) (zdg dz_R_common_0 20 rfl) (fun r4 u5 => ?_)
        refine vf_iload_n C (f := 2) (zdg dz_R_common_0 21 rfl) 1 rfl rfl ?_
        refine vf_callSz C cy_R_has ml_R_210 (ct_R_has _ _ _) (S := []) (jrm_of hR rfl) rfl rfl (Nat.le_of_ble_eq_true rfl) (zdg dz_R_common_0 22 rfl) (fun r6 u7 => ?_)
        refine vf_if_eq C (off := 5) (tgt := 42) (zdg dz_R_common_0 23 rfl) (by decide) ?_ ?_
        · refine vf_aload_n C (f := 0) (zdg dz_R_common_1 2 rfl) 0 rfl rfl ?_
          refine vf_getp C fl_R_23 sh_43 rfl (by decide) rfl (x := 49) rfl (zdg dz_R_common_1 3 rfl) ?_
          refine vf_iload_n C (f := 3) (zdg dz_R_common_1 4 rfl) 2 rfl rfl ?_
          refine vf_iald C sh_48 (by decide) rfl (mz := 10) rfl (zdg dz_R_common_1 5 rfl) ?_
          generalize u7 48 v3.toNat = x8
          refine vf_ul ?_
          refine vf_istore_n C (f := 3) (L' := [(0, (2, 44)), (2, (0, v2))]) (zdg dz_R_common_1 6 rfl) [0, 1] (jrI rfl rfl) hn (by decide) rfl ?_
          refine vf_goto C (off := (-31)) (tgt := 18) (zdg dz_R_common_1 7 rfl) (by decide) ?_
          exact vf_perm [1, 2, 0] rfl (ih _ _ _)
        · refine vf_iload_n C (f := 3) (zdg dz_R_common_1 0 rfl) 2 rfl rfl ?_
          exact hr _ _ _ _ (fun h => absurd h (by decide)) (zdg dz_R_common_1 1 rfl)
def f_R_common (v1 v2 : Int) (w : Wd) : Option (Int × Wd) :=
  jlw (st w 43 16 0) fun u1 =>
  jcall (f_R_areTwo v1 v2 u1) fun r2 u3 =>
  if r2 = 0 then
    some ((-1), u3)
  else
    f_R_common_18 FU v2 v1 u3
theorem ct_R_common (v1 v2 : Int) (w : Wd) : Ct y_R_common prog_14_method_100_code 4 (some .int) 4 0 [(2, 44), (0, v1), (0, v2)] w (f_R_common v1 v2 w) := by
  refine ct_of (by decide +kernel) (Or.inl ⟨rfl, rfl⟩) (Nat.le_of_ble_eq_true rfl) ?_
  intro X Qf ad C hn hR hr
  unfold f_R_common
  show VF X Qf ad NF 0 0 w 0 [(0, (2, 44)), (1, (0, v1)), (2, (0, v2))] [] _
  refine vf_aload_n C (f := 0) (zdg dz_R_common_0 0 rfl) 0 rfl rfl ?_
  refine vf_iconst C (z := 0) (zdg dz_R_common_0 1 rfl) (jz rfl) ?_
  refine vf_put C (kd := 0) fl_R_138 fk_11_16 sh_43 rfl (by decide) rfl rfl (by decide) (zdg dz_R_common_0 2 rfl) ?_
  generalize st w 43 16 0 = u1
  refine vf_uw ?_
  refine vf_aload_n C (f := 0) (zdg dz_R_common_0 3 rfl) 0 rfl rfl ?_
  refine vf_iload_n C (f := 1) (zdg dz_R_common_0 4 rfl) 1 rfl rfl ?_
  refine vf_iload_n C (f := 2) (zdg dz_R_common_0 5 rfl) 2 rfl rfl ?_
  refine vf_callVz C cy_R_areTwo ml_R_259 rfl (ct_R_areTwo _ _ _) (S := []) sh_43 (by decide) rfl (jrm_of hR rfl) rfl rfl (Nat.le_of_ble_eq_true rfl) (zdg dz_R_common_0 6 rfl) (fun r2 u3 => ?_)
  refine vf_if_ne C (off := 5) (tgt := 16) (zdg dz_R_common_0 7 rfl) (by decide) ?_ ?_
  · refine vf_iload_n C (f := 1) (zdg dz_R_common_0 10 rfl) 1 rfl rfl ?_
    refine vf_istore_n C (f := 3) (L' := [(0, (2, 44)), (2, (0, v2))]) (zdg dz_R_common_0 11 rfl) [0, 2] (jrI rfl rfl) hn (by decide) rfl ?_
    exact vf_perm [1, 2, 0] rfl (t_R_common_18 C hn hR hr FU _ _ _)
  · refine vf_iconst C (z := (-1)) (zdg dz_R_common_0 8 rfl) (jz rfl) ?_
    exact hr _ _ _ _ (fun h => absurd h (by decide)) (zdg dz_R_common_0 9 rfl)
def f_R_father_43 (k11 : Int → Int → Int → Wd → Option (Int × Wd)) (v1 v2 v3 : Int) (w : Wd) : Option (Int × Wd) :=
  jlet (w32 (v3 + 1)) fun x9 =>
  k11 v1 v2 x9 w
theorem t_R_father_43 {X : jX} {Qf : Int × Wd → State → Prop} {ad : Nat → Nat} (C : Cx X prog_14_method_101_code "EachBringsAnotherModel") (hn : xn X = 5) (hR : xR X = rmD 3) (hr : Rt X Qf ad prog_14_method_101_code 0) {k11 : Int → Int → Int → Wd → Option (Int × Wd)} (hk11 : ∀ (v1 v2 v3 : Int) (w : Wd), VF X Qf ad NF 0 0 w 11 [(0, (2, 44)), (1, (0, v1)), (2, (0, v2)), (3, (0, v3))] [] (k11 v1 v2 v3 w)) (v1 v2 v3 : Int) (w : Wd) : VF X Qf ad NF 0 0 w 43 [(0, (2, 44)), (1, (0, v1)), (2, (0, v2)), (3, (0, v3))] [] (f_R_father_43 k11 v1 v2 v3 w) := by
  unfold f_R_father_43
  refine vf_iinc C (z := 1) (L' := [(0, (2, 44)), (1, (0, v1)), (2, (0, v2))]) (zdg dz_R_father_1 2 rfl) 3 rfl [0, 1, 2] (jrI rfl rfl) hn (by decide) ?_
  generalize w32 (v3 + 1) = x9
  refine vf_ul ?_
  refine vf_goto C (off := (-35)) (tgt := 11) (zdg dz_R_father_1 3 rfl) (by decide) ?_
  exact vf_perm [1, 2, 3, 0] rfl (hk11 _ _ _ _)
def f_R_father_11 : Nat → Int → Int → Int → Wd → Option (Int × Wd)
  | 0, _, _, _, _ => none
  | n + 1, v1, v2, v3, w =>
    if (w 43 0) ≤ v3 then
      if v1 = (-1) then
        some ((-2), w)
      else
        jlw (st w 43 15 0) fun u2 =>
        jcall (f_R_tell v2 u2) fun r3 u4 =>
        some (v1, u4)
    else
      jcall (f_R_ledBy v3 w) fun r5 u6 =>
      jcall (f_JI_bitCount r5 u6) fun r7 u8 =>
      if v2 < r7 then
        f_R_father_43 (f_R_father_11 n) v3 r7 v3 u8
      else
        f_R_father_43 (f_R_father_11 n) v1 v2 v3 u8
theorem t_R_father_11 {X : jX} {Qf : Int × Wd → State → Prop} {ad : Nat → Nat} (C : Cx X prog_14_method_101_code "EachBringsAnotherModel") (hn : xn X = 5) (hR : xR X = rmD 3) (hr : Rt X Qf ad prog_14_method_101_code 0) : ∀ (n : Nat) (v1 v2 v3 : Int) (w : Wd), VF X Qf ad NF 0 0 w 11 [(0, (2, 44)), (1, (0, v1)), (2, (0, v2)), (3, (0, v3))] [] (f_R_father_11 n v1 v2 v3 w) := by
  intro n
  induction n with
  | zero => intros; exact vf_no
  | succ n ih =>
    intro v1 v2 v3 w
    rw [f_R_father_11]
    refine vf_iload_n C (f := 3) (zdg dz_R_father_0 9 rfl) 3 rfl rfl ?_
    refine vf_aload_n C (f := 0) (zdg dz_R_father_0 10 rfl) 0 rfl rfl ?_
    refine vf_get C (kd := 0) fl_R_144 sh_43 rfl (by decide) rfl rfl (zdg dz_R_father_0 11 rfl) ?_
    refine vf_icmp_ge C (off := 33) (tgt := 49) (zdg dz_R_father_0 12 rfl) (by decide) ?_ ?_
    · refine vf_iload_n C (f := 1) (zdg dz_R_father_1 4 rfl) 1 rfl rfl ?_
      refine vf_iconst C (z := (-1)) (zdg dz_R_father_1 5 rfl) (jz rfl) ?_
      refine vf_icmp_ne C (off := 6) (tgt := 57) (zdg dz_R_father_1 6 rfl) (by decide) ?_ ?_
      · refine vf_aload_n C (f := 0) (zdg dz_R_father_1 9 rfl) 0 rfl rfl ?_
        refine vf_iconst C (z := 0) (zdg dz_R_father_1 10 rfl) (jz rfl) ?_
        refine vf_put C (kd := 0) fl_R_141 fk_11_15 sh_43 rfl (by decide) rfl rfl (by decide) (zdg dz_R_father_1 11 rfl) ?_
        generalize st w 43 15 0 = u2
        refine vf_uw ?_
        refine vf_aload_n C (f := 0) (zdg dz_R_father_1 12 rfl) 0 rfl rfl ?_
        refine vf_iload_n C (f := 2) (zdg dz_R_father_1 13 rfl) 2 rfl rfl ?_
        refine vf_callVv C cy_R_tell ml_R_304 rfl (ct_R_tell _ _) (S := []) sh_43 (by decide) rfl (jrm_of hR rfl) rfl rfl (Nat.le_of_ble_eq_true rfl) (zdg dz_R_father_1 14 rfl) (fun r3 u4 => ?_)
        refine vf_iload_n C (f := 1) (zdg dz_R_father_1 15 rfl) 1 rfl rfl ?_
        exact hr _ _ _ _ (fun h => absurd h (by decide)) (zdg dz_R_father_1 16 rfl)
      · refine vf_bipush C (z := (-2)) (zdg dz_R_father_1 7 rfl) (by decide +kernel) (jz rfl) ?_
        exact hr _ _ _ _ (fun h => absurd h (by decide)) (zdg dz_R_father_1 8 rfl)
    · refine vf_aload_n C (f := 0) (zdg dz_R_father_0 13 rfl) 0 rfl rfl ?_
      refine vf_iload_n C (f := 3) (zdg dz_R_father_0 14 rfl) 3 rfl rfl ?_
      refine vf_callVi C cy_R_ledBy ml_R_404 rfl (ct_R_ledBy _ _) (S := []) sh_43 (by decide) rfl (jrm_of hR rfl) rfl rfl (Nat.le_of_ble_eq_true rfl) (zdg dz_R_father_0 15 rfl) (fun r5 u6 => ?_)
      refine vf_callSi C cy_JI_bitCount ml_R_242 (ct_JI_bitCount _ _) (S := []) (jrm_of hR rfl) rfl rfl (Nat.le_of_ble_eq_true rfl) (zdg dz_R_father_0 16 rfl) (fun r7 u8 => ?_)
      refine vf_istore C (i := 4) (L' := [(0, (2, 44)), (1, (0, v1)), (2, (0, v2)), (3, (0, v3))]) (zdg dz_R_father_0 17 rfl) [0, 1, 2, 3] (jrI rfl rfl) hn (by decide) ?_
      refine vf_iload C (zdg dz_R_father_0 18 rfl) 0 rfl ?_
      refine vf_iload_n C (f := 2) (zdg dz_R_father_0 19 rfl) 3 rfl rfl ?_
      refine vf_icmp_gt C (off := 6) (tgt := 38) (zdg dz_R_father_0 20 rfl) (by decide) ?_ ?_
      · refine vf_iload_n C (f := 3) (zdg dz_R_father_0 22 rfl) 4 rfl rfl ?_
        refine vf_istore_n C (f := 1) (L' := [(4, (0, r7)), (0, (2, 44)), (3, (0, v3))]) (zdg dz_R_father_0 23 rfl) [0, 1, 4] (jrI rfl rfl) hn (by decide) rfl ?_
        refine vf_iload C (zdg dz_R_father_1 0 rfl) 1 rfl ?_
        refine vf_istore_n C (f := 2) (L' := [(1, (0, v3)), (0, (2, 44)), (3, (0, v3))]) (zdg dz_R_father_1 1 rfl) [0, 2, 3] (jrI rfl rfl) hn (by decide) rfl ?_
        exact vf_perm [2, 1, 0, 3] rfl (t_R_father_43 C hn hR hr ih _ _ _ _)
      · refine vf_goto C (off := 8) (tgt := 43) (zdg dz_R_father_0 21 rfl) (by decide) ?_
        exact vf_perm [1, 2, 3, 4] rfl (t_R_father_43 C hn hR hr ih _ _ _ _)
def f_R_father (w : Wd) : Option (Int × Wd) :=
  jlw (st w 43 16 0) fun u1 =>
  f_R_father_11 FU (-1) 0 0 u1
theorem ct_R_father (w : Wd) : Ct y_R_father prog_14_method_101_code 5 (some .int) 3 0 [(2, 44)] w (f_R_father w) := by
  refine ct_of (by decide +kernel) (Or.inl ⟨rfl, rfl⟩) (Nat.le_of_ble_eq_true rfl) ?_
  intro X Qf ad C hn hR hr
  unfold f_R_father
  show VF X Qf ad NF 0 0 w 0 [(0, (2, 44))] [] _
  refine vf_aload_n C (f := 0) (zdg dz_R_father_0 0 rfl) 0 rfl rfl ?_
  refine vf_iconst C (z := 0) (zdg dz_R_father_0 1 rfl) (jz rfl) ?_
  refine vf_put C (kd := 0) fl_R_138 fk_11_16 sh_43 rfl (by decide) rfl rfl (by decide) (zdg dz_R_father_0 2 rfl) ?_
  generalize st w 43 16 0 = u1
  refine vf_uw ?_
  refine vf_iconst C (z := (-1)) (zdg dz_R_father_0 3 rfl) (jz rfl) ?_
  refine vf_istore_n C (f := 1) (L' := [(0, (2, 44))]) (zdg dz_R_father_0 4 rfl) [0] (jrI rfl rfl) hn (by decide) rfl ?_
  refine vf_iconst C (z := 0) (zdg dz_R_father_0 5 rfl) (jz rfl) ?_
  refine vf_istore_n C (f := 2) (L' := [(1, (0, (-1))), (0, (2, 44))]) (zdg dz_R_father_0 6 rfl) [0, 1] (jrI rfl rfl) hn (by decide) rfl ?_
  refine vf_iconst C (z := 0) (zdg dz_R_father_0 7 rfl) (jz rfl) ?_
  refine vf_istore_n C (f := 3) (L' := [(2, (0, 0)), (1, (0, (-1))), (0, (2, 44))]) (zdg dz_R_father_0 8 rfl) [0, 1, 2] (jrI rfl rfl) hn (by decide) rfl ?_
  exact vf_perm [3, 2, 1, 0] rfl (t_R_father_11 C hn hR hr FU _ _ _ _)
def f_R_lay_43_79_2 : Nat → Int → Int → Wd → Option (Int × Wd)
  | 0, _, _, _ => none
  | n + 1, v2, v3, w =>
    if (10 : Int) ≤ v3 then
      jgd ((0 : Int) ≤ (w32 (v2 + 30)) ∧ (w32 (v2 + 30)) < 210) <|
      jlw (st w 79 (w32 (v2 + 30)).toNat ((w 43 7))) fun u1 =>
      some (0, u1)
    else
      jgd ((0 : Int) ≤ v3 ∧ v3 < 10) <|
      jgd ((0 : Int) ≤ (w32 (v2 + (w32 (3 * v3)))) ∧ (w32 (v2 + (w32 (3 * v3)))) < 210) <|
      jlw (st w 79 (w32 (v2 + (w32 (3 * v3)))).toNat ((w 47 v3.toNat))) fun u2 =>
      jgd ((0 : Int) ≤ v3 ∧ v3 < 10) <|
      jgd ((0 : Int) ≤ (w32 ((w32 (v2 + (w32 (3 * v3)))) + 1)) ∧ (w32 ((w32 (v2 + (w32 (3 * v3)))) + 1)) < 210) <|
      jlw (st u2 79 (w32 ((w32 (v2 + (w32 (3 * v3)))) + 1)).toNat ((u2 48 v3.toNat))) fun u3 =>
      jgd ((0 : Int) ≤ v3 ∧ v3 < 10) <|
      jgd ((0 : Int) ≤ (w32 ((w32 (v2 + (w32 (3 * v3)))) + 2)) ∧ (w32 ((w32 (v2 + (w32 (3 * v3)))) + 2)) < 210) <|
      jlw (st u3 79 (w32 ((w32 (v2 + (w32 (3 * v3)))) + 2)).toNat ((u3 49 v3.toNat))) fun u4 =>
      jlet (w32 (v3 + 1)) fun x5 =>
      f_R_lay_43_79_2 n v2 x5 u4
theorem t_R_lay_43_79_2 {X : jX} {Qf : Int × Wd → State → Prop} {ad : Nat → Nat} (C : Cx X prog_14_method_41_code "EachBringsAnotherModel") (hn : xn X = 4) (hR : xR X = rmD 1) (hr : Rt X Qf ad prog_14_method_41_code 9) : ∀ (n : Nat) (v2 v3 : Int) (w : Wd), VF X Qf ad NF 0 0 w 2 [(0, (2, 44)), (1, (2, 80)), (2, (0, v2)), (3, (0, v3))] [] (f_R_lay_43_79_2 n v2 v3 w) := by
  intro n
  induction n with
  | zero => intros; exact vf_no
  | succ n ih =>
    intro v2 v3 w
    rw [f_R_lay_43_79_2]
    refine vf_iload_n C (f := 3) (zdg dz_R_lay_0 2 rfl) 3 rfl rfl ?_
    refine vf_bipush C (z := 10) (zdg dz_R_lay_0 3 rfl) (by decide +kernel) (jz rfl) ?_
    refine vf_icmp_ge C (off := 52) (tgt := 57) (zdg dz_R_lay_0 4 rfl) (by decide) ?_ ?_
    · refine vf_aload_n C (f := 1) (zdg dz_R_lay_1 20 rfl) 1 rfl rfl ?_
      refine vf_iload_n C (f := 2) (zdg dz_R_lay_1 21 rfl) 2 rfl rfl ?_
      refine vf_bipush C (z := 30) (zdg dz_R_lay_1 22 rfl) (by decide +kernel) (jz rfl) ?_
      refine vf_iadd C (zdg dz_R_lay_1 23 rfl) ?_
      refine vf_aload_n C (f := 0) (zdg dz_R_lay_2 0 rfl) 0 rfl rfl ?_
      refine vf_get C (kd := 0) fl_R_270 sh_43 rfl (by decide) rfl rfl (zdg dz_R_lay_2 1 rfl) ?_
      refine vf_iast C sh_79 (by decide) rfl (mz := 210) rfl (zdg dz_R_lay_2 2 rfl) ?_
      generalize st w 79 (w32 (v2 + 30)).toNat ((w 43 7)) = u1
      refine vf_uw ?_
      exact hr _ _ _ _ (fun h => absurd h (by decide)) (zdg dz_R_lay_2 3 rfl)
    · refine vf_aload_n C (f := 1) (zdg dz_R_lay_0 5 rfl) 1 rfl rfl ?_
      refine vf_iload_n C (f := 2) (zdg dz_R_lay_0 6 rfl) 2 rfl rfl ?_
      refine vf_iconst C (z := 3) (zdg dz_R_lay_0 7 rfl) (jz rfl) ?_
      refine vf_iload_n C (f := 3) (zdg dz_R_lay_0 8 rfl) 3 rfl rfl ?_
      refine vf_imul C (zdg dz_R_lay_0 9 rfl) ?_
      refine vf_iadd C (zdg dz_R_lay_0 10 rfl) ?_
      refine vf_aload_n C (f := 0) (zdg dz_R_lay_0 11 rfl) 0 rfl rfl ?_
      refine vf_getp C fl_R_20 sh_43 rfl (by decide) rfl (x := 48) rfl (zdg dz_R_lay_0 12 rfl) ?_
      refine vf_iload_n C (f := 3) (zdg dz_R_lay_0 13 rfl) 3 rfl rfl ?_
      refine vf_iald C sh_47 (by decide) rfl (mz := 10) rfl (zdg dz_R_lay_0 14 rfl) ?_
      refine vf_iast C sh_79 (by decide) rfl (mz := 210) rfl (zdg dz_R_lay_0 15 rfl) ?_
      generalize st w 79 (w32 (v2 + (w32 (3 * v3)))).toNat ((w 47 v3.toNat)) = u2
      refine vf_uw ?_
      refine vf_aload_n C (f := 1) (zdg dz_R_lay_0 16 rfl) 1 rfl rfl ?_
      refine vf_iload_n C (f := 2) (zdg dz_R_lay_0 17 rfl) 2 rfl rfl ?_
      refine vf_iconst C (z := 3) (zdg dz_R_lay_0 18 rfl) (jz rfl) ?_
      refine vf_iload_n C (f := 3) (zdg dz_R_lay_0 19 rfl) 3 rfl rfl ?_
      refine vf_imul C (zdg dz_R_lay_0 20 rfl) ?_
      refine vf_iadd C (zdg dz_R_lay_0 21 rfl) ?_
      refine vf_iconst C (z := 1) (zdg dz_R_lay_0 22 rfl) (jz rfl) ?_
      refine vf_iadd C (zdg dz_R_lay_0 23 rfl) ?_
      refine vf_aload_n C (f := 0) (zdg dz_R_lay_1 0 rfl) 0 rfl rfl ?_
      refine vf_getp C fl_R_23 sh_43 rfl (by decide) rfl (x := 49) rfl (zdg dz_R_lay_1 1 rfl) ?_
      refine vf_iload_n C (f := 3) (zdg dz_R_lay_1 2 rfl) 3 rfl rfl ?_
      refine vf_iald C sh_48 (by decide) rfl (mz := 10) rfl (zdg dz_R_lay_1 3 rfl) ?_
      refine vf_iast C sh_79 (by decide) rfl (mz := 210) rfl (zdg dz_R_lay_1 4 rfl) ?_
      generalize st u2 79 (w32 ((w32 (v2 + (w32 (3 * v3)))) + 1)).toNat ((u2 48 v3.toNat)) = u3
      refine vf_uw ?_
      refine vf_aload_n C (f := 1) (zdg dz_R_lay_1 5 rfl) 1 rfl rfl ?_
      refine vf_iload_n C (f := 2) (zdg dz_R_lay_1 6 rfl) 2 rfl rfl ?_
      refine vf_iconst C (z := 3) (zdg dz_R_lay_1 7 rfl) (jz rfl) ?_
      refine vf_iload_n C (f := 3) (zdg dz_R_lay_1 8 rfl) 3 rfl rfl ?_
      refine vf_imul C (zdg dz_R_lay_1 9 rfl) ?_
      refine vf_iadd C (zdg dz_R_lay_1 10 rfl) ?_
      refine vf_iconst C (z := 2) (zdg dz_R_lay_1 11 rfl) (jz rfl) ?_
      refine vf_iadd C (zdg dz_R_lay_1 12 rfl) ?_
      refine vf_aload_n C (f := 0) (zdg dz_R_lay_1 13 rfl) 0 rfl rfl ?_
      refine vf_getp C fl_R_26 sh_43 rfl (by decide) rfl (x := 50) rfl (zdg dz_R_lay_1 14 rfl) ?_
      refine vf_iload_n C (f := 3) (zdg dz_R_lay_1 15 rfl) 3 rfl rfl ?_
      refine vf_iald C sh_49 (by decide) rfl (mz := 10) rfl (zdg dz_R_lay_1 16 rfl) ?_
      refine vf_iast C sh_79 (by decide) rfl (mz := 210) rfl (zdg dz_R_lay_1 17 rfl) ?_
      generalize st u3 79 (w32 ((w32 (v2 + (w32 (3 * v3)))) + 2)).toNat ((u3 49 v3.toNat)) = u4
      refine vf_uw ?_
      refine vf_iinc C (z := 1) (L' := [(0, (2, 44)), (1, (2, 80)), (2, (0, v2))]) (zdg dz_R_lay_1 18 rfl) 3 rfl [0, 1, 2] (jrI rfl rfl) hn (by decide) ?_
      generalize w32 (v3 + 1) = x5
      refine vf_ul ?_
      refine vf_goto C (off := (-52)) (tgt := 2) (zdg dz_R_lay_1 19 rfl) (by decide) ?_
      exact vf_perm [1, 2, 3, 0] rfl (ih _ _ _)
def f_R_lay_43_79 (v2 : Int) (w : Wd) : Option (Int × Wd) :=
  f_R_lay_43_79_2 FU v2 0 w
theorem ct_R_lay_43_79 (v2 : Int) (w : Wd) : Ct y_R_lay prog_14_method_41_code 4 none 1 9 [(2, 44), (2, 80), (0, v2)] w (f_R_lay_43_79 v2 w) := by
  refine ct_of (by decide +kernel) (Or.inr (Or.inr (Or.inr ⟨rfl, rfl⟩))) (Nat.le_of_ble_eq_true rfl) ?_
  intro X Qf ad C hn hR hr
  unfold f_R_lay_43_79
  show VF X Qf ad NF 0 0 w 0 [(0, (2, 44)), (1, (2, 80)), (2, (0, v2))] [] _
  refine vf_iconst C (z := 0) (zdg dz_R_lay_0 0 rfl) (jz rfl) ?_
  refine vf_istore_n C (f := 3) (L' := [(0, (2, 44)), (1, (2, 80)), (2, (0, v2))]) (zdg dz_R_lay_0 1 rfl) [0, 1, 2] (jrI rfl rfl) hn (by decide) rfl ?_
  exact vf_perm [1, 2, 3, 0] rfl (t_R_lay_43_79_2 C hn hR hr FU _ _ _)
def f_R_keep_125 : Nat → Int → Int → Wd → Option (Int × Wd)
  | 0, _, _, _ => none
  | n + 1, v2, v3, w =>
    if (60 : Int) < v3 then
      some (1, w)
    else
      jgd ((0 : Int) ≤ v3 ∧ v3 < 61) <|
      jgd ((0 : Int) ≤ (w32 ((w32 (v2 + 3)) + v3)) ∧ (w32 ((w32 (v2 + 3)) + v3)) < 210) <|
      jlw (st w 79 (w32 ((w32 (v2 + 3)) + v3)).toNat ((w 50 v3.toNat))) fun u14 =>
      jlet (w32 (v3 + 1)) fun x15 =>
      f_R_keep_125 n v2 x15 u14
theorem t_R_keep_125 {X : jX} {Qf : Int × Wd → State → Prop} {ad : Nat → Nat} (C : Cx X prog_14_method_102_code "EachBringsAnotherModel") (hn : xn X = 4) (hR : xR X = rmD 2) (hr : Rt X Qf ad prog_14_method_102_code 4) : ∀ (n : Nat) (v2 v3 : Int) (w : Wd), VF X Qf ad NF 0 0 w 125 [(0, (2, 44)), (2, (0, v2)), (3, (0, v3))] [] (f_R_keep_125 n v2 v3 w) := by
  intro n
  induction n with
  | zero => intros; exact vf_no
  | succ n ih =>
    intro v2 v3 w
    rw [f_R_keep_125]
    refine vf_iload_n C (f := 3) (zdg dz_R_keep_3 5 rfl) 2 rfl rfl ?_
    refine vf_bipush C (z := 60) (zdg dz_R_keep_3 6 rfl) (by decide +kernel) (jz rfl) ?_
    refine vf_icmp_gt C (off := 25) (tgt := 153) (zdg dz_R_keep_3 7 rfl) (by decide) ?_ ?_
    · refine vf_iconst C (z := 1) (zdg dz_R_keep_3 22 rfl) (jz rfl) ?_
      exact hr _ _ _ _ (fun _ => Or.inr rfl) (zdg dz_R_keep_3 23 rfl)
    · refine vf_aload_n C (f := 0) (zdg dz_R_keep_3 8 rfl) 0 rfl rfl ?_
      refine vf_getp C fl_R_129 sh_43 rfl (by decide) rfl (x := 80) rfl (zdg dz_R_keep_3 9 rfl) ?_
      refine vf_iload_n C (f := 2) (zdg dz_R_keep_3 10 rfl) 1 rfl rfl ?_
      refine vf_iconst C (z := 3) (zdg dz_R_keep_3 11 rfl) (jz rfl) ?_
      refine vf_iadd C (zdg dz_R_keep_3 12 rfl) ?_
      refine vf_iload_n C (f := 3) (zdg dz_R_keep_3 13 rfl) 2 rfl rfl ?_
      refine vf_iadd C (zdg dz_R_keep_3 14 rfl) ?_
      refine vf_aload_n C (f := 0) (zdg dz_R_keep_3 15 rfl) 0 rfl rfl ?_
      refine vf_getp C fl_R_29 sh_43 rfl (by decide) rfl (x := 51) rfl (zdg dz_R_keep_3 16 rfl) ?_
      refine vf_iload_n C (f := 3) (zdg dz_R_keep_3 17 rfl) 2 rfl rfl ?_
      refine vf_iald C sh_50 (by decide) rfl (mz := 61) rfl (zdg dz_R_keep_3 18 rfl) ?_
      refine vf_iast C sh_79 (by decide) rfl (mz := 210) rfl (zdg dz_R_keep_3 19 rfl) ?_
      generalize st w 79 (w32 ((w32 (v2 + 3)) + v3)).toNat ((w 50 v3.toNat)) = u14
      refine vf_uw ?_
      refine vf_iinc C (z := 1) (L' := [(0, (2, 44)), (2, (0, v2))]) (zdg dz_R_keep_3 20 rfl) 2 rfl [0, 1] (jrI rfl rfl) hn (by decide) ?_
      generalize w32 (v3 + 1) = x15
      refine vf_ul ?_
      refine vf_goto C (off := (-25)) (tgt := 125) (zdg dz_R_keep_3 21 rfl) (by decide) ?_
      exact vf_perm [1, 2, 0] rfl (ih _ _ _)
def f_R_keep_79 (k52 : Int → Int → Wd → Option (Int × Wd)) (v2 v3 s1 s2 : Int) (w : Wd) : Option (Int × Wd) :=
  jgd ((0 : Int) ≤ s1 ∧ s1 < 210) <|
  jlw (st w 79 s1.toNat s2) fun u16 =>
  jlet (w32 (v3 + 1)) fun x17 =>
  k52 v2 x17 u16
theorem t_R_keep_79 {X : jX} {Qf : Int × Wd → State → Prop} {ad : Nat → Nat} (C : Cx X prog_14_method_102_code "EachBringsAnotherModel") (hn : xn X = 4) (hR : xR X = rmD 2) (hr : Rt X Qf ad prog_14_method_102_code 4) {k52 : Int → Int → Wd → Option (Int × Wd)} (hk52 : ∀ (v2 v3 : Int) (w : Wd), VF X Qf ad NF 0 0 w 52 [(0, (2, 44)), (2, (0, v2)), (3, (0, v3))] [] (k52 v2 v3 w)) (v2 v3 s1 s2 : Int) (w : Wd) : VF X Qf ad NF 0 0 w 79 [(0, (2, 44)), (2, (0, v2)), (3, (0, v3))] [(0, s2), (0, s1), (2, 80)] (f_R_keep_79 k52 v2 v3 s1 s2 w) := by
  unfold f_R_keep_79
  refine vf_iast C sh_79 (by decide) rfl (mz := 210) rfl (zdg dz_R_keep_2 1 rfl) ?_
  generalize st w 79 s1.toNat s2 = u16
  refine vf_uw ?_
  refine vf_iinc C (z := 1) (L' := [(0, (2, 44)), (2, (0, v2))]) (zdg dz_R_keep_2 2 rfl) 2 rfl [0, 1] (jrI rfl rfl) hn (by decide) ?_
  generalize w32 (v3 + 1) = x17
  refine vf_ul ?_
  refine vf_goto C (off := (-31)) (tgt := 52) (zdg dz_R_keep_2 3 rfl) (by decide) ?_
  exact vf_perm [1, 2, 0] rfl (hk52 _ _ _)
def f_R_keep_52 : Nat → Int → Int → Wd → Option (Int × Wd)
  | 0, _, _, _ => none
  | n + 1, v2, v3, w =>
    if (10 : Int) ≤ v3 then
      jlet (w32 (v2 + 10)) fun x10 =>
      jgd ((0 : Int) ≤ x10 ∧ x10 < 210) <|
      jlw (st w 79 x10.toNat ((w 43 10))) fun u11 =>
      jgd ((0 : Int) ≤ (w32 (x10 + 1)) ∧ (w32 (x10 + 1)) < 210) <|
      jlw (st u11 79 (w32 (x10 + 1)).toNat ((u11 43 11))) fun u12 =>
      jgd ((0 : Int) ≤ (w32 (x10 + 2)) ∧ (w32 (x10 + 2)) < 210) <|
      jlw (st u12 79 (w32 (x10 + 2)).toNat ((u12 43 8))) fun u13 =>
      f_R_keep_125 FU x10 0 u13
    else
      jgd ((0 : Int) ≤ v3 ∧ v3 < 10) <|
      if (w 46 v3.toNat) = 0 then
        f_R_keep_79 (f_R_keep_52 n) v2 v3 (w32 (v2 + v3)) 0 w
      else
        f_R_keep_79 (f_R_keep_52 n) v2 v3 (w32 (v2 + v3)) 1 w
theorem t_R_keep_52 {X : jX} {Qf : Int × Wd → State → Prop} {ad : Nat → Nat} (C : Cx X prog_14_method_102_code "EachBringsAnotherModel") (hn : xn X = 4) (hR : xR X = rmD 2) (hr : Rt X Qf ad prog_14_method_102_code 4) : ∀ (n : Nat) (v2 v3 : Int) (w : Wd), VF X Qf ad NF 0 0 w 52 [(0, (2, 44)), (2, (0, v2)), (3, (0, v3))] [] (f_R_keep_52 n v2 v3 w) := by
  intro n
  induction n with
  | zero => intros; exact vf_no
  | succ n ih =>
    intro v2 v3 w
    rw [f_R_keep_52]
    refine vf_iload_n C (f := 3) (zdg dz_R_keep_1 9 rfl) 2 rfl rfl ?_
    refine vf_bipush C (z := 10) (zdg dz_R_keep_1 10 rfl) (by decide +kernel) (jz rfl) ?_
    refine vf_icmp_ge C (off := 31) (tgt := 86) (zdg dz_R_keep_1 11 rfl) (by decide) ?_ ?_
    · refine vf_iinc C (z := 10) (L' := [(0, (2, 44))]) (zdg dz_R_keep_2 4 rfl) 1 rfl [0] (jrI rfl rfl) hn (by decide) ?_
      generalize w32 (v2 + 10) = x10
      refine vf_ul ?_
      refine vf_aload_n C (f := 0) (zdg dz_R_keep_2 5 rfl) 1 rfl rfl ?_
      refine vf_getp C fl_R_129 sh_43 rfl (by decide) rfl (x := 80) rfl (zdg dz_R_keep_2 6 rfl) ?_
      refine vf_iload_n C (f := 2) (zdg dz_R_keep_2 7 rfl) 0 rfl rfl ?_
      refine vf_aload_n C (f := 0) (zdg dz_R_keep_2 8 rfl) 1 rfl rfl ?_
      refine vf_get C (kd := 0) fl_R_32 sh_43 rfl (by decide) rfl rfl (zdg dz_R_keep_2 9 rfl) ?_
      refine vf_iast C sh_79 (by decide) rfl (mz := 210) rfl (zdg dz_R_keep_2 10 rfl) ?_
      generalize st w 79 x10.toNat ((w 43 10)) = u11
      refine vf_uw ?_
      refine vf_aload_n C (f := 0) (zdg dz_R_keep_2 11 rfl) 1 rfl rfl ?_
      refine vf_getp C fl_R_129 sh_43 rfl (by decide) rfl (x := 80) rfl (zdg dz_R_keep_2 12 rfl) ?_
      refine vf_iload_n C (f := 2) (zdg dz_R_keep_2 13 rfl) 0 rfl rfl ?_
      refine vf_iconst C (z := 1) (zdg dz_R_keep_2 14 rfl) (jz rfl) ?_
      refine vf_iadd C (zdg dz_R_keep_2 15 rfl) ?_
      refine vf_aload_n C (f := 0) (zdg dz_R_keep_2 16 rfl) 1 rfl rfl ?_
      refine vf_get C (kd := 0) fl_R_36 sh_43 rfl (by decide) rfl rfl (zdg dz_R_keep_2 17 rfl) ?_
      refine vf_iast C sh_79 (by decide) rfl (mz := 210) rfl (zdg dz_R_keep_2 18 rfl) ?_
      generalize st u11 79 (w32 (x10 + 1)).toNat ((u11 43 11)) = u12
      refine vf_uw ?_
      refine vf_aload_n C (f := 0) (zdg dz_R_keep_2 19 rfl) 1 rfl rfl ?_
      refine vf_getp C fl_R_129 sh_43 rfl (by decide) rfl (x := 80) rfl (zdg dz_R_keep_2 20 rfl) ?_
      refine vf_iload_n C (f := 2) (zdg dz_R_keep_2 21 rfl) 0 rfl rfl ?_
      refine vf_iconst C (z := 2) (zdg dz_R_keep_2 22 rfl) (jz rfl) ?_
      refine vf_iadd C (zdg dz_R_keep_2 23 rfl) ?_
      refine vf_aload_n C (f := 0) (zdg dz_R_keep_3 0 rfl) 1 rfl rfl ?_
      refine vf_get C (kd := 0) fl_R_214 sh_43 rfl (by decide) rfl rfl (zdg dz_R_keep_3 1 rfl) ?_
      refine vf_iast C sh_79 (by decide) rfl (mz := 210) rfl (zdg dz_R_keep_3 2 rfl) ?_
      generalize st u12 79 (w32 (x10 + 2)).toNat ((u12 43 8)) = u13
      refine vf_uw ?_
      refine vf_iconst C (z := 0) (zdg dz_R_keep_3 3 rfl) (jz rfl) ?_
      refine vf_istore_n C (f := 3) (L' := [(2, (0, x10)), (0, (2, 44))]) (zdg dz_R_keep_3 4 rfl) [0, 1] (jrI rfl rfl) hn (by decide) rfl ?_
      exact vf_perm [2, 1, 0] rfl (t_R_keep_125 C hn hR hr FU _ _ _)
    · refine vf_aload_n C (f := 0) (zdg dz_R_keep_1 12 rfl) 0 rfl rfl ?_
      refine vf_getp C fl_R_129 sh_43 rfl (by decide) rfl (x := 80) rfl (zdg dz_R_keep_1 13 rfl) ?_
      refine vf_iload_n C (f := 2) (zdg dz_R_keep_1 14 rfl) 1 rfl rfl ?_
      refine vf_iload_n C (f := 3) (zdg dz_R_keep_1 15 rfl) 2 rfl rfl ?_
      refine vf_iadd C (zdg dz_R_keep_1 16 rfl) ?_
      refine vf_aload_n C (f := 0) (zdg dz_R_keep_1 17 rfl) 0 rfl rfl ?_
      refine vf_getp C fl_R_16 sh_43 rfl (by decide) rfl (x := 47) rfl (zdg dz_R_keep_1 18 rfl) ?_
      refine vf_iload_n C (f := 3) (zdg dz_R_keep_1 19 rfl) 2 rfl rfl ?_
      refine vf_zald C sh_46 (by decide) rfl (mz := 10) rfl (zdg dz_R_keep_1 20 rfl) ?_
      refine vf_if_eq C (off := 7) (tgt := 78) (zdg dz_R_keep_1 21 rfl) (by decide) ?_ ?_
      · refine vf_iconst C (z := 0) (zdg dz_R_keep_2 0 rfl) (jz rfl) ?_
        exact t_R_keep_79 C hn hR hr ih _ _ _ _ _
      · refine vf_iconst C (z := 1) (zdg dz_R_keep_1 22 rfl) (jz rfl) ?_
        refine vf_goto C (off := 4) (tgt := 79) (zdg dz_R_keep_1 23 rfl) (by decide) ?_
        exact t_R_keep_79 C hn hR hr ih _ _ _ _ _
def f_R_keep (v1 : Int) (w : Wd) : Option (Int × Wd) :=
  jlw (st w 43 16 0) fun u1 =>
  jcall (f_R_in v1 0 1 u1) fun r2 u3 =>
  if r2 = 0 then
    some (0, u3)
  else
    jgd ((0 : Int) ≤ v1 ∧ v1 < 2) <|
    jlw (st u3 80 v1.toNat (nz 1)) fun u4 =>
    jgd ((0 : Int) ≤ v1 ∧ v1 < 2) <|
    jlw (st u4 81 v1.toNat ((u4 43 56))) fun u5 =>
    jlet (w32 (105 * v1)) fun x6 =>
    jcall (f_R_lay_43_79 x6 u5) fun r7 u8 =>
    jlet (w32 (x6 + 31)) fun x9 =>
    f_R_keep_52 FU x9 0 u8
theorem ct_R_keep (v1 : Int) (w : Wd) : Ct y_R_keep prog_14_method_102_code 4 (some .boolean) 2 4 [(2, 44), (0, v1)] w (f_R_keep v1 w) := by
  refine ct_of (by decide +kernel) (Or.inr (Or.inr (Or.inl ⟨rfl, rfl⟩))) (Nat.le_of_ble_eq_true rfl) ?_
  intro X Qf ad C hn hR hr
  unfold f_R_keep
  show VF X Qf ad NF 0 0 w 0 [(0, (2, 44)), (1, (0, v1))] [] _
  refine vf_aload_n C (f := 0) (zdg dz_R_keep_0 0 rfl) 0 rfl rfl ?_
  refine vf_iconst C (z := 0) (zdg dz_R_keep_0 1 rfl) (jz rfl) ?_
  refine vf_put C (kd := 0) fl_R_138 fk_11_16 sh_43 rfl (by decide) rfl rfl (by decide) (zdg dz_R_keep_0 2 rfl) ?_
  generalize st w 43 16 0 = u1
  refine vf_uw ?_
  refine vf_iload_n C (f := 1) (zdg dz_R_keep_0 3 rfl) 1 rfl rfl ?_
  refine vf_iconst C (z := 0) (zdg dz_R_keep_0 4 rfl) (jz rfl) ?_
  refine vf_iconst C (z := 1) (zdg dz_R_keep_0 5 rfl) (jz rfl) ?_
  refine vf_callSz C cy_R_in ml_R_147 (ct_R_in _ _ _ _) (S := []) (jrm_of hR rfl) rfl rfl (Nat.le_of_ble_eq_true rfl) (zdg dz_R_keep_0 6 rfl) (fun r2 u3 => ?_)
  refine vf_if_ne C (off := 5) (tgt := 16) (zdg dz_R_keep_0 7 rfl) (by decide) ?_ ?_
  · refine vf_aload_n C (f := 0) (zdg dz_R_keep_0 10 rfl) 0 rfl rfl ?_
    refine vf_getp C fl_R_132 sh_43 rfl (by decide) rfl (x := 81) rfl (zdg dz_R_keep_0 11 rfl) ?_
    refine vf_iload_n C (f := 1) (zdg dz_R_keep_0 12 rfl) 1 rfl rfl ?_
    refine vf_iconst C (z := 1) (zdg dz_R_keep_0 13 rfl) (jz rfl) ?_
    refine vf_zast C sh_80 (by decide) rfl (mz := 2) rfl (zdg dz_R_keep_0 14 rfl) ?_
    generalize st u3 80 v1.toNat (nz 1) = u4
    refine vf_uw ?_
    refine vf_aload_n C (f := 0) (zdg dz_R_keep_0 15 rfl) 0 rfl rfl ?_
    refine vf_getp C fl_R_135 sh_43 rfl (by decide) rfl (x := 82) rfl (zdg dz_R_keep_0 16 rfl) ?_
    refine vf_iload_n C (f := 1) (zdg dz_R_keep_0 17 rfl) 1 rfl rfl ?_
    refine vf_aload_n C (f := 0) (zdg dz_R_keep_0 18 rfl) 0 rfl rfl ?_
    refine vf_get C (kd := 0) fl_R_223 sh_43 rfl (by decide) rfl rfl (zdg dz_R_keep_0 19 rfl) ?_
    refine vf_iast C sh_81 (by decide) rfl (mz := 2) rfl (zdg dz_R_keep_0 20 rfl) ?_
    generalize st u4 81 v1.toNat ((u4 43 56)) = u5
    refine vf_uw ?_
    refine vf_bipush C (z := 105) (zdg dz_R_keep_0 21 rfl) (by decide +kernel) (jz rfl) ?_
    refine vf_iload_n C (f := 1) (zdg dz_R_keep_0 22 rfl) 1 rfl rfl ?_
    refine vf_imul C (zdg dz_R_keep_0 23 rfl) ?_
    generalize w32 (105 * v1) = x6
    refine vf_ul ?_
    refine vf_istore_n C (f := 2) (L' := [(0, (2, 44))]) (zdg dz_R_keep_1 0 rfl) [0] (jrI rfl rfl) hn (by decide) rfl ?_
    refine vf_aload_n C (f := 0) (zdg dz_R_keep_1 1 rfl) 1 rfl rfl ?_
    refine vf_aload_n C (f := 0) (zdg dz_R_keep_1 2 rfl) 1 rfl rfl ?_
    refine vf_getp C fl_R_129 sh_43 rfl (by decide) rfl (x := 80) rfl (zdg dz_R_keep_1 3 rfl) ?_
    refine vf_iload_n C (f := 2) (zdg dz_R_keep_1 4 rfl) 0 rfl rfl ?_
    refine vf_callVv C cy_R_lay ml_R_273 rfl (ct_R_lay_43_79 _ _) (S := []) sh_43 (by decide) rfl (jrm_of hR rfl) rfl rfl (Nat.le_of_ble_eq_true rfl) (zdg dz_R_keep_1 5 rfl) (fun r7 u8 => ?_)
    refine vf_iinc C (z := 31) (L' := [(0, (2, 44))]) (zdg dz_R_keep_1 6 rfl) 0 rfl [1] (jrI rfl rfl) hn (by decide) ?_
    generalize w32 (x6 + 31) = x9
    refine vf_ul ?_
    refine vf_iconst C (z := 0) (zdg dz_R_keep_1 7 rfl) (jz rfl) ?_
    refine vf_istore_n C (f := 3) (L' := [(2, (0, x9)), (0, (2, 44))]) (zdg dz_R_keep_1 8 rfl) [0, 1] (jrI rfl rfl) hn (by decide) rfl ?_
    exact vf_perm [2, 1, 0] rfl (t_R_keep_52 C hn hR hr FU _ _ _)
  · refine vf_iconst C (z := 0) (zdg dz_R_keep_0 8 rfl) (jz rfl) ?_
    exact hr _ _ _ _ (fun _ => Or.inl rfl) (zdg dz_R_keep_0 9 rfl)
def f_R_bring_43_79_2 : Nat → Int → Int → Wd → Option (Int × Wd)
  | 0, _, _, _ => none
  | n + 1, v2, v3, w =>
    if (w 43 0) ≤ v3 then
      jgd ((0 : Int) ≤ (w32 (v2 + 30)) ∧ (w32 (v2 + 30)) < 210) <|
      jlw (st w 43 7 (w 79 (w32 (v2 + 30)).toNat)) fun u1 =>
      some (0, u1)
    else
      jgd ((0 : Int) ≤ (w32 (v2 + (w32 (3 * v3)))) ∧ (w32 (v2 + (w32 (3 * v3)))) < 210) <|
      jgd ((0 : Int) ≤ v3 ∧ v3 < 10) <|
      jlw (st w 47 v3.toNat ((w 79 (w32 (v2 + (w32 (3 * v3)))).toNat))) fun u2 =>
      jgd ((0 : Int) ≤ (w32 ((w32 (v2 + (w32 (3 * v3)))) + 1)) ∧ (w32 ((w32 (v2 + (w32 (3 * v3)))) + 1)) < 210) <|
      jgd ((0 : Int) ≤ v3 ∧ v3 < 10) <|
      jlw (st u2 48 v3.toNat ((u2 79 (w32 ((w32 (v2 + (w32 (3 * v3)))) + 1)).toNat))) fun u3 =>
      jgd ((0 : Int) ≤ (w32 ((w32 (v2 + (w32 (3 * v3)))) + 2)) ∧ (w32 ((w32 (v2 + (w32 (3 * v3)))) + 2)) < 210) <|
      jgd ((0 : Int) ≤ v3 ∧ v3 < 10) <|
      jlw (st u3 49 v3.toNat ((u3 79 (w32 ((w32 (v2 + (w32 (3 * v3)))) + 2)).toNat))) fun u4 =>
      jlet (w32 (v3 + 1)) fun x5 =>
      f_R_bring_43_79_2 n v2 x5 u4
theorem t_R_bring_43_79_2 {X : jX} {Qf : Int × Wd → State → Prop} {ad : Nat → Nat} (C : Cx X prog_14_method_42_code "EachBringsAnotherModel") (hn : xn X = 4) (hR : xR X = rmD 1) (hr : Rt X Qf ad prog_14_method_42_code 9) : ∀ (n : Nat) (v2 v3 : Int) (w : Wd), VF X Qf ad NF 0 0 w 2 [(0, (2, 44)), (1, (2, 80)), (2, (0, v2)), (3, (0, v3))] [] (f_R_bring_43_79_2 n v2 v3 w) := by
  intro n
  induction n with
  | zero => intros; exact vf_no
  | succ n ih =>
    intro v2 v3 w
    rw [f_R_bring_43_79_2]
    refine vf_iload_n C (f := 3) (zdg dz_R_bring_0 2 rfl) 3 rfl rfl ?_
    refine vf_aload_n C (f := 0) (zdg dz_R_bring_0 3 rfl) 0 rfl rfl ?_
    refine vf_get C (kd := 0) fl_R_144 sh_43 rfl (by decide) rfl rfl (zdg dz_R_bring_0 4 rfl) ?_
    refine vf_icmp_ge C (off := 52) (tgt := 59) (zdg dz_R_bring_0 5 rfl) (by decide) ?_ ?_
    · refine vf_aload_n C (f := 0) (zdg dz_R_bring_1 21 rfl) 0 rfl rfl ?_
      refine vf_aload_n C (f := 1) (zdg dz_R_bring_1 22 rfl) 1 rfl rfl ?_
      refine vf_iload_n C (f := 2) (zdg dz_R_bring_1 23 rfl) 2 rfl rfl ?_
      refine vf_bipush C (z := 30) (zdg dz_R_bring_2 0 rfl) (by decide +kernel) (jz rfl) ?_
      refine vf_iadd C (zdg dz_R_bring_2 1 rfl) ?_
      refine vf_iald C sh_79 (by decide) rfl (mz := 210) rfl (zdg dz_R_bring_2 2 rfl) ?_
      refine vf_put C (kd := 0) fl_R_270 fk_11_7 sh_43 rfl (by decide) rfl rfl (by decide) (zdg dz_R_bring_2 3 rfl) ?_
      generalize st w 43 7 (w 79 (w32 (v2 + 30)).toNat) = u1
      refine vf_uw ?_
      exact hr _ _ _ _ (fun h => absurd h (by decide)) (zdg dz_R_bring_2 4 rfl)
    · refine vf_aload_n C (f := 0) (zdg dz_R_bring_0 6 rfl) 0 rfl rfl ?_
      refine vf_getp C fl_R_20 sh_43 rfl (by decide) rfl (x := 48) rfl (zdg dz_R_bring_0 7 rfl) ?_
      refine vf_iload_n C (f := 3) (zdg dz_R_bring_0 8 rfl) 3 rfl rfl ?_
      refine vf_aload_n C (f := 1) (zdg dz_R_bring_0 9 rfl) 1 rfl rfl ?_
      refine vf_iload_n C (f := 2) (zdg dz_R_bring_0 10 rfl) 2 rfl rfl ?_
      refine vf_iconst C (z := 3) (zdg dz_R_bring_0 11 rfl) (jz rfl) ?_
      refine vf_iload_n C (f := 3) (zdg dz_R_bring_0 12 rfl) 3 rfl rfl ?_
      refine vf_imul C (zdg dz_R_bring_0 13 rfl) ?_
      refine vf_iadd C (zdg dz_R_bring_0 14 rfl) ?_
      refine vf_iald C sh_79 (by decide) rfl (mz := 210) rfl (zdg dz_R_bring_0 15 rfl) ?_
      refine vf_iast C sh_47 (by decide) rfl (mz := 10) rfl (zdg dz_R_bring_0 16 rfl) ?_
      generalize st w 47 v3.toNat ((w 79 (w32 (v2 + (w32 (3 * v3)))).toNat)) = u2
      refine vf_uw ?_
      refine vf_aload_n C (f := 0) (zdg dz_R_bring_0 17 rfl) 0 rfl rfl ?_
      refine vf_getp C fl_R_23 sh_43 rfl (by decide) rfl (x := 49) rfl (zdg dz_R_bring_0 18 rfl) ?_
      refine vf_iload_n C (f := 3) (zdg dz_R_bring_0 19 rfl) 3 rfl rfl ?_
      refine vf_aload_n C (f := 1) (zdg dz_R_bring_0 20 rfl) 1 rfl rfl ?_
      refine vf_iload_n C (f := 2) (zdg dz_R_bring_0 21 rfl) 2 rfl rfl ?_
      refine vf_iconst C (z := 3) (zdg dz_R_bring_0 22 rfl) (jz rfl) ?_
      refine vf_iload_n C (f := 3) (zdg dz_R_bring_0 23 rfl) 3 rfl rfl ?_
      refine vf_imul C (zdg dz_R_bring_1 0 rfl) ?_
      refine vf_iadd C (zdg dz_R_bring_1 1 rfl) ?_
      refine vf_iconst C (z := 1) (zdg dz_R_bring_1 2 rfl) (jz rfl) ?_
      refine vf_iadd C (zdg dz_R_bring_1 3 rfl) ?_
      refine vf_iald C sh_79 (by decide) rfl (mz := 210) rfl (zdg dz_R_bring_1 4 rfl) ?_
      refine vf_iast C sh_48 (by decide) rfl (mz := 10) rfl (zdg dz_R_bring_1 5 rfl) ?_
      generalize st u2 48 v3.toNat ((u2 79 (w32 ((w32 (v2 + (w32 (3 * v3)))) + 1)).toNat)) = u3
      refine vf_uw ?_
      refine vf_aload_n C (f := 0) (zdg dz_R_bring_1 6 rfl) 0 rfl rfl ?_
      refine vf_getp C fl_R_26 sh_43 rfl (by decide) rfl (x := 50) rfl (zdg dz_R_bring_1 7 rfl) ?_
      refine vf_iload_n C (f := 3) (zdg dz_R_bring_1 8 rfl) 3 rfl rfl ?_
      refine vf_aload_n C (f := 1) (zdg dz_R_bring_1 9 rfl) 1 rfl rfl ?_
      refine vf_iload_n C (f := 2) (zdg dz_R_bring_1 10 rfl) 2 rfl rfl ?_
      refine vf_iconst C (z := 3) (zdg dz_R_bring_1 11 rfl) (jz rfl) ?_
      refine vf_iload_n C (f := 3) (zdg dz_R_bring_1 12 rfl) 3 rfl rfl ?_
      refine vf_imul C (zdg dz_R_bring_1 13 rfl) ?_
      refine vf_iadd C (zdg dz_R_bring_1 14 rfl) ?_
      refine vf_iconst C (z := 2) (zdg dz_R_bring_1 15 rfl) (jz rfl) ?_
      refine vf_iadd C (zdg dz_R_bring_1 16 rfl) ?_
      refine vf_iald C sh_79 (by decide) rfl (mz := 210) rfl (zdg dz_R_bring_1 17 rfl) ?_
      refine vf_iast C sh_49 (by decide) rfl (mz := 10) rfl (zdg dz_R_bring_1 18 rfl) ?_
      generalize st u3 49 v3.toNat ((u3 79 (w32 ((w32 (v2 + (w32 (3 * v3)))) + 2)).toNat)) = u4
      refine vf_uw ?_
      refine vf_iinc C (z := 1) (L' := [(0, (2, 44)), (1, (2, 80)), (2, (0, v2))]) (zdg dz_R_bring_1 19 rfl) 3 rfl [0, 1, 2] (jrI rfl rfl) hn (by decide) ?_
      generalize w32 (v3 + 1) = x5
      refine vf_ul ?_
      refine vf_goto C (off := (-54)) (tgt := 2) (zdg dz_R_bring_1 20 rfl) (by decide) ?_
      exact vf_perm [1, 2, 3, 0] rfl (ih _ _ _)
def f_R_bring_43_79 (v2 : Int) (w : Wd) : Option (Int × Wd) :=
  f_R_bring_43_79_2 FU v2 0 w
theorem ct_R_bring_43_79 (v2 : Int) (w : Wd) : Ct y_R_bring prog_14_method_42_code 4 none 1 9 [(2, 44), (2, 80), (0, v2)] w (f_R_bring_43_79 v2 w) := by
  refine ct_of (by decide +kernel) (Or.inr (Or.inr (Or.inr ⟨rfl, rfl⟩))) (Nat.le_of_ble_eq_true rfl) ?_
  intro X Qf ad C hn hR hr
  unfold f_R_bring_43_79
  show VF X Qf ad NF 0 0 w 0 [(0, (2, 44)), (1, (2, 80)), (2, (0, v2))] [] _
  refine vf_iconst C (z := 0) (zdg dz_R_bring_0 0 rfl) (jz rfl) ?_
  refine vf_istore_n C (f := 3) (L' := [(0, (2, 44)), (1, (2, 80)), (2, (0, v2))]) (zdg dz_R_bring_0 1 rfl) [0, 1, 2] (jrI rfl rfl) hn (by decide) rfl ?_
  exact vf_perm [1, 2, 3, 0] rfl (t_R_bring_43_79_2 C hn hR hr FU _ _ _)
def f_R_again_133 : Nat → Int → Int → Wd → Option (Int × Wd)
  | 0, _, _, _ => none
  | n + 1, v2, v3, w =>
    if (60 : Int) < v3 then
      jlw (st w 43 32 0) fun u12 =>
      some (1, u12)
    else
      jgd ((0 : Int) ≤ (w32 ((w32 (v2 + 3)) + v3)) ∧ (w32 ((w32 (v2 + 3)) + v3)) < 210) <|
      jgd ((0 : Int) ≤ v3 ∧ v3 < 61) <|
      jlw (st w 50 v3.toNat ((w 79 (w32 ((w32 (v2 + 3)) + v3)).toNat))) fun u13 =>
      jlet (w32 (v3 + 1)) fun x14 =>
      f_R_again_133 n v2 x14 u13
theorem t_R_again_133 {X : jX} {Qf : Int × Wd → State → Prop} {ad : Nat → Nat} (C : Cx X prog_14_method_103_code "EachBringsAnotherModel") (hn : xn X = 4) (hR : xR X = rmD 2) (hr : Rt X Qf ad prog_14_method_103_code 4) : ∀ (n : Nat) (v2 v3 : Int) (w : Wd), VF X Qf ad NF 0 0 w 133 [(0, (2, 44)), (2, (0, v2)), (3, (0, v3))] [] (f_R_again_133 n v2 v3 w) := by
  intro n
  induction n with
  | zero => intros; exact vf_no
  | succ n ih =>
    intro v2 v3 w
    rw [f_R_again_133]
    refine vf_iload_n C (f := 3) (zdg dz_R_again_3 8 rfl) 2 rfl rfl ?_
    refine vf_bipush C (z := 60) (zdg dz_R_again_3 9 rfl) (by decide +kernel) (jz rfl) ?_
    refine vf_icmp_gt C (off := 25) (tgt := 161) (zdg dz_R_again_3 10 rfl) (by decide) ?_ ?_
    · refine vf_aload_n C (f := 0) (zdg dz_R_again_4 1 rfl) 0 rfl rfl ?_
      refine vf_iconst C (z := 0) (zdg dz_R_again_4 2 rfl) (jz rfl) ?_
      refine vf_put C (kd := 0) fl_R_220 fk_11_32 sh_43 rfl (by decide) rfl rfl (by decide) (zdg dz_R_again_4 3 rfl) ?_
      generalize st w 43 32 0 = u12
      refine vf_uw ?_
      refine vf_iconst C (z := 1) (zdg dz_R_again_4 4 rfl) (jz rfl) ?_
      exact hr _ _ _ _ (fun _ => Or.inr rfl) (zdg dz_R_again_4 5 rfl)
    · refine vf_aload_n C (f := 0) (zdg dz_R_again_3 11 rfl) 0 rfl rfl ?_
      refine vf_getp C fl_R_29 sh_43 rfl (by decide) rfl (x := 51) rfl (zdg dz_R_again_3 12 rfl) ?_
      refine vf_iload_n C (f := 3) (zdg dz_R_again_3 13 rfl) 2 rfl rfl ?_
      refine vf_aload_n C (f := 0) (zdg dz_R_again_3 14 rfl) 0 rfl rfl ?_
      refine vf_getp C fl_R_129 sh_43 rfl (by decide) rfl (x := 80) rfl (zdg dz_R_again_3 15 rfl) ?_
      refine vf_iload_n C (f := 2) (zdg dz_R_again_3 16 rfl) 1 rfl rfl ?_
      refine vf_iconst C (z := 3) (zdg dz_R_again_3 17 rfl) (jz rfl) ?_
      refine vf_iadd C (zdg dz_R_again_3 18 rfl) ?_
      refine vf_iload_n C (f := 3) (zdg dz_R_again_3 19 rfl) 2 rfl rfl ?_
      refine vf_iadd C (zdg dz_R_again_3 20 rfl) ?_
      refine vf_iald C sh_79 (by decide) rfl (mz := 210) rfl (zdg dz_R_again_3 21 rfl) ?_
      refine vf_iast C sh_50 (by decide) rfl (mz := 61) rfl (zdg dz_R_again_3 22 rfl) ?_
      generalize st w 50 v3.toNat ((w 79 (w32 ((w32 (v2 + 3)) + v3)).toNat)) = u13
      refine vf_uw ?_
      refine vf_iinc C (z := 1) (L' := [(0, (2, 44)), (2, (0, v2))]) (zdg dz_R_again_3 23 rfl) 2 rfl [0, 1] (jrI rfl rfl) hn (by decide) ?_
      generalize w32 (v3 + 1) = x14
      refine vf_ul ?_
      refine vf_goto C (off := (-25)) (tgt := 133) (zdg dz_R_again_4 0 rfl) (by decide) ?_
      exact vf_perm [1, 2, 0] rfl (ih _ _ _)
def f_R_again_87 (k57 : Int → Int → Wd → Option (Int × Wd)) (v2 v3 s1 s2 : Int) (w : Wd) : Option (Int × Wd) :=
  jgd ((0 : Int) ≤ s1 ∧ s1 < 10) <|
  jlw (st w 46 s1.toNat (nz s2)) fun u15 =>
  jlet (w32 (v3 + 1)) fun x16 =>
  k57 v2 x16 u15
theorem t_R_again_87 {X : jX} {Qf : Int × Wd → State → Prop} {ad : Nat → Nat} (C : Cx X prog_14_method_103_code "EachBringsAnotherModel") (hn : xn X = 4) (hR : xR X = rmD 2) (hr : Rt X Qf ad prog_14_method_103_code 4) {k57 : Int → Int → Wd → Option (Int × Wd)} (hk57 : ∀ (v2 v3 : Int) (w : Wd), VF X Qf ad NF 0 0 w 57 [(0, (2, 44)), (2, (0, v2)), (3, (0, v3))] [] (k57 v2 v3 w)) (v2 v3 s1 s2 : Int) (w : Wd) : VF X Qf ad NF 0 0 w 87 [(0, (2, 44)), (2, (0, v2)), (3, (0, v3))] [(0, s2), (0, s1), (2, 47)] (f_R_again_87 k57 v2 v3 s1 s2 w) := by
  unfold f_R_again_87
  refine vf_zast C sh_46 (by decide) rfl (mz := 10) rfl (zdg dz_R_again_2 4 rfl) ?_
  generalize st w 46 s1.toNat (nz s2) = u15
  refine vf_uw ?_
  refine vf_iinc C (z := 1) (L' := [(0, (2, 44)), (2, (0, v2))]) (zdg dz_R_again_2 5 rfl) 2 rfl [0, 1] (jrI rfl rfl) hn (by decide) ?_
  generalize w32 (v3 + 1) = x16
  refine vf_ul ?_
  refine vf_goto C (off := (-34)) (tgt := 57) (zdg dz_R_again_2 6 rfl) (by decide) ?_
  exact vf_perm [1, 2, 0] rfl (hk57 _ _ _)
def f_R_again_57 : Nat → Int → Int → Wd → Option (Int × Wd)
  | 0, _, _, _ => none
  | n + 1, v2, v3, w =>
    if (w 43 0) ≤ v3 then
      jlet (w32 (v2 + 10)) fun x8 =>
      jgd ((0 : Int) ≤ x8 ∧ x8 < 210) <|
      jlw (st w 43 10 (w 79 x8.toNat)) fun u9 =>
      jgd ((0 : Int) ≤ (w32 (x8 + 1)) ∧ (w32 (x8 + 1)) < 210) <|
      jlw (st u9 43 11 (u9 79 (w32 (x8 + 1)).toNat)) fun u10 =>
      jgd ((0 : Int) ≤ (w32 (x8 + 2)) ∧ (w32 (x8 + 2)) < 210) <|
      jlw (st u10 43 8 (u10 79 (w32 (x8 + 2)).toNat)) fun u11 =>
      f_R_again_133 FU x8 0 u11
    else
      jgd ((0 : Int) ≤ (w32 (v2 + v3)) ∧ (w32 (v2 + v3)) < 210) <|
      if (w 79 (w32 (v2 + v3)).toNat) = 1 then
        f_R_again_87 (f_R_again_57 n) v2 v3 v3 1 w
      else
        f_R_again_87 (f_R_again_57 n) v2 v3 v3 0 w
theorem t_R_again_57 {X : jX} {Qf : Int × Wd → State → Prop} {ad : Nat → Nat} (C : Cx X prog_14_method_103_code "EachBringsAnotherModel") (hn : xn X = 4) (hR : xR X = rmD 2) (hr : Rt X Qf ad prog_14_method_103_code 4) : ∀ (n : Nat) (v2 v3 : Int) (w : Wd), VF X Qf ad NF 0 0 w 57 [(0, (2, 44)), (2, (0, v2)), (3, (0, v3))] [] (f_R_again_57 n v2 v3 w) := by
  intro n
  induction n with
  | zero => intros; exact vf_no
  | succ n ih =>
    intro v2 v3 w
    rw [f_R_again_57]
    refine vf_iload_n C (f := 3) (zdg dz_R_again_1 10 rfl) 2 rfl rfl ?_
    refine vf_aload_n C (f := 0) (zdg dz_R_again_1 11 rfl) 0 rfl rfl ?_
    refine vf_get C (kd := 0) fl_R_144 sh_43 rfl (by decide) rfl rfl (zdg dz_R_again_1 12 rfl) ?_
    refine vf_icmp_ge C (off := 32) (tgt := 94) (zdg dz_R_again_1 13 rfl) (by decide) ?_ ?_
    · refine vf_iinc C (z := 10) (L' := [(0, (2, 44))]) (zdg dz_R_again_2 7 rfl) 1 rfl [0] (jrI rfl rfl) hn (by decide) ?_
      generalize w32 (v2 + 10) = x8
      refine vf_ul ?_
      refine vf_aload_n C (f := 0) (zdg dz_R_again_2 8 rfl) 1 rfl rfl ?_
      refine vf_aload_n C (f := 0) (zdg dz_R_again_2 9 rfl) 1 rfl rfl ?_
      refine vf_getp C fl_R_129 sh_43 rfl (by decide) rfl (x := 80) rfl (zdg dz_R_again_2 10 rfl) ?_
      refine vf_iload_n C (f := 2) (zdg dz_R_again_2 11 rfl) 0 rfl rfl ?_
      refine vf_iald C sh_79 (by decide) rfl (mz := 210) rfl (zdg dz_R_again_2 12 rfl) ?_
      refine vf_put C (kd := 0) fl_R_32 fk_11_10 sh_43 rfl (by decide) rfl rfl (by decide) (zdg dz_R_again_2 13 rfl) ?_
      generalize st w 43 10 (w 79 x8.toNat) = u9
      refine vf_uw ?_
      refine vf_aload_n C (f := 0) (zdg dz_R_again_2 14 rfl) 1 rfl rfl ?_
      refine vf_aload_n C (f := 0) (zdg dz_R_again_2 15 rfl) 1 rfl rfl ?_
      refine vf_getp C fl_R_129 sh_43 rfl (by decide) rfl (x := 80) rfl (zdg dz_R_again_2 16 rfl) ?_
      refine vf_iload_n C (f := 2) (zdg dz_R_again_2 17 rfl) 0 rfl rfl ?_
      refine vf_iconst C (z := 1) (zdg dz_R_again_2 18 rfl) (jz rfl) ?_
      refine vf_iadd C (zdg dz_R_again_2 19 rfl) ?_
      refine vf_iald C sh_79 (by decide) rfl (mz := 210) rfl (zdg dz_R_again_2 20 rfl) ?_
      refine vf_put C (kd := 0) fl_R_36 fk_11_11 sh_43 rfl (by decide) rfl rfl (by decide) (zdg dz_R_again_2 21 rfl) ?_
      generalize st u9 43 11 (u9 79 (w32 (x8 + 1)).toNat) = u10
      refine vf_uw ?_
      refine vf_aload_n C (f := 0) (zdg dz_R_again_2 22 rfl) 1 rfl rfl ?_
      refine vf_aload_n C (f := 0) (zdg dz_R_again_2 23 rfl) 1 rfl rfl ?_
      refine vf_getp C fl_R_129 sh_43 rfl (by decide) rfl (x := 80) rfl (zdg dz_R_again_3 0 rfl) ?_
      refine vf_iload_n C (f := 2) (zdg dz_R_again_3 1 rfl) 0 rfl rfl ?_
      refine vf_iconst C (z := 2) (zdg dz_R_again_3 2 rfl) (jz rfl) ?_
      refine vf_iadd C (zdg dz_R_again_3 3 rfl) ?_
      refine vf_iald C sh_79 (by decide) rfl (mz := 210) rfl (zdg dz_R_again_3 4 rfl) ?_
      refine vf_put C (kd := 0) fl_R_214 fk_11_8 sh_43 rfl (by decide) rfl rfl (by decide) (zdg dz_R_again_3 5 rfl) ?_
      generalize st u10 43 8 (u10 79 (w32 (x8 + 2)).toNat) = u11
      refine vf_uw ?_
      refine vf_iconst C (z := 0) (zdg dz_R_again_3 6 rfl) (jz rfl) ?_
      refine vf_istore_n C (f := 3) (L' := [(2, (0, x8)), (0, (2, 44))]) (zdg dz_R_again_3 7 rfl) [0, 1] (jrI rfl rfl) hn (by decide) rfl ?_
      exact vf_perm [2, 1, 0] rfl (t_R_again_133 C hn hR hr FU _ _ _)
    · refine vf_aload_n C (f := 0) (zdg dz_R_again_1 14 rfl) 0 rfl rfl ?_
      refine vf_getp C fl_R_16 sh_43 rfl (by decide) rfl (x := 47) rfl (zdg dz_R_again_1 15 rfl) ?_
      refine vf_iload_n C (f := 3) (zdg dz_R_again_1 16 rfl) 2 rfl rfl ?_
      refine vf_aload_n C (f := 0) (zdg dz_R_again_1 17 rfl) 0 rfl rfl ?_
      refine vf_getp C fl_R_129 sh_43 rfl (by decide) rfl (x := 80) rfl (zdg dz_R_again_1 18 rfl) ?_
      refine vf_iload_n C (f := 2) (zdg dz_R_again_1 19 rfl) 1 rfl rfl ?_
      refine vf_iload_n C (f := 3) (zdg dz_R_again_1 20 rfl) 2 rfl rfl ?_
      refine vf_iadd C (zdg dz_R_again_1 21 rfl) ?_
      refine vf_iald C sh_79 (by decide) rfl (mz := 210) rfl (zdg dz_R_again_1 22 rfl) ?_
      refine vf_iconst C (z := 1) (zdg dz_R_again_1 23 rfl) (jz rfl) ?_
      refine vf_icmp_ne C (off := 7) (tgt := 86) (zdg dz_R_again_2 0 rfl) (by decide) ?_ ?_
      · refine vf_iconst C (z := 0) (zdg dz_R_again_2 3 rfl) (jz rfl) ?_
        exact t_R_again_87 C hn hR hr ih _ _ _ _ _
      · refine vf_iconst C (z := 1) (zdg dz_R_again_2 1 rfl) (jz rfl) ?_
        refine vf_goto C (off := 4) (tgt := 87) (zdg dz_R_again_2 2 rfl) (by decide) ?_
        exact t_R_again_87 C hn hR hr ih _ _ _ _ _
def f_R_again (v1 : Int) (w : Wd) : Option (Int × Wd) :=
  jlw (st w 43 16 0) fun u1 =>
  jcall (f_R_in v1 0 1 u1) fun r2 u3 =>
  if r2 = 0 then
    some (0, u3)
  else
    jgd ((0 : Int) ≤ v1 ∧ v1 < 2) <|
    if (u3 80 v1.toNat) = 0 then
      some (0, u3)
    else
      jgd ((0 : Int) ≤ v1 ∧ v1 < 2) <|
      if (u3 81 v1.toNat) = (u3 43 56) then
        jlet (w32 (105 * v1)) fun x4 =>
        jcall (f_R_bring_43_79 x4 u3) fun r5 u6 =>
        jlet (w32 (x4 + 31)) fun x7 =>
        f_R_again_57 FU x7 0 u6
      else
        some (0, u3)
theorem ct_R_again (v1 : Int) (w : Wd) : Ct y_R_again prog_14_method_103_code 4 (some .boolean) 2 4 [(2, 44), (0, v1)] w (f_R_again v1 w) := by
  refine ct_of (by decide +kernel) (Or.inr (Or.inr (Or.inl ⟨rfl, rfl⟩))) (Nat.le_of_ble_eq_true rfl) ?_
  intro X Qf ad C hn hR hr
  unfold f_R_again
  show VF X Qf ad NF 0 0 w 0 [(0, (2, 44)), (1, (0, v1))] [] _
  refine vf_aload_n C (f := 0) (zdg dz_R_again_0 0 rfl) 0 rfl rfl ?_
  refine vf_iconst C (z := 0) (zdg dz_R_again_0 1 rfl) (jz rfl) ?_
  refine vf_put C (kd := 0) fl_R_138 fk_11_16 sh_43 rfl (by decide) rfl rfl (by decide) (zdg dz_R_again_0 2 rfl) ?_
  generalize st w 43 16 0 = u1
  refine vf_uw ?_
  refine vf_iload_n C (f := 1) (zdg dz_R_again_0 3 rfl) 1 rfl rfl ?_
  refine vf_iconst C (z := 0) (zdg dz_R_again_0 4 rfl) (jz rfl) ?_
  refine vf_iconst C (z := 1) (zdg dz_R_again_0 5 rfl) (jz rfl) ?_
  refine vf_callSz C cy_R_in ml_R_147 (ct_R_in _ _ _ _) (S := []) (jrm_of hR rfl) rfl rfl (Nat.le_of_ble_eq_true rfl) (zdg dz_R_again_0 6 rfl) (fun r2 u3 => ?_)
  refine vf_if_eq C (off := 25) (tgt := 36) (zdg dz_R_again_0 7 rfl) (by decide) ?_ ?_
  · refine vf_iconst C (z := 0) (zdg dz_R_again_0 20 rfl) (jz rfl) ?_
    exact hr _ _ _ _ (fun _ => Or.inl rfl) (zdg dz_R_again_0 21 rfl)
  · refine vf_aload_n C (f := 0) (zdg dz_R_again_0 8 rfl) 0 rfl rfl ?_
    refine vf_getp C fl_R_132 sh_43 rfl (by decide) rfl (x := 81) rfl (zdg dz_R_again_0 9 rfl) ?_
    refine vf_iload_n C (f := 1) (zdg dz_R_again_0 10 rfl) 1 rfl rfl ?_
    refine vf_zald C sh_80 (by decide) rfl (mz := 2) rfl (zdg dz_R_again_0 11 rfl) ?_
    refine vf_if_eq C (off := 16) (tgt := 36) (zdg dz_R_again_0 12 rfl) (by decide) ?_ ?_
    · refine vf_iconst C (z := 0) (zdg dz_R_again_0 20 rfl) (jz rfl) ?_
      exact hr _ _ _ _ (fun _ => Or.inl rfl) (zdg dz_R_again_0 21 rfl)
    · refine vf_aload_n C (f := 0) (zdg dz_R_again_0 13 rfl) 0 rfl rfl ?_
      refine vf_getp C fl_R_135 sh_43 rfl (by decide) rfl (x := 82) rfl (zdg dz_R_again_0 14 rfl) ?_
      refine vf_iload_n C (f := 1) (zdg dz_R_again_0 15 rfl) 1 rfl rfl ?_
      refine vf_iald C sh_81 (by decide) rfl (mz := 2) rfl (zdg dz_R_again_0 16 rfl) ?_
      refine vf_aload_n C (f := 0) (zdg dz_R_again_0 17 rfl) 0 rfl rfl ?_
      refine vf_get C (kd := 0) fl_R_223 sh_43 rfl (by decide) rfl rfl (zdg dz_R_again_0 18 rfl) ?_
      refine vf_icmp_eq C (off := 5) (tgt := 38) (zdg dz_R_again_0 19 rfl) (by decide) ?_ ?_
      · refine vf_bipush C (z := 105) (zdg dz_R_again_0 22 rfl) (by decide +kernel) (jz rfl) ?_
        refine vf_iload_n C (f := 1) (zdg dz_R_again_0 23 rfl) 1 rfl rfl ?_
        refine vf_imul C (zdg dz_R_again_1 0 rfl) ?_
        generalize w32 (105 * v1) = x4
        refine vf_ul ?_
        refine vf_istore_n C (f := 2) (L' := [(0, (2, 44))]) (zdg dz_R_again_1 1 rfl) [0] (jrI rfl rfl) hn (by decide) rfl ?_
        refine vf_aload_n C (f := 0) (zdg dz_R_again_1 2 rfl) 1 rfl rfl ?_
        refine vf_aload_n C (f := 0) (zdg dz_R_again_1 3 rfl) 1 rfl rfl ?_
        refine vf_getp C fl_R_129 sh_43 rfl (by decide) rfl (x := 80) rfl (zdg dz_R_again_1 4 rfl) ?_
        refine vf_iload_n C (f := 2) (zdg dz_R_again_1 5 rfl) 0 rfl rfl ?_
        refine vf_callVv C cy_R_bring ml_R_307 rfl (ct_R_bring_43_79 _ _) (S := []) sh_43 (by decide) rfl (jrm_of hR rfl) rfl rfl (Nat.le_of_ble_eq_true rfl) (zdg dz_R_again_1 6 rfl) (fun r5 u6 => ?_)
        refine vf_iinc C (z := 31) (L' := [(0, (2, 44))]) (zdg dz_R_again_1 7 rfl) 0 rfl [1] (jrI rfl rfl) hn (by decide) ?_
        generalize w32 (x4 + 31) = x7
        refine vf_ul ?_
        refine vf_iconst C (z := 0) (zdg dz_R_again_1 8 rfl) (jz rfl) ?_
        refine vf_istore_n C (f := 3) (L' := [(2, (0, x7)), (0, (2, 44))]) (zdg dz_R_again_1 9 rfl) [0, 1] (jrI rfl rfl) hn (by decide) rfl ?_
        exact vf_perm [2, 1, 0] rfl (t_R_again_57 C hn hR hr FU _ _ _)
      · refine vf_iconst C (z := 0) (zdg dz_R_again_0 20 rfl) (jz rfl) ?_
        exact hr _ _ _ _ (fun _ => Or.inl rfl) (zdg dz_R_again_0 21 rfl)
def f_R_count (v1 : Int) (w : Wd) : Option (Int × Wd) :=
  jlw (st w 43 16 0) fun u1 =>
  if v1 < 0 ∨ 9 < v1 then
    some ((-1), u1)
  else
  if v1 = 0 then
    some (u1 43 0, u1)
  else
  if v1 = 1 then
    some (u1 43 8, u1)
  else
  if v1 = 2 then
    jcall (f_R_guests u1) fun r2 u3 =>
    some (r2, u3)
  else
  if v1 = 3 then
    jcall (f_R_those 0 0 u1) fun r4 u5 =>
    some (r4, u5)
  else
  if v1 = 4 then
    jcall (f_R_those 4 4 u1) fun r6 u7 =>
    some (r6, u7)
  else
  if v1 = 5 then
    some (u1 43 7, u1)
  else
  if v1 = 6 then
    some (u1 43 32, u1)
  else
  if v1 = 7 then
    some (u1 43 15, u1)
  else
  if v1 = 8 then
    some (u1 43 13, u1)
  else
  if v1 = 9 then
    jcall (f_R_hidden u1) fun r8 u9 =>
    some (r8, u9)
  else
  none
theorem ct_R_count (v1 : Int) (w : Wd) : Ct y_R_count prog_14_method_104_code 2 (some .int) 4 0 [(2, 44), (0, v1)] w (f_R_count v1 w) := by
  refine ct_of (by decide +kernel) (Or.inl ⟨rfl, rfl⟩) (Nat.le_of_ble_eq_true rfl) ?_
  intro X Qf ad C hn hR hr
  unfold f_R_count
  show VF X Qf ad NF 0 0 w 0 [(0, (2, 44)), (1, (0, v1))] [] _
  refine vf_aload_n C (f := 0) (zdg dz_R_count_0 0 rfl) 0 rfl rfl ?_
  refine vf_iconst C (z := 0) (zdg dz_R_count_0 1 rfl) (jz rfl) ?_
  refine vf_put C (kd := 0) fl_R_138 fk_11_16 sh_43 rfl (by decide) rfl rfl (by decide) (zdg dz_R_count_0 2 rfl) ?_
  generalize st w 43 16 0 = u1
  refine vf_uw ?_
  refine vf_iload_n C (f := 1) (zdg dz_R_count_0 3 rfl) 1 rfl rfl ?_
  refine vf_if _ (fun h => ?_) (fun _ => ?_)
  · refine vf_swd C (dflt := 108) (lo := 0) (hi := 9) (offs := #[54, 59, 64, 69, 76, 83, 88, 93, 98, 103]) (len := 54) (tgt := 114) (by decide +kernel) h (by decide) ?_
    refine vf_iconst C (z := (-1)) (zdg dz_R_count_1 14 rfl) (jz rfl) ?_
    exact hr _ _ _ _ (fun h => absurd h (by decide)) (zdg dz_R_count_1 15 rfl)
  refine vf_if _ (fun h => ?_) (fun _ => ?_)
  · refine vf_swx C (dflt := 108) (lo := 0) (hi := 9) (offs := #[54, 59, 64, 69, 76, 83, 88, 93, 98, 103]) (len := 54) (z := 0) (off := 54) (tgt := 60) (by decide +kernel) h (by decide) (by decide) rfl (by decide) ?_
    refine vf_aload_n C (f := 0) (zdg dz_R_count_0 4 rfl) 0 rfl rfl ?_
    refine vf_get C (kd := 0) fl_R_144 sh_43 rfl (by decide) rfl rfl (zdg dz_R_count_0 5 rfl) ?_
    exact hr _ _ _ _ (fun h => absurd h (by decide)) (zdg dz_R_count_0 6 rfl)
  refine vf_if _ (fun h => ?_) (fun _ => ?_)
  · refine vf_swx C (dflt := 108) (lo := 0) (hi := 9) (offs := #[54, 59, 64, 69, 76, 83, 88, 93, 98, 103]) (len := 54) (z := 1) (off := 59) (tgt := 65) (by decide +kernel) h (by decide) (by decide) rfl (by decide) ?_
    refine vf_aload_n C (f := 0) (zdg dz_R_count_0 7 rfl) 0 rfl rfl ?_
    refine vf_get C (kd := 0) fl_R_214 sh_43 rfl (by decide) rfl rfl (zdg dz_R_count_0 8 rfl) ?_
    exact hr _ _ _ _ (fun h => absurd h (by decide)) (zdg dz_R_count_0 9 rfl)
  refine vf_if _ (fun h => ?_) (fun _ => ?_)
  · refine vf_swx C (dflt := 108) (lo := 0) (hi := 9) (offs := #[54, 59, 64, 69, 76, 83, 88, 93, 98, 103]) (len := 54) (z := 2) (off := 64) (tgt := 70) (by decide +kernel) h (by decide) (by decide) rfl (by decide) ?_
    refine vf_aload_n C (f := 0) (zdg dz_R_count_0 10 rfl) 0 rfl rfl ?_
    refine vf_callVi C cy_R_guests ml_R_217 rfl (ct_R_guests _) (S := []) sh_43 (by decide) rfl (jrm_of hR rfl) rfl rfl (Nat.le_of_ble_eq_true rfl) (zdg dz_R_count_0 11 rfl) (fun r2 u3 => ?_)
    exact hr _ _ _ _ (fun h => absurd h (by decide)) (zdg dz_R_count_0 12 rfl)
  refine vf_if _ (fun h => ?_) (fun _ => ?_)
  · refine vf_swx C (dflt := 108) (lo := 0) (hi := 9) (offs := #[54, 59, 64, 69, 76, 83, 88, 93, 98, 103]) (len := 54) (z := 3) (off := 69) (tgt := 75) (by decide +kernel) h (by decide) (by decide) rfl (by decide) ?_
    refine vf_aload_n C (f := 0) (zdg dz_R_count_0 13 rfl) 0 rfl rfl ?_
    refine vf_iconst C (z := 0) (zdg dz_R_count_0 14 rfl) (jz rfl) ?_
    refine vf_iconst C (z := 0) (zdg dz_R_count_0 15 rfl) (jz rfl) ?_
    refine vf_callVi C cy_R_those ml_R_155 rfl (ct_R_those _ _ _) (S := []) sh_43 (by decide) rfl (jrm_of hR rfl) rfl rfl (Nat.le_of_ble_eq_true rfl) (zdg dz_R_count_0 16 rfl) (fun r4 u5 => ?_)
    exact hr _ _ _ _ (fun h => absurd h (by decide)) (zdg dz_R_count_0 17 rfl)
  refine vf_if _ (fun h => ?_) (fun _ => ?_)
  · refine vf_swx C (dflt := 108) (lo := 0) (hi := 9) (offs := #[54, 59, 64, 69, 76, 83, 88, 93, 98, 103]) (len := 54) (z := 4) (off := 76) (tgt := 82) (by decide +kernel) h (by decide) (by decide) rfl (by decide) ?_
    refine vf_aload_n C (f := 0) (zdg dz_R_count_0 18 rfl) 0 rfl rfl ?_
    refine vf_iconst C (z := 4) (zdg dz_R_count_0 19 rfl) (jz rfl) ?_
    refine vf_iconst C (z := 4) (zdg dz_R_count_0 20 rfl) (jz rfl) ?_
    refine vf_callVi C cy_R_those ml_R_155 rfl (ct_R_those _ _ _) (S := []) sh_43 (by decide) rfl (jrm_of hR rfl) rfl rfl (Nat.le_of_ble_eq_true rfl) (zdg dz_R_count_0 21 rfl) (fun r6 u7 => ?_)
    exact hr _ _ _ _ (fun h => absurd h (by decide)) (zdg dz_R_count_0 22 rfl)
  refine vf_if _ (fun h => ?_) (fun _ => ?_)
  · refine vf_swx C (dflt := 108) (lo := 0) (hi := 9) (offs := #[54, 59, 64, 69, 76, 83, 88, 93, 98, 103]) (len := 54) (z := 5) (off := 83) (tgt := 89) (by decide +kernel) h (by decide) (by decide) rfl (by decide) ?_
    refine vf_aload_n C (f := 0) (zdg dz_R_count_0 23 rfl) 0 rfl rfl ?_
    refine vf_get C (kd := 0) fl_R_270 sh_43 rfl (by decide) rfl rfl (zdg dz_R_count_1 0 rfl) ?_
    exact hr _ _ _ _ (fun h => absurd h (by decide)) (zdg dz_R_count_1 1 rfl)
  refine vf_if _ (fun h => ?_) (fun _ => ?_)
  · refine vf_swx C (dflt := 108) (lo := 0) (hi := 9) (offs := #[54, 59, 64, 69, 76, 83, 88, 93, 98, 103]) (len := 54) (z := 6) (off := 88) (tgt := 94) (by decide +kernel) h (by decide) (by decide) rfl (by decide) ?_
    refine vf_aload_n C (f := 0) (zdg dz_R_count_1 2 rfl) 0 rfl rfl ?_
    refine vf_get C (kd := 0) fl_R_220 sh_43 rfl (by decide) rfl rfl (zdg dz_R_count_1 3 rfl) ?_
    exact hr _ _ _ _ (fun h => absurd h (by decide)) (zdg dz_R_count_1 4 rfl)
  refine vf_if _ (fun h => ?_) (fun _ => ?_)
  · refine vf_swx C (dflt := 108) (lo := 0) (hi := 9) (offs := #[54, 59, 64, 69, 76, 83, 88, 93, 98, 103]) (len := 54) (z := 7) (off := 93) (tgt := 99) (by decide +kernel) h (by decide) (by decide) rfl (by decide) ?_
    refine vf_aload_n C (f := 0) (zdg dz_R_count_1 5 rfl) 0 rfl rfl ?_
    refine vf_get C (kd := 0) fl_R_141 sh_43 rfl (by decide) rfl rfl (zdg dz_R_count_1 6 rfl) ?_
    exact hr _ _ _ _ (fun h => absurd h (by decide)) (zdg dz_R_count_1 7 rfl)
  refine vf_if _ (fun h => ?_) (fun _ => ?_)
  · refine vf_swx C (dflt := 108) (lo := 0) (hi := 9) (offs := #[54, 59, 64, 69, 76, 83, 88, 93, 98, 103]) (len := 54) (z := 8) (off := 98) (tgt := 104) (by decide +kernel) h (by decide) (by decide) rfl (by decide) ?_
    refine vf_aload_n C (f := 0) (zdg dz_R_count_1 8 rfl) 0 rfl rfl ?_
    refine vf_get C (kd := 0) fl_R_163 sh_43 rfl (by decide) rfl rfl (zdg dz_R_count_1 9 rfl) ?_
    exact hr _ _ _ _ (fun h => absurd h (by decide)) (zdg dz_R_count_1 10 rfl)
  refine vf_if _ (fun h => ?_) (fun _ => ?_)
  · refine vf_swx C (dflt := 108) (lo := 0) (hi := 9) (offs := #[54, 59, 64, 69, 76, 83, 88, 93, 98, 103]) (len := 54) (z := 9) (off := 103) (tgt := 109) (by decide +kernel) h (by decide) (by decide) rfl (by decide) ?_
    refine vf_aload_n C (f := 0) (zdg dz_R_count_1 11 rfl) 0 rfl rfl ?_
    refine vf_callVi C cy_R_hidden ml_R_159 rfl (ct_R_hidden _) (S := []) sh_43 (by decide) rfl (jrm_of hR rfl) rfl rfl (Nat.le_of_ble_eq_true rfl) (zdg dz_R_count_1 12 rfl) (fun r8 u9 => ?_)
    exact hr _ _ _ _ (fun h => absurd h (by decide)) (zdg dz_R_count_1 13 rfl)
  exact vf_no
def f_R_row (v1 : Int) (w : Wd) : Option (Int × Wd) :=
  jlw (st w 43 16 0) fun u1 =>
  jcall (f_R_in v1 0 (w32 ((u1 43 15) - 1)) u1) fun r2 u3 =>
  if r2 = 0 then
    jcall (f_R_lost u3) fun r4 u5 =>
    some (r4, u5)
  else
    jgd ((0 : Int) ≤ v1 ∧ v1 < 16) <|
    some (u3 52 v1.toNat, u3)
theorem ct_R_row (v1 : Int) (w : Wd) : Ct y_R_row prog_14_method_105_code 2 (some .int) 2 0 [(2, 44), (0, v1)] w (f_R_row v1 w) := by
  refine ct_of (by decide +kernel) (Or.inl ⟨rfl, rfl⟩) (Nat.le_of_ble_eq_true rfl) ?_
  intro X Qf ad C hn hR hr
  unfold f_R_row
  show VF X Qf ad NF 0 0 w 0 [(0, (2, 44)), (1, (0, v1))] [] _
  refine vf_aload_n C (f := 0) (zdg dz_R_row_0 0 rfl) 0 rfl rfl ?_
  refine vf_iconst C (z := 0) (zdg dz_R_row_0 1 rfl) (jz rfl) ?_
  refine vf_put C (kd := 0) fl_R_138 fk_11_16 sh_43 rfl (by decide) rfl rfl (by decide) (zdg dz_R_row_0 2 rfl) ?_
  generalize st w 43 16 0 = u1
  refine vf_uw ?_
  refine vf_iload_n C (f := 1) (zdg dz_R_row_0 3 rfl) 1 rfl rfl ?_
  refine vf_iconst C (z := 0) (zdg dz_R_row_0 4 rfl) (jz rfl) ?_
  refine vf_aload_n C (f := 0) (zdg dz_R_row_0 5 rfl) 0 rfl rfl ?_
  refine vf_get C (kd := 0) fl_R_141 sh_43 rfl (by decide) rfl rfl (zdg dz_R_row_0 6 rfl) ?_
  refine vf_iconst C (z := 1) (zdg dz_R_row_0 7 rfl) (jz rfl) ?_
  refine vf_isub C (zdg dz_R_row_0 8 rfl) ?_
  refine vf_callSz C cy_R_in ml_R_147 (ct_R_in _ _ _ _) (S := []) (jrm_of hR rfl) rfl rfl (Nat.le_of_ble_eq_true rfl) (zdg dz_R_row_0 9 rfl) (fun r2 u3 => ?_)
  refine vf_if_eq C (off := 12) (tgt := 28) (zdg dz_R_row_0 10 rfl) (by decide) ?_ ?_
  · refine vf_aload_n C (f := 0) (zdg dz_R_row_0 16 rfl) 0 rfl rfl ?_
    refine vf_callVi C cy_R_lost ml_R_253 rfl (ct_R_lost _) (S := []) sh_43 (by decide) rfl (jrm_of hR rfl) rfl rfl (Nat.le_of_ble_eq_true rfl) (zdg dz_R_row_0 17 rfl) (fun r4 u5 => ?_)
    exact hr _ _ _ _ (fun h => absurd h (by decide)) (zdg dz_R_row_0 18 rfl)
  · refine vf_aload_n C (f := 0) (zdg dz_R_row_0 11 rfl) 0 rfl rfl ?_
    refine vf_getp C fl_R_43 sh_43 rfl (by decide) rfl (x := 53) rfl (zdg dz_R_row_0 12 rfl) ?_
    refine vf_iload_n C (f := 1) (zdg dz_R_row_0 13 rfl) 1 rfl rfl ?_
    refine vf_iald C sh_52 (by decide) rfl (mz := 16) rfl (zdg dz_R_row_0 14 rfl) ?_
    refine vf_goto C (off := 7) (tgt := 32) (zdg dz_R_row_0 15 rfl) (by decide) ?_
    exact hr _ _ _ _ (fun h => absurd h (by decide)) (zdg dz_R_row_0 18 rfl)
