section
def f_R_nobody_2 : Nat → Int → Wd → Option (Int × Wd)
  | 0, _, _ => none
  | n + 1, v1, w =>
    if (10 : Int) ≤ v1 then
      some (0, w)
    else
      jgd ((0 : Int) ≤ v1 ∧ v1 < 10) <|
      jlw (st w 58 v1.toNat (-1)) fun u1 =>
      jlet (w32 (v1 + 1)) fun x2 =>
      f_R_nobody_2 n x2 u1
theorem t_R_nobody_2 {X : jX} {Qf : Int × Wd → State → Prop} {ad : Nat → Nat} (C : Cx X prog_14_method_38_code "EachBringsAnotherModel") (hn : xn X = 2) (hR : xR X = rmD 1) (hr : Rt X Qf ad prog_14_method_38_code 9) : ∀ (n : Nat) (v1 : Int) (w : Wd), VF X Qf ad NF 0 0 w 2 [(0, (2, 44)), (1, (0, v1))] [] (f_R_nobody_2 n v1 w) := by
  intro n
  induction n with
  | zero => intros; exact vf_no
  | succ n ih =>
    intro v1 w
    rw [f_R_nobody_2]
    refine vf_iload_n C (f := 1) (zdg dz_R_nobody_0 2 rfl) 1 rfl rfl ?_
    refine vf_bipush C (z := 10) (zdg dz_R_nobody_0 3 rfl) (by decide +kernel) (jz rfl) ?_
    refine vf_icmp_ge C (off := 16) (tgt := 21) (zdg dz_R_nobody_0 4 rfl) (by decide) ?_ ?_
    · exact hr _ _ _ _ (fun h => absurd h (by decide)) (zdg dz_R_nobody_0 12 rfl)
    · refine vf_aload_n C (f := 0) (zdg dz_R_nobody_0 5 rfl) 0 rfl rfl ?_
      refine vf_getp C fl_R_64 sh_43 rfl (by decide) rfl (x := 59) rfl (zdg dz_R_nobody_0 6 rfl) ?_
      refine vf_iload_n C (f := 1) (zdg dz_R_nobody_0 7 rfl) 1 rfl rfl ?_
      refine vf_iconst C (z := (-1)) (zdg dz_R_nobody_0 8 rfl) (jz rfl) ?_
      refine vf_iast C sh_58 (by decide) rfl (mz := 10) rfl (zdg dz_R_nobody_0 9 rfl) ?_
      generalize st w 58 v1.toNat (-1) = u1
      refine vf_uw ?_
      refine vf_iinc C (z := 1) (L' := [(0, (2, 44))]) (zdg dz_R_nobody_0 10 rfl) 1 rfl [0] (jrI rfl rfl) hn (by decide) ?_
      generalize w32 (v1 + 1) = x2
      refine vf_ul ?_
      refine vf_goto C (off := (-16)) (tgt := 2) (zdg dz_R_nobody_0 11 rfl) (by decide) ?_
      exact vf_perm [1, 0] rfl (ih _ _)
def f_R_nobody (w : Wd) : Option (Int × Wd) :=
  f_R_nobody_2 FU 0 w
theorem ct_R_nobody (w : Wd) : Ct y_R_nobody prog_14_method_38_code 2 none 1 9 [(2, 44)] w (f_R_nobody w) := by
  refine ct_of (by decide +kernel) (Or.inr (Or.inr (Or.inr ⟨rfl, rfl⟩))) (Nat.le_of_ble_eq_true rfl) ?_
  intro X Qf ad C hn hR hr
  unfold f_R_nobody
  show VF X Qf ad NF 0 0 w 0 [(0, (2, 44))] [] _
  refine vf_iconst C (z := 0) (zdg dz_R_nobody_0 0 rfl) (jz rfl) ?_
  refine vf_istore_n C (f := 1) (L' := [(0, (2, 44))]) (zdg dz_R_nobody_0 1 rfl) [0] (jrI rfl rfl) hn (by decide) rfl ?_
  exact vf_perm [1, 0] rfl (t_R_nobody_2 C hn hR hr FU _ _)
def f_R_broughtNow_35 (k4 : Int → Int → Wd → Option (Int × Wd)) (v2 s0 s1 : Int) (w : Wd) : Option (Int × Wd) :=
  jlet (ior s0 s1) fun x1 =>
  jlet (w32 (v2 + 1)) fun x2 =>
  k4 x1 x2 w
theorem t_R_broughtNow_35 {X : jX} {Qf : Int × Wd → State → Prop} {ad : Nat → Nat} (C : Cx X prog_14_method_39_code "EachBringsAnotherModel") (hn : xn X = 3) (hR : xR X = rmD 1) (hr : Rt X Qf ad prog_14_method_39_code 0) {k4 : Int → Int → Wd → Option (Int × Wd)} (hk4 : ∀ (v1 v2 : Int) (w : Wd), VF X Qf ad NF 0 0 w 4 [(0, (2, 44)), (1, (0, v1)), (2, (0, v2))] [] (k4 v1 v2 w)) (v2 s0 s1 : Int) (w : Wd) : VF X Qf ad NF 0 0 w 35 [(0, (2, 44)), (2, (0, v2))] [(0, s1), (0, s0)] (f_R_broughtNow_35 k4 v2 s0 s1 w) := by
  unfold f_R_broughtNow_35
  refine vf_ior C (zdg dz_R_broughtNow_0 23 rfl) ?_
  generalize ior s0 s1 = x1
  refine vf_ul ?_
  refine vf_istore_n C (f := 1) (L' := [(0, (2, 44)), (2, (0, v2))]) (zdg dz_R_broughtNow_1 0 rfl) [0, 1] (jrI rfl rfl) hn (by decide) rfl ?_
  refine vf_iinc C (z := 1) (L' := [(1, (0, x1)), (0, (2, 44))]) (zdg dz_R_broughtNow_1 1 rfl) 2 rfl [0, 1] (jrI rfl rfl) hn (by decide) ?_
  generalize w32 (v2 + 1) = x2
  refine vf_ul ?_
  refine vf_goto C (off := (-36)) (tgt := 4) (zdg dz_R_broughtNow_1 2 rfl) (by decide) ?_
  exact vf_perm [2, 1, 0] rfl (hk4 _ _ _)
def f_R_broughtNow_4 : Nat → Int → Int → Wd → Option (Int × Wd)
  | 0, _, _, _ => none
  | n + 1, v1, v2, w =>
    if (w 43 0) ≤ v2 then
      some (v1, w)
    else
      jgd ((0 : Int) ≤ v2 ∧ v2 < 10) <|
      if (w 58 v2.toNat) = (-1) then
        f_R_broughtNow_35 (f_R_broughtNow_4 n) v2 v1 0 w
      else
        jgd ((0 : Int) ≤ v2 ∧ v2 < 10) <|
        f_R_broughtNow_35 (f_R_broughtNow_4 n) v2 v1 (ishl 1 (w 58 v2.toNat)) w
theorem t_R_broughtNow_4 {X : jX} {Qf : Int × Wd → State → Prop} {ad : Nat → Nat} (C : Cx X prog_14_method_39_code "EachBringsAnotherModel") (hn : xn X = 3) (hR : xR X = rmD 1) (hr : Rt X Qf ad prog_14_method_39_code 0) : ∀ (n : Nat) (v1 v2 : Int) (w : Wd), VF X Qf ad NF 0 0 w 4 [(0, (2, 44)), (1, (0, v1)), (2, (0, v2))] [] (f_R_broughtNow_4 n v1 v2 w) := by
  intro n
  induction n with
  | zero => intros; exact vf_no
  | succ n ih =>
    intro v1 v2 w
    rw [f_R_broughtNow_4]
    refine vf_iload_n C (f := 2) (zdg dz_R_broughtNow_0 4 rfl) 2 rfl rfl ?_
    refine vf_aload_n C (f := 0) (zdg dz_R_broughtNow_0 5 rfl) 0 rfl rfl ?_
    refine vf_get C (kd := 0) fl_R_144 sh_43 rfl (by decide) rfl rfl (zdg dz_R_broughtNow_0 6 rfl) ?_
    refine vf_icmp_ge C (off := 34) (tgt := 43) (zdg dz_R_broughtNow_0 7 rfl) (by decide) ?_ ?_
    · refine vf_iload_n C (f := 1) (zdg dz_R_broughtNow_1 3 rfl) 1 rfl rfl ?_
      exact hr _ _ _ _ (fun h => absurd h (by decide)) (zdg dz_R_broughtNow_1 4 rfl)
    · refine vf_iload_n C (f := 1) (zdg dz_R_broughtNow_0 8 rfl) 1 rfl rfl ?_
      refine vf_aload_n C (f := 0) (zdg dz_R_broughtNow_0 9 rfl) 0 rfl rfl ?_
      refine vf_getp C fl_R_64 sh_43 rfl (by decide) rfl (x := 59) rfl (zdg dz_R_broughtNow_0 10 rfl) ?_
      refine vf_iload_n C (f := 2) (zdg dz_R_broughtNow_0 11 rfl) 2 rfl rfl ?_
      refine vf_iald C sh_58 (by decide) rfl (mz := 10) rfl (zdg dz_R_broughtNow_0 12 rfl) ?_
      refine vf_iconst C (z := (-1)) (zdg dz_R_broughtNow_0 13 rfl) (jz rfl) ?_
      refine vf_icmp_ne C (off := 7) (tgt := 27) (zdg dz_R_broughtNow_0 14 rfl) (by decide) ?_ ?_
      · refine vf_iconst C (z := 1) (zdg dz_R_broughtNow_0 17 rfl) (jz rfl) ?_
        refine vf_aload_n C (f := 0) (zdg dz_R_broughtNow_0 18 rfl) 0 rfl rfl ?_
        refine vf_getp C fl_R_64 sh_43 rfl (by decide) rfl (x := 59) rfl (zdg dz_R_broughtNow_0 19 rfl) ?_
        refine vf_iload_n C (f := 2) (zdg dz_R_broughtNow_0 20 rfl) 2 rfl rfl ?_
        refine vf_iald C sh_58 (by decide) rfl (mz := 10) rfl (zdg dz_R_broughtNow_0 21 rfl) ?_
        refine vf_ishl C (zdg dz_R_broughtNow_0 22 rfl) ?_
        exact vf_perm [0, 2] rfl (t_R_broughtNow_35 C hn hR hr ih _ _ _ _)
      · refine vf_iconst C (z := 0) (zdg dz_R_broughtNow_0 15 rfl) (jz rfl) ?_
        refine vf_goto C (off := 11) (tgt := 35) (zdg dz_R_broughtNow_0 16 rfl) (by decide) ?_
        exact vf_perm [0, 2] rfl (t_R_broughtNow_35 C hn hR hr ih _ _ _ _)
def f_R_broughtNow (w : Wd) : Option (Int × Wd) :=
  f_R_broughtNow_4 FU 0 0 w
theorem ct_R_broughtNow (w : Wd) : Ct y_R_broughtNow prog_14_method_39_code 3 (some .int) 1 0 [(2, 44)] w (f_R_broughtNow w) := by
  refine ct_of (by decide +kernel) (Or.inl ⟨rfl, rfl⟩) (Nat.le_of_ble_eq_true rfl) ?_
  intro X Qf ad C hn hR hr
  unfold f_R_broughtNow
  show VF X Qf ad NF 0 0 w 0 [(0, (2, 44))] [] _
  refine vf_iconst C (z := 0) (zdg dz_R_broughtNow_0 0 rfl) (jz rfl) ?_
  refine vf_istore_n C (f := 1) (L' := [(0, (2, 44))]) (zdg dz_R_broughtNow_0 1 rfl) [0] (jrI rfl rfl) hn (by decide) rfl ?_
  refine vf_iconst C (z := 0) (zdg dz_R_broughtNow_0 2 rfl) (jz rfl) ?_
  refine vf_istore_n C (f := 2) (L' := [(1, (0, 0)), (0, (2, 44))]) (zdg dz_R_broughtNow_0 3 rfl) [0, 1] (jrI rfl rfl) hn (by decide) rfl ?_
  exact vf_perm [2, 1, 0] rfl (t_R_broughtNow_4 C hn hR hr FU _ _ _)
def f_R_guestsThen_66 (k4 : Int → Int → Wd → Option (Int × Wd)) (v1 v2 : Int) (w : Wd) : Option (Int × Wd) :=
  jlet (w32 (v2 + 1)) fun x4 =>
  k4 v1 x4 w
theorem t_R_guestsThen_66 {X : jX} {Qf : Int × Wd → State → Prop} {ad : Nat → Nat} (C : Cx X prog_14_method_40_code "EachBringsAnotherModel") (hn : xn X = 3) (hR : xR X = rmD 2) (hr : Rt X Qf ad prog_14_method_40_code 0) {k4 : Int → Int → Wd → Option (Int × Wd)} (hk4 : ∀ (v1 v2 : Int) (w : Wd), VF X Qf ad NF 0 0 w 4 [(0, (2, 44)), (1, (0, v1)), (2, (0, v2))] [] (k4 v1 v2 w)) (v1 v2 : Int) (w : Wd) : VF X Qf ad NF 0 0 w 66 [(0, (2, 44)), (1, (0, v1)), (2, (0, v2))] [] (f_R_guestsThen_66 k4 v1 v2 w) := by
  unfold f_R_guestsThen_66
  refine vf_iinc C (z := 1) (L' := [(0, (2, 44)), (1, (0, v1))]) (zdg dz_R_guestsThen_1 16 rfl) 2 rfl [0, 1] (jrI rfl rfl) hn (by decide) ?_
  generalize w32 (v2 + 1) = x4
  refine vf_ul ?_
  refine vf_goto C (off := (-65)) (tgt := 4) (zdg dz_R_guestsThen_1 17 rfl) (by decide) ?_
  exact vf_perm [1, 2, 0] rfl (hk4 _ _ _)
def f_R_guestsThen_64 (k4 : Int → Int → Wd → Option (Int × Wd)) (v2 s0 s1 : Int) (w : Wd) : Option (Int × Wd) :=
  jlet (w32 (s0 + s1)) fun x3 =>
  f_R_guestsThen_66 k4 x3 v2 w
theorem t_R_guestsThen_64 {X : jX} {Qf : Int × Wd → State → Prop} {ad : Nat → Nat} (C : Cx X prog_14_method_40_code "EachBringsAnotherModel") (hn : xn X = 3) (hR : xR X = rmD 2) (hr : Rt X Qf ad prog_14_method_40_code 0) {k4 : Int → Int → Wd → Option (Int × Wd)} (hk4 : ∀ (v1 v2 : Int) (w : Wd), VF X Qf ad NF 0 0 w 4 [(0, (2, 44)), (1, (0, v1)), (2, (0, v2))] [] (k4 v1 v2 w)) (v2 s0 s1 : Int) (w : Wd) : VF X Qf ad NF 0 0 w 64 [(0, (2, 44)), (2, (0, v2))] [(0, s1), (0, s0)] (f_R_guestsThen_64 k4 v2 s0 s1 w) := by
  unfold f_R_guestsThen_64
  refine vf_iadd C (zdg dz_R_guestsThen_1 14 rfl) ?_
  generalize w32 (s0 + s1) = x3
  refine vf_ul ?_
  refine vf_istore_n C (f := 1) (L' := [(0, (2, 44)), (2, (0, v2))]) (zdg dz_R_guestsThen_1 15 rfl) [0, 1] (jrI rfl rfl) hn (by decide) rfl ?_
  exact vf_perm [1, 0, 2] rfl (t_R_guestsThen_66 C hn hR hr hk4 _ _ _)
def f_R_guestsThen_4 : Nat → Int → Int → Wd → Option (Int × Wd)
  | 0, _, _, _ => none
  | n + 1, v1, v2, w =>
    if (w 43 0) ≤ v2 then
      some (v1, w)
    else
      jgd ((0 : Int) ≤ v2 ∧ v2 < 10) <|
      jcall (f_R_isGuest (w 47 v2.toNat) w) fun r1 u2 =>
      if r1 = 0 then
        f_R_guestsThen_66 (f_R_guestsThen_4 n) v1 v2 u2
      else
        jgd ((0 : Int) ≤ v2 ∧ v2 < 10) <|
        if (u2 58 v2.toNat) = (-1) then
          jgd ((0 : Int) ≤ v2 ∧ v2 < 10) <|
          if (u2 43 10) ≤ (w32 ((w32 ((u2 47 v2.toNat) - 1)) + 1)) then
            f_R_guestsThen_64 (f_R_guestsThen_4 n) v2 v1 0 u2
          else
            f_R_guestsThen_64 (f_R_guestsThen_4 n) v2 v1 1 u2
        else
          f_R_guestsThen_64 (f_R_guestsThen_4 n) v2 v1 2 u2
theorem t_R_guestsThen_4 {X : jX} {Qf : Int × Wd → State → Prop} {ad : Nat → Nat} (C : Cx X prog_14_method_40_code "EachBringsAnotherModel") (hn : xn X = 3) (hR : xR X = rmD 2) (hr : Rt X Qf ad prog_14_method_40_code 0) : ∀ (n : Nat) (v1 v2 : Int) (w : Wd), VF X Qf ad NF 0 0 w 4 [(0, (2, 44)), (1, (0, v1)), (2, (0, v2))] [] (f_R_guestsThen_4 n v1 v2 w) := by
  intro n
  induction n with
  | zero => intros; exact vf_no
  | succ n ih =>
    intro v1 v2 w
    rw [f_R_guestsThen_4]
    refine vf_iload_n C (f := 2) (zdg dz_R_guestsThen_0 4 rfl) 2 rfl rfl ?_
    refine vf_aload_n C (f := 0) (zdg dz_R_guestsThen_0 5 rfl) 0 rfl rfl ?_
    refine vf_get C (kd := 0) fl_R_144 sh_43 rfl (by decide) rfl rfl (zdg dz_R_guestsThen_0 6 rfl) ?_
    refine vf_icmp_ge C (off := 63) (tgt := 72) (zdg dz_R_guestsThen_0 7 rfl) (by decide) ?_ ?_
    · refine vf_iload_n C (f := 1) (zdg dz_R_guestsThen_1 18 rfl) 1 rfl rfl ?_
      exact hr _ _ _ _ (fun h => absurd h (by decide)) (zdg dz_R_guestsThen_1 19 rfl)
    · refine vf_aload_n C (f := 0) (zdg dz_R_guestsThen_0 8 rfl) 0 rfl rfl ?_
      refine vf_getp C fl_R_20 sh_43 rfl (by decide) rfl (x := 48) rfl (zdg dz_R_guestsThen_0 9 rfl) ?_
      refine vf_iload_n C (f := 2) (zdg dz_R_guestsThen_0 10 rfl) 2 rfl rfl ?_
      refine vf_iald C sh_47 (by decide) rfl (mz := 10) rfl (zdg dz_R_guestsThen_0 11 rfl) ?_
      refine vf_callSz C cy_R_isGuest ml_R_256 (ct_R_isGuest _ _) (S := []) (jrm_of hR rfl) rfl rfl (Nat.le_of_ble_eq_true rfl) (zdg dz_R_guestsThen_0 12 rfl) (fun r1 u2 => ?_)
      refine vf_if_ne C (off := 6) (tgt := 27) (zdg dz_R_guestsThen_0 13 rfl) (by decide) ?_ ?_
      · refine vf_iload_n C (f := 1) (zdg dz_R_guestsThen_0 15 rfl) 1 rfl rfl ?_
        refine vf_aload_n C (f := 0) (zdg dz_R_guestsThen_0 16 rfl) 0 rfl rfl ?_
        refine vf_getp C fl_R_64 sh_43 rfl (by decide) rfl (x := 59) rfl (zdg dz_R_guestsThen_0 17 rfl) ?_
        refine vf_iload_n C (f := 2) (zdg dz_R_guestsThen_0 18 rfl) 2 rfl rfl ?_
        refine vf_iald C sh_58 (by decide) rfl (mz := 10) rfl (zdg dz_R_guestsThen_0 19 rfl) ?_
        refine vf_iconst C (z := (-1)) (zdg dz_R_guestsThen_0 20 rfl) (jz rfl) ?_
        refine vf_icmp_eq C (off := 7) (tgt := 42) (zdg dz_R_guestsThen_0 21 rfl) (by decide) ?_ ?_
        · refine vf_aload_n C (f := 0) (zdg dz_R_guestsThen_1 0 rfl) 0 rfl rfl ?_
          refine vf_getp C fl_R_20 sh_43 rfl (by decide) rfl (x := 48) rfl (zdg dz_R_guestsThen_1 1 rfl) ?_
          refine vf_iload_n C (f := 2) (zdg dz_R_guestsThen_1 2 rfl) 2 rfl rfl ?_
          refine vf_iald C sh_47 (by decide) rfl (mz := 10) rfl (zdg dz_R_guestsThen_1 3 rfl) ?_
          refine vf_iconst C (z := 1) (zdg dz_R_guestsThen_1 4 rfl) (jz rfl) ?_
          refine vf_isub C (zdg dz_R_guestsThen_1 5 rfl) ?_
          refine vf_iconst C (z := 1) (zdg dz_R_guestsThen_1 6 rfl) (jz rfl) ?_
          refine vf_iadd C (zdg dz_R_guestsThen_1 7 rfl) ?_
          refine vf_aload_n C (f := 0) (zdg dz_R_guestsThen_1 8 rfl) 0 rfl rfl ?_
          refine vf_get C (kd := 0) fl_R_32 sh_43 rfl (by decide) rfl rfl (zdg dz_R_guestsThen_1 9 rfl) ?_
          refine vf_icmp_ge C (off := 7) (tgt := 63) (zdg dz_R_guestsThen_1 10 rfl) (by decide) ?_ ?_
          · refine vf_iconst C (z := 0) (zdg dz_R_guestsThen_1 13 rfl) (jz rfl) ?_
            exact vf_perm [0, 2] rfl (t_R_guestsThen_64 C hn hR hr ih _ _ _ _)
          · refine vf_iconst C (z := 1) (zdg dz_R_guestsThen_1 11 rfl) (jz rfl) ?_
            refine vf_goto C (off := 4) (tgt := 64) (zdg dz_R_guestsThen_1 12 rfl) (by decide) ?_
            exact vf_perm [0, 2] rfl (t_R_guestsThen_64 C hn hR hr ih _ _ _ _)
        · refine vf_iconst C (z := 2) (zdg dz_R_guestsThen_0 22 rfl) (jz rfl) ?_
          refine vf_goto C (off := 25) (tgt := 64) (zdg dz_R_guestsThen_0 23 rfl) (by decide) ?_
          exact vf_perm [0, 2] rfl (t_R_guestsThen_64 C hn hR hr ih _ _ _ _)
      · refine vf_goto C (off := 42) (tgt := 66) (zdg dz_R_guestsThen_0 14 rfl) (by decide) ?_
        exact t_R_guestsThen_66 C hn hR hr ih _ _ _
def f_R_guestsThen (w : Wd) : Option (Int × Wd) :=
  f_R_guestsThen_4 FU 0 0 w
theorem ct_R_guestsThen (w : Wd) : Ct y_R_guestsThen prog_14_method_40_code 3 (some .int) 2 0 [(2, 44)] w (f_R_guestsThen w) := by
  refine ct_of (by decide +kernel) (Or.inl ⟨rfl, rfl⟩) (Nat.le_of_ble_eq_true rfl) ?_
  intro X Qf ad C hn hR hr
  unfold f_R_guestsThen
  show VF X Qf ad NF 0 0 w 0 [(0, (2, 44))] [] _
  refine vf_iconst C (z := 0) (zdg dz_R_guestsThen_0 0 rfl) (jz rfl) ?_
  refine vf_istore_n C (f := 1) (L' := [(0, (2, 44))]) (zdg dz_R_guestsThen_0 1 rfl) [0] (jrI rfl rfl) hn (by decide) rfl ?_
  refine vf_iconst C (z := 0) (zdg dz_R_guestsThen_0 2 rfl) (jz rfl) ?_
  refine vf_istore_n C (f := 2) (L' := [(1, (0, 0)), (0, (2, 44))]) (zdg dz_R_guestsThen_0 3 rfl) [0, 1] (jrI rfl rfl) hn (by decide) rfl ?_
  exact vf_perm [2, 1, 0] rfl (t_R_guestsThen_4 C hn hR hr FU _ _ _)
def f_R_lay_43_59_2 : Nat → Int → Int → Wd → Option (Int × Wd)
  | 0, _, _, _ => none
  | n + 1, v2, v3, w =>
    if (10 : Int) ≤ v3 then
      jgd ((0 : Int) ≤ (w32 (v2 + 30)) ∧ (w32 (v2 + 30)) < 1860) <|
      jlw (st w 59 (w32 (v2 + 30)).toNat ((w 43 7))) fun u1 =>
      some (0, u1)
    else
      jgd ((0 : Int) ≤ v3 ∧ v3 < 10) <|
      jgd ((0 : Int) ≤ (w32 (v2 + (w32 (3 * v3)))) ∧ (w32 (v2 + (w32 (3 * v3)))) < 1860) <|
      jlw (st w 59 (w32 (v2 + (w32 (3 * v3)))).toNat ((w 47 v3.toNat))) fun u2 =>
      jgd ((0 : Int) ≤ v3 ∧ v3 < 10) <|
      jgd ((0 : Int) ≤ (w32 ((w32 (v2 + (w32 (3 * v3)))) + 1)) ∧ (w32 ((w32 (v2 + (w32 (3 * v3)))) + 1)) < 1860) <|
      jlw (st u2 59 (w32 ((w32 (v2 + (w32 (3 * v3)))) + 1)).toNat ((u2 48 v3.toNat))) fun u3 =>
      jgd ((0 : Int) ≤ v3 ∧ v3 < 10) <|
      jgd ((0 : Int) ≤ (w32 ((w32 (v2 + (w32 (3 * v3)))) + 2)) ∧ (w32 ((w32 (v2 + (w32 (3 * v3)))) + 2)) < 1860) <|
      jlw (st u3 59 (w32 ((w32 (v2 + (w32 (3 * v3)))) + 2)).toNat ((u3 49 v3.toNat))) fun u4 =>
      jlet (w32 (v3 + 1)) fun x5 =>
      f_R_lay_43_59_2 n v2 x5 u4
theorem t_R_lay_43_59_2 {X : jX} {Qf : Int × Wd → State → Prop} {ad : Nat → Nat} (C : Cx X prog_14_method_41_code "EachBringsAnotherModel") (hn : xn X = 4) (hR : xR X = rmD 1) (hr : Rt X Qf ad prog_14_method_41_code 9) : ∀ (n : Nat) (v2 v3 : Int) (w : Wd), VF X Qf ad NF 0 0 w 2 [(0, (2, 44)), (1, (2, 60)), (2, (0, v2)), (3, (0, v3))] [] (f_R_lay_43_59_2 n v2 v3 w) := by
  intro n
  induction n with
  | zero => intros; exact vf_no
  | succ n ih =>
    intro v2 v3 w
    rw [f_R_lay_43_59_2]
    refine vf_iload_n C (f := 3) (zdg dz_R_lay_0 2 rfl) 3 rfl rfl ?_
    refine vf_bipush C (z := 10) (zdg dz_R_lay_0 3 rfl) (by decide +kernel) (jz rfl) ?_
    refine vf_icmp_ge C (off := 52) (tgt := 57) (zdg dz_R_lay_0 4 rfl) (by decide) ?_ ?_
    · refine vf_aload_n C (f := 1) (zdg dz_R_lay_1 20 rfl) 1 rfl rfl ?_
      refine vf_iload_n C (f := 2) (zdg dz_R_lay_1 21 rfl) 2 rfl rfl ?_
      refine vf_bipush C (z := 30) (zdg dz_R_lay_1 22 rfl) (by decide +kernel) (jz rfl) ?_
      refine vf_iadd C (zdg dz_R_lay_1 23 rfl) ?_
      refine vf_aload_n C (f := 0) (zdg dz_R_lay_2 0 rfl) 0 rfl rfl ?_
      refine vf_get C (kd := 0) fl_R_270 sh_43 rfl (by decide) rfl rfl (zdg dz_R_lay_2 1 rfl) ?_
      refine vf_iast C sh_59 (by decide) rfl (mz := 1860) rfl (zdg dz_R_lay_2 2 rfl) ?_
      generalize st w 59 (w32 (v2 + 30)).toNat ((w 43 7)) = u1
      refine vf_uw ?_
      exact hr _ _ _ _ (fun h => absurd h (by decide)) (zdg dz_R_lay_2 3 rfl)
    · refine vf_aload_n C (f := 1) (zdg dz_R_lay_0 5 rfl) 1 rfl rfl ?_
      refine vf_iload_n C (f := 2) (zdg dz_R_lay_0 6 rfl) 2 rfl rfl ?_
      refine vf_iconst C (z := 3) (zdg dz_R_lay_0 7 rfl) (jz rfl) ?_
      refine vf_iload_n C (f := 3) (zdg dz_R_lay_0 8 rfl) 3 rfl rfl ?_
      refine vf_imul C (zdg dz_R_lay_0 9 rfl) ?_
      refine vf_iadd C (zdg dz_R_lay_0 10 rfl) ?_
      refine vf_aload_n C (f := 0) (zdg dz_R_lay_0 11 rfl) 0 rfl rfl ?_
      refine vf_getp C fl_R_20 sh_43 rfl (by decide) rfl (x := 48) rfl (zdg dz_R_lay_0 12 rfl) ?_
      refine vf_iload_n C (f := 3) (zdg dz_R_lay_0 13 rfl) 3 rfl rfl ?_
      refine vf_iald C sh_47 (by decide) rfl (mz := 10) rfl (zdg dz_R_lay_0 14 rfl) ?_
      refine vf_iast C sh_59 (by decide) rfl (mz := 1860) rfl (zdg dz_R_lay_0 15 rfl) ?_
      generalize st w 59 (w32 (v2 + (w32 (3 * v3)))).toNat ((w 47 v3.toNat)) = u2
      refine vf_uw ?_
      refine vf_aload_n C (f := 1) (zdg dz_R_lay_0 16 rfl) 1 rfl rfl ?_
      refine vf_iload_n C (f := 2) (zdg dz_R_lay_0 17 rfl) 2 rfl rfl ?_
      refine vf_iconst C (z := 3) (zdg dz_R_lay_0 18 rfl) (jz rfl) ?_
      refine vf_iload_n C (f := 3) (zdg dz_R_lay_0 19 rfl) 3 rfl rfl ?_
      refine vf_imul C (zdg dz_R_lay_0 20 rfl) ?_
      refine vf_iadd C (zdg dz_R_lay_0 21 rfl) ?_
      refine vf_iconst C (z := 1) (zdg dz_R_lay_0 22 rfl) (jz rfl) ?_
      refine vf_iadd C (zdg dz_R_lay_0 23 rfl) ?_
      refine vf_aload_n C (f := 0) (zdg dz_R_lay_1 0 rfl) 0 rfl rfl ?_
      refine vf_getp C fl_R_23 sh_43 rfl (by decide) rfl (x := 49) rfl (zdg dz_R_lay_1 1 rfl) ?_
      refine vf_iload_n C (f := 3) (zdg dz_R_lay_1 2 rfl) 3 rfl rfl ?_
      refine vf_iald C sh_48 (by decide) rfl (mz := 10) rfl (zdg dz_R_lay_1 3 rfl) ?_
      refine vf_iast C sh_59 (by decide) rfl (mz := 1860) rfl (zdg dz_R_lay_1 4 rfl) ?_
      generalize st u2 59 (w32 ((w32 (v2 + (w32 (3 * v3)))) + 1)).toNat ((u2 48 v3.toNat)) = u3
      refine vf_uw ?_
      refine vf_aload_n C (f := 1) (zdg dz_R_lay_1 5 rfl) 1 rfl rfl ?_
      refine vf_iload_n C (f := 2) (zdg dz_R_lay_1 6 rfl) 2 rfl rfl ?_
      refine vf_iconst C (z := 3) (zdg dz_R_lay_1 7 rfl) (jz rfl) ?_
      refine vf_iload_n C (f := 3) (zdg dz_R_lay_1 8 rfl) 3 rfl rfl ?_
      refine vf_imul C (zdg dz_R_lay_1 9 rfl) ?_
      refine vf_iadd C (zdg dz_R_lay_1 10 rfl) ?_
      refine vf_iconst C (z := 2) (zdg dz_R_lay_1 11 rfl) (jz rfl) ?_
      refine vf_iadd C (zdg dz_R_lay_1 12 rfl) ?_
      refine vf_aload_n C (f := 0) (zdg dz_R_lay_1 13 rfl) 0 rfl rfl ?_
      refine vf_getp C fl_R_26 sh_43 rfl (by decide) rfl (x := 50) rfl (zdg dz_R_lay_1 14 rfl) ?_
      refine vf_iload_n C (f := 3) (zdg dz_R_lay_1 15 rfl) 3 rfl rfl ?_
      refine vf_iald C sh_49 (by decide) rfl (mz := 10) rfl (zdg dz_R_lay_1 16 rfl) ?_
      refine vf_iast C sh_59 (by decide) rfl (mz := 1860) rfl (zdg dz_R_lay_1 17 rfl) ?_
      generalize st u3 59 (w32 ((w32 (v2 + (w32 (3 * v3)))) + 2)).toNat ((u3 49 v3.toNat)) = u4
      refine vf_uw ?_
      refine vf_iinc C (z := 1) (L' := [(0, (2, 44)), (1, (2, 60)), (2, (0, v2))]) (zdg dz_R_lay_1 18 rfl) 3 rfl [0, 1, 2] (jrI rfl rfl) hn (by decide) ?_
      generalize w32 (v3 + 1) = x5
      refine vf_ul ?_
      refine vf_goto C (off := (-52)) (tgt := 2) (zdg dz_R_lay_1 19 rfl) (by decide) ?_
      exact vf_perm [1, 2, 3, 0] rfl (ih _ _ _)
def f_R_lay_43_59 (v2 : Int) (w : Wd) : Option (Int × Wd) :=
  f_R_lay_43_59_2 FU v2 0 w
theorem ct_R_lay_43_59 (v2 : Int) (w : Wd) : Ct y_R_lay prog_14_method_41_code 4 none 1 9 [(2, 44), (2, 60), (0, v2)] w (f_R_lay_43_59 v2 w) := by
  refine ct_of (by decide +kernel) (Or.inr (Or.inr (Or.inr ⟨rfl, rfl⟩))) (Nat.le_of_ble_eq_true rfl) ?_
  intro X Qf ad C hn hR hr
  unfold f_R_lay_43_59
  show VF X Qf ad NF 0 0 w 0 [(0, (2, 44)), (1, (2, 60)), (2, (0, v2))] [] _
  refine vf_iconst C (z := 0) (zdg dz_R_lay_0 0 rfl) (jz rfl) ?_
  refine vf_istore_n C (f := 3) (L' := [(0, (2, 44)), (1, (2, 60)), (2, (0, v2))]) (zdg dz_R_lay_0 1 rfl) [0, 1, 2] (jrI rfl rfl) hn (by decide) rfl ?_
  exact vf_perm [1, 2, 3, 0] rfl (t_R_lay_43_59_2 C hn hR hr FU _ _ _)
def f_R_goWeek_187 (k164 : Int → Int → Int → Wd → Option (Int × Wd)) (v1 v2 v3 : Int) (w : Wd) : Option (Int × Wd) :=
  jlet (w32 (v3 + 1)) fun x13 =>
  k164 v1 v2 x13 w
theorem t_R_goWeek_187 {X : jX} {Qf : Int × Wd → State → Prop} {ad : Nat → Nat} (C : Cx X prog_14_method_43_code "EachBringsAnotherModel") (hn : xn X = 5) (hR : xR X = rmD 4) (hr : Rt X Qf ad prog_14_method_43_code 0) {k164 : Int → Int → Int → Wd → Option (Int × Wd)} (hk164 : ∀ (v1 v2 v3 : Int) (w : Wd), VF X Qf ad NF 0 0 w 164 [(0, (2, 44)), (1, (0, v1)), (2, (0, v2)), (3, (0, v3))] [] (k164 v1 v2 v3 w)) (v1 v2 v3 : Int) (w : Wd) : VF X Qf ad NF 0 0 w 187 [(0, (2, 44)), (1, (0, v1)), (2, (0, v2)), (3, (0, v3))] [] (f_R_goWeek_187 k164 v1 v2 v3 w) := by
  unfold f_R_goWeek_187
  refine vf_iinc C (z := 1) (L' := [(0, (2, 44)), (1, (0, v1)), (2, (0, v2))]) (zdg dz_R_goWeek_4 16 rfl) 3 rfl [0, 1, 2] (jrI rfl rfl) hn (by decide) ?_
  generalize w32 (v3 + 1) = x13
  refine vf_ul ?_
  refine vf_goto C (off := (-26)) (tgt := 164) (zdg dz_R_goWeek_4 17 rfl) (by decide) ?_
  exact vf_perm [1, 2, 3, 0] rfl (hk164 _ _ _ _)
def f_R_goWeek_164 : Nat → Int → Int → Int → Wd → Option (Int × Wd)
  | 0, _, _, _, _ => none
  | n + 1, v1, v2, v3, w =>
    if (w 43 0) ≤ v3 then
      jcall (f_R_guests w) fun r7 u8 =>
      jgd ((0 : Int) ≤ (w 43 8) ∧ (w 43 8) < 61) <|
      jlw (st u8 50 (w 43 8).toNat r7) fun u9 =>
      jlw (st u9 43 7 (w32 ((u9 43 7) + v1))) fun u10 =>
      some (v1, u10)
    else
      jcall (f_R_has v2 v3 w) fun r11 u12 =>
      if r11 = 0 then
        f_R_goWeek_187 (f_R_goWeek_164 n) v1 v2 v3 u12
      else
        jgd ((0 : Int) ≤ v3 ∧ v3 < 10) <|
        jlw (st u12 47 v3.toNat 1) fun u14 =>
        f_R_goWeek_187 (f_R_goWeek_164 n) v1 v2 v3 u14
theorem t_R_goWeek_164 {X : jX} {Qf : Int × Wd → State → Prop} {ad : Nat → Nat} (C : Cx X prog_14_method_43_code "EachBringsAnotherModel") (hn : xn X = 5) (hR : xR X = rmD 4) (hr : Rt X Qf ad prog_14_method_43_code 0) : ∀ (n : Nat) (v1 v2 v3 : Int) (w : Wd), VF X Qf ad NF 0 0 w 164 [(0, (2, 44)), (1, (0, v1)), (2, (0, v2)), (3, (0, v3))] [] (f_R_goWeek_164 n v1 v2 v3 w) := by
  intro n
  induction n with
  | zero => intros; exact vf_no
  | succ n ih =>
    intro v1 v2 v3 w
    rw [f_R_goWeek_164]
    refine vf_iload_n C (f := 3) (zdg dz_R_goWeek_4 3 rfl) 3 rfl rfl ?_
    refine vf_aload_n C (f := 0) (zdg dz_R_goWeek_4 4 rfl) 0 rfl rfl ?_
    refine vf_get C (kd := 0) fl_R_144 sh_43 rfl (by decide) rfl rfl (zdg dz_R_goWeek_4 5 rfl) ?_
    refine vf_icmp_ge C (off := 24) (tgt := 193) (zdg dz_R_goWeek_4 6 rfl) (by decide) ?_ ?_
    · refine vf_aload_n C (f := 0) (zdg dz_R_goWeek_4 18 rfl) 0 rfl rfl ?_
      refine vf_getp C fl_R_29 sh_43 rfl (by decide) rfl (x := 51) rfl (zdg dz_R_goWeek_4 19 rfl) ?_
      refine vf_aload_n C (f := 0) (zdg dz_R_goWeek_4 20 rfl) 0 rfl rfl ?_
      refine vf_get C (kd := 0) fl_R_214 sh_43 rfl (by decide) rfl rfl (zdg dz_R_goWeek_4 21 rfl) ?_
      refine vf_aload_n C (f := 0) (zdg dz_R_goWeek_4 22 rfl) 0 rfl rfl ?_
      refine vf_callVi C cy_R_guests ml_R_217 rfl (ct_R_guests _) (S := [(0, w 43 8), (2, 51)]) sh_43 (by decide) rfl (jrm_of hR rfl) rfl rfl (Nat.le_of_ble_eq_true rfl) (zdg dz_R_goWeek_4 23 rfl) (fun r7 u8 => ?_)
      refine vf_iast C sh_50 (by decide) rfl (mz := 61) rfl (zdg dz_R_goWeek_5 0 rfl) ?_
      generalize st u8 50 (w 43 8).toNat r7 = u9
      refine vf_uw ?_
      refine vf_aload_n C (f := 0) (zdg dz_R_goWeek_5 1 rfl) 0 rfl rfl ?_
      refine vf_dup C (zdg dz_R_goWeek_5 2 rfl) (Nat.succ_ne_self 1) ?_
      refine vf_get C (kd := 0) fl_R_270 sh_43 rfl (by decide) rfl rfl (zdg dz_R_goWeek_5 3 rfl) ?_
      refine vf_iload_n C (f := 1) (zdg dz_R_goWeek_5 4 rfl) 1 rfl rfl ?_
      refine vf_iadd C (zdg dz_R_goWeek_5 5 rfl) ?_
      refine vf_put C (kd := 0) fl_R_270 fk_11_7 sh_43 rfl (by decide) rfl rfl (by decide) (zdg dz_R_goWeek_5 6 rfl) ?_
      generalize st u9 43 7 (w32 ((u9 43 7) + v1)) = u10
      refine vf_uw ?_
      refine vf_iload_n C (f := 1) (zdg dz_R_goWeek_5 7 rfl) 1 rfl rfl ?_
      exact hr _ _ _ _ (fun h => absurd h (by decide)) (zdg dz_R_goWeek_5 8 rfl)
    · refine vf_iload_n C (f := 2) (zdg dz_R_goWeek_4 7 rfl) 2 rfl rfl ?_
      refine vf_iload_n C (f := 3) (zdg dz_R_goWeek_4 8 rfl) 3 rfl rfl ?_
      refine vf_callSz C cy_R_has ml_R_210 (ct_R_has _ _ _) (S := []) (jrm_of hR rfl) rfl rfl (Nat.le_of_ble_eq_true rfl) (zdg dz_R_goWeek_4 9 rfl) (fun r11 u12 => ?_)
      refine vf_if_eq C (off := 10) (tgt := 187) (zdg dz_R_goWeek_4 10 rfl) (by decide) ?_ ?_
      · exact t_R_goWeek_187 C hn hR hr ih _ _ _ _
      · refine vf_aload_n C (f := 0) (zdg dz_R_goWeek_4 11 rfl) 0 rfl rfl ?_
        refine vf_getp C fl_R_20 sh_43 rfl (by decide) rfl (x := 48) rfl (zdg dz_R_goWeek_4 12 rfl) ?_
        refine vf_iload_n C (f := 3) (zdg dz_R_goWeek_4 13 rfl) 3 rfl rfl ?_
        refine vf_iconst C (z := 1) (zdg dz_R_goWeek_4 14 rfl) (jz rfl) ?_
        refine vf_iast C sh_47 (by decide) rfl (mz := 10) rfl (zdg dz_R_goWeek_4 15 rfl) ?_
        generalize st u12 47 v3.toNat 1 = u14
        refine vf_uw ?_
        exact t_R_goWeek_187 C hn hR hr ih _ _ _ _
def f_R_goWeek_156 (k44 : Int → Int → Int → Wd → Option (Int × Wd)) (v1 v2 v3 : Int) (w : Wd) : Option (Int × Wd) :=
  jlet (w32 (v3 + 1)) fun x22 =>
  k44 v1 v2 x22 w
theorem t_R_goWeek_156 {X : jX} {Qf : Int × Wd → State → Prop} {ad : Nat → Nat} (C : Cx X prog_14_method_43_code "EachBringsAnotherModel") (hn : xn X = 5) (hR : xR X = rmD 4) (hr : Rt X Qf ad prog_14_method_43_code 0) {k44 : Int → Int → Int → Wd → Option (Int × Wd)} (hk44 : ∀ (v1 v2 v3 : Int) (w : Wd), VF X Qf ad NF 0 0 w 44 [(0, (2, 44)), (1, (0, v1)), (2, (0, v2)), (3, (0, v3))] [] (k44 v1 v2 v3 w)) (v1 v2 v3 : Int) (w : Wd) : VF X Qf ad NF 0 0 w 156 [(0, (2, 44)), (1, (0, v1)), (2, (0, v2)), (3, (0, v3))] [] (f_R_goWeek_156 k44 v1 v2 v3 w) := by
  unfold f_R_goWeek_156
  refine vf_iinc C (z := 1) (L' := [(0, (2, 44)), (1, (0, v1)), (2, (0, v2))]) (zdg dz_R_goWeek_3 23 rfl) 3 rfl [0, 1, 2] (jrI rfl rfl) hn (by decide) ?_
  generalize w32 (v3 + 1) = x22
  refine vf_ul ?_
  refine vf_goto C (off := (-115)) (tgt := 44) (zdg dz_R_goWeek_4 0 rfl) (by decide) ?_
  exact vf_perm [1, 2, 3, 0] rfl (hk44 _ _ _ _)
def f_R_goWeek_44 : Nat → Int → Int → Int → Wd → Option (Int × Wd)
  | 0, _, _, _, _ => none
  | n + 1, v1, v2, v3, w =>
    if (w 43 0) ≤ v3 then
      f_R_goWeek_164 FU v1 v2 0 w
    else
      jgd ((0 : Int) ≤ v3 ∧ v3 < 10) <|
      jcall (f_R_isGuest (w 47 v3.toNat) w) fun r15 u16 =>
      if r15 = 0 then
        f_R_goWeek_156 (f_R_goWeek_44 n) v1 v2 v3 u16
      else
        jgd ((0 : Int) ≤ v3 ∧ v3 < 10) <|
        if (u16 58 v3.toNat) = (-1) then
          jgd ((0 : Int) ≤ v3 ∧ v3 < 10) <|
          jgd ((0 : Int) ≤ v3 ∧ v3 < 10) <|
          jlw (st u16 47 v3.toNat ((w32 ((u16 47 v3.toNat) + 1)))) fun u23 =>
          jgd ((0 : Int) ≤ v3 ∧ v3 < 10) <|
          if (w32 ((u23 47 v3.toNat) - 1)) < (u23 43 10) then
            f_R_goWeek_156 (f_R_goWeek_44 n) v1 v2 v3 u23
          else
            jgd ((0 : Int) ≤ v3 ∧ v3 < 10) <|
            jlw (st u23 47 v3.toNat 4) fun u24 =>
            f_R_goWeek_156 (f_R_goWeek_44 n) v1 v2 v3 u24
        else
          jgd ((0 : Int) ≤ v3 ∧ v3 < 10) <|
          jlet (u16 58 v3.toNat) fun x17 =>
          jgd ((0 : Int) ≤ v3 ∧ v3 < 10) <|
          jlw (st u16 47 v3.toNat 1) fun u18 =>
          jgd ((0 : Int) ≤ x17 ∧ x17 < 10) <|
          jlet (w32 (v1 + (u18 44 x17.toNat))) fun x19 =>
          jgd ((0 : Int) ≤ x17 ∧ x17 < 10) <|
          jlw (st u18 48 x17.toNat v3) fun u20 =>
          jgd ((0 : Int) ≤ x17 ∧ x17 < 10) <|
          jlw (st u20 49 x17.toNat ((u20 43 8))) fun u21 =>
          f_R_goWeek_156 (f_R_goWeek_44 n) x19 v2 v3 u21
theorem t_R_goWeek_44 {X : jX} {Qf : Int × Wd → State → Prop} {ad : Nat → Nat} (C : Cx X prog_14_method_43_code "EachBringsAnotherModel") (hn : xn X = 5) (hR : xR X = rmD 4) (hr : Rt X Qf ad prog_14_method_43_code 0) : ∀ (n : Nat) (v1 v2 v3 : Int) (w : Wd), VF X Qf ad NF 0 0 w 44 [(0, (2, 44)), (1, (0, v1)), (2, (0, v2)), (3, (0, v3))] [] (f_R_goWeek_44 n v1 v2 v3 w) := by
  intro n
  induction n with
  | zero => intros; exact vf_no
  | succ n ih =>
    intro v1 v2 v3 w
    rw [f_R_goWeek_44]
    refine vf_iload_n C (f := 3) (zdg dz_R_goWeek_1 3 rfl) 3 rfl rfl ?_
    refine vf_aload_n C (f := 0) (zdg dz_R_goWeek_1 4 rfl) 0 rfl rfl ?_
    refine vf_get C (kd := 0) fl_R_144 sh_43 rfl (by decide) rfl rfl (zdg dz_R_goWeek_1 5 rfl) ?_
    refine vf_icmp_ge C (off := 113) (tgt := 162) (zdg dz_R_goWeek_1 6 rfl) (by decide) ?_ ?_
    · refine vf_iconst C (z := 0) (zdg dz_R_goWeek_4 1 rfl) (jz rfl) ?_
      refine vf_istore_n C (f := 3) (L' := [(0, (2, 44)), (1, (0, v1)), (2, (0, v2))]) (zdg dz_R_goWeek_4 2 rfl) [0, 1, 2] (jrI rfl rfl) hn (by decide) rfl ?_
      exact vf_perm [1, 2, 3, 0] rfl (t_R_goWeek_164 C hn hR hr FU _ _ _ _)
    · refine vf_aload_n C (f := 0) (zdg dz_R_goWeek_1 7 rfl) 0 rfl rfl ?_
      refine vf_getp C fl_R_20 sh_43 rfl (by decide) rfl (x := 48) rfl (zdg dz_R_goWeek_1 8 rfl) ?_
      refine vf_iload_n C (f := 3) (zdg dz_R_goWeek_1 9 rfl) 3 rfl rfl ?_
      refine vf_iald C sh_47 (by decide) rfl (mz := 10) rfl (zdg dz_R_goWeek_1 10 rfl) ?_
      refine vf_callSz C cy_R_isGuest ml_R_256 (ct_R_isGuest _ _) (S := []) (jrm_of hR rfl) rfl rfl (Nat.le_of_ble_eq_true rfl) (zdg dz_R_goWeek_1 11 rfl) (fun r15 u16 => ?_)
      refine vf_if_ne C (off := 6) (tgt := 67) (zdg dz_R_goWeek_1 12 rfl) (by decide) ?_ ?_
      · refine vf_aload_n C (f := 0) (zdg dz_R_goWeek_1 14 rfl) 0 rfl rfl ?_
        refine vf_getp C fl_R_64 sh_43 rfl (by decide) rfl (x := 59) rfl (zdg dz_R_goWeek_1 15 rfl) ?_
        refine vf_iload_n C (f := 3) (zdg dz_R_goWeek_1 16 rfl) 3 rfl rfl ?_
        refine vf_iald C sh_58 (by decide) rfl (mz := 10) rfl (zdg dz_R_goWeek_1 17 rfl) ?_
        refine vf_iconst C (z := (-1)) (zdg dz_R_goWeek_1 18 rfl) (jz rfl) ?_
        refine vf_icmp_ne C (off := 38) (tgt := 112) (zdg dz_R_goWeek_1 19 rfl) (by decide) ?_ ?_
        · refine vf_aload_n C (f := 0) (zdg dz_R_goWeek_2 19 rfl) 0 rfl rfl ?_
          refine vf_getp C fl_R_64 sh_43 rfl (by decide) rfl (x := 59) rfl (zdg dz_R_goWeek_2 20 rfl) ?_
          refine vf_iload_n C (f := 3) (zdg dz_R_goWeek_2 21 rfl) 3 rfl rfl ?_
          refine vf_iald C sh_58 (by decide) rfl (mz := 10) rfl (zdg dz_R_goWeek_2 22 rfl) ?_
          generalize u16 58 v3.toNat = x17
          refine vf_ul ?_
          refine vf_istore C (i := 4) (L' := [(0, (2, 44)), (1, (0, v1)), (2, (0, v2)), (3, (0, v3))]) (zdg dz_R_goWeek_2 23 rfl) [0, 1, 2, 3] (jrI rfl rfl) hn (by decide) ?_
          refine vf_aload_n C (f := 0) (zdg dz_R_goWeek_3 0 rfl) 1 rfl rfl ?_
          refine vf_getp C fl_R_20 sh_43 rfl (by decide) rfl (x := 48) rfl (zdg dz_R_goWeek_3 1 rfl) ?_
          refine vf_iload_n C (f := 3) (zdg dz_R_goWeek_3 2 rfl) 4 rfl rfl ?_
          refine vf_iconst C (z := 1) (zdg dz_R_goWeek_3 3 rfl) (jz rfl) ?_
          refine vf_iast C sh_47 (by decide) rfl (mz := 10) rfl (zdg dz_R_goWeek_3 4 rfl) ?_
          generalize st u16 47 v3.toNat 1 = u18
          refine vf_uw ?_
          refine vf_iload_n C (f := 1) (zdg dz_R_goWeek_3 5 rfl) 2 rfl rfl ?_
          refine vf_aload_n C (f := 0) (zdg dz_R_goWeek_3 6 rfl) 1 rfl rfl ?_
          refine vf_getp C fl_R_9 sh_43 rfl (by decide) rfl (x := 45) rfl (zdg dz_R_goWeek_3 7 rfl) ?_
          refine vf_iload C (zdg dz_R_goWeek_3 8 rfl) 0 rfl ?_
          refine vf_iald C sh_44 (by decide) rfl (mz := 10) rfl (zdg dz_R_goWeek_3 9 rfl) ?_
          refine vf_iadd C (zdg dz_R_goWeek_3 10 rfl) ?_
          generalize w32 (v1 + (u18 44 x17.toNat)) = x19
          refine vf_ul ?_
          refine vf_istore_n C (f := 1) (L' := [(4, (0, x17)), (0, (2, 44)), (2, (0, v2)), (3, (0, v3))]) (zdg dz_R_goWeek_3 11 rfl) [0, 1, 3, 4] (jrI rfl rfl) hn (by decide) rfl ?_
          refine vf_aload_n C (f := 0) (zdg dz_R_goWeek_3 12 rfl) 2 rfl rfl ?_
          refine vf_getp C fl_R_23 sh_43 rfl (by decide) rfl (x := 49) rfl (zdg dz_R_goWeek_3 13 rfl) ?_
          refine vf_iload C (zdg dz_R_goWeek_3 14 rfl) 1 rfl ?_
          refine vf_iload_n C (f := 3) (zdg dz_R_goWeek_3 15 rfl) 4 rfl rfl ?_
          refine vf_iast C sh_48 (by decide) rfl (mz := 10) rfl (zdg dz_R_goWeek_3 16 rfl) ?_
          generalize st u18 48 x17.toNat v3 = u20
          refine vf_uw ?_
          refine vf_aload_n C (f := 0) (zdg dz_R_goWeek_3 17 rfl) 2 rfl rfl ?_
          refine vf_getp C fl_R_26 sh_43 rfl (by decide) rfl (x := 50) rfl (zdg dz_R_goWeek_3 18 rfl) ?_
          refine vf_iload C (zdg dz_R_goWeek_3 19 rfl) 1 rfl ?_
          refine vf_aload_n C (f := 0) (zdg dz_R_goWeek_3 20 rfl) 2 rfl rfl ?_
          refine vf_get C (kd := 0) fl_R_214 sh_43 rfl (by decide) rfl rfl (zdg dz_R_goWeek_3 21 rfl) ?_
          refine vf_iast C sh_49 (by decide) rfl (mz := 10) rfl (zdg dz_R_goWeek_3 22 rfl) ?_
          generalize st u20 49 x17.toNat ((u20 43 8)) = u21
          refine vf_uw ?_
          exact vf_perm [2, 0, 3, 4] rfl (t_R_goWeek_156 C hn hR hr ih _ _ _ _)
        · refine vf_aload_n C (f := 0) (zdg dz_R_goWeek_1 20 rfl) 0 rfl rfl ?_
          refine vf_getp C fl_R_20 sh_43 rfl (by decide) rfl (x := 48) rfl (zdg dz_R_goWeek_1 21 rfl) ?_
          refine vf_iload_n C (f := 3) (zdg dz_R_goWeek_1 22 rfl) 3 rfl rfl ?_
          refine vf_dup2 C (zdg dz_R_goWeek_1 23 rfl) Nat.zero_ne_one (Nat.succ_ne_self 1) ?_
          refine vf_iald C sh_47 (by decide) rfl (mz := 10) rfl (zdg dz_R_goWeek_2 0 rfl) ?_
          refine vf_iconst C (z := 1) (zdg dz_R_goWeek_2 1 rfl) (jz rfl) ?_
          refine vf_iadd C (zdg dz_R_goWeek_2 2 rfl) ?_
          refine vf_iast C sh_47 (by decide) rfl (mz := 10) rfl (zdg dz_R_goWeek_2 3 rfl) ?_
          generalize st u16 47 v3.toNat ((w32 ((u16 47 v3.toNat) + 1))) = u23
          refine vf_uw ?_
          refine vf_aload_n C (f := 0) (zdg dz_R_goWeek_2 4 rfl) 0 rfl rfl ?_
          refine vf_getp C fl_R_20 sh_43 rfl (by decide) rfl (x := 48) rfl (zdg dz_R_goWeek_2 5 rfl) ?_
          refine vf_iload_n C (f := 3) (zdg dz_R_goWeek_2 6 rfl) 3 rfl rfl ?_
          refine vf_iald C sh_47 (by decide) rfl (mz := 10) rfl (zdg dz_R_goWeek_2 7 rfl) ?_
          refine vf_iconst C (z := 1) (zdg dz_R_goWeek_2 8 rfl) (jz rfl) ?_
          refine vf_isub C (zdg dz_R_goWeek_2 9 rfl) ?_
          refine vf_aload_n C (f := 0) (zdg dz_R_goWeek_2 10 rfl) 0 rfl rfl ?_
          refine vf_get C (kd := 0) fl_R_32 sh_43 rfl (by decide) rfl rfl (zdg dz_R_goWeek_2 11 rfl) ?_
          refine vf_icmp_lt C (off := 57) (tgt := 156) (zdg dz_R_goWeek_2 12 rfl) (by decide) ?_ ?_
          · exact t_R_goWeek_156 C hn hR hr ih _ _ _ _
          · refine vf_aload_n C (f := 0) (zdg dz_R_goWeek_2 13 rfl) 0 rfl rfl ?_
            refine vf_getp C fl_R_20 sh_43 rfl (by decide) rfl (x := 48) rfl (zdg dz_R_goWeek_2 14 rfl) ?_
            refine vf_iload_n C (f := 3) (zdg dz_R_goWeek_2 15 rfl) 3 rfl rfl ?_
            refine vf_iconst C (z := 4) (zdg dz_R_goWeek_2 16 rfl) (jz rfl) ?_
            refine vf_iast C sh_47 (by decide) rfl (mz := 10) rfl (zdg dz_R_goWeek_2 17 rfl) ?_
            generalize st u23 47 v3.toNat 4 = u24
            refine vf_uw ?_
            refine vf_goto C (off := 47) (tgt := 156) (zdg dz_R_goWeek_2 18 rfl) (by decide) ?_
            exact t_R_goWeek_156 C hn hR hr ih _ _ _ _
      · refine vf_goto C (off := 92) (tgt := 156) (zdg dz_R_goWeek_1 13 rfl) (by decide) ?_
        exact t_R_goWeek_156 C hn hR hr ih _ _ _ _
def f_R_goWeek (w : Wd) : Option (Int × Wd) :=
  jcall (f_R_lay_43_59 (w32 (31 * (w 43 32))) w) fun r1 u2 =>
  jlw (st u2 43 32 (w32 ((u2 43 32) + 1))) fun u3 =>
  jlw (st u3 43 8 (w32 ((u3 43 8) + 1))) fun u4 =>
  jcall (f_R_broughtNow u4) fun r5 u6 =>
  f_R_goWeek_44 FU 0 r5 0 u6
theorem ct_R_goWeek (w : Wd) : Ct y_R_goWeek prog_14_method_43_code 5 (some .int) 4 0 [(2, 44)] w (f_R_goWeek w) := by
  refine ct_of (by decide +kernel) (Or.inl ⟨rfl, rfl⟩) (Nat.le_of_ble_eq_true rfl) ?_
  intro X Qf ad C hn hR hr
  unfold f_R_goWeek
  show VF X Qf ad NF 0 0 w 0 [(0, (2, 44))] [] _
  refine vf_aload_n C (f := 0) (zdg dz_R_goWeek_0 0 rfl) 0 rfl rfl ?_
  refine vf_aload_n C (f := 0) (zdg dz_R_goWeek_0 1 rfl) 0 rfl rfl ?_
  refine vf_getp C fl_R_67 sh_43 rfl (by decide) rfl (x := 60) rfl (zdg dz_R_goWeek_0 2 rfl) ?_
  refine vf_bipush C (z := 31) (zdg dz_R_goWeek_0 3 rfl) (by decide +kernel) (jz rfl) ?_
  refine vf_aload_n C (f := 0) (zdg dz_R_goWeek_0 4 rfl) 0 rfl rfl ?_
  refine vf_get C (kd := 0) fl_R_220 sh_43 rfl (by decide) rfl rfl (zdg dz_R_goWeek_0 5 rfl) ?_
  refine vf_imul C (zdg dz_R_goWeek_0 6 rfl) ?_
  refine vf_callVv C cy_R_lay ml_R_273 rfl (ct_R_lay_43_59 _ _) (S := []) sh_43 (by decide) rfl (jrm_of hR rfl) rfl rfl (Nat.le_of_ble_eq_true rfl) (zdg dz_R_goWeek_0 7 rfl) (fun r1 u2 => ?_)
  refine vf_aload_n C (f := 0) (zdg dz_R_goWeek_0 8 rfl) 0 rfl rfl ?_
  refine vf_dup C (zdg dz_R_goWeek_0 9 rfl) (Nat.succ_ne_self 1) ?_
  refine vf_get C (kd := 0) fl_R_220 sh_43 rfl (by decide) rfl rfl (zdg dz_R_goWeek_0 10 rfl) ?_
  refine vf_iconst C (z := 1) (zdg dz_R_goWeek_0 11 rfl) (jz rfl) ?_
  refine vf_iadd C (zdg dz_R_goWeek_0 12 rfl) ?_
  refine vf_put C (kd := 0) fl_R_220 fk_11_32 sh_43 rfl (by decide) rfl rfl (by decide) (zdg dz_R_goWeek_0 13 rfl) ?_
  generalize st u2 43 32 (w32 ((u2 43 32) + 1)) = u3
  refine vf_uw ?_
  refine vf_aload_n C (f := 0) (zdg dz_R_goWeek_0 14 rfl) 0 rfl rfl ?_
  refine vf_dup C (zdg dz_R_goWeek_0 15 rfl) (Nat.succ_ne_self 1) ?_
  refine vf_get C (kd := 0) fl_R_214 sh_43 rfl (by decide) rfl rfl (zdg dz_R_goWeek_0 16 rfl) ?_
  refine vf_iconst C (z := 1) (zdg dz_R_goWeek_0 17 rfl) (jz rfl) ?_
  refine vf_iadd C (zdg dz_R_goWeek_0 18 rfl) ?_
  refine vf_put C (kd := 0) fl_R_214 fk_11_8 sh_43 rfl (by decide) rfl rfl (by decide) (zdg dz_R_goWeek_0 19 rfl) ?_
  generalize st u3 43 8 (w32 ((u3 43 8) + 1)) = u4
  refine vf_uw ?_
  refine vf_iconst C (z := 0) (zdg dz_R_goWeek_0 20 rfl) (jz rfl) ?_
  refine vf_istore_n C (f := 1) (L' := [(0, (2, 44))]) (zdg dz_R_goWeek_0 21 rfl) [0] (jrI rfl rfl) hn (by decide) rfl ?_
  refine vf_aload_n C (f := 0) (zdg dz_R_goWeek_0 22 rfl) 1 rfl rfl ?_
  refine vf_callVi C cy_R_broughtNow ml_R_277 rfl (ct_R_broughtNow _) (S := []) sh_43 (by decide) rfl (jrm_of hR rfl) rfl rfl (Nat.le_of_ble_eq_true rfl) (zdg dz_R_goWeek_0 23 rfl) (fun r5 u6 => ?_)
  refine vf_istore_n C (f := 2) (L' := [(1, (0, 0)), (0, (2, 44))]) (zdg dz_R_goWeek_1 0 rfl) [0, 1] (jrI rfl rfl) hn (by decide) rfl ?_
  refine vf_iconst C (z := 0) (zdg dz_R_goWeek_1 1 rfl) (jz rfl) ?_
  refine vf_istore_n C (f := 3) (L' := [(2, (0, r5)), (1, (0, 0)), (0, (2, 44))]) (zdg dz_R_goWeek_1 2 rfl) [0, 1, 2] (jrI rfl rfl) hn (by decide) rfl ?_
  exact vf_perm [3, 2, 1, 0] rfl (t_R_goWeek_44 C hn hR hr FU _ _ _ _)
def f_R_readLetter (w : Wd) : Option (Int × Wd) :=
  jcall (f_R_fine w) fun r1 u2 =>
  if r1 = 0 then
    some (0, u2)
  else
    jcall (f_R_here u2) fun r3 u4 =>
    jcall (f_R_in r3 97 106 u4) fun r5 u6 =>
    if r5 = 0 then
      jcall (f_R_fault (u6 43 20) u6) fun r8 u9 =>
      some (0, u9)
    else
      jlw (st u6 43 20 (w32 ((u6 43 20) + 1))) fun u7 =>
      if (u7 43 17) = 52 then
        jgd ((0 : Int) ≤ (w32 ((u7 43 20) - 1)) ∧ (w32 ((u7 43 20) - 1)) < 80) <|
        some (w32 ((u7 51 (w32 ((u7 43 20) - 1)).toNat) - 97), u7)
      else
      if (u7 43 17) = 58 then
        jgd ((0 : Int) ≤ (w32 ((u7 43 20) - 1)) ∧ (w32 ((u7 43 20) - 1)) < 40) <|
        some (w32 ((u7 57 (w32 ((u7 43 20) - 1)).toNat) - 97), u7)
      else
      none
theorem ct_R_readLetter (w : Wd) : Ct y_R_readLetter prog_14_method_45_code 1 (some .int) 3 0 [(2, 44)] w (f_R_readLetter w) := by
  refine ct_of (by decide +kernel) (Or.inl ⟨rfl, rfl⟩) (Nat.le_of_ble_eq_true rfl) ?_
  intro X Qf ad C hn hR hr
  unfold f_R_readLetter
  show VF X Qf ad NF 0 0 w 0 [(0, (2, 44))] [] _
  refine vf_aload_n C (f := 0) (zdg dz_R_readLetter_0 0 rfl) 0 rfl rfl ?_
  refine vf_callVz C cy_R_fine ml_R_181 rfl (ct_R_fine _) (S := []) sh_43 (by decide) rfl (jrm_of hR rfl) rfl rfl (Nat.le_of_ble_eq_true rfl) (zdg dz_R_readLetter_0 1 rfl) (fun r1 u2 => ?_)
  refine vf_if_ne C (off := 5) (tgt := 9) (zdg dz_R_readLetter_0 2 rfl) (by decide) ?_ ?_
  · refine vf_aload_n C (f := 0) (zdg dz_R_readLetter_0 5 rfl) 0 rfl rfl ?_
    refine vf_callVi C cy_R_here ml_R_185 rfl (ct_R_here _) (S := []) sh_43 (by decide) rfl (jrm_of hR rfl) rfl rfl (Nat.le_of_ble_eq_true rfl) (zdg dz_R_readLetter_0 6 rfl) (fun r3 u4 => ?_)
    refine vf_bipush C (z := 97) (zdg dz_R_readLetter_0 7 rfl) (by decide +kernel) (jz rfl) ?_
    refine vf_bipush C (z := 106) (zdg dz_R_readLetter_0 8 rfl) (by decide +kernel) (jz rfl) ?_
    refine vf_callSz C cy_R_in ml_R_147 (ct_R_in _ _ _ _) (S := []) (jrm_of hR rfl) rfl rfl (Nat.le_of_ble_eq_true rfl) (zdg dz_R_readLetter_0 9 rfl) (fun r5 u6 => ?_)
    refine vf_if_ne C (off := 13) (tgt := 33) (zdg dz_R_readLetter_0 10 rfl) (by decide) ?_ ?_
    · refine vf_aload_n C (f := 0) (zdg dz_R_readLetter_0 17 rfl) 0 rfl rfl ?_
      refine vf_dup C (zdg dz_R_readLetter_0 18 rfl) (Nat.succ_ne_self 1) ?_
      refine vf_get C (kd := 0) fl_R_175 sh_43 rfl (by decide) rfl rfl (zdg dz_R_readLetter_0 19 rfl) ?_
      refine vf_iconst C (z := 1) (zdg dz_R_readLetter_0 20 rfl) (jz rfl) ?_
      refine vf_iadd C (zdg dz_R_readLetter_0 21 rfl) ?_
      refine vf_put C (kd := 0) fl_R_175 fk_11_20 sh_43 rfl (by decide) rfl rfl (by decide) (zdg dz_R_readLetter_0 22 rfl) ?_
      generalize st u6 43 20 (w32 ((u6 43 20) + 1)) = u7
      refine vf_uw ?_
      refine vf_aload_n C (f := 0) (zdg dz_R_readLetter_0 23 rfl) 0 rfl rfl ?_
      refine vf_get C (kd := 2) fl_R_166 sh_43 rfl (by decide) rfl rfl (zdg dz_R_readLetter_1 0 rfl) ?_
      refine vf_aload_n C (f := 0) (zdg dz_R_readLetter_1 1 rfl) 0 rfl rfl ?_
      refine vf_get C (kd := 0) fl_R_175 sh_43 rfl (by decide) rfl rfl (zdg dz_R_readLetter_1 2 rfl) ?_
      refine vf_iconst C (z := 1) (zdg dz_R_readLetter_1 3 rfl) (jz rfl) ?_
      refine vf_isub C (zdg dz_R_readLetter_1 4 rfl) ?_
      refine vf_if _ (fun hq51 => ?_) (fun _ => ?_)
      · refine vf_bald C sh_51 (by decide) hq51 (mz := 80) rfl (zdg dz_R_readLetter_1 5 rfl) ?_
        refine vf_bipush C (z := 97) (zdg dz_R_readLetter_1 6 rfl) (by decide +kernel) (jz rfl) ?_
        refine vf_isub C (zdg dz_R_readLetter_1 7 rfl) ?_
        exact hr _ _ _ _ (fun h => absurd h (by decide)) (zdg dz_R_readLetter_1 8 rfl)
      refine vf_if _ (fun hq57 => ?_) (fun _ => ?_)
      · refine vf_bald C sh_57 (by decide) hq57 (mz := 40) rfl (zdg dz_R_readLetter_1 5 rfl) ?_
        refine vf_bipush C (z := 97) (zdg dz_R_readLetter_1 6 rfl) (by decide +kernel) (jz rfl) ?_
        refine vf_isub C (zdg dz_R_readLetter_1 7 rfl) ?_
        exact hr _ _ _ _ (fun h => absurd h (by decide)) (zdg dz_R_readLetter_1 8 rfl)
      exact vf_no
    · refine vf_aload_n C (f := 0) (zdg dz_R_readLetter_0 11 rfl) 0 rfl rfl ?_
      refine vf_aload_n C (f := 0) (zdg dz_R_readLetter_0 12 rfl) 0 rfl rfl ?_
      refine vf_get C (kd := 0) fl_R_175 sh_43 rfl (by decide) rfl rfl (zdg dz_R_readLetter_0 13 rfl) ?_
      refine vf_callVv C cy_R_fault ml_R_192 rfl (ct_R_fault _ _) (S := []) sh_43 (by decide) rfl (jrm_of hR rfl) rfl rfl (Nat.le_of_ble_eq_true rfl) (zdg dz_R_readLetter_0 14 rfl) (fun r8 u9 => ?_)
      refine vf_iconst C (z := 0) (zdg dz_R_readLetter_0 15 rfl) (jz rfl) ?_
      exact hr _ _ _ _ (fun h => absurd h (by decide)) (zdg dz_R_readLetter_0 16 rfl)
  · refine vf_iconst C (z := 0) (zdg dz_R_readLetter_0 3 rfl) (jz rfl) ?_
    exact hr _ _ _ _ (fun h => absurd h (by decide)) (zdg dz_R_readLetter_0 4 rfl)
def f_R_week_305 (w : Wd) : Option (Int × Wd) :=
  jcall (f_R_goWeek w) fun r9 u10 =>
  some (r9, u10)
theorem t_R_week_305 {X : jX} {Qf : Int × Wd → State → Prop} {ad : Nat → Nat} (C : Cx X prog_14_method_44_code "EachBringsAnotherModel") (hn : xn X = 7) (hR : xR X = rmD 5) (hr : Rt X Qf ad prog_14_method_44_code 0) (w : Wd) : VF X Qf ad NF 0 0 w 305 [(0, (2, 44))] [] (f_R_week_305 w) := by
  unfold f_R_week_305
  refine vf_aload_n C (f := 0) (zdg dz_R_week_6 12 rfl) 0 rfl rfl ?_
  refine vf_callVi C cy_R_goWeek ml_R_292 rfl (ct_R_goWeek _) (S := []) sh_43 (by decide) rfl (jrm_of hR rfl) rfl rfl (Nat.le_of_ble_eq_true rfl) (zdg dz_R_week_6 13 rfl) (fun r9 u10 => ?_)
  exact hr _ _ _ _ (fun h => absurd h (by decide)) (zdg dz_R_week_6 14 rfl)
def f_R_week_259 (k152 : Int → Int → Wd → Option (Int × Wd)) (v1 v3 v4 v5 s0 : Int) (w : Wd) : Option (Int × Wd) :=
  if s0 = 0 then
    some (w32 ((-100) - v3), w)
  else
    jgd ((0 : Int) ≤ v4 ∧ v4 < 10) <|
    jlw (st w 58 v4.toNat v5) fun u17 =>
    jlet (w32 (v3 + 1)) fun x18 =>
    k152 v1 x18 u17
theorem t_R_week_259 {X : jX} {Qf : Int × Wd → State → Prop} {ad : Nat → Nat} (C : Cx X prog_14_method_44_code "EachBringsAnotherModel") (hn : xn X = 7) (hR : xR X = rmD 5) (hr : Rt X Qf ad prog_14_method_44_code 0) {k152 : Int → Int → Wd → Option (Int × Wd)} (hk152 : ∀ (v1 v3 : Int) (w : Wd), VF X Qf ad NF 0 0 w 152 [(0, (2, 44)), (1, (0, v1)), (3, (0, v3))] [] (k152 v1 v3 w)) (v1 v3 v4 v5 s0 : Int) (w : Wd) : VF X Qf ad NF 0 0 w 259 [(0, (2, 44)), (1, (0, v1)), (3, (0, v3)), (4, (0, v4)), (5, (0, v5))] [(0, s0)] (f_R_week_259 k152 v1 v3 v4 v5 s0 w) := by
  unfold f_R_week_259
  refine vf_istore C (i := 6) (L' := [(0, (2, 44)), (1, (0, v1)), (3, (0, v3)), (4, (0, v4)), (5, (0, v5))]) (zdg dz_R_week_5 13 rfl) [0, 1, 2, 3, 4] (jrI rfl rfl) hn (by decide) ?_
  refine vf_iload C (zdg dz_R_week_5 14 rfl) 0 rfl ?_
  refine vf_if_ne C (off := 8) (tgt := 271) (zdg dz_R_week_5 15 rfl) (by decide) ?_ ?_
  · refine vf_aload_n C (f := 0) (zdg dz_R_week_5 20 rfl) 1 rfl rfl ?_
    refine vf_getp C fl_R_64 sh_43 rfl (by decide) rfl (x := 59) rfl (zdg dz_R_week_5 21 rfl) ?_
    refine vf_iload C (zdg dz_R_week_5 22 rfl) 4 rfl ?_
    refine vf_iload C (zdg dz_R_week_5 23 rfl) 5 rfl ?_
    refine vf_iast C sh_58 (by decide) rfl (mz := 10) rfl (zdg dz_R_week_6 0 rfl) ?_
    generalize st w 58 v4.toNat v5 = u17
    refine vf_uw ?_
    refine vf_iinc C (z := 1) (L' := [(0, (2, 44)), (1, (0, v1))]) (zdg dz_R_week_6 1 rfl) 3 rfl [1, 2] (jrI rfl rfl) hn (by decide) ?_
    generalize w32 (v3 + 1) = x18
    refine vf_ul ?_
    refine vf_goto C (off := (-131)) (tgt := 152) (zdg dz_R_week_6 2 rfl) (by decide) ?_
    exact vf_perm [1, 2, 0] rfl (hk152 _ _ _)
  · refine vf_bipush C (z := (-100)) (zdg dz_R_week_5 16 rfl) (by decide +kernel) (jz rfl) ?_
    refine vf_iload_n C (f := 3) (zdg dz_R_week_5 17 rfl) 3 rfl rfl ?_
    refine vf_isub C (zdg dz_R_week_5 18 rfl) ?_
    exact hr _ _ _ _ (fun h => absurd h (by decide)) (zdg dz_R_week_5 19 rfl)
def f_R_week_258 (k152 : Int → Int → Wd → Option (Int × Wd)) (v1 v3 v4 v5 : Int) (w : Wd) : Option (Int × Wd) :=
  f_R_week_259 k152 v1 v3 v4 v5 0 w
theorem t_R_week_258 {X : jX} {Qf : Int × Wd → State → Prop} {ad : Nat → Nat} (C : Cx X prog_14_method_44_code "EachBringsAnotherModel") (hn : xn X = 7) (hR : xR X = rmD 5) (hr : Rt X Qf ad prog_14_method_44_code 0) {k152 : Int → Int → Wd → Option (Int × Wd)} (hk152 : ∀ (v1 v3 : Int) (w : Wd), VF X Qf ad NF 0 0 w 152 [(0, (2, 44)), (1, (0, v1)), (3, (0, v3))] [] (k152 v1 v3 w)) (v1 v3 v4 v5 : Int) (w : Wd) : VF X Qf ad NF 0 0 w 258 [(0, (2, 44)), (1, (0, v1)), (3, (0, v3)), (4, (0, v4)), (5, (0, v5))] [] (f_R_week_258 k152 v1 v3 v4 v5 w) := by
  unfold f_R_week_258
  refine vf_iconst C (z := 0) (zdg dz_R_week_5 12 rfl) (jz rfl) ?_
  exact t_R_week_259 C hn hR hr hk152 _ _ _ _ _ _
def f_R_week_152 : Nat → Int → Int → Wd → Option (Int × Wd)
  | 0, _, _, _ => none
  | n + 1, v1, v3, w =>
    if v1 ≤ v3 then
      if v1 ≤ 0 then
        f_R_week_305 w
      else
        jcall (f_R_guestsThen w) fun r11 u12 =>
        if r11 ≤ (u12 43 11) then
          f_R_week_305 u12
        else
          some ((-200), u12)
    else
      jgd ((0 : Int) ≤ v3 ∧ v3 < 40) <|
      jlet (w 60 v3.toNat) fun x13 =>
      jgd ((0 : Int) ≤ v3 ∧ v3 < 40) <|
      jlet (w 61 v3.toNat) fun x14 =>
      jcall (f_R_isOne x13 w) fun r15 u16 =>
      if r15 = 0 then
        f_R_week_258 (f_R_week_152 n) v1 v3 x13 x14 u16
      else
        jgd ((0 : Int) ≤ x13 ∧ x13 < 10) <|
        jcall (f_R_isGuest (u16 47 x13.toNat) u16) fun r19 u20 =>
        if r19 = 0 then
          f_R_week_258 (f_R_week_152 n) v1 v3 x13 x14 u20
        else
          jgd ((0 : Int) ≤ x13 ∧ x13 < 10) <|
          if (u20 58 x13.toNat) = (-1) then
            jcall (f_R_isOne x14 u20) fun r21 u22 =>
            if r21 = 0 then
              f_R_week_258 (f_R_week_152 n) v1 v3 x13 x14 u22
            else
              jcall (f_R_free u22) fun r23 u24 =>
              jcall (f_R_has r23 x14 u24) fun r25 u26 =>
              if r25 = 0 then
                f_R_week_258 (f_R_week_152 n) v1 v3 x13 x14 u26
              else
                jgd ((0 : Int) ≤ x13 ∧ x13 < 10) <|
                jcall (f_R_has (u26 45 x13.toNat) x14 u26) fun r27 u28 =>
                if r27 = 0 then
                  f_R_week_258 (f_R_week_152 n) v1 v3 x13 x14 u28
                else
                  jcall (f_R_broughtNow u28) fun r29 u30 =>
                  jcall (f_R_has r29 x14 u30) fun r31 u32 =>
                  if r31 = 0 then
                    f_R_week_259 (f_R_week_152 n) v1 v3 x13 x14 1 u32
                  else
                    f_R_week_258 (f_R_week_152 n) v1 v3 x13 x14 u32
          else
            f_R_week_258 (f_R_week_152 n) v1 v3 x13 x14 u20
theorem t_R_week_152 {X : jX} {Qf : Int × Wd → State → Prop} {ad : Nat → Nat} (C : Cx X prog_14_method_44_code "EachBringsAnotherModel") (hn : xn X = 7) (hR : xR X = rmD 5) (hr : Rt X Qf ad prog_14_method_44_code 0) : ∀ (n : Nat) (v1 v3 : Int) (w : Wd), VF X Qf ad NF 0 0 w 152 [(0, (2, 44)), (1, (0, v1)), (3, (0, v3))] [] (f_R_week_152 n v1 v3 w) := by
  intro n
  induction n with
  | zero => intros; exact vf_no
  | succ n ih =>
    intro v1 v3 w
    rw [f_R_week_152]
    refine vf_iload_n C (f := 3) (zdg dz_R_week_3 8 rfl) 2 rfl rfl ?_
    refine vf_iload_n C (f := 1) (zdg dz_R_week_3 9 rfl) 1 rfl rfl ?_
    refine vf_icmp_ge C (off := 132) (tgt := 286) (zdg dz_R_week_3 10 rfl) (by decide) ?_ ?_
    · refine vf_iload_n C (f := 1) (zdg dz_R_week_6 3 rfl) 1 rfl rfl ?_
      refine vf_if_le C (off := 18) (tgt := 305) (zdg dz_R_week_6 4 rfl) (by decide) ?_ ?_
      · exact vf_perm [0] rfl (t_R_week_305 C hn hR hr _)
      · refine vf_aload_n C (f := 0) (zdg dz_R_week_6 5 rfl) 0 rfl rfl ?_
        refine vf_callVi C cy_R_guestsThen ml_R_289 rfl (ct_R_guestsThen _) (S := []) sh_43 (by decide) rfl (jrm_of hR rfl) rfl rfl (Nat.le_of_ble_eq_true rfl) (zdg dz_R_week_6 6 rfl) (fun r11 u12 => ?_)
        refine vf_aload_n C (f := 0) (zdg dz_R_week_6 7 rfl) 0 rfl rfl ?_
        refine vf_get C (kd := 0) fl_R_36 sh_43 rfl (by decide) rfl rfl (zdg dz_R_week_6 8 rfl) ?_
        refine vf_icmp_le C (off := 7) (tgt := 305) (zdg dz_R_week_6 9 rfl) (by decide) ?_ ?_
        · exact vf_perm [0] rfl (t_R_week_305 C hn hR hr _)
        · refine vf_sipush C (z := (-200)) (zdg dz_R_week_6 10 rfl) (by decide +kernel) (jz rfl) ?_
          exact hr _ _ _ _ (fun h => absurd h (by decide)) (zdg dz_R_week_6 11 rfl)
    · refine vf_aload_n C (f := 0) (zdg dz_R_week_3 11 rfl) 0 rfl rfl ?_
      refine vf_getp C fl_R_70 sh_43 rfl (by decide) rfl (x := 61) rfl (zdg dz_R_week_3 12 rfl) ?_
      refine vf_iload_n C (f := 3) (zdg dz_R_week_3 13 rfl) 2 rfl rfl ?_
      refine vf_iald C sh_60 (by decide) rfl (mz := 40) rfl (zdg dz_R_week_3 14 rfl) ?_
      generalize w 60 v3.toNat = x13
      refine vf_ul ?_
      refine vf_istore C (i := 4) (L' := [(0, (2, 44)), (1, (0, v1)), (3, (0, v3))]) (zdg dz_R_week_3 15 rfl) [0, 1, 2] (jrI rfl rfl) hn (by decide) ?_
      refine vf_aload_n C (f := 0) (zdg dz_R_week_3 16 rfl) 1 rfl rfl ?_
      refine vf_getp C fl_R_73 sh_43 rfl (by decide) rfl (x := 62) rfl (zdg dz_R_week_3 17 rfl) ?_
      refine vf_iload_n C (f := 3) (zdg dz_R_week_3 18 rfl) 3 rfl rfl ?_
      refine vf_iald C sh_61 (by decide) rfl (mz := 40) rfl (zdg dz_R_week_3 19 rfl) ?_
      generalize w 61 v3.toNat = x14
      refine vf_ul ?_
      refine vf_istore C (i := 5) (L' := [(4, (0, x13)), (0, (2, 44)), (1, (0, v1)), (3, (0, v3))]) (zdg dz_R_week_3 20 rfl) [0, 1, 2, 3] (jrI rfl rfl) hn (by decide) ?_
      refine vf_aload_n C (f := 0) (zdg dz_R_week_3 21 rfl) 2 rfl rfl ?_
      refine vf_iload C (zdg dz_R_week_3 22 rfl) 1 rfl ?_
      refine vf_callVz C cy_R_isOne ml_R_151 rfl (ct_R_isOne _ _) (S := []) sh_43 (by decide) rfl (jrm_of hR rfl) rfl rfl (Nat.le_of_ble_eq_true rfl) (zdg dz_R_week_3 23 rfl) (fun r15 u16 => ?_)
      refine vf_if_eq C (off := 79) (tgt := 258) (zdg dz_R_week_4 0 rfl) (by decide) ?_ ?_
      · exact vf_perm [2, 3, 4, 1, 0] rfl (t_R_week_258 C hn hR hr ih _ _ _ _ _)
      · refine vf_aload_n C (f := 0) (zdg dz_R_week_4 1 rfl) 2 rfl rfl ?_
        refine vf_getp C fl_R_20 sh_43 rfl (by decide) rfl (x := 48) rfl (zdg dz_R_week_4 2 rfl) ?_
        refine vf_iload C (zdg dz_R_week_4 3 rfl) 1 rfl ?_
        refine vf_iald C sh_47 (by decide) rfl (mz := 10) rfl (zdg dz_R_week_4 4 rfl) ?_
        refine vf_callSz C cy_R_isGuest ml_R_256 (ct_R_isGuest _ _) (S := []) (jrm_of hR rfl) rfl rfl (Nat.le_of_ble_eq_true rfl) (zdg dz_R_week_4 5 rfl) (fun r19 u20 => ?_)
        refine vf_if_eq C (off := 66) (tgt := 258) (zdg dz_R_week_4 6 rfl) (by decide) ?_ ?_
        · exact vf_perm [2, 3, 4, 1, 0] rfl (t_R_week_258 C hn hR hr ih _ _ _ _ _)
        · refine vf_aload_n C (f := 0) (zdg dz_R_week_4 7 rfl) 2 rfl rfl ?_
          refine vf_getp C fl_R_64 sh_43 rfl (by decide) rfl (x := 59) rfl (zdg dz_R_week_4 8 rfl) ?_
          refine vf_iload C (zdg dz_R_week_4 9 rfl) 1 rfl ?_
          refine vf_iald C sh_58 (by decide) rfl (mz := 10) rfl (zdg dz_R_week_4 10 rfl) ?_
          refine vf_iconst C (z := (-1)) (zdg dz_R_week_4 11 rfl) (jz rfl) ?_
          refine vf_icmp_ne C (off := 55) (tgt := 258) (zdg dz_R_week_4 12 rfl) (by decide) ?_ ?_
          · exact vf_perm [2, 3, 4, 1, 0] rfl (t_R_week_258 C hn hR hr ih _ _ _ _ _)
          · refine vf_aload_n C (f := 0) (zdg dz_R_week_4 13 rfl) 2 rfl rfl ?_
            refine vf_iload C (zdg dz_R_week_4 14 rfl) 0 rfl ?_
            refine vf_callVz C cy_R_isOne ml_R_151 rfl (ct_R_isOne _ _) (S := []) sh_43 (by decide) rfl (jrm_of hR rfl) rfl rfl (Nat.le_of_ble_eq_true rfl) (zdg dz_R_week_4 15 rfl) (fun r21 u22 => ?_)
            refine vf_if_eq C (off := 46) (tgt := 258) (zdg dz_R_week_4 16 rfl) (by decide) ?_ ?_
            · exact vf_perm [2, 3, 4, 1, 0] rfl (t_R_week_258 C hn hR hr ih _ _ _ _ _)
            · refine vf_aload_n C (f := 0) (zdg dz_R_week_4 17 rfl) 2 rfl rfl ?_
              refine vf_callVi C cy_R_free ml_R_286 rfl (ct_R_free _) (S := []) sh_43 (by decide) rfl (jrm_of hR rfl) rfl rfl (Nat.le_of_ble_eq_true rfl) (zdg dz_R_week_4 18 rfl) (fun r23 u24 => ?_)
              refine vf_iload C (zdg dz_R_week_4 19 rfl) 0 rfl ?_
              refine vf_callSz C cy_R_has ml_R_210 (ct_R_has _ _ _) (S := []) (jrm_of hR rfl) rfl rfl (Nat.le_of_ble_eq_true rfl) (zdg dz_R_week_4 20 rfl) (fun r25 u26 => ?_)
              refine vf_if_eq C (off := 34) (tgt := 258) (zdg dz_R_week_4 21 rfl) (by decide) ?_ ?_
              · exact vf_perm [2, 3, 4, 1, 0] rfl (t_R_week_258 C hn hR hr ih _ _ _ _ _)
              · refine vf_aload_n C (f := 0) (zdg dz_R_week_4 22 rfl) 2 rfl rfl ?_
                refine vf_getp C fl_R_13 sh_43 rfl (by decide) rfl (x := 46) rfl (zdg dz_R_week_4 23 rfl) ?_
                refine vf_iload C (zdg dz_R_week_5 0 rfl) 1 rfl ?_
                refine vf_iald C sh_45 (by decide) rfl (mz := 10) rfl (zdg dz_R_week_5 1 rfl) ?_
                refine vf_iload C (zdg dz_R_week_5 2 rfl) 0 rfl ?_
                refine vf_callSz C cy_R_has ml_R_210 (ct_R_has _ _ _) (S := []) (jrm_of hR rfl) rfl rfl (Nat.le_of_ble_eq_true rfl) (zdg dz_R_week_5 3 rfl) (fun r27 u28 => ?_)
                refine vf_if_eq C (off := 19) (tgt := 258) (zdg dz_R_week_5 4 rfl) (by decide) ?_ ?_
                · exact vf_perm [2, 3, 4, 1, 0] rfl (t_R_week_258 C hn hR hr ih _ _ _ _ _)
                · refine vf_aload_n C (f := 0) (zdg dz_R_week_5 5 rfl) 2 rfl rfl ?_
                  refine vf_callVi C cy_R_broughtNow ml_R_277 rfl (ct_R_broughtNow _) (S := []) sh_43 (by decide) rfl (jrm_of hR rfl) rfl rfl (Nat.le_of_ble_eq_true rfl) (zdg dz_R_week_5 6 rfl) (fun r29 u30 => ?_)
                  refine vf_iload C (zdg dz_R_week_5 7 rfl) 0 rfl ?_
                  refine vf_callSz C cy_R_has ml_R_210 (ct_R_has _ _ _) (S := []) (jrm_of hR rfl) rfl rfl (Nat.le_of_ble_eq_true rfl) (zdg dz_R_week_5 8 rfl) (fun r31 u32 => ?_)
                  refine vf_if_ne C (off := 7) (tgt := 258) (zdg dz_R_week_5 9 rfl) (by decide) ?_ ?_
                  · exact vf_perm [2, 3, 4, 1, 0] rfl (t_R_week_258 C hn hR hr ih _ _ _ _ _)
                  · refine vf_iconst C (z := 1) (zdg dz_R_week_5 10 rfl) (jz rfl) ?_
                    refine vf_goto C (off := 4) (tgt := 259) (zdg dz_R_week_5 11 rfl) (by decide) ?_
                    exact vf_perm [2, 3, 4, 1, 0] rfl (t_R_week_259 C hn hR hr ih _ _ _ _ _ _)
def f_R_week_119 (v1 : Int) (w : Wd) : Option (Int × Wd) :=
  jcall (f_R_fine w) fun r5 u6 =>
  if r5 = 0 then
    some (w32 ((-1) - (u6 43 21)), u6)
  else
    if (u6 43 8) = 60 then
      some ((-300), u6)
    else
      jcall (f_R_nobody u6) fun r7 u8 =>
      f_R_week_152 FU v1 0 u8
theorem t_R_week_119 {X : jX} {Qf : Int × Wd → State → Prop} {ad : Nat → Nat} (C : Cx X prog_14_method_44_code "EachBringsAnotherModel") (hn : xn X = 7) (hR : xR X = rmD 5) (hr : Rt X Qf ad prog_14_method_44_code 0) (v1 : Int) (w : Wd) : VF X Qf ad NF 0 0 w 119 [(0, (2, 44)), (1, (0, v1))] [] (f_R_week_119 v1 w) := by
  unfold f_R_week_119
  refine vf_aload_n C (f := 0) (zdg dz_R_week_2 14 rfl) 0 rfl rfl ?_
  refine vf_callVz C cy_R_fine ml_R_181 rfl (ct_R_fine _) (S := []) sh_43 (by decide) rfl (jrm_of hR rfl) rfl rfl (Nat.le_of_ble_eq_true rfl) (zdg dz_R_week_2 15 rfl) (fun r5 u6 => ?_)
  refine vf_if_ne C (off := 10) (tgt := 133) (zdg dz_R_week_2 16 rfl) (by decide) ?_ ?_
  · refine vf_aload_n C (f := 0) (zdg dz_R_week_2 22 rfl) 0 rfl rfl ?_
    refine vf_get C (kd := 0) fl_R_214 sh_43 rfl (by decide) rfl rfl (zdg dz_R_week_2 23 rfl) ?_
    refine vf_bipush C (z := 60) (zdg dz_R_week_3 0 rfl) (by decide +kernel) (jz rfl) ?_
    refine vf_icmp_ne C (off := 7) (tgt := 146) (zdg dz_R_week_3 1 rfl) (by decide) ?_ ?_
    · refine vf_aload_n C (f := 0) (zdg dz_R_week_3 4 rfl) 0 rfl rfl ?_
      refine vf_callVv C cy_R_nobody ml_R_283 rfl (ct_R_nobody _) (S := []) sh_43 (by decide) rfl (jrm_of hR rfl) rfl rfl (Nat.le_of_ble_eq_true rfl) (zdg dz_R_week_3 5 rfl) (fun r7 u8 => ?_)
      refine vf_iconst C (z := 0) (zdg dz_R_week_3 6 rfl) (jz rfl) ?_
      refine vf_istore_n C (f := 3) (L' := [(0, (2, 44)), (1, (0, v1))]) (zdg dz_R_week_3 7 rfl) [0, 1] (jrI rfl rfl) hn (by decide) rfl ?_
      exact vf_perm [1, 2, 0] rfl (t_R_week_152 C hn hR hr FU _ _ _)
    · refine vf_sipush C (z := (-300)) (zdg dz_R_week_3 2 rfl) (by decide +kernel) (jz rfl) ?_
      exact hr _ _ _ _ (fun h => absurd h (by decide)) (zdg dz_R_week_3 3 rfl)
  · refine vf_iconst C (z := (-1)) (zdg dz_R_week_2 17 rfl) (jz rfl) ?_
    refine vf_aload_n C (f := 0) (zdg dz_R_week_2 18 rfl) 0 rfl rfl ?_
    refine vf_get C (kd := 0) fl_R_178 sh_43 rfl (by decide) rfl rfl (zdg dz_R_week_2 19 rfl) ?_
    refine vf_isub C (zdg dz_R_week_2 20 rfl) ?_
    exact hr _ _ _ _ (fun h => absurd h (by decide)) (zdg dz_R_week_2 21 rfl)
def f_R_week_100 (v1 : Int) (w : Wd) : Option (Int × Wd) :=
  if (w 43 18) ≤ (w 43 20) then
    f_R_week_119 v1 w
  else
    jcall (f_R_fault (w 43 20) w) fun r33 u34 =>
    f_R_week_119 v1 u34
theorem t_R_week_100 {X : jX} {Qf : Int × Wd → State → Prop} {ad : Nat → Nat} (C : Cx X prog_14_method_44_code "EachBringsAnotherModel") (hn : xn X = 7) (hR : xR X = rmD 5) (hr : Rt X Qf ad prog_14_method_44_code 0) (v1 : Int) (w : Wd) : VF X Qf ad NF 0 0 w 100 [(0, (2, 44)), (1, (0, v1))] [] (f_R_week_100 v1 w) := by
  unfold f_R_week_100
  refine vf_aload_n C (f := 0) (zdg dz_R_week_2 5 rfl) 0 rfl rfl ?_
  refine vf_get C (kd := 0) fl_R_175 sh_43 rfl (by decide) rfl rfl (zdg dz_R_week_2 6 rfl) ?_
  refine vf_aload_n C (f := 0) (zdg dz_R_week_2 7 rfl) 0 rfl rfl ?_
  refine vf_get C (kd := 0) fl_R_169 sh_43 rfl (by decide) rfl rfl (zdg dz_R_week_2 8 rfl) ?_
  refine vf_icmp_ge C (off := 11) (tgt := 119) (zdg dz_R_week_2 9 rfl) (by decide) ?_ ?_
  · exact t_R_week_119 C hn hR hr _ _
  · refine vf_aload_n C (f := 0) (zdg dz_R_week_2 10 rfl) 0 rfl rfl ?_
    refine vf_aload_n C (f := 0) (zdg dz_R_week_2 11 rfl) 0 rfl rfl ?_
    refine vf_get C (kd := 0) fl_R_175 sh_43 rfl (by decide) rfl rfl (zdg dz_R_week_2 12 rfl) ?_
    refine vf_callVv C cy_R_fault ml_R_192 rfl (ct_R_fault _ _) (S := []) sh_43 (by decide) rfl (jrm_of hR rfl) rfl rfl (Nat.le_of_ble_eq_true rfl) (zdg dz_R_week_2 13 rfl) (fun r33 u34 => ?_)
    exact t_R_week_119 C hn hR hr _ _
def f_R_week_77 (k39 : Int → Int → Wd → Option (Int × Wd)) (v1 : Int) (w : Wd) : Option (Int × Wd) :=
  jcall (f_R_readLetter w) fun r42 u43 =>
  jgd ((0 : Int) ≤ v1 ∧ v1 < 40) <|
  jlw (st u43 61 v1.toNat r42) fun u44 =>
  jlet (w32 (v1 + 1)) fun x45 =>
  jcall (f_R_passes 59 u44) fun r46 u47 =>
  k39 x45 r46 u47
theorem t_R_week_77 {X : jX} {Qf : Int × Wd → State → Prop} {ad : Nat → Nat} (C : Cx X prog_14_method_44_code "EachBringsAnotherModel") (hn : xn X = 7) (hR : xR X = rmD 5) (hr : Rt X Qf ad prog_14_method_44_code 0) {k39 : Int → Int → Wd → Option (Int × Wd)} (hk39 : ∀ (v1 v2 : Int) (w : Wd), VF X Qf ad NF 0 0 w 39 [(0, (2, 44)), (1, (0, v1)), (2, (0, v2))] [] (k39 v1 v2 w)) (v1 : Int) (w : Wd) : VF X Qf ad NF 0 0 w 77 [(0, (2, 44)), (1, (0, v1))] [] (f_R_week_77 k39 v1 w) := by
  unfold f_R_week_77
  refine vf_aload_n C (f := 0) (zdg dz_R_week_1 17 rfl) 0 rfl rfl ?_
  refine vf_getp C fl_R_73 sh_43 rfl (by decide) rfl (x := 62) rfl (zdg dz_R_week_1 18 rfl) ?_
  refine vf_iload_n C (f := 1) (zdg dz_R_week_1 19 rfl) 1 rfl rfl ?_
  refine vf_aload_n C (f := 0) (zdg dz_R_week_1 20 rfl) 0 rfl rfl ?_
  refine vf_callVi C cy_R_readLetter ml_R_280 rfl (ct_R_readLetter _) (S := [(0, v1), (2, 62)]) sh_43 (by decide) rfl (jrm_of hR rfl) rfl rfl (Nat.le_of_ble_eq_true rfl) (zdg dz_R_week_1 21 rfl) (fun r42 u43 => ?_)
  refine vf_iast C sh_61 (by decide) rfl (mz := 40) rfl (zdg dz_R_week_1 22 rfl) ?_
  generalize st u43 61 v1.toNat r42 = u44
  refine vf_uw ?_
  refine vf_iinc C (z := 1) (L' := [(0, (2, 44))]) (zdg dz_R_week_1 23 rfl) 1 rfl [0] (jrI rfl rfl) hn (by decide) ?_
  generalize w32 (v1 + 1) = x45
  refine vf_ul ?_
  refine vf_aload_n C (f := 0) (zdg dz_R_week_2 0 rfl) 1 rfl rfl ?_
  refine vf_bipush C (z := 59) (zdg dz_R_week_2 1 rfl) (by decide +kernel) (jz rfl) ?_
  refine vf_callVz C cy_R_passes ml_R_199 rfl (ct_R_passes _ _) (S := []) sh_43 (by decide) rfl (jrm_of hR rfl) rfl rfl (Nat.le_of_ble_eq_true rfl) (zdg dz_R_week_2 2 rfl) (fun r46 u47 => ?_)
  refine vf_istore_n C (f := 2) (L' := [(1, (0, x45)), (0, (2, 44))]) (zdg dz_R_week_2 3 rfl) [0, 1] (jrI rfl rfl) hn (by decide) rfl ?_
  refine vf_goto C (off := (-58)) (tgt := 39) (zdg dz_R_week_2 4 rfl) (by decide) ?_
  exact vf_perm [2, 1, 0] rfl (hk39 _ _ _)
def f_R_week_39 : Nat → Int → Int → Wd → Option (Int × Wd)
  | 0, _, _, _ => none
  | n + 1, v1, v2, w =>
    if v2 = 0 then
      f_R_week_100 v1 w
    else
      jcall (f_R_fine w) fun r35 u36 =>
      if r35 = 0 then
        f_R_week_100 v1 u36
      else
        jcall (f_R_readLetter u36) fun r37 u38 =>
        jgd ((0 : Int) ≤ v1 ∧ v1 < 40) <|
        jlw (st u38 60 v1.toNat r37) fun u39 =>
        jcall (f_R_passes 62 u39) fun r40 u41 =>
        if r40 = 0 then
          jcall (f_R_fault (u41 43 20) u41) fun r48 u49 =>
          f_R_week_77 (f_R_week_39 n) v1 u49
        else
          f_R_week_77 (f_R_week_39 n) v1 u41
theorem t_R_week_39 {X : jX} {Qf : Int × Wd → State → Prop} {ad : Nat → Nat} (C : Cx X prog_14_method_44_code "EachBringsAnotherModel") (hn : xn X = 7) (hR : xR X = rmD 5) (hr : Rt X Qf ad prog_14_method_44_code 0) : ∀ (n : Nat) (v1 v2 : Int) (w : Wd), VF X Qf ad NF 0 0 w 39 [(0, (2, 44)), (1, (0, v1)), (2, (0, v2))] [] (f_R_week_39 n v1 v2 w) := by
  intro n
  induction n with
  | zero => intros; exact vf_no
  | succ n ih =>
    intro v1 v2 w
    rw [f_R_week_39]
    refine vf_iload_n C (f := 2) (zdg dz_R_week_0 22 rfl) 2 rfl rfl ?_
    refine vf_if_eq C (off := 60) (tgt := 100) (zdg dz_R_week_0 23 rfl) (by decide) ?_ ?_
    · exact vf_perm [0, 1] rfl (t_R_week_100 C hn hR hr _ _)
    · refine vf_aload_n C (f := 0) (zdg dz_R_week_1 0 rfl) 0 rfl rfl ?_
      refine vf_callVz C cy_R_fine ml_R_181 rfl (ct_R_fine _) (S := []) sh_43 (by decide) rfl (jrm_of hR rfl) rfl rfl (Nat.le_of_ble_eq_true rfl) (zdg dz_R_week_1 1 rfl) (fun r35 u36 => ?_)
      refine vf_if_eq C (off := 53) (tgt := 100) (zdg dz_R_week_1 2 rfl) (by decide) ?_ ?_
      · exact vf_perm [0, 1] rfl (t_R_week_100 C hn hR hr _ _)
      · refine vf_aload_n C (f := 0) (zdg dz_R_week_1 3 rfl) 0 rfl rfl ?_
        refine vf_getp C fl_R_70 sh_43 rfl (by decide) rfl (x := 61) rfl (zdg dz_R_week_1 4 rfl) ?_
        refine vf_iload_n C (f := 1) (zdg dz_R_week_1 5 rfl) 1 rfl rfl ?_
        refine vf_aload_n C (f := 0) (zdg dz_R_week_1 6 rfl) 0 rfl rfl ?_
        refine vf_callVi C cy_R_readLetter ml_R_280 rfl (ct_R_readLetter _) (S := [(0, v1), (2, 61)]) sh_43 (by decide) rfl (jrm_of hR rfl) rfl rfl (Nat.le_of_ble_eq_true rfl) (zdg dz_R_week_1 7 rfl) (fun r37 u38 => ?_)
        refine vf_iast C sh_60 (by decide) rfl (mz := 40) rfl (zdg dz_R_week_1 8 rfl) ?_
        generalize st u38 60 v1.toNat r37 = u39
        refine vf_uw ?_
        refine vf_aload_n C (f := 0) (zdg dz_R_week_1 9 rfl) 0 rfl rfl ?_
        refine vf_bipush C (z := 62) (zdg dz_R_week_1 10 rfl) (by decide +kernel) (jz rfl) ?_
        refine vf_callVz C cy_R_passes ml_R_199 rfl (ct_R_passes _ _) (S := []) sh_43 (by decide) rfl (jrm_of hR rfl) rfl rfl (Nat.le_of_ble_eq_true rfl) (zdg dz_R_week_1 11 rfl) (fun r40 u41 => ?_)
        refine vf_if_ne C (off := 11) (tgt := 77) (zdg dz_R_week_1 12 rfl) (by decide) ?_ ?_
        · exact vf_perm [0, 1] rfl (t_R_week_77 C hn hR hr ih _ _)
        · refine vf_aload_n C (f := 0) (zdg dz_R_week_1 13 rfl) 0 rfl rfl ?_
          refine vf_aload_n C (f := 0) (zdg dz_R_week_1 14 rfl) 0 rfl rfl ?_
          refine vf_get C (kd := 0) fl_R_175 sh_43 rfl (by decide) rfl rfl (zdg dz_R_week_1 15 rfl) ?_
          refine vf_callVv C cy_R_fault ml_R_192 rfl (ct_R_fault _ _) (S := []) sh_43 (by decide) rfl (jrm_of hR rfl) rfl rfl (Nat.le_of_ble_eq_true rfl) (zdg dz_R_week_1 16 rfl) (fun r48 u49 => ?_)
          exact vf_perm [0, 1] rfl (t_R_week_77 C hn hR hr ih _ _)
def f_R_week_38 (v1 s0 : Int) (w : Wd) : Option (Int × Wd) :=
  f_R_week_39 FU v1 s0 w
theorem t_R_week_38 {X : jX} {Qf : Int × Wd → State → Prop} {ad : Nat → Nat} (C : Cx X prog_14_method_44_code "EachBringsAnotherModel") (hn : xn X = 7) (hR : xR X = rmD 5) (hr : Rt X Qf ad prog_14_method_44_code 0) (v1 s0 : Int) (w : Wd) : VF X Qf ad NF 0 0 w 38 [(0, (2, 44)), (1, (0, v1))] [(0, s0)] (f_R_week_38 v1 s0 w) := by
  unfold f_R_week_38
  refine vf_istore_n C (f := 2) (L' := [(0, (2, 44)), (1, (0, v1))]) (zdg dz_R_week_0 21 rfl) [0, 1] (jrI rfl rfl) hn (by decide) rfl ?_
  exact vf_perm [1, 2, 0] rfl (t_R_week_39 C hn hR hr FU _ _ _)
def f_R_week (w : Wd) : Option (Int × Wd) :=
  jlw (st w 43 16 0) fun u1 =>
  jcall (f_R_begin1_43_51 (u1 43 13) 40 u1) fun r2 u3 =>
  jlw (st u3 43 13 0) fun u4 =>
  if (u4 43 18) ≤ 0 then
    f_R_week_38 0 0 u4
  else
    f_R_week_38 0 1 u4
theorem ct_R_week (w : Wd) : Ct y_R_week prog_14_method_44_code 7 (some .int) 5 0 [(2, 44)] w (f_R_week w) := by
  refine ct_of (by decide +kernel) (Or.inl ⟨rfl, rfl⟩) (Nat.le_of_ble_eq_true rfl) ?_
  intro X Qf ad C hn hR hr
  unfold f_R_week
  show VF X Qf ad NF 0 0 w 0 [(0, (2, 44))] [] _
  refine vf_aload_n C (f := 0) (zdg dz_R_week_0 0 rfl) 0 rfl rfl ?_
  refine vf_iconst C (z := 0) (zdg dz_R_week_0 1 rfl) (jz rfl) ?_
  refine vf_put C (kd := 0) fl_R_138 fk_11_16 sh_43 rfl (by decide) rfl rfl (by decide) (zdg dz_R_week_0 2 rfl) ?_
  generalize st w 43 16 0 = u1
  refine vf_uw ?_
  refine vf_aload_n C (f := 0) (zdg dz_R_week_0 3 rfl) 0 rfl rfl ?_
  refine vf_aload_n C (f := 0) (zdg dz_R_week_0 4 rfl) 0 rfl rfl ?_
  refine vf_getp C fl_R_39 sh_43 rfl (by decide) rfl (x := 52) rfl (zdg dz_R_week_0 5 rfl) ?_
  refine vf_aload_n C (f := 0) (zdg dz_R_week_0 6 rfl) 0 rfl rfl ?_
  refine vf_get C (kd := 0) fl_R_163 sh_43 rfl (by decide) rfl rfl (zdg dz_R_week_0 7 rfl) ?_
  refine vf_bipush C (z := 40) (zdg dz_R_week_0 8 rfl) (by decide +kernel) (jz rfl) ?_
  refine vf_callVv C cy_R_begin1 ml_R_188 rfl (ct_R_begin1_43_51 _ _ _) (S := []) sh_43 (by decide) rfl (jrm_of hR rfl) rfl rfl (Nat.le_of_ble_eq_true rfl) (zdg dz_R_week_0 9 rfl) (fun r2 u3 => ?_)
  refine vf_aload_n C (f := 0) (zdg dz_R_week_0 10 rfl) 0 rfl rfl ?_
  refine vf_iconst C (z := 0) (zdg dz_R_week_0 11 rfl) (jz rfl) ?_
  refine vf_put C (kd := 0) fl_R_163 fk_11_13 sh_43 rfl (by decide) rfl rfl (by decide) (zdg dz_R_week_0 12 rfl) ?_
  generalize st u3 43 13 0 = u4
  refine vf_uw ?_
  refine vf_iconst C (z := 0) (zdg dz_R_week_0 13 rfl) (jz rfl) ?_
  refine vf_istore_n C (f := 1) (L' := [(0, (2, 44))]) (zdg dz_R_week_0 14 rfl) [0] (jrI rfl rfl) hn (by decide) rfl ?_
  refine vf_aload_n C (f := 0) (zdg dz_R_week_0 15 rfl) 1 rfl rfl ?_
  refine vf_get C (kd := 0) fl_R_169 sh_43 rfl (by decide) rfl rfl (zdg dz_R_week_0 16 rfl) ?_
  refine vf_if_le C (off := 7) (tgt := 37) (zdg dz_R_week_0 17 rfl) (by decide) ?_ ?_
  · refine vf_iconst C (z := 0) (zdg dz_R_week_0 20 rfl) (jz rfl) ?_
    exact vf_perm [1, 0] rfl (t_R_week_38 C hn hR hr _ _ _)
  · refine vf_iconst C (z := 1) (zdg dz_R_week_0 18 rfl) (jz rfl) ?_
    refine vf_goto C (off := 4) (tgt := 38) (zdg dz_R_week_0 19 rfl) (by decide) ?_
    exact vf_perm [1, 0] rfl (t_R_week_38 C hn hR hr _ _ _)
def f_R_choice_84 (k27 : Int → Int → Int → Int → Int → Wd → Option (Int × Wd)) (v1 v2 v3 v4 v5 : Int) (w : Wd) : Option (Int × Wd) :=
  jlet (w32 (v5 + 1)) fun x14 =>
  k27 v1 v2 v3 v4 x14 w
theorem t_R_choice_84 {X : jX} {Qf : Int × Wd → State → Prop} {ad : Nat → Nat} (C : Cx X prog_14_method_46_code "EachBringsAnotherModel") (hn : xn X = 7) (hR : xR X = rmD 106) (hr : Rt X Qf ad prog_14_method_46_code 0) {k27 : Int → Int → Int → Int → Int → Wd → Option (Int × Wd)} (hk27 : ∀ (v1 v2 v3 v4 v5 : Int) (w : Wd), VF X Qf ad NF 0 0 w 27 [(0, (2, 44)), (1, (0, v1)), (2, (0, v2)), (3, (0, v3)), (4, (0, v4)), (5, (0, v5))] [] (k27 v1 v2 v3 v4 v5 w)) (v1 v2 v3 v4 v5 : Int) (w : Wd) : VF X Qf ad NF 0 0 w 84 [(0, (2, 44)), (1, (0, v1)), (2, (0, v2)), (3, (0, v3)), (4, (0, v4)), (5, (0, v5))] [] (f_R_choice_84 k27 v1 v2 v3 v4 v5 w) := by
  unfold f_R_choice_84
  refine vf_iinc C (z := 1) (L' := [(0, (2, 44)), (1, (0, v1)), (2, (0, v2)), (3, (0, v3)), (4, (0, v4))]) (zdg dz_R_choice_1 22 rfl) 5 rfl [0, 1, 2, 3, 4] (jrI rfl rfl) hn (by decide) ?_
  generalize w32 (v5 + 1) = x14
  refine vf_ul ?_
  refine vf_goto C (off := (-60)) (tgt := 27) (zdg dz_R_choice_1 23 rfl) (by decide) ?_
  exact vf_perm [1, 2, 3, 4, 5, 0] rfl (hk27 _ _ _ _ _ _)
def f_R_choice_77 (k27 : Int → Int → Int → Int → Int → Wd → Option (Int × Wd)) (v1 v2 v5 v6 : Int) (w : Wd) : Option (Int × Wd) :=
  f_R_choice_84 k27 v1 v2 v5 v6 v5 w
theorem t_R_choice_77 {X : jX} {Qf : Int × Wd → State → Prop} {ad : Nat → Nat} (C : Cx X prog_14_method_46_code "EachBringsAnotherModel") (hn : xn X = 7) (hR : xR X = rmD 106) (hr : Rt X Qf ad prog_14_method_46_code 0) {k27 : Int → Int → Int → Int → Int → Wd → Option (Int × Wd)} (hk27 : ∀ (v1 v2 v3 v4 v5 : Int) (w : Wd), VF X Qf ad NF 0 0 w 27 [(0, (2, 44)), (1, (0, v1)), (2, (0, v2)), (3, (0, v3)), (4, (0, v4)), (5, (0, v5))] [] (k27 v1 v2 v3 v4 v5 w)) (v1 v2 v5 v6 : Int) (w : Wd) : VF X Qf ad NF 0 0 w 77 [(0, (2, 44)), (1, (0, v1)), (2, (0, v2)), (5, (0, v5)), (6, (0, v6))] [] (f_R_choice_77 k27 v1 v2 v5 v6 w) := by
  unfold f_R_choice_77
  refine vf_iload C (zdg dz_R_choice_1 18 rfl) 3 rfl ?_
  refine vf_istore_n C (f := 3) (L' := [(0, (2, 44)), (1, (0, v1)), (2, (0, v2)), (5, (0, v5)), (6, (0, v6))]) (zdg dz_R_choice_1 19 rfl) [0, 1, 2, 3, 4] (jrI rfl rfl) hn (by decide) rfl ?_
  refine vf_iload C (zdg dz_R_choice_1 20 rfl) 5 rfl ?_
  refine vf_istore C (i := 4) (L' := [(3, (0, v5)), (0, (2, 44)), (1, (0, v1)), (2, (0, v2)), (5, (0, v5))]) (zdg dz_R_choice_1 21 rfl) [0, 1, 2, 3, 4] (jrI rfl rfl) hn (by decide) ?_
  exact vf_perm [2, 3, 4, 1, 0, 5] rfl (t_R_choice_84 C hn hR hr hk27 _ _ _ _ _ _)
def f_R_choice_27 : Nat → Int → Int → Int → Int → Int → Wd → Option (Int × Wd)
  | 0, _, _, _, _, _, _ => none
  | n + 1, v1, v2, v3, v4, v5, w =>
    if (w 43 0) ≤ v5 then
      if v3 = (-1) then
        some ((-1), w)
      else
        jgd ((0 : Int) ≤ v1 ∧ v1 < 10) <|
        jlw (st w 58 v1.toNat v3) fun u6 =>
        jcall (f_R_guestsThen u6) fun r7 u8 =>
        jgd ((0 : Int) ≤ v1 ∧ v1 < 10) <|
        jlw (st u8 58 v1.toNat (-1)) fun u9 =>
        if r7 ≤ (u9 43 11) then
          some (v3, u9)
        else
          some ((-1), u9)
    else
      jcall (f_R_has v2 v5 w) fun r10 u11 =>
      if r10 = 0 then
        f_R_choice_84 (f_R_choice_27 n) v1 v2 v3 v4 v5 u11
      else
        jcall (f_R_ruleFor v5 v1 u11) fun r12 u13 =>
        if r12 < 0 then
          f_R_choice_84 (f_R_choice_27 n) v1 v2 v3 v4 v5 u13
        else
          if v3 = (-1) then
            f_R_choice_77 (f_R_choice_27 n) v1 v2 v5 r12 u13
          else
            if v4 < r12 then
              f_R_choice_77 (f_R_choice_27 n) v1 v2 v5 r12 u13
            else
              f_R_choice_84 (f_R_choice_27 n) v1 v2 v3 v4 v5 u13
theorem t_R_choice_27 {X : jX} {Qf : Int × Wd → State → Prop} {ad : Nat → Nat} (C : Cx X prog_14_method_46_code "EachBringsAnotherModel") (hn : xn X = 7) (hR : xR X = rmD 106) (hr : Rt X Qf ad prog_14_method_46_code 0) : ∀ (n : Nat) (v1 v2 v3 v4 v5 : Int) (w : Wd), VF X Qf ad NF 0 0 w 27 [(0, (2, 44)), (1, (0, v1)), (2, (0, v2)), (3, (0, v3)), (4, (0, v4)), (5, (0, v5))] [] (f_R_choice_27 n v1 v2 v3 v4 v5 w) := by
  intro n
  induction n with
  | zero => intros; exact vf_no
  | succ n ih =>
    intro v1 v2 v3 v4 v5 w
    rw [f_R_choice_27]
    refine vf_iload C (zdg dz_R_choice_0 19 rfl) 5 rfl ?_
    refine vf_aload_n C (f := 0) (zdg dz_R_choice_0 20 rfl) 0 rfl rfl ?_
    refine vf_get C (kd := 0) fl_R_144 sh_43 rfl (by decide) rfl rfl (zdg dz_R_choice_0 21 rfl) ?_
    refine vf_icmp_ge C (off := 57) (tgt := 90) (zdg dz_R_choice_0 22 rfl) (by decide) ?_ ?_
    · refine vf_iload_n C (f := 3) (zdg dz_R_choice_2 0 rfl) 3 rfl rfl ?_
      refine vf_iconst C (z := (-1)) (zdg dz_R_choice_2 1 rfl) (jz rfl) ?_
      refine vf_icmp_ne C (off := 5) (tgt := 97) (zdg dz_R_choice_2 2 rfl) (by decide) ?_ ?_
      · refine vf_aload_n C (f := 0) (zdg dz_R_choice_2 5 rfl) 0 rfl rfl ?_
        refine vf_getp C fl_R_64 sh_43 rfl (by decide) rfl (x := 59) rfl (zdg dz_R_choice_2 6 rfl) ?_
        refine vf_iload_n C (f := 1) (zdg dz_R_choice_2 7 rfl) 1 rfl rfl ?_
        refine vf_iload_n C (f := 3) (zdg dz_R_choice_2 8 rfl) 3 rfl rfl ?_
        refine vf_iast C sh_58 (by decide) rfl (mz := 10) rfl (zdg dz_R_choice_2 9 rfl) ?_
        generalize st w 58 v1.toNat v3 = u6
        refine vf_uw ?_
        refine vf_aload_n C (f := 0) (zdg dz_R_choice_2 10 rfl) 0 rfl rfl ?_
        refine vf_callVi C cy_R_guestsThen ml_R_289 rfl (ct_R_guestsThen _) (S := []) sh_43 (by decide) rfl (jrm_of hR rfl) rfl rfl (Nat.le_of_ble_eq_true rfl) (zdg dz_R_choice_2 11 rfl) (fun r7 u8 => ?_)
        refine vf_istore C (i := 5) (L' := [(0, (2, 44)), (1, (0, v1)), (3, (0, v3))]) (zdg dz_R_choice_2 12 rfl) [0, 1, 3] (jrI rfl rfl) hn (by decide) ?_
        refine vf_aload_n C (f := 0) (zdg dz_R_choice_2 13 rfl) 1 rfl rfl ?_
        refine vf_getp C fl_R_64 sh_43 rfl (by decide) rfl (x := 59) rfl (zdg dz_R_choice_2 14 rfl) ?_
        refine vf_iload_n C (f := 1) (zdg dz_R_choice_2 15 rfl) 2 rfl rfl ?_
        refine vf_iconst C (z := (-1)) (zdg dz_R_choice_2 16 rfl) (jz rfl) ?_
        refine vf_iast C sh_58 (by decide) rfl (mz := 10) rfl (zdg dz_R_choice_2 17 rfl) ?_
        generalize st u8 58 v1.toNat (-1) = u9
        refine vf_uw ?_
        refine vf_iload C (zdg dz_R_choice_2 18 rfl) 0 rfl ?_
        refine vf_aload_n C (f := 0) (zdg dz_R_choice_2 19 rfl) 1 rfl rfl ?_
        refine vf_get C (kd := 0) fl_R_36 sh_43 rfl (by decide) rfl rfl (zdg dz_R_choice_2 20 rfl) ?_
        refine vf_icmp_le C (off := 7) (tgt := 130) (zdg dz_R_choice_2 21 rfl) (by decide) ?_ ?_
        · refine vf_iload_n C (f := 3) (zdg dz_R_choice_3 0 rfl) 3 rfl rfl ?_
          exact hr _ _ _ _ (fun h => absurd h (by decide)) (zdg dz_R_choice_3 1 rfl)
        · refine vf_iconst C (z := (-1)) (zdg dz_R_choice_2 22 rfl) (jz rfl) ?_
          refine vf_goto C (off := 4) (tgt := 131) (zdg dz_R_choice_2 23 rfl) (by decide) ?_
          exact hr _ _ _ _ (fun h => absurd h (by decide)) (zdg dz_R_choice_3 1 rfl)
      · refine vf_iconst C (z := (-1)) (zdg dz_R_choice_2 3 rfl) (jz rfl) ?_
        exact hr _ _ _ _ (fun h => absurd h (by decide)) (zdg dz_R_choice_2 4 rfl)
    · refine vf_iload_n C (f := 2) (zdg dz_R_choice_0 23 rfl) 2 rfl rfl ?_
      refine vf_iload C (zdg dz_R_choice_1 0 rfl) 5 rfl ?_
      refine vf_callSz C cy_R_has ml_R_210 (ct_R_has _ _ _) (S := []) (jrm_of hR rfl) rfl rfl (Nat.le_of_ble_eq_true rfl) (zdg dz_R_choice_1 1 rfl) (fun r10 u11 => ?_)
      refine vf_if_ne C (off := 6) (tgt := 48) (zdg dz_R_choice_1 2 rfl) (by decide) ?_ ?_
      · refine vf_aload_n C (f := 0) (zdg dz_R_choice_1 4 rfl) 0 rfl rfl ?_
        refine vf_iload C (zdg dz_R_choice_1 5 rfl) 5 rfl ?_
        refine vf_iload_n C (f := 1) (zdg dz_R_choice_1 6 rfl) 1 rfl rfl ?_
        refine vf_callVi C cy_R_ruleFor ml_R_295 rfl (ct_R_ruleFor _ _ _) (S := []) sh_43 (by decide) rfl (jrm_of hR rfl) rfl rfl (Nat.le_of_ble_eq_true rfl) (zdg dz_R_choice_1 7 rfl) (fun r12 u13 => ?_)
        refine vf_istore C (i := 6) (L' := [(0, (2, 44)), (1, (0, v1)), (2, (0, v2)), (3, (0, v3)), (4, (0, v4)), (5, (0, v5))]) (zdg dz_R_choice_1 8 rfl) [0, 1, 2, 3, 4, 5] (jrI rfl rfl) hn (by decide) ?_
        refine vf_iload C (zdg dz_R_choice_1 9 rfl) 0 rfl ?_
        refine vf_if_lt C (off := 25) (tgt := 84) (zdg dz_R_choice_1 10 rfl) (by decide) ?_ ?_
        · exact vf_perm [1, 2, 3, 4, 5, 6] rfl (t_R_choice_84 C hn hR hr ih _ _ _ _ _ _)
        · refine vf_iload_n C (f := 3) (zdg dz_R_choice_1 11 rfl) 4 rfl rfl ?_
          refine vf_iconst C (z := (-1)) (zdg dz_R_choice_1 12 rfl) (jz rfl) ?_
          refine vf_icmp_eq C (off := 13) (tgt := 77) (zdg dz_R_choice_1 13 rfl) (by decide) ?_ ?_
          · exact vf_perm [1, 2, 3, 6, 0] rfl (t_R_choice_77 C hn hR hr ih _ _ _ _ _)
          · refine vf_iload C (zdg dz_R_choice_1 14 rfl) 0 rfl ?_
            refine vf_iload C (zdg dz_R_choice_1 15 rfl) 5 rfl ?_
            refine vf_icmp_gt C (off := 6) (tgt := 77) (zdg dz_R_choice_1 16 rfl) (by decide) ?_ ?_
            · exact vf_perm [1, 2, 3, 6, 0] rfl (t_R_choice_77 C hn hR hr ih _ _ _ _ _)
            · refine vf_goto C (off := 10) (tgt := 84) (zdg dz_R_choice_1 17 rfl) (by decide) ?_
              exact vf_perm [1, 2, 3, 4, 5, 6] rfl (t_R_choice_84 C hn hR hr ih _ _ _ _ _ _)
      · refine vf_goto C (off := 39) (tgt := 84) (zdg dz_R_choice_1 3 rfl) (by decide) ?_
        exact t_R_choice_84 C hn hR hr ih _ _ _ _ _ _
def f_R_choice (v1 : Int) (w : Wd) : Option (Int × Wd) :=
  jcall (f_R_free w) fun r1 u2 =>
  jgd ((0 : Int) ≤ v1 ∧ v1 < 10) <|
  jcall (f_R_broughtNow u2) fun r3 u4 =>
  jlet (iand (iand r1 (u2 45 v1.toNat)) (ixor r3 (-1))) fun x5 =>
  f_R_choice_27 FU v1 x5 (-1) 0 0 u4
theorem ct_R_choice (v1 : Int) (w : Wd) : Ct y_R_choice prog_14_method_46_code 7 (some .int) 106 0 [(2, 44), (0, v1)] w (f_R_choice v1 w) := by
  refine ct_of (by decide +kernel) (Or.inl ⟨rfl, rfl⟩) (Nat.le_of_ble_eq_true rfl) ?_
  intro X Qf ad C hn hR hr
  unfold f_R_choice
  show VF X Qf ad NF 0 0 w 0 [(0, (2, 44)), (1, (0, v1))] [] _
  refine vf_aload_n C (f := 0) (zdg dz_R_choice_0 0 rfl) 0 rfl rfl ?_
  refine vf_callVi C cy_R_free ml_R_286 rfl (ct_R_free _) (S := []) sh_43 (by decide) rfl (jrm_of hR rfl) rfl rfl (Nat.le_of_ble_eq_true rfl) (zdg dz_R_choice_0 1 rfl) (fun r1 u2 => ?_)
  refine vf_aload_n C (f := 0) (zdg dz_R_choice_0 2 rfl) 0 rfl rfl ?_
  refine vf_getp C fl_R_13 sh_43 rfl (by decide) rfl (x := 46) rfl (zdg dz_R_choice_0 3 rfl) ?_
  refine vf_iload_n C (f := 1) (zdg dz_R_choice_0 4 rfl) 1 rfl rfl ?_
  refine vf_iald C sh_45 (by decide) rfl (mz := 10) rfl (zdg dz_R_choice_0 5 rfl) ?_
  refine vf_iand C (zdg dz_R_choice_0 6 rfl) ?_
  refine vf_aload_n C (f := 0) (zdg dz_R_choice_0 7 rfl) 0 rfl rfl ?_
  refine vf_callVi C cy_R_broughtNow ml_R_277 rfl (ct_R_broughtNow _) (S := [(0, iand r1 (u2 45 v1.toNat))]) sh_43 (by decide) rfl (jrm_of hR rfl) rfl rfl (Nat.le_of_ble_eq_true rfl) (zdg dz_R_choice_0 8 rfl) (fun r3 u4 => ?_)
  refine vf_iconst C (z := (-1)) (zdg dz_R_choice_0 9 rfl) (jz rfl) ?_
  refine vf_ixor C (zdg dz_R_choice_0 10 rfl) ?_
  refine vf_iand C (zdg dz_R_choice_0 11 rfl) ?_
  generalize iand (iand r1 (u2 45 v1.toNat)) (ixor r3 (-1)) = x5
  refine vf_ul ?_
  refine vf_istore_n C (f := 2) (L' := [(0, (2, 44)), (1, (0, v1))]) (zdg dz_R_choice_0 12 rfl) [0, 1] (jrI rfl rfl) hn (by decide) rfl ?_
  refine vf_iconst C (z := (-1)) (zdg dz_R_choice_0 13 rfl) (jz rfl) ?_
  refine vf_istore_n C (f := 3) (L' := [(2, (0, x5)), (0, (2, 44)), (1, (0, v1))]) (zdg dz_R_choice_0 14 rfl) [0, 1, 2] (jrI rfl rfl) hn (by decide) rfl ?_
  refine vf_iconst C (z := 0) (zdg dz_R_choice_0 15 rfl) (jz rfl) ?_
  refine vf_istore C (i := 4) (L' := [(3, (0, (-1))), (2, (0, x5)), (0, (2, 44)), (1, (0, v1))]) (zdg dz_R_choice_0 16 rfl) [0, 1, 2, 3] (jrI rfl rfl) hn (by decide) ?_
  refine vf_iconst C (z := 0) (zdg dz_R_choice_0 17 rfl) (jz rfl) ?_
  refine vf_istore C (i := 5) (L' := [(4, (0, 0)), (3, (0, (-1))), (2, (0, x5)), (0, (2, 44)), (1, (0, v1))]) (zdg dz_R_choice_0 18 rfl) [0, 1, 2, 3, 4] (jrI rfl rfl) hn (by decide) ?_
  exact vf_perm [4, 5, 3, 2, 1, 0] rfl (t_R_choice_27 C hn hR hr FU _ _ _ _ _ _)
def f_R_findChoices_37 (k6 : Int → Wd → Option (Int × Wd)) (v1 : Int) (w : Wd) : Option (Int × Wd) :=
  jlet (w32 (v1 + 1)) fun x5 =>
  k6 x5 w
theorem t_R_findChoices_37 {X : jX} {Qf : Int × Wd → State → Prop} {ad : Nat → Nat} (C : Cx X prog_14_method_47_code "EachBringsAnotherModel") (hn : xn X = 2) (hR : xR X = rmD 107) (hr : Rt X Qf ad prog_14_method_47_code 9) {k6 : Int → Wd → Option (Int × Wd)} (hk6 : ∀ (v1 : Int) (w : Wd), VF X Qf ad NF 0 0 w 6 [(0, (2, 44)), (1, (0, v1))] [] (k6 v1 w)) (v1 : Int) (w : Wd) : VF X Qf ad NF 0 0 w 37 [(0, (2, 44)), (1, (0, v1))] [] (f_R_findChoices_37 k6 v1 w) := by
  unfold f_R_findChoices_37
  refine vf_iinc C (z := 1) (L' := [(0, (2, 44))]) (zdg dz_R_findChoices_0 21 rfl) 1 rfl [0] (jrI rfl rfl) hn (by decide) ?_
  generalize w32 (v1 + 1) = x5
  refine vf_ul ?_
  refine vf_goto C (off := (-34)) (tgt := 6) (zdg dz_R_findChoices_0 22 rfl) (by decide) ?_
  exact vf_perm [1, 0] rfl (hk6 _ _)
def f_R_findChoices_6 : Nat → Int → Wd → Option (Int × Wd)
  | 0, _, _ => none
  | n + 1, v1, w =>
    if (w 43 0) ≤ v1 then
      some (0, w)
    else
      jgd ((0 : Int) ≤ v1 ∧ v1 < 10) <|
      jcall (f_R_isGuest (w 47 v1.toNat) w) fun r3 u4 =>
      if r3 = 0 then
        f_R_findChoices_37 (f_R_findChoices_6 n) v1 u4
      else
        jcall (f_R_choice v1 u4) fun r6 u7 =>
        jgd ((0 : Int) ≤ v1 ∧ v1 < 10) <|
        jlw (st u7 58 v1.toNat r6) fun u8 =>
        f_R_findChoices_37 (f_R_findChoices_6 n) v1 u8
theorem t_R_findChoices_6 {X : jX} {Qf : Int × Wd → State → Prop} {ad : Nat → Nat} (C : Cx X prog_14_method_47_code "EachBringsAnotherModel") (hn : xn X = 2) (hR : xR X = rmD 107) (hr : Rt X Qf ad prog_14_method_47_code 9) : ∀ (n : Nat) (v1 : Int) (w : Wd), VF X Qf ad NF 0 0 w 6 [(0, (2, 44)), (1, (0, v1))] [] (f_R_findChoices_6 n v1 w) := by
  intro n
  induction n with
  | zero => intros; exact vf_no
  | succ n ih =>
    intro v1 w
    rw [f_R_findChoices_6]
    refine vf_iload_n C (f := 1) (zdg dz_R_findChoices_0 4 rfl) 1 rfl rfl ?_
    refine vf_aload_n C (f := 0) (zdg dz_R_findChoices_0 5 rfl) 0 rfl rfl ?_
    refine vf_get C (kd := 0) fl_R_144 sh_43 rfl (by decide) rfl rfl (zdg dz_R_findChoices_0 6 rfl) ?_
    refine vf_icmp_ge C (off := 32) (tgt := 43) (zdg dz_R_findChoices_0 7 rfl) (by decide) ?_ ?_
    · exact hr _ _ _ _ (fun h => absurd h (by decide)) (zdg dz_R_findChoices_0 23 rfl)
    · refine vf_aload_n C (f := 0) (zdg dz_R_findChoices_0 8 rfl) 0 rfl rfl ?_
      refine vf_getp C fl_R_20 sh_43 rfl (by decide) rfl (x := 48) rfl (zdg dz_R_findChoices_0 9 rfl) ?_
      refine vf_iload_n C (f := 1) (zdg dz_R_findChoices_0 10 rfl) 1 rfl rfl ?_
      refine vf_iald C sh_47 (by decide) rfl (mz := 10) rfl (zdg dz_R_findChoices_0 11 rfl) ?_
      refine vf_callSz C cy_R_isGuest ml_R_256 (ct_R_isGuest _ _) (S := []) (jrm_of hR rfl) rfl rfl (Nat.le_of_ble_eq_true rfl) (zdg dz_R_findChoices_0 12 rfl) (fun r3 u4 => ?_)
      refine vf_if_eq C (off := 14) (tgt := 37) (zdg dz_R_findChoices_0 13 rfl) (by decide) ?_ ?_
      · exact t_R_findChoices_37 C hn hR hr ih _ _
      · refine vf_aload_n C (f := 0) (zdg dz_R_findChoices_0 14 rfl) 0 rfl rfl ?_
        refine vf_getp C fl_R_64 sh_43 rfl (by decide) rfl (x := 59) rfl (zdg dz_R_findChoices_0 15 rfl) ?_
        refine vf_iload_n C (f := 1) (zdg dz_R_findChoices_0 16 rfl) 1 rfl rfl ?_
        refine vf_aload_n C (f := 0) (zdg dz_R_findChoices_0 17 rfl) 0 rfl rfl ?_
        refine vf_iload_n C (f := 1) (zdg dz_R_findChoices_0 18 rfl) 1 rfl rfl ?_
        refine vf_callVi C cy_R_choice ml_R_298 rfl (ct_R_choice _ _) (S := [(0, v1), (2, 59)]) sh_43 (by decide) rfl (jrm_of hR rfl) rfl rfl (Nat.le_of_ble_eq_true rfl) (zdg dz_R_findChoices_0 19 rfl) (fun r6 u7 => ?_)
        refine vf_iast C sh_58 (by decide) rfl (mz := 10) rfl (zdg dz_R_findChoices_0 20 rfl) ?_
        generalize st u7 58 v1.toNat r6 = u8
        refine vf_uw ?_
        exact t_R_findChoices_37 C hn hR hr ih _ _
def f_R_findChoices (w : Wd) : Option (Int × Wd) :=
  jcall (f_R_nobody w) fun r1 u2 =>
  f_R_findChoices_6 FU 0 u2
theorem ct_R_findChoices (w : Wd) : Ct y_R_findChoices prog_14_method_47_code 2 none 107 9 [(2, 44)] w (f_R_findChoices w) := by
  refine ct_of (by decide +kernel) (Or.inr (Or.inr (Or.inr ⟨rfl, rfl⟩))) (Nat.le_of_ble_eq_true rfl) ?_
  intro X Qf ad C hn hR hr
  unfold f_R_findChoices
  show VF X Qf ad NF 0 0 w 0 [(0, (2, 44))] [] _
  refine vf_aload_n C (f := 0) (zdg dz_R_findChoices_0 0 rfl) 0 rfl rfl ?_
  refine vf_callVv C cy_R_nobody ml_R_283 rfl (ct_R_nobody _) (S := []) sh_43 (by decide) rfl (jrm_of hR rfl) rfl rfl (Nat.le_of_ble_eq_true rfl) (zdg dz_R_findChoices_0 1 rfl) (fun r1 u2 => ?_)
  refine vf_iconst C (z := 0) (zdg dz_R_findChoices_0 2 rfl) (jz rfl) ?_
  refine vf_istore_n C (f := 1) (L' := [(0, (2, 44))]) (zdg dz_R_findChoices_0 3 rfl) [0] (jrI rfl rfl) hn (by decide) rfl ?_
  exact vf_perm [1, 0] rfl (t_R_findChoices_6 C hn hR hr FU _ _)
def f_R_goes_60 (v2 v3 : Int) (w : Wd) : Option (Int × Wd) :=
  jlw (st w 43 15 0) fun u5 =>
  jcall (f_R_guests u5) fun r6 u7 =>
  jcall (f_R_tell r6 u7) fun r8 u9 =>
  jcall (f_R_tell (w32 ((u9 43 7) - v2)) u9) fun r10 u11 =>
  some (v3, u11)
theorem t_R_goes_60 {X : jX} {Qf : Int × Wd → State → Prop} {ad : Nat → Nat} (C : Cx X prog_14_method_48_code "EachBringsAnotherModel") (hn : xn X = 4) (hR : xR X = rmD 108) (hr : Rt X Qf ad prog_14_method_48_code 0) (v2 v3 : Int) (w : Wd) : VF X Qf ad NF 0 0 w 60 [(0, (2, 44)), (2, (0, v2)), (3, (0, v3))] [] (f_R_goes_60 v2 v3 w) := by
  unfold f_R_goes_60
  refine vf_aload_n C (f := 0) (zdg dz_R_goes_1 8 rfl) 0 rfl rfl ?_
  refine vf_iconst C (z := 0) (zdg dz_R_goes_1 9 rfl) (jz rfl) ?_
  refine vf_put C (kd := 0) fl_R_141 fk_11_15 sh_43 rfl (by decide) rfl rfl (by decide) (zdg dz_R_goes_1 10 rfl) ?_
  generalize st w 43 15 0 = u5
  refine vf_uw ?_
  refine vf_aload_n C (f := 0) (zdg dz_R_goes_1 11 rfl) 0 rfl rfl ?_
  refine vf_aload_n C (f := 0) (zdg dz_R_goes_1 12 rfl) 0 rfl rfl ?_
  refine vf_callVi C cy_R_guests ml_R_217 rfl (ct_R_guests _) (S := [(2, 44)]) sh_43 (by decide) rfl (jrm_of hR rfl) rfl rfl (Nat.le_of_ble_eq_true rfl) (zdg dz_R_goes_1 13 rfl) (fun r6 u7 => ?_)
  refine vf_callVv C cy_R_tell ml_R_304 rfl (ct_R_tell _ _) (S := []) sh_43 (by decide) rfl (jrm_of hR rfl) rfl rfl (Nat.le_of_ble_eq_true rfl) (zdg dz_R_goes_1 14 rfl) (fun r8 u9 => ?_)
  refine vf_aload_n C (f := 0) (zdg dz_R_goes_1 15 rfl) 0 rfl rfl ?_
  refine vf_aload_n C (f := 0) (zdg dz_R_goes_1 16 rfl) 0 rfl rfl ?_
  refine vf_get C (kd := 0) fl_R_270 sh_43 rfl (by decide) rfl rfl (zdg dz_R_goes_1 17 rfl) ?_
  refine vf_iload_n C (f := 2) (zdg dz_R_goes_1 18 rfl) 1 rfl rfl ?_
  refine vf_isub C (zdg dz_R_goes_1 19 rfl) ?_
  refine vf_callVv C cy_R_tell ml_R_304 rfl (ct_R_tell _ _) (S := []) sh_43 (by decide) rfl (jrm_of hR rfl) rfl rfl (Nat.le_of_ble_eq_true rfl) (zdg dz_R_goes_1 20 rfl) (fun r10 u11 => ?_)
  refine vf_iload_n C (f := 3) (zdg dz_R_goes_1 21 rfl) 2 rfl rfl ?_
  exact hr _ _ _ _ (fun h => absurd h (by decide)) (zdg dz_R_goes_1 22 rfl)
def f_R_goes_24 : Nat → Int → Int → Int → Wd → Option (Int × Wd)
  | 0, _, _, _, _ => none
  | n + 1, v1, v2, v3, w =>
    if v1 ≤ v3 then
      f_R_goes_60 v2 v3 w
    else
      if (60 : Int) ≤ (w 43 8) then
        f_R_goes_60 v2 v3 w
      else
        jcall (f_R_guests w) fun r12 u13 =>
        if r12 = 0 then
          f_R_goes_60 v2 v3 u13
        else
          jcall (f_R_findChoices u13) fun r14 u15 =>
          jcall (f_R_goWeek u15) fun r16 u17 =>
          jlet (w32 (v3 + 1)) fun x18 =>
          f_R_goes_24 n v1 v2 x18 u17
theorem t_R_goes_24 {X : jX} {Qf : Int × Wd → State → Prop} {ad : Nat → Nat} (C : Cx X prog_14_method_48_code "EachBringsAnotherModel") (hn : xn X = 4) (hR : xR X = rmD 108) (hr : Rt X Qf ad prog_14_method_48_code 0) : ∀ (n : Nat) (v1 v2 v3 : Int) (w : Wd), VF X Qf ad NF 0 0 w 24 [(0, (2, 44)), (1, (0, v1)), (2, (0, v2)), (3, (0, v3))] [] (f_R_goes_24 n v1 v2 v3 w) := by
  intro n
  induction n with
  | zero => intros; exact vf_no
  | succ n ih =>
    intro v1 v2 v3 w
    rw [f_R_goes_24]
    refine vf_iload_n C (f := 3) (zdg dz_R_goes_0 15 rfl) 3 rfl rfl ?_
    refine vf_iload_n C (f := 1) (zdg dz_R_goes_0 16 rfl) 1 rfl rfl ?_
    refine vf_icmp_ge C (off := 34) (tgt := 60) (zdg dz_R_goes_0 17 rfl) (by decide) ?_ ?_
    · exact vf_perm [0, 2, 3] rfl (t_R_goes_60 C hn hR hr _ _ _)
    · refine vf_aload_n C (f := 0) (zdg dz_R_goes_0 18 rfl) 0 rfl rfl ?_
      refine vf_get C (kd := 0) fl_R_214 sh_43 rfl (by decide) rfl rfl (zdg dz_R_goes_0 19 rfl) ?_
      refine vf_bipush C (z := 60) (zdg dz_R_goes_0 20 rfl) (by decide +kernel) (jz rfl) ?_
      refine vf_icmp_ge C (off := 25) (tgt := 60) (zdg dz_R_goes_0 21 rfl) (by decide) ?_ ?_
      · exact vf_perm [0, 2, 3] rfl (t_R_goes_60 C hn hR hr _ _ _)
      · refine vf_aload_n C (f := 0) (zdg dz_R_goes_0 22 rfl) 0 rfl rfl ?_
        refine vf_callVi C cy_R_guests ml_R_217 rfl (ct_R_guests _) (S := []) sh_43 (by decide) rfl (jrm_of hR rfl) rfl rfl (Nat.le_of_ble_eq_true rfl) (zdg dz_R_goes_0 23 rfl) (fun r12 u13 => ?_)
        refine vf_if_eq C (off := 18) (tgt := 60) (zdg dz_R_goes_1 0 rfl) (by decide) ?_ ?_
        · exact vf_perm [0, 2, 3] rfl (t_R_goes_60 C hn hR hr _ _ _)
        · refine vf_aload_n C (f := 0) (zdg dz_R_goes_1 1 rfl) 0 rfl rfl ?_
          refine vf_callVv C cy_R_findChoices ml_R_301 rfl (ct_R_findChoices _) (S := []) sh_43 (by decide) rfl (jrm_of hR rfl) rfl rfl (Nat.le_of_ble_eq_true rfl) (zdg dz_R_goes_1 2 rfl) (fun r14 u15 => ?_)
          refine vf_aload_n C (f := 0) (zdg dz_R_goes_1 3 rfl) 0 rfl rfl ?_
          refine vf_callVi C cy_R_goWeek ml_R_292 rfl (ct_R_goWeek _) (S := []) sh_43 (by decide) rfl (jrm_of hR rfl) rfl rfl (Nat.le_of_ble_eq_true rfl) (zdg dz_R_goes_1 4 rfl) (fun r16 u17 => ?_)
          refine vf_pop C (zdg dz_R_goes_1 5 rfl) Nat.zero_ne_one ?_
          refine vf_iinc C (z := 1) (L' := [(0, (2, 44)), (1, (0, v1)), (2, (0, v2))]) (zdg dz_R_goes_1 6 rfl) 3 rfl [0, 1, 2] (jrI rfl rfl) hn (by decide) ?_
          generalize w32 (v3 + 1) = x18
          refine vf_ul ?_
          refine vf_goto C (off := (-33)) (tgt := 24) (zdg dz_R_goes_1 7 rfl) (by decide) ?_
          exact vf_perm [1, 2, 3, 0] rfl (ih _ _ _ _)
def f_R_goes (v1 : Int) (w : Wd) : Option (Int × Wd) :=
  jlw (st w 43 16 0) fun u1 =>
  jcall (f_R_in v1 0 60 u1) fun r2 u3 =>
  if r2 = 0 then
    some ((-1), u3)
  else
    jlet (u3 43 7) fun x4 =>
    f_R_goes_24 FU v1 x4 0 u3
theorem ct_R_goes (v1 : Int) (w : Wd) : Ct y_R_goes prog_14_method_48_code 4 (some .int) 108 0 [(2, 44), (0, v1)] w (f_R_goes v1 w) := by
  refine ct_of (by decide +kernel) (Or.inl ⟨rfl, rfl⟩) (Nat.le_of_ble_eq_true rfl) ?_
  intro X Qf ad C hn hR hr
  unfold f_R_goes
  show VF X Qf ad NF 0 0 w 0 [(0, (2, 44)), (1, (0, v1))] [] _
  refine vf_aload_n C (f := 0) (zdg dz_R_goes_0 0 rfl) 0 rfl rfl ?_
  refine vf_iconst C (z := 0) (zdg dz_R_goes_0 1 rfl) (jz rfl) ?_
  refine vf_put C (kd := 0) fl_R_138 fk_11_16 sh_43 rfl (by decide) rfl rfl (by decide) (zdg dz_R_goes_0 2 rfl) ?_
  generalize st w 43 16 0 = u1
  refine vf_uw ?_
  refine vf_iload_n C (f := 1) (zdg dz_R_goes_0 3 rfl) 1 rfl rfl ?_
  refine vf_iconst C (z := 0) (zdg dz_R_goes_0 4 rfl) (jz rfl) ?_
  refine vf_bipush C (z := 60) (zdg dz_R_goes_0 5 rfl) (by decide +kernel) (jz rfl) ?_
  refine vf_callSz C cy_R_in ml_R_147 (ct_R_in _ _ _ _) (S := []) (jrm_of hR rfl) rfl rfl (Nat.le_of_ble_eq_true rfl) (zdg dz_R_goes_0 6 rfl) (fun r2 u3 => ?_)
  refine vf_if_ne C (off := 5) (tgt := 17) (zdg dz_R_goes_0 7 rfl) (by decide) ?_ ?_
  · refine vf_aload_n C (f := 0) (zdg dz_R_goes_0 10 rfl) 0 rfl rfl ?_
    refine vf_get C (kd := 0) fl_R_270 sh_43 rfl (by decide) rfl rfl (zdg dz_R_goes_0 11 rfl) ?_
    generalize u3 43 7 = x4
    refine vf_ul ?_
    refine vf_istore_n C (f := 2) (L' := [(0, (2, 44)), (1, (0, v1))]) (zdg dz_R_goes_0 12 rfl) [0, 1] (jrI rfl rfl) hn (by decide) rfl ?_
    refine vf_iconst C (z := 0) (zdg dz_R_goes_0 13 rfl) (jz rfl) ?_
    refine vf_istore_n C (f := 3) (L' := [(2, (0, x4)), (0, (2, 44)), (1, (0, v1))]) (zdg dz_R_goes_0 14 rfl) [0, 1, 2] (jrI rfl rfl) hn (by decide) rfl ?_
    exact vf_perm [2, 3, 1, 0] rfl (t_R_goes_24 C hn hR hr FU _ _ _ _)
  · refine vf_iconst C (z := (-1)) (zdg dz_R_goes_0 8 rfl) (jz rfl) ?_
    exact hr _ _ _ _ (fun h => absurd h (by decide)) (zdg dz_R_goes_0 9 rfl)
def f_R_bring_43_59_2 : Nat → Int → Int → Wd → Option (Int × Wd)
  | 0, _, _, _ => none
  | n + 1, v2, v3, w =>
    if (w 43 0) ≤ v3 then
      jgd ((0 : Int) ≤ (w32 (v2 + 30)) ∧ (w32 (v2 + 30)) < 1860) <|
      jlw (st w 43 7 (w 59 (w32 (v2 + 30)).toNat)) fun u1 =>
      some (0, u1)
    else
      jgd ((0 : Int) ≤ (w32 (v2 + (w32 (3 * v3)))) ∧ (w32 (v2 + (w32 (3 * v3)))) < 1860) <|
      jgd ((0 : Int) ≤ v3 ∧ v3 < 10) <|
      jlw (st w 47 v3.toNat ((w 59 (w32 (v2 + (w32 (3 * v3)))).toNat))) fun u2 =>
      jgd ((0 : Int) ≤ (w32 ((w32 (v2 + (w32 (3 * v3)))) + 1)) ∧ (w32 ((w32 (v2 + (w32 (3 * v3)))) + 1)) < 1860) <|
      jgd ((0 : Int) ≤ v3 ∧ v3 < 10) <|
      jlw (st u2 48 v3.toNat ((u2 59 (w32 ((w32 (v2 + (w32 (3 * v3)))) + 1)).toNat))) fun u3 =>
      jgd ((0 : Int) ≤ (w32 ((w32 (v2 + (w32 (3 * v3)))) + 2)) ∧ (w32 ((w32 (v2 + (w32 (3 * v3)))) + 2)) < 1860) <|
      jgd ((0 : Int) ≤ v3 ∧ v3 < 10) <|
      jlw (st u3 49 v3.toNat ((u3 59 (w32 ((w32 (v2 + (w32 (3 * v3)))) + 2)).toNat))) fun u4 =>
      jlet (w32 (v3 + 1)) fun x5 =>
      f_R_bring_43_59_2 n v2 x5 u4
theorem t_R_bring_43_59_2 {X : jX} {Qf : Int × Wd → State → Prop} {ad : Nat → Nat} (C : Cx X prog_14_method_42_code "EachBringsAnotherModel") (hn : xn X = 4) (hR : xR X = rmD 1) (hr : Rt X Qf ad prog_14_method_42_code 9) : ∀ (n : Nat) (v2 v3 : Int) (w : Wd), VF X Qf ad NF 0 0 w 2 [(0, (2, 44)), (1, (2, 60)), (2, (0, v2)), (3, (0, v3))] [] (f_R_bring_43_59_2 n v2 v3 w) := by
  intro n
  induction n with
  | zero => intros; exact vf_no
  | succ n ih =>
    intro v2 v3 w
    rw [f_R_bring_43_59_2]
    refine vf_iload_n C (f := 3) (zdg dz_R_bring_0 2 rfl) 3 rfl rfl ?_
    refine vf_aload_n C (f := 0) (zdg dz_R_bring_0 3 rfl) 0 rfl rfl ?_
    refine vf_get C (kd := 0) fl_R_144 sh_43 rfl (by decide) rfl rfl (zdg dz_R_bring_0 4 rfl) ?_
    refine vf_icmp_ge C (off := 52) (tgt := 59) (zdg dz_R_bring_0 5 rfl) (by decide) ?_ ?_
    · refine vf_aload_n C (f := 0) (zdg dz_R_bring_1 21 rfl) 0 rfl rfl ?_
      refine vf_aload_n C (f := 1) (zdg dz_R_bring_1 22 rfl) 1 rfl rfl ?_
      refine vf_iload_n C (f := 2) (zdg dz_R_bring_1 23 rfl) 2 rfl rfl ?_
      refine vf_bipush C (z := 30) (zdg dz_R_bring_2 0 rfl) (by decide +kernel) (jz rfl) ?_
      refine vf_iadd C (zdg dz_R_bring_2 1 rfl) ?_
      refine vf_iald C sh_59 (by decide) rfl (mz := 1860) rfl (zdg dz_R_bring_2 2 rfl) ?_
      refine vf_put C (kd := 0) fl_R_270 fk_11_7 sh_43 rfl (by decide) rfl rfl (by decide) (zdg dz_R_bring_2 3 rfl) ?_
      generalize st w 43 7 (w 59 (w32 (v2 + 30)).toNat) = u1
      refine vf_uw ?_
      exact hr _ _ _ _ (fun h => absurd h (by decide)) (zdg dz_R_bring_2 4 rfl)
    · refine vf_aload_n C (f := 0) (zdg dz_R_bring_0 6 rfl) 0 rfl rfl ?_
      refine vf_getp C fl_R_20 sh_43 rfl (by decide) rfl (x := 48) rfl (zdg dz_R_bring_0 7 rfl) ?_
      refine vf_iload_n C (f := 3) (zdg dz_R_bring_0 8 rfl) 3 rfl rfl ?_
      refine vf_aload_n C (f := 1) (zdg dz_R_bring_0 9 rfl) 1 rfl rfl ?_
      refine vf_iload_n C (f := 2) (zdg dz_R_bring_0 10 rfl) 2 rfl rfl ?_
      refine vf_iconst C (z := 3) (zdg dz_R_bring_0 11 rfl) (jz rfl) ?_
      refine vf_iload_n C (f := 3) (zdg dz_R_bring_0 12 rfl) 3 rfl rfl ?_
      refine vf_imul C (zdg dz_R_bring_0 13 rfl) ?_
      refine vf_iadd C (zdg dz_R_bring_0 14 rfl) ?_
      refine vf_iald C sh_59 (by decide) rfl (mz := 1860) rfl (zdg dz_R_bring_0 15 rfl) ?_
      refine vf_iast C sh_47 (by decide) rfl (mz := 10) rfl (zdg dz_R_bring_0 16 rfl) ?_
      generalize st w 47 v3.toNat ((w 59 (w32 (v2 + (w32 (3 * v3)))).toNat)) = u2
      refine vf_uw ?_
      refine vf_aload_n C (f := 0) (zdg dz_R_bring_0 17 rfl) 0 rfl rfl ?_
      refine vf_getp C fl_R_23 sh_43 rfl (by decide) rfl (x := 49) rfl (zdg dz_R_bring_0 18 rfl) ?_
      refine vf_iload_n C (f := 3) (zdg dz_R_bring_0 19 rfl) 3 rfl rfl ?_
      refine vf_aload_n C (f := 1) (zdg dz_R_bring_0 20 rfl) 1 rfl rfl ?_
      refine vf_iload_n C (f := 2) (zdg dz_R_bring_0 21 rfl) 2 rfl rfl ?_
      refine vf_iconst C (z := 3) (zdg dz_R_bring_0 22 rfl) (jz rfl) ?_
      refine vf_iload_n C (f := 3) (zdg dz_R_bring_0 23 rfl) 3 rfl rfl ?_
      refine vf_imul C (zdg dz_R_bring_1 0 rfl) ?_
      refine vf_iadd C (zdg dz_R_bring_1 1 rfl) ?_
      refine vf_iconst C (z := 1) (zdg dz_R_bring_1 2 rfl) (jz rfl) ?_
      refine vf_iadd C (zdg dz_R_bring_1 3 rfl) ?_
      refine vf_iald C sh_59 (by decide) rfl (mz := 1860) rfl (zdg dz_R_bring_1 4 rfl) ?_
      refine vf_iast C sh_48 (by decide) rfl (mz := 10) rfl (zdg dz_R_bring_1 5 rfl) ?_
      generalize st u2 48 v3.toNat ((u2 59 (w32 ((w32 (v2 + (w32 (3 * v3)))) + 1)).toNat)) = u3
      refine vf_uw ?_
      refine vf_aload_n C (f := 0) (zdg dz_R_bring_1 6 rfl) 0 rfl rfl ?_
      refine vf_getp C fl_R_26 sh_43 rfl (by decide) rfl (x := 50) rfl (zdg dz_R_bring_1 7 rfl) ?_
      refine vf_iload_n C (f := 3) (zdg dz_R_bring_1 8 rfl) 3 rfl rfl ?_
      refine vf_aload_n C (f := 1) (zdg dz_R_bring_1 9 rfl) 1 rfl rfl ?_
      refine vf_iload_n C (f := 2) (zdg dz_R_bring_1 10 rfl) 2 rfl rfl ?_
      refine vf_iconst C (z := 3) (zdg dz_R_bring_1 11 rfl) (jz rfl) ?_
      refine vf_iload_n C (f := 3) (zdg dz_R_bring_1 12 rfl) 3 rfl rfl ?_
      refine vf_imul C (zdg dz_R_bring_1 13 rfl) ?_
      refine vf_iadd C (zdg dz_R_bring_1 14 rfl) ?_
      refine vf_iconst C (z := 2) (zdg dz_R_bring_1 15 rfl) (jz rfl) ?_
      refine vf_iadd C (zdg dz_R_bring_1 16 rfl) ?_
      refine vf_iald C sh_59 (by decide) rfl (mz := 1860) rfl (zdg dz_R_bring_1 17 rfl) ?_
      refine vf_iast C sh_49 (by decide) rfl (mz := 10) rfl (zdg dz_R_bring_1 18 rfl) ?_
      generalize st u3 49 v3.toNat ((u3 59 (w32 ((w32 (v2 + (w32 (3 * v3)))) + 2)).toNat)) = u4
      refine vf_uw ?_
      refine vf_iinc C (z := 1) (L' := [(0, (2, 44)), (1, (2, 60)), (2, (0, v2))]) (zdg dz_R_bring_1 19 rfl) 3 rfl [0, 1, 2] (jrI rfl rfl) hn (by decide) ?_
      generalize w32 (v3 + 1) = x5
      refine vf_ul ?_
      refine vf_goto C (off := (-54)) (tgt := 2) (zdg dz_R_bring_1 20 rfl) (by decide) ?_
      exact vf_perm [1, 2, 3, 0] rfl (ih _ _ _)
def f_R_bring_43_59 (v2 : Int) (w : Wd) : Option (Int × Wd) :=
  f_R_bring_43_59_2 FU v2 0 w
theorem ct_R_bring_43_59 (v2 : Int) (w : Wd) : Ct y_R_bring prog_14_method_42_code 4 none 1 9 [(2, 44), (2, 60), (0, v2)] w (f_R_bring_43_59 v2 w) := by
  refine ct_of (by decide +kernel) (Or.inr (Or.inr (Or.inr ⟨rfl, rfl⟩))) (Nat.le_of_ble_eq_true rfl) ?_
  intro X Qf ad C hn hR hr
  unfold f_R_bring_43_59
  show VF X Qf ad NF 0 0 w 0 [(0, (2, 44)), (1, (2, 60)), (2, (0, v2))] [] _
  refine vf_iconst C (z := 0) (zdg dz_R_bring_0 0 rfl) (jz rfl) ?_
  refine vf_istore_n C (f := 3) (L' := [(0, (2, 44)), (1, (2, 60)), (2, (0, v2))]) (zdg dz_R_bring_0 1 rfl) [0, 1, 2] (jrI rfl rfl) hn (by decide) rfl ?_
  exact vf_perm [1, 2, 3, 0] rfl (t_R_bring_43_59_2 C hn hR hr FU _ _ _)
def f_R_undo (w : Wd) : Option (Int × Wd) :=
  jlw (st w 43 16 0) fun u1 =>
  if (u1 43 32) = 0 then
    some ((-1), u1)
  else
    jlw (st u1 43 32 (w32 ((u1 43 32) - 1))) fun u2 =>
    jlw (st u2 43 8 (w32 ((u2 43 8) - 1))) fun u3 =>
    jcall (f_R_bring_43_59 (w32 (31 * (u3 43 32))) u3) fun r4 u5 =>
    some (u5 43 8, u5)
theorem ct_R_undo (w : Wd) : Ct y_R_undo prog_14_method_49_code 1 (some .int) 2 0 [(2, 44)] w (f_R_undo w) := by
  refine ct_of (by decide +kernel) (Or.inl ⟨rfl, rfl⟩) (Nat.le_of_ble_eq_true rfl) ?_
  intro X Qf ad C hn hR hr
  unfold f_R_undo
  show VF X Qf ad NF 0 0 w 0 [(0, (2, 44))] [] _
  refine vf_aload_n C (f := 0) (zdg dz_R_undo_0 0 rfl) 0 rfl rfl ?_
  refine vf_iconst C (z := 0) (zdg dz_R_undo_0 1 rfl) (jz rfl) ?_
  refine vf_put C (kd := 0) fl_R_138 fk_11_16 sh_43 rfl (by decide) rfl rfl (by decide) (zdg dz_R_undo_0 2 rfl) ?_
  generalize st w 43 16 0 = u1
  refine vf_uw ?_
  refine vf_aload_n C (f := 0) (zdg dz_R_undo_0 3 rfl) 0 rfl rfl ?_
  refine vf_get C (kd := 0) fl_R_220 sh_43 rfl (by decide) rfl rfl (zdg dz_R_undo_0 4 rfl) ?_
  refine vf_if_ne C (off := 5) (tgt := 14) (zdg dz_R_undo_0 5 rfl) (by decide) ?_ ?_
  · refine vf_aload_n C (f := 0) (zdg dz_R_undo_0 8 rfl) 0 rfl rfl ?_
    refine vf_dup C (zdg dz_R_undo_0 9 rfl) (Nat.succ_ne_self 1) ?_
    refine vf_get C (kd := 0) fl_R_220 sh_43 rfl (by decide) rfl rfl (zdg dz_R_undo_0 10 rfl) ?_
    refine vf_iconst C (z := 1) (zdg dz_R_undo_0 11 rfl) (jz rfl) ?_
    refine vf_isub C (zdg dz_R_undo_0 12 rfl) ?_
    refine vf_put C (kd := 0) fl_R_220 fk_11_32 sh_43 rfl (by decide) rfl rfl (by decide) (zdg dz_R_undo_0 13 rfl) ?_
    generalize st u1 43 32 (w32 ((u1 43 32) - 1)) = u2
    refine vf_uw ?_
    refine vf_aload_n C (f := 0) (zdg dz_R_undo_0 14 rfl) 0 rfl rfl ?_
    refine vf_dup C (zdg dz_R_undo_0 15 rfl) (Nat.succ_ne_self 1) ?_
    refine vf_get C (kd := 0) fl_R_214 sh_43 rfl (by decide) rfl rfl (zdg dz_R_undo_0 16 rfl) ?_
    refine vf_iconst C (z := 1) (zdg dz_R_undo_0 17 rfl) (jz rfl) ?_
    refine vf_isub C (zdg dz_R_undo_0 18 rfl) ?_
    refine vf_put C (kd := 0) fl_R_214 fk_11_8 sh_43 rfl (by decide) rfl rfl (by decide) (zdg dz_R_undo_0 19 rfl) ?_
    generalize st u2 43 8 (w32 ((u2 43 8) - 1)) = u3
    refine vf_uw ?_
    refine vf_aload_n C (f := 0) (zdg dz_R_undo_0 20 rfl) 0 rfl rfl ?_
    refine vf_aload_n C (f := 0) (zdg dz_R_undo_0 21 rfl) 0 rfl rfl ?_
    refine vf_getp C fl_R_67 sh_43 rfl (by decide) rfl (x := 60) rfl (zdg dz_R_undo_0 22 rfl) ?_
    refine vf_bipush C (z := 31) (zdg dz_R_undo_0 23 rfl) (by decide +kernel) (jz rfl) ?_
    refine vf_aload_n C (f := 0) (zdg dz_R_undo_1 0 rfl) 0 rfl rfl ?_
    refine vf_get C (kd := 0) fl_R_220 sh_43 rfl (by decide) rfl rfl (zdg dz_R_undo_1 1 rfl) ?_
    refine vf_imul C (zdg dz_R_undo_1 2 rfl) ?_
    refine vf_callVv C cy_R_bring ml_R_307 rfl (ct_R_bring_43_59 _ _) (S := []) sh_43 (by decide) rfl (jrm_of hR rfl) rfl rfl (Nat.le_of_ble_eq_true rfl) (zdg dz_R_undo_1 3 rfl) (fun r4 u5 => ?_)
    refine vf_aload_n C (f := 0) (zdg dz_R_undo_1 4 rfl) 0 rfl rfl ?_
    refine vf_get C (kd := 0) fl_R_214 sh_43 rfl (by decide) rfl rfl (zdg dz_R_undo_1 5 rfl) ?_
    exact hr _ _ _ _ (fun h => absurd h (by decide)) (zdg dz_R_undo_1 6 rfl)
  · refine vf_iconst C (z := (-1)) (zdg dz_R_undo_0 6 rfl) (jz rfl) ?_
    exact hr _ _ _ _ (fun h => absurd h (by decide)) (zdg dz_R_undo_0 7 rfl)
def f_R_can_68 (k11 : Int → Int → Int → Wd → Option (Int × Wd)) (v1 v2 v3 : Int) (w : Wd) : Option (Int × Wd) :=
  jlet (w32 (v3 + 1)) fun x7 =>
  k11 v1 v2 x7 w
theorem t_R_can_68 {X : jX} {Qf : Int × Wd → State → Prop} {ad : Nat → Nat} (C : Cx X prog_14_method_50_code "EachBringsAnotherModel") (hn : xn X = 4) (hR : xR X = rmD 4) (hr : Rt X Qf ad prog_14_method_50_code 0) {k11 : Int → Int → Int → Wd → Option (Int × Wd)} (hk11 : ∀ (v1 v2 v3 : Int) (w : Wd), VF X Qf ad NF 0 0 w 11 [(0, (2, 44)), (1, (0, v1)), (2, (0, v2)), (3, (0, v3))] [] (k11 v1 v2 v3 w)) (v1 v2 v3 : Int) (w : Wd) : VF X Qf ad NF 0 0 w 68 [(0, (2, 44)), (1, (0, v1)), (2, (0, v2)), (3, (0, v3))] [] (f_R_can_68 k11 v1 v2 v3 w) := by
  unfold f_R_can_68
  refine vf_iinc C (z := 1) (L' := [(0, (2, 44)), (1, (0, v1)), (2, (0, v2))]) (zdg dz_R_can_1 20 rfl) 3 rfl [0, 1, 2] (jrI rfl rfl) hn (by decide) ?_
  generalize w32 (v3 + 1) = x7
  refine vf_ul ?_
  refine vf_goto C (off := (-60)) (tgt := 11) (zdg dz_R_can_1 21 rfl) (by decide) ?_
  exact vf_perm [1, 2, 3, 0] rfl (hk11 _ _ _ _)
def f_R_can_11 : Nat → Int → Int → Int → Wd → Option (Int × Wd)
  | 0, _, _, _, _ => none
  | n + 1, v1, v2, v3, w =>
    if (w 43 0) ≤ v3 then
      jlw (st w 43 15 0) fun u2 =>
      jcall (f_R_tell v2 u2) fun r3 u4 =>
      some (v1, u4)
    else
      jgd ((0 : Int) ≤ v3 ∧ v3 < 10) <|
      jcall (f_R_isGuest (w 47 v3.toNat) w) fun r5 u6 =>
      if r5 = 0 then
        f_R_can_68 (f_R_can_11 n) v1 v2 v3 u6
      else
        jgd ((0 : Int) ≤ v3 ∧ v3 < 10) <|
        jcall (f_R_free u6) fun r8 u9 =>
        if (iand (u6 45 v3.toNat) r8) = 0 then
          f_R_can_68 (f_R_can_11 n) v1 v2 v3 u9
        else
          jlet (ior v1 (ishl 1 v3)) fun x10 =>
          jgd ((0 : Int) ≤ v3 ∧ v3 < 10) <|
          jcall (f_R_free u9) fun r11 u12 =>
          jlet (ior v2 (iand (u9 45 v3.toNat) r11)) fun x13 =>
          f_R_can_68 (f_R_can_11 n) x10 x13 v3 u12
theorem t_R_can_11 {X : jX} {Qf : Int × Wd → State → Prop} {ad : Nat → Nat} (C : Cx X prog_14_method_50_code "EachBringsAnotherModel") (hn : xn X = 4) (hR : xR X = rmD 4) (hr : Rt X Qf ad prog_14_method_50_code 0) : ∀ (n : Nat) (v1 v2 v3 : Int) (w : Wd), VF X Qf ad NF 0 0 w 11 [(0, (2, 44)), (1, (0, v1)), (2, (0, v2)), (3, (0, v3))] [] (f_R_can_11 n v1 v2 v3 w) := by
  intro n
  induction n with
  | zero => intros; exact vf_no
  | succ n ih =>
    intro v1 v2 v3 w
    rw [f_R_can_11]
    refine vf_iload_n C (f := 3) (zdg dz_R_can_0 9 rfl) 3 rfl rfl ?_
    refine vf_aload_n C (f := 0) (zdg dz_R_can_0 10 rfl) 0 rfl rfl ?_
    refine vf_get C (kd := 0) fl_R_144 sh_43 rfl (by decide) rfl rfl (zdg dz_R_can_0 11 rfl) ?_
    refine vf_icmp_ge C (off := 58) (tgt := 74) (zdg dz_R_can_0 12 rfl) (by decide) ?_ ?_
    · refine vf_aload_n C (f := 0) (zdg dz_R_can_1 22 rfl) 0 rfl rfl ?_
      refine vf_iconst C (z := 0) (zdg dz_R_can_1 23 rfl) (jz rfl) ?_
      refine vf_put C (kd := 0) fl_R_141 fk_11_15 sh_43 rfl (by decide) rfl rfl (by decide) (zdg dz_R_can_2 0 rfl) ?_
      generalize st w 43 15 0 = u2
      refine vf_uw ?_
      refine vf_aload_n C (f := 0) (zdg dz_R_can_2 1 rfl) 0 rfl rfl ?_
      refine vf_iload_n C (f := 2) (zdg dz_R_can_2 2 rfl) 2 rfl rfl ?_
      refine vf_callVv C cy_R_tell ml_R_304 rfl (ct_R_tell _ _) (S := []) sh_43 (by decide) rfl (jrm_of hR rfl) rfl rfl (Nat.le_of_ble_eq_true rfl) (zdg dz_R_can_2 3 rfl) (fun r3 u4 => ?_)
      refine vf_iload_n C (f := 1) (zdg dz_R_can_2 4 rfl) 1 rfl rfl ?_
      exact hr _ _ _ _ (fun h => absurd h (by decide)) (zdg dz_R_can_2 5 rfl)
    · refine vf_aload_n C (f := 0) (zdg dz_R_can_0 13 rfl) 0 rfl rfl ?_
      refine vf_getp C fl_R_20 sh_43 rfl (by decide) rfl (x := 48) rfl (zdg dz_R_can_0 14 rfl) ?_
      refine vf_iload_n C (f := 3) (zdg dz_R_can_0 15 rfl) 3 rfl rfl ?_
      refine vf_iald C sh_47 (by decide) rfl (mz := 10) rfl (zdg dz_R_can_0 16 rfl) ?_
      refine vf_callSz C cy_R_isGuest ml_R_256 (ct_R_isGuest _ _) (S := []) (jrm_of hR rfl) rfl rfl (Nat.le_of_ble_eq_true rfl) (zdg dz_R_can_0 17 rfl) (fun r5 u6 => ?_)
      refine vf_if_eq C (off := 40) (tgt := 68) (zdg dz_R_can_0 18 rfl) (by decide) ?_ ?_
      · exact t_R_can_68 C hn hR hr ih _ _ _ _
      · refine vf_aload_n C (f := 0) (zdg dz_R_can_0 19 rfl) 0 rfl rfl ?_
        refine vf_getp C fl_R_13 sh_43 rfl (by decide) rfl (x := 46) rfl (zdg dz_R_can_0 20 rfl) ?_
        refine vf_iload_n C (f := 3) (zdg dz_R_can_0 21 rfl) 3 rfl rfl ?_
        refine vf_iald C sh_45 (by decide) rfl (mz := 10) rfl (zdg dz_R_can_0 22 rfl) ?_
        refine vf_aload_n C (f := 0) (zdg dz_R_can_0 23 rfl) 0 rfl rfl ?_
        refine vf_callVi C cy_R_free ml_R_286 rfl (ct_R_free _) (S := [(0, u6 45 v3.toNat)]) sh_43 (by decide) rfl (jrm_of hR rfl) rfl rfl (Nat.le_of_ble_eq_true rfl) (zdg dz_R_can_1 0 rfl) (fun r8 u9 => ?_)
        refine vf_iand C (zdg dz_R_can_1 1 rfl) ?_
        refine vf_if_ne C (off := 6) (tgt := 48) (zdg dz_R_can_1 2 rfl) (by decide) ?_ ?_
        · refine vf_iload_n C (f := 1) (zdg dz_R_can_1 4 rfl) 1 rfl rfl ?_
          refine vf_iconst C (z := 1) (zdg dz_R_can_1 5 rfl) (jz rfl) ?_
          refine vf_iload_n C (f := 3) (zdg dz_R_can_1 6 rfl) 3 rfl rfl ?_
          refine vf_ishl C (zdg dz_R_can_1 7 rfl) ?_
          refine vf_ior C (zdg dz_R_can_1 8 rfl) ?_
          generalize ior v1 (ishl 1 v3) = x10
          refine vf_ul ?_
          refine vf_istore_n C (f := 1) (L' := [(0, (2, 44)), (2, (0, v2)), (3, (0, v3))]) (zdg dz_R_can_1 9 rfl) [0, 2, 3] (jrI rfl rfl) hn (by decide) rfl ?_
          refine vf_iload_n C (f := 2) (zdg dz_R_can_1 10 rfl) 2 rfl rfl ?_
          refine vf_aload_n C (f := 0) (zdg dz_R_can_1 11 rfl) 1 rfl rfl ?_
          refine vf_getp C fl_R_13 sh_43 rfl (by decide) rfl (x := 46) rfl (zdg dz_R_can_1 12 rfl) ?_
          refine vf_iload_n C (f := 3) (zdg dz_R_can_1 13 rfl) 3 rfl rfl ?_
          refine vf_iald C sh_45 (by decide) rfl (mz := 10) rfl (zdg dz_R_can_1 14 rfl) ?_
          refine vf_aload_n C (f := 0) (zdg dz_R_can_1 15 rfl) 1 rfl rfl ?_
          refine vf_callVi C cy_R_free ml_R_286 rfl (ct_R_free _) (S := [(0, u9 45 v3.toNat), (0, v2)]) sh_43 (by decide) rfl (jrm_of hR rfl) rfl rfl (Nat.le_of_ble_eq_true rfl) (zdg dz_R_can_1 16 rfl) (fun r11 u12 => ?_)
          refine vf_iand C (zdg dz_R_can_1 17 rfl) ?_
          refine vf_ior C (zdg dz_R_can_1 18 rfl) ?_
          generalize ior v2 (iand (u9 45 v3.toNat) r11) = x13
          refine vf_ul ?_
          refine vf_istore_n C (f := 2) (L' := [(1, (0, x10)), (0, (2, 44)), (3, (0, v3))]) (zdg dz_R_can_1 19 rfl) [0, 1, 3] (jrI rfl rfl) hn (by decide) rfl ?_
          exact vf_perm [2, 1, 0, 3] rfl (t_R_can_68 C hn hR hr ih _ _ _ _)
        · refine vf_goto C (off := 23) (tgt := 68) (zdg dz_R_can_1 3 rfl) (by decide) ?_
          exact t_R_can_68 C hn hR hr ih _ _ _ _
def f_R_can (w : Wd) : Option (Int × Wd) :=
  jlw (st w 43 16 0) fun u1 =>
  f_R_can_11 FU 0 0 0 u1
theorem ct_R_can (w : Wd) : Ct y_R_can prog_14_method_50_code 4 (some .int) 4 0 [(2, 44)] w (f_R_can w) := by
  refine ct_of (by decide +kernel) (Or.inl ⟨rfl, rfl⟩) (Nat.le_of_ble_eq_true rfl) ?_
  intro X Qf ad C hn hR hr
  unfold f_R_can
  show VF X Qf ad NF 0 0 w 0 [(0, (2, 44))] [] _
  refine vf_aload_n C (f := 0) (zdg dz_R_can_0 0 rfl) 0 rfl rfl ?_
  refine vf_iconst C (z := 0) (zdg dz_R_can_0 1 rfl) (jz rfl) ?_
  refine vf_put C (kd := 0) fl_R_138 fk_11_16 sh_43 rfl (by decide) rfl rfl (by decide) (zdg dz_R_can_0 2 rfl) ?_
  generalize st w 43 16 0 = u1
  refine vf_uw ?_
  refine vf_iconst C (z := 0) (zdg dz_R_can_0 3 rfl) (jz rfl) ?_
  refine vf_istore_n C (f := 1) (L' := [(0, (2, 44))]) (zdg dz_R_can_0 4 rfl) [0] (jrI rfl rfl) hn (by decide) rfl ?_
  refine vf_iconst C (z := 0) (zdg dz_R_can_0 5 rfl) (jz rfl) ?_
  refine vf_istore_n C (f := 2) (L' := [(1, (0, 0)), (0, (2, 44))]) (zdg dz_R_can_0 6 rfl) [0, 1] (jrI rfl rfl) hn (by decide) rfl ?_
  refine vf_iconst C (z := 0) (zdg dz_R_can_0 7 rfl) (jz rfl) ?_
  refine vf_istore_n C (f := 3) (L' := [(2, (0, 0)), (1, (0, 0)), (0, (2, 44))]) (zdg dz_R_can_0 8 rfl) [0, 1, 2] (jrI rfl rfl) hn (by decide) rfl ?_
  exact vf_perm [3, 2, 1, 0] rfl (t_R_can_11 C hn hR hr FU _ _ _ _)
def f_R_picks (v1 : Int) (w : Wd) : Option (Int × Wd) :=
  jlw (st w 43 16 0) fun u1 =>
  jcall (f_R_isOne v1 u1) fun r2 u3 =>
  if r2 = 0 then
    some ((-1), u3)
  else
    jgd ((0 : Int) ≤ v1 ∧ v1 < 10) <|
    jcall (f_R_isGuest (u3 47 v1.toNat) u3) fun r4 u5 =>
    if r4 = 0 then
      some ((-1), u5)
    else
      jcall (f_R_findChoices u5) fun r6 u7 =>
      jgd ((0 : Int) ≤ v1 ∧ v1 < 10) <|
      if (u7 58 v1.toNat) = (-1) then
        some ((-2), u7)
      else
        jgd ((0 : Int) ≤ v1 ∧ v1 < 10) <|
        some (u7 58 v1.toNat, u7)
theorem ct_R_picks (v1 : Int) (w : Wd) : Ct y_R_picks prog_14_method_51_code 2 (some .int) 108 0 [(2, 44), (0, v1)] w (f_R_picks v1 w) := by
  refine ct_of (by decide +kernel) (Or.inl ⟨rfl, rfl⟩) (Nat.le_of_ble_eq_true rfl) ?_
  intro X Qf ad C hn hR hr
  unfold f_R_picks
  show VF X Qf ad NF 0 0 w 0 [(0, (2, 44)), (1, (0, v1))] [] _
  refine vf_aload_n C (f := 0) (zdg dz_R_picks_0 0 rfl) 0 rfl rfl ?_
  refine vf_iconst C (z := 0) (zdg dz_R_picks_0 1 rfl) (jz rfl) ?_
  refine vf_put C (kd := 0) fl_R_138 fk_11_16 sh_43 rfl (by decide) rfl rfl (by decide) (zdg dz_R_picks_0 2 rfl) ?_
  generalize st w 43 16 0 = u1
  refine vf_uw ?_
  refine vf_aload_n C (f := 0) (zdg dz_R_picks_0 3 rfl) 0 rfl rfl ?_
  refine vf_iload_n C (f := 1) (zdg dz_R_picks_0 4 rfl) 1 rfl rfl ?_
  refine vf_callVz C cy_R_isOne ml_R_151 rfl (ct_R_isOne _ _) (S := []) sh_43 (by decide) rfl (jrm_of hR rfl) rfl rfl (Nat.le_of_ble_eq_true rfl) (zdg dz_R_picks_0 5 rfl) (fun r2 u3 => ?_)
  refine vf_if_eq C (off := 15) (tgt := 25) (zdg dz_R_picks_0 6 rfl) (by decide) ?_ ?_
  · refine vf_iconst C (z := (-1)) (zdg dz_R_picks_0 13 rfl) (jz rfl) ?_
    exact hr _ _ _ _ (fun h => absurd h (by decide)) (zdg dz_R_picks_0 14 rfl)
  · refine vf_aload_n C (f := 0) (zdg dz_R_picks_0 7 rfl) 0 rfl rfl ?_
    refine vf_getp C fl_R_20 sh_43 rfl (by decide) rfl (x := 48) rfl (zdg dz_R_picks_0 8 rfl) ?_
    refine vf_iload_n C (f := 1) (zdg dz_R_picks_0 9 rfl) 1 rfl rfl ?_
    refine vf_iald C sh_47 (by decide) rfl (mz := 10) rfl (zdg dz_R_picks_0 10 rfl) ?_
    refine vf_callSz C cy_R_isGuest ml_R_256 (ct_R_isGuest _ _) (S := []) (jrm_of hR rfl) rfl rfl (Nat.le_of_ble_eq_true rfl) (zdg dz_R_picks_0 11 rfl) (fun r4 u5 => ?_)
    refine vf_if_ne C (off := 5) (tgt := 27) (zdg dz_R_picks_0 12 rfl) (by decide) ?_ ?_
    · refine vf_aload_n C (f := 0) (zdg dz_R_picks_0 15 rfl) 0 rfl rfl ?_
      refine vf_callVv C cy_R_findChoices ml_R_301 rfl (ct_R_findChoices _) (S := []) sh_43 (by decide) rfl (jrm_of hR rfl) rfl rfl (Nat.le_of_ble_eq_true rfl) (zdg dz_R_picks_0 16 rfl) (fun r6 u7 => ?_)
      refine vf_aload_n C (f := 0) (zdg dz_R_picks_0 17 rfl) 0 rfl rfl ?_
      refine vf_getp C fl_R_64 sh_43 rfl (by decide) rfl (x := 59) rfl (zdg dz_R_picks_0 18 rfl) ?_
      refine vf_iload_n C (f := 1) (zdg dz_R_picks_0 19 rfl) 1 rfl rfl ?_
      refine vf_iald C sh_58 (by decide) rfl (mz := 10) rfl (zdg dz_R_picks_0 20 rfl) ?_
      refine vf_iconst C (z := (-1)) (zdg dz_R_picks_0 21 rfl) (jz rfl) ?_
      refine vf_icmp_ne C (off := 8) (tgt := 46) (zdg dz_R_picks_0 22 rfl) (by decide) ?_ ?_
      · refine vf_aload_n C (f := 0) (zdg dz_R_picks_1 1 rfl) 0 rfl rfl ?_
        refine vf_getp C fl_R_64 sh_43 rfl (by decide) rfl (x := 59) rfl (zdg dz_R_picks_1 2 rfl) ?_
        refine vf_iload_n C (f := 1) (zdg dz_R_picks_1 3 rfl) 1 rfl rfl ?_
        refine vf_iald C sh_58 (by decide) rfl (mz := 10) rfl (zdg dz_R_picks_1 4 rfl) ?_
        exact hr _ _ _ _ (fun h => absurd h (by decide)) (zdg dz_R_picks_1 5 rfl)
      · refine vf_bipush C (z := (-2)) (zdg dz_R_picks_0 23 rfl) (by decide +kernel) (jz rfl) ?_
        refine vf_goto C (off := 9) (tgt := 52) (zdg dz_R_picks_1 0 rfl) (by decide) ?_
        exact hr _ _ _ _ (fun h => absurd h (by decide)) (zdg dz_R_picks_1 5 rfl)
    · refine vf_iconst C (z := (-1)) (zdg dz_R_picks_0 13 rfl) (jz rfl) ?_
      exact hr _ _ _ _ (fun h => absurd h (by decide)) (zdg dz_R_picks_0 14 rfl)
def f_R_findPairs_138 (k10 : Int → Int → Wd → Option (Int × Wd)) (k16 : Int → Int → Int → Wd → Option (Int × Wd)) (v1 v2 v3 v4 : Int) (w : Wd) : Option (Int × Wd) :=
  jgd ((0 : Int) ≤ (w32 ((ishl v2 10) + v3)) ∧ (w32 ((ishl v2 10) + v3)) < 11264) <|
  jlw (st w 62 (w32 ((ishl v2 10) + v3)).toNat v4) fun u5 =>
  jlet (w32 (v3 + 1)) fun x6 =>
  k16 v1 v2 x6 u5
theorem t_R_findPairs_138 {X : jX} {Qf : Int × Wd → State → Prop} {ad : Nat → Nat} (C : Cx X prog_14_method_52_code "EachBringsAnotherModel") (hn : xn X = 6) (hR : xR X = rmD 4) (hr : Rt X Qf ad prog_14_method_52_code 9) {k10 : Int → Int → Wd → Option (Int × Wd)} (hk10 : ∀ (v1 v2 : Int) (w : Wd), VF X Qf ad NF 0 0 w 10 [(0, (2, 44)), (1, (0, v1)), (2, (0, v2))] [] (k10 v1 v2 w)) {k16 : Int → Int → Int → Wd → Option (Int × Wd)} (hk16 : ∀ (v1 v2 v3 : Int) (w : Wd), VF X Qf ad NF 0 0 w 16 [(0, (2, 44)), (1, (0, v1)), (2, (0, v2)), (3, (0, v3))] [] (k16 v1 v2 v3 w)) (v1 v2 v3 v4 : Int) (w : Wd) : VF X Qf ad NF 0 0 w 138 [(0, (2, 44)), (1, (0, v1)), (2, (0, v2)), (3, (0, v3)), (4, (0, v4))] [] (f_R_findPairs_138 k10 k16 v1 v2 v3 v4 w) := by
  unfold f_R_findPairs_138
  refine vf_aload_n C (f := 0) (zdg dz_R_findPairs_3 11 rfl) 0 rfl rfl ?_
  refine vf_getp C fl_R_76 sh_43 rfl (by decide) rfl (x := 63) rfl (zdg dz_R_findPairs_3 12 rfl) ?_
  refine vf_iload_n C (f := 2) (zdg dz_R_findPairs_3 13 rfl) 2 rfl rfl ?_
  refine vf_bipush C (z := 10) (zdg dz_R_findPairs_3 14 rfl) (by decide +kernel) (jz rfl) ?_
  refine vf_ishl C (zdg dz_R_findPairs_3 15 rfl) ?_
  refine vf_iload_n C (f := 3) (zdg dz_R_findPairs_3 16 rfl) 3 rfl rfl ?_
  refine vf_iadd C (zdg dz_R_findPairs_3 17 rfl) ?_
  refine vf_iload C (zdg dz_R_findPairs_3 18 rfl) 4 rfl ?_
  refine vf_iast C sh_62 (by decide) rfl (mz := 11264) rfl (zdg dz_R_findPairs_3 19 rfl) ?_
  generalize st w 62 (w32 ((ishl v2 10) + v3)).toNat v4 = u5
  refine vf_uw ?_
  refine vf_iinc C (z := 1) (L' := [(0, (2, 44)), (1, (0, v1)), (2, (0, v2))]) (zdg dz_R_findPairs_3 20 rfl) 3 rfl [0, 1, 2] (jrI rfl rfl) hn (by decide) ?_
  generalize w32 (v3 + 1) = x6
  refine vf_ul ?_
  refine vf_goto C (off := (-138)) (tgt := 16) (zdg dz_R_findPairs_3 21 rfl) (by decide) ?_
  exact vf_perm [1, 2, 3, 0] rfl (hk16 _ _ _ _)
def f_R_findPairs_132 (k10 : Int → Int → Wd → Option (Int × Wd)) (k16 : Int → Int → Int → Wd → Option (Int × Wd)) (k76 : Int → Int → Int → Int → Int → Wd → Option (Int × Wd)) (v1 v2 v3 v4 v5 : Int) (w : Wd) : Option (Int × Wd) :=
  jlet (w32 (v5 + 1)) fun x11 =>
  k76 v1 v2 v3 v4 x11 w
theorem t_R_findPairs_132 {X : jX} {Qf : Int × Wd → State → Prop} {ad : Nat → Nat} (C : Cx X prog_14_method_52_code "EachBringsAnotherModel") (hn : xn X = 6) (hR : xR X = rmD 4) (hr : Rt X Qf ad prog_14_method_52_code 9) {k10 : Int → Int → Wd → Option (Int × Wd)} (hk10 : ∀ (v1 v2 : Int) (w : Wd), VF X Qf ad NF 0 0 w 10 [(0, (2, 44)), (1, (0, v1)), (2, (0, v2))] [] (k10 v1 v2 w)) {k16 : Int → Int → Int → Wd → Option (Int × Wd)} (hk16 : ∀ (v1 v2 v3 : Int) (w : Wd), VF X Qf ad NF 0 0 w 16 [(0, (2, 44)), (1, (0, v1)), (2, (0, v2)), (3, (0, v3))] [] (k16 v1 v2 v3 w)) {k76 : Int → Int → Int → Int → Int → Wd → Option (Int × Wd)} (hk76 : ∀ (v1 v2 v3 v4 v5 : Int) (w : Wd), VF X Qf ad NF 0 0 w 76 [(0, (2, 44)), (1, (0, v1)), (2, (0, v2)), (3, (0, v3)), (4, (0, v4)), (5, (0, v5))] [] (k76 v1 v2 v3 v4 v5 w)) (v1 v2 v3 v4 v5 : Int) (w : Wd) : VF X Qf ad NF 0 0 w 132 [(0, (2, 44)), (1, (0, v1)), (2, (0, v2)), (3, (0, v3)), (4, (0, v4)), (5, (0, v5))] [] (f_R_findPairs_132 k10 k16 k76 v1 v2 v3 v4 v5 w) := by
  unfold f_R_findPairs_132
  refine vf_iinc C (z := 1) (L' := [(0, (2, 44)), (1, (0, v1)), (2, (0, v2)), (3, (0, v3)), (4, (0, v4))]) (zdg dz_R_findPairs_3 9 rfl) 5 rfl [0, 1, 2, 3, 4] (jrI rfl rfl) hn (by decide) ?_
  generalize w32 (v5 + 1) = x11
  refine vf_ul ?_
  refine vf_goto C (off := (-59)) (tgt := 76) (zdg dz_R_findPairs_3 10 rfl) (by decide) ?_
  exact vf_perm [1, 2, 3, 4, 5, 0] rfl (hk76 _ _ _ _ _ _)
def f_R_findPairs_76 (k10 : Int → Int → Wd → Option (Int × Wd)) (k16 : Int → Int → Int → Wd → Option (Int × Wd)) : Nat → Int → Int → Int → Int → Int → Wd → Option (Int × Wd)
  | 0, _, _, _, _, _, _ => none
  | n + 1, v1, v2, v3, v4, v5, w =>
    if (w 43 0) ≤ v5 then
      f_R_findPairs_138 k10 k16 v1 v2 v3 v4 w
    else
      jgd ((0 : Int) ≤ v2 ∧ v2 < 10) <|
      jcall (f_R_has (iand (iand (w 45 v2.toNat) v1) (ixor v3 (-1))) v5 w) fun r9 u10 =>
      if r9 = 0 then
        f_R_findPairs_132 k10 k16 (f_R_findPairs_76 k10 k16 n) v1 v2 v3 v4 v5 u10
      else
        jgd ((0 : Int) ≤ (w32 ((ishl (w32 (v2 + 1)) 10) + (ior v3 (ishl 1 v5)))) ∧ (w32 ((ishl (w32 (v2 + 1)) 10) + (ior v3 (ishl 1 v5)))) < 11264) <|
        jlet (imax v4 (w32 (1 + (u10 62 (w32 ((ishl (w32 (v2 + 1)) 10) + (ior v3 (ishl 1 v5)))).toNat)))) fun x12 =>
        f_R_findPairs_132 k10 k16 (f_R_findPairs_76 k10 k16 n) v1 v2 v3 x12 v5 u10
theorem t_R_findPairs_76 {X : jX} {Qf : Int × Wd → State → Prop} {ad : Nat → Nat} (C : Cx X prog_14_method_52_code "EachBringsAnotherModel") (hn : xn X = 6) (hR : xR X = rmD 4) (hr : Rt X Qf ad prog_14_method_52_code 9) {k10 : Int → Int → Wd → Option (Int × Wd)} (hk10 : ∀ (v1 v2 : Int) (w : Wd), VF X Qf ad NF 0 0 w 10 [(0, (2, 44)), (1, (0, v1)), (2, (0, v2))] [] (k10 v1 v2 w)) {k16 : Int → Int → Int → Wd → Option (Int × Wd)} (hk16 : ∀ (v1 v2 v3 : Int) (w : Wd), VF X Qf ad NF 0 0 w 16 [(0, (2, 44)), (1, (0, v1)), (2, (0, v2)), (3, (0, v3))] [] (k16 v1 v2 v3 w)) : ∀ (n : Nat) (v1 v2 v3 v4 v5 : Int) (w : Wd), VF X Qf ad NF 0 0 w 76 [(0, (2, 44)), (1, (0, v1)), (2, (0, v2)), (3, (0, v3)), (4, (0, v4)), (5, (0, v5))] [] (f_R_findPairs_76 k10 k16 n v1 v2 v3 v4 v5 w) := by
  intro n
  induction n with
  | zero => intros; exact vf_no
  | succ n ih =>
    intro v1 v2 v3 v4 v5 w
    rw [f_R_findPairs_76]
    refine vf_iload C (zdg dz_R_findPairs_1 21 rfl) 5 rfl ?_
    refine vf_aload_n C (f := 0) (zdg dz_R_findPairs_1 22 rfl) 0 rfl rfl ?_
    refine vf_get C (kd := 0) fl_R_144 sh_43 rfl (by decide) rfl rfl (zdg dz_R_findPairs_1 23 rfl) ?_
    refine vf_icmp_ge C (off := 56) (tgt := 138) (zdg dz_R_findPairs_2 0 rfl) (by decide) ?_ ?_
    · exact vf_perm [0, 1, 2, 3, 4] rfl (t_R_findPairs_138 C hn hR hr hk10 hk16 _ _ _ _ _)
    · refine vf_aload_n C (f := 0) (zdg dz_R_findPairs_2 1 rfl) 0 rfl rfl ?_
      refine vf_getp C fl_R_13 sh_43 rfl (by decide) rfl (x := 46) rfl (zdg dz_R_findPairs_2 2 rfl) ?_
      refine vf_iload_n C (f := 2) (zdg dz_R_findPairs_2 3 rfl) 2 rfl rfl ?_
      refine vf_iald C sh_45 (by decide) rfl (mz := 10) rfl (zdg dz_R_findPairs_2 4 rfl) ?_
      refine vf_iload_n C (f := 1) (zdg dz_R_findPairs_2 5 rfl) 1 rfl rfl ?_
      refine vf_iand C (zdg dz_R_findPairs_2 6 rfl) ?_
      refine vf_iload_n C (f := 3) (zdg dz_R_findPairs_2 7 rfl) 3 rfl rfl ?_
      refine vf_iconst C (z := (-1)) (zdg dz_R_findPairs_2 8 rfl) (jz rfl) ?_
      refine vf_ixor C (zdg dz_R_findPairs_2 9 rfl) ?_
      refine vf_iand C (zdg dz_R_findPairs_2 10 rfl) ?_
      refine vf_iload C (zdg dz_R_findPairs_2 11 rfl) 5 rfl ?_
      refine vf_callSz C cy_R_has ml_R_210 (ct_R_has _ _ _) (S := []) (jrm_of hR rfl) rfl rfl (Nat.le_of_ble_eq_true rfl) (zdg dz_R_findPairs_2 12 rfl) (fun r9 u10 => ?_)
      refine vf_if_eq C (off := 30) (tgt := 132) (zdg dz_R_findPairs_2 13 rfl) (by decide) ?_ ?_
      · exact t_R_findPairs_132 C hn hR hr hk10 hk16 ih _ _ _ _ _ _
      · refine vf_iload C (zdg dz_R_findPairs_2 14 rfl) 4 rfl ?_
        refine vf_iconst C (z := 1) (zdg dz_R_findPairs_2 15 rfl) (jz rfl) ?_
        refine vf_aload_n C (f := 0) (zdg dz_R_findPairs_2 16 rfl) 0 rfl rfl ?_
        refine vf_getp C fl_R_76 sh_43 rfl (by decide) rfl (x := 63) rfl (zdg dz_R_findPairs_2 17 rfl) ?_
        refine vf_iload_n C (f := 2) (zdg dz_R_findPairs_2 18 rfl) 2 rfl rfl ?_
        refine vf_iconst C (z := 1) (zdg dz_R_findPairs_2 19 rfl) (jz rfl) ?_
        refine vf_iadd C (zdg dz_R_findPairs_2 20 rfl) ?_
        refine vf_bipush C (z := 10) (zdg dz_R_findPairs_2 21 rfl) (by decide +kernel) (jz rfl) ?_
        refine vf_ishl C (zdg dz_R_findPairs_2 22 rfl) ?_
        refine vf_iload_n C (f := 3) (zdg dz_R_findPairs_2 23 rfl) 3 rfl rfl ?_
        refine vf_iconst C (z := 1) (zdg dz_R_findPairs_3 0 rfl) (jz rfl) ?_
        refine vf_iload C (zdg dz_R_findPairs_3 1 rfl) 5 rfl ?_
        refine vf_ishl C (zdg dz_R_findPairs_3 2 rfl) ?_
        refine vf_ior C (zdg dz_R_findPairs_3 3 rfl) ?_
        refine vf_iadd C (zdg dz_R_findPairs_3 4 rfl) ?_
        refine vf_iald C sh_62 (by decide) rfl (mz := 11264) rfl (zdg dz_R_findPairs_3 5 rfl) ?_
        refine vf_iadd C (zdg dz_R_findPairs_3 6 rfl) ?_
        refine vf_mmax C ml_R_267 (jrm_n hR (by decide)) ⟨Nat.zero_le _, Nat.zero_le _⟩ (Nat.le_of_ble_eq_true rfl) (zdg dz_R_findPairs_3 7 rfl) ?_
        generalize imax v4 (w32 (1 + (u10 62 (w32 ((ishl (w32 (v2 + 1)) 10) + (ior v3 (ishl 1 v5)))).toNat))) = x12
        refine vf_ul ?_
        refine vf_istore C (i := 4) (L' := [(0, (2, 44)), (1, (0, v1)), (2, (0, v2)), (3, (0, v3)), (5, (0, v5))]) (zdg dz_R_findPairs_3 8 rfl) [0, 1, 2, 3, 5] (jrI rfl rfl) hn (by decide) ?_
        exact vf_perm [1, 2, 3, 4, 0, 5] rfl (t_R_findPairs_132 C hn hR hr hk10 hk16 ih _ _ _ _ _ _)
def f_R_findPairs_51 (k10 : Int → Int → Wd → Option (Int × Wd)) (k16 : Int → Int → Int → Wd → Option (Int × Wd)) (v1 v2 v3 s0 : Int) (w : Wd) : Option (Int × Wd) :=
  if (w 43 0) ≤ v2 then
    f_R_findPairs_138 k10 k16 v1 v2 v3 s0 w
  else
    jgd ((0 : Int) ≤ v2 ∧ v2 < 10) <|
    jcall (f_R_isGuest (w 47 v2.toNat) w) fun r7 u8 =>
    if r7 = 0 then
      f_R_findPairs_138 k10 k16 v1 v2 v3 s0 u8
    else
      f_R_findPairs_76 k10 k16 FU v1 v2 v3 s0 0 u8
theorem t_R_findPairs_51 {X : jX} {Qf : Int × Wd → State → Prop} {ad : Nat → Nat} (C : Cx X prog_14_method_52_code "EachBringsAnotherModel") (hn : xn X = 6) (hR : xR X = rmD 4) (hr : Rt X Qf ad prog_14_method_52_code 9) {k10 : Int → Int → Wd → Option (Int × Wd)} (hk10 : ∀ (v1 v2 : Int) (w : Wd), VF X Qf ad NF 0 0 w 10 [(0, (2, 44)), (1, (0, v1)), (2, (0, v2))] [] (k10 v1 v2 w)) {k16 : Int → Int → Int → Wd → Option (Int × Wd)} (hk16 : ∀ (v1 v2 v3 : Int) (w : Wd), VF X Qf ad NF 0 0 w 16 [(0, (2, 44)), (1, (0, v1)), (2, (0, v2)), (3, (0, v3))] [] (k16 v1 v2 v3 w)) (v1 v2 v3 s0 : Int) (w : Wd) : VF X Qf ad NF 0 0 w 51 [(0, (2, 44)), (1, (0, v1)), (2, (0, v2)), (3, (0, v3))] [(0, s0)] (f_R_findPairs_51 k10 k16 v1 v2 v3 s0 w) := by
  unfold f_R_findPairs_51
  refine vf_istore C (i := 4) (L' := [(0, (2, 44)), (1, (0, v1)), (2, (0, v2)), (3, (0, v3))]) (zdg dz_R_findPairs_1 8 rfl) [0, 1, 2, 3] (jrI rfl rfl) hn (by decide) ?_
  refine vf_iload_n C (f := 2) (zdg dz_R_findPairs_1 9 rfl) 3 rfl rfl ?_
  refine vf_aload_n C (f := 0) (zdg dz_R_findPairs_1 10 rfl) 1 rfl rfl ?_
  refine vf_get C (kd := 0) fl_R_144 sh_43 rfl (by decide) rfl rfl (zdg dz_R_findPairs_1 11 rfl) ?_
  refine vf_icmp_ge C (off := 80) (tgt := 138) (zdg dz_R_findPairs_1 12 rfl) (by decide) ?_ ?_
  · exact vf_perm [1, 2, 3, 4, 0] rfl (t_R_findPairs_138 C hn hR hr hk10 hk16 _ _ _ _ _)
  · refine vf_aload_n C (f := 0) (zdg dz_R_findPairs_1 13 rfl) 1 rfl rfl ?_
    refine vf_getp C fl_R_20 sh_43 rfl (by decide) rfl (x := 48) rfl (zdg dz_R_findPairs_1 14 rfl) ?_
    refine vf_iload_n C (f := 2) (zdg dz_R_findPairs_1 15 rfl) 3 rfl rfl ?_
    refine vf_iald C sh_47 (by decide) rfl (mz := 10) rfl (zdg dz_R_findPairs_1 16 rfl) ?_
    refine vf_callSz C cy_R_isGuest ml_R_256 (ct_R_isGuest _ _) (S := []) (jrm_of hR rfl) rfl rfl (Nat.le_of_ble_eq_true rfl) (zdg dz_R_findPairs_1 17 rfl) (fun r7 u8 => ?_)
    refine vf_if_eq C (off := 68) (tgt := 138) (zdg dz_R_findPairs_1 18 rfl) (by decide) ?_ ?_
    · exact vf_perm [1, 2, 3, 4, 0] rfl (t_R_findPairs_138 C hn hR hr hk10 hk16 _ _ _ _ _)
    · refine vf_iconst C (z := 0) (zdg dz_R_findPairs_1 19 rfl) (jz rfl) ?_
      refine vf_istore C (i := 5) (L' := [(4, (0, s0)), (0, (2, 44)), (1, (0, v1)), (2, (0, v2)), (3, (0, v3))]) (zdg dz_R_findPairs_1 20 rfl) [0, 1, 2, 3, 4] (jrI rfl rfl) hn (by decide) ?_
      exact vf_perm [2, 3, 4, 5, 1, 0] rfl (t_R_findPairs_76 C hn hR hr hk10 hk16 FU _ _ _ _ _ _)
def f_R_findPairs_16 (k10 : Int → Int → Wd → Option (Int × Wd)) : Nat → Int → Int → Int → Wd → Option (Int × Wd)
  | 0, _, _, _, _ => none
  | n + 1, v1, v2, v3, w =>
    if (ishl 1 (w 43 0)) ≤ v3 then
      jlet (w32 (v2 + (-1))) fun x4 =>
      k10 v1 x4 w
    else
      if v2 = (w 43 0) then
        f_R_findPairs_51 k10 (f_R_findPairs_16 k10 n) v1 v2 v3 0 w
      else
        jgd ((0 : Int) ≤ (w32 ((ishl (w32 (v2 + 1)) 10) + v3)) ∧ (w32 ((ishl (w32 (v2 + 1)) 10) + v3)) < 11264) <|
        f_R_findPairs_51 k10 (f_R_findPairs_16 k10 n) v1 v2 v3 (w 62 (w32 ((ishl (w32 (v2 + 1)) 10) + v3)).toNat) w
theorem t_R_findPairs_16 {X : jX} {Qf : Int × Wd → State → Prop} {ad : Nat → Nat} (C : Cx X prog_14_method_52_code "EachBringsAnotherModel") (hn : xn X = 6) (hR : xR X = rmD 4) (hr : Rt X Qf ad prog_14_method_52_code 9) {k10 : Int → Int → Wd → Option (Int × Wd)} (hk10 : ∀ (v1 v2 : Int) (w : Wd), VF X Qf ad NF 0 0 w 10 [(0, (2, 44)), (1, (0, v1)), (2, (0, v2))] [] (k10 v1 v2 w)) : ∀ (n : Nat) (v1 v2 v3 : Int) (w : Wd), VF X Qf ad NF 0 0 w 16 [(0, (2, 44)), (1, (0, v1)), (2, (0, v2)), (3, (0, v3))] [] (f_R_findPairs_16 k10 n v1 v2 v3 w) := by
  intro n
  induction n with
  | zero => intros; exact vf_no
  | succ n ih =>
    intro v1 v2 v3 w
    rw [f_R_findPairs_16]
    refine vf_iload_n C (f := 3) (zdg dz_R_findPairs_0 10 rfl) 3 rfl rfl ?_
    refine vf_iconst C (z := 1) (zdg dz_R_findPairs_0 11 rfl) (jz rfl) ?_
    refine vf_aload_n C (f := 0) (zdg dz_R_findPairs_0 12 rfl) 0 rfl rfl ?_
    refine vf_get C (kd := 0) fl_R_144 sh_43 rfl (by decide) rfl rfl (zdg dz_R_findPairs_0 13 rfl) ?_
    refine vf_ishl C (zdg dz_R_findPairs_0 14 rfl) ?_
    refine vf_icmp_ge C (off := 134) (tgt := 157) (zdg dz_R_findPairs_0 15 rfl) (by decide) ?_ ?_
    · refine vf_iinc C (z := (-1)) (L' := [(0, (2, 44)), (1, (0, v1))]) (zdg dz_R_findPairs_3 22 rfl) 2 rfl [0, 1] (jrI rfl rfl) hn (by decide) ?_
      generalize w32 (v2 + (-1)) = x4
      refine vf_ul ?_
      refine vf_goto C (off := (-150)) (tgt := 10) (zdg dz_R_findPairs_3 23 rfl) (by decide) ?_
      exact vf_perm [1, 2, 0] rfl (hk10 _ _ _)
    · refine vf_iload_n C (f := 2) (zdg dz_R_findPairs_0 16 rfl) 2 rfl rfl ?_
      refine vf_aload_n C (f := 0) (zdg dz_R_findPairs_0 17 rfl) 0 rfl rfl ?_
      refine vf_get C (kd := 0) fl_R_144 sh_43 rfl (by decide) rfl rfl (zdg dz_R_findPairs_0 18 rfl) ?_
      refine vf_icmp_ne C (off := 7) (tgt := 38) (zdg dz_R_findPairs_0 19 rfl) (by decide) ?_ ?_
      · refine vf_aload_n C (f := 0) (zdg dz_R_findPairs_0 22 rfl) 0 rfl rfl ?_
        refine vf_getp C fl_R_76 sh_43 rfl (by decide) rfl (x := 63) rfl (zdg dz_R_findPairs_0 23 rfl) ?_
        refine vf_iload_n C (f := 2) (zdg dz_R_findPairs_1 0 rfl) 2 rfl rfl ?_
        refine vf_iconst C (z := 1) (zdg dz_R_findPairs_1 1 rfl) (jz rfl) ?_
        refine vf_iadd C (zdg dz_R_findPairs_1 2 rfl) ?_
        refine vf_bipush C (z := 10) (zdg dz_R_findPairs_1 3 rfl) (by decide +kernel) (jz rfl) ?_
        refine vf_ishl C (zdg dz_R_findPairs_1 4 rfl) ?_
        refine vf_iload_n C (f := 3) (zdg dz_R_findPairs_1 5 rfl) 3 rfl rfl ?_
        refine vf_iadd C (zdg dz_R_findPairs_1 6 rfl) ?_
        refine vf_iald C sh_62 (by decide) rfl (mz := 11264) rfl (zdg dz_R_findPairs_1 7 rfl) ?_
        exact t_R_findPairs_51 C hn hR hr hk10 ih _ _ _ _ _
      · refine vf_iconst C (z := 0) (zdg dz_R_findPairs_0 20 rfl) (jz rfl) ?_
        refine vf_goto C (off := 16) (tgt := 51) (zdg dz_R_findPairs_0 21 rfl) (by decide) ?_
        exact t_R_findPairs_51 C hn hR hr hk10 ih _ _ _ _ _
def f_R_findPairs_10 : Nat → Int → Int → Wd → Option (Int × Wd)
  | 0, _, _, _ => none
  | n + 1, v1, v2, w =>
    if v2 < 0 then
      some (0, w)
    else
      f_R_findPairs_16 (f_R_findPairs_10 n) FU v1 v2 0 w
theorem t_R_findPairs_10 {X : jX} {Qf : Int × Wd → State → Prop} {ad : Nat → Nat} (C : Cx X prog_14_method_52_code "EachBringsAnotherModel") (hn : xn X = 6) (hR : xR X = rmD 4) (hr : Rt X Qf ad prog_14_method_52_code 9) : ∀ (n : Nat) (v1 v2 : Int) (w : Wd), VF X Qf ad NF 0 0 w 10 [(0, (2, 44)), (1, (0, v1)), (2, (0, v2))] [] (f_R_findPairs_10 n v1 v2 w) := by
  intro n
  induction n with
  | zero => intros; exact vf_no
  | succ n ih =>
    intro v1 v2 w
    rw [f_R_findPairs_10]
    refine vf_iload_n C (f := 2) (zdg dz_R_findPairs_0 6 rfl) 2 rfl rfl ?_
    refine vf_if_lt C (off := 152) (tgt := 163) (zdg dz_R_findPairs_0 7 rfl) (by decide) ?_ ?_
    · exact hr _ _ _ _ (fun h => absurd h (by decide)) (zdg dz_R_findPairs_4 0 rfl)
    · refine vf_iconst C (z := 0) (zdg dz_R_findPairs_0 8 rfl) (jz rfl) ?_
      refine vf_istore_n C (f := 3) (L' := [(0, (2, 44)), (1, (0, v1)), (2, (0, v2))]) (zdg dz_R_findPairs_0 9 rfl) [0, 1, 2] (jrI rfl rfl) hn (by decide) rfl ?_
      exact vf_perm [1, 2, 3, 0] rfl (t_R_findPairs_16 C hn hR hr ih FU _ _ _ _)
def f_R_findPairs (w : Wd) : Option (Int × Wd) :=
  jcall (f_R_free w) fun r1 u2 =>
  jlet (u2 43 0) fun x3 =>
  f_R_findPairs_10 FU r1 x3 u2
theorem ct_R_findPairs (w : Wd) : Ct y_R_findPairs prog_14_method_52_code 6 none 4 9 [(2, 44)] w (f_R_findPairs w) := by
  refine ct_of (by decide +kernel) (Or.inr (Or.inr (Or.inr ⟨rfl, rfl⟩))) (Nat.le_of_ble_eq_true rfl) ?_
  intro X Qf ad C hn hR hr
  unfold f_R_findPairs
  show VF X Qf ad NF 0 0 w 0 [(0, (2, 44))] [] _
  refine vf_aload_n C (f := 0) (zdg dz_R_findPairs_0 0 rfl) 0 rfl rfl ?_
  refine vf_callVi C cy_R_free ml_R_286 rfl (ct_R_free _) (S := []) sh_43 (by decide) rfl (jrm_of hR rfl) rfl rfl (Nat.le_of_ble_eq_true rfl) (zdg dz_R_findPairs_0 1 rfl) (fun r1 u2 => ?_)
  refine vf_istore_n C (f := 1) (L' := [(0, (2, 44))]) (zdg dz_R_findPairs_0 2 rfl) [0] (jrI rfl rfl) hn (by decide) rfl ?_
  refine vf_aload_n C (f := 0) (zdg dz_R_findPairs_0 3 rfl) 1 rfl rfl ?_
  refine vf_get C (kd := 0) fl_R_144 sh_43 rfl (by decide) rfl rfl (zdg dz_R_findPairs_0 4 rfl) ?_
  generalize u2 43 0 = x3
  refine vf_ul ?_
  refine vf_istore_n C (f := 2) (L' := [(1, (0, r1)), (0, (2, 44))]) (zdg dz_R_findPairs_0 5 rfl) [0, 1] (jrI rfl rfl) hn (by decide) rfl ?_
  exact vf_perm [2, 1, 0] rfl (t_R_findPairs_10 C hn hR hr FU _ _ _)
def f_R_pairs_142 (k23 : Int → Int → Int → Wd → Option (Int × Wd)) (v1 v2 v3 : Int) (w : Wd) : Option (Int × Wd) :=
  jlet (w32 (v3 + 1)) fun x9 =>
  k23 v1 v2 x9 w
theorem t_R_pairs_142 {X : jX} {Qf : Int × Wd → State → Prop} {ad : Nat → Nat} (C : Cx X prog_14_method_53_code "EachBringsAnotherModel") (hn : xn X = 5) (hR : xR X = rmD 5) (hr : Rt X Qf ad prog_14_method_53_code 0) {k23 : Int → Int → Int → Wd → Option (Int × Wd)} (hk23 : ∀ (v1 v2 v3 : Int) (w : Wd), VF X Qf ad NF 0 0 w 23 [(0, (2, 44)), (1, (0, v1)), (2, (0, v2)), (3, (0, v3))] [] (k23 v1 v2 v3 w)) (v1 v2 v3 : Int) (w : Wd) : VF X Qf ad NF 0 0 w 142 [(0, (2, 44)), (1, (0, v1)), (2, (0, v2)), (3, (0, v3))] [] (f_R_pairs_142 k23 v1 v2 v3 w) := by
  unfold f_R_pairs_142
  refine vf_iinc C (z := 1) (L' := [(0, (2, 44)), (1, (0, v1)), (2, (0, v2))]) (zdg dz_R_pairs_3 15 rfl) 3 rfl [0, 1, 2] (jrI rfl rfl) hn (by decide) ?_
  generalize w32 (v3 + 1) = x9
  refine vf_ul ?_
  refine vf_goto C (off := (-122)) (tgt := 23) (zdg dz_R_pairs_3 16 rfl) (by decide) ?_
  exact vf_perm [1, 2, 3, 0] rfl (hk23 _ _ _ _)
def f_R_pairs_136 (k23 : Int → Int → Int → Wd → Option (Int × Wd)) (k49 : Int → Int → Int → Int → Wd → Option (Int × Wd)) (v1 v2 v3 v4 : Int) (w : Wd) : Option (Int × Wd) :=
  jlet (w32 (v4 + 1)) fun x12 =>
  k49 v1 v2 v3 x12 w
theorem t_R_pairs_136 {X : jX} {Qf : Int × Wd → State → Prop} {ad : Nat → Nat} (C : Cx X prog_14_method_53_code "EachBringsAnotherModel") (hn : xn X = 5) (hR : xR X = rmD 5) (hr : Rt X Qf ad prog_14_method_53_code 0) {k23 : Int → Int → Int → Wd → Option (Int × Wd)} (hk23 : ∀ (v1 v2 v3 : Int) (w : Wd), VF X Qf ad NF 0 0 w 23 [(0, (2, 44)), (1, (0, v1)), (2, (0, v2)), (3, (0, v3))] [] (k23 v1 v2 v3 w)) {k49 : Int → Int → Int → Int → Wd → Option (Int × Wd)} (hk49 : ∀ (v1 v2 v3 v4 : Int) (w : Wd), VF X Qf ad NF 0 0 w 49 [(0, (2, 44)), (1, (0, v1)), (2, (0, v2)), (3, (0, v3)), (4, (0, v4))] [] (k49 v1 v2 v3 v4 w)) (v1 v2 v3 v4 : Int) (w : Wd) : VF X Qf ad NF 0 0 w 136 [(0, (2, 44)), (1, (0, v1)), (2, (0, v2)), (3, (0, v3)), (4, (0, v4))] [] (f_R_pairs_136 k23 k49 v1 v2 v3 v4 w) := by
  unfold f_R_pairs_136
  refine vf_iinc C (z := 1) (L' := [(0, (2, 44)), (1, (0, v1)), (2, (0, v2)), (3, (0, v3))]) (zdg dz_R_pairs_3 13 rfl) 4 rfl [0, 1, 2, 3] (jrI rfl rfl) hn (by decide) ?_
  generalize w32 (v4 + 1) = x12
  refine vf_ul ?_
  refine vf_goto C (off := (-90)) (tgt := 49) (zdg dz_R_pairs_3 14 rfl) (by decide) ?_
  exact vf_perm [1, 2, 3, 4, 0] rfl (hk49 _ _ _ _ _)
def f_R_pairs_49 (k23 : Int → Int → Int → Wd → Option (Int × Wd)) : Nat → Int → Int → Int → Int → Wd → Option (Int × Wd)
  | 0, _, _, _, _, _ => none
  | n + 1, v1, v2, v3, v4, w =>
    if (w 43 0) ≤ v4 then
      f_R_pairs_142 k23 v1 v2 v3 w
    else
      jgd ((0 : Int) ≤ v3 ∧ v3 < 10) <|
      jcall (f_R_has (iand (iand (w 45 v3.toNat) v1) (ixor v2 (-1))) v4 w) fun r10 u11 =>
      if r10 = 0 then
        f_R_pairs_136 k23 (f_R_pairs_49 k23 n) v1 v2 v3 v4 u11
      else
        jgd ((0 : Int) ≤ (w32 ((ishl (w32 (v3 + 1)) 10) + (ior v2 (ishl 1 v4)))) ∧ (w32 ((ishl (w32 (v3 + 1)) 10) + (ior v2 (ishl 1 v4)))) < 11264) <|
        jgd ((0 : Int) ≤ (w32 ((ishl v3 10) + v2)) ∧ (w32 ((ishl v3 10) + v2)) < 11264) <|
        if (w32 (1 + (u11 62 (w32 ((ishl (w32 (v3 + 1)) 10) + (ior v2 (ishl 1 v4)))).toNat))) = (u11 62 (w32 ((ishl v3 10) + v2)).toNat) then
          jcall (f_R_tell (w32 ((w32 (10 * v3)) + v4)) u11) fun r13 u14 =>
          jlet (ior v2 (ishl 1 v4)) fun x15 =>
          f_R_pairs_142 k23 v1 x15 v3 u14
        else
          f_R_pairs_136 k23 (f_R_pairs_49 k23 n) v1 v2 v3 v4 u11
theorem t_R_pairs_49 {X : jX} {Qf : Int × Wd → State → Prop} {ad : Nat → Nat} (C : Cx X prog_14_method_53_code "EachBringsAnotherModel") (hn : xn X = 5) (hR : xR X = rmD 5) (hr : Rt X Qf ad prog_14_method_53_code 0) {k23 : Int → Int → Int → Wd → Option (Int × Wd)} (hk23 : ∀ (v1 v2 v3 : Int) (w : Wd), VF X Qf ad NF 0 0 w 23 [(0, (2, 44)), (1, (0, v1)), (2, (0, v2)), (3, (0, v3))] [] (k23 v1 v2 v3 w)) : ∀ (n : Nat) (v1 v2 v3 v4 : Int) (w : Wd), VF X Qf ad NF 0 0 w 49 [(0, (2, 44)), (1, (0, v1)), (2, (0, v2)), (3, (0, v3)), (4, (0, v4))] [] (f_R_pairs_49 k23 n v1 v2 v3 v4 w) := by
  intro n
  induction n with
  | zero => intros; exact vf_no
  | succ n ih =>
    intro v1 v2 v3 v4 w
    rw [f_R_pairs_49]
    refine vf_iload C (zdg dz_R_pairs_1 4 rfl) 4 rfl ?_
    refine vf_aload_n C (f := 0) (zdg dz_R_pairs_1 5 rfl) 0 rfl rfl ?_
    refine vf_get C (kd := 0) fl_R_144 sh_43 rfl (by decide) rfl rfl (zdg dz_R_pairs_1 6 rfl) ?_
    refine vf_icmp_ge C (off := 87) (tgt := 142) (zdg dz_R_pairs_1 7 rfl) (by decide) ?_ ?_
    · exact vf_perm [0, 1, 2, 3] rfl (t_R_pairs_142 C hn hR hr hk23 _ _ _ _)
    · refine vf_aload_n C (f := 0) (zdg dz_R_pairs_1 8 rfl) 0 rfl rfl ?_
      refine vf_getp C fl_R_13 sh_43 rfl (by decide) rfl (x := 46) rfl (zdg dz_R_pairs_1 9 rfl) ?_
      refine vf_iload_n C (f := 3) (zdg dz_R_pairs_1 10 rfl) 3 rfl rfl ?_
      refine vf_iald C sh_45 (by decide) rfl (mz := 10) rfl (zdg dz_R_pairs_1 11 rfl) ?_
      refine vf_iload_n C (f := 1) (zdg dz_R_pairs_1 12 rfl) 1 rfl rfl ?_
      refine vf_iand C (zdg dz_R_pairs_1 13 rfl) ?_
      refine vf_iload_n C (f := 2) (zdg dz_R_pairs_1 14 rfl) 2 rfl rfl ?_
      refine vf_iconst C (z := (-1)) (zdg dz_R_pairs_1 15 rfl) (jz rfl) ?_
      refine vf_ixor C (zdg dz_R_pairs_1 16 rfl) ?_
      refine vf_iand C (zdg dz_R_pairs_1 17 rfl) ?_
      refine vf_iload C (zdg dz_R_pairs_1 18 rfl) 4 rfl ?_
      refine vf_callSz C cy_R_has ml_R_210 (ct_R_has _ _ _) (S := []) (jrm_of hR rfl) rfl rfl (Nat.le_of_ble_eq_true rfl) (zdg dz_R_pairs_1 19 rfl) (fun r10 u11 => ?_)
      refine vf_if_eq C (off := 61) (tgt := 136) (zdg dz_R_pairs_1 20 rfl) (by decide) ?_ ?_
      · exact t_R_pairs_136 C hn hR hr hk23 ih _ _ _ _ _
      · refine vf_iconst C (z := 1) (zdg dz_R_pairs_1 21 rfl) (jz rfl) ?_
        refine vf_aload_n C (f := 0) (zdg dz_R_pairs_1 22 rfl) 0 rfl rfl ?_
        refine vf_getp C fl_R_76 sh_43 rfl (by decide) rfl (x := 63) rfl (zdg dz_R_pairs_1 23 rfl) ?_
        refine vf_iload_n C (f := 3) (zdg dz_R_pairs_2 0 rfl) 3 rfl rfl ?_
        refine vf_iconst C (z := 1) (zdg dz_R_pairs_2 1 rfl) (jz rfl) ?_
        refine vf_iadd C (zdg dz_R_pairs_2 2 rfl) ?_
        refine vf_bipush C (z := 10) (zdg dz_R_pairs_2 3 rfl) (by decide +kernel) (jz rfl) ?_
        refine vf_ishl C (zdg dz_R_pairs_2 4 rfl) ?_
        refine vf_iload_n C (f := 2) (zdg dz_R_pairs_2 5 rfl) 2 rfl rfl ?_
        refine vf_iconst C (z := 1) (zdg dz_R_pairs_2 6 rfl) (jz rfl) ?_
        refine vf_iload C (zdg dz_R_pairs_2 7 rfl) 4 rfl ?_
        refine vf_ishl C (zdg dz_R_pairs_2 8 rfl) ?_
        refine vf_ior C (zdg dz_R_pairs_2 9 rfl) ?_
        refine vf_iadd C (zdg dz_R_pairs_2 10 rfl) ?_
        refine vf_iald C sh_62 (by decide) rfl (mz := 11264) rfl (zdg dz_R_pairs_2 11 rfl) ?_
        refine vf_iadd C (zdg dz_R_pairs_2 12 rfl) ?_
        refine vf_aload_n C (f := 0) (zdg dz_R_pairs_2 13 rfl) 0 rfl rfl ?_
        refine vf_getp C fl_R_76 sh_43 rfl (by decide) rfl (x := 63) rfl (zdg dz_R_pairs_2 14 rfl) ?_
        refine vf_iload_n C (f := 3) (zdg dz_R_pairs_2 15 rfl) 3 rfl rfl ?_
        refine vf_bipush C (z := 10) (zdg dz_R_pairs_2 16 rfl) (by decide +kernel) (jz rfl) ?_
        refine vf_ishl C (zdg dz_R_pairs_2 17 rfl) ?_
        refine vf_iload_n C (f := 2) (zdg dz_R_pairs_2 18 rfl) 2 rfl rfl ?_
        refine vf_iadd C (zdg dz_R_pairs_2 19 rfl) ?_
        refine vf_iald C sh_62 (by decide) rfl (mz := 11264) rfl (zdg dz_R_pairs_2 20 rfl) ?_
        refine vf_icmp_eq C (off := 6) (tgt := 115) (zdg dz_R_pairs_2 21 rfl) (by decide) ?_ ?_
        · refine vf_aload_n C (f := 0) (zdg dz_R_pairs_2 23 rfl) 0 rfl rfl ?_
          refine vf_bipush C (z := 10) (zdg dz_R_pairs_3 0 rfl) (by decide +kernel) (jz rfl) ?_
          refine vf_iload_n C (f := 3) (zdg dz_R_pairs_3 1 rfl) 3 rfl rfl ?_
          refine vf_imul C (zdg dz_R_pairs_3 2 rfl) ?_
          refine vf_iload C (zdg dz_R_pairs_3 3 rfl) 4 rfl ?_
          refine vf_iadd C (zdg dz_R_pairs_3 4 rfl) ?_
          refine vf_callVv C cy_R_tell ml_R_304 rfl (ct_R_tell _ _) (S := []) sh_43 (by decide) rfl (jrm_of hR rfl) rfl rfl (Nat.le_of_ble_eq_true rfl) (zdg dz_R_pairs_3 5 rfl) (fun r13 u14 => ?_)
          refine vf_iload_n C (f := 2) (zdg dz_R_pairs_3 6 rfl) 2 rfl rfl ?_
          refine vf_iconst C (z := 1) (zdg dz_R_pairs_3 7 rfl) (jz rfl) ?_
          refine vf_iload C (zdg dz_R_pairs_3 8 rfl) 4 rfl ?_
          refine vf_ishl C (zdg dz_R_pairs_3 9 rfl) ?_
          refine vf_ior C (zdg dz_R_pairs_3 10 rfl) ?_
          generalize ior v2 (ishl 1 v4) = x15
          refine vf_ul ?_
          refine vf_istore_n C (f := 2) (L' := [(0, (2, 44)), (1, (0, v1)), (3, (0, v3))]) (zdg dz_R_pairs_3 11 rfl) [0, 1, 3] (jrI rfl rfl) hn (by decide) rfl ?_
          refine vf_goto C (off := 9) (tgt := 142) (zdg dz_R_pairs_3 12 rfl) (by decide) ?_
          exact vf_perm [1, 2, 0, 3] rfl (t_R_pairs_142 C hn hR hr hk23 _ _ _ _)
        · refine vf_goto C (off := 24) (tgt := 136) (zdg dz_R_pairs_2 22 rfl) (by decide) ?_
          exact t_R_pairs_136 C hn hR hr hk23 ih _ _ _ _ _
def f_R_pairs_23 : Nat → Int → Int → Int → Wd → Option (Int × Wd)
  | 0, _, _, _, _ => none
  | n + 1, v1, v2, v3, w =>
    if (w 43 0) ≤ v3 then
      jgd ((0 : Int) ≤ (0 : Int) ∧ (0 : Int) < 11264) <|
      some (w 62 (0 : Int).toNat, w)
    else
      jgd ((0 : Int) ≤ v3 ∧ v3 < 10) <|
      jcall (f_R_isGuest (w 47 v3.toNat) w) fun r7 u8 =>
      if r7 = 0 then
        f_R_pairs_142 (f_R_pairs_23 n) v1 v2 v3 u8
      else
        f_R_pairs_49 (f_R_pairs_23 n) FU v1 v2 v3 0 u8
theorem t_R_pairs_23 {X : jX} {Qf : Int × Wd → State → Prop} {ad : Nat → Nat} (C : Cx X prog_14_method_53_code "EachBringsAnotherModel") (hn : xn X = 5) (hR : xR X = rmD 5) (hr : Rt X Qf ad prog_14_method_53_code 0) : ∀ (n : Nat) (v1 v2 v3 : Int) (w : Wd), VF X Qf ad NF 0 0 w 23 [(0, (2, 44)), (1, (0, v1)), (2, (0, v2)), (3, (0, v3))] [] (f_R_pairs_23 n v1 v2 v3 w) := by
  intro n
  induction n with
  | zero => intros; exact vf_no
  | succ n ih =>
    intro v1 v2 v3 w
    rw [f_R_pairs_23]
    refine vf_iload_n C (f := 3) (zdg dz_R_pairs_0 15 rfl) 3 rfl rfl ?_
    refine vf_aload_n C (f := 0) (zdg dz_R_pairs_0 16 rfl) 0 rfl rfl ?_
    refine vf_get C (kd := 0) fl_R_144 sh_43 rfl (by decide) rfl rfl (zdg dz_R_pairs_0 17 rfl) ?_
    refine vf_icmp_ge C (off := 120) (tgt := 148) (zdg dz_R_pairs_0 18 rfl) (by decide) ?_ ?_
    · refine vf_aload_n C (f := 0) (zdg dz_R_pairs_3 17 rfl) 0 rfl rfl ?_
      refine vf_getp C fl_R_76 sh_43 rfl (by decide) rfl (x := 63) rfl (zdg dz_R_pairs_3 18 rfl) ?_
      refine vf_iconst C (z := 0) (zdg dz_R_pairs_3 19 rfl) (jz rfl) ?_
      refine vf_iald C sh_62 (by decide) rfl (mz := 11264) rfl (zdg dz_R_pairs_3 20 rfl) ?_
      exact hr _ _ _ _ (fun h => absurd h (by decide)) (zdg dz_R_pairs_3 21 rfl)
    · refine vf_aload_n C (f := 0) (zdg dz_R_pairs_0 19 rfl) 0 rfl rfl ?_
      refine vf_getp C fl_R_20 sh_43 rfl (by decide) rfl (x := 48) rfl (zdg dz_R_pairs_0 20 rfl) ?_
      refine vf_iload_n C (f := 3) (zdg dz_R_pairs_0 21 rfl) 3 rfl rfl ?_
      refine vf_iald C sh_47 (by decide) rfl (mz := 10) rfl (zdg dz_R_pairs_0 22 rfl) ?_
      refine vf_callSz C cy_R_isGuest ml_R_256 (ct_R_isGuest _ _) (S := []) (jrm_of hR rfl) rfl rfl (Nat.le_of_ble_eq_true rfl) (zdg dz_R_pairs_0 23 rfl) (fun r7 u8 => ?_)
      refine vf_if_ne C (off := 6) (tgt := 46) (zdg dz_R_pairs_1 0 rfl) (by decide) ?_ ?_
      · refine vf_iconst C (z := 0) (zdg dz_R_pairs_1 2 rfl) (jz rfl) ?_
        refine vf_istore C (i := 4) (L' := [(0, (2, 44)), (1, (0, v1)), (2, (0, v2)), (3, (0, v3))]) (zdg dz_R_pairs_1 3 rfl) [0, 1, 2, 3] (jrI rfl rfl) hn (by decide) ?_
        exact vf_perm [1, 2, 3, 4, 0] rfl (t_R_pairs_49 C hn hR hr ih FU _ _ _ _ _)
      · refine vf_goto C (off := 99) (tgt := 142) (zdg dz_R_pairs_1 1 rfl) (by decide) ?_
        exact t_R_pairs_142 C hn hR hr ih _ _ _ _
def f_R_pairs (w : Wd) : Option (Int × Wd) :=
  jlw (st w 43 16 0) fun u1 =>
  jcall (f_R_findPairs u1) fun r2 u3 =>
  jcall (f_R_free u3) fun r4 u5 =>
  jlw (st u5 43 15 0) fun u6 =>
  f_R_pairs_23 FU r4 0 0 u6
theorem ct_R_pairs (w : Wd) : Ct y_R_pairs prog_14_method_53_code 5 (some .int) 5 0 [(2, 44)] w (f_R_pairs w) := by
  refine ct_of (by decide +kernel) (Or.inl ⟨rfl, rfl⟩) (Nat.le_of_ble_eq_true rfl) ?_
  intro X Qf ad C hn hR hr
  unfold f_R_pairs
  show VF X Qf ad NF 0 0 w 0 [(0, (2, 44))] [] _
  refine vf_aload_n C (f := 0) (zdg dz_R_pairs_0 0 rfl) 0 rfl rfl ?_
  refine vf_iconst C (z := 0) (zdg dz_R_pairs_0 1 rfl) (jz rfl) ?_
  refine vf_put C (kd := 0) fl_R_138 fk_11_16 sh_43 rfl (by decide) rfl rfl (by decide) (zdg dz_R_pairs_0 2 rfl) ?_
  generalize st w 43 16 0 = u1
  refine vf_uw ?_
  refine vf_aload_n C (f := 0) (zdg dz_R_pairs_0 3 rfl) 0 rfl rfl ?_
  refine vf_callVv C cy_R_findPairs ml_R_310 rfl (ct_R_findPairs _) (S := []) sh_43 (by decide) rfl (jrm_of hR rfl) rfl rfl (Nat.le_of_ble_eq_true rfl) (zdg dz_R_pairs_0 4 rfl) (fun r2 u3 => ?_)
  refine vf_aload_n C (f := 0) (zdg dz_R_pairs_0 5 rfl) 0 rfl rfl ?_
  refine vf_callVi C cy_R_free ml_R_286 rfl (ct_R_free _) (S := []) sh_43 (by decide) rfl (jrm_of hR rfl) rfl rfl (Nat.le_of_ble_eq_true rfl) (zdg dz_R_pairs_0 6 rfl) (fun r4 u5 => ?_)
  refine vf_istore_n C (f := 1) (L' := [(0, (2, 44))]) (zdg dz_R_pairs_0 7 rfl) [0] (jrI rfl rfl) hn (by decide) rfl ?_
  refine vf_iconst C (z := 0) (zdg dz_R_pairs_0 8 rfl) (jz rfl) ?_
  refine vf_istore_n C (f := 2) (L' := [(1, (0, r4)), (0, (2, 44))]) (zdg dz_R_pairs_0 9 rfl) [0, 1] (jrI rfl rfl) hn (by decide) rfl ?_
  refine vf_aload_n C (f := 0) (zdg dz_R_pairs_0 10 rfl) 2 rfl rfl ?_
  refine vf_iconst C (z := 0) (zdg dz_R_pairs_0 11 rfl) (jz rfl) ?_
  refine vf_put C (kd := 0) fl_R_141 fk_11_15 sh_43 rfl (by decide) rfl rfl (by decide) (zdg dz_R_pairs_0 12 rfl) ?_
  generalize st u5 43 15 0 = u6
  refine vf_uw ?_
  refine vf_iconst C (z := 0) (zdg dz_R_pairs_0 13 rfl) (jz rfl) ?_
  refine vf_istore_n C (f := 3) (L' := [(2, (0, 0)), (1, (0, r4)), (0, (2, 44))]) (zdg dz_R_pairs_0 14 rfl) [0, 1, 2] (jrI rfl rfl) hn (by decide) rfl ?_
  exact vf_perm [3, 2, 1, 0] rfl (t_R_pairs_23 C hn hR hr FU _ _ _ _)
def f_R_bars_127 (k20 : Int → Int → Int → Int → Int → Wd → Option (Int × Wd)) (v1 v2 v3 v4 v5 : Int) (w : Wd) : Option (Int × Wd) :=
  jlet (w32 (v5 + 1)) fun x14 =>
  k20 v1 v2 v3 v4 x14 w
theorem t_R_bars_127 {X : jX} {Qf : Int × Wd → State → Prop} {ad : Nat → Nat} (C : Cx X prog_14_method_54_code "EachBringsAnotherModel") (hn : xn X = 8) (hR : xR X = rmD 4) (hr : Rt X Qf ad prog_14_method_54_code 0) {k20 : Int → Int → Int → Int → Int → Wd → Option (Int × Wd)} (hk20 : ∀ (v1 v2 v3 v4 v5 : Int) (w : Wd), VF X Qf ad NF 0 0 w 20 [(0, (2, 44)), (1, (0, v1)), (2, (0, v2)), (3, (0, v3)), (4, (0, v4)), (5, (0, v5))] [] (k20 v1 v2 v3 v4 v5 w)) (v1 v2 v3 v4 v5 : Int) (w : Wd) : VF X Qf ad NF 0 0 w 127 [(0, (2, 44)), (1, (0, v1)), (2, (0, v2)), (3, (0, v3)), (4, (0, v4)), (5, (0, v5))] [] (f_R_bars_127 k20 v1 v2 v3 v4 v5 w) := by
  unfold f_R_bars_127
  refine vf_iinc C (z := 1) (L' := [(0, (2, 44)), (1, (0, v1)), (2, (0, v2)), (3, (0, v3)), (4, (0, v4))]) (zdg dz_R_bars_2 21 rfl) 5 rfl [0, 1, 2, 3, 4] (jrI rfl rfl) hn (by decide) ?_
  generalize w32 (v5 + 1) = x14
  refine vf_ul ?_
  refine vf_goto C (off := (-110)) (tgt := 20) (zdg dz_R_bars_2 22 rfl) (by decide) ?_
  exact vf_perm [1, 2, 3, 4, 5, 0] rfl (hk20 _ _ _ _ _ _)
def f_R_bars_86 (k20 : Int → Int → Int → Int → Int → Wd → Option (Int × Wd)) (k49 : Int → Int → Int → Int → Int → Int → Int → Wd → Option (Int × Wd)) (v1 v2 v3 v4 v5 v7 s0 s1 : Int) (w : Wd) : Option (Int × Wd) :=
  jlet (ior s0 s1) fun x17 =>
  jlet (w32 (v7 + 1)) fun x18 =>
  k49 v1 v2 v3 v4 v5 x17 x18 w
theorem t_R_bars_86 {X : jX} {Qf : Int × Wd → State → Prop} {ad : Nat → Nat} (C : Cx X prog_14_method_54_code "EachBringsAnotherModel") (hn : xn X = 8) (hR : xR X = rmD 4) (hr : Rt X Qf ad prog_14_method_54_code 0) {k20 : Int → Int → Int → Int → Int → Wd → Option (Int × Wd)} (hk20 : ∀ (v1 v2 v3 v4 v5 : Int) (w : Wd), VF X Qf ad NF 0 0 w 20 [(0, (2, 44)), (1, (0, v1)), (2, (0, v2)), (3, (0, v3)), (4, (0, v4)), (5, (0, v5))] [] (k20 v1 v2 v3 v4 v5 w)) {k49 : Int → Int → Int → Int → Int → Int → Int → Wd → Option (Int × Wd)} (hk49 : ∀ (v1 v2 v3 v4 v5 v6 v7 : Int) (w : Wd), VF X Qf ad NF 0 0 w 49 [(0, (2, 44)), (1, (0, v1)), (2, (0, v2)), (3, (0, v3)), (4, (0, v4)), (5, (0, v5)), (6, (0, v6)), (7, (0, v7))] [] (k49 v1 v2 v3 v4 v5 v6 v7 w)) (v1 v2 v3 v4 v5 v7 s0 s1 : Int) (w : Wd) : VF X Qf ad NF 0 0 w 86 [(0, (2, 44)), (1, (0, v1)), (2, (0, v2)), (3, (0, v3)), (4, (0, v4)), (5, (0, v5)), (7, (0, v7))] [(0, s1), (0, s0)] (f_R_bars_86 k20 k49 v1 v2 v3 v4 v5 v7 s0 s1 w) := by
  unfold f_R_bars_86
  refine vf_ior C (zdg dz_R_bars_2 1 rfl) ?_
  generalize ior s0 s1 = x17
  refine vf_ul ?_
  refine vf_istore C (i := 6) (L' := [(0, (2, 44)), (1, (0, v1)), (2, (0, v2)), (3, (0, v3)), (4, (0, v4)), (5, (0, v5)), (7, (0, v7))]) (zdg dz_R_bars_2 2 rfl) [0, 1, 2, 3, 4, 5, 6] (jrI rfl rfl) hn (by decide) ?_
  refine vf_iinc C (z := 1) (L' := [(6, (0, x17)), (0, (2, 44)), (1, (0, v1)), (2, (0, v2)), (3, (0, v3)), (4, (0, v4)), (5, (0, v5))]) (zdg dz_R_bars_2 3 rfl) 7 rfl [0, 1, 2, 3, 4, 5, 6] (jrI rfl rfl) hn (by decide) ?_
  generalize w32 (v7 + 1) = x18
  refine vf_ul ?_
  refine vf_goto C (off := (-43)) (tgt := 49) (zdg dz_R_bars_2 4 rfl) (by decide) ?_
  exact vf_perm [2, 3, 4, 5, 6, 7, 1, 0] rfl (hk49 _ _ _ _ _ _ _ _)
def f_R_bars_49 (k20 : Int → Int → Int → Int → Int → Wd → Option (Int × Wd)) : Nat → Int → Int → Int → Int → Int → Int → Int → Wd → Option (Int × Wd)
  | 0, _, _, _, _, _, _, _, _ => none
  | n + 1, v1, v2, v3, v4, v5, v6, v7, w =>
    if (w 43 0) ≤ v7 then
      jcall (f_JI_bitCount v5 w) fun r9 u10 =>
      jcall (f_JI_bitCount v6 u10) fun r11 u12 =>
      jlet (w32 (r9 - r11)) fun x13 =>
      if v3 < x13 then
        f_R_bars_127 k20 v1 v5 x13 v6 v5 u12
      else
        f_R_bars_127 k20 v1 v2 v3 v4 v5 u12
    else
      jcall (f_R_has v5 v7 w) fun r15 u16 =>
      if r15 = 0 then
        f_R_bars_86 k20 (f_R_bars_49 k20 n) v1 v2 v3 v4 v5 v7 v6 0 u16
      else
        jgd ((0 : Int) ≤ v7 ∧ v7 < 10) <|
        jcall (f_R_free u16) fun r19 u20 =>
        f_R_bars_86 k20 (f_R_bars_49 k20 n) v1 v2 v3 v4 v5 v7 v6 (iand (u16 45 v7.toNat) r19) u20
theorem t_R_bars_49 {X : jX} {Qf : Int × Wd → State → Prop} {ad : Nat → Nat} (C : Cx X prog_14_method_54_code "EachBringsAnotherModel") (hn : xn X = 8) (hR : xR X = rmD 4) (hr : Rt X Qf ad prog_14_method_54_code 0) {k20 : Int → Int → Int → Int → Int → Wd → Option (Int × Wd)} (hk20 : ∀ (v1 v2 v3 v4 v5 : Int) (w : Wd), VF X Qf ad NF 0 0 w 20 [(0, (2, 44)), (1, (0, v1)), (2, (0, v2)), (3, (0, v3)), (4, (0, v4)), (5, (0, v5))] [] (k20 v1 v2 v3 v4 v5 w)) : ∀ (n : Nat) (v1 v2 v3 v4 v5 v6 v7 : Int) (w : Wd), VF X Qf ad NF 0 0 w 49 [(0, (2, 44)), (1, (0, v1)), (2, (0, v2)), (3, (0, v3)), (4, (0, v4)), (5, (0, v5)), (6, (0, v6)), (7, (0, v7))] [] (f_R_bars_49 k20 n v1 v2 v3 v4 v5 v6 v7 w) := by
  intro n
  induction n with
  | zero => intros; exact vf_no
  | succ n ih =>
    intro v1 v2 v3 v4 v5 v6 v7 w
    rw [f_R_bars_49]
    refine vf_iload C (zdg dz_R_bars_1 7 rfl) 7 rfl ?_
    refine vf_aload_n C (f := 0) (zdg dz_R_bars_1 8 rfl) 0 rfl rfl ?_
    refine vf_get C (kd := 0) fl_R_144 sh_43 rfl (by decide) rfl rfl (zdg dz_R_bars_1 9 rfl) ?_
    refine vf_icmp_ge C (off := 40) (tgt := 95) (zdg dz_R_bars_1 10 rfl) (by decide) ?_ ?_
    · refine vf_iload C (zdg dz_R_bars_2 5 rfl) 5 rfl ?_
      refine vf_callSi C cy_JI_bitCount ml_R_242 (ct_JI_bitCount _ _) (S := []) (jrm_of hR rfl) rfl rfl (Nat.le_of_ble_eq_true rfl) (zdg dz_R_bars_2 6 rfl) (fun r9 u10 => ?_)
      refine vf_iload C (zdg dz_R_bars_2 7 rfl) 6 rfl ?_
      refine vf_callSi C cy_JI_bitCount ml_R_242 (ct_JI_bitCount _ _) (S := [(0, r9)]) (jrm_of hR rfl) rfl rfl (Nat.le_of_ble_eq_true rfl) (zdg dz_R_bars_2 8 rfl) (fun r11 u12 => ?_)
      refine vf_isub C (zdg dz_R_bars_2 9 rfl) ?_
      generalize w32 (r9 - r11) = x13
      refine vf_ul ?_
      refine vf_istore C (i := 7) (L' := [(0, (2, 44)), (1, (0, v1)), (2, (0, v2)), (3, (0, v3)), (4, (0, v4)), (5, (0, v5)), (6, (0, v6))]) (zdg dz_R_bars_2 10 rfl) [0, 1, 2, 3, 4, 5, 6] (jrI rfl rfl) hn (by decide) ?_
      refine vf_iload C (zdg dz_R_bars_2 11 rfl) 0 rfl ?_
      refine vf_iload_n C (f := 3) (zdg dz_R_bars_2 12 rfl) 4 rfl rfl ?_
      refine vf_icmp_gt C (off := 6) (tgt := 117) (zdg dz_R_bars_2 13 rfl) (by decide) ?_ ?_
      · refine vf_iload C (zdg dz_R_bars_2 15 rfl) 6 rfl ?_
        refine vf_istore_n C (f := 2) (L' := [(7, (0, x13)), (0, (2, 44)), (1, (0, v1)), (5, (0, v5)), (6, (0, v6))]) (zdg dz_R_bars_2 16 rfl) [0, 1, 2, 6, 7] (jrI rfl rfl) hn (by decide) rfl ?_
        refine vf_iload C (zdg dz_R_bars_2 17 rfl) 1 rfl ?_
        refine vf_istore_n C (f := 3) (L' := [(2, (0, v5)), (0, (2, 44)), (1, (0, v1)), (5, (0, v5)), (6, (0, v6))]) (zdg dz_R_bars_2 18 rfl) [0, 2, 3, 4, 5] (jrI rfl rfl) hn (by decide) rfl ?_
        refine vf_iload C (zdg dz_R_bars_2 19 rfl) 5 rfl ?_
        refine vf_istore C (i := 4) (L' := [(3, (0, x13)), (2, (0, v5)), (0, (2, 44)), (1, (0, v1)), (5, (0, v5))]) (zdg dz_R_bars_2 20 rfl) [0, 1, 2, 3, 4] (jrI rfl rfl) hn (by decide) ?_
        exact vf_perm [3, 4, 2, 1, 0, 5] rfl (t_R_bars_127 C hn hR hr hk20 _ _ _ _ _ _)
      · refine vf_goto C (off := 13) (tgt := 127) (zdg dz_R_bars_2 14 rfl) (by decide) ?_
        exact vf_perm [1, 2, 3, 4, 5, 6] rfl (t_R_bars_127 C hn hR hr hk20 _ _ _ _ _ _)
    · refine vf_iload C (zdg dz_R_bars_1 11 rfl) 6 rfl ?_
      refine vf_iload C (zdg dz_R_bars_1 12 rfl) 5 rfl ?_
      refine vf_iload C (zdg dz_R_bars_1 13 rfl) 7 rfl ?_
      refine vf_callSz C cy_R_has ml_R_210 (ct_R_has _ _ _) (S := [(0, v6)]) (jrm_of hR rfl) rfl rfl (Nat.le_of_ble_eq_true rfl) (zdg dz_R_bars_1 14 rfl) (fun r15 u16 => ?_)
      refine vf_if_eq C (off := 18) (tgt := 85) (zdg dz_R_bars_1 15 rfl) (by decide) ?_ ?_
      · refine vf_iconst C (z := 0) (zdg dz_R_bars_2 0 rfl) (jz rfl) ?_
        exact vf_perm [0, 1, 2, 3, 4, 5, 7] rfl (t_R_bars_86 C hn hR hr hk20 ih _ _ _ _ _ _ _ _ _)
      · refine vf_aload_n C (f := 0) (zdg dz_R_bars_1 16 rfl) 0 rfl rfl ?_
        refine vf_getp C fl_R_13 sh_43 rfl (by decide) rfl (x := 46) rfl (zdg dz_R_bars_1 17 rfl) ?_
        refine vf_iload C (zdg dz_R_bars_1 18 rfl) 7 rfl ?_
        refine vf_iald C sh_45 (by decide) rfl (mz := 10) rfl (zdg dz_R_bars_1 19 rfl) ?_
        refine vf_aload_n C (f := 0) (zdg dz_R_bars_1 20 rfl) 0 rfl rfl ?_
        refine vf_callVi C cy_R_free ml_R_286 rfl (ct_R_free _) (S := [(0, u16 45 v7.toNat), (0, v6)]) sh_43 (by decide) rfl (jrm_of hR rfl) rfl rfl (Nat.le_of_ble_eq_true rfl) (zdg dz_R_bars_1 21 rfl) (fun r19 u20 => ?_)
        refine vf_iand C (zdg dz_R_bars_1 22 rfl) ?_
        refine vf_goto C (off := 4) (tgt := 86) (zdg dz_R_bars_1 23 rfl) (by decide) ?_
        exact vf_perm [0, 1, 2, 3, 4, 5, 7] rfl (t_R_bars_86 C hn hR hr hk20 ih _ _ _ _ _ _ _ _ _)
def f_R_bars_20 : Nat → Int → Int → Int → Int → Int → Wd → Option (Int × Wd)
  | 0, _, _, _, _, _, _ => none
  | n + 1, v1, v2, v3, v4, v5, w =>
    if (ishl 1 (w 43 0)) ≤ v5 then
      jlw (st w 43 15 0) fun u4 =>
      jcall (f_R_tell v3 u4) fun r5 u6 =>
      jcall (f_R_tell v4 u6) fun r7 u8 =>
      some (v2, u8)
    else
      if (iand v5 (ixor v1 (-1))) = 0 then
        f_R_bars_49 (f_R_bars_20 n) FU v1 v2 v3 v4 v5 0 0 w
      else
        f_R_bars_127 (f_R_bars_20 n) v1 v2 v3 v4 v5 w
theorem t_R_bars_20 {X : jX} {Qf : Int × Wd → State → Prop} {ad : Nat → Nat} (C : Cx X prog_14_method_54_code "EachBringsAnotherModel") (hn : xn X = 8) (hR : xR X = rmD 4) (hr : Rt X Qf ad prog_14_method_54_code 0) : ∀ (n : Nat) (v1 v2 v3 v4 v5 : Int) (w : Wd), VF X Qf ad NF 0 0 w 20 [(0, (2, 44)), (1, (0, v1)), (2, (0, v2)), (3, (0, v3)), (4, (0, v4)), (5, (0, v5))] [] (f_R_bars_20 n v1 v2 v3 v4 v5 w) := by
  intro n
  induction n with
  | zero => intros; exact vf_no
  | succ n ih =>
    intro v1 v2 v3 v4 v5 w
    rw [f_R_bars_20]
    refine vf_iload C (zdg dz_R_bars_0 14 rfl) 5 rfl ?_
    refine vf_iconst C (z := 1) (zdg dz_R_bars_0 15 rfl) (jz rfl) ?_
    refine vf_aload_n C (f := 0) (zdg dz_R_bars_0 16 rfl) 0 rfl rfl ?_
    refine vf_get C (kd := 0) fl_R_144 sh_43 rfl (by decide) rfl rfl (zdg dz_R_bars_0 17 rfl) ?_
    refine vf_ishl C (zdg dz_R_bars_0 18 rfl) ?_
    refine vf_icmp_ge C (off := 105) (tgt := 133) (zdg dz_R_bars_0 19 rfl) (by decide) ?_ ?_
    · refine vf_aload_n C (f := 0) (zdg dz_R_bars_2 23 rfl) 0 rfl rfl ?_
      refine vf_iconst C (z := 0) (zdg dz_R_bars_3 0 rfl) (jz rfl) ?_
      refine vf_put C (kd := 0) fl_R_141 fk_11_15 sh_43 rfl (by decide) rfl rfl (by decide) (zdg dz_R_bars_3 1 rfl) ?_
      generalize st w 43 15 0 = u4
      refine vf_uw ?_
      refine vf_aload_n C (f := 0) (zdg dz_R_bars_3 2 rfl) 0 rfl rfl ?_
      refine vf_iload_n C (f := 3) (zdg dz_R_bars_3 3 rfl) 3 rfl rfl ?_
      refine vf_callVv C cy_R_tell ml_R_304 rfl (ct_R_tell _ _) (S := []) sh_43 (by decide) rfl (jrm_of hR rfl) rfl rfl (Nat.le_of_ble_eq_true rfl) (zdg dz_R_bars_3 4 rfl) (fun r5 u6 => ?_)
      refine vf_aload_n C (f := 0) (zdg dz_R_bars_3 5 rfl) 0 rfl rfl ?_
      refine vf_iload C (zdg dz_R_bars_3 6 rfl) 4 rfl ?_
      refine vf_callVv C cy_R_tell ml_R_304 rfl (ct_R_tell _ _) (S := []) sh_43 (by decide) rfl (jrm_of hR rfl) rfl rfl (Nat.le_of_ble_eq_true rfl) (zdg dz_R_bars_3 7 rfl) (fun r7 u8 => ?_)
      refine vf_iload_n C (f := 2) (zdg dz_R_bars_3 8 rfl) 2 rfl rfl ?_
      exact hr _ _ _ _ (fun h => absurd h (by decide)) (zdg dz_R_bars_3 9 rfl)
    · refine vf_iload C (zdg dz_R_bars_0 20 rfl) 5 rfl ?_
      refine vf_iload_n C (f := 1) (zdg dz_R_bars_0 21 rfl) 1 rfl rfl ?_
      refine vf_iconst C (z := (-1)) (zdg dz_R_bars_0 22 rfl) (jz rfl) ?_
      refine vf_ixor C (zdg dz_R_bars_0 23 rfl) ?_
      refine vf_iand C (zdg dz_R_bars_1 0 rfl) ?_
      refine vf_if_eq C (off := 6) (tgt := 43) (zdg dz_R_bars_1 1 rfl) (by decide) ?_ ?_
      · refine vf_iconst C (z := 0) (zdg dz_R_bars_1 3 rfl) (jz rfl) ?_
        refine vf_istore C (i := 6) (L' := [(0, (2, 44)), (1, (0, v1)), (2, (0, v2)), (3, (0, v3)), (4, (0, v4)), (5, (0, v5))]) (zdg dz_R_bars_1 4 rfl) [0, 1, 2, 3, 4, 5] (jrI rfl rfl) hn (by decide) ?_
        refine vf_iconst C (z := 0) (zdg dz_R_bars_1 5 rfl) (jz rfl) ?_
        refine vf_istore C (i := 7) (L' := [(6, (0, 0)), (0, (2, 44)), (1, (0, v1)), (2, (0, v2)), (3, (0, v3)), (4, (0, v4)), (5, (0, v5))]) (zdg dz_R_bars_1 6 rfl) [0, 1, 2, 3, 4, 5, 6] (jrI rfl rfl) hn (by decide) ?_
        exact vf_perm [2, 3, 4, 5, 6, 7, 1, 0] rfl (t_R_bars_49 C hn hR hr ih FU _ _ _ _ _ _ _ _)
      · refine vf_goto C (off := 87) (tgt := 127) (zdg dz_R_bars_1 2 rfl) (by decide) ?_
        exact t_R_bars_127 C hn hR hr ih _ _ _ _ _ _
def f_R_bars (w : Wd) : Option (Int × Wd) :=
  jlw (st w 43 16 0) fun u1 =>
  jcall (f_R_guests u1) fun r2 u3 =>
  f_R_bars_20 FU r2 0 0 0 1 u3
theorem ct_R_bars (w : Wd) : Ct y_R_bars prog_14_method_54_code 8 (some .int) 4 0 [(2, 44)] w (f_R_bars w) := by
  refine ct_of (by decide +kernel) (Or.inl ⟨rfl, rfl⟩) (Nat.le_of_ble_eq_true rfl) ?_
  intro X Qf ad C hn hR hr
  unfold f_R_bars
  show VF X Qf ad NF 0 0 w 0 [(0, (2, 44))] [] _
  refine vf_aload_n C (f := 0) (zdg dz_R_bars_0 0 rfl) 0 rfl rfl ?_
  refine vf_iconst C (z := 0) (zdg dz_R_bars_0 1 rfl) (jz rfl) ?_
  refine vf_put C (kd := 0) fl_R_138 fk_11_16 sh_43 rfl (by decide) rfl rfl (by decide) (zdg dz_R_bars_0 2 rfl) ?_
  generalize st w 43 16 0 = u1
  refine vf_uw ?_
  refine vf_aload_n C (f := 0) (zdg dz_R_bars_0 3 rfl) 0 rfl rfl ?_
  refine vf_callVi C cy_R_guests ml_R_217 rfl (ct_R_guests _) (S := []) sh_43 (by decide) rfl (jrm_of hR rfl) rfl rfl (Nat.le_of_ble_eq_true rfl) (zdg dz_R_bars_0 4 rfl) (fun r2 u3 => ?_)
  refine vf_istore_n C (f := 1) (L' := [(0, (2, 44))]) (zdg dz_R_bars_0 5 rfl) [0] (jrI rfl rfl) hn (by decide) rfl ?_
  refine vf_iconst C (z := 0) (zdg dz_R_bars_0 6 rfl) (jz rfl) ?_
  refine vf_istore_n C (f := 2) (L' := [(1, (0, r2)), (0, (2, 44))]) (zdg dz_R_bars_0 7 rfl) [0, 1] (jrI rfl rfl) hn (by decide) rfl ?_
  refine vf_iconst C (z := 0) (zdg dz_R_bars_0 8 rfl) (jz rfl) ?_
  refine vf_istore_n C (f := 3) (L' := [(2, (0, 0)), (1, (0, r2)), (0, (2, 44))]) (zdg dz_R_bars_0 9 rfl) [0, 1, 2] (jrI rfl rfl) hn (by decide) rfl ?_
  refine vf_iconst C (z := 0) (zdg dz_R_bars_0 10 rfl) (jz rfl) ?_
  refine vf_istore C (i := 4) (L' := [(3, (0, 0)), (2, (0, 0)), (1, (0, r2)), (0, (2, 44))]) (zdg dz_R_bars_0 11 rfl) [0, 1, 2, 3] (jrI rfl rfl) hn (by decide) ?_
  refine vf_iconst C (z := 1) (zdg dz_R_bars_0 12 rfl) (jz rfl) ?_
  refine vf_istore C (i := 5) (L' := [(4, (0, 0)), (3, (0, 0)), (2, (0, 0)), (1, (0, r2)), (0, (2, 44))]) (zdg dz_R_bars_0 13 rfl) [0, 1, 2, 3, 4] (jrI rfl rfl) hn (by decide) ?_
  exact vf_perm [5, 4, 3, 2, 1, 0] rfl (t_R_bars_20 C hn hR hr FU _ _ _ _ _ _)
def f_R_load_14 : Nat → Int → Int → Wd → Option (Int × Wd)
  | 0, _, _, _ => none
  | n + 1, v2, v3, w =>
    if v3 < 0 then
      some (0, w)
    else
      if 5 = 0 then none else
      jgd ((0 : Int) ≤ v3 ∧ v3 < 10) <|
      jlw (st w 68 v3.toNat ((irem v2 5))) fun u3 =>
      if 5 = 0 then none else
      jlet (idiv v2 5) fun x4 =>
      jlet (w32 (v3 + (-1))) fun x5 =>
      f_R_load_14 n x4 x5 u3
theorem t_R_load_14 {X : jX} {Qf : Int × Wd → State → Prop} {ad : Nat → Nat} (C : Cx X prog_14_method_55_code "EachBringsAnotherModel") (hn : xn X = 4) (hR : xR X = rmD 1) (hr : Rt X Qf ad prog_14_method_55_code 9) : ∀ (n : Nat) (v2 v3 : Int) (w : Wd), VF X Qf ad NF 0 0 w 14 [(0, (2, 44)), (2, (0, v2)), (3, (0, v3))] [] (f_R_load_14 n v2 v3 w) := by
  intro n
  induction n with
  | zero => intros; exact vf_no
  | succ n ih =>
    intro v2 v3 w
    rw [f_R_load_14]
    refine vf_iload_n C (f := 3) (zdg dz_R_load_0 10 rfl) 2 rfl rfl ?_
    refine vf_if_lt C (off := 22) (tgt := 37) (zdg dz_R_load_0 11 rfl) (by decide) ?_ ?_
    · exact hr _ _ _ _ (fun h => absurd h (by decide)) (zdg dz_R_load_1 1 rfl)
    · refine vf_aload_n C (f := 0) (zdg dz_R_load_0 12 rfl) 0 rfl rfl ?_
      refine vf_getp C fl_R_95 sh_43 rfl (by decide) rfl (x := 69) rfl (zdg dz_R_load_0 13 rfl) ?_
      refine vf_iload_n C (f := 3) (zdg dz_R_load_0 14 rfl) 2 rfl rfl ?_
      refine vf_iload_n C (f := 2) (zdg dz_R_load_0 15 rfl) 1 rfl rfl ?_
      refine vf_iconst C (z := 5) (zdg dz_R_load_0 16 rfl) (jz rfl) ?_
      refine vf_irem C (zdg dz_R_load_0 17 rfl) ?_
      refine vf_iast C sh_68 (by decide) rfl (mz := 10) rfl (zdg dz_R_load_0 18 rfl) ?_
      generalize st w 68 v3.toNat ((irem v2 5)) = u3
      refine vf_uw ?_
      refine vf_iload_n C (f := 2) (zdg dz_R_load_0 19 rfl) 1 rfl rfl ?_
      refine vf_iconst C (z := 5) (zdg dz_R_load_0 20 rfl) (jz rfl) ?_
      refine vf_idiv C (zdg dz_R_load_0 21 rfl) ?_
      generalize idiv v2 5 = x4
      refine vf_ul ?_
      refine vf_istore_n C (f := 2) (L' := [(0, (2, 44)), (3, (0, v3))]) (zdg dz_R_load_0 22 rfl) [0, 2] (jrI rfl rfl) hn (by decide) rfl ?_
      refine vf_iinc C (z := (-1)) (L' := [(2, (0, x4)), (0, (2, 44))]) (zdg dz_R_load_0 23 rfl) 2 rfl [0, 1] (jrI rfl rfl) hn (by decide) ?_
      generalize w32 (v3 + (-1)) = x5
      refine vf_ul ?_
      refine vf_goto C (off := (-20)) (tgt := 14) (zdg dz_R_load_1 0 rfl) (by decide) ?_
      exact vf_perm [2, 1, 0] rfl (ih _ _ _)
def f_R_load (v1 : Int) (w : Wd) : Option (Int × Wd) :=
  jgd ((0 : Int) ≤ v1 ∧ v1 < 3000) <|
  jlet (w 63 v1.toNat) fun x1 =>
  jlet (w32 ((w 43 0) - 1)) fun x2 =>
  f_R_load_14 FU x1 x2 w
theorem ct_R_load (v1 : Int) (w : Wd) : Ct y_R_load prog_14_method_55_code 4 none 1 9 [(2, 44), (0, v1)] w (f_R_load v1 w) := by
  refine ct_of (by decide +kernel) (Or.inr (Or.inr (Or.inr ⟨rfl, rfl⟩))) (Nat.le_of_ble_eq_true rfl) ?_
  intro X Qf ad C hn hR hr
  unfold f_R_load
  show VF X Qf ad NF 0 0 w 0 [(0, (2, 44)), (1, (0, v1))] [] _
  refine vf_aload_n C (f := 0) (zdg dz_R_load_0 0 rfl) 0 rfl rfl ?_
  refine vf_getp C fl_R_79 sh_43 rfl (by decide) rfl (x := 64) rfl (zdg dz_R_load_0 1 rfl) ?_
  refine vf_iload_n C (f := 1) (zdg dz_R_load_0 2 rfl) 1 rfl rfl ?_
  refine vf_iald C sh_63 (by decide) rfl (mz := 3000) rfl (zdg dz_R_load_0 3 rfl) ?_
  generalize w 63 v1.toNat = x1
  refine vf_ul ?_
  refine vf_istore_n C (f := 2) (L' := [(0, (2, 44))]) (zdg dz_R_load_0 4 rfl) [0] (jrI rfl rfl) hn (by decide) rfl ?_
  refine vf_aload_n C (f := 0) (zdg dz_R_load_0 5 rfl) 1 rfl rfl ?_
  refine vf_get C (kd := 0) fl_R_144 sh_43 rfl (by decide) rfl rfl (zdg dz_R_load_0 6 rfl) ?_
  refine vf_iconst C (z := 1) (zdg dz_R_load_0 7 rfl) (jz rfl) ?_
  refine vf_isub C (zdg dz_R_load_0 8 rfl) ?_
  generalize w32 ((w 43 0) - 1) = x2
  refine vf_ul ?_
  refine vf_istore_n C (f := 3) (L' := [(2, (0, x1)), (0, (2, 44))]) (zdg dz_R_load_0 9 rfl) [0, 1] (jrI rfl rfl) hn (by decide) rfl ?_
  exact vf_perm [2, 1, 0] rfl (t_R_load_14 C hn hR hr FU _ _ _)
def f_R_stateOf_50 (v1 v2 : Int) (w : Wd) : Option (Int × Wd) :=
  jgd ((0 : Int) ≤ v2 ∧ v2 < 8192) <|
  if (w 67 v2.toNat) = 0 then
    if (w 43 40) = 3000 then
      some ((-1), w)
    else
      jgd ((0 : Int) ≤ (w 43 40) ∧ (w 43 40) < 3000) <|
      jlw (st w 63 (w 43 40).toNat v1) fun u2 =>
      jgd ((0 : Int) ≤ (u2 43 40) ∧ (u2 43 40) < 3000) <|
      jlw (st u2 66 (u2 43 40).toNat (-1)) fun u3 =>
      jlw (st u3 43 40 (w32 ((u3 43 40) + 1))) fun u4 =>
      jgd ((0 : Int) ≤ v2 ∧ v2 < 8192) <|
      jlw (st u4 67 v2.toNat ((u4 43 40))) fun u5 =>
      some (w32 ((u5 43 40) - 1), u5)
  else
    jgd ((0 : Int) ≤ v2 ∧ v2 < 8192) <|
    some (w32 ((w 67 v2.toNat) - 1), w)
theorem t_R_stateOf_50 {X : jX} {Qf : Int × Wd → State → Prop} {ad : Nat → Nat} (C : Cx X prog_14_method_56_code "EachBringsAnotherModel") (hn : xn X = 3) (hR : xR X = rmD 1) (hr : Rt X Qf ad prog_14_method_56_code 0) (v1 v2 : Int) (w : Wd) : VF X Qf ad NF 0 0 w 50 [(0, (2, 44)), (1, (0, v1)), (2, (0, v2))] [] (f_R_stateOf_50 v1 v2 w) := by
  unfold f_R_stateOf_50
  refine vf_aload_n C (f := 0) (zdg dz_R_stateOf_1 7 rfl) 0 rfl rfl ?_
  refine vf_getp C fl_R_92 sh_43 rfl (by decide) rfl (x := 68) rfl (zdg dz_R_stateOf_1 8 rfl) ?_
  refine vf_iload_n C (f := 2) (zdg dz_R_stateOf_1 9 rfl) 2 rfl rfl ?_
  refine vf_iald C sh_67 (by decide) rfl (mz := 8192) rfl (zdg dz_R_stateOf_1 10 rfl) ?_
  refine vf_if_eq C (off := 12) (tgt := 68) (zdg dz_R_stateOf_1 11 rfl) (by decide) ?_ ?_
  · refine vf_aload_n C (f := 0) (zdg dz_R_stateOf_1 19 rfl) 0 rfl rfl ?_
    refine vf_get C (kd := 0) fl_R_314 sh_43 rfl (by decide) rfl rfl (zdg dz_R_stateOf_1 20 rfl) ?_
    refine vf_sipush C (z := 3000) (zdg dz_R_stateOf_1 21 rfl) (by decide +kernel) (jz rfl) ?_
    refine vf_icmp_ne C (off := 5) (tgt := 80) (zdg dz_R_stateOf_1 22 rfl) (by decide) ?_ ?_
    · refine vf_aload_n C (f := 0) (zdg dz_R_stateOf_2 1 rfl) 0 rfl rfl ?_
      refine vf_getp C fl_R_79 sh_43 rfl (by decide) rfl (x := 64) rfl (zdg dz_R_stateOf_2 2 rfl) ?_
      refine vf_aload_n C (f := 0) (zdg dz_R_stateOf_2 3 rfl) 0 rfl rfl ?_
      refine vf_get C (kd := 0) fl_R_314 sh_43 rfl (by decide) rfl rfl (zdg dz_R_stateOf_2 4 rfl) ?_
      refine vf_iload_n C (f := 1) (zdg dz_R_stateOf_2 5 rfl) 1 rfl rfl ?_
      refine vf_iast C sh_63 (by decide) rfl (mz := 3000) rfl (zdg dz_R_stateOf_2 6 rfl) ?_
      generalize st w 63 (w 43 40).toNat v1 = u2
      refine vf_uw ?_
      refine vf_aload_n C (f := 0) (zdg dz_R_stateOf_2 7 rfl) 0 rfl rfl ?_
      refine vf_getp C fl_R_89 sh_43 rfl (by decide) rfl (x := 67) rfl (zdg dz_R_stateOf_2 8 rfl) ?_
      refine vf_aload_n C (f := 0) (zdg dz_R_stateOf_2 9 rfl) 0 rfl rfl ?_
      refine vf_get C (kd := 0) fl_R_314 sh_43 rfl (by decide) rfl rfl (zdg dz_R_stateOf_2 10 rfl) ?_
      refine vf_iconst C (z := (-1)) (zdg dz_R_stateOf_2 11 rfl) (jz rfl) ?_
      refine vf_iast C sh_66 (by decide) rfl (mz := 3000) rfl (zdg dz_R_stateOf_2 12 rfl) ?_
      generalize st u2 66 (u2 43 40).toNat (-1) = u3
      refine vf_uw ?_
      refine vf_aload_n C (f := 0) (zdg dz_R_stateOf_2 13 rfl) 0 rfl rfl ?_
      refine vf_dup C (zdg dz_R_stateOf_2 14 rfl) (Nat.succ_ne_self 1) ?_
      refine vf_get C (kd := 0) fl_R_314 sh_43 rfl (by decide) rfl rfl (zdg dz_R_stateOf_2 15 rfl) ?_
      refine vf_iconst C (z := 1) (zdg dz_R_stateOf_2 16 rfl) (jz rfl) ?_
      refine vf_iadd C (zdg dz_R_stateOf_2 17 rfl) ?_
      refine vf_put C (kd := 0) fl_R_314 fk_11_40 sh_43 rfl (by decide) rfl rfl (by decide) (zdg dz_R_stateOf_2 18 rfl) ?_
      generalize st u3 43 40 (w32 ((u3 43 40) + 1)) = u4
      refine vf_uw ?_
      refine vf_aload_n C (f := 0) (zdg dz_R_stateOf_2 19 rfl) 0 rfl rfl ?_
      refine vf_getp C fl_R_92 sh_43 rfl (by decide) rfl (x := 68) rfl (zdg dz_R_stateOf_2 20 rfl) ?_
      refine vf_iload_n C (f := 2) (zdg dz_R_stateOf_2 21 rfl) 2 rfl rfl ?_
      refine vf_aload_n C (f := 0) (zdg dz_R_stateOf_2 22 rfl) 0 rfl rfl ?_
      refine vf_get C (kd := 0) fl_R_314 sh_43 rfl (by decide) rfl rfl (zdg dz_R_stateOf_2 23 rfl) ?_
      refine vf_iast C sh_67 (by decide) rfl (mz := 8192) rfl (zdg dz_R_stateOf_3 0 rfl) ?_
      generalize st u4 67 v2.toNat ((u4 43 40)) = u5
      refine vf_uw ?_
      refine vf_aload_n C (f := 0) (zdg dz_R_stateOf_3 1 rfl) 0 rfl rfl ?_
      refine vf_get C (kd := 0) fl_R_314 sh_43 rfl (by decide) rfl rfl (zdg dz_R_stateOf_3 2 rfl) ?_
      refine vf_iconst C (z := 1) (zdg dz_R_stateOf_3 3 rfl) (jz rfl) ?_
      refine vf_isub C (zdg dz_R_stateOf_3 4 rfl) ?_
      exact hr _ _ _ _ (fun h => absurd h (by decide)) (zdg dz_R_stateOf_3 5 rfl)
    · refine vf_iconst C (z := (-1)) (zdg dz_R_stateOf_1 23 rfl) (jz rfl) ?_
      exact hr _ _ _ _ (fun h => absurd h (by decide)) (zdg dz_R_stateOf_2 0 rfl)
  · refine vf_aload_n C (f := 0) (zdg dz_R_stateOf_1 12 rfl) 0 rfl rfl ?_
    refine vf_getp C fl_R_92 sh_43 rfl (by decide) rfl (x := 68) rfl (zdg dz_R_stateOf_1 13 rfl) ?_
    refine vf_iload_n C (f := 2) (zdg dz_R_stateOf_1 14 rfl) 2 rfl rfl ?_
    refine vf_iald C sh_67 (by decide) rfl (mz := 8192) rfl (zdg dz_R_stateOf_1 15 rfl) ?_
    refine vf_iconst C (z := 1) (zdg dz_R_stateOf_1 16 rfl) (jz rfl) ?_
    refine vf_isub C (zdg dz_R_stateOf_1 17 rfl) ?_
    exact hr _ _ _ _ (fun h => absurd h (by decide)) (zdg dz_R_stateOf_1 18 rfl)
def f_R_stateOf_13 : Nat → Int → Int → Wd → Option (Int × Wd)
  | 0, _, _, _ => none
  | n + 1, v1, v2, w =>
    jgd ((0 : Int) ≤ v2 ∧ v2 < 8192) <|
    if (w 67 v2.toNat) = 0 then
      f_R_stateOf_50 v1 v2 w
    else
      jgd ((0 : Int) ≤ v2 ∧ v2 < 8192) <|
      jgd ((0 : Int) ≤ (w32 ((w 67 v2.toNat) - 1)) ∧ (w32 ((w 67 v2.toNat) - 1)) < 3000) <|
      if (w 63 (w32 ((w 67 v2.toNat) - 1)).toNat) = v1 then
        f_R_stateOf_50 v1 v2 w
      else
        jlet (iand (w32 (v2 + 1)) 8191) fun x6 =>
        f_R_stateOf_13 n v1 x6 w
theorem t_R_stateOf_13 {X : jX} {Qf : Int × Wd → State → Prop} {ad : Nat → Nat} (C : Cx X prog_14_method_56_code "EachBringsAnotherModel") (hn : xn X = 3) (hR : xR X = rmD 1) (hr : Rt X Qf ad prog_14_method_56_code 0) : ∀ (n : Nat) (v1 v2 : Int) (w : Wd), VF X Qf ad NF 0 0 w 13 [(0, (2, 44)), (1, (0, v1)), (2, (0, v2))] [] (f_R_stateOf_13 n v1 v2 w) := by
  intro n
  induction n with
  | zero => intros; exact vf_no
  | succ n ih =>
    intro v1 v2 w
    rw [f_R_stateOf_13]
    refine vf_aload_n C (f := 0) (zdg dz_R_stateOf_0 8 rfl) 0 rfl rfl ?_
    refine vf_getp C fl_R_92 sh_43 rfl (by decide) rfl (x := 68) rfl (zdg dz_R_stateOf_0 9 rfl) ?_
    refine vf_iload_n C (f := 2) (zdg dz_R_stateOf_0 10 rfl) 2 rfl rfl ?_
    refine vf_iald C sh_67 (by decide) rfl (mz := 8192) rfl (zdg dz_R_stateOf_0 11 rfl) ?_
    refine vf_if_eq C (off := 31) (tgt := 50) (zdg dz_R_stateOf_0 12 rfl) (by decide) ?_ ?_
    · exact t_R_stateOf_50 C hn hR hr _ _ _
    · refine vf_aload_n C (f := 0) (zdg dz_R_stateOf_0 13 rfl) 0 rfl rfl ?_
      refine vf_getp C fl_R_79 sh_43 rfl (by decide) rfl (x := 64) rfl (zdg dz_R_stateOf_0 14 rfl) ?_
      refine vf_aload_n C (f := 0) (zdg dz_R_stateOf_0 15 rfl) 0 rfl rfl ?_
      refine vf_getp C fl_R_92 sh_43 rfl (by decide) rfl (x := 68) rfl (zdg dz_R_stateOf_0 16 rfl) ?_
      refine vf_iload_n C (f := 2) (zdg dz_R_stateOf_0 17 rfl) 2 rfl rfl ?_
      refine vf_iald C sh_67 (by decide) rfl (mz := 8192) rfl (zdg dz_R_stateOf_0 18 rfl) ?_
      refine vf_iconst C (z := 1) (zdg dz_R_stateOf_0 19 rfl) (jz rfl) ?_
      refine vf_isub C (zdg dz_R_stateOf_0 20 rfl) ?_
      refine vf_iald C sh_63 (by decide) rfl (mz := 3000) rfl (zdg dz_R_stateOf_0 21 rfl) ?_
      refine vf_iload_n C (f := 1) (zdg dz_R_stateOf_0 22 rfl) 1 rfl rfl ?_
      refine vf_icmp_eq C (off := 14) (tgt := 50) (zdg dz_R_stateOf_0 23 rfl) (by decide) ?_ ?_
      · exact t_R_stateOf_50 C hn hR hr _ _ _
      · refine vf_iload_n C (f := 2) (zdg dz_R_stateOf_1 0 rfl) 2 rfl rfl ?_
        refine vf_iconst C (z := 1) (zdg dz_R_stateOf_1 1 rfl) (jz rfl) ?_
        refine vf_iadd C (zdg dz_R_stateOf_1 2 rfl) ?_
        refine vf_sipush C (z := 8191) (zdg dz_R_stateOf_1 3 rfl) (by decide +kernel) (jz rfl) ?_
        refine vf_iand C (zdg dz_R_stateOf_1 4 rfl) ?_
        generalize iand (w32 (v2 + 1)) 8191 = x6
        refine vf_ul ?_
        refine vf_istore_n C (f := 2) (L' := [(0, (2, 44)), (1, (0, v1))]) (zdg dz_R_stateOf_1 5 rfl) [0, 1] (jrI rfl rfl) hn (by decide) rfl ?_
        refine vf_goto C (off := (-34)) (tgt := 13) (zdg dz_R_stateOf_1 6 rfl) (by decide) ?_
        exact vf_perm [1, 2, 0] rfl (ih _ _ _)
def f_R_stateOf (v1 : Int) (w : Wd) : Option (Int × Wd) :=
  jlet (iand (iush (w32 (v1 * (-1640531535))) 19) 8191) fun x1 =>
  f_R_stateOf_13 FU v1 x1 w
theorem ct_R_stateOf (v1 : Int) (w : Wd) : Ct y_R_stateOf prog_14_method_56_code 3 (some .int) 1 0 [(2, 44), (0, v1)] w (f_R_stateOf v1 w) := by
  refine ct_of (by decide +kernel) (Or.inl ⟨rfl, rfl⟩) (Nat.le_of_ble_eq_true rfl) ?_
  intro X Qf ad C hn hR hr
  unfold f_R_stateOf
  show VF X Qf ad NF 0 0 w 0 [(0, (2, 44)), (1, (0, v1))] [] _
  refine vf_iload_n C (f := 1) (zdg dz_R_stateOf_0 0 rfl) 1 rfl rfl ?_
  refine vf_ldcw C (z := (-1640531535)) (i := 313) (zdg dz_R_stateOf_0 1 rfl) kc_R_313 (by decide +kernel) (jz rfl) ?_
  refine vf_imul C (zdg dz_R_stateOf_0 2 rfl) ?_
  refine vf_bipush C (z := 19) (zdg dz_R_stateOf_0 3 rfl) (by decide +kernel) (jz rfl) ?_
  refine vf_iushr C (zdg dz_R_stateOf_0 4 rfl) ?_
  refine vf_sipush C (z := 8191) (zdg dz_R_stateOf_0 5 rfl) (by decide +kernel) (jz rfl) ?_
  refine vf_iand C (zdg dz_R_stateOf_0 6 rfl) ?_
  generalize iand (iush (w32 (v1 * (-1640531535))) 19) 8191 = x1
  refine vf_ul ?_
  refine vf_istore_n C (f := 2) (L' := [(0, (2, 44)), (1, (0, v1))]) (zdg dz_R_stateOf_0 7 rfl) [0, 1] (jrI rfl rfl) hn (by decide) rfl ?_
  exact vf_perm [1, 2, 0] rfl (t_R_stateOf_13 C hn hR hr FU _ _ _)
def f_R_behind_120 (v3 : Int) (w : Wd) : Option (Int × Wd) :=
  jcall (f_R_stateOf v3 w) fun r1 u2 =>
  if r1 = (-1) then
    some ((-2), u2)
  else
    some (r1, u2)
theorem t_R_behind_120 {X : jX} {Qf : Int × Wd → State → Prop} {ad : Nat → Nat} (C : Cx X prog_14_method_57_code "EachBringsAnotherModel") (hn : xn X = 7) (hR : xR X = rmD 2) (hr : Rt X Qf ad prog_14_method_57_code 0) (v3 : Int) (w : Wd) : VF X Qf ad NF 0 0 w 120 [(0, (2, 44)), (3, (0, v3))] [] (f_R_behind_120 v3 w) := by
  unfold f_R_behind_120
  refine vf_aload_n C (f := 0) (zdg dz_R_behind_2 18 rfl) 0 rfl rfl ?_
  refine vf_iload_n C (f := 3) (zdg dz_R_behind_2 19 rfl) 1 rfl rfl ?_
  refine vf_callVi C cy_R_stateOf ml_R_317 rfl (ct_R_stateOf _ _) (S := []) sh_43 (by decide) rfl (jrm_of hR rfl) rfl rfl (Nat.le_of_ble_eq_true rfl) (zdg dz_R_behind_2 20 rfl) (fun r1 u2 => ?_)
  refine vf_istore C (i := 5) (L' := []) (zdg dz_R_behind_2 21 rfl) [] (jrI rfl rfl) hn (by decide) ?_
  refine vf_iload C (zdg dz_R_behind_2 22 rfl) 0 rfl ?_
  refine vf_iconst C (z := (-1)) (zdg dz_R_behind_2 23 rfl) (jz rfl) ?_
  refine vf_icmp_ne C (off := 8) (tgt := 138) (zdg dz_R_behind_3 0 rfl) (by decide) ?_ ?_
  · refine vf_iload C (zdg dz_R_behind_3 3 rfl) 0 rfl ?_
    exact hr _ _ _ _ (fun h => absurd h (by decide)) (zdg dz_R_behind_3 4 rfl)
  · refine vf_bipush C (z := (-2)) (zdg dz_R_behind_3 1 rfl) (by decide +kernel) (jz rfl) ?_
    refine vf_goto C (off := 5) (tgt := 140) (zdg dz_R_behind_3 2 rfl) (by decide) ?_
    exact hr _ _ _ _ (fun h => absurd h (by decide)) (zdg dz_R_behind_3 4 rfl)
def f_R_behind_89 (k8 : Int → Int → Int → Int → Int → Wd → Option (Int × Wd)) (v1 v2 v3 v5 v6 s0 s1 : Int) (w : Wd) : Option (Int × Wd) :=
  jlet (w32 (s0 + s1)) fun x10 =>
  jlet (w32 ((w32 (5 * v3)) + v6)) fun x11 =>
  jlet (w32 (v5 + 1)) fun x12 =>
  k8 v1 v2 x11 x10 x12 w
theorem t_R_behind_89 {X : jX} {Qf : Int × Wd → State → Prop} {ad : Nat → Nat} (C : Cx X prog_14_method_57_code "EachBringsAnotherModel") (hn : xn X = 7) (hR : xR X = rmD 2) (hr : Rt X Qf ad prog_14_method_57_code 0) {k8 : Int → Int → Int → Int → Int → Wd → Option (Int × Wd)} (hk8 : ∀ (v1 v2 v3 v4 v5 : Int) (w : Wd), VF X Qf ad NF 0 0 w 8 [(0, (2, 44)), (1, (0, v1)), (2, (0, v2)), (3, (0, v3)), (4, (0, v4)), (5, (0, v5))] [] (k8 v1 v2 v3 v4 v5 w)) (v1 v2 v3 v5 v6 s0 s1 : Int) (w : Wd) : VF X Qf ad NF 0 0 w 89 [(0, (2, 44)), (1, (0, v1)), (2, (0, v2)), (3, (0, v3)), (5, (0, v5)), (6, (0, v6))] [(0, s1), (0, s0)] (f_R_behind_89 k8 v1 v2 v3 v5 v6 s0 s1 w) := by
  unfold f_R_behind_89
  refine vf_iadd C (zdg dz_R_behind_2 0 rfl) ?_
  generalize w32 (s0 + s1) = x10
  refine vf_ul ?_
  refine vf_istore C (i := 4) (L' := [(0, (2, 44)), (1, (0, v1)), (2, (0, v2)), (3, (0, v3)), (5, (0, v5)), (6, (0, v6))]) (zdg dz_R_behind_2 1 rfl) [0, 1, 2, 3, 4, 5] (jrI rfl rfl) hn (by decide) ?_
  refine vf_iconst C (z := 5) (zdg dz_R_behind_2 2 rfl) (jz rfl) ?_
  refine vf_iload_n C (f := 3) (zdg dz_R_behind_2 3 rfl) 4 rfl rfl ?_
  refine vf_imul C (zdg dz_R_behind_2 4 rfl) ?_
  refine vf_iload C (zdg dz_R_behind_2 5 rfl) 6 rfl ?_
  refine vf_iadd C (zdg dz_R_behind_2 6 rfl) ?_
  generalize w32 ((w32 (5 * v3)) + v6) = x11
  refine vf_ul ?_
  refine vf_istore_n C (f := 3) (L' := [(4, (0, x10)), (0, (2, 44)), (1, (0, v1)), (2, (0, v2)), (5, (0, v5))]) (zdg dz_R_behind_2 7 rfl) [0, 1, 2, 3, 5] (jrI rfl rfl) hn (by decide) rfl ?_
  refine vf_iinc C (z := 1) (L' := [(3, (0, x11)), (4, (0, x10)), (0, (2, 44)), (1, (0, v1)), (2, (0, v2))]) (zdg dz_R_behind_2 8 rfl) 5 rfl [0, 1, 2, 3, 4] (jrI rfl rfl) hn (by decide) ?_
  generalize w32 (v5 + 1) = x12
  refine vf_ul ?_
  refine vf_goto C (off := (-94)) (tgt := 8) (zdg dz_R_behind_2 9 rfl) (by decide) ?_
  exact vf_perm [3, 4, 5, 1, 2, 0] rfl (hk8 _ _ _ _ _ _)
def f_R_behind_74 (k8 : Int → Int → Int → Int → Int → Wd → Option (Int × Wd)) (v1 v2 v3 v4 v5 v6 : Int) (w : Wd) : Option (Int × Wd) :=
  jcall (f_R_isGuest v6 w) fun r8 u9 =>
  if r8 = 0 then
    f_R_behind_89 k8 v1 v2 v3 v5 v6 v4 0 u9
  else
    f_R_behind_89 k8 v1 v2 v3 v5 v6 v4 1 u9
theorem t_R_behind_74 {X : jX} {Qf : Int × Wd → State → Prop} {ad : Nat → Nat} (C : Cx X prog_14_method_57_code "EachBringsAnotherModel") (hn : xn X = 7) (hR : xR X = rmD 2) (hr : Rt X Qf ad prog_14_method_57_code 0) {k8 : Int → Int → Int → Int → Int → Wd → Option (Int × Wd)} (hk8 : ∀ (v1 v2 v3 v4 v5 : Int) (w : Wd), VF X Qf ad NF 0 0 w 8 [(0, (2, 44)), (1, (0, v1)), (2, (0, v2)), (3, (0, v3)), (4, (0, v4)), (5, (0, v5))] [] (k8 v1 v2 v3 v4 v5 w)) (v1 v2 v3 v4 v5 v6 : Int) (w : Wd) : VF X Qf ad NF 0 0 w 74 [(0, (2, 44)), (1, (0, v1)), (2, (0, v2)), (3, (0, v3)), (4, (0, v4)), (5, (0, v5)), (6, (0, v6))] [] (f_R_behind_74 k8 v1 v2 v3 v4 v5 v6 w) := by
  unfold f_R_behind_74
  refine vf_iload C (zdg dz_R_behind_1 17 rfl) 4 rfl ?_
  refine vf_iload C (zdg dz_R_behind_1 18 rfl) 6 rfl ?_
  refine vf_callSz C cy_R_isGuest ml_R_256 (ct_R_isGuest _ _) (S := [(0, v4)]) (jrm_of hR rfl) rfl rfl (Nat.le_of_ble_eq_true rfl) (zdg dz_R_behind_1 19 rfl) (fun r8 u9 => ?_)
  refine vf_if_eq C (off := 7) (tgt := 88) (zdg dz_R_behind_1 20 rfl) (by decide) ?_ ?_
  · refine vf_iconst C (z := 0) (zdg dz_R_behind_1 23 rfl) (jz rfl) ?_
    exact vf_perm [0, 1, 2, 3, 5, 6] rfl (t_R_behind_89 C hn hR hr hk8 _ _ _ _ _ _ _ _)
  · refine vf_iconst C (z := 1) (zdg dz_R_behind_1 21 rfl) (jz rfl) ?_
    refine vf_goto C (off := 4) (tgt := 89) (zdg dz_R_behind_1 22 rfl) (by decide) ?_
    exact vf_perm [0, 1, 2, 3, 5, 6] rfl (t_R_behind_89 C hn hR hr hk8 _ _ _ _ _ _ _ _)
def f_R_behind_72 (k8 : Int → Int → Int → Int → Int → Wd → Option (Int × Wd)) (v1 v2 v3 v4 v5 s0 : Int) (w : Wd) : Option (Int × Wd) :=
  f_R_behind_74 k8 v1 v2 v3 v4 v5 s0 w
theorem t_R_behind_72 {X : jX} {Qf : Int × Wd → State → Prop} {ad : Nat → Nat} (C : Cx X prog_14_method_57_code "EachBringsAnotherModel") (hn : xn X = 7) (hR : xR X = rmD 2) (hr : Rt X Qf ad prog_14_method_57_code 0) {k8 : Int → Int → Int → Int → Int → Wd → Option (Int × Wd)} (hk8 : ∀ (v1 v2 v3 v4 v5 : Int) (w : Wd), VF X Qf ad NF 0 0 w 8 [(0, (2, 44)), (1, (0, v1)), (2, (0, v2)), (3, (0, v3)), (4, (0, v4)), (5, (0, v5))] [] (k8 v1 v2 v3 v4 v5 w)) (v1 v2 v3 v4 v5 s0 : Int) (w : Wd) : VF X Qf ad NF 0 0 w 72 [(0, (2, 44)), (1, (0, v1)), (2, (0, v2)), (3, (0, v3)), (4, (0, v4)), (5, (0, v5))] [(0, s0)] (f_R_behind_72 k8 v1 v2 v3 v4 v5 s0 w) := by
  unfold f_R_behind_72
  refine vf_istore C (i := 6) (L' := [(0, (2, 44)), (1, (0, v1)), (2, (0, v2)), (3, (0, v3)), (4, (0, v4)), (5, (0, v5))]) (zdg dz_R_behind_1 16 rfl) [0, 1, 2, 3, 4, 5] (jrI rfl rfl) hn (by decide) ?_
  exact vf_perm [1, 2, 3, 4, 5, 6, 0] rfl (t_R_behind_74 C hn hR hr hk8 _ _ _ _ _ _ _)
def f_R_behind_8 : Nat → Int → Int → Int → Int → Int → Wd → Option (Int × Wd)
  | 0, _, _, _, _, _, _ => none
  | n + 1, v1, v2, v3, v4, v5, w =>
    if (w 43 0) ≤ v5 then
      if v1 = 0 then
        f_R_behind_120 v3 w
      else
        if v4 ≤ (w 43 11) then
          f_R_behind_120 v3 w
        else
          some ((-1), w)
    else
      jgd ((0 : Int) ≤ v5 ∧ v5 < 10) <|
      jlet (w 68 v5.toNat) fun x3 =>
      jcall (f_R_has (ior v1 v2) v5 w) fun r4 u5 =>
      if r4 = 0 then
        jcall (f_R_isGuest x3 u5) fun r6 u7 =>
        if r6 = 0 then
          f_R_behind_74 (f_R_behind_8 n) v1 v2 v3 v4 v5 x3 u7
        else
          if (w32 ((w32 (x3 + 1)) - 1)) < (u7 43 10) then
            f_R_behind_72 (f_R_behind_8 n) v1 v2 v3 v4 v5 (w32 (x3 + 1)) u7
          else
            f_R_behind_72 (f_R_behind_8 n) v1 v2 v3 v4 v5 4 u7
      else
        f_R_behind_74 (f_R_behind_8 n) v1 v2 v3 v4 v5 1 u5
theorem t_R_behind_8 {X : jX} {Qf : Int × Wd → State → Prop} {ad : Nat → Nat} (C : Cx X prog_14_method_57_code "EachBringsAnotherModel") (hn : xn X = 7) (hR : xR X = rmD 2) (hr : Rt X Qf ad prog_14_method_57_code 0) : ∀ (n : Nat) (v1 v2 v3 v4 v5 : Int) (w : Wd), VF X Qf ad NF 0 0 w 8 [(0, (2, 44)), (1, (0, v1)), (2, (0, v2)), (3, (0, v3)), (4, (0, v4)), (5, (0, v5))] [] (f_R_behind_8 n v1 v2 v3 v4 v5 w) := by
  intro n
  induction n with
  | zero => intros; exact vf_no
  | succ n ih =>
    intro v1 v2 v3 v4 v5 w
    rw [f_R_behind_8]
    refine vf_iload C (zdg dz_R_behind_0 6 rfl) 5 rfl ?_
    refine vf_aload_n C (f := 0) (zdg dz_R_behind_0 7 rfl) 0 rfl rfl ?_
    refine vf_get C (kd := 0) fl_R_144 sh_43 rfl (by decide) rfl rfl (zdg dz_R_behind_0 8 rfl) ?_
    refine vf_icmp_ge C (off := 91) (tgt := 105) (zdg dz_R_behind_0 9 rfl) (by decide) ?_ ?_
    · refine vf_iload_n C (f := 1) (zdg dz_R_behind_2 10 rfl) 1 rfl rfl ?_
      refine vf_if_eq C (off := 14) (tgt := 120) (zdg dz_R_behind_2 11 rfl) (by decide) ?_ ?_
      · exact vf_perm [0, 3] rfl (t_R_behind_120 C hn hR hr _ _)
      · refine vf_iload C (zdg dz_R_behind_2 12 rfl) 4 rfl ?_
        refine vf_aload_n C (f := 0) (zdg dz_R_behind_2 13 rfl) 0 rfl rfl ?_
        refine vf_get C (kd := 0) fl_R_36 sh_43 rfl (by decide) rfl rfl (zdg dz_R_behind_2 14 rfl) ?_
        refine vf_icmp_le C (off := 5) (tgt := 120) (zdg dz_R_behind_2 15 rfl) (by decide) ?_ ?_
        · exact vf_perm [0, 3] rfl (t_R_behind_120 C hn hR hr _ _)
        · refine vf_iconst C (z := (-1)) (zdg dz_R_behind_2 16 rfl) (jz rfl) ?_
          exact hr _ _ _ _ (fun h => absurd h (by decide)) (zdg dz_R_behind_2 17 rfl)
    · refine vf_aload_n C (f := 0) (zdg dz_R_behind_0 10 rfl) 0 rfl rfl ?_
      refine vf_getp C fl_R_95 sh_43 rfl (by decide) rfl (x := 69) rfl (zdg dz_R_behind_0 11 rfl) ?_
      refine vf_iload C (zdg dz_R_behind_0 12 rfl) 5 rfl ?_
      refine vf_iald C sh_68 (by decide) rfl (mz := 10) rfl (zdg dz_R_behind_0 13 rfl) ?_
      generalize w 68 v5.toNat = x3
      refine vf_ul ?_
      refine vf_istore C (i := 6) (L' := [(0, (2, 44)), (1, (0, v1)), (2, (0, v2)), (3, (0, v3)), (4, (0, v4)), (5, (0, v5))]) (zdg dz_R_behind_0 14 rfl) [0, 1, 2, 3, 4, 5] (jrI rfl rfl) hn (by decide) ?_
      refine vf_iload_n C (f := 1) (zdg dz_R_behind_0 15 rfl) 2 rfl rfl ?_
      refine vf_iload_n C (f := 2) (zdg dz_R_behind_0 16 rfl) 3 rfl rfl ?_
      refine vf_ior C (zdg dz_R_behind_0 17 rfl) ?_
      refine vf_iload C (zdg dz_R_behind_0 18 rfl) 6 rfl ?_
      refine vf_callSz C cy_R_has ml_R_210 (ct_R_has _ _ _) (S := []) (jrm_of hR rfl) rfl rfl (Nat.le_of_ble_eq_true rfl) (zdg dz_R_behind_0 19 rfl) (fun r4 u5 => ?_)
      refine vf_if_eq C (off := 9) (tgt := 43) (zdg dz_R_behind_0 20 rfl) (by decide) ?_ ?_
      · refine vf_iload C (zdg dz_R_behind_1 0 rfl) 0 rfl ?_
        refine vf_callSz C cy_R_isGuest ml_R_256 (ct_R_isGuest _ _) (S := []) (jrm_of hR rfl) rfl rfl (Nat.le_of_ble_eq_true rfl) (zdg dz_R_behind_1 1 rfl) (fun r6 u7 => ?_)
        refine vf_if_eq C (off := 26) (tgt := 74) (zdg dz_R_behind_1 2 rfl) (by decide) ?_ ?_
        · exact vf_perm [1, 2, 3, 4, 5, 6, 0] rfl (t_R_behind_74 C hn hR hr ih _ _ _ _ _ _ _)
        · refine vf_iload C (zdg dz_R_behind_1 3 rfl) 0 rfl ?_
          refine vf_iconst C (z := 1) (zdg dz_R_behind_1 4 rfl) (jz rfl) ?_
          refine vf_iadd C (zdg dz_R_behind_1 5 rfl) ?_
          refine vf_iconst C (z := 1) (zdg dz_R_behind_1 6 rfl) (jz rfl) ?_
          refine vf_isub C (zdg dz_R_behind_1 7 rfl) ?_
          refine vf_aload_n C (f := 0) (zdg dz_R_behind_1 8 rfl) 1 rfl rfl ?_
          refine vf_get C (kd := 0) fl_R_32 sh_43 rfl (by decide) rfl rfl (zdg dz_R_behind_1 9 rfl) ?_
          refine vf_icmp_lt C (off := 7) (tgt := 68) (zdg dz_R_behind_1 10 rfl) (by decide) ?_ ?_
          · refine vf_iload C (zdg dz_R_behind_1 13 rfl) 0 rfl ?_
            refine vf_iconst C (z := 1) (zdg dz_R_behind_1 14 rfl) (jz rfl) ?_
            refine vf_iadd C (zdg dz_R_behind_1 15 rfl) ?_
            exact vf_perm [1, 2, 3, 4, 5, 6] rfl (t_R_behind_72 C hn hR hr ih _ _ _ _ _ _ _)
          · refine vf_iconst C (z := 4) (zdg dz_R_behind_1 11 rfl) (jz rfl) ?_
            refine vf_goto C (off := 7) (tgt := 72) (zdg dz_R_behind_1 12 rfl) (by decide) ?_
            exact vf_perm [1, 2, 3, 4, 5, 6] rfl (t_R_behind_72 C hn hR hr ih _ _ _ _ _ _ _)
      · refine vf_iconst C (z := 1) (zdg dz_R_behind_0 21 rfl) (jz rfl) ?_
        refine vf_istore C (i := 6) (L' := [(0, (2, 44)), (1, (0, v1)), (2, (0, v2)), (3, (0, v3)), (4, (0, v4)), (5, (0, v5))]) (zdg dz_R_behind_0 22 rfl) [1, 2, 3, 4, 5, 6] (jrI rfl rfl) hn (by decide) ?_
        refine vf_goto C (off := 34) (tgt := 74) (zdg dz_R_behind_0 23 rfl) (by decide) ?_
        exact vf_perm [1, 2, 3, 4, 5, 6, 0] rfl (t_R_behind_74 C hn hR hr ih _ _ _ _ _ _ _)
def f_R_behind (v1 v2 : Int) (w : Wd) : Option (Int × Wd) :=
  f_R_behind_8 FU v1 v2 0 0 0 w
theorem ct_R_behind (v1 v2 : Int) (w : Wd) : Ct y_R_behind prog_14_method_57_code 7 (some .int) 2 0 [(2, 44), (0, v1), (0, v2)] w (f_R_behind v1 v2 w) := by
  refine ct_of (by decide +kernel) (Or.inl ⟨rfl, rfl⟩) (Nat.le_of_ble_eq_true rfl) ?_
  intro X Qf ad C hn hR hr
  unfold f_R_behind
  show VF X Qf ad NF 0 0 w 0 [(0, (2, 44)), (1, (0, v1)), (2, (0, v2))] [] _
  refine vf_iconst C (z := 0) (zdg dz_R_behind_0 0 rfl) (jz rfl) ?_
  refine vf_istore_n C (f := 3) (L' := [(0, (2, 44)), (1, (0, v1)), (2, (0, v2))]) (zdg dz_R_behind_0 1 rfl) [0, 1, 2] (jrI rfl rfl) hn (by decide) rfl ?_
  refine vf_iconst C (z := 0) (zdg dz_R_behind_0 2 rfl) (jz rfl) ?_
  refine vf_istore C (i := 4) (L' := [(3, (0, 0)), (0, (2, 44)), (1, (0, v1)), (2, (0, v2))]) (zdg dz_R_behind_0 3 rfl) [0, 1, 2, 3] (jrI rfl rfl) hn (by decide) ?_
  refine vf_iconst C (z := 0) (zdg dz_R_behind_0 4 rfl) (jz rfl) ?_
  refine vf_istore C (i := 5) (L' := [(4, (0, 0)), (3, (0, 0)), (0, (2, 44)), (1, (0, v1)), (2, (0, v2))]) (zdg dz_R_behind_0 5 rfl) [0, 1, 2, 3, 4] (jrI rfl rfl) hn (by decide) ?_
  exact vf_perm [3, 4, 5, 2, 1, 0] rfl (t_R_behind_8 C hn hR hr FU _ _ _ _ _ _)
def f_R_goPairs_182 (rec : Int → Int → Int → Int → Wd → Option (Int × Wd)) (k109 : Int → Int → Int → Int → Int → Wd → Option (Int × Wd)) (v1 v2 v3 v4 v5 : Int) (w : Wd) : Option (Int × Wd) :=
  jlet (w32 (v5 + 1)) fun x7 =>
  k109 v1 v2 v3 v4 x7 w
theorem t_R_goPairs_182 {X : jX} {Qf : Int × Wd → State → Prop} {ad : Nat → Nat} (C : Cx X prog_14_method_58_code "EachBringsAnotherModel") (hn : xn X = 6) {dd : Nat} (hR : xR X = rmD (2 + dd + 1)) (hr : Rt X Qf ad prog_14_method_58_code 4) {rec : Int → Int → Int → Int → Wd → Option (Int × Wd)} (hrec : ∀ (v1 v2 v3 v4 : Int) (w : Wd), Ct y_R_goPairs prog_14_method_58_code 6 (some .boolean) (2 + dd) 4 [(2, 44), (0, v1), (0, v2), (0, v3), (0, v4)] w (rec v1 v2 v3 v4 w)) {k109 : Int → Int → Int → Int → Int → Wd → Option (Int × Wd)} (hk109 : ∀ (v1 v2 v3 v4 v5 : Int) (w : Wd), VF X Qf ad NF 0 0 w 109 [(0, (2, 44)), (1, (0, v1)), (2, (0, v2)), (3, (0, v3)), (4, (0, v4)), (5, (0, v5))] [] (k109 v1 v2 v3 v4 v5 w)) (v1 v2 v3 v4 v5 : Int) (w : Wd) : VF X Qf ad NF 0 0 w 182 [(0, (2, 44)), (1, (0, v1)), (2, (0, v2)), (3, (0, v3)), (4, (0, v4)), (5, (0, v5))] [] (f_R_goPairs_182 rec k109 v1 v2 v3 v4 v5 w) := by
  unfold f_R_goPairs_182
  refine vf_iinc C (z := 1) (L' := [(0, (2, 44)), (1, (0, v1)), (2, (0, v2)), (3, (0, v3)), (4, (0, v4))]) (zdg dz_R_goPairs_4 14 rfl) 5 rfl [0, 1, 2, 3, 4] (jrI rfl rfl) hn (by decide) ?_
  generalize w32 (v5 + 1) = x7
  refine vf_ul ?_
  refine vf_goto C (off := (-76)) (tgt := 109) (zdg dz_R_goPairs_4 15 rfl) (by decide) ?_
  exact vf_perm [1, 2, 3, 4, 5, 0] rfl (hk109 _ _ _ _ _ _)
def f_R_goPairs_109 (rec : Int → Int → Int → Int → Wd → Option (Int × Wd)) : Nat → Int → Int → Int → Int → Int → Wd → Option (Int × Wd)
  | 0, _, _, _, _, _, _ => none
  | n + 1, v1, v2, v3, v4, v5, w =>
    if (w 43 0) ≤ v5 then
      some (1, w)
    else
      jgd ((0 : Int) ≤ v2 ∧ v2 < 10) <|
      jcall (f_R_has (iand (iand (w 45 v2.toNat) (ixor v4 (-1))) (ixor (w 43 44) (-1))) v5 w) fun r5 u6 =>
      if r5 = 0 then
        f_R_goPairs_182 rec (f_R_goPairs_109 rec n) v1 v2 v3 v4 v5 u6
      else
        jgd ((0 : Int) ≤ v5 ∧ v5 < 10) <|
        if (u6 68 v5.toNat) = 0 then
          jcall (rec v1 (w32 (v2 + 1)) (ior v3 (ishl 1 v2)) (ior v4 (ishl 1 v5)) u6) fun r8 u9 =>
          if r8 = 0 then
            some (0, u9)
          else
            f_R_goPairs_182 rec (f_R_goPairs_109 rec n) v1 v2 v3 v4 v5 u9
        else
          f_R_goPairs_182 rec (f_R_goPairs_109 rec n) v1 v2 v3 v4 v5 u6
theorem t_R_goPairs_109 {X : jX} {Qf : Int × Wd → State → Prop} {ad : Nat → Nat} (C : Cx X prog_14_method_58_code "EachBringsAnotherModel") (hn : xn X = 6) {dd : Nat} (hR : xR X = rmD (2 + dd + 1)) (hr : Rt X Qf ad prog_14_method_58_code 4) {rec : Int → Int → Int → Int → Wd → Option (Int × Wd)} (hrec : ∀ (v1 v2 v3 v4 : Int) (w : Wd), Ct y_R_goPairs prog_14_method_58_code 6 (some .boolean) (2 + dd) 4 [(2, 44), (0, v1), (0, v2), (0, v3), (0, v4)] w (rec v1 v2 v3 v4 w)) : ∀ (n : Nat) (v1 v2 v3 v4 v5 : Int) (w : Wd), VF X Qf ad NF 0 0 w 109 [(0, (2, 44)), (1, (0, v1)), (2, (0, v2)), (3, (0, v3)), (4, (0, v4)), (5, (0, v5))] [] (f_R_goPairs_109 rec n v1 v2 v3 v4 v5 w) := by
  intro n
  induction n with
  | zero => intros; exact vf_no
  | succ n ih =>
    intro v1 v2 v3 v4 v5 w
    rw [f_R_goPairs_109]
    refine vf_iload C (zdg dz_R_goPairs_2 17 rfl) 5 rfl ?_
    refine vf_aload_n C (f := 0) (zdg dz_R_goPairs_2 18 rfl) 0 rfl rfl ?_
    refine vf_get C (kd := 0) fl_R_144 sh_43 rfl (by decide) rfl rfl (zdg dz_R_goPairs_2 19 rfl) ?_
    refine vf_icmp_ge C (off := 73) (tgt := 188) (zdg dz_R_goPairs_2 20 rfl) (by decide) ?_ ?_
    · refine vf_iconst C (z := 1) (zdg dz_R_goPairs_4 16 rfl) (jz rfl) ?_
      exact hr _ _ _ _ (fun _ => Or.inr rfl) (zdg dz_R_goPairs_4 17 rfl)
    · refine vf_aload_n C (f := 0) (zdg dz_R_goPairs_2 21 rfl) 0 rfl rfl ?_
      refine vf_getp C fl_R_13 sh_43 rfl (by decide) rfl (x := 46) rfl (zdg dz_R_goPairs_2 22 rfl) ?_
      refine vf_iload_n C (f := 2) (zdg dz_R_goPairs_2 23 rfl) 2 rfl rfl ?_
      refine vf_iald C sh_45 (by decide) rfl (mz := 10) rfl (zdg dz_R_goPairs_3 0 rfl) ?_
      refine vf_iload C (zdg dz_R_goPairs_3 1 rfl) 4 rfl ?_
      refine vf_iconst C (z := (-1)) (zdg dz_R_goPairs_3 2 rfl) (jz rfl) ?_
      refine vf_ixor C (zdg dz_R_goPairs_3 3 rfl) ?_
      refine vf_iand C (zdg dz_R_goPairs_3 4 rfl) ?_
      refine vf_aload_n C (f := 0) (zdg dz_R_goPairs_3 5 rfl) 0 rfl rfl ?_
      refine vf_get C (kd := 0) fl_R_330 sh_43 rfl (by decide) rfl rfl (zdg dz_R_goPairs_3 6 rfl) ?_
      refine vf_iconst C (z := (-1)) (zdg dz_R_goPairs_3 7 rfl) (jz rfl) ?_
      refine vf_ixor C (zdg dz_R_goPairs_3 8 rfl) ?_
      refine vf_iand C (zdg dz_R_goPairs_3 9 rfl) ?_
      refine vf_iload C (zdg dz_R_goPairs_3 10 rfl) 5 rfl ?_
      refine vf_callSz C cy_R_has ml_R_210 (ct_R_has _ _ _) (S := []) (jrm_o hR (by omega) (by decide)) rfl rfl (Nat.le_of_ble_eq_true rfl) (zdg dz_R_goPairs_3 11 rfl) (fun r5 u6 => ?_)
      refine vf_if_eq C (off := 41) (tgt := 182) (zdg dz_R_goPairs_3 12 rfl) (by decide) ?_ ?_
      · exact t_R_goPairs_182 C hn hR hr hrec ih _ _ _ _ _ _
      · refine vf_aload_n C (f := 0) (zdg dz_R_goPairs_3 13 rfl) 0 rfl rfl ?_
        refine vf_getp C fl_R_95 sh_43 rfl (by decide) rfl (x := 69) rfl (zdg dz_R_goPairs_3 14 rfl) ?_
        refine vf_iload C (zdg dz_R_goPairs_3 15 rfl) 5 rfl ?_
        refine vf_iald C sh_68 (by decide) rfl (mz := 10) rfl (zdg dz_R_goPairs_3 16 rfl) ?_
        refine vf_if_eq C (off := 6) (tgt := 157) (zdg dz_R_goPairs_3 17 rfl) (by decide) ?_ ?_
        · refine vf_aload_n C (f := 0) (zdg dz_R_goPairs_3 19 rfl) 0 rfl rfl ?_
          refine vf_iload_n C (f := 1) (zdg dz_R_goPairs_3 20 rfl) 1 rfl rfl ?_
          refine vf_iload_n C (f := 2) (zdg dz_R_goPairs_3 21 rfl) 2 rfl rfl ?_
          refine vf_iconst C (z := 1) (zdg dz_R_goPairs_3 22 rfl) (jz rfl) ?_
          refine vf_iadd C (zdg dz_R_goPairs_3 23 rfl) ?_
          refine vf_iload_n C (f := 3) (zdg dz_R_goPairs_4 0 rfl) 3 rfl rfl ?_
          refine vf_iconst C (z := 1) (zdg dz_R_goPairs_4 1 rfl) (jz rfl) ?_
          refine vf_iload_n C (f := 2) (zdg dz_R_goPairs_4 2 rfl) 2 rfl rfl ?_
          refine vf_ishl C (zdg dz_R_goPairs_4 3 rfl) ?_
          refine vf_ior C (zdg dz_R_goPairs_4 4 rfl) ?_
          refine vf_iload C (zdg dz_R_goPairs_4 5 rfl) 4 rfl ?_
          refine vf_iconst C (z := 1) (zdg dz_R_goPairs_4 6 rfl) (jz rfl) ?_
          refine vf_iload C (zdg dz_R_goPairs_4 7 rfl) 5 rfl ?_
          refine vf_ishl C (zdg dz_R_goPairs_4 8 rfl) ?_
          refine vf_ior C (zdg dz_R_goPairs_4 9 rfl) ?_
          refine vf_callVz C cy_R_goPairs ml_R_326 rfl (hrec _ _ _ _ _) (S := []) sh_43 (by decide) rfl (jrm_o hR (by omega) (by decide)) rfl rfl (Nat.le_of_ble_eq_true rfl) (zdg dz_R_goPairs_4 10 rfl) (fun r8 u9 => ?_)
          refine vf_if_ne C (off := 5) (tgt := 182) (zdg dz_R_goPairs_4 11 rfl) (by decide) ?_ ?_
          · exact t_R_goPairs_182 C hn hR hr hrec ih _ _ _ _ _ _
          · refine vf_iconst C (z := 0) (zdg dz_R_goPairs_4 12 rfl) (jz rfl) ?_
            exact hr _ _ _ _ (fun _ => Or.inl rfl) (zdg dz_R_goPairs_4 13 rfl)
        · refine vf_goto C (off := 28) (tgt := 182) (zdg dz_R_goPairs_3 18 rfl) (by decide) ?_
          exact t_R_goPairs_182 C hn hR hr hrec ih _ _ _ _ _ _
def f_R_goPairs_b (rec : Int → Int → Int → Int → Wd → Option (Int × Wd)) (v1 v2 v3 v4 : Int) (w : Wd) : Option (Int × Wd) :=
  if v2 = (w 43 0) then
    jcall (f_R_behind v3 v4 w) fun r10 u11 =>
    if r10 = (-2) then
      some (0, u11)
    else
      if r10 = (-1) then
        some (1, u11)
      else
        jgd ((0 : Int) ≤ r10 ∧ r10 < 3000) <|
        if (u11 66 r10.toNat) = v1 then
          some (1, u11)
        else
          jgd ((0 : Int) ≤ r10 ∧ r10 < 3000) <|
          jlw (st u11 66 r10.toNat v1) fun u12 =>
          jgd ((0 : Int) ≤ (u12 43 41) ∧ (u12 43 41) < 756000) <|
          jlw (st u12 65 (u12 43 41).toNat r10) fun u13 =>
          jlw (st u13 43 41 (w32 ((u13 43 41) + 1))) fun u14 =>
          some (1, u14)
  else
    jcall (rec v1 (w32 (v2 + 1)) v3 v4 w) fun r1 u2 =>
    if r1 = 0 then
      some (0, u2)
    else
      jgd ((0 : Int) ≤ v2 ∧ v2 < 10) <|
      jcall (f_R_isGuest (u2 68 v2.toNat) u2) fun r3 u4 =>
      if r3 = 0 then
        some (1, u4)
      else
        f_R_goPairs_109 rec FU v1 v2 v3 v4 0 u4
theorem ct_R_goPairs_b {dd : Nat} {rec : Int → Int → Int → Int → Wd → Option (Int × Wd)} (hrec : ∀ (v1 v2 v3 v4 : Int) (w : Wd), Ct y_R_goPairs prog_14_method_58_code 6 (some .boolean) (2 + dd) 4 [(2, 44), (0, v1), (0, v2), (0, v3), (0, v4)] w (rec v1 v2 v3 v4 w)) (v1 v2 v3 v4 : Int) (w : Wd) : Ct y_R_goPairs prog_14_method_58_code 6 (some .boolean) (2 + dd + 1) 4 [(2, 44), (0, v1), (0, v2), (0, v3), (0, v4)] w (f_R_goPairs_b rec v1 v2 v3 v4 w) := by
  refine ct_of (by decide +kernel) (Or.inr (Or.inr (Or.inl ⟨rfl, rfl⟩))) (Nat.le_of_ble_eq_true rfl) ?_
  intro X Qf ad C hn hR hr
  unfold f_R_goPairs_b
  show VF X Qf ad NF 0 0 w 0 [(0, (2, 44)), (1, (0, v1)), (2, (0, v2)), (3, (0, v3)), (4, (0, v4))] [] _
  refine vf_iload_n C (f := 2) (zdg dz_R_goPairs_0 0 rfl) 2 rfl rfl ?_
  refine vf_aload_n C (f := 0) (zdg dz_R_goPairs_0 1 rfl) 0 rfl rfl ?_
  refine vf_get C (kd := 0) fl_R_144 sh_43 rfl (by decide) rfl rfl (zdg dz_R_goPairs_0 2 rfl) ?_
  refine vf_icmp_ne C (off := 71) (tgt := 76) (zdg dz_R_goPairs_0 3 rfl) (by decide) ?_ ?_
  · refine vf_aload_n C (f := 0) (zdg dz_R_goPairs_1 20 rfl) 0 rfl rfl ?_
    refine vf_iload_n C (f := 1) (zdg dz_R_goPairs_1 21 rfl) 1 rfl rfl ?_
    refine vf_iload_n C (f := 2) (zdg dz_R_goPairs_1 22 rfl) 2 rfl rfl ?_
    refine vf_iconst C (z := 1) (zdg dz_R_goPairs_1 23 rfl) (jz rfl) ?_
    refine vf_iadd C (zdg dz_R_goPairs_2 0 rfl) ?_
    refine vf_iload_n C (f := 3) (zdg dz_R_goPairs_2 1 rfl) 3 rfl rfl ?_
    refine vf_iload C (zdg dz_R_goPairs_2 2 rfl) 4 rfl ?_
    refine vf_callVz C cy_R_goPairs ml_R_326 rfl (hrec _ _ _ _ _) (S := []) sh_43 (by decide) rfl (jrm_o hR (by omega) (by decide)) rfl rfl (Nat.le_of_ble_eq_true rfl) (zdg dz_R_goPairs_2 3 rfl) (fun r1 u2 => ?_)
    refine vf_if_ne C (off := 5) (tgt := 92) (zdg dz_R_goPairs_2 4 rfl) (by decide) ?_ ?_
    · refine vf_aload_n C (f := 0) (zdg dz_R_goPairs_2 7 rfl) 0 rfl rfl ?_
      refine vf_getp C fl_R_95 sh_43 rfl (by decide) rfl (x := 69) rfl (zdg dz_R_goPairs_2 8 rfl) ?_
      refine vf_iload_n C (f := 2) (zdg dz_R_goPairs_2 9 rfl) 2 rfl rfl ?_
      refine vf_iald C sh_68 (by decide) rfl (mz := 10) rfl (zdg dz_R_goPairs_2 10 rfl) ?_
      refine vf_callSz C cy_R_isGuest ml_R_256 (ct_R_isGuest _ _) (S := []) (jrm_o hR (by omega) (by decide)) rfl rfl (Nat.le_of_ble_eq_true rfl) (zdg dz_R_goPairs_2 11 rfl) (fun r3 u4 => ?_)
      refine vf_if_ne C (off := 5) (tgt := 106) (zdg dz_R_goPairs_2 12 rfl) (by decide) ?_ ?_
      · refine vf_iconst C (z := 0) (zdg dz_R_goPairs_2 15 rfl) (jz rfl) ?_
        refine vf_istore C (i := 5) (L' := [(0, (2, 44)), (1, (0, v1)), (2, (0, v2)), (3, (0, v3)), (4, (0, v4))]) (zdg dz_R_goPairs_2 16 rfl) [0, 1, 2, 3, 4] (jrI rfl rfl) hn (by decide) ?_
        exact vf_perm [1, 2, 3, 4, 5, 0] rfl (t_R_goPairs_109 C hn hR hr hrec FU _ _ _ _ _ _)
      · refine vf_iconst C (z := 1) (zdg dz_R_goPairs_2 13 rfl) (jz rfl) ?_
        exact hr _ _ _ _ (fun _ => Or.inr rfl) (zdg dz_R_goPairs_2 14 rfl)
    · refine vf_iconst C (z := 0) (zdg dz_R_goPairs_2 5 rfl) (jz rfl) ?_
      exact hr _ _ _ _ (fun _ => Or.inl rfl) (zdg dz_R_goPairs_2 6 rfl)
  · refine vf_aload_n C (f := 0) (zdg dz_R_goPairs_0 4 rfl) 0 rfl rfl ?_
    refine vf_iload_n C (f := 3) (zdg dz_R_goPairs_0 5 rfl) 3 rfl rfl ?_
    refine vf_iload C (zdg dz_R_goPairs_0 6 rfl) 4 rfl ?_
    refine vf_callVi C cy_R_behind ml_R_320 rfl (ct_R_behind _ _ _) (S := []) sh_43 (by decide) rfl (jrm_o hR (by omega) (by decide)) rfl rfl (Nat.le_of_ble_eq_true rfl) (zdg dz_R_goPairs_0 7 rfl) (fun r10 u11 => ?_)
    refine vf_istore C (i := 5) (L' := [(0, (2, 44)), (1, (0, v1))]) (zdg dz_R_goPairs_0 8 rfl) [0, 1] (jrI rfl rfl) hn (by decide) ?_
    refine vf_iload C (zdg dz_R_goPairs_0 9 rfl) 0 rfl ?_
    refine vf_bipush C (z := (-2)) (zdg dz_R_goPairs_0 10 rfl) (by decide +kernel) (jz rfl) ?_
    refine vf_icmp_ne C (off := 5) (tgt := 26) (zdg dz_R_goPairs_0 11 rfl) (by decide) ?_ ?_
    · refine vf_iload C (zdg dz_R_goPairs_0 14 rfl) 0 rfl ?_
      refine vf_iconst C (z := (-1)) (zdg dz_R_goPairs_0 15 rfl) (jz rfl) ?_
      refine vf_icmp_eq C (off := 14) (tgt := 43) (zdg dz_R_goPairs_0 16 rfl) (by decide) ?_ ?_
      · refine vf_iconst C (z := 1) (zdg dz_R_goPairs_0 23 rfl) (jz rfl) ?_
        exact hr _ _ _ _ (fun _ => Or.inr rfl) (zdg dz_R_goPairs_1 0 rfl)
      · refine vf_aload_n C (f := 0) (zdg dz_R_goPairs_0 17 rfl) 1 rfl rfl ?_
        refine vf_getp C fl_R_89 sh_43 rfl (by decide) rfl (x := 67) rfl (zdg dz_R_goPairs_0 18 rfl) ?_
        refine vf_iload C (zdg dz_R_goPairs_0 19 rfl) 0 rfl ?_
        refine vf_iald C sh_66 (by decide) rfl (mz := 3000) rfl (zdg dz_R_goPairs_0 20 rfl) ?_
        refine vf_iload_n C (f := 1) (zdg dz_R_goPairs_0 21 rfl) 2 rfl rfl ?_
        refine vf_icmp_ne C (off := 5) (tgt := 45) (zdg dz_R_goPairs_0 22 rfl) (by decide) ?_ ?_
        · refine vf_aload_n C (f := 0) (zdg dz_R_goPairs_1 1 rfl) 1 rfl rfl ?_
          refine vf_getp C fl_R_89 sh_43 rfl (by decide) rfl (x := 67) rfl (zdg dz_R_goPairs_1 2 rfl) ?_
          refine vf_iload C (zdg dz_R_goPairs_1 3 rfl) 0 rfl ?_
          refine vf_iload_n C (f := 1) (zdg dz_R_goPairs_1 4 rfl) 2 rfl rfl ?_
          refine vf_iast C sh_66 (by decide) rfl (mz := 3000) rfl (zdg dz_R_goPairs_1 5 rfl) ?_
          generalize st u11 66 r10.toNat v1 = u12
          refine vf_uw ?_
          refine vf_aload_n C (f := 0) (zdg dz_R_goPairs_1 6 rfl) 1 rfl rfl ?_
          refine vf_getp C fl_R_86 sh_43 rfl (by decide) rfl (x := 66) rfl (zdg dz_R_goPairs_1 7 rfl) ?_
          refine vf_aload_n C (f := 0) (zdg dz_R_goPairs_1 8 rfl) 1 rfl rfl ?_
          refine vf_get C (kd := 0) fl_R_323 sh_43 rfl (by decide) rfl rfl (zdg dz_R_goPairs_1 9 rfl) ?_
          refine vf_iload C (zdg dz_R_goPairs_1 10 rfl) 0 rfl ?_
          refine vf_iast C sh_65 (by decide) rfl (mz := 756000) rfl (zdg dz_R_goPairs_1 11 rfl) ?_
          generalize st u12 65 (u12 43 41).toNat r10 = u13
          refine vf_uw ?_
          refine vf_aload_n C (f := 0) (zdg dz_R_goPairs_1 12 rfl) 1 rfl rfl ?_
          refine vf_dup C (zdg dz_R_goPairs_1 13 rfl) (Nat.succ_ne_self 1) ?_
          refine vf_get C (kd := 0) fl_R_323 sh_43 rfl (by decide) rfl rfl (zdg dz_R_goPairs_1 14 rfl) ?_
          refine vf_iconst C (z := 1) (zdg dz_R_goPairs_1 15 rfl) (jz rfl) ?_
          refine vf_iadd C (zdg dz_R_goPairs_1 16 rfl) ?_
          refine vf_put C (kd := 0) fl_R_323 fk_11_41 sh_43 rfl (by decide) rfl rfl (by decide) (zdg dz_R_goPairs_1 17 rfl) ?_
          generalize st u13 43 41 (w32 ((u13 43 41) + 1)) = u14
          refine vf_uw ?_
          refine vf_iconst C (z := 1) (zdg dz_R_goPairs_1 18 rfl) (jz rfl) ?_
          exact hr _ _ _ _ (fun _ => Or.inr rfl) (zdg dz_R_goPairs_1 19 rfl)
        · refine vf_iconst C (z := 1) (zdg dz_R_goPairs_0 23 rfl) (jz rfl) ?_
          exact hr _ _ _ _ (fun _ => Or.inr rfl) (zdg dz_R_goPairs_1 0 rfl)
    · refine vf_iconst C (z := 0) (zdg dz_R_goPairs_0 12 rfl) (jz rfl) ?_
      exact hr _ _ _ _ (fun _ => Or.inl rfl) (zdg dz_R_goPairs_0 13 rfl)
def f_R_goPairs : Nat → Int → Int → Int → Int → Wd → Option (Int × Wd)
  | 0, _, _, _, _, _ => none
  | d + 1, v1, v2, v3, v4, w => f_R_goPairs_b (f_R_goPairs d) v1 v2 v3 v4 w
theorem ct_R_goPairs_all : ∀ dd : Nat, (∀ (v1 v2 v3 v4 : Int) (w : Wd), Ct y_R_goPairs prog_14_method_58_code 6 (some .boolean) (2 + dd) 4 [(2, 44), (0, v1), (0, v2), (0, v3), (0, v4)] w (f_R_goPairs dd v1 v2 v3 v4 w)) := by
  intro dd
  induction dd with
  | zero => exact fun _ _ _ _ _  l D cA ad o ho => by cases ho
  | succ dd ih =>
    exact fun v1 v2 v3 v4 w => ct_R_goPairs_b ih v1 v2 v3 v4 w
theorem ct_R_goPairs (v1 v2 v3 v4 : Int) (w : Wd) : Ct y_R_goPairs prog_14_method_58_code 6 (some .boolean) 18 4 [(2, 44), (0, v1), (0, v2), (0, v3), (0, v4)] w (f_R_goPairs 16 v1 v2 v3 v4 w) := (ct_R_goPairs_all 16) v1 v2 v3 v4 w
def f_R_codeNow_4 : Nat → Int → Int → Wd → Option (Int × Wd)
  | 0, _, _, _ => none
  | n + 1, v1, v2, w =>
    if (w 43 0) ≤ v2 then
      some (v1, w)
    else
      jgd ((0 : Int) ≤ v2 ∧ v2 < 10) <|
      jlet (w32 ((w32 (5 * v1)) + (w 47 v2.toNat))) fun x1 =>
      jlet (w32 (v2 + 1)) fun x2 =>
      f_R_codeNow_4 n x1 x2 w
theorem t_R_codeNow_4 {X : jX} {Qf : Int × Wd → State → Prop} {ad : Nat → Nat} (C : Cx X prog_14_method_59_code "EachBringsAnotherModel") (hn : xn X = 3) (hR : xR X = rmD 1) (hr : Rt X Qf ad prog_14_method_59_code 0) : ∀ (n : Nat) (v1 v2 : Int) (w : Wd), VF X Qf ad NF 0 0 w 4 [(0, (2, 44)), (1, (0, v1)), (2, (0, v2))] [] (f_R_codeNow_4 n v1 v2 w) := by
  intro n
  induction n with
  | zero => intros; exact vf_no
  | succ n ih =>
    intro v1 v2 w
    rw [f_R_codeNow_4]
    refine vf_iload_n C (f := 2) (zdg dz_R_codeNow_0 4 rfl) 2 rfl rfl ?_
    refine vf_aload_n C (f := 0) (zdg dz_R_codeNow_0 5 rfl) 0 rfl rfl ?_
    refine vf_get C (kd := 0) fl_R_144 sh_43 rfl (by decide) rfl rfl (zdg dz_R_codeNow_0 6 rfl) ?_
    refine vf_icmp_ge C (off := 20) (tgt := 29) (zdg dz_R_codeNow_0 7 rfl) (by decide) ?_ ?_
    · refine vf_iload_n C (f := 1) (zdg dz_R_codeNow_0 19 rfl) 1 rfl rfl ?_
      exact hr _ _ _ _ (fun h => absurd h (by decide)) (zdg dz_R_codeNow_0 20 rfl)
    · refine vf_iconst C (z := 5) (zdg dz_R_codeNow_0 8 rfl) (jz rfl) ?_
      refine vf_iload_n C (f := 1) (zdg dz_R_codeNow_0 9 rfl) 1 rfl rfl ?_
      refine vf_imul C (zdg dz_R_codeNow_0 10 rfl) ?_
      refine vf_aload_n C (f := 0) (zdg dz_R_codeNow_0 11 rfl) 0 rfl rfl ?_
      refine vf_getp C fl_R_20 sh_43 rfl (by decide) rfl (x := 48) rfl (zdg dz_R_codeNow_0 12 rfl) ?_
      refine vf_iload_n C (f := 2) (zdg dz_R_codeNow_0 13 rfl) 2 rfl rfl ?_
      refine vf_iald C sh_47 (by decide) rfl (mz := 10) rfl (zdg dz_R_codeNow_0 14 rfl) ?_
      refine vf_iadd C (zdg dz_R_codeNow_0 15 rfl) ?_
      generalize w32 ((w32 (5 * v1)) + (w 47 v2.toNat)) = x1
      refine vf_ul ?_
      refine vf_istore_n C (f := 1) (L' := [(0, (2, 44)), (2, (0, v2))]) (zdg dz_R_codeNow_0 16 rfl) [0, 2] (jrI rfl rfl) hn (by decide) rfl ?_
      refine vf_iinc C (z := 1) (L' := [(1, (0, x1)), (0, (2, 44))]) (zdg dz_R_codeNow_0 17 rfl) 2 rfl [0, 1] (jrI rfl rfl) hn (by decide) ?_
      generalize w32 (v2 + 1) = x2
      refine vf_ul ?_
      refine vf_goto C (off := (-22)) (tgt := 4) (zdg dz_R_codeNow_0 18 rfl) (by decide) ?_
      exact vf_perm [2, 1, 0] rfl (ih _ _ _)
def f_R_codeNow (w : Wd) : Option (Int × Wd) :=
  f_R_codeNow_4 FU 0 0 w
theorem ct_R_codeNow (w : Wd) : Ct y_R_codeNow prog_14_method_59_code 3 (some .int) 1 0 [(2, 44)] w (f_R_codeNow w) := by
  refine ct_of (by decide +kernel) (Or.inl ⟨rfl, rfl⟩) (Nat.le_of_ble_eq_true rfl) ?_
  intro X Qf ad C hn hR hr
  unfold f_R_codeNow
  show VF X Qf ad NF 0 0 w 0 [(0, (2, 44))] [] _
  refine vf_iconst C (z := 0) (zdg dz_R_codeNow_0 0 rfl) (jz rfl) ?_
  refine vf_istore_n C (f := 1) (L' := [(0, (2, 44))]) (zdg dz_R_codeNow_0 1 rfl) [0] (jrI rfl rfl) hn (by decide) rfl ?_
  refine vf_iconst C (z := 0) (zdg dz_R_codeNow_0 2 rfl) (jz rfl) ?_
  refine vf_istore_n C (f := 2) (L' := [(1, (0, 0)), (0, (2, 44))]) (zdg dz_R_codeNow_0 3 rfl) [0, 1] (jrI rfl rfl) hn (by decide) rfl ?_
  exact vf_perm [2, 1, 0] rfl (t_R_codeNow_4 C hn hR hr FU _ _ _)
def f_R_findStates_53 : Nat → Int → Wd → Option (Int × Wd)
  | 0, _, _ => none
  | n + 1, v2, w =>
    if (w 43 40) ≤ v2 then
      jgd ((0 : Int) ≤ (w 43 40) ∧ (w 43 40) < 3001) <|
      jlw (st w 64 (w 43 40).toNat ((w 43 41))) fun u10 =>
      some (1, u10)
    else
      jgd ((0 : Int) ≤ v2 ∧ v2 < 3001) <|
      jlw (st w 64 v2.toNat ((w 43 41))) fun u11 =>
      jcall (f_R_load v2 u11) fun r12 u13 =>
      jcall (f_R_goPairs 16 v2 0 0 0 u13) fun r14 u15 =>
      if r14 = 0 then
        some (0, u15)
      else
        jlet (w32 (v2 + 1)) fun x16 =>
        f_R_findStates_53 n x16 u15
theorem t_R_findStates_53 {X : jX} {Qf : Int × Wd → State → Prop} {ad : Nat → Nat} (C : Cx X prog_14_method_60_code "EachBringsAnotherModel") (hn : xn X = 3) (hR : xR X = rmD 19) (hr : Rt X Qf ad prog_14_method_60_code 4) : ∀ (n : Nat) (v2 : Int) (w : Wd), VF X Qf ad NF 0 0 w 53 [(0, (2, 44)), (2, (0, v2))] [] (f_R_findStates_53 n v2 w) := by
  intro n
  induction n with
  | zero => intros; exact vf_no
  | succ n ih =>
    intro v2 w
    rw [f_R_findStates_53]
    refine vf_iload_n C (f := 2) (zdg dz_R_findStates_1 7 rfl) 1 rfl rfl ?_
    refine vf_aload_n C (f := 0) (zdg dz_R_findStates_1 8 rfl) 0 rfl rfl ?_
    refine vf_get C (kd := 0) fl_R_314 sh_43 rfl (by decide) rfl rfl (zdg dz_R_findStates_1 9 rfl) ?_
    refine vf_icmp_ge C (off := 37) (tgt := 95) (zdg dz_R_findStates_1 10 rfl) (by decide) ?_ ?_
    · refine vf_aload_n C (f := 0) (zdg dz_R_findStates_2 7 rfl) 0 rfl rfl ?_
      refine vf_getp C fl_R_82 sh_43 rfl (by decide) rfl (x := 65) rfl (zdg dz_R_findStates_2 8 rfl) ?_
      refine vf_aload_n C (f := 0) (zdg dz_R_findStates_2 9 rfl) 0 rfl rfl ?_
      refine vf_get C (kd := 0) fl_R_314 sh_43 rfl (by decide) rfl rfl (zdg dz_R_findStates_2 10 rfl) ?_
      refine vf_aload_n C (f := 0) (zdg dz_R_findStates_2 11 rfl) 0 rfl rfl ?_
      refine vf_get C (kd := 0) fl_R_323 sh_43 rfl (by decide) rfl rfl (zdg dz_R_findStates_2 12 rfl) ?_
      refine vf_iast C sh_64 (by decide) rfl (mz := 3001) rfl (zdg dz_R_findStates_2 13 rfl) ?_
      generalize st w 64 (w 43 40).toNat ((w 43 41)) = u10
      refine vf_uw ?_
      refine vf_iconst C (z := 1) (zdg dz_R_findStates_2 14 rfl) (jz rfl) ?_
      exact hr _ _ _ _ (fun _ => Or.inr rfl) (zdg dz_R_findStates_2 15 rfl)
    · refine vf_aload_n C (f := 0) (zdg dz_R_findStates_1 11 rfl) 0 rfl rfl ?_
      refine vf_getp C fl_R_82 sh_43 rfl (by decide) rfl (x := 65) rfl (zdg dz_R_findStates_1 12 rfl) ?_
      refine vf_iload_n C (f := 2) (zdg dz_R_findStates_1 13 rfl) 1 rfl rfl ?_
      refine vf_aload_n C (f := 0) (zdg dz_R_findStates_1 14 rfl) 0 rfl rfl ?_
      refine vf_get C (kd := 0) fl_R_323 sh_43 rfl (by decide) rfl rfl (zdg dz_R_findStates_1 15 rfl) ?_
      refine vf_iast C sh_64 (by decide) rfl (mz := 3001) rfl (zdg dz_R_findStates_1 16 rfl) ?_
      generalize st w 64 v2.toNat ((w 43 41)) = u11
      refine vf_uw ?_
      refine vf_aload_n C (f := 0) (zdg dz_R_findStates_1 17 rfl) 0 rfl rfl ?_
      refine vf_iload_n C (f := 2) (zdg dz_R_findStates_1 18 rfl) 1 rfl rfl ?_
      refine vf_callVv C cy_R_load ml_R_336 rfl (ct_R_load _ _) (S := []) sh_43 (by decide) rfl (jrm_of hR rfl) rfl rfl (Nat.le_of_ble_eq_true rfl) (zdg dz_R_findStates_1 19 rfl) (fun r12 u13 => ?_)
      refine vf_aload_n C (f := 0) (zdg dz_R_findStates_1 20 rfl) 0 rfl rfl ?_
      refine vf_iload_n C (f := 2) (zdg dz_R_findStates_1 21 rfl) 1 rfl rfl ?_
      refine vf_iconst C (z := 0) (zdg dz_R_findStates_1 22 rfl) (jz rfl) ?_
      refine vf_iconst C (z := 0) (zdg dz_R_findStates_1 23 rfl) (jz rfl) ?_
      refine vf_iconst C (z := 0) (zdg dz_R_findStates_2 0 rfl) (jz rfl) ?_
      refine vf_callVz C cy_R_goPairs ml_R_326 rfl (ct_R_goPairs _ _ _ _ _) (S := []) sh_43 (by decide) rfl (jrm_of hR rfl) rfl rfl (Nat.le_of_ble_eq_true rfl) (zdg dz_R_findStates_2 1 rfl) (fun r14 u15 => ?_)
      refine vf_if_ne C (off := 5) (tgt := 89) (zdg dz_R_findStates_2 2 rfl) (by decide) ?_ ?_
      · refine vf_iinc C (z := 1) (L' := [(0, (2, 44))]) (zdg dz_R_findStates_2 5 rfl) 1 rfl [0] (jrI rfl rfl) hn (by decide) ?_
        generalize w32 (v2 + 1) = x16
        refine vf_ul ?_
        refine vf_goto C (off := (-39)) (tgt := 53) (zdg dz_R_findStates_2 6 rfl) (by decide) ?_
        exact vf_perm [1, 0] rfl (ih _ _)
      · refine vf_iconst C (z := 0) (zdg dz_R_findStates_2 3 rfl) (jz rfl) ?_
        exact hr _ _ _ _ (fun _ => Or.inl rfl) (zdg dz_R_findStates_2 4 rfl)
def f_R_findStates_12 : Nat → Int → Wd → Option (Int × Wd)
  | 0, _, _ => none
  | n + 1, v2, w =>
    if (8192 : Int) ≤ v2 then
      jlw (st w 43 40 0) fun u4 =>
      jlw (st u4 43 41 0) fun u5 =>
      jcall (f_R_codeNow u5) fun r6 u7 =>
      jcall (f_R_stateOf r6 u7) fun r8 u9 =>
      f_R_findStates_53 FU 0 u9
    else
      jgd ((0 : Int) ≤ v2 ∧ v2 < 8192) <|
      jlw (st w 67 v2.toNat 0) fun u17 =>
      jlet (w32 (v2 + 1)) fun x18 =>
      f_R_findStates_12 n x18 u17
theorem t_R_findStates_12 {X : jX} {Qf : Int × Wd → State → Prop} {ad : Nat → Nat} (C : Cx X prog_14_method_60_code "EachBringsAnotherModel") (hn : xn X = 3) (hR : xR X = rmD 19) (hr : Rt X Qf ad prog_14_method_60_code 4) : ∀ (n : Nat) (v2 : Int) (w : Wd), VF X Qf ad NF 0 0 w 12 [(0, (2, 44)), (2, (0, v2))] [] (f_R_findStates_12 n v2 w) := by
  intro n
  induction n with
  | zero => intros; exact vf_no
  | succ n ih =>
    intro v2 w
    rw [f_R_findStates_12]
    refine vf_iload_n C (f := 2) (zdg dz_R_findStates_0 8 rfl) 1 rfl rfl ?_
    refine vf_sipush C (z := 8192) (zdg dz_R_findStates_0 9 rfl) (by decide +kernel) (jz rfl) ?_
    refine vf_icmp_ge C (off := 16) (tgt := 32) (zdg dz_R_findStates_0 10 rfl) (by decide) ?_ ?_
    · refine vf_aload_n C (f := 0) (zdg dz_R_findStates_0 18 rfl) 0 rfl rfl ?_
      refine vf_iconst C (z := 0) (zdg dz_R_findStates_0 19 rfl) (jz rfl) ?_
      refine vf_put C (kd := 0) fl_R_314 fk_11_40 sh_43 rfl (by decide) rfl rfl (by decide) (zdg dz_R_findStates_0 20 rfl) ?_
      generalize st w 43 40 0 = u4
      refine vf_uw ?_
      refine vf_aload_n C (f := 0) (zdg dz_R_findStates_0 21 rfl) 0 rfl rfl ?_
      refine vf_iconst C (z := 0) (zdg dz_R_findStates_0 22 rfl) (jz rfl) ?_
      refine vf_put C (kd := 0) fl_R_323 fk_11_41 sh_43 rfl (by decide) rfl rfl (by decide) (zdg dz_R_findStates_0 23 rfl) ?_
      generalize st u4 43 41 0 = u5
      refine vf_uw ?_
      refine vf_aload_n C (f := 0) (zdg dz_R_findStates_1 0 rfl) 0 rfl rfl ?_
      refine vf_aload_n C (f := 0) (zdg dz_R_findStates_1 1 rfl) 0 rfl rfl ?_
      refine vf_callVi C cy_R_codeNow ml_R_333 rfl (ct_R_codeNow _) (S := [(2, 44)]) sh_43 (by decide) rfl (jrm_of hR rfl) rfl rfl (Nat.le_of_ble_eq_true rfl) (zdg dz_R_findStates_1 2 rfl) (fun r6 u7 => ?_)
      refine vf_callVi C cy_R_stateOf ml_R_317 rfl (ct_R_stateOf _ _) (S := []) sh_43 (by decide) rfl (jrm_of hR rfl) rfl rfl (Nat.le_of_ble_eq_true rfl) (zdg dz_R_findStates_1 3 rfl) (fun r8 u9 => ?_)
      refine vf_pop C (zdg dz_R_findStates_1 4 rfl) Nat.zero_ne_one ?_
      refine vf_iconst C (z := 0) (zdg dz_R_findStates_1 5 rfl) (jz rfl) ?_
      refine vf_istore_n C (f := 2) (L' := [(0, (2, 44))]) (zdg dz_R_findStates_1 6 rfl) [0] (jrI rfl rfl) hn (by decide) rfl ?_
      exact vf_perm [1, 0] rfl (t_R_findStates_53 C hn hR hr FU _ _)
    · refine vf_aload_n C (f := 0) (zdg dz_R_findStates_0 11 rfl) 0 rfl rfl ?_
      refine vf_getp C fl_R_92 sh_43 rfl (by decide) rfl (x := 68) rfl (zdg dz_R_findStates_0 12 rfl) ?_
      refine vf_iload_n C (f := 2) (zdg dz_R_findStates_0 13 rfl) 1 rfl rfl ?_
      refine vf_iconst C (z := 0) (zdg dz_R_findStates_0 14 rfl) (jz rfl) ?_
      refine vf_iast C sh_67 (by decide) rfl (mz := 8192) rfl (zdg dz_R_findStates_0 15 rfl) ?_
      generalize st w 67 v2.toNat 0 = u17
      refine vf_uw ?_
      refine vf_iinc C (z := 1) (L' := [(0, (2, 44))]) (zdg dz_R_findStates_0 16 rfl) 1 rfl [0] (jrI rfl rfl) hn (by decide) ?_
      generalize w32 (v2 + 1) = x18
      refine vf_ul ?_
      refine vf_goto C (off := (-17)) (tgt := 12) (zdg dz_R_findStates_0 17 rfl) (by decide) ?_
      exact vf_perm [1, 0] rfl (ih _ _)
def f_R_findStates (v1 : Int) (w : Wd) : Option (Int × Wd) :=
  jcall (f_R_hidden w) fun r1 u2 =>
  jlw (st u2 43 44 (ior r1 v1)) fun u3 =>
  f_R_findStates_12 FU 0 u3
theorem ct_R_findStates (v1 : Int) (w : Wd) : Ct y_R_findStates prog_14_method_60_code 3 (some .boolean) 19 4 [(2, 44), (0, v1)] w (f_R_findStates v1 w) := by
  refine ct_of (by decide +kernel) (Or.inr (Or.inr (Or.inl ⟨rfl, rfl⟩))) (Nat.le_of_ble_eq_true rfl) ?_
  intro X Qf ad C hn hR hr
  unfold f_R_findStates
  show VF X Qf ad NF 0 0 w 0 [(0, (2, 44)), (1, (0, v1))] [] _
  refine vf_aload_n C (f := 0) (zdg dz_R_findStates_0 0 rfl) 0 rfl rfl ?_
  refine vf_aload_n C (f := 0) (zdg dz_R_findStates_0 1 rfl) 0 rfl rfl ?_
  refine vf_callVi C cy_R_hidden ml_R_159 rfl (ct_R_hidden _) (S := [(2, 44)]) sh_43 (by decide) rfl (jrm_of hR rfl) rfl rfl (Nat.le_of_ble_eq_true rfl) (zdg dz_R_findStates_0 2 rfl) (fun r1 u2 => ?_)
  refine vf_iload_n C (f := 1) (zdg dz_R_findStates_0 3 rfl) 1 rfl rfl ?_
  refine vf_ior C (zdg dz_R_findStates_0 4 rfl) ?_
  refine vf_put C (kd := 0) fl_R_330 fk_11_44 sh_43 rfl (by decide) rfl rfl (by decide) (zdg dz_R_findStates_0 5 rfl) ?_
  generalize st u2 43 44 (ior r1 v1) = u3
  refine vf_uw ?_
  refine vf_iconst C (z := 0) (zdg dz_R_findStates_0 6 rfl) (jz rfl) ?_
  refine vf_istore_n C (f := 2) (L' := [(0, (2, 44))]) (zdg dz_R_findStates_0 7 rfl) [0] (jrI rfl rfl) hn (by decide) rfl ?_
  exact vf_perm [1, 0] rfl (t_R_findStates_12 C hn hR hr FU _ _)
def f_R_guestsIn_40 (k17 : Int → Int → Int → Wd → Option (Int × Wd)) (v3 v4 s0 s1 : Int) (w : Wd) : Option (Int × Wd) :=
  jlet (ior s0 s1) fun x5 =>
  if 5 = 0 then none else
  jlet (idiv v3 5) fun x6 =>
  jlet (w32 (v4 + (-1))) fun x7 =>
  k17 x5 x6 x7 w
theorem t_R_guestsIn_40 {X : jX} {Qf : Int × Wd → State → Prop} {ad : Nat → Nat} (C : Cx X prog_14_method_61_code "EachBringsAnotherModel") (hn : xn X = 5) (hR : xR X = rmD 2) (hr : Rt X Qf ad prog_14_method_61_code 0) {k17 : Int → Int → Int → Wd → Option (Int × Wd)} (hk17 : ∀ (v2 v3 v4 : Int) (w : Wd), VF X Qf ad NF 0 0 w 17 [(2, (0, v2)), (3, (0, v3)), (4, (0, v4))] [] (k17 v2 v3 v4 w)) (v3 v4 s0 s1 : Int) (w : Wd) : VF X Qf ad NF 0 0 w 40 [(3, (0, v3)), (4, (0, v4))] [(0, s1), (0, s0)] (f_R_guestsIn_40 k17 v3 v4 s0 s1 w) := by
  unfold f_R_guestsIn_40
  refine vf_ior C (zdg dz_R_guestsIn_1 1 rfl) ?_
  generalize ior s0 s1 = x5
  refine vf_ul ?_
  refine vf_istore_n C (f := 2) (L' := [(3, (0, v3)), (4, (0, v4))]) (zdg dz_R_guestsIn_1 2 rfl) [0, 1] (jrI rfl rfl) hn (by decide) rfl ?_
  refine vf_iload_n C (f := 3) (zdg dz_R_guestsIn_1 3 rfl) 1 rfl rfl ?_
  refine vf_iconst C (z := 5) (zdg dz_R_guestsIn_1 4 rfl) (jz rfl) ?_
  refine vf_idiv C (zdg dz_R_guestsIn_1 5 rfl) ?_
  generalize idiv v3 5 = x6
  refine vf_ul ?_
  refine vf_istore_n C (f := 3) (L' := [(2, (0, x5)), (4, (0, v4))]) (zdg dz_R_guestsIn_1 6 rfl) [0, 2] (jrI rfl rfl) hn (by decide) rfl ?_
  refine vf_iinc C (z := (-1)) (L' := [(3, (0, x6)), (2, (0, x5))]) (zdg dz_R_guestsIn_1 7 rfl) 2 rfl [0, 1] (jrI rfl rfl) hn (by decide) ?_
  generalize w32 (v4 + (-1)) = x7
  refine vf_ul ?_
  refine vf_goto C (off := (-32)) (tgt := 17) (zdg dz_R_guestsIn_1 8 rfl) (by decide) ?_
  exact vf_perm [2, 1, 0] rfl (hk17 _ _ _ _)
def f_R_guestsIn_17 : Nat → Int → Int → Int → Wd → Option (Int × Wd)
  | 0, _, _, _, _ => none
  | n + 1, v2, v3, v4, w =>
    if v4 < 0 then
      some (v2, w)
    else
      if 5 = 0 then none else
      jcall (f_R_isGuest (irem v3 5) w) fun r3 u4 =>
      if r3 = 0 then
        f_R_guestsIn_40 (f_R_guestsIn_17 n) v3 v4 v2 0 u4
      else
        f_R_guestsIn_40 (f_R_guestsIn_17 n) v3 v4 v2 (ishl 1 v4) u4
theorem t_R_guestsIn_17 {X : jX} {Qf : Int × Wd → State → Prop} {ad : Nat → Nat} (C : Cx X prog_14_method_61_code "EachBringsAnotherModel") (hn : xn X = 5) (hR : xR X = rmD 2) (hr : Rt X Qf ad prog_14_method_61_code 0) : ∀ (n : Nat) (v2 v3 v4 : Int) (w : Wd), VF X Qf ad NF 0 0 w 17 [(2, (0, v2)), (3, (0, v3)), (4, (0, v4))] [] (f_R_guestsIn_17 n v2 v3 v4 w) := by
  intro n
  induction n with
  | zero => intros; exact vf_no
  | succ n ih =>
    intro v2 v3 v4 w
    rw [f_R_guestsIn_17]
    refine vf_iload C (zdg dz_R_guestsIn_0 12 rfl) 2 rfl ?_
    refine vf_if_lt C (off := 33) (tgt := 52) (zdg dz_R_guestsIn_0 13 rfl) (by decide) ?_ ?_
    · refine vf_iload_n C (f := 2) (zdg dz_R_guestsIn_1 9 rfl) 0 rfl rfl ?_
      exact hr _ _ _ _ (fun h => absurd h (by decide)) (zdg dz_R_guestsIn_1 10 rfl)
    · refine vf_iload_n C (f := 2) (zdg dz_R_guestsIn_0 14 rfl) 0 rfl rfl ?_
      refine vf_iload_n C (f := 3) (zdg dz_R_guestsIn_0 15 rfl) 1 rfl rfl ?_
      refine vf_iconst C (z := 5) (zdg dz_R_guestsIn_0 16 rfl) (jz rfl) ?_
      refine vf_irem C (zdg dz_R_guestsIn_0 17 rfl) ?_
      refine vf_callSz C cy_R_isGuest ml_R_256 (ct_R_isGuest _ _) (S := [(0, v2)]) (jrm_of hR rfl) rfl rfl (Nat.le_of_ble_eq_true rfl) (zdg dz_R_guestsIn_0 18 rfl) (fun r3 u4 => ?_)
      refine vf_if_eq C (off := 10) (tgt := 39) (zdg dz_R_guestsIn_0 19 rfl) (by decide) ?_ ?_
      · refine vf_iconst C (z := 0) (zdg dz_R_guestsIn_1 0 rfl) (jz rfl) ?_
        exact vf_perm [1, 2] rfl (t_R_guestsIn_40 C hn hR hr ih _ _ _ _ _)
      · refine vf_iconst C (z := 1) (zdg dz_R_guestsIn_0 20 rfl) (jz rfl) ?_
        refine vf_iload C (zdg dz_R_guestsIn_0 21 rfl) 2 rfl ?_
        refine vf_ishl C (zdg dz_R_guestsIn_0 22 rfl) ?_
        refine vf_goto C (off := 4) (tgt := 40) (zdg dz_R_guestsIn_0 23 rfl) (by decide) ?_
        exact vf_perm [1, 2] rfl (t_R_guestsIn_40 C hn hR hr ih _ _ _ _ _)
def f_R_guestsIn (v1 : Int) (w : Wd) : Option (Int × Wd) :=
  jgd ((0 : Int) ≤ v1 ∧ v1 < 3000) <|
  jlet (w 63 v1.toNat) fun x1 =>
  jlet (w32 ((w 43 0) - 1)) fun x2 =>
  f_R_guestsIn_17 FU 0 x1 x2 w
theorem ct_R_guestsIn (v1 : Int) (w : Wd) : Ct y_R_guestsIn prog_14_method_61_code 5 (some .int) 2 0 [(2, 44), (0, v1)] w (f_R_guestsIn v1 w) := by
  refine ct_of (by decide +kernel) (Or.inl ⟨rfl, rfl⟩) (Nat.le_of_ble_eq_true rfl) ?_
  intro X Qf ad C hn hR hr
  unfold f_R_guestsIn
  show VF X Qf ad NF 0 0 w 0 [(0, (2, 44)), (1, (0, v1))] [] _
  refine vf_iconst C (z := 0) (zdg dz_R_guestsIn_0 0 rfl) (jz rfl) ?_
  refine vf_istore_n C (f := 2) (L' := [(0, (2, 44)), (1, (0, v1))]) (zdg dz_R_guestsIn_0 1 rfl) [0, 1] (jrI rfl rfl) hn (by decide) rfl ?_
  refine vf_aload_n C (f := 0) (zdg dz_R_guestsIn_0 2 rfl) 1 rfl rfl ?_
  refine vf_getp C fl_R_79 sh_43 rfl (by decide) rfl (x := 64) rfl (zdg dz_R_guestsIn_0 3 rfl) ?_
  refine vf_iload_n C (f := 1) (zdg dz_R_guestsIn_0 4 rfl) 2 rfl rfl ?_
  refine vf_iald C sh_63 (by decide) rfl (mz := 3000) rfl (zdg dz_R_guestsIn_0 5 rfl) ?_
  generalize w 63 v1.toNat = x1
  refine vf_ul ?_
  refine vf_istore_n C (f := 3) (L' := [(2, (0, 0)), (0, (2, 44))]) (zdg dz_R_guestsIn_0 6 rfl) [0, 1] (jrI rfl rfl) hn (by decide) rfl ?_
  refine vf_aload_n C (f := 0) (zdg dz_R_guestsIn_0 7 rfl) 2 rfl rfl ?_
  refine vf_get C (kd := 0) fl_R_144 sh_43 rfl (by decide) rfl rfl (zdg dz_R_guestsIn_0 8 rfl) ?_
  refine vf_iconst C (z := 1) (zdg dz_R_guestsIn_0 9 rfl) (jz rfl) ?_
  refine vf_isub C (zdg dz_R_guestsIn_0 10 rfl) ?_
  generalize w32 ((w 43 0) - 1) = x2
  refine vf_ul ?_
  refine vf_istore C (i := 4) (L' := [(3, (0, x1)), (2, (0, 0))]) (zdg dz_R_guestsIn_0 11 rfl) [0, 1] (jrI rfl rfl) hn (by decide) ?_
  exact vf_perm [2, 1, 0] rfl (t_R_guestsIn_17 C hn hR hr FU _ _ _ _)
def f_R_strangersIn_37 (k17 : Int → Int → Int → Wd → Option (Int × Wd)) (v3 v4 s0 s1 : Int) (w : Wd) : Option (Int × Wd) :=
  jlet (ior s0 s1) fun x3 =>
  if 5 = 0 then none else
  jlet (idiv v3 5) fun x4 =>
  jlet (w32 (v4 + (-1))) fun x5 =>
  k17 x3 x4 x5 w
theorem t_R_strangersIn_37 {X : jX} {Qf : Int × Wd → State → Prop} {ad : Nat → Nat} (C : Cx X prog_14_method_62_code "EachBringsAnotherModel") (hn : xn X = 5) (hR : xR X = rmD 1) (hr : Rt X Qf ad prog_14_method_62_code 0) {k17 : Int → Int → Int → Wd → Option (Int × Wd)} (hk17 : ∀ (v2 v3 v4 : Int) (w : Wd), VF X Qf ad NF 0 0 w 17 [(2, (0, v2)), (3, (0, v3)), (4, (0, v4))] [] (k17 v2 v3 v4 w)) (v3 v4 s0 s1 : Int) (w : Wd) : VF X Qf ad NF 0 0 w 37 [(3, (0, v3)), (4, (0, v4))] [(0, s1), (0, s0)] (f_R_strangersIn_37 k17 v3 v4 s0 s1 w) := by
  unfold f_R_strangersIn_37
  refine vf_ior C (zdg dz_R_strangersIn_1 0 rfl) ?_
  generalize ior s0 s1 = x3
  refine vf_ul ?_
  refine vf_istore_n C (f := 2) (L' := [(3, (0, v3)), (4, (0, v4))]) (zdg dz_R_strangersIn_1 1 rfl) [0, 1] (jrI rfl rfl) hn (by decide) rfl ?_
  refine vf_iload_n C (f := 3) (zdg dz_R_strangersIn_1 2 rfl) 1 rfl rfl ?_
  refine vf_iconst C (z := 5) (zdg dz_R_strangersIn_1 3 rfl) (jz rfl) ?_
  refine vf_idiv C (zdg dz_R_strangersIn_1 4 rfl) ?_
  generalize idiv v3 5 = x4
  refine vf_ul ?_
  refine vf_istore_n C (f := 3) (L' := [(2, (0, x3)), (4, (0, v4))]) (zdg dz_R_strangersIn_1 5 rfl) [0, 2] (jrI rfl rfl) hn (by decide) rfl ?_
  refine vf_iinc C (z := (-1)) (L' := [(3, (0, x4)), (2, (0, x3))]) (zdg dz_R_strangersIn_1 6 rfl) 2 rfl [0, 1] (jrI rfl rfl) hn (by decide) ?_
  generalize w32 (v4 + (-1)) = x5
  refine vf_ul ?_
  refine vf_goto C (off := (-29)) (tgt := 17) (zdg dz_R_strangersIn_1 7 rfl) (by decide) ?_
  exact vf_perm [2, 1, 0] rfl (hk17 _ _ _ _)
def f_R_strangersIn_17 : Nat → Int → Int → Int → Wd → Option (Int × Wd)
  | 0, _, _, _, _ => none
  | n + 1, v2, v3, v4, w =>
    if v4 < 0 then
      some (v2, w)
    else
      if 5 = 0 then none else
      if (irem v3 5) = 0 then
        f_R_strangersIn_37 (f_R_strangersIn_17 n) v3 v4 v2 (ishl 1 v4) w
      else
        f_R_strangersIn_37 (f_R_strangersIn_17 n) v3 v4 v2 0 w
theorem t_R_strangersIn_17 {X : jX} {Qf : Int × Wd → State → Prop} {ad : Nat → Nat} (C : Cx X prog_14_method_62_code "EachBringsAnotherModel") (hn : xn X = 5) (hR : xR X = rmD 1) (hr : Rt X Qf ad prog_14_method_62_code 0) : ∀ (n : Nat) (v2 v3 v4 : Int) (w : Wd), VF X Qf ad NF 0 0 w 17 [(2, (0, v2)), (3, (0, v3)), (4, (0, v4))] [] (f_R_strangersIn_17 n v2 v3 v4 w) := by
  intro n
  induction n with
  | zero => intros; exact vf_no
  | succ n ih =>
    intro v2 v3 v4 w
    rw [f_R_strangersIn_17]
    refine vf_iload C (zdg dz_R_strangersIn_0 12 rfl) 2 rfl ?_
    refine vf_if_lt C (off := 30) (tgt := 49) (zdg dz_R_strangersIn_0 13 rfl) (by decide) ?_ ?_
    · refine vf_iload_n C (f := 2) (zdg dz_R_strangersIn_1 8 rfl) 0 rfl rfl ?_
      exact hr _ _ _ _ (fun h => absurd h (by decide)) (zdg dz_R_strangersIn_1 9 rfl)
    · refine vf_iload_n C (f := 2) (zdg dz_R_strangersIn_0 14 rfl) 0 rfl rfl ?_
      refine vf_iload_n C (f := 3) (zdg dz_R_strangersIn_0 15 rfl) 1 rfl rfl ?_
      refine vf_iconst C (z := 5) (zdg dz_R_strangersIn_0 16 rfl) (jz rfl) ?_
      refine vf_irem C (zdg dz_R_strangersIn_0 17 rfl) ?_
      refine vf_if_ne C (off := 10) (tgt := 36) (zdg dz_R_strangersIn_0 18 rfl) (by decide) ?_ ?_
      · refine vf_iconst C (z := 0) (zdg dz_R_strangersIn_0 23 rfl) (jz rfl) ?_
        exact vf_perm [1, 2] rfl (t_R_strangersIn_37 C hn hR hr ih _ _ _ _ _)
      · refine vf_iconst C (z := 1) (zdg dz_R_strangersIn_0 19 rfl) (jz rfl) ?_
        refine vf_iload C (zdg dz_R_strangersIn_0 20 rfl) 2 rfl ?_
        refine vf_ishl C (zdg dz_R_strangersIn_0 21 rfl) ?_
        refine vf_goto C (off := 4) (tgt := 37) (zdg dz_R_strangersIn_0 22 rfl) (by decide) ?_
        exact vf_perm [1, 2] rfl (t_R_strangersIn_37 C hn hR hr ih _ _ _ _ _)
def f_R_strangersIn (v1 : Int) (w : Wd) : Option (Int × Wd) :=
  jgd ((0 : Int) ≤ v1 ∧ v1 < 3000) <|
  jlet (w 63 v1.toNat) fun x1 =>
  jlet (w32 ((w 43 0) - 1)) fun x2 =>
  f_R_strangersIn_17 FU 0 x1 x2 w
theorem ct_R_strangersIn (v1 : Int) (w : Wd) : Ct y_R_strangersIn prog_14_method_62_code 5 (some .int) 1 0 [(2, 44), (0, v1)] w (f_R_strangersIn v1 w) := by
  refine ct_of (by decide +kernel) (Or.inl ⟨rfl, rfl⟩) (Nat.le_of_ble_eq_true rfl) ?_
  intro X Qf ad C hn hR hr
  unfold f_R_strangersIn
  show VF X Qf ad NF 0 0 w 0 [(0, (2, 44)), (1, (0, v1))] [] _
  refine vf_iconst C (z := 0) (zdg dz_R_strangersIn_0 0 rfl) (jz rfl) ?_
  refine vf_istore_n C (f := 2) (L' := [(0, (2, 44)), (1, (0, v1))]) (zdg dz_R_strangersIn_0 1 rfl) [0, 1] (jrI rfl rfl) hn (by decide) rfl ?_
  refine vf_aload_n C (f := 0) (zdg dz_R_strangersIn_0 2 rfl) 1 rfl rfl ?_
  refine vf_getp C fl_R_79 sh_43 rfl (by decide) rfl (x := 64) rfl (zdg dz_R_strangersIn_0 3 rfl) ?_
  refine vf_iload_n C (f := 1) (zdg dz_R_strangersIn_0 4 rfl) 2 rfl rfl ?_
  refine vf_iald C sh_63 (by decide) rfl (mz := 3000) rfl (zdg dz_R_strangersIn_0 5 rfl) ?_
  generalize w 63 v1.toNat = x1
  refine vf_ul ?_
  refine vf_istore_n C (f := 3) (L' := [(2, (0, 0)), (0, (2, 44))]) (zdg dz_R_strangersIn_0 6 rfl) [0, 1] (jrI rfl rfl) hn (by decide) rfl ?_
  refine vf_aload_n C (f := 0) (zdg dz_R_strangersIn_0 7 rfl) 2 rfl rfl ?_
  refine vf_get C (kd := 0) fl_R_144 sh_43 rfl (by decide) rfl rfl (zdg dz_R_strangersIn_0 8 rfl) ?_
  refine vf_iconst C (z := 1) (zdg dz_R_strangersIn_0 9 rfl) (jz rfl) ?_
  refine vf_isub C (zdg dz_R_strangersIn_0 10 rfl) ?_
  generalize w32 ((w 43 0) - 1) = x2
  refine vf_ul ?_
  refine vf_istore C (i := 4) (L' := [(3, (0, x1)), (2, (0, 0))]) (zdg dz_R_strangersIn_0 11 rfl) [0, 1] (jrI rfl rfl) hn (by decide) ?_
  exact vf_perm [2, 1, 0] rfl (t_R_strangersIn_17 C hn hR hr FU _ _ _ _)
def f_R_costOf_51 (k20 : Int → Int → Int → Wd → Option (Int × Wd)) (v3 v5 s0 s1 : Int) (w : Wd) : Option (Int × Wd) :=
  jlet (w32 (s0 + s1)) fun x8 =>
  jlet (w32 (v5 + 1)) fun x9 =>
  k20 v3 x8 x9 w
theorem t_R_costOf_51 {X : jX} {Qf : Int × Wd → State → Prop} {ad : Nat → Nat} (C : Cx X prog_14_method_63_code "EachBringsAnotherModel") (hn : xn X = 6) (hR : xR X = rmD 2) (hr : Rt X Qf ad prog_14_method_63_code 0) {k20 : Int → Int → Int → Wd → Option (Int × Wd)} (hk20 : ∀ (v3 v4 v5 : Int) (w : Wd), VF X Qf ad NF 0 0 w 20 [(0, (2, 44)), (3, (0, v3)), (4, (0, v4)), (5, (0, v5))] [] (k20 v3 v4 v5 w)) (v3 v5 s0 s1 : Int) (w : Wd) : VF X Qf ad NF 0 0 w 51 [(0, (2, 44)), (3, (0, v3)), (5, (0, v5))] [(0, s1), (0, s0)] (f_R_costOf_51 k20 v3 v5 s0 s1 w) := by
  unfold f_R_costOf_51
  refine vf_iadd C (zdg dz_R_costOf_1 5 rfl) ?_
  generalize w32 (s0 + s1) = x8
  refine vf_ul ?_
  refine vf_istore C (i := 4) (L' := [(0, (2, 44)), (3, (0, v3)), (5, (0, v5))]) (zdg dz_R_costOf_1 6 rfl) [0, 1, 2] (jrI rfl rfl) hn (by decide) ?_
  refine vf_iinc C (z := 1) (L' := [(4, (0, x8)), (0, (2, 44)), (3, (0, v3))]) (zdg dz_R_costOf_1 7 rfl) 3 rfl [0, 1, 2] (jrI rfl rfl) hn (by decide) ?_
  generalize w32 (v5 + 1) = x9
  refine vf_ul ?_
  refine vf_goto C (off := (-37)) (tgt := 20) (zdg dz_R_costOf_1 8 rfl) (by decide) ?_
  exact vf_perm [2, 3, 1, 0] rfl (hk20 _ _ _ _)
def f_R_costOf_20 : Nat → Int → Int → Int → Wd → Option (Int × Wd)
  | 0, _, _, _, _ => none
  | n + 1, v3, v4, v5, w =>
    if (w 43 0) ≤ v5 then
      some (v4, w)
    else
      jcall (f_R_has v3 v5 w) fun r6 u7 =>
      if r6 = 0 then
        f_R_costOf_51 (f_R_costOf_20 n) v3 v5 v4 0 u7
      else
        jgd ((0 : Int) ≤ v5 ∧ v5 < 10) <|
        f_R_costOf_51 (f_R_costOf_20 n) v3 v5 v4 (u7 44 v5.toNat) u7
theorem t_R_costOf_20 {X : jX} {Qf : Int × Wd → State → Prop} {ad : Nat → Nat} (C : Cx X prog_14_method_63_code "EachBringsAnotherModel") (hn : xn X = 6) (hR : xR X = rmD 2) (hr : Rt X Qf ad prog_14_method_63_code 0) : ∀ (n : Nat) (v3 v4 v5 : Int) (w : Wd), VF X Qf ad NF 0 0 w 20 [(0, (2, 44)), (3, (0, v3)), (4, (0, v4)), (5, (0, v5))] [] (f_R_costOf_20 n v3 v4 v5 w) := by
  intro n
  induction n with
  | zero => intros; exact vf_no
  | succ n ih =>
    intro v3 v4 v5 w
    rw [f_R_costOf_20]
    refine vf_iload C (zdg dz_R_costOf_0 14 rfl) 3 rfl ?_
    refine vf_aload_n C (f := 0) (zdg dz_R_costOf_0 15 rfl) 0 rfl rfl ?_
    refine vf_get C (kd := 0) fl_R_144 sh_43 rfl (by decide) rfl rfl (zdg dz_R_costOf_0 16 rfl) ?_
    refine vf_icmp_ge C (off := 34) (tgt := 60) (zdg dz_R_costOf_0 17 rfl) (by decide) ?_ ?_
    · refine vf_iload C (zdg dz_R_costOf_1 9 rfl) 2 rfl ?_
      exact hr _ _ _ _ (fun h => absurd h (by decide)) (zdg dz_R_costOf_1 10 rfl)
    · refine vf_iload C (zdg dz_R_costOf_0 18 rfl) 2 rfl ?_
      refine vf_iload_n C (f := 3) (zdg dz_R_costOf_0 19 rfl) 1 rfl rfl ?_
      refine vf_iload C (zdg dz_R_costOf_0 20 rfl) 3 rfl ?_
      refine vf_callSz C cy_R_has ml_R_210 (ct_R_has _ _ _) (S := [(0, v4)]) (jrm_of hR rfl) rfl rfl (Nat.le_of_ble_eq_true rfl) (zdg dz_R_costOf_0 21 rfl) (fun r6 u7 => ?_)
      refine vf_if_eq C (off := 13) (tgt := 50) (zdg dz_R_costOf_0 22 rfl) (by decide) ?_ ?_
      · refine vf_iconst C (z := 0) (zdg dz_R_costOf_1 4 rfl) (jz rfl) ?_
        exact vf_perm [0, 1, 3] rfl (t_R_costOf_51 C hn hR hr ih _ _ _ _ _)
      · refine vf_aload_n C (f := 0) (zdg dz_R_costOf_0 23 rfl) 0 rfl rfl ?_
        refine vf_getp C fl_R_9 sh_43 rfl (by decide) rfl (x := 45) rfl (zdg dz_R_costOf_1 0 rfl) ?_
        refine vf_iload C (zdg dz_R_costOf_1 1 rfl) 3 rfl ?_
        refine vf_iald C sh_44 (by decide) rfl (mz := 10) rfl (zdg dz_R_costOf_1 2 rfl) ?_
        refine vf_goto C (off := 4) (tgt := 51) (zdg dz_R_costOf_1 3 rfl) (by decide) ?_
        exact vf_perm [0, 1, 3] rfl (t_R_costOf_51 C hn hR hr ih _ _ _ _ _)
def f_R_costOf (v1 v2 : Int) (w : Wd) : Option (Int × Wd) :=
  jcall (f_R_strangersIn v1 w) fun r1 u2 =>
  jcall (f_R_strangersIn v2 u2) fun r3 u4 =>
  jlet (iand r1 (ixor r3 (-1))) fun x5 =>
  f_R_costOf_20 FU x5 0 0 u4
theorem ct_R_costOf (v1 v2 : Int) (w : Wd) : Ct y_R_costOf prog_14_method_63_code 6 (some .int) 2 0 [(2, 44), (0, v1), (0, v2)] w (f_R_costOf v1 v2 w) := by
  refine ct_of (by decide +kernel) (Or.inl ⟨rfl, rfl⟩) (Nat.le_of_ble_eq_true rfl) ?_
  intro X Qf ad C hn hR hr
  unfold f_R_costOf
  show VF X Qf ad NF 0 0 w 0 [(0, (2, 44)), (1, (0, v1)), (2, (0, v2))] [] _
  refine vf_aload_n C (f := 0) (zdg dz_R_costOf_0 0 rfl) 0 rfl rfl ?_
  refine vf_iload_n C (f := 1) (zdg dz_R_costOf_0 1 rfl) 1 rfl rfl ?_
  refine vf_callVi C cy_R_strangersIn ml_R_339 rfl (ct_R_strangersIn _ _) (S := []) sh_43 (by decide) rfl (jrm_of hR rfl) rfl rfl (Nat.le_of_ble_eq_true rfl) (zdg dz_R_costOf_0 2 rfl) (fun r1 u2 => ?_)
  refine vf_aload_n C (f := 0) (zdg dz_R_costOf_0 3 rfl) 0 rfl rfl ?_
  refine vf_iload_n C (f := 2) (zdg dz_R_costOf_0 4 rfl) 2 rfl rfl ?_
  refine vf_callVi C cy_R_strangersIn ml_R_339 rfl (ct_R_strangersIn _ _) (S := [(0, r1)]) sh_43 (by decide) rfl (jrm_of hR rfl) rfl rfl (Nat.le_of_ble_eq_true rfl) (zdg dz_R_costOf_0 5 rfl) (fun r3 u4 => ?_)
  refine vf_iconst C (z := (-1)) (zdg dz_R_costOf_0 6 rfl) (jz rfl) ?_
  refine vf_ixor C (zdg dz_R_costOf_0 7 rfl) ?_
  refine vf_iand C (zdg dz_R_costOf_0 8 rfl) ?_
  generalize iand r1 (ixor r3 (-1)) = x5
  refine vf_ul ?_
  refine vf_istore_n C (f := 3) (L' := [(0, (2, 44))]) (zdg dz_R_costOf_0 9 rfl) [0] (jrI rfl rfl) hn (by decide) rfl ?_
  refine vf_iconst C (z := 0) (zdg dz_R_costOf_0 10 rfl) (jz rfl) ?_
  refine vf_istore C (i := 4) (L' := [(3, (0, x5)), (0, (2, 44))]) (zdg dz_R_costOf_0 11 rfl) [0, 1] (jrI rfl rfl) hn (by decide) ?_
  refine vf_iconst C (z := 0) (zdg dz_R_costOf_0 12 rfl) (jz rfl) ?_
  refine vf_istore C (i := 5) (L' := [(4, (0, 0)), (3, (0, x5)), (0, (2, 44))]) (zdg dz_R_costOf_0 13 rfl) [0, 1, 2] (jrI rfl rfl) hn (by decide) ?_
  exact vf_perm [3, 2, 1, 0] rfl (t_R_costOf_20 C hn hR hr FU _ _ _ _)
def f_R_states_51 (k22 : Int → Int → Int → Wd → Option (Int × Wd)) (v2 v3 v4 s0 s1 : Int) (w : Wd) : Option (Int × Wd) :=
  jlet (w32 (s0 + s1)) fun x13 =>
  jlet (imax v2 v4) fun x14 =>
  jlet (w32 (v3 + 1)) fun x15 =>
  k22 x13 x14 x15 w
theorem t_R_states_51 {X : jX} {Qf : Int × Wd → State → Prop} {ad : Nat → Nat} (C : Cx X prog_14_method_64_code "EachBringsAnotherModel") (hn : xn X = 5) (hR : xR X = rmD 20) (hr : Rt X Qf ad prog_14_method_64_code 0) {k22 : Int → Int → Int → Wd → Option (Int × Wd)} (hk22 : ∀ (v1 v2 v3 : Int) (w : Wd), VF X Qf ad NF 0 0 w 22 [(0, (2, 44)), (1, (0, v1)), (2, (0, v2)), (3, (0, v3))] [] (k22 v1 v2 v3 w)) (v2 v3 v4 s0 s1 : Int) (w : Wd) : VF X Qf ad NF 0 0 w 51 [(0, (2, 44)), (2, (0, v2)), (3, (0, v3)), (4, (0, v4))] [(0, s1), (0, s0)] (f_R_states_51 k22 v2 v3 v4 s0 s1 w) := by
  unfold f_R_states_51
  refine vf_iadd C (zdg dz_R_states_1 6 rfl) ?_
  generalize w32 (s0 + s1) = x13
  refine vf_ul ?_
  refine vf_istore_n C (f := 1) (L' := [(0, (2, 44)), (2, (0, v2)), (3, (0, v3)), (4, (0, v4))]) (zdg dz_R_states_1 7 rfl) [0, 1, 2, 3] (jrI rfl rfl) hn (by decide) rfl ?_
  refine vf_iload_n C (f := 2) (zdg dz_R_states_1 8 rfl) 2 rfl rfl ?_
  refine vf_iload C (zdg dz_R_states_1 9 rfl) 4 rfl ?_
  refine vf_mmax C ml_R_267 (jrm_n hR (by decide)) ⟨Nat.zero_le _, Nat.zero_le _⟩ (Nat.le_of_ble_eq_true rfl) (zdg dz_R_states_1 10 rfl) ?_
  generalize imax v2 v4 = x14
  refine vf_ul ?_
  refine vf_istore_n C (f := 2) (L' := [(1, (0, x13)), (0, (2, 44)), (3, (0, v3))]) (zdg dz_R_states_1 11 rfl) [0, 1, 3] (jrI rfl rfl) hn (by decide) rfl ?_
  refine vf_iinc C (z := 1) (L' := [(2, (0, x14)), (1, (0, x13)), (0, (2, 44))]) (zdg dz_R_states_1 12 rfl) 3 rfl [0, 1, 2] (jrI rfl rfl) hn (by decide) ?_
  generalize w32 (v3 + 1) = x15
  refine vf_ul ?_
  refine vf_goto C (off := (-41)) (tgt := 22) (zdg dz_R_states_1 13 rfl) (by decide) ?_
  exact vf_perm [3, 2, 1, 0] rfl (hk22 _ _ _ _)
def f_R_states_22 : Nat → Int → Int → Int → Wd → Option (Int × Wd)
  | 0, _, _, _, _ => none
  | n + 1, v1, v2, v3, w =>
    if (w 43 40) ≤ v3 then
      jlw (st w 43 15 0) fun u4 =>
      jcall (f_R_tell v1 u4) fun r5 u6 =>
      jcall (f_R_tell v2 u6) fun r7 u8 =>
      some (u8 43 40, u8)
    else
      jcall (f_R_guestsIn v3 w) fun r9 u10 =>
      jcall (f_JI_bitCount r9 u10) fun r11 u12 =>
      if r11 = 0 then
        f_R_states_51 (f_R_states_22 n) v2 v3 r11 v1 1 u12
      else
        f_R_states_51 (f_R_states_22 n) v2 v3 r11 v1 0 u12
theorem t_R_states_22 {X : jX} {Qf : Int × Wd → State → Prop} {ad : Nat → Nat} (C : Cx X prog_14_method_64_code "EachBringsAnotherModel") (hn : xn X = 5) (hR : xR X = rmD 20) (hr : Rt X Qf ad prog_14_method_64_code 0) : ∀ (n : Nat) (v1 v2 v3 : Int) (w : Wd), VF X Qf ad NF 0 0 w 22 [(0, (2, 44)), (1, (0, v1)), (2, (0, v2)), (3, (0, v3))] [] (f_R_states_22 n v1 v2 v3 w) := by
  intro n
  induction n with
  | zero => intros; exact vf_no
  | succ n ih =>
    intro v1 v2 v3 w
    rw [f_R_states_22]
    refine vf_iload_n C (f := 3) (zdg dz_R_states_0 15 rfl) 3 rfl rfl ?_
    refine vf_aload_n C (f := 0) (zdg dz_R_states_0 16 rfl) 0 rfl rfl ?_
    refine vf_get C (kd := 0) fl_R_314 sh_43 rfl (by decide) rfl rfl (zdg dz_R_states_0 17 rfl) ?_
    refine vf_icmp_ge C (off := 39) (tgt := 66) (zdg dz_R_states_0 18 rfl) (by decide) ?_ ?_
    · refine vf_aload_n C (f := 0) (zdg dz_R_states_1 14 rfl) 0 rfl rfl ?_
      refine vf_iconst C (z := 0) (zdg dz_R_states_1 15 rfl) (jz rfl) ?_
      refine vf_put C (kd := 0) fl_R_141 fk_11_15 sh_43 rfl (by decide) rfl rfl (by decide) (zdg dz_R_states_1 16 rfl) ?_
      generalize st w 43 15 0 = u4
      refine vf_uw ?_
      refine vf_aload_n C (f := 0) (zdg dz_R_states_1 17 rfl) 0 rfl rfl ?_
      refine vf_iload_n C (f := 1) (zdg dz_R_states_1 18 rfl) 1 rfl rfl ?_
      refine vf_callVv C cy_R_tell ml_R_304 rfl (ct_R_tell _ _) (S := []) sh_43 (by decide) rfl (jrm_of hR rfl) rfl rfl (Nat.le_of_ble_eq_true rfl) (zdg dz_R_states_1 19 rfl) (fun r5 u6 => ?_)
      refine vf_aload_n C (f := 0) (zdg dz_R_states_1 20 rfl) 0 rfl rfl ?_
      refine vf_iload_n C (f := 2) (zdg dz_R_states_1 21 rfl) 2 rfl rfl ?_
      refine vf_callVv C cy_R_tell ml_R_304 rfl (ct_R_tell _ _) (S := []) sh_43 (by decide) rfl (jrm_of hR rfl) rfl rfl (Nat.le_of_ble_eq_true rfl) (zdg dz_R_states_1 22 rfl) (fun r7 u8 => ?_)
      refine vf_aload_n C (f := 0) (zdg dz_R_states_1 23 rfl) 0 rfl rfl ?_
      refine vf_get C (kd := 0) fl_R_314 sh_43 rfl (by decide) rfl rfl (zdg dz_R_states_2 0 rfl) ?_
      exact hr _ _ _ _ (fun h => absurd h (by decide)) (zdg dz_R_states_2 1 rfl)
    · refine vf_aload_n C (f := 0) (zdg dz_R_states_0 19 rfl) 0 rfl rfl ?_
      refine vf_iload_n C (f := 3) (zdg dz_R_states_0 20 rfl) 3 rfl rfl ?_
      refine vf_callVi C cy_R_guestsIn ml_R_345 rfl (ct_R_guestsIn _ _) (S := []) sh_43 (by decide) rfl (jrm_of hR rfl) rfl rfl (Nat.le_of_ble_eq_true rfl) (zdg dz_R_states_0 21 rfl) (fun r9 u10 => ?_)
      refine vf_callSi C cy_JI_bitCount ml_R_242 (ct_JI_bitCount _ _) (S := []) (jrm_of hR rfl) rfl rfl (Nat.le_of_ble_eq_true rfl) (zdg dz_R_states_0 22 rfl) (fun r11 u12 => ?_)
      refine vf_istore C (i := 4) (L' := [(0, (2, 44)), (1, (0, v1)), (2, (0, v2)), (3, (0, v3))]) (zdg dz_R_states_0 23 rfl) [0, 1, 2, 3] (jrI rfl rfl) hn (by decide) ?_
      refine vf_iload_n C (f := 1) (zdg dz_R_states_1 0 rfl) 2 rfl rfl ?_
      refine vf_iload C (zdg dz_R_states_1 1 rfl) 0 rfl ?_
      refine vf_if_ne C (off := 7) (tgt := 50) (zdg dz_R_states_1 2 rfl) (by decide) ?_ ?_
      · refine vf_iconst C (z := 0) (zdg dz_R_states_1 5 rfl) (jz rfl) ?_
        exact vf_perm [1, 3, 4, 0] rfl (t_R_states_51 C hn hR hr ih _ _ _ _ _ _)
      · refine vf_iconst C (z := 1) (zdg dz_R_states_1 3 rfl) (jz rfl) ?_
        refine vf_goto C (off := 4) (tgt := 51) (zdg dz_R_states_1 4 rfl) (by decide) ?_
        exact vf_perm [1, 3, 4, 0] rfl (t_R_states_51 C hn hR hr ih _ _ _ _ _ _)
def f_R_states (w : Wd) : Option (Int × Wd) :=
  jlw (st w 43 16 0) fun u1 =>
  jcall (f_R_findStates 0 u1) fun r2 u3 =>
  if r2 = 0 then
    some ((-3), u3)
  else
    f_R_states_22 FU 0 0 0 u3
theorem ct_R_states (w : Wd) : Ct y_R_states prog_14_method_64_code 5 (some .int) 20 0 [(2, 44)] w (f_R_states w) := by
  refine ct_of (by decide +kernel) (Or.inl ⟨rfl, rfl⟩) (Nat.le_of_ble_eq_true rfl) ?_
  intro X Qf ad C hn hR hr
  unfold f_R_states
  show VF X Qf ad NF 0 0 w 0 [(0, (2, 44))] [] _
  refine vf_aload_n C (f := 0) (zdg dz_R_states_0 0 rfl) 0 rfl rfl ?_
  refine vf_iconst C (z := 0) (zdg dz_R_states_0 1 rfl) (jz rfl) ?_
  refine vf_put C (kd := 0) fl_R_138 fk_11_16 sh_43 rfl (by decide) rfl rfl (by decide) (zdg dz_R_states_0 2 rfl) ?_
  generalize st w 43 16 0 = u1
  refine vf_uw ?_
  refine vf_aload_n C (f := 0) (zdg dz_R_states_0 3 rfl) 0 rfl rfl ?_
  refine vf_iconst C (z := 0) (zdg dz_R_states_0 4 rfl) (jz rfl) ?_
  refine vf_callVz C cy_R_findStates ml_R_342 rfl (ct_R_findStates _ _) (S := []) sh_43 (by decide) rfl (jrm_of hR rfl) rfl rfl (Nat.le_of_ble_eq_true rfl) (zdg dz_R_states_0 5 rfl) (fun r2 u3 => ?_)
  refine vf_if_ne C (off := 6) (tgt := 16) (zdg dz_R_states_0 6 rfl) (by decide) ?_ ?_
  · refine vf_iconst C (z := 0) (zdg dz_R_states_0 9 rfl) (jz rfl) ?_
    refine vf_istore_n C (f := 1) (L' := [(0, (2, 44))]) (zdg dz_R_states_0 10 rfl) [0] (jrI rfl rfl) hn (by decide) rfl ?_
    refine vf_iconst C (z := 0) (zdg dz_R_states_0 11 rfl) (jz rfl) ?_
    refine vf_istore_n C (f := 2) (L' := [(1, (0, 0)), (0, (2, 44))]) (zdg dz_R_states_0 12 rfl) [0, 1] (jrI rfl rfl) hn (by decide) rfl ?_
    refine vf_iconst C (z := 0) (zdg dz_R_states_0 13 rfl) (jz rfl) ?_
    refine vf_istore_n C (f := 3) (L' := [(2, (0, 0)), (1, (0, 0)), (0, (2, 44))]) (zdg dz_R_states_0 14 rfl) [0, 1, 2] (jrI rfl rfl) hn (by decide) rfl ?_
    exact vf_perm [3, 2, 1, 0] rfl (t_R_states_22 C hn hR hr FU _ _ _ _)
  · refine vf_bipush C (z := (-3)) (zdg dz_R_states_0 7 rfl) (by decide +kernel) (jz rfl) ?_
    exact hr _ _ _ _ (fun h => absurd h (by decide)) (zdg dz_R_states_0 8 rfl)
end
section
def f_R_beginWeeks_26 (k2 : Int → Wd → Option (Int × Wd)) (v1 s1 s2 : Int) (w : Wd) : Option (Int × Wd) :=
  jgd ((0 : Int) ≤ s1 ∧ s1 < 3000) <|
  jlw (st w 69 s1.toNat s2) fun u1 =>
  jlet (w32 (v1 + 1)) fun x2 =>
  k2 x2 u1
theorem t_R_beginWeeks_26 {X : jX} {Qf : Int × Wd → State → Prop} {ad : Nat → Nat} (C : Cx X prog_14_method_65_code "EachBringsAnotherModel") (hn : xn X = 2) (hR : xR X = rmD 1) (hr : Rt X Qf ad prog_14_method_65_code 9) {k2 : Int → Wd → Option (Int × Wd)} (hk2 : ∀ (v1 : Int) (w : Wd), VF X Qf ad NF 0 0 w 2 [(0, (2, 44)), (1, (0, v1))] [] (k2 v1 w)) (v1 s1 s2 : Int) (w : Wd) : VF X Qf ad NF 0 0 w 26 [(0, (2, 44)), (1, (0, v1))] [(0, s2), (0, s1), (2, 70)] (f_R_beginWeeks_26 k2 v1 s1 s2 w) := by
  unfold f_R_beginWeeks_26
  refine vf_iast C sh_69 (by decide) rfl (mz := 3000) rfl (zdg dz_R_beginWeeks_0 14 rfl) ?_
  generalize st w 69 s1.toNat s2 = u1
  refine vf_uw ?_
  refine vf_iinc C (z := 1) (L' := [(0, (2, 44))]) (zdg dz_R_beginWeeks_0 15 rfl) 1 rfl [0] (jrI rfl rfl) hn (by decide) ?_
  generalize w32 (v1 + 1) = x2
  refine vf_ul ?_
  refine vf_goto C (off := (-28)) (tgt := 2) (zdg dz_R_beginWeeks_0 16 rfl) (by decide) ?_
  exact vf_perm [1, 0] rfl (hk2 _ _)
def f_R_beginWeeks_2 : Nat → Int → Wd → Option (Int × Wd)
  | 0, _, _ => none
  | n + 1, v1, w =>
    if (w 43 40) ≤ v1 then
      some (0, w)
    else
      if v1 = 0 then
        f_R_beginWeeks_26 (f_R_beginWeeks_2 n) v1 v1 0 w
      else
        f_R_beginWeeks_26 (f_R_beginWeeks_2 n) v1 v1 1000000 w
theorem t_R_beginWeeks_2 {X : jX} {Qf : Int × Wd → State → Prop} {ad : Nat → Nat} (C : Cx X prog_14_method_65_code "EachBringsAnotherModel") (hn : xn X = 2) (hR : xR X = rmD 1) (hr : Rt X Qf ad prog_14_method_65_code 9) : ∀ (n : Nat) (v1 : Int) (w : Wd), VF X Qf ad NF 0 0 w 2 [(0, (2, 44)), (1, (0, v1))] [] (f_R_beginWeeks_2 n v1 w) := by
  intro n
  induction n with
  | zero => intros; exact vf_no
  | succ n ih =>
    intro v1 w
    rw [f_R_beginWeeks_2]
    refine vf_iload_n C (f := 1) (zdg dz_R_beginWeeks_0 2 rfl) 1 rfl rfl ?_
    refine vf_aload_n C (f := 0) (zdg dz_R_beginWeeks_0 3 rfl) 0 rfl rfl ?_
    refine vf_get C (kd := 0) fl_R_314 sh_43 rfl (by decide) rfl rfl (zdg dz_R_beginWeeks_0 4 rfl) ?_
    refine vf_icmp_ge C (off := 26) (tgt := 33) (zdg dz_R_beginWeeks_0 5 rfl) (by decide) ?_ ?_
    · exact hr _ _ _ _ (fun h => absurd h (by decide)) (zdg dz_R_beginWeeks_0 17 rfl)
    · refine vf_aload_n C (f := 0) (zdg dz_R_beginWeeks_0 6 rfl) 0 rfl rfl ?_
      refine vf_getp C fl_R_98 sh_43 rfl (by decide) rfl (x := 70) rfl (zdg dz_R_beginWeeks_0 7 rfl) ?_
      refine vf_iload_n C (f := 1) (zdg dz_R_beginWeeks_0 8 rfl) 1 rfl rfl ?_
      refine vf_iload_n C (f := 1) (zdg dz_R_beginWeeks_0 9 rfl) 1 rfl rfl ?_
      refine vf_if_ne C (off := 7) (tgt := 23) (zdg dz_R_beginWeeks_0 10 rfl) (by decide) ?_ ?_
      · refine vf_ldcw C (z := 1000000) (i := 348) (zdg dz_R_beginWeeks_0 13 rfl) kc_R_348 (by decide +kernel) (jz rfl) ?_
        exact t_R_beginWeeks_26 C hn hR hr ih _ _ _ _
      · refine vf_iconst C (z := 0) (zdg dz_R_beginWeeks_0 11 rfl) (jz rfl) ?_
        refine vf_goto C (off := 6) (tgt := 26) (zdg dz_R_beginWeeks_0 12 rfl) (by decide) ?_
        exact t_R_beginWeeks_26 C hn hR hr ih _ _ _ _
def f_R_beginWeeks (w : Wd) : Option (Int × Wd) :=
  f_R_beginWeeks_2 FU 0 w
theorem ct_R_beginWeeks (w : Wd) : Ct y_R_beginWeeks prog_14_method_65_code 2 none 1 9 [(2, 44)] w (f_R_beginWeeks w) := by
  refine ct_of (by decide +kernel) (Or.inr (Or.inr (Or.inr ⟨rfl, rfl⟩))) (Nat.le_of_ble_eq_true rfl) ?_
  intro X Qf ad C hn hR hr
  unfold f_R_beginWeeks
  show VF X Qf ad NF 0 0 w 0 [(0, (2, 44))] [] _
  refine vf_iconst C (z := 0) (zdg dz_R_beginWeeks_0 0 rfl) (jz rfl) ?_
  refine vf_istore_n C (f := 1) (L' := [(0, (2, 44))]) (zdg dz_R_beginWeeks_0 1 rfl) [0] (jrI rfl rfl) hn (by decide) rfl ?_
  exact vf_perm [1, 0] rfl (t_R_beginWeeks_2 C hn hR hr FU _ _)
def f_R_goOneWeek_126 : Nat → Int → Wd → Option (Int × Wd)
  | 0, _, _ => none
  | n + 1, v1, w =>
    if (w 43 40) ≤ v1 then
      some (0, w)
    else
      jgd ((0 : Int) ≤ v1 ∧ v1 < 3000) <|
      jgd ((0 : Int) ≤ v1 ∧ v1 < 3000) <|
      jlw (st w 69 v1.toNat ((w 70 v1.toNat))) fun u1 =>
      jlet (w32 (v1 + 1)) fun x2 =>
      f_R_goOneWeek_126 n x2 u1
theorem t_R_goOneWeek_126 {X : jX} {Qf : Int × Wd → State → Prop} {ad : Nat → Nat} (C : Cx X prog_14_method_66_code "EachBringsAnotherModel") (hn : xn X = 3) (hR : xR X = rmD 3) (hr : Rt X Qf ad prog_14_method_66_code 9) : ∀ (n : Nat) (v1 : Int) (w : Wd), VF X Qf ad NF 0 0 w 126 [(0, (2, 44)), (1, (0, v1))] [] (f_R_goOneWeek_126 n v1 w) := by
  intro n
  induction n with
  | zero => intros; exact vf_no
  | succ n ih =>
    intro v1 w
    rw [f_R_goOneWeek_126]
    refine vf_iload_n C (f := 1) (zdg dz_R_goOneWeek_3 0 rfl) 1 rfl rfl ?_
    refine vf_aload_n C (f := 0) (zdg dz_R_goOneWeek_3 1 rfl) 0 rfl rfl ?_
    refine vf_get C (kd := 0) fl_R_314 sh_43 rfl (by decide) rfl rfl (zdg dz_R_goOneWeek_3 2 rfl) ?_
    refine vf_icmp_ge C (off := 21) (tgt := 152) (zdg dz_R_goOneWeek_3 3 rfl) (by decide) ?_ ?_
    · exact hr _ _ _ _ (fun h => absurd h (by decide)) (zdg dz_R_goOneWeek_3 14 rfl)
    · refine vf_aload_n C (f := 0) (zdg dz_R_goOneWeek_3 4 rfl) 0 rfl rfl ?_
      refine vf_getp C fl_R_98 sh_43 rfl (by decide) rfl (x := 70) rfl (zdg dz_R_goOneWeek_3 5 rfl) ?_
      refine vf_iload_n C (f := 1) (zdg dz_R_goOneWeek_3 6 rfl) 1 rfl rfl ?_
      refine vf_aload_n C (f := 0) (zdg dz_R_goOneWeek_3 7 rfl) 0 rfl rfl ?_
      refine vf_getp C fl_R_101 sh_43 rfl (by decide) rfl (x := 71) rfl (zdg dz_R_goOneWeek_3 8 rfl) ?_
      refine vf_iload_n C (f := 1) (zdg dz_R_goOneWeek_3 9 rfl) 1 rfl rfl ?_
      refine vf_iald C sh_70 (by decide) rfl (mz := 3000) rfl (zdg dz_R_goOneWeek_3 10 rfl) ?_
      refine vf_iast C sh_69 (by decide) rfl (mz := 3000) rfl (zdg dz_R_goOneWeek_3 11 rfl) ?_
      generalize st w 69 v1.toNat ((w 70 v1.toNat)) = u1
      refine vf_uw ?_
      refine vf_iinc C (z := 1) (L' := [(0, (2, 44))]) (zdg dz_R_goOneWeek_3 12 rfl) 1 rfl [0] (jrI rfl rfl) hn (by decide) ?_
      generalize w32 (v1 + 1) = x2
      refine vf_ul ?_
      refine vf_goto C (off := (-23)) (tgt := 126) (zdg dz_R_goOneWeek_3 13 rfl) (by decide) ?_
      exact vf_perm [1, 0] rfl (ih _ _)
def f_R_goOneWeek_118 (k27 : Int → Wd → Option (Int × Wd)) (v1 : Int) (w : Wd) : Option (Int × Wd) :=
  jlet (w32 (v1 + 1)) fun x4 =>
  k27 x4 w
theorem t_R_goOneWeek_118 {X : jX} {Qf : Int × Wd → State → Prop} {ad : Nat → Nat} (C : Cx X prog_14_method_66_code "EachBringsAnotherModel") (hn : xn X = 3) (hR : xR X = rmD 3) (hr : Rt X Qf ad prog_14_method_66_code 9) {k27 : Int → Wd → Option (Int × Wd)} (hk27 : ∀ (v1 : Int) (w : Wd), VF X Qf ad NF 0 0 w 27 [(0, (2, 44)), (1, (0, v1))] [] (k27 v1 w)) (v1 : Int) (w : Wd) : VF X Qf ad NF 0 0 w 118 [(0, (2, 44)), (1, (0, v1))] [] (f_R_goOneWeek_118 k27 v1 w) := by
  unfold f_R_goOneWeek_118
  refine vf_iinc C (z := 1) (L' := [(0, (2, 44))]) (zdg dz_R_goOneWeek_2 20 rfl) 1 rfl [0] (jrI rfl rfl) hn (by decide) ?_
  generalize w32 (v1 + 1) = x4
  refine vf_ul ?_
  refine vf_goto C (off := (-94)) (tgt := 27) (zdg dz_R_goOneWeek_2 21 rfl) (by decide) ?_
  exact vf_perm [1, 0] rfl (hk27 _ _)
def f_R_goOneWeek_57 (k27 : Int → Wd → Option (Int × Wd)) : Nat → Int → Int → Wd → Option (Int × Wd)
  | 0, _, _, _ => none
  | n + 1, v1, v2, w =>
    jgd ((0 : Int) ≤ (w32 (v1 + 1)) ∧ (w32 (v1 + 1)) < 3001) <|
    if (w 64 (w32 (v1 + 1)).toNat) ≤ v2 then
      f_R_goOneWeek_118 k27 v1 w
    else
      jgd ((0 : Int) ≤ v2 ∧ v2 < 756000) <|
      jgd ((0 : Int) ≤ v2 ∧ v2 < 756000) <|
      jgd ((0 : Int) ≤ (w 65 v2.toNat) ∧ (w 65 v2.toNat) < 3000) <|
      jgd ((0 : Int) ≤ v1 ∧ v1 < 3000) <|
      jgd ((0 : Int) ≤ v2 ∧ v2 < 756000) <|
      jcall (f_R_costOf v1 (w 65 v2.toNat) w) fun r5 u6 =>
      jgd ((0 : Int) ≤ (w 65 v2.toNat) ∧ (w 65 v2.toNat) < 3000) <|
      jlw (st u6 70 (w 65 v2.toNat).toNat ((imin (w 70 (w 65 v2.toNat).toNat) (w32 ((w 69 v1.toNat) + r5))))) fun u7 =>
      jlet (w32 (v2 + 1)) fun x8 =>
      f_R_goOneWeek_57 k27 n v1 x8 u7
theorem t_R_goOneWeek_57 {X : jX} {Qf : Int × Wd → State → Prop} {ad : Nat → Nat} (C : Cx X prog_14_method_66_code "EachBringsAnotherModel") (hn : xn X = 3) (hR : xR X = rmD 3) (hr : Rt X Qf ad prog_14_method_66_code 9) {k27 : Int → Wd → Option (Int × Wd)} (hk27 : ∀ (v1 : Int) (w : Wd), VF X Qf ad NF 0 0 w 27 [(0, (2, 44)), (1, (0, v1))] [] (k27 v1 w)) : ∀ (n : Nat) (v1 v2 : Int) (w : Wd), VF X Qf ad NF 0 0 w 57 [(0, (2, 44)), (1, (0, v1)), (2, (0, v2))] [] (f_R_goOneWeek_57 k27 n v1 v2 w) := by
  intro n
  induction n with
  | zero => intros; exact vf_no
  | succ n ih =>
    intro v1 v2 w
    rw [f_R_goOneWeek_57]
    refine vf_iload_n C (f := 2) (zdg dz_R_goOneWeek_1 7 rfl) 2 rfl rfl ?_
    refine vf_aload_n C (f := 0) (zdg dz_R_goOneWeek_1 8 rfl) 0 rfl rfl ?_
    refine vf_getp C fl_R_82 sh_43 rfl (by decide) rfl (x := 65) rfl (zdg dz_R_goOneWeek_1 9 rfl) ?_
    refine vf_iload_n C (f := 1) (zdg dz_R_goOneWeek_1 10 rfl) 1 rfl rfl ?_
    refine vf_iconst C (z := 1) (zdg dz_R_goOneWeek_1 11 rfl) (jz rfl) ?_
    refine vf_iadd C (zdg dz_R_goOneWeek_1 12 rfl) ?_
    refine vf_iald C sh_64 (by decide) rfl (mz := 3001) rfl (zdg dz_R_goOneWeek_1 13 rfl) ?_
    refine vf_icmp_ge C (off := 52) (tgt := 118) (zdg dz_R_goOneWeek_1 14 rfl) (by decide) ?_ ?_
    · exact vf_perm [0, 1] rfl (t_R_goOneWeek_118 C hn hR hr hk27 _ _)
    · refine vf_aload_n C (f := 0) (zdg dz_R_goOneWeek_1 15 rfl) 0 rfl rfl ?_
      refine vf_getp C fl_R_101 sh_43 rfl (by decide) rfl (x := 71) rfl (zdg dz_R_goOneWeek_1 16 rfl) ?_
      refine vf_aload_n C (f := 0) (zdg dz_R_goOneWeek_1 17 rfl) 0 rfl rfl ?_
      refine vf_getp C fl_R_86 sh_43 rfl (by decide) rfl (x := 66) rfl (zdg dz_R_goOneWeek_1 18 rfl) ?_
      refine vf_iload_n C (f := 2) (zdg dz_R_goOneWeek_1 19 rfl) 2 rfl rfl ?_
      refine vf_iald C sh_65 (by decide) rfl (mz := 756000) rfl (zdg dz_R_goOneWeek_1 20 rfl) ?_
      refine vf_aload_n C (f := 0) (zdg dz_R_goOneWeek_1 21 rfl) 0 rfl rfl ?_
      refine vf_getp C fl_R_101 sh_43 rfl (by decide) rfl (x := 71) rfl (zdg dz_R_goOneWeek_1 22 rfl) ?_
      refine vf_aload_n C (f := 0) (zdg dz_R_goOneWeek_1 23 rfl) 0 rfl rfl ?_
      refine vf_getp C fl_R_86 sh_43 rfl (by decide) rfl (x := 66) rfl (zdg dz_R_goOneWeek_2 0 rfl) ?_
      refine vf_iload_n C (f := 2) (zdg dz_R_goOneWeek_2 1 rfl) 2 rfl rfl ?_
      refine vf_iald C sh_65 (by decide) rfl (mz := 756000) rfl (zdg dz_R_goOneWeek_2 2 rfl) ?_
      refine vf_iald C sh_70 (by decide) rfl (mz := 3000) rfl (zdg dz_R_goOneWeek_2 3 rfl) ?_
      refine vf_aload_n C (f := 0) (zdg dz_R_goOneWeek_2 4 rfl) 0 rfl rfl ?_
      refine vf_getp C fl_R_98 sh_43 rfl (by decide) rfl (x := 70) rfl (zdg dz_R_goOneWeek_2 5 rfl) ?_
      refine vf_iload_n C (f := 1) (zdg dz_R_goOneWeek_2 6 rfl) 1 rfl rfl ?_
      refine vf_iald C sh_69 (by decide) rfl (mz := 3000) rfl (zdg dz_R_goOneWeek_2 7 rfl) ?_
      refine vf_aload_n C (f := 0) (zdg dz_R_goOneWeek_2 8 rfl) 0 rfl rfl ?_
      refine vf_iload_n C (f := 1) (zdg dz_R_goOneWeek_2 9 rfl) 1 rfl rfl ?_
      refine vf_aload_n C (f := 0) (zdg dz_R_goOneWeek_2 10 rfl) 0 rfl rfl ?_
      refine vf_getp C fl_R_86 sh_43 rfl (by decide) rfl (x := 66) rfl (zdg dz_R_goOneWeek_2 11 rfl) ?_
      refine vf_iload_n C (f := 2) (zdg dz_R_goOneWeek_2 12 rfl) 2 rfl rfl ?_
      refine vf_iald C sh_65 (by decide) rfl (mz := 756000) rfl (zdg dz_R_goOneWeek_2 13 rfl) ?_
      refine vf_callVi C cy_R_costOf ml_R_349 rfl (ct_R_costOf _ _ _) (S := [(0, w 69 v1.toNat), (0, w 70 (w 65 v2.toNat).toNat), (0, w 65 v2.toNat), (2, 71)]) sh_43 (by decide) rfl (jrm_of hR rfl) rfl rfl (Nat.le_of_ble_eq_true rfl) (zdg dz_R_goOneWeek_2 14 rfl) (fun r5 u6 => ?_)
      refine vf_iadd C (zdg dz_R_goOneWeek_2 15 rfl) ?_
      refine vf_mmin C ml_R_262 (jrm_n hR (by decide)) ⟨Nat.zero_le _, Nat.zero_le _⟩ (Nat.le_of_ble_eq_true rfl) (zdg dz_R_goOneWeek_2 16 rfl) ?_
      refine vf_iast C sh_70 (by decide) rfl (mz := 3000) rfl (zdg dz_R_goOneWeek_2 17 rfl) ?_
      generalize st u6 70 (w 65 v2.toNat).toNat ((imin (w 70 (w 65 v2.toNat).toNat) (w32 ((w 69 v1.toNat) + r5)))) = u7
      refine vf_uw ?_
      refine vf_iinc C (z := 1) (L' := [(0, (2, 44)), (1, (0, v1))]) (zdg dz_R_goOneWeek_2 18 rfl) 2 rfl [0, 1] (jrI rfl rfl) hn (by decide) ?_
      generalize w32 (v2 + 1) = x8
      refine vf_ul ?_
      refine vf_goto C (off := (-58)) (tgt := 57) (zdg dz_R_goOneWeek_2 19 rfl) (by decide) ?_
      exact vf_perm [1, 2, 0] rfl (ih _ _ _)
def f_R_goOneWeek_27 : Nat → Int → Wd → Option (Int × Wd)
  | 0, _, _ => none
  | n + 1, v1, w =>
    if (w 43 40) ≤ v1 then
      f_R_goOneWeek_126 FU 0 w
    else
      jgd ((0 : Int) ≤ v1 ∧ v1 < 3000) <|
      if (w 69 v1.toNat) = 1000000 then
        f_R_goOneWeek_118 (f_R_goOneWeek_27 n) v1 w
      else
        jgd ((0 : Int) ≤ v1 ∧ v1 < 3001) <|
        jlet (w 64 v1.toNat) fun x3 =>
        f_R_goOneWeek_57 (f_R_goOneWeek_27 n) FU v1 x3 w
theorem t_R_goOneWeek_27 {X : jX} {Qf : Int × Wd → State → Prop} {ad : Nat → Nat} (C : Cx X prog_14_method_66_code "EachBringsAnotherModel") (hn : xn X = 3) (hR : xR X = rmD 3) (hr : Rt X Qf ad prog_14_method_66_code 9) : ∀ (n : Nat) (v1 : Int) (w : Wd), VF X Qf ad NF 0 0 w 27 [(0, (2, 44)), (1, (0, v1))] [] (f_R_goOneWeek_27 n v1 w) := by
  intro n
  induction n with
  | zero => intros; exact vf_no
  | succ n ih =>
    intro v1 w
    rw [f_R_goOneWeek_27]
    refine vf_iload_n C (f := 1) (zdg dz_R_goOneWeek_0 15 rfl) 1 rfl rfl ?_
    refine vf_aload_n C (f := 0) (zdg dz_R_goOneWeek_0 16 rfl) 0 rfl rfl ?_
    refine vf_get C (kd := 0) fl_R_314 sh_43 rfl (by decide) rfl rfl (zdg dz_R_goOneWeek_0 17 rfl) ?_
    refine vf_icmp_ge C (off := 92) (tgt := 124) (zdg dz_R_goOneWeek_0 18 rfl) (by decide) ?_ ?_
    · refine vf_iconst C (z := 0) (zdg dz_R_goOneWeek_2 22 rfl) (jz rfl) ?_
      refine vf_istore_n C (f := 1) (L' := [(0, (2, 44))]) (zdg dz_R_goOneWeek_2 23 rfl) [0] (jrI rfl rfl) hn (by decide) rfl ?_
      exact vf_perm [1, 0] rfl (t_R_goOneWeek_126 C hn hR hr FU _ _)
    · refine vf_aload_n C (f := 0) (zdg dz_R_goOneWeek_0 19 rfl) 0 rfl rfl ?_
      refine vf_getp C fl_R_98 sh_43 rfl (by decide) rfl (x := 70) rfl (zdg dz_R_goOneWeek_0 20 rfl) ?_
      refine vf_iload_n C (f := 1) (zdg dz_R_goOneWeek_0 21 rfl) 1 rfl rfl ?_
      refine vf_iald C sh_69 (by decide) rfl (mz := 3000) rfl (zdg dz_R_goOneWeek_0 22 rfl) ?_
      refine vf_ldcw C (z := 1000000) (i := 348) (zdg dz_R_goOneWeek_0 23 rfl) kc_R_348 (by decide +kernel) (jz rfl) ?_
      refine vf_icmp_ne C (off := 6) (tgt := 50) (zdg dz_R_goOneWeek_1 0 rfl) (by decide) ?_ ?_
      · refine vf_aload_n C (f := 0) (zdg dz_R_goOneWeek_1 2 rfl) 0 rfl rfl ?_
        refine vf_getp C fl_R_82 sh_43 rfl (by decide) rfl (x := 65) rfl (zdg dz_R_goOneWeek_1 3 rfl) ?_
        refine vf_iload_n C (f := 1) (zdg dz_R_goOneWeek_1 4 rfl) 1 rfl rfl ?_
        refine vf_iald C sh_64 (by decide) rfl (mz := 3001) rfl (zdg dz_R_goOneWeek_1 5 rfl) ?_
        generalize w 64 v1.toNat = x3
        refine vf_ul ?_
        refine vf_istore_n C (f := 2) (L' := [(0, (2, 44)), (1, (0, v1))]) (zdg dz_R_goOneWeek_1 6 rfl) [0, 1] (jrI rfl rfl) hn (by decide) rfl ?_
        exact vf_perm [1, 2, 0] rfl (t_R_goOneWeek_57 C hn hR hr ih FU _ _ _)
      · refine vf_goto C (off := 71) (tgt := 118) (zdg dz_R_goOneWeek_1 1 rfl) (by decide) ?_
        exact t_R_goOneWeek_118 C hn hR hr ih _ _
def f_R_goOneWeek_2 : Nat → Int → Wd → Option (Int × Wd)
  | 0, _, _ => none
  | n + 1, v1, w =>
    if (w 43 40) ≤ v1 then
      f_R_goOneWeek_27 FU 0 w
    else
      jgd ((0 : Int) ≤ v1 ∧ v1 < 3000) <|
      jlw (st w 70 v1.toNat 1000000) fun u9 =>
      jlet (w32 (v1 + 1)) fun x10 =>
      f_R_goOneWeek_2 n x10 u9
theorem t_R_goOneWeek_2 {X : jX} {Qf : Int × Wd → State → Prop} {ad : Nat → Nat} (C : Cx X prog_14_method_66_code "EachBringsAnotherModel") (hn : xn X = 3) (hR : xR X = rmD 3) (hr : Rt X Qf ad prog_14_method_66_code 9) : ∀ (n : Nat) (v1 : Int) (w : Wd), VF X Qf ad NF 0 0 w 2 [(0, (2, 44)), (1, (0, v1))] [] (f_R_goOneWeek_2 n v1 w) := by
  intro n
  induction n with
  | zero => intros; exact vf_no
  | succ n ih =>
    intro v1 w
    rw [f_R_goOneWeek_2]
    refine vf_iload_n C (f := 1) (zdg dz_R_goOneWeek_0 2 rfl) 1 rfl rfl ?_
    refine vf_aload_n C (f := 0) (zdg dz_R_goOneWeek_0 3 rfl) 0 rfl rfl ?_
    refine vf_get C (kd := 0) fl_R_314 sh_43 rfl (by decide) rfl rfl (zdg dz_R_goOneWeek_0 4 rfl) ?_
    refine vf_icmp_ge C (off := 18) (tgt := 25) (zdg dz_R_goOneWeek_0 5 rfl) (by decide) ?_ ?_
    · refine vf_iconst C (z := 0) (zdg dz_R_goOneWeek_0 13 rfl) (jz rfl) ?_
      refine vf_istore_n C (f := 1) (L' := [(0, (2, 44))]) (zdg dz_R_goOneWeek_0 14 rfl) [0] (jrI rfl rfl) hn (by decide) rfl ?_
      exact vf_perm [1, 0] rfl (t_R_goOneWeek_27 C hn hR hr FU _ _)
    · refine vf_aload_n C (f := 0) (zdg dz_R_goOneWeek_0 6 rfl) 0 rfl rfl ?_
      refine vf_getp C fl_R_101 sh_43 rfl (by decide) rfl (x := 71) rfl (zdg dz_R_goOneWeek_0 7 rfl) ?_
      refine vf_iload_n C (f := 1) (zdg dz_R_goOneWeek_0 8 rfl) 1 rfl rfl ?_
      refine vf_ldcw C (z := 1000000) (i := 348) (zdg dz_R_goOneWeek_0 9 rfl) kc_R_348 (by decide +kernel) (jz rfl) ?_
      refine vf_iast C sh_70 (by decide) rfl (mz := 3000) rfl (zdg dz_R_goOneWeek_0 10 rfl) ?_
      generalize st w 70 v1.toNat 1000000 = u9
      refine vf_uw ?_
      refine vf_iinc C (z := 1) (L' := [(0, (2, 44))]) (zdg dz_R_goOneWeek_0 11 rfl) 1 rfl [0] (jrI rfl rfl) hn (by decide) ?_
      generalize w32 (v1 + 1) = x10
      refine vf_ul ?_
      refine vf_goto C (off := (-20)) (tgt := 2) (zdg dz_R_goOneWeek_0 12 rfl) (by decide) ?_
      exact vf_perm [1, 0] rfl (ih _ _)
def f_R_goOneWeek (w : Wd) : Option (Int × Wd) :=
  f_R_goOneWeek_2 FU 0 w
theorem ct_R_goOneWeek (w : Wd) : Ct y_R_goOneWeek prog_14_method_66_code 3 none 3 9 [(2, 44)] w (f_R_goOneWeek w) := by
  refine ct_of (by decide +kernel) (Or.inr (Or.inr (Or.inr ⟨rfl, rfl⟩))) (Nat.le_of_ble_eq_true rfl) ?_
  intro X Qf ad C hn hR hr
  unfold f_R_goOneWeek
  show VF X Qf ad NF 0 0 w 0 [(0, (2, 44))] [] _
  refine vf_iconst C (z := 0) (zdg dz_R_goOneWeek_0 0 rfl) (jz rfl) ?_
  refine vf_istore_n C (f := 1) (L' := [(0, (2, 44))]) (zdg dz_R_goOneWeek_0 1 rfl) [0] (jrI rfl rfl) hn (by decide) rfl ?_
  exact vf_perm [1, 0] rfl (t_R_goOneWeek_2 C hn hR hr FU _ _)
def f_R_findWeek_16 : Nat → Int → Int → Wd → Option (Int × Wd)
  | 0, _, _, _ => none
  | n + 1, v1, v2, w =>
    if v1 ≤ v2 then
      some (1, w)
    else
      jcall (f_R_goOneWeek w) fun r5 u6 =>
      jlet (w32 (v2 + 1)) fun x7 =>
      f_R_findWeek_16 n v1 x7 u6
theorem t_R_findWeek_16 {X : jX} {Qf : Int × Wd → State → Prop} {ad : Nat → Nat} (C : Cx X prog_14_method_67_code "EachBringsAnotherModel") (hn : xn X = 3) (hR : xR X = rmD 20) (hr : Rt X Qf ad prog_14_method_67_code 4) : ∀ (n : Nat) (v1 v2 : Int) (w : Wd), VF X Qf ad NF 0 0 w 16 [(0, (2, 44)), (1, (0, v1)), (2, (0, v2))] [] (f_R_findWeek_16 n v1 v2 w) := by
  intro n
  induction n with
  | zero => intros; exact vf_no
  | succ n ih =>
    intro v1 v2 w
    rw [f_R_findWeek_16]
    refine vf_iload_n C (f := 2) (zdg dz_R_findWeek_0 10 rfl) 2 rfl rfl ?_
    refine vf_iload_n C (f := 1) (zdg dz_R_findWeek_0 11 rfl) 1 rfl rfl ?_
    refine vf_icmp_ge C (off := 13) (tgt := 31) (zdg dz_R_findWeek_0 12 rfl) (by decide) ?_ ?_
    · refine vf_iconst C (z := 1) (zdg dz_R_findWeek_0 17 rfl) (jz rfl) ?_
      exact hr _ _ _ _ (fun _ => Or.inr rfl) (zdg dz_R_findWeek_0 18 rfl)
    · refine vf_aload_n C (f := 0) (zdg dz_R_findWeek_0 13 rfl) 0 rfl rfl ?_
      refine vf_callVv C cy_R_goOneWeek ml_R_355 rfl (ct_R_goOneWeek _) (S := []) sh_43 (by decide) rfl (jrm_of hR rfl) rfl rfl (Nat.le_of_ble_eq_true rfl) (zdg dz_R_findWeek_0 14 rfl) (fun r5 u6 => ?_)
      refine vf_iinc C (z := 1) (L' := [(0, (2, 44)), (1, (0, v1))]) (zdg dz_R_findWeek_0 15 rfl) 2 rfl [0, 1] (jrI rfl rfl) hn (by decide) ?_
      generalize w32 (v2 + 1) = x7
      refine vf_ul ?_
      refine vf_goto C (off := (-12)) (tgt := 16) (zdg dz_R_findWeek_0 16 rfl) (by decide) ?_
      exact vf_perm [1, 2, 0] rfl (ih _ _ _)
def f_R_findWeek (v1 : Int) (w : Wd) : Option (Int × Wd) :=
  jcall (f_R_findStates 0 w) fun r1 u2 =>
  if r1 = 0 then
    some (0, u2)
  else
    jcall (f_R_beginWeeks u2) fun r3 u4 =>
    f_R_findWeek_16 FU v1 0 u4
theorem ct_R_findWeek (v1 : Int) (w : Wd) : Ct y_R_findWeek prog_14_method_67_code 3 (some .boolean) 20 4 [(2, 44), (0, v1)] w (f_R_findWeek v1 w) := by
  refine ct_of (by decide +kernel) (Or.inr (Or.inr (Or.inl ⟨rfl, rfl⟩))) (Nat.le_of_ble_eq_true rfl) ?_
  intro X Qf ad C hn hR hr
  unfold f_R_findWeek
  show VF X Qf ad NF 0 0 w 0 [(0, (2, 44)), (1, (0, v1))] [] _
  refine vf_aload_n C (f := 0) (zdg dz_R_findWeek_0 0 rfl) 0 rfl rfl ?_
  refine vf_iconst C (z := 0) (zdg dz_R_findWeek_0 1 rfl) (jz rfl) ?_
  refine vf_callVz C cy_R_findStates ml_R_342 rfl (ct_R_findStates _ _) (S := []) sh_43 (by decide) rfl (jrm_of hR rfl) rfl rfl (Nat.le_of_ble_eq_true rfl) (zdg dz_R_findWeek_0 2 rfl) (fun r1 u2 => ?_)
  refine vf_if_ne C (off := 5) (tgt := 10) (zdg dz_R_findWeek_0 3 rfl) (by decide) ?_ ?_
  · refine vf_aload_n C (f := 0) (zdg dz_R_findWeek_0 6 rfl) 0 rfl rfl ?_
    refine vf_callVv C cy_R_beginWeeks ml_R_352 rfl (ct_R_beginWeeks _) (S := []) sh_43 (by decide) rfl (jrm_of hR rfl) rfl rfl (Nat.le_of_ble_eq_true rfl) (zdg dz_R_findWeek_0 7 rfl) (fun r3 u4 => ?_)
    refine vf_iconst C (z := 0) (zdg dz_R_findWeek_0 8 rfl) (jz rfl) ?_
    refine vf_istore_n C (f := 2) (L' := [(0, (2, 44)), (1, (0, v1))]) (zdg dz_R_findWeek_0 9 rfl) [0, 1] (jrI rfl rfl) hn (by decide) rfl ?_
    exact vf_perm [1, 2, 0] rfl (t_R_findWeek_16 C hn hR hr FU _ _ _)
  · refine vf_iconst C (z := 0) (zdg dz_R_findWeek_0 4 rfl) (jz rfl) ?_
    exact hr _ _ _ _ (fun _ => Or.inl rfl) (zdg dz_R_findWeek_0 5 rfl)
def f_R_isWeeks (v0 : Int) (w : Wd) : Option (Int × Wd) :=
  jcall (f_R_in v0 0 60 w) fun r1 u2 =>
  if r1 = 0 ∨ r1 = 1 then some (r1, u2) else none
theorem ct_R_isWeeks (v0 : Int) (w : Wd) : Ct y_R_isWeeks prog_14_method_68_code 1 (some .boolean) 2 4 [(0, v0)] w (f_R_isWeeks v0 w) := by
  refine ct_of (by decide +kernel) (Or.inr (Or.inr (Or.inl ⟨rfl, rfl⟩))) (Nat.le_of_ble_eq_true rfl) ?_
  intro X Qf ad C hn hR hr
  unfold f_R_isWeeks
  show VF X Qf ad NF 0 0 w 0 [(0, (0, v0))] [] _
  refine vf_iload_n C (f := 0) (zdg dz_R_isWeeks_0 0 rfl) 0 rfl rfl ?_
  refine vf_iconst C (z := 0) (zdg dz_R_isWeeks_0 1 rfl) (jz rfl) ?_
  refine vf_bipush C (z := 60) (zdg dz_R_isWeeks_0 2 rfl) (by decide +kernel) (jz rfl) ?_
  refine vf_callSz C cy_R_in ml_R_147 (ct_R_in _ _ _ _) (S := []) (jrm_of hR rfl) rfl rfl (Nat.le_of_ble_eq_true rfl) (zdg dz_R_isWeeks_0 3 rfl) (fun r1 u2 => ?_)
  refine vf_if _ (fun h => ?_) (fun _ => vf_no)
  exact hr _ _ _ _ (fun _ => h) (zdg dz_R_isWeeks_0 4 rfl)
def f_R_most_74 (k32 : Int → Int → Int → Wd → Option (Int × Wd)) (v2 v3 v4 : Int) (w : Wd) : Option (Int × Wd) :=
  jlet (w32 (v4 + 1)) fun x15 =>
  k32 v2 v3 x15 w
theorem t_R_most_74 {X : jX} {Qf : Int × Wd → State → Prop} {ad : Nat → Nat} (C : Cx X prog_14_method_69_code "EachBringsAnotherModel") (hn : xn X = 5) (hR : xR X = rmD 21) (hr : Rt X Qf ad prog_14_method_69_code 0) {k32 : Int → Int → Int → Wd → Option (Int × Wd)} (hk32 : ∀ (v2 v3 v4 : Int) (w : Wd), VF X Qf ad NF 0 0 w 32 [(0, (2, 44)), (2, (0, v2)), (3, (0, v3)), (4, (0, v4))] [] (k32 v2 v3 v4 w)) (v2 v3 v4 : Int) (w : Wd) : VF X Qf ad NF 0 0 w 74 [(0, (2, 44)), (2, (0, v2)), (3, (0, v3)), (4, (0, v4))] [] (f_R_most_74 k32 v2 v3 v4 w) := by
  unfold f_R_most_74
  refine vf_iinc C (z := 1) (L' := [(0, (2, 44)), (2, (0, v2)), (3, (0, v3))]) (zdg dz_R_most_1 15 rfl) 3 rfl [0, 1, 2] (jrI rfl rfl) hn (by decide) ?_
  generalize w32 (v4 + 1) = x15
  refine vf_ul ?_
  refine vf_goto C (off := (-45)) (tgt := 32) (zdg dz_R_most_1 16 rfl) (by decide) ?_
  exact vf_perm [1, 2, 3, 0] rfl (hk32 _ _ _ _)
def f_R_most_32 : Nat → Int → Int → Int → Wd → Option (Int × Wd)
  | 0, _, _, _, _ => none
  | n + 1, v2, v3, v4, w =>
    if (w 43 40) ≤ v4 then
      jlw (st w 43 15 0) fun u6 =>
      jcall (f_R_tell v3 u6) fun r7 u8 =>
      some (v2, u8)
    else
      jgd ((0 : Int) ≤ v4 ∧ v4 < 3000) <|
      if (w 69 v4.toNat) = 1000000 then
        f_R_most_74 (f_R_most_32 n) v2 v3 v4 w
      else
        jlet (w32 (v3 + 1)) fun x9 =>
        jcall (f_R_guestsIn v4 w) fun r10 u11 =>
        jcall (f_JI_bitCount r10 u11) fun r12 u13 =>
        jlet (imax v2 r12) fun x14 =>
        f_R_most_74 (f_R_most_32 n) x14 x9 v4 u13
theorem t_R_most_32 {X : jX} {Qf : Int × Wd → State → Prop} {ad : Nat → Nat} (C : Cx X prog_14_method_69_code "EachBringsAnotherModel") (hn : xn X = 5) (hR : xR X = rmD 21) (hr : Rt X Qf ad prog_14_method_69_code 0) : ∀ (n : Nat) (v2 v3 v4 : Int) (w : Wd), VF X Qf ad NF 0 0 w 32 [(0, (2, 44)), (2, (0, v2)), (3, (0, v3)), (4, (0, v4))] [] (f_R_most_32 n v2 v3 v4 w) := by
  intro n
  induction n with
  | zero => intros; exact vf_no
  | succ n ih =>
    intro v2 v3 v4 w
    rw [f_R_most_32]
    refine vf_iload C (zdg dz_R_most_0 20 rfl) 3 rfl ?_
    refine vf_aload_n C (f := 0) (zdg dz_R_most_0 21 rfl) 0 rfl rfl ?_
    refine vf_get C (kd := 0) fl_R_314 sh_43 rfl (by decide) rfl rfl (zdg dz_R_most_0 22 rfl) ?_
    refine vf_icmp_ge C (off := 42) (tgt := 80) (zdg dz_R_most_0 23 rfl) (by decide) ?_ ?_
    · refine vf_aload_n C (f := 0) (zdg dz_R_most_1 17 rfl) 0 rfl rfl ?_
      refine vf_iconst C (z := 0) (zdg dz_R_most_1 18 rfl) (jz rfl) ?_
      refine vf_put C (kd := 0) fl_R_141 fk_11_15 sh_43 rfl (by decide) rfl rfl (by decide) (zdg dz_R_most_1 19 rfl) ?_
      generalize st w 43 15 0 = u6
      refine vf_uw ?_
      refine vf_aload_n C (f := 0) (zdg dz_R_most_1 20 rfl) 0 rfl rfl ?_
      refine vf_iload_n C (f := 3) (zdg dz_R_most_1 21 rfl) 2 rfl rfl ?_
      refine vf_callVv C cy_R_tell ml_R_304 rfl (ct_R_tell _ _) (S := []) sh_43 (by decide) rfl (jrm_of hR rfl) rfl rfl (Nat.le_of_ble_eq_true rfl) (zdg dz_R_most_1 22 rfl) (fun r7 u8 => ?_)
      refine vf_iload_n C (f := 2) (zdg dz_R_most_1 23 rfl) 1 rfl rfl ?_
      exact hr _ _ _ _ (fun h => absurd h (by decide)) (zdg dz_R_most_2 0 rfl)
    · refine vf_aload_n C (f := 0) (zdg dz_R_most_1 0 rfl) 0 rfl rfl ?_
      refine vf_getp C fl_R_98 sh_43 rfl (by decide) rfl (x := 70) rfl (zdg dz_R_most_1 1 rfl) ?_
      refine vf_iload C (zdg dz_R_most_1 2 rfl) 3 rfl ?_
      refine vf_iald C sh_69 (by decide) rfl (mz := 3000) rfl (zdg dz_R_most_1 3 rfl) ?_
      refine vf_ldcw C (z := 1000000) (i := 348) (zdg dz_R_most_1 4 rfl) kc_R_348 (by decide +kernel) (jz rfl) ?_
      refine vf_icmp_ne C (off := 6) (tgt := 57) (zdg dz_R_most_1 5 rfl) (by decide) ?_ ?_
      · refine vf_iinc C (z := 1) (L' := [(0, (2, 44)), (2, (0, v2)), (4, (0, v4))]) (zdg dz_R_most_1 7 rfl) 2 rfl [0, 1, 3] (jrI rfl rfl) hn (by decide) ?_
        generalize w32 (v3 + 1) = x9
        refine vf_ul ?_
        refine vf_iload_n C (f := 2) (zdg dz_R_most_1 8 rfl) 2 rfl rfl ?_
        refine vf_aload_n C (f := 0) (zdg dz_R_most_1 9 rfl) 1 rfl rfl ?_
        refine vf_iload C (zdg dz_R_most_1 10 rfl) 3 rfl ?_
        refine vf_callVi C cy_R_guestsIn ml_R_345 rfl (ct_R_guestsIn _ _) (S := [(0, v2)]) sh_43 (by decide) rfl (jrm_of hR rfl) rfl rfl (Nat.le_of_ble_eq_true rfl) (zdg dz_R_most_1 11 rfl) (fun r10 u11 => ?_)
        refine vf_callSi C cy_JI_bitCount ml_R_242 (ct_JI_bitCount _ _) (S := [(0, v2)]) (jrm_of hR rfl) rfl rfl (Nat.le_of_ble_eq_true rfl) (zdg dz_R_most_1 12 rfl) (fun r12 u13 => ?_)
        refine vf_mmax C ml_R_267 (jrm_n hR (by decide)) ⟨Nat.zero_le _, Nat.zero_le _⟩ (Nat.le_of_ble_eq_true rfl) (zdg dz_R_most_1 13 rfl) ?_
        generalize imax v2 r12 = x14
        refine vf_ul ?_
        refine vf_istore_n C (f := 2) (L' := [(3, (0, x9)), (0, (2, 44)), (4, (0, v4))]) (zdg dz_R_most_1 14 rfl) [0, 1, 3] (jrI rfl rfl) hn (by decide) rfl ?_
        exact vf_perm [2, 0, 1, 3] rfl (t_R_most_74 C hn hR hr ih _ _ _ _)
      · refine vf_goto C (off := 20) (tgt := 74) (zdg dz_R_most_1 6 rfl) (by decide) ?_
        exact t_R_most_74 C hn hR hr ih _ _ _ _
def f_R_most (v1 : Int) (w : Wd) : Option (Int × Wd) :=
  jlw (st w 43 16 0) fun u1 =>
  jcall (f_R_isWeeks v1 u1) fun r2 u3 =>
  if r2 = 0 then
    some ((-1), u3)
  else
    jcall (f_R_findWeek v1 u3) fun r4 u5 =>
    if r4 = 0 then
      some ((-3), u5)
    else
      f_R_most_32 FU 0 0 0 u5
theorem ct_R_most (v1 : Int) (w : Wd) : Ct y_R_most prog_14_method_69_code 5 (some .int) 21 0 [(2, 44), (0, v1)] w (f_R_most v1 w) := by
  refine ct_of (by decide +kernel) (Or.inl ⟨rfl, rfl⟩) (Nat.le_of_ble_eq_true rfl) ?_
  intro X Qf ad C hn hR hr
  unfold f_R_most
  show VF X Qf ad NF 0 0 w 0 [(0, (2, 44)), (1, (0, v1))] [] _
  refine vf_aload_n C (f := 0) (zdg dz_R_most_0 0 rfl) 0 rfl rfl ?_
  refine vf_iconst C (z := 0) (zdg dz_R_most_0 1 rfl) (jz rfl) ?_
  refine vf_put C (kd := 0) fl_R_138 fk_11_16 sh_43 rfl (by decide) rfl rfl (by decide) (zdg dz_R_most_0 2 rfl) ?_
  generalize st w 43 16 0 = u1
  refine vf_uw ?_
  refine vf_iload_n C (f := 1) (zdg dz_R_most_0 3 rfl) 1 rfl rfl ?_
  refine vf_callSz C cy_R_isWeeks ml_R_358 (ct_R_isWeeks _ _) (S := []) (jrm_of hR rfl) rfl rfl (Nat.le_of_ble_eq_true rfl) (zdg dz_R_most_0 4 rfl) (fun r2 u3 => ?_)
  refine vf_if_ne C (off := 5) (tgt := 14) (zdg dz_R_most_0 5 rfl) (by decide) ?_ ?_
  · refine vf_aload_n C (f := 0) (zdg dz_R_most_0 8 rfl) 0 rfl rfl ?_
    refine vf_iload_n C (f := 1) (zdg dz_R_most_0 9 rfl) 1 rfl rfl ?_
    refine vf_callVz C cy_R_findWeek ml_R_361 rfl (ct_R_findWeek _ _) (S := []) sh_43 (by decide) rfl (jrm_of hR rfl) rfl rfl (Nat.le_of_ble_eq_true rfl) (zdg dz_R_most_0 10 rfl) (fun r4 u5 => ?_)
    refine vf_if_ne C (off := 6) (tgt := 25) (zdg dz_R_most_0 11 rfl) (by decide) ?_ ?_
    · refine vf_iconst C (z := 0) (zdg dz_R_most_0 14 rfl) (jz rfl) ?_
      refine vf_istore_n C (f := 2) (L' := [(0, (2, 44))]) (zdg dz_R_most_0 15 rfl) [0] (jrI rfl rfl) hn (by decide) rfl ?_
      refine vf_iconst C (z := 0) (zdg dz_R_most_0 16 rfl) (jz rfl) ?_
      refine vf_istore_n C (f := 3) (L' := [(2, (0, 0)), (0, (2, 44))]) (zdg dz_R_most_0 17 rfl) [0, 1] (jrI rfl rfl) hn (by decide) rfl ?_
      refine vf_iconst C (z := 0) (zdg dz_R_most_0 18 rfl) (jz rfl) ?_
      refine vf_istore C (i := 4) (L' := [(3, (0, 0)), (2, (0, 0)), (0, (2, 44))]) (zdg dz_R_most_0 19 rfl) [0, 1, 2] (jrI rfl rfl) hn (by decide) ?_
      exact vf_perm [3, 2, 1, 0] rfl (t_R_most_32 C hn hR hr FU _ _ _ _)
    · refine vf_bipush C (z := (-3)) (zdg dz_R_most_0 12 rfl) (by decide +kernel) (jz rfl) ?_
      exact hr _ _ _ _ (fun h => absurd h (by decide)) (zdg dz_R_most_0 13 rfl)
  · refine vf_iconst C (z := (-1)) (zdg dz_R_most_0 6 rfl) (jz rfl) ?_
    exact hr _ _ _ _ (fun h => absurd h (by decide)) (zdg dz_R_most_0 7 rfl)
def f_R_reach_119 (v2 s1 : Int) (w : Wd) : Option (Int × Wd) :=
  jcall (f_R_tell s1 w) fun r8 u9 =>
  some (v2, u9)
theorem t_R_reach_119 {X : jX} {Qf : Int × Wd → State → Prop} {ad : Nat → Nat} (C : Cx X prog_14_method_70_code "EachBringsAnotherModel") (hn : xn X = 7) (hR : xR X = rmD 21) (hr : Rt X Qf ad prog_14_method_70_code 0) (v2 s1 : Int) (w : Wd) : VF X Qf ad NF 0 0 w 119 [(2, (0, v2))] [(0, s1), (2, 44)] (f_R_reach_119 v2 s1 w) := by
  unfold f_R_reach_119
  refine vf_callVv C cy_R_tell ml_R_304 rfl (ct_R_tell _ _) (S := []) sh_43 (by decide) rfl (jrm_of hR rfl) rfl rfl (Nat.le_of_ble_eq_true rfl) (zdg dz_R_reach_2 19 rfl) (fun r8 u9 => ?_)
  refine vf_iload_n C (f := 2) (zdg dz_R_reach_2 20 rfl) 0 rfl rfl ?_
  exact hr _ _ _ _ (fun h => absurd h (by decide)) (zdg dz_R_reach_2 21 rfl)
def f_R_reach_97 (k42 : Int → Int → Int → Int → Wd → Option (Int × Wd)) (v2 v3 v4 v5 : Int) (w : Wd) : Option (Int × Wd) :=
  jlet (w32 (v5 + 1)) fun x14 =>
  k42 v2 v3 v4 x14 w
theorem t_R_reach_97 {X : jX} {Qf : Int × Wd → State → Prop} {ad : Nat → Nat} (C : Cx X prog_14_method_70_code "EachBringsAnotherModel") (hn : xn X = 7) (hR : xR X = rmD 21) (hr : Rt X Qf ad prog_14_method_70_code 0) {k42 : Int → Int → Int → Int → Wd → Option (Int × Wd)} (hk42 : ∀ (v2 v3 v4 v5 : Int) (w : Wd), VF X Qf ad NF 0 0 w 42 [(0, (2, 44)), (2, (0, v2)), (3, (0, v3)), (4, (0, v4)), (5, (0, v5))] [] (k42 v2 v3 v4 v5 w)) (v2 v3 v4 v5 : Int) (w : Wd) : VF X Qf ad NF 0 0 w 97 [(0, (2, 44)), (2, (0, v2)), (3, (0, v3)), (4, (0, v4)), (5, (0, v5))] [] (f_R_reach_97 k42 v2 v3 v4 v5 w) := by
  unfold f_R_reach_97
  refine vf_iinc C (z := 1) (L' := [(0, (2, 44)), (2, (0, v2)), (3, (0, v3)), (4, (0, v4))]) (zdg dz_R_reach_2 8 rfl) 4 rfl [0, 1, 2, 3] (jrI rfl rfl) hn (by decide) ?_
  generalize w32 (v5 + 1) = x14
  refine vf_ul ?_
  refine vf_goto C (off := (-58)) (tgt := 42) (zdg dz_R_reach_2 9 rfl) (by decide) ?_
  exact vf_perm [1, 2, 3, 4, 0] rfl (hk42 _ _ _ _ _)
def f_R_reach_74 (k42 : Int → Int → Int → Int → Wd → Option (Int × Wd)) (v2 v3 v4 v5 s0 : Int) (w : Wd) : Option (Int × Wd) :=
  if s0 = 0 then
    f_R_reach_97 k42 v2 v3 v4 v5 w
  else
    jlet (ior v2 s0) fun x12 =>
    jlet (iand v3 s0) fun x13 =>
    f_R_reach_97 k42 x12 x13 1 v5 w
theorem t_R_reach_74 {X : jX} {Qf : Int × Wd → State → Prop} {ad : Nat → Nat} (C : Cx X prog_14_method_70_code "EachBringsAnotherModel") (hn : xn X = 7) (hR : xR X = rmD 21) (hr : Rt X Qf ad prog_14_method_70_code 0) {k42 : Int → Int → Int → Int → Wd → Option (Int × Wd)} (hk42 : ∀ (v2 v3 v4 v5 : Int) (w : Wd), VF X Qf ad NF 0 0 w 42 [(0, (2, 44)), (2, (0, v2)), (3, (0, v3)), (4, (0, v4)), (5, (0, v5))] [] (k42 v2 v3 v4 v5 w)) (v2 v3 v4 v5 s0 : Int) (w : Wd) : VF X Qf ad NF 0 0 w 74 [(0, (2, 44)), (2, (0, v2)), (3, (0, v3)), (4, (0, v4)), (5, (0, v5))] [(0, s0)] (f_R_reach_74 k42 v2 v3 v4 v5 s0 w) := by
  unfold f_R_reach_74
  refine vf_istore C (i := 6) (L' := [(0, (2, 44)), (2, (0, v2)), (3, (0, v3)), (4, (0, v4)), (5, (0, v5))]) (zdg dz_R_reach_1 18 rfl) [0, 1, 2, 3, 4] (jrI rfl rfl) hn (by decide) ?_
  refine vf_iload C (zdg dz_R_reach_1 19 rfl) 0 rfl ?_
  refine vf_if_ne C (off := 6) (tgt := 84) (zdg dz_R_reach_1 20 rfl) (by decide) ?_ ?_
  · refine vf_iconst C (z := 1) (zdg dz_R_reach_1 22 rfl) (jz rfl) ?_
    refine vf_istore C (i := 4) (L' := [(6, (0, s0)), (0, (2, 44)), (2, (0, v2)), (3, (0, v3)), (5, (0, v5))]) (zdg dz_R_reach_1 23 rfl) [0, 1, 2, 3, 5] (jrI rfl rfl) hn (by decide) ?_
    refine vf_iload_n C (f := 2) (zdg dz_R_reach_2 0 rfl) 3 rfl rfl ?_
    refine vf_iload C (zdg dz_R_reach_2 1 rfl) 1 rfl ?_
    refine vf_ior C (zdg dz_R_reach_2 2 rfl) ?_
    generalize ior v2 s0 = x12
    refine vf_ul ?_
    refine vf_istore_n C (f := 2) (L' := [(4, (0, 1)), (6, (0, s0)), (0, (2, 44)), (3, (0, v3)), (5, (0, v5))]) (zdg dz_R_reach_2 3 rfl) [0, 1, 2, 4, 5] (jrI rfl rfl) hn (by decide) rfl ?_
    refine vf_iload_n C (f := 3) (zdg dz_R_reach_2 4 rfl) 4 rfl rfl ?_
    refine vf_iload C (zdg dz_R_reach_2 5 rfl) 2 rfl ?_
    refine vf_iand C (zdg dz_R_reach_2 6 rfl) ?_
    generalize iand v3 s0 = x13
    refine vf_ul ?_
    refine vf_istore_n C (f := 3) (L' := [(2, (0, x12)), (4, (0, 1)), (0, (2, 44)), (5, (0, v5))]) (zdg dz_R_reach_2 7 rfl) [0, 1, 3, 5] (jrI rfl rfl) hn (by decide) rfl ?_
    exact vf_perm [3, 1, 0, 2, 4] rfl (t_R_reach_97 C hn hR hr hk42 _ _ _ _ _)
  · refine vf_goto C (off := 16) (tgt := 97) (zdg dz_R_reach_1 21 rfl) (by decide) ?_
    exact vf_perm [1, 2, 3, 4, 5] rfl (t_R_reach_97 C hn hR hr hk42 _ _ _ _ _)
def f_R_reach_42 : Nat → Int → Int → Int → Int → Wd → Option (Int × Wd)
  | 0, _, _, _, _, _ => none
  | n + 1, v2, v3, v4, v5, w =>
    if (w 43 40) ≤ v5 then
      jlw (st w 43 15 0) fun u7 =>
      if v4 = 0 then
        f_R_reach_119 v2 0 u7
      else
        f_R_reach_119 v2 v3 u7
    else
      jgd ((0 : Int) ≤ v5 ∧ v5 < 3000) <|
      if (w 69 v5.toNat) = 1000000 then
        f_R_reach_74 (f_R_reach_42 n) v2 v3 v4 v5 0 w
      else
        jcall (f_R_guestsIn v5 w) fun r10 u11 =>
        f_R_reach_74 (f_R_reach_42 n) v2 v3 v4 v5 r10 u11
theorem t_R_reach_42 {X : jX} {Qf : Int × Wd → State → Prop} {ad : Nat → Nat} (C : Cx X prog_14_method_70_code "EachBringsAnotherModel") (hn : xn X = 7) (hR : xR X = rmD 21) (hr : Rt X Qf ad prog_14_method_70_code 0) : ∀ (n : Nat) (v2 v3 v4 v5 : Int) (w : Wd), VF X Qf ad NF 0 0 w 42 [(0, (2, 44)), (2, (0, v2)), (3, (0, v3)), (4, (0, v4)), (5, (0, v5))] [] (f_R_reach_42 n v2 v3 v4 v5 w) := by
  intro n
  induction n with
  | zero => intros; exact vf_no
  | succ n ih =>
    intro v2 v3 v4 v5 w
    rw [f_R_reach_42]
    refine vf_iload C (zdg dz_R_reach_1 3 rfl) 4 rfl ?_
    refine vf_aload_n C (f := 0) (zdg dz_R_reach_1 4 rfl) 0 rfl rfl ?_
    refine vf_get C (kd := 0) fl_R_314 sh_43 rfl (by decide) rfl rfl (zdg dz_R_reach_1 5 rfl) ?_
    refine vf_icmp_ge C (off := 55) (tgt := 103) (zdg dz_R_reach_1 6 rfl) (by decide) ?_ ?_
    · refine vf_aload_n C (f := 0) (zdg dz_R_reach_2 10 rfl) 0 rfl rfl ?_
      refine vf_iconst C (z := 0) (zdg dz_R_reach_2 11 rfl) (jz rfl) ?_
      refine vf_put C (kd := 0) fl_R_141 fk_11_15 sh_43 rfl (by decide) rfl rfl (by decide) (zdg dz_R_reach_2 12 rfl) ?_
      generalize st w 43 15 0 = u7
      refine vf_uw ?_
      refine vf_aload_n C (f := 0) (zdg dz_R_reach_2 13 rfl) 0 rfl rfl ?_
      refine vf_iload C (zdg dz_R_reach_2 14 rfl) 3 rfl ?_
      refine vf_if_eq C (off := 7) (tgt := 118) (zdg dz_R_reach_2 15 rfl) (by decide) ?_ ?_
      · refine vf_iconst C (z := 0) (zdg dz_R_reach_2 18 rfl) (jz rfl) ?_
        exact vf_perm [1] rfl (t_R_reach_119 C hn hR hr _ _ _)
      · refine vf_iload_n C (f := 3) (zdg dz_R_reach_2 16 rfl) 2 rfl rfl ?_
        refine vf_goto C (off := 4) (tgt := 119) (zdg dz_R_reach_2 17 rfl) (by decide) ?_
        exact vf_perm [1] rfl (t_R_reach_119 C hn hR hr _ _ _)
    · refine vf_aload_n C (f := 0) (zdg dz_R_reach_1 7 rfl) 0 rfl rfl ?_
      refine vf_getp C fl_R_98 sh_43 rfl (by decide) rfl (x := 70) rfl (zdg dz_R_reach_1 8 rfl) ?_
      refine vf_iload C (zdg dz_R_reach_1 9 rfl) 4 rfl ?_
      refine vf_iald C sh_69 (by decide) rfl (mz := 3000) rfl (zdg dz_R_reach_1 10 rfl) ?_
      refine vf_ldcw C (z := 1000000) (i := 348) (zdg dz_R_reach_1 11 rfl) kc_R_348 (by decide +kernel) (jz rfl) ?_
      refine vf_icmp_ne C (off := 7) (tgt := 68) (zdg dz_R_reach_1 12 rfl) (by decide) ?_ ?_
      · refine vf_aload_n C (f := 0) (zdg dz_R_reach_1 15 rfl) 0 rfl rfl ?_
        refine vf_iload C (zdg dz_R_reach_1 16 rfl) 4 rfl ?_
        refine vf_callVi C cy_R_guestsIn ml_R_345 rfl (ct_R_guestsIn _ _) (S := []) sh_43 (by decide) rfl (jrm_of hR rfl) rfl rfl (Nat.le_of_ble_eq_true rfl) (zdg dz_R_reach_1 17 rfl) (fun r10 u11 => ?_)
        exact t_R_reach_74 C hn hR hr ih _ _ _ _ _ _
      · refine vf_iconst C (z := 0) (zdg dz_R_reach_1 13 rfl) (jz rfl) ?_
        refine vf_goto C (off := 9) (tgt := 74) (zdg dz_R_reach_1 14 rfl) (by decide) ?_
        exact t_R_reach_74 C hn hR hr ih _ _ _ _ _ _
def f_R_reach (v1 : Int) (w : Wd) : Option (Int × Wd) :=
  jlw (st w 43 16 0) fun u1 =>
  jcall (f_R_isWeeks v1 u1) fun r2 u3 =>
  if r2 = 0 then
    some ((-1), u3)
  else
    jcall (f_R_findWeek v1 u3) fun r4 u5 =>
    if r4 = 0 then
      some ((-3), u5)
    else
      jlet (w32 ((ishl 1 (u5 43 0)) - 1)) fun x6 =>
      f_R_reach_42 FU 0 x6 0 0 u5
theorem ct_R_reach (v1 : Int) (w : Wd) : Ct y_R_reach prog_14_method_70_code 7 (some .int) 21 0 [(2, 44), (0, v1)] w (f_R_reach v1 w) := by
  refine ct_of (by decide +kernel) (Or.inl ⟨rfl, rfl⟩) (Nat.le_of_ble_eq_true rfl) ?_
  intro X Qf ad C hn hR hr
  unfold f_R_reach
  show VF X Qf ad NF 0 0 w 0 [(0, (2, 44)), (1, (0, v1))] [] _
  refine vf_aload_n C (f := 0) (zdg dz_R_reach_0 0 rfl) 0 rfl rfl ?_
  refine vf_iconst C (z := 0) (zdg dz_R_reach_0 1 rfl) (jz rfl) ?_
  refine vf_put C (kd := 0) fl_R_138 fk_11_16 sh_43 rfl (by decide) rfl rfl (by decide) (zdg dz_R_reach_0 2 rfl) ?_
  generalize st w 43 16 0 = u1
  refine vf_uw ?_
  refine vf_iload_n C (f := 1) (zdg dz_R_reach_0 3 rfl) 1 rfl rfl ?_
  refine vf_callSz C cy_R_isWeeks ml_R_358 (ct_R_isWeeks _ _) (S := []) (jrm_of hR rfl) rfl rfl (Nat.le_of_ble_eq_true rfl) (zdg dz_R_reach_0 4 rfl) (fun r2 u3 => ?_)
  refine vf_if_ne C (off := 5) (tgt := 14) (zdg dz_R_reach_0 5 rfl) (by decide) ?_ ?_
  · refine vf_aload_n C (f := 0) (zdg dz_R_reach_0 8 rfl) 0 rfl rfl ?_
    refine vf_iload_n C (f := 1) (zdg dz_R_reach_0 9 rfl) 1 rfl rfl ?_
    refine vf_callVz C cy_R_findWeek ml_R_361 rfl (ct_R_findWeek _ _) (S := []) sh_43 (by decide) rfl (jrm_of hR rfl) rfl rfl (Nat.le_of_ble_eq_true rfl) (zdg dz_R_reach_0 10 rfl) (fun r4 u5 => ?_)
    refine vf_if_ne C (off := 6) (tgt := 25) (zdg dz_R_reach_0 11 rfl) (by decide) ?_ ?_
    · refine vf_iconst C (z := 0) (zdg dz_R_reach_0 14 rfl) (jz rfl) ?_
      refine vf_istore_n C (f := 2) (L' := [(0, (2, 44))]) (zdg dz_R_reach_0 15 rfl) [0] (jrI rfl rfl) hn (by decide) rfl ?_
      refine vf_iconst C (z := 1) (zdg dz_R_reach_0 16 rfl) (jz rfl) ?_
      refine vf_aload_n C (f := 0) (zdg dz_R_reach_0 17 rfl) 1 rfl rfl ?_
      refine vf_get C (kd := 0) fl_R_144 sh_43 rfl (by decide) rfl rfl (zdg dz_R_reach_0 18 rfl) ?_
      refine vf_ishl C (zdg dz_R_reach_0 19 rfl) ?_
      refine vf_iconst C (z := 1) (zdg dz_R_reach_0 20 rfl) (jz rfl) ?_
      refine vf_isub C (zdg dz_R_reach_0 21 rfl) ?_
      generalize w32 ((ishl 1 (u5 43 0)) - 1) = x6
      refine vf_ul ?_
      refine vf_istore_n C (f := 3) (L' := [(2, (0, 0)), (0, (2, 44))]) (zdg dz_R_reach_0 22 rfl) [0, 1] (jrI rfl rfl) hn (by decide) rfl ?_
      refine vf_iconst C (z := 0) (zdg dz_R_reach_0 23 rfl) (jz rfl) ?_
      refine vf_istore C (i := 4) (L' := [(3, (0, x6)), (2, (0, 0)), (0, (2, 44))]) (zdg dz_R_reach_1 0 rfl) [0, 1, 2] (jrI rfl rfl) hn (by decide) ?_
      refine vf_iconst C (z := 0) (zdg dz_R_reach_1 1 rfl) (jz rfl) ?_
      refine vf_istore C (i := 5) (L' := [(4, (0, 0)), (3, (0, x6)), (2, (0, 0)), (0, (2, 44))]) (zdg dz_R_reach_1 2 rfl) [0, 1, 2, 3] (jrI rfl rfl) hn (by decide) ?_
      exact vf_perm [4, 3, 2, 1, 0] rfl (t_R_reach_42 C hn hR hr FU _ _ _ _ _)
    · refine vf_bipush C (z := (-3)) (zdg dz_R_reach_0 12 rfl) (by decide +kernel) (jz rfl) ?_
      exact hr _ _ _ _ (fun h => absurd h (by decide)) (zdg dz_R_reach_0 13 rfl)
  · refine vf_iconst C (z := (-1)) (zdg dz_R_reach_0 6 rfl) (jz rfl) ?_
    exact hr _ _ _ _ (fun h => absurd h (by decide)) (zdg dz_R_reach_0 7 rfl)
def f_R_fewest_72 (k31 : Int → Int → Wd → Option (Int × Wd)) (v2 v3 : Int) (w : Wd) : Option (Int × Wd) :=
  jlet (w32 (v3 + 1)) fun x6 =>
  k31 v2 x6 w
theorem t_R_fewest_72 {X : jX} {Qf : Int × Wd → State → Prop} {ad : Nat → Nat} (C : Cx X prog_14_method_71_code "EachBringsAnotherModel") (hn : xn X = 4) (hR : xR X = rmD 21) (hr : Rt X Qf ad prog_14_method_71_code 0) {k31 : Int → Int → Wd → Option (Int × Wd)} (hk31 : ∀ (v2 v3 : Int) (w : Wd), VF X Qf ad NF 0 0 w 31 [(0, (2, 44)), (2, (0, v2)), (3, (0, v3))] [] (k31 v2 v3 w)) (v2 v3 : Int) (w : Wd) : VF X Qf ad NF 0 0 w 72 [(0, (2, 44)), (2, (0, v2)), (3, (0, v3))] [] (f_R_fewest_72 k31 v2 v3 w) := by
  unfold f_R_fewest_72
  refine vf_iinc C (z := 1) (L' := [(0, (2, 44)), (2, (0, v2))]) (zdg dz_R_fewest_1 15 rfl) 2 rfl [0, 1] (jrI rfl rfl) hn (by decide) ?_
  generalize w32 (v3 + 1) = x6
  refine vf_ul ?_
  refine vf_goto C (off := (-44)) (tgt := 31) (zdg dz_R_fewest_1 16 rfl) (by decide) ?_
  exact vf_perm [1, 2, 0] rfl (hk31 _ _ _)
def f_R_fewest_31 : Nat → Int → Int → Wd → Option (Int × Wd)
  | 0, _, _, _ => none
  | n + 1, v2, v3, w =>
    if (w 43 40) ≤ v3 then
      if v2 = 1000000 then
        some ((-2), w)
      else
        some (v2, w)
    else
      jgd ((0 : Int) ≤ v3 ∧ v3 < 3000) <|
      if (1000000 : Int) ≤ (w 69 v3.toNat) then
        f_R_fewest_72 (f_R_fewest_31 n) v2 v3 w
      else
        jcall (f_R_guestsIn v3 w) fun r7 u8 =>
        if r7 = 0 then
          f_R_fewest_72 (f_R_fewest_31 n) v2 v3 u8
        else
          jcall (f_R_guestsIn v3 u8) fun r9 u10 =>
          jcall (f_JI_bitCount r9 u10) fun r11 u12 =>
          jlet (imin v2 r11) fun x13 =>
          f_R_fewest_72 (f_R_fewest_31 n) x13 v3 u12
theorem t_R_fewest_31 {X : jX} {Qf : Int × Wd → State → Prop} {ad : Nat → Nat} (C : Cx X prog_14_method_71_code "EachBringsAnotherModel") (hn : xn X = 4) (hR : xR X = rmD 21) (hr : Rt X Qf ad prog_14_method_71_code 0) : ∀ (n : Nat) (v2 v3 : Int) (w : Wd), VF X Qf ad NF 0 0 w 31 [(0, (2, 44)), (2, (0, v2)), (3, (0, v3))] [] (f_R_fewest_31 n v2 v3 w) := by
  intro n
  induction n with
  | zero => intros; exact vf_no
  | succ n ih =>
    intro v2 v3 w
    rw [f_R_fewest_31]
    refine vf_iload_n C (f := 3) (zdg dz_R_fewest_0 18 rfl) 2 rfl rfl ?_
    refine vf_aload_n C (f := 0) (zdg dz_R_fewest_0 19 rfl) 0 rfl rfl ?_
    refine vf_get C (kd := 0) fl_R_314 sh_43 rfl (by decide) rfl rfl (zdg dz_R_fewest_0 20 rfl) ?_
    refine vf_icmp_ge C (off := 42) (tgt := 78) (zdg dz_R_fewest_0 21 rfl) (by decide) ?_ ?_
    · refine vf_iload_n C (f := 2) (zdg dz_R_fewest_1 17 rfl) 1 rfl rfl ?_
      refine vf_ldcw C (z := 1000000) (i := 348) (zdg dz_R_fewest_1 18 rfl) kc_R_348 (by decide +kernel) (jz rfl) ?_
      refine vf_icmp_ne C (off := 8) (tgt := 90) (zdg dz_R_fewest_1 19 rfl) (by decide) ?_ ?_
      · refine vf_iload_n C (f := 2) (zdg dz_R_fewest_1 22 rfl) 1 rfl rfl ?_
        exact hr _ _ _ _ (fun h => absurd h (by decide)) (zdg dz_R_fewest_1 23 rfl)
      · refine vf_bipush C (z := (-2)) (zdg dz_R_fewest_1 20 rfl) (by decide +kernel) (jz rfl) ?_
        refine vf_goto C (off := 4) (tgt := 91) (zdg dz_R_fewest_1 21 rfl) (by decide) ?_
        exact hr _ _ _ _ (fun h => absurd h (by decide)) (zdg dz_R_fewest_1 23 rfl)
    · refine vf_aload_n C (f := 0) (zdg dz_R_fewest_0 22 rfl) 0 rfl rfl ?_
      refine vf_getp C fl_R_98 sh_43 rfl (by decide) rfl (x := 70) rfl (zdg dz_R_fewest_0 23 rfl) ?_
      refine vf_iload_n C (f := 3) (zdg dz_R_fewest_1 0 rfl) 2 rfl rfl ?_
      refine vf_iald C sh_69 (by decide) rfl (mz := 3000) rfl (zdg dz_R_fewest_1 1 rfl) ?_
      refine vf_ldcw C (z := 1000000) (i := 348) (zdg dz_R_fewest_1 2 rfl) kc_R_348 (by decide +kernel) (jz rfl) ?_
      refine vf_icmp_ge C (off := 24) (tgt := 72) (zdg dz_R_fewest_1 3 rfl) (by decide) ?_ ?_
      · exact t_R_fewest_72 C hn hR hr ih _ _ _
      · refine vf_aload_n C (f := 0) (zdg dz_R_fewest_1 4 rfl) 0 rfl rfl ?_
        refine vf_iload_n C (f := 3) (zdg dz_R_fewest_1 5 rfl) 2 rfl rfl ?_
        refine vf_callVi C cy_R_guestsIn ml_R_345 rfl (ct_R_guestsIn _ _) (S := []) sh_43 (by decide) rfl (jrm_of hR rfl) rfl rfl (Nat.le_of_ble_eq_true rfl) (zdg dz_R_fewest_1 6 rfl) (fun r7 u8 => ?_)
        refine vf_if_eq C (off := 16) (tgt := 72) (zdg dz_R_fewest_1 7 rfl) (by decide) ?_ ?_
        · exact t_R_fewest_72 C hn hR hr ih _ _ _
        · refine vf_iload_n C (f := 2) (zdg dz_R_fewest_1 8 rfl) 1 rfl rfl ?_
          refine vf_aload_n C (f := 0) (zdg dz_R_fewest_1 9 rfl) 0 rfl rfl ?_
          refine vf_iload_n C (f := 3) (zdg dz_R_fewest_1 10 rfl) 2 rfl rfl ?_
          refine vf_callVi C cy_R_guestsIn ml_R_345 rfl (ct_R_guestsIn _ _) (S := [(0, v2)]) sh_43 (by decide) rfl (jrm_of hR rfl) rfl rfl (Nat.le_of_ble_eq_true rfl) (zdg dz_R_fewest_1 11 rfl) (fun r9 u10 => ?_)
          refine vf_callSi C cy_JI_bitCount ml_R_242 (ct_JI_bitCount _ _) (S := [(0, v2)]) (jrm_of hR rfl) rfl rfl (Nat.le_of_ble_eq_true rfl) (zdg dz_R_fewest_1 12 rfl) (fun r11 u12 => ?_)
          refine vf_mmin C ml_R_262 (jrm_n hR (by decide)) ⟨Nat.zero_le _, Nat.zero_le _⟩ (Nat.le_of_ble_eq_true rfl) (zdg dz_R_fewest_1 13 rfl) ?_
          generalize imin v2 r11 = x13
          refine vf_ul ?_
          refine vf_istore_n C (f := 2) (L' := [(0, (2, 44)), (3, (0, v3))]) (zdg dz_R_fewest_1 14 rfl) [0, 2] (jrI rfl rfl) hn (by decide) rfl ?_
          exact vf_perm [1, 0, 2] rfl (t_R_fewest_72 C hn hR hr ih _ _ _)
def f_R_fewest (v1 : Int) (w : Wd) : Option (Int × Wd) :=
  jlw (st w 43 16 0) fun u1 =>
  jcall (f_R_isWeeks v1 u1) fun r2 u3 =>
  if r2 = 0 then
    some ((-1), u3)
  else
    jcall (f_R_findWeek v1 u3) fun r4 u5 =>
    if r4 = 0 then
      some ((-3), u5)
    else
      f_R_fewest_31 FU 1000000 0 u5
theorem ct_R_fewest (v1 : Int) (w : Wd) : Ct y_R_fewest prog_14_method_71_code 4 (some .int) 21 0 [(2, 44), (0, v1)] w (f_R_fewest v1 w) := by
  refine ct_of (by decide +kernel) (Or.inl ⟨rfl, rfl⟩) (Nat.le_of_ble_eq_true rfl) ?_
  intro X Qf ad C hn hR hr
  unfold f_R_fewest
  show VF X Qf ad NF 0 0 w 0 [(0, (2, 44)), (1, (0, v1))] [] _
  refine vf_aload_n C (f := 0) (zdg dz_R_fewest_0 0 rfl) 0 rfl rfl ?_
  refine vf_iconst C (z := 0) (zdg dz_R_fewest_0 1 rfl) (jz rfl) ?_
  refine vf_put C (kd := 0) fl_R_138 fk_11_16 sh_43 rfl (by decide) rfl rfl (by decide) (zdg dz_R_fewest_0 2 rfl) ?_
  generalize st w 43 16 0 = u1
  refine vf_uw ?_
  refine vf_iload_n C (f := 1) (zdg dz_R_fewest_0 3 rfl) 1 rfl rfl ?_
  refine vf_callSz C cy_R_isWeeks ml_R_358 (ct_R_isWeeks _ _) (S := []) (jrm_of hR rfl) rfl rfl (Nat.le_of_ble_eq_true rfl) (zdg dz_R_fewest_0 4 rfl) (fun r2 u3 => ?_)
  refine vf_if_ne C (off := 5) (tgt := 14) (zdg dz_R_fewest_0 5 rfl) (by decide) ?_ ?_
  · refine vf_aload_n C (f := 0) (zdg dz_R_fewest_0 8 rfl) 0 rfl rfl ?_
    refine vf_iload_n C (f := 1) (zdg dz_R_fewest_0 9 rfl) 1 rfl rfl ?_
    refine vf_callVz C cy_R_findWeek ml_R_361 rfl (ct_R_findWeek _ _) (S := []) sh_43 (by decide) rfl (jrm_of hR rfl) rfl rfl (Nat.le_of_ble_eq_true rfl) (zdg dz_R_fewest_0 10 rfl) (fun r4 u5 => ?_)
    refine vf_if_ne C (off := 6) (tgt := 25) (zdg dz_R_fewest_0 11 rfl) (by decide) ?_ ?_
    · refine vf_ldcw C (z := 1000000) (i := 348) (zdg dz_R_fewest_0 14 rfl) kc_R_348 (by decide +kernel) (jz rfl) ?_
      refine vf_istore_n C (f := 2) (L' := [(0, (2, 44))]) (zdg dz_R_fewest_0 15 rfl) [0] (jrI rfl rfl) hn (by decide) rfl ?_
      refine vf_iconst C (z := 0) (zdg dz_R_fewest_0 16 rfl) (jz rfl) ?_
      refine vf_istore_n C (f := 3) (L' := [(2, (0, 1000000)), (0, (2, 44))]) (zdg dz_R_fewest_0 17 rfl) [0, 1] (jrI rfl rfl) hn (by decide) rfl ?_
      exact vf_perm [2, 1, 0] rfl (t_R_fewest_31 C hn hR hr FU _ _ _)
    · refine vf_bipush C (z := (-3)) (zdg dz_R_fewest_0 12 rfl) (by decide +kernel) (jz rfl) ?_
      exact hr _ _ _ _ (fun h => absurd h (by decide)) (zdg dz_R_fewest_0 13 rfl)
  · refine vf_iconst C (z := (-1)) (zdg dz_R_fewest_0 6 rfl) (jz rfl) ?_
    exact hr _ _ _ _ (fun h => absurd h (by decide)) (zdg dz_R_fewest_0 7 rfl)
def f_R_leastPaid_37 (k6 : Int → Int → Int → Wd → Option (Int × Wd)) (v1 v2 v3 : Int) (w : Wd) : Option (Int × Wd) :=
  jlet (w32 (v3 + 1)) fun x5 =>
  k6 v1 v2 x5 w
theorem t_R_leastPaid_37 {X : jX} {Qf : Int × Wd → State → Prop} {ad : Nat → Nat} (C : Cx X prog_14_method_73_code "EachBringsAnotherModel") (hn : xn X = 4) (hR : xR X = rmD 3) (hr : Rt X Qf ad prog_14_method_73_code 0) {k6 : Int → Int → Int → Wd → Option (Int × Wd)} (hk6 : ∀ (v1 v2 v3 : Int) (w : Wd), VF X Qf ad NF 0 0 w 6 [(0, (2, 44)), (1, (0, v1)), (2, (0, v2)), (3, (0, v3))] [] (k6 v1 v2 v3 w)) (v1 v2 v3 : Int) (w : Wd) : VF X Qf ad NF 0 0 w 37 [(0, (2, 44)), (1, (0, v1)), (2, (0, v2)), (3, (0, v3))] [] (f_R_leastPaid_37 k6 v1 v2 v3 w) := by
  unfold f_R_leastPaid_37
  refine vf_iinc C (z := 1) (L' := [(0, (2, 44)), (1, (0, v1)), (2, (0, v2))]) (zdg dz_R_leastPaid_0 21 rfl) 3 rfl [0, 1, 2] (jrI rfl rfl) hn (by decide) ?_
  generalize w32 (v3 + 1) = x5
  refine vf_ul ?_
  refine vf_goto C (off := (-34)) (tgt := 6) (zdg dz_R_leastPaid_0 22 rfl) (by decide) ?_
  exact vf_perm [1, 2, 3, 0] rfl (hk6 _ _ _ _)
def f_R_leastPaid_6 : Nat → Int → Int → Int → Wd → Option (Int × Wd)
  | 0, _, _, _, _ => none
  | n + 1, v1, v2, v3, w =>
    if (w 43 40) ≤ v3 then
      some (v2, w)
    else
      jcall (f_R_guestsIn v3 w) fun r1 u2 =>
      jcall (f_JI_bitCount r1 u2) fun r3 u4 =>
      if r3 = v1 then
        jgd ((0 : Int) ≤ v3 ∧ v3 < 3000) <|
        jlet (imin v2 (u4 69 v3.toNat)) fun x6 =>
        f_R_leastPaid_37 (f_R_leastPaid_6 n) v1 x6 v3 u4
      else
        f_R_leastPaid_37 (f_R_leastPaid_6 n) v1 v2 v3 u4
theorem t_R_leastPaid_6 {X : jX} {Qf : Int × Wd → State → Prop} {ad : Nat → Nat} (C : Cx X prog_14_method_73_code "EachBringsAnotherModel") (hn : xn X = 4) (hR : xR X = rmD 3) (hr : Rt X Qf ad prog_14_method_73_code 0) : ∀ (n : Nat) (v1 v2 v3 : Int) (w : Wd), VF X Qf ad NF 0 0 w 6 [(0, (2, 44)), (1, (0, v1)), (2, (0, v2)), (3, (0, v3))] [] (f_R_leastPaid_6 n v1 v2 v3 w) := by
  intro n
  induction n with
  | zero => intros; exact vf_no
  | succ n ih =>
    intro v1 v2 v3 w
    rw [f_R_leastPaid_6]
    refine vf_iload_n C (f := 3) (zdg dz_R_leastPaid_0 4 rfl) 3 rfl rfl ?_
    refine vf_aload_n C (f := 0) (zdg dz_R_leastPaid_0 5 rfl) 0 rfl rfl ?_
    refine vf_get C (kd := 0) fl_R_314 sh_43 rfl (by decide) rfl rfl (zdg dz_R_leastPaid_0 6 rfl) ?_
    refine vf_icmp_ge C (off := 32) (tgt := 43) (zdg dz_R_leastPaid_0 7 rfl) (by decide) ?_ ?_
    · refine vf_iload_n C (f := 2) (zdg dz_R_leastPaid_0 23 rfl) 2 rfl rfl ?_
      exact hr _ _ _ _ (fun h => absurd h (by decide)) (zdg dz_R_leastPaid_1 0 rfl)
    · refine vf_aload_n C (f := 0) (zdg dz_R_leastPaid_0 8 rfl) 0 rfl rfl ?_
      refine vf_iload_n C (f := 3) (zdg dz_R_leastPaid_0 9 rfl) 3 rfl rfl ?_
      refine vf_callVi C cy_R_guestsIn ml_R_345 rfl (ct_R_guestsIn _ _) (S := []) sh_43 (by decide) rfl (jrm_of hR rfl) rfl rfl (Nat.le_of_ble_eq_true rfl) (zdg dz_R_leastPaid_0 10 rfl) (fun r1 u2 => ?_)
      refine vf_callSi C cy_JI_bitCount ml_R_242 (ct_JI_bitCount _ _) (S := []) (jrm_of hR rfl) rfl rfl (Nat.le_of_ble_eq_true rfl) (zdg dz_R_leastPaid_0 11 rfl) (fun r3 u4 => ?_)
      refine vf_iload_n C (f := 1) (zdg dz_R_leastPaid_0 12 rfl) 1 rfl rfl ?_
      refine vf_icmp_ne C (off := 14) (tgt := 37) (zdg dz_R_leastPaid_0 13 rfl) (by decide) ?_ ?_
      · exact t_R_leastPaid_37 C hn hR hr ih _ _ _ _
      · refine vf_iload_n C (f := 2) (zdg dz_R_leastPaid_0 14 rfl) 2 rfl rfl ?_
        refine vf_aload_n C (f := 0) (zdg dz_R_leastPaid_0 15 rfl) 0 rfl rfl ?_
        refine vf_getp C fl_R_98 sh_43 rfl (by decide) rfl (x := 70) rfl (zdg dz_R_leastPaid_0 16 rfl) ?_
        refine vf_iload_n C (f := 3) (zdg dz_R_leastPaid_0 17 rfl) 3 rfl rfl ?_
        refine vf_iald C sh_69 (by decide) rfl (mz := 3000) rfl (zdg dz_R_leastPaid_0 18 rfl) ?_
        refine vf_mmin C ml_R_262 (jrm_n hR (by decide)) ⟨Nat.zero_le _, Nat.zero_le _⟩ (Nat.le_of_ble_eq_true rfl) (zdg dz_R_leastPaid_0 19 rfl) ?_
        generalize imin v2 (u4 69 v3.toNat) = x6
        refine vf_ul ?_
        refine vf_istore_n C (f := 2) (L' := [(0, (2, 44)), (1, (0, v1)), (3, (0, v3))]) (zdg dz_R_leastPaid_0 20 rfl) [0, 1, 3] (jrI rfl rfl) hn (by decide) rfl ?_
        exact vf_perm [1, 2, 0, 3] rfl (t_R_leastPaid_37 C hn hR hr ih _ _ _ _)
def f_R_leastPaid (v1 : Int) (w : Wd) : Option (Int × Wd) :=
  f_R_leastPaid_6 FU v1 1000000 0 w
theorem ct_R_leastPaid (v1 : Int) (w : Wd) : Ct y_R_leastPaid prog_14_method_73_code 4 (some .int) 3 0 [(2, 44), (0, v1)] w (f_R_leastPaid v1 w) := by
  refine ct_of (by decide +kernel) (Or.inl ⟨rfl, rfl⟩) (Nat.le_of_ble_eq_true rfl) ?_
  intro X Qf ad C hn hR hr
  unfold f_R_leastPaid
  show VF X Qf ad NF 0 0 w 0 [(0, (2, 44)), (1, (0, v1))] [] _
  refine vf_ldcw C (z := 1000000) (i := 348) (zdg dz_R_leastPaid_0 0 rfl) kc_R_348 (by decide +kernel) (jz rfl) ?_
  refine vf_istore_n C (f := 2) (L' := [(0, (2, 44)), (1, (0, v1))]) (zdg dz_R_leastPaid_0 1 rfl) [0, 1] (jrI rfl rfl) hn (by decide) rfl ?_
  refine vf_iconst C (z := 0) (zdg dz_R_leastPaid_0 2 rfl) (jz rfl) ?_
  refine vf_istore_n C (f := 3) (L' := [(2, (0, 1000000)), (0, (2, 44)), (1, (0, v1))]) (zdg dz_R_leastPaid_0 3 rfl) [0, 1, 2] (jrI rfl rfl) hn (by decide) rfl ?_
  exact vf_perm [2, 3, 1, 0] rfl (t_R_leastPaid_6 C hn hR hr FU _ _ _ _)
def f_R_crowd_59 : Nat → Int → Int → Int → Wd → Option (Int × Wd)
  | 0, _, _, _, _ => none
  | n + 1, v1, v2, v3, w =>
    if v3 = 1000000 then
      jcall (f_R_goOneWeek w) fun r13 u14 =>
      jlet (w32 (v2 + 1)) fun x15 =>
      jcall (f_R_leastPaid v1 u14) fun r16 u17 =>
      f_R_crowd_59 n v1 x15 r16 u17
    else
      jlw (st w 43 15 0) fun u8 =>
      jcall (f_R_tell v1 u8) fun r9 u10 =>
      jcall (f_R_tell v3 u10) fun r11 u12 =>
      some (v2, u12)
theorem t_R_crowd_59 {X : jX} {Qf : Int × Wd → State → Prop} {ad : Nat → Nat} (C : Cx X prog_14_method_72_code "EachBringsAnotherModel") (hn : xn X = 4) (hR : xR X = rmD 20) (hr : Rt X Qf ad prog_14_method_72_code 0) : ∀ (n : Nat) (v1 v2 v3 : Int) (w : Wd), VF X Qf ad NF 0 0 w 59 [(0, (2, 44)), (1, (0, v1)), (2, (0, v2)), (3, (0, v3))] [] (f_R_crowd_59 n v1 v2 v3 w) := by
  intro n
  induction n with
  | zero => intros; exact vf_no
  | succ n ih =>
    intro v1 v2 v3 w
    rw [f_R_crowd_59]
    refine vf_iload_n C (f := 3) (zdg dz_R_crowd_1 10 rfl) 3 rfl rfl ?_
    refine vf_ldcw C (z := 1000000) (i := 348) (zdg dz_R_crowd_1 11 rfl) kc_R_348 (by decide +kernel) (jz rfl) ?_
    refine vf_icmp_ne C (off := 19) (tgt := 82) (zdg dz_R_crowd_1 12 rfl) (by decide) ?_ ?_
    · refine vf_aload_n C (f := 0) (zdg dz_R_crowd_1 21 rfl) 0 rfl rfl ?_
      refine vf_iconst C (z := 0) (zdg dz_R_crowd_1 22 rfl) (jz rfl) ?_
      refine vf_put C (kd := 0) fl_R_141 fk_11_15 sh_43 rfl (by decide) rfl rfl (by decide) (zdg dz_R_crowd_1 23 rfl) ?_
      generalize st w 43 15 0 = u8
      refine vf_uw ?_
      refine vf_aload_n C (f := 0) (zdg dz_R_crowd_2 0 rfl) 0 rfl rfl ?_
      refine vf_iload_n C (f := 1) (zdg dz_R_crowd_2 1 rfl) 1 rfl rfl ?_
      refine vf_callVv C cy_R_tell ml_R_304 rfl (ct_R_tell _ _) (S := []) sh_43 (by decide) rfl (jrm_of hR rfl) rfl rfl (Nat.le_of_ble_eq_true rfl) (zdg dz_R_crowd_2 2 rfl) (fun r9 u10 => ?_)
      refine vf_aload_n C (f := 0) (zdg dz_R_crowd_2 3 rfl) 0 rfl rfl ?_
      refine vf_iload_n C (f := 3) (zdg dz_R_crowd_2 4 rfl) 3 rfl rfl ?_
      refine vf_callVv C cy_R_tell ml_R_304 rfl (ct_R_tell _ _) (S := []) sh_43 (by decide) rfl (jrm_of hR rfl) rfl rfl (Nat.le_of_ble_eq_true rfl) (zdg dz_R_crowd_2 5 rfl) (fun r11 u12 => ?_)
      refine vf_iload_n C (f := 2) (zdg dz_R_crowd_2 6 rfl) 2 rfl rfl ?_
      exact hr _ _ _ _ (fun h => absurd h (by decide)) (zdg dz_R_crowd_2 7 rfl)
    · refine vf_aload_n C (f := 0) (zdg dz_R_crowd_1 13 rfl) 0 rfl rfl ?_
      refine vf_callVv C cy_R_goOneWeek ml_R_355 rfl (ct_R_goOneWeek _) (S := []) sh_43 (by decide) rfl (jrm_of hR rfl) rfl rfl (Nat.le_of_ble_eq_true rfl) (zdg dz_R_crowd_1 14 rfl) (fun r13 u14 => ?_)
      refine vf_iinc C (z := 1) (L' := [(0, (2, 44)), (1, (0, v1))]) (zdg dz_R_crowd_1 15 rfl) 2 rfl [0, 1] (jrI rfl rfl) hn (by decide) ?_
      generalize w32 (v2 + 1) = x15
      refine vf_ul ?_
      refine vf_aload_n C (f := 0) (zdg dz_R_crowd_1 16 rfl) 1 rfl rfl ?_
      refine vf_iload_n C (f := 1) (zdg dz_R_crowd_1 17 rfl) 2 rfl rfl ?_
      refine vf_callVi C cy_R_leastPaid ml_R_364 rfl (ct_R_leastPaid _ _) (S := []) sh_43 (by decide) rfl (jrm_of hR rfl) rfl rfl (Nat.le_of_ble_eq_true rfl) (zdg dz_R_crowd_1 18 rfl) (fun r16 u17 => ?_)
      refine vf_istore_n C (f := 3) (L' := [(2, (0, x15)), (0, (2, 44)), (1, (0, v1))]) (zdg dz_R_crowd_1 19 rfl) [0, 1, 2] (jrI rfl rfl) hn (by decide) rfl ?_
      refine vf_goto C (off := (-20)) (tgt := 59) (zdg dz_R_crowd_1 20 rfl) (by decide) ?_
      exact vf_perm [2, 3, 1, 0] rfl (ih _ _ _ _)
def f_R_crowd_20 : Nat → Int → Int → Wd → Option (Int × Wd)
  | 0, _, _, _ => none
  | n + 1, v1, v2, w =>
    if (w 43 40) ≤ v2 then
      jcall (f_R_beginWeeks w) fun r4 u5 =>
      jcall (f_R_leastPaid v1 u5) fun r6 u7 =>
      f_R_crowd_59 FU v1 0 r6 u7
    else
      jcall (f_R_guestsIn v2 w) fun r18 u19 =>
      jcall (f_JI_bitCount r18 u19) fun r20 u21 =>
      jlet (imax v1 r20) fun x22 =>
      jlet (w32 (v2 + 1)) fun x23 =>
      f_R_crowd_20 n x22 x23 u21
theorem t_R_crowd_20 {X : jX} {Qf : Int × Wd → State → Prop} {ad : Nat → Nat} (C : Cx X prog_14_method_72_code "EachBringsAnotherModel") (hn : xn X = 4) (hR : xR X = rmD 20) (hr : Rt X Qf ad prog_14_method_72_code 0) : ∀ (n : Nat) (v1 v2 : Int) (w : Wd), VF X Qf ad NF 0 0 w 20 [(0, (2, 44)), (1, (0, v1)), (2, (0, v2))] [] (f_R_crowd_20 n v1 v2 w) := by
  intro n
  induction n with
  | zero => intros; exact vf_no
  | succ n ih =>
    intro v1 v2 w
    rw [f_R_crowd_20]
    refine vf_iload_n C (f := 2) (zdg dz_R_crowd_0 13 rfl) 2 rfl rfl ?_
    refine vf_aload_n C (f := 0) (zdg dz_R_crowd_0 14 rfl) 0 rfl rfl ?_
    refine vf_get C (kd := 0) fl_R_314 sh_43 rfl (by decide) rfl rfl (zdg dz_R_crowd_0 15 rfl) ?_
    refine vf_icmp_ge C (off := 22) (tgt := 47) (zdg dz_R_crowd_0 16 rfl) (by decide) ?_ ?_
    · refine vf_aload_n C (f := 0) (zdg dz_R_crowd_1 2 rfl) 0 rfl rfl ?_
      refine vf_callVv C cy_R_beginWeeks ml_R_352 rfl (ct_R_beginWeeks _) (S := []) sh_43 (by decide) rfl (jrm_of hR rfl) rfl rfl (Nat.le_of_ble_eq_true rfl) (zdg dz_R_crowd_1 3 rfl) (fun r4 u5 => ?_)
      refine vf_iconst C (z := 0) (zdg dz_R_crowd_1 4 rfl) (jz rfl) ?_
      refine vf_istore_n C (f := 2) (L' := [(0, (2, 44)), (1, (0, v1))]) (zdg dz_R_crowd_1 5 rfl) [0, 1] (jrI rfl rfl) hn (by decide) rfl ?_
      refine vf_aload_n C (f := 0) (zdg dz_R_crowd_1 6 rfl) 1 rfl rfl ?_
      refine vf_iload_n C (f := 1) (zdg dz_R_crowd_1 7 rfl) 2 rfl rfl ?_
      refine vf_callVi C cy_R_leastPaid ml_R_364 rfl (ct_R_leastPaid _ _) (S := []) sh_43 (by decide) rfl (jrm_of hR rfl) rfl rfl (Nat.le_of_ble_eq_true rfl) (zdg dz_R_crowd_1 8 rfl) (fun r6 u7 => ?_)
      refine vf_istore_n C (f := 3) (L' := [(2, (0, 0)), (0, (2, 44)), (1, (0, v1))]) (zdg dz_R_crowd_1 9 rfl) [0, 1, 2] (jrI rfl rfl) hn (by decide) rfl ?_
      exact vf_perm [2, 3, 1, 0] rfl (t_R_crowd_59 C hn hR hr FU _ _ _ _)
    · refine vf_iload_n C (f := 1) (zdg dz_R_crowd_0 17 rfl) 1 rfl rfl ?_
      refine vf_aload_n C (f := 0) (zdg dz_R_crowd_0 18 rfl) 0 rfl rfl ?_
      refine vf_iload_n C (f := 2) (zdg dz_R_crowd_0 19 rfl) 2 rfl rfl ?_
      refine vf_callVi C cy_R_guestsIn ml_R_345 rfl (ct_R_guestsIn _ _) (S := [(0, v1)]) sh_43 (by decide) rfl (jrm_of hR rfl) rfl rfl (Nat.le_of_ble_eq_true rfl) (zdg dz_R_crowd_0 20 rfl) (fun r18 u19 => ?_)
      refine vf_callSi C cy_JI_bitCount ml_R_242 (ct_JI_bitCount _ _) (S := [(0, v1)]) (jrm_of hR rfl) rfl rfl (Nat.le_of_ble_eq_true rfl) (zdg dz_R_crowd_0 21 rfl) (fun r20 u21 => ?_)
      refine vf_mmax C ml_R_267 (jrm_n hR (by decide)) ⟨Nat.zero_le _, Nat.zero_le _⟩ (Nat.le_of_ble_eq_true rfl) (zdg dz_R_crowd_0 22 rfl) ?_
      generalize imax v1 r20 = x22
      refine vf_ul ?_
      refine vf_istore_n C (f := 1) (L' := [(0, (2, 44)), (2, (0, v2))]) (zdg dz_R_crowd_0 23 rfl) [0, 2] (jrI rfl rfl) hn (by decide) rfl ?_
      refine vf_iinc C (z := 1) (L' := [(1, (0, x22)), (0, (2, 44))]) (zdg dz_R_crowd_1 0 rfl) 2 rfl [0, 1] (jrI rfl rfl) hn (by decide) ?_
      generalize w32 (v2 + 1) = x23
      refine vf_ul ?_
      refine vf_goto C (off := (-24)) (tgt := 20) (zdg dz_R_crowd_1 1 rfl) (by decide) ?_
      exact vf_perm [2, 1, 0] rfl (ih _ _ _)
def f_R_crowd (w : Wd) : Option (Int × Wd) :=
  jlw (st w 43 16 0) fun u1 =>
  jcall (f_R_findStates 0 u1) fun r2 u3 =>
  if r2 = 0 then
    some ((-3), u3)
  else
    f_R_crowd_20 FU 0 0 u3
theorem ct_R_crowd (w : Wd) : Ct y_R_crowd prog_14_method_72_code 4 (some .int) 20 0 [(2, 44)] w (f_R_crowd w) := by
  refine ct_of (by decide +kernel) (Or.inl ⟨rfl, rfl⟩) (Nat.le_of_ble_eq_true rfl) ?_
  intro X Qf ad C hn hR hr
  unfold f_R_crowd
  show VF X Qf ad NF 0 0 w 0 [(0, (2, 44))] [] _
  refine vf_aload_n C (f := 0) (zdg dz_R_crowd_0 0 rfl) 0 rfl rfl ?_
  refine vf_iconst C (z := 0) (zdg dz_R_crowd_0 1 rfl) (jz rfl) ?_
  refine vf_put C (kd := 0) fl_R_138 fk_11_16 sh_43 rfl (by decide) rfl rfl (by decide) (zdg dz_R_crowd_0 2 rfl) ?_
  generalize st w 43 16 0 = u1
  refine vf_uw ?_
  refine vf_aload_n C (f := 0) (zdg dz_R_crowd_0 3 rfl) 0 rfl rfl ?_
  refine vf_iconst C (z := 0) (zdg dz_R_crowd_0 4 rfl) (jz rfl) ?_
  refine vf_callVz C cy_R_findStates ml_R_342 rfl (ct_R_findStates _ _) (S := []) sh_43 (by decide) rfl (jrm_of hR rfl) rfl rfl (Nat.le_of_ble_eq_true rfl) (zdg dz_R_crowd_0 5 rfl) (fun r2 u3 => ?_)
  refine vf_if_ne C (off := 6) (tgt := 16) (zdg dz_R_crowd_0 6 rfl) (by decide) ?_ ?_
  · refine vf_iconst C (z := 0) (zdg dz_R_crowd_0 9 rfl) (jz rfl) ?_
    refine vf_istore_n C (f := 1) (L' := [(0, (2, 44))]) (zdg dz_R_crowd_0 10 rfl) [0] (jrI rfl rfl) hn (by decide) rfl ?_
    refine vf_iconst C (z := 0) (zdg dz_R_crowd_0 11 rfl) (jz rfl) ?_
    refine vf_istore_n C (f := 2) (L' := [(1, (0, 0)), (0, (2, 44))]) (zdg dz_R_crowd_0 12 rfl) [0, 1] (jrI rfl rfl) hn (by decide) rfl ?_
    exact vf_perm [2, 1, 0] rfl (t_R_crowd_20 C hn hR hr FU _ _ _)
  · refine vf_bipush C (z := (-3)) (zdg dz_R_crowd_0 7 rfl) (by decide +kernel) (jz rfl) ?_
    exact hr _ _ _ _ (fun h => absurd h (by decide)) (zdg dz_R_crowd_0 8 rfl)
def f_R_both_91 (k42 : Int → Int → Int → Int → Wd → Option (Int × Wd)) (v1 v2 v4 v5 : Int) (w : Wd) : Option (Int × Wd) :=
  jlet (w32 (v5 + 1)) fun x12 =>
  k42 v1 v2 v4 x12 w
theorem t_R_both_91 {X : jX} {Qf : Int × Wd → State → Prop} {ad : Nat → Nat} (C : Cx X prog_14_method_74_code "EachBringsAnotherModel") (hn : xn X = 6) (hR : xR X = rmD 21) (hr : Rt X Qf ad prog_14_method_74_code 0) {k42 : Int → Int → Int → Int → Wd → Option (Int × Wd)} (hk42 : ∀ (v1 v2 v4 v5 : Int) (w : Wd), VF X Qf ad NF 0 0 w 42 [(0, (2, 44)), (1, (0, v1)), (2, (0, v2)), (4, (0, v4)), (5, (0, v5))] [] (k42 v1 v2 v4 v5 w)) (v1 v2 v4 v5 : Int) (w : Wd) : VF X Qf ad NF 0 0 w 91 [(0, (2, 44)), (1, (0, v1)), (2, (0, v2)), (4, (0, v4)), (5, (0, v5))] [] (f_R_both_91 k42 v1 v2 v4 v5 w) := by
  unfold f_R_both_91
  refine vf_iinc C (z := 1) (L' := [(0, (2, 44)), (1, (0, v1)), (2, (0, v2)), (4, (0, v4))]) (zdg dz_R_both_1 22 rfl) 4 rfl [0, 1, 2, 3] (jrI rfl rfl) hn (by decide) ?_
  generalize w32 (v5 + 1) = x12
  refine vf_ul ?_
  refine vf_goto C (off := (-52)) (tgt := 42) (zdg dz_R_both_1 23 rfl) (by decide) ?_
  exact vf_perm [1, 2, 3, 4, 0] rfl (hk42 _ _ _ _ _)
def f_R_both_42 : Nat → Int → Int → Int → Int → Wd → Option (Int × Wd)
  | 0, _, _, _, _, _ => none
  | n + 1, v1, v2, v4, v5, w =>
    if (w 43 40) ≤ v5 then
      if v4 = 1000000 then
        some ((-2), w)
      else
        some (v4, w)
    else
      jcall (f_R_guestsIn v5 w) fun r8 u9 =>
      jcall (f_R_has r8 v1 u9) fun r10 u11 =>
      if r10 = 0 then
        f_R_both_91 (f_R_both_42 n) v1 v2 v4 v5 u11
      else
        jcall (f_R_guestsIn v5 u11) fun r13 u14 =>
        jcall (f_R_has r13 v2 u14) fun r15 u16 =>
        if r15 = 0 then
          f_R_both_91 (f_R_both_42 n) v1 v2 v4 v5 u16
        else
          jgd ((0 : Int) ≤ v5 ∧ v5 < 3000) <|
          jlet (imin v4 (u16 69 v5.toNat)) fun x17 =>
          f_R_both_91 (f_R_both_42 n) v1 v2 x17 v5 u16
theorem t_R_both_42 {X : jX} {Qf : Int × Wd → State → Prop} {ad : Nat → Nat} (C : Cx X prog_14_method_74_code "EachBringsAnotherModel") (hn : xn X = 6) (hR : xR X = rmD 21) (hr : Rt X Qf ad prog_14_method_74_code 0) : ∀ (n : Nat) (v1 v2 v4 v5 : Int) (w : Wd), VF X Qf ad NF 0 0 w 42 [(0, (2, 44)), (1, (0, v1)), (2, (0, v2)), (4, (0, v4)), (5, (0, v5))] [] (f_R_both_42 n v1 v2 v4 v5 w) := by
  intro n
  induction n with
  | zero => intros; exact vf_no
  | succ n ih =>
    intro v1 v2 v4 v5 w
    rw [f_R_both_42]
    refine vf_iload C (zdg dz_R_both_0 23 rfl) 4 rfl ?_
    refine vf_aload_n C (f := 0) (zdg dz_R_both_1 0 rfl) 0 rfl rfl ?_
    refine vf_get C (kd := 0) fl_R_314 sh_43 rfl (by decide) rfl rfl (zdg dz_R_both_1 1 rfl) ?_
    refine vf_icmp_ge C (off := 49) (tgt := 97) (zdg dz_R_both_1 2 rfl) (by decide) ?_ ?_
    · refine vf_iload C (zdg dz_R_both_2 0 rfl) 3 rfl ?_
      refine vf_ldcw C (z := 1000000) (i := 348) (zdg dz_R_both_2 1 rfl) kc_R_348 (by decide +kernel) (jz rfl) ?_
      refine vf_icmp_ne C (off := 8) (tgt := 110) (zdg dz_R_both_2 2 rfl) (by decide) ?_ ?_
      · refine vf_iload C (zdg dz_R_both_2 5 rfl) 3 rfl ?_
        exact hr _ _ _ _ (fun h => absurd h (by decide)) (zdg dz_R_both_2 6 rfl)
      · refine vf_bipush C (z := (-2)) (zdg dz_R_both_2 3 rfl) (by decide +kernel) (jz rfl) ?_
        refine vf_goto C (off := 5) (tgt := 112) (zdg dz_R_both_2 4 rfl) (by decide) ?_
        exact hr _ _ _ _ (fun h => absurd h (by decide)) (zdg dz_R_both_2 6 rfl)
    · refine vf_aload_n C (f := 0) (zdg dz_R_both_1 3 rfl) 0 rfl rfl ?_
      refine vf_iload C (zdg dz_R_both_1 4 rfl) 4 rfl ?_
      refine vf_callVi C cy_R_guestsIn ml_R_345 rfl (ct_R_guestsIn _ _) (S := []) sh_43 (by decide) rfl (jrm_of hR rfl) rfl rfl (Nat.le_of_ble_eq_true rfl) (zdg dz_R_both_1 5 rfl) (fun r8 u9 => ?_)
      refine vf_iload_n C (f := 1) (zdg dz_R_both_1 6 rfl) 1 rfl rfl ?_
      refine vf_callSz C cy_R_has ml_R_210 (ct_R_has _ _ _) (S := []) (jrm_of hR rfl) rfl rfl (Nat.le_of_ble_eq_true rfl) (zdg dz_R_both_1 7 rfl) (fun r10 u11 => ?_)
      refine vf_if_eq C (off := 30) (tgt := 91) (zdg dz_R_both_1 8 rfl) (by decide) ?_ ?_
      · exact t_R_both_91 C hn hR hr ih _ _ _ _ _
      · refine vf_aload_n C (f := 0) (zdg dz_R_both_1 9 rfl) 0 rfl rfl ?_
        refine vf_iload C (zdg dz_R_both_1 10 rfl) 4 rfl ?_
        refine vf_callVi C cy_R_guestsIn ml_R_345 rfl (ct_R_guestsIn _ _) (S := []) sh_43 (by decide) rfl (jrm_of hR rfl) rfl rfl (Nat.le_of_ble_eq_true rfl) (zdg dz_R_both_1 11 rfl) (fun r13 u14 => ?_)
        refine vf_iload_n C (f := 2) (zdg dz_R_both_1 12 rfl) 2 rfl rfl ?_
        refine vf_callSz C cy_R_has ml_R_210 (ct_R_has _ _ _) (S := []) (jrm_of hR rfl) rfl rfl (Nat.le_of_ble_eq_true rfl) (zdg dz_R_both_1 13 rfl) (fun r15 u16 => ?_)
        refine vf_if_eq C (off := 17) (tgt := 91) (zdg dz_R_both_1 14 rfl) (by decide) ?_ ?_
        · exact t_R_both_91 C hn hR hr ih _ _ _ _ _
        · refine vf_iload C (zdg dz_R_both_1 15 rfl) 3 rfl ?_
          refine vf_aload_n C (f := 0) (zdg dz_R_both_1 16 rfl) 0 rfl rfl ?_
          refine vf_getp C fl_R_98 sh_43 rfl (by decide) rfl (x := 70) rfl (zdg dz_R_both_1 17 rfl) ?_
          refine vf_iload C (zdg dz_R_both_1 18 rfl) 4 rfl ?_
          refine vf_iald C sh_69 (by decide) rfl (mz := 3000) rfl (zdg dz_R_both_1 19 rfl) ?_
          refine vf_mmin C ml_R_262 (jrm_n hR (by decide)) ⟨Nat.zero_le _, Nat.zero_le _⟩ (Nat.le_of_ble_eq_true rfl) (zdg dz_R_both_1 20 rfl) ?_
          generalize imin v4 (u16 69 v5.toNat) = x17
          refine vf_ul ?_
          refine vf_istore C (i := 4) (L' := [(0, (2, 44)), (1, (0, v1)), (2, (0, v2)), (5, (0, v5))]) (zdg dz_R_both_1 21 rfl) [0, 1, 2, 4] (jrI rfl rfl) hn (by decide) ?_
          exact vf_perm [1, 2, 3, 0, 4] rfl (t_R_both_91 C hn hR hr ih _ _ _ _ _)
def f_R_both (v1 v2 v3 : Int) (w : Wd) : Option (Int × Wd) :=
  jlw (st w 43 16 0) fun u1 =>
  jcall (f_R_areTwo v1 v2 u1) fun r2 u3 =>
  if r2 = 0 then
    some ((-1), u3)
  else
    jcall (f_R_isWeeks v3 u3) fun r4 u5 =>
    if r4 = 0 then
      some ((-1), u5)
    else
      jcall (f_R_findWeek v3 u5) fun r6 u7 =>
      if r6 = 0 then
        some ((-3), u7)
      else
        f_R_both_42 FU v1 v2 1000000 0 u7
theorem ct_R_both (v1 v2 v3 : Int) (w : Wd) : Ct y_R_both prog_14_method_74_code 6 (some .int) 21 0 [(2, 44), (0, v1), (0, v2), (0, v3)] w (f_R_both v1 v2 v3 w) := by
  refine ct_of (by decide +kernel) (Or.inl ⟨rfl, rfl⟩) (Nat.le_of_ble_eq_true rfl) ?_
  intro X Qf ad C hn hR hr
  unfold f_R_both
  show VF X Qf ad NF 0 0 w 0 [(0, (2, 44)), (1, (0, v1)), (2, (0, v2)), (3, (0, v3))] [] _
  refine vf_aload_n C (f := 0) (zdg dz_R_both_0 0 rfl) 0 rfl rfl ?_
  refine vf_iconst C (z := 0) (zdg dz_R_both_0 1 rfl) (jz rfl) ?_
  refine vf_put C (kd := 0) fl_R_138 fk_11_16 sh_43 rfl (by decide) rfl rfl (by decide) (zdg dz_R_both_0 2 rfl) ?_
  generalize st w 43 16 0 = u1
  refine vf_uw ?_
  refine vf_aload_n C (f := 0) (zdg dz_R_both_0 3 rfl) 0 rfl rfl ?_
  refine vf_iload_n C (f := 1) (zdg dz_R_both_0 4 rfl) 1 rfl rfl ?_
  refine vf_iload_n C (f := 2) (zdg dz_R_both_0 5 rfl) 2 rfl rfl ?_
  refine vf_callVz C cy_R_areTwo ml_R_259 rfl (ct_R_areTwo _ _ _) (S := []) sh_43 (by decide) rfl (jrm_of hR rfl) rfl rfl (Nat.le_of_ble_eq_true rfl) (zdg dz_R_both_0 6 rfl) (fun r2 u3 => ?_)
  refine vf_if_eq C (off := 10) (tgt := 21) (zdg dz_R_both_0 7 rfl) (by decide) ?_ ?_
  · refine vf_iconst C (z := (-1)) (zdg dz_R_both_0 11 rfl) (jz rfl) ?_
    exact hr _ _ _ _ (fun h => absurd h (by decide)) (zdg dz_R_both_0 12 rfl)
  · refine vf_iload_n C (f := 3) (zdg dz_R_both_0 8 rfl) 3 rfl rfl ?_
    refine vf_callSz C cy_R_isWeeks ml_R_358 (ct_R_isWeeks _ _) (S := []) (jrm_of hR rfl) rfl rfl (Nat.le_of_ble_eq_true rfl) (zdg dz_R_both_0 9 rfl) (fun r4 u5 => ?_)
    refine vf_if_ne C (off := 5) (tgt := 23) (zdg dz_R_both_0 10 rfl) (by decide) ?_ ?_
    · refine vf_aload_n C (f := 0) (zdg dz_R_both_0 13 rfl) 0 rfl rfl ?_
      refine vf_iload_n C (f := 3) (zdg dz_R_both_0 14 rfl) 3 rfl rfl ?_
      refine vf_callVz C cy_R_findWeek ml_R_361 rfl (ct_R_findWeek _ _) (S := []) sh_43 (by decide) rfl (jrm_of hR rfl) rfl rfl (Nat.le_of_ble_eq_true rfl) (zdg dz_R_both_0 15 rfl) (fun r6 u7 => ?_)
      refine vf_if_ne C (off := 6) (tgt := 34) (zdg dz_R_both_0 16 rfl) (by decide) ?_ ?_
      · refine vf_ldcw C (z := 1000000) (i := 348) (zdg dz_R_both_0 19 rfl) kc_R_348 (by decide +kernel) (jz rfl) ?_
        refine vf_istore C (i := 4) (L' := [(0, (2, 44)), (1, (0, v1)), (2, (0, v2))]) (zdg dz_R_both_0 20 rfl) [0, 1, 2] (jrI rfl rfl) hn (by decide) ?_
        refine vf_iconst C (z := 0) (zdg dz_R_both_0 21 rfl) (jz rfl) ?_
        refine vf_istore C (i := 5) (L' := [(4, (0, 1000000)), (0, (2, 44)), (1, (0, v1)), (2, (0, v2))]) (zdg dz_R_both_0 22 rfl) [0, 1, 2, 3] (jrI rfl rfl) hn (by decide) ?_
        exact vf_perm [2, 3, 4, 1, 0] rfl (t_R_both_42 C hn hR hr FU _ _ _ _ _)
      · refine vf_bipush C (z := (-3)) (zdg dz_R_both_0 17 rfl) (by decide +kernel) (jz rfl) ?_
        exact hr _ _ _ _ (fun h => absurd h (by decide)) (zdg dz_R_both_0 18 rfl)
    · refine vf_iconst C (z := (-1)) (zdg dz_R_both_0 11 rfl) (jz rfl) ?_
      exact hr _ _ _ _ (fun h => absurd h (by decide)) (zdg dz_R_both_0 12 rfl)
def f_R_findOrder_142 (k103 : Int → Int → Int → Wd → Option (Int × Wd)) (k111 : Int → Int → Int → Int → Wd → Option (Int × Wd)) (v1 v2 v3 v4 : Int) (w : Wd) : Option (Int × Wd) :=
  jlet (w32 (v4 + 1)) fun x2 =>
  k111 v1 v2 v3 x2 w
theorem t_R_findOrder_142 {X : jX} {Qf : Int × Wd → State → Prop} {ad : Nat → Nat} (C : Cx X prog_14_method_75_code "EachBringsAnotherModel") (hn : xn X = 6) (hR : xR X = rmD 2) (hr : Rt X Qf ad prog_14_method_75_code 9) {k103 : Int → Int → Int → Wd → Option (Int × Wd)} (hk103 : ∀ (v1 v2 v3 : Int) (w : Wd), VF X Qf ad NF 0 0 w 103 [(0, (2, 44)), (1, (0, v1)), (2, (0, v2)), (3, (0, v3))] [] (k103 v1 v2 v3 w)) {k111 : Int → Int → Int → Int → Wd → Option (Int × Wd)} (hk111 : ∀ (v1 v2 v3 v4 : Int) (w : Wd), VF X Qf ad NF 0 0 w 111 [(0, (2, 44)), (1, (0, v1)), (2, (0, v2)), (3, (0, v3)), (4, (0, v4))] [] (k111 v1 v2 v3 v4 w)) (v1 v2 v3 v4 : Int) (w : Wd) : VF X Qf ad NF 0 0 w 142 [(0, (2, 44)), (1, (0, v1)), (2, (0, v2)), (3, (0, v3)), (4, (0, v4))] [] (f_R_findOrder_142 k103 k111 v1 v2 v3 v4 w) := by
  unfold f_R_findOrder_142
  refine vf_iinc C (z := 1) (L' := [(0, (2, 44)), (1, (0, v1)), (2, (0, v2)), (3, (0, v3))]) (zdg dz_R_findOrder_3 12 rfl) 4 rfl [0, 1, 2, 3] (jrI rfl rfl) hn (by decide) ?_
  generalize w32 (v4 + 1) = x2
  refine vf_ul ?_
  refine vf_goto C (off := (-34)) (tgt := 111) (zdg dz_R_findOrder_3 13 rfl) (by decide) ?_
  exact vf_perm [1, 2, 3, 4, 0] rfl (hk111 _ _ _ _ _)
def f_R_findOrder_111 (k103 : Int → Int → Int → Wd → Option (Int × Wd)) : Nat → Int → Int → Int → Int → Wd → Option (Int × Wd)
  | 0, _, _, _, _, _ => none
  | n + 1, v1, v2, v3, v4, w =>
    if (w 43 40) ≤ v4 then
      jlet (w32 (v3 + 1)) fun x1 =>
      k103 v1 v2 x1 w
    else
      jgd ((0 : Int) ≤ v4 ∧ v4 < 3000) <|
      if (w 73 v4.toNat) = v3 then
        jlet (w32 (v2 + 1)) fun x3 =>
        jgd ((0 : Int) ≤ v2 ∧ v2 < 3000) <|
        jlw (st w 72 v2.toNat v4) fun u4 =>
        f_R_findOrder_142 k103 (f_R_findOrder_111 k103 n) v1 x3 v3 v4 u4
      else
        f_R_findOrder_142 k103 (f_R_findOrder_111 k103 n) v1 v2 v3 v4 w
theorem t_R_findOrder_111 {X : jX} {Qf : Int × Wd → State → Prop} {ad : Nat → Nat} (C : Cx X prog_14_method_75_code "EachBringsAnotherModel") (hn : xn X = 6) (hR : xR X = rmD 2) (hr : Rt X Qf ad prog_14_method_75_code 9) {k103 : Int → Int → Int → Wd → Option (Int × Wd)} (hk103 : ∀ (v1 v2 v3 : Int) (w : Wd), VF X Qf ad NF 0 0 w 103 [(0, (2, 44)), (1, (0, v1)), (2, (0, v2)), (3, (0, v3))] [] (k103 v1 v2 v3 w)) : ∀ (n : Nat) (v1 v2 v3 v4 : Int) (w : Wd), VF X Qf ad NF 0 0 w 111 [(0, (2, 44)), (1, (0, v1)), (2, (0, v2)), (3, (0, v3)), (4, (0, v4))] [] (f_R_findOrder_111 k103 n v1 v2 v3 v4 w) := by
  intro n
  induction n with
  | zero => intros; exact vf_no
  | succ n ih =>
    intro v1 v2 v3 v4 w
    rw [f_R_findOrder_111]
    refine vf_iload C (zdg dz_R_findOrder_2 20 rfl) 4 rfl ?_
    refine vf_aload_n C (f := 0) (zdg dz_R_findOrder_2 21 rfl) 0 rfl rfl ?_
    refine vf_get C (kd := 0) fl_R_314 sh_43 rfl (by decide) rfl rfl (zdg dz_R_findOrder_2 22 rfl) ?_
    refine vf_icmp_ge C (off := 31) (tgt := 148) (zdg dz_R_findOrder_2 23 rfl) (by decide) ?_ ?_
    · refine vf_iinc C (z := 1) (L' := [(0, (2, 44)), (1, (0, v1)), (2, (0, v2))]) (zdg dz_R_findOrder_3 14 rfl) 3 rfl [0, 1, 2] (jrI rfl rfl) hn (by decide) ?_
      generalize w32 (v3 + 1) = x1
      refine vf_ul ?_
      refine vf_goto C (off := (-48)) (tgt := 103) (zdg dz_R_findOrder_3 15 rfl) (by decide) ?_
      exact vf_perm [1, 2, 3, 0] rfl (hk103 _ _ _ _)
    · refine vf_aload_n C (f := 0) (zdg dz_R_findOrder_3 0 rfl) 0 rfl rfl ?_
      refine vf_getp C fl_R_110 sh_43 rfl (by decide) rfl (x := 74) rfl (zdg dz_R_findOrder_3 1 rfl) ?_
      refine vf_iload C (zdg dz_R_findOrder_3 2 rfl) 4 rfl ?_
      refine vf_iald C sh_73 (by decide) rfl (mz := 3000) rfl (zdg dz_R_findOrder_3 3 rfl) ?_
      refine vf_iload_n C (f := 3) (zdg dz_R_findOrder_3 4 rfl) 3 rfl rfl ?_
      refine vf_icmp_ne C (off := 14) (tgt := 142) (zdg dz_R_findOrder_3 5 rfl) (by decide) ?_ ?_
      · exact t_R_findOrder_142 C hn hR hr hk103 ih _ _ _ _ _
      · refine vf_aload_n C (f := 0) (zdg dz_R_findOrder_3 6 rfl) 0 rfl rfl ?_
        refine vf_getp C fl_R_107 sh_43 rfl (by decide) rfl (x := 73) rfl (zdg dz_R_findOrder_3 7 rfl) ?_
        refine vf_iload_n C (f := 2) (zdg dz_R_findOrder_3 8 rfl) 2 rfl rfl ?_
        refine vf_iinc C (z := 1) (L' := [(0, (2, 44)), (1, (0, v1)), (3, (0, v3)), (4, (0, v4))]) (zdg dz_R_findOrder_3 9 rfl) 2 rfl [0, 1, 3, 4] (jrI rfl rfl) hn (by decide) ?_
        generalize w32 (v2 + 1) = x3
        refine vf_ul ?_
        refine vf_iload C (zdg dz_R_findOrder_3 10 rfl) 4 rfl ?_
        refine vf_iast C sh_72 (by decide) rfl (mz := 3000) rfl (zdg dz_R_findOrder_3 11 rfl) ?_
        generalize st w 72 v2.toNat v4 = u4
        refine vf_uw ?_
        exact vf_perm [1, 2, 0, 3, 4] rfl (t_R_findOrder_142 C hn hR hr hk103 ih _ _ _ _ _)
def f_R_findOrder_103 : Nat → Int → Int → Int → Wd → Option (Int × Wd)
  | 0, _, _, _, _ => none
  | n + 1, v1, v2, v3, w =>
    if v1 < v3 then
      some (0, w)
    else
      f_R_findOrder_111 (f_R_findOrder_103 n) FU v1 v2 v3 0 w
theorem t_R_findOrder_103 {X : jX} {Qf : Int × Wd → State → Prop} {ad : Nat → Nat} (C : Cx X prog_14_method_75_code "EachBringsAnotherModel") (hn : xn X = 6) (hR : xR X = rmD 2) (hr : Rt X Qf ad prog_14_method_75_code 9) : ∀ (n : Nat) (v1 v2 v3 : Int) (w : Wd), VF X Qf ad NF 0 0 w 103 [(0, (2, 44)), (1, (0, v1)), (2, (0, v2)), (3, (0, v3))] [] (f_R_findOrder_103 n v1 v2 v3 w) := by
  intro n
  induction n with
  | zero => intros; exact vf_no
  | succ n ih =>
    intro v1 v2 v3 w
    rw [f_R_findOrder_103]
    refine vf_iload_n C (f := 3) (zdg dz_R_findOrder_2 15 rfl) 3 rfl rfl ?_
    refine vf_iload_n C (f := 1) (zdg dz_R_findOrder_2 16 rfl) 1 rfl rfl ?_
    refine vf_icmp_gt C (off := 49) (tgt := 154) (zdg dz_R_findOrder_2 17 rfl) (by decide) ?_ ?_
    · exact hr _ _ _ _ (fun h => absurd h (by decide)) (zdg dz_R_findOrder_3 16 rfl)
    · refine vf_iconst C (z := 0) (zdg dz_R_findOrder_2 18 rfl) (jz rfl) ?_
      refine vf_istore C (i := 4) (L' := [(0, (2, 44)), (1, (0, v1)), (2, (0, v2)), (3, (0, v3))]) (zdg dz_R_findOrder_2 19 rfl) [0, 1, 2, 3] (jrI rfl rfl) hn (by decide) ?_
      exact vf_perm [1, 2, 3, 4, 0] rfl (t_R_findOrder_111 C hn hR hr ih FU _ _ _ _ _)
def f_R_findOrder_65 (k4 : Int → Int → Wd → Option (Int × Wd)) (k25 : Int → Int → Int → Int → Int → Wd → Option (Int × Wd)) (v1 v2 v3 v5 s0 s1 : Int) (w : Wd) : Option (Int × Wd) :=
  jlet (w32 (s0 + s1)) fun x11 =>
  if 5 = 0 then none else
  jlet (idiv v3 5) fun x12 =>
  jlet (w32 (v5 + 1)) fun x13 =>
  k25 v1 v2 x12 x11 x13 w
theorem t_R_findOrder_65 {X : jX} {Qf : Int × Wd → State → Prop} {ad : Nat → Nat} (C : Cx X prog_14_method_75_code "EachBringsAnotherModel") (hn : xn X = 6) (hR : xR X = rmD 2) (hr : Rt X Qf ad prog_14_method_75_code 9) {k4 : Int → Int → Wd → Option (Int × Wd)} (hk4 : ∀ (v1 v2 : Int) (w : Wd), VF X Qf ad NF 0 0 w 4 [(0, (2, 44)), (1, (0, v1)), (2, (0, v2))] [] (k4 v1 v2 w)) {k25 : Int → Int → Int → Int → Int → Wd → Option (Int × Wd)} (hk25 : ∀ (v1 v2 v3 v4 v5 : Int) (w : Wd), VF X Qf ad NF 0 0 w 25 [(0, (2, 44)), (1, (0, v1)), (2, (0, v2)), (3, (0, v3)), (4, (0, v4)), (5, (0, v5))] [] (k25 v1 v2 v3 v4 v5 w)) (v1 v2 v3 v5 s0 s1 : Int) (w : Wd) : VF X Qf ad NF 0 0 w 65 [(0, (2, 44)), (1, (0, v1)), (2, (0, v2)), (3, (0, v3)), (5, (0, v5))] [(0, s1), (0, s0)] (f_R_findOrder_65 k4 k25 v1 v2 v3 v5 s0 s1 w) := by
  unfold f_R_findOrder_65
  refine vf_iadd C (zdg dz_R_findOrder_1 16 rfl) ?_
  generalize w32 (s0 + s1) = x11
  refine vf_ul ?_
  refine vf_istore C (i := 4) (L' := [(0, (2, 44)), (1, (0, v1)), (2, (0, v2)), (3, (0, v3)), (5, (0, v5))]) (zdg dz_R_findOrder_1 17 rfl) [0, 1, 2, 3, 4] (jrI rfl rfl) hn (by decide) ?_
  refine vf_iload_n C (f := 3) (zdg dz_R_findOrder_1 18 rfl) 4 rfl rfl ?_
  refine vf_iconst C (z := 5) (zdg dz_R_findOrder_1 19 rfl) (jz rfl) ?_
  refine vf_idiv C (zdg dz_R_findOrder_1 20 rfl) ?_
  generalize idiv v3 5 = x12
  refine vf_ul ?_
  refine vf_istore_n C (f := 3) (L' := [(4, (0, x11)), (0, (2, 44)), (1, (0, v1)), (2, (0, v2)), (5, (0, v5))]) (zdg dz_R_findOrder_1 21 rfl) [0, 1, 2, 3, 5] (jrI rfl rfl) hn (by decide) rfl ?_
  refine vf_iinc C (z := 1) (L' := [(3, (0, x12)), (4, (0, x11)), (0, (2, 44)), (1, (0, v1)), (2, (0, v2))]) (zdg dz_R_findOrder_1 22 rfl) 5 rfl [0, 1, 2, 3, 4] (jrI rfl rfl) hn (by decide) ?_
  generalize w32 (v5 + 1) = x13
  refine vf_ul ?_
  refine vf_goto C (off := (-50)) (tgt := 25) (zdg dz_R_findOrder_1 23 rfl) (by decide) ?_
  exact vf_perm [3, 4, 5, 1, 2, 0] rfl (hk25 _ _ _ _ _ _)
def f_R_findOrder_25 (k4 : Int → Int → Wd → Option (Int × Wd)) : Nat → Int → Int → Int → Int → Int → Wd → Option (Int × Wd)
  | 0, _, _, _, _, _, _ => none
  | n + 1, v1, v2, v3, v4, v5, w =>
    if (w 43 0) ≤ v5 then
      jgd ((0 : Int) ≤ v2 ∧ v2 < 3000) <|
      jlw (st w 73 v2.toNat v4) fun u6 =>
      jlet (imax v1 v4) fun x7 =>
      jlet (w32 (v2 + 1)) fun x8 =>
      k4 x7 x8 u6
    else
      if 5 = 0 then none else
      if (irem v3 5) = 0 then
        f_R_findOrder_65 k4 (f_R_findOrder_25 k4 n) v1 v2 v3 v5 v4 100 w
      else
        if 5 = 0 then none else
        jcall (f_R_isGuest (irem v3 5) w) fun r9 u10 =>
        if r9 = 0 then
          f_R_findOrder_65 k4 (f_R_findOrder_25 k4 n) v1 v2 v3 v5 v4 0 u10
        else
          if 5 = 0 then none else
          f_R_findOrder_65 k4 (f_R_findOrder_25 k4 n) v1 v2 v3 v5 v4 (w32 (4 - (irem v3 5))) u10
theorem t_R_findOrder_25 {X : jX} {Qf : Int × Wd → State → Prop} {ad : Nat → Nat} (C : Cx X prog_14_method_75_code "EachBringsAnotherModel") (hn : xn X = 6) (hR : xR X = rmD 2) (hr : Rt X Qf ad prog_14_method_75_code 9) {k4 : Int → Int → Wd → Option (Int × Wd)} (hk4 : ∀ (v1 v2 : Int) (w : Wd), VF X Qf ad NF 0 0 w 4 [(0, (2, 44)), (1, (0, v1)), (2, (0, v2))] [] (k4 v1 v2 w)) : ∀ (n : Nat) (v1 v2 v3 v4 v5 : Int) (w : Wd), VF X Qf ad NF 0 0 w 25 [(0, (2, 44)), (1, (0, v1)), (2, (0, v2)), (3, (0, v3)), (4, (0, v4)), (5, (0, v5))] [] (f_R_findOrder_25 k4 n v1 v2 v3 v4 v5 w) := by
  intro n
  induction n with
  | zero => intros; exact vf_no
  | succ n ih =>
    intro v1 v2 v3 v4 v5 w
    rw [f_R_findOrder_25]
    refine vf_iload C (zdg dz_R_findOrder_0 17 rfl) 5 rfl ?_
    refine vf_aload_n C (f := 0) (zdg dz_R_findOrder_0 18 rfl) 0 rfl rfl ?_
    refine vf_get C (kd := 0) fl_R_144 sh_43 rfl (by decide) rfl rfl (zdg dz_R_findOrder_0 19 rfl) ?_
    refine vf_icmp_ge C (off := 47) (tgt := 78) (zdg dz_R_findOrder_0 20 rfl) (by decide) ?_ ?_
    · refine vf_aload_n C (f := 0) (zdg dz_R_findOrder_2 0 rfl) 0 rfl rfl ?_
      refine vf_getp C fl_R_110 sh_43 rfl (by decide) rfl (x := 74) rfl (zdg dz_R_findOrder_2 1 rfl) ?_
      refine vf_iload_n C (f := 2) (zdg dz_R_findOrder_2 2 rfl) 2 rfl rfl ?_
      refine vf_iload C (zdg dz_R_findOrder_2 3 rfl) 4 rfl ?_
      refine vf_iast C sh_73 (by decide) rfl (mz := 3000) rfl (zdg dz_R_findOrder_2 4 rfl) ?_
      generalize st w 73 v2.toNat v4 = u6
      refine vf_uw ?_
      refine vf_iload_n C (f := 1) (zdg dz_R_findOrder_2 5 rfl) 1 rfl rfl ?_
      refine vf_iload C (zdg dz_R_findOrder_2 6 rfl) 4 rfl ?_
      refine vf_mmax C ml_R_267 (jrm_n hR (by decide)) ⟨Nat.zero_le _, Nat.zero_le _⟩ (Nat.le_of_ble_eq_true rfl) (zdg dz_R_findOrder_2 7 rfl) ?_
      generalize imax v1 v4 = x7
      refine vf_ul ?_
      refine vf_istore_n C (f := 1) (L' := [(0, (2, 44)), (2, (0, v2))]) (zdg dz_R_findOrder_2 8 rfl) [0, 2] (jrI rfl rfl) hn (by decide) rfl ?_
      refine vf_iinc C (z := 1) (L' := [(1, (0, x7)), (0, (2, 44))]) (zdg dz_R_findOrder_2 9 rfl) 2 rfl [0, 1] (jrI rfl rfl) hn (by decide) ?_
      generalize w32 (v2 + 1) = x8
      refine vf_ul ?_
      refine vf_goto C (off := (-92)) (tgt := 4) (zdg dz_R_findOrder_2 10 rfl) (by decide) ?_
      exact vf_perm [2, 1, 0] rfl (hk4 _ _ _)
    · refine vf_iload C (zdg dz_R_findOrder_0 21 rfl) 4 rfl ?_
      refine vf_iload_n C (f := 3) (zdg dz_R_findOrder_0 22 rfl) 3 rfl rfl ?_
      refine vf_iconst C (z := 5) (zdg dz_R_findOrder_0 23 rfl) (jz rfl) ?_
      refine vf_irem C (zdg dz_R_findOrder_1 0 rfl) ?_
      refine vf_if_ne C (off := 8) (tgt := 47) (zdg dz_R_findOrder_1 1 rfl) (by decide) ?_ ?_
      · refine vf_iload_n C (f := 3) (zdg dz_R_findOrder_1 4 rfl) 3 rfl rfl ?_
        refine vf_iconst C (z := 5) (zdg dz_R_findOrder_1 5 rfl) (jz rfl) ?_
        refine vf_irem C (zdg dz_R_findOrder_1 6 rfl) ?_
        refine vf_callSz C cy_R_isGuest ml_R_256 (ct_R_isGuest _ _) (S := [(0, v4)]) (jrm_of hR rfl) rfl rfl (Nat.le_of_ble_eq_true rfl) (zdg dz_R_findOrder_1 7 rfl) (fun r9 u10 => ?_)
        refine vf_if_eq C (off := 11) (tgt := 64) (zdg dz_R_findOrder_1 8 rfl) (by decide) ?_ ?_
        · refine vf_iconst C (z := 0) (zdg dz_R_findOrder_1 15 rfl) (jz rfl) ?_
          exact vf_perm [0, 1, 2, 3, 5] rfl (t_R_findOrder_65 C hn hR hr hk4 ih _ _ _ _ _ _ _)
        · refine vf_iconst C (z := 4) (zdg dz_R_findOrder_1 9 rfl) (jz rfl) ?_
          refine vf_iload_n C (f := 3) (zdg dz_R_findOrder_1 10 rfl) 3 rfl rfl ?_
          refine vf_iconst C (z := 5) (zdg dz_R_findOrder_1 11 rfl) (jz rfl) ?_
          refine vf_irem C (zdg dz_R_findOrder_1 12 rfl) ?_
          refine vf_isub C (zdg dz_R_findOrder_1 13 rfl) ?_
          refine vf_goto C (off := 4) (tgt := 65) (zdg dz_R_findOrder_1 14 rfl) (by decide) ?_
          exact vf_perm [0, 1, 2, 3, 5] rfl (t_R_findOrder_65 C hn hR hr hk4 ih _ _ _ _ _ _ _)
      · refine vf_bipush C (z := 100) (zdg dz_R_findOrder_1 2 rfl) (by decide +kernel) (jz rfl) ?_
        refine vf_goto C (off := 21) (tgt := 65) (zdg dz_R_findOrder_1 3 rfl) (by decide) ?_
        exact vf_perm [0, 1, 2, 3, 5] rfl (t_R_findOrder_65 C hn hR hr hk4 ih _ _ _ _ _ _ _)
def f_R_findOrder_4 : Nat → Int → Int → Wd → Option (Int × Wd)
  | 0, _, _, _ => none
  | n + 1, v1, v2, w =>
    if (w 43 40) ≤ v2 then
      f_R_findOrder_103 FU v1 0 0 w
    else
      jgd ((0 : Int) ≤ v2 ∧ v2 < 3000) <|
      jlet (w 63 v2.toNat) fun x5 =>
      f_R_findOrder_25 (f_R_findOrder_4 n) FU v1 v2 x5 0 0 w
theorem t_R_findOrder_4 {X : jX} {Qf : Int × Wd → State → Prop} {ad : Nat → Nat} (C : Cx X prog_14_method_75_code "EachBringsAnotherModel") (hn : xn X = 6) (hR : xR X = rmD 2) (hr : Rt X Qf ad prog_14_method_75_code 9) : ∀ (n : Nat) (v1 v2 : Int) (w : Wd), VF X Qf ad NF 0 0 w 4 [(0, (2, 44)), (1, (0, v1)), (2, (0, v2))] [] (f_R_findOrder_4 n v1 v2 w) := by
  intro n
  induction n with
  | zero => intros; exact vf_no
  | succ n ih =>
    intro v1 v2 w
    rw [f_R_findOrder_4]
    refine vf_iload_n C (f := 2) (zdg dz_R_findOrder_0 4 rfl) 2 rfl rfl ?_
    refine vf_aload_n C (f := 0) (zdg dz_R_findOrder_0 5 rfl) 0 rfl rfl ?_
    refine vf_get C (kd := 0) fl_R_314 sh_43 rfl (by decide) rfl rfl (zdg dz_R_findOrder_0 6 rfl) ?_
    refine vf_icmp_ge C (off := 90) (tgt := 99) (zdg dz_R_findOrder_0 7 rfl) (by decide) ?_ ?_
    · refine vf_iconst C (z := 0) (zdg dz_R_findOrder_2 11 rfl) (jz rfl) ?_
      refine vf_istore_n C (f := 2) (L' := [(0, (2, 44)), (1, (0, v1))]) (zdg dz_R_findOrder_2 12 rfl) [0, 1] (jrI rfl rfl) hn (by decide) rfl ?_
      refine vf_iconst C (z := 0) (zdg dz_R_findOrder_2 13 rfl) (jz rfl) ?_
      refine vf_istore_n C (f := 3) (L' := [(2, (0, 0)), (0, (2, 44)), (1, (0, v1))]) (zdg dz_R_findOrder_2 14 rfl) [0, 1, 2] (jrI rfl rfl) hn (by decide) rfl ?_
      exact vf_perm [2, 3, 1, 0] rfl (t_R_findOrder_103 C hn hR hr FU _ _ _ _)
    · refine vf_aload_n C (f := 0) (zdg dz_R_findOrder_0 8 rfl) 0 rfl rfl ?_
      refine vf_getp C fl_R_79 sh_43 rfl (by decide) rfl (x := 64) rfl (zdg dz_R_findOrder_0 9 rfl) ?_
      refine vf_iload_n C (f := 2) (zdg dz_R_findOrder_0 10 rfl) 2 rfl rfl ?_
      refine vf_iald C sh_63 (by decide) rfl (mz := 3000) rfl (zdg dz_R_findOrder_0 11 rfl) ?_
      generalize w 63 v2.toNat = x5
      refine vf_ul ?_
      refine vf_istore_n C (f := 3) (L' := [(0, (2, 44)), (1, (0, v1)), (2, (0, v2))]) (zdg dz_R_findOrder_0 12 rfl) [0, 1, 2] (jrI rfl rfl) hn (by decide) rfl ?_
      refine vf_iconst C (z := 0) (zdg dz_R_findOrder_0 13 rfl) (jz rfl) ?_
      refine vf_istore C (i := 4) (L' := [(3, (0, x5)), (0, (2, 44)), (1, (0, v1)), (2, (0, v2))]) (zdg dz_R_findOrder_0 14 rfl) [0, 1, 2, 3] (jrI rfl rfl) hn (by decide) ?_
      refine vf_iconst C (z := 0) (zdg dz_R_findOrder_0 15 rfl) (jz rfl) ?_
      refine vf_istore C (i := 5) (L' := [(4, (0, 0)), (3, (0, x5)), (0, (2, 44)), (1, (0, v1)), (2, (0, v2))]) (zdg dz_R_findOrder_0 16 rfl) [0, 1, 2, 3, 4] (jrI rfl rfl) hn (by decide) ?_
      exact vf_perm [3, 4, 5, 2, 1, 0] rfl (t_R_findOrder_25 C hn hR hr ih FU _ _ _ _ _ _)
def f_R_findOrder (w : Wd) : Option (Int × Wd) :=
  f_R_findOrder_4 FU 0 0 w
theorem ct_R_findOrder (w : Wd) : Ct y_R_findOrder prog_14_method_75_code 6 none 2 9 [(2, 44)] w (f_R_findOrder w) := by
  refine ct_of (by decide +kernel) (Or.inr (Or.inr (Or.inr ⟨rfl, rfl⟩))) (Nat.le_of_ble_eq_true rfl) ?_
  intro X Qf ad C hn hR hr
  unfold f_R_findOrder
  show VF X Qf ad NF 0 0 w 0 [(0, (2, 44))] [] _
  refine vf_iconst C (z := 0) (zdg dz_R_findOrder_0 0 rfl) (jz rfl) ?_
  refine vf_istore_n C (f := 1) (L' := [(0, (2, 44))]) (zdg dz_R_findOrder_0 1 rfl) [0] (jrI rfl rfl) hn (by decide) rfl ?_
  refine vf_iconst C (z := 0) (zdg dz_R_findOrder_0 2 rfl) (jz rfl) ?_
  refine vf_istore_n C (f := 2) (L' := [(1, (0, 0)), (0, (2, 44))]) (zdg dz_R_findOrder_0 3 rfl) [0, 1] (jrI rfl rfl) hn (by decide) rfl ?_
  exact vf_perm [2, 1, 0] rfl (t_R_findOrder_4 C hn hR hr FU _ _ _)
def f_R_findLife_104 (k6 : Int → Int → Wd → Option (Int × Wd)) (v1 v2 : Int) (w : Wd) : Option (Int × Wd) :=
  jlet (w32 (v2 + 1)) fun x9 =>
  k6 v1 x9 w
theorem t_R_findLife_104 {X : jX} {Qf : Int × Wd → State → Prop} {ad : Nat → Nat} (C : Cx X prog_14_method_76_code "EachBringsAnotherModel") (hn : xn X = 5) (hR : xR X = rmD 3) (hr : Rt X Qf ad prog_14_method_76_code 9) {k6 : Int → Int → Wd → Option (Int × Wd)} (hk6 : ∀ (v1 v2 : Int) (w : Wd), VF X Qf ad NF 0 0 w 6 [(0, (2, 44)), (1, (0, v1)), (2, (0, v2))] [] (k6 v1 v2 w)) (v1 v2 : Int) (w : Wd) : VF X Qf ad NF 0 0 w 104 [(0, (2, 44)), (1, (0, v1)), (2, (0, v2))] [] (f_R_findLife_104 k6 v1 v2 w) := by
  unfold f_R_findLife_104
  refine vf_iinc C (z := 1) (L' := [(0, (2, 44)), (1, (0, v1))]) (zdg dz_R_findLife_2 15 rfl) 2 rfl [0, 1] (jrI rfl rfl) hn (by decide) ?_
  generalize w32 (v2 + 1) = x9
  refine vf_ul ?_
  refine vf_goto C (off := (-101)) (tgt := 6) (zdg dz_R_findLife_2 16 rfl) (by decide) ?_
  exact vf_perm [1, 2, 0] rfl (hk6 _ _ _)
def f_R_findLife_56 (k6 : Int → Int → Wd → Option (Int × Wd)) : Nat → Int → Int → Int → Int → Wd → Option (Int × Wd)
  | 0, _, _, _, _, _ => none
  | n + 1, v1, v2, v3, v4, w =>
    jgd ((0 : Int) ≤ (w32 (v3 + 1)) ∧ (w32 (v3 + 1)) < 3001) <|
    if (w 64 (w32 (v3 + 1)).toNat) ≤ v4 then
      f_R_findLife_104 k6 v1 v2 w
    else
      jgd ((0 : Int) ≤ v3 ∧ v3 < 3000) <|
      jgd ((0 : Int) ≤ v4 ∧ v4 < 756000) <|
      jgd ((0 : Int) ≤ (w 65 v4.toNat) ∧ (w 65 v4.toNat) < 3000) <|
      jgd ((0 : Int) ≤ v3 ∧ v3 < 3000) <|
      jlw (st w 71 v3.toNat ((imax (w 71 v3.toNat) (w32 ((w 71 (w 65 v4.toNat).toNat) + 1))))) fun u10 =>
      jlet (w32 (v4 + 1)) fun x11 =>
      f_R_findLife_56 k6 n v1 v2 v3 x11 u10
theorem t_R_findLife_56 {X : jX} {Qf : Int × Wd → State → Prop} {ad : Nat → Nat} (C : Cx X prog_14_method_76_code "EachBringsAnotherModel") (hn : xn X = 5) (hR : xR X = rmD 3) (hr : Rt X Qf ad prog_14_method_76_code 9) {k6 : Int → Int → Wd → Option (Int × Wd)} (hk6 : ∀ (v1 v2 : Int) (w : Wd), VF X Qf ad NF 0 0 w 6 [(0, (2, 44)), (1, (0, v1)), (2, (0, v2))] [] (k6 v1 v2 w)) : ∀ (n : Nat) (v1 v2 v3 v4 : Int) (w : Wd), VF X Qf ad NF 0 0 w 56 [(0, (2, 44)), (1, (0, v1)), (2, (0, v2)), (3, (0, v3)), (4, (0, v4))] [] (f_R_findLife_56 k6 n v1 v2 v3 v4 w) := by
  intro n
  induction n with
  | zero => intros; exact vf_no
  | succ n ih =>
    intro v1 v2 v3 v4 w
    rw [f_R_findLife_56]
    refine vf_iload C (zdg dz_R_findLife_1 11 rfl) 4 rfl ?_
    refine vf_aload_n C (f := 0) (zdg dz_R_findLife_1 12 rfl) 0 rfl rfl ?_
    refine vf_getp C fl_R_82 sh_43 rfl (by decide) rfl (x := 65) rfl (zdg dz_R_findLife_1 13 rfl) ?_
    refine vf_iload_n C (f := 3) (zdg dz_R_findLife_1 14 rfl) 3 rfl rfl ?_
    refine vf_iconst C (z := 1) (zdg dz_R_findLife_1 15 rfl) (jz rfl) ?_
    refine vf_iadd C (zdg dz_R_findLife_1 16 rfl) ?_
    refine vf_iald C sh_64 (by decide) rfl (mz := 3001) rfl (zdg dz_R_findLife_1 17 rfl) ?_
    refine vf_icmp_ge C (off := 38) (tgt := 104) (zdg dz_R_findLife_1 18 rfl) (by decide) ?_ ?_
    · exact vf_perm [0, 1, 2] rfl (t_R_findLife_104 C hn hR hr hk6 _ _ _)
    · refine vf_aload_n C (f := 0) (zdg dz_R_findLife_1 19 rfl) 0 rfl rfl ?_
      refine vf_getp C fl_R_104 sh_43 rfl (by decide) rfl (x := 72) rfl (zdg dz_R_findLife_1 20 rfl) ?_
      refine vf_iload_n C (f := 3) (zdg dz_R_findLife_1 21 rfl) 3 rfl rfl ?_
      refine vf_aload_n C (f := 0) (zdg dz_R_findLife_1 22 rfl) 0 rfl rfl ?_
      refine vf_getp C fl_R_104 sh_43 rfl (by decide) rfl (x := 72) rfl (zdg dz_R_findLife_1 23 rfl) ?_
      refine vf_iload_n C (f := 3) (zdg dz_R_findLife_2 0 rfl) 3 rfl rfl ?_
      refine vf_iald C sh_71 (by decide) rfl (mz := 3000) rfl (zdg dz_R_findLife_2 1 rfl) ?_
      refine vf_aload_n C (f := 0) (zdg dz_R_findLife_2 2 rfl) 0 rfl rfl ?_
      refine vf_getp C fl_R_104 sh_43 rfl (by decide) rfl (x := 72) rfl (zdg dz_R_findLife_2 3 rfl) ?_
      refine vf_aload_n C (f := 0) (zdg dz_R_findLife_2 4 rfl) 0 rfl rfl ?_
      refine vf_getp C fl_R_86 sh_43 rfl (by decide) rfl (x := 66) rfl (zdg dz_R_findLife_2 5 rfl) ?_
      refine vf_iload C (zdg dz_R_findLife_2 6 rfl) 4 rfl ?_
      refine vf_iald C sh_65 (by decide) rfl (mz := 756000) rfl (zdg dz_R_findLife_2 7 rfl) ?_
      refine vf_iald C sh_71 (by decide) rfl (mz := 3000) rfl (zdg dz_R_findLife_2 8 rfl) ?_
      refine vf_iconst C (z := 1) (zdg dz_R_findLife_2 9 rfl) (jz rfl) ?_
      refine vf_iadd C (zdg dz_R_findLife_2 10 rfl) ?_
      refine vf_mmax C ml_R_267 (jrm_n hR (by decide)) ⟨Nat.zero_le _, Nat.zero_le _⟩ (Nat.le_of_ble_eq_true rfl) (zdg dz_R_findLife_2 11 rfl) ?_
      refine vf_iast C sh_71 (by decide) rfl (mz := 3000) rfl (zdg dz_R_findLife_2 12 rfl) ?_
      generalize st w 71 v3.toNat ((imax (w 71 v3.toNat) (w32 ((w 71 (w 65 v4.toNat).toNat) + 1)))) = u10
      refine vf_uw ?_
      refine vf_iinc C (z := 1) (L' := [(0, (2, 44)), (1, (0, v1)), (2, (0, v2)), (3, (0, v3))]) (zdg dz_R_findLife_2 13 rfl) 4 rfl [0, 1, 2, 3] (jrI rfl rfl) hn (by decide) ?_
      generalize w32 (v4 + 1) = x11
      refine vf_ul ?_
      refine vf_goto C (off := (-45)) (tgt := 56) (zdg dz_R_findLife_2 14 rfl) (by decide) ?_
      exact vf_perm [1, 2, 3, 4, 0] rfl (ih _ _ _ _ _)
def f_R_findLife_6 : Nat → Int → Int → Wd → Option (Int × Wd)
  | 0, _, _, _ => none
  | n + 1, v1, v2, w =>
    if (w 43 40) ≤ v2 then
      some (0, w)
    else
      jgd ((0 : Int) ≤ v2 ∧ v2 < 3000) <|
      jlet (w 72 v2.toNat) fun x3 =>
      jgd ((0 : Int) ≤ x3 ∧ x3 < 3000) <|
      jlw (st w 71 x3.toNat (-1)) fun u4 =>
      jcall (f_R_guestsIn x3 u4) fun r5 u6 =>
      if (iand r5 v1) = 0 then
        f_R_findLife_104 (f_R_findLife_6 n) v1 v2 u6
      else
        jgd ((0 : Int) ≤ x3 ∧ x3 < 3000) <|
        jlw (st u6 71 x3.toNat 0) fun u7 =>
        jgd ((0 : Int) ≤ x3 ∧ x3 < 3001) <|
        jlet (u7 64 x3.toNat) fun x8 =>
        f_R_findLife_56 (f_R_findLife_6 n) FU v1 v2 x3 x8 u7
theorem t_R_findLife_6 {X : jX} {Qf : Int × Wd → State → Prop} {ad : Nat → Nat} (C : Cx X prog_14_method_76_code "EachBringsAnotherModel") (hn : xn X = 5) (hR : xR X = rmD 3) (hr : Rt X Qf ad prog_14_method_76_code 9) : ∀ (n : Nat) (v1 v2 : Int) (w : Wd), VF X Qf ad NF 0 0 w 6 [(0, (2, 44)), (1, (0, v1)), (2, (0, v2))] [] (f_R_findLife_6 n v1 v2 w) := by
  intro n
  induction n with
  | zero => intros; exact vf_no
  | succ n ih =>
    intro v1 v2 w
    rw [f_R_findLife_6]
    refine vf_iload_n C (f := 2) (zdg dz_R_findLife_0 4 rfl) 2 rfl rfl ?_
    refine vf_aload_n C (f := 0) (zdg dz_R_findLife_0 5 rfl) 0 rfl rfl ?_
    refine vf_get C (kd := 0) fl_R_314 sh_43 rfl (by decide) rfl rfl (zdg dz_R_findLife_0 6 rfl) ?_
    refine vf_icmp_ge C (off := 99) (tgt := 110) (zdg dz_R_findLife_0 7 rfl) (by decide) ?_ ?_
    · exact hr _ _ _ _ (fun h => absurd h (by decide)) (zdg dz_R_findLife_2 17 rfl)
    · refine vf_aload_n C (f := 0) (zdg dz_R_findLife_0 8 rfl) 0 rfl rfl ?_
      refine vf_getp C fl_R_107 sh_43 rfl (by decide) rfl (x := 73) rfl (zdg dz_R_findLife_0 9 rfl) ?_
      refine vf_iload_n C (f := 2) (zdg dz_R_findLife_0 10 rfl) 2 rfl rfl ?_
      refine vf_iald C sh_72 (by decide) rfl (mz := 3000) rfl (zdg dz_R_findLife_0 11 rfl) ?_
      generalize w 72 v2.toNat = x3
      refine vf_ul ?_
      refine vf_istore_n C (f := 3) (L' := [(0, (2, 44)), (1, (0, v1)), (2, (0, v2))]) (zdg dz_R_findLife_0 12 rfl) [0, 1, 2] (jrI rfl rfl) hn (by decide) rfl ?_
      refine vf_aload_n C (f := 0) (zdg dz_R_findLife_0 13 rfl) 1 rfl rfl ?_
      refine vf_getp C fl_R_104 sh_43 rfl (by decide) rfl (x := 72) rfl (zdg dz_R_findLife_0 14 rfl) ?_
      refine vf_iload_n C (f := 3) (zdg dz_R_findLife_0 15 rfl) 0 rfl rfl ?_
      refine vf_iconst C (z := (-1)) (zdg dz_R_findLife_0 16 rfl) (jz rfl) ?_
      refine vf_iast C sh_71 (by decide) rfl (mz := 3000) rfl (zdg dz_R_findLife_0 17 rfl) ?_
      generalize st w 71 x3.toNat (-1) = u4
      refine vf_uw ?_
      refine vf_aload_n C (f := 0) (zdg dz_R_findLife_0 18 rfl) 1 rfl rfl ?_
      refine vf_iload_n C (f := 3) (zdg dz_R_findLife_0 19 rfl) 0 rfl rfl ?_
      refine vf_callVi C cy_R_guestsIn ml_R_345 rfl (ct_R_guestsIn _ _) (S := []) sh_43 (by decide) rfl (jrm_of hR rfl) rfl rfl (Nat.le_of_ble_eq_true rfl) (zdg dz_R_findLife_0 20 rfl) (fun r5 u6 => ?_)
      refine vf_iload_n C (f := 1) (zdg dz_R_findLife_0 21 rfl) 2 rfl rfl ?_
      refine vf_iand C (zdg dz_R_findLife_0 22 rfl) ?_
      refine vf_if_ne C (off := 6) (tgt := 41) (zdg dz_R_findLife_0 23 rfl) (by decide) ?_ ?_
      · refine vf_aload_n C (f := 0) (zdg dz_R_findLife_1 1 rfl) 1 rfl rfl ?_
        refine vf_getp C fl_R_104 sh_43 rfl (by decide) rfl (x := 72) rfl (zdg dz_R_findLife_1 2 rfl) ?_
        refine vf_iload_n C (f := 3) (zdg dz_R_findLife_1 3 rfl) 0 rfl rfl ?_
        refine vf_iconst C (z := 0) (zdg dz_R_findLife_1 4 rfl) (jz rfl) ?_
        refine vf_iast C sh_71 (by decide) rfl (mz := 3000) rfl (zdg dz_R_findLife_1 5 rfl) ?_
        generalize st u6 71 x3.toNat 0 = u7
        refine vf_uw ?_
        refine vf_aload_n C (f := 0) (zdg dz_R_findLife_1 6 rfl) 1 rfl rfl ?_
        refine vf_getp C fl_R_82 sh_43 rfl (by decide) rfl (x := 65) rfl (zdg dz_R_findLife_1 7 rfl) ?_
        refine vf_iload_n C (f := 3) (zdg dz_R_findLife_1 8 rfl) 0 rfl rfl ?_
        refine vf_iald C sh_64 (by decide) rfl (mz := 3001) rfl (zdg dz_R_findLife_1 9 rfl) ?_
        generalize u7 64 x3.toNat = x8
        refine vf_ul ?_
        refine vf_istore C (i := 4) (L' := [(3, (0, x3)), (0, (2, 44)), (1, (0, v1)), (2, (0, v2))]) (zdg dz_R_findLife_1 10 rfl) [0, 1, 2, 3] (jrI rfl rfl) hn (by decide) ?_
        exact vf_perm [2, 3, 4, 1, 0] rfl (t_R_findLife_56 C hn hR hr ih FU _ _ _ _ _)
      · refine vf_goto C (off := 66) (tgt := 104) (zdg dz_R_findLife_1 0 rfl) (by decide) ?_
        exact vf_perm [1, 2, 3] rfl (t_R_findLife_104 C hn hR hr ih _ _ _)
def f_R_findLife (v1 : Int) (w : Wd) : Option (Int × Wd) :=
  jcall (f_R_findOrder w) fun r1 u2 =>
  f_R_findLife_6 FU v1 0 u2
theorem ct_R_findLife (v1 : Int) (w : Wd) : Ct y_R_findLife prog_14_method_76_code 5 none 3 9 [(2, 44), (0, v1)] w (f_R_findLife v1 w) := by
  refine ct_of (by decide +kernel) (Or.inr (Or.inr (Or.inr ⟨rfl, rfl⟩))) (Nat.le_of_ble_eq_true rfl) ?_
  intro X Qf ad C hn hR hr
  unfold f_R_findLife
  show VF X Qf ad NF 0 0 w 0 [(0, (2, 44)), (1, (0, v1))] [] _
  refine vf_aload_n C (f := 0) (zdg dz_R_findLife_0 0 rfl) 0 rfl rfl ?_
  refine vf_callVv C cy_R_findOrder ml_R_367 rfl (ct_R_findOrder _) (S := []) sh_43 (by decide) rfl (jrm_of hR rfl) rfl rfl (Nat.le_of_ble_eq_true rfl) (zdg dz_R_findLife_0 1 rfl) (fun r1 u2 => ?_)
  refine vf_iconst C (z := 0) (zdg dz_R_findLife_0 2 rfl) (jz rfl) ?_
  refine vf_istore_n C (f := 2) (L' := [(0, (2, 44)), (1, (0, v1))]) (zdg dz_R_findLife_0 3 rfl) [0, 1] (jrI rfl rfl) hn (by decide) rfl ?_
  exact vf_perm [1, 2, 0] rfl (t_R_findLife_6 C hn hR hr FU _ _ _)
def f_R_all (w : Wd) : Option (Int × Wd) :=
  some (w32 ((ishl 1 (w 43 0)) - 1), w)
theorem ct_R_all (w : Wd) : Ct y_R_all prog_14_method_77_code 1 (some .int) 1 0 [(2, 44)] w (f_R_all w) := by
  refine ct_of (by decide +kernel) (Or.inl ⟨rfl, rfl⟩) (Nat.le_of_ble_eq_true rfl) ?_
  intro X Qf ad C hn hR hr
  unfold f_R_all
  show VF X Qf ad NF 0 0 w 0 [(0, (2, 44))] [] _
  refine vf_iconst C (z := 1) (zdg dz_R_all_0 0 rfl) (jz rfl) ?_
  refine vf_aload_n C (f := 0) (zdg dz_R_all_0 1 rfl) 0 rfl rfl ?_
  refine vf_get C (kd := 0) fl_R_144 sh_43 rfl (by decide) rfl rfl (zdg dz_R_all_0 2 rfl) ?_
  refine vf_ishl C (zdg dz_R_all_0 3 rfl) ?_
  refine vf_iconst C (z := 1) (zdg dz_R_all_0 4 rfl) (jz rfl) ?_
  refine vf_isub C (zdg dz_R_all_0 5 rfl) ?_
  exact hr _ _ _ _ (fun h => absurd h (by decide)) (zdg dz_R_all_0 6 rfl)
def f_R_last_106 (k65 : Int → Int → Int → Wd → Option (Int × Wd)) (v1 v2 v3 : Int) (w : Wd) : Option (Int × Wd) :=
  jlet (w32 (v3 + 1)) fun x14 =>
  k65 v1 v2 x14 w
theorem t_R_last_106 {X : jX} {Qf : Int × Wd → State → Prop} {ad : Nat → Nat} (C : Cx X prog_14_method_78_code "EachBringsAnotherModel") (hn : xn X = 4) (hR : xR X = rmD 20) (hr : Rt X Qf ad prog_14_method_78_code 0) {k65 : Int → Int → Int → Wd → Option (Int × Wd)} (hk65 : ∀ (v1 v2 v3 : Int) (w : Wd), VF X Qf ad NF 0 0 w 65 [(0, (2, 44)), (1, (0, v1)), (2, (0, v2)), (3, (0, v3))] [] (k65 v1 v2 v3 w)) (v1 v2 v3 : Int) (w : Wd) : VF X Qf ad NF 0 0 w 106 [(0, (2, 44)), (1, (0, v1)), (2, (0, v2)), (3, (0, v3))] [] (f_R_last_106 k65 v1 v2 v3 w) := by
  unfold f_R_last_106
  refine vf_iinc C (z := 1) (L' := [(0, (2, 44)), (1, (0, v1)), (2, (0, v2))]) (zdg dz_R_last_2 10 rfl) 3 rfl [0, 1, 2] (jrI rfl rfl) hn (by decide) ?_
  generalize w32 (v3 + 1) = x14
  refine vf_ul ?_
  refine vf_goto C (off := (-44)) (tgt := 65) (zdg dz_R_last_2 11 rfl) (by decide) ?_
  exact vf_perm [1, 2, 3, 0] rfl (hk65 _ _ _ _)
def f_R_last_65 : Nat → Int → Int → Int → Wd → Option (Int × Wd)
  | 0, _, _, _, _ => none
  | n + 1, v1, v2, v3, w =>
    if (w 43 40) ≤ v3 then
      jlw (st w 43 15 0) fun u11 =>
      jcall (f_R_tell v2 u11) fun r12 u13 =>
      some (v1, u13)
    else
      jgd ((0 : Int) ≤ v3 ∧ v3 < 3000) <|
      if (1000000 : Int) ≤ (w 69 v3.toNat) then
        f_R_last_106 (f_R_last_65 n) v1 v2 v3 w
      else
        jcall (f_R_guestsIn v3 w) fun r15 u16 =>
        if r15 = 0 then
          f_R_last_106 (f_R_last_65 n) v1 v2 v3 u16
        else
          jcall (f_R_guestsIn v3 u16) fun r17 u18 =>
          jcall (f_JI_bitCount r17 u18) fun r19 u20 =>
          jlet (imin v2 r19) fun x21 =>
          f_R_last_106 (f_R_last_65 n) v1 x21 v3 u20
theorem t_R_last_65 {X : jX} {Qf : Int × Wd → State → Prop} {ad : Nat → Nat} (C : Cx X prog_14_method_78_code "EachBringsAnotherModel") (hn : xn X = 4) (hR : xR X = rmD 20) (hr : Rt X Qf ad prog_14_method_78_code 0) : ∀ (n : Nat) (v1 v2 v3 : Int) (w : Wd), VF X Qf ad NF 0 0 w 65 [(0, (2, 44)), (1, (0, v1)), (2, (0, v2)), (3, (0, v3))] [] (f_R_last_65 n v1 v2 v3 w) := by
  intro n
  induction n with
  | zero => intros; exact vf_no
  | succ n ih =>
    intro v1 v2 v3 w
    rw [f_R_last_65]
    refine vf_iload_n C (f := 3) (zdg dz_R_last_1 13 rfl) 3 rfl rfl ?_
    refine vf_aload_n C (f := 0) (zdg dz_R_last_1 14 rfl) 0 rfl rfl ?_
    refine vf_get C (kd := 0) fl_R_314 sh_43 rfl (by decide) rfl rfl (zdg dz_R_last_1 15 rfl) ?_
    refine vf_icmp_ge C (off := 42) (tgt := 112) (zdg dz_R_last_1 16 rfl) (by decide) ?_ ?_
    · refine vf_aload_n C (f := 0) (zdg dz_R_last_2 12 rfl) 0 rfl rfl ?_
      refine vf_iconst C (z := 0) (zdg dz_R_last_2 13 rfl) (jz rfl) ?_
      refine vf_put C (kd := 0) fl_R_141 fk_11_15 sh_43 rfl (by decide) rfl rfl (by decide) (zdg dz_R_last_2 14 rfl) ?_
      generalize st w 43 15 0 = u11
      refine vf_uw ?_
      refine vf_aload_n C (f := 0) (zdg dz_R_last_2 15 rfl) 0 rfl rfl ?_
      refine vf_iload_n C (f := 2) (zdg dz_R_last_2 16 rfl) 2 rfl rfl ?_
      refine vf_callVv C cy_R_tell ml_R_304 rfl (ct_R_tell _ _) (S := []) sh_43 (by decide) rfl (jrm_of hR rfl) rfl rfl (Nat.le_of_ble_eq_true rfl) (zdg dz_R_last_2 17 rfl) (fun r12 u13 => ?_)
      refine vf_iload_n C (f := 1) (zdg dz_R_last_2 18 rfl) 1 rfl rfl ?_
      exact hr _ _ _ _ (fun h => absurd h (by decide)) (zdg dz_R_last_2 19 rfl)
    · refine vf_aload_n C (f := 0) (zdg dz_R_last_1 17 rfl) 0 rfl rfl ?_
      refine vf_getp C fl_R_98 sh_43 rfl (by decide) rfl (x := 70) rfl (zdg dz_R_last_1 18 rfl) ?_
      refine vf_iload_n C (f := 3) (zdg dz_R_last_1 19 rfl) 3 rfl rfl ?_
      refine vf_iald C sh_69 (by decide) rfl (mz := 3000) rfl (zdg dz_R_last_1 20 rfl) ?_
      refine vf_ldcw C (z := 1000000) (i := 348) (zdg dz_R_last_1 21 rfl) kc_R_348 (by decide +kernel) (jz rfl) ?_
      refine vf_icmp_ge C (off := 24) (tgt := 106) (zdg dz_R_last_1 22 rfl) (by decide) ?_ ?_
      · exact t_R_last_106 C hn hR hr ih _ _ _ _
      · refine vf_aload_n C (f := 0) (zdg dz_R_last_1 23 rfl) 0 rfl rfl ?_
        refine vf_iload_n C (f := 3) (zdg dz_R_last_2 0 rfl) 3 rfl rfl ?_
        refine vf_callVi C cy_R_guestsIn ml_R_345 rfl (ct_R_guestsIn _ _) (S := []) sh_43 (by decide) rfl (jrm_of hR rfl) rfl rfl (Nat.le_of_ble_eq_true rfl) (zdg dz_R_last_2 1 rfl) (fun r15 u16 => ?_)
        refine vf_if_eq C (off := 16) (tgt := 106) (zdg dz_R_last_2 2 rfl) (by decide) ?_ ?_
        · exact t_R_last_106 C hn hR hr ih _ _ _ _
        · refine vf_iload_n C (f := 2) (zdg dz_R_last_2 3 rfl) 2 rfl rfl ?_
          refine vf_aload_n C (f := 0) (zdg dz_R_last_2 4 rfl) 0 rfl rfl ?_
          refine vf_iload_n C (f := 3) (zdg dz_R_last_2 5 rfl) 3 rfl rfl ?_
          refine vf_callVi C cy_R_guestsIn ml_R_345 rfl (ct_R_guestsIn _ _) (S := [(0, v2)]) sh_43 (by decide) rfl (jrm_of hR rfl) rfl rfl (Nat.le_of_ble_eq_true rfl) (zdg dz_R_last_2 6 rfl) (fun r17 u18 => ?_)
          refine vf_callSi C cy_JI_bitCount ml_R_242 (ct_JI_bitCount _ _) (S := [(0, v2)]) (jrm_of hR rfl) rfl rfl (Nat.le_of_ble_eq_true rfl) (zdg dz_R_last_2 7 rfl) (fun r19 u20 => ?_)
          refine vf_mmin C ml_R_262 (jrm_n hR (by decide)) ⟨Nat.zero_le _, Nat.zero_le _⟩ (Nat.le_of_ble_eq_true rfl) (zdg dz_R_last_2 8 rfl) ?_
          generalize imin v2 r19 = x21
          refine vf_ul ?_
          refine vf_istore_n C (f := 2) (L' := [(0, (2, 44)), (1, (0, v1)), (3, (0, v3))]) (zdg dz_R_last_2 9 rfl) [0, 1, 3] (jrI rfl rfl) hn (by decide) rfl ?_
          exact vf_perm [1, 2, 0, 3] rfl (t_R_last_106 C hn hR hr ih _ _ _ _)
def f_R_last_44 : Nat → Int → Int → Wd → Option (Int × Wd)
  | 0, _, _, _ => none
  | n + 1, v1, v2, w =>
    if v1 ≤ v2 then
      f_R_last_65 FU v1 1000000 0 w
    else
      jcall (f_R_goOneWeek w) fun r22 u23 =>
      jlet (w32 (v2 + 1)) fun x24 =>
      f_R_last_44 n v1 x24 u23
theorem t_R_last_44 {X : jX} {Qf : Int × Wd → State → Prop} {ad : Nat → Nat} (C : Cx X prog_14_method_78_code "EachBringsAnotherModel") (hn : xn X = 4) (hR : xR X = rmD 20) (hr : Rt X Qf ad prog_14_method_78_code 0) : ∀ (n : Nat) (v1 v2 : Int) (w : Wd), VF X Qf ad NF 0 0 w 44 [(0, (2, 44)), (1, (0, v1)), (2, (0, v2))] [] (f_R_last_44 n v1 v2 w) := by
  intro n
  induction n with
  | zero => intros; exact vf_no
  | succ n ih =>
    intro v1 v2 w
    rw [f_R_last_44]
    refine vf_iload_n C (f := 2) (zdg dz_R_last_1 2 rfl) 2 rfl rfl ?_
    refine vf_iload_n C (f := 1) (zdg dz_R_last_1 3 rfl) 1 rfl rfl ?_
    refine vf_icmp_ge C (off := 13) (tgt := 59) (zdg dz_R_last_1 4 rfl) (by decide) ?_ ?_
    · refine vf_ldcw C (z := 1000000) (i := 348) (zdg dz_R_last_1 9 rfl) kc_R_348 (by decide +kernel) (jz rfl) ?_
      refine vf_istore_n C (f := 2) (L' := [(0, (2, 44)), (1, (0, v1))]) (zdg dz_R_last_1 10 rfl) [0, 1] (jrI rfl rfl) hn (by decide) rfl ?_
      refine vf_iconst C (z := 0) (zdg dz_R_last_1 11 rfl) (jz rfl) ?_
      refine vf_istore_n C (f := 3) (L' := [(2, (0, 1000000)), (0, (2, 44)), (1, (0, v1))]) (zdg dz_R_last_1 12 rfl) [0, 1, 2] (jrI rfl rfl) hn (by decide) rfl ?_
      exact vf_perm [2, 3, 1, 0] rfl (t_R_last_65 C hn hR hr FU _ _ _ _)
    · refine vf_aload_n C (f := 0) (zdg dz_R_last_1 5 rfl) 0 rfl rfl ?_
      refine vf_callVv C cy_R_goOneWeek ml_R_355 rfl (ct_R_goOneWeek _) (S := []) sh_43 (by decide) rfl (jrm_of hR rfl) rfl rfl (Nat.le_of_ble_eq_true rfl) (zdg dz_R_last_1 6 rfl) (fun r22 u23 => ?_)
      refine vf_iinc C (z := 1) (L' := [(0, (2, 44)), (1, (0, v1))]) (zdg dz_R_last_1 7 rfl) 2 rfl [0, 1] (jrI rfl rfl) hn (by decide) ?_
      generalize w32 (v2 + 1) = x24
      refine vf_ul ?_
      refine vf_goto C (off := (-12)) (tgt := 44) (zdg dz_R_last_1 8 rfl) (by decide) ?_
      exact vf_perm [1, 2, 0] rfl (ih _ _ _)
def f_R_last (w : Wd) : Option (Int × Wd) :=
  jlw (st w 43 16 0) fun u1 =>
  jcall (f_R_findStates 0 u1) fun r2 u3 =>
  if r2 = 0 then
    some ((-3), u3)
  else
    jcall (f_R_all u3) fun r4 u5 =>
    jcall (f_R_findLife r4 u5) fun r6 u7 =>
    jgd ((0 : Int) ≤ (0 : Int) ∧ (0 : Int) < 3000) <|
    jlet (u7 71 (0 : Int).toNat) fun x8 =>
    if (0 : Int) ≤ x8 then
      jcall (f_R_beginWeeks u7) fun r9 u10 =>
      f_R_last_44 FU x8 0 u10
    else
      some ((-2), u7)
theorem ct_R_last (w : Wd) : Ct y_R_last prog_14_method_78_code 4 (some .int) 20 0 [(2, 44)] w (f_R_last w) := by
  refine ct_of (by decide +kernel) (Or.inl ⟨rfl, rfl⟩) (Nat.le_of_ble_eq_true rfl) ?_
  intro X Qf ad C hn hR hr
  unfold f_R_last
  show VF X Qf ad NF 0 0 w 0 [(0, (2, 44))] [] _
  refine vf_aload_n C (f := 0) (zdg dz_R_last_0 0 rfl) 0 rfl rfl ?_
  refine vf_iconst C (z := 0) (zdg dz_R_last_0 1 rfl) (jz rfl) ?_
  refine vf_put C (kd := 0) fl_R_138 fk_11_16 sh_43 rfl (by decide) rfl rfl (by decide) (zdg dz_R_last_0 2 rfl) ?_
  generalize st w 43 16 0 = u1
  refine vf_uw ?_
  refine vf_aload_n C (f := 0) (zdg dz_R_last_0 3 rfl) 0 rfl rfl ?_
  refine vf_iconst C (z := 0) (zdg dz_R_last_0 4 rfl) (jz rfl) ?_
  refine vf_callVz C cy_R_findStates ml_R_342 rfl (ct_R_findStates _ _) (S := []) sh_43 (by decide) rfl (jrm_of hR rfl) rfl rfl (Nat.le_of_ble_eq_true rfl) (zdg dz_R_last_0 5 rfl) (fun r2 u3 => ?_)
  refine vf_if_ne C (off := 6) (tgt := 16) (zdg dz_R_last_0 6 rfl) (by decide) ?_ ?_
  · refine vf_aload_n C (f := 0) (zdg dz_R_last_0 9 rfl) 0 rfl rfl ?_
    refine vf_aload_n C (f := 0) (zdg dz_R_last_0 10 rfl) 0 rfl rfl ?_
    refine vf_callVi C cy_R_all ml_R_370 rfl (ct_R_all _) (S := [(2, 44)]) sh_43 (by decide) rfl (jrm_of hR rfl) rfl rfl (Nat.le_of_ble_eq_true rfl) (zdg dz_R_last_0 11 rfl) (fun r4 u5 => ?_)
    refine vf_callVv C cy_R_findLife ml_R_373 rfl (ct_R_findLife _ _) (S := []) sh_43 (by decide) rfl (jrm_of hR rfl) rfl rfl (Nat.le_of_ble_eq_true rfl) (zdg dz_R_last_0 12 rfl) (fun r6 u7 => ?_)
    refine vf_aload_n C (f := 0) (zdg dz_R_last_0 13 rfl) 0 rfl rfl ?_
    refine vf_getp C fl_R_104 sh_43 rfl (by decide) rfl (x := 72) rfl (zdg dz_R_last_0 14 rfl) ?_
    refine vf_iconst C (z := 0) (zdg dz_R_last_0 15 rfl) (jz rfl) ?_
    refine vf_iald C sh_71 (by decide) rfl (mz := 3000) rfl (zdg dz_R_last_0 16 rfl) ?_
    generalize u7 71 (0 : Int).toNat = x8
    refine vf_ul ?_
    refine vf_istore_n C (f := 1) (L' := [(0, (2, 44))]) (zdg dz_R_last_0 17 rfl) [0] (jrI rfl rfl) hn (by decide) rfl ?_
    refine vf_iload_n C (f := 1) (zdg dz_R_last_0 18 rfl) 0 rfl rfl ?_
    refine vf_if_ge C (off := 6) (tgt := 38) (zdg dz_R_last_0 19 rfl) (by decide) ?_ ?_
    · refine vf_aload_n C (f := 0) (zdg dz_R_last_0 22 rfl) 1 rfl rfl ?_
      refine vf_callVv C cy_R_beginWeeks ml_R_352 rfl (ct_R_beginWeeks _) (S := []) sh_43 (by decide) rfl (jrm_of hR rfl) rfl rfl (Nat.le_of_ble_eq_true rfl) (zdg dz_R_last_0 23 rfl) (fun r9 u10 => ?_)
      refine vf_iconst C (z := 0) (zdg dz_R_last_1 0 rfl) (jz rfl) ?_
      refine vf_istore_n C (f := 2) (L' := [(1, (0, x8)), (0, (2, 44))]) (zdg dz_R_last_1 1 rfl) [0, 1] (jrI rfl rfl) hn (by decide) rfl ?_
      exact vf_perm [2, 1, 0] rfl (t_R_last_44 C hn hR hr FU _ _ _)
    · refine vf_bipush C (z := (-2)) (zdg dz_R_last_0 20 rfl) (by decide +kernel) (jz rfl) ?_
      exact hr _ _ _ _ (fun h => absurd h (by decide)) (zdg dz_R_last_0 21 rfl)
  · refine vf_bipush C (z := (-3)) (zdg dz_R_last_0 7 rfl) (by decide +kernel) (jz rfl) ?_
    exact hr _ _ _ _ (fun h => absurd h (by decide)) (zdg dz_R_last_0 8 rfl)
def f_R_tellPairs_206 (rec : Int → Int → Int → Wd → Option (Int × Wd)) (k62 : Int → Int → Int → Wd → Option (Int × Wd)) (v2 v3 v5 : Int) (w : Wd) : Option (Int × Wd) :=
  jlet (w32 (v5 + 1)) fun x5 =>
  k62 v2 v3 x5 w
theorem t_R_tellPairs_206 {X : jX} {Qf : Int × Wd → State → Prop} {ad : Nat → Nat} (C : Cx X prog_14_method_79_code "EachBringsAnotherModel") (hn : xn X = 7) {dd : Nat} (hR : xR X = rmD (2 + dd + 1)) (hr : Rt X Qf ad prog_14_method_79_code 4) {rec : Int → Int → Int → Wd → Option (Int × Wd)} (hrec : ∀ (v1 v2 v3 : Int) (w : Wd), Ct y_R_tellPairs prog_14_method_79_code 7 (some .boolean) (2 + dd) 4 [(2, 44), (0, v1), (0, v2), (0, v3)] w (rec v1 v2 v3 w)) {k62 : Int → Int → Int → Wd → Option (Int × Wd)} (hk62 : ∀ (v2 v3 v5 : Int) (w : Wd), VF X Qf ad NF 0 0 w 62 [(0, (2, 44)), (2, (0, v2)), (3, (0, v3)), (5, (0, v5))] [] (k62 v2 v3 v5 w)) (v2 v3 v5 : Int) (w : Wd) : VF X Qf ad NF 0 0 w 206 [(0, (2, 44)), (2, (0, v2)), (3, (0, v3)), (5, (0, v5))] [] (f_R_tellPairs_206 rec k62 v2 v3 v5 w) := by
  unfold f_R_tellPairs_206
  refine vf_iinc C (z := 1) (L' := [(0, (2, 44)), (2, (0, v2)), (3, (0, v3))]) (zdg dz_R_tellPairs_4 18 rfl) 3 rfl [0, 1, 2] (jrI rfl rfl) hn (by decide) ?_
  generalize w32 (v5 + 1) = x5
  refine vf_ul ?_
  refine vf_goto C (off := (-147)) (tgt := 62) (zdg dz_R_tellPairs_4 19 rfl) (by decide) ?_
  exact vf_perm [1, 2, 3, 0] rfl (hk62 _ _ _ _)
def f_R_tellPairs_200 (rec : Int → Int → Int → Wd → Option (Int × Wd)) (k62 : Int → Int → Int → Wd → Option (Int × Wd)) (k90 : Int → Int → Int → Int → Wd → Option (Int × Wd)) (v2 v3 v5 v6 : Int) (w : Wd) : Option (Int × Wd) :=
  jlet (w32 (v6 + 1)) fun x8 =>
  k90 v2 v3 v5 x8 w
theorem t_R_tellPairs_200 {X : jX} {Qf : Int × Wd → State → Prop} {ad : Nat → Nat} (C : Cx X prog_14_method_79_code "EachBringsAnotherModel") (hn : xn X = 7) {dd : Nat} (hR : xR X = rmD (2 + dd + 1)) (hr : Rt X Qf ad prog_14_method_79_code 4) {rec : Int → Int → Int → Wd → Option (Int × Wd)} (hrec : ∀ (v1 v2 v3 : Int) (w : Wd), Ct y_R_tellPairs prog_14_method_79_code 7 (some .boolean) (2 + dd) 4 [(2, 44), (0, v1), (0, v2), (0, v3)] w (rec v1 v2 v3 w)) {k62 : Int → Int → Int → Wd → Option (Int × Wd)} (hk62 : ∀ (v2 v3 v5 : Int) (w : Wd), VF X Qf ad NF 0 0 w 62 [(0, (2, 44)), (2, (0, v2)), (3, (0, v3)), (5, (0, v5))] [] (k62 v2 v3 v5 w)) {k90 : Int → Int → Int → Int → Wd → Option (Int × Wd)} (hk90 : ∀ (v2 v3 v5 v6 : Int) (w : Wd), VF X Qf ad NF 0 0 w 90 [(0, (2, 44)), (2, (0, v2)), (3, (0, v3)), (5, (0, v5)), (6, (0, v6))] [] (k90 v2 v3 v5 v6 w)) (v2 v3 v5 v6 : Int) (w : Wd) : VF X Qf ad NF 0 0 w 200 [(0, (2, 44)), (2, (0, v2)), (3, (0, v3)), (5, (0, v5)), (6, (0, v6))] [] (f_R_tellPairs_200 rec k62 k90 v2 v3 v5 v6 w) := by
  unfold f_R_tellPairs_200
  refine vf_iinc C (z := 1) (L' := [(0, (2, 44)), (2, (0, v2)), (3, (0, v3)), (5, (0, v5))]) (zdg dz_R_tellPairs_4 16 rfl) 4 rfl [0, 1, 2, 3] (jrI rfl rfl) hn (by decide) ?_
  generalize w32 (v6 + 1) = x8
  refine vf_ul ?_
  refine vf_goto C (off := (-113)) (tgt := 90) (zdg dz_R_tellPairs_4 17 rfl) (by decide) ?_
  exact vf_perm [1, 2, 3, 4, 0] rfl (hk90 _ _ _ _ _)
def f_R_tellPairs_90 (rec : Int → Int → Int → Wd → Option (Int × Wd)) (k62 : Int → Int → Int → Wd → Option (Int × Wd)) : Nat → Int → Int → Int → Int → Wd → Option (Int × Wd)
  | 0, _, _, _, _, _ => none
  | n + 1, v2, v3, v5, v6, w =>
    if (w 43 0) ≤ v6 then
      f_R_tellPairs_206 rec k62 v2 v3 v5 w
    else
      jgd ((0 : Int) ≤ v5 ∧ v5 < 10) <|
      jcall (f_R_has (iand (iand (w 45 v5.toNat) (ixor v3 (-1))) (ixor (w 43 44) (-1))) v6 w) fun r6 u7 =>
      if r6 = 0 then
        f_R_tellPairs_200 rec k62 (f_R_tellPairs_90 rec k62 n) v2 v3 v5 v6 u7
      else
        jgd ((0 : Int) ≤ v6 ∧ v6 < 10) <|
        if (u7 68 v6.toNat) = 0 then
          jgd ((0 : Int) ≤ (u7 43 52) ∧ (u7 43 52) < 10) <|
          jlw (st u7 75 (u7 43 52).toNat ((w32 ((w32 (10 * v5)) + v6)))) fun u9 =>
          jlw (st u9 43 52 (w32 ((u9 43 52) + 1))) fun u10 =>
          jcall (rec (w32 (v5 + 1)) (ior v2 (ishl 1 v5)) (ior v3 (ishl 1 v6)) u10) fun r11 u12 =>
          if r11 = 0 then
            jlw (st u12 43 52 (w32 ((u12 43 52) - 1))) fun u13 =>
            f_R_tellPairs_200 rec k62 (f_R_tellPairs_90 rec k62 n) v2 v3 v5 v6 u13
          else
            some (1, u12)
        else
          f_R_tellPairs_200 rec k62 (f_R_tellPairs_90 rec k62 n) v2 v3 v5 v6 u7
theorem t_R_tellPairs_90 {X : jX} {Qf : Int × Wd → State → Prop} {ad : Nat → Nat} (C : Cx X prog_14_method_79_code "EachBringsAnotherModel") (hn : xn X = 7) {dd : Nat} (hR : xR X = rmD (2 + dd + 1)) (hr : Rt X Qf ad prog_14_method_79_code 4) {rec : Int → Int → Int → Wd → Option (Int × Wd)} (hrec : ∀ (v1 v2 v3 : Int) (w : Wd), Ct y_R_tellPairs prog_14_method_79_code 7 (some .boolean) (2 + dd) 4 [(2, 44), (0, v1), (0, v2), (0, v3)] w (rec v1 v2 v3 w)) {k62 : Int → Int → Int → Wd → Option (Int × Wd)} (hk62 : ∀ (v2 v3 v5 : Int) (w : Wd), VF X Qf ad NF 0 0 w 62 [(0, (2, 44)), (2, (0, v2)), (3, (0, v3)), (5, (0, v5))] [] (k62 v2 v3 v5 w)) : ∀ (n : Nat) (v2 v3 v5 v6 : Int) (w : Wd), VF X Qf ad NF 0 0 w 90 [(0, (2, 44)), (2, (0, v2)), (3, (0, v3)), (5, (0, v5)), (6, (0, v6))] [] (f_R_tellPairs_90 rec k62 n v2 v3 v5 v6 w) := by
  intro n
  induction n with
  | zero => intros; exact vf_no
  | succ n ih =>
    intro v2 v3 v5 v6 w
    rw [f_R_tellPairs_90]
    refine vf_iload C (zdg dz_R_tellPairs_1 22 rfl) 4 rfl ?_
    refine vf_aload_n C (f := 0) (zdg dz_R_tellPairs_1 23 rfl) 0 rfl rfl ?_
    refine vf_get C (kd := 0) fl_R_144 sh_43 rfl (by decide) rfl rfl (zdg dz_R_tellPairs_2 0 rfl) ?_
    refine vf_icmp_ge C (off := 110) (tgt := 206) (zdg dz_R_tellPairs_2 1 rfl) (by decide) ?_ ?_
    · exact vf_perm [0, 1, 2, 3] rfl (t_R_tellPairs_206 C hn hR hr hrec hk62 _ _ _ _)
    · refine vf_aload_n C (f := 0) (zdg dz_R_tellPairs_2 2 rfl) 0 rfl rfl ?_
      refine vf_getp C fl_R_13 sh_43 rfl (by decide) rfl (x := 46) rfl (zdg dz_R_tellPairs_2 3 rfl) ?_
      refine vf_iload C (zdg dz_R_tellPairs_2 4 rfl) 3 rfl ?_
      refine vf_iald C sh_45 (by decide) rfl (mz := 10) rfl (zdg dz_R_tellPairs_2 5 rfl) ?_
      refine vf_iload_n C (f := 3) (zdg dz_R_tellPairs_2 6 rfl) 2 rfl rfl ?_
      refine vf_iconst C (z := (-1)) (zdg dz_R_tellPairs_2 7 rfl) (jz rfl) ?_
      refine vf_ixor C (zdg dz_R_tellPairs_2 8 rfl) ?_
      refine vf_iand C (zdg dz_R_tellPairs_2 9 rfl) ?_
      refine vf_aload_n C (f := 0) (zdg dz_R_tellPairs_2 10 rfl) 0 rfl rfl ?_
      refine vf_get C (kd := 0) fl_R_330 sh_43 rfl (by decide) rfl rfl (zdg dz_R_tellPairs_2 11 rfl) ?_
      refine vf_iconst C (z := (-1)) (zdg dz_R_tellPairs_2 12 rfl) (jz rfl) ?_
      refine vf_ixor C (zdg dz_R_tellPairs_2 13 rfl) ?_
      refine vf_iand C (zdg dz_R_tellPairs_2 14 rfl) ?_
      refine vf_iload C (zdg dz_R_tellPairs_2 15 rfl) 4 rfl ?_
      refine vf_callSz C cy_R_has ml_R_210 (ct_R_has _ _ _) (S := []) (jrm_o hR (by omega) (by decide)) rfl rfl (Nat.le_of_ble_eq_true rfl) (zdg dz_R_tellPairs_2 16 rfl) (fun r6 u7 => ?_)
      refine vf_if_eq C (off := 78) (tgt := 200) (zdg dz_R_tellPairs_2 17 rfl) (by decide) ?_ ?_
      · exact t_R_tellPairs_200 C hn hR hr hrec hk62 ih _ _ _ _ _
      · refine vf_aload_n C (f := 0) (zdg dz_R_tellPairs_2 18 rfl) 0 rfl rfl ?_
        refine vf_getp C fl_R_95 sh_43 rfl (by decide) rfl (x := 69) rfl (zdg dz_R_tellPairs_2 19 rfl) ?_
        refine vf_iload C (zdg dz_R_tellPairs_2 20 rfl) 4 rfl ?_
        refine vf_iald C sh_68 (by decide) rfl (mz := 10) rfl (zdg dz_R_tellPairs_2 21 rfl) ?_
        refine vf_if_eq C (off := 6) (tgt := 138) (zdg dz_R_tellPairs_2 22 rfl) (by decide) ?_ ?_
        · refine vf_aload_n C (f := 0) (zdg dz_R_tellPairs_3 0 rfl) 0 rfl rfl ?_
          refine vf_getp C fl_R_116 sh_43 rfl (by decide) rfl (x := 76) rfl (zdg dz_R_tellPairs_3 1 rfl) ?_
          refine vf_aload_n C (f := 0) (zdg dz_R_tellPairs_3 2 rfl) 0 rfl rfl ?_
          refine vf_get C (kd := 0) fl_R_376 sh_43 rfl (by decide) rfl rfl (zdg dz_R_tellPairs_3 3 rfl) ?_
          refine vf_bipush C (z := 10) (zdg dz_R_tellPairs_3 4 rfl) (by decide +kernel) (jz rfl) ?_
          refine vf_iload C (zdg dz_R_tellPairs_3 5 rfl) 3 rfl ?_
          refine vf_imul C (zdg dz_R_tellPairs_3 6 rfl) ?_
          refine vf_iload C (zdg dz_R_tellPairs_3 7 rfl) 4 rfl ?_
          refine vf_iadd C (zdg dz_R_tellPairs_3 8 rfl) ?_
          refine vf_iast C sh_75 (by decide) rfl (mz := 10) rfl (zdg dz_R_tellPairs_3 9 rfl) ?_
          generalize st u7 75 (u7 43 52).toNat ((w32 ((w32 (10 * v5)) + v6))) = u9
          refine vf_uw ?_
          refine vf_aload_n C (f := 0) (zdg dz_R_tellPairs_3 10 rfl) 0 rfl rfl ?_
          refine vf_dup C (zdg dz_R_tellPairs_3 11 rfl) (Nat.succ_ne_self 1) ?_
          refine vf_get C (kd := 0) fl_R_376 sh_43 rfl (by decide) rfl rfl (zdg dz_R_tellPairs_3 12 rfl) ?_
          refine vf_iconst C (z := 1) (zdg dz_R_tellPairs_3 13 rfl) (jz rfl) ?_
          refine vf_iadd C (zdg dz_R_tellPairs_3 14 rfl) ?_
          refine vf_put C (kd := 0) fl_R_376 fk_11_52 sh_43 rfl (by decide) rfl rfl (by decide) (zdg dz_R_tellPairs_3 15 rfl) ?_
          generalize st u9 43 52 (w32 ((u9 43 52) + 1)) = u10
          refine vf_uw ?_
          refine vf_aload_n C (f := 0) (zdg dz_R_tellPairs_3 16 rfl) 0 rfl rfl ?_
          refine vf_iload C (zdg dz_R_tellPairs_3 17 rfl) 3 rfl ?_
          refine vf_iconst C (z := 1) (zdg dz_R_tellPairs_3 18 rfl) (jz rfl) ?_
          refine vf_iadd C (zdg dz_R_tellPairs_3 19 rfl) ?_
          refine vf_iload_n C (f := 2) (zdg dz_R_tellPairs_3 20 rfl) 1 rfl rfl ?_
          refine vf_iconst C (z := 1) (zdg dz_R_tellPairs_3 21 rfl) (jz rfl) ?_
          refine vf_iload C (zdg dz_R_tellPairs_3 22 rfl) 3 rfl ?_
          refine vf_ishl C (zdg dz_R_tellPairs_3 23 rfl) ?_
          refine vf_ior C (zdg dz_R_tellPairs_4 0 rfl) ?_
          refine vf_iload_n C (f := 3) (zdg dz_R_tellPairs_4 1 rfl) 2 rfl rfl ?_
          refine vf_iconst C (z := 1) (zdg dz_R_tellPairs_4 2 rfl) (jz rfl) ?_
          refine vf_iload C (zdg dz_R_tellPairs_4 3 rfl) 4 rfl ?_
          refine vf_ishl C (zdg dz_R_tellPairs_4 4 rfl) ?_
          refine vf_ior C (zdg dz_R_tellPairs_4 5 rfl) ?_
          refine vf_callVz C cy_R_tellPairs ml_R_379 rfl (hrec _ _ _ _) (S := []) sh_43 (by decide) rfl (jrm_o hR (by omega) (by decide)) rfl rfl (Nat.le_of_ble_eq_true rfl) (zdg dz_R_tellPairs_4 6 rfl) (fun r11 u12 => ?_)
          refine vf_if_eq C (off := 5) (tgt := 190) (zdg dz_R_tellPairs_4 7 rfl) (by decide) ?_ ?_
          · refine vf_aload_n C (f := 0) (zdg dz_R_tellPairs_4 10 rfl) 0 rfl rfl ?_
            refine vf_dup C (zdg dz_R_tellPairs_4 11 rfl) (Nat.succ_ne_self 1) ?_
            refine vf_get C (kd := 0) fl_R_376 sh_43 rfl (by decide) rfl rfl (zdg dz_R_tellPairs_4 12 rfl) ?_
            refine vf_iconst C (z := 1) (zdg dz_R_tellPairs_4 13 rfl) (jz rfl) ?_
            refine vf_isub C (zdg dz_R_tellPairs_4 14 rfl) ?_
            refine vf_put C (kd := 0) fl_R_376 fk_11_52 sh_43 rfl (by decide) rfl rfl (by decide) (zdg dz_R_tellPairs_4 15 rfl) ?_
            generalize st u12 43 52 (w32 ((u12 43 52) - 1)) = u13
            refine vf_uw ?_
            exact t_R_tellPairs_200 C hn hR hr hrec hk62 ih _ _ _ _ _
          · refine vf_iconst C (z := 1) (zdg dz_R_tellPairs_4 8 rfl) (jz rfl) ?_
            exact hr _ _ _ _ (fun _ => Or.inr rfl) (zdg dz_R_tellPairs_4 9 rfl)
        · refine vf_goto C (off := 65) (tgt := 200) (zdg dz_R_tellPairs_2 23 rfl) (by decide) ?_
          exact t_R_tellPairs_200 C hn hR hr hrec hk62 ih _ _ _ _ _
def f_R_tellPairs_62 (rec : Int → Int → Int → Wd → Option (Int × Wd)) : Nat → Int → Int → Int → Wd → Option (Int × Wd)
  | 0, _, _, _, _ => none
  | n + 1, v2, v3, v5, w =>
    if (w 43 0) ≤ v5 then
      some (0, w)
    else
      jgd ((0 : Int) ≤ v5 ∧ v5 < 10) <|
      jcall (f_R_isGuest (w 68 v5.toNat) w) fun r3 u4 =>
      if r3 = 0 then
        f_R_tellPairs_206 rec (f_R_tellPairs_62 rec n) v2 v3 v5 u4
      else
        f_R_tellPairs_90 rec (f_R_tellPairs_62 rec n) FU v2 v3 v5 0 u4
theorem t_R_tellPairs_62 {X : jX} {Qf : Int × Wd → State → Prop} {ad : Nat → Nat} (C : Cx X prog_14_method_79_code "EachBringsAnotherModel") (hn : xn X = 7) {dd : Nat} (hR : xR X = rmD (2 + dd + 1)) (hr : Rt X Qf ad prog_14_method_79_code 4) {rec : Int → Int → Int → Wd → Option (Int × Wd)} (hrec : ∀ (v1 v2 v3 : Int) (w : Wd), Ct y_R_tellPairs prog_14_method_79_code 7 (some .boolean) (2 + dd) 4 [(2, 44), (0, v1), (0, v2), (0, v3)] w (rec v1 v2 v3 w)) : ∀ (n : Nat) (v2 v3 v5 : Int) (w : Wd), VF X Qf ad NF 0 0 w 62 [(0, (2, 44)), (2, (0, v2)), (3, (0, v3)), (5, (0, v5))] [] (f_R_tellPairs_62 rec n v2 v3 v5 w) := by
  intro n
  induction n with
  | zero => intros; exact vf_no
  | succ n ih =>
    intro v2 v3 v5 w
    rw [f_R_tellPairs_62]
    refine vf_iload C (zdg dz_R_tellPairs_1 9 rfl) 3 rfl ?_
    refine vf_aload_n C (f := 0) (zdg dz_R_tellPairs_1 10 rfl) 0 rfl rfl ?_
    refine vf_get C (kd := 0) fl_R_144 sh_43 rfl (by decide) rfl rfl (zdg dz_R_tellPairs_1 11 rfl) ?_
    refine vf_icmp_ge C (off := 144) (tgt := 212) (zdg dz_R_tellPairs_1 12 rfl) (by decide) ?_ ?_
    · refine vf_iconst C (z := 0) (zdg dz_R_tellPairs_4 20 rfl) (jz rfl) ?_
      exact hr _ _ _ _ (fun _ => Or.inl rfl) (zdg dz_R_tellPairs_4 21 rfl)
    · refine vf_aload_n C (f := 0) (zdg dz_R_tellPairs_1 13 rfl) 0 rfl rfl ?_
      refine vf_getp C fl_R_95 sh_43 rfl (by decide) rfl (x := 69) rfl (zdg dz_R_tellPairs_1 14 rfl) ?_
      refine vf_iload C (zdg dz_R_tellPairs_1 15 rfl) 3 rfl ?_
      refine vf_iald C sh_68 (by decide) rfl (mz := 10) rfl (zdg dz_R_tellPairs_1 16 rfl) ?_
      refine vf_callSz C cy_R_isGuest ml_R_256 (ct_R_isGuest _ _) (S := []) (jrm_o hR (by omega) (by decide)) rfl rfl (Nat.le_of_ble_eq_true rfl) (zdg dz_R_tellPairs_1 17 rfl) (fun r3 u4 => ?_)
      refine vf_if_ne C (off := 6) (tgt := 87) (zdg dz_R_tellPairs_1 18 rfl) (by decide) ?_ ?_
      · refine vf_iconst C (z := 0) (zdg dz_R_tellPairs_1 20 rfl) (jz rfl) ?_
        refine vf_istore C (i := 6) (L' := [(0, (2, 44)), (2, (0, v2)), (3, (0, v3)), (5, (0, v5))]) (zdg dz_R_tellPairs_1 21 rfl) [0, 1, 2, 3] (jrI rfl rfl) hn (by decide) ?_
        exact vf_perm [1, 2, 3, 4, 0] rfl (t_R_tellPairs_90 C hn hR hr hrec ih FU _ _ _ _ _)
      · refine vf_goto C (off := 122) (tgt := 206) (zdg dz_R_tellPairs_1 19 rfl) (by decide) ?_
        exact t_R_tellPairs_206 C hn hR hr hrec ih _ _ _ _
def f_R_tellPairs_59 (rec : Int → Int → Int → Wd → Option (Int × Wd)) (v1 v2 v3 : Int) (w : Wd) : Option (Int × Wd) :=
  f_R_tellPairs_62 rec FU v2 v3 v1 w
theorem t_R_tellPairs_59 {X : jX} {Qf : Int × Wd → State → Prop} {ad : Nat → Nat} (C : Cx X prog_14_method_79_code "EachBringsAnotherModel") (hn : xn X = 7) {dd : Nat} (hR : xR X = rmD (2 + dd + 1)) (hr : Rt X Qf ad prog_14_method_79_code 4) {rec : Int → Int → Int → Wd → Option (Int × Wd)} (hrec : ∀ (v1 v2 v3 : Int) (w : Wd), Ct y_R_tellPairs prog_14_method_79_code 7 (some .boolean) (2 + dd) 4 [(2, 44), (0, v1), (0, v2), (0, v3)] w (rec v1 v2 v3 w)) (v1 v2 v3 : Int) (w : Wd) : VF X Qf ad NF 0 0 w 59 [(0, (2, 44)), (1, (0, v1)), (2, (0, v2)), (3, (0, v3))] [] (f_R_tellPairs_59 rec v1 v2 v3 w) := by
  unfold f_R_tellPairs_59
  refine vf_iload_n C (f := 1) (zdg dz_R_tellPairs_1 7 rfl) 1 rfl rfl ?_
  refine vf_istore C (i := 5) (L' := [(0, (2, 44)), (2, (0, v2)), (3, (0, v3))]) (zdg dz_R_tellPairs_1 8 rfl) [0, 2, 3] (jrI rfl rfl) hn (by decide) ?_
  exact vf_perm [1, 2, 3, 0] rfl (t_R_tellPairs_62 C hn hR hr hrec FU _ _ _ _)
def f_R_tellPairs_31 (rec : Int → Int → Int → Wd → Option (Int × Wd)) : Nat → Int → Wd → Option (Int × Wd)
  | 0, _, _ => none
  | n + 1, v5, w =>
    if (w 43 52) ≤ v5 then
      some (1, w)
    else
      jgd ((0 : Int) ≤ v5 ∧ v5 < 10) <|
      jcall (f_R_tell (w 75 v5.toNat) w) fun r15 u16 =>
      jlet (w32 (v5 + 1)) fun x17 =>
      f_R_tellPairs_31 rec n x17 u16
theorem t_R_tellPairs_31 {X : jX} {Qf : Int × Wd → State → Prop} {ad : Nat → Nat} (C : Cx X prog_14_method_79_code "EachBringsAnotherModel") (hn : xn X = 7) {dd : Nat} (hR : xR X = rmD (2 + dd + 1)) (hr : Rt X Qf ad prog_14_method_79_code 4) {rec : Int → Int → Int → Wd → Option (Int × Wd)} (hrec : ∀ (v1 v2 v3 : Int) (w : Wd), Ct y_R_tellPairs prog_14_method_79_code 7 (some .boolean) (2 + dd) 4 [(2, 44), (0, v1), (0, v2), (0, v3)] w (rec v1 v2 v3 w)) : ∀ (n : Nat) (v5 : Int) (w : Wd), VF X Qf ad NF 0 0 w 31 [(0, (2, 44)), (5, (0, v5))] [] (f_R_tellPairs_31 rec n v5 w) := by
  intro n
  induction n with
  | zero => intros; exact vf_no
  | succ n ih =>
    intro v5 w
    rw [f_R_tellPairs_31]
    refine vf_iload C (zdg dz_R_tellPairs_0 17 rfl) 1 rfl ?_
    refine vf_aload_n C (f := 0) (zdg dz_R_tellPairs_0 18 rfl) 0 rfl rfl ?_
    refine vf_get C (kd := 0) fl_R_376 sh_43 rfl (by decide) rfl rfl (zdg dz_R_tellPairs_0 19 rfl) ?_
    refine vf_icmp_ge C (off := 20) (tgt := 57) (zdg dz_R_tellPairs_0 20 rfl) (by decide) ?_ ?_
    · refine vf_iconst C (z := 1) (zdg dz_R_tellPairs_1 5 rfl) (jz rfl) ?_
      exact hr _ _ _ _ (fun _ => Or.inr rfl) (zdg dz_R_tellPairs_1 6 rfl)
    · refine vf_aload_n C (f := 0) (zdg dz_R_tellPairs_0 21 rfl) 0 rfl rfl ?_
      refine vf_aload_n C (f := 0) (zdg dz_R_tellPairs_0 22 rfl) 0 rfl rfl ?_
      refine vf_getp C fl_R_116 sh_43 rfl (by decide) rfl (x := 76) rfl (zdg dz_R_tellPairs_0 23 rfl) ?_
      refine vf_iload C (zdg dz_R_tellPairs_1 0 rfl) 1 rfl ?_
      refine vf_iald C sh_75 (by decide) rfl (mz := 10) rfl (zdg dz_R_tellPairs_1 1 rfl) ?_
      refine vf_callVv C cy_R_tell ml_R_304 rfl (ct_R_tell _ _) (S := []) sh_43 (by decide) rfl (jrm_o hR (by omega) (by decide)) rfl rfl (Nat.le_of_ble_eq_true rfl) (zdg dz_R_tellPairs_1 2 rfl) (fun r15 u16 => ?_)
      refine vf_iinc C (z := 1) (L' := [(0, (2, 44))]) (zdg dz_R_tellPairs_1 3 rfl) 1 rfl [0] (jrI rfl rfl) hn (by decide) ?_
      generalize w32 (v5 + 1) = x17
      refine vf_ul ?_
      refine vf_goto C (off := (-23)) (tgt := 31) (zdg dz_R_tellPairs_1 4 rfl) (by decide) ?_
      exact vf_perm [1, 0] rfl (ih _ _)
def f_R_tellPairs_b (rec : Int → Int → Int → Wd → Option (Int × Wd)) (v1 v2 v3 : Int) (w : Wd) : Option (Int × Wd) :=
  jcall (f_R_behind v2 v3 w) fun r1 u2 =>
  if r1 < 0 then
    f_R_tellPairs_59 rec v1 v2 v3 u2
  else
    jgd ((0 : Int) ≤ r1 ∧ r1 < 3000) <|
    if (u2 74 r1.toNat) = 0 then
      f_R_tellPairs_59 rec v1 v2 v3 u2
    else
      jlw (st u2 43 15 0) fun u14 =>
      f_R_tellPairs_31 rec FU 0 u14
theorem ct_R_tellPairs_b {dd : Nat} {rec : Int → Int → Int → Wd → Option (Int × Wd)} (hrec : ∀ (v1 v2 v3 : Int) (w : Wd), Ct y_R_tellPairs prog_14_method_79_code 7 (some .boolean) (2 + dd) 4 [(2, 44), (0, v1), (0, v2), (0, v3)] w (rec v1 v2 v3 w)) (v1 v2 v3 : Int) (w : Wd) : Ct y_R_tellPairs prog_14_method_79_code 7 (some .boolean) (2 + dd + 1) 4 [(2, 44), (0, v1), (0, v2), (0, v3)] w (f_R_tellPairs_b rec v1 v2 v3 w) := by
  refine ct_of (by decide +kernel) (Or.inr (Or.inr (Or.inl ⟨rfl, rfl⟩))) (Nat.le_of_ble_eq_true rfl) ?_
  intro X Qf ad C hn hR hr
  unfold f_R_tellPairs_b
  show VF X Qf ad NF 0 0 w 0 [(0, (2, 44)), (1, (0, v1)), (2, (0, v2)), (3, (0, v3))] [] _
  refine vf_aload_n C (f := 0) (zdg dz_R_tellPairs_0 0 rfl) 0 rfl rfl ?_
  refine vf_iload_n C (f := 2) (zdg dz_R_tellPairs_0 1 rfl) 2 rfl rfl ?_
  refine vf_iload_n C (f := 3) (zdg dz_R_tellPairs_0 2 rfl) 3 rfl rfl ?_
  refine vf_callVi C cy_R_behind ml_R_320 rfl (ct_R_behind _ _ _) (S := []) sh_43 (by decide) rfl (jrm_o hR (by omega) (by decide)) rfl rfl (Nat.le_of_ble_eq_true rfl) (zdg dz_R_tellPairs_0 3 rfl) (fun r1 u2 => ?_)
  refine vf_istore C (i := 4) (L' := [(0, (2, 44)), (1, (0, v1)), (2, (0, v2)), (3, (0, v3))]) (zdg dz_R_tellPairs_0 4 rfl) [0, 1, 2, 3] (jrI rfl rfl) hn (by decide) ?_
  refine vf_iload C (zdg dz_R_tellPairs_0 5 rfl) 0 rfl ?_
  refine vf_if_lt C (off := 49) (tgt := 59) (zdg dz_R_tellPairs_0 6 rfl) (by decide) ?_ ?_
  · exact vf_perm [1, 2, 3, 4] rfl (t_R_tellPairs_59 C hn hR hr hrec _ _ _ _)
  · refine vf_aload_n C (f := 0) (zdg dz_R_tellPairs_0 7 rfl) 1 rfl rfl ?_
    refine vf_getp C fl_R_113 sh_43 rfl (by decide) rfl (x := 75) rfl (zdg dz_R_tellPairs_0 8 rfl) ?_
    refine vf_iload C (zdg dz_R_tellPairs_0 9 rfl) 0 rfl ?_
    refine vf_zald C sh_74 (by decide) rfl (mz := 3000) rfl (zdg dz_R_tellPairs_0 10 rfl) ?_
    refine vf_if_eq C (off := 39) (tgt := 59) (zdg dz_R_tellPairs_0 11 rfl) (by decide) ?_ ?_
    · exact vf_perm [1, 2, 3, 4] rfl (t_R_tellPairs_59 C hn hR hr hrec _ _ _ _)
    · refine vf_aload_n C (f := 0) (zdg dz_R_tellPairs_0 12 rfl) 1 rfl rfl ?_
      refine vf_iconst C (z := 0) (zdg dz_R_tellPairs_0 13 rfl) (jz rfl) ?_
      refine vf_put C (kd := 0) fl_R_141 fk_11_15 sh_43 rfl (by decide) rfl rfl (by decide) (zdg dz_R_tellPairs_0 14 rfl) ?_
      generalize st u2 43 15 0 = u14
      refine vf_uw ?_
      refine vf_iconst C (z := 0) (zdg dz_R_tellPairs_0 15 rfl) (jz rfl) ?_
      refine vf_istore C (i := 5) (L' := [(0, (2, 44))]) (zdg dz_R_tellPairs_0 16 rfl) [1] (jrI rfl rfl) hn (by decide) ?_
      exact vf_perm [1, 0] rfl (t_R_tellPairs_31 C hn hR hr hrec FU _ _)
def f_R_tellPairs : Nat → Int → Int → Int → Wd → Option (Int × Wd)
  | 0, _, _, _, _ => none
  | d + 1, v1, v2, v3, w => f_R_tellPairs_b (f_R_tellPairs d) v1 v2 v3 w
theorem ct_R_tellPairs_all : ∀ dd : Nat, (∀ (v1 v2 v3 : Int) (w : Wd), Ct y_R_tellPairs prog_14_method_79_code 7 (some .boolean) (2 + dd) 4 [(2, 44), (0, v1), (0, v2), (0, v3)] w (f_R_tellPairs dd v1 v2 v3 w)) := by
  intro dd
  induction dd with
  | zero => exact fun _ _ _ _  l D cA ad o ho => by cases ho
  | succ dd ih =>
    exact fun v1 v2 v3 w => ct_R_tellPairs_b ih v1 v2 v3 w
theorem ct_R_tellPairs (v1 v2 v3 : Int) (w : Wd) : Ct y_R_tellPairs prog_14_method_79_code 7 (some .boolean) 18 4 [(2, 44), (0, v1), (0, v2), (0, v3)] w (f_R_tellPairs 16 v1 v2 v3 w) := (ct_R_tellPairs_all 16) v1 v2 v3 w
def f_R_tellFirst (w : Wd) : Option (Int × Wd) :=
  jcall (f_R_load 0 w) fun r1 u2 =>
  jlw (st u2 43 52 0) fun u3 =>
  jcall (f_R_tellPairs 16 0 0 0 u3) fun r4 u5 =>
  some (u5 43 52, u5)
theorem ct_R_tellFirst (w : Wd) : Ct y_R_tellFirst prog_14_method_80_code 1 (some .int) 19 0 [(2, 44)] w (f_R_tellFirst w) := by
  refine ct_of (by decide +kernel) (Or.inl ⟨rfl, rfl⟩) (Nat.le_of_ble_eq_true rfl) ?_
  intro X Qf ad C hn hR hr
  unfold f_R_tellFirst
  show VF X Qf ad NF 0 0 w 0 [(0, (2, 44))] [] _
  refine vf_aload_n C (f := 0) (zdg dz_R_tellFirst_0 0 rfl) 0 rfl rfl ?_
  refine vf_iconst C (z := 0) (zdg dz_R_tellFirst_0 1 rfl) (jz rfl) ?_
  refine vf_callVv C cy_R_load ml_R_336 rfl (ct_R_load _ _) (S := []) sh_43 (by decide) rfl (jrm_of hR rfl) rfl rfl (Nat.le_of_ble_eq_true rfl) (zdg dz_R_tellFirst_0 2 rfl) (fun r1 u2 => ?_)
  refine vf_aload_n C (f := 0) (zdg dz_R_tellFirst_0 3 rfl) 0 rfl rfl ?_
  refine vf_iconst C (z := 0) (zdg dz_R_tellFirst_0 4 rfl) (jz rfl) ?_
  refine vf_put C (kd := 0) fl_R_376 fk_11_52 sh_43 rfl (by decide) rfl rfl (by decide) (zdg dz_R_tellFirst_0 5 rfl) ?_
  generalize st u2 43 52 0 = u3
  refine vf_uw ?_
  refine vf_aload_n C (f := 0) (zdg dz_R_tellFirst_0 6 rfl) 0 rfl rfl ?_
  refine vf_iconst C (z := 0) (zdg dz_R_tellFirst_0 7 rfl) (jz rfl) ?_
  refine vf_iconst C (z := 0) (zdg dz_R_tellFirst_0 8 rfl) (jz rfl) ?_
  refine vf_iconst C (z := 0) (zdg dz_R_tellFirst_0 9 rfl) (jz rfl) ?_
  refine vf_callVz C cy_R_tellPairs ml_R_379 rfl (ct_R_tellPairs _ _ _ _) (S := []) sh_43 (by decide) rfl (jrm_of hR rfl) rfl rfl (Nat.le_of_ble_eq_true rfl) (zdg dz_R_tellFirst_0 10 rfl) (fun r4 u5 => ?_)
  refine vf_pop C (zdg dz_R_tellFirst_0 11 rfl) Nat.zero_ne_one ?_
  refine vf_aload_n C (f := 0) (zdg dz_R_tellFirst_0 12 rfl) 0 rfl rfl ?_
  refine vf_get C (kd := 0) fl_R_376 sh_43 rfl (by decide) rfl rfl (zdg dz_R_tellFirst_0 13 rfl) ?_
  exact hr _ _ _ _ (fun h => absurd h (by decide)) (zdg dz_R_tellFirst_0 14 rfl)
def f_R_findNext_30 : Nat → Int → Wd → Option (Int × Wd)
  | 0, _, _ => none
  | n + 1, v1, w =>
    jgd ((0 : Int) ≤ (1 : Int) ∧ (1 : Int) < 3001) <|
    if (w 64 (1 : Int).toNat) ≤ v1 then
      some (0, w)
    else
      jgd ((0 : Int) ≤ v1 ∧ v1 < 756000) <|
      jgd ((0 : Int) ≤ (w 65 v1.toNat) ∧ (w 65 v1.toNat) < 3000) <|
      jlw (st w 76 (w 65 v1.toNat).toNat (nz 1)) fun u2 =>
      jlet (w32 (v1 + 1)) fun x3 =>
      f_R_findNext_30 n x3 u2
theorem t_R_findNext_30 {X : jX} {Qf : Int × Wd → State → Prop} {ad : Nat → Nat} (C : Cx X prog_14_method_82_code "EachBringsAnotherModel") (hn : xn X = 2) (hR : xR X = rmD 1) (hr : Rt X Qf ad prog_14_method_82_code 9) : ∀ (n : Nat) (v1 : Int) (w : Wd), VF X Qf ad NF 0 0 w 30 [(0, (2, 44)), (1, (0, v1))] [] (f_R_findNext_30 n v1 w) := by
  intro n
  induction n with
  | zero => intros; exact vf_no
  | succ n ih =>
    intro v1 w
    rw [f_R_findNext_30]
    refine vf_iload_n C (f := 1) (zdg dz_R_findNext_0 18 rfl) 1 rfl rfl ?_
    refine vf_aload_n C (f := 0) (zdg dz_R_findNext_0 19 rfl) 0 rfl rfl ?_
    refine vf_getp C fl_R_82 sh_43 rfl (by decide) rfl (x := 65) rfl (zdg dz_R_findNext_0 20 rfl) ?_
    refine vf_iconst C (z := 1) (zdg dz_R_findNext_0 21 rfl) (jz rfl) ?_
    refine vf_iald C sh_64 (by decide) rfl (mz := 3001) rfl (zdg dz_R_findNext_0 22 rfl) ?_
    refine vf_icmp_ge C (off := 21) (tgt := 58) (zdg dz_R_findNext_0 23 rfl) (by decide) ?_ ?_
    · exact hr _ _ _ _ (fun h => absurd h (by decide)) (zdg dz_R_findNext_1 10 rfl)
    · refine vf_aload_n C (f := 0) (zdg dz_R_findNext_1 0 rfl) 0 rfl rfl ?_
      refine vf_getp C fl_R_119 sh_43 rfl (by decide) rfl (x := 77) rfl (zdg dz_R_findNext_1 1 rfl) ?_
      refine vf_aload_n C (f := 0) (zdg dz_R_findNext_1 2 rfl) 0 rfl rfl ?_
      refine vf_getp C fl_R_86 sh_43 rfl (by decide) rfl (x := 66) rfl (zdg dz_R_findNext_1 3 rfl) ?_
      refine vf_iload_n C (f := 1) (zdg dz_R_findNext_1 4 rfl) 1 rfl rfl ?_
      refine vf_iald C sh_65 (by decide) rfl (mz := 756000) rfl (zdg dz_R_findNext_1 5 rfl) ?_
      refine vf_iconst C (z := 1) (zdg dz_R_findNext_1 6 rfl) (jz rfl) ?_
      refine vf_zast C sh_76 (by decide) rfl (mz := 3000) rfl (zdg dz_R_findNext_1 7 rfl) ?_
      generalize st w 76 (w 65 v1.toNat).toNat (nz 1) = u2
      refine vf_uw ?_
      refine vf_iinc C (z := 1) (L' := [(0, (2, 44))]) (zdg dz_R_findNext_1 8 rfl) 1 rfl [0] (jrI rfl rfl) hn (by decide) ?_
      generalize w32 (v1 + 1) = x3
      refine vf_ul ?_
      refine vf_goto C (off := (-25)) (tgt := 30) (zdg dz_R_findNext_1 9 rfl) (by decide) ?_
      exact vf_perm [1, 0] rfl (ih _ _)
def f_R_findNext_2 : Nat → Int → Wd → Option (Int × Wd)
  | 0, _, _ => none
  | n + 1, v1, w =>
    if (w 43 40) ≤ v1 then
      jgd ((0 : Int) ≤ (0 : Int) ∧ (0 : Int) < 3001) <|
      jlet (w 64 (0 : Int).toNat) fun x1 =>
      f_R_findNext_30 FU x1 w
    else
      jgd ((0 : Int) ≤ v1 ∧ v1 < 3000) <|
      jlw (st w 76 v1.toNat (nz 0)) fun u4 =>
      jlet (w32 (v1 + 1)) fun x5 =>
      f_R_findNext_2 n x5 u4
theorem t_R_findNext_2 {X : jX} {Qf : Int × Wd → State → Prop} {ad : Nat → Nat} (C : Cx X prog_14_method_82_code "EachBringsAnotherModel") (hn : xn X = 2) (hR : xR X = rmD 1) (hr : Rt X Qf ad prog_14_method_82_code 9) : ∀ (n : Nat) (v1 : Int) (w : Wd), VF X Qf ad NF 0 0 w 2 [(0, (2, 44)), (1, (0, v1))] [] (f_R_findNext_2 n v1 w) := by
  intro n
  induction n with
  | zero => intros; exact vf_no
  | succ n ih =>
    intro v1 w
    rw [f_R_findNext_2]
    refine vf_iload_n C (f := 1) (zdg dz_R_findNext_0 2 rfl) 1 rfl rfl ?_
    refine vf_aload_n C (f := 0) (zdg dz_R_findNext_0 3 rfl) 0 rfl rfl ?_
    refine vf_get C (kd := 0) fl_R_314 sh_43 rfl (by decide) rfl rfl (zdg dz_R_findNext_0 4 rfl) ?_
    refine vf_icmp_ge C (off := 16) (tgt := 23) (zdg dz_R_findNext_0 5 rfl) (by decide) ?_ ?_
    · refine vf_aload_n C (f := 0) (zdg dz_R_findNext_0 13 rfl) 0 rfl rfl ?_
      refine vf_getp C fl_R_82 sh_43 rfl (by decide) rfl (x := 65) rfl (zdg dz_R_findNext_0 14 rfl) ?_
      refine vf_iconst C (z := 0) (zdg dz_R_findNext_0 15 rfl) (jz rfl) ?_
      refine vf_iald C sh_64 (by decide) rfl (mz := 3001) rfl (zdg dz_R_findNext_0 16 rfl) ?_
      generalize w 64 (0 : Int).toNat = x1
      refine vf_ul ?_
      refine vf_istore_n C (f := 1) (L' := [(0, (2, 44))]) (zdg dz_R_findNext_0 17 rfl) [0] (jrI rfl rfl) hn (by decide) rfl ?_
      exact vf_perm [1, 0] rfl (t_R_findNext_30 C hn hR hr FU _ _)
    · refine vf_aload_n C (f := 0) (zdg dz_R_findNext_0 6 rfl) 0 rfl rfl ?_
      refine vf_getp C fl_R_119 sh_43 rfl (by decide) rfl (x := 77) rfl (zdg dz_R_findNext_0 7 rfl) ?_
      refine vf_iload_n C (f := 1) (zdg dz_R_findNext_0 8 rfl) 1 rfl rfl ?_
      refine vf_iconst C (z := 0) (zdg dz_R_findNext_0 9 rfl) (jz rfl) ?_
      refine vf_zast C sh_76 (by decide) rfl (mz := 3000) rfl (zdg dz_R_findNext_0 10 rfl) ?_
      generalize st w 76 v1.toNat (nz 0) = u4
      refine vf_uw ?_
      refine vf_iinc C (z := 1) (L' := [(0, (2, 44))]) (zdg dz_R_findNext_0 11 rfl) 1 rfl [0] (jrI rfl rfl) hn (by decide) ?_
      generalize w32 (v1 + 1) = x5
      refine vf_ul ?_
      refine vf_goto C (off := (-18)) (tgt := 2) (zdg dz_R_findNext_0 12 rfl) (by decide) ?_
      exact vf_perm [1, 0] rfl (ih _ _)
def f_R_findNext (w : Wd) : Option (Int × Wd) :=
  f_R_findNext_2 FU 0 w
theorem ct_R_findNext (w : Wd) : Ct y_R_findNext prog_14_method_82_code 2 none 1 9 [(2, 44)] w (f_R_findNext w) := by
  refine ct_of (by decide +kernel) (Or.inr (Or.inr (Or.inr ⟨rfl, rfl⟩))) (Nat.le_of_ble_eq_true rfl) ?_
  intro X Qf ad C hn hR hr
  unfold f_R_findNext
  show VF X Qf ad NF 0 0 w 0 [(0, (2, 44))] [] _
  refine vf_iconst C (z := 0) (zdg dz_R_findNext_0 0 rfl) (jz rfl) ?_
  refine vf_istore_n C (f := 1) (L' := [(0, (2, 44))]) (zdg dz_R_findNext_0 1 rfl) [0] (jrI rfl rfl) hn (by decide) rfl ?_
  exact vf_perm [1, 0] rfl (t_R_findNext_2 C hn hR hr FU _ _)
def f_R_isNext (v1 : Int) (w : Wd) : Option (Int × Wd) :=
  jgd ((0 : Int) ≤ v1 ∧ v1 < 3000) <|
  jlet (w 76 v1.toNat) fun x1 =>
  if x1 = 0 ∨ x1 = 1 then some (x1, w) else none
theorem ct_R_isNext (v1 : Int) (w : Wd) : Ct y_R_isNext prog_14_method_83_code 2 (some .boolean) 1 4 [(2, 44), (0, v1)] w (f_R_isNext v1 w) := by
  refine ct_of (by decide +kernel) (Or.inr (Or.inr (Or.inl ⟨rfl, rfl⟩))) (Nat.le_of_ble_eq_true rfl) ?_
  intro X Qf ad C hn hR hr
  unfold f_R_isNext
  show VF X Qf ad NF 0 0 w 0 [(0, (2, 44)), (1, (0, v1))] [] _
  refine vf_aload_n C (f := 0) (zdg dz_R_isNext_0 0 rfl) 0 rfl rfl ?_
  refine vf_getp C fl_R_119 sh_43 rfl (by decide) rfl (x := 77) rfl (zdg dz_R_isNext_0 1 rfl) ?_
  refine vf_iload_n C (f := 1) (zdg dz_R_isNext_0 2 rfl) 1 rfl rfl ?_
  refine vf_zald C sh_76 (by decide) rfl (mz := 3000) rfl (zdg dz_R_isNext_0 3 rfl) ?_
  generalize w 76 v1.toNat = x1
  refine vf_ul ?_
  refine vf_if _ (fun h => ?_) (fun _ => vf_no)
  exact hr _ _ _ _ (fun _ => h) (zdg dz_R_isNext_0 4 rfl)
def f_R_begin2_86 (k43 : Int → Wd → Option (Int × Wd)) (v1 s1 s2 : Int) (w : Wd) : Option (Int × Wd) :=
  jgd ((0 : Int) ≤ s1 ∧ s1 < 3000) <|
  jlw (st w 74 s1.toNat (nz s2)) fun u12 =>
  jlet (w32 (v1 + 1)) fun x13 =>
  k43 x13 u12
theorem t_R_begin2_86 {X : jX} {Qf : Int × Wd → State → Prop} {ad : Nat → Nat} (C : Cx X prog_14_method_81_code "EachBringsAnotherModel") (hn : xn X = 2) (hR : xR X = rmD 20) (hr : Rt X Qf ad prog_14_method_81_code 0) {k43 : Int → Wd → Option (Int × Wd)} (hk43 : ∀ (v1 : Int) (w : Wd), VF X Qf ad NF 0 0 w 43 [(0, (2, 44)), (1, (0, v1))] [] (k43 v1 w)) (v1 s1 s2 : Int) (w : Wd) : VF X Qf ad NF 0 0 w 86 [(0, (2, 44)), (1, (0, v1))] [(0, s2), (0, s1), (2, 75)] (f_R_begin2_86 k43 v1 s1 s2 w) := by
  unfold f_R_begin2_86
  refine vf_zast C sh_74 (by decide) rfl (mz := 3000) rfl (zdg dz_R_begin2_2 2 rfl) ?_
  generalize st w 74 s1.toNat (nz s2) = u12
  refine vf_uw ?_
  refine vf_iinc C (z := 1) (L' := [(0, (2, 44))]) (zdg dz_R_begin2_2 3 rfl) 1 rfl [0] (jrI rfl rfl) hn (by decide) ?_
  generalize w32 (v1 + 1) = x13
  refine vf_ul ?_
  refine vf_goto C (off := (-47)) (tgt := 43) (zdg dz_R_begin2_2 4 rfl) (by decide) ?_
  exact vf_perm [1, 0] rfl (hk43 _ _)
def f_R_begin2_85 (k43 : Int → Wd → Option (Int × Wd)) (v1 s1 : Int) (w : Wd) : Option (Int × Wd) :=
  f_R_begin2_86 k43 v1 s1 0 w
theorem t_R_begin2_85 {X : jX} {Qf : Int × Wd → State → Prop} {ad : Nat → Nat} (C : Cx X prog_14_method_81_code "EachBringsAnotherModel") (hn : xn X = 2) (hR : xR X = rmD 20) (hr : Rt X Qf ad prog_14_method_81_code 0) {k43 : Int → Wd → Option (Int × Wd)} (hk43 : ∀ (v1 : Int) (w : Wd), VF X Qf ad NF 0 0 w 43 [(0, (2, 44)), (1, (0, v1))] [] (k43 v1 w)) (v1 s1 : Int) (w : Wd) : VF X Qf ad NF 0 0 w 85 [(0, (2, 44)), (1, (0, v1))] [(0, s1), (2, 75)] (f_R_begin2_85 k43 v1 s1 w) := by
  unfold f_R_begin2_85
  refine vf_iconst C (z := 0) (zdg dz_R_begin2_2 1 rfl) (jz rfl) ?_
  exact t_R_begin2_86 C hn hR hr hk43 _ _ _ _
def f_R_begin2_43 : Nat → Int → Wd → Option (Int × Wd)
  | 0, _, _ => none
  | n + 1, v1, w =>
    if (w 43 40) ≤ v1 then
      jcall (f_R_tellFirst w) fun r10 u11 =>
      some (r10, u11)
    else
      jgd ((0 : Int) ≤ v1 ∧ v1 < 3000) <|
      jgd ((0 : Int) ≤ (0 : Int) ∧ (0 : Int) < 3000) <|
      if (w 71 v1.toNat) = (w32 ((w 71 (0 : Int).toNat) - 1)) then
        jcall (f_R_isNext v1 w) fun r14 u15 =>
        if r14 = 0 then
          f_R_begin2_85 (f_R_begin2_43 n) v1 v1 u15
        else
          f_R_begin2_86 (f_R_begin2_43 n) v1 v1 1 u15
      else
        f_R_begin2_85 (f_R_begin2_43 n) v1 v1 w
theorem t_R_begin2_43 {X : jX} {Qf : Int × Wd → State → Prop} {ad : Nat → Nat} (C : Cx X prog_14_method_81_code "EachBringsAnotherModel") (hn : xn X = 2) (hR : xR X = rmD 20) (hr : Rt X Qf ad prog_14_method_81_code 0) : ∀ (n : Nat) (v1 : Int) (w : Wd), VF X Qf ad NF 0 0 w 43 [(0, (2, 44)), (1, (0, v1))] [] (f_R_begin2_43 n v1 w) := by
  intro n
  induction n with
  | zero => intros; exact vf_no
  | succ n ih =>
    intro v1 w
    rw [f_R_begin2_43]
    refine vf_iload_n C (f := 1) (zdg dz_R_begin2_1 1 rfl) 1 rfl rfl ?_
    refine vf_aload_n C (f := 0) (zdg dz_R_begin2_1 2 rfl) 0 rfl rfl ?_
    refine vf_get C (kd := 0) fl_R_314 sh_43 rfl (by decide) rfl rfl (zdg dz_R_begin2_1 3 rfl) ?_
    refine vf_icmp_ge C (off := 45) (tgt := 93) (zdg dz_R_begin2_1 4 rfl) (by decide) ?_ ?_
    · refine vf_aload_n C (f := 0) (zdg dz_R_begin2_2 5 rfl) 0 rfl rfl ?_
      refine vf_callVi C cy_R_tellFirst ml_R_388 rfl (ct_R_tellFirst _) (S := []) sh_43 (by decide) rfl (jrm_of hR rfl) rfl rfl (Nat.le_of_ble_eq_true rfl) (zdg dz_R_begin2_2 6 rfl) (fun r10 u11 => ?_)
      exact hr _ _ _ _ (fun h => absurd h (by decide)) (zdg dz_R_begin2_2 7 rfl)
    · refine vf_aload_n C (f := 0) (zdg dz_R_begin2_1 5 rfl) 0 rfl rfl ?_
      refine vf_getp C fl_R_113 sh_43 rfl (by decide) rfl (x := 75) rfl (zdg dz_R_begin2_1 6 rfl) ?_
      refine vf_iload_n C (f := 1) (zdg dz_R_begin2_1 7 rfl) 1 rfl rfl ?_
      refine vf_aload_n C (f := 0) (zdg dz_R_begin2_1 8 rfl) 0 rfl rfl ?_
      refine vf_getp C fl_R_104 sh_43 rfl (by decide) rfl (x := 72) rfl (zdg dz_R_begin2_1 9 rfl) ?_
      refine vf_iload_n C (f := 1) (zdg dz_R_begin2_1 10 rfl) 1 rfl rfl ?_
      refine vf_iald C sh_71 (by decide) rfl (mz := 3000) rfl (zdg dz_R_begin2_1 11 rfl) ?_
      refine vf_aload_n C (f := 0) (zdg dz_R_begin2_1 12 rfl) 0 rfl rfl ?_
      refine vf_getp C fl_R_104 sh_43 rfl (by decide) rfl (x := 72) rfl (zdg dz_R_begin2_1 13 rfl) ?_
      refine vf_iconst C (z := 0) (zdg dz_R_begin2_1 14 rfl) (jz rfl) ?_
      refine vf_iald C sh_71 (by decide) rfl (mz := 3000) rfl (zdg dz_R_begin2_1 15 rfl) ?_
      refine vf_iconst C (z := 1) (zdg dz_R_begin2_1 16 rfl) (jz rfl) ?_
      refine vf_isub C (zdg dz_R_begin2_1 17 rfl) ?_
      refine vf_icmp_ne C (off := 15) (tgt := 85) (zdg dz_R_begin2_1 18 rfl) (by decide) ?_ ?_
      · exact t_R_begin2_85 C hn hR hr ih _ _ _
      · refine vf_aload_n C (f := 0) (zdg dz_R_begin2_1 19 rfl) 0 rfl rfl ?_
        refine vf_iload_n C (f := 1) (zdg dz_R_begin2_1 20 rfl) 1 rfl rfl ?_
        refine vf_callVz C cy_R_isNext ml_R_385 rfl (ct_R_isNext _ _) (S := [(0, v1), (2, 75)]) sh_43 (by decide) rfl (jrm_of hR rfl) rfl rfl (Nat.le_of_ble_eq_true rfl) (zdg dz_R_begin2_1 21 rfl) (fun r14 u15 => ?_)
        refine vf_if_eq C (off := 7) (tgt := 85) (zdg dz_R_begin2_1 22 rfl) (by decide) ?_ ?_
        · exact t_R_begin2_85 C hn hR hr ih _ _ _
        · refine vf_iconst C (z := 1) (zdg dz_R_begin2_1 23 rfl) (jz rfl) ?_
          refine vf_goto C (off := 4) (tgt := 86) (zdg dz_R_begin2_2 0 rfl) (by decide) ?_
          exact t_R_begin2_86 C hn hR hr ih _ _ _ _
def f_R_begin2 (w : Wd) : Option (Int × Wd) :=
  jlw (st w 43 16 0) fun u1 =>
  jcall (f_R_findStates 0 u1) fun r2 u3 =>
  if r2 = 0 then
    some ((-3), u3)
  else
    jcall (f_R_all u3) fun r4 u5 =>
    jcall (f_R_findLife r4 u5) fun r6 u7 =>
    jgd ((0 : Int) ≤ (0 : Int) ∧ (0 : Int) < 3000) <|
    if (1 : Int) ≤ (u7 71 (0 : Int).toNat) then
      jcall (f_R_findNext u7) fun r8 u9 =>
      f_R_begin2_43 FU 0 u9
    else
      some ((-2), u7)
theorem ct_R_begin2 (w : Wd) : Ct y_R_begin2 prog_14_method_81_code 2 (some .int) 20 0 [(2, 44)] w (f_R_begin2 w) := by
  refine ct_of (by decide +kernel) (Or.inl ⟨rfl, rfl⟩) (Nat.le_of_ble_eq_true rfl) ?_
  intro X Qf ad C hn hR hr
  unfold f_R_begin2
  show VF X Qf ad NF 0 0 w 0 [(0, (2, 44))] [] _
  refine vf_aload_n C (f := 0) (zdg dz_R_begin2_0 0 rfl) 0 rfl rfl ?_
  refine vf_iconst C (z := 0) (zdg dz_R_begin2_0 1 rfl) (jz rfl) ?_
  refine vf_put C (kd := 0) fl_R_138 fk_11_16 sh_43 rfl (by decide) rfl rfl (by decide) (zdg dz_R_begin2_0 2 rfl) ?_
  generalize st w 43 16 0 = u1
  refine vf_uw ?_
  refine vf_aload_n C (f := 0) (zdg dz_R_begin2_0 3 rfl) 0 rfl rfl ?_
  refine vf_iconst C (z := 0) (zdg dz_R_begin2_0 4 rfl) (jz rfl) ?_
  refine vf_callVz C cy_R_findStates ml_R_342 rfl (ct_R_findStates _ _) (S := []) sh_43 (by decide) rfl (jrm_of hR rfl) rfl rfl (Nat.le_of_ble_eq_true rfl) (zdg dz_R_begin2_0 5 rfl) (fun r2 u3 => ?_)
  refine vf_if_ne C (off := 6) (tgt := 16) (zdg dz_R_begin2_0 6 rfl) (by decide) ?_ ?_
  · refine vf_aload_n C (f := 0) (zdg dz_R_begin2_0 9 rfl) 0 rfl rfl ?_
    refine vf_aload_n C (f := 0) (zdg dz_R_begin2_0 10 rfl) 0 rfl rfl ?_
    refine vf_callVi C cy_R_all ml_R_370 rfl (ct_R_all _) (S := [(2, 44)]) sh_43 (by decide) rfl (jrm_of hR rfl) rfl rfl (Nat.le_of_ble_eq_true rfl) (zdg dz_R_begin2_0 11 rfl) (fun r4 u5 => ?_)
    refine vf_callVv C cy_R_findLife ml_R_373 rfl (ct_R_findLife _ _) (S := []) sh_43 (by decide) rfl (jrm_of hR rfl) rfl rfl (Nat.le_of_ble_eq_true rfl) (zdg dz_R_begin2_0 12 rfl) (fun r6 u7 => ?_)
    refine vf_aload_n C (f := 0) (zdg dz_R_begin2_0 13 rfl) 0 rfl rfl ?_
    refine vf_getp C fl_R_104 sh_43 rfl (by decide) rfl (x := 72) rfl (zdg dz_R_begin2_0 14 rfl) ?_
    refine vf_iconst C (z := 0) (zdg dz_R_begin2_0 15 rfl) (jz rfl) ?_
    refine vf_iald C sh_71 (by decide) rfl (mz := 3000) rfl (zdg dz_R_begin2_0 16 rfl) ?_
    refine vf_iconst C (z := 1) (zdg dz_R_begin2_0 17 rfl) (jz rfl) ?_
    refine vf_icmp_ge C (off := 6) (tgt := 37) (zdg dz_R_begin2_0 18 rfl) (by decide) ?_ ?_
    · refine vf_aload_n C (f := 0) (zdg dz_R_begin2_0 21 rfl) 0 rfl rfl ?_
      refine vf_callVv C cy_R_findNext ml_R_382 rfl (ct_R_findNext _) (S := []) sh_43 (by decide) rfl (jrm_of hR rfl) rfl rfl (Nat.le_of_ble_eq_true rfl) (zdg dz_R_begin2_0 22 rfl) (fun r8 u9 => ?_)
      refine vf_iconst C (z := 0) (zdg dz_R_begin2_0 23 rfl) (jz rfl) ?_
      refine vf_istore_n C (f := 1) (L' := [(0, (2, 44))]) (zdg dz_R_begin2_1 0 rfl) [0] (jrI rfl rfl) hn (by decide) rfl ?_
      exact vf_perm [1, 0] rfl (t_R_begin2_43 C hn hR hr FU _ _)
    · refine vf_bipush C (z := (-2)) (zdg dz_R_begin2_0 19 rfl) (by decide +kernel) (jz rfl) ?_
      exact hr _ _ _ _ (fun h => absurd h (by decide)) (zdg dz_R_begin2_0 20 rfl)
  · refine vf_bipush C (z := (-3)) (zdg dz_R_begin2_0 7 rfl) (by decide +kernel) (jz rfl) ?_
    exact hr _ _ _ _ (fun h => absurd h (by decide)) (zdg dz_R_begin2_0 8 rfl)
def f_R_cheap_279 (k229 : Int → Int → Int → Wd → Option (Int × Wd)) (v1 v2 v3 s1 s2 : Int) (w : Wd) : Option (Int × Wd) :=
  jgd ((0 : Int) ≤ s1 ∧ s1 < 3000) <|
  jlw (st w 74 s1.toNat (nz s2)) fun u16 =>
  jlet (w32 (v3 + 1)) fun x17 =>
  k229 v1 v2 x17 u16
theorem t_R_cheap_279 {X : jX} {Qf : Int × Wd → State → Prop} {ad : Nat → Nat} (C : Cx X prog_14_method_84_code "EachBringsAnotherModel") (hn : xn X = 7) (hR : xR X = rmD 20) (hr : Rt X Qf ad prog_14_method_84_code 0) {k229 : Int → Int → Int → Wd → Option (Int × Wd)} (hk229 : ∀ (v1 v2 v3 : Int) (w : Wd), VF X Qf ad NF 0 0 w 229 [(0, (2, 44)), (1, (0, v1)), (2, (0, v2)), (3, (0, v3))] [] (k229 v1 v2 v3 w)) (v1 v2 v3 s1 s2 : Int) (w : Wd) : VF X Qf ad NF 0 0 w 279 [(0, (2, 44)), (1, (0, v1)), (2, (0, v2)), (3, (0, v3))] [(0, s2), (0, s1), (2, 75)] (f_R_cheap_279 k229 v1 v2 v3 s1 s2 w) := by
  unfold f_R_cheap_279
  refine vf_zast C sh_74 (by decide) rfl (mz := 3000) rfl (zdg dz_R_cheap_6 13 rfl) ?_
  generalize st w 74 s1.toNat (nz s2) = u16
  refine vf_uw ?_
  refine vf_iinc C (z := 1) (L' := [(0, (2, 44)), (1, (0, v1)), (2, (0, v2))]) (zdg dz_R_cheap_6 14 rfl) 3 rfl [0, 1, 2] (jrI rfl rfl) hn (by decide) ?_
  generalize w32 (v3 + 1) = x17
  refine vf_ul ?_
  refine vf_goto C (off := (-54)) (tgt := 229) (zdg dz_R_cheap_6 15 rfl) (by decide) ?_
  exact vf_perm [1, 2, 3, 0] rfl (hk229 _ _ _ _)
def f_R_cheap_278 (k229 : Int → Int → Int → Wd → Option (Int × Wd)) (v1 v2 v3 s1 : Int) (w : Wd) : Option (Int × Wd) :=
  f_R_cheap_279 k229 v1 v2 v3 s1 0 w
theorem t_R_cheap_278 {X : jX} {Qf : Int × Wd → State → Prop} {ad : Nat → Nat} (C : Cx X prog_14_method_84_code "EachBringsAnotherModel") (hn : xn X = 7) (hR : xR X = rmD 20) (hr : Rt X Qf ad prog_14_method_84_code 0) {k229 : Int → Int → Int → Wd → Option (Int × Wd)} (hk229 : ∀ (v1 v2 v3 : Int) (w : Wd), VF X Qf ad NF 0 0 w 229 [(0, (2, 44)), (1, (0, v1)), (2, (0, v2)), (3, (0, v3))] [] (k229 v1 v2 v3 w)) (v1 v2 v3 s1 : Int) (w : Wd) : VF X Qf ad NF 0 0 w 278 [(0, (2, 44)), (1, (0, v1)), (2, (0, v2)), (3, (0, v3))] [(0, s1), (2, 75)] (f_R_cheap_278 k229 v1 v2 v3 s1 w) := by
  unfold f_R_cheap_278
  refine vf_iconst C (z := 0) (zdg dz_R_cheap_6 12 rfl) (jz rfl) ?_
  exact t_R_cheap_279 C hn hR hr hk229 _ _ _ _ _ _
def f_R_cheap_229 : Nat → Int → Int → Int → Wd → Option (Int × Wd)
  | 0, _, _, _, _ => none
  | n + 1, v1, v2, v3, w =>
    if (w 43 40) ≤ v3 then
      jcall (f_R_tellFirst w) fun r12 u13 =>
      some (v2, u13)
    else
      jcall (f_R_isNext v3 w) fun r14 u15 =>
      if r14 = 0 then
        f_R_cheap_278 (f_R_cheap_229 n) v1 v2 v3 v3 u15
      else
        jgd ((0 : Int) ≤ (w32 ((w32 ((w32 (45 * v3)) + v1)) - 1)) ∧ (w32 ((w32 ((w32 (45 * v3)) + v1)) - 1)) < 135000) <|
        jcall (f_R_costOf 0 v3 u15) fun r18 u19 =>
        if (w32 ((u15 77 (w32 ((w32 ((w32 (45 * v3)) + v1)) - 1)).toNat) + r18)) = v2 then
          f_R_cheap_279 (f_R_cheap_229 n) v1 v2 v3 v3 1 u19
        else
          f_R_cheap_278 (f_R_cheap_229 n) v1 v2 v3 v3 u19
theorem t_R_cheap_229 {X : jX} {Qf : Int × Wd → State → Prop} {ad : Nat → Nat} (C : Cx X prog_14_method_84_code "EachBringsAnotherModel") (hn : xn X = 7) (hR : xR X = rmD 20) (hr : Rt X Qf ad prog_14_method_84_code 0) : ∀ (n : Nat) (v1 v2 v3 : Int) (w : Wd), VF X Qf ad NF 0 0 w 229 [(0, (2, 44)), (1, (0, v1)), (2, (0, v2)), (3, (0, v3))] [] (f_R_cheap_229 n v1 v2 v3 w) := by
  intro n
  induction n with
  | zero => intros; exact vf_no
  | succ n ih =>
    intro v1 v2 v3 w
    rw [f_R_cheap_229]
    refine vf_iload_n C (f := 3) (zdg dz_R_cheap_5 6 rfl) 3 rfl rfl ?_
    refine vf_aload_n C (f := 0) (zdg dz_R_cheap_5 7 rfl) 0 rfl rfl ?_
    refine vf_get C (kd := 0) fl_R_314 sh_43 rfl (by decide) rfl rfl (zdg dz_R_cheap_5 8 rfl) ?_
    refine vf_icmp_ge C (off := 52) (tgt := 286) (zdg dz_R_cheap_5 9 rfl) (by decide) ?_ ?_
    · refine vf_aload_n C (f := 0) (zdg dz_R_cheap_6 16 rfl) 0 rfl rfl ?_
      refine vf_callVi C cy_R_tellFirst ml_R_388 rfl (ct_R_tellFirst _) (S := []) sh_43 (by decide) rfl (jrm_of hR rfl) rfl rfl (Nat.le_of_ble_eq_true rfl) (zdg dz_R_cheap_6 17 rfl) (fun r12 u13 => ?_)
      refine vf_pop C (zdg dz_R_cheap_6 18 rfl) Nat.zero_ne_one ?_
      refine vf_iload_n C (f := 2) (zdg dz_R_cheap_6 19 rfl) 2 rfl rfl ?_
      exact hr _ _ _ _ (fun h => absurd h (by decide)) (zdg dz_R_cheap_6 20 rfl)
    · refine vf_aload_n C (f := 0) (zdg dz_R_cheap_5 10 rfl) 0 rfl rfl ?_
      refine vf_getp C fl_R_113 sh_43 rfl (by decide) rfl (x := 75) rfl (zdg dz_R_cheap_5 11 rfl) ?_
      refine vf_iload_n C (f := 3) (zdg dz_R_cheap_5 12 rfl) 3 rfl rfl ?_
      refine vf_aload_n C (f := 0) (zdg dz_R_cheap_5 13 rfl) 0 rfl rfl ?_
      refine vf_iload_n C (f := 3) (zdg dz_R_cheap_5 14 rfl) 3 rfl rfl ?_
      refine vf_callVz C cy_R_isNext ml_R_385 rfl (ct_R_isNext _ _) (S := [(0, v3), (2, 75)]) sh_43 (by decide) rfl (jrm_of hR rfl) rfl rfl (Nat.le_of_ble_eq_true rfl) (zdg dz_R_cheap_5 15 rfl) (fun r14 u15 => ?_)
      refine vf_if_eq C (off := 31) (tgt := 278) (zdg dz_R_cheap_5 16 rfl) (by decide) ?_ ?_
      · exact t_R_cheap_278 C hn hR hr ih _ _ _ _ _
      · refine vf_aload_n C (f := 0) (zdg dz_R_cheap_5 17 rfl) 0 rfl rfl ?_
        refine vf_getp C fl_R_123 sh_43 rfl (by decide) rfl (x := 78) rfl (zdg dz_R_cheap_5 18 rfl) ?_
        refine vf_bipush C (z := 45) (zdg dz_R_cheap_5 19 rfl) (by decide +kernel) (jz rfl) ?_
        refine vf_iload_n C (f := 3) (zdg dz_R_cheap_5 20 rfl) 3 rfl rfl ?_
        refine vf_imul C (zdg dz_R_cheap_5 21 rfl) ?_
        refine vf_iload_n C (f := 1) (zdg dz_R_cheap_5 22 rfl) 1 rfl rfl ?_
        refine vf_iadd C (zdg dz_R_cheap_5 23 rfl) ?_
        refine vf_iconst C (z := 1) (zdg dz_R_cheap_6 0 rfl) (jz rfl) ?_
        refine vf_isub C (zdg dz_R_cheap_6 1 rfl) ?_
        refine vf_iald C sh_77 (by decide) rfl (mz := 135000) rfl (zdg dz_R_cheap_6 2 rfl) ?_
        refine vf_aload_n C (f := 0) (zdg dz_R_cheap_6 3 rfl) 0 rfl rfl ?_
        refine vf_iconst C (z := 0) (zdg dz_R_cheap_6 4 rfl) (jz rfl) ?_
        refine vf_iload_n C (f := 3) (zdg dz_R_cheap_6 5 rfl) 3 rfl rfl ?_
        refine vf_callVi C cy_R_costOf ml_R_349 rfl (ct_R_costOf _ _ _) (S := [(0, u15 77 (w32 ((w32 ((w32 (45 * v3)) + v1)) - 1)).toNat), (0, v3), (2, 75)]) sh_43 (by decide) rfl (jrm_of hR rfl) rfl rfl (Nat.le_of_ble_eq_true rfl) (zdg dz_R_cheap_6 6 rfl) (fun r18 u19 => ?_)
        refine vf_iadd C (zdg dz_R_cheap_6 7 rfl) ?_
        refine vf_iload_n C (f := 2) (zdg dz_R_cheap_6 8 rfl) 2 rfl rfl ?_
        refine vf_icmp_ne C (off := 7) (tgt := 278) (zdg dz_R_cheap_6 9 rfl) (by decide) ?_ ?_
        · exact t_R_cheap_278 C hn hR hr ih _ _ _ _ _
        · refine vf_iconst C (z := 1) (zdg dz_R_cheap_6 10 rfl) (jz rfl) ?_
          refine vf_goto C (off := 4) (tgt := 279) (zdg dz_R_cheap_6 11 rfl) (by decide) ?_
          exact t_R_cheap_279 C hn hR hr ih _ _ _ _ _ _
def f_R_cheap_163 (k40 : Int → Int → Wd → Option (Int × Wd)) (k58 : Int → Int → Int → Int → Wd → Option (Int × Wd)) (v1 v2 v3 v4 v5 : Int) (w : Wd) : Option (Int × Wd) :=
  jgd ((0 : Int) ≤ (w32 ((w32 (45 * v3)) + v4)) ∧ (w32 ((w32 (45 * v3)) + v4)) < 135000) <|
  jlw (st w 77 (w32 ((w32 (45 * v3)) + v4)).toNat ((imin v5 1000000))) fun u24 =>
  jlet (w32 (v4 + 1)) fun x25 =>
  k58 v1 v2 v3 x25 u24
theorem t_R_cheap_163 {X : jX} {Qf : Int × Wd → State → Prop} {ad : Nat → Nat} (C : Cx X prog_14_method_84_code "EachBringsAnotherModel") (hn : xn X = 7) (hR : xR X = rmD 20) (hr : Rt X Qf ad prog_14_method_84_code 0) {k40 : Int → Int → Wd → Option (Int × Wd)} (hk40 : ∀ (v1 v2 : Int) (w : Wd), VF X Qf ad NF 0 0 w 40 [(0, (2, 44)), (1, (0, v1)), (2, (0, v2))] [] (k40 v1 v2 w)) {k58 : Int → Int → Int → Int → Wd → Option (Int × Wd)} (hk58 : ∀ (v1 v2 v3 v4 : Int) (w : Wd), VF X Qf ad NF 0 0 w 58 [(0, (2, 44)), (1, (0, v1)), (2, (0, v2)), (3, (0, v3)), (4, (0, v4))] [] (k58 v1 v2 v3 v4 w)) (v1 v2 v3 v4 v5 : Int) (w : Wd) : VF X Qf ad NF 0 0 w 163 [(0, (2, 44)), (1, (0, v1)), (2, (0, v2)), (3, (0, v3)), (4, (0, v4)), (5, (0, v5))] [] (f_R_cheap_163 k40 k58 v1 v2 v3 v4 v5 w) := by
  unfold f_R_cheap_163
  refine vf_aload_n C (f := 0) (zdg dz_R_cheap_3 18 rfl) 0 rfl rfl ?_
  refine vf_getp C fl_R_123 sh_43 rfl (by decide) rfl (x := 78) rfl (zdg dz_R_cheap_3 19 rfl) ?_
  refine vf_bipush C (z := 45) (zdg dz_R_cheap_3 20 rfl) (by decide +kernel) (jz rfl) ?_
  refine vf_iload_n C (f := 3) (zdg dz_R_cheap_3 21 rfl) 3 rfl rfl ?_
  refine vf_imul C (zdg dz_R_cheap_3 22 rfl) ?_
  refine vf_iload C (zdg dz_R_cheap_3 23 rfl) 4 rfl ?_
  refine vf_iadd C (zdg dz_R_cheap_4 0 rfl) ?_
  refine vf_iload C (zdg dz_R_cheap_4 1 rfl) 5 rfl ?_
  refine vf_ldcw C (z := 1000000) (i := 348) (zdg dz_R_cheap_4 2 rfl) kc_R_348 (by decide +kernel) (jz rfl) ?_
  refine vf_mmin C ml_R_262 (jrm_n hR (by decide)) ⟨Nat.zero_le _, Nat.zero_le _⟩ (Nat.le_of_ble_eq_true rfl) (zdg dz_R_cheap_4 3 rfl) ?_
  refine vf_iast C sh_77 (by decide) rfl (mz := 135000) rfl (zdg dz_R_cheap_4 4 rfl) ?_
  generalize st w 77 (w32 ((w32 (45 * v3)) + v4)).toNat ((imin v5 1000000)) = u24
  refine vf_uw ?_
  refine vf_iinc C (z := 1) (L' := [(0, (2, 44)), (1, (0, v1)), (2, (0, v2)), (3, (0, v3))]) (zdg dz_R_cheap_4 5 rfl) 4 rfl [0, 1, 2, 3] (jrI rfl rfl) hn (by decide) ?_
  generalize w32 (v4 + 1) = x25
  refine vf_ul ?_
  refine vf_goto C (off := (-128)) (tgt := 58) (zdg dz_R_cheap_4 6 rfl) (by decide) ?_
  exact vf_perm [1, 2, 3, 4, 0] rfl (hk58 _ _ _ _ _)
def f_R_cheap_99 (k40 : Int → Int → Wd → Option (Int × Wd)) (k58 : Int → Int → Int → Int → Wd → Option (Int × Wd)) : Nat → Int → Int → Int → Int → Int → Int → Wd → Option (Int × Wd)
  | 0, _, _, _, _, _, _, _ => none
  | n + 1, v1, v2, v3, v4, v5, v6, w =>
    jgd ((0 : Int) ≤ (w32 (v3 + 1)) ∧ (w32 (v3 + 1)) < 3001) <|
    if (w 64 (w32 (v3 + 1)).toNat) ≤ v6 then
      f_R_cheap_163 k40 k58 v1 v2 v3 v4 v5 w
    else
      if v4 ≤ 0 then
        f_R_cheap_163 k40 k58 v1 v2 v3 v4 v5 w
      else
        jgd ((0 : Int) ≤ v6 ∧ v6 < 756000) <|
        jgd ((0 : Int) ≤ (w32 ((w32 ((w32 (45 * (w 65 v6.toNat))) + v4)) - 1)) ∧ (w32 ((w32 ((w32 (45 * (w 65 v6.toNat))) + v4)) - 1)) < 135000) <|
        jgd ((0 : Int) ≤ v6 ∧ v6 < 756000) <|
        jcall (f_R_costOf v3 (w 65 v6.toNat) w) fun r27 u28 =>
        jlet (imin v5 (w32 ((w 77 (w32 ((w32 ((w32 (45 * (w 65 v6.toNat))) + v4)) - 1)).toNat) + r27))) fun x29 =>
        jlet (w32 (v6 + 1)) fun x30 =>
        f_R_cheap_99 k40 k58 n v1 v2 v3 v4 x29 x30 u28
theorem t_R_cheap_99 {X : jX} {Qf : Int × Wd → State → Prop} {ad : Nat → Nat} (C : Cx X prog_14_method_84_code "EachBringsAnotherModel") (hn : xn X = 7) (hR : xR X = rmD 20) (hr : Rt X Qf ad prog_14_method_84_code 0) {k40 : Int → Int → Wd → Option (Int × Wd)} (hk40 : ∀ (v1 v2 : Int) (w : Wd), VF X Qf ad NF 0 0 w 40 [(0, (2, 44)), (1, (0, v1)), (2, (0, v2))] [] (k40 v1 v2 w)) {k58 : Int → Int → Int → Int → Wd → Option (Int × Wd)} (hk58 : ∀ (v1 v2 v3 v4 : Int) (w : Wd), VF X Qf ad NF 0 0 w 58 [(0, (2, 44)), (1, (0, v1)), (2, (0, v2)), (3, (0, v3)), (4, (0, v4))] [] (k58 v1 v2 v3 v4 w)) : ∀ (n : Nat) (v1 v2 v3 v4 v5 v6 : Int) (w : Wd), VF X Qf ad NF 0 0 w 99 [(0, (2, 44)), (1, (0, v1)), (2, (0, v2)), (3, (0, v3)), (4, (0, v4)), (5, (0, v5)), (6, (0, v6))] [] (f_R_cheap_99 k40 k58 n v1 v2 v3 v4 v5 v6 w) := by
  intro n
  induction n with
  | zero => intros; exact vf_no
  | succ n ih =>
    intro v1 v2 v3 v4 v5 v6 w
    rw [f_R_cheap_99]
    refine vf_iload C (zdg dz_R_cheap_2 6 rfl) 6 rfl ?_
    refine vf_aload_n C (f := 0) (zdg dz_R_cheap_2 7 rfl) 0 rfl rfl ?_
    refine vf_getp C fl_R_82 sh_43 rfl (by decide) rfl (x := 65) rfl (zdg dz_R_cheap_2 8 rfl) ?_
    refine vf_iload_n C (f := 3) (zdg dz_R_cheap_2 9 rfl) 3 rfl rfl ?_
    refine vf_iconst C (z := 1) (zdg dz_R_cheap_2 10 rfl) (jz rfl) ?_
    refine vf_iadd C (zdg dz_R_cheap_2 11 rfl) ?_
    refine vf_iald C sh_64 (by decide) rfl (mz := 3001) rfl (zdg dz_R_cheap_2 12 rfl) ?_
    refine vf_icmp_ge C (off := 54) (tgt := 163) (zdg dz_R_cheap_2 13 rfl) (by decide) ?_ ?_
    · exact vf_perm [0, 1, 2, 3, 4, 5] rfl (t_R_cheap_163 C hn hR hr hk40 hk58 _ _ _ _ _ _)
    · refine vf_iload C (zdg dz_R_cheap_2 14 rfl) 4 rfl ?_
      refine vf_if_le C (off := 49) (tgt := 163) (zdg dz_R_cheap_2 15 rfl) (by decide) ?_ ?_
      · exact vf_perm [0, 1, 2, 3, 4, 5] rfl (t_R_cheap_163 C hn hR hr hk40 hk58 _ _ _ _ _ _)
      · refine vf_iload C (zdg dz_R_cheap_2 16 rfl) 5 rfl ?_
        refine vf_aload_n C (f := 0) (zdg dz_R_cheap_2 17 rfl) 0 rfl rfl ?_
        refine vf_getp C fl_R_123 sh_43 rfl (by decide) rfl (x := 78) rfl (zdg dz_R_cheap_2 18 rfl) ?_
        refine vf_bipush C (z := 45) (zdg dz_R_cheap_2 19 rfl) (by decide +kernel) (jz rfl) ?_
        refine vf_aload_n C (f := 0) (zdg dz_R_cheap_2 20 rfl) 0 rfl rfl ?_
        refine vf_getp C fl_R_86 sh_43 rfl (by decide) rfl (x := 66) rfl (zdg dz_R_cheap_2 21 rfl) ?_
        refine vf_iload C (zdg dz_R_cheap_2 22 rfl) 6 rfl ?_
        refine vf_iald C sh_65 (by decide) rfl (mz := 756000) rfl (zdg dz_R_cheap_2 23 rfl) ?_
        refine vf_imul C (zdg dz_R_cheap_3 0 rfl) ?_
        refine vf_iload C (zdg dz_R_cheap_3 1 rfl) 4 rfl ?_
        refine vf_iadd C (zdg dz_R_cheap_3 2 rfl) ?_
        refine vf_iconst C (z := 1) (zdg dz_R_cheap_3 3 rfl) (jz rfl) ?_
        refine vf_isub C (zdg dz_R_cheap_3 4 rfl) ?_
        refine vf_iald C sh_77 (by decide) rfl (mz := 135000) rfl (zdg dz_R_cheap_3 5 rfl) ?_
        refine vf_aload_n C (f := 0) (zdg dz_R_cheap_3 6 rfl) 0 rfl rfl ?_
        refine vf_iload_n C (f := 3) (zdg dz_R_cheap_3 7 rfl) 3 rfl rfl ?_
        refine vf_aload_n C (f := 0) (zdg dz_R_cheap_3 8 rfl) 0 rfl rfl ?_
        refine vf_getp C fl_R_86 sh_43 rfl (by decide) rfl (x := 66) rfl (zdg dz_R_cheap_3 9 rfl) ?_
        refine vf_iload C (zdg dz_R_cheap_3 10 rfl) 6 rfl ?_
        refine vf_iald C sh_65 (by decide) rfl (mz := 756000) rfl (zdg dz_R_cheap_3 11 rfl) ?_
        refine vf_callVi C cy_R_costOf ml_R_349 rfl (ct_R_costOf _ _ _) (S := [(0, w 77 (w32 ((w32 ((w32 (45 * (w 65 v6.toNat))) + v4)) - 1)).toNat), (0, v5)]) sh_43 (by decide) rfl (jrm_of hR rfl) rfl rfl (Nat.le_of_ble_eq_true rfl) (zdg dz_R_cheap_3 12 rfl) (fun r27 u28 => ?_)
        refine vf_iadd C (zdg dz_R_cheap_3 13 rfl) ?_
        refine vf_mmin C ml_R_262 (jrm_n hR (by decide)) ⟨Nat.zero_le _, Nat.zero_le _⟩ (Nat.le_of_ble_eq_true rfl) (zdg dz_R_cheap_3 14 rfl) ?_
        generalize imin v5 (w32 ((w 77 (w32 ((w32 ((w32 (45 * (w 65 v6.toNat))) + v4)) - 1)).toNat) + r27)) = x29
        refine vf_ul ?_
        refine vf_istore C (i := 5) (L' := [(0, (2, 44)), (1, (0, v1)), (2, (0, v2)), (3, (0, v3)), (4, (0, v4)), (6, (0, v6))]) (zdg dz_R_cheap_3 15 rfl) [0, 1, 2, 3, 4, 6] (jrI rfl rfl) hn (by decide) ?_
        refine vf_iinc C (z := 1) (L' := [(5, (0, x29)), (0, (2, 44)), (1, (0, v1)), (2, (0, v2)), (3, (0, v3)), (4, (0, v4))]) (zdg dz_R_cheap_3 16 rfl) 6 rfl [0, 1, 2, 3, 4, 5] (jrI rfl rfl) hn (by decide) ?_
        generalize w32 (v6 + 1) = x30
        refine vf_ul ?_
        refine vf_goto C (off := (-61)) (tgt := 99) (zdg dz_R_cheap_3 17 rfl) (by decide) ?_
        exact vf_perm [2, 3, 4, 5, 6, 1, 0] rfl (ih _ _ _ _ _ _ _)
def f_R_cheap_89 (k40 : Int → Int → Wd → Option (Int × Wd)) (k58 : Int → Int → Int → Int → Wd → Option (Int × Wd)) (v1 v2 v3 v4 s0 : Int) (w : Wd) : Option (Int × Wd) :=
  jgd ((0 : Int) ≤ v3 ∧ v3 < 3001) <|
  jlet (w 64 v3.toNat) fun x26 =>
  f_R_cheap_99 k40 k58 FU v1 v2 v3 v4 s0 x26 w
theorem t_R_cheap_89 {X : jX} {Qf : Int × Wd → State → Prop} {ad : Nat → Nat} (C : Cx X prog_14_method_84_code "EachBringsAnotherModel") (hn : xn X = 7) (hR : xR X = rmD 20) (hr : Rt X Qf ad prog_14_method_84_code 0) {k40 : Int → Int → Wd → Option (Int × Wd)} (hk40 : ∀ (v1 v2 : Int) (w : Wd), VF X Qf ad NF 0 0 w 40 [(0, (2, 44)), (1, (0, v1)), (2, (0, v2))] [] (k40 v1 v2 w)) {k58 : Int → Int → Int → Int → Wd → Option (Int × Wd)} (hk58 : ∀ (v1 v2 v3 v4 : Int) (w : Wd), VF X Qf ad NF 0 0 w 58 [(0, (2, 44)), (1, (0, v1)), (2, (0, v2)), (3, (0, v3)), (4, (0, v4))] [] (k58 v1 v2 v3 v4 w)) (v1 v2 v3 v4 s0 : Int) (w : Wd) : VF X Qf ad NF 0 0 w 89 [(0, (2, 44)), (1, (0, v1)), (2, (0, v2)), (3, (0, v3)), (4, (0, v4))] [(0, s0)] (f_R_cheap_89 k40 k58 v1 v2 v3 v4 s0 w) := by
  unfold f_R_cheap_89
  refine vf_istore C (i := 5) (L' := [(0, (2, 44)), (1, (0, v1)), (2, (0, v2)), (3, (0, v3)), (4, (0, v4))]) (zdg dz_R_cheap_2 0 rfl) [0, 1, 2, 3, 4] (jrI rfl rfl) hn (by decide) ?_
  refine vf_aload_n C (f := 0) (zdg dz_R_cheap_2 1 rfl) 1 rfl rfl ?_
  refine vf_getp C fl_R_82 sh_43 rfl (by decide) rfl (x := 65) rfl (zdg dz_R_cheap_2 2 rfl) ?_
  refine vf_iload_n C (f := 3) (zdg dz_R_cheap_2 3 rfl) 4 rfl rfl ?_
  refine vf_iald C sh_64 (by decide) rfl (mz := 3001) rfl (zdg dz_R_cheap_2 4 rfl) ?_
  generalize w 64 v3.toNat = x26
  refine vf_ul ?_
  refine vf_istore C (i := 6) (L' := [(5, (0, s0)), (0, (2, 44)), (1, (0, v1)), (2, (0, v2)), (3, (0, v3)), (4, (0, v4))]) (zdg dz_R_cheap_2 5 rfl) [0, 1, 2, 3, 4, 5] (jrI rfl rfl) hn (by decide) ?_
  exact vf_perm [2, 3, 4, 5, 6, 1, 0] rfl (t_R_cheap_99 C hn hR hr hk40 hk58 FU _ _ _ _ _ _ _)
def f_R_cheap_58 (k40 : Int → Int → Wd → Option (Int × Wd)) : Nat → Int → Int → Int → Int → Wd → Option (Int × Wd)
  | 0, _, _, _, _, _ => none
  | n + 1, v1, v2, v3, v4, w =>
    if v1 < v4 then
      jlet (w32 (v2 + 1)) fun x21 =>
      k40 v1 x21 w
    else
      jcall (f_R_guestsIn v3 w) fun r22 u23 =>
      if r22 = 0 then
        f_R_cheap_163 k40 (f_R_cheap_58 k40 n) v1 v2 v3 v4 1000000 u23
      else
        if v4 = 0 then
          f_R_cheap_89 k40 (f_R_cheap_58 k40 n) v1 v2 v3 v4 0 u23
        else
          f_R_cheap_89 k40 (f_R_cheap_58 k40 n) v1 v2 v3 v4 1000000 u23
theorem t_R_cheap_58 {X : jX} {Qf : Int × Wd → State → Prop} {ad : Nat → Nat} (C : Cx X prog_14_method_84_code "EachBringsAnotherModel") (hn : xn X = 7) (hR : xR X = rmD 20) (hr : Rt X Qf ad prog_14_method_84_code 0) {k40 : Int → Int → Wd → Option (Int × Wd)} (hk40 : ∀ (v1 v2 : Int) (w : Wd), VF X Qf ad NF 0 0 w 40 [(0, (2, 44)), (1, (0, v1)), (2, (0, v2))] [] (k40 v1 v2 w)) : ∀ (n : Nat) (v1 v2 v3 v4 : Int) (w : Wd), VF X Qf ad NF 0 0 w 58 [(0, (2, 44)), (1, (0, v1)), (2, (0, v2)), (3, (0, v3)), (4, (0, v4))] [] (f_R_cheap_58 k40 n v1 v2 v3 v4 w) := by
  intro n
  induction n with
  | zero => intros; exact vf_no
  | succ n ih =>
    intro v1 v2 v3 v4 w
    rw [f_R_cheap_58]
    refine vf_iload C (zdg dz_R_cheap_1 10 rfl) 4 rfl ?_
    refine vf_iload_n C (f := 1) (zdg dz_R_cheap_1 11 rfl) 1 rfl rfl ?_
    refine vf_icmp_gt C (off := 128) (tgt := 189) (zdg dz_R_cheap_1 12 rfl) (by decide) ?_ ?_
    · refine vf_iinc C (z := 1) (L' := [(0, (2, 44)), (1, (0, v1))]) (zdg dz_R_cheap_4 7 rfl) 2 rfl [0, 1] (jrI rfl rfl) hn (by decide) ?_
      generalize w32 (v2 + 1) = x21
      refine vf_ul ?_
      refine vf_goto C (off := (-152)) (tgt := 40) (zdg dz_R_cheap_4 8 rfl) (by decide) ?_
      exact vf_perm [1, 2, 0] rfl (hk40 _ _ _)
    · refine vf_ldcw C (z := 1000000) (i := 348) (zdg dz_R_cheap_1 13 rfl) kc_R_348 (by decide +kernel) (jz rfl) ?_
      refine vf_istore C (i := 5) (L' := [(0, (2, 44)), (1, (0, v1)), (2, (0, v2)), (3, (0, v3)), (4, (0, v4))]) (zdg dz_R_cheap_1 14 rfl) [0, 1, 2, 3, 4] (jrI rfl rfl) hn (by decide) ?_
      refine vf_aload_n C (f := 0) (zdg dz_R_cheap_1 15 rfl) 1 rfl rfl ?_
      refine vf_iload_n C (f := 3) (zdg dz_R_cheap_1 16 rfl) 4 rfl rfl ?_
      refine vf_callVi C cy_R_guestsIn ml_R_345 rfl (ct_R_guestsIn _ _) (S := []) sh_43 (by decide) rfl (jrm_of hR rfl) rfl rfl (Nat.le_of_ble_eq_true rfl) (zdg dz_R_cheap_1 17 rfl) (fun r22 u23 => ?_)
      refine vf_if_eq C (off := 89) (tgt := 163) (zdg dz_R_cheap_1 18 rfl) (by decide) ?_ ?_
      · exact vf_perm [1, 2, 3, 4, 5, 0] rfl (t_R_cheap_163 C hn hR hr hk40 ih _ _ _ _ _ _)
      · refine vf_iload C (zdg dz_R_cheap_1 19 rfl) 5 rfl ?_
        refine vf_if_ne C (off := 7) (tgt := 86) (zdg dz_R_cheap_1 20 rfl) (by decide) ?_ ?_
        · refine vf_ldcw C (z := 1000000) (i := 348) (zdg dz_R_cheap_1 23 rfl) kc_R_348 (by decide +kernel) (jz rfl) ?_
          exact vf_perm [1, 2, 3, 4, 5] rfl (t_R_cheap_89 C hn hR hr hk40 ih _ _ _ _ _ _)
        · refine vf_iconst C (z := 0) (zdg dz_R_cheap_1 21 rfl) (jz rfl) ?_
          refine vf_goto C (off := 6) (tgt := 89) (zdg dz_R_cheap_1 22 rfl) (by decide) ?_
          exact vf_perm [1, 2, 3, 4, 5] rfl (t_R_cheap_89 C hn hR hr hk40 ih _ _ _ _ _ _)
def f_R_cheap_40 : Nat → Int → Int → Wd → Option (Int × Wd)
  | 0, _, _, _ => none
  | n + 1, v1, v2, w =>
    if (w 43 40) ≤ v2 then
      jgd ((0 : Int) ≤ v1 ∧ v1 < 135000) <|
      jlet (w 77 v1.toNat) fun x8 =>
      if x8 = 1000000 then
        some ((-2), w)
      else
        jlw (st w 43 15 0) fun u9 =>
        if v1 = 0 then
          some (x8, u9)
        else
          jcall (f_R_findNext u9) fun r10 u11 =>
          f_R_cheap_229 FU v1 x8 0 u11
    else
      jgd ((0 : Int) ≤ v2 ∧ v2 < 3000) <|
      jlet (w 72 v2.toNat) fun x20 =>
      f_R_cheap_58 (f_R_cheap_40 n) FU v1 v2 x20 0 w
theorem t_R_cheap_40 {X : jX} {Qf : Int × Wd → State → Prop} {ad : Nat → Nat} (C : Cx X prog_14_method_84_code "EachBringsAnotherModel") (hn : xn X = 7) (hR : xR X = rmD 20) (hr : Rt X Qf ad prog_14_method_84_code 0) : ∀ (n : Nat) (v1 v2 : Int) (w : Wd), VF X Qf ad NF 0 0 w 40 [(0, (2, 44)), (1, (0, v1)), (2, (0, v2))] [] (f_R_cheap_40 n v1 v2 w) := by
  intro n
  induction n with
  | zero => intros; exact vf_no
  | succ n ih =>
    intro v1 v2 w
    rw [f_R_cheap_40]
    refine vf_iload_n C (f := 2) (zdg dz_R_cheap_0 23 rfl) 2 rfl rfl ?_
    refine vf_aload_n C (f := 0) (zdg dz_R_cheap_1 0 rfl) 0 rfl rfl ?_
    refine vf_get C (kd := 0) fl_R_314 sh_43 rfl (by decide) rfl rfl (zdg dz_R_cheap_1 1 rfl) ?_
    refine vf_icmp_ge C (off := 150) (tgt := 195) (zdg dz_R_cheap_1 2 rfl) (by decide) ?_ ?_
    · refine vf_aload_n C (f := 0) (zdg dz_R_cheap_4 9 rfl) 0 rfl rfl ?_
      refine vf_getp C fl_R_123 sh_43 rfl (by decide) rfl (x := 78) rfl (zdg dz_R_cheap_4 10 rfl) ?_
      refine vf_iload_n C (f := 1) (zdg dz_R_cheap_4 11 rfl) 1 rfl rfl ?_
      refine vf_iald C sh_77 (by decide) rfl (mz := 135000) rfl (zdg dz_R_cheap_4 12 rfl) ?_
      generalize w 77 v1.toNat = x8
      refine vf_ul ?_
      refine vf_istore_n C (f := 2) (L' := [(0, (2, 44)), (1, (0, v1))]) (zdg dz_R_cheap_4 13 rfl) [0, 1] (jrI rfl rfl) hn (by decide) rfl ?_
      refine vf_iload_n C (f := 2) (zdg dz_R_cheap_4 14 rfl) 0 rfl rfl ?_
      refine vf_ldcw C (z := 1000000) (i := 348) (zdg dz_R_cheap_4 15 rfl) kc_R_348 (by decide +kernel) (jz rfl) ?_
      refine vf_icmp_ne C (off := 6) (tgt := 212) (zdg dz_R_cheap_4 16 rfl) (by decide) ?_ ?_
      · refine vf_aload_n C (f := 0) (zdg dz_R_cheap_4 19 rfl) 1 rfl rfl ?_
        refine vf_iconst C (z := 0) (zdg dz_R_cheap_4 20 rfl) (jz rfl) ?_
        refine vf_put C (kd := 0) fl_R_141 fk_11_15 sh_43 rfl (by decide) rfl rfl (by decide) (zdg dz_R_cheap_4 21 rfl) ?_
        generalize st w 43 15 0 = u9
        refine vf_uw ?_
        refine vf_iload_n C (f := 1) (zdg dz_R_cheap_4 22 rfl) 2 rfl rfl ?_
        refine vf_if_ne C (off := 5) (tgt := 223) (zdg dz_R_cheap_4 23 rfl) (by decide) ?_ ?_
        · refine vf_aload_n C (f := 0) (zdg dz_R_cheap_5 2 rfl) 1 rfl rfl ?_
          refine vf_callVv C cy_R_findNext ml_R_382 rfl (ct_R_findNext _) (S := []) sh_43 (by decide) rfl (jrm_of hR rfl) rfl rfl (Nat.le_of_ble_eq_true rfl) (zdg dz_R_cheap_5 3 rfl) (fun r10 u11 => ?_)
          refine vf_iconst C (z := 0) (zdg dz_R_cheap_5 4 rfl) (jz rfl) ?_
          refine vf_istore_n C (f := 3) (L' := [(2, (0, x8)), (0, (2, 44)), (1, (0, v1))]) (zdg dz_R_cheap_5 5 rfl) [0, 1, 2] (jrI rfl rfl) hn (by decide) rfl ?_
          exact vf_perm [2, 3, 1, 0] rfl (t_R_cheap_229 C hn hR hr FU _ _ _ _)
        · refine vf_iload_n C (f := 2) (zdg dz_R_cheap_5 0 rfl) 0 rfl rfl ?_
          exact hr _ _ _ _ (fun h => absurd h (by decide)) (zdg dz_R_cheap_5 1 rfl)
      · refine vf_bipush C (z := (-2)) (zdg dz_R_cheap_4 17 rfl) (by decide +kernel) (jz rfl) ?_
        exact hr _ _ _ _ (fun h => absurd h (by decide)) (zdg dz_R_cheap_4 18 rfl)
    · refine vf_aload_n C (f := 0) (zdg dz_R_cheap_1 3 rfl) 0 rfl rfl ?_
      refine vf_getp C fl_R_107 sh_43 rfl (by decide) rfl (x := 73) rfl (zdg dz_R_cheap_1 4 rfl) ?_
      refine vf_iload_n C (f := 2) (zdg dz_R_cheap_1 5 rfl) 2 rfl rfl ?_
      refine vf_iald C sh_72 (by decide) rfl (mz := 3000) rfl (zdg dz_R_cheap_1 6 rfl) ?_
      generalize w 72 v2.toNat = x20
      refine vf_ul ?_
      refine vf_istore_n C (f := 3) (L' := [(0, (2, 44)), (1, (0, v1)), (2, (0, v2))]) (zdg dz_R_cheap_1 7 rfl) [0, 1, 2] (jrI rfl rfl) hn (by decide) rfl ?_
      refine vf_iconst C (z := 0) (zdg dz_R_cheap_1 8 rfl) (jz rfl) ?_
      refine vf_istore C (i := 4) (L' := [(3, (0, x20)), (0, (2, 44)), (1, (0, v1)), (2, (0, v2))]) (zdg dz_R_cheap_1 9 rfl) [0, 1, 2, 3] (jrI rfl rfl) hn (by decide) ?_
      exact vf_perm [2, 3, 4, 1, 0] rfl (t_R_cheap_58 C hn hR hr ih FU _ _ _ _ _)
def f_R_cheap (v1 : Int) (w : Wd) : Option (Int × Wd) :=
  jlw (st w 43 16 0) fun u1 =>
  jcall (f_R_isWeeks v1 u1) fun r2 u3 =>
  if r2 = 0 then
    some ((-1), u3)
  else
    jcall (f_R_findStates 0 u3) fun r4 u5 =>
    if r4 = 0 then
      some ((-3), u5)
    else
      jcall (f_R_findOrder u5) fun r6 u7 =>
      if v1 < 45 then
        f_R_cheap_40 FU v1 0 u7
      else
        some ((-2), u7)
theorem ct_R_cheap (v1 : Int) (w : Wd) : Ct y_R_cheap prog_14_method_84_code 7 (some .int) 20 0 [(2, 44), (0, v1)] w (f_R_cheap v1 w) := by
  refine ct_of (by decide +kernel) (Or.inl ⟨rfl, rfl⟩) (Nat.le_of_ble_eq_true rfl) ?_
  intro X Qf ad C hn hR hr
  unfold f_R_cheap
  show VF X Qf ad NF 0 0 w 0 [(0, (2, 44)), (1, (0, v1))] [] _
  refine vf_aload_n C (f := 0) (zdg dz_R_cheap_0 0 rfl) 0 rfl rfl ?_
  refine vf_iconst C (z := 0) (zdg dz_R_cheap_0 1 rfl) (jz rfl) ?_
  refine vf_put C (kd := 0) fl_R_138 fk_11_16 sh_43 rfl (by decide) rfl rfl (by decide) (zdg dz_R_cheap_0 2 rfl) ?_
  generalize st w 43 16 0 = u1
  refine vf_uw ?_
  refine vf_iload_n C (f := 1) (zdg dz_R_cheap_0 3 rfl) 1 rfl rfl ?_
  refine vf_callSz C cy_R_isWeeks ml_R_358 (ct_R_isWeeks _ _) (S := []) (jrm_of hR rfl) rfl rfl (Nat.le_of_ble_eq_true rfl) (zdg dz_R_cheap_0 4 rfl) (fun r2 u3 => ?_)
  refine vf_if_ne C (off := 5) (tgt := 14) (zdg dz_R_cheap_0 5 rfl) (by decide) ?_ ?_
  · refine vf_aload_n C (f := 0) (zdg dz_R_cheap_0 8 rfl) 0 rfl rfl ?_
    refine vf_iconst C (z := 0) (zdg dz_R_cheap_0 9 rfl) (jz rfl) ?_
    refine vf_callVz C cy_R_findStates ml_R_342 rfl (ct_R_findStates _ _) (S := []) sh_43 (by decide) rfl (jrm_of hR rfl) rfl rfl (Nat.le_of_ble_eq_true rfl) (zdg dz_R_cheap_0 10 rfl) (fun r4 u5 => ?_)
    refine vf_if_ne C (off := 6) (tgt := 25) (zdg dz_R_cheap_0 11 rfl) (by decide) ?_ ?_
    · refine vf_aload_n C (f := 0) (zdg dz_R_cheap_0 14 rfl) 0 rfl rfl ?_
      refine vf_callVv C cy_R_findOrder ml_R_367 rfl (ct_R_findOrder _) (S := []) sh_43 (by decide) rfl (jrm_of hR rfl) rfl rfl (Nat.le_of_ble_eq_true rfl) (zdg dz_R_cheap_0 15 rfl) (fun r6 u7 => ?_)
      refine vf_iload_n C (f := 1) (zdg dz_R_cheap_0 16 rfl) 1 rfl rfl ?_
      refine vf_bipush C (z := 45) (zdg dz_R_cheap_0 17 rfl) (by decide +kernel) (jz rfl) ?_
      refine vf_icmp_lt C (off := 6) (tgt := 38) (zdg dz_R_cheap_0 18 rfl) (by decide) ?_ ?_
      · refine vf_iconst C (z := 0) (zdg dz_R_cheap_0 21 rfl) (jz rfl) ?_
        refine vf_istore_n C (f := 2) (L' := [(0, (2, 44)), (1, (0, v1))]) (zdg dz_R_cheap_0 22 rfl) [0, 1] (jrI rfl rfl) hn (by decide) rfl ?_
        exact vf_perm [1, 2, 0] rfl (t_R_cheap_40 C hn hR hr FU _ _ _)
      · refine vf_bipush C (z := (-2)) (zdg dz_R_cheap_0 19 rfl) (by decide +kernel) (jz rfl) ?_
        exact hr _ _ _ _ (fun h => absurd h (by decide)) (zdg dz_R_cheap_0 20 rfl)
    · refine vf_bipush C (z := (-3)) (zdg dz_R_cheap_0 12 rfl) (by decide +kernel) (jz rfl) ?_
      exact hr _ _ _ _ (fun h => absurd h (by decide)) (zdg dz_R_cheap_0 13 rfl)
  · refine vf_iconst C (z := (-1)) (zdg dz_R_cheap_0 6 rfl) (jz rfl) ?_
    exact hr _ _ _ _ (fun h => absurd h (by decide)) (zdg dz_R_cheap_0 7 rfl)
def f_R_canWant_154 (rec : Int → Int → Int → Int → Int → Wd → Option (Int × Wd)) (k79 : Int → Int → Int → Int → Int → Int → Wd → Option (Int × Wd)) (v1 v2 v3 v4 v5 v6 : Int) (w : Wd) : Option (Int × Wd) :=
  jlet (w32 (v6 + 1)) fun x7 =>
  k79 v1 v2 v3 v4 v5 x7 w
theorem t_R_canWant_154 {X : jX} {Qf : Int × Wd → State → Prop} {ad : Nat → Nat} (C : Cx X prog_14_method_86_code "EachBringsAnotherModel") (hn : xn X = 7) {dd : Nat} (hR : xR X = rmD (2 + dd + 1)) (hr : Rt X Qf ad prog_14_method_86_code 4) {rec : Int → Int → Int → Int → Int → Wd → Option (Int × Wd)} (hrec : ∀ (v1 v2 v3 v4 v5 : Int) (w : Wd), Ct y_R_canWant prog_14_method_86_code 7 (some .boolean) (2 + dd) 4 [(2, 44), (0, v1), (0, v2), (0, v3), (0, v4), (0, v5)] w (rec v1 v2 v3 v4 v5 w)) {k79 : Int → Int → Int → Int → Int → Int → Wd → Option (Int × Wd)} (hk79 : ∀ (v1 v2 v3 v4 v5 v6 : Int) (w : Wd), VF X Qf ad NF 0 0 w 79 [(0, (2, 44)), (1, (0, v1)), (2, (0, v2)), (3, (0, v3)), (4, (0, v4)), (5, (0, v5)), (6, (0, v6))] [] (k79 v1 v2 v3 v4 v5 v6 w)) (v1 v2 v3 v4 v5 v6 : Int) (w : Wd) : VF X Qf ad NF 0 0 w 154 [(0, (2, 44)), (1, (0, v1)), (2, (0, v2)), (3, (0, v3)), (4, (0, v4)), (5, (0, v5)), (6, (0, v6))] [] (f_R_canWant_154 rec k79 v1 v2 v3 v4 v5 v6 w) := by
  unfold f_R_canWant_154
  refine vf_iinc C (z := 1) (L' := [(0, (2, 44)), (1, (0, v1)), (2, (0, v2)), (3, (0, v3)), (4, (0, v4)), (5, (0, v5))]) (zdg dz_R_canWant_3 19 rfl) 6 rfl [0, 1, 2, 3, 4, 5] (jrI rfl rfl) hn (by decide) ?_
  generalize w32 (v6 + 1) = x7
  refine vf_ul ?_
  refine vf_goto C (off := (-78)) (tgt := 79) (zdg dz_R_canWant_3 20 rfl) (by decide) ?_
  exact vf_perm [1, 2, 3, 4, 5, 6, 0] rfl (hk79 _ _ _ _ _ _ _)
def f_R_canWant_79 (rec : Int → Int → Int → Int → Int → Wd → Option (Int × Wd)) : Nat → Int → Int → Int → Int → Int → Int → Wd → Option (Int × Wd)
  | 0, _, _, _, _, _, _, _ => none
  | n + 1, v1, v2, v3, v4, v5, v6, w =>
    if (w 43 0) ≤ v6 then
      some (0, w)
    else
      jgd ((0 : Int) ≤ v3 ∧ v3 < 10) <|
      jcall (f_R_has (iand (iand (w 45 v3.toNat) (ixor v5 (-1))) (ixor (w 43 44) (-1))) v6 w) fun r5 u6 =>
      if r5 = 0 then
        f_R_canWant_154 rec (f_R_canWant_79 rec n) v1 v2 v3 v4 v5 v6 u6
      else
        jgd ((0 : Int) ≤ v6 ∧ v6 < 10) <|
        if (u6 68 v6.toNat) = 0 then
          jcall (rec v1 v2 (w32 (v3 + 1)) (ior v4 (ishl 1 v3)) (ior v5 (ishl 1 v6)) u6) fun r8 u9 =>
          if r8 = 0 then
            f_R_canWant_154 rec (f_R_canWant_79 rec n) v1 v2 v3 v4 v5 v6 u9
          else
            some (1, u9)
        else
          f_R_canWant_154 rec (f_R_canWant_79 rec n) v1 v2 v3 v4 v5 v6 u6
theorem t_R_canWant_79 {X : jX} {Qf : Int × Wd → State → Prop} {ad : Nat → Nat} (C : Cx X prog_14_method_86_code "EachBringsAnotherModel") (hn : xn X = 7) {dd : Nat} (hR : xR X = rmD (2 + dd + 1)) (hr : Rt X Qf ad prog_14_method_86_code 4) {rec : Int → Int → Int → Int → Int → Wd → Option (Int × Wd)} (hrec : ∀ (v1 v2 v3 v4 v5 : Int) (w : Wd), Ct y_R_canWant prog_14_method_86_code 7 (some .boolean) (2 + dd) 4 [(2, 44), (0, v1), (0, v2), (0, v3), (0, v4), (0, v5)] w (rec v1 v2 v3 v4 v5 w)) : ∀ (n : Nat) (v1 v2 v3 v4 v5 v6 : Int) (w : Wd), VF X Qf ad NF 0 0 w 79 [(0, (2, 44)), (1, (0, v1)), (2, (0, v2)), (3, (0, v3)), (4, (0, v4)), (5, (0, v5)), (6, (0, v6))] [] (f_R_canWant_79 rec n v1 v2 v3 v4 v5 v6 w) := by
  intro n
  induction n with
  | zero => intros; exact vf_no
  | succ n ih =>
    intro v1 v2 v3 v4 v5 v6 w
    rw [f_R_canWant_79]
    refine vf_iload C (zdg dz_R_canWant_1 21 rfl) 6 rfl ?_
    refine vf_aload_n C (f := 0) (zdg dz_R_canWant_1 22 rfl) 0 rfl rfl ?_
    refine vf_get C (kd := 0) fl_R_144 sh_43 rfl (by decide) rfl rfl (zdg dz_R_canWant_1 23 rfl) ?_
    refine vf_icmp_ge C (off := 75) (tgt := 160) (zdg dz_R_canWant_2 0 rfl) (by decide) ?_ ?_
    · refine vf_iconst C (z := 0) (zdg dz_R_canWant_3 21 rfl) (jz rfl) ?_
      exact hr _ _ _ _ (fun _ => Or.inl rfl) (zdg dz_R_canWant_3 22 rfl)
    · refine vf_aload_n C (f := 0) (zdg dz_R_canWant_2 1 rfl) 0 rfl rfl ?_
      refine vf_getp C fl_R_13 sh_43 rfl (by decide) rfl (x := 46) rfl (zdg dz_R_canWant_2 2 rfl) ?_
      refine vf_iload_n C (f := 3) (zdg dz_R_canWant_2 3 rfl) 3 rfl rfl ?_
      refine vf_iald C sh_45 (by decide) rfl (mz := 10) rfl (zdg dz_R_canWant_2 4 rfl) ?_
      refine vf_iload C (zdg dz_R_canWant_2 5 rfl) 5 rfl ?_
      refine vf_iconst C (z := (-1)) (zdg dz_R_canWant_2 6 rfl) (jz rfl) ?_
      refine vf_ixor C (zdg dz_R_canWant_2 7 rfl) ?_
      refine vf_iand C (zdg dz_R_canWant_2 8 rfl) ?_
      refine vf_aload_n C (f := 0) (zdg dz_R_canWant_2 9 rfl) 0 rfl rfl ?_
      refine vf_get C (kd := 0) fl_R_330 sh_43 rfl (by decide) rfl rfl (zdg dz_R_canWant_2 10 rfl) ?_
      refine vf_iconst C (z := (-1)) (zdg dz_R_canWant_2 11 rfl) (jz rfl) ?_
      refine vf_ixor C (zdg dz_R_canWant_2 12 rfl) ?_
      refine vf_iand C (zdg dz_R_canWant_2 13 rfl) ?_
      refine vf_iload C (zdg dz_R_canWant_2 14 rfl) 6 rfl ?_
      refine vf_callSz C cy_R_has ml_R_210 (ct_R_has _ _ _) (S := []) (jrm_o hR (by omega) (by decide)) rfl rfl (Nat.le_of_ble_eq_true rfl) (zdg dz_R_canWant_2 15 rfl) (fun r5 u6 => ?_)
      refine vf_if_eq C (off := 43) (tgt := 154) (zdg dz_R_canWant_2 16 rfl) (by decide) ?_ ?_
      · exact t_R_canWant_154 C hn hR hr hrec ih _ _ _ _ _ _ _
      · refine vf_aload_n C (f := 0) (zdg dz_R_canWant_2 17 rfl) 0 rfl rfl ?_
        refine vf_getp C fl_R_95 sh_43 rfl (by decide) rfl (x := 69) rfl (zdg dz_R_canWant_2 18 rfl) ?_
        refine vf_iload C (zdg dz_R_canWant_2 19 rfl) 6 rfl ?_
        refine vf_iald C sh_68 (by decide) rfl (mz := 10) rfl (zdg dz_R_canWant_2 20 rfl) ?_
        refine vf_if_eq C (off := 6) (tgt := 127) (zdg dz_R_canWant_2 21 rfl) (by decide) ?_ ?_
        · refine vf_aload_n C (f := 0) (zdg dz_R_canWant_2 23 rfl) 0 rfl rfl ?_
          refine vf_iload_n C (f := 1) (zdg dz_R_canWant_3 0 rfl) 1 rfl rfl ?_
          refine vf_iload_n C (f := 2) (zdg dz_R_canWant_3 1 rfl) 2 rfl rfl ?_
          refine vf_iload_n C (f := 3) (zdg dz_R_canWant_3 2 rfl) 3 rfl rfl ?_
          refine vf_iconst C (z := 1) (zdg dz_R_canWant_3 3 rfl) (jz rfl) ?_
          refine vf_iadd C (zdg dz_R_canWant_3 4 rfl) ?_
          refine vf_iload C (zdg dz_R_canWant_3 5 rfl) 4 rfl ?_
          refine vf_iconst C (z := 1) (zdg dz_R_canWant_3 6 rfl) (jz rfl) ?_
          refine vf_iload_n C (f := 3) (zdg dz_R_canWant_3 7 rfl) 3 rfl rfl ?_
          refine vf_ishl C (zdg dz_R_canWant_3 8 rfl) ?_
          refine vf_ior C (zdg dz_R_canWant_3 9 rfl) ?_
          refine vf_iload C (zdg dz_R_canWant_3 10 rfl) 5 rfl ?_
          refine vf_iconst C (z := 1) (zdg dz_R_canWant_3 11 rfl) (jz rfl) ?_
          refine vf_iload C (zdg dz_R_canWant_3 12 rfl) 6 rfl ?_
          refine vf_ishl C (zdg dz_R_canWant_3 13 rfl) ?_
          refine vf_ior C (zdg dz_R_canWant_3 14 rfl) ?_
          refine vf_callVz C cy_R_canWant ml_R_391 rfl (hrec _ _ _ _ _ _) (S := []) sh_43 (by decide) rfl (jrm_o hR (by omega) (by decide)) rfl rfl (Nat.le_of_ble_eq_true rfl) (zdg dz_R_canWant_3 15 rfl) (fun r8 u9 => ?_)
          refine vf_if_eq C (off := 5) (tgt := 154) (zdg dz_R_canWant_3 16 rfl) (by decide) ?_ ?_
          · exact t_R_canWant_154 C hn hR hr hrec ih _ _ _ _ _ _ _
          · refine vf_iconst C (z := 1) (zdg dz_R_canWant_3 17 rfl) (jz rfl) ?_
            exact hr _ _ _ _ (fun _ => Or.inr rfl) (zdg dz_R_canWant_3 18 rfl)
        · refine vf_goto C (off := 30) (tgt := 154) (zdg dz_R_canWant_2 22 rfl) (by decide) ?_
          exact t_R_canWant_154 C hn hR hr hrec ih _ _ _ _ _ _ _
def f_R_canWant_b (rec : Int → Int → Int → Int → Int → Wd → Option (Int × Wd)) (v1 v2 v3 v4 v5 : Int) (w : Wd) : Option (Int × Wd) :=
  if v3 = (w 43 0) then
    jcall (f_R_behind v4 v5 w) fun r10 u11 =>
    if r10 < 0 then
      some (0, u11)
    else
      jgd ((0 : Int) ≤ r10 ∧ r10 < 3000) <|
      if (u11 74 r10.toNat) = 0 then
        some (0, u11)
      else
        some (1, u11)
  else
    jcall (rec v1 v2 (w32 (v3 + 1)) v4 v5 w) fun r1 u2 =>
    if r1 = 0 then
      if v3 = v1 then
        some (0, u2)
      else
        jgd ((0 : Int) ≤ v3 ∧ v3 < 10) <|
        jcall (f_R_isGuest (u2 68 v3.toNat) u2) fun r3 u4 =>
        if r3 = 0 then
          some (0, u4)
        else
          f_R_canWant_79 rec FU v1 v2 v3 v4 v5 0 u4
    else
      some (1, u2)
theorem ct_R_canWant_b {dd : Nat} {rec : Int → Int → Int → Int → Int → Wd → Option (Int × Wd)} (hrec : ∀ (v1 v2 v3 v4 v5 : Int) (w : Wd), Ct y_R_canWant prog_14_method_86_code 7 (some .boolean) (2 + dd) 4 [(2, 44), (0, v1), (0, v2), (0, v3), (0, v4), (0, v5)] w (rec v1 v2 v3 v4 v5 w)) (v1 v2 v3 v4 v5 : Int) (w : Wd) : Ct y_R_canWant prog_14_method_86_code 7 (some .boolean) (2 + dd + 1) 4 [(2, 44), (0, v1), (0, v2), (0, v3), (0, v4), (0, v5)] w (f_R_canWant_b rec v1 v2 v3 v4 v5 w) := by
  refine ct_of (by decide +kernel) (Or.inr (Or.inr (Or.inl ⟨rfl, rfl⟩))) (Nat.le_of_ble_eq_true rfl) ?_
  intro X Qf ad C hn hR hr
  unfold f_R_canWant_b
  show VF X Qf ad NF 0 0 w 0 [(0, (2, 44)), (1, (0, v1)), (2, (0, v2)), (3, (0, v3)), (4, (0, v4)), (5, (0, v5))] [] _
  refine vf_iload_n C (f := 3) (zdg dz_R_canWant_0 0 rfl) 3 rfl rfl ?_
  refine vf_aload_n C (f := 0) (zdg dz_R_canWant_0 1 rfl) 0 rfl rfl ?_
  refine vf_get C (kd := 0) fl_R_144 sh_43 rfl (by decide) rfl rfl (zdg dz_R_canWant_0 2 rfl) ?_
  refine vf_icmp_ne C (off := 34) (tgt := 39) (zdg dz_R_canWant_0 3 rfl) (by decide) ?_ ?_
  · refine vf_aload_n C (f := 0) (zdg dz_R_canWant_0 20 rfl) 0 rfl rfl ?_
    refine vf_iload_n C (f := 1) (zdg dz_R_canWant_0 21 rfl) 1 rfl rfl ?_
    refine vf_iload_n C (f := 2) (zdg dz_R_canWant_0 22 rfl) 2 rfl rfl ?_
    refine vf_iload_n C (f := 3) (zdg dz_R_canWant_0 23 rfl) 3 rfl rfl ?_
    refine vf_iconst C (z := 1) (zdg dz_R_canWant_1 0 rfl) (jz rfl) ?_
    refine vf_iadd C (zdg dz_R_canWant_1 1 rfl) ?_
    refine vf_iload C (zdg dz_R_canWant_1 2 rfl) 4 rfl ?_
    refine vf_iload C (zdg dz_R_canWant_1 3 rfl) 5 rfl ?_
    refine vf_callVz C cy_R_canWant ml_R_391 rfl (hrec _ _ _ _ _ _) (S := []) sh_43 (by decide) rfl (jrm_o hR (by omega) (by decide)) rfl rfl (Nat.le_of_ble_eq_true rfl) (zdg dz_R_canWant_1 4 rfl) (fun r1 u2 => ?_)
    refine vf_if_eq C (off := 5) (tgt := 57) (zdg dz_R_canWant_1 5 rfl) (by decide) ?_ ?_
    · refine vf_iload_n C (f := 3) (zdg dz_R_canWant_1 8 rfl) 3 rfl rfl ?_
      refine vf_iload_n C (f := 1) (zdg dz_R_canWant_1 9 rfl) 1 rfl rfl ?_
      refine vf_icmp_eq C (off := 15) (tgt := 74) (zdg dz_R_canWant_1 10 rfl) (by decide) ?_ ?_
      · refine vf_iconst C (z := 0) (zdg dz_R_canWant_1 17 rfl) (jz rfl) ?_
        exact hr _ _ _ _ (fun _ => Or.inl rfl) (zdg dz_R_canWant_1 18 rfl)
      · refine vf_aload_n C (f := 0) (zdg dz_R_canWant_1 11 rfl) 0 rfl rfl ?_
        refine vf_getp C fl_R_95 sh_43 rfl (by decide) rfl (x := 69) rfl (zdg dz_R_canWant_1 12 rfl) ?_
        refine vf_iload_n C (f := 3) (zdg dz_R_canWant_1 13 rfl) 3 rfl rfl ?_
        refine vf_iald C sh_68 (by decide) rfl (mz := 10) rfl (zdg dz_R_canWant_1 14 rfl) ?_
        refine vf_callSz C cy_R_isGuest ml_R_256 (ct_R_isGuest _ _) (S := []) (jrm_o hR (by omega) (by decide)) rfl rfl (Nat.le_of_ble_eq_true rfl) (zdg dz_R_canWant_1 15 rfl) (fun r3 u4 => ?_)
        refine vf_if_ne C (off := 5) (tgt := 76) (zdg dz_R_canWant_1 16 rfl) (by decide) ?_ ?_
        · refine vf_iconst C (z := 0) (zdg dz_R_canWant_1 19 rfl) (jz rfl) ?_
          refine vf_istore C (i := 6) (L' := [(0, (2, 44)), (1, (0, v1)), (2, (0, v2)), (3, (0, v3)), (4, (0, v4)), (5, (0, v5))]) (zdg dz_R_canWant_1 20 rfl) [0, 1, 2, 3, 4, 5] (jrI rfl rfl) hn (by decide) ?_
          exact vf_perm [1, 2, 3, 4, 5, 6, 0] rfl (t_R_canWant_79 C hn hR hr hrec FU _ _ _ _ _ _ _)
        · refine vf_iconst C (z := 0) (zdg dz_R_canWant_1 17 rfl) (jz rfl) ?_
          exact hr _ _ _ _ (fun _ => Or.inl rfl) (zdg dz_R_canWant_1 18 rfl)
    · refine vf_iconst C (z := 1) (zdg dz_R_canWant_1 6 rfl) (jz rfl) ?_
      exact hr _ _ _ _ (fun _ => Or.inr rfl) (zdg dz_R_canWant_1 7 rfl)
  · refine vf_aload_n C (f := 0) (zdg dz_R_canWant_0 4 rfl) 0 rfl rfl ?_
    refine vf_iload C (zdg dz_R_canWant_0 5 rfl) 4 rfl ?_
    refine vf_iload C (zdg dz_R_canWant_0 6 rfl) 5 rfl ?_
    refine vf_callVi C cy_R_behind ml_R_320 rfl (ct_R_behind _ _ _) (S := []) sh_43 (by decide) rfl (jrm_o hR (by omega) (by decide)) rfl rfl (Nat.le_of_ble_eq_true rfl) (zdg dz_R_canWant_0 7 rfl) (fun r10 u11 => ?_)
    refine vf_istore C (i := 6) (L' := [(0, (2, 44))]) (zdg dz_R_canWant_0 8 rfl) [0] (jrI rfl rfl) hn (by decide) ?_
    refine vf_iload C (zdg dz_R_canWant_0 9 rfl) 0 rfl ?_
    refine vf_if_lt C (off := 17) (tgt := 37) (zdg dz_R_canWant_0 10 rfl) (by decide) ?_ ?_
    · refine vf_iconst C (z := 0) (zdg dz_R_canWant_0 18 rfl) (jz rfl) ?_
      exact hr _ _ _ _ (fun _ => Or.inl rfl) (zdg dz_R_canWant_0 19 rfl)
    · refine vf_aload_n C (f := 0) (zdg dz_R_canWant_0 11 rfl) 1 rfl rfl ?_
      refine vf_getp C fl_R_113 sh_43 rfl (by decide) rfl (x := 75) rfl (zdg dz_R_canWant_0 12 rfl) ?_
      refine vf_iload C (zdg dz_R_canWant_0 13 rfl) 0 rfl ?_
      refine vf_zald C sh_74 (by decide) rfl (mz := 3000) rfl (zdg dz_R_canWant_0 14 rfl) ?_
      refine vf_if_eq C (off := 7) (tgt := 37) (zdg dz_R_canWant_0 15 rfl) (by decide) ?_ ?_
      · refine vf_iconst C (z := 0) (zdg dz_R_canWant_0 18 rfl) (jz rfl) ?_
        exact hr _ _ _ _ (fun _ => Or.inl rfl) (zdg dz_R_canWant_0 19 rfl)
      · refine vf_iconst C (z := 1) (zdg dz_R_canWant_0 16 rfl) (jz rfl) ?_
        refine vf_goto C (off := 4) (tgt := 38) (zdg dz_R_canWant_0 17 rfl) (by decide) ?_
        exact hr _ _ _ _ (fun _ => Or.inr rfl) (zdg dz_R_canWant_0 19 rfl)
def f_R_canWant : Nat → Int → Int → Int → Int → Int → Wd → Option (Int × Wd)
  | 0, _, _, _, _, _, _ => none
  | d + 1, v1, v2, v3, v4, v5, w => f_R_canWant_b (f_R_canWant d) v1 v2 v3 v4 v5 w
theorem ct_R_canWant_all : ∀ dd : Nat, (∀ (v1 v2 v3 v4 v5 : Int) (w : Wd), Ct y_R_canWant prog_14_method_86_code 7 (some .boolean) (2 + dd) 4 [(2, 44), (0, v1), (0, v2), (0, v3), (0, v4), (0, v5)] w (f_R_canWant dd v1 v2 v3 v4 v5 w)) := by
  intro dd
  induction dd with
  | zero => exact fun _ _ _ _ _ _  l D cA ad o ho => by cases ho
  | succ dd ih =>
    exact fun v1 v2 v3 v4 v5 w => ct_R_canWant_b ih v1 v2 v3 v4 v5 w
theorem ct_R_canWant (v1 v2 v3 v4 v5 : Int) (w : Wd) : Ct y_R_canWant prog_14_method_86_code 7 (some .boolean) 18 4 [(2, 44), (0, v1), (0, v2), (0, v3), (0, v4), (0, v5)] w (f_R_canWant 16 v1 v2 v3 v4 v5 w) := (ct_R_canWant_all 16) v1 v2 v3 v4 v5 w
def f_R_stays_236 (v2 v3 : Int) (w : Wd) : Option (Int × Wd) :=
  jlw (st w 43 15 0) fun u15 =>
  jcall (f_R_tell v3 u15) fun r16 u17 =>
  some (v2, u17)
theorem t_R_stays_236 {X : jX} {Qf : Int × Wd → State → Prop} {ad : Nat → Nat} (C : Cx X prog_14_method_85_code "EachBringsAnotherModel") (hn : xn X = 6) (hR : xR X = rmD 20) (hr : Rt X Qf ad prog_14_method_85_code 0) (v2 v3 : Int) (w : Wd) : VF X Qf ad NF 0 0 w 236 [(0, (2, 44)), (2, (0, v2)), (3, (0, v3))] [] (f_R_stays_236 v2 v3 w) := by
  unfold f_R_stays_236
  refine vf_aload_n C (f := 0) (zdg dz_R_stays_5 12 rfl) 0 rfl rfl ?_
  refine vf_iconst C (z := 0) (zdg dz_R_stays_5 13 rfl) (jz rfl) ?_
  refine vf_put C (kd := 0) fl_R_141 fk_11_15 sh_43 rfl (by decide) rfl rfl (by decide) (zdg dz_R_stays_5 14 rfl) ?_
  generalize st w 43 15 0 = u15
  refine vf_uw ?_
  refine vf_aload_n C (f := 0) (zdg dz_R_stays_5 15 rfl) 0 rfl rfl ?_
  refine vf_iload_n C (f := 3) (zdg dz_R_stays_5 16 rfl) 2 rfl rfl ?_
  refine vf_callVv C cy_R_tell ml_R_304 rfl (ct_R_tell _ _) (S := []) sh_43 (by decide) rfl (jrm_of hR rfl) rfl rfl (Nat.le_of_ble_eq_true rfl) (zdg dz_R_stays_5 17 rfl) (fun r16 u17 => ?_)
  refine vf_iload_n C (f := 2) (zdg dz_R_stays_5 18 rfl) 1 rfl rfl ?_
  exact hr _ _ _ _ (fun h => absurd h (by decide)) (zdg dz_R_stays_5 19 rfl)
def f_R_stays_230 (k127 : Int → Int → Int → Int → Int → Wd → Option (Int × Wd)) (v1 v2 v3 v4 v5 : Int) (w : Wd) : Option (Int × Wd) :=
  jlet (w32 (v5 + 1)) fun x20 =>
  k127 v1 v2 v3 v4 x20 w
theorem t_R_stays_230 {X : jX} {Qf : Int × Wd → State → Prop} {ad : Nat → Nat} (C : Cx X prog_14_method_85_code "EachBringsAnotherModel") (hn : xn X = 6) (hR : xR X = rmD 20) (hr : Rt X Qf ad prog_14_method_85_code 0) {k127 : Int → Int → Int → Int → Int → Wd → Option (Int × Wd)} (hk127 : ∀ (v1 v2 v3 v4 v5 : Int) (w : Wd), VF X Qf ad NF 0 0 w 127 [(0, (2, 44)), (1, (0, v1)), (2, (0, v2)), (3, (0, v3)), (4, (0, v4)), (5, (0, v5))] [] (k127 v1 v2 v3 v4 v5 w)) (v1 v2 v3 v4 v5 : Int) (w : Wd) : VF X Qf ad NF 0 0 w 230 [(0, (2, 44)), (1, (0, v1)), (2, (0, v2)), (3, (0, v3)), (4, (0, v4)), (5, (0, v5))] [] (f_R_stays_230 k127 v1 v2 v3 v4 v5 w) := by
  unfold f_R_stays_230
  refine vf_iinc C (z := 1) (L' := [(0, (2, 44)), (1, (0, v1)), (2, (0, v2)), (3, (0, v3)), (4, (0, v4))]) (zdg dz_R_stays_5 10 rfl) 5 rfl [0, 1, 2, 3, 4] (jrI rfl rfl) hn (by decide) ?_
  generalize w32 (v5 + 1) = x20
  refine vf_ul ?_
  refine vf_goto C (off := (-106)) (tgt := 127) (zdg dz_R_stays_5 11 rfl) (by decide) ?_
  exact vf_perm [1, 2, 3, 4, 5, 0] rfl (hk127 _ _ _ _ _ _)
def f_R_stays_229 (k127 : Int → Int → Int → Int → Int → Wd → Option (Int × Wd)) (v1 v2 v4 v5 s0 : Int) (w : Wd) : Option (Int × Wd) :=
  f_R_stays_230 k127 v1 v2 s0 v4 v5 w
theorem t_R_stays_229 {X : jX} {Qf : Int × Wd → State → Prop} {ad : Nat → Nat} (C : Cx X prog_14_method_85_code "EachBringsAnotherModel") (hn : xn X = 6) (hR : xR X = rmD 20) (hr : Rt X Qf ad prog_14_method_85_code 0) {k127 : Int → Int → Int → Int → Int → Wd → Option (Int × Wd)} (hk127 : ∀ (v1 v2 v3 v4 v5 : Int) (w : Wd), VF X Qf ad NF 0 0 w 127 [(0, (2, 44)), (1, (0, v1)), (2, (0, v2)), (3, (0, v3)), (4, (0, v4)), (5, (0, v5))] [] (k127 v1 v2 v3 v4 v5 w)) (v1 v2 v4 v5 s0 : Int) (w : Wd) : VF X Qf ad NF 0 0 w 229 [(0, (2, 44)), (1, (0, v1)), (2, (0, v2)), (4, (0, v4)), (5, (0, v5))] [(0, s0)] (f_R_stays_229 k127 v1 v2 v4 v5 s0 w) := by
  unfold f_R_stays_229
  refine vf_istore_n C (f := 3) (L' := [(0, (2, 44)), (1, (0, v1)), (2, (0, v2)), (4, (0, v4)), (5, (0, v5))]) (zdg dz_R_stays_5 9 rfl) [0, 1, 2, 3, 4] (jrI rfl rfl) hn (by decide) rfl ?_
  exact vf_perm [1, 2, 3, 0, 4, 5] rfl (t_R_stays_230 C hn hR hr hk127 _ _ _ _ _ _)
def f_R_stays_213 (k127 : Int → Int → Int → Int → Int → Wd → Option (Int × Wd)) (v1 v2 v5 s1 s2 s3 s4 s5 : Int) (w : Wd) : Option (Int × Wd) :=
  jcall (f_R_canWant 16 s1 s2 s3 s4 s5 w) fun r18 u19 =>
  if r18 = 0 then
    f_R_stays_229 k127 v1 v2 r18 v5 (-1) u19
  else
    f_R_stays_229 k127 v1 v2 r18 v5 v5 u19
theorem t_R_stays_213 {X : jX} {Qf : Int × Wd → State → Prop} {ad : Nat → Nat} (C : Cx X prog_14_method_85_code "EachBringsAnotherModel") (hn : xn X = 6) (hR : xR X = rmD 20) (hr : Rt X Qf ad prog_14_method_85_code 0) {k127 : Int → Int → Int → Int → Int → Wd → Option (Int × Wd)} (hk127 : ∀ (v1 v2 v3 v4 v5 : Int) (w : Wd), VF X Qf ad NF 0 0 w 127 [(0, (2, 44)), (1, (0, v1)), (2, (0, v2)), (3, (0, v3)), (4, (0, v4)), (5, (0, v5))] [] (k127 v1 v2 v3 v4 v5 w)) (v1 v2 v5 s1 s2 s3 s4 s5 : Int) (w : Wd) : VF X Qf ad NF 0 0 w 213 [(0, (2, 44)), (1, (0, v1)), (2, (0, v2)), (5, (0, v5))] [(0, s5), (0, s4), (0, s3), (0, s2), (0, s1), (2, 44)] (f_R_stays_213 k127 v1 v2 v5 s1 s2 s3 s4 s5 w) := by
  unfold f_R_stays_213
  refine vf_callVz C cy_R_canWant ml_R_391 rfl (ct_R_canWant _ _ _ _ _ _) (S := []) sh_43 (by decide) rfl (jrm_of hR rfl) rfl rfl (Nat.le_of_ble_eq_true rfl) (zdg dz_R_stays_5 2 rfl) (fun r18 u19 => ?_)
  refine vf_istore C (i := 4) (L' := [(0, (2, 44)), (1, (0, v1)), (2, (0, v2)), (5, (0, v5))]) (zdg dz_R_stays_5 3 rfl) [0, 1, 2, 3] (jrI rfl rfl) hn (by decide) ?_
  refine vf_iload C (zdg dz_R_stays_5 4 rfl) 0 rfl ?_
  refine vf_if_eq C (off := 8) (tgt := 228) (zdg dz_R_stays_5 5 rfl) (by decide) ?_ ?_
  · refine vf_iconst C (z := (-1)) (zdg dz_R_stays_5 8 rfl) (jz rfl) ?_
    exact vf_perm [1, 2, 3, 0, 4] rfl (t_R_stays_229 C hn hR hr hk127 _ _ _ _ _ _)
  · refine vf_iload C (zdg dz_R_stays_5 6 rfl) 4 rfl ?_
    refine vf_goto C (off := 4) (tgt := 229) (zdg dz_R_stays_5 7 rfl) (by decide) ?_
    exact vf_perm [1, 2, 3, 0, 4] rfl (t_R_stays_229 C hn hR hr hk127 _ _ _ _ _ _)
def f_R_stays_199 (k127 : Int → Int → Int → Int → Int → Wd → Option (Int × Wd)) (v1 v2 v5 s1 s2 s3 s4 : Int) (w : Wd) : Option (Int × Wd) :=
  if v5 = (-1) then
    f_R_stays_213 k127 v1 v2 v5 s1 s2 s3 s4 0 w
  else
    f_R_stays_213 k127 v1 v2 v5 s1 s2 s3 s4 (ishl 1 v5) w
theorem t_R_stays_199 {X : jX} {Qf : Int × Wd → State → Prop} {ad : Nat → Nat} (C : Cx X prog_14_method_85_code "EachBringsAnotherModel") (hn : xn X = 6) (hR : xR X = rmD 20) (hr : Rt X Qf ad prog_14_method_85_code 0) {k127 : Int → Int → Int → Int → Int → Wd → Option (Int × Wd)} (hk127 : ∀ (v1 v2 v3 v4 v5 : Int) (w : Wd), VF X Qf ad NF 0 0 w 127 [(0, (2, 44)), (1, (0, v1)), (2, (0, v2)), (3, (0, v3)), (4, (0, v4)), (5, (0, v5))] [] (k127 v1 v2 v3 v4 v5 w)) (v1 v2 v5 s1 s2 s3 s4 : Int) (w : Wd) : VF X Qf ad NF 0 0 w 199 [(0, (2, 44)), (1, (0, v1)), (2, (0, v2)), (5, (0, v5))] [(0, s4), (0, s3), (0, s2), (0, s1), (2, 44)] (f_R_stays_199 k127 v1 v2 v5 s1 s2 s3 s4 w) := by
  unfold f_R_stays_199
  refine vf_iload C (zdg dz_R_stays_4 18 rfl) 3 rfl ?_
  refine vf_iconst C (z := (-1)) (zdg dz_R_stays_4 19 rfl) (jz rfl) ?_
  refine vf_icmp_ne C (off := 7) (tgt := 209) (zdg dz_R_stays_4 20 rfl) (by decide) ?_ ?_
  · refine vf_iconst C (z := 1) (zdg dz_R_stays_4 23 rfl) (jz rfl) ?_
    refine vf_iload C (zdg dz_R_stays_5 0 rfl) 3 rfl ?_
    refine vf_ishl C (zdg dz_R_stays_5 1 rfl) ?_
    exact t_R_stays_213 C hn hR hr hk127 _ _ _ _ _ _ _ _ _
  · refine vf_iconst C (z := 0) (zdg dz_R_stays_4 21 rfl) (jz rfl) ?_
    refine vf_goto C (off := 7) (tgt := 213) (zdg dz_R_stays_4 22 rfl) (by decide) ?_
    exact t_R_stays_213 C hn hR hr hk127 _ _ _ _ _ _ _ _ _
def f_R_stays_181 (k127 : Int → Int → Int → Int → Int → Wd → Option (Int × Wd)) (v1 v2 v5 : Int) (w : Wd) : Option (Int × Wd) :=
  if v5 = (-1) then
    f_R_stays_199 k127 v1 v2 v5 v1 v5 0 0 w
  else
    f_R_stays_199 k127 v1 v2 v5 v1 v5 0 (ishl 1 v1) w
theorem t_R_stays_181 {X : jX} {Qf : Int × Wd → State → Prop} {ad : Nat → Nat} (C : Cx X prog_14_method_85_code "EachBringsAnotherModel") (hn : xn X = 6) (hR : xR X = rmD 20) (hr : Rt X Qf ad prog_14_method_85_code 0) {k127 : Int → Int → Int → Int → Int → Wd → Option (Int × Wd)} (hk127 : ∀ (v1 v2 v3 v4 v5 : Int) (w : Wd), VF X Qf ad NF 0 0 w 127 [(0, (2, 44)), (1, (0, v1)), (2, (0, v2)), (3, (0, v3)), (4, (0, v4)), (5, (0, v5))] [] (k127 v1 v2 v3 v4 v5 w)) (v1 v2 v5 : Int) (w : Wd) : VF X Qf ad NF 0 0 w 181 [(0, (2, 44)), (1, (0, v1)), (2, (0, v2)), (5, (0, v5))] [] (f_R_stays_181 k127 v1 v2 v5 w) := by
  unfold f_R_stays_181
  refine vf_aload_n C (f := 0) (zdg dz_R_stays_4 6 rfl) 0 rfl rfl ?_
  refine vf_iload_n C (f := 1) (zdg dz_R_stays_4 7 rfl) 1 rfl rfl ?_
  refine vf_iload C (zdg dz_R_stays_4 8 rfl) 3 rfl ?_
  refine vf_iconst C (z := 0) (zdg dz_R_stays_4 9 rfl) (jz rfl) ?_
  refine vf_iload C (zdg dz_R_stays_4 10 rfl) 3 rfl ?_
  refine vf_iconst C (z := (-1)) (zdg dz_R_stays_4 11 rfl) (jz rfl) ?_
  refine vf_icmp_ne C (off := 7) (tgt := 196) (zdg dz_R_stays_4 12 rfl) (by decide) ?_ ?_
  · refine vf_iconst C (z := 1) (zdg dz_R_stays_4 15 rfl) (jz rfl) ?_
    refine vf_iload_n C (f := 1) (zdg dz_R_stays_4 16 rfl) 1 rfl rfl ?_
    refine vf_ishl C (zdg dz_R_stays_4 17 rfl) ?_
    exact t_R_stays_199 C hn hR hr hk127 _ _ _ _ _ _ _ _
  · refine vf_iconst C (z := 0) (zdg dz_R_stays_4 13 rfl) (jz rfl) ?_
    refine vf_goto C (off := 6) (tgt := 199) (zdg dz_R_stays_4 14 rfl) (by decide) ?_
    exact t_R_stays_199 C hn hR hr hk127 _ _ _ _ _ _ _ _
def f_R_stays_127 : Nat → Int → Int → Int → Int → Int → Wd → Option (Int × Wd)
  | 0, _, _, _, _, _, _ => none
  | n + 1, v1, v2, v3, v4, v5, w =>
    if (w 43 0) ≤ v5 then
      f_R_stays_236 v2 v3 w
    else
      if v4 = 0 then
        if v5 = (-1) then
          f_R_stays_181 (f_R_stays_127 n) v1 v2 v5 w
        else
          jgd ((0 : Int) ≤ v1 ∧ v1 < 10) <|
          jcall (f_R_has (iand (w 45 v1.toNat) (ixor (w 43 44) (-1))) v5 w) fun r21 u22 =>
          if r21 = 0 then
            f_R_stays_230 (f_R_stays_127 n) v1 v2 v3 v4 v5 u22
          else
            jgd ((0 : Int) ≤ v5 ∧ v5 < 10) <|
            if (u22 68 v5.toNat) = 0 then
              f_R_stays_181 (f_R_stays_127 n) v1 v2 v5 u22
            else
              f_R_stays_230 (f_R_stays_127 n) v1 v2 v3 v4 v5 u22
      else
        f_R_stays_236 v2 v3 w
theorem t_R_stays_127 {X : jX} {Qf : Int × Wd → State → Prop} {ad : Nat → Nat} (C : Cx X prog_14_method_85_code "EachBringsAnotherModel") (hn : xn X = 6) (hR : xR X = rmD 20) (hr : Rt X Qf ad prog_14_method_85_code 0) : ∀ (n : Nat) (v1 v2 v3 v4 v5 : Int) (w : Wd), VF X Qf ad NF 0 0 w 127 [(0, (2, 44)), (1, (0, v1)), (2, (0, v2)), (3, (0, v3)), (4, (0, v4)), (5, (0, v5))] [] (f_R_stays_127 n v1 v2 v3 v4 v5 w) := by
  intro n
  induction n with
  | zero => intros; exact vf_no
  | succ n ih =>
    intro v1 v2 v3 v4 v5 w
    rw [f_R_stays_127]
    refine vf_iload C (zdg dz_R_stays_3 3 rfl) 5 rfl ?_
    refine vf_aload_n C (f := 0) (zdg dz_R_stays_3 4 rfl) 0 rfl rfl ?_
    refine vf_get C (kd := 0) fl_R_144 sh_43 rfl (by decide) rfl rfl (zdg dz_R_stays_3 5 rfl) ?_
    refine vf_icmp_ge C (off := 103) (tgt := 236) (zdg dz_R_stays_3 6 rfl) (by decide) ?_ ?_
    · exact vf_perm [0, 2, 3] rfl (t_R_stays_236 C hn hR hr _ _ _)
    · refine vf_iload C (zdg dz_R_stays_3 7 rfl) 4 rfl ?_
      refine vf_if_ne C (off := 98) (tgt := 236) (zdg dz_R_stays_3 8 rfl) (by decide) ?_ ?_
      · exact vf_perm [0, 2, 3] rfl (t_R_stays_236 C hn hR hr _ _ _)
      · refine vf_iload C (zdg dz_R_stays_3 9 rfl) 5 rfl ?_
        refine vf_iconst C (z := (-1)) (zdg dz_R_stays_3 10 rfl) (jz rfl) ?_
        refine vf_icmp_eq C (off := 37) (tgt := 181) (zdg dz_R_stays_3 11 rfl) (by decide) ?_ ?_
        · exact vf_perm [0, 1, 2, 5] rfl (t_R_stays_181 C hn hR hr ih _ _ _ _)
        · refine vf_aload_n C (f := 0) (zdg dz_R_stays_3 12 rfl) 0 rfl rfl ?_
          refine vf_getp C fl_R_13 sh_43 rfl (by decide) rfl (x := 46) rfl (zdg dz_R_stays_3 13 rfl) ?_
          refine vf_iload_n C (f := 1) (zdg dz_R_stays_3 14 rfl) 1 rfl rfl ?_
          refine vf_iald C sh_45 (by decide) rfl (mz := 10) rfl (zdg dz_R_stays_3 15 rfl) ?_
          refine vf_aload_n C (f := 0) (zdg dz_R_stays_3 16 rfl) 0 rfl rfl ?_
          refine vf_get C (kd := 0) fl_R_330 sh_43 rfl (by decide) rfl rfl (zdg dz_R_stays_3 17 rfl) ?_
          refine vf_iconst C (z := (-1)) (zdg dz_R_stays_3 18 rfl) (jz rfl) ?_
          refine vf_ixor C (zdg dz_R_stays_3 19 rfl) ?_
          refine vf_iand C (zdg dz_R_stays_3 20 rfl) ?_
          refine vf_iload C (zdg dz_R_stays_3 21 rfl) 5 rfl ?_
          refine vf_callSz C cy_R_has ml_R_210 (ct_R_has _ _ _) (S := []) (jrm_of hR rfl) rfl rfl (Nat.le_of_ble_eq_true rfl) (zdg dz_R_stays_3 22 rfl) (fun r21 u22 => ?_)
          refine vf_if_eq C (off := 65) (tgt := 230) (zdg dz_R_stays_3 23 rfl) (by decide) ?_ ?_
          · exact t_R_stays_230 C hn hR hr ih _ _ _ _ _ _
          · refine vf_aload_n C (f := 0) (zdg dz_R_stays_4 0 rfl) 0 rfl rfl ?_
            refine vf_getp C fl_R_95 sh_43 rfl (by decide) rfl (x := 69) rfl (zdg dz_R_stays_4 1 rfl) ?_
            refine vf_iload C (zdg dz_R_stays_4 2 rfl) 5 rfl ?_
            refine vf_iald C sh_68 (by decide) rfl (mz := 10) rfl (zdg dz_R_stays_4 3 rfl) ?_
            refine vf_if_eq C (off := 6) (tgt := 181) (zdg dz_R_stays_4 4 rfl) (by decide) ?_ ?_
            · exact vf_perm [0, 1, 2, 5] rfl (t_R_stays_181 C hn hR hr ih _ _ _ _)
            · refine vf_goto C (off := 52) (tgt := 230) (zdg dz_R_stays_4 5 rfl) (by decide) ?_
              exact t_R_stays_230 C hn hR hr ih _ _ _ _ _ _
def f_R_stays_117 (v1 v2 v3 s0 : Int) (w : Wd) : Option (Int × Wd) :=
  jcall (f_R_load 0 w) fun r13 u14 =>
  f_R_stays_127 FU v1 v2 v3 s0 (-1) u14
theorem t_R_stays_117 {X : jX} {Qf : Int × Wd → State → Prop} {ad : Nat → Nat} (C : Cx X prog_14_method_85_code "EachBringsAnotherModel") (hn : xn X = 6) (hR : xR X = rmD 20) (hr : Rt X Qf ad prog_14_method_85_code 0) (v1 v2 v3 s0 : Int) (w : Wd) : VF X Qf ad NF 0 0 w 117 [(0, (2, 44)), (1, (0, v1)), (2, (0, v2)), (3, (0, v3))] [(0, s0)] (f_R_stays_117 v1 v2 v3 s0 w) := by
  unfold f_R_stays_117
  refine vf_istore C (i := 4) (L' := [(0, (2, 44)), (1, (0, v1)), (2, (0, v2)), (3, (0, v3))]) (zdg dz_R_stays_2 21 rfl) [0, 1, 2, 3] (jrI rfl rfl) hn (by decide) ?_
  refine vf_aload_n C (f := 0) (zdg dz_R_stays_2 22 rfl) 1 rfl rfl ?_
  refine vf_iconst C (z := 0) (zdg dz_R_stays_2 23 rfl) (jz rfl) ?_
  refine vf_callVv C cy_R_load ml_R_336 rfl (ct_R_load _ _) (S := []) sh_43 (by decide) rfl (jrm_of hR rfl) rfl rfl (Nat.le_of_ble_eq_true rfl) (zdg dz_R_stays_3 0 rfl) (fun r13 u14 => ?_)
  refine vf_iconst C (z := (-1)) (zdg dz_R_stays_3 1 rfl) (jz rfl) ?_
  refine vf_istore C (i := 5) (L' := [(4, (0, s0)), (0, (2, 44)), (1, (0, v1)), (2, (0, v2)), (3, (0, v3))]) (zdg dz_R_stays_3 2 rfl) [0, 1, 2, 3, 4] (jrI rfl rfl) hn (by decide) ?_
  exact vf_perm [2, 3, 4, 5, 1, 0] rfl (t_R_stays_127 C hn hR hr FU _ _ _ _ _ _)
def f_R_stays_99 (k61 : Int → Int → Int → Wd → Option (Int × Wd)) (v1 v2 v3 s1 s2 : Int) (w : Wd) : Option (Int × Wd) :=
  jgd ((0 : Int) ≤ s1 ∧ s1 < 3000) <|
  jlw (st w 74 s1.toNat (nz s2)) fun u25 =>
  jlet (w32 (v3 + 1)) fun x26 =>
  k61 v1 v2 x26 u25
theorem t_R_stays_99 {X : jX} {Qf : Int × Wd → State → Prop} {ad : Nat → Nat} (C : Cx X prog_14_method_85_code "EachBringsAnotherModel") (hn : xn X = 6) (hR : xR X = rmD 20) (hr : Rt X Qf ad prog_14_method_85_code 0) {k61 : Int → Int → Int → Wd → Option (Int × Wd)} (hk61 : ∀ (v1 v2 v3 : Int) (w : Wd), VF X Qf ad NF 0 0 w 61 [(0, (2, 44)), (1, (0, v1)), (2, (0, v2)), (3, (0, v3))] [] (k61 v1 v2 v3 w)) (v1 v2 v3 s1 s2 : Int) (w : Wd) : VF X Qf ad NF 0 0 w 99 [(0, (2, 44)), (1, (0, v1)), (2, (0, v2)), (3, (0, v3))] [(0, s2), (0, s1), (2, 75)] (f_R_stays_99 k61 v1 v2 v3 s1 s2 w) := by
  unfold f_R_stays_99
  refine vf_zast C sh_74 (by decide) rfl (mz := 3000) rfl (zdg dz_R_stays_2 11 rfl) ?_
  generalize st w 74 s1.toNat (nz s2) = u25
  refine vf_uw ?_
  refine vf_iinc C (z := 1) (L' := [(0, (2, 44)), (1, (0, v1)), (2, (0, v2))]) (zdg dz_R_stays_2 12 rfl) 3 rfl [0, 1, 2] (jrI rfl rfl) hn (by decide) ?_
  generalize w32 (v3 + 1) = x26
  refine vf_ul ?_
  refine vf_goto C (off := (-42)) (tgt := 61) (zdg dz_R_stays_2 13 rfl) (by decide) ?_
  exact vf_perm [1, 2, 3, 0] rfl (hk61 _ _ _ _)
def f_R_stays_98 (k61 : Int → Int → Int → Wd → Option (Int × Wd)) (v1 v2 v3 s1 : Int) (w : Wd) : Option (Int × Wd) :=
  f_R_stays_99 k61 v1 v2 v3 s1 0 w
theorem t_R_stays_98 {X : jX} {Qf : Int × Wd → State → Prop} {ad : Nat → Nat} (C : Cx X prog_14_method_85_code "EachBringsAnotherModel") (hn : xn X = 6) (hR : xR X = rmD 20) (hr : Rt X Qf ad prog_14_method_85_code 0) {k61 : Int → Int → Int → Wd → Option (Int × Wd)} (hk61 : ∀ (v1 v2 v3 : Int) (w : Wd), VF X Qf ad NF 0 0 w 61 [(0, (2, 44)), (1, (0, v1)), (2, (0, v2)), (3, (0, v3))] [] (k61 v1 v2 v3 w)) (v1 v2 v3 s1 : Int) (w : Wd) : VF X Qf ad NF 0 0 w 98 [(0, (2, 44)), (1, (0, v1)), (2, (0, v2)), (3, (0, v3))] [(0, s1), (2, 75)] (f_R_stays_98 k61 v1 v2 v3 s1 w) := by
  unfold f_R_stays_98
  refine vf_iconst C (z := 0) (zdg dz_R_stays_2 10 rfl) (jz rfl) ?_
  exact t_R_stays_99 C hn hR hr hk61 _ _ _ _ _ _
def f_R_stays_61 : Nat → Int → Int → Int → Wd → Option (Int × Wd)
  | 0, _, _, _, _ => none
  | n + 1, v1, v2, v3, w =>
    if (w 43 40) ≤ v3 then
      if v2 = 0 then
        f_R_stays_117 v1 v2 (-1) 1 w
      else
        f_R_stays_117 v1 v2 (-1) 0 w
    else
      jcall (f_R_isNext v3 w) fun r23 u24 =>
      if r23 = 0 then
        f_R_stays_98 (f_R_stays_61 n) v1 v2 v3 v3 u24
      else
        jgd ((0 : Int) ≤ v3 ∧ v3 < 3000) <|
        if (u24 71 v3.toNat) = (w32 (v2 - 1)) then
          f_R_stays_99 (f_R_stays_61 n) v1 v2 v3 v3 1 u24
        else
          f_R_stays_98 (f_R_stays_61 n) v1 v2 v3 v3 u24
theorem t_R_stays_61 {X : jX} {Qf : Int × Wd → State → Prop} {ad : Nat → Nat} (C : Cx X prog_14_method_85_code "EachBringsAnotherModel") (hn : xn X = 6) (hR : xR X = rmD 20) (hr : Rt X Qf ad prog_14_method_85_code 0) : ∀ (n : Nat) (v1 v2 v3 : Int) (w : Wd), VF X Qf ad NF 0 0 w 61 [(0, (2, 44)), (1, (0, v1)), (2, (0, v2)), (3, (0, v3))] [] (f_R_stays_61 n v1 v2 v3 w) := by
  intro n
  induction n with
  | zero => intros; exact vf_no
  | succ n ih =>
    intro v1 v2 v3 w
    rw [f_R_stays_61]
    refine vf_iload_n C (f := 3) (zdg dz_R_stays_1 13 rfl) 3 rfl rfl ?_
    refine vf_aload_n C (f := 0) (zdg dz_R_stays_1 14 rfl) 0 rfl rfl ?_
    refine vf_get C (kd := 0) fl_R_314 sh_43 rfl (by decide) rfl rfl (zdg dz_R_stays_1 15 rfl) ?_
    refine vf_icmp_ge C (off := 40) (tgt := 106) (zdg dz_R_stays_1 16 rfl) (by decide) ?_ ?_
    · refine vf_iconst C (z := (-1)) (zdg dz_R_stays_2 14 rfl) (jz rfl) ?_
      refine vf_istore_n C (f := 3) (L' := [(0, (2, 44)), (1, (0, v1)), (2, (0, v2))]) (zdg dz_R_stays_2 15 rfl) [0, 1, 2] (jrI rfl rfl) hn (by decide) rfl ?_
      refine vf_iload_n C (f := 2) (zdg dz_R_stays_2 16 rfl) 3 rfl rfl ?_
      refine vf_if_ne C (off := 7) (tgt := 116) (zdg dz_R_stays_2 17 rfl) (by decide) ?_ ?_
      · refine vf_iconst C (z := 0) (zdg dz_R_stays_2 20 rfl) (jz rfl) ?_
        exact vf_perm [1, 2, 3, 0] rfl (t_R_stays_117 C hn hR hr _ _ _ _ _)
      · refine vf_iconst C (z := 1) (zdg dz_R_stays_2 18 rfl) (jz rfl) ?_
        refine vf_goto C (off := 4) (tgt := 117) (zdg dz_R_stays_2 19 rfl) (by decide) ?_
        exact vf_perm [1, 2, 3, 0] rfl (t_R_stays_117 C hn hR hr _ _ _ _ _)
    · refine vf_aload_n C (f := 0) (zdg dz_R_stays_1 17 rfl) 0 rfl rfl ?_
      refine vf_getp C fl_R_113 sh_43 rfl (by decide) rfl (x := 75) rfl (zdg dz_R_stays_1 18 rfl) ?_
      refine vf_iload_n C (f := 3) (zdg dz_R_stays_1 19 rfl) 3 rfl rfl ?_
      refine vf_aload_n C (f := 0) (zdg dz_R_stays_1 20 rfl) 0 rfl rfl ?_
      refine vf_iload_n C (f := 3) (zdg dz_R_stays_1 21 rfl) 3 rfl rfl ?_
      refine vf_callVz C cy_R_isNext ml_R_385 rfl (ct_R_isNext _ _) (S := [(0, v3), (2, 75)]) sh_43 (by decide) rfl (jrm_of hR rfl) rfl rfl (Nat.le_of_ble_eq_true rfl) (zdg dz_R_stays_1 22 rfl) (fun r23 u24 => ?_)
      refine vf_if_eq C (off := 19) (tgt := 98) (zdg dz_R_stays_1 23 rfl) (by decide) ?_ ?_
      · exact t_R_stays_98 C hn hR hr ih _ _ _ _ _
      · refine vf_aload_n C (f := 0) (zdg dz_R_stays_2 0 rfl) 0 rfl rfl ?_
        refine vf_getp C fl_R_104 sh_43 rfl (by decide) rfl (x := 72) rfl (zdg dz_R_stays_2 1 rfl) ?_
        refine vf_iload_n C (f := 3) (zdg dz_R_stays_2 2 rfl) 3 rfl rfl ?_
        refine vf_iald C sh_71 (by decide) rfl (mz := 3000) rfl (zdg dz_R_stays_2 3 rfl) ?_
        refine vf_iload_n C (f := 2) (zdg dz_R_stays_2 4 rfl) 2 rfl rfl ?_
        refine vf_iconst C (z := 1) (zdg dz_R_stays_2 5 rfl) (jz rfl) ?_
        refine vf_isub C (zdg dz_R_stays_2 6 rfl) ?_
        refine vf_icmp_ne C (off := 7) (tgt := 98) (zdg dz_R_stays_2 7 rfl) (by decide) ?_ ?_
        · exact t_R_stays_98 C hn hR hr ih _ _ _ _ _
        · refine vf_iconst C (z := 1) (zdg dz_R_stays_2 8 rfl) (jz rfl) ?_
          refine vf_goto C (off := 4) (tgt := 99) (zdg dz_R_stays_2 9 rfl) (by decide) ?_
          exact t_R_stays_99 C hn hR hr ih _ _ _ _ _ _
def f_R_stays (v1 : Int) (w : Wd) : Option (Int × Wd) :=
  jlw (st w 43 16 0) fun u1 =>
  jcall (f_R_isOne v1 u1) fun r2 u3 =>
  if r2 = 0 then
    some ((-1), u3)
  else
    jcall (f_R_findStates 0 u3) fun r4 u5 =>
    if r4 = 0 then
      some ((-3), u5)
    else
      jgd ((0 : Int) ≤ v1 ∧ v1 < 10) <|
      jcall (f_R_isGuest (u5 47 v1.toNat) u5) fun r6 u7 =>
      if r6 = 0 then
        some ((-2), u7)
      else
        jcall (f_R_findLife (ishl 1 v1) u7) fun r8 u9 =>
        jgd ((0 : Int) ≤ (0 : Int) ∧ (0 : Int) < 3000) <|
        jlet (u9 71 (0 : Int).toNat) fun x10 =>
        jcall (f_R_findNext u9) fun r11 u12 =>
        f_R_stays_61 FU v1 x10 0 u12
theorem ct_R_stays (v1 : Int) (w : Wd) : Ct y_R_stays prog_14_method_85_code 6 (some .int) 20 0 [(2, 44), (0, v1)] w (f_R_stays v1 w) := by
  refine ct_of (by decide +kernel) (Or.inl ⟨rfl, rfl⟩) (Nat.le_of_ble_eq_true rfl) ?_
  intro X Qf ad C hn hR hr
  unfold f_R_stays
  show VF X Qf ad NF 0 0 w 0 [(0, (2, 44)), (1, (0, v1))] [] _
  refine vf_aload_n C (f := 0) (zdg dz_R_stays_0 0 rfl) 0 rfl rfl ?_
  refine vf_iconst C (z := 0) (zdg dz_R_stays_0 1 rfl) (jz rfl) ?_
  refine vf_put C (kd := 0) fl_R_138 fk_11_16 sh_43 rfl (by decide) rfl rfl (by decide) (zdg dz_R_stays_0 2 rfl) ?_
  generalize st w 43 16 0 = u1
  refine vf_uw ?_
  refine vf_aload_n C (f := 0) (zdg dz_R_stays_0 3 rfl) 0 rfl rfl ?_
  refine vf_iload_n C (f := 1) (zdg dz_R_stays_0 4 rfl) 1 rfl rfl ?_
  refine vf_callVz C cy_R_isOne ml_R_151 rfl (ct_R_isOne _ _) (S := []) sh_43 (by decide) rfl (jrm_of hR rfl) rfl rfl (Nat.le_of_ble_eq_true rfl) (zdg dz_R_stays_0 5 rfl) (fun r2 u3 => ?_)
  refine vf_if_ne C (off := 5) (tgt := 15) (zdg dz_R_stays_0 6 rfl) (by decide) ?_ ?_
  · refine vf_aload_n C (f := 0) (zdg dz_R_stays_0 9 rfl) 0 rfl rfl ?_
    refine vf_iconst C (z := 0) (zdg dz_R_stays_0 10 rfl) (jz rfl) ?_
    refine vf_callVz C cy_R_findStates ml_R_342 rfl (ct_R_findStates _ _) (S := []) sh_43 (by decide) rfl (jrm_of hR rfl) rfl rfl (Nat.le_of_ble_eq_true rfl) (zdg dz_R_stays_0 11 rfl) (fun r4 u5 => ?_)
    refine vf_if_ne C (off := 6) (tgt := 26) (zdg dz_R_stays_0 12 rfl) (by decide) ?_ ?_
    · refine vf_aload_n C (f := 0) (zdg dz_R_stays_0 15 rfl) 0 rfl rfl ?_
      refine vf_getp C fl_R_20 sh_43 rfl (by decide) rfl (x := 48) rfl (zdg dz_R_stays_0 16 rfl) ?_
      refine vf_iload_n C (f := 1) (zdg dz_R_stays_0 17 rfl) 1 rfl rfl ?_
      refine vf_iald C sh_47 (by decide) rfl (mz := 10) rfl (zdg dz_R_stays_0 18 rfl) ?_
      refine vf_callSz C cy_R_isGuest ml_R_256 (ct_R_isGuest _ _) (S := []) (jrm_of hR rfl) rfl rfl (Nat.le_of_ble_eq_true rfl) (zdg dz_R_stays_0 19 rfl) (fun r6 u7 => ?_)
      refine vf_if_ne C (off := 6) (tgt := 41) (zdg dz_R_stays_0 20 rfl) (by decide) ?_ ?_
      · refine vf_aload_n C (f := 0) (zdg dz_R_stays_0 23 rfl) 0 rfl rfl ?_
        refine vf_iconst C (z := 1) (zdg dz_R_stays_1 0 rfl) (jz rfl) ?_
        refine vf_iload_n C (f := 1) (zdg dz_R_stays_1 1 rfl) 1 rfl rfl ?_
        refine vf_ishl C (zdg dz_R_stays_1 2 rfl) ?_
        refine vf_callVv C cy_R_findLife ml_R_373 rfl (ct_R_findLife _ _) (S := []) sh_43 (by decide) rfl (jrm_of hR rfl) rfl rfl (Nat.le_of_ble_eq_true rfl) (zdg dz_R_stays_1 3 rfl) (fun r8 u9 => ?_)
        refine vf_aload_n C (f := 0) (zdg dz_R_stays_1 4 rfl) 0 rfl rfl ?_
        refine vf_getp C fl_R_104 sh_43 rfl (by decide) rfl (x := 72) rfl (zdg dz_R_stays_1 5 rfl) ?_
        refine vf_iconst C (z := 0) (zdg dz_R_stays_1 6 rfl) (jz rfl) ?_
        refine vf_iald C sh_71 (by decide) rfl (mz := 3000) rfl (zdg dz_R_stays_1 7 rfl) ?_
        generalize u9 71 (0 : Int).toNat = x10
        refine vf_ul ?_
        refine vf_istore_n C (f := 2) (L' := [(0, (2, 44)), (1, (0, v1))]) (zdg dz_R_stays_1 8 rfl) [0, 1] (jrI rfl rfl) hn (by decide) rfl ?_
        refine vf_aload_n C (f := 0) (zdg dz_R_stays_1 9 rfl) 1 rfl rfl ?_
        refine vf_callVv C cy_R_findNext ml_R_382 rfl (ct_R_findNext _) (S := []) sh_43 (by decide) rfl (jrm_of hR rfl) rfl rfl (Nat.le_of_ble_eq_true rfl) (zdg dz_R_stays_1 10 rfl) (fun r11 u12 => ?_)
        refine vf_iconst C (z := 0) (zdg dz_R_stays_1 11 rfl) (jz rfl) ?_
        refine vf_istore_n C (f := 3) (L' := [(2, (0, x10)), (0, (2, 44)), (1, (0, v1))]) (zdg dz_R_stays_1 12 rfl) [0, 1, 2] (jrI rfl rfl) hn (by decide) rfl ?_
        exact vf_perm [2, 3, 1, 0] rfl (t_R_stays_61 C hn hR hr FU _ _ _ _)
      · refine vf_bipush C (z := (-2)) (zdg dz_R_stays_0 21 rfl) (by decide +kernel) (jz rfl) ?_
        exact hr _ _ _ _ (fun h => absurd h (by decide)) (zdg dz_R_stays_0 22 rfl)
    · refine vf_bipush C (z := (-3)) (zdg dz_R_stays_0 13 rfl) (by decide +kernel) (jz rfl) ?_
      exact hr _ _ _ _ (fun h => absurd h (by decide)) (zdg dz_R_stays_0 14 rfl)
  · refine vf_iconst C (z := (-1)) (zdg dz_R_stays_0 7 rfl) (jz rfl) ?_
    exact hr _ _ _ _ (fun h => absurd h (by decide)) (zdg dz_R_stays_0 8 rfl)
def f_R_isThere_36 (k2 : Int → Int → Wd → Option (Int × Wd)) (v1 v2 : Int) (w : Wd) : Option (Int × Wd) :=
  jlet (w32 (v2 + 1)) fun x1 =>
  k2 v1 x1 w
theorem t_R_isThere_36 {X : jX} {Qf : Int × Wd → State → Prop} {ad : Nat → Nat} (C : Cx X prog_14_method_88_code "EachBringsAnotherModel") (hn : xn X = 3) (hR : xR X = rmD 3) (hr : Rt X Qf ad prog_14_method_88_code 4) {k2 : Int → Int → Wd → Option (Int × Wd)} (hk2 : ∀ (v1 v2 : Int) (w : Wd), VF X Qf ad NF 0 0 w 2 [(0, (2, 44)), (1, (0, v1)), (2, (0, v2))] [] (k2 v1 v2 w)) (v1 v2 : Int) (w : Wd) : VF X Qf ad NF 0 0 w 36 [(0, (2, 44)), (1, (0, v1)), (2, (0, v2))] [] (f_R_isThere_36 k2 v1 v2 w) := by
  unfold f_R_isThere_36
  refine vf_iinc C (z := 1) (L' := [(0, (2, 44)), (1, (0, v1))]) (zdg dz_R_isThere_0 20 rfl) 2 rfl [0, 1] (jrI rfl rfl) hn (by decide) ?_
  generalize w32 (v2 + 1) = x1
  refine vf_ul ?_
  refine vf_goto C (off := (-37)) (tgt := 2) (zdg dz_R_isThere_0 21 rfl) (by decide) ?_
  exact vf_perm [1, 2, 0] rfl (hk2 _ _ _)
def f_R_isThere_2 : Nat → Int → Int → Wd → Option (Int × Wd)
  | 0, _, _, _ => none
  | n + 1, v1, v2, w =>
    if (w 43 40) ≤ v2 then
      some (0, w)
    else
      jgd ((0 : Int) ≤ v2 ∧ v2 < 3000) <|
      if (1000000 : Int) ≤ (w 69 v2.toNat) then
        f_R_isThere_36 (f_R_isThere_2 n) v1 v2 w
      else
        jcall (f_R_guestsIn v2 w) fun r2 u3 =>
        jcall (f_R_has r2 v1 u3) fun r4 u5 =>
        if r4 = 0 then
          f_R_isThere_36 (f_R_isThere_2 n) v1 v2 u5
        else
          some (1, u5)
theorem t_R_isThere_2 {X : jX} {Qf : Int × Wd → State → Prop} {ad : Nat → Nat} (C : Cx X prog_14_method_88_code "EachBringsAnotherModel") (hn : xn X = 3) (hR : xR X = rmD 3) (hr : Rt X Qf ad prog_14_method_88_code 4) : ∀ (n : Nat) (v1 v2 : Int) (w : Wd), VF X Qf ad NF 0 0 w 2 [(0, (2, 44)), (1, (0, v1)), (2, (0, v2))] [] (f_R_isThere_2 n v1 v2 w) := by
  intro n
  induction n with
  | zero => intros; exact vf_no
  | succ n ih =>
    intro v1 v2 w
    rw [f_R_isThere_2]
    refine vf_iload_n C (f := 2) (zdg dz_R_isThere_0 2 rfl) 2 rfl rfl ?_
    refine vf_aload_n C (f := 0) (zdg dz_R_isThere_0 3 rfl) 0 rfl rfl ?_
    refine vf_get C (kd := 0) fl_R_314 sh_43 rfl (by decide) rfl rfl (zdg dz_R_isThere_0 4 rfl) ?_
    refine vf_icmp_ge C (off := 35) (tgt := 42) (zdg dz_R_isThere_0 5 rfl) (by decide) ?_ ?_
    · refine vf_iconst C (z := 0) (zdg dz_R_isThere_0 22 rfl) (jz rfl) ?_
      exact hr _ _ _ _ (fun _ => Or.inl rfl) (zdg dz_R_isThere_0 23 rfl)
    · refine vf_aload_n C (f := 0) (zdg dz_R_isThere_0 6 rfl) 0 rfl rfl ?_
      refine vf_getp C fl_R_98 sh_43 rfl (by decide) rfl (x := 70) rfl (zdg dz_R_isThere_0 7 rfl) ?_
      refine vf_iload_n C (f := 2) (zdg dz_R_isThere_0 8 rfl) 2 rfl rfl ?_
      refine vf_iald C sh_69 (by decide) rfl (mz := 3000) rfl (zdg dz_R_isThere_0 9 rfl) ?_
      refine vf_ldcw C (z := 1000000) (i := 348) (zdg dz_R_isThere_0 10 rfl) kc_R_348 (by decide +kernel) (jz rfl) ?_
      refine vf_icmp_ge C (off := 17) (tgt := 36) (zdg dz_R_isThere_0 11 rfl) (by decide) ?_ ?_
      · exact t_R_isThere_36 C hn hR hr ih _ _ _
      · refine vf_aload_n C (f := 0) (zdg dz_R_isThere_0 12 rfl) 0 rfl rfl ?_
        refine vf_iload_n C (f := 2) (zdg dz_R_isThere_0 13 rfl) 2 rfl rfl ?_
        refine vf_callVi C cy_R_guestsIn ml_R_345 rfl (ct_R_guestsIn _ _) (S := []) sh_43 (by decide) rfl (jrm_of hR rfl) rfl rfl (Nat.le_of_ble_eq_true rfl) (zdg dz_R_isThere_0 14 rfl) (fun r2 u3 => ?_)
        refine vf_iload_n C (f := 1) (zdg dz_R_isThere_0 15 rfl) 1 rfl rfl ?_
        refine vf_callSz C cy_R_has ml_R_210 (ct_R_has _ _ _) (S := []) (jrm_of hR rfl) rfl rfl (Nat.le_of_ble_eq_true rfl) (zdg dz_R_isThere_0 16 rfl) (fun r4 u5 => ?_)
        refine vf_if_eq C (off := 5) (tgt := 36) (zdg dz_R_isThere_0 17 rfl) (by decide) ?_ ?_
        · exact t_R_isThere_36 C hn hR hr ih _ _ _
        · refine vf_iconst C (z := 1) (zdg dz_R_isThere_0 18 rfl) (jz rfl) ?_
          exact hr _ _ _ _ (fun _ => Or.inr rfl) (zdg dz_R_isThere_0 19 rfl)
def f_R_isThere (v1 : Int) (w : Wd) : Option (Int × Wd) :=
  f_R_isThere_2 FU v1 0 w
theorem ct_R_isThere (v1 : Int) (w : Wd) : Ct y_R_isThere prog_14_method_88_code 3 (some .boolean) 3 4 [(2, 44), (0, v1)] w (f_R_isThere v1 w) := by
  refine ct_of (by decide +kernel) (Or.inr (Or.inr (Or.inl ⟨rfl, rfl⟩))) (Nat.le_of_ble_eq_true rfl) ?_
  intro X Qf ad C hn hR hr
  unfold f_R_isThere
  show VF X Qf ad NF 0 0 w 0 [(0, (2, 44)), (1, (0, v1))] [] _
  refine vf_iconst C (z := 0) (zdg dz_R_isThere_0 0 rfl) (jz rfl) ?_
  refine vf_istore_n C (f := 2) (L' := [(0, (2, 44)), (1, (0, v1))]) (zdg dz_R_isThere_0 1 rfl) [0, 1] (jrI rfl rfl) hn (by decide) rfl ?_
  exact vf_perm [1, 2, 0] rfl (t_R_isThere_2 C hn hR hr FU _ _ _)
def f_R_soonest_79 : Nat → Int → Int → Wd → Option (Int × Wd)
  | 0, _, _, _ => none
  | n + 1, v1, v3, w =>
    jcall (f_R_isThere v1 w) fun r8 u9 =>
    if r8 = 0 then
      jcall (f_R_goOneWeek u9) fun r10 u11 =>
      jlet (w32 (v3 + 1)) fun x12 =>
      f_R_soonest_79 n v1 x12 u11
    else
      some (v3, u9)
theorem t_R_soonest_79 {X : jX} {Qf : Int × Wd → State → Prop} {ad : Nat → Nat} (C : Cx X prog_14_method_87_code "EachBringsAnotherModel") (hn : xn X = 4) (hR : xR X = rmD 20) (hr : Rt X Qf ad prog_14_method_87_code 0) : ∀ (n : Nat) (v1 v3 : Int) (w : Wd), VF X Qf ad NF 0 0 w 79 [(0, (2, 44)), (1, (0, v1)), (3, (0, v3))] [] (f_R_soonest_79 n v1 v3 w) := by
  intro n
  induction n with
  | zero => intros; exact vf_no
  | succ n ih =>
    intro v1 v3 w
    rw [f_R_soonest_79]
    refine vf_aload_n C (f := 0) (zdg dz_R_soonest_1 21 rfl) 0 rfl rfl ?_
    refine vf_iload_n C (f := 1) (zdg dz_R_soonest_1 22 rfl) 1 rfl rfl ?_
    refine vf_callVz C cy_R_isThere ml_R_395 rfl (ct_R_isThere _ _) (S := []) sh_43 (by decide) rfl (jrm_of hR rfl) rfl rfl (Nat.le_of_ble_eq_true rfl) (zdg dz_R_soonest_1 23 rfl) (fun r8 u9 => ?_)
    refine vf_if_ne C (off := 13) (tgt := 97) (zdg dz_R_soonest_2 0 rfl) (by decide) ?_ ?_
    · refine vf_iload_n C (f := 3) (zdg dz_R_soonest_2 5 rfl) 2 rfl rfl ?_
      exact hr _ _ _ _ (fun h => absurd h (by decide)) (zdg dz_R_soonest_2 6 rfl)
    · refine vf_aload_n C (f := 0) (zdg dz_R_soonest_2 1 rfl) 0 rfl rfl ?_
      refine vf_callVv C cy_R_goOneWeek ml_R_355 rfl (ct_R_goOneWeek _) (S := []) sh_43 (by decide) rfl (jrm_of hR rfl) rfl rfl (Nat.le_of_ble_eq_true rfl) (zdg dz_R_soonest_2 2 rfl) (fun r10 u11 => ?_)
      refine vf_iinc C (z := 1) (L' := [(0, (2, 44)), (1, (0, v1))]) (zdg dz_R_soonest_2 3 rfl) 2 rfl [0, 1] (jrI rfl rfl) hn (by decide) ?_
      generalize w32 (v3 + 1) = x12
      refine vf_ul ?_
      refine vf_goto C (off := (-15)) (tgt := 79) (zdg dz_R_soonest_2 4 rfl) (by decide) ?_
      exact vf_perm [1, 2, 0] rfl (ih _ _ _)
def f_R_soonest_59 (k30 : Int → Int → Int → Wd → Option (Int × Wd)) (v1 v3 s0 : Int) (w : Wd) : Option (Int × Wd) :=
  jlet (w32 (v3 + 1)) fun x13 =>
  k30 v1 s0 x13 w
theorem t_R_soonest_59 {X : jX} {Qf : Int × Wd → State → Prop} {ad : Nat → Nat} (C : Cx X prog_14_method_87_code "EachBringsAnotherModel") (hn : xn X = 4) (hR : xR X = rmD 20) (hr : Rt X Qf ad prog_14_method_87_code 0) {k30 : Int → Int → Int → Wd → Option (Int × Wd)} (hk30 : ∀ (v1 v2 v3 : Int) (w : Wd), VF X Qf ad NF 0 0 w 30 [(0, (2, 44)), (1, (0, v1)), (2, (0, v2)), (3, (0, v3))] [] (k30 v1 v2 v3 w)) (v1 v3 s0 : Int) (w : Wd) : VF X Qf ad NF 0 0 w 59 [(0, (2, 44)), (1, (0, v1)), (3, (0, v3))] [(0, s0)] (f_R_soonest_59 k30 v1 v3 s0 w) := by
  unfold f_R_soonest_59
  refine vf_istore_n C (f := 2) (L' := [(0, (2, 44)), (1, (0, v1)), (3, (0, v3))]) (zdg dz_R_soonest_1 10 rfl) [0, 1, 2] (jrI rfl rfl) hn (by decide) rfl ?_
  refine vf_iinc C (z := 1) (L' := [(2, (0, s0)), (0, (2, 44)), (1, (0, v1))]) (zdg dz_R_soonest_1 11 rfl) 3 rfl [0, 1, 2] (jrI rfl rfl) hn (by decide) ?_
  generalize w32 (v3 + 1) = x13
  refine vf_ul ?_
  refine vf_goto C (off := (-33)) (tgt := 30) (zdg dz_R_soonest_1 12 rfl) (by decide) ?_
  exact vf_perm [2, 3, 1, 0] rfl (hk30 _ _ _ _)
def f_R_soonest_54 (k30 : Int → Int → Int → Wd → Option (Int × Wd)) (v1 v3 : Int) (w : Wd) : Option (Int × Wd) :=
  f_R_soonest_59 k30 v1 v3 1 w
theorem t_R_soonest_54 {X : jX} {Qf : Int × Wd → State → Prop} {ad : Nat → Nat} (C : Cx X prog_14_method_87_code "EachBringsAnotherModel") (hn : xn X = 4) (hR : xR X = rmD 20) (hr : Rt X Qf ad prog_14_method_87_code 0) {k30 : Int → Int → Int → Wd → Option (Int × Wd)} (hk30 : ∀ (v1 v2 v3 : Int) (w : Wd), VF X Qf ad NF 0 0 w 30 [(0, (2, 44)), (1, (0, v1)), (2, (0, v2)), (3, (0, v3))] [] (k30 v1 v2 v3 w)) (v1 v3 : Int) (w : Wd) : VF X Qf ad NF 0 0 w 54 [(0, (2, 44)), (1, (0, v1)), (3, (0, v3))] [] (f_R_soonest_54 k30 v1 v3 w) := by
  unfold f_R_soonest_54
  refine vf_iconst C (z := 1) (zdg dz_R_soonest_1 7 rfl) (jz rfl) ?_
  refine vf_goto C (off := 4) (tgt := 59) (zdg dz_R_soonest_1 8 rfl) (by decide) ?_
  exact t_R_soonest_59 C hn hR hr hk30 _ _ _ _
def f_R_soonest_30 : Nat → Int → Int → Int → Wd → Option (Int × Wd)
  | 0, _, _, _, _ => none
  | n + 1, v1, v2, v3, w =>
    if (w 43 40) ≤ v3 then
      if v2 = 0 then
        some ((-2), w)
      else
        jcall (f_R_beginWeeks w) fun r6 u7 =>
        f_R_soonest_79 FU v1 0 u7
    else
      if v2 = 0 then
        jcall (f_R_guestsIn v3 w) fun r14 u15 =>
        jcall (f_R_has r14 v1 u15) fun r16 u17 =>
        if r16 = 0 then
          f_R_soonest_59 (f_R_soonest_30 n) v1 v3 0 u17
        else
          f_R_soonest_54 (f_R_soonest_30 n) v1 v3 u17
      else
        f_R_soonest_54 (f_R_soonest_30 n) v1 v3 w
theorem t_R_soonest_30 {X : jX} {Qf : Int × Wd → State → Prop} {ad : Nat → Nat} (C : Cx X prog_14_method_87_code "EachBringsAnotherModel") (hn : xn X = 4) (hR : xR X = rmD 20) (hr : Rt X Qf ad prog_14_method_87_code 0) : ∀ (n : Nat) (v1 v2 v3 : Int) (w : Wd), VF X Qf ad NF 0 0 w 30 [(0, (2, 44)), (1, (0, v1)), (2, (0, v2)), (3, (0, v3))] [] (f_R_soonest_30 n v1 v2 v3 w) := by
  intro n
  induction n with
  | zero => intros; exact vf_no
  | succ n ih =>
    intro v1 v2 v3 w
    rw [f_R_soonest_30]
    refine vf_iload_n C (f := 3) (zdg dz_R_soonest_0 19 rfl) 3 rfl rfl ?_
    refine vf_aload_n C (f := 0) (zdg dz_R_soonest_0 20 rfl) 0 rfl rfl ?_
    refine vf_get C (kd := 0) fl_R_314 sh_43 rfl (by decide) rfl rfl (zdg dz_R_soonest_0 21 rfl) ?_
    refine vf_icmp_ge C (off := 31) (tgt := 66) (zdg dz_R_soonest_0 22 rfl) (by decide) ?_ ?_
    · refine vf_iload_n C (f := 2) (zdg dz_R_soonest_1 13 rfl) 2 rfl rfl ?_
      refine vf_if_ne C (off := 6) (tgt := 73) (zdg dz_R_soonest_1 14 rfl) (by decide) ?_ ?_
      · refine vf_aload_n C (f := 0) (zdg dz_R_soonest_1 17 rfl) 0 rfl rfl ?_
        refine vf_callVv C cy_R_beginWeeks ml_R_352 rfl (ct_R_beginWeeks _) (S := []) sh_43 (by decide) rfl (jrm_of hR rfl) rfl rfl (Nat.le_of_ble_eq_true rfl) (zdg dz_R_soonest_1 18 rfl) (fun r6 u7 => ?_)
        refine vf_iconst C (z := 0) (zdg dz_R_soonest_1 19 rfl) (jz rfl) ?_
        refine vf_istore_n C (f := 3) (L' := [(0, (2, 44)), (1, (0, v1))]) (zdg dz_R_soonest_1 20 rfl) [0, 1] (jrI rfl rfl) hn (by decide) rfl ?_
        exact vf_perm [1, 2, 0] rfl (t_R_soonest_79 C hn hR hr FU _ _ _)
      · refine vf_bipush C (z := (-2)) (zdg dz_R_soonest_1 15 rfl) (by decide +kernel) (jz rfl) ?_
        exact hr _ _ _ _ (fun h => absurd h (by decide)) (zdg dz_R_soonest_1 16 rfl)
    · refine vf_iload_n C (f := 2) (zdg dz_R_soonest_0 23 rfl) 2 rfl rfl ?_
      refine vf_if_ne C (off := 15) (tgt := 54) (zdg dz_R_soonest_1 0 rfl) (by decide) ?_ ?_
      · exact vf_perm [0, 1, 3] rfl (t_R_soonest_54 C hn hR hr ih _ _ _)
      · refine vf_aload_n C (f := 0) (zdg dz_R_soonest_1 1 rfl) 0 rfl rfl ?_
        refine vf_iload_n C (f := 3) (zdg dz_R_soonest_1 2 rfl) 3 rfl rfl ?_
        refine vf_callVi C cy_R_guestsIn ml_R_345 rfl (ct_R_guestsIn _ _) (S := []) sh_43 (by decide) rfl (jrm_of hR rfl) rfl rfl (Nat.le_of_ble_eq_true rfl) (zdg dz_R_soonest_1 3 rfl) (fun r14 u15 => ?_)
        refine vf_iload_n C (f := 1) (zdg dz_R_soonest_1 4 rfl) 1 rfl rfl ?_
        refine vf_callSz C cy_R_has ml_R_210 (ct_R_has _ _ _) (S := []) (jrm_of hR rfl) rfl rfl (Nat.le_of_ble_eq_true rfl) (zdg dz_R_soonest_1 5 rfl) (fun r16 u17 => ?_)
        refine vf_if_eq C (off := 7) (tgt := 58) (zdg dz_R_soonest_1 6 rfl) (by decide) ?_ ?_
        · refine vf_iconst C (z := 0) (zdg dz_R_soonest_1 9 rfl) (jz rfl) ?_
          exact vf_perm [0, 1, 3] rfl (t_R_soonest_59 C hn hR hr ih _ _ _ _)
        · exact vf_perm [0, 1, 3] rfl (t_R_soonest_54 C hn hR hr ih _ _ _)
def f_R_soonest (v1 : Int) (w : Wd) : Option (Int × Wd) :=
  jlw (st w 43 16 0) fun u1 =>
  jcall (f_R_isOne v1 u1) fun r2 u3 =>
  if r2 = 0 then
    some ((-1), u3)
  else
    jcall (f_R_findStates 0 u3) fun r4 u5 =>
    if r4 = 0 then
      some ((-3), u5)
    else
      f_R_soonest_30 FU v1 0 0 u5
theorem ct_R_soonest (v1 : Int) (w : Wd) : Ct y_R_soonest prog_14_method_87_code 4 (some .int) 20 0 [(2, 44), (0, v1)] w (f_R_soonest v1 w) := by
  refine ct_of (by decide +kernel) (Or.inl ⟨rfl, rfl⟩) (Nat.le_of_ble_eq_true rfl) ?_
  intro X Qf ad C hn hR hr
  unfold f_R_soonest
  show VF X Qf ad NF 0 0 w 0 [(0, (2, 44)), (1, (0, v1))] [] _
  refine vf_aload_n C (f := 0) (zdg dz_R_soonest_0 0 rfl) 0 rfl rfl ?_
  refine vf_iconst C (z := 0) (zdg dz_R_soonest_0 1 rfl) (jz rfl) ?_
  refine vf_put C (kd := 0) fl_R_138 fk_11_16 sh_43 rfl (by decide) rfl rfl (by decide) (zdg dz_R_soonest_0 2 rfl) ?_
  generalize st w 43 16 0 = u1
  refine vf_uw ?_
  refine vf_aload_n C (f := 0) (zdg dz_R_soonest_0 3 rfl) 0 rfl rfl ?_
  refine vf_iload_n C (f := 1) (zdg dz_R_soonest_0 4 rfl) 1 rfl rfl ?_
  refine vf_callVz C cy_R_isOne ml_R_151 rfl (ct_R_isOne _ _) (S := []) sh_43 (by decide) rfl (jrm_of hR rfl) rfl rfl (Nat.le_of_ble_eq_true rfl) (zdg dz_R_soonest_0 5 rfl) (fun r2 u3 => ?_)
  refine vf_if_ne C (off := 5) (tgt := 15) (zdg dz_R_soonest_0 6 rfl) (by decide) ?_ ?_
  · refine vf_aload_n C (f := 0) (zdg dz_R_soonest_0 9 rfl) 0 rfl rfl ?_
    refine vf_iconst C (z := 0) (zdg dz_R_soonest_0 10 rfl) (jz rfl) ?_
    refine vf_callVz C cy_R_findStates ml_R_342 rfl (ct_R_findStates _ _) (S := []) sh_43 (by decide) rfl (jrm_of hR rfl) rfl rfl (Nat.le_of_ble_eq_true rfl) (zdg dz_R_soonest_0 11 rfl) (fun r4 u5 => ?_)
    refine vf_if_ne C (off := 6) (tgt := 26) (zdg dz_R_soonest_0 12 rfl) (by decide) ?_ ?_
    · refine vf_iconst C (z := 0) (zdg dz_R_soonest_0 15 rfl) (jz rfl) ?_
      refine vf_istore_n C (f := 2) (L' := [(0, (2, 44)), (1, (0, v1))]) (zdg dz_R_soonest_0 16 rfl) [0, 1] (jrI rfl rfl) hn (by decide) rfl ?_
      refine vf_iconst C (z := 0) (zdg dz_R_soonest_0 17 rfl) (jz rfl) ?_
      refine vf_istore_n C (f := 3) (L' := [(2, (0, 0)), (0, (2, 44)), (1, (0, v1))]) (zdg dz_R_soonest_0 18 rfl) [0, 1, 2] (jrI rfl rfl) hn (by decide) rfl ?_
      exact vf_perm [2, 3, 1, 0] rfl (t_R_soonest_30 C hn hR hr FU _ _ _ _)
    · refine vf_bipush C (z := (-3)) (zdg dz_R_soonest_0 13 rfl) (by decide +kernel) (jz rfl) ?_
      exact hr _ _ _ _ (fun h => absurd h (by decide)) (zdg dz_R_soonest_0 14 rfl)
  · refine vf_iconst C (z := (-1)) (zdg dz_R_soonest_0 7 rfl) (jz rfl) ?_
    exact hr _ _ _ _ (fun h => absurd h (by decide)) (zdg dz_R_soonest_0 8 rfl)
def f_R_lastWith (v1 : Int) (w : Wd) : Option (Int × Wd) :=
  jcall (f_R_findStates v1 w) fun r1 u2 =>
  if r1 = 0 then
    some ((-3), u2)
  else
    jcall (f_R_all u2) fun r3 u4 =>
    jcall (f_R_findLife r3 u4) fun r5 u6 =>
    jgd ((0 : Int) ≤ (0 : Int) ∧ (0 : Int) < 3000) <|
    if (0 : Int) ≤ (u6 71 (0 : Int).toNat) then
      jgd ((0 : Int) ≤ (0 : Int) ∧ (0 : Int) < 3000) <|
      some (u6 71 (0 : Int).toNat, u6)
    else
      some ((-2), u6)
theorem ct_R_lastWith (v1 : Int) (w : Wd) : Ct y_R_lastWith prog_14_method_89_code 2 (some .int) 20 0 [(2, 44), (0, v1)] w (f_R_lastWith v1 w) := by
  refine ct_of (by decide +kernel) (Or.inl ⟨rfl, rfl⟩) (Nat.le_of_ble_eq_true rfl) ?_
  intro X Qf ad C hn hR hr
  unfold f_R_lastWith
  show VF X Qf ad NF 0 0 w 0 [(0, (2, 44)), (1, (0, v1))] [] _
  refine vf_aload_n C (f := 0) (zdg dz_R_lastWith_0 0 rfl) 0 rfl rfl ?_
  refine vf_iload_n C (f := 1) (zdg dz_R_lastWith_0 1 rfl) 1 rfl rfl ?_
  refine vf_callVz C cy_R_findStates ml_R_342 rfl (ct_R_findStates _ _) (S := []) sh_43 (by decide) rfl (jrm_of hR rfl) rfl rfl (Nat.le_of_ble_eq_true rfl) (zdg dz_R_lastWith_0 2 rfl) (fun r1 u2 => ?_)
  refine vf_if_ne C (off := 6) (tgt := 11) (zdg dz_R_lastWith_0 3 rfl) (by decide) ?_ ?_
  · refine vf_aload_n C (f := 0) (zdg dz_R_lastWith_0 6 rfl) 0 rfl rfl ?_
    refine vf_aload_n C (f := 0) (zdg dz_R_lastWith_0 7 rfl) 0 rfl rfl ?_
    refine vf_callVi C cy_R_all ml_R_370 rfl (ct_R_all _) (S := [(2, 44)]) sh_43 (by decide) rfl (jrm_of hR rfl) rfl rfl (Nat.le_of_ble_eq_true rfl) (zdg dz_R_lastWith_0 8 rfl) (fun r3 u4 => ?_)
    refine vf_callVv C cy_R_findLife ml_R_373 rfl (ct_R_findLife _ _) (S := []) sh_43 (by decide) rfl (jrm_of hR rfl) rfl rfl (Nat.le_of_ble_eq_true rfl) (zdg dz_R_lastWith_0 9 rfl) (fun r5 u6 => ?_)
    refine vf_aload_n C (f := 0) (zdg dz_R_lastWith_0 10 rfl) 0 rfl rfl ?_
    refine vf_getp C fl_R_104 sh_43 rfl (by decide) rfl (x := 72) rfl (zdg dz_R_lastWith_0 11 rfl) ?_
    refine vf_iconst C (z := 0) (zdg dz_R_lastWith_0 12 rfl) (jz rfl) ?_
    refine vf_iald C sh_71 (by decide) rfl (mz := 3000) rfl (zdg dz_R_lastWith_0 13 rfl) ?_
    refine vf_if_ge C (off := 8) (tgt := 33) (zdg dz_R_lastWith_0 14 rfl) (by decide) ?_ ?_
    · refine vf_aload_n C (f := 0) (zdg dz_R_lastWith_0 17 rfl) 0 rfl rfl ?_
      refine vf_getp C fl_R_104 sh_43 rfl (by decide) rfl (x := 72) rfl (zdg dz_R_lastWith_0 18 rfl) ?_
      refine vf_iconst C (z := 0) (zdg dz_R_lastWith_0 19 rfl) (jz rfl) ?_
      refine vf_iald C sh_71 (by decide) rfl (mz := 3000) rfl (zdg dz_R_lastWith_0 20 rfl) ?_
      exact hr _ _ _ _ (fun h => absurd h (by decide)) (zdg dz_R_lastWith_0 21 rfl)
    · refine vf_bipush C (z := (-2)) (zdg dz_R_lastWith_0 15 rfl) (by decide +kernel) (jz rfl) ?_
      refine vf_goto C (off := 9) (tgt := 39) (zdg dz_R_lastWith_0 16 rfl) (by decide) ?_
      exact hr _ _ _ _ (fun h => absurd h (by decide)) (zdg dz_R_lastWith_0 21 rfl)
  · refine vf_bipush C (z := (-3)) (zdg dz_R_lastWith_0 4 rfl) (by decide +kernel) (jz rfl) ?_
    exact hr _ _ _ _ (fun h => absurd h (by decide)) (zdg dz_R_lastWith_0 5 rfl)
def f_R_worth (v1 : Int) (w : Wd) : Option (Int × Wd) :=
  jlw (st w 43 16 0) fun u1 =>
  jcall (f_R_isOne v1 u1) fun r2 u3 =>
  if r2 = 0 then
    some ((-1), u3)
  else
    jgd ((0 : Int) ≤ v1 ∧ v1 < 10) <|
    if (u3 47 v1.toNat) = 0 then
      jgd ((0 : Int) ≤ v1 ∧ v1 < 10) <|
      if (u3 46 v1.toNat) = 0 then
        jcall (f_R_lastWith 0 u3) fun r4 u5 =>
        if (0 : Int) ≤ r4 then
          jcall (f_R_lastWith (ishl 1 v1) u5) fun r6 u7 =>
          some (w32 (r4 - r6), u7)
        else
          some (r4, u5)
      else
        some ((-1), u3)
    else
      some ((-1), u3)
theorem ct_R_worth (v1 : Int) (w : Wd) : Ct y_R_worth prog_14_method_90_code 3 (some .int) 21 0 [(2, 44), (0, v1)] w (f_R_worth v1 w) := by
  refine ct_of (by decide +kernel) (Or.inl ⟨rfl, rfl⟩) (Nat.le_of_ble_eq_true rfl) ?_
  intro X Qf ad C hn hR hr
  unfold f_R_worth
  show VF X Qf ad NF 0 0 w 0 [(0, (2, 44)), (1, (0, v1))] [] _
  refine vf_aload_n C (f := 0) (zdg dz_R_worth_0 0 rfl) 0 rfl rfl ?_
  refine vf_iconst C (z := 0) (zdg dz_R_worth_0 1 rfl) (jz rfl) ?_
  refine vf_put C (kd := 0) fl_R_138 fk_11_16 sh_43 rfl (by decide) rfl rfl (by decide) (zdg dz_R_worth_0 2 rfl) ?_
  generalize st w 43 16 0 = u1
  refine vf_uw ?_
  refine vf_aload_n C (f := 0) (zdg dz_R_worth_0 3 rfl) 0 rfl rfl ?_
  refine vf_iload_n C (f := 1) (zdg dz_R_worth_0 4 rfl) 1 rfl rfl ?_
  refine vf_callVz C cy_R_isOne ml_R_151 rfl (ct_R_isOne _ _) (S := []) sh_43 (by decide) rfl (jrm_of hR rfl) rfl rfl (Nat.le_of_ble_eq_true rfl) (zdg dz_R_worth_0 5 rfl) (fun r2 u3 => ?_)
  refine vf_if_eq C (off := 21) (tgt := 31) (zdg dz_R_worth_0 6 rfl) (by decide) ?_ ?_
  · refine vf_iconst C (z := (-1)) (zdg dz_R_worth_0 17 rfl) (jz rfl) ?_
    exact hr _ _ _ _ (fun h => absurd h (by decide)) (zdg dz_R_worth_0 18 rfl)
  · refine vf_aload_n C (f := 0) (zdg dz_R_worth_0 7 rfl) 0 rfl rfl ?_
    refine vf_getp C fl_R_20 sh_43 rfl (by decide) rfl (x := 48) rfl (zdg dz_R_worth_0 8 rfl) ?_
    refine vf_iload_n C (f := 1) (zdg dz_R_worth_0 9 rfl) 1 rfl rfl ?_
    refine vf_iald C sh_47 (by decide) rfl (mz := 10) rfl (zdg dz_R_worth_0 10 rfl) ?_
    refine vf_if_ne C (off := 12) (tgt := 31) (zdg dz_R_worth_0 11 rfl) (by decide) ?_ ?_
    · refine vf_iconst C (z := (-1)) (zdg dz_R_worth_0 17 rfl) (jz rfl) ?_
      exact hr _ _ _ _ (fun h => absurd h (by decide)) (zdg dz_R_worth_0 18 rfl)
    · refine vf_aload_n C (f := 0) (zdg dz_R_worth_0 12 rfl) 0 rfl rfl ?_
      refine vf_getp C fl_R_16 sh_43 rfl (by decide) rfl (x := 47) rfl (zdg dz_R_worth_0 13 rfl) ?_
      refine vf_iload_n C (f := 1) (zdg dz_R_worth_0 14 rfl) 1 rfl rfl ?_
      refine vf_zald C sh_46 (by decide) rfl (mz := 10) rfl (zdg dz_R_worth_0 15 rfl) ?_
      refine vf_if_eq C (off := 5) (tgt := 33) (zdg dz_R_worth_0 16 rfl) (by decide) ?_ ?_
      · refine vf_aload_n C (f := 0) (zdg dz_R_worth_0 19 rfl) 0 rfl rfl ?_
        refine vf_iconst C (z := 0) (zdg dz_R_worth_0 20 rfl) (jz rfl) ?_
        refine vf_callVi C cy_R_lastWith ml_R_398 rfl (ct_R_lastWith _ _) (S := []) sh_43 (by decide) rfl (jrm_of hR rfl) rfl rfl (Nat.le_of_ble_eq_true rfl) (zdg dz_R_worth_0 21 rfl) (fun r4 u5 => ?_)
        refine vf_istore_n C (f := 2) (L' := [(0, (2, 44)), (1, (0, v1))]) (zdg dz_R_worth_0 22 rfl) [0, 1] (jrI rfl rfl) hn (by decide) rfl ?_
        refine vf_iload_n C (f := 2) (zdg dz_R_worth_0 23 rfl) 0 rfl rfl ?_
        refine vf_if_ge C (off := 7) (tgt := 47) (zdg dz_R_worth_1 0 rfl) (by decide) ?_ ?_
        · refine vf_iload_n C (f := 2) (zdg dz_R_worth_1 3 rfl) 0 rfl rfl ?_
          refine vf_aload_n C (f := 0) (zdg dz_R_worth_1 4 rfl) 1 rfl rfl ?_
          refine vf_iconst C (z := 1) (zdg dz_R_worth_1 5 rfl) (jz rfl) ?_
          refine vf_iload_n C (f := 1) (zdg dz_R_worth_1 6 rfl) 2 rfl rfl ?_
          refine vf_ishl C (zdg dz_R_worth_1 7 rfl) ?_
          refine vf_callVi C cy_R_lastWith ml_R_398 rfl (ct_R_lastWith _ _) (S := [(0, r4)]) sh_43 (by decide) rfl (jrm_of hR rfl) rfl rfl (Nat.le_of_ble_eq_true rfl) (zdg dz_R_worth_1 8 rfl) (fun r6 u7 => ?_)
          refine vf_isub C (zdg dz_R_worth_1 9 rfl) ?_
          exact hr _ _ _ _ (fun h => absurd h (by decide)) (zdg dz_R_worth_1 10 rfl)
        · refine vf_iload_n C (f := 2) (zdg dz_R_worth_1 1 rfl) 0 rfl rfl ?_
          refine vf_goto C (off := 12) (tgt := 56) (zdg dz_R_worth_1 2 rfl) (by decide) ?_
          exact hr _ _ _ _ (fun h => absurd h (by decide)) (zdg dz_R_worth_1 10 rfl)
      · refine vf_iconst C (z := (-1)) (zdg dz_R_worth_0 17 rfl) (jz rfl) ?_
        exact hr _ _ _ _ (fun h => absurd h (by decide)) (zdg dz_R_worth_0 18 rfl)
def f_R_needed_57 (k21 : Int → Int → Int → Wd → Option (Int × Wd)) (v1 v2 v3 : Int) (w : Wd) : Option (Int × Wd) :=
  jlet (w32 (v3 + 1)) fun x8 =>
  k21 v1 v2 x8 w
theorem t_R_needed_57 {X : jX} {Qf : Int × Wd → State → Prop} {ad : Nat → Nat} (C : Cx X prog_14_method_91_code "EachBringsAnotherModel") (hn : xn X = 4) (hR : xR X = rmD 21) (hr : Rt X Qf ad prog_14_method_91_code 0) {k21 : Int → Int → Int → Wd → Option (Int × Wd)} (hk21 : ∀ (v1 v2 v3 : Int) (w : Wd), VF X Qf ad NF 0 0 w 21 [(0, (2, 44)), (1, (0, v1)), (2, (0, v2)), (3, (0, v3))] [] (k21 v1 v2 v3 w)) (v1 v2 v3 : Int) (w : Wd) : VF X Qf ad NF 0 0 w 57 [(0, (2, 44)), (1, (0, v1)), (2, (0, v2)), (3, (0, v3))] [] (f_R_needed_57 k21 v1 v2 v3 w) := by
  unfold f_R_needed_57
  refine vf_iinc C (z := 1) (L' := [(0, (2, 44)), (1, (0, v1)), (2, (0, v2))]) (zdg dz_R_needed_1 13 rfl) 3 rfl [0, 1, 2] (jrI rfl rfl) hn (by decide) ?_
  generalize w32 (v3 + 1) = x8
  refine vf_ul ?_
  refine vf_goto C (off := (-39)) (tgt := 21) (zdg dz_R_needed_1 14 rfl) (by decide) ?_
  exact vf_perm [1, 2, 3, 0] rfl (hk21 _ _ _ _)
def f_R_needed_21 : Nat → Int → Int → Int → Wd → Option (Int × Wd)
  | 0, _, _, _, _ => none
  | n + 1, v1, v2, v3, w =>
    if (w 43 0) ≤ v3 then
      some (v2, w)
    else
      jcall (f_R_free w) fun r4 u5 =>
      jcall (f_R_has r4 v3 u5) fun r6 u7 =>
      if r6 = 0 then
        f_R_needed_57 (f_R_needed_21 n) v1 v2 v3 u7
      else
        jcall (f_R_lastWith (ishl 1 v3) u7) fun r9 u10 =>
        if v1 ≤ r9 then
          f_R_needed_57 (f_R_needed_21 n) v1 v2 v3 u10
        else
          jlet (ior v2 (ishl 1 v3)) fun x11 =>
          f_R_needed_57 (f_R_needed_21 n) v1 x11 v3 u10
theorem t_R_needed_21 {X : jX} {Qf : Int × Wd → State → Prop} {ad : Nat → Nat} (C : Cx X prog_14_method_91_code "EachBringsAnotherModel") (hn : xn X = 4) (hR : xR X = rmD 21) (hr : Rt X Qf ad prog_14_method_91_code 0) : ∀ (n : Nat) (v1 v2 v3 : Int) (w : Wd), VF X Qf ad NF 0 0 w 21 [(0, (2, 44)), (1, (0, v1)), (2, (0, v2)), (3, (0, v3))] [] (f_R_needed_21 n v1 v2 v3 w) := by
  intro n
  induction n with
  | zero => intros; exact vf_no
  | succ n ih =>
    intro v1 v2 v3 w
    rw [f_R_needed_21]
    refine vf_iload_n C (f := 3) (zdg dz_R_needed_0 15 rfl) 3 rfl rfl ?_
    refine vf_aload_n C (f := 0) (zdg dz_R_needed_0 16 rfl) 0 rfl rfl ?_
    refine vf_get C (kd := 0) fl_R_144 sh_43 rfl (by decide) rfl rfl (zdg dz_R_needed_0 17 rfl) ?_
    refine vf_icmp_ge C (off := 37) (tgt := 63) (zdg dz_R_needed_0 18 rfl) (by decide) ?_ ?_
    · refine vf_iload_n C (f := 2) (zdg dz_R_needed_1 15 rfl) 2 rfl rfl ?_
      exact hr _ _ _ _ (fun h => absurd h (by decide)) (zdg dz_R_needed_1 16 rfl)
    · refine vf_aload_n C (f := 0) (zdg dz_R_needed_0 19 rfl) 0 rfl rfl ?_
      refine vf_callVi C cy_R_free ml_R_286 rfl (ct_R_free _) (S := []) sh_43 (by decide) rfl (jrm_of hR rfl) rfl rfl (Nat.le_of_ble_eq_true rfl) (zdg dz_R_needed_0 20 rfl) (fun r4 u5 => ?_)
      refine vf_iload_n C (f := 3) (zdg dz_R_needed_0 21 rfl) 3 rfl rfl ?_
      refine vf_callSz C cy_R_has ml_R_210 (ct_R_has _ _ _) (S := []) (jrm_of hR rfl) rfl rfl (Nat.le_of_ble_eq_true rfl) (zdg dz_R_needed_0 22 rfl) (fun r6 u7 => ?_)
      refine vf_if_eq C (off := 20) (tgt := 57) (zdg dz_R_needed_0 23 rfl) (by decide) ?_ ?_
      · exact t_R_needed_57 C hn hR hr ih _ _ _ _
      · refine vf_aload_n C (f := 0) (zdg dz_R_needed_1 0 rfl) 0 rfl rfl ?_
        refine vf_iconst C (z := 1) (zdg dz_R_needed_1 1 rfl) (jz rfl) ?_
        refine vf_iload_n C (f := 3) (zdg dz_R_needed_1 2 rfl) 3 rfl rfl ?_
        refine vf_ishl C (zdg dz_R_needed_1 3 rfl) ?_
        refine vf_callVi C cy_R_lastWith ml_R_398 rfl (ct_R_lastWith _ _) (S := []) sh_43 (by decide) rfl (jrm_of hR rfl) rfl rfl (Nat.le_of_ble_eq_true rfl) (zdg dz_R_needed_1 4 rfl) (fun r9 u10 => ?_)
        refine vf_iload_n C (f := 1) (zdg dz_R_needed_1 5 rfl) 1 rfl rfl ?_
        refine vf_icmp_ge C (off := 9) (tgt := 57) (zdg dz_R_needed_1 6 rfl) (by decide) ?_ ?_
        · exact t_R_needed_57 C hn hR hr ih _ _ _ _
        · refine vf_iload_n C (f := 2) (zdg dz_R_needed_1 7 rfl) 2 rfl rfl ?_
          refine vf_iconst C (z := 1) (zdg dz_R_needed_1 8 rfl) (jz rfl) ?_
          refine vf_iload_n C (f := 3) (zdg dz_R_needed_1 9 rfl) 3 rfl rfl ?_
          refine vf_ishl C (zdg dz_R_needed_1 10 rfl) ?_
          refine vf_ior C (zdg dz_R_needed_1 11 rfl) ?_
          generalize ior v2 (ishl 1 v3) = x11
          refine vf_ul ?_
          refine vf_istore_n C (f := 2) (L' := [(0, (2, 44)), (1, (0, v1)), (3, (0, v3))]) (zdg dz_R_needed_1 12 rfl) [0, 1, 3] (jrI rfl rfl) hn (by decide) rfl ?_
          exact vf_perm [1, 2, 0, 3] rfl (t_R_needed_57 C hn hR hr ih _ _ _ _)
def f_R_needed (w : Wd) : Option (Int × Wd) :=
  jlw (st w 43 16 0) fun u1 =>
  jcall (f_R_lastWith 0 u1) fun r2 u3 =>
  if (0 : Int) ≤ r2 then
    f_R_needed_21 FU r2 0 0 u3
  else
    some (r2, u3)
theorem ct_R_needed (w : Wd) : Ct y_R_needed prog_14_method_91_code 4 (some .int) 21 0 [(2, 44)] w (f_R_needed w) := by
  refine ct_of (by decide +kernel) (Or.inl ⟨rfl, rfl⟩) (Nat.le_of_ble_eq_true rfl) ?_
  intro X Qf ad C hn hR hr
  unfold f_R_needed
  show VF X Qf ad NF 0 0 w 0 [(0, (2, 44))] [] _
  refine vf_aload_n C (f := 0) (zdg dz_R_needed_0 0 rfl) 0 rfl rfl ?_
  refine vf_iconst C (z := 0) (zdg dz_R_needed_0 1 rfl) (jz rfl) ?_
  refine vf_put C (kd := 0) fl_R_138 fk_11_16 sh_43 rfl (by decide) rfl rfl (by decide) (zdg dz_R_needed_0 2 rfl) ?_
  generalize st w 43 16 0 = u1
  refine vf_uw ?_
  refine vf_aload_n C (f := 0) (zdg dz_R_needed_0 3 rfl) 0 rfl rfl ?_
  refine vf_iconst C (z := 0) (zdg dz_R_needed_0 4 rfl) (jz rfl) ?_
  refine vf_callVi C cy_R_lastWith ml_R_398 rfl (ct_R_lastWith _ _) (S := []) sh_43 (by decide) rfl (jrm_of hR rfl) rfl rfl (Nat.le_of_ble_eq_true rfl) (zdg dz_R_needed_0 5 rfl) (fun r2 u3 => ?_)
  refine vf_istore_n C (f := 1) (L' := [(0, (2, 44))]) (zdg dz_R_needed_0 6 rfl) [0] (jrI rfl rfl) hn (by decide) rfl ?_
  refine vf_iload_n C (f := 1) (zdg dz_R_needed_0 7 rfl) 0 rfl rfl ?_
  refine vf_if_ge C (off := 5) (tgt := 17) (zdg dz_R_needed_0 8 rfl) (by decide) ?_ ?_
  · refine vf_iconst C (z := 0) (zdg dz_R_needed_0 11 rfl) (jz rfl) ?_
    refine vf_istore_n C (f := 2) (L' := [(1, (0, r2)), (0, (2, 44))]) (zdg dz_R_needed_0 12 rfl) [0, 1] (jrI rfl rfl) hn (by decide) rfl ?_
    refine vf_iconst C (z := 0) (zdg dz_R_needed_0 13 rfl) (jz rfl) ?_
    refine vf_istore_n C (f := 3) (L' := [(2, (0, 0)), (1, (0, r2)), (0, (2, 44))]) (zdg dz_R_needed_0 14 rfl) [0, 1, 2] (jrI rfl rfl) hn (by decide) rfl ?_
    exact vf_perm [3, 2, 1, 0] rfl (t_R_needed_21 C hn hR hr FU _ _ _ _)
  · refine vf_iload_n C (f := 1) (zdg dz_R_needed_0 9 rfl) 0 rfl rfl ?_
    exact hr _ _ _ _ (fun h => absurd h (by decide)) (zdg dz_R_needed_0 10 rfl)
end
section
def f_R_never_25 : Nat → Int → Int → Wd → Option (Int × Wd)
  | 0, _, _, _ => none
  | n + 1, v1, v2, w =>
    if (w 43 40) ≤ v2 then
      some (v1, w)
    else
      jcall (f_R_guestsIn v2 w) fun r6 u7 =>
      jlet (iand v1 (ixor r6 (-1))) fun x8 =>
      jlet (w32 (v2 + 1)) fun x9 =>
      f_R_never_25 n x8 x9 u7
theorem t_R_never_25 {X : jX} {Qf : Int × Wd → State → Prop} {ad : Nat → Nat} (C : Cx X prog_14_method_92_code "EachBringsAnotherModel") (hn : xn X = 3) (hR : xR X = rmD 20) (hr : Rt X Qf ad prog_14_method_92_code 0) : ∀ (n : Nat) (v1 v2 : Int) (w : Wd), VF X Qf ad NF 0 0 w 25 [(0, (2, 44)), (1, (0, v1)), (2, (0, v2))] [] (f_R_never_25 n v1 v2 w) := by
  intro n
  induction n with
  | zero => intros; exact vf_no
  | succ n ih =>
    intro v1 v2 w
    rw [f_R_never_25]
    refine vf_iload_n C (f := 2) (zdg dz_R_never_0 16 rfl) 2 rfl rfl ?_
    refine vf_aload_n C (f := 0) (zdg dz_R_never_0 17 rfl) 0 rfl rfl ?_
    refine vf_get C (kd := 0) fl_R_314 sh_43 rfl (by decide) rfl rfl (zdg dz_R_never_0 18 rfl) ?_
    refine vf_icmp_ge C (off := 19) (tgt := 49) (zdg dz_R_never_0 19 rfl) (by decide) ?_ ?_
    · refine vf_iload_n C (f := 1) (zdg dz_R_never_1 6 rfl) 1 rfl rfl ?_
      exact hr _ _ _ _ (fun h => absurd h (by decide)) (zdg dz_R_never_1 7 rfl)
    · refine vf_iload_n C (f := 1) (zdg dz_R_never_0 20 rfl) 1 rfl rfl ?_
      refine vf_aload_n C (f := 0) (zdg dz_R_never_0 21 rfl) 0 rfl rfl ?_
      refine vf_iload_n C (f := 2) (zdg dz_R_never_0 22 rfl) 2 rfl rfl ?_
      refine vf_callVi C cy_R_guestsIn ml_R_345 rfl (ct_R_guestsIn _ _) (S := [(0, v1)]) sh_43 (by decide) rfl (jrm_of hR rfl) rfl rfl (Nat.le_of_ble_eq_true rfl) (zdg dz_R_never_0 23 rfl) (fun r6 u7 => ?_)
      refine vf_iconst C (z := (-1)) (zdg dz_R_never_1 0 rfl) (jz rfl) ?_
      refine vf_ixor C (zdg dz_R_never_1 1 rfl) ?_
      refine vf_iand C (zdg dz_R_never_1 2 rfl) ?_
      generalize iand v1 (ixor r6 (-1)) = x8
      refine vf_ul ?_
      refine vf_istore_n C (f := 1) (L' := [(0, (2, 44)), (2, (0, v2))]) (zdg dz_R_never_1 3 rfl) [0, 2] (jrI rfl rfl) hn (by decide) rfl ?_
      refine vf_iinc C (z := 1) (L' := [(1, (0, x8)), (0, (2, 44))]) (zdg dz_R_never_1 4 rfl) 2 rfl [0, 1] (jrI rfl rfl) hn (by decide) ?_
      generalize w32 (v2 + 1) = x9
      refine vf_ul ?_
      refine vf_goto C (off := (-21)) (tgt := 25) (zdg dz_R_never_1 5 rfl) (by decide) ?_
      exact vf_perm [2, 1, 0] rfl (ih _ _ _)
def f_R_never (w : Wd) : Option (Int × Wd) :=
  jlw (st w 43 16 0) fun u1 =>
  jcall (f_R_findStates 0 u1) fun r2 u3 =>
  if r2 = 0 then
    some ((-3), u3)
  else
    jcall (f_R_those 0 0 u3) fun r4 u5 =>
    f_R_never_25 FU r4 0 u5
theorem ct_R_never (w : Wd) : Ct y_R_never prog_14_method_92_code 3 (some .int) 20 0 [(2, 44)] w (f_R_never w) := by
  refine ct_of (by decide +kernel) (Or.inl ⟨rfl, rfl⟩) (Nat.le_of_ble_eq_true rfl) ?_
  intro X Qf ad C hn hR hr
  unfold f_R_never
  show VF X Qf ad NF 0 0 w 0 [(0, (2, 44))] [] _
  refine vf_aload_n C (f := 0) (zdg dz_R_never_0 0 rfl) 0 rfl rfl ?_
  refine vf_iconst C (z := 0) (zdg dz_R_never_0 1 rfl) (jz rfl) ?_
  refine vf_put C (kd := 0) fl_R_138 fk_11_16 sh_43 rfl (by decide) rfl rfl (by decide) (zdg dz_R_never_0 2 rfl) ?_
  generalize st w 43 16 0 = u1
  refine vf_uw ?_
  refine vf_aload_n C (f := 0) (zdg dz_R_never_0 3 rfl) 0 rfl rfl ?_
  refine vf_iconst C (z := 0) (zdg dz_R_never_0 4 rfl) (jz rfl) ?_
  refine vf_callVz C cy_R_findStates ml_R_342 rfl (ct_R_findStates _ _) (S := []) sh_43 (by decide) rfl (jrm_of hR rfl) rfl rfl (Nat.le_of_ble_eq_true rfl) (zdg dz_R_never_0 5 rfl) (fun r2 u3 => ?_)
  refine vf_if_ne C (off := 6) (tgt := 16) (zdg dz_R_never_0 6 rfl) (by decide) ?_ ?_
  · refine vf_aload_n C (f := 0) (zdg dz_R_never_0 9 rfl) 0 rfl rfl ?_
    refine vf_iconst C (z := 0) (zdg dz_R_never_0 10 rfl) (jz rfl) ?_
    refine vf_iconst C (z := 0) (zdg dz_R_never_0 11 rfl) (jz rfl) ?_
    refine vf_callVi C cy_R_those ml_R_155 rfl (ct_R_those _ _ _) (S := []) sh_43 (by decide) rfl (jrm_of hR rfl) rfl rfl (Nat.le_of_ble_eq_true rfl) (zdg dz_R_never_0 12 rfl) (fun r4 u5 => ?_)
    refine vf_istore_n C (f := 1) (L' := [(0, (2, 44))]) (zdg dz_R_never_0 13 rfl) [0] (jrI rfl rfl) hn (by decide) rfl ?_
    refine vf_iconst C (z := 0) (zdg dz_R_never_0 14 rfl) (jz rfl) ?_
    refine vf_istore_n C (f := 2) (L' := [(1, (0, r4)), (0, (2, 44))]) (zdg dz_R_never_0 15 rfl) [0, 1] (jrI rfl rfl) hn (by decide) rfl ?_
    exact vf_perm [2, 1, 0] rfl (t_R_never_25 C hn hR hr FU _ _ _)
  · refine vf_bipush C (z := (-3)) (zdg dz_R_never_0 7 rfl) (by decide +kernel) (jz rfl) ?_
    exact hr _ _ _ _ (fun h => absurd h (by decide)) (zdg dz_R_never_0 8 rfl)
def f_R_bound_124 (k86 : Int → Int → Int → Wd → Option (Int × Wd)) (v2 v4 v5 : Int) (w : Wd) : Option (Int × Wd) :=
  jlet (w32 (v5 + 1)) fun x10 =>
  k86 v2 v4 x10 w
theorem t_R_bound_124 {X : jX} {Qf : Int × Wd → State → Prop} {ad : Nat → Nat} (C : Cx X prog_14_method_93_code "EachBringsAnotherModel") (hn : xn X = 6) (hR : xR X = rmD 4) (hr : Rt X Qf ad prog_14_method_93_code 0) {k86 : Int → Int → Int → Wd → Option (Int × Wd)} (hk86 : ∀ (v2 v4 v5 : Int) (w : Wd), VF X Qf ad NF 0 0 w 86 [(0, (2, 44)), (2, (0, v2)), (4, (0, v4)), (5, (0, v5))] [] (k86 v2 v4 v5 w)) (v2 v4 v5 : Int) (w : Wd) : VF X Qf ad NF 0 0 w 124 [(0, (2, 44)), (2, (0, v2)), (4, (0, v4)), (5, (0, v5))] [] (f_R_bound_124 k86 v2 v4 v5 w) := by
  unfold f_R_bound_124
  refine vf_iinc C (z := 1) (L' := [(0, (2, 44)), (2, (0, v2)), (4, (0, v4))]) (zdg dz_R_bound_2 20 rfl) 3 rfl [0, 1, 2] (jrI rfl rfl) hn (by decide) ?_
  generalize w32 (v5 + 1) = x10
  refine vf_ul ?_
  refine vf_goto C (off := (-41)) (tgt := 86) (zdg dz_R_bound_2 21 rfl) (by decide) ?_
  exact vf_perm [1, 2, 3, 0] rfl (hk86 _ _ _ _)
def f_R_bound_86 : Nat → Int → Int → Int → Wd → Option (Int × Wd)
  | 0, _, _, _, _ => none
  | n + 1, v2, v4, v5, w =>
    if (w 43 0) ≤ v5 then
      jcall (f_JI_bitCount v2 w) fun r6 u7 =>
      some (w32 ((w32 ((w32 ((w 43 10) * r6)) + (imax 1 (w32 ((u7 43 10) - v4))))) - 1), u7)
    else
      jgd ((0 : Int) ≤ v5 ∧ v5 < 10) <|
      jcall (f_R_isGuest (w 47 v5.toNat) w) fun r8 u9 =>
      if r8 = 0 then
        f_R_bound_124 (f_R_bound_86 n) v2 v4 v5 u9
      else
        jgd ((0 : Int) ≤ v5 ∧ v5 < 10) <|
        jlet (imin v4 (w32 ((u9 47 v5.toNat) - 1))) fun x11 =>
        f_R_bound_124 (f_R_bound_86 n) v2 x11 v5 u9
theorem t_R_bound_86 {X : jX} {Qf : Int × Wd → State → Prop} {ad : Nat → Nat} (C : Cx X prog_14_method_93_code "EachBringsAnotherModel") (hn : xn X = 6) (hR : xR X = rmD 4) (hr : Rt X Qf ad prog_14_method_93_code 0) : ∀ (n : Nat) (v2 v4 v5 : Int) (w : Wd), VF X Qf ad NF 0 0 w 86 [(0, (2, 44)), (2, (0, v2)), (4, (0, v4)), (5, (0, v5))] [] (f_R_bound_86 n v2 v4 v5 w) := by
  intro n
  induction n with
  | zero => intros; exact vf_no
  | succ n ih =>
    intro v2 v4 v5 w
    rw [f_R_bound_86]
    refine vf_iload C (zdg dz_R_bound_2 1 rfl) 3 rfl ?_
    refine vf_aload_n C (f := 0) (zdg dz_R_bound_2 2 rfl) 0 rfl rfl ?_
    refine vf_get C (kd := 0) fl_R_144 sh_43 rfl (by decide) rfl rfl (zdg dz_R_bound_2 3 rfl) ?_
    refine vf_icmp_ge C (off := 38) (tgt := 130) (zdg dz_R_bound_2 4 rfl) (by decide) ?_ ?_
    · refine vf_aload_n C (f := 0) (zdg dz_R_bound_2 22 rfl) 0 rfl rfl ?_
      refine vf_get C (kd := 0) fl_R_32 sh_43 rfl (by decide) rfl rfl (zdg dz_R_bound_2 23 rfl) ?_
      refine vf_iload_n C (f := 2) (zdg dz_R_bound_3 0 rfl) 1 rfl rfl ?_
      refine vf_callSi C cy_JI_bitCount ml_R_242 (ct_JI_bitCount _ _) (S := [(0, w 43 10)]) (jrm_of hR rfl) rfl rfl (Nat.le_of_ble_eq_true rfl) (zdg dz_R_bound_3 1 rfl) (fun r6 u7 => ?_)
      refine vf_imul C (zdg dz_R_bound_3 2 rfl) ?_
      refine vf_iconst C (z := 1) (zdg dz_R_bound_3 3 rfl) (jz rfl) ?_
      refine vf_aload_n C (f := 0) (zdg dz_R_bound_3 4 rfl) 0 rfl rfl ?_
      refine vf_get C (kd := 0) fl_R_32 sh_43 rfl (by decide) rfl rfl (zdg dz_R_bound_3 5 rfl) ?_
      refine vf_iload C (zdg dz_R_bound_3 6 rfl) 2 rfl ?_
      refine vf_isub C (zdg dz_R_bound_3 7 rfl) ?_
      refine vf_mmax C ml_R_267 (jrm_n hR (by decide)) ⟨Nat.zero_le _, Nat.zero_le _⟩ (Nat.le_of_ble_eq_true rfl) (zdg dz_R_bound_3 8 rfl) ?_
      refine vf_iadd C (zdg dz_R_bound_3 9 rfl) ?_
      refine vf_iconst C (z := 1) (zdg dz_R_bound_3 10 rfl) (jz rfl) ?_
      refine vf_isub C (zdg dz_R_bound_3 11 rfl) ?_
      exact hr _ _ _ _ (fun h => absurd h (by decide)) (zdg dz_R_bound_3 12 rfl)
    · refine vf_aload_n C (f := 0) (zdg dz_R_bound_2 5 rfl) 0 rfl rfl ?_
      refine vf_getp C fl_R_20 sh_43 rfl (by decide) rfl (x := 48) rfl (zdg dz_R_bound_2 6 rfl) ?_
      refine vf_iload C (zdg dz_R_bound_2 7 rfl) 3 rfl ?_
      refine vf_iald C sh_47 (by decide) rfl (mz := 10) rfl (zdg dz_R_bound_2 8 rfl) ?_
      refine vf_callSz C cy_R_isGuest ml_R_256 (ct_R_isGuest _ _) (S := []) (jrm_of hR rfl) rfl rfl (Nat.le_of_ble_eq_true rfl) (zdg dz_R_bound_2 9 rfl) (fun r8 u9 => ?_)
      refine vf_if_eq C (off := 19) (tgt := 124) (zdg dz_R_bound_2 10 rfl) (by decide) ?_ ?_
      · exact t_R_bound_124 C hn hR hr ih _ _ _ _
      · refine vf_iload C (zdg dz_R_bound_2 11 rfl) 2 rfl ?_
        refine vf_aload_n C (f := 0) (zdg dz_R_bound_2 12 rfl) 0 rfl rfl ?_
        refine vf_getp C fl_R_20 sh_43 rfl (by decide) rfl (x := 48) rfl (zdg dz_R_bound_2 13 rfl) ?_
        refine vf_iload C (zdg dz_R_bound_2 14 rfl) 3 rfl ?_
        refine vf_iald C sh_47 (by decide) rfl (mz := 10) rfl (zdg dz_R_bound_2 15 rfl) ?_
        refine vf_iconst C (z := 1) (zdg dz_R_bound_2 16 rfl) (jz rfl) ?_
        refine vf_isub C (zdg dz_R_bound_2 17 rfl) ?_
        refine vf_mmin C ml_R_262 (jrm_n hR (by decide)) ⟨Nat.zero_le _, Nat.zero_le _⟩ (Nat.le_of_ble_eq_true rfl) (zdg dz_R_bound_2 18 rfl) ?_
        generalize imin v4 (w32 ((u9 47 v5.toNat) - 1)) = x11
        refine vf_ul ?_
        refine vf_istore C (i := 4) (L' := [(0, (2, 44)), (2, (0, v2)), (5, (0, v5))]) (zdg dz_R_bound_2 19 rfl) [0, 1, 3] (jrI rfl rfl) hn (by decide) ?_
        exact vf_perm [1, 2, 0, 3] rfl (t_R_bound_124 C hn hR hr ih _ _ _ _)
def f_R_bound_69 (k24 : Int → Int → Int → Wd → Option (Int × Wd)) (k34 : Int → Int → Int → Int → Wd → Option (Int × Wd)) (v1 v2 v3 v4 : Int) (w : Wd) : Option (Int × Wd) :=
  jlet (w32 (v4 + 1)) fun x16 =>
  k34 v1 v2 v3 x16 w
theorem t_R_bound_69 {X : jX} {Qf : Int × Wd → State → Prop} {ad : Nat → Nat} (C : Cx X prog_14_method_93_code "EachBringsAnotherModel") (hn : xn X = 6) (hR : xR X = rmD 4) (hr : Rt X Qf ad prog_14_method_93_code 0) {k24 : Int → Int → Int → Wd → Option (Int × Wd)} (hk24 : ∀ (v1 v2 v3 : Int) (w : Wd), VF X Qf ad NF 0 0 w 24 [(0, (2, 44)), (1, (0, v1)), (2, (0, v2)), (3, (0, v3))] [] (k24 v1 v2 v3 w)) {k34 : Int → Int → Int → Int → Wd → Option (Int × Wd)} (hk34 : ∀ (v1 v2 v3 v4 : Int) (w : Wd), VF X Qf ad NF 0 0 w 34 [(0, (2, 44)), (1, (0, v1)), (2, (0, v2)), (3, (0, v3)), (4, (0, v4))] [] (k34 v1 v2 v3 v4 w)) (v1 v2 v3 v4 : Int) (w : Wd) : VF X Qf ad NF 0 0 w 69 [(0, (2, 44)), (1, (0, v1)), (2, (0, v2)), (3, (0, v3)), (4, (0, v4))] [] (f_R_bound_69 k24 k34 v1 v2 v3 v4 w) := by
  unfold f_R_bound_69
  refine vf_iinc C (z := 1) (L' := [(0, (2, 44)), (1, (0, v1)), (2, (0, v2)), (3, (0, v3))]) (zdg dz_R_bound_1 18 rfl) 4 rfl [0, 1, 2, 3] (jrI rfl rfl) hn (by decide) ?_
  generalize w32 (v4 + 1) = x16
  refine vf_ul ?_
  refine vf_goto C (off := (-38)) (tgt := 34) (zdg dz_R_bound_1 19 rfl) (by decide) ?_
  exact vf_perm [1, 2, 3, 4, 0] rfl (hk34 _ _ _ _ _)
def f_R_bound_34 (k24 : Int → Int → Int → Wd → Option (Int × Wd)) : Nat → Int → Int → Int → Int → Wd → Option (Int × Wd)
  | 0, _, _, _, _, _ => none
  | n + 1, v1, v2, v3, v4, w =>
    if (w 43 0) ≤ v4 then
      k24 v1 v2 v3 w
    else
      jcall (f_R_guests w) fun r12 u13 =>
      jcall (f_R_has (ior r12 v3) v4 u13) fun r14 u15 =>
      if r14 = 0 then
        f_R_bound_69 k24 (f_R_bound_34 k24 n) v1 v2 v3 v4 u15
      else
        jgd ((0 : Int) ≤ v4 ∧ v4 < 10) <|
        jlet (ior v2 (iand (u15 45 v4.toNat) v1)) fun x17 =>
        f_R_bound_69 k24 (f_R_bound_34 k24 n) v1 x17 v3 v4 u15
theorem t_R_bound_34 {X : jX} {Qf : Int × Wd → State → Prop} {ad : Nat → Nat} (C : Cx X prog_14_method_93_code "EachBringsAnotherModel") (hn : xn X = 6) (hR : xR X = rmD 4) (hr : Rt X Qf ad prog_14_method_93_code 0) {k24 : Int → Int → Int → Wd → Option (Int × Wd)} (hk24 : ∀ (v1 v2 v3 : Int) (w : Wd), VF X Qf ad NF 0 0 w 24 [(0, (2, 44)), (1, (0, v1)), (2, (0, v2)), (3, (0, v3))] [] (k24 v1 v2 v3 w)) : ∀ (n : Nat) (v1 v2 v3 v4 : Int) (w : Wd), VF X Qf ad NF 0 0 w 34 [(0, (2, 44)), (1, (0, v1)), (2, (0, v2)), (3, (0, v3)), (4, (0, v4))] [] (f_R_bound_34 k24 n v1 v2 v3 v4 w) := by
  intro n
  induction n with
  | zero => intros; exact vf_no
  | succ n ih =>
    intro v1 v2 v3 v4 w
    rw [f_R_bound_34]
    refine vf_iload C (zdg dz_R_bound_0 22 rfl) 4 rfl ?_
    refine vf_aload_n C (f := 0) (zdg dz_R_bound_0 23 rfl) 0 rfl rfl ?_
    refine vf_get C (kd := 0) fl_R_144 sh_43 rfl (by decide) rfl rfl (zdg dz_R_bound_1 0 rfl) ?_
    refine vf_icmp_ge C (off := 35) (tgt := 75) (zdg dz_R_bound_1 1 rfl) (by decide) ?_ ?_
    · refine vf_goto C (off := (-51)) (tgt := 24) (zdg dz_R_bound_1 20 rfl) (by decide) ?_
      exact vf_perm [0, 1, 2, 3] rfl (hk24 _ _ _ _)
    · refine vf_aload_n C (f := 0) (zdg dz_R_bound_1 2 rfl) 0 rfl rfl ?_
      refine vf_callVi C cy_R_guests ml_R_217 rfl (ct_R_guests _) (S := []) sh_43 (by decide) rfl (jrm_of hR rfl) rfl rfl (Nat.le_of_ble_eq_true rfl) (zdg dz_R_bound_1 3 rfl) (fun r12 u13 => ?_)
      refine vf_iload_n C (f := 3) (zdg dz_R_bound_1 4 rfl) 3 rfl rfl ?_
      refine vf_ior C (zdg dz_R_bound_1 5 rfl) ?_
      refine vf_iload C (zdg dz_R_bound_1 6 rfl) 4 rfl ?_
      refine vf_callSz C cy_R_has ml_R_210 (ct_R_has _ _ _) (S := []) (jrm_of hR rfl) rfl rfl (Nat.le_of_ble_eq_true rfl) (zdg dz_R_bound_1 7 rfl) (fun r14 u15 => ?_)
      refine vf_if_eq C (off := 15) (tgt := 69) (zdg dz_R_bound_1 8 rfl) (by decide) ?_ ?_
      · exact t_R_bound_69 C hn hR hr hk24 ih _ _ _ _ _
      · refine vf_iload_n C (f := 2) (zdg dz_R_bound_1 9 rfl) 2 rfl rfl ?_
        refine vf_aload_n C (f := 0) (zdg dz_R_bound_1 10 rfl) 0 rfl rfl ?_
        refine vf_getp C fl_R_13 sh_43 rfl (by decide) rfl (x := 46) rfl (zdg dz_R_bound_1 11 rfl) ?_
        refine vf_iload C (zdg dz_R_bound_1 12 rfl) 4 rfl ?_
        refine vf_iald C sh_45 (by decide) rfl (mz := 10) rfl (zdg dz_R_bound_1 13 rfl) ?_
        refine vf_iload_n C (f := 1) (zdg dz_R_bound_1 14 rfl) 1 rfl rfl ?_
        refine vf_iand C (zdg dz_R_bound_1 15 rfl) ?_
        refine vf_ior C (zdg dz_R_bound_1 16 rfl) ?_
        generalize ior v2 (iand (u15 45 v4.toNat) v1) = x17
        refine vf_ul ?_
        refine vf_istore_n C (f := 2) (L' := [(0, (2, 44)), (1, (0, v1)), (3, (0, v3)), (4, (0, v4))]) (zdg dz_R_bound_1 17 rfl) [0, 1, 3, 4] (jrI rfl rfl) hn (by decide) rfl ?_
        exact vf_perm [1, 2, 0, 3, 4] rfl (t_R_bound_69 C hn hR hr hk24 ih _ _ _ _ _)
def f_R_bound_24 : Nat → Int → Int → Int → Wd → Option (Int × Wd)
  | 0, _, _, _, _ => none
  | n + 1, v1, v2, v3, w =>
    if v2 = v3 then
      f_R_bound_86 FU v2 1000000 0 w
    else
      f_R_bound_34 (f_R_bound_24 n) FU v1 v2 v2 0 w
theorem t_R_bound_24 {X : jX} {Qf : Int × Wd → State → Prop} {ad : Nat → Nat} (C : Cx X prog_14_method_93_code "EachBringsAnotherModel") (hn : xn X = 6) (hR : xR X = rmD 4) (hr : Rt X Qf ad prog_14_method_93_code 0) : ∀ (n : Nat) (v1 v2 v3 : Int) (w : Wd), VF X Qf ad NF 0 0 w 24 [(0, (2, 44)), (1, (0, v1)), (2, (0, v2)), (3, (0, v3))] [] (f_R_bound_24 n v1 v2 v3 w) := by
  intro n
  induction n with
  | zero => intros; exact vf_no
  | succ n ih =>
    intro v1 v2 v3 w
    rw [f_R_bound_24]
    refine vf_iload_n C (f := 2) (zdg dz_R_bound_0 15 rfl) 2 rfl rfl ?_
    refine vf_iload_n C (f := 3) (zdg dz_R_bound_0 16 rfl) 3 rfl rfl ?_
    refine vf_icmp_eq C (off := 52) (tgt := 78) (zdg dz_R_bound_0 17 rfl) (by decide) ?_ ?_
    · refine vf_ldcw C (z := 1000000) (i := 348) (zdg dz_R_bound_1 21 rfl) kc_R_348 (by decide +kernel) (jz rfl) ?_
      refine vf_istore C (i := 4) (L' := [(0, (2, 44)), (2, (0, v2))]) (zdg dz_R_bound_1 22 rfl) [0, 2] (jrI rfl rfl) hn (by decide) ?_
      refine vf_iconst C (z := 0) (zdg dz_R_bound_1 23 rfl) (jz rfl) ?_
      refine vf_istore C (i := 5) (L' := [(4, (0, 1000000)), (0, (2, 44)), (2, (0, v2))]) (zdg dz_R_bound_2 0 rfl) [0, 1, 2] (jrI rfl rfl) hn (by decide) ?_
      exact vf_perm [2, 3, 1, 0] rfl (t_R_bound_86 C hn hR hr FU _ _ _ _)
    · refine vf_iload_n C (f := 2) (zdg dz_R_bound_0 18 rfl) 2 rfl rfl ?_
      refine vf_istore_n C (f := 3) (L' := [(0, (2, 44)), (1, (0, v1)), (2, (0, v2))]) (zdg dz_R_bound_0 19 rfl) [0, 1, 2] (jrI rfl rfl) hn (by decide) rfl ?_
      refine vf_iconst C (z := 0) (zdg dz_R_bound_0 20 rfl) (jz rfl) ?_
      refine vf_istore C (i := 4) (L' := [(3, (0, v2)), (0, (2, 44)), (1, (0, v1)), (2, (0, v2))]) (zdg dz_R_bound_0 21 rfl) [0, 1, 2, 3] (jrI rfl rfl) hn (by decide) ?_
      exact vf_perm [2, 3, 4, 1, 0] rfl (t_R_bound_34 C hn hR hr ih FU _ _ _ _ _)
def f_R_bound (w : Wd) : Option (Int × Wd) :=
  jlw (st w 43 16 0) fun u1 =>
  jcall (f_R_guests u1) fun r2 u3 =>
  if r2 = 0 then
    some ((-2), u3)
  else
    jcall (f_R_free u3) fun r4 u5 =>
    f_R_bound_24 FU r4 0 (-1) u5
theorem ct_R_bound (w : Wd) : Ct y_R_bound prog_14_method_93_code 6 (some .int) 4 0 [(2, 44)] w (f_R_bound w) := by
  refine ct_of (by decide +kernel) (Or.inl ⟨rfl, rfl⟩) (Nat.le_of_ble_eq_true rfl) ?_
  intro X Qf ad C hn hR hr
  unfold f_R_bound
  show VF X Qf ad NF 0 0 w 0 [(0, (2, 44))] [] _
  refine vf_aload_n C (f := 0) (zdg dz_R_bound_0 0 rfl) 0 rfl rfl ?_
  refine vf_iconst C (z := 0) (zdg dz_R_bound_0 1 rfl) (jz rfl) ?_
  refine vf_put C (kd := 0) fl_R_138 fk_11_16 sh_43 rfl (by decide) rfl rfl (by decide) (zdg dz_R_bound_0 2 rfl) ?_
  generalize st w 43 16 0 = u1
  refine vf_uw ?_
  refine vf_aload_n C (f := 0) (zdg dz_R_bound_0 3 rfl) 0 rfl rfl ?_
  refine vf_callVi C cy_R_guests ml_R_217 rfl (ct_R_guests _) (S := []) sh_43 (by decide) rfl (jrm_of hR rfl) rfl rfl (Nat.le_of_ble_eq_true rfl) (zdg dz_R_bound_0 4 rfl) (fun r2 u3 => ?_)
  refine vf_if_ne C (off := 6) (tgt := 15) (zdg dz_R_bound_0 5 rfl) (by decide) ?_ ?_
  · refine vf_aload_n C (f := 0) (zdg dz_R_bound_0 8 rfl) 0 rfl rfl ?_
    refine vf_callVi C cy_R_free ml_R_286 rfl (ct_R_free _) (S := []) sh_43 (by decide) rfl (jrm_of hR rfl) rfl rfl (Nat.le_of_ble_eq_true rfl) (zdg dz_R_bound_0 9 rfl) (fun r4 u5 => ?_)
    refine vf_istore_n C (f := 1) (L' := [(0, (2, 44))]) (zdg dz_R_bound_0 10 rfl) [0] (jrI rfl rfl) hn (by decide) rfl ?_
    refine vf_iconst C (z := 0) (zdg dz_R_bound_0 11 rfl) (jz rfl) ?_
    refine vf_istore_n C (f := 2) (L' := [(1, (0, r4)), (0, (2, 44))]) (zdg dz_R_bound_0 12 rfl) [0, 1] (jrI rfl rfl) hn (by decide) rfl ?_
    refine vf_iconst C (z := (-1)) (zdg dz_R_bound_0 13 rfl) (jz rfl) ?_
    refine vf_istore_n C (f := 3) (L' := [(2, (0, 0)), (1, (0, r4)), (0, (2, 44))]) (zdg dz_R_bound_0 14 rfl) [0, 1, 2] (jrI rfl rfl) hn (by decide) rfl ?_
    exact vf_perm [3, 2, 1, 0] rfl (t_R_bound_24 C hn hR hr FU _ _ _ _)
  · refine vf_bipush C (z := (-2)) (zdg dz_R_bound_0 6 rfl) (by decide +kernel) (jz rfl) ?_
    exact hr _ _ _ _ (fun h => absurd h (by decide)) (zdg dz_R_bound_0 7 rfl)
def f_R_far_427 (k341 : Int → Int → Int → Int → Wd → Option (Int × Wd)) (k396 : Int → Int → Int → Int → Int → Wd → Option (Int × Wd)) (v2 v3 v5 v6 v7 : Int) (w : Wd) : Option (Int × Wd) :=
  jlet (w32 (v7 + 1)) fun x12 =>
  k396 v2 v3 v5 v6 x12 w
theorem t_R_far_427 {X : jX} {Qf : Int × Wd → State → Prop} {ad : Nat → Nat} (C : Cx X prog_14_method_94_code "EachBringsAnotherModel") (hn : xn X = 8) (hR : xR X = rmD 4) (hr : Rt X Qf ad prog_14_method_94_code 0) {k341 : Int → Int → Int → Int → Wd → Option (Int × Wd)} (hk341 : ∀ (v2 v3 v4 v5 : Int) (w : Wd), VF X Qf ad NF 0 0 w 341 [(0, (2, 44)), (2, (0, v2)), (3, (0, v3)), (4, (0, v4)), (5, (0, v5))] [] (k341 v2 v3 v4 v5 w)) {k396 : Int → Int → Int → Int → Int → Wd → Option (Int × Wd)} (hk396 : ∀ (v2 v3 v5 v6 v7 : Int) (w : Wd), VF X Qf ad NF 0 0 w 396 [(0, (2, 44)), (2, (0, v2)), (3, (0, v3)), (5, (0, v5)), (6, (0, v6)), (7, (0, v7))] [] (k396 v2 v3 v5 v6 v7 w)) (v2 v3 v5 v6 v7 : Int) (w : Wd) : VF X Qf ad NF 0 0 w 427 [(0, (2, 44)), (2, (0, v2)), (3, (0, v3)), (5, (0, v5)), (6, (0, v6)), (7, (0, v7))] [] (f_R_far_427 k341 k396 v2 v3 v5 v6 v7 w) := by
  unfold f_R_far_427
  refine vf_iinc C (z := 1) (L' := [(0, (2, 44)), (2, (0, v2)), (3, (0, v3)), (5, (0, v5)), (6, (0, v6))]) (zdg dz_R_far_8 23 rfl) 5 rfl [0, 1, 2, 3, 4] (jrI rfl rfl) hn (by decide) ?_
  generalize w32 (v7 + 1) = x12
  refine vf_ul ?_
  refine vf_goto C (off := (-34)) (tgt := 396) (zdg dz_R_far_9 0 rfl) (by decide) ?_
  exact vf_perm [1, 2, 3, 4, 5, 0] rfl (hk396 _ _ _ _ _ _)
def f_R_far_396 (k341 : Int → Int → Int → Int → Wd → Option (Int × Wd)) : Nat → Int → Int → Int → Int → Int → Wd → Option (Int × Wd)
  | 0, _, _, _, _, _, _ => none
  | n + 1, v2, v3, v5, v6, v7, w =>
    jcall (f_R_has v6 v7 w) fun r10 u11 =>
    if r10 = 0 then
      f_R_far_427 k341 (f_R_far_396 k341 n) v2 v3 v5 v6 v7 u11
    else
      jgd ((0 : Int) ≤ v7 ∧ v7 < 10) <|
      if (u11 78 v7.toNat) = v5 then
        jcall (f_R_has v2 v7 u11) fun r13 u14 =>
        if r13 = 0 then
          f_R_far_427 k341 (f_R_far_396 k341 n) v2 v3 v5 v6 v7 u14
        else
          jcall (f_R_tell v7 u14) fun r15 u16 =>
          jlet (ishl 1 v7) fun x17 =>
          jlet (w32 (v5 + (-1))) fun x18 =>
          k341 v2 v3 x17 x18 u16
      else
        f_R_far_427 k341 (f_R_far_396 k341 n) v2 v3 v5 v6 v7 u11
theorem t_R_far_396 {X : jX} {Qf : Int × Wd → State → Prop} {ad : Nat → Nat} (C : Cx X prog_14_method_94_code "EachBringsAnotherModel") (hn : xn X = 8) (hR : xR X = rmD 4) (hr : Rt X Qf ad prog_14_method_94_code 0) {k341 : Int → Int → Int → Int → Wd → Option (Int × Wd)} (hk341 : ∀ (v2 v3 v4 v5 : Int) (w : Wd), VF X Qf ad NF 0 0 w 341 [(0, (2, 44)), (2, (0, v2)), (3, (0, v3)), (4, (0, v4)), (5, (0, v5))] [] (k341 v2 v3 v4 v5 w)) : ∀ (n : Nat) (v2 v3 v5 v6 v7 : Int) (w : Wd), VF X Qf ad NF 0 0 w 396 [(0, (2, 44)), (2, (0, v2)), (3, (0, v3)), (5, (0, v5)), (6, (0, v6)), (7, (0, v7))] [] (f_R_far_396 k341 n v2 v3 v5 v6 v7 w) := by
  intro n
  induction n with
  | zero => intros; exact vf_no
  | succ n ih =>
    intro v2 v3 v5 v6 v7 w
    rw [f_R_far_396]
    refine vf_iload C (zdg dz_R_far_8 9 rfl) 4 rfl ?_
    refine vf_iload C (zdg dz_R_far_8 10 rfl) 5 rfl ?_
    refine vf_callSz C cy_R_has ml_R_210 (ct_R_has _ _ _) (S := []) (jrm_of hR rfl) rfl rfl (Nat.le_of_ble_eq_true rfl) (zdg dz_R_far_8 11 rfl) (fun r10 u11 => ?_)
    refine vf_if_eq C (off := 24) (tgt := 427) (zdg dz_R_far_8 12 rfl) (by decide) ?_ ?_
    · exact t_R_far_427 C hn hR hr hk341 ih _ _ _ _ _ _
    · refine vf_aload_n C (f := 0) (zdg dz_R_far_8 13 rfl) 0 rfl rfl ?_
      refine vf_getp C fl_R_126 sh_43 rfl (by decide) rfl (x := 79) rfl (zdg dz_R_far_8 14 rfl) ?_
      refine vf_iload C (zdg dz_R_far_8 15 rfl) 5 rfl ?_
      refine vf_iald C sh_78 (by decide) rfl (mz := 10) rfl (zdg dz_R_far_8 16 rfl) ?_
      refine vf_iload C (zdg dz_R_far_8 17 rfl) 3 rfl ?_
      refine vf_icmp_ne C (off := 12) (tgt := 427) (zdg dz_R_far_8 18 rfl) (by decide) ?_ ?_
      · exact t_R_far_427 C hn hR hr hk341 ih _ _ _ _ _ _
      · refine vf_iload_n C (f := 2) (zdg dz_R_far_8 19 rfl) 1 rfl rfl ?_
        refine vf_iload C (zdg dz_R_far_8 20 rfl) 5 rfl ?_
        refine vf_callSz C cy_R_has ml_R_210 (ct_R_has _ _ _) (S := []) (jrm_of hR rfl) rfl rfl (Nat.le_of_ble_eq_true rfl) (zdg dz_R_far_8 21 rfl) (fun r13 u14 => ?_)
        refine vf_if_ne C (off := 9) (tgt := 433) (zdg dz_R_far_8 22 rfl) (by decide) ?_ ?_
        · refine vf_aload_n C (f := 0) (zdg dz_R_far_9 1 rfl) 0 rfl rfl ?_
          refine vf_iload C (zdg dz_R_far_9 2 rfl) 5 rfl ?_
          refine vf_callVv C cy_R_tell ml_R_304 rfl (ct_R_tell _ _) (S := []) sh_43 (by decide) rfl (jrm_of hR rfl) rfl rfl (Nat.le_of_ble_eq_true rfl) (zdg dz_R_far_9 3 rfl) (fun r15 u16 => ?_)
          refine vf_iconst C (z := 1) (zdg dz_R_far_9 4 rfl) (jz rfl) ?_
          refine vf_iload C (zdg dz_R_far_9 5 rfl) 5 rfl ?_
          refine vf_ishl C (zdg dz_R_far_9 6 rfl) ?_
          generalize ishl 1 v7 = x17
          refine vf_ul ?_
          refine vf_istore C (i := 4) (L' := [(0, (2, 44)), (2, (0, v2)), (3, (0, v3)), (5, (0, v5))]) (zdg dz_R_far_9 7 rfl) [0, 1, 2, 3] (jrI rfl rfl) hn (by decide) ?_
          refine vf_iinc C (z := (-1)) (L' := [(4, (0, x17)), (0, (2, 44)), (2, (0, v2)), (3, (0, v3))]) (zdg dz_R_far_9 8 rfl) 4 rfl [0, 1, 2, 3] (jrI rfl rfl) hn (by decide) ?_
          generalize w32 (v5 + (-1)) = x18
          refine vf_ul ?_
          refine vf_goto C (off := (-107)) (tgt := 341) (zdg dz_R_far_9 9 rfl) (by decide) ?_
          exact vf_perm [2, 3, 4, 1, 0] rfl (hk341 _ _ _ _ _)
        · exact t_R_far_427 C hn hR hr hk341 ih _ _ _ _ _ _
def f_R_far_384 (k341 : Int → Int → Int → Int → Wd → Option (Int × Wd)) (k352 : Int → Int → Int → Int → Int → Int → Wd → Option (Int × Wd)) (v2 v3 v4 v5 v7 s0 s1 : Int) (w : Wd) : Option (Int × Wd) :=
  jlet (ior s0 s1) fun x21 =>
  jlet (w32 (v7 + 1)) fun x22 =>
  k352 v2 v3 v4 v5 x21 x22 w
theorem t_R_far_384 {X : jX} {Qf : Int × Wd → State → Prop} {ad : Nat → Nat} (C : Cx X prog_14_method_94_code "EachBringsAnotherModel") (hn : xn X = 8) (hR : xR X = rmD 4) (hr : Rt X Qf ad prog_14_method_94_code 0) {k341 : Int → Int → Int → Int → Wd → Option (Int × Wd)} (hk341 : ∀ (v2 v3 v4 v5 : Int) (w : Wd), VF X Qf ad NF 0 0 w 341 [(0, (2, 44)), (2, (0, v2)), (3, (0, v3)), (4, (0, v4)), (5, (0, v5))] [] (k341 v2 v3 v4 v5 w)) {k352 : Int → Int → Int → Int → Int → Int → Wd → Option (Int × Wd)} (hk352 : ∀ (v2 v3 v4 v5 v6 v7 : Int) (w : Wd), VF X Qf ad NF 0 0 w 352 [(0, (2, 44)), (2, (0, v2)), (3, (0, v3)), (4, (0, v4)), (5, (0, v5)), (6, (0, v6)), (7, (0, v7))] [] (k352 v2 v3 v4 v5 v6 v7 w)) (v2 v3 v4 v5 v7 s0 s1 : Int) (w : Wd) : VF X Qf ad NF 0 0 w 384 [(0, (2, 44)), (2, (0, v2)), (3, (0, v3)), (4, (0, v4)), (5, (0, v5)), (7, (0, v7))] [(0, s1), (0, s0)] (f_R_far_384 k341 k352 v2 v3 v4 v5 v7 s0 s1 w) := by
  unfold f_R_far_384
  refine vf_ior C (zdg dz_R_far_8 3 rfl) ?_
  generalize ior s0 s1 = x21
  refine vf_ul ?_
  refine vf_istore C (i := 6) (L' := [(0, (2, 44)), (2, (0, v2)), (3, (0, v3)), (4, (0, v4)), (5, (0, v5)), (7, (0, v7))]) (zdg dz_R_far_8 4 rfl) [0, 1, 2, 3, 4, 5] (jrI rfl rfl) hn (by decide) ?_
  refine vf_iinc C (z := 1) (L' := [(6, (0, x21)), (0, (2, 44)), (2, (0, v2)), (3, (0, v3)), (4, (0, v4)), (5, (0, v5))]) (zdg dz_R_far_8 5 rfl) 6 rfl [0, 1, 2, 3, 4, 5] (jrI rfl rfl) hn (by decide) ?_
  generalize w32 (v7 + 1) = x22
  refine vf_ul ?_
  refine vf_goto C (off := (-38)) (tgt := 352) (zdg dz_R_far_8 6 rfl) (by decide) ?_
  exact vf_perm [2, 3, 4, 5, 6, 1, 0] rfl (hk352 _ _ _ _ _ _ _)
def f_R_far_352 (k341 : Int → Int → Int → Int → Wd → Option (Int × Wd)) : Nat → Int → Int → Int → Int → Int → Int → Wd → Option (Int × Wd)
  | 0, _, _, _, _, _, _, _ => none
  | n + 1, v2, v3, v4, v5, v6, v7, w =>
    if (w 43 0) ≤ v7 then
      f_R_far_396 k341 FU v2 v3 v5 v6 0 w
    else
      jcall (f_R_has v4 v7 w) fun r19 u20 =>
      if r19 = 0 then
        f_R_far_384 k341 (f_R_far_352 k341 n) v2 v3 v4 v5 v7 v6 0 u20
      else
        jgd ((0 : Int) ≤ v7 ∧ v7 < 10) <|
        f_R_far_384 k341 (f_R_far_352 k341 n) v2 v3 v4 v5 v7 v6 (u20 45 v7.toNat) u20
theorem t_R_far_352 {X : jX} {Qf : Int × Wd → State → Prop} {ad : Nat → Nat} (C : Cx X prog_14_method_94_code "EachBringsAnotherModel") (hn : xn X = 8) (hR : xR X = rmD 4) (hr : Rt X Qf ad prog_14_method_94_code 0) {k341 : Int → Int → Int → Int → Wd → Option (Int × Wd)} (hk341 : ∀ (v2 v3 v4 v5 : Int) (w : Wd), VF X Qf ad NF 0 0 w 341 [(0, (2, 44)), (2, (0, v2)), (3, (0, v3)), (4, (0, v4)), (5, (0, v5))] [] (k341 v2 v3 v4 v5 w)) : ∀ (n : Nat) (v2 v3 v4 v5 v6 v7 : Int) (w : Wd), VF X Qf ad NF 0 0 w 352 [(0, (2, 44)), (2, (0, v2)), (3, (0, v3)), (4, (0, v4)), (5, (0, v5)), (6, (0, v6)), (7, (0, v7))] [] (f_R_far_352 k341 n v2 v3 v4 v5 v6 v7 w) := by
  intro n
  induction n with
  | zero => intros; exact vf_no
  | succ n ih =>
    intro v2 v3 v4 v5 v6 v7 w
    rw [f_R_far_352]
    refine vf_iload C (zdg dz_R_far_7 12 rfl) 6 rfl ?_
    refine vf_aload_n C (f := 0) (zdg dz_R_far_7 13 rfl) 0 rfl rfl ?_
    refine vf_get C (kd := 0) fl_R_144 sh_43 rfl (by decide) rfl rfl (zdg dz_R_far_7 14 rfl) ?_
    refine vf_icmp_ge C (off := 35) (tgt := 393) (zdg dz_R_far_7 15 rfl) (by decide) ?_ ?_
    · refine vf_iconst C (z := 0) (zdg dz_R_far_8 7 rfl) (jz rfl) ?_
      refine vf_istore C (i := 7) (L' := [(0, (2, 44)), (2, (0, v2)), (3, (0, v3)), (5, (0, v5)), (6, (0, v6))]) (zdg dz_R_far_8 8 rfl) [0, 1, 2, 4, 5] (jrI rfl rfl) hn (by decide) ?_
      exact vf_perm [1, 2, 3, 4, 5, 0] rfl (t_R_far_396 C hn hR hr hk341 FU _ _ _ _ _ _)
    · refine vf_iload C (zdg dz_R_far_7 16 rfl) 5 rfl ?_
      refine vf_iload C (zdg dz_R_far_7 17 rfl) 3 rfl ?_
      refine vf_iload C (zdg dz_R_far_7 18 rfl) 6 rfl ?_
      refine vf_callSz C cy_R_has ml_R_210 (ct_R_has _ _ _) (S := [(0, v6)]) (jrm_of hR rfl) rfl rfl (Nat.le_of_ble_eq_true rfl) (zdg dz_R_far_7 19 rfl) (fun r19 u20 => ?_)
      refine vf_if_eq C (off := 13) (tgt := 383) (zdg dz_R_far_7 20 rfl) (by decide) ?_ ?_
      · refine vf_iconst C (z := 0) (zdg dz_R_far_8 2 rfl) (jz rfl) ?_
        exact vf_perm [0, 1, 2, 3, 4, 6] rfl (t_R_far_384 C hn hR hr hk341 ih _ _ _ _ _ _ _ _)
      · refine vf_aload_n C (f := 0) (zdg dz_R_far_7 21 rfl) 0 rfl rfl ?_
        refine vf_getp C fl_R_13 sh_43 rfl (by decide) rfl (x := 46) rfl (zdg dz_R_far_7 22 rfl) ?_
        refine vf_iload C (zdg dz_R_far_7 23 rfl) 6 rfl ?_
        refine vf_iald C sh_45 (by decide) rfl (mz := 10) rfl (zdg dz_R_far_8 0 rfl) ?_
        refine vf_goto C (off := 4) (tgt := 384) (zdg dz_R_far_8 1 rfl) (by decide) ?_
        exact vf_perm [0, 1, 2, 3, 4, 6] rfl (t_R_far_384 C hn hR hr hk341 ih _ _ _ _ _ _ _ _)
def f_R_far_341 : Nat → Int → Int → Int → Int → Wd → Option (Int × Wd)
  | 0, _, _, _, _, _ => none
  | n + 1, v2, v3, v4, v5, w =>
    if v5 ≤ 0 then
      some (v3, w)
    else
      f_R_far_352 (f_R_far_341 n) FU v2 v3 v4 v5 0 0 w
theorem t_R_far_341 {X : jX} {Qf : Int × Wd → State → Prop} {ad : Nat → Nat} (C : Cx X prog_14_method_94_code "EachBringsAnotherModel") (hn : xn X = 8) (hR : xR X = rmD 4) (hr : Rt X Qf ad prog_14_method_94_code 0) : ∀ (n : Nat) (v2 v3 v4 v5 : Int) (w : Wd), VF X Qf ad NF 0 0 w 341 [(0, (2, 44)), (2, (0, v2)), (3, (0, v3)), (4, (0, v4)), (5, (0, v5))] [] (f_R_far_341 n v2 v3 v4 v5 w) := by
  intro n
  induction n with
  | zero => intros; exact vf_no
  | succ n ih =>
    intro v2 v3 v4 v5 w
    rw [f_R_far_341]
    refine vf_iload C (zdg dz_R_far_7 6 rfl) 4 rfl ?_
    refine vf_if_le C (off := 108) (tgt := 451) (zdg dz_R_far_7 7 rfl) (by decide) ?_ ?_
    · refine vf_iload_n C (f := 3) (zdg dz_R_far_9 10 rfl) 2 rfl rfl ?_
      exact hr _ _ _ _ (fun h => absurd h (by decide)) (zdg dz_R_far_9 11 rfl)
    · refine vf_iconst C (z := 0) (zdg dz_R_far_7 8 rfl) (jz rfl) ?_
      refine vf_istore C (i := 6) (L' := [(0, (2, 44)), (2, (0, v2)), (3, (0, v3)), (4, (0, v4)), (5, (0, v5))]) (zdg dz_R_far_7 9 rfl) [0, 1, 2, 3, 4] (jrI rfl rfl) hn (by decide) ?_
      refine vf_iconst C (z := 0) (zdg dz_R_far_7 10 rfl) (jz rfl) ?_
      refine vf_istore C (i := 7) (L' := [(6, (0, 0)), (0, (2, 44)), (2, (0, v2)), (3, (0, v3)), (4, (0, v4)), (5, (0, v5))]) (zdg dz_R_far_7 11 rfl) [0, 1, 2, 3, 4, 5] (jrI rfl rfl) hn (by decide) ?_
      exact vf_perm [2, 3, 4, 5, 6, 1, 0] rfl (t_R_far_352 C hn hR hr ih FU _ _ _ _ _ _ _)
def f_R_far_327 (k284 : Int → Int → Int → Int → Wd → Option (Int × Wd)) (v2 v3 v5 s0 s1 : Int) (w : Wd) : Option (Int × Wd) :=
  jlet (ior s0 s1) fun x25 =>
  jlet (w32 (v5 + 1)) fun x26 =>
  k284 v2 v3 x25 x26 w
theorem t_R_far_327 {X : jX} {Qf : Int × Wd → State → Prop} {ad : Nat → Nat} (C : Cx X prog_14_method_94_code "EachBringsAnotherModel") (hn : xn X = 8) (hR : xR X = rmD 4) (hr : Rt X Qf ad prog_14_method_94_code 0) {k284 : Int → Int → Int → Int → Wd → Option (Int × Wd)} (hk284 : ∀ (v2 v3 v4 v5 : Int) (w : Wd), VF X Qf ad NF 0 0 w 284 [(0, (2, 44)), (2, (0, v2)), (3, (0, v3)), (4, (0, v4)), (5, (0, v5))] [] (k284 v2 v3 v4 v5 w)) (v2 v3 v5 s0 s1 : Int) (w : Wd) : VF X Qf ad NF 0 0 w 327 [(0, (2, 44)), (2, (0, v2)), (3, (0, v3)), (5, (0, v5))] [(0, s1), (0, s0)] (f_R_far_327 k284 v2 v3 v5 s0 s1 w) := by
  unfold f_R_far_327
  refine vf_ior C (zdg dz_R_far_6 22 rfl) ?_
  generalize ior s0 s1 = x25
  refine vf_ul ?_
  refine vf_istore C (i := 4) (L' := [(0, (2, 44)), (2, (0, v2)), (3, (0, v3)), (5, (0, v5))]) (zdg dz_R_far_6 23 rfl) [0, 1, 2, 3] (jrI rfl rfl) hn (by decide) ?_
  refine vf_iinc C (z := 1) (L' := [(4, (0, x25)), (0, (2, 44)), (2, (0, v2)), (3, (0, v3))]) (zdg dz_R_far_7 0 rfl) 4 rfl [0, 1, 2, 3] (jrI rfl rfl) hn (by decide) ?_
  generalize w32 (v5 + 1) = x26
  refine vf_ul ?_
  refine vf_goto C (off := (-49)) (tgt := 284) (zdg dz_R_far_7 1 rfl) (by decide) ?_
  exact vf_perm [2, 3, 4, 1, 0] rfl (hk284 _ _ _ _ _)
def f_R_far_326 (k284 : Int → Int → Int → Int → Wd → Option (Int × Wd)) (v2 v3 v5 s0 : Int) (w : Wd) : Option (Int × Wd) :=
  f_R_far_327 k284 v2 v3 v5 s0 0 w
theorem t_R_far_326 {X : jX} {Qf : Int × Wd → State → Prop} {ad : Nat → Nat} (C : Cx X prog_14_method_94_code "EachBringsAnotherModel") (hn : xn X = 8) (hR : xR X = rmD 4) (hr : Rt X Qf ad prog_14_method_94_code 0) {k284 : Int → Int → Int → Int → Wd → Option (Int × Wd)} (hk284 : ∀ (v2 v3 v4 v5 : Int) (w : Wd), VF X Qf ad NF 0 0 w 284 [(0, (2, 44)), (2, (0, v2)), (3, (0, v3)), (4, (0, v4)), (5, (0, v5))] [] (k284 v2 v3 v4 v5 w)) (v2 v3 v5 s0 : Int) (w : Wd) : VF X Qf ad NF 0 0 w 326 [(0, (2, 44)), (2, (0, v2)), (3, (0, v3)), (5, (0, v5))] [(0, s0)] (f_R_far_326 k284 v2 v3 v5 s0 w) := by
  unfold f_R_far_326
  refine vf_iconst C (z := 0) (zdg dz_R_far_6 21 rfl) (jz rfl) ?_
  exact t_R_far_327 C hn hR hr hk284 _ _ _ _ _ _
def f_R_far_284 : Nat → Int → Int → Int → Int → Wd → Option (Int × Wd)
  | 0, _, _, _, _, _ => none
  | n + 1, v2, v3, v4, v5, w =>
    if (w 43 0) ≤ v5 then
      jlet (w32 (v3 - 1)) fun x9 =>
      f_R_far_341 FU v2 v3 v4 x9 w
    else
      jgd ((0 : Int) ≤ v5 ∧ v5 < 10) <|
      jcall (f_R_isGuest (w 47 v5.toNat) w) fun r23 u24 =>
      if r23 = 0 then
        f_R_far_326 (f_R_far_284 n) v2 v3 v5 v4 u24
      else
        jgd ((0 : Int) ≤ v5 ∧ v5 < 10) <|
        if (u24 78 v5.toNat) = v3 then
          f_R_far_327 (f_R_far_284 n) v2 v3 v5 v4 (ishl 1 v5) u24
        else
          f_R_far_326 (f_R_far_284 n) v2 v3 v5 v4 u24
theorem t_R_far_284 {X : jX} {Qf : Int × Wd → State → Prop} {ad : Nat → Nat} (C : Cx X prog_14_method_94_code "EachBringsAnotherModel") (hn : xn X = 8) (hR : xR X = rmD 4) (hr : Rt X Qf ad prog_14_method_94_code 0) : ∀ (n : Nat) (v2 v3 v4 v5 : Int) (w : Wd), VF X Qf ad NF 0 0 w 284 [(0, (2, 44)), (2, (0, v2)), (3, (0, v3)), (4, (0, v4)), (5, (0, v5))] [] (f_R_far_284 n v2 v3 v4 v5 w) := by
  intro n
  induction n with
  | zero => intros; exact vf_no
  | succ n ih =>
    intro v2 v3 v4 v5 w
    rw [f_R_far_284]
    refine vf_iload C (zdg dz_R_far_6 0 rfl) 4 rfl ?_
    refine vf_aload_n C (f := 0) (zdg dz_R_far_6 1 rfl) 0 rfl rfl ?_
    refine vf_get C (kd := 0) fl_R_144 sh_43 rfl (by decide) rfl rfl (zdg dz_R_far_6 2 rfl) ?_
    refine vf_icmp_ge C (off := 46) (tgt := 336) (zdg dz_R_far_6 3 rfl) (by decide) ?_ ?_
    · refine vf_iload_n C (f := 3) (zdg dz_R_far_7 2 rfl) 2 rfl rfl ?_
      refine vf_iconst C (z := 1) (zdg dz_R_far_7 3 rfl) (jz rfl) ?_
      refine vf_isub C (zdg dz_R_far_7 4 rfl) ?_
      generalize w32 (v3 - 1) = x9
      refine vf_ul ?_
      refine vf_istore C (i := 5) (L' := [(0, (2, 44)), (2, (0, v2)), (3, (0, v3)), (4, (0, v4))]) (zdg dz_R_far_7 5 rfl) [0, 1, 2, 3] (jrI rfl rfl) hn (by decide) ?_
      exact vf_perm [1, 2, 3, 4, 0] rfl (t_R_far_341 C hn hR hr FU _ _ _ _ _)
    · refine vf_iload C (zdg dz_R_far_6 4 rfl) 3 rfl ?_
      refine vf_aload_n C (f := 0) (zdg dz_R_far_6 5 rfl) 0 rfl rfl ?_
      refine vf_getp C fl_R_20 sh_43 rfl (by decide) rfl (x := 48) rfl (zdg dz_R_far_6 6 rfl) ?_
      refine vf_iload C (zdg dz_R_far_6 7 rfl) 4 rfl ?_
      refine vf_iald C sh_47 (by decide) rfl (mz := 10) rfl (zdg dz_R_far_6 8 rfl) ?_
      refine vf_callSz C cy_R_isGuest ml_R_256 (ct_R_isGuest _ _) (S := [(0, v4)]) (jrm_of hR rfl) rfl rfl (Nat.le_of_ble_eq_true rfl) (zdg dz_R_far_6 9 rfl) (fun r23 u24 => ?_)
      refine vf_if_eq C (off := 21) (tgt := 326) (zdg dz_R_far_6 10 rfl) (by decide) ?_ ?_
      · exact vf_perm [0, 1, 2, 4] rfl (t_R_far_326 C hn hR hr ih _ _ _ _ _)
      · refine vf_aload_n C (f := 0) (zdg dz_R_far_6 11 rfl) 0 rfl rfl ?_
        refine vf_getp C fl_R_126 sh_43 rfl (by decide) rfl (x := 79) rfl (zdg dz_R_far_6 12 rfl) ?_
        refine vf_iload C (zdg dz_R_far_6 13 rfl) 4 rfl ?_
        refine vf_iald C sh_78 (by decide) rfl (mz := 10) rfl (zdg dz_R_far_6 14 rfl) ?_
        refine vf_iload_n C (f := 3) (zdg dz_R_far_6 15 rfl) 2 rfl rfl ?_
        refine vf_icmp_ne C (off := 10) (tgt := 326) (zdg dz_R_far_6 16 rfl) (by decide) ?_ ?_
        · exact vf_perm [0, 1, 2, 4] rfl (t_R_far_326 C hn hR hr ih _ _ _ _ _)
        · refine vf_iconst C (z := 1) (zdg dz_R_far_6 17 rfl) (jz rfl) ?_
          refine vf_iload C (zdg dz_R_far_6 18 rfl) 4 rfl ?_
          refine vf_ishl C (zdg dz_R_far_6 19 rfl) ?_
          refine vf_goto C (off := 4) (tgt := 327) (zdg dz_R_far_6 20 rfl) (by decide) ?_
          exact vf_perm [0, 1, 2, 4] rfl (t_R_far_327 C hn hR hr ih _ _ _ _ _ _)
def f_R_far_257 (k223 : Int → Int → Int → Wd → Option (Int × Wd)) (v2 v3 v4 : Int) (w : Wd) : Option (Int × Wd) :=
  jlet (w32 (v4 + 1)) fun x29 =>
  k223 v2 v3 x29 w
theorem t_R_far_257 {X : jX} {Qf : Int × Wd → State → Prop} {ad : Nat → Nat} (C : Cx X prog_14_method_94_code "EachBringsAnotherModel") (hn : xn X = 8) (hR : xR X = rmD 4) (hr : Rt X Qf ad prog_14_method_94_code 0) {k223 : Int → Int → Int → Wd → Option (Int × Wd)} (hk223 : ∀ (v2 v3 v4 : Int) (w : Wd), VF X Qf ad NF 0 0 w 223 [(0, (2, 44)), (2, (0, v2)), (3, (0, v3)), (4, (0, v4))] [] (k223 v2 v3 v4 w)) (v2 v3 v4 : Int) (w : Wd) : VF X Qf ad NF 0 0 w 257 [(0, (2, 44)), (2, (0, v2)), (3, (0, v3)), (4, (0, v4))] [] (f_R_far_257 k223 v2 v3 v4 w) := by
  unfold f_R_far_257
  refine vf_iinc C (z := 1) (L' := [(0, (2, 44)), (2, (0, v2)), (3, (0, v3))]) (zdg dz_R_far_5 10 rfl) 3 rfl [0, 1, 2] (jrI rfl rfl) hn (by decide) ?_
  generalize w32 (v4 + 1) = x29
  refine vf_ul ?_
  refine vf_goto C (off := (-37)) (tgt := 223) (zdg dz_R_far_5 11 rfl) (by decide) ?_
  exact vf_perm [1, 2, 3, 0] rfl (hk223 _ _ _ _)
def f_R_far_223 : Nat → Int → Int → Int → Wd → Option (Int × Wd)
  | 0, _, _, _, _ => none
  | n + 1, v2, v3, v4, w =>
    if (w 43 0) ≤ v4 then
      if v3 = 1000000 then
        some ((-2), w)
      else
        jlw (st w 43 15 0) fun u8 =>
        f_R_far_284 FU v2 v3 0 0 u8
    else
      jgd ((0 : Int) ≤ v4 ∧ v4 < 10) <|
      jcall (f_R_isGuest (w 47 v4.toNat) w) fun r27 u28 =>
      if r27 = 0 then
        f_R_far_257 (f_R_far_223 n) v2 v3 v4 u28
      else
        jgd ((0 : Int) ≤ v4 ∧ v4 < 10) <|
        jlet (imin v3 (u28 78 v4.toNat)) fun x30 =>
        f_R_far_257 (f_R_far_223 n) v2 x30 v4 u28
theorem t_R_far_223 {X : jX} {Qf : Int × Wd → State → Prop} {ad : Nat → Nat} (C : Cx X prog_14_method_94_code "EachBringsAnotherModel") (hn : xn X = 8) (hR : xR X = rmD 4) (hr : Rt X Qf ad prog_14_method_94_code 0) : ∀ (n : Nat) (v2 v3 v4 : Int) (w : Wd), VF X Qf ad NF 0 0 w 223 [(0, (2, 44)), (2, (0, v2)), (3, (0, v3)), (4, (0, v4))] [] (f_R_far_223 n v2 v3 v4 w) := by
  intro n
  induction n with
  | zero => intros; exact vf_no
  | succ n ih =>
    intro v2 v3 v4 w
    rw [f_R_far_223]
    refine vf_iload C (zdg dz_R_far_4 17 rfl) 3 rfl ?_
    refine vf_aload_n C (f := 0) (zdg dz_R_far_4 18 rfl) 0 rfl rfl ?_
    refine vf_get C (kd := 0) fl_R_144 sh_43 rfl (by decide) rfl rfl (zdg dz_R_far_4 19 rfl) ?_
    refine vf_icmp_ge C (off := 34) (tgt := 263) (zdg dz_R_far_4 20 rfl) (by decide) ?_ ?_
    · refine vf_iload_n C (f := 3) (zdg dz_R_far_5 12 rfl) 2 rfl rfl ?_
      refine vf_ldcw C (z := 1000000) (i := 348) (zdg dz_R_far_5 13 rfl) kc_R_348 (by decide +kernel) (jz rfl) ?_
      refine vf_icmp_ne C (off := 6) (tgt := 273) (zdg dz_R_far_5 14 rfl) (by decide) ?_ ?_
      · refine vf_aload_n C (f := 0) (zdg dz_R_far_5 17 rfl) 0 rfl rfl ?_
        refine vf_iconst C (z := 0) (zdg dz_R_far_5 18 rfl) (jz rfl) ?_
        refine vf_put C (kd := 0) fl_R_141 fk_11_15 sh_43 rfl (by decide) rfl rfl (by decide) (zdg dz_R_far_5 19 rfl) ?_
        generalize st w 43 15 0 = u8
        refine vf_uw ?_
        refine vf_iconst C (z := 0) (zdg dz_R_far_5 20 rfl) (jz rfl) ?_
        refine vf_istore C (i := 4) (L' := [(0, (2, 44)), (2, (0, v2)), (3, (0, v3))]) (zdg dz_R_far_5 21 rfl) [0, 1, 2] (jrI rfl rfl) hn (by decide) ?_
        refine vf_iconst C (z := 0) (zdg dz_R_far_5 22 rfl) (jz rfl) ?_
        refine vf_istore C (i := 5) (L' := [(4, (0, 0)), (0, (2, 44)), (2, (0, v2)), (3, (0, v3))]) (zdg dz_R_far_5 23 rfl) [0, 1, 2, 3] (jrI rfl rfl) hn (by decide) ?_
        exact vf_perm [2, 3, 4, 1, 0] rfl (t_R_far_284 C hn hR hr FU _ _ _ _ _)
      · refine vf_bipush C (z := (-2)) (zdg dz_R_far_5 15 rfl) (by decide +kernel) (jz rfl) ?_
        exact hr _ _ _ _ (fun h => absurd h (by decide)) (zdg dz_R_far_5 16 rfl)
    · refine vf_aload_n C (f := 0) (zdg dz_R_far_4 21 rfl) 0 rfl rfl ?_
      refine vf_getp C fl_R_20 sh_43 rfl (by decide) rfl (x := 48) rfl (zdg dz_R_far_4 22 rfl) ?_
      refine vf_iload C (zdg dz_R_far_4 23 rfl) 3 rfl ?_
      refine vf_iald C sh_47 (by decide) rfl (mz := 10) rfl (zdg dz_R_far_5 0 rfl) ?_
      refine vf_callSz C cy_R_isGuest ml_R_256 (ct_R_isGuest _ _) (S := []) (jrm_of hR rfl) rfl rfl (Nat.le_of_ble_eq_true rfl) (zdg dz_R_far_5 1 rfl) (fun r27 u28 => ?_)
      refine vf_if_eq C (off := 15) (tgt := 257) (zdg dz_R_far_5 2 rfl) (by decide) ?_ ?_
      · exact t_R_far_257 C hn hR hr ih _ _ _ _
      · refine vf_iload_n C (f := 3) (zdg dz_R_far_5 3 rfl) 2 rfl rfl ?_
        refine vf_aload_n C (f := 0) (zdg dz_R_far_5 4 rfl) 0 rfl rfl ?_
        refine vf_getp C fl_R_126 sh_43 rfl (by decide) rfl (x := 79) rfl (zdg dz_R_far_5 5 rfl) ?_
        refine vf_iload C (zdg dz_R_far_5 6 rfl) 3 rfl ?_
        refine vf_iald C sh_78 (by decide) rfl (mz := 10) rfl (zdg dz_R_far_5 7 rfl) ?_
        refine vf_mmin C ml_R_262 (jrm_n hR (by decide)) ⟨Nat.zero_le _, Nat.zero_le _⟩ (Nat.le_of_ble_eq_true rfl) (zdg dz_R_far_5 8 rfl) ?_
        generalize imin v3 (u28 78 v4.toNat) = x30
        refine vf_ul ?_
        refine vf_istore_n C (f := 3) (L' := [(0, (2, 44)), (2, (0, v2)), (4, (0, v4))]) (zdg dz_R_far_5 9 rfl) [0, 1, 3] (jrI rfl rfl) hn (by decide) rfl ?_
        exact vf_perm [1, 2, 0, 3] rfl (t_R_far_257 C hn hR hr ih _ _ _ _)
def f_R_far_204 (k79 : Int → Int → Wd → Option (Int × Wd)) (k90 : Int → Int → Int → Wd → Option (Int × Wd)) (v2 v3 v4 : Int) (w : Wd) : Option (Int × Wd) :=
  jlet (w32 (v4 + 1)) fun x32 =>
  k90 v2 v3 x32 w
theorem t_R_far_204 {X : jX} {Qf : Int × Wd → State → Prop} {ad : Nat → Nat} (C : Cx X prog_14_method_94_code "EachBringsAnotherModel") (hn : xn X = 8) (hR : xR X = rmD 4) (hr : Rt X Qf ad prog_14_method_94_code 0) {k79 : Int → Int → Wd → Option (Int × Wd)} (hk79 : ∀ (v2 v3 : Int) (w : Wd), VF X Qf ad NF 0 0 w 79 [(0, (2, 44)), (2, (0, v2)), (3, (0, v3))] [] (k79 v2 v3 w)) {k90 : Int → Int → Int → Wd → Option (Int × Wd)} (hk90 : ∀ (v2 v3 v4 : Int) (w : Wd), VF X Qf ad NF 0 0 w 90 [(0, (2, 44)), (2, (0, v2)), (3, (0, v3)), (4, (0, v4))] [] (k90 v2 v3 v4 w)) (v2 v3 v4 : Int) (w : Wd) : VF X Qf ad NF 0 0 w 204 [(0, (2, 44)), (2, (0, v2)), (3, (0, v3)), (4, (0, v4))] [] (f_R_far_204 k79 k90 v2 v3 v4 w) := by
  unfold f_R_far_204
  refine vf_iinc C (z := 1) (L' := [(0, (2, 44)), (2, (0, v2)), (3, (0, v3))]) (zdg dz_R_far_4 9 rfl) 3 rfl [0, 1, 2] (jrI rfl rfl) hn (by decide) ?_
  generalize w32 (v4 + 1) = x32
  refine vf_ul ?_
  refine vf_goto C (off := (-117)) (tgt := 90) (zdg dz_R_far_4 10 rfl) (by decide) ?_
  exact vf_perm [1, 2, 3, 0] rfl (hk90 _ _ _ _)
def f_R_far_198 (k79 : Int → Int → Wd → Option (Int × Wd)) (k90 : Int → Int → Int → Wd → Option (Int × Wd)) (k129 : Int → Int → Int → Int → Wd → Option (Int × Wd)) (v2 v3 v4 v5 : Int) (w : Wd) : Option (Int × Wd) :=
  jlet (w32 (v5 + 1)) fun x37 =>
  k129 v2 v3 v4 x37 w
theorem t_R_far_198 {X : jX} {Qf : Int × Wd → State → Prop} {ad : Nat → Nat} (C : Cx X prog_14_method_94_code "EachBringsAnotherModel") (hn : xn X = 8) (hR : xR X = rmD 4) (hr : Rt X Qf ad prog_14_method_94_code 0) {k79 : Int → Int → Wd → Option (Int × Wd)} (hk79 : ∀ (v2 v3 : Int) (w : Wd), VF X Qf ad NF 0 0 w 79 [(0, (2, 44)), (2, (0, v2)), (3, (0, v3))] [] (k79 v2 v3 w)) {k90 : Int → Int → Int → Wd → Option (Int × Wd)} (hk90 : ∀ (v2 v3 v4 : Int) (w : Wd), VF X Qf ad NF 0 0 w 90 [(0, (2, 44)), (2, (0, v2)), (3, (0, v3)), (4, (0, v4))] [] (k90 v2 v3 v4 w)) {k129 : Int → Int → Int → Int → Wd → Option (Int × Wd)} (hk129 : ∀ (v2 v3 v4 v5 : Int) (w : Wd), VF X Qf ad NF 0 0 w 129 [(0, (2, 44)), (2, (0, v2)), (3, (0, v3)), (4, (0, v4)), (5, (0, v5))] [] (k129 v2 v3 v4 v5 w)) (v2 v3 v4 v5 : Int) (w : Wd) : VF X Qf ad NF 0 0 w 198 [(0, (2, 44)), (2, (0, v2)), (3, (0, v3)), (4, (0, v4)), (5, (0, v5))] [] (f_R_far_198 k79 k90 k129 v2 v3 v4 v5 w) := by
  unfold f_R_far_198
  refine vf_iinc C (z := 1) (L' := [(0, (2, 44)), (2, (0, v2)), (3, (0, v3)), (4, (0, v4))]) (zdg dz_R_far_4 7 rfl) 4 rfl [0, 1, 2, 3] (jrI rfl rfl) hn (by decide) ?_
  generalize w32 (v5 + 1) = x37
  refine vf_ul ?_
  refine vf_goto C (off := (-72)) (tgt := 129) (zdg dz_R_far_4 8 rfl) (by decide) ?_
  exact vf_perm [1, 2, 3, 4, 0] rfl (hk129 _ _ _ _ _)
def f_R_far_188 (k79 : Int → Int → Wd → Option (Int × Wd)) (k90 : Int → Int → Int → Wd → Option (Int × Wd)) (k129 : Int → Int → Int → Int → Wd → Option (Int × Wd)) (v2 v3 v4 v5 : Int) (w : Wd) : Option (Int × Wd) :=
  jgd ((0 : Int) ≤ v5 ∧ v5 < 10) <|
  jlw (st w 78 v5.toNat ((w32 (v3 + 1)))) fun u40 =>
  f_R_far_198 k79 k90 k129 v2 v3 v4 v5 u40
theorem t_R_far_188 {X : jX} {Qf : Int × Wd → State → Prop} {ad : Nat → Nat} (C : Cx X prog_14_method_94_code "EachBringsAnotherModel") (hn : xn X = 8) (hR : xR X = rmD 4) (hr : Rt X Qf ad prog_14_method_94_code 0) {k79 : Int → Int → Wd → Option (Int × Wd)} (hk79 : ∀ (v2 v3 : Int) (w : Wd), VF X Qf ad NF 0 0 w 79 [(0, (2, 44)), (2, (0, v2)), (3, (0, v3))] [] (k79 v2 v3 w)) {k90 : Int → Int → Int → Wd → Option (Int × Wd)} (hk90 : ∀ (v2 v3 v4 : Int) (w : Wd), VF X Qf ad NF 0 0 w 90 [(0, (2, 44)), (2, (0, v2)), (3, (0, v3)), (4, (0, v4))] [] (k90 v2 v3 v4 w)) {k129 : Int → Int → Int → Int → Wd → Option (Int × Wd)} (hk129 : ∀ (v2 v3 v4 v5 : Int) (w : Wd), VF X Qf ad NF 0 0 w 129 [(0, (2, 44)), (2, (0, v2)), (3, (0, v3)), (4, (0, v4)), (5, (0, v5))] [] (k129 v2 v3 v4 v5 w)) (v2 v3 v4 v5 : Int) (w : Wd) : VF X Qf ad NF 0 0 w 188 [(0, (2, 44)), (2, (0, v2)), (3, (0, v3)), (4, (0, v4)), (5, (0, v5))] [] (f_R_far_188 k79 k90 k129 v2 v3 v4 v5 w) := by
  unfold f_R_far_188
  refine vf_aload_n C (f := 0) (zdg dz_R_far_4 0 rfl) 0 rfl rfl ?_
  refine vf_getp C fl_R_126 sh_43 rfl (by decide) rfl (x := 79) rfl (zdg dz_R_far_4 1 rfl) ?_
  refine vf_iload C (zdg dz_R_far_4 2 rfl) 4 rfl ?_
  refine vf_iload_n C (f := 3) (zdg dz_R_far_4 3 rfl) 2 rfl rfl ?_
  refine vf_iconst C (z := 1) (zdg dz_R_far_4 4 rfl) (jz rfl) ?_
  refine vf_iadd C (zdg dz_R_far_4 5 rfl) ?_
  refine vf_iast C sh_78 (by decide) rfl (mz := 10) rfl (zdg dz_R_far_4 6 rfl) ?_
  generalize st w 78 v5.toNat ((w32 (v3 + 1))) = u40
  refine vf_uw ?_
  exact t_R_far_198 C hn hR hr hk79 hk90 hk129 _ _ _ _ _
def f_R_far_129 (k79 : Int → Int → Wd → Option (Int × Wd)) (k90 : Int → Int → Int → Wd → Option (Int × Wd)) : Nat → Int → Int → Int → Int → Wd → Option (Int × Wd)
  | 0, _, _, _, _, _ => none
  | n + 1, v2, v3, v4, v5, w =>
    if (w 43 0) ≤ v5 then
      f_R_far_204 k79 k90 v2 v3 v4 w
    else
      jgd ((0 : Int) ≤ v4 ∧ v4 < 10) <|
      jcall (f_R_has (w 45 v4.toNat) v5 w) fun r35 u36 =>
      if r35 = 0 then
        f_R_far_198 k79 k90 (f_R_far_129 k79 k90 n) v2 v3 v4 v5 u36
      else
        jgd ((0 : Int) ≤ v5 ∧ v5 < 10) <|
        if (u36 78 v5.toNat) = 1000000 then
          jcall (f_R_has v2 v5 u36) fun r38 u39 =>
          if r38 = 0 then
            jgd ((0 : Int) ≤ v5 ∧ v5 < 10) <|
            jcall (f_R_isGuest (u39 47 v5.toNat) u39) fun r41 u42 =>
            if r41 = 0 then
              f_R_far_198 k79 k90 (f_R_far_129 k79 k90 n) v2 v3 v4 v5 u42
            else
              f_R_far_188 k79 k90 (f_R_far_129 k79 k90 n) v2 v3 v4 v5 u42
          else
            f_R_far_188 k79 k90 (f_R_far_129 k79 k90 n) v2 v3 v4 v5 u39
        else
          f_R_far_198 k79 k90 (f_R_far_129 k79 k90 n) v2 v3 v4 v5 u36
theorem t_R_far_129 {X : jX} {Qf : Int × Wd → State → Prop} {ad : Nat → Nat} (C : Cx X prog_14_method_94_code "EachBringsAnotherModel") (hn : xn X = 8) (hR : xR X = rmD 4) (hr : Rt X Qf ad prog_14_method_94_code 0) {k79 : Int → Int → Wd → Option (Int × Wd)} (hk79 : ∀ (v2 v3 : Int) (w : Wd), VF X Qf ad NF 0 0 w 79 [(0, (2, 44)), (2, (0, v2)), (3, (0, v3))] [] (k79 v2 v3 w)) {k90 : Int → Int → Int → Wd → Option (Int × Wd)} (hk90 : ∀ (v2 v3 v4 : Int) (w : Wd), VF X Qf ad NF 0 0 w 90 [(0, (2, 44)), (2, (0, v2)), (3, (0, v3)), (4, (0, v4))] [] (k90 v2 v3 v4 w)) : ∀ (n : Nat) (v2 v3 v4 v5 : Int) (w : Wd), VF X Qf ad NF 0 0 w 129 [(0, (2, 44)), (2, (0, v2)), (3, (0, v3)), (4, (0, v4)), (5, (0, v5))] [] (f_R_far_129 k79 k90 n v2 v3 v4 v5 w) := by
  intro n
  induction n with
  | zero => intros; exact vf_no
  | succ n ih =>
    intro v2 v3 v4 v5 w
    rw [f_R_far_129]
    refine vf_iload C (zdg dz_R_far_2 21 rfl) 4 rfl ?_
    refine vf_aload_n C (f := 0) (zdg dz_R_far_2 22 rfl) 0 rfl rfl ?_
    refine vf_get C (kd := 0) fl_R_144 sh_43 rfl (by decide) rfl rfl (zdg dz_R_far_2 23 rfl) ?_
    refine vf_icmp_ge C (off := 69) (tgt := 204) (zdg dz_R_far_3 0 rfl) (by decide) ?_ ?_
    · exact vf_perm [0, 1, 2, 3] rfl (t_R_far_204 C hn hR hr hk79 hk90 _ _ _ _)
    · refine vf_aload_n C (f := 0) (zdg dz_R_far_3 1 rfl) 0 rfl rfl ?_
      refine vf_getp C fl_R_13 sh_43 rfl (by decide) rfl (x := 46) rfl (zdg dz_R_far_3 2 rfl) ?_
      refine vf_iload C (zdg dz_R_far_3 3 rfl) 3 rfl ?_
      refine vf_iald C sh_45 (by decide) rfl (mz := 10) rfl (zdg dz_R_far_3 4 rfl) ?_
      refine vf_iload C (zdg dz_R_far_3 5 rfl) 4 rfl ?_
      refine vf_callSz C cy_R_has ml_R_210 (ct_R_has _ _ _) (S := []) (jrm_of hR rfl) rfl rfl (Nat.le_of_ble_eq_true rfl) (zdg dz_R_far_3 6 rfl) (fun r35 u36 => ?_)
      refine vf_if_eq C (off := 48) (tgt := 198) (zdg dz_R_far_3 7 rfl) (by decide) ?_ ?_
      · exact t_R_far_198 C hn hR hr hk79 hk90 ih _ _ _ _ _
      · refine vf_aload_n C (f := 0) (zdg dz_R_far_3 8 rfl) 0 rfl rfl ?_
        refine vf_getp C fl_R_126 sh_43 rfl (by decide) rfl (x := 79) rfl (zdg dz_R_far_3 9 rfl) ?_
        refine vf_iload C (zdg dz_R_far_3 10 rfl) 4 rfl ?_
        refine vf_iald C sh_78 (by decide) rfl (mz := 10) rfl (zdg dz_R_far_3 11 rfl) ?_
        refine vf_ldcw C (z := 1000000) (i := 348) (zdg dz_R_far_3 12 rfl) kc_R_348 (by decide +kernel) (jz rfl) ?_
        refine vf_icmp_ne C (off := 35) (tgt := 198) (zdg dz_R_far_3 13 rfl) (by decide) ?_ ?_
        · exact t_R_far_198 C hn hR hr hk79 hk90 ih _ _ _ _ _
        · refine vf_iload_n C (f := 2) (zdg dz_R_far_3 14 rfl) 1 rfl rfl ?_
          refine vf_iload C (zdg dz_R_far_3 15 rfl) 4 rfl ?_
          refine vf_callSz C cy_R_has ml_R_210 (ct_R_has _ _ _) (S := []) (jrm_of hR rfl) rfl rfl (Nat.le_of_ble_eq_true rfl) (zdg dz_R_far_3 16 rfl) (fun r38 u39 => ?_)
          refine vf_if_ne C (off := 16) (tgt := 188) (zdg dz_R_far_3 17 rfl) (by decide) ?_ ?_
          · exact t_R_far_188 C hn hR hr hk79 hk90 ih _ _ _ _ _
          · refine vf_aload_n C (f := 0) (zdg dz_R_far_3 18 rfl) 0 rfl rfl ?_
            refine vf_getp C fl_R_20 sh_43 rfl (by decide) rfl (x := 48) rfl (zdg dz_R_far_3 19 rfl) ?_
            refine vf_iload C (zdg dz_R_far_3 20 rfl) 4 rfl ?_
            refine vf_iald C sh_47 (by decide) rfl (mz := 10) rfl (zdg dz_R_far_3 21 rfl) ?_
            refine vf_callSz C cy_R_isGuest ml_R_256 (ct_R_isGuest _ _) (S := []) (jrm_of hR rfl) rfl rfl (Nat.le_of_ble_eq_true rfl) (zdg dz_R_far_3 22 rfl) (fun r41 u42 => ?_)
            refine vf_if_eq C (off := 13) (tgt := 198) (zdg dz_R_far_3 23 rfl) (by decide) ?_ ?_
            · exact t_R_far_198 C hn hR hr hk79 hk90 ih _ _ _ _ _
            · exact t_R_far_188 C hn hR hr hk79 hk90 ih _ _ _ _ _
def f_R_far_90 (k79 : Int → Int → Wd → Option (Int × Wd)) : Nat → Int → Int → Int → Wd → Option (Int × Wd)
  | 0, _, _, _, _ => none
  | n + 1, v2, v3, v4, w =>
    if (w 43 0) ≤ v4 then
      jlet (w32 (v3 + 1)) fun x31 =>
      k79 v2 x31 w
    else
      jgd ((0 : Int) ≤ v4 ∧ v4 < 10) <|
      if (w 78 v4.toNat) = v3 then
        jgd ((0 : Int) ≤ v4 ∧ v4 < 10) <|
        jcall (f_R_isGuest (w 47 v4.toNat) w) fun r33 u34 =>
        if r33 = 0 then
          f_R_far_129 k79 (f_R_far_90 k79 n) FU v2 v3 v4 0 u34
        else
          f_R_far_204 k79 (f_R_far_90 k79 n) v2 v3 v4 u34
      else
        f_R_far_204 k79 (f_R_far_90 k79 n) v2 v3 v4 w
theorem t_R_far_90 {X : jX} {Qf : Int × Wd → State → Prop} {ad : Nat → Nat} (C : Cx X prog_14_method_94_code "EachBringsAnotherModel") (hn : xn X = 8) (hR : xR X = rmD 4) (hr : Rt X Qf ad prog_14_method_94_code 0) {k79 : Int → Int → Wd → Option (Int × Wd)} (hk79 : ∀ (v2 v3 : Int) (w : Wd), VF X Qf ad NF 0 0 w 79 [(0, (2, 44)), (2, (0, v2)), (3, (0, v3))] [] (k79 v2 v3 w)) : ∀ (n : Nat) (v2 v3 v4 : Int) (w : Wd), VF X Qf ad NF 0 0 w 90 [(0, (2, 44)), (2, (0, v2)), (3, (0, v3)), (4, (0, v4))] [] (f_R_far_90 k79 n v2 v3 v4 w) := by
  intro n
  induction n with
  | zero => intros; exact vf_no
  | succ n ih =>
    intro v2 v3 v4 w
    rw [f_R_far_90]
    refine vf_iload C (zdg dz_R_far_2 2 rfl) 3 rfl ?_
    refine vf_aload_n C (f := 0) (zdg dz_R_far_2 3 rfl) 0 rfl rfl ?_
    refine vf_get C (kd := 0) fl_R_144 sh_43 rfl (by decide) rfl rfl (zdg dz_R_far_2 4 rfl) ?_
    refine vf_icmp_ge C (off := 114) (tgt := 210) (zdg dz_R_far_2 5 rfl) (by decide) ?_ ?_
    · refine vf_iinc C (z := 1) (L' := [(0, (2, 44)), (2, (0, v2))]) (zdg dz_R_far_4 11 rfl) 2 rfl [0, 1] (jrI rfl rfl) hn (by decide) ?_
      generalize w32 (v3 + 1) = x31
      refine vf_ul ?_
      refine vf_goto C (off := (-134)) (tgt := 79) (zdg dz_R_far_4 12 rfl) (by decide) ?_
      exact vf_perm [1, 2, 0] rfl (hk79 _ _ _)
    · refine vf_aload_n C (f := 0) (zdg dz_R_far_2 6 rfl) 0 rfl rfl ?_
      refine vf_getp C fl_R_126 sh_43 rfl (by decide) rfl (x := 79) rfl (zdg dz_R_far_2 7 rfl) ?_
      refine vf_iload C (zdg dz_R_far_2 8 rfl) 3 rfl ?_
      refine vf_iald C sh_78 (by decide) rfl (mz := 10) rfl (zdg dz_R_far_2 9 rfl) ?_
      refine vf_iload_n C (f := 3) (zdg dz_R_far_2 10 rfl) 2 rfl rfl ?_
      refine vf_icmp_ne C (off := 97) (tgt := 204) (zdg dz_R_far_2 11 rfl) (by decide) ?_ ?_
      · exact t_R_far_204 C hn hR hr hk79 ih _ _ _ _
      · refine vf_aload_n C (f := 0) (zdg dz_R_far_2 12 rfl) 0 rfl rfl ?_
        refine vf_getp C fl_R_20 sh_43 rfl (by decide) rfl (x := 48) rfl (zdg dz_R_far_2 13 rfl) ?_
        refine vf_iload C (zdg dz_R_far_2 14 rfl) 3 rfl ?_
        refine vf_iald C sh_47 (by decide) rfl (mz := 10) rfl (zdg dz_R_far_2 15 rfl) ?_
        refine vf_callSz C cy_R_isGuest ml_R_256 (ct_R_isGuest _ _) (S := []) (jrm_of hR rfl) rfl rfl (Nat.le_of_ble_eq_true rfl) (zdg dz_R_far_2 16 rfl) (fun r33 u34 => ?_)
        refine vf_if_eq C (off := 6) (tgt := 126) (zdg dz_R_far_2 17 rfl) (by decide) ?_ ?_
        · refine vf_iconst C (z := 0) (zdg dz_R_far_2 19 rfl) (jz rfl) ?_
          refine vf_istore C (i := 5) (L' := [(0, (2, 44)), (2, (0, v2)), (3, (0, v3)), (4, (0, v4))]) (zdg dz_R_far_2 20 rfl) [0, 1, 2, 3] (jrI rfl rfl) hn (by decide) ?_
          exact vf_perm [1, 2, 3, 4, 0] rfl (t_R_far_129 C hn hR hr hk79 ih FU _ _ _ _ _)
        · refine vf_goto C (off := 81) (tgt := 204) (zdg dz_R_far_2 18 rfl) (by decide) ?_
          exact t_R_far_204 C hn hR hr hk79 ih _ _ _ _
def f_R_far_79 : Nat → Int → Int → Wd → Option (Int × Wd)
  | 0, _, _, _ => none
  | n + 1, v2, v3, w =>
    if (w 43 0) ≤ v3 then
      f_R_far_223 FU v2 1000000 0 w
    else
      f_R_far_90 (f_R_far_79 n) FU v2 v3 0 w
theorem t_R_far_79 {X : jX} {Qf : Int × Wd → State → Prop} {ad : Nat → Nat} (C : Cx X prog_14_method_94_code "EachBringsAnotherModel") (hn : xn X = 8) (hR : xR X = rmD 4) (hr : Rt X Qf ad prog_14_method_94_code 0) : ∀ (n : Nat) (v2 v3 : Int) (w : Wd), VF X Qf ad NF 0 0 w 79 [(0, (2, 44)), (2, (0, v2)), (3, (0, v3))] [] (f_R_far_79 n v2 v3 w) := by
  intro n
  induction n with
  | zero => intros; exact vf_no
  | succ n ih =>
    intro v2 v3 w
    rw [f_R_far_79]
    refine vf_iload_n C (f := 3) (zdg dz_R_far_1 20 rfl) 2 rfl rfl ?_
    refine vf_aload_n C (f := 0) (zdg dz_R_far_1 21 rfl) 0 rfl rfl ?_
    refine vf_get C (kd := 0) fl_R_144 sh_43 rfl (by decide) rfl rfl (zdg dz_R_far_1 22 rfl) ?_
    refine vf_icmp_ge C (off := 132) (tgt := 216) (zdg dz_R_far_1 23 rfl) (by decide) ?_ ?_
    · refine vf_ldcw C (z := 1000000) (i := 348) (zdg dz_R_far_4 13 rfl) kc_R_348 (by decide +kernel) (jz rfl) ?_
      refine vf_istore_n C (f := 3) (L' := [(0, (2, 44)), (2, (0, v2))]) (zdg dz_R_far_4 14 rfl) [0, 1] (jrI rfl rfl) hn (by decide) rfl ?_
      refine vf_iconst C (z := 0) (zdg dz_R_far_4 15 rfl) (jz rfl) ?_
      refine vf_istore C (i := 4) (L' := [(3, (0, 1000000)), (0, (2, 44)), (2, (0, v2))]) (zdg dz_R_far_4 16 rfl) [0, 1, 2] (jrI rfl rfl) hn (by decide) ?_
      exact vf_perm [2, 3, 1, 0] rfl (t_R_far_223 C hn hR hr FU _ _ _ _)
    · refine vf_iconst C (z := 0) (zdg dz_R_far_2 0 rfl) (jz rfl) ?_
      refine vf_istore C (i := 4) (L' := [(0, (2, 44)), (2, (0, v2)), (3, (0, v3))]) (zdg dz_R_far_2 1 rfl) [0, 1, 2] (jrI rfl rfl) hn (by decide) ?_
      exact vf_perm [1, 2, 3, 0] rfl (t_R_far_90 C hn hR hr ih FU _ _ _ _)
def f_R_far_70 (k45 : Int → Int → Int → Wd → Option (Int × Wd)) (v1 v2 v3 s1 s2 : Int) (w : Wd) : Option (Int × Wd) :=
  jgd ((0 : Int) ≤ s1 ∧ s1 < 10) <|
  jlw (st w 78 s1.toNat s2) fun u43 =>
  jlet (w32 (v3 + 1)) fun x44 =>
  k45 v1 v2 x44 u43
theorem t_R_far_70 {X : jX} {Qf : Int × Wd → State → Prop} {ad : Nat → Nat} (C : Cx X prog_14_method_94_code "EachBringsAnotherModel") (hn : xn X = 8) (hR : xR X = rmD 4) (hr : Rt X Qf ad prog_14_method_94_code 0) {k45 : Int → Int → Int → Wd → Option (Int × Wd)} (hk45 : ∀ (v1 v2 v3 : Int) (w : Wd), VF X Qf ad NF 0 0 w 45 [(0, (2, 44)), (1, (0, v1)), (2, (0, v2)), (3, (0, v3))] [] (k45 v1 v2 v3 w)) (v1 v2 v3 s1 s2 : Int) (w : Wd) : VF X Qf ad NF 0 0 w 70 [(0, (2, 44)), (1, (0, v1)), (2, (0, v2)), (3, (0, v3))] [(0, s2), (0, s1), (2, 79)] (f_R_far_70 k45 v1 v2 v3 s1 s2 w) := by
  unfold f_R_far_70
  refine vf_iast C sh_78 (by decide) rfl (mz := 10) rfl (zdg dz_R_far_1 15 rfl) ?_
  generalize st w 78 s1.toNat s2 = u43
  refine vf_uw ?_
  refine vf_iinc C (z := 1) (L' := [(0, (2, 44)), (1, (0, v1)), (2, (0, v2))]) (zdg dz_R_far_1 16 rfl) 3 rfl [0, 1, 2] (jrI rfl rfl) hn (by decide) ?_
  generalize w32 (v3 + 1) = x44
  refine vf_ul ?_
  refine vf_goto C (off := (-29)) (tgt := 45) (zdg dz_R_far_1 17 rfl) (by decide) ?_
  exact vf_perm [1, 2, 3, 0] rfl (hk45 _ _ _ _)
def f_R_far_45 : Nat → Int → Int → Int → Wd → Option (Int × Wd)
  | 0, _, _, _, _ => none
  | n + 1, v1, v2, v3, w =>
    if (w 43 0) ≤ v3 then
      f_R_far_79 FU v2 0 w
    else
      if v3 = v1 then
        f_R_far_70 (f_R_far_45 n) v1 v2 v3 v3 0 w
      else
        f_R_far_70 (f_R_far_45 n) v1 v2 v3 v3 1000000 w
theorem t_R_far_45 {X : jX} {Qf : Int × Wd → State → Prop} {ad : Nat → Nat} (C : Cx X prog_14_method_94_code "EachBringsAnotherModel") (hn : xn X = 8) (hR : xR X = rmD 4) (hr : Rt X Qf ad prog_14_method_94_code 0) : ∀ (n : Nat) (v1 v2 v3 : Int) (w : Wd), VF X Qf ad NF 0 0 w 45 [(0, (2, 44)), (1, (0, v1)), (2, (0, v2)), (3, (0, v3))] [] (f_R_far_45 n v1 v2 v3 w) := by
  intro n
  induction n with
  | zero => intros; exact vf_no
  | succ n ih =>
    intro v1 v2 v3 w
    rw [f_R_far_45]
    refine vf_iload_n C (f := 3) (zdg dz_R_far_1 2 rfl) 3 rfl rfl ?_
    refine vf_aload_n C (f := 0) (zdg dz_R_far_1 3 rfl) 0 rfl rfl ?_
    refine vf_get C (kd := 0) fl_R_144 sh_43 rfl (by decide) rfl rfl (zdg dz_R_far_1 4 rfl) ?_
    refine vf_icmp_ge C (off := 27) (tgt := 77) (zdg dz_R_far_1 5 rfl) (by decide) ?_ ?_
    · refine vf_iconst C (z := 0) (zdg dz_R_far_1 18 rfl) (jz rfl) ?_
      refine vf_istore_n C (f := 3) (L' := [(0, (2, 44)), (2, (0, v2))]) (zdg dz_R_far_1 19 rfl) [0, 2] (jrI rfl rfl) hn (by decide) rfl ?_
      exact vf_perm [1, 2, 0] rfl (t_R_far_79 C hn hR hr FU _ _ _)
    · refine vf_aload_n C (f := 0) (zdg dz_R_far_1 6 rfl) 0 rfl rfl ?_
      refine vf_getp C fl_R_126 sh_43 rfl (by decide) rfl (x := 79) rfl (zdg dz_R_far_1 7 rfl) ?_
      refine vf_iload_n C (f := 3) (zdg dz_R_far_1 8 rfl) 3 rfl rfl ?_
      refine vf_iload_n C (f := 3) (zdg dz_R_far_1 9 rfl) 3 rfl rfl ?_
      refine vf_iload_n C (f := 1) (zdg dz_R_far_1 10 rfl) 1 rfl rfl ?_
      refine vf_icmp_ne C (off := 7) (tgt := 67) (zdg dz_R_far_1 11 rfl) (by decide) ?_ ?_
      · refine vf_ldcw C (z := 1000000) (i := 348) (zdg dz_R_far_1 14 rfl) kc_R_348 (by decide +kernel) (jz rfl) ?_
        exact t_R_far_70 C hn hR hr ih _ _ _ _ _ _
      · refine vf_iconst C (z := 0) (zdg dz_R_far_1 12 rfl) (jz rfl) ?_
        refine vf_goto C (off := 6) (tgt := 70) (zdg dz_R_far_1 13 rfl) (by decide) ?_
        exact t_R_far_70 C hn hR hr ih _ _ _ _ _ _
def f_R_far_43 (v1 v2 : Int) (w : Wd) : Option (Int × Wd) :=
  f_R_far_45 FU v1 v2 0 w
theorem t_R_far_43 {X : jX} {Qf : Int × Wd → State → Prop} {ad : Nat → Nat} (C : Cx X prog_14_method_94_code "EachBringsAnotherModel") (hn : xn X = 8) (hR : xR X = rmD 4) (hr : Rt X Qf ad prog_14_method_94_code 0) (v1 v2 : Int) (w : Wd) : VF X Qf ad NF 0 0 w 43 [(0, (2, 44)), (1, (0, v1)), (2, (0, v2))] [] (f_R_far_43 v1 v2 w) := by
  unfold f_R_far_43
  refine vf_iconst C (z := 0) (zdg dz_R_far_1 0 rfl) (jz rfl) ?_
  refine vf_istore_n C (f := 3) (L' := [(0, (2, 44)), (1, (0, v1)), (2, (0, v2))]) (zdg dz_R_far_1 1 rfl) [0, 1, 2] (jrI rfl rfl) hn (by decide) rfl ?_
  exact vf_perm [1, 2, 3, 0] rfl (t_R_far_45 C hn hR hr FU _ _ _ _)
def f_R_far (v1 : Int) (w : Wd) : Option (Int × Wd) :=
  jlw (st w 43 16 0) fun u1 =>
  jcall (f_R_isOne v1 u1) fun r2 u3 =>
  if r2 = 0 then
    some ((-1), u3)
  else
    jcall (f_R_free u3) fun r4 u5 =>
    jgd ((0 : Int) ≤ v1 ∧ v1 < 10) <|
    jcall (f_R_isGuest (u5 47 v1.toNat) u5) fun r6 u7 =>
    if r6 = 0 then
      jcall (f_R_has r4 v1 u7) fun r45 u46 =>
      if r45 = 0 then
        some ((-2), u46)
      else
        f_R_far_43 v1 r4 u46
    else
      f_R_far_43 v1 r4 u7
theorem ct_R_far (v1 : Int) (w : Wd) : Ct y_R_far prog_14_method_94_code 8 (some .int) 4 0 [(2, 44), (0, v1)] w (f_R_far v1 w) := by
  refine ct_of (by decide +kernel) (Or.inl ⟨rfl, rfl⟩) (Nat.le_of_ble_eq_true rfl) ?_
  intro X Qf ad C hn hR hr
  unfold f_R_far
  show VF X Qf ad NF 0 0 w 0 [(0, (2, 44)), (1, (0, v1))] [] _
  refine vf_aload_n C (f := 0) (zdg dz_R_far_0 0 rfl) 0 rfl rfl ?_
  refine vf_iconst C (z := 0) (zdg dz_R_far_0 1 rfl) (jz rfl) ?_
  refine vf_put C (kd := 0) fl_R_138 fk_11_16 sh_43 rfl (by decide) rfl rfl (by decide) (zdg dz_R_far_0 2 rfl) ?_
  generalize st w 43 16 0 = u1
  refine vf_uw ?_
  refine vf_aload_n C (f := 0) (zdg dz_R_far_0 3 rfl) 0 rfl rfl ?_
  refine vf_iload_n C (f := 1) (zdg dz_R_far_0 4 rfl) 1 rfl rfl ?_
  refine vf_callVz C cy_R_isOne ml_R_151 rfl (ct_R_isOne _ _) (S := []) sh_43 (by decide) rfl (jrm_of hR rfl) rfl rfl (Nat.le_of_ble_eq_true rfl) (zdg dz_R_far_0 5 rfl) (fun r2 u3 => ?_)
  refine vf_if_ne C (off := 5) (tgt := 15) (zdg dz_R_far_0 6 rfl) (by decide) ?_ ?_
  · refine vf_aload_n C (f := 0) (zdg dz_R_far_0 9 rfl) 0 rfl rfl ?_
    refine vf_callVi C cy_R_free ml_R_286 rfl (ct_R_free _) (S := []) sh_43 (by decide) rfl (jrm_of hR rfl) rfl rfl (Nat.le_of_ble_eq_true rfl) (zdg dz_R_far_0 10 rfl) (fun r4 u5 => ?_)
    refine vf_istore_n C (f := 2) (L' := [(0, (2, 44)), (1, (0, v1))]) (zdg dz_R_far_0 11 rfl) [0, 1] (jrI rfl rfl) hn (by decide) rfl ?_
    refine vf_aload_n C (f := 0) (zdg dz_R_far_0 12 rfl) 1 rfl rfl ?_
    refine vf_getp C fl_R_20 sh_43 rfl (by decide) rfl (x := 48) rfl (zdg dz_R_far_0 13 rfl) ?_
    refine vf_iload_n C (f := 1) (zdg dz_R_far_0 14 rfl) 2 rfl rfl ?_
    refine vf_iald C sh_47 (by decide) rfl (mz := 10) rfl (zdg dz_R_far_0 15 rfl) ?_
    refine vf_callSz C cy_R_isGuest ml_R_256 (ct_R_isGuest _ _) (S := []) (jrm_of hR rfl) rfl rfl (Nat.le_of_ble_eq_true rfl) (zdg dz_R_far_0 16 rfl) (fun r6 u7 => ?_)
    refine vf_if_ne C (off := 14) (tgt := 43) (zdg dz_R_far_0 17 rfl) (by decide) ?_ ?_
    · exact vf_perm [1, 2, 0] rfl (t_R_far_43 C hn hR hr _ _ _)
    · refine vf_iload_n C (f := 2) (zdg dz_R_far_0 18 rfl) 0 rfl rfl ?_
      refine vf_iload_n C (f := 1) (zdg dz_R_far_0 19 rfl) 2 rfl rfl ?_
      refine vf_callSz C cy_R_has ml_R_210 (ct_R_has _ _ _) (S := []) (jrm_of hR rfl) rfl rfl (Nat.le_of_ble_eq_true rfl) (zdg dz_R_far_0 20 rfl) (fun r45 u46 => ?_)
      refine vf_if_ne C (off := 6) (tgt := 43) (zdg dz_R_far_0 21 rfl) (by decide) ?_ ?_
      · exact vf_perm [1, 2, 0] rfl (t_R_far_43 C hn hR hr _ _ _)
      · refine vf_bipush C (z := (-2)) (zdg dz_R_far_0 22 rfl) (by decide +kernel) (jz rfl) ?_
        exact hr _ _ _ _ (fun h => absurd h (by decide)) (zdg dz_R_far_0 23 rfl)
  · refine vf_iconst C (z := (-1)) (zdg dz_R_far_0 7 rfl) (jz rfl) ?_
    exact hr _ _ _ _ (fun h => absurd h (by decide)) (zdg dz_R_far_0 8 rfl)
def f_R_ledBy_66 (k4 : Int → Int → Int → Wd → Option (Int × Wd)) (k14 : Int → Int → Int → Int → Wd → Option (Int × Wd)) (v1 v2 v3 v4 : Int) (w : Wd) : Option (Int × Wd) :=
  jlet (w32 (v4 + 1)) fun x1 =>
  k14 v1 v2 v3 x1 w
theorem t_R_ledBy_66 {X : jX} {Qf : Int × Wd → State → Prop} {ad : Nat → Nat} (C : Cx X prog_14_method_95_code "EachBringsAnotherModel") (hn : xn X = 5) (hR : xR X = rmD 2) (hr : Rt X Qf ad prog_14_method_95_code 0) {k4 : Int → Int → Int → Wd → Option (Int × Wd)} (hk4 : ∀ (v1 v2 v3 : Int) (w : Wd), VF X Qf ad NF 0 0 w 4 [(0, (2, 44)), (1, (0, v1)), (2, (0, v2)), (3, (0, v3))] [] (k4 v1 v2 v3 w)) {k14 : Int → Int → Int → Int → Wd → Option (Int × Wd)} (hk14 : ∀ (v1 v2 v3 v4 : Int) (w : Wd), VF X Qf ad NF 0 0 w 14 [(0, (2, 44)), (1, (0, v1)), (2, (0, v2)), (3, (0, v3)), (4, (0, v4))] [] (k14 v1 v2 v3 v4 w)) (v1 v2 v3 v4 : Int) (w : Wd) : VF X Qf ad NF 0 0 w 66 [(0, (2, 44)), (1, (0, v1)), (2, (0, v2)), (3, (0, v3)), (4, (0, v4))] [] (f_R_ledBy_66 k4 k14 v1 v2 v3 v4 w) := by
  unfold f_R_ledBy_66
  refine vf_iinc C (z := 1) (L' := [(0, (2, 44)), (1, (0, v1)), (2, (0, v2)), (3, (0, v3))]) (zdg dz_R_ledBy_1 16 rfl) 4 rfl [0, 1, 2, 3] (jrI rfl rfl) hn (by decide) ?_
  generalize w32 (v4 + 1) = x1
  refine vf_ul ?_
  refine vf_goto C (off := (-55)) (tgt := 14) (zdg dz_R_ledBy_1 17 rfl) (by decide) ?_
  exact vf_perm [1, 2, 3, 4, 0] rfl (hk14 _ _ _ _ _)
def f_R_ledBy_59 (k4 : Int → Int → Int → Wd → Option (Int × Wd)) (k14 : Int → Int → Int → Int → Wd → Option (Int × Wd)) (v1 v2 v3 v4 : Int) (w : Wd) : Option (Int × Wd) :=
  jlet (ior v2 (ishl 1 v4)) fun x2 =>
  f_R_ledBy_66 k4 k14 v1 x2 v3 v4 w
theorem t_R_ledBy_59 {X : jX} {Qf : Int × Wd → State → Prop} {ad : Nat → Nat} (C : Cx X prog_14_method_95_code "EachBringsAnotherModel") (hn : xn X = 5) (hR : xR X = rmD 2) (hr : Rt X Qf ad prog_14_method_95_code 0) {k4 : Int → Int → Int → Wd → Option (Int × Wd)} (hk4 : ∀ (v1 v2 v3 : Int) (w : Wd), VF X Qf ad NF 0 0 w 4 [(0, (2, 44)), (1, (0, v1)), (2, (0, v2)), (3, (0, v3))] [] (k4 v1 v2 v3 w)) {k14 : Int → Int → Int → Int → Wd → Option (Int × Wd)} (hk14 : ∀ (v1 v2 v3 v4 : Int) (w : Wd), VF X Qf ad NF 0 0 w 14 [(0, (2, 44)), (1, (0, v1)), (2, (0, v2)), (3, (0, v3)), (4, (0, v4))] [] (k14 v1 v2 v3 v4 w)) (v1 v2 v3 v4 : Int) (w : Wd) : VF X Qf ad NF 0 0 w 59 [(0, (2, 44)), (1, (0, v1)), (2, (0, v2)), (3, (0, v3)), (4, (0, v4))] [] (f_R_ledBy_59 k4 k14 v1 v2 v3 v4 w) := by
  unfold f_R_ledBy_59
  refine vf_iload_n C (f := 2) (zdg dz_R_ledBy_1 10 rfl) 2 rfl rfl ?_
  refine vf_iconst C (z := 1) (zdg dz_R_ledBy_1 11 rfl) (jz rfl) ?_
  refine vf_iload C (zdg dz_R_ledBy_1 12 rfl) 4 rfl ?_
  refine vf_ishl C (zdg dz_R_ledBy_1 13 rfl) ?_
  refine vf_ior C (zdg dz_R_ledBy_1 14 rfl) ?_
  generalize ior v2 (ishl 1 v4) = x2
  refine vf_ul ?_
  refine vf_istore_n C (f := 2) (L' := [(0, (2, 44)), (1, (0, v1)), (3, (0, v3)), (4, (0, v4))]) (zdg dz_R_ledBy_1 15 rfl) [0, 1, 3, 4] (jrI rfl rfl) hn (by decide) rfl ?_
  exact vf_perm [1, 2, 0, 3, 4] rfl (t_R_ledBy_66 C hn hR hr hk4 hk14 _ _ _ _ _)
def f_R_ledBy_14 (k4 : Int → Int → Int → Wd → Option (Int × Wd)) : Nat → Int → Int → Int → Int → Wd → Option (Int × Wd)
  | 0, _, _, _, _, _ => none
  | n + 1, v1, v2, v3, v4, w =>
    if (w 43 0) ≤ v4 then
      k4 v1 v2 v3 w
    else
      jgd ((0 : Int) ≤ v4 ∧ v4 < 10) <|
      if (w 48 v4.toNat) = (-1) then
        f_R_ledBy_66 k4 (f_R_ledBy_14 k4 n) v1 v2 v3 v4 w
      else
        jgd ((0 : Int) ≤ v4 ∧ v4 < 10) <|
        if (w 48 v4.toNat) = v1 then
          f_R_ledBy_59 k4 (f_R_ledBy_14 k4 n) v1 v2 v3 v4 w
        else
          jgd ((0 : Int) ≤ v4 ∧ v4 < 10) <|
          jcall (f_R_has v3 (w 48 v4.toNat) w) fun r3 u4 =>
          if r3 = 0 then
            f_R_ledBy_66 k4 (f_R_ledBy_14 k4 n) v1 v2 v3 v4 u4
          else
            f_R_ledBy_59 k4 (f_R_ledBy_14 k4 n) v1 v2 v3 v4 u4
theorem t_R_ledBy_14 {X : jX} {Qf : Int × Wd → State → Prop} {ad : Nat → Nat} (C : Cx X prog_14_method_95_code "EachBringsAnotherModel") (hn : xn X = 5) (hR : xR X = rmD 2) (hr : Rt X Qf ad prog_14_method_95_code 0) {k4 : Int → Int → Int → Wd → Option (Int × Wd)} (hk4 : ∀ (v1 v2 v3 : Int) (w : Wd), VF X Qf ad NF 0 0 w 4 [(0, (2, 44)), (1, (0, v1)), (2, (0, v2)), (3, (0, v3))] [] (k4 v1 v2 v3 w)) : ∀ (n : Nat) (v1 v2 v3 v4 : Int) (w : Wd), VF X Qf ad NF 0 0 w 14 [(0, (2, 44)), (1, (0, v1)), (2, (0, v2)), (3, (0, v3)), (4, (0, v4))] [] (f_R_ledBy_14 k4 n v1 v2 v3 v4 w) := by
  intro n
  induction n with
  | zero => intros; exact vf_no
  | succ n ih =>
    intro v1 v2 v3 v4 w
    rw [f_R_ledBy_14]
    refine vf_iload C (zdg dz_R_ledBy_0 11 rfl) 4 rfl ?_
    refine vf_aload_n C (f := 0) (zdg dz_R_ledBy_0 12 rfl) 0 rfl rfl ?_
    refine vf_get C (kd := 0) fl_R_144 sh_43 rfl (by decide) rfl rfl (zdg dz_R_ledBy_0 13 rfl) ?_
    refine vf_icmp_ge C (off := 52) (tgt := 72) (zdg dz_R_ledBy_0 14 rfl) (by decide) ?_ ?_
    · refine vf_goto C (off := (-68)) (tgt := 4) (zdg dz_R_ledBy_1 18 rfl) (by decide) ?_
      exact vf_perm [0, 1, 2, 3] rfl (hk4 _ _ _ _)
    · refine vf_aload_n C (f := 0) (zdg dz_R_ledBy_0 15 rfl) 0 rfl rfl ?_
      refine vf_getp C fl_R_23 sh_43 rfl (by decide) rfl (x := 49) rfl (zdg dz_R_ledBy_0 16 rfl) ?_
      refine vf_iload C (zdg dz_R_ledBy_0 17 rfl) 4 rfl ?_
      refine vf_iald C sh_48 (by decide) rfl (mz := 10) rfl (zdg dz_R_ledBy_0 18 rfl) ?_
      refine vf_iconst C (z := (-1)) (zdg dz_R_ledBy_0 19 rfl) (jz rfl) ?_
      refine vf_icmp_eq C (off := 35) (tgt := 66) (zdg dz_R_ledBy_0 20 rfl) (by decide) ?_ ?_
      · exact t_R_ledBy_66 C hn hR hr hk4 ih _ _ _ _ _
      · refine vf_aload_n C (f := 0) (zdg dz_R_ledBy_0 21 rfl) 0 rfl rfl ?_
        refine vf_getp C fl_R_23 sh_43 rfl (by decide) rfl (x := 49) rfl (zdg dz_R_ledBy_0 22 rfl) ?_
        refine vf_iload C (zdg dz_R_ledBy_0 23 rfl) 4 rfl ?_
        refine vf_iald C sh_48 (by decide) rfl (mz := 10) rfl (zdg dz_R_ledBy_1 0 rfl) ?_
        refine vf_iload_n C (f := 1) (zdg dz_R_ledBy_1 1 rfl) 1 rfl rfl ?_
        refine vf_icmp_eq C (off := 17) (tgt := 59) (zdg dz_R_ledBy_1 2 rfl) (by decide) ?_ ?_
        · exact t_R_ledBy_59 C hn hR hr hk4 ih _ _ _ _ _
        · refine vf_iload_n C (f := 3) (zdg dz_R_ledBy_1 3 rfl) 3 rfl rfl ?_
          refine vf_aload_n C (f := 0) (zdg dz_R_ledBy_1 4 rfl) 0 rfl rfl ?_
          refine vf_getp C fl_R_23 sh_43 rfl (by decide) rfl (x := 49) rfl (zdg dz_R_ledBy_1 5 rfl) ?_
          refine vf_iload C (zdg dz_R_ledBy_1 6 rfl) 4 rfl ?_
          refine vf_iald C sh_48 (by decide) rfl (mz := 10) rfl (zdg dz_R_ledBy_1 7 rfl) ?_
          refine vf_callSz C cy_R_has ml_R_210 (ct_R_has _ _ _) (S := []) (jrm_of hR rfl) rfl rfl (Nat.le_of_ble_eq_true rfl) (zdg dz_R_ledBy_1 8 rfl) (fun r3 u4 => ?_)
          refine vf_if_eq C (off := 10) (tgt := 66) (zdg dz_R_ledBy_1 9 rfl) (by decide) ?_ ?_
          · exact t_R_ledBy_66 C hn hR hr hk4 ih _ _ _ _ _
          · exact t_R_ledBy_59 C hn hR hr hk4 ih _ _ _ _ _
def f_R_ledBy_4 : Nat → Int → Int → Int → Wd → Option (Int × Wd)
  | 0, _, _, _, _ => none
  | n + 1, v1, v2, v3, w =>
    if v2 = v3 then
      some (v2, w)
    else
      f_R_ledBy_14 (f_R_ledBy_4 n) FU v1 v2 v2 0 w
theorem t_R_ledBy_4 {X : jX} {Qf : Int × Wd → State → Prop} {ad : Nat → Nat} (C : Cx X prog_14_method_95_code "EachBringsAnotherModel") (hn : xn X = 5) (hR : xR X = rmD 2) (hr : Rt X Qf ad prog_14_method_95_code 0) : ∀ (n : Nat) (v1 v2 v3 : Int) (w : Wd), VF X Qf ad NF 0 0 w 4 [(0, (2, 44)), (1, (0, v1)), (2, (0, v2)), (3, (0, v3))] [] (f_R_ledBy_4 n v1 v2 v3 w) := by
  intro n
  induction n with
  | zero => intros; exact vf_no
  | succ n ih =>
    intro v1 v2 v3 w
    rw [f_R_ledBy_4]
    refine vf_iload_n C (f := 2) (zdg dz_R_ledBy_0 4 rfl) 2 rfl rfl ?_
    refine vf_iload_n C (f := 3) (zdg dz_R_ledBy_0 5 rfl) 3 rfl rfl ?_
    refine vf_icmp_eq C (off := 69) (tgt := 75) (zdg dz_R_ledBy_0 6 rfl) (by decide) ?_ ?_
    · refine vf_iload_n C (f := 2) (zdg dz_R_ledBy_1 19 rfl) 2 rfl rfl ?_
      exact hr _ _ _ _ (fun h => absurd h (by decide)) (zdg dz_R_ledBy_1 20 rfl)
    · refine vf_iload_n C (f := 2) (zdg dz_R_ledBy_0 7 rfl) 2 rfl rfl ?_
      refine vf_istore_n C (f := 3) (L' := [(0, (2, 44)), (1, (0, v1)), (2, (0, v2))]) (zdg dz_R_ledBy_0 8 rfl) [0, 1, 2] (jrI rfl rfl) hn (by decide) rfl ?_
      refine vf_iconst C (z := 0) (zdg dz_R_ledBy_0 9 rfl) (jz rfl) ?_
      refine vf_istore C (i := 4) (L' := [(3, (0, v2)), (0, (2, 44)), (1, (0, v1)), (2, (0, v2))]) (zdg dz_R_ledBy_0 10 rfl) [0, 1, 2, 3] (jrI rfl rfl) hn (by decide) ?_
      exact vf_perm [2, 3, 4, 1, 0] rfl (t_R_ledBy_14 C hn hR hr ih FU _ _ _ _ _)
def f_R_ledBy (v1 : Int) (w : Wd) : Option (Int × Wd) :=
  f_R_ledBy_4 FU v1 0 (-1) w
theorem ct_R_ledBy (v1 : Int) (w : Wd) : Ct y_R_ledBy prog_14_method_95_code 5 (some .int) 2 0 [(2, 44), (0, v1)] w (f_R_ledBy v1 w) := by
  refine ct_of (by decide +kernel) (Or.inl ⟨rfl, rfl⟩) (Nat.le_of_ble_eq_true rfl) ?_
  intro X Qf ad C hn hR hr
  unfold f_R_ledBy
  show VF X Qf ad NF 0 0 w 0 [(0, (2, 44)), (1, (0, v1))] [] _
  refine vf_iconst C (z := 0) (zdg dz_R_ledBy_0 0 rfl) (jz rfl) ?_
  refine vf_istore_n C (f := 2) (L' := [(0, (2, 44)), (1, (0, v1))]) (zdg dz_R_ledBy_0 1 rfl) [0, 1] (jrI rfl rfl) hn (by decide) rfl ?_
  refine vf_iconst C (z := (-1)) (zdg dz_R_ledBy_0 2 rfl) (jz rfl) ?_
  refine vf_istore_n C (f := 3) (L' := [(2, (0, 0)), (0, (2, 44)), (1, (0, v1))]) (zdg dz_R_ledBy_0 3 rfl) [0, 1, 2] (jrI rfl rfl) hn (by decide) rfl ?_
  exact vf_perm [2, 3, 1, 0] rfl (t_R_ledBy_4 C hn hR hr FU _ _ _ _)
def f_R_line_59 (k49 : Int → Int → Int → Wd → Option (Int × Wd)) : Nat → Int → Int → Int → Int → Int → Wd → Option (Int × Wd)
  | 0, _, _, _, _, _, _ => none
  | n + 1, v1, v2, v3, v4, v5, w =>
    if v3 ≤ v5 then
      jcall (f_R_tell v4 w) fun r6 u7 =>
      jlet (w32 (v3 + (-1))) fun x8 =>
      k49 v1 v2 x8 u7
    else
      jgd ((0 : Int) ≤ v4 ∧ v4 < 10) <|
      jlet (w 48 v4.toNat) fun x9 =>
      jlet (w32 (v5 + 1)) fun x10 =>
      f_R_line_59 k49 n v1 v2 v3 x9 x10 w
theorem t_R_line_59 {X : jX} {Qf : Int × Wd → State → Prop} {ad : Nat → Nat} (C : Cx X prog_14_method_96_code "EachBringsAnotherModel") (hn : xn X = 6) (hR : xR X = rmD 3) (hr : Rt X Qf ad prog_14_method_96_code 0) {k49 : Int → Int → Int → Wd → Option (Int × Wd)} (hk49 : ∀ (v1 v2 v3 : Int) (w : Wd), VF X Qf ad NF 0 0 w 49 [(0, (2, 44)), (1, (0, v1)), (2, (0, v2)), (3, (0, v3))] [] (k49 v1 v2 v3 w)) : ∀ (n : Nat) (v1 v2 v3 v4 v5 : Int) (w : Wd), VF X Qf ad NF 0 0 w 59 [(0, (2, 44)), (1, (0, v1)), (2, (0, v2)), (3, (0, v3)), (4, (0, v4)), (5, (0, v5))] [] (f_R_line_59 k49 n v1 v2 v3 v4 v5 w) := by
  intro n
  induction n with
  | zero => intros; exact vf_no
  | succ n ih =>
    intro v1 v2 v3 v4 v5 w
    rw [f_R_line_59]
    refine vf_iload C (zdg dz_R_line_1 13 rfl) 5 rfl ?_
    refine vf_iload_n C (f := 3) (zdg dz_R_line_1 14 rfl) 3 rfl rfl ?_
    refine vf_icmp_ge C (off := 18) (tgt := 80) (zdg dz_R_line_1 15 rfl) (by decide) ?_ ?_
    · refine vf_aload_n C (f := 0) (zdg dz_R_line_1 23 rfl) 0 rfl rfl ?_
      refine vf_iload C (zdg dz_R_line_2 0 rfl) 4 rfl ?_
      refine vf_callVv C cy_R_tell ml_R_304 rfl (ct_R_tell _ _) (S := []) sh_43 (by decide) rfl (jrm_of hR rfl) rfl rfl (Nat.le_of_ble_eq_true rfl) (zdg dz_R_line_2 1 rfl) (fun r6 u7 => ?_)
      refine vf_iinc C (z := (-1)) (L' := [(0, (2, 44)), (1, (0, v1)), (2, (0, v2))]) (zdg dz_R_line_2 2 rfl) 3 rfl [0, 1, 2] (jrI rfl rfl) hn (by decide) ?_
      generalize w32 (v3 + (-1)) = x8
      refine vf_ul ?_
      refine vf_goto C (off := (-40)) (tgt := 49) (zdg dz_R_line_2 3 rfl) (by decide) ?_
      exact vf_perm [1, 2, 3, 0] rfl (hk49 _ _ _ _)
    · refine vf_aload_n C (f := 0) (zdg dz_R_line_1 16 rfl) 0 rfl rfl ?_
      refine vf_getp C fl_R_23 sh_43 rfl (by decide) rfl (x := 49) rfl (zdg dz_R_line_1 17 rfl) ?_
      refine vf_iload C (zdg dz_R_line_1 18 rfl) 4 rfl ?_
      refine vf_iald C sh_48 (by decide) rfl (mz := 10) rfl (zdg dz_R_line_1 19 rfl) ?_
      generalize w 48 v4.toNat = x9
      refine vf_ul ?_
      refine vf_istore C (i := 4) (L' := [(0, (2, 44)), (1, (0, v1)), (2, (0, v2)), (3, (0, v3)), (5, (0, v5))]) (zdg dz_R_line_1 20 rfl) [0, 1, 2, 3, 5] (jrI rfl rfl) hn (by decide) ?_
      refine vf_iinc C (z := 1) (L' := [(4, (0, x9)), (0, (2, 44)), (1, (0, v1)), (2, (0, v2)), (3, (0, v3))]) (zdg dz_R_line_1 21 rfl) 5 rfl [0, 1, 2, 3, 4] (jrI rfl rfl) hn (by decide) ?_
      generalize w32 (v5 + 1) = x10
      refine vf_ul ?_
      refine vf_goto C (off := (-18)) (tgt := 59) (zdg dz_R_line_1 22 rfl) (by decide) ?_
      exact vf_perm [2, 3, 4, 5, 1, 0] rfl (ih _ _ _ _ _ _)
def f_R_line_49 : Nat → Int → Int → Int → Wd → Option (Int × Wd)
  | 0, _, _, _, _ => none
  | n + 1, v1, v2, v3, w =>
    if v3 ≤ 0 then
      some (v2, w)
    else
      f_R_line_59 (f_R_line_49 n) FU v1 v2 v3 v1 0 w
theorem t_R_line_49 {X : jX} {Qf : Int × Wd → State → Prop} {ad : Nat → Nat} (C : Cx X prog_14_method_96_code "EachBringsAnotherModel") (hn : xn X = 6) (hR : xR X = rmD 3) (hr : Rt X Qf ad prog_14_method_96_code 0) : ∀ (n : Nat) (v1 v2 v3 : Int) (w : Wd), VF X Qf ad NF 0 0 w 49 [(0, (2, 44)), (1, (0, v1)), (2, (0, v2)), (3, (0, v3))] [] (f_R_line_49 n v1 v2 v3 w) := by
  intro n
  induction n with
  | zero => intros; exact vf_no
  | succ n ih =>
    intro v1 v2 v3 w
    rw [f_R_line_49]
    refine vf_iload_n C (f := 3) (zdg dz_R_line_1 7 rfl) 3 rfl rfl ?_
    refine vf_if_le C (off := 42) (tgt := 92) (zdg dz_R_line_1 8 rfl) (by decide) ?_ ?_
    · refine vf_iload_n C (f := 2) (zdg dz_R_line_2 4 rfl) 2 rfl rfl ?_
      exact hr _ _ _ _ (fun h => absurd h (by decide)) (zdg dz_R_line_2 5 rfl)
    · refine vf_iload_n C (f := 1) (zdg dz_R_line_1 9 rfl) 1 rfl rfl ?_
      refine vf_istore C (i := 4) (L' := [(0, (2, 44)), (1, (0, v1)), (2, (0, v2)), (3, (0, v3))]) (zdg dz_R_line_1 10 rfl) [0, 1, 2, 3] (jrI rfl rfl) hn (by decide) ?_
      refine vf_iconst C (z := 0) (zdg dz_R_line_1 11 rfl) (jz rfl) ?_
      refine vf_istore C (i := 5) (L' := [(4, (0, v1)), (0, (2, 44)), (1, (0, v1)), (2, (0, v2)), (3, (0, v3))]) (zdg dz_R_line_1 12 rfl) [0, 1, 2, 3, 4] (jrI rfl rfl) hn (by decide) ?_
      exact vf_perm [2, 3, 4, 5, 1, 0] rfl (t_R_line_59 C hn hR hr ih FU _ _ _ _ _ _)
def f_R_line_24 : Nat → Int → Int → Int → Wd → Option (Int × Wd)
  | 0, _, _, _, _ => none
  | n + 1, v1, v2, v3, w =>
    if v3 = (-1) then
      jlw (st w 43 15 0) fun u5 =>
      f_R_line_49 FU v1 v2 v2 u5
    else
      jlet (w32 (v2 + 1)) fun x11 =>
      jgd ((0 : Int) ≤ v3 ∧ v3 < 10) <|
      jlet (w 48 v3.toNat) fun x12 =>
      f_R_line_24 n v1 x11 x12 w
theorem t_R_line_24 {X : jX} {Qf : Int × Wd → State → Prop} {ad : Nat → Nat} (C : Cx X prog_14_method_96_code "EachBringsAnotherModel") (hn : xn X = 6) (hR : xR X = rmD 3) (hr : Rt X Qf ad prog_14_method_96_code 0) : ∀ (n : Nat) (v1 v2 v3 : Int) (w : Wd), VF X Qf ad NF 0 0 w 24 [(0, (2, 44)), (1, (0, v1)), (2, (0, v2)), (3, (0, v3))] [] (f_R_line_24 n v1 v2 v3 w) := by
  intro n
  induction n with
  | zero => intros; exact vf_no
  | succ n ih =>
    intro v1 v2 v3 w
    rw [f_R_line_24]
    refine vf_iload_n C (f := 3) (zdg dz_R_line_0 16 rfl) 3 rfl rfl ?_
    refine vf_iconst C (z := (-1)) (zdg dz_R_line_0 17 rfl) (jz rfl) ?_
    refine vf_icmp_eq C (off := 16) (tgt := 42) (zdg dz_R_line_0 18 rfl) (by decide) ?_ ?_
    · refine vf_aload_n C (f := 0) (zdg dz_R_line_1 2 rfl) 0 rfl rfl ?_
      refine vf_iconst C (z := 0) (zdg dz_R_line_1 3 rfl) (jz rfl) ?_
      refine vf_put C (kd := 0) fl_R_141 fk_11_15 sh_43 rfl (by decide) rfl rfl (by decide) (zdg dz_R_line_1 4 rfl) ?_
      generalize st w 43 15 0 = u5
      refine vf_uw ?_
      refine vf_iload_n C (f := 2) (zdg dz_R_line_1 5 rfl) 2 rfl rfl ?_
      refine vf_istore_n C (f := 3) (L' := [(0, (2, 44)), (1, (0, v1)), (2, (0, v2))]) (zdg dz_R_line_1 6 rfl) [0, 1, 2] (jrI rfl rfl) hn (by decide) rfl ?_
      exact vf_perm [1, 2, 3, 0] rfl (t_R_line_49 C hn hR hr FU _ _ _ _)
    · refine vf_iinc C (z := 1) (L' := [(0, (2, 44)), (1, (0, v1)), (3, (0, v3))]) (zdg dz_R_line_0 19 rfl) 2 rfl [0, 1, 3] (jrI rfl rfl) hn (by decide) ?_
      generalize w32 (v2 + 1) = x11
      refine vf_ul ?_
      refine vf_aload_n C (f := 0) (zdg dz_R_line_0 20 rfl) 1 rfl rfl ?_
      refine vf_getp C fl_R_23 sh_43 rfl (by decide) rfl (x := 49) rfl (zdg dz_R_line_0 21 rfl) ?_
      refine vf_iload_n C (f := 3) (zdg dz_R_line_0 22 rfl) 3 rfl rfl ?_
      refine vf_iald C sh_48 (by decide) rfl (mz := 10) rfl (zdg dz_R_line_0 23 rfl) ?_
      generalize w 48 v3.toNat = x12
      refine vf_ul ?_
      refine vf_istore_n C (f := 3) (L' := [(2, (0, x11)), (0, (2, 44)), (1, (0, v1))]) (zdg dz_R_line_1 0 rfl) [0, 1, 2] (jrI rfl rfl) hn (by decide) rfl ?_
      refine vf_goto C (off := (-15)) (tgt := 24) (zdg dz_R_line_1 1 rfl) (by decide) ?_
      exact vf_perm [2, 3, 1, 0] rfl (ih _ _ _ _)
def f_R_line (v1 : Int) (w : Wd) : Option (Int × Wd) :=
  jlw (st w 43 16 0) fun u1 =>
  jcall (f_R_isOne v1 u1) fun r2 u3 =>
  if r2 = 0 then
    some ((-1), u3)
  else
    jgd ((0 : Int) ≤ v1 ∧ v1 < 10) <|
    jlet (u3 48 v1.toNat) fun x4 =>
    f_R_line_24 FU v1 0 x4 u3
theorem ct_R_line (v1 : Int) (w : Wd) : Ct y_R_line prog_14_method_96_code 6 (some .int) 3 0 [(2, 44), (0, v1)] w (f_R_line v1 w) := by
  refine ct_of (by decide +kernel) (Or.inl ⟨rfl, rfl⟩) (Nat.le_of_ble_eq_true rfl) ?_
  intro X Qf ad C hn hR hr
  unfold f_R_line
  show VF X Qf ad NF 0 0 w 0 [(0, (2, 44)), (1, (0, v1))] [] _
  refine vf_aload_n C (f := 0) (zdg dz_R_line_0 0 rfl) 0 rfl rfl ?_
  refine vf_iconst C (z := 0) (zdg dz_R_line_0 1 rfl) (jz rfl) ?_
  refine vf_put C (kd := 0) fl_R_138 fk_11_16 sh_43 rfl (by decide) rfl rfl (by decide) (zdg dz_R_line_0 2 rfl) ?_
  generalize st w 43 16 0 = u1
  refine vf_uw ?_
  refine vf_aload_n C (f := 0) (zdg dz_R_line_0 3 rfl) 0 rfl rfl ?_
  refine vf_iload_n C (f := 1) (zdg dz_R_line_0 4 rfl) 1 rfl rfl ?_
  refine vf_callVz C cy_R_isOne ml_R_151 rfl (ct_R_isOne _ _) (S := []) sh_43 (by decide) rfl (jrm_of hR rfl) rfl rfl (Nat.le_of_ble_eq_true rfl) (zdg dz_R_line_0 5 rfl) (fun r2 u3 => ?_)
  refine vf_if_ne C (off := 5) (tgt := 15) (zdg dz_R_line_0 6 rfl) (by decide) ?_ ?_
  · refine vf_iconst C (z := 0) (zdg dz_R_line_0 9 rfl) (jz rfl) ?_
    refine vf_istore_n C (f := 2) (L' := [(0, (2, 44)), (1, (0, v1))]) (zdg dz_R_line_0 10 rfl) [0, 1] (jrI rfl rfl) hn (by decide) rfl ?_
    refine vf_aload_n C (f := 0) (zdg dz_R_line_0 11 rfl) 1 rfl rfl ?_
    refine vf_getp C fl_R_23 sh_43 rfl (by decide) rfl (x := 49) rfl (zdg dz_R_line_0 12 rfl) ?_
    refine vf_iload_n C (f := 1) (zdg dz_R_line_0 13 rfl) 2 rfl rfl ?_
    refine vf_iald C sh_48 (by decide) rfl (mz := 10) rfl (zdg dz_R_line_0 14 rfl) ?_
    generalize u3 48 v1.toNat = x4
    refine vf_ul ?_
    refine vf_istore_n C (f := 3) (L' := [(2, (0, 0)), (0, (2, 44)), (1, (0, v1))]) (zdg dz_R_line_0 15 rfl) [0, 1, 2] (jrI rfl rfl) hn (by decide) rfl ?_
    exact vf_perm [2, 3, 1, 0] rfl (t_R_line_24 C hn hR hr FU _ _ _ _)
  · refine vf_iconst C (z := (-1)) (zdg dz_R_line_0 7 rfl) (jz rfl) ?_
    exact hr _ _ _ _ (fun h => absurd h (by decide)) (zdg dz_R_line_0 8 rfl)
def f_R_depthUnder_58 (k4 : Int → Int → Int → Wd → Option (Int × Wd)) (v1 v2 v3 : Int) (w : Wd) : Option (Int × Wd) :=
  jlet (w32 (v3 + 1)) fun x1 =>
  k4 v1 v2 x1 w
theorem t_R_depthUnder_58 {X : jX} {Qf : Int × Wd → State → Prop} {ad : Nat → Nat} (C : Cx X prog_14_method_97_code "EachBringsAnotherModel") (hn : xn X = 6) (hR : xR X = rmD 1) (hr : Rt X Qf ad prog_14_method_97_code 0) {k4 : Int → Int → Int → Wd → Option (Int × Wd)} (hk4 : ∀ (v1 v2 v3 : Int) (w : Wd), VF X Qf ad NF 0 0 w 4 [(0, (2, 44)), (1, (0, v1)), (2, (0, v2)), (3, (0, v3))] [] (k4 v1 v2 v3 w)) (v1 v2 v3 : Int) (w : Wd) : VF X Qf ad NF 0 0 w 58 [(0, (2, 44)), (1, (0, v1)), (2, (0, v2)), (3, (0, v3))] [] (f_R_depthUnder_58 k4 v1 v2 v3 w) := by
  unfold f_R_depthUnder_58
  refine vf_iinc C (z := 1) (L' := [(0, (2, 44)), (1, (0, v1)), (2, (0, v2))]) (zdg dz_R_depthUnder_1 8 rfl) 3 rfl [0, 1, 2] (jrI rfl rfl) hn (by decide) ?_
  generalize w32 (v3 + 1) = x1
  refine vf_ul ?_
  refine vf_goto C (off := (-57)) (tgt := 4) (zdg dz_R_depthUnder_1 9 rfl) (by decide) ?_
  exact vf_perm [1, 2, 3, 0] rfl (hk4 _ _ _ _)
def f_R_depthUnder_45 (k4 : Int → Int → Int → Wd → Option (Int × Wd)) (v1 v2 v3 v4 v5 : Int) (w : Wd) : Option (Int × Wd) :=
  if v5 = v1 then
    jlet (imax v2 v4) fun x2 =>
    f_R_depthUnder_58 k4 v1 x2 v3 w
  else
    f_R_depthUnder_58 k4 v1 v2 v3 w
theorem t_R_depthUnder_45 {X : jX} {Qf : Int × Wd → State → Prop} {ad : Nat → Nat} (C : Cx X prog_14_method_97_code "EachBringsAnotherModel") (hn : xn X = 6) (hR : xR X = rmD 1) (hr : Rt X Qf ad prog_14_method_97_code 0) {k4 : Int → Int → Int → Wd → Option (Int × Wd)} (hk4 : ∀ (v1 v2 v3 : Int) (w : Wd), VF X Qf ad NF 0 0 w 4 [(0, (2, 44)), (1, (0, v1)), (2, (0, v2)), (3, (0, v3))] [] (k4 v1 v2 v3 w)) (v1 v2 v3 v4 v5 : Int) (w : Wd) : VF X Qf ad NF 0 0 w 45 [(0, (2, 44)), (1, (0, v1)), (2, (0, v2)), (3, (0, v3)), (4, (0, v4)), (5, (0, v5))] [] (f_R_depthUnder_45 k4 v1 v2 v3 v4 v5 w) := by
  unfold f_R_depthUnder_45
  refine vf_iload C (zdg dz_R_depthUnder_1 1 rfl) 5 rfl ?_
  refine vf_iload_n C (f := 1) (zdg dz_R_depthUnder_1 2 rfl) 1 rfl rfl ?_
  refine vf_icmp_ne C (off := 10) (tgt := 58) (zdg dz_R_depthUnder_1 3 rfl) (by decide) ?_ ?_
  · exact vf_perm [0, 1, 2, 3] rfl (t_R_depthUnder_58 C hn hR hr hk4 _ _ _ _)
  · refine vf_iload_n C (f := 2) (zdg dz_R_depthUnder_1 4 rfl) 2 rfl rfl ?_
    refine vf_iload C (zdg dz_R_depthUnder_1 5 rfl) 4 rfl ?_
    refine vf_mmax C ml_R_267 (jrm_n hR (by decide)) ⟨Nat.zero_le _, Nat.zero_le _⟩ (Nat.le_of_ble_eq_true rfl) (zdg dz_R_depthUnder_1 6 rfl) ?_
    generalize imax v2 v4 = x2
    refine vf_ul ?_
    refine vf_istore_n C (f := 2) (L' := [(0, (2, 44)), (1, (0, v1)), (3, (0, v3))]) (zdg dz_R_depthUnder_1 7 rfl) [0, 1, 3] (jrI rfl rfl) hn (by decide) rfl ?_
    exact vf_perm [1, 2, 0, 3] rfl (t_R_depthUnder_58 C hn hR hr hk4 _ _ _ _)
def f_R_depthUnder_18 (k4 : Int → Int → Int → Wd → Option (Int × Wd)) : Nat → Int → Int → Int → Int → Int → Wd → Option (Int × Wd)
  | 0, _, _, _, _, _, _ => none
  | n + 1, v1, v2, v3, v4, v5, w =>
    if v5 = (-1) then
      f_R_depthUnder_45 k4 v1 v2 v3 v4 v5 w
    else
      if v5 = v1 then
        f_R_depthUnder_45 k4 v1 v2 v3 v4 v5 w
      else
        jgd ((0 : Int) ≤ v5 ∧ v5 < 10) <|
        jlet (w 48 v5.toNat) fun x3 =>
        jlet (w32 (v4 + 1)) fun x4 =>
        f_R_depthUnder_18 k4 n v1 v2 v3 x4 x3 w
theorem t_R_depthUnder_18 {X : jX} {Qf : Int × Wd → State → Prop} {ad : Nat → Nat} (C : Cx X prog_14_method_97_code "EachBringsAnotherModel") (hn : xn X = 6) (hR : xR X = rmD 1) (hr : Rt X Qf ad prog_14_method_97_code 0) {k4 : Int → Int → Int → Wd → Option (Int × Wd)} (hk4 : ∀ (v1 v2 v3 : Int) (w : Wd), VF X Qf ad NF 0 0 w 4 [(0, (2, 44)), (1, (0, v1)), (2, (0, v2)), (3, (0, v3))] [] (k4 v1 v2 v3 w)) : ∀ (n : Nat) (v1 v2 v3 v4 v5 : Int) (w : Wd), VF X Qf ad NF 0 0 w 18 [(0, (2, 44)), (1, (0, v1)), (2, (0, v2)), (3, (0, v3)), (4, (0, v4)), (5, (0, v5))] [] (f_R_depthUnder_18 k4 n v1 v2 v3 v4 v5 w) := by
  intro n
  induction n with
  | zero => intros; exact vf_no
  | succ n ih =>
    intro v1 v2 v3 v4 v5 w
    rw [f_R_depthUnder_18]
    refine vf_iload C (zdg dz_R_depthUnder_0 12 rfl) 5 rfl ?_
    refine vf_iconst C (z := (-1)) (zdg dz_R_depthUnder_0 13 rfl) (jz rfl) ?_
    refine vf_icmp_eq C (off := 24) (tgt := 45) (zdg dz_R_depthUnder_0 14 rfl) (by decide) ?_ ?_
    · exact t_R_depthUnder_45 C hn hR hr hk4 _ _ _ _ _ _
    · refine vf_iload C (zdg dz_R_depthUnder_0 15 rfl) 5 rfl ?_
      refine vf_iload_n C (f := 1) (zdg dz_R_depthUnder_0 16 rfl) 1 rfl rfl ?_
      refine vf_icmp_eq C (off := 18) (tgt := 45) (zdg dz_R_depthUnder_0 17 rfl) (by decide) ?_ ?_
      · exact t_R_depthUnder_45 C hn hR hr hk4 _ _ _ _ _ _
      · refine vf_aload_n C (f := 0) (zdg dz_R_depthUnder_0 18 rfl) 0 rfl rfl ?_
        refine vf_getp C fl_R_23 sh_43 rfl (by decide) rfl (x := 49) rfl (zdg dz_R_depthUnder_0 19 rfl) ?_
        refine vf_iload C (zdg dz_R_depthUnder_0 20 rfl) 5 rfl ?_
        refine vf_iald C sh_48 (by decide) rfl (mz := 10) rfl (zdg dz_R_depthUnder_0 21 rfl) ?_
        generalize w 48 v5.toNat = x3
        refine vf_ul ?_
        refine vf_istore C (i := 5) (L' := [(0, (2, 44)), (1, (0, v1)), (2, (0, v2)), (3, (0, v3)), (4, (0, v4))]) (zdg dz_R_depthUnder_0 22 rfl) [0, 1, 2, 3, 4] (jrI rfl rfl) hn (by decide) ?_
        refine vf_iinc C (z := 1) (L' := [(5, (0, x3)), (0, (2, 44)), (1, (0, v1)), (2, (0, v2)), (3, (0, v3))]) (zdg dz_R_depthUnder_0 23 rfl) 5 rfl [0, 1, 2, 3, 4] (jrI rfl rfl) hn (by decide) ?_
        generalize w32 (v4 + 1) = x4
        refine vf_ul ?_
        refine vf_goto C (off := (-24)) (tgt := 18) (zdg dz_R_depthUnder_1 0 rfl) (by decide) ?_
        exact vf_perm [2, 3, 4, 5, 0, 1] rfl (ih _ _ _ _ _ _)
def f_R_depthUnder_4 : Nat → Int → Int → Int → Wd → Option (Int × Wd)
  | 0, _, _, _, _ => none
  | n + 1, v1, v2, v3, w =>
    if (w 43 0) ≤ v3 then
      some (v2, w)
    else
      f_R_depthUnder_18 (f_R_depthUnder_4 n) FU v1 v2 v3 0 v3 w
theorem t_R_depthUnder_4 {X : jX} {Qf : Int × Wd → State → Prop} {ad : Nat → Nat} (C : Cx X prog_14_method_97_code "EachBringsAnotherModel") (hn : xn X = 6) (hR : xR X = rmD 1) (hr : Rt X Qf ad prog_14_method_97_code 0) : ∀ (n : Nat) (v1 v2 v3 : Int) (w : Wd), VF X Qf ad NF 0 0 w 4 [(0, (2, 44)), (1, (0, v1)), (2, (0, v2)), (3, (0, v3))] [] (f_R_depthUnder_4 n v1 v2 v3 w) := by
  intro n
  induction n with
  | zero => intros; exact vf_no
  | succ n ih =>
    intro v1 v2 v3 w
    rw [f_R_depthUnder_4]
    refine vf_iload_n C (f := 3) (zdg dz_R_depthUnder_0 4 rfl) 3 rfl rfl ?_
    refine vf_aload_n C (f := 0) (zdg dz_R_depthUnder_0 5 rfl) 0 rfl rfl ?_
    refine vf_get C (kd := 0) fl_R_144 sh_43 rfl (by decide) rfl rfl (zdg dz_R_depthUnder_0 6 rfl) ?_
    refine vf_icmp_ge C (off := 55) (tgt := 64) (zdg dz_R_depthUnder_0 7 rfl) (by decide) ?_ ?_
    · refine vf_iload_n C (f := 2) (zdg dz_R_depthUnder_1 10 rfl) 2 rfl rfl ?_
      exact hr _ _ _ _ (fun h => absurd h (by decide)) (zdg dz_R_depthUnder_1 11 rfl)
    · refine vf_iconst C (z := 0) (zdg dz_R_depthUnder_0 8 rfl) (jz rfl) ?_
      refine vf_istore C (i := 4) (L' := [(0, (2, 44)), (1, (0, v1)), (2, (0, v2)), (3, (0, v3))]) (zdg dz_R_depthUnder_0 9 rfl) [0, 1, 2, 3] (jrI rfl rfl) hn (by decide) ?_
      refine vf_iload_n C (f := 3) (zdg dz_R_depthUnder_0 10 rfl) 4 rfl rfl ?_
      refine vf_istore C (i := 5) (L' := [(4, (0, 0)), (0, (2, 44)), (1, (0, v1)), (2, (0, v2)), (3, (0, v3))]) (zdg dz_R_depthUnder_0 11 rfl) [0, 1, 2, 3, 4] (jrI rfl rfl) hn (by decide) ?_
      exact vf_perm [2, 3, 4, 5, 1, 0] rfl (t_R_depthUnder_18 C hn hR hr ih FU _ _ _ _ _ _)
def f_R_depthUnder (v1 : Int) (w : Wd) : Option (Int × Wd) :=
  f_R_depthUnder_4 FU v1 0 0 w
theorem ct_R_depthUnder (v1 : Int) (w : Wd) : Ct y_R_depthUnder prog_14_method_97_code 6 (some .int) 1 0 [(2, 44), (0, v1)] w (f_R_depthUnder v1 w) := by
  refine ct_of (by decide +kernel) (Or.inl ⟨rfl, rfl⟩) (Nat.le_of_ble_eq_true rfl) ?_
  intro X Qf ad C hn hR hr
  unfold f_R_depthUnder
  show VF X Qf ad NF 0 0 w 0 [(0, (2, 44)), (1, (0, v1))] [] _
  refine vf_iconst C (z := 0) (zdg dz_R_depthUnder_0 0 rfl) (jz rfl) ?_
  refine vf_istore_n C (f := 2) (L' := [(0, (2, 44)), (1, (0, v1))]) (zdg dz_R_depthUnder_0 1 rfl) [0, 1] (jrI rfl rfl) hn (by decide) rfl ?_
  refine vf_iconst C (z := 0) (zdg dz_R_depthUnder_0 2 rfl) (jz rfl) ?_
  refine vf_istore_n C (f := 3) (L' := [(2, (0, 0)), (0, (2, 44)), (1, (0, v1))]) (zdg dz_R_depthUnder_0 3 rfl) [0, 1, 2] (jrI rfl rfl) hn (by decide) rfl ?_
  exact vf_perm [2, 3, 1, 0] rfl (t_R_depthUnder_4 C hn hR hr FU _ _ _ _)
def f_R_led_43 (k19 : Int → Int → Int → Wd → Option (Int × Wd)) (v1 v3 s0 s1 : Int) (w : Wd) : Option (Int × Wd) :=
  jlet (w32 (s0 + s1)) fun x13 =>
  jlet (w32 (v3 + 1)) fun x14 =>
  k19 v1 x13 x14 w
theorem t_R_led_43 {X : jX} {Qf : Int × Wd → State → Prop} {ad : Nat → Nat} (C : Cx X prog_14_method_98_code "EachBringsAnotherModel") (hn : xn X = 4) (hR : xR X = rmD 3) (hr : Rt X Qf ad prog_14_method_98_code 0) {k19 : Int → Int → Int → Wd → Option (Int × Wd)} (hk19 : ∀ (v1 v2 v3 : Int) (w : Wd), VF X Qf ad NF 0 0 w 19 [(0, (2, 44)), (1, (0, v1)), (2, (0, v2)), (3, (0, v3))] [] (k19 v1 v2 v3 w)) (v1 v3 s0 s1 : Int) (w : Wd) : VF X Qf ad NF 0 0 w 43 [(0, (2, 44)), (1, (0, v1)), (3, (0, v3))] [(0, s1), (0, s0)] (f_R_led_43 k19 v1 v3 s0 s1 w) := by
  unfold f_R_led_43
  refine vf_iadd C (zdg dz_R_led_1 3 rfl) ?_
  generalize w32 (s0 + s1) = x13
  refine vf_ul ?_
  refine vf_istore_n C (f := 2) (L' := [(0, (2, 44)), (1, (0, v1)), (3, (0, v3))]) (zdg dz_R_led_1 4 rfl) [0, 1, 2] (jrI rfl rfl) hn (by decide) rfl ?_
  refine vf_iinc C (z := 1) (L' := [(2, (0, x13)), (0, (2, 44)), (1, (0, v1))]) (zdg dz_R_led_1 5 rfl) 3 rfl [0, 1, 2] (jrI rfl rfl) hn (by decide) ?_
  generalize w32 (v3 + 1) = x14
  refine vf_ul ?_
  refine vf_goto C (off := (-29)) (tgt := 19) (zdg dz_R_led_1 6 rfl) (by decide) ?_
  exact vf_perm [2, 3, 1, 0] rfl (hk19 _ _ _ _)
def f_R_led_19 : Nat → Int → Int → Int → Wd → Option (Int × Wd)
  | 0, _, _, _, _ => none
  | n + 1, v1, v2, v3, w =>
    if (w 43 0) ≤ v3 then
      jlw (st w 43 15 0) fun u4 =>
      jcall (f_R_tell v2 u4) fun r5 u6 =>
      jcall (f_R_depthUnder v1 u6) fun r7 u8 =>
      jcall (f_R_tell r7 u8) fun r9 u10 =>
      jcall (f_R_ledBy v1 u10) fun r11 u12 =>
      some (r11, u12)
    else
      jgd ((0 : Int) ≤ v3 ∧ v3 < 10) <|
      if (w 48 v3.toNat) = v1 then
        f_R_led_43 (f_R_led_19 n) v1 v3 v2 1 w
      else
        f_R_led_43 (f_R_led_19 n) v1 v3 v2 0 w
theorem t_R_led_19 {X : jX} {Qf : Int × Wd → State → Prop} {ad : Nat → Nat} (C : Cx X prog_14_method_98_code "EachBringsAnotherModel") (hn : xn X = 4) (hR : xR X = rmD 3) (hr : Rt X Qf ad prog_14_method_98_code 0) : ∀ (n : Nat) (v1 v2 v3 : Int) (w : Wd), VF X Qf ad NF 0 0 w 19 [(0, (2, 44)), (1, (0, v1)), (2, (0, v2)), (3, (0, v3))] [] (f_R_led_19 n v1 v2 v3 w) := by
  intro n
  induction n with
  | zero => intros; exact vf_no
  | succ n ih =>
    intro v1 v2 v3 w
    rw [f_R_led_19]
    refine vf_iload_n C (f := 3) (zdg dz_R_led_0 13 rfl) 3 rfl rfl ?_
    refine vf_aload_n C (f := 0) (zdg dz_R_led_0 14 rfl) 0 rfl rfl ?_
    refine vf_get C (kd := 0) fl_R_144 sh_43 rfl (by decide) rfl rfl (zdg dz_R_led_0 15 rfl) ?_
    refine vf_icmp_ge C (off := 27) (tgt := 51) (zdg dz_R_led_0 16 rfl) (by decide) ?_ ?_
    · refine vf_aload_n C (f := 0) (zdg dz_R_led_1 7 rfl) 0 rfl rfl ?_
      refine vf_iconst C (z := 0) (zdg dz_R_led_1 8 rfl) (jz rfl) ?_
      refine vf_put C (kd := 0) fl_R_141 fk_11_15 sh_43 rfl (by decide) rfl rfl (by decide) (zdg dz_R_led_1 9 rfl) ?_
      generalize st w 43 15 0 = u4
      refine vf_uw ?_
      refine vf_aload_n C (f := 0) (zdg dz_R_led_1 10 rfl) 0 rfl rfl ?_
      refine vf_iload_n C (f := 2) (zdg dz_R_led_1 11 rfl) 2 rfl rfl ?_
      refine vf_callVv C cy_R_tell ml_R_304 rfl (ct_R_tell _ _) (S := []) sh_43 (by decide) rfl (jrm_of hR rfl) rfl rfl (Nat.le_of_ble_eq_true rfl) (zdg dz_R_led_1 12 rfl) (fun r5 u6 => ?_)
      refine vf_aload_n C (f := 0) (zdg dz_R_led_1 13 rfl) 0 rfl rfl ?_
      refine vf_aload_n C (f := 0) (zdg dz_R_led_1 14 rfl) 0 rfl rfl ?_
      refine vf_iload_n C (f := 1) (zdg dz_R_led_1 15 rfl) 1 rfl rfl ?_
      refine vf_callVi C cy_R_depthUnder ml_R_401 rfl (ct_R_depthUnder _ _) (S := [(2, 44)]) sh_43 (by decide) rfl (jrm_of hR rfl) rfl rfl (Nat.le_of_ble_eq_true rfl) (zdg dz_R_led_1 16 rfl) (fun r7 u8 => ?_)
      refine vf_callVv C cy_R_tell ml_R_304 rfl (ct_R_tell _ _) (S := []) sh_43 (by decide) rfl (jrm_of hR rfl) rfl rfl (Nat.le_of_ble_eq_true rfl) (zdg dz_R_led_1 17 rfl) (fun r9 u10 => ?_)
      refine vf_aload_n C (f := 0) (zdg dz_R_led_1 18 rfl) 0 rfl rfl ?_
      refine vf_iload_n C (f := 1) (zdg dz_R_led_1 19 rfl) 1 rfl rfl ?_
      refine vf_callVi C cy_R_ledBy ml_R_404 rfl (ct_R_ledBy _ _) (S := []) sh_43 (by decide) rfl (jrm_of hR rfl) rfl rfl (Nat.le_of_ble_eq_true rfl) (zdg dz_R_led_1 20 rfl) (fun r11 u12 => ?_)
      exact hr _ _ _ _ (fun h => absurd h (by decide)) (zdg dz_R_led_1 21 rfl)
    · refine vf_iload_n C (f := 2) (zdg dz_R_led_0 17 rfl) 2 rfl rfl ?_
      refine vf_aload_n C (f := 0) (zdg dz_R_led_0 18 rfl) 0 rfl rfl ?_
      refine vf_getp C fl_R_23 sh_43 rfl (by decide) rfl (x := 49) rfl (zdg dz_R_led_0 19 rfl) ?_
      refine vf_iload_n C (f := 3) (zdg dz_R_led_0 20 rfl) 3 rfl rfl ?_
      refine vf_iald C sh_48 (by decide) rfl (mz := 10) rfl (zdg dz_R_led_0 21 rfl) ?_
      refine vf_iload_n C (f := 1) (zdg dz_R_led_0 22 rfl) 1 rfl rfl ?_
      refine vf_icmp_ne C (off := 7) (tgt := 42) (zdg dz_R_led_0 23 rfl) (by decide) ?_ ?_
      · refine vf_iconst C (z := 0) (zdg dz_R_led_1 2 rfl) (jz rfl) ?_
        exact vf_perm [0, 1, 3] rfl (t_R_led_43 C hn hR hr ih _ _ _ _ _)
      · refine vf_iconst C (z := 1) (zdg dz_R_led_1 0 rfl) (jz rfl) ?_
        refine vf_goto C (off := 4) (tgt := 43) (zdg dz_R_led_1 1 rfl) (by decide) ?_
        exact vf_perm [0, 1, 3] rfl (t_R_led_43 C hn hR hr ih _ _ _ _ _)
def f_R_led (v1 : Int) (w : Wd) : Option (Int × Wd) :=
  jlw (st w 43 16 0) fun u1 =>
  jcall (f_R_isOne v1 u1) fun r2 u3 =>
  if r2 = 0 then
    some ((-1), u3)
  else
    f_R_led_19 FU v1 0 0 u3
theorem ct_R_led (v1 : Int) (w : Wd) : Ct y_R_led prog_14_method_98_code 4 (some .int) 3 0 [(2, 44), (0, v1)] w (f_R_led v1 w) := by
  refine ct_of (by decide +kernel) (Or.inl ⟨rfl, rfl⟩) (Nat.le_of_ble_eq_true rfl) ?_
  intro X Qf ad C hn hR hr
  unfold f_R_led
  show VF X Qf ad NF 0 0 w 0 [(0, (2, 44)), (1, (0, v1))] [] _
  refine vf_aload_n C (f := 0) (zdg dz_R_led_0 0 rfl) 0 rfl rfl ?_
  refine vf_iconst C (z := 0) (zdg dz_R_led_0 1 rfl) (jz rfl) ?_
  refine vf_put C (kd := 0) fl_R_138 fk_11_16 sh_43 rfl (by decide) rfl rfl (by decide) (zdg dz_R_led_0 2 rfl) ?_
  generalize st w 43 16 0 = u1
  refine vf_uw ?_
  refine vf_aload_n C (f := 0) (zdg dz_R_led_0 3 rfl) 0 rfl rfl ?_
  refine vf_iload_n C (f := 1) (zdg dz_R_led_0 4 rfl) 1 rfl rfl ?_
  refine vf_callVz C cy_R_isOne ml_R_151 rfl (ct_R_isOne _ _) (S := []) sh_43 (by decide) rfl (jrm_of hR rfl) rfl rfl (Nat.le_of_ble_eq_true rfl) (zdg dz_R_led_0 5 rfl) (fun r2 u3 => ?_)
  refine vf_if_ne C (off := 5) (tgt := 15) (zdg dz_R_led_0 6 rfl) (by decide) ?_ ?_
  · refine vf_iconst C (z := 0) (zdg dz_R_led_0 9 rfl) (jz rfl) ?_
    refine vf_istore_n C (f := 2) (L' := [(0, (2, 44)), (1, (0, v1))]) (zdg dz_R_led_0 10 rfl) [0, 1] (jrI rfl rfl) hn (by decide) rfl ?_
    refine vf_iconst C (z := 0) (zdg dz_R_led_0 11 rfl) (jz rfl) ?_
    refine vf_istore_n C (f := 3) (L' := [(2, (0, 0)), (0, (2, 44)), (1, (0, v1))]) (zdg dz_R_led_0 12 rfl) [0, 1, 2] (jrI rfl rfl) hn (by decide) rfl ?_
    exact vf_perm [2, 3, 1, 0] rfl (t_R_led_19 C hn hR hr FU _ _ _ _)
  · refine vf_iconst C (z := (-1)) (zdg dz_R_led_0 7 rfl) (jz rfl) ?_
    exact hr _ _ _ _ (fun h => absurd h (by decide)) (zdg dz_R_led_0 8 rfl)
def f_R_was (v1 : Int) (w : Wd) : Option (Int × Wd) :=
  jlw (st w 43 16 0) fun u1 =>
  jcall (f_R_in v1 0 (u1 43 8) u1) fun r2 u3 =>
  if r2 = 0 then
    some ((-1), u3)
  else
    jgd ((0 : Int) ≤ v1 ∧ v1 < 61) <|
    some (u3 50 v1.toNat, u3)
theorem ct_R_was (v1 : Int) (w : Wd) : Ct y_R_was prog_14_method_99_code 2 (some .int) 2 0 [(2, 44), (0, v1)] w (f_R_was v1 w) := by
  refine ct_of (by decide +kernel) (Or.inl ⟨rfl, rfl⟩) (Nat.le_of_ble_eq_true rfl) ?_
  intro X Qf ad C hn hR hr
  unfold f_R_was
  show VF X Qf ad NF 0 0 w 0 [(0, (2, 44)), (1, (0, v1))] [] _
  refine vf_aload_n C (f := 0) (zdg dz_R_was_0 0 rfl) 0 rfl rfl ?_
  refine vf_iconst C (z := 0) (zdg dz_R_was_0 1 rfl) (jz rfl) ?_
  refine vf_put C (kd := 0) fl_R_138 fk_11_16 sh_43 rfl (by decide) rfl rfl (by decide) (zdg dz_R_was_0 2 rfl) ?_
  generalize st w 43 16 0 = u1
  refine vf_uw ?_
  refine vf_iload_n C (f := 1) (zdg dz_R_was_0 3 rfl) 1 rfl rfl ?_
  refine vf_iconst C (z := 0) (zdg dz_R_was_0 4 rfl) (jz rfl) ?_
  refine vf_aload_n C (f := 0) (zdg dz_R_was_0 5 rfl) 0 rfl rfl ?_
  refine vf_get C (kd := 0) fl_R_214 sh_43 rfl (by decide) rfl rfl (zdg dz_R_was_0 6 rfl) ?_
  refine vf_callSz C cy_R_in ml_R_147 (ct_R_in _ _ _ _) (S := []) (jrm_of hR rfl) rfl rfl (Nat.le_of_ble_eq_true rfl) (zdg dz_R_was_0 7 rfl) (fun r2 u3 => ?_)
  refine vf_if_eq C (off := 12) (tgt := 26) (zdg dz_R_was_0 8 rfl) (by decide) ?_ ?_
  · refine vf_iconst C (z := (-1)) (zdg dz_R_was_0 14 rfl) (jz rfl) ?_
    exact hr _ _ _ _ (fun h => absurd h (by decide)) (zdg dz_R_was_0 15 rfl)
  · refine vf_aload_n C (f := 0) (zdg dz_R_was_0 9 rfl) 0 rfl rfl ?_
    refine vf_getp C fl_R_29 sh_43 rfl (by decide) rfl (x := 51) rfl (zdg dz_R_was_0 10 rfl) ?_
    refine vf_iload_n C (f := 1) (zdg dz_R_was_0 11 rfl) 1 rfl rfl ?_
    refine vf_iald C sh_50 (by decide) rfl (mz := 61) rfl (zdg dz_R_was_0 12 rfl) ?_
    refine vf_goto C (off := 4) (tgt := 27) (zdg dz_R_was_0 13 rfl) (by decide) ?_
    exact hr _ _ _ _ (fun h => absurd h (by decide)) (zdg dz_R_was_0 15 rfl)
def f_R_common_18 : Nat → Int → Int → Wd → Option (Int × Wd)
  | 0, _, _, _ => none
  | n + 1, v2, v3, w =>
    if v3 = (-1) then
      some ((-2), w)
    else
      if v3 = v2 then
        some (v3, w)
      else
        jcall (f_R_ledBy v3 w) fun r4 u5 =>
        jcall (f_R_has r4 v2 u5) fun r6 u7 =>
        if r6 = 0 then
          jgd ((0 : Int) ≤ v3 ∧ v3 < 10) <|
          jlet (u7 48 v3.toNat) fun x8 =>
          f_R_common_18 n v2 x8 u7
        else
          some (v3, u7)
theorem t_R_common_18 {X : jX} {Qf : Int × Wd → State → Prop} {ad : Nat → Nat} (C : Cx X prog_14_method_100_code "EachBringsAnotherModel") (hn : xn X = 4) (hR : xR X = rmD 4) (hr : Rt X Qf ad prog_14_method_100_code 0) : ∀ (n : Nat) (v2 v3 : Int) (w : Wd), VF X Qf ad NF 0 0 w 18 [(0, (2, 44)), (2, (0, v2)), (3, (0, v3))] [] (f_R_common_18 n v2 v3 w) := by
  intro n
  induction n with
  | zero => intros; exact vf_no
  | succ n ih =>
    intro v2 v3 w
    rw [f_R_common_18]
    refine vf_iload_n C (f := 3) (zdg dz_R_common_0 12 rfl) 2 rfl rfl ?_
    refine vf_iconst C (z := (-1)) (zdg dz_R_common_0 13 rfl) (jz rfl) ?_
    refine vf_icmp_eq C (off := 32) (tgt := 52) (zdg dz_R_common_0 14 rfl) (by decide) ?_ ?_
    · refine vf_bipush C (z := (-2)) (zdg dz_R_common_1 8 rfl) (by decide +kernel) (jz rfl) ?_
      exact hr _ _ _ _ (fun h => absurd h (by decide)) (zdg dz_R_common_1 9 rfl)
    · refine vf_iload_n C (f := 3) (zdg dz_R_common_0 15 rfl) 2 rfl rfl ?_
      refine vf_iload_n C (f := 2) (zdg dz_R_common_0 16 rfl) 1 rfl rfl ?_
      refine vf_icmp_eq C (off := 15) (tgt := 40) (zdg dz_R_common_0 17 rfl) (by decide) ?_ ?_
      · refine vf_iload_n C (f := 3) (zdg dz_R_common_1 0 rfl) 2 rfl rfl ?_
        exact hr _ _ _ _ (fun h => absurd h (by decide)) (zdg dz_R_common_1 1 rfl)
      · refine vf_aload_n C (f := 0) (zdg dz_R_common_0 18 rfl) 0 rfl rfl ?_
        refine vf_iload_n C (f := 3) (zdg dz_R_common_0 19 rfl) 2 rfl rfl ?_
        refine vf_callVi C cy_R_ledBy ml_R_404 rfl (ct_R_ledBy _ _) (S := []) sh_43 (by decide) rfl (jrm_of hR rfl) rfl rfl (Nat.le_of_ble_eq_true rfl) (zdg dz_R_common_0 20 rfl) (fun r4 u5 => ?_)
        refine vf_iload_n C (f := 2) (zdg dz_R_common_0 21 rfl) 1 rfl rfl ?_
        refine vf_callSz C cy_R_has ml_R_210 (ct_R_has _ _ _) (S := []) (jrm_of hR rfl) rfl rfl (Nat.le_of_ble_eq_true rfl) (zdg dz_R_common_0 22 rfl) (fun r6 u7 => ?_)
        refine vf_if_eq C (off := 5) (tgt := 42) (zdg dz_R_common_0 23 rfl) (by decide) ?_ ?_
        · refine vf_aload_n C (f := 0) (zdg dz_R_common_1 2 rfl) 0 rfl rfl ?_
          refine vf_getp C fl_R_23 sh_43 rfl (by decide) rfl (x := 49) rfl (zdg dz_R_common_1 3 rfl) ?_
          refine vf_iload_n C (f := 3) (zdg dz_R_common_1 4 rfl) 2 rfl rfl ?_
          refine vf_iald C sh_48 (by decide) rfl (mz := 10) rfl (zdg dz_R_common_1 5 rfl) ?_
          generalize u7 48 v3.toNat = x8
          refine vf_ul ?_
          refine vf_istore_n C (f := 3) (L' := [(0, (2, 44)), (2, (0, v2))]) (zdg dz_R_common_1 6 rfl) [0, 1] (jrI rfl rfl) hn (by decide) rfl ?_
          refine vf_goto C (off := (-31)) (tgt := 18) (zdg dz_R_common_1 7 rfl) (by decide) ?_
          exact vf_perm [1, 2, 0] rfl (ih _ _ _)
        · refine vf_iload_n C (f := 3) (zdg dz_R_common_1 0 rfl) 2 rfl rfl ?_
          exact hr _ _ _ _ (fun h => absurd h (by decide)) (zdg dz_R_common_1 1 rfl)
def f_R_common (v1 v2 : Int) (w : Wd) : Option (Int × Wd) :=
  jlw (st w 43 16 0) fun u1 =>
  jcall (f_R_areTwo v1 v2 u1) fun r2 u3 =>
  if r2 = 0 then
    some ((-1), u3)
  else
    f_R_common_18 FU v2 v1 u3
theorem ct_R_common (v1 v2 : Int) (w : Wd) : Ct y_R_common prog_14_method_100_code 4 (some .int) 4 0 [(2, 44), (0, v1), (0, v2)] w (f_R_common v1 v2 w) := by
  refine ct_of (by decide +kernel) (Or.inl ⟨rfl, rfl⟩) (Nat.le_of_ble_eq_true rfl) ?_
  intro X Qf ad C hn hR hr
  unfold f_R_common
  show VF X Qf ad NF 0 0 w 0 [(0, (2, 44)), (1, (0, v1)), (2, (0, v2))] [] _
  refine vf_aload_n C (f := 0) (zdg dz_R_common_0 0 rfl) 0 rfl rfl ?_
  refine vf_iconst C (z := 0) (zdg dz_R_common_0 1 rfl) (jz rfl) ?_
  refine vf_put C (kd := 0) fl_R_138 fk_11_16 sh_43 rfl (by decide) rfl rfl (by decide) (zdg dz_R_common_0 2 rfl) ?_
  generalize st w 43 16 0 = u1
  refine vf_uw ?_
  refine vf_aload_n C (f := 0) (zdg dz_R_common_0 3 rfl) 0 rfl rfl ?_
  refine vf_iload_n C (f := 1) (zdg dz_R_common_0 4 rfl) 1 rfl rfl ?_
  refine vf_iload_n C (f := 2) (zdg dz_R_common_0 5 rfl) 2 rfl rfl ?_
  refine vf_callVz C cy_R_areTwo ml_R_259 rfl (ct_R_areTwo _ _ _) (S := []) sh_43 (by decide) rfl (jrm_of hR rfl) rfl rfl (Nat.le_of_ble_eq_true rfl) (zdg dz_R_common_0 6 rfl) (fun r2 u3 => ?_)
  refine vf_if_ne C (off := 5) (tgt := 16) (zdg dz_R_common_0 7 rfl) (by decide) ?_ ?_
  · refine vf_iload_n C (f := 1) (zdg dz_R_common_0 10 rfl) 1 rfl rfl ?_
    refine vf_istore_n C (f := 3) (L' := [(0, (2, 44)), (2, (0, v2))]) (zdg dz_R_common_0 11 rfl) [0, 2] (jrI rfl rfl) hn (by decide) rfl ?_
    exact vf_perm [1, 2, 0] rfl (t_R_common_18 C hn hR hr FU _ _ _)
  · refine vf_iconst C (z := (-1)) (zdg dz_R_common_0 8 rfl) (jz rfl) ?_
    exact hr _ _ _ _ (fun h => absurd h (by decide)) (zdg dz_R_common_0 9 rfl)
def f_R_father_43 (k11 : Int → Int → Int → Wd → Option (Int × Wd)) (v1 v2 v3 : Int) (w : Wd) : Option (Int × Wd) :=
  jlet (w32 (v3 + 1)) fun x9 =>
  k11 v1 v2 x9 w
theorem t_R_father_43 {X : jX} {Qf : Int × Wd → State → Prop} {ad : Nat → Nat} (C : Cx X prog_14_method_101_code "EachBringsAnotherModel") (hn : xn X = 5) (hR : xR X = rmD 3) (hr : Rt X Qf ad prog_14_method_101_code 0) {k11 : Int → Int → Int → Wd → Option (Int × Wd)} (hk11 : ∀ (v1 v2 v3 : Int) (w : Wd), VF X Qf ad NF 0 0 w 11 [(0, (2, 44)), (1, (0, v1)), (2, (0, v2)), (3, (0, v3))] [] (k11 v1 v2 v3 w)) (v1 v2 v3 : Int) (w : Wd) : VF X Qf ad NF 0 0 w 43 [(0, (2, 44)), (1, (0, v1)), (2, (0, v2)), (3, (0, v3))] [] (f_R_father_43 k11 v1 v2 v3 w) := by
  unfold f_R_father_43
  refine vf_iinc C (z := 1) (L' := [(0, (2, 44)), (1, (0, v1)), (2, (0, v2))]) (zdg dz_R_father_1 2 rfl) 3 rfl [0, 1, 2] (jrI rfl rfl) hn (by decide) ?_
  generalize w32 (v3 + 1) = x9
  refine vf_ul ?_
  refine vf_goto C (off := (-35)) (tgt := 11) (zdg dz_R_father_1 3 rfl) (by decide) ?_
  exact vf_perm [1, 2, 3, 0] rfl (hk11 _ _ _ _)
def f_R_father_11 : Nat → Int → Int → Int → Wd → Option (Int × Wd)
  | 0, _, _, _, _ => none
  | n + 1, v1, v2, v3, w =>
    if (w 43 0) ≤ v3 then
      if v1 = (-1) then
        some ((-2), w)
      else
        jlw (st w 43 15 0) fun u2 =>
        jcall (f_R_tell v2 u2) fun r3 u4 =>
        some (v1, u4)
    else
      jcall (f_R_ledBy v3 w) fun r5 u6 =>
      jcall (f_JI_bitCount r5 u6) fun r7 u8 =>
      if v2 < r7 then
        f_R_father_43 (f_R_father_11 n) v3 r7 v3 u8
      else
        f_R_father_43 (f_R_father_11 n) v1 v2 v3 u8
theorem t_R_father_11 {X : jX} {Qf : Int × Wd → State → Prop} {ad : Nat → Nat} (C : Cx X prog_14_method_101_code "EachBringsAnotherModel") (hn : xn X = 5) (hR : xR X = rmD 3) (hr : Rt X Qf ad prog_14_method_101_code 0) : ∀ (n : Nat) (v1 v2 v3 : Int) (w : Wd), VF X Qf ad NF 0 0 w 11 [(0, (2, 44)), (1, (0, v1)), (2, (0, v2)), (3, (0, v3))] [] (f_R_father_11 n v1 v2 v3 w) := by
  intro n
  induction n with
  | zero => intros; exact vf_no
  | succ n ih =>
    intro v1 v2 v3 w
    rw [f_R_father_11]
    refine vf_iload_n C (f := 3) (zdg dz_R_father_0 9 rfl) 3 rfl rfl ?_
    refine vf_aload_n C (f := 0) (zdg dz_R_father_0 10 rfl) 0 rfl rfl ?_
    refine vf_get C (kd := 0) fl_R_144 sh_43 rfl (by decide) rfl rfl (zdg dz_R_father_0 11 rfl) ?_
    refine vf_icmp_ge C (off := 33) (tgt := 49) (zdg dz_R_father_0 12 rfl) (by decide) ?_ ?_
    · refine vf_iload_n C (f := 1) (zdg dz_R_father_1 4 rfl) 1 rfl rfl ?_
      refine vf_iconst C (z := (-1)) (zdg dz_R_father_1 5 rfl) (jz rfl) ?_
      refine vf_icmp_ne C (off := 6) (tgt := 57) (zdg dz_R_father_1 6 rfl) (by decide) ?_ ?_
      · refine vf_aload_n C (f := 0) (zdg dz_R_father_1 9 rfl) 0 rfl rfl ?_
        refine vf_iconst C (z := 0) (zdg dz_R_father_1 10 rfl) (jz rfl) ?_
        refine vf_put C (kd := 0) fl_R_141 fk_11_15 sh_43 rfl (by decide) rfl rfl (by decide) (zdg dz_R_father_1 11 rfl) ?_
        generalize st w 43 15 0 = u2
        refine vf_uw ?_
        refine vf_aload_n C (f := 0) (zdg dz_R_father_1 12 rfl) 0 rfl rfl ?_
        refine vf_iload_n C (f := 2) (zdg dz_R_father_1 13 rfl) 2 rfl rfl ?_
        refine vf_callVv C cy_R_tell ml_R_304 rfl (ct_R_tell _ _) (S := []) sh_43 (by decide) rfl (jrm_of hR rfl) rfl rfl (Nat.le_of_ble_eq_true rfl) (zdg dz_R_father_1 14 rfl) (fun r3 u4 => ?_)
        refine vf_iload_n C (f := 1) (zdg dz_R_father_1 15 rfl) 1 rfl rfl ?_
        exact hr _ _ _ _ (fun h => absurd h (by decide)) (zdg dz_R_father_1 16 rfl)
      · refine vf_bipush C (z := (-2)) (zdg dz_R_father_1 7 rfl) (by decide +kernel) (jz rfl) ?_
        exact hr _ _ _ _ (fun h => absurd h (by decide)) (zdg dz_R_father_1 8 rfl)
    · refine vf_aload_n C (f := 0) (zdg dz_R_father_0 13 rfl) 0 rfl rfl ?_
      refine vf_iload_n C (f := 3) (zdg dz_R_father_0 14 rfl) 3 rfl rfl ?_
      refine vf_callVi C cy_R_ledBy ml_R_404 rfl (ct_R_ledBy _ _) (S := []) sh_43 (by decide) rfl (jrm_of hR rfl) rfl rfl (Nat.le_of_ble_eq_true rfl) (zdg dz_R_father_0 15 rfl) (fun r5 u6 => ?_)
      refine vf_callSi C cy_JI_bitCount ml_R_242 (ct_JI_bitCount _ _) (S := []) (jrm_of hR rfl) rfl rfl (Nat.le_of_ble_eq_true rfl) (zdg dz_R_father_0 16 rfl) (fun r7 u8 => ?_)
      refine vf_istore C (i := 4) (L' := [(0, (2, 44)), (1, (0, v1)), (2, (0, v2)), (3, (0, v3))]) (zdg dz_R_father_0 17 rfl) [0, 1, 2, 3] (jrI rfl rfl) hn (by decide) ?_
      refine vf_iload C (zdg dz_R_father_0 18 rfl) 0 rfl ?_
      refine vf_iload_n C (f := 2) (zdg dz_R_father_0 19 rfl) 3 rfl rfl ?_
      refine vf_icmp_gt C (off := 6) (tgt := 38) (zdg dz_R_father_0 20 rfl) (by decide) ?_ ?_
      · refine vf_iload_n C (f := 3) (zdg dz_R_father_0 22 rfl) 4 rfl rfl ?_
        refine vf_istore_n C (f := 1) (L' := [(4, (0, r7)), (0, (2, 44)), (3, (0, v3))]) (zdg dz_R_father_0 23 rfl) [0, 1, 4] (jrI rfl rfl) hn (by decide) rfl ?_
        refine vf_iload C (zdg dz_R_father_1 0 rfl) 1 rfl ?_
        refine vf_istore_n C (f := 2) (L' := [(1, (0, v3)), (0, (2, 44)), (3, (0, v3))]) (zdg dz_R_father_1 1 rfl) [0, 2, 3] (jrI rfl rfl) hn (by decide) rfl ?_
        exact vf_perm [2, 1, 0, 3] rfl (t_R_father_43 C hn hR hr ih _ _ _ _)
      · refine vf_goto C (off := 8) (tgt := 43) (zdg dz_R_father_0 21 rfl) (by decide) ?_
        exact vf_perm [1, 2, 3, 4] rfl (t_R_father_43 C hn hR hr ih _ _ _ _)
def f_R_father (w : Wd) : Option (Int × Wd) :=
  jlw (st w 43 16 0) fun u1 =>
  f_R_father_11 FU (-1) 0 0 u1
theorem ct_R_father (w : Wd) : Ct y_R_father prog_14_method_101_code 5 (some .int) 3 0 [(2, 44)] w (f_R_father w) := by
  refine ct_of (by decide +kernel) (Or.inl ⟨rfl, rfl⟩) (Nat.le_of_ble_eq_true rfl) ?_
  intro X Qf ad C hn hR hr
  unfold f_R_father
  show VF X Qf ad NF 0 0 w 0 [(0, (2, 44))] [] _
  refine vf_aload_n C (f := 0) (zdg dz_R_father_0 0 rfl) 0 rfl rfl ?_
  refine vf_iconst C (z := 0) (zdg dz_R_father_0 1 rfl) (jz rfl) ?_
  refine vf_put C (kd := 0) fl_R_138 fk_11_16 sh_43 rfl (by decide) rfl rfl (by decide) (zdg dz_R_father_0 2 rfl) ?_
  generalize st w 43 16 0 = u1
  refine vf_uw ?_
  refine vf_iconst C (z := (-1)) (zdg dz_R_father_0 3 rfl) (jz rfl) ?_
  refine vf_istore_n C (f := 1) (L' := [(0, (2, 44))]) (zdg dz_R_father_0 4 rfl) [0] (jrI rfl rfl) hn (by decide) rfl ?_
  refine vf_iconst C (z := 0) (zdg dz_R_father_0 5 rfl) (jz rfl) ?_
  refine vf_istore_n C (f := 2) (L' := [(1, (0, (-1))), (0, (2, 44))]) (zdg dz_R_father_0 6 rfl) [0, 1] (jrI rfl rfl) hn (by decide) rfl ?_
  refine vf_iconst C (z := 0) (zdg dz_R_father_0 7 rfl) (jz rfl) ?_
  refine vf_istore_n C (f := 3) (L' := [(2, (0, 0)), (1, (0, (-1))), (0, (2, 44))]) (zdg dz_R_father_0 8 rfl) [0, 1, 2] (jrI rfl rfl) hn (by decide) rfl ?_
  exact vf_perm [3, 2, 1, 0] rfl (t_R_father_11 C hn hR hr FU _ _ _ _)
def f_R_lay_43_79_2 : Nat → Int → Int → Wd → Option (Int × Wd)
  | 0, _, _, _ => none
  | n + 1, v2, v3, w =>
    if (10 : Int) ≤ v3 then
      jgd ((0 : Int) ≤ (w32 (v2 + 30)) ∧ (w32 (v2 + 30)) < 210) <|
      jlw (st w 79 (w32 (v2 + 30)).toNat ((w 43 7))) fun u1 =>
      some (0, u1)
    else
      jgd ((0 : Int) ≤ v3 ∧ v3 < 10) <|
      jgd ((0 : Int) ≤ (w32 (v2 + (w32 (3 * v3)))) ∧ (w32 (v2 + (w32 (3 * v3)))) < 210) <|
      jlw (st w 79 (w32 (v2 + (w32 (3 * v3)))).toNat ((w 47 v3.toNat))) fun u2 =>
      jgd ((0 : Int) ≤ v3 ∧ v3 < 10) <|
      jgd ((0 : Int) ≤ (w32 ((w32 (v2 + (w32 (3 * v3)))) + 1)) ∧ (w32 ((w32 (v2 + (w32 (3 * v3)))) + 1)) < 210) <|
      jlw (st u2 79 (w32 ((w32 (v2 + (w32 (3 * v3)))) + 1)).toNat ((u2 48 v3.toNat))) fun u3 =>
      jgd ((0 : Int) ≤ v3 ∧ v3 < 10) <|
      jgd ((0 : Int) ≤ (w32 ((w32 (v2 + (w32 (3 * v3)))) + 2)) ∧ (w32 ((w32 (v2 + (w32 (3 * v3)))) + 2)) < 210) <|
      jlw (st u3 79 (w32 ((w32 (v2 + (w32 (3 * v3)))) + 2)).toNat ((u3 49 v3.toNat))) fun u4 =>
      jlet (w32 (v3 + 1)) fun x5 =>
      f_R_lay_43_79_2 n v2 x5 u4
theorem t_R_lay_43_79_2 {X : jX} {Qf : Int × Wd → State → Prop} {ad : Nat → Nat} (C : Cx X prog_14_method_41_code "EachBringsAnotherModel") (hn : xn X = 4) (hR : xR X = rmD 1) (hr : Rt X Qf ad prog_14_method_41_code 9) : ∀ (n : Nat) (v2 v3 : Int) (w : Wd), VF X Qf ad NF 0 0 w 2 [(0, (2, 44)), (1, (2, 80)), (2, (0, v2)), (3, (0, v3))] [] (f_R_lay_43_79_2 n v2 v3 w) := by
  intro n
  induction n with
  | zero => intros; exact vf_no
  | succ n ih =>
    intro v2 v3 w
    rw [f_R_lay_43_79_2]
    refine vf_iload_n C (f := 3) (zdg dz_R_lay_0 2 rfl) 3 rfl rfl ?_
    refine vf_bipush C (z := 10) (zdg dz_R_lay_0 3 rfl) (by decide +kernel) (jz rfl) ?_
    refine vf_icmp_ge C (off := 52) (tgt := 57) (zdg dz_R_lay_0 4 rfl) (by decide) ?_ ?_
    · refine vf_aload_n C (f := 1) (zdg dz_R_lay_1 20 rfl) 1 rfl rfl ?_
      refine vf_iload_n C (f := 2) (zdg dz_R_lay_1 21 rfl) 2 rfl rfl ?_
      refine vf_bipush C (z := 30) (zdg dz_R_lay_1 22 rfl) (by decide +kernel) (jz rfl) ?_
      refine vf_iadd C (zdg dz_R_lay_1 23 rfl) ?_
      refine vf_aload_n C (f := 0) (zdg dz_R_lay_2 0 rfl) 0 rfl rfl ?_
      refine vf_get C (kd := 0) fl_R_270 sh_43 rfl (by decide) rfl rfl (zdg dz_R_lay_2 1 rfl) ?_
      refine vf_iast C sh_79 (by decide) rfl (mz := 210) rfl (zdg dz_R_lay_2 2 rfl) ?_
      generalize st w 79 (w32 (v2 + 30)).toNat ((w 43 7)) = u1
      refine vf_uw ?_
      exact hr _ _ _ _ (fun h => absurd h (by decide)) (zdg dz_R_lay_2 3 rfl)
    · refine vf_aload_n C (f := 1) (zdg dz_R_lay_0 5 rfl) 1 rfl rfl ?_
      refine vf_iload_n C (f := 2) (zdg dz_R_lay_0 6 rfl) 2 rfl rfl ?_
      refine vf_iconst C (z := 3) (zdg dz_R_lay_0 7 rfl) (jz rfl) ?_
      refine vf_iload_n C (f := 3) (zdg dz_R_lay_0 8 rfl) 3 rfl rfl ?_
      refine vf_imul C (zdg dz_R_lay_0 9 rfl) ?_
      refine vf_iadd C (zdg dz_R_lay_0 10 rfl) ?_
      refine vf_aload_n C (f := 0) (zdg dz_R_lay_0 11 rfl) 0 rfl rfl ?_
      refine vf_getp C fl_R_20 sh_43 rfl (by decide) rfl (x := 48) rfl (zdg dz_R_lay_0 12 rfl) ?_
      refine vf_iload_n C (f := 3) (zdg dz_R_lay_0 13 rfl) 3 rfl rfl ?_
      refine vf_iald C sh_47 (by decide) rfl (mz := 10) rfl (zdg dz_R_lay_0 14 rfl) ?_
      refine vf_iast C sh_79 (by decide) rfl (mz := 210) rfl (zdg dz_R_lay_0 15 rfl) ?_
      generalize st w 79 (w32 (v2 + (w32 (3 * v3)))).toNat ((w 47 v3.toNat)) = u2
      refine vf_uw ?_
      refine vf_aload_n C (f := 1) (zdg dz_R_lay_0 16 rfl) 1 rfl rfl ?_
      refine vf_iload_n C (f := 2) (zdg dz_R_lay_0 17 rfl) 2 rfl rfl ?_
      refine vf_iconst C (z := 3) (zdg dz_R_lay_0 18 rfl) (jz rfl) ?_
      refine vf_iload_n C (f := 3) (zdg dz_R_lay_0 19 rfl) 3 rfl rfl ?_
      refine vf_imul C (zdg dz_R_lay_0 20 rfl) ?_
      refine vf_iadd C (zdg dz_R_lay_0 21 rfl) ?_
      refine vf_iconst C (z := 1) (zdg dz_R_lay_0 22 rfl) (jz rfl) ?_
      refine vf_iadd C (zdg dz_R_lay_0 23 rfl) ?_
      refine vf_aload_n C (f := 0) (zdg dz_R_lay_1 0 rfl) 0 rfl rfl ?_
      refine vf_getp C fl_R_23 sh_43 rfl (by decide) rfl (x := 49) rfl (zdg dz_R_lay_1 1 rfl) ?_
      refine vf_iload_n C (f := 3) (zdg dz_R_lay_1 2 rfl) 3 rfl rfl ?_
      refine vf_iald C sh_48 (by decide) rfl (mz := 10) rfl (zdg dz_R_lay_1 3 rfl) ?_
      refine vf_iast C sh_79 (by decide) rfl (mz := 210) rfl (zdg dz_R_lay_1 4 rfl) ?_
      generalize st u2 79 (w32 ((w32 (v2 + (w32 (3 * v3)))) + 1)).toNat ((u2 48 v3.toNat)) = u3
      refine vf_uw ?_
      refine vf_aload_n C (f := 1) (zdg dz_R_lay_1 5 rfl) 1 rfl rfl ?_
      refine vf_iload_n C (f := 2) (zdg dz_R_lay_1 6 rfl) 2 rfl rfl ?_
      refine vf_iconst C (z := 3) (zdg dz_R_lay_1 7 rfl) (jz rfl) ?_
      refine vf_iload_n C (f := 3) (zdg dz_R_lay_1 8 rfl) 3 rfl rfl ?_
      refine vf_imul C (zdg dz_R_lay_1 9 rfl) ?_
      refine vf_iadd C (zdg dz_R_lay_1 10 rfl) ?_
      refine vf_iconst C (z := 2) (zdg dz_R_lay_1 11 rfl) (jz rfl) ?_
      refine vf_iadd C (zdg dz_R_lay_1 12 rfl) ?_
      refine vf_aload_n C (f := 0) (zdg dz_R_lay_1 13 rfl) 0 rfl rfl ?_
      refine vf_getp C fl_R_26 sh_43 rfl (by decide) rfl (x := 50) rfl (zdg dz_R_lay_1 14 rfl) ?_
      refine vf_iload_n C (f := 3) (zdg dz_R_lay_1 15 rfl) 3 rfl rfl ?_
      refine vf_iald C sh_49 (by decide) rfl (mz := 10) rfl (zdg dz_R_lay_1 16 rfl) ?_
      refine vf_iast C sh_79 (by decide) rfl (mz := 210) rfl (zdg dz_R_lay_1 17 rfl) ?_
      generalize st u3 79 (w32 ((w32 (v2 + (w32 (3 * v3)))) + 2)).toNat ((u3 49 v3.toNat)) = u4
      refine vf_uw ?_
      refine vf_iinc C (z := 1) (L' := [(0, (2, 44)), (1, (2, 80)), (2, (0, v2))]) (zdg dz_R_lay_1 18 rfl) 3 rfl [0, 1, 2] (jrI rfl rfl) hn (by decide) ?_
      generalize w32 (v3 + 1) = x5
      refine vf_ul ?_
      refine vf_goto C (off := (-52)) (tgt := 2) (zdg dz_R_lay_1 19 rfl) (by decide) ?_
      exact vf_perm [1, 2, 3, 0] rfl (ih _ _ _)
def f_R_lay_43_79 (v2 : Int) (w : Wd) : Option (Int × Wd) :=
  f_R_lay_43_79_2 FU v2 0 w
theorem ct_R_lay_43_79 (v2 : Int) (w : Wd) : Ct y_R_lay prog_14_method_41_code 4 none 1 9 [(2, 44), (2, 80), (0, v2)] w (f_R_lay_43_79 v2 w) := by
  refine ct_of (by decide +kernel) (Or.inr (Or.inr (Or.inr ⟨rfl, rfl⟩))) (Nat.le_of_ble_eq_true rfl) ?_
  intro X Qf ad C hn hR hr
  unfold f_R_lay_43_79
  show VF X Qf ad NF 0 0 w 0 [(0, (2, 44)), (1, (2, 80)), (2, (0, v2))] [] _
  refine vf_iconst C (z := 0) (zdg dz_R_lay_0 0 rfl) (jz rfl) ?_
  refine vf_istore_n C (f := 3) (L' := [(0, (2, 44)), (1, (2, 80)), (2, (0, v2))]) (zdg dz_R_lay_0 1 rfl) [0, 1, 2] (jrI rfl rfl) hn (by decide) rfl ?_
  exact vf_perm [1, 2, 3, 0] rfl (t_R_lay_43_79_2 C hn hR hr FU _ _ _)
def f_R_keep_125 : Nat → Int → Int → Wd → Option (Int × Wd)
  | 0, _, _, _ => none
  | n + 1, v2, v3, w =>
    if (60 : Int) < v3 then
      some (1, w)
    else
      jgd ((0 : Int) ≤ v3 ∧ v3 < 61) <|
      jgd ((0 : Int) ≤ (w32 ((w32 (v2 + 3)) + v3)) ∧ (w32 ((w32 (v2 + 3)) + v3)) < 210) <|
      jlw (st w 79 (w32 ((w32 (v2 + 3)) + v3)).toNat ((w 50 v3.toNat))) fun u14 =>
      jlet (w32 (v3 + 1)) fun x15 =>
      f_R_keep_125 n v2 x15 u14
theorem t_R_keep_125 {X : jX} {Qf : Int × Wd → State → Prop} {ad : Nat → Nat} (C : Cx X prog_14_method_102_code "EachBringsAnotherModel") (hn : xn X = 4) (hR : xR X = rmD 2) (hr : Rt X Qf ad prog_14_method_102_code 4) : ∀ (n : Nat) (v2 v3 : Int) (w : Wd), VF X Qf ad NF 0 0 w 125 [(0, (2, 44)), (2, (0, v2)), (3, (0, v3))] [] (f_R_keep_125 n v2 v3 w) := by
  intro n
  induction n with
  | zero => intros; exact vf_no
  | succ n ih =>
    intro v2 v3 w
    rw [f_R_keep_125]
    refine vf_iload_n C (f := 3) (zdg dz_R_keep_3 5 rfl) 2 rfl rfl ?_
    refine vf_bipush C (z := 60) (zdg dz_R_keep_3 6 rfl) (by decide +kernel) (jz rfl) ?_
    refine vf_icmp_gt C (off := 25) (tgt := 153) (zdg dz_R_keep_3 7 rfl) (by decide) ?_ ?_
    · refine vf_iconst C (z := 1) (zdg dz_R_keep_3 22 rfl) (jz rfl) ?_
      exact hr _ _ _ _ (fun _ => Or.inr rfl) (zdg dz_R_keep_3 23 rfl)
    · refine vf_aload_n C (f := 0) (zdg dz_R_keep_3 8 rfl) 0 rfl rfl ?_
      refine vf_getp C fl_R_129 sh_43 rfl (by decide) rfl (x := 80) rfl (zdg dz_R_keep_3 9 rfl) ?_
      refine vf_iload_n C (f := 2) (zdg dz_R_keep_3 10 rfl) 1 rfl rfl ?_
      refine vf_iconst C (z := 3) (zdg dz_R_keep_3 11 rfl) (jz rfl) ?_
      refine vf_iadd C (zdg dz_R_keep_3 12 rfl) ?_
      refine vf_iload_n C (f := 3) (zdg dz_R_keep_3 13 rfl) 2 rfl rfl ?_
      refine vf_iadd C (zdg dz_R_keep_3 14 rfl) ?_
      refine vf_aload_n C (f := 0) (zdg dz_R_keep_3 15 rfl) 0 rfl rfl ?_
      refine vf_getp C fl_R_29 sh_43 rfl (by decide) rfl (x := 51) rfl (zdg dz_R_keep_3 16 rfl) ?_
      refine vf_iload_n C (f := 3) (zdg dz_R_keep_3 17 rfl) 2 rfl rfl ?_
      refine vf_iald C sh_50 (by decide) rfl (mz := 61) rfl (zdg dz_R_keep_3 18 rfl) ?_
      refine vf_iast C sh_79 (by decide) rfl (mz := 210) rfl (zdg dz_R_keep_3 19 rfl) ?_
      generalize st w 79 (w32 ((w32 (v2 + 3)) + v3)).toNat ((w 50 v3.toNat)) = u14
      refine vf_uw ?_
      refine vf_iinc C (z := 1) (L' := [(0, (2, 44)), (2, (0, v2))]) (zdg dz_R_keep_3 20 rfl) 2 rfl [0, 1] (jrI rfl rfl) hn (by decide) ?_
      generalize w32 (v3 + 1) = x15
      refine vf_ul ?_
      refine vf_goto C (off := (-25)) (tgt := 125) (zdg dz_R_keep_3 21 rfl) (by decide) ?_
      exact vf_perm [1, 2, 0] rfl (ih _ _ _)
def f_R_keep_79 (k52 : Int → Int → Wd → Option (Int × Wd)) (v2 v3 s1 s2 : Int) (w : Wd) : Option (Int × Wd) :=
  jgd ((0 : Int) ≤ s1 ∧ s1 < 210) <|
  jlw (st w 79 s1.toNat s2) fun u16 =>
  jlet (w32 (v3 + 1)) fun x17 =>
  k52 v2 x17 u16
theorem t_R_keep_79 {X : jX} {Qf : Int × Wd → State → Prop} {ad : Nat → Nat} (C : Cx X prog_14_method_102_code "EachBringsAnotherModel") (hn : xn X = 4) (hR : xR X = rmD 2) (hr : Rt X Qf ad prog_14_method_102_code 4) {k52 : Int → Int → Wd → Option (Int × Wd)} (hk52 : ∀ (v2 v3 : Int) (w : Wd), VF X Qf ad NF 0 0 w 52 [(0, (2, 44)), (2, (0, v2)), (3, (0, v3))] [] (k52 v2 v3 w)) (v2 v3 s1 s2 : Int) (w : Wd) : VF X Qf ad NF 0 0 w 79 [(0, (2, 44)), (2, (0, v2)), (3, (0, v3))] [(0, s2), (0, s1), (2, 80)] (f_R_keep_79 k52 v2 v3 s1 s2 w) := by
  unfold f_R_keep_79
  refine vf_iast C sh_79 (by decide) rfl (mz := 210) rfl (zdg dz_R_keep_2 1 rfl) ?_
  generalize st w 79 s1.toNat s2 = u16
  refine vf_uw ?_
  refine vf_iinc C (z := 1) (L' := [(0, (2, 44)), (2, (0, v2))]) (zdg dz_R_keep_2 2 rfl) 2 rfl [0, 1] (jrI rfl rfl) hn (by decide) ?_
  generalize w32 (v3 + 1) = x17
  refine vf_ul ?_
  refine vf_goto C (off := (-31)) (tgt := 52) (zdg dz_R_keep_2 3 rfl) (by decide) ?_
  exact vf_perm [1, 2, 0] rfl (hk52 _ _ _)
def f_R_keep_52 : Nat → Int → Int → Wd → Option (Int × Wd)
  | 0, _, _, _ => none
  | n + 1, v2, v3, w =>
    if (10 : Int) ≤ v3 then
      jlet (w32 (v2 + 10)) fun x10 =>
      jgd ((0 : Int) ≤ x10 ∧ x10 < 210) <|
      jlw (st w 79 x10.toNat ((w 43 10))) fun u11 =>
      jgd ((0 : Int) ≤ (w32 (x10 + 1)) ∧ (w32 (x10 + 1)) < 210) <|
      jlw (st u11 79 (w32 (x10 + 1)).toNat ((u11 43 11))) fun u12 =>
      jgd ((0 : Int) ≤ (w32 (x10 + 2)) ∧ (w32 (x10 + 2)) < 210) <|
      jlw (st u12 79 (w32 (x10 + 2)).toNat ((u12 43 8))) fun u13 =>
      f_R_keep_125 FU x10 0 u13
    else
      jgd ((0 : Int) ≤ v3 ∧ v3 < 10) <|
      if (w 46 v3.toNat) = 0 then
        f_R_keep_79 (f_R_keep_52 n) v2 v3 (w32 (v2 + v3)) 0 w
      else
        f_R_keep_79 (f_R_keep_52 n) v2 v3 (w32 (v2 + v3)) 1 w
theorem t_R_keep_52 {X : jX} {Qf : Int × Wd → State → Prop} {ad : Nat → Nat} (C : Cx X prog_14_method_102_code "EachBringsAnotherModel") (hn : xn X = 4) (hR : xR X = rmD 2) (hr : Rt X Qf ad prog_14_method_102_code 4) : ∀ (n : Nat) (v2 v3 : Int) (w : Wd), VF X Qf ad NF 0 0 w 52 [(0, (2, 44)), (2, (0, v2)), (3, (0, v3))] [] (f_R_keep_52 n v2 v3 w) := by
  intro n
  induction n with
  | zero => intros; exact vf_no
  | succ n ih =>
    intro v2 v3 w
    rw [f_R_keep_52]
    refine vf_iload_n C (f := 3) (zdg dz_R_keep_1 9 rfl) 2 rfl rfl ?_
    refine vf_bipush C (z := 10) (zdg dz_R_keep_1 10 rfl) (by decide +kernel) (jz rfl) ?_
    refine vf_icmp_ge C (off := 31) (tgt := 86) (zdg dz_R_keep_1 11 rfl) (by decide) ?_ ?_
    · refine vf_iinc C (z := 10) (L' := [(0, (2, 44))]) (zdg dz_R_keep_2 4 rfl) 1 rfl [0] (jrI rfl rfl) hn (by decide) ?_
      generalize w32 (v2 + 10) = x10
      refine vf_ul ?_
      refine vf_aload_n C (f := 0) (zdg dz_R_keep_2 5 rfl) 1 rfl rfl ?_
      refine vf_getp C fl_R_129 sh_43 rfl (by decide) rfl (x := 80) rfl (zdg dz_R_keep_2 6 rfl) ?_
      refine vf_iload_n C (f := 2) (zdg dz_R_keep_2 7 rfl) 0 rfl rfl ?_
      refine vf_aload_n C (f := 0) (zdg dz_R_keep_2 8 rfl) 1 rfl rfl ?_
      refine vf_get C (kd := 0) fl_R_32 sh_43 rfl (by decide) rfl rfl (zdg dz_R_keep_2 9 rfl) ?_
      refine vf_iast C sh_79 (by decide) rfl (mz := 210) rfl (zdg dz_R_keep_2 10 rfl) ?_
      generalize st w 79 x10.toNat ((w 43 10)) = u11
      refine vf_uw ?_
      refine vf_aload_n C (f := 0) (zdg dz_R_keep_2 11 rfl) 1 rfl rfl ?_
      refine vf_getp C fl_R_129 sh_43 rfl (by decide) rfl (x := 80) rfl (zdg dz_R_keep_2 12 rfl) ?_
      refine vf_iload_n C (f := 2) (zdg dz_R_keep_2 13 rfl) 0 rfl rfl ?_
      refine vf_iconst C (z := 1) (zdg dz_R_keep_2 14 rfl) (jz rfl) ?_
      refine vf_iadd C (zdg dz_R_keep_2 15 rfl) ?_
      refine vf_aload_n C (f := 0) (zdg dz_R_keep_2 16 rfl) 1 rfl rfl ?_
      refine vf_get C (kd := 0) fl_R_36 sh_43 rfl (by decide) rfl rfl (zdg dz_R_keep_2 17 rfl) ?_
      refine vf_iast C sh_79 (by decide) rfl (mz := 210) rfl (zdg dz_R_keep_2 18 rfl) ?_
      generalize st u11 79 (w32 (x10 + 1)).toNat ((u11 43 11)) = u12
      refine vf_uw ?_
      refine vf_aload_n C (f := 0) (zdg dz_R_keep_2 19 rfl) 1 rfl rfl ?_
      refine vf_getp C fl_R_129 sh_43 rfl (by decide) rfl (x := 80) rfl (zdg dz_R_keep_2 20 rfl) ?_
      refine vf_iload_n C (f := 2) (zdg dz_R_keep_2 21 rfl) 0 rfl rfl ?_
      refine vf_iconst C (z := 2) (zdg dz_R_keep_2 22 rfl) (jz rfl) ?_
      refine vf_iadd C (zdg dz_R_keep_2 23 rfl) ?_
      refine vf_aload_n C (f := 0) (zdg dz_R_keep_3 0 rfl) 1 rfl rfl ?_
      refine vf_get C (kd := 0) fl_R_214 sh_43 rfl (by decide) rfl rfl (zdg dz_R_keep_3 1 rfl) ?_
      refine vf_iast C sh_79 (by decide) rfl (mz := 210) rfl (zdg dz_R_keep_3 2 rfl) ?_
      generalize st u12 79 (w32 (x10 + 2)).toNat ((u12 43 8)) = u13
      refine vf_uw ?_
      refine vf_iconst C (z := 0) (zdg dz_R_keep_3 3 rfl) (jz rfl) ?_
      refine vf_istore_n C (f := 3) (L' := [(2, (0, x10)), (0, (2, 44))]) (zdg dz_R_keep_3 4 rfl) [0, 1] (jrI rfl rfl) hn (by decide) rfl ?_
      exact vf_perm [2, 1, 0] rfl (t_R_keep_125 C hn hR hr FU _ _ _)
    · refine vf_aload_n C (f := 0) (zdg dz_R_keep_1 12 rfl) 0 rfl rfl ?_
      refine vf_getp C fl_R_129 sh_43 rfl (by decide) rfl (x := 80) rfl (zdg dz_R_keep_1 13 rfl) ?_
      refine vf_iload_n C (f := 2) (zdg dz_R_keep_1 14 rfl) 1 rfl rfl ?_
      refine vf_iload_n C (f := 3) (zdg dz_R_keep_1 15 rfl) 2 rfl rfl ?_
      refine vf_iadd C (zdg dz_R_keep_1 16 rfl) ?_
      refine vf_aload_n C (f := 0) (zdg dz_R_keep_1 17 rfl) 0 rfl rfl ?_
      refine vf_getp C fl_R_16 sh_43 rfl (by decide) rfl (x := 47) rfl (zdg dz_R_keep_1 18 rfl) ?_
      refine vf_iload_n C (f := 3) (zdg dz_R_keep_1 19 rfl) 2 rfl rfl ?_
      refine vf_zald C sh_46 (by decide) rfl (mz := 10) rfl (zdg dz_R_keep_1 20 rfl) ?_
      refine vf_if_eq C (off := 7) (tgt := 78) (zdg dz_R_keep_1 21 rfl) (by decide) ?_ ?_
      · refine vf_iconst C (z := 0) (zdg dz_R_keep_2 0 rfl) (jz rfl) ?_
        exact t_R_keep_79 C hn hR hr ih _ _ _ _ _
      · refine vf_iconst C (z := 1) (zdg dz_R_keep_1 22 rfl) (jz rfl) ?_
        refine vf_goto C (off := 4) (tgt := 79) (zdg dz_R_keep_1 23 rfl) (by decide) ?_
        exact t_R_keep_79 C hn hR hr ih _ _ _ _ _
def f_R_keep (v1 : Int) (w : Wd) : Option (Int × Wd) :=
  jlw (st w 43 16 0) fun u1 =>
  jcall (f_R_in v1 0 1 u1) fun r2 u3 =>
  if r2 = 0 then
    some (0, u3)
  else
    jgd ((0 : Int) ≤ v1 ∧ v1 < 2) <|
    jlw (st u3 80 v1.toNat (nz 1)) fun u4 =>
    jgd ((0 : Int) ≤ v1 ∧ v1 < 2) <|
    jlw (st u4 81 v1.toNat ((u4 43 56))) fun u5 =>
    jlet (w32 (105 * v1)) fun x6 =>
    jcall (f_R_lay_43_79 x6 u5) fun r7 u8 =>
    jlet (w32 (x6 + 31)) fun x9 =>
    f_R_keep_52 FU x9 0 u8
theorem ct_R_keep (v1 : Int) (w : Wd) : Ct y_R_keep prog_14_method_102_code 4 (some .boolean) 2 4 [(2, 44), (0, v1)] w (f_R_keep v1 w) := by
  refine ct_of (by decide +kernel) (Or.inr (Or.inr (Or.inl ⟨rfl, rfl⟩))) (Nat.le_of_ble_eq_true rfl) ?_
  intro X Qf ad C hn hR hr
  unfold f_R_keep
  show VF X Qf ad NF 0 0 w 0 [(0, (2, 44)), (1, (0, v1))] [] _
  refine vf_aload_n C (f := 0) (zdg dz_R_keep_0 0 rfl) 0 rfl rfl ?_
  refine vf_iconst C (z := 0) (zdg dz_R_keep_0 1 rfl) (jz rfl) ?_
  refine vf_put C (kd := 0) fl_R_138 fk_11_16 sh_43 rfl (by decide) rfl rfl (by decide) (zdg dz_R_keep_0 2 rfl) ?_
  generalize st w 43 16 0 = u1
  refine vf_uw ?_
  refine vf_iload_n C (f := 1) (zdg dz_R_keep_0 3 rfl) 1 rfl rfl ?_
  refine vf_iconst C (z := 0) (zdg dz_R_keep_0 4 rfl) (jz rfl) ?_
  refine vf_iconst C (z := 1) (zdg dz_R_keep_0 5 rfl) (jz rfl) ?_
  refine vf_callSz C cy_R_in ml_R_147 (ct_R_in _ _ _ _) (S := []) (jrm_of hR rfl) rfl rfl (Nat.le_of_ble_eq_true rfl) (zdg dz_R_keep_0 6 rfl) (fun r2 u3 => ?_)
  refine vf_if_ne C (off := 5) (tgt := 16) (zdg dz_R_keep_0 7 rfl) (by decide) ?_ ?_
  · refine vf_aload_n C (f := 0) (zdg dz_R_keep_0 10 rfl) 0 rfl rfl ?_
    refine vf_getp C fl_R_132 sh_43 rfl (by decide) rfl (x := 81) rfl (zdg dz_R_keep_0 11 rfl) ?_
    refine vf_iload_n C (f := 1) (zdg dz_R_keep_0 12 rfl) 1 rfl rfl ?_
    refine vf_iconst C (z := 1) (zdg dz_R_keep_0 13 rfl) (jz rfl) ?_
    refine vf_zast C sh_80 (by decide) rfl (mz := 2) rfl (zdg dz_R_keep_0 14 rfl) ?_
    generalize st u3 80 v1.toNat (nz 1) = u4
    refine vf_uw ?_
    refine vf_aload_n C (f := 0) (zdg dz_R_keep_0 15 rfl) 0 rfl rfl ?_
    refine vf_getp C fl_R_135 sh_43 rfl (by decide) rfl (x := 82) rfl (zdg dz_R_keep_0 16 rfl) ?_
    refine vf_iload_n C (f := 1) (zdg dz_R_keep_0 17 rfl) 1 rfl rfl ?_
    refine vf_aload_n C (f := 0) (zdg dz_R_keep_0 18 rfl) 0 rfl rfl ?_
    refine vf_get C (kd := 0) fl_R_223 sh_43 rfl (by decide) rfl rfl (zdg dz_R_keep_0 19 rfl) ?_
    refine vf_iast C sh_81 (by decide) rfl (mz := 2) rfl (zdg dz_R_keep_0 20 rfl) ?_
    generalize st u4 81 v1.toNat ((u4 43 56)) = u5
    refine vf_uw ?_
    refine vf_bipush C (z := 105) (zdg dz_R_keep_0 21 rfl) (by decide +kernel) (jz rfl) ?_
    refine vf_iload_n C (f := 1) (zdg dz_R_keep_0 22 rfl) 1 rfl rfl ?_
    refine vf_imul C (zdg dz_R_keep_0 23 rfl) ?_
    generalize w32 (105 * v1) = x6
    refine vf_ul ?_
    refine vf_istore_n C (f := 2) (L' := [(0, (2, 44))]) (zdg dz_R_keep_1 0 rfl) [0] (jrI rfl rfl) hn (by decide) rfl ?_
    refine vf_aload_n C (f := 0) (zdg dz_R_keep_1 1 rfl) 1 rfl rfl ?_
    refine vf_aload_n C (f := 0) (zdg dz_R_keep_1 2 rfl) 1 rfl rfl ?_
    refine vf_getp C fl_R_129 sh_43 rfl (by decide) rfl (x := 80) rfl (zdg dz_R_keep_1 3 rfl) ?_
    refine vf_iload_n C (f := 2) (zdg dz_R_keep_1 4 rfl) 0 rfl rfl ?_
    refine vf_callVv C cy_R_lay ml_R_273 rfl (ct_R_lay_43_79 _ _) (S := []) sh_43 (by decide) rfl (jrm_of hR rfl) rfl rfl (Nat.le_of_ble_eq_true rfl) (zdg dz_R_keep_1 5 rfl) (fun r7 u8 => ?_)
    refine vf_iinc C (z := 31) (L' := [(0, (2, 44))]) (zdg dz_R_keep_1 6 rfl) 0 rfl [1] (jrI rfl rfl) hn (by decide) ?_
    generalize w32 (x6 + 31) = x9
    refine vf_ul ?_
    refine vf_iconst C (z := 0) (zdg dz_R_keep_1 7 rfl) (jz rfl) ?_
    refine vf_istore_n C (f := 3) (L' := [(2, (0, x9)), (0, (2, 44))]) (zdg dz_R_keep_1 8 rfl) [0, 1] (jrI rfl rfl) hn (by decide) rfl ?_
    exact vf_perm [2, 1, 0] rfl (t_R_keep_52 C hn hR hr FU _ _ _)
  · refine vf_iconst C (z := 0) (zdg dz_R_keep_0 8 rfl) (jz rfl) ?_
    exact hr _ _ _ _ (fun _ => Or.inl rfl) (zdg dz_R_keep_0 9 rfl)
def f_R_bring_43_79_2 : Nat → Int → Int → Wd → Option (Int × Wd)
  | 0, _, _, _ => none
  | n + 1, v2, v3, w =>
    if (w 43 0) ≤ v3 then
      jgd ((0 : Int) ≤ (w32 (v2 + 30)) ∧ (w32 (v2 + 30)) < 210) <|
      jlw (st w 43 7 (w 79 (w32 (v2 + 30)).toNat)) fun u1 =>
      some (0, u1)
    else
      jgd ((0 : Int) ≤ (w32 (v2 + (w32 (3 * v3)))) ∧ (w32 (v2 + (w32 (3 * v3)))) < 210) <|
      jgd ((0 : Int) ≤ v3 ∧ v3 < 10) <|
      jlw (st w 47 v3.toNat ((w 79 (w32 (v2 + (w32 (3 * v3)))).toNat))) fun u2 =>
      jgd ((0 : Int) ≤ (w32 ((w32 (v2 + (w32 (3 * v3)))) + 1)) ∧ (w32 ((w32 (v2 + (w32 (3 * v3)))) + 1)) < 210) <|
      jgd ((0 : Int) ≤ v3 ∧ v3 < 10) <|
      jlw (st u2 48 v3.toNat ((u2 79 (w32 ((w32 (v2 + (w32 (3 * v3)))) + 1)).toNat))) fun u3 =>
      jgd ((0 : Int) ≤ (w32 ((w32 (v2 + (w32 (3 * v3)))) + 2)) ∧ (w32 ((w32 (v2 + (w32 (3 * v3)))) + 2)) < 210) <|
      jgd ((0 : Int) ≤ v3 ∧ v3 < 10) <|
      jlw (st u3 49 v3.toNat ((u3 79 (w32 ((w32 (v2 + (w32 (3 * v3)))) + 2)).toNat))) fun u4 =>
      jlet (w32 (v3 + 1)) fun x5 =>
      f_R_bring_43_79_2 n v2 x5 u4
theorem t_R_bring_43_79_2 {X : jX} {Qf : Int × Wd → State → Prop} {ad : Nat → Nat} (C : Cx X prog_14_method_42_code "EachBringsAnotherModel") (hn : xn X = 4) (hR : xR X = rmD 1) (hr : Rt X Qf ad prog_14_method_42_code 9) : ∀ (n : Nat) (v2 v3 : Int) (w : Wd), VF X Qf ad NF 0 0 w 2 [(0, (2, 44)), (1, (2, 80)), (2, (0, v2)), (3, (0, v3))] [] (f_R_bring_43_79_2 n v2 v3 w) := by
  intro n
  induction n with
  | zero => intros; exact vf_no
  | succ n ih =>
    intro v2 v3 w
    rw [f_R_bring_43_79_2]
    refine vf_iload_n C (f := 3) (zdg dz_R_bring_0 2 rfl) 3 rfl rfl ?_
    refine vf_aload_n C (f := 0) (zdg dz_R_bring_0 3 rfl) 0 rfl rfl ?_
    refine vf_get C (kd := 0) fl_R_144 sh_43 rfl (by decide) rfl rfl (zdg dz_R_bring_0 4 rfl) ?_
    refine vf_icmp_ge C (off := 52) (tgt := 59) (zdg dz_R_bring_0 5 rfl) (by decide) ?_ ?_
    · refine vf_aload_n C (f := 0) (zdg dz_R_bring_1 21 rfl) 0 rfl rfl ?_
      refine vf_aload_n C (f := 1) (zdg dz_R_bring_1 22 rfl) 1 rfl rfl ?_
      refine vf_iload_n C (f := 2) (zdg dz_R_bring_1 23 rfl) 2 rfl rfl ?_
      refine vf_bipush C (z := 30) (zdg dz_R_bring_2 0 rfl) (by decide +kernel) (jz rfl) ?_
      refine vf_iadd C (zdg dz_R_bring_2 1 rfl) ?_
      refine vf_iald C sh_79 (by decide) rfl (mz := 210) rfl (zdg dz_R_bring_2 2 rfl) ?_
      refine vf_put C (kd := 0) fl_R_270 fk_11_7 sh_43 rfl (by decide) rfl rfl (by decide) (zdg dz_R_bring_2 3 rfl) ?_
      generalize st w 43 7 (w 79 (w32 (v2 + 30)).toNat) = u1
      refine vf_uw ?_
      exact hr _ _ _ _ (fun h => absurd h (by decide)) (zdg dz_R_bring_2 4 rfl)
    · refine vf_aload_n C (f := 0) (zdg dz_R_bring_0 6 rfl) 0 rfl rfl ?_
      refine vf_getp C fl_R_20 sh_43 rfl (by decide) rfl (x := 48) rfl (zdg dz_R_bring_0 7 rfl) ?_
      refine vf_iload_n C (f := 3) (zdg dz_R_bring_0 8 rfl) 3 rfl rfl ?_
      refine vf_aload_n C (f := 1) (zdg dz_R_bring_0 9 rfl) 1 rfl rfl ?_
      refine vf_iload_n C (f := 2) (zdg dz_R_bring_0 10 rfl) 2 rfl rfl ?_
      refine vf_iconst C (z := 3) (zdg dz_R_bring_0 11 rfl) (jz rfl) ?_
      refine vf_iload_n C (f := 3) (zdg dz_R_bring_0 12 rfl) 3 rfl rfl ?_
      refine vf_imul C (zdg dz_R_bring_0 13 rfl) ?_
      refine vf_iadd C (zdg dz_R_bring_0 14 rfl) ?_
      refine vf_iald C sh_79 (by decide) rfl (mz := 210) rfl (zdg dz_R_bring_0 15 rfl) ?_
      refine vf_iast C sh_47 (by decide) rfl (mz := 10) rfl (zdg dz_R_bring_0 16 rfl) ?_
      generalize st w 47 v3.toNat ((w 79 (w32 (v2 + (w32 (3 * v3)))).toNat)) = u2
      refine vf_uw ?_
      refine vf_aload_n C (f := 0) (zdg dz_R_bring_0 17 rfl) 0 rfl rfl ?_
      refine vf_getp C fl_R_23 sh_43 rfl (by decide) rfl (x := 49) rfl (zdg dz_R_bring_0 18 rfl) ?_
      refine vf_iload_n C (f := 3) (zdg dz_R_bring_0 19 rfl) 3 rfl rfl ?_
      refine vf_aload_n C (f := 1) (zdg dz_R_bring_0 20 rfl) 1 rfl rfl ?_
      refine vf_iload_n C (f := 2) (zdg dz_R_bring_0 21 rfl) 2 rfl rfl ?_
      refine vf_iconst C (z := 3) (zdg dz_R_bring_0 22 rfl) (jz rfl) ?_
      refine vf_iload_n C (f := 3) (zdg dz_R_bring_0 23 rfl) 3 rfl rfl ?_
      refine vf_imul C (zdg dz_R_bring_1 0 rfl) ?_
      refine vf_iadd C (zdg dz_R_bring_1 1 rfl) ?_
      refine vf_iconst C (z := 1) (zdg dz_R_bring_1 2 rfl) (jz rfl) ?_
      refine vf_iadd C (zdg dz_R_bring_1 3 rfl) ?_
      refine vf_iald C sh_79 (by decide) rfl (mz := 210) rfl (zdg dz_R_bring_1 4 rfl) ?_
      refine vf_iast C sh_48 (by decide) rfl (mz := 10) rfl (zdg dz_R_bring_1 5 rfl) ?_
      generalize st u2 48 v3.toNat ((u2 79 (w32 ((w32 (v2 + (w32 (3 * v3)))) + 1)).toNat)) = u3
      refine vf_uw ?_
      refine vf_aload_n C (f := 0) (zdg dz_R_bring_1 6 rfl) 0 rfl rfl ?_
      refine vf_getp C fl_R_26 sh_43 rfl (by decide) rfl (x := 50) rfl (zdg dz_R_bring_1 7 rfl) ?_
      refine vf_iload_n C (f := 3) (zdg dz_R_bring_1 8 rfl) 3 rfl rfl ?_
      refine vf_aload_n C (f := 1) (zdg dz_R_bring_1 9 rfl) 1 rfl rfl ?_
      refine vf_iload_n C (f := 2) (zdg dz_R_bring_1 10 rfl) 2 rfl rfl ?_
      refine vf_iconst C (z := 3) (zdg dz_R_bring_1 11 rfl) (jz rfl) ?_
      refine vf_iload_n C (f := 3) (zdg dz_R_bring_1 12 rfl) 3 rfl rfl ?_
      refine vf_imul C (zdg dz_R_bring_1 13 rfl) ?_
      refine vf_iadd C (zdg dz_R_bring_1 14 rfl) ?_
      refine vf_iconst C (z := 2) (zdg dz_R_bring_1 15 rfl) (jz rfl) ?_
      refine vf_iadd C (zdg dz_R_bring_1 16 rfl) ?_
      refine vf_iald C sh_79 (by decide) rfl (mz := 210) rfl (zdg dz_R_bring_1 17 rfl) ?_
      refine vf_iast C sh_49 (by decide) rfl (mz := 10) rfl (zdg dz_R_bring_1 18 rfl) ?_
      generalize st u3 49 v3.toNat ((u3 79 (w32 ((w32 (v2 + (w32 (3 * v3)))) + 2)).toNat)) = u4
      refine vf_uw ?_
      refine vf_iinc C (z := 1) (L' := [(0, (2, 44)), (1, (2, 80)), (2, (0, v2))]) (zdg dz_R_bring_1 19 rfl) 3 rfl [0, 1, 2] (jrI rfl rfl) hn (by decide) ?_
      generalize w32 (v3 + 1) = x5
      refine vf_ul ?_
      refine vf_goto C (off := (-54)) (tgt := 2) (zdg dz_R_bring_1 20 rfl) (by decide) ?_
      exact vf_perm [1, 2, 3, 0] rfl (ih _ _ _)
def f_R_bring_43_79 (v2 : Int) (w : Wd) : Option (Int × Wd) :=
  f_R_bring_43_79_2 FU v2 0 w
theorem ct_R_bring_43_79 (v2 : Int) (w : Wd) : Ct y_R_bring prog_14_method_42_code 4 none 1 9 [(2, 44), (2, 80), (0, v2)] w (f_R_bring_43_79 v2 w) := by
  refine ct_of (by decide +kernel) (Or.inr (Or.inr (Or.inr ⟨rfl, rfl⟩))) (Nat.le_of_ble_eq_true rfl) ?_
  intro X Qf ad C hn hR hr
  unfold f_R_bring_43_79
  show VF X Qf ad NF 0 0 w 0 [(0, (2, 44)), (1, (2, 80)), (2, (0, v2))] [] _
  refine vf_iconst C (z := 0) (zdg dz_R_bring_0 0 rfl) (jz rfl) ?_
  refine vf_istore_n C (f := 3) (L' := [(0, (2, 44)), (1, (2, 80)), (2, (0, v2))]) (zdg dz_R_bring_0 1 rfl) [0, 1, 2] (jrI rfl rfl) hn (by decide) rfl ?_
  exact vf_perm [1, 2, 3, 0] rfl (t_R_bring_43_79_2 C hn hR hr FU _ _ _)
def f_R_again_133 : Nat → Int → Int → Wd → Option (Int × Wd)
  | 0, _, _, _ => none
  | n + 1, v2, v3, w =>
    if (60 : Int) < v3 then
      jlw (st w 43 32 0) fun u12 =>
      some (1, u12)
    else
      jgd ((0 : Int) ≤ (w32 ((w32 (v2 + 3)) + v3)) ∧ (w32 ((w32 (v2 + 3)) + v3)) < 210) <|
      jgd ((0 : Int) ≤ v3 ∧ v3 < 61) <|
      jlw (st w 50 v3.toNat ((w 79 (w32 ((w32 (v2 + 3)) + v3)).toNat))) fun u13 =>
      jlet (w32 (v3 + 1)) fun x14 =>
      f_R_again_133 n v2 x14 u13
theorem t_R_again_133 {X : jX} {Qf : Int × Wd → State → Prop} {ad : Nat → Nat} (C : Cx X prog_14_method_103_code "EachBringsAnotherModel") (hn : xn X = 4) (hR : xR X = rmD 2) (hr : Rt X Qf ad prog_14_method_103_code 4) : ∀ (n : Nat) (v2 v3 : Int) (w : Wd), VF X Qf ad NF 0 0 w 133 [(0, (2, 44)), (2, (0, v2)), (3, (0, v3))] [] (f_R_again_133 n v2 v3 w) := by
  intro n
  induction n with
  | zero => intros; exact vf_no
  | succ n ih =>
    intro v2 v3 w
    rw [f_R_again_133]
    refine vf_iload_n C (f := 3) (zdg dz_R_again_3 8 rfl) 2 rfl rfl ?_
    refine vf_bipush C (z := 60) (zdg dz_R_again_3 9 rfl) (by decide +kernel) (jz rfl) ?_
    refine vf_icmp_gt C (off := 25) (tgt := 161) (zdg dz_R_again_3 10 rfl) (by decide) ?_ ?_
    · refine vf_aload_n C (f := 0) (zdg dz_R_again_4 1 rfl) 0 rfl rfl ?_
      refine vf_iconst C (z := 0) (zdg dz_R_again_4 2 rfl) (jz rfl) ?_
      refine vf_put C (kd := 0) fl_R_220 fk_11_32 sh_43 rfl (by decide) rfl rfl (by decide) (zdg dz_R_again_4 3 rfl) ?_
      generalize st w 43 32 0 = u12
      refine vf_uw ?_
      refine vf_iconst C (z := 1) (zdg dz_R_again_4 4 rfl) (jz rfl) ?_
      exact hr _ _ _ _ (fun _ => Or.inr rfl) (zdg dz_R_again_4 5 rfl)
    · refine vf_aload_n C (f := 0) (zdg dz_R_again_3 11 rfl) 0 rfl rfl ?_
      refine vf_getp C fl_R_29 sh_43 rfl (by decide) rfl (x := 51) rfl (zdg dz_R_again_3 12 rfl) ?_
      refine vf_iload_n C (f := 3) (zdg dz_R_again_3 13 rfl) 2 rfl rfl ?_
      refine vf_aload_n C (f := 0) (zdg dz_R_again_3 14 rfl) 0 rfl rfl ?_
      refine vf_getp C fl_R_129 sh_43 rfl (by decide) rfl (x := 80) rfl (zdg dz_R_again_3 15 rfl) ?_
      refine vf_iload_n C (f := 2) (zdg dz_R_again_3 16 rfl) 1 rfl rfl ?_
      refine vf_iconst C (z := 3) (zdg dz_R_again_3 17 rfl) (jz rfl) ?_
      refine vf_iadd C (zdg dz_R_again_3 18 rfl) ?_
      refine vf_iload_n C (f := 3) (zdg dz_R_again_3 19 rfl) 2 rfl rfl ?_
      refine vf_iadd C (zdg dz_R_again_3 20 rfl) ?_
      refine vf_iald C sh_79 (by decide) rfl (mz := 210) rfl (zdg dz_R_again_3 21 rfl) ?_
      refine vf_iast C sh_50 (by decide) rfl (mz := 61) rfl (zdg dz_R_again_3 22 rfl) ?_
      generalize st w 50 v3.toNat ((w 79 (w32 ((w32 (v2 + 3)) + v3)).toNat)) = u13
      refine vf_uw ?_
      refine vf_iinc C (z := 1) (L' := [(0, (2, 44)), (2, (0, v2))]) (zdg dz_R_again_3 23 rfl) 2 rfl [0, 1] (jrI rfl rfl) hn (by decide) ?_
      generalize w32 (v3 + 1) = x14
      refine vf_ul ?_
      refine vf_goto C (off := (-25)) (tgt := 133) (zdg dz_R_again_4 0 rfl) (by decide) ?_
      exact vf_perm [1, 2, 0] rfl (ih _ _ _)
def f_R_again_87 (k57 : Int → Int → Wd → Option (Int × Wd)) (v2 v3 s1 s2 : Int) (w : Wd) : Option (Int × Wd) :=
  jgd ((0 : Int) ≤ s1 ∧ s1 < 10) <|
  jlw (st w 46 s1.toNat (nz s2)) fun u15 =>
  jlet (w32 (v3 + 1)) fun x16 =>
  k57 v2 x16 u15
theorem t_R_again_87 {X : jX} {Qf : Int × Wd → State → Prop} {ad : Nat → Nat} (C : Cx X prog_14_method_103_code "EachBringsAnotherModel") (hn : xn X = 4) (hR : xR X = rmD 2) (hr : Rt X Qf ad prog_14_method_103_code 4) {k57 : Int → Int → Wd → Option (Int × Wd)} (hk57 : ∀ (v2 v3 : Int) (w : Wd), VF X Qf ad NF 0 0 w 57 [(0, (2, 44)), (2, (0, v2)), (3, (0, v3))] [] (k57 v2 v3 w)) (v2 v3 s1 s2 : Int) (w : Wd) : VF X Qf ad NF 0 0 w 87 [(0, (2, 44)), (2, (0, v2)), (3, (0, v3))] [(0, s2), (0, s1), (2, 47)] (f_R_again_87 k57 v2 v3 s1 s2 w) := by
  unfold f_R_again_87
  refine vf_zast C sh_46 (by decide) rfl (mz := 10) rfl (zdg dz_R_again_2 4 rfl) ?_
  generalize st w 46 s1.toNat (nz s2) = u15
  refine vf_uw ?_
  refine vf_iinc C (z := 1) (L' := [(0, (2, 44)), (2, (0, v2))]) (zdg dz_R_again_2 5 rfl) 2 rfl [0, 1] (jrI rfl rfl) hn (by decide) ?_
  generalize w32 (v3 + 1) = x16
  refine vf_ul ?_
  refine vf_goto C (off := (-34)) (tgt := 57) (zdg dz_R_again_2 6 rfl) (by decide) ?_
  exact vf_perm [1, 2, 0] rfl (hk57 _ _ _)
def f_R_again_57 : Nat → Int → Int → Wd → Option (Int × Wd)
  | 0, _, _, _ => none
  | n + 1, v2, v3, w =>
    if (w 43 0) ≤ v3 then
      jlet (w32 (v2 + 10)) fun x8 =>
      jgd ((0 : Int) ≤ x8 ∧ x8 < 210) <|
      jlw (st w 43 10 (w 79 x8.toNat)) fun u9 =>
      jgd ((0 : Int) ≤ (w32 (x8 + 1)) ∧ (w32 (x8 + 1)) < 210) <|
      jlw (st u9 43 11 (u9 79 (w32 (x8 + 1)).toNat)) fun u10 =>
      jgd ((0 : Int) ≤ (w32 (x8 + 2)) ∧ (w32 (x8 + 2)) < 210) <|
      jlw (st u10 43 8 (u10 79 (w32 (x8 + 2)).toNat)) fun u11 =>
      f_R_again_133 FU x8 0 u11
    else
      jgd ((0 : Int) ≤ (w32 (v2 + v3)) ∧ (w32 (v2 + v3)) < 210) <|
      if (w 79 (w32 (v2 + v3)).toNat) = 1 then
        f_R_again_87 (f_R_again_57 n) v2 v3 v3 1 w
      else
        f_R_again_87 (f_R_again_57 n) v2 v3 v3 0 w
theorem t_R_again_57 {X : jX} {Qf : Int × Wd → State → Prop} {ad : Nat → Nat} (C : Cx X prog_14_method_103_code "EachBringsAnotherModel") (hn : xn X = 4) (hR : xR X = rmD 2) (hr : Rt X Qf ad prog_14_method_103_code 4) : ∀ (n : Nat) (v2 v3 : Int) (w : Wd), VF X Qf ad NF 0 0 w 57 [(0, (2, 44)), (2, (0, v2)), (3, (0, v3))] [] (f_R_again_57 n v2 v3 w) := by
  intro n
  induction n with
  | zero => intros; exact vf_no
  | succ n ih =>
    intro v2 v3 w
    rw [f_R_again_57]
    refine vf_iload_n C (f := 3) (zdg dz_R_again_1 10 rfl) 2 rfl rfl ?_
    refine vf_aload_n C (f := 0) (zdg dz_R_again_1 11 rfl) 0 rfl rfl ?_
    refine vf_get C (kd := 0) fl_R_144 sh_43 rfl (by decide) rfl rfl (zdg dz_R_again_1 12 rfl) ?_
    refine vf_icmp_ge C (off := 32) (tgt := 94) (zdg dz_R_again_1 13 rfl) (by decide) ?_ ?_
    · refine vf_iinc C (z := 10) (L' := [(0, (2, 44))]) (zdg dz_R_again_2 7 rfl) 1 rfl [0] (jrI rfl rfl) hn (by decide) ?_
      generalize w32 (v2 + 10) = x8
      refine vf_ul ?_
      refine vf_aload_n C (f := 0) (zdg dz_R_again_2 8 rfl) 1 rfl rfl ?_
      refine vf_aload_n C (f := 0) (zdg dz_R_again_2 9 rfl) 1 rfl rfl ?_
      refine vf_getp C fl_R_129 sh_43 rfl (by decide) rfl (x := 80) rfl (zdg dz_R_again_2 10 rfl) ?_
      refine vf_iload_n C (f := 2) (zdg dz_R_again_2 11 rfl) 0 rfl rfl ?_
      refine vf_iald C sh_79 (by decide) rfl (mz := 210) rfl (zdg dz_R_again_2 12 rfl) ?_
      refine vf_put C (kd := 0) fl_R_32 fk_11_10 sh_43 rfl (by decide) rfl rfl (by decide) (zdg dz_R_again_2 13 rfl) ?_
      generalize st w 43 10 (w 79 x8.toNat) = u9
      refine vf_uw ?_
      refine vf_aload_n C (f := 0) (zdg dz_R_again_2 14 rfl) 1 rfl rfl ?_
      refine vf_aload_n C (f := 0) (zdg dz_R_again_2 15 rfl) 1 rfl rfl ?_
      refine vf_getp C fl_R_129 sh_43 rfl (by decide) rfl (x := 80) rfl (zdg dz_R_again_2 16 rfl) ?_
      refine vf_iload_n C (f := 2) (zdg dz_R_again_2 17 rfl) 0 rfl rfl ?_
      refine vf_iconst C (z := 1) (zdg dz_R_again_2 18 rfl) (jz rfl) ?_
      refine vf_iadd C (zdg dz_R_again_2 19 rfl) ?_
      refine vf_iald C sh_79 (by decide) rfl (mz := 210) rfl (zdg dz_R_again_2 20 rfl) ?_
      refine vf_put C (kd := 0) fl_R_36 fk_11_11 sh_43 rfl (by decide) rfl rfl (by decide) (zdg dz_R_again_2 21 rfl) ?_
      generalize st u9 43 11 (u9 79 (w32 (x8 + 1)).toNat) = u10
      refine vf_uw ?_
      refine vf_aload_n C (f := 0) (zdg dz_R_again_2 22 rfl) 1 rfl rfl ?_
      refine vf_aload_n C (f := 0) (zdg dz_R_again_2 23 rfl) 1 rfl rfl ?_
      refine vf_getp C fl_R_129 sh_43 rfl (by decide) rfl (x := 80) rfl (zdg dz_R_again_3 0 rfl) ?_
      refine vf_iload_n C (f := 2) (zdg dz_R_again_3 1 rfl) 0 rfl rfl ?_
      refine vf_iconst C (z := 2) (zdg dz_R_again_3 2 rfl) (jz rfl) ?_
      refine vf_iadd C (zdg dz_R_again_3 3 rfl) ?_
      refine vf_iald C sh_79 (by decide) rfl (mz := 210) rfl (zdg dz_R_again_3 4 rfl) ?_
      refine vf_put C (kd := 0) fl_R_214 fk_11_8 sh_43 rfl (by decide) rfl rfl (by decide) (zdg dz_R_again_3 5 rfl) ?_
      generalize st u10 43 8 (u10 79 (w32 (x8 + 2)).toNat) = u11
      refine vf_uw ?_
      refine vf_iconst C (z := 0) (zdg dz_R_again_3 6 rfl) (jz rfl) ?_
      refine vf_istore_n C (f := 3) (L' := [(2, (0, x8)), (0, (2, 44))]) (zdg dz_R_again_3 7 rfl) [0, 1] (jrI rfl rfl) hn (by decide) rfl ?_
      exact vf_perm [2, 1, 0] rfl (t_R_again_133 C hn hR hr FU _ _ _)
    · refine vf_aload_n C (f := 0) (zdg dz_R_again_1 14 rfl) 0 rfl rfl ?_
      refine vf_getp C fl_R_16 sh_43 rfl (by decide) rfl (x := 47) rfl (zdg dz_R_again_1 15 rfl) ?_
      refine vf_iload_n C (f := 3) (zdg dz_R_again_1 16 rfl) 2 rfl rfl ?_
      refine vf_aload_n C (f := 0) (zdg dz_R_again_1 17 rfl) 0 rfl rfl ?_
      refine vf_getp C fl_R_129 sh_43 rfl (by decide) rfl (x := 80) rfl (zdg dz_R_again_1 18 rfl) ?_
      refine vf_iload_n C (f := 2) (zdg dz_R_again_1 19 rfl) 1 rfl rfl ?_
      refine vf_iload_n C (f := 3) (zdg dz_R_again_1 20 rfl) 2 rfl rfl ?_
      refine vf_iadd C (zdg dz_R_again_1 21 rfl) ?_
      refine vf_iald C sh_79 (by decide) rfl (mz := 210) rfl (zdg dz_R_again_1 22 rfl) ?_
      refine vf_iconst C (z := 1) (zdg dz_R_again_1 23 rfl) (jz rfl) ?_
      refine vf_icmp_ne C (off := 7) (tgt := 86) (zdg dz_R_again_2 0 rfl) (by decide) ?_ ?_
      · refine vf_iconst C (z := 0) (zdg dz_R_again_2 3 rfl) (jz rfl) ?_
        exact t_R_again_87 C hn hR hr ih _ _ _ _ _
      · refine vf_iconst C (z := 1) (zdg dz_R_again_2 1 rfl) (jz rfl) ?_
        refine vf_goto C (off := 4) (tgt := 87) (zdg dz_R_again_2 2 rfl) (by decide) ?_
        exact t_R_again_87 C hn hR hr ih _ _ _ _ _
def f_R_again (v1 : Int) (w : Wd) : Option (Int × Wd) :=
  jlw (st w 43 16 0) fun u1 =>
  jcall (f_R_in v1 0 1 u1) fun r2 u3 =>
  if r2 = 0 then
    some (0, u3)
  else
    jgd ((0 : Int) ≤ v1 ∧ v1 < 2) <|
    if (u3 80 v1.toNat) = 0 then
      some (0, u3)
    else
      jgd ((0 : Int) ≤ v1 ∧ v1 < 2) <|
      if (u3 81 v1.toNat) = (u3 43 56) then
        jlet (w32 (105 * v1)) fun x4 =>
        jcall (f_R_bring_43_79 x4 u3) fun r5 u6 =>
        jlet (w32 (x4 + 31)) fun x7 =>
        f_R_again_57 FU x7 0 u6
      else
        some (0, u3)
theorem ct_R_again (v1 : Int) (w : Wd) : Ct y_R_again prog_14_method_103_code 4 (some .boolean) 2 4 [(2, 44), (0, v1)] w (f_R_again v1 w) := by
  refine ct_of (by decide +kernel) (Or.inr (Or.inr (Or.inl ⟨rfl, rfl⟩))) (Nat.le_of_ble_eq_true rfl) ?_
  intro X Qf ad C hn hR hr
  unfold f_R_again
  show VF X Qf ad NF 0 0 w 0 [(0, (2, 44)), (1, (0, v1))] [] _
  refine vf_aload_n C (f := 0) (zdg dz_R_again_0 0 rfl) 0 rfl rfl ?_
  refine vf_iconst C (z := 0) (zdg dz_R_again_0 1 rfl) (jz rfl) ?_
  refine vf_put C (kd := 0) fl_R_138 fk_11_16 sh_43 rfl (by decide) rfl rfl (by decide) (zdg dz_R_again_0 2 rfl) ?_
  generalize st w 43 16 0 = u1
  refine vf_uw ?_
  refine vf_iload_n C (f := 1) (zdg dz_R_again_0 3 rfl) 1 rfl rfl ?_
  refine vf_iconst C (z := 0) (zdg dz_R_again_0 4 rfl) (jz rfl) ?_
  refine vf_iconst C (z := 1) (zdg dz_R_again_0 5 rfl) (jz rfl) ?_
  refine vf_callSz C cy_R_in ml_R_147 (ct_R_in _ _ _ _) (S := []) (jrm_of hR rfl) rfl rfl (Nat.le_of_ble_eq_true rfl) (zdg dz_R_again_0 6 rfl) (fun r2 u3 => ?_)
  refine vf_if_eq C (off := 25) (tgt := 36) (zdg dz_R_again_0 7 rfl) (by decide) ?_ ?_
  · refine vf_iconst C (z := 0) (zdg dz_R_again_0 20 rfl) (jz rfl) ?_
    exact hr _ _ _ _ (fun _ => Or.inl rfl) (zdg dz_R_again_0 21 rfl)
  · refine vf_aload_n C (f := 0) (zdg dz_R_again_0 8 rfl) 0 rfl rfl ?_
    refine vf_getp C fl_R_132 sh_43 rfl (by decide) rfl (x := 81) rfl (zdg dz_R_again_0 9 rfl) ?_
    refine vf_iload_n C (f := 1) (zdg dz_R_again_0 10 rfl) 1 rfl rfl ?_
    refine vf_zald C sh_80 (by decide) rfl (mz := 2) rfl (zdg dz_R_again_0 11 rfl) ?_
    refine vf_if_eq C (off := 16) (tgt := 36) (zdg dz_R_again_0 12 rfl) (by decide) ?_ ?_
    · refine vf_iconst C (z := 0) (zdg dz_R_again_0 20 rfl) (jz rfl) ?_
      exact hr _ _ _ _ (fun _ => Or.inl rfl) (zdg dz_R_again_0 21 rfl)
    · refine vf_aload_n C (f := 0) (zdg dz_R_again_0 13 rfl) 0 rfl rfl ?_
      refine vf_getp C fl_R_135 sh_43 rfl (by decide) rfl (x := 82) rfl (zdg dz_R_again_0 14 rfl) ?_
      refine vf_iload_n C (f := 1) (zdg dz_R_again_0 15 rfl) 1 rfl rfl ?_
      refine vf_iald C sh_81 (by decide) rfl (mz := 2) rfl (zdg dz_R_again_0 16 rfl) ?_
      refine vf_aload_n C (f := 0) (zdg dz_R_again_0 17 rfl) 0 rfl rfl ?_
      refine vf_get C (kd := 0) fl_R_223 sh_43 rfl (by decide) rfl rfl (zdg dz_R_again_0 18 rfl) ?_
      refine vf_icmp_eq C (off := 5) (tgt := 38) (zdg dz_R_again_0 19 rfl) (by decide) ?_ ?_
      · refine vf_bipush C (z := 105) (zdg dz_R_again_0 22 rfl) (by decide +kernel) (jz rfl) ?_
        refine vf_iload_n C (f := 1) (zdg dz_R_again_0 23 rfl) 1 rfl rfl ?_
        refine vf_imul C (zdg dz_R_again_1 0 rfl) ?_
        generalize w32 (105 * v1) = x4
        refine vf_ul ?_
        refine vf_istore_n C (f := 2) (L' := [(0, (2, 44))]) (zdg dz_R_again_1 1 rfl) [0] (jrI rfl rfl) hn (by decide) rfl ?_
        refine vf_aload_n C (f := 0) (zdg dz_R_again_1 2 rfl) 1 rfl rfl ?_
        refine vf_aload_n C (f := 0) (zdg dz_R_again_1 3 rfl) 1 rfl rfl ?_
        refine vf_getp C fl_R_129 sh_43 rfl (by decide) rfl (x := 80) rfl (zdg dz_R_again_1 4 rfl) ?_
        refine vf_iload_n C (f := 2) (zdg dz_R_again_1 5 rfl) 0 rfl rfl ?_
        refine vf_callVv C cy_R_bring ml_R_307 rfl (ct_R_bring_43_79 _ _) (S := []) sh_43 (by decide) rfl (jrm_of hR rfl) rfl rfl (Nat.le_of_ble_eq_true rfl) (zdg dz_R_again_1 6 rfl) (fun r5 u6 => ?_)
        refine vf_iinc C (z := 31) (L' := [(0, (2, 44))]) (zdg dz_R_again_1 7 rfl) 0 rfl [1] (jrI rfl rfl) hn (by decide) ?_
        generalize w32 (x4 + 31) = x7
        refine vf_ul ?_
        refine vf_iconst C (z := 0) (zdg dz_R_again_1 8 rfl) (jz rfl) ?_
        refine vf_istore_n C (f := 3) (L' := [(2, (0, x7)), (0, (2, 44))]) (zdg dz_R_again_1 9 rfl) [0, 1] (jrI rfl rfl) hn (by decide) rfl ?_
        exact vf_perm [2, 1, 0] rfl (t_R_again_57 C hn hR hr FU _ _ _)
      · refine vf_iconst C (z := 0) (zdg dz_R_again_0 20 rfl) (jz rfl) ?_
        exact hr _ _ _ _ (fun _ => Or.inl rfl) (zdg dz_R_again_0 21 rfl)
def f_R_count (v1 : Int) (w : Wd) : Option (Int × Wd) :=
  jlw (st w 43 16 0) fun u1 =>
  if v1 < 0 ∨ 9 < v1 then
    some ((-1), u1)
  else
  if v1 = 0 then
    some (u1 43 0, u1)
  else
  if v1 = 1 then
    some (u1 43 8, u1)
  else
  if v1 = 2 then
    jcall (f_R_guests u1) fun r2 u3 =>
    some (r2, u3)
  else
  if v1 = 3 then
    jcall (f_R_those 0 0 u1) fun r4 u5 =>
    some (r4, u5)
  else
  if v1 = 4 then
    jcall (f_R_those 4 4 u1) fun r6 u7 =>
    some (r6, u7)
  else
  if v1 = 5 then
    some (u1 43 7, u1)
  else
  if v1 = 6 then
    some (u1 43 32, u1)
  else
  if v1 = 7 then
    some (u1 43 15, u1)
  else
  if v1 = 8 then
    some (u1 43 13, u1)
  else
  if v1 = 9 then
    jcall (f_R_hidden u1) fun r8 u9 =>
    some (r8, u9)
  else
  none
theorem ct_R_count (v1 : Int) (w : Wd) : Ct y_R_count prog_14_method_104_code 2 (some .int) 4 0 [(2, 44), (0, v1)] w (f_R_count v1 w) := by
  refine ct_of (by decide +kernel) (Or.inl ⟨rfl, rfl⟩) (Nat.le_of_ble_eq_true rfl) ?_
  intro X Qf ad C hn hR hr
  unfold f_R_count
  show VF X Qf ad NF 0 0 w 0 [(0, (2, 44)), (1, (0, v1))] [] _
  refine vf_aload_n C (f := 0) (zdg dz_R_count_0 0 rfl) 0 rfl rfl ?_
  refine vf_iconst C (z := 0) (zdg dz_R_count_0 1 rfl) (jz rfl) ?_
  refine vf_put C (kd := 0) fl_R_138 fk_11_16 sh_43 rfl (by decide) rfl rfl (by decide) (zdg dz_R_count_0 2 rfl) ?_
  generalize st w 43 16 0 = u1
  refine vf_uw ?_
  refine vf_iload_n C (f := 1) (zdg dz_R_count_0 3 rfl) 1 rfl rfl ?_
  refine vf_if _ (fun h => ?_) (fun _ => ?_)
  · refine vf_swd C (dflt := 108) (lo := 0) (hi := 9) (offs := #[54, 59, 64, 69, 76, 83, 88, 93, 98, 103]) (len := 54) (tgt := 114) (by decide +kernel) h (by decide) ?_
    refine vf_iconst C (z := (-1)) (zdg dz_R_count_1 14 rfl) (jz rfl) ?_
    exact hr _ _ _ _ (fun h => absurd h (by decide)) (zdg dz_R_count_1 15 rfl)
  refine vf_if _ (fun h => ?_) (fun _ => ?_)
  · refine vf_swx C (dflt := 108) (lo := 0) (hi := 9) (offs := #[54, 59, 64, 69, 76, 83, 88, 93, 98, 103]) (len := 54) (z := 0) (off := 54) (tgt := 60) (by decide +kernel) h (by decide) (by decide) rfl (by decide) ?_
    refine vf_aload_n C (f := 0) (zdg dz_R_count_0 4 rfl) 0 rfl rfl ?_
    refine vf_get C (kd := 0) fl_R_144 sh_43 rfl (by decide) rfl rfl (zdg dz_R_count_0 5 rfl) ?_
    exact hr _ _ _ _ (fun h => absurd h (by decide)) (zdg dz_R_count_0 6 rfl)
  refine vf_if _ (fun h => ?_) (fun _ => ?_)
  · refine vf_swx C (dflt := 108) (lo := 0) (hi := 9) (offs := #[54, 59, 64, 69, 76, 83, 88, 93, 98, 103]) (len := 54) (z := 1) (off := 59) (tgt := 65) (by decide +kernel) h (by decide) (by decide) rfl (by decide) ?_
    refine vf_aload_n C (f := 0) (zdg dz_R_count_0 7 rfl) 0 rfl rfl ?_
    refine vf_get C (kd := 0) fl_R_214 sh_43 rfl (by decide) rfl rfl (zdg dz_R_count_0 8 rfl) ?_
    exact hr _ _ _ _ (fun h => absurd h (by decide)) (zdg dz_R_count_0 9 rfl)
  refine vf_if _ (fun h => ?_) (fun _ => ?_)
  · refine vf_swx C (dflt := 108) (lo := 0) (hi := 9) (offs := #[54, 59, 64, 69, 76, 83, 88, 93, 98, 103]) (len := 54) (z := 2) (off := 64) (tgt := 70) (by decide +kernel) h (by decide) (by decide) rfl (by decide) ?_
    refine vf_aload_n C (f := 0) (zdg dz_R_count_0 10 rfl) 0 rfl rfl ?_
    refine vf_callVi C cy_R_guests ml_R_217 rfl (ct_R_guests _) (S := []) sh_43 (by decide) rfl (jrm_of hR rfl) rfl rfl (Nat.le_of_ble_eq_true rfl) (zdg dz_R_count_0 11 rfl) (fun r2 u3 => ?_)
    exact hr _ _ _ _ (fun h => absurd h (by decide)) (zdg dz_R_count_0 12 rfl)
  refine vf_if _ (fun h => ?_) (fun _ => ?_)
  · refine vf_swx C (dflt := 108) (lo := 0) (hi := 9) (offs := #[54, 59, 64, 69, 76, 83, 88, 93, 98, 103]) (len := 54) (z := 3) (off := 69) (tgt := 75) (by decide +kernel) h (by decide) (by decide) rfl (by decide) ?_
    refine vf_aload_n C (f := 0) (zdg dz_R_count_0 13 rfl) 0 rfl rfl ?_
    refine vf_iconst C (z := 0) (zdg dz_R_count_0 14 rfl) (jz rfl) ?_
    refine vf_iconst C (z := 0) (zdg dz_R_count_0 15 rfl) (jz rfl) ?_
    refine vf_callVi C cy_R_those ml_R_155 rfl (ct_R_those _ _ _) (S := []) sh_43 (by decide) rfl (jrm_of hR rfl) rfl rfl (Nat.le_of_ble_eq_true rfl) (zdg dz_R_count_0 16 rfl) (fun r4 u5 => ?_)
    exact hr _ _ _ _ (fun h => absurd h (by decide)) (zdg dz_R_count_0 17 rfl)
  refine vf_if _ (fun h => ?_) (fun _ => ?_)
  · refine vf_swx C (dflt := 108) (lo := 0) (hi := 9) (offs := #[54, 59, 64, 69, 76, 83, 88, 93, 98, 103]) (len := 54) (z := 4) (off := 76) (tgt := 82) (by decide +kernel) h (by decide) (by decide) rfl (by decide) ?_
    refine vf_aload_n C (f := 0) (zdg dz_R_count_0 18 rfl) 0 rfl rfl ?_
    refine vf_iconst C (z := 4) (zdg dz_R_count_0 19 rfl) (jz rfl) ?_
    refine vf_iconst C (z := 4) (zdg dz_R_count_0 20 rfl) (jz rfl) ?_
    refine vf_callVi C cy_R_those ml_R_155 rfl (ct_R_those _ _ _) (S := []) sh_43 (by decide) rfl (jrm_of hR rfl) rfl rfl (Nat.le_of_ble_eq_true rfl) (zdg dz_R_count_0 21 rfl) (fun r6 u7 => ?_)
    exact hr _ _ _ _ (fun h => absurd h (by decide)) (zdg dz_R_count_0 22 rfl)
  refine vf_if _ (fun h => ?_) (fun _ => ?_)
  · refine vf_swx C (dflt := 108) (lo := 0) (hi := 9) (offs := #[54, 59, 64, 69, 76, 83, 88, 93, 98, 103]) (len := 54) (z := 5) (off := 83) (tgt := 89) (by decide +kernel) h (by decide) (by decide) rfl (by decide) ?_
    refine vf_aload_n C (f := 0) (zdg dz_R_count_0 23 rfl) 0 rfl rfl ?_
    refine vf_get C (kd := 0) fl_R_270 sh_43 rfl (by decide) rfl rfl (zdg dz_R_count_1 0 rfl) ?_
    exact hr _ _ _ _ (fun h => absurd h (by decide)) (zdg dz_R_count_1 1 rfl)
  refine vf_if _ (fun h => ?_) (fun _ => ?_)
  · refine vf_swx C (dflt := 108) (lo := 0) (hi := 9) (offs := #[54, 59, 64, 69, 76, 83, 88, 93, 98, 103]) (len := 54) (z := 6) (off := 88) (tgt := 94) (by decide +kernel) h (by decide) (by decide) rfl (by decide) ?_
    refine vf_aload_n C (f := 0) (zdg dz_R_count_1 2 rfl) 0 rfl rfl ?_
    refine vf_get C (kd := 0) fl_R_220 sh_43 rfl (by decide) rfl rfl (zdg dz_R_count_1 3 rfl) ?_
    exact hr _ _ _ _ (fun h => absurd h (by decide)) (zdg dz_R_count_1 4 rfl)
  refine vf_if _ (fun h => ?_) (fun _ => ?_)
  · refine vf_swx C (dflt := 108) (lo := 0) (hi := 9) (offs := #[54, 59, 64, 69, 76, 83, 88, 93, 98, 103]) (len := 54) (z := 7) (off := 93) (tgt := 99) (by decide +kernel) h (by decide) (by decide) rfl (by decide) ?_
    refine vf_aload_n C (f := 0) (zdg dz_R_count_1 5 rfl) 0 rfl rfl ?_
    refine vf_get C (kd := 0) fl_R_141 sh_43 rfl (by decide) rfl rfl (zdg dz_R_count_1 6 rfl) ?_
    exact hr _ _ _ _ (fun h => absurd h (by decide)) (zdg dz_R_count_1 7 rfl)
  refine vf_if _ (fun h => ?_) (fun _ => ?_)
  · refine vf_swx C (dflt := 108) (lo := 0) (hi := 9) (offs := #[54, 59, 64, 69, 76, 83, 88, 93, 98, 103]) (len := 54) (z := 8) (off := 98) (tgt := 104) (by decide +kernel) h (by decide) (by decide) rfl (by decide) ?_
    refine vf_aload_n C (f := 0) (zdg dz_R_count_1 8 rfl) 0 rfl rfl ?_
    refine vf_get C (kd := 0) fl_R_163 sh_43 rfl (by decide) rfl rfl (zdg dz_R_count_1 9 rfl) ?_
    exact hr _ _ _ _ (fun h => absurd h (by decide)) (zdg dz_R_count_1 10 rfl)
  refine vf_if _ (fun h => ?_) (fun _ => ?_)
  · refine vf_swx C (dflt := 108) (lo := 0) (hi := 9) (offs := #[54, 59, 64, 69, 76, 83, 88, 93, 98, 103]) (len := 54) (z := 9) (off := 103) (tgt := 109) (by decide +kernel) h (by decide) (by decide) rfl (by decide) ?_
    refine vf_aload_n C (f := 0) (zdg dz_R_count_1 11 rfl) 0 rfl rfl ?_
    refine vf_callVi C cy_R_hidden ml_R_159 rfl (ct_R_hidden _) (S := []) sh_43 (by decide) rfl (jrm_of hR rfl) rfl rfl (Nat.le_of_ble_eq_true rfl) (zdg dz_R_count_1 12 rfl) (fun r8 u9 => ?_)
    exact hr _ _ _ _ (fun h => absurd h (by decide)) (zdg dz_R_count_1 13 rfl)
  exact vf_no
def f_R_row (v1 : Int) (w : Wd) : Option (Int × Wd) :=
  jlw (st w 43 16 0) fun u1 =>
  jcall (f_R_in v1 0 (w32 ((u1 43 15) - 1)) u1) fun r2 u3 =>
  if r2 = 0 then
    jcall (f_R_lost u3) fun r4 u5 =>
    some (r4, u5)
  else
    jgd ((0 : Int) ≤ v1 ∧ v1 < 16) <|
    some (u3 52 v1.toNat, u3)
theorem ct_R_row (v1 : Int) (w : Wd) : Ct y_R_row prog_14_method_105_code 2 (some .int) 2 0 [(2, 44), (0, v1)] w (f_R_row v1 w) := by
  refine ct_of (by decide +kernel) (Or.inl ⟨rfl, rfl⟩) (Nat.le_of_ble_eq_true rfl) ?_
  intro X Qf ad C hn hR hr
  unfold f_R_row
  show VF X Qf ad NF 0 0 w 0 [(0, (2, 44)), (1, (0, v1))] [] _
  refine vf_aload_n C (f := 0) (zdg dz_R_row_0 0 rfl) 0 rfl rfl ?_
  refine vf_iconst C (z := 0) (zdg dz_R_row_0 1 rfl) (jz rfl) ?_
  refine vf_put C (kd := 0) fl_R_138 fk_11_16 sh_43 rfl (by decide) rfl rfl (by decide) (zdg dz_R_row_0 2 rfl) ?_
  generalize st w 43 16 0 = u1
  refine vf_uw ?_
  refine vf_iload_n C (f := 1) (zdg dz_R_row_0 3 rfl) 1 rfl rfl ?_
  refine vf_iconst C (z := 0) (zdg dz_R_row_0 4 rfl) (jz rfl) ?_
  refine vf_aload_n C (f := 0) (zdg dz_R_row_0 5 rfl) 0 rfl rfl ?_
  refine vf_get C (kd := 0) fl_R_141 sh_43 rfl (by decide) rfl rfl (zdg dz_R_row_0 6 rfl) ?_
  refine vf_iconst C (z := 1) (zdg dz_R_row_0 7 rfl) (jz rfl) ?_
  refine vf_isub C (zdg dz_R_row_0 8 rfl) ?_
  refine vf_callSz C cy_R_in ml_R_147 (ct_R_in _ _ _ _) (S := []) (jrm_of hR rfl) rfl rfl (Nat.le_of_ble_eq_true rfl) (zdg dz_R_row_0 9 rfl) (fun r2 u3 => ?_)
  refine vf_if_eq C (off := 12) (tgt := 28) (zdg dz_R_row_0 10 rfl) (by decide) ?_ ?_
  · refine vf_aload_n C (f := 0) (zdg dz_R_row_0 16 rfl) 0 rfl rfl ?_
    refine vf_callVi C cy_R_lost ml_R_253 rfl (ct_R_lost _) (S := []) sh_43 (by decide) rfl (jrm_of hR rfl) rfl rfl (Nat.le_of_ble_eq_true rfl) (zdg dz_R_row_0 17 rfl) (fun r4 u5 => ?_)
    exact hr _ _ _ _ (fun h => absurd h (by decide)) (zdg dz_R_row_0 18 rfl)
  · refine vf_aload_n C (f := 0) (zdg dz_R_row_0 11 rfl) 0 rfl rfl ?_
    refine vf_getp C fl_R_43 sh_43 rfl (by decide) rfl (x := 53) rfl (zdg dz_R_row_0 12 rfl) ?_
    refine vf_iload_n C (f := 1) (zdg dz_R_row_0 13 rfl) 1 rfl rfl ?_
    refine vf_iald C sh_52 (by decide) rfl (mz := 16) rfl (zdg dz_R_row_0 14 rfl) ?_
    refine vf_goto C (off := 7) (tgt := 32) (zdg dz_R_row_0 15 rfl) (by decide) ?_
    exact hr _ _ _ _ (fun h => absurd h (by decide)) (zdg dz_R_row_0 18 rfl)
end
