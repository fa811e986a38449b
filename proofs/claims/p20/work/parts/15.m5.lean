def f_R_beginWeeks_26 (k2 : Int → Wd → Option (Int × Wd)) (v1 s1 s2 : Int) (w : Wd) : Option (Int × Wd) :=
  jgd ((0 : Int) ≤ s1 ∧ s1 < 3000) <|
  jlw (st w 69 s1.toNat s2) fun u1 =>
  jlet (w32 (v1 + 1)) fun x2 =>
  k2 x2 u1
theorem t_R_beginWeeks_26 {X : jX} {Qf : Int × Wd → State → Prop} {ad : Nat → Nat} (C : Cx X prog_14_method_65_code "EachBringsAnotherModel") (hn : xn X = 2) (hR : xR X = rmD 1) (hr : Rt X Qf ad prog_14_method_65_code 9) {k2 : Int → Wd → Option (Int × Wd)} (hk2 : ∀ (v1 : Int) (w : Wd), VF X Qf ad NF 0 0 w 2 [(0, (2, 44)), (1, (0, v1))] [] (k2 v1 w)) (v1 s1 s2 : Int) (w : Wd) : VF X Qf ad NF 0 0 w 26 [(0, (2, 44)), (1, (0, v1))] [(0, s2), (0, s1), (2, 70)] (f_R_beginWeeks_26 k2 v1 s1 s2 w) := by
  unfold f_R_beginWeeks_26
  refine vf_iast C sh_69 (by decide) rfl (mz := 3000) rfl (zdg dz_R_beginWeeks_0 14 rfl) ?_
  generalize st w 69 s1.toNat s2 = u1
  refine vf_uw ?_
  refine vf_iinc C (z := 1) (L' := [(0, (2, 44))]) (zdg dz_R_beginWeeks_0 15 rfl) 1 rfl [0] (jrI rfl rfl) hn (by decide) ?_
  generalize w32 (v1 + 1) = x2
  refine vf_ul ?_
  refine vf_goto C (off := (-28)) (tgt := 2) (zdg dz_R_beginWeeks_0 16 rfl) (by decide) ?_
  exact vf_perm [1, 0] rfl (hk2 _ _)
def f_R_beginWeeks_2 : Nat → Int → Wd → Option (Int × Wd)
  | 0, _, _ => none
  | n + 1, v1, w =>
    if (w 43 40) ≤ v1 then
      some (0, w)
    else
      if v1 = 0 then
        f_R_beginWeeks_26 (f_R_beginWeeks_2 n) v1 v1 0 w
      else
        f_R_beginWeeks_26 (f_R_beginWeeks_2 n) v1 v1 1000000 w
theorem t_R_beginWeeks_2 {X : jX} {Qf : Int × Wd → State → Prop} {ad : Nat → Nat} (C : Cx X prog_14_method_65_code "EachBringsAnotherModel") (hn : xn X = 2) (hR : xR X = rmD 1) (hr : Rt X Qf ad prog_14_method_65_code 9) : ∀ (n : Nat) (v1 : Int) (w : Wd), VF X Qf ad NF 0 0 w 2 [(0, (2, 44)), (1, (0, v1))] [] (f_R_beginWeeks_2 n v1 w) := by
  intro n
  induction n with
  | zero => intros; exact vf_no
  | succ n ih =>
    intro v1 w
    rw [f_R_beginWeeks_2]
    refine vf_iload_n C (f := 1) (zdg dz_R_beginWeeks_0 2 rfl) 1 rfl rfl ?_
    refine vf_aload_n C (f := 0) (zdg dz_R_beginWeeks_0 3 rfl) 0 rfl rfl ?_
    refine vf_get C (kd := 0) fl_R_314 sh_43 rfl (by decide) rfl rfl (zdg dz_R_beginWeeks_0 4 rfl) ?_
    refine vf_icmp_ge C (off := 26) (tgt := 33) (zdg dz_R_beginWeeks_0 5 rfl) (by decide) ?_ ?_
    · exact hr _ _ _ _ (fun h => absurd h (by decide)) (zdg dz_R_beginWeeks_0 17 rfl)
    · refine vf_aload_n C (f := 0) (zdg dz_R_beginWeeks_0 6 rfl) 0 rfl rfl ?_
      refine vf_getp C fl_R_98 sh_43 rfl (by decide) rfl (x := 70) rfl (zdg dz_R_beginWeeks_0 7 rfl) ?_
      refine vf_iload_n C (f := 1) (zdg dz_R_beginWeeks_0 8 rfl) 1 rfl rfl ?_
      refine vf_iload_n C (f := 1) (zdg dz_R_beginWeeks_0 9 rfl) 1 rfl rfl ?_
      refine vf_if_ne C (off := 7) (tgt := 23) (zdg dz_R_beginWeeks_0 10 rfl) (by decide) ?_ ?_
      · refine vf_ldcw C (z := 1000000) (i := 348) (zdg dz_R_beginWeeks_0 13 rfl) kc_R_348 (by decide +kernel) (jz rfl) ?_
        exact t_R_beginWeeks_26 C hn hR hr ih _ _ _ _
      · refine vf_iconst C (z := 0) (zdg dz_R_beginWeeks_0 11 rfl) (jz rfl) ?_
        refine vf_goto C (off := 6) (tgt := 26) (zdg dz_R_beginWeeks_0 12 rfl) (by decide) ?_
        exact t_R_beginWeeks_26 C hn hR hr ih _ _ _ _
def f_R_beginWeeks (w : Wd) : Option (Int × Wd) :=
  f_R_beginWeeks_2 FU 0 w
theorem ct_R_beginWeeks (w : Wd) : Ct y_R_beginWeeks prog_14_method_65_code 2 none 1 9 [(2, 44)] w (f_R_beginWeeks w) := by
  refine ct_of (by decide +kernel) (Or.inr (Or.inr (Or.inr ⟨rfl, rfl⟩))) (Nat.le_of_ble_eq_true rfl) ?_
  intro X Qf ad C hn hR hr
  unfold f_R_beginWeeks
  show VF X Qf ad NF 0 0 w 0 [(0, (2, 44))] [] _
  refine vf_iconst C (z := 0) (zdg dz_R_beginWeeks_0 0 rfl) (jz rfl) ?_
  refine vf_istore_n C (f := 1) (L' := [(0, (2, 44))]) (zdg dz_R_beginWeeks_0 1 rfl) [0] (jrI rfl rfl) hn (by decide) rfl ?_
  exact vf_perm [1, 0] rfl (t_R_beginWeeks_2 C hn hR hr FU _ _)
def f_R_goOneWeek_126 : Nat → Int → Wd → Option (Int × Wd)
  | 0, _, _ => none
  | n + 1, v1, w =>
    if (w 43 40) ≤ v1 then
      some (0, w)
    else
      jgd ((0 : Int) ≤ v1 ∧ v1 < 3000) <|
      jgd ((0 : Int) ≤ v1 ∧ v1 < 3000) <|
      jlw (st w 69 v1.toNat ((w 70 v1.toNat))) fun u1 =>
      jlet (w32 (v1 + 1)) fun x2 =>
      f_R_goOneWeek_126 n x2 u1
theorem t_R_goOneWeek_126 {X : jX} {Qf : Int × Wd → State → Prop} {ad : Nat → Nat} (C : Cx X prog_14_method_66_code "EachBringsAnotherModel") (hn : xn X = 3) (hR : xR X = rmD 3) (hr : Rt X Qf ad prog_14_method_66_code 9) : ∀ (n : Nat) (v1 : Int) (w : Wd), VF X Qf ad NF 0 0 w 126 [(0, (2, 44)), (1, (0, v1))] [] (f_R_goOneWeek_126 n v1 w) := by
  intro n
  induction n with
  | zero => intros; exact vf_no
  | succ n ih =>
    intro v1 w
    rw [f_R_goOneWeek_126]
    refine vf_iload_n C (f := 1) (zdg dz_R_goOneWeek_3 0 rfl) 1 rfl rfl ?_
    refine vf_aload_n C (f := 0) (zdg dz_R_goOneWeek_3 1 rfl) 0 rfl rfl ?_
    refine vf_get C (kd := 0) fl_R_314 sh_43 rfl (by decide) rfl rfl (zdg dz_R_goOneWeek_3 2 rfl) ?_
    refine vf_icmp_ge C (off := 21) (tgt := 152) (zdg dz_R_goOneWeek_3 3 rfl) (by decide) ?_ ?_
    · exact hr _ _ _ _ (fun h => absurd h (by decide)) (zdg dz_R_goOneWeek_3 14 rfl)
    · refine vf_aload_n C (f := 0) (zdg dz_R_goOneWeek_3 4 rfl) 0 rfl rfl ?_
      refine vf_getp C fl_R_98 sh_43 rfl (by decide) rfl (x := 70) rfl (zdg dz_R_goOneWeek_3 5 rfl) ?_
      refine vf_iload_n C (f := 1) (zdg dz_R_goOneWeek_3 6 rfl) 1 rfl rfl ?_
      refine vf_aload_n C (f := 0) (zdg dz_R_goOneWeek_3 7 rfl) 0 rfl rfl ?_
      refine vf_getp C fl_R_101 sh_43 rfl (by decide) rfl (x := 71) rfl (zdg dz_R_goOneWeek_3 8 rfl) ?_
      refine vf_iload_n C (f := 1) (zdg dz_R_goOneWeek_3 9 rfl) 1 rfl rfl ?_
      refine vf_iald C sh_70 (by decide) rfl (mz := 3000) rfl (zdg dz_R_goOneWeek_3 10 rfl) ?_
      refine vf_iast C sh_69 (by decide) rfl (mz := 3000) rfl (zdg dz_R_goOneWeek_3 11 rfl) ?_
      generalize st w 69 v1.toNat ((w 70 v1.toNat)) = u1
      refine vf_uw ?_
      refine vf_iinc C (z := 1) (L' := [(0, (2, 44))]) (zdg dz_R_goOneWeek_3 12 rfl) 1 rfl [0] (jrI rfl rfl) hn (by decide) ?_
      generalize w32 (v1 + 1) = x2
      refine vf_ul ?_
      refine vf_goto C (off := (-23)) (tgt := 126) (zdg dz_R_goOneWeek_3 13 rfl) (by decide) ?_
      exact vf_perm [1, 0] rfl (ih _ _)
def f_R_goOneWeek_118 (k27 : Int → Wd → Option (Int × Wd)) (v1 : Int) (w : Wd) : Option (Int × Wd) :=
  jlet (w32 (v1 + 1)) fun x4 =>
  k27 x4 w
theorem t_R_goOneWeek_118 {X : jX} {Qf : Int × Wd → State → Prop} {ad : Nat → Nat} (C : Cx X prog_14_method_66_code "EachBringsAnotherModel") (hn : xn X = 3) (hR : xR X = rmD 3) (hr : Rt X Qf ad prog_14_method_66_code 9) {k27 : Int → Wd → Option (Int × Wd)} (hk27 : ∀ (v1 : Int) (w : Wd), VF X Qf ad NF 0 0 w 27 [(0, (2, 44)), (1, (0, v1))] [] (k27 v1 w)) (v1 : Int) (w : Wd) : VF X Qf ad NF 0 0 w 118 [(0, (2, 44)), (1, (0, v1))] [] (f_R_goOneWeek_118 k27 v1 w) := by
  unfold f_R_goOneWeek_118
  refine vf_iinc C (z := 1) (L' := [(0, (2, 44))]) (zdg dz_R_goOneWeek_2 20 rfl) 1 rfl [0] (jrI rfl rfl) hn (by decide) ?_
  generalize w32 (v1 + 1) = x4
  refine vf_ul ?_
  refine vf_goto C (off := (-94)) (tgt := 27) (zdg dz_R_goOneWeek_2 21 rfl) (by decide) ?_
  exact vf_perm [1, 0] rfl (hk27 _ _)
def f_R_goOneWeek_57 (k27 : Int → Wd → Option (Int × Wd)) : Nat → Int → Int → Wd → Option (Int × Wd)
  | 0, _, _, _ => none
  | n + 1, v1, v2, w =>
    jgd ((0 : Int) ≤ (w32 (v1 + 1)) ∧ (w32 (v1 + 1)) < 3001) <|
    if (w 64 (w32 (v1 + 1)).toNat) ≤ v2 then
      f_R_goOneWeek_118 k27 v1 w
    else
      jgd ((0 : Int) ≤ v2 ∧ v2 < 756000) <|
      jgd ((0 : Int) ≤ v2 ∧ v2 < 756000) <|
      jgd ((0 : Int) ≤ (w 65 v2.toNat) ∧ (w 65 v2.toNat) < 3000) <|
      jgd ((0 : Int) ≤ v1 ∧ v1 < 3000) <|
      jgd ((0 : Int) ≤ v2 ∧ v2 < 756000) <|
      jcall (f_R_costOf v1 (w 65 v2.toNat) w) fun r5 u6 =>
      jgd ((0 : Int) ≤ (w 65 v2.toNat) ∧ (w 65 v2.toNat) < 3000) <|
      jlw (st u6 70 (w 65 v2.toNat).toNat ((imin (w 70 (w 65 v2.toNat).toNat) (w32 ((w 69 v1.toNat) + r5))))) fun u7 =>
      jlet (w32 (v2 + 1)) fun x8 =>
      f_R_goOneWeek_57 k27 n v1 x8 u7
theorem t_R_goOneWeek_57 {X : jX} {Qf : Int × Wd → State → Prop} {ad : Nat → Nat} (C : Cx X prog_14_method_66_code "EachBringsAnotherModel") (hn : xn X = 3) (hR : xR X = rmD 3) (hr : Rt X Qf ad prog_14_method_66_code 9) {k27 : Int → Wd → Option (Int × Wd)} (hk27 : ∀ (v1 : Int) (w : Wd), VF X Qf ad NF 0 0 w 27 [(0, (2, 44)), (1, (0, v1))] [] (k27 v1 w)) : ∀ (n : Nat) (v1 v2 : Int) (w : Wd), VF X Qf ad NF 0 0 w 57 [(0, (2, 44)), (1, (0, v1)), (2, (0, v2))] [] (f_R_goOneWeek_57 k27 n v1 v2 w) := by
  intro n
  induction n with
  | zero => intros; exact vf_no
  | succ n ih =>
    intro v1 v2 w
    rw [f_R_goOneWeek_57]
    refine vf_iload_n C (f := 2) (zdg dz_R_goOneWeek_1 7 rfl) 2 rfl rfl ?_
    refine vf_aload_n C (f := 0) (zdg dz_R_goOneWeek_1 8 rfl) 0 rfl rfl ?_
    refine vf_getp C fl_R_82 sh_43 rfl (by decide) rfl (x := 65) rfl (zdg dz_R_goOneWeek_1 9 rfl) ?_
    refine vf_iload_n C (f := 1) (zdg dz_R_goOneWeek_1 10 rfl) 1 rfl rfl ?_
    refine vf_iconst C (z := 1) (zdg dz_R_goOneWeek_1 11 rfl) (jz rfl) ?_
    refine vf_iadd C (zdg dz_R_goOneWeek_1 12 rfl) ?_
    refine vf_iald C sh_64 (by decide) rfl (mz := 3001) rfl (zdg dz_R_goOneWeek_1 13 rfl) ?_
    refine vf_icmp_ge C (off := 52) (tgt := 118) (zdg dz_R_goOneWeek_1 14 rfl) (by decide) ?_ ?_
    · exact vf_perm [0, 1] rfl (t_R_goOneWeek_118 C hn hR hr hk27 _ _)
    · refine vf_aload_n C (f := 0) (zdg dz_R_goOneWeek_1 15 rfl) 0 rfl rfl ?_
      refine vf_getp C fl_R_101 sh_43 rfl (by decide) rfl (x := 71) rfl (zdg dz_R_goOneWeek_1 16 rfl) ?_
      refine vf_aload_n C (f := 0) (zdg dz_R_goOneWeek_1 17 rfl) 0 rfl rfl ?_
      refine vf_getp C fl_R_86 sh_43 rfl (by decide) rfl (x := 66) rfl (zdg dz_R_goOneWeek_1 18 rfl) ?_
      refine vf_iload_n C (f := 2) (zdg dz_R_goOneWeek_1 19 rfl) 2 rfl rfl ?_
      refine vf_iald C sh_65 (by decide) rfl (mz := 756000) rfl (zdg dz_R_goOneWeek_1 20 rfl) ?_
      refine vf_aload_n C (f := 0) (zdg dz_R_goOneWeek_1 21 rfl) 0 rfl rfl ?_
      refine vf_getp C fl_R_101 sh_43 rfl (by decide) rfl (x := 71) rfl (zdg dz_R_goOneWeek_1 22 rfl) ?_
      refine vf_aload_n C (f := 0) (zdg dz_R_goOneWeek_1 23 rfl) 0 rfl rfl ?_
      refine vf_getp C fl_R_86 sh_43 rfl (by decide) rfl (x := 66) rfl (zdg dz_R_goOneWeek_2 0 rfl) ?_
      refine vf_iload_n C (f := 2) (zdg dz_R_goOneWeek_2 1 rfl) 2 rfl rfl ?_
      refine vf_iald C sh_65 (by decide) rfl (mz := 756000) rfl (zdg dz_R_goOneWeek_2 2 rfl) ?_
      refine vf_iald C sh_70 (by decide) rfl (mz := 3000) rfl (zdg dz_R_goOneWeek_2 3 rfl) ?_
      refine vf_aload_n C (f := 0) (zdg dz_R_goOneWeek_2 4 rfl) 0 rfl rfl ?_
      refine vf_getp C fl_R_98 sh_43 rfl (by decide) rfl (x := 70) rfl (zdg dz_R_goOneWeek_2 5 rfl) ?_
      refine vf_iload_n C (f := 1) (zdg dz_R_goOneWeek_2 6 rfl) 1 rfl rfl ?_
      refine vf_iald C sh_69 (by decide) rfl (mz := 3000) rfl (zdg dz_R_goOneWeek_2 7 rfl) ?_
      refine vf_aload_n C (f := 0) (zdg dz_R_goOneWeek_2 8 rfl) 0 rfl rfl ?_
      refine vf_iload_n C (f := 1) (zdg dz_R_goOneWeek_2 9 rfl) 1 rfl rfl ?_
      refine vf_aload_n C (f := 0) (zdg dz_R_goOneWeek_2 10 rfl) 0 rfl rfl ?_
      refine vf_getp C fl_R_86 sh_43 rfl (by decide) rfl (x := 66) rfl (zdg dz_R_goOneWeek_2 11 rfl) ?_
      refine vf_iload_n C (f := 2) (zdg dz_R_goOneWeek_2 12 rfl) 2 rfl rfl ?_
      refine vf_iald C sh_65 (by decide) rfl (mz := 756000) rfl (zdg dz_R_goOneWeek_2 13 rfl) ?_
      refine vf_callVi C cy_R_costOf ml_R_349 rfl (ct_R_costOf _ _ _) (S := [(0, w 69 v1.toNat), (0, w 70 (w 65 v2.toNat).toNat), (0, w 65 v2.toNat), (2, 71)]) sh_43 (by decide) rfl (jrm_of hR rfl) rfl rfl (Nat.le_of_ble_eq_true rfl) (zdg dz_R_goOneWeek_2 14 rfl) (fun r5 u6 => ?_)
      refine vf_iadd C (zdg dz_R_goOneWeek_2 15 rfl) ?_
      refine vf_mmin C ml_R_262 (jrm_n hR (by decide)) ⟨Nat.zero_le _, Nat.zero_le _⟩ (Nat.le_of_ble_eq_true rfl) (zdg dz_R_goOneWeek_2 16 rfl) ?_
      refine vf_iast C sh_70 (by decide) rfl (mz := 3000) rfl (zdg dz_R_goOneWeek_2 17 rfl) ?_
      generalize st u6 70 (w 65 v2.toNat).toNat ((imin (w 70 (w 65 v2.toNat).toNat) (w32 ((w 69 v1.toNat) + r5)))) = u7
      refine vf_uw ?_
      refine vf_iinc C (z := 1) (L' := [(0, (2, 44)), (1, (0, v1))]) (zdg dz_R_goOneWeek_2 18 rfl) 2 rfl [0, 1] (jrI rfl rfl) hn (by decide) ?_
      generalize w32 (v2 + 1) = x8
      refine vf_ul ?_
      refine vf_goto C (off := (-58)) (tgt := 57) (zdg dz_R_goOneWeek_2 19 rfl) (by decide) ?_
      exact vf_perm [1, 2, 0] rfl (ih _ _ _)
def f_R_goOneWeek_27 : Nat → Int → Wd → Option (Int × Wd)
  | 0, _, _ => none
  | n + 1, v1, w =>
    if (w 43 40) ≤ v1 then
      f_R_goOneWeek_126 FU 0 w
    else
      jgd ((0 : Int) ≤ v1 ∧ v1 < 3000) <|
      if (w 69 v1.toNat) = 1000000 then
        f_R_goOneWeek_118 (f_R_goOneWeek_27 n) v1 w
      else
        jgd ((0 : Int) ≤ v1 ∧ v1 < 3001) <|
        jlet (w 64 v1.toNat) fun x3 =>
        f_R_goOneWeek_57 (f_R_goOneWeek_27 n) FU v1 x3 w
theorem t_R_goOneWeek_27 {X : jX} {Qf : Int × Wd → State → Prop} {ad : Nat → Nat} (C : Cx X prog_14_method_66_code "EachBringsAnotherModel") (hn : xn X = 3) (hR : xR X = rmD 3) (hr : Rt X Qf ad prog_14_method_66_code 9) : ∀ (n : Nat) (v1 : Int) (w : Wd), VF X Qf ad NF 0 0 w 27 [(0, (2, 44)), (1, (0, v1))] [] (f_R_goOneWeek_27 n v1 w) := by
  intro n
  induction n with
  | zero => intros; exact vf_no
  | succ n ih =>
    intro v1 w
    rw [f_R_goOneWeek_27]
    refine vf_iload_n C (f := 1) (zdg dz_R_goOneWeek_0 15 rfl) 1 rfl rfl ?_
    refine vf_aload_n C (f := 0) (zdg dz_R_goOneWeek_0 16 rfl) 0 rfl rfl ?_
    refine vf_get C (kd := 0) fl_R_314 sh_43 rfl (by decide) rfl rfl (zdg dz_R_goOneWeek_0 17 rfl) ?_
    refine vf_icmp_ge C (off := 92) (tgt := 124) (zdg dz_R_goOneWeek_0 18 rfl) (by decide) ?_ ?_
    · refine vf_iconst C (z := 0) (zdg dz_R_goOneWeek_2 22 rfl) (jz rfl) ?_
      refine vf_istore_n C (f := 1) (L' := [(0, (2, 44))]) (zdg dz_R_goOneWeek_2 23 rfl) [0] (jrI rfl rfl) hn (by decide) rfl ?_
      exact vf_perm [1, 0] rfl (t_R_goOneWeek_126 C hn hR hr FU _ _)
    · refine vf_aload_n C (f := 0) (zdg dz_R_goOneWeek_0 19 rfl) 0 rfl rfl ?_
      refine vf_getp C fl_R_98 sh_43 rfl (by decide) rfl (x := 70) rfl (zdg dz_R_goOneWeek_0 20 rfl) ?_
      refine vf_iload_n C (f := 1) (zdg dz_R_goOneWeek_0 21 rfl) 1 rfl rfl ?_
      refine vf_iald C sh_69 (by decide) rfl (mz := 3000) rfl (zdg dz_R_goOneWeek_0 22 rfl) ?_
      refine vf_ldcw C (z := 1000000) (i := 348) (zdg dz_R_goOneWeek_0 23 rfl) kc_R_348 (by decide +kernel) (jz rfl) ?_
      refine vf_icmp_ne C (off := 6) (tgt := 50) (zdg dz_R_goOneWeek_1 0 rfl) (by decide) ?_ ?_
      · refine vf_aload_n C (f := 0) (zdg dz_R_goOneWeek_1 2 rfl) 0 rfl rfl ?_
        refine vf_getp C fl_R_82 sh_43 rfl (by decide) rfl (x := 65) rfl (zdg dz_R_goOneWeek_1 3 rfl) ?_
        refine vf_iload_n C (f := 1) (zdg dz_R_goOneWeek_1 4 rfl) 1 rfl rfl ?_
        refine vf_iald C sh_64 (by decide) rfl (mz := 3001) rfl (zdg dz_R_goOneWeek_1 5 rfl) ?_
        generalize w 64 v1.toNat = x3
        refine vf_ul ?_
        refine vf_istore_n C (f := 2) (L' := [(0, (2, 44)), (1, (0, v1))]) (zdg dz_R_goOneWeek_1 6 rfl) [0, 1] (jrI rfl rfl) hn (by decide) rfl ?_
        exact vf_perm [1, 2, 0] rfl (t_R_goOneWeek_57 C hn hR hr ih FU _ _ _)
      · refine vf_goto C (off := 71) (tgt := 118) (zdg dz_R_goOneWeek_1 1 rfl) (by decide) ?_
        exact t_R_goOneWeek_118 C hn hR hr ih _ _
def f_R_goOneWeek_2 : Nat → Int → Wd → Option (Int × Wd)
  | 0, _, _ => none
  | n + 1, v1, w =>
    if (w 43 40) ≤ v1 then
      f_R_goOneWeek_27 FU 0 w
    else
      jgd ((0 : Int) ≤ v1 ∧ v1 < 3000) <|
      jlw (st w 70 v1.toNat 1000000) fun u9 =>
      jlet (w32 (v1 + 1)) fun x10 =>
      f_R_goOneWeek_2 n x10 u9
theorem t_R_goOneWeek_2 {X : jX} {Qf : Int × Wd → State → Prop} {ad : Nat → Nat} (C : Cx X prog_14_method_66_code "EachBringsAnotherModel") (hn : xn X = 3) (hR : xR X = rmD 3) (hr : Rt X Qf ad prog_14_method_66_code 9) : ∀ (n : Nat) (v1 : Int) (w : Wd), VF X Qf ad NF 0 0 w 2 [(0, (2, 44)), (1, (0, v1))] [] (f_R_goOneWeek_2 n v1 w) := by
  intro n
  induction n with
  | zero => intros; exact vf_no
  | succ n ih =>
    intro v1 w
    rw [f_R_goOneWeek_2]
    refine vf_iload_n C (f := 1) (zdg dz_R_goOneWeek_0 2 rfl) 1 rfl rfl ?_
    refine vf_aload_n C (f := 0) (zdg dz_R_goOneWeek_0 3 rfl) 0 rfl rfl ?_
    refine vf_get C (kd := 0) fl_R_314 sh_43 rfl (by decide) rfl rfl (zdg dz_R_goOneWeek_0 4 rfl) ?_
    refine vf_icmp_ge C (off := 18) (tgt := 25) (zdg dz_R_goOneWeek_0 5 rfl) (by decide) ?_ ?_
    · refine vf_iconst C (z := 0) (zdg dz_R_goOneWeek_0 13 rfl) (jz rfl) ?_
      refine vf_istore_n C (f := 1) (L' := [(0, (2, 44))]) (zdg dz_R_goOneWeek_0 14 rfl) [0] (jrI rfl rfl) hn (by decide) rfl ?_
      exact vf_perm [1, 0] rfl (t_R_goOneWeek_27 C hn hR hr FU _ _)
    · refine vf_aload_n C (f := 0) (zdg dz_R_goOneWeek_0 6 rfl) 0 rfl rfl ?_
      refine vf_getp C fl_R_101 sh_43 rfl (by decide) rfl (x := 71) rfl (zdg dz_R_goOneWeek_0 7 rfl) ?_
      refine vf_iload_n C (f := 1) (zdg dz_R_goOneWeek_0 8 rfl) 1 rfl rfl ?_
      refine vf_ldcw C (z := 1000000) (i := 348) (zdg dz_R_goOneWeek_0 9 rfl) kc_R_348 (by decide +kernel) (jz rfl) ?_
      refine vf_iast C sh_70 (by decide) rfl (mz := 3000) rfl (zdg dz_R_goOneWeek_0 10 rfl) ?_
      generalize st w 70 v1.toNat 1000000 = u9
      refine vf_uw ?_
      refine vf_iinc C (z := 1) (L' := [(0, (2, 44))]) (zdg dz_R_goOneWeek_0 11 rfl) 1 rfl [0] (jrI rfl rfl) hn (by decide) ?_
      generalize w32 (v1 + 1) = x10
      refine vf_ul ?_
      refine vf_goto C (off := (-20)) (tgt := 2) (zdg dz_R_goOneWeek_0 12 rfl) (by decide) ?_
      exact vf_perm [1, 0] rfl (ih _ _)
def f_R_goOneWeek (w : Wd) : Option (Int × Wd) :=
  f_R_goOneWeek_2 FU 0 w
theorem ct_R_goOneWeek (w : Wd) : Ct y_R_goOneWeek prog_14_method_66_code 3 none 3 9 [(2, 44)] w (f_R_goOneWeek w) := by
  refine ct_of (by decide +kernel) (Or.inr (Or.inr (Or.inr ⟨rfl, rfl⟩))) (Nat.le_of_ble_eq_true rfl) ?_
  intro X Qf ad C hn hR hr
  unfold f_R_goOneWeek
  show VF X Qf ad NF 0 0 w 0 [(0, (2, 44))] [] _
  refine vf_iconst C (z := 0) (zdg dz_R_goOneWeek_0 0 rfl) (jz rfl) ?_
  refine vf_istore_n C (f := 1) (L' := [(0, (2, 44))]) (zdg dz_R_goOneWeek_0 1 rfl) [0] (jrI rfl rfl) hn (by decide) rfl ?_
  exact vf_perm [1, 0] rfl (t_R_goOneWeek_2 C hn hR hr FU _ _)
def f_R_findWeek_16 : Nat → Int → Int → Wd → Option (Int × Wd)
  | 0, _, _, _ => none
  | n + 1, v1, v2, w =>
    if v1 ≤ v2 then
      some (1, w)
    else
      jcall (f_R_goOneWeek w) fun r5 u6 =>
      jlet (w32 (v2 + 1)) fun x7 =>
      f_R_findWeek_16 n v1 x7 u6
theorem t_R_findWeek_16 {X : jX} {Qf : Int × Wd → State → Prop} {ad : Nat → Nat} (C : Cx X prog_14_method_67_code "EachBringsAnotherModel") (hn : xn X = 3) (hR : xR X = rmD 20) (hr : Rt X Qf ad prog_14_method_67_code 4) : ∀ (n : Nat) (v1 v2 : Int) (w : Wd), VF X Qf ad NF 0 0 w 16 [(0, (2, 44)), (1, (0, v1)), (2, (0, v2))] [] (f_R_findWeek_16 n v1 v2 w) := by
  intro n
  induction n with
  | zero => intros; exact vf_no
  | succ n ih =>
    intro v1 v2 w
    rw [f_R_findWeek_16]
    refine vf_iload_n C (f := 2) (zdg dz_R_findWeek_0 10 rfl) 2 rfl rfl ?_
    refine vf_iload_n C (f := 1) (zdg dz_R_findWeek_0 11 rfl) 1 rfl rfl ?_
    refine vf_icmp_ge C (off := 13) (tgt := 31) (zdg dz_R_findWeek_0 12 rfl) (by decide) ?_ ?_
    · refine vf_iconst C (z := 1) (zdg dz_R_findWeek_0 17 rfl) (jz rfl) ?_
      exact hr _ _ _ _ (fun _ => Or.inr rfl) (zdg dz_R_findWeek_0 18 rfl)
    · refine vf_aload_n C (f := 0) (zdg dz_R_findWeek_0 13 rfl) 0 rfl rfl ?_
      refine vf_callVv C cy_R_goOneWeek ml_R_355 rfl (ct_R_goOneWeek _) (S := []) sh_43 (by decide) rfl (jrm_of hR rfl) rfl rfl (Nat.le_of_ble_eq_true rfl) (zdg dz_R_findWeek_0 14 rfl) (fun r5 u6 => ?_)
      refine vf_iinc C (z := 1) (L' := [(0, (2, 44)), (1, (0, v1))]) (zdg dz_R_findWeek_0 15 rfl) 2 rfl [0, 1] (jrI rfl rfl) hn (by decide) ?_
      generalize w32 (v2 + 1) = x7
      refine vf_ul ?_
      refine vf_goto C (off := (-12)) (tgt := 16) (zdg dz_R_findWeek_0 16 rfl) (by decide) ?_
      exact vf_perm [1, 2, 0] rfl (ih _ _ _)
def f_R_findWeek (v1 : Int) (w : Wd) : Option (Int × Wd) :=
  jcall (f_R_findStates 0 w) fun r1 u2 =>
  if r1 = 0 then
    some (0, u2)
  else
    jcall (f_R_beginWeeks u2) fun r3 u4 =>
    f_R_findWeek_16 FU v1 0 u4
theorem ct_R_findWeek (v1 : Int) (w : Wd) : Ct y_R_findWeek prog_14_method_67_code 3 (some .boolean) 20 4 [(2, 44), (0, v1)] w (f_R_findWeek v1 w) := by
  refine ct_of (by decide +kernel) (Or.inr (Or.inr (Or.inl ⟨rfl, rfl⟩))) (Nat.le_of_ble_eq_true rfl) ?_
  intro X Qf ad C hn hR hr
  unfold f_R_findWeek
  show VF X Qf ad NF 0 0 w 0 [(0, (2, 44)), (1, (0, v1))] [] _
  refine vf_aload_n C (f := 0) (zdg dz_R_findWeek_0 0 rfl) 0 rfl rfl ?_
  refine vf_iconst C (z := 0) (zdg dz_R_findWeek_0 1 rfl) (jz rfl) ?_
  refine vf_callVz C cy_R_findStates ml_R_342 rfl (ct_R_findStates _ _) (S := []) sh_43 (by decide) rfl (jrm_of hR rfl) rfl rfl (Nat.le_of_ble_eq_true rfl) (zdg dz_R_findWeek_0 2 rfl) (fun r1 u2 => ?_)
  refine vf_if_ne C (off := 5) (tgt := 10) (zdg dz_R_findWeek_0 3 rfl) (by decide) ?_ ?_
  · refine vf_aload_n C (f := 0) (zdg dz_R_findWeek_0 6 rfl) 0 rfl rfl ?_
    refine vf_callVv C cy_R_beginWeeks ml_R_352 rfl (ct_R_beginWeeks _) (S := []) sh_43 (by decide) rfl (jrm_of hR rfl) rfl rfl (Nat.le_of_ble_eq_true rfl) (zdg dz_R_findWeek_0 7 rfl) (fun r3 u4 => ?_)
    refine vf_iconst C (z := 0) (zdg dz_R_findWeek_0 8 rfl) (jz rfl) ?_
    refine vf_istore_n C (f := 2) (L' := [(0, (2, 44)), (1, (0, v1))]) (zdg dz_R_findWeek_0 9 rfl) [0, 1] (jrI rfl rfl) hn (by decide) rfl ?_
    exact vf_perm [1, 2, 0] rfl (t_R_findWeek_16 C hn hR hr FU _ _ _)
  · refine vf_iconst C (z := 0) (zdg dz_R_findWeek_0 4 rfl) (jz rfl) ?_
    exact hr _ _ _ _ (fun _ => Or.inl rfl) (zdg dz_R_findWeek_0 5 rfl)
def f_R_isWeeks (v0 : Int) (w : Wd) : Option (Int × Wd) :=
  jcall (f_R_in v0 0 60 w) fun r1 u2 =>
  if r1 = 0 ∨ r1 = 1 then some (r1, u2) else none
theorem ct_R_isWeeks (v0 : Int) (w : Wd) : Ct y_R_isWeeks prog_14_method_68_code 1 (some .boolean) 2 4 [(0, v0)] w (f_R_isWeeks v0 w) := by
  refine ct_of (by decide +kernel) (Or.inr (Or.inr (Or.inl ⟨rfl, rfl⟩))) (Nat.le_of_ble_eq_true rfl) ?_
  intro X Qf ad C hn hR hr
  unfold f_R_isWeeks
  show VF X Qf ad NF 0 0 w 0 [(0, (0, v0))] [] _
  refine vf_iload_n C (f := 0) (zdg dz_R_isWeeks_0 0 rfl) 0 rfl rfl ?_
  refine vf_iconst C (z := 0) (zdg dz_R_isWeeks_0 1 rfl) (jz rfl) ?_
  refine vf_bipush C (z := 60) (zdg dz_R_isWeeks_0 2 rfl) (by decide +kernel) (jz rfl) ?_
  refine vf_callSz C cy_R_in ml_R_147 (ct_R_in _ _ _ _) (S := []) (jrm_of hR rfl) rfl rfl (Nat.le_of_ble_eq_true rfl) (zdg dz_R_isWeeks_0 3 rfl) (fun r1 u2 => ?_)
  refine vf_if _ (fun h => ?_) (fun _ => vf_no)
  exact hr _ _ _ _ (fun _ => h) (zdg dz_R_isWeeks_0 4 rfl)
def f_R_most_74 (k32 : Int → Int → Int → Wd → Option (Int × Wd)) (v2 v3 v4 : Int) (w : Wd) : Option (Int × Wd) :=
  jlet (w32 (v4 + 1)) fun x15 =>
  k32 v2 v3 x15 w
theorem t_R_most_74 {X : jX} {Qf : Int × Wd → State → Prop} {ad : Nat → Nat} (C : Cx X prog_14_method_69_code "EachBringsAnotherModel") (hn : xn X = 5) (hR : xR X = rmD 21) (hr : Rt X Qf ad prog_14_method_69_code 0) {k32 : Int → Int → Int → Wd → Option (Int × Wd)} (hk32 : ∀ (v2 v3 v4 : Int) (w : Wd), VF X Qf ad NF 0 0 w 32 [(0, (2, 44)), (2, (0, v2)), (3, (0, v3)), (4, (0, v4))] [] (k32 v2 v3 v4 w)) (v2 v3 v4 : Int) (w : Wd) : VF X Qf ad NF 0 0 w 74 [(0, (2, 44)), (2, (0, v2)), (3, (0, v3)), (4, (0, v4))] [] (f_R_most_74 k32 v2 v3 v4 w) := by
  unfold f_R_most_74
  refine vf_iinc C (z := 1) (L' := [(0, (2, 44)), (2, (0, v2)), (3, (0, v3))]) (zdg dz_R_most_1 15 rfl) 3 rfl [0, 1, 2] (jrI rfl rfl) hn (by decide) ?_
  generalize w32 (v4 + 1) = x15
  refine vf_ul ?_
  refine vf_goto C (off := (-45)) (tgt := 32) (zdg dz_R_most_1 16 rfl) (by decide) ?_
  exact vf_perm [1, 2, 3, 0] rfl (hk32 _ _ _ _)
def f_R_most_32 : Nat → Int → Int → Int → Wd → Option (Int × Wd)
  | 0, _, _, _, _ => none
  | n + 1, v2, v3, v4, w =>
    if (w 43 40) ≤ v4 then
      jlw (st w 43 15 0) fun u6 =>
      jcall (f_R_tell v3 u6) fun r7 u8 =>
      some (v2, u8)
    else
      jgd ((0 : Int) ≤ v4 ∧ v4 < 3000) <|
      if (w 69 v4.toNat) = 1000000 then
        f_R_most_74 (f_R_most_32 n) v2 v3 v4 w
      else
        jlet (w32 (v3 + 1)) fun x9 =>
        jcall (f_R_guestsIn v4 w) fun r10 u11 =>
        jcall (f_JI_bitCount r10 u11) fun r12 u13 =>
        jlet (imax v2 r12) fun x14 =>
        f_R_most_74 (f_R_most_32 n) x14 x9 v4 u13
theorem t_R_most_32 {X : jX} {Qf : Int × Wd → State → Prop} {ad : Nat → Nat} (C : Cx X prog_14_method_69_code "EachBringsAnotherModel") (hn : xn X = 5) (hR : xR X = rmD 21) (hr : Rt X Qf ad prog_14_method_69_code 0) : ∀ (n : Nat) (v2 v3 v4 : Int) (w : Wd), VF X Qf ad NF 0 0 w 32 [(0, (2, 44)), (2, (0, v2)), (3, (0, v3)), (4, (0, v4))] [] (f_R_most_32 n v2 v3 v4 w) := by
  intro n
  induction n with
  | zero => intros; exact vf_no
  | succ n ih =>
    intro v2 v3 v4 w
    rw [f_R_most_32]
    refine vf_iload C (zdg dz_R_most_0 20 rfl) 3 rfl ?_
    refine vf_aload_n C (f := 0) (zdg dz_R_most_0 21 rfl) 0 rfl rfl ?_
    refine vf_get C (kd := 0) fl_R_314 sh_43 rfl (by decide) rfl rfl (zdg dz_R_most_0 22 rfl) ?_
    refine vf_icmp_ge C (off := 42) (tgt := 80) (zdg dz_R_most_0 23 rfl) (by decide) ?_ ?_
    · refine vf_aload_n C (f := 0) (zdg dz_R_most_1 17 rfl) 0 rfl rfl ?_
      refine vf_iconst C (z := 0) (zdg dz_R_most_1 18 rfl) (jz rfl) ?_
      refine vf_put C (kd := 0) fl_R_141 fk_11_15 sh_43 rfl (by decide) rfl rfl (by decide) (zdg dz_R_most_1 19 rfl) ?_
      generalize st w 43 15 0 = u6
      refine vf_uw ?_
      refine vf_aload_n C (f := 0) (zdg dz_R_most_1 20 rfl) 0 rfl rfl ?_
      refine vf_iload_n C (f := 3) (zdg dz_R_most_1 21 rfl) 2 rfl rfl ?_
      refine vf_callVv C cy_R_tell ml_R_304 rfl (ct_R_tell _ _) (S := []) sh_43 (by decide) rfl (jrm_of hR rfl) rfl rfl (Nat.le_of_ble_eq_true rfl) (zdg dz_R_most_1 22 rfl) (fun r7 u8 => ?_)
      refine vf_iload_n C (f := 2) (zdg dz_R_most_1 23 rfl) 1 rfl rfl ?_
      exact hr _ _ _ _ (fun h => absurd h (by decide)) (zdg dz_R_most_2 0 rfl)
    · refine vf_aload_n C (f := 0) (zdg dz_R_most_1 0 rfl) 0 rfl rfl ?_
      refine vf_getp C fl_R_98 sh_43 rfl (by decide) rfl (x := 70) rfl (zdg dz_R_most_1 1 rfl) ?_
      refine vf_iload C (zdg dz_R_most_1 2 rfl) 3 rfl ?_
      refine vf_iald C sh_69 (by decide) rfl (mz := 3000) rfl (zdg dz_R_most_1 3 rfl) ?_
      refine vf_ldcw C (z := 1000000) (i := 348) (zdg dz_R_most_1 4 rfl) kc_R_348 (by decide +kernel) (jz rfl) ?_
      refine vf_icmp_ne C (off := 6) (tgt := 57) (zdg dz_R_most_1 5 rfl) (by decide) ?_ ?_
      · refine vf_iinc C (z := 1) (L' := [(0, (2, 44)), (2, (0, v2)), (4, (0, v4))]) (zdg dz_R_most_1 7 rfl) 2 rfl [0, 1, 3] (jrI rfl rfl) hn (by decide) ?_
        generalize w32 (v3 + 1) = x9
        refine vf_ul ?_
        refine vf_iload_n C (f := 2) (zdg dz_R_most_1 8 rfl) 2 rfl rfl ?_
        refine vf_aload_n C (f := 0) (zdg dz_R_most_1 9 rfl) 1 rfl rfl ?_
        refine vf_iload C (zdg dz_R_most_1 10 rfl) 3 rfl ?_
        refine vf_callVi C cy_R_guestsIn ml_R_345 rfl (ct_R_guestsIn _ _) (S := [(0, v2)]) sh_43 (by decide) rfl (jrm_of hR rfl) rfl rfl (Nat.le_of_ble_eq_true rfl) (zdg dz_R_most_1 11 rfl) (fun r10 u11 => ?_)
        refine vf_callSi C cy_JI_bitCount ml_R_242 (ct_JI_bitCount _ _) (S := [(0, v2)]) (jrm_of hR rfl) rfl rfl (Nat.le_of_ble_eq_true rfl) (zdg dz_R_most_1 12 rfl) (fun r12 u13 => ?_)
        refine vf_mmax C ml_R_267 (jrm_n hR (by decide)) ⟨Nat.zero_le _, Nat.zero_le _⟩ (Nat.le_of_ble_eq_true rfl) (zdg dz_R_most_1 13 rfl) ?_
        generalize imax v2 r12 = x14
        refine vf_ul ?_
        refine vf_istore_n C (f := 2) (L' := [(3, (0, x9)), (0, (2, 44)), (4, (0, v4))]) (zdg dz_R_most_1 14 rfl) [0, 1, 3] (jrI rfl rfl) hn (by decide) rfl ?_
        exact vf_perm [2, 0, 1, 3] rfl (t_R_most_74 C hn hR hr ih _ _ _ _)
      · refine vf_goto C (off := 20) (tgt := 74) (zdg dz_R_most_1 6 rfl) (by decide) ?_
        exact t_R_most_74 C hn hR hr ih _ _ _ _
def f_R_most (v1 : Int) (w : Wd) : Option (Int × Wd) :=
  jlw (st w 43 16 0) fun u1 =>
  jcall (f_R_isWeeks v1 u1) fun r2 u3 =>
  if r2 = 0 then
    some ((-1), u3)
  else
    jcall (f_R_findWeek v1 u3) fun r4 u5 =>
    if r4 = 0 then
      some ((-3), u5)
    else
      f_R_most_32 FU 0 0 0 u5
theorem ct_R_most (v1 : Int) (w : Wd) : Ct y_R_most prog_14_method_69_code 5 (some .int) 21 0 [(2, 44), (0, v1)] w (f_R_most v1 w) := by
  refine ct_of (by decide +kernel) (Or.inl ⟨rfl, rfl⟩) (Nat.le_of_ble_eq_true rfl) ?_
  intro X Qf ad C hn hR hr
  unfold f_R_most
  show VF X Qf ad NF 0 0 w 0 [(0, (2, 44)), (1, (0, v1))] [] _
  refine vf_aload_n C (f := 0) (zdg dz_R_most_0 0 rfl) 0 rfl rfl ?_
  refine vf_iconst C (z := 0) (zdg dz_R_most_0 1 rfl) (jz rfl) ?_
  refine vf_put C (kd := 0) fl_R_138 fk_11_16 sh_43 rfl (by decide) rfl rfl (by decide) (zdg dz_R_most_0 2 rfl) ?_
  generalize st w 43 16 0 = u1
  refine vf_uw ?_
  refine vf_iload_n C (f := 1) (zdg dz_R_most_0 3 rfl) 1 rfl rfl ?_
  refine vf_callSz C cy_R_isWeeks ml_R_358 (ct_R_isWeeks _ _) (S := []) (jrm_of hR rfl) rfl rfl (Nat.le_of_ble_eq_true rfl) (zdg dz_R_most_0 4 rfl) (fun r2 u3 => ?_)
  refine vf_if_ne C (off := 5) (tgt := 14) (zdg dz_R_most_0 5 rfl) (by decide) ?_ ?_
  · refine vf_aload_n C (f := 0) (zdg dz_R_most_0 8 rfl) 0 rfl rfl ?_
    refine vf_iload_n C (f := 1) (zdg dz_R_most_0 9 rfl) 1 rfl rfl ?_
    refine vf_callVz C cy_R_findWeek ml_R_361 rfl (ct_R_findWeek _ _) (S := []) sh_43 (by decide) rfl (jrm_of hR rfl) rfl rfl (Nat.le_of_ble_eq_true rfl) (zdg dz_R_most_0 10 rfl) (fun r4 u5 => ?_)
    refine vf_if_ne C (off := 6) (tgt := 25) (zdg dz_R_most_0 11 rfl) (by decide) ?_ ?_
    · refine vf_iconst C (z := 0) (zdg dz_R_most_0 14 rfl) (jz rfl) ?_
      refine vf_istore_n C (f := 2) (L' := [(0, (2, 44))]) (zdg dz_R_most_0 15 rfl) [0] (jrI rfl rfl) hn (by decide) rfl ?_
      refine vf_iconst C (z := 0) (zdg dz_R_most_0 16 rfl) (jz rfl) ?_
      refine vf_istore_n C (f := 3) (L' := [(2, (0, 0)), (0, (2, 44))]) (zdg dz_R_most_0 17 rfl) [0, 1] (jrI rfl rfl) hn (by decide) rfl ?_
      refine vf_iconst C (z := 0) (zdg dz_R_most_0 18 rfl) (jz rfl) ?_
      refine vf_istore C (i := 4) (L' := [(3, (0, 0)), (2, (0, 0)), (0, (2, 44))]) (zdg dz_R_most_0 19 rfl) [0, 1, 2] (jrI rfl rfl) hn (by decide) ?_
      exact vf_perm [3, 2, 1, 0] rfl (t_R_most_32 C hn hR hr FU _ _ _ _)
    · refine vf_bipush C (z := (-3)) (zdg dz_R_most_0 12 rfl) (by decide +kernel) (jz rfl) ?_
      exact hr _ _ _ _ (fun h => absurd h (by decide)) (zdg dz_R_most_0 13 rfl)
  · refine vf_iconst C (z := (-1)) (zdg dz_R_most_0 6 rfl) (jz rfl) ?_
    exact hr _ _ _ _ (fun h => absurd h (by decide)) (zdg dz_R_most_0 7 rfl)
def f_R_reach_119 (v2 s1 : Int) (w : Wd) : Option (Int × Wd) :=
  jcall (f_R_tell s1 w) fun r8 u9 =>
  some (v2, u9)
theorem t_R_reach_119 {X : jX} {Qf : Int × Wd → State → Prop} {ad : Nat → Nat} (C : Cx X prog_14_method_70_code "EachBringsAnotherModel") (hn : xn X = 7) (hR : xR X = rmD 21) (hr : Rt X Qf ad prog_14_method_70_code 0) (v2 s1 : Int) (w : Wd) : VF X Qf ad NF 0 0 w 119 [(2, (0, v2))] [(0, s1), (2, 44)] (f_R_reach_119 v2 s1 w) := by
  unfold f_R_reach_119
  refine vf_callVv C cy_R_tell ml_R_304 rfl (ct_R_tell _ _) (S := []) sh_43 (by decide) rfl (jrm_of hR rfl) rfl rfl (Nat.le_of_ble_eq_true rfl) (zdg dz_R_reach_2 19 rfl) (fun r8 u9 => ?_)
  refine vf_iload_n C (f := 2) (zdg dz_R_reach_2 20 rfl) 0 rfl rfl ?_
  exact hr _ _ _ _ (fun h => absurd h (by decide)) (zdg dz_R_reach_2 21 rfl)
def f_R_reach_97 (k42 : Int → Int → Int → Int → Wd → Option (Int × Wd)) (v2 v3 v4 v5 : Int) (w : Wd) : Option (Int × Wd) :=
  jlet (w32 (v5 + 1)) fun x14 =>
  k42 v2 v3 v4 x14 w
theorem t_R_reach_97 {X : jX} {Qf : Int × Wd → State → Prop} {ad : Nat → Nat} (C : Cx X prog_14_method_70_code "EachBringsAnotherModel") (hn : xn X = 7) (hR : xR X = rmD 21) (hr : Rt X Qf ad prog_14_method_70_code 0) {k42 : Int → Int → Int → Int → Wd → Option (Int × Wd)} (hk42 : ∀ (v2 v3 v4 v5 : Int) (w : Wd), VF X Qf ad NF 0 0 w 42 [(0, (2, 44)), (2, (0, v2)), (3, (0, v3)), (4, (0, v4)), (5, (0, v5))] [] (k42 v2 v3 v4 v5 w)) (v2 v3 v4 v5 : Int) (w : Wd) : VF X Qf ad NF 0 0 w 97 [(0, (2, 44)), (2, (0, v2)), (3, (0, v3)), (4, (0, v4)), (5, (0, v5))] [] (f_R_reach_97 k42 v2 v3 v4 v5 w) := by
  unfold f_R_reach_97
  refine vf_iinc C (z := 1) (L' := [(0, (2, 44)), (2, (0, v2)), (3, (0, v3)), (4, (0, v4))]) (zdg dz_R_reach_2 8 rfl) 4 rfl [0, 1, 2, 3] (jrI rfl rfl) hn (by decide) ?_
  generalize w32 (v5 + 1) = x14
  refine vf_ul ?_
  refine vf_goto C (off := (-58)) (tgt := 42) (zdg dz_R_reach_2 9 rfl) (by decide) ?_
  exact vf_perm [1, 2, 3, 4, 0] rfl (hk42 _ _ _ _ _)
def f_R_reach_74 (k42 : Int → Int → Int → Int → Wd → Option (Int × Wd)) (v2 v3 v4 v5 s0 : Int) (w : Wd) : Option (Int × Wd) :=
  if s0 = 0 then
    f_R_reach_97 k42 v2 v3 v4 v5 w
  else
    jlet (ior v2 s0) fun x12 =>
    jlet (iand v3 s0) fun x13 =>
    f_R_reach_97 k42 x12 x13 1 v5 w
theorem t_R_reach_74 {X : jX} {Qf : Int × Wd → State → Prop} {ad : Nat → Nat} (C : Cx X prog_14_method_70_code "EachBringsAnotherModel") (hn : xn X = 7) (hR : xR X = rmD 21) (hr : Rt X Qf ad prog_14_method_70_code 0) {k42 : Int → Int → Int → Int → Wd → Option (Int × Wd)} (hk42 : ∀ (v2 v3 v4 v5 : Int) (w : Wd), VF X Qf ad NF 0 0 w 42 [(0, (2, 44)), (2, (0, v2)), (3, (0, v3)), (4, (0, v4)), (5, (0, v5))] [] (k42 v2 v3 v4 v5 w)) (v2 v3 v4 v5 s0 : Int) (w : Wd) : VF X Qf ad NF 0 0 w 74 [(0, (2, 44)), (2, (0, v2)), (3, (0, v3)), (4, (0, v4)), (5, (0, v5))] [(0, s0)] (f_R_reach_74 k42 v2 v3 v4 v5 s0 w) := by
  unfold f_R_reach_74
  refine vf_istore C (i := 6) (L' := [(0, (2, 44)), (2, (0, v2)), (3, (0, v3)), (4, (0, v4)), (5, (0, v5))]) (zdg dz_R_reach_1 18 rfl) [0, 1, 2, 3, 4] (jrI rfl rfl) hn (by decide) ?_
  refine vf_iload C (zdg dz_R_reach_1 19 rfl) 0 rfl ?_
  refine vf_if_ne C (off := 6) (tgt := 84) (zdg dz_R_reach_1 20 rfl) (by decide) ?_ ?_
  · refine vf_iconst C (z := 1) (zdg dz_R_reach_1 22 rfl) (jz rfl) ?_
    refine vf_istore C (i := 4) (L' := [(6, (0, s0)), (0, (2, 44)), (2, (0, v2)), (3, (0, v3)), (5, (0, v5))]) (zdg dz_R_reach_1 23 rfl) [0, 1, 2, 3, 5] (jrI rfl rfl) hn (by decide) ?_
    refine vf_iload_n C (f := 2) (zdg dz_R_reach_2 0 rfl) 3 rfl rfl ?_
    refine vf_iload C (zdg dz_R_reach_2 1 rfl) 1 rfl ?_
    refine vf_ior C (zdg dz_R_reach_2 2 rfl) ?_
    generalize ior v2 s0 = x12
    refine vf_ul ?_
    refine vf_istore_n C (f := 2) (L' := [(4, (0, 1)), (6, (0, s0)), (0, (2, 44)), (3, (0, v3)), (5, (0, v5))]) (zdg dz_R_reach_2 3 rfl) [0, 1, 2, 4, 5] (jrI rfl rfl) hn (by decide) rfl ?_
    refine vf_iload_n C (f := 3) (zdg dz_R_reach_2 4 rfl) 4 rfl rfl ?_
    refine vf_iload C (zdg dz_R_reach_2 5 rfl) 2 rfl ?_
    refine vf_iand C (zdg dz_R_reach_2 6 rfl) ?_
    generalize iand v3 s0 = x13
    refine vf_ul ?_
    refine vf_istore_n C (f := 3) (L' := [(2, (0, x12)), (4, (0, 1)), (0, (2, 44)), (5, (0, v5))]) (zdg dz_R_reach_2 7 rfl) [0, 1, 3, 5] (jrI rfl rfl) hn (by decide) rfl ?_
    exact vf_perm [3, 1, 0, 2, 4] rfl (t_R_reach_97 C hn hR hr hk42 _ _ _ _ _)
  · refine vf_goto C (off := 16) (tgt := 97) (zdg dz_R_reach_1 21 rfl) (by decide) ?_
    exact vf_perm [1, 2, 3, 4, 5] rfl (t_R_reach_97 C hn hR hr hk42 _ _ _ _ _)
def f_R_reach_42 : Nat → Int → Int → Int → Int → Wd → Option (Int × Wd)
  | 0, _, _, _, _, _ => none
  | n + 1, v2, v3, v4, v5, w =>
    if (w 43 40) ≤ v5 then
      jlw (st w 43 15 0) fun u7 =>
      if v4 = 0 then
        f_R_reach_119 v2 0 u7
      else
        f_R_reach_119 v2 v3 u7
    else
      jgd ((0 : Int) ≤ v5 ∧ v5 < 3000) <|
      if (w 69 v5.toNat) = 1000000 then
        f_R_reach_74 (f_R_reach_42 n) v2 v3 v4 v5 0 w
      else
        jcall (f_R_guestsIn v5 w) fun r10 u11 =>
        f_R_reach_74 (f_R_reach_42 n) v2 v3 v4 v5 r10 u11
theorem t_R_reach_42 {X : jX} {Qf : Int × Wd → State → Prop} {ad : Nat → Nat} (C : Cx X prog_14_method_70_code "EachBringsAnotherModel") (hn : xn X = 7) (hR : xR X = rmD 21) (hr : Rt X Qf ad prog_14_method_70_code 0) : ∀ (n : Nat) (v2 v3 v4 v5 : Int) (w : Wd), VF X Qf ad NF 0 0 w 42 [(0, (2, 44)), (2, (0, v2)), (3, (0, v3)), (4, (0, v4)), (5, (0, v5))] [] (f_R_reach_42 n v2 v3 v4 v5 w) := by
  intro n
  induction n with
  | zero => intros; exact vf_no
  | succ n ih =>
    intro v2 v3 v4 v5 w
    rw [f_R_reach_42]
    refine vf_iload C (zdg dz_R_reach_1 3 rfl) 4 rfl ?_
    refine vf_aload_n C (f := 0) (zdg dz_R_reach_1 4 rfl) 0 rfl rfl ?_
    refine vf_get C (kd := 0) fl_R_314 sh_43 rfl (by decide) rfl rfl (zdg dz_R_reach_1 5 rfl) ?_
    refine vf_icmp_ge C (off := 55) (tgt := 103) (zdg dz_R_reach_1 6 rfl) (by decide) ?_ ?_
    · refine vf_aload_n C (f := 0) (zdg dz_R_reach_2 10 rfl) 0 rfl rfl ?_
      refine vf_iconst C (z := 0) (zdg dz_R_reach_2 11 rfl) (jz rfl) ?_
      refine vf_put C (kd := 0) fl_R_141 fk_11_15 sh_43 rfl (by decide) rfl rfl (by decide) (zdg dz_R_reach_2 12 rfl) ?_
      generalize st w 43 15 0 = u7
      refine vf_uw ?_
      refine vf_aload_n C (f := 0) (zdg dz_R_reach_2 13 rfl) 0 rfl rfl ?_
      refine vf_iload C (zdg dz_R_reach_2 14 rfl) 3 rfl ?_
      refine vf_if_eq C (off := 7) (tgt := 118) (zdg dz_R_reach_2 15 rfl) (by decide) ?_ ?_
      · refine vf_iconst C (z := 0) (zdg dz_R_reach_2 18 rfl) (jz rfl) ?_
        exact vf_perm [1] rfl (t_R_reach_119 C hn hR hr _ _ _)
      · refine vf_iload_n C (f := 3) (zdg dz_R_reach_2 16 rfl) 2 rfl rfl ?_
        refine vf_goto C (off := 4) (tgt := 119) (zdg dz_R_reach_2 17 rfl) (by decide) ?_
        exact vf_perm [1] rfl (t_R_reach_119 C hn hR hr _ _ _)
    · refine vf_aload_n C (f := 0) (zdg dz_R_reach_1 7 rfl) 0 rfl rfl ?_
      refine vf_getp C fl_R_98 sh_43 rfl (by decide) rfl (x := 70) rfl (zdg dz_R_reach_1 8 rfl) ?_
      refine vf_iload C (zdg dz_R_reach_1 9 rfl) 4 rfl ?_
      refine vf_iald C sh_69 (by decide) rfl (mz := 3000) rfl (zdg dz_R_reach_1 10 rfl) ?_
      refine vf_ldcw C (z := 1000000) (i := 348) (zdg dz_R_reach_1 11 rfl) kc_R_348 (by decide +kernel) (jz rfl) ?_
      refine vf_icmp_ne C (off := 7) (tgt := 68) (zdg dz_R_reach_1 12 rfl) (by decide) ?_ ?_
      · refine vf_aload_n C (f := 0) (zdg dz_R_reach_1 15 rfl) 0 rfl rfl ?_
        refine vf_iload C (zdg dz_R_reach_1 16 rfl) 4 rfl ?_
        refine vf_callVi C cy_R_guestsIn ml_R_345 rfl (ct_R_guestsIn _ _) (S := []) sh_43 (by decide) rfl (jrm_of hR rfl) rfl rfl (Nat.le_of_ble_eq_true rfl) (zdg dz_R_reach_1 17 rfl) (fun r10 u11 => ?_)
        exact t_R_reach_74 C hn hR hr ih _ _ _ _ _ _
      · refine vf_iconst C (z := 0) (zdg dz_R_reach_1 13 rfl) (jz rfl) ?_
        refine vf_goto C (off := 9) (tgt := 74) (zdg dz_R_reach_1 14 rfl) (by decide) ?_
        exact t_R_reach_74 C hn hR hr ih _ _ _ _ _ _
def f_R_reach (v1 : Int) (w : Wd) : Option (Int × Wd) :=
  jlw (st w 43 16 0) fun u1 =>
  jcall (f_R_isWeeks v1 u1) fun r2 u3 =>
  if r2 = 0 then
    some ((-1), u3)
  else
    jcall (f_R_findWeek v1 u3) fun r4 u5 =>
    if r4 = 0 then
      some ((-3), u5)
    else
      jlet (w32 ((ishl 1 (u5 43 0)) - 1)) fun x6 =>
      f_R_reach_42 FU 0 x6 0 0 u5
theorem ct_R_reach (v1 : Int) (w : Wd) : Ct y_R_reach prog_14_method_70_code 7 (some .int) 21 0 [(2, 44), (0, v1)] w (f_R_reach v1 w) := by
  refine ct_of (by decide +kernel) (Or.inl ⟨rfl, rfl⟩) (Nat.le_of_ble_eq_true rfl) ?_
  intro X Qf ad C hn hR hr
  unfold f_R_reach
  show VF X Qf ad NF 0 0 w 0 [(0, (2, 44)), (1, (0, v1))] [] _
  refine vf_aload_n C (f := 0) (zdg dz_R_reach_0 0 rfl) 0 rfl rfl ?_
  refine vf_iconst C (z := 0) (zdg dz_R_reach_0 1 rfl) (jz rfl) ?_
  refine vf_put C (kd := 0) fl_R_138 fk_11_16 sh_43 rfl (by decide) rfl rfl (by decide) (zdg dz_R_reach_0 2 rfl) ?_
  generalize st w 43 16 0 = u1
  refine vf_uw ?_
  refine vf_iload_n C (f := 1) (zdg dz_R_reach_0 3 rfl) 1 rfl rfl ?_
  refine vf_callSz C cy_R_isWeeks ml_R_358 (ct_R_isWeeks _ _) (S := []) (jrm_of hR rfl) rfl rfl (Nat.le_of_ble_eq_true rfl) (zdg dz_R_reach_0 4 rfl) (fun r2 u3 => ?_)
  refine vf_if_ne C (off := 5) (tgt := 14) (zdg dz_R_reach_0 5 rfl) (by decide) ?_ ?_
  · refine vf_aload_n C (f := 0) (zdg dz_R_reach_0 8 rfl) 0 rfl rfl ?_
    refine vf_iload_n C (f := 1) (zdg dz_R_reach_0 9 rfl) 1 rfl rfl ?_
    refine vf_callVz C cy_R_findWeek ml_R_361 rfl (ct_R_findWeek _ _) (S := []) sh_43 (by decide) rfl (jrm_of hR rfl) rfl rfl (Nat.le_of_ble_eq_true rfl) (zdg dz_R_reach_0 10 rfl) (fun r4 u5 => ?_)
    refine vf_if_ne C (off := 6) (tgt := 25) (zdg dz_R_reach_0 11 rfl) (by decide) ?_ ?_
    · refine vf_iconst C (z := 0) (zdg dz_R_reach_0 14 rfl) (jz rfl) ?_
      refine vf_istore_n C (f := 2) (L' := [(0, (2, 44))]) (zdg dz_R_reach_0 15 rfl) [0] (jrI rfl rfl) hn (by decide) rfl ?_
      refine vf_iconst C (z := 1) (zdg dz_R_reach_0 16 rfl) (jz rfl) ?_
      refine vf_aload_n C (f := 0) (zdg dz_R_reach_0 17 rfl) 1 rfl rfl ?_
      refine vf_get C (kd := 0) fl_R_144 sh_43 rfl (by decide) rfl rfl (zdg dz_R_reach_0 18 rfl) ?_
      refine vf_ishl C (zdg dz_R_reach_0 19 rfl) ?_
      refine vf_iconst C (z := 1) (zdg dz_R_reach_0 20 rfl) (jz rfl) ?_
      refine vf_isub C (zdg dz_R_reach_0 21 rfl) ?_
      generalize w32 ((ishl 1 (u5 43 0)) - 1) = x6
      refine vf_ul ?_
      refine vf_istore_n C (f := 3) (L' := [(2, (0, 0)), (0, (2, 44))]) (zdg dz_R_reach_0 22 rfl) [0, 1] (jrI rfl rfl) hn (by decide) rfl ?_
      refine vf_iconst C (z := 0) (zdg dz_R_reach_0 23 rfl) (jz rfl) ?_
      refine vf_istore C (i := 4) (L' := [(3, (0, x6)), (2, (0, 0)), (0, (2, 44))]) (zdg dz_R_reach_1 0 rfl) [0, 1, 2] (jrI rfl rfl) hn (by decide) ?_
      refine vf_iconst C (z := 0) (zdg dz_R_reach_1 1 rfl) (jz rfl) ?_
      refine vf_istore C (i := 5) (L' := [(4, (0, 0)), (3, (0, x6)), (2, (0, 0)), (0, (2, 44))]) (zdg dz_R_reach_1 2 rfl) [0, 1, 2, 3] (jrI rfl rfl) hn (by decide) ?_
      exact vf_perm [4, 3, 2, 1, 0] rfl (t_R_reach_42 C hn hR hr FU _ _ _ _ _)
    · refine vf_bipush C (z := (-3)) (zdg dz_R_reach_0 12 rfl) (by decide +kernel) (jz rfl) ?_
      exact hr _ _ _ _ (fun h => absurd h (by decide)) (zdg dz_R_reach_0 13 rfl)
  · refine vf_iconst C (z := (-1)) (zdg dz_R_reach_0 6 rfl) (jz rfl) ?_
    exact hr _ _ _ _ (fun h => absurd h (by decide)) (zdg dz_R_reach_0 7 rfl)
def f_R_fewest_72 (k31 : Int → Int → Wd → Option (Int × Wd)) (v2 v3 : Int) (w : Wd) : Option (Int × Wd) :=
  jlet (w32 (v3 + 1)) fun x6 =>
  k31 v2 x6 w
theorem t_R_fewest_72 {X : jX} {Qf : Int × Wd → State → Prop} {ad : Nat → Nat} (C : Cx X prog_14_method_71_code "EachBringsAnotherModel") (hn : xn X = 4) (hR : xR X = rmD 21) (hr : Rt X Qf ad prog_14_method_71_code 0) {k31 : Int → Int → Wd → Option (Int × Wd)} (hk31 : ∀ (v2 v3 : Int) (w : Wd), VF X Qf ad NF 0 0 w 31 [(0, (2, 44)), (2, (0, v2)), (3, (0, v3))] [] (k31 v2 v3 w)) (v2 v3 : Int) (w : Wd) : VF X Qf ad NF 0 0 w 72 [(0, (2, 44)), (2, (0, v2)), (3, (0, v3))] [] (f_R_fewest_72 k31 v2 v3 w) := by
  unfold f_R_fewest_72
  refine vf_iinc C (z := 1) (L' := [(0, (2, 44)), (2, (0, v2))]) (zdg dz_R_fewest_1 15 rfl) 2 rfl [0, 1] (jrI rfl rfl) hn (by decide) ?_
  generalize w32 (v3 + 1) = x6
  refine vf_ul ?_
  refine vf_goto C (off := (-44)) (tgt := 31) (zdg dz_R_fewest_1 16 rfl) (by decide) ?_
  exact vf_perm [1, 2, 0] rfl (hk31 _ _ _)
def f_R_fewest_31 : Nat → Int → Int → Wd → Option (Int × Wd)
  | 0, _, _, _ => none
  | n + 1, v2, v3, w =>
    if (w 43 40) ≤ v3 then
      if v2 = 1000000 then
        some ((-2), w)
      else
        some (v2, w)
    else
      jgd ((0 : Int) ≤ v3 ∧ v3 < 3000) <|
      if (1000000 : Int) ≤ (w 69 v3.toNat) then
        f_R_fewest_72 (f_R_fewest_31 n) v2 v3 w
      else
        jcall (f_R_guestsIn v3 w) fun r7 u8 =>
        if r7 = 0 then
          f_R_fewest_72 (f_R_fewest_31 n) v2 v3 u8
        else
          jcall (f_R_guestsIn v3 u8) fun r9 u10 =>
          jcall (f_JI_bitCount r9 u10) fun r11 u12 =>
          jlet (imin v2 r11) fun x13 =>
          f_R_fewest_72 (f_R_fewest_31 n) x13 v3 u12
theorem t_R_fewest_31 {X : jX} {Qf : Int × Wd → State → Prop} {ad : Nat → Nat} (C : Cx X prog_14_method_71_code "EachBringsAnotherModel") (hn : xn X = 4) (hR : xR X = rmD 21) (hr : Rt X Qf ad prog_14_method_71_code 0) : ∀ (n : Nat) (v2 v3 : Int) (w : Wd), VF X Qf ad NF 0 0 w 31 [(0, (2, 44)), (2, (0, v2)), (3, (0, v3))] [] (f_R_fewest_31 n v2 v3 w) := by
  intro n
  induction n with
  | zero => intros; exact vf_no
  | succ n ih =>
    intro v2 v3 w
    rw [f_R_fewest_31]
    refine vf_iload_n C (f := 3) (zdg dz_R_fewest_0 18 rfl) 2 rfl rfl ?_
    refine vf_aload_n C (f := 0) (zdg dz_R_fewest_0 19 rfl) 0 rfl rfl ?_
    refine vf_get C (kd := 0) fl_R_314 sh_43 rfl (by decide) rfl rfl (zdg dz_R_fewest_0 20 rfl) ?_
    refine vf_icmp_ge C (off := 42) (tgt := 78) (zdg dz_R_fewest_0 21 rfl) (by decide) ?_ ?_
    · refine vf_iload_n C (f := 2) (zdg dz_R_fewest_1 17 rfl) 1 rfl rfl ?_
      refine vf_ldcw C (z := 1000000) (i := 348) (zdg dz_R_fewest_1 18 rfl) kc_R_348 (by decide +kernel) (jz rfl) ?_
      refine vf_icmp_ne C (off := 8) (tgt := 90) (zdg dz_R_fewest_1 19 rfl) (by decide) ?_ ?_
      · refine vf_iload_n C (f := 2) (zdg dz_R_fewest_1 22 rfl) 1 rfl rfl ?_
        exact hr _ _ _ _ (fun h => absurd h (by decide)) (zdg dz_R_fewest_1 23 rfl)
      · refine vf_bipush C (z := (-2)) (zdg dz_R_fewest_1 20 rfl) (by decide +kernel) (jz rfl) ?_
        refine vf_goto C (off := 4) (tgt := 91) (zdg dz_R_fewest_1 21 rfl) (by decide) ?_
        exact hr _ _ _ _ (fun h => absurd h (by decide)) (zdg dz_R_fewest_1 23 rfl)
    · refine vf_aload_n C (f := 0) (zdg dz_R_fewest_0 22 rfl) 0 rfl rfl ?_
      refine vf_getp C fl_R_98 sh_43 rfl (by decide) rfl (x := 70) rfl (zdg dz_R_fewest_0 23 rfl) ?_
      refine vf_iload_n C (f := 3) (zdg dz_R_fewest_1 0 rfl) 2 rfl rfl ?_
      refine vf_iald C sh_69 (by decide) rfl (mz := 3000) rfl (zdg dz_R_fewest_1 1 rfl) ?_
      refine vf_ldcw C (z := 1000000) (i := 348) (zdg dz_R_fewest_1 2 rfl) kc_R_348 (by decide +kernel) (jz rfl) ?_
      refine vf_icmp_ge C (off := 24) (tgt := 72) (zdg dz_R_fewest_1 3 rfl) (by decide) ?_ ?_
      · exact t_R_fewest_72 C hn hR hr ih _ _ _
      · refine vf_aload_n C (f := 0) (zdg dz_R_fewest_1 4 rfl) 0 rfl rfl ?_
        refine vf_iload_n C (f := 3) (zdg dz_R_fewest_1 5 rfl) 2 rfl rfl ?_
        refine vf_callVi C cy_R_guestsIn ml_R_345 rfl (ct_R_guestsIn _ _) (S := []) sh_43 (by decide) rfl (jrm_of hR rfl) rfl rfl (Nat.le_of_ble_eq_true rfl) (zdg dz_R_fewest_1 6 rfl) (fun r7 u8 => ?_)
        refine vf_if_eq C (off := 16) (tgt := 72) (zdg dz_R_fewest_1 7 rfl) (by decide) ?_ ?_
        · exact t_R_fewest_72 C hn hR hr ih _ _ _
        · refine vf_iload_n C (f := 2) (zdg dz_R_fewest_1 8 rfl) 1 rfl rfl ?_
          refine vf_aload_n C (f := 0) (zdg dz_R_fewest_1 9 rfl) 0 rfl rfl ?_
          refine vf_iload_n C (f := 3) (zdg dz_R_fewest_1 10 rfl) 2 rfl rfl ?_
          refine vf_callVi C cy_R_guestsIn ml_R_345 rfl (ct_R_guestsIn _ _) (S := [(0, v2)]) sh_43 (by decide) rfl (jrm_of hR rfl) rfl rfl (Nat.le_of_ble_eq_true rfl) (zdg dz_R_fewest_1 11 rfl) (fun r9 u10 => ?_)
          refine vf_callSi C cy_JI_bitCount ml_R_242 (ct_JI_bitCount _ _) (S := [(0, v2)]) (jrm_of hR rfl) rfl rfl (Nat.le_of_ble_eq_true rfl) (zdg dz_R_fewest_1 12 rfl) (fun r11 u12 => ?_)
          refine vf_mmin C ml_R_262 (jrm_n hR (by decide)) ⟨Nat.zero_le _, Nat.zero_le _⟩ (Nat.le_of_ble_eq_true rfl) (zdg dz_R_fewest_1 13 rfl) ?_
          generalize imin v2 r11 = x13
          refine vf_ul ?_
          refine vf_istore_n C (f := 2) (L' := [(0, (2, 44)), (3, (0, v3))]) (zdg dz_R_fewest_1 14 rfl) [0, 2] (jrI rfl rfl) hn (by decide) rfl ?_
          exact vf_perm [1, 0, 2] rfl (t_R_fewest_72 C hn hR hr ih _ _ _)
def f_R_fewest (v1 : Int) (w : Wd) : Option (Int × Wd) :=
  jlw (st w 43 16 0) fun u1 =>
  jcall (f_R_isWeeks v1 u1) fun r2 u3 =>
  if r2 = 0 then
    some ((-1), u3)
  else
    jcall (f_R_findWeek v1 u3) fun r4 u5 =>
    if r4 = 0 then
      some ((-3), u5)
    else
      f_R_fewest_31 FU 1000000 0 u5
theorem ct_R_fewest (v1 : Int) (w : Wd) : Ct y_R_fewest prog_14_method_71_code 4 (some .int) 21 0 [(2, 44), (0, v1)] w (f_R_fewest v1 w) := by
  refine ct_of (by decide +kernel) (Or.inl ⟨rfl, rfl⟩) (Nat.le_of_ble_eq_true rfl) ?_
  intro X Qf ad C hn hR hr
  unfold f_R_fewest
  show VF X Qf ad NF 0 0 w 0 [(0, (2, 44)), (1, (0, v1))] [] _
  refine vf_aload_n C (f := 0) (zdg dz_R_fewest_0 0 rfl) 0 rfl rfl ?_
  refine vf_iconst C (z := 0) (zdg dz_R_fewest_0 1 rfl) (jz rfl) ?_
  refine vf_put C (kd := 0) fl_R_138 fk_11_16 sh_43 rfl (by decide) rfl rfl (by decide) (zdg dz_R_fewest_0 2 rfl) ?_
  generalize st w 43 16 0 = u1
  refine vf_uw ?_
  refine vf_iload_n C (f := 1) (zdg dz_R_fewest_0 3 rfl) 1 rfl rfl ?_
  refine vf_callSz C cy_R_isWeeks ml_R_358 (ct_R_isWeeks _ _) (S := []) (jrm_of hR rfl) rfl rfl (Nat.le_of_ble_eq_true rfl) (zdg dz_R_fewest_0 4 rfl) (fun r2 u3 => ?_)
  refine vf_if_ne C (off := 5) (tgt := 14) (zdg dz_R_fewest_0 5 rfl) (by decide) ?_ ?_
  · refine vf_aload_n C (f := 0) (zdg dz_R_fewest_0 8 rfl) 0 rfl rfl ?_
    refine vf_iload_n C (f := 1) (zdg dz_R_fewest_0 9 rfl) 1 rfl rfl ?_
    refine vf_callVz C cy_R_findWeek ml_R_361 rfl (ct_R_findWeek _ _) (S := []) sh_43 (by decide) rfl (jrm_of hR rfl) rfl rfl (Nat.le_of_ble_eq_true rfl) (zdg dz_R_fewest_0 10 rfl) (fun r4 u5 => ?_)
    refine vf_if_ne C (off := 6) (tgt := 25) (zdg dz_R_fewest_0 11 rfl) (by decide) ?_ ?_
    · refine vf_ldcw C (z := 1000000) (i := 348) (zdg dz_R_fewest_0 14 rfl) kc_R_348 (by decide +kernel) (jz rfl) ?_
      refine vf_istore_n C (f := 2) (L' := [(0, (2, 44))]) (zdg dz_R_fewest_0 15 rfl) [0] (jrI rfl rfl) hn (by decide) rfl ?_
      refine vf_iconst C (z := 0) (zdg dz_R_fewest_0 16 rfl) (jz rfl) ?_
      refine vf_istore_n C (f := 3) (L' := [(2, (0, 1000000)), (0, (2, 44))]) (zdg dz_R_fewest_0 17 rfl) [0, 1] (jrI rfl rfl) hn (by decide) rfl ?_
      exact vf_perm [2, 1, 0] rfl (t_R_fewest_31 C hn hR hr FU _ _ _)
    · refine vf_bipush C (z := (-3)) (zdg dz_R_fewest_0 12 rfl) (by decide +kernel) (jz rfl) ?_
      exact hr _ _ _ _ (fun h => absurd h (by decide)) (zdg dz_R_fewest_0 13 rfl)
  · refine vf_iconst C (z := (-1)) (zdg dz_R_fewest_0 6 rfl) (jz rfl) ?_
    exact hr _ _ _ _ (fun h => absurd h (by decide)) (zdg dz_R_fewest_0 7 rfl)
def f_R_leastPaid_37 (k6 : Int → Int → Int → Wd → Option (Int × Wd)) (v1 v2 v3 : Int) (w : Wd) : Option (Int × Wd) :=
  jlet (w32 (v3 + 1)) fun x5 =>
  k6 v1 v2 x5 w
theorem t_R_leastPaid_37 {X : jX} {Qf : Int × Wd → State → Prop} {ad : Nat → Nat} (C : Cx X prog_14_method_73_code "EachBringsAnotherModel") (hn : xn X = 4) (hR : xR X = rmD 3) (hr : Rt X Qf ad prog_14_method_73_code 0) {k6 : Int → Int → Int → Wd → Option (Int × Wd)} (hk6 : ∀ (v1 v2 v3 : Int) (w : Wd), VF X Qf ad NF 0 0 w 6 [(0, (2, 44)), (1, (0, v1)), (2, (0, v2)), (3, (0, v3))] [] (k6 v1 v2 v3 w)) (v1 v2 v3 : Int) (w : Wd) : VF X Qf ad NF 0 0 w 37 [(0, (2, 44)), (1, (0, v1)), (2, (0, v2)), (3, (0, v3))] [] (f_R_leastPaid_37 k6 v1 v2 v3 w) := by
  unfold f_R_leastPaid_37
  refine vf_iinc C (z := 1) (L' := [(0, (2, 44)), (1, (0, v1)), (2, (0, v2))]) (zdg dz_R_leastPaid_0 21 rfl) 3 rfl [0, 1, 2] (jrI rfl rfl) hn (by decide) ?_
  generalize w32 (v3 + 1) = x5
  refine vf_ul ?_
  refine vf_goto C (off := (-34)) (tgt := 6) (zdg dz_R_leastPaid_0 22 rfl) (by decide) ?_
  exact vf_perm [1, 2, 3, 0] rfl (hk6 _ _ _ _)
def f_R_leastPaid_6 : Nat → Int → Int → Int → Wd → Option (Int × Wd)
  | 0, _, _, _, _ => none
  | n + 1, v1, v2, v3, w =>
    if (w 43 40) ≤ v3 then
      some (v2, w)
    else
      jcall (f_R_guestsIn v3 w) fun r1 u2 =>
      jcall (f_JI_bitCount r1 u2) fun r3 u4 =>
      if r3 = v1 then
        jgd ((0 : Int) ≤ v3 ∧ v3 < 3000) <|
        jlet (imin v2 (u4 69 v3.toNat)) fun x6 =>
        f_R_leastPaid_37 (f_R_leastPaid_6 n) v1 x6 v3 u4
      else
        f_R_leastPaid_37 (f_R_leastPaid_6 n) v1 v2 v3 u4
theorem t_R_leastPaid_6 {X : jX} {Qf : Int × Wd → State → Prop} {ad : Nat → Nat} (C : Cx X prog_14_method_73_code "EachBringsAnotherModel") (hn : xn X = 4) (hR : xR X = rmD 3) (hr : Rt X Qf ad prog_14_method_73_code 0) : ∀ (n : Nat) (v1 v2 v3 : Int) (w : Wd), VF X Qf ad NF 0 0 w 6 [(0, (2, 44)), (1, (0, v1)), (2, (0, v2)), (3, (0, v3))] [] (f_R_leastPaid_6 n v1 v2 v3 w) := by
  intro n
  induction n with
  | zero => intros; exact vf_no
  | succ n ih =>
    intro v1 v2 v3 w
    rw [f_R_leastPaid_6]
    refine vf_iload_n C (f := 3) (zdg dz_R_leastPaid_0 4 rfl) 3 rfl rfl ?_
    refine vf_aload_n C (f := 0) (zdg dz_R_leastPaid_0 5 rfl) 0 rfl rfl ?_
    refine vf_get C (kd := 0) fl_R_314 sh_43 rfl (by decide) rfl rfl (zdg dz_R_leastPaid_0 6 rfl) ?_
    refine vf_icmp_ge C (off := 32) (tgt := 43) (zdg dz_R_leastPaid_0 7 rfl) (by decide) ?_ ?_
    · refine vf_iload_n C (f := 2) (zdg dz_R_leastPaid_0 23 rfl) 2 rfl rfl ?_
      exact hr _ _ _ _ (fun h => absurd h (by decide)) (zdg dz_R_leastPaid_1 0 rfl)
    · refine vf_aload_n C (f := 0) (zdg dz_R_leastPaid_0 8 rfl) 0 rfl rfl ?_
      refine vf_iload_n C (f := 3) (zdg dz_R_leastPaid_0 9 rfl) 3 rfl rfl ?_
      refine vf_callVi C cy_R_guestsIn ml_R_345 rfl (ct_R_guestsIn _ _) (S := []) sh_43 (by decide) rfl (jrm_of hR rfl) rfl rfl (Nat.le_of_ble_eq_true rfl) (zdg dz_R_leastPaid_0 10 rfl) (fun r1 u2 => ?_)
      refine vf_callSi C cy_JI_bitCount ml_R_242 (ct_JI_bitCount _ _) (S := []) (jrm_of hR rfl) rfl rfl (Nat.le_of_ble_eq_true rfl) (zdg dz_R_leastPaid_0 11 rfl) (fun r3 u4 => ?_)
      refine vf_iload_n C (f := 1) (zdg dz_R_leastPaid_0 12 rfl) 1 rfl rfl ?_
      refine vf_icmp_ne C (off := 14) (tgt := 37) (zdg dz_R_leastPaid_0 13 rfl) (by decide) ?_ ?_
      · exact t_R_leastPaid_37 C hn hR hr ih _ _ _ _
      · refine vf_iload_n C (f := 2) (zdg dz_R_leastPaid_0 14 rfl) 2 rfl rfl ?_
        refine vf_aload_n C (f := 0) (zdg dz_R_leastPaid_0 15 rfl) 0 rfl rfl ?_
        refine vf_getp C fl_R_98 sh_43 rfl (by decide) rfl (x := 70) rfl (zdg dz_R_leastPaid_0 16 rfl) ?_
        refine vf_iload_n C (f := 3) (zdg dz_R_leastPaid_0 17 rfl) 3 rfl rfl ?_
        refine vf_iald C sh_69 (by decide) rfl (mz := 3000) rfl (zdg dz_R_leastPaid_0 18 rfl) ?_
        refine vf_mmin C ml_R_262 (jrm_n hR (by decide)) ⟨Nat.zero_le _, Nat.zero_le _⟩ (Nat.le_of_ble_eq_true rfl) (zdg dz_R_leastPaid_0 19 rfl) ?_
        generalize imin v2 (u4 69 v3.toNat) = x6
        refine vf_ul ?_
        refine vf_istore_n C (f := 2) (L' := [(0, (2, 44)), (1, (0, v1)), (3, (0, v3))]) (zdg dz_R_leastPaid_0 20 rfl) [0, 1, 3] (jrI rfl rfl) hn (by decide) rfl ?_
        exact vf_perm [1, 2, 0, 3] rfl (t_R_leastPaid_37 C hn hR hr ih _ _ _ _)
def f_R_leastPaid (v1 : Int) (w : Wd) : Option (Int × Wd) :=
  f_R_leastPaid_6 FU v1 1000000 0 w
theorem ct_R_leastPaid (v1 : Int) (w : Wd) : Ct y_R_leastPaid prog_14_method_73_code 4 (some .int) 3 0 [(2, 44), (0, v1)] w (f_R_leastPaid v1 w) := by
  refine ct_of (by decide +kernel) (Or.inl ⟨rfl, rfl⟩) (Nat.le_of_ble_eq_true rfl) ?_
  intro X Qf ad C hn hR hr
  unfold f_R_leastPaid
  show VF X Qf ad NF 0 0 w 0 [(0, (2, 44)), (1, (0, v1))] [] _
  refine vf_ldcw C (z := 1000000) (i := 348) (zdg dz_R_leastPaid_0 0 rfl) kc_R_348 (by decide +kernel) (jz rfl) ?_
  refine vf_istore_n C (f := 2) (L' := [(0, (2, 44)), (1, (0, v1))]) (zdg dz_R_leastPaid_0 1 rfl) [0, 1] (jrI rfl rfl) hn (by decide) rfl ?_
  refine vf_iconst C (z := 0) (zdg dz_R_leastPaid_0 2 rfl) (jz rfl) ?_
  refine vf_istore_n C (f := 3) (L' := [(2, (0, 1000000)), (0, (2, 44)), (1, (0, v1))]) (zdg dz_R_leastPaid_0 3 rfl) [0, 1, 2] (jrI rfl rfl) hn (by decide) rfl ?_
  exact vf_perm [2, 3, 1, 0] rfl (t_R_leastPaid_6 C hn hR hr FU _ _ _ _)
def f_R_crowd_59 : Nat → Int → Int → Int → Wd → Option (Int × Wd)
  | 0, _, _, _, _ => none
  | n + 1, v1, v2, v3, w =>
    if v3 = 1000000 then
      jcall (f_R_goOneWeek w) fun r13 u14 =>
      jlet (w32 (v2 + 1)) fun x15 =>
      jcall (f_R_leastPaid v1 u14) fun r16 u17 =>
      f_R_crowd_59 n v1 x15 r16 u17
    else
      jlw (st w 43 15 0) fun u8 =>
      jcall (f_R_tell v1 u8) fun r9 u10 =>
      jcall (f_R_tell v3 u10) fun r11 u12 =>
      some (v2, u12)
theorem t_R_crowd_59 {X : jX} {Qf : Int × Wd → State → Prop} {ad : Nat → Nat} (C : Cx X prog_14_method_72_code "EachBringsAnotherModel") (hn : xn X = 4) (hR : xR X = rmD 20) (hr : Rt X Qf ad prog_14_method_72_code 0) : ∀ (n : Nat) (v1 v2 v3 : Int) (w : Wd), VF X Qf ad NF 0 0 w 59 [(0, (2, 44)), (1, (0, v1)), (2, (0, v2)), (3, (0, v3))] [] (f_R_crowd_59 n v1 v2 v3 w) := by
  intro n
  induction n with
  | zero => intros; exact vf_no
  | succ n ih =>
    intro v1 v2 v3 w
    rw [f_R_crowd_59]
    refine vf_iload_n C (f := 3) (zdg dz_R_crowd_1 10 rfl) 3 rfl rfl ?_
    refine vf_ldcw C (z := 1000000) (i := 348) (zdg dz_R_crowd_1 11 rfl) kc_R_348 (by decide +kernel) (jz rfl) ?_
    refine vf_icmp_ne C (off := 19) (tgt := 82) (zdg dz_R_crowd_1 12 rfl) (by decide) ?_ ?_
    · refine vf_aload_n C (f := 0) (zdg dz_R_crowd_1 21 rfl) 0 rfl rfl ?_
      refine vf_iconst C (z := 0) (zdg dz_R_crowd_1 22 rfl) (jz rfl) ?_
      refine vf_put C (kd := 0) fl_R_141 fk_11_15 sh_43 rfl (by decide) rfl rfl (by decide) (zdg dz_R_crowd_1 23 rfl) ?_
      generalize st w 43 15 0 = u8
      refine vf_uw ?_
      refine vf_aload_n C (f := 0) (zdg dz_R_crowd_2 0 rfl) 0 rfl rfl ?_
      refine vf_iload_n C (f := 1) (zdg dz_R_crowd_2 1 rfl) 1 rfl rfl ?_
      refine vf_callVv C cy_R_tell ml_R_304 rfl (ct_R_tell _ _) (S := []) sh_43 (by decide) rfl (jrm_of hR rfl) rfl rfl (Nat.le_of_ble_eq_true rfl) (zdg dz_R_crowd_2 2 rfl) (fun r9 u10 => ?_)
      refine vf_aload_n C (f := 0) (zdg dz_R_crowd_2 3 rfl) 0 rfl rfl ?_
      refine vf_iload_n C (f := 3) (zdg dz_R_crowd_2 4 rfl) 3 rfl rfl ?_
      refine vf_callVv C cy_R_tell ml_R_304 rfl (ct_R_tell _ _) (S := []) sh_43 (by decide) rfl (jrm_of hR rfl) rfl rfl (Nat.le_of_ble_eq_true rfl) (zdg dz_R_crowd_2 5 rfl) (fun r11 u12 => ?_)
      refine vf_iload_n C (f := 2) (zdg dz_R_crowd_2 6 rfl) 2 rfl rfl ?_
      exact hr _ _ _ _ (fun h => absurd h (by decide)) (zdg dz_R_crowd_2 7 rfl)
    · refine vf_aload_n C (f := 0) (zdg dz_R_crowd_1 13 rfl) 0 rfl rfl ?_
      refine vf_callVv C cy_R_goOneWeek ml_R_355 rfl (ct_R_goOneWeek _) (S := []) sh_43 (by decide) rfl (jrm_of hR rfl) rfl rfl (Nat.le_of_ble_eq_true rfl) (zdg dz_R_crowd_1 14 rfl) (fun r13 u14 => ?_)
      refine vf_iinc C (z := 1) (L' := [(0, (2, 44)), (1, (0, v1))]) (zdg dz_R_crowd_1 15 rfl) 2 rfl [0, 1] (jrI rfl rfl) hn (by decide) ?_
      generalize w32 (v2 + 1) = x15
      refine vf_ul ?_
      refine vf_aload_n C (f := 0) (zdg dz_R_crowd_1 16 rfl) 1 rfl rfl ?_
      refine vf_iload_n C (f := 1) (zdg dz_R_crowd_1 17 rfl) 2 rfl rfl ?_
      refine vf_callVi C cy_R_leastPaid ml_R_364 rfl (ct_R_leastPaid _ _) (S := []) sh_43 (by decide) rfl (jrm_of hR rfl) rfl rfl (Nat.le_of_ble_eq_true rfl) (zdg dz_R_crowd_1 18 rfl) (fun r16 u17 => ?_)
      refine vf_istore_n C (f := 3) (L' := [(2, (0, x15)), (0, (2, 44)), (1, (0, v1))]) (zdg dz_R_crowd_1 19 rfl) [0, 1, 2] (jrI rfl rfl) hn (by decide) rfl ?_
      refine vf_goto C (off := (-20)) (tgt := 59) (zdg dz_R_crowd_1 20 rfl) (by decide) ?_
      exact vf_perm [2, 3, 1, 0] rfl (ih _ _ _ _)
def f_R_crowd_20 : Nat → Int → Int → Wd → Option (Int × Wd)
  | 0, _, _, _ => none
  | n + 1, v1, v2, w =>
    if (w 43 40) ≤ v2 then
      jcall (f_R_beginWeeks w) fun r4 u5 =>
      jcall (f_R_leastPaid v1 u5) fun r6 u7 =>
      f_R_crowd_59 FU v1 0 r6 u7
    else
      jcall (f_R_guestsIn v2 w) fun r18 u19 =>
      jcall (f_JI_bitCount r18 u19) fun r20 u21 =>
      jlet (imax v1 r20) fun x22 =>
      jlet (w32 (v2 + 1)) fun x23 =>
      f_R_crowd_20 n x22 x23 u21
theorem t_R_crowd_20 {X : jX} {Qf : Int × Wd → State → Prop} {ad : Nat → Nat} (C : Cx X prog_14_method_72_code "EachBringsAnotherModel") (hn : xn X = 4) (hR : xR X = rmD 20) (hr : Rt X Qf ad prog_14_method_72_code 0) : ∀ (n : Nat) (v1 v2 : Int) (w : Wd), VF X Qf ad NF 0 0 w 20 [(0, (2, 44)), (1, (0, v1)), (2, (0, v2))] [] (f_R_crowd_20 n v1 v2 w) := by
  intro n
  induction n with
  | zero => intros; exact vf_no
  | succ n ih =>
    intro v1 v2 w
    rw [f_R_crowd_20]
    refine vf_iload_n C (f := 2) (zdg dz_R_crowd_0 13 rfl) 2 rfl rfl ?_
    refine vf_aload_n C (f := 0) (zdg dz_R_crowd_0 14 rfl) 0 rfl rfl ?_
    refine vf_get C (kd := 0) fl_R_314 sh_43 rfl (by decide) rfl rfl (zdg dz_R_crowd_0 15 rfl) ?_
    refine vf_icmp_ge C (off := 22) (tgt := 47) (zdg dz_R_crowd_0 16 rfl) (by decide) ?_ ?_
    · refine vf_aload_n C (f := 0) (zdg dz_R_crowd_1 2 rfl) 0 rfl rfl ?_
      refine vf_callVv C cy_R_beginWeeks ml_R_352 rfl (ct_R_beginWeeks _) (S := []) sh_43 (by decide) rfl (jrm_of hR rfl) rfl rfl (Nat.le_of_ble_eq_true rfl) (zdg dz_R_crowd_1 3 rfl) (fun r4 u5 => ?_)
      refine vf_iconst C (z := 0) (zdg dz_R_crowd_1 4 rfl) (jz rfl) ?_
      refine vf_istore_n C (f := 2) (L' := [(0, (2, 44)), (1, (0, v1))]) (zdg dz_R_crowd_1 5 rfl) [0, 1] (jrI rfl rfl) hn (by decide) rfl ?_
      refine vf_aload_n C (f := 0) (zdg dz_R_crowd_1 6 rfl) 1 rfl rfl ?_
      refine vf_iload_n C (f := 1) (zdg dz_R_crowd_1 7 rfl) 2 rfl rfl ?_
      refine vf_callVi C cy_R_leastPaid ml_R_364 rfl (ct_R_leastPaid _ _) (S := []) sh_43 (by decide) rfl (jrm_of hR rfl) rfl rfl (Nat.le_of_ble_eq_true rfl) (zdg dz_R_crowd_1 8 rfl) (fun r6 u7 => ?_)
      refine vf_istore_n C (f := 3) (L' := [(2, (0, 0)), (0, (2, 44)), (1, (0, v1))]) (zdg dz_R_crowd_1 9 rfl) [0, 1, 2] (jrI rfl rfl) hn (by decide) rfl ?_
      exact vf_perm [2, 3, 1, 0] rfl (t_R_crowd_59 C hn hR hr FU _ _ _ _)
    · refine vf_iload_n C (f := 1) (zdg dz_R_crowd_0 17 rfl) 1 rfl rfl ?_
      refine vf_aload_n C (f := 0) (zdg dz_R_crowd_0 18 rfl) 0 rfl rfl ?_
      refine vf_iload_n C (f := 2) (zdg dz_R_crowd_0 19 rfl) 2 rfl rfl ?_
      refine vf_callVi C cy_R_guestsIn ml_R_345 rfl (ct_R_guestsIn _ _) (S := [(0, v1)]) sh_43 (by decide) rfl (jrm_of hR rfl) rfl rfl (Nat.le_of_ble_eq_true rfl) (zdg dz_R_crowd_0 20 rfl) (fun r18 u19 => ?_)
      refine vf_callSi C cy_JI_bitCount ml_R_242 (ct_JI_bitCount _ _) (S := [(0, v1)]) (jrm_of hR rfl) rfl rfl (Nat.le_of_ble_eq_true rfl) (zdg dz_R_crowd_0 21 rfl) (fun r20 u21 => ?_)
      refine vf_mmax C ml_R_267 (jrm_n hR (by decide)) ⟨Nat.zero_le _, Nat.zero_le _⟩ (Nat.le_of_ble_eq_true rfl) (zdg dz_R_crowd_0 22 rfl) ?_
      generalize imax v1 r20 = x22
      refine vf_ul ?_
      refine vf_istore_n C (f := 1) (L' := [(0, (2, 44)), (2, (0, v2))]) (zdg dz_R_crowd_0 23 rfl) [0, 2] (jrI rfl rfl) hn (by decide) rfl ?_
      refine vf_iinc C (z := 1) (L' := [(1, (0, x22)), (0, (2, 44))]) (zdg dz_R_crowd_1 0 rfl) 2 rfl [0, 1] (jrI rfl rfl) hn (by decide) ?_
      generalize w32 (v2 + 1) = x23
      refine vf_ul ?_
      refine vf_goto C (off := (-24)) (tgt := 20) (zdg dz_R_crowd_1 1 rfl) (by decide) ?_
      exact vf_perm [2, 1, 0] rfl (ih _ _ _)
def f_R_crowd (w : Wd) : Option (Int × Wd) :=
  jlw (st w 43 16 0) fun u1 =>
  jcall (f_R_findStates 0 u1) fun r2 u3 =>
  if r2 = 0 then
    some ((-3), u3)
  else
    f_R_crowd_20 FU 0 0 u3
theorem ct_R_crowd (w : Wd) : Ct y_R_crowd prog_14_method_72_code 4 (some .int) 20 0 [(2, 44)] w (f_R_crowd w) := by
  refine ct_of (by decide +kernel) (Or.inl ⟨rfl, rfl⟩) (Nat.le_of_ble_eq_true rfl) ?_
  intro X Qf ad C hn hR hr
  unfold f_R_crowd
  show VF X Qf ad NF 0 0 w 0 [(0, (2, 44))] [] _
  refine vf_aload_n C (f := 0) (zdg dz_R_crowd_0 0 rfl) 0 rfl rfl ?_
  refine vf_iconst C (z := 0) (zdg dz_R_crowd_0 1 rfl) (jz rfl) ?_
  refine vf_put C (kd := 0) fl_R_138 fk_11_16 sh_43 rfl (by decide) rfl rfl (by decide) (zdg dz_R_crowd_0 2 rfl) ?_
  generalize st w 43 16 0 = u1
  refine vf_uw ?_
  refine vf_aload_n C (f := 0) (zdg dz_R_crowd_0 3 rfl) 0 rfl rfl ?_
  refine vf_iconst C (z := 0) (zdg dz_R_crowd_0 4 rfl) (jz rfl) ?_
  refine vf_callVz C cy_R_findStates ml_R_342 rfl (ct_R_findStates _ _) (S := []) sh_43 (by decide) rfl (jrm_of hR rfl) rfl rfl (Nat.le_of_ble_eq_true rfl) (zdg dz_R_crowd_0 5 rfl) (fun r2 u3 => ?_)
  refine vf_if_ne C (off := 6) (tgt := 16) (zdg dz_R_crowd_0 6 rfl) (by decide) ?_ ?_
  · refine vf_iconst C (z := 0) (zdg dz_R_crowd_0 9 rfl) (jz rfl) ?_
    refine vf_istore_n C (f := 1) (L' := [(0, (2, 44))]) (zdg dz_R_crowd_0 10 rfl) [0] (jrI rfl rfl) hn (by decide) rfl ?_
    refine vf_iconst C (z := 0) (zdg dz_R_crowd_0 11 rfl) (jz rfl) ?_
    refine vf_istore_n C (f := 2) (L' := [(1, (0, 0)), (0, (2, 44))]) (zdg dz_R_crowd_0 12 rfl) [0, 1] (jrI rfl rfl) hn (by decide) rfl ?_
    exact vf_perm [2, 1, 0] rfl (t_R_crowd_20 C hn hR hr FU _ _ _)
  · refine vf_bipush C (z := (-3)) (zdg dz_R_crowd_0 7 rfl) (by decide +kernel) (jz rfl) ?_
    exact hr _ _ _ _ (fun h => absurd h (by decide)) (zdg dz_R_crowd_0 8 rfl)
def f_R_both_91 (k42 : Int → Int → Int → Int → Wd → Option (Int × Wd)) (v1 v2 v4 v5 : Int) (w : Wd) : Option (Int × Wd) :=
  jlet (w32 (v5 + 1)) fun x12 =>
  k42 v1 v2 v4 x12 w
theorem t_R_both_91 {X : jX} {Qf : Int × Wd → State → Prop} {ad : Nat → Nat} (C : Cx X prog_14_method_74_code "EachBringsAnotherModel") (hn : xn X = 6) (hR : xR X = rmD 21) (hr : Rt X Qf ad prog_14_method_74_code 0) {k42 : Int → Int → Int → Int → Wd → Option (Int × Wd)} (hk42 : ∀ (v1 v2 v4 v5 : Int) (w : Wd), VF X Qf ad NF 0 0 w 42 [(0, (2, 44)), (1, (0, v1)), (2, (0, v2)), (4, (0, v4)), (5, (0, v5))] [] (k42 v1 v2 v4 v5 w)) (v1 v2 v4 v5 : Int) (w : Wd) : VF X Qf ad NF 0 0 w 91 [(0, (2, 44)), (1, (0, v1)), (2, (0, v2)), (4, (0, v4)), (5, (0, v5))] [] (f_R_both_91 k42 v1 v2 v4 v5 w) := by
  unfold f_R_both_91
  refine vf_iinc C (z := 1) (L' := [(0, (2, 44)), (1, (0, v1)), (2, (0, v2)), (4, (0, v4))]) (zdg dz_R_both_1 22 rfl) 4 rfl [0, 1, 2, 3] (jrI rfl rfl) hn (by decide) ?_
  generalize w32 (v5 + 1) = x12
  refine vf_ul ?_
  refine vf_goto C (off := (-52)) (tgt := 42) (zdg dz_R_both_1 23 rfl) (by decide) ?_
  exact vf_perm [1, 2, 3, 4, 0] rfl (hk42 _ _ _ _ _)
def f_R_both_42 : Nat → Int → Int → Int → Int → Wd → Option (Int × Wd)
  | 0, _, _, _, _, _ => none
  | n + 1, v1, v2, v4, v5, w =>
    if (w 43 40) ≤ v5 then
      if v4 = 1000000 then
        some ((-2), w)
      else
        some (v4, w)
    else
      jcall (f_R_guestsIn v5 w) fun r8 u9 =>
      jcall (f_R_has r8 v1 u9) fun r10 u11 =>
      if r10 = 0 then
        f_R_both_91 (f_R_both_42 n) v1 v2 v4 v5 u11
      else
        jcall (f_R_guestsIn v5 u11) fun r13 u14 =>
        jcall (f_R_has r13 v2 u14) fun r15 u16 =>
        if r15 = 0 then
          f_R_both_91 (f_R_both_42 n) v1 v2 v4 v5 u16
        else
          jgd ((0 : Int) ≤ v5 ∧ v5 < 3000) <|
          jlet (imin v4 (u16 69 v5.toNat)) fun x17 =>
          f_R_both_91 (f_R_both_42 n) v1 v2 x17 v5 u16
theorem t_R_both_42 {X : jX} {Qf : Int × Wd → State → Prop} {ad : Nat → Nat} (C : Cx X prog_14_method_74_code "EachBringsAnotherModel") (hn : xn X = 6) (hR : xR X = rmD 21) (hr : Rt X Qf ad prog_14_method_74_code 0) : ∀ (n : Nat) (v1 v2 v4 v5 : Int) (w : Wd), VF X Qf ad NF 0 0 w 42 [(0, (2, 44)), (1, (0, v1)), (2, (0, v2)), (4, (0, v4)), (5, (0, v5))] [] (f_R_both_42 n v1 v2 v4 v5 w) := by
  intro n
  induction n with
  | zero => intros; exact vf_no
  | succ n ih =>
    intro v1 v2 v4 v5 w
    rw [f_R_both_42]
    refine vf_iload C (zdg dz_R_both_0 23 rfl) 4 rfl ?_
    refine vf_aload_n C (f := 0) (zdg dz_R_both_1 0 rfl) 0 rfl rfl ?_
    refine vf_get C (kd := 0) fl_R_314 sh_43 rfl (by decide) rfl rfl (zdg dz_R_both_1 1 rfl) ?_
    refine vf_icmp_ge C (off := 49) (tgt := 97) (zdg dz_R_both_1 2 rfl) (by decide) ?_ ?_
    · refine vf_iload C (zdg dz_R_both_2 0 rfl) 3 rfl ?_
      refine vf_ldcw C (z := 1000000) (i := 348) (zdg dz_R_both_2 1 rfl) kc_R_348 (by decide +kernel) (jz rfl) ?_
      refine vf_icmp_ne C (off := 8) (tgt := 110) (zdg dz_R_both_2 2 rfl) (by decide) ?_ ?_
      · refine vf_iload C (zdg dz_R_both_2 5 rfl) 3 rfl ?_
        exact hr _ _ _ _ (fun h => absurd h (by decide)) (zdg dz_R_both_2 6 rfl)
      · refine vf_bipush C (z := (-2)) (zdg dz_R_both_2 3 rfl) (by decide +kernel) (jz rfl) ?_
        refine vf_goto C (off := 5) (tgt := 112) (zdg dz_R_both_2 4 rfl) (by decide) ?_
        exact hr _ _ _ _ (fun h => absurd h (by decide)) (zdg dz_R_both_2 6 rfl)
    · refine vf_aload_n C (f := 0) (zdg dz_R_both_1 3 rfl) 0 rfl rfl ?_
      refine vf_iload C (zdg dz_R_both_1 4 rfl) 4 rfl ?_
      refine vf_callVi C cy_R_guestsIn ml_R_345 rfl (ct_R_guestsIn _ _) (S := []) sh_43 (by decide) rfl (jrm_of hR rfl) rfl rfl (Nat.le_of_ble_eq_true rfl) (zdg dz_R_both_1 5 rfl) (fun r8 u9 => ?_)
      refine vf_iload_n C (f := 1) (zdg dz_R_both_1 6 rfl) 1 rfl rfl ?_
      refine vf_callSz C cy_R_has ml_R_210 (ct_R_has _ _ _) (S := []) (jrm_of hR rfl) rfl rfl (Nat.le_of_ble_eq_true rfl) (zdg dz_R_both_1 7 rfl) (fun r10 u11 => ?_)
      refine vf_if_eq C (off := 30) (tgt := 91) (zdg dz_R_both_1 8 rfl) (by decide) ?_ ?_
      · exact t_R_both_91 C hn hR hr ih _ _ _ _ _
      · refine vf_aload_n C (f := 0) (zdg dz_R_both_1 9 rfl) 0 rfl rfl ?_
        refine vf_iload C (zdg dz_R_both_1 10 rfl) 4 rfl ?_
        refine vf_callVi C cy_R_guestsIn ml_R_345 rfl (ct_R_guestsIn _ _) (S := []) sh_43 (by decide) rfl (jrm_of hR rfl) rfl rfl (Nat.le_of_ble_eq_true rfl) (zdg dz_R_both_1 11 rfl) (fun r13 u14 => ?_)
        refine vf_iload_n C (f := 2) (zdg dz_R_both_1 12 rfl) 2 rfl rfl ?_
        refine vf_callSz C cy_R_has ml_R_210 (ct_R_has _ _ _) (S := []) (jrm_of hR rfl) rfl rfl (Nat.le_of_ble_eq_true rfl) (zdg dz_R_both_1 13 rfl) (fun r15 u16 => ?_)
        refine vf_if_eq C (off := 17) (tgt := 91) (zdg dz_R_both_1 14 rfl) (by decide) ?_ ?_
        · exact t_R_both_91 C hn hR hr ih _ _ _ _ _
        · refine vf_iload C (zdg dz_R_both_1 15 rfl) 3 rfl ?_
          refine vf_aload_n C (f := 0) (zdg dz_R_both_1 16 rfl) 0 rfl rfl ?_
          refine vf_getp C fl_R_98 sh_43 rfl (by decide) rfl (x := 70) rfl (zdg dz_R_both_1 17 rfl) ?_
          refine vf_iload C (zdg dz_R_both_1 18 rfl) 4 rfl ?_
          refine vf_iald C sh_69 (by decide) rfl (mz := 3000) rfl (zdg dz_R_both_1 19 rfl) ?_
          refine vf_mmin C ml_R_262 (jrm_n hR (by decide)) ⟨Nat.zero_le _, Nat.zero_le _⟩ (Nat.le_of_ble_eq_true rfl) (zdg dz_R_both_1 20 rfl) ?_
          generalize imin v4 (u16 69 v5.toNat) = x17
          refine vf_ul ?_
          refine vf_istore C (i := 4) (L' := [(0, (2, 44)), (1, (0, v1)), (2, (0, v2)), (5, (0, v5))]) (zdg dz_R_both_1 21 rfl) [0, 1, 2, 4] (jrI rfl rfl) hn (by decide) ?_
          exact vf_perm [1, 2, 3, 0, 4] rfl (t_R_both_91 C hn hR hr ih _ _ _ _ _)
def f_R_both (v1 v2 v3 : Int) (w : Wd) : Option (Int × Wd) :=
  jlw (st w 43 16 0) fun u1 =>
  jcall (f_R_areTwo v1 v2 u1) fun r2 u3 =>
  if r2 = 0 then
    some ((-1), u3)
  else
    jcall (f_R_isWeeks v3 u3) fun r4 u5 =>
    if r4 = 0 then
      some ((-1), u5)
    else
      jcall (f_R_findWeek v3 u5) fun r6 u7 =>
      if r6 = 0 then
        some ((-3), u7)
      else
        f_R_both_42 FU v1 v2 1000000 0 u7
theorem ct_R_both (v1 v2 v3 : Int) (w : Wd) : Ct y_R_both prog_14_method_74_code 6 (some .int) 21 0 [(2, 44), (0, v1), (0, v2), (0, v3)] w (f_R_both v1 v2 v3 w) := by
  refine ct_of (by decide +kernel) (Or.inl ⟨rfl, rfl⟩) (Nat.le_of_ble_eq_true rfl) ?_
  intro X Qf ad C hn hR hr
  unfold f_R_both
  show VF X Qf ad NF 0 0 w 0 [(0, (2, 44)), (1, (0, v1)), (2, (0, v2)), (3, (0, v3))] [] _
  refine vf_aload_n C (f := 0) (zdg dz_R_both_0 0 rfl) 0 rfl rfl ?_
  refine vf_iconst C (z := 0) (zdg dz_R_both_0 1 rfl) (jz rfl) ?_
  refine vf_put C (kd := 0) fl_R_138 fk_11_16 sh_43 rfl (by decide) rfl rfl (by decide) (zdg dz_R_both_0 2 rfl) ?_
  generalize st w 43 16 0 = u1
  refine vf_uw ?_
  refine vf_aload_n C (f := 0) (zdg dz_R_both_0 3 rfl) 0 rfl rfl ?_
  refine vf_iload_n C (f := 1) (zdg dz_R_both_0 4 rfl) 1 rfl rfl ?_
  refine vf_iload_n C (f := 2) (zdg dz_R_both_0 5 rfl) 2 rfl rfl ?_
  refine vf_callVz C cy_R_areTwo ml_R_259 rfl (ct_R_areTwo _ _ _) (S := []) sh_43 (by decide) rfl (jrm_of hR rfl) rfl rfl (Nat.le_of_ble_eq_true rfl) (zdg dz_R_both_0 6 rfl) (fun r2 u3 => ?_)
  refine vf_if_eq C (off := 10) (tgt := 21) (zdg dz_R_both_0 7 rfl) (by decide) ?_ ?_
  · refine vf_iconst C (z := (-1)) (zdg dz_R_both_0 11 rfl) (jz rfl) ?_
    exact hr _ _ _ _ (fun h => absurd h (by decide)) (zdg dz_R_both_0 12 rfl)
  · refine vf_iload_n C (f := 3) (zdg dz_R_both_0 8 rfl) 3 rfl rfl ?_
    refine vf_callSz C cy_R_isWeeks ml_R_358 (ct_R_isWeeks _ _) (S := []) (jrm_of hR rfl) rfl rfl (Nat.le_of_ble_eq_true rfl) (zdg dz_R_both_0 9 rfl) (fun r4 u5 => ?_)
    refine vf_if_ne C (off := 5) (tgt := 23) (zdg dz_R_both_0 10 rfl) (by decide) ?_ ?_
    · refine vf_aload_n C (f := 0) (zdg dz_R_both_0 13 rfl) 0 rfl rfl ?_
      refine vf_iload_n C (f := 3) (zdg dz_R_both_0 14 rfl) 3 rfl rfl ?_
      refine vf_callVz C cy_R_findWeek ml_R_361 rfl (ct_R_findWeek _ _) (S := []) sh_43 (by decide) rfl (jrm_of hR rfl) rfl rfl (Nat.le_of_ble_eq_true rfl) (zdg dz_R_both_0 15 rfl) (fun r6 u7 => ?_)
      refine vf_if_ne C (off := 6) (tgt := 34) (zdg dz_R_both_0 16 rfl) (by decide) ?_ ?_
      · refine vf_ldcw C (z := 1000000) (i := 348) (zdg dz_R_both_0 19 rfl) kc_R_348 (by decide +kernel) (jz rfl) ?_
        refine vf_istore C (i := 4) (L' := [(0, (2, 44)), (1, (0, v1)), (2, (0, v2))]) (zdg dz_R_both_0 20 rfl) [0, 1, 2] (jrI rfl rfl) hn (by decide) ?_
        refine vf_iconst C (z := 0) (zdg dz_R_both_0 21 rfl) (jz rfl) ?_
        refine vf_istore C (i := 5) (L' := [(4, (0, 1000000)), (0, (2, 44)), (1, (0, v1)), (2, (0, v2))]) (zdg dz_R_both_0 22 rfl) [0, 1, 2, 3] (jrI rfl rfl) hn (by decide) ?_
        exact vf_perm [2, 3, 4, 1, 0] rfl (t_R_both_42 C hn hR hr FU _ _ _ _ _)
      · refine vf_bipush C (z := (-3)) (zdg dz_R_both_0 17 rfl) (by decide +kernel) (jz rfl) ?_
        exact hr _ _ _ _ (fun h => absurd h (by decide)) (zdg dz_R_both_0 18 rfl)
    · refine vf_iconst C (z := (-1)) (zdg dz_R_both_0 11 rfl) (jz rfl) ?_
      exact hr _ _ _ _ (fun h => absurd h (by decide)) (zdg dz_R_both_0 12 rfl)
def f_R_findOrder_142 (k103 : Int → Int → Int → Wd → Option (Int × Wd)) (k111 : Int → Int → Int → Int → Wd → Option (Int × Wd)) (v1 v2 v3 v4 : Int) (w : Wd) : Option (Int × Wd) :=
  jlet (w32 (v4 + 1)) fun x2 =>
  k111 v1 v2 v3 x2 w
theorem t_R_findOrder_142 {X : jX} {Qf : Int × Wd → State → Prop} {ad : Nat → Nat} (C : Cx X prog_14_method_75_code "EachBringsAnotherModel") (hn : xn X = 6) (hR : xR X = rmD 2) (hr : Rt X Qf ad prog_14_method_75_code 9) {k103 : Int → Int → Int → Wd → Option (Int × Wd)} (hk103 : ∀ (v1 v2 v3 : Int) (w : Wd), VF X Qf ad NF 0 0 w 103 [(0, (2, 44)), (1, (0, v1)), (2, (0, v2)), (3, (0, v3))] [] (k103 v1 v2 v3 w)) {k111 : Int → Int → Int → Int → Wd → Option (Int × Wd)} (hk111 : ∀ (v1 v2 v3 v4 : Int) (w : Wd), VF X Qf ad NF 0 0 w 111 [(0, (2, 44)), (1, (0, v1)), (2, (0, v2)), (3, (0, v3)), (4, (0, v4))] [] (k111 v1 v2 v3 v4 w)) (v1 v2 v3 v4 : Int) (w : Wd) : VF X Qf ad NF 0 0 w 142 [(0, (2, 44)), (1, (0, v1)), (2, (0, v2)), (3, (0, v3)), (4, (0, v4))] [] (f_R_findOrder_142 k103 k111 v1 v2 v3 v4 w) := by
  unfold f_R_findOrder_142
  refine vf_iinc C (z := 1) (L' := [(0, (2, 44)), (1, (0, v1)), (2, (0, v2)), (3, (0, v3))]) (zdg dz_R_findOrder_3 12 rfl) 4 rfl [0, 1, 2, 3] (jrI rfl rfl) hn (by decide) ?_
  generalize w32 (v4 + 1) = x2
  refine vf_ul ?_
  refine vf_goto C (off := (-34)) (tgt := 111) (zdg dz_R_findOrder_3 13 rfl) (by decide) ?_
  exact vf_perm [1, 2, 3, 4, 0] rfl (hk111 _ _ _ _ _)
def f_R_findOrder_111 (k103 : Int → Int → Int → Wd → Option (Int × Wd)) : Nat → Int → Int → Int → Int → Wd → Option (Int × Wd)
  | 0, _, _, _, _, _ => none
  | n + 1, v1, v2, v3, v4, w =>
    if (w 43 40) ≤ v4 then
      jlet (w32 (v3 + 1)) fun x1 =>
      k103 v1 v2 x1 w
    else
      jgd ((0 : Int) ≤ v4 ∧ v4 < 3000) <|
      if (w 73 v4.toNat) = v3 then
        jlet (w32 (v2 + 1)) fun x3 =>
        jgd ((0 : Int) ≤ v2 ∧ v2 < 3000) <|
        jlw (st w 72 v2.toNat v4) fun u4 =>
        f_R_findOrder_142 k103 (f_R_findOrder_111 k103 n) v1 x3 v3 v4 u4
      else
        f_R_findOrder_142 k103 (f_R_findOrder_111 k103 n) v1 v2 v3 v4 w
theorem t_R_findOrder_111 {X : jX} {Qf : Int × Wd → State → Prop} {ad : Nat → Nat} (C : Cx X prog_14_method_75_code "EachBringsAnotherModel") (hn : xn X = 6) (hR : xR X = rmD 2) (hr : Rt X Qf ad prog_14_method_75_code 9) {k103 : Int → Int → Int → Wd → Option (Int × Wd)} (hk103 : ∀ (v1 v2 v3 : Int) (w : Wd), VF X Qf ad NF 0 0 w 103 [(0, (2, 44)), (1, (0, v1)), (2, (0, v2)), (3, (0, v3))] [] (k103 v1 v2 v3 w)) : ∀ (n : Nat) (v1 v2 v3 v4 : Int) (w : Wd), VF X Qf ad NF 0 0 w 111 [(0, (2, 44)), (1, (0, v1)), (2, (0, v2)), (3, (0, v3)), (4, (0, v4))] [] (f_R_findOrder_111 k103 n v1 v2 v3 v4 w) := by
  intro n
  induction n with
  | zero => intros; exact vf_no
  | succ n ih =>
    intro v1 v2 v3 v4 w
    rw [f_R_findOrder_111]
    refine vf_iload C (zdg dz_R_findOrder_2 20 rfl) 4 rfl ?_
    refine vf_aload_n C (f := 0) (zdg dz_R_findOrder_2 21 rfl) 0 rfl rfl ?_
    refine vf_get C (kd := 0) fl_R_314 sh_43 rfl (by decide) rfl rfl (zdg dz_R_findOrder_2 22 rfl) ?_
    refine vf_icmp_ge C (off := 31) (tgt := 148) (zdg dz_R_findOrder_2 23 rfl) (by decide) ?_ ?_
    · refine vf_iinc C (z := 1) (L' := [(0, (2, 44)), (1, (0, v1)), (2, (0, v2))]) (zdg dz_R_findOrder_3 14 rfl) 3 rfl [0, 1, 2] (jrI rfl rfl) hn (by decide) ?_
      generalize w32 (v3 + 1) = x1
      refine vf_ul ?_
      refine vf_goto C (off := (-48)) (tgt := 103) (zdg dz_R_findOrder_3 15 rfl) (by decide) ?_
      exact vf_perm [1, 2, 3, 0] rfl (hk103 _ _ _ _)
    · refine vf_aload_n C (f := 0) (zdg dz_R_findOrder_3 0 rfl) 0 rfl rfl ?_
      refine vf_getp C fl_R_110 sh_43 rfl (by decide) rfl (x := 74) rfl (zdg dz_R_findOrder_3 1 rfl) ?_
      refine vf_iload C (zdg dz_R_findOrder_3 2 rfl) 4 rfl ?_
      refine vf_iald C sh_73 (by decide) rfl (mz := 3000) rfl (zdg dz_R_findOrder_3 3 rfl) ?_
      refine vf_iload_n C (f := 3) (zdg dz_R_findOrder_3 4 rfl) 3 rfl rfl ?_
      refine vf_icmp_ne C (off := 14) (tgt := 142) (zdg dz_R_findOrder_3 5 rfl) (by decide) ?_ ?_
      · exact t_R_findOrder_142 C hn hR hr hk103 ih _ _ _ _ _
      · refine vf_aload_n C (f := 0) (zdg dz_R_findOrder_3 6 rfl) 0 rfl rfl ?_
        refine vf_getp C fl_R_107 sh_43 rfl (by decide) rfl (x := 73) rfl (zdg dz_R_findOrder_3 7 rfl) ?_
        refine vf_iload_n C (f := 2) (zdg dz_R_findOrder_3 8 rfl) 2 rfl rfl ?_
        refine vf_iinc C (z := 1) (L' := [(0, (2, 44)), (1, (0, v1)), (3, (0, v3)), (4, (0, v4))]) (zdg dz_R_findOrder_3 9 rfl) 2 rfl [0, 1, 3, 4] (jrI rfl rfl) hn (by decide) ?_
        generalize w32 (v2 + 1) = x3
        refine vf_ul ?_
        refine vf_iload C (zdg dz_R_findOrder_3 10 rfl) 4 rfl ?_
        refine vf_iast C sh_72 (by decide) rfl (mz := 3000) rfl (zdg dz_R_findOrder_3 11 rfl) ?_
        generalize st w 72 v2.toNat v4 = u4
        refine vf_uw ?_
        exact vf_perm [1, 2, 0, 3, 4] rfl (t_R_findOrder_142 C hn hR hr hk103 ih _ _ _ _ _)
def f_R_findOrder_103 : Nat → Int → Int → Int → Wd → Option (Int × Wd)
  | 0, _, _, _, _ => none
  | n + 1, v1, v2, v3, w =>
    if v1 < v3 then
      some (0, w)
    else
      f_R_findOrder_111 (f_R_findOrder_103 n) FU v1 v2 v3 0 w
theorem t_R_findOrder_103 {X : jX} {Qf : Int × Wd → State → Prop} {ad : Nat → Nat} (C : Cx X prog_14_method_75_code "EachBringsAnotherModel") (hn : xn X = 6) (hR : xR X = rmD 2) (hr : Rt X Qf ad prog_14_method_75_code 9) : ∀ (n : Nat) (v1 v2 v3 : Int) (w : Wd), VF X Qf ad NF 0 0 w 103 [(0, (2, 44)), (1, (0, v1)), (2, (0, v2)), (3, (0, v3))] [] (f_R_findOrder_103 n v1 v2 v3 w) := by
  intro n
  induction n with
  | zero => intros; exact vf_no
  | succ n ih =>
    intro v1 v2 v3 w
    rw [f_R_findOrder_103]
    refine vf_iload_n C (f := 3) (zdg dz_R_findOrder_2 15 rfl) 3 rfl rfl ?_
    refine vf_iload_n C (f := 1) (zdg dz_R_findOrder_2 16 rfl) 1 rfl rfl ?_
    refine vf_icmp_gt C (off := 49) (tgt := 154) (zdg dz_R_findOrder_2 17 rfl) (by decide) ?_ ?_
    · exact hr _ _ _ _ (fun h => absurd h (by decide)) (zdg dz_R_findOrder_3 16 rfl)
    · refine vf_iconst C (z := 0) (zdg dz_R_findOrder_2 18 rfl) (jz rfl) ?_
      refine vf_istore C (i := 4) (L' := [(0, (2, 44)), (1, (0, v1)), (2, (0, v2)), (3, (0, v3))]) (zdg dz_R_findOrder_2 19 rfl) [0, 1, 2, 3] (jrI rfl rfl) hn (by decide) ?_
      exact vf_perm [1, 2, 3, 4, 0] rfl (t_R_findOrder_111 C hn hR hr ih FU _ _ _ _ _)
def f_R_findOrder_65 (k4 : Int → Int → Wd → Option (Int × Wd)) (k25 : Int → Int → Int → Int → Int → Wd → Option (Int × Wd)) (v1 v2 v3 v5 s0 s1 : Int) (w : Wd) : Option (Int × Wd) :=
  jlet (w32 (s0 + s1)) fun x11 =>
  if 5 = 0 then none else
  jlet (idiv v3 5) fun x12 =>
  jlet (w32 (v5 + 1)) fun x13 =>
  k25 v1 v2 x12 x11 x13 w
theorem t_R_findOrder_65 {X : jX} {Qf : Int × Wd → State → Prop} {ad : Nat → Nat} (C : Cx X prog_14_method_75_code "EachBringsAnotherModel") (hn : xn X = 6) (hR : xR X = rmD 2) (hr : Rt X Qf ad prog_14_method_75_code 9) {k4 : Int → Int → Wd → Option (Int × Wd)} (hk4 : ∀ (v1 v2 : Int) (w : Wd), VF X Qf ad NF 0 0 w 4 [(0, (2, 44)), (1, (0, v1)), (2, (0, v2))] [] (k4 v1 v2 w)) {k25 : Int → Int → Int → Int → Int → Wd → Option (Int × Wd)} (hk25 : ∀ (v1 v2 v3 v4 v5 : Int) (w : Wd), VF X Qf ad NF 0 0 w 25 [(0, (2, 44)), (1, (0, v1)), (2, (0, v2)), (3, (0, v3)), (4, (0, v4)), (5, (0, v5))] [] (k25 v1 v2 v3 v4 v5 w)) (v1 v2 v3 v5 s0 s1 : Int) (w : Wd) : VF X Qf ad NF 0 0 w 65 [(0, (2, 44)), (1, (0, v1)), (2, (0, v2)), (3, (0, v3)), (5, (0, v5))] [(0, s1), (0, s0)] (f_R_findOrder_65 k4 k25 v1 v2 v3 v5 s0 s1 w) := by
  unfold f_R_findOrder_65
  refine vf_iadd C (zdg dz_R_findOrder_1 16 rfl) ?_
  generalize w32 (s0 + s1) = x11
  refine vf_ul ?_
  refine vf_istore C (i := 4) (L' := [(0, (2, 44)), (1, (0, v1)), (2, (0, v2)), (3, (0, v3)), (5, (0, v5))]) (zdg dz_R_findOrder_1 17 rfl) [0, 1, 2, 3, 4] (jrI rfl rfl) hn (by decide) ?_
  refine vf_iload_n C (f := 3) (zdg dz_R_findOrder_1 18 rfl) 4 rfl rfl ?_
  refine vf_iconst C (z := 5) (zdg dz_R_findOrder_1 19 rfl) (jz rfl) ?_
  refine vf_idiv C (zdg dz_R_findOrder_1 20 rfl) ?_
  generalize idiv v3 5 = x12
  refine vf_ul ?_
  refine vf_istore_n C (f := 3) (L' := [(4, (0, x11)), (0, (2, 44)), (1, (0, v1)), (2, (0, v2)), (5, (0, v5))]) (zdg dz_R_findOrder_1 21 rfl) [0, 1, 2, 3, 5] (jrI rfl rfl) hn (by decide) rfl ?_
  refine vf_iinc C (z := 1) (L' := [(3, (0, x12)), (4, (0, x11)), (0, (2, 44)), (1, (0, v1)), (2, (0, v2))]) (zdg dz_R_findOrder_1 22 rfl) 5 rfl [0, 1, 2, 3, 4] (jrI rfl rfl) hn (by decide) ?_
  generalize w32 (v5 + 1) = x13
  refine vf_ul ?_
  refine vf_goto C (off := (-50)) (tgt := 25) (zdg dz_R_findOrder_1 23 rfl) (by decide) ?_
  exact vf_perm [3, 4, 5, 1, 2, 0] rfl (hk25 _ _ _ _ _ _)
def f_R_findOrder_25 (k4 : Int → Int → Wd → Option (Int × Wd)) : Nat → Int → Int → Int → Int → Int → Wd → Option (Int × Wd)
  | 0, _, _, _, _, _, _ => none
  | n + 1, v1, v2, v3, v4, v5, w =>
    if (w 43 0) ≤ v5 then
      jgd ((0 : Int) ≤ v2 ∧ v2 < 3000) <|
      jlw (st w 73 v2.toNat v4) fun u6 =>
      jlet (imax v1 v4) fun x7 =>
      jlet (w32 (v2 + 1)) fun x8 =>
      k4 x7 x8 u6
    else
      if 5 = 0 then none else
      if (irem v3 5) = 0 then
        f_R_findOrder_65 k4 (f_R_findOrder_25 k4 n) v1 v2 v3 v5 v4 100 w
      else
        if 5 = 0 then none else
        jcall (f_R_isGuest (irem v3 5) w) fun r9 u10 =>
        if r9 = 0 then
          f_R_findOrder_65 k4 (f_R_findOrder_25 k4 n) v1 v2 v3 v5 v4 0 u10
        else
          if 5 = 0 then none else
          f_R_findOrder_65 k4 (f_R_findOrder_25 k4 n) v1 v2 v3 v5 v4 (w32 (4 - (irem v3 5))) u10
theorem t_R_findOrder_25 {X : jX} {Qf : Int × Wd → State → Prop} {ad : Nat → Nat} (C : Cx X prog_14_method_75_code "EachBringsAnotherModel") (hn : xn X = 6) (hR : xR X = rmD 2) (hr : Rt X Qf ad prog_14_method_75_code 9) {k4 : Int → Int → Wd → Option (Int × Wd)} (hk4 : ∀ (v1 v2 : Int) (w : Wd), VF X Qf ad NF 0 0 w 4 [(0, (2, 44)), (1, (0, v1)), (2, (0, v2))] [] (k4 v1 v2 w)) : ∀ (n : Nat) (v1 v2 v3 v4 v5 : Int) (w : Wd), VF X Qf ad NF 0 0 w 25 [(0, (2, 44)), (1, (0, v1)), (2, (0, v2)), (3, (0, v3)), (4, (0, v4)), (5, (0, v5))] [] (f_R_findOrder_25 k4 n v1 v2 v3 v4 v5 w) := by
  intro n
  induction n with
  | zero => intros; exact vf_no
  | succ n ih =>
    intro v1 v2 v3 v4 v5 w
    rw [f_R_findOrder_25]
    refine vf_iload C (zdg dz_R_findOrder_0 17 rfl) 5 rfl ?_
    refine vf_aload_n C (f := 0) (zdg dz_R_findOrder_0 18 rfl) 0 rfl rfl ?_
    refine vf_get C (kd := 0) fl_R_144 sh_43 rfl (by decide) rfl rfl (zdg dz_R_findOrder_0 19 rfl) ?_
    refine vf_icmp_ge C (off := 47) (tgt := 78) (zdg dz_R_findOrder_0 20 rfl) (by decide) ?_ ?_
    · refine vf_aload_n C (f := 0) (zdg dz_R_findOrder_2 0 rfl) 0 rfl rfl ?_
      refine vf_getp C fl_R_110 sh_43 rfl (by decide) rfl (x := 74) rfl (zdg dz_R_findOrder_2 1 rfl) ?_
      refine vf_iload_n C (f := 2) (zdg dz_R_findOrder_2 2 rfl) 2 rfl rfl ?_
      refine vf_iload C (zdg dz_R_findOrder_2 3 rfl) 4 rfl ?_
      refine vf_iast C sh_73 (by decide) rfl (mz := 3000) rfl (zdg dz_R_findOrder_2 4 rfl) ?_
      generalize st w 73 v2.toNat v4 = u6
      refine vf_uw ?_
      refine vf_iload_n C (f := 1) (zdg dz_R_findOrder_2 5 rfl) 1 rfl rfl ?_
      refine vf_iload C (zdg dz_R_findOrder_2 6 rfl) 4 rfl ?_
      refine vf_mmax C ml_R_267 (jrm_n hR (by decide)) ⟨Nat.zero_le _, Nat.zero_le _⟩ (Nat.le_of_ble_eq_true rfl) (zdg dz_R_findOrder_2 7 rfl) ?_
      generalize imax v1 v4 = x7
      refine vf_ul ?_
      refine vf_istore_n C (f := 1) (L' := [(0, (2, 44)), (2, (0, v2))]) (zdg dz_R_findOrder_2 8 rfl) [0, 2] (jrI rfl rfl) hn (by decide) rfl ?_
      refine vf_iinc C (z := 1) (L' := [(1, (0, x7)), (0, (2, 44))]) (zdg dz_R_findOrder_2 9 rfl) 2 rfl [0, 1] (jrI rfl rfl) hn (by decide) ?_
      generalize w32 (v2 + 1) = x8
      refine vf_ul ?_
      refine vf_goto C (off := (-92)) (tgt := 4) (zdg dz_R_findOrder_2 10 rfl) (by decide) ?_
      exact vf_perm [2, 1, 0] rfl (hk4 _ _ _)
    · refine vf_iload C (zdg dz_R_findOrder_0 21 rfl) 4 rfl ?_
      refine vf_iload_n C (f := 3) (zdg dz_R_findOrder_0 22 rfl) 3 rfl rfl ?_
      refine vf_iconst C (z := 5) (zdg dz_R_findOrder_0 23 rfl) (jz rfl) ?_
      refine vf_irem C (zdg dz_R_findOrder_1 0 rfl) ?_
      refine vf_if_ne C (off := 8) (tgt := 47) (zdg dz_R_findOrder_1 1 rfl) (by decide) ?_ ?_
      · refine vf_iload_n C (f := 3) (zdg dz_R_findOrder_1 4 rfl) 3 rfl rfl ?_
        refine vf_iconst C (z := 5) (zdg dz_R_findOrder_1 5 rfl) (jz rfl) ?_
        refine vf_irem C (zdg dz_R_findOrder_1 6 rfl) ?_
        refine vf_callSz C cy_R_isGuest ml_R_256 (ct_R_isGuest _ _) (S := [(0, v4)]) (jrm_of hR rfl) rfl rfl (Nat.le_of_ble_eq_true rfl) (zdg dz_R_findOrder_1 7 rfl) (fun r9 u10 => ?_)
        refine vf_if_eq C (off := 11) (tgt := 64) (zdg dz_R_findOrder_1 8 rfl) (by decide) ?_ ?_
        · refine vf_iconst C (z := 0) (zdg dz_R_findOrder_1 15 rfl) (jz rfl) ?_
          exact vf_perm [0, 1, 2, 3, 5] rfl (t_R_findOrder_65 C hn hR hr hk4 ih _ _ _ _ _ _ _)
        · refine vf_iconst C (z := 4) (zdg dz_R_findOrder_1 9 rfl) (jz rfl) ?_
          refine vf_iload_n C (f := 3) (zdg dz_R_findOrder_1 10 rfl) 3 rfl rfl ?_
          refine vf_iconst C (z := 5) (zdg dz_R_findOrder_1 11 rfl) (jz rfl) ?_
          refine vf_irem C (zdg dz_R_findOrder_1 12 rfl) ?_
          refine vf_isub C (zdg dz_R_findOrder_1 13 rfl) ?_
          refine vf_goto C (off := 4) (tgt := 65) (zdg dz_R_findOrder_1 14 rfl) (by decide) ?_
          exact vf_perm [0, 1, 2, 3, 5] rfl (t_R_findOrder_65 C hn hR hr hk4 ih _ _ _ _ _ _ _)
      · refine vf_bipush C (z := 100) (zdg dz_R_findOrder_1 2 rfl) (by decide +kernel) (jz rfl) ?_
        refine vf_goto C (off := 21) (tgt := 65) (zdg dz_R_findOrder_1 3 rfl) (by decide) ?_
        exact vf_perm [0, 1, 2, 3, 5] rfl (t_R_findOrder_65 C hn hR hr hk4 ih _ _ _ _ _ _ _)
def f_R_findOrder_4 : Nat → Int → Int → Wd → Option (Int × Wd)
  | 0, _, _, _ => none
  | n + 1, v1, v2, w =>
    if (w 43 40) ≤ v2 then
      f_R_findOrder_103 FU v1 0 0 w
    else
      jgd ((0 : Int) ≤ v2 ∧ v2 < 3000) <|
      jlet (w 63 v2.toNat) fun x5 =>
      f_R_findOrder_25 (f_R_findOrder_4 n) FU v1 v2 x5 0 0 w
theorem t_R_findOrder_4 {X : jX} {Qf : Int × Wd → State → Prop} {ad : Nat → Nat} (C : Cx X prog_14_method_75_code "EachBringsAnotherModel") (hn : xn X = 6) (hR : xR X = rmD 2) (hr : Rt X Qf ad prog_14_method_75_code 9) : ∀ (n : Nat) (v1 v2 : Int) (w : Wd), VF X Qf ad NF 0 0 w 4 [(0, (2, 44)), (1, (0, v1)), (2, (0, v2))] [] (f_R_findOrder_4 n v1 v2 w) := by
  intro n
  induction n with
  | zero => intros; exact vf_no
  | succ n ih =>
    intro v1 v2 w
    rw [f_R_findOrder_4]
    refine vf_iload_n C (f := 2) (zdg dz_R_findOrder_0 4 rfl) 2 rfl rfl ?_
    refine vf_aload_n C (f := 0) (zdg dz_R_findOrder_0 5 rfl) 0 rfl rfl ?_
    refine vf_get C (kd := 0) fl_R_314 sh_43 rfl (by decide) rfl rfl (zdg dz_R_findOrder_0 6 rfl) ?_
    refine vf_icmp_ge C (off := 90) (tgt := 99) (zdg dz_R_findOrder_0 7 rfl) (by decide) ?_ ?_
    · refine vf_iconst C (z := 0) (zdg dz_R_findOrder_2 11 rfl) (jz rfl) ?_
      refine vf_istore_n C (f := 2) (L' := [(0, (2, 44)), (1, (0, v1))]) (zdg dz_R_findOrder_2 12 rfl) [0, 1] (jrI rfl rfl) hn (by decide) rfl ?_
      refine vf_iconst C (z := 0) (zdg dz_R_findOrder_2 13 rfl) (jz rfl) ?_
      refine vf_istore_n C (f := 3) (L' := [(2, (0, 0)), (0, (2, 44)), (1, (0, v1))]) (zdg dz_R_findOrder_2 14 rfl) [0, 1, 2] (jrI rfl rfl) hn (by decide) rfl ?_
      exact vf_perm [2, 3, 1, 0] rfl (t_R_findOrder_103 C hn hR hr FU _ _ _ _)
    · refine vf_aload_n C (f := 0) (zdg dz_R_findOrder_0 8 rfl) 0 rfl rfl ?_
      refine vf_getp C fl_R_79 sh_43 rfl (by decide) rfl (x := 64) rfl (zdg dz_R_findOrder_0 9 rfl) ?_
      refine vf_iload_n C (f := 2) (zdg dz_R_findOrder_0 10 rfl) 2 rfl rfl ?_
      refine vf_iald C sh_63 (by decide) rfl (mz := 3000) rfl (zdg dz_R_findOrder_0 11 rfl) ?_
      generalize w 63 v2.toNat = x5
      refine vf_ul ?_
      refine vf_istore_n C (f := 3) (L' := [(0, (2, 44)), (1, (0, v1)), (2, (0, v2))]) (zdg dz_R_findOrder_0 12 rfl) [0, 1, 2] (jrI rfl rfl) hn (by decide) rfl ?_
      refine vf_iconst C (z := 0) (zdg dz_R_findOrder_0 13 rfl) (jz rfl) ?_
      refine vf_istore C (i := 4) (L' := [(3, (0, x5)), (0, (2, 44)), (1, (0, v1)), (2, (0, v2))]) (zdg dz_R_findOrder_0 14 rfl) [0, 1, 2, 3] (jrI rfl rfl) hn (by decide) ?_
      refine vf_iconst C (z := 0) (zdg dz_R_findOrder_0 15 rfl) (jz rfl) ?_
      refine vf_istore C (i := 5) (L' := [(4, (0, 0)), (3, (0, x5)), (0, (2, 44)), (1, (0, v1)), (2, (0, v2))]) (zdg dz_R_findOrder_0 16 rfl) [0, 1, 2, 3, 4] (jrI rfl rfl) hn (by decide) ?_
      exact vf_perm [3, 4, 5, 2, 1, 0] rfl (t_R_findOrder_25 C hn hR hr ih FU _ _ _ _ _ _)
def f_R_findOrder (w : Wd) : Option (Int × Wd) :=
  f_R_findOrder_4 FU 0 0 w
theorem ct_R_findOrder (w : Wd) : Ct y_R_findOrder prog_14_method_75_code 6 none 2 9 [(2, 44)] w (f_R_findOrder w) := by
  refine ct_of (by decide +kernel) (Or.inr (Or.inr (Or.inr ⟨rfl, rfl⟩))) (Nat.le_of_ble_eq_true rfl) ?_
  intro X Qf ad C hn hR hr
  unfold f_R_findOrder
  show VF X Qf ad NF 0 0 w 0 [(0, (2, 44))] [] _
  refine vf_iconst C (z := 0) (zdg dz_R_findOrder_0 0 rfl) (jz rfl) ?_
  refine vf_istore_n C (f := 1) (L' := [(0, (2, 44))]) (zdg dz_R_findOrder_0 1 rfl) [0] (jrI rfl rfl) hn (by decide) rfl ?_
  refine vf_iconst C (z := 0) (zdg dz_R_findOrder_0 2 rfl) (jz rfl) ?_
  refine vf_istore_n C (f := 2) (L' := [(1, (0, 0)), (0, (2, 44))]) (zdg dz_R_findOrder_0 3 rfl) [0, 1] (jrI rfl rfl) hn (by decide) rfl ?_
  exact vf_perm [2, 1, 0] rfl (t_R_findOrder_4 C hn hR hr FU _ _ _)
def f_R_findLife_104 (k6 : Int → Int → Wd → Option (Int × Wd)) (v1 v2 : Int) (w : Wd) : Option (Int × Wd) :=
  jlet (w32 (v2 + 1)) fun x9 =>
  k6 v1 x9 w
theorem t_R_findLife_104 {X : jX} {Qf : Int × Wd → State → Prop} {ad : Nat → Nat} (C : Cx X prog_14_method_76_code "EachBringsAnotherModel") (hn : xn X = 5) (hR : xR X = rmD 3) (hr : Rt X Qf ad prog_14_method_76_code 9) {k6 : Int → Int → Wd → Option (Int × Wd)} (hk6 : ∀ (v1 v2 : Int) (w : Wd), VF X Qf ad NF 0 0 w 6 [(0, (2, 44)), (1, (0, v1)), (2, (0, v2))] [] (k6 v1 v2 w)) (v1 v2 : Int) (w : Wd) : VF X Qf ad NF 0 0 w 104 [(0, (2, 44)), (1, (0, v1)), (2, (0, v2))] [] (f_R_findLife_104 k6 v1 v2 w) := by
  unfold f_R_findLife_104
  refine vf_iinc C (z := 1) (L' := [(0, (2, 44)), (1, (0, v1))]) (zdg dz_R_findLife_2 15 rfl) 2 rfl [0, 1] (jrI rfl rfl) hn (by decide) ?_
  generalize w32 (v2 + 1) = x9
  refine vf_ul ?_
  refine vf_goto C (off := (-101)) (tgt := 6) (zdg dz_R_findLife_2 16 rfl) (by decide) ?_
  exact vf_perm [1, 2, 0] rfl (hk6 _ _ _)
def f_R_findLife_56 (k6 : Int → Int → Wd → Option (Int × Wd)) : Nat → Int → Int → Int → Int → Wd → Option (Int × Wd)
  | 0, _, _, _, _, _ => none
  | n + 1, v1, v2, v3, v4, w =>
    jgd ((0 : Int) ≤ (w32 (v3 + 1)) ∧ (w32 (v3 + 1)) < 3001) <|
    if (w 64 (w32 (v3 + 1)).toNat) ≤ v4 then
      f_R_findLife_104 k6 v1 v2 w
    else
      jgd ((0 : Int) ≤ v3 ∧ v3 < 3000) <|
      jgd ((0 : Int) ≤ v4 ∧ v4 < 756000) <|
      jgd ((0 : Int) ≤ (w 65 v4.toNat) ∧ (w 65 v4.toNat) < 3000) <|
      jgd ((0 : Int) ≤ v3 ∧ v3 < 3000) <|
      jlw (st w 71 v3.toNat ((imax (w 71 v3.toNat) (w32 ((w 71 (w 65 v4.toNat).toNat) + 1))))) fun u10 =>
      jlet (w32 (v4 + 1)) fun x11 =>
      f_R_findLife_56 k6 n v1 v2 v3 x11 u10
theorem t_R_findLife_56 {X : jX} {Qf : Int × Wd → State → Prop} {ad : Nat → Nat} (C : Cx X prog_14_method_76_code "EachBringsAnotherModel") (hn : xn X = 5) (hR : xR X = rmD 3) (hr : Rt X Qf ad prog_14_method_76_code 9) {k6 : Int → Int → Wd → Option (Int × Wd)} (hk6 : ∀ (v1 v2 : Int) (w : Wd), VF X Qf ad NF 0 0 w 6 [(0, (2, 44)), (1, (0, v1)), (2, (0, v2))] [] (k6 v1 v2 w)) : ∀ (n : Nat) (v1 v2 v3 v4 : Int) (w : Wd), VF X Qf ad NF 0 0 w 56 [(0, (2, 44)), (1, (0, v1)), (2, (0, v2)), (3, (0, v3)), (4, (0, v4))] [] (f_R_findLife_56 k6 n v1 v2 v3 v4 w) := by
  intro n
  induction n with
  | zero => intros; exact vf_no
  | succ n ih =>
    intro v1 v2 v3 v4 w
    rw [f_R_findLife_56]
    refine vf_iload C (zdg dz_R_findLife_1 11 rfl) 4 rfl ?_
    refine vf_aload_n C (f := 0) (zdg dz_R_findLife_1 12 rfl) 0 rfl rfl ?_
    refine vf_getp C fl_R_82 sh_43 rfl (by decide) rfl (x := 65) rfl (zdg dz_R_findLife_1 13 rfl) ?_
    refine vf_iload_n C (f := 3) (zdg dz_R_findLife_1 14 rfl) 3 rfl rfl ?_
    refine vf_iconst C (z := 1) (zdg dz_R_findLife_1 15 rfl) (jz rfl) ?_
    refine vf_iadd C (zdg dz_R_findLife_1 16 rfl) ?_
    refine vf_iald C sh_64 (by decide) rfl (mz := 3001) rfl (zdg dz_R_findLife_1 17 rfl) ?_
    refine vf_icmp_ge C (off := 38) (tgt := 104) (zdg dz_R_findLife_1 18 rfl) (by decide) ?_ ?_
    · exact vf_perm [0, 1, 2] rfl (t_R_findLife_104 C hn hR hr hk6 _ _ _)
    · refine vf_aload_n C (f := 0) (zdg dz_R_findLife_1 19 rfl) 0 rfl rfl ?_
      refine vf_getp C fl_R_104 sh_43 rfl (by decide) rfl (x := 72) rfl (zdg dz_R_findLife_1 20 rfl) ?_
      refine vf_iload_n C (f := 3) (zdg dz_R_findLife_1 21 rfl) 3 rfl rfl ?_
      refine vf_aload_n C (f := 0) (zdg dz_R_findLife_1 22 rfl) 0 rfl rfl ?_
      refine vf_getp C fl_R_104 sh_43 rfl (by decide) rfl (x := 72) rfl (zdg dz_R_findLife_1 23 rfl) ?_
      refine vf_iload_n C (f := 3) (zdg dz_R_findLife_2 0 rfl) 3 rfl rfl ?_
      refine vf_iald C sh_71 (by decide) rfl (mz := 3000) rfl (zdg dz_R_findLife_2 1 rfl) ?_
      refine vf_aload_n C (f := 0) (zdg dz_R_findLife_2 2 rfl) 0 rfl rfl ?_
      refine vf_getp C fl_R_104 sh_43 rfl (by decide) rfl (x := 72) rfl (zdg dz_R_findLife_2 3 rfl) ?_
      refine vf_aload_n C (f := 0) (zdg dz_R_findLife_2 4 rfl) 0 rfl rfl ?_
      refine vf_getp C fl_R_86 sh_43 rfl (by decide) rfl (x := 66) rfl (zdg dz_R_findLife_2 5 rfl) ?_
      refine vf_iload C (zdg dz_R_findLife_2 6 rfl) 4 rfl ?_
      refine vf_iald C sh_65 (by decide) rfl (mz := 756000) rfl (zdg dz_R_findLife_2 7 rfl) ?_
      refine vf_iald C sh_71 (by decide) rfl (mz := 3000) rfl (zdg dz_R_findLife_2 8 rfl) ?_
      refine vf_iconst C (z := 1) (zdg dz_R_findLife_2 9 rfl) (jz rfl) ?_
      refine vf_iadd C (zdg dz_R_findLife_2 10 rfl) ?_
      refine vf_mmax C ml_R_267 (jrm_n hR (by decide)) ⟨Nat.zero_le _, Nat.zero_le _⟩ (Nat.le_of_ble_eq_true rfl) (zdg dz_R_findLife_2 11 rfl) ?_
      refine vf_iast C sh_71 (by decide) rfl (mz := 3000) rfl (zdg dz_R_findLife_2 12 rfl) ?_
      generalize st w 71 v3.toNat ((imax (w 71 v3.toNat) (w32 ((w 71 (w 65 v4.toNat).toNat) + 1)))) = u10
      refine vf_uw ?_
      refine vf_iinc C (z := 1) (L' := [(0, (2, 44)), (1, (0, v1)), (2, (0, v2)), (3, (0, v3))]) (zdg dz_R_findLife_2 13 rfl) 4 rfl [0, 1, 2, 3] (jrI rfl rfl) hn (by decide) ?_
      generalize w32 (v4 + 1) = x11
      refine vf_ul ?_
      refine vf_goto C (off := (-45)) (tgt := 56) (zdg dz_R_findLife_2 14 rfl) (by decide) ?_
      exact vf_perm [1, 2, 3, 4, 0] rfl (ih _ _ _ _ _)
def f_R_findLife_6 : Nat → Int → Int → Wd → Option (Int × Wd)
  | 0, _, _, _ => none
  | n + 1, v1, v2, w =>
    if (w 43 40) ≤ v2 then
      some (0, w)
    else
      jgd ((0 : Int) ≤ v2 ∧ v2 < 3000) <|
      jlet (w 72 v2.toNat) fun x3 =>
      jgd ((0 : Int) ≤ x3 ∧ x3 < 3000) <|
      jlw (st w 71 x3.toNat (-1)) fun u4 =>
      jcall (f_R_guestsIn x3 u4) fun r5 u6 =>
      if (iand r5 v1) = 0 then
        f_R_findLife_104 (f_R_findLife_6 n) v1 v2 u6
      else
        jgd ((0 : Int) ≤ x3 ∧ x3 < 3000) <|
        jlw (st u6 71 x3.toNat 0) fun u7 =>
        jgd ((0 : Int) ≤ x3 ∧ x3 < 3001) <|
        jlet (u7 64 x3.toNat) fun x8 =>
        f_R_findLife_56 (f_R_findLife_6 n) FU v1 v2 x3 x8 u7
theorem t_R_findLife_6 {X : jX} {Qf : Int × Wd → State → Prop} {ad : Nat → Nat} (C : Cx X prog_14_method_76_code "EachBringsAnotherModel") (hn : xn X = 5) (hR : xR X = rmD 3) (hr : Rt X Qf ad prog_14_method_76_code 9) : ∀ (n : Nat) (v1 v2 : Int) (w : Wd), VF X Qf ad NF 0 0 w 6 [(0, (2, 44)), (1, (0, v1)), (2, (0, v2))] [] (f_R_findLife_6 n v1 v2 w) := by
  intro n
  induction n with
  | zero => intros; exact vf_no
  | succ n ih =>
    intro v1 v2 w
    rw [f_R_findLife_6]
    refine vf_iload_n C (f := 2) (zdg dz_R_findLife_0 4 rfl) 2 rfl rfl ?_
    refine vf_aload_n C (f := 0) (zdg dz_R_findLife_0 5 rfl) 0 rfl rfl ?_
    refine vf_get C (kd := 0) fl_R_314 sh_43 rfl (by decide) rfl rfl (zdg dz_R_findLife_0 6 rfl) ?_
    refine vf_icmp_ge C (off := 99) (tgt := 110) (zdg dz_R_findLife_0 7 rfl) (by decide) ?_ ?_
    · exact hr _ _ _ _ (fun h => absurd h (by decide)) (zdg dz_R_findLife_2 17 rfl)
    · refine vf_aload_n C (f := 0) (zdg dz_R_findLife_0 8 rfl) 0 rfl rfl ?_
      refine vf_getp C fl_R_107 sh_43 rfl (by decide) rfl (x := 73) rfl (zdg dz_R_findLife_0 9 rfl) ?_
      refine vf_iload_n C (f := 2) (zdg dz_R_findLife_0 10 rfl) 2 rfl rfl ?_
      refine vf_iald C sh_72 (by decide) rfl (mz := 3000) rfl (zdg dz_R_findLife_0 11 rfl) ?_
      generalize w 72 v2.toNat = x3
      refine vf_ul ?_
      refine vf_istore_n C (f := 3) (L' := [(0, (2, 44)), (1, (0, v1)), (2, (0, v2))]) (zdg dz_R_findLife_0 12 rfl) [0, 1, 2] (jrI rfl rfl) hn (by decide) rfl ?_
      refine vf_aload_n C (f := 0) (zdg dz_R_findLife_0 13 rfl) 1 rfl rfl ?_
      refine vf_getp C fl_R_104 sh_43 rfl (by decide) rfl (x := 72) rfl (zdg dz_R_findLife_0 14 rfl) ?_
      refine vf_iload_n C (f := 3) (zdg dz_R_findLife_0 15 rfl) 0 rfl rfl ?_
      refine vf_iconst C (z := (-1)) (zdg dz_R_findLife_0 16 rfl) (jz rfl) ?_
      refine vf_iast C sh_71 (by decide) rfl (mz := 3000) rfl (zdg dz_R_findLife_0 17 rfl) ?_
      generalize st w 71 x3.toNat (-1) = u4
      refine vf_uw ?_
      refine vf_aload_n C (f := 0) (zdg dz_R_findLife_0 18 rfl) 1 rfl rfl ?_
      refine vf_iload_n C (f := 3) (zdg dz_R_findLife_0 19 rfl) 0 rfl rfl ?_
      refine vf_callVi C cy_R_guestsIn ml_R_345 rfl (ct_R_guestsIn _ _) (S := []) sh_43 (by decide) rfl (jrm_of hR rfl) rfl rfl (Nat.le_of_ble_eq_true rfl) (zdg dz_R_findLife_0 20 rfl) (fun r5 u6 => ?_)
      refine vf_iload_n C (f := 1) (zdg dz_R_findLife_0 21 rfl) 2 rfl rfl ?_
      refine vf_iand C (zdg dz_R_findLife_0 22 rfl) ?_
      refine vf_if_ne C (off := 6) (tgt := 41) (zdg dz_R_findLife_0 23 rfl) (by decide) ?_ ?_
      · refine vf_aload_n C (f := 0) (zdg dz_R_findLife_1 1 rfl) 1 rfl rfl ?_
        refine vf_getp C fl_R_104 sh_43 rfl (by decide) rfl (x := 72) rfl (zdg dz_R_findLife_1 2 rfl) ?_
        refine vf_iload_n C (f := 3) (zdg dz_R_findLife_1 3 rfl) 0 rfl rfl ?_
        refine vf_iconst C (z := 0) (zdg dz_R_findLife_1 4 rfl) (jz rfl) ?_
        refine vf_iast C sh_71 (by decide) rfl (mz := 3000) rfl (zdg dz_R_findLife_1 5 rfl) ?_
        generalize st u6 71 x3.toNat 0 = u7
        refine vf_uw ?_
        refine vf_aload_n C (f := 0) (zdg dz_R_findLife_1 6 rfl) 1 rfl rfl ?_
        refine vf_getp C fl_R_82 sh_43 rfl (by decide) rfl (x := 65) rfl (zdg dz_R_findLife_1 7 rfl) ?_
        refine vf_iload_n C (f := 3) (zdg dz_R_findLife_1 8 rfl) 0 rfl rfl ?_
        refine vf_iald C sh_64 (by decide) rfl (mz := 3001) rfl (zdg dz_R_findLife_1 9 rfl) ?_
        generalize u7 64 x3.toNat = x8
        refine vf_ul ?_
        refine vf_istore C (i := 4) (L' := [(3, (0, x3)), (0, (2, 44)), (1, (0, v1)), (2, (0, v2))]) (zdg dz_R_findLife_1 10 rfl) [0, 1, 2, 3] (jrI rfl rfl) hn (by decide) ?_
        exact vf_perm [2, 3, 4, 1, 0] rfl (t_R_findLife_56 C hn hR hr ih FU _ _ _ _ _)
      · refine vf_goto C (off := 66) (tgt := 104) (zdg dz_R_findLife_1 0 rfl) (by decide) ?_
        exact vf_perm [1, 2, 3] rfl (t_R_findLife_104 C hn hR hr ih _ _ _)
def f_R_findLife (v1 : Int) (w : Wd) : Option (Int × Wd) :=
  jcall (f_R_findOrder w) fun r1 u2 =>
  f_R_findLife_6 FU v1 0 u2
theorem ct_R_findLife (v1 : Int) (w : Wd) : Ct y_R_findLife prog_14_method_76_code 5 none 3 9 [(2, 44), (0, v1)] w (f_R_findLife v1 w) := by
  refine ct_of (by decide +kernel) (Or.inr (Or.inr (Or.inr ⟨rfl, rfl⟩))) (Nat.le_of_ble_eq_true rfl) ?_
  intro X Qf ad C hn hR hr
  unfold f_R_findLife
  show VF X Qf ad NF 0 0 w 0 [(0, (2, 44)), (1, (0, v1))] [] _
  refine vf_aload_n C (f := 0) (zdg dz_R_findLife_0 0 rfl) 0 rfl rfl ?_
  refine vf_callVv C cy_R_findOrder ml_R_367 rfl (ct_R_findOrder _) (S := []) sh_43 (by decide) rfl (jrm_of hR rfl) rfl rfl (Nat.le_of_ble_eq_true rfl) (zdg dz_R_findLife_0 1 rfl) (fun r1 u2 => ?_)
  refine vf_iconst C (z := 0) (zdg dz_R_findLife_0 2 rfl) (jz rfl) ?_
  refine vf_istore_n C (f := 2) (L' := [(0, (2, 44)), (1, (0, v1))]) (zdg dz_R_findLife_0 3 rfl) [0, 1] (jrI rfl rfl) hn (by decide) rfl ?_
  exact vf_perm [1, 2, 0] rfl (t_R_findLife_6 C hn hR hr FU _ _ _)
def f_R_all (w : Wd) : Option (Int × Wd) :=
  some (w32 ((ishl 1 (w 43 0)) - 1), w)
theorem ct_R_all (w : Wd) : Ct y_R_all prog_14_method_77_code 1 (some .int) 1 0 [(2, 44)] w (f_R_all w) := by
  refine ct_of (by decide +kernel) (Or.inl ⟨rfl, rfl⟩) (Nat.le_of_ble_eq_true rfl) ?_
  intro X Qf ad C hn hR hr
  unfold f_R_all
  show VF X Qf ad NF 0 0 w 0 [(0, (2, 44))] [] _
  refine vf_iconst C (z := 1) (zdg dz_R_all_0 0 rfl) (jz rfl) ?_
  refine vf_aload_n C (f := 0) (zdg dz_R_all_0 1 rfl) 0 rfl rfl ?_
  refine vf_get C (kd := 0) fl_R_144 sh_43 rfl (by decide) rfl rfl (zdg dz_R_all_0 2 rfl) ?_
  refine vf_ishl C (zdg dz_R_all_0 3 rfl) ?_
  refine vf_iconst C (z := 1) (zdg dz_R_all_0 4 rfl) (jz rfl) ?_
  refine vf_isub C (zdg dz_R_all_0 5 rfl) ?_
  exact hr _ _ _ _ (fun h => absurd h (by decide)) (zdg dz_R_all_0 6 rfl)
def f_R_last_106 (k65 : Int → Int → Int → Wd → Option (Int × Wd)) (v1 v2 v3 : Int) (w : Wd) : Option (Int × Wd) :=
  jlet (w32 (v3 + 1)) fun x14 =>
  k65 v1 v2 x14 w
theorem t_R_last_106 {X : jX} {Qf : Int × Wd → State → Prop} {ad : Nat → Nat} (C : Cx X prog_14_method_78_code "EachBringsAnotherModel") (hn : xn X = 4) (hR : xR X = rmD 20) (hr : Rt X Qf ad prog_14_method_78_code 0) {k65 : Int → Int → Int → Wd → Option (Int × Wd)} (hk65 : ∀ (v1 v2 v3 : Int) (w : Wd), VF X Qf ad NF 0 0 w 65 [(0, (2, 44)), (1, (0, v1)), (2, (0, v2)), (3, (0, v3))] [] (k65 v1 v2 v3 w)) (v1 v2 v3 : Int) (w : Wd) : VF X Qf ad NF 0 0 w 106 [(0, (2, 44)), (1, (0, v1)), (2, (0, v2)), (3, (0, v3))] [] (f_R_last_106 k65 v1 v2 v3 w) := by
  unfold f_R_last_106
  refine vf_iinc C (z := 1) (L' := [(0, (2, 44)), (1, (0, v1)), (2, (0, v2))]) (zdg dz_R_last_2 10 rfl) 3 rfl [0, 1, 2] (jrI rfl rfl) hn (by decide) ?_
  generalize w32 (v3 + 1) = x14
  refine vf_ul ?_
  refine vf_goto C (off := (-44)) (tgt := 65) (zdg dz_R_last_2 11 rfl) (by decide) ?_
  exact vf_perm [1, 2, 3, 0] rfl (hk65 _ _ _ _)
def f_R_last_65 : Nat → Int → Int → Int → Wd → Option (Int × Wd)
  | 0, _, _, _, _ => none
  | n + 1, v1, v2, v3, w =>
    if (w 43 40) ≤ v3 then
      jlw (st w 43 15 0) fun u11 =>
      jcall (f_R_tell v2 u11) fun r12 u13 =>
      some (v1, u13)
    else
      jgd ((0 : Int) ≤ v3 ∧ v3 < 3000) <|
      if (1000000 : Int) ≤ (w 69 v3.toNat) then
        f_R_last_106 (f_R_last_65 n) v1 v2 v3 w
      else
        jcall (f_R_guestsIn v3 w) fun r15 u16 =>
        if r15 = 0 then
          f_R_last_106 (f_R_last_65 n) v1 v2 v3 u16
        else
          jcall (f_R_guestsIn v3 u16) fun r17 u18 =>
          jcall (f_JI_bitCount r17 u18) fun r19 u20 =>
          jlet (imin v2 r19) fun x21 =>
          f_R_last_106 (f_R_last_65 n) v1 x21 v3 u20
theorem t_R_last_65 {X : jX} {Qf : Int × Wd → State → Prop} {ad : Nat → Nat} (C : Cx X prog_14_method_78_code "EachBringsAnotherModel") (hn : xn X = 4) (hR : xR X = rmD 20) (hr : Rt X Qf ad prog_14_method_78_code 0) : ∀ (n : Nat) (v1 v2 v3 : Int) (w : Wd), VF X Qf ad NF 0 0 w 65 [(0, (2, 44)), (1, (0, v1)), (2, (0, v2)), (3, (0, v3))] [] (f_R_last_65 n v1 v2 v3 w) := by
  intro n
  induction n with
  | zero => intros; exact vf_no
  | succ n ih =>
    intro v1 v2 v3 w
    rw [f_R_last_65]
    refine vf_iload_n C (f := 3) (zdg dz_R_last_1 13 rfl) 3 rfl rfl ?_
    refine vf_aload_n C (f := 0) (zdg dz_R_last_1 14 rfl) 0 rfl rfl ?_
    refine vf_get C (kd := 0) fl_R_314 sh_43 rfl (by decide) rfl rfl (zdg dz_R_last_1 15 rfl) ?_
    refine vf_icmp_ge C (off := 42) (tgt := 112) (zdg dz_R_last_1 16 rfl) (by decide) ?_ ?_
    · refine vf_aload_n C (f := 0) (zdg dz_R_last_2 12 rfl) 0 rfl rfl ?_
      refine vf_iconst C (z := 0) (zdg dz_R_last_2 13 rfl) (jz rfl) ?_
      refine vf_put C (kd := 0) fl_R_141 fk_11_15 sh_43 rfl (by decide) rfl rfl (by decide) (zdg dz_R_last_2 14 rfl) ?_
      generalize st w 43 15 0 = u11
      refine vf_uw ?_
      refine vf_aload_n C (f := 0) (zdg dz_R_last_2 15 rfl) 0 rfl rfl ?_
      refine vf_iload_n C (f := 2) (zdg dz_R_last_2 16 rfl) 2 rfl rfl ?_
      refine vf_callVv C cy_R_tell ml_R_304 rfl (ct_R_tell _ _) (S := []) sh_43 (by decide) rfl (jrm_of hR rfl) rfl rfl (Nat.le_of_ble_eq_true rfl) (zdg dz_R_last_2 17 rfl) (fun r12 u13 => ?_)
      refine vf_iload_n C (f := 1) (zdg dz_R_last_2 18 rfl) 1 rfl rfl ?_
      exact hr _ _ _ _ (fun h => absurd h (by decide)) (zdg dz_R_last_2 19 rfl)
    · refine vf_aload_n C (f := 0) (zdg dz_R_last_1 17 rfl) 0 rfl rfl ?_
      refine vf_getp C fl_R_98 sh_43 rfl (by decide) rfl (x := 70) rfl (zdg dz_R_last_1 18 rfl) ?_
      refine vf_iload_n C (f := 3) (zdg dz_R_last_1 19 rfl) 3 rfl rfl ?_
      refine vf_iald C sh_69 (by decide) rfl (mz := 3000) rfl (zdg dz_R_last_1 20 rfl) ?_
      refine vf_ldcw C (z := 1000000) (i := 348) (zdg dz_R_last_1 21 rfl) kc_R_348 (by decide +kernel) (jz rfl) ?_
      refine vf_icmp_ge C (off := 24) (tgt := 106) (zdg dz_R_last_1 22 rfl) (by decide) ?_ ?_
      · exact t_R_last_106 C hn hR hr ih _ _ _ _
      · refine vf_aload_n C (f := 0) (zdg dz_R_last_1 23 rfl) 0 rfl rfl ?_
        refine vf_iload_n C (f := 3) (zdg dz_R_last_2 0 rfl) 3 rfl rfl ?_
        refine vf_callVi C cy_R_guestsIn ml_R_345 rfl (ct_R_guestsIn _ _) (S := []) sh_43 (by decide) rfl (jrm_of hR rfl) rfl rfl (Nat.le_of_ble_eq_true rfl) (zdg dz_R_last_2 1 rfl) (fun r15 u16 => ?_)
        refine vf_if_eq C (off := 16) (tgt := 106) (zdg dz_R_last_2 2 rfl) (by decide) ?_ ?_
        · exact t_R_last_106 C hn hR hr ih _ _ _ _
        · refine vf_iload_n C (f := 2) (zdg dz_R_last_2 3 rfl) 2 rfl rfl ?_
          refine vf_aload_n C (f := 0) (zdg dz_R_last_2 4 rfl) 0 rfl rfl ?_
          refine vf_iload_n C (f := 3) (zdg dz_R_last_2 5 rfl) 3 rfl rfl ?_
          refine vf_callVi C cy_R_guestsIn ml_R_345 rfl (ct_R_guestsIn _ _) (S := [(0, v2)]) sh_43 (by decide) rfl (jrm_of hR rfl) rfl rfl (Nat.le_of_ble_eq_true rfl) (zdg dz_R_last_2 6 rfl) (fun r17 u18 => ?_)
          refine vf_callSi C cy_JI_bitCount ml_R_242 (ct_JI_bitCount _ _) (S := [(0, v2)]) (jrm_of hR rfl) rfl rfl (Nat.le_of_ble_eq_true rfl) (zdg dz_R_last_2 7 rfl) (fun r19 u20 => ?_)
          refine vf_mmin C ml_R_262 (jrm_n hR (by decide)) ⟨Nat.zero_le _, Nat.zero_le _⟩ (Nat.le_of_ble_eq_true rfl) (zdg dz_R_last_2 8 rfl) ?_
          generalize imin v2 r19 = x21
          refine vf_ul ?_
          refine vf_istore_n C (f := 2) (L' := [(0, (2, 44)), (1, (0, v1)), (3, (0, v3))]) (zdg dz_R_last_2 9 rfl) [0, 1, 3] (jrI rfl rfl) hn (by decide) rfl ?_
          exact vf_perm [1, 2, 0, 3] rfl (t_R_last_106 C hn hR hr ih _ _ _ _)
def f_R_last_44 : Nat → Int → Int → Wd → Option (Int × Wd)
  | 0, _, _, _ => none
  | n + 1, v1, v2, w =>
    if v1 ≤ v2 then
      f_R_last_65 FU v1 1000000 0 w
    else
      jcall (f_R_goOneWeek w) fun r22 u23 =>
      jlet (w32 (v2 + 1)) fun x24 =>
      f_R_last_44 n v1 x24 u23
theorem t_R_last_44 {X : jX} {Qf : Int × Wd → State → Prop} {ad : Nat → Nat} (C : Cx X prog_14_method_78_code "EachBringsAnotherModel") (hn : xn X = 4) (hR : xR X = rmD 20) (hr : Rt X Qf ad prog_14_method_78_code 0) : ∀ (n : Nat) (v1 v2 : Int) (w : Wd), VF X Qf ad NF 0 0 w 44 [(0, (2, 44)), (1, (0, v1)), (2, (0, v2))] [] (f_R_last_44 n v1 v2 w) := by
  intro n
  induction n with
  | zero => intros; exact vf_no
  | succ n ih =>
    intro v1 v2 w
    rw [f_R_last_44]
    refine vf_iload_n C (f := 2) (zdg dz_R_last_1 2 rfl) 2 rfl rfl ?_
    refine vf_iload_n C (f := 1) (zdg dz_R_last_1 3 rfl) 1 rfl rfl ?_
    refine vf_icmp_ge C (off := 13) (tgt := 59) (zdg dz_R_last_1 4 rfl) (by decide) ?_ ?_
    · refine vf_ldcw C (z := 1000000) (i := 348) (zdg dz_R_last_1 9 rfl) kc_R_348 (by decide +kernel) (jz rfl) ?_
      refine vf_istore_n C (f := 2) (L' := [(0, (2, 44)), (1, (0, v1))]) (zdg dz_R_last_1 10 rfl) [0, 1] (jrI rfl rfl) hn (by decide) rfl ?_
      refine vf_iconst C (z := 0) (zdg dz_R_last_1 11 rfl) (jz rfl) ?_
      refine vf_istore_n C (f := 3) (L' := [(2, (0, 1000000)), (0, (2, 44)), (1, (0, v1))]) (zdg dz_R_last_1 12 rfl) [0, 1, 2] (jrI rfl rfl) hn (by decide) rfl ?_
      exact vf_perm [2, 3, 1, 0] rfl (t_R_last_65 C hn hR hr FU _ _ _ _)
    · refine vf_aload_n C (f := 0) (zdg dz_R_last_1 5 rfl) 0 rfl rfl ?_
      refine vf_callVv C cy_R_goOneWeek ml_R_355 rfl (ct_R_goOneWeek _) (S := []) sh_43 (by decide) rfl (jrm_of hR rfl) rfl rfl (Nat.le_of_ble_eq_true rfl) (zdg dz_R_last_1 6 rfl) (fun r22 u23 => ?_)
      refine vf_iinc C (z := 1) (L' := [(0, (2, 44)), (1, (0, v1))]) (zdg dz_R_last_1 7 rfl) 2 rfl [0, 1] (jrI rfl rfl) hn (by decide) ?_
      generalize w32 (v2 + 1) = x24
      refine vf_ul ?_
      refine vf_goto C (off := (-12)) (tgt := 44) (zdg dz_R_last_1 8 rfl) (by decide) ?_
      exact vf_perm [1, 2, 0] rfl (ih _ _ _)
def f_R_last (w : Wd) : Option (Int × Wd) :=
  jlw (st w 43 16 0) fun u1 =>
  jcall (f_R_findStates 0 u1) fun r2 u3 =>
  if r2 = 0 then
    some ((-3), u3)
  else
    jcall (f_R_all u3) fun r4 u5 =>
    jcall (f_R_findLife r4 u5) fun r6 u7 =>
    jgd ((0 : Int) ≤ (0 : Int) ∧ (0 : Int) < 3000) <|
    jlet (u7 71 (0 : Int).toNat) fun x8 =>
    if (0 : Int) ≤ x8 then
      jcall (f_R_beginWeeks u7) fun r9 u10 =>
      f_R_last_44 FU x8 0 u10
    else
      some ((-2), u7)
theorem ct_R_last (w : Wd) : Ct y_R_last prog_14_method_78_code 4 (some .int) 20 0 [(2, 44)] w (f_R_last w) := by
  refine ct_of (by decide +kernel) (Or.inl ⟨rfl, rfl⟩) (Nat.le_of_ble_eq_true rfl) ?_
  intro X Qf ad C hn hR hr
  unfold f_R_last
  show VF X Qf ad NF 0 0 w 0 [(0, (2, 44))] [] _
  refine vf_aload_n C (f := 0) (zdg dz_R_last_0 0 rfl) 0 rfl rfl ?_
  refine vf_iconst C (z := 0) (zdg dz_R_last_0 1 rfl) (jz rfl) ?_
  refine vf_put C (kd := 0) fl_R_138 fk_11_16 sh_43 rfl (by decide) rfl rfl (by decide) (zdg dz_R_last_0 2 rfl) ?_
  generalize st w 43 16 0 = u1
  refine vf_uw ?_
  refine vf_aload_n C (f := 0) (zdg dz_R_last_0 3 rfl) 0 rfl rfl ?_
  refine vf_iconst C (z := 0) (zdg dz_R_last_0 4 rfl) (jz rfl) ?_
  refine vf_callVz C cy_R_findStates ml_R_342 rfl (ct_R_findStates _ _) (S := []) sh_43 (by decide) rfl (jrm_of hR rfl) rfl rfl (Nat.le_of_ble_eq_true rfl) (zdg dz_R_last_0 5 rfl) (fun r2 u3 => ?_)
  refine vf_if_ne C (off := 6) (tgt := 16) (zdg dz_R_last_0 6 rfl) (by decide) ?_ ?_
  · refine vf_aload_n C (f := 0) (zdg dz_R_last_0 9 rfl) 0 rfl rfl ?_
    refine vf_aload_n C (f := 0) (zdg dz_R_last_0 10 rfl) 0 rfl rfl ?_
    refine vf_callVi C cy_R_all ml_R_370 rfl (ct_R_all _) (S := [(2, 44)]) sh_43 (by decide) rfl (jrm_of hR rfl) rfl rfl (Nat.le_of_ble_eq_true rfl) (zdg dz_R_last_0 11 rfl) (fun r4 u5 => ?_)
    refine vf_callVv C cy_R_findLife ml_R_373 rfl (ct_R_findLife _ _) (S := []) sh_43 (by decide) rfl (jrm_of hR rfl) rfl rfl (Nat.le_of_ble_eq_true rfl) (zdg dz_R_last_0 12 rfl) (fun r6 u7 => ?_)
    refine vf_aload_n C (f := 0) (zdg dz_R_last_0 13 rfl) 0 rfl rfl ?_
    refine vf_getp C fl_R_104 sh_43 rfl (by decide) rfl (x := 72) rfl (zdg dz_R_last_0 14 rfl) ?_
    refine vf_iconst C (z := 0) (zdg dz_R_last_0 15 rfl) (jz rfl) ?_
    refine vf_iald C sh_71 (by decide) rfl (mz := 3000) rfl (zdg dz_R_last_0 16 rfl) ?_
    generalize u7 71 (0 : Int).toNat = x8
    refine vf_ul ?_
    refine vf_istore_n C (f := 1) (L' := [(0, (2, 44))]) (zdg dz_R_last_0 17 rfl) [0] (jrI rfl rfl) hn (by decide) rfl ?_
    refine vf_iload_n C (f := 1) (zdg dz_R_last_0 18 rfl) 0 rfl rfl ?_
    refine vf_if_ge C (off := 6) (tgt := 38) (zdg dz_R_last_0 19 rfl) (by decide) ?_ ?_
    · refine vf_aload_n C (f := 0) (zdg dz_R_last_0 22 rfl) 1 rfl rfl ?_
      refine vf_callVv C cy_R_beginWeeks ml_R_352 rfl (ct_R_beginWeeks _) (S := []) sh_43 (by decide) rfl (jrm_of hR rfl) rfl rfl (Nat.le_of_ble_eq_true rfl) (zdg dz_R_last_0 23 rfl) (fun r9 u10 => ?_)
      refine vf_iconst C (z := 0) (zdg dz_R_last_1 0 rfl) (jz rfl) ?_
      refine vf_istore_n C (f := 2) (L' := [(1, (0, x8)), (0, (2, 44))]) (zdg dz_R_last_1 1 rfl) [0, 1] (jrI rfl rfl) hn (by decide) rfl ?_
      exact vf_perm [2, 1, 0] rfl (t_R_last_44 C hn hR hr FU _ _ _)
    · refine vf_bipush C (z := (-2)) (zdg dz_R_last_0 20 rfl) (by decide +kernel) (jz rfl) ?_
      exact hr _ _ _ _ (fun h => absurd h (by decide)) (zdg dz_R_last_0 21 rfl)
  · refine vf_bipush C (z := (-3)) (zdg dz_R_last_0 7 rfl) (by decide +kernel) (jz rfl) ?_
    exact hr _ _ _ _ (fun h => absurd h (by decide)) (zdg dz_R_last_0 8 rfl)
def f_R_tellPairs_206 (rec : Int → Int → Int → Wd → Option (Int × Wd)) (k62 : Int → Int → Int → Wd → Option (Int × Wd)) (v2 v3 v5 : Int) (w : Wd) : Option (Int × Wd) :=
  jlet (w32 (v5 + 1)) fun x5 =>
  k62 v2 v3 x5 w
theorem t_R_tellPairs_206 {X : jX} {Qf : Int × Wd → State → Prop} {ad : Nat → Nat} (C : Cx X prog_14_method_79_code "EachBringsAnotherModel") (hn : xn X = 7) {dd : Nat} (hR : xR X = rmD (2 + dd + 1)) (hr : Rt X Qf ad prog_14_method_79_code 4) {rec : Int → Int → Int → Wd → Option (Int × Wd)} (hrec : ∀ (v1 v2 v3 : Int) (w : Wd), Ct y_R_tellPairs prog_14_method_79_code 7 (some .boolean) (2 + dd) 4 [(2, 44), (0, v1), (0, v2), (0, v3)] w (rec v1 v2 v3 w)) {k62 : Int → Int → Int → Wd → Option (Int × Wd)} (hk62 : ∀ (v2 v3 v5 : Int) (w : Wd), VF X Qf ad NF 0 0 w 62 [(0, (2, 44)), (2, (0, v2)), (3, (0, v3)), (5, (0, v5))] [] (k62 v2 v3 v5 w)) (v2 v3 v5 : Int) (w : Wd) : VF X Qf ad NF 0 0 w 206 [(0, (2, 44)), (2, (0, v2)), (3, (0, v3)), (5, (0, v5))] [] (f_R_tellPairs_206 rec k62 v2 v3 v5 w) := by
  unfold f_R_tellPairs_206
  refine vf_iinc C (z := 1) (L' := [(0, (2, 44)), (2, (0, v2)), (3, (0, v3))]) (zdg dz_R_tellPairs_4 18 rfl) 3 rfl [0, 1, 2] (jrI rfl rfl) hn (by decide) ?_
  generalize w32 (v5 + 1) = x5
  refine vf_ul ?_
  refine vf_goto C (off := (-147)) (tgt := 62) (zdg dz_R_tellPairs_4 19 rfl) (by decide) ?_
  exact vf_perm [1, 2, 3, 0] rfl (hk62 _ _ _ _)
def f_R_tellPairs_200 (rec : Int → Int → Int → Wd → Option (Int × Wd)) (k62 : Int → Int → Int → Wd → Option (Int × Wd)) (k90 : Int → Int → Int → Int → Wd → Option (Int × Wd)) (v2 v3 v5 v6 : Int) (w : Wd) : Option (Int × Wd) :=
  jlet (w32 (v6 + 1)) fun x8 =>
  k90 v2 v3 v5 x8 w
theorem t_R_tellPairs_200 {X : jX} {Qf : Int × Wd → State → Prop} {ad : Nat → Nat} (C : Cx X prog_14_method_79_code "EachBringsAnotherModel") (hn : xn X = 7) {dd : Nat} (hR : xR X = rmD (2 + dd + 1)) (hr : Rt X Qf ad prog_14_method_79_code 4) {rec : Int → Int → Int → Wd → Option (Int × Wd)} (hrec : ∀ (v1 v2 v3 : Int) (w : Wd), Ct y_R_tellPairs prog_14_method_79_code 7 (some .boolean) (2 + dd) 4 [(2, 44), (0, v1), (0, v2), (0, v3)] w (rec v1 v2 v3 w)) {k62 : Int → Int → Int → Wd → Option (Int × Wd)} (hk62 : ∀ (v2 v3 v5 : Int) (w : Wd), VF X Qf ad NF 0 0 w 62 [(0, (2, 44)), (2, (0, v2)), (3, (0, v3)), (5, (0, v5))] [] (k62 v2 v3 v5 w)) {k90 : Int → Int → Int → Int → Wd → Option (Int × Wd)} (hk90 : ∀ (v2 v3 v5 v6 : Int) (w : Wd), VF X Qf ad NF 0 0 w 90 [(0, (2, 44)), (2, (0, v2)), (3, (0, v3)), (5, (0, v5)), (6, (0, v6))] [] (k90 v2 v3 v5 v6 w)) (v2 v3 v5 v6 : Int) (w : Wd) : VF X Qf ad NF 0 0 w 200 [(0, (2, 44)), (2, (0, v2)), (3, (0, v3)), (5, (0, v5)), (6, (0, v6))] [] (f_R_tellPairs_200 rec k62 k90 v2 v3 v5 v6 w) := by
  unfold f_R_tellPairs_200
  refine vf_iinc C (z := 1) (L' := [(0, (2, 44)), (2, (0, v2)), (3, (0, v3)), (5, (0, v5))]) (zdg dz_R_tellPairs_4 16 rfl) 4 rfl [0, 1, 2, 3] (jrI rfl rfl) hn (by decide) ?_
  generalize w32 (v6 + 1) = x8
  refine vf_ul ?_
  refine vf_goto C (off := (-113)) (tgt := 90) (zdg dz_R_tellPairs_4 17 rfl) (by decide) ?_
  exact vf_perm [1, 2, 3, 4, 0] rfl (hk90 _ _ _ _ _)
def f_R_tellPairs_90 (rec : Int → Int → Int → Wd → Option (Int × Wd)) (k62 : Int → Int → Int → Wd → Option (Int × Wd)) : Nat → Int → Int → Int → Int → Wd → Option (Int × Wd)
  | 0, _, _, _, _, _ => none
  | n + 1, v2, v3, v5, v6, w =>
    if (w 43 0) ≤ v6 then
      f_R_tellPairs_206 rec k62 v2 v3 v5 w
    else
      jgd ((0 : Int) ≤ v5 ∧ v5 < 10) <|
      jcall (f_R_has (iand (iand (w 45 v5.toNat) (ixor v3 (-1))) (ixor (w 43 44) (-1))) v6 w) fun r6 u7 =>
      if r6 = 0 then
        f_R_tellPairs_200 rec k62 (f_R_tellPairs_90 rec k62 n) v2 v3 v5 v6 u7
      else
        jgd ((0 : Int) ≤ v6 ∧ v6 < 10) <|
        if (u7 68 v6.toNat) = 0 then
          jgd ((0 : Int) ≤ (u7 43 52) ∧ (u7 43 52) < 10) <|
          jlw (st u7 75 (u7 43 52).toNat ((w32 ((w32 (10 * v5)) + v6)))) fun u9 =>
          jlw (st u9 43 52 (w32 ((u9 43 52) + 1))) fun u10 =>
          jcall (rec (w32 (v5 + 1)) (ior v2 (ishl 1 v5)) (ior v3 (ishl 1 v6)) u10) fun r11 u12 =>
          if r11 = 0 then
            jlw (st u12 43 52 (w32 ((u12 43 52) - 1))) fun u13 =>
            f_R_tellPairs_200 rec k62 (f_R_tellPairs_90 rec k62 n) v2 v3 v5 v6 u13
          else
            some (1, u12)
        else
          f_R_tellPairs_200 rec k62 (f_R_tellPairs_90 rec k62 n) v2 v3 v5 v6 u7
theorem t_R_tellPairs_90 {X : jX} {Qf : Int × Wd → State → Prop} {ad : Nat → Nat} (C : Cx X prog_14_method_79_code "EachBringsAnotherModel") (hn : xn X = 7) {dd : Nat} (hR : xR X = rmD (2 + dd + 1)) (hr : Rt X Qf ad prog_14_method_79_code 4) {rec : Int → Int → Int → Wd → Option (Int × Wd)} (hrec : ∀ (v1 v2 v3 : Int) (w : Wd), Ct y_R_tellPairs prog_14_method_79_code 7 (some .boolean) (2 + dd) 4 [(2, 44), (0, v1), (0, v2), (0, v3)] w (rec v1 v2 v3 w)) {k62 : Int → Int → Int → Wd → Option (Int × Wd)} (hk62 : ∀ (v2 v3 v5 : Int) (w : Wd), VF X Qf ad NF 0 0 w 62 [(0, (2, 44)), (2, (0, v2)), (3, (0, v3)), (5, (0, v5))] [] (k62 v2 v3 v5 w)) : ∀ (n : Nat) (v2 v3 v5 v6 : Int) (w : Wd), VF X Qf ad NF 0 0 w 90 [(0, (2, 44)), (2, (0, v2)), (3, (0, v3)), (5, (0, v5)), (6, (0, v6))] [] (f_R_tellPairs_90 rec k62 n v2 v3 v5 v6 w) := by
  intro n
  induction n with
  | zero => intros; exact vf_no
  | succ n ih =>
    intro v2 v3 v5 v6 w
    rw [f_R_tellPairs_90]
    refine vf_iload C (zdg dz_R_tellPairs_1 22 rfl) 4 rfl ?_
    refine vf_aload_n C (f := 0) (zdg dz_R_tellPairs_1 23 rfl) 0 rfl rfl ?_
    refine vf_get C (kd := 0) fl_R_144 sh_43 rfl (by decide) rfl rfl (zdg dz_R_tellPairs_2 0 rfl) ?_
    refine vf_icmp_ge C (off := 110) (tgt := 206) (zdg dz_R_tellPairs_2 1 rfl) (by decide) ?_ ?_
    · exact vf_perm [0, 1, 2, 3] rfl (t_R_tellPairs_206 C hn hR hr hrec hk62 _ _ _ _)
    · refine vf_aload_n C (f := 0) (zdg dz_R_tellPairs_2 2 rfl) 0 rfl rfl ?_
      refine vf_getp C fl_R_13 sh_43 rfl (by decide) rfl (x := 46) rfl (zdg dz_R_tellPairs_2 3 rfl) ?_
      refine vf_iload C (zdg dz_R_tellPairs_2 4 rfl) 3 rfl ?_
      refine vf_iald C sh_45 (by decide) rfl (mz := 10) rfl (zdg dz_R_tellPairs_2 5 rfl) ?_
      refine vf_iload_n C (f := 3) (zdg dz_R_tellPairs_2 6 rfl) 2 rfl rfl ?_
      refine vf_iconst C (z := (-1)) (zdg dz_R_tellPairs_2 7 rfl) (jz rfl) ?_
      refine vf_ixor C (zdg dz_R_tellPairs_2 8 rfl) ?_
      refine vf_iand C (zdg dz_R_tellPairs_2 9 rfl) ?_
      refine vf_aload_n C (f := 0) (zdg dz_R_tellPairs_2 10 rfl) 0 rfl rfl ?_
      refine vf_get C (kd := 0) fl_R_330 sh_43 rfl (by decide) rfl rfl (zdg dz_R_tellPairs_2 11 rfl) ?_
      refine vf_iconst C (z := (-1)) (zdg dz_R_tellPairs_2 12 rfl) (jz rfl) ?_
      refine vf_ixor C (zdg dz_R_tellPairs_2 13 rfl) ?_
      refine vf_iand C (zdg dz_R_tellPairs_2 14 rfl) ?_
      refine vf_iload C (zdg dz_R_tellPairs_2 15 rfl) 4 rfl ?_
      refine vf_callSz C cy_R_has ml_R_210 (ct_R_has _ _ _) (S := []) (jrm_o hR (by omega) (by decide)) rfl rfl (Nat.le_of_ble_eq_true rfl) (zdg dz_R_tellPairs_2 16 rfl) (fun r6 u7 => ?_)
      refine vf_if_eq C (off := 78) (tgt := 200) (zdg dz_R_tellPairs_2 17 rfl) (by decide) ?_ ?_
      · exact t_R_tellPairs_200 C hn hR hr hrec hk62 ih _ _ _ _ _
      · refine vf_aload_n C (f := 0) (zdg dz_R_tellPairs_2 18 rfl) 0 rfl rfl ?_
        refine vf_getp C fl_R_95 sh_43 rfl (by decide) rfl (x := 69) rfl (zdg dz_R_tellPairs_2 19 rfl) ?_
        refine vf_iload C (zdg dz_R_tellPairs_2 20 rfl) 4 rfl ?_
        refine vf_iald C sh_68 (by decide) rfl (mz := 10) rfl (zdg dz_R_tellPairs_2 21 rfl) ?_
        refine vf_if_eq C (off := 6) (tgt := 138) (zdg dz_R_tellPairs_2 22 rfl) (by decide) ?_ ?_
        · refine vf_aload_n C (f := 0) (zdg dz_R_tellPairs_3 0 rfl) 0 rfl rfl ?_
          refine vf_getp C fl_R_116 sh_43 rfl (by decide) rfl (x := 76) rfl (zdg dz_R_tellPairs_3 1 rfl) ?_
          refine vf_aload_n C (f := 0) (zdg dz_R_tellPairs_3 2 rfl) 0 rfl rfl ?_
          refine vf_get C (kd := 0) fl_R_376 sh_43 rfl (by decide) rfl rfl (zdg dz_R_tellPairs_3 3 rfl) ?_
          refine vf_bipush C (z := 10) (zdg dz_R_tellPairs_3 4 rfl) (by decide +kernel) (jz rfl) ?_
          refine vf_iload C (zdg dz_R_tellPairs_3 5 rfl) 3 rfl ?_
          refine vf_imul C (zdg dz_R_tellPairs_3 6 rfl) ?_
          refine vf_iload C (zdg dz_R_tellPairs_3 7 rfl) 4 rfl ?_
          refine vf_iadd C (zdg dz_R_tellPairs_3 8 rfl) ?_
          refine vf_iast C sh_75 (by decide) rfl (mz := 10) rfl (zdg dz_R_tellPairs_3 9 rfl) ?_
          generalize st u7 75 (u7 43 52).toNat ((w32 ((w32 (10 * v5)) + v6))) = u9
          refine vf_uw ?_
          refine vf_aload_n C (f := 0) (zdg dz_R_tellPairs_3 10 rfl) 0 rfl rfl ?_
          refine vf_dup C (zdg dz_R_tellPairs_3 11 rfl) (Nat.succ_ne_self 1) ?_
          refine vf_get C (kd := 0) fl_R_376 sh_43 rfl (by decide) rfl rfl (zdg dz_R_tellPairs_3 12 rfl) ?_
          refine vf_iconst C (z := 1) (zdg dz_R_tellPairs_3 13 rfl) (jz rfl) ?_
          refine vf_iadd C (zdg dz_R_tellPairs_3 14 rfl) ?_
          refine vf_put C (kd := 0) fl_R_376 fk_11_52 sh_43 rfl (by decide) rfl rfl (by decide) (zdg dz_R_tellPairs_3 15 rfl) ?_
          generalize st u9 43 52 (w32 ((u9 43 52) + 1)) = u10
          refine vf_uw ?_
          refine vf_aload_n C (f := 0) (zdg dz_R_tellPairs_3 16 rfl) 0 rfl rfl ?_
          refine vf_iload C (zdg dz_R_tellPairs_3 17 rfl) 3 rfl ?_
          refine vf_iconst C (z := 1) (zdg dz_R_tellPairs_3 18 rfl) (jz rfl) ?_
          refine vf_iadd C (zdg dz_R_tellPairs_3 19 rfl) ?_
          refine vf_iload_n C (f := 2) (zdg dz_R_tellPairs_3 20 rfl) 1 rfl rfl ?_
          refine vf_iconst C (z := 1) (zdg dz_R_tellPairs_3 21 rfl) (jz rfl) ?_
          refine vf_iload C (zdg dz_R_tellPairs_3 22 rfl) 3 rfl ?_
          refine vf_ishl C (zdg dz_R_tellPairs_3 23 rfl) ?_
          refine vf_ior C (zdg dz_R_tellPairs_4 0 rfl) ?_
          refine vf_iload_n C (f := 3) (zdg dz_R_tellPairs_4 1 rfl) 2 rfl rfl ?_
          refine vf_iconst C (z := 1) (zdg dz_R_tellPairs_4 2 rfl) (jz rfl) ?_
          refine vf_iload C (zdg dz_R_tellPairs_4 3 rfl) 4 rfl ?_
          refine vf_ishl C (zdg dz_R_tellPairs_4 4 rfl) ?_
          refine vf_ior C (zdg dz_R_tellPairs_4 5 rfl) ?_
          refine vf_callVz C cy_R_tellPairs ml_R_379 rfl (hrec _ _ _ _) (S := []) sh_43 (by decide) rfl (jrm_o hR (by omega) (by decide)) rfl rfl (Nat.le_of_ble_eq_true rfl) (zdg dz_R_tellPairs_4 6 rfl) (fun r11 u12 => ?_)
          refine vf_if_eq C (off := 5) (tgt := 190) (zdg dz_R_tellPairs_4 7 rfl) (by decide) ?_ ?_
          · refine vf_aload_n C (f := 0) (zdg dz_R_tellPairs_4 10 rfl) 0 rfl rfl ?_
            refine vf_dup C (zdg dz_R_tellPairs_4 11 rfl) (Nat.succ_ne_self 1) ?_
            refine vf_get C (kd := 0) fl_R_376 sh_43 rfl (by decide) rfl rfl (zdg dz_R_tellPairs_4 12 rfl) ?_
            refine vf_iconst C (z := 1) (zdg dz_R_tellPairs_4 13 rfl) (jz rfl) ?_
            refine vf_isub C (zdg dz_R_tellPairs_4 14 rfl) ?_
            refine vf_put C (kd := 0) fl_R_376 fk_11_52 sh_43 rfl (by decide) rfl rfl (by decide) (zdg dz_R_tellPairs_4 15 rfl) ?_
            generalize st u12 43 52 (w32 ((u12 43 52) - 1)) = u13
            refine vf_uw ?_
            exact t_R_tellPairs_200 C hn hR hr hrec hk62 ih _ _ _ _ _
          · refine vf_iconst C (z := 1) (zdg dz_R_tellPairs_4 8 rfl) (jz rfl) ?_
            exact hr _ _ _ _ (fun _ => Or.inr rfl) (zdg dz_R_tellPairs_4 9 rfl)
        · refine vf_goto C (off := 65) (tgt := 200) (zdg dz_R_tellPairs_2 23 rfl) (by decide) ?_
          exact t_R_tellPairs_200 C hn hR hr hrec hk62 ih _ _ _ _ _
def f_R_tellPairs_62 (rec : Int → Int → Int → Wd → Option (Int × Wd)) : Nat → Int → Int → Int → Wd → Option (Int × Wd)
  | 0, _, _, _, _ => none
  | n + 1, v2, v3, v5, w =>
    if (w 43 0) ≤ v5 then
      some (0, w)
    else
      jgd ((0 : Int) ≤ v5 ∧ v5 < 10) <|
      jcall (f_R_isGuest (w 68 v5.toNat) w) fun r3 u4 =>
      if r3 = 0 then
        f_R_tellPairs_206 rec (f_R_tellPairs_62 rec n) v2 v3 v5 u4
      else
        f_R_tellPairs_90 rec (f_R_tellPairs_62 rec n) FU v2 v3 v5 0 u4
theorem t_R_tellPairs_62 {X : jX} {Qf : Int × Wd → State → Prop} {ad : Nat → Nat} (C : Cx X prog_14_method_79_code "EachBringsAnotherModel") (hn : xn X = 7) {dd : Nat} (hR : xR X = rmD (2 + dd + 1)) (hr : Rt X Qf ad prog_14_method_79_code 4) {rec : Int → Int → Int → Wd → Option (Int × Wd)} (hrec : ∀ (v1 v2 v3 : Int) (w : Wd), Ct y_R_tellPairs prog_14_method_79_code 7 (some .boolean) (2 + dd) 4 [(2, 44), (0, v1), (0, v2), (0, v3)] w (rec v1 v2 v3 w)) : ∀ (n : Nat) (v2 v3 v5 : Int) (w : Wd), VF X Qf ad NF 0 0 w 62 [(0, (2, 44)), (2, (0, v2)), (3, (0, v3)), (5, (0, v5))] [] (f_R_tellPairs_62 rec n v2 v3 v5 w) := by
  intro n
  induction n with
  | zero => intros; exact vf_no
  | succ n ih =>
    intro v2 v3 v5 w
    rw [f_R_tellPairs_62]
    refine vf_iload C (zdg dz_R_tellPairs_1 9 rfl) 3 rfl ?_
    refine vf_aload_n C (f := 0) (zdg dz_R_tellPairs_1 10 rfl) 0 rfl rfl ?_
    refine vf_get C (kd := 0) fl_R_144 sh_43 rfl (by decide) rfl rfl (zdg dz_R_tellPairs_1 11 rfl) ?_
    refine vf_icmp_ge C (off := 144) (tgt := 212) (zdg dz_R_tellPairs_1 12 rfl) (by decide) ?_ ?_
    · refine vf_iconst C (z := 0) (zdg dz_R_tellPairs_4 20 rfl) (jz rfl) ?_
      exact hr _ _ _ _ (fun _ => Or.inl rfl) (zdg dz_R_tellPairs_4 21 rfl)
    · refine vf_aload_n C (f := 0) (zdg dz_R_tellPairs_1 13 rfl) 0 rfl rfl ?_
      refine vf_getp C fl_R_95 sh_43 rfl (by decide) rfl (x := 69) rfl (zdg dz_R_tellPairs_1 14 rfl) ?_
      refine vf_iload C (zdg dz_R_tellPairs_1 15 rfl) 3 rfl ?_
      refine vf_iald C sh_68 (by decide) rfl (mz := 10) rfl (zdg dz_R_tellPairs_1 16 rfl) ?_
      refine vf_callSz C cy_R_isGuest ml_R_256 (ct_R_isGuest _ _) (S := []) (jrm_o hR (by omega) (by decide)) rfl rfl (Nat.le_of_ble_eq_true rfl) (zdg dz_R_tellPairs_1 17 rfl) (fun r3 u4 => ?_)
      refine vf_if_ne C (off := 6) (tgt := 87) (zdg dz_R_tellPairs_1 18 rfl) (by decide) ?_ ?_
      · refine vf_iconst C (z := 0) (zdg dz_R_tellPairs_1 20 rfl) (jz rfl) ?_
        refine vf_istore C (i := 6) (L' := [(0, (2, 44)), (2, (0, v2)), (3, (0, v3)), (5, (0, v5))]) (zdg dz_R_tellPairs_1 21 rfl) [0, 1, 2, 3] (jrI rfl rfl) hn (by decide) ?_
        exact vf_perm [1, 2, 3, 4, 0] rfl (t_R_tellPairs_90 C hn hR hr hrec ih FU _ _ _ _ _)
      · refine vf_goto C (off := 122) (tgt := 206) (zdg dz_R_tellPairs_1 19 rfl) (by decide) ?_
        exact t_R_tellPairs_206 C hn hR hr hrec ih _ _ _ _
def f_R_tellPairs_59 (rec : Int → Int → Int → Wd → Option (Int × Wd)) (v1 v2 v3 : Int) (w : Wd) : Option (Int × Wd) :=
  f_R_tellPairs_62 rec FU v2 v3 v1 w
theorem t_R_tellPairs_59 {X : jX} {Qf : Int × Wd → State → Prop} {ad : Nat → Nat} (C : Cx X prog_14_method_79_code "EachBringsAnotherModel") (hn : xn X = 7) {dd : Nat} (hR : xR X = rmD (2 + dd + 1)) (hr : Rt X Qf ad prog_14_method_79_code 4) {rec : Int → Int → Int → Wd → Option (Int × Wd)} (hrec : ∀ (v1 v2 v3 : Int) (w : Wd), Ct y_R_tellPairs prog_14_method_79_code 7 (some .boolean) (2 + dd) 4 [(2, 44), (0, v1), (0, v2), (0, v3)] w (rec v1 v2 v3 w)) (v1 v2 v3 : Int) (w : Wd) : VF X Qf ad NF 0 0 w 59 [(0, (2, 44)), (1, (0, v1)), (2, (0, v2)), (3, (0, v3))] [] (f_R_tellPairs_59 rec v1 v2 v3 w) := by
  unfold f_R_tellPairs_59
  refine vf_iload_n C (f := 1) (zdg dz_R_tellPairs_1 7 rfl) 1 rfl rfl ?_
  refine vf_istore C (i := 5) (L' := [(0, (2, 44)), (2, (0, v2)), (3, (0, v3))]) (zdg dz_R_tellPairs_1 8 rfl) [0, 2, 3] (jrI rfl rfl) hn (by decide) ?_
  exact vf_perm [1, 2, 3, 0] rfl (t_R_tellPairs_62 C hn hR hr hrec FU _ _ _ _)
def f_R_tellPairs_31 (rec : Int → Int → Int → Wd → Option (Int × Wd)) : Nat → Int → Wd → Option (Int × Wd)
  | 0, _, _ => none
  | n + 1, v5, w =>
    if (w 43 52) ≤ v5 then
      some (1, w)
    else
      jgd ((0 : Int) ≤ v5 ∧ v5 < 10) <|
      jcall (f_R_tell (w 75 v5.toNat) w) fun r15 u16 =>
      jlet (w32 (v5 + 1)) fun x17 =>
      f_R_tellPairs_31 rec n x17 u16
theorem t_R_tellPairs_31 {X : jX} {Qf : Int × Wd → State → Prop} {ad : Nat → Nat} (C : Cx X prog_14_method_79_code "EachBringsAnotherModel") (hn : xn X = 7) {dd : Nat} (hR : xR X = rmD (2 + dd + 1)) (hr : Rt X Qf ad prog_14_method_79_code 4) {rec : Int → Int → Int → Wd → Option (Int × Wd)} (hrec : ∀ (v1 v2 v3 : Int) (w : Wd), Ct y_R_tellPairs prog_14_method_79_code 7 (some .boolean) (2 + dd) 4 [(2, 44), (0, v1), (0, v2), (0, v3)] w (rec v1 v2 v3 w)) : ∀ (n : Nat) (v5 : Int) (w : Wd), VF X Qf ad NF 0 0 w 31 [(0, (2, 44)), (5, (0, v5))] [] (f_R_tellPairs_31 rec n v5 w) := by
  intro n
  induction n with
  | zero => intros; exact vf_no
  | succ n ih =>
    intro v5 w
    rw [f_R_tellPairs_31]
    refine vf_iload C (zdg dz_R_tellPairs_0 17 rfl) 1 rfl ?_
    refine vf_aload_n C (f := 0) (zdg dz_R_tellPairs_0 18 rfl) 0 rfl rfl ?_
    refine vf_get C (kd := 0) fl_R_376 sh_43 rfl (by decide) rfl rfl (zdg dz_R_tellPairs_0 19 rfl) ?_
    refine vf_icmp_ge C (off := 20) (tgt := 57) (zdg dz_R_tellPairs_0 20 rfl) (by decide) ?_ ?_
    · refine vf_iconst C (z := 1) (zdg dz_R_tellPairs_1 5 rfl) (jz rfl) ?_
      exact hr _ _ _ _ (fun _ => Or.inr rfl) (zdg dz_R_tellPairs_1 6 rfl)
    · refine vf_aload_n C (f := 0) (zdg dz_R_tellPairs_0 21 rfl) 0 rfl rfl ?_
      refine vf_aload_n C (f := 0) (zdg dz_R_tellPairs_0 22 rfl) 0 rfl rfl ?_
      refine vf_getp C fl_R_116 sh_43 rfl (by decide) rfl (x := 76) rfl (zdg dz_R_tellPairs_0 23 rfl) ?_
      refine vf_iload C (zdg dz_R_tellPairs_1 0 rfl) 1 rfl ?_
      refine vf_iald C sh_75 (by decide) rfl (mz := 10) rfl (zdg dz_R_tellPairs_1 1 rfl) ?_
      refine vf_callVv C cy_R_tell ml_R_304 rfl (ct_R_tell _ _) (S := []) sh_43 (by decide) rfl (jrm_o hR (by omega) (by decide)) rfl rfl (Nat.le_of_ble_eq_true rfl) (zdg dz_R_tellPairs_1 2 rfl) (fun r15 u16 => ?_)
      refine vf_iinc C (z := 1) (L' := [(0, (2, 44))]) (zdg dz_R_tellPairs_1 3 rfl) 1 rfl [0] (jrI rfl rfl) hn (by decide) ?_
      generalize w32 (v5 + 1) = x17
      refine vf_ul ?_
      refine vf_goto C (off := (-23)) (tgt := 31) (zdg dz_R_tellPairs_1 4 rfl) (by decide) ?_
      exact vf_perm [1, 0] rfl (ih _ _)
def f_R_tellPairs_b (rec : Int → Int → Int → Wd → Option (Int × Wd)) (v1 v2 v3 : Int) (w : Wd) : Option (Int × Wd) :=
  jcall (f_R_behind v2 v3 w) fun r1 u2 =>
  if r1 < 0 then
    f_R_tellPairs_59 rec v1 v2 v3 u2
  else
    jgd ((0 : Int) ≤ r1 ∧ r1 < 3000) <|
    if (u2 74 r1.toNat) = 0 then
      f_R_tellPairs_59 rec v1 v2 v3 u2
    else
      jlw (st u2 43 15 0) fun u14 =>
      f_R_tellPairs_31 rec FU 0 u14
theorem ct_R_tellPairs_b {dd : Nat} {rec : Int → Int → Int → Wd → Option (Int × Wd)} (hrec : ∀ (v1 v2 v3 : Int) (w : Wd), Ct y_R_tellPairs prog_14_method_79_code 7 (some .boolean) (2 + dd) 4 [(2, 44), (0, v1), (0, v2), (0, v3)] w (rec v1 v2 v3 w)) (v1 v2 v3 : Int) (w : Wd) : Ct y_R_tellPairs prog_14_method_79_code 7 (some .boolean) (2 + dd + 1) 4 [(2, 44), (0, v1), (0, v2), (0, v3)] w (f_R_tellPairs_b rec v1 v2 v3 w) := by
  refine ct_of (by decide +kernel) (Or.inr (Or.inr (Or.inl ⟨rfl, rfl⟩))) (Nat.le_of_ble_eq_true rfl) ?_
  intro X Qf ad C hn hR hr
  unfold f_R_tellPairs_b
  show VF X Qf ad NF 0 0 w 0 [(0, (2, 44)), (1, (0, v1)), (2, (0, v2)), (3, (0, v3))] [] _
  refine vf_aload_n C (f := 0) (zdg dz_R_tellPairs_0 0 rfl) 0 rfl rfl ?_
  refine vf_iload_n C (f := 2) (zdg dz_R_tellPairs_0 1 rfl) 2 rfl rfl ?_
  refine vf_iload_n C (f := 3) (zdg dz_R_tellPairs_0 2 rfl) 3 rfl rfl ?_
  refine vf_callVi C cy_R_behind ml_R_320 rfl (ct_R_behind _ _ _) (S := []) sh_43 (by decide) rfl (jrm_o hR (by omega) (by decide)) rfl rfl (Nat.le_of_ble_eq_true rfl) (zdg dz_R_tellPairs_0 3 rfl) (fun r1 u2 => ?_)
  refine vf_istore C (i := 4) (L' := [(0, (2, 44)), (1, (0, v1)), (2, (0, v2)), (3, (0, v3))]) (zdg dz_R_tellPairs_0 4 rfl) [0, 1, 2, 3] (jrI rfl rfl) hn (by decide) ?_
  refine vf_iload C (zdg dz_R_tellPairs_0 5 rfl) 0 rfl ?_
  refine vf_if_lt C (off := 49) (tgt := 59) (zdg dz_R_tellPairs_0 6 rfl) (by decide) ?_ ?_
  · exact vf_perm [1, 2, 3, 4] rfl (t_R_tellPairs_59 C hn hR hr hrec _ _ _ _)
  · refine vf_aload_n C (f := 0) (zdg dz_R_tellPairs_0 7 rfl) 1 rfl rfl ?_
    refine vf_getp C fl_R_113 sh_43 rfl (by decide) rfl (x := 75) rfl (zdg dz_R_tellPairs_0 8 rfl) ?_
    refine vf_iload C (zdg dz_R_tellPairs_0 9 rfl) 0 rfl ?_
    refine vf_zald C sh_74 (by decide) rfl (mz := 3000) rfl (zdg dz_R_tellPairs_0 10 rfl) ?_
    refine vf_if_eq C (off := 39) (tgt := 59) (zdg dz_R_tellPairs_0 11 rfl) (by decide) ?_ ?_
    · exact vf_perm [1, 2, 3, 4] rfl (t_R_tellPairs_59 C hn hR hr hrec _ _ _ _)
    · refine vf_aload_n C (f := 0) (zdg dz_R_tellPairs_0 12 rfl) 1 rfl rfl ?_
      refine vf_iconst C (z := 0) (zdg dz_R_tellPairs_0 13 rfl) (jz rfl) ?_
      refine vf_put C (kd := 0) fl_R_141 fk_11_15 sh_43 rfl (by decide) rfl rfl (by decide) (zdg dz_R_tellPairs_0 14 rfl) ?_
      generalize st u2 43 15 0 = u14
      refine vf_uw ?_
      refine vf_iconst C (z := 0) (zdg dz_R_tellPairs_0 15 rfl) (jz rfl) ?_
      refine vf_istore C (i := 5) (L' := [(0, (2, 44))]) (zdg dz_R_tellPairs_0 16 rfl) [1] (jrI rfl rfl) hn (by decide) ?_
      exact vf_perm [1, 0] rfl (t_R_tellPairs_31 C hn hR hr hrec FU _ _)
def f_R_tellPairs : Nat → Int → Int → Int → Wd → Option (Int × Wd)
  | 0, _, _, _, _ => none
  | d + 1, v1, v2, v3, w => f_R_tellPairs_b (f_R_tellPairs d) v1 v2 v3 w
theorem ct_R_tellPairs_all : ∀ dd : Nat, (∀ (v1 v2 v3 : Int) (w : Wd), Ct y_R_tellPairs prog_14_method_79_code 7 (some .boolean) (2 + dd) 4 [(2, 44), (0, v1), (0, v2), (0, v3)] w (f_R_tellPairs dd v1 v2 v3 w)) := by
  intro dd
  induction dd with
  | zero => exact fun _ _ _ _  l D cA ad o ho => by cases ho
  | succ dd ih =>
    exact fun v1 v2 v3 w => ct_R_tellPairs_b ih v1 v2 v3 w
theorem ct_R_tellPairs (v1 v2 v3 : Int) (w : Wd) : Ct y_R_tellPairs prog_14_method_79_code 7 (some .boolean) 18 4 [(2, 44), (0, v1), (0, v2), (0, v3)] w (f_R_tellPairs 16 v1 v2 v3 w) := (ct_R_tellPairs_all 16) v1 v2 v3 w
def f_R_tellFirst (w : Wd) : Option (Int × Wd) :=
  jcall (f_R_load 0 w) fun r1 u2 =>
  jlw (st u2 43 52 0) fun u3 =>
  jcall (f_R_tellPairs 16 0 0 0 u3) fun r4 u5 =>
  some (u5 43 52, u5)
theorem ct_R_tellFirst (w : Wd) : Ct y_R_tellFirst prog_14_method_80_code 1 (some .int) 19 0 [(2, 44)] w (f_R_tellFirst w) := by
  refine ct_of (by decide +kernel) (Or.inl ⟨rfl, rfl⟩) (Nat.le_of_ble_eq_true rfl) ?_
  intro X Qf ad C hn hR hr
  unfold f_R_tellFirst
  show VF X Qf ad NF 0 0 w 0 [(0, (2, 44))] [] _
  refine vf_aload_n C (f := 0) (zdg dz_R_tellFirst_0 0 rfl) 0 rfl rfl ?_
  refine vf_iconst C (z := 0) (zdg dz_R_tellFirst_0 1 rfl) (jz rfl) ?_
  refine vf_callVv C cy_R_load ml_R_336 rfl (ct_R_load _ _) (S := []) sh_43 (by decide) rfl (jrm_of hR rfl) rfl rfl (Nat.le_of_ble_eq_true rfl) (zdg dz_R_tellFirst_0 2 rfl) (fun r1 u2 => ?_)
  refine vf_aload_n C (f := 0) (zdg dz_R_tellFirst_0 3 rfl) 0 rfl rfl ?_
  refine vf_iconst C (z := 0) (zdg dz_R_tellFirst_0 4 rfl) (jz rfl) ?_
  refine vf_put C (kd := 0) fl_R_376 fk_11_52 sh_43 rfl (by decide) rfl rfl (by decide) (zdg dz_R_tellFirst_0 5 rfl) ?_
  generalize st u2 43 52 0 = u3
  refine vf_uw ?_
  refine vf_aload_n C (f := 0) (zdg dz_R_tellFirst_0 6 rfl) 0 rfl rfl ?_
  refine vf_iconst C (z := 0) (zdg dz_R_tellFirst_0 7 rfl) (jz rfl) ?_
  refine vf_iconst C (z := 0) (zdg dz_R_tellFirst_0 8 rfl) (jz rfl) ?_
  refine vf_iconst C (z := 0) (zdg dz_R_tellFirst_0 9 rfl) (jz rfl) ?_
  refine vf_callVz C cy_R_tellPairs ml_R_379 rfl (ct_R_tellPairs _ _ _ _) (S := []) sh_43 (by decide) rfl (jrm_of hR rfl) rfl rfl (Nat.le_of_ble_eq_true rfl) (zdg dz_R_tellFirst_0 10 rfl) (fun r4 u5 => ?_)
  refine vf_pop C (zdg dz_R_tellFirst_0 11 rfl) Nat.zero_ne_one ?_
  refine vf_aload_n C (f := 0) (zdg dz_R_tellFirst_0 12 rfl) 0 rfl rfl ?_
  refine vf_get C (kd := 0) fl_R_376 sh_43 rfl (by decide) rfl rfl (zdg dz_R_tellFirst_0 13 rfl) ?_
  exact hr _ _ _ _ (fun h => absurd h (by decide)) (zdg dz_R_tellFirst_0 14 rfl)
def f_R_findNext_30 : Nat → Int → Wd → Option (Int × Wd)
  | 0, _, _ => none
  | n + 1, v1, w =>
    jgd ((0 : Int) ≤ (1 : Int) ∧ (1 : Int) < 3001) <|
    if (w 64 (1 : Int).toNat) ≤ v1 then
      some (0, w)
    else
      jgd ((0 : Int) ≤ v1 ∧ v1 < 756000) <|
      jgd ((0 : Int) ≤ (w 65 v1.toNat) ∧ (w 65 v1.toNat) < 3000) <|
      jlw (st w 76 (w 65 v1.toNat).toNat (nz 1)) fun u2 =>
      jlet (w32 (v1 + 1)) fun x3 =>
      f_R_findNext_30 n x3 u2
theorem t_R_findNext_30 {X : jX} {Qf : Int × Wd → State → Prop} {ad : Nat → Nat} (C : Cx X prog_14_method_82_code "EachBringsAnotherModel") (hn : xn X = 2) (hR : xR X = rmD 1) (hr : Rt X Qf ad prog_14_method_82_code 9) : ∀ (n : Nat) (v1 : Int) (w : Wd), VF X Qf ad NF 0 0 w 30 [(0, (2, 44)), (1, (0, v1))] [] (f_R_findNext_30 n v1 w) := by
  intro n
  induction n with
  | zero => intros; exact vf_no
  | succ n ih =>
    intro v1 w
    rw [f_R_findNext_30]
    refine vf_iload_n C (f := 1) (zdg dz_R_findNext_0 18 rfl) 1 rfl rfl ?_
    refine vf_aload_n C (f := 0) (zdg dz_R_findNext_0 19 rfl) 0 rfl rfl ?_
    refine vf_getp C fl_R_82 sh_43 rfl (by decide) rfl (x := 65) rfl (zdg dz_R_findNext_0 20 rfl) ?_
    refine vf_iconst C (z := 1) (zdg dz_R_findNext_0 21 rfl) (jz rfl) ?_
    refine vf_iald C sh_64 (by decide) rfl (mz := 3001) rfl (zdg dz_R_findNext_0 22 rfl) ?_
    refine vf_icmp_ge C (off := 21) (tgt := 58) (zdg dz_R_findNext_0 23 rfl) (by decide) ?_ ?_
    · exact hr _ _ _ _ (fun h => absurd h (by decide)) (zdg dz_R_findNext_1 10 rfl)
    · refine vf_aload_n C (f := 0) (zdg dz_R_findNext_1 0 rfl) 0 rfl rfl ?_
      refine vf_getp C fl_R_119 sh_43 rfl (by decide) rfl (x := 77) rfl (zdg dz_R_findNext_1 1 rfl) ?_
      refine vf_aload_n C (f := 0) (zdg dz_R_findNext_1 2 rfl) 0 rfl rfl ?_
      refine vf_getp C fl_R_86 sh_43 rfl (by decide) rfl (x := 66) rfl (zdg dz_R_findNext_1 3 rfl) ?_
      refine vf_iload_n C (f := 1) (zdg dz_R_findNext_1 4 rfl) 1 rfl rfl ?_
      refine vf_iald C sh_65 (by decide) rfl (mz := 756000) rfl (zdg dz_R_findNext_1 5 rfl) ?_
      refine vf_iconst C (z := 1) (zdg dz_R_findNext_1 6 rfl) (jz rfl) ?_
      refine vf_zast C sh_76 (by decide) rfl (mz := 3000) rfl (zdg dz_R_findNext_1 7 rfl) ?_
      generalize st w 76 (w 65 v1.toNat).toNat (nz 1) = u2
      refine vf_uw ?_
      refine vf_iinc C (z := 1) (L' := [(0, (2, 44))]) (zdg dz_R_findNext_1 8 rfl) 1 rfl [0] (jrI rfl rfl) hn (by decide) ?_
      generalize w32 (v1 + 1) = x3
      refine vf_ul ?_
      refine vf_goto C (off := (-25)) (tgt := 30) (zdg dz_R_findNext_1 9 rfl) (by decide) ?_
      exact vf_perm [1, 0] rfl (ih _ _)
def f_R_findNext_2 : Nat → Int → Wd → Option (Int × Wd)
  | 0, _, _ => none
  | n + 1, v1, w =>
    if (w 43 40) ≤ v1 then
      jgd ((0 : Int) ≤ (0 : Int) ∧ (0 : Int) < 3001) <|
      jlet (w 64 (0 : Int).toNat) fun x1 =>
      f_R_findNext_30 FU x1 w
    else
      jgd ((0 : Int) ≤ v1 ∧ v1 < 3000) <|
      jlw (st w 76 v1.toNat (nz 0)) fun u4 =>
      jlet (w32 (v1 + 1)) fun x5 =>
      f_R_findNext_2 n x5 u4
theorem t_R_findNext_2 {X : jX} {Qf : Int × Wd → State → Prop} {ad : Nat → Nat} (C : Cx X prog_14_method_82_code "EachBringsAnotherModel") (hn : xn X = 2) (hR : xR X = rmD 1) (hr : Rt X Qf ad prog_14_method_82_code 9) : ∀ (n : Nat) (v1 : Int) (w : Wd), VF X Qf ad NF 0 0 w 2 [(0, (2, 44)), (1, (0, v1))] [] (f_R_findNext_2 n v1 w) := by
  intro n
  induction n with
  | zero => intros; exact vf_no
  | succ n ih =>
    intro v1 w
    rw [f_R_findNext_2]
    refine vf_iload_n C (f := 1) (zdg dz_R_findNext_0 2 rfl) 1 rfl rfl ?_
    refine vf_aload_n C (f := 0) (zdg dz_R_findNext_0 3 rfl) 0 rfl rfl ?_
    refine vf_get C (kd := 0) fl_R_314 sh_43 rfl (by decide) rfl rfl (zdg dz_R_findNext_0 4 rfl) ?_
    refine vf_icmp_ge C (off := 16) (tgt := 23) (zdg dz_R_findNext_0 5 rfl) (by decide) ?_ ?_
    · refine vf_aload_n C (f := 0) (zdg dz_R_findNext_0 13 rfl) 0 rfl rfl ?_
      refine vf_getp C fl_R_82 sh_43 rfl (by decide) rfl (x := 65) rfl (zdg dz_R_findNext_0 14 rfl) ?_
      refine vf_iconst C (z := 0) (zdg dz_R_findNext_0 15 rfl) (jz rfl) ?_
      refine vf_iald C sh_64 (by decide) rfl (mz := 3001) rfl (zdg dz_R_findNext_0 16 rfl) ?_
      generalize w 64 (0 : Int).toNat = x1
      refine vf_ul ?_
      refine vf_istore_n C (f := 1) (L' := [(0, (2, 44))]) (zdg dz_R_findNext_0 17 rfl) [0] (jrI rfl rfl) hn (by decide) rfl ?_
      exact vf_perm [1, 0] rfl (t_R_findNext_30 C hn hR hr FU _ _)
    · refine vf_aload_n C (f := 0) (zdg dz_R_findNext_0 6 rfl) 0 rfl rfl ?_
      refine vf_getp C fl_R_119 sh_43 rfl (by decide) rfl (x := 77) rfl (zdg dz_R_findNext_0 7 rfl) ?_
      refine vf_iload_n C (f := 1) (zdg dz_R_findNext_0 8 rfl) 1 rfl rfl ?_
      refine vf_iconst C (z := 0) (zdg dz_R_findNext_0 9 rfl) (jz rfl) ?_
      refine vf_zast C sh_76 (by decide) rfl (mz := 3000) rfl (zdg dz_R_findNext_0 10 rfl) ?_
      generalize st w 76 v1.toNat (nz 0) = u4
      refine vf_uw ?_
      refine vf_iinc C (z := 1) (L' := [(0, (2, 44))]) (zdg dz_R_findNext_0 11 rfl) 1 rfl [0] (jrI rfl rfl) hn (by decide) ?_
      generalize w32 (v1 + 1) = x5
      refine vf_ul ?_
      refine vf_goto C (off := (-18)) (tgt := 2) (zdg dz_R_findNext_0 12 rfl) (by decide) ?_
      exact vf_perm [1, 0] rfl (ih _ _)
def f_R_findNext (w : Wd) : Option (Int × Wd) :=
  f_R_findNext_2 FU 0 w
theorem ct_R_findNext (w : Wd) : Ct y_R_findNext prog_14_method_82_code 2 none 1 9 [(2, 44)] w (f_R_findNext w) := by
  refine ct_of (by decide +kernel) (Or.inr (Or.inr (Or.inr ⟨rfl, rfl⟩))) (Nat.le_of_ble_eq_true rfl) ?_
  intro X Qf ad C hn hR hr
  unfold f_R_findNext
  show VF X Qf ad NF 0 0 w 0 [(0, (2, 44))] [] _
  refine vf_iconst C (z := 0) (zdg dz_R_findNext_0 0 rfl) (jz rfl) ?_
  refine vf_istore_n C (f := 1) (L' := [(0, (2, 44))]) (zdg dz_R_findNext_0 1 rfl) [0] (jrI rfl rfl) hn (by decide) rfl ?_
  exact vf_perm [1, 0] rfl (t_R_findNext_2 C hn hR hr FU _ _)
def f_R_isNext (v1 : Int) (w : Wd) : Option (Int × Wd) :=
  jgd ((0 : Int) ≤ v1 ∧ v1 < 3000) <|
  jlet (w 76 v1.toNat) fun x1 =>
  if x1 = 0 ∨ x1 = 1 then some (x1, w) else none
theorem ct_R_isNext (v1 : Int) (w : Wd) : Ct y_R_isNext prog_14_method_83_code 2 (some .boolean) 1 4 [(2, 44), (0, v1)] w (f_R_isNext v1 w) := by
  refine ct_of (by decide +kernel) (Or.inr (Or.inr (Or.inl ⟨rfl, rfl⟩))) (Nat.le_of_ble_eq_true rfl) ?_
  intro X Qf ad C hn hR hr
  unfold f_R_isNext
  show VF X Qf ad NF 0 0 w 0 [(0, (2, 44)), (1, (0, v1))] [] _
  refine vf_aload_n C (f := 0) (zdg dz_R_isNext_0 0 rfl) 0 rfl rfl ?_
  refine vf_getp C fl_R_119 sh_43 rfl (by decide) rfl (x := 77) rfl (zdg dz_R_isNext_0 1 rfl) ?_
  refine vf_iload_n C (f := 1) (zdg dz_R_isNext_0 2 rfl) 1 rfl rfl ?_
  refine vf_zald C sh_76 (by decide) rfl (mz := 3000) rfl (zdg dz_R_isNext_0 3 rfl) ?_
  generalize w 76 v1.toNat = x1
  refine vf_ul ?_
  refine vf_if _ (fun h => ?_) (fun _ => vf_no)
  exact hr _ _ _ _ (fun _ => h) (zdg dz_R_isNext_0 4 rfl)
def f_R_begin2_86 (k43 : Int → Wd → Option (Int × Wd)) (v1 s1 s2 : Int) (w : Wd) : Option (Int × Wd) :=
  jgd ((0 : Int) ≤ s1 ∧ s1 < 3000) <|
  jlw (st w 74 s1.toNat (nz s2)) fun u12 =>
  jlet (w32 (v1 + 1)) fun x13 =>
  k43 x13 u12
theorem t_R_begin2_86 {X : jX} {Qf : Int × Wd → State → Prop} {ad : Nat → Nat} (C : Cx X prog_14_method_81_code "EachBringsAnotherModel") (hn : xn X = 2) (hR : xR X = rmD 20) (hr : Rt X Qf ad prog_14_method_81_code 0) {k43 : Int → Wd → Option (Int × Wd)} (hk43 : ∀ (v1 : Int) (w : Wd), VF X Qf ad NF 0 0 w 43 [(0, (2, 44)), (1, (0, v1))] [] (k43 v1 w)) (v1 s1 s2 : Int) (w : Wd) : VF X Qf ad NF 0 0 w 86 [(0, (2, 44)), (1, (0, v1))] [(0, s2), (0, s1), (2, 75)] (f_R_begin2_86 k43 v1 s1 s2 w) := by
  unfold f_R_begin2_86
  refine vf_zast C sh_74 (by decide) rfl (mz := 3000) rfl (zdg dz_R_begin2_2 2 rfl) ?_
  generalize st w 74 s1.toNat (nz s2) = u12
  refine vf_uw ?_
  refine vf_iinc C (z := 1) (L' := [(0, (2, 44))]) (zdg dz_R_begin2_2 3 rfl) 1 rfl [0] (jrI rfl rfl) hn (by decide) ?_
  generalize w32 (v1 + 1) = x13
  refine vf_ul ?_
  refine vf_goto C (off := (-47)) (tgt := 43) (zdg dz_R_begin2_2 4 rfl) (by decide) ?_
  exact vf_perm [1, 0] rfl (hk43 _ _)
def f_R_begin2_85 (k43 : Int → Wd → Option (Int × Wd)) (v1 s1 : Int) (w : Wd) : Option (Int × Wd) :=
  f_R_begin2_86 k43 v1 s1 0 w
theorem t_R_begin2_85 {X : jX} {Qf : Int × Wd → State → Prop} {ad : Nat → Nat} (C : Cx X prog_14_method_81_code "EachBringsAnotherModel") (hn : xn X = 2) (hR : xR X = rmD 20) (hr : Rt X Qf ad prog_14_method_81_code 0) {k43 : Int → Wd → Option (Int × Wd)} (hk43 : ∀ (v1 : Int) (w : Wd), VF X Qf ad NF 0 0 w 43 [(0, (2, 44)), (1, (0, v1))] [] (k43 v1 w)) (v1 s1 : Int) (w : Wd) : VF X Qf ad NF 0 0 w 85 [(0, (2, 44)), (1, (0, v1))] [(0, s1), (2, 75)] (f_R_begin2_85 k43 v1 s1 w) := by
  unfold f_R_begin2_85
  refine vf_iconst C (z := 0) (zdg dz_R_begin2_2 1 rfl) (jz rfl) ?_
  exact t_R_begin2_86 C hn hR hr hk43 _ _ _ _
def f_R_begin2_43 : Nat → Int → Wd → Option (Int × Wd)
  | 0, _, _ => none
  | n + 1, v1, w =>
    if (w 43 40) ≤ v1 then
      jcall (f_R_tellFirst w) fun r10 u11 =>
      some (r10, u11)
    else
      jgd ((0 : Int) ≤ v1 ∧ v1 < 3000) <|
      jgd ((0 : Int) ≤ (0 : Int) ∧ (0 : Int) < 3000) <|
      if (w 71 v1.toNat) = (w32 ((w 71 (0 : Int).toNat) - 1)) then
        jcall (f_R_isNext v1 w) fun r14 u15 =>
        if r14 = 0 then
          f_R_begin2_85 (f_R_begin2_43 n) v1 v1 u15
        else
          f_R_begin2_86 (f_R_begin2_43 n) v1 v1 1 u15
      else
        f_R_begin2_85 (f_R_begin2_43 n) v1 v1 w
theorem t_R_begin2_43 {X : jX} {Qf : Int × Wd → State → Prop} {ad : Nat → Nat} (C : Cx X prog_14_method_81_code "EachBringsAnotherModel") (hn : xn X = 2) (hR : xR X = rmD 20) (hr : Rt X Qf ad prog_14_method_81_code 0) : ∀ (n : Nat) (v1 : Int) (w : Wd), VF X Qf ad NF 0 0 w 43 [(0, (2, 44)), (1, (0, v1))] [] (f_R_begin2_43 n v1 w) := by
  intro n
  induction n with
  | zero => intros; exact vf_no
  | succ n ih =>
    intro v1 w
    rw [f_R_begin2_43]
    refine vf_iload_n C (f := 1) (zdg dz_R_begin2_1 1 rfl) 1 rfl rfl ?_
    refine vf_aload_n C (f := 0) (zdg dz_R_begin2_1 2 rfl) 0 rfl rfl ?_
    refine vf_get C (kd := 0) fl_R_314 sh_43 rfl (by decide) rfl rfl (zdg dz_R_begin2_1 3 rfl) ?_
    refine vf_icmp_ge C (off := 45) (tgt := 93) (zdg dz_R_begin2_1 4 rfl) (by decide) ?_ ?_
    · refine vf_aload_n C (f := 0) (zdg dz_R_begin2_2 5 rfl) 0 rfl rfl ?_
      refine vf_callVi C cy_R_tellFirst ml_R_388 rfl (ct_R_tellFirst _) (S := []) sh_43 (by decide) rfl (jrm_of hR rfl) rfl rfl (Nat.le_of_ble_eq_true rfl) (zdg dz_R_begin2_2 6 rfl) (fun r10 u11 => ?_)
      exact hr _ _ _ _ (fun h => absurd h (by decide)) (zdg dz_R_begin2_2 7 rfl)
    · refine vf_aload_n C (f := 0) (zdg dz_R_begin2_1 5 rfl) 0 rfl rfl ?_
      refine vf_getp C fl_R_113 sh_43 rfl (by decide) rfl (x := 75) rfl (zdg dz_R_begin2_1 6 rfl) ?_
      refine vf_iload_n C (f := 1) (zdg dz_R_begin2_1 7 rfl) 1 rfl rfl ?_
      refine vf_aload_n C (f := 0) (zdg dz_R_begin2_1 8 rfl) 0 rfl rfl ?_
      refine vf_getp C fl_R_104 sh_43 rfl (by decide) rfl (x := 72) rfl (zdg dz_R_begin2_1 9 rfl) ?_
      refine vf_iload_n C (f := 1) (zdg dz_R_begin2_1 10 rfl) 1 rfl rfl ?_
      refine vf_iald C sh_71 (by decide) rfl (mz := 3000) rfl (zdg dz_R_begin2_1 11 rfl) ?_
      refine vf_aload_n C (f := 0) (zdg dz_R_begin2_1 12 rfl) 0 rfl rfl ?_
      refine vf_getp C fl_R_104 sh_43 rfl (by decide) rfl (x := 72) rfl (zdg dz_R_begin2_1 13 rfl) ?_
      refine vf_iconst C (z := 0) (zdg dz_R_begin2_1 14 rfl) (jz rfl) ?_
      refine vf_iald C sh_71 (by decide) rfl (mz := 3000) rfl (zdg dz_R_begin2_1 15 rfl) ?_
      refine vf_iconst C (z := 1) (zdg dz_R_begin2_1 16 rfl) (jz rfl) ?_
      refine vf_isub C (zdg dz_R_begin2_1 17 rfl) ?_
      refine vf_icmp_ne C (off := 15) (tgt := 85) (zdg dz_R_begin2_1 18 rfl) (by decide) ?_ ?_
      · exact t_R_begin2_85 C hn hR hr ih _ _ _
      · refine vf_aload_n C (f := 0) (zdg dz_R_begin2_1 19 rfl) 0 rfl rfl ?_
        refine vf_iload_n C (f := 1) (zdg dz_R_begin2_1 20 rfl) 1 rfl rfl ?_
        refine vf_callVz C cy_R_isNext ml_R_385 rfl (ct_R_isNext _ _) (S := [(0, v1), (2, 75)]) sh_43 (by decide) rfl (jrm_of hR rfl) rfl rfl (Nat.le_of_ble_eq_true rfl) (zdg dz_R_begin2_1 21 rfl) (fun r14 u15 => ?_)
        refine vf_if_eq C (off := 7) (tgt := 85) (zdg dz_R_begin2_1 22 rfl) (by decide) ?_ ?_
        · exact t_R_begin2_85 C hn hR hr ih _ _ _
        · refine vf_iconst C (z := 1) (zdg dz_R_begin2_1 23 rfl) (jz rfl) ?_
          refine vf_goto C (off := 4) (tgt := 86) (zdg dz_R_begin2_2 0 rfl) (by decide) ?_
          exact t_R_begin2_86 C hn hR hr ih _ _ _ _
def f_R_begin2 (w : Wd) : Option (Int × Wd) :=
  jlw (st w 43 16 0) fun u1 =>
  jcall (f_R_findStates 0 u1) fun r2 u3 =>
  if r2 = 0 then
    some ((-3), u3)
  else
    jcall (f_R_all u3) fun r4 u5 =>
    jcall (f_R_findLife r4 u5) fun r6 u7 =>
    jgd ((0 : Int) ≤ (0 : Int) ∧ (0 : Int) < 3000) <|
    if (1 : Int) ≤ (u7 71 (0 : Int).toNat) then
      jcall (f_R_findNext u7) fun r8 u9 =>
      f_R_begin2_43 FU 0 u9
    else
      some ((-2), u7)
theorem ct_R_begin2 (w : Wd) : Ct y_R_begin2 prog_14_method_81_code 2 (some .int) 20 0 [(2, 44)] w (f_R_begin2 w) := by
  refine ct_of (by decide +kernel) (Or.inl ⟨rfl, rfl⟩) (Nat.le_of_ble_eq_true rfl) ?_
  intro X Qf ad C hn hR hr
  unfold f_R_begin2
  show VF X Qf ad NF 0 0 w 0 [(0, (2, 44))] [] _
  refine vf_aload_n C (f := 0) (zdg dz_R_begin2_0 0 rfl) 0 rfl rfl ?_
  refine vf_iconst C (z := 0) (zdg dz_R_begin2_0 1 rfl) (jz rfl) ?_
  refine vf_put C (kd := 0) fl_R_138 fk_11_16 sh_43 rfl (by decide) rfl rfl (by decide) (zdg dz_R_begin2_0 2 rfl) ?_
  generalize st w 43 16 0 = u1
  refine vf_uw ?_
  refine vf_aload_n C (f := 0) (zdg dz_R_begin2_0 3 rfl) 0 rfl rfl ?_
  refine vf_iconst C (z := 0) (zdg dz_R_begin2_0 4 rfl) (jz rfl) ?_
  refine vf_callVz C cy_R_findStates ml_R_342 rfl (ct_R_findStates _ _) (S := []) sh_43 (by decide) rfl (jrm_of hR rfl) rfl rfl (Nat.le_of_ble_eq_true rfl) (zdg dz_R_begin2_0 5 rfl) (fun r2 u3 => ?_)
  refine vf_if_ne C (off := 6) (tgt := 16) (zdg dz_R_begin2_0 6 rfl) (by decide) ?_ ?_
  · refine vf_aload_n C (f := 0) (zdg dz_R_begin2_0 9 rfl) 0 rfl rfl ?_
    refine vf_aload_n C (f := 0) (zdg dz_R_begin2_0 10 rfl) 0 rfl rfl ?_
    refine vf_callVi C cy_R_all ml_R_370 rfl (ct_R_all _) (S := [(2, 44)]) sh_43 (by decide) rfl (jrm_of hR rfl) rfl rfl (Nat.le_of_ble_eq_true rfl) (zdg dz_R_begin2_0 11 rfl) (fun r4 u5 => ?_)
    refine vf_callVv C cy_R_findLife ml_R_373 rfl (ct_R_findLife _ _) (S := []) sh_43 (by decide) rfl (jrm_of hR rfl) rfl rfl (Nat.le_of_ble_eq_true rfl) (zdg dz_R_begin2_0 12 rfl) (fun r6 u7 => ?_)
    refine vf_aload_n C (f := 0) (zdg dz_R_begin2_0 13 rfl) 0 rfl rfl ?_
    refine vf_getp C fl_R_104 sh_43 rfl (by decide) rfl (x := 72) rfl (zdg dz_R_begin2_0 14 rfl) ?_
    refine vf_iconst C (z := 0) (zdg dz_R_begin2_0 15 rfl) (jz rfl) ?_
    refine vf_iald C sh_71 (by decide) rfl (mz := 3000) rfl (zdg dz_R_begin2_0 16 rfl) ?_
    refine vf_iconst C (z := 1) (zdg dz_R_begin2_0 17 rfl) (jz rfl) ?_
    refine vf_icmp_ge C (off := 6) (tgt := 37) (zdg dz_R_begin2_0 18 rfl) (by decide) ?_ ?_
    · refine vf_aload_n C (f := 0) (zdg dz_R_begin2_0 21 rfl) 0 rfl rfl ?_
      refine vf_callVv C cy_R_findNext ml_R_382 rfl (ct_R_findNext _) (S := []) sh_43 (by decide) rfl (jrm_of hR rfl) rfl rfl (Nat.le_of_ble_eq_true rfl) (zdg dz_R_begin2_0 22 rfl) (fun r8 u9 => ?_)
      refine vf_iconst C (z := 0) (zdg dz_R_begin2_0 23 rfl) (jz rfl) ?_
      refine vf_istore_n C (f := 1) (L' := [(0, (2, 44))]) (zdg dz_R_begin2_1 0 rfl) [0] (jrI rfl rfl) hn (by decide) rfl ?_
      exact vf_perm [1, 0] rfl (t_R_begin2_43 C hn hR hr FU _ _)
    · refine vf_bipush C (z := (-2)) (zdg dz_R_begin2_0 19 rfl) (by decide +kernel) (jz rfl) ?_
      exact hr _ _ _ _ (fun h => absurd h (by decide)) (zdg dz_R_begin2_0 20 rfl)
  · refine vf_bipush C (z := (-3)) (zdg dz_R_begin2_0 7 rfl) (by decide +kernel) (jz rfl) ?_
    exact hr _ _ _ _ (fun h => absurd h (by decide)) (zdg dz_R_begin2_0 8 rfl)
def f_R_cheap_279 (k229 : Int → Int → Int → Wd → Option (Int × Wd)) (v1 v2 v3 s1 s2 : Int) (w : Wd) : Option (Int × Wd) :=
  jgd ((0 : Int) ≤ s1 ∧ s1 < 3000) <|
  jlw (st w 74 s1.toNat (nz s2)) fun u16 =>
  jlet (w32 (v3 + 1)) fun x17 =>
  k229 v1 v2 x17 u16
theorem t_R_cheap_279 {X : jX} {Qf : Int × Wd → State → Prop} {ad : Nat → Nat} (C : Cx X prog_14_method_84_code "EachBringsAnotherModel") (hn : xn X = 7) (hR : xR X = rmD 20) (hr : Rt X Qf ad prog_14_method_84_code 0) {k229 : Int → Int → Int → Wd → Option (Int × Wd)} (hk229 : ∀ (v1 v2 v3 : Int) (w : Wd), VF X Qf ad NF 0 0 w 229 [(0, (2, 44)), (1, (0, v1)), (2, (0, v2)), (3, (0, v3))] [] (k229 v1 v2 v3 w)) (v1 v2 v3 s1 s2 : Int) (w : Wd) : VF X Qf ad NF 0 0 w 279 [(0, (2, 44)), (1, (0, v1)), (2, (0, v2)), (3, (0, v3))] [(0, s2), (0, s1), (2, 75)] (f_R_cheap_279 k229 v1 v2 v3 s1 s2 w) := by
  unfold f_R_cheap_279
  refine vf_zast C sh_74 (by decide) rfl (mz := 3000) rfl (zdg dz_R_cheap_6 13 rfl) ?_
  generalize st w 74 s1.toNat (nz s2) = u16
  refine vf_uw ?_
  refine vf_iinc C (z := 1) (L' := [(0, (2, 44)), (1, (0, v1)), (2, (0, v2))]) (zdg dz_R_cheap_6 14 rfl) 3 rfl [0, 1, 2] (jrI rfl rfl) hn (by decide) ?_
  generalize w32 (v3 + 1) = x17
  refine vf_ul ?_
  refine vf_goto C (off := (-54)) (tgt := 229) (zdg dz_R_cheap_6 15 rfl) (by decide) ?_
  exact vf_perm [1, 2, 3, 0] rfl (hk229 _ _ _ _)
def f_R_cheap_278 (k229 : Int → Int → Int → Wd → Option (Int × Wd)) (v1 v2 v3 s1 : Int) (w : Wd) : Option (Int × Wd) :=
  f_R_cheap_279 k229 v1 v2 v3 s1 0 w
theorem t_R_cheap_278 {X : jX} {Qf : Int × Wd → State → Prop} {ad : Nat → Nat} (C : Cx X prog_14_method_84_code "EachBringsAnotherModel") (hn : xn X = 7) (hR : xR X = rmD 20) (hr : Rt X Qf ad prog_14_method_84_code 0) {k229 : Int → Int → Int → Wd → Option (Int × Wd)} (hk229 : ∀ (v1 v2 v3 : Int) (w : Wd), VF X Qf ad NF 0 0 w 229 [(0, (2, 44)), (1, (0, v1)), (2, (0, v2)), (3, (0, v3))] [] (k229 v1 v2 v3 w)) (v1 v2 v3 s1 : Int) (w : Wd) : VF X Qf ad NF 0 0 w 278 [(0, (2, 44)), (1, (0, v1)), (2, (0, v2)), (3, (0, v3))] [(0, s1), (2, 75)] (f_R_cheap_278 k229 v1 v2 v3 s1 w) := by
  unfold f_R_cheap_278
  refine vf_iconst C (z := 0) (zdg dz_R_cheap_6 12 rfl) (jz rfl) ?_
  exact t_R_cheap_279 C hn hR hr hk229 _ _ _ _ _ _
def f_R_cheap_229 : Nat → Int → Int → Int → Wd → Option (Int × Wd)
  | 0, _, _, _, _ => none
  | n + 1, v1, v2, v3, w =>
    if (w 43 40) ≤ v3 then
      jcall (f_R_tellFirst w) fun r12 u13 =>
      some (v2, u13)
    else
      jcall (f_R_isNext v3 w) fun r14 u15 =>
      if r14 = 0 then
        f_R_cheap_278 (f_R_cheap_229 n) v1 v2 v3 v3 u15
      else
        jgd ((0 : Int) ≤ (w32 ((w32 ((w32 (45 * v3)) + v1)) - 1)) ∧ (w32 ((w32 ((w32 (45 * v3)) + v1)) - 1)) < 135000) <|
        jcall (f_R_costOf 0 v3 u15) fun r18 u19 =>
        if (w32 ((u15 77 (w32 ((w32 ((w32 (45 * v3)) + v1)) - 1)).toNat) + r18)) = v2 then
          f_R_cheap_279 (f_R_cheap_229 n) v1 v2 v3 v3 1 u19
        else
          f_R_cheap_278 (f_R_cheap_229 n) v1 v2 v3 v3 u19
theorem t_R_cheap_229 {X : jX} {Qf : Int × Wd → State → Prop} {ad : Nat → Nat} (C : Cx X prog_14_method_84_code "EachBringsAnotherModel") (hn : xn X = 7) (hR : xR X = rmD 20) (hr : Rt X Qf ad prog_14_method_84_code 0) : ∀ (n : Nat) (v1 v2 v3 : Int) (w : Wd), VF X Qf ad NF 0 0 w 229 [(0, (2, 44)), (1, (0, v1)), (2, (0, v2)), (3, (0, v3))] [] (f_R_cheap_229 n v1 v2 v3 w) := by
  intro n
  induction n with
  | zero => intros; exact vf_no
  | succ n ih =>
    intro v1 v2 v3 w
    rw [f_R_cheap_229]
    refine vf_iload_n C (f := 3) (zdg dz_R_cheap_5 6 rfl) 3 rfl rfl ?_
    refine vf_aload_n C (f := 0) (zdg dz_R_cheap_5 7 rfl) 0 rfl rfl ?_
    refine vf_get C (kd := 0) fl_R_314 sh_43 rfl (by decide) rfl rfl (zdg dz_R_cheap_5 8 rfl) ?_
    refine vf_icmp_ge C (off := 52) (tgt := 286) (zdg dz_R_cheap_5 9 rfl) (by decide) ?_ ?_
    · refine vf_aload_n C (f := 0) (zdg dz_R_cheap_6 16 rfl) 0 rfl rfl ?_
      refine vf_callVi C cy_R_tellFirst ml_R_388 rfl (ct_R_tellFirst _) (S := []) sh_43 (by decide) rfl (jrm_of hR rfl) rfl rfl (Nat.le_of_ble_eq_true rfl) (zdg dz_R_cheap_6 17 rfl) (fun r12 u13 => ?_)
      refine vf_pop C (zdg dz_R_cheap_6 18 rfl) Nat.zero_ne_one ?_
      refine vf_iload_n C (f := 2) (zdg dz_R_cheap_6 19 rfl) 2 rfl rfl ?_
      exact hr _ _ _ _ (fun h => absurd h (by decide)) (zdg dz_R_cheap_6 20 rfl)
    · refine vf_aload_n C (f := 0) (zdg dz_R_cheap_5 10 rfl) 0 rfl rfl ?_
      refine vf_getp C fl_R_113 sh_43 rfl (by decide) rfl (x := 75) rfl (zdg dz_R_cheap_5 11 rfl) ?_
      refine vf_iload_n C (f := 3) (zdg dz_R_cheap_5 12 rfl) 3 rfl rfl ?_
      refine vf_aload_n C (f := 0) (zdg dz_R_cheap_5 13 rfl) 0 rfl rfl ?_
      refine vf_iload_n C (f := 3) (zdg dz_R_cheap_5 14 rfl) 3 rfl rfl ?_
      refine vf_callVz C cy_R_isNext ml_R_385 rfl (ct_R_isNext _ _) (S := [(0, v3), (2, 75)]) sh_43 (by decide) rfl (jrm_of hR rfl) rfl rfl (Nat.le_of_ble_eq_true rfl) (zdg dz_R_cheap_5 15 rfl) (fun r14 u15 => ?_)
      refine vf_if_eq C (off := 31) (tgt := 278) (zdg dz_R_cheap_5 16 rfl) (by decide) ?_ ?_
      · exact t_R_cheap_278 C hn hR hr ih _ _ _ _ _
      · refine vf_aload_n C (f := 0) (zdg dz_R_cheap_5 17 rfl) 0 rfl rfl ?_
        refine vf_getp C fl_R_123 sh_43 rfl (by decide) rfl (x := 78) rfl (zdg dz_R_cheap_5 18 rfl) ?_
        refine vf_bipush C (z := 45) (zdg dz_R_cheap_5 19 rfl) (by decide +kernel) (jz rfl) ?_
        refine vf_iload_n C (f := 3) (zdg dz_R_cheap_5 20 rfl) 3 rfl rfl ?_
        refine vf_imul C (zdg dz_R_cheap_5 21 rfl) ?_
        refine vf_iload_n C (f := 1) (zdg dz_R_cheap_5 22 rfl) 1 rfl rfl ?_
        refine vf_iadd C (zdg dz_R_cheap_5 23 rfl) ?_
        refine vf_iconst C (z := 1) (zdg dz_R_cheap_6 0 rfl) (jz rfl) ?_
        refine vf_isub C (zdg dz_R_cheap_6 1 rfl) ?_
        refine vf_iald C sh_77 (by decide) rfl (mz := 135000) rfl (zdg dz_R_cheap_6 2 rfl) ?_
        refine vf_aload_n C (f := 0) (zdg dz_R_cheap_6 3 rfl) 0 rfl rfl ?_
        refine vf_iconst C (z := 0) (zdg dz_R_cheap_6 4 rfl) (jz rfl) ?_
        refine vf_iload_n C (f := 3) (zdg dz_R_cheap_6 5 rfl) 3 rfl rfl ?_
        refine vf_callVi C cy_R_costOf ml_R_349 rfl (ct_R_costOf _ _ _) (S := [(0, u15 77 (w32 ((w32 ((w32 (45 * v3)) + v1)) - 1)).toNat), (0, v3), (2, 75)]) sh_43 (by decide) rfl (jrm_of hR rfl) rfl rfl (Nat.le_of_ble_eq_true rfl) (zdg dz_R_cheap_6 6 rfl) (fun r18 u19 => ?_)
        refine vf_iadd C (zdg dz_R_cheap_6 7 rfl) ?_
        refine vf_iload_n C (f := 2) (zdg dz_R_cheap_6 8 rfl) 2 rfl rfl ?_
        refine vf_icmp_ne C (off := 7) (tgt := 278) (zdg dz_R_cheap_6 9 rfl) (by decide) ?_ ?_
        · exact t_R_cheap_278 C hn hR hr ih _ _ _ _ _
        · refine vf_iconst C (z := 1) (zdg dz_R_cheap_6 10 rfl) (jz rfl) ?_
          refine vf_goto C (off := 4) (tgt := 279) (zdg dz_R_cheap_6 11 rfl) (by decide) ?_
          exact t_R_cheap_279 C hn hR hr ih _ _ _ _ _ _
def f_R_cheap_163 (k40 : Int → Int → Wd → Option (Int × Wd)) (k58 : Int → Int → Int → Int → Wd → Option (Int × Wd)) (v1 v2 v3 v4 v5 : Int) (w : Wd) : Option (Int × Wd) :=
  jgd ((0 : Int) ≤ (w32 ((w32 (45 * v3)) + v4)) ∧ (w32 ((w32 (45 * v3)) + v4)) < 135000) <|
  jlw (st w 77 (w32 ((w32 (45 * v3)) + v4)).toNat ((imin v5 1000000))) fun u24 =>
  jlet (w32 (v4 + 1)) fun x25 =>
  k58 v1 v2 v3 x25 u24
theorem t_R_cheap_163 {X : jX} {Qf : Int × Wd → State → Prop} {ad : Nat → Nat} (C : Cx X prog_14_method_84_code "EachBringsAnotherModel") (hn : xn X = 7) (hR : xR X = rmD 20) (hr : Rt X Qf ad prog_14_method_84_code 0) {k40 : Int → Int → Wd → Option (Int × Wd)} (hk40 : ∀ (v1 v2 : Int) (w : Wd), VF X Qf ad NF 0 0 w 40 [(0, (2, 44)), (1, (0, v1)), (2, (0, v2))] [] (k40 v1 v2 w)) {k58 : Int → Int → Int → Int → Wd → Option (Int × Wd)} (hk58 : ∀ (v1 v2 v3 v4 : Int) (w : Wd), VF X Qf ad NF 0 0 w 58 [(0, (2, 44)), (1, (0, v1)), (2, (0, v2)), (3, (0, v3)), (4, (0, v4))] [] (k58 v1 v2 v3 v4 w)) (v1 v2 v3 v4 v5 : Int) (w : Wd) : VF X Qf ad NF 0 0 w 163 [(0, (2, 44)), (1, (0, v1)), (2, (0, v2)), (3, (0, v3)), (4, (0, v4)), (5, (0, v5))] [] (f_R_cheap_163 k40 k58 v1 v2 v3 v4 v5 w) := by
  unfold f_R_cheap_163
  refine vf_aload_n C (f := 0) (zdg dz_R_cheap_3 18 rfl) 0 rfl rfl ?_
  refine vf_getp C fl_R_123 sh_43 rfl (by decide) rfl (x := 78) rfl (zdg dz_R_cheap_3 19 rfl) ?_
  refine vf_bipush C (z := 45) (zdg dz_R_cheap_3 20 rfl) (by decide +kernel) (jz rfl) ?_
  refine vf_iload_n C (f := 3) (zdg dz_R_cheap_3 21 rfl) 3 rfl rfl ?_
  refine vf_imul C (zdg dz_R_cheap_3 22 rfl) ?_
  refine vf_iload C (zdg dz_R_cheap_3 23 rfl) 4 rfl ?_
  refine vf_iadd C (zdg dz_R_cheap_4 0 rfl) ?_
  refine vf_iload C (zdg dz_R_cheap_4 1 rfl) 5 rfl ?_
  refine vf_ldcw C (z := 1000000) (i := 348) (zdg dz_R_cheap_4 2 rfl) kc_R_348 (by decide +kernel) (jz rfl) ?_
  refine vf_mmin C ml_R_262 (jrm_n hR (by decide)) ⟨Nat.zero_le _, Nat.zero_le _⟩ (Nat.le_of_ble_eq_true rfl) (zdg dz_R_cheap_4 3 rfl) ?_
  refine vf_iast C sh_77 (by decide) rfl (mz := 135000) rfl (zdg dz_R_cheap_4 4 rfl) ?_
  generalize st w 77 (w32 ((w32 (45 * v3)) + v4)).toNat ((imin v5 1000000)) = u24
  refine vf_uw ?_
  refine vf_iinc C (z := 1) (L' := [(0, (2, 44)), (1, (0, v1)), (2, (0, v2)), (3, (0, v3))]) (zdg dz_R_cheap_4 5 rfl) 4 rfl [0, 1, 2, 3] (jrI rfl rfl) hn (by decide) ?_
  generalize w32 (v4 + 1) = x25
  refine vf_ul ?_
  refine vf_goto C (off := (-128)) (tgt := 58) (zdg dz_R_cheap_4 6 rfl) (by decide) ?_
  exact vf_perm [1, 2, 3, 4, 0] rfl (hk58 _ _ _ _ _)
def f_R_cheap_99 (k40 : Int → Int → Wd → Option (Int × Wd)) (k58 : Int → Int → Int → Int → Wd → Option (Int × Wd)) : Nat → Int → Int → Int → Int → Int → Int → Wd → Option (Int × Wd)
  | 0, _, _, _, _, _, _, _ => none
  | n + 1, v1, v2, v3, v4, v5, v6, w =>
    jgd ((0 : Int) ≤ (w32 (v3 + 1)) ∧ (w32 (v3 + 1)) < 3001) <|
    if (w 64 (w32 (v3 + 1)).toNat) ≤ v6 then
      f_R_cheap_163 k40 k58 v1 v2 v3 v4 v5 w
    else
      if v4 ≤ 0 then
        f_R_cheap_163 k40 k58 v1 v2 v3 v4 v5 w
      else
        jgd ((0 : Int) ≤ v6 ∧ v6 < 756000) <|
        jgd ((0 : Int) ≤ (w32 ((w32 ((w32 (45 * (w 65 v6.toNat))) + v4)) - 1)) ∧ (w32 ((w32 ((w32 (45 * (w 65 v6.toNat))) + v4)) - 1)) < 135000) <|
        jgd ((0 : Int) ≤ v6 ∧ v6 < 756000) <|
        jcall (f_R_costOf v3 (w 65 v6.toNat) w) fun r27 u28 =>
        jlet (imin v5 (w32 ((w 77 (w32 ((w32 ((w32 (45 * (w 65 v6.toNat))) + v4)) - 1)).toNat) + r27))) fun x29 =>
        jlet (w32 (v6 + 1)) fun x30 =>
        f_R_cheap_99 k40 k58 n v1 v2 v3 v4 x29 x30 u28
theorem t_R_cheap_99 {X : jX} {Qf : Int × Wd → State → Prop} {ad : Nat → Nat} (C : Cx X prog_14_method_84_code "EachBringsAnotherModel") (hn : xn X = 7) (hR : xR X = rmD 20) (hr : Rt X Qf ad prog_14_method_84_code 0) {k40 : Int → Int → Wd → Option (Int × Wd)} (hk40 : ∀ (v1 v2 : Int) (w : Wd), VF X Qf ad NF 0 0 w 40 [(0, (2, 44)), (1, (0, v1)), (2, (0, v2))] [] (k40 v1 v2 w)) {k58 : Int → Int → Int → Int → Wd → Option (Int × Wd)} (hk58 : ∀ (v1 v2 v3 v4 : Int) (w : Wd), VF X Qf ad NF 0 0 w 58 [(0, (2, 44)), (1, (0, v1)), (2, (0, v2)), (3, (0, v3)), (4, (0, v4))] [] (k58 v1 v2 v3 v4 w)) : ∀ (n : Nat) (v1 v2 v3 v4 v5 v6 : Int) (w : Wd), VF X Qf ad NF 0 0 w 99 [(0, (2, 44)), (1, (0, v1)), (2, (0, v2)), (3, (0, v3)), (4, (0, v4)), (5, (0, v5)), (6, (0, v6))] [] (f_R_cheap_99 k40 k58 n v1 v2 v3 v4 v5 v6 w) := by
  intro n
  induction n with
  | zero => intros; exact vf_no
  | succ n ih =>
    intro v1 v2 v3 v4 v5 v6 w
    rw [f_R_cheap_99]
    refine vf_iload C (zdg dz_R_cheap_2 6 rfl) 6 rfl ?_
    refine vf_aload_n C (f := 0) (zdg dz_R_cheap_2 7 rfl) 0 rfl rfl ?_
    refine vf_getp C fl_R_82 sh_43 rfl (by decide) rfl (x := 65) rfl (zdg dz_R_cheap_2 8 rfl) ?_
    refine vf_iload_n C (f := 3) (zdg dz_R_cheap_2 9 rfl) 3 rfl rfl ?_
    refine vf_iconst C (z := 1) (zdg dz_R_cheap_2 10 rfl) (jz rfl) ?_
    refine vf_iadd C (zdg dz_R_cheap_2 11 rfl) ?_
    refine vf_iald C sh_64 (by decide) rfl (mz := 3001) rfl (zdg dz_R_cheap_2 12 rfl) ?_
    refine vf_icmp_ge C (off := 54) (tgt := 163) (zdg dz_R_cheap_2 13 rfl) (by decide) ?_ ?_
    · exact vf_perm [0, 1, 2, 3, 4, 5] rfl (t_R_cheap_163 C hn hR hr hk40 hk58 _ _ _ _ _ _)
    · refine vf_iload C (zdg dz_R_cheap_2 14 rfl) 4 rfl ?_
      refine vf_if_le C (off := 49) (tgt := 163) (zdg dz_R_cheap_2 15 rfl) (by decide) ?_ ?_
      · exact vf_perm [0, 1, 2, 3, 4, 5] rfl (t_R_cheap_163 C hn hR hr hk40 hk58 _ _ _ _ _ _)
      · refine vf_iload C (zdg dz_R_cheap_2 16 rfl) 5 rfl ?_
        refine vf_aload_n C (f := 0) (zdg dz_R_cheap_2 17 rfl) 0 rfl rfl ?_
        refine vf_getp C fl_R_123 sh_43 rfl (by decide) rfl (x := 78) rfl (zdg dz_R_cheap_2 18 rfl) ?_
        refine vf_bipush C (z := 45) (zdg dz_R_cheap_2 19 rfl) (by decide +kernel) (jz rfl) ?_
        refine vf_aload_n C (f := 0) (zdg dz_R_cheap_2 20 rfl) 0 rfl rfl ?_
        refine vf_getp C fl_R_86 sh_43 rfl (by decide) rfl (x := 66) rfl (zdg dz_R_cheap_2 21 rfl) ?_
        refine vf_iload C (zdg dz_R_cheap_2 22 rfl) 6 rfl ?_
        refine vf_iald C sh_65 (by decide) rfl (mz := 756000) rfl (zdg dz_R_cheap_2 23 rfl) ?_
        refine vf_imul C (zdg dz_R_cheap_3 0 rfl) ?_
        refine vf_iload C (zdg dz_R_cheap_3 1 rfl) 4 rfl ?_
        refine vf_iadd C (zdg dz_R_cheap_3 2 rfl) ?_
        refine vf_iconst C (z := 1) (zdg dz_R_cheap_3 3 rfl) (jz rfl) ?_
        refine vf_isub C (zdg dz_R_cheap_3 4 rfl) ?_
        refine vf_iald C sh_77 (by decide) rfl (mz := 135000) rfl (zdg dz_R_cheap_3 5 rfl) ?_
        refine vf_aload_n C (f := 0) (zdg dz_R_cheap_3 6 rfl) 0 rfl rfl ?_
        refine vf_iload_n C (f := 3) (zdg dz_R_cheap_3 7 rfl) 3 rfl rfl ?_
        refine vf_aload_n C (f := 0) (zdg dz_R_cheap_3 8 rfl) 0 rfl rfl ?_
        refine vf_getp C fl_R_86 sh_43 rfl (by decide) rfl (x := 66) rfl (zdg dz_R_cheap_3 9 rfl) ?_
        refine vf_iload C (zdg dz_R_cheap_3 10 rfl) 6 rfl ?_
        refine vf_iald C sh_65 (by decide) rfl (mz := 756000) rfl (zdg dz_R_cheap_3 11 rfl) ?_
        refine vf_callVi C cy_R_costOf ml_R_349 rfl (ct_R_costOf _ _ _) (S := [(0, w 77 (w32 ((w32 ((w32 (45 * (w 65 v6.toNat))) + v4)) - 1)).toNat), (0, v5)]) sh_43 (by decide) rfl (jrm_of hR rfl) rfl rfl (Nat.le_of_ble_eq_true rfl) (zdg dz_R_cheap_3 12 rfl) (fun r27 u28 => ?_)
        refine vf_iadd C (zdg dz_R_cheap_3 13 rfl) ?_
        refine vf_mmin C ml_R_262 (jrm_n hR (by decide)) ⟨Nat.zero_le _, Nat.zero_le _⟩ (Nat.le_of_ble_eq_true rfl) (zdg dz_R_cheap_3 14 rfl) ?_
        generalize imin v5 (w32 ((w 77 (w32 ((w32 ((w32 (45 * (w 65 v6.toNat))) + v4)) - 1)).toNat) + r27)) = x29
        refine vf_ul ?_
        refine vf_istore C (i := 5) (L' := [(0, (2, 44)), (1, (0, v1)), (2, (0, v2)), (3, (0, v3)), (4, (0, v4)), (6, (0, v6))]) (zdg dz_R_cheap_3 15 rfl) [0, 1, 2, 3, 4, 6] (jrI rfl rfl) hn (by decide) ?_
        refine vf_iinc C (z := 1) (L' := [(5, (0, x29)), (0, (2, 44)), (1, (0, v1)), (2, (0, v2)), (3, (0, v3)), (4, (0, v4))]) (zdg dz_R_cheap_3 16 rfl) 6 rfl [0, 1, 2, 3, 4, 5] (jrI rfl rfl) hn (by decide) ?_
        generalize w32 (v6 + 1) = x30
        refine vf_ul ?_
        refine vf_goto C (off := (-61)) (tgt := 99) (zdg dz_R_cheap_3 17 rfl) (by decide) ?_
        exact vf_perm [2, 3, 4, 5, 6, 1, 0] rfl (ih _ _ _ _ _ _ _)
def f_R_cheap_89 (k40 : Int → Int → Wd → Option (Int × Wd)) (k58 : Int → Int → Int → Int → Wd → Option (Int × Wd)) (v1 v2 v3 v4 s0 : Int) (w : Wd) : Option (Int × Wd) :=
  jgd ((0 : Int) ≤ v3 ∧ v3 < 3001) <|
  jlet (w 64 v3.toNat) fun x26 =>
  f_R_cheap_99 k40 k58 FU v1 v2 v3 v4 s0 x26 w
theorem t_R_cheap_89 {X : jX} {Qf : Int × Wd → State → Prop} {ad : Nat → Nat} (C : Cx X prog_14_method_84_code "EachBringsAnotherModel") (hn : xn X = 7) (hR : xR X = rmD 20) (hr : Rt X Qf ad prog_14_method_84_code 0) {k40 : Int → Int → Wd → Option (Int × Wd)} (hk40 : ∀ (v1 v2 : Int) (w : Wd), VF X Qf ad NF 0 0 w 40 [(0, (2, 44)), (1, (0, v1)), (2, (0, v2))] [] (k40 v1 v2 w)) {k58 : Int → Int → Int → Int → Wd → Option (Int × Wd)} (hk58 : ∀ (v1 v2 v3 v4 : Int) (w : Wd), VF X Qf ad NF 0 0 w 58 [(0, (2, 44)), (1, (0, v1)), (2, (0, v2)), (3, (0, v3)), (4, (0, v4))] [] (k58 v1 v2 v3 v4 w)) (v1 v2 v3 v4 s0 : Int) (w : Wd) : VF X Qf ad NF 0 0 w 89 [(0, (2, 44)), (1, (0, v1)), (2, (0, v2)), (3, (0, v3)), (4, (0, v4))] [(0, s0)] (f_R_cheap_89 k40 k58 v1 v2 v3 v4 s0 w) := by
  unfold f_R_cheap_89
  refine vf_istore C (i := 5) (L' := [(0, (2, 44)), (1, (0, v1)), (2, (0, v2)), (3, (0, v3)), (4, (0, v4))]) (zdg dz_R_cheap_2 0 rfl) [0, 1, 2, 3, 4] (jrI rfl rfl) hn (by decide) ?_
  refine vf_aload_n C (f := 0) (zdg dz_R_cheap_2 1 rfl) 1 rfl rfl ?_
  refine vf_getp C fl_R_82 sh_43 rfl (by decide) rfl (x := 65) rfl (zdg dz_R_cheap_2 2 rfl) ?_
  refine vf_iload_n C (f := 3) (zdg dz_R_cheap_2 3 rfl) 4 rfl rfl ?_
  refine vf_iald C sh_64 (by decide) rfl (mz := 3001) rfl (zdg dz_R_cheap_2 4 rfl) ?_
  generalize w 64 v3.toNat = x26
  refine vf_ul ?_
  refine vf_istore C (i := 6) (L' := [(5, (0, s0)), (0, (2, 44)), (1, (0, v1)), (2, (0, v2)), (3, (0, v3)), (4, (0, v4))]) (zdg dz_R_cheap_2 5 rfl) [0, 1, 2, 3, 4, 5] (jrI rfl rfl) hn (by decide) ?_
  exact vf_perm [2, 3, 4, 5, 6, 1, 0] rfl (t_R_cheap_99 C hn hR hr hk40 hk58 FU _ _ _ _ _ _ _)
def f_R_cheap_58 (k40 : Int → Int → Wd → Option (Int × Wd)) : Nat → Int → Int → Int → Int → Wd → Option (Int × Wd)
  | 0, _, _, _, _, _ => none
  | n + 1, v1, v2, v3, v4, w =>
    if v1 < v4 then
      jlet (w32 (v2 + 1)) fun x21 =>
      k40 v1 x21 w
    else
      jcall (f_R_guestsIn v3 w) fun r22 u23 =>
      if r22 = 0 then
        f_R_cheap_163 k40 (f_R_cheap_58 k40 n) v1 v2 v3 v4 1000000 u23
      else
        if v4 = 0 then
          f_R_cheap_89 k40 (f_R_cheap_58 k40 n) v1 v2 v3 v4 0 u23
        else
          f_R_cheap_89 k40 (f_R_cheap_58 k40 n) v1 v2 v3 v4 1000000 u23
theorem t_R_cheap_58 {X : jX} {Qf : Int × Wd → State → Prop} {ad : Nat → Nat} (C : Cx X prog_14_method_84_code "EachBringsAnotherModel") (hn : xn X = 7) (hR : xR X = rmD 20) (hr : Rt X Qf ad prog_14_method_84_code 0) {k40 : Int → Int → Wd → Option (Int × Wd)} (hk40 : ∀ (v1 v2 : Int) (w : Wd), VF X Qf ad NF 0 0 w 40 [(0, (2, 44)), (1, (0, v1)), (2, (0, v2))] [] (k40 v1 v2 w)) : ∀ (n : Nat) (v1 v2 v3 v4 : Int) (w : Wd), VF X Qf ad NF 0 0 w 58 [(0, (2, 44)), (1, (0, v1)), (2, (0, v2)), (3, (0, v3)), (4, (0, v4))] [] (f_R_cheap_58 k40 n v1 v2 v3 v4 w) := by
  intro n
  induction n with
  | zero => intros; exact vf_no
  | succ n ih =>
    intro v1 v2 v3 v4 w
    rw [f_R_cheap_58]
    refine vf_iload C (zdg dz_R_cheap_1 10 rfl) 4 rfl ?_
    refine vf_iload_n C (f := 1) (zdg dz_R_cheap_1 11 rfl) 1 rfl rfl ?_
    refine vf_icmp_gt C (off := 128) (tgt := 189) (zdg dz_R_cheap_1 12 rfl) (by decide) ?_ ?_
    · refine vf_iinc C (z := 1) (L' := [(0, (2, 44)), (1, (0, v1))]) (zdg dz_R_cheap_4 7 rfl) 2 rfl [0, 1] (jrI rfl rfl) hn (by decide) ?_
      generalize w32 (v2 + 1) = x21
      refine vf_ul ?_
      refine vf_goto C (off := (-152)) (tgt := 40) (zdg dz_R_cheap_4 8 rfl) (by decide) ?_
      exact vf_perm [1, 2, 0] rfl (hk40 _ _ _)
    · refine vf_ldcw C (z := 1000000) (i := 348) (zdg dz_R_cheap_1 13 rfl) kc_R_348 (by decide +kernel) (jz rfl) ?_
      refine vf_istore C (i := 5) (L' := [(0, (2, 44)), (1, (0, v1)), (2, (0, v2)), (3, (0, v3)), (4, (0, v4))]) (zdg dz_R_cheap_1 14 rfl) [0, 1, 2, 3, 4] (jrI rfl rfl) hn (by decide) ?_
      refine vf_aload_n C (f := 0) (zdg dz_R_cheap_1 15 rfl) 1 rfl rfl ?_
      refine vf_iload_n C (f := 3) (zdg dz_R_cheap_1 16 rfl) 4 rfl rfl ?_
      refine vf_callVi C cy_R_guestsIn ml_R_345 rfl (ct_R_guestsIn _ _) (S := []) sh_43 (by decide) rfl (jrm_of hR rfl) rfl rfl (Nat.le_of_ble_eq_true rfl) (zdg dz_R_cheap_1 17 rfl) (fun r22 u23 => ?_)
      refine vf_if_eq C (off := 89) (tgt := 163) (zdg dz_R_cheap_1 18 rfl) (by decide) ?_ ?_
      · exact vf_perm [1, 2, 3, 4, 5, 0] rfl (t_R_cheap_163 C hn hR hr hk40 ih _ _ _ _ _ _)
      · refine vf_iload C (zdg dz_R_cheap_1 19 rfl) 5 rfl ?_
        refine vf_if_ne C (off := 7) (tgt := 86) (zdg dz_R_cheap_1 20 rfl) (by decide) ?_ ?_
        · refine vf_ldcw C (z := 1000000) (i := 348) (zdg dz_R_cheap_1 23 rfl) kc_R_348 (by decide +kernel) (jz rfl) ?_
          exact vf_perm [1, 2, 3, 4, 5] rfl (t_R_cheap_89 C hn hR hr hk40 ih _ _ _ _ _ _)
        · refine vf_iconst C (z := 0) (zdg dz_R_cheap_1 21 rfl) (jz rfl) ?_
          refine vf_goto C (off := 6) (tgt := 89) (zdg dz_R_cheap_1 22 rfl) (by decide) ?_
          exact vf_perm [1, 2, 3, 4, 5] rfl (t_R_cheap_89 C hn hR hr hk40 ih _ _ _ _ _ _)
def f_R_cheap_40 : Nat → Int → Int → Wd → Option (Int × Wd)
  | 0, _, _, _ => none
  | n + 1, v1, v2, w =>
    if (w 43 40) ≤ v2 then
      jgd ((0 : Int) ≤ v1 ∧ v1 < 135000) <|
      jlet (w 77 v1.toNat) fun x8 =>
      if x8 = 1000000 then
        some ((-2), w)
      else
        jlw (st w 43 15 0) fun u9 =>
        if v1 = 0 then
          some (x8, u9)
        else
          jcall (f_R_findNext u9) fun r10 u11 =>
          f_R_cheap_229 FU v1 x8 0 u11
    else
      jgd ((0 : Int) ≤ v2 ∧ v2 < 3000) <|
      jlet (w 72 v2.toNat) fun x20 =>
      f_R_cheap_58 (f_R_cheap_40 n) FU v1 v2 x20 0 w
theorem t_R_cheap_40 {X : jX} {Qf : Int × Wd → State → Prop} {ad : Nat → Nat} (C : Cx X prog_14_method_84_code "EachBringsAnotherModel") (hn : xn X = 7) (hR : xR X = rmD 20) (hr : Rt X Qf ad prog_14_method_84_code 0) : ∀ (n : Nat) (v1 v2 : Int) (w : Wd), VF X Qf ad NF 0 0 w 40 [(0, (2, 44)), (1, (0, v1)), (2, (0, v2))] [] (f_R_cheap_40 n v1 v2 w) := by
  intro n
  induction n with
  | zero => intros; exact vf_no
  | succ n ih =>
    intro v1 v2 w
    rw [f_R_cheap_40]
    refine vf_iload_n C (f := 2) (zdg dz_R_cheap_0 23 rfl) 2 rfl rfl ?_
    refine vf_aload_n C (f := 0) (zdg dz_R_cheap_1 0 rfl) 0 rfl rfl ?_
    refine vf_get C (kd := 0) fl_R_314 sh_43 rfl (by decide) rfl rfl (zdg dz_R_cheap_1 1 rfl) ?_
    refine vf_icmp_ge C (off := 150) (tgt := 195) (zdg dz_R_cheap_1 2 rfl) (by decide) ?_ ?_
    · refine vf_aload_n C (f := 0) (zdg dz_R_cheap_4 9 rfl) 0 rfl rfl ?_
      refine vf_getp C fl_R_123 sh_43 rfl (by decide) rfl (x := 78) rfl (zdg dz_R_cheap_4 10 rfl) ?_
      refine vf_iload_n C (f := 1) (zdg dz_R_cheap_4 11 rfl) 1 rfl rfl ?_
      refine vf_iald C sh_77 (by decide) rfl (mz := 135000) rfl (zdg dz_R_cheap_4 12 rfl) ?_
      generalize w 77 v1.toNat = x8
      refine vf_ul ?_
      refine vf_istore_n C (f := 2) (L' := [(0, (2, 44)), (1, (0, v1))]) (zdg dz_R_cheap_4 13 rfl) [0, 1] (jrI rfl rfl) hn (by decide) rfl ?_
      refine vf_iload_n C (f := 2) (zdg dz_R_cheap_4 14 rfl) 0 rfl rfl ?_
      refine vf_ldcw C (z := 1000000) (i := 348) (zdg dz_R_cheap_4 15 rfl) kc_R_348 (by decide +kernel) (jz rfl) ?_
      refine vf_icmp_ne C (off := 6) (tgt := 212) (zdg dz_R_cheap_4 16 rfl) (by decide) ?_ ?_
      · refine vf_aload_n C (f := 0) (zdg dz_R_cheap_4 19 rfl) 1 rfl rfl ?_
        refine vf_iconst C (z := 0) (zdg dz_R_cheap_4 20 rfl) (jz rfl) ?_
        refine vf_put C (kd := 0) fl_R_141 fk_11_15 sh_43 rfl (by decide) rfl rfl (by decide) (zdg dz_R_cheap_4 21 rfl) ?_
        generalize st w 43 15 0 = u9
        refine vf_uw ?_
        refine vf_iload_n C (f := 1) (zdg dz_R_cheap_4 22 rfl) 2 rfl rfl ?_
        refine vf_if_ne C (off := 5) (tgt := 223) (zdg dz_R_cheap_4 23 rfl) (by decide) ?_ ?_
        · refine vf_aload_n C (f := 0) (zdg dz_R_cheap_5 2 rfl) 1 rfl rfl ?_
          refine vf_callVv C cy_R_findNext ml_R_382 rfl (ct_R_findNext _) (S := []) sh_43 (by decide) rfl (jrm_of hR rfl) rfl rfl (Nat.le_of_ble_eq_true rfl) (zdg dz_R_cheap_5 3 rfl) (fun r10 u11 => ?_)
          refine vf_iconst C (z := 0) (zdg dz_R_cheap_5 4 rfl) (jz rfl) ?_
          refine vf_istore_n C (f := 3) (L' := [(2, (0, x8)), (0, (2, 44)), (1, (0, v1))]) (zdg dz_R_cheap_5 5 rfl) [0, 1, 2] (jrI rfl rfl) hn (by decide) rfl ?_
          exact vf_perm [2, 3, 1, 0] rfl (t_R_cheap_229 C hn hR hr FU _ _ _ _)
        · refine vf_iload_n C (f := 2) (zdg dz_R_cheap_5 0 rfl) 0 rfl rfl ?_
          exact hr _ _ _ _ (fun h => absurd h (by decide)) (zdg dz_R_cheap_5 1 rfl)
      · refine vf_bipush C (z := (-2)) (zdg dz_R_cheap_4 17 rfl) (by decide +kernel) (jz rfl) ?_
        exact hr _ _ _ _ (fun h => absurd h (by decide)) (zdg dz_R_cheap_4 18 rfl)
    · refine vf_aload_n C (f := 0) (zdg dz_R_cheap_1 3 rfl) 0 rfl rfl ?_
      refine vf_getp C fl_R_107 sh_43 rfl (by decide) rfl (x := 73) rfl (zdg dz_R_cheap_1 4 rfl) ?_
      refine vf_iload_n C (f := 2) (zdg dz_R_cheap_1 5 rfl) 2 rfl rfl ?_
      refine vf_iald C sh_72 (by decide) rfl (mz := 3000) rfl (zdg dz_R_cheap_1 6 rfl) ?_
      generalize w 72 v2.toNat = x20
      refine vf_ul ?_
      refine vf_istore_n C (f := 3) (L' := [(0, (2, 44)), (1, (0, v1)), (2, (0, v2))]) (zdg dz_R_cheap_1 7 rfl) [0, 1, 2] (jrI rfl rfl) hn (by decide) rfl ?_
      refine vf_iconst C (z := 0) (zdg dz_R_cheap_1 8 rfl) (jz rfl) ?_
      refine vf_istore C (i := 4) (L' := [(3, (0, x20)), (0, (2, 44)), (1, (0, v1)), (2, (0, v2))]) (zdg dz_R_cheap_1 9 rfl) [0, 1, 2, 3] (jrI rfl rfl) hn (by decide) ?_
      exact vf_perm [2, 3, 4, 1, 0] rfl (t_R_cheap_58 C hn hR hr ih FU _ _ _ _ _)
def f_R_cheap (v1 : Int) (w : Wd) : Option (Int × Wd) :=
  jlw (st w 43 16 0) fun u1 =>
  jcall (f_R_isWeeks v1 u1) fun r2 u3 =>
  if r2 = 0 then
    some ((-1), u3)
  else
    jcall (f_R_findStates 0 u3) fun r4 u5 =>
    if r4 = 0 then
      some ((-3), u5)
    else
      jcall (f_R_findOrder u5) fun r6 u7 =>
      if v1 < 45 then
        f_R_cheap_40 FU v1 0 u7
      else
        some ((-2), u7)
theorem ct_R_cheap (v1 : Int) (w : Wd) : Ct y_R_cheap prog_14_method_84_code 7 (some .int) 20 0 [(2, 44), (0, v1)] w (f_R_cheap v1 w) := by
  refine ct_of (by decide +kernel) (Or.inl ⟨rfl, rfl⟩) (Nat.le_of_ble_eq_true rfl) ?_
  intro X Qf ad C hn hR hr
  unfold f_R_cheap
  show VF X Qf ad NF 0 0 w 0 [(0, (2, 44)), (1, (0, v1))] [] _
  refine vf_aload_n C (f := 0) (zdg dz_R_cheap_0 0 rfl) 0 rfl rfl ?_
  refine vf_iconst C (z := 0) (zdg dz_R_cheap_0 1 rfl) (jz rfl) ?_
  refine vf_put C (kd := 0) fl_R_138 fk_11_16 sh_43 rfl (by decide) rfl rfl (by decide) (zdg dz_R_cheap_0 2 rfl) ?_
  generalize st w 43 16 0 = u1
  refine vf_uw ?_
  refine vf_iload_n C (f := 1) (zdg dz_R_cheap_0 3 rfl) 1 rfl rfl ?_
  refine vf_callSz C cy_R_isWeeks ml_R_358 (ct_R_isWeeks _ _) (S := []) (jrm_of hR rfl) rfl rfl (Nat.le_of_ble_eq_true rfl) (zdg dz_R_cheap_0 4 rfl) (fun r2 u3 => ?_)
  refine vf_if_ne C (off := 5) (tgt := 14) (zdg dz_R_cheap_0 5 rfl) (by decide) ?_ ?_
  · refine vf_aload_n C (f := 0) (zdg dz_R_cheap_0 8 rfl) 0 rfl rfl ?_
    refine vf_iconst C (z := 0) (zdg dz_R_cheap_0 9 rfl) (jz rfl) ?_
    refine vf_callVz C cy_R_findStates ml_R_342 rfl (ct_R_findStates _ _) (S := []) sh_43 (by decide) rfl (jrm_of hR rfl) rfl rfl (Nat.le_of_ble_eq_true rfl) (zdg dz_R_cheap_0 10 rfl) (fun r4 u5 => ?_)
    refine vf_if_ne C (off := 6) (tgt := 25) (zdg dz_R_cheap_0 11 rfl) (by decide) ?_ ?_
    · refine vf_aload_n C (f := 0) (zdg dz_R_cheap_0 14 rfl) 0 rfl rfl ?_
      refine vf_callVv C cy_R_findOrder ml_R_367 rfl (ct_R_findOrder _) (S := []) sh_43 (by decide) rfl (jrm_of hR rfl) rfl rfl (Nat.le_of_ble_eq_true rfl) (zdg dz_R_cheap_0 15 rfl) (fun r6 u7 => ?_)
      refine vf_iload_n C (f := 1) (zdg dz_R_cheap_0 16 rfl) 1 rfl rfl ?_
      refine vf_bipush C (z := 45) (zdg dz_R_cheap_0 17 rfl) (by decide +kernel) (jz rfl) ?_
      refine vf_icmp_lt C (off := 6) (tgt := 38) (zdg dz_R_cheap_0 18 rfl) (by decide) ?_ ?_
      · refine vf_iconst C (z := 0) (zdg dz_R_cheap_0 21 rfl) (jz rfl) ?_
        refine vf_istore_n C (f := 2) (L' := [(0, (2, 44)), (1, (0, v1))]) (zdg dz_R_cheap_0 22 rfl) [0, 1] (jrI rfl rfl) hn (by decide) rfl ?_
        exact vf_perm [1, 2, 0] rfl (t_R_cheap_40 C hn hR hr FU _ _ _)
      · refine vf_bipush C (z := (-2)) (zdg dz_R_cheap_0 19 rfl) (by decide +kernel) (jz rfl) ?_
        exact hr _ _ _ _ (fun h => absurd h (by decide)) (zdg dz_R_cheap_0 20 rfl)
    · refine vf_bipush C (z := (-3)) (zdg dz_R_cheap_0 12 rfl) (by decide +kernel) (jz rfl) ?_
      exact hr _ _ _ _ (fun h => absurd h (by decide)) (zdg dz_R_cheap_0 13 rfl)
  · refine vf_iconst C (z := (-1)) (zdg dz_R_cheap_0 6 rfl) (jz rfl) ?_
    exact hr _ _ _ _ (fun h => absurd h (by decide)) (zdg dz_R_cheap_0 7 rfl)
def f_R_canWant_154 (rec : Int → Int → Int → Int → Int → Wd → Option (Int × Wd)) (k79 : Int → Int → Int → Int → Int → Int → Wd → Option (Int × Wd)) (v1 v2 v3 v4 v5 v6 : Int) (w : Wd) : Option (Int × Wd) :=
  jlet (w32 (v6 + 1)) fun x7 =>
  k79 v1 v2 v3 v4 v5 x7 w
theorem t_R_canWant_154 {X : jX} {Qf : Int × Wd → State → Prop} {ad : Nat → Nat} (C : Cx X prog_14_method_86_code "EachBringsAnotherModel") (hn : xn X = 7) {dd : Nat} (hR : xR X = rmD (2 + dd + 1)) (hr : Rt X Qf ad prog_14_method_86_code 4) {rec : Int → Int → Int → Int → Int → Wd → Option (Int × Wd)} (hrec : ∀ (v1 v2 v3 v4 v5 : Int) (w : Wd), Ct y_R_canWant prog_14_method_86_code 7 (some .boolean) (2 + dd) 4 [(2, 44), (0, v1), (0, v2), (0, v3), (0, v4), (0, v5)] w (rec v1 v2 v3 v4 v5 w)) {k79 : Int → Int → Int → Int → Int → Int → Wd → Option (Int × Wd)} (hk79 : ∀ (v1 v2 v3 v4 v5 v6 : Int) (w : Wd), VF X Qf ad NF 0 0 w 79 [(0, (2, 44)), (1, (0, v1)), (2, (0, v2)), (3, (0, v3)), (4, (0, v4)), (5, (0, v5)), (6, (0, v6))] [] (k79 v1 v2 v3 v4 v5 v6 w)) (v1 v2 v3 v4 v5 v6 : Int) (w : Wd) : VF X Qf ad NF 0 0 w 154 [(0, (2, 44)), (1, (0, v1)), (2, (0, v2)), (3, (0, v3)), (4, (0, v4)), (5, (0, v5)), (6, (0, v6))] [] (f_R_canWant_154 rec k79 v1 v2 v3 v4 v5 v6 w) := by
  unfold f_R_canWant_154
  refine vf_iinc C (z := 1) (L' := [(0, (2, 44)), (1, (0, v1)), (2, (0, v2)), (3, (0, v3)), (4, (0, v4)), (5, (0, v5))]) (zdg dz_R_canWant_3 19 rfl) 6 rfl [0, 1, 2, 3, 4, 5] (jrI rfl rfl) hn (by decide) ?_
  generalize w32 (v6 + 1) = x7
  refine vf_ul ?_
  refine vf_goto C (off := (-78)) (tgt := 79) (zdg dz_R_canWant_3 20 rfl) (by decide) ?_
  exact vf_perm [1, 2, 3, 4, 5, 6, 0] rfl (hk79 _ _ _ _ _ _ _)
def f_R_canWant_79 (rec : Int → Int → Int → Int → Int → Wd → Option (Int × Wd)) : Nat → Int → Int → Int → Int → Int → Int → Wd → Option (Int × Wd)
  | 0, _, _, _, _, _, _, _ => none
  | n + 1, v1, v2, v3, v4, v5, v6, w =>
    if (w 43 0) ≤ v6 then
      some (0, w)
    else
      jgd ((0 : Int) ≤ v3 ∧ v3 < 10) <|
      jcall (f_R_has (iand (iand (w 45 v3.toNat) (ixor v5 (-1))) (ixor (w 43 44) (-1))) v6 w) fun r5 u6 =>
      if r5 = 0 then
        f_R_canWant_154 rec (f_R_canWant_79 rec n) v1 v2 v3 v4 v5 v6 u6
      else
        jgd ((0 : Int) ≤ v6 ∧ v6 < 10) <|
        if (u6 68 v6.toNat) = 0 then
          jcall (rec v1 v2 (w32 (v3 + 1)) (ior v4 (ishl 1 v3)) (ior v5 (ishl 1 v6)) u6) fun r8 u9 =>
          if r8 = 0 then
            f_R_canWant_154 rec (f_R_canWant_79 rec n) v1 v2 v3 v4 v5 v6 u9
          else
            some (1, u9)
        else
          f_R_canWant_154 rec (f_R_canWant_79 rec n) v1 v2 v3 v4 v5 v6 u6
theorem t_R_canWant_79 {X : jX} {Qf : Int × Wd → State → Prop} {ad : Nat → Nat} (C : Cx X prog_14_method_86_code "EachBringsAnotherModel") (hn : xn X = 7) {dd : Nat} (hR : xR X = rmD (2 + dd + 1)) (hr : Rt X Qf ad prog_14_method_86_code 4) {rec : Int → Int → Int → Int → Int → Wd → Option (Int × Wd)} (hrec : ∀ (v1 v2 v3 v4 v5 : Int) (w : Wd), Ct y_R_canWant prog_14_method_86_code 7 (some .boolean) (2 + dd) 4 [(2, 44), (0, v1), (0, v2), (0, v3), (0, v4), (0, v5)] w (rec v1 v2 v3 v4 v5 w)) : ∀ (n : Nat) (v1 v2 v3 v4 v5 v6 : Int) (w : Wd), VF X Qf ad NF 0 0 w 79 [(0, (2, 44)), (1, (0, v1)), (2, (0, v2)), (3, (0, v3)), (4, (0, v4)), (5, (0, v5)), (6, (0, v6))] [] (f_R_canWant_79 rec n v1 v2 v3 v4 v5 v6 w) := by
  intro n
  induction n with
  | zero => intros; exact vf_no
  | succ n ih =>
    intro v1 v2 v3 v4 v5 v6 w
    rw [f_R_canWant_79]
    refine vf_iload C (zdg dz_R_canWant_1 21 rfl) 6 rfl ?_
    refine vf_aload_n C (f := 0) (zdg dz_R_canWant_1 22 rfl) 0 rfl rfl ?_
    refine vf_get C (kd := 0) fl_R_144 sh_43 rfl (by decide) rfl rfl (zdg dz_R_canWant_1 23 rfl) ?_
    refine vf_icmp_ge C (off := 75) (tgt := 160) (zdg dz_R_canWant_2 0 rfl) (by decide) ?_ ?_
    · refine vf_iconst C (z := 0) (zdg dz_R_canWant_3 21 rfl) (jz rfl) ?_
      exact hr _ _ _ _ (fun _ => Or.inl rfl) (zdg dz_R_canWant_3 22 rfl)
    · refine vf_aload_n C (f := 0) (zdg dz_R_canWant_2 1 rfl) 0 rfl rfl ?_
      refine vf_getp C fl_R_13 sh_43 rfl (by decide) rfl (x := 46) rfl (zdg dz_R_canWant_2 2 rfl) ?_
      refine vf_iload_n C (f := 3) (zdg dz_R_canWant_2 3 rfl) 3 rfl rfl ?_
      refine vf_iald C sh_45 (by decide) rfl (mz := 10) rfl (zdg dz_R_canWant_2 4 rfl) ?_
      refine vf_iload C (zdg dz_R_canWant_2 5 rfl) 5 rfl ?_
      refine vf_iconst C (z := (-1)) (zdg dz_R_canWant_2 6 rfl) (jz rfl) ?_
      refine vf_ixor C (zdg dz_R_canWant_2 7 rfl) ?_
      refine vf_iand C (zdg dz_R_canWant_2 8 rfl) ?_
      refine vf_aload_n C (f := 0) (zdg dz_R_canWant_2 9 rfl) 0 rfl rfl ?_
      refine vf_get C (kd := 0) fl_R_330 sh_43 rfl (by decide) rfl rfl (zdg dz_R_canWant_2 10 rfl) ?_
      refine vf_iconst C (z := (-1)) (zdg dz_R_canWant_2 11 rfl) (jz rfl) ?_
      refine vf_ixor C (zdg dz_R_canWant_2 12 rfl) ?_
      refine vf_iand C (zdg dz_R_canWant_2 13 rfl) ?_
      refine vf_iload C (zdg dz_R_canWant_2 14 rfl) 6 rfl ?_
      refine vf_callSz C cy_R_has ml_R_210 (ct_R_has _ _ _) (S := []) (jrm_o hR (by omega) (by decide)) rfl rfl (Nat.le_of_ble_eq_true rfl) (zdg dz_R_canWant_2 15 rfl) (fun r5 u6 => ?_)
      refine vf_if_eq C (off := 43) (tgt := 154) (zdg dz_R_canWant_2 16 rfl) (by decide) ?_ ?_
      · exact t_R_canWant_154 C hn hR hr hrec ih _ _ _ _ _ _ _
      · refine vf_aload_n C (f := 0) (zdg dz_R_canWant_2 17 rfl) 0 rfl rfl ?_
        refine vf_getp C fl_R_95 sh_43 rfl (by decide) rfl (x := 69) rfl (zdg dz_R_canWant_2 18 rfl) ?_
        refine vf_iload C (zdg dz_R_canWant_2 19 rfl) 6 rfl ?_
        refine vf_iald C sh_68 (by decide) rfl (mz := 10) rfl (zdg dz_R_canWant_2 20 rfl) ?_
        refine vf_if_eq C (off := 6) (tgt := 127) (zdg dz_R_canWant_2 21 rfl) (by decide) ?_ ?_
        · refine vf_aload_n C (f := 0) (zdg dz_R_canWant_2 23 rfl) 0 rfl rfl ?_
          refine vf_iload_n C (f := 1) (zdg dz_R_canWant_3 0 rfl) 1 rfl rfl ?_
          refine vf_iload_n C (f := 2) (zdg dz_R_canWant_3 1 rfl) 2 rfl rfl ?_
          refine vf_iload_n C (f := 3) (zdg dz_R_canWant_3 2 rfl) 3 rfl rfl ?_
          refine vf_iconst C (z := 1) (zdg dz_R_canWant_3 3 rfl) (jz rfl) ?_
          refine vf_iadd C (zdg dz_R_canWant_3 4 rfl) ?_
          refine vf_iload C (zdg dz_R_canWant_3 5 rfl) 4 rfl ?_
          refine vf_iconst C (z := 1) (zdg dz_R_canWant_3 6 rfl) (jz rfl) ?_
          refine vf_iload_n C (f := 3) (zdg dz_R_canWant_3 7 rfl) 3 rfl rfl ?_
          refine vf_ishl C (zdg dz_R_canWant_3 8 rfl) ?_
          refine vf_ior C (zdg dz_R_canWant_3 9 rfl) ?_
          refine vf_iload C (zdg dz_R_canWant_3 10 rfl) 5 rfl ?_
          refine vf_iconst C (z := 1) (zdg dz_R_canWant_3 11 rfl) (jz rfl) ?_
          refine vf_iload C (zdg dz_R_canWant_3 12 rfl) 6 rfl ?_
          refine vf_ishl C (zdg dz_R_canWant_3 13 rfl) ?_
          refine vf_ior C (zdg dz_R_canWant_3 14 rfl) ?_
          refine vf_callVz C cy_R_canWant ml_R_391 rfl (hrec _ _ _ _ _ _) (S := []) sh_43 (by decide) rfl (jrm_o hR (by omega) (by decide)) rfl rfl (Nat.le_of_ble_eq_true rfl) (zdg dz_R_canWant_3 15 rfl) (fun r8 u9 => ?_)
          refine vf_if_eq C (off := 5) (tgt := 154) (zdg dz_R_canWant_3 16 rfl) (by decide) ?_ ?_
          · exact t_R_canWant_154 C hn hR hr hrec ih _ _ _ _ _ _ _
          · refine vf_iconst C (z := 1) (zdg dz_R_canWant_3 17 rfl) (jz rfl) ?_
            exact hr _ _ _ _ (fun _ => Or.inr rfl) (zdg dz_R_canWant_3 18 rfl)
        · refine vf_goto C (off := 30) (tgt := 154) (zdg dz_R_canWant_2 22 rfl) (by decide) ?_
          exact t_R_canWant_154 C hn hR hr hrec ih _ _ _ _ _ _ _
def f_R_canWant_b (rec : Int → Int → Int → Int → Int → Wd → Option (Int × Wd)) (v1 v2 v3 v4 v5 : Int) (w : Wd) : Option (Int × Wd) :=
  if v3 = (w 43 0) then
    jcall (f_R_behind v4 v5 w) fun r10 u11 =>
    if r10 < 0 then
      some (0, u11)
    else
      jgd ((0 : Int) ≤ r10 ∧ r10 < 3000) <|
      if (u11 74 r10.toNat) = 0 then
        some (0, u11)
      else
        some (1, u11)
  else
    jcall (rec v1 v2 (w32 (v3 + 1)) v4 v5 w) fun r1 u2 =>
    if r1 = 0 then
      if v3 = v1 then
        some (0, u2)
      else
        jgd ((0 : Int) ≤ v3 ∧ v3 < 10) <|
        jcall (f_R_isGuest (u2 68 v3.toNat) u2) fun r3 u4 =>
        if r3 = 0 then
          some (0, u4)
        else
          f_R_canWant_79 rec FU v1 v2 v3 v4 v5 0 u4
    else
      some (1, u2)
theorem ct_R_canWant_b {dd : Nat} {rec : Int → Int → Int → Int → Int → Wd → Option (Int × Wd)} (hrec : ∀ (v1 v2 v3 v4 v5 : Int) (w : Wd), Ct y_R_canWant prog_14_method_86_code 7 (some .boolean) (2 + dd) 4 [(2, 44), (0, v1), (0, v2), (0, v3), (0, v4), (0, v5)] w (rec v1 v2 v3 v4 v5 w)) (v1 v2 v3 v4 v5 : Int) (w : Wd) : Ct y_R_canWant prog_14_method_86_code 7 (some .boolean) (2 + dd + 1) 4 [(2, 44), (0, v1), (0, v2), (0, v3), (0, v4), (0, v5)] w (f_R_canWant_b rec v1 v2 v3 v4 v5 w) := by
  refine ct_of (by decide +kernel) (Or.inr (Or.inr (Or.inl ⟨rfl, rfl⟩))) (Nat.le_of_ble_eq_true rfl) ?_
  intro X Qf ad C hn hR hr
  unfold f_R_canWant_b
  show VF X Qf ad NF 0 0 w 0 [(0, (2, 44)), (1, (0, v1)), (2, (0, v2)), (3, (0, v3)), (4, (0, v4)), (5, (0, v5))] [] _
  refine vf_iload_n C (f := 3) (zdg dz_R_canWant_0 0 rfl) 3 rfl rfl ?_
  refine vf_aload_n C (f := 0) (zdg dz_R_canWant_0 1 rfl) 0 rfl rfl ?_
  refine vf_get C (kd := 0) fl_R_144 sh_43 rfl (by decide) rfl rfl (zdg dz_R_canWant_0 2 rfl) ?_
  refine vf_icmp_ne C (off := 34) (tgt := 39) (zdg dz_R_canWant_0 3 rfl) (by decide) ?_ ?_
  · refine vf_aload_n C (f := 0) (zdg dz_R_canWant_0 20 rfl) 0 rfl rfl ?_
    refine vf_iload_n C (f := 1) (zdg dz_R_canWant_0 21 rfl) 1 rfl rfl ?_
    refine vf_iload_n C (f := 2) (zdg dz_R_canWant_0 22 rfl) 2 rfl rfl ?_
    refine vf_iload_n C (f := 3) (zdg dz_R_canWant_0 23 rfl) 3 rfl rfl ?_
    refine vf_iconst C (z := 1) (zdg dz_R_canWant_1 0 rfl) (jz rfl) ?_
    refine vf_iadd C (zdg dz_R_canWant_1 1 rfl) ?_
    refine vf_iload C (zdg dz_R_canWant_1 2 rfl) 4 rfl ?_
    refine vf_iload C (zdg dz_R_canWant_1 3 rfl) 5 rfl ?_
    refine vf_callVz C cy_R_canWant ml_R_391 rfl (hrec _ _ _ _ _ _) (S := []) sh_43 (by decide) rfl (jrm_o hR (by omega) (by decide)) rfl rfl (Nat.le_of_ble_eq_true rfl) (zdg dz_R_canWant_1 4 rfl) (fun r1 u2 => ?_)
    refine vf_if_eq C (off := 5) (tgt := 57) (zdg dz_R_canWant_1 5 rfl) (by decide) ?_ ?_
    · refine vf_iload_n C (f := 3) (zdg dz_R_canWant_1 8 rfl) 3 rfl rfl ?_
      refine vf_iload_n C (f := 1) (zdg dz_R_canWant_1 9 rfl) 1 rfl rfl ?_
      refine vf_icmp_eq C (off := 15) (tgt := 74) (zdg dz_R_canWant_1 10 rfl) (by decide) ?_ ?_
      · refine vf_iconst C (z := 0) (zdg dz_R_canWant_1 17 rfl) (jz rfl) ?_
        exact hr _ _ _ _ (fun _ => Or.inl rfl) (zdg dz_R_canWant_1 18 rfl)
      · refine vf_aload_n C (f := 0) (zdg dz_R_canWant_1 11 rfl) 0 rfl rfl ?_
        refine vf_getp C fl_R_95 sh_43 rfl (by decide) rfl (x := 69) rfl (zdg dz_R_canWant_1 12 rfl) ?_
        refine vf_iload_n C (f := 3) (zdg dz_R_canWant_1 13 rfl) 3 rfl rfl ?_
        refine vf_iald C sh_68 (by decide) rfl (mz := 10) rfl (zdg dz_R_canWant_1 14 rfl) ?_
        refine vf_callSz C cy_R_isGuest ml_R_256 (ct_R_isGuest _ _) (S := []) (jrm_o hR (by omega) (by decide)) rfl rfl (Nat.le_of_ble_eq_true rfl) (zdg dz_R_canWant_1 15 rfl) (fun r3 u4 => ?_)
        refine vf_if_ne C (off := 5) (tgt := 76) (zdg dz_R_canWant_1 16 rfl) (by decide) ?_ ?_
        · refine vf_iconst C (z := 0) (zdg dz_R_canWant_1 19 rfl) (jz rfl) ?_
          refine vf_istore C (i := 6) (L' := [(0, (2, 44)), (1, (0, v1)), (2, (0, v2)), (3, (0, v3)), (4, (0, v4)), (5, (0, v5))]) (zdg dz_R_canWant_1 20 rfl) [0, 1, 2, 3, 4, 5] (jrI rfl rfl) hn (by decide) ?_
          exact vf_perm [1, 2, 3, 4, 5, 6, 0] rfl (t_R_canWant_79 C hn hR hr hrec FU _ _ _ _ _ _ _)
        · refine vf_iconst C (z := 0) (zdg dz_R_canWant_1 17 rfl) (jz rfl) ?_
          exact hr _ _ _ _ (fun _ => Or.inl rfl) (zdg dz_R_canWant_1 18 rfl)
    · refine vf_iconst C (z := 1) (zdg dz_R_canWant_1 6 rfl) (jz rfl) ?_
      exact hr _ _ _ _ (fun _ => Or.inr rfl) (zdg dz_R_canWant_1 7 rfl)
  · refine vf_aload_n C (f := 0) (zdg dz_R_canWant_0 4 rfl) 0 rfl rfl ?_
    refine vf_iload C (zdg dz_R_canWant_0 5 rfl) 4 rfl ?_
    refine vf_iload C (zdg dz_R_canWant_0 6 rfl) 5 rfl ?_
    refine vf_callVi C cy_R_behind ml_R_320 rfl (ct_R_behind _ _ _) (S := []) sh_43 (by decide) rfl (jrm_o hR (by omega) (by decide)) rfl rfl (Nat.le_of_ble_eq_true rfl) (zdg dz_R_canWant_0 7 rfl) (fun r10 u11 => ?_)
    refine vf_istore C (i := 6) (L' := [(0, (2, 44))]) (zdg dz_R_canWant_0 8 rfl) [0] (jrI rfl rfl) hn (by decide) ?_
    refine vf_iload C (zdg dz_R_canWant_0 9 rfl) 0 rfl ?_
    refine vf_if_lt C (off := 17) (tgt := 37) (zdg dz_R_canWant_0 10 rfl) (by decide) ?_ ?_
    · refine vf_iconst C (z := 0) (zdg dz_R_canWant_0 18 rfl) (jz rfl) ?_
      exact hr _ _ _ _ (fun _ => Or.inl rfl) (zdg dz_R_canWant_0 19 rfl)
    · refine vf_aload_n C (f := 0) (zdg dz_R_canWant_0 11 rfl) 1 rfl rfl ?_
      refine vf_getp C fl_R_113 sh_43 rfl (by decide) rfl (x := 75) rfl (zdg dz_R_canWant_0 12 rfl) ?_
      refine vf_iload C (zdg dz_R_canWant_0 13 rfl) 0 rfl ?_
      refine vf_zald C sh_74 (by decide) rfl (mz := 3000) rfl (zdg dz_R_canWant_0 14 rfl) ?_
      refine vf_if_eq C (off := 7) (tgt := 37) (zdg dz_R_canWant_0 15 rfl) (by decide) ?_ ?_
      · refine vf_iconst C (z := 0) (zdg dz_R_canWant_0 18 rfl) (jz rfl) ?_
        exact hr _ _ _ _ (fun _ => Or.inl rfl) (zdg dz_R_canWant_0 19 rfl)
      · refine vf_iconst C (z := 1) (zdg dz_R_canWant_0 16 rfl) (jz rfl) ?_
        refine vf_goto C (off := 4) (tgt := 38) (zdg dz_R_canWant_0 17 rfl) (by decide) ?_
        exact hr _ _ _ _ (fun _ => Or.inr rfl) (zdg dz_R_canWant_0 19 rfl)
def f_R_canWant : Nat → Int → Int → Int → Int → Int → Wd → Option (Int × Wd)
  | 0, _, _, _, _, _, _ => none
  | d + 1, v1, v2, v3, v4, v5, w => f_R_canWant_b (f_R_canWant d) v1 v2 v3 v4 v5 w
theorem ct_R_canWant_all : ∀ dd : Nat, (∀ (v1 v2 v3 v4 v5 : Int) (w : Wd), Ct y_R_canWant prog_14_method_86_code 7 (some .boolean) (2 + dd) 4 [(2, 44), (0, v1), (0, v2), (0, v3), (0, v4), (0, v5)] w (f_R_canWant dd v1 v2 v3 v4 v5 w)) := by
  intro dd
  induction dd with
  | zero => exact fun _ _ _ _ _ _  l D cA ad o ho => by cases ho
  | succ dd ih =>
    exact fun v1 v2 v3 v4 v5 w => ct_R_canWant_b ih v1 v2 v3 v4 v5 w
theorem ct_R_canWant (v1 v2 v3 v4 v5 : Int) (w : Wd) : Ct y_R_canWant prog_14_method_86_code 7 (some .boolean) 18 4 [(2, 44), (0, v1), (0, v2), (0, v3), (0, v4), (0, v5)] w (f_R_canWant 16 v1 v2 v3 v4 v5 w) := (ct_R_canWant_all 16) v1 v2 v3 v4 v5 w
def f_R_stays_236 (v2 v3 : Int) (w : Wd) : Option (Int × Wd) :=
  jlw (st w 43 15 0) fun u15 =>
  jcall (f_R_tell v3 u15) fun r16 u17 =>
  some (v2, u17)
theorem t_R_stays_236 {X : jX} {Qf : Int × Wd → State → Prop} {ad : Nat → Nat} (C : Cx X prog_14_method_85_code "EachBringsAnotherModel") (hn : xn X = 6) (hR : xR X = rmD 20) (hr : Rt X Qf ad prog_14_method_85_code 0) (v2 v3 : Int) (w : Wd) : VF X Qf ad NF 0 0 w 236 [(0, (2, 44)), (2, (0, v2)), (3, (0, v3))] [] (f_R_stays_236 v2 v3 w) := by
  unfold f_R_stays_236
  refine vf_aload_n C (f := 0) (zdg dz_R_stays_5 12 rfl) 0 rfl rfl ?_
  refine vf_iconst C (z := 0) (zdg dz_R_stays_5 13 rfl) (jz rfl) ?_
  refine vf_put C (kd := 0) fl_R_141 fk_11_15 sh_43 rfl (by decide) rfl rfl (by decide) (zdg dz_R_stays_5 14 rfl) ?_
  generalize st w 43 15 0 = u15
  refine vf_uw ?_
  refine vf_aload_n C (f := 0) (zdg dz_R_stays_5 15 rfl) 0 rfl rfl ?_
  refine vf_iload_n C (f := 3) (zdg dz_R_stays_5 16 rfl) 2 rfl rfl ?_
  refine vf_callVv C cy_R_tell ml_R_304 rfl (ct_R_tell _ _) (S := []) sh_43 (by decide) rfl (jrm_of hR rfl) rfl rfl (Nat.le_of_ble_eq_true rfl) (zdg dz_R_stays_5 17 rfl) (fun r16 u17 => ?_)
  refine vf_iload_n C (f := 2) (zdg dz_R_stays_5 18 rfl) 1 rfl rfl ?_
  exact hr _ _ _ _ (fun h => absurd h (by decide)) (zdg dz_R_stays_5 19 rfl)
def f_R_stays_230 (k127 : Int → Int → Int → Int → Int → Wd → Option (Int × Wd)) (v1 v2 v3 v4 v5 : Int) (w : Wd) : Option (Int × Wd) :=
  jlet (w32 (v5 + 1)) fun x20 =>
  k127 v1 v2 v3 v4 x20 w
theorem t_R_stays_230 {X : jX} {Qf : Int × Wd → State → Prop} {ad : Nat → Nat} (C : Cx X prog_14_method_85_code "EachBringsAnotherModel") (hn : xn X = 6) (hR : xR X = rmD 20) (hr : Rt X Qf ad prog_14_method_85_code 0) {k127 : Int → Int → Int → Int → Int → Wd → Option (Int × Wd)} (hk127 : ∀ (v1 v2 v3 v4 v5 : Int) (w : Wd), VF X Qf ad NF 0 0 w 127 [(0, (2, 44)), (1, (0, v1)), (2, (0, v2)), (3, (0, v3)), (4, (0, v4)), (5, (0, v5))] [] (k127 v1 v2 v3 v4 v5 w)) (v1 v2 v3 v4 v5 : Int) (w : Wd) : VF X Qf ad NF 0 0 w 230 [(0, (2, 44)), (1, (0, v1)), (2, (0, v2)), (3, (0, v3)), (4, (0, v4)), (5, (0, v5))] [] (f_R_stays_230 k127 v1 v2 v3 v4 v5 w) := by
  unfold f_R_stays_230
  refine vf_iinc C (z := 1) (L' := [(0, (2, 44)), (1, (0, v1)), (2, (0, v2)), (3, (0, v3)), (4, (0, v4))]) (zdg dz_R_stays_5 10 rfl) 5 rfl [0, 1, 2, 3, 4] (jrI rfl rfl) hn (by decide) ?_
  generalize w32 (v5 + 1) = x20
  refine vf_ul ?_
  refine vf_goto C (off := (-106)) (tgt := 127) (zdg dz_R_stays_5 11 rfl) (by decide) ?_
  exact vf_perm [1, 2, 3, 4, 5, 0] rfl (hk127 _ _ _ _ _ _)
def f_R_stays_229 (k127 : Int → Int → Int → Int → Int → Wd → Option (Int × Wd)) (v1 v2 v4 v5 s0 : Int) (w : Wd) : Option (Int × Wd) :=
  f_R_stays_230 k127 v1 v2 s0 v4 v5 w
theorem t_R_stays_229 {X : jX} {Qf : Int × Wd → State → Prop} {ad : Nat → Nat} (C : Cx X prog_14_method_85_code "EachBringsAnotherModel") (hn : xn X = 6) (hR : xR X = rmD 20) (hr : Rt X Qf ad prog_14_method_85_code 0) {k127 : Int → Int → Int → Int → Int → Wd → Option (Int × Wd)} (hk127 : ∀ (v1 v2 v3 v4 v5 : Int) (w : Wd), VF X Qf ad NF 0 0 w 127 [(0, (2, 44)), (1, (0, v1)), (2, (0, v2)), (3, (0, v3)), (4, (0, v4)), (5, (0, v5))] [] (k127 v1 v2 v3 v4 v5 w)) (v1 v2 v4 v5 s0 : Int) (w : Wd) : VF X Qf ad NF 0 0 w 229 [(0, (2, 44)), (1, (0, v1)), (2, (0, v2)), (4, (0, v4)), (5, (0, v5))] [(0, s0)] (f_R_stays_229 k127 v1 v2 v4 v5 s0 w) := by
  unfold f_R_stays_229
  refine vf_istore_n C (f := 3) (L' := [(0, (2, 44)), (1, (0, v1)), (2, (0, v2)), (4, (0, v4)), (5, (0, v5))]) (zdg dz_R_stays_5 9 rfl) [0, 1, 2, 3, 4] (jrI rfl rfl) hn (by decide) rfl ?_
  exact vf_perm [1, 2, 3, 0, 4, 5] rfl (t_R_stays_230 C hn hR hr hk127 _ _ _ _ _ _)
def f_R_stays_213 (k127 : Int → Int → Int → Int → Int → Wd → Option (Int × Wd)) (v1 v2 v5 s1 s2 s3 s4 s5 : Int) (w : Wd) : Option (Int × Wd) :=
  jcall (f_R_canWant 16 s1 s2 s3 s4 s5 w) fun r18 u19 =>
  if r18 = 0 then
    f_R_stays_229 k127 v1 v2 r18 v5 (-1) u19
  else
    f_R_stays_229 k127 v1 v2 r18 v5 v5 u19
theorem t_R_stays_213 {X : jX} {Qf : Int × Wd → State → Prop} {ad : Nat → Nat} (C : Cx X prog_14_method_85_code "EachBringsAnotherModel") (hn : xn X = 6) (hR : xR X = rmD 20) (hr : Rt X Qf ad prog_14_method_85_code 0) {k127 : Int → Int → Int → Int → Int → Wd → Option (Int × Wd)} (hk127 : ∀ (v1 v2 v3 v4 v5 : Int) (w : Wd), VF X Qf ad NF 0 0 w 127 [(0, (2, 44)), (1, (0, v1)), (2, (0, v2)), (3, (0, v3)), (4, (0, v4)), (5, (0, v5))] [] (k127 v1 v2 v3 v4 v5 w)) (v1 v2 v5 s1 s2 s3 s4 s5 : Int) (w : Wd) : VF X Qf ad NF 0 0 w 213 [(0, (2, 44)), (1, (0, v1)), (2, (0, v2)), (5, (0, v5))] [(0, s5), (0, s4), (0, s3), (0, s2), (0, s1), (2, 44)] (f_R_stays_213 k127 v1 v2 v5 s1 s2 s3 s4 s5 w) := by
  unfold f_R_stays_213
  refine vf_callVz C cy_R_canWant ml_R_391 rfl (ct_R_canWant _ _ _ _ _ _) (S := []) sh_43 (by decide) rfl (jrm_of hR rfl) rfl rfl (Nat.le_of_ble_eq_true rfl) (zdg dz_R_stays_5 2 rfl) (fun r18 u19 => ?_)
  refine vf_istore C (i := 4) (L' := [(0, (2, 44)), (1, (0, v1)), (2, (0, v2)), (5, (0, v5))]) (zdg dz_R_stays_5 3 rfl) [0, 1, 2, 3] (jrI rfl rfl) hn (by decide) ?_
  refine vf_iload C (zdg dz_R_stays_5 4 rfl) 0 rfl ?_
  refine vf_if_eq C (off := 8) (tgt := 228) (zdg dz_R_stays_5 5 rfl) (by decide) ?_ ?_
  · refine vf_iconst C (z := (-1)) (zdg dz_R_stays_5 8 rfl) (jz rfl) ?_
    exact vf_perm [1, 2, 3, 0, 4] rfl (t_R_stays_229 C hn hR hr hk127 _ _ _ _ _ _)
  · refine vf_iload C (zdg dz_R_stays_5 6 rfl) 4 rfl ?_
    refine vf_goto C (off := 4) (tgt := 229) (zdg dz_R_stays_5 7 rfl) (by decide) ?_
    exact vf_perm [1, 2, 3, 0, 4] rfl (t_R_stays_229 C hn hR hr hk127 _ _ _ _ _ _)
def f_R_stays_199 (k127 : Int → Int → Int → Int → Int → Wd → Option (Int × Wd)) (v1 v2 v5 s1 s2 s3 s4 : Int) (w : Wd) : Option (Int × Wd) :=
  if v5 = (-1) then
    f_R_stays_213 k127 v1 v2 v5 s1 s2 s3 s4 0 w
  else
    f_R_stays_213 k127 v1 v2 v5 s1 s2 s3 s4 (ishl 1 v5) w
theorem t_R_stays_199 {X : jX} {Qf : Int × Wd → State → Prop} {ad : Nat → Nat} (C : Cx X prog_14_method_85_code "EachBringsAnotherModel") (hn : xn X = 6) (hR : xR X = rmD 20) (hr : Rt X Qf ad prog_14_method_85_code 0) {k127 : Int → Int → Int → Int → Int → Wd → Option (Int × Wd)} (hk127 : ∀ (v1 v2 v3 v4 v5 : Int) (w : Wd), VF X Qf ad NF 0 0 w 127 [(0, (2, 44)), (1, (0, v1)), (2, (0, v2)), (3, (0, v3)), (4, (0, v4)), (5, (0, v5))] [] (k127 v1 v2 v3 v4 v5 w)) (v1 v2 v5 s1 s2 s3 s4 : Int) (w : Wd) : VF X Qf ad NF 0 0 w 199 [(0, (2, 44)), (1, (0, v1)), (2, (0, v2)), (5, (0, v5))] [(0, s4), (0, s3), (0, s2), (0, s1), (2, 44)] (f_R_stays_199 k127 v1 v2 v5 s1 s2 s3 s4 w) := by
  unfold f_R_stays_199
  refine vf_iload C (zdg dz_R_stays_4 18 rfl) 3 rfl ?_
  refine vf_iconst C (z := (-1)) (zdg dz_R_stays_4 19 rfl) (jz rfl) ?_
  refine vf_icmp_ne C (off := 7) (tgt := 209) (zdg dz_R_stays_4 20 rfl) (by decide) ?_ ?_
  · refine vf_iconst C (z := 1) (zdg dz_R_stays_4 23 rfl) (jz rfl) ?_
    refine vf_iload C (zdg dz_R_stays_5 0 rfl) 3 rfl ?_
    refine vf_ishl C (zdg dz_R_stays_5 1 rfl) ?_
    exact t_R_stays_213 C hn hR hr hk127 _ _ _ _ _ _ _ _ _
  · refine vf_iconst C (z := 0) (zdg dz_R_stays_4 21 rfl) (jz rfl) ?_
    refine vf_goto C (off := 7) (tgt := 213) (zdg dz_R_stays_4 22 rfl) (by decide) ?_
    exact t_R_stays_213 C hn hR hr hk127 _ _ _ _ _ _ _ _ _
def f_R_stays_181 (k127 : Int → Int → Int → Int → Int → Wd → Option (Int × Wd)) (v1 v2 v5 : Int) (w : Wd) : Option (Int × Wd) :=
  if v5 = (-1) then
    f_R_stays_199 k127 v1 v2 v5 v1 v5 0 0 w
  else
    f_R_stays_199 k127 v1 v2 v5 v1 v5 0 (ishl 1 v1) w
theorem t_R_stays_181 {X : jX} {Qf : Int × Wd → State → Prop} {ad : Nat → Nat} (C : Cx X prog_14_method_85_code "EachBringsAnotherModel") (hn : xn X = 6) (hR : xR X = rmD 20) (hr : Rt X Qf ad prog_14_method_85_code 0) {k127 : Int → Int → Int → Int → Int → Wd → Option (Int × Wd)} (hk127 : ∀ (v1 v2 v3 v4 v5 : Int) (w : Wd), VF X Qf ad NF 0 0 w 127 [(0, (2, 44)), (1, (0, v1)), (2, (0, v2)), (3, (0, v3)), (4, (0, v4)), (5, (0, v5))] [] (k127 v1 v2 v3 v4 v5 w)) (v1 v2 v5 : Int) (w : Wd) : VF X Qf ad NF 0 0 w 181 [(0, (2, 44)), (1, (0, v1)), (2, (0, v2)), (5, (0, v5))] [] (f_R_stays_181 k127 v1 v2 v5 w) := by
  unfold f_R_stays_181
  refine vf_aload_n C (f := 0) (zdg dz_R_stays_4 6 rfl) 0 rfl rfl ?_
  refine vf_iload_n C (f := 1) (zdg dz_R_stays_4 7 rfl) 1 rfl rfl ?_
  refine vf_iload C (zdg dz_R_stays_4 8 rfl) 3 rfl ?_
  refine vf_iconst C (z := 0) (zdg dz_R_stays_4 9 rfl) (jz rfl) ?_
  refine vf_iload C (zdg dz_R_stays_4 10 rfl) 3 rfl ?_
  refine vf_iconst C (z := (-1)) (zdg dz_R_stays_4 11 rfl) (jz rfl) ?_
  refine vf_icmp_ne C (off := 7) (tgt := 196) (zdg dz_R_stays_4 12 rfl) (by decide) ?_ ?_
  · refine vf_iconst C (z := 1) (zdg dz_R_stays_4 15 rfl) (jz rfl) ?_
    refine vf_iload_n C (f := 1) (zdg dz_R_stays_4 16 rfl) 1 rfl rfl ?_
    refine vf_ishl C (zdg dz_R_stays_4 17 rfl) ?_
    exact t_R_stays_199 C hn hR hr hk127 _ _ _ _ _ _ _ _
  · refine vf_iconst C (z := 0) (zdg dz_R_stays_4 13 rfl) (jz rfl) ?_
    refine vf_goto C (off := 6) (tgt := 199) (zdg dz_R_stays_4 14 rfl) (by decide) ?_
    exact t_R_stays_199 C hn hR hr hk127 _ _ _ _ _ _ _ _
def f_R_stays_127 : Nat → Int → Int → Int → Int → Int → Wd → Option (Int × Wd)
  | 0, _, _, _, _, _, _ => none
  | n + 1, v1, v2, v3, v4, v5, w =>
    if (w 43 0) ≤ v5 then
      f_R_stays_236 v2 v3 w
    else
      if v4 = 0 then
        if v5 = (-1) then
          f_R_stays_181 (f_R_stays_127 n) v1 v2 v5 w
        else
          jgd ((0 : Int) ≤ v1 ∧ v1 < 10) <|
          jcall (f_R_has (iand (w 45 v1.toNat) (ixor (w 43 44) (-1))) v5 w) fun r21 u22 =>
          if r21 = 0 then
            f_R_stays_230 (f_R_stays_127 n) v1 v2 v3 v4 v5 u22
          else
            jgd ((0 : Int) ≤ v5 ∧ v5 < 10) <|
            if (u22 68 v5.toNat) = 0 then
              f_R_stays_181 (f_R_stays_127 n) v1 v2 v5 u22
            else
              f_R_stays_230 (f_R_stays_127 n) v1 v2 v3 v4 v5 u22
      else
        f_R_stays_236 v2 v3 w
theorem t_R_stays_127 {X : jX} {Qf : Int × Wd → State → Prop} {ad : Nat → Nat} (C : Cx X prog_14_method_85_code "EachBringsAnotherModel") (hn : xn X = 6) (hR : xR X = rmD 20) (hr : Rt X Qf ad prog_14_method_85_code 0) : ∀ (n : Nat) (v1 v2 v3 v4 v5 : Int) (w : Wd), VF X Qf ad NF 0 0 w 127 [(0, (2, 44)), (1, (0, v1)), (2, (0, v2)), (3, (0, v3)), (4, (0, v4)), (5, (0, v5))] [] (f_R_stays_127 n v1 v2 v3 v4 v5 w) := by
  intro n
  induction n with
  | zero => intros; exact vf_no
  | succ n ih =>
    intro v1 v2 v3 v4 v5 w
    rw [f_R_stays_127]
    refine vf_iload C (zdg dz_R_stays_3 3 rfl) 5 rfl ?_
    refine vf_aload_n C (f := 0) (zdg dz_R_stays_3 4 rfl) 0 rfl rfl ?_
    refine vf_get C (kd := 0) fl_R_144 sh_43 rfl (by decide) rfl rfl (zdg dz_R_stays_3 5 rfl) ?_
    refine vf_icmp_ge C (off := 103) (tgt := 236) (zdg dz_R_stays_3 6 rfl) (by decide) ?_ ?_
    · exact vf_perm [0, 2, 3] rfl (t_R_stays_236 C hn hR hr _ _ _)
    · refine vf_iload C (zdg dz_R_stays_3 7 rfl) 4 rfl ?_
      refine vf_if_ne C (off := 98) (tgt := 236) (zdg dz_R_stays_3 8 rfl) (by decide) ?_ ?_
      · exact vf_perm [0, 2, 3] rfl (t_R_stays_236 C hn hR hr _ _ _)
      · refine vf_iload C (zdg dz_R_stays_3 9 rfl) 5 rfl ?_
        refine vf_iconst C (z := (-1)) (zdg dz_R_stays_3 10 rfl) (jz rfl) ?_
        refine vf_icmp_eq C (off := 37) (tgt := 181) (zdg dz_R_stays_3 11 rfl) (by decide) ?_ ?_
        · exact vf_perm [0, 1, 2, 5] rfl (t_R_stays_181 C hn hR hr ih _ _ _ _)
        · refine vf_aload_n C (f := 0) (zdg dz_R_stays_3 12 rfl) 0 rfl rfl ?_
          refine vf_getp C fl_R_13 sh_43 rfl (by decide) rfl (x := 46) rfl (zdg dz_R_stays_3 13 rfl) ?_
          refine vf_iload_n C (f := 1) (zdg dz_R_stays_3 14 rfl) 1 rfl rfl ?_
          refine vf_iald C sh_45 (by decide) rfl (mz := 10) rfl (zdg dz_R_stays_3 15 rfl) ?_
          refine vf_aload_n C (f := 0) (zdg dz_R_stays_3 16 rfl) 0 rfl rfl ?_
          refine vf_get C (kd := 0) fl_R_330 sh_43 rfl (by decide) rfl rfl (zdg dz_R_stays_3 17 rfl) ?_
          refine vf_iconst C (z := (-1)) (zdg dz_R_stays_3 18 rfl) (jz rfl) ?_
          refine vf_ixor C (zdg dz_R_stays_3 19 rfl) ?_
          refine vf_iand C (zdg dz_R_stays_3 20 rfl) ?_
          refine vf_iload C (zdg dz_R_stays_3 21 rfl) 5 rfl ?_
          refine vf_callSz C cy_R_has ml_R_210 (ct_R_has _ _ _) (S := []) (jrm_of hR rfl) rfl rfl (Nat.le_of_ble_eq_true rfl) (zdg dz_R_stays_3 22 rfl) (fun r21 u22 => ?_)
          refine vf_if_eq C (off := 65) (tgt := 230) (zdg dz_R_stays_3 23 rfl) (by decide) ?_ ?_
          · exact t_R_stays_230 C hn hR hr ih _ _ _ _ _ _
          · refine vf_aload_n C (f := 0) (zdg dz_R_stays_4 0 rfl) 0 rfl rfl ?_
            refine vf_getp C fl_R_95 sh_43 rfl (by decide) rfl (x := 69) rfl (zdg dz_R_stays_4 1 rfl) ?_
            refine vf_iload C (zdg dz_R_stays_4 2 rfl) 5 rfl ?_
            refine vf_iald C sh_68 (by decide) rfl (mz := 10) rfl (zdg dz_R_stays_4 3 rfl) ?_
            refine vf_if_eq C (off := 6) (tgt := 181) (zdg dz_R_stays_4 4 rfl) (by decide) ?_ ?_
            · exact vf_perm [0, 1, 2, 5] rfl (t_R_stays_181 C hn hR hr ih _ _ _ _)
            · refine vf_goto C (off := 52) (tgt := 230) (zdg dz_R_stays_4 5 rfl) (by decide) ?_
              exact t_R_stays_230 C hn hR hr ih _ _ _ _ _ _
def f_R_stays_117 (v1 v2 v3 s0 : Int) (w : Wd) : Option (Int × Wd) :=
  jcall (f_R_load 0 w) fun r13 u14 =>
  f_R_stays_127 FU v1 v2 v3 s0 (-1) u14
theorem t_R_stays_117 {X : jX} {Qf : Int × Wd → State → Prop} {ad : Nat → Nat} (C : Cx X prog_14_method_85_code "EachBringsAnotherModel") (hn : xn X = 6) (hR : xR X = rmD 20) (hr : Rt X Qf ad prog_14_method_85_code 0) (v1 v2 v3 s0 : Int) (w : Wd) : VF X Qf ad NF 0 0 w 117 [(0, (2, 44)), (1, (0, v1)), (2, (0, v2)), (3, (0, v3))] [(0, s0)] (f_R_stays_117 v1 v2 v3 s0 w) := by
  unfold f_R_stays_117
  refine vf_istore C (i := 4) (L' := [(0, (2, 44)), (1, (0, v1)), (2, (0, v2)), (3, (0, v3))]) (zdg dz_R_stays_2 21 rfl) [0, 1, 2, 3] (jrI rfl rfl) hn (by decide) ?_
  refine vf_aload_n C (f := 0) (zdg dz_R_stays_2 22 rfl) 1 rfl rfl ?_
  refine vf_iconst C (z := 0) (zdg dz_R_stays_2 23 rfl) (jz rfl) ?_
  refine vf_callVv C cy_R_load ml_R_336 rfl (ct_R_load _ _) (S := []) sh_43 (by decide) rfl (jrm_of hR rfl) rfl rfl (Nat.le_of_ble_eq_true rfl) (zdg dz_R_stays_3 0 rfl) (fun r13 u14 => ?_)
  refine vf_iconst C (z := (-1)) (zdg dz_R_stays_3 1 rfl) (jz rfl) ?_
  refine vf_istore C (i := 5) (L' := [(4, (0, s0)), (0, (2, 44)), (1, (0, v1)), (2, (0, v2)), (3, (0, v3))]) (zdg dz_R_stays_3 2 rfl) [0, 1, 2, 3, 4] (jrI rfl rfl) hn (by decide) ?_
  exact vf_perm [2, 3, 4, 5, 1, 0] rfl (t_R_stays_127 C hn hR hr FU _ _ _ _ _ _)
def f_R_stays_99 (k61 : Int → Int → Int → Wd → Option (Int × Wd)) (v1 v2 v3 s1 s2 : Int) (w : Wd) : Option (Int × Wd) :=
  jgd ((0 : Int) ≤ s1 ∧ s1 < 3000) <|
  jlw (st w 74 s1.toNat (nz s2)) fun u25 =>
  jlet (w32 (v3 + 1)) fun x26 =>
  k61 v1 v2 x26 u25
theorem t_R_stays_99 {X : jX} {Qf : Int × Wd → State → Prop} {ad : Nat → Nat} (C : Cx X prog_14_method_85_code "EachBringsAnotherModel") (hn : xn X = 6) (hR : xR X = rmD 20) (hr : Rt X Qf ad prog_14_method_85_code 0) {k61 : Int → Int → Int → Wd → Option (Int × Wd)} (hk61 : ∀ (v1 v2 v3 : Int) (w : Wd), VF X Qf ad NF 0 0 w 61 [(0, (2, 44)), (1, (0, v1)), (2, (0, v2)), (3, (0, v3))] [] (k61 v1 v2 v3 w)) (v1 v2 v3 s1 s2 : Int) (w : Wd) : VF X Qf ad NF 0 0 w 99 [(0, (2, 44)), (1, (0, v1)), (2, (0, v2)), (3, (0, v3))] [(0, s2), (0, s1), (2, 75)] (f_R_stays_99 k61 v1 v2 v3 s1 s2 w) := by
  unfold f_R_stays_99
  refine vf_zast C sh_74 (by decide) rfl (mz := 3000) rfl (zdg dz_R_stays_2 11 rfl) ?_
  generalize st w 74 s1.toNat (nz s2) = u25
  refine vf_uw ?_
  refine vf_iinc C (z := 1) (L' := [(0, (2, 44)), (1, (0, v1)), (2, (0, v2))]) (zdg dz_R_stays_2 12 rfl) 3 rfl [0, 1, 2] (jrI rfl rfl) hn (by decide) ?_
  generalize w32 (v3 + 1) = x26
  refine vf_ul ?_
  refine vf_goto C (off := (-42)) (tgt := 61) (zdg dz_R_stays_2 13 rfl) (by decide) ?_
  exact vf_perm [1, 2, 3, 0] rfl (hk61 _ _ _ _)
def f_R_stays_98 (k61 : Int → Int → Int → Wd → Option (Int × Wd)) (v1 v2 v3 s1 : Int) (w : Wd) : Option (Int × Wd) :=
  f_R_stays_99 k61 v1 v2 v3 s1 0 w
theorem t_R_stays_98 {X : jX} {Qf : Int × Wd → State → Prop} {ad : Nat → Nat} (C : Cx X prog_14_method_85_code "EachBringsAnotherModel") (hn : xn X = 6) (hR : xR X = rmD 20) (hr : Rt X Qf ad prog_14_method_85_code 0) {k61 : Int → Int → Int → Wd → Option (Int × Wd)} (hk61 : ∀ (v1 v2 v3 : Int) (w : Wd), VF X Qf ad NF 0 0 w 61 [(0, (2, 44)), (1, (0, v1)), (2, (0, v2)), (3, (0, v3))] [] (k61 v1 v2 v3 w)) (v1 v2 v3 s1 : Int) (w : Wd) : VF X Qf ad NF 0 0 w 98 [(0, (2, 44)), (1, (0, v1)), (2, (0, v2)), (3, (0, v3))] [(0, s1), (2, 75)] (f_R_stays_98 k61 v1 v2 v3 s1 w) := by
  unfold f_R_stays_98
  refine vf_iconst C (z := 0) (zdg dz_R_stays_2 10 rfl) (jz rfl) ?_
  exact t_R_stays_99 C hn hR hr hk61 _ _ _ _ _ _
def f_R_stays_61 : Nat → Int → Int → Int → Wd → Option (Int × Wd)
  | 0, _, _, _, _ => none
  | n + 1, v1, v2, v3, w =>
    if (w 43 40) ≤ v3 then
      if v2 = 0 then
        f_R_stays_117 v1 v2 (-1) 1 w
      else
        f_R_stays_117 v1 v2 (-1) 0 w
    else
      jcall (f_R_isNext v3 w) fun r23 u24 =>
      if r23 = 0 then
        f_R_stays_98 (f_R_stays_61 n) v1 v2 v3 v3 u24
      else
        jgd ((0 : Int) ≤ v3 ∧ v3 < 3000) <|
        if (u24 71 v3.toNat) = (w32 (v2 - 1)) then
          f_R_stays_99 (f_R_stays_61 n) v1 v2 v3 v3 1 u24
        else
          f_R_stays_98 (f_R_stays_61 n) v1 v2 v3 v3 u24
theorem t_R_stays_61 {X : jX} {Qf : Int × Wd → State → Prop} {ad : Nat → Nat} (C : Cx X prog_14_method_85_code "EachBringsAnotherModel") (hn : xn X = 6) (hR : xR X = rmD 20) (hr : Rt X Qf ad prog_14_method_85_code 0) : ∀ (n : Nat) (v1 v2 v3 : Int) (w : Wd), VF X Qf ad NF 0 0 w 61 [(0, (2, 44)), (1, (0, v1)), (2, (0, v2)), (3, (0, v3))] [] (f_R_stays_61 n v1 v2 v3 w) := by
  intro n
  induction n with
  | zero => intros; exact vf_no
  | succ n ih =>
    intro v1 v2 v3 w
    rw [f_R_stays_61]
    refine vf_iload_n C (f := 3) (zdg dz_R_stays_1 13 rfl) 3 rfl rfl ?_
    refine vf_aload_n C (f := 0) (zdg dz_R_stays_1 14 rfl) 0 rfl rfl ?_
    refine vf_get C (kd := 0) fl_R_314 sh_43 rfl (by decide) rfl rfl (zdg dz_R_stays_1 15 rfl) ?_
    refine vf_icmp_ge C (off := 40) (tgt := 106) (zdg dz_R_stays_1 16 rfl) (by decide) ?_ ?_
    · refine vf_iconst C (z := (-1)) (zdg dz_R_stays_2 14 rfl) (jz rfl) ?_
      refine vf_istore_n C (f := 3) (L' := [(0, (2, 44)), (1, (0, v1)), (2, (0, v2))]) (zdg dz_R_stays_2 15 rfl) [0, 1, 2] (jrI rfl rfl) hn (by decide) rfl ?_
      refine vf_iload_n C (f := 2) (zdg dz_R_stays_2 16 rfl) 3 rfl rfl ?_
      refine vf_if_ne C (off := 7) (tgt := 116) (zdg dz_R_stays_2 17 rfl) (by decide) ?_ ?_
      · refine vf_iconst C (z := 0) (zdg dz_R_stays_2 20 rfl) (jz rfl) ?_
        exact vf_perm [1, 2, 3, 0] rfl (t_R_stays_117 C hn hR hr _ _ _ _ _)
      · refine vf_iconst C (z := 1) (zdg dz_R_stays_2 18 rfl) (jz rfl) ?_
        refine vf_goto C (off := 4) (tgt := 117) (zdg dz_R_stays_2 19 rfl) (by decide) ?_
        exact vf_perm [1, 2, 3, 0] rfl (t_R_stays_117 C hn hR hr _ _ _ _ _)
    · refine vf_aload_n C (f := 0) (zdg dz_R_stays_1 17 rfl) 0 rfl rfl ?_
      refine vf_getp C fl_R_113 sh_43 rfl (by decide) rfl (x := 75) rfl (zdg dz_R_stays_1 18 rfl) ?_
      refine vf_iload_n C (f := 3) (zdg dz_R_stays_1 19 rfl) 3 rfl rfl ?_
      refine vf_aload_n C (f := 0) (zdg dz_R_stays_1 20 rfl) 0 rfl rfl ?_
      refine vf_iload_n C (f := 3) (zdg dz_R_stays_1 21 rfl) 3 rfl rfl ?_
      refine vf_callVz C cy_R_isNext ml_R_385 rfl (ct_R_isNext _ _) (S := [(0, v3), (2, 75)]) sh_43 (by decide) rfl (jrm_of hR rfl) rfl rfl (Nat.le_of_ble_eq_true rfl) (zdg dz_R_stays_1 22 rfl) (fun r23 u24 => ?_)
      refine vf_if_eq C (off := 19) (tgt := 98) (zdg dz_R_stays_1 23 rfl) (by decide) ?_ ?_
      · exact t_R_stays_98 C hn hR hr ih _ _ _ _ _
      · refine vf_aload_n C (f := 0) (zdg dz_R_stays_2 0 rfl) 0 rfl rfl ?_
        refine vf_getp C fl_R_104 sh_43 rfl (by decide) rfl (x := 72) rfl (zdg dz_R_stays_2 1 rfl) ?_
        refine vf_iload_n C (f := 3) (zdg dz_R_stays_2 2 rfl) 3 rfl rfl ?_
        refine vf_iald C sh_71 (by decide) rfl (mz := 3000) rfl (zdg dz_R_stays_2 3 rfl) ?_
        refine vf_iload_n C (f := 2) (zdg dz_R_stays_2 4 rfl) 2 rfl rfl ?_
        refine vf_iconst C (z := 1) (zdg dz_R_stays_2 5 rfl) (jz rfl) ?_
        refine vf_isub C (zdg dz_R_stays_2 6 rfl) ?_
        refine vf_icmp_ne C (off := 7) (tgt := 98) (zdg dz_R_stays_2 7 rfl) (by decide) ?_ ?_
        · exact t_R_stays_98 C hn hR hr ih _ _ _ _ _
        · refine vf_iconst C (z := 1) (zdg dz_R_stays_2 8 rfl) (jz rfl) ?_
          refine vf_goto C (off := 4) (tgt := 99) (zdg dz_R_stays_2 9 rfl) (by decide) ?_
          exact t_R_stays_99 C hn hR hr ih _ _ _ _ _ _
def f_R_stays (v1 : Int) (w : Wd) : Option (Int × Wd) :=
  jlw (st w 43 16 0) fun u1 =>
  jcall (f_R_isOne v1 u1) fun r2 u3 =>
  if r2 = 0 then
    some ((-1), u3)
  else
    jcall (f_R_findStates 0 u3) fun r4 u5 =>
    if r4 = 0 then
      some ((-3), u5)
    else
      jgd ((0 : Int) ≤ v1 ∧ v1 < 10) <|
      jcall (f_R_isGuest (u5 47 v1.toNat) u5) fun r6 u7 =>
      if r6 = 0 then
        some ((-2), u7)
      else
        jcall (f_R_findLife (ishl 1 v1) u7) fun r8 u9 =>
        jgd ((0 : Int) ≤ (0 : Int) ∧ (0 : Int) < 3000) <|
        jlet (u9 71 (0 : Int).toNat) fun x10 =>
        jcall (f_R_findNext u9) fun r11 u12 =>
        f_R_stays_61 FU v1 x10 0 u12
theorem ct_R_stays (v1 : Int) (w : Wd) : Ct y_R_stays prog_14_method_85_code 6 (some .int) 20 0 [(2, 44), (0, v1)] w (f_R_stays v1 w) := by
  refine ct_of (by decide +kernel) (Or.inl ⟨rfl, rfl⟩) (Nat.le_of_ble_eq_true rfl) ?_
  intro X Qf ad C hn hR hr
  unfold f_R_stays
  show VF X Qf ad NF 0 0 w 0 [(0, (2, 44)), (1, (0, v1))] [] _
  refine vf_aload_n C (f := 0) (zdg dz_R_stays_0 0 rfl) 0 rfl rfl ?_
  refine vf_iconst C (z := 0) (zdg dz_R_stays_0 1 rfl) (jz rfl) ?_
  refine vf_put C (kd := 0) fl_R_138 fk_11_16 sh_43 rfl (by decide) rfl rfl (by decide) (zdg dz_R_stays_0 2 rfl) ?_
  generalize st w 43 16 0 = u1
  refine vf_uw ?_
  refine vf_aload_n C (f := 0) (zdg dz_R_stays_0 3 rfl) 0 rfl rfl ?_
  refine vf_iload_n C (f := 1) (zdg dz_R_stays_0 4 rfl) 1 rfl rfl ?_
  refine vf_callVz C cy_R_isOne ml_R_151 rfl (ct_R_isOne _ _) (S := []) sh_43 (by decide) rfl (jrm_of hR rfl) rfl rfl (Nat.le_of_ble_eq_true rfl) (zdg dz_R_stays_0 5 rfl) (fun r2 u3 => ?_)
  refine vf_if_ne C (off := 5) (tgt := 15) (zdg dz_R_stays_0 6 rfl) (by decide) ?_ ?_
  · refine vf_aload_n C (f := 0) (zdg dz_R_stays_0 9 rfl) 0 rfl rfl ?_
    refine vf_iconst C (z := 0) (zdg dz_R_stays_0 10 rfl) (jz rfl) ?_
    refine vf_callVz C cy_R_findStates ml_R_342 rfl (ct_R_findStates _ _) (S := []) sh_43 (by decide) rfl (jrm_of hR rfl) rfl rfl (Nat.le_of_ble_eq_true rfl) (zdg dz_R_stays_0 11 rfl) (fun r4 u5 => ?_)
    refine vf_if_ne C (off := 6) (tgt := 26) (zdg dz_R_stays_0 12 rfl) (by decide) ?_ ?_
    · refine vf_aload_n C (f := 0) (zdg dz_R_stays_0 15 rfl) 0 rfl rfl ?_
      refine vf_getp C fl_R_20 sh_43 rfl (by decide) rfl (x := 48) rfl (zdg dz_R_stays_0 16 rfl) ?_
      refine vf_iload_n C (f := 1) (zdg dz_R_stays_0 17 rfl) 1 rfl rfl ?_
      refine vf_iald C sh_47 (by decide) rfl (mz := 10) rfl (zdg dz_R_stays_0 18 rfl) ?_
      refine vf_callSz C cy_R_isGuest ml_R_256 (ct_R_isGuest _ _) (S := []) (jrm_of hR rfl) rfl rfl (Nat.le_of_ble_eq_true rfl) (zdg dz_R_stays_0 19 rfl) (fun r6 u7 => ?_)
      refine vf_if_ne C (off := 6) (tgt := 41) (zdg dz_R_stays_0 20 rfl) (by decide) ?_ ?_
      · refine vf_aload_n C (f := 0) (zdg dz_R_stays_0 23 rfl) 0 rfl rfl ?_
        refine vf_iconst C (z := 1) (zdg dz_R_stays_1 0 rfl) (jz rfl) ?_
        refine vf_iload_n C (f := 1) (zdg dz_R_stays_1 1 rfl) 1 rfl rfl ?_
        refine vf_ishl C (zdg dz_R_stays_1 2 rfl) ?_
        refine vf_callVv C cy_R_findLife ml_R_373 rfl (ct_R_findLife _ _) (S := []) sh_43 (by decide) rfl (jrm_of hR rfl) rfl rfl (Nat.le_of_ble_eq_true rfl) (zdg dz_R_stays_1 3 rfl) (fun r8 u9 => ?_)
        refine vf_aload_n C (f := 0) (zdg dz_R_stays_1 4 rfl) 0 rfl rfl ?_
        refine vf_getp C fl_R_104 sh_43 rfl (by decide) rfl (x := 72) rfl (zdg dz_R_stays_1 5 rfl) ?_
        refine vf_iconst C (z := 0) (zdg dz_R_stays_1 6 rfl) (jz rfl) ?_
        refine vf_iald C sh_71 (by decide) rfl (mz := 3000) rfl (zdg dz_R_stays_1 7 rfl) ?_
        generalize u9 71 (0 : Int).toNat = x10
        refine vf_ul ?_
        refine vf_istore_n C (f := 2) (L' := [(0, (2, 44)), (1, (0, v1))]) (zdg dz_R_stays_1 8 rfl) [0, 1] (jrI rfl rfl) hn (by decide) rfl ?_
        refine vf_aload_n C (f := 0) (zdg dz_R_stays_1 9 rfl) 1 rfl rfl ?_
        refine vf_callVv C cy_R_findNext ml_R_382 rfl (ct_R_findNext _) (S := []) sh_43 (by decide) rfl (jrm_of hR rfl) rfl rfl (Nat.le_of_ble_eq_true rfl) (zdg dz_R_stays_1 10 rfl) (fun r11 u12 => ?_)
        refine vf_iconst C (z := 0) (zdg dz_R_stays_1 11 rfl) (jz rfl) ?_
        refine vf_istore_n C (f := 3) (L' := [(2, (0, x10)), (0, (2, 44)), (1, (0, v1))]) (zdg dz_R_stays_1 12 rfl) [0, 1, 2] (jrI rfl rfl) hn (by decide) rfl ?_
        exact vf_perm [2, 3, 1, 0] rfl (t_R_stays_61 C hn hR hr FU _ _ _ _)
      · refine vf_bipush C (z := (-2)) (zdg dz_R_stays_0 21 rfl) (by decide +kernel) (jz rfl) ?_
        exact hr _ _ _ _ (fun h => absurd h (by decide)) (zdg dz_R_stays_0 22 rfl)
    · refine vf_bipush C (z := (-3)) (zdg dz_R_stays_0 13 rfl) (by decide +kernel) (jz rfl) ?_
      exact hr _ _ _ _ (fun h => absurd h (by decide)) (zdg dz_R_stays_0 14 rfl)
  · refine vf_iconst C (z := (-1)) (zdg dz_R_stays_0 7 rfl) (jz rfl) ?_
    exact hr _ _ _ _ (fun h => absurd h (by decide)) (zdg dz_R_stays_0 8 rfl)
def f_R_isThere_36 (k2 : Int → Int → Wd → Option (Int × Wd)) (v1 v2 : Int) (w : Wd) : Option (Int × Wd) :=
  jlet (w32 (v2 + 1)) fun x1 =>
  k2 v1 x1 w
theorem t_R_isThere_36 {X : jX} {Qf : Int × Wd → State → Prop} {ad : Nat → Nat} (C : Cx X prog_14_method_88_code "EachBringsAnotherModel") (hn : xn X = 3) (hR : xR X = rmD 3) (hr : Rt X Qf ad prog_14_method_88_code 4) {k2 : Int → Int → Wd → Option (Int × Wd)} (hk2 : ∀ (v1 v2 : Int) (w : Wd), VF X Qf ad NF 0 0 w 2 [(0, (2, 44)), (1, (0, v1)), (2, (0, v2))] [] (k2 v1 v2 w)) (v1 v2 : Int) (w : Wd) : VF X Qf ad NF 0 0 w 36 [(0, (2, 44)), (1, (0, v1)), (2, (0, v2))] [] (f_R_isThere_36 k2 v1 v2 w) := by
  unfold f_R_isThere_36
  refine vf_iinc C (z := 1) (L' := [(0, (2, 44)), (1, (0, v1))]) (zdg dz_R_isThere_0 20 rfl) 2 rfl [0, 1] (jrI rfl rfl) hn (by decide) ?_
  generalize w32 (v2 + 1) = x1
  refine vf_ul ?_
  refine vf_goto C (off := (-37)) (tgt := 2) (zdg dz_R_isThere_0 21 rfl) (by decide) ?_
  exact vf_perm [1, 2, 0] rfl (hk2 _ _ _)
def f_R_isThere_2 : Nat → Int → Int → Wd → Option (Int × Wd)
  | 0, _, _, _ => none
  | n + 1, v1, v2, w =>
    if (w 43 40) ≤ v2 then
      some (0, w)
    else
      jgd ((0 : Int) ≤ v2 ∧ v2 < 3000) <|
      if (1000000 : Int) ≤ (w 69 v2.toNat) then
        f_R_isThere_36 (f_R_isThere_2 n) v1 v2 w
      else
        jcall (f_R_guestsIn v2 w) fun r2 u3 =>
        jcall (f_R_has r2 v1 u3) fun r4 u5 =>
        if r4 = 0 then
          f_R_isThere_36 (f_R_isThere_2 n) v1 v2 u5
        else
          some (1, u5)
theorem t_R_isThere_2 {X : jX} {Qf : Int × Wd → State → Prop} {ad : Nat → Nat} (C : Cx X prog_14_method_88_code "EachBringsAnotherModel") (hn : xn X = 3) (hR : xR X = rmD 3) (hr : Rt X Qf ad prog_14_method_88_code 4) : ∀ (n : Nat) (v1 v2 : Int) (w : Wd), VF X Qf ad NF 0 0 w 2 [(0, (2, 44)), (1, (0, v1)), (2, (0, v2))] [] (f_R_isThere_2 n v1 v2 w) := by
  intro n
  induction n with
  | zero => intros; exact vf_no
  | succ n ih =>
    intro v1 v2 w
    rw [f_R_isThere_2]
    refine vf_iload_n C (f := 2) (zdg dz_R_isThere_0 2 rfl) 2 rfl rfl ?_
    refine vf_aload_n C (f := 0) (zdg dz_R_isThere_0 3 rfl) 0 rfl rfl ?_
    refine vf_get C (kd := 0) fl_R_314 sh_43 rfl (by decide) rfl rfl (zdg dz_R_isThere_0 4 rfl) ?_
    refine vf_icmp_ge C (off := 35) (tgt := 42) (zdg dz_R_isThere_0 5 rfl) (by decide) ?_ ?_
    · refine vf_iconst C (z := 0) (zdg dz_R_isThere_0 22 rfl) (jz rfl) ?_
      exact hr _ _ _ _ (fun _ => Or.inl rfl) (zdg dz_R_isThere_0 23 rfl)
    · refine vf_aload_n C (f := 0) (zdg dz_R_isThere_0 6 rfl) 0 rfl rfl ?_
      refine vf_getp C fl_R_98 sh_43 rfl (by decide) rfl (x := 70) rfl (zdg dz_R_isThere_0 7 rfl) ?_
      refine vf_iload_n C (f := 2) (zdg dz_R_isThere_0 8 rfl) 2 rfl rfl ?_
      refine vf_iald C sh_69 (by decide) rfl (mz := 3000) rfl (zdg dz_R_isThere_0 9 rfl) ?_
      refine vf_ldcw C (z := 1000000) (i := 348) (zdg dz_R_isThere_0 10 rfl) kc_R_348 (by decide +kernel) (jz rfl) ?_
      refine vf_icmp_ge C (off := 17) (tgt := 36) (zdg dz_R_isThere_0 11 rfl) (by decide) ?_ ?_
      · exact t_R_isThere_36 C hn hR hr ih _ _ _
      · refine vf_aload_n C (f := 0) (zdg dz_R_isThere_0 12 rfl) 0 rfl rfl ?_
        refine vf_iload_n C (f := 2) (zdg dz_R_isThere_0 13 rfl) 2 rfl rfl ?_
        refine vf_callVi C cy_R_guestsIn ml_R_345 rfl (ct_R_guestsIn _ _) (S := []) sh_43 (by decide) rfl (jrm_of hR rfl) rfl rfl (Nat.le_of_ble_eq_true rfl) (zdg dz_R_isThere_0 14 rfl) (fun r2 u3 => ?_)
        refine vf_iload_n C (f := 1) (zdg dz_R_isThere_0 15 rfl) 1 rfl rfl ?_
        refine vf_callSz C cy_R_has ml_R_210 (ct_R_has _ _ _) (S := []) (jrm_of hR rfl) rfl rfl (Nat.le_of_ble_eq_true rfl) (zdg dz_R_isThere_0 16 rfl) (fun r4 u5 => ?_)
        refine vf_if_eq C (off := 5) (tgt := 36) (zdg dz_R_isThere_0 17 rfl) (by decide) ?_ ?_
        · exact t_R_isThere_36 C hn hR hr ih _ _ _
        · refine vf_iconst C (z := 1) (zdg dz_R_isThere_0 18 rfl) (jz rfl) ?_
          exact hr _ _ _ _ (fun _ => Or.inr rfl) (zdg dz_R_isThere_0 19 rfl)
def f_R_isThere (v1 : Int) (w : Wd) : Option (Int × Wd) :=
  f_R_isThere_2 FU v1 0 w
theorem ct_R_isThere (v1 : Int) (w : Wd) : Ct y_R_isThere prog_14_method_88_code 3 (some .boolean) 3 4 [(2, 44), (0, v1)] w (f_R_isThere v1 w) := by
  refine ct_of (by decide +kernel) (Or.inr (Or.inr (Or.inl ⟨rfl, rfl⟩))) (Nat.le_of_ble_eq_true rfl) ?_
  intro X Qf ad C hn hR hr
  unfold f_R_isThere
  show VF X Qf ad NF 0 0 w 0 [(0, (2, 44)), (1, (0, v1))] [] _
  refine vf_iconst C (z := 0) (zdg dz_R_isThere_0 0 rfl) (jz rfl) ?_
  refine vf_istore_n C (f := 2) (L' := [(0, (2, 44)), (1, (0, v1))]) (zdg dz_R_isThere_0 1 rfl) [0, 1] (jrI rfl rfl) hn (by decide) rfl ?_
  exact vf_perm [1, 2, 0] rfl (t_R_isThere_2 C hn hR hr FU _ _ _)
def f_R_soonest_79 : Nat → Int → Int → Wd → Option (Int × Wd)
  | 0, _, _, _ => none
  | n + 1, v1, v3, w =>
    jcall (f_R_isThere v1 w) fun r8 u9 =>
    if r8 = 0 then
      jcall (f_R_goOneWeek u9) fun r10 u11 =>
      jlet (w32 (v3 + 1)) fun x12 =>
      f_R_soonest_79 n v1 x12 u11
    else
      some (v3, u9)
theorem t_R_soonest_79 {X : jX} {Qf : Int × Wd → State → Prop} {ad : Nat → Nat} (C : Cx X prog_14_method_87_code "EachBringsAnotherModel") (hn : xn X = 4) (hR : xR X = rmD 20) (hr : Rt X Qf ad prog_14_method_87_code 0) : ∀ (n : Nat) (v1 v3 : Int) (w : Wd), VF X Qf ad NF 0 0 w 79 [(0, (2, 44)), (1, (0, v1)), (3, (0, v3))] [] (f_R_soonest_79 n v1 v3 w) := by
  intro n
  induction n with
  | zero => intros; exact vf_no
  | succ n ih =>
    intro v1 v3 w
    rw [f_R_soonest_79]
    refine vf_aload_n C (f := 0) (zdg dz_R_soonest_1 21 rfl) 0 rfl rfl ?_
    refine vf_iload_n C (f := 1) (zdg dz_R_soonest_1 22 rfl) 1 rfl rfl ?_
    refine vf_callVz C cy_R_isThere ml_R_395 rfl (ct_R_isThere _ _) (S := []) sh_43 (by decide) rfl (jrm_of hR rfl) rfl rfl (Nat.le_of_ble_eq_true rfl) (zdg dz_R_soonest_1 23 rfl) (fun r8 u9 => ?_)
    refine vf_if_ne C (off := 13) (tgt := 97) (zdg dz_R_soonest_2 0 rfl) (by decide) ?_ ?_
    · refine vf_iload_n C (f := 3) (zdg dz_R_soonest_2 5 rfl) 2 rfl rfl ?_
      exact hr _ _ _ _ (fun h => absurd h (by decide)) (zdg dz_R_soonest_2 6 rfl)
    · refine vf_aload_n C (f := 0) (zdg dz_R_soonest_2 1 rfl) 0 rfl rfl ?_
      refine vf_callVv C cy_R_goOneWeek ml_R_355 rfl (ct_R_goOneWeek _) (S := []) sh_43 (by decide) rfl (jrm_of hR rfl) rfl rfl (Nat.le_of_ble_eq_true rfl) (zdg dz_R_soonest_2 2 rfl) (fun r10 u11 => ?_)
      refine vf_iinc C (z := 1) (L' := [(0, (2, 44)), (1, (0, v1))]) (zdg dz_R_soonest_2 3 rfl) 2 rfl [0, 1] (jrI rfl rfl) hn (by decide) ?_
      generalize w32 (v3 + 1) = x12
      refine vf_ul ?_
      refine vf_goto C (off := (-15)) (tgt := 79) (zdg dz_R_soonest_2 4 rfl) (by decide) ?_
      exact vf_perm [1, 2, 0] rfl (ih _ _ _)
def f_R_soonest_59 (k30 : Int → Int → Int → Wd → Option (Int × Wd)) (v1 v3 s0 : Int) (w : Wd) : Option (Int × Wd) :=
  jlet (w32 (v3 + 1)) fun x13 =>
  k30 v1 s0 x13 w
theorem t_R_soonest_59 {X : jX} {Qf : Int × Wd → State → Prop} {ad : Nat → Nat} (C : Cx X prog_14_method_87_code "EachBringsAnotherModel") (hn : xn X = 4) (hR : xR X = rmD 20) (hr : Rt X Qf ad prog_14_method_87_code 0) {k30 : Int → Int → Int → Wd → Option (Int × Wd)} (hk30 : ∀ (v1 v2 v3 : Int) (w : Wd), VF X Qf ad NF 0 0 w 30 [(0, (2, 44)), (1, (0, v1)), (2, (0, v2)), (3, (0, v3))] [] (k30 v1 v2 v3 w)) (v1 v3 s0 : Int) (w : Wd) : VF X Qf ad NF 0 0 w 59 [(0, (2, 44)), (1, (0, v1)), (3, (0, v3))] [(0, s0)] (f_R_soonest_59 k30 v1 v3 s0 w) := by
  unfold f_R_soonest_59
  refine vf_istore_n C (f := 2) (L' := [(0, (2, 44)), (1, (0, v1)), (3, (0, v3))]) (zdg dz_R_soonest_1 10 rfl) [0, 1, 2] (jrI rfl rfl) hn (by decide) rfl ?_
  refine vf_iinc C (z := 1) (L' := [(2, (0, s0)), (0, (2, 44)), (1, (0, v1))]) (zdg dz_R_soonest_1 11 rfl) 3 rfl [0, 1, 2] (jrI rfl rfl) hn (by decide) ?_
  generalize w32 (v3 + 1) = x13
  refine vf_ul ?_
  refine vf_goto C (off := (-33)) (tgt := 30) (zdg dz_R_soonest_1 12 rfl) (by decide) ?_
  exact vf_perm [2, 3, 1, 0] rfl (hk30 _ _ _ _)
def f_R_soonest_54 (k30 : Int → Int → Int → Wd → Option (Int × Wd)) (v1 v3 : Int) (w : Wd) : Option (Int × Wd) :=
  f_R_soonest_59 k30 v1 v3 1 w
theorem t_R_soonest_54 {X : jX} {Qf : Int × Wd → State → Prop} {ad : Nat → Nat} (C : Cx X prog_14_method_87_code "EachBringsAnotherModel") (hn : xn X = 4) (hR : xR X = rmD 20) (hr : Rt X Qf ad prog_14_method_87_code 0) {k30 : Int → Int → Int → Wd → Option (Int × Wd)} (hk30 : ∀ (v1 v2 v3 : Int) (w : Wd), VF X Qf ad NF 0 0 w 30 [(0, (2, 44)), (1, (0, v1)), (2, (0, v2)), (3, (0, v3))] [] (k30 v1 v2 v3 w)) (v1 v3 : Int) (w : Wd) : VF X Qf ad NF 0 0 w 54 [(0, (2, 44)), (1, (0, v1)), (3, (0, v3))] [] (f_R_soonest_54 k30 v1 v3 w) := by
  unfold f_R_soonest_54
  refine vf_iconst C (z := 1) (zdg dz_R_soonest_1 7 rfl) (jz rfl) ?_
  refine vf_goto C (off := 4) (tgt := 59) (zdg dz_R_soonest_1 8 rfl) (by decide) ?_
  exact t_R_soonest_59 C hn hR hr hk30 _ _ _ _
def f_R_soonest_30 : Nat → Int → Int → Int → Wd → Option (Int × Wd)
  | 0, _, _, _, _ => none
  | n + 1, v1, v2, v3, w =>
    if (w 43 40) ≤ v3 then
      if v2 = 0 then
        some ((-2), w)
      else
        jcall (f_R_beginWeeks w) fun r6 u7 =>
        f_R_soonest_79 FU v1 0 u7
    else
      if v2 = 0 then
        jcall (f_R_guestsIn v3 w) fun r14 u15 =>
        jcall (f_R_has r14 v1 u15) fun r16 u17 =>
        if r16 = 0 then
          f_R_soonest_59 (f_R_soonest_30 n) v1 v3 0 u17
        else
          f_R_soonest_54 (f_R_soonest_30 n) v1 v3 u17
      else
        f_R_soonest_54 (f_R_soonest_30 n) v1 v3 w
theorem t_R_soonest_30 {X : jX} {Qf : Int × Wd → State → Prop} {ad : Nat → Nat} (C : Cx X prog_14_method_87_code "EachBringsAnotherModel") (hn : xn X = 4) (hR : xR X = rmD 20) (hr : Rt X Qf ad prog_14_method_87_code 0) : ∀ (n : Nat) (v1 v2 v3 : Int) (w : Wd), VF X Qf ad NF 0 0 w 30 [(0, (2, 44)), (1, (0, v1)), (2, (0, v2)), (3, (0, v3))] [] (f_R_soonest_30 n v1 v2 v3 w) := by
  intro n
  induction n with
  | zero => intros; exact vf_no
  | succ n ih =>
    intro v1 v2 v3 w
    rw [f_R_soonest_30]
    refine vf_iload_n C (f := 3) (zdg dz_R_soonest_0 19 rfl) 3 rfl rfl ?_
    refine vf_aload_n C (f := 0) (zdg dz_R_soonest_0 20 rfl) 0 rfl rfl ?_
    refine vf_get C (kd := 0) fl_R_314 sh_43 rfl (by decide) rfl rfl (zdg dz_R_soonest_0 21 rfl) ?_
    refine vf_icmp_ge C (off := 31) (tgt := 66) (zdg dz_R_soonest_0 22 rfl) (by decide) ?_ ?_
    · refine vf_iload_n C (f := 2) (zdg dz_R_soonest_1 13 rfl) 2 rfl rfl ?_
      refine vf_if_ne C (off := 6) (tgt := 73) (zdg dz_R_soonest_1 14 rfl) (by decide) ?_ ?_
      · refine vf_aload_n C (f := 0) (zdg dz_R_soonest_1 17 rfl) 0 rfl rfl ?_
        refine vf_callVv C cy_R_beginWeeks ml_R_352 rfl (ct_R_beginWeeks _) (S := []) sh_43 (by decide) rfl (jrm_of hR rfl) rfl rfl (Nat.le_of_ble_eq_true rfl) (zdg dz_R_soonest_1 18 rfl) (fun r6 u7 => ?_)
        refine vf_iconst C (z := 0) (zdg dz_R_soonest_1 19 rfl) (jz rfl) ?_
        refine vf_istore_n C (f := 3) (L' := [(0, (2, 44)), (1, (0, v1))]) (zdg dz_R_soonest_1 20 rfl) [0, 1] (jrI rfl rfl) hn (by decide) rfl ?_
        exact vf_perm [1, 2, 0] rfl (t_R_soonest_79 C hn hR hr FU _ _ _)
      · refine vf_bipush C (z := (-2)) (zdg dz_R_soonest_1 15 rfl) (by decide +kernel) (jz rfl) ?_
        exact hr _ _ _ _ (fun h => absurd h (by decide)) (zdg dz_R_soonest_1 16 rfl)
    · refine vf_iload_n C (f := 2) (zdg dz_R_soonest_0 23 rfl) 2 rfl rfl ?_
      refine vf_if_ne C (off := 15) (tgt := 54) (zdg dz_R_soonest_1 0 rfl) (by decide) ?_ ?_
      · exact vf_perm [0, 1, 3] rfl (t_R_soonest_54 C hn hR hr ih _ _ _)
      · refine vf_aload_n C (f := 0) (zdg dz_R_soonest_1 1 rfl) 0 rfl rfl ?_
        refine vf_iload_n C (f := 3) (zdg dz_R_soonest_1 2 rfl) 3 rfl rfl ?_
        refine vf_callVi C cy_R_guestsIn ml_R_345 rfl (ct_R_guestsIn _ _) (S := []) sh_43 (by decide) rfl (jrm_of hR rfl) rfl rfl (Nat.le_of_ble_eq_true rfl) (zdg dz_R_soonest_1 3 rfl) (fun r14 u15 => ?_)
        refine vf_iload_n C (f := 1) (zdg dz_R_soonest_1 4 rfl) 1 rfl rfl ?_
        refine vf_callSz C cy_R_has ml_R_210 (ct_R_has _ _ _) (S := []) (jrm_of hR rfl) rfl rfl (Nat.le_of_ble_eq_true rfl) (zdg dz_R_soonest_1 5 rfl) (fun r16 u17 => ?_)
        refine vf_if_eq C (off := 7) (tgt := 58) (zdg dz_R_soonest_1 6 rfl) (by decide) ?_ ?_
        · refine vf_iconst C (z := 0) (zdg dz_R_soonest_1 9 rfl) (jz rfl) ?_
          exact vf_perm [0, 1, 3] rfl (t_R_soonest_59 C hn hR hr ih _ _ _ _)
        · exact vf_perm [0, 1, 3] rfl (t_R_soonest_54 C hn hR hr ih _ _ _)
def f_R_soonest (v1 : Int) (w : Wd) : Option (Int × Wd) :=
  jlw (st w 43 16 0) fun u1 =>
  jcall (f_R_isOne v1 u1) fun r2 u3 =>
  if r2 = 0 then
    some ((-1), u3)
  else
    jcall (f_R_findStates 0 u3) fun r4 u5 =>
    if r4 = 0 then
      some ((-3), u5)
    else
      f_R_soonest_30 FU v1 0 0 u5
theorem ct_R_soonest (v1 : Int) (w : Wd) : Ct y_R_soonest prog_14_method_87_code 4 (some .int) 20 0 [(2, 44), (0, v1)] w (f_R_soonest v1 w) := by
  refine ct_of (by decide +kernel) (Or.inl ⟨rfl, rfl⟩) (Nat.le_of_ble_eq_true rfl) ?_
  intro X Qf ad C hn hR hr
  unfold f_R_soonest
  show VF X Qf ad NF 0 0 w 0 [(0, (2, 44)), (1, (0, v1))] [] _
  refine vf_aload_n C (f := 0) (zdg dz_R_soonest_0 0 rfl) 0 rfl rfl ?_
  refine vf_iconst C (z := 0) (zdg dz_R_soonest_0 1 rfl) (jz rfl) ?_
  refine vf_put C (kd := 0) fl_R_138 fk_11_16 sh_43 rfl (by decide) rfl rfl (by decide) (zdg dz_R_soonest_0 2 rfl) ?_
  generalize st w 43 16 0 = u1
  refine vf_uw ?_
  refine vf_aload_n C (f := 0) (zdg dz_R_soonest_0 3 rfl) 0 rfl rfl ?_
  refine vf_iload_n C (f := 1) (zdg dz_R_soonest_0 4 rfl) 1 rfl rfl ?_
  refine vf_callVz C cy_R_isOne ml_R_151 rfl (ct_R_isOne _ _) (S := []) sh_43 (by decide) rfl (jrm_of hR rfl) rfl rfl (Nat.le_of_ble_eq_true rfl) (zdg dz_R_soonest_0 5 rfl) (fun r2 u3 => ?_)
  refine vf_if_ne C (off := 5) (tgt := 15) (zdg dz_R_soonest_0 6 rfl) (by decide) ?_ ?_
  · refine vf_aload_n C (f := 0) (zdg dz_R_soonest_0 9 rfl) 0 rfl rfl ?_
    refine vf_iconst C (z := 0) (zdg dz_R_soonest_0 10 rfl) (jz rfl) ?_
    refine vf_callVz C cy_R_findStates ml_R_342 rfl (ct_R_findStates _ _) (S := []) sh_43 (by decide) rfl (jrm_of hR rfl) rfl rfl (Nat.le_of_ble_eq_true rfl) (zdg dz_R_soonest_0 11 rfl) (fun r4 u5 => ?_)
    refine vf_if_ne C (off := 6) (tgt := 26) (zdg dz_R_soonest_0 12 rfl) (by decide) ?_ ?_
    · refine vf_iconst C (z := 0) (zdg dz_R_soonest_0 15 rfl) (jz rfl) ?_
      refine vf_istore_n C (f := 2) (L' := [(0, (2, 44)), (1, (0, v1))]) (zdg dz_R_soonest_0 16 rfl) [0, 1] (jrI rfl rfl) hn (by decide) rfl ?_
      refine vf_iconst C (z := 0) (zdg dz_R_soonest_0 17 rfl) (jz rfl) ?_
      refine vf_istore_n C (f := 3) (L' := [(2, (0, 0)), (0, (2, 44)), (1, (0, v1))]) (zdg dz_R_soonest_0 18 rfl) [0, 1, 2] (jrI rfl rfl) hn (by decide) rfl ?_
      exact vf_perm [2, 3, 1, 0] rfl (t_R_soonest_30 C hn hR hr FU _ _ _ _)
    · refine vf_bipush C (z := (-3)) (zdg dz_R_soonest_0 13 rfl) (by decide +kernel) (jz rfl) ?_
      exact hr _ _ _ _ (fun h => absurd h (by decide)) (zdg dz_R_soonest_0 14 rfl)
  · refine vf_iconst C (z := (-1)) (zdg dz_R_soonest_0 7 rfl) (jz rfl) ?_
    exact hr _ _ _ _ (fun h => absurd h (by decide)) (zdg dz_R_soonest_0 8 rfl)
def f_R_lastWith (v1 : Int) (w : Wd) : Option (Int × Wd) :=
  jcall (f_R_findStates v1 w) fun r1 u2 =>
  if r1 = 0 then
    some ((-3), u2)
  else
    jcall (f_R_all u2) fun r3 u4 =>
    jcall (f_R_findLife r3 u4) fun r5 u6 =>
    jgd ((0 : Int) ≤ (0 : Int) ∧ (0 : Int) < 3000) <|
    if (0 : Int) ≤ (u6 71 (0 : Int).toNat) then
      jgd ((0 : Int) ≤ (0 : Int) ∧ (0 : Int) < 3000) <|
      some (u6 71 (0 : Int).toNat, u6)
    else
      some ((-2), u6)
theorem ct_R_lastWith (v1 : Int) (w : Wd) : Ct y_R_lastWith prog_14_method_89_code 2 (some .int) 20 0 [(2, 44), (0, v1)] w (f_R_lastWith v1 w) := by
  refine ct_of (by decide +kernel) (Or.inl ⟨rfl, rfl⟩) (Nat.le_of_ble_eq_true rfl) ?_
  intro X Qf ad C hn hR hr
  unfold f_R_lastWith
  show VF X Qf ad NF 0 0 w 0 [(0, (2, 44)), (1, (0, v1))] [] _
  refine vf_aload_n C (f := 0) (zdg dz_R_lastWith_0 0 rfl) 0 rfl rfl ?_
  refine vf_iload_n C (f := 1) (zdg dz_R_lastWith_0 1 rfl) 1 rfl rfl ?_
  refine vf_callVz C cy_R_findStates ml_R_342 rfl (ct_R_findStates _ _) (S := []) sh_43 (by decide) rfl (jrm_of hR rfl) rfl rfl (Nat.le_of_ble_eq_true rfl) (zdg dz_R_lastWith_0 2 rfl) (fun r1 u2 => ?_)
  refine vf_if_ne C (off := 6) (tgt := 11) (zdg dz_R_lastWith_0 3 rfl) (by decide) ?_ ?_
  · refine vf_aload_n C (f := 0) (zdg dz_R_lastWith_0 6 rfl) 0 rfl rfl ?_
    refine vf_aload_n C (f := 0) (zdg dz_R_lastWith_0 7 rfl) 0 rfl rfl ?_
    refine vf_callVi C cy_R_all ml_R_370 rfl (ct_R_all _) (S := [(2, 44)]) sh_43 (by decide) rfl (jrm_of hR rfl) rfl rfl (Nat.le_of_ble_eq_true rfl) (zdg dz_R_lastWith_0 8 rfl) (fun r3 u4 => ?_)
    refine vf_callVv C cy_R_findLife ml_R_373 rfl (ct_R_findLife _ _) (S := []) sh_43 (by decide) rfl (jrm_of hR rfl) rfl rfl (Nat.le_of_ble_eq_true rfl) (zdg dz_R_lastWith_0 9 rfl) (fun r5 u6 => ?_)
    refine vf_aload_n C (f := 0) (zdg dz_R_lastWith_0 10 rfl) 0 rfl rfl ?_
    refine vf_getp C fl_R_104 sh_43 rfl (by decide) rfl (x := 72) rfl (zdg dz_R_lastWith_0 11 rfl) ?_
    refine vf_iconst C (z := 0) (zdg dz_R_lastWith_0 12 rfl) (jz rfl) ?_
    refine vf_iald C sh_71 (by decide) rfl (mz := 3000) rfl (zdg dz_R_lastWith_0 13 rfl) ?_
    refine vf_if_ge C (off := 8) (tgt := 33) (zdg dz_R_lastWith_0 14 rfl) (by decide) ?_ ?_
    · refine vf_aload_n C (f := 0) (zdg dz_R_lastWith_0 17 rfl) 0 rfl rfl ?_
      refine vf_getp C fl_R_104 sh_43 rfl (by decide) rfl (x := 72) rfl (zdg dz_R_lastWith_0 18 rfl) ?_
      refine vf_iconst C (z := 0) (zdg dz_R_lastWith_0 19 rfl) (jz rfl) ?_
      refine vf_iald C sh_71 (by decide) rfl (mz := 3000) rfl (zdg dz_R_lastWith_0 20 rfl) ?_
      exact hr _ _ _ _ (fun h => absurd h (by decide)) (zdg dz_R_lastWith_0 21 rfl)
    · refine vf_bipush C (z := (-2)) (zdg dz_R_lastWith_0 15 rfl) (by decide +kernel) (jz rfl) ?_
      refine vf_goto C (off := 9) (tgt := 39) (zdg dz_R_lastWith_0 16 rfl) (by decide) ?_
      exact hr _ _ _ _ (fun h => absurd h (by decide)) (zdg dz_R_lastWith_0 21 rfl)
  · refine vf_bipush C (z := (-3)) (zdg dz_R_lastWith_0 4 rfl) (by decide +kernel) (jz rfl) ?_
    exact hr _ _ _ _ (fun h => absurd h (by decide)) (zdg dz_R_lastWith_0 5 rfl)
def f_R_worth (v1 : Int) (w : Wd) : Option (Int × Wd) :=
  jlw (st w 43 16 0) fun u1 =>
  jcall (f_R_isOne v1 u1) fun r2 u3 =>
  if r2 = 0 then
    some ((-1), u3)
  else
    jgd ((0 : Int) ≤ v1 ∧ v1 < 10) <|
    if (u3 47 v1.toNat) = 0 then
      jgd ((0 : Int) ≤ v1 ∧ v1 < 10) <|
      if (u3 46 v1.toNat) = 0 then
        jcall (f_R_lastWith 0 u3) fun r4 u5 =>
        if (0 : Int) ≤ r4 then
          jcall (f_R_lastWith (ishl 1 v1) u5) fun r6 u7 =>
          some (w32 (r4 - r6), u7)
        else
          some (r4, u5)
      else
        some ((-1), u3)
    else
      some ((-1), u3)
theorem ct_R_worth (v1 : Int) (w : Wd) : Ct y_R_worth prog_14_method_90_code 3 (some .int) 21 0 [(2, 44), (0, v1)] w (f_R_worth v1 w) := by
  refine ct_of (by decide +kernel) (Or.inl ⟨rfl, rfl⟩) (Nat.le_of_ble_eq_true rfl) ?_
  intro X Qf ad C hn hR hr
  unfold f_R_worth
  show VF X Qf ad NF 0 0 w 0 [(0, (2, 44)), (1, (0, v1))] [] _
  refine vf_aload_n C (f := 0) (zdg dz_R_worth_0 0 rfl) 0 rfl rfl ?_
  refine vf_iconst C (z := 0) (zdg dz_R_worth_0 1 rfl) (jz rfl) ?_
  refine vf_put C (kd := 0) fl_R_138 fk_11_16 sh_43 rfl (by decide) rfl rfl (by decide) (zdg dz_R_worth_0 2 rfl) ?_
  generalize st w 43 16 0 = u1
  refine vf_uw ?_
  refine vf_aload_n C (f := 0) (zdg dz_R_worth_0 3 rfl) 0 rfl rfl ?_
  refine vf_iload_n C (f := 1) (zdg dz_R_worth_0 4 rfl) 1 rfl rfl ?_
  refine vf_callVz C cy_R_isOne ml_R_151 rfl (ct_R_isOne _ _) (S := []) sh_43 (by decide) rfl (jrm_of hR rfl) rfl rfl (Nat.le_of_ble_eq_true rfl) (zdg dz_R_worth_0 5 rfl) (fun r2 u3 => ?_)
  refine vf_if_eq C (off := 21) (tgt := 31) (zdg dz_R_worth_0 6 rfl) (by decide) ?_ ?_
  · refine vf_iconst C (z := (-1)) (zdg dz_R_worth_0 17 rfl) (jz rfl) ?_
    exact hr _ _ _ _ (fun h => absurd h (by decide)) (zdg dz_R_worth_0 18 rfl)
  · refine vf_aload_n C (f := 0) (zdg dz_R_worth_0 7 rfl) 0 rfl rfl ?_
    refine vf_getp C fl_R_20 sh_43 rfl (by decide) rfl (x := 48) rfl (zdg dz_R_worth_0 8 rfl) ?_
    refine vf_iload_n C (f := 1) (zdg dz_R_worth_0 9 rfl) 1 rfl rfl ?_
    refine vf_iald C sh_47 (by decide) rfl (mz := 10) rfl (zdg dz_R_worth_0 10 rfl) ?_
    refine vf_if_ne C (off := 12) (tgt := 31) (zdg dz_R_worth_0 11 rfl) (by decide) ?_ ?_
    · refine vf_iconst C (z := (-1)) (zdg dz_R_worth_0 17 rfl) (jz rfl) ?_
      exact hr _ _ _ _ (fun h => absurd h (by decide)) (zdg dz_R_worth_0 18 rfl)
    · refine vf_aload_n C (f := 0) (zdg dz_R_worth_0 12 rfl) 0 rfl rfl ?_
      refine vf_getp C fl_R_16 sh_43 rfl (by decide) rfl (x := 47) rfl (zdg dz_R_worth_0 13 rfl) ?_
      refine vf_iload_n C (f := 1) (zdg dz_R_worth_0 14 rfl) 1 rfl rfl ?_
      refine vf_zald C sh_46 (by decide) rfl (mz := 10) rfl (zdg dz_R_worth_0 15 rfl) ?_
      refine vf_if_eq C (off := 5) (tgt := 33) (zdg dz_R_worth_0 16 rfl) (by decide) ?_ ?_
      · refine vf_aload_n C (f := 0) (zdg dz_R_worth_0 19 rfl) 0 rfl rfl ?_
        refine vf_iconst C (z := 0) (zdg dz_R_worth_0 20 rfl) (jz rfl) ?_
        refine vf_callVi C cy_R_lastWith ml_R_398 rfl (ct_R_lastWith _ _) (S := []) sh_43 (by decide) rfl (jrm_of hR rfl) rfl rfl (Nat.le_of_ble_eq_true rfl) (zdg dz_R_worth_0 21 rfl) (fun r4 u5 => ?_)
        refine vf_istore_n C (f := 2) (L' := [(0, (2, 44)), (1, (0, v1))]) (zdg dz_R_worth_0 22 rfl) [0, 1] (jrI rfl rfl) hn (by decide) rfl ?_
        refine vf_iload_n C (f := 2) (zdg dz_R_worth_0 23 rfl) 0 rfl rfl ?_
        refine vf_if_ge C (off := 7) (tgt := 47) (zdg dz_R_worth_1 0 rfl) (by decide) ?_ ?_
        · refine vf_iload_n C (f := 2) (zdg dz_R_worth_1 3 rfl) 0 rfl rfl ?_
          refine vf_aload_n C (f := 0) (zdg dz_R_worth_1 4 rfl) 1 rfl rfl ?_
          refine vf_iconst C (z := 1) (zdg dz_R_worth_1 5 rfl) (jz rfl) ?_
          refine vf_iload_n C (f := 1) (zdg dz_R_worth_1 6 rfl) 2 rfl rfl ?_
          refine vf_ishl C (zdg dz_R_worth_1 7 rfl) ?_
          refine vf_callVi C cy_R_lastWith ml_R_398 rfl (ct_R_lastWith _ _) (S := [(0, r4)]) sh_43 (by decide) rfl (jrm_of hR rfl) rfl rfl (Nat.le_of_ble_eq_true rfl) (zdg dz_R_worth_1 8 rfl) (fun r6 u7 => ?_)
          refine vf_isub C (zdg dz_R_worth_1 9 rfl) ?_
          exact hr _ _ _ _ (fun h => absurd h (by decide)) (zdg dz_R_worth_1 10 rfl)
        · refine vf_iload_n C (f := 2) (zdg dz_R_worth_1 1 rfl) 0 rfl rfl ?_
          refine vf_goto C (off := 12) (tgt := 56) (zdg dz_R_worth_1 2 rfl) (by decide) ?_
          exact hr _ _ _ _ (fun h => absurd h (by decide)) (zdg dz_R_worth_1 10 rfl)
      · refine vf_iconst C (z := (-1)) (zdg dz_R_worth_0 17 rfl) (jz rfl) ?_
        exact hr _ _ _ _ (fun h => absurd h (by decide)) (zdg dz_R_worth_0 18 rfl)
def f_R_needed_57 (k21 : Int → Int → Int → Wd → Option (Int × Wd)) (v1 v2 v3 : Int) (w : Wd) : Option (Int × Wd) :=
  jlet (w32 (v3 + 1)) fun x8 =>
  k21 v1 v2 x8 w
theorem t_R_needed_57 {X : jX} {Qf : Int × Wd → State → Prop} {ad : Nat → Nat} (C : Cx X prog_14_method_91_code "EachBringsAnotherModel") (hn : xn X = 4) (hR : xR X = rmD 21) (hr : Rt X Qf ad prog_14_method_91_code 0) {k21 : Int → Int → Int → Wd → Option (Int × Wd)} (hk21 : ∀ (v1 v2 v3 : Int) (w : Wd), VF X Qf ad NF 0 0 w 21 [(0, (2, 44)), (1, (0, v1)), (2, (0, v2)), (3, (0, v3))] [] (k21 v1 v2 v3 w)) (v1 v2 v3 : Int) (w : Wd) : VF X Qf ad NF 0 0 w 57 [(0, (2, 44)), (1, (0, v1)), (2, (0, v2)), (3, (0, v3))] [] (f_R_needed_57 k21 v1 v2 v3 w) := by
  unfold f_R_needed_57
  refine vf_iinc C (z := 1) (L' := [(0, (2, 44)), (1, (0, v1)), (2, (0, v2))]) (zdg dz_R_needed_1 13 rfl) 3 rfl [0, 1, 2] (jrI rfl rfl) hn (by decide) ?_
  generalize w32 (v3 + 1) = x8
  refine vf_ul ?_
  refine vf_goto C (off := (-39)) (tgt := 21) (zdg dz_R_needed_1 14 rfl) (by decide) ?_
  exact vf_perm [1, 2, 3, 0] rfl (hk21 _ _ _ _)
def f_R_needed_21 : Nat → Int → Int → Int → Wd → Option (Int × Wd)
  | 0, _, _, _, _ => none
  | n + 1, v1, v2, v3, w =>
    if (w 43 0) ≤ v3 then
      some (v2, w)
    else
      jcall (f_R_free w) fun r4 u5 =>
      jcall (f_R_has r4 v3 u5) fun r6 u7 =>
      if r6 = 0 then
        f_R_needed_57 (f_R_needed_21 n) v1 v2 v3 u7
      else
        jcall (f_R_lastWith (ishl 1 v3) u7) fun r9 u10 =>
        if v1 ≤ r9 then
          f_R_needed_57 (f_R_needed_21 n) v1 v2 v3 u10
        else
          jlet (ior v2 (ishl 1 v3)) fun x11 =>
          f_R_needed_57 (f_R_needed_21 n) v1 x11 v3 u10
theorem t_R_needed_21 {X : jX} {Qf : Int × Wd → State → Prop} {ad : Nat → Nat} (C : Cx X prog_14_method_91_code "EachBringsAnotherModel") (hn : xn X = 4) (hR : xR X = rmD 21) (hr : Rt X Qf ad prog_14_method_91_code 0) : ∀ (n : Nat) (v1 v2 v3 : Int) (w : Wd), VF X Qf ad NF 0 0 w 21 [(0, (2, 44)), (1, (0, v1)), (2, (0, v2)), (3, (0, v3))] [] (f_R_needed_21 n v1 v2 v3 w) := by
  intro n
  induction n with
  | zero => intros; exact vf_no
  | succ n ih =>
    intro v1 v2 v3 w
    rw [f_R_needed_21]
    refine vf_iload_n C (f := 3) (zdg dz_R_needed_0 15 rfl) 3 rfl rfl ?_
    refine vf_aload_n C (f := 0) (zdg dz_R_needed_0 16 rfl) 0 rfl rfl ?_
    refine vf_get C (kd := 0) fl_R_144 sh_43 rfl (by decide) rfl rfl (zdg dz_R_needed_0 17 rfl) ?_
    refine vf_icmp_ge C (off := 37) (tgt := 63) (zdg dz_R_needed_0 18 rfl) (by decide) ?_ ?_
    · refine vf_iload_n C (f := 2) (zdg dz_R_needed_1 15 rfl) 2 rfl rfl ?_
      exact hr _ _ _ _ (fun h => absurd h (by decide)) (zdg dz_R_needed_1 16 rfl)
    · refine vf_aload_n C (f := 0) (zdg dz_R_needed_0 19 rfl) 0 rfl rfl ?_
      refine vf_callVi C cy_R_free ml_R_286 rfl (ct_R_free _) (S := []) sh_43 (by decide) rfl (jrm_of hR rfl) rfl rfl (Nat.le_of_ble_eq_true rfl) (zdg dz_R_needed_0 20 rfl) (fun r4 u5 => ?_)
      refine vf_iload_n C (f := 3) (zdg dz_R_needed_0 21 rfl) 3 rfl rfl ?_
      refine vf_callSz C cy_R_has ml_R_210 (ct_R_has _ _ _) (S := []) (jrm_of hR rfl) rfl rfl (Nat.le_of_ble_eq_true rfl) (zdg dz_R_needed_0 22 rfl) (fun r6 u7 => ?_)
      refine vf_if_eq C (off := 20) (tgt := 57) (zdg dz_R_needed_0 23 rfl) (by decide) ?_ ?_
      · exact t_R_needed_57 C hn hR hr ih _ _ _ _
      · refine vf_aload_n C (f := 0) (zdg dz_R_needed_1 0 rfl) 0 rfl rfl ?_
        refine vf_iconst C (z := 1) (zdg dz_R_needed_1 1 rfl) (jz rfl) ?_
        refine vf_iload_n C (f := 3) (zdg dz_R_needed_1 2 rfl) 3 rfl rfl ?_
        refine vf_ishl C (zdg dz_R_needed_1 3 rfl) ?_
        refine vf_callVi C cy_R_lastWith ml_R_398 rfl (ct_R_lastWith _ _) (S := []) sh_43 (by decide) rfl (jrm_of hR rfl) rfl rfl (Nat.le_of_ble_eq_true rfl) (zdg dz_R_needed_1 4 rfl) (fun r9 u10 => ?_)
        refine vf_iload_n C (f := 1) (zdg dz_R_needed_1 5 rfl) 1 rfl rfl ?_
        refine vf_icmp_ge C (off := 9) (tgt := 57) (zdg dz_R_needed_1 6 rfl) (by decide) ?_ ?_
        · exact t_R_needed_57 C hn hR hr ih _ _ _ _
        · refine vf_iload_n C (f := 2) (zdg dz_R_needed_1 7 rfl) 2 rfl rfl ?_
          refine vf_iconst C (z := 1) (zdg dz_R_needed_1 8 rfl) (jz rfl) ?_
          refine vf_iload_n C (f := 3) (zdg dz_R_needed_1 9 rfl) 3 rfl rfl ?_
          refine vf_ishl C (zdg dz_R_needed_1 10 rfl) ?_
          refine vf_ior C (zdg dz_R_needed_1 11 rfl) ?_
          generalize ior v2 (ishl 1 v3) = x11
          refine vf_ul ?_
          refine vf_istore_n C (f := 2) (L' := [(0, (2, 44)), (1, (0, v1)), (3, (0, v3))]) (zdg dz_R_needed_1 12 rfl) [0, 1, 3] (jrI rfl rfl) hn (by decide) rfl ?_
          exact vf_perm [1, 2, 0, 3] rfl (t_R_needed_57 C hn hR hr ih _ _ _ _)
def f_R_needed (w : Wd) : Option (Int × Wd) :=
  jlw (st w 43 16 0) fun u1 =>
  jcall (f_R_lastWith 0 u1) fun r2 u3 =>
  if (0 : Int) ≤ r2 then
    f_R_needed_21 FU r2 0 0 u3
  else
    some (r2, u3)
theorem ct_R_needed (w : Wd) : Ct y_R_needed prog_14_method_91_code 4 (some .int) 21 0 [(2, 44)] w (f_R_needed w) := by
  refine ct_of (by decide +kernel) (Or.inl ⟨rfl, rfl⟩) (Nat.le_of_ble_eq_true rfl) ?_
  intro X Qf ad C hn hR hr
  unfold f_R_needed
  show VF X Qf ad NF 0 0 w 0 [(0, (2, 44))] [] _
  refine vf_aload_n C (f := 0) (zdg dz_R_needed_0 0 rfl) 0 rfl rfl ?_
  refine vf_iconst C (z := 0) (zdg dz_R_needed_0 1 rfl) (jz rfl) ?_
  refine vf_put C (kd := 0) fl_R_138 fk_11_16 sh_43 rfl (by decide) rfl rfl (by decide) (zdg dz_R_needed_0 2 rfl) ?_
  generalize st w 43 16 0 = u1
  refine vf_uw ?_
  refine vf_aload_n C (f := 0) (zdg dz_R_needed_0 3 rfl) 0 rfl rfl ?_
  refine vf_iconst C (z := 0) (zdg dz_R_needed_0 4 rfl) (jz rfl) ?_
  refine vf_callVi C cy_R_lastWith ml_R_398 rfl (ct_R_lastWith _ _) (S := []) sh_43 (by decide) rfl (jrm_of hR rfl) rfl rfl (Nat.le_of_ble_eq_true rfl) (zdg dz_R_needed_0 5 rfl) (fun r2 u3 => ?_)
  refine vf_istore_n C (f := 1) (L' := [(0, (2, 44))]) (zdg dz_R_needed_0 6 rfl) [0] (jrI rfl rfl) hn (by decide) rfl ?_
  refine vf_iload_n C (f := 1) (zdg dz_R_needed_0 7 rfl) 0 rfl rfl ?_
  refine vf_if_ge C (off := 5) (tgt := 17) (zdg dz_R_needed_0 8 rfl) (by decide) ?_ ?_
  · refine vf_iconst C (z := 0) (zdg dz_R_needed_0 11 rfl) (jz rfl) ?_
    refine vf_istore_n C (f := 2) (L' := [(1, (0, r2)), (0, (2, 44))]) (zdg dz_R_needed_0 12 rfl) [0, 1] (jrI rfl rfl) hn (by decide) rfl ?_
    refine vf_iconst C (z := 0) (zdg dz_R_needed_0 13 rfl) (jz rfl) ?_
    refine vf_istore_n C (f := 3) (L' := [(2, (0, 0)), (1, (0, r2)), (0, (2, 44))]) (zdg dz_R_needed_0 14 rfl) [0, 1, 2] (jrI rfl rfl) hn (by decide) rfl ?_
    exact vf_perm [3, 2, 1, 0] rfl (t_R_needed_21 C hn hR hr FU _ _ _ _)
  · refine vf_iload_n C (f := 1) (zdg dz_R_needed_0 9 rfl) 0 rfl rfl ?_
    exact hr _ _ _ _ (fun h => absurd h (by decide)) (zdg dz_R_needed_0 10 rfl)
