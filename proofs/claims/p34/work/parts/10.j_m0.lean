section
def f_T_append_19 : Nat → Int → Int → Wd → Option (Int × Wd)
  | 0, _, _, _ => none
  | n + 1, v1, v2, w =>
    if v2 < 0 then
      some (w 1 1, w)
    else
      jgd ((0 : Int) ≤ (w 1 1) ∧ (w 1 1) < 80) <|
      jlw (st w 2 (w 1 1).toNat (nc (i2c (iand (ishr v1 v2) 255)))) fun u1 =>
      jlw (st u1 1 1 (w32 ((u1 1 1) + 1))) fun u2 =>
      jlet (w32 (v2 + (-8))) fun x3 =>
      f_T_append_19 n v1 x3 u2
theorem t_T_append_19 {X : jX} {Qf : Int × Wd → State → Prop} {ad : Nat → Nat} (C : Cx X prog_10_method_2_code "EachBringsAnother$Text") (hn : xn X = 3) (hR : xR X = rmD 1) (hr : Rt X Qf ad prog_10_method_2_code 0) : ∀ (n : Nat) (v1 v2 : Int) (w : Wd), VF X Qf ad NF 0 0 w 19 [(0, (2, 2)), (1, (0, v1)), (2, (0, v2))] [] (f_T_append_19 n v1 v2 w) := by
  intro n
  induction n with
  | zero => intros; exact vf_no
  | succ n ih =>
    intro v1 v2 w
    rw [f_T_append_19]
    refine vf_iload_n C (f := 2) (zdg dz_T_append_0 12 rfl) 2 rfl rfl ?_
    refine vf_if_lt C (off := 36) (tgt := 56) (zdg dz_T_append_0 13 rfl) (by decide) ?_ ?_
    · refine vf_aload_n C (f := 0) (zdg dz_T_append_1 9 rfl) 0 rfl rfl ?_
      refine vf_get C (kd := 0) fl_T_15 sh_1 rfl (by decide) rfl rfl (zdg dz_T_append_1 10 rfl) ?_
      exact hr _ _ _ _ (fun h => absurd h (by decide)) (zdg dz_T_append_1 11 rfl)
    · refine vf_aload_n C (f := 0) (zdg dz_T_append_0 14 rfl) 0 rfl rfl ?_
      refine vf_getp C fl_T_9 sh_1 rfl (by decide) rfl (x := 3) rfl (zdg dz_T_append_0 15 rfl) ?_
      refine vf_aload_n C (f := 0) (zdg dz_T_append_0 16 rfl) 0 rfl rfl ?_
      refine vf_get C (kd := 0) fl_T_15 sh_1 rfl (by decide) rfl rfl (zdg dz_T_append_0 17 rfl) ?_
      refine vf_iload_n C (f := 1) (zdg dz_T_append_0 18 rfl) 1 rfl rfl ?_
      refine vf_iload_n C (f := 2) (zdg dz_T_append_0 19 rfl) 2 rfl rfl ?_
      refine vf_ishr C (zdg dz_T_append_0 20 rfl) ?_
      refine vf_sipush C (z := 255) (zdg dz_T_append_0 21 rfl) (by decide +kernel) (jz rfl) ?_
      refine vf_iand C (zdg dz_T_append_0 22 rfl) ?_
      refine vf_i2c C (zdg dz_T_append_0 23 rfl) ?_
      refine vf_cast C sh_2 (by decide) rfl (mz := 80) rfl (zdg dz_T_append_1 0 rfl) ?_
      generalize st w 2 (w 1 1).toNat (nc (i2c (iand (ishr v1 v2) 255))) = u1
      refine vf_uw ?_
      refine vf_aload_n C (f := 0) (zdg dz_T_append_1 1 rfl) 0 rfl rfl ?_
      refine vf_dup C (zdg dz_T_append_1 2 rfl) (Nat.succ_ne_self 1) ?_
      refine vf_get C (kd := 0) fl_T_15 sh_1 rfl (by decide) rfl rfl (zdg dz_T_append_1 3 rfl) ?_
      refine vf_iconst C (z := 1) (zdg dz_T_append_1 4 rfl) (jz rfl) ?_
      refine vf_iadd C (zdg dz_T_append_1 5 rfl) ?_
      refine vf_put C (kd := 0) fl_T_15 fk_0_1 sh_1 rfl (by decide) rfl rfl (by decide) (zdg dz_T_append_1 6 rfl) ?_
      generalize st u1 1 1 (w32 ((u1 1 1) + 1)) = u2
      refine vf_uw ?_
      refine vf_iinc C (z := (-8)) (L' := [(0, (2, 2)), (1, (0, v1))]) (zdg dz_T_append_1 7 rfl) 2 rfl [0, 1] (jrI rfl rfl) hn (by decide) ?_
      generalize w32 (v2 + (-8)) = x3
      refine vf_ul ?_
      refine vf_goto C (off := (-34)) (tgt := 19) (zdg dz_T_append_1 8 rfl) (by decide) ?_
      exact vf_perm [1, 2, 0] rfl (ih _ _ _)
def f_T_append (v1 : Int) (w : Wd) : Option (Int × Wd) :=
  if (w32 ((w 1 1) + 4)) ≤ 80 then
    f_T_append_19 FU v1 24 w
  else
    some ((-1), w)
theorem ct_T_append (v1 : Int) (w : Wd) : Ct y_T_append prog_10_method_2_code 3 (some .int) 1 0 [(2, 2), (0, v1)] w (f_T_append v1 w) := by
  refine ct_of (by decide +kernel) (Or.inl ⟨rfl, rfl⟩) (Nat.le_of_ble_eq_true rfl) ?_
  intro X Qf ad C hn hR hr
  unfold f_T_append
  show VF X Qf ad NF 0 0 w 0 [(0, (2, 2)), (1, (0, v1))] [] _
  refine vf_aload_n C (f := 0) (zdg dz_T_append_0 0 rfl) 0 rfl rfl ?_
  refine vf_get C (kd := 0) fl_T_15 sh_1 rfl (by decide) rfl rfl (zdg dz_T_append_0 1 rfl) ?_
  refine vf_iconst C (z := 4) (zdg dz_T_append_0 2 rfl) (jz rfl) ?_
  refine vf_iadd C (zdg dz_T_append_0 3 rfl) ?_
  refine vf_aload_n C (f := 0) (zdg dz_T_append_0 4 rfl) 0 rfl rfl ?_
  refine vf_getp C fl_T_9 sh_1 rfl (by decide) rfl (x := 3) rfl (zdg dz_T_append_0 5 rfl) ?_
  refine vf_alen C sh_2 (by decide) (by decide) rfl (x := 80) rfl (jz rfl) (zdg dz_T_append_0 6 rfl) ?_
  refine vf_icmp_le C (off := 5) (tgt := 16) (zdg dz_T_append_0 7 rfl) (by decide) ?_ ?_
  · refine vf_bipush C (z := 24) (zdg dz_T_append_0 10 rfl) (by decide +kernel) (jz rfl) ?_
    refine vf_istore_n C (f := 2) (L' := [(0, (2, 2)), (1, (0, v1))]) (zdg dz_T_append_0 11 rfl) [0, 1] (jrI rfl rfl) hn (by decide) rfl ?_
    exact vf_perm [1, 2, 0] rfl (t_T_append_19 C hn hR hr FU _ _ _)
  · refine vf_iconst C (z := (-1)) (zdg dz_T_append_0 8 rfl) (jz rfl) ?_
    exact hr _ _ _ _ (fun h => absurd h (by decide)) (zdg dz_T_append_0 9 rfl)
def f_E_sign (v1 : Int) (w : Wd) : Option (Int × Wd) :=
  jcall (f_T_append v1 w) fun r1 u2 =>
  some (r1, u2)
theorem ct_E_sign (v1 : Int) (w : Wd) : Ct y_E_sign prog_1_method_2_code 2 (some .int) 2 0 [(2, 1), (0, v1)] w (f_E_sign v1 w) := by
  refine ct_of (by decide +kernel) (Or.inl ⟨rfl, rfl⟩) (Nat.le_of_ble_eq_true rfl) ?_
  intro X Qf ad C hn hR hr
  unfold f_E_sign
  show VF X Qf ad NF 0 0 w 0 [(0, (2, 1)), (1, (0, v1))] [] _
  refine vf_aload_n C (f := 0) (zdg dz_E_sign_0 0 rfl) 0 rfl rfl ?_
  refine vf_getp C fl_E_12 sh_0 rfl (by decide) rfl (x := 2) rfl (zdg dz_E_sign_0 1 rfl) ?_
  refine vf_iload_n C (f := 1) (zdg dz_E_sign_0 2 rfl) 1 rfl rfl ?_
  refine vf_callVi C cy_T_append ml_E_79 rfl (ct_T_append _ _) (S := []) sh_1 (by decide) rfl (jrm_of hR rfl) rfl rfl (Nat.le_of_ble_eq_true rfl) (zdg dz_E_sign_0 3 rfl) (fun r1 u2 => ?_)
  exact hr _ _ _ _ (fun h => absurd h (by decide)) (zdg dz_E_sign_0 4 rfl)
def f_T_cut (v1 : Int) (w : Wd) : Option (Int × Wd) :=
  if v1 < 0 then
    some (0, w)
  else
    if v1 ≤ (w 1 1) then
      jlw (st w 1 1 v1) fun u1 =>
      some (1, u1)
    else
      some (0, w)
theorem ct_T_cut (v1 : Int) (w : Wd) : Ct y_T_cut prog_10_method_3_code 2 (some .boolean) 1 4 [(2, 2), (0, v1)] w (f_T_cut v1 w) := by
  refine ct_of (by decide +kernel) (Or.inr (Or.inr (Or.inl ⟨rfl, rfl⟩))) (Nat.le_of_ble_eq_true rfl) ?_
  intro X Qf ad C hn hR hr
  unfold f_T_cut
  show VF X Qf ad NF 0 0 w 0 [(0, (2, 2)), (1, (0, v1))] [] _
  refine vf_iload_n C (f := 1) (zdg dz_T_cut_0 0 rfl) 1 rfl rfl ?_
  refine vf_if_lt C (off := 11) (tgt := 12) (zdg dz_T_cut_0 1 rfl) (by decide) ?_ ?_
  · refine vf_iconst C (z := 0) (zdg dz_T_cut_0 6 rfl) (jz rfl) ?_
    exact hr _ _ _ _ (fun _ => Or.inl rfl) (zdg dz_T_cut_0 7 rfl)
  · refine vf_iload_n C (f := 1) (zdg dz_T_cut_0 2 rfl) 1 rfl rfl ?_
    refine vf_aload_n C (f := 0) (zdg dz_T_cut_0 3 rfl) 0 rfl rfl ?_
    refine vf_get C (kd := 0) fl_T_15 sh_1 rfl (by decide) rfl rfl (zdg dz_T_cut_0 4 rfl) ?_
    refine vf_icmp_le C (off := 5) (tgt := 14) (zdg dz_T_cut_0 5 rfl) (by decide) ?_ ?_
    · refine vf_aload_n C (f := 0) (zdg dz_T_cut_0 8 rfl) 0 rfl rfl ?_
      refine vf_iload_n C (f := 1) (zdg dz_T_cut_0 9 rfl) 1 rfl rfl ?_
      refine vf_put C (kd := 0) fl_T_15 fk_0_1 sh_1 rfl (by decide) rfl rfl (by decide) (zdg dz_T_cut_0 10 rfl) ?_
      generalize st w 1 1 v1 = u1
      refine vf_uw ?_
      refine vf_iconst C (z := 1) (zdg dz_T_cut_0 11 rfl) (jz rfl) ?_
      exact hr _ _ _ _ (fun _ => Or.inr rfl) (zdg dz_T_cut_0 12 rfl)
    · refine vf_iconst C (z := 0) (zdg dz_T_cut_0 6 rfl) (jz rfl) ?_
      exact hr _ _ _ _ (fun _ => Or.inl rfl) (zdg dz_T_cut_0 7 rfl)
def f_E_end (v1 : Int) (w : Wd) : Option (Int × Wd) :=
  jcall (f_T_cut v1 w) fun r1 u2 =>
  if r1 = 0 ∨ r1 = 1 then some (r1, u2) else none
theorem ct_E_end (v1 : Int) (w : Wd) : Ct y_E_end prog_1_method_3_code 2 (some .boolean) 2 4 [(2, 1), (0, v1)] w (f_E_end v1 w) := by
  refine ct_of (by decide +kernel) (Or.inr (Or.inr (Or.inl ⟨rfl, rfl⟩))) (Nat.le_of_ble_eq_true rfl) ?_
  intro X Qf ad C hn hR hr
  unfold f_E_end
  show VF X Qf ad NF 0 0 w 0 [(0, (2, 1)), (1, (0, v1))] [] _
  refine vf_aload_n C (f := 0) (zdg dz_E_end_0 0 rfl) 0 rfl rfl ?_
  refine vf_getp C fl_E_12 sh_0 rfl (by decide) rfl (x := 2) rfl (zdg dz_E_end_0 1 rfl) ?_
  refine vf_iload_n C (f := 1) (zdg dz_E_end_0 2 rfl) 1 rfl rfl ?_
  refine vf_callVz C cy_T_cut ml_E_83 rfl (ct_T_cut _ _) (S := []) sh_1 (by decide) rfl (jrm_of hR rfl) rfl rfl (Nat.le_of_ble_eq_true rfl) (zdg dz_E_end_0 3 rfl) (fun r1 u2 => ?_)
  refine vf_if _ (fun h => ?_) (fun _ => vf_no)
  exact hr _ _ _ _ (fun _ => h) (zdg dz_E_end_0 4 rfl)
def f_T_signAt (v1 v2 : Int) (w : Wd) : Option (Int × Wd) :=
  if v1 < 0 then
    some ((-1), w)
  else
    if v1 < (w 1 1) then
      if v1 < v2 then
        jgd ((0 : Int) ≤ v1 ∧ v1 < 80) <|
        some (w 2 v1.toNat, w)
      else
        some ((-2), w)
    else
      some ((-1), w)
theorem ct_T_signAt (v1 v2 : Int) (w : Wd) : Ct y_T_signAt prog_10_method_5_code 3 (some .int) 1 0 [(2, 2), (0, v1), (0, v2)] w (f_T_signAt v1 v2 w) := by
  refine ct_of (by decide +kernel) (Or.inl ⟨rfl, rfl⟩) (Nat.le_of_ble_eq_true rfl) ?_
  intro X Qf ad C hn hR hr
  unfold f_T_signAt
  show VF X Qf ad NF 0 0 w 0 [(0, (2, 2)), (1, (0, v1)), (2, (0, v2))] [] _
  refine vf_iload_n C (f := 1) (zdg dz_T_signAt_0 0 rfl) 1 rfl rfl ?_
  refine vf_if_lt C (off := 11) (tgt := 12) (zdg dz_T_signAt_0 1 rfl) (by decide) ?_ ?_
  · refine vf_iconst C (z := (-1)) (zdg dz_T_signAt_0 6 rfl) (jz rfl) ?_
    exact hr _ _ _ _ (fun h => absurd h (by decide)) (zdg dz_T_signAt_0 7 rfl)
  · refine vf_iload_n C (f := 1) (zdg dz_T_signAt_0 2 rfl) 1 rfl rfl ?_
    refine vf_aload_n C (f := 0) (zdg dz_T_signAt_0 3 rfl) 0 rfl rfl ?_
    refine vf_get C (kd := 0) fl_T_15 sh_1 rfl (by decide) rfl rfl (zdg dz_T_signAt_0 4 rfl) ?_
    refine vf_icmp_lt C (off := 5) (tgt := 14) (zdg dz_T_signAt_0 5 rfl) (by decide) ?_ ?_
    · refine vf_iload_n C (f := 1) (zdg dz_T_signAt_0 8 rfl) 1 rfl rfl ?_
      refine vf_iload_n C (f := 2) (zdg dz_T_signAt_0 9 rfl) 2 rfl rfl ?_
      refine vf_icmp_lt C (off := 8) (tgt := 24) (zdg dz_T_signAt_0 10 rfl) (by decide) ?_ ?_
      · refine vf_aload_n C (f := 0) (zdg dz_T_signAt_0 13 rfl) 0 rfl rfl ?_
        refine vf_getp C fl_T_9 sh_1 rfl (by decide) rfl (x := 3) rfl (zdg dz_T_signAt_0 14 rfl) ?_
        refine vf_iload_n C (f := 1) (zdg dz_T_signAt_0 15 rfl) 1 rfl rfl ?_
        refine vf_cald C sh_2 (by decide) rfl (mz := 80) rfl (zdg dz_T_signAt_0 16 rfl) ?_
        exact hr _ _ _ _ (fun h => absurd h (by decide)) (zdg dz_T_signAt_0 17 rfl)
      · refine vf_bipush C (z := (-2)) (zdg dz_T_signAt_0 11 rfl) (by decide +kernel) (jz rfl) ?_
        refine vf_goto C (off := 9) (tgt := 30) (zdg dz_T_signAt_0 12 rfl) (by decide) ?_
        exact hr _ _ _ _ (fun h => absurd h (by decide)) (zdg dz_T_signAt_0 17 rfl)
    · refine vf_iconst C (z := (-1)) (zdg dz_T_signAt_0 6 rfl) (jz rfl) ?_
      exact hr _ _ _ _ (fun h => absurd h (by decide)) (zdg dz_T_signAt_0 7 rfl)
def f_L_take_34 (v3 s1 s2 : Int) (w : Wd) : Option (Int × Wd) :=
  jlw (st w 9 5 (w32 (s1 + s2))) fun u3 =>
  if v3 = 0 ∨ v3 = 1 then some (v3, u3) else none
theorem t_L_take_34 {X : jX} {Qf : Int × Wd → State → Prop} {ad : Nat → Nat} (C : Cx X prog_5_method_4_code "EachBringsAnother$Lines") (hn : xn X = 4) (hR : xR X = rmD 2) (hr : Rt X Qf ad prog_5_method_4_code 4) (v3 s1 s2 : Int) (w : Wd) : VF X Qf ad NF 0 0 w 34 [(3, (0, v3))] [(0, s2), (0, s1), (2, 10)] (f_L_take_34 v3 s1 s2 w) := by
  unfold f_L_take_34
  refine vf_iadd C (zdg dz_L_take_0 19 rfl) ?_
  refine vf_put C (kd := 0) fl_L_28 fk_3_5 sh_9 rfl (by decide) rfl rfl (by decide) (zdg dz_L_take_0 20 rfl) ?_
  generalize st w 9 5 (w32 (s1 + s2)) = u3
  refine vf_uw ?_
  refine vf_iload_n C (f := 3) (zdg dz_L_take_0 21 rfl) 0 rfl rfl ?_
  refine vf_if _ (fun h => ?_) (fun _ => vf_no)
  exact hr _ _ _ _ (fun _ => h) (zdg dz_L_take_0 22 rfl)
def f_L_take_19 (s0 : Int) (w : Wd) : Option (Int × Wd) :=
  if s0 = 0 then
    f_L_take_34 s0 (w 9 5) 0 w
  else
    f_L_take_34 s0 (w 9 5) 1 w
theorem t_L_take_19 {X : jX} {Qf : Int × Wd → State → Prop} {ad : Nat → Nat} (C : Cx X prog_5_method_4_code "EachBringsAnother$Lines") (hn : xn X = 4) (hR : xR X = rmD 2) (hr : Rt X Qf ad prog_5_method_4_code 4) (s0 : Int) (w : Wd) : VF X Qf ad NF 0 0 w 19 [(0, (2, 10))] [(0, s0)] (f_L_take_19 s0 w) := by
  unfold f_L_take_19
  refine vf_istore_n C (f := 3) (L' := [(0, (2, 10))]) (zdg dz_L_take_0 10 rfl) [0] (jrI rfl rfl) hn (by decide) rfl ?_
  refine vf_aload_n C (f := 0) (zdg dz_L_take_0 11 rfl) 1 rfl rfl ?_
  refine vf_dup C (zdg dz_L_take_0 12 rfl) (Nat.succ_ne_self 1) ?_
  refine vf_get C (kd := 0) fl_L_28 sh_9 rfl (by decide) rfl rfl (zdg dz_L_take_0 13 rfl) ?_
  refine vf_iload_n C (f := 3) (zdg dz_L_take_0 14 rfl) 0 rfl rfl ?_
  refine vf_if_eq C (off := 7) (tgt := 33) (zdg dz_L_take_0 15 rfl) (by decide) ?_ ?_
  · refine vf_iconst C (z := 0) (zdg dz_L_take_0 18 rfl) (jz rfl) ?_
    exact vf_perm [0] rfl (t_L_take_34 C hn hR hr _ _ _ _)
  · refine vf_iconst C (z := 1) (zdg dz_L_take_0 16 rfl) (jz rfl) ?_
    refine vf_goto C (off := 4) (tgt := 34) (zdg dz_L_take_0 17 rfl) (by decide) ?_
    exact vf_perm [0] rfl (t_L_take_34 C hn hR hr _ _ _ _)
def f_L_take (v2 : Int) (w : Wd) : Option (Int × Wd) :=
  jcall (f_T_signAt (w 9 5) 76 w) fun r1 u2 =>
  if r1 = v2 then
    f_L_take_19 1 u2
  else
    f_L_take_19 0 u2
theorem ct_L_take (v2 : Int) (w : Wd) : Ct y_L_take prog_5_method_4_code 4 (some .boolean) 2 4 [(2, 10), (2, 2), (0, v2)] w (f_L_take v2 w) := by
  refine ct_of (by decide +kernel) (Or.inr (Or.inr (Or.inl ⟨rfl, rfl⟩))) (Nat.le_of_ble_eq_true rfl) ?_
  intro X Qf ad C hn hR hr
  unfold f_L_take
  show VF X Qf ad NF 0 0 w 0 [(0, (2, 10)), (1, (2, 2)), (2, (0, v2))] [] _
  refine vf_aload_n C (f := 1) (zdg dz_L_take_0 0 rfl) 1 rfl rfl ?_
  refine vf_aload_n C (f := 0) (zdg dz_L_take_0 1 rfl) 0 rfl rfl ?_
  refine vf_get C (kd := 0) fl_L_28 sh_9 rfl (by decide) rfl rfl (zdg dz_L_take_0 2 rfl) ?_
  refine vf_bipush C (z := 76) (zdg dz_L_take_0 3 rfl) (by decide +kernel) (jz rfl) ?_
  refine vf_callVi C cy_T_signAt ml_L_40 rfl (ct_T_signAt _ _ _) (S := []) sh_1 (by decide) rfl (jrm_of hR rfl) rfl rfl (Nat.le_of_ble_eq_true rfl) (zdg dz_L_take_0 4 rfl) (fun r1 u2 => ?_)
  refine vf_iload_n C (f := 2) (zdg dz_L_take_0 5 rfl) 2 rfl rfl ?_
  refine vf_icmp_ne C (off := 7) (tgt := 18) (zdg dz_L_take_0 6 rfl) (by decide) ?_ ?_
  · refine vf_iconst C (z := 0) (zdg dz_L_take_0 9 rfl) (jz rfl) ?_
    exact vf_perm [0] rfl (t_L_take_19 C hn hR hr _ _)
  · refine vf_iconst C (z := 1) (zdg dz_L_take_0 7 rfl) (jz rfl) ?_
    refine vf_goto C (off := 4) (tgt := 19) (zdg dz_L_take_0 8 rfl) (by decide) ?_
    exact vf_perm [0] rfl (t_L_take_19 C hn hR hr _ _)
def f_L_readLine_163 (s1 s2 : Int) (w : Wd) : Option (Int × Wd) :=
  jlw (st w 9 3 (ior s1 s2)) fun u11 =>
  jlw (st u11 9 4 (w32 ((u11 9 4) + 1))) fun u12 =>
  some (1, u12)
theorem t_L_readLine_163 {X : jX} {Qf : Int × Wd → State → Prop} {ad : Nat → Nat} (C : Cx X prog_5_method_3_code "EachBringsAnother$Lines") (hn : xn X = 5) (hR : xR X = rmD 3) (hr : Rt X Qf ad prog_5_method_3_code 4) (s1 s2 : Int) (w : Wd) : VF X Qf ad NF 0 0 w 163 [(0, (2, 10))] [(0, s2), (0, s1), (2, 10)] (f_L_readLine_163 s1 s2 w) := by
  unfold f_L_readLine_163
  refine vf_ior C (zdg dz_L_readLine_3 21 rfl) ?_
  refine vf_put C (kd := 0) fl_L_22 fk_3_3 sh_9 rfl (by decide) rfl rfl (by decide) (zdg dz_L_readLine_3 22 rfl) ?_
  generalize st w 9 3 (ior s1 s2) = u11
  refine vf_uw ?_
  refine vf_aload_n C (f := 0) (zdg dz_L_readLine_3 23 rfl) 0 rfl rfl ?_
  refine vf_dup C (zdg dz_L_readLine_4 0 rfl) (Nat.succ_ne_self 1) ?_
  refine vf_get C (kd := 0) fl_L_25 sh_9 rfl (by decide) rfl rfl (zdg dz_L_readLine_4 1 rfl) ?_
  refine vf_iconst C (z := 1) (zdg dz_L_readLine_4 2 rfl) (jz rfl) ?_
  refine vf_iadd C (zdg dz_L_readLine_4 3 rfl) ?_
  refine vf_put C (kd := 0) fl_L_25 fk_3_4 sh_9 rfl (by decide) rfl rfl (by decide) (zdg dz_L_readLine_4 4 rfl) ?_
  generalize st u11 9 4 (w32 ((u11 9 4) + 1)) = u12
  refine vf_uw ?_
  refine vf_iconst C (z := 1) (zdg dz_L_readLine_4 5 rfl) (jz rfl) ?_
  exact hr _ _ _ _ (fun _ => Or.inr rfl) (zdg dz_L_readLine_4 6 rfl)
def f_L_readLine_137 (v2 s1 s2 : Int) (w : Wd) : Option (Int × Wd) :=
  jlw (st w 9 2 (ior s1 s2)) fun u8 =>
  jcall (f_L_take 63 u8) fun r9 u10 =>
  if r9 = 0 then
    f_L_readLine_163 (u8 9 3) 0 u10
  else
    f_L_readLine_163 (u8 9 3) (ishl 1 v2) u10
theorem t_L_readLine_137 {X : jX} {Qf : Int × Wd → State → Prop} {ad : Nat → Nat} (C : Cx X prog_5_method_3_code "EachBringsAnother$Lines") (hn : xn X = 5) (hR : xR X = rmD 3) (hr : Rt X Qf ad prog_5_method_3_code 4) (v2 s1 s2 : Int) (w : Wd) : VF X Qf ad NF 0 0 w 137 [(0, (2, 10)), (1, (2, 2)), (2, (0, v2))] [(0, s2), (0, s1), (2, 10)] (f_L_readLine_137 v2 s1 s2 w) := by
  unfold f_L_readLine_137
  refine vf_ior C (zdg dz_L_readLine_3 6 rfl) ?_
  refine vf_put C (kd := 0) fl_L_18 fk_3_2 sh_9 rfl (by decide) rfl rfl (by decide) (zdg dz_L_readLine_3 7 rfl) ?_
  generalize st w 9 2 (ior s1 s2) = u8
  refine vf_uw ?_
  refine vf_aload_n C (f := 0) (zdg dz_L_readLine_3 8 rfl) 0 rfl rfl ?_
  refine vf_dup C (zdg dz_L_readLine_3 9 rfl) (Nat.succ_ne_self 1) ?_
  refine vf_get C (kd := 0) fl_L_22 sh_9 rfl (by decide) rfl rfl (zdg dz_L_readLine_3 10 rfl) ?_
  refine vf_aload_n C (f := 0) (zdg dz_L_readLine_3 11 rfl) 0 rfl rfl ?_
  refine vf_aload_n C (f := 1) (zdg dz_L_readLine_3 12 rfl) 1 rfl rfl ?_
  refine vf_bipush C (z := 63) (zdg dz_L_readLine_3 13 rfl) (by decide +kernel) (jz rfl) ?_
  refine vf_callVz C cy_L_take ml_L_44 rfl (ct_L_take _ _) (S := [(0, u8 9 3), (2, 10)]) sh_9 (by decide) rfl (jrm_of hR rfl) rfl rfl (Nat.le_of_ble_eq_true rfl) (zdg dz_L_readLine_3 14 rfl) (fun r9 u10 => ?_)
  refine vf_if_eq C (off := 9) (tgt := 162) (zdg dz_L_readLine_3 15 rfl) (by decide) ?_ ?_
  · refine vf_iconst C (z := 0) (zdg dz_L_readLine_3 20 rfl) (jz rfl) ?_
    exact vf_perm [0] rfl (t_L_readLine_163 C hn hR hr _ _ _)
  · refine vf_iconst C (z := 1) (zdg dz_L_readLine_3 16 rfl) (jz rfl) ?_
    refine vf_iload_n C (f := 2) (zdg dz_L_readLine_3 17 rfl) 2 rfl rfl ?_
    refine vf_ishl C (zdg dz_L_readLine_3 18 rfl) ?_
    refine vf_goto C (off := 4) (tgt := 163) (zdg dz_L_readLine_3 19 rfl) (by decide) ?_
    exact vf_perm [0] rfl (t_L_readLine_163 C hn hR hr _ _ _)
def f_L_readLine_107 (k70 : Int → Int → Wd → Option (Int × Wd)) (v2 v4 s1 s2 s3 : Int) (w : Wd) : Option (Int × Wd) :=
  jgd ((0 : Int) ≤ s1 ∧ s1 < 10) <|
  jlw (st w 11 s1.toNat ((ior s2 s3))) fun u16 =>
  jlet (w32 (v4 + 1)) fun x17 =>
  k70 v2 x17 u16
theorem t_L_readLine_107 {X : jX} {Qf : Int × Wd → State → Prop} {ad : Nat → Nat} (C : Cx X prog_5_method_3_code "EachBringsAnother$Lines") (hn : xn X = 5) (hR : xR X = rmD 3) (hr : Rt X Qf ad prog_5_method_3_code 4) {k70 : Int → Int → Wd → Option (Int × Wd)} (hk70 : ∀ (v2 v4 : Int) (w : Wd), VF X Qf ad NF 0 0 w 70 [(0, (2, 10)), (1, (2, 2)), (2, (0, v2)), (4, (0, v4))] [] (k70 v2 v4 w)) (v2 v4 s1 s2 s3 : Int) (w : Wd) : VF X Qf ad NF 0 0 w 107 [(0, (2, 10)), (1, (2, 2)), (2, (0, v2)), (4, (0, v4))] [(0, s3), (0, s2), (0, s1), (2, 12)] (f_L_readLine_107 k70 v2 v4 s1 s2 s3 w) := by
  unfold f_L_readLine_107
  refine vf_ior C (zdg dz_L_readLine_2 13 rfl) ?_
  refine vf_iast C sh_11 (by decide) rfl (mz := 10) rfl (zdg dz_L_readLine_2 14 rfl) ?_
  generalize st w 11 s1.toNat ((ior s2 s3)) = u16
  refine vf_uw ?_
  refine vf_iinc C (z := 1) (L' := [(0, (2, 10)), (1, (2, 2)), (2, (0, v2))]) (zdg dz_L_readLine_2 15 rfl) 3 rfl [0, 1, 2] (jrI rfl rfl) hn (by decide) ?_
  generalize w32 (v4 + 1) = x17
  refine vf_ul ?_
  refine vf_goto C (off := (-42)) (tgt := 70) (zdg dz_L_readLine_2 16 rfl) (by decide) ?_
  exact vf_perm [1, 2, 3, 0] rfl (hk70 _ _ _)
def f_L_readLine_70 : Nat → Int → Int → Wd → Option (Int × Wd)
  | 0, _, _, _ => none
  | n + 1, v2, v4, w =>
    if v2 ≤ v4 then
      jcall (f_L_take 33 w) fun r6 u7 =>
      if r6 = 0 then
        f_L_readLine_137 v2 (w 9 2) 0 u7
      else
        f_L_readLine_137 v2 (w 9 2) (ishl 1 v2) u7
    else
      jlet (w 9 4) fun x13 =>
      jgd ((0 : Int) ≤ x13 ∧ x13 < 10) <|
      jcall (f_L_take (w32 (97 + v4)) w) fun r14 u15 =>
      if r14 = 0 then
        f_L_readLine_107 (f_L_readLine_70 n) v2 v4 x13 (w 11 x13.toNat) 0 u15
      else
        f_L_readLine_107 (f_L_readLine_70 n) v2 v4 x13 (w 11 x13.toNat) (ishl 1 v4) u15
theorem t_L_readLine_70 {X : jX} {Qf : Int × Wd → State → Prop} {ad : Nat → Nat} (C : Cx X prog_5_method_3_code "EachBringsAnother$Lines") (hn : xn X = 5) (hR : xR X = rmD 3) (hr : Rt X Qf ad prog_5_method_3_code 4) : ∀ (n : Nat) (v2 v4 : Int) (w : Wd), VF X Qf ad NF 0 0 w 70 [(0, (2, 10)), (1, (2, 2)), (2, (0, v2)), (4, (0, v4))] [] (f_L_readLine_70 n v2 v4 w) := by
  intro n
  induction n with
  | zero => intros; exact vf_no
  | succ n ih =>
    intro v2 v4 w
    rw [f_L_readLine_70]
    refine vf_iload C (zdg dz_L_readLine_1 16 rfl) 3 rfl ?_
    refine vf_iload_n C (f := 2) (zdg dz_L_readLine_1 17 rfl) 2 rfl rfl ?_
    refine vf_icmp_ge C (off := 42) (tgt := 115) (zdg dz_L_readLine_1 18 rfl) (by decide) ?_ ?_
    · refine vf_aload_n C (f := 0) (zdg dz_L_readLine_2 17 rfl) 0 rfl rfl ?_
      refine vf_dup C (zdg dz_L_readLine_2 18 rfl) (Nat.succ_ne_self 1) ?_
      refine vf_get C (kd := 0) fl_L_18 sh_9 rfl (by decide) rfl rfl (zdg dz_L_readLine_2 19 rfl) ?_
      refine vf_aload_n C (f := 0) (zdg dz_L_readLine_2 20 rfl) 0 rfl rfl ?_
      refine vf_aload_n C (f := 1) (zdg dz_L_readLine_2 21 rfl) 1 rfl rfl ?_
      refine vf_bipush C (z := 33) (zdg dz_L_readLine_2 22 rfl) (by decide +kernel) (jz rfl) ?_
      refine vf_callVz C cy_L_take ml_L_44 rfl (ct_L_take _ _) (S := [(0, w 9 2), (2, 10)]) sh_9 (by decide) rfl (jrm_of hR rfl) rfl rfl (Nat.le_of_ble_eq_true rfl) (zdg dz_L_readLine_2 23 rfl) (fun r6 u7 => ?_)
      refine vf_if_eq C (off := 9) (tgt := 136) (zdg dz_L_readLine_3 0 rfl) (by decide) ?_ ?_
      · refine vf_iconst C (z := 0) (zdg dz_L_readLine_3 5 rfl) (jz rfl) ?_
        exact vf_perm [0, 1, 2] rfl (t_L_readLine_137 C hn hR hr _ _ _ _)
      · refine vf_iconst C (z := 1) (zdg dz_L_readLine_3 1 rfl) (jz rfl) ?_
        refine vf_iload_n C (f := 2) (zdg dz_L_readLine_3 2 rfl) 2 rfl rfl ?_
        refine vf_ishl C (zdg dz_L_readLine_3 3 rfl) ?_
        refine vf_goto C (off := 4) (tgt := 137) (zdg dz_L_readLine_3 4 rfl) (by decide) ?_
        exact vf_perm [0, 1, 2] rfl (t_L_readLine_137 C hn hR hr _ _ _ _)
    · refine vf_aload_n C (f := 0) (zdg dz_L_readLine_1 19 rfl) 0 rfl rfl ?_
      refine vf_getp C fl_L_15 sh_9 rfl (by decide) rfl (x := 12) rfl (zdg dz_L_readLine_1 20 rfl) ?_
      refine vf_aload_n C (f := 0) (zdg dz_L_readLine_1 21 rfl) 0 rfl rfl ?_
      refine vf_get C (kd := 0) fl_L_25 sh_9 rfl (by decide) rfl rfl (zdg dz_L_readLine_1 22 rfl) ?_
      generalize w 9 4 = x13
      refine vf_ul ?_
      refine vf_dup2 C (zdg dz_L_readLine_1 23 rfl) Nat.zero_ne_one (Nat.succ_ne_self 1) ?_
      refine vf_iald C sh_11 (by decide) rfl (mz := 10) rfl (zdg dz_L_readLine_2 0 rfl) ?_
      refine vf_aload_n C (f := 0) (zdg dz_L_readLine_2 1 rfl) 0 rfl rfl ?_
      refine vf_aload_n C (f := 1) (zdg dz_L_readLine_2 2 rfl) 1 rfl rfl ?_
      refine vf_bipush C (z := 97) (zdg dz_L_readLine_2 3 rfl) (by decide +kernel) (jz rfl) ?_
      refine vf_iload C (zdg dz_L_readLine_2 4 rfl) 3 rfl ?_
      refine vf_iadd C (zdg dz_L_readLine_2 5 rfl) ?_
      refine vf_callVz C cy_L_take ml_L_44 rfl (ct_L_take _ _) (S := [(0, w 11 x13.toNat), (0, x13), (2, 12)]) sh_9 (by decide) rfl (jrm_of hR rfl) rfl rfl (Nat.le_of_ble_eq_true rfl) (zdg dz_L_readLine_2 6 rfl) (fun r14 u15 => ?_)
      refine vf_if_eq C (off := 10) (tgt := 106) (zdg dz_L_readLine_2 7 rfl) (by decide) ?_ ?_
      · refine vf_iconst C (z := 0) (zdg dz_L_readLine_2 12 rfl) (jz rfl) ?_
        exact t_L_readLine_107 C hn hR hr ih _ _ _ _ _ _
      · refine vf_iconst C (z := 1) (zdg dz_L_readLine_2 8 rfl) (jz rfl) ?_
        refine vf_iload C (zdg dz_L_readLine_2 9 rfl) 3 rfl ?_
        refine vf_ishl C (zdg dz_L_readLine_2 10 rfl) ?_
        refine vf_goto C (off := 4) (tgt := 107) (zdg dz_L_readLine_2 11 rfl) (by decide) ?_
        exact t_L_readLine_107 C hn hR hr ih _ _ _ _ _ _
def f_L_readLine (v2 : Int) (w : Wd) : Option (Int × Wd) :=
  jcall (f_T_signAt (w 9 5) 76 w) fun r1 u2 =>
  if r1 < 48 then
    some (0, u2)
  else
    if (57 : Int) < r1 then
      some (0, u2)
    else
      if (u2 9 4) < 10 then
        jlw (st u2 9 5 (w32 ((u2 9 5) + 1))) fun u3 =>
        jgd ((0 : Int) ≤ (u3 9 4) ∧ (u3 9 4) < 10) <|
        jlw (st u3 10 (u3 9 4).toNat ((w32 (r1 - 48)))) fun u4 =>
        jgd ((0 : Int) ≤ (u4 9 4) ∧ (u4 9 4) < 10) <|
        jlw (st u4 11 (u4 9 4).toNat 0) fun u5 =>
        f_L_readLine_70 FU v2 0 u5
      else
        some (0, u2)
theorem ct_L_readLine (v2 : Int) (w : Wd) : Ct y_L_readLine prog_5_method_3_code 5 (some .boolean) 3 4 [(2, 10), (2, 2), (0, v2)] w (f_L_readLine v2 w) := by
  refine ct_of (by decide +kernel) (Or.inr (Or.inr (Or.inl ⟨rfl, rfl⟩))) (Nat.le_of_ble_eq_true rfl) ?_
  intro X Qf ad C hn hR hr
  unfold f_L_readLine
  show VF X Qf ad NF 0 0 w 0 [(0, (2, 10)), (1, (2, 2)), (2, (0, v2))] [] _
  refine vf_aload_n C (f := 1) (zdg dz_L_readLine_0 0 rfl) 1 rfl rfl ?_
  refine vf_aload_n C (f := 0) (zdg dz_L_readLine_0 1 rfl) 0 rfl rfl ?_
  refine vf_get C (kd := 0) fl_L_28 sh_9 rfl (by decide) rfl rfl (zdg dz_L_readLine_0 2 rfl) ?_
  refine vf_bipush C (z := 76) (zdg dz_L_readLine_0 3 rfl) (by decide +kernel) (jz rfl) ?_
  refine vf_callVi C cy_T_signAt ml_L_40 rfl (ct_T_signAt _ _ _) (S := []) sh_1 (by decide) rfl (jrm_of hR rfl) rfl rfl (Nat.le_of_ble_eq_true rfl) (zdg dz_L_readLine_0 4 rfl) (fun r1 u2 => ?_)
  refine vf_istore_n C (f := 3) (L' := [(0, (2, 10)), (1, (2, 2)), (2, (0, v2))]) (zdg dz_L_readLine_0 5 rfl) [0, 1, 2] (jrI rfl rfl) hn (by decide) rfl ?_
  refine vf_iload_n C (f := 3) (zdg dz_L_readLine_0 6 rfl) 0 rfl rfl ?_
  refine vf_bipush C (z := 48) (zdg dz_L_readLine_0 7 rfl) (by decide +kernel) (jz rfl) ?_
  refine vf_icmp_lt C (off := 18) (tgt := 32) (zdg dz_L_readLine_0 8 rfl) (by decide) ?_ ?_
  · refine vf_iconst C (z := 0) (zdg dz_L_readLine_0 16 rfl) (jz rfl) ?_
    exact hr _ _ _ _ (fun _ => Or.inl rfl) (zdg dz_L_readLine_0 17 rfl)
  · refine vf_iload_n C (f := 3) (zdg dz_L_readLine_0 9 rfl) 0 rfl rfl ?_
    refine vf_bipush C (z := 57) (zdg dz_L_readLine_0 10 rfl) (by decide +kernel) (jz rfl) ?_
    refine vf_icmp_gt C (off := 12) (tgt := 32) (zdg dz_L_readLine_0 11 rfl) (by decide) ?_ ?_
    · refine vf_iconst C (z := 0) (zdg dz_L_readLine_0 16 rfl) (jz rfl) ?_
      exact hr _ _ _ _ (fun _ => Or.inl rfl) (zdg dz_L_readLine_0 17 rfl)
    · refine vf_aload_n C (f := 0) (zdg dz_L_readLine_0 12 rfl) 1 rfl rfl ?_
      refine vf_get C (kd := 0) fl_L_25 sh_9 rfl (by decide) rfl rfl (zdg dz_L_readLine_0 13 rfl) ?_
      refine vf_bipush C (z := 10) (zdg dz_L_readLine_0 14 rfl) (by decide +kernel) (jz rfl) ?_
      refine vf_icmp_lt C (off := 5) (tgt := 34) (zdg dz_L_readLine_0 15 rfl) (by decide) ?_ ?_
      · refine vf_aload_n C (f := 0) (zdg dz_L_readLine_0 18 rfl) 1 rfl rfl ?_
        refine vf_dup C (zdg dz_L_readLine_0 19 rfl) (Nat.succ_ne_self 1) ?_
        refine vf_get C (kd := 0) fl_L_28 sh_9 rfl (by decide) rfl rfl (zdg dz_L_readLine_0 20 rfl) ?_
        refine vf_iconst C (z := 1) (zdg dz_L_readLine_0 21 rfl) (jz rfl) ?_
        refine vf_iadd C (zdg dz_L_readLine_0 22 rfl) ?_
        refine vf_put C (kd := 0) fl_L_28 fk_3_5 sh_9 rfl (by decide) rfl rfl (by decide) (zdg dz_L_readLine_0 23 rfl) ?_
        generalize st u2 9 5 (w32 ((u2 9 5) + 1)) = u3
        refine vf_uw ?_
        refine vf_aload_n C (f := 0) (zdg dz_L_readLine_1 0 rfl) 1 rfl rfl ?_
        refine vf_getp C fl_L_9 sh_9 rfl (by decide) rfl (x := 11) rfl (zdg dz_L_readLine_1 1 rfl) ?_
        refine vf_aload_n C (f := 0) (zdg dz_L_readLine_1 2 rfl) 1 rfl rfl ?_
        refine vf_get C (kd := 0) fl_L_25 sh_9 rfl (by decide) rfl rfl (zdg dz_L_readLine_1 3 rfl) ?_
        refine vf_iload_n C (f := 3) (zdg dz_L_readLine_1 4 rfl) 0 rfl rfl ?_
        refine vf_bipush C (z := 48) (zdg dz_L_readLine_1 5 rfl) (by decide +kernel) (jz rfl) ?_
        refine vf_isub C (zdg dz_L_readLine_1 6 rfl) ?_
        refine vf_iast C sh_10 (by decide) rfl (mz := 10) rfl (zdg dz_L_readLine_1 7 rfl) ?_
        generalize st u3 10 (u3 9 4).toNat ((w32 (r1 - 48))) = u4
        refine vf_uw ?_
        refine vf_aload_n C (f := 0) (zdg dz_L_readLine_1 8 rfl) 1 rfl rfl ?_
        refine vf_getp C fl_L_15 sh_9 rfl (by decide) rfl (x := 12) rfl (zdg dz_L_readLine_1 9 rfl) ?_
        refine vf_aload_n C (f := 0) (zdg dz_L_readLine_1 10 rfl) 1 rfl rfl ?_
        refine vf_get C (kd := 0) fl_L_25 sh_9 rfl (by decide) rfl rfl (zdg dz_L_readLine_1 11 rfl) ?_
        refine vf_iconst C (z := 0) (zdg dz_L_readLine_1 12 rfl) (jz rfl) ?_
        refine vf_iast C sh_11 (by decide) rfl (mz := 10) rfl (zdg dz_L_readLine_1 13 rfl) ?_
        generalize st u4 11 (u4 9 4).toNat 0 = u5
        refine vf_uw ?_
        refine vf_iconst C (z := 0) (zdg dz_L_readLine_1 14 rfl) (jz rfl) ?_
        refine vf_istore C (i := 4) (L' := [(0, (2, 10)), (1, (2, 2)), (2, (0, v2))]) (zdg dz_L_readLine_1 15 rfl) [1, 2, 3] (jrI rfl rfl) hn (by decide) ?_
        exact vf_perm [1, 2, 3, 0] rfl (t_L_readLine_70 C hn hR hr FU _ _ _)
      · refine vf_iconst C (z := 0) (zdg dz_L_readLine_0 16 rfl) (jz rfl) ?_
        exact hr _ _ _ _ (fun _ => Or.inl rfl) (zdg dz_L_readLine_0 17 rfl)
def f_L_read_31 : Nat → Int → Wd → Option (Int × Wd)
  | 0, _, _ => none
  | n + 1, v3, w =>
    if (10 : Int) ≤ v3 then
      some (w32 ((-1) - (w 9 5)), w)
    else
      jcall (f_L_readLine v3 w) fun r5 u6 =>
      if r5 = 0 then
        some (w32 ((-1) - (u6 9 5)), u6)
      else
        jcall (f_T_signAt (u6 9 5) 76 u6) fun r7 u8 =>
        if r7 = (-1) then
          some (u8 9 4, u8)
        else
          if r7 = 59 then
            jlw (st u8 9 5 (w32 ((u8 9 5) + 1))) fun u9 =>
            jlet (w32 (v3 + 1)) fun x10 =>
            f_L_read_31 n x10 u9
          else
            some (w32 ((-1) - (u8 9 5)), u8)
theorem t_L_read_31 {X : jX} {Qf : Int × Wd → State → Prop} {ad : Nat → Nat} (C : Cx X prog_5_method_2_code "EachBringsAnother$Lines") (hn : xn X = 5) (hR : xR X = rmD 4) (hr : Rt X Qf ad prog_5_method_2_code 0) : ∀ (n : Nat) (v3 : Int) (w : Wd), VF X Qf ad NF 0 0 w 31 [(0, (2, 10)), (1, (2, 2)), (3, (0, v3))] [] (f_L_read_31 n v3 w) := by
  intro n
  induction n with
  | zero => intros; exact vf_no
  | succ n ih =>
    intro v3 w
    rw [f_L_read_31]
    refine vf_iload_n C (f := 3) (zdg dz_L_read_0 19 rfl) 2 rfl rfl ?_
    refine vf_bipush C (z := 10) (zdg dz_L_read_0 20 rfl) (by decide +kernel) (jz rfl) ?_
    refine vf_icmp_ge C (off := 72) (tgt := 106) (zdg dz_L_read_0 21 rfl) (by decide) ?_ ?_
    · refine vf_iconst C (z := (-1)) (zdg dz_L_read_2 12 rfl) (jz rfl) ?_
      refine vf_aload_n C (f := 0) (zdg dz_L_read_2 13 rfl) 0 rfl rfl ?_
      refine vf_get C (kd := 0) fl_L_28 sh_9 rfl (by decide) rfl rfl (zdg dz_L_read_2 14 rfl) ?_
      refine vf_isub C (zdg dz_L_read_2 15 rfl) ?_
      exact hr _ _ _ _ (fun h => absurd h (by decide)) (zdg dz_L_read_2 16 rfl)
    · refine vf_aload_n C (f := 0) (zdg dz_L_read_0 22 rfl) 0 rfl rfl ?_
      refine vf_aload_n C (f := 1) (zdg dz_L_read_0 23 rfl) 1 rfl rfl ?_
      refine vf_iload_n C (f := 3) (zdg dz_L_read_1 0 rfl) 2 rfl rfl ?_
      refine vf_callVz C cy_L_readLine ml_L_36 rfl (ct_L_readLine _ _) (S := []) sh_9 (by decide) rfl (jrm_of hR rfl) rfl rfl (Nat.le_of_ble_eq_true rfl) (zdg dz_L_read_1 1 rfl) (fun r5 u6 => ?_)
      refine vf_if_ne C (off := 10) (tgt := 53) (zdg dz_L_read_1 2 rfl) (by decide) ?_ ?_
      · refine vf_aload_n C (f := 1) (zdg dz_L_read_1 8 rfl) 1 rfl rfl ?_
        refine vf_aload_n C (f := 0) (zdg dz_L_read_1 9 rfl) 0 rfl rfl ?_
        refine vf_get C (kd := 0) fl_L_28 sh_9 rfl (by decide) rfl rfl (zdg dz_L_read_1 10 rfl) ?_
        refine vf_bipush C (z := 76) (zdg dz_L_read_1 11 rfl) (by decide +kernel) (jz rfl) ?_
        refine vf_callVi C cy_T_signAt ml_L_40 rfl (ct_T_signAt _ _ _) (S := []) sh_1 (by decide) rfl (jrm_of hR rfl) rfl rfl (Nat.le_of_ble_eq_true rfl) (zdg dz_L_read_1 12 rfl) (fun r7 u8 => ?_)
        refine vf_istore C (i := 4) (L' := [(0, (2, 10)), (1, (2, 2)), (3, (0, v3))]) (zdg dz_L_read_1 13 rfl) [0, 1, 2] (jrI rfl rfl) hn (by decide) ?_
        refine vf_iload C (zdg dz_L_read_1 14 rfl) 0 rfl ?_
        refine vf_iconst C (z := (-1)) (zdg dz_L_read_1 15 rfl) (jz rfl) ?_
        refine vf_icmp_ne C (off := 8) (tgt := 76) (zdg dz_L_read_1 16 rfl) (by decide) ?_ ?_
        · refine vf_iload C (zdg dz_L_read_1 20 rfl) 0 rfl ?_
          refine vf_bipush C (z := 59) (zdg dz_L_read_1 21 rfl) (by decide +kernel) (jz rfl) ?_
          refine vf_icmp_eq C (off := 10) (tgt := 90) (zdg dz_L_read_1 22 rfl) (by decide) ?_ ?_
          · refine vf_aload_n C (f := 0) (zdg dz_L_read_2 4 rfl) 1 rfl rfl ?_
            refine vf_dup C (zdg dz_L_read_2 5 rfl) (Nat.succ_ne_self 1) ?_
            refine vf_get C (kd := 0) fl_L_28 sh_9 rfl (by decide) rfl rfl (zdg dz_L_read_2 6 rfl) ?_
            refine vf_iconst C (z := 1) (zdg dz_L_read_2 7 rfl) (jz rfl) ?_
            refine vf_iadd C (zdg dz_L_read_2 8 rfl) ?_
            refine vf_put C (kd := 0) fl_L_28 fk_3_5 sh_9 rfl (by decide) rfl rfl (by decide) (zdg dz_L_read_2 9 rfl) ?_
            generalize st u8 9 5 (w32 ((u8 9 5) + 1)) = u9
            refine vf_uw ?_
            refine vf_iinc C (z := 1) (L' := [(0, (2, 10)), (1, (2, 2))]) (zdg dz_L_read_2 10 rfl) 3 rfl [1, 2] (jrI rfl rfl) hn (by decide) ?_
            generalize w32 (v3 + 1) = x10
            refine vf_ul ?_
            refine vf_goto C (off := (-72)) (tgt := 31) (zdg dz_L_read_2 11 rfl) (by decide) ?_
            exact vf_perm [1, 2, 0] rfl (ih _ _)
          · refine vf_iconst C (z := (-1)) (zdg dz_L_read_1 23 rfl) (jz rfl) ?_
            refine vf_aload_n C (f := 0) (zdg dz_L_read_2 0 rfl) 1 rfl rfl ?_
            refine vf_get C (kd := 0) fl_L_28 sh_9 rfl (by decide) rfl rfl (zdg dz_L_read_2 1 rfl) ?_
            refine vf_isub C (zdg dz_L_read_2 2 rfl) ?_
            exact hr _ _ _ _ (fun h => absurd h (by decide)) (zdg dz_L_read_2 3 rfl)
        · refine vf_aload_n C (f := 0) (zdg dz_L_read_1 17 rfl) 1 rfl rfl ?_
          refine vf_get C (kd := 0) fl_L_25 sh_9 rfl (by decide) rfl rfl (zdg dz_L_read_1 18 rfl) ?_
          exact hr _ _ _ _ (fun h => absurd h (by decide)) (zdg dz_L_read_1 19 rfl)
      · refine vf_iconst C (z := (-1)) (zdg dz_L_read_1 3 rfl) (jz rfl) ?_
        refine vf_aload_n C (f := 0) (zdg dz_L_read_1 4 rfl) 0 rfl rfl ?_
        refine vf_get C (kd := 0) fl_L_28 sh_9 rfl (by decide) rfl rfl (zdg dz_L_read_1 5 rfl) ?_
        refine vf_isub C (zdg dz_L_read_1 6 rfl) ?_
        exact hr _ _ _ _ (fun h => absurd h (by decide)) (zdg dz_L_read_1 7 rfl)
def f_L_read (v2 : Int) (w : Wd) : Option (Int × Wd) :=
  jlw (st w 9 2 0) fun u1 =>
  jlw (st u1 9 3 0) fun u2 =>
  jlw (st u2 9 4 0) fun u3 =>
  jlw (st u3 9 5 0) fun u4 =>
  if (u4 1 1) = 0 then
    some (0, u4)
  else
    f_L_read_31 FU v2 u4
theorem ct_L_read (v2 : Int) (w : Wd) : Ct y_L_read prog_5_method_2_code 5 (some .int) 4 0 [(2, 10), (2, 2), (0, v2)] w (f_L_read v2 w) := by
  refine ct_of (by decide +kernel) (Or.inl ⟨rfl, rfl⟩) (Nat.le_of_ble_eq_true rfl) ?_
  intro X Qf ad C hn hR hr
  unfold f_L_read
  show VF X Qf ad NF 0 0 w 0 [(0, (2, 10)), (1, (2, 2)), (2, (0, v2))] [] _
  refine vf_aload_n C (f := 0) (zdg dz_L_read_0 0 rfl) 0 rfl rfl ?_
  refine vf_iconst C (z := 0) (zdg dz_L_read_0 1 rfl) (jz rfl) ?_
  refine vf_put C (kd := 0) fl_L_18 fk_3_2 sh_9 rfl (by decide) rfl rfl (by decide) (zdg dz_L_read_0 2 rfl) ?_
  generalize st w 9 2 0 = u1
  refine vf_uw ?_
  refine vf_aload_n C (f := 0) (zdg dz_L_read_0 3 rfl) 0 rfl rfl ?_
  refine vf_iconst C (z := 0) (zdg dz_L_read_0 4 rfl) (jz rfl) ?_
  refine vf_put C (kd := 0) fl_L_22 fk_3_3 sh_9 rfl (by decide) rfl rfl (by decide) (zdg dz_L_read_0 5 rfl) ?_
  generalize st u1 9 3 0 = u2
  refine vf_uw ?_
  refine vf_aload_n C (f := 0) (zdg dz_L_read_0 6 rfl) 0 rfl rfl ?_
  refine vf_iconst C (z := 0) (zdg dz_L_read_0 7 rfl) (jz rfl) ?_
  refine vf_put C (kd := 0) fl_L_25 fk_3_4 sh_9 rfl (by decide) rfl rfl (by decide) (zdg dz_L_read_0 8 rfl) ?_
  generalize st u2 9 4 0 = u3
  refine vf_uw ?_
  refine vf_aload_n C (f := 0) (zdg dz_L_read_0 9 rfl) 0 rfl rfl ?_
  refine vf_iconst C (z := 0) (zdg dz_L_read_0 10 rfl) (jz rfl) ?_
  refine vf_put C (kd := 0) fl_L_28 fk_3_5 sh_9 rfl (by decide) rfl rfl (by decide) (zdg dz_L_read_0 11 rfl) ?_
  generalize st u3 9 5 0 = u4
  refine vf_uw ?_
  refine vf_aload_n C (f := 1) (zdg dz_L_read_0 12 rfl) 1 rfl rfl ?_
  refine vf_get C (kd := 0) fl_L_31 sh_1 rfl (by decide) rfl rfl (zdg dz_L_read_0 13 rfl) ?_
  refine vf_if_ne C (off := 5) (tgt := 29) (zdg dz_L_read_0 14 rfl) (by decide) ?_ ?_
  · refine vf_iload_n C (f := 2) (zdg dz_L_read_0 17 rfl) 2 rfl rfl ?_
    refine vf_istore_n C (f := 3) (L' := [(0, (2, 10)), (1, (2, 2))]) (zdg dz_L_read_0 18 rfl) [0, 1] (jrI rfl rfl) hn (by decide) rfl ?_
    exact vf_perm [1, 2, 0] rfl (t_L_read_31 C hn hR hr FU _ _)
  · refine vf_iconst C (z := 0) (zdg dz_L_read_0 15 rfl) (jz rfl) ?_
    exact hr _ _ _ _ (fun h => absurd h (by decide)) (zdg dz_L_read_0 16 rfl)
def f_T_clear (w : Wd) : Option (Int × Wd) :=
  jlw (st w 1 1 0) fun u1 =>
  some (0, u1)
theorem ct_T_clear (w : Wd) : Ct y_T_clear prog_10_method_4_code 1 none 1 9 [(2, 2)] w (f_T_clear w) := by
  refine ct_of (by decide +kernel) (Or.inr (Or.inr (Or.inr ⟨rfl, rfl⟩))) (Nat.le_of_ble_eq_true rfl) ?_
  intro X Qf ad C hn hR hr
  unfold f_T_clear
  show VF X Qf ad NF 0 0 w 0 [(0, (2, 2))] [] _
  refine vf_aload_n C (f := 0) (zdg dz_T_clear_0 0 rfl) 0 rfl rfl ?_
  refine vf_iconst C (z := 0) (zdg dz_T_clear_0 1 rfl) (jz rfl) ?_
  refine vf_put C (kd := 0) fl_T_15 fk_0_1 sh_1 rfl (by decide) rfl rfl (by decide) (zdg dz_T_clear_0 2 rfl) ?_
  generalize st w 1 1 0 = u1
  refine vf_uw ?_
  exact hr _ _ _ _ (fun h => absurd h (by decide)) (zdg dz_T_clear_0 3 rfl)
def f_E_has (v0 v1 : Int) (w : Wd) : Option (Int × Wd) :=
  if v1 < 0 then
    some (0, w)
  else
    if (10 : Int) ≤ v1 then
      some (0, w)
    else
      if (iand (ishr v0 v1) 1) = 0 then
        some (0, w)
      else
        some (1, w)
theorem ct_E_has (v0 v1 : Int) (w : Wd) : Ct y_E_has prog_1_method_44_code 2 (some .boolean) 1 4 [(0, v0), (0, v1)] w (f_E_has v0 v1 w) := by
  refine ct_of (by decide +kernel) (Or.inr (Or.inr (Or.inl ⟨rfl, rfl⟩))) (Nat.le_of_ble_eq_true rfl) ?_
  intro X Qf ad C hn hR hr
  unfold f_E_has
  show VF X Qf ad NF 0 0 w 0 [(0, (0, v0)), (1, (0, v1))] [] _
  refine vf_iload_n C (f := 1) (zdg dz_E_has_0 0 rfl) 1 rfl rfl ?_
  refine vf_if_lt C (off := 21) (tgt := 22) (zdg dz_E_has_0 1 rfl) (by decide) ?_ ?_
  · refine vf_iconst C (z := 0) (zdg dz_E_has_0 13 rfl) (jz rfl) ?_
    exact hr _ _ _ _ (fun _ => Or.inl rfl) (zdg dz_E_has_0 14 rfl)
  · refine vf_iload_n C (f := 1) (zdg dz_E_has_0 2 rfl) 1 rfl rfl ?_
    refine vf_bipush C (z := 10) (zdg dz_E_has_0 3 rfl) (by decide +kernel) (jz rfl) ?_
    refine vf_icmp_ge C (off := 15) (tgt := 22) (zdg dz_E_has_0 4 rfl) (by decide) ?_ ?_
    · refine vf_iconst C (z := 0) (zdg dz_E_has_0 13 rfl) (jz rfl) ?_
      exact hr _ _ _ _ (fun _ => Or.inl rfl) (zdg dz_E_has_0 14 rfl)
    · refine vf_iload_n C (f := 0) (zdg dz_E_has_0 5 rfl) 0 rfl rfl ?_
      refine vf_iload_n C (f := 1) (zdg dz_E_has_0 6 rfl) 1 rfl rfl ?_
      refine vf_ishr C (zdg dz_E_has_0 7 rfl) ?_
      refine vf_iconst C (z := 1) (zdg dz_E_has_0 8 rfl) (jz rfl) ?_
      refine vf_iand C (zdg dz_E_has_0 9 rfl) ?_
      refine vf_if_eq C (off := 7) (tgt := 22) (zdg dz_E_has_0 10 rfl) (by decide) ?_ ?_
      · refine vf_iconst C (z := 0) (zdg dz_E_has_0 13 rfl) (jz rfl) ?_
        exact hr _ _ _ _ (fun _ => Or.inl rfl) (zdg dz_E_has_0 14 rfl)
      · refine vf_iconst C (z := 1) (zdg dz_E_has_0 11 rfl) (jz rfl) ?_
        refine vf_goto C (off := 4) (tgt := 23) (zdg dz_E_has_0 12 rfl) (by decide) ?_
        exact hr _ _ _ _ (fun _ => Or.inr rfl) (zdg dz_E_has_0 14 rfl)
def f_E_with (v0 v1 v2 : Int) (w : Wd) : Option (Int × Wd) :=
  if v2 = 0 then
    some (iand v0 (ixor (ishl 1 v1) (-1)), w)
  else
    some (ior v0 (ishl 1 v1), w)
theorem ct_E_with (v0 v1 v2 : Int) (w : Wd) : Ct y_E_with prog_1_method_45_code 3 (some .int) 1 0 [(0, v0), (0, v1), (0, v2)] w (f_E_with v0 v1 v2 w) := by
  refine ct_of (by decide +kernel) (Or.inl ⟨rfl, rfl⟩) (Nat.le_of_ble_eq_true rfl) ?_
  intro X Qf ad C hn hR hr
  unfold f_E_with
  show VF X Qf ad NF 0 0 w 0 [(0, (0, v0)), (1, (0, v1)), (2, (0, v2))] [] _
  refine vf_iload_n C (f := 2) (zdg dz_E_with_0 0 rfl) 2 rfl rfl ?_
  refine vf_if_eq C (off := 11) (tgt := 12) (zdg dz_E_with_0 1 rfl) (by decide) ?_ ?_
  · refine vf_iload_n C (f := 0) (zdg dz_E_with_0 8 rfl) 0 rfl rfl ?_
    refine vf_iconst C (z := 1) (zdg dz_E_with_0 9 rfl) (jz rfl) ?_
    refine vf_iload_n C (f := 1) (zdg dz_E_with_0 10 rfl) 1 rfl rfl ?_
    refine vf_ishl C (zdg dz_E_with_0 11 rfl) ?_
    refine vf_iconst C (z := (-1)) (zdg dz_E_with_0 12 rfl) (jz rfl) ?_
    refine vf_ixor C (zdg dz_E_with_0 13 rfl) ?_
    refine vf_iand C (zdg dz_E_with_0 14 rfl) ?_
    exact hr _ _ _ _ (fun h => absurd h (by decide)) (zdg dz_E_with_0 15 rfl)
  · refine vf_iload_n C (f := 0) (zdg dz_E_with_0 2 rfl) 0 rfl rfl ?_
    refine vf_iconst C (z := 1) (zdg dz_E_with_0 3 rfl) (jz rfl) ?_
    refine vf_iload_n C (f := 1) (zdg dz_E_with_0 4 rfl) 1 rfl rfl ?_
    refine vf_ishl C (zdg dz_E_with_0 5 rfl) ?_
    refine vf_ior C (zdg dz_E_with_0 6 rfl) ?_
    refine vf_goto C (off := 10) (tgt := 19) (zdg dz_E_with_0 7 rfl) (by decide) ?_
    exact hr _ _ _ _ (fun h => absurd h (by decide)) (zdg dz_E_with_0 15 rfl)
def f_F_add_42 : Nat → Int → Int → Wd → Option (Int × Wd)
  | 0, _, _, _ => none
  | n + 1, v2, v3, w =>
    if (w 5 3) ≤ v3 then
      jlw (st w 5 3 (w32 ((w 5 3) + 1))) fun u4 =>
      some (0, u4)
    else
      jgd ((0 : Int) ≤ v3 ∧ v3 < 10) <|
      jcall (f_E_has v2 v3 w) fun r5 u6 =>
      jcall (f_E_with (w 7 v3.toNat) (w 5 3) r5 u6) fun r7 u8 =>
      jgd ((0 : Int) ≤ v3 ∧ v3 < 10) <|
      jlw (st u8 7 v3.toNat r7) fun u9 =>
      jlet (w32 (v3 + 1)) fun x10 =>
      f_F_add_42 n v2 x10 u9
theorem t_F_add_42 {X : jX} {Qf : Int × Wd → State → Prop} {ad : Nat → Nat} (C : Cx X prog_3_method_10_code "EachBringsAnother$Folk") (hn : xn X = 4) (hR : xR X = rmD 2) (hr : Rt X Qf ad prog_3_method_10_code 9) : ∀ (n : Nat) (v2 v3 : Int) (w : Wd), VF X Qf ad NF 0 0 w 42 [(0, (2, 6)), (2, (0, v2)), (3, (0, v3))] [] (f_F_add_42 n v2 v3 w) := by
  intro n
  induction n with
  | zero => intros; exact vf_no
  | succ n ih =>
    intro v2 v3 w
    rw [f_F_add_42]
    refine vf_iload_n C (f := 3) (zdg dz_F_add_1 1 rfl) 2 rfl rfl ?_
    refine vf_aload_n C (f := 0) (zdg dz_F_add_1 2 rfl) 0 rfl rfl ?_
    refine vf_get C (kd := 0) fl_F_28 sh_5 rfl (by decide) rfl rfl (zdg dz_F_add_1 3 rfl) ?_
    refine vf_icmp_ge C (off := 33) (tgt := 80) (zdg dz_F_add_1 4 rfl) (by decide) ?_ ?_
    · refine vf_aload_n C (f := 0) (zdg dz_F_add_1 21 rfl) 0 rfl rfl ?_
      refine vf_dup C (zdg dz_F_add_1 22 rfl) (Nat.succ_ne_self 1) ?_
      refine vf_get C (kd := 0) fl_F_28 sh_5 rfl (by decide) rfl rfl (zdg dz_F_add_1 23 rfl) ?_
      refine vf_iconst C (z := 1) (zdg dz_F_add_2 0 rfl) (jz rfl) ?_
      refine vf_iadd C (zdg dz_F_add_2 1 rfl) ?_
      refine vf_put C (kd := 0) fl_F_28 fk_2_3 sh_5 rfl (by decide) rfl rfl (by decide) (zdg dz_F_add_2 2 rfl) ?_
      generalize st w 5 3 (w32 ((w 5 3) + 1)) = u4
      refine vf_uw ?_
      exact hr _ _ _ _ (fun h => absurd h (by decide)) (zdg dz_F_add_2 3 rfl)
    · refine vf_aload_n C (f := 0) (zdg dz_F_add_1 5 rfl) 0 rfl rfl ?_
      refine vf_getp C fl_F_15 sh_5 rfl (by decide) rfl (x := 8) rfl (zdg dz_F_add_1 6 rfl) ?_
      refine vf_iload_n C (f := 3) (zdg dz_F_add_1 7 rfl) 2 rfl rfl ?_
      refine vf_aload_n C (f := 0) (zdg dz_F_add_1 8 rfl) 0 rfl rfl ?_
      refine vf_getp C fl_F_15 sh_5 rfl (by decide) rfl (x := 8) rfl (zdg dz_F_add_1 9 rfl) ?_
      refine vf_iload_n C (f := 3) (zdg dz_F_add_1 10 rfl) 2 rfl rfl ?_
      refine vf_iald C sh_7 (by decide) rfl (mz := 10) rfl (zdg dz_F_add_1 11 rfl) ?_
      refine vf_aload_n C (f := 0) (zdg dz_F_add_1 12 rfl) 0 rfl rfl ?_
      refine vf_get C (kd := 0) fl_F_28 sh_5 rfl (by decide) rfl rfl (zdg dz_F_add_1 13 rfl) ?_
      refine vf_iload_n C (f := 2) (zdg dz_F_add_1 14 rfl) 1 rfl rfl ?_
      refine vf_iload_n C (f := 3) (zdg dz_F_add_1 15 rfl) 2 rfl rfl ?_
      refine vf_callSz C cy_E_has ml_F_62 (ct_E_has _ _ _) (S := [(0, w 5 3), (0, w 7 v3.toNat), (0, v3), (2, 8)]) (jrm_of hR rfl) rfl rfl (Nat.le_of_ble_eq_true rfl) (zdg dz_F_add_1 16 rfl) (fun r5 u6 => ?_)
      refine vf_callSi C cy_E_with ml_F_66 (ct_E_with _ _ _ _) (S := [(0, v3), (2, 8)]) (jrm_of hR rfl) rfl rfl (Nat.le_of_ble_eq_true rfl) (zdg dz_F_add_1 17 rfl) (fun r7 u8 => ?_)
      refine vf_iast C sh_7 (by decide) rfl (mz := 10) rfl (zdg dz_F_add_1 18 rfl) ?_
      generalize st u8 7 v3.toNat r7 = u9
      refine vf_uw ?_
      refine vf_iinc C (z := 1) (L' := [(0, (2, 6)), (2, (0, v2))]) (zdg dz_F_add_1 19 rfl) 2 rfl [0, 1] (jrI rfl rfl) hn (by decide) ?_
      generalize w32 (v3 + 1) = x10
      refine vf_ul ?_
      refine vf_goto C (off := (-35)) (tgt := 42) (zdg dz_F_add_1 20 rfl) (by decide) ?_
      exact vf_perm [1, 2, 0] rfl (ih _ _ _)
def f_F_add (v1 v2 : Int) (w : Wd) : Option (Int × Wd) :=
  if (w 5 3) < 10 then
    jgd ((0 : Int) ≤ (w 5 3) ∧ (w 5 3) < 10) <|
    jlw (st w 6 (w 5 3).toNat v1) fun u1 =>
    jgd ((0 : Int) ≤ (u1 5 3) ∧ (u1 5 3) < 10) <|
    jlw (st u1 7 (u1 5 3).toNat v2) fun u2 =>
    jgd ((0 : Int) ≤ (u2 5 3) ∧ (u2 5 3) < 10) <|
    jlw (st u2 8 (u2 5 3).toNat (-1)) fun u3 =>
    f_F_add_42 FU v2 0 u3
  else
    some (0, w)
theorem ct_F_add (v1 v2 : Int) (w : Wd) : Ct y_F_add prog_3_method_10_code 4 none 2 9 [(2, 6), (0, v1), (0, v2)] w (f_F_add v1 v2 w) := by
  refine ct_of (by decide +kernel) (Or.inr (Or.inr (Or.inr ⟨rfl, rfl⟩))) (Nat.le_of_ble_eq_true rfl) ?_
  intro X Qf ad C hn hR hr
  unfold f_F_add
  show VF X Qf ad NF 0 0 w 0 [(0, (2, 6)), (1, (0, v1)), (2, (0, v2))] [] _
  refine vf_aload_n C (f := 0) (zdg dz_F_add_0 0 rfl) 0 rfl rfl ?_
  refine vf_get C (kd := 0) fl_F_28 sh_5 rfl (by decide) rfl rfl (zdg dz_F_add_0 1 rfl) ?_
  refine vf_bipush C (z := 10) (zdg dz_F_add_0 2 rfl) (by decide +kernel) (jz rfl) ?_
  refine vf_icmp_lt C (off := 4) (tgt := 10) (zdg dz_F_add_0 3 rfl) (by decide) ?_ ?_
  · refine vf_aload_n C (f := 0) (zdg dz_F_add_0 5 rfl) 0 rfl rfl ?_
    refine vf_getp C fl_F_9 sh_5 rfl (by decide) rfl (x := 7) rfl (zdg dz_F_add_0 6 rfl) ?_
    refine vf_aload_n C (f := 0) (zdg dz_F_add_0 7 rfl) 0 rfl rfl ?_
    refine vf_get C (kd := 0) fl_F_28 sh_5 rfl (by decide) rfl rfl (zdg dz_F_add_0 8 rfl) ?_
    refine vf_iload_n C (f := 1) (zdg dz_F_add_0 9 rfl) 1 rfl rfl ?_
    refine vf_iast C sh_6 (by decide) rfl (mz := 10) rfl (zdg dz_F_add_0 10 rfl) ?_
    generalize st w 6 (w 5 3).toNat v1 = u1
    refine vf_uw ?_
    refine vf_aload_n C (f := 0) (zdg dz_F_add_0 11 rfl) 0 rfl rfl ?_
    refine vf_getp C fl_F_15 sh_5 rfl (by decide) rfl (x := 8) rfl (zdg dz_F_add_0 12 rfl) ?_
    refine vf_aload_n C (f := 0) (zdg dz_F_add_0 13 rfl) 0 rfl rfl ?_
    refine vf_get C (kd := 0) fl_F_28 sh_5 rfl (by decide) rfl rfl (zdg dz_F_add_0 14 rfl) ?_
    refine vf_iload_n C (f := 2) (zdg dz_F_add_0 15 rfl) 2 rfl rfl ?_
    refine vf_iast C sh_7 (by decide) rfl (mz := 10) rfl (zdg dz_F_add_0 16 rfl) ?_
    generalize st u1 7 (u1 5 3).toNat v2 = u2
    refine vf_uw ?_
    refine vf_aload_n C (f := 0) (zdg dz_F_add_0 17 rfl) 0 rfl rfl ?_
    refine vf_getp C fl_F_18 sh_5 rfl (by decide) rfl (x := 9) rfl (zdg dz_F_add_0 18 rfl) ?_
    refine vf_aload_n C (f := 0) (zdg dz_F_add_0 19 rfl) 0 rfl rfl ?_
    refine vf_get C (kd := 0) fl_F_28 sh_5 rfl (by decide) rfl rfl (zdg dz_F_add_0 20 rfl) ?_
    refine vf_iconst C (z := (-1)) (zdg dz_F_add_0 21 rfl) (jz rfl) ?_
    refine vf_iast C sh_8 (by decide) rfl (mz := 10) rfl (zdg dz_F_add_0 22 rfl) ?_
    generalize st u2 8 (u2 5 3).toNat (-1) = u3
    refine vf_uw ?_
    refine vf_iconst C (z := 0) (zdg dz_F_add_0 23 rfl) (jz rfl) ?_
    refine vf_istore_n C (f := 3) (L' := [(0, (2, 6)), (2, (0, v2))]) (zdg dz_F_add_1 0 rfl) [0, 2] (jrI rfl rfl) hn (by decide) rfl ?_
    exact vf_perm [1, 2, 0] rfl (t_F_add_42 C hn hR hr FU _ _ _)
  · exact hr _ _ _ _ (fun h => absurd h (by decide)) (zdg dz_F_add_0 4 rfl)
def f_L_settle_2 : Nat → Int → Wd → Option (Int × Wd)
  | 0, _, _ => none
  | n + 1, v2, w =>
    if (w 9 4) ≤ v2 then
      jlw (st w 5 4 (ior (w 5 4) (w 9 2))) fun u1 =>
      jlw (st u1 5 5 (ior (u1 5 5) (u1 9 3))) fun u2 =>
      some (0, u2)
    else
      jgd ((0 : Int) ≤ v2 ∧ v2 < 10) <|
      jgd ((0 : Int) ≤ v2 ∧ v2 < 10) <|
      jcall (f_F_add (w 10 v2.toNat) (w 11 v2.toNat) w) fun r3 u4 =>
      jlet (w32 (v2 + 1)) fun x5 =>
      f_L_settle_2 n x5 u4
theorem t_L_settle_2 {X : jX} {Qf : Int × Wd → State → Prop} {ad : Nat → Nat} (C : Cx X prog_5_method_5_code "EachBringsAnother$Lines") (hn : xn X = 3) (hR : xR X = rmD 3) (hr : Rt X Qf ad prog_5_method_5_code 9) : ∀ (n : Nat) (v2 : Int) (w : Wd), VF X Qf ad NF 0 0 w 2 [(0, (2, 10)), (1, (2, 6)), (2, (0, v2))] [] (f_L_settle_2 n v2 w) := by
  intro n
  induction n with
  | zero => intros; exact vf_no
  | succ n ih =>
    intro v2 w
    rw [f_L_settle_2]
    refine vf_iload_n C (f := 2) (zdg dz_L_settle_0 2 rfl) 2 rfl rfl ?_
    refine vf_aload_n C (f := 0) (zdg dz_L_settle_0 3 rfl) 0 rfl rfl ?_
    refine vf_get C (kd := 0) fl_L_25 sh_9 rfl (by decide) rfl rfl (zdg dz_L_settle_0 4 rfl) ?_
    refine vf_icmp_ge C (off := 25) (tgt := 32) (zdg dz_L_settle_0 5 rfl) (by decide) ?_ ?_
    · refine vf_aload_n C (f := 1) (zdg dz_L_settle_0 18 rfl) 1 rfl rfl ?_
      refine vf_dup C (zdg dz_L_settle_0 19 rfl) (Nat.succ_ne_self 1) ?_
      refine vf_get C (kd := 0) fl_L_53 sh_5 rfl (by decide) rfl rfl (zdg dz_L_settle_0 20 rfl) ?_
      refine vf_aload_n C (f := 0) (zdg dz_L_settle_0 21 rfl) 0 rfl rfl ?_
      refine vf_get C (kd := 0) fl_L_18 sh_9 rfl (by decide) rfl rfl (zdg dz_L_settle_0 22 rfl) ?_
      refine vf_ior C (zdg dz_L_settle_0 23 rfl) ?_
      refine vf_put C (kd := 0) fl_L_53 fk_2_4 sh_5 rfl (by decide) rfl rfl (by decide) (zdg dz_L_settle_1 0 rfl) ?_
      generalize st w 5 4 (ior (w 5 4) (w 9 2)) = u1
      refine vf_uw ?_
      refine vf_aload_n C (f := 1) (zdg dz_L_settle_1 1 rfl) 1 rfl rfl ?_
      refine vf_dup C (zdg dz_L_settle_1 2 rfl) (Nat.succ_ne_self 1) ?_
      refine vf_get C (kd := 0) fl_L_56 sh_5 rfl (by decide) rfl rfl (zdg dz_L_settle_1 3 rfl) ?_
      refine vf_aload_n C (f := 0) (zdg dz_L_settle_1 4 rfl) 0 rfl rfl ?_
      refine vf_get C (kd := 0) fl_L_22 sh_9 rfl (by decide) rfl rfl (zdg dz_L_settle_1 5 rfl) ?_
      refine vf_ior C (zdg dz_L_settle_1 6 rfl) ?_
      refine vf_put C (kd := 0) fl_L_56 fk_2_5 sh_5 rfl (by decide) rfl rfl (by decide) (zdg dz_L_settle_1 7 rfl) ?_
      generalize st u1 5 5 (ior (u1 5 5) (u1 9 3)) = u2
      refine vf_uw ?_
      exact hr _ _ _ _ (fun h => absurd h (by decide)) (zdg dz_L_settle_1 8 rfl)
    · refine vf_aload_n C (f := 1) (zdg dz_L_settle_0 6 rfl) 1 rfl rfl ?_
      refine vf_aload_n C (f := 0) (zdg dz_L_settle_0 7 rfl) 0 rfl rfl ?_
      refine vf_getp C fl_L_9 sh_9 rfl (by decide) rfl (x := 11) rfl (zdg dz_L_settle_0 8 rfl) ?_
      refine vf_iload_n C (f := 2) (zdg dz_L_settle_0 9 rfl) 2 rfl rfl ?_
      refine vf_iald C sh_10 (by decide) rfl (mz := 10) rfl (zdg dz_L_settle_0 10 rfl) ?_
      refine vf_aload_n C (f := 0) (zdg dz_L_settle_0 11 rfl) 0 rfl rfl ?_
      refine vf_getp C fl_L_15 sh_9 rfl (by decide) rfl (x := 12) rfl (zdg dz_L_settle_0 12 rfl) ?_
      refine vf_iload_n C (f := 2) (zdg dz_L_settle_0 13 rfl) 2 rfl rfl ?_
      refine vf_iald C sh_11 (by decide) rfl (mz := 10) rfl (zdg dz_L_settle_0 14 rfl) ?_
      refine vf_callVv C cy_F_add ml_L_47 rfl (ct_F_add _ _ _) (S := []) sh_5 (by decide) rfl (jrm_of hR rfl) rfl rfl (Nat.le_of_ble_eq_true rfl) (zdg dz_L_settle_0 15 rfl) (fun r3 u4 => ?_)
      refine vf_iinc C (z := 1) (L' := [(0, (2, 10)), (1, (2, 6))]) (zdg dz_L_settle_0 16 rfl) 2 rfl [0, 1] (jrI rfl rfl) hn (by decide) ?_
      generalize w32 (v2 + 1) = x5
      refine vf_ul ?_
      refine vf_goto C (off := (-27)) (tgt := 2) (zdg dz_L_settle_0 17 rfl) (by decide) ?_
      exact vf_perm [1, 2, 0] rfl (ih _ _)
def f_L_settle (w : Wd) : Option (Int × Wd) :=
  f_L_settle_2 FU 0 w
theorem ct_L_settle (w : Wd) : Ct y_L_settle prog_5_method_5_code 3 none 3 9 [(2, 10), (2, 6)] w (f_L_settle w) := by
  refine ct_of (by decide +kernel) (Or.inr (Or.inr (Or.inr ⟨rfl, rfl⟩))) (Nat.le_of_ble_eq_true rfl) ?_
  intro X Qf ad C hn hR hr
  unfold f_L_settle
  show VF X Qf ad NF 0 0 w 0 [(0, (2, 10)), (1, (2, 6))] [] _
  refine vf_iconst C (z := 0) (zdg dz_L_settle_0 0 rfl) (jz rfl) ?_
  refine vf_istore_n C (f := 2) (L' := [(0, (2, 10)), (1, (2, 6))]) (zdg dz_L_settle_0 1 rfl) [0, 1] (jrI rfl rfl) hn (by decide) rfl ?_
  exact vf_perm [1, 2, 0] rfl (t_L_settle_2 C hn hR hr FU _ _)
def f_O_guests (v0 : Int) (w : Wd) : Option (Int × Wd) :=
  some (iand (ior v0 (ishr v0 10)) 1023, w)
theorem ct_O_guests (v0 : Int) (w : Wd) : Ct y_O_guests prog_11_method_2_code 1 (some .int) 1 0 [(0, v0)] w (f_O_guests v0 w) := by
  refine ct_of (by decide +kernel) (Or.inl ⟨rfl, rfl⟩) (Nat.le_of_ble_eq_true rfl) ?_
  intro X Qf ad C hn hR hr
  unfold f_O_guests
  show VF X Qf ad NF 0 0 w 0 [(0, (0, v0))] [] _
  refine vf_iload_n C (f := 0) (zdg dz_O_guests_0 0 rfl) 0 rfl rfl ?_
  refine vf_iload_n C (f := 0) (zdg dz_O_guests_0 1 rfl) 0 rfl rfl ?_
  refine vf_bipush C (z := 10) (zdg dz_O_guests_0 2 rfl) (by decide +kernel) (jz rfl) ?_
  refine vf_ishr C (zdg dz_O_guests_0 3 rfl) ?_
  refine vf_ior C (zdg dz_O_guests_0 4 rfl) ?_
  refine vf_sipush C (z := 1023) (zdg dz_O_guests_0 5 rfl) (by decide +kernel) (jz rfl) ?_
  refine vf_iand C (zdg dz_O_guests_0 6 rfl) ?_
  exact hr _ _ _ _ (fun h => absurd h (by decide)) (zdg dz_O_guests_0 7 rfl)
def f_F_guests (w : Wd) : Option (Int × Wd) :=
  jcall (f_O_guests (w 5 4) w) fun r1 u2 =>
  some (r1, u2)
theorem ct_F_guests (w : Wd) : Ct y_F_guests prog_3_method_4_code 1 (some .int) 2 0 [(2, 6)] w (f_F_guests w) := by
  refine ct_of (by decide +kernel) (Or.inl ⟨rfl, rfl⟩) (Nat.le_of_ble_eq_true rfl) ?_
  intro X Qf ad C hn hR hr
  unfold f_F_guests
  show VF X Qf ad NF 0 0 w 0 [(0, (2, 6))] [] _
  refine vf_aload_n C (f := 0) (zdg dz_F_guests_0 0 rfl) 0 rfl rfl ?_
  refine vf_get C (kd := 0) fl_F_31 sh_5 rfl (by decide) rfl rfl (zdg dz_F_guests_0 1 rfl) ?_
  refine vf_callSi C cy_O_guests ml_F_34 (ct_O_guests _ _) (S := []) (jrm_of hR rfl) rfl rfl (Nat.le_of_ble_eq_true rfl) (zdg dz_F_guests_0 2 rfl) (fun r1 u2 => ?_)
  exact hr _ _ _ _ (fun h => absurd h (by decide)) (zdg dz_F_guests_0 3 rfl)
def f_D_isOne (v1 : Int) (w : Wd) : Option (Int × Wd) :=
  if v1 < 0 then
    some (0, w)
  else
    if (60 : Int) < v1 then
      some (0, w)
    else
      if (w 15 3) < v1 then
        some (0, w)
      else
        some (1, w)
theorem ct_D_isOne (v1 : Int) (w : Wd) : Ct y_D_isOne prog_2_method_2_code 2 (some .boolean) 1 4 [(2, 16), (0, v1)] w (f_D_isOne v1 w) := by
  refine ct_of (by decide +kernel) (Or.inr (Or.inr (Or.inl ⟨rfl, rfl⟩))) (Nat.le_of_ble_eq_true rfl) ?_
  intro X Qf ad C hn hR hr
  unfold f_D_isOne
  show VF X Qf ad NF 0 0 w 0 [(0, (2, 16)), (1, (0, v1))] [] _
  refine vf_iload_n C (f := 1) (zdg dz_D_isOne_0 0 rfl) 1 rfl rfl ?_
  refine vf_if_lt C (off := 21) (tgt := 22) (zdg dz_D_isOne_0 1 rfl) (by decide) ?_ ?_
  · refine vf_iconst C (z := 0) (zdg dz_D_isOne_0 11 rfl) (jz rfl) ?_
    exact hr _ _ _ _ (fun _ => Or.inl rfl) (zdg dz_D_isOne_0 12 rfl)
  · refine vf_iload_n C (f := 1) (zdg dz_D_isOne_0 2 rfl) 1 rfl rfl ?_
    refine vf_bipush C (z := 60) (zdg dz_D_isOne_0 3 rfl) (by decide +kernel) (jz rfl) ?_
    refine vf_icmp_gt C (off := 15) (tgt := 22) (zdg dz_D_isOne_0 4 rfl) (by decide) ?_ ?_
    · refine vf_iconst C (z := 0) (zdg dz_D_isOne_0 11 rfl) (jz rfl) ?_
      exact hr _ _ _ _ (fun _ => Or.inl rfl) (zdg dz_D_isOne_0 12 rfl)
    · refine vf_iload_n C (f := 1) (zdg dz_D_isOne_0 5 rfl) 1 rfl rfl ?_
      refine vf_aload_n C (f := 0) (zdg dz_D_isOne_0 6 rfl) 0 rfl rfl ?_
      refine vf_get C (kd := 0) fl_D_21 sh_15 rfl (by decide) rfl rfl (zdg dz_D_isOne_0 7 rfl) ?_
      refine vf_icmp_gt C (off := 7) (tgt := 22) (zdg dz_D_isOne_0 8 rfl) (by decide) ?_ ?_
      · refine vf_iconst C (z := 0) (zdg dz_D_isOne_0 11 rfl) (jz rfl) ?_
        exact hr _ _ _ _ (fun _ => Or.inl rfl) (zdg dz_D_isOne_0 12 rfl)
      · refine vf_iconst C (z := 1) (zdg dz_D_isOne_0 9 rfl) (jz rfl) ?_
        refine vf_goto C (off := 4) (tgt := 23) (zdg dz_D_isOne_0 10 rfl) (by decide) ?_
        exact hr _ _ _ _ (fun _ => Or.inr rfl) (zdg dz_D_isOne_0 12 rfl)
def f_D_noteGuests (v1 : Int) (w : Wd) : Option (Int × Wd) :=
  jcall (f_D_isOne (w 15 3) w) fun r1 u2 =>
  if r1 = 0 then
    some (0, u2)
  else
    jgd ((0 : Int) ≤ (u2 15 3) ∧ (u2 15 3) < 61) <|
    jlw (st u2 16 (u2 15 3).toNat v1) fun u3 =>
    some (0, u3)
theorem ct_D_noteGuests (v1 : Int) (w : Wd) : Ct y_D_noteGuests prog_2_method_5_code 2 none 2 9 [(2, 16), (0, v1)] w (f_D_noteGuests v1 w) := by
  refine ct_of (by decide +kernel) (Or.inr (Or.inr (Or.inr ⟨rfl, rfl⟩))) (Nat.le_of_ble_eq_true rfl) ?_
  intro X Qf ad C hn hR hr
  unfold f_D_noteGuests
  show VF X Qf ad NF 0 0 w 0 [(0, (2, 16)), (1, (0, v1))] [] _
  refine vf_aload_n C (f := 0) (zdg dz_D_noteGuests_0 0 rfl) 0 rfl rfl ?_
  refine vf_aload_n C (f := 0) (zdg dz_D_noteGuests_0 1 rfl) 0 rfl rfl ?_
  refine vf_get C (kd := 0) fl_D_21 sh_15 rfl (by decide) rfl rfl (zdg dz_D_noteGuests_0 2 rfl) ?_
  refine vf_callVz C cy_D_isOne ml_D_25 rfl (ct_D_isOne _ _) (S := []) sh_15 (by decide) rfl (jrm_of hR rfl) rfl rfl (Nat.le_of_ble_eq_true rfl) (zdg dz_D_noteGuests_0 3 rfl) (fun r1 u2 => ?_)
  refine vf_if_eq C (off := 13) (tgt := 21) (zdg dz_D_noteGuests_0 4 rfl) (by decide) ?_ ?_
  · exact hr _ _ _ _ (fun h => absurd h (by decide)) (zdg dz_D_noteGuests_0 11 rfl)
  · refine vf_aload_n C (f := 0) (zdg dz_D_noteGuests_0 5 rfl) 0 rfl rfl ?_
    refine vf_getp C fl_D_9 sh_15 rfl (by decide) rfl (x := 17) rfl (zdg dz_D_noteGuests_0 6 rfl) ?_
    refine vf_aload_n C (f := 0) (zdg dz_D_noteGuests_0 7 rfl) 0 rfl rfl ?_
    refine vf_get C (kd := 0) fl_D_21 sh_15 rfl (by decide) rfl rfl (zdg dz_D_noteGuests_0 8 rfl) ?_
    refine vf_iload_n C (f := 1) (zdg dz_D_noteGuests_0 9 rfl) 1 rfl rfl ?_
    refine vf_iast C sh_16 (by decide) rfl (mz := 61) rfl (zdg dz_D_noteGuests_0 10 rfl) ?_
    generalize st u2 16 (u2 15 3).toNat v1 = u3
    refine vf_uw ?_
    exact hr _ _ _ _ (fun h => absurd h (by decide)) (zdg dz_D_noteGuests_0 11 rfl)
def f_S_forget (w : Wd) : Option (Int × Wd) :=
  jlw (st w 28 9 0) fun u1 =>
  some (0, u1)
theorem ct_S_forget (w : Wd) : Ct y_S_forget prog_9_method_2_code 1 none 1 9 [(2, 29)] w (f_S_forget w) := by
  refine ct_of (by decide +kernel) (Or.inr (Or.inr (Or.inr ⟨rfl, rfl⟩))) (Nat.le_of_ble_eq_true rfl) ?_
  intro X Qf ad C hn hR hr
  unfold f_S_forget
  show VF X Qf ad NF 0 0 w 0 [(0, (2, 29))] [] _
  refine vf_aload_n C (f := 0) (zdg dz_S_forget_0 0 rfl) 0 rfl rfl ?_
  refine vf_iconst C (z := 0) (zdg dz_S_forget_0 1 rfl) (jz rfl) ?_
  refine vf_putzl C fl_S_34 fk_9_9 sh_28 rfl (by decide) rfl (Or.inl rfl) (zdg dz_S_forget_0 2 rfl) ?_
  generalize st w 28 9 0 = u1
  refine vf_uw ?_
  exact hr _ _ _ _ (fun h => absurd h (by decide)) (zdg dz_S_forget_0 3 rfl)
def f_E_peopleCame (w : Wd) : Option (Int × Wd) :=
  jcall (f_F_guests w) fun r1 u2 =>
  jcall (f_D_noteGuests r1 u2) fun r3 u4 =>
  jlw (st u4 15 4 0) fun u5 =>
  jcall (f_S_forget u5) fun r6 u7 =>
  some (0, u7)
theorem ct_E_peopleCame (w : Wd) : Ct y_E_peopleCame prog_1_method_52_code 1 none 3 9 [(2, 1)] w (f_E_peopleCame w) := by
  refine ct_of (by decide +kernel) (Or.inr (Or.inr (Or.inr ⟨rfl, rfl⟩))) (Nat.le_of_ble_eq_true rfl) ?_
  intro X Qf ad C hn hR hr
  unfold f_E_peopleCame
  show VF X Qf ad NF 0 0 w 0 [(0, (2, 1))] [] _
  refine vf_aload_n C (f := 0) (zdg dz_E_peopleCame_0 0 rfl) 0 rfl rfl ?_
  refine vf_getp C fl_E_47 sh_0 rfl (by decide) rfl (x := 16) rfl (zdg dz_E_peopleCame_0 1 rfl) ?_
  refine vf_aload_n C (f := 0) (zdg dz_E_peopleCame_0 2 rfl) 0 rfl rfl ?_
  refine vf_getp C fl_E_26 sh_0 rfl (by decide) rfl (x := 6) rfl (zdg dz_E_peopleCame_0 3 rfl) ?_
  refine vf_callVi C cy_F_guests ml_E_136 rfl (ct_F_guests _) (S := [(2, 16)]) sh_5 (by decide) rfl (jrm_of hR rfl) rfl rfl (Nat.le_of_ble_eq_true rfl) (zdg dz_E_peopleCame_0 4 rfl) (fun r1 u2 => ?_)
  refine vf_callVv C cy_D_noteGuests ml_E_366 rfl (ct_D_noteGuests _ _) (S := []) sh_15 (by decide) rfl (jrm_of hR rfl) rfl rfl (Nat.le_of_ble_eq_true rfl) (zdg dz_E_peopleCame_0 5 rfl) (fun r3 u4 => ?_)
  refine vf_aload_n C (f := 0) (zdg dz_E_peopleCame_0 6 rfl) 0 rfl rfl ?_
  refine vf_getp C fl_E_47 sh_0 rfl (by decide) rfl (x := 16) rfl (zdg dz_E_peopleCame_0 7 rfl) ?_
  refine vf_iconst C (z := 0) (zdg dz_E_peopleCame_0 8 rfl) (jz rfl) ?_
  refine vf_put C (kd := 0) fl_E_355 fk_5_4 sh_15 rfl (by decide) rfl rfl (by decide) (zdg dz_E_peopleCame_0 9 rfl) ?_
  generalize st u4 15 4 0 = u5
  refine vf_uw ?_
  refine vf_aload_n C (f := 0) (zdg dz_E_peopleCame_0 10 rfl) 0 rfl rfl ?_
  refine vf_getp C fl_E_68 sh_0 rfl (by decide) rfl (x := 29) rfl (zdg dz_E_peopleCame_0 11 rfl) ?_
  refine vf_callVv C cy_S_forget ml_E_162 rfl (ct_S_forget _) (S := []) sh_28 (by decide) rfl (jrm_of hR rfl) rfl rfl (Nat.le_of_ble_eq_true rfl) (zdg dz_E_peopleCame_0 12 rfl) (fun r6 u7 => ?_)
  exact hr _ _ _ _ (fun h => absurd h (by decide)) (zdg dz_E_peopleCame_0 13 rfl)
def f_E_land (w : Wd) : Option (Int × Wd) :=
  jcall (f_L_read (w 5 3) w) fun r1 u2 =>
  jcall (f_T_clear u2) fun r3 u4 =>
  if r1 ≤ 0 then
    some (r1, u4)
  else
    jcall (f_L_settle u4) fun r5 u6 =>
    jcall (f_E_peopleCame u6) fun r7 u8 =>
    some (r1, u8)
theorem ct_E_land (w : Wd) : Ct y_E_land prog_1_method_4_code 2 (some .int) 5 0 [(2, 1)] w (f_E_land w) := by
  refine ct_of (by decide +kernel) (Or.inl ⟨rfl, rfl⟩) (Nat.le_of_ble_eq_true rfl) ?_
  intro X Qf ad C hn hR hr
  unfold f_E_land
  show VF X Qf ad NF 0 0 w 0 [(0, (2, 1))] [] _
  refine vf_aload_n C (f := 0) (zdg dz_E_land_0 0 rfl) 0 rfl rfl ?_
  refine vf_getp C fl_E_33 sh_0 rfl (by decide) rfl (x := 10) rfl (zdg dz_E_land_0 1 rfl) ?_
  refine vf_aload_n C (f := 0) (zdg dz_E_land_0 2 rfl) 0 rfl rfl ?_
  refine vf_getp C fl_E_12 sh_0 rfl (by decide) rfl (x := 2) rfl (zdg dz_E_land_0 3 rfl) ?_
  refine vf_aload_n C (f := 0) (zdg dz_E_land_0 4 rfl) 0 rfl rfl ?_
  refine vf_getp C fl_E_26 sh_0 rfl (by decide) rfl (x := 6) rfl (zdg dz_E_land_0 5 rfl) ?_
  refine vf_get C (kd := 0) fl_E_87 sh_5 rfl (by decide) rfl rfl (zdg dz_E_land_0 6 rfl) ?_
  refine vf_callVi C cy_L_read ml_E_91 rfl (ct_L_read _ _) (S := []) sh_9 (by decide) rfl (jrm_of hR rfl) rfl rfl (Nat.le_of_ble_eq_true rfl) (zdg dz_E_land_0 7 rfl) (fun r1 u2 => ?_)
  refine vf_istore_n C (f := 1) (L' := [(0, (2, 1))]) (zdg dz_E_land_0 8 rfl) [0] (jrI rfl rfl) hn (by decide) rfl ?_
  refine vf_aload_n C (f := 0) (zdg dz_E_land_0 9 rfl) 1 rfl rfl ?_
  refine vf_getp C fl_E_12 sh_0 rfl (by decide) rfl (x := 2) rfl (zdg dz_E_land_0 10 rfl) ?_
  refine vf_callVv C cy_T_clear ml_E_95 rfl (ct_T_clear _) (S := []) sh_1 (by decide) rfl (jrm_of hR rfl) rfl rfl (Nat.le_of_ble_eq_true rfl) (zdg dz_E_land_0 11 rfl) (fun r3 u4 => ?_)
  refine vf_iload_n C (f := 1) (zdg dz_E_land_0 12 rfl) 0 rfl rfl ?_
  refine vf_if_le C (off := 18) (tgt := 45) (zdg dz_E_land_0 13 rfl) (by decide) ?_ ?_
  · refine vf_iload_n C (f := 1) (zdg dz_E_land_0 21 rfl) 0 rfl rfl ?_
    exact hr _ _ _ _ (fun h => absurd h (by decide)) (zdg dz_E_land_0 22 rfl)
  · refine vf_aload_n C (f := 0) (zdg dz_E_land_0 14 rfl) 1 rfl rfl ?_
    refine vf_getp C fl_E_33 sh_0 rfl (by decide) rfl (x := 10) rfl (zdg dz_E_land_0 15 rfl) ?_
    refine vf_aload_n C (f := 0) (zdg dz_E_land_0 16 rfl) 1 rfl rfl ?_
    refine vf_getp C fl_E_26 sh_0 rfl (by decide) rfl (x := 6) rfl (zdg dz_E_land_0 17 rfl) ?_
    refine vf_callVv C cy_L_settle ml_E_98 rfl (ct_L_settle _) (S := []) sh_9 (by decide) rfl (jrm_of hR rfl) rfl rfl (Nat.le_of_ble_eq_true rfl) (zdg dz_E_land_0 18 rfl) (fun r5 u6 => ?_)
    refine vf_aload_n C (f := 0) (zdg dz_E_land_0 19 rfl) 1 rfl rfl ?_
    refine vf_callVv C cy_E_peopleCame ml_E_102 rfl (ct_E_peopleCame _) (S := []) sh_0 (by decide) rfl (jrm_of hR rfl) rfl rfl (Nat.le_of_ble_eq_true rfl) (zdg dz_E_land_0 20 rfl) (fun r7 u8 => ?_)
    refine vf_iload_n C (f := 1) (zdg dz_E_land_0 21 rfl) 0 rfl rfl ?_
    exact hr _ _ _ _ (fun h => absurd h (by decide)) (zdg dz_E_land_0 22 rfl)
def f_W_strength (v0 : Int) (w : Wd) : Option (Int × Wd) :=
  if v0 = 42 then
    some (3, w)
  else
  if v0 = 43 then
    some (2, w)
  else
  if v0 = 45 then
    some (2, w)
  else
  if v0 = 47 then
    some (3, w)
  else
  if v0 = 60 then
    some (1, w)
  else
  if v0 = 61 then
    some (1, w)
  else
  if v0 = 62 then
    some (1, w)
  else
  if v0 = 256 then
    some (4, w)
  else
  some (0, w)
theorem ct_W_strength (v0 : Int) (w : Wd) : Ct y_W_strength prog_12_method_7_code 1 (some .int) 1 0 [(0, v0)] w (f_W_strength v0 w) := by
  refine ct_of (by decide +kernel) (Or.inl ⟨rfl, rfl⟩) (Nat.le_of_ble_eq_true rfl) ?_
  intro X Qf ad C hn hR hr
  unfold f_W_strength
  show VF X Qf ad NF 0 0 w 0 [(0, (0, v0))] [] _
  refine vf_iload_n C (f := 0) (zdg dz_W_strength_0 0 rfl) 0 rfl rfl ?_
  refine vf_if _ (fun h42 => ?_) (fun h42 => ?_)
  · refine vf_lsw C (dflt := 83) (ps := #[(42, 79), (43, 77), (45, 77), (47, 79), (60, 75), (61, 75), (62, 75), (256, 81)]) (len := 75) (off := 79) (tgt := 80) (by decide +kernel) (by decide) (by rw [h42]; decide) (by decide) ?_
    refine vf_iconst C (z := 3) (zdg dz_W_strength_0 5 rfl) (jz rfl) ?_
    exact hr _ _ _ _ (fun h => absurd h (by decide)) (zdg dz_W_strength_0 6 rfl)
  refine vf_if _ (fun h43 => ?_) (fun h43 => ?_)
  · refine vf_lsw C (dflt := 83) (ps := #[(42, 79), (43, 77), (45, 77), (47, 79), (60, 75), (61, 75), (62, 75), (256, 81)]) (len := 75) (off := 77) (tgt := 78) (by decide +kernel) (by decide) (by rw [h43]; decide) (by decide) ?_
    refine vf_iconst C (z := 2) (zdg dz_W_strength_0 3 rfl) (jz rfl) ?_
    exact hr _ _ _ _ (fun h => absurd h (by decide)) (zdg dz_W_strength_0 4 rfl)
  refine vf_if _ (fun h45 => ?_) (fun h45 => ?_)
  · refine vf_lsw C (dflt := 83) (ps := #[(42, 79), (43, 77), (45, 77), (47, 79), (60, 75), (61, 75), (62, 75), (256, 81)]) (len := 75) (off := 77) (tgt := 78) (by decide +kernel) (by decide) (by rw [h45]; decide) (by decide) ?_
    refine vf_iconst C (z := 2) (zdg dz_W_strength_0 3 rfl) (jz rfl) ?_
    exact hr _ _ _ _ (fun h => absurd h (by decide)) (zdg dz_W_strength_0 4 rfl)
  refine vf_if _ (fun h47 => ?_) (fun h47 => ?_)
  · refine vf_lsw C (dflt := 83) (ps := #[(42, 79), (43, 77), (45, 77), (47, 79), (60, 75), (61, 75), (62, 75), (256, 81)]) (len := 75) (off := 79) (tgt := 80) (by decide +kernel) (by decide) (by rw [h47]; decide) (by decide) ?_
    refine vf_iconst C (z := 3) (zdg dz_W_strength_0 5 rfl) (jz rfl) ?_
    exact hr _ _ _ _ (fun h => absurd h (by decide)) (zdg dz_W_strength_0 6 rfl)
  refine vf_if _ (fun h60 => ?_) (fun h60 => ?_)
  · refine vf_lsw C (dflt := 83) (ps := #[(42, 79), (43, 77), (45, 77), (47, 79), (60, 75), (61, 75), (62, 75), (256, 81)]) (len := 75) (off := 75) (tgt := 76) (by decide +kernel) (by decide) (by rw [h60]; decide) (by decide) ?_
    refine vf_iconst C (z := 1) (zdg dz_W_strength_0 1 rfl) (jz rfl) ?_
    exact hr _ _ _ _ (fun h => absurd h (by decide)) (zdg dz_W_strength_0 2 rfl)
  refine vf_if _ (fun h61 => ?_) (fun h61 => ?_)
  · refine vf_lsw C (dflt := 83) (ps := #[(42, 79), (43, 77), (45, 77), (47, 79), (60, 75), (61, 75), (62, 75), (256, 81)]) (len := 75) (off := 75) (tgt := 76) (by decide +kernel) (by decide) (by rw [h61]; decide) (by decide) ?_
    refine vf_iconst C (z := 1) (zdg dz_W_strength_0 1 rfl) (jz rfl) ?_
    exact hr _ _ _ _ (fun h => absurd h (by decide)) (zdg dz_W_strength_0 2 rfl)
  refine vf_if _ (fun h62 => ?_) (fun h62 => ?_)
  · refine vf_lsw C (dflt := 83) (ps := #[(42, 79), (43, 77), (45, 77), (47, 79), (60, 75), (61, 75), (62, 75), (256, 81)]) (len := 75) (off := 75) (tgt := 76) (by decide +kernel) (by decide) (by rw [h62]; decide) (by decide) ?_
    refine vf_iconst C (z := 1) (zdg dz_W_strength_0 1 rfl) (jz rfl) ?_
    exact hr _ _ _ _ (fun h => absurd h (by decide)) (zdg dz_W_strength_0 2 rfl)
  refine vf_if _ (fun h256 => ?_) (fun h256 => ?_)
  · refine vf_lsw C (dflt := 83) (ps := #[(42, 79), (43, 77), (45, 77), (47, 79), (60, 75), (61, 75), (62, 75), (256, 81)]) (len := 75) (off := 81) (tgt := 82) (by decide +kernel) (by decide) (by rw [h256]; decide) (by decide) ?_
    refine vf_iconst C (z := 4) (zdg dz_W_strength_0 7 rfl) (jz rfl) ?_
    exact hr _ _ _ _ (fun h => absurd h (by decide)) (zdg dz_W_strength_0 8 rfl)
  refine vf_lsw C (dflt := 83) (ps := #[(42, 79), (43, 77), (45, 77), (47, 79), (60, 75), (61, 75), (62, 75), (256, 81)]) (len := 75) (off := 83) (tgt := 84) (by decide +kernel) (by decide) (by simp [Op.lookupswitch.offset, Ne.symm h42, Ne.symm h43, Ne.symm h45, Ne.symm h47, Ne.symm h60, Ne.symm h61, Ne.symm h62, Ne.symm h256]) (by decide) ?_
  refine vf_iconst C (z := 0) (zdg dz_W_strength_0 9 rfl) (jz rfl) ?_
  exact hr _ _ _ _ (fun h => absurd h (by decide)) (zdg dz_W_strength_0 10 rfl)
def f_W_write (v1 : Int) (w : Wd) : Option (Int × Wd) :=
  if (40 : Int) ≤ (w 19 5) then
    some (0, w)
  else
    jgd ((0 : Int) ≤ (w 19 5) ∧ (w 19 5) < 40) <|
    jlw (st w 21 (w 19 5).toNat v1) fun u1 =>
    jlw (st u1 19 5 (w32 ((u1 19 5) + 1))) fun u2 =>
    some (0, u2)
theorem ct_W_write (v1 : Int) (w : Wd) : Ct y_W_write prog_12_method_8_code 2 none 1 9 [(2, 20), (0, v1)] w (f_W_write v1 w) := by
  refine ct_of (by decide +kernel) (Or.inr (Or.inr (Or.inr ⟨rfl, rfl⟩))) (Nat.le_of_ble_eq_true rfl) ?_
  intro X Qf ad C hn hR hr
  unfold f_W_write
  show VF X Qf ad NF 0 0 w 0 [(0, (2, 20)), (1, (0, v1))] [] _
  refine vf_aload_n C (f := 0) (zdg dz_W_write_0 0 rfl) 0 rfl rfl ?_
  refine vf_get C (kd := 0) fl_W_31 sh_19 rfl (by decide) rfl rfl (zdg dz_W_write_0 1 rfl) ?_
  refine vf_aload_n C (f := 0) (zdg dz_W_write_0 2 rfl) 0 rfl rfl ?_
  refine vf_getp C fl_W_15 sh_19 rfl (by decide) rfl (x := 22) rfl (zdg dz_W_write_0 3 rfl) ?_
  refine vf_alen C sh_21 (by decide) (by decide) rfl (x := 40) rfl (jz rfl) (zdg dz_W_write_0 4 rfl) ?_
  refine vf_icmp_ge C (off := 23) (tgt := 32) (zdg dz_W_write_0 5 rfl) (by decide) ?_ ?_
  · exact hr _ _ _ _ (fun h => absurd h (by decide)) (zdg dz_W_write_0 18 rfl)
  · refine vf_aload_n C (f := 0) (zdg dz_W_write_0 6 rfl) 0 rfl rfl ?_
    refine vf_getp C fl_W_15 sh_19 rfl (by decide) rfl (x := 22) rfl (zdg dz_W_write_0 7 rfl) ?_
    refine vf_aload_n C (f := 0) (zdg dz_W_write_0 8 rfl) 0 rfl rfl ?_
    refine vf_get C (kd := 0) fl_W_31 sh_19 rfl (by decide) rfl rfl (zdg dz_W_write_0 9 rfl) ?_
    refine vf_iload_n C (f := 1) (zdg dz_W_write_0 10 rfl) 1 rfl rfl ?_
    refine vf_iast C sh_21 (by decide) rfl (mz := 40) rfl (zdg dz_W_write_0 11 rfl) ?_
    generalize st w 21 (w 19 5).toNat v1 = u1
    refine vf_uw ?_
    refine vf_aload_n C (f := 0) (zdg dz_W_write_0 12 rfl) 0 rfl rfl ?_
    refine vf_dup C (zdg dz_W_write_0 13 rfl) (Nat.succ_ne_self 1) ?_
    refine vf_get C (kd := 0) fl_W_31 sh_19 rfl (by decide) rfl rfl (zdg dz_W_write_0 14 rfl) ?_
    refine vf_iconst C (z := 1) (zdg dz_W_write_0 15 rfl) (jz rfl) ?_
    refine vf_iadd C (zdg dz_W_write_0 16 rfl) ?_
    refine vf_put C (kd := 0) fl_W_31 fk_7_5 sh_19 rfl (by decide) rfl rfl (by decide) (zdg dz_W_write_0 17 rfl) ?_
    generalize st u1 19 5 (w32 ((u1 19 5) + 1)) = u2
    refine vf_uw ?_
    exact hr _ _ _ _ (fun h => absurd h (by decide)) (zdg dz_W_write_0 18 rfl)
def f_W_release_7 : Nat → Int → Int → Wd → Option (Int × Wd)
  | 0, _, _, _ => none
  | n + 1, v1, v2, w =>
    if v2 < 0 then
      some (0, w)
    else
      jgd ((0 : Int) ≤ v2 ∧ v2 < 40) <|
      jcall (f_W_strength (w 22 v2.toNat) w) fun r2 u3 =>
      if r2 < v1 then
        some (0, u3)
      else
        jgd ((0 : Int) ≤ v2 ∧ v2 < 40) <|
        jcall (f_W_write (w32 (-(u3 22 v2.toNat))) u3) fun r4 u5 =>
        jlw (st u5 19 6 v2) fun u6 =>
        jlet (w32 (v2 + (-1))) fun x7 =>
        f_W_release_7 n v1 x7 u6
theorem t_W_release_7 {X : jX} {Qf : Int × Wd → State → Prop} {ad : Nat → Nat} (C : Cx X prog_12_method_10_code "EachBringsAnother$Wish") (hn : xn X = 3) (hR : xR X = rmD 2) (hr : Rt X Qf ad prog_12_method_10_code 9) : ∀ (n : Nat) (v1 v2 : Int) (w : Wd), VF X Qf ad NF 0 0 w 7 [(0, (2, 20)), (1, (0, v1)), (2, (0, v2))] [] (f_W_release_7 n v1 v2 w) := by
  intro n
  induction n with
  | zero => intros; exact vf_no
  | succ n ih =>
    intro v1 v2 w
    rw [f_W_release_7]
    refine vf_iload_n C (f := 2) (zdg dz_W_release_0 5 rfl) 2 rfl rfl ?_
    refine vf_if_lt C (off := 38) (tgt := 46) (zdg dz_W_release_0 6 rfl) (by decide) ?_ ?_
    · exact hr _ _ _ _ (fun h => absurd h (by decide)) (zdg dz_W_release_1 2 rfl)
    · refine vf_aload_n C (f := 0) (zdg dz_W_release_0 7 rfl) 0 rfl rfl ?_
      refine vf_getp C fl_W_18 sh_19 rfl (by decide) rfl (x := 23) rfl (zdg dz_W_release_0 8 rfl) ?_
      refine vf_iload_n C (f := 2) (zdg dz_W_release_0 9 rfl) 2 rfl rfl ?_
      refine vf_iald C sh_22 (by decide) rfl (mz := 40) rfl (zdg dz_W_release_0 10 rfl) ?_
      refine vf_callSi C cy_W_strength ml_W_83 (ct_W_strength _ _) (S := []) (jrm_of hR rfl) rfl rfl (Nat.le_of_ble_eq_true rfl) (zdg dz_W_release_0 11 rfl) (fun r2 u3 => ?_)
      refine vf_iload_n C (f := 1) (zdg dz_W_release_0 12 rfl) 1 rfl rfl ?_
      refine vf_icmp_lt C (off := 25) (tgt := 46) (zdg dz_W_release_0 13 rfl) (by decide) ?_ ?_
      · exact hr _ _ _ _ (fun h => absurd h (by decide)) (zdg dz_W_release_1 2 rfl)
      · refine vf_aload_n C (f := 0) (zdg dz_W_release_0 14 rfl) 0 rfl rfl ?_
        refine vf_aload_n C (f := 0) (zdg dz_W_release_0 15 rfl) 0 rfl rfl ?_
        refine vf_getp C fl_W_18 sh_19 rfl (by decide) rfl (x := 23) rfl (zdg dz_W_release_0 16 rfl) ?_
        refine vf_iload_n C (f := 2) (zdg dz_W_release_0 17 rfl) 2 rfl rfl ?_
        refine vf_iald C sh_22 (by decide) rfl (mz := 40) rfl (zdg dz_W_release_0 18 rfl) ?_
        refine vf_ineg C (zdg dz_W_release_0 19 rfl) ?_
        refine vf_callVv C cy_W_write ml_W_77 rfl (ct_W_write _ _) (S := []) sh_19 (by decide) rfl (jrm_of hR rfl) rfl rfl (Nat.le_of_ble_eq_true rfl) (zdg dz_W_release_0 20 rfl) (fun r4 u5 => ?_)
        refine vf_aload_n C (f := 0) (zdg dz_W_release_0 21 rfl) 0 rfl rfl ?_
        refine vf_iload_n C (f := 2) (zdg dz_W_release_0 22 rfl) 2 rfl rfl ?_
        refine vf_put C (kd := 0) fl_W_34 fk_7_6 sh_19 rfl (by decide) rfl rfl (by decide) (zdg dz_W_release_0 23 rfl) ?_
        generalize st u5 19 6 v2 = u6
        refine vf_uw ?_
        refine vf_iinc C (z := (-1)) (L' := [(0, (2, 20)), (1, (0, v1))]) (zdg dz_W_release_1 0 rfl) 2 rfl [0, 1] (jrI rfl rfl) hn (by decide) ?_
        generalize w32 (v2 + (-1)) = x7
        refine vf_ul ?_
        refine vf_goto C (off := (-36)) (tgt := 7) (zdg dz_W_release_1 1 rfl) (by decide) ?_
        exact vf_perm [1, 2, 0] rfl (ih _ _ _)
def f_W_release (v1 : Int) (w : Wd) : Option (Int × Wd) :=
  jlet (w32 ((w 19 6) - 1)) fun x1 =>
  f_W_release_7 FU v1 x1 w
theorem ct_W_release (v1 : Int) (w : Wd) : Ct y_W_release prog_12_method_10_code 3 none 2 9 [(2, 20), (0, v1)] w (f_W_release v1 w) := by
  refine ct_of (by decide +kernel) (Or.inr (Or.inr (Or.inr ⟨rfl, rfl⟩))) (Nat.le_of_ble_eq_true rfl) ?_
  intro X Qf ad C hn hR hr
  unfold f_W_release
  show VF X Qf ad NF 0 0 w 0 [(0, (2, 20)), (1, (0, v1))] [] _
  refine vf_aload_n C (f := 0) (zdg dz_W_release_0 0 rfl) 0 rfl rfl ?_
  refine vf_get C (kd := 0) fl_W_34 sh_19 rfl (by decide) rfl rfl (zdg dz_W_release_0 1 rfl) ?_
  refine vf_iconst C (z := 1) (zdg dz_W_release_0 2 rfl) (jz rfl) ?_
  refine vf_isub C (zdg dz_W_release_0 3 rfl) ?_
  generalize w32 ((w 19 6) - 1) = x1
  refine vf_ul ?_
  refine vf_istore_n C (f := 2) (L' := [(0, (2, 20)), (1, (0, v1))]) (zdg dz_W_release_0 4 rfl) [0, 1] (jrI rfl rfl) hn (by decide) rfl ?_
  exact vf_perm [1, 2, 0] rfl (t_W_release_7 C hn hR hr FU _ _ _)
def f_W_await (v1 : Int) (w : Wd) : Option (Int × Wd) :=
  if (40 : Int) ≤ (w 19 6) then
    some (0, w)
  else
    jgd ((0 : Int) ≤ (w 19 6) ∧ (w 19 6) < 40) <|
    jlw (st w 22 (w 19 6).toNat v1) fun u1 =>
    jlw (st u1 19 6 (w32 ((u1 19 6) + 1))) fun u2 =>
    some (0, u2)
theorem ct_W_await (v1 : Int) (w : Wd) : Ct y_W_await prog_12_method_9_code 2 none 1 9 [(2, 20), (0, v1)] w (f_W_await v1 w) := by
  refine ct_of (by decide +kernel) (Or.inr (Or.inr (Or.inr ⟨rfl, rfl⟩))) (Nat.le_of_ble_eq_true rfl) ?_
  intro X Qf ad C hn hR hr
  unfold f_W_await
  show VF X Qf ad NF 0 0 w 0 [(0, (2, 20)), (1, (0, v1))] [] _
  refine vf_aload_n C (f := 0) (zdg dz_W_await_0 0 rfl) 0 rfl rfl ?_
  refine vf_get C (kd := 0) fl_W_34 sh_19 rfl (by decide) rfl rfl (zdg dz_W_await_0 1 rfl) ?_
  refine vf_aload_n C (f := 0) (zdg dz_W_await_0 2 rfl) 0 rfl rfl ?_
  refine vf_getp C fl_W_18 sh_19 rfl (by decide) rfl (x := 23) rfl (zdg dz_W_await_0 3 rfl) ?_
  refine vf_alen C sh_22 (by decide) (by decide) rfl (x := 40) rfl (jz rfl) (zdg dz_W_await_0 4 rfl) ?_
  refine vf_icmp_ge C (off := 23) (tgt := 32) (zdg dz_W_await_0 5 rfl) (by decide) ?_ ?_
  · exact hr _ _ _ _ (fun h => absurd h (by decide)) (zdg dz_W_await_0 18 rfl)
  · refine vf_aload_n C (f := 0) (zdg dz_W_await_0 6 rfl) 0 rfl rfl ?_
    refine vf_getp C fl_W_18 sh_19 rfl (by decide) rfl (x := 23) rfl (zdg dz_W_await_0 7 rfl) ?_
    refine vf_aload_n C (f := 0) (zdg dz_W_await_0 8 rfl) 0 rfl rfl ?_
    refine vf_get C (kd := 0) fl_W_34 sh_19 rfl (by decide) rfl rfl (zdg dz_W_await_0 9 rfl) ?_
    refine vf_iload_n C (f := 1) (zdg dz_W_await_0 10 rfl) 1 rfl rfl ?_
    refine vf_iast C sh_22 (by decide) rfl (mz := 40) rfl (zdg dz_W_await_0 11 rfl) ?_
    generalize st w 22 (w 19 6).toNat v1 = u1
    refine vf_uw ?_
    refine vf_aload_n C (f := 0) (zdg dz_W_await_0 12 rfl) 0 rfl rfl ?_
    refine vf_dup C (zdg dz_W_await_0 13 rfl) (Nat.succ_ne_self 1) ?_
    refine vf_get C (kd := 0) fl_W_34 sh_19 rfl (by decide) rfl rfl (zdg dz_W_await_0 14 rfl) ?_
    refine vf_iconst C (z := 1) (zdg dz_W_await_0 15 rfl) (jz rfl) ?_
    refine vf_iadd C (zdg dz_W_await_0 16 rfl) ?_
    refine vf_put C (kd := 0) fl_W_34 fk_7_6 sh_19 rfl (by decide) rfl rfl (by decide) (zdg dz_W_await_0 17 rfl) ?_
    generalize st u1 19 6 (w32 ((u1 19 6) + 1)) = u2
    refine vf_uw ?_
    exact hr _ _ _ _ (fun h => absurd h (by decide)) (zdg dz_W_await_0 18 rfl)
def f_W_takeDigit (v1 : Int) (w : Wd) : Option (Int × Wd) :=
  if (w 19 8) = 0 then
    some (0, w)
  else
    if (w 19 8) = 3 then
      some (0, w)
    else
      if (w 19 5) = 0 then
        some (0, w)
      else
        jgd ((0 : Int) ≤ (w32 ((w 19 5) - 1)) ∧ (w32 ((w 19 5) - 1)) < 40) <|
        jgd ((0 : Int) ≤ (w32 ((w 19 5) - 1)) ∧ (w32 ((w 19 5) - 1)) < 40) <|
        jlw (st w 21 (w32 ((w 19 5) - 1)).toNat ((w32 ((w32 ((w 21 (w32 ((w 19 5) - 1)).toNat) * 10)) + v1)))) fun u1 =>
        jlw (st u1 19 8 (w32 ((u1 19 8) + 1))) fun u2 =>
        some (1, u2)
theorem ct_W_takeDigit (v1 : Int) (w : Wd) : Ct y_W_takeDigit prog_12_method_5_code 2 (some .boolean) 1 4 [(2, 20), (0, v1)] w (f_W_takeDigit v1 w) := by
  refine ct_of (by decide +kernel) (Or.inr (Or.inr (Or.inl ⟨rfl, rfl⟩))) (Nat.le_of_ble_eq_true rfl) ?_
  intro X Qf ad C hn hR hr
  unfold f_W_takeDigit
  show VF X Qf ad NF 0 0 w 0 [(0, (2, 20)), (1, (0, v1))] [] _
  refine vf_aload_n C (f := 0) (zdg dz_W_takeDigit_0 0 rfl) 0 rfl rfl ?_
  refine vf_get C (kd := 0) fl_W_40 sh_19 rfl (by decide) rfl rfl (zdg dz_W_takeDigit_0 1 rfl) ?_
  refine vf_if_eq C (off := 18) (tgt := 22) (zdg dz_W_takeDigit_0 2 rfl) (by decide) ?_ ?_
  · refine vf_iconst C (z := 0) (zdg dz_W_takeDigit_0 10 rfl) (jz rfl) ?_
    exact hr _ _ _ _ (fun _ => Or.inl rfl) (zdg dz_W_takeDigit_0 11 rfl)
  · refine vf_aload_n C (f := 0) (zdg dz_W_takeDigit_0 3 rfl) 0 rfl rfl ?_
    refine vf_get C (kd := 0) fl_W_40 sh_19 rfl (by decide) rfl rfl (zdg dz_W_takeDigit_0 4 rfl) ?_
    refine vf_iconst C (z := 3) (zdg dz_W_takeDigit_0 5 rfl) (jz rfl) ?_
    refine vf_icmp_eq C (off := 10) (tgt := 22) (zdg dz_W_takeDigit_0 6 rfl) (by decide) ?_ ?_
    · refine vf_iconst C (z := 0) (zdg dz_W_takeDigit_0 10 rfl) (jz rfl) ?_
      exact hr _ _ _ _ (fun _ => Or.inl rfl) (zdg dz_W_takeDigit_0 11 rfl)
    · refine vf_aload_n C (f := 0) (zdg dz_W_takeDigit_0 7 rfl) 0 rfl rfl ?_
      refine vf_get C (kd := 0) fl_W_31 sh_19 rfl (by decide) rfl rfl (zdg dz_W_takeDigit_0 8 rfl) ?_
      refine vf_if_ne C (off := 5) (tgt := 24) (zdg dz_W_takeDigit_0 9 rfl) (by decide) ?_ ?_
      · refine vf_aload_n C (f := 0) (zdg dz_W_takeDigit_0 12 rfl) 0 rfl rfl ?_
        refine vf_getp C fl_W_15 sh_19 rfl (by decide) rfl (x := 22) rfl (zdg dz_W_takeDigit_0 13 rfl) ?_
        refine vf_aload_n C (f := 0) (zdg dz_W_takeDigit_0 14 rfl) 0 rfl rfl ?_
        refine vf_get C (kd := 0) fl_W_31 sh_19 rfl (by decide) rfl rfl (zdg dz_W_takeDigit_0 15 rfl) ?_
        refine vf_iconst C (z := 1) (zdg dz_W_takeDigit_0 16 rfl) (jz rfl) ?_
        refine vf_isub C (zdg dz_W_takeDigit_0 17 rfl) ?_
        refine vf_aload_n C (f := 0) (zdg dz_W_takeDigit_0 18 rfl) 0 rfl rfl ?_
        refine vf_getp C fl_W_15 sh_19 rfl (by decide) rfl (x := 22) rfl (zdg dz_W_takeDigit_0 19 rfl) ?_
        refine vf_aload_n C (f := 0) (zdg dz_W_takeDigit_0 20 rfl) 0 rfl rfl ?_
        refine vf_get C (kd := 0) fl_W_31 sh_19 rfl (by decide) rfl rfl (zdg dz_W_takeDigit_0 21 rfl) ?_
        refine vf_iconst C (z := 1) (zdg dz_W_takeDigit_0 22 rfl) (jz rfl) ?_
        refine vf_isub C (zdg dz_W_takeDigit_0 23 rfl) ?_
        refine vf_iald C sh_21 (by decide) rfl (mz := 40) rfl (zdg dz_W_takeDigit_1 0 rfl) ?_
        refine vf_bipush C (z := 10) (zdg dz_W_takeDigit_1 1 rfl) (by decide +kernel) (jz rfl) ?_
        refine vf_imul C (zdg dz_W_takeDigit_1 2 rfl) ?_
        refine vf_iload_n C (f := 1) (zdg dz_W_takeDigit_1 3 rfl) 1 rfl rfl ?_
        refine vf_iadd C (zdg dz_W_takeDigit_1 4 rfl) ?_
        refine vf_iast C sh_21 (by decide) rfl (mz := 40) rfl (zdg dz_W_takeDigit_1 5 rfl) ?_
        generalize st w 21 (w32 ((w 19 5) - 1)).toNat ((w32 ((w32 ((w 21 (w32 ((w 19 5) - 1)).toNat) * 10)) + v1))) = u1
        refine vf_uw ?_
        refine vf_aload_n C (f := 0) (zdg dz_W_takeDigit_1 6 rfl) 0 rfl rfl ?_
        refine vf_dup C (zdg dz_W_takeDigit_1 7 rfl) (Nat.succ_ne_self 1) ?_
        refine vf_get C (kd := 0) fl_W_40 sh_19 rfl (by decide) rfl rfl (zdg dz_W_takeDigit_1 8 rfl) ?_
        refine vf_iconst C (z := 1) (zdg dz_W_takeDigit_1 9 rfl) (jz rfl) ?_
        refine vf_iadd C (zdg dz_W_takeDigit_1 10 rfl) ?_
        refine vf_put C (kd := 0) fl_W_40 fk_7_8 sh_19 rfl (by decide) rfl rfl (by decide) (zdg dz_W_takeDigit_1 11 rfl) ?_
        generalize st u1 19 8 (w32 ((u1 19 8) + 1)) = u2
        refine vf_uw ?_
        refine vf_iconst C (z := 1) (zdg dz_W_takeDigit_1 12 rfl) (jz rfl) ?_
        exact hr _ _ _ _ (fun _ => Or.inr rfl) (zdg dz_W_takeDigit_1 13 rfl)
      · refine vf_iconst C (z := 0) (zdg dz_W_takeDigit_0 10 rfl) (jz rfl) ?_
        exact hr _ _ _ _ (fun _ => Or.inl rfl) (zdg dz_W_takeDigit_0 11 rfl)
def f_W_takeBehindThing_127 (v1 v2 s1 s2 : Int) (w : Wd) : Option (Int × Wd) :=
  jlw (st w 19 9 (ior s1 s2)) fun u4 =>
  jcall (f_W_release v2 u4) fun r5 u6 =>
  jcall (f_W_await v1 u6) fun r7 u8 =>
  jlw (st u8 19 10 1) fun u9 =>
  some (1, u9)
theorem t_W_takeBehindThing_127 {X : jX} {Qf : Int × Wd → State → Prop} {ad : Nat → Nat} (C : Cx X prog_12_method_4_code "EachBringsAnother$Wish") (hn : xn X = 3) (hR : xR X = rmD 3) (hr : Rt X Qf ad prog_12_method_4_code 4) (v1 v2 s1 s2 : Int) (w : Wd) : VF X Qf ad NF 0 0 w 127 [(0, (2, 20)), (1, (0, v1)), (2, (0, v2))] [(0, s2), (0, s1), (2, 20)] (f_W_takeBehindThing_127 v1 v2 s1 s2 w) := by
  unfold f_W_takeBehindThing_127
  refine vf_ior C (zdg dz_W_takeBehindThing_3 1 rfl) ?_
  refine vf_put C (kd := 0) fl_W_43 fk_7_9 sh_19 rfl (by decide) rfl rfl (by decide) (zdg dz_W_takeBehindThing_3 2 rfl) ?_
  generalize st w 19 9 (ior s1 s2) = u4
  refine vf_uw ?_
  refine vf_aload_n C (f := 0) (zdg dz_W_takeBehindThing_3 3 rfl) 0 rfl rfl ?_
  refine vf_iload_n C (f := 2) (zdg dz_W_takeBehindThing_3 4 rfl) 2 rfl rfl ?_
  refine vf_callVv C cy_W_release ml_W_61 rfl (ct_W_release _ _) (S := []) sh_19 (by decide) rfl (jrm_of hR rfl) rfl rfl (Nat.le_of_ble_eq_true rfl) (zdg dz_W_takeBehindThing_3 5 rfl) (fun r5 u6 => ?_)
  refine vf_aload_n C (f := 0) (zdg dz_W_takeBehindThing_3 6 rfl) 0 rfl rfl ?_
  refine vf_iload_n C (f := 1) (zdg dz_W_takeBehindThing_3 7 rfl) 1 rfl rfl ?_
  refine vf_callVv C cy_W_await ml_W_71 rfl (ct_W_await _ _) (S := []) sh_19 (by decide) rfl (jrm_of hR rfl) rfl rfl (Nat.le_of_ble_eq_true rfl) (zdg dz_W_takeBehindThing_3 8 rfl) (fun r7 u8 => ?_)
  refine vf_aload_n C (f := 0) (zdg dz_W_takeBehindThing_3 9 rfl) 0 rfl rfl ?_
  refine vf_iconst C (z := 1) (zdg dz_W_takeBehindThing_3 10 rfl) (jz rfl) ?_
  refine vf_putzl C fl_W_46 fk_7_10 sh_19 rfl (by decide) rfl (Or.inr rfl) (zdg dz_W_takeBehindThing_3 11 rfl) ?_
  generalize st u8 19 10 1 = u9
  refine vf_uw ?_
  refine vf_iconst C (z := 1) (zdg dz_W_takeBehindThing_3 12 rfl) (jz rfl) ?_
  exact hr _ _ _ _ (fun _ => Or.inr rfl) (zdg dz_W_takeBehindThing_3 13 rfl)
def f_W_takeBehindThing_107 (v1 v2 : Int) (w : Wd) : Option (Int × Wd) :=
  if v2 = 1 then
    f_W_takeBehindThing_127 v1 v2 (w 19 9) (ishl 1 (w 19 7)) w
  else
    f_W_takeBehindThing_127 v1 v2 (w 19 9) 0 w
theorem t_W_takeBehindThing_107 {X : jX} {Qf : Int × Wd → State → Prop} {ad : Nat → Nat} (C : Cx X prog_12_method_4_code "EachBringsAnother$Wish") (hn : xn X = 3) (hR : xR X = rmD 3) (hr : Rt X Qf ad prog_12_method_4_code 4) (v1 v2 : Int) (w : Wd) : VF X Qf ad NF 0 0 w 107 [(0, (2, 20)), (1, (0, v1)), (2, (0, v2))] [] (f_W_takeBehindThing_107 v1 v2 w) := by
  unfold f_W_takeBehindThing_107
  refine vf_aload_n C (f := 0) (zdg dz_W_takeBehindThing_2 13 rfl) 0 rfl rfl ?_
  refine vf_dup C (zdg dz_W_takeBehindThing_2 14 rfl) (Nat.succ_ne_self 1) ?_
  refine vf_get C (kd := 0) fl_W_43 sh_19 rfl (by decide) rfl rfl (zdg dz_W_takeBehindThing_2 15 rfl) ?_
  refine vf_iload_n C (f := 2) (zdg dz_W_takeBehindThing_2 16 rfl) 2 rfl rfl ?_
  refine vf_iconst C (z := 1) (zdg dz_W_takeBehindThing_2 17 rfl) (jz rfl) ?_
  refine vf_icmp_ne C (off := 12) (tgt := 126) (zdg dz_W_takeBehindThing_2 18 rfl) (by decide) ?_ ?_
  · refine vf_iconst C (z := 0) (zdg dz_W_takeBehindThing_3 0 rfl) (jz rfl) ?_
    exact t_W_takeBehindThing_127 C hn hR hr _ _ _ _ _
  · refine vf_iconst C (z := 1) (zdg dz_W_takeBehindThing_2 19 rfl) (jz rfl) ?_
    refine vf_aload_n C (f := 0) (zdg dz_W_takeBehindThing_2 20 rfl) 0 rfl rfl ?_
    refine vf_get C (kd := 0) fl_W_37 sh_19 rfl (by decide) rfl rfl (zdg dz_W_takeBehindThing_2 21 rfl) ?_
    refine vf_ishl C (zdg dz_W_takeBehindThing_2 22 rfl) ?_
    refine vf_goto C (off := 4) (tgt := 127) (zdg dz_W_takeBehindThing_2 23 rfl) (by decide) ?_
    exact t_W_takeBehindThing_127 C hn hR hr _ _ _ _ _
def f_W_takeBehindThing_77 (v1 : Int) (w : Wd) : Option (Int × Wd) :=
  jcall (f_W_strength v1 w) fun r2 u3 =>
  if r2 = 0 then
    some (0, u3)
  else
    if r2 = 1 then
      if (iand (ishr (u3 19 9) (u3 19 7)) 1) = 0 then
        f_W_takeBehindThing_107 v1 r2 u3
      else
        some (0, u3)
    else
      f_W_takeBehindThing_107 v1 r2 u3
theorem t_W_takeBehindThing_77 {X : jX} {Qf : Int × Wd → State → Prop} {ad : Nat → Nat} (C : Cx X prog_12_method_4_code "EachBringsAnother$Wish") (hn : xn X = 3) (hR : xR X = rmD 3) (hr : Rt X Qf ad prog_12_method_4_code 4) (v1 : Int) (w : Wd) : VF X Qf ad NF 0 0 w 77 [(0, (2, 20)), (1, (0, v1))] [] (f_W_takeBehindThing_77 v1 w) := by
  unfold f_W_takeBehindThing_77
  refine vf_iload_n C (f := 1) (zdg dz_W_takeBehindThing_1 19 rfl) 1 rfl rfl ?_
  refine vf_callSi C cy_W_strength ml_W_83 (ct_W_strength _ _) (S := []) (jrm_of hR rfl) rfl rfl (Nat.le_of_ble_eq_true rfl) (zdg dz_W_takeBehindThing_1 20 rfl) (fun r2 u3 => ?_)
  refine vf_istore_n C (f := 2) (L' := [(0, (2, 20)), (1, (0, v1))]) (zdg dz_W_takeBehindThing_1 21 rfl) [0, 1] (jrI rfl rfl) hn (by decide) rfl ?_
  refine vf_iload_n C (f := 2) (zdg dz_W_takeBehindThing_1 22 rfl) 0 rfl rfl ?_
  refine vf_if_eq C (off := 22) (tgt := 105) (zdg dz_W_takeBehindThing_1 23 rfl) (by decide) ?_ ?_
  · refine vf_iconst C (z := 0) (zdg dz_W_takeBehindThing_2 11 rfl) (jz rfl) ?_
    exact hr _ _ _ _ (fun _ => Or.inl rfl) (zdg dz_W_takeBehindThing_2 12 rfl)
  · refine vf_iload_n C (f := 2) (zdg dz_W_takeBehindThing_2 0 rfl) 0 rfl rfl ?_
    refine vf_iconst C (z := 1) (zdg dz_W_takeBehindThing_2 1 rfl) (jz rfl) ?_
    refine vf_icmp_ne C (off := 19) (tgt := 107) (zdg dz_W_takeBehindThing_2 2 rfl) (by decide) ?_ ?_
    · exact vf_perm [1, 2, 0] rfl (t_W_takeBehindThing_107 C hn hR hr _ _ _)
    · refine vf_aload_n C (f := 0) (zdg dz_W_takeBehindThing_2 3 rfl) 1 rfl rfl ?_
      refine vf_get C (kd := 0) fl_W_43 sh_19 rfl (by decide) rfl rfl (zdg dz_W_takeBehindThing_2 4 rfl) ?_
      refine vf_aload_n C (f := 0) (zdg dz_W_takeBehindThing_2 5 rfl) 1 rfl rfl ?_
      refine vf_get C (kd := 0) fl_W_37 sh_19 rfl (by decide) rfl rfl (zdg dz_W_takeBehindThing_2 6 rfl) ?_
      refine vf_ishr C (zdg dz_W_takeBehindThing_2 7 rfl) ?_
      refine vf_iconst C (z := 1) (zdg dz_W_takeBehindThing_2 8 rfl) (jz rfl) ?_
      refine vf_iand C (zdg dz_W_takeBehindThing_2 9 rfl) ?_
      refine vf_if_eq C (off := 5) (tgt := 107) (zdg dz_W_takeBehindThing_2 10 rfl) (by decide) ?_ ?_
      · exact vf_perm [1, 2, 0] rfl (t_W_takeBehindThing_107 C hn hR hr _ _ _)
      · refine vf_iconst C (z := 0) (zdg dz_W_takeBehindThing_2 11 rfl) (jz rfl) ?_
        exact hr _ _ _ _ (fun _ => Or.inl rfl) (zdg dz_W_takeBehindThing_2 12 rfl)
def f_W_takeBehindThing_71 (s1 s2 : Int) (w : Wd) : Option (Int × Wd) :=
  jlw (st w 19 6 (w32 (s1 - s2))) fun u13 =>
  some (1, u13)
theorem t_W_takeBehindThing_71 {X : jX} {Qf : Int × Wd → State → Prop} {ad : Nat → Nat} (C : Cx X prog_12_method_4_code "EachBringsAnother$Wish") (hn : xn X = 3) (hR : xR X = rmD 3) (hr : Rt X Qf ad prog_12_method_4_code 4) (s1 s2 : Int) (w : Wd) : VF X Qf ad NF 0 0 w 71 [] [(0, s2), (0, s1), (2, 20)] (f_W_takeBehindThing_71 s1 s2 w) := by
  unfold f_W_takeBehindThing_71
  refine vf_isub C (zdg dz_W_takeBehindThing_1 15 rfl) ?_
  refine vf_put C (kd := 0) fl_W_34 fk_7_6 sh_19 rfl (by decide) rfl rfl (by decide) (zdg dz_W_takeBehindThing_1 16 rfl) ?_
  generalize st w 19 6 (w32 (s1 - s2)) = u13
  refine vf_uw ?_
  refine vf_iconst C (z := 1) (zdg dz_W_takeBehindThing_1 17 rfl) (jz rfl) ?_
  exact hr _ _ _ _ (fun _ => Or.inr rfl) (zdg dz_W_takeBehindThing_1 18 rfl)
def f_W_takeBehindThing_21 (v1 : Int) (w : Wd) : Option (Int × Wd) :=
  jlw (st w 19 8 0) fun u1 =>
  if v1 = 41 then
    if (u1 19 7) ≤ 0 then
      f_W_takeBehindThing_77 v1 u1
    else
      jlw (st u1 19 7 (w32 ((u1 19 7) - 1))) fun u10 =>
      jcall (f_W_release 1 u10) fun r11 u12 =>
      if (u12 19 6) ≤ 0 then
        f_W_takeBehindThing_71 (u12 19 6) 0 u12
      else
        f_W_takeBehindThing_71 (u12 19 6) 1 u12
  else
    f_W_takeBehindThing_77 v1 u1
theorem t_W_takeBehindThing_21 {X : jX} {Qf : Int × Wd → State → Prop} {ad : Nat → Nat} (C : Cx X prog_12_method_4_code "EachBringsAnother$Wish") (hn : xn X = 3) (hR : xR X = rmD 3) (hr : Rt X Qf ad prog_12_method_4_code 4) (v1 : Int) (w : Wd) : VF X Qf ad NF 0 0 w 21 [(0, (2, 20)), (1, (0, v1))] [] (f_W_takeBehindThing_21 v1 w) := by
  unfold f_W_takeBehindThing_21
  refine vf_aload_n C (f := 0) (zdg dz_W_takeBehindThing_0 12 rfl) 0 rfl rfl ?_
  refine vf_iconst C (z := 0) (zdg dz_W_takeBehindThing_0 13 rfl) (jz rfl) ?_
  refine vf_put C (kd := 0) fl_W_40 fk_7_8 sh_19 rfl (by decide) rfl rfl (by decide) (zdg dz_W_takeBehindThing_0 14 rfl) ?_
  generalize st w 19 8 0 = u1
  refine vf_uw ?_
  refine vf_iload_n C (f := 1) (zdg dz_W_takeBehindThing_0 15 rfl) 1 rfl rfl ?_
  refine vf_bipush C (z := 41) (zdg dz_W_takeBehindThing_0 16 rfl) (by decide +kernel) (jz rfl) ?_
  refine vf_icmp_ne C (off := 48) (tgt := 77) (zdg dz_W_takeBehindThing_0 17 rfl) (by decide) ?_ ?_
  · exact t_W_takeBehindThing_77 C hn hR hr _ _
  · refine vf_aload_n C (f := 0) (zdg dz_W_takeBehindThing_0 18 rfl) 0 rfl rfl ?_
    refine vf_get C (kd := 0) fl_W_37 sh_19 rfl (by decide) rfl rfl (zdg dz_W_takeBehindThing_0 19 rfl) ?_
    refine vf_if_le C (off := 41) (tgt := 77) (zdg dz_W_takeBehindThing_0 20 rfl) (by decide) ?_ ?_
    · exact t_W_takeBehindThing_77 C hn hR hr _ _
    · refine vf_aload_n C (f := 0) (zdg dz_W_takeBehindThing_0 21 rfl) 0 rfl rfl ?_
      refine vf_dup C (zdg dz_W_takeBehindThing_0 22 rfl) (Nat.succ_ne_self 1) ?_
      refine vf_get C (kd := 0) fl_W_37 sh_19 rfl (by decide) rfl rfl (zdg dz_W_takeBehindThing_0 23 rfl) ?_
      refine vf_iconst C (z := 1) (zdg dz_W_takeBehindThing_1 0 rfl) (jz rfl) ?_
      refine vf_isub C (zdg dz_W_takeBehindThing_1 1 rfl) ?_
      refine vf_put C (kd := 0) fl_W_37 fk_7_7 sh_19 rfl (by decide) rfl rfl (by decide) (zdg dz_W_takeBehindThing_1 2 rfl) ?_
      generalize st u1 19 7 (w32 ((u1 19 7) - 1)) = u10
      refine vf_uw ?_
      refine vf_aload_n C (f := 0) (zdg dz_W_takeBehindThing_1 3 rfl) 0 rfl rfl ?_
      refine vf_iconst C (z := 1) (zdg dz_W_takeBehindThing_1 4 rfl) (jz rfl) ?_
      refine vf_callVv C cy_W_release ml_W_61 rfl (ct_W_release _ _) (S := []) sh_19 (by decide) rfl (jrm_of hR rfl) rfl rfl (Nat.le_of_ble_eq_true rfl) (zdg dz_W_takeBehindThing_1 5 rfl) (fun r11 u12 => ?_)
      refine vf_aload_n C (f := 0) (zdg dz_W_takeBehindThing_1 6 rfl) 0 rfl rfl ?_
      refine vf_dup C (zdg dz_W_takeBehindThing_1 7 rfl) (Nat.succ_ne_self 1) ?_
      refine vf_get C (kd := 0) fl_W_34 sh_19 rfl (by decide) rfl rfl (zdg dz_W_takeBehindThing_1 8 rfl) ?_
      refine vf_aload_n C (f := 0) (zdg dz_W_takeBehindThing_1 9 rfl) 0 rfl rfl ?_
      refine vf_get C (kd := 0) fl_W_34 sh_19 rfl (by decide) rfl rfl (zdg dz_W_takeBehindThing_1 10 rfl) ?_
      refine vf_if_le C (off := 7) (tgt := 70) (zdg dz_W_takeBehindThing_1 11 rfl) (by decide) ?_ ?_
      · refine vf_iconst C (z := 0) (zdg dz_W_takeBehindThing_1 14 rfl) (jz rfl) ?_
        exact vf_perm [] rfl (t_W_takeBehindThing_71 C hn hR hr _ _ _)
      · refine vf_iconst C (z := 1) (zdg dz_W_takeBehindThing_1 12 rfl) (jz rfl) ?_
        refine vf_goto C (off := 4) (tgt := 71) (zdg dz_W_takeBehindThing_1 13 rfl) (by decide) ?_
        exact vf_perm [] rfl (t_W_takeBehindThing_71 C hn hR hr _ _ _)
def f_W_takeBehindThing (v1 : Int) (w : Wd) : Option (Int × Wd) :=
  if v1 < 48 then
    f_W_takeBehindThing_21 v1 w
  else
    if (57 : Int) < v1 then
      f_W_takeBehindThing_21 v1 w
    else
      jcall (f_W_takeDigit (w32 (v1 - 48)) w) fun r14 u15 =>
      if r14 = 0 ∨ r14 = 1 then some (r14, u15) else none
theorem ct_W_takeBehindThing (v1 : Int) (w : Wd) : Ct y_W_takeBehindThing prog_12_method_4_code 3 (some .boolean) 3 4 [(2, 20), (0, v1)] w (f_W_takeBehindThing v1 w) := by
  refine ct_of (by decide +kernel) (Or.inr (Or.inr (Or.inl ⟨rfl, rfl⟩))) (Nat.le_of_ble_eq_true rfl) ?_
  intro X Qf ad C hn hR hr
  unfold f_W_takeBehindThing
  show VF X Qf ad NF 0 0 w 0 [(0, (2, 20)), (1, (0, v1))] [] _
  refine vf_iload_n C (f := 1) (zdg dz_W_takeBehindThing_0 0 rfl) 1 rfl rfl ?_
  refine vf_bipush C (z := 48) (zdg dz_W_takeBehindThing_0 1 rfl) (by decide +kernel) (jz rfl) ?_
  refine vf_icmp_lt C (off := 18) (tgt := 21) (zdg dz_W_takeBehindThing_0 2 rfl) (by decide) ?_ ?_
  · exact t_W_takeBehindThing_21 C hn hR hr _ _
  · refine vf_iload_n C (f := 1) (zdg dz_W_takeBehindThing_0 3 rfl) 1 rfl rfl ?_
    refine vf_bipush C (z := 57) (zdg dz_W_takeBehindThing_0 4 rfl) (by decide +kernel) (jz rfl) ?_
    refine vf_icmp_gt C (off := 12) (tgt := 21) (zdg dz_W_takeBehindThing_0 5 rfl) (by decide) ?_ ?_
    · exact t_W_takeBehindThing_21 C hn hR hr _ _
    · refine vf_aload_n C (f := 0) (zdg dz_W_takeBehindThing_0 6 rfl) 0 rfl rfl ?_
      refine vf_iload_n C (f := 1) (zdg dz_W_takeBehindThing_0 7 rfl) 1 rfl rfl ?_
      refine vf_bipush C (z := 48) (zdg dz_W_takeBehindThing_0 8 rfl) (by decide +kernel) (jz rfl) ?_
      refine vf_isub C (zdg dz_W_takeBehindThing_0 9 rfl) ?_
      refine vf_callVz C cy_W_takeDigit ml_W_80 rfl (ct_W_takeDigit _ _) (S := []) sh_19 (by decide) rfl (jrm_of hR rfl) rfl rfl (Nat.le_of_ble_eq_true rfl) (zdg dz_W_takeBehindThing_0 10 rfl) (fun r14 u15 => ?_)
      refine vf_if _ (fun h => ?_) (fun _ => vf_no)
      exact hr _ _ _ _ (fun _ => h) (zdg dz_W_takeBehindThing_0 11 rfl)
def f_W_isLetter (v0 : Int) (w : Wd) : Option (Int × Wd) :=
  if v0 < 103 ∨ 119 < v0 then
    some (0, w)
  else
  if v0 = 103 then
    some (1, w)
  else
  if v0 = 104 then
    some (0, w)
  else
  if v0 = 105 then
    some (1, w)
  else
  if v0 = 106 then
    some (0, w)
  else
  if v0 = 107 then
    some (1, w)
  else
  if v0 = 108 then
    some (1, w)
  else
  if v0 = 109 then
    some (0, w)
  else
  if v0 = 110 then
    some (1, w)
  else
  if v0 = 111 then
    some (0, w)
  else
  if v0 = 112 then
    some (1, w)
  else
  if v0 = 113 then
    some (0, w)
  else
  if v0 = 114 then
    some (0, w)
  else
  if v0 = 115 then
    some (1, w)
  else
  if v0 = 116 then
    some (0, w)
  else
  if v0 = 117 then
    some (0, w)
  else
  if v0 = 118 then
    some (0, w)
  else
  if v0 = 119 then
    some (1, w)
  else
  none
theorem ct_W_isLetter (v0 : Int) (w : Wd) : Ct y_W_isLetter prog_12_method_6_code 1 (some .boolean) 1 4 [(0, v0)] w (f_W_isLetter v0 w) := by
  refine ct_of (by decide +kernel) (Or.inr (Or.inr (Or.inl ⟨rfl, rfl⟩))) (Nat.le_of_ble_eq_true rfl) ?_
  intro X Qf ad C hn hR hr
  unfold f_W_isLetter
  show VF X Qf ad NF 0 0 w 0 [(0, (0, v0))] [] _
  refine vf_iload_n C (f := 0) (zdg dz_W_isLetter_0 0 rfl) 0 rfl rfl ?_
  refine vf_if _ (fun h => ?_) (fun _ => ?_)
  · refine vf_swd C (dflt := 85) (lo := 103) (hi := 119) (offs := #[83, 85, 83, 85, 83, 83, 85, 83, 85, 83, 85, 85, 83, 85, 85, 85, 83]) (len := 83) (tgt := 86) (by decide +kernel) h (by decide) ?_
    refine vf_iconst C (z := 0) (zdg dz_W_isLetter_0 3 rfl) (jz rfl) ?_
    exact hr _ _ _ _ (fun _ => Or.inl rfl) (zdg dz_W_isLetter_0 4 rfl)
  refine vf_if _ (fun h => ?_) (fun _ => ?_)
  · refine vf_swx C (dflt := 85) (lo := 103) (hi := 119) (offs := #[83, 85, 83, 85, 83, 83, 85, 83, 85, 83, 85, 85, 83, 85, 85, 85, 83]) (len := 83) (z := 103) (off := 83) (tgt := 84) (by decide +kernel) h (by decide) (by decide) rfl (by decide) ?_
    refine vf_iconst C (z := 1) (zdg dz_W_isLetter_0 1 rfl) (jz rfl) ?_
    exact hr _ _ _ _ (fun _ => Or.inr rfl) (zdg dz_W_isLetter_0 2 rfl)
  refine vf_if _ (fun h => ?_) (fun _ => ?_)
  · refine vf_swx C (dflt := 85) (lo := 103) (hi := 119) (offs := #[83, 85, 83, 85, 83, 83, 85, 83, 85, 83, 85, 85, 83, 85, 85, 85, 83]) (len := 83) (z := 104) (off := 85) (tgt := 86) (by decide +kernel) h (by decide) (by decide) rfl (by decide) ?_
    refine vf_iconst C (z := 0) (zdg dz_W_isLetter_0 3 rfl) (jz rfl) ?_
    exact hr _ _ _ _ (fun _ => Or.inl rfl) (zdg dz_W_isLetter_0 4 rfl)
  refine vf_if _ (fun h => ?_) (fun _ => ?_)
  · refine vf_swx C (dflt := 85) (lo := 103) (hi := 119) (offs := #[83, 85, 83, 85, 83, 83, 85, 83, 85, 83, 85, 85, 83, 85, 85, 85, 83]) (len := 83) (z := 105) (off := 83) (tgt := 84) (by decide +kernel) h (by decide) (by decide) rfl (by decide) ?_
    refine vf_iconst C (z := 1) (zdg dz_W_isLetter_0 1 rfl) (jz rfl) ?_
    exact hr _ _ _ _ (fun _ => Or.inr rfl) (zdg dz_W_isLetter_0 2 rfl)
  refine vf_if _ (fun h => ?_) (fun _ => ?_)
  · refine vf_swx C (dflt := 85) (lo := 103) (hi := 119) (offs := #[83, 85, 83, 85, 83, 83, 85, 83, 85, 83, 85, 85, 83, 85, 85, 85, 83]) (len := 83) (z := 106) (off := 85) (tgt := 86) (by decide +kernel) h (by decide) (by decide) rfl (by decide) ?_
    refine vf_iconst C (z := 0) (zdg dz_W_isLetter_0 3 rfl) (jz rfl) ?_
    exact hr _ _ _ _ (fun _ => Or.inl rfl) (zdg dz_W_isLetter_0 4 rfl)
  refine vf_if _ (fun h => ?_) (fun _ => ?_)
  · refine vf_swx C (dflt := 85) (lo := 103) (hi := 119) (offs := #[83, 85, 83, 85, 83, 83, 85, 83, 85, 83, 85, 85, 83, 85, 85, 85, 83]) (len := 83) (z := 107) (off := 83) (tgt := 84) (by decide +kernel) h (by decide) (by decide) rfl (by decide) ?_
    refine vf_iconst C (z := 1) (zdg dz_W_isLetter_0 1 rfl) (jz rfl) ?_
    exact hr _ _ _ _ (fun _ => Or.inr rfl) (zdg dz_W_isLetter_0 2 rfl)
  refine vf_if _ (fun h => ?_) (fun _ => ?_)
  · refine vf_swx C (dflt := 85) (lo := 103) (hi := 119) (offs := #[83, 85, 83, 85, 83, 83, 85, 83, 85, 83, 85, 85, 83, 85, 85, 85, 83]) (len := 83) (z := 108) (off := 83) (tgt := 84) (by decide +kernel) h (by decide) (by decide) rfl (by decide) ?_
    refine vf_iconst C (z := 1) (zdg dz_W_isLetter_0 1 rfl) (jz rfl) ?_
    exact hr _ _ _ _ (fun _ => Or.inr rfl) (zdg dz_W_isLetter_0 2 rfl)
  refine vf_if _ (fun h => ?_) (fun _ => ?_)
  · refine vf_swx C (dflt := 85) (lo := 103) (hi := 119) (offs := #[83, 85, 83, 85, 83, 83, 85, 83, 85, 83, 85, 85, 83, 85, 85, 85, 83]) (len := 83) (z := 109) (off := 85) (tgt := 86) (by decide +kernel) h (by decide) (by decide) rfl (by decide) ?_
    refine vf_iconst C (z := 0) (zdg dz_W_isLetter_0 3 rfl) (jz rfl) ?_
    exact hr _ _ _ _ (fun _ => Or.inl rfl) (zdg dz_W_isLetter_0 4 rfl)
  refine vf_if _ (fun h => ?_) (fun _ => ?_)
  · refine vf_swx C (dflt := 85) (lo := 103) (hi := 119) (offs := #[83, 85, 83, 85, 83, 83, 85, 83, 85, 83, 85, 85, 83, 85, 85, 85, 83]) (len := 83) (z := 110) (off := 83) (tgt := 84) (by decide +kernel) h (by decide) (by decide) rfl (by decide) ?_
    refine vf_iconst C (z := 1) (zdg dz_W_isLetter_0 1 rfl) (jz rfl) ?_
    exact hr _ _ _ _ (fun _ => Or.inr rfl) (zdg dz_W_isLetter_0 2 rfl)
  refine vf_if _ (fun h => ?_) (fun _ => ?_)
  · refine vf_swx C (dflt := 85) (lo := 103) (hi := 119) (offs := #[83, 85, 83, 85, 83, 83, 85, 83, 85, 83, 85, 85, 83, 85, 85, 85, 83]) (len := 83) (z := 111) (off := 85) (tgt := 86) (by decide +kernel) h (by decide) (by decide) rfl (by decide) ?_
    refine vf_iconst C (z := 0) (zdg dz_W_isLetter_0 3 rfl) (jz rfl) ?_
    exact hr _ _ _ _ (fun _ => Or.inl rfl) (zdg dz_W_isLetter_0 4 rfl)
  refine vf_if _ (fun h => ?_) (fun _ => ?_)
  · refine vf_swx C (dflt := 85) (lo := 103) (hi := 119) (offs := #[83, 85, 83, 85, 83, 83, 85, 83, 85, 83, 85, 85, 83, 85, 85, 85, 83]) (len := 83) (z := 112) (off := 83) (tgt := 84) (by decide +kernel) h (by decide) (by decide) rfl (by decide) ?_
    refine vf_iconst C (z := 1) (zdg dz_W_isLetter_0 1 rfl) (jz rfl) ?_
    exact hr _ _ _ _ (fun _ => Or.inr rfl) (zdg dz_W_isLetter_0 2 rfl)
  refine vf_if _ (fun h => ?_) (fun _ => ?_)
  · refine vf_swx C (dflt := 85) (lo := 103) (hi := 119) (offs := #[83, 85, 83, 85, 83, 83, 85, 83, 85, 83, 85, 85, 83, 85, 85, 85, 83]) (len := 83) (z := 113) (off := 85) (tgt := 86) (by decide +kernel) h (by decide) (by decide) rfl (by decide) ?_
    refine vf_iconst C (z := 0) (zdg dz_W_isLetter_0 3 rfl) (jz rfl) ?_
    exact hr _ _ _ _ (fun _ => Or.inl rfl) (zdg dz_W_isLetter_0 4 rfl)
  refine vf_if _ (fun h => ?_) (fun _ => ?_)
  · refine vf_swx C (dflt := 85) (lo := 103) (hi := 119) (offs := #[83, 85, 83, 85, 83, 83, 85, 83, 85, 83, 85, 85, 83, 85, 85, 85, 83]) (len := 83) (z := 114) (off := 85) (tgt := 86) (by decide +kernel) h (by decide) (by decide) rfl (by decide) ?_
    refine vf_iconst C (z := 0) (zdg dz_W_isLetter_0 3 rfl) (jz rfl) ?_
    exact hr _ _ _ _ (fun _ => Or.inl rfl) (zdg dz_W_isLetter_0 4 rfl)
  refine vf_if _ (fun h => ?_) (fun _ => ?_)
  · refine vf_swx C (dflt := 85) (lo := 103) (hi := 119) (offs := #[83, 85, 83, 85, 83, 83, 85, 83, 85, 83, 85, 85, 83, 85, 85, 85, 83]) (len := 83) (z := 115) (off := 83) (tgt := 84) (by decide +kernel) h (by decide) (by decide) rfl (by decide) ?_
    refine vf_iconst C (z := 1) (zdg dz_W_isLetter_0 1 rfl) (jz rfl) ?_
    exact hr _ _ _ _ (fun _ => Or.inr rfl) (zdg dz_W_isLetter_0 2 rfl)
  refine vf_if _ (fun h => ?_) (fun _ => ?_)
  · refine vf_swx C (dflt := 85) (lo := 103) (hi := 119) (offs := #[83, 85, 83, 85, 83, 83, 85, 83, 85, 83, 85, 85, 83, 85, 85, 85, 83]) (len := 83) (z := 116) (off := 85) (tgt := 86) (by decide +kernel) h (by decide) (by decide) rfl (by decide) ?_
    refine vf_iconst C (z := 0) (zdg dz_W_isLetter_0 3 rfl) (jz rfl) ?_
    exact hr _ _ _ _ (fun _ => Or.inl rfl) (zdg dz_W_isLetter_0 4 rfl)
  refine vf_if _ (fun h => ?_) (fun _ => ?_)
  · refine vf_swx C (dflt := 85) (lo := 103) (hi := 119) (offs := #[83, 85, 83, 85, 83, 83, 85, 83, 85, 83, 85, 85, 83, 85, 85, 85, 83]) (len := 83) (z := 117) (off := 85) (tgt := 86) (by decide +kernel) h (by decide) (by decide) rfl (by decide) ?_
    refine vf_iconst C (z := 0) (zdg dz_W_isLetter_0 3 rfl) (jz rfl) ?_
    exact hr _ _ _ _ (fun _ => Or.inl rfl) (zdg dz_W_isLetter_0 4 rfl)
  refine vf_if _ (fun h => ?_) (fun _ => ?_)
  · refine vf_swx C (dflt := 85) (lo := 103) (hi := 119) (offs := #[83, 85, 83, 85, 83, 83, 85, 83, 85, 83, 85, 85, 83, 85, 85, 85, 83]) (len := 83) (z := 118) (off := 85) (tgt := 86) (by decide +kernel) h (by decide) (by decide) rfl (by decide) ?_
    refine vf_iconst C (z := 0) (zdg dz_W_isLetter_0 3 rfl) (jz rfl) ?_
    exact hr _ _ _ _ (fun _ => Or.inl rfl) (zdg dz_W_isLetter_0 4 rfl)
  refine vf_if _ (fun h => ?_) (fun _ => ?_)
  · refine vf_swx C (dflt := 85) (lo := 103) (hi := 119) (offs := #[83, 85, 83, 85, 83, 83, 85, 83, 85, 83, 85, 85, 83, 85, 85, 85, 83]) (len := 83) (z := 119) (off := 83) (tgt := 84) (by decide +kernel) h (by decide) (by decide) rfl (by decide) ?_
    refine vf_iconst C (z := 1) (zdg dz_W_isLetter_0 1 rfl) (jz rfl) ?_
    exact hr _ _ _ _ (fun _ => Or.inr rfl) (zdg dz_W_isLetter_0 2 rfl)
  exact vf_no
def f_W_takeThing_121 (s1 : Int) (w : Wd) : Option (Int × Wd) :=
  jlw (st w 19 8 s1) fun u3 =>
  jlw (st u3 19 10 0) fun u4 =>
  some (1, u4)
theorem t_W_takeThing_121 {X : jX} {Qf : Int × Wd → State → Prop} {ad : Nat → Nat} (C : Cx X prog_12_method_3_code "EachBringsAnother$Wish") (hn : xn X = 3) (hR : xR X = rmD 2) (hr : Rt X Qf ad prog_12_method_3_code 4) (s1 : Int) (w : Wd) : VF X Qf ad NF 0 0 w 121 [(0, (2, 20))] [(0, s1), (2, 20)] (f_W_takeThing_121 s1 w) := by
  unfold f_W_takeThing_121
  refine vf_put C (kd := 0) fl_W_40 fk_7_8 sh_19 rfl (by decide) rfl rfl (by decide) (zdg dz_W_takeThing_2 22 rfl) ?_
  generalize st w 19 8 s1 = u3
  refine vf_uw ?_
  refine vf_aload_n C (f := 0) (zdg dz_W_takeThing_2 23 rfl) 0 rfl rfl ?_
  refine vf_iconst C (z := 0) (zdg dz_W_takeThing_3 0 rfl) (jz rfl) ?_
  refine vf_putzl C fl_W_46 fk_7_10 sh_19 rfl (by decide) rfl (Or.inl rfl) (zdg dz_W_takeThing_3 1 rfl) ?_
  generalize st u3 19 10 0 = u4
  refine vf_uw ?_
  refine vf_iconst C (z := 1) (zdg dz_W_takeThing_3 2 rfl) (jz rfl) ?_
  exact hr _ _ _ _ (fun _ => Or.inr rfl) (zdg dz_W_takeThing_3 3 rfl)
def f_W_takeThing_108 (v2 s1 : Int) (w : Wd) : Option (Int × Wd) :=
  jcall (f_W_write s1 w) fun r1 u2 =>
  if v2 = 0 then
    f_W_takeThing_121 0 u2
  else
    f_W_takeThing_121 1 u2
theorem t_W_takeThing_108 {X : jX} {Qf : Int × Wd → State → Prop} {ad : Nat → Nat} (C : Cx X prog_12_method_3_code "EachBringsAnother$Wish") (hn : xn X = 3) (hR : xR X = rmD 2) (hr : Rt X Qf ad prog_12_method_3_code 4) (v2 s1 : Int) (w : Wd) : VF X Qf ad NF 0 0 w 108 [(0, (2, 20)), (2, (0, v2))] [(0, s1), (2, 20)] (f_W_takeThing_108 v2 s1 w) := by
  unfold f_W_takeThing_108
  refine vf_callVv C cy_W_write ml_W_77 rfl (ct_W_write _ _) (S := []) sh_19 (by decide) rfl (jrm_of hR rfl) rfl rfl (Nat.le_of_ble_eq_true rfl) (zdg dz_W_takeThing_2 15 rfl) (fun r1 u2 => ?_)
  refine vf_aload_n C (f := 0) (zdg dz_W_takeThing_2 16 rfl) 0 rfl rfl ?_
  refine vf_iload_n C (f := 2) (zdg dz_W_takeThing_2 17 rfl) 1 rfl rfl ?_
  refine vf_if_eq C (off := 7) (tgt := 120) (zdg dz_W_takeThing_2 18 rfl) (by decide) ?_ ?_
  · refine vf_iconst C (z := 0) (zdg dz_W_takeThing_2 21 rfl) (jz rfl) ?_
    exact vf_perm [0] rfl (t_W_takeThing_121 C hn hR hr _ _)
  · refine vf_iconst C (z := 1) (zdg dz_W_takeThing_2 19 rfl) (jz rfl) ?_
    refine vf_goto C (off := 4) (tgt := 121) (zdg dz_W_takeThing_2 20 rfl) (by decide) ?_
    exact vf_perm [0] rfl (t_W_takeThing_121 C hn hR hr _ _)
def f_W_takeThing_94 (v1 v2 : Int) (w : Wd) : Option (Int × Wd) :=
  if v2 = 0 then
    f_W_takeThing_108 v2 (w32 (-v1)) w
  else
    f_W_takeThing_108 v2 (w32 (v1 - 48)) w
theorem t_W_takeThing_94 {X : jX} {Qf : Int × Wd → State → Prop} {ad : Nat → Nat} (C : Cx X prog_12_method_3_code "EachBringsAnother$Wish") (hn : xn X = 3) (hR : xR X = rmD 2) (hr : Rt X Qf ad prog_12_method_3_code 4) (v1 v2 : Int) (w : Wd) : VF X Qf ad NF 0 0 w 94 [(0, (2, 20)), (1, (0, v1)), (2, (0, v2))] [] (f_W_takeThing_94 v1 v2 w) := by
  unfold f_W_takeThing_94
  refine vf_aload_n C (f := 0) (zdg dz_W_takeThing_2 6 rfl) 0 rfl rfl ?_
  refine vf_iload_n C (f := 2) (zdg dz_W_takeThing_2 7 rfl) 2 rfl rfl ?_
  refine vf_if_eq C (off := 10) (tgt := 106) (zdg dz_W_takeThing_2 8 rfl) (by decide) ?_ ?_
  · refine vf_iload_n C (f := 1) (zdg dz_W_takeThing_2 13 rfl) 1 rfl rfl ?_
    refine vf_ineg C (zdg dz_W_takeThing_2 14 rfl) ?_
    exact vf_perm [0, 2] rfl (t_W_takeThing_108 C hn hR hr _ _ _)
  · refine vf_iload_n C (f := 1) (zdg dz_W_takeThing_2 9 rfl) 1 rfl rfl ?_
    refine vf_bipush C (z := 48) (zdg dz_W_takeThing_2 10 rfl) (by decide +kernel) (jz rfl) ?_
    refine vf_isub C (zdg dz_W_takeThing_2 11 rfl) ?_
    refine vf_goto C (off := 5) (tgt := 108) (zdg dz_W_takeThing_2 12 rfl) (by decide) ?_
    exact vf_perm [0, 2] rfl (t_W_takeThing_108 C hn hR hr _ _ _)
def f_W_takeThing_80 (v1 s0 : Int) (w : Wd) : Option (Int × Wd) :=
  if s0 = 0 then
    jcall (f_W_isLetter v1 w) fun r5 u6 =>
    if r5 = 0 then
      some (0, u6)
    else
      f_W_takeThing_94 v1 s0 u6
  else
    f_W_takeThing_94 v1 s0 w
theorem t_W_takeThing_80 {X : jX} {Qf : Int × Wd → State → Prop} {ad : Nat → Nat} (C : Cx X prog_12_method_3_code "EachBringsAnother$Wish") (hn : xn X = 3) (hR : xR X = rmD 2) (hr : Rt X Qf ad prog_12_method_3_code 4) (v1 s0 : Int) (w : Wd) : VF X Qf ad NF 0 0 w 80 [(0, (2, 20)), (1, (0, v1))] [(0, s0)] (f_W_takeThing_80 v1 s0 w) := by
  unfold f_W_takeThing_80
  refine vf_istore_n C (f := 2) (L' := [(0, (2, 20)), (1, (0, v1))]) (zdg dz_W_takeThing_1 22 rfl) [0, 1] (jrI rfl rfl) hn (by decide) rfl ?_
  refine vf_iload_n C (f := 2) (zdg dz_W_takeThing_1 23 rfl) 0 rfl rfl ?_
  refine vf_if_ne C (off := 12) (tgt := 94) (zdg dz_W_takeThing_2 0 rfl) (by decide) ?_ ?_
  · exact vf_perm [1, 2, 0] rfl (t_W_takeThing_94 C hn hR hr _ _ _)
  · refine vf_iload_n C (f := 1) (zdg dz_W_takeThing_2 1 rfl) 2 rfl rfl ?_
    refine vf_callSz C cy_W_isLetter ml_W_74 (ct_W_isLetter _ _) (S := []) (jrm_of hR rfl) rfl rfl (Nat.le_of_ble_eq_true rfl) (zdg dz_W_takeThing_2 2 rfl) (fun r5 u6 => ?_)
    refine vf_if_ne C (off := 5) (tgt := 94) (zdg dz_W_takeThing_2 3 rfl) (by decide) ?_ ?_
    · exact vf_perm [1, 2, 0] rfl (t_W_takeThing_94 C hn hR hr _ _ _)
    · refine vf_iconst C (z := 0) (zdg dz_W_takeThing_2 4 rfl) (jz rfl) ?_
      exact hr _ _ _ _ (fun _ => Or.inl rfl) (zdg dz_W_takeThing_2 5 rfl)
def f_W_takeThing_79 (v1 : Int) (w : Wd) : Option (Int × Wd) :=
  f_W_takeThing_80 v1 0 w
theorem t_W_takeThing_79 {X : jX} {Qf : Int × Wd → State → Prop} {ad : Nat → Nat} (C : Cx X prog_12_method_3_code "EachBringsAnother$Wish") (hn : xn X = 3) (hR : xR X = rmD 2) (hr : Rt X Qf ad prog_12_method_3_code 4) (v1 : Int) (w : Wd) : VF X Qf ad NF 0 0 w 79 [(0, (2, 20)), (1, (0, v1))] [] (f_W_takeThing_79 v1 w) := by
  unfold f_W_takeThing_79
  refine vf_iconst C (z := 0) (zdg dz_W_takeThing_1 21 rfl) (jz rfl) ?_
  exact t_W_takeThing_80 C hn hR hr _ _ _
def f_W_takeThing_63 (v1 : Int) (w : Wd) : Option (Int × Wd) :=
  if v1 < 48 then
    f_W_takeThing_79 v1 w
  else
    if (57 : Int) < v1 then
      f_W_takeThing_79 v1 w
    else
      f_W_takeThing_80 v1 1 w
theorem t_W_takeThing_63 {X : jX} {Qf : Int × Wd → State → Prop} {ad : Nat → Nat} (C : Cx X prog_12_method_3_code "EachBringsAnother$Wish") (hn : xn X = 3) (hR : xR X = rmD 2) (hr : Rt X Qf ad prog_12_method_3_code 4) (v1 : Int) (w : Wd) : VF X Qf ad NF 0 0 w 63 [(0, (2, 20)), (1, (0, v1))] [] (f_W_takeThing_63 v1 w) := by
  unfold f_W_takeThing_63
  refine vf_iload_n C (f := 1) (zdg dz_W_takeThing_1 13 rfl) 1 rfl rfl ?_
  refine vf_bipush C (z := 48) (zdg dz_W_takeThing_1 14 rfl) (by decide +kernel) (jz rfl) ?_
  refine vf_icmp_lt C (off := 13) (tgt := 79) (zdg dz_W_takeThing_1 15 rfl) (by decide) ?_ ?_
  · exact t_W_takeThing_79 C hn hR hr _ _
  · refine vf_iload_n C (f := 1) (zdg dz_W_takeThing_1 16 rfl) 1 rfl rfl ?_
    refine vf_bipush C (z := 57) (zdg dz_W_takeThing_1 17 rfl) (by decide +kernel) (jz rfl) ?_
    refine vf_icmp_gt C (off := 7) (tgt := 79) (zdg dz_W_takeThing_1 18 rfl) (by decide) ?_ ?_
    · exact t_W_takeThing_79 C hn hR hr _ _
    · refine vf_iconst C (z := 1) (zdg dz_W_takeThing_1 19 rfl) (jz rfl) ?_
      refine vf_goto C (off := 4) (tgt := 80) (zdg dz_W_takeThing_1 20 rfl) (by decide) ?_
      exact t_W_takeThing_80 C hn hR hr _ _ _
def f_W_takeThing (v1 : Int) (w : Wd) : Option (Int × Wd) :=
  if v1 = 45 then
    jcall (f_W_await 256 w) fun r11 u12 =>
    some (1, u12)
  else
    if v1 = 40 then
      if (4 : Int) ≤ (w 19 7) then
        f_W_takeThing_63 v1 w
      else
        jlw (st w 19 7 (w32 ((w 19 7) + 1))) fun u7 =>
        jlw (st u7 19 9 (iand (u7 19 9) (ixor (ishl 1 (u7 19 7)) (-1)))) fun u8 =>
        jcall (f_W_await v1 u8) fun r9 u10 =>
        some (1, u10)
    else
      f_W_takeThing_63 v1 w
theorem ct_W_takeThing (v1 : Int) (w : Wd) : Ct y_W_takeThing prog_12_method_3_code 3 (some .boolean) 2 4 [(2, 20), (0, v1)] w (f_W_takeThing v1 w) := by
  refine ct_of (by decide +kernel) (Or.inr (Or.inr (Or.inl ⟨rfl, rfl⟩))) (Nat.le_of_ble_eq_true rfl) ?_
  intro X Qf ad C hn hR hr
  unfold f_W_takeThing
  show VF X Qf ad NF 0 0 w 0 [(0, (2, 20)), (1, (0, v1))] [] _
  refine vf_iload_n C (f := 1) (zdg dz_W_takeThing_0 0 rfl) 1 rfl rfl ?_
  refine vf_bipush C (z := 45) (zdg dz_W_takeThing_0 1 rfl) (by decide +kernel) (jz rfl) ?_
  refine vf_icmp_ne C (off := 12) (tgt := 15) (zdg dz_W_takeThing_0 2 rfl) (by decide) ?_ ?_
  · refine vf_iload_n C (f := 1) (zdg dz_W_takeThing_0 8 rfl) 1 rfl rfl ?_
    refine vf_bipush C (z := 40) (zdg dz_W_takeThing_0 9 rfl) (by decide +kernel) (jz rfl) ?_
    refine vf_icmp_ne C (off := 45) (tgt := 63) (zdg dz_W_takeThing_0 10 rfl) (by decide) ?_ ?_
    · exact t_W_takeThing_63 C hn hR hr _ _
    · refine vf_aload_n C (f := 0) (zdg dz_W_takeThing_0 11 rfl) 0 rfl rfl ?_
      refine vf_get C (kd := 0) fl_W_37 sh_19 rfl (by decide) rfl rfl (zdg dz_W_takeThing_0 12 rfl) ?_
      refine vf_iconst C (z := 4) (zdg dz_W_takeThing_0 13 rfl) (jz rfl) ?_
      refine vf_icmp_ge C (off := 37) (tgt := 63) (zdg dz_W_takeThing_0 14 rfl) (by decide) ?_ ?_
      · exact t_W_takeThing_63 C hn hR hr _ _
      · refine vf_aload_n C (f := 0) (zdg dz_W_takeThing_0 15 rfl) 0 rfl rfl ?_
        refine vf_dup C (zdg dz_W_takeThing_0 16 rfl) (Nat.succ_ne_self 1) ?_
        refine vf_get C (kd := 0) fl_W_37 sh_19 rfl (by decide) rfl rfl (zdg dz_W_takeThing_0 17 rfl) ?_
        refine vf_iconst C (z := 1) (zdg dz_W_takeThing_0 18 rfl) (jz rfl) ?_
        refine vf_iadd C (zdg dz_W_takeThing_0 19 rfl) ?_
        refine vf_put C (kd := 0) fl_W_37 fk_7_7 sh_19 rfl (by decide) rfl rfl (by decide) (zdg dz_W_takeThing_0 20 rfl) ?_
        generalize st w 19 7 (w32 ((w 19 7) + 1)) = u7
        refine vf_uw ?_
        refine vf_aload_n C (f := 0) (zdg dz_W_takeThing_0 21 rfl) 0 rfl rfl ?_
        refine vf_dup C (zdg dz_W_takeThing_0 22 rfl) (Nat.succ_ne_self 1) ?_
        refine vf_get C (kd := 0) fl_W_43 sh_19 rfl (by decide) rfl rfl (zdg dz_W_takeThing_0 23 rfl) ?_
        refine vf_iconst C (z := 1) (zdg dz_W_takeThing_1 0 rfl) (jz rfl) ?_
        refine vf_aload_n C (f := 0) (zdg dz_W_takeThing_1 1 rfl) 0 rfl rfl ?_
        refine vf_get C (kd := 0) fl_W_37 sh_19 rfl (by decide) rfl rfl (zdg dz_W_takeThing_1 2 rfl) ?_
        refine vf_ishl C (zdg dz_W_takeThing_1 3 rfl) ?_
        refine vf_iconst C (z := (-1)) (zdg dz_W_takeThing_1 4 rfl) (jz rfl) ?_
        refine vf_ixor C (zdg dz_W_takeThing_1 5 rfl) ?_
        refine vf_iand C (zdg dz_W_takeThing_1 6 rfl) ?_
        refine vf_put C (kd := 0) fl_W_43 fk_7_9 sh_19 rfl (by decide) rfl rfl (by decide) (zdg dz_W_takeThing_1 7 rfl) ?_
        generalize st u7 19 9 (iand (u7 19 9) (ixor (ishl 1 (u7 19 7)) (-1))) = u8
        refine vf_uw ?_
        refine vf_aload_n C (f := 0) (zdg dz_W_takeThing_1 8 rfl) 0 rfl rfl ?_
        refine vf_iload_n C (f := 1) (zdg dz_W_takeThing_1 9 rfl) 1 rfl rfl ?_
        refine vf_callVv C cy_W_await ml_W_71 rfl (ct_W_await _ _) (S := []) sh_19 (by decide) rfl (jrm_of hR rfl) rfl rfl (Nat.le_of_ble_eq_true rfl) (zdg dz_W_takeThing_1 10 rfl) (fun r9 u10 => ?_)
        refine vf_iconst C (z := 1) (zdg dz_W_takeThing_1 11 rfl) (jz rfl) ?_
        exact hr _ _ _ _ (fun _ => Or.inr rfl) (zdg dz_W_takeThing_1 12 rfl)
  · refine vf_aload_n C (f := 0) (zdg dz_W_takeThing_0 3 rfl) 0 rfl rfl ?_
    refine vf_sipush C (z := 256) (zdg dz_W_takeThing_0 4 rfl) (by decide +kernel) (jz rfl) ?_
    refine vf_callVv C cy_W_await ml_W_71 rfl (ct_W_await _ _) (S := []) sh_19 (by decide) rfl (jrm_of hR rfl) rfl rfl (Nat.le_of_ble_eq_true rfl) (zdg dz_W_takeThing_0 5 rfl) (fun r11 u12 => ?_)
    refine vf_iconst C (z := 1) (zdg dz_W_takeThing_0 6 rfl) (jz rfl) ?_
    exact hr _ _ _ _ (fun _ => Or.inr rfl) (zdg dz_W_takeThing_0 7 rfl)
def f_W_read_112 (w : Wd) : Option (Int × Wd) :=
  some (w32 ((-1) - (w 1 1)), w)
theorem t_W_read_112 {X : jX} {Qf : Int × Wd → State → Prop} {ad : Nat → Nat} (C : Cx X prog_12_method_2_code "EachBringsAnother$Wish") (hn : xn X = 4) (hR : xR X = rmD 4) (hr : Rt X Qf ad prog_12_method_2_code 0) (w : Wd) : VF X Qf ad NF 0 0 w 112 [(1, (2, 2))] [] (f_W_read_112 w) := by
  unfold f_W_read_112
  refine vf_iconst C (z := (-1)) (zdg dz_W_read_2 13 rfl) (jz rfl) ?_
  refine vf_aload_n C (f := 1) (zdg dz_W_read_2 14 rfl) 0 rfl rfl ?_
  refine vf_get C (kd := 0) fl_W_24 sh_1 rfl (by decide) rfl rfl (zdg dz_W_read_2 15 rfl) ?_
  refine vf_isub C (zdg dz_W_read_2 16 rfl) ?_
  exact hr _ _ _ _ (fun h => absurd h (by decide)) (zdg dz_W_read_2 17 rfl)
def f_W_read_92 (k46 : Int → Wd → Option (Int × Wd)) (v2 : Int) (w : Wd) : Option (Int × Wd) :=
  jlet (w32 (v2 + 1)) fun x15 =>
  k46 x15 w
theorem t_W_read_92 {X : jX} {Qf : Int × Wd → State → Prop} {ad : Nat → Nat} (C : Cx X prog_12_method_2_code "EachBringsAnother$Wish") (hn : xn X = 4) (hR : xR X = rmD 4) (hr : Rt X Qf ad prog_12_method_2_code 0) {k46 : Int → Wd → Option (Int × Wd)} (hk46 : ∀ (v2 : Int) (w : Wd), VF X Qf ad NF 0 0 w 46 [(0, (2, 20)), (1, (2, 2)), (2, (0, v2))] [] (k46 v2 w)) (v2 : Int) (w : Wd) : VF X Qf ad NF 0 0 w 92 [(0, (2, 20)), (1, (2, 2)), (2, (0, v2))] [] (f_W_read_92 k46 v2 w) := by
  unfold f_W_read_92
  refine vf_iinc C (z := 1) (L' := [(0, (2, 20)), (1, (2, 2))]) (zdg dz_W_read_2 5 rfl) 2 rfl [0, 1] (jrI rfl rfl) hn (by decide) ?_
  generalize w32 (v2 + 1) = x15
  refine vf_ul ?_
  refine vf_goto C (off := (-49)) (tgt := 46) (zdg dz_W_read_2 6 rfl) (by decide) ?_
  exact vf_perm [1, 2, 0] rfl (hk46 _ _)
def f_W_read_88 (v2 : Int) (w : Wd) : Option (Int × Wd) :=
  some (w32 ((-1) - v2), w)
theorem t_W_read_88 {X : jX} {Qf : Int × Wd → State → Prop} {ad : Nat → Nat} (C : Cx X prog_12_method_2_code "EachBringsAnother$Wish") (hn : xn X = 4) (hR : xR X = rmD 4) (hr : Rt X Qf ad prog_12_method_2_code 0) (v2 : Int) (w : Wd) : VF X Qf ad NF 0 0 w 88 [(2, (0, v2))] [] (f_W_read_88 v2 w) := by
  unfold f_W_read_88
  refine vf_iconst C (z := (-1)) (zdg dz_W_read_2 1 rfl) (jz rfl) ?_
  refine vf_iload_n C (f := 2) (zdg dz_W_read_2 2 rfl) 0 rfl rfl ?_
  refine vf_isub C (zdg dz_W_read_2 3 rfl) ?_
  exact hr _ _ _ _ (fun h => absurd h (by decide)) (zdg dz_W_read_2 4 rfl)
def f_W_read_46 : Nat → Int → Wd → Option (Int × Wd)
  | 0, _, _ => none
  | n + 1, v2, w =>
    if (w 1 1) ≤ v2 then
      if (w 19 10) = 0 then
        if (w 19 7) ≤ 0 then
          jcall (f_W_release 1 w) fun r7 u8 =>
          jgd ((0 : Int) ≤ (0 : Int) ∧ (0 : Int) ≤ (0 : Int) ∧ (0 : Int) ≤ (u8 19 5) ∧ (0 : Int) + (u8 19 5) ≤ 40 ∧ (0 : Int) + (u8 19 5) ≤ 40) <|
          jlw (cpy u8 21 20 0 0 (u8 19 5)) fun u9 =>
          jlw (st u9 19 4 (u9 19 5)) fun u10 =>
          some (0, u10)
        else
          f_W_read_112 w
      else
        f_W_read_112 w
    else
      jcall (f_T_signAt v2 40 w) fun r11 u12 =>
      if (u12 19 10) = 0 then
        jcall (f_W_takeBehindThing r11 u12) fun r13 u14 =>
        if r13 = 0 then
          f_W_read_88 v2 u14
        else
          f_W_read_92 (f_W_read_46 n) v2 u14
      else
        jcall (f_W_takeThing r11 u12) fun r16 u17 =>
        if r16 = 0 then
          f_W_read_88 v2 u17
        else
          f_W_read_92 (f_W_read_46 n) v2 u17
theorem t_W_read_46 {X : jX} {Qf : Int × Wd → State → Prop} {ad : Nat → Nat} (C : Cx X prog_12_method_2_code "EachBringsAnother$Wish") (hn : xn X = 4) (hR : xR X = rmD 4) (hr : Rt X Qf ad prog_12_method_2_code 0) : ∀ (n : Nat) (v2 : Int) (w : Wd), VF X Qf ad NF 0 0 w 46 [(0, (2, 20)), (1, (2, 2)), (2, (0, v2))] [] (f_W_read_46 n v2 w) := by
  intro n
  induction n with
  | zero => intros; exact vf_no
  | succ n ih =>
    intro v2 w
    rw [f_W_read_46]
    refine vf_iload_n C (f := 2) (zdg dz_W_read_1 4 rfl) 2 rfl rfl ?_
    refine vf_aload_n C (f := 1) (zdg dz_W_read_1 5 rfl) 1 rfl rfl ?_
    refine vf_get C (kd := 0) fl_W_24 sh_1 rfl (by decide) rfl rfl (zdg dz_W_read_1 6 rfl) ?_
    refine vf_icmp_ge C (off := 47) (tgt := 98) (zdg dz_W_read_1 7 rfl) (by decide) ?_ ?_
    · refine vf_aload_n C (f := 0) (zdg dz_W_read_2 7 rfl) 0 rfl rfl ?_
      refine vf_get C (kd := 0) fl_W_46 sh_19 rfl (by decide) rfl rfl (zdg dz_W_read_2 8 rfl) ?_
      refine vf_if_ne C (off := 10) (tgt := 112) (zdg dz_W_read_2 9 rfl) (by decide) ?_ ?_
      · exact vf_perm [1] rfl (t_W_read_112 C hn hR hr _)
      · refine vf_aload_n C (f := 0) (zdg dz_W_read_2 10 rfl) 0 rfl rfl ?_
        refine vf_get C (kd := 0) fl_W_37 sh_19 rfl (by decide) rfl rfl (zdg dz_W_read_2 11 rfl) ?_
        refine vf_if_le C (off := 10) (tgt := 119) (zdg dz_W_read_2 12 rfl) (by decide) ?_ ?_
        · refine vf_aload_n C (f := 0) (zdg dz_W_read_2 18 rfl) 0 rfl rfl ?_
          refine vf_iconst C (z := 1) (zdg dz_W_read_2 19 rfl) (jz rfl) ?_
          refine vf_callVv C cy_W_release ml_W_61 rfl (ct_W_release _ _) (S := []) sh_19 (by decide) rfl (jrm_of hR rfl) rfl rfl (Nat.le_of_ble_eq_true rfl) (zdg dz_W_read_2 20 rfl) (fun r7 u8 => ?_)
          refine vf_aload_n C (f := 0) (zdg dz_W_read_2 21 rfl) 0 rfl rfl ?_
          refine vf_getp C fl_W_15 sh_19 rfl (by decide) rfl (x := 22) rfl (zdg dz_W_read_2 22 rfl) ?_
          refine vf_iconst C (z := 0) (zdg dz_W_read_2 23 rfl) (jz rfl) ?_
          refine vf_aload_n C (f := 0) (zdg dz_W_read_3 0 rfl) 0 rfl rfl ?_
          refine vf_getp C fl_W_9 sh_19 rfl (by decide) rfl (x := 21) rfl (zdg dz_W_read_3 1 rfl) ?_
          refine vf_iconst C (z := 0) (zdg dz_W_read_3 2 rfl) (jz rfl) ?_
          refine vf_aload_n C (f := 0) (zdg dz_W_read_3 3 rfl) 0 rfl rfl ?_
          refine vf_get C (kd := 0) fl_W_31 sh_19 rfl (by decide) rfl rfl (zdg dz_W_read_3 4 rfl) ?_
          refine vf_copy C ml_W_65 sh_21 sh_20 (by decide) (by decide) (by decide) rfl rfl rfl rfl (jrm_n hR (by decide)) (Nat.le_of_ble_eq_true rfl) (by decide +kernel) ?_
          generalize cpy u8 21 20 0 0 (u8 19 5) = u9
          refine vf_uw ?_
          refine vf_aload_n C (f := 0) (zdg dz_W_read_3 6 rfl) 0 rfl rfl ?_
          refine vf_aload_n C (f := 0) (zdg dz_W_read_3 7 rfl) 0 rfl rfl ?_
          refine vf_get C (kd := 0) fl_W_31 sh_19 rfl (by decide) rfl rfl (zdg dz_W_read_3 8 rfl) ?_
          refine vf_put C (kd := 0) fl_W_30 fk_7_4 sh_19 rfl (by decide) rfl rfl (by decide) (zdg dz_W_read_3 9 rfl) ?_
          generalize st u9 19 4 (u9 19 5) = u10
          refine vf_uw ?_
          refine vf_iconst C (z := 0) (zdg dz_W_read_3 10 rfl) (jz rfl) ?_
          exact hr _ _ _ _ (fun h => absurd h (by decide)) (zdg dz_W_read_3 11 rfl)
        · exact vf_perm [1] rfl (t_W_read_112 C hn hR hr _)
    · refine vf_aload_n C (f := 1) (zdg dz_W_read_1 8 rfl) 1 rfl rfl ?_
      refine vf_iload_n C (f := 2) (zdg dz_W_read_1 9 rfl) 2 rfl rfl ?_
      refine vf_bipush C (z := 40) (zdg dz_W_read_1 10 rfl) (by decide +kernel) (jz rfl) ?_
      refine vf_callVi C cy_T_signAt ml_W_50 rfl (ct_T_signAt _ _ _) (S := []) sh_1 (by decide) rfl (jrm_of hR rfl) rfl rfl (Nat.le_of_ble_eq_true rfl) (zdg dz_W_read_1 11 rfl) (fun r11 u12 => ?_)
      refine vf_istore_n C (f := 3) (L' := [(0, (2, 20)), (1, (2, 2)), (2, (0, v2))]) (zdg dz_W_read_1 12 rfl) [0, 1, 2] (jrI rfl rfl) hn (by decide) rfl ?_
      refine vf_aload_n C (f := 0) (zdg dz_W_read_1 13 rfl) 1 rfl rfl ?_
      refine vf_get C (kd := 0) fl_W_46 sh_19 rfl (by decide) rfl rfl (zdg dz_W_read_1 14 rfl) ?_
      refine vf_if_eq C (off := 14) (tgt := 80) (zdg dz_W_read_1 15 rfl) (by decide) ?_ ?_
      · refine vf_aload_n C (f := 0) (zdg dz_W_read_1 21 rfl) 1 rfl rfl ?_
        refine vf_iload_n C (f := 3) (zdg dz_W_read_1 22 rfl) 0 rfl rfl ?_
        refine vf_callVz C cy_W_takeBehindThing ml_W_58 rfl (ct_W_takeBehindThing _ _) (S := []) sh_19 (by decide) rfl (jrm_of hR rfl) rfl rfl (Nat.le_of_ble_eq_true rfl) (zdg dz_W_read_1 23 rfl) (fun r13 u14 => ?_)
        refine vf_if_ne C (off := 7) (tgt := 92) (zdg dz_W_read_2 0 rfl) (by decide) ?_ ?_
        · exact vf_perm [1, 2, 3] rfl (t_W_read_92 C hn hR hr ih _ _)
        · exact vf_perm [3] rfl (t_W_read_88 C hn hR hr _ _)
      · refine vf_aload_n C (f := 0) (zdg dz_W_read_1 16 rfl) 1 rfl rfl ?_
        refine vf_iload_n C (f := 3) (zdg dz_W_read_1 17 rfl) 0 rfl rfl ?_
        refine vf_callVz C cy_W_takeThing ml_W_54 rfl (ct_W_takeThing _ _) (S := []) sh_19 (by decide) rfl (jrm_of hR rfl) rfl rfl (Nat.le_of_ble_eq_true rfl) (zdg dz_W_read_1 18 rfl) (fun r16 u17 => ?_)
        refine vf_if_eq C (off := 14) (tgt := 88) (zdg dz_W_read_1 19 rfl) (by decide) ?_ ?_
        · exact vf_perm [3] rfl (t_W_read_88 C hn hR hr _ _)
        · refine vf_goto C (off := 15) (tgt := 92) (zdg dz_W_read_1 20 rfl) (by decide) ?_
          exact vf_perm [1, 2, 3] rfl (t_W_read_92 C hn hR hr ih _ _)
def f_W_read (w : Wd) : Option (Int × Wd) :=
  if (w 1 1) = 0 then
    jlw (st w 19 4 0) fun u18 =>
    some (0, u18)
  else
    jlw (st w 19 5 0) fun u1 =>
    jlw (st u1 19 6 0) fun u2 =>
    jlw (st u2 19 7 0) fun u3 =>
    jlw (st u3 19 8 0) fun u4 =>
    jlw (st u4 19 9 0) fun u5 =>
    jlw (st u5 19 10 1) fun u6 =>
    f_W_read_46 FU 0 u6
theorem ct_W_read (w : Wd) : Ct y_W_read prog_12_method_2_code 4 (some .int) 4 0 [(2, 20), (2, 2)] w (f_W_read w) := by
  refine ct_of (by decide +kernel) (Or.inl ⟨rfl, rfl⟩) (Nat.le_of_ble_eq_true rfl) ?_
  intro X Qf ad C hn hR hr
  unfold f_W_read
  show VF X Qf ad NF 0 0 w 0 [(0, (2, 20)), (1, (2, 2))] [] _
  refine vf_aload_n C (f := 1) (zdg dz_W_read_0 0 rfl) 1 rfl rfl ?_
  refine vf_get C (kd := 0) fl_W_24 sh_1 rfl (by decide) rfl rfl (zdg dz_W_read_0 1 rfl) ?_
  refine vf_if_ne C (off := 10) (tgt := 14) (zdg dz_W_read_0 2 rfl) (by decide) ?_ ?_
  · refine vf_aload_n C (f := 0) (zdg dz_W_read_0 8 rfl) 0 rfl rfl ?_
    refine vf_iconst C (z := 0) (zdg dz_W_read_0 9 rfl) (jz rfl) ?_
    refine vf_put C (kd := 0) fl_W_31 fk_7_5 sh_19 rfl (by decide) rfl rfl (by decide) (zdg dz_W_read_0 10 rfl) ?_
    generalize st w 19 5 0 = u1
    refine vf_uw ?_
    refine vf_aload_n C (f := 0) (zdg dz_W_read_0 11 rfl) 0 rfl rfl ?_
    refine vf_iconst C (z := 0) (zdg dz_W_read_0 12 rfl) (jz rfl) ?_
    refine vf_put C (kd := 0) fl_W_34 fk_7_6 sh_19 rfl (by decide) rfl rfl (by decide) (zdg dz_W_read_0 13 rfl) ?_
    generalize st u1 19 6 0 = u2
    refine vf_uw ?_
    refine vf_aload_n C (f := 0) (zdg dz_W_read_0 14 rfl) 0 rfl rfl ?_
    refine vf_iconst C (z := 0) (zdg dz_W_read_0 15 rfl) (jz rfl) ?_
    refine vf_put C (kd := 0) fl_W_37 fk_7_7 sh_19 rfl (by decide) rfl rfl (by decide) (zdg dz_W_read_0 16 rfl) ?_
    generalize st u2 19 7 0 = u3
    refine vf_uw ?_
    refine vf_aload_n C (f := 0) (zdg dz_W_read_0 17 rfl) 0 rfl rfl ?_
    refine vf_iconst C (z := 0) (zdg dz_W_read_0 18 rfl) (jz rfl) ?_
    refine vf_put C (kd := 0) fl_W_40 fk_7_8 sh_19 rfl (by decide) rfl rfl (by decide) (zdg dz_W_read_0 19 rfl) ?_
    generalize st u3 19 8 0 = u4
    refine vf_uw ?_
    refine vf_aload_n C (f := 0) (zdg dz_W_read_0 20 rfl) 0 rfl rfl ?_
    refine vf_iconst C (z := 0) (zdg dz_W_read_0 21 rfl) (jz rfl) ?_
    refine vf_put C (kd := 0) fl_W_43 fk_7_9 sh_19 rfl (by decide) rfl rfl (by decide) (zdg dz_W_read_0 22 rfl) ?_
    generalize st u4 19 9 0 = u5
    refine vf_uw ?_
    refine vf_aload_n C (f := 0) (zdg dz_W_read_0 23 rfl) 0 rfl rfl ?_
    refine vf_iconst C (z := 1) (zdg dz_W_read_1 0 rfl) (jz rfl) ?_
    refine vf_putzl C fl_W_46 fk_7_10 sh_19 rfl (by decide) rfl (Or.inr rfl) (zdg dz_W_read_1 1 rfl) ?_
    generalize st u5 19 10 1 = u6
    refine vf_uw ?_
    refine vf_iconst C (z := 0) (zdg dz_W_read_1 2 rfl) (jz rfl) ?_
    refine vf_istore_n C (f := 2) (L' := [(0, (2, 20)), (1, (2, 2))]) (zdg dz_W_read_1 3 rfl) [0, 1] (jrI rfl rfl) hn (by decide) rfl ?_
    exact vf_perm [1, 2, 0] rfl (t_W_read_46 C hn hR hr FU _ _)
  · refine vf_aload_n C (f := 0) (zdg dz_W_read_0 3 rfl) 0 rfl rfl ?_
    refine vf_iconst C (z := 0) (zdg dz_W_read_0 4 rfl) (jz rfl) ?_
    refine vf_put C (kd := 0) fl_W_30 fk_7_4 sh_19 rfl (by decide) rfl rfl (by decide) (zdg dz_W_read_0 5 rfl) ?_
    generalize st w 19 4 0 = u18
    refine vf_uw ?_
    refine vf_iconst C (z := 0) (zdg dz_W_read_0 6 rfl) (jz rfl) ?_
    exact hr _ _ _ _ (fun h => absurd h (by decide)) (zdg dz_W_read_0 7 rfl)
def f_E_rule (w : Wd) : Option (Int × Wd) :=
  jcall (f_W_read w) fun r1 u2 =>
  jcall (f_T_clear u2) fun r3 u4 =>
  some (r1, u4)
theorem ct_E_rule (w : Wd) : Ct y_E_rule prog_1_method_5_code 2 (some .int) 5 0 [(2, 1)] w (f_E_rule w) := by
  refine ct_of (by decide +kernel) (Or.inl ⟨rfl, rfl⟩) (Nat.le_of_ble_eq_true rfl) ?_
  intro X Qf ad C hn hR hr
  unfold f_E_rule
  show VF X Qf ad NF 0 0 w 0 [(0, (2, 1))] [] _
  refine vf_aload_n C (f := 0) (zdg dz_E_rule_0 0 rfl) 0 rfl rfl ?_
  refine vf_getp C fl_E_54 sh_0 rfl (by decide) rfl (x := 20) rfl (zdg dz_E_rule_0 1 rfl) ?_
  refine vf_aload_n C (f := 0) (zdg dz_E_rule_0 2 rfl) 0 rfl rfl ?_
  refine vf_getp C fl_E_12 sh_0 rfl (by decide) rfl (x := 2) rfl (zdg dz_E_rule_0 3 rfl) ?_
  refine vf_callVi C cy_W_read ml_E_105 rfl (ct_W_read _) (S := []) sh_19 (by decide) rfl (jrm_of hR rfl) rfl rfl (Nat.le_of_ble_eq_true rfl) (zdg dz_E_rule_0 4 rfl) (fun r1 u2 => ?_)
  refine vf_istore_n C (f := 1) (L' := [(0, (2, 1))]) (zdg dz_E_rule_0 5 rfl) [0] (jrI rfl rfl) hn (by decide) rfl ?_
  refine vf_aload_n C (f := 0) (zdg dz_E_rule_0 6 rfl) 1 rfl rfl ?_
  refine vf_getp C fl_E_12 sh_0 rfl (by decide) rfl (x := 2) rfl (zdg dz_E_rule_0 7 rfl) ?_
  refine vf_callVv C cy_T_clear ml_E_95 rfl (ct_T_clear _) (S := []) sh_1 (by decide) rfl (jrm_of hR rfl) rfl rfl (Nat.le_of_ble_eq_true rfl) (zdg dz_E_rule_0 8 rfl) (fun r3 u4 => ?_)
  refine vf_iload_n C (f := 1) (zdg dz_E_rule_0 9 rfl) 0 rfl rfl ?_
  exact hr _ _ _ _ (fun h => absurd h (by decide)) (zdg dz_E_rule_0 10 rfl)
def f_F_isThere (v1 : Int) (w : Wd) : Option (Int × Wd) :=
  if v1 < 0 then
    some (0, w)
  else
    if (w 5 3) ≤ v1 then
      some (0, w)
    else
      some (1, w)
theorem ct_F_isThere (v1 : Int) (w : Wd) : Ct y_F_isThere prog_3_method_2_code 2 (some .boolean) 1 4 [(2, 6), (0, v1)] w (f_F_isThere v1 w) := by
  refine ct_of (by decide +kernel) (Or.inr (Or.inr (Or.inl ⟨rfl, rfl⟩))) (Nat.le_of_ble_eq_true rfl) ?_
  intro X Qf ad C hn hR hr
  unfold f_F_isThere
  show VF X Qf ad NF 0 0 w 0 [(0, (2, 6)), (1, (0, v1))] [] _
  refine vf_iload_n C (f := 1) (zdg dz_F_isThere_0 0 rfl) 1 rfl rfl ?_
  refine vf_if_lt C (off := 15) (tgt := 16) (zdg dz_F_isThere_0 1 rfl) (by decide) ?_ ?_
  · refine vf_iconst C (z := 0) (zdg dz_F_isThere_0 8 rfl) (jz rfl) ?_
    exact hr _ _ _ _ (fun _ => Or.inl rfl) (zdg dz_F_isThere_0 9 rfl)
  · refine vf_iload_n C (f := 1) (zdg dz_F_isThere_0 2 rfl) 1 rfl rfl ?_
    refine vf_aload_n C (f := 0) (zdg dz_F_isThere_0 3 rfl) 0 rfl rfl ?_
    refine vf_get C (kd := 0) fl_F_28 sh_5 rfl (by decide) rfl rfl (zdg dz_F_isThere_0 4 rfl) ?_
    refine vf_icmp_ge C (off := 7) (tgt := 16) (zdg dz_F_isThere_0 5 rfl) (by decide) ?_ ?_
    · refine vf_iconst C (z := 0) (zdg dz_F_isThere_0 8 rfl) (jz rfl) ?_
      exact hr _ _ _ _ (fun _ => Or.inl rfl) (zdg dz_F_isThere_0 9 rfl)
    · refine vf_iconst C (z := 1) (zdg dz_F_isThere_0 6 rfl) (jz rfl) ?_
      refine vf_goto C (off := 4) (tgt := 17) (zdg dz_F_isThere_0 7 rfl) (by decide) ?_
      exact hr _ _ _ _ (fun _ => Or.inr rfl) (zdg dz_F_isThere_0 9 rfl)
def f_F_everybody (w : Wd) : Option (Int × Wd) :=
  some (w32 ((ishl 1 (w 5 3)) - 1), w)
theorem ct_F_everybody (w : Wd) : Ct y_F_everybody prog_3_method_3_code 1 (some .int) 1 0 [(2, 6)] w (f_F_everybody w) := by
  refine ct_of (by decide +kernel) (Or.inl ⟨rfl, rfl⟩) (Nat.le_of_ble_eq_true rfl) ?_
  intro X Qf ad C hn hR hr
  unfold f_F_everybody
  show VF X Qf ad NF 0 0 w 0 [(0, (2, 6))] [] _
  refine vf_iconst C (z := 1) (zdg dz_F_everybody_0 0 rfl) (jz rfl) ?_
  refine vf_aload_n C (f := 0) (zdg dz_F_everybody_0 1 rfl) 0 rfl rfl ?_
  refine vf_get C (kd := 0) fl_F_28 sh_5 rfl (by decide) rfl rfl (zdg dz_F_everybody_0 2 rfl) ?_
  refine vf_ishl C (zdg dz_F_everybody_0 3 rfl) ?_
  refine vf_iconst C (z := 1) (zdg dz_F_everybody_0 4 rfl) (jz rfl) ?_
  refine vf_isub C (zdg dz_F_everybody_0 5 rfl) ?_
  exact hr _ _ _ _ (fun h => absurd h (by decide)) (zdg dz_F_everybody_0 6 rfl)
def f_O_known (v0 : Int) (w : Wd) : Option (Int × Wd) :=
  some (iand (ior (ior v0 (ishr v0 10)) (ishr v0 20)) 1023, w)
theorem ct_O_known (v0 : Int) (w : Wd) : Ct y_O_known prog_11_method_4_code 1 (some .int) 1 0 [(0, v0)] w (f_O_known v0 w) := by
  refine ct_of (by decide +kernel) (Or.inl ⟨rfl, rfl⟩) (Nat.le_of_ble_eq_true rfl) ?_
  intro X Qf ad C hn hR hr
  unfold f_O_known
  show VF X Qf ad NF 0 0 w 0 [(0, (0, v0))] [] _
  refine vf_iload_n C (f := 0) (zdg dz_O_known_0 0 rfl) 0 rfl rfl ?_
  refine vf_iload_n C (f := 0) (zdg dz_O_known_0 1 rfl) 0 rfl rfl ?_
  refine vf_bipush C (z := 10) (zdg dz_O_known_0 2 rfl) (by decide +kernel) (jz rfl) ?_
  refine vf_ishr C (zdg dz_O_known_0 3 rfl) ?_
  refine vf_ior C (zdg dz_O_known_0 4 rfl) ?_
  refine vf_iload_n C (f := 0) (zdg dz_O_known_0 5 rfl) 0 rfl rfl ?_
  refine vf_bipush C (z := 20) (zdg dz_O_known_0 6 rfl) (by decide +kernel) (jz rfl) ?_
  refine vf_ishr C (zdg dz_O_known_0 7 rfl) ?_
  refine vf_ior C (zdg dz_O_known_0 8 rfl) ?_
  refine vf_sipush C (z := 1023) (zdg dz_O_known_0 9 rfl) (by decide +kernel) (jz rfl) ?_
  refine vf_iand C (zdg dz_O_known_0 10 rfl) ?_
  exact hr _ _ _ _ (fun h => absurd h (by decide)) (zdg dz_O_known_0 11 rfl)
def f_F_strangers (w : Wd) : Option (Int × Wd) :=
  jcall (f_F_everybody w) fun r1 u2 =>
  jcall (f_O_known (u2 5 4) u2) fun r3 u4 =>
  some (iand r1 (ixor r3 (-1)), u4)
theorem ct_F_strangers (w : Wd) : Ct y_F_strangers prog_3_method_5_code 1 (some .int) 2 0 [(2, 6)] w (f_F_strangers w) := by
  refine ct_of (by decide +kernel) (Or.inl ⟨rfl, rfl⟩) (Nat.le_of_ble_eq_true rfl) ?_
  intro X Qf ad C hn hR hr
  unfold f_F_strangers
  show VF X Qf ad NF 0 0 w 0 [(0, (2, 6))] [] _
  refine vf_aload_n C (f := 0) (zdg dz_F_strangers_0 0 rfl) 0 rfl rfl ?_
  refine vf_callVi C cy_F_everybody ml_F_40 rfl (ct_F_everybody _) (S := []) sh_5 (by decide) rfl (jrm_of hR rfl) rfl rfl (Nat.le_of_ble_eq_true rfl) (zdg dz_F_strangers_0 1 rfl) (fun r1 u2 => ?_)
  refine vf_aload_n C (f := 0) (zdg dz_F_strangers_0 2 rfl) 0 rfl rfl ?_
  refine vf_get C (kd := 0) fl_F_31 sh_5 rfl (by decide) rfl rfl (zdg dz_F_strangers_0 3 rfl) ?_
  refine vf_callSi C cy_O_known ml_F_44 (ct_O_known _ _) (S := [(0, r1)]) (jrm_of hR rfl) rfl rfl (Nat.le_of_ble_eq_true rfl) (zdg dz_F_strangers_0 4 rfl) (fun r3 u4 => ?_)
  refine vf_iconst C (z := (-1)) (zdg dz_F_strangers_0 5 rfl) (jz rfl) ?_
  refine vf_ixor C (zdg dz_F_strangers_0 6 rfl) ?_
  refine vf_iand C (zdg dz_F_strangers_0 7 rfl) ?_
  exact hr _ _ _ _ (fun h => absurd h (by decide)) (zdg dz_F_strangers_0 8 rfl)
def f_O_late (v0 v1 : Int) (w : Wd) : Option (Int × Wd) :=
  jcall (f_O_guests v0 w) fun r1 u2 =>
  jcall (f_E_has r1 v1 u2) fun r3 u4 =>
  if r3 = 0 then
    some ((-1), u4)
  else
    some (w32 ((w32 ((iand (ishr v0 v1) 1) + (w32 (2 * (iand (ishr v0 (w32 (10 + v1))) 1))))) - 1), u4)
theorem ct_O_late (v0 v1 : Int) (w : Wd) : Ct y_O_late prog_11_method_5_code 2 (some .int) 2 0 [(0, v0), (0, v1)] w (f_O_late v0 v1 w) := by
  refine ct_of (by decide +kernel) (Or.inl ⟨rfl, rfl⟩) (Nat.le_of_ble_eq_true rfl) ?_
  intro X Qf ad C hn hR hr
  unfold f_O_late
  show VF X Qf ad NF 0 0 w 0 [(0, (0, v0)), (1, (0, v1))] [] _
  refine vf_iload_n C (f := 0) (zdg dz_O_late_0 0 rfl) 0 rfl rfl ?_
  refine vf_callSi C cy_O_guests ml_O_9 (ct_O_guests _ _) (S := []) (jrm_of hR rfl) rfl rfl (Nat.le_of_ble_eq_true rfl) (zdg dz_O_late_0 1 rfl) (fun r1 u2 => ?_)
  refine vf_iload_n C (f := 1) (zdg dz_O_late_0 2 rfl) 1 rfl rfl ?_
  refine vf_callSz C cy_E_has ml_O_15 (ct_E_has _ _ _) (S := []) (jrm_of hR rfl) rfl rfl (Nat.le_of_ble_eq_true rfl) (zdg dz_O_late_0 3 rfl) (fun r3 u4 => ?_)
  refine vf_if_eq C (off := 24) (tgt := 32) (zdg dz_O_late_0 4 rfl) (by decide) ?_ ?_
  · refine vf_iconst C (z := (-1)) (zdg dz_O_late_0 23 rfl) (jz rfl) ?_
    exact hr _ _ _ _ (fun h => absurd h (by decide)) (zdg dz_O_late_1 0 rfl)
  · refine vf_iload_n C (f := 0) (zdg dz_O_late_0 5 rfl) 0 rfl rfl ?_
    refine vf_iload_n C (f := 1) (zdg dz_O_late_0 6 rfl) 1 rfl rfl ?_
    refine vf_ishr C (zdg dz_O_late_0 7 rfl) ?_
    refine vf_iconst C (z := 1) (zdg dz_O_late_0 8 rfl) (jz rfl) ?_
    refine vf_iand C (zdg dz_O_late_0 9 rfl) ?_
    refine vf_iconst C (z := 2) (zdg dz_O_late_0 10 rfl) (jz rfl) ?_
    refine vf_iload_n C (f := 0) (zdg dz_O_late_0 11 rfl) 0 rfl rfl ?_
    refine vf_bipush C (z := 10) (zdg dz_O_late_0 12 rfl) (by decide +kernel) (jz rfl) ?_
    refine vf_iload_n C (f := 1) (zdg dz_O_late_0 13 rfl) 1 rfl rfl ?_
    refine vf_iadd C (zdg dz_O_late_0 14 rfl) ?_
    refine vf_ishr C (zdg dz_O_late_0 15 rfl) ?_
    refine vf_iconst C (z := 1) (zdg dz_O_late_0 16 rfl) (jz rfl) ?_
    refine vf_iand C (zdg dz_O_late_0 17 rfl) ?_
    refine vf_imul C (zdg dz_O_late_0 18 rfl) ?_
    refine vf_iadd C (zdg dz_O_late_0 19 rfl) ?_
    refine vf_iconst C (z := 1) (zdg dz_O_late_0 20 rfl) (jz rfl) ?_
    refine vf_isub C (zdg dz_O_late_0 21 rfl) ?_
    refine vf_goto C (off := 4) (tgt := 33) (zdg dz_O_late_0 22 rfl) (by decide) ?_
    exact hr _ _ _ _ (fun h => absurd h (by decide)) (zdg dz_O_late_1 0 rfl)
def f_D_guestsBehind (v1 : Int) (w : Wd) : Option (Int × Wd) :=
  jcall (f_D_isOne v1 w) fun r1 u2 =>
  if r1 = 0 then
    some (0, u2)
  else
    jgd ((0 : Int) ≤ v1 ∧ v1 < 61) <|
    some (u2 16 v1.toNat, u2)
theorem ct_D_guestsBehind (v1 : Int) (w : Wd) : Ct y_D_guestsBehind prog_2_method_3_code 2 (some .int) 2 0 [(2, 16), (0, v1)] w (f_D_guestsBehind v1 w) := by
  refine ct_of (by decide +kernel) (Or.inl ⟨rfl, rfl⟩) (Nat.le_of_ble_eq_true rfl) ?_
  intro X Qf ad C hn hR hr
  unfold f_D_guestsBehind
  show VF X Qf ad NF 0 0 w 0 [(0, (2, 16)), (1, (0, v1))] [] _
  refine vf_aload_n C (f := 0) (zdg dz_D_guestsBehind_0 0 rfl) 0 rfl rfl ?_
  refine vf_iload_n C (f := 1) (zdg dz_D_guestsBehind_0 1 rfl) 1 rfl rfl ?_
  refine vf_callVz C cy_D_isOne ml_D_25 rfl (ct_D_isOne _ _) (S := []) sh_15 (by decide) rfl (jrm_of hR rfl) rfl rfl (Nat.le_of_ble_eq_true rfl) (zdg dz_D_guestsBehind_0 2 rfl) (fun r1 u2 => ?_)
  refine vf_if_eq C (off := 12) (tgt := 17) (zdg dz_D_guestsBehind_0 3 rfl) (by decide) ?_ ?_
  · refine vf_iconst C (z := 0) (zdg dz_D_guestsBehind_0 9 rfl) (jz rfl) ?_
    exact hr _ _ _ _ (fun h => absurd h (by decide)) (zdg dz_D_guestsBehind_0 10 rfl)
  · refine vf_aload_n C (f := 0) (zdg dz_D_guestsBehind_0 4 rfl) 0 rfl rfl ?_
    refine vf_getp C fl_D_9 sh_15 rfl (by decide) rfl (x := 17) rfl (zdg dz_D_guestsBehind_0 5 rfl) ?_
    refine vf_iload_n C (f := 1) (zdg dz_D_guestsBehind_0 6 rfl) 1 rfl rfl ?_
    refine vf_iald C sh_16 (by decide) rfl (mz := 61) rfl (zdg dz_D_guestsBehind_0 7 rfl) ?_
    refine vf_goto C (off := 4) (tgt := 18) (zdg dz_D_guestsBehind_0 8 rfl) (by decide) ?_
    exact hr _ _ _ _ (fun h => absurd h (by decide)) (zdg dz_D_guestsBehind_0 10 rfl)
def f_D_firstWeekOf_2 : Nat → Int → Int → Wd → Option (Int × Wd)
  | 0, _, _, _ => none
  | n + 1, v1, v2, w =>
    if (w 15 3) < v2 then
      some ((-1), w)
    else
      jcall (f_D_guestsBehind v2 w) fun r1 u2 =>
      jcall (f_E_has r1 v1 u2) fun r3 u4 =>
      if r3 = 0 then
        jlet (w32 (v2 + 1)) fun x5 =>
        f_D_firstWeekOf_2 n v1 x5 u4
      else
        some (v2, u4)
theorem t_D_firstWeekOf_2 {X : jX} {Qf : Int × Wd → State → Prop} {ad : Nat → Nat} (C : Cx X prog_2_method_4_code "EachBringsAnother$Diary") (hn : xn X = 3) (hR : xR X = rmD 3) (hr : Rt X Qf ad prog_2_method_4_code 0) : ∀ (n : Nat) (v1 v2 : Int) (w : Wd), VF X Qf ad NF 0 0 w 2 [(0, (2, 16)), (1, (0, v1)), (2, (0, v2))] [] (f_D_firstWeekOf_2 n v1 v2 w) := by
  intro n
  induction n with
  | zero => intros; exact vf_no
  | succ n ih =>
    intro v1 v2 w
    rw [f_D_firstWeekOf_2]
    refine vf_iload_n C (f := 2) (zdg dz_D_firstWeekOf_0 2 rfl) 2 rfl rfl ?_
    refine vf_aload_n C (f := 0) (zdg dz_D_firstWeekOf_0 3 rfl) 0 rfl rfl ?_
    refine vf_get C (kd := 0) fl_D_21 sh_15 rfl (by decide) rfl rfl (zdg dz_D_firstWeekOf_0 4 rfl) ?_
    refine vf_icmp_gt C (off := 23) (tgt := 30) (zdg dz_D_firstWeekOf_0 5 rfl) (by decide) ?_ ?_
    · refine vf_iconst C (z := (-1)) (zdg dz_D_firstWeekOf_0 16 rfl) (jz rfl) ?_
      exact hr _ _ _ _ (fun h => absurd h (by decide)) (zdg dz_D_firstWeekOf_0 17 rfl)
    · refine vf_aload_n C (f := 0) (zdg dz_D_firstWeekOf_0 6 rfl) 0 rfl rfl ?_
      refine vf_iload_n C (f := 2) (zdg dz_D_firstWeekOf_0 7 rfl) 2 rfl rfl ?_
      refine vf_callVi C cy_D_guestsBehind ml_D_29 rfl (ct_D_guestsBehind _ _) (S := []) sh_15 (by decide) rfl (jrm_of hR rfl) rfl rfl (Nat.le_of_ble_eq_true rfl) (zdg dz_D_firstWeekOf_0 8 rfl) (fun r1 u2 => ?_)
      refine vf_iload_n C (f := 1) (zdg dz_D_firstWeekOf_0 9 rfl) 1 rfl rfl ?_
      refine vf_callSz C cy_E_has ml_D_33 (ct_E_has _ _ _) (S := []) (jrm_of hR rfl) rfl rfl (Nat.le_of_ble_eq_true rfl) (zdg dz_D_firstWeekOf_0 10 rfl) (fun r3 u4 => ?_)
      refine vf_if_eq C (off := 5) (tgt := 24) (zdg dz_D_firstWeekOf_0 11 rfl) (by decide) ?_ ?_
      · refine vf_iinc C (z := 1) (L' := [(0, (2, 16)), (1, (0, v1))]) (zdg dz_D_firstWeekOf_0 14 rfl) 2 rfl [0, 1] (jrI rfl rfl) hn (by decide) ?_
        generalize w32 (v2 + 1) = x5
        refine vf_ul ?_
        refine vf_goto C (off := (-25)) (tgt := 2) (zdg dz_D_firstWeekOf_0 15 rfl) (by decide) ?_
        exact vf_perm [1, 2, 0] rfl (ih _ _ _)
      · refine vf_iload_n C (f := 2) (zdg dz_D_firstWeekOf_0 12 rfl) 2 rfl rfl ?_
        exact hr _ _ _ _ (fun h => absurd h (by decide)) (zdg dz_D_firstWeekOf_0 13 rfl)
def f_D_firstWeekOf (v1 : Int) (w : Wd) : Option (Int × Wd) :=
  f_D_firstWeekOf_2 FU v1 0 w
theorem ct_D_firstWeekOf (v1 : Int) (w : Wd) : Ct y_D_firstWeekOf prog_2_method_4_code 3 (some .int) 3 0 [(2, 16), (0, v1)] w (f_D_firstWeekOf v1 w) := by
  refine ct_of (by decide +kernel) (Or.inl ⟨rfl, rfl⟩) (Nat.le_of_ble_eq_true rfl) ?_
  intro X Qf ad C hn hR hr
  unfold f_D_firstWeekOf
  show VF X Qf ad NF 0 0 w 0 [(0, (2, 16)), (1, (0, v1))] [] _
  refine vf_iconst C (z := 0) (zdg dz_D_firstWeekOf_0 0 rfl) (jz rfl) ?_
  refine vf_istore_n C (f := 2) (L' := [(0, (2, 16)), (1, (0, v1))]) (zdg dz_D_firstWeekOf_0 1 rfl) [0, 1] (jrI rfl rfl) hn (by decide) rfl ?_
  exact vf_perm [1, 2, 0] rfl (t_D_firstWeekOf_2 C hn hR hr FU _ _ _)
def f_E_law_75 (v3 : Int) (w : Wd) : Option (Int × Wd) :=
  jcall (f_S_forget w) fun r2 u3 =>
  some (v3, u3)
theorem t_E_law_75 {X : jX} {Qf : Int × Wd → State → Prop} {ad : Nat → Nat} (C : Cx X prog_1_method_7_code "EachBringsAnother") (hn : xn X = 4) (hR : xR X = rmD 2) (hr : Rt X Qf ad prog_1_method_7_code 0) (v3 : Int) (w : Wd) : VF X Qf ad NF 0 0 w 75 [(0, (2, 1)), (3, (0, v3))] [] (f_E_law_75 v3 w) := by
  unfold f_E_law_75
  refine vf_aload_n C (f := 0) (zdg dz_E_law_1 14 rfl) 0 rfl rfl ?_
  refine vf_getp C fl_E_68 sh_0 rfl (by decide) rfl (x := 29) rfl (zdg dz_E_law_1 15 rfl) ?_
  refine vf_callVv C cy_S_forget ml_E_162 rfl (ct_S_forget _) (S := []) sh_28 (by decide) rfl (jrm_of hR rfl) rfl rfl (Nat.le_of_ble_eq_true rfl) (zdg dz_E_law_1 16 rfl) (fun r2 u3 => ?_)
  refine vf_iload_n C (f := 3) (zdg dz_E_law_1 17 rfl) 1 rfl rfl ?_
  exact hr _ _ _ _ (fun h => absurd h (by decide)) (zdg dz_E_law_1 18 rfl)
def f_E_law_51 (v1 v2 s0 : Int) (w : Wd) : Option (Int × Wd) :=
  if v1 = 0 then
    jlw (st w 5 7 v2) fun u4 =>
    f_E_law_75 s0 u4
  else
    jlw (st w 5 8 v2) fun u1 =>
    f_E_law_75 s0 u1
theorem t_E_law_51 {X : jX} {Qf : Int × Wd → State → Prop} {ad : Nat → Nat} (C : Cx X prog_1_method_7_code "EachBringsAnother") (hn : xn X = 4) (hR : xR X = rmD 2) (hr : Rt X Qf ad prog_1_method_7_code 0) (v1 v2 s0 : Int) (w : Wd) : VF X Qf ad NF 0 0 w 51 [(0, (2, 1)), (1, (0, v1)), (2, (0, v2))] [(0, s0)] (f_E_law_51 v1 v2 s0 w) := by
  unfold f_E_law_51
  refine vf_istore_n C (f := 3) (L' := [(0, (2, 1)), (1, (0, v1)), (2, (0, v2))]) (zdg dz_E_law_1 2 rfl) [0, 1, 2] (jrI rfl rfl) hn (by decide) rfl ?_
  refine vf_iload_n C (f := 1) (zdg dz_E_law_1 3 rfl) 2 rfl rfl ?_
  refine vf_if_ne C (off := 14) (tgt := 67) (zdg dz_E_law_1 4 rfl) (by decide) ?_ ?_
  · refine vf_aload_n C (f := 0) (zdg dz_E_law_1 10 rfl) 1 rfl rfl ?_
    refine vf_getp C fl_E_26 sh_0 rfl (by decide) rfl (x := 6) rfl (zdg dz_E_law_1 11 rfl) ?_
    refine vf_iload_n C (f := 2) (zdg dz_E_law_1 12 rfl) 3 rfl rfl ?_
    refine vf_put C (kd := 0) fl_E_159 fk_2_8 sh_5 rfl (by decide) rfl rfl (by decide) (zdg dz_E_law_1 13 rfl) ?_
    generalize st w 5 8 v2 = u1
    refine vf_uw ?_
    exact vf_perm [1, 0] rfl (t_E_law_75 C hn hR hr _ _)
  · refine vf_aload_n C (f := 0) (zdg dz_E_law_1 5 rfl) 1 rfl rfl ?_
    refine vf_getp C fl_E_26 sh_0 rfl (by decide) rfl (x := 6) rfl (zdg dz_E_law_1 6 rfl) ?_
    refine vf_iload_n C (f := 2) (zdg dz_E_law_1 7 rfl) 3 rfl rfl ?_
    refine vf_put C (kd := 0) fl_E_156 fk_2_7 sh_5 rfl (by decide) rfl rfl (by decide) (zdg dz_E_law_1 8 rfl) ?_
    generalize st w 5 7 v2 = u4
    refine vf_uw ?_
    refine vf_goto C (off := 11) (tgt := 75) (zdg dz_E_law_1 9 rfl) (by decide) ?_
    exact vf_perm [1, 0] rfl (t_E_law_75 C hn hR hr _ _)
def f_E_law_25 (v1 v2 s0 s1 : Int) (w : Wd) : Option (Int × Wd) :=
  if s0 ≤ s1 then
    if v1 = 0 then
      f_E_law_51 v1 v2 (w 5 7) w
    else
      f_E_law_51 v1 v2 (w 5 8) w
  else
    some ((-1), w)
theorem t_E_law_25 {X : jX} {Qf : Int × Wd → State → Prop} {ad : Nat → Nat} (C : Cx X prog_1_method_7_code "EachBringsAnother") (hn : xn X = 4) (hR : xR X = rmD 2) (hr : Rt X Qf ad prog_1_method_7_code 0) (v1 v2 s0 s1 : Int) (w : Wd) : VF X Qf ad NF 0 0 w 25 [(0, (2, 1)), (1, (0, v1)), (2, (0, v2))] [(0, s1), (0, s0)] (f_E_law_25 v1 v2 s0 s1 w) := by
  unfold f_E_law_25
  refine vf_icmp_le C (off := 5) (tgt := 30) (zdg dz_E_law_0 14 rfl) (by decide) ?_ ?_
  · refine vf_iload_n C (f := 1) (zdg dz_E_law_0 17 rfl) 1 rfl rfl ?_
    refine vf_if_ne C (off := 13) (tgt := 44) (zdg dz_E_law_0 18 rfl) (by decide) ?_ ?_
    · refine vf_aload_n C (f := 0) (zdg dz_E_law_0 23 rfl) 0 rfl rfl ?_
      refine vf_getp C fl_E_26 sh_0 rfl (by decide) rfl (x := 6) rfl (zdg dz_E_law_1 0 rfl) ?_
      refine vf_get C (kd := 0) fl_E_159 sh_5 rfl (by decide) rfl rfl (zdg dz_E_law_1 1 rfl) ?_
      exact t_E_law_51 C hn hR hr _ _ _ _
    · refine vf_aload_n C (f := 0) (zdg dz_E_law_0 19 rfl) 0 rfl rfl ?_
      refine vf_getp C fl_E_26 sh_0 rfl (by decide) rfl (x := 6) rfl (zdg dz_E_law_0 20 rfl) ?_
      refine vf_get C (kd := 0) fl_E_156 sh_5 rfl (by decide) rfl rfl (zdg dz_E_law_0 21 rfl) ?_
      refine vf_goto C (off := 10) (tgt := 51) (zdg dz_E_law_0 22 rfl) (by decide) ?_
      exact t_E_law_51 C hn hR hr _ _ _ _
  · refine vf_iconst C (z := (-1)) (zdg dz_E_law_0 15 rfl) (jz rfl) ?_
    exact hr _ _ _ _ (fun h => absurd h (by decide)) (zdg dz_E_law_0 16 rfl)
def f_E_law (v1 v2 : Int) (w : Wd) : Option (Int × Wd) :=
  if v2 < 1 then
    some ((-1), w)
  else
    if v1 < 0 then
      some ((-1), w)
    else
      if (1 : Int) < v1 then
        some ((-1), w)
      else
        if v1 = 0 then
          f_E_law_25 v1 v2 v2 3 w
        else
          f_E_law_25 v1 v2 v2 10 w
theorem ct_E_law (v1 v2 : Int) (w : Wd) : Ct y_E_law prog_1_method_7_code 4 (some .int) 2 0 [(2, 1), (0, v1), (0, v2)] w (f_E_law v1 v2 w) := by
  refine ct_of (by decide +kernel) (Or.inl ⟨rfl, rfl⟩) (Nat.le_of_ble_eq_true rfl) ?_
  intro X Qf ad C hn hR hr
  unfold f_E_law
  show VF X Qf ad NF 0 0 w 0 [(0, (2, 1)), (1, (0, v1)), (2, (0, v2))] [] _
  refine vf_iload_n C (f := 2) (zdg dz_E_law_0 0 rfl) 2 rfl rfl ?_
  refine vf_iconst C (z := 1) (zdg dz_E_law_0 1 rfl) (jz rfl) ?_
  refine vf_icmp_lt C (off := 26) (tgt := 28) (zdg dz_E_law_0 2 rfl) (by decide) ?_ ?_
  · refine vf_iconst C (z := (-1)) (zdg dz_E_law_0 15 rfl) (jz rfl) ?_
    exact hr _ _ _ _ (fun h => absurd h (by decide)) (zdg dz_E_law_0 16 rfl)
  · refine vf_iload_n C (f := 1) (zdg dz_E_law_0 3 rfl) 1 rfl rfl ?_
    refine vf_if_lt C (off := 22) (tgt := 28) (zdg dz_E_law_0 4 rfl) (by decide) ?_ ?_
    · refine vf_iconst C (z := (-1)) (zdg dz_E_law_0 15 rfl) (jz rfl) ?_
      exact hr _ _ _ _ (fun h => absurd h (by decide)) (zdg dz_E_law_0 16 rfl)
    · refine vf_iload_n C (f := 1) (zdg dz_E_law_0 5 rfl) 1 rfl rfl ?_
      refine vf_iconst C (z := 1) (zdg dz_E_law_0 6 rfl) (jz rfl) ?_
      refine vf_icmp_gt C (off := 17) (tgt := 28) (zdg dz_E_law_0 7 rfl) (by decide) ?_ ?_
      · refine vf_iconst C (z := (-1)) (zdg dz_E_law_0 15 rfl) (jz rfl) ?_
        exact hr _ _ _ _ (fun h => absurd h (by decide)) (zdg dz_E_law_0 16 rfl)
      · refine vf_iload_n C (f := 2) (zdg dz_E_law_0 8 rfl) 2 rfl rfl ?_
        refine vf_iload_n C (f := 1) (zdg dz_E_law_0 9 rfl) 1 rfl rfl ?_
        refine vf_if_ne C (off := 7) (tgt := 23) (zdg dz_E_law_0 10 rfl) (by decide) ?_ ?_
        · refine vf_bipush C (z := 10) (zdg dz_E_law_0 13 rfl) (by decide +kernel) (jz rfl) ?_
          exact t_E_law_25 C hn hR hr _ _ _ _ _
        · refine vf_iconst C (z := 3) (zdg dz_E_law_0 11 rfl) (jz rfl) ?_
          refine vf_goto C (off := 5) (tgt := 25) (zdg dz_E_law_0 12 rfl) (by decide) ?_
          exact t_E_law_25 C hn hR hr _ _ _ _ _
def f_E_areTwo (v1 v2 : Int) (w : Wd) : Option (Int × Wd) :=
  if v1 = v2 then
    some (0, w)
  else
    jcall (f_F_isThere v1 w) fun r1 u2 =>
    if r1 = 0 then
      some (0, u2)
    else
      jcall (f_F_isThere v2 u2) fun r3 u4 =>
      if r3 = 0 then
        some (0, u4)
      else
        some (1, u4)
theorem ct_E_areTwo (v1 v2 : Int) (w : Wd) : Ct y_E_areTwo prog_1_method_48_code 3 (some .boolean) 2 4 [(2, 1), (0, v1), (0, v2)] w (f_E_areTwo v1 v2 w) := by
  refine ct_of (by decide +kernel) (Or.inr (Or.inr (Or.inl ⟨rfl, rfl⟩))) (Nat.le_of_ble_eq_true rfl) ?_
  intro X Qf ad C hn hR hr
  unfold f_E_areTwo
  show VF X Qf ad NF 0 0 w 0 [(0, (2, 1)), (1, (0, v1)), (2, (0, v2))] [] _
  refine vf_iload_n C (f := 1) (zdg dz_E_areTwo_0 0 rfl) 1 rfl rfl ?_
  refine vf_iload_n C (f := 2) (zdg dz_E_areTwo_0 1 rfl) 2 rfl rfl ?_
  refine vf_icmp_eq C (off := 29) (tgt := 31) (zdg dz_E_areTwo_0 2 rfl) (by decide) ?_ ?_
  · refine vf_iconst C (z := 0) (zdg dz_E_areTwo_0 15 rfl) (jz rfl) ?_
    exact hr _ _ _ _ (fun _ => Or.inl rfl) (zdg dz_E_areTwo_0 16 rfl)
  · refine vf_aload_n C (f := 0) (zdg dz_E_areTwo_0 3 rfl) 0 rfl rfl ?_
    refine vf_getp C fl_E_26 sh_0 rfl (by decide) rfl (x := 6) rfl (zdg dz_E_areTwo_0 4 rfl) ?_
    refine vf_iload_n C (f := 1) (zdg dz_E_areTwo_0 5 rfl) 1 rfl rfl ?_
    refine vf_callVz C cy_F_isThere ml_E_108 rfl (ct_F_isThere _ _) (S := []) sh_5 (by decide) rfl (jrm_of hR rfl) rfl rfl (Nat.le_of_ble_eq_true rfl) (zdg dz_E_areTwo_0 6 rfl) (fun r1 u2 => ?_)
    refine vf_if_eq C (off := 18) (tgt := 31) (zdg dz_E_areTwo_0 7 rfl) (by decide) ?_ ?_
    · refine vf_iconst C (z := 0) (zdg dz_E_areTwo_0 15 rfl) (jz rfl) ?_
      exact hr _ _ _ _ (fun _ => Or.inl rfl) (zdg dz_E_areTwo_0 16 rfl)
    · refine vf_aload_n C (f := 0) (zdg dz_E_areTwo_0 8 rfl) 0 rfl rfl ?_
      refine vf_getp C fl_E_26 sh_0 rfl (by decide) rfl (x := 6) rfl (zdg dz_E_areTwo_0 9 rfl) ?_
      refine vf_iload_n C (f := 2) (zdg dz_E_areTwo_0 10 rfl) 2 rfl rfl ?_
      refine vf_callVz C cy_F_isThere ml_E_108 rfl (ct_F_isThere _ _) (S := []) sh_5 (by decide) rfl (jrm_of hR rfl) rfl rfl (Nat.le_of_ble_eq_true rfl) (zdg dz_E_areTwo_0 11 rfl) (fun r3 u4 => ?_)
      refine vf_if_eq C (off := 7) (tgt := 31) (zdg dz_E_areTwo_0 12 rfl) (by decide) ?_ ?_
      · refine vf_iconst C (z := 0) (zdg dz_E_areTwo_0 15 rfl) (jz rfl) ?_
        exact hr _ _ _ _ (fun _ => Or.inl rfl) (zdg dz_E_areTwo_0 16 rfl)
      · refine vf_iconst C (z := 1) (zdg dz_E_areTwo_0 13 rfl) (jz rfl) ?_
        refine vf_goto C (off := 4) (tgt := 32) (zdg dz_E_areTwo_0 14 rfl) (by decide) ?_
        exact hr _ _ _ _ (fun _ => Or.inr rfl) (zdg dz_E_areTwo_0 16 rfl)
def f_E_meet (v1 v2 v3 : Int) (w : Wd) : Option (Int × Wd) :=
  jcall (f_E_areTwo v1 v2 w) fun r1 u2 =>
  if r1 = 0 then
    some (0, u2)
  else
    jgd ((0 : Int) ≤ v1 ∧ v1 < 10) <|
    jcall (f_E_with (u2 7 v1.toNat) v2 v3 u2) fun r3 u4 =>
    jgd ((0 : Int) ≤ v1 ∧ v1 < 10) <|
    jlw (st u4 7 v1.toNat r3) fun u5 =>
    jgd ((0 : Int) ≤ v2 ∧ v2 < 10) <|
    jcall (f_E_with (u5 7 v2.toNat) v1 v3 u5) fun r6 u7 =>
    jgd ((0 : Int) ≤ v2 ∧ v2 < 10) <|
    jlw (st u7 7 v2.toNat r6) fun u8 =>
    jcall (f_S_forget u8) fun r9 u10 =>
    some (1, u10)
theorem ct_E_meet (v1 v2 v3 : Int) (w : Wd) : Ct y_E_meet prog_1_method_8_code 4 (some .boolean) 3 4 [(2, 1), (0, v1), (0, v2), (0, v3)] w (f_E_meet v1 v2 v3 w) := by
  refine ct_of (by decide +kernel) (Or.inr (Or.inr (Or.inl ⟨rfl, rfl⟩))) (Nat.le_of_ble_eq_true rfl) ?_
  intro X Qf ad C hn hR hr
  unfold f_E_meet
  show VF X Qf ad NF 0 0 w 0 [(0, (2, 1)), (1, (0, v1)), (2, (0, v2)), (3, (0, v3))] [] _
  refine vf_aload_n C (f := 0) (zdg dz_E_meet_0 0 rfl) 0 rfl rfl ?_
  refine vf_iload_n C (f := 1) (zdg dz_E_meet_0 1 rfl) 1 rfl rfl ?_
  refine vf_iload_n C (f := 2) (zdg dz_E_meet_0 2 rfl) 2 rfl rfl ?_
  refine vf_callVz C cy_E_areTwo ml_E_165 rfl (ct_E_areTwo _ _ _) (S := []) sh_0 (by decide) rfl (jrm_of hR rfl) rfl rfl (Nat.le_of_ble_eq_true rfl) (zdg dz_E_meet_0 3 rfl) (fun r1 u2 => ?_)
  refine vf_if_ne C (off := 5) (tgt := 11) (zdg dz_E_meet_0 4 rfl) (by decide) ?_ ?_
  · refine vf_aload_n C (f := 0) (zdg dz_E_meet_0 7 rfl) 0 rfl rfl ?_
    refine vf_getp C fl_E_26 sh_0 rfl (by decide) rfl (x := 6) rfl (zdg dz_E_meet_0 8 rfl) ?_
    refine vf_getp C fl_E_122 sh_5 rfl (by decide) rfl (x := 8) rfl (zdg dz_E_meet_0 9 rfl) ?_
    refine vf_iload_n C (f := 1) (zdg dz_E_meet_0 10 rfl) 1 rfl rfl ?_
    refine vf_aload_n C (f := 0) (zdg dz_E_meet_0 11 rfl) 0 rfl rfl ?_
    refine vf_getp C fl_E_26 sh_0 rfl (by decide) rfl (x := 6) rfl (zdg dz_E_meet_0 12 rfl) ?_
    refine vf_getp C fl_E_122 sh_5 rfl (by decide) rfl (x := 8) rfl (zdg dz_E_meet_0 13 rfl) ?_
    refine vf_iload_n C (f := 1) (zdg dz_E_meet_0 14 rfl) 1 rfl rfl ?_
    refine vf_iald C sh_7 (by decide) rfl (mz := 10) rfl (zdg dz_E_meet_0 15 rfl) ?_
    refine vf_iload_n C (f := 2) (zdg dz_E_meet_0 16 rfl) 2 rfl rfl ?_
    refine vf_iload_n C (f := 3) (zdg dz_E_meet_0 17 rfl) 3 rfl rfl ?_
    refine vf_callSi C cy_E_with ml_E_168 (ct_E_with _ _ _ _) (S := [(0, v1), (2, 8)]) (jrm_of hR rfl) rfl rfl (Nat.le_of_ble_eq_true rfl) (zdg dz_E_meet_0 18 rfl) (fun r3 u4 => ?_)
    refine vf_iast C sh_7 (by decide) rfl (mz := 10) rfl (zdg dz_E_meet_0 19 rfl) ?_
    generalize st u4 7 v1.toNat r3 = u5
    refine vf_uw ?_
    refine vf_aload_n C (f := 0) (zdg dz_E_meet_0 20 rfl) 0 rfl rfl ?_
    refine vf_getp C fl_E_26 sh_0 rfl (by decide) rfl (x := 6) rfl (zdg dz_E_meet_0 21 rfl) ?_
    refine vf_getp C fl_E_122 sh_5 rfl (by decide) rfl (x := 8) rfl (zdg dz_E_meet_0 22 rfl) ?_
    refine vf_iload_n C (f := 2) (zdg dz_E_meet_0 23 rfl) 2 rfl rfl ?_
    refine vf_aload_n C (f := 0) (zdg dz_E_meet_1 0 rfl) 0 rfl rfl ?_
    refine vf_getp C fl_E_26 sh_0 rfl (by decide) rfl (x := 6) rfl (zdg dz_E_meet_1 1 rfl) ?_
    refine vf_getp C fl_E_122 sh_5 rfl (by decide) rfl (x := 8) rfl (zdg dz_E_meet_1 2 rfl) ?_
    refine vf_iload_n C (f := 2) (zdg dz_E_meet_1 3 rfl) 2 rfl rfl ?_
    refine vf_iald C sh_7 (by decide) rfl (mz := 10) rfl (zdg dz_E_meet_1 4 rfl) ?_
    refine vf_iload_n C (f := 1) (zdg dz_E_meet_1 5 rfl) 1 rfl rfl ?_
    refine vf_iload_n C (f := 3) (zdg dz_E_meet_1 6 rfl) 3 rfl rfl ?_
    refine vf_callSi C cy_E_with ml_E_168 (ct_E_with _ _ _ _) (S := [(0, v2), (2, 8)]) (jrm_of hR rfl) rfl rfl (Nat.le_of_ble_eq_true rfl) (zdg dz_E_meet_1 7 rfl) (fun r6 u7 => ?_)
    refine vf_iast C sh_7 (by decide) rfl (mz := 10) rfl (zdg dz_E_meet_1 8 rfl) ?_
    generalize st u7 7 v2.toNat r6 = u8
    refine vf_uw ?_
    refine vf_aload_n C (f := 0) (zdg dz_E_meet_1 9 rfl) 0 rfl rfl ?_
    refine vf_getp C fl_E_68 sh_0 rfl (by decide) rfl (x := 29) rfl (zdg dz_E_meet_1 10 rfl) ?_
    refine vf_callVv C cy_S_forget ml_E_162 rfl (ct_S_forget _) (S := []) sh_28 (by decide) rfl (jrm_of hR rfl) rfl rfl (Nat.le_of_ble_eq_true rfl) (zdg dz_E_meet_1 11 rfl) (fun r9 u10 => ?_)
    refine vf_iconst C (z := 1) (zdg dz_E_meet_1 12 rfl) (jz rfl) ?_
    exact hr _ _ _ _ (fun _ => Or.inr rfl) (zdg dz_E_meet_1 13 rfl)
  · refine vf_iconst C (z := 0) (zdg dz_E_meet_0 5 rfl) (jz rfl) ?_
    exact hr _ _ _ _ (fun _ => Or.inl rfl) (zdg dz_E_meet_0 6 rfl)
def f_E_hide (v1 v2 : Int) (w : Wd) : Option (Int × Wd) :=
  jcall (f_F_isThere v1 w) fun r1 u2 =>
  if r1 = 0 then
    some (0, u2)
  else
    jcall (f_E_with (u2 5 5) v1 v2 u2) fun r3 u4 =>
    jlw (st u4 5 5 r3) fun u5 =>
    jcall (f_S_forget u5) fun r6 u7 =>
    some (1, u7)
theorem ct_E_hide (v1 v2 : Int) (w : Wd) : Ct y_E_hide prog_1_method_9_code 3 (some .boolean) 2 4 [(2, 1), (0, v1), (0, v2)] w (f_E_hide v1 v2 w) := by
  refine ct_of (by decide +kernel) (Or.inr (Or.inr (Or.inl ⟨rfl, rfl⟩))) (Nat.le_of_ble_eq_true rfl) ?_
  intro X Qf ad C hn hR hr
  unfold f_E_hide
  show VF X Qf ad NF 0 0 w 0 [(0, (2, 1)), (1, (0, v1)), (2, (0, v2))] [] _
  refine vf_aload_n C (f := 0) (zdg dz_E_hide_0 0 rfl) 0 rfl rfl ?_
  refine vf_getp C fl_E_26 sh_0 rfl (by decide) rfl (x := 6) rfl (zdg dz_E_hide_0 1 rfl) ?_
  refine vf_iload_n C (f := 1) (zdg dz_E_hide_0 2 rfl) 1 rfl rfl ?_
  refine vf_callVz C cy_F_isThere ml_E_108 rfl (ct_F_isThere _ _) (S := []) sh_5 (by decide) rfl (jrm_of hR rfl) rfl rfl (Nat.le_of_ble_eq_true rfl) (zdg dz_E_hide_0 3 rfl) (fun r1 u2 => ?_)
  refine vf_if_ne C (off := 5) (tgt := 13) (zdg dz_E_hide_0 4 rfl) (by decide) ?_ ?_
  · refine vf_aload_n C (f := 0) (zdg dz_E_hide_0 7 rfl) 0 rfl rfl ?_
    refine vf_getp C fl_E_26 sh_0 rfl (by decide) rfl (x := 6) rfl (zdg dz_E_hide_0 8 rfl) ?_
    refine vf_aload_n C (f := 0) (zdg dz_E_hide_0 9 rfl) 0 rfl rfl ?_
    refine vf_getp C fl_E_26 sh_0 rfl (by decide) rfl (x := 6) rfl (zdg dz_E_hide_0 10 rfl) ?_
    refine vf_get C (kd := 0) fl_E_125 sh_5 rfl (by decide) rfl rfl (zdg dz_E_hide_0 11 rfl) ?_
    refine vf_iload_n C (f := 1) (zdg dz_E_hide_0 12 rfl) 1 rfl rfl ?_
    refine vf_iload_n C (f := 2) (zdg dz_E_hide_0 13 rfl) 2 rfl rfl ?_
    refine vf_callSi C cy_E_with ml_E_168 (ct_E_with _ _ _ _) (S := [(2, 6)]) (jrm_of hR rfl) rfl rfl (Nat.le_of_ble_eq_true rfl) (zdg dz_E_hide_0 14 rfl) (fun r3 u4 => ?_)
    refine vf_put C (kd := 0) fl_E_125 fk_2_5 sh_5 rfl (by decide) rfl rfl (by decide) (zdg dz_E_hide_0 15 rfl) ?_
    generalize st u4 5 5 r3 = u5
    refine vf_uw ?_
    refine vf_aload_n C (f := 0) (zdg dz_E_hide_0 16 rfl) 0 rfl rfl ?_
    refine vf_getp C fl_E_68 sh_0 rfl (by decide) rfl (x := 29) rfl (zdg dz_E_hide_0 17 rfl) ?_
    refine vf_callVv C cy_S_forget ml_E_162 rfl (ct_S_forget _) (S := []) sh_28 (by decide) rfl (jrm_of hR rfl) rfl rfl (Nat.le_of_ble_eq_true rfl) (zdg dz_E_hide_0 18 rfl) (fun r6 u7 => ?_)
    refine vf_iconst C (z := 1) (zdg dz_E_hide_0 19 rfl) (jz rfl) ?_
    exact hr _ _ _ _ (fun _ => Or.inr rfl) (zdg dz_E_hide_0 20 rfl)
  · refine vf_iconst C (z := 0) (zdg dz_E_hide_0 5 rfl) (jz rfl) ?_
    exact hr _ _ _ _ (fun _ => Or.inl rfl) (zdg dz_E_hide_0 6 rfl)
def f_E_baby (v1 : Int) (w : Wd) : Option (Int × Wd) :=
  if (10 : Int) ≤ (w 5 3) then
    some ((-1), w)
  else
    jcall (f_F_everybody w) fun r1 u2 =>
    if (iand v1 (ixor r1 (-1))) = 0 then
      jcall (f_F_add 0 v1 u2) fun r3 u4 =>
      jcall (f_E_peopleCame u4) fun r5 u6 =>
      some (w32 ((u6 5 3) - 1), u6)
    else
      some ((-1), u2)
theorem ct_E_baby (v1 : Int) (w : Wd) : Ct y_E_baby prog_1_method_10_code 2 (some .int) 4 0 [(2, 1), (0, v1)] w (f_E_baby v1 w) := by
  refine ct_of (by decide +kernel) (Or.inl ⟨rfl, rfl⟩) (Nat.le_of_ble_eq_true rfl) ?_
  intro X Qf ad C hn hR hr
  unfold f_E_baby
  show VF X Qf ad NF 0 0 w 0 [(0, (2, 1)), (1, (0, v1))] [] _
  refine vf_aload_n C (f := 0) (zdg dz_E_baby_0 0 rfl) 0 rfl rfl ?_
  refine vf_getp C fl_E_26 sh_0 rfl (by decide) rfl (x := 6) rfl (zdg dz_E_baby_0 1 rfl) ?_
  refine vf_get C (kd := 0) fl_E_87 sh_5 rfl (by decide) rfl rfl (zdg dz_E_baby_0 2 rfl) ?_
  refine vf_bipush C (z := 10) (zdg dz_E_baby_0 3 rfl) (by decide +kernel) (jz rfl) ?_
  refine vf_icmp_ge C (off := 17) (tgt := 26) (zdg dz_E_baby_0 4 rfl) (by decide) ?_ ?_
  · refine vf_iconst C (z := (-1)) (zdg dz_E_baby_0 13 rfl) (jz rfl) ?_
    exact hr _ _ _ _ (fun h => absurd h (by decide)) (zdg dz_E_baby_0 14 rfl)
  · refine vf_iload_n C (f := 1) (zdg dz_E_baby_0 5 rfl) 1 rfl rfl ?_
    refine vf_aload_n C (f := 0) (zdg dz_E_baby_0 6 rfl) 0 rfl rfl ?_
    refine vf_getp C fl_E_26 sh_0 rfl (by decide) rfl (x := 6) rfl (zdg dz_E_baby_0 7 rfl) ?_
    refine vf_callVi C cy_F_everybody ml_E_172 rfl (ct_F_everybody _) (S := [(0, v1)]) sh_5 (by decide) rfl (jrm_of hR rfl) rfl rfl (Nat.le_of_ble_eq_true rfl) (zdg dz_E_baby_0 8 rfl) (fun r1 u2 => ?_)
    refine vf_iconst C (z := (-1)) (zdg dz_E_baby_0 9 rfl) (jz rfl) ?_
    refine vf_ixor C (zdg dz_E_baby_0 10 rfl) ?_
    refine vf_iand C (zdg dz_E_baby_0 11 rfl) ?_
    refine vf_if_eq C (off := 5) (tgt := 28) (zdg dz_E_baby_0 12 rfl) (by decide) ?_ ?_
    · refine vf_aload_n C (f := 0) (zdg dz_E_baby_0 15 rfl) 0 rfl rfl ?_
      refine vf_getp C fl_E_26 sh_0 rfl (by decide) rfl (x := 6) rfl (zdg dz_E_baby_0 16 rfl) ?_
      refine vf_iconst C (z := 0) (zdg dz_E_baby_0 17 rfl) (jz rfl) ?_
      refine vf_iload_n C (f := 1) (zdg dz_E_baby_0 18 rfl) 1 rfl rfl ?_
      refine vf_callVv C cy_F_add ml_E_175 rfl (ct_F_add _ _ _) (S := []) sh_5 (by decide) rfl (jrm_of hR rfl) rfl rfl (Nat.le_of_ble_eq_true rfl) (zdg dz_E_baby_0 19 rfl) (fun r3 u4 => ?_)
      refine vf_aload_n C (f := 0) (zdg dz_E_baby_0 20 rfl) 0 rfl rfl ?_
      refine vf_callVv C cy_E_peopleCame ml_E_102 rfl (ct_E_peopleCame _) (S := []) sh_0 (by decide) rfl (jrm_of hR rfl) rfl rfl (Nat.le_of_ble_eq_true rfl) (zdg dz_E_baby_0 21 rfl) (fun r5 u6 => ?_)
      refine vf_aload_n C (f := 0) (zdg dz_E_baby_0 22 rfl) 0 rfl rfl ?_
      refine vf_getp C fl_E_26 sh_0 rfl (by decide) rfl (x := 6) rfl (zdg dz_E_baby_0 23 rfl) ?_
      refine vf_get C (kd := 0) fl_E_87 sh_5 rfl (by decide) rfl rfl (zdg dz_E_baby_1 0 rfl) ?_
      refine vf_iconst C (z := 1) (zdg dz_E_baby_1 1 rfl) (jz rfl) ?_
      refine vf_isub C (zdg dz_E_baby_1 2 rfl) ?_
      exact hr _ _ _ _ (fun h => absurd h (by decide)) (zdg dz_E_baby_1 3 rfl)
    · refine vf_iconst C (z := (-1)) (zdg dz_E_baby_0 13 rfl) (jz rfl) ?_
      exact hr _ _ _ _ (fun h => absurd h (by decide)) (zdg dz_E_baby_0 14 rfl)
def f_F_pricesOf_31 (k4 : Int → Int → Int → Wd → Option (Int × Wd)) (v1 v3 s0 s1 : Int) (w : Wd) : Option (Int × Wd) :=
  jlet (w32 (s0 + s1)) fun x3 =>
  jlet (w32 (v3 + 1)) fun x4 =>
  k4 v1 x3 x4 w
theorem t_F_pricesOf_31 {X : jX} {Qf : Int × Wd → State → Prop} {ad : Nat → Nat} (C : Cx X prog_3_method_9_code "EachBringsAnother$Folk") (hn : xn X = 4) (hR : xR X = rmD 2) (hr : Rt X Qf ad prog_3_method_9_code 0) {k4 : Int → Int → Int → Wd → Option (Int × Wd)} (hk4 : ∀ (v1 v2 v3 : Int) (w : Wd), VF X Qf ad NF 0 0 w 4 [(0, (2, 6)), (1, (0, v1)), (2, (0, v2)), (3, (0, v3))] [] (k4 v1 v2 v3 w)) (v1 v3 s0 s1 : Int) (w : Wd) : VF X Qf ad NF 0 0 w 31 [(0, (2, 6)), (1, (0, v1)), (3, (0, v3))] [(0, s1), (0, s0)] (f_F_pricesOf_31 k4 v1 v3 s0 s1 w) := by
  unfold f_F_pricesOf_31
  refine vf_iadd C (zdg dz_F_pricesOf_0 19 rfl) ?_
  generalize w32 (s0 + s1) = x3
  refine vf_ul ?_
  refine vf_istore_n C (f := 2) (L' := [(0, (2, 6)), (1, (0, v1)), (3, (0, v3))]) (zdg dz_F_pricesOf_0 20 rfl) [0, 1, 2] (jrI rfl rfl) hn (by decide) rfl ?_
  refine vf_iinc C (z := 1) (L' := [(2, (0, x3)), (0, (2, 6)), (1, (0, v1))]) (zdg dz_F_pricesOf_0 21 rfl) 3 rfl [0, 1, 2] (jrI rfl rfl) hn (by decide) ?_
  generalize w32 (v3 + 1) = x4
  refine vf_ul ?_
  refine vf_goto C (off := (-32)) (tgt := 4) (zdg dz_F_pricesOf_0 22 rfl) (by decide) ?_
  exact vf_perm [2, 3, 1, 0] rfl (hk4 _ _ _ _)
def f_F_pricesOf_4 : Nat → Int → Int → Int → Wd → Option (Int × Wd)
  | 0, _, _, _, _ => none
  | n + 1, v1, v2, v3, w =>
    if (w 5 3) ≤ v3 then
      some (v2, w)
    else
      jcall (f_E_has v1 v3 w) fun r1 u2 =>
      if r1 = 0 then
        f_F_pricesOf_31 (f_F_pricesOf_4 n) v1 v3 v2 0 u2
      else
        jgd ((0 : Int) ≤ v3 ∧ v3 < 10) <|
        f_F_pricesOf_31 (f_F_pricesOf_4 n) v1 v3 v2 (u2 6 v3.toNat) u2
theorem t_F_pricesOf_4 {X : jX} {Qf : Int × Wd → State → Prop} {ad : Nat → Nat} (C : Cx X prog_3_method_9_code "EachBringsAnother$Folk") (hn : xn X = 4) (hR : xR X = rmD 2) (hr : Rt X Qf ad prog_3_method_9_code 0) : ∀ (n : Nat) (v1 v2 v3 : Int) (w : Wd), VF X Qf ad NF 0 0 w 4 [(0, (2, 6)), (1, (0, v1)), (2, (0, v2)), (3, (0, v3))] [] (f_F_pricesOf_4 n v1 v2 v3 w) := by
  intro n
  induction n with
  | zero => intros; exact vf_no
  | succ n ih =>
    intro v1 v2 v3 w
    rw [f_F_pricesOf_4]
    refine vf_iload_n C (f := 3) (zdg dz_F_pricesOf_0 4 rfl) 3 rfl rfl ?_
    refine vf_aload_n C (f := 0) (zdg dz_F_pricesOf_0 5 rfl) 0 rfl rfl ?_
    refine vf_get C (kd := 0) fl_F_28 sh_5 rfl (by decide) rfl rfl (zdg dz_F_pricesOf_0 6 rfl) ?_
    refine vf_icmp_ge C (off := 30) (tgt := 39) (zdg dz_F_pricesOf_0 7 rfl) (by decide) ?_ ?_
    · refine vf_iload_n C (f := 2) (zdg dz_F_pricesOf_0 23 rfl) 2 rfl rfl ?_
      exact hr _ _ _ _ (fun h => absurd h (by decide)) (zdg dz_F_pricesOf_1 0 rfl)
    · refine vf_iload_n C (f := 2) (zdg dz_F_pricesOf_0 8 rfl) 2 rfl rfl ?_
      refine vf_iload_n C (f := 1) (zdg dz_F_pricesOf_0 9 rfl) 1 rfl rfl ?_
      refine vf_iload_n C (f := 3) (zdg dz_F_pricesOf_0 10 rfl) 3 rfl rfl ?_
      refine vf_callSz C cy_E_has ml_F_62 (ct_E_has _ _ _) (S := [(0, v2)]) (jrm_of hR rfl) rfl rfl (Nat.le_of_ble_eq_true rfl) (zdg dz_F_pricesOf_0 11 rfl) (fun r1 u2 => ?_)
      refine vf_if_eq C (off := 12) (tgt := 30) (zdg dz_F_pricesOf_0 12 rfl) (by decide) ?_ ?_
      · refine vf_iconst C (z := 0) (zdg dz_F_pricesOf_0 18 rfl) (jz rfl) ?_
        exact vf_perm [0, 1, 3] rfl (t_F_pricesOf_31 C hn hR hr ih _ _ _ _ _)
      · refine vf_aload_n C (f := 0) (zdg dz_F_pricesOf_0 13 rfl) 0 rfl rfl ?_
        refine vf_getp C fl_F_9 sh_5 rfl (by decide) rfl (x := 7) rfl (zdg dz_F_pricesOf_0 14 rfl) ?_
        refine vf_iload_n C (f := 3) (zdg dz_F_pricesOf_0 15 rfl) 3 rfl rfl ?_
        refine vf_iald C sh_6 (by decide) rfl (mz := 10) rfl (zdg dz_F_pricesOf_0 16 rfl) ?_
        refine vf_goto C (off := 4) (tgt := 31) (zdg dz_F_pricesOf_0 17 rfl) (by decide) ?_
        exact vf_perm [0, 1, 3] rfl (t_F_pricesOf_31 C hn hR hr ih _ _ _ _ _)
def f_F_pricesOf (v1 : Int) (w : Wd) : Option (Int × Wd) :=
  f_F_pricesOf_4 FU v1 0 0 w
theorem ct_F_pricesOf (v1 : Int) (w : Wd) : Ct y_F_pricesOf prog_3_method_9_code 4 (some .int) 2 0 [(2, 6), (0, v1)] w (f_F_pricesOf v1 w) := by
  refine ct_of (by decide +kernel) (Or.inl ⟨rfl, rfl⟩) (Nat.le_of_ble_eq_true rfl) ?_
  intro X Qf ad C hn hR hr
  unfold f_F_pricesOf
  show VF X Qf ad NF 0 0 w 0 [(0, (2, 6)), (1, (0, v1))] [] _
  refine vf_iconst C (z := 0) (zdg dz_F_pricesOf_0 0 rfl) (jz rfl) ?_
  refine vf_istore_n C (f := 2) (L' := [(0, (2, 6)), (1, (0, v1))]) (zdg dz_F_pricesOf_0 1 rfl) [0, 1] (jrI rfl rfl) hn (by decide) rfl ?_
  refine vf_iconst C (z := 0) (zdg dz_F_pricesOf_0 2 rfl) (jz rfl) ?_
  refine vf_istore_n C (f := 3) (L' := [(2, (0, 0)), (0, (2, 6)), (1, (0, v1))]) (zdg dz_F_pricesOf_0 3 rfl) [0, 1, 2] (jrI rfl rfl) hn (by decide) rfl ?_
  exact vf_perm [2, 3, 1, 0] rfl (t_F_pricesOf_4 C hn hR hr FU _ _ _ _)
def f_E_entry_20 (s0 : Int) (w : Wd) : Option (Int × Wd) :=
  some (imax 0 (imin 9 s0), w)
theorem t_E_entry_20 {X : jX} {Qf : Int × Wd → State → Prop} {ad : Nat → Nat} (C : Cx X prog_1_method_51_code "EachBringsAnother") (hn : xn X = 3) (hR : xR X = rmD 1) (hr : Rt X Qf ad prog_1_method_51_code 0) (s0 : Int) (w : Wd) : VF X Qf ad NF 0 0 w 20 [] [(0, s0)] (f_E_entry_20 s0 w) := by
  unfold f_E_entry_20
  refine vf_istore_n C (f := 2) (L' := []) (zdg dz_E_entry_0 12 rfl) [] (jrI rfl rfl) hn (by decide) rfl ?_
  refine vf_iconst C (z := 0) (zdg dz_E_entry_0 13 rfl) (jz rfl) ?_
  refine vf_bipush C (z := 9) (zdg dz_E_entry_0 14 rfl) (by decide +kernel) (jz rfl) ?_
  refine vf_iload_n C (f := 2) (zdg dz_E_entry_0 15 rfl) 0 rfl rfl ?_
  refine vf_mmin C ml_E_314 (jrm_n hR (by decide)) ⟨Nat.zero_le _, Nat.zero_le _⟩ (Nat.le_of_ble_eq_true rfl) (zdg dz_E_entry_0 16 rfl) ?_
  refine vf_mmax C ml_E_269 (jrm_n hR (by decide)) ⟨Nat.zero_le _, Nat.zero_le _⟩ (Nat.le_of_ble_eq_true rfl) (zdg dz_E_entry_0 17 rfl) ?_
  exact hr _ _ _ _ (fun h => absurd h (by decide)) (zdg dz_E_entry_0 18 rfl)
def f_E_entry (v0 v1 : Int) (w : Wd) : Option (Int × Wd) :=
  if v0 = 0 then
    f_E_entry_20 (i2b v1) w
  else
    if v0 = 1 then
      f_E_entry_20 (i2s v1) w
    else
      f_E_entry_20 v1 w
theorem ct_E_entry (v0 v1 : Int) (w : Wd) : Ct y_E_entry prog_1_method_51_code 3 (some .int) 1 0 [(0, v0), (0, v1)] w (f_E_entry v0 v1 w) := by
  refine ct_of (by decide +kernel) (Or.inl ⟨rfl, rfl⟩) (Nat.le_of_ble_eq_true rfl) ?_
  intro X Qf ad C hn hR hr
  unfold f_E_entry
  show VF X Qf ad NF 0 0 w 0 [(0, (0, v0)), (1, (0, v1))] [] _
  refine vf_iload_n C (f := 0) (zdg dz_E_entry_0 0 rfl) 0 rfl rfl ?_
  refine vf_if_ne C (off := 8) (tgt := 9) (zdg dz_E_entry_0 1 rfl) (by decide) ?_ ?_
  · refine vf_iload_n C (f := 0) (zdg dz_E_entry_0 5 rfl) 0 rfl rfl ?_
    refine vf_iconst C (z := 1) (zdg dz_E_entry_0 6 rfl) (jz rfl) ?_
    refine vf_icmp_ne C (off := 8) (tgt := 19) (zdg dz_E_entry_0 7 rfl) (by decide) ?_ ?_
    · refine vf_iload_n C (f := 1) (zdg dz_E_entry_0 11 rfl) 1 rfl rfl ?_
      exact vf_perm [] rfl (t_E_entry_20 C hn hR hr _ _)
    · refine vf_iload_n C (f := 1) (zdg dz_E_entry_0 8 rfl) 1 rfl rfl ?_
      refine vf_i2s C (zdg dz_E_entry_0 9 rfl) ?_
      refine vf_goto C (off := 4) (tgt := 20) (zdg dz_E_entry_0 10 rfl) (by decide) ?_
      exact vf_perm [] rfl (t_E_entry_20 C hn hR hr _ _)
  · refine vf_iload_n C (f := 1) (zdg dz_E_entry_0 2 rfl) 1 rfl rfl ?_
    refine vf_i2b C (zdg dz_E_entry_0 3 rfl) ?_
    refine vf_goto C (off := 14) (tgt := 20) (zdg dz_E_entry_0 4 rfl) (by decide) ?_
    exact vf_perm [] rfl (t_E_entry_20 C hn hR hr _ _)
def f_JA_fill_6_5 : Nat → Int → Int → Int → Wd → Option (Int × Wd)
  | 0, _, _, _, _ => none
  | n + 1, v1, v2, v3, w =>
    if v3 ≤ v2 then
      some (0, w)
    else
      jgd ((0 : Int) ≤ v2 ∧ v2 < 10) <|
      jlw (st w 6 v2.toNat v1) fun u1 =>
      jlet (w32 (v2 + 1)) fun x2 =>
      f_JA_fill_6_5 n v1 x2 v3 u1
theorem t_JA_fill_6_5 {X : jX} {Qf : Int × Wd → State → Prop} {ad : Nat → Nat} (C : Cx X prog_23_method_103_code "java/util/Arrays") (hn : xn X = 4) (hR : xR X = rmD 1) (hr : Rt X Qf ad prog_23_method_103_code 9) : ∀ (n : Nat) (v1 v2 v3 : Int) (w : Wd), VF X Qf ad NF 0 0 w 5 [(0, (2, 7)), (1, (0, v1)), (2, (0, v2)), (3, (0, v3))] [] (f_JA_fill_6_5 n v1 v2 v3 w) := by
  intro n
  induction n with
  | zero => intros; exact vf_no
  | succ n ih =>
    intro v1 v2 v3 w
    rw [f_JA_fill_6_5]
    refine vf_iload_n C (f := 2) (zdg dz_JA_fill_0 5 rfl) 2 rfl rfl ?_
    refine vf_iload_n C (f := 3) (zdg dz_JA_fill_0 6 rfl) 3 rfl rfl ?_
    refine vf_icmp_ge C (off := 13) (tgt := 20) (zdg dz_JA_fill_0 7 rfl) (by decide) ?_ ?_
    · exact hr _ _ _ _ (fun h => absurd h (by decide)) (zdg dz_JA_fill_0 14 rfl)
    · refine vf_aload_n C (f := 0) (zdg dz_JA_fill_0 8 rfl) 0 rfl rfl ?_
      refine vf_iload_n C (f := 2) (zdg dz_JA_fill_0 9 rfl) 2 rfl rfl ?_
      refine vf_iload_n C (f := 1) (zdg dz_JA_fill_0 10 rfl) 1 rfl rfl ?_
      refine vf_iast C sh_6 (by decide) rfl (mz := 10) rfl (zdg dz_JA_fill_0 11 rfl) ?_
      generalize st w 6 v2.toNat v1 = u1
      refine vf_uw ?_
      refine vf_iinc C (z := 1) (L' := [(0, (2, 7)), (1, (0, v1)), (3, (0, v3))]) (zdg dz_JA_fill_0 12 rfl) 2 rfl [0, 1, 3] (jrI rfl rfl) hn (by decide) ?_
      generalize w32 (v2 + 1) = x2
      refine vf_ul ?_
      refine vf_goto C (off := (-12)) (tgt := 5) (zdg dz_JA_fill_0 13 rfl) (by decide) ?_
      exact vf_perm [1, 2, 0, 3] rfl (ih _ _ _ _)
def f_JA_fill_6 (v1 : Int) (w : Wd) : Option (Int × Wd) :=
  f_JA_fill_6_5 FU v1 0 10 w
theorem ct_JA_fill_6 (v1 : Int) (w : Wd) : Ct y_JA_fill prog_23_method_103_code 4 none 1 9 [(2, 7), (0, v1)] w (f_JA_fill_6 v1 w) := by
  refine ct_of (by decide +kernel) (Or.inr (Or.inr (Or.inr ⟨rfl, rfl⟩))) (Nat.le_of_ble_eq_true rfl) ?_
  intro X Qf ad C hn hR hr
  unfold f_JA_fill_6
  show VF X Qf ad NF 0 0 w 0 [(0, (2, 7)), (1, (0, v1))] [] _
  refine vf_iconst C (z := 0) (zdg dz_JA_fill_0 0 rfl) (jz rfl) ?_
  refine vf_istore_n C (f := 2) (L' := [(0, (2, 7)), (1, (0, v1))]) (zdg dz_JA_fill_0 1 rfl) [0, 1] (jrI rfl rfl) hn (by decide) rfl ?_
  refine vf_aload_n C (f := 0) (zdg dz_JA_fill_0 2 rfl) 1 rfl rfl ?_
  refine vf_alen C sh_6 (by decide) (by decide) rfl (x := 10) rfl (jz rfl) (zdg dz_JA_fill_0 3 rfl) ?_
  refine vf_istore_n C (f := 3) (L' := [(2, (0, 0)), (0, (2, 7)), (1, (0, v1))]) (zdg dz_JA_fill_0 4 rfl) [0, 1, 2] (jrI rfl rfl) hn (by decide) rfl ?_
  exact vf_perm [2, 3, 1, 0] rfl (t_JA_fill_6_5 C hn hR hr FU _ _ _ _)
def f_E_sheet_88 (k46 : Int → Int → Int → Int → Int → Wd → Option (Int × Wd)) (v1 v2 v3 v4 v5 s1 s2 : Int) (w : Wd) : Option (Int × Wd) :=
  jgd ((0 : Int) ≤ s1 ∧ s1 < 10) <|
  jlw (st w 6 s1.toNat s2) fun u5 =>
  jlet (w32 (v5 + 1)) fun x6 =>
  k46 v1 v2 v3 v4 x6 u5
theorem t_E_sheet_88 {X : jX} {Qf : Int × Wd → State → Prop} {ad : Nat → Nat} (C : Cx X prog_1_method_11_code "EachBringsAnother") (hn : xn X = 6) (hR : xR X = rmD 3) (hr : Rt X Qf ad prog_1_method_11_code 0) {k46 : Int → Int → Int → Int → Int → Wd → Option (Int × Wd)} (hk46 : ∀ (v1 v2 v3 v4 v5 : Int) (w : Wd), VF X Qf ad NF 0 0 w 46 [(0, (2, 1)), (1, (0, v1)), (2, (0, v2)), (3, (0, v3)), (4, (0, v4)), (5, (0, v5))] [] (k46 v1 v2 v3 v4 v5 w)) (v1 v2 v3 v4 v5 s1 s2 : Int) (w : Wd) : VF X Qf ad NF 0 0 w 88 [(0, (2, 1)), (1, (0, v1)), (2, (0, v2)), (3, (0, v3)), (4, (0, v4)), (5, (0, v5))] [(0, s2), (0, s1), (2, 7)] (f_E_sheet_88 k46 v1 v2 v3 v4 v5 s1 s2 w) := by
  unfold f_E_sheet_88
  refine vf_iast C sh_6 (by decide) rfl (mz := 10) rfl (zdg dz_E_sheet_1 23 rfl) ?_
  generalize st w 6 s1.toNat s2 = u5
  refine vf_uw ?_
  refine vf_iinc C (z := 1) (L' := [(0, (2, 1)), (1, (0, v1)), (2, (0, v2)), (3, (0, v3)), (4, (0, v4))]) (zdg dz_E_sheet_2 0 rfl) 5 rfl [0, 1, 2, 3, 4] (jrI rfl rfl) hn (by decide) ?_
  generalize w32 (v5 + 1) = x6
  refine vf_ul ?_
  refine vf_goto C (off := (-46)) (tgt := 46) (zdg dz_E_sheet_2 1 rfl) (by decide) ?_
  exact vf_perm [1, 2, 3, 4, 5, 0] rfl (hk46 _ _ _ _ _ _)
def f_E_sheet_46 : Nat → Int → Int → Int → Int → Int → Wd → Option (Int × Wd)
  | 0, _, _, _, _, _, _ => none
  | n + 1, v1, v2, v3, v4, v5, w =>
    if (w 5 3) ≤ v5 then
      jcall (f_F_everybody w) fun r1 u2 =>
      jcall (f_F_pricesOf r1 u2) fun r3 u4 =>
      some (r3, u4)
    else
      if v2 ≤ v5 then
        f_E_sheet_88 (f_E_sheet_46 n) v1 v2 v3 v4 v5 v5 0 w
      else
        jcall (f_E_entry v1 (w32 (v3 + (w32 (v5 * v4)))) w) fun r7 u8 =>
        f_E_sheet_88 (f_E_sheet_46 n) v1 v2 v3 v4 v5 v5 r7 u8
theorem t_E_sheet_46 {X : jX} {Qf : Int × Wd → State → Prop} {ad : Nat → Nat} (C : Cx X prog_1_method_11_code "EachBringsAnother") (hn : xn X = 6) (hR : xR X = rmD 3) (hr : Rt X Qf ad prog_1_method_11_code 0) : ∀ (n : Nat) (v1 v2 v3 v4 v5 : Int) (w : Wd), VF X Qf ad NF 0 0 w 46 [(0, (2, 1)), (1, (0, v1)), (2, (0, v2)), (3, (0, v3)), (4, (0, v4)), (5, (0, v5))] [] (f_E_sheet_46 n v1 v2 v3 v4 v5 w) := by
  intro n
  induction n with
  | zero => intros; exact vf_no
  | succ n ih =>
    intro v1 v2 v3 v4 v5 w
    rw [f_E_sheet_46]
    refine vf_iload C (zdg dz_E_sheet_1 2 rfl) 5 rfl ?_
    refine vf_aload_n C (f := 0) (zdg dz_E_sheet_1 3 rfl) 0 rfl rfl ?_
    refine vf_getp C fl_E_26 sh_0 rfl (by decide) rfl (x := 6) rfl (zdg dz_E_sheet_1 4 rfl) ?_
    refine vf_get C (kd := 0) fl_E_87 sh_5 rfl (by decide) rfl rfl (zdg dz_E_sheet_1 5 rfl) ?_
    refine vf_icmp_ge C (off := 40) (tgt := 95) (zdg dz_E_sheet_1 6 rfl) (by decide) ?_ ?_
    · refine vf_aload_n C (f := 0) (zdg dz_E_sheet_2 2 rfl) 0 rfl rfl ?_
      refine vf_getp C fl_E_26 sh_0 rfl (by decide) rfl (x := 6) rfl (zdg dz_E_sheet_2 3 rfl) ?_
      refine vf_aload_n C (f := 0) (zdg dz_E_sheet_2 4 rfl) 0 rfl rfl ?_
      refine vf_getp C fl_E_26 sh_0 rfl (by decide) rfl (x := 6) rfl (zdg dz_E_sheet_2 5 rfl) ?_
      refine vf_callVi C cy_F_everybody ml_E_172 rfl (ct_F_everybody _) (S := [(2, 6)]) sh_5 (by decide) rfl (jrm_of hR rfl) rfl rfl (Nat.le_of_ble_eq_true rfl) (zdg dz_E_sheet_2 6 rfl) (fun r1 u2 => ?_)
      refine vf_callVi C cy_F_pricesOf ml_E_188 rfl (ct_F_pricesOf _ _) (S := []) sh_5 (by decide) rfl (jrm_of hR rfl) rfl rfl (Nat.le_of_ble_eq_true rfl) (zdg dz_E_sheet_2 7 rfl) (fun r3 u4 => ?_)
      exact hr _ _ _ _ (fun h => absurd h (by decide)) (zdg dz_E_sheet_2 8 rfl)
    · refine vf_aload_n C (f := 0) (zdg dz_E_sheet_1 7 rfl) 0 rfl rfl ?_
      refine vf_getp C fl_E_26 sh_0 rfl (by decide) rfl (x := 6) rfl (zdg dz_E_sheet_1 8 rfl) ?_
      refine vf_getp C fl_E_118 sh_5 rfl (by decide) rfl (x := 7) rfl (zdg dz_E_sheet_1 9 rfl) ?_
      refine vf_iload C (zdg dz_E_sheet_1 10 rfl) 5 rfl ?_
      refine vf_iload C (zdg dz_E_sheet_1 11 rfl) 5 rfl ?_
      refine vf_iload_n C (f := 2) (zdg dz_E_sheet_1 12 rfl) 2 rfl rfl ?_
      refine vf_icmp_ge C (off := 17) (tgt := 87) (zdg dz_E_sheet_1 13 rfl) (by decide) ?_ ?_
      · refine vf_iconst C (z := 0) (zdg dz_E_sheet_1 22 rfl) (jz rfl) ?_
        exact t_E_sheet_88 C hn hR hr ih _ _ _ _ _ _ _ _
      · refine vf_iload_n C (f := 1) (zdg dz_E_sheet_1 14 rfl) 1 rfl rfl ?_
        refine vf_iload_n C (f := 3) (zdg dz_E_sheet_1 15 rfl) 3 rfl rfl ?_
        refine vf_iload C (zdg dz_E_sheet_1 16 rfl) 5 rfl ?_
        refine vf_iload C (zdg dz_E_sheet_1 17 rfl) 4 rfl ?_
        refine vf_imul C (zdg dz_E_sheet_1 18 rfl) ?_
        refine vf_iadd C (zdg dz_E_sheet_1 19 rfl) ?_
        refine vf_callSi C cy_E_entry ml_E_185 (ct_E_entry _ _ _) (S := [(0, v5), (2, 7)]) (jrm_of hR rfl) rfl rfl (Nat.le_of_ble_eq_true rfl) (zdg dz_E_sheet_1 20 rfl) (fun r7 u8 => ?_)
        refine vf_goto C (off := 4) (tgt := 88) (zdg dz_E_sheet_1 21 rfl) (by decide) ?_
        exact t_E_sheet_88 C hn hR hr ih _ _ _ _ _ _ _ _
def f_E_sheet (v1 v2 v3 v4 : Int) (w : Wd) : Option (Int × Wd) :=
  if v1 < 0 then
    some ((-1), w)
  else
    if (3 : Int) < v1 then
      some ((-1), w)
    else
      if v2 ≤ 10 then
        if v1 = 3 then
          jcall (f_JA_fill_6 0 w) fun r9 u10 =>
          some ((-3), u10)
        else
          if (0 : Int) ≤ v2 then
            f_E_sheet_46 FU v1 v2 v3 v4 0 w
          else
            some ((-2), w)
      else
        some ((-1), w)
theorem ct_E_sheet (v1 v2 v3 v4 : Int) (w : Wd) : Ct y_E_sheet prog_1_method_11_code 6 (some .int) 3 0 [(2, 1), (0, v1), (0, v2), (0, v3), (0, v4)] w (f_E_sheet v1 v2 v3 v4 w) := by
  refine ct_of (by decide +kernel) (Or.inl ⟨rfl, rfl⟩) (Nat.le_of_ble_eq_true rfl) ?_
  intro X Qf ad C hn hR hr
  unfold f_E_sheet
  show VF X Qf ad NF 0 0 w 0 [(0, (2, 1)), (1, (0, v1)), (2, (0, v2)), (3, (0, v3)), (4, (0, v4))] [] _
  refine vf_iload_n C (f := 1) (zdg dz_E_sheet_0 0 rfl) 1 rfl rfl ?_
  refine vf_if_lt C (off := 14) (tgt := 15) (zdg dz_E_sheet_0 1 rfl) (by decide) ?_ ?_
  · refine vf_iconst C (z := (-1)) (zdg dz_E_sheet_0 8 rfl) (jz rfl) ?_
    exact hr _ _ _ _ (fun h => absurd h (by decide)) (zdg dz_E_sheet_0 9 rfl)
  · refine vf_iload_n C (f := 1) (zdg dz_E_sheet_0 2 rfl) 1 rfl rfl ?_
    refine vf_iconst C (z := 3) (zdg dz_E_sheet_0 3 rfl) (jz rfl) ?_
    refine vf_icmp_gt C (off := 9) (tgt := 15) (zdg dz_E_sheet_0 4 rfl) (by decide) ?_ ?_
    · refine vf_iconst C (z := (-1)) (zdg dz_E_sheet_0 8 rfl) (jz rfl) ?_
      exact hr _ _ _ _ (fun h => absurd h (by decide)) (zdg dz_E_sheet_0 9 rfl)
    · refine vf_iload_n C (f := 2) (zdg dz_E_sheet_0 5 rfl) 2 rfl rfl ?_
      refine vf_bipush C (z := 10) (zdg dz_E_sheet_0 6 rfl) (by decide +kernel) (jz rfl) ?_
      refine vf_icmp_le C (off := 5) (tgt := 17) (zdg dz_E_sheet_0 7 rfl) (by decide) ?_ ?_
      · refine vf_iload_n C (f := 1) (zdg dz_E_sheet_0 10 rfl) 1 rfl rfl ?_
        refine vf_iconst C (z := 3) (zdg dz_E_sheet_0 11 rfl) (jz rfl) ?_
        refine vf_icmp_ne C (off := 17) (tgt := 36) (zdg dz_E_sheet_0 12 rfl) (by decide) ?_ ?_
        · refine vf_iload_n C (f := 2) (zdg dz_E_sheet_0 20 rfl) 2 rfl rfl ?_
          refine vf_if_ge C (off := 6) (tgt := 43) (zdg dz_E_sheet_0 21 rfl) (by decide) ?_ ?_
          · refine vf_iconst C (z := 0) (zdg dz_E_sheet_1 0 rfl) (jz rfl) ?_
            refine vf_istore C (i := 5) (L' := [(0, (2, 1)), (1, (0, v1)), (2, (0, v2)), (3, (0, v3)), (4, (0, v4))]) (zdg dz_E_sheet_1 1 rfl) [0, 1, 2, 3, 4] (jrI rfl rfl) hn (by decide) ?_
            exact vf_perm [1, 2, 3, 4, 5, 0] rfl (t_E_sheet_46 C hn hR hr FU _ _ _ _ _ _)
          · refine vf_bipush C (z := (-2)) (zdg dz_E_sheet_0 22 rfl) (by decide +kernel) (jz rfl) ?_
            exact hr _ _ _ _ (fun h => absurd h (by decide)) (zdg dz_E_sheet_0 23 rfl)
        · refine vf_aload_n C (f := 0) (zdg dz_E_sheet_0 13 rfl) 0 rfl rfl ?_
          refine vf_getp C fl_E_26 sh_0 rfl (by decide) rfl (x := 6) rfl (zdg dz_E_sheet_0 14 rfl) ?_
          refine vf_getp C fl_E_118 sh_5 rfl (by decide) rfl (x := 7) rfl (zdg dz_E_sheet_0 15 rfl) ?_
          refine vf_iconst C (z := 0) (zdg dz_E_sheet_0 16 rfl) (jz rfl) ?_
          refine vf_callSv C cy_JA_fill ml_E_179 (ct_JA_fill_6 _ _) (S := []) (jrm_of hR rfl) rfl rfl (Nat.le_of_ble_eq_true rfl) (zdg dz_E_sheet_0 17 rfl) (fun r9 u10 => ?_)
          refine vf_bipush C (z := (-3)) (zdg dz_E_sheet_0 18 rfl) (by decide +kernel) (jz rfl) ?_
          exact hr _ _ _ _ (fun h => absurd h (by decide)) (zdg dz_E_sheet_0 19 rfl)
      · refine vf_iconst C (z := (-1)) (zdg dz_E_sheet_0 8 rfl) (jz rfl) ?_
        exact hr _ _ _ _ (fun h => absurd h (by decide)) (zdg dz_E_sheet_0 9 rfl)
def f_P_clear (w : Wd) : Option (Int × Wd) :=
  jlw (st w 12 2 0) fun u1 =>
  jlw (st u1 12 3 0) fun u2 =>
  some (0, u2)
theorem ct_P_clear (w : Wd) : Ct y_P_clear prog_8_method_2_code 1 none 1 9 [(2, 13)] w (f_P_clear w) := by
  refine ct_of (by decide +kernel) (Or.inr (Or.inr (Or.inr ⟨rfl, rfl⟩))) (Nat.le_of_ble_eq_true rfl) ?_
  intro X Qf ad C hn hR hr
  unfold f_P_clear
  show VF X Qf ad NF 0 0 w 0 [(0, (2, 13))] [] _
  refine vf_aload_n C (f := 0) (zdg dz_P_clear_0 0 rfl) 0 rfl rfl ?_
  refine vf_iconst C (z := 0) (zdg dz_P_clear_0 1 rfl) (jz rfl) ?_
  refine vf_put C (kd := 0) fl_P_18 fk_4_2 sh_12 rfl (by decide) rfl rfl (by decide) (zdg dz_P_clear_0 2 rfl) ?_
  generalize st w 12 2 0 = u1
  refine vf_uw ?_
  refine vf_aload_n C (f := 0) (zdg dz_P_clear_0 3 rfl) 0 rfl rfl ?_
  refine vf_iconst C (z := 0) (zdg dz_P_clear_0 4 rfl) (jz rfl) ?_
  refine vf_put C (kd := 0) fl_P_22 fk_4_3 sh_12 rfl (by decide) rfl rfl (by decide) (zdg dz_P_clear_0 5 rfl) ?_
  generalize st u1 12 3 0 = u2
  refine vf_uw ?_
  exact hr _ _ _ _ (fun h => absurd h (by decide)) (zdg dz_P_clear_0 6 rfl)
def f_P_add_39 (v1 v2 : Int) (w : Wd) : Option (Int × Wd) :=
  jlw (st w 12 3 (ior (w 12 3) (ior (ishl 1 v1) (ishl 1 v2)))) fun u1 =>
  some (0, u1)
theorem t_P_add_39 {X : jX} {Qf : Int × Wd → State → Prop} {ad : Nat → Nat} (C : Cx X prog_8_method_3_code "EachBringsAnother$Plan") (hn : xn X = 3) (hR : xR X = rmD 1) (hr : Rt X Qf ad prog_8_method_3_code 9) (v1 v2 : Int) (w : Wd) : VF X Qf ad NF 0 0 w 39 [(0, (2, 13)), (1, (0, v1)), (2, (0, v2))] [] (f_P_add_39 v1 v2 w) := by
  unfold f_P_add_39
  refine vf_aload_n C (f := 0) (zdg dz_P_add_0 22 rfl) 0 rfl rfl ?_
  refine vf_dup C (zdg dz_P_add_0 23 rfl) (Nat.succ_ne_self 1) ?_
  refine vf_get C (kd := 0) fl_P_22 sh_12 rfl (by decide) rfl rfl (zdg dz_P_add_1 0 rfl) ?_
  refine vf_iconst C (z := 1) (zdg dz_P_add_1 1 rfl) (jz rfl) ?_
  refine vf_iload_n C (f := 1) (zdg dz_P_add_1 2 rfl) 1 rfl rfl ?_
  refine vf_ishl C (zdg dz_P_add_1 3 rfl) ?_
  refine vf_iconst C (z := 1) (zdg dz_P_add_1 4 rfl) (jz rfl) ?_
  refine vf_iload_n C (f := 2) (zdg dz_P_add_1 5 rfl) 2 rfl rfl ?_
  refine vf_ishl C (zdg dz_P_add_1 6 rfl) ?_
  refine vf_ior C (zdg dz_P_add_1 7 rfl) ?_
  refine vf_ior C (zdg dz_P_add_1 8 rfl) ?_
  refine vf_put C (kd := 0) fl_P_22 fk_4_3 sh_12 rfl (by decide) rfl rfl (by decide) (zdg dz_P_add_1 9 rfl) ?_
  generalize st w 12 3 (ior (w 12 3) (ior (ishl 1 v1) (ishl 1 v2))) = u1
  refine vf_uw ?_
  exact hr _ _ _ _ (fun h => absurd h (by decide)) (zdg dz_P_add_1 10 rfl)
def f_P_add (v1 v2 : Int) (w : Wd) : Option (Int × Wd) :=
  if (10 : Int) ≤ (w 12 2) then
    f_P_add_39 v1 v2 w
  else
    jgd ((0 : Int) ≤ (w 12 2) ∧ (w 12 2) < 10) <|
    jlw (st w 13 (w 12 2).toNat v1) fun u2 =>
    jgd ((0 : Int) ≤ (u2 12 2) ∧ (u2 12 2) < 10) <|
    jlw (st u2 14 (u2 12 2).toNat v2) fun u3 =>
    jlw (st u3 12 2 (w32 ((u3 12 2) + 1))) fun u4 =>
    f_P_add_39 v1 v2 u4
theorem ct_P_add (v1 v2 : Int) (w : Wd) : Ct y_P_add prog_8_method_3_code 3 none 1 9 [(2, 13), (0, v1), (0, v2)] w (f_P_add v1 v2 w) := by
  refine ct_of (by decide +kernel) (Or.inr (Or.inr (Or.inr ⟨rfl, rfl⟩))) (Nat.le_of_ble_eq_true rfl) ?_
  intro X Qf ad C hn hR hr
  unfold f_P_add
  show VF X Qf ad NF 0 0 w 0 [(0, (2, 13)), (1, (0, v1)), (2, (0, v2))] [] _
  refine vf_aload_n C (f := 0) (zdg dz_P_add_0 0 rfl) 0 rfl rfl ?_
  refine vf_get C (kd := 0) fl_P_18 sh_12 rfl (by decide) rfl rfl (zdg dz_P_add_0 1 rfl) ?_
  refine vf_bipush C (z := 10) (zdg dz_P_add_0 2 rfl) (by decide +kernel) (jz rfl) ?_
  refine vf_icmp_ge C (off := 33) (tgt := 39) (zdg dz_P_add_0 3 rfl) (by decide) ?_ ?_
  · exact t_P_add_39 C hn hR hr _ _ _
  · refine vf_aload_n C (f := 0) (zdg dz_P_add_0 4 rfl) 0 rfl rfl ?_
    refine vf_getp C fl_P_9 sh_12 rfl (by decide) rfl (x := 14) rfl (zdg dz_P_add_0 5 rfl) ?_
    refine vf_aload_n C (f := 0) (zdg dz_P_add_0 6 rfl) 0 rfl rfl ?_
    refine vf_get C (kd := 0) fl_P_18 sh_12 rfl (by decide) rfl rfl (zdg dz_P_add_0 7 rfl) ?_
    refine vf_iload_n C (f := 1) (zdg dz_P_add_0 8 rfl) 1 rfl rfl ?_
    refine vf_iast C sh_13 (by decide) rfl (mz := 10) rfl (zdg dz_P_add_0 9 rfl) ?_
    generalize st w 13 (w 12 2).toNat v1 = u2
    refine vf_uw ?_
    refine vf_aload_n C (f := 0) (zdg dz_P_add_0 10 rfl) 0 rfl rfl ?_
    refine vf_getp C fl_P_15 sh_12 rfl (by decide) rfl (x := 15) rfl (zdg dz_P_add_0 11 rfl) ?_
    refine vf_aload_n C (f := 0) (zdg dz_P_add_0 12 rfl) 0 rfl rfl ?_
    refine vf_get C (kd := 0) fl_P_18 sh_12 rfl (by decide) rfl rfl (zdg dz_P_add_0 13 rfl) ?_
    refine vf_iload_n C (f := 2) (zdg dz_P_add_0 14 rfl) 2 rfl rfl ?_
    refine vf_iast C sh_14 (by decide) rfl (mz := 10) rfl (zdg dz_P_add_0 15 rfl) ?_
    generalize st u2 14 (u2 12 2).toNat v2 = u3
    refine vf_uw ?_
    refine vf_aload_n C (f := 0) (zdg dz_P_add_0 16 rfl) 0 rfl rfl ?_
    refine vf_dup C (zdg dz_P_add_0 17 rfl) (Nat.succ_ne_self 1) ?_
    refine vf_get C (kd := 0) fl_P_18 sh_12 rfl (by decide) rfl rfl (zdg dz_P_add_0 18 rfl) ?_
    refine vf_iconst C (z := 1) (zdg dz_P_add_0 19 rfl) (jz rfl) ?_
    refine vf_iadd C (zdg dz_P_add_0 20 rfl) ?_
    refine vf_put C (kd := 0) fl_P_18 fk_4_2 sh_12 rfl (by decide) rfl rfl (by decide) (zdg dz_P_add_0 21 rfl) ?_
    generalize st u3 12 2 (w32 ((u3 12 2) + 1)) = u4
    refine vf_uw ?_
    exact t_P_add_39 C hn hR hr _ _ _
def f_P_read_70 (v3 : Int) (w : Wd) : Option (Int × Wd) :=
  some (w32 ((-1) - v3), w)
theorem t_P_read_70 {X : jX} {Qf : Int × Wd → State → Prop} {ad : Nat → Nat} (C : Cx X prog_8_method_7_code "EachBringsAnother$Plan") (hn : xn X = 5) (hR : xR X = rmD 2) (hr : Rt X Qf ad prog_8_method_7_code 0) (v3 : Int) (w : Wd) : VF X Qf ad NF 0 0 w 70 [(3, (0, v3))] [] (f_P_read_70 v3 w) := by
  unfold f_P_read_70
  refine vf_iconst C (z := (-1)) (zdg dz_P_read_1 15 rfl) (jz rfl) ?_
  refine vf_iload_n C (f := 3) (zdg dz_P_read_1 16 rfl) 0 rfl rfl ?_
  refine vf_isub C (zdg dz_P_read_1 17 rfl) ?_
  exact hr _ _ _ _ (fun h => absurd h (by decide)) (zdg dz_P_read_1 18 rfl)
def f_P_read_74 (k15 : Int → Wd → Option (Int × Wd)) (k23 : Int → Int → Wd → Option (Int × Wd)) (v2 v3 : Int) (w : Wd) : Option (Int × Wd) :=
  jlet (w32 (v3 + 1)) fun x14 =>
  k23 v2 x14 w
theorem t_P_read_74 {X : jX} {Qf : Int × Wd → State → Prop} {ad : Nat → Nat} (C : Cx X prog_8_method_7_code "EachBringsAnother$Plan") (hn : xn X = 5) (hR : xR X = rmD 2) (hr : Rt X Qf ad prog_8_method_7_code 0) {k15 : Int → Wd → Option (Int × Wd)} (hk15 : ∀ (v2 : Int) (w : Wd), VF X Qf ad NF 0 0 w 15 [(0, (2, 13)), (1, (2, 2)), (2, (0, v2))] [] (k15 v2 w)) {k23 : Int → Int → Wd → Option (Int × Wd)} (hk23 : ∀ (v2 v3 : Int) (w : Wd), VF X Qf ad NF 0 0 w 23 [(0, (2, 13)), (1, (2, 2)), (2, (0, v2)), (3, (0, v3))] [] (k23 v2 v3 w)) (v2 v3 : Int) (w : Wd) : VF X Qf ad NF 0 0 w 74 [(0, (2, 13)), (1, (2, 2)), (2, (0, v2)), (3, (0, v3))] [] (f_P_read_74 k15 k23 v2 v3 w) := by
  unfold f_P_read_74
  refine vf_iinc C (z := 1) (L' := [(0, (2, 13)), (1, (2, 2)), (2, (0, v2))]) (zdg dz_P_read_1 19 rfl) 3 rfl [0, 1, 2] (jrI rfl rfl) hn (by decide) ?_
  generalize w32 (v3 + 1) = x14
  refine vf_ul ?_
  refine vf_goto C (off := (-54)) (tgt := 23) (zdg dz_P_read_1 20 rfl) (by decide) ?_
  exact vf_perm [1, 2, 3, 0] rfl (hk23 _ _ _)
def f_P_read_23 (k15 : Int → Wd → Option (Int × Wd)) : Nat → Int → Int → Wd → Option (Int × Wd)
  | 0, _, _, _ => none
  | n + 1, v2, v3, w =>
    if (w32 (v2 + 3)) ≤ v3 then
      jcall (f_T_signAt v2 40 w) fun r3 u4 =>
      jcall (f_T_signAt (w32 (v2 + 2)) 40 u4) fun r5 u6 =>
      jcall (f_P_add (w32 (r3 - 97)) (w32 (r5 - 97)) u6) fun r7 u8 =>
      jcall (f_T_signAt (w32 (v2 + 3)) 40 u8) fun r9 u10 =>
      if r9 = (-1) then
        some (0, u10)
      else
        if r9 = 59 then
          jlet (w32 (v2 + 4)) fun x11 =>
          k15 x11 u10
        else
          some (w32 ((-1) - (w32 (v2 + 3))), u10)
    else
      jcall (f_T_signAt v3 40 w) fun r12 u13 =>
      if v3 = (w32 (v2 + 1)) then
        if r12 = 62 then
          f_P_read_74 k15 (f_P_read_23 k15 n) v2 v3 u13
        else
          f_P_read_70 v3 u13
      else
        if r12 < 97 then
          f_P_read_70 v3 u13
        else
          if r12 < 107 then
            f_P_read_74 k15 (f_P_read_23 k15 n) v2 v3 u13
          else
            f_P_read_70 v3 u13
theorem t_P_read_23 {X : jX} {Qf : Int × Wd → State → Prop} {ad : Nat → Nat} (C : Cx X prog_8_method_7_code "EachBringsAnother$Plan") (hn : xn X = 5) (hR : xR X = rmD 2) (hr : Rt X Qf ad prog_8_method_7_code 0) {k15 : Int → Wd → Option (Int × Wd)} (hk15 : ∀ (v2 : Int) (w : Wd), VF X Qf ad NF 0 0 w 15 [(0, (2, 13)), (1, (2, 2)), (2, (0, v2))] [] (k15 v2 w)) : ∀ (n : Nat) (v2 v3 : Int) (w : Wd), VF X Qf ad NF 0 0 w 23 [(0, (2, 13)), (1, (2, 2)), (2, (0, v2)), (3, (0, v3))] [] (f_P_read_23 k15 n v2 v3 w) := by
  intro n
  induction n with
  | zero => intros; exact vf_no
  | succ n ih =>
    intro v2 v3 w
    rw [f_P_read_23]
    refine vf_iload_n C (f := 3) (zdg dz_P_read_0 14 rfl) 3 rfl rfl ?_
    refine vf_iload_n C (f := 2) (zdg dz_P_read_0 15 rfl) 2 rfl rfl ?_
    refine vf_iconst C (z := 3) (zdg dz_P_read_0 16 rfl) (jz rfl) ?_
    refine vf_iadd C (zdg dz_P_read_0 17 rfl) ?_
    refine vf_icmp_ge C (off := 53) (tgt := 80) (zdg dz_P_read_0 18 rfl) (by decide) ?_ ?_
    · refine vf_aload_n C (f := 0) (zdg dz_P_read_1 21 rfl) 0 rfl rfl ?_
      refine vf_aload_n C (f := 1) (zdg dz_P_read_1 22 rfl) 1 rfl rfl ?_
      refine vf_iload_n C (f := 2) (zdg dz_P_read_1 23 rfl) 2 rfl rfl ?_
      refine vf_bipush C (z := 40) (zdg dz_P_read_2 0 rfl) (by decide +kernel) (jz rfl) ?_
      refine vf_callVi C cy_T_signAt ml_P_33 rfl (ct_T_signAt _ _ _) (S := [(2, 13)]) sh_1 (by decide) rfl (jrm_of hR rfl) rfl rfl (Nat.le_of_ble_eq_true rfl) (zdg dz_P_read_2 1 rfl) (fun r3 u4 => ?_)
      refine vf_bipush C (z := 97) (zdg dz_P_read_2 2 rfl) (by decide +kernel) (jz rfl) ?_
      refine vf_isub C (zdg dz_P_read_2 3 rfl) ?_
      refine vf_aload_n C (f := 1) (zdg dz_P_read_2 4 rfl) 1 rfl rfl ?_
      refine vf_iload_n C (f := 2) (zdg dz_P_read_2 5 rfl) 2 rfl rfl ?_
      refine vf_iconst C (z := 2) (zdg dz_P_read_2 6 rfl) (jz rfl) ?_
      refine vf_iadd C (zdg dz_P_read_2 7 rfl) ?_
      refine vf_bipush C (z := 40) (zdg dz_P_read_2 8 rfl) (by decide +kernel) (jz rfl) ?_
      refine vf_callVi C cy_T_signAt ml_P_33 rfl (ct_T_signAt _ _ _) (S := [(0, w32 (r3 - 97)), (2, 13)]) sh_1 (by decide) rfl (jrm_of hR rfl) rfl rfl (Nat.le_of_ble_eq_true rfl) (zdg dz_P_read_2 9 rfl) (fun r5 u6 => ?_)
      refine vf_bipush C (z := 97) (zdg dz_P_read_2 10 rfl) (by decide +kernel) (jz rfl) ?_
      refine vf_isub C (zdg dz_P_read_2 11 rfl) ?_
      refine vf_callVv C cy_P_add ml_P_37 rfl (ct_P_add _ _ _) (S := []) sh_12 (by decide) rfl (jrm_of hR rfl) rfl rfl (Nat.le_of_ble_eq_true rfl) (zdg dz_P_read_2 12 rfl) (fun r7 u8 => ?_)
      refine vf_aload_n C (f := 1) (zdg dz_P_read_2 13 rfl) 1 rfl rfl ?_
      refine vf_iload_n C (f := 2) (zdg dz_P_read_2 14 rfl) 2 rfl rfl ?_
      refine vf_iconst C (z := 3) (zdg dz_P_read_2 15 rfl) (jz rfl) ?_
      refine vf_iadd C (zdg dz_P_read_2 16 rfl) ?_
      refine vf_bipush C (z := 40) (zdg dz_P_read_2 17 rfl) (by decide +kernel) (jz rfl) ?_
      refine vf_callVi C cy_T_signAt ml_P_33 rfl (ct_T_signAt _ _ _) (S := []) sh_1 (by decide) rfl (jrm_of hR rfl) rfl rfl (Nat.le_of_ble_eq_true rfl) (zdg dz_P_read_2 18 rfl) (fun r9 u10 => ?_)
      refine vf_istore_n C (f := 3) (L' := [(0, (2, 13)), (1, (2, 2)), (2, (0, v2))]) (zdg dz_P_read_2 19 rfl) [0, 1, 2] (jrI rfl rfl) hn (by decide) rfl ?_
      refine vf_iload_n C (f := 3) (zdg dz_P_read_2 20 rfl) 0 rfl rfl ?_
      refine vf_iconst C (z := (-1)) (zdg dz_P_read_2 21 rfl) (jz rfl) ?_
      refine vf_icmp_ne C (off := 5) (tgt := 123) (zdg dz_P_read_2 22 rfl) (by decide) ?_ ?_
      · refine vf_iload_n C (f := 3) (zdg dz_P_read_3 1 rfl) 0 rfl rfl ?_
        refine vf_bipush C (z := 59) (zdg dz_P_read_3 2 rfl) (by decide +kernel) (jz rfl) ?_
        refine vf_icmp_eq C (off := 9) (tgt := 135) (zdg dz_P_read_3 3 rfl) (by decide) ?_ ?_
        · refine vf_iinc C (z := 4) (L' := [(0, (2, 13)), (1, (2, 2))]) (zdg dz_P_read_3 10 rfl) 3 rfl [1, 2] (jrI rfl rfl) hn (by decide) ?_
          generalize w32 (v2 + 4) = x11
          refine vf_ul ?_
          refine vf_goto C (off := (-123)) (tgt := 15) (zdg dz_P_read_3 11 rfl) (by decide) ?_
          exact vf_perm [1, 2, 0] rfl (hk15 _ _)
        · refine vf_iconst C (z := (-1)) (zdg dz_P_read_3 4 rfl) (jz rfl) ?_
          refine vf_iload_n C (f := 2) (zdg dz_P_read_3 5 rfl) 3 rfl rfl ?_
          refine vf_iconst C (z := 3) (zdg dz_P_read_3 6 rfl) (jz rfl) ?_
          refine vf_iadd C (zdg dz_P_read_3 7 rfl) ?_
          refine vf_isub C (zdg dz_P_read_3 8 rfl) ?_
          exact hr _ _ _ _ (fun h => absurd h (by decide)) (zdg dz_P_read_3 9 rfl)
      · refine vf_iconst C (z := 0) (zdg dz_P_read_2 23 rfl) (jz rfl) ?_
        exact hr _ _ _ _ (fun h => absurd h (by decide)) (zdg dz_P_read_3 0 rfl)
    · refine vf_aload_n C (f := 1) (zdg dz_P_read_0 19 rfl) 1 rfl rfl ?_
      refine vf_iload_n C (f := 3) (zdg dz_P_read_0 20 rfl) 3 rfl rfl ?_
      refine vf_bipush C (z := 40) (zdg dz_P_read_0 21 rfl) (by decide +kernel) (jz rfl) ?_
      refine vf_callVi C cy_T_signAt ml_P_33 rfl (ct_T_signAt _ _ _) (S := []) sh_1 (by decide) rfl (jrm_of hR rfl) rfl rfl (Nat.le_of_ble_eq_true rfl) (zdg dz_P_read_0 22 rfl) (fun r12 u13 => ?_)
      refine vf_istore C (i := 4) (L' := [(0, (2, 13)), (1, (2, 2)), (2, (0, v2)), (3, (0, v3))]) (zdg dz_P_read_0 23 rfl) [0, 1, 2, 3] (jrI rfl rfl) hn (by decide) ?_
      refine vf_iload_n C (f := 3) (zdg dz_P_read_1 0 rfl) 4 rfl rfl ?_
      refine vf_iload_n C (f := 2) (zdg dz_P_read_1 1 rfl) 3 rfl rfl ?_
      refine vf_iconst C (z := 1) (zdg dz_P_read_1 2 rfl) (jz rfl) ?_
      refine vf_iadd C (zdg dz_P_read_1 3 rfl) ?_
      refine vf_icmp_ne C (off := 13) (tgt := 56) (zdg dz_P_read_1 4 rfl) (by decide) ?_ ?_
      · refine vf_iload C (zdg dz_P_read_1 9 rfl) 0 rfl ?_
        refine vf_bipush C (z := 97) (zdg dz_P_read_1 10 rfl) (by decide +kernel) (jz rfl) ?_
        refine vf_icmp_lt C (off := 10) (tgt := 70) (zdg dz_P_read_1 11 rfl) (by decide) ?_ ?_
        · exact vf_perm [4] rfl (t_P_read_70 C hn hR hr _ _)
        · refine vf_iload C (zdg dz_P_read_1 12 rfl) 0 rfl ?_
          refine vf_bipush C (z := 107) (zdg dz_P_read_1 13 rfl) (by decide +kernel) (jz rfl) ?_
          refine vf_icmp_lt C (off := 7) (tgt := 74) (zdg dz_P_read_1 14 rfl) (by decide) ?_ ?_
          · exact vf_perm [1, 2, 3, 4] rfl (t_P_read_74 C hn hR hr hk15 ih _ _ _)
          · exact vf_perm [4] rfl (t_P_read_70 C hn hR hr _ _)
      · refine vf_iload C (zdg dz_P_read_1 5 rfl) 0 rfl ?_
        refine vf_bipush C (z := 62) (zdg dz_P_read_1 6 rfl) (by decide +kernel) (jz rfl) ?_
        refine vf_icmp_eq C (off := 24) (tgt := 74) (zdg dz_P_read_1 7 rfl) (by decide) ?_ ?_
        · exact vf_perm [1, 2, 3, 4] rfl (t_P_read_74 C hn hR hr hk15 ih _ _ _)
        · refine vf_goto C (off := 17) (tgt := 70) (zdg dz_P_read_1 8 rfl) (by decide) ?_
          exact vf_perm [4] rfl (t_P_read_70 C hn hR hr _ _)
def f_P_read_15 : Nat → Int → Wd → Option (Int × Wd)
  | 0, _, _ => none
  | n + 1, v2, w =>
    if (40 : Int) ≤ v2 then
      some ((-41), w)
    else
      f_P_read_23 (f_P_read_15 n) FU v2 v2 w
theorem t_P_read_15 {X : jX} {Qf : Int × Wd → State → Prop} {ad : Nat → Nat} (C : Cx X prog_8_method_7_code "EachBringsAnother$Plan") (hn : xn X = 5) (hR : xR X = rmD 2) (hr : Rt X Qf ad prog_8_method_7_code 0) : ∀ (n : Nat) (v2 : Int) (w : Wd), VF X Qf ad NF 0 0 w 15 [(0, (2, 13)), (1, (2, 2)), (2, (0, v2))] [] (f_P_read_15 n v2 w) := by
  intro n
  induction n with
  | zero => intros; exact vf_no
  | succ n ih =>
    intro v2 w
    rw [f_P_read_15]
    refine vf_iload_n C (f := 2) (zdg dz_P_read_0 9 rfl) 2 rfl rfl ?_
    refine vf_bipush C (z := 40) (zdg dz_P_read_0 10 rfl) (by decide +kernel) (jz rfl) ?_
    refine vf_icmp_ge C (off := 123) (tgt := 141) (zdg dz_P_read_0 11 rfl) (by decide) ?_ ?_
    · refine vf_bipush C (z := (-41)) (zdg dz_P_read_3 12 rfl) (by decide +kernel) (jz rfl) ?_
      exact hr _ _ _ _ (fun h => absurd h (by decide)) (zdg dz_P_read_3 13 rfl)
    · refine vf_iload_n C (f := 2) (zdg dz_P_read_0 12 rfl) 2 rfl rfl ?_
      refine vf_istore_n C (f := 3) (L' := [(0, (2, 13)), (1, (2, 2)), (2, (0, v2))]) (zdg dz_P_read_0 13 rfl) [0, 1, 2] (jrI rfl rfl) hn (by decide) rfl ?_
      exact vf_perm [1, 2, 3, 0] rfl (t_P_read_23 C hn hR hr ih FU _ _ _)
def f_P_read (w : Wd) : Option (Int × Wd) :=
  jcall (f_P_clear w) fun r1 u2 =>
  if (u2 1 1) = 0 then
    some (0, u2)
  else
    f_P_read_15 FU 0 u2
theorem ct_P_read (w : Wd) : Ct y_P_read prog_8_method_7_code 5 (some .int) 2 0 [(2, 13), (2, 2)] w (f_P_read w) := by
  refine ct_of (by decide +kernel) (Or.inl ⟨rfl, rfl⟩) (Nat.le_of_ble_eq_true rfl) ?_
  intro X Qf ad C hn hR hr
  unfold f_P_read
  show VF X Qf ad NF 0 0 w 0 [(0, (2, 13)), (1, (2, 2))] [] _
  refine vf_aload_n C (f := 0) (zdg dz_P_read_0 0 rfl) 0 rfl rfl ?_
  refine vf_callVv C cy_P_clear ml_P_25 rfl (ct_P_clear _) (S := []) sh_12 (by decide) rfl (jrm_of hR rfl) rfl rfl (Nat.le_of_ble_eq_true rfl) (zdg dz_P_read_0 1 rfl) (fun r1 u2 => ?_)
  refine vf_aload_n C (f := 1) (zdg dz_P_read_0 2 rfl) 1 rfl rfl ?_
  refine vf_get C (kd := 0) fl_P_28 sh_1 rfl (by decide) rfl rfl (zdg dz_P_read_0 3 rfl) ?_
  refine vf_if_ne C (off := 5) (tgt := 13) (zdg dz_P_read_0 4 rfl) (by decide) ?_ ?_
  · refine vf_iconst C (z := 0) (zdg dz_P_read_0 7 rfl) (jz rfl) ?_
    refine vf_istore_n C (f := 2) (L' := [(0, (2, 13)), (1, (2, 2))]) (zdg dz_P_read_0 8 rfl) [0, 1] (jrI rfl rfl) hn (by decide) rfl ?_
    exact vf_perm [1, 2, 0] rfl (t_P_read_15 C hn hR hr FU _ _)
  · refine vf_iconst C (z := 0) (zdg dz_P_read_0 5 rfl) (jz rfl) ?_
    exact hr _ _ _ _ (fun h => absurd h (by decide)) (zdg dz_P_read_0 6 rfl)
def f_F_free (w : Wd) : Option (Int × Wd) :=
  jcall (f_F_strangers w) fun r1 u2 =>
  some (iand r1 (ixor (u2 5 5) (-1)), u2)
theorem ct_F_free (w : Wd) : Ct y_F_free prog_3_method_6_code 1 (some .int) 3 0 [(2, 6)] w (f_F_free w) := by
  refine ct_of (by decide +kernel) (Or.inl ⟨rfl, rfl⟩) (Nat.le_of_ble_eq_true rfl) ?_
  intro X Qf ad C hn hR hr
  unfold f_F_free
  show VF X Qf ad NF 0 0 w 0 [(0, (2, 6))] [] _
  refine vf_aload_n C (f := 0) (zdg dz_F_free_0 0 rfl) 0 rfl rfl ?_
  refine vf_callVi C cy_F_strangers ml_F_47 rfl (ct_F_strangers _) (S := []) sh_5 (by decide) rfl (jrm_of hR rfl) rfl rfl (Nat.le_of_ble_eq_true rfl) (zdg dz_F_free_0 1 rfl) (fun r1 u2 => ?_)
  refine vf_aload_n C (f := 0) (zdg dz_F_free_0 2 rfl) 0 rfl rfl ?_
  refine vf_get C (kd := 0) fl_F_50 sh_5 rfl (by decide) rfl rfl (zdg dz_F_free_0 3 rfl) ?_
  refine vf_iconst C (z := (-1)) (zdg dz_F_free_0 4 rfl) (jz rfl) ?_
  refine vf_ixor C (zdg dz_F_free_0 5 rfl) ?_
  refine vf_iand C (zdg dz_F_free_0 6 rfl) ?_
  exact hr _ _ _ _ (fun h => absurd h (by decide)) (zdg dz_F_free_0 7 rfl)
def f_F_knownBy_31 (k4 : Int → Int → Int → Wd → Option (Int × Wd)) (v1 v3 s0 s1 : Int) (w : Wd) : Option (Int × Wd) :=
  jlet (ior s0 s1) fun x3 =>
  jlet (w32 (v3 + 1)) fun x4 =>
  k4 v1 x3 x4 w
theorem t_F_knownBy_31 {X : jX} {Qf : Int × Wd → State → Prop} {ad : Nat → Nat} (C : Cx X prog_3_method_8_code "EachBringsAnother$Folk") (hn : xn X = 4) (hR : xR X = rmD 2) (hr : Rt X Qf ad prog_3_method_8_code 0) {k4 : Int → Int → Int → Wd → Option (Int × Wd)} (hk4 : ∀ (v1 v2 v3 : Int) (w : Wd), VF X Qf ad NF 0 0 w 4 [(0, (2, 6)), (1, (0, v1)), (2, (0, v2)), (3, (0, v3))] [] (k4 v1 v2 v3 w)) (v1 v3 s0 s1 : Int) (w : Wd) : VF X Qf ad NF 0 0 w 31 [(0, (2, 6)), (1, (0, v1)), (3, (0, v3))] [(0, s1), (0, s0)] (f_F_knownBy_31 k4 v1 v3 s0 s1 w) := by
  unfold f_F_knownBy_31
  refine vf_ior C (zdg dz_F_knownBy_0 19 rfl) ?_
  generalize ior s0 s1 = x3
  refine vf_ul ?_
  refine vf_istore_n C (f := 2) (L' := [(0, (2, 6)), (1, (0, v1)), (3, (0, v3))]) (zdg dz_F_knownBy_0 20 rfl) [0, 1, 2] (jrI rfl rfl) hn (by decide) rfl ?_
  refine vf_iinc C (z := 1) (L' := [(2, (0, x3)), (0, (2, 6)), (1, (0, v1))]) (zdg dz_F_knownBy_0 21 rfl) 3 rfl [0, 1, 2] (jrI rfl rfl) hn (by decide) ?_
  generalize w32 (v3 + 1) = x4
  refine vf_ul ?_
  refine vf_goto C (off := (-32)) (tgt := 4) (zdg dz_F_knownBy_0 22 rfl) (by decide) ?_
  exact vf_perm [2, 3, 1, 0] rfl (hk4 _ _ _ _)
def f_F_knownBy_4 : Nat → Int → Int → Int → Wd → Option (Int × Wd)
  | 0, _, _, _, _ => none
  | n + 1, v1, v2, v3, w =>
    if (w 5 3) ≤ v3 then
      some (v2, w)
    else
      jcall (f_E_has v1 v3 w) fun r1 u2 =>
      if r1 = 0 then
        f_F_knownBy_31 (f_F_knownBy_4 n) v1 v3 v2 0 u2
      else
        jgd ((0 : Int) ≤ v3 ∧ v3 < 10) <|
        f_F_knownBy_31 (f_F_knownBy_4 n) v1 v3 v2 (u2 7 v3.toNat) u2
theorem t_F_knownBy_4 {X : jX} {Qf : Int × Wd → State → Prop} {ad : Nat → Nat} (C : Cx X prog_3_method_8_code "EachBringsAnother$Folk") (hn : xn X = 4) (hR : xR X = rmD 2) (hr : Rt X Qf ad prog_3_method_8_code 0) : ∀ (n : Nat) (v1 v2 v3 : Int) (w : Wd), VF X Qf ad NF 0 0 w 4 [(0, (2, 6)), (1, (0, v1)), (2, (0, v2)), (3, (0, v3))] [] (f_F_knownBy_4 n v1 v2 v3 w) := by
  intro n
  induction n with
  | zero => intros; exact vf_no
  | succ n ih =>
    intro v1 v2 v3 w
    rw [f_F_knownBy_4]
    refine vf_iload_n C (f := 3) (zdg dz_F_knownBy_0 4 rfl) 3 rfl rfl ?_
    refine vf_aload_n C (f := 0) (zdg dz_F_knownBy_0 5 rfl) 0 rfl rfl ?_
    refine vf_get C (kd := 0) fl_F_28 sh_5 rfl (by decide) rfl rfl (zdg dz_F_knownBy_0 6 rfl) ?_
    refine vf_icmp_ge C (off := 30) (tgt := 39) (zdg dz_F_knownBy_0 7 rfl) (by decide) ?_ ?_
    · refine vf_iload_n C (f := 2) (zdg dz_F_knownBy_0 23 rfl) 2 rfl rfl ?_
      exact hr _ _ _ _ (fun h => absurd h (by decide)) (zdg dz_F_knownBy_1 0 rfl)
    · refine vf_iload_n C (f := 2) (zdg dz_F_knownBy_0 8 rfl) 2 rfl rfl ?_
      refine vf_iload_n C (f := 1) (zdg dz_F_knownBy_0 9 rfl) 1 rfl rfl ?_
      refine vf_iload_n C (f := 3) (zdg dz_F_knownBy_0 10 rfl) 3 rfl rfl ?_
      refine vf_callSz C cy_E_has ml_F_62 (ct_E_has _ _ _) (S := [(0, v2)]) (jrm_of hR rfl) rfl rfl (Nat.le_of_ble_eq_true rfl) (zdg dz_F_knownBy_0 11 rfl) (fun r1 u2 => ?_)
      refine vf_if_eq C (off := 12) (tgt := 30) (zdg dz_F_knownBy_0 12 rfl) (by decide) ?_ ?_
      · refine vf_iconst C (z := 0) (zdg dz_F_knownBy_0 18 rfl) (jz rfl) ?_
        exact vf_perm [0, 1, 3] rfl (t_F_knownBy_31 C hn hR hr ih _ _ _ _ _)
      · refine vf_aload_n C (f := 0) (zdg dz_F_knownBy_0 13 rfl) 0 rfl rfl ?_
        refine vf_getp C fl_F_15 sh_5 rfl (by decide) rfl (x := 8) rfl (zdg dz_F_knownBy_0 14 rfl) ?_
        refine vf_iload_n C (f := 3) (zdg dz_F_knownBy_0 15 rfl) 3 rfl rfl ?_
        refine vf_iald C sh_7 (by decide) rfl (mz := 10) rfl (zdg dz_F_knownBy_0 16 rfl) ?_
        refine vf_goto C (off := 4) (tgt := 31) (zdg dz_F_knownBy_0 17 rfl) (by decide) ?_
        exact vf_perm [0, 1, 3] rfl (t_F_knownBy_31 C hn hR hr ih _ _ _ _ _)
def f_F_knownBy (v1 : Int) (w : Wd) : Option (Int × Wd) :=
  f_F_knownBy_4 FU v1 0 0 w
theorem ct_F_knownBy (v1 : Int) (w : Wd) : Ct y_F_knownBy prog_3_method_8_code 4 (some .int) 2 0 [(2, 6), (0, v1)] w (f_F_knownBy v1 w) := by
  refine ct_of (by decide +kernel) (Or.inl ⟨rfl, rfl⟩) (Nat.le_of_ble_eq_true rfl) ?_
  intro X Qf ad C hn hR hr
  unfold f_F_knownBy
  show VF X Qf ad NF 0 0 w 0 [(0, (2, 6)), (1, (0, v1))] [] _
  refine vf_iconst C (z := 0) (zdg dz_F_knownBy_0 0 rfl) (jz rfl) ?_
  refine vf_istore_n C (f := 2) (L' := [(0, (2, 6)), (1, (0, v1))]) (zdg dz_F_knownBy_0 1 rfl) [0, 1] (jrI rfl rfl) hn (by decide) rfl ?_
  refine vf_iconst C (z := 0) (zdg dz_F_knownBy_0 2 rfl) (jz rfl) ?_
  refine vf_istore_n C (f := 3) (L' := [(2, (0, 0)), (0, (2, 6)), (1, (0, v1))]) (zdg dz_F_knownBy_0 3 rfl) [0, 1, 2] (jrI rfl rfl) hn (by decide) rfl ?_
  exact vf_perm [2, 3, 1, 0] rfl (t_F_knownBy_4 C hn hR hr FU _ _ _ _)
def f_P_firstWrongPair_48 (k4 : Int → Int → Wd → Option (Int × Wd)) (v2 v3 s0 : Int) (w : Wd) : Option (Int × Wd) :=
  jcall (f_F_free w) fun r5 u6 =>
  jgd ((0 : Int) ≤ v3 ∧ v3 < 10) <|
  jcall (f_E_has (iand (iand s0 r5) (ixor v2 (-1))) (u6 14 v3.toNat) u6) fun r7 u8 =>
  if r7 = 0 then
    some (v3, u8)
  else
    jgd ((0 : Int) ≤ v3 ∧ v3 < 10) <|
    jgd ((0 : Int) ≤ v3 ∧ v3 < 10) <|
    jlet (ior v2 (ior (ishl 1 (u8 13 v3.toNat)) (ishl 1 (u8 14 v3.toNat)))) fun x9 =>
    jlet (w32 (v3 + 1)) fun x10 =>
    k4 x9 x10 u8
theorem t_P_firstWrongPair_48 {X : jX} {Qf : Int × Wd → State → Prop} {ad : Nat → Nat} (C : Cx X prog_8_method_8_code "EachBringsAnother$Plan") (hn : xn X = 5) (hR : xR X = rmD 4) (hr : Rt X Qf ad prog_8_method_8_code 0) {k4 : Int → Int → Wd → Option (Int × Wd)} (hk4 : ∀ (v2 v3 : Int) (w : Wd), VF X Qf ad NF 0 0 w 4 [(0, (2, 13)), (1, (2, 6)), (2, (0, v2)), (3, (0, v3))] [] (k4 v2 v3 w)) (v2 v3 s0 : Int) (w : Wd) : VF X Qf ad NF 0 0 w 48 [(0, (2, 13)), (1, (2, 6)), (2, (0, v2)), (3, (0, v3))] [(0, s0)] (f_P_firstWrongPair_48 k4 v2 v3 s0 w) := by
  unfold f_P_firstWrongPair_48
  refine vf_istore C (i := 4) (L' := [(0, (2, 13)), (1, (2, 6)), (2, (0, v2)), (3, (0, v3))]) (zdg dz_P_firstWrongPair_1 6 rfl) [0, 1, 2, 3] (jrI rfl rfl) hn (by decide) ?_
  refine vf_iload C (zdg dz_P_firstWrongPair_1 7 rfl) 0 rfl ?_
  refine vf_aload_n C (f := 1) (zdg dz_P_firstWrongPair_1 8 rfl) 2 rfl rfl ?_
  refine vf_callVi C cy_F_free ml_P_55 rfl (ct_F_free _) (S := [(0, s0)]) sh_5 (by decide) rfl (jrm_of hR rfl) rfl rfl (Nat.le_of_ble_eq_true rfl) (zdg dz_P_firstWrongPair_1 9 rfl) (fun r5 u6 => ?_)
  refine vf_iand C (zdg dz_P_firstWrongPair_1 10 rfl) ?_
  refine vf_iload_n C (f := 2) (zdg dz_P_firstWrongPair_1 11 rfl) 3 rfl rfl ?_
  refine vf_iconst C (z := (-1)) (zdg dz_P_firstWrongPair_1 12 rfl) (jz rfl) ?_
  refine vf_ixor C (zdg dz_P_firstWrongPair_1 13 rfl) ?_
  refine vf_iand C (zdg dz_P_firstWrongPair_1 14 rfl) ?_
  refine vf_aload_n C (f := 0) (zdg dz_P_firstWrongPair_1 15 rfl) 1 rfl rfl ?_
  refine vf_getp C fl_P_15 sh_12 rfl (by decide) rfl (x := 15) rfl (zdg dz_P_firstWrongPair_1 16 rfl) ?_
  refine vf_iload_n C (f := 3) (zdg dz_P_firstWrongPair_1 17 rfl) 4 rfl rfl ?_
  refine vf_iald C sh_14 (by decide) rfl (mz := 10) rfl (zdg dz_P_firstWrongPair_1 18 rfl) ?_
  refine vf_callSz C cy_E_has ml_P_47 (ct_E_has _ _ _) (S := []) (jrm_of hR rfl) rfl rfl (Nat.le_of_ble_eq_true rfl) (zdg dz_P_firstWrongPair_1 19 rfl) (fun r7 u8 => ?_)
  refine vf_if_ne C (off := 5) (tgt := 75) (zdg dz_P_firstWrongPair_1 20 rfl) (by decide) ?_ ?_
  · refine vf_iload_n C (f := 2) (zdg dz_P_firstWrongPair_1 23 rfl) 3 rfl rfl ?_
    refine vf_iconst C (z := 1) (zdg dz_P_firstWrongPair_2 0 rfl) (jz rfl) ?_
    refine vf_aload_n C (f := 0) (zdg dz_P_firstWrongPair_2 1 rfl) 1 rfl rfl ?_
    refine vf_getp C fl_P_9 sh_12 rfl (by decide) rfl (x := 14) rfl (zdg dz_P_firstWrongPair_2 2 rfl) ?_
    refine vf_iload_n C (f := 3) (zdg dz_P_firstWrongPair_2 3 rfl) 4 rfl rfl ?_
    refine vf_iald C sh_13 (by decide) rfl (mz := 10) rfl (zdg dz_P_firstWrongPair_2 4 rfl) ?_
    refine vf_ishl C (zdg dz_P_firstWrongPair_2 5 rfl) ?_
    refine vf_iconst C (z := 1) (zdg dz_P_firstWrongPair_2 6 rfl) (jz rfl) ?_
    refine vf_aload_n C (f := 0) (zdg dz_P_firstWrongPair_2 7 rfl) 1 rfl rfl ?_
    refine vf_getp C fl_P_15 sh_12 rfl (by decide) rfl (x := 15) rfl (zdg dz_P_firstWrongPair_2 8 rfl) ?_
    refine vf_iload_n C (f := 3) (zdg dz_P_firstWrongPair_2 9 rfl) 4 rfl rfl ?_
    refine vf_iald C sh_14 (by decide) rfl (mz := 10) rfl (zdg dz_P_firstWrongPair_2 10 rfl) ?_
    refine vf_ishl C (zdg dz_P_firstWrongPair_2 11 rfl) ?_
    refine vf_ior C (zdg dz_P_firstWrongPair_2 12 rfl) ?_
    refine vf_ior C (zdg dz_P_firstWrongPair_2 13 rfl) ?_
    generalize ior v2 (ior (ishl 1 (u8 13 v3.toNat)) (ishl 1 (u8 14 v3.toNat))) = x9
    refine vf_ul ?_
    refine vf_istore_n C (f := 2) (L' := [(0, (2, 13)), (1, (2, 6)), (3, (0, v3))]) (zdg dz_P_firstWrongPair_2 14 rfl) [1, 2, 4] (jrI rfl rfl) hn (by decide) rfl ?_
    refine vf_iinc C (z := 1) (L' := [(2, (0, x9)), (0, (2, 13)), (1, (2, 6))]) (zdg dz_P_firstWrongPair_2 15 rfl) 3 rfl [0, 1, 2] (jrI rfl rfl) hn (by decide) ?_
    generalize w32 (v3 + 1) = x10
    refine vf_ul ?_
    refine vf_goto C (off := (-94)) (tgt := 4) (zdg dz_P_firstWrongPair_2 16 rfl) (by decide) ?_
    exact vf_perm [2, 3, 1, 0] rfl (hk4 _ _ _)
  · refine vf_iload_n C (f := 3) (zdg dz_P_firstWrongPair_1 21 rfl) 4 rfl rfl ?_
    exact hr _ _ _ _ (fun h => absurd h (by decide)) (zdg dz_P_firstWrongPair_1 22 rfl)
def f_P_firstWrongPair_4 : Nat → Int → Int → Wd → Option (Int × Wd)
  | 0, _, _, _ => none
  | n + 1, v2, v3, w =>
    if (w 12 2) ≤ v3 then
      some ((-1), w)
    else
      jcall (f_F_guests w) fun r1 u2 =>
      jgd ((0 : Int) ≤ v3 ∧ v3 < 10) <|
      jcall (f_E_has (iand r1 (ixor v2 (-1))) (u2 13 v3.toNat) u2) fun r3 u4 =>
      if r3 = 0 then
        f_P_firstWrongPair_48 (f_P_firstWrongPair_4 n) v2 v3 0 u4
      else
        jgd ((0 : Int) ≤ v3 ∧ v3 < 10) <|
        jcall (f_F_knownBy (ishl 1 (u4 13 v3.toNat)) u4) fun r11 u12 =>
        f_P_firstWrongPair_48 (f_P_firstWrongPair_4 n) v2 v3 r11 u12
theorem t_P_firstWrongPair_4 {X : jX} {Qf : Int × Wd → State → Prop} {ad : Nat → Nat} (C : Cx X prog_8_method_8_code "EachBringsAnother$Plan") (hn : xn X = 5) (hR : xR X = rmD 4) (hr : Rt X Qf ad prog_8_method_8_code 0) : ∀ (n : Nat) (v2 v3 : Int) (w : Wd), VF X Qf ad NF 0 0 w 4 [(0, (2, 13)), (1, (2, 6)), (2, (0, v2)), (3, (0, v3))] [] (f_P_firstWrongPair_4 n v2 v3 w) := by
  intro n
  induction n with
  | zero => intros; exact vf_no
  | succ n ih =>
    intro v2 v3 w
    rw [f_P_firstWrongPair_4]
    refine vf_iload_n C (f := 3) (zdg dz_P_firstWrongPair_0 4 rfl) 3 rfl rfl ?_
    refine vf_aload_n C (f := 0) (zdg dz_P_firstWrongPair_0 5 rfl) 0 rfl rfl ?_
    refine vf_get C (kd := 0) fl_P_18 sh_12 rfl (by decide) rfl rfl (zdg dz_P_firstWrongPair_0 6 rfl) ?_
    refine vf_icmp_ge C (off := 92) (tgt := 101) (zdg dz_P_firstWrongPair_0 7 rfl) (by decide) ?_ ?_
    · refine vf_iconst C (z := (-1)) (zdg dz_P_firstWrongPair_2 17 rfl) (jz rfl) ?_
      exact hr _ _ _ _ (fun h => absurd h (by decide)) (zdg dz_P_firstWrongPair_2 18 rfl)
    · refine vf_aload_n C (f := 1) (zdg dz_P_firstWrongPair_0 8 rfl) 1 rfl rfl ?_
      refine vf_callVi C cy_F_guests ml_P_41 rfl (ct_F_guests _) (S := []) sh_5 (by decide) rfl (jrm_of hR rfl) rfl rfl (Nat.le_of_ble_eq_true rfl) (zdg dz_P_firstWrongPair_0 9 rfl) (fun r1 u2 => ?_)
      refine vf_iload_n C (f := 2) (zdg dz_P_firstWrongPair_0 10 rfl) 2 rfl rfl ?_
      refine vf_iconst C (z := (-1)) (zdg dz_P_firstWrongPair_0 11 rfl) (jz rfl) ?_
      refine vf_ixor C (zdg dz_P_firstWrongPair_0 12 rfl) ?_
      refine vf_iand C (zdg dz_P_firstWrongPair_0 13 rfl) ?_
      refine vf_aload_n C (f := 0) (zdg dz_P_firstWrongPair_0 14 rfl) 0 rfl rfl ?_
      refine vf_getp C fl_P_9 sh_12 rfl (by decide) rfl (x := 14) rfl (zdg dz_P_firstWrongPair_0 15 rfl) ?_
      refine vf_iload_n C (f := 3) (zdg dz_P_firstWrongPair_0 16 rfl) 3 rfl rfl ?_
      refine vf_iald C sh_13 (by decide) rfl (mz := 10) rfl (zdg dz_P_firstWrongPair_0 17 rfl) ?_
      refine vf_callSz C cy_E_has ml_P_47 (ct_E_has _ _ _) (S := []) (jrm_of hR rfl) rfl rfl (Nat.le_of_ble_eq_true rfl) (zdg dz_P_firstWrongPair_0 18 rfl) (fun r3 u4 => ?_)
      refine vf_if_eq C (off := 18) (tgt := 47) (zdg dz_P_firstWrongPair_0 19 rfl) (by decide) ?_ ?_
      · refine vf_iconst C (z := 0) (zdg dz_P_firstWrongPair_1 5 rfl) (jz rfl) ?_
        exact t_P_firstWrongPair_48 C hn hR hr ih _ _ _ _
      · refine vf_aload_n C (f := 1) (zdg dz_P_firstWrongPair_0 20 rfl) 1 rfl rfl ?_
        refine vf_iconst C (z := 1) (zdg dz_P_firstWrongPair_0 21 rfl) (jz rfl) ?_
        refine vf_aload_n C (f := 0) (zdg dz_P_firstWrongPair_0 22 rfl) 0 rfl rfl ?_
        refine vf_getp C fl_P_9 sh_12 rfl (by decide) rfl (x := 14) rfl (zdg dz_P_firstWrongPair_0 23 rfl) ?_
        refine vf_iload_n C (f := 3) (zdg dz_P_firstWrongPair_1 0 rfl) 3 rfl rfl ?_
        refine vf_iald C sh_13 (by decide) rfl (mz := 10) rfl (zdg dz_P_firstWrongPair_1 1 rfl) ?_
        refine vf_ishl C (zdg dz_P_firstWrongPair_1 2 rfl) ?_
        refine vf_callVi C cy_F_knownBy ml_P_51 rfl (ct_F_knownBy _ _) (S := []) sh_5 (by decide) rfl (jrm_of hR rfl) rfl rfl (Nat.le_of_ble_eq_true rfl) (zdg dz_P_firstWrongPair_1 3 rfl) (fun r11 u12 => ?_)
        refine vf_goto C (off := 4) (tgt := 48) (zdg dz_P_firstWrongPair_1 4 rfl) (by decide) ?_
        exact t_P_firstWrongPair_48 C hn hR hr ih _ _ _ _
def f_P_firstWrongPair (w : Wd) : Option (Int × Wd) :=
  f_P_firstWrongPair_4 FU 0 0 w
theorem ct_P_firstWrongPair (w : Wd) : Ct y_P_firstWrongPair prog_8_method_8_code 5 (some .int) 4 0 [(2, 13), (2, 6)] w (f_P_firstWrongPair w) := by
  refine ct_of (by decide +kernel) (Or.inl ⟨rfl, rfl⟩) (Nat.le_of_ble_eq_true rfl) ?_
  intro X Qf ad C hn hR hr
  unfold f_P_firstWrongPair
  show VF X Qf ad NF 0 0 w 0 [(0, (2, 13)), (1, (2, 6))] [] _
  refine vf_iconst C (z := 0) (zdg dz_P_firstWrongPair_0 0 rfl) (jz rfl) ?_
  refine vf_istore_n C (f := 2) (L' := [(0, (2, 13)), (1, (2, 6))]) (zdg dz_P_firstWrongPair_0 1 rfl) [0, 1] (jrI rfl rfl) hn (by decide) rfl ?_
  refine vf_iconst C (z := 0) (zdg dz_P_firstWrongPair_0 2 rfl) (jz rfl) ?_
  refine vf_istore_n C (f := 3) (L' := [(2, (0, 0)), (0, (2, 13)), (1, (2, 6))]) (zdg dz_P_firstWrongPair_0 3 rfl) [0, 1, 2] (jrI rfl rfl) hn (by decide) rfl ?_
  exact vf_perm [2, 3, 1, 0] rfl (t_P_firstWrongPair_4 C hn hR hr FU _ _ _)
def f_D_noteAhead (w : Wd) : Option (Int × Wd) :=
  jcall (f_D_isOne (w 15 3) w) fun r1 u2 =>
  if r1 = 0 then
    some (0, u2)
  else
    jgd ((0 : Int) ≤ (u2 15 3) ∧ (u2 15 3) < 61) <|
    jlw (st u2 17 (u2 15 3).toNat ((u2 5 4))) fun u3 =>
    jgd ((0 : Int) ≤ (u3 15 3) ∧ (u3 15 3) < 61) <|
    jlw (st u3 18 (u3 15 3).toNat ((u3 5 6))) fun u4 =>
    jlw (st u4 15 4 (w32 ((u4 15 4) + 1))) fun u5 =>
    some (0, u5)
theorem ct_D_noteAhead (w : Wd) : Ct y_D_noteAhead prog_2_method_6_code 2 none 2 9 [(2, 16), (2, 6)] w (f_D_noteAhead w) := by
  refine ct_of (by decide +kernel) (Or.inr (Or.inr (Or.inr ⟨rfl, rfl⟩))) (Nat.le_of_ble_eq_true rfl) ?_
  intro X Qf ad C hn hR hr
  unfold f_D_noteAhead
  show VF X Qf ad NF 0 0 w 0 [(0, (2, 16)), (1, (2, 6))] [] _
  refine vf_aload_n C (f := 0) (zdg dz_D_noteAhead_0 0 rfl) 0 rfl rfl ?_
  refine vf_aload_n C (f := 0) (zdg dz_D_noteAhead_0 1 rfl) 0 rfl rfl ?_
  refine vf_get C (kd := 0) fl_D_21 sh_15 rfl (by decide) rfl rfl (zdg dz_D_noteAhead_0 2 rfl) ?_
  refine vf_callVz C cy_D_isOne ml_D_25 rfl (ct_D_isOne _ _) (S := []) sh_15 (by decide) rfl (jrm_of hR rfl) rfl rfl (Nat.le_of_ble_eq_true rfl) (zdg dz_D_noteAhead_0 3 rfl) (fun r1 u2 => ?_)
  refine vf_if_eq C (off := 39) (tgt := 47) (zdg dz_D_noteAhead_0 4 rfl) (by decide) ?_ ?_
  · exact hr _ _ _ _ (fun h => absurd h (by decide)) (zdg dz_D_noteAhead_1 1 rfl)
  · refine vf_aload_n C (f := 0) (zdg dz_D_noteAhead_0 5 rfl) 0 rfl rfl ?_
    refine vf_getp C fl_D_15 sh_15 rfl (by decide) rfl (x := 18) rfl (zdg dz_D_noteAhead_0 6 rfl) ?_
    refine vf_aload_n C (f := 0) (zdg dz_D_noteAhead_0 7 rfl) 0 rfl rfl ?_
    refine vf_get C (kd := 0) fl_D_21 sh_15 rfl (by decide) rfl rfl (zdg dz_D_noteAhead_0 8 rfl) ?_
    refine vf_aload_n C (f := 1) (zdg dz_D_noteAhead_0 9 rfl) 1 rfl rfl ?_
    refine vf_get C (kd := 0) fl_D_37 sh_5 rfl (by decide) rfl rfl (zdg dz_D_noteAhead_0 10 rfl) ?_
    refine vf_iast C sh_17 (by decide) rfl (mz := 61) rfl (zdg dz_D_noteAhead_0 11 rfl) ?_
    generalize st u2 17 (u2 15 3).toNat ((u2 5 4)) = u3
    refine vf_uw ?_
    refine vf_aload_n C (f := 0) (zdg dz_D_noteAhead_0 12 rfl) 0 rfl rfl ?_
    refine vf_getp C fl_D_18 sh_15 rfl (by decide) rfl (x := 19) rfl (zdg dz_D_noteAhead_0 13 rfl) ?_
    refine vf_aload_n C (f := 0) (zdg dz_D_noteAhead_0 14 rfl) 0 rfl rfl ?_
    refine vf_get C (kd := 0) fl_D_21 sh_15 rfl (by decide) rfl rfl (zdg dz_D_noteAhead_0 15 rfl) ?_
    refine vf_aload_n C (f := 1) (zdg dz_D_noteAhead_0 16 rfl) 1 rfl rfl ?_
    refine vf_get C (kd := 0) fl_D_42 sh_5 rfl (by decide) rfl rfl (zdg dz_D_noteAhead_0 17 rfl) ?_
    refine vf_iast C sh_18 (by decide) rfl (mz := 61) rfl (zdg dz_D_noteAhead_0 18 rfl) ?_
    generalize st u3 18 (u3 15 3).toNat ((u3 5 6)) = u4
    refine vf_uw ?_
    refine vf_aload_n C (f := 0) (zdg dz_D_noteAhead_0 19 rfl) 0 rfl rfl ?_
    refine vf_dup C (zdg dz_D_noteAhead_0 20 rfl) (Nat.succ_ne_self 1) ?_
    refine vf_get C (kd := 0) fl_D_45 sh_15 rfl (by decide) rfl rfl (zdg dz_D_noteAhead_0 21 rfl) ?_
    refine vf_iconst C (z := 1) (zdg dz_D_noteAhead_0 22 rfl) (jz rfl) ?_
    refine vf_iadd C (zdg dz_D_noteAhead_0 23 rfl) ?_
    refine vf_put C (kd := 0) fl_D_45 fk_5_4 sh_15 rfl (by decide) rfl rfl (by decide) (zdg dz_D_noteAhead_1 0 rfl) ?_
    generalize st u4 15 4 (w32 ((u4 15 4) + 1)) = u5
    refine vf_uw ?_
    exact hr _ _ _ _ (fun h => absurd h (by decide)) (zdg dz_D_noteAhead_1 1 rfl)
def f_O_lateOne (v0 v1 : Int) (w : Wd) : Option (Int × Wd) :=
  if v1 ≤ 1 then
    some (0, w)
  else
    some (iand (iand v0 (ixor (ishr v0 10) (-1))) 1023, w)
theorem ct_O_lateOne (v0 v1 : Int) (w : Wd) : Ct y_O_lateOne prog_11_method_6_code 2 (some .int) 1 0 [(0, v0), (0, v1)] w (f_O_lateOne v0 v1 w) := by
  refine ct_of (by decide +kernel) (Or.inl ⟨rfl, rfl⟩) (Nat.le_of_ble_eq_true rfl) ?_
  intro X Qf ad C hn hR hr
  unfold f_O_lateOne
  show VF X Qf ad NF 0 0 w 0 [(0, (0, v0)), (1, (0, v1))] [] _
  refine vf_iload_n C (f := 1) (zdg dz_O_lateOne_0 0 rfl) 1 rfl rfl ?_
  refine vf_iconst C (z := 1) (zdg dz_O_lateOne_0 1 rfl) (jz rfl) ?_
  refine vf_icmp_le C (off := 18) (tgt := 20) (zdg dz_O_lateOne_0 2 rfl) (by decide) ?_ ?_
  · refine vf_iconst C (z := 0) (zdg dz_O_lateOne_0 13 rfl) (jz rfl) ?_
    exact hr _ _ _ _ (fun h => absurd h (by decide)) (zdg dz_O_lateOne_0 14 rfl)
  · refine vf_iload_n C (f := 0) (zdg dz_O_lateOne_0 3 rfl) 0 rfl rfl ?_
    refine vf_iload_n C (f := 0) (zdg dz_O_lateOne_0 4 rfl) 0 rfl rfl ?_
    refine vf_bipush C (z := 10) (zdg dz_O_lateOne_0 5 rfl) (by decide +kernel) (jz rfl) ?_
    refine vf_ishr C (zdg dz_O_lateOne_0 6 rfl) ?_
    refine vf_iconst C (z := (-1)) (zdg dz_O_lateOne_0 7 rfl) (jz rfl) ?_
    refine vf_ixor C (zdg dz_O_lateOne_0 8 rfl) ?_
    refine vf_iand C (zdg dz_O_lateOne_0 9 rfl) ?_
    refine vf_sipush C (z := 1023) (zdg dz_O_lateOne_0 10 rfl) (by decide +kernel) (jz rfl) ?_
    refine vf_iand C (zdg dz_O_lateOne_0 11 rfl) ?_
    refine vf_goto C (off := 4) (tgt := 21) (zdg dz_O_lateOne_0 12 rfl) (by decide) ?_
    exact hr _ _ _ _ (fun h => absurd h (by decide)) (zdg dz_O_lateOne_0 14 rfl)
def f_O_lateTwo (v0 v1 : Int) (w : Wd) : Option (Int × Wd) :=
  if v1 ≤ 2 then
    some (0, w)
  else
    some (iand (iand (ishr v0 10) (ixor v0 (-1))) 1023, w)
theorem ct_O_lateTwo (v0 v1 : Int) (w : Wd) : Ct y_O_lateTwo prog_11_method_7_code 2 (some .int) 1 0 [(0, v0), (0, v1)] w (f_O_lateTwo v0 v1 w) := by
  refine ct_of (by decide +kernel) (Or.inl ⟨rfl, rfl⟩) (Nat.le_of_ble_eq_true rfl) ?_
  intro X Qf ad C hn hR hr
  unfold f_O_lateTwo
  show VF X Qf ad NF 0 0 w 0 [(0, (0, v0)), (1, (0, v1))] [] _
  refine vf_iload_n C (f := 1) (zdg dz_O_lateTwo_0 0 rfl) 1 rfl rfl ?_
  refine vf_iconst C (z := 2) (zdg dz_O_lateTwo_0 1 rfl) (jz rfl) ?_
  refine vf_icmp_le C (off := 18) (tgt := 20) (zdg dz_O_lateTwo_0 2 rfl) (by decide) ?_ ?_
  · refine vf_iconst C (z := 0) (zdg dz_O_lateTwo_0 13 rfl) (jz rfl) ?_
    exact hr _ _ _ _ (fun h => absurd h (by decide)) (zdg dz_O_lateTwo_0 14 rfl)
  · refine vf_iload_n C (f := 0) (zdg dz_O_lateTwo_0 3 rfl) 0 rfl rfl ?_
    refine vf_bipush C (z := 10) (zdg dz_O_lateTwo_0 4 rfl) (by decide +kernel) (jz rfl) ?_
    refine vf_ishr C (zdg dz_O_lateTwo_0 5 rfl) ?_
    refine vf_iload_n C (f := 0) (zdg dz_O_lateTwo_0 6 rfl) 0 rfl rfl ?_
    refine vf_iconst C (z := (-1)) (zdg dz_O_lateTwo_0 7 rfl) (jz rfl) ?_
    refine vf_ixor C (zdg dz_O_lateTwo_0 8 rfl) ?_
    refine vf_iand C (zdg dz_O_lateTwo_0 9 rfl) ?_
    refine vf_sipush C (z := 1023) (zdg dz_O_lateTwo_0 10 rfl) (by decide +kernel) (jz rfl) ?_
    refine vf_iand C (zdg dz_O_lateTwo_0 11 rfl) ?_
    refine vf_goto C (off := 4) (tgt := 21) (zdg dz_O_lateTwo_0 12 rfl) (by decide) ?_
    exact hr _ _ _ _ (fun h => absurd h (by decide)) (zdg dz_O_lateTwo_0 14 rfl)
def f_O_out (v0 : Int) (w : Wd) : Option (Int × Wd) :=
  some (iand (ishr v0 20) 1023, w)
theorem ct_O_out (v0 : Int) (w : Wd) : Ct y_O_out prog_11_method_3_code 1 (some .int) 1 0 [(0, v0)] w (f_O_out v0 w) := by
  refine ct_of (by decide +kernel) (Or.inl ⟨rfl, rfl⟩) (Nat.le_of_ble_eq_true rfl) ?_
  intro X Qf ad C hn hR hr
  unfold f_O_out
  show VF X Qf ad NF 0 0 w 0 [(0, (0, v0))] [] _
  refine vf_iload_n C (f := 0) (zdg dz_O_out_0 0 rfl) 0 rfl rfl ?_
  refine vf_bipush C (z := 20) (zdg dz_O_out_0 1 rfl) (by decide +kernel) (jz rfl) ?_
  refine vf_ishr C (zdg dz_O_out_0 2 rfl) ?_
  refine vf_sipush C (z := 1023) (zdg dz_O_out_0 3 rfl) (by decide +kernel) (jz rfl) ?_
  refine vf_iand C (zdg dz_O_out_0 4 rfl) ?_
  exact hr _ _ _ _ (fun h => absurd h (by decide)) (zdg dz_O_out_0 5 rfl)
end
section
def f_O_after (v0 v1 v2 : Int) (w : Wd) : Option (Int × Wd) :=
  jcall (f_O_lateOne v0 v2 w) fun r1 u2 =>
  jlet (iand r1 (ixor v1 (-1))) fun x3 =>
  jcall (f_O_lateTwo v0 v2 u2) fun r4 u5 =>
  jlet (iand r4 (ixor v1 (-1))) fun x6 =>
  jcall (f_O_out v0 u5) fun r7 u8 =>
  jcall (f_O_guests v0 u8) fun r9 u10 =>
  jlet (ior r7 (iand r9 (ixor (ior (ior v1 x3) x6) (-1)))) fun x11 =>
  some (ior (ior (ior v1 x6) (ishl (ior x3 x6) 10)) (ishl x11 20), u10)
theorem ct_O_after (v0 v1 v2 : Int) (w : Wd) : Ct y_O_after prog_11_method_9_code 6 (some .int) 2 0 [(0, v0), (0, v1), (0, v2)] w (f_O_after v0 v1 v2 w) := by
  refine ct_of (by decide +kernel) (Or.inl ⟨rfl, rfl⟩) (Nat.le_of_ble_eq_true rfl) ?_
  intro X Qf ad C hn hR hr
  unfold f_O_after
  show VF X Qf ad NF 0 0 w 0 [(0, (0, v0)), (1, (0, v1)), (2, (0, v2))] [] _
  refine vf_iload_n C (f := 0) (zdg dz_O_after_0 0 rfl) 0 rfl rfl ?_
  refine vf_iload_n C (f := 2) (zdg dz_O_after_0 1 rfl) 2 rfl rfl ?_
  refine vf_callSi C cy_O_lateOne ml_O_19 (ct_O_lateOne _ _ _) (S := []) (jrm_of hR rfl) rfl rfl (Nat.le_of_ble_eq_true rfl) (zdg dz_O_after_0 2 rfl) (fun r1 u2 => ?_)
  refine vf_iload_n C (f := 1) (zdg dz_O_after_0 3 rfl) 1 rfl rfl ?_
  refine vf_iconst C (z := (-1)) (zdg dz_O_after_0 4 rfl) (jz rfl) ?_
  refine vf_ixor C (zdg dz_O_after_0 5 rfl) ?_
  refine vf_iand C (zdg dz_O_after_0 6 rfl) ?_
  generalize iand r1 (ixor v1 (-1)) = x3
  refine vf_ul ?_
  refine vf_istore_n C (f := 3) (L' := [(0, (0, v0)), (1, (0, v1)), (2, (0, v2))]) (zdg dz_O_after_0 7 rfl) [0, 1, 2] (jrI rfl rfl) hn (by decide) rfl ?_
  refine vf_iload_n C (f := 0) (zdg dz_O_after_0 8 rfl) 1 rfl rfl ?_
  refine vf_iload_n C (f := 2) (zdg dz_O_after_0 9 rfl) 3 rfl rfl ?_
  refine vf_callSi C cy_O_lateTwo ml_O_23 (ct_O_lateTwo _ _ _) (S := []) (jrm_of hR rfl) rfl rfl (Nat.le_of_ble_eq_true rfl) (zdg dz_O_after_0 10 rfl) (fun r4 u5 => ?_)
  refine vf_iload_n C (f := 1) (zdg dz_O_after_0 11 rfl) 2 rfl rfl ?_
  refine vf_iconst C (z := (-1)) (zdg dz_O_after_0 12 rfl) (jz rfl) ?_
  refine vf_ixor C (zdg dz_O_after_0 13 rfl) ?_
  refine vf_iand C (zdg dz_O_after_0 14 rfl) ?_
  generalize iand r4 (ixor v1 (-1)) = x6
  refine vf_ul ?_
  refine vf_istore C (i := 4) (L' := [(3, (0, x3)), (0, (0, v0)), (1, (0, v1))]) (zdg dz_O_after_0 15 rfl) [0, 1, 2] (jrI rfl rfl) hn (by decide) ?_
  refine vf_iload_n C (f := 0) (zdg dz_O_after_0 16 rfl) 2 rfl rfl ?_
  refine vf_callSi C cy_O_out ml_O_26 (ct_O_out _ _) (S := []) (jrm_of hR rfl) rfl rfl (Nat.le_of_ble_eq_true rfl) (zdg dz_O_after_0 17 rfl) (fun r7 u8 => ?_)
  refine vf_iload_n C (f := 0) (zdg dz_O_after_0 18 rfl) 2 rfl rfl ?_
  refine vf_callSi C cy_O_guests ml_O_9 (ct_O_guests _ _) (S := [(0, r7)]) (jrm_of hR rfl) rfl rfl (Nat.le_of_ble_eq_true rfl) (zdg dz_O_after_0 19 rfl) (fun r9 u10 => ?_)
  refine vf_iload_n C (f := 1) (zdg dz_O_after_0 20 rfl) 3 rfl rfl ?_
  refine vf_iload_n C (f := 3) (zdg dz_O_after_0 21 rfl) 1 rfl rfl ?_
  refine vf_ior C (zdg dz_O_after_0 22 rfl) ?_
  refine vf_iload C (zdg dz_O_after_0 23 rfl) 0 rfl ?_
  refine vf_ior C (zdg dz_O_after_1 0 rfl) ?_
  refine vf_iconst C (z := (-1)) (zdg dz_O_after_1 1 rfl) (jz rfl) ?_
  refine vf_ixor C (zdg dz_O_after_1 2 rfl) ?_
  refine vf_iand C (zdg dz_O_after_1 3 rfl) ?_
  refine vf_ior C (zdg dz_O_after_1 4 rfl) ?_
  generalize ior r7 (iand r9 (ixor (ior (ior v1 x3) x6) (-1))) = x11
  refine vf_ul ?_
  refine vf_istore C (i := 5) (L' := [(4, (0, x6)), (3, (0, x3)), (1, (0, v1))]) (zdg dz_O_after_1 5 rfl) [0, 1, 3] (jrI rfl rfl) hn (by decide) ?_
  refine vf_iload_n C (f := 1) (zdg dz_O_after_1 6 rfl) 3 rfl rfl ?_
  refine vf_iload C (zdg dz_O_after_1 7 rfl) 1 rfl ?_
  refine vf_ior C (zdg dz_O_after_1 8 rfl) ?_
  refine vf_iload_n C (f := 3) (zdg dz_O_after_1 9 rfl) 2 rfl rfl ?_
  refine vf_iload C (zdg dz_O_after_1 10 rfl) 1 rfl ?_
  refine vf_ior C (zdg dz_O_after_1 11 rfl) ?_
  refine vf_bipush C (z := 10) (zdg dz_O_after_1 12 rfl) (by decide +kernel) (jz rfl) ?_
  refine vf_ishl C (zdg dz_O_after_1 13 rfl) ?_
  refine vf_ior C (zdg dz_O_after_1 14 rfl) ?_
  refine vf_iload C (zdg dz_O_after_1 15 rfl) 0 rfl ?_
  refine vf_bipush C (z := 20) (zdg dz_O_after_1 16 rfl) (by decide +kernel) (jz rfl) ?_
  refine vf_ishl C (zdg dz_O_after_1 17 rfl) ?_
  refine vf_ior C (zdg dz_O_after_1 18 rfl) ?_
  exact hr _ _ _ _ (fun h => absurd h (by decide)) (zdg dz_O_after_1 19 rfl)
def f_P_bringer (v1 : Int) (w : Wd) : Option (Int × Wd) :=
  if v1 < 0 then
    some ((-1), w)
  else
    if (w 12 2) ≤ v1 then
      some ((-1), w)
    else
      jgd ((0 : Int) ≤ v1 ∧ v1 < 10) <|
      some (w 13 v1.toNat, w)
theorem ct_P_bringer (v1 : Int) (w : Wd) : Ct y_P_bringer prog_8_method_4_code 2 (some .int) 1 0 [(2, 13), (0, v1)] w (f_P_bringer v1 w) := by
  refine ct_of (by decide +kernel) (Or.inl ⟨rfl, rfl⟩) (Nat.le_of_ble_eq_true rfl) ?_
  intro X Qf ad C hn hR hr
  unfold f_P_bringer
  show VF X Qf ad NF 0 0 w 0 [(0, (2, 13)), (1, (0, v1))] [] _
  refine vf_iload_n C (f := 1) (zdg dz_P_bringer_0 0 rfl) 1 rfl rfl ?_
  refine vf_if_lt C (off := 20) (tgt := 21) (zdg dz_P_bringer_0 1 rfl) (by decide) ?_ ?_
  · refine vf_iconst C (z := (-1)) (zdg dz_P_bringer_0 11 rfl) (jz rfl) ?_
    exact hr _ _ _ _ (fun h => absurd h (by decide)) (zdg dz_P_bringer_0 12 rfl)
  · refine vf_iload_n C (f := 1) (zdg dz_P_bringer_0 2 rfl) 1 rfl rfl ?_
    refine vf_aload_n C (f := 0) (zdg dz_P_bringer_0 3 rfl) 0 rfl rfl ?_
    refine vf_get C (kd := 0) fl_P_18 sh_12 rfl (by decide) rfl rfl (zdg dz_P_bringer_0 4 rfl) ?_
    refine vf_icmp_ge C (off := 12) (tgt := 21) (zdg dz_P_bringer_0 5 rfl) (by decide) ?_ ?_
    · refine vf_iconst C (z := (-1)) (zdg dz_P_bringer_0 11 rfl) (jz rfl) ?_
      exact hr _ _ _ _ (fun h => absurd h (by decide)) (zdg dz_P_bringer_0 12 rfl)
    · refine vf_aload_n C (f := 0) (zdg dz_P_bringer_0 6 rfl) 0 rfl rfl ?_
      refine vf_getp C fl_P_9 sh_12 rfl (by decide) rfl (x := 14) rfl (zdg dz_P_bringer_0 7 rfl) ?_
      refine vf_iload_n C (f := 1) (zdg dz_P_bringer_0 8 rfl) 1 rfl rfl ?_
      refine vf_iald C sh_13 (by decide) rfl (mz := 10) rfl (zdg dz_P_bringer_0 9 rfl) ?_
      refine vf_goto C (off := 4) (tgt := 22) (zdg dz_P_bringer_0 10 rfl) (by decide) ?_
      exact hr _ _ _ _ (fun h => absurd h (by decide)) (zdg dz_P_bringer_0 12 rfl)
def f_P_whomOf (v1 : Int) (w : Wd) : Option (Int × Wd) :=
  if v1 < 0 then
    some ((-1), w)
  else
    if (w 12 2) ≤ v1 then
      some ((-1), w)
    else
      jgd ((0 : Int) ≤ v1 ∧ v1 < 10) <|
      some (w 14 v1.toNat, w)
theorem ct_P_whomOf (v1 : Int) (w : Wd) : Ct y_P_whomOf prog_8_method_5_code 2 (some .int) 1 0 [(2, 13), (0, v1)] w (f_P_whomOf v1 w) := by
  refine ct_of (by decide +kernel) (Or.inl ⟨rfl, rfl⟩) (Nat.le_of_ble_eq_true rfl) ?_
  intro X Qf ad C hn hR hr
  unfold f_P_whomOf
  show VF X Qf ad NF 0 0 w 0 [(0, (2, 13)), (1, (0, v1))] [] _
  refine vf_iload_n C (f := 1) (zdg dz_P_whomOf_0 0 rfl) 1 rfl rfl ?_
  refine vf_if_lt C (off := 20) (tgt := 21) (zdg dz_P_whomOf_0 1 rfl) (by decide) ?_ ?_
  · refine vf_iconst C (z := (-1)) (zdg dz_P_whomOf_0 11 rfl) (jz rfl) ?_
    exact hr _ _ _ _ (fun h => absurd h (by decide)) (zdg dz_P_whomOf_0 12 rfl)
  · refine vf_iload_n C (f := 1) (zdg dz_P_whomOf_0 2 rfl) 1 rfl rfl ?_
    refine vf_aload_n C (f := 0) (zdg dz_P_whomOf_0 3 rfl) 0 rfl rfl ?_
    refine vf_get C (kd := 0) fl_P_18 sh_12 rfl (by decide) rfl rfl (zdg dz_P_whomOf_0 4 rfl) ?_
    refine vf_icmp_ge C (off := 12) (tgt := 21) (zdg dz_P_whomOf_0 5 rfl) (by decide) ?_ ?_
    · refine vf_iconst C (z := (-1)) (zdg dz_P_whomOf_0 11 rfl) (jz rfl) ?_
      exact hr _ _ _ _ (fun h => absurd h (by decide)) (zdg dz_P_whomOf_0 12 rfl)
    · refine vf_aload_n C (f := 0) (zdg dz_P_whomOf_0 6 rfl) 0 rfl rfl ?_
      refine vf_getp C fl_P_15 sh_12 rfl (by decide) rfl (x := 15) rfl (zdg dz_P_whomOf_0 7 rfl) ?_
      refine vf_iload_n C (f := 1) (zdg dz_P_whomOf_0 8 rfl) 1 rfl rfl ?_
      refine vf_iald C sh_14 (by decide) rfl (mz := 10) rfl (zdg dz_P_whomOf_0 9 rfl) ?_
      refine vf_goto C (off := 4) (tgt := 22) (zdg dz_P_whomOf_0 10 rfl) (by decide) ?_
      exact hr _ _ _ _ (fun h => absurd h (by decide)) (zdg dz_P_whomOf_0 12 rfl)
def f_F_bring (v1 v2 : Int) (w : Wd) : Option (Int × Wd) :=
  jcall (f_F_isThere v1 w) fun r1 u2 =>
  if r1 = 0 then
    some (0, u2)
  else
    jcall (f_F_isThere v2 u2) fun r3 u4 =>
    if r3 = 0 then
      some (0, u4)
    else
      jgd ((0 : Int) ≤ v2 ∧ v2 < 10) <|
      jlw (st u4 8 v2.toNat v1) fun u5 =>
      jgd ((0 : Int) ≤ v2 ∧ v2 < 10) <|
      some (u5 6 v2.toNat, u5)
theorem ct_F_bring (v1 v2 : Int) (w : Wd) : Ct y_F_bring prog_3_method_11_code 3 (some .int) 2 0 [(2, 6), (0, v1), (0, v2)] w (f_F_bring v1 v2 w) := by
  refine ct_of (by decide +kernel) (Or.inl ⟨rfl, rfl⟩) (Nat.le_of_ble_eq_true rfl) ?_
  intro X Qf ad C hn hR hr
  unfold f_F_bring
  show VF X Qf ad NF 0 0 w 0 [(0, (2, 6)), (1, (0, v1)), (2, (0, v2))] [] _
  refine vf_aload_n C (f := 0) (zdg dz_F_bring_0 0 rfl) 0 rfl rfl ?_
  refine vf_iload_n C (f := 1) (zdg dz_F_bring_0 1 rfl) 1 rfl rfl ?_
  refine vf_callVz C cy_F_isThere ml_F_70 rfl (ct_F_isThere _ _) (S := []) sh_5 (by decide) rfl (jrm_of hR rfl) rfl rfl (Nat.le_of_ble_eq_true rfl) (zdg dz_F_bring_0 2 rfl) (fun r1 u2 => ?_)
  refine vf_if_eq C (off := 11) (tgt := 16) (zdg dz_F_bring_0 3 rfl) (by decide) ?_ ?_
  · refine vf_iconst C (z := 0) (zdg dz_F_bring_0 8 rfl) (jz rfl) ?_
    exact hr _ _ _ _ (fun h => absurd h (by decide)) (zdg dz_F_bring_0 9 rfl)
  · refine vf_aload_n C (f := 0) (zdg dz_F_bring_0 4 rfl) 0 rfl rfl ?_
    refine vf_iload_n C (f := 2) (zdg dz_F_bring_0 5 rfl) 2 rfl rfl ?_
    refine vf_callVz C cy_F_isThere ml_F_70 rfl (ct_F_isThere _ _) (S := []) sh_5 (by decide) rfl (jrm_of hR rfl) rfl rfl (Nat.le_of_ble_eq_true rfl) (zdg dz_F_bring_0 6 rfl) (fun r3 u4 => ?_)
    refine vf_if_ne C (off := 5) (tgt := 18) (zdg dz_F_bring_0 7 rfl) (by decide) ?_ ?_
    · refine vf_aload_n C (f := 0) (zdg dz_F_bring_0 10 rfl) 0 rfl rfl ?_
      refine vf_getp C fl_F_18 sh_5 rfl (by decide) rfl (x := 9) rfl (zdg dz_F_bring_0 11 rfl) ?_
      refine vf_iload_n C (f := 2) (zdg dz_F_bring_0 12 rfl) 2 rfl rfl ?_
      refine vf_iload_n C (f := 1) (zdg dz_F_bring_0 13 rfl) 1 rfl rfl ?_
      refine vf_iast C sh_8 (by decide) rfl (mz := 10) rfl (zdg dz_F_bring_0 14 rfl) ?_
      generalize st u4 8 v2.toNat v1 = u5
      refine vf_uw ?_
      refine vf_aload_n C (f := 0) (zdg dz_F_bring_0 15 rfl) 0 rfl rfl ?_
      refine vf_getp C fl_F_9 sh_5 rfl (by decide) rfl (x := 7) rfl (zdg dz_F_bring_0 16 rfl) ?_
      refine vf_iload_n C (f := 2) (zdg dz_F_bring_0 17 rfl) 2 rfl rfl ?_
      refine vf_iald C sh_6 (by decide) rfl (mz := 10) rfl (zdg dz_F_bring_0 18 rfl) ?_
      exact hr _ _ _ _ (fun h => absurd h (by decide)) (zdg dz_F_bring_0 19 rfl)
    · refine vf_iconst C (z := 0) (zdg dz_F_bring_0 8 rfl) (jz rfl) ?_
      exact hr _ _ _ _ (fun h => absurd h (by decide)) (zdg dz_F_bring_0 9 rfl)
def f_E_pass_15 : Nat → Int → Int → Wd → Option (Int × Wd)
  | 0, _, _, _ => none
  | n + 1, v1, v2, w =>
    if (w 12 2) ≤ v2 then
      jlw (st w 5 6 (w32 ((w 5 6) + v1))) fun u3 =>
      jcall (f_O_after (u3 5 4) (u3 12 3) (u3 5 7) u3) fun r4 u5 =>
      jlw (st u5 5 4 r4) fun u6 =>
      jlw (st u6 15 3 (w32 ((u6 15 3) + 1))) fun u7 =>
      jcall (f_F_guests u7) fun r8 u9 =>
      jcall (f_D_noteGuests r8 u9) fun r10 u11 =>
      jcall (f_S_forget u11) fun r12 u13 =>
      some (v1, u13)
    else
      jcall (f_P_bringer v2 w) fun r14 u15 =>
      jcall (f_P_whomOf v2 u15) fun r16 u17 =>
      jcall (f_F_bring r14 r16 u17) fun r18 u19 =>
      jlet (w32 (v1 + r18)) fun x20 =>
      jlet (w32 (v2 + 1)) fun x21 =>
      f_E_pass_15 n x20 x21 u19
theorem t_E_pass_15 {X : jX} {Qf : Int × Wd → State → Prop} {ad : Nat → Nat} (C : Cx X prog_1_method_53_code "EachBringsAnother") (hn : xn X = 3) (hR : xR X = rmD 3) (hr : Rt X Qf ad prog_1_method_53_code 0) : ∀ (n : Nat) (v1 v2 : Int) (w : Wd), VF X Qf ad NF 0 0 w 15 [(0, (2, 1)), (1, (0, v1)), (2, (0, v2))] [] (f_E_pass_15 n v1 v2 w) := by
  intro n
  induction n with
  | zero => intros; exact vf_no
  | succ n ih =>
    intro v1 v2 w
    rw [f_E_pass_15]
    refine vf_iload_n C (f := 2) (zdg dz_E_pass_0 9 rfl) 2 rfl rfl ?_
    refine vf_aload_n C (f := 0) (zdg dz_E_pass_0 10 rfl) 0 rfl rfl ?_
    refine vf_getp C fl_E_40 sh_0 rfl (by decide) rfl (x := 13) rfl (zdg dz_E_pass_0 11 rfl) ?_
    refine vf_get C (kd := 0) fl_E_199 sh_12 rfl (by decide) rfl rfl (zdg dz_E_pass_0 12 rfl) ?_
    refine vf_icmp_ge C (off := 35) (tgt := 58) (zdg dz_E_pass_0 13 rfl) (by decide) ?_ ?_
    · refine vf_aload_n C (f := 0) (zdg dz_E_pass_1 6 rfl) 0 rfl rfl ?_
      refine vf_getp C fl_E_26 sh_0 rfl (by decide) rfl (x := 6) rfl (zdg dz_E_pass_1 7 rfl) ?_
      refine vf_dup C (zdg dz_E_pass_1 8 rfl) (Nat.succ_ne_self 1) ?_
      refine vf_get C (kd := 0) fl_E_352 sh_5 rfl (by decide) rfl rfl (zdg dz_E_pass_1 9 rfl) ?_
      refine vf_iload_n C (f := 1) (zdg dz_E_pass_1 10 rfl) 1 rfl rfl ?_
      refine vf_iadd C (zdg dz_E_pass_1 11 rfl) ?_
      refine vf_put C (kd := 0) fl_E_352 fk_2_6 sh_5 rfl (by decide) rfl rfl (by decide) (zdg dz_E_pass_1 12 rfl) ?_
      generalize st w 5 6 (w32 ((w 5 6) + v1)) = u3
      refine vf_uw ?_
      refine vf_aload_n C (f := 0) (zdg dz_E_pass_1 13 rfl) 0 rfl rfl ?_
      refine vf_getp C fl_E_26 sh_0 rfl (by decide) rfl (x := 6) rfl (zdg dz_E_pass_1 14 rfl) ?_
      refine vf_aload_n C (f := 0) (zdg dz_E_pass_1 15 rfl) 0 rfl rfl ?_
      refine vf_getp C fl_E_26 sh_0 rfl (by decide) rfl (x := 6) rfl (zdg dz_E_pass_1 16 rfl) ?_
      refine vf_get C (kd := 0) fl_E_139 sh_5 rfl (by decide) rfl rfl (zdg dz_E_pass_1 17 rfl) ?_
      refine vf_aload_n C (f := 0) (zdg dz_E_pass_1 18 rfl) 0 rfl rfl ?_
      refine vf_getp C fl_E_40 sh_0 rfl (by decide) rfl (x := 13) rfl (zdg dz_E_pass_1 19 rfl) ?_
      refine vf_get C (kd := 0) fl_E_200 sh_12 rfl (by decide) rfl rfl (zdg dz_E_pass_1 20 rfl) ?_
      refine vf_aload_n C (f := 0) (zdg dz_E_pass_1 21 rfl) 0 rfl rfl ?_
      refine vf_getp C fl_E_26 sh_0 rfl (by decide) rfl (x := 6) rfl (zdg dz_E_pass_1 22 rfl) ?_
      refine vf_get C (kd := 0) fl_E_156 sh_5 rfl (by decide) rfl rfl (zdg dz_E_pass_1 23 rfl) ?_
      refine vf_callSi C cy_O_after ml_E_381 (ct_O_after _ _ _ _) (S := [(2, 6)]) (jrm_of hR rfl) rfl rfl (Nat.le_of_ble_eq_true rfl) (zdg dz_E_pass_2 0 rfl) (fun r4 u5 => ?_)
      refine vf_put C (kd := 0) fl_E_139 fk_2_4 sh_5 rfl (by decide) rfl rfl (by decide) (zdg dz_E_pass_2 1 rfl) ?_
      generalize st u5 5 4 r4 = u6
      refine vf_uw ?_
      refine vf_aload_n C (f := 0) (zdg dz_E_pass_2 2 rfl) 0 rfl rfl ?_
      refine vf_getp C fl_E_47 sh_0 rfl (by decide) rfl (x := 16) rfl (zdg dz_E_pass_2 3 rfl) ?_
      refine vf_dup C (zdg dz_E_pass_2 4 rfl) (Nat.succ_ne_self 1) ?_
      refine vf_get C (kd := 0) fl_E_192 sh_15 rfl (by decide) rfl rfl (zdg dz_E_pass_2 5 rfl) ?_
      refine vf_iconst C (z := 1) (zdg dz_E_pass_2 6 rfl) (jz rfl) ?_
      refine vf_iadd C (zdg dz_E_pass_2 7 rfl) ?_
      refine vf_put C (kd := 0) fl_E_192 fk_5_3 sh_15 rfl (by decide) rfl rfl (by decide) (zdg dz_E_pass_2 8 rfl) ?_
      generalize st u6 15 3 (w32 ((u6 15 3) + 1)) = u7
      refine vf_uw ?_
      refine vf_aload_n C (f := 0) (zdg dz_E_pass_2 9 rfl) 0 rfl rfl ?_
      refine vf_getp C fl_E_47 sh_0 rfl (by decide) rfl (x := 16) rfl (zdg dz_E_pass_2 10 rfl) ?_
      refine vf_aload_n C (f := 0) (zdg dz_E_pass_2 11 rfl) 0 rfl rfl ?_
      refine vf_getp C fl_E_26 sh_0 rfl (by decide) rfl (x := 6) rfl (zdg dz_E_pass_2 12 rfl) ?_
      refine vf_callVi C cy_F_guests ml_E_136 rfl (ct_F_guests _) (S := [(2, 16)]) sh_5 (by decide) rfl (jrm_of hR rfl) rfl rfl (Nat.le_of_ble_eq_true rfl) (zdg dz_E_pass_2 13 rfl) (fun r8 u9 => ?_)
      refine vf_callVv C cy_D_noteGuests ml_E_366 rfl (ct_D_noteGuests _ _) (S := []) sh_15 (by decide) rfl (jrm_of hR rfl) rfl rfl (Nat.le_of_ble_eq_true rfl) (zdg dz_E_pass_2 14 rfl) (fun r10 u11 => ?_)
      refine vf_aload_n C (f := 0) (zdg dz_E_pass_2 15 rfl) 0 rfl rfl ?_
      refine vf_getp C fl_E_68 sh_0 rfl (by decide) rfl (x := 29) rfl (zdg dz_E_pass_2 16 rfl) ?_
      refine vf_callVv C cy_S_forget ml_E_162 rfl (ct_S_forget _) (S := []) sh_28 (by decide) rfl (jrm_of hR rfl) rfl rfl (Nat.le_of_ble_eq_true rfl) (zdg dz_E_pass_2 17 rfl) (fun r12 u13 => ?_)
      refine vf_iload_n C (f := 1) (zdg dz_E_pass_2 18 rfl) 1 rfl rfl ?_
      exact hr _ _ _ _ (fun h => absurd h (by decide)) (zdg dz_E_pass_2 19 rfl)
    · refine vf_iload_n C (f := 1) (zdg dz_E_pass_0 14 rfl) 1 rfl rfl ?_
      refine vf_aload_n C (f := 0) (zdg dz_E_pass_0 15 rfl) 0 rfl rfl ?_
      refine vf_getp C fl_E_26 sh_0 rfl (by decide) rfl (x := 6) rfl (zdg dz_E_pass_0 16 rfl) ?_
      refine vf_aload_n C (f := 0) (zdg dz_E_pass_0 17 rfl) 0 rfl rfl ?_
      refine vf_getp C fl_E_40 sh_0 rfl (by decide) rfl (x := 13) rfl (zdg dz_E_pass_0 18 rfl) ?_
      refine vf_iload_n C (f := 2) (zdg dz_E_pass_0 19 rfl) 2 rfl rfl ?_
      refine vf_callVi C cy_P_bringer ml_E_372 rfl (ct_P_bringer _ _) (S := [(2, 6), (0, v1)]) sh_12 (by decide) rfl (jrm_of hR rfl) rfl rfl (Nat.le_of_ble_eq_true rfl) (zdg dz_E_pass_0 20 rfl) (fun r14 u15 => ?_)
      refine vf_aload_n C (f := 0) (zdg dz_E_pass_0 21 rfl) 0 rfl rfl ?_
      refine vf_getp C fl_E_40 sh_0 rfl (by decide) rfl (x := 13) rfl (zdg dz_E_pass_0 22 rfl) ?_
      refine vf_iload_n C (f := 2) (zdg dz_E_pass_0 23 rfl) 2 rfl rfl ?_
      refine vf_callVi C cy_P_whomOf ml_E_375 rfl (ct_P_whomOf _ _) (S := [(0, r14), (2, 6), (0, v1)]) sh_12 (by decide) rfl (jrm_of hR rfl) rfl rfl (Nat.le_of_ble_eq_true rfl) (zdg dz_E_pass_1 0 rfl) (fun r16 u17 => ?_)
      refine vf_callVi C cy_F_bring ml_E_378 rfl (ct_F_bring _ _ _) (S := [(0, v1)]) sh_5 (by decide) rfl (jrm_of hR rfl) rfl rfl (Nat.le_of_ble_eq_true rfl) (zdg dz_E_pass_1 1 rfl) (fun r18 u19 => ?_)
      refine vf_iadd C (zdg dz_E_pass_1 2 rfl) ?_
      generalize w32 (v1 + r18) = x20
      refine vf_ul ?_
      refine vf_istore_n C (f := 1) (L' := [(0, (2, 1)), (2, (0, v2))]) (zdg dz_E_pass_1 3 rfl) [0, 2] (jrI rfl rfl) hn (by decide) rfl ?_
      refine vf_iinc C (z := 1) (L' := [(1, (0, x20)), (0, (2, 1))]) (zdg dz_E_pass_1 4 rfl) 2 rfl [0, 1] (jrI rfl rfl) hn (by decide) ?_
      generalize w32 (v2 + 1) = x21
      refine vf_ul ?_
      refine vf_goto C (off := (-40)) (tgt := 15) (zdg dz_E_pass_1 5 rfl) (by decide) ?_
      exact vf_perm [2, 1, 0] rfl (ih _ _ _)
def f_E_pass (w : Wd) : Option (Int × Wd) :=
  jcall (f_D_noteAhead w) fun r1 u2 =>
  f_E_pass_15 FU 0 0 u2
theorem ct_E_pass (w : Wd) : Ct y_E_pass prog_1_method_53_code 3 (some .int) 3 0 [(2, 1)] w (f_E_pass w) := by
  refine ct_of (by decide +kernel) (Or.inl ⟨rfl, rfl⟩) (Nat.le_of_ble_eq_true rfl) ?_
  intro X Qf ad C hn hR hr
  unfold f_E_pass
  show VF X Qf ad NF 0 0 w 0 [(0, (2, 1))] [] _
  refine vf_aload_n C (f := 0) (zdg dz_E_pass_0 0 rfl) 0 rfl rfl ?_
  refine vf_getp C fl_E_47 sh_0 rfl (by decide) rfl (x := 16) rfl (zdg dz_E_pass_0 1 rfl) ?_
  refine vf_aload_n C (f := 0) (zdg dz_E_pass_0 2 rfl) 0 rfl rfl ?_
  refine vf_getp C fl_E_26 sh_0 rfl (by decide) rfl (x := 6) rfl (zdg dz_E_pass_0 3 rfl) ?_
  refine vf_callVv C cy_D_noteAhead ml_E_369 rfl (ct_D_noteAhead _) (S := []) sh_15 (by decide) rfl (jrm_of hR rfl) rfl rfl (Nat.le_of_ble_eq_true rfl) (zdg dz_E_pass_0 4 rfl) (fun r1 u2 => ?_)
  refine vf_iconst C (z := 0) (zdg dz_E_pass_0 5 rfl) (jz rfl) ?_
  refine vf_istore_n C (f := 1) (L' := [(0, (2, 1))]) (zdg dz_E_pass_0 6 rfl) [0] (jrI rfl rfl) hn (by decide) rfl ?_
  refine vf_iconst C (z := 0) (zdg dz_E_pass_0 7 rfl) (jz rfl) ?_
  refine vf_istore_n C (f := 2) (L' := [(1, (0, 0)), (0, (2, 1))]) (zdg dz_E_pass_0 8 rfl) [0, 1] (jrI rfl rfl) hn (by decide) rfl ?_
  exact vf_perm [2, 1, 0] rfl (t_E_pass_15 C hn hR hr FU _ _ _)
def f_O_stay (v0 v1 : Int) (w : Wd) : Option (Int × Wd) :=
  jcall (f_O_lateOne v0 v1 w) fun r1 u2 =>
  jcall (f_O_lateTwo v0 v1 u2) fun r3 u4 =>
  some (ior r1 r3, u4)
theorem ct_O_stay (v0 v1 : Int) (w : Wd) : Ct y_O_stay prog_11_method_8_code 2 (some .int) 2 0 [(0, v0), (0, v1)] w (f_O_stay v0 v1 w) := by
  refine ct_of (by decide +kernel) (Or.inl ⟨rfl, rfl⟩) (Nat.le_of_ble_eq_true rfl) ?_
  intro X Qf ad C hn hR hr
  unfold f_O_stay
  show VF X Qf ad NF 0 0 w 0 [(0, (0, v0)), (1, (0, v1))] [] _
  refine vf_iload_n C (f := 0) (zdg dz_O_stay_0 0 rfl) 0 rfl rfl ?_
  refine vf_iload_n C (f := 1) (zdg dz_O_stay_0 1 rfl) 1 rfl rfl ?_
  refine vf_callSi C cy_O_lateOne ml_O_19 (ct_O_lateOne _ _ _) (S := []) (jrm_of hR rfl) rfl rfl (Nat.le_of_ble_eq_true rfl) (zdg dz_O_stay_0 2 rfl) (fun r1 u2 => ?_)
  refine vf_iload_n C (f := 0) (zdg dz_O_stay_0 3 rfl) 0 rfl rfl ?_
  refine vf_iload_n C (f := 1) (zdg dz_O_stay_0 4 rfl) 1 rfl rfl ?_
  refine vf_callSi C cy_O_lateTwo ml_O_23 (ct_O_lateTwo _ _ _) (S := [(0, r1)]) (jrm_of hR rfl) rfl rfl (Nat.le_of_ble_eq_true rfl) (zdg dz_O_stay_0 5 rfl) (fun r3 u4 => ?_)
  refine vf_ior C (zdg dz_O_stay_0 6 rfl) ?_
  exact hr _ _ _ _ (fun h => absurd h (by decide)) (zdg dz_O_stay_0 7 rfl)
def f_JI_bitCount (v0 : Int) (w : Wd) : Option (Int × Wd) :=
  jlet (w32 (v0 - (iand (iush v0 1) 1431655765))) fun x1 =>
  jlet (w32 ((iand x1 858993459) + (iand (iush x1 2) 858993459))) fun x2 =>
  jlet (iand (w32 (x2 + (iush x2 4))) 252645135) fun x3 =>
  jlet (w32 (x3 + (iush x3 8))) fun x4 =>
  jlet (w32 (x4 + (iush x4 16))) fun x5 =>
  some (iand x5 63, w)
theorem ct_JI_bitCount (v0 : Int) (w : Wd) : Ct y_JI_bitCount prog_17_method_49_code 1 (some .int) 1 0 [(0, v0)] w (f_JI_bitCount v0 w) := by
  refine ct_of (by decide +kernel) (Or.inl ⟨rfl, rfl⟩) (Nat.le_of_ble_eq_true rfl) ?_
  intro X Qf ad C hn hR hr
  unfold f_JI_bitCount
  show VF X Qf ad NF 0 0 w 0 [(0, (0, v0))] [] _
  refine vf_iload_n C (f := 0) (zdg dz_JI_bitCount_0 0 rfl) 0 rfl rfl ?_
  refine vf_iload_n C (f := 0) (zdg dz_JI_bitCount_0 1 rfl) 0 rfl rfl ?_
  refine vf_iconst C (z := 1) (zdg dz_JI_bitCount_0 2 rfl) (jz rfl) ?_
  refine vf_iushr C (zdg dz_JI_bitCount_0 3 rfl) ?_
  refine vf_ldcw C (z := 1431655765) (i := 265) (zdg dz_JI_bitCount_0 4 rfl) kc_JI_265 (by decide +kernel) (jz rfl) ?_
  refine vf_iand C (zdg dz_JI_bitCount_0 5 rfl) ?_
  refine vf_isub C (zdg dz_JI_bitCount_0 6 rfl) ?_
  generalize w32 (v0 - (iand (iush v0 1) 1431655765)) = x1
  refine vf_ul ?_
  refine vf_istore_n C (f := 0) (L' := []) (zdg dz_JI_bitCount_0 7 rfl) [] (jrI rfl rfl) hn (by decide) rfl ?_
  refine vf_iload_n C (f := 0) (zdg dz_JI_bitCount_0 8 rfl) 0 rfl rfl ?_
  refine vf_ldcw C (z := 858993459) (i := 266) (zdg dz_JI_bitCount_0 9 rfl) kc_JI_266 (by decide +kernel) (jz rfl) ?_
  refine vf_iand C (zdg dz_JI_bitCount_0 10 rfl) ?_
  refine vf_iload_n C (f := 0) (zdg dz_JI_bitCount_0 11 rfl) 0 rfl rfl ?_
  refine vf_iconst C (z := 2) (zdg dz_JI_bitCount_0 12 rfl) (jz rfl) ?_
  refine vf_iushr C (zdg dz_JI_bitCount_0 13 rfl) ?_
  refine vf_ldcw C (z := 858993459) (i := 266) (zdg dz_JI_bitCount_0 14 rfl) kc_JI_266 (by decide +kernel) (jz rfl) ?_
  refine vf_iand C (zdg dz_JI_bitCount_0 15 rfl) ?_
  refine vf_iadd C (zdg dz_JI_bitCount_0 16 rfl) ?_
  generalize w32 ((iand x1 858993459) + (iand (iush x1 2) 858993459)) = x2
  refine vf_ul ?_
  refine vf_istore_n C (f := 0) (L' := []) (zdg dz_JI_bitCount_0 17 rfl) [] (jrI rfl rfl) hn (by decide) rfl ?_
  refine vf_iload_n C (f := 0) (zdg dz_JI_bitCount_0 18 rfl) 0 rfl rfl ?_
  refine vf_iload_n C (f := 0) (zdg dz_JI_bitCount_0 19 rfl) 0 rfl rfl ?_
  refine vf_iconst C (z := 4) (zdg dz_JI_bitCount_0 20 rfl) (jz rfl) ?_
  refine vf_iushr C (zdg dz_JI_bitCount_0 21 rfl) ?_
  refine vf_iadd C (zdg dz_JI_bitCount_0 22 rfl) ?_
  refine vf_ldcw C (z := 252645135) (i := 267) (zdg dz_JI_bitCount_0 23 rfl) kc_JI_267 (by decide +kernel) (jz rfl) ?_
  refine vf_iand C (zdg dz_JI_bitCount_1 0 rfl) ?_
  generalize iand (w32 (x2 + (iush x2 4))) 252645135 = x3
  refine vf_ul ?_
  refine vf_istore_n C (f := 0) (L' := []) (zdg dz_JI_bitCount_1 1 rfl) [] (jrI rfl rfl) hn (by decide) rfl ?_
  refine vf_iload_n C (f := 0) (zdg dz_JI_bitCount_1 2 rfl) 0 rfl rfl ?_
  refine vf_iload_n C (f := 0) (zdg dz_JI_bitCount_1 3 rfl) 0 rfl rfl ?_
  refine vf_bipush C (z := 8) (zdg dz_JI_bitCount_1 4 rfl) (by decide +kernel) (jz rfl) ?_
  refine vf_iushr C (zdg dz_JI_bitCount_1 5 rfl) ?_
  refine vf_iadd C (zdg dz_JI_bitCount_1 6 rfl) ?_
  generalize w32 (x3 + (iush x3 8)) = x4
  refine vf_ul ?_
  refine vf_istore_n C (f := 0) (L' := []) (zdg dz_JI_bitCount_1 7 rfl) [] (jrI rfl rfl) hn (by decide) rfl ?_
  refine vf_iload_n C (f := 0) (zdg dz_JI_bitCount_1 8 rfl) 0 rfl rfl ?_
  refine vf_iload_n C (f := 0) (zdg dz_JI_bitCount_1 9 rfl) 0 rfl rfl ?_
  refine vf_bipush C (z := 16) (zdg dz_JI_bitCount_1 10 rfl) (by decide +kernel) (jz rfl) ?_
  refine vf_iushr C (zdg dz_JI_bitCount_1 11 rfl) ?_
  refine vf_iadd C (zdg dz_JI_bitCount_1 12 rfl) ?_
  generalize w32 (x4 + (iush x4 16)) = x5
  refine vf_ul ?_
  refine vf_istore_n C (f := 0) (L' := []) (zdg dz_JI_bitCount_1 13 rfl) [] (jrI rfl rfl) hn (by decide) rfl ?_
  refine vf_iload_n C (f := 0) (zdg dz_JI_bitCount_1 14 rfl) 0 rfl rfl ?_
  refine vf_bipush C (z := 63) (zdg dz_JI_bitCount_1 15 rfl) (by decide +kernel) (jz rfl) ?_
  refine vf_iand C (zdg dz_JI_bitCount_1 16 rfl) ?_
  exact hr _ _ _ _ (fun h => absurd h (by decide)) (zdg dz_JI_bitCount_1 17 rfl)
def f_F_guestsAfter (v1 : Int) (w : Wd) : Option (Int × Wd) :=
  jcall (f_O_stay (w 5 4) (w 5 7) w) fun r1 u2 =>
  jcall (f_JI_bitCount (ior r1 v1) u2) fun r3 u4 =>
  some (r3, u4)
theorem ct_F_guestsAfter (v1 : Int) (w : Wd) : Ct y_F_guestsAfter prog_3_method_7_code 2 (some .int) 3 0 [(2, 6), (0, v1)] w (f_F_guestsAfter v1 w) := by
  refine ct_of (by decide +kernel) (Or.inl ⟨rfl, rfl⟩) (Nat.le_of_ble_eq_true rfl) ?_
  intro X Qf ad C hn hR hr
  unfold f_F_guestsAfter
  show VF X Qf ad NF 0 0 w 0 [(0, (2, 6)), (1, (0, v1))] [] _
  refine vf_aload_n C (f := 0) (zdg dz_F_guestsAfter_0 0 rfl) 0 rfl rfl ?_
  refine vf_get C (kd := 0) fl_F_31 sh_5 rfl (by decide) rfl rfl (zdg dz_F_guestsAfter_0 1 rfl) ?_
  refine vf_aload_n C (f := 0) (zdg dz_F_guestsAfter_0 2 rfl) 0 rfl rfl ?_
  refine vf_get C (kd := 0) fl_F_21 sh_5 rfl (by decide) rfl rfl (zdg dz_F_guestsAfter_0 3 rfl) ?_
  refine vf_callSi C cy_O_stay ml_F_53 (ct_O_stay _ _ _) (S := []) (jrm_of hR rfl) rfl rfl (Nat.le_of_ble_eq_true rfl) (zdg dz_F_guestsAfter_0 4 rfl) (fun r1 u2 => ?_)
  refine vf_iload_n C (f := 1) (zdg dz_F_guestsAfter_0 5 rfl) 1 rfl rfl ?_
  refine vf_ior C (zdg dz_F_guestsAfter_0 6 rfl) ?_
  refine vf_callSi C cy_JI_bitCount ml_F_57 (ct_JI_bitCount _ _) (S := []) (jrm_of hR rfl) rfl rfl (Nat.le_of_ble_eq_true rfl) (zdg dz_F_guestsAfter_0 7 rfl) (fun r3 u4 => ?_)
  exact hr _ _ _ _ (fun h => absurd h (by decide)) (zdg dz_F_guestsAfter_0 8 rfl)
def f_E_week_100 (w : Wd) : Option (Int × Wd) :=
  jcall (f_E_pass w) fun r7 u8 =>
  some (r7, u8)
theorem t_E_week_100 {X : jX} {Qf : Int × Wd → State → Prop} {ad : Nat → Nat} (C : Cx X prog_1_method_12_code "EachBringsAnother") (hn : xn X = 3) (hR : xR X = rmD 5) (hr : Rt X Qf ad prog_1_method_12_code 0) (w : Wd) : VF X Qf ad NF 0 0 w 100 [(0, (2, 1))] [] (f_E_week_100 w) := by
  unfold f_E_week_100
  refine vf_aload_n C (f := 0) (zdg dz_E_week_2 0 rfl) 0 rfl rfl ?_
  refine vf_callVi C cy_E_pass ml_E_206 rfl (ct_E_pass _) (S := []) sh_0 (by decide) rfl (jrm_of hR rfl) rfl rfl (Nat.le_of_ble_eq_true rfl) (zdg dz_E_week_2 1 rfl) (fun r7 u8 => ?_)
  exact hr _ _ _ _ (fun h => absurd h (by decide)) (zdg dz_E_week_2 2 rfl)
def f_E_week (w : Wd) : Option (Int × Wd) :=
  jcall (f_P_read w) fun r1 u2 =>
  jcall (f_T_clear u2) fun r3 u4 =>
  if (0 : Int) ≤ r1 then
    if (u4 15 3) < 60 then
      jcall (f_P_firstWrongPair u4) fun r5 u6 =>
      if r5 < 0 then
        if (u6 12 2) ≤ 0 then
          f_E_week_100 u6
        else
          jcall (f_F_guestsAfter (u6 12 3) u6) fun r9 u10 =>
          if r9 ≤ (u10 5 8) then
            f_E_week_100 u10
          else
            some ((-200), u10)
      else
        some (w32 ((-100) - r5), u6)
    else
      some ((-300), u4)
  else
    some (r1, u4)
theorem ct_E_week (w : Wd) : Ct y_E_week prog_1_method_12_code 3 (some .int) 5 0 [(2, 1)] w (f_E_week w) := by
  refine ct_of (by decide +kernel) (Or.inl ⟨rfl, rfl⟩) (Nat.le_of_ble_eq_true rfl) ?_
  intro X Qf ad C hn hR hr
  unfold f_E_week
  show VF X Qf ad NF 0 0 w 0 [(0, (2, 1))] [] _
  refine vf_aload_n C (f := 0) (zdg dz_E_week_0 0 rfl) 0 rfl rfl ?_
  refine vf_getp C fl_E_40 sh_0 rfl (by decide) rfl (x := 13) rfl (zdg dz_E_week_0 1 rfl) ?_
  refine vf_aload_n C (f := 0) (zdg dz_E_week_0 2 rfl) 0 rfl rfl ?_
  refine vf_getp C fl_E_12 sh_0 rfl (by decide) rfl (x := 2) rfl (zdg dz_E_week_0 3 rfl) ?_
  refine vf_callVi C cy_P_read ml_E_191 rfl (ct_P_read _) (S := []) sh_12 (by decide) rfl (jrm_of hR rfl) rfl rfl (Nat.le_of_ble_eq_true rfl) (zdg dz_E_week_0 4 rfl) (fun r1 u2 => ?_)
  refine vf_istore_n C (f := 1) (L' := [(0, (2, 1))]) (zdg dz_E_week_0 5 rfl) [0] (jrI rfl rfl) hn (by decide) rfl ?_
  refine vf_aload_n C (f := 0) (zdg dz_E_week_0 6 rfl) 1 rfl rfl ?_
  refine vf_getp C fl_E_12 sh_0 rfl (by decide) rfl (x := 2) rfl (zdg dz_E_week_0 7 rfl) ?_
  refine vf_callVv C cy_T_clear ml_E_95 rfl (ct_T_clear _) (S := []) sh_1 (by decide) rfl (jrm_of hR rfl) rfl rfl (Nat.le_of_ble_eq_true rfl) (zdg dz_E_week_0 8 rfl) (fun r3 u4 => ?_)
  refine vf_iload_n C (f := 1) (zdg dz_E_week_0 9 rfl) 0 rfl rfl ?_
  refine vf_if_ge C (off := 5) (tgt := 25) (zdg dz_E_week_0 10 rfl) (by decide) ?_ ?_
  · refine vf_aload_n C (f := 0) (zdg dz_E_week_0 13 rfl) 1 rfl rfl ?_
    refine vf_getp C fl_E_47 sh_0 rfl (by decide) rfl (x := 16) rfl (zdg dz_E_week_0 14 rfl) ?_
    refine vf_get C (kd := 0) fl_E_192 sh_15 rfl (by decide) rfl rfl (zdg dz_E_week_0 15 rfl) ?_
    refine vf_bipush C (z := 60) (zdg dz_E_week_0 16 rfl) (by decide +kernel) (jz rfl) ?_
    refine vf_icmp_lt C (off := 7) (tgt := 41) (zdg dz_E_week_0 17 rfl) (by decide) ?_ ?_
    · refine vf_aload_n C (f := 0) (zdg dz_E_week_0 20 rfl) 1 rfl rfl ?_
      refine vf_getp C fl_E_40 sh_0 rfl (by decide) rfl (x := 13) rfl (zdg dz_E_week_0 21 rfl) ?_
      refine vf_aload_n C (f := 0) (zdg dz_E_week_0 22 rfl) 1 rfl rfl ?_
      refine vf_getp C fl_E_26 sh_0 rfl (by decide) rfl (x := 6) rfl (zdg dz_E_week_0 23 rfl) ?_
      refine vf_callVi C cy_P_firstWrongPair ml_E_195 rfl (ct_P_firstWrongPair _) (S := []) sh_12 (by decide) rfl (jrm_of hR rfl) rfl rfl (Nat.le_of_ble_eq_true rfl) (zdg dz_E_week_1 0 rfl) (fun r5 u6 => ?_)
      refine vf_istore_n C (f := 2) (L' := [(0, (2, 1))]) (zdg dz_E_week_1 1 rfl) [1] (jrI rfl rfl) hn (by decide) rfl ?_
      refine vf_iload_n C (f := 2) (zdg dz_E_week_1 2 rfl) 0 rfl rfl ?_
      refine vf_if_lt C (off := 8) (tgt := 62) (zdg dz_E_week_1 3 rfl) (by decide) ?_ ?_
      · refine vf_aload_n C (f := 0) (zdg dz_E_week_1 8 rfl) 1 rfl rfl ?_
        refine vf_getp C fl_E_40 sh_0 rfl (by decide) rfl (x := 13) rfl (zdg dz_E_week_1 9 rfl) ?_
        refine vf_get C (kd := 0) fl_E_199 sh_12 rfl (by decide) rfl rfl (zdg dz_E_week_1 10 rfl) ?_
        refine vf_if_le C (off := 31) (tgt := 100) (zdg dz_E_week_1 11 rfl) (by decide) ?_ ?_
        · exact vf_perm [1] rfl (t_E_week_100 C hn hR hr _)
        · refine vf_aload_n C (f := 0) (zdg dz_E_week_1 12 rfl) 1 rfl rfl ?_
          refine vf_getp C fl_E_26 sh_0 rfl (by decide) rfl (x := 6) rfl (zdg dz_E_week_1 13 rfl) ?_
          refine vf_aload_n C (f := 0) (zdg dz_E_week_1 14 rfl) 1 rfl rfl ?_
          refine vf_getp C fl_E_40 sh_0 rfl (by decide) rfl (x := 13) rfl (zdg dz_E_week_1 15 rfl) ?_
          refine vf_get C (kd := 0) fl_E_200 sh_12 rfl (by decide) rfl rfl (zdg dz_E_week_1 16 rfl) ?_
          refine vf_callVi C cy_F_guestsAfter ml_E_203 rfl (ct_F_guestsAfter _ _) (S := []) sh_5 (by decide) rfl (jrm_of hR rfl) rfl rfl (Nat.le_of_ble_eq_true rfl) (zdg dz_E_week_1 17 rfl) (fun r9 u10 => ?_)
          refine vf_aload_n C (f := 0) (zdg dz_E_week_1 18 rfl) 1 rfl rfl ?_
          refine vf_getp C fl_E_26 sh_0 rfl (by decide) rfl (x := 6) rfl (zdg dz_E_week_1 19 rfl) ?_
          refine vf_get C (kd := 0) fl_E_159 sh_5 rfl (by decide) rfl rfl (zdg dz_E_week_1 20 rfl) ?_
          refine vf_icmp_le C (off := 7) (tgt := 100) (zdg dz_E_week_1 21 rfl) (by decide) ?_ ?_
          · exact vf_perm [1] rfl (t_E_week_100 C hn hR hr _)
          · refine vf_sipush C (z := (-200)) (zdg dz_E_week_1 22 rfl) (by decide +kernel) (jz rfl) ?_
            exact hr _ _ _ _ (fun h => absurd h (by decide)) (zdg dz_E_week_1 23 rfl)
      · refine vf_bipush C (z := (-100)) (zdg dz_E_week_1 4 rfl) (by decide +kernel) (jz rfl) ?_
        refine vf_iload_n C (f := 2) (zdg dz_E_week_1 5 rfl) 0 rfl rfl ?_
        refine vf_isub C (zdg dz_E_week_1 6 rfl) ?_
        exact hr _ _ _ _ (fun h => absurd h (by decide)) (zdg dz_E_week_1 7 rfl)
    · refine vf_sipush C (z := (-300)) (zdg dz_E_week_0 18 rfl) (by decide +kernel) (jz rfl) ?_
      exact hr _ _ _ _ (fun h => absurd h (by decide)) (zdg dz_E_week_0 19 rfl)
  · refine vf_iload_n C (f := 1) (zdg dz_E_week_0 11 rfl) 0 rfl rfl ?_
    exact hr _ _ _ _ (fun h => absurd h (by decide)) (zdg dz_E_week_0 12 rfl)
def f_E_isWeek (v0 : Int) (w : Wd) : Option (Int × Wd) :=
  if v0 < 0 then
    some (0, w)
  else
    if (60 : Int) < v0 then
      some (0, w)
    else
      some (1, w)
theorem ct_E_isWeek (v0 : Int) (w : Wd) : Ct y_E_isWeek prog_1_method_47_code 1 (some .boolean) 1 4 [(0, v0)] w (f_E_isWeek v0 w) := by
  refine ct_of (by decide +kernel) (Or.inr (Or.inr (Or.inl ⟨rfl, rfl⟩))) (Nat.le_of_ble_eq_true rfl) ?_
  intro X Qf ad C hn hR hr
  unfold f_E_isWeek
  show VF X Qf ad NF 0 0 w 0 [(0, (0, v0))] [] _
  refine vf_iload_n C (f := 0) (zdg dz_E_isWeek_0 0 rfl) 0 rfl rfl ?_
  refine vf_if_lt C (off := 13) (tgt := 14) (zdg dz_E_isWeek_0 1 rfl) (by decide) ?_ ?_
  · refine vf_iconst C (z := 0) (zdg dz_E_isWeek_0 7 rfl) (jz rfl) ?_
    exact hr _ _ _ _ (fun _ => Or.inl rfl) (zdg dz_E_isWeek_0 8 rfl)
  · refine vf_iload_n C (f := 0) (zdg dz_E_isWeek_0 2 rfl) 0 rfl rfl ?_
    refine vf_bipush C (z := 60) (zdg dz_E_isWeek_0 3 rfl) (by decide +kernel) (jz rfl) ?_
    refine vf_icmp_gt C (off := 7) (tgt := 14) (zdg dz_E_isWeek_0 4 rfl) (by decide) ?_ ?_
    · refine vf_iconst C (z := 0) (zdg dz_E_isWeek_0 7 rfl) (jz rfl) ?_
      exact hr _ _ _ _ (fun _ => Or.inl rfl) (zdg dz_E_isWeek_0 8 rfl)
    · refine vf_iconst C (z := 1) (zdg dz_E_isWeek_0 5 rfl) (jz rfl) ?_
      refine vf_goto C (off := 4) (tgt := 15) (zdg dz_E_isWeek_0 6 rfl) (by decide) ?_
      exact hr _ _ _ _ (fun _ => Or.inr rfl) (zdg dz_E_isWeek_0 8 rfl)
def f_N_clear (w : Wd) : Option (Int × Wd) :=
  jlw (st w 3 1 0) fun u1 =>
  some (0, u1)
theorem ct_N_clear (w : Wd) : Ct y_N_clear prog_7_method_2_code 1 none 1 9 [(2, 4)] w (f_N_clear w) := by
  refine ct_of (by decide +kernel) (Or.inr (Or.inr (Or.inr ⟨rfl, rfl⟩))) (Nat.le_of_ble_eq_true rfl) ?_
  intro X Qf ad C hn hR hr
  unfold f_N_clear
  show VF X Qf ad NF 0 0 w 0 [(0, (2, 4))] [] _
  refine vf_aload_n C (f := 0) (zdg dz_N_clear_0 0 rfl) 0 rfl rfl ?_
  refine vf_iconst C (z := 0) (zdg dz_N_clear_0 1 rfl) (jz rfl) ?_
  refine vf_put C (kd := 0) fl_N_15 fk_1_1 sh_3 rfl (by decide) rfl rfl (by decide) (zdg dz_N_clear_0 2 rfl) ?_
  generalize st w 3 1 0 = u1
  refine vf_uw ?_
  exact hr _ _ _ _ (fun h => absurd h (by decide)) (zdg dz_N_clear_0 3 rfl)
def f_N_put (v1 : Int) (w : Wd) : Option (Int × Wd) :=
  if (20 : Int) ≤ (w 3 1) then
    some (0, w)
  else
    jgd ((0 : Int) ≤ (w 3 1) ∧ (w 3 1) < 20) <|
    jlw (st w 4 (w 3 1).toNat v1) fun u1 =>
    jlw (st u1 3 1 (w32 ((u1 3 1) + 1))) fun u2 =>
    some (0, u2)
theorem ct_N_put (v1 : Int) (w : Wd) : Ct y_N_put prog_7_method_3_code 2 none 1 9 [(2, 4), (0, v1)] w (f_N_put v1 w) := by
  refine ct_of (by decide +kernel) (Or.inr (Or.inr (Or.inr ⟨rfl, rfl⟩))) (Nat.le_of_ble_eq_true rfl) ?_
  intro X Qf ad C hn hR hr
  unfold f_N_put
  show VF X Qf ad NF 0 0 w 0 [(0, (2, 4)), (1, (0, v1))] [] _
  refine vf_aload_n C (f := 0) (zdg dz_N_put_0 0 rfl) 0 rfl rfl ?_
  refine vf_get C (kd := 0) fl_N_15 sh_3 rfl (by decide) rfl rfl (zdg dz_N_put_0 1 rfl) ?_
  refine vf_aload_n C (f := 0) (zdg dz_N_put_0 2 rfl) 0 rfl rfl ?_
  refine vf_getp C fl_N_9 sh_3 rfl (by decide) rfl (x := 5) rfl (zdg dz_N_put_0 3 rfl) ?_
  refine vf_alen C sh_4 (by decide) (by decide) rfl (x := 20) rfl (jz rfl) (zdg dz_N_put_0 4 rfl) ?_
  refine vf_icmp_ge C (off := 23) (tgt := 32) (zdg dz_N_put_0 5 rfl) (by decide) ?_ ?_
  · exact hr _ _ _ _ (fun h => absurd h (by decide)) (zdg dz_N_put_0 18 rfl)
  · refine vf_aload_n C (f := 0) (zdg dz_N_put_0 6 rfl) 0 rfl rfl ?_
    refine vf_getp C fl_N_9 sh_3 rfl (by decide) rfl (x := 5) rfl (zdg dz_N_put_0 7 rfl) ?_
    refine vf_aload_n C (f := 0) (zdg dz_N_put_0 8 rfl) 0 rfl rfl ?_
    refine vf_get C (kd := 0) fl_N_15 sh_3 rfl (by decide) rfl rfl (zdg dz_N_put_0 9 rfl) ?_
    refine vf_iload_n C (f := 1) (zdg dz_N_put_0 10 rfl) 1 rfl rfl ?_
    refine vf_iast C sh_4 (by decide) rfl (mz := 20) rfl (zdg dz_N_put_0 11 rfl) ?_
    generalize st w 4 (w 3 1).toNat v1 = u1
    refine vf_uw ?_
    refine vf_aload_n C (f := 0) (zdg dz_N_put_0 12 rfl) 0 rfl rfl ?_
    refine vf_dup C (zdg dz_N_put_0 13 rfl) (Nat.succ_ne_self 1) ?_
    refine vf_get C (kd := 0) fl_N_15 sh_3 rfl (by decide) rfl rfl (zdg dz_N_put_0 14 rfl) ?_
    refine vf_iconst C (z := 1) (zdg dz_N_put_0 15 rfl) (jz rfl) ?_
    refine vf_iadd C (zdg dz_N_put_0 16 rfl) ?_
    refine vf_put C (kd := 0) fl_N_15 fk_1_1 sh_3 rfl (by decide) rfl rfl (by decide) (zdg dz_N_put_0 17 rfl) ?_
    generalize st u1 3 1 (w32 ((u1 3 1) + 1)) = u2
    refine vf_uw ?_
    exact hr _ _ _ _ (fun h => absurd h (by decide)) (zdg dz_N_put_0 18 rfl)
def f_N_tell1 (v1 : Int) (w : Wd) : Option (Int × Wd) :=
  jcall (f_N_clear w) fun r1 u2 =>
  jcall (f_N_put v1 u2) fun r3 u4 =>
  some (0, u4)
theorem ct_N_tell1 (v1 : Int) (w : Wd) : Ct y_N_tell1 prog_7_method_5_code 2 none 2 9 [(2, 4), (0, v1)] w (f_N_tell1 v1 w) := by
  refine ct_of (by decide +kernel) (Or.inr (Or.inr (Or.inr ⟨rfl, rfl⟩))) (Nat.le_of_ble_eq_true rfl) ?_
  intro X Qf ad C hn hR hr
  unfold f_N_tell1
  show VF X Qf ad NF 0 0 w 0 [(0, (2, 4)), (1, (0, v1))] [] _
  refine vf_aload_n C (f := 0) (zdg dz_N_tell1_0 0 rfl) 0 rfl rfl ?_
  refine vf_callVv C cy_N_clear ml_N_23 rfl (ct_N_clear _) (S := []) sh_3 (by decide) rfl (jrm_of hR rfl) rfl rfl (Nat.le_of_ble_eq_true rfl) (zdg dz_N_tell1_0 1 rfl) (fun r1 u2 => ?_)
  refine vf_aload_n C (f := 0) (zdg dz_N_tell1_0 2 rfl) 0 rfl rfl ?_
  refine vf_iload_n C (f := 1) (zdg dz_N_tell1_0 3 rfl) 1 rfl rfl ?_
  refine vf_callVv C cy_N_put ml_N_19 rfl (ct_N_put _ _) (S := []) sh_3 (by decide) rfl (jrm_of hR rfl) rfl rfl (Nat.le_of_ble_eq_true rfl) (zdg dz_N_tell1_0 4 rfl) (fun r3 u4 => ?_)
  exact hr _ _ _ _ (fun h => absurd h (by decide)) (zdg dz_N_tell1_0 5 rfl)
def f_N_tell2 (v1 v2 : Int) (w : Wd) : Option (Int × Wd) :=
  jcall (f_N_tell1 v1 w) fun r1 u2 =>
  jcall (f_N_put v2 u2) fun r3 u4 =>
  some (0, u4)
theorem ct_N_tell2 (v1 v2 : Int) (w : Wd) : Ct y_N_tell2 prog_7_method_6_code 3 none 3 9 [(2, 4), (0, v1), (0, v2)] w (f_N_tell2 v1 v2 w) := by
  refine ct_of (by decide +kernel) (Or.inr (Or.inr (Or.inr ⟨rfl, rfl⟩))) (Nat.le_of_ble_eq_true rfl) ?_
  intro X Qf ad C hn hR hr
  unfold f_N_tell2
  show VF X Qf ad NF 0 0 w 0 [(0, (2, 4)), (1, (0, v1)), (2, (0, v2))] [] _
  refine vf_aload_n C (f := 0) (zdg dz_N_tell2_0 0 rfl) 0 rfl rfl ?_
  refine vf_iload_n C (f := 1) (zdg dz_N_tell2_0 1 rfl) 1 rfl rfl ?_
  refine vf_callVv C cy_N_tell1 ml_N_26 rfl (ct_N_tell1 _ _) (S := []) sh_3 (by decide) rfl (jrm_of hR rfl) rfl rfl (Nat.le_of_ble_eq_true rfl) (zdg dz_N_tell2_0 2 rfl) (fun r1 u2 => ?_)
  refine vf_aload_n C (f := 0) (zdg dz_N_tell2_0 3 rfl) 0 rfl rfl ?_
  refine vf_iload_n C (f := 2) (zdg dz_N_tell2_0 4 rfl) 2 rfl rfl ?_
  refine vf_callVv C cy_N_put ml_N_19 rfl (ct_N_put _ _) (S := []) sh_3 (by decide) rfl (jrm_of hR rfl) rfl rfl (Nat.le_of_ble_eq_true rfl) (zdg dz_N_tell2_0 5 rfl) (fun r3 u4 => ?_)
  exact hr _ _ _ _ (fun h => absurd h (by decide)) (zdg dz_N_tell2_0 6 rfl)
def f_W_thing (v0 v2 v3 v4 : Int) (w : Wd) : Option (Int × Wd) :=
  jcall (f_F_knownBy (ishl 1 v3) w) fun r1 u2 =>
  if v0 < 103 ∨ 115 < v0 then
    some (v4, u2)
  else
  if v0 = 103 then
    jcall (f_F_guests u2) fun r3 u4 =>
    jcall (f_JI_bitCount (iand r1 r3) u4) fun r5 u6 =>
    some (r5, u6)
  else
  if v0 = 104 then
    some (v4, u2)
  else
  if v0 = 105 then
    some (v3, u2)
  else
  if v0 = 106 then
    some (v4, u2)
  else
  if v0 = 107 then
    jcall (f_JI_bitCount r1 u2) fun r7 u8 =>
    some (r7, u8)
  else
  if v0 = 108 then
    jcall (f_O_late (u2 5 4) v2 u2) fun r9 u10 =>
    some (r9, u10)
  else
  if v0 = 109 then
    some (v4, u2)
  else
  if v0 = 110 then
    some (v2, u2)
  else
  if v0 = 111 then
    some (v4, u2)
  else
  if v0 = 112 then
    jcall (f_F_pricesOf (ishl 1 v3) u2) fun r11 u12 =>
    some (r11, u12)
  else
  if v0 = 113 then
    some (v4, u2)
  else
  if v0 = 114 then
    some (v4, u2)
  else
  if v0 = 115 then
    jcall (f_F_strangers u2) fun r13 u14 =>
    jcall (f_JI_bitCount (iand r1 r13) u14) fun r15 u16 =>
    some (r15, u16)
  else
  none
theorem ct_W_thing (v0 v2 v3 v4 : Int) (w : Wd) : Ct y_W_thing prog_12_method_14_code 6 (some .int) 3 0 [(0, v0), (2, 6), (0, v2), (0, v3), (0, v4)] w (f_W_thing v0 v2 v3 v4 w) := by
  refine ct_of (by decide +kernel) (Or.inl ⟨rfl, rfl⟩) (Nat.le_of_ble_eq_true rfl) ?_
  intro X Qf ad C hn hR hr
  unfold f_W_thing
  show VF X Qf ad NF 0 0 w 0 [(0, (0, v0)), (1, (2, 6)), (2, (0, v2)), (3, (0, v3)), (4, (0, v4))] [] _
  refine vf_aload_n C (f := 1) (zdg dz_W_thing_0 0 rfl) 1 rfl rfl ?_
  refine vf_iconst C (z := 1) (zdg dz_W_thing_0 1 rfl) (jz rfl) ?_
  refine vf_iload_n C (f := 3) (zdg dz_W_thing_0 2 rfl) 3 rfl rfl ?_
  refine vf_ishl C (zdg dz_W_thing_0 3 rfl) ?_
  refine vf_callVi C cy_F_knownBy ml_W_108 rfl (ct_F_knownBy _ _) (S := []) sh_5 (by decide) rfl (jrm_of hR rfl) rfl rfl (Nat.le_of_ble_eq_true rfl) (zdg dz_W_thing_0 4 rfl) (fun r1 u2 => ?_)
  refine vf_istore C (i := 5) (L' := [(0, (0, v0)), (1, (2, 6)), (2, (0, v2)), (3, (0, v3)), (4, (0, v4))]) (zdg dz_W_thing_0 5 rfl) [0, 1, 2, 3, 4] (jrI rfl rfl) hn (by decide) ?_
  refine vf_iload_n C (f := 0) (zdg dz_W_thing_0 6 rfl) 1 rfl rfl ?_
  refine vf_if _ (fun h => ?_) (fun _ => ?_)
  · refine vf_swd C (dflt := 115) (lo := 103) (hi := 115) (offs := #[93, 115, 66, 115, 76, 104, 115, 113, 115, 68, 115, 115, 82]) (len := 66) (tgt := 125) (by decide +kernel) h (by decide) ?_
    refine vf_iload C (zdg dz_W_thing_1 13 rfl) 5 rfl ?_
    exact hr _ _ _ _ (fun h => absurd h (by decide)) (zdg dz_W_thing_1 14 rfl)
  refine vf_if _ (fun h => ?_) (fun _ => ?_)
  · refine vf_swx C (dflt := 115) (lo := 103) (hi := 115) (offs := #[93, 115, 66, 115, 76, 104, 115, 113, 115, 68, 115, 115, 82]) (len := 66) (z := 103) (off := 93) (tgt := 103) (by decide +kernel) h (by decide) (by decide) rfl (by decide) ?_
    refine vf_iload C (zdg dz_W_thing_1 0 rfl) 0 rfl ?_
    refine vf_aload_n C (f := 1) (zdg dz_W_thing_1 1 rfl) 2 rfl rfl ?_
    refine vf_callVi C cy_F_guests ml_W_123 rfl (ct_F_guests _) (S := [(0, r1)]) sh_5 (by decide) rfl (jrm_of hR rfl) rfl rfl (Nat.le_of_ble_eq_true rfl) (zdg dz_W_thing_1 2 rfl) (fun r3 u4 => ?_)
    refine vf_iand C (zdg dz_W_thing_1 3 rfl) ?_
    refine vf_callSi C cy_JI_bitCount ml_W_114 (ct_JI_bitCount _ _) (S := []) (jrm_of hR rfl) rfl rfl (Nat.le_of_ble_eq_true rfl) (zdg dz_W_thing_1 4 rfl) (fun r5 u6 => ?_)
    exact hr _ _ _ _ (fun h => absurd h (by decide)) (zdg dz_W_thing_1 5 rfl)
  refine vf_if _ (fun h => ?_) (fun _ => ?_)
  · refine vf_swx C (dflt := 115) (lo := 103) (hi := 115) (offs := #[93, 115, 66, 115, 76, 104, 115, 113, 115, 68, 115, 115, 82]) (len := 66) (z := 104) (off := 115) (tgt := 125) (by decide +kernel) h (by decide) (by decide) rfl (by decide) ?_
    refine vf_iload C (zdg dz_W_thing_1 13 rfl) 5 rfl ?_
    exact hr _ _ _ _ (fun h => absurd h (by decide)) (zdg dz_W_thing_1 14 rfl)
  refine vf_if _ (fun h => ?_) (fun _ => ?_)
  · refine vf_swx C (dflt := 115) (lo := 103) (hi := 115) (offs := #[93, 115, 66, 115, 76, 104, 115, 113, 115, 68, 115, 115, 82]) (len := 66) (z := 105) (off := 66) (tgt := 76) (by decide +kernel) h (by decide) (by decide) rfl (by decide) ?_
    refine vf_iload_n C (f := 3) (zdg dz_W_thing_0 7 rfl) 4 rfl rfl ?_
    exact hr _ _ _ _ (fun h => absurd h (by decide)) (zdg dz_W_thing_0 8 rfl)
  refine vf_if _ (fun h => ?_) (fun _ => ?_)
  · refine vf_swx C (dflt := 115) (lo := 103) (hi := 115) (offs := #[93, 115, 66, 115, 76, 104, 115, 113, 115, 68, 115, 115, 82]) (len := 66) (z := 106) (off := 115) (tgt := 125) (by decide +kernel) h (by decide) (by decide) rfl (by decide) ?_
    refine vf_iload C (zdg dz_W_thing_1 13 rfl) 5 rfl ?_
    exact hr _ _ _ _ (fun h => absurd h (by decide)) (zdg dz_W_thing_1 14 rfl)
  refine vf_if _ (fun h => ?_) (fun _ => ?_)
  · refine vf_swx C (dflt := 115) (lo := 103) (hi := 115) (offs := #[93, 115, 66, 115, 76, 104, 115, 113, 115, 68, 115, 115, 82]) (len := 66) (z := 107) (off := 76) (tgt := 86) (by decide +kernel) h (by decide) (by decide) rfl (by decide) ?_
    refine vf_iload C (zdg dz_W_thing_0 15 rfl) 0 rfl ?_
    refine vf_callSi C cy_JI_bitCount ml_W_114 (ct_JI_bitCount _ _) (S := []) (jrm_of hR rfl) rfl rfl (Nat.le_of_ble_eq_true rfl) (zdg dz_W_thing_0 16 rfl) (fun r7 u8 => ?_)
    exact hr _ _ _ _ (fun h => absurd h (by decide)) (zdg dz_W_thing_0 17 rfl)
  refine vf_if _ (fun h => ?_) (fun _ => ?_)
  · refine vf_swx C (dflt := 115) (lo := 103) (hi := 115) (offs := #[93, 115, 66, 115, 76, 104, 115, 113, 115, 68, 115, 115, 82]) (len := 66) (z := 108) (off := 104) (tgt := 114) (by decide +kernel) h (by decide) (by decide) rfl (by decide) ?_
    refine vf_aload_n C (f := 1) (zdg dz_W_thing_1 6 rfl) 2 rfl rfl ?_
    refine vf_get C (kd := 0) fl_W_126 sh_5 rfl (by decide) rfl rfl (zdg dz_W_thing_1 7 rfl) ?_
    refine vf_iload_n C (f := 2) (zdg dz_W_thing_1 8 rfl) 3 rfl rfl ?_
    refine vf_callSi C cy_O_late ml_W_129 (ct_O_late _ _ _) (S := []) (jrm_of hR rfl) rfl rfl (Nat.le_of_ble_eq_true rfl) (zdg dz_W_thing_1 9 rfl) (fun r9 u10 => ?_)
    exact hr _ _ _ _ (fun h => absurd h (by decide)) (zdg dz_W_thing_1 10 rfl)
  refine vf_if _ (fun h => ?_) (fun _ => ?_)
  · refine vf_swx C (dflt := 115) (lo := 103) (hi := 115) (offs := #[93, 115, 66, 115, 76, 104, 115, 113, 115, 68, 115, 115, 82]) (len := 66) (z := 109) (off := 115) (tgt := 125) (by decide +kernel) h (by decide) (by decide) rfl (by decide) ?_
    refine vf_iload C (zdg dz_W_thing_1 13 rfl) 5 rfl ?_
    exact hr _ _ _ _ (fun h => absurd h (by decide)) (zdg dz_W_thing_1 14 rfl)
  refine vf_if _ (fun h => ?_) (fun _ => ?_)
  · refine vf_swx C (dflt := 115) (lo := 103) (hi := 115) (offs := #[93, 115, 66, 115, 76, 104, 115, 113, 115, 68, 115, 115, 82]) (len := 66) (z := 110) (off := 113) (tgt := 123) (by decide +kernel) h (by decide) (by decide) rfl (by decide) ?_
    refine vf_iload_n C (f := 2) (zdg dz_W_thing_1 11 rfl) 3 rfl rfl ?_
    exact hr _ _ _ _ (fun h => absurd h (by decide)) (zdg dz_W_thing_1 12 rfl)
  refine vf_if _ (fun h => ?_) (fun _ => ?_)
  · refine vf_swx C (dflt := 115) (lo := 103) (hi := 115) (offs := #[93, 115, 66, 115, 76, 104, 115, 113, 115, 68, 115, 115, 82]) (len := 66) (z := 111) (off := 115) (tgt := 125) (by decide +kernel) h (by decide) (by decide) rfl (by decide) ?_
    refine vf_iload C (zdg dz_W_thing_1 13 rfl) 5 rfl ?_
    exact hr _ _ _ _ (fun h => absurd h (by decide)) (zdg dz_W_thing_1 14 rfl)
  refine vf_if _ (fun h => ?_) (fun _ => ?_)
  · refine vf_swx C (dflt := 115) (lo := 103) (hi := 115) (offs := #[93, 115, 66, 115, 76, 104, 115, 113, 115, 68, 115, 115, 82]) (len := 66) (z := 112) (off := 68) (tgt := 78) (by decide +kernel) h (by decide) (by decide) rfl (by decide) ?_
    refine vf_aload_n C (f := 1) (zdg dz_W_thing_0 9 rfl) 2 rfl rfl ?_
    refine vf_iconst C (z := 1) (zdg dz_W_thing_0 10 rfl) (jz rfl) ?_
    refine vf_iload_n C (f := 3) (zdg dz_W_thing_0 11 rfl) 4 rfl rfl ?_
    refine vf_ishl C (zdg dz_W_thing_0 12 rfl) ?_
    refine vf_callVi C cy_F_pricesOf ml_W_111 rfl (ct_F_pricesOf _ _) (S := []) sh_5 (by decide) rfl (jrm_of hR rfl) rfl rfl (Nat.le_of_ble_eq_true rfl) (zdg dz_W_thing_0 13 rfl) (fun r11 u12 => ?_)
    exact hr _ _ _ _ (fun h => absurd h (by decide)) (zdg dz_W_thing_0 14 rfl)
  refine vf_if _ (fun h => ?_) (fun _ => ?_)
  · refine vf_swx C (dflt := 115) (lo := 103) (hi := 115) (offs := #[93, 115, 66, 115, 76, 104, 115, 113, 115, 68, 115, 115, 82]) (len := 66) (z := 113) (off := 115) (tgt := 125) (by decide +kernel) h (by decide) (by decide) rfl (by decide) ?_
    refine vf_iload C (zdg dz_W_thing_1 13 rfl) 5 rfl ?_
    exact hr _ _ _ _ (fun h => absurd h (by decide)) (zdg dz_W_thing_1 14 rfl)
  refine vf_if _ (fun h => ?_) (fun _ => ?_)
  · refine vf_swx C (dflt := 115) (lo := 103) (hi := 115) (offs := #[93, 115, 66, 115, 76, 104, 115, 113, 115, 68, 115, 115, 82]) (len := 66) (z := 114) (off := 115) (tgt := 125) (by decide +kernel) h (by decide) (by decide) rfl (by decide) ?_
    refine vf_iload C (zdg dz_W_thing_1 13 rfl) 5 rfl ?_
    exact hr _ _ _ _ (fun h => absurd h (by decide)) (zdg dz_W_thing_1 14 rfl)
  refine vf_if _ (fun h => ?_) (fun _ => ?_)
  · refine vf_swx C (dflt := 115) (lo := 103) (hi := 115) (offs := #[93, 115, 66, 115, 76, 104, 115, 113, 115, 68, 115, 115, 82]) (len := 66) (z := 115) (off := 82) (tgt := 92) (by decide +kernel) h (by decide) (by decide) rfl (by decide) ?_
    refine vf_iload C (zdg dz_W_thing_0 18 rfl) 0 rfl ?_
    refine vf_aload_n C (f := 1) (zdg dz_W_thing_0 19 rfl) 2 rfl rfl ?_
    refine vf_callVi C cy_F_strangers ml_W_119 rfl (ct_F_strangers _) (S := [(0, r1)]) sh_5 (by decide) rfl (jrm_of hR rfl) rfl rfl (Nat.le_of_ble_eq_true rfl) (zdg dz_W_thing_0 20 rfl) (fun r13 u14 => ?_)
    refine vf_iand C (zdg dz_W_thing_0 21 rfl) ?_
    refine vf_callSi C cy_JI_bitCount ml_W_114 (ct_JI_bitCount _ _) (S := []) (jrm_of hR rfl) rfl rfl (Nat.le_of_ble_eq_true rfl) (zdg dz_W_thing_0 22 rfl) (fun r15 u16 => ?_)
    exact hr _ _ _ _ (fun h => absurd h (by decide)) (zdg dz_W_thing_0 23 rfl)
  exact vf_no
def f_W_operate (v0 v1 v2 : Int) (w : Wd) : Option (Int × Wd) :=
  if v0 = 42 then
    some (w32 (v1 * v2), w)
  else
  if v0 = 43 then
    some (w32 (v1 + v2), w)
  else
  if v0 = 45 then
    some (w32 (v1 - v2), w)
  else
  if v0 = 60 then
    if v2 ≤ v1 then
      some (0, w)
    else
      some (1, w)
  else
  if v0 = 61 then
    if v1 = v2 then
      some (1, w)
    else
      some (0, w)
  else
  if v0 = 62 then
    if v1 ≤ v2 then
      some (0, w)
    else
      some (1, w)
  else
  if v2 = 0 then
    some (0, w)
  else
    if v2 = 0 then none else
    some (idiv v1 v2, w)
theorem ct_W_operate (v0 v1 v2 : Int) (w : Wd) : Ct y_W_operate prog_12_method_13_code 3 (some .int) 1 0 [(0, v0), (0, v1), (0, v2)] w (f_W_operate v0 v1 v2 w) := by
  refine ct_of (by decide +kernel) (Or.inl ⟨rfl, rfl⟩) (Nat.le_of_ble_eq_true rfl) ?_
  intro X Qf ad C hn hR hr
  unfold f_W_operate
  show VF X Qf ad NF 0 0 w 0 [(0, (0, v0)), (1, (0, v1)), (2, (0, v2))] [] _
  refine vf_iload_n C (f := 0) (zdg dz_W_operate_0 0 rfl) 0 rfl rfl ?_
  refine vf_if _ (fun h42 => ?_) (fun h42 => ?_)
  · refine vf_lsw C (dflt := 104) (ps := #[(42, 100), (43, 92), (45, 96), (60, 59), (61, 81), (62, 70)]) (len := 59) (off := 100) (tgt := 101) (by decide +kernel) (by decide) (by rw [h42]; decide) (by decide) ?_
    refine vf_iload_n C (f := 1) (zdg dz_W_operate_1 6 rfl) 1 rfl rfl ?_
    refine vf_iload_n C (f := 2) (zdg dz_W_operate_1 7 rfl) 2 rfl rfl ?_
    refine vf_imul C (zdg dz_W_operate_1 8 rfl) ?_
    exact hr _ _ _ _ (fun h => absurd h (by decide)) (zdg dz_W_operate_1 9 rfl)
  refine vf_if _ (fun h43 => ?_) (fun h43 => ?_)
  · refine vf_lsw C (dflt := 104) (ps := #[(42, 100), (43, 92), (45, 96), (60, 59), (61, 81), (62, 70)]) (len := 59) (off := 92) (tgt := 93) (by decide +kernel) (by decide) (by rw [h43]; decide) (by decide) ?_
    refine vf_iload_n C (f := 1) (zdg dz_W_operate_0 22 rfl) 1 rfl rfl ?_
    refine vf_iload_n C (f := 2) (zdg dz_W_operate_0 23 rfl) 2 rfl rfl ?_
    refine vf_iadd C (zdg dz_W_operate_1 0 rfl) ?_
    exact hr _ _ _ _ (fun h => absurd h (by decide)) (zdg dz_W_operate_1 1 rfl)
  refine vf_if _ (fun h45 => ?_) (fun h45 => ?_)
  · refine vf_lsw C (dflt := 104) (ps := #[(42, 100), (43, 92), (45, 96), (60, 59), (61, 81), (62, 70)]) (len := 59) (off := 96) (tgt := 97) (by decide +kernel) (by decide) (by rw [h45]; decide) (by decide) ?_
    refine vf_iload_n C (f := 1) (zdg dz_W_operate_1 2 rfl) 1 rfl rfl ?_
    refine vf_iload_n C (f := 2) (zdg dz_W_operate_1 3 rfl) 2 rfl rfl ?_
    refine vf_isub C (zdg dz_W_operate_1 4 rfl) ?_
    exact hr _ _ _ _ (fun h => absurd h (by decide)) (zdg dz_W_operate_1 5 rfl)
  refine vf_if _ (fun h60 => ?_) (fun h60 => ?_)
  · refine vf_lsw C (dflt := 104) (ps := #[(42, 100), (43, 92), (45, 96), (60, 59), (61, 81), (62, 70)]) (len := 59) (off := 59) (tgt := 60) (by decide +kernel) (by decide) (by rw [h60]; decide) (by decide) ?_
    refine vf_iload_n C (f := 1) (zdg dz_W_operate_0 1 rfl) 1 rfl rfl ?_
    refine vf_iload_n C (f := 2) (zdg dz_W_operate_0 2 rfl) 2 rfl rfl ?_
    refine vf_icmp_ge C (off := 7) (tgt := 69) (zdg dz_W_operate_0 3 rfl) (by decide) ?_ ?_
    · refine vf_iconst C (z := 0) (zdg dz_W_operate_0 6 rfl) (jz rfl) ?_
      exact hr _ _ _ _ (fun h => absurd h (by decide)) (zdg dz_W_operate_0 7 rfl)
    · refine vf_iconst C (z := 1) (zdg dz_W_operate_0 4 rfl) (jz rfl) ?_
      refine vf_goto C (off := 4) (tgt := 70) (zdg dz_W_operate_0 5 rfl) (by decide) ?_
      exact hr _ _ _ _ (fun h => absurd h (by decide)) (zdg dz_W_operate_0 7 rfl)
  refine vf_if _ (fun h61 => ?_) (fun h61 => ?_)
  · refine vf_lsw C (dflt := 104) (ps := #[(42, 100), (43, 92), (45, 96), (60, 59), (61, 81), (62, 70)]) (len := 59) (off := 81) (tgt := 82) (by decide +kernel) (by decide) (by rw [h61]; decide) (by decide) ?_
    refine vf_iload_n C (f := 1) (zdg dz_W_operate_0 15 rfl) 1 rfl rfl ?_
    refine vf_iload_n C (f := 2) (zdg dz_W_operate_0 16 rfl) 2 rfl rfl ?_
    refine vf_icmp_ne C (off := 7) (tgt := 91) (zdg dz_W_operate_0 17 rfl) (by decide) ?_ ?_
    · refine vf_iconst C (z := 0) (zdg dz_W_operate_0 20 rfl) (jz rfl) ?_
      exact hr _ _ _ _ (fun h => absurd h (by decide)) (zdg dz_W_operate_0 21 rfl)
    · refine vf_iconst C (z := 1) (zdg dz_W_operate_0 18 rfl) (jz rfl) ?_
      refine vf_goto C (off := 4) (tgt := 92) (zdg dz_W_operate_0 19 rfl) (by decide) ?_
      exact hr _ _ _ _ (fun h => absurd h (by decide)) (zdg dz_W_operate_0 21 rfl)
  refine vf_if _ (fun h62 => ?_) (fun h62 => ?_)
  · refine vf_lsw C (dflt := 104) (ps := #[(42, 100), (43, 92), (45, 96), (60, 59), (61, 81), (62, 70)]) (len := 59) (off := 70) (tgt := 71) (by decide +kernel) (by decide) (by rw [h62]; decide) (by decide) ?_
    refine vf_iload_n C (f := 1) (zdg dz_W_operate_0 8 rfl) 1 rfl rfl ?_
    refine vf_iload_n C (f := 2) (zdg dz_W_operate_0 9 rfl) 2 rfl rfl ?_
    refine vf_icmp_le C (off := 7) (tgt := 80) (zdg dz_W_operate_0 10 rfl) (by decide) ?_ ?_
    · refine vf_iconst C (z := 0) (zdg dz_W_operate_0 13 rfl) (jz rfl) ?_
      exact hr _ _ _ _ (fun h => absurd h (by decide)) (zdg dz_W_operate_0 14 rfl)
    · refine vf_iconst C (z := 1) (zdg dz_W_operate_0 11 rfl) (jz rfl) ?_
      refine vf_goto C (off := 4) (tgt := 81) (zdg dz_W_operate_0 12 rfl) (by decide) ?_
      exact hr _ _ _ _ (fun h => absurd h (by decide)) (zdg dz_W_operate_0 14 rfl)
  refine vf_lsw C (dflt := 104) (ps := #[(42, 100), (43, 92), (45, 96), (60, 59), (61, 81), (62, 70)]) (len := 59) (off := 104) (tgt := 105) (by decide +kernel) (by decide) (by simp [Op.lookupswitch.offset, Ne.symm h42, Ne.symm h43, Ne.symm h45, Ne.symm h60, Ne.symm h61, Ne.symm h62]) (by decide) ?_
  refine vf_iload_n C (f := 2) (zdg dz_W_operate_1 10 rfl) 2 rfl rfl ?_
  refine vf_if_ne C (off := 7) (tgt := 113) (zdg dz_W_operate_1 11 rfl) (by decide) ?_ ?_
  · refine vf_iload_n C (f := 1) (zdg dz_W_operate_1 14 rfl) 1 rfl rfl ?_
    refine vf_iload_n C (f := 2) (zdg dz_W_operate_1 15 rfl) 2 rfl rfl ?_
    refine vf_idiv C (zdg dz_W_operate_1 16 rfl) ?_
    exact hr _ _ _ _ (fun h => absurd h (by decide)) (zdg dz_W_operate_1 17 rfl)
  · refine vf_iconst C (z := 0) (zdg dz_W_operate_1 12 rfl) (jz rfl) ?_
    refine vf_goto C (off := 6) (tgt := 116) (zdg dz_W_operate_1 13 rfl) (by decide) ?_
    exact hr _ _ _ _ (fun h => absurd h (by decide)) (zdg dz_W_operate_1 17 rfl)
def f_W_value_158 (k13 : Int → Int → Int → Int → Int → Wd → Option (Int × Wd)) (v2 v3 v4 v5 v6 : Int) (w : Wd) : Option (Int × Wd) :=
  jlet (w32 (v6 + 1)) fun x5 =>
  k13 v2 v3 v4 v5 x5 w
theorem t_W_value_158 {X : jX} {Qf : Int × Wd → State → Prop} {ad : Nat → Nat} (C : Cx X prog_12_method_12_code "EachBringsAnother$Wish") (hn : xn X = 8) (hR : xR X = rmD 4) (hr : Rt X Qf ad prog_12_method_12_code 0) {k13 : Int → Int → Int → Int → Int → Wd → Option (Int × Wd)} (hk13 : ∀ (v2 v3 v4 v5 v6 : Int) (w : Wd), VF X Qf ad NF 0 0 w 13 [(0, (2, 20)), (1, (2, 6)), (2, (0, v2)), (3, (0, v3)), (4, (0, v4)), (5, (0, v5)), (6, (0, v6))] [] (k13 v2 v3 v4 v5 v6 w)) (v2 v3 v4 v5 v6 : Int) (w : Wd) : VF X Qf ad NF 0 0 w 158 [(0, (2, 20)), (1, (2, 6)), (2, (0, v2)), (3, (0, v3)), (4, (0, v4)), (5, (0, v5)), (6, (0, v6))] [] (f_W_value_158 k13 v2 v3 v4 v5 v6 w) := by
  unfold f_W_value_158
  refine vf_iinc C (z := 1) (L' := [(0, (2, 20)), (1, (2, 6)), (2, (0, v2)), (3, (0, v3)), (4, (0, v4)), (5, (0, v5))]) (zdg dz_W_value_3 13 rfl) 6 rfl [0, 1, 2, 3, 4, 5] (jrI rfl rfl) hn (by decide) ?_
  generalize w32 (v6 + 1) = x5
  refine vf_ul ?_
  refine vf_goto C (off := (-148)) (tgt := 13) (zdg dz_W_value_3 14 rfl) (by decide) ?_
  exact vf_perm [1, 2, 3, 4, 5, 6, 0] rfl (hk13 _ _ _ _ _ _)
def f_W_value_154 (k13 : Int → Int → Int → Int → Int → Wd → Option (Int × Wd)) (v2 v3 v4 v5 v6 s1 s2 : Int) (w : Wd) : Option (Int × Wd) :=
  jgd ((0 : Int) ≤ s1 ∧ s1 < 40) <|
  jlw (st w 23 s1.toNat s2) fun u8 =>
  jlet (w32 (v5 + 1)) fun x9 =>
  f_W_value_158 k13 v2 v3 v4 x9 v6 u8
theorem t_W_value_154 {X : jX} {Qf : Int × Wd → State → Prop} {ad : Nat → Nat} (C : Cx X prog_12_method_12_code "EachBringsAnother$Wish") (hn : xn X = 8) (hR : xR X = rmD 4) (hr : Rt X Qf ad prog_12_method_12_code 0) {k13 : Int → Int → Int → Int → Int → Wd → Option (Int × Wd)} (hk13 : ∀ (v2 v3 v4 v5 v6 : Int) (w : Wd), VF X Qf ad NF 0 0 w 13 [(0, (2, 20)), (1, (2, 6)), (2, (0, v2)), (3, (0, v3)), (4, (0, v4)), (5, (0, v5)), (6, (0, v6))] [] (k13 v2 v3 v4 v5 v6 w)) (v2 v3 v4 v5 v6 s1 s2 : Int) (w : Wd) : VF X Qf ad NF 0 0 w 154 [(0, (2, 20)), (1, (2, 6)), (2, (0, v2)), (3, (0, v3)), (4, (0, v4)), (5, (0, v5)), (6, (0, v6))] [(0, s2), (0, s1), (2, 24)] (f_W_value_154 k13 v2 v3 v4 v5 v6 s1 s2 w) := by
  unfold f_W_value_154
  refine vf_iast C sh_23 (by decide) rfl (mz := 40) rfl (zdg dz_W_value_3 11 rfl) ?_
  generalize st w 23 s1.toNat s2 = u8
  refine vf_uw ?_
  refine vf_iinc C (z := 1) (L' := [(0, (2, 20)), (1, (2, 6)), (2, (0, v2)), (3, (0, v3)), (4, (0, v4)), (6, (0, v6))]) (zdg dz_W_value_3 12 rfl) 5 rfl [0, 1, 2, 3, 4, 6] (jrI rfl rfl) hn (by decide) ?_
  generalize w32 (v5 + 1) = x9
  refine vf_ul ?_
  exact vf_perm [1, 2, 3, 4, 5, 0, 6] rfl (t_W_value_158 C hn hR hr hk13 _ _ _ _ _ _)
def f_W_value_117 (k13 : Int → Int → Int → Int → Int → Wd → Option (Int × Wd)) (v2 v3 v4 v5 v6 v7 : Int) (w : Wd) : Option (Int × Wd) :=
  if (40 : Int) ≤ v5 then
    f_W_value_158 k13 v2 v3 v4 v5 v6 w
  else
    if (0 : Int) < v7 then
      jcall (f_W_thing v7 v2 v3 v4 w) fun r6 u7 =>
      f_W_value_154 k13 v2 v3 v4 v5 v6 v5 r6 u7
    else
      f_W_value_154 k13 v2 v3 v4 v5 v6 v5 (w32 (-v7)) w
theorem t_W_value_117 {X : jX} {Qf : Int × Wd → State → Prop} {ad : Nat → Nat} (C : Cx X prog_12_method_12_code "EachBringsAnother$Wish") (hn : xn X = 8) (hR : xR X = rmD 4) (hr : Rt X Qf ad prog_12_method_12_code 0) {k13 : Int → Int → Int → Int → Int → Wd → Option (Int × Wd)} (hk13 : ∀ (v2 v3 v4 v5 v6 : Int) (w : Wd), VF X Qf ad NF 0 0 w 13 [(0, (2, 20)), (1, (2, 6)), (2, (0, v2)), (3, (0, v3)), (4, (0, v4)), (5, (0, v5)), (6, (0, v6))] [] (k13 v2 v3 v4 v5 v6 w)) (v2 v3 v4 v5 v6 v7 : Int) (w : Wd) : VF X Qf ad NF 0 0 w 117 [(0, (2, 20)), (1, (2, 6)), (2, (0, v2)), (3, (0, v3)), (4, (0, v4)), (5, (0, v5)), (6, (0, v6)), (7, (0, v7))] [] (f_W_value_117 k13 v2 v3 v4 v5 v6 v7 w) := by
  unfold f_W_value_117
  refine vf_iload C (zdg dz_W_value_2 16 rfl) 5 rfl ?_
  refine vf_aload_n C (f := 0) (zdg dz_W_value_2 17 rfl) 0 rfl rfl ?_
  refine vf_getp C fl_W_21 sh_19 rfl (by decide) rfl (x := 24) rfl (zdg dz_W_value_2 18 rfl) ?_
  refine vf_alen C sh_23 (by decide) (by decide) rfl (x := 40) rfl (jz rfl) (zdg dz_W_value_2 19 rfl) ?_
  refine vf_icmp_ge C (off := 34) (tgt := 158) (zdg dz_W_value_2 20 rfl) (by decide) ?_ ?_
  · exact vf_perm [0, 1, 2, 3, 4, 5, 6] rfl (t_W_value_158 C hn hR hr hk13 _ _ _ _ _ _)
  · refine vf_aload_n C (f := 0) (zdg dz_W_value_2 21 rfl) 0 rfl rfl ?_
    refine vf_getp C fl_W_21 sh_19 rfl (by decide) rfl (x := 24) rfl (zdg dz_W_value_2 22 rfl) ?_
    refine vf_iload C (zdg dz_W_value_2 23 rfl) 5 rfl ?_
    refine vf_iload C (zdg dz_W_value_3 0 rfl) 7 rfl ?_
    refine vf_if_gt C (off := 9) (tgt := 144) (zdg dz_W_value_3 1 rfl) (by decide) ?_ ?_
    · refine vf_iload C (zdg dz_W_value_3 5 rfl) 7 rfl ?_
      refine vf_aload_n C (f := 1) (zdg dz_W_value_3 6 rfl) 1 rfl rfl ?_
      refine vf_iload_n C (f := 2) (zdg dz_W_value_3 7 rfl) 2 rfl rfl ?_
      refine vf_iload_n C (f := 3) (zdg dz_W_value_3 8 rfl) 3 rfl rfl ?_
      refine vf_iload C (zdg dz_W_value_3 9 rfl) 4 rfl ?_
      refine vf_callSi C cy_W_thing ml_W_104 (ct_W_thing _ _ _ _ _) (S := [(0, v5), (2, 24)]) (jrm_of hR rfl) rfl rfl (Nat.le_of_ble_eq_true rfl) (zdg dz_W_value_3 10 rfl) (fun r6 u7 => ?_)
      exact vf_perm [0, 1, 2, 3, 4, 5, 6] rfl (t_W_value_154 C hn hR hr hk13 _ _ _ _ _ _ _ _)
    · refine vf_iload C (zdg dz_W_value_3 2 rfl) 7 rfl ?_
      refine vf_ineg C (zdg dz_W_value_3 3 rfl) ?_
      refine vf_goto C (off := 13) (tgt := 154) (zdg dz_W_value_3 4 rfl) (by decide) ?_
      exact vf_perm [0, 1, 2, 3, 4, 5, 6] rfl (t_W_value_154 C hn hR hr hk13 _ _ _ _ _ _ _ _)
def f_W_value_67 (k13 : Int → Int → Int → Int → Int → Wd → Option (Int × Wd)) (v2 v3 v4 v5 v6 v7 : Int) (w : Wd) : Option (Int × Wd) :=
  jcall (f_W_strength v7 w) fun r3 u4 =>
  if r3 ≤ 0 then
    f_W_value_117 k13 v2 v3 v4 v5 v6 v7 u4
  else
    if v5 ≤ 1 then
      f_W_value_117 k13 v2 v3 v4 v5 v6 v7 u4
    else
      jlet (w32 (v5 + (-1))) fun x10 =>
      jgd ((0 : Int) ≤ (w32 (x10 - 1)) ∧ (w32 (x10 - 1)) < 40) <|
      jgd ((0 : Int) ≤ x10 ∧ x10 < 40) <|
      jcall (f_W_operate v7 (u4 23 (w32 (x10 - 1)).toNat) (u4 23 x10.toNat) u4) fun r11 u12 =>
      jgd ((0 : Int) ≤ (w32 (x10 - 1)) ∧ (w32 (x10 - 1)) < 40) <|
      jlw (st u12 23 (w32 (x10 - 1)).toNat r11) fun u13 =>
      f_W_value_158 k13 v2 v3 v4 x10 v6 u13
theorem t_W_value_67 {X : jX} {Qf : Int × Wd → State → Prop} {ad : Nat → Nat} (C : Cx X prog_12_method_12_code "EachBringsAnother$Wish") (hn : xn X = 8) (hR : xR X = rmD 4) (hr : Rt X Qf ad prog_12_method_12_code 0) {k13 : Int → Int → Int → Int → Int → Wd → Option (Int × Wd)} (hk13 : ∀ (v2 v3 v4 v5 v6 : Int) (w : Wd), VF X Qf ad NF 0 0 w 13 [(0, (2, 20)), (1, (2, 6)), (2, (0, v2)), (3, (0, v3)), (4, (0, v4)), (5, (0, v5)), (6, (0, v6))] [] (k13 v2 v3 v4 v5 v6 w)) (v2 v3 v4 v5 v6 v7 : Int) (w : Wd) : VF X Qf ad NF 0 0 w 67 [(0, (2, 20)), (1, (2, 6)), (2, (0, v2)), (3, (0, v3)), (4, (0, v4)), (5, (0, v5)), (6, (0, v6)), (7, (0, v7))] [] (f_W_value_67 k13 v2 v3 v4 v5 v6 v7 w) := by
  unfold f_W_value_67
  refine vf_iload C (zdg dz_W_value_1 14 rfl) 7 rfl ?_
  refine vf_callSi C cy_W_strength ml_W_83 (ct_W_strength _ _) (S := []) (jrm_of hR rfl) rfl rfl (Nat.le_of_ble_eq_true rfl) (zdg dz_W_value_1 15 rfl) (fun r3 u4 => ?_)
  refine vf_if_le C (off := 45) (tgt := 117) (zdg dz_W_value_1 16 rfl) (by decide) ?_ ?_
  · exact t_W_value_117 C hn hR hr hk13 _ _ _ _ _ _ _
  · refine vf_iload C (zdg dz_W_value_1 17 rfl) 5 rfl ?_
    refine vf_iconst C (z := 1) (zdg dz_W_value_1 18 rfl) (jz rfl) ?_
    refine vf_icmp_le C (off := 39) (tgt := 117) (zdg dz_W_value_1 19 rfl) (by decide) ?_ ?_
    · exact t_W_value_117 C hn hR hr hk13 _ _ _ _ _ _ _
    · refine vf_iinc C (z := (-1)) (L' := [(0, (2, 20)), (1, (2, 6)), (2, (0, v2)), (3, (0, v3)), (4, (0, v4)), (6, (0, v6)), (7, (0, v7))]) (zdg dz_W_value_1 20 rfl) 5 rfl [0, 1, 2, 3, 4, 6, 7] (jrI rfl rfl) hn (by decide) ?_
      generalize w32 (v5 + (-1)) = x10
      refine vf_ul ?_
      refine vf_aload_n C (f := 0) (zdg dz_W_value_1 21 rfl) 1 rfl rfl ?_
      refine vf_getp C fl_W_21 sh_19 rfl (by decide) rfl (x := 24) rfl (zdg dz_W_value_1 22 rfl) ?_
      refine vf_iload C (zdg dz_W_value_1 23 rfl) 0 rfl ?_
      refine vf_iconst C (z := 1) (zdg dz_W_value_2 0 rfl) (jz rfl) ?_
      refine vf_isub C (zdg dz_W_value_2 1 rfl) ?_
      refine vf_iload C (zdg dz_W_value_2 2 rfl) 7 rfl ?_
      refine vf_aload_n C (f := 0) (zdg dz_W_value_2 3 rfl) 1 rfl rfl ?_
      refine vf_getp C fl_W_21 sh_19 rfl (by decide) rfl (x := 24) rfl (zdg dz_W_value_2 4 rfl) ?_
      refine vf_iload C (zdg dz_W_value_2 5 rfl) 0 rfl ?_
      refine vf_iconst C (z := 1) (zdg dz_W_value_2 6 rfl) (jz rfl) ?_
      refine vf_isub C (zdg dz_W_value_2 7 rfl) ?_
      refine vf_iald C sh_23 (by decide) rfl (mz := 40) rfl (zdg dz_W_value_2 8 rfl) ?_
      refine vf_aload_n C (f := 0) (zdg dz_W_value_2 9 rfl) 1 rfl rfl ?_
      refine vf_getp C fl_W_21 sh_19 rfl (by decide) rfl (x := 24) rfl (zdg dz_W_value_2 10 rfl) ?_
      refine vf_iload C (zdg dz_W_value_2 11 rfl) 0 rfl ?_
      refine vf_iald C sh_23 (by decide) rfl (mz := 40) rfl (zdg dz_W_value_2 12 rfl) ?_
      refine vf_callSi C cy_W_operate ml_W_100 (ct_W_operate _ _ _ _) (S := [(0, w32 (x10 - 1)), (2, 24)]) (jrm_of hR rfl) rfl rfl (Nat.le_of_ble_eq_true rfl) (zdg dz_W_value_2 13 rfl) (fun r11 u12 => ?_)
      refine vf_iast C sh_23 (by decide) rfl (mz := 40) rfl (zdg dz_W_value_2 14 rfl) ?_
      generalize st u12 23 (w32 (x10 - 1)).toNat r11 = u13
      refine vf_uw ?_
      refine vf_goto C (off := 44) (tgt := 158) (zdg dz_W_value_2 15 rfl) (by decide) ?_
      exact vf_perm [1, 2, 3, 4, 5, 0, 6] rfl (t_W_value_158 C hn hR hr hk13 _ _ _ _ _ _)
def f_W_value_13 : Nat → Int → Int → Int → Int → Int → Wd → Option (Int × Wd)
  | 0, _, _, _, _, _, _ => none
  | n + 1, v2, v3, v4, v5, v6, w =>
    if (w 19 4) ≤ v6 then
      jgd ((0 : Int) ≤ (0 : Int) ∧ (0 : Int) < 40) <|
      some (w 23 (0 : Int).toNat, w)
    else
      jgd ((0 : Int) ≤ v6 ∧ v6 < 40) <|
      jlet (w32 (-(w 20 v6.toNat))) fun x2 =>
      if x2 = 256 then
        if v5 ≤ 0 then
          f_W_value_67 (f_W_value_13 n) v2 v3 v4 v5 v6 x2 w
        else
          jgd ((0 : Int) ≤ (w32 (v5 - 1)) ∧ (w32 (v5 - 1)) < 40) <|
          jgd ((0 : Int) ≤ (w32 (v5 - 1)) ∧ (w32 (v5 - 1)) < 40) <|
          jlw (st w 23 (w32 (v5 - 1)).toNat ((w32 (-(w 23 (w32 (v5 - 1)).toNat))))) fun u14 =>
          f_W_value_158 (f_W_value_13 n) v2 v3 v4 v5 v6 u14
      else
        f_W_value_67 (f_W_value_13 n) v2 v3 v4 v5 v6 x2 w
theorem t_W_value_13 {X : jX} {Qf : Int × Wd → State → Prop} {ad : Nat → Nat} (C : Cx X prog_12_method_12_code "EachBringsAnother$Wish") (hn : xn X = 8) (hR : xR X = rmD 4) (hr : Rt X Qf ad prog_12_method_12_code 0) : ∀ (n : Nat) (v2 v3 v4 v5 v6 : Int) (w : Wd), VF X Qf ad NF 0 0 w 13 [(0, (2, 20)), (1, (2, 6)), (2, (0, v2)), (3, (0, v3)), (4, (0, v4)), (5, (0, v5)), (6, (0, v6))] [] (f_W_value_13 n v2 v3 v4 v5 v6 w) := by
  intro n
  induction n with
  | zero => intros; exact vf_no
  | succ n ih =>
    intro v2 v3 v4 v5 v6 w
    rw [f_W_value_13]
    refine vf_iload C (zdg dz_W_value_0 9 rfl) 6 rfl ?_
    refine vf_aload_n C (f := 0) (zdg dz_W_value_0 10 rfl) 0 rfl rfl ?_
    refine vf_get C (kd := 0) fl_W_30 sh_19 rfl (by decide) rfl rfl (zdg dz_W_value_0 11 rfl) ?_
    refine vf_icmp_ge C (off := 145) (tgt := 164) (zdg dz_W_value_0 12 rfl) (by decide) ?_ ?_
    · refine vf_aload_n C (f := 0) (zdg dz_W_value_3 15 rfl) 0 rfl rfl ?_
      refine vf_getp C fl_W_21 sh_19 rfl (by decide) rfl (x := 24) rfl (zdg dz_W_value_3 16 rfl) ?_
      refine vf_iconst C (z := 0) (zdg dz_W_value_3 17 rfl) (jz rfl) ?_
      refine vf_iald C sh_23 (by decide) rfl (mz := 40) rfl (zdg dz_W_value_3 18 rfl) ?_
      exact hr _ _ _ _ (fun h => absurd h (by decide)) (zdg dz_W_value_3 19 rfl)
    · refine vf_aload_n C (f := 0) (zdg dz_W_value_0 13 rfl) 0 rfl rfl ?_
      refine vf_getp C fl_W_9 sh_19 rfl (by decide) rfl (x := 21) rfl (zdg dz_W_value_0 14 rfl) ?_
      refine vf_iload C (zdg dz_W_value_0 15 rfl) 6 rfl ?_
      refine vf_iald C sh_20 (by decide) rfl (mz := 40) rfl (zdg dz_W_value_0 16 rfl) ?_
      refine vf_ineg C (zdg dz_W_value_0 17 rfl) ?_
      generalize w32 (-(w 20 v6.toNat)) = x2
      refine vf_ul ?_
      refine vf_istore C (i := 7) (L' := [(0, (2, 20)), (1, (2, 6)), (2, (0, v2)), (3, (0, v3)), (4, (0, v4)), (5, (0, v5)), (6, (0, v6))]) (zdg dz_W_value_0 18 rfl) [0, 1, 2, 3, 4, 5, 6] (jrI rfl rfl) hn (by decide) ?_
      refine vf_iload C (zdg dz_W_value_0 19 rfl) 0 rfl ?_
      refine vf_sipush C (z := 256) (zdg dz_W_value_0 20 rfl) (by decide +kernel) (jz rfl) ?_
      refine vf_icmp_ne C (off := 30) (tgt := 67) (zdg dz_W_value_0 21 rfl) (by decide) ?_ ?_
      · exact vf_perm [1, 2, 3, 4, 5, 6, 7, 0] rfl (t_W_value_67 C hn hR hr ih _ _ _ _ _ _ _)
      · refine vf_iload C (zdg dz_W_value_0 22 rfl) 6 rfl ?_
        refine vf_if_le C (off := 25) (tgt := 67) (zdg dz_W_value_0 23 rfl) (by decide) ?_ ?_
        · exact vf_perm [1, 2, 3, 4, 5, 6, 7, 0] rfl (t_W_value_67 C hn hR hr ih _ _ _ _ _ _ _)
        · refine vf_aload_n C (f := 0) (zdg dz_W_value_1 0 rfl) 1 rfl rfl ?_
          refine vf_getp C fl_W_21 sh_19 rfl (by decide) rfl (x := 24) rfl (zdg dz_W_value_1 1 rfl) ?_
          refine vf_iload C (zdg dz_W_value_1 2 rfl) 6 rfl ?_
          refine vf_iconst C (z := 1) (zdg dz_W_value_1 3 rfl) (jz rfl) ?_
          refine vf_isub C (zdg dz_W_value_1 4 rfl) ?_
          refine vf_aload_n C (f := 0) (zdg dz_W_value_1 5 rfl) 1 rfl rfl ?_
          refine vf_getp C fl_W_21 sh_19 rfl (by decide) rfl (x := 24) rfl (zdg dz_W_value_1 6 rfl) ?_
          refine vf_iload C (zdg dz_W_value_1 7 rfl) 6 rfl ?_
          refine vf_iconst C (z := 1) (zdg dz_W_value_1 8 rfl) (jz rfl) ?_
          refine vf_isub C (zdg dz_W_value_1 9 rfl) ?_
          refine vf_iald C sh_23 (by decide) rfl (mz := 40) rfl (zdg dz_W_value_1 10 rfl) ?_
          refine vf_ineg C (zdg dz_W_value_1 11 rfl) ?_
          refine vf_iast C sh_23 (by decide) rfl (mz := 40) rfl (zdg dz_W_value_1 12 rfl) ?_
          generalize st w 23 (w32 (v5 - 1)).toNat ((w32 (-(w 23 (w32 (v5 - 1)).toNat)))) = u14
          refine vf_uw ?_
          refine vf_goto C (off := 94) (tgt := 158) (zdg dz_W_value_1 13 rfl) (by decide) ?_
          exact vf_perm [1, 2, 3, 4, 5, 6, 7] rfl (t_W_value_158 C hn hR hr ih _ _ _ _ _ _)
def f_W_value (v2 v3 v4 : Int) (w : Wd) : Option (Int × Wd) :=
  jgd ((0 : Int) ≤ (0 : Int) ∧ (0 : Int) < 40) <|
  jlw (st w 23 (0 : Int).toNat 0) fun u1 =>
  f_W_value_13 FU v2 v3 v4 0 0 u1
theorem ct_W_value (v2 v3 v4 : Int) (w : Wd) : Ct y_W_value prog_12_method_12_code 8 (some .int) 4 0 [(2, 20), (2, 6), (0, v2), (0, v3), (0, v4)] w (f_W_value v2 v3 v4 w) := by
  refine ct_of (by decide +kernel) (Or.inl ⟨rfl, rfl⟩) (Nat.le_of_ble_eq_true rfl) ?_
  intro X Qf ad C hn hR hr
  unfold f_W_value
  show VF X Qf ad NF 0 0 w 0 [(0, (2, 20)), (1, (2, 6)), (2, (0, v2)), (3, (0, v3)), (4, (0, v4))] [] _
  refine vf_iconst C (z := 0) (zdg dz_W_value_0 0 rfl) (jz rfl) ?_
  refine vf_istore C (i := 5) (L' := [(0, (2, 20)), (1, (2, 6)), (2, (0, v2)), (3, (0, v3)), (4, (0, v4))]) (zdg dz_W_value_0 1 rfl) [0, 1, 2, 3, 4] (jrI rfl rfl) hn (by decide) ?_
  refine vf_aload_n C (f := 0) (zdg dz_W_value_0 2 rfl) 1 rfl rfl ?_
  refine vf_getp C fl_W_21 sh_19 rfl (by decide) rfl (x := 24) rfl (zdg dz_W_value_0 3 rfl) ?_
  refine vf_iconst C (z := 0) (zdg dz_W_value_0 4 rfl) (jz rfl) ?_
  refine vf_iconst C (z := 0) (zdg dz_W_value_0 5 rfl) (jz rfl) ?_
  refine vf_iast C sh_23 (by decide) rfl (mz := 40) rfl (zdg dz_W_value_0 6 rfl) ?_
  generalize st w 23 (0 : Int).toNat 0 = u1
  refine vf_uw ?_
  refine vf_iconst C (z := 0) (zdg dz_W_value_0 7 rfl) (jz rfl) ?_
  refine vf_istore C (i := 6) (L' := [(5, (0, 0)), (0, (2, 20)), (1, (2, 6)), (2, (0, v2)), (3, (0, v3)), (4, (0, v4))]) (zdg dz_W_value_0 8 rfl) [0, 1, 2, 3, 4, 5] (jrI rfl rfl) hn (by decide) ?_
  exact vf_perm [2, 3, 4, 5, 6, 1, 0] rfl (t_W_value_13 C hn hR hr FU _ _ _ _ _ _)
def f_W_favourite_54 (k9 : Int → Int → Int → Int → Int → Int → Wd → Option (Int × Wd)) (v2 v3 v4 v5 v6 v7 : Int) (w : Wd) : Option (Int × Wd) :=
  jlet (w32 (v7 + 1)) fun x3 =>
  k9 v2 v3 v4 v5 v6 x3 w
theorem t_W_favourite_54 {X : jX} {Qf : Int × Wd → State → Prop} {ad : Nat → Nat} (C : Cx X prog_12_method_11_code "EachBringsAnother$Wish") (hn : xn X = 9) (hR : xR X = rmD 5) (hr : Rt X Qf ad prog_12_method_11_code 0) {k9 : Int → Int → Int → Int → Int → Int → Wd → Option (Int × Wd)} (hk9 : ∀ (v2 v3 v4 v5 v6 v7 : Int) (w : Wd), VF X Qf ad NF 0 0 w 9 [(0, (2, 20)), (1, (2, 6)), (2, (0, v2)), (3, (0, v3)), (4, (0, v4)), (5, (0, v5)), (6, (0, v6)), (7, (0, v7))] [] (k9 v2 v3 v4 v5 v6 v7 w)) (v2 v3 v4 v5 v6 v7 : Int) (w : Wd) : VF X Qf ad NF 0 0 w 54 [(0, (2, 20)), (1, (2, 6)), (2, (0, v2)), (3, (0, v3)), (4, (0, v4)), (5, (0, v5)), (6, (0, v6)), (7, (0, v7))] [] (f_W_favourite_54 k9 v2 v3 v4 v5 v6 v7 w) := by
  unfold f_W_favourite_54
  refine vf_iinc C (z := 1) (L' := [(0, (2, 20)), (1, (2, 6)), (2, (0, v2)), (3, (0, v3)), (4, (0, v4)), (5, (0, v5)), (6, (0, v6))]) (zdg dz_W_favourite_1 4 rfl) 7 rfl [0, 1, 2, 3, 4, 5, 6] (jrI rfl rfl) hn (by decide) ?_
  generalize w32 (v7 + 1) = x3
  refine vf_ul ?_
  refine vf_goto C (off := (-48)) (tgt := 9) (zdg dz_W_favourite_1 5 rfl) (by decide) ?_
  exact vf_perm [1, 2, 3, 4, 5, 6, 7, 0] rfl (hk9 _ _ _ _ _ _ _)
def f_W_favourite_9 : Nat → Int → Int → Int → Int → Int → Int → Wd → Option (Int × Wd)
  | 0, _, _, _, _, _, _, _ => none
  | n + 1, v2, v3, v4, v5, v6, v7, w =>
    if (w 5 3) ≤ v7 then
      some (v5, w)
    else
      jcall (f_E_has v3 v7 w) fun r1 u2 =>
      if r1 = 0 then
        f_W_favourite_54 (f_W_favourite_9 n) v2 v3 v4 v5 v6 v7 u2
      else
        jcall (f_W_value v2 v7 v4 u2) fun r4 u5 =>
        if r4 ≤ v6 then
          f_W_favourite_54 (f_W_favourite_9 n) v2 v3 v4 v5 v6 v7 u5
        else
          f_W_favourite_54 (f_W_favourite_9 n) v2 v3 v4 v7 r4 v7 u5
theorem t_W_favourite_9 {X : jX} {Qf : Int × Wd → State → Prop} {ad : Nat → Nat} (C : Cx X prog_12_method_11_code "EachBringsAnother$Wish") (hn : xn X = 9) (hR : xR X = rmD 5) (hr : Rt X Qf ad prog_12_method_11_code 0) : ∀ (n : Nat) (v2 v3 v4 v5 v6 v7 : Int) (w : Wd), VF X Qf ad NF 0 0 w 9 [(0, (2, 20)), (1, (2, 6)), (2, (0, v2)), (3, (0, v3)), (4, (0, v4)), (5, (0, v5)), (6, (0, v6)), (7, (0, v7))] [] (f_W_favourite_9 n v2 v3 v4 v5 v6 v7 w) := by
  intro n
  induction n with
  | zero => intros; exact vf_no
  | succ n ih =>
    intro v2 v3 v4 v5 v6 v7 w
    rw [f_W_favourite_9]
    refine vf_iload C (zdg dz_W_favourite_0 6 rfl) 7 rfl ?_
    refine vf_aload_n C (f := 1) (zdg dz_W_favourite_0 7 rfl) 1 rfl rfl ?_
    refine vf_get C (kd := 0) fl_W_87 sh_5 rfl (by decide) rfl rfl (zdg dz_W_favourite_0 8 rfl) ?_
    refine vf_icmp_ge C (off := 45) (tgt := 60) (zdg dz_W_favourite_0 9 rfl) (by decide) ?_ ?_
    · refine vf_iload C (zdg dz_W_favourite_1 6 rfl) 5 rfl ?_
      exact hr _ _ _ _ (fun h => absurd h (by decide)) (zdg dz_W_favourite_1 7 rfl)
    · refine vf_iload_n C (f := 3) (zdg dz_W_favourite_0 10 rfl) 3 rfl rfl ?_
      refine vf_iload C (zdg dz_W_favourite_0 11 rfl) 7 rfl ?_
      refine vf_callSz C cy_E_has ml_W_92 (ct_E_has _ _ _) (S := []) (jrm_of hR rfl) rfl rfl (Nat.le_of_ble_eq_true rfl) (zdg dz_W_favourite_0 12 rfl) (fun r1 u2 => ?_)
      refine vf_if_eq C (off := 30) (tgt := 54) (zdg dz_W_favourite_0 13 rfl) (by decide) ?_ ?_
      · exact t_W_favourite_54 C hn hR hr ih _ _ _ _ _ _ _
      · refine vf_aload_n C (f := 0) (zdg dz_W_favourite_0 14 rfl) 0 rfl rfl ?_
        refine vf_aload_n C (f := 1) (zdg dz_W_favourite_0 15 rfl) 1 rfl rfl ?_
        refine vf_iload_n C (f := 2) (zdg dz_W_favourite_0 16 rfl) 2 rfl rfl ?_
        refine vf_iload C (zdg dz_W_favourite_0 17 rfl) 7 rfl ?_
        refine vf_iload C (zdg dz_W_favourite_0 18 rfl) 4 rfl ?_
        refine vf_callVi C cy_W_value ml_W_96 rfl (ct_W_value _ _ _ _) (S := []) sh_19 (by decide) rfl (jrm_of hR rfl) rfl rfl (Nat.le_of_ble_eq_true rfl) (zdg dz_W_favourite_0 19 rfl) (fun r4 u5 => ?_)
        refine vf_istore C (i := 8) (L' := [(0, (2, 20)), (1, (2, 6)), (2, (0, v2)), (3, (0, v3)), (4, (0, v4)), (5, (0, v5)), (6, (0, v6)), (7, (0, v7))]) (zdg dz_W_favourite_0 20 rfl) [0, 1, 2, 3, 4, 5, 6, 7] (jrI rfl rfl) hn (by decide) ?_
        refine vf_iload C (zdg dz_W_favourite_0 21 rfl) 0 rfl ?_
        refine vf_iload C (zdg dz_W_favourite_0 22 rfl) 7 rfl ?_
        refine vf_icmp_le C (off := 11) (tgt := 54) (zdg dz_W_favourite_0 23 rfl) (by decide) ?_ ?_
        · exact vf_perm [1, 2, 3, 4, 5, 6, 7, 8] rfl (t_W_favourite_54 C hn hR hr ih _ _ _ _ _ _ _)
        · refine vf_iload C (zdg dz_W_favourite_1 0 rfl) 8 rfl ?_
          refine vf_istore C (i := 5) (L' := [(8, (0, r4)), (0, (2, 20)), (1, (2, 6)), (2, (0, v2)), (3, (0, v3)), (4, (0, v4)), (7, (0, v7))]) (zdg dz_W_favourite_1 1 rfl) [0, 1, 2, 3, 4, 5, 8] (jrI rfl rfl) hn (by decide) ?_
          refine vf_iload C (zdg dz_W_favourite_1 2 rfl) 1 rfl ?_
          refine vf_istore C (i := 6) (L' := [(5, (0, v7)), (0, (2, 20)), (1, (2, 6)), (2, (0, v2)), (3, (0, v3)), (4, (0, v4)), (7, (0, v7))]) (zdg dz_W_favourite_1 3 rfl) [0, 2, 3, 4, 5, 6, 7] (jrI rfl rfl) hn (by decide) ?_
          exact vf_perm [2, 3, 4, 5, 6, 1, 0, 7] rfl (t_W_favourite_54 C hn hR hr ih _ _ _ _ _ _ _)
def f_W_favourite (v2 v3 v4 : Int) (w : Wd) : Option (Int × Wd) :=
  f_W_favourite_9 FU v2 v3 v4 (-1) (-1) 0 w
theorem ct_W_favourite (v2 v3 v4 : Int) (w : Wd) : Ct y_W_favourite prog_12_method_11_code 9 (some .int) 5 0 [(2, 20), (2, 6), (0, v2), (0, v3), (0, v4)] w (f_W_favourite v2 v3 v4 w) := by
  refine ct_of (by decide +kernel) (Or.inl ⟨rfl, rfl⟩) (Nat.le_of_ble_eq_true rfl) ?_
  intro X Qf ad C hn hR hr
  unfold f_W_favourite
  show VF X Qf ad NF 0 0 w 0 [(0, (2, 20)), (1, (2, 6)), (2, (0, v2)), (3, (0, v3)), (4, (0, v4))] [] _
  refine vf_iconst C (z := (-1)) (zdg dz_W_favourite_0 0 rfl) (jz rfl) ?_
  refine vf_istore C (i := 5) (L' := [(0, (2, 20)), (1, (2, 6)), (2, (0, v2)), (3, (0, v3)), (4, (0, v4))]) (zdg dz_W_favourite_0 1 rfl) [0, 1, 2, 3, 4] (jrI rfl rfl) hn (by decide) ?_
  refine vf_iconst C (z := (-1)) (zdg dz_W_favourite_0 2 rfl) (jz rfl) ?_
  refine vf_istore C (i := 6) (L' := [(5, (0, (-1))), (0, (2, 20)), (1, (2, 6)), (2, (0, v2)), (3, (0, v3)), (4, (0, v4))]) (zdg dz_W_favourite_0 3 rfl) [0, 1, 2, 3, 4, 5] (jrI rfl rfl) hn (by decide) ?_
  refine vf_iconst C (z := 0) (zdg dz_W_favourite_0 4 rfl) (jz rfl) ?_
  refine vf_istore C (i := 7) (L' := [(6, (0, (-1))), (5, (0, (-1))), (0, (2, 20)), (1, (2, 6)), (2, (0, v2)), (3, (0, v3)), (4, (0, v4))]) (zdg dz_W_favourite_0 5 rfl) [0, 1, 2, 3, 4, 5, 6] (jrI rfl rfl) hn (by decide) ?_
  exact vf_perm [3, 4, 5, 6, 7, 2, 1, 0] rfl (t_W_favourite_9 C hn hR hr FU _ _ _ _ _ _ _)
def f_P_follow_104 (k7 : Int → Int → Wd → Option (Int × Wd)) (v3 v4 : Int) (w : Wd) : Option (Int × Wd) :=
  jlet (w32 (v4 + 1)) fun x9 =>
  k7 v3 x9 w
theorem t_P_follow_104 {X : jX} {Qf : Int × Wd → State → Prop} {ad : Nat → Nat} (C : Cx X prog_8_method_9_code "EachBringsAnother$Plan") (hn : xn X = 7) (hR : xR X = rmD 6) (hr : Rt X Qf ad prog_8_method_9_code 9) {k7 : Int → Int → Wd → Option (Int × Wd)} (hk7 : ∀ (v3 v4 : Int) (w : Wd), VF X Qf ad NF 0 0 w 7 [(0, (2, 13)), (1, (2, 20)), (2, (2, 6)), (3, (0, v3)), (4, (0, v4))] [] (k7 v3 v4 w)) (v3 v4 : Int) (w : Wd) : VF X Qf ad NF 0 0 w 104 [(0, (2, 13)), (1, (2, 20)), (2, (2, 6)), (3, (0, v3)), (4, (0, v4))] [] (f_P_follow_104 k7 v3 v4 w) := by
  unfold f_P_follow_104
  refine vf_iinc C (z := 1) (L' := [(0, (2, 13)), (1, (2, 20)), (2, (2, 6)), (3, (0, v3))]) (zdg dz_P_follow_2 9 rfl) 4 rfl [0, 1, 2, 3] (jrI rfl rfl) hn (by decide) ?_
  generalize w32 (v4 + 1) = x9
  refine vf_ul ?_
  refine vf_goto C (off := (-100)) (tgt := 7) (zdg dz_P_follow_2 10 rfl) (by decide) ?_
  exact vf_perm [1, 2, 3, 4, 0] rfl (hk7 _ _ _)
def f_P_follow_51 (k7 : Int → Int → Wd → Option (Int × Wd)) (v3 v4 s0 : Int) (w : Wd) : Option (Int × Wd) :=
  jcall (f_W_favourite v4 s0 v3 w) fun r7 u8 =>
  if r7 = (-1) then
    f_P_follow_104 k7 v3 v4 u8
  else
    jcall (f_F_guestsAfter (ior (ior (u8 12 3) (ishl 1 v4)) (ishl 1 r7)) u8) fun r10 u11 =>
    if (u11 5 8) < r10 then
      f_P_follow_104 k7 v3 v4 u11
    else
      jcall (f_P_add v4 r7 u11) fun r12 u13 =>
      f_P_follow_104 k7 v3 v4 u13
theorem t_P_follow_51 {X : jX} {Qf : Int × Wd → State → Prop} {ad : Nat → Nat} (C : Cx X prog_8_method_9_code "EachBringsAnother$Plan") (hn : xn X = 7) (hR : xR X = rmD 6) (hr : Rt X Qf ad prog_8_method_9_code 9) {k7 : Int → Int → Wd → Option (Int × Wd)} (hk7 : ∀ (v3 v4 : Int) (w : Wd), VF X Qf ad NF 0 0 w 7 [(0, (2, 13)), (1, (2, 20)), (2, (2, 6)), (3, (0, v3)), (4, (0, v4))] [] (k7 v3 v4 w)) (v3 v4 s0 : Int) (w : Wd) : VF X Qf ad NF 0 0 w 51 [(0, (2, 13)), (1, (2, 20)), (2, (2, 6)), (3, (0, v3)), (4, (0, v4))] [(0, s0)] (f_P_follow_51 k7 v3 v4 s0 w) := by
  unfold f_P_follow_51
  refine vf_istore C (i := 5) (L' := [(0, (2, 13)), (1, (2, 20)), (2, (2, 6)), (3, (0, v3)), (4, (0, v4))]) (zdg dz_P_follow_1 3 rfl) [0, 1, 2, 3, 4] (jrI rfl rfl) hn (by decide) ?_
  refine vf_aload_n C (f := 1) (zdg dz_P_follow_1 4 rfl) 2 rfl rfl ?_
  refine vf_aload_n C (f := 2) (zdg dz_P_follow_1 5 rfl) 3 rfl rfl ?_
  refine vf_iload C (zdg dz_P_follow_1 6 rfl) 5 rfl ?_
  refine vf_iload C (zdg dz_P_follow_1 7 rfl) 0 rfl ?_
  refine vf_iload_n C (f := 3) (zdg dz_P_follow_1 8 rfl) 4 rfl rfl ?_
  refine vf_callVi C cy_W_favourite ml_P_62 rfl (ct_W_favourite _ _ _ _) (S := []) sh_19 (by decide) rfl (jrm_of hR rfl) rfl rfl (Nat.le_of_ble_eq_true rfl) (zdg dz_P_follow_1 9 rfl) (fun r7 u8 => ?_)
  refine vf_istore C (i := 6) (L' := [(0, (2, 13)), (1, (2, 20)), (2, (2, 6)), (3, (0, v3)), (4, (0, v4))]) (zdg dz_P_follow_1 10 rfl) [1, 2, 3, 4, 5] (jrI rfl rfl) hn (by decide) ?_
  refine vf_iload C (zdg dz_P_follow_1 11 rfl) 0 rfl ?_
  refine vf_iconst C (z := (-1)) (zdg dz_P_follow_1 12 rfl) (jz rfl) ?_
  refine vf_icmp_eq C (off := 36) (tgt := 104) (zdg dz_P_follow_1 13 rfl) (by decide) ?_ ?_
  · exact vf_perm [1, 2, 3, 4, 5] rfl (t_P_follow_104 C hn hR hr hk7 _ _ _)
  · refine vf_aload_n C (f := 2) (zdg dz_P_follow_1 14 rfl) 3 rfl rfl ?_
    refine vf_aload_n C (f := 0) (zdg dz_P_follow_1 15 rfl) 1 rfl rfl ?_
    refine vf_get C (kd := 0) fl_P_22 sh_12 rfl (by decide) rfl rfl (zdg dz_P_follow_1 16 rfl) ?_
    refine vf_iconst C (z := 1) (zdg dz_P_follow_1 17 rfl) (jz rfl) ?_
    refine vf_iload C (zdg dz_P_follow_1 18 rfl) 5 rfl ?_
    refine vf_ishl C (zdg dz_P_follow_1 19 rfl) ?_
    refine vf_ior C (zdg dz_P_follow_1 20 rfl) ?_
    refine vf_iconst C (z := 1) (zdg dz_P_follow_1 21 rfl) (jz rfl) ?_
    refine vf_iload C (zdg dz_P_follow_1 22 rfl) 0 rfl ?_
    refine vf_ishl C (zdg dz_P_follow_1 23 rfl) ?_
    refine vf_ior C (zdg dz_P_follow_2 0 rfl) ?_
    refine vf_callVi C cy_F_guestsAfter ml_P_68 rfl (ct_F_guestsAfter _ _) (S := []) sh_5 (by decide) rfl (jrm_of hR rfl) rfl rfl (Nat.le_of_ble_eq_true rfl) (zdg dz_P_follow_2 1 rfl) (fun r10 u11 => ?_)
    refine vf_aload_n C (f := 2) (zdg dz_P_follow_2 2 rfl) 3 rfl rfl ?_
    refine vf_get C (kd := 0) fl_P_71 sh_5 rfl (by decide) rfl rfl (zdg dz_P_follow_2 3 rfl) ?_
    refine vf_icmp_gt C (off := 11) (tgt := 104) (zdg dz_P_follow_2 4 rfl) (by decide) ?_ ?_
    · exact vf_perm [1, 2, 3, 4, 5] rfl (t_P_follow_104 C hn hR hr hk7 _ _ _)
    · refine vf_aload_n C (f := 0) (zdg dz_P_follow_2 5 rfl) 1 rfl rfl ?_
      refine vf_iload C (zdg dz_P_follow_2 6 rfl) 5 rfl ?_
      refine vf_iload C (zdg dz_P_follow_2 7 rfl) 0 rfl ?_
      refine vf_callVv C cy_P_add ml_P_37 rfl (ct_P_add _ _ _) (S := []) sh_12 (by decide) rfl (jrm_of hR rfl) rfl rfl (Nat.le_of_ble_eq_true rfl) (zdg dz_P_follow_2 8 rfl) (fun r12 u13 => ?_)
      exact vf_perm [1, 2, 3, 4, 5] rfl (t_P_follow_104 C hn hR hr hk7 _ _ _)
def f_P_follow_7 : Nat → Int → Int → Wd → Option (Int × Wd)
  | 0, _, _, _ => none
  | n + 1, v3, v4, w =>
    if (w 5 3) ≤ v4 then
      some (0, w)
    else
      jcall (f_F_guests w) fun r3 u4 =>
      jcall (f_E_has r3 v4 u4) fun r5 u6 =>
      if r5 = 0 then
        f_P_follow_51 (f_P_follow_7 n) v3 v4 0 u6
      else
        jgd ((0 : Int) ≤ v4 ∧ v4 < 10) <|
        jcall (f_F_free u6) fun r14 u15 =>
        f_P_follow_51 (f_P_follow_7 n) v3 v4 (iand (iand (u6 7 v4.toNat) r14) (ixor (u15 12 3) (-1))) u15
theorem t_P_follow_7 {X : jX} {Qf : Int × Wd → State → Prop} {ad : Nat → Nat} (C : Cx X prog_8_method_9_code "EachBringsAnother$Plan") (hn : xn X = 7) (hR : xR X = rmD 6) (hr : Rt X Qf ad prog_8_method_9_code 9) : ∀ (n : Nat) (v3 v4 : Int) (w : Wd), VF X Qf ad NF 0 0 w 7 [(0, (2, 13)), (1, (2, 20)), (2, (2, 6)), (3, (0, v3)), (4, (0, v4))] [] (f_P_follow_7 n v3 v4 w) := by
  intro n
  induction n with
  | zero => intros; exact vf_no
  | succ n ih =>
    intro v3 v4 w
    rw [f_P_follow_7]
    refine vf_iload C (zdg dz_P_follow_0 4 rfl) 4 rfl ?_
    refine vf_aload_n C (f := 2) (zdg dz_P_follow_0 5 rfl) 2 rfl rfl ?_
    refine vf_get C (kd := 0) fl_P_58 sh_5 rfl (by decide) rfl rfl (zdg dz_P_follow_0 6 rfl) ?_
    refine vf_icmp_ge C (off := 97) (tgt := 110) (zdg dz_P_follow_0 7 rfl) (by decide) ?_ ?_
    · exact hr _ _ _ _ (fun h => absurd h (by decide)) (zdg dz_P_follow_2 11 rfl)
    · refine vf_aload_n C (f := 2) (zdg dz_P_follow_0 8 rfl) 2 rfl rfl ?_
      refine vf_callVi C cy_F_guests ml_P_41 rfl (ct_F_guests _) (S := []) sh_5 (by decide) rfl (jrm_of hR rfl) rfl rfl (Nat.le_of_ble_eq_true rfl) (zdg dz_P_follow_0 9 rfl) (fun r3 u4 => ?_)
      refine vf_iload C (zdg dz_P_follow_0 10 rfl) 4 rfl ?_
      refine vf_callSz C cy_E_has ml_P_47 (ct_E_has _ _ _) (S := []) (jrm_of hR rfl) rfl rfl (Nat.le_of_ble_eq_true rfl) (zdg dz_P_follow_0 11 rfl) (fun r5 u6 => ?_)
      refine vf_if_eq C (off := 25) (tgt := 50) (zdg dz_P_follow_0 12 rfl) (by decide) ?_ ?_
      · refine vf_iconst C (z := 0) (zdg dz_P_follow_1 2 rfl) (jz rfl) ?_
        exact t_P_follow_51 C hn hR hr ih _ _ _ _
      · refine vf_aload_n C (f := 2) (zdg dz_P_follow_0 13 rfl) 2 rfl rfl ?_
        refine vf_getp C fl_P_59 sh_5 rfl (by decide) rfl (x := 8) rfl (zdg dz_P_follow_0 14 rfl) ?_
        refine vf_iload C (zdg dz_P_follow_0 15 rfl) 4 rfl ?_
        refine vf_iald C sh_7 (by decide) rfl (mz := 10) rfl (zdg dz_P_follow_0 16 rfl) ?_
        refine vf_aload_n C (f := 2) (zdg dz_P_follow_0 17 rfl) 2 rfl rfl ?_
        refine vf_callVi C cy_F_free ml_P_55 rfl (ct_F_free _) (S := [(0, u6 7 v4.toNat)]) sh_5 (by decide) rfl (jrm_of hR rfl) rfl rfl (Nat.le_of_ble_eq_true rfl) (zdg dz_P_follow_0 18 rfl) (fun r14 u15 => ?_)
        refine vf_iand C (zdg dz_P_follow_0 19 rfl) ?_
        refine vf_aload_n C (f := 0) (zdg dz_P_follow_0 20 rfl) 0 rfl rfl ?_
        refine vf_get C (kd := 0) fl_P_22 sh_12 rfl (by decide) rfl rfl (zdg dz_P_follow_0 21 rfl) ?_
        refine vf_iconst C (z := (-1)) (zdg dz_P_follow_0 22 rfl) (jz rfl) ?_
        refine vf_ixor C (zdg dz_P_follow_0 23 rfl) ?_
        refine vf_iand C (zdg dz_P_follow_1 0 rfl) ?_
        refine vf_goto C (off := 4) (tgt := 51) (zdg dz_P_follow_1 1 rfl) (by decide) ?_
        exact t_P_follow_51 C hn hR hr ih _ _ _ _
def f_P_follow (v3 : Int) (w : Wd) : Option (Int × Wd) :=
  jcall (f_P_clear w) fun r1 u2 =>
  f_P_follow_7 FU v3 0 u2
theorem ct_P_follow (v3 : Int) (w : Wd) : Ct y_P_follow prog_8_method_9_code 7 none 6 9 [(2, 13), (2, 20), (2, 6), (0, v3)] w (f_P_follow v3 w) := by
  refine ct_of (by decide +kernel) (Or.inr (Or.inr (Or.inr ⟨rfl, rfl⟩))) (Nat.le_of_ble_eq_true rfl) ?_
  intro X Qf ad C hn hR hr
  unfold f_P_follow
  show VF X Qf ad NF 0 0 w 0 [(0, (2, 13)), (1, (2, 20)), (2, (2, 6)), (3, (0, v3))] [] _
  refine vf_aload_n C (f := 0) (zdg dz_P_follow_0 0 rfl) 0 rfl rfl ?_
  refine vf_callVv C cy_P_clear ml_P_25 rfl (ct_P_clear _) (S := []) sh_12 (by decide) rfl (jrm_of hR rfl) rfl rfl (Nat.le_of_ble_eq_true rfl) (zdg dz_P_follow_0 1 rfl) (fun r1 u2 => ?_)
  refine vf_iconst C (z := 0) (zdg dz_P_follow_0 2 rfl) (jz rfl) ?_
  refine vf_istore C (i := 4) (L' := [(0, (2, 13)), (1, (2, 20)), (2, (2, 6)), (3, (0, v3))]) (zdg dz_P_follow_0 3 rfl) [0, 1, 2, 3] (jrI rfl rfl) hn (by decide) ?_
  exact vf_perm [1, 2, 3, 4, 0] rfl (t_P_follow_7 C hn hR hr FU _ _ _)
def f_E_goes_75 (v2 v3 : Int) (w : Wd) : Option (Int × Wd) :=
  jcall (f_F_guests w) fun r3 u4 =>
  jcall (f_N_tell2 r3 v3 u4) fun r5 u6 =>
  some (v2, u6)
theorem t_E_goes_75 {X : jX} {Qf : Int × Wd → State → Prop} {ad : Nat → Nat} (C : Cx X prog_1_method_13_code "EachBringsAnother") (hn : xn X = 4) (hR : xR X = rmD 7) (hr : Rt X Qf ad prog_1_method_13_code 0) (v2 v3 : Int) (w : Wd) : VF X Qf ad NF 0 0 w 75 [(0, (2, 1)), (2, (0, v2)), (3, (0, v3))] [] (f_E_goes_75 v2 v3 w) := by
  unfold f_E_goes_75
  refine vf_aload_n C (f := 0) (zdg dz_E_goes_1 14 rfl) 0 rfl rfl ?_
  refine vf_getp C fl_E_19 sh_0 rfl (by decide) rfl (x := 4) rfl (zdg dz_E_goes_1 15 rfl) ?_
  refine vf_aload_n C (f := 0) (zdg dz_E_goes_1 16 rfl) 0 rfl rfl ?_
  refine vf_getp C fl_E_26 sh_0 rfl (by decide) rfl (x := 6) rfl (zdg dz_E_goes_1 17 rfl) ?_
  refine vf_callVi C cy_F_guests ml_E_136 rfl (ct_F_guests _) (S := [(2, 4)]) sh_5 (by decide) rfl (jrm_of hR rfl) rfl rfl (Nat.le_of_ble_eq_true rfl) (zdg dz_E_goes_1 18 rfl) (fun r3 u4 => ?_)
  refine vf_iload_n C (f := 3) (zdg dz_E_goes_1 19 rfl) 2 rfl rfl ?_
  refine vf_callVv C cy_N_tell2 ml_E_216 rfl (ct_N_tell2 _ _ _) (S := []) sh_3 (by decide) rfl (jrm_of hR rfl) rfl rfl (Nat.le_of_ble_eq_true rfl) (zdg dz_E_goes_1 20 rfl) (fun r5 u6 => ?_)
  refine vf_iload_n C (f := 2) (zdg dz_E_goes_1 21 rfl) 1 rfl rfl ?_
  exact hr _ _ _ _ (fun h => absurd h (by decide)) (zdg dz_E_goes_1 22 rfl)
def f_E_goes_13 : Nat → Int → Int → Int → Wd → Option (Int × Wd)
  | 0, _, _, _, _ => none
  | n + 1, v1, v2, v3, w =>
    if v1 ≤ v2 then
      f_E_goes_75 v2 v3 w
    else
      if (60 : Int) ≤ (w 15 3) then
        f_E_goes_75 v2 v3 w
      else
        jcall (f_F_guests w) fun r7 u8 =>
        if r7 = 0 then
          f_E_goes_75 v2 v3 u8
        else
          jcall (f_P_follow (u8 15 3) u8) fun r9 u10 =>
          jcall (f_E_pass u10) fun r11 u12 =>
          jlet (w32 (v3 + r11)) fun x13 =>
          jlet (w32 (v2 + 1)) fun x14 =>
          f_E_goes_13 n v1 x14 x13 u12
theorem t_E_goes_13 {X : jX} {Qf : Int × Wd → State → Prop} {ad : Nat → Nat} (C : Cx X prog_1_method_13_code "EachBringsAnother") (hn : xn X = 4) (hR : xR X = rmD 7) (hr : Rt X Qf ad prog_1_method_13_code 0) : ∀ (n : Nat) (v1 v2 v3 : Int) (w : Wd), VF X Qf ad NF 0 0 w 13 [(0, (2, 1)), (1, (0, v1)), (2, (0, v2)), (3, (0, v3))] [] (f_E_goes_13 n v1 v2 v3 w) := by
  intro n
  induction n with
  | zero => intros; exact vf_no
  | succ n ih =>
    intro v1 v2 v3 w
    rw [f_E_goes_13]
    refine vf_iload_n C (f := 2) (zdg dz_E_goes_0 9 rfl) 2 rfl rfl ?_
    refine vf_iload_n C (f := 1) (zdg dz_E_goes_0 10 rfl) 1 rfl rfl ?_
    refine vf_icmp_ge C (off := 60) (tgt := 75) (zdg dz_E_goes_0 11 rfl) (by decide) ?_ ?_
    · exact vf_perm [0, 2, 3] rfl (t_E_goes_75 C hn hR hr _ _ _)
    · refine vf_aload_n C (f := 0) (zdg dz_E_goes_0 12 rfl) 0 rfl rfl ?_
      refine vf_getp C fl_E_47 sh_0 rfl (by decide) rfl (x := 16) rfl (zdg dz_E_goes_0 13 rfl) ?_
      refine vf_get C (kd := 0) fl_E_192 sh_15 rfl (by decide) rfl rfl (zdg dz_E_goes_0 14 rfl) ?_
      refine vf_bipush C (z := 60) (zdg dz_E_goes_0 15 rfl) (by decide +kernel) (jz rfl) ?_
      refine vf_icmp_ge C (off := 48) (tgt := 75) (zdg dz_E_goes_0 16 rfl) (by decide) ?_ ?_
      · exact vf_perm [0, 2, 3] rfl (t_E_goes_75 C hn hR hr _ _ _)
      · refine vf_aload_n C (f := 0) (zdg dz_E_goes_0 17 rfl) 0 rfl rfl ?_
        refine vf_getp C fl_E_26 sh_0 rfl (by decide) rfl (x := 6) rfl (zdg dz_E_goes_0 18 rfl) ?_
        refine vf_callVi C cy_F_guests ml_E_136 rfl (ct_F_guests _) (S := []) sh_5 (by decide) rfl (jrm_of hR rfl) rfl rfl (Nat.le_of_ble_eq_true rfl) (zdg dz_E_goes_0 19 rfl) (fun r7 u8 => ?_)
        refine vf_if_eq C (off := 38) (tgt := 75) (zdg dz_E_goes_0 20 rfl) (by decide) ?_ ?_
        · exact vf_perm [0, 2, 3] rfl (t_E_goes_75 C hn hR hr _ _ _)
        · refine vf_aload_n C (f := 0) (zdg dz_E_goes_0 21 rfl) 0 rfl rfl ?_
          refine vf_getp C fl_E_40 sh_0 rfl (by decide) rfl (x := 13) rfl (zdg dz_E_goes_0 22 rfl) ?_
          refine vf_aload_n C (f := 0) (zdg dz_E_goes_0 23 rfl) 0 rfl rfl ?_
          refine vf_getp C fl_E_54 sh_0 rfl (by decide) rfl (x := 20) rfl (zdg dz_E_goes_1 0 rfl) ?_
          refine vf_aload_n C (f := 0) (zdg dz_E_goes_1 1 rfl) 0 rfl rfl ?_
          refine vf_getp C fl_E_26 sh_0 rfl (by decide) rfl (x := 6) rfl (zdg dz_E_goes_1 2 rfl) ?_
          refine vf_aload_n C (f := 0) (zdg dz_E_goes_1 3 rfl) 0 rfl rfl ?_
          refine vf_getp C fl_E_47 sh_0 rfl (by decide) rfl (x := 16) rfl (zdg dz_E_goes_1 4 rfl) ?_
          refine vf_get C (kd := 0) fl_E_192 sh_15 rfl (by decide) rfl rfl (zdg dz_E_goes_1 5 rfl) ?_
          refine vf_callVv C cy_P_follow ml_E_212 rfl (ct_P_follow _ _) (S := []) sh_12 (by decide) rfl (jrm_of hR rfl) rfl rfl (Nat.le_of_ble_eq_true rfl) (zdg dz_E_goes_1 6 rfl) (fun r9 u10 => ?_)
          refine vf_iload_n C (f := 3) (zdg dz_E_goes_1 7 rfl) 3 rfl rfl ?_
          refine vf_aload_n C (f := 0) (zdg dz_E_goes_1 8 rfl) 0 rfl rfl ?_
          refine vf_callVi C cy_E_pass ml_E_206 rfl (ct_E_pass _) (S := [(0, v3)]) sh_0 (by decide) rfl (jrm_of hR rfl) rfl rfl (Nat.le_of_ble_eq_true rfl) (zdg dz_E_goes_1 9 rfl) (fun r11 u12 => ?_)
          refine vf_iadd C (zdg dz_E_goes_1 10 rfl) ?_
          generalize w32 (v3 + r11) = x13
          refine vf_ul ?_
          refine vf_istore_n C (f := 3) (L' := [(0, (2, 1)), (1, (0, v1)), (2, (0, v2))]) (zdg dz_E_goes_1 11 rfl) [0, 1, 2] (jrI rfl rfl) hn (by decide) rfl ?_
          refine vf_iinc C (z := 1) (L' := [(3, (0, x13)), (0, (2, 1)), (1, (0, v1))]) (zdg dz_E_goes_1 12 rfl) 3 rfl [0, 1, 2] (jrI rfl rfl) hn (by decide) ?_
          generalize w32 (v2 + 1) = x14
          refine vf_ul ?_
          refine vf_goto C (off := (-59)) (tgt := 13) (zdg dz_E_goes_1 13 rfl) (by decide) ?_
          exact vf_perm [2, 3, 0, 1] rfl (ih _ _ _ _)
def f_E_goes (v1 : Int) (w : Wd) : Option (Int × Wd) :=
  jcall (f_E_isWeek v1 w) fun r1 u2 =>
  if r1 = 0 then
    some ((-1), u2)
  else
    f_E_goes_13 FU v1 0 0 u2
theorem ct_E_goes (v1 : Int) (w : Wd) : Ct y_E_goes prog_1_method_13_code 4 (some .int) 7 0 [(2, 1), (0, v1)] w (f_E_goes v1 w) := by
  refine ct_of (by decide +kernel) (Or.inl ⟨rfl, rfl⟩) (Nat.le_of_ble_eq_true rfl) ?_
  intro X Qf ad C hn hR hr
  unfold f_E_goes
  show VF X Qf ad NF 0 0 w 0 [(0, (2, 1)), (1, (0, v1))] [] _
  refine vf_iload_n C (f := 1) (zdg dz_E_goes_0 0 rfl) 1 rfl rfl ?_
  refine vf_callSz C cy_E_isWeek ml_E_209 (ct_E_isWeek _ _) (S := []) (jrm_of hR rfl) rfl rfl (Nat.le_of_ble_eq_true rfl) (zdg dz_E_goes_0 1 rfl) (fun r1 u2 => ?_)
  refine vf_if_ne C (off := 5) (tgt := 9) (zdg dz_E_goes_0 2 rfl) (by decide) ?_ ?_
  · refine vf_iconst C (z := 0) (zdg dz_E_goes_0 5 rfl) (jz rfl) ?_
    refine vf_istore_n C (f := 2) (L' := [(0, (2, 1)), (1, (0, v1))]) (zdg dz_E_goes_0 6 rfl) [0, 1] (jrI rfl rfl) hn (by decide) rfl ?_
    refine vf_iconst C (z := 0) (zdg dz_E_goes_0 7 rfl) (jz rfl) ?_
    refine vf_istore_n C (f := 3) (L' := [(2, (0, 0)), (0, (2, 1)), (1, (0, v1))]) (zdg dz_E_goes_0 8 rfl) [0, 1, 2] (jrI rfl rfl) hn (by decide) rfl ?_
    exact vf_perm [2, 3, 1, 0] rfl (t_E_goes_13 C hn hR hr FU _ _ _ _)
  · refine vf_iconst C (z := (-1)) (zdg dz_E_goes_0 3 rfl) (jz rfl) ?_
    exact hr _ _ _ _ (fun h => absurd h (by decide)) (zdg dz_E_goes_0 4 rfl)
def f_D_goBack_96 (k70 : Int → Wd → Option (Int × Wd)) (v2 : Int) (w : Wd) : Option (Int × Wd) :=
  jlet (w32 (v2 + 1)) fun x11 =>
  k70 x11 w
theorem t_D_goBack_96 {X : jX} {Qf : Int × Wd → State → Prop} {ad : Nat → Nat} (C : Cx X prog_2_method_7_code "EachBringsAnother$Diary") (hn : xn X = 3) (hR : xR X = rmD 3) (hr : Rt X Qf ad prog_2_method_7_code 4) {k70 : Int → Wd → Option (Int × Wd)} (hk70 : ∀ (v2 : Int) (w : Wd), VF X Qf ad NF 0 0 w 70 [(1, (2, 6)), (2, (0, v2))] [] (k70 v2 w)) (v2 : Int) (w : Wd) : VF X Qf ad NF 0 0 w 96 [(1, (2, 6)), (2, (0, v2))] [] (f_D_goBack_96 k70 v2 w) := by
  unfold f_D_goBack_96
  refine vf_iinc C (z := 1) (L' := [(1, (2, 6))]) (zdg dz_D_goBack_2 6 rfl) 1 rfl [0] (jrI rfl rfl) hn (by decide) ?_
  generalize w32 (v2 + 1) = x11
  refine vf_ul ?_
  refine vf_goto C (off := (-29)) (tgt := 70) (zdg dz_D_goBack_2 7 rfl) (by decide) ?_
  exact vf_perm [1, 0] rfl (hk70 _ _)
def f_D_goBack_70 : Nat → Int → Wd → Option (Int × Wd)
  | 0, _, _ => none
  | n + 1, v2, w =>
    if (w 5 3) ≤ v2 then
      some (1, w)
    else
      jcall (f_F_strangers w) fun r7 u8 =>
      jcall (f_E_has r7 v2 u8) fun r9 u10 =>
      if r9 = 0 then
        f_D_goBack_96 (f_D_goBack_70 n) v2 u10
      else
        jgd ((0 : Int) ≤ v2 ∧ v2 < 10) <|
        jlw (st u10 8 v2.toNat (-1)) fun u12 =>
        f_D_goBack_96 (f_D_goBack_70 n) v2 u12
theorem t_D_goBack_70 {X : jX} {Qf : Int × Wd → State → Prop} {ad : Nat → Nat} (C : Cx X prog_2_method_7_code "EachBringsAnother$Diary") (hn : xn X = 3) (hR : xR X = rmD 3) (hr : Rt X Qf ad prog_2_method_7_code 4) : ∀ (n : Nat) (v2 : Int) (w : Wd), VF X Qf ad NF 0 0 w 70 [(1, (2, 6)), (2, (0, v2))] [] (f_D_goBack_70 n v2 w) := by
  intro n
  induction n with
  | zero => intros; exact vf_no
  | succ n ih =>
    intro v2 w
    rw [f_D_goBack_70]
    refine vf_iload_n C (f := 2) (zdg dz_D_goBack_1 16 rfl) 1 rfl rfl ?_
    refine vf_aload_n C (f := 1) (zdg dz_D_goBack_1 17 rfl) 0 rfl rfl ?_
    refine vf_get C (kd := 0) fl_D_48 sh_5 rfl (by decide) rfl rfl (zdg dz_D_goBack_1 18 rfl) ?_
    refine vf_icmp_ge C (off := 27) (tgt := 102) (zdg dz_D_goBack_1 19 rfl) (by decide) ?_ ?_
    · refine vf_iconst C (z := 1) (zdg dz_D_goBack_2 8 rfl) (jz rfl) ?_
      exact hr _ _ _ _ (fun _ => Or.inr rfl) (zdg dz_D_goBack_2 9 rfl)
    · refine vf_aload_n C (f := 1) (zdg dz_D_goBack_1 20 rfl) 0 rfl rfl ?_
      refine vf_callVi C cy_F_strangers ml_D_51 rfl (ct_F_strangers _) (S := []) sh_5 (by decide) rfl (jrm_of hR rfl) rfl rfl (Nat.le_of_ble_eq_true rfl) (zdg dz_D_goBack_1 21 rfl) (fun r7 u8 => ?_)
      refine vf_iload_n C (f := 2) (zdg dz_D_goBack_1 22 rfl) 1 rfl rfl ?_
      refine vf_callSz C cy_E_has ml_D_33 (ct_E_has _ _ _) (S := []) (jrm_of hR rfl) rfl rfl (Nat.le_of_ble_eq_true rfl) (zdg dz_D_goBack_1 23 rfl) (fun r9 u10 => ?_)
      refine vf_if_eq C (off := 10) (tgt := 96) (zdg dz_D_goBack_2 0 rfl) (by decide) ?_ ?_
      · exact t_D_goBack_96 C hn hR hr ih _ _
      · refine vf_aload_n C (f := 1) (zdg dz_D_goBack_2 1 rfl) 0 rfl rfl ?_
        refine vf_getp C fl_D_55 sh_5 rfl (by decide) rfl (x := 9) rfl (zdg dz_D_goBack_2 2 rfl) ?_
        refine vf_iload_n C (f := 2) (zdg dz_D_goBack_2 3 rfl) 1 rfl rfl ?_
        refine vf_iconst C (z := (-1)) (zdg dz_D_goBack_2 4 rfl) (jz rfl) ?_
        refine vf_iast C sh_8 (by decide) rfl (mz := 10) rfl (zdg dz_D_goBack_2 5 rfl) ?_
        generalize st u10 8 v2.toNat (-1) = u12
        refine vf_uw ?_
        exact t_D_goBack_96 C hn hR hr ih _ _
def f_D_goBack (w : Wd) : Option (Int × Wd) :=
  if (w 15 4) = 0 then
    some (0, w)
  else
    jcall (f_D_isOne (w32 ((w 15 3) - 1)) w) fun r1 u2 =>
    if r1 = 0 then
      some (0, u2)
    else
      jlw (st u2 15 4 (w32 ((u2 15 4) - 1))) fun u3 =>
      jlw (st u3 15 3 (w32 ((u3 15 3) - 1))) fun u4 =>
      jgd ((0 : Int) ≤ (u4 15 3) ∧ (u4 15 3) < 61) <|
      jlw (st u4 5 4 (u4 17 (u4 15 3).toNat)) fun u5 =>
      jgd ((0 : Int) ≤ (u5 15 3) ∧ (u5 15 3) < 61) <|
      jlw (st u5 5 6 (u5 18 (u5 15 3).toNat)) fun u6 =>
      f_D_goBack_70 FU 0 u6
theorem ct_D_goBack (w : Wd) : Ct y_D_goBack prog_2_method_7_code 3 (some .boolean) 3 4 [(2, 16), (2, 6)] w (f_D_goBack w) := by
  refine ct_of (by decide +kernel) (Or.inr (Or.inr (Or.inl ⟨rfl, rfl⟩))) (Nat.le_of_ble_eq_true rfl) ?_
  intro X Qf ad C hn hR hr
  unfold f_D_goBack
  show VF X Qf ad NF 0 0 w 0 [(0, (2, 16)), (1, (2, 6))] [] _
  refine vf_aload_n C (f := 0) (zdg dz_D_goBack_0 0 rfl) 0 rfl rfl ?_
  refine vf_get C (kd := 0) fl_D_45 sh_15 rfl (by decide) rfl rfl (zdg dz_D_goBack_0 1 rfl) ?_
  refine vf_if_eq C (off := 16) (tgt := 20) (zdg dz_D_goBack_0 2 rfl) (by decide) ?_ ?_
  · refine vf_iconst C (z := 0) (zdg dz_D_goBack_0 10 rfl) (jz rfl) ?_
    exact hr _ _ _ _ (fun _ => Or.inl rfl) (zdg dz_D_goBack_0 11 rfl)
  · refine vf_aload_n C (f := 0) (zdg dz_D_goBack_0 3 rfl) 0 rfl rfl ?_
    refine vf_aload_n C (f := 0) (zdg dz_D_goBack_0 4 rfl) 0 rfl rfl ?_
    refine vf_get C (kd := 0) fl_D_21 sh_15 rfl (by decide) rfl rfl (zdg dz_D_goBack_0 5 rfl) ?_
    refine vf_iconst C (z := 1) (zdg dz_D_goBack_0 6 rfl) (jz rfl) ?_
    refine vf_isub C (zdg dz_D_goBack_0 7 rfl) ?_
    refine vf_callVz C cy_D_isOne ml_D_25 rfl (ct_D_isOne _ _) (S := []) sh_15 (by decide) rfl (jrm_of hR rfl) rfl rfl (Nat.le_of_ble_eq_true rfl) (zdg dz_D_goBack_0 8 rfl) (fun r1 u2 => ?_)
    refine vf_if_ne C (off := 5) (tgt := 22) (zdg dz_D_goBack_0 9 rfl) (by decide) ?_ ?_
    · refine vf_aload_n C (f := 0) (zdg dz_D_goBack_0 12 rfl) 0 rfl rfl ?_
      refine vf_dup C (zdg dz_D_goBack_0 13 rfl) (Nat.succ_ne_self 1) ?_
      refine vf_get C (kd := 0) fl_D_45 sh_15 rfl (by decide) rfl rfl (zdg dz_D_goBack_0 14 rfl) ?_
      refine vf_iconst C (z := 1) (zdg dz_D_goBack_0 15 rfl) (jz rfl) ?_
      refine vf_isub C (zdg dz_D_goBack_0 16 rfl) ?_
      refine vf_put C (kd := 0) fl_D_45 fk_5_4 sh_15 rfl (by decide) rfl rfl (by decide) (zdg dz_D_goBack_0 17 rfl) ?_
      generalize st u2 15 4 (w32 ((u2 15 4) - 1)) = u3
      refine vf_uw ?_
      refine vf_aload_n C (f := 0) (zdg dz_D_goBack_0 18 rfl) 0 rfl rfl ?_
      refine vf_dup C (zdg dz_D_goBack_0 19 rfl) (Nat.succ_ne_self 1) ?_
      refine vf_get C (kd := 0) fl_D_21 sh_15 rfl (by decide) rfl rfl (zdg dz_D_goBack_0 20 rfl) ?_
      refine vf_iconst C (z := 1) (zdg dz_D_goBack_0 21 rfl) (jz rfl) ?_
      refine vf_isub C (zdg dz_D_goBack_0 22 rfl) ?_
      refine vf_put C (kd := 0) fl_D_21 fk_5_3 sh_15 rfl (by decide) rfl rfl (by decide) (zdg dz_D_goBack_0 23 rfl) ?_
      generalize st u3 15 3 (w32 ((u3 15 3) - 1)) = u4
      refine vf_uw ?_
      refine vf_aload_n C (f := 1) (zdg dz_D_goBack_1 0 rfl) 1 rfl rfl ?_
      refine vf_aload_n C (f := 0) (zdg dz_D_goBack_1 1 rfl) 0 rfl rfl ?_
      refine vf_getp C fl_D_15 sh_15 rfl (by decide) rfl (x := 18) rfl (zdg dz_D_goBack_1 2 rfl) ?_
      refine vf_aload_n C (f := 0) (zdg dz_D_goBack_1 3 rfl) 0 rfl rfl ?_
      refine vf_get C (kd := 0) fl_D_21 sh_15 rfl (by decide) rfl rfl (zdg dz_D_goBack_1 4 rfl) ?_
      refine vf_iald C sh_17 (by decide) rfl (mz := 61) rfl (zdg dz_D_goBack_1 5 rfl) ?_
      refine vf_put C (kd := 0) fl_D_37 fk_2_4 sh_5 rfl (by decide) rfl rfl (by decide) (zdg dz_D_goBack_1 6 rfl) ?_
      generalize st u4 5 4 (u4 17 (u4 15 3).toNat) = u5
      refine vf_uw ?_
      refine vf_aload_n C (f := 1) (zdg dz_D_goBack_1 7 rfl) 1 rfl rfl ?_
      refine vf_aload_n C (f := 0) (zdg dz_D_goBack_1 8 rfl) 0 rfl rfl ?_
      refine vf_getp C fl_D_18 sh_15 rfl (by decide) rfl (x := 19) rfl (zdg dz_D_goBack_1 9 rfl) ?_
      refine vf_aload_n C (f := 0) (zdg dz_D_goBack_1 10 rfl) 0 rfl rfl ?_
      refine vf_get C (kd := 0) fl_D_21 sh_15 rfl (by decide) rfl rfl (zdg dz_D_goBack_1 11 rfl) ?_
      refine vf_iald C sh_18 (by decide) rfl (mz := 61) rfl (zdg dz_D_goBack_1 12 rfl) ?_
      refine vf_put C (kd := 0) fl_D_42 fk_2_6 sh_5 rfl (by decide) rfl rfl (by decide) (zdg dz_D_goBack_1 13 rfl) ?_
      generalize st u5 5 6 (u5 18 (u5 15 3).toNat) = u6
      refine vf_uw ?_
      refine vf_iconst C (z := 0) (zdg dz_D_goBack_1 14 rfl) (jz rfl) ?_
      refine vf_istore_n C (f := 2) (L' := [(1, (2, 6))]) (zdg dz_D_goBack_1 15 rfl) [1] (jrI rfl rfl) hn (by decide) rfl ?_
      exact vf_perm [1, 0] rfl (t_D_goBack_70 C hn hR hr FU _ _)
    · refine vf_iconst C (z := 0) (zdg dz_D_goBack_0 10 rfl) (jz rfl) ?_
      exact hr _ _ _ _ (fun _ => Or.inl rfl) (zdg dz_D_goBack_0 11 rfl)
def f_E_undo (w : Wd) : Option (Int × Wd) :=
  jcall (f_D_goBack w) fun r1 u2 =>
  if r1 = 0 then
    some ((-1), u2)
  else
    jcall (f_S_forget u2) fun r3 u4 =>
    some (u4 15 3, u4)
theorem ct_E_undo (w : Wd) : Ct y_E_undo prog_1_method_14_code 1 (some .int) 4 0 [(2, 1)] w (f_E_undo w) := by
  refine ct_of (by decide +kernel) (Or.inl ⟨rfl, rfl⟩) (Nat.le_of_ble_eq_true rfl) ?_
  intro X Qf ad C hn hR hr
  unfold f_E_undo
  show VF X Qf ad NF 0 0 w 0 [(0, (2, 1))] [] _
  refine vf_aload_n C (f := 0) (zdg dz_E_undo_0 0 rfl) 0 rfl rfl ?_
  refine vf_getp C fl_E_47 sh_0 rfl (by decide) rfl (x := 16) rfl (zdg dz_E_undo_0 1 rfl) ?_
  refine vf_aload_n C (f := 0) (zdg dz_E_undo_0 2 rfl) 0 rfl rfl ?_
  refine vf_getp C fl_E_26 sh_0 rfl (by decide) rfl (x := 6) rfl (zdg dz_E_undo_0 3 rfl) ?_
  refine vf_callVz C cy_D_goBack ml_E_219 rfl (ct_D_goBack _) (S := []) sh_15 (by decide) rfl (jrm_of hR rfl) rfl rfl (Nat.le_of_ble_eq_true rfl) (zdg dz_E_undo_0 4 rfl) (fun r1 u2 => ?_)
  refine vf_if_ne C (off := 5) (tgt := 16) (zdg dz_E_undo_0 5 rfl) (by decide) ?_ ?_
  · refine vf_aload_n C (f := 0) (zdg dz_E_undo_0 8 rfl) 0 rfl rfl ?_
    refine vf_getp C fl_E_68 sh_0 rfl (by decide) rfl (x := 29) rfl (zdg dz_E_undo_0 9 rfl) ?_
    refine vf_callVv C cy_S_forget ml_E_162 rfl (ct_S_forget _) (S := []) sh_28 (by decide) rfl (jrm_of hR rfl) rfl rfl (Nat.le_of_ble_eq_true rfl) (zdg dz_E_undo_0 10 rfl) (fun r3 u4 => ?_)
    refine vf_aload_n C (f := 0) (zdg dz_E_undo_0 11 rfl) 0 rfl rfl ?_
    refine vf_getp C fl_E_47 sh_0 rfl (by decide) rfl (x := 16) rfl (zdg dz_E_undo_0 12 rfl) ?_
    refine vf_get C (kd := 0) fl_E_192 sh_15 rfl (by decide) rfl rfl (zdg dz_E_undo_0 13 rfl) ?_
    exact hr _ _ _ _ (fun h => absurd h (by decide)) (zdg dz_E_undo_0 14 rfl)
  · refine vf_iconst C (z := (-1)) (zdg dz_E_undo_0 6 rfl) (jz rfl) ?_
    exact hr _ _ _ _ (fun h => absurd h (by decide)) (zdg dz_E_undo_0 7 rfl)
def f_M_prepare (v2 v3 v4 : Int) (w : Wd) : Option (Int × Wd) :=
  jlw (st w 24 5 6) fun u1 =>
  jlw (st u1 24 6 v3) fun u2 =>
  jcall (f_F_everybody u2) fun r3 u4 =>
  jcall (f_O_known v2 u4) fun r5 u6 =>
  jlw (st u6 24 7 (iand (iand r3 (ixor r5 (-1))) (ixor (u6 5 5) (-1)))) fun u7 =>
  jcall (f_O_stay v2 (u7 5 7) u7) fun r8 u9 =>
  jlw (st u9 24 8 r8) fun u10 =>
  jlw (st u10 24 9 v4) fun u11 =>
  jlw (st u11 24 3 0) fun u12 =>
  jlw (st u12 24 4 (w32 ((u12 24 4) + 1))) fun u13 =>
  some (0, u13)
theorem ct_M_prepare (v2 v3 v4 : Int) (w : Wd) : Ct y_M_prepare prog_6_method_4_code 5 none 3 9 [(2, 25), (2, 6), (0, v2), (0, v3), (0, v4)] w (f_M_prepare v2 v3 v4 w) := by
  refine ct_of (by decide +kernel) (Or.inr (Or.inr (Or.inr ⟨rfl, rfl⟩))) (Nat.le_of_ble_eq_true rfl) ?_
  intro X Qf ad C hn hR hr
  unfold f_M_prepare
  show VF X Qf ad NF 0 0 w 0 [(0, (2, 25)), (1, (2, 6)), (2, (0, v2)), (3, (0, v3)), (4, (0, v4))] [] _
  refine vf_aload_n C (f := 0) (zdg dz_M_prepare_0 0 rfl) 0 rfl rfl ?_
  refine vf_aload_n C (f := 1) (zdg dz_M_prepare_0 1 rfl) 1 rfl rfl ?_
  refine vf_put C (kd := 2) fl_M_53 fk_8_5 sh_24 rfl (by decide) rfl rfl (by decide) (zdg dz_M_prepare_0 2 rfl) ?_
  generalize st w 24 5 6 = u1
  refine vf_uw ?_
  refine vf_aload_n C (f := 0) (zdg dz_M_prepare_0 3 rfl) 0 rfl rfl ?_
  refine vf_iload_n C (f := 3) (zdg dz_M_prepare_0 4 rfl) 3 rfl rfl ?_
  refine vf_put C (kd := 0) fl_M_57 fk_8_6 sh_24 rfl (by decide) rfl rfl (by decide) (zdg dz_M_prepare_0 5 rfl) ?_
  generalize st u1 24 6 v3 = u2
  refine vf_uw ?_
  refine vf_aload_n C (f := 0) (zdg dz_M_prepare_0 6 rfl) 0 rfl rfl ?_
  refine vf_aload_n C (f := 1) (zdg dz_M_prepare_0 7 rfl) 1 rfl rfl ?_
  refine vf_callVi C cy_F_everybody ml_M_60 rfl (ct_F_everybody _) (S := [(2, 25)]) sh_5 (by decide) rfl (jrm_of hR rfl) rfl rfl (Nat.le_of_ble_eq_true rfl) (zdg dz_M_prepare_0 8 rfl) (fun r3 u4 => ?_)
  refine vf_iload_n C (f := 2) (zdg dz_M_prepare_0 9 rfl) 2 rfl rfl ?_
  refine vf_callSi C cy_O_known ml_M_64 (ct_O_known _ _) (S := [(0, r3), (2, 25)]) (jrm_of hR rfl) rfl rfl (Nat.le_of_ble_eq_true rfl) (zdg dz_M_prepare_0 10 rfl) (fun r5 u6 => ?_)
  refine vf_iconst C (z := (-1)) (zdg dz_M_prepare_0 11 rfl) (jz rfl) ?_
  refine vf_ixor C (zdg dz_M_prepare_0 12 rfl) ?_
  refine vf_iand C (zdg dz_M_prepare_0 13 rfl) ?_
  refine vf_aload_n C (f := 1) (zdg dz_M_prepare_0 14 rfl) 1 rfl rfl ?_
  refine vf_get C (kd := 0) fl_M_67 sh_5 rfl (by decide) rfl rfl (zdg dz_M_prepare_0 15 rfl) ?_
  refine vf_iconst C (z := (-1)) (zdg dz_M_prepare_0 16 rfl) (jz rfl) ?_
  refine vf_ixor C (zdg dz_M_prepare_0 17 rfl) ?_
  refine vf_iand C (zdg dz_M_prepare_0 18 rfl) ?_
  refine vf_put C (kd := 0) fl_M_70 fk_8_7 sh_24 rfl (by decide) rfl rfl (by decide) (zdg dz_M_prepare_0 19 rfl) ?_
  generalize st u6 24 7 (iand (iand r3 (ixor r5 (-1))) (ixor (u6 5 5) (-1))) = u7
  refine vf_uw ?_
  refine vf_aload_n C (f := 0) (zdg dz_M_prepare_0 20 rfl) 0 rfl rfl ?_
  refine vf_iload_n C (f := 2) (zdg dz_M_prepare_0 21 rfl) 2 rfl rfl ?_
  refine vf_aload_n C (f := 1) (zdg dz_M_prepare_0 22 rfl) 1 rfl rfl ?_
  refine vf_get C (kd := 0) fl_M_73 sh_5 rfl (by decide) rfl rfl (zdg dz_M_prepare_0 23 rfl) ?_
  refine vf_callSi C cy_O_stay ml_M_76 (ct_O_stay _ _ _) (S := [(2, 25)]) (jrm_of hR rfl) rfl rfl (Nat.le_of_ble_eq_true rfl) (zdg dz_M_prepare_1 0 rfl) (fun r8 u9 => ?_)
  refine vf_put C (kd := 0) fl_M_44 fk_8_8 sh_24 rfl (by decide) rfl rfl (by decide) (zdg dz_M_prepare_1 1 rfl) ?_
  generalize st u9 24 8 r8 = u10
  refine vf_uw ?_
  refine vf_aload_n C (f := 0) (zdg dz_M_prepare_1 2 rfl) 0 rfl rfl ?_
  refine vf_iload C (zdg dz_M_prepare_1 3 rfl) 4 rfl ?_
  refine vf_put C (kd := 0) fl_M_52 fk_8_9 sh_24 rfl (by decide) rfl rfl (by decide) (zdg dz_M_prepare_1 4 rfl) ?_
  generalize st u10 24 9 v4 = u11
  refine vf_uw ?_
  refine vf_aload_n C (f := 0) (zdg dz_M_prepare_1 5 rfl) 0 rfl rfl ?_
  refine vf_iconst C (z := 0) (zdg dz_M_prepare_1 6 rfl) (jz rfl) ?_
  refine vf_put C (kd := 0) fl_M_79 fk_8_3 sh_24 rfl (by decide) rfl rfl (by decide) (zdg dz_M_prepare_1 7 rfl) ?_
  generalize st u11 24 3 0 = u12
  refine vf_uw ?_
  refine vf_aload_n C (f := 0) (zdg dz_M_prepare_1 8 rfl) 0 rfl rfl ?_
  refine vf_dup C (zdg dz_M_prepare_1 9 rfl) (Nat.succ_ne_self 1) ?_
  refine vf_get C (kd := 0) fl_M_82 sh_24 rfl (by decide) rfl rfl (zdg dz_M_prepare_1 10 rfl) ?_
  refine vf_iconst C (z := 1) (zdg dz_M_prepare_1 11 rfl) (jz rfl) ?_
  refine vf_iadd C (zdg dz_M_prepare_1 12 rfl) ?_
  refine vf_put C (kd := 0) fl_M_82 fk_8_4 sh_24 rfl (by decide) rfl rfl (by decide) (zdg dz_M_prepare_1 13 rfl) ?_
  generalize st u12 24 4 (w32 ((u12 24 4) + 1)) = u13
  refine vf_uw ?_
  exact hr _ _ _ _ (fun h => absurd h (by decide)) (zdg dz_M_prepare_1 14 rfl)
def f_M_spread_206 (rec : Int → Int → Int → Wd → Option (Int × Wd)) (k83 : Int → Int → Int → Wd → Option (Int × Wd)) (v2 v4 v5 : Int) (w : Wd) : Option (Int × Wd) :=
  jlet (w32 (v5 + 1)) fun x8 =>
  k83 v2 v4 x8 w
theorem t_M_spread_206 {X : jX} {Qf : Int × Wd → State → Prop} {ad : Nat → Nat} (C : Cx X prog_6_method_5_code "EachBringsAnother$Moves") (hn : xn X = 9) {dd : Nat} (hR : xR X = rmD (1 + dd + 1)) (hr : Rt X Qf ad prog_6_method_5_code 9) {rec : Int → Int → Int → Wd → Option (Int × Wd)} (hrec : ∀ (v1 v2 v3 : Int) (w : Wd), Ct y_M_spread prog_6_method_5_code 9 none (1 + dd) 9 [(2, 25), (0, v1), (0, v2), (0, v3)] w (rec v1 v2 v3 w)) {k83 : Int → Int → Int → Wd → Option (Int × Wd)} (hk83 : ∀ (v2 v4 v5 : Int) (w : Wd), VF X Qf ad NF 0 0 w 83 [(0, (2, 25)), (2, (0, v2)), (4, (0, v4)), (5, (0, v5))] [] (k83 v2 v4 v5 w)) (v2 v4 v5 : Int) (w : Wd) : VF X Qf ad NF 0 0 w 206 [(0, (2, 25)), (2, (0, v2)), (4, (0, v4)), (5, (0, v5))] [] (f_M_spread_206 rec k83 v2 v4 v5 w) := by
  unfold f_M_spread_206
  refine vf_iinc C (z := 1) (L' := [(0, (2, 25)), (2, (0, v2)), (4, (0, v4))]) (zdg dz_M_spread_4 16 rfl) 3 rfl [0, 1, 2] (jrI rfl rfl) hn (by decide) ?_
  generalize w32 (v5 + 1) = x8
  refine vf_ul ?_
  refine vf_goto C (off := (-126)) (tgt := 83) (zdg dz_M_spread_4 17 rfl) (by decide) ?_
  exact vf_perm [1, 2, 3, 0] rfl (hk83 _ _ _ _)
def f_M_spread_200 (rec : Int → Int → Int → Wd → Option (Int × Wd)) (k83 : Int → Int → Int → Wd → Option (Int × Wd)) (k135 : Int → Int → Int → Int → Int → Wd → Option (Int × Wd)) (v2 v4 v5 v6 v7 : Int) (w : Wd) : Option (Int × Wd) :=
  jlet (w32 (v7 + 1)) fun x13 =>
  k135 v2 v4 v5 v6 x13 w
theorem t_M_spread_200 {X : jX} {Qf : Int × Wd → State → Prop} {ad : Nat → Nat} (C : Cx X prog_6_method_5_code "EachBringsAnother$Moves") (hn : xn X = 9) {dd : Nat} (hR : xR X = rmD (1 + dd + 1)) (hr : Rt X Qf ad prog_6_method_5_code 9) {rec : Int → Int → Int → Wd → Option (Int × Wd)} (hrec : ∀ (v1 v2 v3 : Int) (w : Wd), Ct y_M_spread prog_6_method_5_code 9 none (1 + dd) 9 [(2, 25), (0, v1), (0, v2), (0, v3)] w (rec v1 v2 v3 w)) {k83 : Int → Int → Int → Wd → Option (Int × Wd)} (hk83 : ∀ (v2 v4 v5 : Int) (w : Wd), VF X Qf ad NF 0 0 w 83 [(0, (2, 25)), (2, (0, v2)), (4, (0, v4)), (5, (0, v5))] [] (k83 v2 v4 v5 w)) {k135 : Int → Int → Int → Int → Int → Wd → Option (Int × Wd)} (hk135 : ∀ (v2 v4 v5 v6 v7 : Int) (w : Wd), VF X Qf ad NF 0 0 w 135 [(0, (2, 25)), (2, (0, v2)), (4, (0, v4)), (5, (0, v5)), (6, (0, v6)), (7, (0, v7))] [] (k135 v2 v4 v5 v6 v7 w)) (v2 v4 v5 v6 v7 : Int) (w : Wd) : VF X Qf ad NF 0 0 w 200 [(0, (2, 25)), (2, (0, v2)), (4, (0, v4)), (5, (0, v5)), (6, (0, v6)), (7, (0, v7))] [] (f_M_spread_200 rec k83 k135 v2 v4 v5 v6 v7 w) := by
  unfold f_M_spread_200
  refine vf_iinc C (z := 1) (L' := [(0, (2, 25)), (2, (0, v2)), (4, (0, v4)), (5, (0, v5)), (6, (0, v6))]) (zdg dz_M_spread_4 14 rfl) 5 rfl [0, 1, 2, 3, 4] (jrI rfl rfl) hn (by decide) ?_
  generalize w32 (v7 + 1) = x13
  refine vf_ul ?_
  refine vf_goto C (off := (-68)) (tgt := 135) (zdg dz_M_spread_4 15 rfl) (by decide) ?_
  exact vf_perm [1, 2, 3, 4, 5, 0] rfl (hk135 _ _ _ _ _ _)
def f_M_spread_135 (rec : Int → Int → Int → Wd → Option (Int × Wd)) (k83 : Int → Int → Int → Wd → Option (Int × Wd)) : Nat → Int → Int → Int → Int → Int → Wd → Option (Int × Wd)
  | 0, _, _, _, _, _, _ => none
  | n + 1, v2, v4, v5, v6, v7, w =>
    if (10 : Int) ≤ v7 then
      f_M_spread_206 rec k83 v2 v4 v5 w
    else
      if v6 = 0 then
        f_M_spread_206 rec k83 v2 v4 v5 w
      else
        jlet (ior (ior v2 (ishl 1 v5)) (iand v6 (w32 (-v6)))) fun x9 =>
        jlet (iand v6 (w32 (v6 - 1))) fun x10 =>
        jcall (f_JI_bitCount (ior (w 24 8) x9) w) fun r11 u12 =>
        if (u12 24 9) < r11 then
          f_M_spread_200 rec k83 (f_M_spread_135 rec k83 n) v2 v4 v5 x10 v7 u12
        else
          jcall (rec (w32 (v5 + 1)) x9 v4 u12) fun r14 u15 =>
          f_M_spread_200 rec k83 (f_M_spread_135 rec k83 n) v2 v4 v5 x10 v7 u15
theorem t_M_spread_135 {X : jX} {Qf : Int × Wd → State → Prop} {ad : Nat → Nat} (C : Cx X prog_6_method_5_code "EachBringsAnother$Moves") (hn : xn X = 9) {dd : Nat} (hR : xR X = rmD (1 + dd + 1)) (hr : Rt X Qf ad prog_6_method_5_code 9) {rec : Int → Int → Int → Wd → Option (Int × Wd)} (hrec : ∀ (v1 v2 v3 : Int) (w : Wd), Ct y_M_spread prog_6_method_5_code 9 none (1 + dd) 9 [(2, 25), (0, v1), (0, v2), (0, v3)] w (rec v1 v2 v3 w)) {k83 : Int → Int → Int → Wd → Option (Int × Wd)} (hk83 : ∀ (v2 v4 v5 : Int) (w : Wd), VF X Qf ad NF 0 0 w 83 [(0, (2, 25)), (2, (0, v2)), (4, (0, v4)), (5, (0, v5))] [] (k83 v2 v4 v5 w)) : ∀ (n : Nat) (v2 v4 v5 v6 v7 : Int) (w : Wd), VF X Qf ad NF 0 0 w 135 [(0, (2, 25)), (2, (0, v2)), (4, (0, v4)), (5, (0, v5)), (6, (0, v6)), (7, (0, v7))] [] (f_M_spread_135 rec k83 n v2 v4 v5 v6 v7 w) := by
  intro n
  induction n with
  | zero => intros; exact vf_no
  | succ n ih =>
    intro v2 v4 v5 v6 v7 w
    rw [f_M_spread_135]
    refine vf_iload C (zdg dz_M_spread_3 1 rfl) 5 rfl ?_
    refine vf_bipush C (z := 10) (zdg dz_M_spread_3 2 rfl) (by decide +kernel) (jz rfl) ?_
    refine vf_icmp_ge C (off := 67) (tgt := 206) (zdg dz_M_spread_3 3 rfl) (by decide) ?_ ?_
    · exact vf_perm [0, 1, 2, 3] rfl (t_M_spread_206 C hn hR hr hrec hk83 _ _ _ _)
    · refine vf_iload C (zdg dz_M_spread_3 4 rfl) 4 rfl ?_
      refine vf_if_eq C (off := 62) (tgt := 206) (zdg dz_M_spread_3 5 rfl) (by decide) ?_ ?_
      · exact vf_perm [0, 1, 2, 3] rfl (t_M_spread_206 C hn hR hr hrec hk83 _ _ _ _)
      · refine vf_iload_n C (f := 2) (zdg dz_M_spread_3 6 rfl) 1 rfl rfl ?_
        refine vf_iconst C (z := 1) (zdg dz_M_spread_3 7 rfl) (jz rfl) ?_
        refine vf_iload C (zdg dz_M_spread_3 8 rfl) 3 rfl ?_
        refine vf_ishl C (zdg dz_M_spread_3 9 rfl) ?_
        refine vf_ior C (zdg dz_M_spread_3 10 rfl) ?_
        refine vf_iload C (zdg dz_M_spread_3 11 rfl) 4 rfl ?_
        refine vf_iload C (zdg dz_M_spread_3 12 rfl) 4 rfl ?_
        refine vf_ineg C (zdg dz_M_spread_3 13 rfl) ?_
        refine vf_iand C (zdg dz_M_spread_3 14 rfl) ?_
        refine vf_ior C (zdg dz_M_spread_3 15 rfl) ?_
        generalize ior (ior v2 (ishl 1 v5)) (iand v6 (w32 (-v6))) = x9
        refine vf_ul ?_
        refine vf_istore C (i := 8) (L' := [(0, (2, 25)), (2, (0, v2)), (4, (0, v4)), (5, (0, v5)), (6, (0, v6)), (7, (0, v7))]) (zdg dz_M_spread_3 16 rfl) [0, 1, 2, 3, 4, 5] (jrI rfl rfl) hn (by decide) ?_
        refine vf_iload C (zdg dz_M_spread_3 17 rfl) 5 rfl ?_
        refine vf_iload C (zdg dz_M_spread_3 18 rfl) 5 rfl ?_
        refine vf_iconst C (z := 1) (zdg dz_M_spread_3 19 rfl) (jz rfl) ?_
        refine vf_isub C (zdg dz_M_spread_3 20 rfl) ?_
        refine vf_iand C (zdg dz_M_spread_3 21 rfl) ?_
        generalize iand v6 (w32 (v6 - 1)) = x10
        refine vf_ul ?_
        refine vf_istore C (i := 6) (L' := [(8, (0, x9)), (0, (2, 25)), (2, (0, v2)), (4, (0, v4)), (5, (0, v5)), (7, (0, v7))]) (zdg dz_M_spread_3 22 rfl) [0, 1, 2, 3, 4, 6] (jrI rfl rfl) hn (by decide) ?_
        refine vf_aload_n C (f := 0) (zdg dz_M_spread_3 23 rfl) 2 rfl rfl ?_
        refine vf_get C (kd := 0) fl_M_44 sh_24 rfl (by decide) rfl rfl (zdg dz_M_spread_4 0 rfl) ?_
        refine vf_iload C (zdg dz_M_spread_4 1 rfl) 1 rfl ?_
        refine vf_ior C (zdg dz_M_spread_4 2 rfl) ?_
        refine vf_callSi C cy_JI_bitCount ml_M_47 (ct_JI_bitCount _ _) (S := []) (jrm_o hR (by omega) (by decide)) rfl rfl (Nat.le_of_ble_eq_true rfl) (zdg dz_M_spread_4 3 rfl) (fun r11 u12 => ?_)
        refine vf_aload_n C (f := 0) (zdg dz_M_spread_4 4 rfl) 2 rfl rfl ?_
        refine vf_get C (kd := 0) fl_M_52 sh_24 rfl (by decide) rfl rfl (zdg dz_M_spread_4 5 rfl) ?_
        refine vf_icmp_gt C (off := 15) (tgt := 200) (zdg dz_M_spread_4 6 rfl) (by decide) ?_ ?_
        · exact vf_perm [2, 3, 4, 5, 0, 6] rfl (t_M_spread_200 C hn hR hr hrec hk83 ih _ _ _ _ _ _)
        · refine vf_aload_n C (f := 0) (zdg dz_M_spread_4 7 rfl) 2 rfl rfl ?_
          refine vf_iload C (zdg dz_M_spread_4 8 rfl) 5 rfl ?_
          refine vf_iconst C (z := 1) (zdg dz_M_spread_4 9 rfl) (jz rfl) ?_
          refine vf_iadd C (zdg dz_M_spread_4 10 rfl) ?_
          refine vf_iload C (zdg dz_M_spread_4 11 rfl) 1 rfl ?_
          refine vf_iload C (zdg dz_M_spread_4 12 rfl) 4 rfl ?_
          refine vf_callVv C cy_M_spread ml_M_31 rfl (hrec _ _ _ _) (S := []) sh_24 (by decide) rfl (jrm_o hR (by omega) (by decide)) rfl rfl (Nat.le_of_ble_eq_true rfl) (zdg dz_M_spread_4 13 rfl) (fun r14 u15 => ?_)
          exact vf_perm [2, 3, 4, 5, 0, 6] rfl (t_M_spread_200 C hn hR hr hrec hk83 ih _ _ _ _ _ _)
def f_M_spread_130 (rec : Int → Int → Int → Wd → Option (Int × Wd)) (k83 : Int → Int → Int → Wd → Option (Int × Wd)) (v2 v4 v5 s0 : Int) (w : Wd) : Option (Int × Wd) :=
  f_M_spread_135 rec k83 FU v2 v4 v5 s0 0 w
theorem t_M_spread_130 {X : jX} {Qf : Int × Wd → State → Prop} {ad : Nat → Nat} (C : Cx X prog_6_method_5_code "EachBringsAnother$Moves") (hn : xn X = 9) {dd : Nat} (hR : xR X = rmD (1 + dd + 1)) (hr : Rt X Qf ad prog_6_method_5_code 9) {rec : Int → Int → Int → Wd → Option (Int × Wd)} (hrec : ∀ (v1 v2 v3 : Int) (w : Wd), Ct y_M_spread prog_6_method_5_code 9 none (1 + dd) 9 [(2, 25), (0, v1), (0, v2), (0, v3)] w (rec v1 v2 v3 w)) {k83 : Int → Int → Int → Wd → Option (Int × Wd)} (hk83 : ∀ (v2 v4 v5 : Int) (w : Wd), VF X Qf ad NF 0 0 w 83 [(0, (2, 25)), (2, (0, v2)), (4, (0, v4)), (5, (0, v5))] [] (k83 v2 v4 v5 w)) (v2 v4 v5 s0 : Int) (w : Wd) : VF X Qf ad NF 0 0 w 130 [(0, (2, 25)), (2, (0, v2)), (4, (0, v4)), (5, (0, v5))] [(0, s0)] (f_M_spread_130 rec k83 v2 v4 v5 s0 w) := by
  unfold f_M_spread_130
  refine vf_istore C (i := 6) (L' := [(0, (2, 25)), (2, (0, v2)), (4, (0, v4)), (5, (0, v5))]) (zdg dz_M_spread_2 22 rfl) [0, 1, 2, 3] (jrI rfl rfl) hn (by decide) ?_
  refine vf_iconst C (z := 0) (zdg dz_M_spread_2 23 rfl) (jz rfl) ?_
  refine vf_istore C (i := 7) (L' := [(6, (0, s0)), (0, (2, 25)), (2, (0, v2)), (4, (0, v4)), (5, (0, v5))]) (zdg dz_M_spread_3 0 rfl) [0, 1, 2, 3, 4] (jrI rfl rfl) hn (by decide) ?_
  exact vf_perm [2, 3, 4, 5, 1, 0] rfl (t_M_spread_135 C hn hR hr hrec hk83 FU _ _ _ _ _ _)
def f_M_spread_83 (rec : Int → Int → Int → Wd → Option (Int × Wd)) : Nat → Int → Int → Int → Wd → Option (Int × Wd)
  | 0, _, _, _, _ => none
  | n + 1, v2, v4, v5, w =>
    jgd (w 24 5 = 6) <|
    if (w 5 3) ≤ v5 then
      some (0, w)
    else
      jcall (f_E_has (w 24 6) v5 w) fun r6 u7 =>
      if r6 = 0 then
        f_M_spread_130 rec (f_M_spread_83 rec n) v2 v4 v5 0 u7
      else
        jgd (u7 24 5 = 6) <|
        jgd ((0 : Int) ≤ v5 ∧ v5 < 10) <|
        f_M_spread_130 rec (f_M_spread_83 rec n) v2 v4 v5 (iand (iand (u7 7 v5.toNat) (u7 24 7)) (ixor v2 (-1))) u7
theorem t_M_spread_83 {X : jX} {Qf : Int × Wd → State → Prop} {ad : Nat → Nat} (C : Cx X prog_6_method_5_code "EachBringsAnother$Moves") (hn : xn X = 9) {dd : Nat} (hR : xR X = rmD (1 + dd + 1)) (hr : Rt X Qf ad prog_6_method_5_code 9) {rec : Int → Int → Int → Wd → Option (Int × Wd)} (hrec : ∀ (v1 v2 v3 : Int) (w : Wd), Ct y_M_spread prog_6_method_5_code 9 none (1 + dd) 9 [(2, 25), (0, v1), (0, v2), (0, v3)] w (rec v1 v2 v3 w)) : ∀ (n : Nat) (v2 v4 v5 : Int) (w : Wd), VF X Qf ad NF 0 0 w 83 [(0, (2, 25)), (2, (0, v2)), (4, (0, v4)), (5, (0, v5))] [] (f_M_spread_83 rec n v2 v4 v5 w) := by
  intro n
  induction n with
  | zero => intros; exact vf_no
  | succ n ih =>
    intro v2 v4 v5 w
    rw [f_M_spread_83]
    refine vf_iload C (zdg dz_M_spread_1 22 rfl) 3 rfl ?_
    refine vf_aload_n C (f := 0) (zdg dz_M_spread_1 23 rfl) 0 rfl rfl ?_
    refine vf_get C (kd := 2) fl_M_53 sh_24 rfl (by decide) rfl rfl (zdg dz_M_spread_2 0 rfl) ?_
    refine vf_gd _ (fun hq5 => ?_)
    refine vf_get C (kd := 0) fl_M_85 sh_5 rfl (by decide) hq5 rfl (zdg dz_M_spread_2 1 rfl) ?_
    refine vf_icmp_ge C (off := 120) (tgt := 212) (zdg dz_M_spread_2 2 rfl) (by decide) ?_ ?_
    · exact hr _ _ _ _ (fun h => absurd h (by decide)) (zdg dz_M_spread_4 18 rfl)
    · refine vf_aload_n C (f := 0) (zdg dz_M_spread_2 3 rfl) 0 rfl rfl ?_
      refine vf_get C (kd := 0) fl_M_57 sh_24 rfl (by decide) rfl rfl (zdg dz_M_spread_2 4 rfl) ?_
      refine vf_iload C (zdg dz_M_spread_2 5 rfl) 3 rfl ?_
      refine vf_callSz C cy_E_has ml_M_86 (ct_E_has _ _ _) (S := []) (jrm_o hR (by omega) (by decide)) rfl rfl (Nat.le_of_ble_eq_true rfl) (zdg dz_M_spread_2 6 rfl) (fun r6 u7 => ?_)
      refine vf_if_eq C (off := 25) (tgt := 129) (zdg dz_M_spread_2 7 rfl) (by decide) ?_ ?_
      · refine vf_iconst C (z := 0) (zdg dz_M_spread_2 21 rfl) (jz rfl) ?_
        exact t_M_spread_130 C hn hR hr hrec ih _ _ _ _ _
      · refine vf_aload_n C (f := 0) (zdg dz_M_spread_2 8 rfl) 0 rfl rfl ?_
        refine vf_get C (kd := 2) fl_M_53 sh_24 rfl (by decide) rfl rfl (zdg dz_M_spread_2 9 rfl) ?_
        refine vf_gd _ (fun hq5 => ?_)
        refine vf_getp C fl_M_90 sh_5 rfl (by decide) hq5 (x := 8) rfl (zdg dz_M_spread_2 10 rfl) ?_
        refine vf_iload C (zdg dz_M_spread_2 11 rfl) 3 rfl ?_
        refine vf_iald C sh_7 (by decide) rfl (mz := 10) rfl (zdg dz_M_spread_2 12 rfl) ?_
        refine vf_aload_n C (f := 0) (zdg dz_M_spread_2 13 rfl) 0 rfl rfl ?_
        refine vf_get C (kd := 0) fl_M_70 sh_24 rfl (by decide) rfl rfl (zdg dz_M_spread_2 14 rfl) ?_
        refine vf_iand C (zdg dz_M_spread_2 15 rfl) ?_
        refine vf_iload_n C (f := 2) (zdg dz_M_spread_2 16 rfl) 1 rfl rfl ?_
        refine vf_iconst C (z := (-1)) (zdg dz_M_spread_2 17 rfl) (jz rfl) ?_
        refine vf_ixor C (zdg dz_M_spread_2 18 rfl) ?_
        refine vf_iand C (zdg dz_M_spread_2 19 rfl) ?_
        refine vf_goto C (off := 4) (tgt := 130) (zdg dz_M_spread_2 20 rfl) (by decide) ?_
        exact t_M_spread_130 C hn hR hr hrec ih _ _ _ _ _
def f_M_spread_b (rec : Int → Int → Int → Wd → Option (Int × Wd)) (v1 v2 v3 : Int) (w : Wd) : Option (Int × Wd) :=
  if (10 : Int) < v1 then
    some (0, w)
  else
    if (256 : Int) ≤ (w 24 3) then
      some (0, w)
    else
      if (iand v2 (-1024)) = 0 then
        jgd ((0 : Int) ≤ v2 ∧ v2 < 1024) <|
        if (w 27 v2.toNat) = (w 24 4) then
          some (0, w)
        else
          jlet (w 24 3) fun x1 =>
          jgd ((0 : Int) ≤ v2 ∧ v2 < 1024) <|
          jlw (st w 27 v2.toNat ((w 24 4))) fun u2 =>
          jgd ((0 : Int) ≤ x1 ∧ x1 < 256) <|
          jlw (st u2 25 x1.toNat v2) fun u3 =>
          jgd ((0 : Int) ≤ x1 ∧ x1 < 256) <|
          jlw (st u3 26 x1.toNat v3) fun u4 =>
          jlw (st u4 24 3 (w32 ((u4 24 3) + 1))) fun u5 =>
          f_M_spread_83 rec FU v2 x1 v1 u5
      else
        some (0, w)
theorem ct_M_spread_b {dd : Nat} {rec : Int → Int → Int → Wd → Option (Int × Wd)} (hrec : ∀ (v1 v2 v3 : Int) (w : Wd), Ct y_M_spread prog_6_method_5_code 9 none (1 + dd) 9 [(2, 25), (0, v1), (0, v2), (0, v3)] w (rec v1 v2 v3 w)) (v1 v2 v3 : Int) (w : Wd) : Ct y_M_spread prog_6_method_5_code 9 none (1 + dd + 1) 9 [(2, 25), (0, v1), (0, v2), (0, v3)] w (f_M_spread_b rec v1 v2 v3 w) := by
  refine ct_of (by decide +kernel) (Or.inr (Or.inr (Or.inr ⟨rfl, rfl⟩))) (Nat.le_of_ble_eq_true rfl) ?_
  intro X Qf ad C hn hR hr
  unfold f_M_spread_b
  show VF X Qf ad NF 0 0 w 0 [(0, (2, 25)), (1, (0, v1)), (2, (0, v2)), (3, (0, v3))] [] _
  refine vf_iload_n C (f := 1) (zdg dz_M_spread_0 0 rfl) 1 rfl rfl ?_
  refine vf_bipush C (z := 10) (zdg dz_M_spread_0 1 rfl) (by decide +kernel) (jz rfl) ?_
  refine vf_icmp_gt C (off := 34) (tgt := 37) (zdg dz_M_spread_0 2 rfl) (by decide) ?_ ?_
  · exact hr _ _ _ _ (fun h => absurd h (by decide)) (zdg dz_M_spread_0 18 rfl)
  · refine vf_aload_n C (f := 0) (zdg dz_M_spread_0 3 rfl) 0 rfl rfl ?_
    refine vf_get C (kd := 0) fl_M_79 sh_24 rfl (by decide) rfl rfl (zdg dz_M_spread_0 4 rfl) ?_
    refine vf_sipush C (z := 256) (zdg dz_M_spread_0 5 rfl) (by decide +kernel) (jz rfl) ?_
    refine vf_icmp_ge C (off := 24) (tgt := 37) (zdg dz_M_spread_0 6 rfl) (by decide) ?_ ?_
    · exact hr _ _ _ _ (fun h => absurd h (by decide)) (zdg dz_M_spread_0 18 rfl)
    · refine vf_iload_n C (f := 2) (zdg dz_M_spread_0 7 rfl) 2 rfl rfl ?_
      refine vf_sipush C (z := (-1024)) (zdg dz_M_spread_0 8 rfl) (by decide +kernel) (jz rfl) ?_
      refine vf_iand C (zdg dz_M_spread_0 9 rfl) ?_
      refine vf_if_ne C (off := 16) (tgt := 37) (zdg dz_M_spread_0 10 rfl) (by decide) ?_ ?_
      · exact hr _ _ _ _ (fun h => absurd h (by decide)) (zdg dz_M_spread_0 18 rfl)
      · refine vf_aload_n C (f := 0) (zdg dz_M_spread_0 11 rfl) 0 rfl rfl ?_
        refine vf_getp C fl_M_18 sh_24 rfl (by decide) rfl (x := 28) rfl (zdg dz_M_spread_0 12 rfl) ?_
        refine vf_iload_n C (f := 2) (zdg dz_M_spread_0 13 rfl) 2 rfl rfl ?_
        refine vf_iald C sh_27 (by decide) rfl (mz := 1024) rfl (zdg dz_M_spread_0 14 rfl) ?_
        refine vf_aload_n C (f := 0) (zdg dz_M_spread_0 15 rfl) 0 rfl rfl ?_
        refine vf_get C (kd := 0) fl_M_82 sh_24 rfl (by decide) rfl rfl (zdg dz_M_spread_0 16 rfl) ?_
        refine vf_icmp_ne C (off := 4) (tgt := 38) (zdg dz_M_spread_0 17 rfl) (by decide) ?_ ?_
        · refine vf_aload_n C (f := 0) (zdg dz_M_spread_0 19 rfl) 0 rfl rfl ?_
          refine vf_get C (kd := 0) fl_M_79 sh_24 rfl (by decide) rfl rfl (zdg dz_M_spread_0 20 rfl) ?_
          generalize w 24 3 = x1
          refine vf_ul ?_
          refine vf_istore C (i := 4) (L' := [(0, (2, 25)), (1, (0, v1)), (2, (0, v2)), (3, (0, v3))]) (zdg dz_M_spread_0 21 rfl) [0, 1, 2, 3] (jrI rfl rfl) hn (by decide) ?_
          refine vf_aload_n C (f := 0) (zdg dz_M_spread_0 22 rfl) 1 rfl rfl ?_
          refine vf_getp C fl_M_18 sh_24 rfl (by decide) rfl (x := 28) rfl (zdg dz_M_spread_0 23 rfl) ?_
          refine vf_iload_n C (f := 2) (zdg dz_M_spread_1 0 rfl) 3 rfl rfl ?_
          refine vf_aload_n C (f := 0) (zdg dz_M_spread_1 1 rfl) 1 rfl rfl ?_
          refine vf_get C (kd := 0) fl_M_82 sh_24 rfl (by decide) rfl rfl (zdg dz_M_spread_1 2 rfl) ?_
          refine vf_iast C sh_27 (by decide) rfl (mz := 1024) rfl (zdg dz_M_spread_1 3 rfl) ?_
          generalize st w 27 v2.toNat ((w 24 4)) = u2
          refine vf_uw ?_
          refine vf_aload_n C (f := 0) (zdg dz_M_spread_1 4 rfl) 1 rfl rfl ?_
          refine vf_getp C fl_M_11 sh_24 rfl (by decide) rfl (x := 26) rfl (zdg dz_M_spread_1 5 rfl) ?_
          refine vf_iload C (zdg dz_M_spread_1 6 rfl) 0 rfl ?_
          refine vf_iload_n C (f := 2) (zdg dz_M_spread_1 7 rfl) 3 rfl rfl ?_
          refine vf_iast C sh_25 (by decide) rfl (mz := 256) rfl (zdg dz_M_spread_1 8 rfl) ?_
          generalize st u2 25 x1.toNat v2 = u3
          refine vf_uw ?_
          refine vf_aload_n C (f := 0) (zdg dz_M_spread_1 9 rfl) 1 rfl rfl ?_
          refine vf_getp C fl_M_15 sh_24 rfl (by decide) rfl (x := 27) rfl (zdg dz_M_spread_1 10 rfl) ?_
          refine vf_iload C (zdg dz_M_spread_1 11 rfl) 0 rfl ?_
          refine vf_iload_n C (f := 3) (zdg dz_M_spread_1 12 rfl) 4 rfl rfl ?_
          refine vf_iast C sh_26 (by decide) rfl (mz := 256) rfl (zdg dz_M_spread_1 13 rfl) ?_
          generalize st u3 26 x1.toNat v3 = u4
          refine vf_uw ?_
          refine vf_aload_n C (f := 0) (zdg dz_M_spread_1 14 rfl) 1 rfl rfl ?_
          refine vf_dup C (zdg dz_M_spread_1 15 rfl) (Nat.succ_ne_self 1) ?_
          refine vf_get C (kd := 0) fl_M_79 sh_24 rfl (by decide) rfl rfl (zdg dz_M_spread_1 16 rfl) ?_
          refine vf_iconst C (z := 1) (zdg dz_M_spread_1 17 rfl) (jz rfl) ?_
          refine vf_iadd C (zdg dz_M_spread_1 18 rfl) ?_
          refine vf_put C (kd := 0) fl_M_79 fk_8_3 sh_24 rfl (by decide) rfl rfl (by decide) (zdg dz_M_spread_1 19 rfl) ?_
          generalize st u4 24 3 (w32 ((u4 24 3) + 1)) = u5
          refine vf_uw ?_
          refine vf_iload_n C (f := 1) (zdg dz_M_spread_1 20 rfl) 2 rfl rfl ?_
          refine vf_istore C (i := 5) (L' := [(4, (0, x1)), (0, (2, 25)), (2, (0, v2))]) (zdg dz_M_spread_1 21 rfl) [0, 1, 3] (jrI rfl rfl) hn (by decide) ?_
          exact vf_perm [2, 3, 1, 0] rfl (t_M_spread_83 C hn hR hr hrec FU _ _ _ _)
        · exact hr _ _ _ _ (fun h => absurd h (by decide)) (zdg dz_M_spread_0 18 rfl)
def f_M_spread : Nat → Int → Int → Int → Wd → Option (Int × Wd)
  | 0, _, _, _, _ => none
  | d + 1, v1, v2, v3, w => f_M_spread_b (f_M_spread d) v1 v2 v3 w
theorem ct_M_spread_all : ∀ dd : Nat, (∀ (v1 v2 v3 : Int) (w : Wd), Ct y_M_spread prog_6_method_5_code 9 none (1 + dd) 9 [(2, 25), (0, v1), (0, v2), (0, v3)] w (f_M_spread dd v1 v2 v3 w)) := by
  intro dd
  induction dd with
  | zero => exact fun _ _ _ _  l D cA ad o ho => by cases ho
  | succ dd ih =>
    exact fun v1 v2 v3 w => ct_M_spread_b ih v1 v2 v3 w
theorem ct_M_spread (v1 v2 v3 : Int) (w : Wd) : Ct y_M_spread prog_6_method_5_code 9 none 17 9 [(2, 25), (0, v1), (0, v2), (0, v3)] w (f_M_spread 16 v1 v2 v3 w) := (ct_M_spread_all 16) v1 v2 v3 w
def f_M_gather (v2 v3 : Int) (w : Wd) : Option (Int × Wd) :=
  jcall (f_O_guests v2 w) fun r1 u2 =>
  jcall (f_M_prepare v2 r1 v3 u2) fun r3 u4 =>
  jcall (f_M_spread 16 0 0 (-1) u4) fun r5 u6 =>
  some (0, u6)
theorem ct_M_gather (v2 v3 : Int) (w : Wd) : Ct y_M_gather prog_6_method_2_code 4 none 18 9 [(2, 25), (2, 6), (0, v2), (0, v3)] w (f_M_gather v2 v3 w) := by
  refine ct_of (by decide +kernel) (Or.inr (Or.inr (Or.inr ⟨rfl, rfl⟩))) (Nat.le_of_ble_eq_true rfl) ?_
  intro X Qf ad C hn hR hr
  unfold f_M_gather
  show VF X Qf ad NF 0 0 w 0 [(0, (2, 25)), (1, (2, 6)), (2, (0, v2)), (3, (0, v3))] [] _
  refine vf_aload_n C (f := 0) (zdg dz_M_gather_0 0 rfl) 0 rfl rfl ?_
  refine vf_aload_n C (f := 1) (zdg dz_M_gather_0 1 rfl) 1 rfl rfl ?_
  refine vf_iload_n C (f := 2) (zdg dz_M_gather_0 2 rfl) 2 rfl rfl ?_
  refine vf_iload_n C (f := 2) (zdg dz_M_gather_0 3 rfl) 2 rfl rfl ?_
  refine vf_callSi C cy_O_guests ml_M_21 (ct_O_guests _ _) (S := [(0, v2), (2, 6), (2, 25)]) (jrm_of hR rfl) rfl rfl (Nat.le_of_ble_eq_true rfl) (zdg dz_M_gather_0 4 rfl) (fun r1 u2 => ?_)
  refine vf_iload_n C (f := 3) (zdg dz_M_gather_0 5 rfl) 3 rfl rfl ?_
  refine vf_callVv C cy_M_prepare ml_M_27 rfl (ct_M_prepare _ _ _ _) (S := []) sh_24 (by decide) rfl (jrm_of hR rfl) rfl rfl (Nat.le_of_ble_eq_true rfl) (zdg dz_M_gather_0 6 rfl) (fun r3 u4 => ?_)
  refine vf_aload_n C (f := 0) (zdg dz_M_gather_0 7 rfl) 0 rfl rfl ?_
  refine vf_iconst C (z := 0) (zdg dz_M_gather_0 8 rfl) (jz rfl) ?_
  refine vf_iconst C (z := 0) (zdg dz_M_gather_0 9 rfl) (jz rfl) ?_
  refine vf_iconst C (z := (-1)) (zdg dz_M_gather_0 10 rfl) (jz rfl) ?_
  refine vf_callVv C cy_M_spread ml_M_31 rfl (ct_M_spread _ _ _ _) (S := []) sh_24 (by decide) rfl (jrm_of hR rfl) rfl rfl (Nat.le_of_ble_eq_true rfl) (zdg dz_M_gather_0 11 rfl) (fun r5 u6 => ?_)
  exact hr _ _ _ _ (fun h => absurd h (by decide)) (zdg dz_M_gather_0 12 rfl)
def f_M_moversOf (v1 : Int) (w : Wd) : Option (Int × Wd) :=
  if v1 < 0 then
    some (0, w)
  else
    if (w 24 3) ≤ v1 then
      some (0, w)
    else
      jgd ((0 : Int) ≤ v1 ∧ v1 < 256) <|
      some (w 25 v1.toNat, w)
theorem ct_M_moversOf (v1 : Int) (w : Wd) : Ct y_M_moversOf prog_6_method_6_code 2 (some .int) 1 0 [(2, 25), (0, v1)] w (f_M_moversOf v1 w) := by
  refine ct_of (by decide +kernel) (Or.inl ⟨rfl, rfl⟩) (Nat.le_of_ble_eq_true rfl) ?_
  intro X Qf ad C hn hR hr
  unfold f_M_moversOf
  show VF X Qf ad NF 0 0 w 0 [(0, (2, 25)), (1, (0, v1))] [] _
  refine vf_iload_n C (f := 1) (zdg dz_M_moversOf_0 0 rfl) 1 rfl rfl ?_
  refine vf_if_lt C (off := 20) (tgt := 21) (zdg dz_M_moversOf_0 1 rfl) (by decide) ?_ ?_
  · refine vf_iconst C (z := 0) (zdg dz_M_moversOf_0 11 rfl) (jz rfl) ?_
    exact hr _ _ _ _ (fun h => absurd h (by decide)) (zdg dz_M_moversOf_0 12 rfl)
  · refine vf_iload_n C (f := 1) (zdg dz_M_moversOf_0 2 rfl) 1 rfl rfl ?_
    refine vf_aload_n C (f := 0) (zdg dz_M_moversOf_0 3 rfl) 0 rfl rfl ?_
    refine vf_get C (kd := 0) fl_M_79 sh_24 rfl (by decide) rfl rfl (zdg dz_M_moversOf_0 4 rfl) ?_
    refine vf_icmp_ge C (off := 12) (tgt := 21) (zdg dz_M_moversOf_0 5 rfl) (by decide) ?_ ?_
    · refine vf_iconst C (z := 0) (zdg dz_M_moversOf_0 11 rfl) (jz rfl) ?_
      exact hr _ _ _ _ (fun h => absurd h (by decide)) (zdg dz_M_moversOf_0 12 rfl)
    · refine vf_aload_n C (f := 0) (zdg dz_M_moversOf_0 6 rfl) 0 rfl rfl ?_
      refine vf_getp C fl_M_11 sh_24 rfl (by decide) rfl (x := 26) rfl (zdg dz_M_moversOf_0 7 rfl) ?_
      refine vf_iload_n C (f := 1) (zdg dz_M_moversOf_0 8 rfl) 1 rfl rfl ?_
      refine vf_iald C sh_25 (by decide) rfl (mz := 256) rfl (zdg dz_M_moversOf_0 9 rfl) ?_
      refine vf_goto C (off := 4) (tgt := 22) (zdg dz_M_moversOf_0 10 rfl) (by decide) ?_
      exact hr _ _ _ _ (fun h => absurd h (by decide)) (zdg dz_M_moversOf_0 12 rfl)
def f_E_can_29 : Nat → Int → Int → Wd → Option (Int × Wd)
  | 0, _, _, _ => none
  | n + 1, v1, v2, w =>
    if (w 24 3) ≤ v2 then
      jcall (f_F_strangers w) fun r3 u4 =>
      jcall (f_N_tell1 (iand v1 r3) u4) fun r5 u6 =>
      jcall (f_F_guests u6) fun r7 u8 =>
      some (iand v1 r7, u8)
    else
      jcall (f_M_moversOf v2 w) fun r9 u10 =>
      jlet (ior v1 r9) fun x11 =>
      jlet (w32 (v2 + 1)) fun x12 =>
      f_E_can_29 n x11 x12 u10
theorem t_E_can_29 {X : jX} {Qf : Int × Wd → State → Prop} {ad : Nat → Nat} (C : Cx X prog_1_method_15_code "EachBringsAnother") (hn : xn X = 3) (hR : xR X = rmD 19) (hr : Rt X Qf ad prog_1_method_15_code 0) : ∀ (n : Nat) (v1 v2 : Int) (w : Wd), VF X Qf ad NF 0 0 w 29 [(0, (2, 1)), (1, (0, v1)), (2, (0, v2))] [] (f_E_can_29 n v1 v2 w) := by
  intro n
  induction n with
  | zero => intros; exact vf_no
  | succ n ih =>
    intro v1 v2 w
    rw [f_E_can_29]
    refine vf_iload_n C (f := 2) (zdg dz_E_can_0 15 rfl) 2 rfl rfl ?_
    refine vf_aload_n C (f := 0) (zdg dz_E_can_0 16 rfl) 0 rfl rfl ?_
    refine vf_getp C fl_E_61 sh_0 rfl (by decide) rfl (x := 25) rfl (zdg dz_E_can_0 17 rfl) ?_
    refine vf_get C (kd := 0) fl_E_227 sh_24 rfl (by decide) rfl rfl (zdg dz_E_can_0 18 rfl) ?_
    refine vf_icmp_ge C (off := 20) (tgt := 57) (zdg dz_E_can_0 19 rfl) (by decide) ?_ ?_
    · refine vf_aload_n C (f := 0) (zdg dz_E_can_1 5 rfl) 0 rfl rfl ?_
      refine vf_getp C fl_E_19 sh_0 rfl (by decide) rfl (x := 4) rfl (zdg dz_E_can_1 6 rfl) ?_
      refine vf_iload_n C (f := 1) (zdg dz_E_can_1 7 rfl) 1 rfl rfl ?_
      refine vf_aload_n C (f := 0) (zdg dz_E_can_1 8 rfl) 0 rfl rfl ?_
      refine vf_getp C fl_E_26 sh_0 rfl (by decide) rfl (x := 6) rfl (zdg dz_E_can_1 9 rfl) ?_
      refine vf_callVi C cy_F_strangers ml_E_132 rfl (ct_F_strangers _) (S := [(0, v1), (2, 4)]) sh_5 (by decide) rfl (jrm_of hR rfl) rfl rfl (Nat.le_of_ble_eq_true rfl) (zdg dz_E_can_1 10 rfl) (fun r3 u4 => ?_)
      refine vf_iand C (zdg dz_E_can_1 11 rfl) ?_
      refine vf_callVv C cy_N_tell1 ml_E_231 rfl (ct_N_tell1 _ _) (S := []) sh_3 (by decide) rfl (jrm_of hR rfl) rfl rfl (Nat.le_of_ble_eq_true rfl) (zdg dz_E_can_1 12 rfl) (fun r5 u6 => ?_)
      refine vf_iload_n C (f := 1) (zdg dz_E_can_1 13 rfl) 1 rfl rfl ?_
      refine vf_aload_n C (f := 0) (zdg dz_E_can_1 14 rfl) 0 rfl rfl ?_
      refine vf_getp C fl_E_26 sh_0 rfl (by decide) rfl (x := 6) rfl (zdg dz_E_can_1 15 rfl) ?_
      refine vf_callVi C cy_F_guests ml_E_136 rfl (ct_F_guests _) (S := [(0, v1)]) sh_5 (by decide) rfl (jrm_of hR rfl) rfl rfl (Nat.le_of_ble_eq_true rfl) (zdg dz_E_can_1 16 rfl) (fun r7 u8 => ?_)
      refine vf_iand C (zdg dz_E_can_1 17 rfl) ?_
      exact hr _ _ _ _ (fun h => absurd h (by decide)) (zdg dz_E_can_1 18 rfl)
    · refine vf_iload_n C (f := 1) (zdg dz_E_can_0 20 rfl) 1 rfl rfl ?_
      refine vf_aload_n C (f := 0) (zdg dz_E_can_0 21 rfl) 0 rfl rfl ?_
      refine vf_getp C fl_E_61 sh_0 rfl (by decide) rfl (x := 25) rfl (zdg dz_E_can_0 22 rfl) ?_
      refine vf_iload_n C (f := 2) (zdg dz_E_can_0 23 rfl) 2 rfl rfl ?_
      refine vf_callVi C cy_M_moversOf ml_E_228 rfl (ct_M_moversOf _ _) (S := [(0, v1)]) sh_24 (by decide) rfl (jrm_of hR rfl) rfl rfl (Nat.le_of_ble_eq_true rfl) (zdg dz_E_can_1 0 rfl) (fun r9 u10 => ?_)
      refine vf_ior C (zdg dz_E_can_1 1 rfl) ?_
      generalize ior v1 r9 = x11
      refine vf_ul ?_
      refine vf_istore_n C (f := 1) (L' := [(0, (2, 1)), (2, (0, v2))]) (zdg dz_E_can_1 2 rfl) [0, 2] (jrI rfl rfl) hn (by decide) rfl ?_
      refine vf_iinc C (z := 1) (L' := [(1, (0, x11)), (0, (2, 1))]) (zdg dz_E_can_1 3 rfl) 2 rfl [0, 1] (jrI rfl rfl) hn (by decide) ?_
      generalize w32 (v2 + 1) = x12
      refine vf_ul ?_
      refine vf_goto C (off := (-25)) (tgt := 29) (zdg dz_E_can_1 4 rfl) (by decide) ?_
      exact vf_perm [2, 1, 0] rfl (ih _ _ _)
def f_E_can (w : Wd) : Option (Int × Wd) :=
  jcall (f_M_gather (w 5 4) (w 5 8) w) fun r1 u2 =>
  f_E_can_29 FU 0 0 u2
theorem ct_E_can (w : Wd) : Ct y_E_can prog_1_method_15_code 3 (some .int) 19 0 [(2, 1)] w (f_E_can w) := by
  refine ct_of (by decide +kernel) (Or.inl ⟨rfl, rfl⟩) (Nat.le_of_ble_eq_true rfl) ?_
  intro X Qf ad C hn hR hr
  unfold f_E_can
  show VF X Qf ad NF 0 0 w 0 [(0, (2, 1))] [] _
  refine vf_aload_n C (f := 0) (zdg dz_E_can_0 0 rfl) 0 rfl rfl ?_
  refine vf_getp C fl_E_61 sh_0 rfl (by decide) rfl (x := 25) rfl (zdg dz_E_can_0 1 rfl) ?_
  refine vf_aload_n C (f := 0) (zdg dz_E_can_0 2 rfl) 0 rfl rfl ?_
  refine vf_getp C fl_E_26 sh_0 rfl (by decide) rfl (x := 6) rfl (zdg dz_E_can_0 3 rfl) ?_
  refine vf_aload_n C (f := 0) (zdg dz_E_can_0 4 rfl) 0 rfl rfl ?_
  refine vf_getp C fl_E_26 sh_0 rfl (by decide) rfl (x := 6) rfl (zdg dz_E_can_0 5 rfl) ?_
  refine vf_get C (kd := 0) fl_E_139 sh_5 rfl (by decide) rfl rfl (zdg dz_E_can_0 6 rfl) ?_
  refine vf_aload_n C (f := 0) (zdg dz_E_can_0 7 rfl) 0 rfl rfl ?_
  refine vf_getp C fl_E_26 sh_0 rfl (by decide) rfl (x := 6) rfl (zdg dz_E_can_0 8 rfl) ?_
  refine vf_get C (kd := 0) fl_E_159 sh_5 rfl (by decide) rfl rfl (zdg dz_E_can_0 9 rfl) ?_
  refine vf_callVv C cy_M_gather ml_E_223 rfl (ct_M_gather _ _ _) (S := []) sh_24 (by decide) rfl (jrm_of hR rfl) rfl rfl (Nat.le_of_ble_eq_true rfl) (zdg dz_E_can_0 10 rfl) (fun r1 u2 => ?_)
  refine vf_iconst C (z := 0) (zdg dz_E_can_0 11 rfl) (jz rfl) ?_
  refine vf_istore_n C (f := 1) (L' := [(0, (2, 1))]) (zdg dz_E_can_0 12 rfl) [0] (jrI rfl rfl) hn (by decide) rfl ?_
  refine vf_iconst C (z := 0) (zdg dz_E_can_0 13 rfl) (jz rfl) ?_
  refine vf_istore_n C (f := 2) (L' := [(1, (0, 0)), (0, (2, 1))]) (zdg dz_E_can_0 14 rfl) [0, 1] (jrI rfl rfl) hn (by decide) rfl ?_
  exact vf_perm [2, 1, 0] rfl (t_E_can_29 C hn hR hr FU _ _ _)
def f_P_whom_2 : Nat → Int → Int → Wd → Option (Int × Wd)
  | 0, _, _, _ => none
  | n + 1, v1, v2, w =>
    if (w 12 2) ≤ v2 then
      some ((-1), w)
    else
      jgd ((0 : Int) ≤ v2 ∧ v2 < 10) <|
      if (w 13 v2.toNat) = v1 then
        jgd ((0 : Int) ≤ v2 ∧ v2 < 10) <|
        some (w 14 v2.toNat, w)
      else
        jlet (w32 (v2 + 1)) fun x1 =>
        f_P_whom_2 n v1 x1 w
theorem t_P_whom_2 {X : jX} {Qf : Int × Wd → State → Prop} {ad : Nat → Nat} (C : Cx X prog_8_method_6_code "EachBringsAnother$Plan") (hn : xn X = 3) (hR : xR X = rmD 1) (hr : Rt X Qf ad prog_8_method_6_code 0) : ∀ (n : Nat) (v1 v2 : Int) (w : Wd), VF X Qf ad NF 0 0 w 2 [(0, (2, 13)), (1, (0, v1)), (2, (0, v2))] [] (f_P_whom_2 n v1 v2 w) := by
  intro n
  induction n with
  | zero => intros; exact vf_no
  | succ n ih =>
    intro v1 v2 w
    rw [f_P_whom_2]
    refine vf_iload_n C (f := 2) (zdg dz_P_whom_0 2 rfl) 2 rfl rfl ?_
    refine vf_aload_n C (f := 0) (zdg dz_P_whom_0 3 rfl) 0 rfl rfl ?_
    refine vf_get C (kd := 0) fl_P_18 sh_12 rfl (by decide) rfl rfl (zdg dz_P_whom_0 4 rfl) ?_
    refine vf_icmp_ge C (off := 26) (tgt := 33) (zdg dz_P_whom_0 5 rfl) (by decide) ?_ ?_
    · refine vf_iconst C (z := (-1)) (zdg dz_P_whom_0 19 rfl) (jz rfl) ?_
      exact hr _ _ _ _ (fun h => absurd h (by decide)) (zdg dz_P_whom_0 20 rfl)
    · refine vf_aload_n C (f := 0) (zdg dz_P_whom_0 6 rfl) 0 rfl rfl ?_
      refine vf_getp C fl_P_9 sh_12 rfl (by decide) rfl (x := 14) rfl (zdg dz_P_whom_0 7 rfl) ?_
      refine vf_iload_n C (f := 2) (zdg dz_P_whom_0 8 rfl) 2 rfl rfl ?_
      refine vf_iald C sh_13 (by decide) rfl (mz := 10) rfl (zdg dz_P_whom_0 9 rfl) ?_
      refine vf_iload_n C (f := 1) (zdg dz_P_whom_0 10 rfl) 1 rfl rfl ?_
      refine vf_icmp_ne C (off := 10) (tgt := 27) (zdg dz_P_whom_0 11 rfl) (by decide) ?_ ?_
      · refine vf_iinc C (z := 1) (L' := [(0, (2, 13)), (1, (0, v1))]) (zdg dz_P_whom_0 17 rfl) 2 rfl [0, 1] (jrI rfl rfl) hn (by decide) ?_
        generalize w32 (v2 + 1) = x1
        refine vf_ul ?_
        refine vf_goto C (off := (-28)) (tgt := 2) (zdg dz_P_whom_0 18 rfl) (by decide) ?_
        exact vf_perm [1, 2, 0] rfl (ih _ _ _)
      · refine vf_aload_n C (f := 0) (zdg dz_P_whom_0 12 rfl) 0 rfl rfl ?_
        refine vf_getp C fl_P_15 sh_12 rfl (by decide) rfl (x := 15) rfl (zdg dz_P_whom_0 13 rfl) ?_
        refine vf_iload_n C (f := 2) (zdg dz_P_whom_0 14 rfl) 2 rfl rfl ?_
        refine vf_iald C sh_14 (by decide) rfl (mz := 10) rfl (zdg dz_P_whom_0 15 rfl) ?_
        exact hr _ _ _ _ (fun h => absurd h (by decide)) (zdg dz_P_whom_0 16 rfl)
def f_P_whom (v1 : Int) (w : Wd) : Option (Int × Wd) :=
  f_P_whom_2 FU v1 0 w
theorem ct_P_whom (v1 : Int) (w : Wd) : Ct y_P_whom prog_8_method_6_code 3 (some .int) 1 0 [(2, 13), (0, v1)] w (f_P_whom v1 w) := by
  refine ct_of (by decide +kernel) (Or.inl ⟨rfl, rfl⟩) (Nat.le_of_ble_eq_true rfl) ?_
  intro X Qf ad C hn hR hr
  unfold f_P_whom
  show VF X Qf ad NF 0 0 w 0 [(0, (2, 13)), (1, (0, v1))] [] _
  refine vf_iconst C (z := 0) (zdg dz_P_whom_0 0 rfl) (jz rfl) ?_
  refine vf_istore_n C (f := 2) (L' := [(0, (2, 13)), (1, (0, v1))]) (zdg dz_P_whom_0 1 rfl) [0, 1] (jrI rfl rfl) hn (by decide) rfl ?_
  exact vf_perm [1, 2, 0] rfl (t_P_whom_2 C hn hR hr FU _ _ _)
def f_E_picks (v1 : Int) (w : Wd) : Option (Int × Wd) :=
  jcall (f_F_guests w) fun r1 u2 =>
  jcall (f_E_has r1 v1 u2) fun r3 u4 =>
  if r3 = 0 then
    some ((-1), u4)
  else
    jcall (f_P_follow (u4 15 3) u4) fun r5 u6 =>
    jcall (f_P_whom v1 u6) fun r7 u8 =>
    if r7 = (-1) then
      some ((-2), u8)
    else
      some (r7, u8)
theorem ct_E_picks (v1 : Int) (w : Wd) : Ct y_E_picks prog_1_method_16_code 3 (some .int) 7 0 [(2, 1), (0, v1)] w (f_E_picks v1 w) := by
  refine ct_of (by decide +kernel) (Or.inl ⟨rfl, rfl⟩) (Nat.le_of_ble_eq_true rfl) ?_
  intro X Qf ad C hn hR hr
  unfold f_E_picks
  show VF X Qf ad NF 0 0 w 0 [(0, (2, 1)), (1, (0, v1))] [] _
  refine vf_aload_n C (f := 0) (zdg dz_E_picks_0 0 rfl) 0 rfl rfl ?_
  refine vf_getp C fl_E_26 sh_0 rfl (by decide) rfl (x := 6) rfl (zdg dz_E_picks_0 1 rfl) ?_
  refine vf_callVi C cy_F_guests ml_E_136 rfl (ct_F_guests _) (S := []) sh_5 (by decide) rfl (jrm_of hR rfl) rfl rfl (Nat.le_of_ble_eq_true rfl) (zdg dz_E_picks_0 2 rfl) (fun r1 u2 => ?_)
  refine vf_iload_n C (f := 1) (zdg dz_E_picks_0 3 rfl) 1 rfl rfl ?_
  refine vf_callSz C cy_E_has ml_E_128 (ct_E_has _ _ _) (S := []) (jrm_of hR rfl) rfl rfl (Nat.le_of_ble_eq_true rfl) (zdg dz_E_picks_0 4 rfl) (fun r3 u4 => ?_)
  refine vf_if_ne C (off := 5) (tgt := 16) (zdg dz_E_picks_0 5 rfl) (by decide) ?_ ?_
  · refine vf_aload_n C (f := 0) (zdg dz_E_picks_0 8 rfl) 0 rfl rfl ?_
    refine vf_getp C fl_E_40 sh_0 rfl (by decide) rfl (x := 13) rfl (zdg dz_E_picks_0 9 rfl) ?_
    refine vf_aload_n C (f := 0) (zdg dz_E_picks_0 10 rfl) 0 rfl rfl ?_
    refine vf_getp C fl_E_54 sh_0 rfl (by decide) rfl (x := 20) rfl (zdg dz_E_picks_0 11 rfl) ?_
    refine vf_aload_n C (f := 0) (zdg dz_E_picks_0 12 rfl) 0 rfl rfl ?_
    refine vf_getp C fl_E_26 sh_0 rfl (by decide) rfl (x := 6) rfl (zdg dz_E_picks_0 13 rfl) ?_
    refine vf_aload_n C (f := 0) (zdg dz_E_picks_0 14 rfl) 0 rfl rfl ?_
    refine vf_getp C fl_E_47 sh_0 rfl (by decide) rfl (x := 16) rfl (zdg dz_E_picks_0 15 rfl) ?_
    refine vf_get C (kd := 0) fl_E_192 sh_15 rfl (by decide) rfl rfl (zdg dz_E_picks_0 16 rfl) ?_
    refine vf_callVv C cy_P_follow ml_E_212 rfl (ct_P_follow _ _) (S := []) sh_12 (by decide) rfl (jrm_of hR rfl) rfl rfl (Nat.le_of_ble_eq_true rfl) (zdg dz_E_picks_0 17 rfl) (fun r5 u6 => ?_)
    refine vf_aload_n C (f := 0) (zdg dz_E_picks_0 18 rfl) 0 rfl rfl ?_
    refine vf_getp C fl_E_40 sh_0 rfl (by decide) rfl (x := 13) rfl (zdg dz_E_picks_0 19 rfl) ?_
    refine vf_iload_n C (f := 1) (zdg dz_E_picks_0 20 rfl) 1 rfl rfl ?_
    refine vf_callVi C cy_P_whom ml_E_234 rfl (ct_P_whom _ _) (S := []) sh_12 (by decide) rfl (jrm_of hR rfl) rfl rfl (Nat.le_of_ble_eq_true rfl) (zdg dz_E_picks_0 21 rfl) (fun r7 u8 => ?_)
    refine vf_istore_n C (f := 2) (L' := []) (zdg dz_E_picks_0 22 rfl) [] (jrI rfl rfl) hn (by decide) rfl ?_
    refine vf_iload_n C (f := 2) (zdg dz_E_picks_0 23 rfl) 0 rfl rfl ?_
    refine vf_iconst C (z := (-1)) (zdg dz_E_picks_1 0 rfl) (jz rfl) ?_
    refine vf_icmp_ne C (off := 8) (tgt := 57) (zdg dz_E_picks_1 1 rfl) (by decide) ?_ ?_
    · refine vf_iload_n C (f := 2) (zdg dz_E_picks_1 4 rfl) 0 rfl rfl ?_
      exact hr _ _ _ _ (fun h => absurd h (by decide)) (zdg dz_E_picks_1 5 rfl)
    · refine vf_bipush C (z := (-2)) (zdg dz_E_picks_1 2 rfl) (by decide +kernel) (jz rfl) ?_
      refine vf_goto C (off := 4) (tgt := 58) (zdg dz_E_picks_1 3 rfl) (by decide) ?_
      exact hr _ _ _ _ (fun h => absurd h (by decide)) (zdg dz_E_picks_1 5 rfl)
  · refine vf_iconst C (z := (-1)) (zdg dz_E_picks_0 6 rfl) (jz rfl) ?_
    exact hr _ _ _ _ (fun h => absurd h (by decide)) (zdg dz_E_picks_0 7 rfl)
def f_E_largestWeek_62 (k24 : Int → Int → Wd → Option (Int × Wd)) (v1 v2 : Int) (w : Wd) : Option (Int × Wd) :=
  jlet (w32 (v2 + 1)) fun x11 =>
  k24 v1 x11 w
theorem t_E_largestWeek_62 {X : jX} {Qf : Int × Wd → State → Prop} {ad : Nat → Nat} (C : Cx X prog_1_method_54_code "EachBringsAnother") (hn : xn X = 3) (hR : xR X = rmD 19) (hr : Rt X Qf ad prog_1_method_54_code 0) {k24 : Int → Int → Wd → Option (Int × Wd)} (hk24 : ∀ (v1 v2 : Int) (w : Wd), VF X Qf ad NF 0 0 w 24 [(0, (2, 1)), (1, (0, v1)), (2, (0, v2))] [] (k24 v1 v2 w)) (v1 v2 : Int) (w : Wd) : VF X Qf ad NF 0 0 w 62 [(0, (2, 1)), (1, (0, v1)), (2, (0, v2))] [] (f_E_largestWeek_62 k24 v1 v2 w) := by
  unfold f_E_largestWeek_62
  refine vf_iinc C (z := 1) (L' := [(0, (2, 1)), (1, (0, v1))]) (zdg dz_E_largestWeek_1 7 rfl) 2 rfl [0, 1] (jrI rfl rfl) hn (by decide) ?_
  generalize w32 (v2 + 1) = x11
  refine vf_ul ?_
  refine vf_goto C (off := (-41)) (tgt := 24) (zdg dz_E_largestWeek_1 8 rfl) (by decide) ?_
  exact vf_perm [1, 2, 0] rfl (hk24 _ _ _)
def f_E_largestWeek_24 : Nat → Int → Int → Wd → Option (Int × Wd)
  | 0, _, _, _ => none
  | n + 1, v1, v2, w =>
    if (w 24 3) ≤ v2 then
      some (v1, w)
    else
      jcall (f_M_moversOf v2 w) fun r3 u4 =>
      jcall (f_JI_bitCount r3 u4) fun r5 u6 =>
      jcall (f_M_moversOf v1 u6) fun r7 u8 =>
      jcall (f_JI_bitCount r7 u8) fun r9 u10 =>
      if r5 ≤ r9 then
        f_E_largestWeek_62 (f_E_largestWeek_24 n) v1 v2 u10
      else
        f_E_largestWeek_62 (f_E_largestWeek_24 n) v2 v2 u10
theorem t_E_largestWeek_24 {X : jX} {Qf : Int × Wd → State → Prop} {ad : Nat → Nat} (C : Cx X prog_1_method_54_code "EachBringsAnother") (hn : xn X = 3) (hR : xR X = rmD 19) (hr : Rt X Qf ad prog_1_method_54_code 0) : ∀ (n : Nat) (v1 v2 : Int) (w : Wd), VF X Qf ad NF 0 0 w 24 [(0, (2, 1)), (1, (0, v1)), (2, (0, v2))] [] (f_E_largestWeek_24 n v1 v2 w) := by
  intro n
  induction n with
  | zero => intros; exact vf_no
  | succ n ih =>
    intro v1 v2 w
    rw [f_E_largestWeek_24]
    refine vf_iload_n C (f := 2) (zdg dz_E_largestWeek_0 13 rfl) 2 rfl rfl ?_
    refine vf_aload_n C (f := 0) (zdg dz_E_largestWeek_0 14 rfl) 0 rfl rfl ?_
    refine vf_getp C fl_E_61 sh_0 rfl (by decide) rfl (x := 25) rfl (zdg dz_E_largestWeek_0 15 rfl) ?_
    refine vf_get C (kd := 0) fl_E_227 sh_24 rfl (by decide) rfl rfl (zdg dz_E_largestWeek_0 16 rfl) ?_
    refine vf_icmp_ge C (off := 36) (tgt := 68) (zdg dz_E_largestWeek_0 17 rfl) (by decide) ?_ ?_
    · refine vf_iload_n C (f := 1) (zdg dz_E_largestWeek_1 9 rfl) 1 rfl rfl ?_
      exact hr _ _ _ _ (fun h => absurd h (by decide)) (zdg dz_E_largestWeek_1 10 rfl)
    · refine vf_aload_n C (f := 0) (zdg dz_E_largestWeek_0 18 rfl) 0 rfl rfl ?_
      refine vf_getp C fl_E_61 sh_0 rfl (by decide) rfl (x := 25) rfl (zdg dz_E_largestWeek_0 19 rfl) ?_
      refine vf_iload_n C (f := 2) (zdg dz_E_largestWeek_0 20 rfl) 2 rfl rfl ?_
      refine vf_callVi C cy_M_moversOf ml_E_228 rfl (ct_M_moversOf _ _) (S := []) sh_24 (by decide) rfl (jrm_of hR rfl) rfl rfl (Nat.le_of_ble_eq_true rfl) (zdg dz_E_largestWeek_0 21 rfl) (fun r3 u4 => ?_)
      refine vf_callSi C cy_JI_bitCount ml_E_245 (ct_JI_bitCount _ _) (S := []) (jrm_of hR rfl) rfl rfl (Nat.le_of_ble_eq_true rfl) (zdg dz_E_largestWeek_0 22 rfl) (fun r5 u6 => ?_)
      refine vf_aload_n C (f := 0) (zdg dz_E_largestWeek_0 23 rfl) 0 rfl rfl ?_
      refine vf_getp C fl_E_61 sh_0 rfl (by decide) rfl (x := 25) rfl (zdg dz_E_largestWeek_1 0 rfl) ?_
      refine vf_iload_n C (f := 1) (zdg dz_E_largestWeek_1 1 rfl) 1 rfl rfl ?_
      refine vf_callVi C cy_M_moversOf ml_E_228 rfl (ct_M_moversOf _ _) (S := [(0, r5)]) sh_24 (by decide) rfl (jrm_of hR rfl) rfl rfl (Nat.le_of_ble_eq_true rfl) (zdg dz_E_largestWeek_1 2 rfl) (fun r7 u8 => ?_)
      refine vf_callSi C cy_JI_bitCount ml_E_245 (ct_JI_bitCount _ _) (S := [(0, r5)]) (jrm_of hR rfl) rfl rfl (Nat.le_of_ble_eq_true rfl) (zdg dz_E_largestWeek_1 3 rfl) (fun r9 u10 => ?_)
      refine vf_icmp_le C (off := 5) (tgt := 62) (zdg dz_E_largestWeek_1 4 rfl) (by decide) ?_ ?_
      · exact t_E_largestWeek_62 C hn hR hr ih _ _ _
      · refine vf_iload_n C (f := 2) (zdg dz_E_largestWeek_1 5 rfl) 2 rfl rfl ?_
        refine vf_istore_n C (f := 1) (L' := [(0, (2, 1)), (2, (0, v2))]) (zdg dz_E_largestWeek_1 6 rfl) [0, 2] (jrI rfl rfl) hn (by decide) rfl ?_
        exact vf_perm [1, 0, 2] rfl (t_E_largestWeek_62 C hn hR hr ih _ _ _)
def f_E_largestWeek (w : Wd) : Option (Int × Wd) :=
  jcall (f_M_gather (w 5 4) 20 w) fun r1 u2 =>
  f_E_largestWeek_24 FU 0 1 u2
theorem ct_E_largestWeek (w : Wd) : Ct y_E_largestWeek prog_1_method_54_code 3 (some .int) 19 0 [(2, 1)] w (f_E_largestWeek w) := by
  refine ct_of (by decide +kernel) (Or.inl ⟨rfl, rfl⟩) (Nat.le_of_ble_eq_true rfl) ?_
  intro X Qf ad C hn hR hr
  unfold f_E_largestWeek
  show VF X Qf ad NF 0 0 w 0 [(0, (2, 1))] [] _
  refine vf_aload_n C (f := 0) (zdg dz_E_largestWeek_0 0 rfl) 0 rfl rfl ?_
  refine vf_getp C fl_E_61 sh_0 rfl (by decide) rfl (x := 25) rfl (zdg dz_E_largestWeek_0 1 rfl) ?_
  refine vf_aload_n C (f := 0) (zdg dz_E_largestWeek_0 2 rfl) 0 rfl rfl ?_
  refine vf_getp C fl_E_26 sh_0 rfl (by decide) rfl (x := 6) rfl (zdg dz_E_largestWeek_0 3 rfl) ?_
  refine vf_aload_n C (f := 0) (zdg dz_E_largestWeek_0 4 rfl) 0 rfl rfl ?_
  refine vf_getp C fl_E_26 sh_0 rfl (by decide) rfl (x := 6) rfl (zdg dz_E_largestWeek_0 5 rfl) ?_
  refine vf_get C (kd := 0) fl_E_139 sh_5 rfl (by decide) rfl rfl (zdg dz_E_largestWeek_0 6 rfl) ?_
  refine vf_bipush C (z := 20) (zdg dz_E_largestWeek_0 7 rfl) (by decide +kernel) (jz rfl) ?_
  refine vf_callVv C cy_M_gather ml_E_223 rfl (ct_M_gather _ _ _) (S := []) sh_24 (by decide) rfl (jrm_of hR rfl) rfl rfl (Nat.le_of_ble_eq_true rfl) (zdg dz_E_largestWeek_0 8 rfl) (fun r1 u2 => ?_)
  refine vf_iconst C (z := 0) (zdg dz_E_largestWeek_0 9 rfl) (jz rfl) ?_
  refine vf_istore_n C (f := 1) (L' := [(0, (2, 1))]) (zdg dz_E_largestWeek_0 10 rfl) [0] (jrI rfl rfl) hn (by decide) rfl ?_
  refine vf_iconst C (z := 1) (zdg dz_E_largestWeek_0 11 rfl) (jz rfl) ?_
  refine vf_istore_n C (f := 2) (L' := [(1, (0, 0)), (0, (2, 1))]) (zdg dz_E_largestWeek_0 12 rfl) [0, 1] (jrI rfl rfl) hn (by decide) rfl ?_
  exact vf_perm [2, 1, 0] rfl (t_E_largestWeek_24 C hn hR hr FU _ _ _)
def f_E_lowest (v0 : Int) (w : Wd) : Option (Int × Wd) :=
  if v0 = 0 then
    some ((-1), w)
  else
    jcall (f_JI_bitCount (w32 ((iand v0 (w32 (-v0))) - 1)) w) fun r1 u2 =>
    some (r1, u2)
theorem ct_E_lowest (v0 : Int) (w : Wd) : Ct y_E_lowest prog_1_method_46_code 1 (some .int) 2 0 [(0, v0)] w (f_E_lowest v0 w) := by
  refine ct_of (by decide +kernel) (Or.inl ⟨rfl, rfl⟩) (Nat.le_of_ble_eq_true rfl) ?_
  intro X Qf ad C hn hR hr
  unfold f_E_lowest
  show VF X Qf ad NF 0 0 w 0 [(0, (0, v0))] [] _
  refine vf_iload_n C (f := 0) (zdg dz_E_lowest_0 0 rfl) 0 rfl rfl ?_
  refine vf_if_ne C (off := 7) (tgt := 8) (zdg dz_E_lowest_0 1 rfl) (by decide) ?_ ?_
  · refine vf_iload_n C (f := 0) (zdg dz_E_lowest_0 4 rfl) 0 rfl rfl ?_
    refine vf_iload_n C (f := 0) (zdg dz_E_lowest_0 5 rfl) 0 rfl rfl ?_
    refine vf_ineg C (zdg dz_E_lowest_0 6 rfl) ?_
    refine vf_iand C (zdg dz_E_lowest_0 7 rfl) ?_
    refine vf_iconst C (z := 1) (zdg dz_E_lowest_0 8 rfl) (jz rfl) ?_
    refine vf_isub C (zdg dz_E_lowest_0 9 rfl) ?_
    refine vf_callSi C cy_JI_bitCount ml_E_245 (ct_JI_bitCount _ _) (S := []) (jrm_of hR rfl) rfl rfl (Nat.le_of_ble_eq_true rfl) (zdg dz_E_lowest_0 10 rfl) (fun r1 u2 => ?_)
    exact hr _ _ _ _ (fun h => absurd h (by decide)) (zdg dz_E_lowest_0 11 rfl)
  · refine vf_iconst C (z := (-1)) (zdg dz_E_lowest_0 2 rfl) (jz rfl) ?_
    refine vf_goto C (off := 12) (tgt := 17) (zdg dz_E_lowest_0 3 rfl) (by decide) ?_
    exact hr _ _ _ _ (fun h => absurd h (by decide)) (zdg dz_E_lowest_0 11 rfl)
def f_N_putFirst_12 : Nat → Int → Int → Wd → Option (Int × Wd)
  | 0, _, _, _ => none
  | n + 1, v1, v2, w =>
    if v2 ≤ 0 then
      some (0, w)
    else
      jgd ((0 : Int) ≤ (w32 (v2 - 1)) ∧ (w32 (v2 - 1)) < 20) <|
      jgd ((0 : Int) ≤ v2 ∧ v2 < 20) <|
      jlw (st w 4 v2.toNat ((w 4 (w32 (v2 - 1)).toNat))) fun u4 =>
      jgd ((0 : Int) ≤ (w32 (v2 - 1)) ∧ (w32 (v2 - 1)) < 20) <|
      jlw (st u4 4 (w32 (v2 - 1)).toNat v1) fun u5 =>
      jlet (w32 (v2 + (-1))) fun x6 =>
      f_N_putFirst_12 n v1 x6 u5
theorem t_N_putFirst_12 {X : jX} {Qf : Int × Wd → State → Prop} {ad : Nat → Nat} (C : Cx X prog_7_method_4_code "EachBringsAnother$Numbers") (hn : xn X = 3) (hR : xR X = rmD 2) (hr : Rt X Qf ad prog_7_method_4_code 9) : ∀ (n : Nat) (v1 v2 : Int) (w : Wd), VF X Qf ad NF 0 0 w 12 [(0, (2, 4)), (1, (0, v1)), (2, (0, v2))] [] (f_N_putFirst_12 n v1 v2 w) := by
  intro n
  induction n with
  | zero => intros; exact vf_no
  | succ n ih =>
    intro v1 v2 w
    rw [f_N_putFirst_12]
    refine vf_iload_n C (f := 2) (zdg dz_N_putFirst_0 8 rfl) 2 rfl rfl ?_
    refine vf_if_le C (off := 32) (tgt := 45) (zdg dz_N_putFirst_0 9 rfl) (by decide) ?_ ?_
    · exact hr _ _ _ _ (fun h => absurd h (by decide)) (zdg dz_N_putFirst_1 5 rfl)
    · refine vf_aload_n C (f := 0) (zdg dz_N_putFirst_0 10 rfl) 0 rfl rfl ?_
      refine vf_getp C fl_N_9 sh_3 rfl (by decide) rfl (x := 5) rfl (zdg dz_N_putFirst_0 11 rfl) ?_
      refine vf_iload_n C (f := 2) (zdg dz_N_putFirst_0 12 rfl) 2 rfl rfl ?_
      refine vf_aload_n C (f := 0) (zdg dz_N_putFirst_0 13 rfl) 0 rfl rfl ?_
      refine vf_getp C fl_N_9 sh_3 rfl (by decide) rfl (x := 5) rfl (zdg dz_N_putFirst_0 14 rfl) ?_
      refine vf_iload_n C (f := 2) (zdg dz_N_putFirst_0 15 rfl) 2 rfl rfl ?_
      refine vf_iconst C (z := 1) (zdg dz_N_putFirst_0 16 rfl) (jz rfl) ?_
      refine vf_isub C (zdg dz_N_putFirst_0 17 rfl) ?_
      refine vf_iald C sh_4 (by decide) rfl (mz := 20) rfl (zdg dz_N_putFirst_0 18 rfl) ?_
      refine vf_iast C sh_4 (by decide) rfl (mz := 20) rfl (zdg dz_N_putFirst_0 19 rfl) ?_
      generalize st w 4 v2.toNat ((w 4 (w32 (v2 - 1)).toNat)) = u4
      refine vf_uw ?_
      refine vf_aload_n C (f := 0) (zdg dz_N_putFirst_0 20 rfl) 0 rfl rfl ?_
      refine vf_getp C fl_N_9 sh_3 rfl (by decide) rfl (x := 5) rfl (zdg dz_N_putFirst_0 21 rfl) ?_
      refine vf_iload_n C (f := 2) (zdg dz_N_putFirst_0 22 rfl) 2 rfl rfl ?_
      refine vf_iconst C (z := 1) (zdg dz_N_putFirst_0 23 rfl) (jz rfl) ?_
      refine vf_isub C (zdg dz_N_putFirst_1 0 rfl) ?_
      refine vf_iload_n C (f := 1) (zdg dz_N_putFirst_1 1 rfl) 1 rfl rfl ?_
      refine vf_iast C sh_4 (by decide) rfl (mz := 20) rfl (zdg dz_N_putFirst_1 2 rfl) ?_
      generalize st u4 4 (w32 (v2 - 1)).toNat v1 = u5
      refine vf_uw ?_
      refine vf_iinc C (z := (-1)) (L' := [(0, (2, 4)), (1, (0, v1))]) (zdg dz_N_putFirst_1 3 rfl) 2 rfl [0, 1] (jrI rfl rfl) hn (by decide) ?_
      generalize w32 (v2 + (-1)) = x6
      refine vf_ul ?_
      refine vf_goto C (off := (-30)) (tgt := 12) (zdg dz_N_putFirst_1 4 rfl) (by decide) ?_
      exact vf_perm [1, 2, 0] rfl (ih _ _ _)
def f_N_putFirst (v1 : Int) (w : Wd) : Option (Int × Wd) :=
  jcall (f_N_put v1 w) fun r1 u2 =>
  jlet (w32 ((u2 3 1) - 1)) fun x3 =>
  f_N_putFirst_12 FU v1 x3 u2
theorem ct_N_putFirst (v1 : Int) (w : Wd) : Ct y_N_putFirst prog_7_method_4_code 3 none 2 9 [(2, 4), (0, v1)] w (f_N_putFirst v1 w) := by
  refine ct_of (by decide +kernel) (Or.inr (Or.inr (Or.inr ⟨rfl, rfl⟩))) (Nat.le_of_ble_eq_true rfl) ?_
  intro X Qf ad C hn hR hr
  unfold f_N_putFirst
  show VF X Qf ad NF 0 0 w 0 [(0, (2, 4)), (1, (0, v1))] [] _
  refine vf_aload_n C (f := 0) (zdg dz_N_putFirst_0 0 rfl) 0 rfl rfl ?_
  refine vf_iload_n C (f := 1) (zdg dz_N_putFirst_0 1 rfl) 1 rfl rfl ?_
  refine vf_callVv C cy_N_put ml_N_19 rfl (ct_N_put _ _) (S := []) sh_3 (by decide) rfl (jrm_of hR rfl) rfl rfl (Nat.le_of_ble_eq_true rfl) (zdg dz_N_putFirst_0 2 rfl) (fun r1 u2 => ?_)
  refine vf_aload_n C (f := 0) (zdg dz_N_putFirst_0 3 rfl) 0 rfl rfl ?_
  refine vf_get C (kd := 0) fl_N_15 sh_3 rfl (by decide) rfl rfl (zdg dz_N_putFirst_0 4 rfl) ?_
  refine vf_iconst C (z := 1) (zdg dz_N_putFirst_0 5 rfl) (jz rfl) ?_
  refine vf_isub C (zdg dz_N_putFirst_0 6 rfl) ?_
  generalize w32 ((u2 3 1) - 1) = x3
  refine vf_ul ?_
  refine vf_istore_n C (f := 2) (L' := [(0, (2, 4)), (1, (0, v1))]) (zdg dz_N_putFirst_0 7 rfl) [0, 1] (jrI rfl rfl) hn (by decide) rfl ?_
  exact vf_perm [1, 2, 0] rfl (t_N_putFirst_12 C hn hR hr FU _ _ _)
def f_M_tellPairs_9 : Nat → Int → Int → Wd → Option (Int × Wd)
  | 0, _, _, _ => none
  | n + 1, v3, v4, w =>
    if (10 : Int) ≤ v4 then
      some (0, w)
    else
      if v3 ≤ 0 then
        some (0, w)
      else
        if (w 24 3) ≤ v3 then
          some (0, w)
        else
          jgd ((0 : Int) ≤ v3 ∧ v3 < 256) <|
          jgd ((0 : Int) ≤ v3 ∧ v3 < 256) <|
          jcall (f_M_moversOf (w 26 v3.toNat) w) fun r3 u4 =>
          jlet (iand (w 25 v3.toNat) (ixor r3 (-1))) fun x5 =>
          jcall (f_E_lowest (iand x5 (u4 24 6)) u4) fun r6 u7 =>
          jcall (f_E_lowest (iand x5 (u7 24 7)) u7) fun r8 u9 =>
          jcall (f_N_putFirst (w32 ((w32 (10 * r6)) + r8)) u9) fun r10 u11 =>
          jgd ((0 : Int) ≤ v3 ∧ v3 < 256) <|
          jlet (u11 26 v3.toNat) fun x12 =>
          jlet (w32 (v4 + 1)) fun x13 =>
          f_M_tellPairs_9 n x12 x13 u11
theorem t_M_tellPairs_9 {X : jX} {Qf : Int × Wd → State → Prop} {ad : Nat → Nat} (C : Cx X prog_6_method_7_code "EachBringsAnother$Moves") (hn : xn X = 6) (hR : xR X = rmD 3) (hr : Rt X Qf ad prog_6_method_7_code 9) : ∀ (n : Nat) (v3 v4 : Int) (w : Wd), VF X Qf ad NF 0 0 w 9 [(0, (2, 25)), (2, (2, 4)), (3, (0, v3)), (4, (0, v4))] [] (f_M_tellPairs_9 n v3 v4 w) := by
  intro n
  induction n with
  | zero => intros; exact vf_no
  | succ n ih =>
    intro v3 v4 w
    rw [f_M_tellPairs_9]
    refine vf_iload C (zdg dz_M_tellPairs_0 6 rfl) 3 rfl ?_
    refine vf_bipush C (z := 10) (zdg dz_M_tellPairs_0 7 rfl) (by decide +kernel) (jz rfl) ?_
    refine vf_icmp_ge C (off := 77) (tgt := 90) (zdg dz_M_tellPairs_0 8 rfl) (by decide) ?_ ?_
    · exact hr _ _ _ _ (fun h => absurd h (by decide)) (zdg dz_M_tellPairs_2 3 rfl)
    · refine vf_iload_n C (f := 3) (zdg dz_M_tellPairs_0 9 rfl) 2 rfl rfl ?_
      refine vf_if_le C (off := 73) (tgt := 90) (zdg dz_M_tellPairs_0 10 rfl) (by decide) ?_ ?_
      · exact hr _ _ _ _ (fun h => absurd h (by decide)) (zdg dz_M_tellPairs_2 3 rfl)
      · refine vf_iload_n C (f := 3) (zdg dz_M_tellPairs_0 11 rfl) 2 rfl rfl ?_
        refine vf_aload_n C (f := 0) (zdg dz_M_tellPairs_0 12 rfl) 0 rfl rfl ?_
        refine vf_get C (kd := 0) fl_M_79 sh_24 rfl (by decide) rfl rfl (zdg dz_M_tellPairs_0 13 rfl) ?_
        refine vf_icmp_ge C (off := 65) (tgt := 90) (zdg dz_M_tellPairs_0 14 rfl) (by decide) ?_ ?_
        · exact hr _ _ _ _ (fun h => absurd h (by decide)) (zdg dz_M_tellPairs_2 3 rfl)
        · refine vf_aload_n C (f := 0) (zdg dz_M_tellPairs_0 15 rfl) 0 rfl rfl ?_
          refine vf_getp C fl_M_11 sh_24 rfl (by decide) rfl (x := 26) rfl (zdg dz_M_tellPairs_0 16 rfl) ?_
          refine vf_iload_n C (f := 3) (zdg dz_M_tellPairs_0 17 rfl) 2 rfl rfl ?_
          refine vf_iald C sh_25 (by decide) rfl (mz := 256) rfl (zdg dz_M_tellPairs_0 18 rfl) ?_
          refine vf_aload_n C (f := 0) (zdg dz_M_tellPairs_0 19 rfl) 0 rfl rfl ?_
          refine vf_aload_n C (f := 0) (zdg dz_M_tellPairs_0 20 rfl) 0 rfl rfl ?_
          refine vf_getp C fl_M_15 sh_24 rfl (by decide) rfl (x := 27) rfl (zdg dz_M_tellPairs_0 21 rfl) ?_
          refine vf_iload_n C (f := 3) (zdg dz_M_tellPairs_0 22 rfl) 2 rfl rfl ?_
          refine vf_iald C sh_26 (by decide) rfl (mz := 256) rfl (zdg dz_M_tellPairs_0 23 rfl) ?_
          refine vf_callVi C cy_M_moversOf ml_M_98 rfl (ct_M_moversOf _ _) (S := [(0, w 25 v3.toNat)]) sh_24 (by decide) rfl (jrm_of hR rfl) rfl rfl (Nat.le_of_ble_eq_true rfl) (zdg dz_M_tellPairs_1 0 rfl) (fun r3 u4 => ?_)
          refine vf_iconst C (z := (-1)) (zdg dz_M_tellPairs_1 1 rfl) (jz rfl) ?_
          refine vf_ixor C (zdg dz_M_tellPairs_1 2 rfl) ?_
          refine vf_iand C (zdg dz_M_tellPairs_1 3 rfl) ?_
          generalize iand (w 25 v3.toNat) (ixor r3 (-1)) = x5
          refine vf_ul ?_
          refine vf_istore C (i := 5) (L' := [(0, (2, 25)), (2, (2, 4)), (3, (0, v3)), (4, (0, v4))]) (zdg dz_M_tellPairs_1 4 rfl) [0, 1, 2, 3] (jrI rfl rfl) hn (by decide) ?_
          refine vf_aload_n C (f := 2) (zdg dz_M_tellPairs_1 5 rfl) 2 rfl rfl ?_
          refine vf_bipush C (z := 10) (zdg dz_M_tellPairs_1 6 rfl) (by decide +kernel) (jz rfl) ?_
          refine vf_iload C (zdg dz_M_tellPairs_1 7 rfl) 0 rfl ?_
          refine vf_aload_n C (f := 0) (zdg dz_M_tellPairs_1 8 rfl) 1 rfl rfl ?_
          refine vf_get C (kd := 0) fl_M_57 sh_24 rfl (by decide) rfl rfl (zdg dz_M_tellPairs_1 9 rfl) ?_
          refine vf_iand C (zdg dz_M_tellPairs_1 10 rfl) ?_
          refine vf_callSi C cy_E_lowest ml_M_101 (ct_E_lowest _ _) (S := [(0, 10), (2, 4)]) (jrm_of hR rfl) rfl rfl (Nat.le_of_ble_eq_true rfl) (zdg dz_M_tellPairs_1 11 rfl) (fun r6 u7 => ?_)
          refine vf_imul C (zdg dz_M_tellPairs_1 12 rfl) ?_
          refine vf_iload C (zdg dz_M_tellPairs_1 13 rfl) 0 rfl ?_
          refine vf_aload_n C (f := 0) (zdg dz_M_tellPairs_1 14 rfl) 1 rfl rfl ?_
          refine vf_get C (kd := 0) fl_M_70 sh_24 rfl (by decide) rfl rfl (zdg dz_M_tellPairs_1 15 rfl) ?_
          refine vf_iand C (zdg dz_M_tellPairs_1 16 rfl) ?_
          refine vf_callSi C cy_E_lowest ml_M_101 (ct_E_lowest _ _) (S := [(0, w32 (10 * r6)), (2, 4)]) (jrm_of hR rfl) rfl rfl (Nat.le_of_ble_eq_true rfl) (zdg dz_M_tellPairs_1 17 rfl) (fun r8 u9 => ?_)
          refine vf_iadd C (zdg dz_M_tellPairs_1 18 rfl) ?_
          refine vf_callVv C cy_N_putFirst ml_M_104 rfl (ct_N_putFirst _ _) (S := []) sh_3 (by decide) rfl (jrm_of hR rfl) rfl rfl (Nat.le_of_ble_eq_true rfl) (zdg dz_M_tellPairs_1 19 rfl) (fun r10 u11 => ?_)
          refine vf_aload_n C (f := 0) (zdg dz_M_tellPairs_1 20 rfl) 1 rfl rfl ?_
          refine vf_getp C fl_M_15 sh_24 rfl (by decide) rfl (x := 27) rfl (zdg dz_M_tellPairs_1 21 rfl) ?_
          refine vf_iload_n C (f := 3) (zdg dz_M_tellPairs_1 22 rfl) 3 rfl rfl ?_
          refine vf_iald C sh_26 (by decide) rfl (mz := 256) rfl (zdg dz_M_tellPairs_1 23 rfl) ?_
          generalize u11 26 v3.toNat = x12
          refine vf_ul ?_
          refine vf_istore_n C (f := 3) (L' := [(0, (2, 25)), (2, (2, 4)), (4, (0, v4))]) (zdg dz_M_tellPairs_2 0 rfl) [1, 2, 4] (jrI rfl rfl) hn (by decide) rfl ?_
          refine vf_iinc C (z := 1) (L' := [(3, (0, x12)), (0, (2, 25)), (2, (2, 4))]) (zdg dz_M_tellPairs_2 1 rfl) 3 rfl [0, 1, 2] (jrI rfl rfl) hn (by decide) ?_
          generalize w32 (v4 + 1) = x13
          refine vf_ul ?_
          refine vf_goto C (off := (-78)) (tgt := 9) (zdg dz_M_tellPairs_2 2 rfl) (by decide) ?_
          exact vf_perm [2, 3, 1, 0] rfl (ih _ _ _)
def f_M_tellPairs (v1 : Int) (w : Wd) : Option (Int × Wd) :=
  jcall (f_N_clear w) fun r1 u2 =>
  f_M_tellPairs_9 FU v1 0 u2
theorem ct_M_tellPairs (v1 : Int) (w : Wd) : Ct y_M_tellPairs prog_6_method_7_code 6 none 3 9 [(2, 25), (0, v1), (2, 4)] w (f_M_tellPairs v1 w) := by
  refine ct_of (by decide +kernel) (Or.inr (Or.inr (Or.inr ⟨rfl, rfl⟩))) (Nat.le_of_ble_eq_true rfl) ?_
  intro X Qf ad C hn hR hr
  unfold f_M_tellPairs
  show VF X Qf ad NF 0 0 w 0 [(0, (2, 25)), (1, (0, v1)), (2, (2, 4))] [] _
  refine vf_aload_n C (f := 2) (zdg dz_M_tellPairs_0 0 rfl) 2 rfl rfl ?_
  refine vf_callVv C cy_N_clear ml_M_93 rfl (ct_N_clear _) (S := []) sh_3 (by decide) rfl (jrm_of hR rfl) rfl rfl (Nat.le_of_ble_eq_true rfl) (zdg dz_M_tellPairs_0 1 rfl) (fun r1 u2 => ?_)
  refine vf_iload_n C (f := 1) (zdg dz_M_tellPairs_0 2 rfl) 1 rfl rfl ?_
  refine vf_istore_n C (f := 3) (L' := [(0, (2, 25)), (2, (2, 4))]) (zdg dz_M_tellPairs_0 3 rfl) [0, 2] (jrI rfl rfl) hn (by decide) rfl ?_
  refine vf_iconst C (z := 0) (zdg dz_M_tellPairs_0 4 rfl) (jz rfl) ?_
  refine vf_istore C (i := 4) (L' := [(3, (0, v1)), (0, (2, 25)), (2, (2, 4))]) (zdg dz_M_tellPairs_0 5 rfl) [0, 1, 2] (jrI rfl rfl) hn (by decide) ?_
  exact vf_perm [2, 3, 1, 0] rfl (t_M_tellPairs_9 C hn hR hr FU _ _ _)
def f_E_pairs (w : Wd) : Option (Int × Wd) :=
  jcall (f_E_largestWeek w) fun r1 u2 =>
  jcall (f_M_tellPairs r1 u2) fun r3 u4 =>
  some (u4 3 1, u4)
theorem ct_E_pairs (w : Wd) : Ct y_E_pairs prog_1_method_17_code 2 (some .int) 20 0 [(2, 1)] w (f_E_pairs w) := by
  refine ct_of (by decide +kernel) (Or.inl ⟨rfl, rfl⟩) (Nat.le_of_ble_eq_true rfl) ?_
  intro X Qf ad C hn hR hr
  unfold f_E_pairs
  show VF X Qf ad NF 0 0 w 0 [(0, (2, 1))] [] _
  refine vf_aload_n C (f := 0) (zdg dz_E_pairs_0 0 rfl) 0 rfl rfl ?_
  refine vf_callVi C cy_E_largestWeek ml_E_237 rfl (ct_E_largestWeek _) (S := []) sh_0 (by decide) rfl (jrm_of hR rfl) rfl rfl (Nat.le_of_ble_eq_true rfl) (zdg dz_E_pairs_0 1 rfl) (fun r1 u2 => ?_)
  refine vf_istore_n C (f := 1) (L' := [(0, (2, 1))]) (zdg dz_E_pairs_0 2 rfl) [0] (jrI rfl rfl) hn (by decide) rfl ?_
  refine vf_aload_n C (f := 0) (zdg dz_E_pairs_0 3 rfl) 1 rfl rfl ?_
  refine vf_getp C fl_E_61 sh_0 rfl (by decide) rfl (x := 25) rfl (zdg dz_E_pairs_0 4 rfl) ?_
  refine vf_iload_n C (f := 1) (zdg dz_E_pairs_0 5 rfl) 0 rfl rfl ?_
  refine vf_aload_n C (f := 0) (zdg dz_E_pairs_0 6 rfl) 1 rfl rfl ?_
  refine vf_getp C fl_E_19 sh_0 rfl (by decide) rfl (x := 4) rfl (zdg dz_E_pairs_0 7 rfl) ?_
  refine vf_callVv C cy_M_tellPairs ml_E_240 rfl (ct_M_tellPairs _ _) (S := []) sh_24 (by decide) rfl (jrm_of hR rfl) rfl rfl (Nat.le_of_ble_eq_true rfl) (zdg dz_E_pairs_0 8 rfl) (fun r3 u4 => ?_)
  refine vf_aload_n C (f := 0) (zdg dz_E_pairs_0 9 rfl) 1 rfl rfl ?_
  refine vf_getp C fl_E_19 sh_0 rfl (by decide) rfl (x := 4) rfl (zdg dz_E_pairs_0 10 rfl) ?_
  refine vf_get C (kd := 0) fl_E_244 sh_3 rfl (by decide) rfl rfl (zdg dz_E_pairs_0 11 rfl) ?_
  exact hr _ _ _ _ (fun h => absurd h (by decide)) (zdg dz_E_pairs_0 12 rfl)
def f_E_bars_89 (k32 : Int → Int → Int → Wd → Option (Int × Wd)) (v1 v2 v3 : Int) (w : Wd) : Option (Int × Wd) :=
  jlet (w32 (v3 + 1)) fun x17 =>
  k32 v1 v2 x17 w
theorem t_E_bars_89 {X : jX} {Qf : Int × Wd → State → Prop} {ad : Nat → Nat} (C : Cx X prog_1_method_18_code "EachBringsAnother") (hn : xn X = 5) (hR : xR X = rmD 20) (hr : Rt X Qf ad prog_1_method_18_code 0) {k32 : Int → Int → Int → Wd → Option (Int × Wd)} (hk32 : ∀ (v1 v2 v3 : Int) (w : Wd), VF X Qf ad NF 0 0 w 32 [(0, (2, 1)), (1, (0, v1)), (2, (0, v2)), (3, (0, v3))] [] (k32 v1 v2 v3 w)) (v1 v2 v3 : Int) (w : Wd) : VF X Qf ad NF 0 0 w 89 [(0, (2, 1)), (1, (0, v1)), (2, (0, v2)), (3, (0, v3))] [] (f_E_bars_89 k32 v1 v2 v3 w) := by
  unfold f_E_bars_89
  refine vf_iinc C (z := 1) (L' := [(0, (2, 1)), (1, (0, v1)), (2, (0, v2))]) (zdg dz_E_bars_2 2 rfl) 3 rfl [0, 1, 2] (jrI rfl rfl) hn (by decide) ?_
  generalize w32 (v3 + 1) = x17
  refine vf_ul ?_
  refine vf_goto C (off := (-60)) (tgt := 32) (zdg dz_E_bars_2 3 rfl) (by decide) ?_
  exact vf_perm [1, 2, 3, 0] rfl (hk32 _ _ _ _)
def f_E_bars_32 : Nat → Int → Int → Int → Wd → Option (Int × Wd)
  | 0, _, _, _, _ => none
  | n + 1, v1, v2, v3, w =>
    if v1 < v3 then
      some ((-1), w)
    else
      jcall (f_F_knownBy v3 w) fun r12 u13 =>
      jcall (f_F_free u13) fun r14 u15 =>
      jlet (iand r12 r14) fun x16 =>
      if (iand v3 (ixor v1 (-1))) = 0 then
        jcall (f_JI_bitCount v3 u15) fun r18 u19 =>
        jcall (f_JI_bitCount x16 u19) fun r20 u21 =>
        if (w32 (r18 - r20)) = v2 then
          jcall (f_N_tell2 v2 x16 u21) fun r22 u23 =>
          some (v3, u23)
        else
          f_E_bars_89 (f_E_bars_32 n) v1 v2 v3 u21
      else
        f_E_bars_89 (f_E_bars_32 n) v1 v2 v3 u15
theorem t_E_bars_32 {X : jX} {Qf : Int × Wd → State → Prop} {ad : Nat → Nat} (C : Cx X prog_1_method_18_code "EachBringsAnother") (hn : xn X = 5) (hR : xR X = rmD 20) (hr : Rt X Qf ad prog_1_method_18_code 0) : ∀ (n : Nat) (v1 v2 v3 : Int) (w : Wd), VF X Qf ad NF 0 0 w 32 [(0, (2, 1)), (1, (0, v1)), (2, (0, v2)), (3, (0, v3))] [] (f_E_bars_32 n v1 v2 v3 w) := by
  intro n
  induction n with
  | zero => intros; exact vf_no
  | succ n ih =>
    intro v1 v2 v3 w
    rw [f_E_bars_32]
    refine vf_iload_n C (f := 3) (zdg dz_E_bars_0 18 rfl) 3 rfl rfl ?_
    refine vf_iload_n C (f := 1) (zdg dz_E_bars_0 19 rfl) 1 rfl rfl ?_
    refine vf_icmp_gt C (off := 61) (tgt := 95) (zdg dz_E_bars_0 20 rfl) (by decide) ?_ ?_
    · refine vf_iconst C (z := (-1)) (zdg dz_E_bars_2 4 rfl) (jz rfl) ?_
      exact hr _ _ _ _ (fun h => absurd h (by decide)) (zdg dz_E_bars_2 5 rfl)
    · refine vf_aload_n C (f := 0) (zdg dz_E_bars_0 21 rfl) 0 rfl rfl ?_
      refine vf_getp C fl_E_26 sh_0 rfl (by decide) rfl (x := 6) rfl (zdg dz_E_bars_0 22 rfl) ?_
      refine vf_iload_n C (f := 3) (zdg dz_E_bars_0 23 rfl) 3 rfl rfl ?_
      refine vf_callVi C cy_F_knownBy ml_E_250 rfl (ct_F_knownBy _ _) (S := []) sh_5 (by decide) rfl (jrm_of hR rfl) rfl rfl (Nat.le_of_ble_eq_true rfl) (zdg dz_E_bars_1 0 rfl) (fun r12 u13 => ?_)
      refine vf_aload_n C (f := 0) (zdg dz_E_bars_1 1 rfl) 0 rfl rfl ?_
      refine vf_getp C fl_E_26 sh_0 rfl (by decide) rfl (x := 6) rfl (zdg dz_E_bars_1 2 rfl) ?_
      refine vf_callVi C cy_F_free ml_E_253 rfl (ct_F_free _) (S := [(0, r12)]) sh_5 (by decide) rfl (jrm_of hR rfl) rfl rfl (Nat.le_of_ble_eq_true rfl) (zdg dz_E_bars_1 3 rfl) (fun r14 u15 => ?_)
      refine vf_iand C (zdg dz_E_bars_1 4 rfl) ?_
      generalize iand r12 r14 = x16
      refine vf_ul ?_
      refine vf_istore C (i := 4) (L' := [(0, (2, 1)), (1, (0, v1)), (2, (0, v2)), (3, (0, v3))]) (zdg dz_E_bars_1 5 rfl) [0, 1, 2, 3] (jrI rfl rfl) hn (by decide) ?_
      refine vf_iload_n C (f := 3) (zdg dz_E_bars_1 6 rfl) 4 rfl rfl ?_
      refine vf_iload_n C (f := 1) (zdg dz_E_bars_1 7 rfl) 2 rfl rfl ?_
      refine vf_iconst C (z := (-1)) (zdg dz_E_bars_1 8 rfl) (jz rfl) ?_
      refine vf_ixor C (zdg dz_E_bars_1 9 rfl) ?_
      refine vf_iand C (zdg dz_E_bars_1 10 rfl) ?_
      refine vf_if_ne C (off := 29) (tgt := 89) (zdg dz_E_bars_1 11 rfl) (by decide) ?_ ?_
      · exact vf_perm [1, 2, 3, 4] rfl (t_E_bars_89 C hn hR hr ih _ _ _ _)
      · refine vf_iload_n C (f := 3) (zdg dz_E_bars_1 12 rfl) 4 rfl rfl ?_
        refine vf_callSi C cy_JI_bitCount ml_E_245 (ct_JI_bitCount _ _) (S := []) (jrm_of hR rfl) rfl rfl (Nat.le_of_ble_eq_true rfl) (zdg dz_E_bars_1 13 rfl) (fun r18 u19 => ?_)
        refine vf_iload C (zdg dz_E_bars_1 14 rfl) 0 rfl ?_
        refine vf_callSi C cy_JI_bitCount ml_E_245 (ct_JI_bitCount _ _) (S := [(0, r18)]) (jrm_of hR rfl) rfl rfl (Nat.le_of_ble_eq_true rfl) (zdg dz_E_bars_1 15 rfl) (fun r20 u21 => ?_)
        refine vf_isub C (zdg dz_E_bars_1 16 rfl) ?_
        refine vf_iload_n C (f := 2) (zdg dz_E_bars_1 17 rfl) 3 rfl rfl ?_
        refine vf_icmp_ne C (off := 15) (tgt := 89) (zdg dz_E_bars_1 18 rfl) (by decide) ?_ ?_
        · exact vf_perm [1, 2, 3, 4] rfl (t_E_bars_89 C hn hR hr ih _ _ _ _)
        · refine vf_aload_n C (f := 0) (zdg dz_E_bars_1 19 rfl) 1 rfl rfl ?_
          refine vf_getp C fl_E_19 sh_0 rfl (by decide) rfl (x := 4) rfl (zdg dz_E_bars_1 20 rfl) ?_
          refine vf_iload_n C (f := 2) (zdg dz_E_bars_1 21 rfl) 3 rfl rfl ?_
          refine vf_iload C (zdg dz_E_bars_1 22 rfl) 0 rfl ?_
          refine vf_callVv C cy_N_tell2 ml_E_216 rfl (ct_N_tell2 _ _ _) (S := []) sh_3 (by decide) rfl (jrm_of hR rfl) rfl rfl (Nat.le_of_ble_eq_true rfl) (zdg dz_E_bars_1 23 rfl) (fun r22 u23 => ?_)
          refine vf_iload_n C (f := 3) (zdg dz_E_bars_2 0 rfl) 4 rfl rfl ?_
          exact hr _ _ _ _ (fun h => absurd h (by decide)) (zdg dz_E_bars_2 1 rfl)
def f_E_bars (w : Wd) : Option (Int × Wd) :=
  jcall (f_F_guests w) fun r1 u2 =>
  jcall (f_JI_bitCount r1 u2) fun r3 u4 =>
  jcall (f_E_largestWeek u4) fun r5 u6 =>
  jcall (f_M_moversOf r5 u6) fun r7 u8 =>
  jcall (f_JI_bitCount r7 u8) fun r9 u10 =>
  if 2 = 0 then none else
  jlet (w32 (r3 - (idiv r9 2))) fun x11 =>
  f_E_bars_32 FU r1 x11 0 u10
theorem ct_E_bars (w : Wd) : Ct y_E_bars prog_1_method_18_code 5 (some .int) 20 0 [(2, 1)] w (f_E_bars w) := by
  refine ct_of (by decide +kernel) (Or.inl ⟨rfl, rfl⟩) (Nat.le_of_ble_eq_true rfl) ?_
  intro X Qf ad C hn hR hr
  unfold f_E_bars
  show VF X Qf ad NF 0 0 w 0 [(0, (2, 1))] [] _
  refine vf_aload_n C (f := 0) (zdg dz_E_bars_0 0 rfl) 0 rfl rfl ?_
  refine vf_getp C fl_E_26 sh_0 rfl (by decide) rfl (x := 6) rfl (zdg dz_E_bars_0 1 rfl) ?_
  refine vf_callVi C cy_F_guests ml_E_136 rfl (ct_F_guests _) (S := []) sh_5 (by decide) rfl (jrm_of hR rfl) rfl rfl (Nat.le_of_ble_eq_true rfl) (zdg dz_E_bars_0 2 rfl) (fun r1 u2 => ?_)
  refine vf_istore_n C (f := 1) (L' := [(0, (2, 1))]) (zdg dz_E_bars_0 3 rfl) [0] (jrI rfl rfl) hn (by decide) rfl ?_
  refine vf_iload_n C (f := 1) (zdg dz_E_bars_0 4 rfl) 0 rfl rfl ?_
  refine vf_callSi C cy_JI_bitCount ml_E_245 (ct_JI_bitCount _ _) (S := []) (jrm_of hR rfl) rfl rfl (Nat.le_of_ble_eq_true rfl) (zdg dz_E_bars_0 5 rfl) (fun r3 u4 => ?_)
  refine vf_aload_n C (f := 0) (zdg dz_E_bars_0 6 rfl) 1 rfl rfl ?_
  refine vf_getp C fl_E_61 sh_0 rfl (by decide) rfl (x := 25) rfl (zdg dz_E_bars_0 7 rfl) ?_
  refine vf_aload_n C (f := 0) (zdg dz_E_bars_0 8 rfl) 1 rfl rfl ?_
  refine vf_callVi C cy_E_largestWeek ml_E_237 rfl (ct_E_largestWeek _) (S := [(2, 25), (0, r3)]) sh_0 (by decide) rfl (jrm_of hR rfl) rfl rfl (Nat.le_of_ble_eq_true rfl) (zdg dz_E_bars_0 9 rfl) (fun r5 u6 => ?_)
  refine vf_callVi C cy_M_moversOf ml_E_228 rfl (ct_M_moversOf _ _) (S := [(0, r3)]) sh_24 (by decide) rfl (jrm_of hR rfl) rfl rfl (Nat.le_of_ble_eq_true rfl) (zdg dz_E_bars_0 10 rfl) (fun r7 u8 => ?_)
  refine vf_callSi C cy_JI_bitCount ml_E_245 (ct_JI_bitCount _ _) (S := [(0, r3)]) (jrm_of hR rfl) rfl rfl (Nat.le_of_ble_eq_true rfl) (zdg dz_E_bars_0 11 rfl) (fun r9 u10 => ?_)
  refine vf_iconst C (z := 2) (zdg dz_E_bars_0 12 rfl) (jz rfl) ?_
  refine vf_idiv C (zdg dz_E_bars_0 13 rfl) ?_
  refine vf_isub C (zdg dz_E_bars_0 14 rfl) ?_
  generalize w32 (r3 - (idiv r9 2)) = x11
  refine vf_ul ?_
  refine vf_istore_n C (f := 2) (L' := [(1, (0, r1)), (0, (2, 1))]) (zdg dz_E_bars_0 15 rfl) [0, 1] (jrI rfl rfl) hn (by decide) rfl ?_
  refine vf_iconst C (z := 0) (zdg dz_E_bars_0 16 rfl) (jz rfl) ?_
  refine vf_istore_n C (f := 3) (L' := [(2, (0, x11)), (1, (0, r1)), (0, (2, 1))]) (zdg dz_E_bars_0 17 rfl) [0, 1, 2] (jrI rfl rfl) hn (by decide) rfl ?_
  exact vf_perm [3, 2, 1, 0] rfl (t_E_bars_32 C hn hR hr FU _ _ _ _)
def f_JA_fill_29_5 : Nat → Int → Int → Int → Wd → Option (Int × Wd)
  | 0, _, _, _, _ => none
  | n + 1, v1, v2, v3, w =>
    if v3 ≤ v2 then
      some (0, w)
    else
      jgd ((0 : Int) ≤ v2 ∧ v2 < 8192) <|
      jlw (st w 29 v2.toNat v1) fun u1 =>
      jlet (w32 (v2 + 1)) fun x2 =>
      f_JA_fill_29_5 n v1 x2 v3 u1
theorem t_JA_fill_29_5 {X : jX} {Qf : Int × Wd → State → Prop} {ad : Nat → Nat} (C : Cx X prog_23_method_103_code "java/util/Arrays") (hn : xn X = 4) (hR : xR X = rmD 1) (hr : Rt X Qf ad prog_23_method_103_code 9) : ∀ (n : Nat) (v1 v2 v3 : Int) (w : Wd), VF X Qf ad NF 0 0 w 5 [(0, (2, 30)), (1, (0, v1)), (2, (0, v2)), (3, (0, v3))] [] (f_JA_fill_29_5 n v1 v2 v3 w) := by
  intro n
  induction n with
  | zero => intros; exact vf_no
  | succ n ih =>
    intro v1 v2 v3 w
    rw [f_JA_fill_29_5]
    refine vf_iload_n C (f := 2) (zdg dz_JA_fill_0 5 rfl) 2 rfl rfl ?_
    refine vf_iload_n C (f := 3) (zdg dz_JA_fill_0 6 rfl) 3 rfl rfl ?_
    refine vf_icmp_ge C (off := 13) (tgt := 20) (zdg dz_JA_fill_0 7 rfl) (by decide) ?_ ?_
    · exact hr _ _ _ _ (fun h => absurd h (by decide)) (zdg dz_JA_fill_0 14 rfl)
    · refine vf_aload_n C (f := 0) (zdg dz_JA_fill_0 8 rfl) 0 rfl rfl ?_
      refine vf_iload_n C (f := 2) (zdg dz_JA_fill_0 9 rfl) 2 rfl rfl ?_
      refine vf_iload_n C (f := 1) (zdg dz_JA_fill_0 10 rfl) 1 rfl rfl ?_
      refine vf_iast C sh_29 (by decide) rfl (mz := 8192) rfl (zdg dz_JA_fill_0 11 rfl) ?_
      generalize st w 29 v2.toNat v1 = u1
      refine vf_uw ?_
      refine vf_iinc C (z := 1) (L' := [(0, (2, 30)), (1, (0, v1)), (3, (0, v3))]) (zdg dz_JA_fill_0 12 rfl) 2 rfl [0, 1, 3] (jrI rfl rfl) hn (by decide) ?_
      generalize w32 (v2 + 1) = x2
      refine vf_ul ?_
      refine vf_goto C (off := (-12)) (tgt := 5) (zdg dz_JA_fill_0 13 rfl) (by decide) ?_
      exact vf_perm [1, 2, 0, 3] rfl (ih _ _ _ _)
def f_JA_fill_29 (v1 : Int) (w : Wd) : Option (Int × Wd) :=
  f_JA_fill_29_5 FU v1 0 8192 w
theorem ct_JA_fill_29 (v1 : Int) (w : Wd) : Ct y_JA_fill prog_23_method_103_code 4 none 1 9 [(2, 30), (0, v1)] w (f_JA_fill_29 v1 w) := by
  refine ct_of (by decide +kernel) (Or.inr (Or.inr (Or.inr ⟨rfl, rfl⟩))) (Nat.le_of_ble_eq_true rfl) ?_
  intro X Qf ad C hn hR hr
  unfold f_JA_fill_29
  show VF X Qf ad NF 0 0 w 0 [(0, (2, 30)), (1, (0, v1))] [] _
  refine vf_iconst C (z := 0) (zdg dz_JA_fill_0 0 rfl) (jz rfl) ?_
  refine vf_istore_n C (f := 2) (L' := [(0, (2, 30)), (1, (0, v1))]) (zdg dz_JA_fill_0 1 rfl) [0, 1] (jrI rfl rfl) hn (by decide) rfl ?_
  refine vf_aload_n C (f := 0) (zdg dz_JA_fill_0 2 rfl) 1 rfl rfl ?_
  refine vf_alen C sh_29 (by decide) (by decide) rfl (x := 8192) rfl (jz rfl) (zdg dz_JA_fill_0 3 rfl) ?_
  refine vf_istore_n C (f := 3) (L' := [(2, (0, 0)), (0, (2, 30)), (1, (0, v1))]) (zdg dz_JA_fill_0 4 rfl) [0, 1, 2] (jrI rfl rfl) hn (by decide) rfl ?_
  exact vf_perm [2, 3, 1, 0] rfl (t_JA_fill_29_5 C hn hR hr FU _ _ _ _)
def f_JA_fill_34_5 : Nat → Int → Int → Int → Wd → Option (Int × Wd)
  | 0, _, _, _, _ => none
  | n + 1, v1, v2, v3, w =>
    if v3 ≤ v2 then
      some (0, w)
    else
      jgd ((0 : Int) ≤ v2 ∧ v2 < 451) <|
      jlw (st w 34 v2.toNat v1) fun u1 =>
      jlet (w32 (v2 + 1)) fun x2 =>
      f_JA_fill_34_5 n v1 x2 v3 u1
theorem t_JA_fill_34_5 {X : jX} {Qf : Int × Wd → State → Prop} {ad : Nat → Nat} (C : Cx X prog_23_method_103_code "java/util/Arrays") (hn : xn X = 4) (hR : xR X = rmD 1) (hr : Rt X Qf ad prog_23_method_103_code 9) : ∀ (n : Nat) (v1 v2 v3 : Int) (w : Wd), VF X Qf ad NF 0 0 w 5 [(0, (2, 35)), (1, (0, v1)), (2, (0, v2)), (3, (0, v3))] [] (f_JA_fill_34_5 n v1 v2 v3 w) := by
  intro n
  induction n with
  | zero => intros; exact vf_no
  | succ n ih =>
    intro v1 v2 v3 w
    rw [f_JA_fill_34_5]
    refine vf_iload_n C (f := 2) (zdg dz_JA_fill_0 5 rfl) 2 rfl rfl ?_
    refine vf_iload_n C (f := 3) (zdg dz_JA_fill_0 6 rfl) 3 rfl rfl ?_
    refine vf_icmp_ge C (off := 13) (tgt := 20) (zdg dz_JA_fill_0 7 rfl) (by decide) ?_ ?_
    · exact hr _ _ _ _ (fun h => absurd h (by decide)) (zdg dz_JA_fill_0 14 rfl)
    · refine vf_aload_n C (f := 0) (zdg dz_JA_fill_0 8 rfl) 0 rfl rfl ?_
      refine vf_iload_n C (f := 2) (zdg dz_JA_fill_0 9 rfl) 2 rfl rfl ?_
      refine vf_iload_n C (f := 1) (zdg dz_JA_fill_0 10 rfl) 1 rfl rfl ?_
      refine vf_iast C sh_34 (by decide) rfl (mz := 451) rfl (zdg dz_JA_fill_0 11 rfl) ?_
      generalize st w 34 v2.toNat v1 = u1
      refine vf_uw ?_
      refine vf_iinc C (z := 1) (L' := [(0, (2, 35)), (1, (0, v1)), (3, (0, v3))]) (zdg dz_JA_fill_0 12 rfl) 2 rfl [0, 1, 3] (jrI rfl rfl) hn (by decide) ?_
      generalize w32 (v2 + 1) = x2
      refine vf_ul ?_
      refine vf_goto C (off := (-12)) (tgt := 5) (zdg dz_JA_fill_0 13 rfl) (by decide) ?_
      exact vf_perm [1, 2, 0, 3] rfl (ih _ _ _ _)
def f_JA_fill_34 (v1 : Int) (w : Wd) : Option (Int × Wd) :=
  f_JA_fill_34_5 FU v1 0 451 w
theorem ct_JA_fill_34 (v1 : Int) (w : Wd) : Ct y_JA_fill prog_23_method_103_code 4 none 1 9 [(2, 35), (0, v1)] w (f_JA_fill_34 v1 w) := by
  refine ct_of (by decide +kernel) (Or.inr (Or.inr (Or.inr ⟨rfl, rfl⟩))) (Nat.le_of_ble_eq_true rfl) ?_
  intro X Qf ad C hn hR hr
  unfold f_JA_fill_34
  show VF X Qf ad NF 0 0 w 0 [(0, (2, 35)), (1, (0, v1))] [] _
  refine vf_iconst C (z := 0) (zdg dz_JA_fill_0 0 rfl) (jz rfl) ?_
  refine vf_istore_n C (f := 2) (L' := [(0, (2, 35)), (1, (0, v1))]) (zdg dz_JA_fill_0 1 rfl) [0, 1] (jrI rfl rfl) hn (by decide) rfl ?_
  refine vf_aload_n C (f := 0) (zdg dz_JA_fill_0 2 rfl) 1 rfl rfl ?_
  refine vf_alen C sh_34 (by decide) (by decide) rfl (x := 451) rfl (jz rfl) (zdg dz_JA_fill_0 3 rfl) ?_
  refine vf_istore_n C (f := 3) (L' := [(2, (0, 0)), (0, (2, 35)), (1, (0, v1))]) (zdg dz_JA_fill_0 4 rfl) [0, 1, 2] (jrI rfl rfl) hn (by decide) rfl ?_
  exact vf_perm [2, 3, 1, 0] rfl (t_JA_fill_34_5 C hn hR hr FU _ _ _ _)
def f_S_clear (w : Wd) : Option (Int × Wd) :=
  jcall (f_JA_fill_29 0 w) fun r1 u2 =>
  jcall (f_JA_fill_34 (-1) u2) fun r3 u4 =>
  jlw (st u4 28 7 0) fun u5 =>
  jlw (st u5 28 8 0) fun u6 =>
  jlw (st u6 28 10 0) fun u7 =>
  jlw (st u7 28 9 1) fun u8 =>
  some (0, u8)
theorem ct_S_clear (w : Wd) : Ct y_S_clear prog_9_method_4_code 1 none 2 9 [(2, 29)] w (f_S_clear w) := by
  refine ct_of (by decide +kernel) (Or.inr (Or.inr (Or.inr ⟨rfl, rfl⟩))) (Nat.le_of_ble_eq_true rfl) ?_
  intro X Qf ad C hn hR hr
  unfold f_S_clear
  show VF X Qf ad NF 0 0 w 0 [(0, (2, 29))] [] _
  refine vf_aload_n C (f := 0) (zdg dz_S_clear_0 0 rfl) 0 rfl rfl ?_
  refine vf_getp C fl_S_11 sh_28 rfl (by decide) rfl (x := 30) rfl (zdg dz_S_clear_0 1 rfl) ?_
  refine vf_iconst C (z := 0) (zdg dz_S_clear_0 2 rfl) (jz rfl) ?_
  refine vf_callSv C cy_JA_fill ml_S_61 (ct_JA_fill_29 _ _) (S := []) (jrm_of hR rfl) rfl rfl (Nat.le_of_ble_eq_true rfl) (zdg dz_S_clear_0 3 rfl) (fun r1 u2 => ?_)
  refine vf_aload_n C (f := 0) (zdg dz_S_clear_0 4 rfl) 0 rfl rfl ?_
  refine vf_getp C fl_S_28 sh_28 rfl (by decide) rfl (x := 35) rfl (zdg dz_S_clear_0 5 rfl) ?_
  refine vf_iconst C (z := (-1)) (zdg dz_S_clear_0 6 rfl) (jz rfl) ?_
  refine vf_callSv C cy_JA_fill ml_S_61 (ct_JA_fill_34 _ _) (S := []) (jrm_of hR rfl) rfl rfl (Nat.le_of_ble_eq_true rfl) (zdg dz_S_clear_0 7 rfl) (fun r3 u4 => ?_)
  refine vf_aload_n C (f := 0) (zdg dz_S_clear_0 8 rfl) 0 rfl rfl ?_
  refine vf_iconst C (z := 0) (zdg dz_S_clear_0 9 rfl) (jz rfl) ?_
  refine vf_put C (kd := 0) fl_S_67 fk_9_7 sh_28 rfl (by decide) rfl rfl (by decide) (zdg dz_S_clear_0 10 rfl) ?_
  generalize st u4 28 7 0 = u5
  refine vf_uw ?_
  refine vf_aload_n C (f := 0) (zdg dz_S_clear_0 11 rfl) 0 rfl rfl ?_
  refine vf_iconst C (z := 0) (zdg dz_S_clear_0 12 rfl) (jz rfl) ?_
  refine vf_put C (kd := 0) fl_S_54 fk_9_8 sh_28 rfl (by decide) rfl rfl (by decide) (zdg dz_S_clear_0 13 rfl) ?_
  generalize st u5 28 8 0 = u6
  refine vf_uw ?_
  refine vf_aload_n C (f := 0) (zdg dz_S_clear_0 14 rfl) 0 rfl rfl ?_
  refine vf_iconst C (z := 0) (zdg dz_S_clear_0 15 rfl) (jz rfl) ?_
  refine vf_putzl C fl_S_38 fk_9_10 sh_28 rfl (by decide) rfl (Or.inl rfl) (zdg dz_S_clear_0 16 rfl) ?_
  generalize st u6 28 10 0 = u7
  refine vf_uw ?_
  refine vf_aload_n C (f := 0) (zdg dz_S_clear_0 17 rfl) 0 rfl rfl ?_
  refine vf_iconst C (z := 1) (zdg dz_S_clear_0 18 rfl) (jz rfl) ?_
  refine vf_putzl C fl_S_34 fk_9_9 sh_28 rfl (by decide) rfl (Or.inr rfl) (zdg dz_S_clear_0 19 rfl) ?_
  generalize st u7 28 9 1 = u8
  refine vf_uw ?_
  exact hr _ _ _ _ (fun h => absurd h (by decide)) (zdg dz_S_clear_0 20 rfl)
def f_S_slotOf_14 : Nat → Int → Int → Int → Wd → Option (Int × Wd)
  | 0, _, _, _, _ => none
  | n + 1, v1, v2, v3, w =>
    if (8192 : Int) ≤ v3 then
      some (v2, w)
    else
      jgd ((0 : Int) ≤ v2 ∧ v2 < 8192) <|
      if (w 29 v2.toNat) = 0 then
        some (v2, w)
      else
        jgd ((0 : Int) ≤ v2 ∧ v2 < 8192) <|
        jgd ((0 : Int) ≤ (w32 ((w 29 v2.toNat) - 1)) ∧ (w32 ((w 29 v2.toNat) - 1)) < 3000) <|
        if (w 30 (w32 ((w 29 v2.toNat) - 1)).toNat) = v1 then
          some (v2, w)
        else
          if 8192 = 0 then none else
          jlet (irem (w32 (v2 + 1)) 8192) fun x2 =>
          jlet (w32 (v3 + 1)) fun x3 =>
          f_S_slotOf_14 n v1 x2 x3 w
theorem t_S_slotOf_14 {X : jX} {Qf : Int × Wd → State → Prop} {ad : Nat → Nat} (C : Cx X prog_9_method_6_code "EachBringsAnother$Search") (hn : xn X = 4) (hR : xR X = rmD 1) (hr : Rt X Qf ad prog_9_method_6_code 0) : ∀ (n : Nat) (v1 v2 v3 : Int) (w : Wd), VF X Qf ad NF 0 0 w 14 [(0, (2, 29)), (1, (0, v1)), (2, (0, v2)), (3, (0, v3))] [] (f_S_slotOf_14 n v1 v2 v3 w) := by
  intro n
  induction n with
  | zero => intros; exact vf_no
  | succ n ih =>
    intro v1 v2 v3 w
    rw [f_S_slotOf_14]
    refine vf_iload_n C (f := 3) (zdg dz_S_slotOf_0 10 rfl) 3 rfl rfl ?_
    refine vf_sipush C (z := 8192) (zdg dz_S_slotOf_0 11 rfl) (by decide +kernel) (jz rfl) ?_
    refine vf_icmp_ge C (off := 45) (tgt := 63) (zdg dz_S_slotOf_0 12 rfl) (by decide) ?_ ?_
    · refine vf_iload_n C (f := 2) (zdg dz_S_slotOf_1 15 rfl) 2 rfl rfl ?_
      exact hr _ _ _ _ (fun h => absurd h (by decide)) (zdg dz_S_slotOf_1 16 rfl)
    · refine vf_aload_n C (f := 0) (zdg dz_S_slotOf_0 13 rfl) 0 rfl rfl ?_
      refine vf_getp C fl_S_11 sh_28 rfl (by decide) rfl (x := 30) rfl (zdg dz_S_slotOf_0 14 rfl) ?_
      refine vf_iload_n C (f := 2) (zdg dz_S_slotOf_0 15 rfl) 2 rfl rfl ?_
      refine vf_iald C sh_29 (by decide) rfl (mz := 8192) rfl (zdg dz_S_slotOf_0 16 rfl) ?_
      refine vf_if_eq C (off := 20) (tgt := 47) (zdg dz_S_slotOf_0 17 rfl) (by decide) ?_ ?_
      · refine vf_iload_n C (f := 2) (zdg dz_S_slotOf_1 5 rfl) 2 rfl rfl ?_
        exact hr _ _ _ _ (fun h => absurd h (by decide)) (zdg dz_S_slotOf_1 6 rfl)
      · refine vf_aload_n C (f := 0) (zdg dz_S_slotOf_0 18 rfl) 0 rfl rfl ?_
        refine vf_getp C fl_S_15 sh_28 rfl (by decide) rfl (x := 31) rfl (zdg dz_S_slotOf_0 19 rfl) ?_
        refine vf_aload_n C (f := 0) (zdg dz_S_slotOf_0 20 rfl) 0 rfl rfl ?_
        refine vf_getp C fl_S_11 sh_28 rfl (by decide) rfl (x := 30) rfl (zdg dz_S_slotOf_0 21 rfl) ?_
        refine vf_iload_n C (f := 2) (zdg dz_S_slotOf_0 22 rfl) 2 rfl rfl ?_
        refine vf_iald C sh_29 (by decide) rfl (mz := 8192) rfl (zdg dz_S_slotOf_0 23 rfl) ?_
        refine vf_iconst C (z := 1) (zdg dz_S_slotOf_1 0 rfl) (jz rfl) ?_
        refine vf_isub C (zdg dz_S_slotOf_1 1 rfl) ?_
        refine vf_iald C sh_30 (by decide) rfl (mz := 3000) rfl (zdg dz_S_slotOf_1 2 rfl) ?_
        refine vf_iload_n C (f := 1) (zdg dz_S_slotOf_1 3 rfl) 1 rfl rfl ?_
        refine vf_icmp_ne C (off := 5) (tgt := 49) (zdg dz_S_slotOf_1 4 rfl) (by decide) ?_ ?_
        · refine vf_iload_n C (f := 2) (zdg dz_S_slotOf_1 7 rfl) 2 rfl rfl ?_
          refine vf_iconst C (z := 1) (zdg dz_S_slotOf_1 8 rfl) (jz rfl) ?_
          refine vf_iadd C (zdg dz_S_slotOf_1 9 rfl) ?_
          refine vf_sipush C (z := 8192) (zdg dz_S_slotOf_1 10 rfl) (by decide +kernel) (jz rfl) ?_
          refine vf_irem C (zdg dz_S_slotOf_1 11 rfl) ?_
          generalize irem (w32 (v2 + 1)) 8192 = x2
          refine vf_ul ?_
          refine vf_istore_n C (f := 2) (L' := [(0, (2, 29)), (1, (0, v1)), (3, (0, v3))]) (zdg dz_S_slotOf_1 12 rfl) [0, 1, 3] (jrI rfl rfl) hn (by decide) rfl ?_
          refine vf_iinc C (z := 1) (L' := [(2, (0, x2)), (0, (2, 29)), (1, (0, v1))]) (zdg dz_S_slotOf_1 13 rfl) 3 rfl [0, 1, 2] (jrI rfl rfl) hn (by decide) ?_
          generalize w32 (v3 + 1) = x3
          refine vf_ul ?_
          refine vf_goto C (off := (-46)) (tgt := 14) (zdg dz_S_slotOf_1 14 rfl) (by decide) ?_
          exact vf_perm [2, 3, 1, 0] rfl (ih _ _ _ _)
        · refine vf_iload_n C (f := 2) (zdg dz_S_slotOf_1 5 rfl) 2 rfl rfl ?_
          exact hr _ _ _ _ (fun h => absurd h (by decide)) (zdg dz_S_slotOf_1 6 rfl)
def f_S_slotOf (v1 : Int) (w : Wd) : Option (Int × Wd) :=
  if 8192 = 0 then none else
  jlet (irem (iush (w32 (v1 * (-1640531535))) 8) 8192) fun x1 =>
  f_S_slotOf_14 FU v1 x1 0 w
theorem ct_S_slotOf (v1 : Int) (w : Wd) : Ct y_S_slotOf prog_9_method_6_code 4 (some .int) 1 0 [(2, 29), (0, v1)] w (f_S_slotOf v1 w) := by
  refine ct_of (by decide +kernel) (Or.inl ⟨rfl, rfl⟩) (Nat.le_of_ble_eq_true rfl) ?_
  intro X Qf ad C hn hR hr
  unfold f_S_slotOf
  show VF X Qf ad NF 0 0 w 0 [(0, (2, 29)), (1, (0, v1))] [] _
  refine vf_iload_n C (f := 1) (zdg dz_S_slotOf_0 0 rfl) 1 rfl rfl ?_
  refine vf_ldc C (z := (-1640531535)) (i := 98) (zdg dz_S_slotOf_0 1 rfl) kc_S_98 (by decide +kernel) (jz rfl) ?_
  refine vf_imul C (zdg dz_S_slotOf_0 2 rfl) ?_
  refine vf_bipush C (z := 8) (zdg dz_S_slotOf_0 3 rfl) (by decide +kernel) (jz rfl) ?_
  refine vf_iushr C (zdg dz_S_slotOf_0 4 rfl) ?_
  refine vf_sipush C (z := 8192) (zdg dz_S_slotOf_0 5 rfl) (by decide +kernel) (jz rfl) ?_
  refine vf_irem C (zdg dz_S_slotOf_0 6 rfl) ?_
  generalize irem (iush (w32 (v1 * (-1640531535))) 8) 8192 = x1
  refine vf_ul ?_
  refine vf_istore_n C (f := 2) (L' := [(0, (2, 29)), (1, (0, v1))]) (zdg dz_S_slotOf_0 7 rfl) [0, 1] (jrI rfl rfl) hn (by decide) rfl ?_
  refine vf_iconst C (z := 0) (zdg dz_S_slotOf_0 8 rfl) (jz rfl) ?_
  refine vf_istore_n C (f := 3) (L' := [(2, (0, x1)), (0, (2, 29)), (1, (0, v1))]) (zdg dz_S_slotOf_0 9 rfl) [0, 1, 2] (jrI rfl rfl) hn (by decide) rfl ?_
  exact vf_perm [2, 3, 1, 0] rfl (t_S_slotOf_14 C hn hR hr FU _ _ _ _)
def f_O_rank (v0 : Int) (w : Wd) : Option (Int × Wd) :=
  jcall (f_JI_bitCount (iand v0 1023) w) fun r1 u2 =>
  jcall (f_JI_bitCount (iand (ishr v0 10) 1023) u2) fun r3 u4 =>
  jcall (f_O_out v0 u4) fun r5 u6 =>
  jcall (f_JI_bitCount r5 u6) fun r7 u8 =>
  jlet (w32 ((w32 (r1 + (w32 (2 * r3)))) + (w32 (4 * r7)))) fun x9 =>
  jcall (f_O_known v0 u8) fun r10 u11 =>
  jcall (f_JI_bitCount r10 u11) fun r12 u13 =>
  some (w32 ((w32 (r12 * 41)) + x9), u13)
theorem ct_O_rank (v0 : Int) (w : Wd) : Ct y_O_rank prog_11_method_10_code 2 (some .int) 2 0 [(0, v0)] w (f_O_rank v0 w) := by
  refine ct_of (by decide +kernel) (Or.inl ⟨rfl, rfl⟩) (Nat.le_of_ble_eq_true rfl) ?_
  intro X Qf ad C hn hR hr
  unfold f_O_rank
  show VF X Qf ad NF 0 0 w 0 [(0, (0, v0))] [] _
  refine vf_iload_n C (f := 0) (zdg dz_O_rank_0 0 rfl) 0 rfl rfl ?_
  refine vf_sipush C (z := 1023) (zdg dz_O_rank_0 1 rfl) (by decide +kernel) (jz rfl) ?_
  refine vf_iand C (zdg dz_O_rank_0 2 rfl) ?_
  refine vf_callSi C cy_JI_bitCount ml_O_29 (ct_JI_bitCount _ _) (S := []) (jrm_of hR rfl) rfl rfl (Nat.le_of_ble_eq_true rfl) (zdg dz_O_rank_0 3 rfl) (fun r1 u2 => ?_)
  refine vf_iconst C (z := 2) (zdg dz_O_rank_0 4 rfl) (jz rfl) ?_
  refine vf_iload_n C (f := 0) (zdg dz_O_rank_0 5 rfl) 0 rfl rfl ?_
  refine vf_bipush C (z := 10) (zdg dz_O_rank_0 6 rfl) (by decide +kernel) (jz rfl) ?_
  refine vf_ishr C (zdg dz_O_rank_0 7 rfl) ?_
  refine vf_sipush C (z := 1023) (zdg dz_O_rank_0 8 rfl) (by decide +kernel) (jz rfl) ?_
  refine vf_iand C (zdg dz_O_rank_0 9 rfl) ?_
  refine vf_callSi C cy_JI_bitCount ml_O_29 (ct_JI_bitCount _ _) (S := [(0, 2), (0, r1)]) (jrm_of hR rfl) rfl rfl (Nat.le_of_ble_eq_true rfl) (zdg dz_O_rank_0 10 rfl) (fun r3 u4 => ?_)
  refine vf_imul C (zdg dz_O_rank_0 11 rfl) ?_
  refine vf_iadd C (zdg dz_O_rank_0 12 rfl) ?_
  refine vf_iconst C (z := 4) (zdg dz_O_rank_0 13 rfl) (jz rfl) ?_
  refine vf_iload_n C (f := 0) (zdg dz_O_rank_0 14 rfl) 0 rfl rfl ?_
  refine vf_callSi C cy_O_out ml_O_26 (ct_O_out _ _) (S := [(0, 4), (0, w32 (r1 + (w32 (2 * r3))))]) (jrm_of hR rfl) rfl rfl (Nat.le_of_ble_eq_true rfl) (zdg dz_O_rank_0 15 rfl) (fun r5 u6 => ?_)
  refine vf_callSi C cy_JI_bitCount ml_O_29 (ct_JI_bitCount _ _) (S := [(0, 4), (0, w32 (r1 + (w32 (2 * r3))))]) (jrm_of hR rfl) rfl rfl (Nat.le_of_ble_eq_true rfl) (zdg dz_O_rank_0 16 rfl) (fun r7 u8 => ?_)
  refine vf_imul C (zdg dz_O_rank_0 17 rfl) ?_
  refine vf_iadd C (zdg dz_O_rank_0 18 rfl) ?_
  generalize w32 ((w32 (r1 + (w32 (2 * r3)))) + (w32 (4 * r7))) = x9
  refine vf_ul ?_
  refine vf_istore_n C (f := 1) (L' := [(0, (0, v0))]) (zdg dz_O_rank_0 19 rfl) [0] (jrI rfl rfl) hn (by decide) rfl ?_
  refine vf_iload_n C (f := 0) (zdg dz_O_rank_0 20 rfl) 1 rfl rfl ?_
  refine vf_callSi C cy_O_known ml_O_34 (ct_O_known _ _) (S := []) (jrm_of hR rfl) rfl rfl (Nat.le_of_ble_eq_true rfl) (zdg dz_O_rank_0 21 rfl) (fun r10 u11 => ?_)
  refine vf_callSi C cy_JI_bitCount ml_O_29 (ct_JI_bitCount _ _) (S := []) (jrm_of hR rfl) rfl rfl (Nat.le_of_ble_eq_true rfl) (zdg dz_O_rank_0 22 rfl) (fun r12 u13 => ?_)
  refine vf_bipush C (z := 41) (zdg dz_O_rank_0 23 rfl) (by decide +kernel) (jz rfl) ?_
  refine vf_imul C (zdg dz_O_rank_1 0 rfl) ?_
  refine vf_iload_n C (f := 1) (zdg dz_O_rank_1 1 rfl) 0 rfl rfl ?_
  refine vf_iadd C (zdg dz_O_rank_1 2 rfl) ?_
  exact hr _ _ _ _ (fun h => absurd h (by decide)) (zdg dz_O_rank_1 3 rfl)
def f_S_place_120 (v2 v4 : Int) (w : Wd) : Option (Int × Wd) :=
  jgd ((0 : Int) ≤ v4 ∧ v4 < 8192) <|
  jlet (w32 ((w 29 v4.toNat) - 1)) fun x3 =>
  jgd ((0 : Int) ≤ x3 ∧ x3 < 3000) <|
  jgd ((0 : Int) ≤ x3 ∧ x3 < 3000) <|
  jlw (st w 31 x3.toNat ((lor (w 31 x3.toNat) v2))) fun u4 =>
  some (0, u4)
theorem t_S_place_120 {X : jX} {Qf : Int × Wd → State → Prop} {ad : Nat → Nat} (C : Cx X prog_9_method_7_code "EachBringsAnother$Search") (hn : xn X = 6) (hR : xR X = rmD 3) (hr : Rt X Qf ad prog_9_method_7_code 9) (v2 v4 : Int) (w : Wd) : VF X Qf ad NF 0 0 w 120 [(0, (2, 29)), (2, (1, v2)), (4, (0, v4))] [] (f_S_place_120 v2 v4 w) := by
  unfold f_S_place_120
  refine vf_aload_n C (f := 0) (zdg dz_S_place_2 16 rfl) 0 rfl rfl ?_
  refine vf_getp C fl_S_18 sh_28 rfl (by decide) rfl (x := 32) rfl (zdg dz_S_place_2 17 rfl) ?_
  refine vf_aload_n C (f := 0) (zdg dz_S_place_2 18 rfl) 0 rfl rfl ?_
  refine vf_getp C fl_S_11 sh_28 rfl (by decide) rfl (x := 30) rfl (zdg dz_S_place_2 19 rfl) ?_
  refine vf_iload C (zdg dz_S_place_2 20 rfl) 2 rfl ?_
  refine vf_iald C sh_29 (by decide) rfl (mz := 8192) rfl (zdg dz_S_place_2 21 rfl) ?_
  refine vf_iconst C (z := 1) (zdg dz_S_place_2 22 rfl) (jz rfl) ?_
  refine vf_isub C (zdg dz_S_place_2 23 rfl) ?_
  generalize w32 ((w 29 v4.toNat) - 1) = x3
  refine vf_ul ?_
  refine vf_dup2 C (zdg dz_S_place_3 0 rfl) Nat.zero_ne_one (Nat.succ_ne_self 1) ?_
  refine vf_lald C sh_31 (by decide) rfl (mz := 3000) rfl (zdg dz_S_place_3 1 rfl) ?_
  refine vf_lload_n C (f := 2) (zdg dz_S_place_3 2 rfl) 1 rfl rfl ?_
  refine vf_lor C (zdg dz_S_place_3 3 rfl) ?_
  refine vf_last C sh_31 (by decide) rfl (mz := 3000) rfl (zdg dz_S_place_3 4 rfl) ?_
  generalize st w 31 x3.toNat ((lor (w 31 x3.toNat) v2)) = u4
  refine vf_uw ?_
  exact hr _ _ _ _ (fun h => absurd h (by decide)) (zdg dz_S_place_3 5 rfl)
def f_S_place_46 (w : Wd) : Option (Int × Wd) :=
  jlw (st w 28 10 1) fun u7 =>
  some (0, u7)
theorem t_S_place_46 {X : jX} {Qf : Int × Wd → State → Prop} {ad : Nat → Nat} (C : Cx X prog_9_method_7_code "EachBringsAnother$Search") (hn : xn X = 6) (hR : xR X = rmD 3) (hr : Rt X Qf ad prog_9_method_7_code 9) (w : Wd) : VF X Qf ad NF 0 0 w 46 [(0, (2, 29))] [] (f_S_place_46 w) := by
  unfold f_S_place_46
  refine vf_aload_n C (f := 0) (zdg dz_S_place_0 21 rfl) 0 rfl rfl ?_
  refine vf_iconst C (z := 1) (zdg dz_S_place_0 22 rfl) (jz rfl) ?_
  refine vf_putzl C fl_S_38 fk_9_10 sh_28 rfl (by decide) rfl (Or.inr rfl) (zdg dz_S_place_0 23 rfl) ?_
  generalize st w 28 10 1 = u7
  refine vf_uw ?_
  exact hr _ _ _ _ (fun h => absurd h (by decide)) (zdg dz_S_place_1 0 rfl)
def f_S_place (v1 v2 : Int) (w : Wd) : Option (Int × Wd) :=
  jcall (f_S_slotOf v1 w) fun r1 u2 =>
  jgd ((0 : Int) ≤ r1 ∧ r1 < 8192) <|
  if (u2 29 r1.toNat) = 0 then
    jcall (f_O_rank v1 u2) fun r5 u6 =>
    if (3000 : Int) ≤ (u6 28 7) then
      f_S_place_46 u6
    else
      if r5 < 0 then
        f_S_place_46 u6
      else
        if r5 < 451 then
          jgd ((0 : Int) ≤ (u6 28 7) ∧ (u6 28 7) < 3000) <|
          jlw (st u6 30 (u6 28 7).toNat v1) fun u8 =>
          jgd ((0 : Int) ≤ (u8 28 7) ∧ (u8 28 7) < 3000) <|
          jlw (st u8 31 (u8 28 7).toNat 0) fun u9 =>
          jgd ((0 : Int) ≤ r5 ∧ r5 < 451) <|
          jgd ((0 : Int) ≤ (u9 28 7) ∧ (u9 28 7) < 3000) <|
          jlw (st u9 33 (u9 28 7).toNat ((u9 34 r5.toNat))) fun u10 =>
          jgd ((0 : Int) ≤ r5 ∧ r5 < 451) <|
          jlw (st u10 34 r5.toNat ((u10 28 7))) fun u11 =>
          jlw (st u11 28 7 (w32 ((u11 28 7) + 1))) fun u12 =>
          jgd ((0 : Int) ≤ r1 ∧ r1 < 8192) <|
          jlw (st u12 29 r1.toNat ((u12 28 7))) fun u13 =>
          f_S_place_120 v2 r1 u13
        else
          f_S_place_46 u6
  else
    f_S_place_120 v2 r1 u2
theorem ct_S_place (v1 v2 : Int) (w : Wd) : Ct y_S_place prog_9_method_7_code 6 none 3 9 [(2, 29), (0, v1), (1, v2)] w (f_S_place v1 v2 w) := by
  refine ct_of (by decide +kernel) (Or.inr (Or.inr (Or.inr ⟨rfl, rfl⟩))) (Nat.le_of_ble_eq_true rfl) ?_
  intro X Qf ad C hn hR hr
  unfold f_S_place
  show VF X Qf ad NF 0 0 w 0 [(0, (2, 29)), (1, (0, v1)), (2, (1, v2))] [] _
  refine vf_aload_n C (f := 0) (zdg dz_S_place_0 0 rfl) 0 rfl rfl ?_
  refine vf_iload_n C (f := 1) (zdg dz_S_place_0 1 rfl) 1 rfl rfl ?_
  refine vf_callVi C cy_S_slotOf ml_S_99 rfl (ct_S_slotOf _ _) (S := []) sh_28 (by decide) rfl (jrm_of hR rfl) rfl rfl (Nat.le_of_ble_eq_true rfl) (zdg dz_S_place_0 2 rfl) (fun r1 u2 => ?_)
  refine vf_istore C (i := 4) (L' := [(0, (2, 29)), (1, (0, v1)), (2, (1, v2))]) (zdg dz_S_place_0 3 rfl) [0, 1, 2] (jrI rfl rfl) hn (by decide) ?_
  refine vf_aload_n C (f := 0) (zdg dz_S_place_0 4 rfl) 1 rfl rfl ?_
  refine vf_getp C fl_S_11 sh_28 rfl (by decide) rfl (x := 30) rfl (zdg dz_S_place_0 5 rfl) ?_
  refine vf_iload C (zdg dz_S_place_0 6 rfl) 0 rfl ?_
  refine vf_iald C sh_29 (by decide) rfl (mz := 8192) rfl (zdg dz_S_place_0 7 rfl) ?_
  refine vf_if_ne C (off := 106) (tgt := 120) (zdg dz_S_place_0 8 rfl) (by decide) ?_ ?_
  · exact vf_perm [1, 3, 0] rfl (t_S_place_120 C hn hR hr _ _ _)
  · refine vf_iload_n C (f := 1) (zdg dz_S_place_0 9 rfl) 2 rfl rfl ?_
    refine vf_callSi C cy_O_rank ml_S_102 (ct_O_rank _ _) (S := []) (jrm_of hR rfl) rfl rfl (Nat.le_of_ble_eq_true rfl) (zdg dz_S_place_0 10 rfl) (fun r5 u6 => ?_)
    refine vf_istore C (i := 5) (L' := [(4, (0, r1)), (0, (2, 29)), (1, (0, v1)), (2, (1, v2))]) (zdg dz_S_place_0 11 rfl) [0, 1, 2, 3] (jrI rfl rfl) hn (by decide) ?_
    refine vf_aload_n C (f := 0) (zdg dz_S_place_0 12 rfl) 2 rfl rfl ?_
    refine vf_get C (kd := 0) fl_S_67 sh_28 rfl (by decide) rfl rfl (zdg dz_S_place_0 13 rfl) ?_
    refine vf_sipush C (z := 3000) (zdg dz_S_place_0 14 rfl) (by decide +kernel) (jz rfl) ?_
    refine vf_icmp_ge C (off := 16) (tgt := 46) (zdg dz_S_place_0 15 rfl) (by decide) ?_ ?_
    · exact vf_perm [2] rfl (t_S_place_46 C hn hR hr _)
    · refine vf_iload C (zdg dz_S_place_0 16 rfl) 0 rfl ?_
      refine vf_if_lt C (off := 11) (tgt := 46) (zdg dz_S_place_0 17 rfl) (by decide) ?_ ?_
      · exact vf_perm [2] rfl (t_S_place_46 C hn hR hr _)
      · refine vf_iload C (zdg dz_S_place_0 18 rfl) 0 rfl ?_
        refine vf_sipush C (z := 451) (zdg dz_S_place_0 19 rfl) (by decide +kernel) (jz rfl) ?_
        refine vf_icmp_lt C (off := 9) (tgt := 52) (zdg dz_S_place_0 20 rfl) (by decide) ?_ ?_
        · refine vf_aload_n C (f := 0) (zdg dz_S_place_1 1 rfl) 2 rfl rfl ?_
          refine vf_getp C fl_S_15 sh_28 rfl (by decide) rfl (x := 31) rfl (zdg dz_S_place_1 2 rfl) ?_
          refine vf_aload_n C (f := 0) (zdg dz_S_place_1 3 rfl) 2 rfl rfl ?_
          refine vf_get C (kd := 0) fl_S_67 sh_28 rfl (by decide) rfl rfl (zdg dz_S_place_1 4 rfl) ?_
          refine vf_iload_n C (f := 1) (zdg dz_S_place_1 5 rfl) 3 rfl rfl ?_
          refine vf_iast C sh_30 (by decide) rfl (mz := 3000) rfl (zdg dz_S_place_1 6 rfl) ?_
          generalize st u6 30 (u6 28 7).toNat v1 = u8
          refine vf_uw ?_
          refine vf_aload_n C (f := 0) (zdg dz_S_place_1 7 rfl) 2 rfl rfl ?_
          refine vf_getp C fl_S_18 sh_28 rfl (by decide) rfl (x := 32) rfl (zdg dz_S_place_1 8 rfl) ?_
          refine vf_aload_n C (f := 0) (zdg dz_S_place_1 9 rfl) 2 rfl rfl ?_
          refine vf_get C (kd := 0) fl_S_67 sh_28 rfl (by decide) rfl rfl (zdg dz_S_place_1 10 rfl) ?_
          refine vf_lconst C (z := 0) (f := 0) (zdg dz_S_place_1 11 rfl) (by decide +kernel) (jz1 rfl) ?_
          refine vf_last C sh_31 (by decide) rfl (mz := 3000) rfl (zdg dz_S_place_1 12 rfl) ?_
          generalize st u8 31 (u8 28 7).toNat 0 = u9
          refine vf_uw ?_
          refine vf_aload_n C (f := 0) (zdg dz_S_place_1 13 rfl) 2 rfl rfl ?_
          refine vf_getp C fl_S_25 sh_28 rfl (by decide) rfl (x := 34) rfl (zdg dz_S_place_1 14 rfl) ?_
          refine vf_aload_n C (f := 0) (zdg dz_S_place_1 15 rfl) 2 rfl rfl ?_
          refine vf_get C (kd := 0) fl_S_67 sh_28 rfl (by decide) rfl rfl (zdg dz_S_place_1 16 rfl) ?_
          refine vf_aload_n C (f := 0) (zdg dz_S_place_1 17 rfl) 2 rfl rfl ?_
          refine vf_getp C fl_S_28 sh_28 rfl (by decide) rfl (x := 35) rfl (zdg dz_S_place_1 18 rfl) ?_
          refine vf_iload C (zdg dz_S_place_1 19 rfl) 0 rfl ?_
          refine vf_iald C sh_34 (by decide) rfl (mz := 451) rfl (zdg dz_S_place_1 20 rfl) ?_
          refine vf_iast C sh_33 (by decide) rfl (mz := 3000) rfl (zdg dz_S_place_1 21 rfl) ?_
          generalize st u9 33 (u9 28 7).toNat ((u9 34 r5.toNat)) = u10
          refine vf_uw ?_
          refine vf_aload_n C (f := 0) (zdg dz_S_place_1 22 rfl) 2 rfl rfl ?_
          refine vf_getp C fl_S_28 sh_28 rfl (by decide) rfl (x := 35) rfl (zdg dz_S_place_1 23 rfl) ?_
          refine vf_iload C (zdg dz_S_place_2 0 rfl) 0 rfl ?_
          refine vf_aload_n C (f := 0) (zdg dz_S_place_2 1 rfl) 2 rfl rfl ?_
          refine vf_get C (kd := 0) fl_S_67 sh_28 rfl (by decide) rfl rfl (zdg dz_S_place_2 2 rfl) ?_
          refine vf_iast C sh_34 (by decide) rfl (mz := 451) rfl (zdg dz_S_place_2 3 rfl) ?_
          generalize st u10 34 r5.toNat ((u10 28 7)) = u11
          refine vf_uw ?_
          refine vf_aload_n C (f := 0) (zdg dz_S_place_2 4 rfl) 2 rfl rfl ?_
          refine vf_dup C (zdg dz_S_place_2 5 rfl) (Nat.succ_ne_self 1) ?_
          refine vf_get C (kd := 0) fl_S_67 sh_28 rfl (by decide) rfl rfl (zdg dz_S_place_2 6 rfl) ?_
          refine vf_iconst C (z := 1) (zdg dz_S_place_2 7 rfl) (jz rfl) ?_
          refine vf_iadd C (zdg dz_S_place_2 8 rfl) ?_
          refine vf_put C (kd := 0) fl_S_67 fk_9_7 sh_28 rfl (by decide) rfl rfl (by decide) (zdg dz_S_place_2 9 rfl) ?_
          generalize st u11 28 7 (w32 ((u11 28 7) + 1)) = u12
          refine vf_uw ?_
          refine vf_aload_n C (f := 0) (zdg dz_S_place_2 10 rfl) 2 rfl rfl ?_
          refine vf_getp C fl_S_11 sh_28 rfl (by decide) rfl (x := 30) rfl (zdg dz_S_place_2 11 rfl) ?_
          refine vf_iload C (zdg dz_S_place_2 12 rfl) 1 rfl ?_
          refine vf_aload_n C (f := 0) (zdg dz_S_place_2 13 rfl) 2 rfl rfl ?_
          refine vf_get C (kd := 0) fl_S_67 sh_28 rfl (by decide) rfl rfl (zdg dz_S_place_2 14 rfl) ?_
          refine vf_iast C sh_29 (by decide) rfl (mz := 8192) rfl (zdg dz_S_place_2 15 rfl) ?_
          generalize st u12 29 r1.toNat ((u12 28 7)) = u13
          refine vf_uw ?_
          exact vf_perm [2, 4, 1] rfl (t_S_place_120 C hn hR hr _ _ _)
        · exact vf_perm [2] rfl (t_S_place_46 C hn hR hr _)
def f_S_guests (v1 : Int) (w : Wd) : Option (Int × Wd) :=
  if v1 < 0 then
    some (0, w)
  else
    if (w 28 7) ≤ v1 then
      some (0, w)
    else
      jgd ((0 : Int) ≤ v1 ∧ v1 < 3000) <|
      jcall (f_O_guests (w 30 v1.toNat) w) fun r1 u2 =>
      some (r1, u2)
theorem ct_S_guests (v1 : Int) (w : Wd) : Ct y_S_guests prog_9_method_8_code 2 (some .int) 2 0 [(2, 29), (0, v1)] w (f_S_guests v1 w) := by
  refine ct_of (by decide +kernel) (Or.inl ⟨rfl, rfl⟩) (Nat.le_of_ble_eq_true rfl) ?_
  intro X Qf ad C hn hR hr
  unfold f_S_guests
  show VF X Qf ad NF 0 0 w 0 [(0, (2, 29)), (1, (0, v1))] [] _
  refine vf_iload_n C (f := 1) (zdg dz_S_guests_0 0 rfl) 1 rfl rfl ?_
  refine vf_if_lt C (off := 23) (tgt := 24) (zdg dz_S_guests_0 1 rfl) (by decide) ?_ ?_
  · refine vf_iconst C (z := 0) (zdg dz_S_guests_0 12 rfl) (jz rfl) ?_
    exact hr _ _ _ _ (fun h => absurd h (by decide)) (zdg dz_S_guests_0 13 rfl)
  · refine vf_iload_n C (f := 1) (zdg dz_S_guests_0 2 rfl) 1 rfl rfl ?_
    refine vf_aload_n C (f := 0) (zdg dz_S_guests_0 3 rfl) 0 rfl rfl ?_
    refine vf_get C (kd := 0) fl_S_67 sh_28 rfl (by decide) rfl rfl (zdg dz_S_guests_0 4 rfl) ?_
    refine vf_icmp_ge C (off := 15) (tgt := 24) (zdg dz_S_guests_0 5 rfl) (by decide) ?_ ?_
    · refine vf_iconst C (z := 0) (zdg dz_S_guests_0 12 rfl) (jz rfl) ?_
      exact hr _ _ _ _ (fun h => absurd h (by decide)) (zdg dz_S_guests_0 13 rfl)
    · refine vf_aload_n C (f := 0) (zdg dz_S_guests_0 6 rfl) 0 rfl rfl ?_
      refine vf_getp C fl_S_15 sh_28 rfl (by decide) rfl (x := 31) rfl (zdg dz_S_guests_0 7 rfl) ?_
      refine vf_iload_n C (f := 1) (zdg dz_S_guests_0 8 rfl) 1 rfl rfl ?_
      refine vf_iald C sh_30 (by decide) rfl (mz := 3000) rfl (zdg dz_S_guests_0 9 rfl) ?_
      refine vf_callSi C cy_O_guests ml_S_105 (ct_O_guests _ _) (S := []) (jrm_of hR rfl) rfl rfl (Nat.le_of_ble_eq_true rfl) (zdg dz_S_guests_0 10 rfl) (fun r1 u2 => ?_)
      refine vf_goto C (off := 4) (tgt := 25) (zdg dz_S_guests_0 11 rfl) (by decide) ?_
      exact hr _ _ _ _ (fun h => absurd h (by decide)) (zdg dz_S_guests_0 13 rfl)
def f_S_goOn_52 : Nat → Int → Int → Wd → Option (Int × Wd)
  | 0, _, _, _ => none
  | n + 1, v1, v4, w =>
    if (w 24 3) ≤ v4 then
      some (0, w)
    else
      if (w 28 10) = 0 then
        jgd ((0 : Int) ≤ v1 ∧ v1 < 3000) <|
        jcall (f_M_moversOf v4 w) fun r5 u6 =>
        jcall (f_O_after (w 30 v1.toNat) r5 (u6 5 7) u6) fun r7 u8 =>
        jgd ((0 : Int) ≤ v1 ∧ v1 < 3000) <|
        jcall (f_S_place r7 (land (lshl (u8 31 v1.toNat) 1) 2305843009213693951) u8) fun r9 u10 =>
        jlet (w32 (v4 + 1)) fun x11 =>
        f_S_goOn_52 n v1 x11 u10
      else
        some (0, w)
theorem t_S_goOn_52 {X : jX} {Qf : Int × Wd → State → Prop} {ad : Nat → Nat} (C : Cx X prog_9_method_5_code "EachBringsAnother$Search") (hn : xn X = 5) (hR : xR X = rmD 19) (hr : Rt X Qf ad prog_9_method_5_code 9) : ∀ (n : Nat) (v1 v4 : Int) (w : Wd), VF X Qf ad NF 0 0 w 52 [(0, (2, 29)), (1, (0, v1)), (2, (2, 6)), (3, (2, 25)), (4, (0, v4))] [] (f_S_goOn_52 n v1 v4 w) := by
  intro n
  induction n with
  | zero => intros; exact vf_no
  | succ n ih =>
    intro v1 v4 w
    rw [f_S_goOn_52]
    refine vf_iload C (zdg dz_S_goOn_1 9 rfl) 4 rfl ?_
    refine vf_aload_n C (f := 3) (zdg dz_S_goOn_1 10 rfl) 3 rfl rfl ?_
    refine vf_get C (kd := 0) fl_S_85 sh_24 rfl (by decide) rfl rfl (zdg dz_S_goOn_1 11 rfl) ?_
    refine vf_icmp_ge C (off := 51) (tgt := 109) (zdg dz_S_goOn_1 12 rfl) (by decide) ?_ ?_
    · exact hr _ _ _ _ (fun h => absurd h (by decide)) (zdg dz_S_goOn_2 14 rfl)
    · refine vf_aload_n C (f := 0) (zdg dz_S_goOn_1 13 rfl) 0 rfl rfl ?_
      refine vf_get C (kd := 0) fl_S_38 sh_28 rfl (by decide) rfl rfl (zdg dz_S_goOn_1 14 rfl) ?_
      refine vf_if_ne C (off := 44) (tgt := 109) (zdg dz_S_goOn_1 15 rfl) (by decide) ?_ ?_
      · exact hr _ _ _ _ (fun h => absurd h (by decide)) (zdg dz_S_goOn_2 14 rfl)
      · refine vf_aload_n C (f := 0) (zdg dz_S_goOn_1 16 rfl) 0 rfl rfl ?_
        refine vf_aload_n C (f := 0) (zdg dz_S_goOn_1 17 rfl) 0 rfl rfl ?_
        refine vf_getp C fl_S_15 sh_28 rfl (by decide) rfl (x := 31) rfl (zdg dz_S_goOn_1 18 rfl) ?_
        refine vf_iload_n C (f := 1) (zdg dz_S_goOn_1 19 rfl) 1 rfl rfl ?_
        refine vf_iald C sh_30 (by decide) rfl (mz := 3000) rfl (zdg dz_S_goOn_1 20 rfl) ?_
        refine vf_aload_n C (f := 3) (zdg dz_S_goOn_1 21 rfl) 3 rfl rfl ?_
        refine vf_iload C (zdg dz_S_goOn_1 22 rfl) 4 rfl ?_
        refine vf_callVi C cy_M_moversOf ml_S_86 rfl (ct_M_moversOf _ _) (S := [(0, w 30 v1.toNat), (2, 29)]) sh_24 (by decide) rfl (jrm_of hR rfl) rfl rfl (Nat.le_of_ble_eq_true rfl) (zdg dz_S_goOn_1 23 rfl) (fun r5 u6 => ?_)
        refine vf_aload_n C (f := 2) (zdg dz_S_goOn_2 0 rfl) 2 rfl rfl ?_
        refine vf_get C (kd := 0) fl_S_89 sh_5 rfl (by decide) rfl rfl (zdg dz_S_goOn_2 1 rfl) ?_
        refine vf_callSi C cy_O_after ml_S_92 (ct_O_after _ _ _ _) (S := [(2, 29)]) (jrm_of hR rfl) rfl rfl (Nat.le_of_ble_eq_true rfl) (zdg dz_S_goOn_2 2 rfl) (fun r7 u8 => ?_)
        refine vf_aload_n C (f := 0) (zdg dz_S_goOn_2 3 rfl) 0 rfl rfl ?_
        refine vf_getp C fl_S_18 sh_28 rfl (by decide) rfl (x := 32) rfl (zdg dz_S_goOn_2 4 rfl) ?_
        refine vf_iload_n C (f := 1) (zdg dz_S_goOn_2 5 rfl) 1 rfl rfl ?_
        refine vf_lald C sh_31 (by decide) rfl (mz := 3000) rfl (zdg dz_S_goOn_2 6 rfl) ?_
        refine vf_iconst C (z := 1) (zdg dz_S_goOn_2 7 rfl) (jz rfl) ?_
        refine vf_lshl C (zdg dz_S_goOn_2 8 rfl) ?_
        refine vf_ldc2 C (z := 2305843009213693951) (i := 74) (zdg dz_S_goOn_2 9 rfl) kc_S_74 (by decide +kernel) (jz1 rfl) ?_
        refine vf_land C (zdg dz_S_goOn_2 10 rfl) ?_
        refine vf_callVv C cy_S_place ml_S_50 rfl (ct_S_place _ _ _) (S := []) sh_28 (by decide) rfl (jrm_of hR rfl) rfl rfl (Nat.le_of_ble_eq_true rfl) (zdg dz_S_goOn_2 11 rfl) (fun r9 u10 => ?_)
        refine vf_iinc C (z := 1) (L' := [(0, (2, 29)), (1, (0, v1)), (2, (2, 6)), (3, (2, 25))]) (zdg dz_S_goOn_2 12 rfl) 4 rfl [0, 1, 2, 3] (jrI rfl rfl) hn (by decide) ?_
        generalize w32 (v4 + 1) = x11
        refine vf_ul ?_
        refine vf_goto C (off := (-54)) (tgt := 52) (zdg dz_S_goOn_2 13 rfl) (by decide) ?_
        exact vf_perm [1, 2, 3, 4, 0] rfl (ih _ _ _)
def f_S_goOn (v1 : Int) (w : Wd) : Option (Int × Wd) :=
  jcall (f_S_guests v1 w) fun r1 u2 =>
  if r1 = 0 then
    jgd ((0 : Int) ≤ v1 ∧ v1 < 3000) <|
    jgd ((0 : Int) ≤ v1 ∧ v1 < 3000) <|
    jgd ((0 : Int) ≤ v1 ∧ v1 < 3000) <|
    jlw (st u2 31 v1.toNat ((land (w64 (-(land (u2 31 v1.toNat) (w64 (-(u2 31 v1.toNat)))))) 2305843009213693951))) fun u12 =>
    some (0, u12)
  else
    jgd ((0 : Int) ≤ v1 ∧ v1 < 3000) <|
    jcall (f_M_gather (u2 30 v1.toNat) (u2 5 8) u2) fun r3 u4 =>
    f_S_goOn_52 FU v1 0 u4
theorem ct_S_goOn (v1 : Int) (w : Wd) : Ct y_S_goOn prog_9_method_5_code 5 none 19 9 [(2, 29), (0, v1), (2, 6), (2, 25)] w (f_S_goOn v1 w) := by
  refine ct_of (by decide +kernel) (Or.inr (Or.inr (Or.inr ⟨rfl, rfl⟩))) (Nat.le_of_ble_eq_true rfl) ?_
  intro X Qf ad C hn hR hr
  unfold f_S_goOn
  show VF X Qf ad NF 0 0 w 0 [(0, (2, 29)), (1, (0, v1)), (2, (2, 6)), (3, (2, 25))] [] _
  refine vf_aload_n C (f := 0) (zdg dz_S_goOn_0 0 rfl) 0 rfl rfl ?_
  refine vf_iload_n C (f := 1) (zdg dz_S_goOn_0 1 rfl) 1 rfl rfl ?_
  refine vf_callVi C cy_S_guests ml_S_70 rfl (ct_S_guests _ _) (S := []) sh_28 (by decide) rfl (jrm_of hR rfl) rfl rfl (Nat.le_of_ble_eq_true rfl) (zdg dz_S_goOn_0 2 rfl) (fun r1 u2 => ?_)
  refine vf_if_ne C (off := 29) (tgt := 34) (zdg dz_S_goOn_0 3 rfl) (by decide) ?_ ?_
  · refine vf_aload_n C (f := 3) (zdg dz_S_goOn_0 22 rfl) 3 rfl rfl ?_
    refine vf_aload_n C (f := 2) (zdg dz_S_goOn_0 23 rfl) 2 rfl rfl ?_
    refine vf_aload_n C (f := 0) (zdg dz_S_goOn_1 0 rfl) 0 rfl rfl ?_
    refine vf_getp C fl_S_15 sh_28 rfl (by decide) rfl (x := 31) rfl (zdg dz_S_goOn_1 1 rfl) ?_
    refine vf_iload_n C (f := 1) (zdg dz_S_goOn_1 2 rfl) 1 rfl rfl ?_
    refine vf_iald C sh_30 (by decide) rfl (mz := 3000) rfl (zdg dz_S_goOn_1 3 rfl) ?_
    refine vf_aload_n C (f := 2) (zdg dz_S_goOn_1 4 rfl) 2 rfl rfl ?_
    refine vf_get C (kd := 0) fl_S_76 sh_5 rfl (by decide) rfl rfl (zdg dz_S_goOn_1 5 rfl) ?_
    refine vf_callVv C cy_M_gather ml_S_79 rfl (ct_M_gather _ _ _) (S := []) sh_24 (by decide) rfl (jrm_of hR rfl) rfl rfl (Nat.le_of_ble_eq_true rfl) (zdg dz_S_goOn_1 6 rfl) (fun r3 u4 => ?_)
    refine vf_iconst C (z := 0) (zdg dz_S_goOn_1 7 rfl) (jz rfl) ?_
    refine vf_istore C (i := 4) (L' := [(0, (2, 29)), (1, (0, v1)), (2, (2, 6)), (3, (2, 25))]) (zdg dz_S_goOn_1 8 rfl) [0, 1, 2, 3] (jrI rfl rfl) hn (by decide) ?_
    exact vf_perm [1, 2, 3, 4, 0] rfl (t_S_goOn_52 C hn hR hr FU _ _ _)
  · refine vf_aload_n C (f := 0) (zdg dz_S_goOn_0 4 rfl) 0 rfl rfl ?_
    refine vf_getp C fl_S_18 sh_28 rfl (by decide) rfl (x := 32) rfl (zdg dz_S_goOn_0 5 rfl) ?_
    refine vf_iload_n C (f := 1) (zdg dz_S_goOn_0 6 rfl) 1 rfl rfl ?_
    refine vf_aload_n C (f := 0) (zdg dz_S_goOn_0 7 rfl) 0 rfl rfl ?_
    refine vf_getp C fl_S_18 sh_28 rfl (by decide) rfl (x := 32) rfl (zdg dz_S_goOn_0 8 rfl) ?_
    refine vf_iload_n C (f := 1) (zdg dz_S_goOn_0 9 rfl) 1 rfl rfl ?_
    refine vf_lald C sh_31 (by decide) rfl (mz := 3000) rfl (zdg dz_S_goOn_0 10 rfl) ?_
    refine vf_aload_n C (f := 0) (zdg dz_S_goOn_0 11 rfl) 0 rfl rfl ?_
    refine vf_getp C fl_S_18 sh_28 rfl (by decide) rfl (x := 32) rfl (zdg dz_S_goOn_0 12 rfl) ?_
    refine vf_iload_n C (f := 1) (zdg dz_S_goOn_0 13 rfl) 1 rfl rfl ?_
    refine vf_lald C sh_31 (by decide) rfl (mz := 3000) rfl (zdg dz_S_goOn_0 14 rfl) ?_
    refine vf_lneg C (zdg dz_S_goOn_0 15 rfl) ?_
    refine vf_land C (zdg dz_S_goOn_0 16 rfl) ?_
    refine vf_lneg C (zdg dz_S_goOn_0 17 rfl) ?_
    refine vf_ldc2 C (z := 2305843009213693951) (i := 74) (zdg dz_S_goOn_0 18 rfl) kc_S_74 (by decide +kernel) (jz1 rfl) ?_
    refine vf_land C (zdg dz_S_goOn_0 19 rfl) ?_
    refine vf_last C sh_31 (by decide) rfl (mz := 3000) rfl (zdg dz_S_goOn_0 20 rfl) ?_
    generalize st u2 31 v1.toNat ((land (w64 (-(land (u2 31 v1.toNat) (w64 (-(u2 31 v1.toNat)))))) 2305843009213693951)) = u12
    refine vf_uw ?_
    exact hr _ _ _ _ (fun h => absurd h (by decide)) (zdg dz_S_goOn_0 21 rfl)
def f_S_run_122 (k35 : Int → Wd → Option (Int × Wd)) (v3 : Int) (w : Wd) : Option (Int × Wd) :=
  jlet (w32 (v3 + 1)) fun x5 =>
  k35 x5 w
theorem t_S_run_122 {X : jX} {Qf : Int × Wd → State → Prop} {ad : Nat → Nat} (C : Cx X prog_9_method_3_code "EachBringsAnother$Search") (hn : xn X = 5) (hR : xR X = rmD 20) (hr : Rt X Qf ad prog_9_method_3_code 4) {k35 : Int → Wd → Option (Int × Wd)} (hk35 : ∀ (v3 : Int) (w : Wd), VF X Qf ad NF 0 0 w 35 [(0, (2, 29)), (1, (2, 6)), (2, (2, 25)), (3, (0, v3))] [] (k35 v3 w)) (v3 : Int) (w : Wd) : VF X Qf ad NF 0 0 w 122 [(0, (2, 29)), (1, (2, 6)), (2, (2, 25)), (3, (0, v3))] [] (f_S_run_122 k35 v3 w) := by
  unfold f_S_run_122
  refine vf_iinc C (z := 1) (L' := [(0, (2, 29)), (1, (2, 6)), (2, (2, 25))]) (zdg dz_S_run_2 18 rfl) 3 rfl [0, 1, 2] (jrI rfl rfl) hn (by decide) ?_
  generalize w32 (v3 + 1) = x5
  refine vf_ul ?_
  refine vf_goto C (off := (-90)) (tgt := 35) (zdg dz_S_run_2 19 rfl) (by decide) ?_
  exact vf_perm [1, 2, 3, 0] rfl (hk35 _ _)
def f_S_run_42 (k35 : Int → Wd → Option (Int × Wd)) : Nat → Int → Wd → Option (Int × Wd)
  | 0, _, _ => none
  | n + 1, v3, w =>
    if (3000 : Int) ≤ (w 28 8) then
      f_S_run_122 k35 v3 w
    else
      jgd ((0 : Int) ≤ v3 ∧ v3 < 451) <|
      if (w 34 v3.toNat) = (-1) then
        f_S_run_122 k35 v3 w
      else
        if (w 28 10) = 0 then
          jgd ((0 : Int) ≤ v3 ∧ v3 < 451) <|
          jlet (w 34 v3.toNat) fun x6 =>
          jgd ((0 : Int) ≤ x6 ∧ x6 < 3000) <|
          jgd ((0 : Int) ≤ v3 ∧ v3 < 451) <|
          jlw (st w 34 v3.toNat ((w 33 x6.toNat))) fun u7 =>
          jgd ((0 : Int) ≤ (u7 28 8) ∧ (u7 28 8) < 3000) <|
          jlw (st u7 35 (u7 28 8).toNat x6) fun u8 =>
          jlw (st u8 28 8 (w32 ((u8 28 8) + 1))) fun u9 =>
          jcall (f_S_goOn x6 u9) fun r10 u11 =>
          f_S_run_42 k35 n v3 u11
        else
          f_S_run_122 k35 v3 w
theorem t_S_run_42 {X : jX} {Qf : Int × Wd → State → Prop} {ad : Nat → Nat} (C : Cx X prog_9_method_3_code "EachBringsAnother$Search") (hn : xn X = 5) (hR : xR X = rmD 20) (hr : Rt X Qf ad prog_9_method_3_code 4) {k35 : Int → Wd → Option (Int × Wd)} (hk35 : ∀ (v3 : Int) (w : Wd), VF X Qf ad NF 0 0 w 35 [(0, (2, 29)), (1, (2, 6)), (2, (2, 25)), (3, (0, v3))] [] (k35 v3 w)) : ∀ (n : Nat) (v3 : Int) (w : Wd), VF X Qf ad NF 0 0 w 42 [(0, (2, 29)), (1, (2, 6)), (2, (2, 25)), (3, (0, v3))] [] (f_S_run_42 k35 n v3 w) := by
  intro n
  induction n with
  | zero => intros; exact vf_no
  | succ n ih =>
    intro v3 w
    rw [f_S_run_42]
    refine vf_aload_n C (f := 0) (zdg dz_S_run_0 22 rfl) 0 rfl rfl ?_
    refine vf_get C (kd := 0) fl_S_54 sh_28 rfl (by decide) rfl rfl (zdg dz_S_run_0 23 rfl) ?_
    refine vf_sipush C (z := 3000) (zdg dz_S_run_1 0 rfl) (by decide +kernel) (jz rfl) ?_
    refine vf_icmp_ge C (off := 73) (tgt := 122) (zdg dz_S_run_1 1 rfl) (by decide) ?_ ?_
    · exact t_S_run_122 C hn hR hr hk35 _ _
    · refine vf_aload_n C (f := 0) (zdg dz_S_run_1 2 rfl) 0 rfl rfl ?_
      refine vf_getp C fl_S_28 sh_28 rfl (by decide) rfl (x := 35) rfl (zdg dz_S_run_1 3 rfl) ?_
      refine vf_iload_n C (f := 3) (zdg dz_S_run_1 4 rfl) 3 rfl rfl ?_
      refine vf_iald C sh_34 (by decide) rfl (mz := 451) rfl (zdg dz_S_run_1 5 rfl) ?_
      refine vf_iconst C (z := (-1)) (zdg dz_S_run_1 6 rfl) (jz rfl) ?_
      refine vf_icmp_eq C (off := 63) (tgt := 122) (zdg dz_S_run_1 7 rfl) (by decide) ?_ ?_
      · exact t_S_run_122 C hn hR hr hk35 _ _
      · refine vf_aload_n C (f := 0) (zdg dz_S_run_1 8 rfl) 0 rfl rfl ?_
        refine vf_get C (kd := 0) fl_S_38 sh_28 rfl (by decide) rfl rfl (zdg dz_S_run_1 9 rfl) ?_
        refine vf_if_ne C (off := 56) (tgt := 122) (zdg dz_S_run_1 10 rfl) (by decide) ?_ ?_
        · exact t_S_run_122 C hn hR hr hk35 _ _
        · refine vf_aload_n C (f := 0) (zdg dz_S_run_1 11 rfl) 0 rfl rfl ?_
          refine vf_getp C fl_S_28 sh_28 rfl (by decide) rfl (x := 35) rfl (zdg dz_S_run_1 12 rfl) ?_
          refine vf_iload_n C (f := 3) (zdg dz_S_run_1 13 rfl) 3 rfl rfl ?_
          refine vf_iald C sh_34 (by decide) rfl (mz := 451) rfl (zdg dz_S_run_1 14 rfl) ?_
          generalize w 34 v3.toNat = x6
          refine vf_ul ?_
          refine vf_istore C (i := 4) (L' := [(0, (2, 29)), (1, (2, 6)), (2, (2, 25)), (3, (0, v3))]) (zdg dz_S_run_1 15 rfl) [0, 1, 2, 3] (jrI rfl rfl) hn (by decide) ?_
          refine vf_aload_n C (f := 0) (zdg dz_S_run_1 16 rfl) 1 rfl rfl ?_
          refine vf_getp C fl_S_28 sh_28 rfl (by decide) rfl (x := 35) rfl (zdg dz_S_run_1 17 rfl) ?_
          refine vf_iload_n C (f := 3) (zdg dz_S_run_1 18 rfl) 4 rfl rfl ?_
          refine vf_aload_n C (f := 0) (zdg dz_S_run_1 19 rfl) 1 rfl rfl ?_
          refine vf_getp C fl_S_25 sh_28 rfl (by decide) rfl (x := 34) rfl (zdg dz_S_run_1 20 rfl) ?_
          refine vf_iload C (zdg dz_S_run_1 21 rfl) 0 rfl ?_
          refine vf_iald C sh_33 (by decide) rfl (mz := 3000) rfl (zdg dz_S_run_1 22 rfl) ?_
          refine vf_iast C sh_34 (by decide) rfl (mz := 451) rfl (zdg dz_S_run_1 23 rfl) ?_
          generalize st w 34 v3.toNat ((w 33 x6.toNat)) = u7
          refine vf_uw ?_
          refine vf_aload_n C (f := 0) (zdg dz_S_run_2 0 rfl) 1 rfl rfl ?_
          refine vf_getp C fl_S_31 sh_28 rfl (by decide) rfl (x := 36) rfl (zdg dz_S_run_2 1 rfl) ?_
          refine vf_aload_n C (f := 0) (zdg dz_S_run_2 2 rfl) 1 rfl rfl ?_
          refine vf_get C (kd := 0) fl_S_54 sh_28 rfl (by decide) rfl rfl (zdg dz_S_run_2 3 rfl) ?_
          refine vf_iload C (zdg dz_S_run_2 4 rfl) 0 rfl ?_
          refine vf_iast C sh_35 (by decide) rfl (mz := 3000) rfl (zdg dz_S_run_2 5 rfl) ?_
          generalize st u7 35 (u7 28 8).toNat x6 = u8
          refine vf_uw ?_
          refine vf_aload_n C (f := 0) (zdg dz_S_run_2 6 rfl) 1 rfl rfl ?_
          refine vf_dup C (zdg dz_S_run_2 7 rfl) (Nat.succ_ne_self 1) ?_
          refine vf_get C (kd := 0) fl_S_54 sh_28 rfl (by decide) rfl rfl (zdg dz_S_run_2 8 rfl) ?_
          refine vf_iconst C (z := 1) (zdg dz_S_run_2 9 rfl) (jz rfl) ?_
          refine vf_iadd C (zdg dz_S_run_2 10 rfl) ?_
          refine vf_put C (kd := 0) fl_S_54 fk_9_8 sh_28 rfl (by decide) rfl rfl (by decide) (zdg dz_S_run_2 11 rfl) ?_
          generalize st u8 28 8 (w32 ((u8 28 8) + 1)) = u9
          refine vf_uw ?_
          refine vf_aload_n C (f := 0) (zdg dz_S_run_2 12 rfl) 1 rfl rfl ?_
          refine vf_iload C (zdg dz_S_run_2 13 rfl) 0 rfl ?_
          refine vf_aload_n C (f := 1) (zdg dz_S_run_2 14 rfl) 2 rfl rfl ?_
          refine vf_aload_n C (f := 2) (zdg dz_S_run_2 15 rfl) 3 rfl rfl ?_
          refine vf_callVv C cy_S_goOn ml_S_57 rfl (ct_S_goOn _ _) (S := []) sh_28 (by decide) rfl (jrm_of hR rfl) rfl rfl (Nat.le_of_ble_eq_true rfl) (zdg dz_S_run_2 16 rfl) (fun r10 u11 => ?_)
          refine vf_goto C (off := (-77)) (tgt := 42) (zdg dz_S_run_2 17 rfl) (by decide) ?_
          exact vf_perm [1, 2, 3, 4] rfl (ih _ _)
def f_S_run_35 : Nat → Int → Wd → Option (Int × Wd)
  | 0, _, _ => none
  | n + 1, v3, w =>
    if (451 : Int) ≤ v3 then
      if (w 28 10) = 0 then
        some (1, w)
      else
        some (0, w)
    else
      f_S_run_42 (f_S_run_35 n) FU v3 w
theorem t_S_run_35 {X : jX} {Qf : Int × Wd → State → Prop} {ad : Nat → Nat} (C : Cx X prog_9_method_3_code "EachBringsAnother$Search") (hn : xn X = 5) (hR : xR X = rmD 20) (hr : Rt X Qf ad prog_9_method_3_code 4) : ∀ (n : Nat) (v3 : Int) (w : Wd), VF X Qf ad NF 0 0 w 35 [(0, (2, 29)), (1, (2, 6)), (2, (2, 25)), (3, (0, v3))] [] (f_S_run_35 n v3 w) := by
  intro n
  induction n with
  | zero => intros; exact vf_no
  | succ n ih =>
    intro v3 w
    rw [f_S_run_35]
    refine vf_iload_n C (f := 3) (zdg dz_S_run_0 19 rfl) 3 rfl rfl ?_
    refine vf_sipush C (z := 451) (zdg dz_S_run_0 20 rfl) (by decide +kernel) (jz rfl) ?_
    refine vf_icmp_ge C (off := 89) (tgt := 128) (zdg dz_S_run_0 21 rfl) (by decide) ?_ ?_
    · refine vf_aload_n C (f := 0) (zdg dz_S_run_2 20 rfl) 0 rfl rfl ?_
      refine vf_get C (kd := 0) fl_S_38 sh_28 rfl (by decide) rfl rfl (zdg dz_S_run_2 21 rfl) ?_
      refine vf_if_ne C (off := 7) (tgt := 139) (zdg dz_S_run_2 22 rfl) (by decide) ?_ ?_
      · refine vf_iconst C (z := 0) (zdg dz_S_run_3 1 rfl) (jz rfl) ?_
        exact hr _ _ _ _ (fun _ => Or.inl rfl) (zdg dz_S_run_3 2 rfl)
      · refine vf_iconst C (z := 1) (zdg dz_S_run_2 23 rfl) (jz rfl) ?_
        refine vf_goto C (off := 4) (tgt := 140) (zdg dz_S_run_3 0 rfl) (by decide) ?_
        exact hr _ _ _ _ (fun _ => Or.inr rfl) (zdg dz_S_run_3 2 rfl)
    · exact t_S_run_42 C hn hR hr ih FU _ _
def f_S_run (w : Wd) : Option (Int × Wd) :=
  if (w 28 9) = 0 then
    jcall (f_S_clear w) fun r1 u2 =>
    jcall (f_S_place (u2 5 4) 1 u2) fun r3 u4 =>
    f_S_run_35 FU 0 u4
  else
    if (w 28 10) = 0 then
      some (1, w)
    else
      some (0, w)
theorem ct_S_run (w : Wd) : Ct y_S_run prog_9_method_3_code 5 (some .boolean) 20 4 [(2, 29), (2, 6), (2, 25)] w (f_S_run w) := by
  refine ct_of (by decide +kernel) (Or.inr (Or.inr (Or.inl ⟨rfl, rfl⟩))) (Nat.le_of_ble_eq_true rfl) ?_
  intro X Qf ad C hn hR hr
  unfold f_S_run
  show VF X Qf ad NF 0 0 w 0 [(0, (2, 29)), (1, (2, 6)), (2, (2, 25))] [] _
  refine vf_aload_n C (f := 0) (zdg dz_S_run_0 0 rfl) 0 rfl rfl ?_
  refine vf_get C (kd := 0) fl_S_34 sh_28 rfl (by decide) rfl rfl (zdg dz_S_run_0 1 rfl) ?_
  refine vf_if_eq C (off := 16) (tgt := 20) (zdg dz_S_run_0 2 rfl) (by decide) ?_ ?_
  · refine vf_aload_n C (f := 0) (zdg dz_S_run_0 10 rfl) 0 rfl rfl ?_
    refine vf_callVv C cy_S_clear ml_S_41 rfl (ct_S_clear _) (S := []) sh_28 (by decide) rfl (jrm_of hR rfl) rfl rfl (Nat.le_of_ble_eq_true rfl) (zdg dz_S_run_0 11 rfl) (fun r1 u2 => ?_)
    refine vf_aload_n C (f := 0) (zdg dz_S_run_0 12 rfl) 0 rfl rfl ?_
    refine vf_aload_n C (f := 1) (zdg dz_S_run_0 13 rfl) 1 rfl rfl ?_
    refine vf_get C (kd := 0) fl_S_44 sh_5 rfl (by decide) rfl rfl (zdg dz_S_run_0 14 rfl) ?_
    refine vf_lconst C (z := 1) (f := 1) (zdg dz_S_run_0 15 rfl) (by decide +kernel) (jz1 rfl) ?_
    refine vf_callVv C cy_S_place ml_S_50 rfl (ct_S_place _ _ _) (S := []) sh_28 (by decide) rfl (jrm_of hR rfl) rfl rfl (Nat.le_of_ble_eq_true rfl) (zdg dz_S_run_0 16 rfl) (fun r3 u4 => ?_)
    refine vf_iconst C (z := 0) (zdg dz_S_run_0 17 rfl) (jz rfl) ?_
    refine vf_istore_n C (f := 3) (L' := [(0, (2, 29)), (1, (2, 6)), (2, (2, 25))]) (zdg dz_S_run_0 18 rfl) [0, 1, 2] (jrI rfl rfl) hn (by decide) rfl ?_
    exact vf_perm [1, 2, 3, 0] rfl (t_S_run_35 C hn hR hr FU _ _)
  · refine vf_aload_n C (f := 0) (zdg dz_S_run_0 3 rfl) 0 rfl rfl ?_
    refine vf_get C (kd := 0) fl_S_38 sh_28 rfl (by decide) rfl rfl (zdg dz_S_run_0 4 rfl) ?_
    refine vf_if_ne C (off := 7) (tgt := 18) (zdg dz_S_run_0 5 rfl) (by decide) ?_ ?_
    · refine vf_iconst C (z := 0) (zdg dz_S_run_0 8 rfl) (jz rfl) ?_
      exact hr _ _ _ _ (fun _ => Or.inl rfl) (zdg dz_S_run_0 9 rfl)
    · refine vf_iconst C (z := 1) (zdg dz_S_run_0 6 rfl) (jz rfl) ?_
      refine vf_goto C (off := 4) (tgt := 19) (zdg dz_S_run_0 7 rfl) (by decide) ?_
      exact hr _ _ _ _ (fun _ => Or.inr rfl) (zdg dz_S_run_0 9 rfl)
def f_S_mostGuests_4 : Nat → Int → Int → Wd → Option (Int × Wd)
  | 0, _, _, _ => none
  | n + 1, v1, v2, w =>
    if (w 28 7) ≤ v2 then
      some (v1, w)
    else
      jcall (f_S_guests v2 w) fun r1 u2 =>
      jcall (f_JI_bitCount r1 u2) fun r3 u4 =>
      jlet (imax v1 r3) fun x5 =>
      jlet (w32 (v2 + 1)) fun x6 =>
      f_S_mostGuests_4 n x5 x6 u4
theorem t_S_mostGuests_4 {X : jX} {Qf : Int × Wd → State → Prop} {ad : Nat → Nat} (C : Cx X prog_9_method_11_code "EachBringsAnother$Search") (hn : xn X = 3) (hR : xR X = rmD 3) (hr : Rt X Qf ad prog_9_method_11_code 0) : ∀ (n : Nat) (v1 v2 : Int) (w : Wd), VF X Qf ad NF 0 0 w 4 [(0, (2, 29)), (1, (0, v1)), (2, (0, v2))] [] (f_S_mostGuests_4 n v1 v2 w) := by
  intro n
  induction n with
  | zero => intros; exact vf_no
  | succ n ih =>
    intro v1 v2 w
    rw [f_S_mostGuests_4]
    refine vf_iload_n C (f := 2) (zdg dz_S_mostGuests_0 4 rfl) 2 rfl rfl ?_
    refine vf_aload_n C (f := 0) (zdg dz_S_mostGuests_0 5 rfl) 0 rfl rfl ?_
    refine vf_get C (kd := 0) fl_S_67 sh_28 rfl (by decide) rfl rfl (zdg dz_S_mostGuests_0 6 rfl) ?_
    refine vf_icmp_ge C (off := 22) (tgt := 31) (zdg dz_S_mostGuests_0 7 rfl) (by decide) ?_ ?_
    · refine vf_iload_n C (f := 1) (zdg dz_S_mostGuests_0 17 rfl) 1 rfl rfl ?_
      exact hr _ _ _ _ (fun h => absurd h (by decide)) (zdg dz_S_mostGuests_0 18 rfl)
    · refine vf_iload_n C (f := 1) (zdg dz_S_mostGuests_0 8 rfl) 1 rfl rfl ?_
      refine vf_aload_n C (f := 0) (zdg dz_S_mostGuests_0 9 rfl) 0 rfl rfl ?_
      refine vf_iload_n C (f := 2) (zdg dz_S_mostGuests_0 10 rfl) 2 rfl rfl ?_
      refine vf_callVi C cy_S_guests ml_S_70 rfl (ct_S_guests _ _) (S := [(0, v1)]) sh_28 (by decide) rfl (jrm_of hR rfl) rfl rfl (Nat.le_of_ble_eq_true rfl) (zdg dz_S_mostGuests_0 11 rfl) (fun r1 u2 => ?_)
      refine vf_callSi C cy_JI_bitCount ml_S_110 (ct_JI_bitCount _ _) (S := [(0, v1)]) (jrm_of hR rfl) rfl rfl (Nat.le_of_ble_eq_true rfl) (zdg dz_S_mostGuests_0 12 rfl) (fun r3 u4 => ?_)
      refine vf_mmax C ml_S_115 (jrm_n hR (by decide)) ⟨Nat.zero_le _, Nat.zero_le _⟩ (Nat.le_of_ble_eq_true rfl) (zdg dz_S_mostGuests_0 13 rfl) ?_
      generalize imax v1 r3 = x5
      refine vf_ul ?_
      refine vf_istore_n C (f := 1) (L' := [(0, (2, 29)), (2, (0, v2))]) (zdg dz_S_mostGuests_0 14 rfl) [0, 2] (jrI rfl rfl) hn (by decide) rfl ?_
      refine vf_iinc C (z := 1) (L' := [(1, (0, x5)), (0, (2, 29))]) (zdg dz_S_mostGuests_0 15 rfl) 2 rfl [0, 1] (jrI rfl rfl) hn (by decide) ?_
      generalize w32 (v2 + 1) = x6
      refine vf_ul ?_
      refine vf_goto C (off := (-24)) (tgt := 4) (zdg dz_S_mostGuests_0 16 rfl) (by decide) ?_
      exact vf_perm [2, 1, 0] rfl (ih _ _ _)
def f_S_mostGuests (w : Wd) : Option (Int × Wd) :=
  f_S_mostGuests_4 FU 0 0 w
theorem ct_S_mostGuests (w : Wd) : Ct y_S_mostGuests prog_9_method_11_code 3 (some .int) 3 0 [(2, 29)] w (f_S_mostGuests w) := by
  refine ct_of (by decide +kernel) (Or.inl ⟨rfl, rfl⟩) (Nat.le_of_ble_eq_true rfl) ?_
  intro X Qf ad C hn hR hr
  unfold f_S_mostGuests
  show VF X Qf ad NF 0 0 w 0 [(0, (2, 29))] [] _
  refine vf_iconst C (z := 0) (zdg dz_S_mostGuests_0 0 rfl) (jz rfl) ?_
  refine vf_istore_n C (f := 1) (L' := [(0, (2, 29))]) (zdg dz_S_mostGuests_0 1 rfl) [0] (jrI rfl rfl) hn (by decide) rfl ?_
  refine vf_iconst C (z := 0) (zdg dz_S_mostGuests_0 2 rfl) (jz rfl) ?_
  refine vf_istore_n C (f := 2) (L' := [(1, (0, 0)), (0, (2, 29))]) (zdg dz_S_mostGuests_0 3 rfl) [0, 1] (jrI rfl rfl) hn (by decide) rfl ?_
  exact vf_perm [2, 1, 0] rfl (t_S_mostGuests_4 C hn hR hr FU _ _ _)
def f_E_states_53 (k25 : Int → Int → Wd → Option (Int × Wd)) (v2 s0 s1 : Int) (w : Wd) : Option (Int × Wd) :=
  jlet (w32 (s0 + s1)) fun x9 =>
  jlet (w32 (v2 + 1)) fun x10 =>
  k25 x9 x10 w
theorem t_E_states_53 {X : jX} {Qf : Int × Wd → State → Prop} {ad : Nat → Nat} (C : Cx X prog_1_method_19_code "EachBringsAnother") (hn : xn X = 3) (hR : xR X = rmD 21) (hr : Rt X Qf ad prog_1_method_19_code 0) {k25 : Int → Int → Wd → Option (Int × Wd)} (hk25 : ∀ (v1 v2 : Int) (w : Wd), VF X Qf ad NF 0 0 w 25 [(0, (2, 1)), (1, (0, v1)), (2, (0, v2))] [] (k25 v1 v2 w)) (v2 s0 s1 : Int) (w : Wd) : VF X Qf ad NF 0 0 w 53 [(0, (2, 1)), (2, (0, v2))] [(0, s1), (0, s0)] (f_E_states_53 k25 v2 s0 s1 w) := by
  unfold f_E_states_53
  refine vf_iadd C (zdg dz_E_states_1 4 rfl) ?_
  generalize w32 (s0 + s1) = x9
  refine vf_ul ?_
  refine vf_istore_n C (f := 1) (L' := [(0, (2, 1)), (2, (0, v2))]) (zdg dz_E_states_1 5 rfl) [0, 1] (jrI rfl rfl) hn (by decide) rfl ?_
  refine vf_iinc C (z := 1) (L' := [(1, (0, x9)), (0, (2, 1))]) (zdg dz_E_states_1 6 rfl) 2 rfl [0, 1] (jrI rfl rfl) hn (by decide) ?_
  generalize w32 (v2 + 1) = x10
  refine vf_ul ?_
  refine vf_goto C (off := (-33)) (tgt := 25) (zdg dz_E_states_1 7 rfl) (by decide) ?_
  exact vf_perm [2, 1, 0] rfl (hk25 _ _ _)
def f_E_states_25 : Nat → Int → Int → Wd → Option (Int × Wd)
  | 0, _, _, _ => none
  | n + 1, v1, v2, w =>
    if (w 28 7) ≤ v2 then
      jcall (f_S_mostGuests w) fun r3 u4 =>
      jcall (f_N_tell2 v1 r3 u4) fun r5 u6 =>
      some (u6 28 7, u6)
    else
      jcall (f_S_guests v2 w) fun r7 u8 =>
      if r7 = 0 then
        f_E_states_53 (f_E_states_25 n) v2 v1 1 u8
      else
        f_E_states_53 (f_E_states_25 n) v2 v1 0 u8
theorem t_E_states_25 {X : jX} {Qf : Int × Wd → State → Prop} {ad : Nat → Nat} (C : Cx X prog_1_method_19_code "EachBringsAnother") (hn : xn X = 3) (hR : xR X = rmD 21) (hr : Rt X Qf ad prog_1_method_19_code 0) : ∀ (n : Nat) (v1 v2 : Int) (w : Wd), VF X Qf ad NF 0 0 w 25 [(0, (2, 1)), (1, (0, v1)), (2, (0, v2))] [] (f_E_states_25 n v1 v2 w) := by
  intro n
  induction n with
  | zero => intros; exact vf_no
  | succ n ih =>
    intro v1 v2 w
    rw [f_E_states_25]
    refine vf_iload_n C (f := 2) (zdg dz_E_states_0 14 rfl) 2 rfl rfl ?_
    refine vf_aload_n C (f := 0) (zdg dz_E_states_0 15 rfl) 0 rfl rfl ?_
    refine vf_getp C fl_E_68 sh_0 rfl (by decide) rfl (x := 29) rfl (zdg dz_E_states_0 16 rfl) ?_
    refine vf_get C (kd := 0) fl_E_260 sh_28 rfl (by decide) rfl rfl (zdg dz_E_states_0 17 rfl) ?_
    refine vf_icmp_ge C (off := 28) (tgt := 61) (zdg dz_E_states_0 18 rfl) (by decide) ?_ ?_
    · refine vf_aload_n C (f := 0) (zdg dz_E_states_1 8 rfl) 0 rfl rfl ?_
      refine vf_getp C fl_E_19 sh_0 rfl (by decide) rfl (x := 4) rfl (zdg dz_E_states_1 9 rfl) ?_
      refine vf_iload_n C (f := 1) (zdg dz_E_states_1 10 rfl) 1 rfl rfl ?_
      refine vf_aload_n C (f := 0) (zdg dz_E_states_1 11 rfl) 0 rfl rfl ?_
      refine vf_getp C fl_E_68 sh_0 rfl (by decide) rfl (x := 29) rfl (zdg dz_E_states_1 12 rfl) ?_
      refine vf_callVi C cy_S_mostGuests ml_E_263 rfl (ct_S_mostGuests _) (S := [(0, v1), (2, 4)]) sh_28 (by decide) rfl (jrm_of hR rfl) rfl rfl (Nat.le_of_ble_eq_true rfl) (zdg dz_E_states_1 13 rfl) (fun r3 u4 => ?_)
      refine vf_callVv C cy_N_tell2 ml_E_216 rfl (ct_N_tell2 _ _ _) (S := []) sh_3 (by decide) rfl (jrm_of hR rfl) rfl rfl (Nat.le_of_ble_eq_true rfl) (zdg dz_E_states_1 14 rfl) (fun r5 u6 => ?_)
      refine vf_aload_n C (f := 0) (zdg dz_E_states_1 15 rfl) 0 rfl rfl ?_
      refine vf_getp C fl_E_68 sh_0 rfl (by decide) rfl (x := 29) rfl (zdg dz_E_states_1 16 rfl) ?_
      refine vf_get C (kd := 0) fl_E_260 sh_28 rfl (by decide) rfl rfl (zdg dz_E_states_1 17 rfl) ?_
      exact hr _ _ _ _ (fun h => absurd h (by decide)) (zdg dz_E_states_1 18 rfl)
    · refine vf_iload_n C (f := 1) (zdg dz_E_states_0 19 rfl) 1 rfl rfl ?_
      refine vf_aload_n C (f := 0) (zdg dz_E_states_0 20 rfl) 0 rfl rfl ?_
      refine vf_getp C fl_E_68 sh_0 rfl (by decide) rfl (x := 29) rfl (zdg dz_E_states_0 21 rfl) ?_
      refine vf_iload_n C (f := 2) (zdg dz_E_states_0 22 rfl) 2 rfl rfl ?_
      refine vf_callVi C cy_S_guests ml_E_261 rfl (ct_S_guests _ _) (S := [(0, v1)]) sh_28 (by decide) rfl (jrm_of hR rfl) rfl rfl (Nat.le_of_ble_eq_true rfl) (zdg dz_E_states_0 23 rfl) (fun r7 u8 => ?_)
      refine vf_if_ne C (off := 7) (tgt := 52) (zdg dz_E_states_1 0 rfl) (by decide) ?_ ?_
      · refine vf_iconst C (z := 0) (zdg dz_E_states_1 3 rfl) (jz rfl) ?_
        exact vf_perm [0, 2] rfl (t_E_states_53 C hn hR hr ih _ _ _ _)
      · refine vf_iconst C (z := 1) (zdg dz_E_states_1 1 rfl) (jz rfl) ?_
        refine vf_goto C (off := 4) (tgt := 53) (zdg dz_E_states_1 2 rfl) (by decide) ?_
        exact vf_perm [0, 2] rfl (t_E_states_53 C hn hR hr ih _ _ _ _)
def f_E_states (w : Wd) : Option (Int × Wd) :=
  jcall (f_S_run w) fun r1 u2 =>
  if r1 = 0 then
    some ((-3), u2)
  else
    f_E_states_25 FU 0 0 u2
theorem ct_E_states (w : Wd) : Ct y_E_states prog_1_method_19_code 3 (some .int) 21 0 [(2, 1)] w (f_E_states w) := by
  refine ct_of (by decide +kernel) (Or.inl ⟨rfl, rfl⟩) (Nat.le_of_ble_eq_true rfl) ?_
  intro X Qf ad C hn hR hr
  unfold f_E_states
  show VF X Qf ad NF 0 0 w 0 [(0, (2, 1))] [] _
  refine vf_aload_n C (f := 0) (zdg dz_E_states_0 0 rfl) 0 rfl rfl ?_
  refine vf_getp C fl_E_68 sh_0 rfl (by decide) rfl (x := 29) rfl (zdg dz_E_states_0 1 rfl) ?_
  refine vf_aload_n C (f := 0) (zdg dz_E_states_0 2 rfl) 0 rfl rfl ?_
  refine vf_getp C fl_E_26 sh_0 rfl (by decide) rfl (x := 6) rfl (zdg dz_E_states_0 3 rfl) ?_
  refine vf_aload_n C (f := 0) (zdg dz_E_states_0 4 rfl) 0 rfl rfl ?_
  refine vf_getp C fl_E_61 sh_0 rfl (by decide) rfl (x := 25) rfl (zdg dz_E_states_0 5 rfl) ?_
  refine vf_callVz C cy_S_run ml_E_256 rfl (ct_S_run _) (S := []) sh_28 (by decide) rfl (jrm_of hR rfl) rfl rfl (Nat.le_of_ble_eq_true rfl) (zdg dz_E_states_0 6 rfl) (fun r1 u2 => ?_)
  refine vf_if_ne C (off := 6) (tgt := 21) (zdg dz_E_states_0 7 rfl) (by decide) ?_ ?_
  · refine vf_iconst C (z := 0) (zdg dz_E_states_0 10 rfl) (jz rfl) ?_
    refine vf_istore_n C (f := 1) (L' := [(0, (2, 1))]) (zdg dz_E_states_0 11 rfl) [0] (jrI rfl rfl) hn (by decide) rfl ?_
    refine vf_iconst C (z := 0) (zdg dz_E_states_0 12 rfl) (jz rfl) ?_
    refine vf_istore_n C (f := 2) (L' := [(1, (0, 0)), (0, (2, 1))]) (zdg dz_E_states_0 13 rfl) [0, 1] (jrI rfl rfl) hn (by decide) rfl ?_
    exact vf_perm [2, 1, 0] rfl (t_E_states_25 C hn hR hr FU _ _ _)
  · refine vf_bipush C (z := (-3)) (zdg dz_E_states_0 8 rfl) (by decide +kernel) (jz rfl) ?_
    exact hr _ _ _ _ (fun h => absurd h (by decide)) (zdg dz_E_states_0 9 rfl)
end
