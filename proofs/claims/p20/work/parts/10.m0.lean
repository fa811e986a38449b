def f_T_append_19 : Nat → Int → Int → Wd → Option (Int × Wd)
  | 0, _, _, _ => none
  | n + 1, v1, v2, w =>
    if v2 < 0 then
      some (w 1 1, w)
    else
      jgd ((0 : Int) ≤ (w 1 1) ∧ (w 1 1) < 80) <|
      jlw (st w 2 (w 1 1).toNat (nc (i2c (iand (ishr v1 v2) 255)))) fun u1 =>
      jlw (st u1 1 1 (w32 ((u1 1 1) + 1))) fun u2 =>
      jlet (w32 (v2 + (-8))) fun x3 =>
      f_T_append_19 n v1 x3 u2
theorem t_T_append_19 {X : jX} {Qf : Int × Wd → State → Prop} {ad : Nat → Nat} (C : Cx X prog_10_method_2_code "EachBringsAnother$Text") (hn : xn X = 3) (hR : xR X = rmD 1) (hr : Rt X Qf ad prog_10_method_2_code 0) : ∀ (n : Nat) (v1 v2 : Int) (w : Wd), VF X Qf ad NF 0 0 w 19 [(0, (2, 2)), (1, (0, v1)), (2, (0, v2))] [] (f_T_append_19 n v1 v2 w) := by
  intro n
  induction n with
  | zero => intros; exact vf_no
  | succ n ih =>
    intro v1 v2 w
    rw [f_T_append_19]
    refine vf_iload_n C (f := 2) (zdg dz_T_append_0 12 rfl) 2 rfl rfl ?_
    refine vf_if_lt C (off := 36) (tgt := 56) (zdg dz_T_append_0 13 rfl) (by decide) ?_ ?_
    · refine vf_aload_n C (f := 0) (zdg dz_T_append_1 9 rfl) 0 rfl rfl ?_
      refine vf_get C (kd := 0) fl_T_15 sh_1 rfl (by decide) rfl rfl (zdg dz_T_append_1 10 rfl) ?_
      exact hr _ _ _ _ (fun h => absurd h (by decide)) (zdg dz_T_append_1 11 rfl)
    · refine vf_aload_n C (f := 0) (zdg dz_T_append_0 14 rfl) 0 rfl rfl ?_
      refine vf_getp C fl_T_9 sh_1 rfl (by decide) rfl (x := 3) rfl (zdg dz_T_append_0 15 rfl) ?_
      refine vf_aload_n C (f := 0) (zdg dz_T_append_0 16 rfl) 0 rfl rfl ?_
      refine vf_get C (kd := 0) fl_T_15 sh_1 rfl (by decide) rfl rfl (zdg dz_T_append_0 17 rfl) ?_
      refine vf_iload_n C (f := 1) (zdg dz_T_append_0 18 rfl) 1 rfl rfl ?_
      refine vf_iload_n C (f := 2) (zdg dz_T_append_0 19 rfl) 2 rfl rfl ?_
      refine vf_ishr C (zdg dz_T_append_0 20 rfl) ?_
      refine vf_sipush C (z := 255) (zdg dz_T_append_0 21 rfl) (by decide +kernel) (jz rfl) ?_
      refine vf_iand C (zdg dz_T_append_0 22 rfl) ?_
      refine vf_i2c C (zdg dz_T_append_0 23 rfl) ?_
      refine vf_cast C sh_2 (by decide) rfl (mz := 80) rfl (zdg dz_T_append_1 0 rfl) ?_
      generalize st w 2 (w 1 1).toNat (nc (i2c (iand (ishr v1 v2) 255))) = u1
      refine vf_uw ?_
      refine vf_aload_n C (f := 0) (zdg dz_T_append_1 1 rfl) 0 rfl rfl ?_
      refine vf_dup C (zdg dz_T_append_1 2 rfl) (Nat.succ_ne_self 1) ?_
      refine vf_get C (kd := 0) fl_T_15 sh_1 rfl (by decide) rfl rfl (zdg dz_T_append_1 3 rfl) ?_
      refine vf_iconst C (z := 1) (zdg dz_T_append_1 4 rfl) (jz rfl) ?_
      refine vf_iadd C (zdg dz_T_append_1 5 rfl) ?_
      refine vf_put C (kd := 0) fl_T_15 fk_0_1 sh_1 rfl (by decide) rfl rfl (by decide) (zdg dz_T_append_1 6 rfl) ?_
      generalize st u1 1 1 (w32 ((u1 1 1) + 1)) = u2
      refine vf_uw ?_
      refine vf_iinc C (z := (-8)) (L' := [(0, (2, 2)), (1, (0, v1))]) (zdg dz_T_append_1 7 rfl) 2 rfl [0, 1] (jrI rfl rfl) hn (by decide) ?_
      generalize w32 (v2 + (-8)) = x3
      refine vf_ul ?_
      refine vf_goto C (off := (-34)) (tgt := 19) (zdg dz_T_append_1 8 rfl) (by decide) ?_
      exact vf_perm [1, 2, 0] rfl (ih _ _ _)
def f_T_append (v1 : Int) (w : Wd) : Option (Int × Wd) :=
  if (w32 ((w 1 1) + 4)) ≤ 80 then
    f_T_append_19 FU v1 24 w
  else
    some ((-1), w)
theorem ct_T_append (v1 : Int) (w : Wd) : Ct y_T_append prog_10_method_2_code 3 (some .int) 1 0 [(2, 2), (0, v1)] w (f_T_append v1 w) := by
  refine ct_of (by decide +kernel) (Or.inl ⟨rfl, rfl⟩) (Nat.le_of_ble_eq_true rfl) ?_
  intro X Qf ad C hn hR hr
  unfold f_T_append
  show VF X Qf ad NF 0 0 w 0 [(0, (2, 2)), (1, (0, v1))] [] _
  refine vf_aload_n C (f := 0) (zdg dz_T_append_0 0 rfl) 0 rfl rfl ?_
  refine vf_get C (kd := 0) fl_T_15 sh_1 rfl (by decide) rfl rfl (zdg dz_T_append_0 1 rfl) ?_
  refine vf_iconst C (z := 4) (zdg dz_T_append_0 2 rfl) (jz rfl) ?_
  refine vf_iadd C (zdg dz_T_append_0 3 rfl) ?_
  refine vf_aload_n C (f := 0) (zdg dz_T_append_0 4 rfl) 0 rfl rfl ?_
  refine vf_getp C fl_T_9 sh_1 rfl (by decide) rfl (x := 3) rfl (zdg dz_T_append_0 5 rfl) ?_
  refine vf_alen C sh_2 (by decide) (by decide) rfl (x := 80) rfl (jz rfl) (zdg dz_T_append_0 6 rfl) ?_
  refine vf_icmp_le C (off := 5) (tgt := 16) (zdg dz_T_append_0 7 rfl) (by decide) ?_ ?_
  · refine vf_bipush C (z := 24) (zdg dz_T_append_0 10 rfl) (by decide +kernel) (jz rfl) ?_
    refine vf_istore_n C (f := 2) (L' := [(0, (2, 2)), (1, (0, v1))]) (zdg dz_T_append_0 11 rfl) [0, 1] (jrI rfl rfl) hn (by decide) rfl ?_
    exact vf_perm [1, 2, 0] rfl (t_T_append_19 C hn hR hr FU _ _ _)
  · refine vf_iconst C (z := (-1)) (zdg dz_T_append_0 8 rfl) (jz rfl) ?_
    exact hr _ _ _ _ (fun h => absurd h (by decide)) (zdg dz_T_append_0 9 rfl)
def f_E_sign (v1 : Int) (w : Wd) : Option (Int × Wd) :=
  jcall (f_T_append v1 w) fun r1 u2 =>
  some (r1, u2)
theorem ct_E_sign (v1 : Int) (w : Wd) : Ct y_E_sign prog_1_method_2_code 2 (some .int) 2 0 [(2, 1), (0, v1)] w (f_E_sign v1 w) := by
  refine ct_of (by decide +kernel) (Or.inl ⟨rfl, rfl⟩) (Nat.le_of_ble_eq_true rfl) ?_
  intro X Qf ad C hn hR hr
  unfold f_E_sign
  show VF X Qf ad NF 0 0 w 0 [(0, (2, 1)), (1, (0, v1))] [] _
  refine vf_aload_n C (f := 0) (zdg dz_E_sign_0 0 rfl) 0 rfl rfl ?_
  refine vf_getp C fl_E_12 sh_0 rfl (by decide) rfl (x := 2) rfl (zdg dz_E_sign_0 1 rfl) ?_
  refine vf_iload_n C (f := 1) (zdg dz_E_sign_0 2 rfl) 1 rfl rfl ?_
  refine vf_callVi C cy_T_append ml_E_79 rfl (ct_T_append _ _) (S := []) sh_1 (by decide) rfl (jrm_of hR rfl) rfl rfl (Nat.le_of_ble_eq_true rfl) (zdg dz_E_sign_0 3 rfl) (fun r1 u2 => ?_)
  exact hr _ _ _ _ (fun h => absurd h (by decide)) (zdg dz_E_sign_0 4 rfl)
def f_T_cut (v1 : Int) (w : Wd) : Option (Int × Wd) :=
  if v1 < 0 then
    some (0, w)
  else
    if v1 ≤ (w 1 1) then
      jlw (st w 1 1 v1) fun u1 =>
      some (1, u1)
    else
      some (0, w)
theorem ct_T_cut (v1 : Int) (w : Wd) : Ct y_T_cut prog_10_method_3_code 2 (some .boolean) 1 4 [(2, 2), (0, v1)] w (f_T_cut v1 w) := by
  refine ct_of (by decide +kernel) (Or.inr (Or.inr (Or.inl ⟨rfl, rfl⟩))) (Nat.le_of_ble_eq_true rfl) ?_
  intro X Qf ad C hn hR hr
  unfold f_T_cut
  show VF X Qf ad NF 0 0 w 0 [(0, (2, 2)), (1, (0, v1))] [] _
  refine vf_iload_n C (f := 1) (zdg dz_T_cut_0 0 rfl) 1 rfl rfl ?_
  refine vf_if_lt C (off := 11) (tgt := 12) (zdg dz_T_cut_0 1 rfl) (by decide) ?_ ?_
  · refine vf_iconst C (z := 0) (zdg dz_T_cut_0 6 rfl) (jz rfl) ?_
    exact hr _ _ _ _ (fun _ => Or.inl rfl) (zdg dz_T_cut_0 7 rfl)
  · refine vf_iload_n C (f := 1) (zdg dz_T_cut_0 2 rfl) 1 rfl rfl ?_
    refine vf_aload_n C (f := 0) (zdg dz_T_cut_0 3 rfl) 0 rfl rfl ?_
    refine vf_get C (kd := 0) fl_T_15 sh_1 rfl (by decide) rfl rfl (zdg dz_T_cut_0 4 rfl) ?_
    refine vf_icmp_le C (off := 5) (tgt := 14) (zdg dz_T_cut_0 5 rfl) (by decide) ?_ ?_
    · refine vf_aload_n C (f := 0) (zdg dz_T_cut_0 8 rfl) 0 rfl rfl ?_
      refine vf_iload_n C (f := 1) (zdg dz_T_cut_0 9 rfl) 1 rfl rfl ?_
      refine vf_put C (kd := 0) fl_T_15 fk_0_1 sh_1 rfl (by decide) rfl rfl (by decide) (zdg dz_T_cut_0 10 rfl) ?_
      generalize st w 1 1 v1 = u1
      refine vf_uw ?_
      refine vf_iconst C (z := 1) (zdg dz_T_cut_0 11 rfl) (jz rfl) ?_
      exact hr _ _ _ _ (fun _ => Or.inr rfl) (zdg dz_T_cut_0 12 rfl)
    · refine vf_iconst C (z := 0) (zdg dz_T_cut_0 6 rfl) (jz rfl) ?_
      exact hr _ _ _ _ (fun _ => Or.inl rfl) (zdg dz_T_cut_0 7 rfl)
def f_E_end (v1 : Int) (w : Wd) : Option (Int × Wd) :=
  jcall (f_T_cut v1 w) fun r1 u2 =>
  if r1 = 0 ∨ r1 = 1 then some (r1, u2) else none
theorem ct_E_end (v1 : Int) (w : Wd) : Ct y_E_end prog_1_method_3_code 2 (some .boolean) 2 4 [(2, 1), (0, v1)] w (f_E_end v1 w) := by
  refine ct_of (by decide +kernel) (Or.inr (Or.inr (Or.inl ⟨rfl, rfl⟩))) (Nat.le_of_ble_eq_true rfl) ?_
  intro X Qf ad C hn hR hr
  unfold f_E_end
  show VF X Qf ad NF 0 0 w 0 [(0, (2, 1)), (1, (0, v1))] [] _
  refine vf_aload_n C (f := 0) (zdg dz_E_end_0 0 rfl) 0 rfl rfl ?_
  refine vf_getp C fl_E_12 sh_0 rfl (by decide) rfl (x := 2) rfl (zdg dz_E_end_0 1 rfl) ?_
  refine vf_iload_n C (f := 1) (zdg dz_E_end_0 2 rfl) 1 rfl rfl ?_
  refine vf_callVz C cy_T_cut ml_E_83 rfl (ct_T_cut _ _) (S := []) sh_1 (by decide) rfl (jrm_of hR rfl) rfl rfl (Nat.le_of_ble_eq_true rfl) (zdg dz_E_end_0 3 rfl) (fun r1 u2 => ?_)
  refine vf_if _ (fun h => ?_) (fun _ => vf_no)
  exact hr _ _ _ _ (fun _ => h) (zdg dz_E_end_0 4 rfl)
def f_T_signAt (v1 v2 : Int) (w : Wd) : Option (Int × Wd) :=
  if v1 < 0 then
    some ((-1), w)
  else
    if v1 < (w 1 1) then
      if v1 < v2 then
        jgd ((0 : Int) ≤ v1 ∧ v1 < 80) <|
        some (w 2 v1.toNat, w)
      else
        some ((-2), w)
    else
      some ((-1), w)
theorem ct_T_signAt (v1 v2 : Int) (w : Wd) : Ct y_T_signAt prog_10_method_5_code 3 (some .int) 1 0 [(2, 2), (0, v1), (0, v2)] w (f_T_signAt v1 v2 w) := by
  refine ct_of (by decide +kernel) (Or.inl ⟨rfl, rfl⟩) (Nat.le_of_ble_eq_true rfl) ?_
  intro X Qf ad C hn hR hr
  unfold f_T_signAt
  show VF X Qf ad NF 0 0 w 0 [(0, (2, 2)), (1, (0, v1)), (2, (0, v2))] [] _
  refine vf_iload_n C (f := 1) (zdg dz_T_signAt_0 0 rfl) 1 rfl rfl ?_
  refine vf_if_lt C (off := 11) (tgt := 12) (zdg dz_T_signAt_0 1 rfl) (by decide) ?_ ?_
  · refine vf_iconst C (z := (-1)) (zdg dz_T_signAt_0 6 rfl) (jz rfl) ?_
    exact hr _ _ _ _ (fun h => absurd h (by decide)) (zdg dz_T_signAt_0 7 rfl)
  · refine vf_iload_n C (f := 1) (zdg dz_T_signAt_0 2 rfl) 1 rfl rfl ?_
    refine vf_aload_n C (f := 0) (zdg dz_T_signAt_0 3 rfl) 0 rfl rfl ?_
    refine vf_get C (kd := 0) fl_T_15 sh_1 rfl (by decide) rfl rfl (zdg dz_T_signAt_0 4 rfl) ?_
    refine vf_icmp_lt C (off := 5) (tgt := 14) (zdg dz_T_signAt_0 5 rfl) (by decide) ?_ ?_
    · refine vf_iload_n C (f := 1) (zdg dz_T_signAt_0 8 rfl) 1 rfl rfl ?_
      refine vf_iload_n C (f := 2) (zdg dz_T_signAt_0 9 rfl) 2 rfl rfl ?_
      refine vf_icmp_lt C (off := 8) (tgt := 24) (zdg dz_T_signAt_0 10 rfl) (by decide) ?_ ?_
      · refine vf_aload_n C (f := 0) (zdg dz_T_signAt_0 13 rfl) 0 rfl rfl ?_
        refine vf_getp C fl_T_9 sh_1 rfl (by decide) rfl (x := 3) rfl (zdg dz_T_signAt_0 14 rfl) ?_
        refine vf_iload_n C (f := 1) (zdg dz_T_signAt_0 15 rfl) 1 rfl rfl ?_
        refine vf_cald C sh_2 (by decide) rfl (mz := 80) rfl (zdg dz_T_signAt_0 16 rfl) ?_
        exact hr _ _ _ _ (fun h => absurd h (by decide)) (zdg dz_T_signAt_0 17 rfl)
      · refine vf_bipush C (z := (-2)) (zdg dz_T_signAt_0 11 rfl) (by decide +kernel) (jz rfl) ?_
        refine vf_goto C (off := 9) (tgt := 30) (zdg dz_T_signAt_0 12 rfl) (by decide) ?_
        exact hr _ _ _ _ (fun h => absurd h (by decide)) (zdg dz_T_signAt_0 17 rfl)
    · refine vf_iconst C (z := (-1)) (zdg dz_T_signAt_0 6 rfl) (jz rfl) ?_
      exact hr _ _ _ _ (fun h => absurd h (by decide)) (zdg dz_T_signAt_0 7 rfl)
def f_L_take_34 (v3 s1 s2 : Int) (w : Wd) : Option (Int × Wd) :=
  jlw (st w 9 5 (w32 (s1 + s2))) fun u3 =>
  if v3 = 0 ∨ v3 = 1 then some (v3, u3) else none
theorem t_L_take_34 {X : jX} {Qf : Int × Wd → State → Prop} {ad : Nat → Nat} (C : Cx X prog_5_method_4_code "EachBringsAnother$Lines") (hn : xn X = 4) (hR : xR X = rmD 2) (hr : Rt X Qf ad prog_5_method_4_code 4) (v3 s1 s2 : Int) (w : Wd) : VF X Qf ad NF 0 0 w 34 [(3, (0, v3))] [(0, s2), (0, s1), (2, 10)] (f_L_take_34 v3 s1 s2 w) := by
  unfold f_L_take_34
  refine vf_iadd C (zdg dz_L_take_0 19 rfl) ?_
  refine vf_put C (kd := 0) fl_L_28 fk_3_5 sh_9 rfl (by decide) rfl rfl (by decide) (zdg dz_L_take_0 20 rfl) ?_
  generalize st w 9 5 (w32 (s1 + s2)) = u3
  refine vf_uw ?_
  refine vf_iload_n C (f := 3) (zdg dz_L_take_0 21 rfl) 0 rfl rfl ?_
  refine vf_if _ (fun h => ?_) (fun _ => vf_no)
  exact hr _ _ _ _ (fun _ => h) (zdg dz_L_take_0 22 rfl)
def f_L_take_19 (s0 : Int) (w : Wd) : Option (Int × Wd) :=
  if s0 = 0 then
    f_L_take_34 s0 (w 9 5) 0 w
  else
    f_L_take_34 s0 (w 9 5) 1 w
theorem t_L_take_19 {X : jX} {Qf : Int × Wd → State → Prop} {ad : Nat → Nat} (C : Cx X prog_5_method_4_code "EachBringsAnother$Lines") (hn : xn X = 4) (hR : xR X = rmD 2) (hr : Rt X Qf ad prog_5_method_4_code 4) (s0 : Int) (w : Wd) : VF X Qf ad NF 0 0 w 19 [(0, (2, 10))] [(0, s0)] (f_L_take_19 s0 w) := by
  unfold f_L_take_19
  refine vf_istore_n C (f := 3) (L' := [(0, (2, 10))]) (zdg dz_L_take_0 10 rfl) [0] (jrI rfl rfl) hn (by decide) rfl ?_
  refine vf_aload_n C (f := 0) (zdg dz_L_take_0 11 rfl) 1 rfl rfl ?_
  refine vf_dup C (zdg dz_L_take_0 12 rfl) (Nat.succ_ne_self 1) ?_
  refine vf_get C (kd := 0) fl_L_28 sh_9 rfl (by decide) rfl rfl (zdg dz_L_take_0 13 rfl) ?_
  refine vf_iload_n C (f := 3) (zdg dz_L_take_0 14 rfl) 0 rfl rfl ?_
  refine vf_if_eq C (off := 7) (tgt := 33) (zdg dz_L_take_0 15 rfl) (by decide) ?_ ?_
  · refine vf_iconst C (z := 0) (zdg dz_L_take_0 18 rfl) (jz rfl) ?_
    exact vf_perm [0] rfl (t_L_take_34 C hn hR hr _ _ _ _)
  · refine vf_iconst C (z := 1) (zdg dz_L_take_0 16 rfl) (jz rfl) ?_
    refine vf_goto C (off := 4) (tgt := 34) (zdg dz_L_take_0 17 rfl) (by decide) ?_
    exact vf_perm [0] rfl (t_L_take_34 C hn hR hr _ _ _ _)
def f_L_take (v2 : Int) (w : Wd) : Option (Int × Wd) :=
  jcall (f_T_signAt (w 9 5) 76 w) fun r1 u2 =>
  if r1 = v2 then
    f_L_take_19 1 u2
  else
    f_L_take_19 0 u2
theorem ct_L_take (v2 : Int) (w : Wd) : Ct y_L_take prog_5_method_4_code 4 (some .boolean) 2 4 [(2, 10), (2, 2), (0, v2)] w (f_L_take v2 w) := by
  refine ct_of (by decide +kernel) (Or.inr (Or.inr (Or.inl ⟨rfl, rfl⟩))) (Nat.le_of_ble_eq_true rfl) ?_
  intro X Qf ad C hn hR hr
  unfold f_L_take
  show VF X Qf ad NF 0 0 w 0 [(0, (2, 10)), (1, (2, 2)), (2, (0, v2))] [] _
  refine vf_aload_n C (f := 1) (zdg dz_L_take_0 0 rfl) 1 rfl rfl ?_
  refine vf_aload_n C (f := 0) (zdg dz_L_take_0 1 rfl) 0 rfl rfl ?_
  refine vf_get C (kd := 0) fl_L_28 sh_9 rfl (by decide) rfl rfl (zdg dz_L_take_0 2 rfl) ?_
  refine vf_bipush C (z := 76) (zdg dz_L_take_0 3 rfl) (by decide +kernel) (jz rfl) ?_
  refine vf_callVi C cy_T_signAt ml_L_40 rfl (ct_T_signAt _ _ _) (S := []) sh_1 (by decide) rfl (jrm_of hR rfl) rfl rfl (Nat.le_of_ble_eq_true rfl) (zdg dz_L_take_0 4 rfl) (fun r1 u2 => ?_)
  refine vf_iload_n C (f := 2) (zdg dz_L_take_0 5 rfl) 2 rfl rfl ?_
  refine vf_icmp_ne C (off := 7) (tgt := 18) (zdg dz_L_take_0 6 rfl) (by decide) ?_ ?_
  · refine vf_iconst C (z := 0) (zdg dz_L_take_0 9 rfl) (jz rfl) ?_
    exact vf_perm [0] rfl (t_L_take_19 C hn hR hr _ _)
  · refine vf_iconst C (z := 1) (zdg dz_L_take_0 7 rfl) (jz rfl) ?_
    refine vf_goto C (off := 4) (tgt := 19) (zdg dz_L_take_0 8 rfl) (by decide) ?_
    exact vf_perm [0] rfl (t_L_take_19 C hn hR hr _ _)
def f_L_readLine_163 (s1 s2 : Int) (w : Wd) : Option (Int × Wd) :=
  jlw (st w 9 3 (ior s1 s2)) fun u11 =>
  jlw (st u11 9 4 (w32 ((u11 9 4) + 1))) fun u12 =>
  some (1, u12)
theorem t_L_readLine_163 {X : jX} {Qf : Int × Wd → State → Prop} {ad : Nat → Nat} (C : Cx X prog_5_method_3_code "EachBringsAnother$Lines") (hn : xn X = 5) (hR : xR X = rmD 3) (hr : Rt X Qf ad prog_5_method_3_code 4) (s1 s2 : Int) (w : Wd) : VF X Qf ad NF 0 0 w 163 [(0, (2, 10))] [(0, s2), (0, s1), (2, 10)] (f_L_readLine_163 s1 s2 w) := by
  unfold f_L_readLine_163
  refine vf_ior C (zdg dz_L_readLine_3 21 rfl) ?_
  refine vf_put C (kd := 0) fl_L_22 fk_3_3 sh_9 rfl (by decide) rfl rfl (by decide) (zdg dz_L_readLine_3 22 rfl) ?_
  generalize st w 9 3 (ior s1 s2) = u11
  refine vf_uw ?_
  refine vf_aload_n C (f := 0) (zdg dz_L_readLine_3 23 rfl) 0 rfl rfl ?_
  refine vf_dup C (zdg dz_L_readLine_4 0 rfl) (Nat.succ_ne_self 1) ?_
  refine vf_get C (kd := 0) fl_L_25 sh_9 rfl (by decide) rfl rfl (zdg dz_L_readLine_4 1 rfl) ?_
  refine vf_iconst C (z := 1) (zdg dz_L_readLine_4 2 rfl) (jz rfl) ?_
  refine vf_iadd C (zdg dz_L_readLine_4 3 rfl) ?_
  refine vf_put C (kd := 0) fl_L_25 fk_3_4 sh_9 rfl (by decide) rfl rfl (by decide) (zdg dz_L_readLine_4 4 rfl) ?_
  generalize st u11 9 4 (w32 ((u11 9 4) + 1)) = u12
  refine vf_uw ?_
  refine vf_iconst C (z := 1) (zdg dz_L_readLine_4 5 rfl) (jz rfl) ?_
  exact hr _ _ _ _ (fun _ => Or.inr rfl) (zdg dz_L_readLine_4 6 rfl)
def f_L_readLine_137 (v2 s1 s2 : Int) (w : Wd) : Option (Int × Wd) :=
  jlw (st w 9 2 (ior s1 s2)) fun u8 =>
  jcall (f_L_take 63 u8) fun r9 u10 =>
  if r9 = 0 then
    f_L_readLine_163 (u8 9 3) 0 u10
  else
    f_L_readLine_163 (u8 9 3) (ishl 1 v2) u10
theorem t_L_readLine_137 {X : jX} {Qf : Int × Wd → State → Prop} {ad : Nat → Nat} (C : Cx X prog_5_method_3_code "EachBringsAnother$Lines") (hn : xn X = 5) (hR : xR X = rmD 3) (hr : Rt X Qf ad prog_5_method_3_code 4) (v2 s1 s2 : Int) (w : Wd) : VF X Qf ad NF 0 0 w 137 [(0, (2, 10)), (1, (2, 2)), (2, (0, v2))] [(0, s2), (0, s1), (2, 10)] (f_L_readLine_137 v2 s1 s2 w) := by
  unfold f_L_readLine_137
  refine vf_ior C (zdg dz_L_readLine_3 6 rfl) ?_
  refine vf_put C (kd := 0) fl_L_18 fk_3_2 sh_9 rfl (by decide) rfl rfl (by decide) (zdg dz_L_readLine_3 7 rfl) ?_
  generalize st w 9 2 (ior s1 s2) = u8
  refine vf_uw ?_
  refine vf_aload_n C (f := 0) (zdg dz_L_readLine_3 8 rfl) 0 rfl rfl ?_
  refine vf_dup C (zdg dz_L_readLine_3 9 rfl) (Nat.succ_ne_self 1) ?_
  refine vf_get C (kd := 0) fl_L_22 sh_9 rfl (by decide) rfl rfl (zdg dz_L_readLine_3 10 rfl) ?_
  refine vf_aload_n C (f := 0) (zdg dz_L_readLine_3 11 rfl) 0 rfl rfl ?_
  refine vf_aload_n C (f := 1) (zdg dz_L_readLine_3 12 rfl) 1 rfl rfl ?_
  refine vf_bipush C (z := 63) (zdg dz_L_readLine_3 13 rfl) (by decide +kernel) (jz rfl) ?_
  refine vf_callVz C cy_L_take ml_L_44 rfl (ct_L_take _ _) (S := [(0, u8 9 3), (2, 10)]) sh_9 (by decide) rfl (jrm_of hR rfl) rfl rfl (Nat.le_of_ble_eq_true rfl) (zdg dz_L_readLine_3 14 rfl) (fun r9 u10 => ?_)
  refine vf_if_eq C (off := 9) (tgt := 162) (zdg dz_L_readLine_3 15 rfl) (by decide) ?_ ?_
  · refine vf_iconst C (z := 0) (zdg dz_L_readLine_3 20 rfl) (jz rfl) ?_
    exact vf_perm [0] rfl (t_L_readLine_163 C hn hR hr _ _ _)
  · refine vf_iconst C (z := 1) (zdg dz_L_readLine_3 16 rfl) (jz rfl) ?_
    refine vf_iload_n C (f := 2) (zdg dz_L_readLine_3 17 rfl) 2 rfl rfl ?_
    refine vf_ishl C (zdg dz_L_readLine_3 18 rfl) ?_
    refine vf_goto C (off := 4) (tgt := 163) (zdg dz_L_readLine_3 19 rfl) (by decide) ?_
    exact vf_perm [0] rfl (t_L_readLine_163 C hn hR hr _ _ _)
def f_L_readLine_107 (k70 : Int → Int → Wd → Option (Int × Wd)) (v2 v4 s1 s2 s3 : Int) (w : Wd) : Option (Int × Wd) :=
  jgd ((0 : Int) ≤ s1 ∧ s1 < 10) <|
  jlw (st w 11 s1.toNat ((ior s2 s3))) fun u16 =>
  jlet (w32 (v4 + 1)) fun x17 =>
  k70 v2 x17 u16
theorem t_L_readLine_107 {X : jX} {Qf : Int × Wd → State → Prop} {ad : Nat → Nat} (C : Cx X prog_5_method_3_code "EachBringsAnother$Lines") (hn : xn X = 5) (hR : xR X = rmD 3) (hr : Rt X Qf ad prog_5_method_3_code 4) {k70 : Int → Int → Wd → Option (Int × Wd)} (hk70 : ∀ (v2 v4 : Int) (w : Wd), VF X Qf ad NF 0 0 w 70 [(0, (2, 10)), (1, (2, 2)), (2, (0, v2)), (4, (0, v4))] [] (k70 v2 v4 w)) (v2 v4 s1 s2 s3 : Int) (w : Wd) : VF X Qf ad NF 0 0 w 107 [(0, (2, 10)), (1, (2, 2)), (2, (0, v2)), (4, (0, v4))] [(0, s3), (0, s2), (0, s1), (2, 12)] (f_L_readLine_107 k70 v2 v4 s1 s2 s3 w) := by
  unfold f_L_readLine_107
  refine vf_ior C (zdg dz_L_readLine_2 13 rfl) ?_
  refine vf_iast C sh_11 (by decide) rfl (mz := 10) rfl (zdg dz_L_readLine_2 14 rfl) ?_
  generalize st w 11 s1.toNat ((ior s2 s3)) = u16
  refine vf_uw ?_
  refine vf_iinc C (z := 1) (L' := [(0, (2, 10)), (1, (2, 2)), (2, (0, v2))]) (zdg dz_L_readLine_2 15 rfl) 3 rfl [0, 1, 2] (jrI rfl rfl) hn (by decide) ?_
  generalize w32 (v4 + 1) = x17
  refine vf_ul ?_
  refine vf_goto C (off := (-42)) (tgt := 70) (zdg dz_L_readLine_2 16 rfl) (by decide) ?_
  exact vf_perm [1, 2, 3, 0] rfl (hk70 _ _ _)
def f_L_readLine_70 : Nat → Int → Int → Wd → Option (Int × Wd)
  | 0, _, _, _ => none
  | n + 1, v2, v4, w =>
    if v2 ≤ v4 then
      jcall (f_L_take 33 w) fun r6 u7 =>
      if r6 = 0 then
        f_L_readLine_137 v2 (w 9 2) 0 u7
      else
        f_L_readLine_137 v2 (w 9 2) (ishl 1 v2) u7
    else
      jlet (w 9 4) fun x13 =>
      jgd ((0 : Int) ≤ x13 ∧ x13 < 10) <|
      jcall (f_L_take (w32 (97 + v4)) w) fun r14 u15 =>
      if r14 = 0 then
        f_L_readLine_107 (f_L_readLine_70 n) v2 v4 x13 (w 11 x13.toNat) 0 u15
      else
        f_L_readLine_107 (f_L_readLine_70 n) v2 v4 x13 (w 11 x13.toNat) (ishl 1 v4) u15
theorem t_L_readLine_70 {X : jX} {Qf : Int × Wd → State → Prop} {ad : Nat → Nat} (C : Cx X prog_5_method_3_code "EachBringsAnother$Lines") (hn : xn X = 5) (hR : xR X = rmD 3) (hr : Rt X Qf ad prog_5_method_3_code 4) : ∀ (n : Nat) (v2 v4 : Int) (w : Wd), VF X Qf ad NF 0 0 w 70 [(0, (2, 10)), (1, (2, 2)), (2, (0, v2)), (4, (0, v4))] [] (f_L_readLine_70 n v2 v4 w) := by
  intro n
  induction n with
  | zero => intros; exact vf_no
  | succ n ih =>
    intro v2 v4 w
    rw [f_L_readLine_70]
    refine vf_iload C (zdg dz_L_readLine_1 16 rfl) 3 rfl ?_
    refine vf_iload_n C (f := 2) (zdg dz_L_readLine_1 17 rfl) 2 rfl rfl ?_
    refine vf_icmp_ge C (off := 42) (tgt := 115) (zdg dz_L_readLine_1 18 rfl) (by decide) ?_ ?_
    · refine vf_aload_n C (f := 0) (zdg dz_L_readLine_2 17 rfl) 0 rfl rfl ?_
      refine vf_dup C (zdg dz_L_readLine_2 18 rfl) (Nat.succ_ne_self 1) ?_
      refine vf_get C (kd := 0) fl_L_18 sh_9 rfl (by decide) rfl rfl (zdg dz_L_readLine_2 19 rfl) ?_
      refine vf_aload_n C (f := 0) (zdg dz_L_readLine_2 20 rfl) 0 rfl rfl ?_
      refine vf_aload_n C (f := 1) (zdg dz_L_readLine_2 21 rfl) 1 rfl rfl ?_
      refine vf_bipush C (z := 33) (zdg dz_L_readLine_2 22 rfl) (by decide +kernel) (jz rfl) ?_
      refine vf_callVz C cy_L_take ml_L_44 rfl (ct_L_take _ _) (S := [(0, w 9 2), (2, 10)]) sh_9 (by decide) rfl (jrm_of hR rfl) rfl rfl (Nat.le_of_ble_eq_true rfl) (zdg dz_L_readLine_2 23 rfl) (fun r6 u7 => ?_)
      refine vf_if_eq C (off := 9) (tgt := 136) (zdg dz_L_readLine_3 0 rfl) (by decide) ?_ ?_
      · refine vf_iconst C (z := 0) (zdg dz_L_readLine_3 5 rfl) (jz rfl) ?_
        exact vf_perm [0, 1, 2] rfl (t_L_readLine_137 C hn hR hr _ _ _ _)
      · refine vf_iconst C (z := 1) (zdg dz_L_readLine_3 1 rfl) (jz rfl) ?_
        refine vf_iload_n C (f := 2) (zdg dz_L_readLine_3 2 rfl) 2 rfl rfl ?_
        refine vf_ishl C (zdg dz_L_readLine_3 3 rfl) ?_
        refine vf_goto C (off := 4) (tgt := 137) (zdg dz_L_readLine_3 4 rfl) (by decide) ?_
        exact vf_perm [0, 1, 2] rfl (t_L_readLine_137 C hn hR hr _ _ _ _)
    · refine vf_aload_n C (f := 0) (zdg dz_L_readLine_1 19 rfl) 0 rfl rfl ?_
      refine vf_getp C fl_L_15 sh_9 rfl (by decide) rfl (x := 12) rfl (zdg dz_L_readLine_1 20 rfl) ?_
      refine vf_aload_n C (f := 0) (zdg dz_L_readLine_1 21 rfl) 0 rfl rfl ?_
      refine vf_get C (kd := 0) fl_L_25 sh_9 rfl (by decide) rfl rfl (zdg dz_L_readLine_1 22 rfl) ?_
      generalize w 9 4 = x13
      refine vf_ul ?_
      refine vf_dup2 C (zdg dz_L_readLine_1 23 rfl) Nat.zero_ne_one (Nat.succ_ne_self 1) ?_
      refine vf_iald C sh_11 (by decide) rfl (mz := 10) rfl (zdg dz_L_readLine_2 0 rfl) ?_
      refine vf_aload_n C (f := 0) (zdg dz_L_readLine_2 1 rfl) 0 rfl rfl ?_
      refine vf_aload_n C (f := 1) (zdg dz_L_readLine_2 2 rfl) 1 rfl rfl ?_
      refine vf_bipush C (z := 97) (zdg dz_L_readLine_2 3 rfl) (by decide +kernel) (jz rfl) ?_
      refine vf_iload C (zdg dz_L_readLine_2 4 rfl) 3 rfl ?_
      refine vf_iadd C (zdg dz_L_readLine_2 5 rfl) ?_
      refine vf_callVz C cy_L_take ml_L_44 rfl (ct_L_take _ _) (S := [(0, w 11 x13.toNat), (0, x13), (2, 12)]) sh_9 (by decide) rfl (jrm_of hR rfl) rfl rfl (Nat.le_of_ble_eq_true rfl) (zdg dz_L_readLine_2 6 rfl) (fun r14 u15 => ?_)
      refine vf_if_eq C (off := 10) (tgt := 106) (zdg dz_L_readLine_2 7 rfl) (by decide) ?_ ?_
      · refine vf_iconst C (z := 0) (zdg dz_L_readLine_2 12 rfl) (jz rfl) ?_
        exact t_L_readLine_107 C hn hR hr ih _ _ _ _ _ _
      · refine vf_iconst C (z := 1) (zdg dz_L_readLine_2 8 rfl) (jz rfl) ?_
        refine vf_iload C (zdg dz_L_readLine_2 9 rfl) 3 rfl ?_
        refine vf_ishl C (zdg dz_L_readLine_2 10 rfl) ?_
        refine vf_goto C (off := 4) (tgt := 107) (zdg dz_L_readLine_2 11 rfl) (by decide) ?_
        exact t_L_readLine_107 C hn hR hr ih _ _ _ _ _ _
def f_L_readLine (v2 : Int) (w : Wd) : Option (Int × Wd) :=
  jcall (f_T_signAt (w 9 5) 76 w) fun r1 u2 =>
  if r1 < 48 then
    some (0, u2)
  else
    if (57 : Int) < r1 then
      some (0, u2)
    else
      if (u2 9 4) < 10 then
        jlw (st u2 9 5 (w32 ((u2 9 5) + 1))) fun u3 =>
        jgd ((0 : Int) ≤ (u3 9 4) ∧ (u3 9 4) < 10) <|
        jlw (st u3 10 (u3 9 4).toNat ((w32 (r1 - 48)))) fun u4 =>
        jgd ((0 : Int) ≤ (u4 9 4) ∧ (u4 9 4) < 10) <|
        jlw (st u4 11 (u4 9 4).toNat 0) fun u5 =>
        f_L_readLine_70 FU v2 0 u5
      else
        some (0, u2)
theorem ct_L_readLine (v2 : Int) (w : Wd) : Ct y_L_readLine prog_5_method_3_code 5 (some .boolean) 3 4 [(2, 10), (2, 2), (0, v2)] w (f_L_readLine v2 w) := by
  refine ct_of (by decide +kernel) (Or.inr (Or.inr (Or.inl ⟨rfl, rfl⟩))) (Nat.le_of_ble_eq_true rfl) ?_
  intro X Qf ad C hn hR hr
  unfold f_L_readLine
  show VF X Qf ad NF 0 0 w 0 [(0, (2, 10)), (1, (2, 2)), (2, (0, v2))] [] _
  refine vf_aload_n C (f := 1) (zdg dz_L_readLine_0 0 rfl) 1 rfl rfl ?_
  refine vf_aload_n C (f := 0) (zdg dz_L_readLine_0 1 rfl) 0 rfl rfl ?_
  refine vf_get C (kd := 0) fl_L_28 sh_9 rfl (by decide) rfl rfl (zdg dz_L_readLine_0 2 rfl) ?_
  refine vf_bipush C (z := 76) (zdg dz_L_readLine_0 3 rfl) (by decide +kernel) (jz rfl) ?_
  refine vf_callVi C cy_T_signAt ml_L_40 rfl (ct_T_signAt _ _ _) (S := []) sh_1 (by decide) rfl (jrm_of hR rfl) rfl rfl (Nat.le_of_ble_eq_true rfl) (zdg dz_L_readLine_0 4 rfl) (fun r1 u2 => ?_)
  refine vf_istore_n C (f := 3) (L' := [(0, (2, 10)), (1, (2, 2)), (2, (0, v2))]) (zdg dz_L_readLine_0 5 rfl) [0, 1, 2] (jrI rfl rfl) hn (by decide) rfl ?_
  refine vf_iload_n C (f := 3) (zdg dz_L_readLine_0 6 rfl) 0 rfl rfl ?_
  refine vf_bipush C (z := 48) (zdg dz_L_readLine_0 7 rfl) (by decide +kernel) (jz rfl) ?_
  refine vf_icmp_lt C (off := 18) (tgt := 32) (zdg dz_L_readLine_0 8 rfl) (by decide) ?_ ?_
  · refine vf_iconst C (z := 0) (zdg dz_L_readLine_0 16 rfl) (jz rfl) ?_
    exact hr _ _ _ _ (fun _ => Or.inl rfl) (zdg dz_L_readLine_0 17 rfl)
  · refine vf_iload_n C (f := 3) (zdg dz_L_readLine_0 9 rfl) 0 rfl rfl ?_
    refine vf_bipush C (z := 57) (zdg dz_L_readLine_0 10 rfl) (by decide +kernel) (jz rfl) ?_
    refine vf_icmp_gt C (off := 12) (tgt := 32) (zdg dz_L_readLine_0 11 rfl) (by decide) ?_ ?_
    · refine vf_iconst C (z := 0) (zdg dz_L_readLine_0 16 rfl) (jz rfl) ?_
      exact hr _ _ _ _ (fun _ => Or.inl rfl) (zdg dz_L_readLine_0 17 rfl)
    · refine vf_aload_n C (f := 0) (zdg dz_L_readLine_0 12 rfl) 1 rfl rfl ?_
      refine vf_get C (kd := 0) fl_L_25 sh_9 rfl (by decide) rfl rfl (zdg dz_L_readLine_0 13 rfl) ?_
      refine vf_bipush C (z := 10) (zdg dz_L_readLine_0 14 rfl) (by decide +kernel) (jz rfl) ?_
      refine vf_icmp_lt C (off := 5) (tgt := 34) (zdg dz_L_readLine_0 15 rfl) (by decide) ?_ ?_
      · refine vf_aload_n C (f := 0) (zdg dz_L_readLine_0 18 rfl) 1 rfl rfl ?_
        refine vf_dup C (zdg dz_L_readLine_0 19 rfl) (Nat.succ_ne_self 1) ?_
        refine vf_get C (kd := 0) fl_L_28 sh_9 rfl (by decide) rfl rfl (zdg dz_L_readLine_0 20 rfl) ?_
        refine vf_iconst C (z := 1) (zdg dz_L_readLine_0 21 rfl) (jz rfl) ?_
        refine vf_iadd C (zdg dz_L_readLine_0 22 rfl) ?_
        refine vf_put C (kd := 0) fl_L_28 fk_3_5 sh_9 rfl (by decide) rfl rfl (by decide) (zdg dz_L_readLine_0 23 rfl) ?_
        generalize st u2 9 5 (w32 ((u2 9 5) + 1)) = u3
        refine vf_uw ?_
        refine vf_aload_n C (f := 0) (zdg dz_L_readLine_1 0 rfl) 1 rfl rfl ?_
        refine vf_getp C fl_L_9 sh_9 rfl (by decide) rfl (x := 11) rfl (zdg dz_L_readLine_1 1 rfl) ?_
        refine vf_aload_n C (f := 0) (zdg dz_L_readLine_1 2 rfl) 1 rfl rfl ?_
        refine vf_get C (kd := 0) fl_L_25 sh_9 rfl (by decide) rfl rfl (zdg dz_L_readLine_1 3 rfl) ?_
        refine vf_iload_n C (f := 3) (zdg dz_L_readLine_1 4 rfl) 0 rfl rfl ?_
        refine vf_bipush C (z := 48) (zdg dz_L_readLine_1 5 rfl) (by decide +kernel) (jz rfl) ?_
        refine vf_isub C (zdg dz_L_readLine_1 6 rfl) ?_
        refine vf_iast C sh_10 (by decide) rfl (mz := 10) rfl (zdg dz_L_readLine_1 7 rfl) ?_
        generalize st u3 10 (u3 9 4).toNat ((w32 (r1 - 48))) = u4
        refine vf_uw ?_
        refine vf_aload_n C (f := 0) (zdg dz_L_readLine_1 8 rfl) 1 rfl rfl ?_
        refine vf_getp C fl_L_15 sh_9 rfl (by decide) rfl (x := 12) rfl (zdg dz_L_readLine_1 9 rfl) ?_
        refine vf_aload_n C (f := 0) (zdg dz_L_readLine_1 10 rfl) 1 rfl rfl ?_
        refine vf_get C (kd := 0) fl_L_25 sh_9 rfl (by decide) rfl rfl (zdg dz_L_readLine_1 11 rfl) ?_
        refine vf_iconst C (z := 0) (zdg dz_L_readLine_1 12 rfl) (jz rfl) ?_
        refine vf_iast C sh_11 (by decide) rfl (mz := 10) rfl (zdg dz_L_readLine_1 13 rfl) ?_
        generalize st u4 11 (u4 9 4).toNat 0 = u5
        refine vf_uw ?_
        refine vf_iconst C (z := 0) (zdg dz_L_readLine_1 14 rfl) (jz rfl) ?_
        refine vf_istore C (i := 4) (L' := [(0, (2, 10)), (1, (2, 2)), (2, (0, v2))]) (zdg dz_L_readLine_1 15 rfl) [1, 2, 3] (jrI rfl rfl) hn (by decide) ?_
        exact vf_perm [1, 2, 3, 0] rfl (t_L_readLine_70 C hn hR hr FU _ _ _)
      · refine vf_iconst C (z := 0) (zdg dz_L_readLine_0 16 rfl) (jz rfl) ?_
        exact hr _ _ _ _ (fun _ => Or.inl rfl) (zdg dz_L_readLine_0 17 rfl)
def f_L_read_31 : Nat → Int → Wd → Option (Int × Wd)
  | 0, _, _ => none
  | n + 1, v3, w =>
    if (10 : Int) ≤ v3 then
      some (w32 ((-1) - (w 9 5)), w)
    else
      jcall (f_L_readLine v3 w) fun r5 u6 =>
      if r5 = 0 then
        some (w32 ((-1) - (u6 9 5)), u6)
      else
        jcall (f_T_signAt (u6 9 5) 76 u6) fun r7 u8 =>
        if r7 = (-1) then
          some (u8 9 4, u8)
        else
          if r7 = 59 then
            jlw (st u8 9 5 (w32 ((u8 9 5) + 1))) fun u9 =>
            jlet (w32 (v3 + 1)) fun x10 =>
            f_L_read_31 n x10 u9
          else
            some (w32 ((-1) - (u8 9 5)), u8)
theorem t_L_read_31 {X : jX} {Qf : Int × Wd → State → Prop} {ad : Nat → Nat} (C : Cx X prog_5_method_2_code "EachBringsAnother$Lines") (hn : xn X = 5) (hR : xR X = rmD 4) (hr : Rt X Qf ad prog_5_method_2_code 0) : ∀ (n : Nat) (v3 : Int) (w : Wd), VF X Qf ad NF 0 0 w 31 [(0, (2, 10)), (1, (2, 2)), (3, (0, v3))] [] (f_L_read_31 n v3 w) := by
  intro n
  induction n with
  | zero => intros; exact vf_no
  | succ n ih =>
    intro v3 w
    rw [f_L_read_31]
    refine vf_iload_n C (f := 3) (zdg dz_L_read_0 19 rfl) 2 rfl rfl ?_
    refine vf_bipush C (z := 10) (zdg dz_L_read_0 20 rfl) (by decide +kernel) (jz rfl) ?_
    refine vf_icmp_ge C (off := 72) (tgt := 106) (zdg dz_L_read_0 21 rfl) (by decide) ?_ ?_
    · refine vf_iconst C (z := (-1)) (zdg dz_L_read_2 12 rfl) (jz rfl) ?_
      refine vf_aload_n C (f := 0) (zdg dz_L_read_2 13 rfl) 0 rfl rfl ?_
      refine vf_get C (kd := 0) fl_L_28 sh_9 rfl (by decide) rfl rfl (zdg dz_L_read_2 14 rfl) ?_
      refine vf_isub C (zdg dz_L_read_2 15 rfl) ?_
      exact hr _ _ _ _ (fun h => absurd h (by decide)) (zdg dz_L_read_2 16 rfl)
    · refine vf_aload_n C (f := 0) (zdg dz_L_read_0 22 rfl) 0 rfl rfl ?_
      refine vf_aload_n C (f := 1) (zdg dz_L_read_0 23 rfl) 1 rfl rfl ?_
      refine vf_iload_n C (f := 3) (zdg dz_L_read_1 0 rfl) 2 rfl rfl ?_
      refine vf_callVz C cy_L_readLine ml_L_36 rfl (ct_L_readLine _ _) (S := []) sh_9 (by decide) rfl (jrm_of hR rfl) rfl rfl (Nat.le_of_ble_eq_true rfl) (zdg dz_L_read_1 1 rfl) (fun r5 u6 => ?_)
      refine vf_if_ne C (off := 10) (tgt := 53) (zdg dz_L_read_1 2 rfl) (by decide) ?_ ?_
      · refine vf_aload_n C (f := 1) (zdg dz_L_read_1 8 rfl) 1 rfl rfl ?_
        refine vf_aload_n C (f := 0) (zdg dz_L_read_1 9 rfl) 0 rfl rfl ?_
        refine vf_get C (kd := 0) fl_L_28 sh_9 rfl (by decide) rfl rfl (zdg dz_L_read_1 10 rfl) ?_
        refine vf_bipush C (z := 76) (zdg dz_L_read_1 11 rfl) (by decide +kernel) (jz rfl) ?_
        refine vf_callVi C cy_T_signAt ml_L_40 rfl (ct_T_signAt _ _ _) (S := []) sh_1 (by decide) rfl (jrm_of hR rfl) rfl rfl (Nat.le_of_ble_eq_true rfl) (zdg dz_L_read_1 12 rfl) (fun r7 u8 => ?_)
        refine vf_istore C (i := 4) (L' := [(0, (2, 10)), (1, (2, 2)), (3, (0, v3))]) (zdg dz_L_read_1 13 rfl) [0, 1, 2] (jrI rfl rfl) hn (by decide) ?_
        refine vf_iload C (zdg dz_L_read_1 14 rfl) 0 rfl ?_
        refine vf_iconst C (z := (-1)) (zdg dz_L_read_1 15 rfl) (jz rfl) ?_
        refine vf_icmp_ne C (off := 8) (tgt := 76) (zdg dz_L_read_1 16 rfl) (by decide) ?_ ?_
        · refine vf_iload C (zdg dz_L_read_1 20 rfl) 0 rfl ?_
          refine vf_bipush C (z := 59) (zdg dz_L_read_1 21 rfl) (by decide +kernel) (jz rfl) ?_
          refine vf_icmp_eq C (off := 10) (tgt := 90) (zdg dz_L_read_1 22 rfl) (by decide) ?_ ?_
          · refine vf_aload_n C (f := 0) (zdg dz_L_read_2 4 rfl) 1 rfl rfl ?_
            refine vf_dup C (zdg dz_L_read_2 5 rfl) (Nat.succ_ne_self 1) ?_
            refine vf_get C (kd := 0) fl_L_28 sh_9 rfl (by decide) rfl rfl (zdg dz_L_read_2 6 rfl) ?_
            refine vf_iconst C (z := 1) (zdg dz_L_read_2 7 rfl) (jz rfl) ?_
            refine vf_iadd C (zdg dz_L_read_2 8 rfl) ?_
            refine vf_put C (kd := 0) fl_L_28 fk_3_5 sh_9 rfl (by decide) rfl rfl (by decide) (zdg dz_L_read_2 9 rfl) ?_
            generalize st u8 9 5 (w32 ((u8 9 5) + 1)) = u9
            refine vf_uw ?_
            refine vf_iinc C (z := 1) (L' := [(0, (2, 10)), (1, (2, 2))]) (zdg dz_L_read_2 10 rfl) 3 rfl [1, 2] (jrI rfl rfl) hn (by decide) ?_
            generalize w32 (v3 + 1) = x10
            refine vf_ul ?_
            refine vf_goto C (off := (-72)) (tgt := 31) (zdg dz_L_read_2 11 rfl) (by decide) ?_
            exact vf_perm [1, 2, 0] rfl (ih _ _)
          · refine vf_iconst C (z := (-1)) (zdg dz_L_read_1 23 rfl) (jz rfl) ?_
            refine vf_aload_n C (f := 0) (zdg dz_L_read_2 0 rfl) 1 rfl rfl ?_
            refine vf_get C (kd := 0) fl_L_28 sh_9 rfl (by decide) rfl rfl (zdg dz_L_read_2 1 rfl) ?_
            refine vf_isub C (zdg dz_L_read_2 2 rfl) ?_
            exact hr _ _ _ _ (fun h => absurd h (by decide)) (zdg dz_L_read_2 3 rfl)
        · refine vf_aload_n C (f := 0) (zdg dz_L_read_1 17 rfl) 1 rfl rfl ?_
          refine vf_get C (kd := 0) fl_L_25 sh_9 rfl (by decide) rfl rfl (zdg dz_L_read_1 18 rfl) ?_
          exact hr _ _ _ _ (fun h => absurd h (by decide)) (zdg dz_L_read_1 19 rfl)
      · refine vf_iconst C (z := (-1)) (zdg dz_L_read_1 3 rfl) (jz rfl) ?_
        refine vf_aload_n C (f := 0) (zdg dz_L_read_1 4 rfl) 0 rfl rfl ?_
        refine vf_get C (kd := 0) fl_L_28 sh_9 rfl (by decide) rfl rfl (zdg dz_L_read_1 5 rfl) ?_
        refine vf_isub C (zdg dz_L_read_1 6 rfl) ?_
        exact hr _ _ _ _ (fun h => absurd h (by decide)) (zdg dz_L_read_1 7 rfl)
def f_L_read (v2 : Int) (w : Wd) : Option (Int × Wd) :=
  jlw (st w 9 2 0) fun u1 =>
  jlw (st u1 9 3 0) fun u2 =>
  jlw (st u2 9 4 0) fun u3 =>
  jlw (st u3 9 5 0) fun u4 =>
  if (u4 1 1) = 0 then
    some (0, u4)
  else
    f_L_read_31 FU v2 u4
theorem ct_L_read (v2 : Int) (w : Wd) : Ct y_L_read prog_5_method_2_code 5 (some .int) 4 0 [(2, 10), (2, 2), (0, v2)] w (f_L_read v2 w) := by
  refine ct_of (by decide +kernel) (Or.inl ⟨rfl, rfl⟩) (Nat.le_of_ble_eq_true rfl) ?_
  intro X Qf ad C hn hR hr
  unfold f_L_read
  show VF X Qf ad NF 0 0 w 0 [(0, (2, 10)), (1, (2, 2)), (2, (0, v2))] [] _
  refine vf_aload_n C (f := 0) (zdg dz_L_read_0 0 rfl) 0 rfl rfl ?_
  refine vf_iconst C (z := 0) (zdg dz_L_read_0 1 rfl) (jz rfl) ?_
  refine vf_put C (kd := 0) fl_L_18 fk_3_2 sh_9 rfl (by decide) rfl rfl (by decide) (zdg dz_L_read_0 2 rfl) ?_
  generalize st w 9 2 0 = u1
  refine vf_uw ?_
  refine vf_aload_n C (f := 0) (zdg dz_L_read_0 3 rfl) 0 rfl rfl ?_
  refine vf_iconst C (z := 0) (zdg dz_L_read_0 4 rfl) (jz rfl) ?_
  refine vf_put C (kd := 0) fl_L_22 fk_3_3 sh_9 rfl (by decide) rfl rfl (by decide) (zdg dz_L_read_0 5 rfl) ?_
  generalize st u1 9 3 0 = u2
  refine vf_uw ?_
  refine vf_aload_n C (f := 0) (zdg dz_L_read_0 6 rfl) 0 rfl rfl ?_
  refine vf_iconst C (z := 0) (zdg dz_L_read_0 7 rfl) (jz rfl) ?_
  refine vf_put C (kd := 0) fl_L_25 fk_3_4 sh_9 rfl (by decide) rfl rfl (by decide) (zdg dz_L_read_0 8 rfl) ?_
  generalize st u2 9 4 0 = u3
  refine vf_uw ?_
  refine vf_aload_n C (f := 0) (zdg dz_L_read_0 9 rfl) 0 rfl rfl ?_
  refine vf_iconst C (z := 0) (zdg dz_L_read_0 10 rfl) (jz rfl) ?_
  refine vf_put C (kd := 0) fl_L_28 fk_3_5 sh_9 rfl (by decide) rfl rfl (by decide) (zdg dz_L_read_0 11 rfl) ?_
  generalize st u3 9 5 0 = u4
  refine vf_uw ?_
  refine vf_aload_n C (f := 1) (zdg dz_L_read_0 12 rfl) 1 rfl rfl ?_
  refine vf_get C (kd := 0) fl_L_31 sh_1 rfl (by decide) rfl rfl (zdg dz_L_read_0 13 rfl) ?_
  refine vf_if_ne C (off := 5) (tgt := 29) (zdg dz_L_read_0 14 rfl) (by decide) ?_ ?_
  · refine vf_iload_n C (f := 2) (zdg dz_L_read_0 17 rfl) 2 rfl rfl ?_
    refine vf_istore_n C (f := 3) (L' := [(0, (2, 10)), (1, (2, 2))]) (zdg dz_L_read_0 18 rfl) [0, 1] (jrI rfl rfl) hn (by decide) rfl ?_
    exact vf_perm [1, 2, 0] rfl (t_L_read_31 C hn hR hr FU _ _)
  · refine vf_iconst C (z := 0) (zdg dz_L_read_0 15 rfl) (jz rfl) ?_
    exact hr _ _ _ _ (fun h => absurd h (by decide)) (zdg dz_L_read_0 16 rfl)
def f_T_clear (w : Wd) : Option (Int × Wd) :=
  jlw (st w 1 1 0) fun u1 =>
  some (0, u1)
theorem ct_T_clear (w : Wd) : Ct y_T_clear prog_10_method_4_code 1 none 1 9 [(2, 2)] w (f_T_clear w) := by
  refine ct_of (by decide +kernel) (Or.inr (Or.inr (Or.inr ⟨rfl, rfl⟩))) (Nat.le_of_ble_eq_true rfl) ?_
  intro X Qf ad C hn hR hr
  unfold f_T_clear
  show VF X Qf ad NF 0 0 w 0 [(0, (2, 2))] [] _
  refine vf_aload_n C (f := 0) (zdg dz_T_clear_0 0 rfl) 0 rfl rfl ?_
  refine vf_iconst C (z := 0) (zdg dz_T_clear_0 1 rfl) (jz rfl) ?_
  refine vf_put C (kd := 0) fl_T_15 fk_0_1 sh_1 rfl (by decide) rfl rfl (by decide) (zdg dz_T_clear_0 2 rfl) ?_
  generalize st w 1 1 0 = u1
  refine vf_uw ?_
  exact hr _ _ _ _ (fun h => absurd h (by decide)) (zdg dz_T_clear_0 3 rfl)
def f_E_has (v0 v1 : Int) (w : Wd) : Option (Int × Wd) :=
  if v1 < 0 then
    some (0, w)
  else
    if (10 : Int) ≤ v1 then
      some (0, w)
    else
      if (iand (ishr v0 v1) 1) = 0 then
        some (0, w)
      else
        some (1, w)
theorem ct_E_has (v0 v1 : Int) (w : Wd) : Ct y_E_has prog_1_method_44_code 2 (some .boolean) 1 4 [(0, v0), (0, v1)] w (f_E_has v0 v1 w) := by
  refine ct_of (by decide +kernel) (Or.inr (Or.inr (Or.inl ⟨rfl, rfl⟩))) (Nat.le_of_ble_eq_true rfl) ?_
  intro X Qf ad C hn hR hr
  unfold f_E_has
  show VF X Qf ad NF 0 0 w 0 [(0, (0, v0)), (1, (0, v1))] [] _
  refine vf_iload_n C (f := 1) (zdg dz_E_has_0 0 rfl) 1 rfl rfl ?_
  refine vf_if_lt C (off := 21) (tgt := 22) (zdg dz_E_has_0 1 rfl) (by decide) ?_ ?_
  · refine vf_iconst C (z := 0) (zdg dz_E_has_0 13 rfl) (jz rfl) ?_
    exact hr _ _ _ _ (fun _ => Or.inl rfl) (zdg dz_E_has_0 14 rfl)
  · refine vf_iload_n C (f := 1) (zdg dz_E_has_0 2 rfl) 1 rfl rfl ?_
    refine vf_bipush C (z := 10) (zdg dz_E_has_0 3 rfl) (by decide +kernel) (jz rfl) ?_
    refine vf_icmp_ge C (off := 15) (tgt := 22) (zdg dz_E_has_0 4 rfl) (by decide) ?_ ?_
    · refine vf_iconst C (z := 0) (zdg dz_E_has_0 13 rfl) (jz rfl) ?_
      exact hr _ _ _ _ (fun _ => Or.inl rfl) (zdg dz_E_has_0 14 rfl)
    · refine vf_iload_n C (f := 0) (zdg dz_E_has_0 5 rfl) 0 rfl rfl ?_
      refine vf_iload_n C (f := 1) (zdg dz_E_has_0 6 rfl) 1 rfl rfl ?_
      refine vf_ishr C (zdg dz_E_has_0 7 rfl) ?_
      refine vf_iconst C (z := 1) (zdg dz_E_has_0 8 rfl) (jz rfl) ?_
      refine vf_iand C (zdg dz_E_has_0 9 rfl) ?_
      refine vf_if_eq C (off := 7) (tgt := 22) (zdg dz_E_has_0 10 rfl) (by decide) ?_ ?_
      · refine vf_iconst C (z := 0) (zdg dz_E_has_0 13 rfl) (jz rfl) ?_
        exact hr _ _ _ _ (fun _ => Or.inl rfl) (zdg dz_E_has_0 14 rfl)
      · refine vf_iconst C (z := 1) (zdg dz_E_has_0 11 rfl) (jz rfl) ?_
        refine vf_goto C (off := 4) (tgt := 23) (zdg dz_E_has_0 12 rfl) (by decide) ?_
        exact hr _ _ _ _ (fun _ => Or.inr rfl) (zdg dz_E_has_0 14 rfl)
def f_E_with (v0 v1 v2 : Int) (w : Wd) : Option (Int × Wd) :=
  if v2 = 0 then
    some (iand v0 (ixor (ishl 1 v1) (-1)), w)
  else
    some (ior v0 (ishl 1 v1), w)
theorem ct_E_with (v0 v1 v2 : Int) (w : Wd) : Ct y_E_with prog_1_method_45_code 3 (some .int) 1 0 [(0, v0), (0, v1), (0, v2)] w (f_E_with v0 v1 v2 w) := by
  refine ct_of (by decide +kernel) (Or.inl ⟨rfl, rfl⟩) (Nat.le_of_ble_eq_true rfl) ?_
  intro X Qf ad C hn hR hr
  unfold f_E_with
  show VF X Qf ad NF 0 0 w 0 [(0, (0, v0)), (1, (0, v1)), (2, (0, v2))] [] _
  refine vf_iload_n C (f := 2) (zdg dz_E_with_0 0 rfl) 2 rfl rfl ?_
  refine vf_if_eq C (off := 11) (tgt := 12) (zdg dz_E_with_0 1 rfl) (by decide) ?_ ?_
  · refine vf_iload_n C (f := 0) (zdg dz_E_with_0 8 rfl) 0 rfl rfl ?_
    refine vf_iconst C (z := 1) (zdg dz_E_with_0 9 rfl) (jz rfl) ?_
    refine vf_iload_n C (f := 1) (zdg dz_E_with_0 10 rfl) 1 rfl rfl ?_
    refine vf_ishl C (zdg dz_E_with_0 11 rfl) ?_
    refine vf_iconst C (z := (-1)) (zdg dz_E_with_0 12 rfl) (jz rfl) ?_
    refine vf_ixor C (zdg dz_E_with_0 13 rfl) ?_
    refine vf_iand C (zdg dz_E_with_0 14 rfl) ?_
    exact hr _ _ _ _ (fun h => absurd h (by decide)) (zdg dz_E_with_0 15 rfl)
  · refine vf_iload_n C (f := 0) (zdg dz_E_with_0 2 rfl) 0 rfl rfl ?_
    refine vf_iconst C (z := 1) (zdg dz_E_with_0 3 rfl) (jz rfl) ?_
    refine vf_iload_n C (f := 1) (zdg dz_E_with_0 4 rfl) 1 rfl rfl ?_
    refine vf_ishl C (zdg dz_E_with_0 5 rfl) ?_
    refine vf_ior C (zdg dz_E_with_0 6 rfl) ?_
    refine vf_goto C (off := 10) (tgt := 19) (zdg dz_E_with_0 7 rfl) (by decide) ?_
    exact hr _ _ _ _ (fun h => absurd h (by decide)) (zdg dz_E_with_0 15 rfl)
def f_F_add_42 : Nat → Int → Int → Wd → Option (Int × Wd)
  | 0, _, _, _ => none
  | n + 1, v2, v3, w =>
    if (w 5 3) ≤ v3 then
      jlw (st w 5 3 (w32 ((w 5 3) + 1))) fun u4 =>
      some (0, u4)
    else
      jgd ((0 : Int) ≤ v3 ∧ v3 < 10) <|
      jcall (f_E_has v2 v3 w) fun r5 u6 =>
      jcall (f_E_with (w 7 v3.toNat) (w 5 3) r5 u6) fun r7 u8 =>
      jgd ((0 : Int) ≤ v3 ∧ v3 < 10) <|
      jlw (st u8 7 v3.toNat r7) fun u9 =>
      jlet (w32 (v3 + 1)) fun x10 =>
      f_F_add_42 n v2 x10 u9
theorem t_F_add_42 {X : jX} {Qf : Int × Wd → State → Prop} {ad : Nat → Nat} (C : Cx X prog_3_method_10_code "EachBringsAnother$Folk") (hn : xn X = 4) (hR : xR X = rmD 2) (hr : Rt X Qf ad prog_3_method_10_code 9) : ∀ (n : Nat) (v2 v3 : Int) (w : Wd), VF X Qf ad NF 0 0 w 42 [(0, (2, 6)), (2, (0, v2)), (3, (0, v3))] [] (f_F_add_42 n v2 v3 w) := by
  intro n
  induction n with
  | zero => intros; exact vf_no
  | succ n ih =>
    intro v2 v3 w
    rw [f_F_add_42]
    refine vf_iload_n C (f := 3) (zdg dz_F_add_1 1 rfl) 2 rfl rfl ?_
    refine vf_aload_n C (f := 0) (zdg dz_F_add_1 2 rfl) 0 rfl rfl ?_
    refine vf_get C (kd := 0) fl_F_28 sh_5 rfl (by decide) rfl rfl (zdg dz_F_add_1 3 rfl) ?_
    refine vf_icmp_ge C (off := 33) (tgt := 80) (zdg dz_F_add_1 4 rfl) (by decide) ?_ ?_
    · refine vf_aload_n C (f := 0) (zdg dz_F_add_1 21 rfl) 0 rfl rfl ?_
      refine vf_dup C (zdg dz_F_add_1 22 rfl) (Nat.succ_ne_self 1) ?_
      refine vf_get C (kd := 0) fl_F_28 sh_5 rfl (by decide) rfl rfl (zdg dz_F_add_1 23 rfl) ?_
      refine vf_iconst C (z := 1) (zdg dz_F_add_2 0 rfl) (jz rfl) ?_
      refine vf_iadd C (zdg dz_F_add_2 1 rfl) ?_
      refine vf_put C (kd := 0) fl_F_28 fk_2_3 sh_5 rfl (by decide) rfl rfl (by decide) (zdg dz_F_add_2 2 rfl) ?_
      generalize st w 5 3 (w32 ((w 5 3) + 1)) = u4
      refine vf_uw ?_
      exact hr _ _ _ _ (fun h => absurd h (by decide)) (zdg dz_F_add_2 3 rfl)
    · refine vf_aload_n C (f := 0) (zdg dz_F_add_1 5 rfl) 0 rfl rfl ?_
      refine vf_getp C fl_F_15 sh_5 rfl (by decide) rfl (x := 8) rfl (zdg dz_F_add_1 6 rfl) ?_
      refine vf_iload_n C (f := 3) (zdg dz_F_add_1 7 rfl) 2 rfl rfl ?_
      refine vf_aload_n C (f := 0) (zdg dz_F_add_1 8 rfl) 0 rfl rfl ?_
      refine vf_getp C fl_F_15 sh_5 rfl (by decide) rfl (x := 8) rfl (zdg dz_F_add_1 9 rfl) ?_
      refine vf_iload_n C (f := 3) (zdg dz_F_add_1 10 rfl) 2 rfl rfl ?_
      refine vf_iald C sh_7 (by decide) rfl (mz := 10) rfl (zdg dz_F_add_1 11 rfl) ?_
      refine vf_aload_n C (f := 0) (zdg dz_F_add_1 12 rfl) 0 rfl rfl ?_
      refine vf_get C (kd := 0) fl_F_28 sh_5 rfl (by decide) rfl rfl (zdg dz_F_add_1 13 rfl) ?_
      refine vf_iload_n C (f := 2) (zdg dz_F_add_1 14 rfl) 1 rfl rfl ?_
      refine vf_iload_n C (f := 3) (zdg dz_F_add_1 15 rfl) 2 rfl rfl ?_
      refine vf_callSz C cy_E_has ml_F_62 (ct_E_has _ _ _) (S := [(0, w 5 3), (0, w 7 v3.toNat), (0, v3), (2, 8)]) (jrm_of hR rfl) rfl rfl (Nat.le_of_ble_eq_true rfl) (zdg dz_F_add_1 16 rfl) (fun r5 u6 => ?_)
      refine vf_callSi C cy_E_with ml_F_66 (ct_E_with _ _ _ _) (S := [(0, v3), (2, 8)]) (jrm_of hR rfl) rfl rfl (Nat.le_of_ble_eq_true rfl) (zdg dz_F_add_1 17 rfl) (fun r7 u8 => ?_)
      refine vf_iast C sh_7 (by decide) rfl (mz := 10) rfl (zdg dz_F_add_1 18 rfl) ?_
      generalize st u8 7 v3.toNat r7 = u9
      refine vf_uw ?_
      refine vf_iinc C (z := 1) (L' := [(0, (2, 6)), (2, (0, v2))]) (zdg dz_F_add_1 19 rfl) 2 rfl [0, 1] (jrI rfl rfl) hn (by decide) ?_
      generalize w32 (v3 + 1) = x10
      refine vf_ul ?_
      refine vf_goto C (off := (-35)) (tgt := 42) (zdg dz_F_add_1 20 rfl) (by decide) ?_
      exact vf_perm [1, 2, 0] rfl (ih _ _ _)
def f_F_add (v1 v2 : Int) (w : Wd) : Option (Int × Wd) :=
  if (w 5 3) < 10 then
    jgd ((0 : Int) ≤ (w 5 3) ∧ (w 5 3) < 10) <|
    jlw (st w 6 (w 5 3).toNat v1) fun u1 =>
    jgd ((0 : Int) ≤ (u1 5 3) ∧ (u1 5 3) < 10) <|
    jlw (st u1 7 (u1 5 3).toNat v2) fun u2 =>
    jgd ((0 : Int) ≤ (u2 5 3) ∧ (u2 5 3) < 10) <|
    jlw (st u2 8 (u2 5 3).toNat (-1)) fun u3 =>
    f_F_add_42 FU v2 0 u3
  else
    some (0, w)
theorem ct_F_add (v1 v2 : Int) (w : Wd) : Ct y_F_add prog_3_method_10_code 4 none 2 9 [(2, 6), (0, v1), (0, v2)] w (f_F_add v1 v2 w) := by
  refine ct_of (by decide +kernel) (Or.inr (Or.inr (Or.inr ⟨rfl, rfl⟩))) (Nat.le_of_ble_eq_true rfl) ?_
  intro X Qf ad C hn hR hr
  unfold f_F_add
  show VF X Qf ad NF 0 0 w 0 [(0, (2, 6)), (1, (0, v1)), (2, (0, v2))] [] _
  refine vf_aload_n C (f := 0) (zdg dz_F_add_0 0 rfl) 0 rfl rfl ?_
  refine vf_get C (kd := 0) fl_F_28 sh_5 rfl (by decide) rfl rfl (zdg dz_F_add_0 1 rfl) ?_
  refine vf_bipush C (z := 10) (zdg dz_F_add_0 2 rfl) (by decide +kernel) (jz rfl) ?_
  refine vf_icmp_lt C (off := 4) (tgt := 10) (zdg dz_F_add_0 3 rfl) (by decide) ?_ ?_
  · refine vf_aload_n C (f := 0) (zdg dz_F_add_0 5 rfl) 0 rfl rfl ?_
    refine vf_getp C fl_F_9 sh_5 rfl (by decide) rfl (x := 7) rfl (zdg dz_F_add_0 6 rfl) ?_
    refine vf_aload_n C (f := 0) (zdg dz_F_add_0 7 rfl) 0 rfl rfl ?_
    refine vf_get C (kd := 0) fl_F_28 sh_5 rfl (by decide) rfl rfl (zdg dz_F_add_0 8 rfl) ?_
    refine vf_iload_n C (f := 1) (zdg dz_F_add_0 9 rfl) 1 rfl rfl ?_
    refine vf_iast C sh_6 (by decide) rfl (mz := 10) rfl (zdg dz_F_add_0 10 rfl) ?_
    generalize st w 6 (w 5 3).toNat v1 = u1
    refine vf_uw ?_
    refine vf_aload_n C (f := 0) (zdg dz_F_add_0 11 rfl) 0 rfl rfl ?_
    refine vf_getp C fl_F_15 sh_5 rfl (by decide) rfl (x := 8) rfl (zdg dz_F_add_0 12 rfl) ?_
    refine vf_aload_n C (f := 0) (zdg dz_F_add_0 13 rfl) 0 rfl rfl ?_
    refine vf_get C (kd := 0) fl_F_28 sh_5 rfl (by decide) rfl rfl (zdg dz_F_add_0 14 rfl) ?_
    refine vf_iload_n C (f := 2) (zdg dz_F_add_0 15 rfl) 2 rfl rfl ?_
    refine vf_iast C sh_7 (by decide) rfl (mz := 10) rfl (zdg dz_F_add_0 16 rfl) ?_
    generalize st u1 7 (u1 5 3).toNat v2 = u2
    refine vf_uw ?_
    refine vf_aload_n C (f := 0) (zdg dz_F_add_0 17 rfl) 0 rfl rfl ?_
    refine vf_getp C fl_F_18 sh_5 rfl (by decide) rfl (x := 9) rfl (zdg dz_F_add_0 18 rfl) ?_
    refine vf_aload_n C (f := 0) (zdg dz_F_add_0 19 rfl) 0 rfl rfl ?_
    refine vf_get C (kd := 0) fl_F_28 sh_5 rfl (by decide) rfl rfl (zdg dz_F_add_0 20 rfl) ?_
    refine vf_iconst C (z := (-1)) (zdg dz_F_add_0 21 rfl) (jz rfl) ?_
    refine vf_iast C sh_8 (by decide) rfl (mz := 10) rfl (zdg dz_F_add_0 22 rfl) ?_
    generalize st u2 8 (u2 5 3).toNat (-1) = u3
    refine vf_uw ?_
    refine vf_iconst C (z := 0) (zdg dz_F_add_0 23 rfl) (jz rfl) ?_
    refine vf_istore_n C (f := 3) (L' := [(0, (2, 6)), (2, (0, v2))]) (zdg dz_F_add_1 0 rfl) [0, 2] (jrI rfl rfl) hn (by decide) rfl ?_
    exact vf_perm [1, 2, 0] rfl (t_F_add_42 C hn hR hr FU _ _ _)
  · exact hr _ _ _ _ (fun h => absurd h (by decide)) (zdg dz_F_add_0 4 rfl)
def f_L_settle_2 : Nat → Int → Wd → Option (Int × Wd)
  | 0, _, _ => none
  | n + 1, v2, w =>
    if (w 9 4) ≤ v2 then
      jlw (st w 5 4 (ior (w 5 4) (w 9 2))) fun u1 =>
      jlw (st u1 5 5 (ior (u1 5 5) (u1 9 3))) fun u2 =>
      some (0, u2)
    else
      jgd ((0 : Int) ≤ v2 ∧ v2 < 10) <|
      jgd ((0 : Int) ≤ v2 ∧ v2 < 10) <|
      jcall (f_F_add (w 10 v2.toNat) (w 11 v2.toNat) w) fun r3 u4 =>
      jlet (w32 (v2 + 1)) fun x5 =>
      f_L_settle_2 n x5 u4
theorem t_L_settle_2 {X : jX} {Qf : Int × Wd → State → Prop} {ad : Nat → Nat} (C : Cx X prog_5_method_5_code "EachBringsAnother$Lines") (hn : xn X = 3) (hR : xR X = rmD 3) (hr : Rt X Qf ad prog_5_method_5_code 9) : ∀ (n : Nat) (v2 : Int) (w : Wd), VF X Qf ad NF 0 0 w 2 [(0, (2, 10)), (1, (2, 6)), (2, (0, v2))] [] (f_L_settle_2 n v2 w) := by
  intro n
  induction n with
  | zero => intros; exact vf_no
  | succ n ih =>
    intro v2 w
    rw [f_L_settle_2]
    refine vf_iload_n C (f := 2) (zdg dz_L_settle_0 2 rfl) 2 rfl rfl ?_
    refine vf_aload_n C (f := 0) (zdg dz_L_settle_0 3 rfl) 0 rfl rfl ?_
    refine vf_get C (kd := 0) fl_L_25 sh_9 rfl (by decide) rfl rfl (zdg dz_L_settle_0 4 rfl) ?_
    refine vf_icmp_ge C (off := 25) (tgt := 32) (zdg dz_L_settle_0 5 rfl) (by decide) ?_ ?_
    · refine vf_aload_n C (f := 1) (zdg dz_L_settle_0 18 rfl) 1 rfl rfl ?_
      refine vf_dup C (zdg dz_L_settle_0 19 rfl) (Nat.succ_ne_self 1) ?_
      refine vf_get C (kd := 0) fl_L_53 sh_5 rfl (by decide) rfl rfl (zdg dz_L_settle_0 20 rfl) ?_
      refine vf_aload_n C (f := 0) (zdg dz_L_settle_0 21 rfl) 0 rfl rfl ?_
      refine vf_get C (kd := 0) fl_L_18 sh_9 rfl (by decide) rfl rfl (zdg dz_L_settle_0 22 rfl) ?_
      refine vf_ior C (zdg dz_L_settle_0 23 rfl) ?_
      refine vf_put C (kd := 0) fl_L_53 fk_2_4 sh_5 rfl (by decide) rfl rfl (by decide) (zdg dz_L_settle_1 0 rfl) ?_
      generalize st w 5 4 (ior (w 5 4) (w 9 2)) = u1
      refine vf_uw ?_
      refine vf_aload_n C (f := 1) (zdg dz_L_settle_1 1 rfl) 1 rfl rfl ?_
      refine vf_dup C (zdg dz_L_settle_1 2 rfl) (Nat.succ_ne_self 1) ?_
      refine vf_get C (kd := 0) fl_L_56 sh_5 rfl (by decide) rfl rfl (zdg dz_L_settle_1 3 rfl) ?_
      refine vf_aload_n C (f := 0) (zdg dz_L_settle_1 4 rfl) 0 rfl rfl ?_
      refine vf_get C (kd := 0) fl_L_22 sh_9 rfl (by decide) rfl rfl (zdg dz_L_settle_1 5 rfl) ?_
      refine vf_ior C (zdg dz_L_settle_1 6 rfl) ?_
      refine vf_put C (kd := 0) fl_L_56 fk_2_5 sh_5 rfl (by decide) rfl rfl (by decide) (zdg dz_L_settle_1 7 rfl) ?_
      generalize st u1 5 5 (ior (u1 5 5) (u1 9 3)) = u2
      refine vf_uw ?_
      exact hr _ _ _ _ (fun h => absurd h (by decide)) (zdg dz_L_settle_1 8 rfl)
    · refine vf_aload_n C (f := 1) (zdg dz_L_settle_0 6 rfl) 1 rfl rfl ?_
      refine vf_aload_n C (f := 0) (zdg dz_L_settle_0 7 rfl) 0 rfl rfl ?_
      refine vf_getp C fl_L_9 sh_9 rfl (by decide) rfl (x := 11) rfl (zdg dz_L_settle_0 8 rfl) ?_
      refine vf_iload_n C (f := 2) (zdg dz_L_settle_0 9 rfl) 2 rfl rfl ?_
      refine vf_iald C sh_10 (by decide) rfl (mz := 10) rfl (zdg dz_L_settle_0 10 rfl) ?_
      refine vf_aload_n C (f := 0) (zdg dz_L_settle_0 11 rfl) 0 rfl rfl ?_
      refine vf_getp C fl_L_15 sh_9 rfl (by decide) rfl (x := 12) rfl (zdg dz_L_settle_0 12 rfl) ?_
      refine vf_iload_n C (f := 2) (zdg dz_L_settle_0 13 rfl) 2 rfl rfl ?_
      refine vf_iald C sh_11 (by decide) rfl (mz := 10) rfl (zdg dz_L_settle_0 14 rfl) ?_
      refine vf_callVv C cy_F_add ml_L_47 rfl (ct_F_add _ _ _) (S := []) sh_5 (by decide) rfl (jrm_of hR rfl) rfl rfl (Nat.le_of_ble_eq_true rfl) (zdg dz_L_settle_0 15 rfl) (fun r3 u4 => ?_)
      refine vf_iinc C (z := 1) (L' := [(0, (2, 10)), (1, (2, 6))]) (zdg dz_L_settle_0 16 rfl) 2 rfl [0, 1] (jrI rfl rfl) hn (by decide) ?_
      generalize w32 (v2 + 1) = x5
      refine vf_ul ?_
      refine vf_goto C (off := (-27)) (tgt := 2) (zdg dz_L_settle_0 17 rfl) (by decide) ?_
      exact vf_perm [1, 2, 0] rfl (ih _ _)
def f_L_settle (w : Wd) : Option (Int × Wd) :=
  f_L_settle_2 FU 0 w
theorem ct_L_settle (w : Wd) : Ct y_L_settle prog_5_method_5_code 3 none 3 9 [(2, 10), (2, 6)] w (f_L_settle w) := by
  refine ct_of (by decide +kernel) (Or.inr (Or.inr (Or.inr ⟨rfl, rfl⟩))) (Nat.le_of_ble_eq_true rfl) ?_
  intro X Qf ad C hn hR hr
  unfold f_L_settle
  show VF X Qf ad NF 0 0 w 0 [(0, (2, 10)), (1, (2, 6))] [] _
  refine vf_iconst C (z := 0) (zdg dz_L_settle_0 0 rfl) (jz rfl) ?_
  refine vf_istore_n C (f := 2) (L' := [(0, (2, 10)), (1, (2, 6))]) (zdg dz_L_settle_0 1 rfl) [0, 1] (jrI rfl rfl) hn (by decide) rfl ?_
  exact vf_perm [1, 2, 0] rfl (t_L_settle_2 C hn hR hr FU _ _)
def f_O_guests (v0 : Int) (w : Wd) : Option (Int × Wd) :=
  some (iand (ior v0 (ishr v0 10)) 1023, w)
theorem ct_O_guests (v0 : Int) (w : Wd) : Ct y_O_guests prog_11_method_2_code 1 (some .int) 1 0 [(0, v0)] w (f_O_guests v0 w) := by
  refine ct_of (by decide +kernel) (Or.inl ⟨rfl, rfl⟩) (Nat.le_of_ble_eq_true rfl) ?_
  intro X Qf ad C hn hR hr
  unfold f_O_guests
  show VF X Qf ad NF 0 0 w 0 [(0, (0, v0))] [] _
  refine vf_iload_n C (f := 0) (zdg dz_O_guests_0 0 rfl) 0 rfl rfl ?_
  refine vf_iload_n C (f := 0) (zdg dz_O_guests_0 1 rfl) 0 rfl rfl ?_
  refine vf_bipush C (z := 10) (zdg dz_O_guests_0 2 rfl) (by decide +kernel) (jz rfl) ?_
  refine vf_ishr C (zdg dz_O_guests_0 3 rfl) ?_
  refine vf_ior C (zdg dz_O_guests_0 4 rfl) ?_
  refine vf_sipush C (z := 1023) (zdg dz_O_guests_0 5 rfl) (by decide +kernel) (jz rfl) ?_
  refine vf_iand C (zdg dz_O_guests_0 6 rfl) ?_
  exact hr _ _ _ _ (fun h => absurd h (by decide)) (zdg dz_O_guests_0 7 rfl)
def f_F_guests (w : Wd) : Option (Int × Wd) :=
  jcall (f_O_guests (w 5 4) w) fun r1 u2 =>
  some (r1, u2)
theorem ct_F_guests (w : Wd) : Ct y_F_guests prog_3_method_4_code 1 (some .int) 2 0 [(2, 6)] w (f_F_guests w) := by
  refine ct_of (by decide +kernel) (Or.inl ⟨rfl, rfl⟩) (Nat.le_of_ble_eq_true rfl) ?_
  intro X Qf ad C hn hR hr
  unfold f_F_guests
  show VF X Qf ad NF 0 0 w 0 [(0, (2, 6))] [] _
  refine vf_aload_n C (f := 0) (zdg dz_F_guests_0 0 rfl) 0 rfl rfl ?_
  refine vf_get C (kd := 0) fl_F_31 sh_5 rfl (by decide) rfl rfl (zdg dz_F_guests_0 1 rfl) ?_
  refine vf_callSi C cy_O_guests ml_F_34 (ct_O_guests _ _) (S := []) (jrm_of hR rfl) rfl rfl (Nat.le_of_ble_eq_true rfl) (zdg dz_F_guests_0 2 rfl) (fun r1 u2 => ?_)
  exact hr _ _ _ _ (fun h => absurd h (by decide)) (zdg dz_F_guests_0 3 rfl)
def f_D_isOne (v1 : Int) (w : Wd) : Option (Int × Wd) :=
  if v1 < 0 then
    some (0, w)
  else
    if (60 : Int) < v1 then
      some (0, w)
    else
      if (w 15 3) < v1 then
        some (0, w)
      else
        some (1, w)
theorem ct_D_isOne (v1 : Int) (w : Wd) : Ct y_D_isOne prog_2_method_2_code 2 (some .boolean) 1 4 [(2, 16), (0, v1)] w (f_D_isOne v1 w) := by
  refine ct_of (by decide +kernel) (Or.inr (Or.inr (Or.inl ⟨rfl, rfl⟩))) (Nat.le_of_ble_eq_true rfl) ?_
  intro X Qf ad C hn hR hr
  unfold f_D_isOne
  show VF X Qf ad NF 0 0 w 0 [(0, (2, 16)), (1, (0, v1))] [] _
  refine vf_iload_n C (f := 1) (zdg dz_D_isOne_0 0 rfl) 1 rfl rfl ?_
  refine vf_if_lt C (off := 21) (tgt := 22) (zdg dz_D_isOne_0 1 rfl) (by decide) ?_ ?_
  · refine vf_iconst C (z := 0) (zdg dz_D_isOne_0 11 rfl) (jz rfl) ?_
    exact hr _ _ _ _ (fun _ => Or.inl rfl) (zdg dz_D_isOne_0 12 rfl)
  · refine vf_iload_n C (f := 1) (zdg dz_D_isOne_0 2 rfl) 1 rfl rfl ?_
    refine vf_bipush C (z := 60) (zdg dz_D_isOne_0 3 rfl) (by decide +kernel) (jz rfl) ?_
    refine vf_icmp_gt C (off := 15) (tgt := 22) (zdg dz_D_isOne_0 4 rfl) (by decide) ?_ ?_
    · refine vf_iconst C (z := 0) (zdg dz_D_isOne_0 11 rfl) (jz rfl) ?_
      exact hr _ _ _ _ (fun _ => Or.inl rfl) (zdg dz_D_isOne_0 12 rfl)
    · refine vf_iload_n C (f := 1) (zdg dz_D_isOne_0 5 rfl) 1 rfl rfl ?_
      refine vf_aload_n C (f := 0) (zdg dz_D_isOne_0 6 rfl) 0 rfl rfl ?_
      refine vf_get C (kd := 0) fl_D_21 sh_15 rfl (by decide) rfl rfl (zdg dz_D_isOne_0 7 rfl) ?_
      refine vf_icmp_gt C (off := 7) (tgt := 22) (zdg dz_D_isOne_0 8 rfl) (by decide) ?_ ?_
      · refine vf_iconst C (z := 0) (zdg dz_D_isOne_0 11 rfl) (jz rfl) ?_
        exact hr _ _ _ _ (fun _ => Or.inl rfl) (zdg dz_D_isOne_0 12 rfl)
      · refine vf_iconst C (z := 1) (zdg dz_D_isOne_0 9 rfl) (jz rfl) ?_
        refine vf_goto C (off := 4) (tgt := 23) (zdg dz_D_isOne_0 10 rfl) (by decide) ?_
        exact hr _ _ _ _ (fun _ => Or.inr rfl) (zdg dz_D_isOne_0 12 rfl)
def f_D_noteGuests (v1 : Int) (w : Wd) : Option (Int × Wd) :=
  jcall (f_D_isOne (w 15 3) w) fun r1 u2 =>
  if r1 = 0 then
    some (0, u2)
  else
    jgd ((0 : Int) ≤ (u2 15 3) ∧ (u2 15 3) < 61) <|
    jlw (st u2 16 (u2 15 3).toNat v1) fun u3 =>
    some (0, u3)
theorem ct_D_noteGuests (v1 : Int) (w : Wd) : Ct y_D_noteGuests prog_2_method_5_code 2 none 2 9 [(2, 16), (0, v1)] w (f_D_noteGuests v1 w) := by
  refine ct_of (by decide +kernel) (Or.inr (Or.inr (Or.inr ⟨rfl, rfl⟩))) (Nat.le_of_ble_eq_true rfl) ?_
  intro X Qf ad C hn hR hr
  unfold f_D_noteGuests
  show VF X Qf ad NF 0 0 w 0 [(0, (2, 16)), (1, (0, v1))] [] _
  refine vf_aload_n C (f := 0) (zdg dz_D_noteGuests_0 0 rfl) 0 rfl rfl ?_
  refine vf_aload_n C (f := 0) (zdg dz_D_noteGuests_0 1 rfl) 0 rfl rfl ?_
  refine vf_get C (kd := 0) fl_D_21 sh_15 rfl (by decide) rfl rfl (zdg dz_D_noteGuests_0 2 rfl) ?_
  refine vf_callVz C cy_D_isOne ml_D_25 rfl (ct_D_isOne _ _) (S := []) sh_15 (by decide) rfl (jrm_of hR rfl) rfl rfl (Nat.le_of_ble_eq_true rfl) (zdg dz_D_noteGuests_0 3 rfl) (fun r1 u2 => ?_)
  refine vf_if_eq C (off := 13) (tgt := 21) (zdg dz_D_noteGuests_0 4 rfl) (by decide) ?_ ?_
  · exact hr _ _ _ _ (fun h => absurd h (by decide)) (zdg dz_D_noteGuests_0 11 rfl)
  · refine vf_aload_n C (f := 0) (zdg dz_D_noteGuests_0 5 rfl) 0 rfl rfl ?_
    refine vf_getp C fl_D_9 sh_15 rfl (by decide) rfl (x := 17) rfl (zdg dz_D_noteGuests_0 6 rfl) ?_
    refine vf_aload_n C (f := 0) (zdg dz_D_noteGuests_0 7 rfl) 0 rfl rfl ?_
    refine vf_get C (kd := 0) fl_D_21 sh_15 rfl (by decide) rfl rfl (zdg dz_D_noteGuests_0 8 rfl) ?_
    refine vf_iload_n C (f := 1) (zdg dz_D_noteGuests_0 9 rfl) 1 rfl rfl ?_
    refine vf_iast C sh_16 (by decide) rfl (mz := 61) rfl (zdg dz_D_noteGuests_0 10 rfl) ?_
    generalize st u2 16 (u2 15 3).toNat v1 = u3
    refine vf_uw ?_
    exact hr _ _ _ _ (fun h => absurd h (by decide)) (zdg dz_D_noteGuests_0 11 rfl)
def f_S_forget (w : Wd) : Option (Int × Wd) :=
  jlw (st w 28 9 0) fun u1 =>
  some (0, u1)
theorem ct_S_forget (w : Wd) : Ct y_S_forget prog_9_method_2_code 1 none 1 9 [(2, 29)] w (f_S_forget w) := by
  refine ct_of (by decide +kernel) (Or.inr (Or.inr (Or.inr ⟨rfl, rfl⟩))) (Nat.le_of_ble_eq_true rfl) ?_
  intro X Qf ad C hn hR hr
  unfold f_S_forget
  show VF X Qf ad NF 0 0 w 0 [(0, (2, 29))] [] _
  refine vf_aload_n C (f := 0) (zdg dz_S_forget_0 0 rfl) 0 rfl rfl ?_
  refine vf_iconst C (z := 0) (zdg dz_S_forget_0 1 rfl) (jz rfl) ?_
  refine vf_putzl C fl_S_34 fk_9_9 sh_28 rfl (by decide) rfl (Or.inl rfl) (zdg dz_S_forget_0 2 rfl) ?_
  generalize st w 28 9 0 = u1
  refine vf_uw ?_
  exact hr _ _ _ _ (fun h => absurd h (by decide)) (zdg dz_S_forget_0 3 rfl)
def f_E_peopleCame (w : Wd) : Option (Int × Wd) :=
  jcall (f_F_guests w) fun r1 u2 =>
  jcall (f_D_noteGuests r1 u2) fun r3 u4 =>
  jlw (st u4 15 4 0) fun u5 =>
  jcall (f_S_forget u5) fun r6 u7 =>
  some (0, u7)
theorem ct_E_peopleCame (w : Wd) : Ct y_E_peopleCame prog_1_method_52_code 1 none 3 9 [(2, 1)] w (f_E_peopleCame w) := by
  refine ct_of (by decide +kernel) (Or.inr (Or.inr (Or.inr ⟨rfl, rfl⟩))) (Nat.le_of_ble_eq_true rfl) ?_
  intro X Qf ad C hn hR hr
  unfold f_E_peopleCame
  show VF X Qf ad NF 0 0 w 0 [(0, (2, 1))] [] _
  refine vf_aload_n C (f := 0) (zdg dz_E_peopleCame_0 0 rfl) 0 rfl rfl ?_
  refine vf_getp C fl_E_47 sh_0 rfl (by decide) rfl (x := 16) rfl (zdg dz_E_peopleCame_0 1 rfl) ?_
  refine vf_aload_n C (f := 0) (zdg dz_E_peopleCame_0 2 rfl) 0 rfl rfl ?_
  refine vf_getp C fl_E_26 sh_0 rfl (by decide) rfl (x := 6) rfl (zdg dz_E_peopleCame_0 3 rfl) ?_
  refine vf_callVi C cy_F_guests ml_E_136 rfl (ct_F_guests _) (S := [(2, 16)]) sh_5 (by decide) rfl (jrm_of hR rfl) rfl rfl (Nat.le_of_ble_eq_true rfl) (zdg dz_E_peopleCame_0 4 rfl) (fun r1 u2 => ?_)
  refine vf_callVv C cy_D_noteGuests ml_E_366 rfl (ct_D_noteGuests _ _) (S := []) sh_15 (by decide) rfl (jrm_of hR rfl) rfl rfl (Nat.le_of_ble_eq_true rfl) (zdg dz_E_peopleCame_0 5 rfl) (fun r3 u4 => ?_)
  refine vf_aload_n C (f := 0) (zdg dz_E_peopleCame_0 6 rfl) 0 rfl rfl ?_
  refine vf_getp C fl_E_47 sh_0 rfl (by decide) rfl (x := 16) rfl (zdg dz_E_peopleCame_0 7 rfl) ?_
  refine vf_iconst C (z := 0) (zdg dz_E_peopleCame_0 8 rfl) (jz rfl) ?_
  refine vf_put C (kd := 0) fl_E_355 fk_5_4 sh_15 rfl (by decide) rfl rfl (by decide) (zdg dz_E_peopleCame_0 9 rfl) ?_
  generalize st u4 15 4 0 = u5
  refine vf_uw ?_
  refine vf_aload_n C (f := 0) (zdg dz_E_peopleCame_0 10 rfl) 0 rfl rfl ?_
  refine vf_getp C fl_E_68 sh_0 rfl (by decide) rfl (x := 29) rfl (zdg dz_E_peopleCame_0 11 rfl) ?_
  refine vf_callVv C cy_S_forget ml_E_162 rfl (ct_S_forget _) (S := []) sh_28 (by decide) rfl (jrm_of hR rfl) rfl rfl (Nat.le_of_ble_eq_true rfl) (zdg dz_E_peopleCame_0 12 rfl) (fun r6 u7 => ?_)
  exact hr _ _ _ _ (fun h => absurd h (by decide)) (zdg dz_E_peopleCame_0 13 rfl)
def f_E_land (w : Wd) : Option (Int × Wd) :=
  jcall (f_L_read (w 5 3) w) fun r1 u2 =>
  jcall (f_T_clear u2) fun r3 u4 =>
  if r1 ≤ 0 then
    some (r1, u4)
  else
    jcall (f_L_settle u4) fun r5 u6 =>
    jcall (f_E_peopleCame u6) fun r7 u8 =>
    some (r1, u8)
theorem ct_E_land (w : Wd) : Ct y_E_land prog_1_method_4_code 2 (some .int) 5 0 [(2, 1)] w (f_E_land w) := by
  refine ct_of (by decide +kernel) (Or.inl ⟨rfl, rfl⟩) (Nat.le_of_ble_eq_true rfl) ?_
  intro X Qf ad C hn hR hr
  unfold f_E_land
  show VF X Qf ad NF 0 0 w 0 [(0, (2, 1))] [] _
  refine vf_aload_n C (f := 0) (zdg dz_E_land_0 0 rfl) 0 rfl rfl ?_
  refine vf_getp C fl_E_33 sh_0 rfl (by decide) rfl (x := 10) rfl (zdg dz_E_land_0 1 rfl) ?_
  refine vf_aload_n C (f := 0) (zdg dz_E_land_0 2 rfl) 0 rfl rfl ?_
  refine vf_getp C fl_E_12 sh_0 rfl (by decide) rfl (x := 2) rfl (zdg dz_E_land_0 3 rfl) ?_
  refine vf_aload_n C (f := 0) (zdg dz_E_land_0 4 rfl) 0 rfl rfl ?_
  refine vf_getp C fl_E_26 sh_0 rfl (by decide) rfl (x := 6) rfl (zdg dz_E_land_0 5 rfl) ?_
  refine vf_get C (kd := 0) fl_E_87 sh_5 rfl (by decide) rfl rfl (zdg dz_E_land_0 6 rfl) ?_
  refine vf_callVi C cy_L_read ml_E_91 rfl (ct_L_read _ _) (S := []) sh_9 (by decide) rfl (jrm_of hR rfl) rfl rfl (Nat.le_of_ble_eq_true rfl) (zdg dz_E_land_0 7 rfl) (fun r1 u2 => ?_)
  refine vf_istore_n C (f := 1) (L' := [(0, (2, 1))]) (zdg dz_E_land_0 8 rfl) [0] (jrI rfl rfl) hn (by decide) rfl ?_
  refine vf_aload_n C (f := 0) (zdg dz_E_land_0 9 rfl) 1 rfl rfl ?_
  refine vf_getp C fl_E_12 sh_0 rfl (by decide) rfl (x := 2) rfl (zdg dz_E_land_0 10 rfl) ?_
  refine vf_callVv C cy_T_clear ml_E_95 rfl (ct_T_clear _) (S := []) sh_1 (by decide) rfl (jrm_of hR rfl) rfl rfl (Nat.le_of_ble_eq_true rfl) (zdg dz_E_land_0 11 rfl) (fun r3 u4 => ?_)
  refine vf_iload_n C (f := 1) (zdg dz_E_land_0 12 rfl) 0 rfl rfl ?_
  refine vf_if_le C (off := 18) (tgt := 45) (zdg dz_E_land_0 13 rfl) (by decide) ?_ ?_
  · refine vf_iload_n C (f := 1) (zdg dz_E_land_0 21 rfl) 0 rfl rfl ?_
    exact hr _ _ _ _ (fun h => absurd h (by decide)) (zdg dz_E_land_0 22 rfl)
  · refine vf_aload_n C (f := 0) (zdg dz_E_land_0 14 rfl) 1 rfl rfl ?_
    refine vf_getp C fl_E_33 sh_0 rfl (by decide) rfl (x := 10) rfl (zdg dz_E_land_0 15 rfl) ?_
    refine vf_aload_n C (f := 0) (zdg dz_E_land_0 16 rfl) 1 rfl rfl ?_
    refine vf_getp C fl_E_26 sh_0 rfl (by decide) rfl (x := 6) rfl (zdg dz_E_land_0 17 rfl) ?_
    refine vf_callVv C cy_L_settle ml_E_98 rfl (ct_L_settle _) (S := []) sh_9 (by decide) rfl (jrm_of hR rfl) rfl rfl (Nat.le_of_ble_eq_true rfl) (zdg dz_E_land_0 18 rfl) (fun r5 u6 => ?_)
    refine vf_aload_n C (f := 0) (zdg dz_E_land_0 19 rfl) 1 rfl rfl ?_
    refine vf_callVv C cy_E_peopleCame ml_E_102 rfl (ct_E_peopleCame _) (S := []) sh_0 (by decide) rfl (jrm_of hR rfl) rfl rfl (Nat.le_of_ble_eq_true rfl) (zdg dz_E_land_0 20 rfl) (fun r7 u8 => ?_)
    refine vf_iload_n C (f := 1) (zdg dz_E_land_0 21 rfl) 0 rfl rfl ?_
    exact hr _ _ _ _ (fun h => absurd h (by decide)) (zdg dz_E_land_0 22 rfl)
def f_W_strength (v0 : Int) (w : Wd) : Option (Int × Wd) :=
  if v0 = 42 then
    some (3, w)
  else
  if v0 = 43 then
    some (2, w)
  else
  if v0 = 45 then
    some (2, w)
  else
  if v0 = 47 then
    some (3, w)
  else
  if v0 = 60 then
    some (1, w)
  else
  if v0 = 61 then
    some (1, w)
  else
  if v0 = 62 then
    some (1, w)
  else
  if v0 = 256 then
    some (4, w)
  else
  some (0, w)
theorem ct_W_strength (v0 : Int) (w : Wd) : Ct y_W_strength prog_12_method_7_code 1 (some .int) 1 0 [(0, v0)] w (f_W_strength v0 w) := by
  refine ct_of (by decide +kernel) (Or.inl ⟨rfl, rfl⟩) (Nat.le_of_ble_eq_true rfl) ?_
  intro X Qf ad C hn hR hr
  unfold f_W_strength
  show VF X Qf ad NF 0 0 w 0 [(0, (0, v0))] [] _
  refine vf_iload_n C (f := 0) (zdg dz_W_strength_0 0 rfl) 0 rfl rfl ?_
  refine vf_if _ (fun h42 => ?_) (fun h42 => ?_)
  · refine vf_lsw C (dflt := 83) (ps := #[(42, 79), (43, 77), (45, 77), (47, 79), (60, 75), (61, 75), (62, 75), (256, 81)]) (len := 75) (off := 79) (tgt := 80) (by decide +kernel) (by decide) (by rw [h42]; decide) (by decide) ?_
    refine vf_iconst C (z := 3) (zdg dz_W_strength_0 5 rfl) (jz rfl) ?_
    exact hr _ _ _ _ (fun h => absurd h (by decide)) (zdg dz_W_strength_0 6 rfl)
  refine vf_if _ (fun h43 => ?_) (fun h43 => ?_)
  · refine vf_lsw C (dflt := 83) (ps := #[(42, 79), (43, 77), (45, 77), (47, 79), (60, 75), (61, 75), (62, 75), (256, 81)]) (len := 75) (off := 77) (tgt := 78) (by decide +kernel) (by decide) (by rw [h43]; decide) (by decide) ?_
    refine vf_iconst C (z := 2) (zdg dz_W_strength_0 3 rfl) (jz rfl) ?_
    exact hr _ _ _ _ (fun h => absurd h (by decide)) (zdg dz_W_strength_0 4 rfl)
  refine vf_if _ (fun h45 => ?_) (fun h45 => ?_)
  · refine vf_lsw C (dflt := 83) (ps := #[(42, 79), (43, 77), (45, 77), (47, 79), (60, 75), (61, 75), (62, 75), (256, 81)]) (len := 75) (off := 77) (tgt := 78) (by decide +kernel) (by decide) (by rw [h45]; decide) (by decide) ?_
    refine vf_iconst C (z := 2) (zdg dz_W_strength_0 3 rfl) (jz rfl) ?_
    exact hr _ _ _ _ (fun h => absurd h (by decide)) (zdg dz_W_strength_0 4 rfl)
  refine vf_if _ (fun h47 => ?_) (fun h47 => ?_)
  · refine vf_lsw C (dflt := 83) (ps := #[(42, 79), (43, 77), (45, 77), (47, 79), (60, 75), (61, 75), (62, 75), (256, 81)]) (len := 75) (off := 79) (tgt := 80) (by decide +kernel) (by decide) (by rw [h47]; decide) (by decide) ?_
    refine vf_iconst C (z := 3) (zdg dz_W_strength_0 5 rfl) (jz rfl) ?_
    exact hr _ _ _ _ (fun h => absurd h (by decide)) (zdg dz_W_strength_0 6 rfl)
  refine vf_if _ (fun h60 => ?_) (fun h60 => ?_)
  · refine vf_lsw C (dflt := 83) (ps := #[(42, 79), (43, 77), (45, 77), (47, 79), (60, 75), (61, 75), (62, 75), (256, 81)]) (len := 75) (off := 75) (tgt := 76) (by decide +kernel) (by decide) (by rw [h60]; decide) (by decide) ?_
    refine vf_iconst C (z := 1) (zdg dz_W_strength_0 1 rfl) (jz rfl) ?_
    exact hr _ _ _ _ (fun h => absurd h (by decide)) (zdg dz_W_strength_0 2 rfl)
  refine vf_if _ (fun h61 => ?_) (fun h61 => ?_)
  · refine vf_lsw C (dflt := 83) (ps := #[(42, 79), (43, 77), (45, 77), (47, 79), (60, 75), (61, 75), (62, 75), (256, 81)]) (len := 75) (off := 75) (tgt := 76) (by decide +kernel) (by decide) (by rw [h61]; decide) (by decide) ?_
    refine vf_iconst C (z := 1) (zdg dz_W_strength_0 1 rfl) (jz rfl) ?_
    exact hr _ _ _ _ (fun h => absurd h (by decide)) (zdg dz_W_strength_0 2 rfl)
  refine vf_if _ (fun h62 => ?_) (fun h62 => ?_)
  · refine vf_lsw C (dflt := 83) (ps := #[(42, 79), (43, 77), (45, 77), (47, 79), (60, 75), (61, 75), (62, 75), (256, 81)]) (len := 75) (off := 75) (tgt := 76) (by decide +kernel) (by decide) (by rw [h62]; decide) (by decide) ?_
    refine vf_iconst C (z := 1) (zdg dz_W_strength_0 1 rfl) (jz rfl) ?_
    exact hr _ _ _ _ (fun h => absurd h (by decide)) (zdg dz_W_strength_0 2 rfl)
  refine vf_if _ (fun h256 => ?_) (fun h256 => ?_)
  · refine vf_lsw C (dflt := 83) (ps := #[(42, 79), (43, 77), (45, 77), (47, 79), (60, 75), (61, 75), (62, 75), (256, 81)]) (len := 75) (off := 81) (tgt := 82) (by decide +kernel) (by decide) (by rw [h256]; decide) (by decide) ?_
    refine vf_iconst C (z := 4) (zdg dz_W_strength_0 7 rfl) (jz rfl) ?_
    exact hr _ _ _ _ (fun h => absurd h (by decide)) (zdg dz_W_strength_0 8 rfl)
  refine vf_lsw C (dflt := 83) (ps := #[(42, 79), (43, 77), (45, 77), (47, 79), (60, 75), (61, 75), (62, 75), (256, 81)]) (len := 75) (off := 83) (tgt := 84) (by decide +kernel) (by decide) (by simp [Op.lookupswitch.offset, Ne.symm h42, Ne.symm h43, Ne.symm h45, Ne.symm h47, Ne.symm h60, Ne.symm h61, Ne.symm h62, Ne.symm h256]) (by decide) ?_
  refine vf_iconst C (z := 0) (zdg dz_W_strength_0 9 rfl) (jz rfl) ?_
  exact hr _ _ _ _ (fun h => absurd h (by decide)) (zdg dz_W_strength_0 10 rfl)
def f_W_write (v1 : Int) (w : Wd) : Option (Int × Wd) :=
  if (40 : Int) ≤ (w 19 5) then
    some (0, w)
  else
    jgd ((0 : Int) ≤ (w 19 5) ∧ (w 19 5) < 40) <|
    jlw (st w 21 (w 19 5).toNat v1) fun u1 =>
    jlw (st u1 19 5 (w32 ((u1 19 5) + 1))) fun u2 =>
    some (0, u2)
theorem ct_W_write (v1 : Int) (w : Wd) : Ct y_W_write prog_12_method_8_code 2 none 1 9 [(2, 20), (0, v1)] w (f_W_write v1 w) := by
  refine ct_of (by decide +kernel) (Or.inr (Or.inr (Or.inr ⟨rfl, rfl⟩))) (Nat.le_of_ble_eq_true rfl) ?_
  intro X Qf ad C hn hR hr
  unfold f_W_write
  show VF X Qf ad NF 0 0 w 0 [(0, (2, 20)), (1, (0, v1))] [] _
  refine vf_aload_n C (f := 0) (zdg dz_W_write_0 0 rfl) 0 rfl rfl ?_
  refine vf_get C (kd := 0) fl_W_31 sh_19 rfl (by decide) rfl rfl (zdg dz_W_write_0 1 rfl) ?_
  refine vf_aload_n C (f := 0) (zdg dz_W_write_0 2 rfl) 0 rfl rfl ?_
  refine vf_getp C fl_W_15 sh_19 rfl (by decide) rfl (x := 22) rfl (zdg dz_W_write_0 3 rfl) ?_
  refine vf_alen C sh_21 (by decide) (by decide) rfl (x := 40) rfl (jz rfl) (zdg dz_W_write_0 4 rfl) ?_
  refine vf_icmp_ge C (off := 23) (tgt := 32) (zdg dz_W_write_0 5 rfl) (by decide) ?_ ?_
  · exact hr _ _ _ _ (fun h => absurd h (by decide)) (zdg dz_W_write_0 18 rfl)
  · refine vf_aload_n C (f := 0) (zdg dz_W_write_0 6 rfl) 0 rfl rfl ?_
    refine vf_getp C fl_W_15 sh_19 rfl (by decide) rfl (x := 22) rfl (zdg dz_W_write_0 7 rfl) ?_
    refine vf_aload_n C (f := 0) (zdg dz_W_write_0 8 rfl) 0 rfl rfl ?_
    refine vf_get C (kd := 0) fl_W_31 sh_19 rfl (by decide) rfl rfl (zdg dz_W_write_0 9 rfl) ?_
    refine vf_iload_n C (f := 1) (zdg dz_W_write_0 10 rfl) 1 rfl rfl ?_
    refine vf_iast C sh_21 (by decide) rfl (mz := 40) rfl (zdg dz_W_write_0 11 rfl) ?_
    generalize st w 21 (w 19 5).toNat v1 = u1
    refine vf_uw ?_
    refine vf_aload_n C (f := 0) (zdg dz_W_write_0 12 rfl) 0 rfl rfl ?_
    refine vf_dup C (zdg dz_W_write_0 13 rfl) (Nat.succ_ne_self 1) ?_
    refine vf_get C (kd := 0) fl_W_31 sh_19 rfl (by decide) rfl rfl (zdg dz_W_write_0 14 rfl) ?_
    refine vf_iconst C (z := 1) (zdg dz_W_write_0 15 rfl) (jz rfl) ?_
    refine vf_iadd C (zdg dz_W_write_0 16 rfl) ?_
    refine vf_put C (kd := 0) fl_W_31 fk_7_5 sh_19 rfl (by decide) rfl rfl (by decide) (zdg dz_W_write_0 17 rfl) ?_
    generalize st u1 19 5 (w32 ((u1 19 5) + 1)) = u2
    refine vf_uw ?_
    exact hr _ _ _ _ (fun h => absurd h (by decide)) (zdg dz_W_write_0 18 rfl)
def f_W_release_7 : Nat → Int → Int → Wd → Option (Int × Wd)
  | 0, _, _, _ => none
  | n + 1, v1, v2, w =>
    if v2 < 0 then
      some (0, w)
    else
      jgd ((0 : Int) ≤ v2 ∧ v2 < 40) <|
      jcall (f_W_strength (w 22 v2.toNat) w) fun r2 u3 =>
      if r2 < v1 then
        some (0, u3)
      else
        jgd ((0 : Int) ≤ v2 ∧ v2 < 40) <|
        jcall (f_W_write (w32 (-(u3 22 v2.toNat))) u3) fun r4 u5 =>
        jlw (st u5 19 6 v2) fun u6 =>
        jlet (w32 (v2 + (-1))) fun x7 =>
        f_W_release_7 n v1 x7 u6
theorem t_W_release_7 {X : jX} {Qf : Int × Wd → State → Prop} {ad : Nat → Nat} (C : Cx X prog_12_method_10_code "EachBringsAnother$Wish") (hn : xn X = 3) (hR : xR X = rmD 2) (hr : Rt X Qf ad prog_12_method_10_code 9) : ∀ (n : Nat) (v1 v2 : Int) (w : Wd), VF X Qf ad NF 0 0 w 7 [(0, (2, 20)), (1, (0, v1)), (2, (0, v2))] [] (f_W_release_7 n v1 v2 w) := by
  intro n
  induction n with
  | zero => intros; exact vf_no
  | succ n ih =>
    intro v1 v2 w
    rw [f_W_release_7]
    refine vf_iload_n C (f := 2) (zdg dz_W_release_0 5 rfl) 2 rfl rfl ?_
    refine vf_if_lt C (off := 38) (tgt := 46) (zdg dz_W_release_0 6 rfl) (by decide) ?_ ?_
    · exact hr _ _ _ _ (fun h => absurd h (by decide)) (zdg dz_W_release_1 2 rfl)
    · refine vf_aload_n C (f := 0) (zdg dz_W_release_0 7 rfl) 0 rfl rfl ?_
      refine vf_getp C fl_W_18 sh_19 rfl (by decide) rfl (x := 23) rfl (zdg dz_W_release_0 8 rfl) ?_
      refine vf_iload_n C (f := 2) (zdg dz_W_release_0 9 rfl) 2 rfl rfl ?_
      refine vf_iald C sh_22 (by decide) rfl (mz := 40) rfl (zdg dz_W_release_0 10 rfl) ?_
      refine vf_callSi C cy_W_strength ml_W_83 (ct_W_strength _ _) (S := []) (jrm_of hR rfl) rfl rfl (Nat.le_of_ble_eq_true rfl) (zdg dz_W_release_0 11 rfl) (fun r2 u3 => ?_)
      refine vf_iload_n C (f := 1) (zdg dz_W_release_0 12 rfl) 1 rfl rfl ?_
      refine vf_icmp_lt C (off := 25) (tgt := 46) (zdg dz_W_release_0 13 rfl) (by decide) ?_ ?_
      · exact hr _ _ _ _ (fun h => absurd h (by decide)) (zdg dz_W_release_1 2 rfl)
      · refine vf_aload_n C (f := 0) (zdg dz_W_release_0 14 rfl) 0 rfl rfl ?_
        refine vf_aload_n C (f := 0) (zdg dz_W_release_0 15 rfl) 0 rfl rfl ?_
        refine vf_getp C fl_W_18 sh_19 rfl (by decide) rfl (x := 23) rfl (zdg dz_W_release_0 16 rfl) ?_
        refine vf_iload_n C (f := 2) (zdg dz_W_release_0 17 rfl) 2 rfl rfl ?_
        refine vf_iald C sh_22 (by decide) rfl (mz := 40) rfl (zdg dz_W_release_0 18 rfl) ?_
        refine vf_ineg C (zdg dz_W_release_0 19 rfl) ?_
        refine vf_callVv C cy_W_write ml_W_77 rfl (ct_W_write _ _) (S := []) sh_19 (by decide) rfl (jrm_of hR rfl) rfl rfl (Nat.le_of_ble_eq_true rfl) (zdg dz_W_release_0 20 rfl) (fun r4 u5 => ?_)
        refine vf_aload_n C (f := 0) (zdg dz_W_release_0 21 rfl) 0 rfl rfl ?_
        refine vf_iload_n C (f := 2) (zdg dz_W_release_0 22 rfl) 2 rfl rfl ?_
        refine vf_put C (kd := 0) fl_W_34 fk_7_6 sh_19 rfl (by decide) rfl rfl (by decide) (zdg dz_W_release_0 23 rfl) ?_
        generalize st u5 19 6 v2 = u6
        refine vf_uw ?_
        refine vf_iinc C (z := (-1)) (L' := [(0, (2, 20)), (1, (0, v1))]) (zdg dz_W_release_1 0 rfl) 2 rfl [0, 1] (jrI rfl rfl) hn (by decide) ?_
        generalize w32 (v2 + (-1)) = x7
        refine vf_ul ?_
        refine vf_goto C (off := (-36)) (tgt := 7) (zdg dz_W_release_1 1 rfl) (by decide) ?_
        exact vf_perm [1, 2, 0] rfl (ih _ _ _)
def f_W_release (v1 : Int) (w : Wd) : Option (Int × Wd) :=
  jlet (w32 ((w 19 6) - 1)) fun x1 =>
  f_W_release_7 FU v1 x1 w
theorem ct_W_release (v1 : Int) (w : Wd) : Ct y_W_release prog_12_method_10_code 3 none 2 9 [(2, 20), (0, v1)] w (f_W_release v1 w) := by
  refine ct_of (by decide +kernel) (Or.inr (Or.inr (Or.inr ⟨rfl, rfl⟩))) (Nat.le_of_ble_eq_true rfl) ?_
  intro X Qf ad C hn hR hr
  unfold f_W_release
  show VF X Qf ad NF 0 0 w 0 [(0, (2, 20)), (1, (0, v1))] [] _
  refine vf_aload_n C (f := 0) (zdg dz_W_release_0 0 rfl) 0 rfl rfl ?_
  refine vf_get C (kd := 0) fl_W_34 sh_19 rfl (by decide) rfl rfl (zdg dz_W_release_0 1 rfl) ?_
  refine vf_iconst C (z := 1) (zdg dz_W_release_0 2 rfl) (jz rfl) ?_
  refine vf_isub C (zdg dz_W_release_0 3 rfl) ?_
  generalize w32 ((w 19 6) - 1) = x1
  refine vf_ul ?_
  refine vf_istore_n C (f := 2) (L' := [(0, (2, 20)), (1, (0, v1))]) (zdg dz_W_release_0 4 rfl) [0, 1] (jrI rfl rfl) hn (by decide) rfl ?_
  exact vf_perm [1, 2, 0] rfl (t_W_release_7 C hn hR hr FU _ _ _)
def f_W_await (v1 : Int) (w : Wd) : Option (Int × Wd) :=
  if (40 : Int) ≤ (w 19 6) then
    some (0, w)
  else
    jgd ((0 : Int) ≤ (w 19 6) ∧ (w 19 6) < 40) <|
    jlw (st w 22 (w 19 6).toNat v1) fun u1 =>
    jlw (st u1 19 6 (w32 ((u1 19 6) + 1))) fun u2 =>
    some (0, u2)
theorem ct_W_await (v1 : Int) (w : Wd) : Ct y_W_await prog_12_method_9_code 2 none 1 9 [(2, 20), (0, v1)] w (f_W_await v1 w) := by
  refine ct_of (by decide +kernel) (Or.inr (Or.inr (Or.inr ⟨rfl, rfl⟩))) (Nat.le_of_ble_eq_true rfl) ?_
  intro X Qf ad C hn hR hr
  unfold f_W_await
  show VF X Qf ad NF 0 0 w 0 [(0, (2, 20)), (1, (0, v1))] [] _
  refine vf_aload_n C (f := 0) (zdg dz_W_await_0 0 rfl) 0 rfl rfl ?_
  refine vf_get C (kd := 0) fl_W_34 sh_19 rfl (by decide) rfl rfl (zdg dz_W_await_0 1 rfl) ?_
  refine vf_aload_n C (f := 0) (zdg dz_W_await_0 2 rfl) 0 rfl rfl ?_
  refine vf_getp C fl_W_18 sh_19 rfl (by decide) rfl (x := 23) rfl (zdg dz_W_await_0 3 rfl) ?_
  refine vf_alen C sh_22 (by decide) (by decide) rfl (x := 40) rfl (jz rfl) (zdg dz_W_await_0 4 rfl) ?_
  refine vf_icmp_ge C (off := 23) (tgt := 32) (zdg dz_W_await_0 5 rfl) (by decide) ?_ ?_
  · exact hr _ _ _ _ (fun h => absurd h (by decide)) (zdg dz_W_await_0 18 rfl)
  · refine vf_aload_n C (f := 0) (zdg dz_W_await_0 6 rfl) 0 rfl rfl ?_
    refine vf_getp C fl_W_18 sh_19 rfl (by decide) rfl (x := 23) rfl (zdg dz_W_await_0 7 rfl) ?_
    refine vf_aload_n C (f := 0) (zdg dz_W_await_0 8 rfl) 0 rfl rfl ?_
    refine vf_get C (kd := 0) fl_W_34 sh_19 rfl (by decide) rfl rfl (zdg dz_W_await_0 9 rfl) ?_
    refine vf_iload_n C (f := 1) (zdg dz_W_await_0 10 rfl) 1 rfl rfl ?_
    refine vf_iast C sh_22 (by decide) rfl (mz := 40) rfl (zdg dz_W_await_0 11 rfl) ?_
    generalize st w 22 (w 19 6).toNat v1 = u1
    refine vf_uw ?_
    refine vf_aload_n C (f := 0) (zdg dz_W_await_0 12 rfl) 0 rfl rfl ?_
    refine vf_dup C (zdg dz_W_await_0 13 rfl) (Nat.succ_ne_self 1) ?_
    refine vf_get C (kd := 0) fl_W_34 sh_19 rfl (by decide) rfl rfl (zdg dz_W_await_0 14 rfl) ?_
    refine vf_iconst C (z := 1) (zdg dz_W_await_0 15 rfl) (jz rfl) ?_
    refine vf_iadd C (zdg dz_W_await_0 16 rfl) ?_
    refine vf_put C (kd := 0) fl_W_34 fk_7_6 sh_19 rfl (by decide) rfl rfl (by decide) (zdg dz_W_await_0 17 rfl) ?_
    generalize st u1 19 6 (w32 ((u1 19 6) + 1)) = u2
    refine vf_uw ?_
    exact hr _ _ _ _ (fun h => absurd h (by decide)) (zdg dz_W_await_0 18 rfl)
def f_W_takeDigit (v1 : Int) (w : Wd) : Option (Int × Wd) :=
  if (w 19 8) = 0 then
    some (0, w)
  else
    if (w 19 8) = 3 then
      some (0, w)
    else
      if (w 19 5) = 0 then
        some (0, w)
      else
        jgd ((0 : Int) ≤ (w32 ((w 19 5) - 1)) ∧ (w32 ((w 19 5) - 1)) < 40) <|
        jgd ((0 : Int) ≤ (w32 ((w 19 5) - 1)) ∧ (w32 ((w 19 5) - 1)) < 40) <|
        jlw (st w 21 (w32 ((w 19 5) - 1)).toNat ((w32 ((w32 ((w 21 (w32 ((w 19 5) - 1)).toNat) * 10)) + v1)))) fun u1 =>
        jlw (st u1 19 8 (w32 ((u1 19 8) + 1))) fun u2 =>
        some (1, u2)
theorem ct_W_takeDigit (v1 : Int) (w : Wd) : Ct y_W_takeDigit prog_12_method_5_code 2 (some .boolean) 1 4 [(2, 20), (0, v1)] w (f_W_takeDigit v1 w) := by
  refine ct_of (by decide +kernel) (Or.inr (Or.inr (Or.inl ⟨rfl, rfl⟩))) (Nat.le_of_ble_eq_true rfl) ?_
  intro X Qf ad C hn hR hr
  unfold f_W_takeDigit
  show VF X Qf ad NF 0 0 w 0 [(0, (2, 20)), (1, (0, v1))] [] _
  refine vf_aload_n C (f := 0) (zdg dz_W_takeDigit_0 0 rfl) 0 rfl rfl ?_
  refine vf_get C (kd := 0) fl_W_40 sh_19 rfl (by decide) rfl rfl (zdg dz_W_takeDigit_0 1 rfl) ?_
  refine vf_if_eq C (off := 18) (tgt := 22) (zdg dz_W_takeDigit_0 2 rfl) (by decide) ?_ ?_
  · refine vf_iconst C (z := 0) (zdg dz_W_takeDigit_0 10 rfl) (jz rfl) ?_
    exact hr _ _ _ _ (fun _ => Or.inl rfl) (zdg dz_W_takeDigit_0 11 rfl)
  · refine vf_aload_n C (f := 0) (zdg dz_W_takeDigit_0 3 rfl) 0 rfl rfl ?_
    refine vf_get C (kd := 0) fl_W_40 sh_19 rfl (by decide) rfl rfl (zdg dz_W_takeDigit_0 4 rfl) ?_
    refine vf_iconst C (z := 3) (zdg dz_W_takeDigit_0 5 rfl) (jz rfl) ?_
    refine vf_icmp_eq C (off := 10) (tgt := 22) (zdg dz_W_takeDigit_0 6 rfl) (by decide) ?_ ?_
    · refine vf_iconst C (z := 0) (zdg dz_W_takeDigit_0 10 rfl) (jz rfl) ?_
      exact hr _ _ _ _ (fun _ => Or.inl rfl) (zdg dz_W_takeDigit_0 11 rfl)
    · refine vf_aload_n C (f := 0) (zdg dz_W_takeDigit_0 7 rfl) 0 rfl rfl ?_
      refine vf_get C (kd := 0) fl_W_31 sh_19 rfl (by decide) rfl rfl (zdg dz_W_takeDigit_0 8 rfl) ?_
      refine vf_if_ne C (off := 5) (tgt := 24) (zdg dz_W_takeDigit_0 9 rfl) (by decide) ?_ ?_
      · refine vf_aload_n C (f := 0) (zdg dz_W_takeDigit_0 12 rfl) 0 rfl rfl ?_
        refine vf_getp C fl_W_15 sh_19 rfl (by decide) rfl (x := 22) rfl (zdg dz_W_takeDigit_0 13 rfl) ?_
        refine vf_aload_n C (f := 0) (zdg dz_W_takeDigit_0 14 rfl) 0 rfl rfl ?_
        refine vf_get C (kd := 0) fl_W_31 sh_19 rfl (by decide) rfl rfl (zdg dz_W_takeDigit_0 15 rfl) ?_
        refine vf_iconst C (z := 1) (zdg dz_W_takeDigit_0 16 rfl) (jz rfl) ?_
        refine vf_isub C (zdg dz_W_takeDigit_0 17 rfl) ?_
        refine vf_aload_n C (f := 0) (zdg dz_W_takeDigit_0 18 rfl) 0 rfl rfl ?_
        refine vf_getp C fl_W_15 sh_19 rfl (by decide) rfl (x := 22) rfl (zdg dz_W_takeDigit_0 19 rfl) ?_
        refine vf_aload_n C (f := 0) (zdg dz_W_takeDigit_0 20 rfl) 0 rfl rfl ?_
        refine vf_get C (kd := 0) fl_W_31 sh_19 rfl (by decide) rfl rfl (zdg dz_W_takeDigit_0 21 rfl) ?_
        refine vf_iconst C (z := 1) (zdg dz_W_takeDigit_0 22 rfl) (jz rfl) ?_
        refine vf_isub C (zdg dz_W_takeDigit_0 23 rfl) ?_
        refine vf_iald C sh_21 (by decide) rfl (mz := 40) rfl (zdg dz_W_takeDigit_1 0 rfl) ?_
        refine vf_bipush C (z := 10) (zdg dz_W_takeDigit_1 1 rfl) (by decide +kernel) (jz rfl) ?_
        refine vf_imul C (zdg dz_W_takeDigit_1 2 rfl) ?_
        refine vf_iload_n C (f := 1) (zdg dz_W_takeDigit_1 3 rfl) 1 rfl rfl ?_
        refine vf_iadd C (zdg dz_W_takeDigit_1 4 rfl) ?_
        refine vf_iast C sh_21 (by decide) rfl (mz := 40) rfl (zdg dz_W_takeDigit_1 5 rfl) ?_
        generalize st w 21 (w32 ((w 19 5) - 1)).toNat ((w32 ((w32 ((w 21 (w32 ((w 19 5) - 1)).toNat) * 10)) + v1))) = u1
        refine vf_uw ?_
        refine vf_aload_n C (f := 0) (zdg dz_W_takeDigit_1 6 rfl) 0 rfl rfl ?_
        refine vf_dup C (zdg dz_W_takeDigit_1 7 rfl) (Nat.succ_ne_self 1) ?_
        refine vf_get C (kd := 0) fl_W_40 sh_19 rfl (by decide) rfl rfl (zdg dz_W_takeDigit_1 8 rfl) ?_
        refine vf_iconst C (z := 1) (zdg dz_W_takeDigit_1 9 rfl) (jz rfl) ?_
        refine vf_iadd C (zdg dz_W_takeDigit_1 10 rfl) ?_
        refine vf_put C (kd := 0) fl_W_40 fk_7_8 sh_19 rfl (by decide) rfl rfl (by decide) (zdg dz_W_takeDigit_1 11 rfl) ?_
        generalize st u1 19 8 (w32 ((u1 19 8) + 1)) = u2
        refine vf_uw ?_
        refine vf_iconst C (z := 1) (zdg dz_W_takeDigit_1 12 rfl) (jz rfl) ?_
        exact hr _ _ _ _ (fun _ => Or.inr rfl) (zdg dz_W_takeDigit_1 13 rfl)
      · refine vf_iconst C (z := 0) (zdg dz_W_takeDigit_0 10 rfl) (jz rfl) ?_
        exact hr _ _ _ _ (fun _ => Or.inl rfl) (zdg dz_W_takeDigit_0 11 rfl)
def f_W_takeBehindThing_127 (v1 v2 s1 s2 : Int) (w : Wd) : Option (Int × Wd) :=
  jlw (st w 19 9 (ior s1 s2)) fun u4 =>
  jcall (f_W_release v2 u4) fun r5 u6 =>
  jcall (f_W_await v1 u6) fun r7 u8 =>
  jlw (st u8 19 10 1) fun u9 =>
  some (1, u9)
theorem t_W_takeBehindThing_127 {X : jX} {Qf : Int × Wd → State → Prop} {ad : Nat → Nat} (C : Cx X prog_12_method_4_code "EachBringsAnother$Wish") (hn : xn X = 3) (hR : xR X = rmD 3) (hr : Rt X Qf ad prog_12_method_4_code 4) (v1 v2 s1 s2 : Int) (w : Wd) : VF X Qf ad NF 0 0 w 127 [(0, (2, 20)), (1, (0, v1)), (2, (0, v2))] [(0, s2), (0, s1), (2, 20)] (f_W_takeBehindThing_127 v1 v2 s1 s2 w) := by
  unfold f_W_takeBehindThing_127
  refine vf_ior C (zdg dz_W_takeBehindThing_3 1 rfl) ?_
  refine vf_put C (kd := 0) fl_W_43 fk_7_9 sh_19 rfl (by decide) rfl rfl (by decide) (zdg dz_W_takeBehindThing_3 2 rfl) ?_
  generalize st w 19 9 (ior s1 s2) = u4
  refine vf_uw ?_
  refine vf_aload_n C (f := 0) (zdg dz_W_takeBehindThing_3 3 rfl) 0 rfl rfl ?_
  refine vf_iload_n C (f := 2) (zdg dz_W_takeBehindThing_3 4 rfl) 2 rfl rfl ?_
  refine vf_callVv C cy_W_release ml_W_61 rfl (ct_W_release _ _) (S := []) sh_19 (by decide) rfl (jrm_of hR rfl) rfl rfl (Nat.le_of_ble_eq_true rfl) (zdg dz_W_takeBehindThing_3 5 rfl) (fun r5 u6 => ?_)
  refine vf_aload_n C (f := 0) (zdg dz_W_takeBehindThing_3 6 rfl) 0 rfl rfl ?_
  refine vf_iload_n C (f := 1) (zdg dz_W_takeBehindThing_3 7 rfl) 1 rfl rfl ?_
  refine vf_callVv C cy_W_await ml_W_71 rfl (ct_W_await _ _) (S := []) sh_19 (by decide) rfl (jrm_of hR rfl) rfl rfl (Nat.le_of_ble_eq_true rfl) (zdg dz_W_takeBehindThing_3 8 rfl) (fun r7 u8 => ?_)
  refine vf_aload_n C (f := 0) (zdg dz_W_takeBehindThing_3 9 rfl) 0 rfl rfl ?_
  refine vf_iconst C (z := 1) (zdg dz_W_takeBehindThing_3 10 rfl) (jz rfl) ?_
  refine vf_putzl C fl_W_46 fk_7_10 sh_19 rfl (by decide) rfl (Or.inr rfl) (zdg dz_W_takeBehindThing_3 11 rfl) ?_
  generalize st u8 19 10 1 = u9
  refine vf_uw ?_
  refine vf_iconst C (z := 1) (zdg dz_W_takeBehindThing_3 12 rfl) (jz rfl) ?_
  exact hr _ _ _ _ (fun _ => Or.inr rfl) (zdg dz_W_takeBehindThing_3 13 rfl)
def f_W_takeBehindThing_107 (v1 v2 : Int) (w : Wd) : Option (Int × Wd) :=
  if v2 = 1 then
    f_W_takeBehindThing_127 v1 v2 (w 19 9) (ishl 1 (w 19 7)) w
  else
    f_W_takeBehindThing_127 v1 v2 (w 19 9) 0 w
theorem t_W_takeBehindThing_107 {X : jX} {Qf : Int × Wd → State → Prop} {ad : Nat → Nat} (C : Cx X prog_12_method_4_code "EachBringsAnother$Wish") (hn : xn X = 3) (hR : xR X = rmD 3) (hr : Rt X Qf ad prog_12_method_4_code 4) (v1 v2 : Int) (w : Wd) : VF X Qf ad NF 0 0 w 107 [(0, (2, 20)), (1, (0, v1)), (2, (0, v2))] [] (f_W_takeBehindThing_107 v1 v2 w) := by
  unfold f_W_takeBehindThing_107
  refine vf_aload_n C (f := 0) (zdg dz_W_takeBehindThing_2 13 rfl) 0 rfl rfl ?_
  refine vf_dup C (zdg dz_W_takeBehindThing_2 14 rfl) (Nat.succ_ne_self 1) ?_
  refine vf_get C (kd := 0) fl_W_43 sh_19 rfl (by decide) rfl rfl (zdg dz_W_takeBehindThing_2 15 rfl) ?_
  refine vf_iload_n C (f := 2) (zdg dz_W_takeBehindThing_2 16 rfl) 2 rfl rfl ?_
  refine vf_iconst C (z := 1) (zdg dz_W_takeBehindThing_2 17 rfl) (jz rfl) ?_
  refine vf_icmp_ne C (off := 12) (tgt := 126) (zdg dz_W_takeBehindThing_2 18 rfl) (by decide) ?_ ?_
  · refine vf_iconst C (z := 0) (zdg dz_W_takeBehindThing_3 0 rfl) (jz rfl) ?_
    exact t_W_takeBehindThing_127 C hn hR hr _ _ _ _ _
  · refine vf_iconst C (z := 1) (zdg dz_W_takeBehindThing_2 19 rfl) (jz rfl) ?_
    refine vf_aload_n C (f := 0) (zdg dz_W_takeBehindThing_2 20 rfl) 0 rfl rfl ?_
    refine vf_get C (kd := 0) fl_W_37 sh_19 rfl (by decide) rfl rfl (zdg dz_W_takeBehindThing_2 21 rfl) ?_
    refine vf_ishl C (zdg dz_W_takeBehindThing_2 22 rfl) ?_
    refine vf_goto C (off := 4) (tgt := 127) (zdg dz_W_takeBehindThing_2 23 rfl) (by decide) ?_
    exact t_W_takeBehindThing_127 C hn hR hr _ _ _ _ _
def f_W_takeBehindThing_77 (v1 : Int) (w : Wd) : Option (Int × Wd) :=
  jcall (f_W_strength v1 w) fun r2 u3 =>
  if r2 = 0 then
    some (0, u3)
  else
    if r2 = 1 then
      if (iand (ishr (u3 19 9) (u3 19 7)) 1) = 0 then
        f_W_takeBehindThing_107 v1 r2 u3
      else
        some (0, u3)
    else
      f_W_takeBehindThing_107 v1 r2 u3
theorem t_W_takeBehindThing_77 {X : jX} {Qf : Int × Wd → State → Prop} {ad : Nat → Nat} (C : Cx X prog_12_method_4_code "EachBringsAnother$Wish") (hn : xn X = 3) (hR : xR X = rmD 3) (hr : Rt X Qf ad prog_12_method_4_code 4) (v1 : Int) (w : Wd) : VF X Qf ad NF 0 0 w 77 [(0, (2, 20)), (1, (0, v1))] [] (f_W_takeBehindThing_77 v1 w) := by
  unfold f_W_takeBehindThing_77
  refine vf_iload_n C (f := 1) (zdg dz_W_takeBehindThing_1 19 rfl) 1 rfl rfl ?_
  refine vf_callSi C cy_W_strength ml_W_83 (ct_W_strength _ _) (S := []) (jrm_of hR rfl) rfl rfl (Nat.le_of_ble_eq_true rfl) (zdg dz_W_takeBehindThing_1 20 rfl) (fun r2 u3 => ?_)
  refine vf_istore_n C (f := 2) (L' := [(0, (2, 20)), (1, (0, v1))]) (zdg dz_W_takeBehindThing_1 21 rfl) [0, 1] (jrI rfl rfl) hn (by decide) rfl ?_
  refine vf_iload_n C (f := 2) (zdg dz_W_takeBehindThing_1 22 rfl) 0 rfl rfl ?_
  refine vf_if_eq C (off := 22) (tgt := 105) (zdg dz_W_takeBehindThing_1 23 rfl) (by decide) ?_ ?_
  · refine vf_iconst C (z := 0) (zdg dz_W_takeBehindThing_2 11 rfl) (jz rfl) ?_
    exact hr _ _ _ _ (fun _ => Or.inl rfl) (zdg dz_W_takeBehindThing_2 12 rfl)
  · refine vf_iload_n C (f := 2) (zdg dz_W_takeBehindThing_2 0 rfl) 0 rfl rfl ?_
    refine vf_iconst C (z := 1) (zdg dz_W_takeBehindThing_2 1 rfl) (jz rfl) ?_
    refine vf_icmp_ne C (off := 19) (tgt := 107) (zdg dz_W_takeBehindThing_2 2 rfl) (by decide) ?_ ?_
    · exact vf_perm [1, 2, 0] rfl (t_W_takeBehindThing_107 C hn hR hr _ _ _)
    · refine vf_aload_n C (f := 0) (zdg dz_W_takeBehindThing_2 3 rfl) 1 rfl rfl ?_
      refine vf_get C (kd := 0) fl_W_43 sh_19 rfl (by decide) rfl rfl (zdg dz_W_takeBehindThing_2 4 rfl) ?_
      refine vf_aload_n C (f := 0) (zdg dz_W_takeBehindThing_2 5 rfl) 1 rfl rfl ?_
      refine vf_get C (kd := 0) fl_W_37 sh_19 rfl (by decide) rfl rfl (zdg dz_W_takeBehindThing_2 6 rfl) ?_
      refine vf_ishr C (zdg dz_W_takeBehindThing_2 7 rfl) ?_
      refine vf_iconst C (z := 1) (zdg dz_W_takeBehindThing_2 8 rfl) (jz rfl) ?_
      refine vf_iand C (zdg dz_W_takeBehindThing_2 9 rfl) ?_
      refine vf_if_eq C (off := 5) (tgt := 107) (zdg dz_W_takeBehindThing_2 10 rfl) (by decide) ?_ ?_
      · exact vf_perm [1, 2, 0] rfl (t_W_takeBehindThing_107 C hn hR hr _ _ _)
      · refine vf_iconst C (z := 0) (zdg dz_W_takeBehindThing_2 11 rfl) (jz rfl) ?_
        exact hr _ _ _ _ (fun _ => Or.inl rfl) (zdg dz_W_takeBehindThing_2 12 rfl)
def f_W_takeBehindThing_71 (s1 s2 : Int) (w : Wd) : Option (Int × Wd) :=
  jlw (st w 19 6 (w32 (s1 - s2))) fun u13 =>
  some (1, u13)
theorem t_W_takeBehindThing_71 {X : jX} {Qf : Int × Wd → State → Prop} {ad : Nat → Nat} (C : Cx X prog_12_method_4_code "EachBringsAnother$Wish") (hn : xn X = 3) (hR : xR X = rmD 3) (hr : Rt X Qf ad prog_12_method_4_code 4) (s1 s2 : Int) (w : Wd) : VF X Qf ad NF 0 0 w 71 [] [(0, s2), (0, s1), (2, 20)] (f_W_takeBehindThing_71 s1 s2 w) := by
  unfold f_W_takeBehindThing_71
  refine vf_isub C (zdg dz_W_takeBehindThing_1 15 rfl) ?_
  refine vf_put C (kd := 0) fl_W_34 fk_7_6 sh_19 rfl (by decide) rfl rfl (by decide) (zdg dz_W_takeBehindThing_1 16 rfl) ?_
  generalize st w 19 6 (w32 (s1 - s2)) = u13
  refine vf_uw ?_
  refine vf_iconst C (z := 1) (zdg dz_W_takeBehindThing_1 17 rfl) (jz rfl) ?_
  exact hr _ _ _ _ (fun _ => Or.inr rfl) (zdg dz_W_takeBehindThing_1 18 rfl)
def f_W_takeBehindThing_21 (v1 : Int) (w : Wd) : Option (Int × Wd) :=
  jlw (st w 19 8 0) fun u1 =>
  if v1 = 41 then
    if (u1 19 7) ≤ 0 then
      f_W_takeBehindThing_77 v1 u1
    else
      jlw (st u1 19 7 (w32 ((u1 19 7) - 1))) fun u10 =>
      jcall (f_W_release 1 u10) fun r11 u12 =>
      if (u12 19 6) ≤ 0 then
        f_W_takeBehindThing_71 (u12 19 6) 0 u12
      else
        f_W_takeBehindThing_71 (u12 19 6) 1 u12
  else
    f_W_takeBehindThing_77 v1 u1
theorem t_W_takeBehindThing_21 {X : jX} {Qf : Int × Wd → State → Prop} {ad : Nat → Nat} (C : Cx X prog_12_method_4_code "EachBringsAnother$Wish") (hn : xn X = 3) (hR : xR X = rmD 3) (hr : Rt X Qf ad prog_12_method_4_code 4) (v1 : Int) (w : Wd) : VF X Qf ad NF 0 0 w 21 [(0, (2, 20)), (1, (0, v1))] [] (f_W_takeBehindThing_21 v1 w) := by
  unfold f_W_takeBehindThing_21
  refine vf_aload_n C (f := 0) (zdg dz_W_takeBehindThing_0 12 rfl) 0 rfl rfl ?_
  refine vf_iconst C (z := 0) (zdg dz_W_takeBehindThing_0 13 rfl) (jz rfl) ?_
  refine vf_put C (kd := 0) fl_W_40 fk_7_8 sh_19 rfl (by decide) rfl rfl (by decide) (zdg dz_W_takeBehindThing_0 14 rfl) ?_
  generalize st w 19 8 0 = u1
  refine vf_uw ?_
  refine vf_iload_n C (f := 1) (zdg dz_W_takeBehindThing_0 15 rfl) 1 rfl rfl ?_
  refine vf_bipush C (z := 41) (zdg dz_W_takeBehindThing_0 16 rfl) (by decide +kernel) (jz rfl) ?_
  refine vf_icmp_ne C (off := 48) (tgt := 77) (zdg dz_W_takeBehindThing_0 17 rfl) (by decide) ?_ ?_
  · exact t_W_takeBehindThing_77 C hn hR hr _ _
  · refine vf_aload_n C (f := 0) (zdg dz_W_takeBehindThing_0 18 rfl) 0 rfl rfl ?_
    refine vf_get C (kd := 0) fl_W_37 sh_19 rfl (by decide) rfl rfl (zdg dz_W_takeBehindThing_0 19 rfl) ?_
    refine vf_if_le C (off := 41) (tgt := 77) (zdg dz_W_takeBehindThing_0 20 rfl) (by decide) ?_ ?_
    · exact t_W_takeBehindThing_77 C hn hR hr _ _
    · refine vf_aload_n C (f := 0) (zdg dz_W_takeBehindThing_0 21 rfl) 0 rfl rfl ?_
      refine vf_dup C (zdg dz_W_takeBehindThing_0 22 rfl) (Nat.succ_ne_self 1) ?_
      refine vf_get C (kd := 0) fl_W_37 sh_19 rfl (by decide) rfl rfl (zdg dz_W_takeBehindThing_0 23 rfl) ?_
      refine vf_iconst C (z := 1) (zdg dz_W_takeBehindThing_1 0 rfl) (jz rfl) ?_
      refine vf_isub C (zdg dz_W_takeBehindThing_1 1 rfl) ?_
      refine vf_put C (kd := 0) fl_W_37 fk_7_7 sh_19 rfl (by decide) rfl rfl (by decide) (zdg dz_W_takeBehindThing_1 2 rfl) ?_
      generalize st u1 19 7 (w32 ((u1 19 7) - 1)) = u10
      refine vf_uw ?_
      refine vf_aload_n C (f := 0) (zdg dz_W_takeBehindThing_1 3 rfl) 0 rfl rfl ?_
      refine vf_iconst C (z := 1) (zdg dz_W_takeBehindThing_1 4 rfl) (jz rfl) ?_
      refine vf_callVv C cy_W_release ml_W_61 rfl (ct_W_release _ _) (S := []) sh_19 (by decide) rfl (jrm_of hR rfl) rfl rfl (Nat.le_of_ble_eq_true rfl) (zdg dz_W_takeBehindThing_1 5 rfl) (fun r11 u12 => ?_)
      refine vf_aload_n C (f := 0) (zdg dz_W_takeBehindThing_1 6 rfl) 0 rfl rfl ?_
      refine vf_dup C (zdg dz_W_takeBehindThing_1 7 rfl) (Nat.succ_ne_self 1) ?_
      refine vf_get C (kd := 0) fl_W_34 sh_19 rfl (by decide) rfl rfl (zdg dz_W_takeBehindThing_1 8 rfl) ?_
      refine vf_aload_n C (f := 0) (zdg dz_W_takeBehindThing_1 9 rfl) 0 rfl rfl ?_
      refine vf_get C (kd := 0) fl_W_34 sh_19 rfl (by decide) rfl rfl (zdg dz_W_takeBehindThing_1 10 rfl) ?_
      refine vf_if_le C (off := 7) (tgt := 70) (zdg dz_W_takeBehindThing_1 11 rfl) (by decide) ?_ ?_
      · refine vf_iconst C (z := 0) (zdg dz_W_takeBehindThing_1 14 rfl) (jz rfl) ?_
        exact vf_perm [] rfl (t_W_takeBehindThing_71 C hn hR hr _ _ _)
      · refine vf_iconst C (z := 1) (zdg dz_W_takeBehindThing_1 12 rfl) (jz rfl) ?_
        refine vf_goto C (off := 4) (tgt := 71) (zdg dz_W_takeBehindThing_1 13 rfl) (by decide) ?_
        exact vf_perm [] rfl (t_W_takeBehindThing_71 C hn hR hr _ _ _)
def f_W_takeBehindThing (v1 : Int) (w : Wd) : Option (Int × Wd) :=
  if v1 < 48 then
    f_W_takeBehindThing_21 v1 w
  else
    if (57 : Int) < v1 then
      f_W_takeBehindThing_21 v1 w
    else
      jcall (f_W_takeDigit (w32 (v1 - 48)) w) fun r14 u15 =>
      if r14 = 0 ∨ r14 = 1 then some (r14, u15) else none
theorem ct_W_takeBehindThing (v1 : Int) (w : Wd) : Ct y_W_takeBehindThing prog_12_method_4_code 3 (some .boolean) 3 4 [(2, 20), (0, v1)] w (f_W_takeBehindThing v1 w) := by
  refine ct_of (by decide +kernel) (Or.inr (Or.inr (Or.inl ⟨rfl, rfl⟩))) (Nat.le_of_ble_eq_true rfl) ?_
  intro X Qf ad C hn hR hr
  unfold f_W_takeBehindThing
  show VF X Qf ad NF 0 0 w 0 [(0, (2, 20)), (1, (0, v1))] [] _
  refine vf_iload_n C (f := 1) (zdg dz_W_takeBehindThing_0 0 rfl) 1 rfl rfl ?_
  refine vf_bipush C (z := 48) (zdg dz_W_takeBehindThing_0 1 rfl) (by decide +kernel) (jz rfl) ?_
  refine vf_icmp_lt C (off := 18) (tgt := 21) (zdg dz_W_takeBehindThing_0 2 rfl) (by decide) ?_ ?_
  · exact t_W_takeBehindThing_21 C hn hR hr _ _
  · refine vf_iload_n C (f := 1) (zdg dz_W_takeBehindThing_0 3 rfl) 1 rfl rfl ?_
    refine vf_bipush C (z := 57) (zdg dz_W_takeBehindThing_0 4 rfl) (by decide +kernel) (jz rfl) ?_
    refine vf_icmp_gt C (off := 12) (tgt := 21) (zdg dz_W_takeBehindThing_0 5 rfl) (by decide) ?_ ?_
    · exact t_W_takeBehindThing_21 C hn hR hr _ _
    · refine vf_aload_n C (f := 0) (zdg dz_W_takeBehindThing_0 6 rfl) 0 rfl rfl ?_
      refine vf_iload_n C (f := 1) (zdg dz_W_takeBehindThing_0 7 rfl) 1 rfl rfl ?_
      refine vf_bipush C (z := 48) (zdg dz_W_takeBehindThing_0 8 rfl) (by decide +kernel) (jz rfl) ?_
      refine vf_isub C (zdg dz_W_takeBehindThing_0 9 rfl) ?_
      refine vf_callVz C cy_W_takeDigit ml_W_80 rfl (ct_W_takeDigit _ _) (S := []) sh_19 (by decide) rfl (jrm_of hR rfl) rfl rfl (Nat.le_of_ble_eq_true rfl) (zdg dz_W_takeBehindThing_0 10 rfl) (fun r14 u15 => ?_)
      refine vf_if _ (fun h => ?_) (fun _ => vf_no)
      exact hr _ _ _ _ (fun _ => h) (zdg dz_W_takeBehindThing_0 11 rfl)
def f_W_isLetter (v0 : Int) (w : Wd) : Option (Int × Wd) :=
  if v0 < 103 ∨ 119 < v0 then
    some (0, w)
  else
  if v0 = 103 then
    some (1, w)
  else
  if v0 = 104 then
    some (0, w)
  else
  if v0 = 105 then
    some (1, w)
  else
  if v0 = 106 then
    some (0, w)
  else
  if v0 = 107 then
    some (1, w)
  else
  if v0 = 108 then
    some (1, w)
  else
  if v0 = 109 then
    some (0, w)
  else
  if v0 = 110 then
    some (1, w)
  else
  if v0 = 111 then
    some (0, w)
  else
  if v0 = 112 then
    some (1, w)
  else
  if v0 = 113 then
    some (0, w)
  else
  if v0 = 114 then
    some (0, w)
  else
  if v0 = 115 then
    some (1, w)
  else
  if v0 = 116 then
    some (0, w)
  else
  if v0 = 117 then
    some (0, w)
  else
  if v0 = 118 then
    some (0, w)
  else
  if v0 = 119 then
    some (1, w)
  else
  none
theorem ct_W_isLetter (v0 : Int) (w : Wd) : Ct y_W_isLetter prog_12_method_6_code 1 (some .boolean) 1 4 [(0, v0)] w (f_W_isLetter v0 w) := by
  refine ct_of (by decide +kernel) (Or.inr (Or.inr (Or.inl ⟨rfl, rfl⟩))) (Nat.le_of_ble_eq_true rfl) ?_
  intro X Qf ad C hn hR hr
  unfold f_W_isLetter
  show VF X Qf ad NF 0 0 w 0 [(0, (0, v0))] [] _
  refine vf_iload_n C (f := 0) (zdg dz_W_isLetter_0 0 rfl) 0 rfl rfl ?_
  refine vf_if _ (fun h => ?_) (fun _ => ?_)
  · refine vf_swd C (dflt := 85) (lo := 103) (hi := 119) (offs := #[83, 85, 83, 85, 83, 83, 85, 83, 85, 83, 85, 85, 83, 85, 85, 85, 83]) (len := 83) (tgt := 86) (by decide +kernel) h (by decide) ?_
    refine vf_iconst C (z := 0) (zdg dz_W_isLetter_0 3 rfl) (jz rfl) ?_
    exact hr _ _ _ _ (fun _ => Or.inl rfl) (zdg dz_W_isLetter_0 4 rfl)
  refine vf_if _ (fun h => ?_) (fun _ => ?_)
  · refine vf_swx C (dflt := 85) (lo := 103) (hi := 119) (offs := #[83, 85, 83, 85, 83, 83, 85, 83, 85, 83, 85, 85, 83, 85, 85, 85, 83]) (len := 83) (z := 103) (off := 83) (tgt := 84) (by decide +kernel) h (by decide) (by decide) rfl (by decide) ?_
    refine vf_iconst C (z := 1) (zdg dz_W_isLetter_0 1 rfl) (jz rfl) ?_
    exact hr _ _ _ _ (fun _ => Or.inr rfl) (zdg dz_W_isLetter_0 2 rfl)
  refine vf_if _ (fun h => ?_) (fun _ => ?_)
  · refine vf_swx C (dflt := 85) (lo := 103) (hi := 119) (offs := #[83, 85, 83, 85, 83, 83, 85, 83, 85, 83, 85, 85, 83, 85, 85, 85, 83]) (len := 83) (z := 104) (off := 85) (tgt := 86) (by decide +kernel) h (by decide) (by decide) rfl (by decide) ?_
    refine vf_iconst C (z := 0) (zdg dz_W_isLetter_0 3 rfl) (jz rfl) ?_
    exact hr _ _ _ _ (fun _ => Or.inl rfl) (zdg dz_W_isLetter_0 4 rfl)
  refine vf_if _ (fun h => ?_) (fun _ => ?_)
  · refine vf_swx C (dflt := 85) (lo := 103) (hi := 119) (offs := #[83, 85, 83, 85, 83, 83, 85, 83, 85, 83, 85, 85, 83, 85, 85, 85, 83]) (len := 83) (z := 105) (off := 83) (tgt := 84) (by decide +kernel) h (by decide) (by decide) rfl (by decide) ?_
    refine vf_iconst C (z := 1) (zdg dz_W_isLetter_0 1 rfl) (jz rfl) ?_
    exact hr _ _ _ _ (fun _ => Or.inr rfl) (zdg dz_W_isLetter_0 2 rfl)
  refine vf_if _ (fun h => ?_) (fun _ => ?_)
  · refine vf_swx C (dflt := 85) (lo := 103) (hi := 119) (offs := #[83, 85, 83, 85, 83, 83, 85, 83, 85, 83, 85, 85, 83, 85, 85, 85, 83]) (len := 83) (z := 106) (off := 85) (tgt := 86) (by decide +kernel) h (by decide) (by decide) rfl (by decide) ?_
    refine vf_iconst C (z := 0) (zdg dz_W_isLetter_0 3 rfl) (jz rfl) ?_
    exact hr _ _ _ _ (fun _ => Or.inl rfl) (zdg dz_W_isLetter_0 4 rfl)
  refine vf_if _ (fun h => ?_) (fun _ => ?_)
  · refine vf_swx C (dflt := 85) (lo := 103) (hi := 119) (offs := #[83, 85, 83, 85, 83, 83, 85, 83, 85, 83, 85, 85, 83, 85, 85, 85, 83]) (len := 83) (z := 107) (off := 83) (tgt := 84) (by decide +kernel) h (by decide) (by decide) rfl (by decide) ?_
    refine vf_iconst C (z := 1) (zdg dz_W_isLetter_0 1 rfl) (jz rfl) ?_
    exact hr _ _ _ _ (fun _ => Or.inr rfl) (zdg dz_W_isLetter_0 2 rfl)
  refine vf_if _ (fun h => ?_) (fun _ => ?_)
  · refine vf_swx C (dflt := 85) (lo := 103) (hi := 119) (offs := #[83, 85, 83, 85, 83, 83, 85, 83, 85, 83, 85, 85, 83, 85, 85, 85, 83]) (len := 83) (z := 108) (off := 83) (tgt := 84) (by decide +kernel) h (by decide) (by decide) rfl (by decide) ?_
    refine vf_iconst C (z := 1) (zdg dz_W_isLetter_0 1 rfl) (jz rfl) ?_
    exact hr _ _ _ _ (fun _ => Or.inr rfl) (zdg dz_W_isLetter_0 2 rfl)
  refine vf_if _ (fun h => ?_) (fun _ => ?_)
  · refine vf_swx C (dflt := 85) (lo := 103) (hi := 119) (offs := #[83, 85, 83, 85, 83, 83, 85, 83, 85, 83, 85, 85, 83, 85, 85, 85, 83]) (len := 83) (z := 109) (off := 85) (tgt := 86) (by decide +kernel) h (by decide) (by decide) rfl (by decide) ?_
    refine vf_iconst C (z := 0) (zdg dz_W_isLetter_0 3 rfl) (jz rfl) ?_
    exact hr _ _ _ _ (fun _ => Or.inl rfl) (zdg dz_W_isLetter_0 4 rfl)
  refine vf_if _ (fun h => ?_) (fun _ => ?_)
  · refine vf_swx C (dflt := 85) (lo := 103) (hi := 119) (offs := #[83, 85, 83, 85, 83, 83, 85, 83, 85, 83, 85, 85, 83, 85, 85, 85, 83]) (len := 83) (z := 110) (off := 83) (tgt := 84) (by decide +kernel) h (by decide) (by decide) rfl (by decide) ?_
    refine vf_iconst C (z := 1) (zdg dz_W_isLetter_0 1 rfl) (jz rfl) ?_
    exact hr _ _ _ _ (fun _ => Or.inr rfl) (zdg dz_W_isLetter_0 2 rfl)
  refine vf_if _ (fun h => ?_) (fun _ => ?_)
  · refine vf_swx C (dflt := 85) (lo := 103) (hi := 119) (offs := #[83, 85, 83, 85, 83, 83, 85, 83, 85, 83, 85, 85, 83, 85, 85, 85, 83]) (len := 83) (z := 111) (off := 85) (tgt := 86) (by decide +kernel) h (by decide) (by decide) rfl (by decide) ?_
    refine vf_iconst C (z := 0) (zdg dz_W_isLetter_0 3 rfl) (jz rfl) ?_
    exact hr _ _ _ _ (fun _ => Or.inl rfl) (zdg dz_W_isLetter_0 4 rfl)
  refine vf_if _ (fun h => ?_) (fun _ => ?_)
  · refine vf_swx C (dflt := 85) (lo := 103) (hi := 119) (offs := #[83, 85, 83, 85, 83, 83, 85, 83, 85, 83, 85, 85, 83, 85, 85, 85, 83]) (len := 83) (z := 112) (off := 83) (tgt := 84) (by decide +kernel) h (by decide) (by decide) rfl (by decide) ?_
    refine vf_iconst C (z := 1) (zdg dz_W_isLetter_0 1 rfl) (jz rfl) ?_
    exact hr _ _ _ _ (fun _ => Or.inr rfl) (zdg dz_W_isLetter_0 2 rfl)
  refine vf_if _ (fun h => ?_) (fun _ => ?_)
  · refine vf_swx C (dflt := 85) (lo := 103) (hi := 119) (offs := #[83, 85, 83, 85, 83, 83, 85, 83, 85, 83, 85, 85, 83, 85, 85, 85, 83]) (len := 83) (z := 113) (off := 85) (tgt := 86) (by decide +kernel) h (by decide) (by decide) rfl (by decide) ?_
    refine vf_iconst C (z := 0) (zdg dz_W_isLetter_0 3 rfl) (jz rfl) ?_
    exact hr _ _ _ _ (fun _ => Or.inl rfl) (zdg dz_W_isLetter_0 4 rfl)
  refine vf_if _ (fun h => ?_) (fun _ => ?_)
  · refine vf_swx C (dflt := 85) (lo := 103) (hi := 119) (offs := #[83, 85, 83, 85, 83, 83, 85, 83, 85, 83, 85, 85, 83, 85, 85, 85, 83]) (len := 83) (z := 114) (off := 85) (tgt := 86) (by decide +kernel) h (by decide) (by decide) rfl (by decide) ?_
    refine vf_iconst C (z := 0) (zdg dz_W_isLetter_0 3 rfl) (jz rfl) ?_
    exact hr _ _ _ _ (fun _ => Or.inl rfl) (zdg dz_W_isLetter_0 4 rfl)
  refine vf_if _ (fun h => ?_) (fun _ => ?_)
  · refine vf_swx C (dflt := 85) (lo := 103) (hi := 119) (offs := #[83, 85, 83, 85, 83, 83, 85, 83, 85, 83, 85, 85, 83, 85, 85, 85, 83]) (len := 83) (z := 115) (off := 83) (tgt := 84) (by decide +kernel) h (by decide) (by decide) rfl (by decide) ?_
    refine vf_iconst C (z := 1) (zdg dz_W_isLetter_0 1 rfl) (jz rfl) ?_
    exact hr _ _ _ _ (fun _ => Or.inr rfl) (zdg dz_W_isLetter_0 2 rfl)
  refine vf_if _ (fun h => ?_) (fun _ => ?_)
  · refine vf_swx C (dflt := 85) (lo := 103) (hi := 119) (offs := #[83, 85, 83, 85, 83, 83, 85, 83, 85, 83, 85, 85, 83, 85, 85, 85, 83]) (len := 83) (z := 116) (off := 85) (tgt := 86) (by decide +kernel) h (by decide) (by decide) rfl (by decide) ?_
    refine vf_iconst C (z := 0) (zdg dz_W_isLetter_0 3 rfl) (jz rfl) ?_
    exact hr _ _ _ _ (fun _ => Or.inl rfl) (zdg dz_W_isLetter_0 4 rfl)
  refine vf_if _ (fun h => ?_) (fun _ => ?_)
  · refine vf_swx C (dflt := 85) (lo := 103) (hi := 119) (offs := #[83, 85, 83, 85, 83, 83, 85, 83, 85, 83, 85, 85, 83, 85, 85, 85, 83]) (len := 83) (z := 117) (off := 85) (tgt := 86) (by decide +kernel) h (by decide) (by decide) rfl (by decide) ?_
    refine vf_iconst C (z := 0) (zdg dz_W_isLetter_0 3 rfl) (jz rfl) ?_
    exact hr _ _ _ _ (fun _ => Or.inl rfl) (zdg dz_W_isLetter_0 4 rfl)
  refine vf_if _ (fun h => ?_) (fun _ => ?_)
  · refine vf_swx C (dflt := 85) (lo := 103) (hi := 119) (offs := #[83, 85, 83, 85, 83, 83, 85, 83, 85, 83, 85, 85, 83, 85, 85, 85, 83]) (len := 83) (z := 118) (off := 85) (tgt := 86) (by decide +kernel) h (by decide) (by decide) rfl (by decide) ?_
    refine vf_iconst C (z := 0) (zdg dz_W_isLetter_0 3 rfl) (jz rfl) ?_
    exact hr _ _ _ _ (fun _ => Or.inl rfl) (zdg dz_W_isLetter_0 4 rfl)
  refine vf_if _ (fun h => ?_) (fun _ => ?_)
  · refine vf_swx C (dflt := 85) (lo := 103) (hi := 119) (offs := #[83, 85, 83, 85, 83, 83, 85, 83, 85, 83, 85, 85, 83, 85, 85, 85, 83]) (len := 83) (z := 119) (off := 83) (tgt := 84) (by decide +kernel) h (by decide) (by decide) rfl (by decide) ?_
    refine vf_iconst C (z := 1) (zdg dz_W_isLetter_0 1 rfl) (jz rfl) ?_
    exact hr _ _ _ _ (fun _ => Or.inr rfl) (zdg dz_W_isLetter_0 2 rfl)
  exact vf_no
def f_W_takeThing_121 (s1 : Int) (w : Wd) : Option (Int × Wd) :=
  jlw (st w 19 8 s1) fun u3 =>
  jlw (st u3 19 10 0) fun u4 =>
  some (1, u4)
theorem t_W_takeThing_121 {X : jX} {Qf : Int × Wd → State → Prop} {ad : Nat → Nat} (C : Cx X prog_12_method_3_code "EachBringsAnother$Wish") (hn : xn X = 3) (hR : xR X = rmD 2) (hr : Rt X Qf ad prog_12_method_3_code 4) (s1 : Int) (w : Wd) : VF X Qf ad NF 0 0 w 121 [(0, (2, 20))] [(0, s1), (2, 20)] (f_W_takeThing_121 s1 w) := by
  unfold f_W_takeThing_121
  refine vf_put C (kd := 0) fl_W_40 fk_7_8 sh_19 rfl (by decide) rfl rfl (by decide) (zdg dz_W_takeThing_2 22 rfl) ?_
  generalize st w 19 8 s1 = u3
  refine vf_uw ?_
  refine vf_aload_n C (f := 0) (zdg dz_W_takeThing_2 23 rfl) 0 rfl rfl ?_
  refine vf_iconst C (z := 0) (zdg dz_W_takeThing_3 0 rfl) (jz rfl) ?_
  refine vf_putzl C fl_W_46 fk_7_10 sh_19 rfl (by decide) rfl (Or.inl rfl) (zdg dz_W_takeThing_3 1 rfl) ?_
  generalize st u3 19 10 0 = u4
  refine vf_uw ?_
  refine vf_iconst C (z := 1) (zdg dz_W_takeThing_3 2 rfl) (jz rfl) ?_
  exact hr _ _ _ _ (fun _ => Or.inr rfl) (zdg dz_W_takeThing_3 3 rfl)
def f_W_takeThing_108 (v2 s1 : Int) (w : Wd) : Option (Int × Wd) :=
  jcall (f_W_write s1 w) fun r1 u2 =>
  if v2 = 0 then
    f_W_takeThing_121 0 u2
  else
    f_W_takeThing_121 1 u2
theorem t_W_takeThing_108 {X : jX} {Qf : Int × Wd → State → Prop} {ad : Nat → Nat} (C : Cx X prog_12_method_3_code "EachBringsAnother$Wish") (hn : xn X = 3) (hR : xR X = rmD 2) (hr : Rt X Qf ad prog_12_method_3_code 4) (v2 s1 : Int) (w : Wd) : VF X Qf ad NF 0 0 w 108 [(0, (2, 20)), (2, (0, v2))] [(0, s1), (2, 20)] (f_W_takeThing_108 v2 s1 w) := by
  unfold f_W_takeThing_108
  refine vf_callVv C cy_W_write ml_W_77 rfl (ct_W_write _ _) (S := []) sh_19 (by decide) rfl (jrm_of hR rfl) rfl rfl (Nat.le_of_ble_eq_true rfl) (zdg dz_W_takeThing_2 15 rfl) (fun r1 u2 => ?_)
  refine vf_aload_n C (f := 0) (zdg dz_W_takeThing_2 16 rfl) 0 rfl rfl ?_
  refine vf_iload_n C (f := 2) (zdg dz_W_takeThing_2 17 rfl) 1 rfl rfl ?_
  refine vf_if_eq C (off := 7) (tgt := 120) (zdg dz_W_takeThing_2 18 rfl) (by decide) ?_ ?_
  · refine vf_iconst C (z := 0) (zdg dz_W_takeThing_2 21 rfl) (jz rfl) ?_
    exact vf_perm [0] rfl (t_W_takeThing_121 C hn hR hr _ _)
  · refine vf_iconst C (z := 1) (zdg dz_W_takeThing_2 19 rfl) (jz rfl) ?_
    refine vf_goto C (off := 4) (tgt := 121) (zdg dz_W_takeThing_2 20 rfl) (by decide) ?_
    exact vf_perm [0] rfl (t_W_takeThing_121 C hn hR hr _ _)
def f_W_takeThing_94 (v1 v2 : Int) (w : Wd) : Option (Int × Wd) :=
  if v2 = 0 then
    f_W_takeThing_108 v2 (w32 (-v1)) w
  else
    f_W_takeThing_108 v2 (w32 (v1 - 48)) w
theorem t_W_takeThing_94 {X : jX} {Qf : Int × Wd → State → Prop} {ad : Nat → Nat} (C : Cx X prog_12_method_3_code "EachBringsAnother$Wish") (hn : xn X = 3) (hR : xR X = rmD 2) (hr : Rt X Qf ad prog_12_method_3_code 4) (v1 v2 : Int) (w : Wd) : VF X Qf ad NF 0 0 w 94 [(0, (2, 20)), (1, (0, v1)), (2, (0, v2))] [] (f_W_takeThing_94 v1 v2 w) := by
  unfold f_W_takeThing_94
  refine vf_aload_n C (f := 0) (zdg dz_W_takeThing_2 6 rfl) 0 rfl rfl ?_
  refine vf_iload_n C (f := 2) (zdg dz_W_takeThing_2 7 rfl) 2 rfl rfl ?_
  refine vf_if_eq C (off := 10) (tgt := 106) (zdg dz_W_takeThing_2 8 rfl) (by decide) ?_ ?_
  · refine vf_iload_n C (f := 1) (zdg dz_W_takeThing_2 13 rfl) 1 rfl rfl ?_
    refine vf_ineg C (zdg dz_W_takeThing_2 14 rfl) ?_
    exact vf_perm [0, 2] rfl (t_W_takeThing_108 C hn hR hr _ _ _)
  · refine vf_iload_n C (f := 1) (zdg dz_W_takeThing_2 9 rfl) 1 rfl rfl ?_
    refine vf_bipush C (z := 48) (zdg dz_W_takeThing_2 10 rfl) (by decide +kernel) (jz rfl) ?_
    refine vf_isub C (zdg dz_W_takeThing_2 11 rfl) ?_
    refine vf_goto C (off := 5) (tgt := 108) (zdg dz_W_takeThing_2 12 rfl) (by decide) ?_
    exact vf_perm [0, 2] rfl (t_W_takeThing_108 C hn hR hr _ _ _)
def f_W_takeThing_80 (v1 s0 : Int) (w : Wd) : Option (Int × Wd) :=
  if s0 = 0 then
    jcall (f_W_isLetter v1 w) fun r5 u6 =>
    if r5 = 0 then
      some (0, u6)
    else
      f_W_takeThing_94 v1 s0 u6
  else
    f_W_takeThing_94 v1 s0 w
theorem t_W_takeThing_80 {X : jX} {Qf : Int × Wd → State → Prop} {ad : Nat → Nat} (C : Cx X prog_12_method_3_code "EachBringsAnother$Wish") (hn : xn X = 3) (hR : xR X = rmD 2) (hr : Rt X Qf ad prog_12_method_3_code 4) (v1 s0 : Int) (w : Wd) : VF X Qf ad NF 0 0 w 80 [(0, (2, 20)), (1, (0, v1))] [(0, s0)] (f_W_takeThing_80 v1 s0 w) := by
  unfold f_W_takeThing_80
  refine vf_istore_n C (f := 2) (L' := [(0, (2, 20)), (1, (0, v1))]) (zdg dz_W_takeThing_1 22 rfl) [0, 1] (jrI rfl rfl) hn (by decide) rfl ?_
  refine vf_iload_n C (f := 2) (zdg dz_W_takeThing_1 23 rfl) 0 rfl rfl ?_
  refine vf_if_ne C (off := 12) (tgt := 94) (zdg dz_W_takeThing_2 0 rfl) (by decide) ?_ ?_
  · exact vf_perm [1, 2, 0] rfl (t_W_takeThing_94 C hn hR hr _ _ _)
  · refine vf_iload_n C (f := 1) (zdg dz_W_takeThing_2 1 rfl) 2 rfl rfl ?_
    refine vf_callSz C cy_W_isLetter ml_W_74 (ct_W_isLetter _ _) (S := []) (jrm_of hR rfl) rfl rfl (Nat.le_of_ble_eq_true rfl) (zdg dz_W_takeThing_2 2 rfl) (fun r5 u6 => ?_)
    refine vf_if_ne C (off := 5) (tgt := 94) (zdg dz_W_takeThing_2 3 rfl) (by decide) ?_ ?_
    · exact vf_perm [1, 2, 0] rfl (t_W_takeThing_94 C hn hR hr _ _ _)
    · refine vf_iconst C (z := 0) (zdg dz_W_takeThing_2 4 rfl) (jz rfl) ?_
      exact hr _ _ _ _ (fun _ => Or.inl rfl) (zdg dz_W_takeThing_2 5 rfl)
def f_W_takeThing_79 (v1 : Int) (w : Wd) : Option (Int × Wd) :=
  f_W_takeThing_80 v1 0 w
theorem t_W_takeThing_79 {X : jX} {Qf : Int × Wd → State → Prop} {ad : Nat → Nat} (C : Cx X prog_12_method_3_code "EachBringsAnother$Wish") (hn : xn X = 3) (hR : xR X = rmD 2) (hr : Rt X Qf ad prog_12_method_3_code 4) (v1 : Int) (w : Wd) : VF X Qf ad NF 0 0 w 79 [(0, (2, 20)), (1, (0, v1))] [] (f_W_takeThing_79 v1 w) := by
  unfold f_W_takeThing_79
  refine vf_iconst C (z := 0) (zdg dz_W_takeThing_1 21 rfl) (jz rfl) ?_
  exact t_W_takeThing_80 C hn hR hr _ _ _
def f_W_takeThing_63 (v1 : Int) (w : Wd) : Option (Int × Wd) :=
  if v1 < 48 then
    f_W_takeThing_79 v1 w
  else
    if (57 : Int) < v1 then
      f_W_takeThing_79 v1 w
    else
      f_W_takeThing_80 v1 1 w
theorem t_W_takeThing_63 {X : jX} {Qf : Int × Wd → State → Prop} {ad : Nat → Nat} (C : Cx X prog_12_method_3_code "EachBringsAnother$Wish") (hn : xn X = 3) (hR : xR X = rmD 2) (hr : Rt X Qf ad prog_12_method_3_code 4) (v1 : Int) (w : Wd) : VF X Qf ad NF 0 0 w 63 [(0, (2, 20)), (1, (0, v1))] [] (f_W_takeThing_63 v1 w) := by
  unfold f_W_takeThing_63
  refine vf_iload_n C (f := 1) (zdg dz_W_takeThing_1 13 rfl) 1 rfl rfl ?_
  refine vf_bipush C (z := 48) (zdg dz_W_takeThing_1 14 rfl) (by decide +kernel) (jz rfl) ?_
  refine vf_icmp_lt C (off := 13) (tgt := 79) (zdg dz_W_takeThing_1 15 rfl) (by decide) ?_ ?_
  · exact t_W_takeThing_79 C hn hR hr _ _
  · refine vf_iload_n C (f := 1) (zdg dz_W_takeThing_1 16 rfl) 1 rfl rfl ?_
    refine vf_bipush C (z := 57) (zdg dz_W_takeThing_1 17 rfl) (by decide +kernel) (jz rfl) ?_
    refine vf_icmp_gt C (off := 7) (tgt := 79) (zdg dz_W_takeThing_1 18 rfl) (by decide) ?_ ?_
    · exact t_W_takeThing_79 C hn hR hr _ _
    · refine vf_iconst C (z := 1) (zdg dz_W_takeThing_1 19 rfl) (jz rfl) ?_
      refine vf_goto C (off := 4) (tgt := 80) (zdg dz_W_takeThing_1 20 rfl) (by decide) ?_
      exact t_W_takeThing_80 C hn hR hr _ _ _
def f_W_takeThing (v1 : Int) (w : Wd) : Option (Int × Wd) :=
  if v1 = 45 then
    jcall (f_W_await 256 w) fun r11 u12 =>
    some (1, u12)
  else
    if v1 = 40 then
      if (4 : Int) ≤ (w 19 7) then
        f_W_takeThing_63 v1 w
      else
        jlw (st w 19 7 (w32 ((w 19 7) + 1))) fun u7 =>
        jlw (st u7 19 9 (iand (u7 19 9) (ixor (ishl 1 (u7 19 7)) (-1)))) fun u8 =>
        jcall (f_W_await v1 u8) fun r9 u10 =>
        some (1, u10)
    else
      f_W_takeThing_63 v1 w
theorem ct_W_takeThing (v1 : Int) (w : Wd) : Ct y_W_takeThing prog_12_method_3_code 3 (some .boolean) 2 4 [(2, 20), (0, v1)] w (f_W_takeThing v1 w) := by
  refine ct_of (by decide +kernel) (Or.inr (Or.inr (Or.inl ⟨rfl, rfl⟩))) (Nat.le_of_ble_eq_true rfl) ?_
  intro X Qf ad C hn hR hr
  unfold f_W_takeThing
  show VF X Qf ad NF 0 0 w 0 [(0, (2, 20)), (1, (0, v1))] [] _
  refine vf_iload_n C (f := 1) (zdg dz_W_takeThing_0 0 rfl) 1 rfl rfl ?_
  refine vf_bipush C (z := 45) (zdg dz_W_takeThing_0 1 rfl) (by decide +kernel) (jz rfl) ?_
  refine vf_icmp_ne C (off := 12) (tgt := 15) (zdg dz_W_takeThing_0 2 rfl) (by decide) ?_ ?_
  · refine vf_iload_n C (f := 1) (zdg dz_W_takeThing_0 8 rfl) 1 rfl rfl ?_
    refine vf_bipush C (z := 40) (zdg dz_W_takeThing_0 9 rfl) (by decide +kernel) (jz rfl) ?_
    refine vf_icmp_ne C (off := 45) (tgt := 63) (zdg dz_W_takeThing_0 10 rfl) (by decide) ?_ ?_
    · exact t_W_takeThing_63 C hn hR hr _ _
    · refine vf_aload_n C (f := 0) (zdg dz_W_takeThing_0 11 rfl) 0 rfl rfl ?_
      refine vf_get C (kd := 0) fl_W_37 sh_19 rfl (by decide) rfl rfl (zdg dz_W_takeThing_0 12 rfl) ?_
      refine vf_iconst C (z := 4) (zdg dz_W_takeThing_0 13 rfl) (jz rfl) ?_
      refine vf_icmp_ge C (off := 37) (tgt := 63) (zdg dz_W_takeThing_0 14 rfl) (by decide) ?_ ?_
      · exact t_W_takeThing_63 C hn hR hr _ _
      · refine vf_aload_n C (f := 0) (zdg dz_W_takeThing_0 15 rfl) 0 rfl rfl ?_
        refine vf_dup C (zdg dz_W_takeThing_0 16 rfl) (Nat.succ_ne_self 1) ?_
        refine vf_get C (kd := 0) fl_W_37 sh_19 rfl (by decide) rfl rfl (zdg dz_W_takeThing_0 17 rfl) ?_
        refine vf_iconst C (z := 1) (zdg dz_W_takeThing_0 18 rfl) (jz rfl) ?_
        refine vf_iadd C (zdg dz_W_takeThing_0 19 rfl) ?_
        refine vf_put C (kd := 0) fl_W_37 fk_7_7 sh_19 rfl (by decide) rfl rfl (by decide) (zdg dz_W_takeThing_0 20 rfl) ?_
        generalize st w 19 7 (w32 ((w 19 7) + 1)) = u7
        refine vf_uw ?_
        refine vf_aload_n C (f := 0) (zdg dz_W_takeThing_0 21 rfl) 0 rfl rfl ?_
        refine vf_dup C (zdg dz_W_takeThing_0 22 rfl) (Nat.succ_ne_self 1) ?_
        refine vf_get C (kd := 0) fl_W_43 sh_19 rfl (by decide) rfl rfl (zdg dz_W_takeThing_0 23 rfl) ?_
        refine vf_iconst C (z := 1) (zdg dz_W_takeThing_1 0 rfl) (jz rfl) ?_
        refine vf_aload_n C (f := 0) (zdg dz_W_takeThing_1 1 rfl) 0 rfl rfl ?_
        refine vf_get C (kd := 0) fl_W_37 sh_19 rfl (by decide) rfl rfl (zdg dz_W_takeThing_1 2 rfl) ?_
        refine vf_ishl C (zdg dz_W_takeThing_1 3 rfl) ?_
        refine vf_iconst C (z := (-1)) (zdg dz_W_takeThing_1 4 rfl) (jz rfl) ?_
        refine vf_ixor C (zdg dz_W_takeThing_1 5 rfl) ?_
        refine vf_iand C (zdg dz_W_takeThing_1 6 rfl) ?_
        refine vf_put C (kd := 0) fl_W_43 fk_7_9 sh_19 rfl (by decide) rfl rfl (by decide) (zdg dz_W_takeThing_1 7 rfl) ?_
        generalize st u7 19 9 (iand (u7 19 9) (ixor (ishl 1 (u7 19 7)) (-1))) = u8
        refine vf_uw ?_
        refine vf_aload_n C (f := 0) (zdg dz_W_takeThing_1 8 rfl) 0 rfl rfl ?_
        refine vf_iload_n C (f := 1) (zdg dz_W_takeThing_1 9 rfl) 1 rfl rfl ?_
        refine vf_callVv C cy_W_await ml_W_71 rfl (ct_W_await _ _) (S := []) sh_19 (by decide) rfl (jrm_of hR rfl) rfl rfl (Nat.le_of_ble_eq_true rfl) (zdg dz_W_takeThing_1 10 rfl) (fun r9 u10 => ?_)
        refine vf_iconst C (z := 1) (zdg dz_W_takeThing_1 11 rfl) (jz rfl) ?_
        exact hr _ _ _ _ (fun _ => Or.inr rfl) (zdg dz_W_takeThing_1 12 rfl)
  · refine vf_aload_n C (f := 0) (zdg dz_W_takeThing_0 3 rfl) 0 rfl rfl ?_
    refine vf_sipush C (z := 256) (zdg dz_W_takeThing_0 4 rfl) (by decide +kernel) (jz rfl) ?_
    refine vf_callVv C cy_W_await ml_W_71 rfl (ct_W_await _ _) (S := []) sh_19 (by decide) rfl (jrm_of hR rfl) rfl rfl (Nat.le_of_ble_eq_true rfl) (zdg dz_W_takeThing_0 5 rfl) (fun r11 u12 => ?_)
    refine vf_iconst C (z := 1) (zdg dz_W_takeThing_0 6 rfl) (jz rfl) ?_
    exact hr _ _ _ _ (fun _ => Or.inr rfl) (zdg dz_W_takeThing_0 7 rfl)
def f_W_read_112 (w : Wd) : Option (Int × Wd) :=
  some (w32 ((-1) - (w 1 1)), w)
theorem t_W_read_112 {X : jX} {Qf : Int × Wd → State → Prop} {ad : Nat → Nat} (C : Cx X prog_12_method_2_code "EachBringsAnother$Wish") (hn : xn X = 4) (hR : xR X = rmD 4) (hr : Rt X Qf ad prog_12_method_2_code 0) (w : Wd) : VF X Qf ad NF 0 0 w 112 [(1, (2, 2))] [] (f_W_read_112 w) := by
  unfold f_W_read_112
  refine vf_iconst C (z := (-1)) (zdg dz_W_read_2 13 rfl) (jz rfl) ?_
  refine vf_aload_n C (f := 1) (zdg dz_W_read_2 14 rfl) 0 rfl rfl ?_
  refine vf_get C (kd := 0) fl_W_24 sh_1 rfl (by decide) rfl rfl (zdg dz_W_read_2 15 rfl) ?_
  refine vf_isub C (zdg dz_W_read_2 16 rfl) ?_
  exact hr _ _ _ _ (fun h => absurd h (by decide)) (zdg dz_W_read_2 17 rfl)
def f_W_read_92 (k46 : Int → Wd → Option (Int × Wd)) (v2 : Int) (w : Wd) : Option (Int × Wd) :=
  jlet (w32 (v2 + 1)) fun x15 =>
  k46 x15 w
theorem t_W_read_92 {X : jX} {Qf : Int × Wd → State → Prop} {ad : Nat → Nat} (C : Cx X prog_12_method_2_code "EachBringsAnother$Wish") (hn : xn X = 4) (hR : xR X = rmD 4) (hr : Rt X Qf ad prog_12_method_2_code 0) {k46 : Int → Wd → Option (Int × Wd)} (hk46 : ∀ (v2 : Int) (w : Wd), VF X Qf ad NF 0 0 w 46 [(0, (2, 20)), (1, (2, 2)), (2, (0, v2))] [] (k46 v2 w)) (v2 : Int) (w : Wd) : VF X Qf ad NF 0 0 w 92 [(0, (2, 20)), (1, (2, 2)), (2, (0, v2))] [] (f_W_read_92 k46 v2 w) := by
  unfold f_W_read_92
  refine vf_iinc C (z := 1) (L' := [(0, (2, 20)), (1, (2, 2))]) (zdg dz_W_read_2 5 rfl) 2 rfl [0, 1] (jrI rfl rfl) hn (by decide) ?_
  generalize w32 (v2 + 1) = x15
  refine vf_ul ?_
  refine vf_goto C (off := (-49)) (tgt := 46) (zdg dz_W_read_2 6 rfl) (by decide) ?_
  exact vf_perm [1, 2, 0] rfl (hk46 _ _)
def f_W_read_88 (v2 : Int) (w : Wd) : Option (Int × Wd) :=
  some (w32 ((-1) - v2), w)
theorem t_W_read_88 {X : jX} {Qf : Int × Wd → State → Prop} {ad : Nat → Nat} (C : Cx X prog_12_method_2_code "EachBringsAnother$Wish") (hn : xn X = 4) (hR : xR X = rmD 4) (hr : Rt X Qf ad prog_12_method_2_code 0) (v2 : Int) (w : Wd) : VF X Qf ad NF 0 0 w 88 [(2, (0, v2))] [] (f_W_read_88 v2 w) := by
  unfold f_W_read_88
  refine vf_iconst C (z := (-1)) (zdg dz_W_read_2 1 rfl) (jz rfl) ?_
  refine vf_iload_n C (f := 2) (zdg dz_W_read_2 2 rfl) 0 rfl rfl ?_
  refine vf_isub C (zdg dz_W_read_2 3 rfl) ?_
  exact hr _ _ _ _ (fun h => absurd h (by decide)) (zdg dz_W_read_2 4 rfl)
def f_W_read_46 : Nat → Int → Wd → Option (Int × Wd)
  | 0, _, _ => none
  | n + 1, v2, w =>
    if (w 1 1) ≤ v2 then
      if (w 19 10) = 0 then
        if (w 19 7) ≤ 0 then
          jcall (f_W_release 1 w) fun r7 u8 =>
          jgd ((0 : Int) ≤ (0 : Int) ∧ (0 : Int) ≤ (0 : Int) ∧ (0 : Int) ≤ (u8 19 5) ∧ (0 : Int) + (u8 19 5) ≤ 40 ∧ (0 : Int) + (u8 19 5) ≤ 40) <|
          jlw (cpy u8 21 20 0 0 (u8 19 5)) fun u9 =>
          jlw (st u9 19 4 (u9 19 5)) fun u10 =>
          some (0, u10)
        else
          f_W_read_112 w
      else
        f_W_read_112 w
    else
      jcall (f_T_signAt v2 40 w) fun r11 u12 =>
      if (u12 19 10) = 0 then
        jcall (f_W_takeBehindThing r11 u12) fun r13 u14 =>
        if r13 = 0 then
          f_W_read_88 v2 u14
        else
          f_W_read_92 (f_W_read_46 n) v2 u14
      else
        jcall (f_W_takeThing r11 u12) fun r16 u17 =>
        if r16 = 0 then
          f_W_read_88 v2 u17
        else
          f_W_read_92 (f_W_read_46 n) v2 u17
theorem t_W_read_46 {X : jX} {Qf : Int × Wd → State → Prop} {ad : Nat → Nat} (C : Cx X prog_12_method_2_code "EachBringsAnother$Wish") (hn : xn X = 4) (hR : xR X = rmD 4) (hr : Rt X Qf ad prog_12_method_2_code 0) : ∀ (n : Nat) (v2 : Int) (w : Wd), VF X Qf ad NF 0 0 w 46 [(0, (2, 20)), (1, (2, 2)), (2, (0, v2))] [] (f_W_read_46 n v2 w) := by
  intro n
  induction n with
  | zero => intros; exact vf_no
  | succ n ih =>
    intro v2 w
    rw [f_W_read_46]
    refine vf_iload_n C (f := 2) (zdg dz_W_read_1 4 rfl) 2 rfl rfl ?_
    refine vf_aload_n C (f := 1) (zdg dz_W_read_1 5 rfl) 1 rfl rfl ?_
    refine vf_get C (kd := 0) fl_W_24 sh_1 rfl (by decide) rfl rfl (zdg dz_W_read_1 6 rfl) ?_
    refine vf_icmp_ge C (off := 47) (tgt := 98) (zdg dz_W_read_1 7 rfl) (by decide) ?_ ?_
    · refine vf_aload_n C (f := 0) (zdg dz_W_read_2 7 rfl) 0 rfl rfl ?_
      refine vf_get C (kd := 0) fl_W_46 sh_19 rfl (by decide) rfl rfl (zdg dz_W_read_2 8 rfl) ?_
      refine vf_if_ne C (off := 10) (tgt := 112) (zdg dz_W_read_2 9 rfl) (by decide) ?_ ?_
      · exact vf_perm [1] rfl (t_W_read_112 C hn hR hr _)
      · refine vf_aload_n C (f := 0) (zdg dz_W_read_2 10 rfl) 0 rfl rfl ?_
        refine vf_get C (kd := 0) fl_W_37 sh_19 rfl (by decide) rfl rfl (zdg dz_W_read_2 11 rfl) ?_
        refine vf_if_le C (off := 10) (tgt := 119) (zdg dz_W_read_2 12 rfl) (by decide) ?_ ?_
        · refine vf_aload_n C (f := 0) (zdg dz_W_read_2 18 rfl) 0 rfl rfl ?_
          refine vf_iconst C (z := 1) (zdg dz_W_read_2 19 rfl) (jz rfl) ?_
          refine vf_callVv C cy_W_release ml_W_61 rfl (ct_W_release _ _) (S := []) sh_19 (by decide) rfl (jrm_of hR rfl) rfl rfl (Nat.le_of_ble_eq_true rfl) (zdg dz_W_read_2 20 rfl) (fun r7 u8 => ?_)
          refine vf_aload_n C (f := 0) (zdg dz_W_read_2 21 rfl) 0 rfl rfl ?_
          refine vf_getp C fl_W_15 sh_19 rfl (by decide) rfl (x := 22) rfl (zdg dz_W_read_2 22 rfl) ?_
          refine vf_iconst C (z := 0) (zdg dz_W_read_2 23 rfl) (jz rfl) ?_
          refine vf_aload_n C (f := 0) (zdg dz_W_read_3 0 rfl) 0 rfl rfl ?_
          refine vf_getp C fl_W_9 sh_19 rfl (by decide) rfl (x := 21) rfl (zdg dz_W_read_3 1 rfl) ?_
          refine vf_iconst C (z := 0) (zdg dz_W_read_3 2 rfl) (jz rfl) ?_
          refine vf_aload_n C (f := 0) (zdg dz_W_read_3 3 rfl) 0 rfl rfl ?_
          refine vf_get C (kd := 0) fl_W_31 sh_19 rfl (by decide) rfl rfl (zdg dz_W_read_3 4 rfl) ?_
          refine vf_copy C ml_W_65 sh_21 sh_20 (by decide) (by decide) (by decide) rfl rfl rfl rfl (jrm_n hR (by decide)) (Nat.le_of_ble_eq_true rfl) (by decide +kernel) ?_
          generalize cpy u8 21 20 0 0 (u8 19 5) = u9
          refine vf_uw ?_
          refine vf_aload_n C (f := 0) (zdg dz_W_read_3 6 rfl) 0 rfl rfl ?_
          refine vf_aload_n C (f := 0) (zdg dz_W_read_3 7 rfl) 0 rfl rfl ?_
          refine vf_get C (kd := 0) fl_W_31 sh_19 rfl (by decide) rfl rfl (zdg dz_W_read_3 8 rfl) ?_
          refine vf_put C (kd := 0) fl_W_30 fk_7_4 sh_19 rfl (by decide) rfl rfl (by decide) (zdg dz_W_read_3 9 rfl) ?_
          generalize st u9 19 4 (u9 19 5) = u10
          refine vf_uw ?_
          refine vf_iconst C (z := 0) (zdg dz_W_read_3 10 rfl) (jz rfl) ?_
          exact hr _ _ _ _ (fun h => absurd h (by decide)) (zdg dz_W_read_3 11 rfl)
        · exact vf_perm [1] rfl (t_W_read_112 C hn hR hr _)
    · refine vf_aload_n C (f := 1) (zdg dz_W_read_1 8 rfl) 1 rfl rfl ?_
      refine vf_iload_n C (f := 2) (zdg dz_W_read_1 9 rfl) 2 rfl rfl ?_
      refine vf_bipush C (z := 40) (zdg dz_W_read_1 10 rfl) (by decide +kernel) (jz rfl) ?_
      refine vf_callVi C cy_T_signAt ml_W_50 rfl (ct_T_signAt _ _ _) (S := []) sh_1 (by decide) rfl (jrm_of hR rfl) rfl rfl (Nat.le_of_ble_eq_true rfl) (zdg dz_W_read_1 11 rfl) (fun r11 u12 => ?_)
      refine vf_istore_n C (f := 3) (L' := [(0, (2, 20)), (1, (2, 2)), (2, (0, v2))]) (zdg dz_W_read_1 12 rfl) [0, 1, 2] (jrI rfl rfl) hn (by decide) rfl ?_
      refine vf_aload_n C (f := 0) (zdg dz_W_read_1 13 rfl) 1 rfl rfl ?_
      refine vf_get C (kd := 0) fl_W_46 sh_19 rfl (by decide) rfl rfl (zdg dz_W_read_1 14 rfl) ?_
      refine vf_if_eq C (off := 14) (tgt := 80) (zdg dz_W_read_1 15 rfl) (by decide) ?_ ?_
      · refine vf_aload_n C (f := 0) (zdg dz_W_read_1 21 rfl) 1 rfl rfl ?_
        refine vf_iload_n C (f := 3) (zdg dz_W_read_1 22 rfl) 0 rfl rfl ?_
        refine vf_callVz C cy_W_takeBehindThing ml_W_58 rfl (ct_W_takeBehindThing _ _) (S := []) sh_19 (by decide) rfl (jrm_of hR rfl) rfl rfl (Nat.le_of_ble_eq_true rfl) (zdg dz_W_read_1 23 rfl) (fun r13 u14 => ?_)
        refine vf_if_ne C (off := 7) (tgt := 92) (zdg dz_W_read_2 0 rfl) (by decide) ?_ ?_
        · exact vf_perm [1, 2, 3] rfl (t_W_read_92 C hn hR hr ih _ _)
        · exact vf_perm [3] rfl (t_W_read_88 C hn hR hr _ _)
      · refine vf_aload_n C (f := 0) (zdg dz_W_read_1 16 rfl) 1 rfl rfl ?_
        refine vf_iload_n C (f := 3) (zdg dz_W_read_1 17 rfl) 0 rfl rfl ?_
        refine vf_callVz C cy_W_takeThing ml_W_54 rfl (ct_W_takeThing _ _) (S := []) sh_19 (by decide) rfl (jrm_of hR rfl) rfl rfl (Nat.le_of_ble_eq_true rfl) (zdg dz_W_read_1 18 rfl) (fun r16 u17 => ?_)
        refine vf_if_eq C (off := 14) (tgt := 88) (zdg dz_W_read_1 19 rfl) (by decide) ?_ ?_
        · exact vf_perm [3] rfl (t_W_read_88 C hn hR hr _ _)
        · refine vf_goto C (off := 15) (tgt := 92) (zdg dz_W_read_1 20 rfl) (by decide) ?_
          exact vf_perm [1, 2, 3] rfl (t_W_read_92 C hn hR hr ih _ _)
def f_W_read (w : Wd) : Option (Int × Wd) :=
  if (w 1 1) = 0 then
    jlw (st w 19 4 0) fun u18 =>
    some (0, u18)
  else
    jlw (st w 19 5 0) fun u1 =>
    jlw (st u1 19 6 0) fun u2 =>
    jlw (st u2 19 7 0) fun u3 =>
    jlw (st u3 19 8 0) fun u4 =>
    jlw (st u4 19 9 0) fun u5 =>
    jlw (st u5 19 10 1) fun u6 =>
    f_W_read_46 FU 0 u6
theorem ct_W_read (w : Wd) : Ct y_W_read prog_12_method_2_code 4 (some .int) 4 0 [(2, 20), (2, 2)] w (f_W_read w) := by
  refine ct_of (by decide +kernel) (Or.inl ⟨rfl, rfl⟩) (Nat.le_of_ble_eq_true rfl) ?_
  intro X Qf ad C hn hR hr
  unfold f_W_read
  show VF X Qf ad NF 0 0 w 0 [(0, (2, 20)), (1, (2, 2))] [] _
  refine vf_aload_n C (f := 1) (zdg dz_W_read_0 0 rfl) 1 rfl rfl ?_
  refine vf_get C (kd := 0) fl_W_24 sh_1 rfl (by decide) rfl rfl (zdg dz_W_read_0 1 rfl) ?_
  refine vf_if_ne C (off := 10) (tgt := 14) (zdg dz_W_read_0 2 rfl) (by decide) ?_ ?_
  · refine vf_aload_n C (f := 0) (zdg dz_W_read_0 8 rfl) 0 rfl rfl ?_
    refine vf_iconst C (z := 0) (zdg dz_W_read_0 9 rfl) (jz rfl) ?_
    refine vf_put C (kd := 0) fl_W_31 fk_7_5 sh_19 rfl (by decide) rfl rfl (by decide) (zdg dz_W_read_0 10 rfl) ?_
    generalize st w 19 5 0 = u1
    refine vf_uw ?_
    refine vf_aload_n C (f := 0) (zdg dz_W_read_0 11 rfl) 0 rfl rfl ?_
    refine vf_iconst C (z := 0) (zdg dz_W_read_0 12 rfl) (jz rfl) ?_
    refine vf_put C (kd := 0) fl_W_34 fk_7_6 sh_19 rfl (by decide) rfl rfl (by decide) (zdg dz_W_read_0 13 rfl) ?_
    generalize st u1 19 6 0 = u2
    refine vf_uw ?_
    refine vf_aload_n C (f := 0) (zdg dz_W_read_0 14 rfl) 0 rfl rfl ?_
    refine vf_iconst C (z := 0) (zdg dz_W_read_0 15 rfl) (jz rfl) ?_
    refine vf_put C (kd := 0) fl_W_37 fk_7_7 sh_19 rfl (by decide) rfl rfl (by decide) (zdg dz_W_read_0 16 rfl) ?_
    generalize st u2 19 7 0 = u3
    refine vf_uw ?_
    refine vf_aload_n C (f := 0) (zdg dz_W_read_0 17 rfl) 0 rfl rfl ?_
    refine vf_iconst C (z := 0) (zdg dz_W_read_0 18 rfl) (jz rfl) ?_
    refine vf_put C (kd := 0) fl_W_40 fk_7_8 sh_19 rfl (by decide) rfl rfl (by decide) (zdg dz_W_read_0 19 rfl) ?_
    generalize st u3 19 8 0 = u4
    refine vf_uw ?_
    refine vf_aload_n C (f := 0) (zdg dz_W_read_0 20 rfl) 0 rfl rfl ?_
    refine vf_iconst C (z := 0) (zdg dz_W_read_0 21 rfl) (jz rfl) ?_
    refine vf_put C (kd := 0) fl_W_43 fk_7_9 sh_19 rfl (by decide) rfl rfl (by decide) (zdg dz_W_read_0 22 rfl) ?_
    generalize st u4 19 9 0 = u5
    refine vf_uw ?_
    refine vf_aload_n C (f := 0) (zdg dz_W_read_0 23 rfl) 0 rfl rfl ?_
    refine vf_iconst C (z := 1) (zdg dz_W_read_1 0 rfl) (jz rfl) ?_
    refine vf_putzl C fl_W_46 fk_7_10 sh_19 rfl (by decide) rfl (Or.inr rfl) (zdg dz_W_read_1 1 rfl) ?_
    generalize st u5 19 10 1 = u6
    refine vf_uw ?_
    refine vf_iconst C (z := 0) (zdg dz_W_read_1 2 rfl) (jz rfl) ?_
    refine vf_istore_n C (f := 2) (L' := [(0, (2, 20)), (1, (2, 2))]) (zdg dz_W_read_1 3 rfl) [0, 1] (jrI rfl rfl) hn (by decide) rfl ?_
    exact vf_perm [1, 2, 0] rfl (t_W_read_46 C hn hR hr FU _ _)
  · refine vf_aload_n C (f := 0) (zdg dz_W_read_0 3 rfl) 0 rfl rfl ?_
    refine vf_iconst C (z := 0) (zdg dz_W_read_0 4 rfl) (jz rfl) ?_
    refine vf_put C (kd := 0) fl_W_30 fk_7_4 sh_19 rfl (by decide) rfl rfl (by decide) (zdg dz_W_read_0 5 rfl) ?_
    generalize st w 19 4 0 = u18
    refine vf_uw ?_
    refine vf_iconst C (z := 0) (zdg dz_W_read_0 6 rfl) (jz rfl) ?_
    exact hr _ _ _ _ (fun h => absurd h (by decide)) (zdg dz_W_read_0 7 rfl)
def f_E_rule (w : Wd) : Option (Int × Wd) :=
  jcall (f_W_read w) fun r1 u2 =>
  jcall (f_T_clear u2) fun r3 u4 =>
  some (r1, u4)
theorem ct_E_rule (w : Wd) : Ct y_E_rule prog_1_method_5_code 2 (some .int) 5 0 [(2, 1)] w (f_E_rule w) := by
  refine ct_of (by decide +kernel) (Or.inl ⟨rfl, rfl⟩) (Nat.le_of_ble_eq_true rfl) ?_
  intro X Qf ad C hn hR hr
  unfold f_E_rule
  show VF X Qf ad NF 0 0 w 0 [(0, (2, 1))] [] _
  refine vf_aload_n C (f := 0) (zdg dz_E_rule_0 0 rfl) 0 rfl rfl ?_
  refine vf_getp C fl_E_54 sh_0 rfl (by decide) rfl (x := 20) rfl (zdg dz_E_rule_0 1 rfl) ?_
  refine vf_aload_n C (f := 0) (zdg dz_E_rule_0 2 rfl) 0 rfl rfl ?_
  refine vf_getp C fl_E_12 sh_0 rfl (by decide) rfl (x := 2) rfl (zdg dz_E_rule_0 3 rfl) ?_
  refine vf_callVi C cy_W_read ml_E_105 rfl (ct_W_read _) (S := []) sh_19 (by decide) rfl (jrm_of hR rfl) rfl rfl (Nat.le_of_ble_eq_true rfl) (zdg dz_E_rule_0 4 rfl) (fun r1 u2 => ?_)
  refine vf_istore_n C (f := 1) (L' := [(0, (2, 1))]) (zdg dz_E_rule_0 5 rfl) [0] (jrI rfl rfl) hn (by decide) rfl ?_
  refine vf_aload_n C (f := 0) (zdg dz_E_rule_0 6 rfl) 1 rfl rfl ?_
  refine vf_getp C fl_E_12 sh_0 rfl (by decide) rfl (x := 2) rfl (zdg dz_E_rule_0 7 rfl) ?_
  refine vf_callVv C cy_T_clear ml_E_95 rfl (ct_T_clear _) (S := []) sh_1 (by decide) rfl (jrm_of hR rfl) rfl rfl (Nat.le_of_ble_eq_true rfl) (zdg dz_E_rule_0 8 rfl) (fun r3 u4 => ?_)
  refine vf_iload_n C (f := 1) (zdg dz_E_rule_0 9 rfl) 0 rfl rfl ?_
  exact hr _ _ _ _ (fun h => absurd h (by decide)) (zdg dz_E_rule_0 10 rfl)
def f_F_isThere (v1 : Int) (w : Wd) : Option (Int × Wd) :=
  if v1 < 0 then
    some (0, w)
  else
    if (w 5 3) ≤ v1 then
      some (0, w)
    else
      some (1, w)
theorem ct_F_isThere (v1 : Int) (w : Wd) : Ct y_F_isThere prog_3_method_2_code 2 (some .boolean) 1 4 [(2, 6), (0, v1)] w (f_F_isThere v1 w) := by
  refine ct_of (by decide +kernel) (Or.inr (Or.inr (Or.inl ⟨rfl, rfl⟩))) (Nat.le_of_ble_eq_true rfl) ?_
  intro X Qf ad C hn hR hr
  unfold f_F_isThere
  show VF X Qf ad NF 0 0 w 0 [(0, (2, 6)), (1, (0, v1))] [] _
  refine vf_iload_n C (f := 1) (zdg dz_F_isThere_0 0 rfl) 1 rfl rfl ?_
  refine vf_if_lt C (off := 15) (tgt := 16) (zdg dz_F_isThere_0 1 rfl) (by decide) ?_ ?_
  · refine vf_iconst C (z := 0) (zdg dz_F_isThere_0 8 rfl) (jz rfl) ?_
    exact hr _ _ _ _ (fun _ => Or.inl rfl) (zdg dz_F_isThere_0 9 rfl)
  · refine vf_iload_n C (f := 1) (zdg dz_F_isThere_0 2 rfl) 1 rfl rfl ?_
    refine vf_aload_n C (f := 0) (zdg dz_F_isThere_0 3 rfl) 0 rfl rfl ?_
    refine vf_get C (kd := 0) fl_F_28 sh_5 rfl (by decide) rfl rfl (zdg dz_F_isThere_0 4 rfl) ?_
    refine vf_icmp_ge C (off := 7) (tgt := 16) (zdg dz_F_isThere_0 5 rfl) (by decide) ?_ ?_
    · refine vf_iconst C (z := 0) (zdg dz_F_isThere_0 8 rfl) (jz rfl) ?_
      exact hr _ _ _ _ (fun _ => Or.inl rfl) (zdg dz_F_isThere_0 9 rfl)
    · refine vf_iconst C (z := 1) (zdg dz_F_isThere_0 6 rfl) (jz rfl) ?_
      refine vf_goto C (off := 4) (tgt := 17) (zdg dz_F_isThere_0 7 rfl) (by decide) ?_
      exact hr _ _ _ _ (fun _ => Or.inr rfl) (zdg dz_F_isThere_0 9 rfl)
def f_F_everybody (w : Wd) : Option (Int × Wd) :=
  some (w32 ((ishl 1 (w 5 3)) - 1), w)
theorem ct_F_everybody (w : Wd) : Ct y_F_everybody prog_3_method_3_code 1 (some .int) 1 0 [(2, 6)] w (f_F_everybody w) := by
  refine ct_of (by decide +kernel) (Or.inl ⟨rfl, rfl⟩) (Nat.le_of_ble_eq_true rfl) ?_
  intro X Qf ad C hn hR hr
  unfold f_F_everybody
  show VF X Qf ad NF 0 0 w 0 [(0, (2, 6))] [] _
  refine vf_iconst C (z := 1) (zdg dz_F_everybody_0 0 rfl) (jz rfl) ?_
  refine vf_aload_n C (f := 0) (zdg dz_F_everybody_0 1 rfl) 0 rfl rfl ?_
  refine vf_get C (kd := 0) fl_F_28 sh_5 rfl (by decide) rfl rfl (zdg dz_F_everybody_0 2 rfl) ?_
  refine vf_ishl C (zdg dz_F_everybody_0 3 rfl) ?_
  refine vf_iconst C (z := 1) (zdg dz_F_everybody_0 4 rfl) (jz rfl) ?_
  refine vf_isub C (zdg dz_F_everybody_0 5 rfl) ?_
  exact hr _ _ _ _ (fun h => absurd h (by decide)) (zdg dz_F_everybody_0 6 rfl)
def f_O_known (v0 : Int) (w : Wd) : Option (Int × Wd) :=
  some (iand (ior (ior v0 (ishr v0 10)) (ishr v0 20)) 1023, w)
theorem ct_O_known (v0 : Int) (w : Wd) : Ct y_O_known prog_11_method_4_code 1 (some .int) 1 0 [(0, v0)] w (f_O_known v0 w) := by
  refine ct_of (by decide +kernel) (Or.inl ⟨rfl, rfl⟩) (Nat.le_of_ble_eq_true rfl) ?_
  intro X Qf ad C hn hR hr
  unfold f_O_known
  show VF X Qf ad NF 0 0 w 0 [(0, (0, v0))] [] _
  refine vf_iload_n C (f := 0) (zdg dz_O_known_0 0 rfl) 0 rfl rfl ?_
  refine vf_iload_n C (f := 0) (zdg dz_O_known_0 1 rfl) 0 rfl rfl ?_
  refine vf_bipush C (z := 10) (zdg dz_O_known_0 2 rfl) (by decide +kernel) (jz rfl) ?_
  refine vf_ishr C (zdg dz_O_known_0 3 rfl) ?_
  refine vf_ior C (zdg dz_O_known_0 4 rfl) ?_
  refine vf_iload_n C (f := 0) (zdg dz_O_known_0 5 rfl) 0 rfl rfl ?_
  refine vf_bipush C (z := 20) (zdg dz_O_known_0 6 rfl) (by decide +kernel) (jz rfl) ?_
  refine vf_ishr C (zdg dz_O_known_0 7 rfl) ?_
  refine vf_ior C (zdg dz_O_known_0 8 rfl) ?_
  refine vf_sipush C (z := 1023) (zdg dz_O_known_0 9 rfl) (by decide +kernel) (jz rfl) ?_
  refine vf_iand C (zdg dz_O_known_0 10 rfl) ?_
  exact hr _ _ _ _ (fun h => absurd h (by decide)) (zdg dz_O_known_0 11 rfl)
def f_F_strangers (w : Wd) : Option (Int × Wd) :=
  jcall (f_F_everybody w) fun r1 u2 =>
  jcall (f_O_known (u2 5 4) u2) fun r3 u4 =>
  some (iand r1 (ixor r3 (-1)), u4)
theorem ct_F_strangers (w : Wd) : Ct y_F_strangers prog_3_method_5_code 1 (some .int) 2 0 [(2, 6)] w (f_F_strangers w) := by
  refine ct_of (by decide +kernel) (Or.inl ⟨rfl, rfl⟩) (Nat.le_of_ble_eq_true rfl) ?_
  intro X Qf ad C hn hR hr
  unfold f_F_strangers
  show VF X Qf ad NF 0 0 w 0 [(0, (2, 6))] [] _
  refine vf_aload_n C (f := 0) (zdg dz_F_strangers_0 0 rfl) 0 rfl rfl ?_
  refine vf_callVi C cy_F_everybody ml_F_40 rfl (ct_F_everybody _) (S := []) sh_5 (by decide) rfl (jrm_of hR rfl) rfl rfl (Nat.le_of_ble_eq_true rfl) (zdg dz_F_strangers_0 1 rfl) (fun r1 u2 => ?_)
  refine vf_aload_n C (f := 0) (zdg dz_F_strangers_0 2 rfl) 0 rfl rfl ?_
  refine vf_get C (kd := 0) fl_F_31 sh_5 rfl (by decide) rfl rfl (zdg dz_F_strangers_0 3 rfl) ?_
  refine vf_callSi C cy_O_known ml_F_44 (ct_O_known _ _) (S := [(0, r1)]) (jrm_of hR rfl) rfl rfl (Nat.le_of_ble_eq_true rfl) (zdg dz_F_strangers_0 4 rfl) (fun r3 u4 => ?_)
  refine vf_iconst C (z := (-1)) (zdg dz_F_strangers_0 5 rfl) (jz rfl) ?_
  refine vf_ixor C (zdg dz_F_strangers_0 6 rfl) ?_
  refine vf_iand C (zdg dz_F_strangers_0 7 rfl) ?_
  exact hr _ _ _ _ (fun h => absurd h (by decide)) (zdg dz_F_strangers_0 8 rfl)
def f_O_late (v0 v1 : Int) (w : Wd) : Option (Int × Wd) :=
  jcall (f_O_guests v0 w) fun r1 u2 =>
  jcall (f_E_has r1 v1 u2) fun r3 u4 =>
  if r3 = 0 then
    some ((-1), u4)
  else
    some (w32 ((w32 ((iand (ishr v0 v1) 1) + (w32 (2 * (iand (ishr v0 (w32 (10 + v1))) 1))))) - 1), u4)
theorem ct_O_late (v0 v1 : Int) (w : Wd) : Ct y_O_late prog_11_method_5_code 2 (some .int) 2 0 [(0, v0), (0, v1)] w (f_O_late v0 v1 w) := by
  refine ct_of (by decide +kernel) (Or.inl ⟨rfl, rfl⟩) (Nat.le_of_ble_eq_true rfl) ?_
  intro X Qf ad C hn hR hr
  unfold f_O_late
  show VF X Qf ad NF 0 0 w 0 [(0, (0, v0)), (1, (0, v1))] [] _
  refine vf_iload_n C (f := 0) (zdg dz_O_late_0 0 rfl) 0 rfl rfl ?_
  refine vf_callSi C cy_O_guests ml_O_9 (ct_O_guests _ _) (S := []) (jrm_of hR rfl) rfl rfl (Nat.le_of_ble_eq_true rfl) (zdg dz_O_late_0 1 rfl) (fun r1 u2 => ?_)
  refine vf_iload_n C (f := 1) (zdg dz_O_late_0 2 rfl) 1 rfl rfl ?_
  refine vf_callSz C cy_E_has ml_O_15 (ct_E_has _ _ _) (S := []) (jrm_of hR rfl) rfl rfl (Nat.le_of_ble_eq_true rfl) (zdg dz_O_late_0 3 rfl) (fun r3 u4 => ?_)
  refine vf_if_eq C (off := 24) (tgt := 32) (zdg dz_O_late_0 4 rfl) (by decide) ?_ ?_
  · refine vf_iconst C (z := (-1)) (zdg dz_O_late_0 23 rfl) (jz rfl) ?_
    exact hr _ _ _ _ (fun h => absurd h (by decide)) (zdg dz_O_late_1 0 rfl)
  · refine vf_iload_n C (f := 0) (zdg dz_O_late_0 5 rfl) 0 rfl rfl ?_
    refine vf_iload_n C (f := 1) (zdg dz_O_late_0 6 rfl) 1 rfl rfl ?_
    refine vf_ishr C (zdg dz_O_late_0 7 rfl) ?_
    refine vf_iconst C (z := 1) (zdg dz_O_late_0 8 rfl) (jz rfl) ?_
    refine vf_iand C (zdg dz_O_late_0 9 rfl) ?_
    refine vf_iconst C (z := 2) (zdg dz_O_late_0 10 rfl) (jz rfl) ?_
    refine vf_iload_n C (f := 0) (zdg dz_O_late_0 11 rfl) 0 rfl rfl ?_
    refine vf_bipush C (z := 10) (zdg dz_O_late_0 12 rfl) (by decide +kernel) (jz rfl) ?_
    refine vf_iload_n C (f := 1) (zdg dz_O_late_0 13 rfl) 1 rfl rfl ?_
    refine vf_iadd C (zdg dz_O_late_0 14 rfl) ?_
    refine vf_ishr C (zdg dz_O_late_0 15 rfl) ?_
    refine vf_iconst C (z := 1) (zdg dz_O_late_0 16 rfl) (jz rfl) ?_
    refine vf_iand C (zdg dz_O_late_0 17 rfl) ?_
    refine vf_imul C (zdg dz_O_late_0 18 rfl) ?_
    refine vf_iadd C (zdg dz_O_late_0 19 rfl) ?_
    refine vf_iconst C (z := 1) (zdg dz_O_late_0 20 rfl) (jz rfl) ?_
    refine vf_isub C (zdg dz_O_late_0 21 rfl) ?_
    refine vf_goto C (off := 4) (tgt := 33) (zdg dz_O_late_0 22 rfl) (by decide) ?_
    exact hr _ _ _ _ (fun h => absurd h (by decide)) (zdg dz_O_late_1 0 rfl)
def f_D_guestsBehind (v1 : Int) (w : Wd) : Option (Int × Wd) :=
  jcall (f_D_isOne v1 w) fun r1 u2 =>
  if r1 = 0 then
    some (0, u2)
  else
    jgd ((0 : Int) ≤ v1 ∧ v1 < 61) <|
    some (u2 16 v1.toNat, u2)
theorem ct_D_guestsBehind (v1 : Int) (w : Wd) : Ct y_D_guestsBehind prog_2_method_3_code 2 (some .int) 2 0 [(2, 16), (0, v1)] w (f_D_guestsBehind v1 w) := by
  refine ct_of (by decide +kernel) (Or.inl ⟨rfl, rfl⟩) (Nat.le_of_ble_eq_true rfl) ?_
  intro X Qf ad C hn hR hr
  unfold f_D_guestsBehind
  show VF X Qf ad NF 0 0 w 0 [(0, (2, 16)), (1, (0, v1))] [] _
  refine vf_aload_n C (f := 0) (zdg dz_D_guestsBehind_0 0 rfl) 0 rfl rfl ?_
  refine vf_iload_n C (f := 1) (zdg dz_D_guestsBehind_0 1 rfl) 1 rfl rfl ?_
  refine vf_callVz C cy_D_isOne ml_D_25 rfl (ct_D_isOne _ _) (S := []) sh_15 (by decide) rfl (jrm_of hR rfl) rfl rfl (Nat.le_of_ble_eq_true rfl) (zdg dz_D_guestsBehind_0 2 rfl) (fun r1 u2 => ?_)
  refine vf_if_eq C (off := 12) (tgt := 17) (zdg dz_D_guestsBehind_0 3 rfl) (by decide) ?_ ?_
  · refine vf_iconst C (z := 0) (zdg dz_D_guestsBehind_0 9 rfl) (jz rfl) ?_
    exact hr _ _ _ _ (fun h => absurd h (by decide)) (zdg dz_D_guestsBehind_0 10 rfl)
  · refine vf_aload_n C (f := 0) (zdg dz_D_guestsBehind_0 4 rfl) 0 rfl rfl ?_
    refine vf_getp C fl_D_9 sh_15 rfl (by decide) rfl (x := 17) rfl (zdg dz_D_guestsBehind_0 5 rfl) ?_
    refine vf_iload_n C (f := 1) (zdg dz_D_guestsBehind_0 6 rfl) 1 rfl rfl ?_
    refine vf_iald C sh_16 (by decide) rfl (mz := 61) rfl (zdg dz_D_guestsBehind_0 7 rfl) ?_
    refine vf_goto C (off := 4) (tgt := 18) (zdg dz_D_guestsBehind_0 8 rfl) (by decide) ?_
    exact hr _ _ _ _ (fun h => absurd h (by decide)) (zdg dz_D_guestsBehind_0 10 rfl)
def f_D_firstWeekOf_2 : Nat → Int → Int → Wd → Option (Int × Wd)
  | 0, _, _, _ => none
  | n + 1, v1, v2, w =>
    if (w 15 3) < v2 then
      some ((-1), w)
    else
      jcall (f_D_guestsBehind v2 w) fun r1 u2 =>
      jcall (f_E_has r1 v1 u2) fun r3 u4 =>
      if r3 = 0 then
        jlet (w32 (v2 + 1)) fun x5 =>
        f_D_firstWeekOf_2 n v1 x5 u4
      else
        some (v2, u4)
theorem t_D_firstWeekOf_2 {X : jX} {Qf : Int × Wd → State → Prop} {ad : Nat → Nat} (C : Cx X prog_2_method_4_code "EachBringsAnother$Diary") (hn : xn X = 3) (hR : xR X = rmD 3) (hr : Rt X Qf ad prog_2_method_4_code 0) : ∀ (n : Nat) (v1 v2 : Int) (w : Wd), VF X Qf ad NF 0 0 w 2 [(0, (2, 16)), (1, (0, v1)), (2, (0, v2))] [] (f_D_firstWeekOf_2 n v1 v2 w) := by
  intro n
  induction n with
  | zero => intros; exact vf_no
  | succ n ih =>
    intro v1 v2 w
    rw [f_D_firstWeekOf_2]
    refine vf_iload_n C (f := 2) (zdg dz_D_firstWeekOf_0 2 rfl) 2 rfl rfl ?_
    refine vf_aload_n C (f := 0) (zdg dz_D_firstWeekOf_0 3 rfl) 0 rfl rfl ?_
    refine vf_get C (kd := 0) fl_D_21 sh_15 rfl (by decide) rfl rfl (zdg dz_D_firstWeekOf_0 4 rfl) ?_
    refine vf_icmp_gt C (off := 23) (tgt := 30) (zdg dz_D_firstWeekOf_0 5 rfl) (by decide) ?_ ?_
    · refine vf_iconst C (z := (-1)) (zdg dz_D_firstWeekOf_0 16 rfl) (jz rfl) ?_
      exact hr _ _ _ _ (fun h => absurd h (by decide)) (zdg dz_D_firstWeekOf_0 17 rfl)
    · refine vf_aload_n C (f := 0) (zdg dz_D_firstWeekOf_0 6 rfl) 0 rfl rfl ?_
      refine vf_iload_n C (f := 2) (zdg dz_D_firstWeekOf_0 7 rfl) 2 rfl rfl ?_
      refine vf_callVi C cy_D_guestsBehind ml_D_29 rfl (ct_D_guestsBehind _ _) (S := []) sh_15 (by decide) rfl (jrm_of hR rfl) rfl rfl (Nat.le_of_ble_eq_true rfl) (zdg dz_D_firstWeekOf_0 8 rfl) (fun r1 u2 => ?_)
      refine vf_iload_n C (f := 1) (zdg dz_D_firstWeekOf_0 9 rfl) 1 rfl rfl ?_
      refine vf_callSz C cy_E_has ml_D_33 (ct_E_has _ _ _) (S := []) (jrm_of hR rfl) rfl rfl (Nat.le_of_ble_eq_true rfl) (zdg dz_D_firstWeekOf_0 10 rfl) (fun r3 u4 => ?_)
      refine vf_if_eq C (off := 5) (tgt := 24) (zdg dz_D_firstWeekOf_0 11 rfl) (by decide) ?_ ?_
      · refine vf_iinc C (z := 1) (L' := [(0, (2, 16)), (1, (0, v1))]) (zdg dz_D_firstWeekOf_0 14 rfl) 2 rfl [0, 1] (jrI rfl rfl) hn (by decide) ?_
        generalize w32 (v2 + 1) = x5
        refine vf_ul ?_
        refine vf_goto C (off := (-25)) (tgt := 2) (zdg dz_D_firstWeekOf_0 15 rfl) (by decide) ?_
        exact vf_perm [1, 2, 0] rfl (ih _ _ _)
      · refine vf_iload_n C (f := 2) (zdg dz_D_firstWeekOf_0 12 rfl) 2 rfl rfl ?_
        exact hr _ _ _ _ (fun h => absurd h (by decide)) (zdg dz_D_firstWeekOf_0 13 rfl)
def f_D_firstWeekOf (v1 : Int) (w : Wd) : Option (Int × Wd) :=
  f_D_firstWeekOf_2 FU v1 0 w
theorem ct_D_firstWeekOf (v1 : Int) (w : Wd) : Ct y_D_firstWeekOf prog_2_method_4_code 3 (some .int) 3 0 [(2, 16), (0, v1)] w (f_D_firstWeekOf v1 w) := by
  refine ct_of (by decide +kernel) (Or.inl ⟨rfl, rfl⟩) (Nat.le_of_ble_eq_true rfl) ?_
  intro X Qf ad C hn hR hr
  unfold f_D_firstWeekOf
  show VF X Qf ad NF 0 0 w 0 [(0, (2, 16)), (1, (0, v1))] [] _
  refine vf_iconst C (z := 0) (zdg dz_D_firstWeekOf_0 0 rfl) (jz rfl) ?_
  refine vf_istore_n C (f := 2) (L' := [(0, (2, 16)), (1, (0, v1))]) (zdg dz_D_firstWeekOf_0 1 rfl) [0, 1] (jrI rfl rfl) hn (by decide) rfl ?_
  exact vf_perm [1, 2, 0] rfl (t_D_firstWeekOf_2 C hn hR hr FU _ _ _)
def f_E_law_75 (v3 : Int) (w : Wd) : Option (Int × Wd) :=
  jcall (f_S_forget w) fun r2 u3 =>
  some (v3, u3)
theorem t_E_law_75 {X : jX} {Qf : Int × Wd → State → Prop} {ad : Nat → Nat} (C : Cx X prog_1_method_7_code "EachBringsAnother") (hn : xn X = 4) (hR : xR X = rmD 2) (hr : Rt X Qf ad prog_1_method_7_code 0) (v3 : Int) (w : Wd) : VF X Qf ad NF 0 0 w 75 [(0, (2, 1)), (3, (0, v3))] [] (f_E_law_75 v3 w) := by
  unfold f_E_law_75
  refine vf_aload_n C (f := 0) (zdg dz_E_law_1 14 rfl) 0 rfl rfl ?_
  refine vf_getp C fl_E_68 sh_0 rfl (by decide) rfl (x := 29) rfl (zdg dz_E_law_1 15 rfl) ?_
  refine vf_callVv C cy_S_forget ml_E_162 rfl (ct_S_forget _) (S := []) sh_28 (by decide) rfl (jrm_of hR rfl) rfl rfl (Nat.le_of_ble_eq_true rfl) (zdg dz_E_law_1 16 rfl) (fun r2 u3 => ?_)
  refine vf_iload_n C (f := 3) (zdg dz_E_law_1 17 rfl) 1 rfl rfl ?_
  exact hr _ _ _ _ (fun h => absurd h (by decide)) (zdg dz_E_law_1 18 rfl)
def f_E_law_51 (v1 v2 s0 : Int) (w : Wd) : Option (Int × Wd) :=
  if v1 = 0 then
    jlw (st w 5 7 v2) fun u4 =>
    f_E_law_75 s0 u4
  else
    jlw (st w 5 8 v2) fun u1 =>
    f_E_law_75 s0 u1
theorem t_E_law_51 {X : jX} {Qf : Int × Wd → State → Prop} {ad : Nat → Nat} (C : Cx X prog_1_method_7_code "EachBringsAnother") (hn : xn X = 4) (hR : xR X = rmD 2) (hr : Rt X Qf ad prog_1_method_7_code 0) (v1 v2 s0 : Int) (w : Wd) : VF X Qf ad NF 0 0 w 51 [(0, (2, 1)), (1, (0, v1)), (2, (0, v2))] [(0, s0)] (f_E_law_51 v1 v2 s0 w) := by
  unfold f_E_law_51
  refine vf_istore_n C (f := 3) (L' := [(0, (2, 1)), (1, (0, v1)), (2, (0, v2))]) (zdg dz_E_law_1 2 rfl) [0, 1, 2] (jrI rfl rfl) hn (by decide) rfl ?_
  refine vf_iload_n C (f := 1) (zdg dz_E_law_1 3 rfl) 2 rfl rfl ?_
  refine vf_if_ne C (off := 14) (tgt := 67) (zdg dz_E_law_1 4 rfl) (by decide) ?_ ?_
  · refine vf_aload_n C (f := 0) (zdg dz_E_law_1 10 rfl) 1 rfl rfl ?_
    refine vf_getp C fl_E_26 sh_0 rfl (by decide) rfl (x := 6) rfl (zdg dz_E_law_1 11 rfl) ?_
    refine vf_iload_n C (f := 2) (zdg dz_E_law_1 12 rfl) 3 rfl rfl ?_
    refine vf_put C (kd := 0) fl_E_159 fk_2_8 sh_5 rfl (by decide) rfl rfl (by decide) (zdg dz_E_law_1 13 rfl) ?_
    generalize st w 5 8 v2 = u1
    refine vf_uw ?_
    exact vf_perm [1, 0] rfl (t_E_law_75 C hn hR hr _ _)
  · refine vf_aload_n C (f := 0) (zdg dz_E_law_1 5 rfl) 1 rfl rfl ?_
    refine vf_getp C fl_E_26 sh_0 rfl (by decide) rfl (x := 6) rfl (zdg dz_E_law_1 6 rfl) ?_
    refine vf_iload_n C (f := 2) (zdg dz_E_law_1 7 rfl) 3 rfl rfl ?_
    refine vf_put C (kd := 0) fl_E_156 fk_2_7 sh_5 rfl (by decide) rfl rfl (by decide) (zdg dz_E_law_1 8 rfl) ?_
    generalize st w 5 7 v2 = u4
    refine vf_uw ?_
    refine vf_goto C (off := 11) (tgt := 75) (zdg dz_E_law_1 9 rfl) (by decide) ?_
    exact vf_perm [1, 0] rfl (t_E_law_75 C hn hR hr _ _)
def f_E_law_25 (v1 v2 s0 s1 : Int) (w : Wd) : Option (Int × Wd) :=
  if s0 ≤ s1 then
    if v1 = 0 then
      f_E_law_51 v1 v2 (w 5 7) w
    else
      f_E_law_51 v1 v2 (w 5 8) w
  else
    some ((-1), w)
theorem t_E_law_25 {X : jX} {Qf : Int × Wd → State → Prop} {ad : Nat → Nat} (C : Cx X prog_1_method_7_code "EachBringsAnother") (hn : xn X = 4) (hR : xR X = rmD 2) (hr : Rt X Qf ad prog_1_method_7_code 0) (v1 v2 s0 s1 : Int) (w : Wd) : VF X Qf ad NF 0 0 w 25 [(0, (2, 1)), (1, (0, v1)), (2, (0, v2))] [(0, s1), (0, s0)] (f_E_law_25 v1 v2 s0 s1 w) := by
  unfold f_E_law_25
  refine vf_icmp_le C (off := 5) (tgt := 30) (zdg dz_E_law_0 14 rfl) (by decide) ?_ ?_
  · refine vf_iload_n C (f := 1) (zdg dz_E_law_0 17 rfl) 1 rfl rfl ?_
    refine vf_if_ne C (off := 13) (tgt := 44) (zdg dz_E_law_0 18 rfl) (by decide) ?_ ?_
    · refine vf_aload_n C (f := 0) (zdg dz_E_law_0 23 rfl) 0 rfl rfl ?_
      refine vf_getp C fl_E_26 sh_0 rfl (by decide) rfl (x := 6) rfl (zdg dz_E_law_1 0 rfl) ?_
      refine vf_get C (kd := 0) fl_E_159 sh_5 rfl (by decide) rfl rfl (zdg dz_E_law_1 1 rfl) ?_
      exact t_E_law_51 C hn hR hr _ _ _ _
    · refine vf_aload_n C (f := 0) (zdg dz_E_law_0 19 rfl) 0 rfl rfl ?_
      refine vf_getp C fl_E_26 sh_0 rfl (by decide) rfl (x := 6) rfl (zdg dz_E_law_0 20 rfl) ?_
      refine vf_get C (kd := 0) fl_E_156 sh_5 rfl (by decide) rfl rfl (zdg dz_E_law_0 21 rfl) ?_
      refine vf_goto C (off := 10) (tgt := 51) (zdg dz_E_law_0 22 rfl) (by decide) ?_
      exact t_E_law_51 C hn hR hr _ _ _ _
  · refine vf_iconst C (z := (-1)) (zdg dz_E_law_0 15 rfl) (jz rfl) ?_
    exact hr _ _ _ _ (fun h => absurd h (by decide)) (zdg dz_E_law_0 16 rfl)
def f_E_law (v1 v2 : Int) (w : Wd) : Option (Int × Wd) :=
  if v2 < 1 then
    some ((-1), w)
  else
    if v1 < 0 then
      some ((-1), w)
    else
      if (1 : Int) < v1 then
        some ((-1), w)
      else
        if v1 = 0 then
          f_E_law_25 v1 v2 v2 3 w
        else
          f_E_law_25 v1 v2 v2 10 w
theorem ct_E_law (v1 v2 : Int) (w : Wd) : Ct y_E_law prog_1_method_7_code 4 (some .int) 2 0 [(2, 1), (0, v1), (0, v2)] w (f_E_law v1 v2 w) := by
  refine ct_of (by decide +kernel) (Or.inl ⟨rfl, rfl⟩) (Nat.le_of_ble_eq_true rfl) ?_
  intro X Qf ad C hn hR hr
  unfold f_E_law
  show VF X Qf ad NF 0 0 w 0 [(0, (2, 1)), (1, (0, v1)), (2, (0, v2))] [] _
  refine vf_iload_n C (f := 2) (zdg dz_E_law_0 0 rfl) 2 rfl rfl ?_
  refine vf_iconst C (z := 1) (zdg dz_E_law_0 1 rfl) (jz rfl) ?_
  refine vf_icmp_lt C (off := 26) (tgt := 28) (zdg dz_E_law_0 2 rfl) (by decide) ?_ ?_
  · refine vf_iconst C (z := (-1)) (zdg dz_E_law_0 15 rfl) (jz rfl) ?_
    exact hr _ _ _ _ (fun h => absurd h (by decide)) (zdg dz_E_law_0 16 rfl)
  · refine vf_iload_n C (f := 1) (zdg dz_E_law_0 3 rfl) 1 rfl rfl ?_
    refine vf_if_lt C (off := 22) (tgt := 28) (zdg dz_E_law_0 4 rfl) (by decide) ?_ ?_
    · refine vf_iconst C (z := (-1)) (zdg dz_E_law_0 15 rfl) (jz rfl) ?_
      exact hr _ _ _ _ (fun h => absurd h (by decide)) (zdg dz_E_law_0 16 rfl)
    · refine vf_iload_n C (f := 1) (zdg dz_E_law_0 5 rfl) 1 rfl rfl ?_
      refine vf_iconst C (z := 1) (zdg dz_E_law_0 6 rfl) (jz rfl) ?_
      refine vf_icmp_gt C (off := 17) (tgt := 28) (zdg dz_E_law_0 7 rfl) (by decide) ?_ ?_
      · refine vf_iconst C (z := (-1)) (zdg dz_E_law_0 15 rfl) (jz rfl) ?_
        exact hr _ _ _ _ (fun h => absurd h (by decide)) (zdg dz_E_law_0 16 rfl)
      · refine vf_iload_n C (f := 2) (zdg dz_E_law_0 8 rfl) 2 rfl rfl ?_
        refine vf_iload_n C (f := 1) (zdg dz_E_law_0 9 rfl) 1 rfl rfl ?_
        refine vf_if_ne C (off := 7) (tgt := 23) (zdg dz_E_law_0 10 rfl) (by decide) ?_ ?_
        · refine vf_bipush C (z := 10) (zdg dz_E_law_0 13 rfl) (by decide +kernel) (jz rfl) ?_
          exact t_E_law_25 C hn hR hr _ _ _ _ _
        · refine vf_iconst C (z := 3) (zdg dz_E_law_0 11 rfl) (jz rfl) ?_
          refine vf_goto C (off := 5) (tgt := 25) (zdg dz_E_law_0 12 rfl) (by decide) ?_
          exact t_E_law_25 C hn hR hr _ _ _ _ _
def f_E_areTwo (v1 v2 : Int) (w : Wd) : Option (Int × Wd) :=
  if v1 = v2 then
    some (0, w)
  else
    jcall (f_F_isThere v1 w) fun r1 u2 =>
    if r1 = 0 then
      some (0, u2)
    else
      jcall (f_F_isThere v2 u2) fun r3 u4 =>
      if r3 = 0 then
        some (0, u4)
      else
        some (1, u4)
theorem ct_E_areTwo (v1 v2 : Int) (w : Wd) : Ct y_E_areTwo prog_1_method_48_code 3 (some .boolean) 2 4 [(2, 1), (0, v1), (0, v2)] w (f_E_areTwo v1 v2 w) := by
  refine ct_of (by decide +kernel) (Or.inr (Or.inr (Or.inl ⟨rfl, rfl⟩))) (Nat.le_of_ble_eq_true rfl) ?_
  intro X Qf ad C hn hR hr
  unfold f_E_areTwo
  show VF X Qf ad NF 0 0 w 0 [(0, (2, 1)), (1, (0, v1)), (2, (0, v2))] [] _
  refine vf_iload_n C (f := 1) (zdg dz_E_areTwo_0 0 rfl) 1 rfl rfl ?_
  refine vf_iload_n C (f := 2) (zdg dz_E_areTwo_0 1 rfl) 2 rfl rfl ?_
  refine vf_icmp_eq C (off := 29) (tgt := 31) (zdg dz_E_areTwo_0 2 rfl) (by decide) ?_ ?_
  · refine vf_iconst C (z := 0) (zdg dz_E_areTwo_0 15 rfl) (jz rfl) ?_
    exact hr _ _ _ _ (fun _ => Or.inl rfl) (zdg dz_E_areTwo_0 16 rfl)
  · refine vf_aload_n C (f := 0) (zdg dz_E_areTwo_0 3 rfl) 0 rfl rfl ?_
    refine vf_getp C fl_E_26 sh_0 rfl (by decide) rfl (x := 6) rfl (zdg dz_E_areTwo_0 4 rfl) ?_
    refine vf_iload_n C (f := 1) (zdg dz_E_areTwo_0 5 rfl) 1 rfl rfl ?_
    refine vf_callVz C cy_F_isThere ml_E_108 rfl (ct_F_isThere _ _) (S := []) sh_5 (by decide) rfl (jrm_of hR rfl) rfl rfl (Nat.le_of_ble_eq_true rfl) (zdg dz_E_areTwo_0 6 rfl) (fun r1 u2 => ?_)
    refine vf_if_eq C (off := 18) (tgt := 31) (zdg dz_E_areTwo_0 7 rfl) (by decide) ?_ ?_
    · refine vf_iconst C (z := 0) (zdg dz_E_areTwo_0 15 rfl) (jz rfl) ?_
      exact hr _ _ _ _ (fun _ => Or.inl rfl) (zdg dz_E_areTwo_0 16 rfl)
    · refine vf_aload_n C (f := 0) (zdg dz_E_areTwo_0 8 rfl) 0 rfl rfl ?_
      refine vf_getp C fl_E_26 sh_0 rfl (by decide) rfl (x := 6) rfl (zdg dz_E_areTwo_0 9 rfl) ?_
      refine vf_iload_n C (f := 2) (zdg dz_E_areTwo_0 10 rfl) 2 rfl rfl ?_
      refine vf_callVz C cy_F_isThere ml_E_108 rfl (ct_F_isThere _ _) (S := []) sh_5 (by decide) rfl (jrm_of hR rfl) rfl rfl (Nat.le_of_ble_eq_true rfl) (zdg dz_E_areTwo_0 11 rfl) (fun r3 u4 => ?_)
      refine vf_if_eq C (off := 7) (tgt := 31) (zdg dz_E_areTwo_0 12 rfl) (by decide) ?_ ?_
      · refine vf_iconst C (z := 0) (zdg dz_E_areTwo_0 15 rfl) (jz rfl) ?_
        exact hr _ _ _ _ (fun _ => Or.inl rfl) (zdg dz_E_areTwo_0 16 rfl)
      · refine vf_iconst C (z := 1) (zdg dz_E_areTwo_0 13 rfl) (jz rfl) ?_
        refine vf_goto C (off := 4) (tgt := 32) (zdg dz_E_areTwo_0 14 rfl) (by decide) ?_
        exact hr _ _ _ _ (fun _ => Or.inr rfl) (zdg dz_E_areTwo_0 16 rfl)
def f_E_meet (v1 v2 v3 : Int) (w : Wd) : Option (Int × Wd) :=
  jcall (f_E_areTwo v1 v2 w) fun r1 u2 =>
  if r1 = 0 then
    some (0, u2)
  else
    jgd ((0 : Int) ≤ v1 ∧ v1 < 10) <|
    jcall (f_E_with (u2 7 v1.toNat) v2 v3 u2) fun r3 u4 =>
    jgd ((0 : Int) ≤ v1 ∧ v1 < 10) <|
    jlw (st u4 7 v1.toNat r3) fun u5 =>
    jgd ((0 : Int) ≤ v2 ∧ v2 < 10) <|
    jcall (f_E_with (u5 7 v2.toNat) v1 v3 u5) fun r6 u7 =>
    jgd ((0 : Int) ≤ v2 ∧ v2 < 10) <|
    jlw (st u7 7 v2.toNat r6) fun u8 =>
    jcall (f_S_forget u8) fun r9 u10 =>
    some (1, u10)
theorem ct_E_meet (v1 v2 v3 : Int) (w : Wd) : Ct y_E_meet prog_1_method_8_code 4 (some .boolean) 3 4 [(2, 1), (0, v1), (0, v2), (0, v3)] w (f_E_meet v1 v2 v3 w) := by
  refine ct_of (by decide +kernel) (Or.inr (Or.inr (Or.inl ⟨rfl, rfl⟩))) (Nat.le_of_ble_eq_true rfl) ?_
  intro X Qf ad C hn hR hr
  unfold f_E_meet
  show VF X Qf ad NF 0 0 w 0 [(0, (2, 1)), (1, (0, v1)), (2, (0, v2)), (3, (0, v3))] [] _
  refine vf_aload_n C (f := 0) (zdg dz_E_meet_0 0 rfl) 0 rfl rfl ?_
  refine vf_iload_n C (f := 1) (zdg dz_E_meet_0 1 rfl) 1 rfl rfl ?_
  refine vf_iload_n C (f := 2) (zdg dz_E_meet_0 2 rfl) 2 rfl rfl ?_
  refine vf_callVz C cy_E_areTwo ml_E_165 rfl (ct_E_areTwo _ _ _) (S := []) sh_0 (by decide) rfl (jrm_of hR rfl) rfl rfl (Nat.le_of_ble_eq_true rfl) (zdg dz_E_meet_0 3 rfl) (fun r1 u2 => ?_)
  refine vf_if_ne C (off := 5) (tgt := 11) (zdg dz_E_meet_0 4 rfl) (by decide) ?_ ?_
  · refine vf_aload_n C (f := 0) (zdg dz_E_meet_0 7 rfl) 0 rfl rfl ?_
    refine vf_getp C fl_E_26 sh_0 rfl (by decide) rfl (x := 6) rfl (zdg dz_E_meet_0 8 rfl) ?_
    refine vf_getp C fl_E_122 sh_5 rfl (by decide) rfl (x := 8) rfl (zdg dz_E_meet_0 9 rfl) ?_
    refine vf_iload_n C (f := 1) (zdg dz_E_meet_0 10 rfl) 1 rfl rfl ?_
    refine vf_aload_n C (f := 0) (zdg dz_E_meet_0 11 rfl) 0 rfl rfl ?_
    refine vf_getp C fl_E_26 sh_0 rfl (by decide) rfl (x := 6) rfl (zdg dz_E_meet_0 12 rfl) ?_
    refine vf_getp C fl_E_122 sh_5 rfl (by decide) rfl (x := 8) rfl (zdg dz_E_meet_0 13 rfl) ?_
    refine vf_iload_n C (f := 1) (zdg dz_E_meet_0 14 rfl) 1 rfl rfl ?_
    refine vf_iald C sh_7 (by decide) rfl (mz := 10) rfl (zdg dz_E_meet_0 15 rfl) ?_
    refine vf_iload_n C (f := 2) (zdg dz_E_meet_0 16 rfl) 2 rfl rfl ?_
    refine vf_iload_n C (f := 3) (zdg dz_E_meet_0 17 rfl) 3 rfl rfl ?_
    refine vf_callSi C cy_E_with ml_E_168 (ct_E_with _ _ _ _) (S := [(0, v1), (2, 8)]) (jrm_of hR rfl) rfl rfl (Nat.le_of_ble_eq_true rfl) (zdg dz_E_meet_0 18 rfl) (fun r3 u4 => ?_)
    refine vf_iast C sh_7 (by decide) rfl (mz := 10) rfl (zdg dz_E_meet_0 19 rfl) ?_
    generalize st u4 7 v1.toNat r3 = u5
    refine vf_uw ?_
    refine vf_aload_n C (f := 0) (zdg dz_E_meet_0 20 rfl) 0 rfl rfl ?_
    refine vf_getp C fl_E_26 sh_0 rfl (by decide) rfl (x := 6) rfl (zdg dz_E_meet_0 21 rfl) ?_
    refine vf_getp C fl_E_122 sh_5 rfl (by decide) rfl (x := 8) rfl (zdg dz_E_meet_0 22 rfl) ?_
    refine vf_iload_n C (f := 2) (zdg dz_E_meet_0 23 rfl) 2 rfl rfl ?_
    refine vf_aload_n C (f := 0) (zdg dz_E_meet_1 0 rfl) 0 rfl rfl ?_
    refine vf_getp C fl_E_26 sh_0 rfl (by decide) rfl (x := 6) rfl (zdg dz_E_meet_1 1 rfl) ?_
    refine vf_getp C fl_E_122 sh_5 rfl (by decide) rfl (x := 8) rfl (zdg dz_E_meet_1 2 rfl) ?_
    refine vf_iload_n C (f := 2) (zdg dz_E_meet_1 3 rfl) 2 rfl rfl ?_
    refine vf_iald C sh_7 (by decide) rfl (mz := 10) rfl (zdg dz_E_meet_1 4 rfl) ?_
    refine vf_iload_n C (f := 1) (zdg dz_E_meet_1 5 rfl) 1 rfl rfl ?_
    refine vf_iload_n C (f := 3) (zdg dz_E_meet_1 6 rfl) 3 rfl rfl ?_
    refine vf_callSi C cy_E_with ml_E_168 (ct_E_with _ _ _ _) (S := [(0, v2), (2, 8)]) (jrm_of hR rfl) rfl rfl (Nat.le_of_ble_eq_true rfl) (zdg dz_E_meet_1 7 rfl) (fun r6 u7 => ?_)
    refine vf_iast C sh_7 (by decide) rfl (mz := 10) rfl (zdg dz_E_meet_1 8 rfl) ?_
    generalize st u7 7 v2.toNat r6 = u8
    refine vf_uw ?_
    refine vf_aload_n C (f := 0) (zdg dz_E_meet_1 9 rfl) 0 rfl rfl ?_
    refine vf_getp C fl_E_68 sh_0 rfl (by decide) rfl (x := 29) rfl (zdg dz_E_meet_1 10 rfl) ?_
    refine vf_callVv C cy_S_forget ml_E_162 rfl (ct_S_forget _) (S := []) sh_28 (by decide) rfl (jrm_of hR rfl) rfl rfl (Nat.le_of_ble_eq_true rfl) (zdg dz_E_meet_1 11 rfl) (fun r9 u10 => ?_)
    refine vf_iconst C (z := 1) (zdg dz_E_meet_1 12 rfl) (jz rfl) ?_
    exact hr _ _ _ _ (fun _ => Or.inr rfl) (zdg dz_E_meet_1 13 rfl)
  · refine vf_iconst C (z := 0) (zdg dz_E_meet_0 5 rfl) (jz rfl) ?_
    exact hr _ _ _ _ (fun _ => Or.inl rfl) (zdg dz_E_meet_0 6 rfl)
def f_E_hide (v1 v2 : Int) (w : Wd) : Option (Int × Wd) :=
  jcall (f_F_isThere v1 w) fun r1 u2 =>
  if r1 = 0 then
    some (0, u2)
  else
    jcall (f_E_with (u2 5 5) v1 v2 u2) fun r3 u4 =>
    jlw (st u4 5 5 r3) fun u5 =>
    jcall (f_S_forget u5) fun r6 u7 =>
    some (1, u7)
theorem ct_E_hide (v1 v2 : Int) (w : Wd) : Ct y_E_hide prog_1_method_9_code 3 (some .boolean) 2 4 [(2, 1), (0, v1), (0, v2)] w (f_E_hide v1 v2 w) := by
  refine ct_of (by decide +kernel) (Or.inr (Or.inr (Or.inl ⟨rfl, rfl⟩))) (Nat.le_of_ble_eq_true rfl) ?_
  intro X Qf ad C hn hR hr
  unfold f_E_hide
  show VF X Qf ad NF 0 0 w 0 [(0, (2, 1)), (1, (0, v1)), (2, (0, v2))] [] _
  refine vf_aload_n C (f := 0) (zdg dz_E_hide_0 0 rfl) 0 rfl rfl ?_
  refine vf_getp C fl_E_26 sh_0 rfl (by decide) rfl (x := 6) rfl (zdg dz_E_hide_0 1 rfl) ?_
  refine vf_iload_n C (f := 1) (zdg dz_E_hide_0 2 rfl) 1 rfl rfl ?_
  refine vf_callVz C cy_F_isThere ml_E_108 rfl (ct_F_isThere _ _) (S := []) sh_5 (by decide) rfl (jrm_of hR rfl) rfl rfl (Nat.le_of_ble_eq_true rfl) (zdg dz_E_hide_0 3 rfl) (fun r1 u2 => ?_)
  refine vf_if_ne C (off := 5) (tgt := 13) (zdg dz_E_hide_0 4 rfl) (by decide) ?_ ?_
  · refine vf_aload_n C (f := 0) (zdg dz_E_hide_0 7 rfl) 0 rfl rfl ?_
    refine vf_getp C fl_E_26 sh_0 rfl (by decide) rfl (x := 6) rfl (zdg dz_E_hide_0 8 rfl) ?_
    refine vf_aload_n C (f := 0) (zdg dz_E_hide_0 9 rfl) 0 rfl rfl ?_
    refine vf_getp C fl_E_26 sh_0 rfl (by decide) rfl (x := 6) rfl (zdg dz_E_hide_0 10 rfl) ?_
    refine vf_get C (kd := 0) fl_E_125 sh_5 rfl (by decide) rfl rfl (zdg dz_E_hide_0 11 rfl) ?_
    refine vf_iload_n C (f := 1) (zdg dz_E_hide_0 12 rfl) 1 rfl rfl ?_
    refine vf_iload_n C (f := 2) (zdg dz_E_hide_0 13 rfl) 2 rfl rfl ?_
    refine vf_callSi C cy_E_with ml_E_168 (ct_E_with _ _ _ _) (S := [(2, 6)]) (jrm_of hR rfl) rfl rfl (Nat.le_of_ble_eq_true rfl) (zdg dz_E_hide_0 14 rfl) (fun r3 u4 => ?_)
    refine vf_put C (kd := 0) fl_E_125 fk_2_5 sh_5 rfl (by decide) rfl rfl (by decide) (zdg dz_E_hide_0 15 rfl) ?_
    generalize st u4 5 5 r3 = u5
    refine vf_uw ?_
    refine vf_aload_n C (f := 0) (zdg dz_E_hide_0 16 rfl) 0 rfl rfl ?_
    refine vf_getp C fl_E_68 sh_0 rfl (by decide) rfl (x := 29) rfl (zdg dz_E_hide_0 17 rfl) ?_
    refine vf_callVv C cy_S_forget ml_E_162 rfl (ct_S_forget _) (S := []) sh_28 (by decide) rfl (jrm_of hR rfl) rfl rfl (Nat.le_of_ble_eq_true rfl) (zdg dz_E_hide_0 18 rfl) (fun r6 u7 => ?_)
    refine vf_iconst C (z := 1) (zdg dz_E_hide_0 19 rfl) (jz rfl) ?_
    exact hr _ _ _ _ (fun _ => Or.inr rfl) (zdg dz_E_hide_0 20 rfl)
  · refine vf_iconst C (z := 0) (zdg dz_E_hide_0 5 rfl) (jz rfl) ?_
    exact hr _ _ _ _ (fun _ => Or.inl rfl) (zdg dz_E_hide_0 6 rfl)
def f_E_baby (v1 : Int) (w : Wd) : Option (Int × Wd) :=
  if (10 : Int) ≤ (w 5 3) then
    some ((-1), w)
  else
    jcall (f_F_everybody w) fun r1 u2 =>
    if (iand v1 (ixor r1 (-1))) = 0 then
      jcall (f_F_add 0 v1 u2) fun r3 u4 =>
      jcall (f_E_peopleCame u4) fun r5 u6 =>
      some (w32 ((u6 5 3) - 1), u6)
    else
      some ((-1), u2)
theorem ct_E_baby (v1 : Int) (w : Wd) : Ct y_E_baby prog_1_method_10_code 2 (some .int) 4 0 [(2, 1), (0, v1)] w (f_E_baby v1 w) := by
  refine ct_of (by decide +kernel) (Or.inl ⟨rfl, rfl⟩) (Nat.le_of_ble_eq_true rfl) ?_
  intro X Qf ad C hn hR hr
  unfold f_E_baby
  show VF X Qf ad NF 0 0 w 0 [(0, (2, 1)), (1, (0, v1))] [] _
  refine vf_aload_n C (f := 0) (zdg dz_E_baby_0 0 rfl) 0 rfl rfl ?_
  refine vf_getp C fl_E_26 sh_0 rfl (by decide) rfl (x := 6) rfl (zdg dz_E_baby_0 1 rfl) ?_
  refine vf_get C (kd := 0) fl_E_87 sh_5 rfl (by decide) rfl rfl (zdg dz_E_baby_0 2 rfl) ?_
  refine vf_bipush C (z := 10) (zdg dz_E_baby_0 3 rfl) (by decide +kernel) (jz rfl) ?_
  refine vf_icmp_ge C (off := 17) (tgt := 26) (zdg dz_E_baby_0 4 rfl) (by decide) ?_ ?_
  · refine vf_iconst C (z := (-1)) (zdg dz_E_baby_0 13 rfl) (jz rfl) ?_
    exact hr _ _ _ _ (fun h => absurd h (by decide)) (zdg dz_E_baby_0 14 rfl)
  · refine vf_iload_n C (f := 1) (zdg dz_E_baby_0 5 rfl) 1 rfl rfl ?_
    refine vf_aload_n C (f := 0) (zdg dz_E_baby_0 6 rfl) 0 rfl rfl ?_
    refine vf_getp C fl_E_26 sh_0 rfl (by decide) rfl (x := 6) rfl (zdg dz_E_baby_0 7 rfl) ?_
    refine vf_callVi C cy_F_everybody ml_E_172 rfl (ct_F_everybody _) (S := [(0, v1)]) sh_5 (by decide) rfl (jrm_of hR rfl) rfl rfl (Nat.le_of_ble_eq_true rfl) (zdg dz_E_baby_0 8 rfl) (fun r1 u2 => ?_)
    refine vf_iconst C (z := (-1)) (zdg dz_E_baby_0 9 rfl) (jz rfl) ?_
    refine vf_ixor C (zdg dz_E_baby_0 10 rfl) ?_
    refine vf_iand C (zdg dz_E_baby_0 11 rfl) ?_
    refine vf_if_eq C (off := 5) (tgt := 28) (zdg dz_E_baby_0 12 rfl) (by decide) ?_ ?_
    · refine vf_aload_n C (f := 0) (zdg dz_E_baby_0 15 rfl) 0 rfl rfl ?_
      refine vf_getp C fl_E_26 sh_0 rfl (by decide) rfl (x := 6) rfl (zdg dz_E_baby_0 16 rfl) ?_
      refine vf_iconst C (z := 0) (zdg dz_E_baby_0 17 rfl) (jz rfl) ?_
      refine vf_iload_n C (f := 1) (zdg dz_E_baby_0 18 rfl) 1 rfl rfl ?_
      refine vf_callVv C cy_F_add ml_E_175 rfl (ct_F_add _ _ _) (S := []) sh_5 (by decide) rfl (jrm_of hR rfl) rfl rfl (Nat.le_of_ble_eq_true rfl) (zdg dz_E_baby_0 19 rfl) (fun r3 u4 => ?_)
      refine vf_aload_n C (f := 0) (zdg dz_E_baby_0 20 rfl) 0 rfl rfl ?_
      refine vf_callVv C cy_E_peopleCame ml_E_102 rfl (ct_E_peopleCame _) (S := []) sh_0 (by decide) rfl (jrm_of hR rfl) rfl rfl (Nat.le_of_ble_eq_true rfl) (zdg dz_E_baby_0 21 rfl) (fun r5 u6 => ?_)
      refine vf_aload_n C (f := 0) (zdg dz_E_baby_0 22 rfl) 0 rfl rfl ?_
      refine vf_getp C fl_E_26 sh_0 rfl (by decide) rfl (x := 6) rfl (zdg dz_E_baby_0 23 rfl) ?_
      refine vf_get C (kd := 0) fl_E_87 sh_5 rfl (by decide) rfl rfl (zdg dz_E_baby_1 0 rfl) ?_
      refine vf_iconst C (z := 1) (zdg dz_E_baby_1 1 rfl) (jz rfl) ?_
      refine vf_isub C (zdg dz_E_baby_1 2 rfl) ?_
      exact hr _ _ _ _ (fun h => absurd h (by decide)) (zdg dz_E_baby_1 3 rfl)
    · refine vf_iconst C (z := (-1)) (zdg dz_E_baby_0 13 rfl) (jz rfl) ?_
      exact hr _ _ _ _ (fun h => absurd h (by decide)) (zdg dz_E_baby_0 14 rfl)
def f_F_pricesOf_31 (k4 : Int → Int → Int → Wd → Option (Int × Wd)) (v1 v3 s0 s1 : Int) (w : Wd) : Option (Int × Wd) :=
  jlet (w32 (s0 + s1)) fun x3 =>
  jlet (w32 (v3 + 1)) fun x4 =>
  k4 v1 x3 x4 w
theorem t_F_pricesOf_31 {X : jX} {Qf : Int × Wd → State → Prop} {ad : Nat → Nat} (C : Cx X prog_3_method_9_code "EachBringsAnother$Folk") (hn : xn X = 4) (hR : xR X = rmD 2) (hr : Rt X Qf ad prog_3_method_9_code 0) {k4 : Int → Int → Int → Wd → Option (Int × Wd)} (hk4 : ∀ (v1 v2 v3 : Int) (w : Wd), VF X Qf ad NF 0 0 w 4 [(0, (2, 6)), (1, (0, v1)), (2, (0, v2)), (3, (0, v3))] [] (k4 v1 v2 v3 w)) (v1 v3 s0 s1 : Int) (w : Wd) : VF X Qf ad NF 0 0 w 31 [(0, (2, 6)), (1, (0, v1)), (3, (0, v3))] [(0, s1), (0, s0)] (f_F_pricesOf_31 k4 v1 v3 s0 s1 w) := by
  unfold f_F_pricesOf_31
  refine vf_iadd C (zdg dz_F_pricesOf_0 19 rfl) ?_
  generalize w32 (s0 + s1) = x3
  refine vf_ul ?_
  refine vf_istore_n C (f := 2) (L' := [(0, (2, 6)), (1, (0, v1)), (3, (0, v3))]) (zdg dz_F_pricesOf_0 20 rfl) [0, 1, 2] (jrI rfl rfl) hn (by decide) rfl ?_
  refine vf_iinc C (z := 1) (L' := [(2, (0, x3)), (0, (2, 6)), (1, (0, v1))]) (zdg dz_F_pricesOf_0 21 rfl) 3 rfl [0, 1, 2] (jrI rfl rfl) hn (by decide) ?_
  generalize w32 (v3 + 1) = x4
  refine vf_ul ?_
  refine vf_goto C (off := (-32)) (tgt := 4) (zdg dz_F_pricesOf_0 22 rfl) (by decide) ?_
  exact vf_perm [2, 3, 1, 0] rfl (hk4 _ _ _ _)
def f_F_pricesOf_4 : Nat → Int → Int → Int → Wd → Option (Int × Wd)
  | 0, _, _, _, _ => none
  | n + 1, v1, v2, v3, w =>
    if (w 5 3) ≤ v3 then
      some (v2, w)
    else
      jcall (f_E_has v1 v3 w) fun r1 u2 =>
      if r1 = 0 then
        f_F_pricesOf_31 (f_F_pricesOf_4 n) v1 v3 v2 0 u2
      else
        jgd ((0 : Int) ≤ v3 ∧ v3 < 10) <|
        f_F_pricesOf_31 (f_F_pricesOf_4 n) v1 v3 v2 (u2 6 v3.toNat) u2
theorem t_F_pricesOf_4 {X : jX} {Qf : Int × Wd → State → Prop} {ad : Nat → Nat} (C : Cx X prog_3_method_9_code "EachBringsAnother$Folk") (hn : xn X = 4) (hR : xR X = rmD 2) (hr : Rt X Qf ad prog_3_method_9_code 0) : ∀ (n : Nat) (v1 v2 v3 : Int) (w : Wd), VF X Qf ad NF 0 0 w 4 [(0, (2, 6)), (1, (0, v1)), (2, (0, v2)), (3, (0, v3))] [] (f_F_pricesOf_4 n v1 v2 v3 w) := by
  intro n
  induction n with
  | zero => intros; exact vf_no
  | succ n ih =>
    intro v1 v2 v3 w
    rw [f_F_pricesOf_4]
    refine vf_iload_n C (f := 3) (zdg dz_F_pricesOf_0 4 rfl) 3 rfl rfl ?_
    refine vf_aload_n C (f := 0) (zdg dz_F_pricesOf_0 5 rfl) 0 rfl rfl ?_
    refine vf_get C (kd := 0) fl_F_28 sh_5 rfl (by decide) rfl rfl (zdg dz_F_pricesOf_0 6 rfl) ?_
    refine vf_icmp_ge C (off := 30) (tgt := 39) (zdg dz_F_pricesOf_0 7 rfl) (by decide) ?_ ?_
    · refine vf_iload_n C (f := 2) (zdg dz_F_pricesOf_0 23 rfl) 2 rfl rfl ?_
      exact hr _ _ _ _ (fun h => absurd h (by decide)) (zdg dz_F_pricesOf_1 0 rfl)
    · refine vf_iload_n C (f := 2) (zdg dz_F_pricesOf_0 8 rfl) 2 rfl rfl ?_
      refine vf_iload_n C (f := 1) (zdg dz_F_pricesOf_0 9 rfl) 1 rfl rfl ?_
      refine vf_iload_n C (f := 3) (zdg dz_F_pricesOf_0 10 rfl) 3 rfl rfl ?_
      refine vf_callSz C cy_E_has ml_F_62 (ct_E_has _ _ _) (S := [(0, v2)]) (jrm_of hR rfl) rfl rfl (Nat.le_of_ble_eq_true rfl) (zdg dz_F_pricesOf_0 11 rfl) (fun r1 u2 => ?_)
      refine vf_if_eq C (off := 12) (tgt := 30) (zdg dz_F_pricesOf_0 12 rfl) (by decide) ?_ ?_
      · refine vf_iconst C (z := 0) (zdg dz_F_pricesOf_0 18 rfl) (jz rfl) ?_
        exact vf_perm [0, 1, 3] rfl (t_F_pricesOf_31 C hn hR hr ih _ _ _ _ _)
      · refine vf_aload_n C (f := 0) (zdg dz_F_pricesOf_0 13 rfl) 0 rfl rfl ?_
        refine vf_getp C fl_F_9 sh_5 rfl (by decide) rfl (x := 7) rfl (zdg dz_F_pricesOf_0 14 rfl) ?_
        refine vf_iload_n C (f := 3) (zdg dz_F_pricesOf_0 15 rfl) 3 rfl rfl ?_
        refine vf_iald C sh_6 (by decide) rfl (mz := 10) rfl (zdg dz_F_pricesOf_0 16 rfl) ?_
        refine vf_goto C (off := 4) (tgt := 31) (zdg dz_F_pricesOf_0 17 rfl) (by decide) ?_
        exact vf_perm [0, 1, 3] rfl (t_F_pricesOf_31 C hn hR hr ih _ _ _ _ _)
def f_F_pricesOf (v1 : Int) (w : Wd) : Option (Int × Wd) :=
  f_F_pricesOf_4 FU v1 0 0 w
theorem ct_F_pricesOf (v1 : Int) (w : Wd) : Ct y_F_pricesOf prog_3_method_9_code 4 (some .int) 2 0 [(2, 6), (0, v1)] w (f_F_pricesOf v1 w) := by
  refine ct_of (by decide +kernel) (Or.inl ⟨rfl, rfl⟩) (Nat.le_of_ble_eq_true rfl) ?_
  intro X Qf ad C hn hR hr
  unfold f_F_pricesOf
  show VF X Qf ad NF 0 0 w 0 [(0, (2, 6)), (1, (0, v1))] [] _
  refine vf_iconst C (z := 0) (zdg dz_F_pricesOf_0 0 rfl) (jz rfl) ?_
  refine vf_istore_n C (f := 2) (L' := [(0, (2, 6)), (1, (0, v1))]) (zdg dz_F_pricesOf_0 1 rfl) [0, 1] (jrI rfl rfl) hn (by decide) rfl ?_
  refine vf_iconst C (z := 0) (zdg dz_F_pricesOf_0 2 rfl) (jz rfl) ?_
  refine vf_istore_n C (f := 3) (L' := [(2, (0, 0)), (0, (2, 6)), (1, (0, v1))]) (zdg dz_F_pricesOf_0 3 rfl) [0, 1, 2] (jrI rfl rfl) hn (by decide) rfl ?_
  exact vf_perm [2, 3, 1, 0] rfl (t_F_pricesOf_4 C hn hR hr FU _ _ _ _)
def f_E_entry_20 (s0 : Int) (w : Wd) : Option (Int × Wd) :=
  some (imax 0 (imin 9 s0), w)
theorem t_E_entry_20 {X : jX} {Qf : Int × Wd → State → Prop} {ad : Nat → Nat} (C : Cx X prog_1_method_51_code "EachBringsAnother") (hn : xn X = 3) (hR : xR X = rmD 1) (hr : Rt X Qf ad prog_1_method_51_code 0) (s0 : Int) (w : Wd) : VF X Qf ad NF 0 0 w 20 [] [(0, s0)] (f_E_entry_20 s0 w) := by
  unfold f_E_entry_20
  refine vf_istore_n C (f := 2) (L' := []) (zdg dz_E_entry_0 12 rfl) [] (jrI rfl rfl) hn (by decide) rfl ?_
  refine vf_iconst C (z := 0) (zdg dz_E_entry_0 13 rfl) (jz rfl) ?_
  refine vf_bipush C (z := 9) (zdg dz_E_entry_0 14 rfl) (by decide +kernel) (jz rfl) ?_
  refine vf_iload_n C (f := 2) (zdg dz_E_entry_0 15 rfl) 0 rfl rfl ?_
  refine vf_mmin C ml_E_314 (jrm_n hR (by decide)) ⟨Nat.zero_le _, Nat.zero_le _⟩ (Nat.le_of_ble_eq_true rfl) (zdg dz_E_entry_0 16 rfl) ?_
  refine vf_mmax C ml_E_269 (jrm_n hR (by decide)) ⟨Nat.zero_le _, Nat.zero_le _⟩ (Nat.le_of_ble_eq_true rfl) (zdg dz_E_entry_0 17 rfl) ?_
  exact hr _ _ _ _ (fun h => absurd h (by decide)) (zdg dz_E_entry_0 18 rfl)
def f_E_entry (v0 v1 : Int) (w : Wd) : Option (Int × Wd) :=
  if v0 = 0 then
    f_E_entry_20 (i2b v1) w
  else
    if v0 = 1 then
      f_E_entry_20 (i2s v1) w
    else
      f_E_entry_20 v1 w
theorem ct_E_entry (v0 v1 : Int) (w : Wd) : Ct y_E_entry prog_1_method_51_code 3 (some .int) 1 0 [(0, v0), (0, v1)] w (f_E_entry v0 v1 w) := by
  refine ct_of (by decide +kernel) (Or.inl ⟨rfl, rfl⟩) (Nat.le_of_ble_eq_true rfl) ?_
  intro X Qf ad C hn hR hr
  unfold f_E_entry
  show VF X Qf ad NF 0 0 w 0 [(0, (0, v0)), (1, (0, v1))] [] _
  refine vf_iload_n C (f := 0) (zdg dz_E_entry_0 0 rfl) 0 rfl rfl ?_
  refine vf_if_ne C (off := 8) (tgt := 9) (zdg dz_E_entry_0 1 rfl) (by decide) ?_ ?_
  · refine vf_iload_n C (f := 0) (zdg dz_E_entry_0 5 rfl) 0 rfl rfl ?_
    refine vf_iconst C (z := 1) (zdg dz_E_entry_0 6 rfl) (jz rfl) ?_
    refine vf_icmp_ne C (off := 8) (tgt := 19) (zdg dz_E_entry_0 7 rfl) (by decide) ?_ ?_
    · refine vf_iload_n C (f := 1) (zdg dz_E_entry_0 11 rfl) 1 rfl rfl ?_
      exact vf_perm [] rfl (t_E_entry_20 C hn hR hr _ _)
    · refine vf_iload_n C (f := 1) (zdg dz_E_entry_0 8 rfl) 1 rfl rfl ?_
      refine vf_i2s C (zdg dz_E_entry_0 9 rfl) ?_
      refine vf_goto C (off := 4) (tgt := 20) (zdg dz_E_entry_0 10 rfl) (by decide) ?_
      exact vf_perm [] rfl (t_E_entry_20 C hn hR hr _ _)
  · refine vf_iload_n C (f := 1) (zdg dz_E_entry_0 2 rfl) 1 rfl rfl ?_
    refine vf_i2b C (zdg dz_E_entry_0 3 rfl) ?_
    refine vf_goto C (off := 14) (tgt := 20) (zdg dz_E_entry_0 4 rfl) (by decide) ?_
    exact vf_perm [] rfl (t_E_entry_20 C hn hR hr _ _)
def f_JA_fill_6_5 : Nat → Int → Int → Int → Wd → Option (Int × Wd)
  | 0, _, _, _, _ => none
  | n + 1, v1, v2, v3, w =>
    if v3 ≤ v2 then
      some (0, w)
    else
      jgd ((0 : Int) ≤ v2 ∧ v2 < 10) <|
      jlw (st w 6 v2.toNat v1) fun u1 =>
      jlet (w32 (v2 + 1)) fun x2 =>
      f_JA_fill_6_5 n v1 x2 v3 u1
theorem t_JA_fill_6_5 {X : jX} {Qf : Int × Wd → State → Prop} {ad : Nat → Nat} (C : Cx X prog_23_method_103_code "java/util/Arrays") (hn : xn X = 4) (hR : xR X = rmD 1) (hr : Rt X Qf ad prog_23_method_103_code 9) : ∀ (n : Nat) (v1 v2 v3 : Int) (w : Wd), VF X Qf ad NF 0 0 w 5 [(0, (2, 7)), (1, (0, v1)), (2, (0, v2)), (3, (0, v3))] [] (f_JA_fill_6_5 n v1 v2 v3 w) := by
  intro n
  induction n with
  | zero => intros; exact vf_no
  | succ n ih =>
    intro v1 v2 v3 w
    rw [f_JA_fill_6_5]
    refine vf_iload_n C (f := 2) (zdg dz_JA_fill_0 5 rfl) 2 rfl rfl ?_
    refine vf_iload_n C (f := 3) (zdg dz_JA_fill_0 6 rfl) 3 rfl rfl ?_
    refine vf_icmp_ge C (off := 13) (tgt := 20) (zdg dz_JA_fill_0 7 rfl) (by decide) ?_ ?_
    · exact hr _ _ _ _ (fun h => absurd h (by decide)) (zdg dz_JA_fill_0 14 rfl)
    · refine vf_aload_n C (f := 0) (zdg dz_JA_fill_0 8 rfl) 0 rfl rfl ?_
      refine vf_iload_n C (f := 2) (zdg dz_JA_fill_0 9 rfl) 2 rfl rfl ?_
      refine vf_iload_n C (f := 1) (zdg dz_JA_fill_0 10 rfl) 1 rfl rfl ?_
      refine vf_iast C sh_6 (by decide) rfl (mz := 10) rfl (zdg dz_JA_fill_0 11 rfl) ?_
      generalize st w 6 v2.toNat v1 = u1
      refine vf_uw ?_
      refine vf_iinc C (z := 1) (L' := [(0, (2, 7)), (1, (0, v1)), (3, (0, v3))]) (zdg dz_JA_fill_0 12 rfl) 2 rfl [0, 1, 3] (jrI rfl rfl) hn (by decide) ?_
      generalize w32 (v2 + 1) = x2
      refine vf_ul ?_
      refine vf_goto C (off := (-12)) (tgt := 5) (zdg dz_JA_fill_0 13 rfl) (by decide) ?_
      exact vf_perm [1, 2, 0, 3] rfl (ih _ _ _ _)
def f_JA_fill_6 (v1 : Int) (w : Wd) : Option (Int × Wd) :=
  f_JA_fill_6_5 FU v1 0 10 w
theorem ct_JA_fill_6 (v1 : Int) (w : Wd) : Ct y_JA_fill prog_23_method_103_code 4 none 1 9 [(2, 7), (0, v1)] w (f_JA_fill_6 v1 w) := by
  refine ct_of (by decide +kernel) (Or.inr (Or.inr (Or.inr ⟨rfl, rfl⟩))) (Nat.le_of_ble_eq_true rfl) ?_
  intro X Qf ad C hn hR hr
  unfold f_JA_fill_6
  show VF X Qf ad NF 0 0 w 0 [(0, (2, 7)), (1, (0, v1))] [] _
  refine vf_iconst C (z := 0) (zdg dz_JA_fill_0 0 rfl) (jz rfl) ?_
  refine vf_istore_n C (f := 2) (L' := [(0, (2, 7)), (1, (0, v1))]) (zdg dz_JA_fill_0 1 rfl) [0, 1] (jrI rfl rfl) hn (by decide) rfl ?_
  refine vf_aload_n C (f := 0) (zdg dz_JA_fill_0 2 rfl) 1 rfl rfl ?_
  refine vf_alen C sh_6 (by decide) (by decide) rfl (x := 10) rfl (jz rfl) (zdg dz_JA_fill_0 3 rfl) ?_
  refine vf_istore_n C (f := 3) (L' := [(2, (0, 0)), (0, (2, 7)), (1, (0, v1))]) (zdg dz_JA_fill_0 4 rfl) [0, 1, 2] (jrI rfl rfl) hn (by decide) rfl ?_
  exact vf_perm [2, 3, 1, 0] rfl (t_JA_fill_6_5 C hn hR hr FU _ _ _ _)
def f_E_sheet_88 (k46 : Int → Int → Int → Int → Int → Wd → Option (Int × Wd)) (v1 v2 v3 v4 v5 s1 s2 : Int) (w : Wd) : Option (Int × Wd) :=
  jgd ((0 : Int) ≤ s1 ∧ s1 < 10) <|
  jlw (st w 6 s1.toNat s2) fun u5 =>
  jlet (w32 (v5 + 1)) fun x6 =>
  k46 v1 v2 v3 v4 x6 u5
theorem t_E_sheet_88 {X : jX} {Qf : Int × Wd → State → Prop} {ad : Nat → Nat} (C : Cx X prog_1_method_11_code "EachBringsAnother") (hn : xn X = 6) (hR : xR X = rmD 3) (hr : Rt X Qf ad prog_1_method_11_code 0) {k46 : Int → Int → Int → Int → Int → Wd → Option (Int × Wd)} (hk46 : ∀ (v1 v2 v3 v4 v5 : Int) (w : Wd), VF X Qf ad NF 0 0 w 46 [(0, (2, 1)), (1, (0, v1)), (2, (0, v2)), (3, (0, v3)), (4, (0, v4)), (5, (0, v5))] [] (k46 v1 v2 v3 v4 v5 w)) (v1 v2 v3 v4 v5 s1 s2 : Int) (w : Wd) : VF X Qf ad NF 0 0 w 88 [(0, (2, 1)), (1, (0, v1)), (2, (0, v2)), (3, (0, v3)), (4, (0, v4)), (5, (0, v5))] [(0, s2), (0, s1), (2, 7)] (f_E_sheet_88 k46 v1 v2 v3 v4 v5 s1 s2 w) := by
  unfold f_E_sheet_88
  refine vf_iast C sh_6 (by decide) rfl (mz := 10) rfl (zdg dz_E_sheet_1 23 rfl) ?_
  generalize st w 6 s1.toNat s2 = u5
  refine vf_uw ?_
  refine vf_iinc C (z := 1) (L' := [(0, (2, 1)), (1, (0, v1)), (2, (0, v2)), (3, (0, v3)), (4, (0, v4))]) (zdg dz_E_sheet_2 0 rfl) 5 rfl [0, 1, 2, 3, 4] (jrI rfl rfl) hn (by decide) ?_
  generalize w32 (v5 + 1) = x6
  refine vf_ul ?_
  refine vf_goto C (off := (-46)) (tgt := 46) (zdg dz_E_sheet_2 1 rfl) (by decide) ?_
  exact vf_perm [1, 2, 3, 4, 5, 0] rfl (hk46 _ _ _ _ _ _)
def f_E_sheet_46 : Nat → Int → Int → Int → Int → Int → Wd → Option (Int × Wd)
  | 0, _, _, _, _, _, _ => none
  | n + 1, v1, v2, v3, v4, v5, w =>
    if (w 5 3) ≤ v5 then
      jcall (f_F_everybody w) fun r1 u2 =>
      jcall (f_F_pricesOf r1 u2) fun r3 u4 =>
      some (r3, u4)
    else
      if v2 ≤ v5 then
        f_E_sheet_88 (f_E_sheet_46 n) v1 v2 v3 v4 v5 v5 0 w
      else
        jcall (f_E_entry v1 (w32 (v3 + (w32 (v5 * v4)))) w) fun r7 u8 =>
        f_E_sheet_88 (f_E_sheet_46 n) v1 v2 v3 v4 v5 v5 r7 u8
theorem t_E_sheet_46 {X : jX} {Qf : Int × Wd → State → Prop} {ad : Nat → Nat} (C : Cx X prog_1_method_11_code "EachBringsAnother") (hn : xn X = 6) (hR : xR X = rmD 3) (hr : Rt X Qf ad prog_1_method_11_code 0) : ∀ (n : Nat) (v1 v2 v3 v4 v5 : Int) (w : Wd), VF X Qf ad NF 0 0 w 46 [(0, (2, 1)), (1, (0, v1)), (2, (0, v2)), (3, (0, v3)), (4, (0, v4)), (5, (0, v5))] [] (f_E_sheet_46 n v1 v2 v3 v4 v5 w) := by
  intro n
  induction n with
  | zero => intros; exact vf_no
  | succ n ih =>
    intro v1 v2 v3 v4 v5 w
    rw [f_E_sheet_46]
    refine vf_iload C (zdg dz_E_sheet_1 2 rfl) 5 rfl ?_
    refine vf_aload_n C (f := 0) (zdg dz_E_sheet_1 3 rfl) 0 rfl rfl ?_
    refine vf_getp C fl_E_26 sh_0 rfl (by decide) rfl (x := 6) rfl (zdg dz_E_sheet_1 4 rfl) ?_
    refine vf_get C (kd := 0) fl_E_87 sh_5 rfl (by decide) rfl rfl (zdg dz_E_sheet_1 5 rfl) ?_
    refine vf_icmp_ge C (off := 40) (tgt := 95) (zdg dz_E_sheet_1 6 rfl) (by decide) ?_ ?_
    · refine vf_aload_n C (f := 0) (zdg dz_E_sheet_2 2 rfl) 0 rfl rfl ?_
      refine vf_getp C fl_E_26 sh_0 rfl (by decide) rfl (x := 6) rfl (zdg dz_E_sheet_2 3 rfl) ?_
      refine vf_aload_n C (f := 0) (zdg dz_E_sheet_2 4 rfl) 0 rfl rfl ?_
      refine vf_getp C fl_E_26 sh_0 rfl (by decide) rfl (x := 6) rfl (zdg dz_E_sheet_2 5 rfl) ?_
      refine vf_callVi C cy_F_everybody ml_E_172 rfl (ct_F_everybody _) (S := [(2, 6)]) sh_5 (by decide) rfl (jrm_of hR rfl) rfl rfl (Nat.le_of_ble_eq_true rfl) (zdg dz_E_sheet_2 6 rfl) (fun r1 u2 => ?_)
      refine vf_callVi C cy_F_pricesOf ml_E_188 rfl (ct_F_pricesOf _ _) (S := []) sh_5 (by decide) rfl (jrm_of hR rfl) rfl rfl (Nat.le_of_ble_eq_true rfl) (zdg dz_E_sheet_2 7 rfl) (fun r3 u4 => ?_)
      exact hr _ _ _ _ (fun h => absurd h (by decide)) (zdg dz_E_sheet_2 8 rfl)
    · refine vf_aload_n C (f := 0) (zdg dz_E_sheet_1 7 rfl) 0 rfl rfl ?_
      refine vf_getp C fl_E_26 sh_0 rfl (by decide) rfl (x := 6) rfl (zdg dz_E_sheet_1 8 rfl) ?_
      refine vf_getp C fl_E_118 sh_5 rfl (by decide) rfl (x := 7) rfl (zdg dz_E_sheet_1 9 rfl) ?_
      refine vf_iload C (zdg dz_E_sheet_1 10 rfl) 5 rfl ?_
      refine vf_iload C (zdg dz_E_sheet_1 11 rfl) 5 rfl ?_
      refine vf_iload_n C (f := 2) (zdg dz_E_sheet_1 12 rfl) 2 rfl rfl ?_
      refine vf_icmp_ge C (off := 17) (tgt := 87) (zdg dz_E_sheet_1 13 rfl) (by decide) ?_ ?_
      · refine vf_iconst C (z := 0) (zdg dz_E_sheet_1 22 rfl) (jz rfl) ?_
        exact t_E_sheet_88 C hn hR hr ih _ _ _ _ _ _ _ _
      · refine vf_iload_n C (f := 1) (zdg dz_E_sheet_1 14 rfl) 1 rfl rfl ?_
        refine vf_iload_n C (f := 3) (zdg dz_E_sheet_1 15 rfl) 3 rfl rfl ?_
        refine vf_iload C (zdg dz_E_sheet_1 16 rfl) 5 rfl ?_
        refine vf_iload C (zdg dz_E_sheet_1 17 rfl) 4 rfl ?_
        refine vf_imul C (zdg dz_E_sheet_1 18 rfl) ?_
        refine vf_iadd C (zdg dz_E_sheet_1 19 rfl) ?_
        refine vf_callSi C cy_E_entry ml_E_185 (ct_E_entry _ _ _) (S := [(0, v5), (2, 7)]) (jrm_of hR rfl) rfl rfl (Nat.le_of_ble_eq_true rfl) (zdg dz_E_sheet_1 20 rfl) (fun r7 u8 => ?_)
        refine vf_goto C (off := 4) (tgt := 88) (zdg dz_E_sheet_1 21 rfl) (by decide) ?_
        exact t_E_sheet_88 C hn hR hr ih _ _ _ _ _ _ _ _
def f_E_sheet (v1 v2 v3 v4 : Int) (w : Wd) : Option (Int × Wd) :=
  if v1 < 0 then
    some ((-1), w)
  else
    if (3 : Int) < v1 then
      some ((-1), w)
    else
      if v2 ≤ 10 then
        if v1 = 3 then
          jcall (f_JA_fill_6 0 w) fun r9 u10 =>
          some ((-3), u10)
        else
          if (0 : Int) ≤ v2 then
            f_E_sheet_46 FU v1 v2 v3 v4 0 w
          else
            some ((-2), w)
      else
        some ((-1), w)
theorem ct_E_sheet (v1 v2 v3 v4 : Int) (w : Wd) : Ct y_E_sheet prog_1_method_11_code 6 (some .int) 3 0 [(2, 1), (0, v1), (0, v2), (0, v3), (0, v4)] w (f_E_sheet v1 v2 v3 v4 w) := by
  refine ct_of (by decide +kernel) (Or.inl ⟨rfl, rfl⟩) (Nat.le_of_ble_eq_true rfl) ?_
  intro X Qf ad C hn hR hr
  unfold f_E_sheet
  show VF X Qf ad NF 0 0 w 0 [(0, (2, 1)), (1, (0, v1)), (2, (0, v2)), (3, (0, v3)), (4, (0, v4))] [] _
  refine vf_iload_n C (f := 1) (zdg dz_E_sheet_0 0 rfl) 1 rfl rfl ?_
  refine vf_if_lt C (off := 14) (tgt := 15) (zdg dz_E_sheet_0 1 rfl) (by decide) ?_ ?_
  · refine vf_iconst C (z := (-1)) (zdg dz_E_sheet_0 8 rfl) (jz rfl) ?_
    exact hr _ _ _ _ (fun h => absurd h (by decide)) (zdg dz_E_sheet_0 9 rfl)
  · refine vf_iload_n C (f := 1) (zdg dz_E_sheet_0 2 rfl) 1 rfl rfl ?_
    refine vf_iconst C (z := 3) (zdg dz_E_sheet_0 3 rfl) (jz rfl) ?_
    refine vf_icmp_gt C (off := 9) (tgt := 15) (zdg dz_E_sheet_0 4 rfl) (by decide) ?_ ?_
    · refine vf_iconst C (z := (-1)) (zdg dz_E_sheet_0 8 rfl) (jz rfl) ?_
      exact hr _ _ _ _ (fun h => absurd h (by decide)) (zdg dz_E_sheet_0 9 rfl)
    · refine vf_iload_n C (f := 2) (zdg dz_E_sheet_0 5 rfl) 2 rfl rfl ?_
      refine vf_bipush C (z := 10) (zdg dz_E_sheet_0 6 rfl) (by decide +kernel) (jz rfl) ?_
      refine vf_icmp_le C (off := 5) (tgt := 17) (zdg dz_E_sheet_0 7 rfl) (by decide) ?_ ?_
      · refine vf_iload_n C (f := 1) (zdg dz_E_sheet_0 10 rfl) 1 rfl rfl ?_
        refine vf_iconst C (z := 3) (zdg dz_E_sheet_0 11 rfl) (jz rfl) ?_
        refine vf_icmp_ne C (off := 17) (tgt := 36) (zdg dz_E_sheet_0 12 rfl) (by decide) ?_ ?_
        · refine vf_iload_n C (f := 2) (zdg dz_E_sheet_0 20 rfl) 2 rfl rfl ?_
          refine vf_if_ge C (off := 6) (tgt := 43) (zdg dz_E_sheet_0 21 rfl) (by decide) ?_ ?_
          · refine vf_iconst C (z := 0) (zdg dz_E_sheet_1 0 rfl) (jz rfl) ?_
            refine vf_istore C (i := 5) (L' := [(0, (2, 1)), (1, (0, v1)), (2, (0, v2)), (3, (0, v3)), (4, (0, v4))]) (zdg dz_E_sheet_1 1 rfl) [0, 1, 2, 3, 4] (jrI rfl rfl) hn (by decide) ?_
            exact vf_perm [1, 2, 3, 4, 5, 0] rfl (t_E_sheet_46 C hn hR hr FU _ _ _ _ _ _)
          · refine vf_bipush C (z := (-2)) (zdg dz_E_sheet_0 22 rfl) (by decide +kernel) (jz rfl) ?_
            exact hr _ _ _ _ (fun h => absurd h (by decide)) (zdg dz_E_sheet_0 23 rfl)
        · refine vf_aload_n C (f := 0) (zdg dz_E_sheet_0 13 rfl) 0 rfl rfl ?_
          refine vf_getp C fl_E_26 sh_0 rfl (by decide) rfl (x := 6) rfl (zdg dz_E_sheet_0 14 rfl) ?_
          refine vf_getp C fl_E_118 sh_5 rfl (by decide) rfl (x := 7) rfl (zdg dz_E_sheet_0 15 rfl) ?_
          refine vf_iconst C (z := 0) (zdg dz_E_sheet_0 16 rfl) (jz rfl) ?_
          refine vf_callSv C cy_JA_fill ml_E_179 (ct_JA_fill_6 _ _) (S := []) (jrm_of hR rfl) rfl rfl (Nat.le_of_ble_eq_true rfl) (zdg dz_E_sheet_0 17 rfl) (fun r9 u10 => ?_)
          refine vf_bipush C (z := (-3)) (zdg dz_E_sheet_0 18 rfl) (by decide +kernel) (jz rfl) ?_
          exact hr _ _ _ _ (fun h => absurd h (by decide)) (zdg dz_E_sheet_0 19 rfl)
      · refine vf_iconst C (z := (-1)) (zdg dz_E_sheet_0 8 rfl) (jz rfl) ?_
        exact hr _ _ _ _ (fun h => absurd h (by decide)) (zdg dz_E_sheet_0 9 rfl)
def f_P_clear (w : Wd) : Option (Int × Wd) :=
  jlw (st w 12 2 0) fun u1 =>
  jlw (st u1 12 3 0) fun u2 =>
  some (0, u2)
theorem ct_P_clear (w : Wd) : Ct y_P_clear prog_8_method_2_code 1 none 1 9 [(2, 13)] w (f_P_clear w) := by
  refine ct_of (by decide +kernel) (Or.inr (Or.inr (Or.inr ⟨rfl, rfl⟩))) (Nat.le_of_ble_eq_true rfl) ?_
  intro X Qf ad C hn hR hr
  unfold f_P_clear
  show VF X Qf ad NF 0 0 w 0 [(0, (2, 13))] [] _
  refine vf_aload_n C (f := 0) (zdg dz_P_clear_0 0 rfl) 0 rfl rfl ?_
  refine vf_iconst C (z := 0) (zdg dz_P_clear_0 1 rfl) (jz rfl) ?_
  refine vf_put C (kd := 0) fl_P_18 fk_4_2 sh_12 rfl (by decide) rfl rfl (by decide) (zdg dz_P_clear_0 2 rfl) ?_
  generalize st w 12 2 0 = u1
  refine vf_uw ?_
  refine vf_aload_n C (f := 0) (zdg dz_P_clear_0 3 rfl) 0 rfl rfl ?_
  refine vf_iconst C (z := 0) (zdg dz_P_clear_0 4 rfl) (jz rfl) ?_
  refine vf_put C (kd := 0) fl_P_22 fk_4_3 sh_12 rfl (by decide) rfl rfl (by decide) (zdg dz_P_clear_0 5 rfl) ?_
  generalize st u1 12 3 0 = u2
  refine vf_uw ?_
  exact hr _ _ _ _ (fun h => absurd h (by decide)) (zdg dz_P_clear_0 6 rfl)
def f_P_add_39 (v1 v2 : Int) (w : Wd) : Option (Int × Wd) :=
  jlw (st w 12 3 (ior (w 12 3) (ior (ishl 1 v1) (ishl 1 v2)))) fun u1 =>
  some (0, u1)
theorem t_P_add_39 {X : jX} {Qf : Int × Wd → State → Prop} {ad : Nat → Nat} (C : Cx X prog_8_method_3_code "EachBringsAnother$Plan") (hn : xn X = 3) (hR : xR X = rmD 1) (hr : Rt X Qf ad prog_8_method_3_code 9) (v1 v2 : Int) (w : Wd) : VF X Qf ad NF 0 0 w 39 [(0, (2, 13)), (1, (0, v1)), (2, (0, v2))] [] (f_P_add_39 v1 v2 w) := by
  unfold f_P_add_39
  refine vf_aload_n C (f := 0) (zdg dz_P_add_0 22 rfl) 0 rfl rfl ?_
  refine vf_dup C (zdg dz_P_add_0 23 rfl) (Nat.succ_ne_self 1) ?_
  refine vf_get C (kd := 0) fl_P_22 sh_12 rfl (by decide) rfl rfl (zdg dz_P_add_1 0 rfl) ?_
  refine vf_iconst C (z := 1) (zdg dz_P_add_1 1 rfl) (jz rfl) ?_
  refine vf_iload_n C (f := 1) (zdg dz_P_add_1 2 rfl) 1 rfl rfl ?_
  refine vf_ishl C (zdg dz_P_add_1 3 rfl) ?_
  refine vf_iconst C (z := 1) (zdg dz_P_add_1 4 rfl) (jz rfl) ?_
  refine vf_iload_n C (f := 2) (zdg dz_P_add_1 5 rfl) 2 rfl rfl ?_
  refine vf_ishl C (zdg dz_P_add_1 6 rfl) ?_
  refine vf_ior C (zdg dz_P_add_1 7 rfl) ?_
  refine vf_ior C (zdg dz_P_add_1 8 rfl) ?_
  refine vf_put C (kd := 0) fl_P_22 fk_4_3 sh_12 rfl (by decide) rfl rfl (by decide) (zdg dz_P_add_1 9 rfl) ?_
  generalize st w 12 3 (ior (w 12 3) (ior (ishl 1 v1) (ishl 1 v2))) = u1
  refine vf_uw ?_
  exact hr _ _ _ _ (fun h => absurd h (by decide)) (zdg dz_P_add_1 10 rfl)
def f_P_add (v1 v2 : Int) (w : Wd) : Option (Int × Wd) :=
  if (10 : Int) ≤ (w 12 2) then
    f_P_add_39 v1 v2 w
  else
    jgd ((0 : Int) ≤ (w 12 2) ∧ (w 12 2) < 10) <|
    jlw (st w 13 (w 12 2).toNat v1) fun u2 =>
    jgd ((0 : Int) ≤ (u2 12 2) ∧ (u2 12 2) < 10) <|
    jlw (st u2 14 (u2 12 2).toNat v2) fun u3 =>
    jlw (st u3 12 2 (w32 ((u3 12 2) + 1))) fun u4 =>
    f_P_add_39 v1 v2 u4
theorem ct_P_add (v1 v2 : Int) (w : Wd) : Ct y_P_add prog_8_method_3_code 3 none 1 9 [(2, 13), (0, v1), (0, v2)] w (f_P_add v1 v2 w) := by
  refine ct_of (by decide +kernel) (Or.inr (Or.inr (Or.inr ⟨rfl, rfl⟩))) (Nat.le_of_ble_eq_true rfl) ?_
  intro X Qf ad C hn hR hr
  unfold f_P_add
  show VF X Qf ad NF 0 0 w 0 [(0, (2, 13)), (1, (0, v1)), (2, (0, v2))] [] _
  refine vf_aload_n C (f := 0) (zdg dz_P_add_0 0 rfl) 0 rfl rfl ?_
  refine vf_get C (kd := 0) fl_P_18 sh_12 rfl (by decide) rfl rfl (zdg dz_P_add_0 1 rfl) ?_
  refine vf_bipush C (z := 10) (zdg dz_P_add_0 2 rfl) (by decide +kernel) (jz rfl) ?_
  refine vf_icmp_ge C (off := 33) (tgt := 39) (zdg dz_P_add_0 3 rfl) (by decide) ?_ ?_
  · exact t_P_add_39 C hn hR hr _ _ _
  · refine vf_aload_n C (f := 0) (zdg dz_P_add_0 4 rfl) 0 rfl rfl ?_
    refine vf_getp C fl_P_9 sh_12 rfl (by decide) rfl (x := 14) rfl (zdg dz_P_add_0 5 rfl) ?_
    refine vf_aload_n C (f := 0) (zdg dz_P_add_0 6 rfl) 0 rfl rfl ?_
    refine vf_get C (kd := 0) fl_P_18 sh_12 rfl (by decide) rfl rfl (zdg dz_P_add_0 7 rfl) ?_
    refine vf_iload_n C (f := 1) (zdg dz_P_add_0 8 rfl) 1 rfl rfl ?_
    refine vf_iast C sh_13 (by decide) rfl (mz := 10) rfl (zdg dz_P_add_0 9 rfl) ?_
    generalize st w 13 (w 12 2).toNat v1 = u2
    refine vf_uw ?_
    refine vf_aload_n C (f := 0) (zdg dz_P_add_0 10 rfl) 0 rfl rfl ?_
    refine vf_getp C fl_P_15 sh_12 rfl (by decide) rfl (x := 15) rfl (zdg dz_P_add_0 11 rfl) ?_
    refine vf_aload_n C (f := 0) (zdg dz_P_add_0 12 rfl) 0 rfl rfl ?_
    refine vf_get C (kd := 0) fl_P_18 sh_12 rfl (by decide) rfl rfl (zdg dz_P_add_0 13 rfl) ?_
    refine vf_iload_n C (f := 2) (zdg dz_P_add_0 14 rfl) 2 rfl rfl ?_
    refine vf_iast C sh_14 (by decide) rfl (mz := 10) rfl (zdg dz_P_add_0 15 rfl) ?_
    generalize st u2 14 (u2 12 2).toNat v2 = u3
    refine vf_uw ?_
    refine vf_aload_n C (f := 0) (zdg dz_P_add_0 16 rfl) 0 rfl rfl ?_
    refine vf_dup C (zdg dz_P_add_0 17 rfl) (Nat.succ_ne_self 1) ?_
    refine vf_get C (kd := 0) fl_P_18 sh_12 rfl (by decide) rfl rfl (zdg dz_P_add_0 18 rfl) ?_
    refine vf_iconst C (z := 1) (zdg dz_P_add_0 19 rfl) (jz rfl) ?_
    refine vf_iadd C (zdg dz_P_add_0 20 rfl) ?_
    refine vf_put C (kd := 0) fl_P_18 fk_4_2 sh_12 rfl (by decide) rfl rfl (by decide) (zdg dz_P_add_0 21 rfl) ?_
    generalize st u3 12 2 (w32 ((u3 12 2) + 1)) = u4
    refine vf_uw ?_
    exact t_P_add_39 C hn hR hr _ _ _
def f_P_read_70 (v3 : Int) (w : Wd) : Option (Int × Wd) :=
  some (w32 ((-1) - v3), w)
theorem t_P_read_70 {X : jX} {Qf : Int × Wd → State → Prop} {ad : Nat → Nat} (C : Cx X prog_8_method_7_code "EachBringsAnother$Plan") (hn : xn X = 5) (hR : xR X = rmD 2) (hr : Rt X Qf ad prog_8_method_7_code 0) (v3 : Int) (w : Wd) : VF X Qf ad NF 0 0 w 70 [(3, (0, v3))] [] (f_P_read_70 v3 w) := by
  unfold f_P_read_70
  refine vf_iconst C (z := (-1)) (zdg dz_P_read_1 15 rfl) (jz rfl) ?_
  refine vf_iload_n C (f := 3) (zdg dz_P_read_1 16 rfl) 0 rfl rfl ?_
  refine vf_isub C (zdg dz_P_read_1 17 rfl) ?_
  exact hr _ _ _ _ (fun h => absurd h (by decide)) (zdg dz_P_read_1 18 rfl)
def f_P_read_74 (k15 : Int → Wd → Option (Int × Wd)) (k23 : Int → Int → Wd → Option (Int × Wd)) (v2 v3 : Int) (w : Wd) : Option (Int × Wd) :=
  jlet (w32 (v3 + 1)) fun x14 =>
  k23 v2 x14 w
theorem t_P_read_74 {X : jX} {Qf : Int × Wd → State → Prop} {ad : Nat → Nat} (C : Cx X prog_8_method_7_code "EachBringsAnother$Plan") (hn : xn X = 5) (hR : xR X = rmD 2) (hr : Rt X Qf ad prog_8_method_7_code 0) {k15 : Int → Wd → Option (Int × Wd)} (hk15 : ∀ (v2 : Int) (w : Wd), VF X Qf ad NF 0 0 w 15 [(0, (2, 13)), (1, (2, 2)), (2, (0, v2))] [] (k15 v2 w)) {k23 : Int → Int → Wd → Option (Int × Wd)} (hk23 : ∀ (v2 v3 : Int) (w : Wd), VF X Qf ad NF 0 0 w 23 [(0, (2, 13)), (1, (2, 2)), (2, (0, v2)), (3, (0, v3))] [] (k23 v2 v3 w)) (v2 v3 : Int) (w : Wd) : VF X Qf ad NF 0 0 w 74 [(0, (2, 13)), (1, (2, 2)), (2, (0, v2)), (3, (0, v3))] [] (f_P_read_74 k15 k23 v2 v3 w) := by
  unfold f_P_read_74
  refine vf_iinc C (z := 1) (L' := [(0, (2, 13)), (1, (2, 2)), (2, (0, v2))]) (zdg dz_P_read_1 19 rfl) 3 rfl [0, 1, 2] (jrI rfl rfl) hn (by decide) ?_
  generalize w32 (v3 + 1) = x14
  refine vf_ul ?_
  refine vf_goto C (off := (-54)) (tgt := 23) (zdg dz_P_read_1 20 rfl) (by decide) ?_
  exact vf_perm [1, 2, 3, 0] rfl (hk23 _ _ _)
def f_P_read_23 (k15 : Int → Wd → Option (Int × Wd)) : Nat → Int → Int → Wd → Option (Int × Wd)
  | 0, _, _, _ => none
  | n + 1, v2, v3, w =>
    if (w32 (v2 + 3)) ≤ v3 then
      jcall (f_T_signAt v2 40 w) fun r3 u4 =>
      jcall (f_T_signAt (w32 (v2 + 2)) 40 u4) fun r5 u6 =>
      jcall (f_P_add (w32 (r3 - 97)) (w32 (r5 - 97)) u6) fun r7 u8 =>
      jcall (f_T_signAt (w32 (v2 + 3)) 40 u8) fun r9 u10 =>
      if r9 = (-1) then
        some (0, u10)
      else
        if r9 = 59 then
          jlet (w32 (v2 + 4)) fun x11 =>
          k15 x11 u10
        else
          some (w32 ((-1) - (w32 (v2 + 3))), u10)
    else
      jcall (f_T_signAt v3 40 w) fun r12 u13 =>
      if v3 = (w32 (v2 + 1)) then
        if r12 = 62 then
          f_P_read_74 k15 (f_P_read_23 k15 n) v2 v3 u13
        else
          f_P_read_70 v3 u13
      else
        if r12 < 97 then
          f_P_read_70 v3 u13
        else
          if r12 < 107 then
            f_P_read_74 k15 (f_P_read_23 k15 n) v2 v3 u13
          else
            f_P_read_70 v3 u13
theorem t_P_read_23 {X : jX} {Qf : Int × Wd → State → Prop} {ad : Nat → Nat} (C : Cx X prog_8_method_7_code "EachBringsAnother$Plan") (hn : xn X = 5) (hR : xR X = rmD 2) (hr : Rt X Qf ad prog_8_method_7_code 0) {k15 : Int → Wd → Option (Int × Wd)} (hk15 : ∀ (v2 : Int) (w : Wd), VF X Qf ad NF 0 0 w 15 [(0, (2, 13)), (1, (2, 2)), (2, (0, v2))] [] (k15 v2 w)) : ∀ (n : Nat) (v2 v3 : Int) (w : Wd), VF X Qf ad NF 0 0 w 23 [(0, (2, 13)), (1, (2, 2)), (2, (0, v2)), (3, (0, v3))] [] (f_P_read_23 k15 n v2 v3 w) := by
  intro n
  induction n with
  | zero => intros; exact vf_no
  | succ n ih =>
    intro v2 v3 w
    rw [f_P_read_23]
    refine vf_iload_n C (f := 3) (zdg dz_P_read_0 14 rfl) 3 rfl rfl ?_
    refine vf_iload_n C (f := 2) (zdg dz_P_read_0 15 rfl) 2 rfl rfl ?_
    refine vf_iconst C (z := 3) (zdg dz_P_read_0 16 rfl) (jz rfl) ?_
    refine vf_iadd C (zdg dz_P_read_0 17 rfl) ?_
    refine vf_icmp_ge C (off := 53) (tgt := 80) (zdg dz_P_read_0 18 rfl) (by decide) ?_ ?_
    · refine vf_aload_n C (f := 0) (zdg dz_P_read_1 21 rfl) 0 rfl rfl ?_
      refine vf_aload_n C (f := 1) (zdg dz_P_read_1 22 rfl) 1 rfl rfl ?_
      refine vf_iload_n C (f := 2) (zdg dz_P_read_1 23 rfl) 2 rfl rfl ?_
      refine vf_bipush C (z := 40) (zdg dz_P_read_2 0 rfl) (by decide +kernel) (jz rfl) ?_
      refine vf_callVi C cy_T_signAt ml_P_33 rfl (ct_T_signAt _ _ _) (S := [(2, 13)]) sh_1 (by decide) rfl (jrm_of hR rfl) rfl rfl (Nat.le_of_ble_eq_true rfl) (zdg dz_P_read_2 1 rfl) (fun r3 u4 => ?_)
      refine vf_bipush C (z := 97) (zdg dz_P_read_2 2 rfl) (by decide +kernel) (jz rfl) ?_
      refine vf_isub C (zdg dz_P_read_2 3 rfl) ?_
      refine vf_aload_n C (f := 1) (zdg dz_P_read_2 4 rfl) 1 rfl rfl ?_
      refine vf_iload_n C (f := 2) (zdg dz_P_read_2 5 rfl) 2 rfl rfl ?_
      refine vf_iconst C (z := 2) (zdg dz_P_read_2 6 rfl) (jz rfl) ?_
      refine vf_iadd C (zdg dz_P_read_2 7 rfl) ?_
      refine vf_bipush C (z := 40) (zdg dz_P_read_2 8 rfl) (by decide +kernel) (jz rfl) ?_
      refine vf_callVi C cy_T_signAt ml_P_33 rfl (ct_T_signAt _ _ _) (S := [(0, w32 (r3 - 97)), (2, 13)]) sh_1 (by decide) rfl (jrm_of hR rfl) rfl rfl (Nat.le_of_ble_eq_true rfl) (zdg dz_P_read_2 9 rfl) (fun r5 u6 => ?_)
      refine vf_bipush C (z := 97) (zdg dz_P_read_2 10 rfl) (by decide +kernel) (jz rfl) ?_
      refine vf_isub C (zdg dz_P_read_2 11 rfl) ?_
      refine vf_callVv C cy_P_add ml_P_37 rfl (ct_P_add _ _ _) (S := []) sh_12 (by decide) rfl (jrm_of hR rfl) rfl rfl (Nat.le_of_ble_eq_true rfl) (zdg dz_P_read_2 12 rfl) (fun r7 u8 => ?_)
      refine vf_aload_n C (f := 1) (zdg dz_P_read_2 13 rfl) 1 rfl rfl ?_
      refine vf_iload_n C (f := 2) (zdg dz_P_read_2 14 rfl) 2 rfl rfl ?_
      refine vf_iconst C (z := 3) (zdg dz_P_read_2 15 rfl) (jz rfl) ?_
      refine vf_iadd C (zdg dz_P_read_2 16 rfl) ?_
      refine vf_bipush C (z := 40) (zdg dz_P_read_2 17 rfl) (by decide +kernel) (jz rfl) ?_
      refine vf_callVi C cy_T_signAt ml_P_33 rfl (ct_T_signAt _ _ _) (S := []) sh_1 (by decide) rfl (jrm_of hR rfl) rfl rfl (Nat.le_of_ble_eq_true rfl) (zdg dz_P_read_2 18 rfl) (fun r9 u10 => ?_)
      refine vf_istore_n C (f := 3) (L' := [(0, (2, 13)), (1, (2, 2)), (2, (0, v2))]) (zdg dz_P_read_2 19 rfl) [0, 1, 2] (jrI rfl rfl) hn (by decide) rfl ?_
      refine vf_iload_n C (f := 3) (zdg dz_P_read_2 20 rfl) 0 rfl rfl ?_
      refine vf_iconst C (z := (-1)) (zdg dz_P_read_2 21 rfl) (jz rfl) ?_
      refine vf_icmp_ne C (off := 5) (tgt := 123) (zdg dz_P_read_2 22 rfl) (by decide) ?_ ?_
      · refine vf_iload_n C (f := 3) (zdg dz_P_read_3 1 rfl) 0 rfl rfl ?_
        refine vf_bipush C (z := 59) (zdg dz_P_read_3 2 rfl) (by decide +kernel) (jz rfl) ?_
        refine vf_icmp_eq C (off := 9) (tgt := 135) (zdg dz_P_read_3 3 rfl) (by decide) ?_ ?_
        · refine vf_iinc C (z := 4) (L' := [(0, (2, 13)), (1, (2, 2))]) (zdg dz_P_read_3 10 rfl) 3 rfl [1, 2] (jrI rfl rfl) hn (by decide) ?_
          generalize w32 (v2 + 4) = x11
          refine vf_ul ?_
          refine vf_goto C (off := (-123)) (tgt := 15) (zdg dz_P_read_3 11 rfl) (by decide) ?_
          exact vf_perm [1, 2, 0] rfl (hk15 _ _)
        · refine vf_iconst C (z := (-1)) (zdg dz_P_read_3 4 rfl) (jz rfl) ?_
          refine vf_iload_n C (f := 2) (zdg dz_P_read_3 5 rfl) 3 rfl rfl ?_
          refine vf_iconst C (z := 3) (zdg dz_P_read_3 6 rfl) (jz rfl) ?_
          refine vf_iadd C (zdg dz_P_read_3 7 rfl) ?_
          refine vf_isub C (zdg dz_P_read_3 8 rfl) ?_
          exact hr _ _ _ _ (fun h => absurd h (by decide)) (zdg dz_P_read_3 9 rfl)
      · refine vf_iconst C (z := 0) (zdg dz_P_read_2 23 rfl) (jz rfl) ?_
        exact hr _ _ _ _ (fun h => absurd h (by decide)) (zdg dz_P_read_3 0 rfl)
    · refine vf_aload_n C (f := 1) (zdg dz_P_read_0 19 rfl) 1 rfl rfl ?_
      refine vf_iload_n C (f := 3) (zdg dz_P_read_0 20 rfl) 3 rfl rfl ?_
      refine vf_bipush C (z := 40) (zdg dz_P_read_0 21 rfl) (by decide +kernel) (jz rfl) ?_
      refine vf_callVi C cy_T_signAt ml_P_33 rfl (ct_T_signAt _ _ _) (S := []) sh_1 (by decide) rfl (jrm_of hR rfl) rfl rfl (Nat.le_of_ble_eq_true rfl) (zdg dz_P_read_0 22 rfl) (fun r12 u13 => ?_)
      refine vf_istore C (i := 4) (L' := [(0, (2, 13)), (1, (2, 2)), (2, (0, v2)), (3, (0, v3))]) (zdg dz_P_read_0 23 rfl) [0, 1, 2, 3] (jrI rfl rfl) hn (by decide) ?_
      refine vf_iload_n C (f := 3) (zdg dz_P_read_1 0 rfl) 4 rfl rfl ?_
      refine vf_iload_n C (f := 2) (zdg dz_P_read_1 1 rfl) 3 rfl rfl ?_
      refine vf_iconst C (z := 1) (zdg dz_P_read_1 2 rfl) (jz rfl) ?_
      refine vf_iadd C (zdg dz_P_read_1 3 rfl) ?_
      refine vf_icmp_ne C (off := 13) (tgt := 56) (zdg dz_P_read_1 4 rfl) (by decide) ?_ ?_
      · refine vf_iload C (zdg dz_P_read_1 9 rfl) 0 rfl ?_
        refine vf_bipush C (z := 97) (zdg dz_P_read_1 10 rfl) (by decide +kernel) (jz rfl) ?_
        refine vf_icmp_lt C (off := 10) (tgt := 70) (zdg dz_P_read_1 11 rfl) (by decide) ?_ ?_
        · exact vf_perm [4] rfl (t_P_read_70 C hn hR hr _ _)
        · refine vf_iload C (zdg dz_P_read_1 12 rfl) 0 rfl ?_
          refine vf_bipush C (z := 107) (zdg dz_P_read_1 13 rfl) (by decide +kernel) (jz rfl) ?_
          refine vf_icmp_lt C (off := 7) (tgt := 74) (zdg dz_P_read_1 14 rfl) (by decide) ?_ ?_
          · exact vf_perm [1, 2, 3, 4] rfl (t_P_read_74 C hn hR hr hk15 ih _ _ _)
          · exact vf_perm [4] rfl (t_P_read_70 C hn hR hr _ _)
      · refine vf_iload C (zdg dz_P_read_1 5 rfl) 0 rfl ?_
        refine vf_bipush C (z := 62) (zdg dz_P_read_1 6 rfl) (by decide +kernel) (jz rfl) ?_
        refine vf_icmp_eq C (off := 24) (tgt := 74) (zdg dz_P_read_1 7 rfl) (by decide) ?_ ?_
        · exact vf_perm [1, 2, 3, 4] rfl (t_P_read_74 C hn hR hr hk15 ih _ _ _)
        · refine vf_goto C (off := 17) (tgt := 70) (zdg dz_P_read_1 8 rfl) (by decide) ?_
          exact vf_perm [4] rfl (t_P_read_70 C hn hR hr _ _)
def f_P_read_15 : Nat → Int → Wd → Option (Int × Wd)
  | 0, _, _ => none
  | n + 1, v2, w =>
    if (40 : Int) ≤ v2 then
      some ((-41), w)
    else
      f_P_read_23 (f_P_read_15 n) FU v2 v2 w
theorem t_P_read_15 {X : jX} {Qf : Int × Wd → State → Prop} {ad : Nat → Nat} (C : Cx X prog_8_method_7_code "EachBringsAnother$Plan") (hn : xn X = 5) (hR : xR X = rmD 2) (hr : Rt X Qf ad prog_8_method_7_code 0) : ∀ (n : Nat) (v2 : Int) (w : Wd), VF X Qf ad NF 0 0 w 15 [(0, (2, 13)), (1, (2, 2)), (2, (0, v2))] [] (f_P_read_15 n v2 w) := by
  intro n
  induction n with
  | zero => intros; exact vf_no
  | succ n ih =>
    intro v2 w
    rw [f_P_read_15]
    refine vf_iload_n C (f := 2) (zdg dz_P_read_0 9 rfl) 2 rfl rfl ?_
    refine vf_bipush C (z := 40) (zdg dz_P_read_0 10 rfl) (by decide +kernel) (jz rfl) ?_
    refine vf_icmp_ge C (off := 123) (tgt := 141) (zdg dz_P_read_0 11 rfl) (by decide) ?_ ?_
    · refine vf_bipush C (z := (-41)) (zdg dz_P_read_3 12 rfl) (by decide +kernel) (jz rfl) ?_
      exact hr _ _ _ _ (fun h => absurd h (by decide)) (zdg dz_P_read_3 13 rfl)
    · refine vf_iload_n C (f := 2) (zdg dz_P_read_0 12 rfl) 2 rfl rfl ?_
      refine vf_istore_n C (f := 3) (L' := [(0, (2, 13)), (1, (2, 2)), (2, (0, v2))]) (zdg dz_P_read_0 13 rfl) [0, 1, 2] (jrI rfl rfl) hn (by decide) rfl ?_
      exact vf_perm [1, 2, 3, 0] rfl (t_P_read_23 C hn hR hr ih FU _ _ _)
def f_P_read (w : Wd) : Option (Int × Wd) :=
  jcall (f_P_clear w) fun r1 u2 =>
  if (u2 1 1) = 0 then
    some (0, u2)
  else
    f_P_read_15 FU 0 u2
theorem ct_P_read (w : Wd) : Ct y_P_read prog_8_method_7_code 5 (some .int) 2 0 [(2, 13), (2, 2)] w (f_P_read w) := by
  refine ct_of (by decide +kernel) (Or.inl ⟨rfl, rfl⟩) (Nat.le_of_ble_eq_true rfl) ?_
  intro X Qf ad C hn hR hr
  unfold f_P_read
  show VF X Qf ad NF 0 0 w 0 [(0, (2, 13)), (1, (2, 2))] [] _
  refine vf_aload_n C (f := 0) (zdg dz_P_read_0 0 rfl) 0 rfl rfl ?_
  refine vf_callVv C cy_P_clear ml_P_25 rfl (ct_P_clear _) (S := []) sh_12 (by decide) rfl (jrm_of hR rfl) rfl rfl (Nat.le_of_ble_eq_true rfl) (zdg dz_P_read_0 1 rfl) (fun r1 u2 => ?_)
  refine vf_aload_n C (f := 1) (zdg dz_P_read_0 2 rfl) 1 rfl rfl ?_
  refine vf_get C (kd := 0) fl_P_28 sh_1 rfl (by decide) rfl rfl (zdg dz_P_read_0 3 rfl) ?_
  refine vf_if_ne C (off := 5) (tgt := 13) (zdg dz_P_read_0 4 rfl) (by decide) ?_ ?_
  · refine vf_iconst C (z := 0) (zdg dz_P_read_0 7 rfl) (jz rfl) ?_
    refine vf_istore_n C (f := 2) (L' := [(0, (2, 13)), (1, (2, 2))]) (zdg dz_P_read_0 8 rfl) [0, 1] (jrI rfl rfl) hn (by decide) rfl ?_
    exact vf_perm [1, 2, 0] rfl (t_P_read_15 C hn hR hr FU _ _)
  · refine vf_iconst C (z := 0) (zdg dz_P_read_0 5 rfl) (jz rfl) ?_
    exact hr _ _ _ _ (fun h => absurd h (by decide)) (zdg dz_P_read_0 6 rfl)
def f_F_free (w : Wd) : Option (Int × Wd) :=
  jcall (f_F_strangers w) fun r1 u2 =>
  some (iand r1 (ixor (u2 5 5) (-1)), u2)
theorem ct_F_free (w : Wd) : Ct y_F_free prog_3_method_6_code 1 (some .int) 3 0 [(2, 6)] w (f_F_free w) := by
  refine ct_of (by decide +kernel) (Or.inl ⟨rfl, rfl⟩) (Nat.le_of_ble_eq_true rfl) ?_
  intro X Qf ad C hn hR hr
  unfold f_F_free
  show VF X Qf ad NF 0 0 w 0 [(0, (2, 6))] [] _
  refine vf_aload_n C (f := 0) (zdg dz_F_free_0 0 rfl) 0 rfl rfl ?_
  refine vf_callVi C cy_F_strangers ml_F_47 rfl (ct_F_strangers _) (S := []) sh_5 (by decide) rfl (jrm_of hR rfl) rfl rfl (Nat.le_of_ble_eq_true rfl) (zdg dz_F_free_0 1 rfl) (fun r1 u2 => ?_)
  refine vf_aload_n C (f := 0) (zdg dz_F_free_0 2 rfl) 0 rfl rfl ?_
  refine vf_get C (kd := 0) fl_F_50 sh_5 rfl (by decide) rfl rfl (zdg dz_F_free_0 3 rfl) ?_
  refine vf_iconst C (z := (-1)) (zdg dz_F_free_0 4 rfl) (jz rfl) ?_
  refine vf_ixor C (zdg dz_F_free_0 5 rfl) ?_
  refine vf_iand C (zdg dz_F_free_0 6 rfl) ?_
  exact hr _ _ _ _ (fun h => absurd h (by decide)) (zdg dz_F_free_0 7 rfl)
def f_F_knownBy_31 (k4 : Int → Int → Int → Wd → Option (Int × Wd)) (v1 v3 s0 s1 : Int) (w : Wd) : Option (Int × Wd) :=
  jlet (ior s0 s1) fun x3 =>
  jlet (w32 (v3 + 1)) fun x4 =>
  k4 v1 x3 x4 w
theorem t_F_knownBy_31 {X : jX} {Qf : Int × Wd → State → Prop} {ad : Nat → Nat} (C : Cx X prog_3_method_8_code "EachBringsAnother$Folk") (hn : xn X = 4) (hR : xR X = rmD 2) (hr : Rt X Qf ad prog_3_method_8_code 0) {k4 : Int → Int → Int → Wd → Option (Int × Wd)} (hk4 : ∀ (v1 v2 v3 : Int) (w : Wd), VF X Qf ad NF 0 0 w 4 [(0, (2, 6)), (1, (0, v1)), (2, (0, v2)), (3, (0, v3))] [] (k4 v1 v2 v3 w)) (v1 v3 s0 s1 : Int) (w : Wd) : VF X Qf ad NF 0 0 w 31 [(0, (2, 6)), (1, (0, v1)), (3, (0, v3))] [(0, s1), (0, s0)] (f_F_knownBy_31 k4 v1 v3 s0 s1 w) := by
  unfold f_F_knownBy_31
  refine vf_ior C (zdg dz_F_knownBy_0 19 rfl) ?_
  generalize ior s0 s1 = x3
  refine vf_ul ?_
  refine vf_istore_n C (f := 2) (L' := [(0, (2, 6)), (1, (0, v1)), (3, (0, v3))]) (zdg dz_F_knownBy_0 20 rfl) [0, 1, 2] (jrI rfl rfl) hn (by decide) rfl ?_
  refine vf_iinc C (z := 1) (L' := [(2, (0, x3)), (0, (2, 6)), (1, (0, v1))]) (zdg dz_F_knownBy_0 21 rfl) 3 rfl [0, 1, 2] (jrI rfl rfl) hn (by decide) ?_
  generalize w32 (v3 + 1) = x4
  refine vf_ul ?_
  refine vf_goto C (off := (-32)) (tgt := 4) (zdg dz_F_knownBy_0 22 rfl) (by decide) ?_
  exact vf_perm [2, 3, 1, 0] rfl (hk4 _ _ _ _)
def f_F_knownBy_4 : Nat → Int → Int → Int → Wd → Option (Int × Wd)
  | 0, _, _, _, _ => none
  | n + 1, v1, v2, v3, w =>
    if (w 5 3) ≤ v3 then
      some (v2, w)
    else
      jcall (f_E_has v1 v3 w) fun r1 u2 =>
      if r1 = 0 then
        f_F_knownBy_31 (f_F_knownBy_4 n) v1 v3 v2 0 u2
      else
        jgd ((0 : Int) ≤ v3 ∧ v3 < 10) <|
        f_F_knownBy_31 (f_F_knownBy_4 n) v1 v3 v2 (u2 7 v3.toNat) u2
theorem t_F_knownBy_4 {X : jX} {Qf : Int × Wd → State → Prop} {ad : Nat → Nat} (C : Cx X prog_3_method_8_code "EachBringsAnother$Folk") (hn : xn X = 4) (hR : xR X = rmD 2) (hr : Rt X Qf ad prog_3_method_8_code 0) : ∀ (n : Nat) (v1 v2 v3 : Int) (w : Wd), VF X Qf ad NF 0 0 w 4 [(0, (2, 6)), (1, (0, v1)), (2, (0, v2)), (3, (0, v3))] [] (f_F_knownBy_4 n v1 v2 v3 w) := by
  intro n
  induction n with
  | zero => intros; exact vf_no
  | succ n ih =>
    intro v1 v2 v3 w
    rw [f_F_knownBy_4]
    refine vf_iload_n C (f := 3) (zdg dz_F_knownBy_0 4 rfl) 3 rfl rfl ?_
    refine vf_aload_n C (f := 0) (zdg dz_F_knownBy_0 5 rfl) 0 rfl rfl ?_
    refine vf_get C (kd := 0) fl_F_28 sh_5 rfl (by decide) rfl rfl (zdg dz_F_knownBy_0 6 rfl) ?_
    refine vf_icmp_ge C (off := 30) (tgt := 39) (zdg dz_F_knownBy_0 7 rfl) (by decide) ?_ ?_
    · refine vf_iload_n C (f := 2) (zdg dz_F_knownBy_0 23 rfl) 2 rfl rfl ?_
      exact hr _ _ _ _ (fun h => absurd h (by decide)) (zdg dz_F_knownBy_1 0 rfl)
    · refine vf_iload_n C (f := 2) (zdg dz_F_knownBy_0 8 rfl) 2 rfl rfl ?_
      refine vf_iload_n C (f := 1) (zdg dz_F_knownBy_0 9 rfl) 1 rfl rfl ?_
      refine vf_iload_n C (f := 3) (zdg dz_F_knownBy_0 10 rfl) 3 rfl rfl ?_
      refine vf_callSz C cy_E_has ml_F_62 (ct_E_has _ _ _) (S := [(0, v2)]) (jrm_of hR rfl) rfl rfl (Nat.le_of_ble_eq_true rfl) (zdg dz_F_knownBy_0 11 rfl) (fun r1 u2 => ?_)
      refine vf_if_eq C (off := 12) (tgt := 30) (zdg dz_F_knownBy_0 12 rfl) (by decide) ?_ ?_
      · refine vf_iconst C (z := 0) (zdg dz_F_knownBy_0 18 rfl) (jz rfl) ?_
        exact vf_perm [0, 1, 3] rfl (t_F_knownBy_31 C hn hR hr ih _ _ _ _ _)
      · refine vf_aload_n C (f := 0) (zdg dz_F_knownBy_0 13 rfl) 0 rfl rfl ?_
        refine vf_getp C fl_F_15 sh_5 rfl (by decide) rfl (x := 8) rfl (zdg dz_F_knownBy_0 14 rfl) ?_
        refine vf_iload_n C (f := 3) (zdg dz_F_knownBy_0 15 rfl) 3 rfl rfl ?_
        refine vf_iald C sh_7 (by decide) rfl (mz := 10) rfl (zdg dz_F_knownBy_0 16 rfl) ?_
        refine vf_goto C (off := 4) (tgt := 31) (zdg dz_F_knownBy_0 17 rfl) (by decide) ?_
        exact vf_perm [0, 1, 3] rfl (t_F_knownBy_31 C hn hR hr ih _ _ _ _ _)
def f_F_knownBy (v1 : Int) (w : Wd) : Option (Int × Wd) :=
  f_F_knownBy_4 FU v1 0 0 w
theorem ct_F_knownBy (v1 : Int) (w : Wd) : Ct y_F_knownBy prog_3_method_8_code 4 (some .int) 2 0 [(2, 6), (0, v1)] w (f_F_knownBy v1 w) := by
  refine ct_of (by decide +kernel) (Or.inl ⟨rfl, rfl⟩) (Nat.le_of_ble_eq_true rfl) ?_
  intro X Qf ad C hn hR hr
  unfold f_F_knownBy
  show VF X Qf ad NF 0 0 w 0 [(0, (2, 6)), (1, (0, v1))] [] _
  refine vf_iconst C (z := 0) (zdg dz_F_knownBy_0 0 rfl) (jz rfl) ?_
  refine vf_istore_n C (f := 2) (L' := [(0, (2, 6)), (1, (0, v1))]) (zdg dz_F_knownBy_0 1 rfl) [0, 1] (jrI rfl rfl) hn (by decide) rfl ?_
  refine vf_iconst C (z := 0) (zdg dz_F_knownBy_0 2 rfl) (jz rfl) ?_
  refine vf_istore_n C (f := 3) (L' := [(2, (0, 0)), (0, (2, 6)), (1, (0, v1))]) (zdg dz_F_knownBy_0 3 rfl) [0, 1, 2] (jrI rfl rfl) hn (by decide) rfl ?_
  exact vf_perm [2, 3, 1, 0] rfl (t_F_knownBy_4 C hn hR hr FU _ _ _ _)
def f_P_firstWrongPair_48 (k4 : Int → Int → Wd → Option (Int × Wd)) (v2 v3 s0 : Int) (w : Wd) : Option (Int × Wd) :=
  jcall (f_F_free w) fun r5 u6 =>
  jgd ((0 : Int) ≤ v3 ∧ v3 < 10) <|
  jcall (f_E_has (iand (iand s0 r5) (ixor v2 (-1))) (u6 14 v3.toNat) u6) fun r7 u8 =>
  if r7 = 0 then
    some (v3, u8)
  else
    jgd ((0 : Int) ≤ v3 ∧ v3 < 10) <|
    jgd ((0 : Int) ≤ v3 ∧ v3 < 10) <|
    jlet (ior v2 (ior (ishl 1 (u8 13 v3.toNat)) (ishl 1 (u8 14 v3.toNat)))) fun x9 =>
    jlet (w32 (v3 + 1)) fun x10 =>
    k4 x9 x10 u8
theorem t_P_firstWrongPair_48 {X : jX} {Qf : Int × Wd → State → Prop} {ad : Nat → Nat} (C : Cx X prog_8_method_8_code "EachBringsAnother$Plan") (hn : xn X = 5) (hR : xR X = rmD 4) (hr : Rt X Qf ad prog_8_method_8_code 0) {k4 : Int → Int → Wd → Option (Int × Wd)} (hk4 : ∀ (v2 v3 : Int) (w : Wd), VF X Qf ad NF 0 0 w 4 [(0, (2, 13)), (1, (2, 6)), (2, (0, v2)), (3, (0, v3))] [] (k4 v2 v3 w)) (v2 v3 s0 : Int) (w : Wd) : VF X Qf ad NF 0 0 w 48 [(0, (2, 13)), (1, (2, 6)), (2, (0, v2)), (3, (0, v3))] [(0, s0)] (f_P_firstWrongPair_48 k4 v2 v3 s0 w) := by
  unfold f_P_firstWrongPair_48
  refine vf_istore C (i := 4) (L' := [(0, (2, 13)), (1, (2, 6)), (2, (0, v2)), (3, (0, v3))]) (zdg dz_P_firstWrongPair_1 6 rfl) [0, 1, 2, 3] (jrI rfl rfl) hn (by decide) ?_
  refine vf_iload C (zdg dz_P_firstWrongPair_1 7 rfl) 0 rfl ?_
  refine vf_aload_n C (f := 1) (zdg dz_P_firstWrongPair_1 8 rfl) 2 rfl rfl ?_
  refine vf_callVi C cy_F_free ml_P_55 rfl (ct_F_free _) (S := [(0, s0)]) sh_5 (by decide) rfl (jrm_of hR rfl) rfl rfl (Nat.le_of_ble_eq_true rfl) (zdg dz_P_firstWrongPair_1 9 rfl) (fun r5 u6 => ?_)
  refine vf_iand C (zdg dz_P_firstWrongPair_1 10 rfl) ?_
  refine vf_iload_n C (f := 2) (zdg dz_P_firstWrongPair_1 11 rfl) 3 rfl rfl ?_
  refine vf_iconst C (z := (-1)) (zdg dz_P_firstWrongPair_1 12 rfl) (jz rfl) ?_
  refine vf_ixor C (zdg dz_P_firstWrongPair_1 13 rfl) ?_
  refine vf_iand C (zdg dz_P_firstWrongPair_1 14 rfl) ?_
  refine vf_aload_n C (f := 0) (zdg dz_P_firstWrongPair_1 15 rfl) 1 rfl rfl ?_
  refine vf_getp C fl_P_15 sh_12 rfl (by decide) rfl (x := 15) rfl (zdg dz_P_firstWrongPair_1 16 rfl) ?_
  refine vf_iload_n C (f := 3) (zdg dz_P_firstWrongPair_1 17 rfl) 4 rfl rfl ?_
  refine vf_iald C sh_14 (by decide) rfl (mz := 10) rfl (zdg dz_P_firstWrongPair_1 18 rfl) ?_
  refine vf_callSz C cy_E_has ml_P_47 (ct_E_has _ _ _) (S := []) (jrm_of hR rfl) rfl rfl (Nat.le_of_ble_eq_true rfl) (zdg dz_P_firstWrongPair_1 19 rfl) (fun r7 u8 => ?_)
  refine vf_if_ne C (off := 5) (tgt := 75) (zdg dz_P_firstWrongPair_1 20 rfl) (by decide) ?_ ?_
  · refine vf_iload_n C (f := 2) (zdg dz_P_firstWrongPair_1 23 rfl) 3 rfl rfl ?_
    refine vf_iconst C (z := 1) (zdg dz_P_firstWrongPair_2 0 rfl) (jz rfl) ?_
    refine vf_aload_n C (f := 0) (zdg dz_P_firstWrongPair_2 1 rfl) 1 rfl rfl ?_
    refine vf_getp C fl_P_9 sh_12 rfl (by decide) rfl (x := 14) rfl (zdg dz_P_firstWrongPair_2 2 rfl) ?_
    refine vf_iload_n C (f := 3) (zdg dz_P_firstWrongPair_2 3 rfl) 4 rfl rfl ?_
    refine vf_iald C sh_13 (by decide) rfl (mz := 10) rfl (zdg dz_P_firstWrongPair_2 4 rfl) ?_
    refine vf_ishl C (zdg dz_P_firstWrongPair_2 5 rfl) ?_
    refine vf_iconst C (z := 1) (zdg dz_P_firstWrongPair_2 6 rfl) (jz rfl) ?_
    refine vf_aload_n C (f := 0) (zdg dz_P_firstWrongPair_2 7 rfl) 1 rfl rfl ?_
    refine vf_getp C fl_P_15 sh_12 rfl (by decide) rfl (x := 15) rfl (zdg dz_P_firstWrongPair_2 8 rfl) ?_
    refine vf_iload_n C (f := 3) (zdg dz_P_firstWrongPair_2 9 rfl) 4 rfl rfl ?_
    refine vf_iald C sh_14 (by decide) rfl (mz := 10) rfl (zdg dz_P_firstWrongPair_2 10 rfl) ?_
    refine vf_ishl C (zdg dz_P_firstWrongPair_2 11 rfl) ?_
    refine vf_ior C (zdg dz_P_firstWrongPair_2 12 rfl) ?_
    refine vf_ior C (zdg dz_P_firstWrongPair_2 13 rfl) ?_
    generalize ior v2 (ior (ishl 1 (u8 13 v3.toNat)) (ishl 1 (u8 14 v3.toNat))) = x9
    refine vf_ul ?_
    refine vf_istore_n C (f := 2) (L' := [(0, (2, 13)), (1, (2, 6)), (3, (0, v3))]) (zdg dz_P_firstWrongPair_2 14 rfl) [1, 2, 4] (jrI rfl rfl) hn (by decide) rfl ?_
    refine vf_iinc C (z := 1) (L' := [(2, (0, x9)), (0, (2, 13)), (1, (2, 6))]) (zdg dz_P_firstWrongPair_2 15 rfl) 3 rfl [0, 1, 2] (jrI rfl rfl) hn (by decide) ?_
    generalize w32 (v3 + 1) = x10
    refine vf_ul ?_
    refine vf_goto C (off := (-94)) (tgt := 4) (zdg dz_P_firstWrongPair_2 16 rfl) (by decide) ?_
    exact vf_perm [2, 3, 1, 0] rfl (hk4 _ _ _)
  · refine vf_iload_n C (f := 3) (zdg dz_P_firstWrongPair_1 21 rfl) 4 rfl rfl ?_
    exact hr _ _ _ _ (fun h => absurd h (by decide)) (zdg dz_P_firstWrongPair_1 22 rfl)
def f_P_firstWrongPair_4 : Nat → Int → Int → Wd → Option (Int × Wd)
  | 0, _, _, _ => none
  | n + 1, v2, v3, w =>
    if (w 12 2) ≤ v3 then
      some ((-1), w)
    else
      jcall (f_F_guests w) fun r1 u2 =>
      jgd ((0 : Int) ≤ v3 ∧ v3 < 10) <|
      jcall (f_E_has (iand r1 (ixor v2 (-1))) (u2 13 v3.toNat) u2) fun r3 u4 =>
      if r3 = 0 then
        f_P_firstWrongPair_48 (f_P_firstWrongPair_4 n) v2 v3 0 u4
      else
        jgd ((0 : Int) ≤ v3 ∧ v3 < 10) <|
        jcall (f_F_knownBy (ishl 1 (u4 13 v3.toNat)) u4) fun r11 u12 =>
        f_P_firstWrongPair_48 (f_P_firstWrongPair_4 n) v2 v3 r11 u12
theorem t_P_firstWrongPair_4 {X : jX} {Qf : Int × Wd → State → Prop} {ad : Nat → Nat} (C : Cx X prog_8_method_8_code "EachBringsAnother$Plan") (hn : xn X = 5) (hR : xR X = rmD 4) (hr : Rt X Qf ad prog_8_method_8_code 0) : ∀ (n : Nat) (v2 v3 : Int) (w : Wd), VF X Qf ad NF 0 0 w 4 [(0, (2, 13)), (1, (2, 6)), (2, (0, v2)), (3, (0, v3))] [] (f_P_firstWrongPair_4 n v2 v3 w) := by
  intro n
  induction n with
  | zero => intros; exact vf_no
  | succ n ih =>
    intro v2 v3 w
    rw [f_P_firstWrongPair_4]
    refine vf_iload_n C (f := 3) (zdg dz_P_firstWrongPair_0 4 rfl) 3 rfl rfl ?_
    refine vf_aload_n C (f := 0) (zdg dz_P_firstWrongPair_0 5 rfl) 0 rfl rfl ?_
    refine vf_get C (kd := 0) fl_P_18 sh_12 rfl (by decide) rfl rfl (zdg dz_P_firstWrongPair_0 6 rfl) ?_
    refine vf_icmp_ge C (off := 92) (tgt := 101) (zdg dz_P_firstWrongPair_0 7 rfl) (by decide) ?_ ?_
    · refine vf_iconst C (z := (-1)) (zdg dz_P_firstWrongPair_2 17 rfl) (jz rfl) ?_
      exact hr _ _ _ _ (fun h => absurd h (by decide)) (zdg dz_P_firstWrongPair_2 18 rfl)
    · refine vf_aload_n C (f := 1) (zdg dz_P_firstWrongPair_0 8 rfl) 1 rfl rfl ?_
      refine vf_callVi C cy_F_guests ml_P_41 rfl (ct_F_guests _) (S := []) sh_5 (by decide) rfl (jrm_of hR rfl) rfl rfl (Nat.le_of_ble_eq_true rfl) (zdg dz_P_firstWrongPair_0 9 rfl) (fun r1 u2 => ?_)
      refine vf_iload_n C (f := 2) (zdg dz_P_firstWrongPair_0 10 rfl) 2 rfl rfl ?_
      refine vf_iconst C (z := (-1)) (zdg dz_P_firstWrongPair_0 11 rfl) (jz rfl) ?_
      refine vf_ixor C (zdg dz_P_firstWrongPair_0 12 rfl) ?_
      refine vf_iand C (zdg dz_P_firstWrongPair_0 13 rfl) ?_
      refine vf_aload_n C (f := 0) (zdg dz_P_firstWrongPair_0 14 rfl) 0 rfl rfl ?_
      refine vf_getp C fl_P_9 sh_12 rfl (by decide) rfl (x := 14) rfl (zdg dz_P_firstWrongPair_0 15 rfl) ?_
      refine vf_iload_n C (f := 3) (zdg dz_P_firstWrongPair_0 16 rfl) 3 rfl rfl ?_
      refine vf_iald C sh_13 (by decide) rfl (mz := 10) rfl (zdg dz_P_firstWrongPair_0 17 rfl) ?_
      refine vf_callSz C cy_E_has ml_P_47 (ct_E_has _ _ _) (S := []) (jrm_of hR rfl) rfl rfl (Nat.le_of_ble_eq_true rfl) (zdg dz_P_firstWrongPair_0 18 rfl) (fun r3 u4 => ?_)
      refine vf_if_eq C (off := 18) (tgt := 47) (zdg dz_P_firstWrongPair_0 19 rfl) (by decide) ?_ ?_
      · refine vf_iconst C (z := 0) (zdg dz_P_firstWrongPair_1 5 rfl) (jz rfl) ?_
        exact t_P_firstWrongPair_48 C hn hR hr ih _ _ _ _
      · refine vf_aload_n C (f := 1) (zdg dz_P_firstWrongPair_0 20 rfl) 1 rfl rfl ?_
        refine vf_iconst C (z := 1) (zdg dz_P_firstWrongPair_0 21 rfl) (jz rfl) ?_
        refine vf_aload_n C (f := 0) (zdg dz_P_firstWrongPair_0 22 rfl) 0 rfl rfl ?_
        refine vf_getp C fl_P_9 sh_12 rfl (by decide) rfl (x := 14) rfl (zdg dz_P_firstWrongPair_0 23 rfl) ?_
        refine vf_iload_n C (f := 3) (zdg dz_P_firstWrongPair_1 0 rfl) 3 rfl rfl ?_
        refine vf_iald C sh_13 (by decide) rfl (mz := 10) rfl (zdg dz_P_firstWrongPair_1 1 rfl) ?_
        refine vf_ishl C (zdg dz_P_firstWrongPair_1 2 rfl) ?_
        refine vf_callVi C cy_F_knownBy ml_P_51 rfl (ct_F_knownBy _ _) (S := []) sh_5 (by decide) rfl (jrm_of hR rfl) rfl rfl (Nat.le_of_ble_eq_true rfl) (zdg dz_P_firstWrongPair_1 3 rfl) (fun r11 u12 => ?_)
        refine vf_goto C (off := 4) (tgt := 48) (zdg dz_P_firstWrongPair_1 4 rfl) (by decide) ?_
        exact t_P_firstWrongPair_48 C hn hR hr ih _ _ _ _
def f_P_firstWrongPair (w : Wd) : Option (Int × Wd) :=
  f_P_firstWrongPair_4 FU 0 0 w
theorem ct_P_firstWrongPair (w : Wd) : Ct y_P_firstWrongPair prog_8_method_8_code 5 (some .int) 4 0 [(2, 13), (2, 6)] w (f_P_firstWrongPair w) := by
  refine ct_of (by decide +kernel) (Or.inl ⟨rfl, rfl⟩) (Nat.le_of_ble_eq_true rfl) ?_
  intro X Qf ad C hn hR hr
  unfold f_P_firstWrongPair
  show VF X Qf ad NF 0 0 w 0 [(0, (2, 13)), (1, (2, 6))] [] _
  refine vf_iconst C (z := 0) (zdg dz_P_firstWrongPair_0 0 rfl) (jz rfl) ?_
  refine vf_istore_n C (f := 2) (L' := [(0, (2, 13)), (1, (2, 6))]) (zdg dz_P_firstWrongPair_0 1 rfl) [0, 1] (jrI rfl rfl) hn (by decide) rfl ?_
  refine vf_iconst C (z := 0) (zdg dz_P_firstWrongPair_0 2 rfl) (jz rfl) ?_
  refine vf_istore_n C (f := 3) (L' := [(2, (0, 0)), (0, (2, 13)), (1, (2, 6))]) (zdg dz_P_firstWrongPair_0 3 rfl) [0, 1, 2] (jrI rfl rfl) hn (by decide) rfl ?_
  exact vf_perm [2, 3, 1, 0] rfl (t_P_firstWrongPair_4 C hn hR hr FU _ _ _)
def f_D_noteAhead (w : Wd) : Option (Int × Wd) :=
  jcall (f_D_isOne (w 15 3) w) fun r1 u2 =>
  if r1 = 0 then
    some (0, u2)
  else
    jgd ((0 : Int) ≤ (u2 15 3) ∧ (u2 15 3) < 61) <|
    jlw (st u2 17 (u2 15 3).toNat ((u2 5 4))) fun u3 =>
    jgd ((0 : Int) ≤ (u3 15 3) ∧ (u3 15 3) < 61) <|
    jlw (st u3 18 (u3 15 3).toNat ((u3 5 6))) fun u4 =>
    jlw (st u4 15 4 (w32 ((u4 15 4) + 1))) fun u5 =>
    some (0, u5)
theorem ct_D_noteAhead (w : Wd) : Ct y_D_noteAhead prog_2_method_6_code 2 none 2 9 [(2, 16), (2, 6)] w (f_D_noteAhead w) := by
  refine ct_of (by decide +kernel) (Or.inr (Or.inr (Or.inr ⟨rfl, rfl⟩))) (Nat.le_of_ble_eq_true rfl) ?_
  intro X Qf ad C hn hR hr
  unfold f_D_noteAhead
  show VF X Qf ad NF 0 0 w 0 [(0, (2, 16)), (1, (2, 6))] [] _
  refine vf_aload_n C (f := 0) (zdg dz_D_noteAhead_0 0 rfl) 0 rfl rfl ?_
  refine vf_aload_n C (f := 0) (zdg dz_D_noteAhead_0 1 rfl) 0 rfl rfl ?_
  refine vf_get C (kd := 0) fl_D_21 sh_15 rfl (by decide) rfl rfl (zdg dz_D_noteAhead_0 2 rfl) ?_
  refine vf_callVz C cy_D_isOne ml_D_25 rfl (ct_D_isOne _ _) (S := []) sh_15 (by decide) rfl (jrm_of hR rfl) rfl rfl (Nat.le_of_ble_eq_true rfl) (zdg dz_D_noteAhead_0 3 rfl) (fun r1 u2 => ?_)
  refine vf_if_eq C (off := 39) (tgt := 47) (zdg dz_D_noteAhead_0 4 rfl) (by decide) ?_ ?_
  · exact hr _ _ _ _ (fun h => absurd h (by decide)) (zdg dz_D_noteAhead_1 1 rfl)
  · refine vf_aload_n C (f := 0) (zdg dz_D_noteAhead_0 5 rfl) 0 rfl rfl ?_
    refine vf_getp C fl_D_15 sh_15 rfl (by decide) rfl (x := 18) rfl (zdg dz_D_noteAhead_0 6 rfl) ?_
    refine vf_aload_n C (f := 0) (zdg dz_D_noteAhead_0 7 rfl) 0 rfl rfl ?_
    refine vf_get C (kd := 0) fl_D_21 sh_15 rfl (by decide) rfl rfl (zdg dz_D_noteAhead_0 8 rfl) ?_
    refine vf_aload_n C (f := 1) (zdg dz_D_noteAhead_0 9 rfl) 1 rfl rfl ?_
    refine vf_get C (kd := 0) fl_D_37 sh_5 rfl (by decide) rfl rfl (zdg dz_D_noteAhead_0 10 rfl) ?_
    refine vf_iast C sh_17 (by decide) rfl (mz := 61) rfl (zdg dz_D_noteAhead_0 11 rfl) ?_
    generalize st u2 17 (u2 15 3).toNat ((u2 5 4)) = u3
    refine vf_uw ?_
    refine vf_aload_n C (f := 0) (zdg dz_D_noteAhead_0 12 rfl) 0 rfl rfl ?_
    refine vf_getp C fl_D_18 sh_15 rfl (by decide) rfl (x := 19) rfl (zdg dz_D_noteAhead_0 13 rfl) ?_
    refine vf_aload_n C (f := 0) (zdg dz_D_noteAhead_0 14 rfl) 0 rfl rfl ?_
    refine vf_get C (kd := 0) fl_D_21 sh_15 rfl (by decide) rfl rfl (zdg dz_D_noteAhead_0 15 rfl) ?_
    refine vf_aload_n C (f := 1) (zdg dz_D_noteAhead_0 16 rfl) 1 rfl rfl ?_
    refine vf_get C (kd := 0) fl_D_42 sh_5 rfl (by decide) rfl rfl (zdg dz_D_noteAhead_0 17 rfl) ?_
    refine vf_iast C sh_18 (by decide) rfl (mz := 61) rfl (zdg dz_D_noteAhead_0 18 rfl) ?_
    generalize st u3 18 (u3 15 3).toNat ((u3 5 6)) = u4
    refine vf_uw ?_
    refine vf_aload_n C (f := 0) (zdg dz_D_noteAhead_0 19 rfl) 0 rfl rfl ?_
    refine vf_dup C (zdg dz_D_noteAhead_0 20 rfl) (Nat.succ_ne_self 1) ?_
    refine vf_get C (kd := 0) fl_D_45 sh_15 rfl (by decide) rfl rfl (zdg dz_D_noteAhead_0 21 rfl) ?_
    refine vf_iconst C (z := 1) (zdg dz_D_noteAhead_0 22 rfl) (jz rfl) ?_
    refine vf_iadd C (zdg dz_D_noteAhead_0 23 rfl) ?_
    refine vf_put C (kd := 0) fl_D_45 fk_5_4 sh_15 rfl (by decide) rfl rfl (by decide) (zdg dz_D_noteAhead_1 0 rfl) ?_
    generalize st u4 15 4 (w32 ((u4 15 4) + 1)) = u5
    refine vf_uw ?_
    exact hr _ _ _ _ (fun h => absurd h (by decide)) (zdg dz_D_noteAhead_1 1 rfl)
def f_O_lateOne (v0 v1 : Int) (w : Wd) : Option (Int × Wd) :=
  if v1 ≤ 1 then
    some (0, w)
  else
    some (iand (iand v0 (ixor (ishr v0 10) (-1))) 1023, w)
theorem ct_O_lateOne (v0 v1 : Int) (w : Wd) : Ct y_O_lateOne prog_11_method_6_code 2 (some .int) 1 0 [(0, v0), (0, v1)] w (f_O_lateOne v0 v1 w) := by
  refine ct_of (by decide +kernel) (Or.inl ⟨rfl, rfl⟩) (Nat.le_of_ble_eq_true rfl) ?_
  intro X Qf ad C hn hR hr
  unfold f_O_lateOne
  show VF X Qf ad NF 0 0 w 0 [(0, (0, v0)), (1, (0, v1))] [] _
  refine vf_iload_n C (f := 1) (zdg dz_O_lateOne_0 0 rfl) 1 rfl rfl ?_
  refine vf_iconst C (z := 1) (zdg dz_O_lateOne_0 1 rfl) (jz rfl) ?_
  refine vf_icmp_le C (off := 18) (tgt := 20) (zdg dz_O_lateOne_0 2 rfl) (by decide) ?_ ?_
  · refine vf_iconst C (z := 0) (zdg dz_O_lateOne_0 13 rfl) (jz rfl) ?_
    exact hr _ _ _ _ (fun h => absurd h (by decide)) (zdg dz_O_lateOne_0 14 rfl)
  · refine vf_iload_n C (f := 0) (zdg dz_O_lateOne_0 3 rfl) 0 rfl rfl ?_
    refine vf_iload_n C (f := 0) (zdg dz_O_lateOne_0 4 rfl) 0 rfl rfl ?_
    refine vf_bipush C (z := 10) (zdg dz_O_lateOne_0 5 rfl) (by decide +kernel) (jz rfl) ?_
    refine vf_ishr C (zdg dz_O_lateOne_0 6 rfl) ?_
    refine vf_iconst C (z := (-1)) (zdg dz_O_lateOne_0 7 rfl) (jz rfl) ?_
    refine vf_ixor C (zdg dz_O_lateOne_0 8 rfl) ?_
    refine vf_iand C (zdg dz_O_lateOne_0 9 rfl) ?_
    refine vf_sipush C (z := 1023) (zdg dz_O_lateOne_0 10 rfl) (by decide +kernel) (jz rfl) ?_
    refine vf_iand C (zdg dz_O_lateOne_0 11 rfl) ?_
    refine vf_goto C (off := 4) (tgt := 21) (zdg dz_O_lateOne_0 12 rfl) (by decide) ?_
    exact hr _ _ _ _ (fun h => absurd h (by decide)) (zdg dz_O_lateOne_0 14 rfl)
def f_O_lateTwo (v0 v1 : Int) (w : Wd) : Option (Int × Wd) :=
  if v1 ≤ 2 then
    some (0, w)
  else
    some (iand (iand (ishr v0 10) (ixor v0 (-1))) 1023, w)
theorem ct_O_lateTwo (v0 v1 : Int) (w : Wd) : Ct y_O_lateTwo prog_11_method_7_code 2 (some .int) 1 0 [(0, v0), (0, v1)] w (f_O_lateTwo v0 v1 w) := by
  refine ct_of (by decide +kernel) (Or.inl ⟨rfl, rfl⟩) (Nat.le_of_ble_eq_true rfl) ?_
  intro X Qf ad C hn hR hr
  unfold f_O_lateTwo
  show VF X Qf ad NF 0 0 w 0 [(0, (0, v0)), (1, (0, v1))] [] _
  refine vf_iload_n C (f := 1) (zdg dz_O_lateTwo_0 0 rfl) 1 rfl rfl ?_
  refine vf_iconst C (z := 2) (zdg dz_O_lateTwo_0 1 rfl) (jz rfl) ?_
  refine vf_icmp_le C (off := 18) (tgt := 20) (zdg dz_O_lateTwo_0 2 rfl) (by decide) ?_ ?_
  · refine vf_iconst C (z := 0) (zdg dz_O_lateTwo_0 13 rfl) (jz rfl) ?_
    exact hr _ _ _ _ (fun h => absurd h (by decide)) (zdg dz_O_lateTwo_0 14 rfl)
  · refine vf_iload_n C (f := 0) (zdg dz_O_lateTwo_0 3 rfl) 0 rfl rfl ?_
    refine vf_bipush C (z := 10) (zdg dz_O_lateTwo_0 4 rfl) (by decide +kernel) (jz rfl) ?_
    refine vf_ishr C (zdg dz_O_lateTwo_0 5 rfl) ?_
    refine vf_iload_n C (f := 0) (zdg dz_O_lateTwo_0 6 rfl) 0 rfl rfl ?_
    refine vf_iconst C (z := (-1)) (zdg dz_O_lateTwo_0 7 rfl) (jz rfl) ?_
    refine vf_ixor C (zdg dz_O_lateTwo_0 8 rfl) ?_
    refine vf_iand C (zdg dz_O_lateTwo_0 9 rfl) ?_
    refine vf_sipush C (z := 1023) (zdg dz_O_lateTwo_0 10 rfl) (by decide +kernel) (jz rfl) ?_
    refine vf_iand C (zdg dz_O_lateTwo_0 11 rfl) ?_
    refine vf_goto C (off := 4) (tgt := 21) (zdg dz_O_lateTwo_0 12 rfl) (by decide) ?_
    exact hr _ _ _ _ (fun h => absurd h (by decide)) (zdg dz_O_lateTwo_0 14 rfl)
def f_O_out (v0 : Int) (w : Wd) : Option (Int × Wd) :=
  some (iand (ishr v0 20) 1023, w)
theorem ct_O_out (v0 : Int) (w : Wd) : Ct y_O_out prog_11_method_3_code 1 (some .int) 1 0 [(0, v0)] w (f_O_out v0 w) := by
  refine ct_of (by decide +kernel) (Or.inl ⟨rfl, rfl⟩) (Nat.le_of_ble_eq_true rfl) ?_
  intro X Qf ad C hn hR hr
  unfold f_O_out
  show VF X Qf ad NF 0 0 w 0 [(0, (0, v0))] [] _
  refine vf_iload_n C (f := 0) (zdg dz_O_out_0 0 rfl) 0 rfl rfl ?_
  refine vf_bipush C (z := 20) (zdg dz_O_out_0 1 rfl) (by decide +kernel) (jz rfl) ?_
  refine vf_ishr C (zdg dz_O_out_0 2 rfl) ?_
  refine vf_sipush C (z := 1023) (zdg dz_O_out_0 3 rfl) (by decide +kernel) (jz rfl) ?_
  refine vf_iand C (zdg dz_O_out_0 4 rfl) ?_
  exact hr _ _ _ _ (fun h => absurd h (by decide)) (zdg dz_O_out_0 5 rfl)
