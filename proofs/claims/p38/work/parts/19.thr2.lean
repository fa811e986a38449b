def f_E_of (v1 v2 : Int) (w : Wd) : Option (Int × Wd) :=
  jcall (f_F_isThere v1 w) fun r1 u2 =>
  if r1 = 0 then
    some (THR, u2)
  else
    if v2 < 0 ∨ 6 < v2 then
      some (THR, u2)
    else
    if v2 = 0 then
      jgd ((0 : Int) ≤ v1 ∧ v1 < 10) <|
      some (u2 6 v1.toNat, u2)
    else
    if v2 = 1 then
      jgd ((0 : Int) ≤ v1 ∧ v1 < 10) <|
      some (u2 7 v1.toNat, u2)
    else
    if v2 = 2 then
      jcall (f_E_has (u2 5 5) v1 u2) fun r3 u4 =>
      if r3 = 0 then
        some (0, u4)
      else
        some (1, u4)
    else
    if v2 = 3 then
      jcall (f_F_strangers u2) fun r5 u6 =>
      jcall (f_E_has r5 v1 u6) fun r7 u8 =>
      if r7 = 0 then
        jcall (f_F_guests u8) fun r9 u10 =>
        jcall (f_E_has r9 v1 u10) fun r11 u12 =>
        if r11 = 0 then
          some (2, u12)
        else
          some (1, u12)
      else
        some (0, u8)
    else
    if v2 = 4 then
      jcall (f_O_late (u2 5 4) v1 u2) fun r13 u14 =>
      some (r13, u14)
    else
    if v2 = 5 then
      jgd ((0 : Int) ≤ v1 ∧ v1 < 10) <|
      some (u2 8 v1.toNat, u2)
    else
    if v2 = 6 then
      jcall (f_D_firstWeekOf v1 u2) fun r15 u16 =>
      some (r15, u16)
    else
    none
theorem ct_E_of (v1 v2 : Int) (w : Wd) : CtX y_E_of prog_1_method_6_code 3 (some .int) 8 [(2, 1), (0, v1), (0, v2)] w (f_E_of v1 v2 w) := by
  refine ctx_of (by decide +kernel) rfl (by decide) (Nat.le_of_ble_eq_true rfl) ?_
  intro X Qf ad C hn hR hr tx
  unfold f_E_of
  show VF X Qf ad NF 0 0 w 0 [(0, (2, 1)), (1, (0, v1)), (2, (0, v2))] [] _
  refine vf_aload_n C (f := 0) (zdg dz_E_of_0 0 rfl) 0 rfl rfl ?_
  refine vf_getp C fl_E_26 sh_0 rfl (by decide) rfl (x := 6) rfl (zdg dz_E_of_0 1 rfl) ?_
  refine vf_iload_n C (f := 1) (zdg dz_E_of_0 2 rfl) 1 rfl rfl ?_
  refine vf_callVz C cy_F_isThere ml_E_108 rfl (ct_F_isThere _ _) (S := []) sh_5 (by decide) rfl (jrm_x hR rfl) rfl rfl (Nat.le_of_ble_eq_true rfl) (zdg dz_E_of_0 3 rfl) (fun r1 u2 => ?_)
  refine vf_if_ne C (off := 13) (tgt := 21) (zdg dz_E_of_0 4 rfl) (by decide) ?_ ?_
  · refine vf_iload_n C (f := 2) (zdg dz_E_of_0 10 rfl) 2 rfl rfl ?_
    refine vf_if _ (fun h => ?_) (fun _ => ?_)
    · refine vf_swd C (dflt := 151) (lo := 0) (hi := 6) (offs := #[42, 52, 62, 82, 120, 132, 142]) (len := 42) (tgt := 173) (by decide +kernel) h (by decide) ?_
      exact tx _ _ _ (Or.inr (Or.inl ⟨by decide +kernel, by decide +kernel, by decide +kernel, by decide +kernel, by decide +kernel⟩))
    refine vf_if _ (fun h => ?_) (fun _ => ?_)
    · refine vf_swx C (dflt := 151) (lo := 0) (hi := 6) (offs := #[42, 52, 62, 82, 120, 132, 142]) (len := 42) (z := 0) (off := 42) (tgt := 64) (by decide +kernel) h (by decide) (by decide) rfl (by decide) ?_
      refine vf_aload_n C (f := 0) (zdg dz_E_of_0 11 rfl) 0 rfl rfl ?_
      refine vf_getp C fl_E_26 sh_0 rfl (by decide) rfl (x := 6) rfl (zdg dz_E_of_0 12 rfl) ?_
      refine vf_getp C fl_E_118 sh_5 rfl (by decide) rfl (x := 7) rfl (zdg dz_E_of_0 13 rfl) ?_
      refine vf_iload_n C (f := 1) (zdg dz_E_of_0 14 rfl) 1 rfl rfl ?_
      refine vf_iald C sh_6 (by decide) rfl (mz := 10) rfl (zdg dz_E_of_0 15 rfl) ?_
      exact hr _ _ _ _ (fun h => absurd h (by decide)) (zdg dz_E_of_0 16 rfl)
    refine vf_if _ (fun h => ?_) (fun _ => ?_)
    · refine vf_swx C (dflt := 151) (lo := 0) (hi := 6) (offs := #[42, 52, 62, 82, 120, 132, 142]) (len := 42) (z := 1) (off := 52) (tgt := 74) (by decide +kernel) h (by decide) (by decide) rfl (by decide) ?_
      refine vf_aload_n C (f := 0) (zdg dz_E_of_0 17 rfl) 0 rfl rfl ?_
      refine vf_getp C fl_E_26 sh_0 rfl (by decide) rfl (x := 6) rfl (zdg dz_E_of_0 18 rfl) ?_
      refine vf_getp C fl_E_122 sh_5 rfl (by decide) rfl (x := 8) rfl (zdg dz_E_of_0 19 rfl) ?_
      refine vf_iload_n C (f := 1) (zdg dz_E_of_0 20 rfl) 1 rfl rfl ?_
      refine vf_iald C sh_7 (by decide) rfl (mz := 10) rfl (zdg dz_E_of_0 21 rfl) ?_
      exact hr _ _ _ _ (fun h => absurd h (by decide)) (zdg dz_E_of_0 22 rfl)
    refine vf_if _ (fun h => ?_) (fun _ => ?_)
    · refine vf_swx C (dflt := 151) (lo := 0) (hi := 6) (offs := #[42, 52, 62, 82, 120, 132, 142]) (len := 42) (z := 2) (off := 62) (tgt := 84) (by decide +kernel) h (by decide) (by decide) rfl (by decide) ?_
      refine vf_aload_n C (f := 0) (zdg dz_E_of_0 23 rfl) 0 rfl rfl ?_
      refine vf_getp C fl_E_26 sh_0 rfl (by decide) rfl (x := 6) rfl (zdg dz_E_of_1 0 rfl) ?_
      refine vf_get C (kd := 0) fl_E_125 sh_5 rfl (by decide) rfl rfl (zdg dz_E_of_1 1 rfl) ?_
      refine vf_iload_n C (f := 1) (zdg dz_E_of_1 2 rfl) 1 rfl rfl ?_
      refine vf_callSz C cy_E_has ml_E_128 (ct_E_has _ _ _) (S := []) (jrm_x hR rfl) rfl rfl (Nat.le_of_ble_eq_true rfl) (zdg dz_E_of_1 3 rfl) (fun r3 u4 => ?_)
      refine vf_if_eq C (off := 7) (tgt := 102) (zdg dz_E_of_1 4 rfl) (by decide) ?_ ?_
      · refine vf_iconst C (z := 0) (zdg dz_E_of_1 7 rfl) (jz rfl) ?_
        exact hr _ _ _ _ (fun h => absurd h (by decide)) (zdg dz_E_of_1 8 rfl)
      · refine vf_iconst C (z := 1) (zdg dz_E_of_1 5 rfl) (jz rfl) ?_
        refine vf_goto C (off := 4) (tgt := 103) (zdg dz_E_of_1 6 rfl) (by decide) ?_
        exact hr _ _ _ _ (fun h => absurd h (by decide)) (zdg dz_E_of_1 8 rfl)
    refine vf_if _ (fun h => ?_) (fun _ => ?_)
    · refine vf_swx C (dflt := 151) (lo := 0) (hi := 6) (offs := #[42, 52, 62, 82, 120, 132, 142]) (len := 42) (z := 3) (off := 82) (tgt := 104) (by decide +kernel) h (by decide) (by decide) rfl (by decide) ?_
      refine vf_aload_n C (f := 0) (zdg dz_E_of_1 9 rfl) 0 rfl rfl ?_
      refine vf_getp C fl_E_26 sh_0 rfl (by decide) rfl (x := 6) rfl (zdg dz_E_of_1 10 rfl) ?_
      refine vf_callVi C cy_F_strangers ml_E_132 rfl (ct_F_strangers _) (S := []) sh_5 (by decide) rfl (jrm_x hR rfl) rfl rfl (Nat.le_of_ble_eq_true rfl) (zdg dz_E_of_1 11 rfl) (fun r5 u6 => ?_)
      refine vf_iload_n C (f := 1) (zdg dz_E_of_1 12 rfl) 1 rfl rfl ?_
      refine vf_callSz C cy_E_has ml_E_128 (ct_E_has _ _ _) (S := []) (jrm_x hR rfl) rfl rfl (Nat.le_of_ble_eq_true rfl) (zdg dz_E_of_1 13 rfl) (fun r7 u8 => ?_)
      refine vf_if_eq C (off := 7) (tgt := 122) (zdg dz_E_of_1 14 rfl) (by decide) ?_ ?_
      · refine vf_aload_n C (f := 0) (zdg dz_E_of_1 17 rfl) 0 rfl rfl ?_
        refine vf_getp C fl_E_26 sh_0 rfl (by decide) rfl (x := 6) rfl (zdg dz_E_of_1 18 rfl) ?_
        refine vf_callVi C cy_F_guests ml_E_136 rfl (ct_F_guests _) (S := []) sh_5 (by decide) rfl (jrm_x hR rfl) rfl rfl (Nat.le_of_ble_eq_true rfl) (zdg dz_E_of_1 19 rfl) (fun r9 u10 => ?_)
        refine vf_iload_n C (f := 1) (zdg dz_E_of_1 20 rfl) 1 rfl rfl ?_
        refine vf_callSz C cy_E_has ml_E_128 (ct_E_has _ _ _) (S := []) (jrm_x hR rfl) rfl rfl (Nat.le_of_ble_eq_true rfl) (zdg dz_E_of_1 21 rfl) (fun r11 u12 => ?_)
        refine vf_if_eq C (off := 7) (tgt := 140) (zdg dz_E_of_1 22 rfl) (by decide) ?_ ?_
        · refine vf_iconst C (z := 2) (zdg dz_E_of_2 1 rfl) (jz rfl) ?_
          exact hr _ _ _ _ (fun h => absurd h (by decide)) (zdg dz_E_of_2 2 rfl)
        · refine vf_iconst C (z := 1) (zdg dz_E_of_1 23 rfl) (jz rfl) ?_
          refine vf_goto C (off := 4) (tgt := 141) (zdg dz_E_of_2 0 rfl) (by decide) ?_
          exact hr _ _ _ _ (fun h => absurd h (by decide)) (zdg dz_E_of_2 2 rfl)
      · refine vf_iconst C (z := 0) (zdg dz_E_of_1 15 rfl) (jz rfl) ?_
        refine vf_goto C (off := 22) (tgt := 141) (zdg dz_E_of_1 16 rfl) (by decide) ?_
        exact hr _ _ _ _ (fun h => absurd h (by decide)) (zdg dz_E_of_2 2 rfl)
    refine vf_if _ (fun h => ?_) (fun _ => ?_)
    · refine vf_swx C (dflt := 151) (lo := 0) (hi := 6) (offs := #[42, 52, 62, 82, 120, 132, 142]) (len := 42) (z := 4) (off := 120) (tgt := 142) (by decide +kernel) h (by decide) (by decide) rfl (by decide) ?_
      refine vf_aload_n C (f := 0) (zdg dz_E_of_2 3 rfl) 0 rfl rfl ?_
      refine vf_getp C fl_E_26 sh_0 rfl (by decide) rfl (x := 6) rfl (zdg dz_E_of_2 4 rfl) ?_
      refine vf_get C (kd := 0) fl_E_139 sh_5 rfl (by decide) rfl rfl (zdg dz_E_of_2 5 rfl) ?_
      refine vf_iload_n C (f := 1) (zdg dz_E_of_2 6 rfl) 1 rfl rfl ?_
      refine vf_callSi C cy_O_late ml_E_142 (ct_O_late _ _ _) (S := []) (jrm_x hR rfl) rfl rfl (Nat.le_of_ble_eq_true rfl) (zdg dz_E_of_2 7 rfl) (fun r13 u14 => ?_)
      exact hr _ _ _ _ (fun h => absurd h (by decide)) (zdg dz_E_of_2 8 rfl)
    refine vf_if _ (fun h => ?_) (fun _ => ?_)
    · refine vf_swx C (dflt := 151) (lo := 0) (hi := 6) (offs := #[42, 52, 62, 82, 120, 132, 142]) (len := 42) (z := 5) (off := 132) (tgt := 154) (by decide +kernel) h (by decide) (by decide) rfl (by decide) ?_
      refine vf_aload_n C (f := 0) (zdg dz_E_of_2 9 rfl) 0 rfl rfl ?_
      refine vf_getp C fl_E_26 sh_0 rfl (by decide) rfl (x := 6) rfl (zdg dz_E_of_2 10 rfl) ?_
      refine vf_getp C fl_E_148 sh_5 rfl (by decide) rfl (x := 9) rfl (zdg dz_E_of_2 11 rfl) ?_
      refine vf_iload_n C (f := 1) (zdg dz_E_of_2 12 rfl) 1 rfl rfl ?_
      refine vf_iald C sh_8 (by decide) rfl (mz := 10) rfl (zdg dz_E_of_2 13 rfl) ?_
      exact hr _ _ _ _ (fun h => absurd h (by decide)) (zdg dz_E_of_2 14 rfl)
    refine vf_if _ (fun h => ?_) (fun _ => ?_)
    · refine vf_swx C (dflt := 151) (lo := 0) (hi := 6) (offs := #[42, 52, 62, 82, 120, 132, 142]) (len := 42) (z := 6) (off := 142) (tgt := 164) (by decide +kernel) h (by decide) (by decide) rfl (by decide) ?_
      refine vf_aload_n C (f := 0) (zdg dz_E_of_2 15 rfl) 0 rfl rfl ?_
      refine vf_getp C fl_E_47 sh_0 rfl (by decide) rfl (x := 16) rfl (zdg dz_E_of_2 16 rfl) ?_
      refine vf_iload_n C (f := 1) (zdg dz_E_of_2 17 rfl) 1 rfl rfl ?_
      refine vf_callVi C cy_D_firstWeekOf ml_E_151 rfl (ct_D_firstWeekOf _ _) (S := []) sh_15 (by decide) rfl (jrm_x hR rfl) rfl rfl (Nat.le_of_ble_eq_true rfl) (zdg dz_E_of_2 18 rfl) (fun r15 u16 => ?_)
      exact hr _ _ _ _ (fun h => absurd h (by decide)) (zdg dz_E_of_2 19 rfl)
    exact vf_no
  · exact tx _ _ _ (Or.inl ⟨by decide +kernel, by decide +kernel, by decide +kernel, by decide +kernel, by decide +kernel⟩)
def f_E_row (v1 : Int) (w : Wd) : Option (Int × Wd) :=
  if v1 < 0 then
    some (THR, w)
  else
    if v1 < (w 3 1) then
      jcall (f_N_number v1 w) fun r1 u2 =>
      some (r1, u2)
    else
      some (THR, w)
theorem ct_E_row (v1 : Int) (w : Wd) : CtX y_E_row prog_1_method_43_code 2 (some .int) 8 [(2, 1), (0, v1)] w (f_E_row v1 w) := by
  refine ctx_of (by decide +kernel) rfl (by decide) (Nat.le_of_ble_eq_true rfl) ?_
  intro X Qf ad C hn hR hr tx
  unfold f_E_row
  show VF X Qf ad NF 0 0 w 0 [(0, (2, 1)), (1, (0, v1))] [] _
  refine vf_iload_n C (f := 1) (zdg dz_E_row_0 0 rfl) 1 rfl rfl ?_
  refine vf_if_lt C (off := 14) (tgt := 15) (zdg dz_E_row_0 1 rfl) (by decide) ?_ ?_
  · exact tx _ _ _ (Or.inr (Or.inr ⟨by decide +kernel, by decide +kernel, by decide +kernel, by decide +kernel, by decide +kernel⟩))
  · refine vf_iload_n C (f := 1) (zdg dz_E_row_0 2 rfl) 1 rfl rfl ?_
    refine vf_aload_n C (f := 0) (zdg dz_E_row_0 3 rfl) 0 rfl rfl ?_
    refine vf_getp C fl_E_19 sh_0 rfl (by decide) rfl (x := 4) rfl (zdg dz_E_row_0 4 rfl) ?_
    refine vf_get C (kd := 0) fl_E_244 sh_3 rfl (by decide) rfl rfl (zdg dz_E_row_0 5 rfl) ?_
    refine vf_icmp_lt C (off := 14) (tgt := 26) (zdg dz_E_row_0 6 rfl) (by decide) ?_ ?_
    · refine vf_aload_n C (f := 0) (zdg dz_E_row_0 12 rfl) 0 rfl rfl ?_
      refine vf_getp C fl_E_19 sh_0 rfl (by decide) rfl (x := 4) rfl (zdg dz_E_row_0 13 rfl) ?_
      refine vf_iload_n C (f := 1) (zdg dz_E_row_0 14 rfl) 1 rfl rfl ?_
      refine vf_callVi C cy_N_number ml_E_363 rfl (ct_N_number _ _) (S := []) sh_3 (by decide) rfl (jrm_x hR rfl) rfl rfl (Nat.le_of_ble_eq_true rfl) (zdg dz_E_row_0 15 rfl) (fun r1 u2 => ?_)
      exact hr _ _ _ _ (fun h => absurd h (by decide)) (zdg dz_E_row_0 16 rfl)
    · exact tx _ _ _ (Or.inr (Or.inr ⟨by decide +kernel, by decide +kernel, by decide +kernel, by decide +kernel, by decide +kernel⟩))
