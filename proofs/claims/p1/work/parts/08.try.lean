def y_E_has : MethodName := ⟨"EachBringsAnother", "has", "(II)Z"⟩
theorem fl_F_28 : FL "EachBringsAnother$Folk" 28 2 3 := ⟨_, rfl, by decide +kernel, Or.inl (mem_g 162 (by decide +kernel) (by decide +kernel))⟩
theorem sh_5 : sh 5 = some (.inl (2, [(3, 7), (3, 8), (3, 9), (0, 0), (0, 0), (0, 0), (0, 0), (0, 0), (0, 0)])) := rfl
theorem ml_F_62 : ML "EachBringsAnother$Folk" 62 y_E_has := Or.inr ⟨"EachBringsAnother", mem_n 526 (by decide +kernel) (by decide +kernel)⟩
theorem cy_E_has : CY y_E_has prog_1_method_44_code 2 (some .boolean) 2 true := ⟨⟨by decide +kernel, by decide +kernel, by decide +kernel⟩, mem_g 84 (by decide +kernel) (by decide +kernel), mem_g 528 (by decide +kernel) (by decide +kernel), mem_g 527 (by decide +kernel) (by decide +kernel)⟩
theorem fl_F_15 : FL "EachBringsAnother$Folk" 15 2 1 := ⟨_, rfl, by decide +kernel, Or.inl (mem_g 154 (by decide +kernel) (by decide +kernel))⟩
theorem sh_7 : sh 7 = some (.inr (0, 10, [])) := rfl
def y_F_knownBy : MethodName := ⟨"EachBringsAnother$Folk", "knownBy", "(I)I"⟩
theorem fl_F_9 : FL "EachBringsAnother$Folk" 9 2 0 := ⟨_, rfl, by decide +kernel, Or.inl (mem_g 152 (by decide +kernel) (by decide +kernel))⟩
theorem sh_6 : sh 6 = some (.inr (0, 10, [])) := rfl
theorem fl_F_18 : FL "EachBringsAnother$Folk" 18 2 2 := ⟨_, rfl, by decide +kernel, Or.inl (mem_g 158 (by decide +kernel) (by decide +kernel))⟩
theorem sh_8 : sh 8 = some (.inr (0, 10, [])) := rfl
theorem fk_2_3 : FK 2 3 0 := ⟨_, .int, rfl, by decide +kernel, by decide +kernel, Or.inl ⟨rfl, rfl⟩⟩
def y_E_with : MethodName := ⟨"EachBringsAnother", "with", "(IIZ)I"⟩
theorem ml_F_66 : ML "EachBringsAnother$Folk" 66 y_E_with := Or.inr ⟨"EachBringsAnother", mem_n 529 (by decide +kernel) (by decide +kernel)⟩
theorem cy_E_with : CY y_E_with prog_1_method_45_code 3 (some .int) 3 true := ⟨⟨by decide +kernel, by decide +kernel, by decide +kernel⟩, mem_g 84 (by decide +kernel) (by decide +kernel), mem_g 531 (by decide +kernel) (by decide +kernel), mem_g 530 (by decide +kernel) (by decide +kernel)⟩
def y_F_add : MethodName := ⟨"EachBringsAnother$Folk", "add", "(II)V"⟩
theorem fl_K_18 : FL "EachBringsAnother$Kept" 18 6 2 := ⟨_, rfl, by decide +kernel, Or.inl (mem_g 418 (by decide +kernel) (by decide +kernel))⟩
theorem sh_37 : sh 37 = some (.inl (6, [(3, 39), (3, 40), (4, 0), (0, 0), (0, 0), (0, 0), (0, 0), (0, 0), (0, 0), (0, 0)])) := rfl
theorem fl_K_22 : FL "EachBringsAnother$Kept" 22 6 3 := ⟨_, rfl, by decide +kernel, Or.inl (mem_g 419 (by decide +kernel) (by decide +kernel))⟩
theorem fl_K_26 : FL "EachBringsAnother$Kept" 26 2 3 := ⟨_, rfl, by decide +kernel, Or.inr ⟨"EachBringsAnother", mem_n 163 (by decide +kernel) (by decide +kernel)⟩⟩
def y_K_fits : MethodName := ⟨"EachBringsAnother$Kept", "fits", "(LEachBringsAnother$Folk;)Z"⟩
theorem fl_T_15 : FL "EachBringsAnother$Text" 15 0 1 := ⟨_, rfl, by decide +kernel, Or.inl (mem_g 120 (by decide +kernel) (by decide +kernel))⟩
theorem sh_1 : sh 1 = some (.inl (0, [(3, 3), (0, 0)])) := rfl
theorem fl_T_9 : FL "EachBringsAnother$Text" 9 0 0 := ⟨_, rfl, by decide +kernel, Or.inl (mem_g 119 (by decide +kernel) (by decide +kernel))⟩
theorem sh_2 : sh 2 = some (.inr (5, 80, [])) := rfl
theorem fk_0_1 : FK 0 1 0 := ⟨_, .int, rfl, by decide +kernel, by decide +kernel, Or.inl ⟨rfl, rfl⟩⟩
def y_T_append : MethodName := ⟨"EachBringsAnother$Text", "append", "(I)I"⟩
def y_JI_bitCount : MethodName := ⟨"java/lang/Integer", "bitCount", "(I)I"⟩
theorem ml_O_29 : ML "EachBringsAnother$Who" 29 y_JI_bitCount := Or.inl (mem_g 885 (by decide +kernel) (by decide +kernel))
theorem cy_JI_bitCount : CY y_JI_bitCount prog_17_method_49_code 1 (some .int) 1 true := ⟨⟨by decide +kernel, by decide +kernel, by decide +kernel⟩, mem_g 98 (by decide +kernel) (by decide +kernel), mem_g 701 (by decide +kernel) (by decide +kernel), mem_g 700 (by decide +kernel) (by decide +kernel)⟩
theorem kc_JI_265 : Cond.constant "java/lang/Integer" 265 (1431655765) ∈ gw_tbl := mem_g 702 (by decide +kernel) (by decide +kernel)
theorem kc_JI_266 : Cond.constant "java/lang/Integer" 266 (858993459) ∈ gw_tbl := mem_g 703 (by decide +kernel) (by decide +kernel)
theorem kc_JI_267 : Cond.constant "java/lang/Integer" 267 (252645135) ∈ gw_tbl := mem_g 704 (by decide +kernel) (by decide +kernel)
def y_O_out : MethodName := ⟨"EachBringsAnother$Who", "out", "(I)I"⟩
theorem ml_O_26 : ML "EachBringsAnother$Who" 26 y_O_out := Or.inl (mem_g 729 (by decide +kernel) (by decide +kernel))
theorem cy_O_out : CY y_O_out prog_11_method_3_code 1 (some .int) 1 true := ⟨⟨by decide +kernel, by decide +kernel, by decide +kernel⟩, mem_g 96 (by decide +kernel) (by decide +kernel), mem_g 731 (by decide +kernel) (by decide +kernel), mem_g 730 (by decide +kernel) (by decide +kernel)⟩
def y_O_known : MethodName := ⟨"EachBringsAnother$Who", "known", "(I)I"⟩
theorem ml_O_34 : ML "EachBringsAnother$Who" 34 y_O_known := Or.inl (mem_g 886 (by decide +kernel) (by decide +kernel))
theorem cy_O_known : CY y_O_known prog_11_method_4_code 1 (some .int) 1 true := ⟨⟨by decide +kernel, by decide +kernel, by decide +kernel⟩, mem_g 96 (by decide +kernel) (by decide +kernel), mem_g 685 (by decide +kernel) (by decide +kernel), mem_g 684 (by decide +kernel) (by decide +kernel)⟩
def y_O_rank : MethodName := ⟨"EachBringsAnother$Who", "rank", "(I)I"⟩
def FU : Nat := 4000000000
def f_E_has (v0 v1 : Int) (w : Wd) : Option (Int × Wd) :=
  if v1 < 0 then
    some (0, w)
  else
    if 10 ≤ v1 then
      some (0, w)
    else
      if (iand (ishr v0 v1) 1) = 0 then
        some (0, w)
      else
        some (1, w)
theorem ct_E_has (v0 v1 : Int) (w : Wd) : Ct y_E_has prog_1_method_44_code 2 (some .boolean) 1 4 [(0, v0), (0, v1)] w (f_E_has v0 v1 w) := by
  refine ct_of (by decide +kernel) (Or.inr (Or.inr (Or.inl ⟨rfl, rfl⟩))) (Nat.le_of_ble_eq_true rfl) ?_
  intro X Qf ad C hn hR hr
  unfold f_E_has
  show VF X Qf ad NF 0 0 w 0 [(0, (0, v0)), (1, (0, v1))] [] _
  refine vf_iload_n C (f := 1) (by decide +kernel) 1 rfl rfl ?_
  refine vf_if_lt C (off := 21) (tgt := 22) (by decide +kernel) (by decide) ?_ ?_
  · refine vf_iconst C (z := 0) (by decide +kernel) (jz rfl) ?_
    exact hr _ _ _ _ (fun _ => Or.inl rfl) (by decide +kernel)
  · refine vf_iload_n C (f := 1) (by decide +kernel) 1 rfl rfl ?_
    refine vf_bipush C (z := 10) (by decide +kernel) (by decide +kernel) (jz rfl) ?_
    refine vf_icmp_ge C (off := 15) (tgt := 22) (by decide +kernel) (by decide) ?_ ?_
    · refine vf_iconst C (z := 0) (by decide +kernel) (jz rfl) ?_
      exact hr _ _ _ _ (fun _ => Or.inl rfl) (by decide +kernel)
    · refine vf_iload_n C (f := 0) (by decide +kernel) 0 rfl rfl ?_
      refine vf_iload_n C (f := 1) (by decide +kernel) 1 rfl rfl ?_
      refine vf_ishr C (by decide +kernel) ?_
      refine vf_iconst C (z := 1) (by decide +kernel) (jz rfl) ?_
      refine vf_iand C (by decide +kernel) ?_
      refine vf_if_eq C (off := 7) (tgt := 22) (by decide +kernel) (by decide) ?_ ?_
      · refine vf_iconst C (z := 0) (by decide +kernel) (jz rfl) ?_
        exact hr _ _ _ _ (fun _ => Or.inl rfl) (by decide +kernel)
      · refine vf_iconst C (z := 1) (by decide +kernel) (jz rfl) ?_
        refine vf_goto C (off := 4) (tgt := 23) (by decide +kernel) (by decide) ?_
        exact hr _ _ _ _ (fun _ => Or.inr rfl) (by decide +kernel)
def f_F_knownBy_31 (k4 : Int → Int → Int → Wd → Option (Int × Wd)) (v1 v3 s0 s1 : Int) (w : Wd) : Option (Int × Wd) :=
  jlet (ior s0 s1) fun x3 =>
  jlet (w32 (v3 + 1)) fun x4 =>
  k4 v1 x3 x4 w
theorem t_F_knownBy_31 {X : jX} {Qf : Int × Wd → State → Prop} {ad : Nat → Nat} (C : Cx X prog_3_method_8_code "EachBringsAnother$Folk") (hn : xn X = 4) (hR : xR X = rmD 2) (hr : Rt X Qf ad prog_3_method_8_code 0) {k4 : Int → Int → Int → Wd → Option (Int × Wd)} (hk4 : ∀ (v1 v2 v3 : Int) (w : Wd), VF X Qf ad NF 0 0 w 4 [(0, (2, 6)), (1, (0, v1)), (2, (0, v2)), (3, (0, v3))] [] (k4 v1 v2 v3 w)) (v1 v3 s0 s1 : Int) (w : Wd) : VF X Qf ad NF 0 0 w 31 [(0, (2, 6)), (1, (0, v1)), (3, (0, v3))] [(0, s1), (0, s0)] (f_F_knownBy_31 k4 v1 v3 s0 s1 w) := by
  unfold f_F_knownBy_31
  refine vf_ior C (by decide +kernel) ?_
  generalize ior s0 s1 = x3
  refine vf_ul ?_
  refine vf_istore_n C (f := 2) (L' := [(0, (2, 6)), (1, (0, v1)), (3, (0, v3))]) (by decide +kernel) [0, 1, 2] (jrI rfl rfl) hn (by decide) rfl ?_
  refine vf_iinc C (z := 1) (L' := [(2, (0, x3)), (0, (2, 6)), (1, (0, v1))]) (by decide +kernel) 3 rfl [0, 1, 2] (jrI rfl rfl) hn (by decide) ?_
  generalize w32 (v3 + 1) = x4
  refine vf_ul ?_
  refine vf_goto C (off := (-32)) (tgt := 4) (by decide +kernel) (by decide) ?_
  exact vf_perm [2, 3, 1, 0] rfl (hk4 _ _ _ _)
def f_F_knownBy_4 : Nat → Int → Int → Int → Wd → Option (Int × Wd)
  | 0, _, _, _, _ => none
  | n + 1, v1, v2, v3, w =>
    if (w 5 3) ≤ v3 then
      some (v2, w)
    else
      jcall (f_E_has v1 v3 w) fun r1 w2 =>
      if r1 = 0 then
        f_F_knownBy_31 (f_F_knownBy_4 n) v1 v3 v2 0 w2
      else
        jgd (0 ≤ v3 ∧ v3 < 10) <|
        f_F_knownBy_31 (f_F_knownBy_4 n) v1 v3 v2 (w2 7 v3.toNat) w2
theorem t_F_knownBy_4 {X : jX} {Qf : Int × Wd → State → Prop} {ad : Nat → Nat} (C : Cx X prog_3_method_8_code "EachBringsAnother$Folk") (hn : xn X = 4) (hR : xR X = rmD 2) (hr : Rt X Qf ad prog_3_method_8_code 0) : ∀ (n : Nat) (v1 v2 v3 : Int) (w : Wd), VF X Qf ad NF 0 0 w 4 [(0, (2, 6)), (1, (0, v1)), (2, (0, v2)), (3, (0, v3))] [] (f_F_knownBy_4 n v1 v2 v3 w) := by
  intro n
  induction n with
  | zero => intros; exact vf_no
  | succ n ih =>
    intro v1 v2 v3 w
    rw [f_F_knownBy_4]
    refine vf_iload_n C (f := 3) (by decide +kernel) 3 rfl rfl ?_
    refine vf_aload_n C (f := 0) (by decide +kernel) 0 rfl rfl ?_
    refine vf_get C (kd := 0) fl_F_28 sh_5 rfl (by decide) rfl rfl (by decide +kernel) ?_
    refine vf_icmp_ge C (off := 30) (tgt := 39) (by decide +kernel) (by decide) ?_ ?_
    · refine vf_iload_n C (f := 2) (by decide +kernel) 2 rfl rfl ?_
      exact hr _ _ _ _ (fun h => absurd h (by decide)) (by decide +kernel)
    · refine vf_iload_n C (f := 2) (by decide +kernel) 2 rfl rfl ?_
      refine vf_iload_n C (f := 1) (by decide +kernel) 1 rfl rfl ?_
      refine vf_iload_n C (f := 3) (by decide +kernel) 3 rfl rfl ?_
      refine vf_callSz C cy_E_has ml_F_62 (ct_E_has _ _ _) (S := [(0, v2)]) (jrm_of hR rfl) rfl rfl (Nat.le_of_ble_eq_true rfl) (by decide +kernel) (fun r1 w2 => ?_)
      refine vf_if_eq C (off := 12) (tgt := 30) (by decide +kernel) (by decide) ?_ ?_
      · refine vf_iconst C (z := 0) (by decide +kernel) (jz rfl) ?_
        exact vf_perm [0, 1, 3] rfl (t_F_knownBy_31 C hn hR hr ih _ _ _ _ _)
      · refine vf_aload_n C (f := 0) (by decide +kernel) 0 rfl rfl ?_
        refine vf_getp C fl_F_15 sh_5 rfl (by decide) rfl (x := 8) rfl (by decide +kernel) ?_
        refine vf_iload_n C (f := 3) (by decide +kernel) 3 rfl rfl ?_
        refine vf_iald C sh_7 (by decide) rfl (mz := 10) rfl (by decide +kernel) ?_
        refine vf_goto C (off := 4) (tgt := 31) (by decide +kernel) (by decide) ?_
        exact vf_perm [0, 1, 3] rfl (t_F_knownBy_31 C hn hR hr ih _ _ _ _ _)
def f_F_knownBy (v1 : Int) (w : Wd) : Option (Int × Wd) :=
  f_F_knownBy_4 FU v1 0 0 w
theorem ct_F_knownBy (v1 : Int) (w : Wd) : Ct y_F_knownBy prog_3_method_8_code 4 (some .int) 2 0 [(2, 6), (0, v1)] w (f_F_knownBy v1 w) := by
  refine ct_of (by decide +kernel) (Or.inl ⟨rfl, rfl⟩) (Nat.le_of_ble_eq_true rfl) ?_
  intro X Qf ad C hn hR hr
  unfold f_F_knownBy
  show VF X Qf ad NF 0 0 w 0 [(0, (2, 6)), (1, (0, v1))] [] _
  refine vf_iconst C (z := 0) (by decide +kernel) (jz rfl) ?_
  refine vf_istore_n C (f := 2) (L' := [(0, (2, 6)), (1, (0, v1))]) (by decide +kernel) [0, 1] (jrI rfl rfl) hn (by decide) rfl ?_
  refine vf_iconst C (z := 0) (by decide +kernel) (jz rfl) ?_
  refine vf_istore_n C (f := 3) (L' := [(2, (0, 0)), (0, (2, 6)), (1, (0, v1))]) (by decide +kernel) [0, 1, 2] (jrI rfl rfl) hn (by decide) rfl ?_
  exact vf_perm [2, 3, 1, 0] rfl (t_F_knownBy_4 C hn hR hr FU _ _ _ _)
def f_E_with (v0 v1 v2 : Int) (w : Wd) : Option (Int × Wd) :=
  if v2 = 0 then
    some (iand v0 (ixor (ishl 1 v1) (-1)), w)
  else
    some (ior v0 (ishl 1 v1), w)
theorem ct_E_with (v0 v1 v2 : Int) (w : Wd) : Ct y_E_with prog_1_method_45_code 3 (some .int) 1 0 [(0, v0), (0, v1), (0, v2)] w (f_E_with v0 v1 v2 w) := by
  refine ct_of (by decide +kernel) (Or.inl ⟨rfl, rfl⟩) (Nat.le_of_ble_eq_true rfl) ?_
  intro X Qf ad C hn hR hr
  unfold f_E_with
  show VF X Qf ad NF 0 0 w 0 [(0, (0, v0)), (1, (0, v1)), (2, (0, v2))] [] _
  refine vf_iload_n C (f := 2) (by decide +kernel) 2 rfl rfl ?_
  refine vf_if_eq C (off := 11) (tgt := 12) (by decide +kernel) (by decide) ?_ ?_
  · refine vf_iload_n C (f := 0) (by decide +kernel) 0 rfl rfl ?_
    refine vf_iconst C (z := 1) (by decide +kernel) (jz rfl) ?_
    refine vf_iload_n C (f := 1) (by decide +kernel) 1 rfl rfl ?_
    refine vf_ishl C (by decide +kernel) ?_
    refine vf_iconst C (z := (-1)) (by decide +kernel) (jz rfl) ?_
    refine vf_ixor C (by decide +kernel) ?_
    refine vf_iand C (by decide +kernel) ?_
    exact hr _ _ _ _ (fun h => absurd h (by decide)) (by decide +kernel)
  · refine vf_iload_n C (f := 0) (by decide +kernel) 0 rfl rfl ?_
    refine vf_iconst C (z := 1) (by decide +kernel) (jz rfl) ?_
    refine vf_iload_n C (f := 1) (by decide +kernel) 1 rfl rfl ?_
    refine vf_ishl C (by decide +kernel) ?_
    refine vf_ior C (by decide +kernel) ?_
    refine vf_goto C (off := 10) (tgt := 19) (by decide +kernel) (by decide) ?_
    exact hr _ _ _ _ (fun h => absurd h (by decide)) (by decide +kernel)
def f_F_add_42 : Nat → Int → Int → Wd → Option (Int × Wd)
  | 0, _, _, _ => none
  | n + 1, v2, v3, w =>
    if (w 5 3) ≤ v3 then
      jlw (st w 5 3 (w32 ((w 5 3) + 1))) fun w4 =>
      some (0, w4)
    else
      jgd (0 ≤ v3 ∧ v3 < 10) <|
      jcall (f_E_has v2 v3 w) fun r5 w6 =>
      jcall (f_E_with (w 7 v3.toNat) (w 5 3) r5 w6) fun r7 w8 =>
      jgd (0 ≤ v3 ∧ v3 < 10) <|
      jlw (st w8 7 v3.toNat r7) fun w9 =>
      jlet (w32 (v3 + 1)) fun x10 =>
      f_F_add_42 n v2 x10 w9
theorem t_F_add_42 {X : jX} {Qf : Int × Wd → State → Prop} {ad : Nat → Nat} (C : Cx X prog_3_method_10_code "EachBringsAnother$Folk") (hn : xn X = 4) (hR : xR X = rmD 2) (hr : Rt X Qf ad prog_3_method_10_code 9) : ∀ (n : Nat) (v2 v3 : Int) (w : Wd), VF X Qf ad NF 0 0 w 42 [(0, (2, 6)), (2, (0, v2)), (3, (0, v3))] [] (f_F_add_42 n v2 v3 w) := by
  intro n
  induction n with
  | zero => intros; exact vf_no
  | succ n ih =>
    intro v2 v3 w
    rw [f_F_add_42]
    refine vf_iload_n C (f := 3) (by decide +kernel) 2 rfl rfl ?_
    refine vf_aload_n C (f := 0) (by decide +kernel) 0 rfl rfl ?_
    refine vf_get C (kd := 0) fl_F_28 sh_5 rfl (by decide) rfl rfl (by decide +kernel) ?_
    refine vf_icmp_ge C (off := 33) (tgt := 80) (by decide +kernel) (by decide) ?_ ?_
    · refine vf_aload_n C (f := 0) (by decide +kernel) 0 rfl rfl ?_
      refine vf_dup C (by decide +kernel) (by decide) ?_
      refine vf_get C (kd := 0) fl_F_28 sh_5 rfl (by decide) rfl rfl (by decide +kernel) ?_
      refine vf_iconst C (z := 1) (by decide +kernel) (jz rfl) ?_
      refine vf_iadd C (by decide +kernel) ?_
      refine vf_put C (kd := 0) fl_F_28 fk_2_3 sh_5 rfl (by decide) rfl rfl (by decide) (by decide +kernel) ?_
      generalize st w 5 3 (w32 ((w 5 3) + 1)) = w4
      refine vf_uw ?_
      exact hr _ _ _ _ (fun h => absurd h (by decide)) (by decide +kernel)
    · refine vf_aload_n C (f := 0) (by decide +kernel) 0 rfl rfl ?_
      refine vf_getp C fl_F_15 sh_5 rfl (by decide) rfl (x := 8) rfl (by decide +kernel) ?_
      refine vf_iload_n C (f := 3) (by decide +kernel) 2 rfl rfl ?_
      refine vf_aload_n C (f := 0) (by decide +kernel) 0 rfl rfl ?_
      refine vf_getp C fl_F_15 sh_5 rfl (by decide) rfl (x := 8) rfl (by decide +kernel) ?_
      refine vf_iload_n C (f := 3) (by decide +kernel) 2 rfl rfl ?_
      refine vf_iald C sh_7 (by decide) rfl (mz := 10) rfl (by decide +kernel) ?_
      refine vf_aload_n C (f := 0) (by decide +kernel) 0 rfl rfl ?_
      refine vf_get C (kd := 0) fl_F_28 sh_5 rfl (by decide) rfl rfl (by decide +kernel) ?_
      refine vf_iload_n C (f := 2) (by decide +kernel) 1 rfl rfl ?_
      refine vf_iload_n C (f := 3) (by decide +kernel) 2 rfl rfl ?_
      refine vf_callSz C cy_E_has ml_F_62 (ct_E_has _ _ _) (S := [(0, w 5 3), (0, w 7 v3.toNat), (0, v3), (2, 8)]) (jrm_of hR rfl) rfl rfl (Nat.le_of_ble_eq_true rfl) (by decide +kernel) (fun r5 w6 => ?_)
      refine vf_callSi C cy_E_with ml_F_66 (ct_E_with _ _ _ _) (S := [(0, v3), (2, 8)]) (jrm_of hR rfl) rfl rfl (Nat.le_of_ble_eq_true rfl) (by decide +kernel) (fun r7 w8 => ?_)
      refine vf_iast C sh_7 (by decide) rfl (mz := 10) rfl (by decide +kernel) ?_
      generalize st w8 7 v3.toNat r7 = w9
      refine vf_uw ?_
      refine vf_iinc C (z := 1) (L' := [(0, (2, 6)), (2, (0, v2))]) (by decide +kernel) 2 rfl [0, 1] (jrI rfl rfl) hn (by decide) ?_
      generalize w32 (v3 + 1) = x10
      refine vf_ul ?_
      refine vf_goto C (off := (-35)) (tgt := 42) (by decide +kernel) (by decide) ?_
      exact vf_perm [1, 2, 0] rfl (ih _ _ _)
def f_F_add (v1 v2 : Int) (w : Wd) : Option (Int × Wd) :=
  if (w 5 3) < 10 then
    jgd (0 ≤ (w 5 3) ∧ (w 5 3) < 10) <|
    jlw (st w 6 (w 5 3).toNat v1) fun w1 =>
    jgd (0 ≤ (w1 5 3) ∧ (w1 5 3) < 10) <|
    jlw (st w1 7 (w1 5 3).toNat v2) fun w2 =>
    jgd (0 ≤ (w2 5 3) ∧ (w2 5 3) < 10) <|
    jlw (st w2 8 (w2 5 3).toNat (-1)) fun w3 =>
    f_F_add_42 FU v2 0 w3
  else
    some (0, w)
theorem ct_F_add (v1 v2 : Int) (w : Wd) : Ct y_F_add prog_3_method_10_code 4 none 2 9 [(2, 6), (0, v1), (0, v2)] w (f_F_add v1 v2 w) := by
  refine ct_of (by decide +kernel) (Or.inr (Or.inr (Or.inr ⟨rfl, rfl⟩))) (Nat.le_of_ble_eq_true rfl) ?_
  intro X Qf ad C hn hR hr
  unfold f_F_add
  show VF X Qf ad NF 0 0 w 0 [(0, (2, 6)), (1, (0, v1)), (2, (0, v2))] [] _
  refine vf_aload_n C (f := 0) (by decide +kernel) 0 rfl rfl ?_
  refine vf_get C (kd := 0) fl_F_28 sh_5 rfl (by decide) rfl rfl (by decide +kernel) ?_
  refine vf_bipush C (z := 10) (by decide +kernel) (by decide +kernel) (jz rfl) ?_
  refine vf_icmp_lt C (off := 4) (tgt := 10) (by decide +kernel) (by decide) ?_ ?_
  · refine vf_aload_n C (f := 0) (by decide +kernel) 0 rfl rfl ?_
    refine vf_getp C fl_F_9 sh_5 rfl (by decide) rfl (x := 7) rfl (by decide +kernel) ?_
    refine vf_aload_n C (f := 0) (by decide +kernel) 0 rfl rfl ?_
    refine vf_get C (kd := 0) fl_F_28 sh_5 rfl (by decide) rfl rfl (by decide +kernel) ?_
    refine vf_iload_n C (f := 1) (by decide +kernel) 1 rfl rfl ?_
    refine vf_iast C sh_6 (by decide) rfl (mz := 10) rfl (by decide +kernel) ?_
    generalize st w 6 (w 5 3).toNat v1 = w1
    refine vf_uw ?_
    refine vf_aload_n C (f := 0) (by decide +kernel) 0 rfl rfl ?_
    refine vf_getp C fl_F_15 sh_5 rfl (by decide) rfl (x := 8) rfl (by decide +kernel) ?_
    refine vf_aload_n C (f := 0) (by decide +kernel) 0 rfl rfl ?_
    refine vf_get C (kd := 0) fl_F_28 sh_5 rfl (by decide) rfl rfl (by decide +kernel) ?_
    refine vf_iload_n C (f := 2) (by decide +kernel) 2 rfl rfl ?_
    refine vf_iast C sh_7 (by decide) rfl (mz := 10) rfl (by decide +kernel) ?_
    generalize st w1 7 (w1 5 3).toNat v2 = w2
    refine vf_uw ?_
    refine vf_aload_n C (f := 0) (by decide +kernel) 0 rfl rfl ?_
    refine vf_getp C fl_F_18 sh_5 rfl (by decide) rfl (x := 9) rfl (by decide +kernel) ?_
    refine vf_aload_n C (f := 0) (by decide +kernel) 0 rfl rfl ?_
    refine vf_get C (kd := 0) fl_F_28 sh_5 rfl (by decide) rfl rfl (by decide +kernel) ?_
    refine vf_iconst C (z := (-1)) (by decide +kernel) (jz rfl) ?_
    refine vf_iast C sh_8 (by decide) rfl (mz := 10) rfl (by decide +kernel) ?_
    generalize st w2 8 (w2 5 3).toNat (-1) = w3
    refine vf_uw ?_
    refine vf_iconst C (z := 0) (by decide +kernel) (jz rfl) ?_
    refine vf_istore_n C (f := 3) (L' := [(0, (2, 6)), (2, (0, v2))]) (by decide +kernel) [0, 2] (jrI rfl rfl) hn (by decide) rfl ?_
    exact vf_perm [1, 2, 0] rfl (t_F_add_42 C hn hR hr FU _ _ _)
  · exact hr _ _ _ _ (fun h => absurd h (by decide)) (by decide +kernel)
def f_K_fits (w : Wd) : Option (Int × Wd) :=
  if (w 37 2) = 0 then
    some (0, w)
  else
    if (w 37 3) = (w 5 3) then
      some (1, w)
    else
      some (0, w)
theorem ct_K_fits (w : Wd) : Ct y_K_fits prog_4_method_2_code 2 (some .boolean) 1 4 [(2, 38), (2, 6)] w (f_K_fits w) := by
  refine ct_of (by decide +kernel) (Or.inr (Or.inr (Or.inl ⟨rfl, rfl⟩))) (Nat.le_of_ble_eq_true rfl) ?_
  intro X Qf ad C hn hR hr
  unfold f_K_fits
  show VF X Qf ad NF 0 0 w 0 [(0, (2, 38)), (1, (2, 6))] [] _
  refine vf_aload_n C (f := 0) (by decide +kernel) 0 rfl rfl ?_
  refine vf_get C (kd := 0) fl_K_18 sh_37 rfl (by decide) rfl rfl (by decide +kernel) ?_
  refine vf_if_eq C (off := 18) (tgt := 22) (by decide +kernel) (by decide) ?_ ?_
  · refine vf_iconst C (z := 0) (by decide +kernel) (jz rfl) ?_
    exact hr _ _ _ _ (fun _ => Or.inl rfl) (by decide +kernel)
  · refine vf_aload_n C (f := 0) (by decide +kernel) 0 rfl rfl ?_
    refine vf_get C (kd := 0) fl_K_22 sh_37 rfl (by decide) rfl rfl (by decide +kernel) ?_
    refine vf_aload_n C (f := 1) (by decide +kernel) 1 rfl rfl ?_
    refine vf_get C (kd := 0) fl_K_26 sh_5 rfl (by decide) rfl rfl (by decide +kernel) ?_
    refine vf_icmp_ne C (off := 7) (tgt := 22) (by decide +kernel) (by decide) ?_ ?_
    · refine vf_iconst C (z := 0) (by decide +kernel) (jz rfl) ?_
      exact hr _ _ _ _ (fun _ => Or.inl rfl) (by decide +kernel)
    · refine vf_iconst C (z := 1) (by decide +kernel) (jz rfl) ?_
      refine vf_goto C (off := 4) (tgt := 23) (by decide +kernel) (by decide) ?_
      exact hr _ _ _ _ (fun _ => Or.inr rfl) (by decide +kernel)
def f_T_append_19 : Nat → Int → Int → Wd → Option (Int × Wd)
  | 0, _, _, _ => none
  | n + 1, v1, v2, w =>
    if v2 < 0 then
      some (w 1 1, w)
    else
      jgd (0 ≤ (w 1 1) ∧ (w 1 1) < 80) <|
      jlw (st w 2 (w 1 1).toNat (nc (i2c (iand (ishr v1 v2) 255)))) fun w1 =>
      jlw (st w1 1 1 (w32 ((w1 1 1) + 1))) fun w2 =>
      jlet (w32 (v2 + (-8))) fun x3 =>
      f_T_append_19 n v1 x3 w2
theorem t_T_append_19 {X : jX} {Qf : Int × Wd → State → Prop} {ad : Nat → Nat} (C : Cx X prog_10_method_2_code "EachBringsAnother$Text") (hn : xn X = 3) (hR : xR X = rmD 1) (hr : Rt X Qf ad prog_10_method_2_code 0) : ∀ (n : Nat) (v1 v2 : Int) (w : Wd), VF X Qf ad NF 0 0 w 19 [(0, (2, 2)), (1, (0, v1)), (2, (0, v2))] [] (f_T_append_19 n v1 v2 w) := by
  intro n
  induction n with
  | zero => intros; exact vf_no
  | succ n ih =>
    intro v1 v2 w
    rw [f_T_append_19]
    refine vf_iload_n C (f := 2) (by decide +kernel) 2 rfl rfl ?_
    refine vf_if_lt C (off := 36) (tgt := 56) (by decide +kernel) (by decide) ?_ ?_
    · refine vf_aload_n C (f := 0) (by decide +kernel) 0 rfl rfl ?_
      refine vf_get C (kd := 0) fl_T_15 sh_1 rfl (by decide) rfl rfl (by decide +kernel) ?_
      exact hr _ _ _ _ (fun h => absurd h (by decide)) (by decide +kernel)
    · refine vf_aload_n C (f := 0) (by decide +kernel) 0 rfl rfl ?_
      refine vf_getp C fl_T_9 sh_1 rfl (by decide) rfl (x := 3) rfl (by decide +kernel) ?_
      refine vf_aload_n C (f := 0) (by decide +kernel) 0 rfl rfl ?_
      refine vf_get C (kd := 0) fl_T_15 sh_1 rfl (by decide) rfl rfl (by decide +kernel) ?_
      refine vf_iload_n C (f := 1) (by decide +kernel) 1 rfl rfl ?_
      refine vf_iload_n C (f := 2) (by decide +kernel) 2 rfl rfl ?_
      refine vf_ishr C (by decide +kernel) ?_
      refine vf_sipush C (z := 255) (by decide +kernel) (by decide +kernel) (jz rfl) ?_
      refine vf_iand C (by decide +kernel) ?_
      refine vf_i2c C (by decide +kernel) ?_
      refine vf_cast C sh_2 (by decide) rfl (mz := 80) rfl (by decide +kernel) ?_
      generalize st w 2 (w 1 1).toNat (nc (i2c (iand (ishr v1 v2) 255))) = w1
      refine vf_uw ?_
      refine vf_aload_n C (f := 0) (by decide +kernel) 0 rfl rfl ?_
      refine vf_dup C (by decide +kernel) (by decide) ?_
      refine vf_get C (kd := 0) fl_T_15 sh_1 rfl (by decide) rfl rfl (by decide +kernel) ?_
      refine vf_iconst C (z := 1) (by decide +kernel) (jz rfl) ?_
      refine vf_iadd C (by decide +kernel) ?_
      refine vf_put C (kd := 0) fl_T_15 fk_0_1 sh_1 rfl (by decide) rfl rfl (by decide) (by decide +kernel) ?_
      generalize st w1 1 1 (w32 ((w1 1 1) + 1)) = w2
      refine vf_uw ?_
      refine vf_iinc C (z := (-8)) (L' := [(0, (2, 2)), (1, (0, v1))]) (by decide +kernel) 2 rfl [0, 1] (jrI rfl rfl) hn (by decide) ?_
      generalize w32 (v2 + (-8)) = x3
      refine vf_ul ?_
      refine vf_goto C (off := (-34)) (tgt := 19) (by decide +kernel) (by decide) ?_
      exact vf_perm [1, 2, 0] rfl (ih _ _ _)
def f_T_append (v1 : Int) (w : Wd) : Option (Int × Wd) :=
  if (w32 ((w 1 1) + 4)) ≤ 80 then
    f_T_append_19 FU v1 24 w
  else
    some ((-1), w)
theorem ct_T_append (v1 : Int) (w : Wd) : Ct y_T_append prog_10_method_2_code 3 (some .int) 1 0 [(2, 2), (0, v1)] w (f_T_append v1 w) := by
  refine ct_of (by decide +kernel) (Or.inl ⟨rfl, rfl⟩) (Nat.le_of_ble_eq_true rfl) ?_
  intro X Qf ad C hn hR hr
  unfold f_T_append
  show VF X Qf ad NF 0 0 w 0 [(0, (2, 2)), (1, (0, v1))] [] _
  refine vf_aload_n C (f := 0) (by decide +kernel) 0 rfl rfl ?_
  refine vf_get C (kd := 0) fl_T_15 sh_1 rfl (by decide) rfl rfl (by decide +kernel) ?_
  refine vf_iconst C (z := 4) (by decide +kernel) (jz rfl) ?_
  refine vf_iadd C (by decide +kernel) ?_
  refine vf_aload_n C (f := 0) (by decide +kernel) 0 rfl rfl ?_
  refine vf_getp C fl_T_9 sh_1 rfl (by decide) rfl (x := 3) rfl (by decide +kernel) ?_
  refine vf_alen C sh_2 (by decide) (by decide) rfl (x := 80) rfl (jz rfl) (by decide +kernel) ?_
  refine vf_icmp_le C (off := 5) (tgt := 16) (by decide +kernel) (by decide) ?_ ?_
  · refine vf_bipush C (z := 24) (by decide +kernel) (by decide +kernel) (jz rfl) ?_
    refine vf_istore_n C (f := 2) (L' := [(0, (2, 2)), (1, (0, v1))]) (by decide +kernel) [0, 1] (jrI rfl rfl) hn (by decide) rfl ?_
    exact vf_perm [1, 2, 0] rfl (t_T_append_19 C hn hR hr FU _ _ _)
  · refine vf_iconst C (z := (-1)) (by decide +kernel) (jz rfl) ?_
    exact hr _ _ _ _ (fun h => absurd h (by decide)) (by decide +kernel)
def f_JI_bitCount (v0 : Int) (w : Wd) : Option (Int × Wd) :=
  jlet (w32 (v0 - (iand (iush v0 1) 1431655765))) fun x1 =>
  jlet (w32 ((iand x1 858993459) + (iand (iush x1 2) 858993459))) fun x2 =>
  jlet (iand (w32 (x2 + (iush x2 4))) 252645135) fun x3 =>
  jlet (w32 (x3 + (iush x3 8))) fun x4 =>
  jlet (w32 (x4 + (iush x4 16))) fun x5 =>
  some (iand x5 63, w)
theorem ct_JI_bitCount (v0 : Int) (w : Wd) : Ct y_JI_bitCount prog_17_method_49_code 1 (some .int) 1 0 [(0, v0)] w (f_JI_bitCount v0 w) := by
  refine ct_of (by decide +kernel) (Or.inl ⟨rfl, rfl⟩) (Nat.le_of_ble_eq_true rfl) ?_
  intro X Qf ad C hn hR hr
  unfold f_JI_bitCount
  show VF X Qf ad NF 0 0 w 0 [(0, (0, v0))] [] _
  refine vf_iload_n C (f := 0) (by decide +kernel) 0 rfl rfl ?_
  refine vf_iload_n C (f := 0) (by decide +kernel) 0 rfl rfl ?_
  refine vf_iconst C (z := 1) (by decide +kernel) (jz rfl) ?_
  refine vf_iushr C (by decide +kernel) ?_
  refine vf_ldcw C (z := 1431655765) (i := 265) (by decide +kernel) kc_JI_265 (by decide +kernel) (jz rfl) ?_
  refine vf_iand C (by decide +kernel) ?_
  refine vf_isub C (by decide +kernel) ?_
  generalize w32 (v0 - (iand (iush v0 1) 1431655765)) = x1
  refine vf_ul ?_
  refine vf_istore_n C (f := 0) (L' := []) (by decide +kernel) [] (jrI rfl rfl) hn (by decide) rfl ?_
  refine vf_iload_n C (f := 0) (by decide +kernel) 0 rfl rfl ?_
  refine vf_ldcw C (z := 858993459) (i := 266) (by decide +kernel) kc_JI_266 (by decide +kernel) (jz rfl) ?_
  refine vf_iand C (by decide +kernel) ?_
  refine vf_iload_n C (f := 0) (by decide +kernel) 0 rfl rfl ?_
  refine vf_iconst C (z := 2) (by decide +kernel) (jz rfl) ?_
  refine vf_iushr C (by decide +kernel) ?_
  refine vf_ldcw C (z := 858993459) (i := 266) (by decide +kernel) kc_JI_266 (by decide +kernel) (jz rfl) ?_
  refine vf_iand C (by decide +kernel) ?_
  refine vf_iadd C (by decide +kernel) ?_
  generalize w32 ((iand x1 858993459) + (iand (iush x1 2) 858993459)) = x2
  refine vf_ul ?_
  refine vf_istore_n C (f := 0) (L' := []) (by decide +kernel) [] (jrI rfl rfl) hn (by decide) rfl ?_
  refine vf_iload_n C (f := 0) (by decide +kernel) 0 rfl rfl ?_
  refine vf_iload_n C (f := 0) (by decide +kernel) 0 rfl rfl ?_
  refine vf_iconst C (z := 4) (by decide +kernel) (jz rfl) ?_
  refine vf_iushr C (by decide +kernel) ?_
  refine vf_iadd C (by decide +kernel) ?_
  refine vf_ldcw C (z := 252645135) (i := 267) (by decide +kernel) kc_JI_267 (by decide +kernel) (jz rfl) ?_
  refine vf_iand C (by decide +kernel) ?_
  generalize iand (w32 (x2 + (iush x2 4))) 252645135 = x3
  refine vf_ul ?_
  refine vf_istore_n C (f := 0) (L' := []) (by decide +kernel) [] (jrI rfl rfl) hn (by decide) rfl ?_
  refine vf_iload_n C (f := 0) (by decide +kernel) 0 rfl rfl ?_
  refine vf_iload_n C (f := 0) (by decide +kernel) 0 rfl rfl ?_
  refine vf_bipush C (z := 8) (by decide +kernel) (by decide +kernel) (jz rfl) ?_
  refine vf_iushr C (by decide +kernel) ?_
  refine vf_iadd C (by decide +kernel) ?_
  generalize w32 (x3 + (iush x3 8)) = x4
  refine vf_ul ?_
  refine vf_istore_n C (f := 0) (L' := []) (by decide +kernel) [] (jrI rfl rfl) hn (by decide) rfl ?_
  refine vf_iload_n C (f := 0) (by decide +kernel) 0 rfl rfl ?_
  refine vf_iload_n C (f := 0) (by decide +kernel) 0 rfl rfl ?_
  refine vf_bipush C (z := 16) (by decide +kernel) (by decide +kernel) (jz rfl) ?_
  refine vf_iushr C (by decide +kernel) ?_
  refine vf_iadd C (by decide +kernel) ?_
  generalize w32 (x4 + (iush x4 16)) = x5
  refine vf_ul ?_
  refine vf_istore_n C (f := 0) (L' := []) (by decide +kernel) [] (jrI rfl rfl) hn (by decide) rfl ?_
  refine vf_iload_n C (f := 0) (by decide +kernel) 0 rfl rfl ?_
  refine vf_bipush C (z := 63) (by decide +kernel) (by decide +kernel) (jz rfl) ?_
  refine vf_iand C (by decide +kernel) ?_
  exact hr _ _ _ _ (fun h => absurd h (by decide)) (by decide +kernel)
def f_O_out (v0 : Int) (w : Wd) : Option (Int × Wd) :=
  some (iand (ishr v0 20) 1023, w)
theorem ct_O_out (v0 : Int) (w : Wd) : Ct y_O_out prog_11_method_3_code 1 (some .int) 1 0 [(0, v0)] w (f_O_out v0 w) := by
  refine ct_of (by decide +kernel) (Or.inl ⟨rfl, rfl⟩) (Nat.le_of_ble_eq_true rfl) ?_
  intro X Qf ad C hn hR hr
  unfold f_O_out
  show VF X Qf ad NF 0 0 w 0 [(0, (0, v0))] [] _
  refine vf_iload_n C (f := 0) (by decide +kernel) 0 rfl rfl ?_
  refine vf_bipush C (z := 20) (by decide +kernel) (by decide +kernel) (jz rfl) ?_
  refine vf_ishr C (by decide +kernel) ?_
  refine vf_sipush C (z := 1023) (by decide +kernel) (by decide +kernel) (jz rfl) ?_
  refine vf_iand C (by decide +kernel) ?_
  exact hr _ _ _ _ (fun h => absurd h (by decide)) (by decide +kernel)
def f_O_known (v0 : Int) (w : Wd) : Option (Int × Wd) :=
  some (iand (ior (ior v0 (ishr v0 10)) (ishr v0 20)) 1023, w)
theorem ct_O_known (v0 : Int) (w : Wd) : Ct y_O_known prog_11_method_4_code 1 (some .int) 1 0 [(0, v0)] w (f_O_known v0 w) := by
  refine ct_of (by decide +kernel) (Or.inl ⟨rfl, rfl⟩) (Nat.le_of_ble_eq_true rfl) ?_
  intro X Qf ad C hn hR hr
  unfold f_O_known
  show VF X Qf ad NF 0 0 w 0 [(0, (0, v0))] [] _
  refine vf_iload_n C (f := 0) (by decide +kernel) 0 rfl rfl ?_
  refine vf_iload_n C (f := 0) (by decide +kernel) 0 rfl rfl ?_
  refine vf_bipush C (z := 10) (by decide +kernel) (by decide +kernel) (jz rfl) ?_
  refine vf_ishr C (by decide +kernel) ?_
  refine vf_ior C (by decide +kernel) ?_
  refine vf_iload_n C (f := 0) (by decide +kernel) 0 rfl rfl ?_
  refine vf_bipush C (z := 20) (by decide +kernel) (by decide +kernel) (jz rfl) ?_
  refine vf_ishr C (by decide +kernel) ?_
  refine vf_ior C (by decide +kernel) ?_
  refine vf_sipush C (z := 1023) (by decide +kernel) (by decide +kernel) (jz rfl) ?_
  refine vf_iand C (by decide +kernel) ?_
  exact hr _ _ _ _ (fun h => absurd h (by decide)) (by decide +kernel)
def f_O_rank (v0 : Int) (w : Wd) : Option (Int × Wd) :=
  jcall (f_JI_bitCount (iand v0 1023) w) fun r1 w2 =>
  jcall (f_JI_bitCount (iand (ishr v0 10) 1023) w2) fun r3 w4 =>
  jcall (f_O_out v0 w4) fun r5 w6 =>
  jcall (f_JI_bitCount r5 w6) fun r7 w8 =>
  jlet (w32 ((w32 (r1 + (w32 (2 * r3)))) + (w32 (4 * r7)))) fun x9 =>
  jcall (f_O_known v0 w8) fun r10 w11 =>
  jcall (f_JI_bitCount r10 w11) fun r12 w13 =>
  some (w32 ((w32 (r12 * 41)) + x9), w13)
theorem ct_O_rank (v0 : Int) (w : Wd) : Ct y_O_rank prog_11_method_10_code 2 (some .int) 2 0 [(0, v0)] w (f_O_rank v0 w) := by
  refine ct_of (by decide +kernel) (Or.inl ⟨rfl, rfl⟩) (Nat.le_of_ble_eq_true rfl) ?_
  intro X Qf ad C hn hR hr
  unfold f_O_rank
  show VF X Qf ad NF 0 0 w 0 [(0, (0, v0))] [] _
  refine vf_iload_n C (f := 0) (by decide +kernel) 0 rfl rfl ?_
  refine vf_sipush C (z := 1023) (by decide +kernel) (by decide +kernel) (jz rfl) ?_
  refine vf_iand C (by decide +kernel) ?_
  refine vf_callSi C cy_JI_bitCount ml_O_29 (ct_JI_bitCount _ _) (S := []) (jrm_of hR rfl) rfl rfl (Nat.le_of_ble_eq_true rfl) (by decide +kernel) (fun r1 w2 => ?_)
  refine vf_iconst C (z := 2) (by decide +kernel) (jz rfl) ?_
  refine vf_iload_n C (f := 0) (by decide +kernel) 0 rfl rfl ?_
  refine vf_bipush C (z := 10) (by decide +kernel) (by decide +kernel) (jz rfl) ?_
  refine vf_ishr C (by decide +kernel) ?_
  refine vf_sipush C (z := 1023) (by decide +kernel) (by decide +kernel) (jz rfl) ?_
  refine vf_iand C (by decide +kernel) ?_
  refine vf_callSi C cy_JI_bitCount ml_O_29 (ct_JI_bitCount _ _) (S := [(0, 2), (0, r1)]) (jrm_of hR rfl) rfl rfl (Nat.le_of_ble_eq_true rfl) (by decide +kernel) (fun r3 w4 => ?_)
  refine vf_imul C (by decide +kernel) ?_
  refine vf_iadd C (by decide +kernel) ?_
  refine vf_iconst C (z := 4) (by decide +kernel) (jz rfl) ?_
  refine vf_iload_n C (f := 0) (by decide +kernel) 0 rfl rfl ?_
  refine vf_callSi C cy_O_out ml_O_26 (ct_O_out _ _) (S := [(0, 4), (0, w32 (r1 + (w32 (2 * r3))))]) (jrm_of hR rfl) rfl rfl (Nat.le_of_ble_eq_true rfl) (by decide +kernel) (fun r5 w6 => ?_)
  refine vf_callSi C cy_JI_bitCount ml_O_29 (ct_JI_bitCount _ _) (S := [(0, 4), (0, w32 (r1 + (w32 (2 * r3))))]) (jrm_of hR rfl) rfl rfl (Nat.le_of_ble_eq_true rfl) (by decide +kernel) (fun r7 w8 => ?_)
  refine vf_imul C (by decide +kernel) ?_
  refine vf_iadd C (by decide +kernel) ?_
  generalize w32 ((w32 (r1 + (w32 (2 * r3)))) + (w32 (4 * r7))) = x9
  refine vf_ul ?_
  refine vf_istore_n C (f := 1) (L' := [(0, (0, v0))]) (by decide +kernel) [0] (jrI rfl rfl) hn (by decide) rfl ?_
  refine vf_iload_n C (f := 0) (by decide +kernel) 1 rfl rfl ?_
  refine vf_callSi C cy_O_known ml_O_34 (ct_O_known _ _) (S := []) (jrm_of hR rfl) rfl rfl (Nat.le_of_ble_eq_true rfl) (by decide +kernel) (fun r10 w11 => ?_)
  refine vf_callSi C cy_JI_bitCount ml_O_29 (ct_JI_bitCount _ _) (S := []) (jrm_of hR rfl) rfl rfl (Nat.le_of_ble_eq_true rfl) (by decide +kernel) (fun r12 w13 => ?_)
  refine vf_bipush C (z := 41) (by decide +kernel) (by decide +kernel) (jz rfl) ?_
  refine vf_imul C (by decide +kernel) ?_
  refine vf_iload_n C (f := 1) (by decide +kernel) 0 rfl rfl ?_
  refine vf_iadd C (by decide +kernel) ?_
  exact hr _ _ _ _ (fun h => absurd h (by decide)) (by decide +kernel)
