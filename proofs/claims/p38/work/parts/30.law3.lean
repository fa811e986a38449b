def f_A_law_968 (Ln : Nat) (xs9 : Nat → Int32) (k23 : Int → Wd → Option (Int × Wd)) (v4 : Int) (w : Wd) : Option (Int × Wd) :=
  jcall (f_E_needed w) fun r119 u120 =>
  jcall (f_R_needed u120) fun r121 u122 =>
  f_A_law_1260 Ln xs9 k23 v4 u122
theorem t_A_law_968 {X : jX} {Qf : Int × Wd → State → Prop} {ad : Nat → Nat} {sbI : Int} {Ln : Nat} {xs9 : Nat → Int32} (C : Cx X code "EachBringsAnotherLaw") (hn : xn X = 7) (hX : LX X sbI Ln xs9) (hr : RtL X Qf ad code) (hst : (xl X).stackTraces = false) (hZ : ZX (xA X) (xs X)) (hSX : SX (xs X)) {f k n : Nat} (hB : LB X (f + 1) k n) {k23 : Int → Wd → Option (Int × Wd)} (hk23 : ∀ (k n : Nat) (v4 : Int) (w : Wd), LB X f k n → VF X Qf ad NF k n w 23 [(0, (3, sbI)), (1, (2, 1)), (2, (2, 44)), (3, (2, 83)), (4, (0, v4))] [] (k23 v4 w)) (v4 : Int) (w : Wd) : VF X Qf ad NF k n w 968 [(0, (3, sbI)), (1, (2, 1)), (2, (2, 44)), (3, (2, 83)), (4, (0, v4))] [] (f_A_law_968 Ln xs9 k23 v4 w) := by
  have hb := hB.s
  have hb1 := hB.t
  unfold f_A_law_968
  refine vf_aload_n C (f := 1) (zdg dz_A_law_21 19 rfl) 1 rfl rfl ?_
  refine vf_callVi C cy_E_needed ml_A_147 rfl (ct_E_needed _) (S := []) sh_0 (by decide) rfl (lb_jrm hb rfl) rfl rfl (Nat.le_of_ble_eq_true rfl) (zdg dz_A_law_21 20 rfl) (fun r119 u120 => ?_)
  refine vf_pop C (zdg dz_A_law_21 21 rfl) Nat.zero_ne_one ?_
  refine vf_aload_n C (f := 2) (zdg dz_A_law_21 22 rfl) 2 rfl rfl ?_
  refine vf_callVi C cy_R_needed ml_A_150 rfl (ct_R_needed _) (S := []) sh_43 (by decide) rfl (lb_jrm hb rfl) rfl rfl (Nat.le_of_ble_eq_true rfl) (zdg dz_A_law_21 23 rfl) (fun r121 u122 => ?_)
  refine vf_pop C (zdg dz_A_law_22 0 rfl) Nat.zero_ne_one ?_
  refine vf_goto C (off := 282) (tgt := 1260) (zdg dz_A_law_22 1 rfl) (by decide) ?_
  exact t_A_law_1260 C hn hX hr hst hZ hSX hb hk23 _ _
def f_A_law_981 (Ln : Nat) (xs9 : Nat → Int32) (k23 : Int → Wd → Option (Int × Wd)) (v4 : Int) (w : Wd) : Option (Int × Wd) :=
  jcall (f_E_never w) fun r123 u124 =>
  jcall (f_R_never u124) fun r125 u126 =>
  f_A_law_1260 Ln xs9 k23 v4 u126
theorem t_A_law_981 {X : jX} {Qf : Int × Wd → State → Prop} {ad : Nat → Nat} {sbI : Int} {Ln : Nat} {xs9 : Nat → Int32} (C : Cx X code "EachBringsAnotherLaw") (hn : xn X = 7) (hX : LX X sbI Ln xs9) (hr : RtL X Qf ad code) (hst : (xl X).stackTraces = false) (hZ : ZX (xA X) (xs X)) (hSX : SX (xs X)) {f k n : Nat} (hB : LB X (f + 1) k n) {k23 : Int → Wd → Option (Int × Wd)} (hk23 : ∀ (k n : Nat) (v4 : Int) (w : Wd), LB X f k n → VF X Qf ad NF k n w 23 [(0, (3, sbI)), (1, (2, 1)), (2, (2, 44)), (3, (2, 83)), (4, (0, v4))] [] (k23 v4 w)) (v4 : Int) (w : Wd) : VF X Qf ad NF k n w 981 [(0, (3, sbI)), (1, (2, 1)), (2, (2, 44)), (3, (2, 83)), (4, (0, v4))] [] (f_A_law_981 Ln xs9 k23 v4 w) := by
  have hb := hB.s
  have hb1 := hB.t
  unfold f_A_law_981
  refine vf_aload_n C (f := 1) (zdg dz_A_law_22 2 rfl) 1 rfl rfl ?_
  refine vf_callVi C cy_E_never ml_A_151 rfl (ct_E_never _) (S := []) sh_0 (by decide) rfl (lb_jrm hb rfl) rfl rfl (Nat.le_of_ble_eq_true rfl) (zdg dz_A_law_22 3 rfl) (fun r123 u124 => ?_)
  refine vf_pop C (zdg dz_A_law_22 4 rfl) Nat.zero_ne_one ?_
  refine vf_aload_n C (f := 2) (zdg dz_A_law_22 5 rfl) 2 rfl rfl ?_
  refine vf_callVi C cy_R_never ml_A_154 rfl (ct_R_never _) (S := []) sh_43 (by decide) rfl (lb_jrm hb rfl) rfl rfl (Nat.le_of_ble_eq_true rfl) (zdg dz_A_law_22 6 rfl) (fun r125 u126 => ?_)
  refine vf_pop C (zdg dz_A_law_22 7 rfl) Nat.zero_ne_one ?_
  refine vf_goto C (off := 269) (tgt := 1260) (zdg dz_A_law_22 8 rfl) (by decide) ?_
  exact t_A_law_1260 C hn hX hr hst hZ hSX hb hk23 _ _
def f_A_law_994 (Ln : Nat) (xs9 : Nat → Int32) (k23 : Int → Wd → Option (Int × Wd)) (v4 : Int) (w : Wd) : Option (Int × Wd) :=
  jcall (f_E_bound w) fun r127 u128 =>
  jcall (f_R_bound u128) fun r129 u130 =>
  f_A_law_1260 Ln xs9 k23 v4 u130
theorem t_A_law_994 {X : jX} {Qf : Int × Wd → State → Prop} {ad : Nat → Nat} {sbI : Int} {Ln : Nat} {xs9 : Nat → Int32} (C : Cx X code "EachBringsAnotherLaw") (hn : xn X = 7) (hX : LX X sbI Ln xs9) (hr : RtL X Qf ad code) (hst : (xl X).stackTraces = false) (hZ : ZX (xA X) (xs X)) (hSX : SX (xs X)) {f k n : Nat} (hB : LB X (f + 1) k n) {k23 : Int → Wd → Option (Int × Wd)} (hk23 : ∀ (k n : Nat) (v4 : Int) (w : Wd), LB X f k n → VF X Qf ad NF k n w 23 [(0, (3, sbI)), (1, (2, 1)), (2, (2, 44)), (3, (2, 83)), (4, (0, v4))] [] (k23 v4 w)) (v4 : Int) (w : Wd) : VF X Qf ad NF k n w 994 [(0, (3, sbI)), (1, (2, 1)), (2, (2, 44)), (3, (2, 83)), (4, (0, v4))] [] (f_A_law_994 Ln xs9 k23 v4 w) := by
  have hb := hB.s
  have hb1 := hB.t
  unfold f_A_law_994
  refine vf_aload_n C (f := 1) (zdg dz_A_law_22 9 rfl) 1 rfl rfl ?_
  refine vf_callVi C cy_E_bound ml_A_155 rfl (ct_E_bound _) (S := []) sh_0 (by decide) rfl (lb_jrm hb rfl) rfl rfl (Nat.le_of_ble_eq_true rfl) (zdg dz_A_law_22 10 rfl) (fun r127 u128 => ?_)
  refine vf_pop C (zdg dz_A_law_22 11 rfl) Nat.zero_ne_one ?_
  refine vf_aload_n C (f := 2) (zdg dz_A_law_22 12 rfl) 2 rfl rfl ?_
  refine vf_callVi C cy_R_bound ml_A_158 rfl (ct_R_bound _) (S := []) sh_43 (by decide) rfl (lb_jrm hb rfl) rfl rfl (Nat.le_of_ble_eq_true rfl) (zdg dz_A_law_22 13 rfl) (fun r129 u130 => ?_)
  refine vf_pop C (zdg dz_A_law_22 14 rfl) Nat.zero_ne_one ?_
  refine vf_goto C (off := 256) (tgt := 1260) (zdg dz_A_law_22 15 rfl) (by decide) ?_
  exact t_A_law_1260 C hn hX hr hst hZ hSX hb hk23 _ _
def f_A_law_1007 (Ln : Nat) (xs9 : Nat → Int32) (k23 : Int → Wd → Option (Int × Wd)) (v4 : Int) (w : Wd) : Option (Int × Wd) :=
  jgd ((0 : Int) ≤ (w32 (v4 + 1)) ∧ (w32 (v4 + 1)) < (Ln : Int)) <|
  jcall (f_E_far ((xs9 (w32 (v4 + 1)).toNat).toInt) w) fun r131 u132 =>
  jgd ((0 : Int) ≤ (w32 (v4 + 1)) ∧ (w32 (v4 + 1)) < (Ln : Int)) <|
  jcall (f_R_far ((xs9 (w32 (v4 + 1)).toNat).toInt) u132) fun r133 u134 =>
  f_A_law_1260 Ln xs9 k23 v4 u134
theorem t_A_law_1007 {X : jX} {Qf : Int × Wd → State → Prop} {ad : Nat → Nat} {sbI : Int} {Ln : Nat} {xs9 : Nat → Int32} (C : Cx X code "EachBringsAnotherLaw") (hn : xn X = 7) (hX : LX X sbI Ln xs9) (hr : RtL X Qf ad code) (hst : (xl X).stackTraces = false) (hZ : ZX (xA X) (xs X)) (hSX : SX (xs X)) {f k n : Nat} (hB : LB X (f + 1) k n) {k23 : Int → Wd → Option (Int × Wd)} (hk23 : ∀ (k n : Nat) (v4 : Int) (w : Wd), LB X f k n → VF X Qf ad NF k n w 23 [(0, (3, sbI)), (1, (2, 1)), (2, (2, 44)), (3, (2, 83)), (4, (0, v4))] [] (k23 v4 w)) (v4 : Int) (w : Wd) : VF X Qf ad NF k n w 1007 [(0, (3, sbI)), (1, (2, 1)), (2, (2, 44)), (3, (2, 83)), (4, (0, v4))] [] (f_A_law_1007 Ln xs9 k23 v4 w) := by
  have hb := hB.s
  have hb1 := hB.t
  unfold f_A_law_1007
  refine vf_aload_n C (f := 1) (zdg dz_A_law_22 16 rfl) 1 rfl rfl ?_
  refine vf_aload3_n C (f := 0) (zdg dz_A_law_22 17 rfl) 0 rfl rfl ?_
  refine vf_iload C (zdg dz_A_law_22 18 rfl) 4 rfl ?_
  refine vf_iconst C (z := 1) (zdg dz_A_law_22 19 rfl) (jz rfl) ?_
  refine vf_iadd C (zdg dz_A_law_22 20 rfl) ?_
  refine vf_xld C hX (zdg dz_A_law_22 21 rfl) ?_
  refine vf_callVi C cy_E_far ml_A_159 rfl (ct_E_far _ _) (S := []) sh_0 (by decide) rfl (lb_jrm hb rfl) rfl rfl (Nat.le_of_ble_eq_true rfl) (zdg dz_A_law_22 22 rfl) (fun r131 u132 => ?_)
  refine vf_pop C (zdg dz_A_law_22 23 rfl) Nat.zero_ne_one ?_
  refine vf_aload_n C (f := 2) (zdg dz_A_law_23 0 rfl) 2 rfl rfl ?_
  refine vf_aload3_n C (f := 0) (zdg dz_A_law_23 1 rfl) 0 rfl rfl ?_
  refine vf_iload C (zdg dz_A_law_23 2 rfl) 4 rfl ?_
  refine vf_iconst C (z := 1) (zdg dz_A_law_23 3 rfl) (jz rfl) ?_
  refine vf_iadd C (zdg dz_A_law_23 4 rfl) ?_
  refine vf_xld C hX (zdg dz_A_law_23 5 rfl) ?_
  refine vf_callVi C cy_R_far ml_A_162 rfl (ct_R_far _ _) (S := []) sh_43 (by decide) rfl (lb_jrm hb rfl) rfl rfl (Nat.le_of_ble_eq_true rfl) (zdg dz_A_law_23 6 rfl) (fun r133 u134 => ?_)
  refine vf_pop C (zdg dz_A_law_23 7 rfl) Nat.zero_ne_one ?_
  refine vf_goto C (off := 231) (tgt := 1260) (zdg dz_A_law_23 8 rfl) (by decide) ?_
  exact t_A_law_1260 C hn hX hr hst hZ hSX hb hk23 _ _
def f_A_law_1032 (Ln : Nat) (xs9 : Nat → Int32) (k23 : Int → Wd → Option (Int × Wd)) (v4 : Int) (w : Wd) : Option (Int × Wd) :=
  jgd ((0 : Int) ≤ (w32 (v4 + 1)) ∧ (w32 (v4 + 1)) < (Ln : Int)) <|
  jcall (f_E_line ((xs9 (w32 (v4 + 1)).toNat).toInt) w) fun r135 u136 =>
  jgd ((0 : Int) ≤ (w32 (v4 + 1)) ∧ (w32 (v4 + 1)) < (Ln : Int)) <|
  jcall (f_R_line ((xs9 (w32 (v4 + 1)).toNat).toInt) u136) fun r137 u138 =>
  f_A_law_1260 Ln xs9 k23 v4 u138
theorem t_A_law_1032 {X : jX} {Qf : Int × Wd → State → Prop} {ad : Nat → Nat} {sbI : Int} {Ln : Nat} {xs9 : Nat → Int32} (C : Cx X code "EachBringsAnotherLaw") (hn : xn X = 7) (hX : LX X sbI Ln xs9) (hr : RtL X Qf ad code) (hst : (xl X).stackTraces = false) (hZ : ZX (xA X) (xs X)) (hSX : SX (xs X)) {f k n : Nat} (hB : LB X (f + 1) k n) {k23 : Int → Wd → Option (Int × Wd)} (hk23 : ∀ (k n : Nat) (v4 : Int) (w : Wd), LB X f k n → VF X Qf ad NF k n w 23 [(0, (3, sbI)), (1, (2, 1)), (2, (2, 44)), (3, (2, 83)), (4, (0, v4))] [] (k23 v4 w)) (v4 : Int) (w : Wd) : VF X Qf ad NF k n w 1032 [(0, (3, sbI)), (1, (2, 1)), (2, (2, 44)), (3, (2, 83)), (4, (0, v4))] [] (f_A_law_1032 Ln xs9 k23 v4 w) := by
  have hb := hB.s
  have hb1 := hB.t
  unfold f_A_law_1032
  refine vf_aload_n C (f := 1) (zdg dz_A_law_23 9 rfl) 1 rfl rfl ?_
  refine vf_aload3_n C (f := 0) (zdg dz_A_law_23 10 rfl) 0 rfl rfl ?_
  refine vf_iload C (zdg dz_A_law_23 11 rfl) 4 rfl ?_
  refine vf_iconst C (z := 1) (zdg dz_A_law_23 12 rfl) (jz rfl) ?_
  refine vf_iadd C (zdg dz_A_law_23 13 rfl) ?_
  refine vf_xld C hX (zdg dz_A_law_23 14 rfl) ?_
  refine vf_callVi C cy_E_line ml_A_163 rfl (ct_E_line _ _) (S := []) sh_0 (by decide) rfl (lb_jrm hb rfl) rfl rfl (Nat.le_of_ble_eq_true rfl) (zdg dz_A_law_23 15 rfl) (fun r135 u136 => ?_)
  refine vf_pop C (zdg dz_A_law_23 16 rfl) Nat.zero_ne_one ?_
  refine vf_aload_n C (f := 2) (zdg dz_A_law_23 17 rfl) 2 rfl rfl ?_
  refine vf_aload3_n C (f := 0) (zdg dz_A_law_23 18 rfl) 0 rfl rfl ?_
  refine vf_iload C (zdg dz_A_law_23 19 rfl) 4 rfl ?_
  refine vf_iconst C (z := 1) (zdg dz_A_law_23 20 rfl) (jz rfl) ?_
  refine vf_iadd C (zdg dz_A_law_23 21 rfl) ?_
  refine vf_xld C hX (zdg dz_A_law_23 22 rfl) ?_
  refine vf_callVi C cy_R_line ml_A_166 rfl (ct_R_line _ _) (S := []) sh_43 (by decide) rfl (lb_jrm hb rfl) rfl rfl (Nat.le_of_ble_eq_true rfl) (zdg dz_A_law_23 23 rfl) (fun r137 u138 => ?_)
  refine vf_pop C (zdg dz_A_law_24 0 rfl) Nat.zero_ne_one ?_
  refine vf_goto C (off := 206) (tgt := 1260) (zdg dz_A_law_24 1 rfl) (by decide) ?_
  exact t_A_law_1260 C hn hX hr hst hZ hSX hb hk23 _ _
def f_A_law_1057 (Ln : Nat) (xs9 : Nat → Int32) (k23 : Int → Wd → Option (Int × Wd)) (v4 : Int) (w : Wd) : Option (Int × Wd) :=
  jgd ((0 : Int) ≤ (w32 (v4 + 1)) ∧ (w32 (v4 + 1)) < (Ln : Int)) <|
  jcall (f_E_led ((xs9 (w32 (v4 + 1)).toNat).toInt) w) fun r139 u140 =>
  jgd ((0 : Int) ≤ (w32 (v4 + 1)) ∧ (w32 (v4 + 1)) < (Ln : Int)) <|
  jcall (f_R_led ((xs9 (w32 (v4 + 1)).toNat).toInt) u140) fun r141 u142 =>
  f_A_law_1260 Ln xs9 k23 v4 u142
theorem t_A_law_1057 {X : jX} {Qf : Int × Wd → State → Prop} {ad : Nat → Nat} {sbI : Int} {Ln : Nat} {xs9 : Nat → Int32} (C : Cx X code "EachBringsAnotherLaw") (hn : xn X = 7) (hX : LX X sbI Ln xs9) (hr : RtL X Qf ad code) (hst : (xl X).stackTraces = false) (hZ : ZX (xA X) (xs X)) (hSX : SX (xs X)) {f k n : Nat} (hB : LB X (f + 1) k n) {k23 : Int → Wd → Option (Int × Wd)} (hk23 : ∀ (k n : Nat) (v4 : Int) (w : Wd), LB X f k n → VF X Qf ad NF k n w 23 [(0, (3, sbI)), (1, (2, 1)), (2, (2, 44)), (3, (2, 83)), (4, (0, v4))] [] (k23 v4 w)) (v4 : Int) (w : Wd) : VF X Qf ad NF k n w 1057 [(0, (3, sbI)), (1, (2, 1)), (2, (2, 44)), (3, (2, 83)), (4, (0, v4))] [] (f_A_law_1057 Ln xs9 k23 v4 w) := by
  have hb := hB.s
  have hb1 := hB.t
  unfold f_A_law_1057
  refine vf_aload_n C (f := 1) (zdg dz_A_law_24 2 rfl) 1 rfl rfl ?_
  refine vf_aload3_n C (f := 0) (zdg dz_A_law_24 3 rfl) 0 rfl rfl ?_
  refine vf_iload C (zdg dz_A_law_24 4 rfl) 4 rfl ?_
  refine vf_iconst C (z := 1) (zdg dz_A_law_24 5 rfl) (jz rfl) ?_
  refine vf_iadd C (zdg dz_A_law_24 6 rfl) ?_
  refine vf_xld C hX (zdg dz_A_law_24 7 rfl) ?_
  refine vf_callVi C cy_E_led ml_A_167 rfl (ct_E_led _ _) (S := []) sh_0 (by decide) rfl (lb_jrm hb rfl) rfl rfl (Nat.le_of_ble_eq_true rfl) (zdg dz_A_law_24 8 rfl) (fun r139 u140 => ?_)
  refine vf_pop C (zdg dz_A_law_24 9 rfl) Nat.zero_ne_one ?_
  refine vf_aload_n C (f := 2) (zdg dz_A_law_24 10 rfl) 2 rfl rfl ?_
  refine vf_aload3_n C (f := 0) (zdg dz_A_law_24 11 rfl) 0 rfl rfl ?_
  refine vf_iload C (zdg dz_A_law_24 12 rfl) 4 rfl ?_
  refine vf_iconst C (z := 1) (zdg dz_A_law_24 13 rfl) (jz rfl) ?_
  refine vf_iadd C (zdg dz_A_law_24 14 rfl) ?_
  refine vf_xld C hX (zdg dz_A_law_24 15 rfl) ?_
  refine vf_callVi C cy_R_led ml_A_170 rfl (ct_R_led _ _) (S := []) sh_43 (by decide) rfl (lb_jrm hb rfl) rfl rfl (Nat.le_of_ble_eq_true rfl) (zdg dz_A_law_24 16 rfl) (fun r141 u142 => ?_)
  refine vf_pop C (zdg dz_A_law_24 17 rfl) Nat.zero_ne_one ?_
  refine vf_goto C (off := 181) (tgt := 1260) (zdg dz_A_law_24 18 rfl) (by decide) ?_
  exact t_A_law_1260 C hn hX hr hst hZ hSX hb hk23 _ _
def f_A_law_1082 (Ln : Nat) (xs9 : Nat → Int32) (k23 : Int → Wd → Option (Int × Wd)) (v4 : Int) (w : Wd) : Option (Int × Wd) :=
  jgd ((0 : Int) ≤ (w32 (v4 + 1)) ∧ (w32 (v4 + 1)) < (Ln : Int)) <|
  jcall (f_E_was ((xs9 (w32 (v4 + 1)).toNat).toInt) w) fun r143 u144 =>
  jgd ((0 : Int) ≤ (w32 (v4 + 1)) ∧ (w32 (v4 + 1)) < (Ln : Int)) <|
  jcall (f_R_was ((xs9 (w32 (v4 + 1)).toNat).toInt) u144) fun r145 u146 =>
  f_A_law_1260 Ln xs9 k23 v4 u146
theorem t_A_law_1082 {X : jX} {Qf : Int × Wd → State → Prop} {ad : Nat → Nat} {sbI : Int} {Ln : Nat} {xs9 : Nat → Int32} (C : Cx X code "EachBringsAnotherLaw") (hn : xn X = 7) (hX : LX X sbI Ln xs9) (hr : RtL X Qf ad code) (hst : (xl X).stackTraces = false) (hZ : ZX (xA X) (xs X)) (hSX : SX (xs X)) {f k n : Nat} (hB : LB X (f + 1) k n) {k23 : Int → Wd → Option (Int × Wd)} (hk23 : ∀ (k n : Nat) (v4 : Int) (w : Wd), LB X f k n → VF X Qf ad NF k n w 23 [(0, (3, sbI)), (1, (2, 1)), (2, (2, 44)), (3, (2, 83)), (4, (0, v4))] [] (k23 v4 w)) (v4 : Int) (w : Wd) : VF X Qf ad NF k n w 1082 [(0, (3, sbI)), (1, (2, 1)), (2, (2, 44)), (3, (2, 83)), (4, (0, v4))] [] (f_A_law_1082 Ln xs9 k23 v4 w) := by
  have hb := hB.s
  have hb1 := hB.t
  unfold f_A_law_1082
  refine vf_aload_n C (f := 1) (zdg dz_A_law_24 19 rfl) 1 rfl rfl ?_
  refine vf_aload3_n C (f := 0) (zdg dz_A_law_24 20 rfl) 0 rfl rfl ?_
  refine vf_iload C (zdg dz_A_law_24 21 rfl) 4 rfl ?_
  refine vf_iconst C (z := 1) (zdg dz_A_law_24 22 rfl) (jz rfl) ?_
  refine vf_iadd C (zdg dz_A_law_24 23 rfl) ?_
  refine vf_xld C hX (zdg dz_A_law_25 0 rfl) ?_
  refine vf_callVi C cy_E_was ml_A_171 rfl (ct_E_was _ _) (S := []) sh_0 (by decide) rfl (lb_jrm hb rfl) rfl rfl (Nat.le_of_ble_eq_true rfl) (zdg dz_A_law_25 1 rfl) (fun r143 u144 => ?_)
  refine vf_pop C (zdg dz_A_law_25 2 rfl) Nat.zero_ne_one ?_
  refine vf_aload_n C (f := 2) (zdg dz_A_law_25 3 rfl) 2 rfl rfl ?_
  refine vf_aload3_n C (f := 0) (zdg dz_A_law_25 4 rfl) 0 rfl rfl ?_
  refine vf_iload C (zdg dz_A_law_25 5 rfl) 4 rfl ?_
  refine vf_iconst C (z := 1) (zdg dz_A_law_25 6 rfl) (jz rfl) ?_
  refine vf_iadd C (zdg dz_A_law_25 7 rfl) ?_
  refine vf_xld C hX (zdg dz_A_law_25 8 rfl) ?_
  refine vf_callVi C cy_R_was ml_A_174 rfl (ct_R_was _ _) (S := []) sh_43 (by decide) rfl (lb_jrm hb rfl) rfl rfl (Nat.le_of_ble_eq_true rfl) (zdg dz_A_law_25 9 rfl) (fun r145 u146 => ?_)
  refine vf_pop C (zdg dz_A_law_25 10 rfl) Nat.zero_ne_one ?_
  refine vf_goto C (off := 156) (tgt := 1260) (zdg dz_A_law_25 11 rfl) (by decide) ?_
  exact t_A_law_1260 C hn hX hr hst hZ hSX hb hk23 _ _
def f_A_law_1107 (Ln : Nat) (xs9 : Nat → Int32) (k23 : Int → Wd → Option (Int × Wd)) (v4 : Int) (w : Wd) : Option (Int × Wd) :=
  jgd ((0 : Int) ≤ (w32 (v4 + 1)) ∧ (w32 (v4 + 1)) < (Ln : Int)) <|
  jgd ((0 : Int) ≤ (w32 (v4 + 2)) ∧ (w32 (v4 + 2)) < (Ln : Int)) <|
  jcall (f_E_common ((xs9 (w32 (v4 + 1)).toNat).toInt) ((xs9 (w32 (v4 + 2)).toNat).toInt) w) fun r147 u148 =>
  jgd ((0 : Int) ≤ (w32 (v4 + 1)) ∧ (w32 (v4 + 1)) < (Ln : Int)) <|
  jgd ((0 : Int) ≤ (w32 (v4 + 2)) ∧ (w32 (v4 + 2)) < (Ln : Int)) <|
  jcall (f_R_common ((xs9 (w32 (v4 + 1)).toNat).toInt) ((xs9 (w32 (v4 + 2)).toNat).toInt) u148) fun r149 u150 =>
  if r147 = r149 then
    f_A_law_1260 Ln xs9 k23 v4 u150
  else
    none
theorem t_A_law_1107 {X : jX} {Qf : Int × Wd → State → Prop} {ad : Nat → Nat} {sbI : Int} {Ln : Nat} {xs9 : Nat → Int32} (C : Cx X code "EachBringsAnotherLaw") (hn : xn X = 7) (hX : LX X sbI Ln xs9) (hr : RtL X Qf ad code) (hst : (xl X).stackTraces = false) (hZ : ZX (xA X) (xs X)) (hSX : SX (xs X)) {f k n : Nat} (hB : LB X (f + 1) k n) {k23 : Int → Wd → Option (Int × Wd)} (hk23 : ∀ (k n : Nat) (v4 : Int) (w : Wd), LB X f k n → VF X Qf ad NF k n w 23 [(0, (3, sbI)), (1, (2, 1)), (2, (2, 44)), (3, (2, 83)), (4, (0, v4))] [] (k23 v4 w)) (v4 : Int) (w : Wd) : VF X Qf ad NF k n w 1107 [(0, (3, sbI)), (1, (2, 1)), (2, (2, 44)), (3, (2, 83)), (4, (0, v4))] [] (f_A_law_1107 Ln xs9 k23 v4 w) := by
  have hb := hB.s
  have hb1 := hB.t
  unfold f_A_law_1107
  refine vf_aload_n C (f := 1) (zdg dz_A_law_25 12 rfl) 1 rfl rfl ?_
  refine vf_aload3_n C (f := 0) (zdg dz_A_law_25 13 rfl) 0 rfl rfl ?_
  refine vf_iload C (zdg dz_A_law_25 14 rfl) 4 rfl ?_
  refine vf_iconst C (z := 1) (zdg dz_A_law_25 15 rfl) (jz rfl) ?_
  refine vf_iadd C (zdg dz_A_law_25 16 rfl) ?_
  refine vf_xld C hX (zdg dz_A_law_25 17 rfl) ?_
  refine vf_aload3_n C (f := 0) (zdg dz_A_law_25 18 rfl) 0 rfl rfl ?_
  refine vf_iload C (zdg dz_A_law_25 19 rfl) 4 rfl ?_
  refine vf_iconst C (z := 2) (zdg dz_A_law_25 20 rfl) (jz rfl) ?_
  refine vf_iadd C (zdg dz_A_law_25 21 rfl) ?_
  refine vf_xld C hX (zdg dz_A_law_25 22 rfl) ?_
  refine vf_callVi C cy_E_common ml_A_175 rfl (ct_E_common _ _ _) (S := []) sh_0 (by decide) rfl (lb_jrm hb rfl) rfl rfl (Nat.le_of_ble_eq_true rfl) (zdg dz_A_law_25 23 rfl) (fun r147 u148 => ?_)
  refine vf_aload_n C (f := 2) (zdg dz_A_law_26 0 rfl) 2 rfl rfl ?_
  refine vf_aload3_n C (f := 0) (zdg dz_A_law_26 1 rfl) 0 rfl rfl ?_
  refine vf_iload C (zdg dz_A_law_26 2 rfl) 4 rfl ?_
  refine vf_iconst C (z := 1) (zdg dz_A_law_26 3 rfl) (jz rfl) ?_
  refine vf_iadd C (zdg dz_A_law_26 4 rfl) ?_
  refine vf_xld C hX (zdg dz_A_law_26 5 rfl) ?_
  refine vf_aload3_n C (f := 0) (zdg dz_A_law_26 6 rfl) 0 rfl rfl ?_
  refine vf_iload C (zdg dz_A_law_26 7 rfl) 4 rfl ?_
  refine vf_iconst C (z := 2) (zdg dz_A_law_26 8 rfl) (jz rfl) ?_
  refine vf_iadd C (zdg dz_A_law_26 9 rfl) ?_
  refine vf_xld C hX (zdg dz_A_law_26 10 rfl) ?_
  refine vf_callVi C cy_R_common ml_A_178 rfl (ct_R_common _ _ _) (S := [(0, r147)]) sh_43 (by decide) rfl (lb_jrm hb rfl) rfl rfl (Nat.le_of_ble_eq_true rfl) (zdg dz_A_law_26 11 rfl) (fun r149 u150 => ?_)
  refine vf_icmp_eq C (off := 121) (tgt := 1260) (zdg dz_A_law_26 12 rfl) (by decide) ?_ ?_
  · exact t_A_law_1260 C hn hX hr hst hZ hSX hb hk23 _ _
  · refine vf_iconst C (z := 0) (zdg dz_A_law_26 13 rfl) (jz rfl) ?_
    exact vf_no
def f_A_law_1144 (Ln : Nat) (xs9 : Nat → Int32) (k23 : Int → Wd → Option (Int × Wd)) (v4 : Int) (w : Wd) : Option (Int × Wd) :=
  jcall (f_E_father w) fun r151 u152 =>
  jcall (f_R_father u152) fun r153 u154 =>
  f_A_law_1260 Ln xs9 k23 v4 u154
theorem t_A_law_1144 {X : jX} {Qf : Int × Wd → State → Prop} {ad : Nat → Nat} {sbI : Int} {Ln : Nat} {xs9 : Nat → Int32} (C : Cx X code "EachBringsAnotherLaw") (hn : xn X = 7) (hX : LX X sbI Ln xs9) (hr : RtL X Qf ad code) (hst : (xl X).stackTraces = false) (hZ : ZX (xA X) (xs X)) (hSX : SX (xs X)) {f k n : Nat} (hB : LB X (f + 1) k n) {k23 : Int → Wd → Option (Int × Wd)} (hk23 : ∀ (k n : Nat) (v4 : Int) (w : Wd), LB X f k n → VF X Qf ad NF k n w 23 [(0, (3, sbI)), (1, (2, 1)), (2, (2, 44)), (3, (2, 83)), (4, (0, v4))] [] (k23 v4 w)) (v4 : Int) (w : Wd) : VF X Qf ad NF k n w 1144 [(0, (3, sbI)), (1, (2, 1)), (2, (2, 44)), (3, (2, 83)), (4, (0, v4))] [] (f_A_law_1144 Ln xs9 k23 v4 w) := by
  have hb := hB.s
  have hb1 := hB.t
  unfold f_A_law_1144
  refine vf_aload_n C (f := 1) (zdg dz_A_law_26 15 rfl) 1 rfl rfl ?_
  refine vf_callVi C cy_E_father ml_A_179 rfl (ct_E_father _) (S := []) sh_0 (by decide) rfl (lb_jrm hb rfl) rfl rfl (Nat.le_of_ble_eq_true rfl) (zdg dz_A_law_26 16 rfl) (fun r151 u152 => ?_)
  refine vf_pop C (zdg dz_A_law_26 17 rfl) Nat.zero_ne_one ?_
  refine vf_aload_n C (f := 2) (zdg dz_A_law_26 18 rfl) 2 rfl rfl ?_
  refine vf_callVi C cy_R_father ml_A_182 rfl (ct_R_father _) (S := []) sh_43 (by decide) rfl (lb_jrm hb rfl) rfl rfl (Nat.le_of_ble_eq_true rfl) (zdg dz_A_law_26 19 rfl) (fun r153 u154 => ?_)
  refine vf_pop C (zdg dz_A_law_26 20 rfl) Nat.zero_ne_one ?_
  refine vf_goto C (off := 106) (tgt := 1260) (zdg dz_A_law_26 21 rfl) (by decide) ?_
  exact t_A_law_1260 C hn hX hr hst hZ hSX hb hk23 _ _
def f_A_law_1157 (Ln : Nat) (xs9 : Nat → Int32) (k23 : Int → Wd → Option (Int × Wd)) (v4 : Int) (w : Wd) : Option (Int × Wd) :=
  jgd ((0 : Int) ≤ (w32 (v4 + 1)) ∧ (w32 (v4 + 1)) < (Ln : Int)) <|
  jcall (f_E_keep ((xs9 (w32 (v4 + 1)).toNat).toInt) w) fun r155 u156 =>
  jgd ((0 : Int) ≤ (w32 (v4 + 1)) ∧ (w32 (v4 + 1)) < (Ln : Int)) <|
  jcall (f_R_keep ((xs9 (w32 (v4 + 1)).toNat).toInt) u156) fun r157 u158 =>
  f_A_law_1260 Ln xs9 k23 v4 u158
theorem t_A_law_1157 {X : jX} {Qf : Int × Wd → State → Prop} {ad : Nat → Nat} {sbI : Int} {Ln : Nat} {xs9 : Nat → Int32} (C : Cx X code "EachBringsAnotherLaw") (hn : xn X = 7) (hX : LX X sbI Ln xs9) (hr : RtL X Qf ad code) (hst : (xl X).stackTraces = false) (hZ : ZX (xA X) (xs X)) (hSX : SX (xs X)) {f k n : Nat} (hB : LB X (f + 1) k n) {k23 : Int → Wd → Option (Int × Wd)} (hk23 : ∀ (k n : Nat) (v4 : Int) (w : Wd), LB X f k n → VF X Qf ad NF k n w 23 [(0, (3, sbI)), (1, (2, 1)), (2, (2, 44)), (3, (2, 83)), (4, (0, v4))] [] (k23 v4 w)) (v4 : Int) (w : Wd) : VF X Qf ad NF k n w 1157 [(0, (3, sbI)), (1, (2, 1)), (2, (2, 44)), (3, (2, 83)), (4, (0, v4))] [] (f_A_law_1157 Ln xs9 k23 v4 w) := by
  have hb := hB.s
  have hb1 := hB.t
  unfold f_A_law_1157
  refine vf_aload_n C (f := 1) (zdg dz_A_law_26 22 rfl) 1 rfl rfl ?_
  refine vf_aload3_n C (f := 0) (zdg dz_A_law_26 23 rfl) 0 rfl rfl ?_
  refine vf_iload C (zdg dz_A_law_27 0 rfl) 4 rfl ?_
  refine vf_iconst C (z := 1) (zdg dz_A_law_27 1 rfl) (jz rfl) ?_
  refine vf_iadd C (zdg dz_A_law_27 2 rfl) ?_
  refine vf_xld C hX (zdg dz_A_law_27 3 rfl) ?_
  refine vf_callVz C cy_E_keep ml_A_183 rfl (ct_E_keep _ _) (S := []) sh_0 (by decide) rfl (lb_jrm hb rfl) rfl rfl (Nat.le_of_ble_eq_true rfl) (zdg dz_A_law_27 4 rfl) (fun r155 u156 => ?_)
  refine vf_pop C (zdg dz_A_law_27 5 rfl) Nat.zero_ne_one ?_
  refine vf_aload_n C (f := 2) (zdg dz_A_law_27 6 rfl) 2 rfl rfl ?_
  refine vf_aload3_n C (f := 0) (zdg dz_A_law_27 7 rfl) 0 rfl rfl ?_
  refine vf_iload C (zdg dz_A_law_27 8 rfl) 4 rfl ?_
  refine vf_iconst C (z := 1) (zdg dz_A_law_27 9 rfl) (jz rfl) ?_
  refine vf_iadd C (zdg dz_A_law_27 10 rfl) ?_
  refine vf_xld C hX (zdg dz_A_law_27 11 rfl) ?_
  refine vf_callVz C cy_R_keep ml_A_186 rfl (ct_R_keep _ _) (S := []) sh_43 (by decide) rfl (lb_jrm hb rfl) rfl rfl (Nat.le_of_ble_eq_true rfl) (zdg dz_A_law_27 12 rfl) (fun r157 u158 => ?_)
  refine vf_pop C (zdg dz_A_law_27 13 rfl) Nat.zero_ne_one ?_
  refine vf_goto C (off := 81) (tgt := 1260) (zdg dz_A_law_27 14 rfl) (by decide) ?_
  exact t_A_law_1260 C hn hX hr hst hZ hSX hb hk23 _ _
def f_A_law_1182 (Ln : Nat) (xs9 : Nat → Int32) (k23 : Int → Wd → Option (Int × Wd)) (v4 : Int) (w : Wd) : Option (Int × Wd) :=
  jgd ((0 : Int) ≤ (w32 (v4 + 1)) ∧ (w32 (v4 + 1)) < (Ln : Int)) <|
  jcall (f_E_again ((xs9 (w32 (v4 + 1)).toNat).toInt) w) fun r159 u160 =>
  jgd ((0 : Int) ≤ (w32 (v4 + 1)) ∧ (w32 (v4 + 1)) < (Ln : Int)) <|
  jcall (f_R_again ((xs9 (w32 (v4 + 1)).toNat).toInt) u160) fun r161 u162 =>
  f_A_law_1260 Ln xs9 k23 v4 u162
theorem t_A_law_1182 {X : jX} {Qf : Int × Wd → State → Prop} {ad : Nat → Nat} {sbI : Int} {Ln : Nat} {xs9 : Nat → Int32} (C : Cx X code "EachBringsAnotherLaw") (hn : xn X = 7) (hX : LX X sbI Ln xs9) (hr : RtL X Qf ad code) (hst : (xl X).stackTraces = false) (hZ : ZX (xA X) (xs X)) (hSX : SX (xs X)) {f k n : Nat} (hB : LB X (f + 1) k n) {k23 : Int → Wd → Option (Int × Wd)} (hk23 : ∀ (k n : Nat) (v4 : Int) (w : Wd), LB X f k n → VF X Qf ad NF k n w 23 [(0, (3, sbI)), (1, (2, 1)), (2, (2, 44)), (3, (2, 83)), (4, (0, v4))] [] (k23 v4 w)) (v4 : Int) (w : Wd) : VF X Qf ad NF k n w 1182 [(0, (3, sbI)), (1, (2, 1)), (2, (2, 44)), (3, (2, 83)), (4, (0, v4))] [] (f_A_law_1182 Ln xs9 k23 v4 w) := by
  have hb := hB.s
  have hb1 := hB.t
  unfold f_A_law_1182
  refine vf_aload_n C (f := 1) (zdg dz_A_law_27 15 rfl) 1 rfl rfl ?_
  refine vf_aload3_n C (f := 0) (zdg dz_A_law_27 16 rfl) 0 rfl rfl ?_
  refine vf_iload C (zdg dz_A_law_27 17 rfl) 4 rfl ?_
  refine vf_iconst C (z := 1) (zdg dz_A_law_27 18 rfl) (jz rfl) ?_
  refine vf_iadd C (zdg dz_A_law_27 19 rfl) ?_
  refine vf_xld C hX (zdg dz_A_law_27 20 rfl) ?_
  refine vf_callVz C cy_E_again ml_A_187 rfl (ct_E_again _ _) (S := []) sh_0 (by decide) rfl (lb_jrm hb rfl) rfl rfl (Nat.le_of_ble_eq_true rfl) (zdg dz_A_law_27 21 rfl) (fun r159 u160 => ?_)
  refine vf_pop C (zdg dz_A_law_27 22 rfl) Nat.zero_ne_one ?_
  refine vf_aload_n C (f := 2) (zdg dz_A_law_27 23 rfl) 2 rfl rfl ?_
  refine vf_aload3_n C (f := 0) (zdg dz_A_law_28 0 rfl) 0 rfl rfl ?_
  refine vf_iload C (zdg dz_A_law_28 1 rfl) 4 rfl ?_
  refine vf_iconst C (z := 1) (zdg dz_A_law_28 2 rfl) (jz rfl) ?_
  refine vf_iadd C (zdg dz_A_law_28 3 rfl) ?_
  refine vf_xld C hX (zdg dz_A_law_28 4 rfl) ?_
  refine vf_callVz C cy_R_again ml_A_190 rfl (ct_R_again _ _) (S := []) sh_43 (by decide) rfl (lb_jrm hb rfl) rfl rfl (Nat.le_of_ble_eq_true rfl) (zdg dz_A_law_28 5 rfl) (fun r161 u162 => ?_)
  refine vf_pop C (zdg dz_A_law_28 6 rfl) Nat.zero_ne_one ?_
  refine vf_goto C (off := 56) (tgt := 1260) (zdg dz_A_law_28 7 rfl) (by decide) ?_
  exact t_A_law_1260 C hn hX hr hst hZ hSX hb hk23 _ _
def f_A_law_1207 (Ln : Nat) (xs9 : Nat → Int32) (k23 : Int → Wd → Option (Int × Wd)) (v4 : Int) (w : Wd) : Option (Int × Wd) :=
  jgd ((0 : Int) ≤ (w32 (v4 + 1)) ∧ (w32 (v4 + 1)) < (Ln : Int)) <|
  jcall (f_E_count ((xs9 (w32 (v4 + 1)).toNat).toInt) w) fun r163 u164 =>
  jgd ((0 : Int) ≤ (w32 (v4 + 1)) ∧ (w32 (v4 + 1)) < (Ln : Int)) <|
  jcall (f_R_count ((xs9 (w32 (v4 + 1)).toNat).toInt) u164) fun r165 u166 =>
  f_A_law_1260 Ln xs9 k23 v4 u166
theorem t_A_law_1207 {X : jX} {Qf : Int × Wd → State → Prop} {ad : Nat → Nat} {sbI : Int} {Ln : Nat} {xs9 : Nat → Int32} (C : Cx X code "EachBringsAnotherLaw") (hn : xn X = 7) (hX : LX X sbI Ln xs9) (hr : RtL X Qf ad code) (hst : (xl X).stackTraces = false) (hZ : ZX (xA X) (xs X)) (hSX : SX (xs X)) {f k n : Nat} (hB : LB X (f + 1) k n) {k23 : Int → Wd → Option (Int × Wd)} (hk23 : ∀ (k n : Nat) (v4 : Int) (w : Wd), LB X f k n → VF X Qf ad NF k n w 23 [(0, (3, sbI)), (1, (2, 1)), (2, (2, 44)), (3, (2, 83)), (4, (0, v4))] [] (k23 v4 w)) (v4 : Int) (w : Wd) : VF X Qf ad NF k n w 1207 [(0, (3, sbI)), (1, (2, 1)), (2, (2, 44)), (3, (2, 83)), (4, (0, v4))] [] (f_A_law_1207 Ln xs9 k23 v4 w) := by
  have hb := hB.s
  have hb1 := hB.t
  unfold f_A_law_1207
  refine vf_aload_n C (f := 1) (zdg dz_A_law_28 8 rfl) 1 rfl rfl ?_
  refine vf_aload3_n C (f := 0) (zdg dz_A_law_28 9 rfl) 0 rfl rfl ?_
  refine vf_iload C (zdg dz_A_law_28 10 rfl) 4 rfl ?_
  refine vf_iconst C (z := 1) (zdg dz_A_law_28 11 rfl) (jz rfl) ?_
  refine vf_iadd C (zdg dz_A_law_28 12 rfl) ?_
  refine vf_xld C hX (zdg dz_A_law_28 13 rfl) ?_
  refine vf_callVi C cy_E_count ml_A_191 rfl (ct_E_count _ _) (S := []) sh_0 (by decide) rfl (lb_jrm hb rfl) rfl rfl (Nat.le_of_ble_eq_true rfl) (zdg dz_A_law_28 14 rfl) (fun r163 u164 => ?_)
  refine vf_pop C (zdg dz_A_law_28 15 rfl) Nat.zero_ne_one ?_
  refine vf_aload_n C (f := 2) (zdg dz_A_law_28 16 rfl) 2 rfl rfl ?_
  refine vf_aload3_n C (f := 0) (zdg dz_A_law_28 17 rfl) 0 rfl rfl ?_
  refine vf_iload C (zdg dz_A_law_28 18 rfl) 4 rfl ?_
  refine vf_iconst C (z := 1) (zdg dz_A_law_28 19 rfl) (jz rfl) ?_
  refine vf_iadd C (zdg dz_A_law_28 20 rfl) ?_
  refine vf_xld C hX (zdg dz_A_law_28 21 rfl) ?_
  refine vf_callVi C cy_R_count ml_A_194 rfl (ct_R_count _ _) (S := []) sh_43 (by decide) rfl (lb_jrm hb rfl) rfl rfl (Nat.le_of_ble_eq_true rfl) (zdg dz_A_law_28 22 rfl) (fun r165 u166 => ?_)
  refine vf_pop C (zdg dz_A_law_28 23 rfl) Nat.zero_ne_one ?_
  refine vf_goto C (off := 31) (tgt := 1260) (zdg dz_A_law_29 0 rfl) (by decide) ?_
  exact t_A_law_1260 C hn hX hr hst hZ hSX hb hk23 _ _
def f_A_law_1232 (Ln : Nat) (xs9 : Nat → Int32) (k23 : Int → Wd → Option (Int × Wd)) (v4 : Int) (w : Wd) : Option (Int × Wd) :=
  jgd ((0 : Int) ≤ (w32 (v4 + 1)) ∧ (w32 (v4 + 1)) < (Ln : Int)) <|
  jcall (f_A_row ((xs9 (w32 (v4 + 1)).toNat).toInt) w) fun r167 u168 =>
  jgd ((0 : Int) ≤ (w32 (v4 + 1)) ∧ (w32 (v4 + 1)) < (Ln : Int)) <|
  jcall (f_R_row ((xs9 (w32 (v4 + 1)).toNat).toInt) u168) fun r169 u170 =>
  f_A_law_1260 Ln xs9 k23 v4 u170
theorem t_A_law_1232 {X : jX} {Qf : Int × Wd → State → Prop} {ad : Nat → Nat} {sbI : Int} {Ln : Nat} {xs9 : Nat → Int32} (C : Cx X code "EachBringsAnotherLaw") (hn : xn X = 7) (hX : LX X sbI Ln xs9) (hr : RtL X Qf ad code) (hst : (xl X).stackTraces = false) (hZ : ZX (xA X) (xs X)) (hSX : SX (xs X)) {f k n : Nat} (hB : LB X (f + 1) k n) {k23 : Int → Wd → Option (Int × Wd)} (hk23 : ∀ (k n : Nat) (v4 : Int) (w : Wd), LB X f k n → VF X Qf ad NF k n w 23 [(0, (3, sbI)), (1, (2, 1)), (2, (2, 44)), (3, (2, 83)), (4, (0, v4))] [] (k23 v4 w)) (v4 : Int) (w : Wd) : VF X Qf ad NF k n w 1232 [(0, (3, sbI)), (1, (2, 1)), (2, (2, 44)), (3, (2, 83)), (4, (0, v4))] [] (f_A_law_1232 Ln xs9 k23 v4 w) := by
  have hb := hB.s
  have hb1 := hB.t
  unfold f_A_law_1232
  refine vf_aload_n C (f := 1) (zdg dz_A_law_29 1 rfl) 1 rfl rfl ?_
  refine vf_aload3_n C (f := 0) (zdg dz_A_law_29 2 rfl) 0 rfl rfl ?_
  refine vf_iload C (zdg dz_A_law_29 3 rfl) 4 rfl ?_
  refine vf_iconst C (z := 1) (zdg dz_A_law_29 4 rfl) (jz rfl) ?_
  refine vf_iadd C (zdg dz_A_law_29 5 rfl) ?_
  refine vf_xld C hX (zdg dz_A_law_29 6 rfl) ?_
  refine vf_aload_n C (f := 3) (zdg dz_A_law_29 7 rfl) 3 rfl rfl ?_
  refine vf_callH C hAd_row hAi hAl_row hAs_row hAc_row (ct_A_row _ _) (S := []) (lb_jrm hb1 rfl) rfl rfl (Nat.le_of_ble_eq_true rfl) (zdg dz_A_law_29 8 rfl) hst hZ hSX (fun r167 u168 => ?_)
  refine vf_istore C (i := 5) (L' := [(0, (3, sbI)), (1, (2, 1)), (2, (2, 44)), (3, (2, 83)), (4, (0, v4))]) (zdg dz_A_law_29 9 rfl) [0, 1, 2, 3, 4] (jrI rfl rfl) hn (by decide) ?_
  refine vf_aload_n C (f := 2) (zdg dz_A_law_29 10 rfl) 3 rfl rfl ?_
  refine vf_aload3_n C (f := 0) (zdg dz_A_law_29 11 rfl) 1 rfl rfl ?_
  refine vf_iload C (zdg dz_A_law_29 12 rfl) 5 rfl ?_
  refine vf_iconst C (z := 1) (zdg dz_A_law_29 13 rfl) (jz rfl) ?_
  refine vf_iadd C (zdg dz_A_law_29 14 rfl) ?_
  refine vf_xld C hX (zdg dz_A_law_29 15 rfl) ?_
  refine vf_callVi C cy_R_row ml_A_198 rfl (ct_R_row _ _) (S := []) sh_43 (by decide) rfl (lb_jrm hb1 rfl) rfl rfl (Nat.le_of_ble_eq_true rfl) (zdg dz_A_law_29 16 rfl) (fun r169 u170 => ?_)
  refine vf_istore C (i := 6) (L' := [(0, (3, sbI)), (1, (2, 1)), (2, (2, 44)), (3, (2, 83)), (4, (0, v4))]) (zdg dz_A_law_29 17 rfl) [1, 2, 3, 4, 5] (jrI rfl rfl) hn (by decide) ?_
  refine vf_goto C (off := 3) (tgt := 1260) (zdg dz_A_law_29 18 rfl) (by decide) ?_
  exact vf_perm [1, 2, 3, 4, 5] rfl (t_A_law_1260 C hn hX hr hst hZ hSX hb1 hk23 _ _)
def f_A_law (Ln : Nat) (xs9 : Nat → Int32) : Nat → Int → Wd → Option (Int × Wd)
  | 0, _, _ => none
  | f + 1, v4, w =>
    if (w32 (((Ln : Int)) - 5)) < v4 then
      some (1, w)
    else
      jgd ((0 : Int) ≤ v4 ∧ v4 < (Ln : Int)) <|
      jlet (iand ((xs9 v4.toNat).toInt) 63) fun x1 =>
      if x1 < 0 ∨ 41 < x1 then
        f_A_law_1260 Ln xs9 (f_A_law Ln xs9 f) v4 w
      else
      if x1 = 0 then
        f_A_law_220 Ln xs9 (f_A_law Ln xs9 f) v4 w
      else
      if x1 = 1 then
        f_A_law_245 Ln xs9 (f_A_law Ln xs9 f) v4 w
      else
      if x1 = 2 then
        f_A_law_270 Ln xs9 (f_A_law Ln xs9 f) v4 w
      else
      if x1 = 3 then
        f_A_law_283 Ln xs9 (f_A_law Ln xs9 f) v4 w
      else
      if x1 = 4 then
        f_A_law_296 Ln xs9 (f_A_law Ln xs9 f) v4 w
      else
      if x1 = 5 then
        f_A_law_336 Ln xs9 (f_A_law Ln xs9 f) v4 w
      else
      if x1 = 6 then
        f_A_law_373 Ln xs9 (f_A_law Ln xs9 f) v4 w
      else
      if x1 = 7 then
        f_A_law_438 Ln xs9 (f_A_law Ln xs9 f) v4 w
      else
      if x1 = 8 then
        f_A_law_491 Ln xs9 (f_A_law Ln xs9 f) v4 w
      else
      if x1 = 9 then
        f_A_law_516 Ln xs9 (f_A_law Ln xs9 f) v4 w
      else
      if x1 = 10 then
        f_A_law_577 Ln xs9 (f_A_law Ln xs9 f) v4 w
      else
      if x1 = 11 then
        f_A_law_590 Ln xs9 (f_A_law Ln xs9 f) v4 w
      else
      if x1 = 12 then
        f_A_law_615 Ln xs9 (f_A_law Ln xs9 f) v4 w
      else
      if x1 = 13 then
        f_A_law_628 Ln xs9 (f_A_law Ln xs9 f) v4 w
      else
      if x1 = 14 then
        f_A_law_641 Ln xs9 (f_A_law Ln xs9 f) v4 w
      else
      if x1 = 15 then
        f_A_law_666 Ln xs9 (f_A_law Ln xs9 f) v4 w
      else
      if x1 = 16 then
        f_A_law_679 Ln xs9 (f_A_law Ln xs9 f) v4 w
      else
      if x1 = 17 then
        f_A_law_692 Ln xs9 (f_A_law Ln xs9 f) v4 w
      else
      if x1 = 18 then
        f_A_law_705 Ln xs9 (f_A_law Ln xs9 f) v4 w
      else
      if x1 = 19 then
        f_A_law_730 Ln xs9 (f_A_law Ln xs9 f) v4 w
      else
      if x1 = 20 then
        f_A_law_755 Ln xs9 (f_A_law Ln xs9 f) v4 w
      else
      if x1 = 21 then
        f_A_law_780 Ln xs9 (f_A_law Ln xs9 f) v4 w
      else
      if x1 = 22 then
        f_A_law_793 Ln xs9 (f_A_law Ln xs9 f) v4 w
      else
      if x1 = 23 then
        f_A_law_842 Ln xs9 (f_A_law Ln xs9 f) v4 w
      else
      if x1 = 24 then
        f_A_law_855 Ln xs9 (f_A_law Ln xs9 f) v4 w
      else
      if x1 = 25 then
        f_A_law_868 Ln xs9 (f_A_law Ln xs9 f) v4 w
      else
      if x1 = 26 then
        f_A_law_893 Ln xs9 (f_A_law Ln xs9 f) v4 w
      else
      if x1 = 27 then
        f_A_law_918 Ln xs9 (f_A_law Ln xs9 f) v4 w
      else
      if x1 = 28 then
        f_A_law_943 Ln xs9 (f_A_law Ln xs9 f) v4 w
      else
      if x1 = 29 then
        f_A_law_968 Ln xs9 (f_A_law Ln xs9 f) v4 w
      else
      if x1 = 30 then
        f_A_law_981 Ln xs9 (f_A_law Ln xs9 f) v4 w
      else
      if x1 = 31 then
        f_A_law_994 Ln xs9 (f_A_law Ln xs9 f) v4 w
      else
      if x1 = 32 then
        f_A_law_1007 Ln xs9 (f_A_law Ln xs9 f) v4 w
      else
      if x1 = 33 then
        f_A_law_1032 Ln xs9 (f_A_law Ln xs9 f) v4 w
      else
      if x1 = 34 then
        f_A_law_1057 Ln xs9 (f_A_law Ln xs9 f) v4 w
      else
      if x1 = 35 then
        f_A_law_1082 Ln xs9 (f_A_law Ln xs9 f) v4 w
      else
      if x1 = 36 then
        f_A_law_1107 Ln xs9 (f_A_law Ln xs9 f) v4 w
      else
      if x1 = 37 then
        f_A_law_1144 Ln xs9 (f_A_law Ln xs9 f) v4 w
      else
      if x1 = 38 then
        f_A_law_1157 Ln xs9 (f_A_law Ln xs9 f) v4 w
      else
      if x1 = 39 then
        f_A_law_1182 Ln xs9 (f_A_law Ln xs9 f) v4 w
      else
      if x1 = 40 then
        f_A_law_1207 Ln xs9 (f_A_law Ln xs9 f) v4 w
      else
      if x1 = 41 then
        f_A_law_1232 Ln xs9 (f_A_law Ln xs9 f) v4 w
      else
      none
theorem t_A_law {X : jX} {Qf : Int × Wd → State → Prop} {ad : Nat → Nat} {sbI : Int} {Ln : Nat} {xs9 : Nat → Int32} (C : Cx X code "EachBringsAnotherLaw") (hn : xn X = 7) (hX : LX X sbI Ln xs9) (hr : RtL X Qf ad code) (hst : (xl X).stackTraces = false) (hZ : ZX (xA X) (xs X)) (hSX : SX (xs X)) : ∀ (f k n : Nat) (v4 : Int) (w : Wd), LB X f k n → VF X Qf ad NF k n w 23 [(0, (3, sbI)), (1, (2, 1)), (2, (2, 44)), (3, (2, 83)), (4, (0, v4))] [] (f_A_law Ln xs9 f v4 w) := by
  intro f
  induction f with
  | zero => intros; exact vf_no
  | succ f ih =>
    intro k n v4 w hB
    have hb := hB.s
    rw [f_A_law]
    refine vf_iload C (zdg dz_A_law_0 12 rfl) 4 rfl ?_
    refine vf_aload3_n C (f := 0) (zdg dz_A_law_0 13 rfl) 0 rfl rfl ?_
    refine vf_xlen C hX (zdg dz_A_law_0 14 rfl) ?_
    refine vf_iconst C (z := 5) (zdg dz_A_law_0 15 rfl) (jz rfl) ?_
    refine vf_isub C (zdg dz_A_law_0 16 rfl) ?_
    refine vf_icmp_gt C (off := 1237) (tgt := 1266) (zdg dz_A_law_0 17 rfl) (by decide) ?_ ?_
    · refine vf_iconst C (z := 1) (zdg dz_A_law_29 21 rfl) (jz rfl) ?_
      exact hr _ _ _ _ _ _ hb (zdg dz_A_law_29 22 rfl)
    · refine vf_aload3_n C (f := 0) (zdg dz_A_law_0 18 rfl) 0 rfl rfl ?_
      refine vf_iload C (zdg dz_A_law_0 19 rfl) 4 rfl ?_
      refine vf_xld C hX (zdg dz_A_law_0 20 rfl) ?_
      refine vf_bipush C (z := 63) (zdg dz_A_law_0 21 rfl) (by decide +kernel) (jz rfl) ?_
      refine vf_iand C (zdg dz_A_law_0 22 rfl) ?_
      generalize iand ((xs9 v4.toNat).toInt) 63 = x1
      refine vf_ul ?_
      refine vf_if _ (fun h => ?_) (fun _ => ?_)
      · refine vf_swd C (tgt := 1260) dA_sw h (by decide) ?_
        exact t_A_law_1260 C hn hX hr hst hZ hSX hb ih _ _
      refine vf_if _ (fun h => ?_) (fun _ => ?_)
      · refine vf_swx C (z := 0) (off := 181) (tgt := 220) dA_sw h (by decide) (by decide) rfl (by decide) ?_
        exact t_A_law_220 C hn hX hr hst hZ hSX hB ih _ _
      refine vf_if _ (fun h => ?_) (fun _ => ?_)
      · refine vf_swx C (z := 1) (off := 206) (tgt := 245) dA_sw h (by decide) (by decide) rfl (by decide) ?_
        exact t_A_law_245 C hn hX hr hst hZ hSX hB ih _ _
      refine vf_if _ (fun h => ?_) (fun _ => ?_)
      · refine vf_swx C (z := 2) (off := 231) (tgt := 270) dA_sw h (by decide) (by decide) rfl (by decide) ?_
        exact t_A_law_270 C hn hX hr hst hZ hSX hB ih _ _
      refine vf_if _ (fun h => ?_) (fun _ => ?_)
      · refine vf_swx C (z := 3) (off := 244) (tgt := 283) dA_sw h (by decide) (by decide) rfl (by decide) ?_
        exact t_A_law_283 C hn hX hr hst hZ hSX hB ih _ _
      refine vf_if _ (fun h => ?_) (fun _ => ?_)
      · refine vf_swx C (z := 4) (off := 257) (tgt := 296) dA_sw h (by decide) (by decide) rfl (by decide) ?_
        exact t_A_law_296 C hn hX hr hst hZ hSX hB ih _ _
      refine vf_if _ (fun h => ?_) (fun _ => ?_)
      · refine vf_swx C (z := 5) (off := 297) (tgt := 336) dA_sw h (by decide) (by decide) rfl (by decide) ?_
        exact t_A_law_336 C hn hX hr hst hZ hSX hB ih _ _
      refine vf_if _ (fun h => ?_) (fun _ => ?_)
      · refine vf_swx C (z := 6) (off := 334) (tgt := 373) dA_sw h (by decide) (by decide) rfl (by decide) ?_
        exact t_A_law_373 C hn hX hr hst hZ hSX hB ih _ _
      refine vf_if _ (fun h => ?_) (fun _ => ?_)
      · refine vf_swx C (z := 7) (off := 399) (tgt := 438) dA_sw h (by decide) (by decide) rfl (by decide) ?_
        exact t_A_law_438 C hn hX hr hst hZ hSX hB ih _ _
      refine vf_if _ (fun h => ?_) (fun _ => ?_)
      · refine vf_swx C (z := 8) (off := 452) (tgt := 491) dA_sw h (by decide) (by decide) rfl (by decide) ?_
        exact t_A_law_491 C hn hX hr hst hZ hSX hB ih _ _
      refine vf_if _ (fun h => ?_) (fun _ => ?_)
      · refine vf_swx C (z := 9) (off := 477) (tgt := 516) dA_sw h (by decide) (by decide) rfl (by decide) ?_
        exact t_A_law_516 C hn hX hr hst hZ hSX hB ih _ _
      refine vf_if _ (fun h => ?_) (fun _ => ?_)
      · refine vf_swx C (z := 10) (off := 538) (tgt := 577) dA_sw h (by decide) (by decide) rfl (by decide) ?_
        exact t_A_law_577 C hn hX hr hst hZ hSX hB ih _ _
      refine vf_if _ (fun h => ?_) (fun _ => ?_)
      · refine vf_swx C (z := 11) (off := 551) (tgt := 590) dA_sw h (by decide) (by decide) rfl (by decide) ?_
        exact t_A_law_590 C hn hX hr hst hZ hSX hB ih _ _
      refine vf_if _ (fun h => ?_) (fun _ => ?_)
      · refine vf_swx C (z := 12) (off := 576) (tgt := 615) dA_sw h (by decide) (by decide) rfl (by decide) ?_
        exact t_A_law_615 C hn hX hr hst hZ hSX hB ih _ _
      refine vf_if _ (fun h => ?_) (fun _ => ?_)
      · refine vf_swx C (z := 13) (off := 589) (tgt := 628) dA_sw h (by decide) (by decide) rfl (by decide) ?_
        exact t_A_law_628 C hn hX hr hst hZ hSX hB ih _ _
      refine vf_if _ (fun h => ?_) (fun _ => ?_)
      · refine vf_swx C (z := 14) (off := 602) (tgt := 641) dA_sw h (by decide) (by decide) rfl (by decide) ?_
        exact t_A_law_641 C hn hX hr hst hZ hSX hB ih _ _
      refine vf_if _ (fun h => ?_) (fun _ => ?_)
      · refine vf_swx C (z := 15) (off := 627) (tgt := 666) dA_sw h (by decide) (by decide) rfl (by decide) ?_
        exact t_A_law_666 C hn hX hr hst hZ hSX hB ih _ _
      refine vf_if _ (fun h => ?_) (fun _ => ?_)
      · refine vf_swx C (z := 16) (off := 640) (tgt := 679) dA_sw h (by decide) (by decide) rfl (by decide) ?_
        exact t_A_law_679 C hn hX hr hst hZ hSX hB ih _ _
      refine vf_if _ (fun h => ?_) (fun _ => ?_)
      · refine vf_swx C (z := 17) (off := 653) (tgt := 692) dA_sw h (by decide) (by decide) rfl (by decide) ?_
        exact t_A_law_692 C hn hX hr hst hZ hSX hB ih _ _
      refine vf_if _ (fun h => ?_) (fun _ => ?_)
      · refine vf_swx C (z := 18) (off := 666) (tgt := 705) dA_sw h (by decide) (by decide) rfl (by decide) ?_
        exact t_A_law_705 C hn hX hr hst hZ hSX hB ih _ _
      refine vf_if _ (fun h => ?_) (fun _ => ?_)
      · refine vf_swx C (z := 19) (off := 691) (tgt := 730) dA_sw h (by decide) (by decide) rfl (by decide) ?_
        exact t_A_law_730 C hn hX hr hst hZ hSX hB ih _ _
      refine vf_if _ (fun h => ?_) (fun _ => ?_)
      · refine vf_swx C (z := 20) (off := 716) (tgt := 755) dA_sw h (by decide) (by decide) rfl (by decide) ?_
        exact t_A_law_755 C hn hX hr hst hZ hSX hB ih _ _
      refine vf_if _ (fun h => ?_) (fun _ => ?_)
      · refine vf_swx C (z := 21) (off := 741) (tgt := 780) dA_sw h (by decide) (by decide) rfl (by decide) ?_
        exact t_A_law_780 C hn hX hr hst hZ hSX hB ih _ _
      refine vf_if _ (fun h => ?_) (fun _ => ?_)
      · refine vf_swx C (z := 22) (off := 754) (tgt := 793) dA_sw h (by decide) (by decide) rfl (by decide) ?_
        exact t_A_law_793 C hn hX hr hst hZ hSX hB ih _ _
      refine vf_if _ (fun h => ?_) (fun _ => ?_)
      · refine vf_swx C (z := 23) (off := 803) (tgt := 842) dA_sw h (by decide) (by decide) rfl (by decide) ?_
        exact t_A_law_842 C hn hX hr hst hZ hSX hB ih _ _
      refine vf_if _ (fun h => ?_) (fun _ => ?_)
      · refine vf_swx C (z := 24) (off := 816) (tgt := 855) dA_sw h (by decide) (by decide) rfl (by decide) ?_
        exact t_A_law_855 C hn hX hr hst hZ hSX hB ih _ _
      refine vf_if _ (fun h => ?_) (fun _ => ?_)
      · refine vf_swx C (z := 25) (off := 829) (tgt := 868) dA_sw h (by decide) (by decide) rfl (by decide) ?_
        exact t_A_law_868 C hn hX hr hst hZ hSX hB ih _ _
      refine vf_if _ (fun h => ?_) (fun _ => ?_)
      · refine vf_swx C (z := 26) (off := 854) (tgt := 893) dA_sw h (by decide) (by decide) rfl (by decide) ?_
        exact t_A_law_893 C hn hX hr hst hZ hSX hB ih _ _
      refine vf_if _ (fun h => ?_) (fun _ => ?_)
      · refine vf_swx C (z := 27) (off := 879) (tgt := 918) dA_sw h (by decide) (by decide) rfl (by decide) ?_
        exact t_A_law_918 C hn hX hr hst hZ hSX hB ih _ _
      refine vf_if _ (fun h => ?_) (fun _ => ?_)
      · refine vf_swx C (z := 28) (off := 904) (tgt := 943) dA_sw h (by decide) (by decide) rfl (by decide) ?_
        exact t_A_law_943 C hn hX hr hst hZ hSX hB ih _ _
      refine vf_if _ (fun h => ?_) (fun _ => ?_)
      · refine vf_swx C (z := 29) (off := 929) (tgt := 968) dA_sw h (by decide) (by decide) rfl (by decide) ?_
        exact t_A_law_968 C hn hX hr hst hZ hSX hB ih _ _
      refine vf_if _ (fun h => ?_) (fun _ => ?_)
      · refine vf_swx C (z := 30) (off := 942) (tgt := 981) dA_sw h (by decide) (by decide) rfl (by decide) ?_
        exact t_A_law_981 C hn hX hr hst hZ hSX hB ih _ _
      refine vf_if _ (fun h => ?_) (fun _ => ?_)
      · refine vf_swx C (z := 31) (off := 955) (tgt := 994) dA_sw h (by decide) (by decide) rfl (by decide) ?_
        exact t_A_law_994 C hn hX hr hst hZ hSX hB ih _ _
      refine vf_if _ (fun h => ?_) (fun _ => ?_)
      · refine vf_swx C (z := 32) (off := 968) (tgt := 1007) dA_sw h (by decide) (by decide) rfl (by decide) ?_
        exact t_A_law_1007 C hn hX hr hst hZ hSX hB ih _ _
      refine vf_if _ (fun h => ?_) (fun _ => ?_)
      · refine vf_swx C (z := 33) (off := 993) (tgt := 1032) dA_sw h (by decide) (by decide) rfl (by decide) ?_
        exact t_A_law_1032 C hn hX hr hst hZ hSX hB ih _ _
      refine vf_if _ (fun h => ?_) (fun _ => ?_)
      · refine vf_swx C (z := 34) (off := 1018) (tgt := 1057) dA_sw h (by decide) (by decide) rfl (by decide) ?_
        exact t_A_law_1057 C hn hX hr hst hZ hSX hB ih _ _
      refine vf_if _ (fun h => ?_) (fun _ => ?_)
      · refine vf_swx C (z := 35) (off := 1043) (tgt := 1082) dA_sw h (by decide) (by decide) rfl (by decide) ?_
        exact t_A_law_1082 C hn hX hr hst hZ hSX hB ih _ _
      refine vf_if _ (fun h => ?_) (fun _ => ?_)
      · refine vf_swx C (z := 36) (off := 1068) (tgt := 1107) dA_sw h (by decide) (by decide) rfl (by decide) ?_
        exact t_A_law_1107 C hn hX hr hst hZ hSX hB ih _ _
      refine vf_if _ (fun h => ?_) (fun _ => ?_)
      · refine vf_swx C (z := 37) (off := 1105) (tgt := 1144) dA_sw h (by decide) (by decide) rfl (by decide) ?_
        exact t_A_law_1144 C hn hX hr hst hZ hSX hB ih _ _
      refine vf_if _ (fun h => ?_) (fun _ => ?_)
      · refine vf_swx C (z := 38) (off := 1118) (tgt := 1157) dA_sw h (by decide) (by decide) rfl (by decide) ?_
        exact t_A_law_1157 C hn hX hr hst hZ hSX hB ih _ _
      refine vf_if _ (fun h => ?_) (fun _ => ?_)
      · refine vf_swx C (z := 39) (off := 1143) (tgt := 1182) dA_sw h (by decide) (by decide) rfl (by decide) ?_
        exact t_A_law_1182 C hn hX hr hst hZ hSX hB ih _ _
      refine vf_if _ (fun h => ?_) (fun _ => ?_)
      · refine vf_swx C (z := 40) (off := 1168) (tgt := 1207) dA_sw h (by decide) (by decide) rfl (by decide) ?_
        exact t_A_law_1207 C hn hX hr hst hZ hSX hB ih _ _
      refine vf_if _ (fun h => ?_) (fun _ => ?_)
      · refine vf_swx C (z := 41) (off := 1193) (tgt := 1232) dA_sw h (by decide) (by decide) rfl (by decide) ?_
        exact t_A_law_1232 C hn hX hr hst hZ hSX hB ih _ _
      exact vf_no
