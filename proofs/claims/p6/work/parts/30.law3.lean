def f_A_law_996 (Ln : Nat) (xs9 : Nat → Int32) (k23 : Int → Wd → Option (Int × Wd)) (v4 : Int) (w : Wd) : Option (Int × Wd) :=
  jcall (f_E_needed w) fun r121 u122 =>
  jcall (f_R_needed u122) fun r123 u124 =>
  f_A_law_1288 Ln xs9 k23 v4 u124
theorem t_A_law_996 {X : jX} {Qf : Int × Wd → State → Prop} {ad : Nat → Nat} {sbI : Int} {Ln : Nat} {xs9 : Nat → Int32} (C : Cx X code "EachBringsAnotherLaw") (hn : xn X = 7) (hX : LX X sbI Ln xs9) (hr : RtL X Qf ad code) (hst : (xl X).stackTraces = false) (hZ : ZX (xA X) (xs X)) (hSX : SX (xs X)) {f k n : Nat} (hB : LB X (f + 1) k n) {k23 : Int → Wd → Option (Int × Wd)} (hk23 : ∀ (k n : Nat) (v4 : Int) (w : Wd), LB X f k n → VF X Qf ad NF k n w 23 [(0, (3, sbI)), (1, (2, 1)), (2, (2, 44)), (3, (2, 83)), (4, (0, v4))] [] (k23 v4 w)) (v4 : Int) (w : Wd) : VF X Qf ad NF k n w 996 [(0, (3, sbI)), (1, (2, 1)), (2, (2, 44)), (3, (2, 83)), (4, (0, v4))] [] (f_A_law_996 Ln xs9 k23 v4 w) := by
  have hb := hB.s
  have hb1 := hB.t
  unfold f_A_law_996
  refine vf_aload_n C (f := 1) (by decide +kernel) 1 rfl rfl ?_
  refine vf_callVi C cy_E_needed ml_A_150 rfl (ct_E_needed _) (S := []) sh_0 (by decide) rfl (lb_jrm hb rfl) rfl rfl (Nat.le_of_ble_eq_true rfl) (by decide +kernel) (fun r121 u122 => ?_)
  refine vf_pop C (by decide +kernel) Nat.zero_ne_one ?_
  refine vf_aload_n C (f := 2) (by decide +kernel) 2 rfl rfl ?_
  refine vf_callVi C cy_R_needed ml_A_153 rfl (ct_R_needed _) (S := []) sh_43 (by decide) rfl (lb_jrm hb rfl) rfl rfl (Nat.le_of_ble_eq_true rfl) (by decide +kernel) (fun r123 u124 => ?_)
  refine vf_pop C (by decide +kernel) Nat.zero_ne_one ?_
  refine vf_goto C (off := 282) (tgt := 1288) (by decide +kernel) (by decide) ?_
  exact t_A_law_1288 C hn hX hr hst hZ hSX hb hk23 _ _
def f_A_law_1009 (Ln : Nat) (xs9 : Nat → Int32) (k23 : Int → Wd → Option (Int × Wd)) (v4 : Int) (w : Wd) : Option (Int × Wd) :=
  jcall (f_E_never w) fun r125 u126 =>
  jcall (f_R_never u126) fun r127 u128 =>
  f_A_law_1288 Ln xs9 k23 v4 u128
theorem t_A_law_1009 {X : jX} {Qf : Int × Wd → State → Prop} {ad : Nat → Nat} {sbI : Int} {Ln : Nat} {xs9 : Nat → Int32} (C : Cx X code "EachBringsAnotherLaw") (hn : xn X = 7) (hX : LX X sbI Ln xs9) (hr : RtL X Qf ad code) (hst : (xl X).stackTraces = false) (hZ : ZX (xA X) (xs X)) (hSX : SX (xs X)) {f k n : Nat} (hB : LB X (f + 1) k n) {k23 : Int → Wd → Option (Int × Wd)} (hk23 : ∀ (k n : Nat) (v4 : Int) (w : Wd), LB X f k n → VF X Qf ad NF k n w 23 [(0, (3, sbI)), (1, (2, 1)), (2, (2, 44)), (3, (2, 83)), (4, (0, v4))] [] (k23 v4 w)) (v4 : Int) (w : Wd) : VF X Qf ad NF k n w 1009 [(0, (3, sbI)), (1, (2, 1)), (2, (2, 44)), (3, (2, 83)), (4, (0, v4))] [] (f_A_law_1009 Ln xs9 k23 v4 w) := by
  have hb := hB.s
  have hb1 := hB.t
  unfold f_A_law_1009
  refine vf_aload_n C (f := 1) (by decide +kernel) 1 rfl rfl ?_
  refine vf_callVi C cy_E_never ml_A_154 rfl (ct_E_never _) (S := []) sh_0 (by decide) rfl (lb_jrm hb rfl) rfl rfl (Nat.le_of_ble_eq_true rfl) (by decide +kernel) (fun r125 u126 => ?_)
  refine vf_pop C (by decide +kernel) Nat.zero_ne_one ?_
  refine vf_aload_n C (f := 2) (by decide +kernel) 2 rfl rfl ?_
  refine vf_callVi C cy_R_never ml_A_157 rfl (ct_R_never _) (S := []) sh_43 (by decide) rfl (lb_jrm hb rfl) rfl rfl (Nat.le_of_ble_eq_true rfl) (by decide +kernel) (fun r127 u128 => ?_)
  refine vf_pop C (by decide +kernel) Nat.zero_ne_one ?_
  refine vf_goto C (off := 269) (tgt := 1288) (by decide +kernel) (by decide) ?_
  exact t_A_law_1288 C hn hX hr hst hZ hSX hb hk23 _ _
def f_A_law_1022 (Ln : Nat) (xs9 : Nat → Int32) (k23 : Int → Wd → Option (Int × Wd)) (v4 : Int) (w : Wd) : Option (Int × Wd) :=
  jcall (f_E_bound w) fun r129 u130 =>
  jcall (f_R_bound u130) fun r131 u132 =>
  f_A_law_1288 Ln xs9 k23 v4 u132
theorem t_A_law_1022 {X : jX} {Qf : Int × Wd → State → Prop} {ad : Nat → Nat} {sbI : Int} {Ln : Nat} {xs9 : Nat → Int32} (C : Cx X code "EachBringsAnotherLaw") (hn : xn X = 7) (hX : LX X sbI Ln xs9) (hr : RtL X Qf ad code) (hst : (xl X).stackTraces = false) (hZ : ZX (xA X) (xs X)) (hSX : SX (xs X)) {f k n : Nat} (hB : LB X (f + 1) k n) {k23 : Int → Wd → Option (Int × Wd)} (hk23 : ∀ (k n : Nat) (v4 : Int) (w : Wd), LB X f k n → VF X Qf ad NF k n w 23 [(0, (3, sbI)), (1, (2, 1)), (2, (2, 44)), (3, (2, 83)), (4, (0, v4))] [] (k23 v4 w)) (v4 : Int) (w : Wd) : VF X Qf ad NF k n w 1022 [(0, (3, sbI)), (1, (2, 1)), (2, (2, 44)), (3, (2, 83)), (4, (0, v4))] [] (f_A_law_1022 Ln xs9 k23 v4 w) := by
  have hb := hB.s
  have hb1 := hB.t
  unfold f_A_law_1022
  refine vf_aload_n C (f := 1) (by decide +kernel) 1 rfl rfl ?_
  refine vf_callVi C cy_E_bound ml_A_158 rfl (ct_E_bound _) (S := []) sh_0 (by decide) rfl (lb_jrm hb rfl) rfl rfl (Nat.le_of_ble_eq_true rfl) (by decide +kernel) (fun r129 u130 => ?_)
  refine vf_pop C (by decide +kernel) Nat.zero_ne_one ?_
  refine vf_aload_n C (f := 2) (by decide +kernel) 2 rfl rfl ?_
  refine vf_callVi C cy_R_bound ml_A_161 rfl (ct_R_bound _) (S := []) sh_43 (by decide) rfl (lb_jrm hb rfl) rfl rfl (Nat.le_of_ble_eq_true rfl) (by decide +kernel) (fun r131 u132 => ?_)
  refine vf_pop C (by decide +kernel) Nat.zero_ne_one ?_
  refine vf_goto C (off := 256) (tgt := 1288) (by decide +kernel) (by decide) ?_
  exact t_A_law_1288 C hn hX hr hst hZ hSX hb hk23 _ _
def f_A_law_1035 (Ln : Nat) (xs9 : Nat → Int32) (k23 : Int → Wd → Option (Int × Wd)) (v4 : Int) (w : Wd) : Option (Int × Wd) :=
  jgd ((0 : Int) ≤ (w32 (v4 + 1)) ∧ (w32 (v4 + 1)) < (Ln : Int)) <|
  jcall (f_E_far ((xs9 (w32 (v4 + 1)).toNat).toInt) w) fun r133 u134 =>
  jgd ((0 : Int) ≤ (w32 (v4 + 1)) ∧ (w32 (v4 + 1)) < (Ln : Int)) <|
  jcall (f_R_far ((xs9 (w32 (v4 + 1)).toNat).toInt) u134) fun r135 u136 =>
  f_A_law_1288 Ln xs9 k23 v4 u136
theorem t_A_law_1035 {X : jX} {Qf : Int × Wd → State → Prop} {ad : Nat → Nat} {sbI : Int} {Ln : Nat} {xs9 : Nat → Int32} (C : Cx X code "EachBringsAnotherLaw") (hn : xn X = 7) (hX : LX X sbI Ln xs9) (hr : RtL X Qf ad code) (hst : (xl X).stackTraces = false) (hZ : ZX (xA X) (xs X)) (hSX : SX (xs X)) {f k n : Nat} (hB : LB X (f + 1) k n) {k23 : Int → Wd → Option (Int × Wd)} (hk23 : ∀ (k n : Nat) (v4 : Int) (w : Wd), LB X f k n → VF X Qf ad NF k n w 23 [(0, (3, sbI)), (1, (2, 1)), (2, (2, 44)), (3, (2, 83)), (4, (0, v4))] [] (k23 v4 w)) (v4 : Int) (w : Wd) : VF X Qf ad NF k n w 1035 [(0, (3, sbI)), (1, (2, 1)), (2, (2, 44)), (3, (2, 83)), (4, (0, v4))] [] (f_A_law_1035 Ln xs9 k23 v4 w) := by
  have hb := hB.s
  have hb1 := hB.t
  unfold f_A_law_1035
  refine vf_aload_n C (f := 1) (by decide +kernel) 1 rfl rfl ?_
  refine vf_aload3_n C (f := 0) (by decide +kernel) 0 rfl rfl ?_
  refine vf_iload C (by decide +kernel) 4 rfl ?_
  refine vf_iconst C (z := 1) (by decide +kernel) (jz rfl) ?_
  refine vf_iadd C (by decide +kernel) ?_
  refine vf_xld C hX (by decide +kernel) ?_
  refine vf_callVi C cy_E_far ml_A_162 rfl (ct_E_far _ _) (S := []) sh_0 (by decide) rfl (lb_jrm hb rfl) rfl rfl (Nat.le_of_ble_eq_true rfl) (by decide +kernel) (fun r133 u134 => ?_)
  refine vf_pop C (by decide +kernel) Nat.zero_ne_one ?_
  refine vf_aload_n C (f := 2) (by decide +kernel) 2 rfl rfl ?_
  refine vf_aload3_n C (f := 0) (by decide +kernel) 0 rfl rfl ?_
  refine vf_iload C (by decide +kernel) 4 rfl ?_
  refine vf_iconst C (z := 1) (by decide +kernel) (jz rfl) ?_
  refine vf_iadd C (by decide +kernel) ?_
  refine vf_xld C hX (by decide +kernel) ?_
  refine vf_callVi C cy_R_far ml_A_165 rfl (ct_R_far _ _) (S := []) sh_43 (by decide) rfl (lb_jrm hb rfl) rfl rfl (Nat.le_of_ble_eq_true rfl) (by decide +kernel) (fun r135 u136 => ?_)
  refine vf_pop C (by decide +kernel) Nat.zero_ne_one ?_
  refine vf_goto C (off := 231) (tgt := 1288) (by decide +kernel) (by decide) ?_
  exact t_A_law_1288 C hn hX hr hst hZ hSX hb hk23 _ _
def f_A_law_1060 (Ln : Nat) (xs9 : Nat → Int32) (k23 : Int → Wd → Option (Int × Wd)) (v4 : Int) (w : Wd) : Option (Int × Wd) :=
  jgd ((0 : Int) ≤ (w32 (v4 + 1)) ∧ (w32 (v4 + 1)) < (Ln : Int)) <|
  jcall (f_E_line ((xs9 (w32 (v4 + 1)).toNat).toInt) w) fun r137 u138 =>
  jgd ((0 : Int) ≤ (w32 (v4 + 1)) ∧ (w32 (v4 + 1)) < (Ln : Int)) <|
  jcall (f_R_line ((xs9 (w32 (v4 + 1)).toNat).toInt) u138) fun r139 u140 =>
  f_A_law_1288 Ln xs9 k23 v4 u140
theorem t_A_law_1060 {X : jX} {Qf : Int × Wd → State → Prop} {ad : Nat → Nat} {sbI : Int} {Ln : Nat} {xs9 : Nat → Int32} (C : Cx X code "EachBringsAnotherLaw") (hn : xn X = 7) (hX : LX X sbI Ln xs9) (hr : RtL X Qf ad code) (hst : (xl X).stackTraces = false) (hZ : ZX (xA X) (xs X)) (hSX : SX (xs X)) {f k n : Nat} (hB : LB X (f + 1) k n) {k23 : Int → Wd → Option (Int × Wd)} (hk23 : ∀ (k n : Nat) (v4 : Int) (w : Wd), LB X f k n → VF X Qf ad NF k n w 23 [(0, (3, sbI)), (1, (2, 1)), (2, (2, 44)), (3, (2, 83)), (4, (0, v4))] [] (k23 v4 w)) (v4 : Int) (w : Wd) : VF X Qf ad NF k n w 1060 [(0, (3, sbI)), (1, (2, 1)), (2, (2, 44)), (3, (2, 83)), (4, (0, v4))] [] (f_A_law_1060 Ln xs9 k23 v4 w) := by
  have hb := hB.s
  have hb1 := hB.t
  unfold f_A_law_1060
  refine vf_aload_n C (f := 1) (by decide +kernel) 1 rfl rfl ?_
  refine vf_aload3_n C (f := 0) (by decide +kernel) 0 rfl rfl ?_
  refine vf_iload C (by decide +kernel) 4 rfl ?_
  refine vf_iconst C (z := 1) (by decide +kernel) (jz rfl) ?_
  refine vf_iadd C (by decide +kernel) ?_
  refine vf_xld C hX (by decide +kernel) ?_
  refine vf_callVi C cy_E_line ml_A_166 rfl (ct_E_line _ _) (S := []) sh_0 (by decide) rfl (lb_jrm hb rfl) rfl rfl (Nat.le_of_ble_eq_true rfl) (by decide +kernel) (fun r137 u138 => ?_)
  refine vf_pop C (by decide +kernel) Nat.zero_ne_one ?_
  refine vf_aload_n C (f := 2) (by decide +kernel) 2 rfl rfl ?_
  refine vf_aload3_n C (f := 0) (by decide +kernel) 0 rfl rfl ?_
  refine vf_iload C (by decide +kernel) 4 rfl ?_
  refine vf_iconst C (z := 1) (by decide +kernel) (jz rfl) ?_
  refine vf_iadd C (by decide +kernel) ?_
  refine vf_xld C hX (by decide +kernel) ?_
  refine vf_callVi C cy_R_line ml_A_169 rfl (ct_R_line _ _) (S := []) sh_43 (by decide) rfl (lb_jrm hb rfl) rfl rfl (Nat.le_of_ble_eq_true rfl) (by decide +kernel) (fun r139 u140 => ?_)
  refine vf_pop C (by decide +kernel) Nat.zero_ne_one ?_
  refine vf_goto C (off := 206) (tgt := 1288) (by decide +kernel) (by decide) ?_
  exact t_A_law_1288 C hn hX hr hst hZ hSX hb hk23 _ _
def f_A_law_1085 (Ln : Nat) (xs9 : Nat → Int32) (k23 : Int → Wd → Option (Int × Wd)) (v4 : Int) (w : Wd) : Option (Int × Wd) :=
  jgd ((0 : Int) ≤ (w32 (v4 + 1)) ∧ (w32 (v4 + 1)) < (Ln : Int)) <|
  jcall (f_E_led ((xs9 (w32 (v4 + 1)).toNat).toInt) w) fun r141 u142 =>
  jgd ((0 : Int) ≤ (w32 (v4 + 1)) ∧ (w32 (v4 + 1)) < (Ln : Int)) <|
  jcall (f_R_led ((xs9 (w32 (v4 + 1)).toNat).toInt) u142) fun r143 u144 =>
  f_A_law_1288 Ln xs9 k23 v4 u144
theorem t_A_law_1085 {X : jX} {Qf : Int × Wd → State → Prop} {ad : Nat → Nat} {sbI : Int} {Ln : Nat} {xs9 : Nat → Int32} (C : Cx X code "EachBringsAnotherLaw") (hn : xn X = 7) (hX : LX X sbI Ln xs9) (hr : RtL X Qf ad code) (hst : (xl X).stackTraces = false) (hZ : ZX (xA X) (xs X)) (hSX : SX (xs X)) {f k n : Nat} (hB : LB X (f + 1) k n) {k23 : Int → Wd → Option (Int × Wd)} (hk23 : ∀ (k n : Nat) (v4 : Int) (w : Wd), LB X f k n → VF X Qf ad NF k n w 23 [(0, (3, sbI)), (1, (2, 1)), (2, (2, 44)), (3, (2, 83)), (4, (0, v4))] [] (k23 v4 w)) (v4 : Int) (w : Wd) : VF X Qf ad NF k n w 1085 [(0, (3, sbI)), (1, (2, 1)), (2, (2, 44)), (3, (2, 83)), (4, (0, v4))] [] (f_A_law_1085 Ln xs9 k23 v4 w) := by
  have hb := hB.s
  have hb1 := hB.t
  unfold f_A_law_1085
  refine vf_aload_n C (f := 1) (by decide +kernel) 1 rfl rfl ?_
  refine vf_aload3_n C (f := 0) (by decide +kernel) 0 rfl rfl ?_
  refine vf_iload C (by decide +kernel) 4 rfl ?_
  refine vf_iconst C (z := 1) (by decide +kernel) (jz rfl) ?_
  refine vf_iadd C (by decide +kernel) ?_
  refine vf_xld C hX (by decide +kernel) ?_
  refine vf_callVi C cy_E_led ml_A_170 rfl (ct_E_led _ _) (S := []) sh_0 (by decide) rfl (lb_jrm hb rfl) rfl rfl (Nat.le_of_ble_eq_true rfl) (by decide +kernel) (fun r141 u142 => ?_)
  refine vf_pop C (by decide +kernel) Nat.zero_ne_one ?_
  refine vf_aload_n C (f := 2) (by decide +kernel) 2 rfl rfl ?_
  refine vf_aload3_n C (f := 0) (by decide +kernel) 0 rfl rfl ?_
  refine vf_iload C (by decide +kernel) 4 rfl ?_
  refine vf_iconst C (z := 1) (by decide +kernel) (jz rfl) ?_
  refine vf_iadd C (by decide +kernel) ?_
  refine vf_xld C hX (by decide +kernel) ?_
  refine vf_callVi C cy_R_led ml_A_173 rfl (ct_R_led _ _) (S := []) sh_43 (by decide) rfl (lb_jrm hb rfl) rfl rfl (Nat.le_of_ble_eq_true rfl) (by decide +kernel) (fun r143 u144 => ?_)
  refine vf_pop C (by decide +kernel) Nat.zero_ne_one ?_
  refine vf_goto C (off := 181) (tgt := 1288) (by decide +kernel) (by decide) ?_
  exact t_A_law_1288 C hn hX hr hst hZ hSX hb hk23 _ _
def f_A_law_1110 (Ln : Nat) (xs9 : Nat → Int32) (k23 : Int → Wd → Option (Int × Wd)) (v4 : Int) (w : Wd) : Option (Int × Wd) :=
  jgd ((0 : Int) ≤ (w32 (v4 + 1)) ∧ (w32 (v4 + 1)) < (Ln : Int)) <|
  jcall (f_E_was ((xs9 (w32 (v4 + 1)).toNat).toInt) w) fun r145 u146 =>
  jgd ((0 : Int) ≤ (w32 (v4 + 1)) ∧ (w32 (v4 + 1)) < (Ln : Int)) <|
  jcall (f_R_was ((xs9 (w32 (v4 + 1)).toNat).toInt) u146) fun r147 u148 =>
  f_A_law_1288 Ln xs9 k23 v4 u148
theorem t_A_law_1110 {X : jX} {Qf : Int × Wd → State → Prop} {ad : Nat → Nat} {sbI : Int} {Ln : Nat} {xs9 : Nat → Int32} (C : Cx X code "EachBringsAnotherLaw") (hn : xn X = 7) (hX : LX X sbI Ln xs9) (hr : RtL X Qf ad code) (hst : (xl X).stackTraces = false) (hZ : ZX (xA X) (xs X)) (hSX : SX (xs X)) {f k n : Nat} (hB : LB X (f + 1) k n) {k23 : Int → Wd → Option (Int × Wd)} (hk23 : ∀ (k n : Nat) (v4 : Int) (w : Wd), LB X f k n → VF X Qf ad NF k n w 23 [(0, (3, sbI)), (1, (2, 1)), (2, (2, 44)), (3, (2, 83)), (4, (0, v4))] [] (k23 v4 w)) (v4 : Int) (w : Wd) : VF X Qf ad NF k n w 1110 [(0, (3, sbI)), (1, (2, 1)), (2, (2, 44)), (3, (2, 83)), (4, (0, v4))] [] (f_A_law_1110 Ln xs9 k23 v4 w) := by
  have hb := hB.s
  have hb1 := hB.t
  unfold f_A_law_1110
  refine vf_aload_n C (f := 1) (by decide +kernel) 1 rfl rfl ?_
  refine vf_aload3_n C (f := 0) (by decide +kernel) 0 rfl rfl ?_
  refine vf_iload C (by decide +kernel) 4 rfl ?_
  refine vf_iconst C (z := 1) (by decide +kernel) (jz rfl) ?_
  refine vf_iadd C (by decide +kernel) ?_
  refine vf_xld C hX (by decide +kernel) ?_
  refine vf_callVi C cy_E_was ml_A_174 rfl (ct_E_was _ _) (S := []) sh_0 (by decide) rfl (lb_jrm hb rfl) rfl rfl (Nat.le_of_ble_eq_true rfl) (by decide +kernel) (fun r145 u146 => ?_)
  refine vf_pop C (by decide +kernel) Nat.zero_ne_one ?_
  refine vf_aload_n C (f := 2) (by decide +kernel) 2 rfl rfl ?_
  refine vf_aload3_n C (f := 0) (by decide +kernel) 0 rfl rfl ?_
  refine vf_iload C (by decide +kernel) 4 rfl ?_
  refine vf_iconst C (z := 1) (by decide +kernel) (jz rfl) ?_
  refine vf_iadd C (by decide +kernel) ?_
  refine vf_xld C hX (by decide +kernel) ?_
  refine vf_callVi C cy_R_was ml_A_177 rfl (ct_R_was _ _) (S := []) sh_43 (by decide) rfl (lb_jrm hb rfl) rfl rfl (Nat.le_of_ble_eq_true rfl) (by decide +kernel) (fun r147 u148 => ?_)
  refine vf_pop C (by decide +kernel) Nat.zero_ne_one ?_
  refine vf_goto C (off := 156) (tgt := 1288) (by decide +kernel) (by decide) ?_
  exact t_A_law_1288 C hn hX hr hst hZ hSX hb hk23 _ _
def f_A_law_1135 (Ln : Nat) (xs9 : Nat → Int32) (k23 : Int → Wd → Option (Int × Wd)) (v4 : Int) (w : Wd) : Option (Int × Wd) :=
  jgd ((0 : Int) ≤ (w32 (v4 + 1)) ∧ (w32 (v4 + 1)) < (Ln : Int)) <|
  jgd ((0 : Int) ≤ (w32 (v4 + 2)) ∧ (w32 (v4 + 2)) < (Ln : Int)) <|
  jcall (f_E_common ((xs9 (w32 (v4 + 1)).toNat).toInt) ((xs9 (w32 (v4 + 2)).toNat).toInt) w) fun r149 u150 =>
  jgd ((0 : Int) ≤ (w32 (v4 + 1)) ∧ (w32 (v4 + 1)) < (Ln : Int)) <|
  jgd ((0 : Int) ≤ (w32 (v4 + 2)) ∧ (w32 (v4 + 2)) < (Ln : Int)) <|
  jcall (f_R_common ((xs9 (w32 (v4 + 1)).toNat).toInt) ((xs9 (w32 (v4 + 2)).toNat).toInt) u150) fun r151 u152 =>
  f_A_law_1288 Ln xs9 k23 v4 u152
theorem t_A_law_1135 {X : jX} {Qf : Int × Wd → State → Prop} {ad : Nat → Nat} {sbI : Int} {Ln : Nat} {xs9 : Nat → Int32} (C : Cx X code "EachBringsAnotherLaw") (hn : xn X = 7) (hX : LX X sbI Ln xs9) (hr : RtL X Qf ad code) (hst : (xl X).stackTraces = false) (hZ : ZX (xA X) (xs X)) (hSX : SX (xs X)) {f k n : Nat} (hB : LB X (f + 1) k n) {k23 : Int → Wd → Option (Int × Wd)} (hk23 : ∀ (k n : Nat) (v4 : Int) (w : Wd), LB X f k n → VF X Qf ad NF k n w 23 [(0, (3, sbI)), (1, (2, 1)), (2, (2, 44)), (3, (2, 83)), (4, (0, v4))] [] (k23 v4 w)) (v4 : Int) (w : Wd) : VF X Qf ad NF k n w 1135 [(0, (3, sbI)), (1, (2, 1)), (2, (2, 44)), (3, (2, 83)), (4, (0, v4))] [] (f_A_law_1135 Ln xs9 k23 v4 w) := by
  have hb := hB.s
  have hb1 := hB.t
  unfold f_A_law_1135
  refine vf_aload_n C (f := 1) (by decide +kernel) 1 rfl rfl ?_
  refine vf_aload3_n C (f := 0) (by decide +kernel) 0 rfl rfl ?_
  refine vf_iload C (by decide +kernel) 4 rfl ?_
  refine vf_iconst C (z := 1) (by decide +kernel) (jz rfl) ?_
  refine vf_iadd C (by decide +kernel) ?_
  refine vf_xld C hX (by decide +kernel) ?_
  refine vf_aload3_n C (f := 0) (by decide +kernel) 0 rfl rfl ?_
  refine vf_iload C (by decide +kernel) 4 rfl ?_
  refine vf_iconst C (z := 2) (by decide +kernel) (jz rfl) ?_
  refine vf_iadd C (by decide +kernel) ?_
  refine vf_xld C hX (by decide +kernel) ?_
  refine vf_callVi C cy_E_common ml_A_178 rfl (ct_E_common _ _ _) (S := []) sh_0 (by decide) rfl (lb_jrm hb rfl) rfl rfl (Nat.le_of_ble_eq_true rfl) (by decide +kernel) (fun r149 u150 => ?_)
  refine vf_pop C (by decide +kernel) Nat.zero_ne_one ?_
  refine vf_aload_n C (f := 2) (by decide +kernel) 2 rfl rfl ?_
  refine vf_aload3_n C (f := 0) (by decide +kernel) 0 rfl rfl ?_
  refine vf_iload C (by decide +kernel) 4 rfl ?_
  refine vf_iconst C (z := 1) (by decide +kernel) (jz rfl) ?_
  refine vf_iadd C (by decide +kernel) ?_
  refine vf_xld C hX (by decide +kernel) ?_
  refine vf_aload3_n C (f := 0) (by decide +kernel) 0 rfl rfl ?_
  refine vf_iload C (by decide +kernel) 4 rfl ?_
  refine vf_iconst C (z := 2) (by decide +kernel) (jz rfl) ?_
  refine vf_iadd C (by decide +kernel) ?_
  refine vf_xld C hX (by decide +kernel) ?_
  refine vf_callVi C cy_R_common ml_A_181 rfl (ct_R_common _ _ _) (S := []) sh_43 (by decide) rfl (lb_jrm hb rfl) rfl rfl (Nat.le_of_ble_eq_true rfl) (by decide +kernel) (fun r151 u152 => ?_)
  refine vf_pop C (by decide +kernel) Nat.zero_ne_one ?_
  refine vf_goto C (off := 119) (tgt := 1288) (by decide +kernel) (by decide) ?_
  exact t_A_law_1288 C hn hX hr hst hZ hSX hb hk23 _ _
def f_A_law_1172 (Ln : Nat) (xs9 : Nat → Int32) (k23 : Int → Wd → Option (Int × Wd)) (v4 : Int) (w : Wd) : Option (Int × Wd) :=
  jcall (f_E_father w) fun r153 u154 =>
  jcall (f_R_father u154) fun r155 u156 =>
  f_A_law_1288 Ln xs9 k23 v4 u156
theorem t_A_law_1172 {X : jX} {Qf : Int × Wd → State → Prop} {ad : Nat → Nat} {sbI : Int} {Ln : Nat} {xs9 : Nat → Int32} (C : Cx X code "EachBringsAnotherLaw") (hn : xn X = 7) (hX : LX X sbI Ln xs9) (hr : RtL X Qf ad code) (hst : (xl X).stackTraces = false) (hZ : ZX (xA X) (xs X)) (hSX : SX (xs X)) {f k n : Nat} (hB : LB X (f + 1) k n) {k23 : Int → Wd → Option (Int × Wd)} (hk23 : ∀ (k n : Nat) (v4 : Int) (w : Wd), LB X f k n → VF X Qf ad NF k n w 23 [(0, (3, sbI)), (1, (2, 1)), (2, (2, 44)), (3, (2, 83)), (4, (0, v4))] [] (k23 v4 w)) (v4 : Int) (w : Wd) : VF X Qf ad NF k n w 1172 [(0, (3, sbI)), (1, (2, 1)), (2, (2, 44)), (3, (2, 83)), (4, (0, v4))] [] (f_A_law_1172 Ln xs9 k23 v4 w) := by
  have hb := hB.s
  have hb1 := hB.t
  unfold f_A_law_1172
  refine vf_aload_n C (f := 1) (by decide +kernel) 1 rfl rfl ?_
  refine vf_callVi C cy_E_father ml_A_182 rfl (ct_E_father _) (S := []) sh_0 (by decide) rfl (lb_jrm hb rfl) rfl rfl (Nat.le_of_ble_eq_true rfl) (by decide +kernel) (fun r153 u154 => ?_)
  refine vf_pop C (by decide +kernel) Nat.zero_ne_one ?_
  refine vf_aload_n C (f := 2) (by decide +kernel) 2 rfl rfl ?_
  refine vf_callVi C cy_R_father ml_A_185 rfl (ct_R_father _) (S := []) sh_43 (by decide) rfl (lb_jrm hb rfl) rfl rfl (Nat.le_of_ble_eq_true rfl) (by decide +kernel) (fun r155 u156 => ?_)
  refine vf_pop C (by decide +kernel) Nat.zero_ne_one ?_
  refine vf_goto C (off := 106) (tgt := 1288) (by decide +kernel) (by decide) ?_
  exact t_A_law_1288 C hn hX hr hst hZ hSX hb hk23 _ _
def f_A_law_1185 (Ln : Nat) (xs9 : Nat → Int32) (k23 : Int → Wd → Option (Int × Wd)) (v4 : Int) (w : Wd) : Option (Int × Wd) :=
  jgd ((0 : Int) ≤ (w32 (v4 + 1)) ∧ (w32 (v4 + 1)) < (Ln : Int)) <|
  jcall (f_E_keep ((xs9 (w32 (v4 + 1)).toNat).toInt) w) fun r157 u158 =>
  jgd ((0 : Int) ≤ (w32 (v4 + 1)) ∧ (w32 (v4 + 1)) < (Ln : Int)) <|
  jcall (f_R_keep ((xs9 (w32 (v4 + 1)).toNat).toInt) u158) fun r159 u160 =>
  f_A_law_1288 Ln xs9 k23 v4 u160
theorem t_A_law_1185 {X : jX} {Qf : Int × Wd → State → Prop} {ad : Nat → Nat} {sbI : Int} {Ln : Nat} {xs9 : Nat → Int32} (C : Cx X code "EachBringsAnotherLaw") (hn : xn X = 7) (hX : LX X sbI Ln xs9) (hr : RtL X Qf ad code) (hst : (xl X).stackTraces = false) (hZ : ZX (xA X) (xs X)) (hSX : SX (xs X)) {f k n : Nat} (hB : LB X (f + 1) k n) {k23 : Int → Wd → Option (Int × Wd)} (hk23 : ∀ (k n : Nat) (v4 : Int) (w : Wd), LB X f k n → VF X Qf ad NF k n w 23 [(0, (3, sbI)), (1, (2, 1)), (2, (2, 44)), (3, (2, 83)), (4, (0, v4))] [] (k23 v4 w)) (v4 : Int) (w : Wd) : VF X Qf ad NF k n w 1185 [(0, (3, sbI)), (1, (2, 1)), (2, (2, 44)), (3, (2, 83)), (4, (0, v4))] [] (f_A_law_1185 Ln xs9 k23 v4 w) := by
  have hb := hB.s
  have hb1 := hB.t
  unfold f_A_law_1185
  refine vf_aload_n C (f := 1) (by decide +kernel) 1 rfl rfl ?_
  refine vf_aload3_n C (f := 0) (by decide +kernel) 0 rfl rfl ?_
  refine vf_iload C (by decide +kernel) 4 rfl ?_
  refine vf_iconst C (z := 1) (by decide +kernel) (jz rfl) ?_
  refine vf_iadd C (by decide +kernel) ?_
  refine vf_xld C hX (by decide +kernel) ?_
  refine vf_callVz C cy_E_keep ml_A_186 rfl (ct_E_keep _ _) (S := []) sh_0 (by decide) rfl (lb_jrm hb rfl) rfl rfl (Nat.le_of_ble_eq_true rfl) (by decide +kernel) (fun r157 u158 => ?_)
  refine vf_pop C (by decide +kernel) Nat.zero_ne_one ?_
  refine vf_aload_n C (f := 2) (by decide +kernel) 2 rfl rfl ?_
  refine vf_aload3_n C (f := 0) (by decide +kernel) 0 rfl rfl ?_
  refine vf_iload C (by decide +kernel) 4 rfl ?_
  refine vf_iconst C (z := 1) (by decide +kernel) (jz rfl) ?_
  refine vf_iadd C (by decide +kernel) ?_
  refine vf_xld C hX (by decide +kernel) ?_
  refine vf_callVz C cy_R_keep ml_A_189 rfl (ct_R_keep _ _) (S := []) sh_43 (by decide) rfl (lb_jrm hb rfl) rfl rfl (Nat.le_of_ble_eq_true rfl) (by decide +kernel) (fun r159 u160 => ?_)
  refine vf_pop C (by decide +kernel) Nat.zero_ne_one ?_
  refine vf_goto C (off := 81) (tgt := 1288) (by decide +kernel) (by decide) ?_
  exact t_A_law_1288 C hn hX hr hst hZ hSX hb hk23 _ _
def f_A_law_1210 (Ln : Nat) (xs9 : Nat → Int32) (k23 : Int → Wd → Option (Int × Wd)) (v4 : Int) (w : Wd) : Option (Int × Wd) :=
  jgd ((0 : Int) ≤ (w32 (v4 + 1)) ∧ (w32 (v4 + 1)) < (Ln : Int)) <|
  jcall (f_E_again ((xs9 (w32 (v4 + 1)).toNat).toInt) w) fun r161 u162 =>
  jgd ((0 : Int) ≤ (w32 (v4 + 1)) ∧ (w32 (v4 + 1)) < (Ln : Int)) <|
  jcall (f_R_again ((xs9 (w32 (v4 + 1)).toNat).toInt) u162) fun r163 u164 =>
  f_A_law_1288 Ln xs9 k23 v4 u164
theorem t_A_law_1210 {X : jX} {Qf : Int × Wd → State → Prop} {ad : Nat → Nat} {sbI : Int} {Ln : Nat} {xs9 : Nat → Int32} (C : Cx X code "EachBringsAnotherLaw") (hn : xn X = 7) (hX : LX X sbI Ln xs9) (hr : RtL X Qf ad code) (hst : (xl X).stackTraces = false) (hZ : ZX (xA X) (xs X)) (hSX : SX (xs X)) {f k n : Nat} (hB : LB X (f + 1) k n) {k23 : Int → Wd → Option (Int × Wd)} (hk23 : ∀ (k n : Nat) (v4 : Int) (w : Wd), LB X f k n → VF X Qf ad NF k n w 23 [(0, (3, sbI)), (1, (2, 1)), (2, (2, 44)), (3, (2, 83)), (4, (0, v4))] [] (k23 v4 w)) (v4 : Int) (w : Wd) : VF X Qf ad NF k n w 1210 [(0, (3, sbI)), (1, (2, 1)), (2, (2, 44)), (3, (2, 83)), (4, (0, v4))] [] (f_A_law_1210 Ln xs9 k23 v4 w) := by
  have hb := hB.s
  have hb1 := hB.t
  unfold f_A_law_1210
  refine vf_aload_n C (f := 1) (by decide +kernel) 1 rfl rfl ?_
  refine vf_aload3_n C (f := 0) (by decide +kernel) 0 rfl rfl ?_
  refine vf_iload C (by decide +kernel) 4 rfl ?_
  refine vf_iconst C (z := 1) (by decide +kernel) (jz rfl) ?_
  refine vf_iadd C (by decide +kernel) ?_
  refine vf_xld C hX (by decide +kernel) ?_
  refine vf_callVz C cy_E_again ml_A_190 rfl (ct_E_again _ _) (S := []) sh_0 (by decide) rfl (lb_jrm hb rfl) rfl rfl (Nat.le_of_ble_eq_true rfl) (by decide +kernel) (fun r161 u162 => ?_)
  refine vf_pop C (by decide +kernel) Nat.zero_ne_one ?_
  refine vf_aload_n C (f := 2) (by decide +kernel) 2 rfl rfl ?_
  refine vf_aload3_n C (f := 0) (by decide +kernel) 0 rfl rfl ?_
  refine vf_iload C (by decide +kernel) 4 rfl ?_
  refine vf_iconst C (z := 1) (by decide +kernel) (jz rfl) ?_
  refine vf_iadd C (by decide +kernel) ?_
  refine vf_xld C hX (by decide +kernel) ?_
  refine vf_callVz C cy_R_again ml_A_193 rfl (ct_R_again _ _) (S := []) sh_43 (by decide) rfl (lb_jrm hb rfl) rfl rfl (Nat.le_of_ble_eq_true rfl) (by decide +kernel) (fun r163 u164 => ?_)
  refine vf_pop C (by decide +kernel) Nat.zero_ne_one ?_
  refine vf_goto C (off := 56) (tgt := 1288) (by decide +kernel) (by decide) ?_
  exact t_A_law_1288 C hn hX hr hst hZ hSX hb hk23 _ _
def f_A_law_1235 (Ln : Nat) (xs9 : Nat → Int32) (k23 : Int → Wd → Option (Int × Wd)) (v4 : Int) (w : Wd) : Option (Int × Wd) :=
  jgd ((0 : Int) ≤ (w32 (v4 + 1)) ∧ (w32 (v4 + 1)) < (Ln : Int)) <|
  jcall (f_E_count ((xs9 (w32 (v4 + 1)).toNat).toInt) w) fun r165 u166 =>
  jgd ((0 : Int) ≤ (w32 (v4 + 1)) ∧ (w32 (v4 + 1)) < (Ln : Int)) <|
  jcall (f_R_count ((xs9 (w32 (v4 + 1)).toNat).toInt) u166) fun r167 u168 =>
  f_A_law_1288 Ln xs9 k23 v4 u168
theorem t_A_law_1235 {X : jX} {Qf : Int × Wd → State → Prop} {ad : Nat → Nat} {sbI : Int} {Ln : Nat} {xs9 : Nat → Int32} (C : Cx X code "EachBringsAnotherLaw") (hn : xn X = 7) (hX : LX X sbI Ln xs9) (hr : RtL X Qf ad code) (hst : (xl X).stackTraces = false) (hZ : ZX (xA X) (xs X)) (hSX : SX (xs X)) {f k n : Nat} (hB : LB X (f + 1) k n) {k23 : Int → Wd → Option (Int × Wd)} (hk23 : ∀ (k n : Nat) (v4 : Int) (w : Wd), LB X f k n → VF X Qf ad NF k n w 23 [(0, (3, sbI)), (1, (2, 1)), (2, (2, 44)), (3, (2, 83)), (4, (0, v4))] [] (k23 v4 w)) (v4 : Int) (w : Wd) : VF X Qf ad NF k n w 1235 [(0, (3, sbI)), (1, (2, 1)), (2, (2, 44)), (3, (2, 83)), (4, (0, v4))] [] (f_A_law_1235 Ln xs9 k23 v4 w) := by
  have hb := hB.s
  have hb1 := hB.t
  unfold f_A_law_1235
  refine vf_aload_n C (f := 1) (by decide +kernel) 1 rfl rfl ?_
  refine vf_aload3_n C (f := 0) (by decide +kernel) 0 rfl rfl ?_
  refine vf_iload C (by decide +kernel) 4 rfl ?_
  refine vf_iconst C (z := 1) (by decide +kernel) (jz rfl) ?_
  refine vf_iadd C (by decide +kernel) ?_
  refine vf_xld C hX (by decide +kernel) ?_
  refine vf_callVi C cy_E_count ml_A_194 rfl (ct_E_count _ _) (S := []) sh_0 (by decide) rfl (lb_jrm hb rfl) rfl rfl (Nat.le_of_ble_eq_true rfl) (by decide +kernel) (fun r165 u166 => ?_)
  refine vf_pop C (by decide +kernel) Nat.zero_ne_one ?_
  refine vf_aload_n C (f := 2) (by decide +kernel) 2 rfl rfl ?_
  refine vf_aload3_n C (f := 0) (by decide +kernel) 0 rfl rfl ?_
  refine vf_iload C (by decide +kernel) 4 rfl ?_
  refine vf_iconst C (z := 1) (by decide +kernel) (jz rfl) ?_
  refine vf_iadd C (by decide +kernel) ?_
  refine vf_xld C hX (by decide +kernel) ?_
  refine vf_callVi C cy_R_count ml_A_197 rfl (ct_R_count _ _) (S := []) sh_43 (by decide) rfl (lb_jrm hb rfl) rfl rfl (Nat.le_of_ble_eq_true rfl) (by decide +kernel) (fun r167 u168 => ?_)
  refine vf_pop C (by decide +kernel) Nat.zero_ne_one ?_
  refine vf_goto C (off := 31) (tgt := 1288) (by decide +kernel) (by decide) ?_
  exact t_A_law_1288 C hn hX hr hst hZ hSX hb hk23 _ _
def f_A_law_1260 (Ln : Nat) (xs9 : Nat → Int32) (k23 : Int → Wd → Option (Int × Wd)) (v4 : Int) (w : Wd) : Option (Int × Wd) :=
  jgd ((0 : Int) ≤ (w32 (v4 + 1)) ∧ (w32 (v4 + 1)) < (Ln : Int)) <|
  jcall (f_A_row ((xs9 (w32 (v4 + 1)).toNat).toInt) w) fun r169 u170 =>
  jgd ((0 : Int) ≤ (w32 (v4 + 1)) ∧ (w32 (v4 + 1)) < (Ln : Int)) <|
  jcall (f_R_row ((xs9 (w32 (v4 + 1)).toNat).toInt) u170) fun r171 u172 =>
  f_A_law_1288 Ln xs9 k23 v4 u172
theorem t_A_law_1260 {X : jX} {Qf : Int × Wd → State → Prop} {ad : Nat → Nat} {sbI : Int} {Ln : Nat} {xs9 : Nat → Int32} (C : Cx X code "EachBringsAnotherLaw") (hn : xn X = 7) (hX : LX X sbI Ln xs9) (hr : RtL X Qf ad code) (hst : (xl X).stackTraces = false) (hZ : ZX (xA X) (xs X)) (hSX : SX (xs X)) {f k n : Nat} (hB : LB X (f + 1) k n) {k23 : Int → Wd → Option (Int × Wd)} (hk23 : ∀ (k n : Nat) (v4 : Int) (w : Wd), LB X f k n → VF X Qf ad NF k n w 23 [(0, (3, sbI)), (1, (2, 1)), (2, (2, 44)), (3, (2, 83)), (4, (0, v4))] [] (k23 v4 w)) (v4 : Int) (w : Wd) : VF X Qf ad NF k n w 1260 [(0, (3, sbI)), (1, (2, 1)), (2, (2, 44)), (3, (2, 83)), (4, (0, v4))] [] (f_A_law_1260 Ln xs9 k23 v4 w) := by
  have hb := hB.s
  have hb1 := hB.t
  unfold f_A_law_1260
  refine vf_aload_n C (f := 1) (by decide +kernel) 1 rfl rfl ?_
  refine vf_aload3_n C (f := 0) (by decide +kernel) 0 rfl rfl ?_
  refine vf_iload C (by decide +kernel) 4 rfl ?_
  refine vf_iconst C (z := 1) (by decide +kernel) (jz rfl) ?_
  refine vf_iadd C (by decide +kernel) ?_
  refine vf_xld C hX (by decide +kernel) ?_
  refine vf_aload_n C (f := 3) (by decide +kernel) 3 rfl rfl ?_
  refine vf_callH C hAd_row hAi hAl_row hAs_row hAc_row (ct_A_row _ _) (S := []) (lb_jrm hb1 rfl) rfl rfl (Nat.le_of_ble_eq_true rfl) (by decide +kernel) hst hZ hSX (fun r169 u170 => ?_)
  refine vf_istore C (i := 5) (L' := [(0, (3, sbI)), (1, (2, 1)), (2, (2, 44)), (3, (2, 83)), (4, (0, v4))]) (by decide +kernel) [0, 1, 2, 3, 4] (jrI rfl rfl) hn (by decide) ?_
  refine vf_aload_n C (f := 2) (by decide +kernel) 3 rfl rfl ?_
  refine vf_aload3_n C (f := 0) (by decide +kernel) 1 rfl rfl ?_
  refine vf_iload C (by decide +kernel) 5 rfl ?_
  refine vf_iconst C (z := 1) (by decide +kernel) (jz rfl) ?_
  refine vf_iadd C (by decide +kernel) ?_
  refine vf_xld C hX (by decide +kernel) ?_
  refine vf_callVi C cy_R_row ml_A_201 rfl (ct_R_row _ _) (S := []) sh_43 (by decide) rfl (lb_jrm hb1 rfl) rfl rfl (Nat.le_of_ble_eq_true rfl) (by decide +kernel) (fun r171 u172 => ?_)
  refine vf_istore C (i := 6) (L' := [(0, (3, sbI)), (1, (2, 1)), (2, (2, 44)), (3, (2, 83)), (4, (0, v4))]) (by decide +kernel) [1, 2, 3, 4, 5] (jrI rfl rfl) hn (by decide) ?_
  refine vf_goto C (off := 3) (tgt := 1288) (by decide +kernel) (by decide) ?_
  exact vf_perm [1, 2, 3, 4, 5] rfl (t_A_law_1288 C hn hX hr hst hZ hSX hb1 hk23 _ _)
def f_A_law (Ln : Nat) (xs9 : Nat → Int32) : Nat → Int → Wd → Option (Int × Wd)
  | 0, _, _ => none
  | f + 1, v4, w =>
    if (w32 (((Ln : Int)) - 5)) < v4 then
      some (1, w)
    else
      jgd ((0 : Int) ≤ v4 ∧ v4 < (Ln : Int)) <|
      jlet (iand ((xs9 v4.toNat).toInt) 63) fun x1 =>
      if x1 < 0 ∨ 41 < x1 then
        f_A_law_1288 Ln xs9 (f_A_law Ln xs9 f) v4 w
      else
      if x1 = 0 then
        f_A_law_220 Ln xs9 (f_A_law Ln xs9 f) v4 w
      else
      if x1 = 1 then
        f_A_law_245 Ln xs9 (f_A_law Ln xs9 f) v4 w
      else
      if x1 = 2 then
        f_A_law_270 Ln xs9 (f_A_law Ln xs9 f) v4 w
      else
      if x1 = 3 then
        f_A_law_283 Ln xs9 (f_A_law Ln xs9 f) v4 w
      else
      if x1 = 4 then
        f_A_law_296 Ln xs9 (f_A_law Ln xs9 f) v4 w
      else
      if x1 = 5 then
        f_A_law_364 Ln xs9 (f_A_law Ln xs9 f) v4 w
      else
      if x1 = 6 then
        f_A_law_401 Ln xs9 (f_A_law Ln xs9 f) v4 w
      else
      if x1 = 7 then
        f_A_law_466 Ln xs9 (f_A_law Ln xs9 f) v4 w
      else
      if x1 = 8 then
        f_A_law_519 Ln xs9 (f_A_law Ln xs9 f) v4 w
      else
      if x1 = 9 then
        f_A_law_544 Ln xs9 (f_A_law Ln xs9 f) v4 w
      else
      if x1 = 10 then
        f_A_law_605 Ln xs9 (f_A_law Ln xs9 f) v4 w
      else
      if x1 = 11 then
        f_A_law_618 Ln xs9 (f_A_law Ln xs9 f) v4 w
      else
      if x1 = 12 then
        f_A_law_643 Ln xs9 (f_A_law Ln xs9 f) v4 w
      else
      if x1 = 13 then
        f_A_law_656 Ln xs9 (f_A_law Ln xs9 f) v4 w
      else
      if x1 = 14 then
        f_A_law_669 Ln xs9 (f_A_law Ln xs9 f) v4 w
      else
      if x1 = 15 then
        f_A_law_694 Ln xs9 (f_A_law Ln xs9 f) v4 w
      else
      if x1 = 16 then
        f_A_law_707 Ln xs9 (f_A_law Ln xs9 f) v4 w
      else
      if x1 = 17 then
        f_A_law_720 Ln xs9 (f_A_law Ln xs9 f) v4 w
      else
      if x1 = 18 then
        f_A_law_733 Ln xs9 (f_A_law Ln xs9 f) v4 w
      else
      if x1 = 19 then
        f_A_law_758 Ln xs9 (f_A_law Ln xs9 f) v4 w
      else
      if x1 = 20 then
        f_A_law_783 Ln xs9 (f_A_law Ln xs9 f) v4 w
      else
      if x1 = 21 then
        f_A_law_808 Ln xs9 (f_A_law Ln xs9 f) v4 w
      else
      if x1 = 22 then
        f_A_law_821 Ln xs9 (f_A_law Ln xs9 f) v4 w
      else
      if x1 = 23 then
        f_A_law_870 Ln xs9 (f_A_law Ln xs9 f) v4 w
      else
      if x1 = 24 then
        f_A_law_883 Ln xs9 (f_A_law Ln xs9 f) v4 w
      else
      if x1 = 25 then
        f_A_law_896 Ln xs9 (f_A_law Ln xs9 f) v4 w
      else
      if x1 = 26 then
        f_A_law_921 Ln xs9 (f_A_law Ln xs9 f) v4 w
      else
      if x1 = 27 then
        f_A_law_946 Ln xs9 (f_A_law Ln xs9 f) v4 w
      else
      if x1 = 28 then
        f_A_law_971 Ln xs9 (f_A_law Ln xs9 f) v4 w
      else
      if x1 = 29 then
        f_A_law_996 Ln xs9 (f_A_law Ln xs9 f) v4 w
      else
      if x1 = 30 then
        f_A_law_1009 Ln xs9 (f_A_law Ln xs9 f) v4 w
      else
      if x1 = 31 then
        f_A_law_1022 Ln xs9 (f_A_law Ln xs9 f) v4 w
      else
      if x1 = 32 then
        f_A_law_1035 Ln xs9 (f_A_law Ln xs9 f) v4 w
      else
      if x1 = 33 then
        f_A_law_1060 Ln xs9 (f_A_law Ln xs9 f) v4 w
      else
      if x1 = 34 then
        f_A_law_1085 Ln xs9 (f_A_law Ln xs9 f) v4 w
      else
      if x1 = 35 then
        f_A_law_1110 Ln xs9 (f_A_law Ln xs9 f) v4 w
      else
      if x1 = 36 then
        f_A_law_1135 Ln xs9 (f_A_law Ln xs9 f) v4 w
      else
      if x1 = 37 then
        f_A_law_1172 Ln xs9 (f_A_law Ln xs9 f) v4 w
      else
      if x1 = 38 then
        f_A_law_1185 Ln xs9 (f_A_law Ln xs9 f) v4 w
      else
      if x1 = 39 then
        f_A_law_1210 Ln xs9 (f_A_law Ln xs9 f) v4 w
      else
      if x1 = 40 then
        f_A_law_1235 Ln xs9 (f_A_law Ln xs9 f) v4 w
      else
      if x1 = 41 then
        f_A_law_1260 Ln xs9 (f_A_law Ln xs9 f) v4 w
      else
      none
theorem t_A_law {X : jX} {Qf : Int × Wd → State → Prop} {ad : Nat → Nat} {sbI : Int} {Ln : Nat} {xs9 : Nat → Int32} (C : Cx X code "EachBringsAnotherLaw") (hn : xn X = 7) (hX : LX X sbI Ln xs9) (hr : RtL X Qf ad code) (hst : (xl X).stackTraces = false) (hZ : ZX (xA X) (xs X)) (hSX : SX (xs X)) : ∀ (f k n : Nat) (v4 : Int) (w : Wd), LB X f k n → VF X Qf ad NF k n w 23 [(0, (3, sbI)), (1, (2, 1)), (2, (2, 44)), (3, (2, 83)), (4, (0, v4))] [] (f_A_law Ln xs9 f v4 w) := by
  intro f
  induction f with
  | zero => intros; exact vf_no
  | succ f ih =>
    intro k n v4 w hB
    have hb := hB.s
    rw [f_A_law]
    refine vf_iload C (by decide +kernel) 4 rfl ?_
    refine vf_aload3_n C (f := 0) (by decide +kernel) 0 rfl rfl ?_
    refine vf_xlen C hX (by decide +kernel) ?_
    refine vf_iconst C (z := 5) (by decide +kernel) (jz rfl) ?_
    refine vf_isub C (by decide +kernel) ?_
    refine vf_icmp_gt C (off := 1265) (tgt := 1294) (by decide +kernel) (by decide) ?_ ?_
    · refine vf_iconst C (z := 1) (by decide +kernel) (jz rfl) ?_
      exact hr _ _ _ _ _ _ hb (by decide +kernel)
    · refine vf_aload3_n C (f := 0) (by decide +kernel) 0 rfl rfl ?_
      refine vf_iload C (by decide +kernel) 4 rfl ?_
      refine vf_xld C hX (by decide +kernel) ?_
      refine vf_bipush C (z := 63) (by decide +kernel) (by decide +kernel) (jz rfl) ?_
      refine vf_iand C (by decide +kernel) ?_
      generalize iand ((xs9 v4.toNat).toInt) 63 = x1
      refine vf_ul ?_
      refine vf_if _ (fun h => ?_) (fun _ => ?_)
      · refine vf_swd C (tgt := 1288) dA_sw h (by decide) ?_
        exact t_A_law_1288 C hn hX hr hst hZ hSX hb ih _ _
      refine vf_if _ (fun h => ?_) (fun _ => ?_)
      · refine vf_swx C (z := 0) (off := 181) (tgt := 220) dA_sw h (by decide) (by decide) rfl (by decide) ?_
        exact t_A_law_220 C hn hX hr hst hZ hSX hB ih _ _
      refine vf_if _ (fun h => ?_) (fun _ => ?_)
      · refine vf_swx C (z := 1) (off := 206) (tgt := 245) dA_sw h (by decide) (by decide) rfl (by decide) ?_
        exact t_A_law_245 C hn hX hr hst hZ hSX hB ih _ _
      refine vf_if _ (fun h => ?_) (fun _ => ?_)
      · refine vf_swx C (z := 2) (off := 231) (tgt := 270) dA_sw h (by decide) (by decide) rfl (by decide) ?_
        exact t_A_law_270 C hn hX hr hst hZ hSX hB ih _ _
      refine vf_if _ (fun h => ?_) (fun _ => ?_)
      · refine vf_swx C (z := 3) (off := 244) (tgt := 283) dA_sw h (by decide) (by decide) rfl (by decide) ?_
        exact t_A_law_283 C hn hX hr hst hZ hSX hB ih _ _
      refine vf_if _ (fun h => ?_) (fun _ => ?_)
      · refine vf_swx C (z := 4) (off := 257) (tgt := 296) dA_sw h (by decide) (by decide) rfl (by decide) ?_
        exact t_A_law_296 C hn hX hr hst hZ hSX hB ih _ _
      refine vf_if _ (fun h => ?_) (fun _ => ?_)
      · refine vf_swx C (z := 5) (off := 325) (tgt := 364) dA_sw h (by decide) (by decide) rfl (by decide) ?_
        exact t_A_law_364 C hn hX hr hst hZ hSX hB ih _ _
      refine vf_if _ (fun h => ?_) (fun _ => ?_)
      · refine vf_swx C (z := 6) (off := 362) (tgt := 401) dA_sw h (by decide) (by decide) rfl (by decide) ?_
        exact t_A_law_401 C hn hX hr hst hZ hSX hB ih _ _
      refine vf_if _ (fun h => ?_) (fun _ => ?_)
      · refine vf_swx C (z := 7) (off := 427) (tgt := 466) dA_sw h (by decide) (by decide) rfl (by decide) ?_
        exact t_A_law_466 C hn hX hr hst hZ hSX hB ih _ _
      refine vf_if _ (fun h => ?_) (fun _ => ?_)
      · refine vf_swx C (z := 8) (off := 480) (tgt := 519) dA_sw h (by decide) (by decide) rfl (by decide) ?_
        exact t_A_law_519 C hn hX hr hst hZ hSX hB ih _ _
      refine vf_if _ (fun h => ?_) (fun _ => ?_)
      · refine vf_swx C (z := 9) (off := 505) (tgt := 544) dA_sw h (by decide) (by decide) rfl (by decide) ?_
        exact t_A_law_544 C hn hX hr hst hZ hSX hB ih _ _
      refine vf_if _ (fun h => ?_) (fun _ => ?_)
      · refine vf_swx C (z := 10) (off := 566) (tgt := 605) dA_sw h (by decide) (by decide) rfl (by decide) ?_
        exact t_A_law_605 C hn hX hr hst hZ hSX hB ih _ _
      refine vf_if _ (fun h => ?_) (fun _ => ?_)
      · refine vf_swx C (z := 11) (off := 579) (tgt := 618) dA_sw h (by decide) (by decide) rfl (by decide) ?_
        exact t_A_law_618 C hn hX hr hst hZ hSX hB ih _ _
      refine vf_if _ (fun h => ?_) (fun _ => ?_)
      · refine vf_swx C (z := 12) (off := 604) (tgt := 643) dA_sw h (by decide) (by decide) rfl (by decide) ?_
        exact t_A_law_643 C hn hX hr hst hZ hSX hB ih _ _
      refine vf_if _ (fun h => ?_) (fun _ => ?_)
      · refine vf_swx C (z := 13) (off := 617) (tgt := 656) dA_sw h (by decide) (by decide) rfl (by decide) ?_
        exact t_A_law_656 C hn hX hr hst hZ hSX hB ih _ _
      refine vf_if _ (fun h => ?_) (fun _ => ?_)
      · refine vf_swx C (z := 14) (off := 630) (tgt := 669) dA_sw h (by decide) (by decide) rfl (by decide) ?_
        exact t_A_law_669 C hn hX hr hst hZ hSX hB ih _ _
      refine vf_if _ (fun h => ?_) (fun _ => ?_)
      · refine vf_swx C (z := 15) (off := 655) (tgt := 694) dA_sw h (by decide) (by decide) rfl (by decide) ?_
        exact t_A_law_694 C hn hX hr hst hZ hSX hB ih _ _
      refine vf_if _ (fun h => ?_) (fun _ => ?_)
      · refine vf_swx C (z := 16) (off := 668) (tgt := 707) dA_sw h (by decide) (by decide) rfl (by decide) ?_
        exact t_A_law_707 C hn hX hr hst hZ hSX hB ih _ _
      refine vf_if _ (fun h => ?_) (fun _ => ?_)
      · refine vf_swx C (z := 17) (off := 681) (tgt := 720) dA_sw h (by decide) (by decide) rfl (by decide) ?_
        exact t_A_law_720 C hn hX hr hst hZ hSX hB ih _ _
      refine vf_if _ (fun h => ?_) (fun _ => ?_)
      · refine vf_swx C (z := 18) (off := 694) (tgt := 733) dA_sw h (by decide) (by decide) rfl (by decide) ?_
        exact t_A_law_733 C hn hX hr hst hZ hSX hB ih _ _
      refine vf_if _ (fun h => ?_) (fun _ => ?_)
      · refine vf_swx C (z := 19) (off := 719) (tgt := 758) dA_sw h (by decide) (by decide) rfl (by decide) ?_
        exact t_A_law_758 C hn hX hr hst hZ hSX hB ih _ _
      refine vf_if _ (fun h => ?_) (fun _ => ?_)
      · refine vf_swx C (z := 20) (off := 744) (tgt := 783) dA_sw h (by decide) (by decide) rfl (by decide) ?_
        exact t_A_law_783 C hn hX hr hst hZ hSX hB ih _ _
      refine vf_if _ (fun h => ?_) (fun _ => ?_)
      · refine vf_swx C (z := 21) (off := 769) (tgt := 808) dA_sw h (by decide) (by decide) rfl (by decide) ?_
        exact t_A_law_808 C hn hX hr hst hZ hSX hB ih _ _
      refine vf_if _ (fun h => ?_) (fun _ => ?_)
      · refine vf_swx C (z := 22) (off := 782) (tgt := 821) dA_sw h (by decide) (by decide) rfl (by decide) ?_
        exact t_A_law_821 C hn hX hr hst hZ hSX hB ih _ _
      refine vf_if _ (fun h => ?_) (fun _ => ?_)
      · refine vf_swx C (z := 23) (off := 831) (tgt := 870) dA_sw h (by decide) (by decide) rfl (by decide) ?_
        exact t_A_law_870 C hn hX hr hst hZ hSX hB ih _ _
      refine vf_if _ (fun h => ?_) (fun _ => ?_)
      · refine vf_swx C (z := 24) (off := 844) (tgt := 883) dA_sw h (by decide) (by decide) rfl (by decide) ?_
        exact t_A_law_883 C hn hX hr hst hZ hSX hB ih _ _
      refine vf_if _ (fun h => ?_) (fun _ => ?_)
      · refine vf_swx C (z := 25) (off := 857) (tgt := 896) dA_sw h (by decide) (by decide) rfl (by decide) ?_
        exact t_A_law_896 C hn hX hr hst hZ hSX hB ih _ _
      refine vf_if _ (fun h => ?_) (fun _ => ?_)
      · refine vf_swx C (z := 26) (off := 882) (tgt := 921) dA_sw h (by decide) (by decide) rfl (by decide) ?_
        exact t_A_law_921 C hn hX hr hst hZ hSX hB ih _ _
      refine vf_if _ (fun h => ?_) (fun _ => ?_)
      · refine vf_swx C (z := 27) (off := 907) (tgt := 946) dA_sw h (by decide) (by decide) rfl (by decide) ?_
        exact t_A_law_946 C hn hX hr hst hZ hSX hB ih _ _
      refine vf_if _ (fun h => ?_) (fun _ => ?_)
      · refine vf_swx C (z := 28) (off := 932) (tgt := 971) dA_sw h (by decide) (by decide) rfl (by decide) ?_
        exact t_A_law_971 C hn hX hr hst hZ hSX hB ih _ _
      refine vf_if _ (fun h => ?_) (fun _ => ?_)
      · refine vf_swx C (z := 29) (off := 957) (tgt := 996) dA_sw h (by decide) (by decide) rfl (by decide) ?_
        exact t_A_law_996 C hn hX hr hst hZ hSX hB ih _ _
      refine vf_if _ (fun h => ?_) (fun _ => ?_)
      · refine vf_swx C (z := 30) (off := 970) (tgt := 1009) dA_sw h (by decide) (by decide) rfl (by decide) ?_
        exact t_A_law_1009 C hn hX hr hst hZ hSX hB ih _ _
      refine vf_if _ (fun h => ?_) (fun _ => ?_)
      · refine vf_swx C (z := 31) (off := 983) (tgt := 1022) dA_sw h (by decide) (by decide) rfl (by decide) ?_
        exact t_A_law_1022 C hn hX hr hst hZ hSX hB ih _ _
      refine vf_if _ (fun h => ?_) (fun _ => ?_)
      · refine vf_swx C (z := 32) (off := 996) (tgt := 1035) dA_sw h (by decide) (by decide) rfl (by decide) ?_
        exact t_A_law_1035 C hn hX hr hst hZ hSX hB ih _ _
      refine vf_if _ (fun h => ?_) (fun _ => ?_)
      · refine vf_swx C (z := 33) (off := 1021) (tgt := 1060) dA_sw h (by decide) (by decide) rfl (by decide) ?_
        exact t_A_law_1060 C hn hX hr hst hZ hSX hB ih _ _
      refine vf_if _ (fun h => ?_) (fun _ => ?_)
      · refine vf_swx C (z := 34) (off := 1046) (tgt := 1085) dA_sw h (by decide) (by decide) rfl (by decide) ?_
        exact t_A_law_1085 C hn hX hr hst hZ hSX hB ih _ _
      refine vf_if _ (fun h => ?_) (fun _ => ?_)
      · refine vf_swx C (z := 35) (off := 1071) (tgt := 1110) dA_sw h (by decide) (by decide) rfl (by decide) ?_
        exact t_A_law_1110 C hn hX hr hst hZ hSX hB ih _ _
      refine vf_if _ (fun h => ?_) (fun _ => ?_)
      · refine vf_swx C (z := 36) (off := 1096) (tgt := 1135) dA_sw h (by decide) (by decide) rfl (by decide) ?_
        exact t_A_law_1135 C hn hX hr hst hZ hSX hB ih _ _
      refine vf_if _ (fun h => ?_) (fun _ => ?_)
      · refine vf_swx C (z := 37) (off := 1133) (tgt := 1172) dA_sw h (by decide) (by decide) rfl (by decide) ?_
        exact t_A_law_1172 C hn hX hr hst hZ hSX hB ih _ _
      refine vf_if _ (fun h => ?_) (fun _ => ?_)
      · refine vf_swx C (z := 38) (off := 1146) (tgt := 1185) dA_sw h (by decide) (by decide) rfl (by decide) ?_
        exact t_A_law_1185 C hn hX hr hst hZ hSX hB ih _ _
      refine vf_if _ (fun h => ?_) (fun _ => ?_)
      · refine vf_swx C (z := 39) (off := 1171) (tgt := 1210) dA_sw h (by decide) (by decide) rfl (by decide) ?_
        exact t_A_law_1210 C hn hX hr hst hZ hSX hB ih _ _
      refine vf_if _ (fun h => ?_) (fun _ => ?_)
      · refine vf_swx C (z := 40) (off := 1196) (tgt := 1235) dA_sw h (by decide) (by decide) rfl (by decide) ?_
        exact t_A_law_1235 C hn hX hr hst hZ hSX hB ih _ _
      refine vf_if _ (fun h => ?_) (fun _ => ?_)
      · refine vf_swx C (z := 41) (off := 1221) (tgt := 1260) dA_sw h (by decide) (by decide) rfl (by decide) ?_
        exact t_A_law_1260 C hn hX hr hst hZ hSX hB ih _ _
      exact vf_no
