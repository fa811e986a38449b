def f_A_law_946 (Ln : Nat) (xs9 : Nat → Int32) (k23 : Int → Wd → Option (Int × Wd)) (v4 : Int) (w : Wd) : Option (Int × Wd) :=
  jgd ((0 : Int) ≤ (w32 (v4 + 1)) ∧ (w32 (v4 + 1)) < (Ln : Int)) <|
  jcall (f_E_soonest ((xs9 (w32 (v4 + 1)).toNat).toInt) w) fun r113 u114 =>
  jgd ((0 : Int) ≤ (w32 (v4 + 1)) ∧ (w32 (v4 + 1)) < (Ln : Int)) <|
  jcall (f_R_soonest ((xs9 (w32 (v4 + 1)).toNat).toInt) u114) fun r115 u116 =>
  if r113 = r115 then
    f_A_law_1316 Ln xs9 k23 v4 u116
  else
    none
theorem t_A_law_946 {X : jX} {Qf : Int × Wd → State → Prop} {ad : Nat → Nat} {sbI : Int} {Ln : Nat} {xs9 : Nat → Int32} (C : Cx X code "EachBringsAnotherLaw") (hn : xn X = 7) (hX : LX X sbI Ln xs9) (hr : RtL X Qf ad code) (hst : (xl X).stackTraces = false) (hZ : ZX (xA X) (xs X)) (hSX : SX (xs X)) {f k n : Nat} (hB : LB X (f + 1) k n) {k23 : Int → Wd → Option (Int × Wd)} (hk23 : ∀ (k n : Nat) (v4 : Int) (w : Wd), LB X f k n → VF X Qf ad NF k n w 23 [(0, (3, sbI)), (1, (2, 1)), (2, (2, 44)), (3, (2, 83)), (4, (0, v4))] [] (k23 v4 w)) (v4 : Int) (w : Wd) : VF X Qf ad NF k n w 946 [(0, (3, sbI)), (1, (2, 1)), (2, (2, 44)), (3, (2, 83)), (4, (0, v4))] [] (f_A_law_946 Ln xs9 k23 v4 w) := by
  have hb := hB.s
  have hb1 := hB.t
  unfold f_A_law_946
  refine vf_aload_n C (f := 1) (by decide +kernel) 1 rfl rfl ?_
  refine vf_aload3_n C (f := 0) (by decide +kernel) 0 rfl rfl ?_
  refine vf_iload C (by decide +kernel) 4 rfl ?_
  refine vf_iconst C (z := 1) (by decide +kernel) (jz rfl) ?_
  refine vf_iadd C (by decide +kernel) ?_
  refine vf_xld C hX (by decide +kernel) ?_
  refine vf_callVi C cy_E_soonest ml_A_142 rfl (ct_E_soonest _ _) (S := []) sh_0 (by decide) rfl (lb_jrm hb rfl) rfl rfl (Nat.le_of_ble_eq_true rfl) (by decide +kernel) (fun r113 u114 => ?_)
  refine vf_aload_n C (f := 2) (by decide +kernel) 2 rfl rfl ?_
  refine vf_aload3_n C (f := 0) (by decide +kernel) 0 rfl rfl ?_
  refine vf_iload C (by decide +kernel) 4 rfl ?_
  refine vf_iconst C (z := 1) (by decide +kernel) (jz rfl) ?_
  refine vf_iadd C (by decide +kernel) ?_
  refine vf_xld C hX (by decide +kernel) ?_
  refine vf_callVi C cy_R_soonest ml_A_145 rfl (ct_R_soonest _ _) (S := [(0, r113)]) sh_43 (by decide) rfl (lb_jrm hb rfl) rfl rfl (Nat.le_of_ble_eq_true rfl) (by decide +kernel) (fun r115 u116 => ?_)
  refine vf_icmp_eq C (off := 350) (tgt := 1316) (by decide +kernel) (by decide) ?_ ?_
  · exact t_A_law_1316 C hn hX hr hst hZ hSX hb hk23 _ _
  · refine vf_iconst C (z := 0) (by decide +kernel) (jz rfl) ?_
    exact vf_no
def f_A_law_971 (Ln : Nat) (xs9 : Nat → Int32) (k23 : Int → Wd → Option (Int × Wd)) (v4 : Int) (w : Wd) : Option (Int × Wd) :=
  jgd ((0 : Int) ≤ (w32 (v4 + 1)) ∧ (w32 (v4 + 1)) < (Ln : Int)) <|
  jcall (f_E_worth ((xs9 (w32 (v4 + 1)).toNat).toInt) w) fun r117 u118 =>
  jgd ((0 : Int) ≤ (w32 (v4 + 1)) ∧ (w32 (v4 + 1)) < (Ln : Int)) <|
  jcall (f_R_worth ((xs9 (w32 (v4 + 1)).toNat).toInt) u118) fun r119 u120 =>
  if r117 = r119 then
    f_A_law_1316 Ln xs9 k23 v4 u120
  else
    none
theorem t_A_law_971 {X : jX} {Qf : Int × Wd → State → Prop} {ad : Nat → Nat} {sbI : Int} {Ln : Nat} {xs9 : Nat → Int32} (C : Cx X code "EachBringsAnotherLaw") (hn : xn X = 7) (hX : LX X sbI Ln xs9) (hr : RtL X Qf ad code) (hst : (xl X).stackTraces = false) (hZ : ZX (xA X) (xs X)) (hSX : SX (xs X)) {f k n : Nat} (hB : LB X (f + 1) k n) {k23 : Int → Wd → Option (Int × Wd)} (hk23 : ∀ (k n : Nat) (v4 : Int) (w : Wd), LB X f k n → VF X Qf ad NF k n w 23 [(0, (3, sbI)), (1, (2, 1)), (2, (2, 44)), (3, (2, 83)), (4, (0, v4))] [] (k23 v4 w)) (v4 : Int) (w : Wd) : VF X Qf ad NF k n w 971 [(0, (3, sbI)), (1, (2, 1)), (2, (2, 44)), (3, (2, 83)), (4, (0, v4))] [] (f_A_law_971 Ln xs9 k23 v4 w) := by
  have hb := hB.s
  have hb1 := hB.t
  unfold f_A_law_971
  refine vf_aload_n C (f := 1) (by decide +kernel) 1 rfl rfl ?_
  refine vf_aload3_n C (f := 0) (by decide +kernel) 0 rfl rfl ?_
  refine vf_iload C (by decide +kernel) 4 rfl ?_
  refine vf_iconst C (z := 1) (by decide +kernel) (jz rfl) ?_
  refine vf_iadd C (by decide +kernel) ?_
  refine vf_xld C hX (by decide +kernel) ?_
  refine vf_callVi C cy_E_worth ml_A_146 rfl (ct_E_worth _ _) (S := []) sh_0 (by decide) rfl (lb_jrm hb rfl) rfl rfl (Nat.le_of_ble_eq_true rfl) (by decide +kernel) (fun r117 u118 => ?_)
  refine vf_aload_n C (f := 2) (by decide +kernel) 2 rfl rfl ?_
  refine vf_aload3_n C (f := 0) (by decide +kernel) 0 rfl rfl ?_
  refine vf_iload C (by decide +kernel) 4 rfl ?_
  refine vf_iconst C (z := 1) (by decide +kernel) (jz rfl) ?_
  refine vf_iadd C (by decide +kernel) ?_
  refine vf_xld C hX (by decide +kernel) ?_
  refine vf_callVi C cy_R_worth ml_A_149 rfl (ct_R_worth _ _) (S := [(0, r117)]) sh_43 (by decide) rfl (lb_jrm hb rfl) rfl rfl (Nat.le_of_ble_eq_true rfl) (by decide +kernel) (fun r119 u120 => ?_)
  refine vf_icmp_eq C (off := 325) (tgt := 1316) (by decide +kernel) (by decide) ?_ ?_
  · exact t_A_law_1316 C hn hX hr hst hZ hSX hb hk23 _ _
  · refine vf_iconst C (z := 0) (by decide +kernel) (jz rfl) ?_
    exact vf_no
def f_A_law_996 (Ln : Nat) (xs9 : Nat → Int32) (k23 : Int → Wd → Option (Int × Wd)) (v4 : Int) (w : Wd) : Option (Int × Wd) :=
  jcall (f_E_needed w) fun r121 u122 =>
  jcall (f_R_needed u122) fun r123 u124 =>
  if r121 = r123 then
    f_A_law_1316 Ln xs9 k23 v4 u124
  else
    none
theorem t_A_law_996 {X : jX} {Qf : Int × Wd → State → Prop} {ad : Nat → Nat} {sbI : Int} {Ln : Nat} {xs9 : Nat → Int32} (C : Cx X code "EachBringsAnotherLaw") (hn : xn X = 7) (hX : LX X sbI Ln xs9) (hr : RtL X Qf ad code) (hst : (xl X).stackTraces = false) (hZ : ZX (xA X) (xs X)) (hSX : SX (xs X)) {f k n : Nat} (hB : LB X (f + 1) k n) {k23 : Int → Wd → Option (Int × Wd)} (hk23 : ∀ (k n : Nat) (v4 : Int) (w : Wd), LB X f k n → VF X Qf ad NF k n w 23 [(0, (3, sbI)), (1, (2, 1)), (2, (2, 44)), (3, (2, 83)), (4, (0, v4))] [] (k23 v4 w)) (v4 : Int) (w : Wd) : VF X Qf ad NF k n w 996 [(0, (3, sbI)), (1, (2, 1)), (2, (2, 44)), (3, (2, 83)), (4, (0, v4))] [] (f_A_law_996 Ln xs9 k23 v4 w) := by
  have hb := hB.s
  have hb1 := hB.t
  unfold f_A_law_996
  refine vf_aload_n C (f := 1) (by decide +kernel) 1 rfl rfl ?_
  refine vf_callVi C cy_E_needed ml_A_150 rfl (ct_E_needed _) (S := []) sh_0 (by decide) rfl (lb_jrm hb rfl) rfl rfl (Nat.le_of_ble_eq_true rfl) (by decide +kernel) (fun r121 u122 => ?_)
  refine vf_aload_n C (f := 2) (by decide +kernel) 2 rfl rfl ?_
  refine vf_callVi C cy_R_needed ml_A_153 rfl (ct_R_needed _) (S := [(0, r121)]) sh_43 (by decide) rfl (lb_jrm hb rfl) rfl rfl (Nat.le_of_ble_eq_true rfl) (by decide +kernel) (fun r123 u124 => ?_)
  refine vf_icmp_eq C (off := 312) (tgt := 1316) (by decide +kernel) (by decide) ?_ ?_
  · exact t_A_law_1316 C hn hX hr hst hZ hSX hb hk23 _ _
  · refine vf_iconst C (z := 0) (by decide +kernel) (jz rfl) ?_
    exact vf_no
def f_A_law_1009 (Ln : Nat) (xs9 : Nat → Int32) (k23 : Int → Wd → Option (Int × Wd)) (v4 : Int) (w : Wd) : Option (Int × Wd) :=
  jcall (f_E_never w) fun r125 u126 =>
  jcall (f_R_never u126) fun r127 u128 =>
  if r125 = r127 then
    f_A_law_1316 Ln xs9 k23 v4 u128
  else
    none
theorem t_A_law_1009 {X : jX} {Qf : Int × Wd → State → Prop} {ad : Nat → Nat} {sbI : Int} {Ln : Nat} {xs9 : Nat → Int32} (C : Cx X code "EachBringsAnotherLaw") (hn : xn X = 7) (hX : LX X sbI Ln xs9) (hr : RtL X Qf ad code) (hst : (xl X).stackTraces = false) (hZ : ZX (xA X) (xs X)) (hSX : SX (xs X)) {f k n : Nat} (hB : LB X (f + 1) k n) {k23 : Int → Wd → Option (Int × Wd)} (hk23 : ∀ (k n : Nat) (v4 : Int) (w : Wd), LB X f k n → VF X Qf ad NF k n w 23 [(0, (3, sbI)), (1, (2, 1)), (2, (2, 44)), (3, (2, 83)), (4, (0, v4))] [] (k23 v4 w)) (v4 : Int) (w : Wd) : VF X Qf ad NF k n w 1009 [(0, (3, sbI)), (1, (2, 1)), (2, (2, 44)), (3, (2, 83)), (4, (0, v4))] [] (f_A_law_1009 Ln xs9 k23 v4 w) := by
  have hb := hB.s
  have hb1 := hB.t
  unfold f_A_law_1009
  refine vf_aload_n C (f := 1) (by decide +kernel) 1 rfl rfl ?_
  refine vf_callVi C cy_E_never ml_A_154 rfl (ct_E_never _) (S := []) sh_0 (by decide) rfl (lb_jrm hb rfl) rfl rfl (Nat.le_of_ble_eq_true rfl) (by decide +kernel) (fun r125 u126 => ?_)
  refine vf_aload_n C (f := 2) (by decide +kernel) 2 rfl rfl ?_
  refine vf_callVi C cy_R_never ml_A_157 rfl (ct_R_never _) (S := [(0, r125)]) sh_43 (by decide) rfl (lb_jrm hb rfl) rfl rfl (Nat.le_of_ble_eq_true rfl) (by decide +kernel) (fun r127 u128 => ?_)
  refine vf_icmp_eq C (off := 299) (tgt := 1316) (by decide +kernel) (by decide) ?_ ?_
  · exact t_A_law_1316 C hn hX hr hst hZ hSX hb hk23 _ _
  · refine vf_iconst C (z := 0) (by decide +kernel) (jz rfl) ?_
    exact vf_no
def f_A_law_1022 (Ln : Nat) (xs9 : Nat → Int32) (k23 : Int → Wd → Option (Int × Wd)) (v4 : Int) (w : Wd) : Option (Int × Wd) :=
  jcall (f_E_bound w) fun r129 u130 =>
  jcall (f_R_bound u130) fun r131 u132 =>
  if r129 = r131 then
    f_A_law_1316 Ln xs9 k23 v4 u132
  else
    none
theorem t_A_law_1022 {X : jX} {Qf : Int × Wd → State → Prop} {ad : Nat → Nat} {sbI : Int} {Ln : Nat} {xs9 : Nat → Int32} (C : Cx X code "EachBringsAnotherLaw") (hn : xn X = 7) (hX : LX X sbI Ln xs9) (hr : RtL X Qf ad code) (hst : (xl X).stackTraces = false) (hZ : ZX (xA X) (xs X)) (hSX : SX (xs X)) {f k n : Nat} (hB : LB X (f + 1) k n) {k23 : Int → Wd → Option (Int × Wd)} (hk23 : ∀ (k n : Nat) (v4 : Int) (w : Wd), LB X f k n → VF X Qf ad NF k n w 23 [(0, (3, sbI)), (1, (2, 1)), (2, (2, 44)), (3, (2, 83)), (4, (0, v4))] [] (k23 v4 w)) (v4 : Int) (w : Wd) : VF X Qf ad NF k n w 1022 [(0, (3, sbI)), (1, (2, 1)), (2, (2, 44)), (3, (2, 83)), (4, (0, v4))] [] (f_A_law_1022 Ln xs9 k23 v4 w) := by
  have hb := hB.s
  have hb1 := hB.t
  unfold f_A_law_1022
  refine vf_aload_n C (f := 1) (by decide +kernel) 1 rfl rfl ?_
  refine vf_callVi C cy_E_bound ml_A_158 rfl (ct_E_bound _) (S := []) sh_0 (by decide) rfl (lb_jrm hb rfl) rfl rfl (Nat.le_of_ble_eq_true rfl) (by decide +kernel) (fun r129 u130 => ?_)
  refine vf_aload_n C (f := 2) (by decide +kernel) 2 rfl rfl ?_
  refine vf_callVi C cy_R_bound ml_A_161 rfl (ct_R_bound _) (S := [(0, r129)]) sh_43 (by decide) rfl (lb_jrm hb rfl) rfl rfl (Nat.le_of_ble_eq_true rfl) (by decide +kernel) (fun r131 u132 => ?_)
  refine vf_icmp_eq C (off := 286) (tgt := 1316) (by decide +kernel) (by decide) ?_ ?_
  · exact t_A_law_1316 C hn hX hr hst hZ hSX hb hk23 _ _
  · refine vf_iconst C (z := 0) (by decide +kernel) (jz rfl) ?_
    exact vf_no
def f_A_law_1035 (Ln : Nat) (xs9 : Nat → Int32) (k23 : Int → Wd → Option (Int × Wd)) (v4 : Int) (w : Wd) : Option (Int × Wd) :=
  jgd ((0 : Int) ≤ (w32 (v4 + 1)) ∧ (w32 (v4 + 1)) < (Ln : Int)) <|
  jcall (f_E_far ((xs9 (w32 (v4 + 1)).toNat).toInt) w) fun r133 u134 =>
  jgd ((0 : Int) ≤ (w32 (v4 + 1)) ∧ (w32 (v4 + 1)) < (Ln : Int)) <|
  jcall (f_R_far ((xs9 (w32 (v4 + 1)).toNat).toInt) u134) fun r135 u136 =>
  if r133 = r135 then
    f_A_law_1316 Ln xs9 k23 v4 u136
  else
    none
theorem t_A_law_1035 {X : jX} {Qf : Int × Wd → State → Prop} {ad : Nat → Nat} {sbI : Int} {Ln : Nat} {xs9 : Nat → Int32} (C : Cx X code "EachBringsAnotherLaw") (hn : xn X = 7) (hX : LX X sbI Ln xs9) (hr : RtL X Qf ad code) (hst : (xl X).stackTraces = false) (hZ : ZX (xA X) (xs X)) (hSX : SX (xs X)) {f k n : Nat} (hB : LB X (f + 1) k n) {k23 : Int → Wd → Option (Int × Wd)} (hk23 : ∀ (k n : Nat) (v4 : Int) (w : Wd), LB X f k n → VF X Qf ad NF k n w 23 [(0, (3, sbI)), (1, (2, 1)), (2, (2, 44)), (3, (2, 83)), (4, (0, v4))] [] (k23 v4 w)) (v4 : Int) (w : Wd) : VF X Qf ad NF k n w 1035 [(0, (3, sbI)), (1, (2, 1)), (2, (2, 44)), (3, (2, 83)), (4, (0, v4))] [] (f_A_law_1035 Ln xs9 k23 v4 w) := by
  have hb := hB.s
  have hb1 := hB.t
  unfold f_A_law_1035
  refine vf_aload_n C (f := 1) (by decide +kernel) 1 rfl rfl ?_
  refine vf_aload3_n C (f := 0) (by decide +kernel) 0 rfl rfl ?_
  refine vf_iload C (by decide +kernel) 4 rfl ?_
  refine vf_iconst C (z := 1) (by decide +kernel) (jz rfl) ?_
  refine vf_iadd C (by decide +kernel) ?_
  refine vf_xld C hX (by decide +kernel) ?_
  refine vf_callVi C cy_E_far ml_A_162 rfl (ct_E_far _ _) (S := []) sh_0 (by decide) rfl (lb_jrm hb rfl) rfl rfl (Nat.le_of_ble_eq_true rfl) (by decide +kernel) (fun r133 u134 => ?_)
  refine vf_aload_n C (f := 2) (by decide +kernel) 2 rfl rfl ?_
  refine vf_aload3_n C (f := 0) (by decide +kernel) 0 rfl rfl ?_
  refine vf_iload C (by decide +kernel) 4 rfl ?_
  refine vf_iconst C (z := 1) (by decide +kernel) (jz rfl) ?_
  refine vf_iadd C (by decide +kernel) ?_
  refine vf_xld C hX (by decide +kernel) ?_
  refine vf_callVi C cy_R_far ml_A_165 rfl (ct_R_far _ _) (S := [(0, r133)]) sh_43 (by decide) rfl (lb_jrm hb rfl) rfl rfl (Nat.le_of_ble_eq_true rfl) (by decide +kernel) (fun r135 u136 => ?_)
  refine vf_icmp_eq C (off := 261) (tgt := 1316) (by decide +kernel) (by decide) ?_ ?_
  · exact t_A_law_1316 C hn hX hr hst hZ hSX hb hk23 _ _
  · refine vf_iconst C (z := 0) (by decide +kernel) (jz rfl) ?_
    exact vf_no
def f_A_law_1060 (Ln : Nat) (xs9 : Nat → Int32) (k23 : Int → Wd → Option (Int × Wd)) (v4 : Int) (w : Wd) : Option (Int × Wd) :=
  jgd ((0 : Int) ≤ (w32 (v4 + 1)) ∧ (w32 (v4 + 1)) < (Ln : Int)) <|
  jcall (f_E_line ((xs9 (w32 (v4 + 1)).toNat).toInt) w) fun r137 u138 =>
  jgd ((0 : Int) ≤ (w32 (v4 + 1)) ∧ (w32 (v4 + 1)) < (Ln : Int)) <|
  jcall (f_R_line ((xs9 (w32 (v4 + 1)).toNat).toInt) u138) fun r139 u140 =>
  if r137 = r139 then
    f_A_law_1316 Ln xs9 k23 v4 u140
  else
    none
theorem t_A_law_1060 {X : jX} {Qf : Int × Wd → State → Prop} {ad : Nat → Nat} {sbI : Int} {Ln : Nat} {xs9 : Nat → Int32} (C : Cx X code "EachBringsAnotherLaw") (hn : xn X = 7) (hX : LX X sbI Ln xs9) (hr : RtL X Qf ad code) (hst : (xl X).stackTraces = false) (hZ : ZX (xA X) (xs X)) (hSX : SX (xs X)) {f k n : Nat} (hB : LB X (f + 1) k n) {k23 : Int → Wd → Option (Int × Wd)} (hk23 : ∀ (k n : Nat) (v4 : Int) (w : Wd), LB X f k n → VF X Qf ad NF k n w 23 [(0, (3, sbI)), (1, (2, 1)), (2, (2, 44)), (3, (2, 83)), (4, (0, v4))] [] (k23 v4 w)) (v4 : Int) (w : Wd) : VF X Qf ad NF k n w 1060 [(0, (3, sbI)), (1, (2, 1)), (2, (2, 44)), (3, (2, 83)), (4, (0, v4))] [] (f_A_law_1060 Ln xs9 k23 v4 w) := by
  have hb := hB.s
  have hb1 := hB.t
  unfold f_A_law_1060
  refine vf_aload_n C (f := 1) (by decide +kernel) 1 rfl rfl ?_
  refine vf_aload3_n C (f := 0) (by decide +kernel) 0 rfl rfl ?_
  refine vf_iload C (by decide +kernel) 4 rfl ?_
  refine vf_iconst C (z := 1) (by decide +kernel) (jz rfl) ?_
  refine vf_iadd C (by decide +kernel) ?_
  refine vf_xld C hX (by decide +kernel) ?_
  refine vf_callVi C cy_E_line ml_A_166 rfl (ct_E_line _ _) (S := []) sh_0 (by decide) rfl (lb_jrm hb rfl) rfl rfl (Nat.le_of_ble_eq_true rfl) (by decide +kernel) (fun r137 u138 => ?_)
  refine vf_aload_n C (f := 2) (by decide +kernel) 2 rfl rfl ?_
  refine vf_aload3_n C (f := 0) (by decide +kernel) 0 rfl rfl ?_
  refine vf_iload C (by decide +kernel) 4 rfl ?_
  refine vf_iconst C (z := 1) (by decide +kernel) (jz rfl) ?_
  refine vf_iadd C (by decide +kernel) ?_
  refine vf_xld C hX (by decide +kernel) ?_
  refine vf_callVi C cy_R_line ml_A_169 rfl (ct_R_line _ _) (S := [(0, r137)]) sh_43 (by decide) rfl (lb_jrm hb rfl) rfl rfl (Nat.le_of_ble_eq_true rfl) (by decide +kernel) (fun r139 u140 => ?_)
  refine vf_icmp_eq C (off := 236) (tgt := 1316) (by decide +kernel) (by decide) ?_ ?_
  · exact t_A_law_1316 C hn hX hr hst hZ hSX hb hk23 _ _
  · refine vf_iconst C (z := 0) (by decide +kernel) (jz rfl) ?_
    exact vf_no
def f_A_law_1085 (Ln : Nat) (xs9 : Nat → Int32) (k23 : Int → Wd → Option (Int × Wd)) (v4 : Int) (w : Wd) : Option (Int × Wd) :=
  jgd ((0 : Int) ≤ (w32 (v4 + 1)) ∧ (w32 (v4 + 1)) < (Ln : Int)) <|
  jcall (f_E_led ((xs9 (w32 (v4 + 1)).toNat).toInt) w) fun r141 u142 =>
  jgd ((0 : Int) ≤ (w32 (v4 + 1)) ∧ (w32 (v4 + 1)) < (Ln : Int)) <|
  jcall (f_R_led ((xs9 (w32 (v4 + 1)).toNat).toInt) u142) fun r143 u144 =>
  if r141 = r143 then
    f_A_law_1316 Ln xs9 k23 v4 u144
  else
    none
theorem t_A_law_1085 {X : jX} {Qf : Int × Wd → State → Prop} {ad : Nat → Nat} {sbI : Int} {Ln : Nat} {xs9 : Nat → Int32} (C : Cx X code "EachBringsAnotherLaw") (hn : xn X = 7) (hX : LX X sbI Ln xs9) (hr : RtL X Qf ad code) (hst : (xl X).stackTraces = false) (hZ : ZX (xA X) (xs X)) (hSX : SX (xs X)) {f k n : Nat} (hB : LB X (f + 1) k n) {k23 : Int → Wd → Option (Int × Wd)} (hk23 : ∀ (k n : Nat) (v4 : Int) (w : Wd), LB X f k n → VF X Qf ad NF k n w 23 [(0, (3, sbI)), (1, (2, 1)), (2, (2, 44)), (3, (2, 83)), (4, (0, v4))] [] (k23 v4 w)) (v4 : Int) (w : Wd) : VF X Qf ad NF k n w 1085 [(0, (3, sbI)), (1, (2, 1)), (2, (2, 44)), (3, (2, 83)), (4, (0, v4))] [] (f_A_law_1085 Ln xs9 k23 v4 w) := by
  have hb := hB.s
  have hb1 := hB.t
  unfold f_A_law_1085
  refine vf_aload_n C (f := 1) (by decide +kernel) 1 rfl rfl ?_
  refine vf_aload3_n C (f := 0) (by decide +kernel) 0 rfl rfl ?_
  refine vf_iload C (by decide +kernel) 4 rfl ?_
  refine vf_iconst C (z := 1) (by decide +kernel) (jz rfl) ?_
  refine vf_iadd C (by decide +kernel) ?_
  refine vf_xld C hX (by decide +kernel) ?_
  refine vf_callVi C cy_E_led ml_A_170 rfl (ct_E_led _ _) (S := []) sh_0 (by decide) rfl (lb_jrm hb rfl) rfl rfl (Nat.le_of_ble_eq_true rfl) (by decide +kernel) (fun r141 u142 => ?_)
  refine vf_aload_n C (f := 2) (by decide +kernel) 2 rfl rfl ?_
  refine vf_aload3_n C (f := 0) (by decide +kernel) 0 rfl rfl ?_
  refine vf_iload C (by decide +kernel) 4 rfl ?_
  refine vf_iconst C (z := 1) (by decide +kernel) (jz rfl) ?_
  refine vf_iadd C (by decide +kernel) ?_
  refine vf_xld C hX (by decide +kernel) ?_
  refine vf_callVi C cy_R_led ml_A_173 rfl (ct_R_led _ _) (S := [(0, r141)]) sh_43 (by decide) rfl (lb_jrm hb rfl) rfl rfl (Nat.le_of_ble_eq_true rfl) (by decide +kernel) (fun r143 u144 => ?_)
  refine vf_icmp_eq C (off := 211) (tgt := 1316) (by decide +kernel) (by decide) ?_ ?_
  · exact t_A_law_1316 C hn hX hr hst hZ hSX hb hk23 _ _
  · refine vf_iconst C (z := 0) (by decide +kernel) (jz rfl) ?_
    exact vf_no
def f_A_law_1110 (Ln : Nat) (xs9 : Nat → Int32) (k23 : Int → Wd → Option (Int × Wd)) (v4 : Int) (w : Wd) : Option (Int × Wd) :=
  jgd ((0 : Int) ≤ (w32 (v4 + 1)) ∧ (w32 (v4 + 1)) < (Ln : Int)) <|
  jcall (f_E_was ((xs9 (w32 (v4 + 1)).toNat).toInt) w) fun r145 u146 =>
  jgd ((0 : Int) ≤ (w32 (v4 + 1)) ∧ (w32 (v4 + 1)) < (Ln : Int)) <|
  jcall (f_R_was ((xs9 (w32 (v4 + 1)).toNat).toInt) u146) fun r147 u148 =>
  if r145 = r147 then
    f_A_law_1316 Ln xs9 k23 v4 u148
  else
    none
theorem t_A_law_1110 {X : jX} {Qf : Int × Wd → State → Prop} {ad : Nat → Nat} {sbI : Int} {Ln : Nat} {xs9 : Nat → Int32} (C : Cx X code "EachBringsAnotherLaw") (hn : xn X = 7) (hX : LX X sbI Ln xs9) (hr : RtL X Qf ad code) (hst : (xl X).stackTraces = false) (hZ : ZX (xA X) (xs X)) (hSX : SX (xs X)) {f k n : Nat} (hB : LB X (f + 1) k n) {k23 : Int → Wd → Option (Int × Wd)} (hk23 : ∀ (k n : Nat) (v4 : Int) (w : Wd), LB X f k n → VF X Qf ad NF k n w 23 [(0, (3, sbI)), (1, (2, 1)), (2, (2, 44)), (3, (2, 83)), (4, (0, v4))] [] (k23 v4 w)) (v4 : Int) (w : Wd) : VF X Qf ad NF k n w 1110 [(0, (3, sbI)), (1, (2, 1)), (2, (2, 44)), (3, (2, 83)), (4, (0, v4))] [] (f_A_law_1110 Ln xs9 k23 v4 w) := by
  have hb := hB.s
  have hb1 := hB.t
  unfold f_A_law_1110
  refine vf_aload_n C (f := 1) (by decide +kernel) 1 rfl rfl ?_
  refine vf_aload3_n C (f := 0) (by decide +kernel) 0 rfl rfl ?_
  refine vf_iload C (by decide +kernel) 4 rfl ?_
  refine vf_iconst C (z := 1) (by decide +kernel) (jz rfl) ?_
  refine vf_iadd C (by decide +kernel) ?_
  refine vf_xld C hX (by decide +kernel) ?_
  refine vf_callVi C cy_E_was ml_A_174 rfl (ct_E_was _ _) (S := []) sh_0 (by decide) rfl (lb_jrm hb rfl) rfl rfl (Nat.le_of_ble_eq_true rfl) (by decide +kernel) (fun r145 u146 => ?_)
  refine vf_aload_n C (f := 2) (by decide +kernel) 2 rfl rfl ?_
  refine vf_aload3_n C (f := 0) (by decide +kernel) 0 rfl rfl ?_
  refine vf_iload C (by decide +kernel) 4 rfl ?_
  refine vf_iconst C (z := 1) (by decide +kernel) (jz rfl) ?_
  refine vf_iadd C (by decide +kernel) ?_
  refine vf_xld C hX (by decide +kernel) ?_
  refine vf_callVi C cy_R_was ml_A_177 rfl (ct_R_was _ _) (S := [(0, r145)]) sh_43 (by decide) rfl (lb_jrm hb rfl) rfl rfl (Nat.le_of_ble_eq_true rfl) (by decide +kernel) (fun r147 u148 => ?_)
  refine vf_icmp_eq C (off := 186) (tgt := 1316) (by decide +kernel) (by decide) ?_ ?_
  · exact t_A_law_1316 C hn hX hr hst hZ hSX hb hk23 _ _
  · refine vf_iconst C (z := 0) (by decide +kernel) (jz rfl) ?_
    exact vf_no
def f_A_law_1135 (Ln : Nat) (xs9 : Nat → Int32) (k23 : Int → Wd → Option (Int × Wd)) (v4 : Int) (w : Wd) : Option (Int × Wd) :=
  jgd ((0 : Int) ≤ (w32 (v4 + 1)) ∧ (w32 (v4 + 1)) < (Ln : Int)) <|
  jgd ((0 : Int) ≤ (w32 (v4 + 2)) ∧ (w32 (v4 + 2)) < (Ln : Int)) <|
  jcall (f_E_common ((xs9 (w32 (v4 + 1)).toNat).toInt) ((xs9 (w32 (v4 + 2)).toNat).toInt) w) fun r149 u150 =>
  jgd ((0 : Int) ≤ (w32 (v4 + 1)) ∧ (w32 (v4 + 1)) < (Ln : Int)) <|
  jgd ((0 : Int) ≤ (w32 (v4 + 2)) ∧ (w32 (v4 + 2)) < (Ln : Int)) <|
  jcall (f_R_common ((xs9 (w32 (v4 + 1)).toNat).toInt) ((xs9 (w32 (v4 + 2)).toNat).toInt) u150) fun r151 u152 =>
  if r149 = r151 then
    f_A_law_1316 Ln xs9 k23 v4 u152
  else
    none
theorem t_A_law_1135 {X : jX} {Qf : Int × Wd → State → Prop} {ad : Nat → Nat} {sbI : Int} {Ln : Nat} {xs9 : Nat → Int32} (C : Cx X code "EachBringsAnotherLaw") (hn : xn X = 7) (hX : LX X sbI Ln xs9) (hr : RtL X Qf ad code) (hst : (xl X).stackTraces = false) (hZ : ZX (xA X) (xs X)) (hSX : SX (xs X)) {f k n : Nat} (hB : LB X (f + 1) k n) {k23 : Int → Wd → Option (Int × Wd)} (hk23 : ∀ (k n : Nat) (v4 : Int) (w : Wd), LB X f k n → VF X Qf ad NF k n w 23 [(0, (3, sbI)), (1, (2, 1)), (2, (2, 44)), (3, (2, 83)), (4, (0, v4))] [] (k23 v4 w)) (v4 : Int) (w : Wd) : VF X Qf ad NF k n w 1135 [(0, (3, sbI)), (1, (2, 1)), (2, (2, 44)), (3, (2, 83)), (4, (0, v4))] [] (f_A_law_1135 Ln xs9 k23 v4 w) := by
  have hb := hB.s
  have hb1 := hB.t
  unfold f_A_law_1135
  refine vf_aload_n C (f := 1) (by decide +kernel) 1 rfl rfl ?_
  refine vf_aload3_n C (f := 0) (by decide +kernel) 0 rfl rfl ?_
  refine vf_iload C (by decide +kernel) 4 rfl ?_
  refine vf_iconst C (z := 1) (by decide +kernel) (jz rfl) ?_
  refine vf_iadd C (by decide +kernel) ?_
  refine vf_xld C hX (by decide +kernel) ?_
  refine vf_aload3_n C (f := 0) (by decide +kernel) 0 rfl rfl ?_
  refine vf_iload C (by decide +kernel) 4 rfl ?_
  refine vf_iconst C (z := 2) (by decide +kernel) (jz rfl) ?_
  refine vf_iadd C (by decide +kernel) ?_
  refine vf_xld C hX (by decide +kernel) ?_
  refine vf_callVi C cy_E_common ml_A_178 rfl (ct_E_common _ _ _) (S := []) sh_0 (by decide) rfl (lb_jrm hb rfl) rfl rfl (Nat.le_of_ble_eq_true rfl) (by decide +kernel) (fun r149 u150 => ?_)
  refine vf_aload_n C (f := 2) (by decide +kernel) 2 rfl rfl ?_
  refine vf_aload3_n C (f := 0) (by decide +kernel) 0 rfl rfl ?_
  refine vf_iload C (by decide +kernel) 4 rfl ?_
  refine vf_iconst C (z := 1) (by decide +kernel) (jz rfl) ?_
  refine vf_iadd C (by decide +kernel) ?_
  refine vf_xld C hX (by decide +kernel) ?_
  refine vf_aload3_n C (f := 0) (by decide +kernel) 0 rfl rfl ?_
  refine vf_iload C (by decide +kernel) 4 rfl ?_
  refine vf_iconst C (z := 2) (by decide +kernel) (jz rfl) ?_
  refine vf_iadd C (by decide +kernel) ?_
  refine vf_xld C hX (by decide +kernel) ?_
  refine vf_callVi C cy_R_common ml_A_181 rfl (ct_R_common _ _ _) (S := [(0, r149)]) sh_43 (by decide) rfl (lb_jrm hb rfl) rfl rfl (Nat.le_of_ble_eq_true rfl) (by decide +kernel) (fun r151 u152 => ?_)
  refine vf_icmp_eq C (off := 149) (tgt := 1316) (by decide +kernel) (by decide) ?_ ?_
  · exact t_A_law_1316 C hn hX hr hst hZ hSX hb hk23 _ _
  · refine vf_iconst C (z := 0) (by decide +kernel) (jz rfl) ?_
    exact vf_no
def f_A_law_1172 (Ln : Nat) (xs9 : Nat → Int32) (k23 : Int → Wd → Option (Int × Wd)) (v4 : Int) (w : Wd) : Option (Int × Wd) :=
  jcall (f_E_father w) fun r153 u154 =>
  jcall (f_R_father u154) fun r155 u156 =>
  if r153 = r155 then
    f_A_law_1316 Ln xs9 k23 v4 u156
  else
    none
theorem t_A_law_1172 {X : jX} {Qf : Int × Wd → State → Prop} {ad : Nat → Nat} {sbI : Int} {Ln : Nat} {xs9 : Nat → Int32} (C : Cx X code "EachBringsAnotherLaw") (hn : xn X = 7) (hX : LX X sbI Ln xs9) (hr : RtL X Qf ad code) (hst : (xl X).stackTraces = false) (hZ : ZX (xA X) (xs X)) (hSX : SX (xs X)) {f k n : Nat} (hB : LB X (f + 1) k n) {k23 : Int → Wd → Option (Int × Wd)} (hk23 : ∀ (k n : Nat) (v4 : Int) (w : Wd), LB X f k n → VF X Qf ad NF k n w 23 [(0, (3, sbI)), (1, (2, 1)), (2, (2, 44)), (3, (2, 83)), (4, (0, v4))] [] (k23 v4 w)) (v4 : Int) (w : Wd) : VF X Qf ad NF k n w 1172 [(0, (3, sbI)), (1, (2, 1)), (2, (2, 44)), (3, (2, 83)), (4, (0, v4))] [] (f_A_law_1172 Ln xs9 k23 v4 w) := by
  have hb := hB.s
  have hb1 := hB.t
  unfold f_A_law_1172
  refine vf_aload_n C (f := 1) (by decide +kernel) 1 rfl rfl ?_
  refine vf_callVi C cy_E_father ml_A_182 rfl (ct_E_father _) (S := []) sh_0 (by decide) rfl (lb_jrm hb rfl) rfl rfl (Nat.le_of_ble_eq_true rfl) (by decide +kernel) (fun r153 u154 => ?_)
  refine vf_aload_n C (f := 2) (by decide +kernel) 2 rfl rfl ?_
  refine vf_callVi C cy_R_father ml_A_185 rfl (ct_R_father _) (S := [(0, r153)]) sh_43 (by decide) rfl (lb_jrm hb rfl) rfl rfl (Nat.le_of_ble_eq_true rfl) (by decide +kernel) (fun r155 u156 => ?_)
  refine vf_icmp_eq C (off := 136) (tgt := 1316) (by decide +kernel) (by decide) ?_ ?_
  · exact t_A_law_1316 C hn hX hr hst hZ hSX hb hk23 _ _
  · refine vf_iconst C (z := 0) (by decide +kernel) (jz rfl) ?_
    exact vf_no
def f_A_law_1185 (Ln : Nat) (xs9 : Nat → Int32) (k23 : Int → Wd → Option (Int × Wd)) (v4 : Int) (w : Wd) : Option (Int × Wd) :=
  jgd ((0 : Int) ≤ (w32 (v4 + 1)) ∧ (w32 (v4 + 1)) < (Ln : Int)) <|
  jcall (f_E_keep ((xs9 (w32 (v4 + 1)).toNat).toInt) w) fun r157 u158 =>
  jgd ((0 : Int) ≤ (w32 (v4 + 1)) ∧ (w32 (v4 + 1)) < (Ln : Int)) <|
  jcall (f_R_keep ((xs9 (w32 (v4 + 1)).toNat).toInt) u158) fun r159 u160 =>
  if r157 = r159 then
    f_A_law_1316 Ln xs9 k23 v4 u160
  else
    none
theorem t_A_law_1185 {X : jX} {Qf : Int × Wd → State → Prop} {ad : Nat → Nat} {sbI : Int} {Ln : Nat} {xs9 : Nat → Int32} (C : Cx X code "EachBringsAnotherLaw") (hn : xn X = 7) (hX : LX X sbI Ln xs9) (hr : RtL X Qf ad code) (hst : (xl X).stackTraces = false) (hZ : ZX (xA X) (xs X)) (hSX : SX (xs X)) {f k n : Nat} (hB : LB X (f + 1) k n) {k23 : Int → Wd → Option (Int × Wd)} (hk23 : ∀ (k n : Nat) (v4 : Int) (w : Wd), LB X f k n → VF X Qf ad NF k n w 23 [(0, (3, sbI)), (1, (2, 1)), (2, (2, 44)), (3, (2, 83)), (4, (0, v4))] [] (k23 v4 w)) (v4 : Int) (w : Wd) : VF X Qf ad NF k n w 1185 [(0, (3, sbI)), (1, (2, 1)), (2, (2, 44)), (3, (2, 83)), (4, (0, v4))] [] (f_A_law_1185 Ln xs9 k23 v4 w) := by
  have hb := hB.s
  have hb1 := hB.t
  unfold f_A_law_1185
  refine vf_aload_n C (f := 1) (by decide +kernel) 1 rfl rfl ?_
  refine vf_aload3_n C (f := 0) (by decide +kernel) 0 rfl rfl ?_
  refine vf_iload C (by decide +kernel) 4 rfl ?_
  refine vf_iconst C (z := 1) (by decide +kernel) (jz rfl) ?_
  refine vf_iadd C (by decide +kernel) ?_
  refine vf_xld C hX (by decide +kernel) ?_
  refine vf_callVz C cy_E_keep ml_A_186 rfl (ct_E_keep _ _) (S := []) sh_0 (by decide) rfl (lb_jrm hb rfl) rfl rfl (Nat.le_of_ble_eq_true rfl) (by decide +kernel) (fun r157 u158 => ?_)
  refine vf_aload_n C (f := 2) (by decide +kernel) 2 rfl rfl ?_
  refine vf_aload3_n C (f := 0) (by decide +kernel) 0 rfl rfl ?_
  refine vf_iload C (by decide +kernel) 4 rfl ?_
  refine vf_iconst C (z := 1) (by decide +kernel) (jz rfl) ?_
  refine vf_iadd C (by decide +kernel) ?_
  refine vf_xld C hX (by decide +kernel) ?_
  refine vf_callVz C cy_R_keep ml_A_189 rfl (ct_R_keep _ _) (S := [(0, r157)]) sh_43 (by decide) rfl (lb_jrm hb rfl) rfl rfl (Nat.le_of_ble_eq_true rfl) (by decide +kernel) (fun r159 u160 => ?_)
  refine vf_icmp_eq C (off := 111) (tgt := 1316) (by decide +kernel) (by decide) ?_ ?_
  · exact t_A_law_1316 C hn hX hr hst hZ hSX hb hk23 _ _
  · refine vf_iconst C (z := 0) (by decide +kernel) (jz rfl) ?_
    exact vf_no
def f_A_law_1210 (Ln : Nat) (xs9 : Nat → Int32) (k23 : Int → Wd → Option (Int × Wd)) (v4 : Int) (w : Wd) : Option (Int × Wd) :=
  jgd ((0 : Int) ≤ (w32 (v4 + 1)) ∧ (w32 (v4 + 1)) < (Ln : Int)) <|
  jcall (f_E_again ((xs9 (w32 (v4 + 1)).toNat).toInt) w) fun r161 u162 =>
  jgd ((0 : Int) ≤ (w32 (v4 + 1)) ∧ (w32 (v4 + 1)) < (Ln : Int)) <|
  jcall (f_R_again ((xs9 (w32 (v4 + 1)).toNat).toInt) u162) fun r163 u164 =>
  if r161 = r163 then
    f_A_law_1316 Ln xs9 k23 v4 u164
  else
    none
theorem t_A_law_1210 {X : jX} {Qf : Int × Wd → State → Prop} {ad : Nat → Nat} {sbI : Int} {Ln : Nat} {xs9 : Nat → Int32} (C : Cx X code "EachBringsAnotherLaw") (hn : xn X = 7) (hX : LX X sbI Ln xs9) (hr : RtL X Qf ad code) (hst : (xl X).stackTraces = false) (hZ : ZX (xA X) (xs X)) (hSX : SX (xs X)) {f k n : Nat} (hB : LB X (f + 1) k n) {k23 : Int → Wd → Option (Int × Wd)} (hk23 : ∀ (k n : Nat) (v4 : Int) (w : Wd), LB X f k n → VF X Qf ad NF k n w 23 [(0, (3, sbI)), (1, (2, 1)), (2, (2, 44)), (3, (2, 83)), (4, (0, v4))] [] (k23 v4 w)) (v4 : Int) (w : Wd) : VF X Qf ad NF k n w 1210 [(0, (3, sbI)), (1, (2, 1)), (2, (2, 44)), (3, (2, 83)), (4, (0, v4))] [] (f_A_law_1210 Ln xs9 k23 v4 w) := by
  have hb := hB.s
  have hb1 := hB.t
  unfold f_A_law_1210
  refine vf_aload_n C (f := 1) (by decide +kernel) 1 rfl rfl ?_
  refine vf_aload3_n C (f := 0) (by decide +kernel) 0 rfl rfl ?_
  refine vf_iload C (by decide +kernel) 4 rfl ?_
  refine vf_iconst C (z := 1) (by decide +kernel) (jz rfl) ?_
  refine vf_iadd C (by decide +kernel) ?_
  refine vf_xld C hX (by decide +kernel) ?_
  refine vf_callVz C cy_E_again ml_A_190 rfl (ct_E_again _ _) (S := []) sh_0 (by decide) rfl (lb_jrm hb rfl) rfl rfl (Nat.le_of_ble_eq_true rfl) (by decide +kernel) (fun r161 u162 => ?_)
  refine vf_aload_n C (f := 2) (by decide +kernel) 2 rfl rfl ?_
  refine vf_aload3_n C (f := 0) (by decide +kernel) 0 rfl rfl ?_
  refine vf_iload C (by decide +kernel) 4 rfl ?_
  refine vf_iconst C (z := 1) (by decide +kernel) (jz rfl) ?_
  refine vf_iadd C (by decide +kernel) ?_
  refine vf_xld C hX (by decide +kernel) ?_
  refine vf_callVz C cy_R_again ml_A_193 rfl (ct_R_again _ _) (S := [(0, r161)]) sh_43 (by decide) rfl (lb_jrm hb rfl) rfl rfl (Nat.le_of_ble_eq_true rfl) (by decide +kernel) (fun r163 u164 => ?_)
  refine vf_icmp_eq C (off := 86) (tgt := 1316) (by decide +kernel) (by decide) ?_ ?_
  · exact t_A_law_1316 C hn hX hr hst hZ hSX hb hk23 _ _
  · refine vf_iconst C (z := 0) (by decide +kernel) (jz rfl) ?_
    exact vf_no
def f_A_law_1235 (Ln : Nat) (xs9 : Nat → Int32) (k23 : Int → Wd → Option (Int × Wd)) (v4 : Int) (w : Wd) : Option (Int × Wd) :=
  jgd ((0 : Int) ≤ (w32 (v4 + 1)) ∧ (w32 (v4 + 1)) < (Ln : Int)) <|
  jcall (f_E_count ((xs9 (w32 (v4 + 1)).toNat).toInt) w) fun r165 u166 =>
  jgd ((0 : Int) ≤ (w32 (v4 + 1)) ∧ (w32 (v4 + 1)) < (Ln : Int)) <|
  jcall (f_R_count ((xs9 (w32 (v4 + 1)).toNat).toInt) u166) fun r167 u168 =>
  if r165 = r167 then
    f_A_law_1316 Ln xs9 k23 v4 u168
  else
    none
theorem t_A_law_1235 {X : jX} {Qf : Int × Wd → State → Prop} {ad : Nat → Nat} {sbI : Int} {Ln : Nat} {xs9 : Nat → Int32} (C : Cx X code "EachBringsAnotherLaw") (hn : xn X = 7) (hX : LX X sbI Ln xs9) (hr : RtL X Qf ad code) (hst : (xl X).stackTraces = false) (hZ : ZX (xA X) (xs X)) (hSX : SX (xs X)) {f k n : Nat} (hB : LB X (f + 1) k n) {k23 : Int → Wd → Option (Int × Wd)} (hk23 : ∀ (k n : Nat) (v4 : Int) (w : Wd), LB X f k n → VF X Qf ad NF k n w 23 [(0, (3, sbI)), (1, (2, 1)), (2, (2, 44)), (3, (2, 83)), (4, (0, v4))] [] (k23 v4 w)) (v4 : Int) (w : Wd) : VF X Qf ad NF k n w 1235 [(0, (3, sbI)), (1, (2, 1)), (2, (2, 44)), (3, (2, 83)), (4, (0, v4))] [] (f_A_law_1235 Ln xs9 k23 v4 w) := by
  have hb := hB.s
  have hb1 := hB.t
  unfold f_A_law_1235
  refine vf_aload_n C (f := 1) (by decide +kernel) 1 rfl rfl ?_
  refine vf_aload3_n C (f := 0) (by decide +kernel) 0 rfl rfl ?_
  refine vf_iload C (by decide +kernel) 4 rfl ?_
  refine vf_iconst C (z := 1) (by decide +kernel) (jz rfl) ?_
  refine vf_iadd C (by decide +kernel) ?_
  refine vf_xld C hX (by decide +kernel) ?_
  refine vf_callVi C cy_E_count ml_A_194 rfl (ct_E_count _ _) (S := []) sh_0 (by decide) rfl (lb_jrm hb rfl) rfl rfl (Nat.le_of_ble_eq_true rfl) (by decide +kernel) (fun r165 u166 => ?_)
  refine vf_aload_n C (f := 2) (by decide +kernel) 2 rfl rfl ?_
  refine vf_aload3_n C (f := 0) (by decide +kernel) 0 rfl rfl ?_
  refine vf_iload C (by decide +kernel) 4 rfl ?_
  refine vf_iconst C (z := 1) (by decide +kernel) (jz rfl) ?_
  refine vf_iadd C (by decide +kernel) ?_
  refine vf_xld C hX (by decide +kernel) ?_
  refine vf_callVi C cy_R_count ml_A_197 rfl (ct_R_count _ _) (S := [(0, r165)]) sh_43 (by decide) rfl (lb_jrm hb rfl) rfl rfl (Nat.le_of_ble_eq_true rfl) (by decide +kernel) (fun r167 u168 => ?_)
  refine vf_icmp_eq C (off := 61) (tgt := 1316) (by decide +kernel) (by decide) ?_ ?_
  · exact t_A_law_1316 C hn hX hr hst hZ hSX hb hk23 _ _
  · refine vf_iconst C (z := 0) (by decide +kernel) (jz rfl) ?_
    exact vf_no
def f_A_law_1313 (Ln : Nat) (xs9 : Nat → Int32) (k23 : Int → Wd → Option (Int × Wd)) (v4 : Int) (w : Wd) : Option (Int × Wd) :=
  f_A_law_1316 Ln xs9 k23 v4 w
theorem t_A_law_1313 {X : jX} {Qf : Int × Wd → State → Prop} {ad : Nat → Nat} {sbI : Int} {Ln : Nat} {xs9 : Nat → Int32} (C : Cx X code "EachBringsAnotherLaw") (hn : xn X = 7) (hX : LX X sbI Ln xs9) (hr : RtL X Qf ad code) (hst : (xl X).stackTraces = false) (hZ : ZX (xA X) (xs X)) (hSX : SX (xs X)) {f k n : Nat} (hb : LB X f k n) {k23 : Int → Wd → Option (Int × Wd)} (hk23 : ∀ (k n : Nat) (v4 : Int) (w : Wd), LB X f k n → VF X Qf ad NF k n w 23 [(0, (3, sbI)), (1, (2, 1)), (2, (2, 44)), (3, (2, 83)), (4, (0, v4))] [] (k23 v4 w)) (v4 : Int) (w : Wd) : VF X Qf ad NF k n w 1313 [(0, (3, sbI)), (1, (2, 1)), (2, (2, 44)), (3, (2, 83)), (4, (0, v4))] [] (f_A_law_1313 Ln xs9 k23 v4 w) := by
  unfold f_A_law_1313
  refine vf_goto C (off := 3) (tgt := 1316) (by decide +kernel) (by decide) ?_
  exact t_A_law_1316 C hn hX hr hst hZ hSX hb hk23 _ _
def f_A_law_1260 (Ln : Nat) (xs9 : Nat → Int32) (k23 : Int → Wd → Option (Int × Wd)) (v4 : Int) (w : Wd) : Option (Int × Wd) :=
  jgd ((0 : Int) ≤ (w32 (v4 + 1)) ∧ (w32 (v4 + 1)) < (Ln : Int)) <|
  jcall (f_A_row ((xs9 (w32 (v4 + 1)).toNat).toInt) w) fun r169 u170 =>
  jgd ((0 : Int) ≤ (w32 (v4 + 1)) ∧ (w32 (v4 + 1)) < (Ln : Int)) <|
  jcall (f_R_row ((xs9 (w32 (v4 + 1)).toNat).toInt) u170) fun r171 u172 =>
  jcall (f_R_thrown u172) fun r173 u174 =>
  if r173 = r169 then
    if r169 = 0 then
      jgd ((0 : Int) ≤ (0 : Int) ∧ (0 : Int) < 1) <|
      if (lcmp (u174 82 (0 : Int).toNat) r171) = 0 then
        f_A_law_1313 Ln xs9 k23 v4 u174
      else
        none
    else
      f_A_law_1313 Ln xs9 k23 v4 u174
  else
    none
theorem t_A_law_1260 {X : jX} {Qf : Int × Wd → State → Prop} {ad : Nat → Nat} {sbI : Int} {Ln : Nat} {xs9 : Nat → Int32} (C : Cx X code "EachBringsAnotherLaw") (hn : xn X = 7) (hX : LX X sbI Ln xs9) (hr : RtL X Qf ad code) (hst : (xl X).stackTraces = false) (hZ : ZX (xA X) (xs X)) (hSX : SX (xs X)) {f k n : Nat} (hB : LB X (f + 1) k n) {k23 : Int → Wd → Option (Int × Wd)} (hk23 : ∀ (k n : Nat) (v4 : Int) (w : Wd), LB X f k n → VF X Qf ad NF k n w 23 [(0, (3, sbI)), (1, (2, 1)), (2, (2, 44)), (3, (2, 83)), (4, (0, v4))] [] (k23 v4 w)) (v4 : Int) (w : Wd) : VF X Qf ad NF k n w 1260 [(0, (3, sbI)), (1, (2, 1)), (2, (2, 44)), (3, (2, 83)), (4, (0, v4))] [] (f_A_law_1260 Ln xs9 k23 v4 w) := by
  have hb := hB.s
  have hb1 := hB.t
  unfold f_A_law_1260
  refine vf_aload_n C (f := 1) (by decide +kernel) 1 rfl rfl ?_
  refine vf_aload3_n C (f := 0) (by decide +kernel) 0 rfl rfl ?_
  refine vf_iload C (by decide +kernel) 4 rfl ?_
  refine vf_iconst C (z := 1) (by decide +kernel) (jz rfl) ?_
  refine vf_iadd C (by decide +kernel) ?_
  refine vf_xld C hX (by decide +kernel) ?_
  refine vf_aload_n C (f := 3) (by decide +kernel) 3 rfl rfl ?_
  refine vf_callH C hAd_row hAi hAl_row hAs_row hAc_row (ct_A_row _ _) (S := []) (lb_jrm hb1 rfl) rfl rfl (Nat.le_of_ble_eq_true rfl) (by decide +kernel) hst hZ hSX (fun r169 u170 => ?_)
  refine vf_istore C (i := 5) (L' := [(0, (3, sbI)), (1, (2, 1)), (2, (2, 44)), (3, (2, 83)), (4, (0, v4))]) (by decide +kernel) [0, 1, 2, 3, 4] (jrI rfl rfl) hn (by decide) ?_
  refine vf_aload_n C (f := 2) (by decide +kernel) 3 rfl rfl ?_
  refine vf_aload3_n C (f := 0) (by decide +kernel) 1 rfl rfl ?_
  refine vf_iload C (by decide +kernel) 5 rfl ?_
  refine vf_iconst C (z := 1) (by decide +kernel) (jz rfl) ?_
  refine vf_iadd C (by decide +kernel) ?_
  refine vf_xld C hX (by decide +kernel) ?_
  refine vf_callVi C cy_R_row ml_A_201 rfl (ct_R_row _ _) (S := []) sh_43 (by decide) rfl (lb_jrm hb1 rfl) rfl rfl (Nat.le_of_ble_eq_true rfl) (by decide +kernel) (fun r171 u172 => ?_)
  refine vf_istore C (i := 6) (L' := [(5, (0, r169)), (0, (3, sbI)), (1, (2, 1)), (2, (2, 44)), (3, (2, 83)), (4, (0, v4))]) (by decide +kernel) [0, 1, 2, 3, 4, 5] (jrI rfl rfl) hn (by decide) ?_
  refine vf_aload_n C (f := 2) (by decide +kernel) 4 rfl rfl ?_
  refine vf_callVi C cy_R_thrown ml_A_47 rfl (ct_R_thrown _) (S := []) sh_43 (by decide) rfl (lb_jrm hb1 rfl) rfl rfl (Nat.le_of_ble_eq_true rfl) (by decide +kernel) (fun r173 u174 => ?_)
  refine vf_iload C (by decide +kernel) 1 rfl ?_
  refine vf_icmp_eq C (off := 5) (tgt := 1296) (by decide +kernel) (by decide) ?_ ?_
  · refine vf_iload C (by decide +kernel) 1 rfl ?_
    refine vf_if_ne C (off := 15) (tgt := 1313) (by decide +kernel) (by decide) ?_ ?_
    · exact vf_perm [2, 3, 4, 5, 6] rfl (t_A_law_1313 C hn hX hr hst hZ hSX hb1 hk23 _ _)
    · refine vf_aload_n C (f := 3) (by decide +kernel) 5 rfl rfl ?_
      refine vf_iconst C (z := 0) (by decide +kernel) (jz rfl) ?_
      refine vf_lald C sh_82 (by decide) rfl (mz := 1) rfl (by decide +kernel) ?_
      refine vf_iload C (by decide +kernel) 0 rfl ?_
      refine vf_i2l C (by decide +kernel) ?_
      refine vf_lcmp C (by decide +kernel) ?_
      refine vf_if_eq C (off := 5) (tgt := 1313) (by decide +kernel) (by decide) ?_ ?_
      · exact vf_perm [2, 3, 4, 5, 6] rfl (t_A_law_1313 C hn hX hr hst hZ hSX hb1 hk23 _ _)
      · refine vf_iconst C (z := 0) (by decide +kernel) (jz rfl) ?_
        exact vf_no
  · refine vf_iconst C (z := 0) (by decide +kernel) (jz rfl) ?_
    exact vf_no
