section
def f_A_law_1260 (Ln : Nat) (xs9 : Nat → Int32) (k23 : Int → Wd → Option (Int × Wd)) (v4 : Int) (w : Wd) : Option (Int × Wd) :=
  jlet (w32 (v4 + 5)) fun x2 =>
  k23 x2 w
theorem t_A_law_1260 {X : jX} {Qf : Int × Wd → State → Prop} {ad : Nat → Nat} {sbI : Int} {Ln : Nat} {xs9 : Nat → Int32} (C : Cx X code "EachBringsAnotherLaw") (hn : xn X = 7) (hX : LX X sbI Ln xs9) (hr : RtL X Qf ad code) (hst : (xl X).stackTraces = false) (hZ : ZX (xA X) (xs X)) (hSX : SX (xs X)) {f k n : Nat} (hb : LB X f k n) {k23 : Int → Wd → Option (Int × Wd)} (hk23 : ∀ (k n : Nat) (v4 : Int) (w : Wd), LB X f k n → VF X Qf ad NF k n w 23 [(0, (3, sbI)), (1, (2, 1)), (2, (2, 44)), (3, (2, 83)), (4, (0, v4))] [] (k23 v4 w)) (v4 : Int) (w : Wd) : VF X Qf ad NF k n w 1260 [(0, (3, sbI)), (1, (2, 1)), (2, (2, 44)), (3, (2, 83)), (4, (0, v4))] [] (f_A_law_1260 Ln xs9 k23 v4 w) := by
  unfold f_A_law_1260
  refine vf_iinc C (z := 5) (L' := [(0, (3, sbI)), (1, (2, 1)), (2, (2, 44)), (3, (2, 83))]) (zdg dz_A_law_29 19 rfl) 4 rfl [0, 1, 2, 3] (jrI rfl rfl) hn (by decide) ?_
  generalize w32 (v4 + 5) = x2
  refine vf_ul ?_
  refine vf_goto C (off := (-1240)) (tgt := 23) (zdg dz_A_law_29 20 rfl) (by decide) ?_
  exact vf_perm [1, 2, 3, 4, 0] rfl (hk23 _ _ _ _ hb)
def f_A_law_220 (Ln : Nat) (xs9 : Nat → Int32) (k23 : Int → Wd → Option (Int × Wd)) (v4 : Int) (w : Wd) : Option (Int × Wd) :=
  jgd ((0 : Int) ≤ (w32 (v4 + 1)) ∧ (w32 (v4 + 1)) < (Ln : Int)) <|
  jcall (f_E_sign ((xs9 (w32 (v4 + 1)).toNat).toInt) w) fun r3 u4 =>
  jgd ((0 : Int) ≤ (w32 (v4 + 1)) ∧ (w32 (v4 + 1)) < (Ln : Int)) <|
  jcall (f_R_sign ((xs9 (w32 (v4 + 1)).toNat).toInt) u4) fun r5 u6 =>
  f_A_law_1260 Ln xs9 k23 v4 u6
theorem t_A_law_220 {X : jX} {Qf : Int × Wd → State → Prop} {ad : Nat → Nat} {sbI : Int} {Ln : Nat} {xs9 : Nat → Int32} (C : Cx X code "EachBringsAnotherLaw") (hn : xn X = 7) (hX : LX X sbI Ln xs9) (hr : RtL X Qf ad code) (hst : (xl X).stackTraces = false) (hZ : ZX (xA X) (xs X)) (hSX : SX (xs X)) {f k n : Nat} (hB : LB X (f + 1) k n) {k23 : Int → Wd → Option (Int × Wd)} (hk23 : ∀ (k n : Nat) (v4 : Int) (w : Wd), LB X f k n → VF X Qf ad NF k n w 23 [(0, (3, sbI)), (1, (2, 1)), (2, (2, 44)), (3, (2, 83)), (4, (0, v4))] [] (k23 v4 w)) (v4 : Int) (w : Wd) : VF X Qf ad NF k n w 220 [(0, (3, sbI)), (1, (2, 1)), (2, (2, 44)), (3, (2, 83)), (4, (0, v4))] [] (f_A_law_220 Ln xs9 k23 v4 w) := by
  have hb := hB.s
  have hb1 := hB.t
  unfold f_A_law_220
  refine vf_aload_n C (f := 1) (zdg dz_A_law_0 23 rfl) 1 rfl rfl ?_
  refine vf_aload3_n C (f := 0) (zdg dz_A_law_1 0 rfl) 0 rfl rfl ?_
  refine vf_iload C (zdg dz_A_law_1 1 rfl) 4 rfl ?_
  refine vf_iconst C (z := 1) (zdg dz_A_law_1 2 rfl) (jz rfl) ?_
  refine vf_iadd C (zdg dz_A_law_1 3 rfl) ?_
  refine vf_xld C hX (zdg dz_A_law_1 4 rfl) ?_
  refine vf_callVi C cy_E_sign ml_A_23 rfl (ct_E_sign _ _) (S := []) sh_0 (by decide) rfl (lb_jrm hb rfl) rfl rfl (Nat.le_of_ble_eq_true rfl) (zdg dz_A_law_1 5 rfl) (fun r3 u4 => ?_)
  refine vf_pop C (zdg dz_A_law_1 6 rfl) Nat.zero_ne_one ?_
  refine vf_aload_n C (f := 2) (zdg dz_A_law_1 7 rfl) 2 rfl rfl ?_
  refine vf_aload3_n C (f := 0) (zdg dz_A_law_1 8 rfl) 0 rfl rfl ?_
  refine vf_iload C (zdg dz_A_law_1 9 rfl) 4 rfl ?_
  refine vf_iconst C (z := 1) (zdg dz_A_law_1 10 rfl) (jz rfl) ?_
  refine vf_iadd C (zdg dz_A_law_1 11 rfl) ?_
  refine vf_xld C hX (zdg dz_A_law_1 12 rfl) ?_
  refine vf_callVi C cy_R_sign ml_A_26 rfl (ct_R_sign _ _) (S := []) sh_43 (by decide) rfl (lb_jrm hb rfl) rfl rfl (Nat.le_of_ble_eq_true rfl) (zdg dz_A_law_1 13 rfl) (fun r5 u6 => ?_)
  refine vf_pop C (zdg dz_A_law_1 14 rfl) Nat.zero_ne_one ?_
  refine vf_goto C (off := 1018) (tgt := 1260) (zdg dz_A_law_1 15 rfl) (by decide) ?_
  exact t_A_law_1260 C hn hX hr hst hZ hSX hb hk23 _ _
def f_A_law_245 (Ln : Nat) (xs9 : Nat → Int32) (k23 : Int → Wd → Option (Int × Wd)) (v4 : Int) (w : Wd) : Option (Int × Wd) :=
  jgd ((0 : Int) ≤ (w32 (v4 + 1)) ∧ (w32 (v4 + 1)) < (Ln : Int)) <|
  jcall (f_E_end ((xs9 (w32 (v4 + 1)).toNat).toInt) w) fun r7 u8 =>
  jgd ((0 : Int) ≤ (w32 (v4 + 1)) ∧ (w32 (v4 + 1)) < (Ln : Int)) <|
  jcall (f_R_end ((xs9 (w32 (v4 + 1)).toNat).toInt) u8) fun r9 u10 =>
  f_A_law_1260 Ln xs9 k23 v4 u10
theorem t_A_law_245 {X : jX} {Qf : Int × Wd → State → Prop} {ad : Nat → Nat} {sbI : Int} {Ln : Nat} {xs9 : Nat → Int32} (C : Cx X code "EachBringsAnotherLaw") (hn : xn X = 7) (hX : LX X sbI Ln xs9) (hr : RtL X Qf ad code) (hst : (xl X).stackTraces = false) (hZ : ZX (xA X) (xs X)) (hSX : SX (xs X)) {f k n : Nat} (hB : LB X (f + 1) k n) {k23 : Int → Wd → Option (Int × Wd)} (hk23 : ∀ (k n : Nat) (v4 : Int) (w : Wd), LB X f k n → VF X Qf ad NF k n w 23 [(0, (3, sbI)), (1, (2, 1)), (2, (2, 44)), (3, (2, 83)), (4, (0, v4))] [] (k23 v4 w)) (v4 : Int) (w : Wd) : VF X Qf ad NF k n w 245 [(0, (3, sbI)), (1, (2, 1)), (2, (2, 44)), (3, (2, 83)), (4, (0, v4))] [] (f_A_law_245 Ln xs9 k23 v4 w) := by
  have hb := hB.s
  have hb1 := hB.t
  unfold f_A_law_245
  refine vf_aload_n C (f := 1) (zdg dz_A_law_1 16 rfl) 1 rfl rfl ?_
  refine vf_aload3_n C (f := 0) (zdg dz_A_law_1 17 rfl) 0 rfl rfl ?_
  refine vf_iload C (zdg dz_A_law_1 18 rfl) 4 rfl ?_
  refine vf_iconst C (z := 1) (zdg dz_A_law_1 19 rfl) (jz rfl) ?_
  refine vf_iadd C (zdg dz_A_law_1 20 rfl) ?_
  refine vf_xld C hX (zdg dz_A_law_1 21 rfl) ?_
  refine vf_callVz C cy_E_end ml_A_27 rfl (ct_E_end _ _) (S := []) sh_0 (by decide) rfl (lb_jrm hb rfl) rfl rfl (Nat.le_of_ble_eq_true rfl) (zdg dz_A_law_1 22 rfl) (fun r7 u8 => ?_)
  refine vf_pop C (zdg dz_A_law_1 23 rfl) Nat.zero_ne_one ?_
  refine vf_aload_n C (f := 2) (zdg dz_A_law_2 0 rfl) 2 rfl rfl ?_
  refine vf_aload3_n C (f := 0) (zdg dz_A_law_2 1 rfl) 0 rfl rfl ?_
  refine vf_iload C (zdg dz_A_law_2 2 rfl) 4 rfl ?_
  refine vf_iconst C (z := 1) (zdg dz_A_law_2 3 rfl) (jz rfl) ?_
  refine vf_iadd C (zdg dz_A_law_2 4 rfl) ?_
  refine vf_xld C hX (zdg dz_A_law_2 5 rfl) ?_
  refine vf_callVz C cy_R_end ml_A_31 rfl (ct_R_end _ _) (S := []) sh_43 (by decide) rfl (lb_jrm hb rfl) rfl rfl (Nat.le_of_ble_eq_true rfl) (zdg dz_A_law_2 6 rfl) (fun r9 u10 => ?_)
  refine vf_pop C (zdg dz_A_law_2 7 rfl) Nat.zero_ne_one ?_
  refine vf_goto C (off := 993) (tgt := 1260) (zdg dz_A_law_2 8 rfl) (by decide) ?_
  exact t_A_law_1260 C hn hX hr hst hZ hSX hb hk23 _ _
def f_A_law_270 (Ln : Nat) (xs9 : Nat → Int32) (k23 : Int → Wd → Option (Int × Wd)) (v4 : Int) (w : Wd) : Option (Int × Wd) :=
  jcall (f_E_land w) fun r11 u12 =>
  jcall (f_R_land u12) fun r13 u14 =>
  f_A_law_1260 Ln xs9 k23 v4 u14
theorem t_A_law_270 {X : jX} {Qf : Int × Wd → State → Prop} {ad : Nat → Nat} {sbI : Int} {Ln : Nat} {xs9 : Nat → Int32} (C : Cx X code "EachBringsAnotherLaw") (hn : xn X = 7) (hX : LX X sbI Ln xs9) (hr : RtL X Qf ad code) (hst : (xl X).stackTraces = false) (hZ : ZX (xA X) (xs X)) (hSX : SX (xs X)) {f k n : Nat} (hB : LB X (f + 1) k n) {k23 : Int → Wd → Option (Int × Wd)} (hk23 : ∀ (k n : Nat) (v4 : Int) (w : Wd), LB X f k n → VF X Qf ad NF k n w 23 [(0, (3, sbI)), (1, (2, 1)), (2, (2, 44)), (3, (2, 83)), (4, (0, v4))] [] (k23 v4 w)) (v4 : Int) (w : Wd) : VF X Qf ad NF k n w 270 [(0, (3, sbI)), (1, (2, 1)), (2, (2, 44)), (3, (2, 83)), (4, (0, v4))] [] (f_A_law_270 Ln xs9 k23 v4 w) := by
  have hb := hB.s
  have hb1 := hB.t
  unfold f_A_law_270
  refine vf_aload_n C (f := 1) (zdg dz_A_law_2 9 rfl) 1 rfl rfl ?_
  refine vf_callVi C cy_E_land ml_A_32 rfl (ct_E_land _) (S := []) sh_0 (by decide) rfl (lb_jrm hb rfl) rfl rfl (Nat.le_of_ble_eq_true rfl) (zdg dz_A_law_2 10 rfl) (fun r11 u12 => ?_)
  refine vf_pop C (zdg dz_A_law_2 11 rfl) Nat.zero_ne_one ?_
  refine vf_aload_n C (f := 2) (zdg dz_A_law_2 12 rfl) 2 rfl rfl ?_
  refine vf_callVi C cy_R_land ml_A_36 rfl (ct_R_land _) (S := []) sh_43 (by decide) rfl (lb_jrm hb rfl) rfl rfl (Nat.le_of_ble_eq_true rfl) (zdg dz_A_law_2 13 rfl) (fun r13 u14 => ?_)
  refine vf_pop C (zdg dz_A_law_2 14 rfl) Nat.zero_ne_one ?_
  refine vf_goto C (off := 980) (tgt := 1260) (zdg dz_A_law_2 15 rfl) (by decide) ?_
  exact t_A_law_1260 C hn hX hr hst hZ hSX hb hk23 _ _
def f_A_law_283 (Ln : Nat) (xs9 : Nat → Int32) (k23 : Int → Wd → Option (Int × Wd)) (v4 : Int) (w : Wd) : Option (Int × Wd) :=
  jcall (f_E_rule w) fun r15 u16 =>
  jcall (f_R_rule u16) fun r17 u18 =>
  f_A_law_1260 Ln xs9 k23 v4 u18
theorem t_A_law_283 {X : jX} {Qf : Int × Wd → State → Prop} {ad : Nat → Nat} {sbI : Int} {Ln : Nat} {xs9 : Nat → Int32} (C : Cx X code "EachBringsAnotherLaw") (hn : xn X = 7) (hX : LX X sbI Ln xs9) (hr : RtL X Qf ad code) (hst : (xl X).stackTraces = false) (hZ : ZX (xA X) (xs X)) (hSX : SX (xs X)) {f k n : Nat} (hB : LB X (f + 1) k n) {k23 : Int → Wd → Option (Int × Wd)} (hk23 : ∀ (k n : Nat) (v4 : Int) (w : Wd), LB X f k n → VF X Qf ad NF k n w 23 [(0, (3, sbI)), (1, (2, 1)), (2, (2, 44)), (3, (2, 83)), (4, (0, v4))] [] (k23 v4 w)) (v4 : Int) (w : Wd) : VF X Qf ad NF k n w 283 [(0, (3, sbI)), (1, (2, 1)), (2, (2, 44)), (3, (2, 83)), (4, (0, v4))] [] (f_A_law_283 Ln xs9 k23 v4 w) := by
  have hb := hB.s
  have hb1 := hB.t
  unfold f_A_law_283
  refine vf_aload_n C (f := 1) (zdg dz_A_law_2 16 rfl) 1 rfl rfl ?_
  refine vf_callVi C cy_E_rule ml_A_37 rfl (ct_E_rule _) (S := []) sh_0 (by decide) rfl (lb_jrm hb rfl) rfl rfl (Nat.le_of_ble_eq_true rfl) (zdg dz_A_law_2 17 rfl) (fun r15 u16 => ?_)
  refine vf_pop C (zdg dz_A_law_2 18 rfl) Nat.zero_ne_one ?_
  refine vf_aload_n C (f := 2) (zdg dz_A_law_2 19 rfl) 2 rfl rfl ?_
  refine vf_callVi C cy_R_rule ml_A_40 rfl (ct_R_rule _) (S := []) sh_43 (by decide) rfl (lb_jrm hb rfl) rfl rfl (Nat.le_of_ble_eq_true rfl) (zdg dz_A_law_2 20 rfl) (fun r17 u18 => ?_)
  refine vf_pop C (zdg dz_A_law_2 21 rfl) Nat.zero_ne_one ?_
  refine vf_goto C (off := 967) (tgt := 1260) (zdg dz_A_law_2 22 rfl) (by decide) ?_
  exact t_A_law_1260 C hn hX hr hst hZ hSX hb hk23 _ _
def f_A_law_296 (Ln : Nat) (xs9 : Nat → Int32) (k23 : Int → Wd → Option (Int × Wd)) (v4 : Int) (w : Wd) : Option (Int × Wd) :=
  jgd ((0 : Int) ≤ (w32 (v4 + 1)) ∧ (w32 (v4 + 1)) < (Ln : Int)) <|
  jgd ((0 : Int) ≤ (w32 (v4 + 2)) ∧ (w32 (v4 + 2)) < (Ln : Int)) <|
  jcall (f_A_of ((xs9 (w32 (v4 + 1)).toNat).toInt) ((xs9 (w32 (v4 + 2)).toNat).toInt) w) fun r19 u20 =>
  jgd ((0 : Int) ≤ (w32 (v4 + 1)) ∧ (w32 (v4 + 1)) < (Ln : Int)) <|
  jgd ((0 : Int) ≤ (w32 (v4 + 2)) ∧ (w32 (v4 + 2)) < (Ln : Int)) <|
  jcall (f_R_of ((xs9 (w32 (v4 + 1)).toNat).toInt) ((xs9 (w32 (v4 + 2)).toNat).toInt) u20) fun r21 u22 =>
  f_A_law_1260 Ln xs9 k23 v4 u22
theorem t_A_law_296 {X : jX} {Qf : Int × Wd → State → Prop} {ad : Nat → Nat} {sbI : Int} {Ln : Nat} {xs9 : Nat → Int32} (C : Cx X code "EachBringsAnotherLaw") (hn : xn X = 7) (hX : LX X sbI Ln xs9) (hr : RtL X Qf ad code) (hst : (xl X).stackTraces = false) (hZ : ZX (xA X) (xs X)) (hSX : SX (xs X)) {f k n : Nat} (hB : LB X (f + 1) k n) {k23 : Int → Wd → Option (Int × Wd)} (hk23 : ∀ (k n : Nat) (v4 : Int) (w : Wd), LB X f k n → VF X Qf ad NF k n w 23 [(0, (3, sbI)), (1, (2, 1)), (2, (2, 44)), (3, (2, 83)), (4, (0, v4))] [] (k23 v4 w)) (v4 : Int) (w : Wd) : VF X Qf ad NF k n w 296 [(0, (3, sbI)), (1, (2, 1)), (2, (2, 44)), (3, (2, 83)), (4, (0, v4))] [] (f_A_law_296 Ln xs9 k23 v4 w) := by
  have hb := hB.s
  have hb1 := hB.t
  unfold f_A_law_296
  refine vf_aload_n C (f := 1) (zdg dz_A_law_2 23 rfl) 1 rfl rfl ?_
  refine vf_aload3_n C (f := 0) (zdg dz_A_law_3 0 rfl) 0 rfl rfl ?_
  refine vf_iload C (zdg dz_A_law_3 1 rfl) 4 rfl ?_
  refine vf_iconst C (z := 1) (zdg dz_A_law_3 2 rfl) (jz rfl) ?_
  refine vf_iadd C (zdg dz_A_law_3 3 rfl) ?_
  refine vf_xld C hX (zdg dz_A_law_3 4 rfl) ?_
  refine vf_aload3_n C (f := 0) (zdg dz_A_law_3 5 rfl) 0 rfl rfl ?_
  refine vf_iload C (zdg dz_A_law_3 6 rfl) 4 rfl ?_
  refine vf_iconst C (z := 2) (zdg dz_A_law_3 7 rfl) (jz rfl) ?_
  refine vf_iadd C (zdg dz_A_law_3 8 rfl) ?_
  refine vf_xld C hX (zdg dz_A_law_3 9 rfl) ?_
  refine vf_aload_n C (f := 3) (zdg dz_A_law_3 10 rfl) 3 rfl rfl ?_
  refine vf_callH C hAd_of hAi hAl_of hAs_of hAc_of (ct_A_of _ _ _) (S := []) (lb_jrm hb1 rfl) rfl rfl (Nat.le_of_ble_eq_true rfl) (zdg dz_A_law_3 11 rfl) hst hZ hSX (fun r19 u20 => ?_)
  refine vf_istore C (i := 5) (L' := [(0, (3, sbI)), (1, (2, 1)), (2, (2, 44)), (3, (2, 83)), (4, (0, v4))]) (zdg dz_A_law_3 12 rfl) [0, 1, 2, 3, 4] (jrI rfl rfl) hn (by decide) ?_
  refine vf_aload_n C (f := 2) (zdg dz_A_law_3 13 rfl) 3 rfl rfl ?_
  refine vf_aload3_n C (f := 0) (zdg dz_A_law_3 14 rfl) 1 rfl rfl ?_
  refine vf_iload C (zdg dz_A_law_3 15 rfl) 5 rfl ?_
  refine vf_iconst C (z := 1) (zdg dz_A_law_3 16 rfl) (jz rfl) ?_
  refine vf_iadd C (zdg dz_A_law_3 17 rfl) ?_
  refine vf_xld C hX (zdg dz_A_law_3 18 rfl) ?_
  refine vf_aload3_n C (f := 0) (zdg dz_A_law_3 19 rfl) 1 rfl rfl ?_
  refine vf_iload C (zdg dz_A_law_3 20 rfl) 5 rfl ?_
  refine vf_iconst C (z := 2) (zdg dz_A_law_3 21 rfl) (jz rfl) ?_
  refine vf_iadd C (zdg dz_A_law_3 22 rfl) ?_
  refine vf_xld C hX (zdg dz_A_law_3 23 rfl) ?_
  refine vf_callVi C cy_R_of ml_A_46 rfl (ct_R_of _ _ _) (S := []) sh_43 (by decide) rfl (lb_jrm hb1 rfl) rfl rfl (Nat.le_of_ble_eq_true rfl) (zdg dz_A_law_4 0 rfl) (fun r21 u22 => ?_)
  refine vf_istore C (i := 6) (L' := [(0, (3, sbI)), (1, (2, 1)), (2, (2, 44)), (3, (2, 83)), (4, (0, v4))]) (zdg dz_A_law_4 1 rfl) [1, 2, 3, 4, 5] (jrI rfl rfl) hn (by decide) ?_
  refine vf_goto C (off := 927) (tgt := 1260) (zdg dz_A_law_4 2 rfl) (by decide) ?_
  exact vf_perm [1, 2, 3, 4, 5] rfl (t_A_law_1260 C hn hX hr hst hZ hSX hb1 hk23 _ _)
def f_A_law_336 (Ln : Nat) (xs9 : Nat → Int32) (k23 : Int → Wd → Option (Int × Wd)) (v4 : Int) (w : Wd) : Option (Int × Wd) :=
  jgd ((0 : Int) ≤ (w32 (v4 + 1)) ∧ (w32 (v4 + 1)) < (Ln : Int)) <|
  jgd ((0 : Int) ≤ (w32 (v4 + 2)) ∧ (w32 (v4 + 2)) < (Ln : Int)) <|
  jcall (f_E_law ((xs9 (w32 (v4 + 1)).toNat).toInt) ((xs9 (w32 (v4 + 2)).toNat).toInt) w) fun r23 u24 =>
  jgd ((0 : Int) ≤ (w32 (v4 + 1)) ∧ (w32 (v4 + 1)) < (Ln : Int)) <|
  jgd ((0 : Int) ≤ (w32 (v4 + 2)) ∧ (w32 (v4 + 2)) < (Ln : Int)) <|
  jcall (f_R_law ((xs9 (w32 (v4 + 1)).toNat).toInt) ((xs9 (w32 (v4 + 2)).toNat).toInt) u24) fun r25 u26 =>
  f_A_law_1260 Ln xs9 k23 v4 u26
theorem t_A_law_336 {X : jX} {Qf : Int × Wd → State → Prop} {ad : Nat → Nat} {sbI : Int} {Ln : Nat} {xs9 : Nat → Int32} (C : Cx X code "EachBringsAnotherLaw") (hn : xn X = 7) (hX : LX X sbI Ln xs9) (hr : RtL X Qf ad code) (hst : (xl X).stackTraces = false) (hZ : ZX (xA X) (xs X)) (hSX : SX (xs X)) {f k n : Nat} (hB : LB X (f + 1) k n) {k23 : Int → Wd → Option (Int × Wd)} (hk23 : ∀ (k n : Nat) (v4 : Int) (w : Wd), LB X f k n → VF X Qf ad NF k n w 23 [(0, (3, sbI)), (1, (2, 1)), (2, (2, 44)), (3, (2, 83)), (4, (0, v4))] [] (k23 v4 w)) (v4 : Int) (w : Wd) : VF X Qf ad NF k n w 336 [(0, (3, sbI)), (1, (2, 1)), (2, (2, 44)), (3, (2, 83)), (4, (0, v4))] [] (f_A_law_336 Ln xs9 k23 v4 w) := by
  have hb := hB.s
  have hb1 := hB.t
  unfold f_A_law_336
  refine vf_aload_n C (f := 1) (zdg dz_A_law_4 3 rfl) 1 rfl rfl ?_
  refine vf_aload3_n C (f := 0) (zdg dz_A_law_4 4 rfl) 0 rfl rfl ?_
  refine vf_iload C (zdg dz_A_law_4 5 rfl) 4 rfl ?_
  refine vf_iconst C (z := 1) (zdg dz_A_law_4 6 rfl) (jz rfl) ?_
  refine vf_iadd C (zdg dz_A_law_4 7 rfl) ?_
  refine vf_xld C hX (zdg dz_A_law_4 8 rfl) ?_
  refine vf_aload3_n C (f := 0) (zdg dz_A_law_4 9 rfl) 0 rfl rfl ?_
  refine vf_iload C (zdg dz_A_law_4 10 rfl) 4 rfl ?_
  refine vf_iconst C (z := 2) (zdg dz_A_law_4 11 rfl) (jz rfl) ?_
  refine vf_iadd C (zdg dz_A_law_4 12 rfl) ?_
  refine vf_xld C hX (zdg dz_A_law_4 13 rfl) ?_
  refine vf_callVi C cy_E_law ml_A_47 rfl (ct_E_law _ _ _) (S := []) sh_0 (by decide) rfl (lb_jrm hb rfl) rfl rfl (Nat.le_of_ble_eq_true rfl) (zdg dz_A_law_4 14 rfl) (fun r23 u24 => ?_)
  refine vf_pop C (zdg dz_A_law_4 15 rfl) Nat.zero_ne_one ?_
  refine vf_aload_n C (f := 2) (zdg dz_A_law_4 16 rfl) 2 rfl rfl ?_
  refine vf_aload3_n C (f := 0) (zdg dz_A_law_4 17 rfl) 0 rfl rfl ?_
  refine vf_iload C (zdg dz_A_law_4 18 rfl) 4 rfl ?_
  refine vf_iconst C (z := 1) (zdg dz_A_law_4 19 rfl) (jz rfl) ?_
  refine vf_iadd C (zdg dz_A_law_4 20 rfl) ?_
  refine vf_xld C hX (zdg dz_A_law_4 21 rfl) ?_
  refine vf_aload3_n C (f := 0) (zdg dz_A_law_4 22 rfl) 0 rfl rfl ?_
  refine vf_iload C (zdg dz_A_law_4 23 rfl) 4 rfl ?_
  refine vf_iconst C (z := 2) (zdg dz_A_law_5 0 rfl) (jz rfl) ?_
  refine vf_iadd C (zdg dz_A_law_5 1 rfl) ?_
  refine vf_xld C hX (zdg dz_A_law_5 2 rfl) ?_
  refine vf_callVi C cy_R_law ml_A_50 rfl (ct_R_law _ _ _) (S := []) sh_43 (by decide) rfl (lb_jrm hb rfl) rfl rfl (Nat.le_of_ble_eq_true rfl) (zdg dz_A_law_5 3 rfl) (fun r25 u26 => ?_)
  refine vf_pop C (zdg dz_A_law_5 4 rfl) Nat.zero_ne_one ?_
  refine vf_goto C (off := 890) (tgt := 1260) (zdg dz_A_law_5 5 rfl) (by decide) ?_
  exact t_A_law_1260 C hn hX hr hst hZ hSX hb hk23 _ _
def f_A_law_431 (Ln : Nat) (xs9 : Nat → Int32) (k23 : Int → Wd → Option (Int × Wd)) (v4 s1 s2 s3 : Int) (w : Wd) : Option (Int × Wd) :=
  jcall (f_R_meet s1 s2 s3 w) fun r29 u30 =>
  f_A_law_1260 Ln xs9 k23 v4 u30
theorem t_A_law_431 {X : jX} {Qf : Int × Wd → State → Prop} {ad : Nat → Nat} {sbI : Int} {Ln : Nat} {xs9 : Nat → Int32} (C : Cx X code "EachBringsAnotherLaw") (hn : xn X = 7) (hX : LX X sbI Ln xs9) (hr : RtL X Qf ad code) (hst : (xl X).stackTraces = false) (hZ : ZX (xA X) (xs X)) (hSX : SX (xs X)) {f k n : Nat} (hb : LB X f k n) {k23 : Int → Wd → Option (Int × Wd)} (hk23 : ∀ (k n : Nat) (v4 : Int) (w : Wd), LB X f k n → VF X Qf ad NF k n w 23 [(0, (3, sbI)), (1, (2, 1)), (2, (2, 44)), (3, (2, 83)), (4, (0, v4))] [] (k23 v4 w)) (v4 s1 s2 s3 : Int) (w : Wd) : VF X Qf ad NF k n w 431 [(0, (3, sbI)), (1, (2, 1)), (2, (2, 44)), (3, (2, 83)), (4, (0, v4))] [(0, s3), (0, s2), (0, s1), (2, 44)] (f_A_law_431 Ln xs9 k23 v4 s1 s2 s3 w) := by
  unfold f_A_law_431
  refine vf_callVz C cy_R_meet ml_A_55 rfl (ct_R_meet _ _ _ _) (S := []) sh_43 (by decide) rfl (lb_jrm hb rfl) rfl rfl (Nat.le_of_ble_eq_true rfl) (zdg dz_A_law_7 0 rfl) (fun r29 u30 => ?_)
  refine vf_pop C (zdg dz_A_law_7 1 rfl) Nat.zero_ne_one ?_
  refine vf_goto C (off := 825) (tgt := 1260) (zdg dz_A_law_7 2 rfl) (by decide) ?_
  exact t_A_law_1260 C hn hX hr hst hZ hSX hb hk23 _ _
def f_A_law_400 (Ln : Nat) (xs9 : Nat → Int32) (k23 : Int → Wd → Option (Int × Wd)) (v4 s1 s2 s3 : Int) (w : Wd) : Option (Int × Wd) :=
  jcall (f_E_meet s1 s2 s3 w) fun r27 u28 =>
  jgd ((0 : Int) ≤ (w32 (v4 + 1)) ∧ (w32 (v4 + 1)) < (Ln : Int)) <|
  jgd ((0 : Int) ≤ (w32 (v4 + 2)) ∧ (w32 (v4 + 2)) < (Ln : Int)) <|
  jgd ((0 : Int) ≤ (w32 (v4 + 3)) ∧ (w32 (v4 + 3)) < (Ln : Int)) <|
  if ((xs9 (w32 (v4 + 3)).toNat).toInt) = 0 then
    f_A_law_431 Ln xs9 k23 v4 ((xs9 (w32 (v4 + 1)).toNat).toInt) ((xs9 (w32 (v4 + 2)).toNat).toInt) 0 u28
  else
    f_A_law_431 Ln xs9 k23 v4 ((xs9 (w32 (v4 + 1)).toNat).toInt) ((xs9 (w32 (v4 + 2)).toNat).toInt) 1 u28
theorem t_A_law_400 {X : jX} {Qf : Int × Wd → State → Prop} {ad : Nat → Nat} {sbI : Int} {Ln : Nat} {xs9 : Nat → Int32} (C : Cx X code "EachBringsAnotherLaw") (hn : xn X = 7) (hX : LX X sbI Ln xs9) (hr : RtL X Qf ad code) (hst : (xl X).stackTraces = false) (hZ : ZX (xA X) (xs X)) (hSX : SX (xs X)) {f k n : Nat} (hb : LB X f k n) {k23 : Int → Wd → Option (Int × Wd)} (hk23 : ∀ (k n : Nat) (v4 : Int) (w : Wd), LB X f k n → VF X Qf ad NF k n w 23 [(0, (3, sbI)), (1, (2, 1)), (2, (2, 44)), (3, (2, 83)), (4, (0, v4))] [] (k23 v4 w)) (v4 s1 s2 s3 : Int) (w : Wd) : VF X Qf ad NF k n w 400 [(0, (3, sbI)), (1, (2, 1)), (2, (2, 44)), (3, (2, 83)), (4, (0, v4))] [(0, s3), (0, s2), (0, s1), (2, 1)] (f_A_law_400 Ln xs9 k23 v4 s1 s2 s3 w) := by
  unfold f_A_law_400
  refine vf_callVz C cy_E_meet ml_A_51 rfl (ct_E_meet _ _ _ _) (S := []) sh_0 (by decide) rfl (lb_jrm hb rfl) rfl rfl (Nat.le_of_ble_eq_true rfl) (zdg dz_A_law_6 2 rfl) (fun r27 u28 => ?_)
  refine vf_pop C (zdg dz_A_law_6 3 rfl) Nat.zero_ne_one ?_
  refine vf_aload_n C (f := 2) (zdg dz_A_law_6 4 rfl) 2 rfl rfl ?_
  refine vf_aload3_n C (f := 0) (zdg dz_A_law_6 5 rfl) 0 rfl rfl ?_
  refine vf_iload C (zdg dz_A_law_6 6 rfl) 4 rfl ?_
  refine vf_iconst C (z := 1) (zdg dz_A_law_6 7 rfl) (jz rfl) ?_
  refine vf_iadd C (zdg dz_A_law_6 8 rfl) ?_
  refine vf_xld C hX (zdg dz_A_law_6 9 rfl) ?_
  refine vf_aload3_n C (f := 0) (zdg dz_A_law_6 10 rfl) 0 rfl rfl ?_
  refine vf_iload C (zdg dz_A_law_6 11 rfl) 4 rfl ?_
  refine vf_iconst C (z := 2) (zdg dz_A_law_6 12 rfl) (jz rfl) ?_
  refine vf_iadd C (zdg dz_A_law_6 13 rfl) ?_
  refine vf_xld C hX (zdg dz_A_law_6 14 rfl) ?_
  refine vf_aload3_n C (f := 0) (zdg dz_A_law_6 15 rfl) 0 rfl rfl ?_
  refine vf_iload C (zdg dz_A_law_6 16 rfl) 4 rfl ?_
  refine vf_iconst C (z := 3) (zdg dz_A_law_6 17 rfl) (jz rfl) ?_
  refine vf_iadd C (zdg dz_A_law_6 18 rfl) ?_
  refine vf_xld C hX (zdg dz_A_law_6 19 rfl) ?_
  refine vf_if_eq C (off := 7) (tgt := 430) (zdg dz_A_law_6 20 rfl) (by decide) ?_ ?_
  · refine vf_iconst C (z := 0) (zdg dz_A_law_6 23 rfl) (jz rfl) ?_
    exact t_A_law_431 C hn hX hr hst hZ hSX hb hk23 _ _ _ _ _
  · refine vf_iconst C (z := 1) (zdg dz_A_law_6 21 rfl) (jz rfl) ?_
    refine vf_goto C (off := 4) (tgt := 431) (zdg dz_A_law_6 22 rfl) (by decide) ?_
    exact t_A_law_431 C hn hX hr hst hZ hSX hb hk23 _ _ _ _ _
def f_A_law_373 (Ln : Nat) (xs9 : Nat → Int32) (k23 : Int → Wd → Option (Int × Wd)) (v4 : Int) (w : Wd) : Option (Int × Wd) :=
  jgd ((0 : Int) ≤ (w32 (v4 + 1)) ∧ (w32 (v4 + 1)) < (Ln : Int)) <|
  jgd ((0 : Int) ≤ (w32 (v4 + 2)) ∧ (w32 (v4 + 2)) < (Ln : Int)) <|
  jgd ((0 : Int) ≤ (w32 (v4 + 3)) ∧ (w32 (v4 + 3)) < (Ln : Int)) <|
  if ((xs9 (w32 (v4 + 3)).toNat).toInt) = 0 then
    f_A_law_400 Ln xs9 k23 v4 ((xs9 (w32 (v4 + 1)).toNat).toInt) ((xs9 (w32 (v4 + 2)).toNat).toInt) 0 w
  else
    f_A_law_400 Ln xs9 k23 v4 ((xs9 (w32 (v4 + 1)).toNat).toInt) ((xs9 (w32 (v4 + 2)).toNat).toInt) 1 w
theorem t_A_law_373 {X : jX} {Qf : Int × Wd → State → Prop} {ad : Nat → Nat} {sbI : Int} {Ln : Nat} {xs9 : Nat → Int32} (C : Cx X code "EachBringsAnotherLaw") (hn : xn X = 7) (hX : LX X sbI Ln xs9) (hr : RtL X Qf ad code) (hst : (xl X).stackTraces = false) (hZ : ZX (xA X) (xs X)) (hSX : SX (xs X)) {f k n : Nat} (hB : LB X (f + 1) k n) {k23 : Int → Wd → Option (Int × Wd)} (hk23 : ∀ (k n : Nat) (v4 : Int) (w : Wd), LB X f k n → VF X Qf ad NF k n w 23 [(0, (3, sbI)), (1, (2, 1)), (2, (2, 44)), (3, (2, 83)), (4, (0, v4))] [] (k23 v4 w)) (v4 : Int) (w : Wd) : VF X Qf ad NF k n w 373 [(0, (3, sbI)), (1, (2, 1)), (2, (2, 44)), (3, (2, 83)), (4, (0, v4))] [] (f_A_law_373 Ln xs9 k23 v4 w) := by
  have hb := hB.s
  have hb1 := hB.t
  unfold f_A_law_373
  refine vf_aload_n C (f := 1) (zdg dz_A_law_5 6 rfl) 1 rfl rfl ?_
  refine vf_aload3_n C (f := 0) (zdg dz_A_law_5 7 rfl) 0 rfl rfl ?_
  refine vf_iload C (zdg dz_A_law_5 8 rfl) 4 rfl ?_
  refine vf_iconst C (z := 1) (zdg dz_A_law_5 9 rfl) (jz rfl) ?_
  refine vf_iadd C (zdg dz_A_law_5 10 rfl) ?_
  refine vf_xld C hX (zdg dz_A_law_5 11 rfl) ?_
  refine vf_aload3_n C (f := 0) (zdg dz_A_law_5 12 rfl) 0 rfl rfl ?_
  refine vf_iload C (zdg dz_A_law_5 13 rfl) 4 rfl ?_
  refine vf_iconst C (z := 2) (zdg dz_A_law_5 14 rfl) (jz rfl) ?_
  refine vf_iadd C (zdg dz_A_law_5 15 rfl) ?_
  refine vf_xld C hX (zdg dz_A_law_5 16 rfl) ?_
  refine vf_aload3_n C (f := 0) (zdg dz_A_law_5 17 rfl) 0 rfl rfl ?_
  refine vf_iload C (zdg dz_A_law_5 18 rfl) 4 rfl ?_
  refine vf_iconst C (z := 3) (zdg dz_A_law_5 19 rfl) (jz rfl) ?_
  refine vf_iadd C (zdg dz_A_law_5 20 rfl) ?_
  refine vf_xld C hX (zdg dz_A_law_5 21 rfl) ?_
  refine vf_if_eq C (off := 7) (tgt := 399) (zdg dz_A_law_5 22 rfl) (by decide) ?_ ?_
  · refine vf_iconst C (z := 0) (zdg dz_A_law_6 1 rfl) (jz rfl) ?_
    exact t_A_law_400 C hn hX hr hst hZ hSX hb hk23 _ _ _ _ _
  · refine vf_iconst C (z := 1) (zdg dz_A_law_5 23 rfl) (jz rfl) ?_
    refine vf_goto C (off := 4) (tgt := 400) (zdg dz_A_law_6 0 rfl) (by decide) ?_
    exact t_A_law_400 C hn hX hr hst hZ hSX hb hk23 _ _ _ _ _
def f_A_law_484 (Ln : Nat) (xs9 : Nat → Int32) (k23 : Int → Wd → Option (Int × Wd)) (v4 s1 s2 : Int) (w : Wd) : Option (Int × Wd) :=
  jcall (f_R_hide s1 s2 w) fun r33 u34 =>
  f_A_law_1260 Ln xs9 k23 v4 u34
theorem t_A_law_484 {X : jX} {Qf : Int × Wd → State → Prop} {ad : Nat → Nat} {sbI : Int} {Ln : Nat} {xs9 : Nat → Int32} (C : Cx X code "EachBringsAnotherLaw") (hn : xn X = 7) (hX : LX X sbI Ln xs9) (hr : RtL X Qf ad code) (hst : (xl X).stackTraces = false) (hZ : ZX (xA X) (xs X)) (hSX : SX (xs X)) {f k n : Nat} (hb : LB X f k n) {k23 : Int → Wd → Option (Int × Wd)} (hk23 : ∀ (k n : Nat) (v4 : Int) (w : Wd), LB X f k n → VF X Qf ad NF k n w 23 [(0, (3, sbI)), (1, (2, 1)), (2, (2, 44)), (3, (2, 83)), (4, (0, v4))] [] (k23 v4 w)) (v4 s1 s2 : Int) (w : Wd) : VF X Qf ad NF k n w 484 [(0, (3, sbI)), (1, (2, 1)), (2, (2, 44)), (3, (2, 83)), (4, (0, v4))] [(0, s2), (0, s1), (2, 44)] (f_A_law_484 Ln xs9 k23 v4 s1 s2 w) := by
  unfold f_A_law_484
  refine vf_callVz C cy_R_hide ml_A_60 rfl (ct_R_hide _ _ _) (S := []) sh_43 (by decide) rfl (lb_jrm hb rfl) rfl rfl (Nat.le_of_ble_eq_true rfl) (zdg dz_A_law_8 11 rfl) (fun r33 u34 => ?_)
  refine vf_pop C (zdg dz_A_law_8 12 rfl) Nat.zero_ne_one ?_
  refine vf_goto C (off := 772) (tgt := 1260) (zdg dz_A_law_8 13 rfl) (by decide) ?_
  exact t_A_law_1260 C hn hX hr hst hZ hSX hb hk23 _ _
def f_A_law_459 (Ln : Nat) (xs9 : Nat → Int32) (k23 : Int → Wd → Option (Int × Wd)) (v4 s1 s2 : Int) (w : Wd) : Option (Int × Wd) :=
  jcall (f_E_hide s1 s2 w) fun r31 u32 =>
  jgd ((0 : Int) ≤ (w32 (v4 + 1)) ∧ (w32 (v4 + 1)) < (Ln : Int)) <|
  jgd ((0 : Int) ≤ (w32 (v4 + 2)) ∧ (w32 (v4 + 2)) < (Ln : Int)) <|
  if ((xs9 (w32 (v4 + 2)).toNat).toInt) = 0 then
    f_A_law_484 Ln xs9 k23 v4 ((xs9 (w32 (v4 + 1)).toNat).toInt) 0 u32
  else
    f_A_law_484 Ln xs9 k23 v4 ((xs9 (w32 (v4 + 1)).toNat).toInt) 1 u32
theorem t_A_law_459 {X : jX} {Qf : Int × Wd → State → Prop} {ad : Nat → Nat} {sbI : Int} {Ln : Nat} {xs9 : Nat → Int32} (C : Cx X code "EachBringsAnotherLaw") (hn : xn X = 7) (hX : LX X sbI Ln xs9) (hr : RtL X Qf ad code) (hst : (xl X).stackTraces = false) (hZ : ZX (xA X) (xs X)) (hSX : SX (xs X)) {f k n : Nat} (hb : LB X f k n) {k23 : Int → Wd → Option (Int × Wd)} (hk23 : ∀ (k n : Nat) (v4 : Int) (w : Wd), LB X f k n → VF X Qf ad NF k n w 23 [(0, (3, sbI)), (1, (2, 1)), (2, (2, 44)), (3, (2, 83)), (4, (0, v4))] [] (k23 v4 w)) (v4 s1 s2 : Int) (w : Wd) : VF X Qf ad NF k n w 459 [(0, (3, sbI)), (1, (2, 1)), (2, (2, 44)), (3, (2, 83)), (4, (0, v4))] [(0, s2), (0, s1), (2, 1)] (f_A_law_459 Ln xs9 k23 v4 s1 s2 w) := by
  unfold f_A_law_459
  refine vf_callVz C cy_E_hide ml_A_56 rfl (ct_E_hide _ _ _) (S := []) sh_0 (by decide) rfl (lb_jrm hb rfl) rfl rfl (Nat.le_of_ble_eq_true rfl) (zdg dz_A_law_7 18 rfl) (fun r31 u32 => ?_)
  refine vf_pop C (zdg dz_A_law_7 19 rfl) Nat.zero_ne_one ?_
  refine vf_aload_n C (f := 2) (zdg dz_A_law_7 20 rfl) 2 rfl rfl ?_
  refine vf_aload3_n C (f := 0) (zdg dz_A_law_7 21 rfl) 0 rfl rfl ?_
  refine vf_iload C (zdg dz_A_law_7 22 rfl) 4 rfl ?_
  refine vf_iconst C (z := 1) (zdg dz_A_law_7 23 rfl) (jz rfl) ?_
  refine vf_iadd C (zdg dz_A_law_8 0 rfl) ?_
  refine vf_xld C hX (zdg dz_A_law_8 1 rfl) ?_
  refine vf_aload3_n C (f := 0) (zdg dz_A_law_8 2 rfl) 0 rfl rfl ?_
  refine vf_iload C (zdg dz_A_law_8 3 rfl) 4 rfl ?_
  refine vf_iconst C (z := 2) (zdg dz_A_law_8 4 rfl) (jz rfl) ?_
  refine vf_iadd C (zdg dz_A_law_8 5 rfl) ?_
  refine vf_xld C hX (zdg dz_A_law_8 6 rfl) ?_
  refine vf_if_eq C (off := 7) (tgt := 483) (zdg dz_A_law_8 7 rfl) (by decide) ?_ ?_
  · refine vf_iconst C (z := 0) (zdg dz_A_law_8 10 rfl) (jz rfl) ?_
    exact t_A_law_484 C hn hX hr hst hZ hSX hb hk23 _ _ _ _
  · refine vf_iconst C (z := 1) (zdg dz_A_law_8 8 rfl) (jz rfl) ?_
    refine vf_goto C (off := 4) (tgt := 484) (zdg dz_A_law_8 9 rfl) (by decide) ?_
    exact t_A_law_484 C hn hX hr hst hZ hSX hb hk23 _ _ _ _
def f_A_law_438 (Ln : Nat) (xs9 : Nat → Int32) (k23 : Int → Wd → Option (Int × Wd)) (v4 : Int) (w : Wd) : Option (Int × Wd) :=
  jgd ((0 : Int) ≤ (w32 (v4 + 1)) ∧ (w32 (v4 + 1)) < (Ln : Int)) <|
  jgd ((0 : Int) ≤ (w32 (v4 + 2)) ∧ (w32 (v4 + 2)) < (Ln : Int)) <|
  if ((xs9 (w32 (v4 + 2)).toNat).toInt) = 0 then
    f_A_law_459 Ln xs9 k23 v4 ((xs9 (w32 (v4 + 1)).toNat).toInt) 0 w
  else
    f_A_law_459 Ln xs9 k23 v4 ((xs9 (w32 (v4 + 1)).toNat).toInt) 1 w
theorem t_A_law_438 {X : jX} {Qf : Int × Wd → State → Prop} {ad : Nat → Nat} {sbI : Int} {Ln : Nat} {xs9 : Nat → Int32} (C : Cx X code "EachBringsAnotherLaw") (hn : xn X = 7) (hX : LX X sbI Ln xs9) (hr : RtL X Qf ad code) (hst : (xl X).stackTraces = false) (hZ : ZX (xA X) (xs X)) (hSX : SX (xs X)) {f k n : Nat} (hB : LB X (f + 1) k n) {k23 : Int → Wd → Option (Int × Wd)} (hk23 : ∀ (k n : Nat) (v4 : Int) (w : Wd), LB X f k n → VF X Qf ad NF k n w 23 [(0, (3, sbI)), (1, (2, 1)), (2, (2, 44)), (3, (2, 83)), (4, (0, v4))] [] (k23 v4 w)) (v4 : Int) (w : Wd) : VF X Qf ad NF k n w 438 [(0, (3, sbI)), (1, (2, 1)), (2, (2, 44)), (3, (2, 83)), (4, (0, v4))] [] (f_A_law_438 Ln xs9 k23 v4 w) := by
  have hb := hB.s
  have hb1 := hB.t
  unfold f_A_law_438
  refine vf_aload_n C (f := 1) (zdg dz_A_law_7 3 rfl) 1 rfl rfl ?_
  refine vf_aload3_n C (f := 0) (zdg dz_A_law_7 4 rfl) 0 rfl rfl ?_
  refine vf_iload C (zdg dz_A_law_7 5 rfl) 4 rfl ?_
  refine vf_iconst C (z := 1) (zdg dz_A_law_7 6 rfl) (jz rfl) ?_
  refine vf_iadd C (zdg dz_A_law_7 7 rfl) ?_
  refine vf_xld C hX (zdg dz_A_law_7 8 rfl) ?_
  refine vf_aload3_n C (f := 0) (zdg dz_A_law_7 9 rfl) 0 rfl rfl ?_
  refine vf_iload C (zdg dz_A_law_7 10 rfl) 4 rfl ?_
  refine vf_iconst C (z := 2) (zdg dz_A_law_7 11 rfl) (jz rfl) ?_
  refine vf_iadd C (zdg dz_A_law_7 12 rfl) ?_
  refine vf_xld C hX (zdg dz_A_law_7 13 rfl) ?_
  refine vf_if_eq C (off := 7) (tgt := 458) (zdg dz_A_law_7 14 rfl) (by decide) ?_ ?_
  · refine vf_iconst C (z := 0) (zdg dz_A_law_7 17 rfl) (jz rfl) ?_
    exact t_A_law_459 C hn hX hr hst hZ hSX hb hk23 _ _ _ _
  · refine vf_iconst C (z := 1) (zdg dz_A_law_7 15 rfl) (jz rfl) ?_
    refine vf_goto C (off := 4) (tgt := 459) (zdg dz_A_law_7 16 rfl) (by decide) ?_
    exact t_A_law_459 C hn hX hr hst hZ hSX hb hk23 _ _ _ _
def f_A_law_491 (Ln : Nat) (xs9 : Nat → Int32) (k23 : Int → Wd → Option (Int × Wd)) (v4 : Int) (w : Wd) : Option (Int × Wd) :=
  jgd ((0 : Int) ≤ (w32 (v4 + 1)) ∧ (w32 (v4 + 1)) < (Ln : Int)) <|
  jcall (f_E_baby ((xs9 (w32 (v4 + 1)).toNat).toInt) w) fun r35 u36 =>
  jgd ((0 : Int) ≤ (w32 (v4 + 1)) ∧ (w32 (v4 + 1)) < (Ln : Int)) <|
  jcall (f_R_baby ((xs9 (w32 (v4 + 1)).toNat).toInt) u36) fun r37 u38 =>
  f_A_law_1260 Ln xs9 k23 v4 u38
theorem t_A_law_491 {X : jX} {Qf : Int × Wd → State → Prop} {ad : Nat → Nat} {sbI : Int} {Ln : Nat} {xs9 : Nat → Int32} (C : Cx X code "EachBringsAnotherLaw") (hn : xn X = 7) (hX : LX X sbI Ln xs9) (hr : RtL X Qf ad code) (hst : (xl X).stackTraces = false) (hZ : ZX (xA X) (xs X)) (hSX : SX (xs X)) {f k n : Nat} (hB : LB X (f + 1) k n) {k23 : Int → Wd → Option (Int × Wd)} (hk23 : ∀ (k n : Nat) (v4 : Int) (w : Wd), LB X f k n → VF X Qf ad NF k n w 23 [(0, (3, sbI)), (1, (2, 1)), (2, (2, 44)), (3, (2, 83)), (4, (0, v4))] [] (k23 v4 w)) (v4 : Int) (w : Wd) : VF X Qf ad NF k n w 491 [(0, (3, sbI)), (1, (2, 1)), (2, (2, 44)), (3, (2, 83)), (4, (0, v4))] [] (f_A_law_491 Ln xs9 k23 v4 w) := by
  have hb := hB.s
  have hb1 := hB.t
  unfold f_A_law_491
  refine vf_aload_n C (f := 1) (zdg dz_A_law_8 14 rfl) 1 rfl rfl ?_
  refine vf_aload3_n C (f := 0) (zdg dz_A_law_8 15 rfl) 0 rfl rfl ?_
  refine vf_iload C (zdg dz_A_law_8 16 rfl) 4 rfl ?_
  refine vf_iconst C (z := 1) (zdg dz_A_law_8 17 rfl) (jz rfl) ?_
  refine vf_iadd C (zdg dz_A_law_8 18 rfl) ?_
  refine vf_xld C hX (zdg dz_A_law_8 19 rfl) ?_
  refine vf_callVi C cy_E_baby ml_A_61 rfl (ct_E_baby _ _) (S := []) sh_0 (by decide) rfl (lb_jrm hb rfl) rfl rfl (Nat.le_of_ble_eq_true rfl) (zdg dz_A_law_8 20 rfl) (fun r35 u36 => ?_)
  refine vf_pop C (zdg dz_A_law_8 21 rfl) Nat.zero_ne_one ?_
  refine vf_aload_n C (f := 2) (zdg dz_A_law_8 22 rfl) 2 rfl rfl ?_
  refine vf_aload3_n C (f := 0) (zdg dz_A_law_8 23 rfl) 0 rfl rfl ?_
  refine vf_iload C (zdg dz_A_law_9 0 rfl) 4 rfl ?_
  refine vf_iconst C (z := 1) (zdg dz_A_law_9 1 rfl) (jz rfl) ?_
  refine vf_iadd C (zdg dz_A_law_9 2 rfl) ?_
  refine vf_xld C hX (zdg dz_A_law_9 3 rfl) ?_
  refine vf_callVi C cy_R_baby ml_A_64 rfl (ct_R_baby _ _) (S := []) sh_43 (by decide) rfl (lb_jrm hb rfl) rfl rfl (Nat.le_of_ble_eq_true rfl) (zdg dz_A_law_9 4 rfl) (fun r37 u38 => ?_)
  refine vf_pop C (zdg dz_A_law_9 5 rfl) Nat.zero_ne_one ?_
  refine vf_goto C (off := 747) (tgt := 1260) (zdg dz_A_law_9 6 rfl) (by decide) ?_
  exact t_A_law_1260 C hn hX hr hst hZ hSX hb hk23 _ _
def f_A_law_516 (Ln : Nat) (xs9 : Nat → Int32) (k23 : Int → Wd → Option (Int × Wd)) (v4 : Int) (w : Wd) : Option (Int × Wd) :=
  jgd ((0 : Int) ≤ (w32 (v4 + 1)) ∧ (w32 (v4 + 1)) < (Ln : Int)) <|
  jgd ((0 : Int) ≤ (w32 (v4 + 2)) ∧ (w32 (v4 + 2)) < (Ln : Int)) <|
  jgd ((0 : Int) ≤ (w32 (v4 + 3)) ∧ (w32 (v4 + 3)) < (Ln : Int)) <|
  jgd ((0 : Int) ≤ (w32 (v4 + 4)) ∧ (w32 (v4 + 4)) < (Ln : Int)) <|
  jcall (f_E_sheet ((xs9 (w32 (v4 + 1)).toNat).toInt) ((xs9 (w32 (v4 + 2)).toNat).toInt) ((xs9 (w32 (v4 + 3)).toNat).toInt) ((xs9 (w32 (v4 + 4)).toNat).toInt) w) fun r39 u40 =>
  jgd ((0 : Int) ≤ (w32 (v4 + 1)) ∧ (w32 (v4 + 1)) < (Ln : Int)) <|
  jgd ((0 : Int) ≤ (w32 (v4 + 2)) ∧ (w32 (v4 + 2)) < (Ln : Int)) <|
  jgd ((0 : Int) ≤ (w32 (v4 + 3)) ∧ (w32 (v4 + 3)) < (Ln : Int)) <|
  jgd ((0 : Int) ≤ (w32 (v4 + 4)) ∧ (w32 (v4 + 4)) < (Ln : Int)) <|
  jcall (f_R_sheet ((xs9 (w32 (v4 + 1)).toNat).toInt) ((xs9 (w32 (v4 + 2)).toNat).toInt) ((xs9 (w32 (v4 + 3)).toNat).toInt) ((xs9 (w32 (v4 + 4)).toNat).toInt) u40) fun r41 u42 =>
  f_A_law_1260 Ln xs9 k23 v4 u42
theorem t_A_law_516 {X : jX} {Qf : Int × Wd → State → Prop} {ad : Nat → Nat} {sbI : Int} {Ln : Nat} {xs9 : Nat → Int32} (C : Cx X code "EachBringsAnotherLaw") (hn : xn X = 7) (hX : LX X sbI Ln xs9) (hr : RtL X Qf ad code) (hst : (xl X).stackTraces = false) (hZ : ZX (xA X) (xs X)) (hSX : SX (xs X)) {f k n : Nat} (hB : LB X (f + 1) k n) {k23 : Int → Wd → Option (Int × Wd)} (hk23 : ∀ (k n : Nat) (v4 : Int) (w : Wd), LB X f k n → VF X Qf ad NF k n w 23 [(0, (3, sbI)), (1, (2, 1)), (2, (2, 44)), (3, (2, 83)), (4, (0, v4))] [] (k23 v4 w)) (v4 : Int) (w : Wd) : VF X Qf ad NF k n w 516 [(0, (3, sbI)), (1, (2, 1)), (2, (2, 44)), (3, (2, 83)), (4, (0, v4))] [] (f_A_law_516 Ln xs9 k23 v4 w) := by
  have hb := hB.s
  have hb1 := hB.t
  unfold f_A_law_516
  refine vf_aload_n C (f := 1) (zdg dz_A_law_9 7 rfl) 1 rfl rfl ?_
  refine vf_aload3_n C (f := 0) (zdg dz_A_law_9 8 rfl) 0 rfl rfl ?_
  refine vf_iload C (zdg dz_A_law_9 9 rfl) 4 rfl ?_
  refine vf_iconst C (z := 1) (zdg dz_A_law_9 10 rfl) (jz rfl) ?_
  refine vf_iadd C (zdg dz_A_law_9 11 rfl) ?_
  refine vf_xld C hX (zdg dz_A_law_9 12 rfl) ?_
  refine vf_aload3_n C (f := 0) (zdg dz_A_law_9 13 rfl) 0 rfl rfl ?_
  refine vf_iload C (zdg dz_A_law_9 14 rfl) 4 rfl ?_
  refine vf_iconst C (z := 2) (zdg dz_A_law_9 15 rfl) (jz rfl) ?_
  refine vf_iadd C (zdg dz_A_law_9 16 rfl) ?_
  refine vf_xld C hX (zdg dz_A_law_9 17 rfl) ?_
  refine vf_aload3_n C (f := 0) (zdg dz_A_law_9 18 rfl) 0 rfl rfl ?_
  refine vf_iload C (zdg dz_A_law_9 19 rfl) 4 rfl ?_
  refine vf_iconst C (z := 3) (zdg dz_A_law_9 20 rfl) (jz rfl) ?_
  refine vf_iadd C (zdg dz_A_law_9 21 rfl) ?_
  refine vf_xld C hX (zdg dz_A_law_9 22 rfl) ?_
  refine vf_aload3_n C (f := 0) (zdg dz_A_law_9 23 rfl) 0 rfl rfl ?_
  refine vf_iload C (zdg dz_A_law_10 0 rfl) 4 rfl ?_
  refine vf_iconst C (z := 4) (zdg dz_A_law_10 1 rfl) (jz rfl) ?_
  refine vf_iadd C (zdg dz_A_law_10 2 rfl) ?_
  refine vf_xld C hX (zdg dz_A_law_10 3 rfl) ?_
  refine vf_callVi C cy_E_sheet ml_A_65 rfl (ct_E_sheet _ _ _ _ _) (S := []) sh_0 (by decide) rfl (lb_jrm hb rfl) rfl rfl (Nat.le_of_ble_eq_true rfl) (zdg dz_A_law_10 4 rfl) (fun r39 u40 => ?_)
  refine vf_pop C (zdg dz_A_law_10 5 rfl) Nat.zero_ne_one ?_
  refine vf_aload_n C (f := 2) (zdg dz_A_law_10 6 rfl) 2 rfl rfl ?_
  refine vf_aload3_n C (f := 0) (zdg dz_A_law_10 7 rfl) 0 rfl rfl ?_
  refine vf_iload C (zdg dz_A_law_10 8 rfl) 4 rfl ?_
  refine vf_iconst C (z := 1) (zdg dz_A_law_10 9 rfl) (jz rfl) ?_
  refine vf_iadd C (zdg dz_A_law_10 10 rfl) ?_
  refine vf_xld C hX (zdg dz_A_law_10 11 rfl) ?_
  refine vf_aload3_n C (f := 0) (zdg dz_A_law_10 12 rfl) 0 rfl rfl ?_
  refine vf_iload C (zdg dz_A_law_10 13 rfl) 4 rfl ?_
  refine vf_iconst C (z := 2) (zdg dz_A_law_10 14 rfl) (jz rfl) ?_
  refine vf_iadd C (zdg dz_A_law_10 15 rfl) ?_
  refine vf_xld C hX (zdg dz_A_law_10 16 rfl) ?_
  refine vf_aload3_n C (f := 0) (zdg dz_A_law_10 17 rfl) 0 rfl rfl ?_
  refine vf_iload C (zdg dz_A_law_10 18 rfl) 4 rfl ?_
  refine vf_iconst C (z := 3) (zdg dz_A_law_10 19 rfl) (jz rfl) ?_
  refine vf_iadd C (zdg dz_A_law_10 20 rfl) ?_
  refine vf_xld C hX (zdg dz_A_law_10 21 rfl) ?_
  refine vf_aload3_n C (f := 0) (zdg dz_A_law_10 22 rfl) 0 rfl rfl ?_
  refine vf_iload C (zdg dz_A_law_10 23 rfl) 4 rfl ?_
  refine vf_iconst C (z := 4) (zdg dz_A_law_11 0 rfl) (jz rfl) ?_
  refine vf_iadd C (zdg dz_A_law_11 1 rfl) ?_
  refine vf_xld C hX (zdg dz_A_law_11 2 rfl) ?_
  refine vf_callVi C cy_R_sheet ml_A_69 rfl (ct_R_sheet _ _ _ _ _) (S := []) sh_43 (by decide) rfl (lb_jrm hb rfl) rfl rfl (Nat.le_of_ble_eq_true rfl) (zdg dz_A_law_11 3 rfl) (fun r41 u42 => ?_)
  refine vf_pop C (zdg dz_A_law_11 4 rfl) Nat.zero_ne_one ?_
  refine vf_goto C (off := 686) (tgt := 1260) (zdg dz_A_law_11 5 rfl) (by decide) ?_
  exact t_A_law_1260 C hn hX hr hst hZ hSX hb hk23 _ _
def f_A_law_577 (Ln : Nat) (xs9 : Nat → Int32) (k23 : Int → Wd → Option (Int × Wd)) (v4 : Int) (w : Wd) : Option (Int × Wd) :=
  jcall (f_E_week w) fun r43 u44 =>
  jcall (f_R_week u44) fun r45 u46 =>
  f_A_law_1260 Ln xs9 k23 v4 u46
theorem t_A_law_577 {X : jX} {Qf : Int × Wd → State → Prop} {ad : Nat → Nat} {sbI : Int} {Ln : Nat} {xs9 : Nat → Int32} (C : Cx X code "EachBringsAnotherLaw") (hn : xn X = 7) (hX : LX X sbI Ln xs9) (hr : RtL X Qf ad code) (hst : (xl X).stackTraces = false) (hZ : ZX (xA X) (xs X)) (hSX : SX (xs X)) {f k n : Nat} (hB : LB X (f + 1) k n) {k23 : Int → Wd → Option (Int × Wd)} (hk23 : ∀ (k n : Nat) (v4 : Int) (w : Wd), LB X f k n → VF X Qf ad NF k n w 23 [(0, (3, sbI)), (1, (2, 1)), (2, (2, 44)), (3, (2, 83)), (4, (0, v4))] [] (k23 v4 w)) (v4 : Int) (w : Wd) : VF X Qf ad NF k n w 577 [(0, (3, sbI)), (1, (2, 1)), (2, (2, 44)), (3, (2, 83)), (4, (0, v4))] [] (f_A_law_577 Ln xs9 k23 v4 w) := by
  have hb := hB.s
  have hb1 := hB.t
  unfold f_A_law_577
  refine vf_aload_n C (f := 1) (zdg dz_A_law_11 6 rfl) 1 rfl rfl ?_
  refine vf_callVi C cy_E_week ml_A_70 rfl (ct_E_week _) (S := []) sh_0 (by decide) rfl (lb_jrm hb rfl) rfl rfl (Nat.le_of_ble_eq_true rfl) (zdg dz_A_law_11 7 rfl) (fun r43 u44 => ?_)
  refine vf_pop C (zdg dz_A_law_11 8 rfl) Nat.zero_ne_one ?_
  refine vf_aload_n C (f := 2) (zdg dz_A_law_11 9 rfl) 2 rfl rfl ?_
  refine vf_callVi C cy_R_week ml_A_73 rfl (ct_R_week _) (S := []) sh_43 (by decide) rfl (lb_jrm hb rfl) rfl rfl (Nat.le_of_ble_eq_true rfl) (zdg dz_A_law_11 10 rfl) (fun r45 u46 => ?_)
  refine vf_pop C (zdg dz_A_law_11 11 rfl) Nat.zero_ne_one ?_
  refine vf_goto C (off := 673) (tgt := 1260) (zdg dz_A_law_11 12 rfl) (by decide) ?_
  exact t_A_law_1260 C hn hX hr hst hZ hSX hb hk23 _ _
end
section
def f_A_law_590 (Ln : Nat) (xs9 : Nat → Int32) (k23 : Int → Wd → Option (Int × Wd)) (v4 : Int) (w : Wd) : Option (Int × Wd) :=
  jgd ((0 : Int) ≤ (w32 (v4 + 1)) ∧ (w32 (v4 + 1)) < (Ln : Int)) <|
  jcall (f_E_goes ((xs9 (w32 (v4 + 1)).toNat).toInt) w) fun r47 u48 =>
  jgd ((0 : Int) ≤ (w32 (v4 + 1)) ∧ (w32 (v4 + 1)) < (Ln : Int)) <|
  jcall (f_R_goes ((xs9 (w32 (v4 + 1)).toNat).toInt) u48) fun r49 u50 =>
  f_A_law_1260 Ln xs9 k23 v4 u50
theorem t_A_law_590 {X : jX} {Qf : Int × Wd → State → Prop} {ad : Nat → Nat} {sbI : Int} {Ln : Nat} {xs9 : Nat → Int32} (C : Cx X code "EachBringsAnotherLaw") (hn : xn X = 7) (hX : LX X sbI Ln xs9) (hr : RtL X Qf ad code) (hst : (xl X).stackTraces = false) (hZ : ZX (xA X) (xs X)) (hSX : SX (xs X)) {f k n : Nat} (hB : LB X (f + 1) k n) {k23 : Int → Wd → Option (Int × Wd)} (hk23 : ∀ (k n : Nat) (v4 : Int) (w : Wd), LB X f k n → VF X Qf ad NF k n w 23 [(0, (3, sbI)), (1, (2, 1)), (2, (2, 44)), (3, (2, 83)), (4, (0, v4))] [] (k23 v4 w)) (v4 : Int) (w : Wd) : VF X Qf ad NF k n w 590 [(0, (3, sbI)), (1, (2, 1)), (2, (2, 44)), (3, (2, 83)), (4, (0, v4))] [] (f_A_law_590 Ln xs9 k23 v4 w) := by
  have hb := hB.s
  have hb1 := hB.t
  unfold f_A_law_590
  refine vf_aload_n C (f := 1) (zdg dz_A_law_11 13 rfl) 1 rfl rfl ?_
  refine vf_aload3_n C (f := 0) (zdg dz_A_law_11 14 rfl) 0 rfl rfl ?_
  refine vf_iload C (zdg dz_A_law_11 15 rfl) 4 rfl ?_
  refine vf_iconst C (z := 1) (zdg dz_A_law_11 16 rfl) (jz rfl) ?_
  refine vf_iadd C (zdg dz_A_law_11 17 rfl) ?_
  refine vf_xld C hX (zdg dz_A_law_11 18 rfl) ?_
  refine vf_callVi C cy_E_goes ml_A_74 rfl (ct_E_goes _ _) (S := []) sh_0 (by decide) rfl (lb_jrm hb rfl) rfl rfl (Nat.le_of_ble_eq_true rfl) (zdg dz_A_law_11 19 rfl) (fun r47 u48 => ?_)
  refine vf_pop C (zdg dz_A_law_11 20 rfl) Nat.zero_ne_one ?_
  refine vf_aload_n C (f := 2) (zdg dz_A_law_11 21 rfl) 2 rfl rfl ?_
  refine vf_aload3_n C (f := 0) (zdg dz_A_law_11 22 rfl) 0 rfl rfl ?_
  refine vf_iload C (zdg dz_A_law_11 23 rfl) 4 rfl ?_
  refine vf_iconst C (z := 1) (zdg dz_A_law_12 0 rfl) (jz rfl) ?_
  refine vf_iadd C (zdg dz_A_law_12 1 rfl) ?_
  refine vf_xld C hX (zdg dz_A_law_12 2 rfl) ?_
  refine vf_callVi C cy_R_goes ml_A_77 rfl (ct_R_goes _ _) (S := []) sh_43 (by decide) rfl (lb_jrm hb rfl) rfl rfl (Nat.le_of_ble_eq_true rfl) (zdg dz_A_law_12 3 rfl) (fun r49 u50 => ?_)
  refine vf_pop C (zdg dz_A_law_12 4 rfl) Nat.zero_ne_one ?_
  refine vf_goto C (off := 648) (tgt := 1260) (zdg dz_A_law_12 5 rfl) (by decide) ?_
  exact t_A_law_1260 C hn hX hr hst hZ hSX hb hk23 _ _
def f_A_law_615 (Ln : Nat) (xs9 : Nat → Int32) (k23 : Int → Wd → Option (Int × Wd)) (v4 : Int) (w : Wd) : Option (Int × Wd) :=
  jcall (f_E_undo w) fun r51 u52 =>
  jcall (f_R_undo u52) fun r53 u54 =>
  f_A_law_1260 Ln xs9 k23 v4 u54
theorem t_A_law_615 {X : jX} {Qf : Int × Wd → State → Prop} {ad : Nat → Nat} {sbI : Int} {Ln : Nat} {xs9 : Nat → Int32} (C : Cx X code "EachBringsAnotherLaw") (hn : xn X = 7) (hX : LX X sbI Ln xs9) (hr : RtL X Qf ad code) (hst : (xl X).stackTraces = false) (hZ : ZX (xA X) (xs X)) (hSX : SX (xs X)) {f k n : Nat} (hB : LB X (f + 1) k n) {k23 : Int → Wd → Option (Int × Wd)} (hk23 : ∀ (k n : Nat) (v4 : Int) (w : Wd), LB X f k n → VF X Qf ad NF k n w 23 [(0, (3, sbI)), (1, (2, 1)), (2, (2, 44)), (3, (2, 83)), (4, (0, v4))] [] (k23 v4 w)) (v4 : Int) (w : Wd) : VF X Qf ad NF k n w 615 [(0, (3, sbI)), (1, (2, 1)), (2, (2, 44)), (3, (2, 83)), (4, (0, v4))] [] (f_A_law_615 Ln xs9 k23 v4 w) := by
  have hb := hB.s
  have hb1 := hB.t
  unfold f_A_law_615
  refine vf_aload_n C (f := 1) (zdg dz_A_law_12 6 rfl) 1 rfl rfl ?_
  refine vf_callVi C cy_E_undo ml_A_78 rfl (ct_E_undo _) (S := []) sh_0 (by decide) rfl (lb_jrm hb rfl) rfl rfl (Nat.le_of_ble_eq_true rfl) (zdg dz_A_law_12 7 rfl) (fun r51 u52 => ?_)
  refine vf_pop C (zdg dz_A_law_12 8 rfl) Nat.zero_ne_one ?_
  refine vf_aload_n C (f := 2) (zdg dz_A_law_12 9 rfl) 2 rfl rfl ?_
  refine vf_callVi C cy_R_undo ml_A_81 rfl (ct_R_undo _) (S := []) sh_43 (by decide) rfl (lb_jrm hb rfl) rfl rfl (Nat.le_of_ble_eq_true rfl) (zdg dz_A_law_12 10 rfl) (fun r53 u54 => ?_)
  refine vf_pop C (zdg dz_A_law_12 11 rfl) Nat.zero_ne_one ?_
  refine vf_goto C (off := 635) (tgt := 1260) (zdg dz_A_law_12 12 rfl) (by decide) ?_
  exact t_A_law_1260 C hn hX hr hst hZ hSX hb hk23 _ _
def f_A_law_628 (Ln : Nat) (xs9 : Nat → Int32) (k23 : Int → Wd → Option (Int × Wd)) (v4 : Int) (w : Wd) : Option (Int × Wd) :=
  jcall (f_E_can w) fun r55 u56 =>
  jcall (f_R_can u56) fun r57 u58 =>
  f_A_law_1260 Ln xs9 k23 v4 u58
theorem t_A_law_628 {X : jX} {Qf : Int × Wd → State → Prop} {ad : Nat → Nat} {sbI : Int} {Ln : Nat} {xs9 : Nat → Int32} (C : Cx X code "EachBringsAnotherLaw") (hn : xn X = 7) (hX : LX X sbI Ln xs9) (hr : RtL X Qf ad code) (hst : (xl X).stackTraces = false) (hZ : ZX (xA X) (xs X)) (hSX : SX (xs X)) {f k n : Nat} (hB : LB X (f + 1) k n) {k23 : Int → Wd → Option (Int × Wd)} (hk23 : ∀ (k n : Nat) (v4 : Int) (w : Wd), LB X f k n → VF X Qf ad NF k n w 23 [(0, (3, sbI)), (1, (2, 1)), (2, (2, 44)), (3, (2, 83)), (4, (0, v4))] [] (k23 v4 w)) (v4 : Int) (w : Wd) : VF X Qf ad NF k n w 628 [(0, (3, sbI)), (1, (2, 1)), (2, (2, 44)), (3, (2, 83)), (4, (0, v4))] [] (f_A_law_628 Ln xs9 k23 v4 w) := by
  have hb := hB.s
  have hb1 := hB.t
  unfold f_A_law_628
  refine vf_aload_n C (f := 1) (zdg dz_A_law_12 13 rfl) 1 rfl rfl ?_
  refine vf_callVi C cy_E_can ml_A_82 rfl (ct_E_can _) (S := []) sh_0 (by decide) rfl (lb_jrm hb rfl) rfl rfl (Nat.le_of_ble_eq_true rfl) (zdg dz_A_law_12 14 rfl) (fun r55 u56 => ?_)
  refine vf_pop C (zdg dz_A_law_12 15 rfl) Nat.zero_ne_one ?_
  refine vf_aload_n C (f := 2) (zdg dz_A_law_12 16 rfl) 2 rfl rfl ?_
  refine vf_callVi C cy_R_can ml_A_85 rfl (ct_R_can _) (S := []) sh_43 (by decide) rfl (lb_jrm hb rfl) rfl rfl (Nat.le_of_ble_eq_true rfl) (zdg dz_A_law_12 17 rfl) (fun r57 u58 => ?_)
  refine vf_pop C (zdg dz_A_law_12 18 rfl) Nat.zero_ne_one ?_
  refine vf_goto C (off := 622) (tgt := 1260) (zdg dz_A_law_12 19 rfl) (by decide) ?_
  exact t_A_law_1260 C hn hX hr hst hZ hSX hb hk23 _ _
def f_A_law_641 (Ln : Nat) (xs9 : Nat → Int32) (k23 : Int → Wd → Option (Int × Wd)) (v4 : Int) (w : Wd) : Option (Int × Wd) :=
  jgd ((0 : Int) ≤ (w32 (v4 + 1)) ∧ (w32 (v4 + 1)) < (Ln : Int)) <|
  jcall (f_E_picks ((xs9 (w32 (v4 + 1)).toNat).toInt) w) fun r59 u60 =>
  jgd ((0 : Int) ≤ (w32 (v4 + 1)) ∧ (w32 (v4 + 1)) < (Ln : Int)) <|
  jcall (f_R_picks ((xs9 (w32 (v4 + 1)).toNat).toInt) u60) fun r61 u62 =>
  f_A_law_1260 Ln xs9 k23 v4 u62
theorem t_A_law_641 {X : jX} {Qf : Int × Wd → State → Prop} {ad : Nat → Nat} {sbI : Int} {Ln : Nat} {xs9 : Nat → Int32} (C : Cx X code "EachBringsAnotherLaw") (hn : xn X = 7) (hX : LX X sbI Ln xs9) (hr : RtL X Qf ad code) (hst : (xl X).stackTraces = false) (hZ : ZX (xA X) (xs X)) (hSX : SX (xs X)) {f k n : Nat} (hB : LB X (f + 1) k n) {k23 : Int → Wd → Option (Int × Wd)} (hk23 : ∀ (k n : Nat) (v4 : Int) (w : Wd), LB X f k n → VF X Qf ad NF k n w 23 [(0, (3, sbI)), (1, (2, 1)), (2, (2, 44)), (3, (2, 83)), (4, (0, v4))] [] (k23 v4 w)) (v4 : Int) (w : Wd) : VF X Qf ad NF k n w 641 [(0, (3, sbI)), (1, (2, 1)), (2, (2, 44)), (3, (2, 83)), (4, (0, v4))] [] (f_A_law_641 Ln xs9 k23 v4 w) := by
  have hb := hB.s
  have hb1 := hB.t
  unfold f_A_law_641
  refine vf_aload_n C (f := 1) (zdg dz_A_law_12 20 rfl) 1 rfl rfl ?_
  refine vf_aload3_n C (f := 0) (zdg dz_A_law_12 21 rfl) 0 rfl rfl ?_
  refine vf_iload C (zdg dz_A_law_12 22 rfl) 4 rfl ?_
  refine vf_iconst C (z := 1) (zdg dz_A_law_12 23 rfl) (jz rfl) ?_
  refine vf_iadd C (zdg dz_A_law_13 0 rfl) ?_
  refine vf_xld C hX (zdg dz_A_law_13 1 rfl) ?_
  refine vf_callVi C cy_E_picks ml_A_86 rfl (ct_E_picks _ _) (S := []) sh_0 (by decide) rfl (lb_jrm hb rfl) rfl rfl (Nat.le_of_ble_eq_true rfl) (zdg dz_A_law_13 2 rfl) (fun r59 u60 => ?_)
  refine vf_pop C (zdg dz_A_law_13 3 rfl) Nat.zero_ne_one ?_
  refine vf_aload_n C (f := 2) (zdg dz_A_law_13 4 rfl) 2 rfl rfl ?_
  refine vf_aload3_n C (f := 0) (zdg dz_A_law_13 5 rfl) 0 rfl rfl ?_
  refine vf_iload C (zdg dz_A_law_13 6 rfl) 4 rfl ?_
  refine vf_iconst C (z := 1) (zdg dz_A_law_13 7 rfl) (jz rfl) ?_
  refine vf_iadd C (zdg dz_A_law_13 8 rfl) ?_
  refine vf_xld C hX (zdg dz_A_law_13 9 rfl) ?_
  refine vf_callVi C cy_R_picks ml_A_89 rfl (ct_R_picks _ _) (S := []) sh_43 (by decide) rfl (lb_jrm hb rfl) rfl rfl (Nat.le_of_ble_eq_true rfl) (zdg dz_A_law_13 10 rfl) (fun r61 u62 => ?_)
  refine vf_pop C (zdg dz_A_law_13 11 rfl) Nat.zero_ne_one ?_
  refine vf_goto C (off := 597) (tgt := 1260) (zdg dz_A_law_13 12 rfl) (by decide) ?_
  exact t_A_law_1260 C hn hX hr hst hZ hSX hb hk23 _ _
def f_A_law_666 (Ln : Nat) (xs9 : Nat → Int32) (k23 : Int → Wd → Option (Int × Wd)) (v4 : Int) (w : Wd) : Option (Int × Wd) :=
  jcall (f_E_pairs w) fun r63 u64 =>
  jcall (f_R_pairs u64) fun r65 u66 =>
  f_A_law_1260 Ln xs9 k23 v4 u66
theorem t_A_law_666 {X : jX} {Qf : Int × Wd → State → Prop} {ad : Nat → Nat} {sbI : Int} {Ln : Nat} {xs9 : Nat → Int32} (C : Cx X code "EachBringsAnotherLaw") (hn : xn X = 7) (hX : LX X sbI Ln xs9) (hr : RtL X Qf ad code) (hst : (xl X).stackTraces = false) (hZ : ZX (xA X) (xs X)) (hSX : SX (xs X)) {f k n : Nat} (hB : LB X (f + 1) k n) {k23 : Int → Wd → Option (Int × Wd)} (hk23 : ∀ (k n : Nat) (v4 : Int) (w : Wd), LB X f k n → VF X Qf ad NF k n w 23 [(0, (3, sbI)), (1, (2, 1)), (2, (2, 44)), (3, (2, 83)), (4, (0, v4))] [] (k23 v4 w)) (v4 : Int) (w : Wd) : VF X Qf ad NF k n w 666 [(0, (3, sbI)), (1, (2, 1)), (2, (2, 44)), (3, (2, 83)), (4, (0, v4))] [] (f_A_law_666 Ln xs9 k23 v4 w) := by
  have hb := hB.s
  have hb1 := hB.t
  unfold f_A_law_666
  refine vf_aload_n C (f := 1) (zdg dz_A_law_13 13 rfl) 1 rfl rfl ?_
  refine vf_callVi C cy_E_pairs ml_A_90 rfl (ct_E_pairs _) (S := []) sh_0 (by decide) rfl (lb_jrm hb rfl) rfl rfl (Nat.le_of_ble_eq_true rfl) (zdg dz_A_law_13 14 rfl) (fun r63 u64 => ?_)
  refine vf_pop C (zdg dz_A_law_13 15 rfl) Nat.zero_ne_one ?_
  refine vf_aload_n C (f := 2) (zdg dz_A_law_13 16 rfl) 2 rfl rfl ?_
  refine vf_callVi C cy_R_pairs ml_A_93 rfl (ct_R_pairs _) (S := []) sh_43 (by decide) rfl (lb_jrm hb rfl) rfl rfl (Nat.le_of_ble_eq_true rfl) (zdg dz_A_law_13 17 rfl) (fun r65 u66 => ?_)
  refine vf_pop C (zdg dz_A_law_13 18 rfl) Nat.zero_ne_one ?_
  refine vf_goto C (off := 584) (tgt := 1260) (zdg dz_A_law_13 19 rfl) (by decide) ?_
  exact t_A_law_1260 C hn hX hr hst hZ hSX hb hk23 _ _
def f_A_law_679 (Ln : Nat) (xs9 : Nat → Int32) (k23 : Int → Wd → Option (Int × Wd)) (v4 : Int) (w : Wd) : Option (Int × Wd) :=
  jcall (f_E_bars w) fun r67 u68 =>
  jcall (f_R_bars u68) fun r69 u70 =>
  f_A_law_1260 Ln xs9 k23 v4 u70
theorem t_A_law_679 {X : jX} {Qf : Int × Wd → State → Prop} {ad : Nat → Nat} {sbI : Int} {Ln : Nat} {xs9 : Nat → Int32} (C : Cx X code "EachBringsAnotherLaw") (hn : xn X = 7) (hX : LX X sbI Ln xs9) (hr : RtL X Qf ad code) (hst : (xl X).stackTraces = false) (hZ : ZX (xA X) (xs X)) (hSX : SX (xs X)) {f k n : Nat} (hB : LB X (f + 1) k n) {k23 : Int → Wd → Option (Int × Wd)} (hk23 : ∀ (k n : Nat) (v4 : Int) (w : Wd), LB X f k n → VF X Qf ad NF k n w 23 [(0, (3, sbI)), (1, (2, 1)), (2, (2, 44)), (3, (2, 83)), (4, (0, v4))] [] (k23 v4 w)) (v4 : Int) (w : Wd) : VF X Qf ad NF k n w 679 [(0, (3, sbI)), (1, (2, 1)), (2, (2, 44)), (3, (2, 83)), (4, (0, v4))] [] (f_A_law_679 Ln xs9 k23 v4 w) := by
  have hb := hB.s
  have hb1 := hB.t
  unfold f_A_law_679
  refine vf_aload_n C (f := 1) (zdg dz_A_law_13 20 rfl) 1 rfl rfl ?_
  refine vf_callVi C cy_E_bars ml_A_94 rfl (ct_E_bars _) (S := []) sh_0 (by decide) rfl (lb_jrm hb rfl) rfl rfl (Nat.le_of_ble_eq_true rfl) (zdg dz_A_law_13 21 rfl) (fun r67 u68 => ?_)
  refine vf_pop C (zdg dz_A_law_13 22 rfl) Nat.zero_ne_one ?_
  refine vf_aload_n C (f := 2) (zdg dz_A_law_13 23 rfl) 2 rfl rfl ?_
  refine vf_callVi C cy_R_bars ml_A_97 rfl (ct_R_bars _) (S := []) sh_43 (by decide) rfl (lb_jrm hb rfl) rfl rfl (Nat.le_of_ble_eq_true rfl) (zdg dz_A_law_14 0 rfl) (fun r69 u70 => ?_)
  refine vf_pop C (zdg dz_A_law_14 1 rfl) Nat.zero_ne_one ?_
  refine vf_goto C (off := 571) (tgt := 1260) (zdg dz_A_law_14 2 rfl) (by decide) ?_
  exact t_A_law_1260 C hn hX hr hst hZ hSX hb hk23 _ _
def f_A_law_692 (Ln : Nat) (xs9 : Nat → Int32) (k23 : Int → Wd → Option (Int × Wd)) (v4 : Int) (w : Wd) : Option (Int × Wd) :=
  jcall (f_E_states w) fun r71 u72 =>
  jcall (f_R_states u72) fun r73 u74 =>
  f_A_law_1260 Ln xs9 k23 v4 u74
theorem t_A_law_692 {X : jX} {Qf : Int × Wd → State → Prop} {ad : Nat → Nat} {sbI : Int} {Ln : Nat} {xs9 : Nat → Int32} (C : Cx X code "EachBringsAnotherLaw") (hn : xn X = 7) (hX : LX X sbI Ln xs9) (hr : RtL X Qf ad code) (hst : (xl X).stackTraces = false) (hZ : ZX (xA X) (xs X)) (hSX : SX (xs X)) {f k n : Nat} (hB : LB X (f + 1) k n) {k23 : Int → Wd → Option (Int × Wd)} (hk23 : ∀ (k n : Nat) (v4 : Int) (w : Wd), LB X f k n → VF X Qf ad NF k n w 23 [(0, (3, sbI)), (1, (2, 1)), (2, (2, 44)), (3, (2, 83)), (4, (0, v4))] [] (k23 v4 w)) (v4 : Int) (w : Wd) : VF X Qf ad NF k n w 692 [(0, (3, sbI)), (1, (2, 1)), (2, (2, 44)), (3, (2, 83)), (4, (0, v4))] [] (f_A_law_692 Ln xs9 k23 v4 w) := by
  have hb := hB.s
  have hb1 := hB.t
  unfold f_A_law_692
  refine vf_aload_n C (f := 1) (zdg dz_A_law_14 3 rfl) 1 rfl rfl ?_
  refine vf_callVi C cy_E_states ml_A_98 rfl (ct_E_states _) (S := []) sh_0 (by decide) rfl (lb_jrm hb rfl) rfl rfl (Nat.le_of_ble_eq_true rfl) (zdg dz_A_law_14 4 rfl) (fun r71 u72 => ?_)
  refine vf_pop C (zdg dz_A_law_14 5 rfl) Nat.zero_ne_one ?_
  refine vf_aload_n C (f := 2) (zdg dz_A_law_14 6 rfl) 2 rfl rfl ?_
  refine vf_callVi C cy_R_states ml_A_101 rfl (ct_R_states _) (S := []) sh_43 (by decide) rfl (lb_jrm hb rfl) rfl rfl (Nat.le_of_ble_eq_true rfl) (zdg dz_A_law_14 7 rfl) (fun r73 u74 => ?_)
  refine vf_pop C (zdg dz_A_law_14 8 rfl) Nat.zero_ne_one ?_
  refine vf_goto C (off := 558) (tgt := 1260) (zdg dz_A_law_14 9 rfl) (by decide) ?_
  exact t_A_law_1260 C hn hX hr hst hZ hSX hb hk23 _ _
def f_A_law_705 (Ln : Nat) (xs9 : Nat → Int32) (k23 : Int → Wd → Option (Int × Wd)) (v4 : Int) (w : Wd) : Option (Int × Wd) :=
  jgd ((0 : Int) ≤ (w32 (v4 + 1)) ∧ (w32 (v4 + 1)) < (Ln : Int)) <|
  jcall (f_E_most ((xs9 (w32 (v4 + 1)).toNat).toInt) w) fun r75 u76 =>
  jgd ((0 : Int) ≤ (w32 (v4 + 1)) ∧ (w32 (v4 + 1)) < (Ln : Int)) <|
  jcall (f_R_most ((xs9 (w32 (v4 + 1)).toNat).toInt) u76) fun r77 u78 =>
  f_A_law_1260 Ln xs9 k23 v4 u78
theorem t_A_law_705 {X : jX} {Qf : Int × Wd → State → Prop} {ad : Nat → Nat} {sbI : Int} {Ln : Nat} {xs9 : Nat → Int32} (C : Cx X code "EachBringsAnotherLaw") (hn : xn X = 7) (hX : LX X sbI Ln xs9) (hr : RtL X Qf ad code) (hst : (xl X).stackTraces = false) (hZ : ZX (xA X) (xs X)) (hSX : SX (xs X)) {f k n : Nat} (hB : LB X (f + 1) k n) {k23 : Int → Wd → Option (Int × Wd)} (hk23 : ∀ (k n : Nat) (v4 : Int) (w : Wd), LB X f k n → VF X Qf ad NF k n w 23 [(0, (3, sbI)), (1, (2, 1)), (2, (2, 44)), (3, (2, 83)), (4, (0, v4))] [] (k23 v4 w)) (v4 : Int) (w : Wd) : VF X Qf ad NF k n w 705 [(0, (3, sbI)), (1, (2, 1)), (2, (2, 44)), (3, (2, 83)), (4, (0, v4))] [] (f_A_law_705 Ln xs9 k23 v4 w) := by
  have hb := hB.s
  have hb1 := hB.t
  unfold f_A_law_705
  refine vf_aload_n C (f := 1) (zdg dz_A_law_14 10 rfl) 1 rfl rfl ?_
  refine vf_aload3_n C (f := 0) (zdg dz_A_law_14 11 rfl) 0 rfl rfl ?_
  refine vf_iload C (zdg dz_A_law_14 12 rfl) 4 rfl ?_
  refine vf_iconst C (z := 1) (zdg dz_A_law_14 13 rfl) (jz rfl) ?_
  refine vf_iadd C (zdg dz_A_law_14 14 rfl) ?_
  refine vf_xld C hX (zdg dz_A_law_14 15 rfl) ?_
  refine vf_callVi C cy_E_most ml_A_102 rfl (ct_E_most _ _) (S := []) sh_0 (by decide) rfl (lb_jrm hb rfl) rfl rfl (Nat.le_of_ble_eq_true rfl) (zdg dz_A_law_14 16 rfl) (fun r75 u76 => ?_)
  refine vf_pop C (zdg dz_A_law_14 17 rfl) Nat.zero_ne_one ?_
  refine vf_aload_n C (f := 2) (zdg dz_A_law_14 18 rfl) 2 rfl rfl ?_
  refine vf_aload3_n C (f := 0) (zdg dz_A_law_14 19 rfl) 0 rfl rfl ?_
  refine vf_iload C (zdg dz_A_law_14 20 rfl) 4 rfl ?_
  refine vf_iconst C (z := 1) (zdg dz_A_law_14 21 rfl) (jz rfl) ?_
  refine vf_iadd C (zdg dz_A_law_14 22 rfl) ?_
  refine vf_xld C hX (zdg dz_A_law_14 23 rfl) ?_
  refine vf_callVi C cy_R_most ml_A_105 rfl (ct_R_most _ _) (S := []) sh_43 (by decide) rfl (lb_jrm hb rfl) rfl rfl (Nat.le_of_ble_eq_true rfl) (zdg dz_A_law_15 0 rfl) (fun r77 u78 => ?_)
  refine vf_pop C (zdg dz_A_law_15 1 rfl) Nat.zero_ne_one ?_
  refine vf_goto C (off := 533) (tgt := 1260) (zdg dz_A_law_15 2 rfl) (by decide) ?_
  exact t_A_law_1260 C hn hX hr hst hZ hSX hb hk23 _ _
def f_A_law_730 (Ln : Nat) (xs9 : Nat → Int32) (k23 : Int → Wd → Option (Int × Wd)) (v4 : Int) (w : Wd) : Option (Int × Wd) :=
  jgd ((0 : Int) ≤ (w32 (v4 + 1)) ∧ (w32 (v4 + 1)) < (Ln : Int)) <|
  jcall (f_E_reach ((xs9 (w32 (v4 + 1)).toNat).toInt) w) fun r79 u80 =>
  jgd ((0 : Int) ≤ (w32 (v4 + 1)) ∧ (w32 (v4 + 1)) < (Ln : Int)) <|
  jcall (f_R_reach ((xs9 (w32 (v4 + 1)).toNat).toInt) u80) fun r81 u82 =>
  f_A_law_1260 Ln xs9 k23 v4 u82
theorem t_A_law_730 {X : jX} {Qf : Int × Wd → State → Prop} {ad : Nat → Nat} {sbI : Int} {Ln : Nat} {xs9 : Nat → Int32} (C : Cx X code "EachBringsAnotherLaw") (hn : xn X = 7) (hX : LX X sbI Ln xs9) (hr : RtL X Qf ad code) (hst : (xl X).stackTraces = false) (hZ : ZX (xA X) (xs X)) (hSX : SX (xs X)) {f k n : Nat} (hB : LB X (f + 1) k n) {k23 : Int → Wd → Option (Int × Wd)} (hk23 : ∀ (k n : Nat) (v4 : Int) (w : Wd), LB X f k n → VF X Qf ad NF k n w 23 [(0, (3, sbI)), (1, (2, 1)), (2, (2, 44)), (3, (2, 83)), (4, (0, v4))] [] (k23 v4 w)) (v4 : Int) (w : Wd) : VF X Qf ad NF k n w 730 [(0, (3, sbI)), (1, (2, 1)), (2, (2, 44)), (3, (2, 83)), (4, (0, v4))] [] (f_A_law_730 Ln xs9 k23 v4 w) := by
  have hb := hB.s
  have hb1 := hB.t
  unfold f_A_law_730
  refine vf_aload_n C (f := 1) (zdg dz_A_law_15 3 rfl) 1 rfl rfl ?_
  refine vf_aload3_n C (f := 0) (zdg dz_A_law_15 4 rfl) 0 rfl rfl ?_
  refine vf_iload C (zdg dz_A_law_15 5 rfl) 4 rfl ?_
  refine vf_iconst C (z := 1) (zdg dz_A_law_15 6 rfl) (jz rfl) ?_
  refine vf_iadd C (zdg dz_A_law_15 7 rfl) ?_
  refine vf_xld C hX (zdg dz_A_law_15 8 rfl) ?_
  refine vf_callVi C cy_E_reach ml_A_106 rfl (ct_E_reach _ _) (S := []) sh_0 (by decide) rfl (lb_jrm hb rfl) rfl rfl (Nat.le_of_ble_eq_true rfl) (zdg dz_A_law_15 9 rfl) (fun r79 u80 => ?_)
  refine vf_pop C (zdg dz_A_law_15 10 rfl) Nat.zero_ne_one ?_
  refine vf_aload_n C (f := 2) (zdg dz_A_law_15 11 rfl) 2 rfl rfl ?_
  refine vf_aload3_n C (f := 0) (zdg dz_A_law_15 12 rfl) 0 rfl rfl ?_
  refine vf_iload C (zdg dz_A_law_15 13 rfl) 4 rfl ?_
  refine vf_iconst C (z := 1) (zdg dz_A_law_15 14 rfl) (jz rfl) ?_
  refine vf_iadd C (zdg dz_A_law_15 15 rfl) ?_
  refine vf_xld C hX (zdg dz_A_law_15 16 rfl) ?_
  refine vf_callVi C cy_R_reach ml_A_109 rfl (ct_R_reach _ _) (S := []) sh_43 (by decide) rfl (lb_jrm hb rfl) rfl rfl (Nat.le_of_ble_eq_true rfl) (zdg dz_A_law_15 17 rfl) (fun r81 u82 => ?_)
  refine vf_pop C (zdg dz_A_law_15 18 rfl) Nat.zero_ne_one ?_
  refine vf_goto C (off := 508) (tgt := 1260) (zdg dz_A_law_15 19 rfl) (by decide) ?_
  exact t_A_law_1260 C hn hX hr hst hZ hSX hb hk23 _ _
def f_A_law_755 (Ln : Nat) (xs9 : Nat → Int32) (k23 : Int → Wd → Option (Int × Wd)) (v4 : Int) (w : Wd) : Option (Int × Wd) :=
  jgd ((0 : Int) ≤ (w32 (v4 + 1)) ∧ (w32 (v4 + 1)) < (Ln : Int)) <|
  jcall (f_E_fewest ((xs9 (w32 (v4 + 1)).toNat).toInt) w) fun r83 u84 =>
  jgd ((0 : Int) ≤ (w32 (v4 + 1)) ∧ (w32 (v4 + 1)) < (Ln : Int)) <|
  jcall (f_R_fewest ((xs9 (w32 (v4 + 1)).toNat).toInt) u84) fun r85 u86 =>
  f_A_law_1260 Ln xs9 k23 v4 u86
theorem t_A_law_755 {X : jX} {Qf : Int × Wd → State → Prop} {ad : Nat → Nat} {sbI : Int} {Ln : Nat} {xs9 : Nat → Int32} (C : Cx X code "EachBringsAnotherLaw") (hn : xn X = 7) (hX : LX X sbI Ln xs9) (hr : RtL X Qf ad code) (hst : (xl X).stackTraces = false) (hZ : ZX (xA X) (xs X)) (hSX : SX (xs X)) {f k n : Nat} (hB : LB X (f + 1) k n) {k23 : Int → Wd → Option (Int × Wd)} (hk23 : ∀ (k n : Nat) (v4 : Int) (w : Wd), LB X f k n → VF X Qf ad NF k n w 23 [(0, (3, sbI)), (1, (2, 1)), (2, (2, 44)), (3, (2, 83)), (4, (0, v4))] [] (k23 v4 w)) (v4 : Int) (w : Wd) : VF X Qf ad NF k n w 755 [(0, (3, sbI)), (1, (2, 1)), (2, (2, 44)), (3, (2, 83)), (4, (0, v4))] [] (f_A_law_755 Ln xs9 k23 v4 w) := by
  have hb := hB.s
  have hb1 := hB.t
  unfold f_A_law_755
  refine vf_aload_n C (f := 1) (zdg dz_A_law_15 20 rfl) 1 rfl rfl ?_
  refine vf_aload3_n C (f := 0) (zdg dz_A_law_15 21 rfl) 0 rfl rfl ?_
  refine vf_iload C (zdg dz_A_law_15 22 rfl) 4 rfl ?_
  refine vf_iconst C (z := 1) (zdg dz_A_law_15 23 rfl) (jz rfl) ?_
  refine vf_iadd C (zdg dz_A_law_16 0 rfl) ?_
  refine vf_xld C hX (zdg dz_A_law_16 1 rfl) ?_
  refine vf_callVi C cy_E_fewest ml_A_110 rfl (ct_E_fewest _ _) (S := []) sh_0 (by decide) rfl (lb_jrm hb rfl) rfl rfl (Nat.le_of_ble_eq_true rfl) (zdg dz_A_law_16 2 rfl) (fun r83 u84 => ?_)
  refine vf_pop C (zdg dz_A_law_16 3 rfl) Nat.zero_ne_one ?_
  refine vf_aload_n C (f := 2) (zdg dz_A_law_16 4 rfl) 2 rfl rfl ?_
  refine vf_aload3_n C (f := 0) (zdg dz_A_law_16 5 rfl) 0 rfl rfl ?_
  refine vf_iload C (zdg dz_A_law_16 6 rfl) 4 rfl ?_
  refine vf_iconst C (z := 1) (zdg dz_A_law_16 7 rfl) (jz rfl) ?_
  refine vf_iadd C (zdg dz_A_law_16 8 rfl) ?_
  refine vf_xld C hX (zdg dz_A_law_16 9 rfl) ?_
  refine vf_callVi C cy_R_fewest ml_A_113 rfl (ct_R_fewest _ _) (S := []) sh_43 (by decide) rfl (lb_jrm hb rfl) rfl rfl (Nat.le_of_ble_eq_true rfl) (zdg dz_A_law_16 10 rfl) (fun r85 u86 => ?_)
  refine vf_pop C (zdg dz_A_law_16 11 rfl) Nat.zero_ne_one ?_
  refine vf_goto C (off := 483) (tgt := 1260) (zdg dz_A_law_16 12 rfl) (by decide) ?_
  exact t_A_law_1260 C hn hX hr hst hZ hSX hb hk23 _ _
def f_A_law_780 (Ln : Nat) (xs9 : Nat → Int32) (k23 : Int → Wd → Option (Int × Wd)) (v4 : Int) (w : Wd) : Option (Int × Wd) :=
  jcall (f_E_crowd w) fun r87 u88 =>
  jcall (f_R_crowd u88) fun r89 u90 =>
  f_A_law_1260 Ln xs9 k23 v4 u90
theorem t_A_law_780 {X : jX} {Qf : Int × Wd → State → Prop} {ad : Nat → Nat} {sbI : Int} {Ln : Nat} {xs9 : Nat → Int32} (C : Cx X code "EachBringsAnotherLaw") (hn : xn X = 7) (hX : LX X sbI Ln xs9) (hr : RtL X Qf ad code) (hst : (xl X).stackTraces = false) (hZ : ZX (xA X) (xs X)) (hSX : SX (xs X)) {f k n : Nat} (hB : LB X (f + 1) k n) {k23 : Int → Wd → Option (Int × Wd)} (hk23 : ∀ (k n : Nat) (v4 : Int) (w : Wd), LB X f k n → VF X Qf ad NF k n w 23 [(0, (3, sbI)), (1, (2, 1)), (2, (2, 44)), (3, (2, 83)), (4, (0, v4))] [] (k23 v4 w)) (v4 : Int) (w : Wd) : VF X Qf ad NF k n w 780 [(0, (3, sbI)), (1, (2, 1)), (2, (2, 44)), (3, (2, 83)), (4, (0, v4))] [] (f_A_law_780 Ln xs9 k23 v4 w) := by
  have hb := hB.s
  have hb1 := hB.t
  unfold f_A_law_780
  refine vf_aload_n C (f := 1) (zdg dz_A_law_16 13 rfl) 1 rfl rfl ?_
  refine vf_callVi C cy_E_crowd ml_A_114 rfl (ct_E_crowd _) (S := []) sh_0 (by decide) rfl (lb_jrm hb rfl) rfl rfl (Nat.le_of_ble_eq_true rfl) (zdg dz_A_law_16 14 rfl) (fun r87 u88 => ?_)
  refine vf_pop C (zdg dz_A_law_16 15 rfl) Nat.zero_ne_one ?_
  refine vf_aload_n C (f := 2) (zdg dz_A_law_16 16 rfl) 2 rfl rfl ?_
  refine vf_callVi C cy_R_crowd ml_A_117 rfl (ct_R_crowd _) (S := []) sh_43 (by decide) rfl (lb_jrm hb rfl) rfl rfl (Nat.le_of_ble_eq_true rfl) (zdg dz_A_law_16 17 rfl) (fun r89 u90 => ?_)
  refine vf_pop C (zdg dz_A_law_16 18 rfl) Nat.zero_ne_one ?_
  refine vf_goto C (off := 470) (tgt := 1260) (zdg dz_A_law_16 19 rfl) (by decide) ?_
  exact t_A_law_1260 C hn hX hr hst hZ hSX hb hk23 _ _
def f_A_law_793 (Ln : Nat) (xs9 : Nat → Int32) (k23 : Int → Wd → Option (Int × Wd)) (v4 : Int) (w : Wd) : Option (Int × Wd) :=
  jgd ((0 : Int) ≤ (w32 (v4 + 1)) ∧ (w32 (v4 + 1)) < (Ln : Int)) <|
  jgd ((0 : Int) ≤ (w32 (v4 + 2)) ∧ (w32 (v4 + 2)) < (Ln : Int)) <|
  jgd ((0 : Int) ≤ (w32 (v4 + 3)) ∧ (w32 (v4 + 3)) < (Ln : Int)) <|
  jcall (f_E_both ((xs9 (w32 (v4 + 1)).toNat).toInt) ((xs9 (w32 (v4 + 2)).toNat).toInt) ((xs9 (w32 (v4 + 3)).toNat).toInt) w) fun r91 u92 =>
  jgd ((0 : Int) ≤ (w32 (v4 + 1)) ∧ (w32 (v4 + 1)) < (Ln : Int)) <|
  jgd ((0 : Int) ≤ (w32 (v4 + 2)) ∧ (w32 (v4 + 2)) < (Ln : Int)) <|
  jgd ((0 : Int) ≤ (w32 (v4 + 3)) ∧ (w32 (v4 + 3)) < (Ln : Int)) <|
  jcall (f_R_both ((xs9 (w32 (v4 + 1)).toNat).toInt) ((xs9 (w32 (v4 + 2)).toNat).toInt) ((xs9 (w32 (v4 + 3)).toNat).toInt) u92) fun r93 u94 =>
  f_A_law_1260 Ln xs9 k23 v4 u94
theorem t_A_law_793 {X : jX} {Qf : Int × Wd → State → Prop} {ad : Nat → Nat} {sbI : Int} {Ln : Nat} {xs9 : Nat → Int32} (C : Cx X code "EachBringsAnotherLaw") (hn : xn X = 7) (hX : LX X sbI Ln xs9) (hr : RtL X Qf ad code) (hst : (xl X).stackTraces = false) (hZ : ZX (xA X) (xs X)) (hSX : SX (xs X)) {f k n : Nat} (hB : LB X (f + 1) k n) {k23 : Int → Wd → Option (Int × Wd)} (hk23 : ∀ (k n : Nat) (v4 : Int) (w : Wd), LB X f k n → VF X Qf ad NF k n w 23 [(0, (3, sbI)), (1, (2, 1)), (2, (2, 44)), (3, (2, 83)), (4, (0, v4))] [] (k23 v4 w)) (v4 : Int) (w : Wd) : VF X Qf ad NF k n w 793 [(0, (3, sbI)), (1, (2, 1)), (2, (2, 44)), (3, (2, 83)), (4, (0, v4))] [] (f_A_law_793 Ln xs9 k23 v4 w) := by
  have hb := hB.s
  have hb1 := hB.t
  unfold f_A_law_793
  refine vf_aload_n C (f := 1) (zdg dz_A_law_16 20 rfl) 1 rfl rfl ?_
  refine vf_aload3_n C (f := 0) (zdg dz_A_law_16 21 rfl) 0 rfl rfl ?_
  refine vf_iload C (zdg dz_A_law_16 22 rfl) 4 rfl ?_
  refine vf_iconst C (z := 1) (zdg dz_A_law_16 23 rfl) (jz rfl) ?_
  refine vf_iadd C (zdg dz_A_law_17 0 rfl) ?_
  refine vf_xld C hX (zdg dz_A_law_17 1 rfl) ?_
  refine vf_aload3_n C (f := 0) (zdg dz_A_law_17 2 rfl) 0 rfl rfl ?_
  refine vf_iload C (zdg dz_A_law_17 3 rfl) 4 rfl ?_
  refine vf_iconst C (z := 2) (zdg dz_A_law_17 4 rfl) (jz rfl) ?_
  refine vf_iadd C (zdg dz_A_law_17 5 rfl) ?_
  refine vf_xld C hX (zdg dz_A_law_17 6 rfl) ?_
  refine vf_aload3_n C (f := 0) (zdg dz_A_law_17 7 rfl) 0 rfl rfl ?_
  refine vf_iload C (zdg dz_A_law_17 8 rfl) 4 rfl ?_
  refine vf_iconst C (z := 3) (zdg dz_A_law_17 9 rfl) (jz rfl) ?_
  refine vf_iadd C (zdg dz_A_law_17 10 rfl) ?_
  refine vf_xld C hX (zdg dz_A_law_17 11 rfl) ?_
  refine vf_callVi C cy_E_both ml_A_118 rfl (ct_E_both _ _ _ _) (S := []) sh_0 (by decide) rfl (lb_jrm hb rfl) rfl rfl (Nat.le_of_ble_eq_true rfl) (zdg dz_A_law_17 12 rfl) (fun r91 u92 => ?_)
  refine vf_pop C (zdg dz_A_law_17 13 rfl) Nat.zero_ne_one ?_
  refine vf_aload_n C (f := 2) (zdg dz_A_law_17 14 rfl) 2 rfl rfl ?_
  refine vf_aload3_n C (f := 0) (zdg dz_A_law_17 15 rfl) 0 rfl rfl ?_
  refine vf_iload C (zdg dz_A_law_17 16 rfl) 4 rfl ?_
  refine vf_iconst C (z := 1) (zdg dz_A_law_17 17 rfl) (jz rfl) ?_
  refine vf_iadd C (zdg dz_A_law_17 18 rfl) ?_
  refine vf_xld C hX (zdg dz_A_law_17 19 rfl) ?_
  refine vf_aload3_n C (f := 0) (zdg dz_A_law_17 20 rfl) 0 rfl rfl ?_
  refine vf_iload C (zdg dz_A_law_17 21 rfl) 4 rfl ?_
  refine vf_iconst C (z := 2) (zdg dz_A_law_17 22 rfl) (jz rfl) ?_
  refine vf_iadd C (zdg dz_A_law_17 23 rfl) ?_
  refine vf_xld C hX (zdg dz_A_law_18 0 rfl) ?_
  refine vf_aload3_n C (f := 0) (zdg dz_A_law_18 1 rfl) 0 rfl rfl ?_
  refine vf_iload C (zdg dz_A_law_18 2 rfl) 4 rfl ?_
  refine vf_iconst C (z := 3) (zdg dz_A_law_18 3 rfl) (jz rfl) ?_
  refine vf_iadd C (zdg dz_A_law_18 4 rfl) ?_
  refine vf_xld C hX (zdg dz_A_law_18 5 rfl) ?_
  refine vf_callVi C cy_R_both ml_A_122 rfl (ct_R_both _ _ _ _) (S := []) sh_43 (by decide) rfl (lb_jrm hb rfl) rfl rfl (Nat.le_of_ble_eq_true rfl) (zdg dz_A_law_18 6 rfl) (fun r93 u94 => ?_)
  refine vf_pop C (zdg dz_A_law_18 7 rfl) Nat.zero_ne_one ?_
  refine vf_goto C (off := 421) (tgt := 1260) (zdg dz_A_law_18 8 rfl) (by decide) ?_
  exact t_A_law_1260 C hn hX hr hst hZ hSX hb hk23 _ _
def f_A_law_842 (Ln : Nat) (xs9 : Nat → Int32) (k23 : Int → Wd → Option (Int × Wd)) (v4 : Int) (w : Wd) : Option (Int × Wd) :=
  jcall (f_E_last w) fun r95 u96 =>
  jcall (f_R_last u96) fun r97 u98 =>
  f_A_law_1260 Ln xs9 k23 v4 u98
theorem t_A_law_842 {X : jX} {Qf : Int × Wd → State → Prop} {ad : Nat → Nat} {sbI : Int} {Ln : Nat} {xs9 : Nat → Int32} (C : Cx X code "EachBringsAnotherLaw") (hn : xn X = 7) (hX : LX X sbI Ln xs9) (hr : RtL X Qf ad code) (hst : (xl X).stackTraces = false) (hZ : ZX (xA X) (xs X)) (hSX : SX (xs X)) {f k n : Nat} (hB : LB X (f + 1) k n) {k23 : Int → Wd → Option (Int × Wd)} (hk23 : ∀ (k n : Nat) (v4 : Int) (w : Wd), LB X f k n → VF X Qf ad NF k n w 23 [(0, (3, sbI)), (1, (2, 1)), (2, (2, 44)), (3, (2, 83)), (4, (0, v4))] [] (k23 v4 w)) (v4 : Int) (w : Wd) : VF X Qf ad NF k n w 842 [(0, (3, sbI)), (1, (2, 1)), (2, (2, 44)), (3, (2, 83)), (4, (0, v4))] [] (f_A_law_842 Ln xs9 k23 v4 w) := by
  have hb := hB.s
  have hb1 := hB.t
  unfold f_A_law_842
  refine vf_aload_n C (f := 1) (zdg dz_A_law_18 9 rfl) 1 rfl rfl ?_
  refine vf_callVi C cy_E_last ml_A_123 rfl (ct_E_last _) (S := []) sh_0 (by decide) rfl (lb_jrm hb rfl) rfl rfl (Nat.le_of_ble_eq_true rfl) (zdg dz_A_law_18 10 rfl) (fun r95 u96 => ?_)
  refine vf_pop C (zdg dz_A_law_18 11 rfl) Nat.zero_ne_one ?_
  refine vf_aload_n C (f := 2) (zdg dz_A_law_18 12 rfl) 2 rfl rfl ?_
  refine vf_callVi C cy_R_last ml_A_126 rfl (ct_R_last _) (S := []) sh_43 (by decide) rfl (lb_jrm hb rfl) rfl rfl (Nat.le_of_ble_eq_true rfl) (zdg dz_A_law_18 13 rfl) (fun r97 u98 => ?_)
  refine vf_pop C (zdg dz_A_law_18 14 rfl) Nat.zero_ne_one ?_
  refine vf_goto C (off := 408) (tgt := 1260) (zdg dz_A_law_18 15 rfl) (by decide) ?_
  exact t_A_law_1260 C hn hX hr hst hZ hSX hb hk23 _ _
def f_A_law_855 (Ln : Nat) (xs9 : Nat → Int32) (k23 : Int → Wd → Option (Int × Wd)) (v4 : Int) (w : Wd) : Option (Int × Wd) :=
  jcall (f_E_begin w) fun r99 u100 =>
  jcall (f_R_begin2 u100) fun r101 u102 =>
  f_A_law_1260 Ln xs9 k23 v4 u102
theorem t_A_law_855 {X : jX} {Qf : Int × Wd → State → Prop} {ad : Nat → Nat} {sbI : Int} {Ln : Nat} {xs9 : Nat → Int32} (C : Cx X code "EachBringsAnotherLaw") (hn : xn X = 7) (hX : LX X sbI Ln xs9) (hr : RtL X Qf ad code) (hst : (xl X).stackTraces = false) (hZ : ZX (xA X) (xs X)) (hSX : SX (xs X)) {f k n : Nat} (hB : LB X (f + 1) k n) {k23 : Int → Wd → Option (Int × Wd)} (hk23 : ∀ (k n : Nat) (v4 : Int) (w : Wd), LB X f k n → VF X Qf ad NF k n w 23 [(0, (3, sbI)), (1, (2, 1)), (2, (2, 44)), (3, (2, 83)), (4, (0, v4))] [] (k23 v4 w)) (v4 : Int) (w : Wd) : VF X Qf ad NF k n w 855 [(0, (3, sbI)), (1, (2, 1)), (2, (2, 44)), (3, (2, 83)), (4, (0, v4))] [] (f_A_law_855 Ln xs9 k23 v4 w) := by
  have hb := hB.s
  have hb1 := hB.t
  unfold f_A_law_855
  refine vf_aload_n C (f := 1) (zdg dz_A_law_18 16 rfl) 1 rfl rfl ?_
  refine vf_callVi C cy_E_begin ml_A_127 rfl (ct_E_begin _) (S := []) sh_0 (by decide) rfl (lb_jrm hb rfl) rfl rfl (Nat.le_of_ble_eq_true rfl) (zdg dz_A_law_18 17 rfl) (fun r99 u100 => ?_)
  refine vf_pop C (zdg dz_A_law_18 18 rfl) Nat.zero_ne_one ?_
  refine vf_aload_n C (f := 2) (zdg dz_A_law_18 19 rfl) 2 rfl rfl ?_
  refine vf_callVi C cy_R_begin2 ml_A_130 rfl (ct_R_begin2 _) (S := []) sh_43 (by decide) rfl (lb_jrm hb rfl) rfl rfl (Nat.le_of_ble_eq_true rfl) (zdg dz_A_law_18 20 rfl) (fun r101 u102 => ?_)
  refine vf_pop C (zdg dz_A_law_18 21 rfl) Nat.zero_ne_one ?_
  refine vf_goto C (off := 395) (tgt := 1260) (zdg dz_A_law_18 22 rfl) (by decide) ?_
  exact t_A_law_1260 C hn hX hr hst hZ hSX hb hk23 _ _
def f_A_law_868 (Ln : Nat) (xs9 : Nat → Int32) (k23 : Int → Wd → Option (Int × Wd)) (v4 : Int) (w : Wd) : Option (Int × Wd) :=
  jgd ((0 : Int) ≤ (w32 (v4 + 1)) ∧ (w32 (v4 + 1)) < (Ln : Int)) <|
  jcall (f_E_cheap ((xs9 (w32 (v4 + 1)).toNat).toInt) w) fun r103 u104 =>
  jgd ((0 : Int) ≤ (w32 (v4 + 1)) ∧ (w32 (v4 + 1)) < (Ln : Int)) <|
  jcall (f_R_cheap ((xs9 (w32 (v4 + 1)).toNat).toInt) u104) fun r105 u106 =>
  f_A_law_1260 Ln xs9 k23 v4 u106
theorem t_A_law_868 {X : jX} {Qf : Int × Wd → State → Prop} {ad : Nat → Nat} {sbI : Int} {Ln : Nat} {xs9 : Nat → Int32} (C : Cx X code "EachBringsAnotherLaw") (hn : xn X = 7) (hX : LX X sbI Ln xs9) (hr : RtL X Qf ad code) (hst : (xl X).stackTraces = false) (hZ : ZX (xA X) (xs X)) (hSX : SX (xs X)) {f k n : Nat} (hB : LB X (f + 1) k n) {k23 : Int → Wd → Option (Int × Wd)} (hk23 : ∀ (k n : Nat) (v4 : Int) (w : Wd), LB X f k n → VF X Qf ad NF k n w 23 [(0, (3, sbI)), (1, (2, 1)), (2, (2, 44)), (3, (2, 83)), (4, (0, v4))] [] (k23 v4 w)) (v4 : Int) (w : Wd) : VF X Qf ad NF k n w 868 [(0, (3, sbI)), (1, (2, 1)), (2, (2, 44)), (3, (2, 83)), (4, (0, v4))] [] (f_A_law_868 Ln xs9 k23 v4 w) := by
  have hb := hB.s
  have hb1 := hB.t
  unfold f_A_law_868
  refine vf_aload_n C (f := 1) (zdg dz_A_law_18 23 rfl) 1 rfl rfl ?_
  refine vf_aload3_n C (f := 0) (zdg dz_A_law_19 0 rfl) 0 rfl rfl ?_
  refine vf_iload C (zdg dz_A_law_19 1 rfl) 4 rfl ?_
  refine vf_iconst C (z := 1) (zdg dz_A_law_19 2 rfl) (jz rfl) ?_
  refine vf_iadd C (zdg dz_A_law_19 3 rfl) ?_
  refine vf_xld C hX (zdg dz_A_law_19 4 rfl) ?_
  refine vf_callVi C cy_E_cheap ml_A_131 rfl (ct_E_cheap _ _) (S := []) sh_0 (by decide) rfl (lb_jrm hb rfl) rfl rfl (Nat.le_of_ble_eq_true rfl) (zdg dz_A_law_19 5 rfl) (fun r103 u104 => ?_)
  refine vf_pop C (zdg dz_A_law_19 6 rfl) Nat.zero_ne_one ?_
  refine vf_aload_n C (f := 2) (zdg dz_A_law_19 7 rfl) 2 rfl rfl ?_
  refine vf_aload3_n C (f := 0) (zdg dz_A_law_19 8 rfl) 0 rfl rfl ?_
  refine vf_iload C (zdg dz_A_law_19 9 rfl) 4 rfl ?_
  refine vf_iconst C (z := 1) (zdg dz_A_law_19 10 rfl) (jz rfl) ?_
  refine vf_iadd C (zdg dz_A_law_19 11 rfl) ?_
  refine vf_xld C hX (zdg dz_A_law_19 12 rfl) ?_
  refine vf_callVi C cy_R_cheap ml_A_134 rfl (ct_R_cheap _ _) (S := []) sh_43 (by decide) rfl (lb_jrm hb rfl) rfl rfl (Nat.le_of_ble_eq_true rfl) (zdg dz_A_law_19 13 rfl) (fun r105 u106 => ?_)
  refine vf_pop C (zdg dz_A_law_19 14 rfl) Nat.zero_ne_one ?_
  refine vf_goto C (off := 370) (tgt := 1260) (zdg dz_A_law_19 15 rfl) (by decide) ?_
  exact t_A_law_1260 C hn hX hr hst hZ hSX hb hk23 _ _
def f_A_law_893 (Ln : Nat) (xs9 : Nat → Int32) (k23 : Int → Wd → Option (Int × Wd)) (v4 : Int) (w : Wd) : Option (Int × Wd) :=
  jgd ((0 : Int) ≤ (w32 (v4 + 1)) ∧ (w32 (v4 + 1)) < (Ln : Int)) <|
  jcall (f_E_stays ((xs9 (w32 (v4 + 1)).toNat).toInt) w) fun r107 u108 =>
  jgd ((0 : Int) ≤ (w32 (v4 + 1)) ∧ (w32 (v4 + 1)) < (Ln : Int)) <|
  jcall (f_R_stays ((xs9 (w32 (v4 + 1)).toNat).toInt) u108) fun r109 u110 =>
  f_A_law_1260 Ln xs9 k23 v4 u110
theorem t_A_law_893 {X : jX} {Qf : Int × Wd → State → Prop} {ad : Nat → Nat} {sbI : Int} {Ln : Nat} {xs9 : Nat → Int32} (C : Cx X code "EachBringsAnotherLaw") (hn : xn X = 7) (hX : LX X sbI Ln xs9) (hr : RtL X Qf ad code) (hst : (xl X).stackTraces = false) (hZ : ZX (xA X) (xs X)) (hSX : SX (xs X)) {f k n : Nat} (hB : LB X (f + 1) k n) {k23 : Int → Wd → Option (Int × Wd)} (hk23 : ∀ (k n : Nat) (v4 : Int) (w : Wd), LB X f k n → VF X Qf ad NF k n w 23 [(0, (3, sbI)), (1, (2, 1)), (2, (2, 44)), (3, (2, 83)), (4, (0, v4))] [] (k23 v4 w)) (v4 : Int) (w : Wd) : VF X Qf ad NF k n w 893 [(0, (3, sbI)), (1, (2, 1)), (2, (2, 44)), (3, (2, 83)), (4, (0, v4))] [] (f_A_law_893 Ln xs9 k23 v4 w) := by
  have hb := hB.s
  have hb1 := hB.t
  unfold f_A_law_893
  refine vf_aload_n C (f := 1) (zdg dz_A_law_19 16 rfl) 1 rfl rfl ?_
  refine vf_aload3_n C (f := 0) (zdg dz_A_law_19 17 rfl) 0 rfl rfl ?_
  refine vf_iload C (zdg dz_A_law_19 18 rfl) 4 rfl ?_
  refine vf_iconst C (z := 1) (zdg dz_A_law_19 19 rfl) (jz rfl) ?_
  refine vf_iadd C (zdg dz_A_law_19 20 rfl) ?_
  refine vf_xld C hX (zdg dz_A_law_19 21 rfl) ?_
  refine vf_callVi C cy_E_stays ml_A_135 rfl (ct_E_stays _ _) (S := []) sh_0 (by decide) rfl (lb_jrm hb rfl) rfl rfl (Nat.le_of_ble_eq_true rfl) (zdg dz_A_law_19 22 rfl) (fun r107 u108 => ?_)
  refine vf_pop C (zdg dz_A_law_19 23 rfl) Nat.zero_ne_one ?_
  refine vf_aload_n C (f := 2) (zdg dz_A_law_20 0 rfl) 2 rfl rfl ?_
  refine vf_aload3_n C (f := 0) (zdg dz_A_law_20 1 rfl) 0 rfl rfl ?_
  refine vf_iload C (zdg dz_A_law_20 2 rfl) 4 rfl ?_
  refine vf_iconst C (z := 1) (zdg dz_A_law_20 3 rfl) (jz rfl) ?_
  refine vf_iadd C (zdg dz_A_law_20 4 rfl) ?_
  refine vf_xld C hX (zdg dz_A_law_20 5 rfl) ?_
  refine vf_callVi C cy_R_stays ml_A_138 rfl (ct_R_stays _ _) (S := []) sh_43 (by decide) rfl (lb_jrm hb rfl) rfl rfl (Nat.le_of_ble_eq_true rfl) (zdg dz_A_law_20 6 rfl) (fun r109 u110 => ?_)
  refine vf_pop C (zdg dz_A_law_20 7 rfl) Nat.zero_ne_one ?_
  refine vf_goto C (off := 345) (tgt := 1260) (zdg dz_A_law_20 8 rfl) (by decide) ?_
  exact t_A_law_1260 C hn hX hr hst hZ hSX hb hk23 _ _
def f_A_law_918 (Ln : Nat) (xs9 : Nat → Int32) (k23 : Int → Wd → Option (Int × Wd)) (v4 : Int) (w : Wd) : Option (Int × Wd) :=
  jgd ((0 : Int) ≤ (w32 (v4 + 1)) ∧ (w32 (v4 + 1)) < (Ln : Int)) <|
  jcall (f_E_soonest ((xs9 (w32 (v4 + 1)).toNat).toInt) w) fun r111 u112 =>
  jgd ((0 : Int) ≤ (w32 (v4 + 1)) ∧ (w32 (v4 + 1)) < (Ln : Int)) <|
  jcall (f_R_soonest ((xs9 (w32 (v4 + 1)).toNat).toInt) u112) fun r113 u114 =>
  f_A_law_1260 Ln xs9 k23 v4 u114
theorem t_A_law_918 {X : jX} {Qf : Int × Wd → State → Prop} {ad : Nat → Nat} {sbI : Int} {Ln : Nat} {xs9 : Nat → Int32} (C : Cx X code "EachBringsAnotherLaw") (hn : xn X = 7) (hX : LX X sbI Ln xs9) (hr : RtL X Qf ad code) (hst : (xl X).stackTraces = false) (hZ : ZX (xA X) (xs X)) (hSX : SX (xs X)) {f k n : Nat} (hB : LB X (f + 1) k n) {k23 : Int → Wd → Option (Int × Wd)} (hk23 : ∀ (k n : Nat) (v4 : Int) (w : Wd), LB X f k n → VF X Qf ad NF k n w 23 [(0, (3, sbI)), (1, (2, 1)), (2, (2, 44)), (3, (2, 83)), (4, (0, v4))] [] (k23 v4 w)) (v4 : Int) (w : Wd) : VF X Qf ad NF k n w 918 [(0, (3, sbI)), (1, (2, 1)), (2, (2, 44)), (3, (2, 83)), (4, (0, v4))] [] (f_A_law_918 Ln xs9 k23 v4 w) := by
  have hb := hB.s
  have hb1 := hB.t
  unfold f_A_law_918
  refine vf_aload_n C (f := 1) (zdg dz_A_law_20 9 rfl) 1 rfl rfl ?_
  refine vf_aload3_n C (f := 0) (zdg dz_A_law_20 10 rfl) 0 rfl rfl ?_
  refine vf_iload C (zdg dz_A_law_20 11 rfl) 4 rfl ?_
  refine vf_iconst C (z := 1) (zdg dz_A_law_20 12 rfl) (jz rfl) ?_
  refine vf_iadd C (zdg dz_A_law_20 13 rfl) ?_
  refine vf_xld C hX (zdg dz_A_law_20 14 rfl) ?_
  refine vf_callVi C cy_E_soonest ml_A_139 rfl (ct_E_soonest _ _) (S := []) sh_0 (by decide) rfl (lb_jrm hb rfl) rfl rfl (Nat.le_of_ble_eq_true rfl) (zdg dz_A_law_20 15 rfl) (fun r111 u112 => ?_)
  refine vf_pop C (zdg dz_A_law_20 16 rfl) Nat.zero_ne_one ?_
  refine vf_aload_n C (f := 2) (zdg dz_A_law_20 17 rfl) 2 rfl rfl ?_
  refine vf_aload3_n C (f := 0) (zdg dz_A_law_20 18 rfl) 0 rfl rfl ?_
  refine vf_iload C (zdg dz_A_law_20 19 rfl) 4 rfl ?_
  refine vf_iconst C (z := 1) (zdg dz_A_law_20 20 rfl) (jz rfl) ?_
  refine vf_iadd C (zdg dz_A_law_20 21 rfl) ?_
  refine vf_xld C hX (zdg dz_A_law_20 22 rfl) ?_
  refine vf_callVi C cy_R_soonest ml_A_142 rfl (ct_R_soonest _ _) (S := []) sh_43 (by decide) rfl (lb_jrm hb rfl) rfl rfl (Nat.le_of_ble_eq_true rfl) (zdg dz_A_law_20 23 rfl) (fun r113 u114 => ?_)
  refine vf_pop C (zdg dz_A_law_21 0 rfl) Nat.zero_ne_one ?_
  refine vf_goto C (off := 320) (tgt := 1260) (zdg dz_A_law_21 1 rfl) (by decide) ?_
  exact t_A_law_1260 C hn hX hr hst hZ hSX hb hk23 _ _
def f_A_law_943 (Ln : Nat) (xs9 : Nat → Int32) (k23 : Int → Wd → Option (Int × Wd)) (v4 : Int) (w : Wd) : Option (Int × Wd) :=
  jgd ((0 : Int) ≤ (w32 (v4 + 1)) ∧ (w32 (v4 + 1)) < (Ln : Int)) <|
  jcall (f_E_worth ((xs9 (w32 (v4 + 1)).toNat).toInt) w) fun r115 u116 =>
  jgd ((0 : Int) ≤ (w32 (v4 + 1)) ∧ (w32 (v4 + 1)) < (Ln : Int)) <|
  jcall (f_R_worth ((xs9 (w32 (v4 + 1)).toNat).toInt) u116) fun r117 u118 =>
  f_A_law_1260 Ln xs9 k23 v4 u118
theorem t_A_law_943 {X : jX} {Qf : Int × Wd → State → Prop} {ad : Nat → Nat} {sbI : Int} {Ln : Nat} {xs9 : Nat → Int32} (C : Cx X code "EachBringsAnotherLaw") (hn : xn X = 7) (hX : LX X sbI Ln xs9) (hr : RtL X Qf ad code) (hst : (xl X).stackTraces = false) (hZ : ZX (xA X) (xs X)) (hSX : SX (xs X)) {f k n : Nat} (hB : LB X (f + 1) k n) {k23 : Int → Wd → Option (Int × Wd)} (hk23 : ∀ (k n : Nat) (v4 : Int) (w : Wd), LB X f k n → VF X Qf ad NF k n w 23 [(0, (3, sbI)), (1, (2, 1)), (2, (2, 44)), (3, (2, 83)), (4, (0, v4))] [] (k23 v4 w)) (v4 : Int) (w : Wd) : VF X Qf ad NF k n w 943 [(0, (3, sbI)), (1, (2, 1)), (2, (2, 44)), (3, (2, 83)), (4, (0, v4))] [] (f_A_law_943 Ln xs9 k23 v4 w) := by
  have hb := hB.s
  have hb1 := hB.t
  unfold f_A_law_943
  refine vf_aload_n C (f := 1) (zdg dz_A_law_21 2 rfl) 1 rfl rfl ?_
  refine vf_aload3_n C (f := 0) (zdg dz_A_law_21 3 rfl) 0 rfl rfl ?_
  refine vf_iload C (zdg dz_A_law_21 4 rfl) 4 rfl ?_
  refine vf_iconst C (z := 1) (zdg dz_A_law_21 5 rfl) (jz rfl) ?_
  refine vf_iadd C (zdg dz_A_law_21 6 rfl) ?_
  refine vf_xld C hX (zdg dz_A_law_21 7 rfl) ?_
  refine vf_callVi C cy_E_worth ml_A_143 rfl (ct_E_worth _ _) (S := []) sh_0 (by decide) rfl (lb_jrm hb rfl) rfl rfl (Nat.le_of_ble_eq_true rfl) (zdg dz_A_law_21 8 rfl) (fun r115 u116 => ?_)
  refine vf_pop C (zdg dz_A_law_21 9 rfl) Nat.zero_ne_one ?_
  refine vf_aload_n C (f := 2) (zdg dz_A_law_21 10 rfl) 2 rfl rfl ?_
  refine vf_aload3_n C (f := 0) (zdg dz_A_law_21 11 rfl) 0 rfl rfl ?_
  refine vf_iload C (zdg dz_A_law_21 12 rfl) 4 rfl ?_
  refine vf_iconst C (z := 1) (zdg dz_A_law_21 13 rfl) (jz rfl) ?_
  refine vf_iadd C (zdg dz_A_law_21 14 rfl) ?_
  refine vf_xld C hX (zdg dz_A_law_21 15 rfl) ?_
  refine vf_callVi C cy_R_worth ml_A_146 rfl (ct_R_worth _ _) (S := []) sh_43 (by decide) rfl (lb_jrm hb rfl) rfl rfl (Nat.le_of_ble_eq_true rfl) (zdg dz_A_law_21 16 rfl) (fun r117 u118 => ?_)
  refine vf_pop C (zdg dz_A_law_21 17 rfl) Nat.zero_ne_one ?_
  refine vf_goto C (off := 295) (tgt := 1260) (zdg dz_A_law_21 18 rfl) (by decide) ?_
  exact t_A_law_1260 C hn hX hr hst hZ hSX hb hk23 _ _
end
section
def f_A_law_968 (Ln : Nat) (xs9 : Nat → Int32) (k23 : Int → Wd → Option (Int × Wd)) (v4 : Int) (w : Wd) : Option (Int × Wd) :=
  jcall (f_E_needed w) fun r119 u120 =>
  jcall (f_R_needed u120) fun r121 u122 =>
  f_A_law_1260 Ln xs9 k23 v4 u122
theorem t_A_law_968 {X : jX} {Qf : Int × Wd → State → Prop} {ad : Nat → Nat} {sbI : Int} {Ln : Nat} {xs9 : Nat → Int32} (C : Cx X code "EachBringsAnotherLaw") (hn : xn X = 7) (hX : LX X sbI Ln xs9) (hr : RtL X Qf ad code) (hst : (xl X).stackTraces = false) (hZ : ZX (xA X) (xs X)) (hSX : SX (xs X)) {f k n : Nat} (hB : LB X (f + 1) k n) {k23 : Int → Wd → Option (Int × Wd)} (hk23 : ∀ (k n : Nat) (v4 : Int) (w : Wd), LB X f k n → VF X Qf ad NF k n w 23 [(0, (3, sbI)), (1, (2, 1)), (2, (2, 44)), (3, (2, 83)), (4, (0, v4))] [] (k23 v4 w)) (v4 : Int) (w : Wd) : VF X Qf ad NF k n w 968 [(0, (3, sbI)), (1, (2, 1)), (2, (2, 44)), (3, (2, 83)), (4, (0, v4))] [] (f_A_law_968 Ln xs9 k23 v4 w) := by
  have hb := hB.s
  have hb1 := hB.t
  unfold f_A_law_968
  refine vf_aload_n C (f := 1) (zdg dz_A_law_21 19 rfl) 1 rfl rfl ?_
  refine vf_callVi C cy_E_needed ml_A_147 rfl (ct_E_needed _) (S := []) sh_0 (by decide) rfl (lb_jrm hb rfl) rfl rfl (Nat.le_of_ble_eq_true rfl) (zdg dz_A_law_21 20 rfl) (fun r119 u120 => ?_)
  refine vf_pop C (zdg dz_A_law_21 21 rfl) Nat.zero_ne_one ?_
  refine vf_aload_n C (f := 2) (zdg dz_A_law_21 22 rfl) 2 rfl rfl ?_
  refine vf_callVi C cy_R_needed ml_A_150 rfl (ct_R_needed _) (S := []) sh_43 (by decide) rfl (lb_jrm hb rfl) rfl rfl (Nat.le_of_ble_eq_true rfl) (zdg dz_A_law_21 23 rfl) (fun r121 u122 => ?_)
  refine vf_pop C (zdg dz_A_law_22 0 rfl) Nat.zero_ne_one ?_
  refine vf_goto C (off := 282) (tgt := 1260) (zdg dz_A_law_22 1 rfl) (by decide) ?_
  exact t_A_law_1260 C hn hX hr hst hZ hSX hb hk23 _ _
def f_A_law_981 (Ln : Nat) (xs9 : Nat → Int32) (k23 : Int → Wd → Option (Int × Wd)) (v4 : Int) (w : Wd) : Option (Int × Wd) :=
  jcall (f_E_never w) fun r123 u124 =>
  jcall (f_R_never u124) fun r125 u126 =>
  f_A_law_1260 Ln xs9 k23 v4 u126
theorem t_A_law_981 {X : jX} {Qf : Int × Wd → State → Prop} {ad : Nat → Nat} {sbI : Int} {Ln : Nat} {xs9 : Nat → Int32} (C : Cx X code "EachBringsAnotherLaw") (hn : xn X = 7) (hX : LX X sbI Ln xs9) (hr : RtL X Qf ad code) (hst : (xl X).stackTraces = false) (hZ : ZX (xA X) (xs X)) (hSX : SX (xs X)) {f k n : Nat} (hB : LB X (f + 1) k n) {k23 : Int → Wd → Option (Int × Wd)} (hk23 : ∀ (k n : Nat) (v4 : Int) (w : Wd), LB X f k n → VF X Qf ad NF k n w 23 [(0, (3, sbI)), (1, (2, 1)), (2, (2, 44)), (3, (2, 83)), (4, (0, v4))] [] (k23 v4 w)) (v4 : Int) (w : Wd) : VF X Qf ad NF k n w 981 [(0, (3, sbI)), (1, (2, 1)), (2, (2, 44)), (3, (2, 83)), (4, (0, v4))] [] (f_A_law_981 Ln xs9 k23 v4 w) := by
  have hb := hB.s
  have hb1 := hB.t
  unfold f_A_law_981
  refine vf_aload_n C (f := 1) (zdg dz_A_law_22 2 rfl) 1 rfl rfl ?_
  refine vf_callVi C cy_E_never ml_A_151 rfl (ct_E_never _) (S := []) sh_0 (by decide) rfl (lb_jrm hb rfl) rfl rfl (Nat.le_of_ble_eq_true rfl) (zdg dz_A_law_22 3 rfl) (fun r123 u124 => ?_)
  refine vf_pop C (zdg dz_A_law_22 4 rfl) Nat.zero_ne_one ?_
  refine vf_aload_n C (f := 2) (zdg dz_A_law_22 5 rfl) 2 rfl rfl ?_
  refine vf_callVi C cy_R_never ml_A_154 rfl (ct_R_never _) (S := []) sh_43 (by decide) rfl (lb_jrm hb rfl) rfl rfl (Nat.le_of_ble_eq_true rfl) (zdg dz_A_law_22 6 rfl) (fun r125 u126 => ?_)
  refine vf_pop C (zdg dz_A_law_22 7 rfl) Nat.zero_ne_one ?_
  refine vf_goto C (off := 269) (tgt := 1260) (zdg dz_A_law_22 8 rfl) (by decide) ?_
  exact t_A_law_1260 C hn hX hr hst hZ hSX hb hk23 _ _
def f_A_law_994 (Ln : Nat) (xs9 : Nat → Int32) (k23 : Int → Wd → Option (Int × Wd)) (v4 : Int) (w : Wd) : Option (Int × Wd) :=
  jcall (f_E_bound w) fun r127 u128 =>
  jcall (f_R_bound u128) fun r129 u130 =>
  f_A_law_1260 Ln xs9 k23 v4 u130
theorem t_A_law_994 {X : jX} {Qf : Int × Wd → State → Prop} {ad : Nat → Nat} {sbI : Int} {Ln : Nat} {xs9 : Nat → Int32} (C : Cx X code "EachBringsAnotherLaw") (hn : xn X = 7) (hX : LX X sbI Ln xs9) (hr : RtL X Qf ad code) (hst : (xl X).stackTraces = false) (hZ : ZX (xA X) (xs X)) (hSX : SX (xs X)) {f k n : Nat} (hB : LB X (f + 1) k n) {k23 : Int → Wd → Option (Int × Wd)} (hk23 : ∀ (k n : Nat) (v4 : Int) (w : Wd), LB X f k n → VF X Qf ad NF k n w 23 [(0, (3, sbI)), (1, (2, 1)), (2, (2, 44)), (3, (2, 83)), (4, (0, v4))] [] (k23 v4 w)) (v4 : Int) (w : Wd) : VF X Qf ad NF k n w 994 [(0, (3, sbI)), (1, (2, 1)), (2, (2, 44)), (3, (2, 83)), (4, (0, v4))] [] (f_A_law_994 Ln xs9 k23 v4 w) := by
  have hb := hB.s
  have hb1 := hB.t
  unfold f_A_law_994
  refine vf_aload_n C (f := 1) (zdg dz_A_law_22 9 rfl) 1 rfl rfl ?_
  refine vf_callVi C cy_E_bound ml_A_155 rfl (ct_E_bound _) (S := []) sh_0 (by decide) rfl (lb_jrm hb rfl) rfl rfl (Nat.le_of_ble_eq_true rfl) (zdg dz_A_law_22 10 rfl) (fun r127 u128 => ?_)
  refine vf_pop C (zdg dz_A_law_22 11 rfl) Nat.zero_ne_one ?_
  refine vf_aload_n C (f := 2) (zdg dz_A_law_22 12 rfl) 2 rfl rfl ?_
  refine vf_callVi C cy_R_bound ml_A_158 rfl (ct_R_bound _) (S := []) sh_43 (by decide) rfl (lb_jrm hb rfl) rfl rfl (Nat.le_of_ble_eq_true rfl) (zdg dz_A_law_22 13 rfl) (fun r129 u130 => ?_)
  refine vf_pop C (zdg dz_A_law_22 14 rfl) Nat.zero_ne_one ?_
  refine vf_goto C (off := 256) (tgt := 1260) (zdg dz_A_law_22 15 rfl) (by decide) ?_
  exact t_A_law_1260 C hn hX hr hst hZ hSX hb hk23 _ _
def f_A_law_1007 (Ln : Nat) (xs9 : Nat → Int32) (k23 : Int → Wd → Option (Int × Wd)) (v4 : Int) (w : Wd) : Option (Int × Wd) :=
  jgd ((0 : Int) ≤ (w32 (v4 + 1)) ∧ (w32 (v4 + 1)) < (Ln : Int)) <|
  jcall (f_E_far ((xs9 (w32 (v4 + 1)).toNat).toInt) w) fun r131 u132 =>
  jgd ((0 : Int) ≤ (w32 (v4 + 1)) ∧ (w32 (v4 + 1)) < (Ln : Int)) <|
  jcall (f_R_far ((xs9 (w32 (v4 + 1)).toNat).toInt) u132) fun r133 u134 =>
  if r131 = r133 then
    f_A_law_1260 Ln xs9 k23 v4 u134
  else
    none
theorem t_A_law_1007 {X : jX} {Qf : Int × Wd → State → Prop} {ad : Nat → Nat} {sbI : Int} {Ln : Nat} {xs9 : Nat → Int32} (C : Cx X code "EachBringsAnotherLaw") (hn : xn X = 7) (hX : LX X sbI Ln xs9) (hr : RtL X Qf ad code) (hst : (xl X).stackTraces = false) (hZ : ZX (xA X) (xs X)) (hSX : SX (xs X)) {f k n : Nat} (hB : LB X (f + 1) k n) {k23 : Int → Wd → Option (Int × Wd)} (hk23 : ∀ (k n : Nat) (v4 : Int) (w : Wd), LB X f k n → VF X Qf ad NF k n w 23 [(0, (3, sbI)), (1, (2, 1)), (2, (2, 44)), (3, (2, 83)), (4, (0, v4))] [] (k23 v4 w)) (v4 : Int) (w : Wd) : VF X Qf ad NF k n w 1007 [(0, (3, sbI)), (1, (2, 1)), (2, (2, 44)), (3, (2, 83)), (4, (0, v4))] [] (f_A_law_1007 Ln xs9 k23 v4 w) := by
  have hb := hB.s
  have hb1 := hB.t
  unfold f_A_law_1007
  refine vf_aload_n C (f := 1) (zdg dz_A_law_22 16 rfl) 1 rfl rfl ?_
  refine vf_aload3_n C (f := 0) (zdg dz_A_law_22 17 rfl) 0 rfl rfl ?_
  refine vf_iload C (zdg dz_A_law_22 18 rfl) 4 rfl ?_
  refine vf_iconst C (z := 1) (zdg dz_A_law_22 19 rfl) (jz rfl) ?_
  refine vf_iadd C (zdg dz_A_law_22 20 rfl) ?_
  refine vf_xld C hX (zdg dz_A_law_22 21 rfl) ?_
  refine vf_callVi C cy_E_far ml_A_159 rfl (ct_E_far _ _) (S := []) sh_0 (by decide) rfl (lb_jrm hb rfl) rfl rfl (Nat.le_of_ble_eq_true rfl) (zdg dz_A_law_22 22 rfl) (fun r131 u132 => ?_)
  refine vf_aload_n C (f := 2) (zdg dz_A_law_22 23 rfl) 2 rfl rfl ?_
  refine vf_aload3_n C (f := 0) (zdg dz_A_law_23 0 rfl) 0 rfl rfl ?_
  refine vf_iload C (zdg dz_A_law_23 1 rfl) 4 rfl ?_
  refine vf_iconst C (z := 1) (zdg dz_A_law_23 2 rfl) (jz rfl) ?_
  refine vf_iadd C (zdg dz_A_law_23 3 rfl) ?_
  refine vf_xld C hX (zdg dz_A_law_23 4 rfl) ?_
  refine vf_callVi C cy_R_far ml_A_162 rfl (ct_R_far _ _) (S := [(0, r131)]) sh_43 (by decide) rfl (lb_jrm hb rfl) rfl rfl (Nat.le_of_ble_eq_true rfl) (zdg dz_A_law_23 5 rfl) (fun r133 u134 => ?_)
  refine vf_icmp_eq C (off := 233) (tgt := 1260) (zdg dz_A_law_23 6 rfl) (by decide) ?_ ?_
  · exact t_A_law_1260 C hn hX hr hst hZ hSX hb hk23 _ _
  · refine vf_iconst C (z := 0) (zdg dz_A_law_23 7 rfl) (jz rfl) ?_
    exact vf_no
def f_A_law_1032 (Ln : Nat) (xs9 : Nat → Int32) (k23 : Int → Wd → Option (Int × Wd)) (v4 : Int) (w : Wd) : Option (Int × Wd) :=
  jgd ((0 : Int) ≤ (w32 (v4 + 1)) ∧ (w32 (v4 + 1)) < (Ln : Int)) <|
  jcall (f_E_line ((xs9 (w32 (v4 + 1)).toNat).toInt) w) fun r135 u136 =>
  jgd ((0 : Int) ≤ (w32 (v4 + 1)) ∧ (w32 (v4 + 1)) < (Ln : Int)) <|
  jcall (f_R_line ((xs9 (w32 (v4 + 1)).toNat).toInt) u136) fun r137 u138 =>
  f_A_law_1260 Ln xs9 k23 v4 u138
theorem t_A_law_1032 {X : jX} {Qf : Int × Wd → State → Prop} {ad : Nat → Nat} {sbI : Int} {Ln : Nat} {xs9 : Nat → Int32} (C : Cx X code "EachBringsAnotherLaw") (hn : xn X = 7) (hX : LX X sbI Ln xs9) (hr : RtL X Qf ad code) (hst : (xl X).stackTraces = false) (hZ : ZX (xA X) (xs X)) (hSX : SX (xs X)) {f k n : Nat} (hB : LB X (f + 1) k n) {k23 : Int → Wd → Option (Int × Wd)} (hk23 : ∀ (k n : Nat) (v4 : Int) (w : Wd), LB X f k n → VF X Qf ad NF k n w 23 [(0, (3, sbI)), (1, (2, 1)), (2, (2, 44)), (3, (2, 83)), (4, (0, v4))] [] (k23 v4 w)) (v4 : Int) (w : Wd) : VF X Qf ad NF k n w 1032 [(0, (3, sbI)), (1, (2, 1)), (2, (2, 44)), (3, (2, 83)), (4, (0, v4))] [] (f_A_law_1032 Ln xs9 k23 v4 w) := by
  have hb := hB.s
  have hb1 := hB.t
  unfold f_A_law_1032
  refine vf_aload_n C (f := 1) (zdg dz_A_law_23 9 rfl) 1 rfl rfl ?_
  refine vf_aload3_n C (f := 0) (zdg dz_A_law_23 10 rfl) 0 rfl rfl ?_
  refine vf_iload C (zdg dz_A_law_23 11 rfl) 4 rfl ?_
  refine vf_iconst C (z := 1) (zdg dz_A_law_23 12 rfl) (jz rfl) ?_
  refine vf_iadd C (zdg dz_A_law_23 13 rfl) ?_
  refine vf_xld C hX (zdg dz_A_law_23 14 rfl) ?_
  refine vf_callVi C cy_E_line ml_A_163 rfl (ct_E_line _ _) (S := []) sh_0 (by decide) rfl (lb_jrm hb rfl) rfl rfl (Nat.le_of_ble_eq_true rfl) (zdg dz_A_law_23 15 rfl) (fun r135 u136 => ?_)
  refine vf_pop C (zdg dz_A_law_23 16 rfl) Nat.zero_ne_one ?_
  refine vf_aload_n C (f := 2) (zdg dz_A_law_23 17 rfl) 2 rfl rfl ?_
  refine vf_aload3_n C (f := 0) (zdg dz_A_law_23 18 rfl) 0 rfl rfl ?_
  refine vf_iload C (zdg dz_A_law_23 19 rfl) 4 rfl ?_
  refine vf_iconst C (z := 1) (zdg dz_A_law_23 20 rfl) (jz rfl) ?_
  refine vf_iadd C (zdg dz_A_law_23 21 rfl) ?_
  refine vf_xld C hX (zdg dz_A_law_23 22 rfl) ?_
  refine vf_callVi C cy_R_line ml_A_166 rfl (ct_R_line _ _) (S := []) sh_43 (by decide) rfl (lb_jrm hb rfl) rfl rfl (Nat.le_of_ble_eq_true rfl) (zdg dz_A_law_23 23 rfl) (fun r137 u138 => ?_)
  refine vf_pop C (zdg dz_A_law_24 0 rfl) Nat.zero_ne_one ?_
  refine vf_goto C (off := 206) (tgt := 1260) (zdg dz_A_law_24 1 rfl) (by decide) ?_
  exact t_A_law_1260 C hn hX hr hst hZ hSX hb hk23 _ _
def f_A_law_1057 (Ln : Nat) (xs9 : Nat → Int32) (k23 : Int → Wd → Option (Int × Wd)) (v4 : Int) (w : Wd) : Option (Int × Wd) :=
  jgd ((0 : Int) ≤ (w32 (v4 + 1)) ∧ (w32 (v4 + 1)) < (Ln : Int)) <|
  jcall (f_E_led ((xs9 (w32 (v4 + 1)).toNat).toInt) w) fun r139 u140 =>
  jgd ((0 : Int) ≤ (w32 (v4 + 1)) ∧ (w32 (v4 + 1)) < (Ln : Int)) <|
  jcall (f_R_led ((xs9 (w32 (v4 + 1)).toNat).toInt) u140) fun r141 u142 =>
  f_A_law_1260 Ln xs9 k23 v4 u142
theorem t_A_law_1057 {X : jX} {Qf : Int × Wd → State → Prop} {ad : Nat → Nat} {sbI : Int} {Ln : Nat} {xs9 : Nat → Int32} (C : Cx X code "EachBringsAnotherLaw") (hn : xn X = 7) (hX : LX X sbI Ln xs9) (hr : RtL X Qf ad code) (hst : (xl X).stackTraces = false) (hZ : ZX (xA X) (xs X)) (hSX : SX (xs X)) {f k n : Nat} (hB : LB X (f + 1) k n) {k23 : Int → Wd → Option (Int × Wd)} (hk23 : ∀ (k n : Nat) (v4 : Int) (w : Wd), LB X f k n → VF X Qf ad NF k n w 23 [(0, (3, sbI)), (1, (2, 1)), (2, (2, 44)), (3, (2, 83)), (4, (0, v4))] [] (k23 v4 w)) (v4 : Int) (w : Wd) : VF X Qf ad NF k n w 1057 [(0, (3, sbI)), (1, (2, 1)), (2, (2, 44)), (3, (2, 83)), (4, (0, v4))] [] (f_A_law_1057 Ln xs9 k23 v4 w) := by
  have hb := hB.s
  have hb1 := hB.t
  unfold f_A_law_1057
  refine vf_aload_n C (f := 1) (zdg dz_A_law_24 2 rfl) 1 rfl rfl ?_
  refine vf_aload3_n C (f := 0) (zdg dz_A_law_24 3 rfl) 0 rfl rfl ?_
  refine vf_iload C (zdg dz_A_law_24 4 rfl) 4 rfl ?_
  refine vf_iconst C (z := 1) (zdg dz_A_law_24 5 rfl) (jz rfl) ?_
  refine vf_iadd C (zdg dz_A_law_24 6 rfl) ?_
  refine vf_xld C hX (zdg dz_A_law_24 7 rfl) ?_
  refine vf_callVi C cy_E_led ml_A_167 rfl (ct_E_led _ _) (S := []) sh_0 (by decide) rfl (lb_jrm hb rfl) rfl rfl (Nat.le_of_ble_eq_true rfl) (zdg dz_A_law_24 8 rfl) (fun r139 u140 => ?_)
  refine vf_pop C (zdg dz_A_law_24 9 rfl) Nat.zero_ne_one ?_
  refine vf_aload_n C (f := 2) (zdg dz_A_law_24 10 rfl) 2 rfl rfl ?_
  refine vf_aload3_n C (f := 0) (zdg dz_A_law_24 11 rfl) 0 rfl rfl ?_
  refine vf_iload C (zdg dz_A_law_24 12 rfl) 4 rfl ?_
  refine vf_iconst C (z := 1) (zdg dz_A_law_24 13 rfl) (jz rfl) ?_
  refine vf_iadd C (zdg dz_A_law_24 14 rfl) ?_
  refine vf_xld C hX (zdg dz_A_law_24 15 rfl) ?_
  refine vf_callVi C cy_R_led ml_A_170 rfl (ct_R_led _ _) (S := []) sh_43 (by decide) rfl (lb_jrm hb rfl) rfl rfl (Nat.le_of_ble_eq_true rfl) (zdg dz_A_law_24 16 rfl) (fun r141 u142 => ?_)
  refine vf_pop C (zdg dz_A_law_24 17 rfl) Nat.zero_ne_one ?_
  refine vf_goto C (off := 181) (tgt := 1260) (zdg dz_A_law_24 18 rfl) (by decide) ?_
  exact t_A_law_1260 C hn hX hr hst hZ hSX hb hk23 _ _
def f_A_law_1082 (Ln : Nat) (xs9 : Nat → Int32) (k23 : Int → Wd → Option (Int × Wd)) (v4 : Int) (w : Wd) : Option (Int × Wd) :=
  jgd ((0 : Int) ≤ (w32 (v4 + 1)) ∧ (w32 (v4 + 1)) < (Ln : Int)) <|
  jcall (f_E_was ((xs9 (w32 (v4 + 1)).toNat).toInt) w) fun r143 u144 =>
  jgd ((0 : Int) ≤ (w32 (v4 + 1)) ∧ (w32 (v4 + 1)) < (Ln : Int)) <|
  jcall (f_R_was ((xs9 (w32 (v4 + 1)).toNat).toInt) u144) fun r145 u146 =>
  f_A_law_1260 Ln xs9 k23 v4 u146
theorem t_A_law_1082 {X : jX} {Qf : Int × Wd → State → Prop} {ad : Nat → Nat} {sbI : Int} {Ln : Nat} {xs9 : Nat → Int32} (C : Cx X code "EachBringsAnotherLaw") (hn : xn X = 7) (hX : LX X sbI Ln xs9) (hr : RtL X Qf ad code) (hst : (xl X).stackTraces = false) (hZ : ZX (xA X) (xs X)) (hSX : SX (xs X)) {f k n : Nat} (hB : LB X (f + 1) k n) {k23 : Int → Wd → Option (Int × Wd)} (hk23 : ∀ (k n : Nat) (v4 : Int) (w : Wd), LB X f k n → VF X Qf ad NF k n w 23 [(0, (3, sbI)), (1, (2, 1)), (2, (2, 44)), (3, (2, 83)), (4, (0, v4))] [] (k23 v4 w)) (v4 : Int) (w : Wd) : VF X Qf ad NF k n w 1082 [(0, (3, sbI)), (1, (2, 1)), (2, (2, 44)), (3, (2, 83)), (4, (0, v4))] [] (f_A_law_1082 Ln xs9 k23 v4 w) := by
  have hb := hB.s
  have hb1 := hB.t
  unfold f_A_law_1082
  refine vf_aload_n C (f := 1) (zdg dz_A_law_24 19 rfl) 1 rfl rfl ?_
  refine vf_aload3_n C (f := 0) (zdg dz_A_law_24 20 rfl) 0 rfl rfl ?_
  refine vf_iload C (zdg dz_A_law_24 21 rfl) 4 rfl ?_
  refine vf_iconst C (z := 1) (zdg dz_A_law_24 22 rfl) (jz rfl) ?_
  refine vf_iadd C (zdg dz_A_law_24 23 rfl) ?_
  refine vf_xld C hX (zdg dz_A_law_25 0 rfl) ?_
  refine vf_callVi C cy_E_was ml_A_171 rfl (ct_E_was _ _) (S := []) sh_0 (by decide) rfl (lb_jrm hb rfl) rfl rfl (Nat.le_of_ble_eq_true rfl) (zdg dz_A_law_25 1 rfl) (fun r143 u144 => ?_)
  refine vf_pop C (zdg dz_A_law_25 2 rfl) Nat.zero_ne_one ?_
  refine vf_aload_n C (f := 2) (zdg dz_A_law_25 3 rfl) 2 rfl rfl ?_
  refine vf_aload3_n C (f := 0) (zdg dz_A_law_25 4 rfl) 0 rfl rfl ?_
  refine vf_iload C (zdg dz_A_law_25 5 rfl) 4 rfl ?_
  refine vf_iconst C (z := 1) (zdg dz_A_law_25 6 rfl) (jz rfl) ?_
  refine vf_iadd C (zdg dz_A_law_25 7 rfl) ?_
  refine vf_xld C hX (zdg dz_A_law_25 8 rfl) ?_
  refine vf_callVi C cy_R_was ml_A_174 rfl (ct_R_was _ _) (S := []) sh_43 (by decide) rfl (lb_jrm hb rfl) rfl rfl (Nat.le_of_ble_eq_true rfl) (zdg dz_A_law_25 9 rfl) (fun r145 u146 => ?_)
  refine vf_pop C (zdg dz_A_law_25 10 rfl) Nat.zero_ne_one ?_
  refine vf_goto C (off := 156) (tgt := 1260) (zdg dz_A_law_25 11 rfl) (by decide) ?_
  exact t_A_law_1260 C hn hX hr hst hZ hSX hb hk23 _ _
def f_A_law_1107 (Ln : Nat) (xs9 : Nat → Int32) (k23 : Int → Wd → Option (Int × Wd)) (v4 : Int) (w : Wd) : Option (Int × Wd) :=
  jgd ((0 : Int) ≤ (w32 (v4 + 1)) ∧ (w32 (v4 + 1)) < (Ln : Int)) <|
  jgd ((0 : Int) ≤ (w32 (v4 + 2)) ∧ (w32 (v4 + 2)) < (Ln : Int)) <|
  jcall (f_E_common ((xs9 (w32 (v4 + 1)).toNat).toInt) ((xs9 (w32 (v4 + 2)).toNat).toInt) w) fun r147 u148 =>
  jgd ((0 : Int) ≤ (w32 (v4 + 1)) ∧ (w32 (v4 + 1)) < (Ln : Int)) <|
  jgd ((0 : Int) ≤ (w32 (v4 + 2)) ∧ (w32 (v4 + 2)) < (Ln : Int)) <|
  jcall (f_R_common ((xs9 (w32 (v4 + 1)).toNat).toInt) ((xs9 (w32 (v4 + 2)).toNat).toInt) u148) fun r149 u150 =>
  f_A_law_1260 Ln xs9 k23 v4 u150
theorem t_A_law_1107 {X : jX} {Qf : Int × Wd → State → Prop} {ad : Nat → Nat} {sbI : Int} {Ln : Nat} {xs9 : Nat → Int32} (C : Cx X code "EachBringsAnotherLaw") (hn : xn X = 7) (hX : LX X sbI Ln xs9) (hr : RtL X Qf ad code) (hst : (xl X).stackTraces = false) (hZ : ZX (xA X) (xs X)) (hSX : SX (xs X)) {f k n : Nat} (hB : LB X (f + 1) k n) {k23 : Int → Wd → Option (Int × Wd)} (hk23 : ∀ (k n : Nat) (v4 : Int) (w : Wd), LB X f k n → VF X Qf ad NF k n w 23 [(0, (3, sbI)), (1, (2, 1)), (2, (2, 44)), (3, (2, 83)), (4, (0, v4))] [] (k23 v4 w)) (v4 : Int) (w : Wd) : VF X Qf ad NF k n w 1107 [(0, (3, sbI)), (1, (2, 1)), (2, (2, 44)), (3, (2, 83)), (4, (0, v4))] [] (f_A_law_1107 Ln xs9 k23 v4 w) := by
  have hb := hB.s
  have hb1 := hB.t
  unfold f_A_law_1107
  refine vf_aload_n C (f := 1) (zdg dz_A_law_25 12 rfl) 1 rfl rfl ?_
  refine vf_aload3_n C (f := 0) (zdg dz_A_law_25 13 rfl) 0 rfl rfl ?_
  refine vf_iload C (zdg dz_A_law_25 14 rfl) 4 rfl ?_
  refine vf_iconst C (z := 1) (zdg dz_A_law_25 15 rfl) (jz rfl) ?_
  refine vf_iadd C (zdg dz_A_law_25 16 rfl) ?_
  refine vf_xld C hX (zdg dz_A_law_25 17 rfl) ?_
  refine vf_aload3_n C (f := 0) (zdg dz_A_law_25 18 rfl) 0 rfl rfl ?_
  refine vf_iload C (zdg dz_A_law_25 19 rfl) 4 rfl ?_
  refine vf_iconst C (z := 2) (zdg dz_A_law_25 20 rfl) (jz rfl) ?_
  refine vf_iadd C (zdg dz_A_law_25 21 rfl) ?_
  refine vf_xld C hX (zdg dz_A_law_25 22 rfl) ?_
  refine vf_callVi C cy_E_common ml_A_175 rfl (ct_E_common _ _ _) (S := []) sh_0 (by decide) rfl (lb_jrm hb rfl) rfl rfl (Nat.le_of_ble_eq_true rfl) (zdg dz_A_law_25 23 rfl) (fun r147 u148 => ?_)
  refine vf_pop C (zdg dz_A_law_26 0 rfl) Nat.zero_ne_one ?_
  refine vf_aload_n C (f := 2) (zdg dz_A_law_26 1 rfl) 2 rfl rfl ?_
  refine vf_aload3_n C (f := 0) (zdg dz_A_law_26 2 rfl) 0 rfl rfl ?_
  refine vf_iload C (zdg dz_A_law_26 3 rfl) 4 rfl ?_
  refine vf_iconst C (z := 1) (zdg dz_A_law_26 4 rfl) (jz rfl) ?_
  refine vf_iadd C (zdg dz_A_law_26 5 rfl) ?_
  refine vf_xld C hX (zdg dz_A_law_26 6 rfl) ?_
  refine vf_aload3_n C (f := 0) (zdg dz_A_law_26 7 rfl) 0 rfl rfl ?_
  refine vf_iload C (zdg dz_A_law_26 8 rfl) 4 rfl ?_
  refine vf_iconst C (z := 2) (zdg dz_A_law_26 9 rfl) (jz rfl) ?_
  refine vf_iadd C (zdg dz_A_law_26 10 rfl) ?_
  refine vf_xld C hX (zdg dz_A_law_26 11 rfl) ?_
  refine vf_callVi C cy_R_common ml_A_178 rfl (ct_R_common _ _ _) (S := []) sh_43 (by decide) rfl (lb_jrm hb rfl) rfl rfl (Nat.le_of_ble_eq_true rfl) (zdg dz_A_law_26 12 rfl) (fun r149 u150 => ?_)
  refine vf_pop C (zdg dz_A_law_26 13 rfl) Nat.zero_ne_one ?_
  refine vf_goto C (off := 119) (tgt := 1260) (zdg dz_A_law_26 14 rfl) (by decide) ?_
  exact t_A_law_1260 C hn hX hr hst hZ hSX hb hk23 _ _
def f_A_law_1144 (Ln : Nat) (xs9 : Nat → Int32) (k23 : Int → Wd → Option (Int × Wd)) (v4 : Int) (w : Wd) : Option (Int × Wd) :=
  jcall (f_E_father w) fun r151 u152 =>
  jcall (f_R_father u152) fun r153 u154 =>
  f_A_law_1260 Ln xs9 k23 v4 u154
theorem t_A_law_1144 {X : jX} {Qf : Int × Wd → State → Prop} {ad : Nat → Nat} {sbI : Int} {Ln : Nat} {xs9 : Nat → Int32} (C : Cx X code "EachBringsAnotherLaw") (hn : xn X = 7) (hX : LX X sbI Ln xs9) (hr : RtL X Qf ad code) (hst : (xl X).stackTraces = false) (hZ : ZX (xA X) (xs X)) (hSX : SX (xs X)) {f k n : Nat} (hB : LB X (f + 1) k n) {k23 : Int → Wd → Option (Int × Wd)} (hk23 : ∀ (k n : Nat) (v4 : Int) (w : Wd), LB X f k n → VF X Qf ad NF k n w 23 [(0, (3, sbI)), (1, (2, 1)), (2, (2, 44)), (3, (2, 83)), (4, (0, v4))] [] (k23 v4 w)) (v4 : Int) (w : Wd) : VF X Qf ad NF k n w 1144 [(0, (3, sbI)), (1, (2, 1)), (2, (2, 44)), (3, (2, 83)), (4, (0, v4))] [] (f_A_law_1144 Ln xs9 k23 v4 w) := by
  have hb := hB.s
  have hb1 := hB.t
  unfold f_A_law_1144
  refine vf_aload_n C (f := 1) (zdg dz_A_law_26 15 rfl) 1 rfl rfl ?_
  refine vf_callVi C cy_E_father ml_A_179 rfl (ct_E_father _) (S := []) sh_0 (by decide) rfl (lb_jrm hb rfl) rfl rfl (Nat.le_of_ble_eq_true rfl) (zdg dz_A_law_26 16 rfl) (fun r151 u152 => ?_)
  refine vf_pop C (zdg dz_A_law_26 17 rfl) Nat.zero_ne_one ?_
  refine vf_aload_n C (f := 2) (zdg dz_A_law_26 18 rfl) 2 rfl rfl ?_
  refine vf_callVi C cy_R_father ml_A_182 rfl (ct_R_father _) (S := []) sh_43 (by decide) rfl (lb_jrm hb rfl) rfl rfl (Nat.le_of_ble_eq_true rfl) (zdg dz_A_law_26 19 rfl) (fun r153 u154 => ?_)
  refine vf_pop C (zdg dz_A_law_26 20 rfl) Nat.zero_ne_one ?_
  refine vf_goto C (off := 106) (tgt := 1260) (zdg dz_A_law_26 21 rfl) (by decide) ?_
  exact t_A_law_1260 C hn hX hr hst hZ hSX hb hk23 _ _
def f_A_law_1157 (Ln : Nat) (xs9 : Nat → Int32) (k23 : Int → Wd → Option (Int × Wd)) (v4 : Int) (w : Wd) : Option (Int × Wd) :=
  jgd ((0 : Int) ≤ (w32 (v4 + 1)) ∧ (w32 (v4 + 1)) < (Ln : Int)) <|
  jcall (f_E_keep ((xs9 (w32 (v4 + 1)).toNat).toInt) w) fun r155 u156 =>
  jgd ((0 : Int) ≤ (w32 (v4 + 1)) ∧ (w32 (v4 + 1)) < (Ln : Int)) <|
  jcall (f_R_keep ((xs9 (w32 (v4 + 1)).toNat).toInt) u156) fun r157 u158 =>
  f_A_law_1260 Ln xs9 k23 v4 u158
theorem t_A_law_1157 {X : jX} {Qf : Int × Wd → State → Prop} {ad : Nat → Nat} {sbI : Int} {Ln : Nat} {xs9 : Nat → Int32} (C : Cx X code "EachBringsAnotherLaw") (hn : xn X = 7) (hX : LX X sbI Ln xs9) (hr : RtL X Qf ad code) (hst : (xl X).stackTraces = false) (hZ : ZX (xA X) (xs X)) (hSX : SX (xs X)) {f k n : Nat} (hB : LB X (f + 1) k n) {k23 : Int → Wd → Option (Int × Wd)} (hk23 : ∀ (k n : Nat) (v4 : Int) (w : Wd), LB X f k n → VF X Qf ad NF k n w 23 [(0, (3, sbI)), (1, (2, 1)), (2, (2, 44)), (3, (2, 83)), (4, (0, v4))] [] (k23 v4 w)) (v4 : Int) (w : Wd) : VF X Qf ad NF k n w 1157 [(0, (3, sbI)), (1, (2, 1)), (2, (2, 44)), (3, (2, 83)), (4, (0, v4))] [] (f_A_law_1157 Ln xs9 k23 v4 w) := by
  have hb := hB.s
  have hb1 := hB.t
  unfold f_A_law_1157
  refine vf_aload_n C (f := 1) (zdg dz_A_law_26 22 rfl) 1 rfl rfl ?_
  refine vf_aload3_n C (f := 0) (zdg dz_A_law_26 23 rfl) 0 rfl rfl ?_
  refine vf_iload C (zdg dz_A_law_27 0 rfl) 4 rfl ?_
  refine vf_iconst C (z := 1) (zdg dz_A_law_27 1 rfl) (jz rfl) ?_
  refine vf_iadd C (zdg dz_A_law_27 2 rfl) ?_
  refine vf_xld C hX (zdg dz_A_law_27 3 rfl) ?_
  refine vf_callVz C cy_E_keep ml_A_183 rfl (ct_E_keep _ _) (S := []) sh_0 (by decide) rfl (lb_jrm hb rfl) rfl rfl (Nat.le_of_ble_eq_true rfl) (zdg dz_A_law_27 4 rfl) (fun r155 u156 => ?_)
  refine vf_pop C (zdg dz_A_law_27 5 rfl) Nat.zero_ne_one ?_
  refine vf_aload_n C (f := 2) (zdg dz_A_law_27 6 rfl) 2 rfl rfl ?_
  refine vf_aload3_n C (f := 0) (zdg dz_A_law_27 7 rfl) 0 rfl rfl ?_
  refine vf_iload C (zdg dz_A_law_27 8 rfl) 4 rfl ?_
  refine vf_iconst C (z := 1) (zdg dz_A_law_27 9 rfl) (jz rfl) ?_
  refine vf_iadd C (zdg dz_A_law_27 10 rfl) ?_
  refine vf_xld C hX (zdg dz_A_law_27 11 rfl) ?_
  refine vf_callVz C cy_R_keep ml_A_186 rfl (ct_R_keep _ _) (S := []) sh_43 (by decide) rfl (lb_jrm hb rfl) rfl rfl (Nat.le_of_ble_eq_true rfl) (zdg dz_A_law_27 12 rfl) (fun r157 u158 => ?_)
  refine vf_pop C (zdg dz_A_law_27 13 rfl) Nat.zero_ne_one ?_
  refine vf_goto C (off := 81) (tgt := 1260) (zdg dz_A_law_27 14 rfl) (by decide) ?_
  exact t_A_law_1260 C hn hX hr hst hZ hSX hb hk23 _ _
def f_A_law_1182 (Ln : Nat) (xs9 : Nat → Int32) (k23 : Int → Wd → Option (Int × Wd)) (v4 : Int) (w : Wd) : Option (Int × Wd) :=
  jgd ((0 : Int) ≤ (w32 (v4 + 1)) ∧ (w32 (v4 + 1)) < (Ln : Int)) <|
  jcall (f_E_again ((xs9 (w32 (v4 + 1)).toNat).toInt) w) fun r159 u160 =>
  jgd ((0 : Int) ≤ (w32 (v4 + 1)) ∧ (w32 (v4 + 1)) < (Ln : Int)) <|
  jcall (f_R_again ((xs9 (w32 (v4 + 1)).toNat).toInt) u160) fun r161 u162 =>
  f_A_law_1260 Ln xs9 k23 v4 u162
theorem t_A_law_1182 {X : jX} {Qf : Int × Wd → State → Prop} {ad : Nat → Nat} {sbI : Int} {Ln : Nat} {xs9 : Nat → Int32} (C : Cx X code "EachBringsAnotherLaw") (hn : xn X = 7) (hX : LX X sbI Ln xs9) (hr : RtL X Qf ad code) (hst : (xl X).stackTraces = false) (hZ : ZX (xA X) (xs X)) (hSX : SX (xs X)) {f k n : Nat} (hB : LB X (f + 1) k n) {k23 : Int → Wd → Option (Int × Wd)} (hk23 : ∀ (k n : Nat) (v4 : Int) (w : Wd), LB X f k n → VF X Qf ad NF k n w 23 [(0, (3, sbI)), (1, (2, 1)), (2, (2, 44)), (3, (2, 83)), (4, (0, v4))] [] (k23 v4 w)) (v4 : Int) (w : Wd) : VF X Qf ad NF k n w 1182 [(0, (3, sbI)), (1, (2, 1)), (2, (2, 44)), (3, (2, 83)), (4, (0, v4))] [] (f_A_law_1182 Ln xs9 k23 v4 w) := by
  have hb := hB.s
  have hb1 := hB.t
  unfold f_A_law_1182
  refine vf_aload_n C (f := 1) (zdg dz_A_law_27 15 rfl) 1 rfl rfl ?_
  refine vf_aload3_n C (f := 0) (zdg dz_A_law_27 16 rfl) 0 rfl rfl ?_
  refine vf_iload C (zdg dz_A_law_27 17 rfl) 4 rfl ?_
  refine vf_iconst C (z := 1) (zdg dz_A_law_27 18 rfl) (jz rfl) ?_
  refine vf_iadd C (zdg dz_A_law_27 19 rfl) ?_
  refine vf_xld C hX (zdg dz_A_law_27 20 rfl) ?_
  refine vf_callVz C cy_E_again ml_A_187 rfl (ct_E_again _ _) (S := []) sh_0 (by decide) rfl (lb_jrm hb rfl) rfl rfl (Nat.le_of_ble_eq_true rfl) (zdg dz_A_law_27 21 rfl) (fun r159 u160 => ?_)
  refine vf_pop C (zdg dz_A_law_27 22 rfl) Nat.zero_ne_one ?_
  refine vf_aload_n C (f := 2) (zdg dz_A_law_27 23 rfl) 2 rfl rfl ?_
  refine vf_aload3_n C (f := 0) (zdg dz_A_law_28 0 rfl) 0 rfl rfl ?_
  refine vf_iload C (zdg dz_A_law_28 1 rfl) 4 rfl ?_
  refine vf_iconst C (z := 1) (zdg dz_A_law_28 2 rfl) (jz rfl) ?_
  refine vf_iadd C (zdg dz_A_law_28 3 rfl) ?_
  refine vf_xld C hX (zdg dz_A_law_28 4 rfl) ?_
  refine vf_callVz C cy_R_again ml_A_190 rfl (ct_R_again _ _) (S := []) sh_43 (by decide) rfl (lb_jrm hb rfl) rfl rfl (Nat.le_of_ble_eq_true rfl) (zdg dz_A_law_28 5 rfl) (fun r161 u162 => ?_)
  refine vf_pop C (zdg dz_A_law_28 6 rfl) Nat.zero_ne_one ?_
  refine vf_goto C (off := 56) (tgt := 1260) (zdg dz_A_law_28 7 rfl) (by decide) ?_
  exact t_A_law_1260 C hn hX hr hst hZ hSX hb hk23 _ _
def f_A_law_1207 (Ln : Nat) (xs9 : Nat → Int32) (k23 : Int → Wd → Option (Int × Wd)) (v4 : Int) (w : Wd) : Option (Int × Wd) :=
  jgd ((0 : Int) ≤ (w32 (v4 + 1)) ∧ (w32 (v4 + 1)) < (Ln : Int)) <|
  jcall (f_E_count ((xs9 (w32 (v4 + 1)).toNat).toInt) w) fun r163 u164 =>
  jgd ((0 : Int) ≤ (w32 (v4 + 1)) ∧ (w32 (v4 + 1)) < (Ln : Int)) <|
  jcall (f_R_count ((xs9 (w32 (v4 + 1)).toNat).toInt) u164) fun r165 u166 =>
  f_A_law_1260 Ln xs9 k23 v4 u166
theorem t_A_law_1207 {X : jX} {Qf : Int × Wd → State → Prop} {ad : Nat → Nat} {sbI : Int} {Ln : Nat} {xs9 : Nat → Int32} (C : Cx X code "EachBringsAnotherLaw") (hn : xn X = 7) (hX : LX X sbI Ln xs9) (hr : RtL X Qf ad code) (hst : (xl X).stackTraces = false) (hZ : ZX (xA X) (xs X)) (hSX : SX (xs X)) {f k n : Nat} (hB : LB X (f + 1) k n) {k23 : Int → Wd → Option (Int × Wd)} (hk23 : ∀ (k n : Nat) (v4 : Int) (w : Wd), LB X f k n → VF X Qf ad NF k n w 23 [(0, (3, sbI)), (1, (2, 1)), (2, (2, 44)), (3, (2, 83)), (4, (0, v4))] [] (k23 v4 w)) (v4 : Int) (w : Wd) : VF X Qf ad NF k n w 1207 [(0, (3, sbI)), (1, (2, 1)), (2, (2, 44)), (3, (2, 83)), (4, (0, v4))] [] (f_A_law_1207 Ln xs9 k23 v4 w) := by
  have hb := hB.s
  have hb1 := hB.t
  unfold f_A_law_1207
  refine vf_aload_n C (f := 1) (zdg dz_A_law_28 8 rfl) 1 rfl rfl ?_
  refine vf_aload3_n C (f := 0) (zdg dz_A_law_28 9 rfl) 0 rfl rfl ?_
  refine vf_iload C (zdg dz_A_law_28 10 rfl) 4 rfl ?_
  refine vf_iconst C (z := 1) (zdg dz_A_law_28 11 rfl) (jz rfl) ?_
  refine vf_iadd C (zdg dz_A_law_28 12 rfl) ?_
  refine vf_xld C hX (zdg dz_A_law_28 13 rfl) ?_
  refine vf_callVi C cy_E_count ml_A_191 rfl (ct_E_count _ _) (S := []) sh_0 (by decide) rfl (lb_jrm hb rfl) rfl rfl (Nat.le_of_ble_eq_true rfl) (zdg dz_A_law_28 14 rfl) (fun r163 u164 => ?_)
  refine vf_pop C (zdg dz_A_law_28 15 rfl) Nat.zero_ne_one ?_
  refine vf_aload_n C (f := 2) (zdg dz_A_law_28 16 rfl) 2 rfl rfl ?_
  refine vf_aload3_n C (f := 0) (zdg dz_A_law_28 17 rfl) 0 rfl rfl ?_
  refine vf_iload C (zdg dz_A_law_28 18 rfl) 4 rfl ?_
  refine vf_iconst C (z := 1) (zdg dz_A_law_28 19 rfl) (jz rfl) ?_
  refine vf_iadd C (zdg dz_A_law_28 20 rfl) ?_
  refine vf_xld C hX (zdg dz_A_law_28 21 rfl) ?_
  refine vf_callVi C cy_R_count ml_A_194 rfl (ct_R_count _ _) (S := []) sh_43 (by decide) rfl (lb_jrm hb rfl) rfl rfl (Nat.le_of_ble_eq_true rfl) (zdg dz_A_law_28 22 rfl) (fun r165 u166 => ?_)
  refine vf_pop C (zdg dz_A_law_28 23 rfl) Nat.zero_ne_one ?_
  refine vf_goto C (off := 31) (tgt := 1260) (zdg dz_A_law_29 0 rfl) (by decide) ?_
  exact t_A_law_1260 C hn hX hr hst hZ hSX hb hk23 _ _
def f_A_law_1232 (Ln : Nat) (xs9 : Nat → Int32) (k23 : Int → Wd → Option (Int × Wd)) (v4 : Int) (w : Wd) : Option (Int × Wd) :=
  jgd ((0 : Int) ≤ (w32 (v4 + 1)) ∧ (w32 (v4 + 1)) < (Ln : Int)) <|
  jcall (f_A_row ((xs9 (w32 (v4 + 1)).toNat).toInt) w) fun r167 u168 =>
  jgd ((0 : Int) ≤ (w32 (v4 + 1)) ∧ (w32 (v4 + 1)) < (Ln : Int)) <|
  jcall (f_R_row ((xs9 (w32 (v4 + 1)).toNat).toInt) u168) fun r169 u170 =>
  f_A_law_1260 Ln xs9 k23 v4 u170
theorem t_A_law_1232 {X : jX} {Qf : Int × Wd → State → Prop} {ad : Nat → Nat} {sbI : Int} {Ln : Nat} {xs9 : Nat → Int32} (C : Cx X code "EachBringsAnotherLaw") (hn : xn X = 7) (hX : LX X sbI Ln xs9) (hr : RtL X Qf ad code) (hst : (xl X).stackTraces = false) (hZ : ZX (xA X) (xs X)) (hSX : SX (xs X)) {f k n : Nat} (hB : LB X (f + 1) k n) {k23 : Int → Wd → Option (Int × Wd)} (hk23 : ∀ (k n : Nat) (v4 : Int) (w : Wd), LB X f k n → VF X Qf ad NF k n w 23 [(0, (3, sbI)), (1, (2, 1)), (2, (2, 44)), (3, (2, 83)), (4, (0, v4))] [] (k23 v4 w)) (v4 : Int) (w : Wd) : VF X Qf ad NF k n w 1232 [(0, (3, sbI)), (1, (2, 1)), (2, (2, 44)), (3, (2, 83)), (4, (0, v4))] [] (f_A_law_1232 Ln xs9 k23 v4 w) := by
  have hb := hB.s
  have hb1 := hB.t
  unfold f_A_law_1232
  refine vf_aload_n C (f := 1) (zdg dz_A_law_29 1 rfl) 1 rfl rfl ?_
  refine vf_aload3_n C (f := 0) (zdg dz_A_law_29 2 rfl) 0 rfl rfl ?_
  refine vf_iload C (zdg dz_A_law_29 3 rfl) 4 rfl ?_
  refine vf_iconst C (z := 1) (zdg dz_A_law_29 4 rfl) (jz rfl) ?_
  refine vf_iadd C (zdg dz_A_law_29 5 rfl) ?_
  refine vf_xld C hX (zdg dz_A_law_29 6 rfl) ?_
  refine vf_aload_n C (f := 3) (zdg dz_A_law_29 7 rfl) 3 rfl rfl ?_
  refine vf_callH C hAd_row hAi hAl_row hAs_row hAc_row (ct_A_row _ _) (S := []) (lb_jrm hb1 rfl) rfl rfl (Nat.le_of_ble_eq_true rfl) (zdg dz_A_law_29 8 rfl) hst hZ hSX (fun r167 u168 => ?_)
  refine vf_istore C (i := 5) (L' := [(0, (3, sbI)), (1, (2, 1)), (2, (2, 44)), (3, (2, 83)), (4, (0, v4))]) (zdg dz_A_law_29 9 rfl) [0, 1, 2, 3, 4] (jrI rfl rfl) hn (by decide) ?_
  refine vf_aload_n C (f := 2) (zdg dz_A_law_29 10 rfl) 3 rfl rfl ?_
  refine vf_aload3_n C (f := 0) (zdg dz_A_law_29 11 rfl) 1 rfl rfl ?_
  refine vf_iload C (zdg dz_A_law_29 12 rfl) 5 rfl ?_
  refine vf_iconst C (z := 1) (zdg dz_A_law_29 13 rfl) (jz rfl) ?_
  refine vf_iadd C (zdg dz_A_law_29 14 rfl) ?_
  refine vf_xld C hX (zdg dz_A_law_29 15 rfl) ?_
  refine vf_callVi C cy_R_row ml_A_198 rfl (ct_R_row _ _) (S := []) sh_43 (by decide) rfl (lb_jrm hb1 rfl) rfl rfl (Nat.le_of_ble_eq_true rfl) (zdg dz_A_law_29 16 rfl) (fun r169 u170 => ?_)
  refine vf_istore C (i := 6) (L' := [(0, (3, sbI)), (1, (2, 1)), (2, (2, 44)), (3, (2, 83)), (4, (0, v4))]) (zdg dz_A_law_29 17 rfl) [1, 2, 3, 4, 5] (jrI rfl rfl) hn (by decide) ?_
  refine vf_goto C (off := 3) (tgt := 1260) (zdg dz_A_law_29 18 rfl) (by decide) ?_
  exact vf_perm [1, 2, 3, 4, 5] rfl (t_A_law_1260 C hn hX hr hst hZ hSX hb1 hk23 _ _)
def f_A_law (Ln : Nat) (xs9 : Nat → Int32) : Nat → Int → Wd → Option (Int × Wd)
  | 0, _, _ => none
  | f + 1, v4, w =>
    if (w32 (((Ln : Int)) - 5)) < v4 then
      some (1, w)
    else
      jgd ((0 : Int) ≤ v4 ∧ v4 < (Ln : Int)) <|
      jlet (iand ((xs9 v4.toNat).toInt) 63) fun x1 =>
      if x1 < 0 ∨ 41 < x1 then
        f_A_law_1260 Ln xs9 (f_A_law Ln xs9 f) v4 w
      else
      if x1 = 0 then
        f_A_law_220 Ln xs9 (f_A_law Ln xs9 f) v4 w
      else
      if x1 = 1 then
        f_A_law_245 Ln xs9 (f_A_law Ln xs9 f) v4 w
      else
      if x1 = 2 then
        f_A_law_270 Ln xs9 (f_A_law Ln xs9 f) v4 w
      else
      if x1 = 3 then
        f_A_law_283 Ln xs9 (f_A_law Ln xs9 f) v4 w
      else
      if x1 = 4 then
        f_A_law_296 Ln xs9 (f_A_law Ln xs9 f) v4 w
      else
      if x1 = 5 then
        f_A_law_336 Ln xs9 (f_A_law Ln xs9 f) v4 w
      else
      if x1 = 6 then
        f_A_law_373 Ln xs9 (f_A_law Ln xs9 f) v4 w
      else
      if x1 = 7 then
        f_A_law_438 Ln xs9 (f_A_law Ln xs9 f) v4 w
      else
      if x1 = 8 then
        f_A_law_491 Ln xs9 (f_A_law Ln xs9 f) v4 w
      else
      if x1 = 9 then
        f_A_law_516 Ln xs9 (f_A_law Ln xs9 f) v4 w
      else
      if x1 = 10 then
        f_A_law_577 Ln xs9 (f_A_law Ln xs9 f) v4 w
      else
      if x1 = 11 then
        f_A_law_590 Ln xs9 (f_A_law Ln xs9 f) v4 w
      else
      if x1 = 12 then
        f_A_law_615 Ln xs9 (f_A_law Ln xs9 f) v4 w
      else
      if x1 = 13 then
        f_A_law_628 Ln xs9 (f_A_law Ln xs9 f) v4 w
      else
      if x1 = 14 then
        f_A_law_641 Ln xs9 (f_A_law Ln xs9 f) v4 w
      else
      if x1 = 15 then
        f_A_law_666 Ln xs9 (f_A_law Ln xs9 f) v4 w
      else
      if x1 = 16 then
        f_A_law_679 Ln xs9 (f_A_law Ln xs9 f) v4 w
      else
      if x1 = 17 then
        f_A_law_692 Ln xs9 (f_A_law Ln xs9 f) v4 w
      else
      if x1 = 18 then
        f_A_law_705 Ln xs9 (f_A_law Ln xs9 f) v4 w
      else
      if x1 = 19 then
        f_A_law_730 Ln xs9 (f_A_law Ln xs9 f) v4 w
      else
      if x1 = 20 then
        f_A_law_755 Ln xs9 (f_A_law Ln xs9 f) v4 w
      else
      if x1 = 21 then
        f_A_law_780 Ln xs9 (f_A_law Ln xs9 f) v4 w
      else
      if x1 = 22 then
        f_A_law_793 Ln xs9 (f_A_law Ln xs9 f) v4 w
      else
      if x1 = 23 then
        f_A_law_842 Ln xs9 (f_A_law Ln xs9 f) v4 w
      else
      if x1 = 24 then
        f_A_law_855 Ln xs9 (f_A_law Ln xs9 f) v4 w
      else
      if x1 = 25 then
        f_A_law_868 Ln xs9 (f_A_law Ln xs9 f) v4 w
      else
      if x1 = 26 then
        f_A_law_893 Ln xs9 (f_A_law Ln xs9 f) v4 w
      else
      if x1 = 27 then
        f_A_law_918 Ln xs9 (f_A_law Ln xs9 f) v4 w
      else
      if x1 = 28 then
        f_A_law_943 Ln xs9 (f_A_law Ln xs9 f) v4 w
      else
      if x1 = 29 then
        f_A_law_968 Ln xs9 (f_A_law Ln xs9 f) v4 w
      else
      if x1 = 30 then
        f_A_law_981 Ln xs9 (f_A_law Ln xs9 f) v4 w
      else
      if x1 = 31 then
        f_A_law_994 Ln xs9 (f_A_law Ln xs9 f) v4 w
      else
      if x1 = 32 then
        f_A_law_1007 Ln xs9 (f_A_law Ln xs9 f) v4 w
      else
      if x1 = 33 then
        f_A_law_1032 Ln xs9 (f_A_law Ln xs9 f) v4 w
      else
      if x1 = 34 then
        f_A_law_1057 Ln xs9 (f_A_law Ln xs9 f) v4 w
      else
      if x1 = 35 then
        f_A_law_1082 Ln xs9 (f_A_law Ln xs9 f) v4 w
      else
      if x1 = 36 then
        f_A_law_1107 Ln xs9 (f_A_law Ln xs9 f) v4 w
      else
      if x1 = 37 then
        f_A_law_1144 Ln xs9 (f_A_law Ln xs9 f) v4 w
      else
      if x1 = 38 then
        f_A_law_1157 Ln xs9 (f_A_law Ln xs9 f) v4 w
      else
      if x1 = 39 then
        f_A_law_1182 Ln xs9 (f_A_law Ln xs9 f) v4 w
      else
      if x1 = 40 then
        f_A_law_1207 Ln xs9 (f_A_law Ln xs9 f) v4 w
      else
      if x1 = 41 then
        f_A_law_1232 Ln xs9 (f_A_law Ln xs9 f) v4 w
      else
      none
theorem t_A_law {X : jX} {Qf : Int × Wd → State → Prop} {ad : Nat → Nat} {sbI : Int} {Ln : Nat} {xs9 : Nat → Int32} (C : Cx X code "EachBringsAnotherLaw") (hn : xn X = 7) (hX : LX X sbI Ln xs9) (hr : RtL X Qf ad code) (hst : (xl X).stackTraces = false) (hZ : ZX (xA X) (xs X)) (hSX : SX (xs X)) : ∀ (f k n : Nat) (v4 : Int) (w : Wd), LB X f k n → VF X Qf ad NF k n w 23 [(0, (3, sbI)), (1, (2, 1)), (2, (2, 44)), (3, (2, 83)), (4, (0, v4))] [] (f_A_law Ln xs9 f v4 w) := by
  intro f
  induction f with
  | zero => intros; exact vf_no
  | succ f ih =>
    intro k n v4 w hB
    have hb := hB.s
    rw [f_A_law]
    refine vf_iload C (zdg dz_A_law_0 12 rfl) 4 rfl ?_
    refine vf_aload3_n C (f := 0) (zdg dz_A_law_0 13 rfl) 0 rfl rfl ?_
    refine vf_xlen C hX (zdg dz_A_law_0 14 rfl) ?_
    refine vf_iconst C (z := 5) (zdg dz_A_law_0 15 rfl) (jz rfl) ?_
    refine vf_isub C (zdg dz_A_law_0 16 rfl) ?_
    refine vf_icmp_gt C (off := 1237) (tgt := 1266) (zdg dz_A_law_0 17 rfl) (by decide) ?_ ?_
    · refine vf_iconst C (z := 1) (zdg dz_A_law_29 21 rfl) (jz rfl) ?_
      exact hr _ _ _ _ _ _ hb (zdg dz_A_law_29 22 rfl)
    · refine vf_aload3_n C (f := 0) (zdg dz_A_law_0 18 rfl) 0 rfl rfl ?_
      refine vf_iload C (zdg dz_A_law_0 19 rfl) 4 rfl ?_
      refine vf_xld C hX (zdg dz_A_law_0 20 rfl) ?_
      refine vf_bipush C (z := 63) (zdg dz_A_law_0 21 rfl) (by decide +kernel) (jz rfl) ?_
      refine vf_iand C (zdg dz_A_law_0 22 rfl) ?_
      generalize iand ((xs9 v4.toNat).toInt) 63 = x1
      refine vf_ul ?_
      refine vf_if _ (fun h => ?_) (fun _ => ?_)
      · refine vf_swd C (tgt := 1260) dA_sw h (by decide) ?_
        exact t_A_law_1260 C hn hX hr hst hZ hSX hb ih _ _
      refine vf_if _ (fun h => ?_) (fun _ => ?_)
      · refine vf_swx C (z := 0) (off := 181) (tgt := 220) dA_sw h (by decide) (by decide) rfl (by decide) ?_
        exact t_A_law_220 C hn hX hr hst hZ hSX hB ih _ _
      refine vf_if _ (fun h => ?_) (fun _ => ?_)
      · refine vf_swx C (z := 1) (off := 206) (tgt := 245) dA_sw h (by decide) (by decide) rfl (by decide) ?_
        exact t_A_law_245 C hn hX hr hst hZ hSX hB ih _ _
      refine vf_if _ (fun h => ?_) (fun _ => ?_)
      · refine vf_swx C (z := 2) (off := 231) (tgt := 270) dA_sw h (by decide) (by decide) rfl (by decide) ?_
        exact t_A_law_270 C hn hX hr hst hZ hSX hB ih _ _
      refine vf_if _ (fun h => ?_) (fun _ => ?_)
      · refine vf_swx C (z := 3) (off := 244) (tgt := 283) dA_sw h (by decide) (by decide) rfl (by decide) ?_
        exact t_A_law_283 C hn hX hr hst hZ hSX hB ih _ _
      refine vf_if _ (fun h => ?_) (fun _ => ?_)
      · refine vf_swx C (z := 4) (off := 257) (tgt := 296) dA_sw h (by decide) (by decide) rfl (by decide) ?_
        exact t_A_law_296 C hn hX hr hst hZ hSX hB ih _ _
      refine vf_if _ (fun h => ?_) (fun _ => ?_)
      · refine vf_swx C (z := 5) (off := 297) (tgt := 336) dA_sw h (by decide) (by decide) rfl (by decide) ?_
        exact t_A_law_336 C hn hX hr hst hZ hSX hB ih _ _
      refine vf_if _ (fun h => ?_) (fun _ => ?_)
      · refine vf_swx C (z := 6) (off := 334) (tgt := 373) dA_sw h (by decide) (by decide) rfl (by decide) ?_
        exact t_A_law_373 C hn hX hr hst hZ hSX hB ih _ _
      refine vf_if _ (fun h => ?_) (fun _ => ?_)
      · refine vf_swx C (z := 7) (off := 399) (tgt := 438) dA_sw h (by decide) (by decide) rfl (by decide) ?_
        exact t_A_law_438 C hn hX hr hst hZ hSX hB ih _ _
      refine vf_if _ (fun h => ?_) (fun _ => ?_)
      · refine vf_swx C (z := 8) (off := 452) (tgt := 491) dA_sw h (by decide) (by decide) rfl (by decide) ?_
        exact t_A_law_491 C hn hX hr hst hZ hSX hB ih _ _
      refine vf_if _ (fun h => ?_) (fun _ => ?_)
      · refine vf_swx C (z := 9) (off := 477) (tgt := 516) dA_sw h (by decide) (by decide) rfl (by decide) ?_
        exact t_A_law_516 C hn hX hr hst hZ hSX hB ih _ _
      refine vf_if _ (fun h => ?_) (fun _ => ?_)
      · refine vf_swx C (z := 10) (off := 538) (tgt := 577) dA_sw h (by decide) (by decide) rfl (by decide) ?_
        exact t_A_law_577 C hn hX hr hst hZ hSX hB ih _ _
      refine vf_if _ (fun h => ?_) (fun _ => ?_)
      · refine vf_swx C (z := 11) (off := 551) (tgt := 590) dA_sw h (by decide) (by decide) rfl (by decide) ?_
        exact t_A_law_590 C hn hX hr hst hZ hSX hB ih _ _
      refine vf_if _ (fun h => ?_) (fun _ => ?_)
      · refine vf_swx C (z := 12) (off := 576) (tgt := 615) dA_sw h (by decide) (by decide) rfl (by decide) ?_
        exact t_A_law_615 C hn hX hr hst hZ hSX hB ih _ _
      refine vf_if _ (fun h => ?_) (fun _ => ?_)
      · refine vf_swx C (z := 13) (off := 589) (tgt := 628) dA_sw h (by decide) (by decide) rfl (by decide) ?_
        exact t_A_law_628 C hn hX hr hst hZ hSX hB ih _ _
      refine vf_if _ (fun h => ?_) (fun _ => ?_)
      · refine vf_swx C (z := 14) (off := 602) (tgt := 641) dA_sw h (by decide) (by decide) rfl (by decide) ?_
        exact t_A_law_641 C hn hX hr hst hZ hSX hB ih _ _
      refine vf_if _ (fun h => ?_) (fun _ => ?_)
      · refine vf_swx C (z := 15) (off := 627) (tgt := 666) dA_sw h (by decide) (by decide) rfl (by decide) ?_
        exact t_A_law_666 C hn hX hr hst hZ hSX hB ih _ _
      refine vf_if _ (fun h => ?_) (fun _ => ?_)
      · refine vf_swx C (z := 16) (off := 640) (tgt := 679) dA_sw h (by decide) (by decide) rfl (by decide) ?_
        exact t_A_law_679 C hn hX hr hst hZ hSX hB ih _ _
      refine vf_if _ (fun h => ?_) (fun _ => ?_)
      · refine vf_swx C (z := 17) (off := 653) (tgt := 692) dA_sw h (by decide) (by decide) rfl (by decide) ?_
        exact t_A_law_692 C hn hX hr hst hZ hSX hB ih _ _
      refine vf_if _ (fun h => ?_) (fun _ => ?_)
      · refine vf_swx C (z := 18) (off := 666) (tgt := 705) dA_sw h (by decide) (by decide) rfl (by decide) ?_
        exact t_A_law_705 C hn hX hr hst hZ hSX hB ih _ _
      refine vf_if _ (fun h => ?_) (fun _ => ?_)
      · refine vf_swx C (z := 19) (off := 691) (tgt := 730) dA_sw h (by decide) (by decide) rfl (by decide) ?_
        exact t_A_law_730 C hn hX hr hst hZ hSX hB ih _ _
      refine vf_if _ (fun h => ?_) (fun _ => ?_)
      · refine vf_swx C (z := 20) (off := 716) (tgt := 755) dA_sw h (by decide) (by decide) rfl (by decide) ?_
        exact t_A_law_755 C hn hX hr hst hZ hSX hB ih _ _
      refine vf_if _ (fun h => ?_) (fun _ => ?_)
      · refine vf_swx C (z := 21) (off := 741) (tgt := 780) dA_sw h (by decide) (by decide) rfl (by decide) ?_
        exact t_A_law_780 C hn hX hr hst hZ hSX hB ih _ _
      refine vf_if _ (fun h => ?_) (fun _ => ?_)
      · refine vf_swx C (z := 22) (off := 754) (tgt := 793) dA_sw h (by decide) (by decide) rfl (by decide) ?_
        exact t_A_law_793 C hn hX hr hst hZ hSX hB ih _ _
      refine vf_if _ (fun h => ?_) (fun _ => ?_)
      · refine vf_swx C (z := 23) (off := 803) (tgt := 842) dA_sw h (by decide) (by decide) rfl (by decide) ?_
        exact t_A_law_842 C hn hX hr hst hZ hSX hB ih _ _
      refine vf_if _ (fun h => ?_) (fun _ => ?_)
      · refine vf_swx C (z := 24) (off := 816) (tgt := 855) dA_sw h (by decide) (by decide) rfl (by decide) ?_
        exact t_A_law_855 C hn hX hr hst hZ hSX hB ih _ _
      refine vf_if _ (fun h => ?_) (fun _ => ?_)
      · refine vf_swx C (z := 25) (off := 829) (tgt := 868) dA_sw h (by decide) (by decide) rfl (by decide) ?_
        exact t_A_law_868 C hn hX hr hst hZ hSX hB ih _ _
      refine vf_if _ (fun h => ?_) (fun _ => ?_)
      · refine vf_swx C (z := 26) (off := 854) (tgt := 893) dA_sw h (by decide) (by decide) rfl (by decide) ?_
        exact t_A_law_893 C hn hX hr hst hZ hSX hB ih _ _
      refine vf_if _ (fun h => ?_) (fun _ => ?_)
      · refine vf_swx C (z := 27) (off := 879) (tgt := 918) dA_sw h (by decide) (by decide) rfl (by decide) ?_
        exact t_A_law_918 C hn hX hr hst hZ hSX hB ih _ _
      refine vf_if _ (fun h => ?_) (fun _ => ?_)
      · refine vf_swx C (z := 28) (off := 904) (tgt := 943) dA_sw h (by decide) (by decide) rfl (by decide) ?_
        exact t_A_law_943 C hn hX hr hst hZ hSX hB ih _ _
      refine vf_if _ (fun h => ?_) (fun _ => ?_)
      · refine vf_swx C (z := 29) (off := 929) (tgt := 968) dA_sw h (by decide) (by decide) rfl (by decide) ?_
        exact t_A_law_968 C hn hX hr hst hZ hSX hB ih _ _
      refine vf_if _ (fun h => ?_) (fun _ => ?_)
      · refine vf_swx C (z := 30) (off := 942) (tgt := 981) dA_sw h (by decide) (by decide) rfl (by decide) ?_
        exact t_A_law_981 C hn hX hr hst hZ hSX hB ih _ _
      refine vf_if _ (fun h => ?_) (fun _ => ?_)
      · refine vf_swx C (z := 31) (off := 955) (tgt := 994) dA_sw h (by decide) (by decide) rfl (by decide) ?_
        exact t_A_law_994 C hn hX hr hst hZ hSX hB ih _ _
      refine vf_if _ (fun h => ?_) (fun _ => ?_)
      · refine vf_swx C (z := 32) (off := 968) (tgt := 1007) dA_sw h (by decide) (by decide) rfl (by decide) ?_
        exact t_A_law_1007 C hn hX hr hst hZ hSX hB ih _ _
      refine vf_if _ (fun h => ?_) (fun _ => ?_)
      · refine vf_swx C (z := 33) (off := 993) (tgt := 1032) dA_sw h (by decide) (by decide) rfl (by decide) ?_
        exact t_A_law_1032 C hn hX hr hst hZ hSX hB ih _ _
      refine vf_if _ (fun h => ?_) (fun _ => ?_)
      · refine vf_swx C (z := 34) (off := 1018) (tgt := 1057) dA_sw h (by decide) (by decide) rfl (by decide) ?_
        exact t_A_law_1057 C hn hX hr hst hZ hSX hB ih _ _
      refine vf_if _ (fun h => ?_) (fun _ => ?_)
      · refine vf_swx C (z := 35) (off := 1043) (tgt := 1082) dA_sw h (by decide) (by decide) rfl (by decide) ?_
        exact t_A_law_1082 C hn hX hr hst hZ hSX hB ih _ _
      refine vf_if _ (fun h => ?_) (fun _ => ?_)
      · refine vf_swx C (z := 36) (off := 1068) (tgt := 1107) dA_sw h (by decide) (by decide) rfl (by decide) ?_
        exact t_A_law_1107 C hn hX hr hst hZ hSX hB ih _ _
      refine vf_if _ (fun h => ?_) (fun _ => ?_)
      · refine vf_swx C (z := 37) (off := 1105) (tgt := 1144) dA_sw h (by decide) (by decide) rfl (by decide) ?_
        exact t_A_law_1144 C hn hX hr hst hZ hSX hB ih _ _
      refine vf_if _ (fun h => ?_) (fun _ => ?_)
      · refine vf_swx C (z := 38) (off := 1118) (tgt := 1157) dA_sw h (by decide) (by decide) rfl (by decide) ?_
        exact t_A_law_1157 C hn hX hr hst hZ hSX hB ih _ _
      refine vf_if _ (fun h => ?_) (fun _ => ?_)
      · refine vf_swx C (z := 39) (off := 1143) (tgt := 1182) dA_sw h (by decide) (by decide) rfl (by decide) ?_
        exact t_A_law_1182 C hn hX hr hst hZ hSX hB ih _ _
      refine vf_if _ (fun h => ?_) (fun _ => ?_)
      · refine vf_swx C (z := 40) (off := 1168) (tgt := 1207) dA_sw h (by decide) (by decide) rfl (by decide) ?_
        exact t_A_law_1207 C hn hX hr hst hZ hSX hB ih _ _
      refine vf_if _ (fun h => ?_) (fun _ => ?_)
      · refine vf_swx C (z := 41) (off := 1193) (tgt := 1232) dA_sw h (by decide) (by decide) rfl (by decide) ?_
        exact t_A_law_1232 C hn hX hr hst hZ hSX hB ih _ _
      exact vf_no
end
section
theorem ml_A_19 : ML "EachBringsAnotherLaw" 19 y_E_init := Or.inl (mem_h 107 (by decide +kernel))
theorem ml_A_22 : ML "EachBringsAnotherLaw" 22 y_R_init := Or.inl (mem_h 1214 (by decide +kernel))
theorem hft_10 (b : Nat) (fs : List (Nat × Nat)) (hfs : fs.map (·.1) = [3, 3, 3, 3, 3, 3, 3, 3, 3, 3]) : ∀ j, j < 10 → ∀ ty : Nat → FieldType, tyL[10]? = some ty → defaultValue (ty j) = jc (nad b) (jk (fs.getD j (0, 0)).1, 0) := by
  intro j hj ty h
  cases h
  have e : (fs.getD j (0, 0)).1 = (fs.map (·.1)).getD j 0 := by
    rw [List.getD_eq_getElem?_getD, List.getD_eq_getElem?_getD, List.getElem?_map]
    cases fs[j]? <;> rfl
  rw [e, hfs]
  match j, hj with
  | 0, _ => rfl
  | 1, _ => rfl
  | 2, _ => rfl
  | 3, _ => rfl
  | 4, _ => rfl
  | 5, _ => rfl
  | 6, _ => rfl
  | 7, _ => rfl
  | 8, _ => rfl
  | 9, _ => rfl
  | k + 10, h => exact absurd h (by omega)
theorem hft_11 (b : Nat) (fs : List (Nat × Nat)) (hfs : fs.map (·.1) = [0, 3, 3, 3, 3, 3, 3, 0, 0, 3, 0, 0, 3, 0, 3, 0, 0, 2, 0, 0, 0, 0, 3, 3, 3, 3, 3, 0, 0, 0, 3, 3, 0, 3, 3, 3, 3, 3, 3, 3, 0, 0, 3, 3, 0, 3, 3, 3, 3, 3, 3, 3, 0, 3, 3, 3, 0, 3, 3, 3]) : ∀ j, j < 60 → ∀ ty : Nat → FieldType, tyL[11]? = some ty → defaultValue (ty j) = jc (nad b) (jk (fs.getD j (0, 0)).1, 0) := by
  intro j hj ty h
  cases h
  have e : (fs.getD j (0, 0)).1 = (fs.map (·.1)).getD j 0 := by
    rw [List.getD_eq_getElem?_getD, List.getD_eq_getElem?_getD, List.getElem?_map]
    cases fs[j]? <;> rfl
  rw [e, hfs]
  match j, hj with
  | 0, _ => rfl
  | 1, _ => rfl
  | 2, _ => rfl
  | 3, _ => rfl
  | 4, _ => rfl
  | 5, _ => rfl
  | 6, _ => rfl
  | 7, _ => rfl
  | 8, _ => rfl
  | 9, _ => rfl
  | 10, _ => rfl
  | 11, _ => rfl
  | 12, _ => rfl
  | 13, _ => rfl
  | 14, _ => rfl
  | 15, _ => rfl
  | 16, _ => rfl
  | 17, _ => rfl
  | 18, _ => rfl
  | 19, _ => rfl
  | 20, _ => rfl
  | 21, _ => rfl
  | 22, _ => rfl
  | 23, _ => rfl
  | 24, _ => rfl
  | 25, _ => rfl
  | 26, _ => rfl
  | 27, _ => rfl
  | 28, _ => rfl
  | 29, _ => rfl
  | 30, _ => rfl
  | 31, _ => rfl
  | 32, _ => rfl
  | 33, _ => rfl
  | 34, _ => rfl
  | 35, _ => rfl
  | 36, _ => rfl
  | 37, _ => rfl
  | 38, _ => rfl
  | 39, _ => rfl
  | 40, _ => rfl
  | 41, _ => rfl
  | 42, _ => rfl
  | 43, _ => rfl
  | 44, _ => rfl
  | 45, _ => rfl
  | 46, _ => rfl
  | 47, _ => rfl
  | 48, _ => rfl
  | 49, _ => rfl
  | 50, _ => rfl
  | 51, _ => rfl
  | 52, _ => rfl
  | 53, _ => rfl
  | 54, _ => rfl
  | 55, _ => rfl
  | 56, _ => rfl
  | 57, _ => rfl
  | 58, _ => rfl
  | 59, _ => rfl
  | k + 60, h => exact absurd h (by omega)
/-! THE LAW'S START -/
def w00 : Wd := fun _ _ => 0
def w0 : Wd := i_R (i_E w00)
theorem jpt_in {c k z : Nat} (h : jpt c k = some z) : c < 83 ∧ k < 70 := by
  have hL : shL.all (fun x => match x with | .inl q => Nat.ble q.2.length 70 | .inr q => Nat.ble q.2.2.length 70) = true := by decide +kernel
  have hn : shL.length = 83 := by decide +kernel
  unfold jpt sh at h
  cases hs : shL[c]? with
  | none => rw [hs] at h; cases h
  | some x =>
    have hc : c < shL.length := (List.getElem?_eq_some_iff.mp hs).1
    have hx := List.all_eq_true.mp hL x (List.mem_of_getElem? hs)
    refine ⟨by omega, ?_⟩
    rw [hs] at h
    match x, hx, h with
    | .inl (ci, fs), hx, h =>
      have h1 := Nat.le_of_ble_eq_true hx
      simp only at h h1
      cases hf : fs[k]? with
      | none => rw [hf] at h; cases h
      | some q => exact Nat.lt_of_lt_of_le (List.getElem?_eq_some_iff.mp hf).1 h1
    | .inr (0, n, ps), hx, h => cases h
    | .inr (1, n, ps), hx, h => cases h
    | .inr (2, n, ps), hx, h =>
      have h1 := Nat.le_of_ble_eq_true hx
      simp only at h h1
      exact Nat.lt_of_lt_of_le (List.getElem?_eq_some_iff.mp h).1 h1
    | .inr (a + 3, n, ps), hx, h => cases h
theorem w0_ptb : (List.range 83).all (fun c => (List.range 70).all fun k => match jpt c k with | some z => decide (w0 c k = (z : Int)) | none => true) = true := by decide +kernel
theorem w0_pt : wpt w0 := fun c k z h => by
  obtain ⟨hc, hk⟩ := jpt_in h
  have h1 := List.all_eq_true.mp (List.all_eq_true.mp w0_ptb c (List.mem_range.mpr hc)) k (List.mem_range.mpr hk)
  rw [h] at h1
  exact of_decide_eq_true h1
theorem w00_ok : wok w00 := fun c k => by
  show jo (jkA c k, 0)
  unfold jo
  split <;> simp
theorem vn_vf {X : jX} {Q : State → Prop} {b k n pc : Nat} {w w9 : Wd} {r : Int} {L : List (Nat × jv)} {L0 : List (Nat × Value)} (hI : ∀ i, xA X (b + i)) (hp : wpt w) (hL : ∀ q ∈ L, jo q.2) (hl0 : jL (nad b) L = L0) (hF : VF X (fun _ => Q) (nad b) NF k n w pc L [] (some (r, w9))) : VN X (fun _ => Q) b L0 83 k n w pc [] w9 := by
  subst hl0
  intro hw hz H locs ls hsz hP hV hl
  exact hF _ rfl hw (fun _ => hp) hL (fun _ h => by cases h) H locs ls hP hV hl ⟨fun i j _ _ e => Nat.add_left_cancel e, fun i _ => hI i⟩
theorem room_n {X : jX} {k n k1 n1 : Nat} (h : xR X = room_1) (hd : (Nat.ble (k + k1) 601024 && Nat.ble (n + n1) 7293034) = true) : k + k1 ≤ (xR X).cells ∧ n + n1 ≤ (xR X).slots := by
  simp only [Bool.and_eq_true, Nat.ble_eq] at hd
  rw [h]; exact hd
theorem room_r {X : jX} {d0 mL k0 k1 n0 n1 : Nat} (h : xR X = room_1) (hd : (Nat.ble d0 900 && Nat.ble mL 41 && Nat.ble (k0 + k1) 601024 && Nat.ble (n0 + n1) 7293034) = true) : d0 + 1 ≤ (xR X).frames ∧ 19 + mL + 60 * d0 ≤ (xR X).locals ∧ k0 + k1 ≤ (xR X).cells ∧ n0 + n1 ≤ (xR X).slots := by
  simp only [Bool.and_eq_true, Nat.ble_eq] at hd
  rw [h]
  have e : room_1.frames = 2048 ∧ room_1.cells = 601024 ∧ room_1.slots = 7293034 ∧ room_1.locals = 84000 := ⟨rfl, rfl, rfl, rfl⟩
  obtain ⟨e1, e2, e3, e4⟩ := e
  rw [e1, e2, e3, e4]
  omega
/-- from the entry, where the pure function of the law says 1 -/
theorem law_start {p : Program} {e : Env} {s : State} {m : MethodId} {below : List Frame} {meth : Method} {c : Code} (l : Launch) (hflags : l.flags = flags0) {b Ln : Nat} {xf : Nat → Int32} (hLn : Ln < 1000000000) (C0 : lw_At p s m meth c b Ln xf) {f : Nat} {w9 : Wd} (hf : f ≤ 599919) (hg : f_A_law Ln xf f 0 w0 = some (1, w9)) : W p l e room_1 s m #[Value.ref b] below meth c s.heap [] 0 0 (lw_Z below #[Value.ref b] s) (entryFrame m ([Value.ref b] : List Value).toArray 7) := by
  obtain ⟨hx, hb, hr, hml, hown, hts, hXs, hbl, hlocks, hgv⟩ := C0
  obtain ⟨D, cA, hK⟩ := l_K hts
  let X : jX := (p, l, e, room_1, s, m, #[.ref b], below, meth, c, D, cA, AN s.heap.size, 7)
  have C : Cx X code "EachBringsAnotherLaw" := ⟨hx, hb, hown, l_gw hts, hK, hml, l_NW hts⟩
  have hAO : va_AO "EachBringsAnother$Kept" (xs X) := l_AO hts
  have hAn : ∀ a : Nat, a < s.heap.size → ¬ AN s.heap.size a := fun a h1 h2 => absurd h1 (Nat.not_lt.mpr h2)
  have hZ : ZX (xA X) (xs X) := l_ZX hts hgv hAn
  have hSX : SX (xs X) := l_SX hts
  have hlt : (xl X).stackTraces = false := by
    show l.stackTraces = false
    unfold Launch.stackTraces
    rw [hflags]
    decide
  have hXL : LX X (b : Int) Ln xf := ⟨by rw [Int.toNat_natCast]; exact hXs, by rw [Int.toNat_natCast]; exact hbl, by rw [Int.toNat_natCast]; exact hAn b hbl, hLn⟩
  have hl := lv_entry ([.ref b]) (n := 7) (Nat.le_of_ble_eq_true rfl)
  rw [lg_entry_eq]
  have hRt : RtL X (fun _ => lw_Z below #[.ref b] s) (nad s.heap.size) code := by
    intro f k n pc w L hB hd o ho hw hp hL hS H locs ls hP hV hl' hI
    cases ho
    have h1 : k ≤ 601024 := by have h := hB.1; have e : (xR X).cells = 601024 := rfl; omega
    have h2 : n ≤ 7293034 := by have h := hB.2.1; have e : (xR X).slots = 7293034 := rfl; omega
    exact va_forget (fun q hq => hV.2.2 q hq) (W.widen (k := 601024) (n := 7293034) h1 h2 (lw_ret hx hb hr hlocks hd))
  have hLB : LB X f 83 968935 := ⟨by show 83 + f ≤ 601024; omega, by show 968935 + 6 * f ≤ 7293034; omega, by show 300 ≤ 2048; decide, by show 18060 ≤ 84000; decide⟩
  have hLj : ∀ q ∈ ([(3, (2, 83)), (2, (2, 44)), (1, (2, 1)), (0, (3, (b : Int)))] : List (Nat × jv)), jo q.2 := by
    intro q hq
    simp only [List.mem_cons, List.not_mem_nil, or_false] at hq
    rcases hq with rfl | rfl | rfl | rfl
    · show (0 : Int) ≤ 83; decide
    · show (0 : Int) ≤ 44; decide
    · show (0 : Int) ≤ 1; decide
    · exact Int.natCast_nonneg b
  have hVN : VN X (fun _ => lw_Z below #[.ref b] s) s.heap.size [(0, .ref b)] 0 0 0 w00 0 [] w9 := by
    refine vn_new C hAO (idx := 8) (q := ("EachBringsAnother", TN10, 10)) sh_0 rfl rfl (hft_10 _ _ rfl) (mem_h 105 (by decide +kernel)) (mem_h 106 (by decide +kernel)) (mem_h 84 (by decide +kernel)) (room_n rfl rfl) (by decide +kernel) ?_
    refine vn_dup C (by decide +kernel) rfl ?_
    refine vn_call C hAO rfl cyn_E ml_A_19 ctn_E (room_r rfl rfl) (Nat.le_of_ble_eq_true rfl) (by decide +kernel) ?_
    refine vn_astore_n C (f := 1) (i := 1) (nL := 7) (L1 := [(1, .ref (s.heap.size + 0)), (0, .ref b)]) (by decide +kernel) rfl rfl (by decide) rfl ?_
    refine vn_new C hAO (idx := 20) (q := ("EachBringsAnotherModel", TN11, 60)) sh_43 rfl rfl (hft_11 _ _ rfl) (mem_h 1212 (by decide +kernel)) (mem_h 1213 (by decide +kernel)) (mem_h 95 (by decide +kernel)) (room_n rfl rfl) (by decide +kernel) ?_
    refine vn_dup C (by decide +kernel) rfl ?_
    refine vn_call C hAO rfl cyn_R ml_A_22 ctn_R (room_r rfl rfl) (Nat.le_of_ble_eq_true rfl) (by decide +kernel) ?_
    refine vn_astore_n C (f := 2) (i := 2) (nL := 7) (L1 := [(2, .ref (s.heap.size + 43)), (1, .ref (s.heap.size + 0)), (0, .ref b)]) (by decide +kernel) rfl rfl (by decide) rfl ?_
    refine vn_ic C (z := 1) (by decide +kernel) ?_
    refine vn_newa C (z := 1) sh_82 (by decide) (by decide) rfl rfl (Nat.le_of_ble_eq_true rfl) (mem_h 408 (by decide +kernel)) (room_n rfl rfl) (at9 := .long) (by decide +kernel) ?_
    refine vn_astore_n C (f := 3) (i := 3) (nL := 7) (L1 := [(3, .ref (s.heap.size + 82)), (2, .ref (s.heap.size + 43)), (1, .ref (s.heap.size + 0)), (0, .ref b)]) (by decide +kernel) rfl rfl (by decide) rfl ?_
    refine vn_vf (r := 1) (L := [(3, (2, 83)), (2, (2, 44)), (1, (2, 1)), (0, (3, (b : Int)))]) (fun i => Nat.le_add_right _ i) w0_pt hLj rfl ?_
    refine vf_iconst C (z := 0) (by decide +kernel) (jz rfl) ?_
    refine vf_istore C (i := 4) (nL := 7) (L' := [(3, (2, 83)), (2, (2, 44)), (1, (2, 1)), (0, (3, (b : Int)))]) (by decide +kernel) [0, 1, 2, 3] (jrI rfl rfl) rfl (by decide) ?_
    refine vf_perm [4, 3, 2, 1, 0] rfl ?_
    rw [← hg]
    exact t_A_law C rfl hXL hRt hlt hZ hSX f 83 968935 0 w0 hLB
  exact hVN w00_ok (fun _ _ _ => rfl) s.heap [] _ rfl (fun k q h => by simp [wl] at h) va_S.rf hl
end
