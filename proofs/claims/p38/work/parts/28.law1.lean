def f_A_law_1260 (Ln : Nat) (xs9 : Nat → Int32) (k23 : Int → Wd → Option (Int × Wd)) (v4 : Int) (w : Wd) : Option (Int × Wd) :=
  jlet (w32 (v4 + 5)) fun x2 =>
  k23 x2 w
theorem t_A_law_1260 {X : jX} {Qf : Int × Wd → State → Prop} {ad : Nat → Nat} {sbI : Int} {Ln : Nat} {xs9 : Nat → Int32} (C : Cx X code "EachBringsAnotherLaw") (hn : xn X = 7) (hX : LX X sbI Ln xs9) (hr : RtL X Qf ad code) (hst : (xl X).stackTraces = false) (hZ : ZX (xA X) (xs X)) (hSX : SX (xs X)) {f k n : Nat} (hb : LB X f k n) {k23 : Int → Wd → Option (Int × Wd)} (hk23 : ∀ (k n : Nat) (v4 : Int) (w : Wd), LB X f k n → VF X Qf ad NF k n w 23 [(0, (3, sbI)), (1, (2, 1)), (2, (2, 44)), (3, (2, 83)), (4, (0, v4))] [] (k23 v4 w)) (v4 : Int) (w : Wd) : VF X Qf ad NF k n w 1260 [(0, (3, sbI)), (1, (2, 1)), (2, (2, 44)), (3, (2, 83)), (4, (0, v4))] [] (f_A_law_1260 Ln xs9 k23 v4 w) := by
  unfold f_A_law_1260
  refine vf_iinc C (z := 5) (L' := [(0, (3, sbI)), (1, (2, 1)), (2, (2, 44)), (3, (2, 83))]) (zdg dz_A_law_29 19 rfl) 4 rfl [0, 1, 2, 3] (jrI rfl rfl) hn (by decide) ?_
  generalize w32 (v4 + 5) = x2
  refine vf_ul ?_
  refine vf_goto C (off := (-1240)) (tgt := 23) (zdg dz_A_law_29 20 rfl) (by decide) ?_
  exact vf_perm [1, 2, 3, 4, 0] rfl (hk23 _ _ _ _ hb)
def f_A_law_220 (Ln : Nat) (xs9 : Nat → Int32) (k23 : Int → Wd → Option (Int × Wd)) (v4 : Int) (w : Wd) : Option (Int × Wd) :=
  jgd ((0 : Int) ≤ (w32 (v4 + 1)) ∧ (w32 (v4 + 1)) < (Ln : Int)) <|
  jcall (f_E_sign ((xs9 (w32 (v4 + 1)).toNat).toInt) w) fun r3 u4 =>
  jgd ((0 : Int) ≤ (w32 (v4 + 1)) ∧ (w32 (v4 + 1)) < (Ln : Int)) <|
  jcall (f_R_sign ((xs9 (w32 (v4 + 1)).toNat).toInt) u4) fun r5 u6 =>
  f_A_law_1260 Ln xs9 k23 v4 u6
theorem t_A_law_220 {X : jX} {Qf : Int × Wd → State → Prop} {ad : Nat → Nat} {sbI : Int} {Ln : Nat} {xs9 : Nat → Int32} (C : Cx X code "EachBringsAnotherLaw") (hn : xn X = 7) (hX : LX X sbI Ln xs9) (hr : RtL X Qf ad code) (hst : (xl X).stackTraces = false) (hZ : ZX (xA X) (xs X)) (hSX : SX (xs X)) {f k n : Nat} (hB : LB X (f + 1) k n) {k23 : Int → Wd → Option (Int × Wd)} (hk23 : ∀ (k n : Nat) (v4 : Int) (w : Wd), LB X f k n → VF X Qf ad NF k n w 23 [(0, (3, sbI)), (1, (2, 1)), (2, (2, 44)), (3, (2, 83)), (4, (0, v4))] [] (k23 v4 w)) (v4 : Int) (w : Wd) : VF X Qf ad NF k n w 220 [(0, (3, sbI)), (1, (2, 1)), (2, (2, 44)), (3, (2, 83)), (4, (0, v4))] [] (f_A_law_220 Ln xs9 k23 v4 w) := by
  have hb := hB.s
  have hb1 := hB.t
  unfold f_A_law_220
  refine vf_aload_n C (f := 1) (zdg dz_A_law_0 23 rfl) 1 rfl rfl ?_
  refine vf_aload3_n C (f := 0) (zdg dz_A_law_1 0 rfl) 0 rfl rfl ?_
  refine vf_iload C (zdg dz_A_law_1 1 rfl) 4 rfl ?_
  refine vf_iconst C (z := 1) (zdg dz_A_law_1 2 rfl) (jz rfl) ?_
  refine vf_iadd C (zdg dz_A_law_1 3 rfl) ?_
  refine vf_xld C hX (zdg dz_A_law_1 4 rfl) ?_
  refine vf_callVi C cy_E_sign ml_A_23 rfl (ct_E_sign _ _) (S := []) sh_0 (by decide) rfl (lb_jrm hb rfl) rfl rfl (Nat.le_of_ble_eq_true rfl) (zdg dz_A_law_1 5 rfl) (fun r3 u4 => ?_)
  refine vf_pop C (zdg dz_A_law_1 6 rfl) Nat.zero_ne_one ?_
  refine vf_aload_n C (f := 2) (zdg dz_A_law_1 7 rfl) 2 rfl rfl ?_
  refine vf_aload3_n C (f := 0) (zdg dz_A_law_1 8 rfl) 0 rfl rfl ?_
  refine vf_iload C (zdg dz_A_law_1 9 rfl) 4 rfl ?_
  refine vf_iconst C (z := 1) (zdg dz_A_law_1 10 rfl) (jz rfl) ?_
  refine vf_iadd C (zdg dz_A_law_1 11 rfl) ?_
  refine vf_xld C hX (zdg dz_A_law_1 12 rfl) ?_
  refine vf_callVi C cy_R_sign ml_A_26 rfl (ct_R_sign _ _) (S := []) sh_43 (by decide) rfl (lb_jrm hb rfl) rfl rfl (Nat.le_of_ble_eq_true rfl) (zdg dz_A_law_1 13 rfl) (fun r5 u6 => ?_)
  refine vf_pop C (zdg dz_A_law_1 14 rfl) Nat.zero_ne_one ?_
  refine vf_goto C (off := 1018) (tgt := 1260) (zdg dz_A_law_1 15 rfl) (by decide) ?_
  exact t_A_law_1260 C hn hX hr hst hZ hSX hb hk23 _ _
def f_A_law_245 (Ln : Nat) (xs9 : Nat → Int32) (k23 : Int → Wd → Option (Int × Wd)) (v4 : Int) (w : Wd) : Option (Int × Wd) :=
  jgd ((0 : Int) ≤ (w32 (v4 + 1)) ∧ (w32 (v4 + 1)) < (Ln : Int)) <|
  jcall (f_E_end ((xs9 (w32 (v4 + 1)).toNat).toInt) w) fun r7 u8 =>
  jgd ((0 : Int) ≤ (w32 (v4 + 1)) ∧ (w32 (v4 + 1)) < (Ln : Int)) <|
  jcall (f_R_end ((xs9 (w32 (v4 + 1)).toNat).toInt) u8) fun r9 u10 =>
  f_A_law_1260 Ln xs9 k23 v4 u10
theorem t_A_law_245 {X : jX} {Qf : Int × Wd → State → Prop} {ad : Nat → Nat} {sbI : Int} {Ln : Nat} {xs9 : Nat → Int32} (C : Cx X code "EachBringsAnotherLaw") (hn : xn X = 7) (hX : LX X sbI Ln xs9) (hr : RtL X Qf ad code) (hst : (xl X).stackTraces = false) (hZ : ZX (xA X) (xs X)) (hSX : SX (xs X)) {f k n : Nat} (hB : LB X (f + 1) k n) {k23 : Int → Wd → Option (Int × Wd)} (hk23 : ∀ (k n : Nat) (v4 : Int) (w : Wd), LB X f k n → VF X Qf ad NF k n w 23 [(0, (3, sbI)), (1, (2, 1)), (2, (2, 44)), (3, (2, 83)), (4, (0, v4))] [] (k23 v4 w)) (v4 : Int) (w : Wd) : VF X Qf ad NF k n w 245 [(0, (3, sbI)), (1, (2, 1)), (2, (2, 44)), (3, (2, 83)), (4, (0, v4))] [] (f_A_law_245 Ln xs9 k23 v4 w) := by
  have hb := hB.s
  have hb1 := hB.t
  unfold f_A_law_245
  refine vf_aload_n C (f := 1) (zdg dz_A_law_1 16 rfl) 1 rfl rfl ?_
  refine vf_aload3_n C (f := 0) (zdg dz_A_law_1 17 rfl) 0 rfl rfl ?_
  refine vf_iload C (zdg dz_A_law_1 18 rfl) 4 rfl ?_
  refine vf_iconst C (z := 1) (zdg dz_A_law_1 19 rfl) (jz rfl) ?_
  refine vf_iadd C (zdg dz_A_law_1 20 rfl) ?_
  refine vf_xld C hX (zdg dz_A_law_1 21 rfl) ?_
  refine vf_callVz C cy_E_end ml_A_27 rfl (ct_E_end _ _) (S := []) sh_0 (by decide) rfl (lb_jrm hb rfl) rfl rfl (Nat.le_of_ble_eq_true rfl) (zdg dz_A_law_1 22 rfl) (fun r7 u8 => ?_)
  refine vf_pop C (zdg dz_A_law_1 23 rfl) Nat.zero_ne_one ?_
  refine vf_aload_n C (f := 2) (zdg dz_A_law_2 0 rfl) 2 rfl rfl ?_
  refine vf_aload3_n C (f := 0) (zdg dz_A_law_2 1 rfl) 0 rfl rfl ?_
  refine vf_iload C (zdg dz_A_law_2 2 rfl) 4 rfl ?_
  refine vf_iconst C (z := 1) (zdg dz_A_law_2 3 rfl) (jz rfl) ?_
  refine vf_iadd C (zdg dz_A_law_2 4 rfl) ?_
  refine vf_xld C hX (zdg dz_A_law_2 5 rfl) ?_
  refine vf_callVz C cy_R_end ml_A_31 rfl (ct_R_end _ _) (S := []) sh_43 (by decide) rfl (lb_jrm hb rfl) rfl rfl (Nat.le_of_ble_eq_true rfl) (zdg dz_A_law_2 6 rfl) (fun r9 u10 => ?_)
  refine vf_pop C (zdg dz_A_law_2 7 rfl) Nat.zero_ne_one ?_
  refine vf_goto C (off := 993) (tgt := 1260) (zdg dz_A_law_2 8 rfl) (by decide) ?_
  exact t_A_law_1260 C hn hX hr hst hZ hSX hb hk23 _ _
def f_A_law_270 (Ln : Nat) (xs9 : Nat → Int32) (k23 : Int → Wd → Option (Int × Wd)) (v4 : Int) (w : Wd) : Option (Int × Wd) :=
  jcall (f_E_land w) fun r11 u12 =>
  jcall (f_R_land u12) fun r13 u14 =>
  f_A_law_1260 Ln xs9 k23 v4 u14
theorem t_A_law_270 {X : jX} {Qf : Int × Wd → State → Prop} {ad : Nat → Nat} {sbI : Int} {Ln : Nat} {xs9 : Nat → Int32} (C : Cx X code "EachBringsAnotherLaw") (hn : xn X = 7) (hX : LX X sbI Ln xs9) (hr : RtL X Qf ad code) (hst : (xl X).stackTraces = false) (hZ : ZX (xA X) (xs X)) (hSX : SX (xs X)) {f k n : Nat} (hB : LB X (f + 1) k n) {k23 : Int → Wd → Option (Int × Wd)} (hk23 : ∀ (k n : Nat) (v4 : Int) (w : Wd), LB X f k n → VF X Qf ad NF k n w 23 [(0, (3, sbI)), (1, (2, 1)), (2, (2, 44)), (3, (2, 83)), (4, (0, v4))] [] (k23 v4 w)) (v4 : Int) (w : Wd) : VF X Qf ad NF k n w 270 [(0, (3, sbI)), (1, (2, 1)), (2, (2, 44)), (3, (2, 83)), (4, (0, v4))] [] (f_A_law_270 Ln xs9 k23 v4 w) := by
  have hb := hB.s
  have hb1 := hB.t
  unfold f_A_law_270
  refine vf_aload_n C (f := 1) (zdg dz_A_law_2 9 rfl) 1 rfl rfl ?_
  refine vf_callVi C cy_E_land ml_A_32 rfl (ct_E_land _) (S := []) sh_0 (by decide) rfl (lb_jrm hb rfl) rfl rfl (Nat.le_of_ble_eq_true rfl) (zdg dz_A_law_2 10 rfl) (fun r11 u12 => ?_)
  refine vf_pop C (zdg dz_A_law_2 11 rfl) Nat.zero_ne_one ?_
  refine vf_aload_n C (f := 2) (zdg dz_A_law_2 12 rfl) 2 rfl rfl ?_
  refine vf_callVi C cy_R_land ml_A_36 rfl (ct_R_land _) (S := []) sh_43 (by decide) rfl (lb_jrm hb rfl) rfl rfl (Nat.le_of_ble_eq_true rfl) (zdg dz_A_law_2 13 rfl) (fun r13 u14 => ?_)
  refine vf_pop C (zdg dz_A_law_2 14 rfl) Nat.zero_ne_one ?_
  refine vf_goto C (off := 980) (tgt := 1260) (zdg dz_A_law_2 15 rfl) (by decide) ?_
  exact t_A_law_1260 C hn hX hr hst hZ hSX hb hk23 _ _
def f_A_law_283 (Ln : Nat) (xs9 : Nat → Int32) (k23 : Int → Wd → Option (Int × Wd)) (v4 : Int) (w : Wd) : Option (Int × Wd) :=
  jcall (f_E_rule w) fun r15 u16 =>
  jcall (f_R_rule u16) fun r17 u18 =>
  f_A_law_1260 Ln xs9 k23 v4 u18
theorem t_A_law_283 {X : jX} {Qf : Int × Wd → State → Prop} {ad : Nat → Nat} {sbI : Int} {Ln : Nat} {xs9 : Nat → Int32} (C : Cx X code "EachBringsAnotherLaw") (hn : xn X = 7) (hX : LX X sbI Ln xs9) (hr : RtL X Qf ad code) (hst : (xl X).stackTraces = false) (hZ : ZX (xA X) (xs X)) (hSX : SX (xs X)) {f k n : Nat} (hB : LB X (f + 1) k n) {k23 : Int → Wd → Option (Int × Wd)} (hk23 : ∀ (k n : Nat) (v4 : Int) (w : Wd), LB X f k n → VF X Qf ad NF k n w 23 [(0, (3, sbI)), (1, (2, 1)), (2, (2, 44)), (3, (2, 83)), (4, (0, v4))] [] (k23 v4 w)) (v4 : Int) (w : Wd) : VF X Qf ad NF k n w 283 [(0, (3, sbI)), (1, (2, 1)), (2, (2, 44)), (3, (2, 83)), (4, (0, v4))] [] (f_A_law_283 Ln xs9 k23 v4 w) := by
  have hb := hB.s
  have hb1 := hB.t
  unfold f_A_law_283
  refine vf_aload_n C (f := 1) (zdg dz_A_law_2 16 rfl) 1 rfl rfl ?_
  refine vf_callVi C cy_E_rule ml_A_37 rfl (ct_E_rule _) (S := []) sh_0 (by decide) rfl (lb_jrm hb rfl) rfl rfl (Nat.le_of_ble_eq_true rfl) (zdg dz_A_law_2 17 rfl) (fun r15 u16 => ?_)
  refine vf_pop C (zdg dz_A_law_2 18 rfl) Nat.zero_ne_one ?_
  refine vf_aload_n C (f := 2) (zdg dz_A_law_2 19 rfl) 2 rfl rfl ?_
  refine vf_callVi C cy_R_rule ml_A_40 rfl (ct_R_rule _) (S := []) sh_43 (by decide) rfl (lb_jrm hb rfl) rfl rfl (Nat.le_of_ble_eq_true rfl) (zdg dz_A_law_2 20 rfl) (fun r17 u18 => ?_)
  refine vf_pop C (zdg dz_A_law_2 21 rfl) Nat.zero_ne_one ?_
  refine vf_goto C (off := 967) (tgt := 1260) (zdg dz_A_law_2 22 rfl) (by decide) ?_
  exact t_A_law_1260 C hn hX hr hst hZ hSX hb hk23 _ _
def f_A_law_296 (Ln : Nat) (xs9 : Nat → Int32) (k23 : Int → Wd → Option (Int × Wd)) (v4 : Int) (w : Wd) : Option (Int × Wd) :=
  jgd ((0 : Int) ≤ (w32 (v4 + 1)) ∧ (w32 (v4 + 1)) < (Ln : Int)) <|
  jgd ((0 : Int) ≤ (w32 (v4 + 2)) ∧ (w32 (v4 + 2)) < (Ln : Int)) <|
  jcall (f_A_of ((xs9 (w32 (v4 + 1)).toNat).toInt) ((xs9 (w32 (v4 + 2)).toNat).toInt) w) fun r19 u20 =>
  jgd ((0 : Int) ≤ (w32 (v4 + 1)) ∧ (w32 (v4 + 1)) < (Ln : Int)) <|
  jgd ((0 : Int) ≤ (w32 (v4 + 2)) ∧ (w32 (v4 + 2)) < (Ln : Int)) <|
  jcall (f_R_of ((xs9 (w32 (v4 + 1)).toNat).toInt) ((xs9 (w32 (v4 + 2)).toNat).toInt) u20) fun r21 u22 =>
  f_A_law_1260 Ln xs9 k23 v4 u22
theorem t_A_law_296 {X : jX} {Qf : Int × Wd → State → Prop} {ad : Nat → Nat} {sbI : Int} {Ln : Nat} {xs9 : Nat → Int32} (C : Cx X code "EachBringsAnotherLaw") (hn : xn X = 7) (hX : LX X sbI Ln xs9) (hr : RtL X Qf ad code) (hst : (xl X).stackTraces = false) (hZ : ZX (xA X) (xs X)) (hSX : SX (xs X)) {f k n : Nat} (hB : LB X (f + 1) k n) {k23 : Int → Wd → Option (Int × Wd)} (hk23 : ∀ (k n : Nat) (v4 : Int) (w : Wd), LB X f k n → VF X Qf ad NF k n w 23 [(0, (3, sbI)), (1, (2, 1)), (2, (2, 44)), (3, (2, 83)), (4, (0, v4))] [] (k23 v4 w)) (v4 : Int) (w : Wd) : VF X Qf ad NF k n w 296 [(0, (3, sbI)), (1, (2, 1)), (2, (2, 44)), (3, (2, 83)), (4, (0, v4))] [] (f_A_law_296 Ln xs9 k23 v4 w) := by
  have hb := hB.s
  have hb1 := hB.t
  unfold f_A_law_296
  refine vf_aload_n C (f := 1) (zdg dz_A_law_2 23 rfl) 1 rfl rfl ?_
  refine vf_aload3_n C (f := 0) (zdg dz_A_law_3 0 rfl) 0 rfl rfl ?_
  refine vf_iload C (zdg dz_A_law_3 1 rfl) 4 rfl ?_
  refine vf_iconst C (z := 1) (zdg dz_A_law_3 2 rfl) (jz rfl) ?_
  refine vf_iadd C (zdg dz_A_law_3 3 rfl) ?_
  refine vf_xld C hX (zdg dz_A_law_3 4 rfl) ?_
  refine vf_aload3_n C (f := 0) (zdg dz_A_law_3 5 rfl) 0 rfl rfl ?_
  refine vf_iload C (zdg dz_A_law_3 6 rfl) 4 rfl ?_
  refine vf_iconst C (z := 2) (zdg dz_A_law_3 7 rfl) (jz rfl) ?_
  refine vf_iadd C (zdg dz_A_law_3 8 rfl) ?_
  refine vf_xld C hX (zdg dz_A_law_3 9 rfl) ?_
  refine vf_aload_n C (f := 3) (zdg dz_A_law_3 10 rfl) 3 rfl rfl ?_
  refine vf_callH C hAd_of hAi hAl_of hAs_of hAc_of (ct_A_of _ _ _) (S := []) (lb_jrm hb1 rfl) rfl rfl (Nat.le_of_ble_eq_true rfl) (zdg dz_A_law_3 11 rfl) hst hZ hSX (fun r19 u20 => ?_)
  refine vf_istore C (i := 5) (L' := [(0, (3, sbI)), (1, (2, 1)), (2, (2, 44)), (3, (2, 83)), (4, (0, v4))]) (zdg dz_A_law_3 12 rfl) [0, 1, 2, 3, 4] (jrI rfl rfl) hn (by decide) ?_
  refine vf_aload_n C (f := 2) (zdg dz_A_law_3 13 rfl) 3 rfl rfl ?_
  refine vf_aload3_n C (f := 0) (zdg dz_A_law_3 14 rfl) 1 rfl rfl ?_
  refine vf_iload C (zdg dz_A_law_3 15 rfl) 5 rfl ?_
  refine vf_iconst C (z := 1) (zdg dz_A_law_3 16 rfl) (jz rfl) ?_
  refine vf_iadd C (zdg dz_A_law_3 17 rfl) ?_
  refine vf_xld C hX (zdg dz_A_law_3 18 rfl) ?_
  refine vf_aload3_n C (f := 0) (zdg dz_A_law_3 19 rfl) 1 rfl rfl ?_
  refine vf_iload C (zdg dz_A_law_3 20 rfl) 5 rfl ?_
  refine vf_iconst C (z := 2) (zdg dz_A_law_3 21 rfl) (jz rfl) ?_
  refine vf_iadd C (zdg dz_A_law_3 22 rfl) ?_
  refine vf_xld C hX (zdg dz_A_law_3 23 rfl) ?_
  refine vf_callVi C cy_R_of ml_A_46 rfl (ct_R_of _ _ _) (S := []) sh_43 (by decide) rfl (lb_jrm hb1 rfl) rfl rfl (Nat.le_of_ble_eq_true rfl) (zdg dz_A_law_4 0 rfl) (fun r21 u22 => ?_)
  refine vf_istore C (i := 6) (L' := [(0, (3, sbI)), (1, (2, 1)), (2, (2, 44)), (3, (2, 83)), (4, (0, v4))]) (zdg dz_A_law_4 1 rfl) [1, 2, 3, 4, 5] (jrI rfl rfl) hn (by decide) ?_
  refine vf_goto C (off := 927) (tgt := 1260) (zdg dz_A_law_4 2 rfl) (by decide) ?_
  exact vf_perm [1, 2, 3, 4, 5] rfl (t_A_law_1260 C hn hX hr hst hZ hSX hb1 hk23 _ _)
def f_A_law_336 (Ln : Nat) (xs9 : Nat → Int32) (k23 : Int → Wd → Option (Int × Wd)) (v4 : Int) (w : Wd) : Option (Int × Wd) :=
  jgd ((0 : Int) ≤ (w32 (v4 + 1)) ∧ (w32 (v4 + 1)) < (Ln : Int)) <|
  jgd ((0 : Int) ≤ (w32 (v4 + 2)) ∧ (w32 (v4 + 2)) < (Ln : Int)) <|
  jcall (f_E_law ((xs9 (w32 (v4 + 1)).toNat).toInt) ((xs9 (w32 (v4 + 2)).toNat).toInt) w) fun r23 u24 =>
  jgd ((0 : Int) ≤ (w32 (v4 + 1)) ∧ (w32 (v4 + 1)) < (Ln : Int)) <|
  jgd ((0 : Int) ≤ (w32 (v4 + 2)) ∧ (w32 (v4 + 2)) < (Ln : Int)) <|
  jcall (f_R_law ((xs9 (w32 (v4 + 1)).toNat).toInt) ((xs9 (w32 (v4 + 2)).toNat).toInt) u24) fun r25 u26 =>
  f_A_law_1260 Ln xs9 k23 v4 u26
theorem t_A_law_336 {X : jX} {Qf : Int × Wd → State → Prop} {ad : Nat → Nat} {sbI : Int} {Ln : Nat} {xs9 : Nat → Int32} (C : Cx X code "EachBringsAnotherLaw") (hn : xn X = 7) (hX : LX X sbI Ln xs9) (hr : RtL X Qf ad code) (hst : (xl X).stackTraces = false) (hZ : ZX (xA X) (xs X)) (hSX : SX (xs X)) {f k n : Nat} (hB : LB X (f + 1) k n) {k23 : Int → Wd → Option (Int × Wd)} (hk23 : ∀ (k n : Nat) (v4 : Int) (w : Wd), LB X f k n → VF X Qf ad NF k n w 23 [(0, (3, sbI)), (1, (2, 1)), (2, (2, 44)), (3, (2, 83)), (4, (0, v4))] [] (k23 v4 w)) (v4 : Int) (w : Wd) : VF X Qf ad NF k n w 336 [(0, (3, sbI)), (1, (2, 1)), (2, (2, 44)), (3, (2, 83)), (4, (0, v4))] [] (f_A_law_336 Ln xs9 k23 v4 w) := by
  have hb := hB.s
  have hb1 := hB.t
  unfold f_A_law_336
  refine vf_aload_n C (f := 1) (zdg dz_A_law_4 3 rfl) 1 rfl rfl ?_
  refine vf_aload3_n C (f := 0) (zdg dz_A_law_4 4 rfl) 0 rfl rfl ?_
  refine vf_iload C (zdg dz_A_law_4 5 rfl) 4 rfl ?_
  refine vf_iconst C (z := 1) (zdg dz_A_law_4 6 rfl) (jz rfl) ?_
  refine vf_iadd C (zdg dz_A_law_4 7 rfl) ?_
  refine vf_xld C hX (zdg dz_A_law_4 8 rfl) ?_
  refine vf_aload3_n C (f := 0) (zdg dz_A_law_4 9 rfl) 0 rfl rfl ?_
  refine vf_iload C (zdg dz_A_law_4 10 rfl) 4 rfl ?_
  refine vf_iconst C (z := 2) (zdg dz_A_law_4 11 rfl) (jz rfl) ?_
  refine vf_iadd C (zdg dz_A_law_4 12 rfl) ?_
  refine vf_xld C hX (zdg dz_A_law_4 13 rfl) ?_
  refine vf_callVi C cy_E_law ml_A_47 rfl (ct_E_law _ _ _) (S := []) sh_0 (by decide) rfl (lb_jrm hb rfl) rfl rfl (Nat.le_of_ble_eq_true rfl) (zdg dz_A_law_4 14 rfl) (fun r23 u24 => ?_)
  refine vf_pop C (zdg dz_A_law_4 15 rfl) Nat.zero_ne_one ?_
  refine vf_aload_n C (f := 2) (zdg dz_A_law_4 16 rfl) 2 rfl rfl ?_
  refine vf_aload3_n C (f := 0) (zdg dz_A_law_4 17 rfl) 0 rfl rfl ?_
  refine vf_iload C (zdg dz_A_law_4 18 rfl) 4 rfl ?_
  refine vf_iconst C (z := 1) (zdg dz_A_law_4 19 rfl) (jz rfl) ?_
  refine vf_iadd C (zdg dz_A_law_4 20 rfl) ?_
  refine vf_xld C hX (zdg dz_A_law_4 21 rfl) ?_
  refine vf_aload3_n C (f := 0) (zdg dz_A_law_4 22 rfl) 0 rfl rfl ?_
  refine vf_iload C (zdg dz_A_law_4 23 rfl) 4 rfl ?_
  refine vf_iconst C (z := 2) (zdg dz_A_law_5 0 rfl) (jz rfl) ?_
  refine vf_iadd C (zdg dz_A_law_5 1 rfl) ?_
  refine vf_xld C hX (zdg dz_A_law_5 2 rfl) ?_
  refine vf_callVi C cy_R_law ml_A_50 rfl (ct_R_law _ _ _) (S := []) sh_43 (by decide) rfl (lb_jrm hb rfl) rfl rfl (Nat.le_of_ble_eq_true rfl) (zdg dz_A_law_5 3 rfl) (fun r25 u26 => ?_)
  refine vf_pop C (zdg dz_A_law_5 4 rfl) Nat.zero_ne_one ?_
  refine vf_goto C (off := 890) (tgt := 1260) (zdg dz_A_law_5 5 rfl) (by decide) ?_
  exact t_A_law_1260 C hn hX hr hst hZ hSX hb hk23 _ _
def f_A_law_431 (Ln : Nat) (xs9 : Nat → Int32) (k23 : Int → Wd → Option (Int × Wd)) (v4 s1 s2 s3 : Int) (w : Wd) : Option (Int × Wd) :=
  jcall (f_R_meet s1 s2 s3 w) fun r29 u30 =>
  f_A_law_1260 Ln xs9 k23 v4 u30
theorem t_A_law_431 {X : jX} {Qf : Int × Wd → State → Prop} {ad : Nat → Nat} {sbI : Int} {Ln : Nat} {xs9 : Nat → Int32} (C : Cx X code "EachBringsAnotherLaw") (hn : xn X = 7) (hX : LX X sbI Ln xs9) (hr : RtL X Qf ad code) (hst : (xl X).stackTraces = false) (hZ : ZX (xA X) (xs X)) (hSX : SX (xs X)) {f k n : Nat} (hb : LB X f k n) {k23 : Int → Wd → Option (Int × Wd)} (hk23 : ∀ (k n : Nat) (v4 : Int) (w : Wd), LB X f k n → VF X Qf ad NF k n w 23 [(0, (3, sbI)), (1, (2, 1)), (2, (2, 44)), (3, (2, 83)), (4, (0, v4))] [] (k23 v4 w)) (v4 s1 s2 s3 : Int) (w : Wd) : VF X Qf ad NF k n w 431 [(0, (3, sbI)), (1, (2, 1)), (2, (2, 44)), (3, (2, 83)), (4, (0, v4))] [(0, s3), (0, s2), (0, s1), (2, 44)] (f_A_law_431 Ln xs9 k23 v4 s1 s2 s3 w) := by
  unfold f_A_law_431
  refine vf_callVz C cy_R_meet ml_A_55 rfl (ct_R_meet _ _ _ _) (S := []) sh_43 (by decide) rfl (lb_jrm hb rfl) rfl rfl (Nat.le_of_ble_eq_true rfl) (zdg dz_A_law_7 0 rfl) (fun r29 u30 => ?_)
  refine vf_pop C (zdg dz_A_law_7 1 rfl) Nat.zero_ne_one ?_
  refine vf_goto C (off := 825) (tgt := 1260) (zdg dz_A_law_7 2 rfl) (by decide) ?_
  exact t_A_law_1260 C hn hX hr hst hZ hSX hb hk23 _ _
def f_A_law_400 (Ln : Nat) (xs9 : Nat → Int32) (k23 : Int → Wd → Option (Int × Wd)) (v4 s1 s2 s3 : Int) (w : Wd) : Option (Int × Wd) :=
  jcall (f_E_meet s1 s2 s3 w) fun r27 u28 =>
  jgd ((0 : Int) ≤ (w32 (v4 + 1)) ∧ (w32 (v4 + 1)) < (Ln : Int)) <|
  jgd ((0 : Int) ≤ (w32 (v4 + 2)) ∧ (w32 (v4 + 2)) < (Ln : Int)) <|
  jgd ((0 : Int) ≤ (w32 (v4 + 3)) ∧ (w32 (v4 + 3)) < (Ln : Int)) <|
  if ((xs9 (w32 (v4 + 3)).toNat).toInt) = 0 then
    f_A_law_431 Ln xs9 k23 v4 ((xs9 (w32 (v4 + 1)).toNat).toInt) ((xs9 (w32 (v4 + 2)).toNat).toInt) 0 u28
  else
    f_A_law_431 Ln xs9 k23 v4 ((xs9 (w32 (v4 + 1)).toNat).toInt) ((xs9 (w32 (v4 + 2)).toNat).toInt) 1 u28
theorem t_A_law_400 {X : jX} {Qf : Int × Wd → State → Prop} {ad : Nat → Nat} {sbI : Int} {Ln : Nat} {xs9 : Nat → Int32} (C : Cx X code "EachBringsAnotherLaw") (hn : xn X = 7) (hX : LX X sbI Ln xs9) (hr : RtL X Qf ad code) (hst : (xl X).stackTraces = false) (hZ : ZX (xA X) (xs X)) (hSX : SX (xs X)) {f k n : Nat} (hb : LB X f k n) {k23 : Int → Wd → Option (Int × Wd)} (hk23 : ∀ (k n : Nat) (v4 : Int) (w : Wd), LB X f k n → VF X Qf ad NF k n w 23 [(0, (3, sbI)), (1, (2, 1)), (2, (2, 44)), (3, (2, 83)), (4, (0, v4))] [] (k23 v4 w)) (v4 s1 s2 s3 : Int) (w : Wd) : VF X Qf ad NF k n w 400 [(0, (3, sbI)), (1, (2, 1)), (2, (2, 44)), (3, (2, 83)), (4, (0, v4))] [(0, s3), (0, s2), (0, s1), (2, 1)] (f_A_law_400 Ln xs9 k23 v4 s1 s2 s3 w) := by
  unfold f_A_law_400
  refine vf_callVz C cy_E_meet ml_A_51 rfl (ct_E_meet _ _ _ _) (S := []) sh_0 (by decide) rfl (lb_jrm hb rfl) rfl rfl (Nat.le_of_ble_eq_true rfl) (zdg dz_A_law_6 2 rfl) (fun r27 u28 => ?_)
  refine vf_pop C (zdg dz_A_law_6 3 rfl) Nat.zero_ne_one ?_
  refine vf_aload_n C (f := 2) (zdg dz_A_law_6 4 rfl) 2 rfl rfl ?_
  refine vf_aload3_n C (f := 0) (zdg dz_A_law_6 5 rfl) 0 rfl rfl ?_
  refine vf_iload C (zdg dz_A_law_6 6 rfl) 4 rfl ?_
  refine vf_iconst C (z := 1) (zdg dz_A_law_6 7 rfl) (jz rfl) ?_
  refine vf_iadd C (zdg dz_A_law_6 8 rfl) ?_
  refine vf_xld C hX (zdg dz_A_law_6 9 rfl) ?_
  refine vf_aload3_n C (f := 0) (zdg dz_A_law_6 10 rfl) 0 rfl rfl ?_
  refine vf_iload C (zdg dz_A_law_6 11 rfl) 4 rfl ?_
  refine vf_iconst C (z := 2) (zdg dz_A_law_6 12 rfl) (jz rfl) ?_
  refine vf_iadd C (zdg dz_A_law_6 13 rfl) ?_
  refine vf_xld C hX (zdg dz_A_law_6 14 rfl) ?_
  refine vf_aload3_n C (f := 0) (zdg dz_A_law_6 15 rfl) 0 rfl rfl ?_
  refine vf_iload C (zdg dz_A_law_6 16 rfl) 4 rfl ?_
  refine vf_iconst C (z := 3) (zdg dz_A_law_6 17 rfl) (jz rfl) ?_
  refine vf_iadd C (zdg dz_A_law_6 18 rfl) ?_
  refine vf_xld C hX (zdg dz_A_law_6 19 rfl) ?_
  refine vf_if_eq C (off := 7) (tgt := 430) (zdg dz_A_law_6 20 rfl) (by decide) ?_ ?_
  · refine vf_iconst C (z := 0) (zdg dz_A_law_6 23 rfl) (jz rfl) ?_
    exact t_A_law_431 C hn hX hr hst hZ hSX hb hk23 _ _ _ _ _
  · refine vf_iconst C (z := 1) (zdg dz_A_law_6 21 rfl) (jz rfl) ?_
    refine vf_goto C (off := 4) (tgt := 431) (zdg dz_A_law_6 22 rfl) (by decide) ?_
    exact t_A_law_431 C hn hX hr hst hZ hSX hb hk23 _ _ _ _ _
def f_A_law_373 (Ln : Nat) (xs9 : Nat → Int32) (k23 : Int → Wd → Option (Int × Wd)) (v4 : Int) (w : Wd) : Option (Int × Wd) :=
  jgd ((0 : Int) ≤ (w32 (v4 + 1)) ∧ (w32 (v4 + 1)) < (Ln : Int)) <|
  jgd ((0 : Int) ≤ (w32 (v4 + 2)) ∧ (w32 (v4 + 2)) < (Ln : Int)) <|
  jgd ((0 : Int) ≤ (w32 (v4 + 3)) ∧ (w32 (v4 + 3)) < (Ln : Int)) <|
  if ((xs9 (w32 (v4 + 3)).toNat).toInt) = 0 then
    f_A_law_400 Ln xs9 k23 v4 ((xs9 (w32 (v4 + 1)).toNat).toInt) ((xs9 (w32 (v4 + 2)).toNat).toInt) 0 w
  else
    f_A_law_400 Ln xs9 k23 v4 ((xs9 (w32 (v4 + 1)).toNat).toInt) ((xs9 (w32 (v4 + 2)).toNat).toInt) 1 w
theorem t_A_law_373 {X : jX} {Qf : Int × Wd → State → Prop} {ad : Nat → Nat} {sbI : Int} {Ln : Nat} {xs9 : Nat → Int32} (C : Cx X code "EachBringsAnotherLaw") (hn : xn X = 7) (hX : LX X sbI Ln xs9) (hr : RtL X Qf ad code) (hst : (xl X).stackTraces = false) (hZ : ZX (xA X) (xs X)) (hSX : SX (xs X)) {f k n : Nat} (hB : LB X (f + 1) k n) {k23 : Int → Wd → Option (Int × Wd)} (hk23 : ∀ (k n : Nat) (v4 : Int) (w : Wd), LB X f k n → VF X Qf ad NF k n w 23 [(0, (3, sbI)), (1, (2, 1)), (2, (2, 44)), (3, (2, 83)), (4, (0, v4))] [] (k23 v4 w)) (v4 : Int) (w : Wd) : VF X Qf ad NF k n w 373 [(0, (3, sbI)), (1, (2, 1)), (2, (2, 44)), (3, (2, 83)), (4, (0, v4))] [] (f_A_law_373 Ln xs9 k23 v4 w) := by
  have hb := hB.s
  have hb1 := hB.t
  unfold f_A_law_373
  refine vf_aload_n C (f := 1) (zdg dz_A_law_5 6 rfl) 1 rfl rfl ?_
  refine vf_aload3_n C (f := 0) (zdg dz_A_law_5 7 rfl) 0 rfl rfl ?_
  refine vf_iload C (zdg dz_A_law_5 8 rfl) 4 rfl ?_
  refine vf_iconst C (z := 1) (zdg dz_A_law_5 9 rfl) (jz rfl) ?_
  refine vf_iadd C (zdg dz_A_law_5 10 rfl) ?_
  refine vf_xld C hX (zdg dz_A_law_5 11 rfl) ?_
  refine vf_aload3_n C (f := 0) (zdg dz_A_law_5 12 rfl) 0 rfl rfl ?_
  refine vf_iload C (zdg dz_A_law_5 13 rfl) 4 rfl ?_
  refine vf_iconst C (z := 2) (zdg dz_A_law_5 14 rfl) (jz rfl) ?_
  refine vf_iadd C (zdg dz_A_law_5 15 rfl) ?_
  refine vf_xld C hX (zdg dz_A_law_5 16 rfl) ?_
  refine vf_aload3_n C (f := 0) (zdg dz_A_law_5 17 rfl) 0 rfl rfl ?_
  refine vf_iload C (zdg dz_A_law_5 18 rfl) 4 rfl ?_
  refine vf_iconst C (z := 3) (zdg dz_A_law_5 19 rfl) (jz rfl) ?_
  refine vf_iadd C (zdg dz_A_law_5 20 rfl) ?_
  refine vf_xld C hX (zdg dz_A_law_5 21 rfl) ?_
  refine vf_if_eq C (off := 7) (tgt := 399) (zdg dz_A_law_5 22 rfl) (by decide) ?_ ?_
  · refine vf_iconst C (z := 0) (zdg dz_A_law_6 1 rfl) (jz rfl) ?_
    exact t_A_law_400 C hn hX hr hst hZ hSX hb hk23 _ _ _ _ _
  · refine vf_iconst C (z := 1) (zdg dz_A_law_5 23 rfl) (jz rfl) ?_
    refine vf_goto C (off := 4) (tgt := 400) (zdg dz_A_law_6 0 rfl) (by decide) ?_
    exact t_A_law_400 C hn hX hr hst hZ hSX hb hk23 _ _ _ _ _
def f_A_law_484 (Ln : Nat) (xs9 : Nat → Int32) (k23 : Int → Wd → Option (Int × Wd)) (v4 s1 s2 : Int) (w : Wd) : Option (Int × Wd) :=
  jcall (f_R_hide s1 s2 w) fun r33 u34 =>
  f_A_law_1260 Ln xs9 k23 v4 u34
theorem t_A_law_484 {X : jX} {Qf : Int × Wd → State → Prop} {ad : Nat → Nat} {sbI : Int} {Ln : Nat} {xs9 : Nat → Int32} (C : Cx X code "EachBringsAnotherLaw") (hn : xn X = 7) (hX : LX X sbI Ln xs9) (hr : RtL X Qf ad code) (hst : (xl X).stackTraces = false) (hZ : ZX (xA X) (xs X)) (hSX : SX (xs X)) {f k n : Nat} (hb : LB X f k n) {k23 : Int → Wd → Option (Int × Wd)} (hk23 : ∀ (k n : Nat) (v4 : Int) (w : Wd), LB X f k n → VF X Qf ad NF k n w 23 [(0, (3, sbI)), (1, (2, 1)), (2, (2, 44)), (3, (2, 83)), (4, (0, v4))] [] (k23 v4 w)) (v4 s1 s2 : Int) (w : Wd) : VF X Qf ad NF k n w 484 [(0, (3, sbI)), (1, (2, 1)), (2, (2, 44)), (3, (2, 83)), (4, (0, v4))] [(0, s2), (0, s1), (2, 44)] (f_A_law_484 Ln xs9 k23 v4 s1 s2 w) := by
  unfold f_A_law_484
  refine vf_callVz C cy_R_hide ml_A_60 rfl (ct_R_hide _ _ _) (S := []) sh_43 (by decide) rfl (lb_jrm hb rfl) rfl rfl (Nat.le_of_ble_eq_true rfl) (zdg dz_A_law_8 11 rfl) (fun r33 u34 => ?_)
  refine vf_pop C (zdg dz_A_law_8 12 rfl) Nat.zero_ne_one ?_
  refine vf_goto C (off := 772) (tgt := 1260) (zdg dz_A_law_8 13 rfl) (by decide) ?_
  exact t_A_law_1260 C hn hX hr hst hZ hSX hb hk23 _ _
def f_A_law_459 (Ln : Nat) (xs9 : Nat → Int32) (k23 : Int → Wd → Option (Int × Wd)) (v4 s1 s2 : Int) (w : Wd) : Option (Int × Wd) :=
  jcall (f_E_hide s1 s2 w) fun r31 u32 =>
  jgd ((0 : Int) ≤ (w32 (v4 + 1)) ∧ (w32 (v4 + 1)) < (Ln : Int)) <|
  jgd ((0 : Int) ≤ (w32 (v4 + 2)) ∧ (w32 (v4 + 2)) < (Ln : Int)) <|
  if ((xs9 (w32 (v4 + 2)).toNat).toInt) = 0 then
    f_A_law_484 Ln xs9 k23 v4 ((xs9 (w32 (v4 + 1)).toNat).toInt) 0 u32
  else
    f_A_law_484 Ln xs9 k23 v4 ((xs9 (w32 (v4 + 1)).toNat).toInt) 1 u32
theorem t_A_law_459 {X : jX} {Qf : Int × Wd → State → Prop} {ad : Nat → Nat} {sbI : Int} {Ln : Nat} {xs9 : Nat → Int32} (C : Cx X code "EachBringsAnotherLaw") (hn : xn X = 7) (hX : LX X sbI Ln xs9) (hr : RtL X Qf ad code) (hst : (xl X).stackTraces = false) (hZ : ZX (xA X) (xs X)) (hSX : SX (xs X)) {f k n : Nat} (hb : LB X f k n) {k23 : Int → Wd → Option (Int × Wd)} (hk23 : ∀ (k n : Nat) (v4 : Int) (w : Wd), LB X f k n → VF X Qf ad NF k n w 23 [(0, (3, sbI)), (1, (2, 1)), (2, (2, 44)), (3, (2, 83)), (4, (0, v4))] [] (k23 v4 w)) (v4 s1 s2 : Int) (w : Wd) : VF X Qf ad NF k n w 459 [(0, (3, sbI)), (1, (2, 1)), (2, (2, 44)), (3, (2, 83)), (4, (0, v4))] [(0, s2), (0, s1), (2, 1)] (f_A_law_459 Ln xs9 k23 v4 s1 s2 w) := by
  unfold f_A_law_459
  refine vf_callVz C cy_E_hide ml_A_56 rfl (ct_E_hide _ _ _) (S := []) sh_0 (by decide) rfl (lb_jrm hb rfl) rfl rfl (Nat.le_of_ble_eq_true rfl) (zdg dz_A_law_7 18 rfl) (fun r31 u32 => ?_)
  refine vf_pop C (zdg dz_A_law_7 19 rfl) Nat.zero_ne_one ?_
  refine vf_aload_n C (f := 2) (zdg dz_A_law_7 20 rfl) 2 rfl rfl ?_
  refine vf_aload3_n C (f := 0) (zdg dz_A_law_7 21 rfl) 0 rfl rfl ?_
  refine vf_iload C (zdg dz_A_law_7 22 rfl) 4 rfl ?_
  refine vf_iconst C (z := 1) (zdg dz_A_law_7 23 rfl) (jz rfl) ?_
  refine vf_iadd C (zdg dz_A_law_8 0 rfl) ?_
  refine vf_xld C hX (zdg dz_A_law_8 1 rfl) ?_
  refine vf_aload3_n C (f := 0) (zdg dz_A_law_8 2 rfl) 0 rfl rfl ?_
  refine vf_iload C (zdg dz_A_law_8 3 rfl) 4 rfl ?_
  refine vf_iconst C (z := 2) (zdg dz_A_law_8 4 rfl) (jz rfl) ?_
  refine vf_iadd C (zdg dz_A_law_8 5 rfl) ?_
  refine vf_xld C hX (zdg dz_A_law_8 6 rfl) ?_
  refine vf_if_eq C (off := 7) (tgt := 483) (zdg dz_A_law_8 7 rfl) (by decide) ?_ ?_
  · refine vf_iconst C (z := 0) (zdg dz_A_law_8 10 rfl) (jz rfl) ?_
    exact t_A_law_484 C hn hX hr hst hZ hSX hb hk23 _ _ _ _
  · refine vf_iconst C (z := 1) (zdg dz_A_law_8 8 rfl) (jz rfl) ?_
    refine vf_goto C (off := 4) (tgt := 484) (zdg dz_A_law_8 9 rfl) (by decide) ?_
    exact t_A_law_484 C hn hX hr hst hZ hSX hb hk23 _ _ _ _
def f_A_law_438 (Ln : Nat) (xs9 : Nat → Int32) (k23 : Int → Wd → Option (Int × Wd)) (v4 : Int) (w : Wd) : Option (Int × Wd) :=
  jgd ((0 : Int) ≤ (w32 (v4 + 1)) ∧ (w32 (v4 + 1)) < (Ln : Int)) <|
  jgd ((0 : Int) ≤ (w32 (v4 + 2)) ∧ (w32 (v4 + 2)) < (Ln : Int)) <|
  if ((xs9 (w32 (v4 + 2)).toNat).toInt) = 0 then
    f_A_law_459 Ln xs9 k23 v4 ((xs9 (w32 (v4 + 1)).toNat).toInt) 0 w
  else
    f_A_law_459 Ln xs9 k23 v4 ((xs9 (w32 (v4 + 1)).toNat).toInt) 1 w
theorem t_A_law_438 {X : jX} {Qf : Int × Wd → State → Prop} {ad : Nat → Nat} {sbI : Int} {Ln : Nat} {xs9 : Nat → Int32} (C : Cx X code "EachBringsAnotherLaw") (hn : xn X = 7) (hX : LX X sbI Ln xs9) (hr : RtL X Qf ad code) (hst : (xl X).stackTraces = false) (hZ : ZX (xA X) (xs X)) (hSX : SX (xs X)) {f k n : Nat} (hB : LB X (f + 1) k n) {k23 : Int → Wd → Option (Int × Wd)} (hk23 : ∀ (k n : Nat) (v4 : Int) (w : Wd), LB X f k n → VF X Qf ad NF k n w 23 [(0, (3, sbI)), (1, (2, 1)), (2, (2, 44)), (3, (2, 83)), (4, (0, v4))] [] (k23 v4 w)) (v4 : Int) (w : Wd) : VF X Qf ad NF k n w 438 [(0, (3, sbI)), (1, (2, 1)), (2, (2, 44)), (3, (2, 83)), (4, (0, v4))] [] (f_A_law_438 Ln xs9 k23 v4 w) := by
  have hb := hB.s
  have hb1 := hB.t
  unfold f_A_law_438
  refine vf_aload_n C (f := 1) (zdg dz_A_law_7 3 rfl) 1 rfl rfl ?_
  refine vf_aload3_n C (f := 0) (zdg dz_A_law_7 4 rfl) 0 rfl rfl ?_
  refine vf_iload C (zdg dz_A_law_7 5 rfl) 4 rfl ?_
  refine vf_iconst C (z := 1) (zdg dz_A_law_7 6 rfl) (jz rfl) ?_
  refine vf_iadd C (zdg dz_A_law_7 7 rfl) ?_
  refine vf_xld C hX (zdg dz_A_law_7 8 rfl) ?_
  refine vf_aload3_n C (f := 0) (zdg dz_A_law_7 9 rfl) 0 rfl rfl ?_
  refine vf_iload C (zdg dz_A_law_7 10 rfl) 4 rfl ?_
  refine vf_iconst C (z := 2) (zdg dz_A_law_7 11 rfl) (jz rfl) ?_
  refine vf_iadd C (zdg dz_A_law_7 12 rfl) ?_
  refine vf_xld C hX (zdg dz_A_law_7 13 rfl) ?_
  refine vf_if_eq C (off := 7) (tgt := 458) (zdg dz_A_law_7 14 rfl) (by decide) ?_ ?_
  · refine vf_iconst C (z := 0) (zdg dz_A_law_7 17 rfl) (jz rfl) ?_
    exact t_A_law_459 C hn hX hr hst hZ hSX hb hk23 _ _ _ _
  · refine vf_iconst C (z := 1) (zdg dz_A_law_7 15 rfl) (jz rfl) ?_
    refine vf_goto C (off := 4) (tgt := 459) (zdg dz_A_law_7 16 rfl) (by decide) ?_
    exact t_A_law_459 C hn hX hr hst hZ hSX hb hk23 _ _ _ _
def f_A_law_491 (Ln : Nat) (xs9 : Nat → Int32) (k23 : Int → Wd → Option (Int × Wd)) (v4 : Int) (w : Wd) : Option (Int × Wd) :=
  jgd ((0 : Int) ≤ (w32 (v4 + 1)) ∧ (w32 (v4 + 1)) < (Ln : Int)) <|
  jcall (f_E_baby ((xs9 (w32 (v4 + 1)).toNat).toInt) w) fun r35 u36 =>
  jgd ((0 : Int) ≤ (w32 (v4 + 1)) ∧ (w32 (v4 + 1)) < (Ln : Int)) <|
  jcall (f_R_baby ((xs9 (w32 (v4 + 1)).toNat).toInt) u36) fun r37 u38 =>
  f_A_law_1260 Ln xs9 k23 v4 u38
theorem t_A_law_491 {X : jX} {Qf : Int × Wd → State → Prop} {ad : Nat → Nat} {sbI : Int} {Ln : Nat} {xs9 : Nat → Int32} (C : Cx X code "EachBringsAnotherLaw") (hn : xn X = 7) (hX : LX X sbI Ln xs9) (hr : RtL X Qf ad code) (hst : (xl X).stackTraces = false) (hZ : ZX (xA X) (xs X)) (hSX : SX (xs X)) {f k n : Nat} (hB : LB X (f + 1) k n) {k23 : Int → Wd → Option (Int × Wd)} (hk23 : ∀ (k n : Nat) (v4 : Int) (w : Wd), LB X f k n → VF X Qf ad NF k n w 23 [(0, (3, sbI)), (1, (2, 1)), (2, (2, 44)), (3, (2, 83)), (4, (0, v4))] [] (k23 v4 w)) (v4 : Int) (w : Wd) : VF X Qf ad NF k n w 491 [(0, (3, sbI)), (1, (2, 1)), (2, (2, 44)), (3, (2, 83)), (4, (0, v4))] [] (f_A_law_491 Ln xs9 k23 v4 w) := by
  have hb := hB.s
  have hb1 := hB.t
  unfold f_A_law_491
  refine vf_aload_n C (f := 1) (zdg dz_A_law_8 14 rfl) 1 rfl rfl ?_
  refine vf_aload3_n C (f := 0) (zdg dz_A_law_8 15 rfl) 0 rfl rfl ?_
  refine vf_iload C (zdg dz_A_law_8 16 rfl) 4 rfl ?_
  refine vf_iconst C (z := 1) (zdg dz_A_law_8 17 rfl) (jz rfl) ?_
  refine vf_iadd C (zdg dz_A_law_8 18 rfl) ?_
  refine vf_xld C hX (zdg dz_A_law_8 19 rfl) ?_
  refine vf_callVi C cy_E_baby ml_A_61 rfl (ct_E_baby _ _) (S := []) sh_0 (by decide) rfl (lb_jrm hb rfl) rfl rfl (Nat.le_of_ble_eq_true rfl) (zdg dz_A_law_8 20 rfl) (fun r35 u36 => ?_)
  refine vf_pop C (zdg dz_A_law_8 21 rfl) Nat.zero_ne_one ?_
  refine vf_aload_n C (f := 2) (zdg dz_A_law_8 22 rfl) 2 rfl rfl ?_
  refine vf_aload3_n C (f := 0) (zdg dz_A_law_8 23 rfl) 0 rfl rfl ?_
  refine vf_iload C (zdg dz_A_law_9 0 rfl) 4 rfl ?_
  refine vf_iconst C (z := 1) (zdg dz_A_law_9 1 rfl) (jz rfl) ?_
  refine vf_iadd C (zdg dz_A_law_9 2 rfl) ?_
  refine vf_xld C hX (zdg dz_A_law_9 3 rfl) ?_
  refine vf_callVi C cy_R_baby ml_A_64 rfl (ct_R_baby _ _) (S := []) sh_43 (by decide) rfl (lb_jrm hb rfl) rfl rfl (Nat.le_of_ble_eq_true rfl) (zdg dz_A_law_9 4 rfl) (fun r37 u38 => ?_)
  refine vf_pop C (zdg dz_A_law_9 5 rfl) Nat.zero_ne_one ?_
  refine vf_goto C (off := 747) (tgt := 1260) (zdg dz_A_law_9 6 rfl) (by decide) ?_
  exact t_A_law_1260 C hn hX hr hst hZ hSX hb hk23 _ _
def f_A_law_516 (Ln : Nat) (xs9 : Nat → Int32) (k23 : Int → Wd → Option (Int × Wd)) (v4 : Int) (w : Wd) : Option (Int × Wd) :=
  jgd ((0 : Int) ≤ (w32 (v4 + 1)) ∧ (w32 (v4 + 1)) < (Ln : Int)) <|
  jgd ((0 : Int) ≤ (w32 (v4 + 2)) ∧ (w32 (v4 + 2)) < (Ln : Int)) <|
  jgd ((0 : Int) ≤ (w32 (v4 + 3)) ∧ (w32 (v4 + 3)) < (Ln : Int)) <|
  jgd ((0 : Int) ≤ (w32 (v4 + 4)) ∧ (w32 (v4 + 4)) < (Ln : Int)) <|
  jcall (f_E_sheet ((xs9 (w32 (v4 + 1)).toNat).toInt) ((xs9 (w32 (v4 + 2)).toNat).toInt) ((xs9 (w32 (v4 + 3)).toNat).toInt) ((xs9 (w32 (v4 + 4)).toNat).toInt) w) fun r39 u40 =>
  jgd ((0 : Int) ≤ (w32 (v4 + 1)) ∧ (w32 (v4 + 1)) < (Ln : Int)) <|
  jgd ((0 : Int) ≤ (w32 (v4 + 2)) ∧ (w32 (v4 + 2)) < (Ln : Int)) <|
  jgd ((0 : Int) ≤ (w32 (v4 + 3)) ∧ (w32 (v4 + 3)) < (Ln : Int)) <|
  jgd ((0 : Int) ≤ (w32 (v4 + 4)) ∧ (w32 (v4 + 4)) < (Ln : Int)) <|
  jcall (f_R_sheet ((xs9 (w32 (v4 + 1)).toNat).toInt) ((xs9 (w32 (v4 + 2)).toNat).toInt) ((xs9 (w32 (v4 + 3)).toNat).toInt) ((xs9 (w32 (v4 + 4)).toNat).toInt) u40) fun r41 u42 =>
  f_A_law_1260 Ln xs9 k23 v4 u42
theorem t_A_law_516 {X : jX} {Qf : Int × Wd → State → Prop} {ad : Nat → Nat} {sbI : Int} {Ln : Nat} {xs9 : Nat → Int32} (C : Cx X code "EachBringsAnotherLaw") (hn : xn X = 7) (hX : LX X sbI Ln xs9) (hr : RtL X Qf ad code) (hst : (xl X).stackTraces = false) (hZ : ZX (xA X) (xs X)) (hSX : SX (xs X)) {f k n : Nat} (hB : LB X (f + 1) k n) {k23 : Int → Wd → Option (Int × Wd)} (hk23 : ∀ (k n : Nat) (v4 : Int) (w : Wd), LB X f k n → VF X Qf ad NF k n w 23 [(0, (3, sbI)), (1, (2, 1)), (2, (2, 44)), (3, (2, 83)), (4, (0, v4))] [] (k23 v4 w)) (v4 : Int) (w : Wd) : VF X Qf ad NF k n w 516 [(0, (3, sbI)), (1, (2, 1)), (2, (2, 44)), (3, (2, 83)), (4, (0, v4))] [] (f_A_law_516 Ln xs9 k23 v4 w) := by
  have hb := hB.s
  have hb1 := hB.t
  unfold f_A_law_516
  refine vf_aload_n C (f := 1) (zdg dz_A_law_9 7 rfl) 1 rfl rfl ?_
  refine vf_aload3_n C (f := 0) (zdg dz_A_law_9 8 rfl) 0 rfl rfl ?_
  refine vf_iload C (zdg dz_A_law_9 9 rfl) 4 rfl ?_
  refine vf_iconst C (z := 1) (zdg dz_A_law_9 10 rfl) (jz rfl) ?_
  refine vf_iadd C (zdg dz_A_law_9 11 rfl) ?_
  refine vf_xld C hX (zdg dz_A_law_9 12 rfl) ?_
  refine vf_aload3_n C (f := 0) (zdg dz_A_law_9 13 rfl) 0 rfl rfl ?_
  refine vf_iload C (zdg dz_A_law_9 14 rfl) 4 rfl ?_
  refine vf_iconst C (z := 2) (zdg dz_A_law_9 15 rfl) (jz rfl) ?_
  refine vf_iadd C (zdg dz_A_law_9 16 rfl) ?_
  refine vf_xld C hX (zdg dz_A_law_9 17 rfl) ?_
  refine vf_aload3_n C (f := 0) (zdg dz_A_law_9 18 rfl) 0 rfl rfl ?_
  refine vf_iload C (zdg dz_A_law_9 19 rfl) 4 rfl ?_
  refine vf_iconst C (z := 3) (zdg dz_A_law_9 20 rfl) (jz rfl) ?_
  refine vf_iadd C (zdg dz_A_law_9 21 rfl) ?_
  refine vf_xld C hX (zdg dz_A_law_9 22 rfl) ?_
  refine vf_aload3_n C (f := 0) (zdg dz_A_law_9 23 rfl) 0 rfl rfl ?_
  refine vf_iload C (zdg dz_A_law_10 0 rfl) 4 rfl ?_
  refine vf_iconst C (z := 4) (zdg dz_A_law_10 1 rfl) (jz rfl) ?_
  refine vf_iadd C (zdg dz_A_law_10 2 rfl) ?_
  refine vf_xld C hX (zdg dz_A_law_10 3 rfl) ?_
  refine vf_callVi C cy_E_sheet ml_A_65 rfl (ct_E_sheet _ _ _ _ _) (S := []) sh_0 (by decide) rfl (lb_jrm hb rfl) rfl rfl (Nat.le_of_ble_eq_true rfl) (zdg dz_A_law_10 4 rfl) (fun r39 u40 => ?_)
  refine vf_pop C (zdg dz_A_law_10 5 rfl) Nat.zero_ne_one ?_
  refine vf_aload_n C (f := 2) (zdg dz_A_law_10 6 rfl) 2 rfl rfl ?_
  refine vf_aload3_n C (f := 0) (zdg dz_A_law_10 7 rfl) 0 rfl rfl ?_
  refine vf_iload C (zdg dz_A_law_10 8 rfl) 4 rfl ?_
  refine vf_iconst C (z := 1) (zdg dz_A_law_10 9 rfl) (jz rfl) ?_
  refine vf_iadd C (zdg dz_A_law_10 10 rfl) ?_
  refine vf_xld C hX (zdg dz_A_law_10 11 rfl) ?_
  refine vf_aload3_n C (f := 0) (zdg dz_A_law_10 12 rfl) 0 rfl rfl ?_
  refine vf_iload C (zdg dz_A_law_10 13 rfl) 4 rfl ?_
  refine vf_iconst C (z := 2) (zdg dz_A_law_10 14 rfl) (jz rfl) ?_
  refine vf_iadd C (zdg dz_A_law_10 15 rfl) ?_
  refine vf_xld C hX (zdg dz_A_law_10 16 rfl) ?_
  refine vf_aload3_n C (f := 0) (zdg dz_A_law_10 17 rfl) 0 rfl rfl ?_
  refine vf_iload C (zdg dz_A_law_10 18 rfl) 4 rfl ?_
  refine vf_iconst C (z := 3) (zdg dz_A_law_10 19 rfl) (jz rfl) ?_
  refine vf_iadd C (zdg dz_A_law_10 20 rfl) ?_
  refine vf_xld C hX (zdg dz_A_law_10 21 rfl) ?_
  refine vf_aload3_n C (f := 0) (zdg dz_A_law_10 22 rfl) 0 rfl rfl ?_
  refine vf_iload C (zdg dz_A_law_10 23 rfl) 4 rfl ?_
  refine vf_iconst C (z := 4) (zdg dz_A_law_11 0 rfl) (jz rfl) ?_
  refine vf_iadd C (zdg dz_A_law_11 1 rfl) ?_
  refine vf_xld C hX (zdg dz_A_law_11 2 rfl) ?_
  refine vf_callVi C cy_R_sheet ml_A_69 rfl (ct_R_sheet _ _ _ _ _) (S := []) sh_43 (by decide) rfl (lb_jrm hb rfl) rfl rfl (Nat.le_of_ble_eq_true rfl) (zdg dz_A_law_11 3 rfl) (fun r41 u42 => ?_)
  refine vf_pop C (zdg dz_A_law_11 4 rfl) Nat.zero_ne_one ?_
  refine vf_goto C (off := 686) (tgt := 1260) (zdg dz_A_law_11 5 rfl) (by decide) ?_
  exact t_A_law_1260 C hn hX hr hst hZ hSX hb hk23 _ _
def f_A_law_577 (Ln : Nat) (xs9 : Nat → Int32) (k23 : Int → Wd → Option (Int × Wd)) (v4 : Int) (w : Wd) : Option (Int × Wd) :=
  jcall (f_E_week w) fun r43 u44 =>
  jcall (f_R_week u44) fun r45 u46 =>
  f_A_law_1260 Ln xs9 k23 v4 u46
theorem t_A_law_577 {X : jX} {Qf : Int × Wd → State → Prop} {ad : Nat → Nat} {sbI : Int} {Ln : Nat} {xs9 : Nat → Int32} (C : Cx X code "EachBringsAnotherLaw") (hn : xn X = 7) (hX : LX X sbI Ln xs9) (hr : RtL X Qf ad code) (hst : (xl X).stackTraces = false) (hZ : ZX (xA X) (xs X)) (hSX : SX (xs X)) {f k n : Nat} (hB : LB X (f + 1) k n) {k23 : Int → Wd → Option (Int × Wd)} (hk23 : ∀ (k n : Nat) (v4 : Int) (w : Wd), LB X f k n → VF X Qf ad NF k n w 23 [(0, (3, sbI)), (1, (2, 1)), (2, (2, 44)), (3, (2, 83)), (4, (0, v4))] [] (k23 v4 w)) (v4 : Int) (w : Wd) : VF X Qf ad NF k n w 577 [(0, (3, sbI)), (1, (2, 1)), (2, (2, 44)), (3, (2, 83)), (4, (0, v4))] [] (f_A_law_577 Ln xs9 k23 v4 w) := by
  have hb := hB.s
  have hb1 := hB.t
  unfold f_A_law_577
  refine vf_aload_n C (f := 1) (zdg dz_A_law_11 6 rfl) 1 rfl rfl ?_
  refine vf_callVi C cy_E_week ml_A_70 rfl (ct_E_week _) (S := []) sh_0 (by decide) rfl (lb_jrm hb rfl) rfl rfl (Nat.le_of_ble_eq_true rfl) (zdg dz_A_law_11 7 rfl) (fun r43 u44 => ?_)
  refine vf_pop C (zdg dz_A_law_11 8 rfl) Nat.zero_ne_one ?_
  refine vf_aload_n C (f := 2) (zdg dz_A_law_11 9 rfl) 2 rfl rfl ?_
  refine vf_callVi C cy_R_week ml_A_73 rfl (ct_R_week _) (S := []) sh_43 (by decide) rfl (lb_jrm hb rfl) rfl rfl (Nat.le_of_ble_eq_true rfl) (zdg dz_A_law_11 10 rfl) (fun r45 u46 => ?_)
  refine vf_pop C (zdg dz_A_law_11 11 rfl) Nat.zero_ne_one ?_
  refine vf_goto C (off := 673) (tgt := 1260) (zdg dz_A_law_11 12 rfl) (by decide) ?_
  exact t_A_law_1260 C hn hX hr hst hZ hSX hb hk23 _ _
