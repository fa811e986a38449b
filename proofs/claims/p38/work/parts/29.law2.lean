def f_A_law_590 (Ln : Nat) (xs9 : Nat → Int32) (k23 : Int → Wd → Option (Int × Wd)) (v4 : Int) (w : Wd) : Option (Int × Wd) :=
  jgd ((0 : Int) ≤ (w32 (v4 + 1)) ∧ (w32 (v4 + 1)) < (Ln : Int)) <|
  jcall (f_E_goes ((xs9 (w32 (v4 + 1)).toNat).toInt) w) fun r47 u48 =>
  jgd ((0 : Int) ≤ (w32 (v4 + 1)) ∧ (w32 (v4 + 1)) < (Ln : Int)) <|
  jcall (f_R_goes ((xs9 (w32 (v4 + 1)).toNat).toInt) u48) fun r49 u50 =>
  f_A_law_1260 Ln xs9 k23 v4 u50
theorem t_A_law_590 {X : jX} {Qf : Int × Wd → State → Prop} {ad : Nat → Nat} {sbI : Int} {Ln : Nat} {xs9 : Nat → Int32} (C : Cx X code "EachBringsAnotherLaw") (hn : xn X = 7) (hX : LX X sbI Ln xs9) (hr : RtL X Qf ad code) (hst : (xl X).stackTraces = false) (hZ : ZX (xA X) (xs X)) (hSX : SX (xs X)) {f k n : Nat} (hB : LB X (f + 1) k n) {k23 : Int → Wd → Option (Int × Wd)} (hk23 : ∀ (k n : Nat) (v4 : Int) (w : Wd), LB X f k n → VF X Qf ad NF k n w 23 [(0, (3, sbI)), (1, (2, 1)), (2, (2, 44)), (3, (2, 83)), (4, (0, v4))] [] (k23 v4 w)) (v4 : Int) (w : Wd) : VF X Qf ad NF k n w 590 [(0, (3, sbI)), (1, (2, 1)), (2, (2, 44)), (3, (2, 83)), (4, (0, v4))] [] (f_A_law_590 Ln xs9 k23 v4 w) := by
  have hb := hB.s
  have hb1 := hB.t
  unfold f_A_law_590
  refine vf_aload_n C (f := 1) (zdg dz_A_law_11 13 rfl) 1 rfl rfl ?_
  refine vf_aload3_n C (f := 0) (zdg dz_A_law_11 14 rfl) 0 rfl rfl ?_
  refine vf_iload C (zdg dz_A_law_11 15 rfl) 4 rfl ?_
  refine vf_iconst C (z := 1) (zdg dz_A_law_11 16 rfl) (jz rfl) ?_
  refine vf_iadd C (zdg dz_A_law_11 17 rfl) ?_
  refine vf_xld C hX (zdg dz_A_law_11 18 rfl) ?_
  refine vf_callVi C cy_E_goes ml_A_74 rfl (ct_E_goes _ _) (S := []) sh_0 (by decide) rfl (lb_jrm hb rfl) rfl rfl (Nat.le_of_ble_eq_true rfl) (zdg dz_A_law_11 19 rfl) (fun r47 u48 => ?_)
  refine vf_pop C (zdg dz_A_law_11 20 rfl) Nat.zero_ne_one ?_
  refine vf_aload_n C (f := 2) (zdg dz_A_law_11 21 rfl) 2 rfl rfl ?_
  refine vf_aload3_n C (f := 0) (zdg dz_A_law_11 22 rfl) 0 rfl rfl ?_
  refine vf_iload C (zdg dz_A_law_11 23 rfl) 4 rfl ?_
  refine vf_iconst C (z := 1) (zdg dz_A_law_12 0 rfl) (jz rfl) ?_
  refine vf_iadd C (zdg dz_A_law_12 1 rfl) ?_
  refine vf_xld C hX (zdg dz_A_law_12 2 rfl) ?_
  refine vf_callVi C cy_R_goes ml_A_77 rfl (ct_R_goes _ _) (S := []) sh_43 (by decide) rfl (lb_jrm hb rfl) rfl rfl (Nat.le_of_ble_eq_true rfl) (zdg dz_A_law_12 3 rfl) (fun r49 u50 => ?_)
  refine vf_pop C (zdg dz_A_law_12 4 rfl) Nat.zero_ne_one ?_
  refine vf_goto C (off := 648) (tgt := 1260) (zdg dz_A_law_12 5 rfl) (by decide) ?_
  exact t_A_law_1260 C hn hX hr hst hZ hSX hb hk23 _ _
def f_A_law_615 (Ln : Nat) (xs9 : Nat → Int32) (k23 : Int → Wd → Option (Int × Wd)) (v4 : Int) (w : Wd) : Option (Int × Wd) :=
  jcall (f_E_undo w) fun r51 u52 =>
  jcall (f_R_undo u52) fun r53 u54 =>
  f_A_law_1260 Ln xs9 k23 v4 u54
theorem t_A_law_615 {X : jX} {Qf : Int × Wd → State → Prop} {ad : Nat → Nat} {sbI : Int} {Ln : Nat} {xs9 : Nat → Int32} (C : Cx X code "EachBringsAnotherLaw") (hn : xn X = 7) (hX : LX X sbI Ln xs9) (hr : RtL X Qf ad code) (hst : (xl X).stackTraces = false) (hZ : ZX (xA X) (xs X)) (hSX : SX (xs X)) {f k n : Nat} (hB : LB X (f + 1) k n) {k23 : Int → Wd → Option (Int × Wd)} (hk23 : ∀ (k n : Nat) (v4 : Int) (w : Wd), LB X f k n → VF X Qf ad NF k n w 23 [(0, (3, sbI)), (1, (2, 1)), (2, (2, 44)), (3, (2, 83)), (4, (0, v4))] [] (k23 v4 w)) (v4 : Int) (w : Wd) : VF X Qf ad NF k n w 615 [(0, (3, sbI)), (1, (2, 1)), (2, (2, 44)), (3, (2, 83)), (4, (0, v4))] [] (f_A_law_615 Ln xs9 k23 v4 w) := by
  have hb := hB.s
  have hb1 := hB.t
  unfold f_A_law_615
  refine vf_aload_n C (f := 1) (zdg dz_A_law_12 6 rfl) 1 rfl rfl ?_
  refine vf_callVi C cy_E_undo ml_A_78 rfl (ct_E_undo _) (S := []) sh_0 (by decide) rfl (lb_jrm hb rfl) rfl rfl (Nat.le_of_ble_eq_true rfl) (zdg dz_A_law_12 7 rfl) (fun r51 u52 => ?_)
  refine vf_pop C (zdg dz_A_law_12 8 rfl) Nat.zero_ne_one ?_
  refine vf_aload_n C (f := 2) (zdg dz_A_law_12 9 rfl) 2 rfl rfl ?_
  refine vf_callVi C cy_R_undo ml_A_81 rfl (ct_R_undo _) (S := []) sh_43 (by decide) rfl (lb_jrm hb rfl) rfl rfl (Nat.le_of_ble_eq_true rfl) (zdg dz_A_law_12 10 rfl) (fun r53 u54 => ?_)
  refine vf_pop C (zdg dz_A_law_12 11 rfl) Nat.zero_ne_one ?_
  refine vf_goto C (off := 635) (tgt := 1260) (zdg dz_A_law_12 12 rfl) (by decide) ?_
  exact t_A_law_1260 C hn hX hr hst hZ hSX hb hk23 _ _
def f_A_law_628 (Ln : Nat) (xs9 : Nat → Int32) (k23 : Int → Wd → Option (Int × Wd)) (v4 : Int) (w : Wd) : Option (Int × Wd) :=
  jcall (f_E_can w) fun r55 u56 =>
  jcall (f_R_can u56) fun r57 u58 =>
  f_A_law_1260 Ln xs9 k23 v4 u58
theorem t_A_law_628 {X : jX} {Qf : Int × Wd → State → Prop} {ad : Nat → Nat} {sbI : Int} {Ln : Nat} {xs9 : Nat → Int32} (C : Cx X code "EachBringsAnotherLaw") (hn : xn X = 7) (hX : LX X sbI Ln xs9) (hr : RtL X Qf ad code) (hst : (xl X).stackTraces = false) (hZ : ZX (xA X) (xs X)) (hSX : SX (xs X)) {f k n : Nat} (hB : LB X (f + 1) k n) {k23 : Int → Wd → Option (Int × Wd)} (hk23 : ∀ (k n : Nat) (v4 : Int) (w : Wd), LB X f k n → VF X Qf ad NF k n w 23 [(0, (3, sbI)), (1, (2, 1)), (2, (2, 44)), (3, (2, 83)), (4, (0, v4))] [] (k23 v4 w)) (v4 : Int) (w : Wd) : VF X Qf ad NF k n w 628 [(0, (3, sbI)), (1, (2, 1)), (2, (2, 44)), (3, (2, 83)), (4, (0, v4))] [] (f_A_law_628 Ln xs9 k23 v4 w) := by
  have hb := hB.s
  have hb1 := hB.t
  unfold f_A_law_628
  refine vf_aload_n C (f := 1) (zdg dz_A_law_12 13 rfl) 1 rfl rfl ?_
  refine vf_callVi C cy_E_can ml_A_82 rfl (ct_E_can _) (S := []) sh_0 (by decide) rfl (lb_jrm hb rfl) rfl rfl (Nat.le_of_ble_eq_true rfl) (zdg dz_A_law_12 14 rfl) (fun r55 u56 => ?_)
  refine vf_pop C (zdg dz_A_law_12 15 rfl) Nat.zero_ne_one ?_
  refine vf_aload_n C (f := 2) (zdg dz_A_law_12 16 rfl) 2 rfl rfl ?_
  refine vf_callVi C cy_R_can ml_A_85 rfl (ct_R_can _) (S := []) sh_43 (by decide) rfl (lb_jrm hb rfl) rfl rfl (Nat.le_of_ble_eq_true rfl) (zdg dz_A_law_12 17 rfl) (fun r57 u58 => ?_)
  refine vf_pop C (zdg dz_A_law_12 18 rfl) Nat.zero_ne_one ?_
  refine vf_goto C (off := 622) (tgt := 1260) (zdg dz_A_law_12 19 rfl) (by decide) ?_
  exact t_A_law_1260 C hn hX hr hst hZ hSX hb hk23 _ _
def f_A_law_641 (Ln : Nat) (xs9 : Nat → Int32) (k23 : Int → Wd → Option (Int × Wd)) (v4 : Int) (w : Wd) : Option (Int × Wd) :=
  jgd ((0 : Int) ≤ (w32 (v4 + 1)) ∧ (w32 (v4 + 1)) < (Ln : Int)) <|
  jcall (f_E_picks ((xs9 (w32 (v4 + 1)).toNat).toInt) w) fun r59 u60 =>
  jgd ((0 : Int) ≤ (w32 (v4 + 1)) ∧ (w32 (v4 + 1)) < (Ln : Int)) <|
  jcall (f_R_picks ((xs9 (w32 (v4 + 1)).toNat).toInt) u60) fun r61 u62 =>
  f_A_law_1260 Ln xs9 k23 v4 u62
theorem t_A_law_641 {X : jX} {Qf : Int × Wd → State → Prop} {ad : Nat → Nat} {sbI : Int} {Ln : Nat} {xs9 : Nat → Int32} (C : Cx X code "EachBringsAnotherLaw") (hn : xn X = 7) (hX : LX X sbI Ln xs9) (hr : RtL X Qf ad code) (hst : (xl X).stackTraces = false) (hZ : ZX (xA X) (xs X)) (hSX : SX (xs X)) {f k n : Nat} (hB : LB X (f + 1) k n) {k23 : Int → Wd → Option (Int × Wd)} (hk23 : ∀ (k n : Nat) (v4 : Int) (w : Wd), LB X f k n → VF X Qf ad NF k n w 23 [(0, (3, sbI)), (1, (2, 1)), (2, (2, 44)), (3, (2, 83)), (4, (0, v4))] [] (k23 v4 w)) (v4 : Int) (w : Wd) : VF X Qf ad NF k n w 641 [(0, (3, sbI)), (1, (2, 1)), (2, (2, 44)), (3, (2, 83)), (4, (0, v4))] [] (f_A_law_641 Ln xs9 k23 v4 w) := by
  have hb := hB.s
  have hb1 := hB.t
  unfold f_A_law_641
  refine vf_aload_n C (f := 1) (zdg dz_A_law_12 20 rfl) 1 rfl rfl ?_
  refine vf_aload3_n C (f := 0) (zdg dz_A_law_12 21 rfl) 0 rfl rfl ?_
  refine vf_iload C (zdg dz_A_law_12 22 rfl) 4 rfl ?_
  refine vf_iconst C (z := 1) (zdg dz_A_law_12 23 rfl) (jz rfl) ?_
  refine vf_iadd C (zdg dz_A_law_13 0 rfl) ?_
  refine vf_xld C hX (zdg dz_A_law_13 1 rfl) ?_
  refine vf_callVi C cy_E_picks ml_A_86 rfl (ct_E_picks _ _) (S := []) sh_0 (by decide) rfl (lb_jrm hb rfl) rfl rfl (Nat.le_of_ble_eq_true rfl) (zdg dz_A_law_13 2 rfl) (fun r59 u60 => ?_)
  refine vf_pop C (zdg dz_A_law_13 3 rfl) Nat.zero_ne_one ?_
  refine vf_aload_n C (f := 2) (zdg dz_A_law_13 4 rfl) 2 rfl rfl ?_
  refine vf_aload3_n C (f := 0) (zdg dz_A_law_13 5 rfl) 0 rfl rfl ?_
  refine vf_iload C (zdg dz_A_law_13 6 rfl) 4 rfl ?_
  refine vf_iconst C (z := 1) (zdg dz_A_law_13 7 rfl) (jz rfl) ?_
  refine vf_iadd C (zdg dz_A_law_13 8 rfl) ?_
  refine vf_xld C hX (zdg dz_A_law_13 9 rfl) ?_
  refine vf_callVi C cy_R_picks ml_A_89 rfl (ct_R_picks _ _) (S := []) sh_43 (by decide) rfl (lb_jrm hb rfl) rfl rfl (Nat.le_of_ble_eq_true rfl) (zdg dz_A_law_13 10 rfl) (fun r61 u62 => ?_)
  refine vf_pop C (zdg dz_A_law_13 11 rfl) Nat.zero_ne_one ?_
  refine vf_goto C (off := 597) (tgt := 1260) (zdg dz_A_law_13 12 rfl) (by decide) ?_
  exact t_A_law_1260 C hn hX hr hst hZ hSX hb hk23 _ _
def f_A_law_666 (Ln : Nat) (xs9 : Nat → Int32) (k23 : Int → Wd → Option (Int × Wd)) (v4 : Int) (w : Wd) : Option (Int × Wd) :=
  jcall (f_E_pairs w) fun r63 u64 =>
  jcall (f_R_pairs u64) fun r65 u66 =>
  f_A_law_1260 Ln xs9 k23 v4 u66
theorem t_A_law_666 {X : jX} {Qf : Int × Wd → State → Prop} {ad : Nat → Nat} {sbI : Int} {Ln : Nat} {xs9 : Nat → Int32} (C : Cx X code "EachBringsAnotherLaw") (hn : xn X = 7) (hX : LX X sbI Ln xs9) (hr : RtL X Qf ad code) (hst : (xl X).stackTraces = false) (hZ : ZX (xA X) (xs X)) (hSX : SX (xs X)) {f k n : Nat} (hB : LB X (f + 1) k n) {k23 : Int → Wd → Option (Int × Wd)} (hk23 : ∀ (k n : Nat) (v4 : Int) (w : Wd), LB X f k n → VF X Qf ad NF k n w 23 [(0, (3, sbI)), (1, (2, 1)), (2, (2, 44)), (3, (2, 83)), (4, (0, v4))] [] (k23 v4 w)) (v4 : Int) (w : Wd) : VF X Qf ad NF k n w 666 [(0, (3, sbI)), (1, (2, 1)), (2, (2, 44)), (3, (2, 83)), (4, (0, v4))] [] (f_A_law_666 Ln xs9 k23 v4 w) := by
  have hb := hB.s
  have hb1 := hB.t
  unfold f_A_law_666
  refine vf_aload_n C (f := 1) (zdg dz_A_law_13 13 rfl) 1 rfl rfl ?_
  refine vf_callVi C cy_E_pairs ml_A_90 rfl (ct_E_pairs _) (S := []) sh_0 (by decide) rfl (lb_jrm hb rfl) rfl rfl (Nat.le_of_ble_eq_true rfl) (zdg dz_A_law_13 14 rfl) (fun r63 u64 => ?_)
  refine vf_pop C (zdg dz_A_law_13 15 rfl) Nat.zero_ne_one ?_
  refine vf_aload_n C (f := 2) (zdg dz_A_law_13 16 rfl) 2 rfl rfl ?_
  refine vf_callVi C cy_R_pairs ml_A_93 rfl (ct_R_pairs _) (S := []) sh_43 (by decide) rfl (lb_jrm hb rfl) rfl rfl (Nat.le_of_ble_eq_true rfl) (zdg dz_A_law_13 17 rfl) (fun r65 u66 => ?_)
  refine vf_pop C (zdg dz_A_law_13 18 rfl) Nat.zero_ne_one ?_
  refine vf_goto C (off := 584) (tgt := 1260) (zdg dz_A_law_13 19 rfl) (by decide) ?_
  exact t_A_law_1260 C hn hX hr hst hZ hSX hb hk23 _ _
def f_A_law_679 (Ln : Nat) (xs9 : Nat → Int32) (k23 : Int → Wd → Option (Int × Wd)) (v4 : Int) (w : Wd) : Option (Int × Wd) :=
  jcall (f_E_bars w) fun r67 u68 =>
  jcall (f_R_bars u68) fun r69 u70 =>
  f_A_law_1260 Ln xs9 k23 v4 u70
theorem t_A_law_679 {X : jX} {Qf : Int × Wd → State → Prop} {ad : Nat → Nat} {sbI : Int} {Ln : Nat} {xs9 : Nat → Int32} (C : Cx X code "EachBringsAnotherLaw") (hn : xn X = 7) (hX : LX X sbI Ln xs9) (hr : RtL X Qf ad code) (hst : (xl X).stackTraces = false) (hZ : ZX (xA X) (xs X)) (hSX : SX (xs X)) {f k n : Nat} (hB : LB X (f + 1) k n) {k23 : Int → Wd → Option (Int × Wd)} (hk23 : ∀ (k n : Nat) (v4 : Int) (w : Wd), LB X f k n → VF X Qf ad NF k n w 23 [(0, (3, sbI)), (1, (2, 1)), (2, (2, 44)), (3, (2, 83)), (4, (0, v4))] [] (k23 v4 w)) (v4 : Int) (w : Wd) : VF X Qf ad NF k n w 679 [(0, (3, sbI)), (1, (2, 1)), (2, (2, 44)), (3, (2, 83)), (4, (0, v4))] [] (f_A_law_679 Ln xs9 k23 v4 w) := by
  have hb := hB.s
  have hb1 := hB.t
  unfold f_A_law_679
  refine vf_aload_n C (f := 1) (zdg dz_A_law_13 20 rfl) 1 rfl rfl ?_
  refine vf_callVi C cy_E_bars ml_A_94 rfl (ct_E_bars _) (S := []) sh_0 (by decide) rfl (lb_jrm hb rfl) rfl rfl (Nat.le_of_ble_eq_true rfl) (zdg dz_A_law_13 21 rfl) (fun r67 u68 => ?_)
  refine vf_pop C (zdg dz_A_law_13 22 rfl) Nat.zero_ne_one ?_
  refine vf_aload_n C (f := 2) (zdg dz_A_law_13 23 rfl) 2 rfl rfl ?_
  refine vf_callVi C cy_R_bars ml_A_97 rfl (ct_R_bars _) (S := []) sh_43 (by decide) rfl (lb_jrm hb rfl) rfl rfl (Nat.le_of_ble_eq_true rfl) (zdg dz_A_law_14 0 rfl) (fun r69 u70 => ?_)
  refine vf_pop C (zdg dz_A_law_14 1 rfl) Nat.zero_ne_one ?_
  refine vf_goto C (off := 571) (tgt := 1260) (zdg dz_A_law_14 2 rfl) (by decide) ?_
  exact t_A_law_1260 C hn hX hr hst hZ hSX hb hk23 _ _
def f_A_law_692 (Ln : Nat) (xs9 : Nat → Int32) (k23 : Int → Wd → Option (Int × Wd)) (v4 : Int) (w : Wd) : Option (Int × Wd) :=
  jcall (f_E_states w) fun r71 u72 =>
  jcall (f_R_states u72) fun r73 u74 =>
  f_A_law_1260 Ln xs9 k23 v4 u74
theorem t_A_law_692 {X : jX} {Qf : Int × Wd → State → Prop} {ad : Nat → Nat} {sbI : Int} {Ln : Nat} {xs9 : Nat → Int32} (C : Cx X code "EachBringsAnotherLaw") (hn : xn X = 7) (hX : LX X sbI Ln xs9) (hr : RtL X Qf ad code) (hst : (xl X).stackTraces = false) (hZ : ZX (xA X) (xs X)) (hSX : SX (xs X)) {f k n : Nat} (hB : LB X (f + 1) k n) {k23 : Int → Wd → Option (Int × Wd)} (hk23 : ∀ (k n : Nat) (v4 : Int) (w : Wd), LB X f k n → VF X Qf ad NF k n w 23 [(0, (3, sbI)), (1, (2, 1)), (2, (2, 44)), (3, (2, 83)), (4, (0, v4))] [] (k23 v4 w)) (v4 : Int) (w : Wd) : VF X Qf ad NF k n w 692 [(0, (3, sbI)), (1, (2, 1)), (2, (2, 44)), (3, (2, 83)), (4, (0, v4))] [] (f_A_law_692 Ln xs9 k23 v4 w) := by
  have hb := hB.s
  have hb1 := hB.t
  unfold f_A_law_692
  refine vf_aload_n C (f := 1) (zdg dz_A_law_14 3 rfl) 1 rfl rfl ?_
  refine vf_callVi C cy_E_states ml_A_98 rfl (ct_E_states _) (S := []) sh_0 (by decide) rfl (lb_jrm hb rfl) rfl rfl (Nat.le_of_ble_eq_true rfl) (zdg dz_A_law_14 4 rfl) (fun r71 u72 => ?_)
  refine vf_pop C (zdg dz_A_law_14 5 rfl) Nat.zero_ne_one ?_
  refine vf_aload_n C (f := 2) (zdg dz_A_law_14 6 rfl) 2 rfl rfl ?_
  refine vf_callVi C cy_R_states ml_A_101 rfl (ct_R_states _) (S := []) sh_43 (by decide) rfl (lb_jrm hb rfl) rfl rfl (Nat.le_of_ble_eq_true rfl) (zdg dz_A_law_14 7 rfl) (fun r73 u74 => ?_)
  refine vf_pop C (zdg dz_A_law_14 8 rfl) Nat.zero_ne_one ?_
  refine vf_goto C (off := 558) (tgt := 1260) (zdg dz_A_law_14 9 rfl) (by decide) ?_
  exact t_A_law_1260 C hn hX hr hst hZ hSX hb hk23 _ _
def f_A_law_705 (Ln : Nat) (xs9 : Nat → Int32) (k23 : Int → Wd → Option (Int × Wd)) (v4 : Int) (w : Wd) : Option (Int × Wd) :=
  jgd ((0 : Int) ≤ (w32 (v4 + 1)) ∧ (w32 (v4 + 1)) < (Ln : Int)) <|
  jcall (f_E_most ((xs9 (w32 (v4 + 1)).toNat).toInt) w) fun r75 u76 =>
  jgd ((0 : Int) ≤ (w32 (v4 + 1)) ∧ (w32 (v4 + 1)) < (Ln : Int)) <|
  jcall (f_R_most ((xs9 (w32 (v4 + 1)).toNat).toInt) u76) fun r77 u78 =>
  f_A_law_1260 Ln xs9 k23 v4 u78
theorem t_A_law_705 {X : jX} {Qf : Int × Wd → State → Prop} {ad : Nat → Nat} {sbI : Int} {Ln : Nat} {xs9 : Nat → Int32} (C : Cx X code "EachBringsAnotherLaw") (hn : xn X = 7) (hX : LX X sbI Ln xs9) (hr : RtL X Qf ad code) (hst : (xl X).stackTraces = false) (hZ : ZX (xA X) (xs X)) (hSX : SX (xs X)) {f k n : Nat} (hB : LB X (f + 1) k n) {k23 : Int → Wd → Option (Int × Wd)} (hk23 : ∀ (k n : Nat) (v4 : Int) (w : Wd), LB X f k n → VF X Qf ad NF k n w 23 [(0, (3, sbI)), (1, (2, 1)), (2, (2, 44)), (3, (2, 83)), (4, (0, v4))] [] (k23 v4 w)) (v4 : Int) (w : Wd) : VF X Qf ad NF k n w 705 [(0, (3, sbI)), (1, (2, 1)), (2, (2, 44)), (3, (2, 83)), (4, (0, v4))] [] (f_A_law_705 Ln xs9 k23 v4 w) := by
  have hb := hB.s
  have hb1 := hB.t
  unfold f_A_law_705
  refine vf_aload_n C (f := 1) (zdg dz_A_law_14 10 rfl) 1 rfl rfl ?_
  refine vf_aload3_n C (f := 0) (zdg dz_A_law_14 11 rfl) 0 rfl rfl ?_
  refine vf_iload C (zdg dz_A_law_14 12 rfl) 4 rfl ?_
  refine vf_iconst C (z := 1) (zdg dz_A_law_14 13 rfl) (jz rfl) ?_
  refine vf_iadd C (zdg dz_A_law_14 14 rfl) ?_
  refine vf_xld C hX (zdg dz_A_law_14 15 rfl) ?_
  refine vf_callVi C cy_E_most ml_A_102 rfl (ct_E_most _ _) (S := []) sh_0 (by decide) rfl (lb_jrm hb rfl) rfl rfl (Nat.le_of_ble_eq_true rfl) (zdg dz_A_law_14 16 rfl) (fun r75 u76 => ?_)
  refine vf_pop C (zdg dz_A_law_14 17 rfl) Nat.zero_ne_one ?_
  refine vf_aload_n C (f := 2) (zdg dz_A_law_14 18 rfl) 2 rfl rfl ?_
  refine vf_aload3_n C (f := 0) (zdg dz_A_law_14 19 rfl) 0 rfl rfl ?_
  refine vf_iload C (zdg dz_A_law_14 20 rfl) 4 rfl ?_
  refine vf_iconst C (z := 1) (zdg dz_A_law_14 21 rfl) (jz rfl) ?_
  refine vf_iadd C (zdg dz_A_law_14 22 rfl) ?_
  refine vf_xld C hX (zdg dz_A_law_14 23 rfl) ?_
  refine vf_callVi C cy_R_most ml_A_105 rfl (ct_R_most _ _) (S := []) sh_43 (by decide) rfl (lb_jrm hb rfl) rfl rfl (Nat.le_of_ble_eq_true rfl) (zdg dz_A_law_15 0 rfl) (fun r77 u78 => ?_)
  refine vf_pop C (zdg dz_A_law_15 1 rfl) Nat.zero_ne_one ?_
  refine vf_goto C (off := 533) (tgt := 1260) (zdg dz_A_law_15 2 rfl) (by decide) ?_
  exact t_A_law_1260 C hn hX hr hst hZ hSX hb hk23 _ _
def f_A_law_730 (Ln : Nat) (xs9 : Nat → Int32) (k23 : Int → Wd → Option (Int × Wd)) (v4 : Int) (w : Wd) : Option (Int × Wd) :=
  jgd ((0 : Int) ≤ (w32 (v4 + 1)) ∧ (w32 (v4 + 1)) < (Ln : Int)) <|
  jcall (f_E_reach ((xs9 (w32 (v4 + 1)).toNat).toInt) w) fun r79 u80 =>
  jgd ((0 : Int) ≤ (w32 (v4 + 1)) ∧ (w32 (v4 + 1)) < (Ln : Int)) <|
  jcall (f_R_reach ((xs9 (w32 (v4 + 1)).toNat).toInt) u80) fun r81 u82 =>
  f_A_law_1260 Ln xs9 k23 v4 u82
theorem t_A_law_730 {X : jX} {Qf : Int × Wd → State → Prop} {ad : Nat → Nat} {sbI : Int} {Ln : Nat} {xs9 : Nat → Int32} (C : Cx X code "EachBringsAnotherLaw") (hn : xn X = 7) (hX : LX X sbI Ln xs9) (hr : RtL X Qf ad code) (hst : (xl X).stackTraces = false) (hZ : ZX (xA X) (xs X)) (hSX : SX (xs X)) {f k n : Nat} (hB : LB X (f + 1) k n) {k23 : Int → Wd → Option (Int × Wd)} (hk23 : ∀ (k n : Nat) (v4 : Int) (w : Wd), LB X f k n → VF X Qf ad NF k n w 23 [(0, (3, sbI)), (1, (2, 1)), (2, (2, 44)), (3, (2, 83)), (4, (0, v4))] [] (k23 v4 w)) (v4 : Int) (w : Wd) : VF X Qf ad NF k n w 730 [(0, (3, sbI)), (1, (2, 1)), (2, (2, 44)), (3, (2, 83)), (4, (0, v4))] [] (f_A_law_730 Ln xs9 k23 v4 w) := by
  have hb := hB.s
  have hb1 := hB.t
  unfold f_A_law_730
  refine vf_aload_n C (f := 1) (zdg dz_A_law_15 3 rfl) 1 rfl rfl ?_
  refine vf_aload3_n C (f := 0) (zdg dz_A_law_15 4 rfl) 0 rfl rfl ?_
  refine vf_iload C (zdg dz_A_law_15 5 rfl) 4 rfl ?_
  refine vf_iconst C (z := 1) (zdg dz_A_law_15 6 rfl) (jz rfl) ?_
  refine vf_iadd C (zdg dz_A_law_15 7 rfl) ?_
  refine vf_xld C hX (zdg dz_A_law_15 8 rfl) ?_
  refine vf_callVi C cy_E_reach ml_A_106 rfl (ct_E_reach _ _) (S := []) sh_0 (by decide) rfl (lb_jrm hb rfl) rfl rfl (Nat.le_of_ble_eq_true rfl) (zdg dz_A_law_15 9 rfl) (fun r79 u80 => ?_)
  refine vf_pop C (zdg dz_A_law_15 10 rfl) Nat.zero_ne_one ?_
  refine vf_aload_n C (f := 2) (zdg dz_A_law_15 11 rfl) 2 rfl rfl ?_
  refine vf_aload3_n C (f := 0) (zdg dz_A_law_15 12 rfl) 0 rfl rfl ?_
  refine vf_iload C (zdg dz_A_law_15 13 rfl) 4 rfl ?_
  refine vf_iconst C (z := 1) (zdg dz_A_law_15 14 rfl) (jz rfl) ?_
  refine vf_iadd C (zdg dz_A_law_15 15 rfl) ?_
  refine vf_xld C hX (zdg dz_A_law_15 16 rfl) ?_
  refine vf_callVi C cy_R_reach ml_A_109 rfl (ct_R_reach _ _) (S := []) sh_43 (by decide) rfl (lb_jrm hb rfl) rfl rfl (Nat.le_of_ble_eq_true rfl) (zdg dz_A_law_15 17 rfl) (fun r81 u82 => ?_)
  refine vf_pop C (zdg dz_A_law_15 18 rfl) Nat.zero_ne_one ?_
  refine vf_goto C (off := 508) (tgt := 1260) (zdg dz_A_law_15 19 rfl) (by decide) ?_
  exact t_A_law_1260 C hn hX hr hst hZ hSX hb hk23 _ _
def f_A_law_755 (Ln : Nat) (xs9 : Nat → Int32) (k23 : Int → Wd → Option (Int × Wd)) (v4 : Int) (w : Wd) : Option (Int × Wd) :=
  jgd ((0 : Int) ≤ (w32 (v4 + 1)) ∧ (w32 (v4 + 1)) < (Ln : Int)) <|
  jcall (f_E_fewest ((xs9 (w32 (v4 + 1)).toNat).toInt) w) fun r83 u84 =>
  jgd ((0 : Int) ≤ (w32 (v4 + 1)) ∧ (w32 (v4 + 1)) < (Ln : Int)) <|
  jcall (f_R_fewest ((xs9 (w32 (v4 + 1)).toNat).toInt) u84) fun r85 u86 =>
  f_A_law_1260 Ln xs9 k23 v4 u86
theorem t_A_law_755 {X : jX} {Qf : Int × Wd → State → Prop} {ad : Nat → Nat} {sbI : Int} {Ln : Nat} {xs9 : Nat → Int32} (C : Cx X code "EachBringsAnotherLaw") (hn : xn X = 7) (hX : LX X sbI Ln xs9) (hr : RtL X Qf ad code) (hst : (xl X).stackTraces = false) (hZ : ZX (xA X) (xs X)) (hSX : SX (xs X)) {f k n : Nat} (hB : LB X (f + 1) k n) {k23 : Int → Wd → Option (Int × Wd)} (hk23 : ∀ (k n : Nat) (v4 : Int) (w : Wd), LB X f k n → VF X Qf ad NF k n w 23 [(0, (3, sbI)), (1, (2, 1)), (2, (2, 44)), (3, (2, 83)), (4, (0, v4))] [] (k23 v4 w)) (v4 : Int) (w : Wd) : VF X Qf ad NF k n w 755 [(0, (3, sbI)), (1, (2, 1)), (2, (2, 44)), (3, (2, 83)), (4, (0, v4))] [] (f_A_law_755 Ln xs9 k23 v4 w) := by
  have hb := hB.s
  have hb1 := hB.t
  unfold f_A_law_755
  refine vf_aload_n C (f := 1) (zdg dz_A_law_15 20 rfl) 1 rfl rfl ?_
  refine vf_aload3_n C (f := 0) (zdg dz_A_law_15 21 rfl) 0 rfl rfl ?_
  refine vf_iload C (zdg dz_A_law_15 22 rfl) 4 rfl ?_
  refine vf_iconst C (z := 1) (zdg dz_A_law_15 23 rfl) (jz rfl) ?_
  refine vf_iadd C (zdg dz_A_law_16 0 rfl) ?_
  refine vf_xld C hX (zdg dz_A_law_16 1 rfl) ?_
  refine vf_callVi C cy_E_fewest ml_A_110 rfl (ct_E_fewest _ _) (S := []) sh_0 (by decide) rfl (lb_jrm hb rfl) rfl rfl (Nat.le_of_ble_eq_true rfl) (zdg dz_A_law_16 2 rfl) (fun r83 u84 => ?_)
  refine vf_pop C (zdg dz_A_law_16 3 rfl) Nat.zero_ne_one ?_
  refine vf_aload_n C (f := 2) (zdg dz_A_law_16 4 rfl) 2 rfl rfl ?_
  refine vf_aload3_n C (f := 0) (zdg dz_A_law_16 5 rfl) 0 rfl rfl ?_
  refine vf_iload C (zdg dz_A_law_16 6 rfl) 4 rfl ?_
  refine vf_iconst C (z := 1) (zdg dz_A_law_16 7 rfl) (jz rfl) ?_
  refine vf_iadd C (zdg dz_A_law_16 8 rfl) ?_
  refine vf_xld C hX (zdg dz_A_law_16 9 rfl) ?_
  refine vf_callVi C cy_R_fewest ml_A_113 rfl (ct_R_fewest _ _) (S := []) sh_43 (by decide) rfl (lb_jrm hb rfl) rfl rfl (Nat.le_of_ble_eq_true rfl) (zdg dz_A_law_16 10 rfl) (fun r85 u86 => ?_)
  refine vf_pop C (zdg dz_A_law_16 11 rfl) Nat.zero_ne_one ?_
  refine vf_goto C (off := 483) (tgt := 1260) (zdg dz_A_law_16 12 rfl) (by decide) ?_
  exact t_A_law_1260 C hn hX hr hst hZ hSX hb hk23 _ _
def f_A_law_780 (Ln : Nat) (xs9 : Nat → Int32) (k23 : Int → Wd → Option (Int × Wd)) (v4 : Int) (w : Wd) : Option (Int × Wd) :=
  jcall (f_E_crowd w) fun r87 u88 =>
  jcall (f_R_crowd u88) fun r89 u90 =>
  f_A_law_1260 Ln xs9 k23 v4 u90
theorem t_A_law_780 {X : jX} {Qf : Int × Wd → State → Prop} {ad : Nat → Nat} {sbI : Int} {Ln : Nat} {xs9 : Nat → Int32} (C : Cx X code "EachBringsAnotherLaw") (hn : xn X = 7) (hX : LX X sbI Ln xs9) (hr : RtL X Qf ad code) (hst : (xl X).stackTraces = false) (hZ : ZX (xA X) (xs X)) (hSX : SX (xs X)) {f k n : Nat} (hB : LB X (f + 1) k n) {k23 : Int → Wd → Option (Int × Wd)} (hk23 : ∀ (k n : Nat) (v4 : Int) (w : Wd), LB X f k n → VF X Qf ad NF k n w 23 [(0, (3, sbI)), (1, (2, 1)), (2, (2, 44)), (3, (2, 83)), (4, (0, v4))] [] (k23 v4 w)) (v4 : Int) (w : Wd) : VF X Qf ad NF k n w 780 [(0, (3, sbI)), (1, (2, 1)), (2, (2, 44)), (3, (2, 83)), (4, (0, v4))] [] (f_A_law_780 Ln xs9 k23 v4 w) := by
  have hb := hB.s
  have hb1 := hB.t
  unfold f_A_law_780
  refine vf_aload_n C (f := 1) (zdg dz_A_law_16 13 rfl) 1 rfl rfl ?_
  refine vf_callVi C cy_E_crowd ml_A_114 rfl (ct_E_crowd _) (S := []) sh_0 (by decide) rfl (lb_jrm hb rfl) rfl rfl (Nat.le_of_ble_eq_true rfl) (zdg dz_A_law_16 14 rfl) (fun r87 u88 => ?_)
  refine vf_pop C (zdg dz_A_law_16 15 rfl) Nat.zero_ne_one ?_
  refine vf_aload_n C (f := 2) (zdg dz_A_law_16 16 rfl) 2 rfl rfl ?_
  refine vf_callVi C cy_R_crowd ml_A_117 rfl (ct_R_crowd _) (S := []) sh_43 (by decide) rfl (lb_jrm hb rfl) rfl rfl (Nat.le_of_ble_eq_true rfl) (zdg dz_A_law_16 17 rfl) (fun r89 u90 => ?_)
  refine vf_pop C (zdg dz_A_law_16 18 rfl) Nat.zero_ne_one ?_
  refine vf_goto C (off := 470) (tgt := 1260) (zdg dz_A_law_16 19 rfl) (by decide) ?_
  exact t_A_law_1260 C hn hX hr hst hZ hSX hb hk23 _ _
def f_A_law_793 (Ln : Nat) (xs9 : Nat → Int32) (k23 : Int → Wd → Option (Int × Wd)) (v4 : Int) (w : Wd) : Option (Int × Wd) :=
  jgd ((0 : Int) ≤ (w32 (v4 + 1)) ∧ (w32 (v4 + 1)) < (Ln : Int)) <|
  jgd ((0 : Int) ≤ (w32 (v4 + 2)) ∧ (w32 (v4 + 2)) < (Ln : Int)) <|
  jgd ((0 : Int) ≤ (w32 (v4 + 3)) ∧ (w32 (v4 + 3)) < (Ln : Int)) <|
  jcall (f_E_both ((xs9 (w32 (v4 + 1)).toNat).toInt) ((xs9 (w32 (v4 + 2)).toNat).toInt) ((xs9 (w32 (v4 + 3)).toNat).toInt) w) fun r91 u92 =>
  jgd ((0 : Int) ≤ (w32 (v4 + 1)) ∧ (w32 (v4 + 1)) < (Ln : Int)) <|
  jgd ((0 : Int) ≤ (w32 (v4 + 2)) ∧ (w32 (v4 + 2)) < (Ln : Int)) <|
  jgd ((0 : Int) ≤ (w32 (v4 + 3)) ∧ (w32 (v4 + 3)) < (Ln : Int)) <|
  jcall (f_R_both ((xs9 (w32 (v4 + 1)).toNat).toInt) ((xs9 (w32 (v4 + 2)).toNat).toInt) ((xs9 (w32 (v4 + 3)).toNat).toInt) u92) fun r93 u94 =>
  f_A_law_1260 Ln xs9 k23 v4 u94
theorem t_A_law_793 {X : jX} {Qf : Int × Wd → State → Prop} {ad : Nat → Nat} {sbI : Int} {Ln : Nat} {xs9 : Nat → Int32} (C : Cx X code "EachBringsAnotherLaw") (hn : xn X = 7) (hX : LX X sbI Ln xs9) (hr : RtL X Qf ad code) (hst : (xl X).stackTraces = false) (hZ : ZX (xA X) (xs X)) (hSX : SX (xs X)) {f k n : Nat} (hB : LB X (f + 1) k n) {k23 : Int → Wd → Option (Int × Wd)} (hk23 : ∀ (k n : Nat) (v4 : Int) (w : Wd), LB X f k n → VF X Qf ad NF k n w 23 [(0, (3, sbI)), (1, (2, 1)), (2, (2, 44)), (3, (2, 83)), (4, (0, v4))] [] (k23 v4 w)) (v4 : Int) (w : Wd) : VF X Qf ad NF k n w 793 [(0, (3, sbI)), (1, (2, 1)), (2, (2, 44)), (3, (2, 83)), (4, (0, v4))] [] (f_A_law_793 Ln xs9 k23 v4 w) := by
  have hb := hB.s
  have hb1 := hB.t
  unfold f_A_law_793
  refine vf_aload_n C (f := 1) (zdg dz_A_law_16 20 rfl) 1 rfl rfl ?_
  refine vf_aload3_n C (f := 0) (zdg dz_A_law_16 21 rfl) 0 rfl rfl ?_
  refine vf_iload C (zdg dz_A_law_16 22 rfl) 4 rfl ?_
  refine vf_iconst C (z := 1) (zdg dz_A_law_16 23 rfl) (jz rfl) ?_
  refine vf_iadd C (zdg dz_A_law_17 0 rfl) ?_
  refine vf_xld C hX (zdg dz_A_law_17 1 rfl) ?_
  refine vf_aload3_n C (f := 0) (zdg dz_A_law_17 2 rfl) 0 rfl rfl ?_
  refine vf_iload C (zdg dz_A_law_17 3 rfl) 4 rfl ?_
  refine vf_iconst C (z := 2) (zdg dz_A_law_17 4 rfl) (jz rfl) ?_
  refine vf_iadd C (zdg dz_A_law_17 5 rfl) ?_
  refine vf_xld C hX (zdg dz_A_law_17 6 rfl) ?_
  refine vf_aload3_n C (f := 0) (zdg dz_A_law_17 7 rfl) 0 rfl rfl ?_
  refine vf_iload C (zdg dz_A_law_17 8 rfl) 4 rfl ?_
  refine vf_iconst C (z := 3) (zdg dz_A_law_17 9 rfl) (jz rfl) ?_
  refine vf_iadd C (zdg dz_A_law_17 10 rfl) ?_
  refine vf_xld C hX (zdg dz_A_law_17 11 rfl) ?_
  refine vf_callVi C cy_E_both ml_A_118 rfl (ct_E_both _ _ _ _) (S := []) sh_0 (by decide) rfl (lb_jrm hb rfl) rfl rfl (Nat.le_of_ble_eq_true rfl) (zdg dz_A_law_17 12 rfl) (fun r91 u92 => ?_)
  refine vf_pop C (zdg dz_A_law_17 13 rfl) Nat.zero_ne_one ?_
  refine vf_aload_n C (f := 2) (zdg dz_A_law_17 14 rfl) 2 rfl rfl ?_
  refine vf_aload3_n C (f := 0) (zdg dz_A_law_17 15 rfl) 0 rfl rfl ?_
  refine vf_iload C (zdg dz_A_law_17 16 rfl) 4 rfl ?_
  refine vf_iconst C (z := 1) (zdg dz_A_law_17 17 rfl) (jz rfl) ?_
  refine vf_iadd C (zdg dz_A_law_17 18 rfl) ?_
  refine vf_xld C hX (zdg dz_A_law_17 19 rfl) ?_
  refine vf_aload3_n C (f := 0) (zdg dz_A_law_17 20 rfl) 0 rfl rfl ?_
  refine vf_iload C (zdg dz_A_law_17 21 rfl) 4 rfl ?_
  refine vf_iconst C (z := 2) (zdg dz_A_law_17 22 rfl) (jz rfl) ?_
  refine vf_iadd C (zdg dz_A_law_17 23 rfl) ?_
  refine vf_xld C hX (zdg dz_A_law_18 0 rfl) ?_
  refine vf_aload3_n C (f := 0) (zdg dz_A_law_18 1 rfl) 0 rfl rfl ?_
  refine vf_iload C (zdg dz_A_law_18 2 rfl) 4 rfl ?_
  refine vf_iconst C (z := 3) (zdg dz_A_law_18 3 rfl) (jz rfl) ?_
  refine vf_iadd C (zdg dz_A_law_18 4 rfl) ?_
  refine vf_xld C hX (zdg dz_A_law_18 5 rfl) ?_
  refine vf_callVi C cy_R_both ml_A_122 rfl (ct_R_both _ _ _ _) (S := []) sh_43 (by decide) rfl (lb_jrm hb rfl) rfl rfl (Nat.le_of_ble_eq_true rfl) (zdg dz_A_law_18 6 rfl) (fun r93 u94 => ?_)
  refine vf_pop C (zdg dz_A_law_18 7 rfl) Nat.zero_ne_one ?_
  refine vf_goto C (off := 421) (tgt := 1260) (zdg dz_A_law_18 8 rfl) (by decide) ?_
  exact t_A_law_1260 C hn hX hr hst hZ hSX hb hk23 _ _
def f_A_law_842 (Ln : Nat) (xs9 : Nat → Int32) (k23 : Int → Wd → Option (Int × Wd)) (v4 : Int) (w : Wd) : Option (Int × Wd) :=
  jcall (f_E_last w) fun r95 u96 =>
  jcall (f_R_last u96) fun r97 u98 =>
  f_A_law_1260 Ln xs9 k23 v4 u98
theorem t_A_law_842 {X : jX} {Qf : Int × Wd → State → Prop} {ad : Nat → Nat} {sbI : Int} {Ln : Nat} {xs9 : Nat → Int32} (C : Cx X code "EachBringsAnotherLaw") (hn : xn X = 7) (hX : LX X sbI Ln xs9) (hr : RtL X Qf ad code) (hst : (xl X).stackTraces = false) (hZ : ZX (xA X) (xs X)) (hSX : SX (xs X)) {f k n : Nat} (hB : LB X (f + 1) k n) {k23 : Int → Wd → Option (Int × Wd)} (hk23 : ∀ (k n : Nat) (v4 : Int) (w : Wd), LB X f k n → VF X Qf ad NF k n w 23 [(0, (3, sbI)), (1, (2, 1)), (2, (2, 44)), (3, (2, 83)), (4, (0, v4))] [] (k23 v4 w)) (v4 : Int) (w : Wd) : VF X Qf ad NF k n w 842 [(0, (3, sbI)), (1, (2, 1)), (2, (2, 44)), (3, (2, 83)), (4, (0, v4))] [] (f_A_law_842 Ln xs9 k23 v4 w) := by
  have hb := hB.s
  have hb1 := hB.t
  unfold f_A_law_842
  refine vf_aload_n C (f := 1) (zdg dz_A_law_18 9 rfl) 1 rfl rfl ?_
  refine vf_callVi C cy_E_last ml_A_123 rfl (ct_E_last _) (S := []) sh_0 (by decide) rfl (lb_jrm hb rfl) rfl rfl (Nat.le_of_ble_eq_true rfl) (zdg dz_A_law_18 10 rfl) (fun r95 u96 => ?_)
  refine vf_pop C (zdg dz_A_law_18 11 rfl) Nat.zero_ne_one ?_
  refine vf_aload_n C (f := 2) (zdg dz_A_law_18 12 rfl) 2 rfl rfl ?_
  refine vf_callVi C cy_R_last ml_A_126 rfl (ct_R_last _) (S := []) sh_43 (by decide) rfl (lb_jrm hb rfl) rfl rfl (Nat.le_of_ble_eq_true rfl) (zdg dz_A_law_18 13 rfl) (fun r97 u98 => ?_)
  refine vf_pop C (zdg dz_A_law_18 14 rfl) Nat.zero_ne_one ?_
  refine vf_goto C (off := 408) (tgt := 1260) (zdg dz_A_law_18 15 rfl) (by decide) ?_
  exact t_A_law_1260 C hn hX hr hst hZ hSX hb hk23 _ _
def f_A_law_855 (Ln : Nat) (xs9 : Nat → Int32) (k23 : Int → Wd → Option (Int × Wd)) (v4 : Int) (w : Wd) : Option (Int × Wd) :=
  jcall (f_E_begin w) fun r99 u100 =>
  jcall (f_R_begin2 u100) fun r101 u102 =>
  f_A_law_1260 Ln xs9 k23 v4 u102
theorem t_A_law_855 {X : jX} {Qf : Int × Wd → State → Prop} {ad : Nat → Nat} {sbI : Int} {Ln : Nat} {xs9 : Nat → Int32} (C : Cx X code "EachBringsAnotherLaw") (hn : xn X = 7) (hX : LX X sbI Ln xs9) (hr : RtL X Qf ad code) (hst : (xl X).stackTraces = false) (hZ : ZX (xA X) (xs X)) (hSX : SX (xs X)) {f k n : Nat} (hB : LB X (f + 1) k n) {k23 : Int → Wd → Option (Int × Wd)} (hk23 : ∀ (k n : Nat) (v4 : Int) (w : Wd), LB X f k n → VF X Qf ad NF k n w 23 [(0, (3, sbI)), (1, (2, 1)), (2, (2, 44)), (3, (2, 83)), (4, (0, v4))] [] (k23 v4 w)) (v4 : Int) (w : Wd) : VF X Qf ad NF k n w 855 [(0, (3, sbI)), (1, (2, 1)), (2, (2, 44)), (3, (2, 83)), (4, (0, v4))] [] (f_A_law_855 Ln xs9 k23 v4 w) := by
  have hb := hB.s
  have hb1 := hB.t
  unfold f_A_law_855
  refine vf_aload_n C (f := 1) (zdg dz_A_law_18 16 rfl) 1 rfl rfl ?_
  refine vf_callVi C cy_E_begin ml_A_127 rfl (ct_E_begin _) (S := []) sh_0 (by decide) rfl (lb_jrm hb rfl) rfl rfl (Nat.le_of_ble_eq_true rfl) (zdg dz_A_law_18 17 rfl) (fun r99 u100 => ?_)
  refine vf_pop C (zdg dz_A_law_18 18 rfl) Nat.zero_ne_one ?_
  refine vf_aload_n C (f := 2) (zdg dz_A_law_18 19 rfl) 2 rfl rfl ?_
  refine vf_callVi C cy_R_begin2 ml_A_130 rfl (ct_R_begin2 _) (S := []) sh_43 (by decide) rfl (lb_jrm hb rfl) rfl rfl (Nat.le_of_ble_eq_true rfl) (zdg dz_A_law_18 20 rfl) (fun r101 u102 => ?_)
  refine vf_pop C (zdg dz_A_law_18 21 rfl) Nat.zero_ne_one ?_
  refine vf_goto C (off := 395) (tgt := 1260) (zdg dz_A_law_18 22 rfl) (by decide) ?_
  exact t_A_law_1260 C hn hX hr hst hZ hSX hb hk23 _ _
def f_A_law_868 (Ln : Nat) (xs9 : Nat → Int32) (k23 : Int → Wd → Option (Int × Wd)) (v4 : Int) (w : Wd) : Option (Int × Wd) :=
  jgd ((0 : Int) ≤ (w32 (v4 + 1)) ∧ (w32 (v4 + 1)) < (Ln : Int)) <|
  jcall (f_E_cheap ((xs9 (w32 (v4 + 1)).toNat).toInt) w) fun r103 u104 =>
  jgd ((0 : Int) ≤ (w32 (v4 + 1)) ∧ (w32 (v4 + 1)) < (Ln : Int)) <|
  jcall (f_R_cheap ((xs9 (w32 (v4 + 1)).toNat).toInt) u104) fun r105 u106 =>
  f_A_law_1260 Ln xs9 k23 v4 u106
theorem t_A_law_868 {X : jX} {Qf : Int × Wd → State → Prop} {ad : Nat → Nat} {sbI : Int} {Ln : Nat} {xs9 : Nat → Int32} (C : Cx X code "EachBringsAnotherLaw") (hn : xn X = 7) (hX : LX X sbI Ln xs9) (hr : RtL X Qf ad code) (hst : (xl X).stackTraces = false) (hZ : ZX (xA X) (xs X)) (hSX : SX (xs X)) {f k n : Nat} (hB : LB X (f + 1) k n) {k23 : Int → Wd → Option (Int × Wd)} (hk23 : ∀ (k n : Nat) (v4 : Int) (w : Wd), LB X f k n → VF X Qf ad NF k n w 23 [(0, (3, sbI)), (1, (2, 1)), (2, (2, 44)), (3, (2, 83)), (4, (0, v4))] [] (k23 v4 w)) (v4 : Int) (w : Wd) : VF X Qf ad NF k n w 868 [(0, (3, sbI)), (1, (2, 1)), (2, (2, 44)), (3, (2, 83)), (4, (0, v4))] [] (f_A_law_868 Ln xs9 k23 v4 w) := by
  have hb := hB.s
  have hb1 := hB.t
  unfold f_A_law_868
  refine vf_aload_n C (f := 1) (zdg dz_A_law_18 23 rfl) 1 rfl rfl ?_
  refine vf_aload3_n C (f := 0) (zdg dz_A_law_19 0 rfl) 0 rfl rfl ?_
  refine vf_iload C (zdg dz_A_law_19 1 rfl) 4 rfl ?_
  refine vf_iconst C (z := 1) (zdg dz_A_law_19 2 rfl) (jz rfl) ?_
  refine vf_iadd C (zdg dz_A_law_19 3 rfl) ?_
  refine vf_xld C hX (zdg dz_A_law_19 4 rfl) ?_
  refine vf_callVi C cy_E_cheap ml_A_131 rfl (ct_E_cheap _ _) (S := []) sh_0 (by decide) rfl (lb_jrm hb rfl) rfl rfl (Nat.le_of_ble_eq_true rfl) (zdg dz_A_law_19 5 rfl) (fun r103 u104 => ?_)
  refine vf_pop C (zdg dz_A_law_19 6 rfl) Nat.zero_ne_one ?_
  refine vf_aload_n C (f := 2) (zdg dz_A_law_19 7 rfl) 2 rfl rfl ?_
  refine vf_aload3_n C (f := 0) (zdg dz_A_law_19 8 rfl) 0 rfl rfl ?_
  refine vf_iload C (zdg dz_A_law_19 9 rfl) 4 rfl ?_
  refine vf_iconst C (z := 1) (zdg dz_A_law_19 10 rfl) (jz rfl) ?_
  refine vf_iadd C (zdg dz_A_law_19 11 rfl) ?_
  refine vf_xld C hX (zdg dz_A_law_19 12 rfl) ?_
  refine vf_callVi C cy_R_cheap ml_A_134 rfl (ct_R_cheap _ _) (S := []) sh_43 (by decide) rfl (lb_jrm hb rfl) rfl rfl (Nat.le_of_ble_eq_true rfl) (zdg dz_A_law_19 13 rfl) (fun r105 u106 => ?_)
  refine vf_pop C (zdg dz_A_law_19 14 rfl) Nat.zero_ne_one ?_
  refine vf_goto C (off := 370) (tgt := 1260) (zdg dz_A_law_19 15 rfl) (by decide) ?_
  exact t_A_law_1260 C hn hX hr hst hZ hSX hb hk23 _ _
def f_A_law_893 (Ln : Nat) (xs9 : Nat → Int32) (k23 : Int → Wd → Option (Int × Wd)) (v4 : Int) (w : Wd) : Option (Int × Wd) :=
  jgd ((0 : Int) ≤ (w32 (v4 + 1)) ∧ (w32 (v4 + 1)) < (Ln : Int)) <|
  jcall (f_E_stays ((xs9 (w32 (v4 + 1)).toNat).toInt) w) fun r107 u108 =>
  jgd ((0 : Int) ≤ (w32 (v4 + 1)) ∧ (w32 (v4 + 1)) < (Ln : Int)) <|
  jcall (f_R_stays ((xs9 (w32 (v4 + 1)).toNat).toInt) u108) fun r109 u110 =>
  f_A_law_1260 Ln xs9 k23 v4 u110
theorem t_A_law_893 {X : jX} {Qf : Int × Wd → State → Prop} {ad : Nat → Nat} {sbI : Int} {Ln : Nat} {xs9 : Nat → Int32} (C : Cx X code "EachBringsAnotherLaw") (hn : xn X = 7) (hX : LX X sbI Ln xs9) (hr : RtL X Qf ad code) (hst : (xl X).stackTraces = false) (hZ : ZX (xA X) (xs X)) (hSX : SX (xs X)) {f k n : Nat} (hB : LB X (f + 1) k n) {k23 : Int → Wd → Option (Int × Wd)} (hk23 : ∀ (k n : Nat) (v4 : Int) (w : Wd), LB X f k n → VF X Qf ad NF k n w 23 [(0, (3, sbI)), (1, (2, 1)), (2, (2, 44)), (3, (2, 83)), (4, (0, v4))] [] (k23 v4 w)) (v4 : Int) (w : Wd) : VF X Qf ad NF k n w 893 [(0, (3, sbI)), (1, (2, 1)), (2, (2, 44)), (3, (2, 83)), (4, (0, v4))] [] (f_A_law_893 Ln xs9 k23 v4 w) := by
  have hb := hB.s
  have hb1 := hB.t
  unfold f_A_law_893
  refine vf_aload_n C (f := 1) (zdg dz_A_law_19 16 rfl) 1 rfl rfl ?_
  refine vf_aload3_n C (f := 0) (zdg dz_A_law_19 17 rfl) 0 rfl rfl ?_
  refine vf_iload C (zdg dz_A_law_19 18 rfl) 4 rfl ?_
  refine vf_iconst C (z := 1) (zdg dz_A_law_19 19 rfl) (jz rfl) ?_
  refine vf_iadd C (zdg dz_A_law_19 20 rfl) ?_
  refine vf_xld C hX (zdg dz_A_law_19 21 rfl) ?_
  refine vf_callVi C cy_E_stays ml_A_135 rfl (ct_E_stays _ _) (S := []) sh_0 (by decide) rfl (lb_jrm hb rfl) rfl rfl (Nat.le_of_ble_eq_true rfl) (zdg dz_A_law_19 22 rfl) (fun r107 u108 => ?_)
  refine vf_pop C (zdg dz_A_law_19 23 rfl) Nat.zero_ne_one ?_
  refine vf_aload_n C (f := 2) (zdg dz_A_law_20 0 rfl) 2 rfl rfl ?_
  refine vf_aload3_n C (f := 0) (zdg dz_A_law_20 1 rfl) 0 rfl rfl ?_
  refine vf_iload C (zdg dz_A_law_20 2 rfl) 4 rfl ?_
  refine vf_iconst C (z := 1) (zdg dz_A_law_20 3 rfl) (jz rfl) ?_
  refine vf_iadd C (zdg dz_A_law_20 4 rfl) ?_
  refine vf_xld C hX (zdg dz_A_law_20 5 rfl) ?_
  refine vf_callVi C cy_R_stays ml_A_138 rfl (ct_R_stays _ _) (S := []) sh_43 (by decide) rfl (lb_jrm hb rfl) rfl rfl (Nat.le_of_ble_eq_true rfl) (zdg dz_A_law_20 6 rfl) (fun r109 u110 => ?_)
  refine vf_pop C (zdg dz_A_law_20 7 rfl) Nat.zero_ne_one ?_
  refine vf_goto C (off := 345) (tgt := 1260) (zdg dz_A_law_20 8 rfl) (by decide) ?_
  exact t_A_law_1260 C hn hX hr hst hZ hSX hb hk23 _ _
def f_A_law_918 (Ln : Nat) (xs9 : Nat → Int32) (k23 : Int → Wd → Option (Int × Wd)) (v4 : Int) (w : Wd) : Option (Int × Wd) :=
  jgd ((0 : Int) ≤ (w32 (v4 + 1)) ∧ (w32 (v4 + 1)) < (Ln : Int)) <|
  jcall (f_E_soonest ((xs9 (w32 (v4 + 1)).toNat).toInt) w) fun r111 u112 =>
  jgd ((0 : Int) ≤ (w32 (v4 + 1)) ∧ (w32 (v4 + 1)) < (Ln : Int)) <|
  jcall (f_R_soonest ((xs9 (w32 (v4 + 1)).toNat).toInt) u112) fun r113 u114 =>
  f_A_law_1260 Ln xs9 k23 v4 u114
theorem t_A_law_918 {X : jX} {Qf : Int × Wd → State → Prop} {ad : Nat → Nat} {sbI : Int} {Ln : Nat} {xs9 : Nat → Int32} (C : Cx X code "EachBringsAnotherLaw") (hn : xn X = 7) (hX : LX X sbI Ln xs9) (hr : RtL X Qf ad code) (hst : (xl X).stackTraces = false) (hZ : ZX (xA X) (xs X)) (hSX : SX (xs X)) {f k n : Nat} (hB : LB X (f + 1) k n) {k23 : Int → Wd → Option (Int × Wd)} (hk23 : ∀ (k n : Nat) (v4 : Int) (w : Wd), LB X f k n → VF X Qf ad NF k n w 23 [(0, (3, sbI)), (1, (2, 1)), (2, (2, 44)), (3, (2, 83)), (4, (0, v4))] [] (k23 v4 w)) (v4 : Int) (w : Wd) : VF X Qf ad NF k n w 918 [(0, (3, sbI)), (1, (2, 1)), (2, (2, 44)), (3, (2, 83)), (4, (0, v4))] [] (f_A_law_918 Ln xs9 k23 v4 w) := by
  have hb := hB.s
  have hb1 := hB.t
  unfold f_A_law_918
  refine vf_aload_n C (f := 1) (zdg dz_A_law_20 9 rfl) 1 rfl rfl ?_
  refine vf_aload3_n C (f := 0) (zdg dz_A_law_20 10 rfl) 0 rfl rfl ?_
  refine vf_iload C (zdg dz_A_law_20 11 rfl) 4 rfl ?_
  refine vf_iconst C (z := 1) (zdg dz_A_law_20 12 rfl) (jz rfl) ?_
  refine vf_iadd C (zdg dz_A_law_20 13 rfl) ?_
  refine vf_xld C hX (zdg dz_A_law_20 14 rfl) ?_
  refine vf_callVi C cy_E_soonest ml_A_139 rfl (ct_E_soonest _ _) (S := []) sh_0 (by decide) rfl (lb_jrm hb rfl) rfl rfl (Nat.le_of_ble_eq_true rfl) (zdg dz_A_law_20 15 rfl) (fun r111 u112 => ?_)
  refine vf_pop C (zdg dz_A_law_20 16 rfl) Nat.zero_ne_one ?_
  refine vf_aload_n C (f := 2) (zdg dz_A_law_20 17 rfl) 2 rfl rfl ?_
  refine vf_aload3_n C (f := 0) (zdg dz_A_law_20 18 rfl) 0 rfl rfl ?_
  refine vf_iload C (zdg dz_A_law_20 19 rfl) 4 rfl ?_
  refine vf_iconst C (z := 1) (zdg dz_A_law_20 20 rfl) (jz rfl) ?_
  refine vf_iadd C (zdg dz_A_law_20 21 rfl) ?_
  refine vf_xld C hX (zdg dz_A_law_20 22 rfl) ?_
  refine vf_callVi C cy_R_soonest ml_A_142 rfl (ct_R_soonest _ _) (S := []) sh_43 (by decide) rfl (lb_jrm hb rfl) rfl rfl (Nat.le_of_ble_eq_true rfl) (zdg dz_A_law_20 23 rfl) (fun r113 u114 => ?_)
  refine vf_pop C (zdg dz_A_law_21 0 rfl) Nat.zero_ne_one ?_
  refine vf_goto C (off := 320) (tgt := 1260) (zdg dz_A_law_21 1 rfl) (by decide) ?_
  exact t_A_law_1260 C hn hX hr hst hZ hSX hb hk23 _ _
def f_A_law_943 (Ln : Nat) (xs9 : Nat → Int32) (k23 : Int → Wd → Option (Int × Wd)) (v4 : Int) (w : Wd) : Option (Int × Wd) :=
  jgd ((0 : Int) ≤ (w32 (v4 + 1)) ∧ (w32 (v4 + 1)) < (Ln : Int)) <|
  jcall (f_E_worth ((xs9 (w32 (v4 + 1)).toNat).toInt) w) fun r115 u116 =>
  jgd ((0 : Int) ≤ (w32 (v4 + 1)) ∧ (w32 (v4 + 1)) < (Ln : Int)) <|
  jcall (f_R_worth ((xs9 (w32 (v4 + 1)).toNat).toInt) u116) fun r117 u118 =>
  f_A_law_1260 Ln xs9 k23 v4 u118
theorem t_A_law_943 {X : jX} {Qf : Int × Wd → State → Prop} {ad : Nat → Nat} {sbI : Int} {Ln : Nat} {xs9 : Nat → Int32} (C : Cx X code "EachBringsAnotherLaw") (hn : xn X = 7) (hX : LX X sbI Ln xs9) (hr : RtL X Qf ad code) (hst : (xl X).stackTraces = false) (hZ : ZX (xA X) (xs X)) (hSX : SX (xs X)) {f k n : Nat} (hB : LB X (f + 1) k n) {k23 : Int → Wd → Option (Int × Wd)} (hk23 : ∀ (k n : Nat) (v4 : Int) (w : Wd), LB X f k n → VF X Qf ad NF k n w 23 [(0, (3, sbI)), (1, (2, 1)), (2, (2, 44)), (3, (2, 83)), (4, (0, v4))] [] (k23 v4 w)) (v4 : Int) (w : Wd) : VF X Qf ad NF k n w 943 [(0, (3, sbI)), (1, (2, 1)), (2, (2, 44)), (3, (2, 83)), (4, (0, v4))] [] (f_A_law_943 Ln xs9 k23 v4 w) := by
  have hb := hB.s
  have hb1 := hB.t
  unfold f_A_law_943
  refine vf_aload_n C (f := 1) (zdg dz_A_law_21 2 rfl) 1 rfl rfl ?_
  refine vf_aload3_n C (f := 0) (zdg dz_A_law_21 3 rfl) 0 rfl rfl ?_
  refine vf_iload C (zdg dz_A_law_21 4 rfl) 4 rfl ?_
  refine vf_iconst C (z := 1) (zdg dz_A_law_21 5 rfl) (jz rfl) ?_
  refine vf_iadd C (zdg dz_A_law_21 6 rfl) ?_
  refine vf_xld C hX (zdg dz_A_law_21 7 rfl) ?_
  refine vf_callVi C cy_E_worth ml_A_143 rfl (ct_E_worth _ _) (S := []) sh_0 (by decide) rfl (lb_jrm hb rfl) rfl rfl (Nat.le_of_ble_eq_true rfl) (zdg dz_A_law_21 8 rfl) (fun r115 u116 => ?_)
  refine vf_pop C (zdg dz_A_law_21 9 rfl) Nat.zero_ne_one ?_
  refine vf_aload_n C (f := 2) (zdg dz_A_law_21 10 rfl) 2 rfl rfl ?_
  refine vf_aload3_n C (f := 0) (zdg dz_A_law_21 11 rfl) 0 rfl rfl ?_
  refine vf_iload C (zdg dz_A_law_21 12 rfl) 4 rfl ?_
  refine vf_iconst C (z := 1) (zdg dz_A_law_21 13 rfl) (jz rfl) ?_
  refine vf_iadd C (zdg dz_A_law_21 14 rfl) ?_
  refine vf_xld C hX (zdg dz_A_law_21 15 rfl) ?_
  refine vf_callVi C cy_R_worth ml_A_146 rfl (ct_R_worth _ _) (S := []) sh_43 (by decide) rfl (lb_jrm hb rfl) rfl rfl (Nat.le_of_ble_eq_true rfl) (zdg dz_A_law_21 16 rfl) (fun r117 u118 => ?_)
  refine vf_pop C (zdg dz_A_law_21 17 rfl) Nat.zero_ne_one ?_
  refine vf_goto C (off := 295) (tgt := 1260) (zdg dz_A_law_21 18 rfl) (by decide) ?_
  exact t_A_law_1260 C hn hX hr hst hZ hSX hb hk23 _ _
