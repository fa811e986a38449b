def f_A_law_605 (Ln : Nat) (xs9 : Nat → Int32) (k23 : Int → Wd → Option (Int × Wd)) (v4 : Int) (w : Wd) : Option (Int × Wd) :=
  jcall (f_E_week w) fun r45 u46 =>
  jcall (f_R_week u46) fun r47 u48 =>
  f_A_law_1288 Ln xs9 k23 v4 u48
theorem t_A_law_605 {X : jX} {Qf : Int × Wd → State → Prop} {ad : Nat → Nat} {sbI : Int} {Ln : Nat} {xs9 : Nat → Int32} (C : Cx X code "EachBringsAnotherLaw") (hn : xn X = 7) (hX : LX X sbI Ln xs9) (hr : RtL X Qf ad code) (hst : (xl X).stackTraces = false) (hZ : ZX (xA X) (xs X)) (hSX : SX (xs X)) {f k n : Nat} (hB : LB X (f + 1) k n) {k23 : Int → Wd → Option (Int × Wd)} (hk23 : ∀ (k n : Nat) (v4 : Int) (w : Wd), LB X f k n → VF X Qf ad NF k n w 23 [(0, (3, sbI)), (1, (2, 1)), (2, (2, 44)), (3, (2, 83)), (4, (0, v4))] [] (k23 v4 w)) (v4 : Int) (w : Wd) : VF X Qf ad NF k n w 605 [(0, (3, sbI)), (1, (2, 1)), (2, (2, 44)), (3, (2, 83)), (4, (0, v4))] [] (f_A_law_605 Ln xs9 k23 v4 w) := by
  have hb := hB.s
  have hb1 := hB.t
  unfold f_A_law_605
  refine vf_aload_n C (f := 1) (by decide +kernel) 1 rfl rfl ?_
  refine vf_callVi C cy_E_week ml_A_73 rfl (ct_E_week _) (S := []) sh_0 (by decide) rfl (lb_jrm hb rfl) rfl rfl (Nat.le_of_ble_eq_true rfl) (by decide +kernel) (fun r45 u46 => ?_)
  refine vf_pop C (by decide +kernel) Nat.zero_ne_one ?_
  refine vf_aload_n C (f := 2) (by decide +kernel) 2 rfl rfl ?_
  refine vf_callVi C cy_R_week ml_A_76 rfl (ct_R_week _) (S := []) sh_43 (by decide) rfl (lb_jrm hb rfl) rfl rfl (Nat.le_of_ble_eq_true rfl) (by decide +kernel) (fun r47 u48 => ?_)
  refine vf_pop C (by decide +kernel) Nat.zero_ne_one ?_
  refine vf_goto C (off := 673) (tgt := 1288) (by decide +kernel) (by decide) ?_
  exact t_A_law_1288 C hn hX hr hst hZ hSX hb hk23 _ _
def f_A_law_618 (Ln : Nat) (xs9 : Nat → Int32) (k23 : Int → Wd → Option (Int × Wd)) (v4 : Int) (w : Wd) : Option (Int × Wd) :=
  jgd ((0 : Int) ≤ (w32 (v4 + 1)) ∧ (w32 (v4 + 1)) < (Ln : Int)) <|
  jcall (f_E_goes ((xs9 (w32 (v4 + 1)).toNat).toInt) w) fun r49 u50 =>
  jgd ((0 : Int) ≤ (w32 (v4 + 1)) ∧ (w32 (v4 + 1)) < (Ln : Int)) <|
  jcall (f_R_goes ((xs9 (w32 (v4 + 1)).toNat).toInt) u50) fun r51 u52 =>
  f_A_law_1288 Ln xs9 k23 v4 u52
theorem t_A_law_618 {X : jX} {Qf : Int × Wd → State → Prop} {ad : Nat → Nat} {sbI : Int} {Ln : Nat} {xs9 : Nat → Int32} (C : Cx X code "EachBringsAnotherLaw") (hn : xn X = 7) (hX : LX X sbI Ln xs9) (hr : RtL X Qf ad code) (hst : (xl X).stackTraces = false) (hZ : ZX (xA X) (xs X)) (hSX : SX (xs X)) {f k n : Nat} (hB : LB X (f + 1) k n) {k23 : Int → Wd → Option (Int × Wd)} (hk23 : ∀ (k n : Nat) (v4 : Int) (w : Wd), LB X f k n → VF X Qf ad NF k n w 23 [(0, (3, sbI)), (1, (2, 1)), (2, (2, 44)), (3, (2, 83)), (4, (0, v4))] [] (k23 v4 w)) (v4 : Int) (w : Wd) : VF X Qf ad NF k n w 618 [(0, (3, sbI)), (1, (2, 1)), (2, (2, 44)), (3, (2, 83)), (4, (0, v4))] [] (f_A_law_618 Ln xs9 k23 v4 w) := by
  have hb := hB.s
  have hb1 := hB.t
  unfold f_A_law_618
  refine vf_aload_n C (f := 1) (by decide +kernel) 1 rfl rfl ?_
  refine vf_aload3_n C (f := 0) (by decide +kernel) 0 rfl rfl ?_
  refine vf_iload C (by decide +kernel) 4 rfl ?_
  refine vf_iconst C (z := 1) (by decide +kernel) (jz rfl) ?_
  refine vf_iadd C (by decide +kernel) ?_
  refine vf_xld C hX (by decide +kernel) ?_
  refine vf_callVi C cy_E_goes ml_A_77 rfl (ct_E_goes _ _) (S := []) sh_0 (by decide) rfl (lb_jrm hb rfl) rfl rfl (Nat.le_of_ble_eq_true rfl) (by decide +kernel) (fun r49 u50 => ?_)
  refine vf_pop C (by decide +kernel) Nat.zero_ne_one ?_
  refine vf_aload_n C (f := 2) (by decide +kernel) 2 rfl rfl ?_
  refine vf_aload3_n C (f := 0) (by decide +kernel) 0 rfl rfl ?_
  refine vf_iload C (by decide +kernel) 4 rfl ?_
  refine vf_iconst C (z := 1) (by decide +kernel) (jz rfl) ?_
  refine vf_iadd C (by decide +kernel) ?_
  refine vf_xld C hX (by decide +kernel) ?_
  refine vf_callVi C cy_R_goes ml_A_80 rfl (ct_R_goes _ _) (S := []) sh_43 (by decide) rfl (lb_jrm hb rfl) rfl rfl (Nat.le_of_ble_eq_true rfl) (by decide +kernel) (fun r51 u52 => ?_)
  refine vf_pop C (by decide +kernel) Nat.zero_ne_one ?_
  refine vf_goto C (off := 648) (tgt := 1288) (by decide +kernel) (by decide) ?_
  exact t_A_law_1288 C hn hX hr hst hZ hSX hb hk23 _ _
def f_A_law_643 (Ln : Nat) (xs9 : Nat → Int32) (k23 : Int → Wd → Option (Int × Wd)) (v4 : Int) (w : Wd) : Option (Int × Wd) :=
  jcall (f_E_undo w) fun r53 u54 =>
  jcall (f_R_undo u54) fun r55 u56 =>
  f_A_law_1288 Ln xs9 k23 v4 u56
theorem t_A_law_643 {X : jX} {Qf : Int × Wd → State → Prop} {ad : Nat → Nat} {sbI : Int} {Ln : Nat} {xs9 : Nat → Int32} (C : Cx X code "EachBringsAnotherLaw") (hn : xn X = 7) (hX : LX X sbI Ln xs9) (hr : RtL X Qf ad code) (hst : (xl X).stackTraces = false) (hZ : ZX (xA X) (xs X)) (hSX : SX (xs X)) {f k n : Nat} (hB : LB X (f + 1) k n) {k23 : Int → Wd → Option (Int × Wd)} (hk23 : ∀ (k n : Nat) (v4 : Int) (w : Wd), LB X f k n → VF X Qf ad NF k n w 23 [(0, (3, sbI)), (1, (2, 1)), (2, (2, 44)), (3, (2, 83)), (4, (0, v4))] [] (k23 v4 w)) (v4 : Int) (w : Wd) : VF X Qf ad NF k n w 643 [(0, (3, sbI)), (1, (2, 1)), (2, (2, 44)), (3, (2, 83)), (4, (0, v4))] [] (f_A_law_643 Ln xs9 k23 v4 w) := by
  have hb := hB.s
  have hb1 := hB.t
  unfold f_A_law_643
  refine vf_aload_n C (f := 1) (by decide +kernel) 1 rfl rfl ?_
  refine vf_callVi C cy_E_undo ml_A_81 rfl (ct_E_undo _) (S := []) sh_0 (by decide) rfl (lb_jrm hb rfl) rfl rfl (Nat.le_of_ble_eq_true rfl) (by decide +kernel) (fun r53 u54 => ?_)
  refine vf_pop C (by decide +kernel) Nat.zero_ne_one ?_
  refine vf_aload_n C (f := 2) (by decide +kernel) 2 rfl rfl ?_
  refine vf_callVi C cy_R_undo ml_A_84 rfl (ct_R_undo _) (S := []) sh_43 (by decide) rfl (lb_jrm hb rfl) rfl rfl (Nat.le_of_ble_eq_true rfl) (by decide +kernel) (fun r55 u56 => ?_)
  refine vf_pop C (by decide +kernel) Nat.zero_ne_one ?_
  refine vf_goto C (off := 635) (tgt := 1288) (by decide +kernel) (by decide) ?_
  exact t_A_law_1288 C hn hX hr hst hZ hSX hb hk23 _ _
def f_A_law_656 (Ln : Nat) (xs9 : Nat → Int32) (k23 : Int → Wd → Option (Int × Wd)) (v4 : Int) (w : Wd) : Option (Int × Wd) :=
  jcall (f_E_can w) fun r57 u58 =>
  jcall (f_R_can u58) fun r59 u60 =>
  f_A_law_1288 Ln xs9 k23 v4 u60
theorem t_A_law_656 {X : jX} {Qf : Int × Wd → State → Prop} {ad : Nat → Nat} {sbI : Int} {Ln : Nat} {xs9 : Nat → Int32} (C : Cx X code "EachBringsAnotherLaw") (hn : xn X = 7) (hX : LX X sbI Ln xs9) (hr : RtL X Qf ad code) (hst : (xl X).stackTraces = false) (hZ : ZX (xA X) (xs X)) (hSX : SX (xs X)) {f k n : Nat} (hB : LB X (f + 1) k n) {k23 : Int → Wd → Option (Int × Wd)} (hk23 : ∀ (k n : Nat) (v4 : Int) (w : Wd), LB X f k n → VF X Qf ad NF k n w 23 [(0, (3, sbI)), (1, (2, 1)), (2, (2, 44)), (3, (2, 83)), (4, (0, v4))] [] (k23 v4 w)) (v4 : Int) (w : Wd) : VF X Qf ad NF k n w 656 [(0, (3, sbI)), (1, (2, 1)), (2, (2, 44)), (3, (2, 83)), (4, (0, v4))] [] (f_A_law_656 Ln xs9 k23 v4 w) := by
  have hb := hB.s
  have hb1 := hB.t
  unfold f_A_law_656
  refine vf_aload_n C (f := 1) (by decide +kernel) 1 rfl rfl ?_
  refine vf_callVi C cy_E_can ml_A_85 rfl (ct_E_can _) (S := []) sh_0 (by decide) rfl (lb_jrm hb rfl) rfl rfl (Nat.le_of_ble_eq_true rfl) (by decide +kernel) (fun r57 u58 => ?_)
  refine vf_pop C (by decide +kernel) Nat.zero_ne_one ?_
  refine vf_aload_n C (f := 2) (by decide +kernel) 2 rfl rfl ?_
  refine vf_callVi C cy_R_can ml_A_88 rfl (ct_R_can _) (S := []) sh_43 (by decide) rfl (lb_jrm hb rfl) rfl rfl (Nat.le_of_ble_eq_true rfl) (by decide +kernel) (fun r59 u60 => ?_)
  refine vf_pop C (by decide +kernel) Nat.zero_ne_one ?_
  refine vf_goto C (off := 622) (tgt := 1288) (by decide +kernel) (by decide) ?_
  exact t_A_law_1288 C hn hX hr hst hZ hSX hb hk23 _ _
def f_A_law_669 (Ln : Nat) (xs9 : Nat → Int32) (k23 : Int → Wd → Option (Int × Wd)) (v4 : Int) (w : Wd) : Option (Int × Wd) :=
  jgd ((0 : Int) ≤ (w32 (v4 + 1)) ∧ (w32 (v4 + 1)) < (Ln : Int)) <|
  jcall (f_E_picks ((xs9 (w32 (v4 + 1)).toNat).toInt) w) fun r61 u62 =>
  jgd ((0 : Int) ≤ (w32 (v4 + 1)) ∧ (w32 (v4 + 1)) < (Ln : Int)) <|
  jcall (f_R_picks ((xs9 (w32 (v4 + 1)).toNat).toInt) u62) fun r63 u64 =>
  f_A_law_1288 Ln xs9 k23 v4 u64
theorem t_A_law_669 {X : jX} {Qf : Int × Wd → State → Prop} {ad : Nat → Nat} {sbI : Int} {Ln : Nat} {xs9 : Nat → Int32} (C : Cx X code "EachBringsAnotherLaw") (hn : xn X = 7) (hX : LX X sbI Ln xs9) (hr : RtL X Qf ad code) (hst : (xl X).stackTraces = false) (hZ : ZX (xA X) (xs X)) (hSX : SX (xs X)) {f k n : Nat} (hB : LB X (f + 1) k n) {k23 : Int → Wd → Option (Int × Wd)} (hk23 : ∀ (k n : Nat) (v4 : Int) (w : Wd), LB X f k n → VF X Qf ad NF k n w 23 [(0, (3, sbI)), (1, (2, 1)), (2, (2, 44)), (3, (2, 83)), (4, (0, v4))] [] (k23 v4 w)) (v4 : Int) (w : Wd) : VF X Qf ad NF k n w 669 [(0, (3, sbI)), (1, (2, 1)), (2, (2, 44)), (3, (2, 83)), (4, (0, v4))] [] (f_A_law_669 Ln xs9 k23 v4 w) := by
  have hb := hB.s
  have hb1 := hB.t
  unfold f_A_law_669
  refine vf_aload_n C (f := 1) (by decide +kernel) 1 rfl rfl ?_
  refine vf_aload3_n C (f := 0) (by decide +kernel) 0 rfl rfl ?_
  refine vf_iload C (by decide +kernel) 4 rfl ?_
  refine vf_iconst C (z := 1) (by decide +kernel) (jz rfl) ?_
  refine vf_iadd C (by decide +kernel) ?_
  refine vf_xld C hX (by decide +kernel) ?_
  refine vf_callVi C cy_E_picks ml_A_89 rfl (ct_E_picks _ _) (S := []) sh_0 (by decide) rfl (lb_jrm hb rfl) rfl rfl (Nat.le_of_ble_eq_true rfl) (by decide +kernel) (fun r61 u62 => ?_)
  refine vf_pop C (by decide +kernel) Nat.zero_ne_one ?_
  refine vf_aload_n C (f := 2) (by decide +kernel) 2 rfl rfl ?_
  refine vf_aload3_n C (f := 0) (by decide +kernel) 0 rfl rfl ?_
  refine vf_iload C (by decide +kernel) 4 rfl ?_
  refine vf_iconst C (z := 1) (by decide +kernel) (jz rfl) ?_
  refine vf_iadd C (by decide +kernel) ?_
  refine vf_xld C hX (by decide +kernel) ?_
  refine vf_callVi C cy_R_picks ml_A_92 rfl (ct_R_picks _ _) (S := []) sh_43 (by decide) rfl (lb_jrm hb rfl) rfl rfl (Nat.le_of_ble_eq_true rfl) (by decide +kernel) (fun r63 u64 => ?_)
  refine vf_pop C (by decide +kernel) Nat.zero_ne_one ?_
  refine vf_goto C (off := 597) (tgt := 1288) (by decide +kernel) (by decide) ?_
  exact t_A_law_1288 C hn hX hr hst hZ hSX hb hk23 _ _
def f_A_law_694 (Ln : Nat) (xs9 : Nat → Int32) (k23 : Int → Wd → Option (Int × Wd)) (v4 : Int) (w : Wd) : Option (Int × Wd) :=
  jcall (f_E_pairs w) fun r65 u66 =>
  jcall (f_R_pairs u66) fun r67 u68 =>
  f_A_law_1288 Ln xs9 k23 v4 u68
theorem t_A_law_694 {X : jX} {Qf : Int × Wd → State → Prop} {ad : Nat → Nat} {sbI : Int} {Ln : Nat} {xs9 : Nat → Int32} (C : Cx X code "EachBringsAnotherLaw") (hn : xn X = 7) (hX : LX X sbI Ln xs9) (hr : RtL X Qf ad code) (hst : (xl X).stackTraces = false) (hZ : ZX (xA X) (xs X)) (hSX : SX (xs X)) {f k n : Nat} (hB : LB X (f + 1) k n) {k23 : Int → Wd → Option (Int × Wd)} (hk23 : ∀ (k n : Nat) (v4 : Int) (w : Wd), LB X f k n → VF X Qf ad NF k n w 23 [(0, (3, sbI)), (1, (2, 1)), (2, (2, 44)), (3, (2, 83)), (4, (0, v4))] [] (k23 v4 w)) (v4 : Int) (w : Wd) : VF X Qf ad NF k n w 694 [(0, (3, sbI)), (1, (2, 1)), (2, (2, 44)), (3, (2, 83)), (4, (0, v4))] [] (f_A_law_694 Ln xs9 k23 v4 w) := by
  have hb := hB.s
  have hb1 := hB.t
  unfold f_A_law_694
  refine vf_aload_n C (f := 1) (by decide +kernel) 1 rfl rfl ?_
  refine vf_callVi C cy_E_pairs ml_A_93 rfl (ct_E_pairs _) (S := []) sh_0 (by decide) rfl (lb_jrm hb rfl) rfl rfl (Nat.le_of_ble_eq_true rfl) (by decide +kernel) (fun r65 u66 => ?_)
  refine vf_pop C (by decide +kernel) Nat.zero_ne_one ?_
  refine vf_aload_n C (f := 2) (by decide +kernel) 2 rfl rfl ?_
  refine vf_callVi C cy_R_pairs ml_A_96 rfl (ct_R_pairs _) (S := []) sh_43 (by decide) rfl (lb_jrm hb rfl) rfl rfl (Nat.le_of_ble_eq_true rfl) (by decide +kernel) (fun r67 u68 => ?_)
  refine vf_pop C (by decide +kernel) Nat.zero_ne_one ?_
  refine vf_goto C (off := 584) (tgt := 1288) (by decide +kernel) (by decide) ?_
  exact t_A_law_1288 C hn hX hr hst hZ hSX hb hk23 _ _
def f_A_law_707 (Ln : Nat) (xs9 : Nat → Int32) (k23 : Int → Wd → Option (Int × Wd)) (v4 : Int) (w : Wd) : Option (Int × Wd) :=
  jcall (f_E_bars w) fun r69 u70 =>
  jcall (f_R_bars u70) fun r71 u72 =>
  f_A_law_1288 Ln xs9 k23 v4 u72
theorem t_A_law_707 {X : jX} {Qf : Int × Wd → State → Prop} {ad : Nat → Nat} {sbI : Int} {Ln : Nat} {xs9 : Nat → Int32} (C : Cx X code "EachBringsAnotherLaw") (hn : xn X = 7) (hX : LX X sbI Ln xs9) (hr : RtL X Qf ad code) (hst : (xl X).stackTraces = false) (hZ : ZX (xA X) (xs X)) (hSX : SX (xs X)) {f k n : Nat} (hB : LB X (f + 1) k n) {k23 : Int → Wd → Option (Int × Wd)} (hk23 : ∀ (k n : Nat) (v4 : Int) (w : Wd), LB X f k n → VF X Qf ad NF k n w 23 [(0, (3, sbI)), (1, (2, 1)), (2, (2, 44)), (3, (2, 83)), (4, (0, v4))] [] (k23 v4 w)) (v4 : Int) (w : Wd) : VF X Qf ad NF k n w 707 [(0, (3, sbI)), (1, (2, 1)), (2, (2, 44)), (3, (2, 83)), (4, (0, v4))] [] (f_A_law_707 Ln xs9 k23 v4 w) := by
  have hb := hB.s
  have hb1 := hB.t
  unfold f_A_law_707
  refine vf_aload_n C (f := 1) (by decide +kernel) 1 rfl rfl ?_
  refine vf_callVi C cy_E_bars ml_A_97 rfl (ct_E_bars _) (S := []) sh_0 (by decide) rfl (lb_jrm hb rfl) rfl rfl (Nat.le_of_ble_eq_true rfl) (by decide +kernel) (fun r69 u70 => ?_)
  refine vf_pop C (by decide +kernel) Nat.zero_ne_one ?_
  refine vf_aload_n C (f := 2) (by decide +kernel) 2 rfl rfl ?_
  refine vf_callVi C cy_R_bars ml_A_100 rfl (ct_R_bars _) (S := []) sh_43 (by decide) rfl (lb_jrm hb rfl) rfl rfl (Nat.le_of_ble_eq_true rfl) (by decide +kernel) (fun r71 u72 => ?_)
  refine vf_pop C (by decide +kernel) Nat.zero_ne_one ?_
  refine vf_goto C (off := 571) (tgt := 1288) (by decide +kernel) (by decide) ?_
  exact t_A_law_1288 C hn hX hr hst hZ hSX hb hk23 _ _
def f_A_law_720 (Ln : Nat) (xs9 : Nat → Int32) (k23 : Int → Wd → Option (Int × Wd)) (v4 : Int) (w : Wd) : Option (Int × Wd) :=
  jcall (f_E_states w) fun r73 u74 =>
  jcall (f_R_states u74) fun r75 u76 =>
  f_A_law_1288 Ln xs9 k23 v4 u76
theorem t_A_law_720 {X : jX} {Qf : Int × Wd → State → Prop} {ad : Nat → Nat} {sbI : Int} {Ln : Nat} {xs9 : Nat → Int32} (C : Cx X code "EachBringsAnotherLaw") (hn : xn X = 7) (hX : LX X sbI Ln xs9) (hr : RtL X Qf ad code) (hst : (xl X).stackTraces = false) (hZ : ZX (xA X) (xs X)) (hSX : SX (xs X)) {f k n : Nat} (hB : LB X (f + 1) k n) {k23 : Int → Wd → Option (Int × Wd)} (hk23 : ∀ (k n : Nat) (v4 : Int) (w : Wd), LB X f k n → VF X Qf ad NF k n w 23 [(0, (3, sbI)), (1, (2, 1)), (2, (2, 44)), (3, (2, 83)), (4, (0, v4))] [] (k23 v4 w)) (v4 : Int) (w : Wd) : VF X Qf ad NF k n w 720 [(0, (3, sbI)), (1, (2, 1)), (2, (2, 44)), (3, (2, 83)), (4, (0, v4))] [] (f_A_law_720 Ln xs9 k23 v4 w) := by
  have hb := hB.s
  have hb1 := hB.t
  unfold f_A_law_720
  refine vf_aload_n C (f := 1) (by decide +kernel) 1 rfl rfl ?_
  refine vf_callVi C cy_E_states ml_A_101 rfl (ct_E_states _) (S := []) sh_0 (by decide) rfl (lb_jrm hb rfl) rfl rfl (Nat.le_of_ble_eq_true rfl) (by decide +kernel) (fun r73 u74 => ?_)
  refine vf_pop C (by decide +kernel) Nat.zero_ne_one ?_
  refine vf_aload_n C (f := 2) (by decide +kernel) 2 rfl rfl ?_
  refine vf_callVi C cy_R_states ml_A_104 rfl (ct_R_states _) (S := []) sh_43 (by decide) rfl (lb_jrm hb rfl) rfl rfl (Nat.le_of_ble_eq_true rfl) (by decide +kernel) (fun r75 u76 => ?_)
  refine vf_pop C (by decide +kernel) Nat.zero_ne_one ?_
  refine vf_goto C (off := 558) (tgt := 1288) (by decide +kernel) (by decide) ?_
  exact t_A_law_1288 C hn hX hr hst hZ hSX hb hk23 _ _
def f_A_law_733 (Ln : Nat) (xs9 : Nat → Int32) (k23 : Int → Wd → Option (Int × Wd)) (v4 : Int) (w : Wd) : Option (Int × Wd) :=
  jgd ((0 : Int) ≤ (w32 (v4 + 1)) ∧ (w32 (v4 + 1)) < (Ln : Int)) <|
  jcall (f_E_most ((xs9 (w32 (v4 + 1)).toNat).toInt) w) fun r77 u78 =>
  jgd ((0 : Int) ≤ (w32 (v4 + 1)) ∧ (w32 (v4 + 1)) < (Ln : Int)) <|
  jcall (f_R_most ((xs9 (w32 (v4 + 1)).toNat).toInt) u78) fun r79 u80 =>
  f_A_law_1288 Ln xs9 k23 v4 u80
theorem t_A_law_733 {X : jX} {Qf : Int × Wd → State → Prop} {ad : Nat → Nat} {sbI : Int} {Ln : Nat} {xs9 : Nat → Int32} (C : Cx X code "EachBringsAnotherLaw") (hn : xn X = 7) (hX : LX X sbI Ln xs9) (hr : RtL X Qf ad code) (hst : (xl X).stackTraces = false) (hZ : ZX (xA X) (xs X)) (hSX : SX (xs X)) {f k n : Nat} (hB : LB X (f + 1) k n) {k23 : Int → Wd → Option (Int × Wd)} (hk23 : ∀ (k n : Nat) (v4 : Int) (w : Wd), LB X f k n → VF X Qf ad NF k n w 23 [(0, (3, sbI)), (1, (2, 1)), (2, (2, 44)), (3, (2, 83)), (4, (0, v4))] [] (k23 v4 w)) (v4 : Int) (w : Wd) : VF X Qf ad NF k n w 733 [(0, (3, sbI)), (1, (2, 1)), (2, (2, 44)), (3, (2, 83)), (4, (0, v4))] [] (f_A_law_733 Ln xs9 k23 v4 w) := by
  have hb := hB.s
  have hb1 := hB.t
  unfold f_A_law_733
  refine vf_aload_n C (f := 1) (by decide +kernel) 1 rfl rfl ?_
  refine vf_aload3_n C (f := 0) (by decide +kernel) 0 rfl rfl ?_
  refine vf_iload C (by decide +kernel) 4 rfl ?_
  refine vf_iconst C (z := 1) (by decide +kernel) (jz rfl) ?_
  refine vf_iadd C (by decide +kernel) ?_
  refine vf_xld C hX (by decide +kernel) ?_
  refine vf_callVi C cy_E_most ml_A_105 rfl (ct_E_most _ _) (S := []) sh_0 (by decide) rfl (lb_jrm hb rfl) rfl rfl (Nat.le_of_ble_eq_true rfl) (by decide +kernel) (fun r77 u78 => ?_)
  refine vf_pop C (by decide +kernel) Nat.zero_ne_one ?_
  refine vf_aload_n C (f := 2) (by decide +kernel) 2 rfl rfl ?_
  refine vf_aload3_n C (f := 0) (by decide +kernel) 0 rfl rfl ?_
  refine vf_iload C (by decide +kernel) 4 rfl ?_
  refine vf_iconst C (z := 1) (by decide +kernel) (jz rfl) ?_
  refine vf_iadd C (by decide +kernel) ?_
  refine vf_xld C hX (by decide +kernel) ?_
  refine vf_callVi C cy_R_most ml_A_108 rfl (ct_R_most _ _) (S := []) sh_43 (by decide) rfl (lb_jrm hb rfl) rfl rfl (Nat.le_of_ble_eq_true rfl) (by decide +kernel) (fun r79 u80 => ?_)
  refine vf_pop C (by decide +kernel) Nat.zero_ne_one ?_
  refine vf_goto C (off := 533) (tgt := 1288) (by decide +kernel) (by decide) ?_
  exact t_A_law_1288 C hn hX hr hst hZ hSX hb hk23 _ _
def f_A_law_758 (Ln : Nat) (xs9 : Nat → Int32) (k23 : Int → Wd → Option (Int × Wd)) (v4 : Int) (w : Wd) : Option (Int × Wd) :=
  jgd ((0 : Int) ≤ (w32 (v4 + 1)) ∧ (w32 (v4 + 1)) < (Ln : Int)) <|
  jcall (f_E_reach ((xs9 (w32 (v4 + 1)).toNat).toInt) w) fun r81 u82 =>
  jgd ((0 : Int) ≤ (w32 (v4 + 1)) ∧ (w32 (v4 + 1)) < (Ln : Int)) <|
  jcall (f_R_reach ((xs9 (w32 (v4 + 1)).toNat).toInt) u82) fun r83 u84 =>
  f_A_law_1288 Ln xs9 k23 v4 u84
theorem t_A_law_758 {X : jX} {Qf : Int × Wd → State → Prop} {ad : Nat → Nat} {sbI : Int} {Ln : Nat} {xs9 : Nat → Int32} (C : Cx X code "EachBringsAnotherLaw") (hn : xn X = 7) (hX : LX X sbI Ln xs9) (hr : RtL X Qf ad code) (hst : (xl X).stackTraces = false) (hZ : ZX (xA X) (xs X)) (hSX : SX (xs X)) {f k n : Nat} (hB : LB X (f + 1) k n) {k23 : Int → Wd → Option (Int × Wd)} (hk23 : ∀ (k n : Nat) (v4 : Int) (w : Wd), LB X f k n → VF X Qf ad NF k n w 23 [(0, (3, sbI)), (1, (2, 1)), (2, (2, 44)), (3, (2, 83)), (4, (0, v4))] [] (k23 v4 w)) (v4 : Int) (w : Wd) : VF X Qf ad NF k n w 758 [(0, (3, sbI)), (1, (2, 1)), (2, (2, 44)), (3, (2, 83)), (4, (0, v4))] [] (f_A_law_758 Ln xs9 k23 v4 w) := by
  have hb := hB.s
  have hb1 := hB.t
  unfold f_A_law_758
  refine vf_aload_n C (f := 1) (by decide +kernel) 1 rfl rfl ?_
  refine vf_aload3_n C (f := 0) (by decide +kernel) 0 rfl rfl ?_
  refine vf_iload C (by decide +kernel) 4 rfl ?_
  refine vf_iconst C (z := 1) (by decide +kernel) (jz rfl) ?_
  refine vf_iadd C (by decide +kernel) ?_
  refine vf_xld C hX (by decide +kernel) ?_
  refine vf_callVi C cy_E_reach ml_A_109 rfl (ct_E_reach _ _) (S := []) sh_0 (by decide) rfl (lb_jrm hb rfl) rfl rfl (Nat.le_of_ble_eq_true rfl) (by decide +kernel) (fun r81 u82 => ?_)
  refine vf_pop C (by decide +kernel) Nat.zero_ne_one ?_
  refine vf_aload_n C (f := 2) (by decide +kernel) 2 rfl rfl ?_
  refine vf_aload3_n C (f := 0) (by decide +kernel) 0 rfl rfl ?_
  refine vf_iload C (by decide +kernel) 4 rfl ?_
  refine vf_iconst C (z := 1) (by decide +kernel) (jz rfl) ?_
  refine vf_iadd C (by decide +kernel) ?_
  refine vf_xld C hX (by decide +kernel) ?_
  refine vf_callVi C cy_R_reach ml_A_112 rfl (ct_R_reach _ _) (S := []) sh_43 (by decide) rfl (lb_jrm hb rfl) rfl rfl (Nat.le_of_ble_eq_true rfl) (by decide +kernel) (fun r83 u84 => ?_)
  refine vf_pop C (by decide +kernel) Nat.zero_ne_one ?_
  refine vf_goto C (off := 508) (tgt := 1288) (by decide +kernel) (by decide) ?_
  exact t_A_law_1288 C hn hX hr hst hZ hSX hb hk23 _ _
def f_A_law_783 (Ln : Nat) (xs9 : Nat → Int32) (k23 : Int → Wd → Option (Int × Wd)) (v4 : Int) (w : Wd) : Option (Int × Wd) :=
  jgd ((0 : Int) ≤ (w32 (v4 + 1)) ∧ (w32 (v4 + 1)) < (Ln : Int)) <|
  jcall (f_E_fewest ((xs9 (w32 (v4 + 1)).toNat).toInt) w) fun r85 u86 =>
  jgd ((0 : Int) ≤ (w32 (v4 + 1)) ∧ (w32 (v4 + 1)) < (Ln : Int)) <|
  jcall (f_R_fewest ((xs9 (w32 (v4 + 1)).toNat).toInt) u86) fun r87 u88 =>
  f_A_law_1288 Ln xs9 k23 v4 u88
theorem t_A_law_783 {X : jX} {Qf : Int × Wd → State → Prop} {ad : Nat → Nat} {sbI : Int} {Ln : Nat} {xs9 : Nat → Int32} (C : Cx X code "EachBringsAnotherLaw") (hn : xn X = 7) (hX : LX X sbI Ln xs9) (hr : RtL X Qf ad code) (hst : (xl X).stackTraces = false) (hZ : ZX (xA X) (xs X)) (hSX : SX (xs X)) {f k n : Nat} (hB : LB X (f + 1) k n) {k23 : Int → Wd → Option (Int × Wd)} (hk23 : ∀ (k n : Nat) (v4 : Int) (w : Wd), LB X f k n → VF X Qf ad NF k n w 23 [(0, (3, sbI)), (1, (2, 1)), (2, (2, 44)), (3, (2, 83)), (4, (0, v4))] [] (k23 v4 w)) (v4 : Int) (w : Wd) : VF X Qf ad NF k n w 783 [(0, (3, sbI)), (1, (2, 1)), (2, (2, 44)), (3, (2, 83)), (4, (0, v4))] [] (f_A_law_783 Ln xs9 k23 v4 w) := by
  have hb := hB.s
  have hb1 := hB.t
  unfold f_A_law_783
  refine vf_aload_n C (f := 1) (by decide +kernel) 1 rfl rfl ?_
  refine vf_aload3_n C (f := 0) (by decide +kernel) 0 rfl rfl ?_
  refine vf_iload C (by decide +kernel) 4 rfl ?_
  refine vf_iconst C (z := 1) (by decide +kernel) (jz rfl) ?_
  refine vf_iadd C (by decide +kernel) ?_
  refine vf_xld C hX (by decide +kernel) ?_
  refine vf_callVi C cy_E_fewest ml_A_113 rfl (ct_E_fewest _ _) (S := []) sh_0 (by decide) rfl (lb_jrm hb rfl) rfl rfl (Nat.le_of_ble_eq_true rfl) (by decide +kernel) (fun r85 u86 => ?_)
  refine vf_pop C (by decide +kernel) Nat.zero_ne_one ?_
  refine vf_aload_n C (f := 2) (by decide +kernel) 2 rfl rfl ?_
  refine vf_aload3_n C (f := 0) (by decide +kernel) 0 rfl rfl ?_
  refine vf_iload C (by decide +kernel) 4 rfl ?_
  refine vf_iconst C (z := 1) (by decide +kernel) (jz rfl) ?_
  refine vf_iadd C (by decide +kernel) ?_
  refine vf_xld C hX (by decide +kernel) ?_
  refine vf_callVi C cy_R_fewest ml_A_116 rfl (ct_R_fewest _ _) (S := []) sh_43 (by decide) rfl (lb_jrm hb rfl) rfl rfl (Nat.le_of_ble_eq_true rfl) (by decide +kernel) (fun r87 u88 => ?_)
  refine vf_pop C (by decide +kernel) Nat.zero_ne_one ?_
  refine vf_goto C (off := 483) (tgt := 1288) (by decide +kernel) (by decide) ?_
  exact t_A_law_1288 C hn hX hr hst hZ hSX hb hk23 _ _
def f_A_law_808 (Ln : Nat) (xs9 : Nat → Int32) (k23 : Int → Wd → Option (Int × Wd)) (v4 : Int) (w : Wd) : Option (Int × Wd) :=
  jcall (f_E_crowd w) fun r89 u90 =>
  jcall (f_R_crowd u90) fun r91 u92 =>
  f_A_law_1288 Ln xs9 k23 v4 u92
theorem t_A_law_808 {X : jX} {Qf : Int × Wd → State → Prop} {ad : Nat → Nat} {sbI : Int} {Ln : Nat} {xs9 : Nat → Int32} (C : Cx X code "EachBringsAnotherLaw") (hn : xn X = 7) (hX : LX X sbI Ln xs9) (hr : RtL X Qf ad code) (hst : (xl X).stackTraces = false) (hZ : ZX (xA X) (xs X)) (hSX : SX (xs X)) {f k n : Nat} (hB : LB X (f + 1) k n) {k23 : Int → Wd → Option (Int × Wd)} (hk23 : ∀ (k n : Nat) (v4 : Int) (w : Wd), LB X f k n → VF X Qf ad NF k n w 23 [(0, (3, sbI)), (1, (2, 1)), (2, (2, 44)), (3, (2, 83)), (4, (0, v4))] [] (k23 v4 w)) (v4 : Int) (w : Wd) : VF X Qf ad NF k n w 808 [(0, (3, sbI)), (1, (2, 1)), (2, (2, 44)), (3, (2, 83)), (4, (0, v4))] [] (f_A_law_808 Ln xs9 k23 v4 w) := by
  have hb := hB.s
  have hb1 := hB.t
  unfold f_A_law_808
  refine vf_aload_n C (f := 1) (by decide +kernel) 1 rfl rfl ?_
  refine vf_callVi C cy_E_crowd ml_A_117 rfl (ct_E_crowd _) (S := []) sh_0 (by decide) rfl (lb_jrm hb rfl) rfl rfl (Nat.le_of_ble_eq_true rfl) (by decide +kernel) (fun r89 u90 => ?_)
  refine vf_pop C (by decide +kernel) Nat.zero_ne_one ?_
  refine vf_aload_n C (f := 2) (by decide +kernel) 2 rfl rfl ?_
  refine vf_callVi C cy_R_crowd ml_A_120 rfl (ct_R_crowd _) (S := []) sh_43 (by decide) rfl (lb_jrm hb rfl) rfl rfl (Nat.le_of_ble_eq_true rfl) (by decide +kernel) (fun r91 u92 => ?_)
  refine vf_pop C (by decide +kernel) Nat.zero_ne_one ?_
  refine vf_goto C (off := 470) (tgt := 1288) (by decide +kernel) (by decide) ?_
  exact t_A_law_1288 C hn hX hr hst hZ hSX hb hk23 _ _
def f_A_law_821 (Ln : Nat) (xs9 : Nat → Int32) (k23 : Int → Wd → Option (Int × Wd)) (v4 : Int) (w : Wd) : Option (Int × Wd) :=
  jgd ((0 : Int) ≤ (w32 (v4 + 1)) ∧ (w32 (v4 + 1)) < (Ln : Int)) <|
  jgd ((0 : Int) ≤ (w32 (v4 + 2)) ∧ (w32 (v4 + 2)) < (Ln : Int)) <|
  jgd ((0 : Int) ≤ (w32 (v4 + 3)) ∧ (w32 (v4 + 3)) < (Ln : Int)) <|
  jcall (f_E_both ((xs9 (w32 (v4 + 1)).toNat).toInt) ((xs9 (w32 (v4 + 2)).toNat).toInt) ((xs9 (w32 (v4 + 3)).toNat).toInt) w) fun r93 u94 =>
  jgd ((0 : Int) ≤ (w32 (v4 + 1)) ∧ (w32 (v4 + 1)) < (Ln : Int)) <|
  jgd ((0 : Int) ≤ (w32 (v4 + 2)) ∧ (w32 (v4 + 2)) < (Ln : Int)) <|
  jgd ((0 : Int) ≤ (w32 (v4 + 3)) ∧ (w32 (v4 + 3)) < (Ln : Int)) <|
  jcall (f_R_both ((xs9 (w32 (v4 + 1)).toNat).toInt) ((xs9 (w32 (v4 + 2)).toNat).toInt) ((xs9 (w32 (v4 + 3)).toNat).toInt) u94) fun r95 u96 =>
  f_A_law_1288 Ln xs9 k23 v4 u96
theorem t_A_law_821 {X : jX} {Qf : Int × Wd → State → Prop} {ad : Nat → Nat} {sbI : Int} {Ln : Nat} {xs9 : Nat → Int32} (C : Cx X code "EachBringsAnotherLaw") (hn : xn X = 7) (hX : LX X sbI Ln xs9) (hr : RtL X Qf ad code) (hst : (xl X).stackTraces = false) (hZ : ZX (xA X) (xs X)) (hSX : SX (xs X)) {f k n : Nat} (hB : LB X (f + 1) k n) {k23 : Int → Wd → Option (Int × Wd)} (hk23 : ∀ (k n : Nat) (v4 : Int) (w : Wd), LB X f k n → VF X Qf ad NF k n w 23 [(0, (3, sbI)), (1, (2, 1)), (2, (2, 44)), (3, (2, 83)), (4, (0, v4))] [] (k23 v4 w)) (v4 : Int) (w : Wd) : VF X Qf ad NF k n w 821 [(0, (3, sbI)), (1, (2, 1)), (2, (2, 44)), (3, (2, 83)), (4, (0, v4))] [] (f_A_law_821 Ln xs9 k23 v4 w) := by
  have hb := hB.s
  have hb1 := hB.t
  unfold f_A_law_821
  refine vf_aload_n C (f := 1) (by decide +kernel) 1 rfl rfl ?_
  refine vf_aload3_n C (f := 0) (by decide +kernel) 0 rfl rfl ?_
  refine vf_iload C (by decide +kernel) 4 rfl ?_
  refine vf_iconst C (z := 1) (by decide +kernel) (jz rfl) ?_
  refine vf_iadd C (by decide +kernel) ?_
  refine vf_xld C hX (by decide +kernel) ?_
  refine vf_aload3_n C (f := 0) (by decide +kernel) 0 rfl rfl ?_
  refine vf_iload C (by decide +kernel) 4 rfl ?_
  refine vf_iconst C (z := 2) (by decide +kernel) (jz rfl) ?_
  refine vf_iadd C (by decide +kernel) ?_
  refine vf_xld C hX (by decide +kernel) ?_
  refine vf_aload3_n C (f := 0) (by decide +kernel) 0 rfl rfl ?_
  refine vf_iload C (by decide +kernel) 4 rfl ?_
  refine vf_iconst C (z := 3) (by decide +kernel) (jz rfl) ?_
  refine vf_iadd C (by decide +kernel) ?_
  refine vf_xld C hX (by decide +kernel) ?_
  refine vf_callVi C cy_E_both ml_A_121 rfl (ct_E_both _ _ _ _) (S := []) sh_0 (by decide) rfl (lb_jrm hb rfl) rfl rfl (Nat.le_of_ble_eq_true rfl) (by decide +kernel) (fun r93 u94 => ?_)
  refine vf_pop C (by decide +kernel) Nat.zero_ne_one ?_
  refine vf_aload_n C (f := 2) (by decide +kernel) 2 rfl rfl ?_
  refine vf_aload3_n C (f := 0) (by decide +kernel) 0 rfl rfl ?_
  refine vf_iload C (by decide +kernel) 4 rfl ?_
  refine vf_iconst C (z := 1) (by decide +kernel) (jz rfl) ?_
  refine vf_iadd C (by decide +kernel) ?_
  refine vf_xld C hX (by decide +kernel) ?_
  refine vf_aload3_n C (f := 0) (by decide +kernel) 0 rfl rfl ?_
  refine vf_iload C (by decide +kernel) 4 rfl ?_
  refine vf_iconst C (z := 2) (by decide +kernel) (jz rfl) ?_
  refine vf_iadd C (by decide +kernel) ?_
  refine vf_xld C hX (by decide +kernel) ?_
  refine vf_aload3_n C (f := 0) (by decide +kernel) 0 rfl rfl ?_
  refine vf_iload C (by decide +kernel) 4 rfl ?_
  refine vf_iconst C (z := 3) (by decide +kernel) (jz rfl) ?_
  refine vf_iadd C (by decide +kernel) ?_
  refine vf_xld C hX (by decide +kernel) ?_
  refine vf_callVi C cy_R_both ml_A_125 rfl (ct_R_both _ _ _ _) (S := []) sh_43 (by decide) rfl (lb_jrm hb rfl) rfl rfl (Nat.le_of_ble_eq_true rfl) (by decide +kernel) (fun r95 u96 => ?_)
  refine vf_pop C (by decide +kernel) Nat.zero_ne_one ?_
  refine vf_goto C (off := 421) (tgt := 1288) (by decide +kernel) (by decide) ?_
  exact t_A_law_1288 C hn hX hr hst hZ hSX hb hk23 _ _
def f_A_law_870 (Ln : Nat) (xs9 : Nat → Int32) (k23 : Int → Wd → Option (Int × Wd)) (v4 : Int) (w : Wd) : Option (Int × Wd) :=
  jcall (f_E_last w) fun r97 u98 =>
  jcall (f_R_last u98) fun r99 u100 =>
  f_A_law_1288 Ln xs9 k23 v4 u100
theorem t_A_law_870 {X : jX} {Qf : Int × Wd → State → Prop} {ad : Nat → Nat} {sbI : Int} {Ln : Nat} {xs9 : Nat → Int32} (C : Cx X code "EachBringsAnotherLaw") (hn : xn X = 7) (hX : LX X sbI Ln xs9) (hr : RtL X Qf ad code) (hst : (xl X).stackTraces = false) (hZ : ZX (xA X) (xs X)) (hSX : SX (xs X)) {f k n : Nat} (hB : LB X (f + 1) k n) {k23 : Int → Wd → Option (Int × Wd)} (hk23 : ∀ (k n : Nat) (v4 : Int) (w : Wd), LB X f k n → VF X Qf ad NF k n w 23 [(0, (3, sbI)), (1, (2, 1)), (2, (2, 44)), (3, (2, 83)), (4, (0, v4))] [] (k23 v4 w)) (v4 : Int) (w : Wd) : VF X Qf ad NF k n w 870 [(0, (3, sbI)), (1, (2, 1)), (2, (2, 44)), (3, (2, 83)), (4, (0, v4))] [] (f_A_law_870 Ln xs9 k23 v4 w) := by
  have hb := hB.s
  have hb1 := hB.t
  unfold f_A_law_870
  refine vf_aload_n C (f := 1) (by decide +kernel) 1 rfl rfl ?_
  refine vf_callVi C cy_E_last ml_A_126 rfl (ct_E_last _) (S := []) sh_0 (by decide) rfl (lb_jrm hb rfl) rfl rfl (Nat.le_of_ble_eq_true rfl) (by decide +kernel) (fun r97 u98 => ?_)
  refine vf_pop C (by decide +kernel) Nat.zero_ne_one ?_
  refine vf_aload_n C (f := 2) (by decide +kernel) 2 rfl rfl ?_
  refine vf_callVi C cy_R_last ml_A_129 rfl (ct_R_last _) (S := []) sh_43 (by decide) rfl (lb_jrm hb rfl) rfl rfl (Nat.le_of_ble_eq_true rfl) (by decide +kernel) (fun r99 u100 => ?_)
  refine vf_pop C (by decide +kernel) Nat.zero_ne_one ?_
  refine vf_goto C (off := 408) (tgt := 1288) (by decide +kernel) (by decide) ?_
  exact t_A_law_1288 C hn hX hr hst hZ hSX hb hk23 _ _
def f_A_law_883 (Ln : Nat) (xs9 : Nat → Int32) (k23 : Int → Wd → Option (Int × Wd)) (v4 : Int) (w : Wd) : Option (Int × Wd) :=
  jcall (f_E_begin w) fun r101 u102 =>
  jcall (f_R_begin2 u102) fun r103 u104 =>
  f_A_law_1288 Ln xs9 k23 v4 u104
theorem t_A_law_883 {X : jX} {Qf : Int × Wd → State → Prop} {ad : Nat → Nat} {sbI : Int} {Ln : Nat} {xs9 : Nat → Int32} (C : Cx X code "EachBringsAnotherLaw") (hn : xn X = 7) (hX : LX X sbI Ln xs9) (hr : RtL X Qf ad code) (hst : (xl X).stackTraces = false) (hZ : ZX (xA X) (xs X)) (hSX : SX (xs X)) {f k n : Nat} (hB : LB X (f + 1) k n) {k23 : Int → Wd → Option (Int × Wd)} (hk23 : ∀ (k n : Nat) (v4 : Int) (w : Wd), LB X f k n → VF X Qf ad NF k n w 23 [(0, (3, sbI)), (1, (2, 1)), (2, (2, 44)), (3, (2, 83)), (4, (0, v4))] [] (k23 v4 w)) (v4 : Int) (w : Wd) : VF X Qf ad NF k n w 883 [(0, (3, sbI)), (1, (2, 1)), (2, (2, 44)), (3, (2, 83)), (4, (0, v4))] [] (f_A_law_883 Ln xs9 k23 v4 w) := by
  have hb := hB.s
  have hb1 := hB.t
  unfold f_A_law_883
  refine vf_aload_n C (f := 1) (by decide +kernel) 1 rfl rfl ?_
  refine vf_callVi C cy_E_begin ml_A_130 rfl (ct_E_begin _) (S := []) sh_0 (by decide) rfl (lb_jrm hb rfl) rfl rfl (Nat.le_of_ble_eq_true rfl) (by decide +kernel) (fun r101 u102 => ?_)
  refine vf_pop C (by decide +kernel) Nat.zero_ne_one ?_
  refine vf_aload_n C (f := 2) (by decide +kernel) 2 rfl rfl ?_
  refine vf_callVi C cy_R_begin2 ml_A_133 rfl (ct_R_begin2 _) (S := []) sh_43 (by decide) rfl (lb_jrm hb rfl) rfl rfl (Nat.le_of_ble_eq_true rfl) (by decide +kernel) (fun r103 u104 => ?_)
  refine vf_pop C (by decide +kernel) Nat.zero_ne_one ?_
  refine vf_goto C (off := 395) (tgt := 1288) (by decide +kernel) (by decide) ?_
  exact t_A_law_1288 C hn hX hr hst hZ hSX hb hk23 _ _
def f_A_law_896 (Ln : Nat) (xs9 : Nat → Int32) (k23 : Int → Wd → Option (Int × Wd)) (v4 : Int) (w : Wd) : Option (Int × Wd) :=
  jgd ((0 : Int) ≤ (w32 (v4 + 1)) ∧ (w32 (v4 + 1)) < (Ln : Int)) <|
  jcall (f_E_cheap ((xs9 (w32 (v4 + 1)).toNat).toInt) w) fun r105 u106 =>
  jgd ((0 : Int) ≤ (w32 (v4 + 1)) ∧ (w32 (v4 + 1)) < (Ln : Int)) <|
  jcall (f_R_cheap ((xs9 (w32 (v4 + 1)).toNat).toInt) u106) fun r107 u108 =>
  f_A_law_1288 Ln xs9 k23 v4 u108
theorem t_A_law_896 {X : jX} {Qf : Int × Wd → State → Prop} {ad : Nat → Nat} {sbI : Int} {Ln : Nat} {xs9 : Nat → Int32} (C : Cx X code "EachBringsAnotherLaw") (hn : xn X = 7) (hX : LX X sbI Ln xs9) (hr : RtL X Qf ad code) (hst : (xl X).stackTraces = false) (hZ : ZX (xA X) (xs X)) (hSX : SX (xs X)) {f k n : Nat} (hB : LB X (f + 1) k n) {k23 : Int → Wd → Option (Int × Wd)} (hk23 : ∀ (k n : Nat) (v4 : Int) (w : Wd), LB X f k n → VF X Qf ad NF k n w 23 [(0, (3, sbI)), (1, (2, 1)), (2, (2, 44)), (3, (2, 83)), (4, (0, v4))] [] (k23 v4 w)) (v4 : Int) (w : Wd) : VF X Qf ad NF k n w 896 [(0, (3, sbI)), (1, (2, 1)), (2, (2, 44)), (3, (2, 83)), (4, (0, v4))] [] (f_A_law_896 Ln xs9 k23 v4 w) := by
  have hb := hB.s
  have hb1 := hB.t
  unfold f_A_law_896
  refine vf_aload_n C (f := 1) (by decide +kernel) 1 rfl rfl ?_
  refine vf_aload3_n C (f := 0) (by decide +kernel) 0 rfl rfl ?_
  refine vf_iload C (by decide +kernel) 4 rfl ?_
  refine vf_iconst C (z := 1) (by decide +kernel) (jz rfl) ?_
  refine vf_iadd C (by decide +kernel) ?_
  refine vf_xld C hX (by decide +kernel) ?_
  refine vf_callVi C cy_E_cheap ml_A_134 rfl (ct_E_cheap _ _) (S := []) sh_0 (by decide) rfl (lb_jrm hb rfl) rfl rfl (Nat.le_of_ble_eq_true rfl) (by decide +kernel) (fun r105 u106 => ?_)
  refine vf_pop C (by decide +kernel) Nat.zero_ne_one ?_
  refine vf_aload_n C (f := 2) (by decide +kernel) 2 rfl rfl ?_
  refine vf_aload3_n C (f := 0) (by decide +kernel) 0 rfl rfl ?_
  refine vf_iload C (by decide +kernel) 4 rfl ?_
  refine vf_iconst C (z := 1) (by decide +kernel) (jz rfl) ?_
  refine vf_iadd C (by decide +kernel) ?_
  refine vf_xld C hX (by decide +kernel) ?_
  refine vf_callVi C cy_R_cheap ml_A_137 rfl (ct_R_cheap _ _) (S := []) sh_43 (by decide) rfl (lb_jrm hb rfl) rfl rfl (Nat.le_of_ble_eq_true rfl) (by decide +kernel) (fun r107 u108 => ?_)
  refine vf_pop C (by decide +kernel) Nat.zero_ne_one ?_
  refine vf_goto C (off := 370) (tgt := 1288) (by decide +kernel) (by decide) ?_
  exact t_A_law_1288 C hn hX hr hst hZ hSX hb hk23 _ _
def f_A_law_921 (Ln : Nat) (xs9 : Nat → Int32) (k23 : Int → Wd → Option (Int × Wd)) (v4 : Int) (w : Wd) : Option (Int × Wd) :=
  jgd ((0 : Int) ≤ (w32 (v4 + 1)) ∧ (w32 (v4 + 1)) < (Ln : Int)) <|
  jcall (f_E_stays ((xs9 (w32 (v4 + 1)).toNat).toInt) w) fun r109 u110 =>
  jgd ((0 : Int) ≤ (w32 (v4 + 1)) ∧ (w32 (v4 + 1)) < (Ln : Int)) <|
  jcall (f_R_stays ((xs9 (w32 (v4 + 1)).toNat).toInt) u110) fun r111 u112 =>
  f_A_law_1288 Ln xs9 k23 v4 u112
theorem t_A_law_921 {X : jX} {Qf : Int × Wd → State → Prop} {ad : Nat → Nat} {sbI : Int} {Ln : Nat} {xs9 : Nat → Int32} (C : Cx X code "EachBringsAnotherLaw") (hn : xn X = 7) (hX : LX X sbI Ln xs9) (hr : RtL X Qf ad code) (hst : (xl X).stackTraces = false) (hZ : ZX (xA X) (xs X)) (hSX : SX (xs X)) {f k n : Nat} (hB : LB X (f + 1) k n) {k23 : Int → Wd → Option (Int × Wd)} (hk23 : ∀ (k n : Nat) (v4 : Int) (w : Wd), LB X f k n → VF X Qf ad NF k n w 23 [(0, (3, sbI)), (1, (2, 1)), (2, (2, 44)), (3, (2, 83)), (4, (0, v4))] [] (k23 v4 w)) (v4 : Int) (w : Wd) : VF X Qf ad NF k n w 921 [(0, (3, sbI)), (1, (2, 1)), (2, (2, 44)), (3, (2, 83)), (4, (0, v4))] [] (f_A_law_921 Ln xs9 k23 v4 w) := by
  have hb := hB.s
  have hb1 := hB.t
  unfold f_A_law_921
  refine vf_aload_n C (f := 1) (by decide +kernel) 1 rfl rfl ?_
  refine vf_aload3_n C (f := 0) (by decide +kernel) 0 rfl rfl ?_
  refine vf_iload C (by decide +kernel) 4 rfl ?_
  refine vf_iconst C (z := 1) (by decide +kernel) (jz rfl) ?_
  refine vf_iadd C (by decide +kernel) ?_
  refine vf_xld C hX (by decide +kernel) ?_
  refine vf_callVi C cy_E_stays ml_A_138 rfl (ct_E_stays _ _) (S := []) sh_0 (by decide) rfl (lb_jrm hb rfl) rfl rfl (Nat.le_of_ble_eq_true rfl) (by decide +kernel) (fun r109 u110 => ?_)
  refine vf_pop C (by decide +kernel) Nat.zero_ne_one ?_
  refine vf_aload_n C (f := 2) (by decide +kernel) 2 rfl rfl ?_
  refine vf_aload3_n C (f := 0) (by decide +kernel) 0 rfl rfl ?_
  refine vf_iload C (by decide +kernel) 4 rfl ?_
  refine vf_iconst C (z := 1) (by decide +kernel) (jz rfl) ?_
  refine vf_iadd C (by decide +kernel) ?_
  refine vf_xld C hX (by decide +kernel) ?_
  refine vf_callVi C cy_R_stays ml_A_141 rfl (ct_R_stays _ _) (S := []) sh_43 (by decide) rfl (lb_jrm hb rfl) rfl rfl (Nat.le_of_ble_eq_true rfl) (by decide +kernel) (fun r111 u112 => ?_)
  refine vf_pop C (by decide +kernel) Nat.zero_ne_one ?_
  refine vf_goto C (off := 345) (tgt := 1288) (by decide +kernel) (by decide) ?_
  exact t_A_law_1288 C hn hX hr hst hZ hSX hb hk23 _ _
def f_A_law_946 (Ln : Nat) (xs9 : Nat → Int32) (k23 : Int → Wd → Option (Int × Wd)) (v4 : Int) (w : Wd) : Option (Int × Wd) :=
  jgd ((0 : Int) ≤ (w32 (v4 + 1)) ∧ (w32 (v4 + 1)) < (Ln : Int)) <|
  jcall (f_E_soonest ((xs9 (w32 (v4 + 1)).toNat).toInt) w) fun r113 u114 =>
  jgd ((0 : Int) ≤ (w32 (v4 + 1)) ∧ (w32 (v4 + 1)) < (Ln : Int)) <|
  jcall (f_R_soonest ((xs9 (w32 (v4 + 1)).toNat).toInt) u114) fun r115 u116 =>
  f_A_law_1288 Ln xs9 k23 v4 u116
theorem t_A_law_946 {X : jX} {Qf : Int × Wd → State → Prop} {ad : Nat → Nat} {sbI : Int} {Ln : Nat} {xs9 : Nat → Int32} (C : Cx X code "EachBringsAnotherLaw") (hn : xn X = 7) (hX : LX X sbI Ln xs9) (hr : RtL X Qf ad code) (hst : (xl X).stackTraces = false) (hZ : ZX (xA X) (xs X)) (hSX : SX (xs X)) {f k n : Nat} (hB : LB X (f + 1) k n) {k23 : Int → Wd → Option (Int × Wd)} (hk23 : ∀ (k n : Nat) (v4 : Int) (w : Wd), LB X f k n → VF X Qf ad NF k n w 23 [(0, (3, sbI)), (1, (2, 1)), (2, (2, 44)), (3, (2, 83)), (4, (0, v4))] [] (k23 v4 w)) (v4 : Int) (w : Wd) : VF X Qf ad NF k n w 946 [(0, (3, sbI)), (1, (2, 1)), (2, (2, 44)), (3, (2, 83)), (4, (0, v4))] [] (f_A_law_946 Ln xs9 k23 v4 w) := by
  have hb := hB.s
  have hb1 := hB.t
  unfold f_A_law_946
  refine vf_aload_n C (f := 1) (by decide +kernel) 1 rfl rfl ?_
  refine vf_aload3_n C (f := 0) (by decide +kernel) 0 rfl rfl ?_
  refine vf_iload C (by decide +kernel) 4 rfl ?_
  refine vf_iconst C (z := 1) (by decide +kernel) (jz rfl) ?_
  refine vf_iadd C (by decide +kernel) ?_
  refine vf_xld C hX (by decide +kernel) ?_
  refine vf_callVi C cy_E_soonest ml_A_142 rfl (ct_E_soonest _ _) (S := []) sh_0 (by decide) rfl (lb_jrm hb rfl) rfl rfl (Nat.le_of_ble_eq_true rfl) (by decide +kernel) (fun r113 u114 => ?_)
  refine vf_pop C (by decide +kernel) Nat.zero_ne_one ?_
  refine vf_aload_n C (f := 2) (by decide +kernel) 2 rfl rfl ?_
  refine vf_aload3_n C (f := 0) (by decide +kernel) 0 rfl rfl ?_
  refine vf_iload C (by decide +kernel) 4 rfl ?_
  refine vf_iconst C (z := 1) (by decide +kernel) (jz rfl) ?_
  refine vf_iadd C (by decide +kernel) ?_
  refine vf_xld C hX (by decide +kernel) ?_
  refine vf_callVi C cy_R_soonest ml_A_145 rfl (ct_R_soonest _ _) (S := []) sh_43 (by decide) rfl (lb_jrm hb rfl) rfl rfl (Nat.le_of_ble_eq_true rfl) (by decide +kernel) (fun r115 u116 => ?_)
  refine vf_pop C (by decide +kernel) Nat.zero_ne_one ?_
  refine vf_goto C (off := 320) (tgt := 1288) (by decide +kernel) (by decide) ?_
  exact t_A_law_1288 C hn hX hr hst hZ hSX hb hk23 _ _
def f_A_law_971 (Ln : Nat) (xs9 : Nat → Int32) (k23 : Int → Wd → Option (Int × Wd)) (v4 : Int) (w : Wd) : Option (Int × Wd) :=
  jgd ((0 : Int) ≤ (w32 (v4 + 1)) ∧ (w32 (v4 + 1)) < (Ln : Int)) <|
  jcall (f_E_worth ((xs9 (w32 (v4 + 1)).toNat).toInt) w) fun r117 u118 =>
  jgd ((0 : Int) ≤ (w32 (v4 + 1)) ∧ (w32 (v4 + 1)) < (Ln : Int)) <|
  jcall (f_R_worth ((xs9 (w32 (v4 + 1)).toNat).toInt) u118) fun r119 u120 =>
  f_A_law_1288 Ln xs9 k23 v4 u120
theorem t_A_law_971 {X : jX} {Qf : Int × Wd → State → Prop} {ad : Nat → Nat} {sbI : Int} {Ln : Nat} {xs9 : Nat → Int32} (C : Cx X code "EachBringsAnotherLaw") (hn : xn X = 7) (hX : LX X sbI Ln xs9) (hr : RtL X Qf ad code) (hst : (xl X).stackTraces = false) (hZ : ZX (xA X) (xs X)) (hSX : SX (xs X)) {f k n : Nat} (hB : LB X (f + 1) k n) {k23 : Int → Wd → Option (Int × Wd)} (hk23 : ∀ (k n : Nat) (v4 : Int) (w : Wd), LB X f k n → VF X Qf ad NF k n w 23 [(0, (3, sbI)), (1, (2, 1)), (2, (2, 44)), (3, (2, 83)), (4, (0, v4))] [] (k23 v4 w)) (v4 : Int) (w : Wd) : VF X Qf ad NF k n w 971 [(0, (3, sbI)), (1, (2, 1)), (2, (2, 44)), (3, (2, 83)), (4, (0, v4))] [] (f_A_law_971 Ln xs9 k23 v4 w) := by
  have hb := hB.s
  have hb1 := hB.t
  unfold f_A_law_971
  refine vf_aload_n C (f := 1) (by decide +kernel) 1 rfl rfl ?_
  refine vf_aload3_n C (f := 0) (by decide +kernel) 0 rfl rfl ?_
  refine vf_iload C (by decide +kernel) 4 rfl ?_
  refine vf_iconst C (z := 1) (by decide +kernel) (jz rfl) ?_
  refine vf_iadd C (by decide +kernel) ?_
  refine vf_xld C hX (by decide +kernel) ?_
  refine vf_callVi C cy_E_worth ml_A_146 rfl (ct_E_worth _ _) (S := []) sh_0 (by decide) rfl (lb_jrm hb rfl) rfl rfl (Nat.le_of_ble_eq_true rfl) (by decide +kernel) (fun r117 u118 => ?_)
  refine vf_pop C (by decide +kernel) Nat.zero_ne_one ?_
  refine vf_aload_n C (f := 2) (by decide +kernel) 2 rfl rfl ?_
  refine vf_aload3_n C (f := 0) (by decide +kernel) 0 rfl rfl ?_
  refine vf_iload C (by decide +kernel) 4 rfl ?_
  refine vf_iconst C (z := 1) (by decide +kernel) (jz rfl) ?_
  refine vf_iadd C (by decide +kernel) ?_
  refine vf_xld C hX (by decide +kernel) ?_
  refine vf_callVi C cy_R_worth ml_A_149 rfl (ct_R_worth _ _) (S := []) sh_43 (by decide) rfl (lb_jrm hb rfl) rfl rfl (Nat.le_of_ble_eq_true rfl) (by decide +kernel) (fun r119 u120 => ?_)
  refine vf_pop C (by decide +kernel) Nat.zero_ne_one ?_
  refine vf_goto C (off := 295) (tgt := 1288) (by decide +kernel) (by decide) ?_
  exact t_A_law_1288 C hn hX hr hst hZ hSX hb hk23 _ _
