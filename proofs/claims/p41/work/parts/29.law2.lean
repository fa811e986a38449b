def f_A_law_590 (Ln : Nat) (xs9 : Nat → Int32) (k23 : Int → Wd → Option (Int × Wd)) (v4 : Int) (w : Wd) : Option (Int × Wd) :=
  jgd ((0 : Int) ≤ (w32 (v4 + 1)) ∧ (w32 (v4 + 1)) < (Ln : Int)) <|
  jcall (f_E_goes ((xs9 (w32 (v4 + 1)).toNat).toInt) w) fun r47 u48 =>
  jgd ((0 : Int) ≤ (w32 (v4 + 1)) ∧ (w32 (v4 + 1)) < (Ln : Int)) <|
  jcall (f_R_goes ((xs9 (w32 (v4 + 1)).toNat).toInt) u48) fun r49 u50 =>
  f_A_law_1260 Ln xs9 k23 v4 u50
theorem t_A_law_590 {X : jX} {Qf : Int × Wd → State → Prop} {ad : Nat → Nat} {sbI : Int} {Ln : Nat} {xs9 : Nat → Int32} (C : Cx X code "EachBringsAnotherLaw") (hn : xn X = 7) (hX : LX X sbI Ln xs9) (hr : RtL X Qf ad code) (hst : (xl X).stackTraces = false) (hZ : ZX (xA X) (xs X)) (hSX : SX (xs X)) {f k n : Nat} (hB : LB X (f + 1) k n) {k23 : Int → Wd → Option (Int × Wd)} (hk23 : ∀ (k n : Nat) (v4 : Int) (w : Wd), LB X f k n → VF X Qf ad NF k n w 23 [(0, (3, sbI)), (1, (2, 1)), (2, (2, 44)), (3, (2, 83)), (4, (0, v4))] [] (k23 v4 w)) (v4 : Int) (w : Wd) : VF X Qf ad NF k n w 590 [(0, (3, sbI)), (1, (2, 1)), (2, (2, 44)), (3, (2, 83)), (4, (0, v4))] [] (f_A_law_590 Ln xs9 k23 v4 w) := by
  have hb := hB.s
  have hb1 := hB.t
  unfold f_A_law_590
  refine vf_aload_n C (f := 1) (by decide +kernel) 1 rfl rfl ?_
  refine vf_aload3_n C (f := 0) (by decide +kernel) 0 rfl rfl ?_
  refine vf_iload C (by decide +kernel) 4 rfl ?_
  refine vf_iconst C (z := 1) (by decide +kernel) (jz rfl) ?_
  refine vf_iadd C (by decide +kernel) ?_
  refine vf_xld C hX (by decide +kernel) ?_
  refine vf_callVi C cy_E_goes ml_A_74 rfl (ct_E_goes _ _) (S := []) sh_0 (by decide) rfl (lb_jrm hb rfl) rfl rfl (Nat.le_of_ble_eq_true rfl) (by decide +kernel) (fun r47 u48 => ?_)
  refine vf_pop C (by decide +kernel) Nat.zero_ne_one ?_
  refine vf_aload_n C (f := 2) (by decide +kernel) 2 rfl rfl ?_
  refine vf_aload3_n C (f := 0) (by decide +kernel) 0 rfl rfl ?_
  refine vf_iload C (by decide +kernel) 4 rfl ?_
  refine vf_iconst C (z := 1) (by decide +kernel) (jz rfl) ?_
  refine vf_iadd C (by decide +kernel) ?_
  refine vf_xld C hX (by decide +kernel) ?_
  refine vf_callVi C cy_R_goes ml_A_77 rfl (ct_R_goes _ _) (S := []) sh_43 (by decide) rfl (lb_jrm hb rfl) rfl rfl (Nat.le_of_ble_eq_true rfl) (by decide +kernel) (fun r49 u50 => ?_)
  refine vf_pop C (by decide +kernel) Nat.zero_ne_one ?_
  refine vf_goto C (off := 648) (tgt := 1260) (by decide +kernel) (by decide) ?_
  exact t_A_law_1260 C hn hX hr hst hZ hSX hb hk23 _ _
def f_A_law_615 (Ln : Nat) (xs9 : Nat → Int32) (k23 : Int → Wd → Option (Int × Wd)) (v4 : Int) (w : Wd) : Option (Int × Wd) :=
  jcall (f_E_undo w) fun r51 u52 =>
  jcall (f_R_undo u52) fun r53 u54 =>
  f_A_law_1260 Ln xs9 k23 v4 u54
theorem t_A_law_615 {X : jX} {Qf : Int × Wd → State → Prop} {ad : Nat → Nat} {sbI : Int} {Ln : Nat} {xs9 : Nat → Int32} (C : Cx X code "EachBringsAnotherLaw") (hn : xn X = 7) (hX : LX X sbI Ln xs9) (hr : RtL X Qf ad code) (hst : (xl X).stackTraces = false) (hZ : ZX (xA X) (xs X)) (hSX : SX (xs X)) {f k n : Nat} (hB : LB X (f + 1) k n) {k23 : Int → Wd → Option (Int × Wd)} (hk23 : ∀ (k n : Nat) (v4 : Int) (w : Wd), LB X f k n → VF X Qf ad NF k n w 23 [(0, (3, sbI)), (1, (2, 1)), (2, (2, 44)), (3, (2, 83)), (4, (0, v4))] [] (k23 v4 w)) (v4 : Int) (w : Wd) : VF X Qf ad NF k n w 615 [(0, (3, sbI)), (1, (2, 1)), (2, (2, 44)), (3, (2, 83)), (4, (0, v4))] [] (f_A_law_615 Ln xs9 k23 v4 w) := by
  have hb := hB.s
  have hb1 := hB.t
  unfold f_A_law_615
  refine vf_aload_n C (f := 1) (by decide +kernel) 1 rfl rfl ?_
  refine vf_callVi C cy_E_undo ml_A_78 rfl (ct_E_undo _) (S := []) sh_0 (by decide) rfl (lb_jrm hb rfl) rfl rfl (Nat.le_of_ble_eq_true rfl) (by decide +kernel) (fun r51 u52 => ?_)
  refine vf_pop C (by decide +kernel) Nat.zero_ne_one ?_
  refine vf_aload_n C (f := 2) (by decide +kernel) 2 rfl rfl ?_
  refine vf_callVi C cy_R_undo ml_A_81 rfl (ct_R_undo _) (S := []) sh_43 (by decide) rfl (lb_jrm hb rfl) rfl rfl (Nat.le_of_ble_eq_true rfl) (by decide +kernel) (fun r53 u54 => ?_)
  refine vf_pop C (by decide +kernel) Nat.zero_ne_one ?_
  refine vf_goto C (off := 635) (tgt := 1260) (by decide +kernel) (by decide) ?_
  exact t_A_law_1260 C hn hX hr hst hZ hSX hb hk23 _ _
def f_A_law_628 (Ln : Nat) (xs9 : Nat → Int32) (k23 : Int → Wd → Option (Int × Wd)) (v4 : Int) (w : Wd) : Option (Int × Wd) :=
  jcall (f_E_can w) fun r55 u56 =>
  jcall (f_R_can u56) fun r57 u58 =>
  f_A_law_1260 Ln xs9 k23 v4 u58
theorem t_A_law_628 {X : jX} {Qf : Int × Wd → State → Prop} {ad : Nat → Nat} {sbI : Int} {Ln : Nat} {xs9 : Nat → Int32} (C : Cx X code "EachBringsAnotherLaw") (hn : xn X = 7) (hX : LX X sbI Ln xs9) (hr : RtL X Qf ad code) (hst : (xl X).stackTraces = false) (hZ : ZX (xA X) (xs X)) (hSX : SX (xs X)) {f k n : Nat} (hB : LB X (f + 1) k n) {k23 : Int → Wd → Option (Int × Wd)} (hk23 : ∀ (k n : Nat) (v4 : Int) (w : Wd), LB X f k n → VF X Qf ad NF k n w 23 [(0, (3, sbI)), (1, (2, 1)), (2, (2, 44)), (3, (2, 83)), (4, (0, v4))] [] (k23 v4 w)) (v4 : Int) (w : Wd) : VF X Qf ad NF k n w 628 [(0, (3, sbI)), (1, (2, 1)), (2, (2, 44)), (3, (2, 83)), (4, (0, v4))] [] (f_A_law_628 Ln xs9 k23 v4 w) := by
  have hb := hB.s
  have hb1 := hB.t
  unfold f_A_law_628
  refine vf_aload_n C (f := 1) (by decide +kernel) 1 rfl rfl ?_
  refine vf_callVi C cy_E_can ml_A_82 rfl (ct_E_can _) (S := []) sh_0 (by decide) rfl (lb_jrm hb rfl) rfl rfl (Nat.le_of_ble_eq_true rfl) (by decide +kernel) (fun r55 u56 => ?_)
  refine vf_pop C (by decide +kernel) Nat.zero_ne_one ?_
  refine vf_aload_n C (f := 2) (by decide +kernel) 2 rfl rfl ?_
  refine vf_callVi C cy_R_can ml_A_85 rfl (ct_R_can _) (S := []) sh_43 (by decide) rfl (lb_jrm hb rfl) rfl rfl (Nat.le_of_ble_eq_true rfl) (by decide +kernel) (fun r57 u58 => ?_)
  refine vf_pop C (by decide +kernel) Nat.zero_ne_one ?_
  refine vf_goto C (off := 622) (tgt := 1260) (by decide +kernel) (by decide) ?_
  exact t_A_law_1260 C hn hX hr hst hZ hSX hb hk23 _ _
def f_A_law_641 (Ln : Nat) (xs9 : Nat → Int32) (k23 : Int → Wd → Option (Int × Wd)) (v4 : Int) (w : Wd) : Option (Int × Wd) :=
  jgd ((0 : Int) ≤ (w32 (v4 + 1)) ∧ (w32 (v4 + 1)) < (Ln : Int)) <|
  jcall (f_E_picks ((xs9 (w32 (v4 + 1)).toNat).toInt) w) fun r59 u60 =>
  jgd ((0 : Int) ≤ (w32 (v4 + 1)) ∧ (w32 (v4 + 1)) < (Ln : Int)) <|
  jcall (f_R_picks ((xs9 (w32 (v4 + 1)).toNat).toInt) u60) fun r61 u62 =>
  f_A_law_1260 Ln xs9 k23 v4 u62
theorem t_A_law_641 {X : jX} {Qf : Int × Wd → State → Prop} {ad : Nat → Nat} {sbI : Int} {Ln : Nat} {xs9 : Nat → Int32} (C : Cx X code "EachBringsAnotherLaw") (hn : xn X = 7) (hX : LX X sbI Ln xs9) (hr : RtL X Qf ad code) (hst : (xl X).stackTraces = false) (hZ : ZX (xA X) (xs X)) (hSX : SX (xs X)) {f k n : Nat} (hB : LB X (f + 1) k n) {k23 : Int → Wd → Option (Int × Wd)} (hk23 : ∀ (k n : Nat) (v4 : Int) (w : Wd), LB X f k n → VF X Qf ad NF k n w 23 [(0, (3, sbI)), (1, (2, 1)), (2, (2, 44)), (3, (2, 83)), (4, (0, v4))] [] (k23 v4 w)) (v4 : Int) (w : Wd) : VF X Qf ad NF k n w 641 [(0, (3, sbI)), (1, (2, 1)), (2, (2, 44)), (3, (2, 83)), (4, (0, v4))] [] (f_A_law_641 Ln xs9 k23 v4 w) := by
  have hb := hB.s
  have hb1 := hB.t
  unfold f_A_law_641
  refine vf_aload_n C (f := 1) (by decide +kernel) 1 rfl rfl ?_
  refine vf_aload3_n C (f := 0) (by decide +kernel) 0 rfl rfl ?_
  refine vf_iload C (by decide +kernel) 4 rfl ?_
  refine vf_iconst C (z := 1) (by decide +kernel) (jz rfl) ?_
  refine vf_iadd C (by decide +kernel) ?_
  refine vf_xld C hX (by decide +kernel) ?_
  refine vf_callVi C cy_E_picks ml_A_86 rfl (ct_E_picks _ _) (S := []) sh_0 (by decide) rfl (lb_jrm hb rfl) rfl rfl (Nat.le_of_ble_eq_true rfl) (by decide +kernel) (fun r59 u60 => ?_)
  refine vf_pop C (by decide +kernel) Nat.zero_ne_one ?_
  refine vf_aload_n C (f := 2) (by decide +kernel) 2 rfl rfl ?_
  refine vf_aload3_n C (f := 0) (by decide +kernel) 0 rfl rfl ?_
  refine vf_iload C (by decide +kernel) 4 rfl ?_
  refine vf_iconst C (z := 1) (by decide +kernel) (jz rfl) ?_
  refine vf_iadd C (by decide +kernel) ?_
  refine vf_xld C hX (by decide +kernel) ?_
  refine vf_callVi C cy_R_picks ml_A_89 rfl (ct_R_picks _ _) (S := []) sh_43 (by decide) rfl (lb_jrm hb rfl) rfl rfl (Nat.le_of_ble_eq_true rfl) (by decide +kernel) (fun r61 u62 => ?_)
  refine vf_pop C (by decide +kernel) Nat.zero_ne_one ?_
  refine vf_goto C (off := 597) (tgt := 1260) (by decide +kernel) (by decide) ?_
  exact t_A_law_1260 C hn hX hr hst hZ hSX hb hk23 _ _
def f_A_law_666 (Ln : Nat) (xs9 : Nat → Int32) (k23 : Int → Wd → Option (Int × Wd)) (v4 : Int) (w : Wd) : Option (Int × Wd) :=
  jcall (f_E_pairs w) fun r63 u64 =>
  jcall (f_R_pairs u64) fun r65 u66 =>
  f_A_law_1260 Ln xs9 k23 v4 u66
theorem t_A_law_666 {X : jX} {Qf : Int × Wd → State → Prop} {ad : Nat → Nat} {sbI : Int} {Ln : Nat} {xs9 : Nat → Int32} (C : Cx X code "EachBringsAnotherLaw") (hn : xn X = 7) (hX : LX X sbI Ln xs9) (hr : RtL X Qf ad code) (hst : (xl X).stackTraces = false) (hZ : ZX (xA X) (xs X)) (hSX : SX (xs X)) {f k n : Nat} (hB : LB X (f + 1) k n) {k23 : Int → Wd → Option (Int × Wd)} (hk23 : ∀ (k n : Nat) (v4 : Int) (w : Wd), LB X f k n → VF X Qf ad NF k n w 23 [(0, (3, sbI)), (1, (2, 1)), (2, (2, 44)), (3, (2, 83)), (4, (0, v4))] [] (k23 v4 w)) (v4 : Int) (w : Wd) : VF X Qf ad NF k n w 666 [(0, (3, sbI)), (1, (2, 1)), (2, (2, 44)), (3, (2, 83)), (4, (0, v4))] [] (f_A_law_666 Ln xs9 k23 v4 w) := by
  have hb := hB.s
  have hb1 := hB.t
  unfold f_A_law_666
  refine vf_aload_n C (f := 1) (by decide +kernel) 1 rfl rfl ?_
  refine vf_callVi C cy_E_pairs ml_A_90 rfl (ct_E_pairs _) (S := []) sh_0 (by decide) rfl (lb_jrm hb rfl) rfl rfl (Nat.le_of_ble_eq_true rfl) (by decide +kernel) (fun r63 u64 => ?_)
  refine vf_pop C (by decide +kernel) Nat.zero_ne_one ?_
  refine vf_aload_n C (f := 2) (by decide +kernel) 2 rfl rfl ?_
  refine vf_callVi C cy_R_pairs ml_A_93 rfl (ct_R_pairs _) (S := []) sh_43 (by decide) rfl (lb_jrm hb rfl) rfl rfl (Nat.le_of_ble_eq_true rfl) (by decide +kernel) (fun r65 u66 => ?_)
  refine vf_pop C (by decide +kernel) Nat.zero_ne_one ?_
  refine vf_goto C (off := 584) (tgt := 1260) (by decide +kernel) (by decide) ?_
  exact t_A_law_1260 C hn hX hr hst hZ hSX hb hk23 _ _
def f_A_law_679 (Ln : Nat) (xs9 : Nat → Int32) (k23 : Int → Wd → Option (Int × Wd)) (v4 : Int) (w : Wd) : Option (Int × Wd) :=
  jcall (f_E_bars w) fun r67 u68 =>
  jcall (f_R_bars u68) fun r69 u70 =>
  f_A_law_1260 Ln xs9 k23 v4 u70
theorem t_A_law_679 {X : jX} {Qf : Int × Wd → State → Prop} {ad : Nat → Nat} {sbI : Int} {Ln : Nat} {xs9 : Nat → Int32} (C : Cx X code "EachBringsAnotherLaw") (hn : xn X = 7) (hX : LX X sbI Ln xs9) (hr : RtL X Qf ad code) (hst : (xl X).stackTraces = false) (hZ : ZX (xA X) (xs X)) (hSX : SX (xs X)) {f k n : Nat} (hB : LB X (f + 1) k n) {k23 : Int → Wd → Option (Int × Wd)} (hk23 : ∀ (k n : Nat) (v4 : Int) (w : Wd), LB X f k n → VF X Qf ad NF k n w 23 [(0, (3, sbI)), (1, (2, 1)), (2, (2, 44)), (3, (2, 83)), (4, (0, v4))] [] (k23 v4 w)) (v4 : Int) (w : Wd) : VF X Qf ad NF k n w 679 [(0, (3, sbI)), (1, (2, 1)), (2, (2, 44)), (3, (2, 83)), (4, (0, v4))] [] (f_A_law_679 Ln xs9 k23 v4 w) := by
  have hb := hB.s
  have hb1 := hB.t
  unfold f_A_law_679
  refine vf_aload_n C (f := 1) (by decide +kernel) 1 rfl rfl ?_
  refine vf_callVi C cy_E_bars ml_A_94 rfl (ct_E_bars _) (S := []) sh_0 (by decide) rfl (lb_jrm hb rfl) rfl rfl (Nat.le_of_ble_eq_true rfl) (by decide +kernel) (fun r67 u68 => ?_)
  refine vf_pop C (by decide +kernel) Nat.zero_ne_one ?_
  refine vf_aload_n C (f := 2) (by decide +kernel) 2 rfl rfl ?_
  refine vf_callVi C cy_R_bars ml_A_97 rfl (ct_R_bars _) (S := []) sh_43 (by decide) rfl (lb_jrm hb rfl) rfl rfl (Nat.le_of_ble_eq_true rfl) (by decide +kernel) (fun r69 u70 => ?_)
  refine vf_pop C (by decide +kernel) Nat.zero_ne_one ?_
  refine vf_goto C (off := 571) (tgt := 1260) (by decide +kernel) (by decide) ?_
  exact t_A_law_1260 C hn hX hr hst hZ hSX hb hk23 _ _
def f_A_law_692 (Ln : Nat) (xs9 : Nat → Int32) (k23 : Int → Wd → Option (Int × Wd)) (v4 : Int) (w : Wd) : Option (Int × Wd) :=
  jcall (f_E_states w) fun r71 u72 =>
  jcall (f_R_states u72) fun r73 u74 =>
  f_A_law_1260 Ln xs9 k23 v4 u74
theorem t_A_law_692 {X : jX} {Qf : Int × Wd → State → Prop} {ad : Nat → Nat} {sbI : Int} {Ln : Nat} {xs9 : Nat → Int32} (C : Cx X code "EachBringsAnotherLaw") (hn : xn X = 7) (hX : LX X sbI Ln xs9) (hr : RtL X Qf ad code) (hst : (xl X).stackTraces = false) (hZ : ZX (xA X) (xs X)) (hSX : SX (xs X)) {f k n : Nat} (hB : LB X (f + 1) k n) {k23 : Int → Wd → Option (Int × Wd)} (hk23 : ∀ (k n : Nat) (v4 : Int) (w : Wd), LB X f k n → VF X Qf ad NF k n w 23 [(0, (3, sbI)), (1, (2, 1)), (2, (2, 44)), (3, (2, 83)), (4, (0, v4))] [] (k23 v4 w)) (v4 : Int) (w : Wd) : VF X Qf ad NF k n w 692 [(0, (3, sbI)), (1, (2, 1)), (2, (2, 44)), (3, (2, 83)), (4, (0, v4))] [] (f_A_law_692 Ln xs9 k23 v4 w) := by
  have hb := hB.s
  have hb1 := hB.t
  unfold f_A_law_692
  refine vf_aload_n C (f := 1) (by decide +kernel) 1 rfl rfl ?_
  refine vf_callVi C cy_E_states ml_A_98 rfl (ct_E_states _) (S := []) sh_0 (by decide) rfl (lb_jrm hb rfl) rfl rfl (Nat.le_of_ble_eq_true rfl) (by decide +kernel) (fun r71 u72 => ?_)
  refine vf_pop C (by decide +kernel) Nat.zero_ne_one ?_
  refine vf_aload_n C (f := 2) (by decide +kernel) 2 rfl rfl ?_
  refine vf_callVi C cy_R_states ml_A_101 rfl (ct_R_states _) (S := []) sh_43 (by decide) rfl (lb_jrm hb rfl) rfl rfl (Nat.le_of_ble_eq_true rfl) (by decide +kernel) (fun r73 u74 => ?_)
  refine vf_pop C (by decide +kernel) Nat.zero_ne_one ?_
  refine vf_goto C (off := 558) (tgt := 1260) (by decide +kernel) (by decide) ?_
  exact t_A_law_1260 C hn hX hr hst hZ hSX hb hk23 _ _
def f_A_law_705 (Ln : Nat) (xs9 : Nat → Int32) (k23 : Int → Wd → Option (Int × Wd)) (v4 : Int) (w : Wd) : Option (Int × Wd) :=
  jgd ((0 : Int) ≤ (w32 (v4 + 1)) ∧ (w32 (v4 + 1)) < (Ln : Int)) <|
  jcall (f_E_most ((xs9 (w32 (v4 + 1)).toNat).toInt) w) fun r75 u76 =>
  jgd ((0 : Int) ≤ (w32 (v4 + 1)) ∧ (w32 (v4 + 1)) < (Ln : Int)) <|
  jcall (f_R_most ((xs9 (w32 (v4 + 1)).toNat).toInt) u76) fun r77 u78 =>
  f_A_law_1260 Ln xs9 k23 v4 u78
theorem t_A_law_705 {X : jX} {Qf : Int × Wd → State → Prop} {ad : Nat → Nat} {sbI : Int} {Ln : Nat} {xs9 : Nat → Int32} (C : Cx X code "EachBringsAnotherLaw") (hn : xn X = 7) (hX : LX X sbI Ln xs9) (hr : RtL X Qf ad code) (hst : (xl X).stackTraces = false) (hZ : ZX (xA X) (xs X)) (hSX : SX (xs X)) {f k n : Nat} (hB : LB X (f + 1) k n) {k23 : Int → Wd → Option (Int × Wd)} (hk23 : ∀ (k n : Nat) (v4 : Int) (w : Wd), LB X f k n → VF X Qf ad NF k n w 23 [(0, (3, sbI)), (1, (2, 1)), (2, (2, 44)), (3, (2, 83)), (4, (0, v4))] [] (k23 v4 w)) (v4 : Int) (w : Wd) : VF X Qf ad NF k n w 705 [(0, (3, sbI)), (1, (2, 1)), (2, (2, 44)), (3, (2, 83)), (4, (0, v4))] [] (f_A_law_705 Ln xs9 k23 v4 w) := by
  have hb := hB.s
  have hb1 := hB.t
  unfold f_A_law_705
  refine vf_aload_n C (f := 1) (by decide +kernel) 1 rfl rfl ?_
  refine vf_aload3_n C (f := 0) (by decide +kernel) 0 rfl rfl ?_
  refine vf_iload C (by decide +kernel) 4 rfl ?_
  refine vf_iconst C (z := 1) (by decide +kernel) (jz rfl) ?_
  refine vf_iadd C (by decide +kernel) ?_
  refine vf_xld C hX (by decide +kernel) ?_
  refine vf_callVi C cy_E_most ml_A_102 rfl (ct_E_most _ _) (S := []) sh_0 (by decide) rfl (lb_jrm hb rfl) rfl rfl (Nat.le_of_ble_eq_true rfl) (by decide +kernel) (fun r75 u76 => ?_)
  refine vf_pop C (by decide +kernel) Nat.zero_ne_one ?_
  refine vf_aload_n C (f := 2) (by decide +kernel) 2 rfl rfl ?_
  refine vf_aload3_n C (f := 0) (by decide +kernel) 0 rfl rfl ?_
  refine vf_iload C (by decide +kernel) 4 rfl ?_
  refine vf_iconst C (z := 1) (by decide +kernel) (jz rfl) ?_
  refine vf_iadd C (by decide +kernel) ?_
  refine vf_xld C hX (by decide +kernel) ?_
  refine vf_callVi C cy_R_most ml_A_105 rfl (ct_R_most _ _) (S := []) sh_43 (by decide) rfl (lb_jrm hb rfl) rfl rfl (Nat.le_of_ble_eq_true rfl) (by decide +kernel) (fun r77 u78 => ?_)
  refine vf_pop C (by decide +kernel) Nat.zero_ne_one ?_
  refine vf_goto C (off := 533) (tgt := 1260) (by decide +kernel) (by decide) ?_
  exact t_A_law_1260 C hn hX hr hst hZ hSX hb hk23 _ _
def f_A_law_730 (Ln : Nat) (xs9 : Nat → Int32) (k23 : Int → Wd → Option (Int × Wd)) (v4 : Int) (w : Wd) : Option (Int × Wd) :=
  jgd ((0 : Int) ≤ (w32 (v4 + 1)) ∧ (w32 (v4 + 1)) < (Ln : Int)) <|
  jcall (f_E_reach ((xs9 (w32 (v4 + 1)).toNat).toInt) w) fun r79 u80 =>
  jgd ((0 : Int) ≤ (w32 (v4 + 1)) ∧ (w32 (v4 + 1)) < (Ln : Int)) <|
  jcall (f_R_reach ((xs9 (w32 (v4 + 1)).toNat).toInt) u80) fun r81 u82 =>
  f_A_law_1260 Ln xs9 k23 v4 u82
theorem t_A_law_730 {X : jX} {Qf : Int × Wd → State → Prop} {ad : Nat → Nat} {sbI : Int} {Ln : Nat} {xs9 : Nat → Int32} (C : Cx X code "EachBringsAnotherLaw") (hn : xn X = 7) (hX : LX X sbI Ln xs9) (hr : RtL X Qf ad code) (hst : (xl X).stackTraces = false) (hZ : ZX (xA X) (xs X)) (hSX : SX (xs X)) {f k n : Nat} (hB : LB X (f + 1) k n) {k23 : Int → Wd → Option (Int × Wd)} (hk23 : ∀ (k n : Nat) (v4 : Int) (w : Wd), LB X f k n → VF X Qf ad NF k n w 23 [(0, (3, sbI)), (1, (2, 1)), (2, (2, 44)), (3, (2, 83)), (4, (0, v4))] [] (k23 v4 w)) (v4 : Int) (w : Wd) : VF X Qf ad NF k n w 730 [(0, (3, sbI)), (1, (2, 1)), (2, (2, 44)), (3, (2, 83)), (4, (0, v4))] [] (f_A_law_730 Ln xs9 k23 v4 w) := by
  have hb := hB.s
  have hb1 := hB.t
  unfold f_A_law_730
  refine vf_aload_n C (f := 1) (by decide +kernel) 1 rfl rfl ?_
  refine vf_aload3_n C (f := 0) (by decide +kernel) 0 rfl rfl ?_
  refine vf_iload C (by decide +kernel) 4 rfl ?_
  refine vf_iconst C (z := 1) (by decide +kernel) (jz rfl) ?_
  refine vf_iadd C (by decide +kernel) ?_
  refine vf_xld C hX (by decide +kernel) ?_
  refine vf_callVi C cy_E_reach ml_A_106 rfl (ct_E_reach _ _) (S := []) sh_0 (by decide) rfl (lb_jrm hb rfl) rfl rfl (Nat.le_of_ble_eq_true rfl) (by decide +kernel) (fun r79 u80 => ?_)
  refine vf_pop C (by decide +kernel) Nat.zero_ne_one ?_
  refine vf_aload_n C (f := 2) (by decide +kernel) 2 rfl rfl ?_
  refine vf_aload3_n C (f := 0) (by decide +kernel) 0 rfl rfl ?_
  refine vf_iload C (by decide +kernel) 4 rfl ?_
  refine vf_iconst C (z := 1) (by decide +kernel) (jz rfl) ?_
  refine vf_iadd C (by decide +kernel) ?_
  refine vf_xld C hX (by decide +kernel) ?_
  refine vf_callVi C cy_R_reach ml_A_109 rfl (ct_R_reach _ _) (S := []) sh_43 (by decide) rfl (lb_jrm hb rfl) rfl rfl (Nat.le_of_ble_eq_true rfl) (by decide +kernel) (fun r81 u82 => ?_)
  refine vf_pop C (by decide +kernel) Nat.zero_ne_one ?_
  refine vf_goto C (off := 508) (tgt := 1260) (by decide +kernel) (by decide) ?_
  exact t_A_law_1260 C hn hX hr hst hZ hSX hb hk23 _ _
def f_A_law_755 (Ln : Nat) (xs9 : Nat → Int32) (k23 : Int → Wd → Option (Int × Wd)) (v4 : Int) (w : Wd) : Option (Int × Wd) :=
  jgd ((0 : Int) ≤ (w32 (v4 + 1)) ∧ (w32 (v4 + 1)) < (Ln : Int)) <|
  jcall (f_E_fewest ((xs9 (w32 (v4 + 1)).toNat).toInt) w) fun r83 u84 =>
  jgd ((0 : Int) ≤ (w32 (v4 + 1)) ∧ (w32 (v4 + 1)) < (Ln : Int)) <|
  jcall (f_R_fewest ((xs9 (w32 (v4 + 1)).toNat).toInt) u84) fun r85 u86 =>
  f_A_law_1260 Ln xs9 k23 v4 u86
theorem t_A_law_755 {X : jX} {Qf : Int × Wd → State → Prop} {ad : Nat → Nat} {sbI : Int} {Ln : Nat} {xs9 : Nat → Int32} (C : Cx X code "EachBringsAnotherLaw") (hn : xn X = 7) (hX : LX X sbI Ln xs9) (hr : RtL X Qf ad code) (hst : (xl X).stackTraces = false) (hZ : ZX (xA X) (xs X)) (hSX : SX (xs X)) {f k n : Nat} (hB : LB X (f + 1) k n) {k23 : Int → Wd → Option (Int × Wd)} (hk23 : ∀ (k n : Nat) (v4 : Int) (w : Wd), LB X f k n → VF X Qf ad NF k n w 23 [(0, (3, sbI)), (1, (2, 1)), (2, (2, 44)), (3, (2, 83)), (4, (0, v4))] [] (k23 v4 w)) (v4 : Int) (w : Wd) : VF X Qf ad NF k n w 755 [(0, (3, sbI)), (1, (2, 1)), (2, (2, 44)), (3, (2, 83)), (4, (0, v4))] [] (f_A_law_755 Ln xs9 k23 v4 w) := by
  have hb := hB.s
  have hb1 := hB.t
  unfold f_A_law_755
  refine vf_aload_n C (f := 1) (by decide +kernel) 1 rfl rfl ?_
  refine vf_aload3_n C (f := 0) (by decide +kernel) 0 rfl rfl ?_
  refine vf_iload C (by decide +kernel) 4 rfl ?_
  refine vf_iconst C (z := 1) (by decide +kernel) (jz rfl) ?_
  refine vf_iadd C (by decide +kernel) ?_
  refine vf_xld C hX (by decide +kernel) ?_
  refine vf_callVi C cy_E_fewest ml_A_110 rfl (ct_E_fewest _ _) (S := []) sh_0 (by decide) rfl (lb_jrm hb rfl) rfl rfl (Nat.le_of_ble_eq_true rfl) (by decide +kernel) (fun r83 u84 => ?_)
  refine vf_pop C (by decide +kernel) Nat.zero_ne_one ?_
  refine vf_aload_n C (f := 2) (by decide +kernel) 2 rfl rfl ?_
  refine vf_aload3_n C (f := 0) (by decide +kernel) 0 rfl rfl ?_
  refine vf_iload C (by decide +kernel) 4 rfl ?_
  refine vf_iconst C (z := 1) (by decide +kernel) (jz rfl) ?_
  refine vf_iadd C (by decide +kernel) ?_
  refine vf_xld C hX (by decide +kernel) ?_
  refine vf_callVi C cy_R_fewest ml_A_113 rfl (ct_R_fewest _ _) (S := []) sh_43 (by decide) rfl (lb_jrm hb rfl) rfl rfl (Nat.le_of_ble_eq_true rfl) (by decide +kernel) (fun r85 u86 => ?_)
  refine vf_pop C (by decide +kernel) Nat.zero_ne_one ?_
  refine vf_goto C (off := 483) (tgt := 1260) (by decide +kernel) (by decide) ?_
  exact t_A_law_1260 C hn hX hr hst hZ hSX hb hk23 _ _
def f_A_law_780 (Ln : Nat) (xs9 : Nat → Int32) (k23 : Int → Wd → Option (Int × Wd)) (v4 : Int) (w : Wd) : Option (Int × Wd) :=
  jcall (f_E_crowd w) fun r87 u88 =>
  jcall (f_R_crowd u88) fun r89 u90 =>
  f_A_law_1260 Ln xs9 k23 v4 u90
theorem t_A_law_780 {X : jX} {Qf : Int × Wd → State → Prop} {ad : Nat → Nat} {sbI : Int} {Ln : Nat} {xs9 : Nat → Int32} (C : Cx X code "EachBringsAnotherLaw") (hn : xn X = 7) (hX : LX X sbI Ln xs9) (hr : RtL X Qf ad code) (hst : (xl X).stackTraces = false) (hZ : ZX (xA X) (xs X)) (hSX : SX (xs X)) {f k n : Nat} (hB : LB X (f + 1) k n) {k23 : Int → Wd → Option (Int × Wd)} (hk23 : ∀ (k n : Nat) (v4 : Int) (w : Wd), LB X f k n → VF X Qf ad NF k n w 23 [(0, (3, sbI)), (1, (2, 1)), (2, (2, 44)), (3, (2, 83)), (4, (0, v4))] [] (k23 v4 w)) (v4 : Int) (w : Wd) : VF X Qf ad NF k n w 780 [(0, (3, sbI)), (1, (2, 1)), (2, (2, 44)), (3, (2, 83)), (4, (0, v4))] [] (f_A_law_780 Ln xs9 k23 v4 w) := by
  have hb := hB.s
  have hb1 := hB.t
  unfold f_A_law_780
  refine vf_aload_n C (f := 1) (by decide +kernel) 1 rfl rfl ?_
  refine vf_callVi C cy_E_crowd ml_A_114 rfl (ct_E_crowd _) (S := []) sh_0 (by decide) rfl (lb_jrm hb rfl) rfl rfl (Nat.le_of_ble_eq_true rfl) (by decide +kernel) (fun r87 u88 => ?_)
  refine vf_pop C (by decide +kernel) Nat.zero_ne_one ?_
  refine vf_aload_n C (f := 2) (by decide +kernel) 2 rfl rfl ?_
  refine vf_callVi C cy_R_crowd ml_A_117 rfl (ct_R_crowd _) (S := []) sh_43 (by decide) rfl (lb_jrm hb rfl) rfl rfl (Nat.le_of_ble_eq_true rfl) (by decide +kernel) (fun r89 u90 => ?_)
  refine vf_pop C (by decide +kernel) Nat.zero_ne_one ?_
  refine vf_goto C (off := 470) (tgt := 1260) (by decide +kernel) (by decide) ?_
  exact t_A_law_1260 C hn hX hr hst hZ hSX hb hk23 _ _
def f_A_law_793 (Ln : Nat) (xs9 : Nat → Int32) (k23 : Int → Wd → Option (Int × Wd)) (v4 : Int) (w : Wd) : Option (Int × Wd) :=
  jgd ((0 : Int) ≤ (w32 (v4 + 1)) ∧ (w32 (v4 + 1)) < (Ln : Int)) <|
  jgd ((0 : Int) ≤ (w32 (v4 + 2)) ∧ (w32 (v4 + 2)) < (Ln : Int)) <|
  jgd ((0 : Int) ≤ (w32 (v4 + 3)) ∧ (w32 (v4 + 3)) < (Ln : Int)) <|
  jcall (f_E_both ((xs9 (w32 (v4 + 1)).toNat).toInt) ((xs9 (w32 (v4 + 2)).toNat).toInt) ((xs9 (w32 (v4 + 3)).toNat).toInt) w) fun r91 u92 =>
  jgd ((0 : Int) ≤ (w32 (v4 + 1)) ∧ (w32 (v4 + 1)) < (Ln : Int)) <|
  jgd ((0 : Int) ≤ (w32 (v4 + 2)) ∧ (w32 (v4 + 2)) < (Ln : Int)) <|
  jgd ((0 : Int) ≤ (w32 (v4 + 3)) ∧ (w32 (v4 + 3)) < (Ln : Int)) <|
  jcall (f_R_both ((xs9 (w32 (v4 + 1)).toNat).toInt) ((xs9 (w32 (v4 + 2)).toNat).toInt) ((xs9 (w32 (v4 + 3)).toNat).toInt) u92) fun r93 u94 =>
  f_A_law_1260 Ln xs9 k23 v4 u94
theorem t_A_law_793 {X : jX} {Qf : Int × Wd → State → Prop} {ad : Nat → Nat} {sbI : Int} {Ln : Nat} {xs9 : Nat → Int32} (C : Cx X code "EachBringsAnotherLaw") (hn : xn X = 7) (hX : LX X sbI Ln xs9) (hr : RtL X Qf ad code) (hst : (xl X).stackTraces = false) (hZ : ZX (xA X) (xs X)) (hSX : SX (xs X)) {f k n : Nat} (hB : LB X (f + 1) k n) {k23 : Int → Wd → Option (Int × Wd)} (hk23 : ∀ (k n : Nat) (v4 : Int) (w : Wd), LB X f k n → VF X Qf ad NF k n w 23 [(0, (3, sbI)), (1, (2, 1)), (2, (2, 44)), (3, (2, 83)), (4, (0, v4))] [] (k23 v4 w)) (v4 : Int) (w : Wd) : VF X Qf ad NF k n w 793 [(0, (3, sbI)), (1, (2, 1)), (2, (2, 44)), (3, (2, 83)), (4, (0, v4))] [] (f_A_law_793 Ln xs9 k23 v4 w) := by
  have hb := hB.s
  have hb1 := hB.t
  unfold f_A_law_793
  refine vf_aload_n C (f := 1) (by decide +kernel) 1 rfl rfl ?_
  refine vf_aload3_n C (f := 0) (by decide +kernel) 0 rfl rfl ?_
  refine vf_iload C (by decide +kernel) 4 rfl ?_
  refine vf_iconst C (z := 1) (by decide +kernel) (jz rfl) ?_
  refine vf_iadd C (by decide +kernel) ?_
  refine vf_xld C hX (by decide +kernel) ?_
  refine vf_aload3_n C (f := 0) (by decide +kernel) 0 rfl rfl ?_
  refine vf_iload C (by decide +kernel) 4 rfl ?_
  refine vf_iconst C (z := 2) (by decide +kernel) (jz rfl) ?_
  refine vf_iadd C (by decide +kernel) ?_
  refine vf_xld C hX (by decide +kernel) ?_
  refine vf_aload3_n C (f := 0) (by decide +kernel) 0 rfl rfl ?_
  refine vf_iload C (by decide +kernel) 4 rfl ?_
  refine vf_iconst C (z := 3) (by decide +kernel) (jz rfl) ?_
  refine vf_iadd C (by decide +kernel) ?_
  refine vf_xld C hX (by decide +kernel) ?_
  refine vf_callVi C cy_E_both ml_A_118 rfl (ct_E_both _ _ _ _) (S := []) sh_0 (by decide) rfl (lb_jrm hb rfl) rfl rfl (Nat.le_of_ble_eq_true rfl) (by decide +kernel) (fun r91 u92 => ?_)
  refine vf_pop C (by decide +kernel) Nat.zero_ne_one ?_
  refine vf_aload_n C (f := 2) (by decide +kernel) 2 rfl rfl ?_
  refine vf_aload3_n C (f := 0) (by decide +kernel) 0 rfl rfl ?_
  refine vf_iload C (by decide +kernel) 4 rfl ?_
  refine vf_iconst C (z := 1) (by decide +kernel) (jz rfl) ?_
  refine vf_iadd C (by decide +kernel) ?_
  refine vf_xld C hX (by decide +kernel) ?_
  refine vf_aload3_n C (f := 0) (by decide +kernel) 0 rfl rfl ?_
  refine vf_iload C (by decide +kernel) 4 rfl ?_
  refine vf_iconst C (z := 2) (by decide +kernel) (jz rfl) ?_
  refine vf_iadd C (by decide +kernel) ?_
  refine vf_xld C hX (by decide +kernel) ?_
  refine vf_aload3_n C (f := 0) (by decide +kernel) 0 rfl rfl ?_
  refine vf_iload C (by decide +kernel) 4 rfl ?_
  refine vf_iconst C (z := 3) (by decide +kernel) (jz rfl) ?_
  refine vf_iadd C (by decide +kernel) ?_
  refine vf_xld C hX (by decide +kernel) ?_
  refine vf_callVi C cy_R_both ml_A_122 rfl (ct_R_both _ _ _ _) (S := []) sh_43 (by decide) rfl (lb_jrm hb rfl) rfl rfl (Nat.le_of_ble_eq_true rfl) (by decide +kernel) (fun r93 u94 => ?_)
  refine vf_pop C (by decide +kernel) Nat.zero_ne_one ?_
  refine vf_goto C (off := 421) (tgt := 1260) (by decide +kernel) (by decide) ?_
  exact t_A_law_1260 C hn hX hr hst hZ hSX hb hk23 _ _
def f_A_law_842 (Ln : Nat) (xs9 : Nat → Int32) (k23 : Int → Wd → Option (Int × Wd)) (v4 : Int) (w : Wd) : Option (Int × Wd) :=
  jcall (f_E_last w) fun r95 u96 =>
  jcall (f_R_last u96) fun r97 u98 =>
  f_A_law_1260 Ln xs9 k23 v4 u98
theorem t_A_law_842 {X : jX} {Qf : Int × Wd → State → Prop} {ad : Nat → Nat} {sbI : Int} {Ln : Nat} {xs9 : Nat → Int32} (C : Cx X code "EachBringsAnotherLaw") (hn : xn X = 7) (hX : LX X sbI Ln xs9) (hr : RtL X Qf ad code) (hst : (xl X).stackTraces = false) (hZ : ZX (xA X) (xs X)) (hSX : SX (xs X)) {f k n : Nat} (hB : LB X (f + 1) k n) {k23 : Int → Wd → Option (Int × Wd)} (hk23 : ∀ (k n : Nat) (v4 : Int) (w : Wd), LB X f k n → VF X Qf ad NF k n w 23 [(0, (3, sbI)), (1, (2, 1)), (2, (2, 44)), (3, (2, 83)), (4, (0, v4))] [] (k23 v4 w)) (v4 : Int) (w : Wd) : VF X Qf ad NF k n w 842 [(0, (3, sbI)), (1, (2, 1)), (2, (2, 44)), (3, (2, 83)), (4, (0, v4))] [] (f_A_law_842 Ln xs9 k23 v4 w) := by
  have hb := hB.s
  have hb1 := hB.t
  unfold f_A_law_842
  refine vf_aload_n C (f := 1) (by decide +kernel) 1 rfl rfl ?_
  refine vf_callVi C cy_E_last ml_A_123 rfl (ct_E_last _) (S := []) sh_0 (by decide) rfl (lb_jrm hb rfl) rfl rfl (Nat.le_of_ble_eq_true rfl) (by decide +kernel) (fun r95 u96 => ?_)
  refine vf_pop C (by decide +kernel) Nat.zero_ne_one ?_
  refine vf_aload_n C (f := 2) (by decide +kernel) 2 rfl rfl ?_
  refine vf_callVi C cy_R_last ml_A_126 rfl (ct_R_last _) (S := []) sh_43 (by decide) rfl (lb_jrm hb rfl) rfl rfl (Nat.le_of_ble_eq_true rfl) (by decide +kernel) (fun r97 u98 => ?_)
  refine vf_pop C (by decide +kernel) Nat.zero_ne_one ?_
  refine vf_goto C (off := 408) (tgt := 1260) (by decide +kernel) (by decide) ?_
  exact t_A_law_1260 C hn hX hr hst hZ hSX hb hk23 _ _
def f_A_law_855 (Ln : Nat) (xs9 : Nat → Int32) (k23 : Int → Wd → Option (Int × Wd)) (v4 : Int) (w : Wd) : Option (Int × Wd) :=
  jcall (f_E_begin w) fun r99 u100 =>
  jcall (f_R_begin2 u100) fun r101 u102 =>
  f_A_law_1260 Ln xs9 k23 v4 u102
theorem t_A_law_855 {X : jX} {Qf : Int × Wd → State → Prop} {ad : Nat → Nat} {sbI : Int} {Ln : Nat} {xs9 : Nat → Int32} (C : Cx X code "EachBringsAnotherLaw") (hn : xn X = 7) (hX : LX X sbI Ln xs9) (hr : RtL X Qf ad code) (hst : (xl X).stackTraces = false) (hZ : ZX (xA X) (xs X)) (hSX : SX (xs X)) {f k n : Nat} (hB : LB X (f + 1) k n) {k23 : Int → Wd → Option (Int × Wd)} (hk23 : ∀ (k n : Nat) (v4 : Int) (w : Wd), LB X f k n → VF X Qf ad NF k n w 23 [(0, (3, sbI)), (1, (2, 1)), (2, (2, 44)), (3, (2, 83)), (4, (0, v4))] [] (k23 v4 w)) (v4 : Int) (w : Wd) : VF X Qf ad NF k n w 855 [(0, (3, sbI)), (1, (2, 1)), (2, (2, 44)), (3, (2, 83)), (4, (0, v4))] [] (f_A_law_855 Ln xs9 k23 v4 w) := by
  have hb := hB.s
  have hb1 := hB.t
  unfold f_A_law_855
  refine vf_aload_n C (f := 1) (by decide +kernel) 1 rfl rfl ?_
  refine vf_callVi C cy_E_begin ml_A_127 rfl (ct_E_begin _) (S := []) sh_0 (by decide) rfl (lb_jrm hb rfl) rfl rfl (Nat.le_of_ble_eq_true rfl) (by decide +kernel) (fun r99 u100 => ?_)
  refine vf_pop C (by decide +kernel) Nat.zero_ne_one ?_
  refine vf_aload_n C (f := 2) (by decide +kernel) 2 rfl rfl ?_
  refine vf_callVi C cy_R_begin2 ml_A_130 rfl (ct_R_begin2 _) (S := []) sh_43 (by decide) rfl (lb_jrm hb rfl) rfl rfl (Nat.le_of_ble_eq_true rfl) (by decide +kernel) (fun r101 u102 => ?_)
  refine vf_pop C (by decide +kernel) Nat.zero_ne_one ?_
  refine vf_goto C (off := 395) (tgt := 1260) (by decide +kernel) (by decide) ?_
  exact t_A_law_1260 C hn hX hr hst hZ hSX hb hk23 _ _
def f_A_law_868 (Ln : Nat) (xs9 : Nat → Int32) (k23 : Int → Wd → Option (Int × Wd)) (v4 : Int) (w : Wd) : Option (Int × Wd) :=
  jgd ((0 : Int) ≤ (w32 (v4 + 1)) ∧ (w32 (v4 + 1)) < (Ln : Int)) <|
  jcall (f_E_cheap ((xs9 (w32 (v4 + 1)).toNat).toInt) w) fun r103 u104 =>
  jgd ((0 : Int) ≤ (w32 (v4 + 1)) ∧ (w32 (v4 + 1)) < (Ln : Int)) <|
  jcall (f_R_cheap ((xs9 (w32 (v4 + 1)).toNat).toInt) u104) fun r105 u106 =>
  f_A_law_1260 Ln xs9 k23 v4 u106
theorem t_A_law_868 {X : jX} {Qf : Int × Wd → State → Prop} {ad : Nat → Nat} {sbI : Int} {Ln : Nat} {xs9 : Nat → Int32} (C : Cx X code "EachBringsAnotherLaw") (hn : xn X = 7) (hX : LX X sbI Ln xs9) (hr : RtL X Qf ad code) (hst : (xl X).stackTraces = false) (hZ : ZX (xA X) (xs X)) (hSX : SX (xs X)) {f k n : Nat} (hB : LB X (f + 1) k n) {k23 : Int → Wd → Option (Int × Wd)} (hk23 : ∀ (k n : Nat) (v4 : Int) (w : Wd), LB X f k n → VF X Qf ad NF k n w 23 [(0, (3, sbI)), (1, (2, 1)), (2, (2, 44)), (3, (2, 83)), (4, (0, v4))] [] (k23 v4 w)) (v4 : Int) (w : Wd) : VF X Qf ad NF k n w 868 [(0, (3, sbI)), (1, (2, 1)), (2, (2, 44)), (3, (2, 83)), (4, (0, v4))] [] (f_A_law_868 Ln xs9 k23 v4 w) := by
  have hb := hB.s
  have hb1 := hB.t
  unfold f_A_law_868
  refine vf_aload_n C (f := 1) (by decide +kernel) 1 rfl rfl ?_
  refine vf_aload3_n C (f := 0) (by decide +kernel) 0 rfl rfl ?_
  refine vf_iload C (by decide +kernel) 4 rfl ?_
  refine vf_iconst C (z := 1) (by decide +kernel) (jz rfl) ?_
  refine vf_iadd C (by decide +kernel) ?_
  refine vf_xld C hX (by decide +kernel) ?_
  refine vf_callVi C cy_E_cheap ml_A_131 rfl (ct_E_cheap _ _) (S := []) sh_0 (by decide) rfl (lb_jrm hb rfl) rfl rfl (Nat.le_of_ble_eq_true rfl) (by decide +kernel) (fun r103 u104 => ?_)
  refine vf_pop C (by decide +kernel) Nat.zero_ne_one ?_
  refine vf_aload_n C (f := 2) (by decide +kernel) 2 rfl rfl ?_
  refine vf_aload3_n C (f := 0) (by decide +kernel) 0 rfl rfl ?_
  refine vf_iload C (by decide +kernel) 4 rfl ?_
  refine vf_iconst C (z := 1) (by decide +kernel) (jz rfl) ?_
  refine vf_iadd C (by decide +kernel) ?_
  refine vf_xld C hX (by decide +kernel) ?_
  refine vf_callVi C cy_R_cheap ml_A_134 rfl (ct_R_cheap _ _) (S := []) sh_43 (by decide) rfl (lb_jrm hb rfl) rfl rfl (Nat.le_of_ble_eq_true rfl) (by decide +kernel) (fun r105 u106 => ?_)
  refine vf_pop C (by decide +kernel) Nat.zero_ne_one ?_
  refine vf_goto C (off := 370) (tgt := 1260) (by decide +kernel) (by decide) ?_
  exact t_A_law_1260 C hn hX hr hst hZ hSX hb hk23 _ _
def f_A_law_893 (Ln : Nat) (xs9 : Nat → Int32) (k23 : Int → Wd → Option (Int × Wd)) (v4 : Int) (w : Wd) : Option (Int × Wd) :=
  jgd ((0 : Int) ≤ (w32 (v4 + 1)) ∧ (w32 (v4 + 1)) < (Ln : Int)) <|
  jcall (f_E_stays ((xs9 (w32 (v4 + 1)).toNat).toInt) w) fun r107 u108 =>
  jgd ((0 : Int) ≤ (w32 (v4 + 1)) ∧ (w32 (v4 + 1)) < (Ln : Int)) <|
  jcall (f_R_stays ((xs9 (w32 (v4 + 1)).toNat).toInt) u108) fun r109 u110 =>
  f_A_law_1260 Ln xs9 k23 v4 u110
theorem t_A_law_893 {X : jX} {Qf : Int × Wd → State → Prop} {ad : Nat → Nat} {sbI : Int} {Ln : Nat} {xs9 : Nat → Int32} (C : Cx X code "EachBringsAnotherLaw") (hn : xn X = 7) (hX : LX X sbI Ln xs9) (hr : RtL X Qf ad code) (hst : (xl X).stackTraces = false) (hZ : ZX (xA X) (xs X)) (hSX : SX (xs X)) {f k n : Nat} (hB : LB X (f + 1) k n) {k23 : Int → Wd → Option (Int × Wd)} (hk23 : ∀ (k n : Nat) (v4 : Int) (w : Wd), LB X f k n → VF X Qf ad NF k n w 23 [(0, (3, sbI)), (1, (2, 1)), (2, (2, 44)), (3, (2, 83)), (4, (0, v4))] [] (k23 v4 w)) (v4 : Int) (w : Wd) : VF X Qf ad NF k n w 893 [(0, (3, sbI)), (1, (2, 1)), (2, (2, 44)), (3, (2, 83)), (4, (0, v4))] [] (f_A_law_893 Ln xs9 k23 v4 w) := by
  have hb := hB.s
  have hb1 := hB.t
  unfold f_A_law_893
  refine vf_aload_n C (f := 1) (by decide +kernel) 1 rfl rfl ?_
  refine vf_aload3_n C (f := 0) (by decide +kernel) 0 rfl rfl ?_
  refine vf_iload C (by decide +kernel) 4 rfl ?_
  refine vf_iconst C (z := 1) (by decide +kernel) (jz rfl) ?_
  refine vf_iadd C (by decide +kernel) ?_
  refine vf_xld C hX (by decide +kernel) ?_
  refine vf_callVi C cy_E_stays ml_A_135 rfl (ct_E_stays _ _) (S := []) sh_0 (by decide) rfl (lb_jrm hb rfl) rfl rfl (Nat.le_of_ble_eq_true rfl) (by decide +kernel) (fun r107 u108 => ?_)
  refine vf_pop C (by decide +kernel) Nat.zero_ne_one ?_
  refine vf_aload_n C (f := 2) (by decide +kernel) 2 rfl rfl ?_
  refine vf_aload3_n C (f := 0) (by decide +kernel) 0 rfl rfl ?_
  refine vf_iload C (by decide +kernel) 4 rfl ?_
  refine vf_iconst C (z := 1) (by decide +kernel) (jz rfl) ?_
  refine vf_iadd C (by decide +kernel) ?_
  refine vf_xld C hX (by decide +kernel) ?_
  refine vf_callVi C cy_R_stays ml_A_138 rfl (ct_R_stays _ _) (S := []) sh_43 (by decide) rfl (lb_jrm hb rfl) rfl rfl (Nat.le_of_ble_eq_true rfl) (by decide +kernel) (fun r109 u110 => ?_)
  refine vf_pop C (by decide +kernel) Nat.zero_ne_one ?_
  refine vf_goto C (off := 345) (tgt := 1260) (by decide +kernel) (by decide) ?_
  exact t_A_law_1260 C hn hX hr hst hZ hSX hb hk23 _ _
def f_A_law_918 (Ln : Nat) (xs9 : Nat → Int32) (k23 : Int → Wd → Option (Int × Wd)) (v4 : Int) (w : Wd) : Option (Int × Wd) :=
  jgd ((0 : Int) ≤ (w32 (v4 + 1)) ∧ (w32 (v4 + 1)) < (Ln : Int)) <|
  jcall (f_E_soonest ((xs9 (w32 (v4 + 1)).toNat).toInt) w) fun r111 u112 =>
  jgd ((0 : Int) ≤ (w32 (v4 + 1)) ∧ (w32 (v4 + 1)) < (Ln : Int)) <|
  jcall (f_R_soonest ((xs9 (w32 (v4 + 1)).toNat).toInt) u112) fun r113 u114 =>
  f_A_law_1260 Ln xs9 k23 v4 u114
theorem t_A_law_918 {X : jX} {Qf : Int × Wd → State → Prop} {ad : Nat → Nat} {sbI : Int} {Ln : Nat} {xs9 : Nat → Int32} (C : Cx X code "EachBringsAnotherLaw") (hn : xn X = 7) (hX : LX X sbI Ln xs9) (hr : RtL X Qf ad code) (hst : (xl X).stackTraces = false) (hZ : ZX (xA X) (xs X)) (hSX : SX (xs X)) {f k n : Nat} (hB : LB X (f + 1) k n) {k23 : Int → Wd → Option (Int × Wd)} (hk23 : ∀ (k n : Nat) (v4 : Int) (w : Wd), LB X f k n → VF X Qf ad NF k n w 23 [(0, (3, sbI)), (1, (2, 1)), (2, (2, 44)), (3, (2, 83)), (4, (0, v4))] [] (k23 v4 w)) (v4 : Int) (w : Wd) : VF X Qf ad NF k n w 918 [(0, (3, sbI)), (1, (2, 1)), (2, (2, 44)), (3, (2, 83)), (4, (0, v4))] [] (f_A_law_918 Ln xs9 k23 v4 w) := by
  have hb := hB.s
  have hb1 := hB.t
  unfold f_A_law_918
  refine vf_aload_n C (f := 1) (by decide +kernel) 1 rfl rfl ?_
  refine vf_aload3_n C (f := 0) (by decide +kernel) 0 rfl rfl ?_
  refine vf_iload C (by decide +kernel) 4 rfl ?_
  refine vf_iconst C (z := 1) (by decide +kernel) (jz rfl) ?_
  refine vf_iadd C (by decide +kernel) ?_
  refine vf_xld C hX (by decide +kernel) ?_
  refine vf_callVi C cy_E_soonest ml_A_139 rfl (ct_E_soonest _ _) (S := []) sh_0 (by decide) rfl (lb_jrm hb rfl) rfl rfl (Nat.le_of_ble_eq_true rfl) (by decide +kernel) (fun r111 u112 => ?_)
  refine vf_pop C (by decide +kernel) Nat.zero_ne_one ?_
  refine vf_aload_n C (f := 2) (by decide +kernel) 2 rfl rfl ?_
  refine vf_aload3_n C (f := 0) (by decide +kernel) 0 rfl rfl ?_
  refine vf_iload C (by decide +kernel) 4 rfl ?_
  refine vf_iconst C (z := 1) (by decide +kernel) (jz rfl) ?_
  refine vf_iadd C (by decide +kernel) ?_
  refine vf_xld C hX (by decide +kernel) ?_
  refine vf_callVi C cy_R_soonest ml_A_142 rfl (ct_R_soonest _ _) (S := []) sh_43 (by decide) rfl (lb_jrm hb rfl) rfl rfl (Nat.le_of_ble_eq_true rfl) (by decide +kernel) (fun r113 u114 => ?_)
  refine vf_pop C (by decide +kernel) Nat.zero_ne_one ?_
  refine vf_goto C (off := 320) (tgt := 1260) (by decide +kernel) (by decide) ?_
  exact t_A_law_1260 C hn hX hr hst hZ hSX hb hk23 _ _
def f_A_law_943 (Ln : Nat) (xs9 : Nat → Int32) (k23 : Int → Wd → Option (Int × Wd)) (v4 : Int) (w : Wd) : Option (Int × Wd) :=
  jgd ((0 : Int) ≤ (w32 (v4 + 1)) ∧ (w32 (v4 + 1)) < (Ln : Int)) <|
  jcall (f_E_worth ((xs9 (w32 (v4 + 1)).toNat).toInt) w) fun r115 u116 =>
  jgd ((0 : Int) ≤ (w32 (v4 + 1)) ∧ (w32 (v4 + 1)) < (Ln : Int)) <|
  jcall (f_R_worth ((xs9 (w32 (v4 + 1)).toNat).toInt) u116) fun r117 u118 =>
  f_A_law_1260 Ln xs9 k23 v4 u118
theorem t_A_law_943 {X : jX} {Qf : Int × Wd → State → Prop} {ad : Nat → Nat} {sbI : Int} {Ln : Nat} {xs9 : Nat → Int32} (C : Cx X code "EachBringsAnotherLaw") (hn : xn X = 7) (hX : LX X sbI Ln xs9) (hr : RtL X Qf ad code) (hst : (xl X).stackTraces = false) (hZ : ZX (xA X) (xs X)) (hSX : SX (xs X)) {f k n : Nat} (hB : LB X (f + 1) k n) {k23 : Int → Wd → Option (Int × Wd)} (hk23 : ∀ (k n : Nat) (v4 : Int) (w : Wd), LB X f k n → VF X Qf ad NF k n w 23 [(0, (3, sbI)), (1, (2, 1)), (2, (2, 44)), (3, (2, 83)), (4, (0, v4))] [] (k23 v4 w)) (v4 : Int) (w : Wd) : VF X Qf ad NF k n w 943 [(0, (3, sbI)), (1, (2, 1)), (2, (2, 44)), (3, (2, 83)), (4, (0, v4))] [] (f_A_law_943 Ln xs9 k23 v4 w) := by
  have hb := hB.s
  have hb1 := hB.t
  unfold f_A_law_943
  refine vf_aload_n C (f := 1) (by decide +kernel) 1 rfl rfl ?_
  refine vf_aload3_n C (f := 0) (by decide +kernel) 0 rfl rfl ?_
  refine vf_iload C (by decide +kernel) 4 rfl ?_
  refine vf_iconst C (z := 1) (by decide +kernel) (jz rfl) ?_
  refine vf_iadd C (by decide +kernel) ?_
  refine vf_xld C hX (by decide +kernel) ?_
  refine vf_callVi C cy_E_worth ml_A_143 rfl (ct_E_worth _ _) (S := []) sh_0 (by decide) rfl (lb_jrm hb rfl) rfl rfl (Nat.le_of_ble_eq_true rfl) (by decide +kernel) (fun r115 u116 => ?_)
  refine vf_pop C (by decide +kernel) Nat.zero_ne_one ?_
  refine vf_aload_n C (f := 2) (by decide +kernel) 2 rfl rfl ?_
  refine vf_aload3_n C (f := 0) (by decide +kernel) 0 rfl rfl ?_
  refine vf_iload C (by decide +kernel) 4 rfl ?_
  refine vf_iconst C (z := 1) (by decide +kernel) (jz rfl) ?_
  refine vf_iadd C (by decide +kernel) ?_
  refine vf_xld C hX (by decide +kernel) ?_
  refine vf_callVi C cy_R_worth ml_A_146 rfl (ct_R_worth _ _) (S := []) sh_43 (by decide) rfl (lb_jrm hb rfl) rfl rfl (Nat.le_of_ble_eq_true rfl) (by decide +kernel) (fun r117 u118 => ?_)
  refine vf_pop C (by decide +kernel) Nat.zero_ne_one ?_
  refine vf_goto C (off := 295) (tgt := 1260) (by decide +kernel) (by decide) ?_
  exact t_A_law_1260 C hn hX hr hst hZ hSX hb hk23 _ _
