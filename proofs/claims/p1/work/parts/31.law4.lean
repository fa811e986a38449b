def f_A_law (Ln : Nat) (xs9 : Nat → Int32) : Nat → Int → Wd → Option (Int × Wd)
  | 0, _, _ => none
  | f + 1, v4, w =>
    if (w32 (((Ln : Int)) - 5)) < v4 then
      some (1, w)
    else
      jgd ((0 : Int) ≤ v4 ∧ v4 < (Ln : Int)) <|
      jlet (iand ((xs9 v4.toNat).toInt) 63) fun x1 =>
      if x1 < 0 ∨ 41 < x1 then
        f_A_law_1316 Ln xs9 (f_A_law Ln xs9 f) v4 w
      else
      if x1 = 0 then
        f_A_law_220 Ln xs9 (f_A_law Ln xs9 f) v4 w
      else
      if x1 = 1 then
        f_A_law_245 Ln xs9 (f_A_law Ln xs9 f) v4 w
      else
      if x1 = 2 then
        f_A_law_270 Ln xs9 (f_A_law Ln xs9 f) v4 w
      else
      if x1 = 3 then
        f_A_law_283 Ln xs9 (f_A_law Ln xs9 f) v4 w
      else
      if x1 = 4 then
        f_A_law_296 Ln xs9 (f_A_law Ln xs9 f) v4 w
      else
      if x1 = 5 then
        f_A_law_364 Ln xs9 (f_A_law Ln xs9 f) v4 w
      else
      if x1 = 6 then
        f_A_law_401 Ln xs9 (f_A_law Ln xs9 f) v4 w
      else
      if x1 = 7 then
        f_A_law_466 Ln xs9 (f_A_law Ln xs9 f) v4 w
      else
      if x1 = 8 then
        f_A_law_519 Ln xs9 (f_A_law Ln xs9 f) v4 w
      else
      if x1 = 9 then
        f_A_law_544 Ln xs9 (f_A_law Ln xs9 f) v4 w
      else
      if x1 = 10 then
        f_A_law_605 Ln xs9 (f_A_law Ln xs9 f) v4 w
      else
      if x1 = 11 then
        f_A_law_618 Ln xs9 (f_A_law Ln xs9 f) v4 w
      else
      if x1 = 12 then
        f_A_law_643 Ln xs9 (f_A_law Ln xs9 f) v4 w
      else
      if x1 = 13 then
        f_A_law_656 Ln xs9 (f_A_law Ln xs9 f) v4 w
      else
      if x1 = 14 then
        f_A_law_669 Ln xs9 (f_A_law Ln xs9 f) v4 w
      else
      if x1 = 15 then
        f_A_law_694 Ln xs9 (f_A_law Ln xs9 f) v4 w
      else
      if x1 = 16 then
        f_A_law_707 Ln xs9 (f_A_law Ln xs9 f) v4 w
      else
      if x1 = 17 then
        f_A_law_720 Ln xs9 (f_A_law Ln xs9 f) v4 w
      else
      if x1 = 18 then
        f_A_law_733 Ln xs9 (f_A_law Ln xs9 f) v4 w
      else
      if x1 = 19 then
        f_A_law_758 Ln xs9 (f_A_law Ln xs9 f) v4 w
      else
      if x1 = 20 then
        f_A_law_783 Ln xs9 (f_A_law Ln xs9 f) v4 w
      else
      if x1 = 21 then
        f_A_law_808 Ln xs9 (f_A_law Ln xs9 f) v4 w
      else
      if x1 = 22 then
        f_A_law_821 Ln xs9 (f_A_law Ln xs9 f) v4 w
      else
      if x1 = 23 then
        f_A_law_870 Ln xs9 (f_A_law Ln xs9 f) v4 w
      else
      if x1 = 24 then
        f_A_law_883 Ln xs9 (f_A_law Ln xs9 f) v4 w
      else
      if x1 = 25 then
        f_A_law_896 Ln xs9 (f_A_law Ln xs9 f) v4 w
      else
      if x1 = 26 then
        f_A_law_921 Ln xs9 (f_A_law Ln xs9 f) v4 w
      else
      if x1 = 27 then
        f_A_law_946 Ln xs9 (f_A_law Ln xs9 f) v4 w
      else
      if x1 = 28 then
        f_A_law_971 Ln xs9 (f_A_law Ln xs9 f) v4 w
      else
      if x1 = 29 then
        f_A_law_996 Ln xs9 (f_A_law Ln xs9 f) v4 w
      else
      if x1 = 30 then
        f_A_law_1009 Ln xs9 (f_A_law Ln xs9 f) v4 w
      else
      if x1 = 31 then
        f_A_law_1022 Ln xs9 (f_A_law Ln xs9 f) v4 w
      else
      if x1 = 32 then
        f_A_law_1035 Ln xs9 (f_A_law Ln xs9 f) v4 w
      else
      if x1 = 33 then
        f_A_law_1060 Ln xs9 (f_A_law Ln xs9 f) v4 w
      else
      if x1 = 34 then
        f_A_law_1085 Ln xs9 (f_A_law Ln xs9 f) v4 w
      else
      if x1 = 35 then
        f_A_law_1110 Ln xs9 (f_A_law Ln xs9 f) v4 w
      else
      if x1 = 36 then
        f_A_law_1135 Ln xs9 (f_A_law Ln xs9 f) v4 w
      else
      if x1 = 37 then
        f_A_law_1172 Ln xs9 (f_A_law Ln xs9 f) v4 w
      else
      if x1 = 38 then
        f_A_law_1185 Ln xs9 (f_A_law Ln xs9 f) v4 w
      else
      if x1 = 39 then
        f_A_law_1210 Ln xs9 (f_A_law Ln xs9 f) v4 w
      else
      if x1 = 40 then
        f_A_law_1235 Ln xs9 (f_A_law Ln xs9 f) v4 w
      else
      if x1 = 41 then
        f_A_law_1260 Ln xs9 (f_A_law Ln xs9 f) v4 w
      else
      none
theorem t_A_law {X : jX} {Qf : Int × Wd → State → Prop} {ad : Nat → Nat} {sbI : Int} {Ln : Nat} {xs9 : Nat → Int32} (C : Cx X code "EachBringsAnotherLaw") (hn : xn X = 7) (hX : LX X sbI Ln xs9) (hr : RtL X Qf ad code) (hst : (xl X).stackTraces = false) (hZ : ZX (xA X) (xs X)) (hSX : SX (xs X)) : ∀ (f k n : Nat) (v4 : Int) (w : Wd), LB X f k n → VF X Qf ad NF k n w 23 [(0, (3, sbI)), (1, (2, 1)), (2, (2, 44)), (3, (2, 83)), (4, (0, v4))] [] (f_A_law Ln xs9 f v4 w) := by
  intro f
  induction f with
  | zero => intros; exact vf_no
  | succ f ih =>
    intro k n v4 w hB
    have hb := hB.s
    rw [f_A_law]
    refine vf_iload C (by decide +kernel) 4 rfl ?_
    refine vf_aload3_n C (f := 0) (by decide +kernel) 0 rfl rfl ?_
    refine vf_xlen C hX (by decide +kernel) ?_
    refine vf_iconst C (z := 5) (by decide +kernel) (jz rfl) ?_
    refine vf_isub C (by decide +kernel) ?_
    refine vf_icmp_gt C (off := 1293) (tgt := 1322) (by decide +kernel) (by decide) ?_ ?_
    · refine vf_iconst C (z := 1) (by decide +kernel) (jz rfl) ?_
      exact hr _ _ _ _ _ _ hb (by decide +kernel)
    · refine vf_aload3_n C (f := 0) (by decide +kernel) 0 rfl rfl ?_
      refine vf_iload C (by decide +kernel) 4 rfl ?_
      refine vf_xld C hX (by decide +kernel) ?_
      refine vf_bipush C (z := 63) (by decide +kernel) (by decide +kernel) (jz rfl) ?_
      refine vf_iand C (by decide +kernel) ?_
      generalize iand ((xs9 v4.toNat).toInt) 63 = x1
      refine vf_ul ?_
      refine vf_if _ (fun h => ?_) (fun _ => ?_)
      · refine vf_swd C (tgt := 1316) dA_sw h (by decide) ?_
        exact t_A_law_1316 C hn hX hr hst hZ hSX hb ih _ _
      refine vf_if _ (fun h => ?_) (fun _ => ?_)
      · refine vf_swx C (z := 0) (off := 181) (tgt := 220) dA_sw h (by decide) (by decide) rfl (by decide) ?_
        exact t_A_law_220 C hn hX hr hst hZ hSX hB ih _ _
      refine vf_if _ (fun h => ?_) (fun _ => ?_)
      · refine vf_swx C (z := 1) (off := 206) (tgt := 245) dA_sw h (by decide) (by decide) rfl (by decide) ?_
        exact t_A_law_245 C hn hX hr hst hZ hSX hB ih _ _
      refine vf_if _ (fun h => ?_) (fun _ => ?_)
      · refine vf_swx C (z := 2) (off := 231) (tgt := 270) dA_sw h (by decide) (by decide) rfl (by decide) ?_
        exact t_A_law_270 C hn hX hr hst hZ hSX hB ih _ _
      refine vf_if _ (fun h => ?_) (fun _ => ?_)
      · refine vf_swx C (z := 3) (off := 244) (tgt := 283) dA_sw h (by decide) (by decide) rfl (by decide) ?_
        exact t_A_law_283 C hn hX hr hst hZ hSX hB ih _ _
      refine vf_if _ (fun h => ?_) (fun _ => ?_)
      · refine vf_swx C (z := 4) (off := 257) (tgt := 296) dA_sw h (by decide) (by decide) rfl (by decide) ?_
        exact t_A_law_296 C hn hX hr hst hZ hSX hB ih _ _
      refine vf_if _ (fun h => ?_) (fun _ => ?_)
      · refine vf_swx C (z := 5) (off := 325) (tgt := 364) dA_sw h (by decide) (by decide) rfl (by decide) ?_
        exact t_A_law_364 C hn hX hr hst hZ hSX hB ih _ _
      refine vf_if _ (fun h => ?_) (fun _ => ?_)
      · refine vf_swx C (z := 6) (off := 362) (tgt := 401) dA_sw h (by decide) (by decide) rfl (by decide) ?_
        exact t_A_law_401 C hn hX hr hst hZ hSX hB ih _ _
      refine vf_if _ (fun h => ?_) (fun _ => ?_)
      · refine vf_swx C (z := 7) (off := 427) (tgt := 466) dA_sw h (by decide) (by decide) rfl (by decide) ?_
        exact t_A_law_466 C hn hX hr hst hZ hSX hB ih _ _
      refine vf_if _ (fun h => ?_) (fun _ => ?_)
      · refine vf_swx C (z := 8) (off := 480) (tgt := 519) dA_sw h (by decide) (by decide) rfl (by decide) ?_
        exact t_A_law_519 C hn hX hr hst hZ hSX hB ih _ _
      refine vf_if _ (fun h => ?_) (fun _ => ?_)
      · refine vf_swx C (z := 9) (off := 505) (tgt := 544) dA_sw h (by decide) (by decide) rfl (by decide) ?_
        exact t_A_law_544 C hn hX hr hst hZ hSX hB ih _ _
      refine vf_if _ (fun h => ?_) (fun _ => ?_)
      · refine vf_swx C (z := 10) (off := 566) (tgt := 605) dA_sw h (by decide) (by decide) rfl (by decide) ?_
        exact t_A_law_605 C hn hX hr hst hZ hSX hB ih _ _
      refine vf_if _ (fun h => ?_) (fun _ => ?_)
      · refine vf_swx C (z := 11) (off := 579) (tgt := 618) dA_sw h (by decide) (by decide) rfl (by decide) ?_
        exact t_A_law_618 C hn hX hr hst hZ hSX hB ih _ _
      refine vf_if _ (fun h => ?_) (fun _ => ?_)
      · refine vf_swx C (z := 12) (off := 604) (tgt := 643) dA_sw h (by decide) (by decide) rfl (by decide) ?_
        exact t_A_law_643 C hn hX hr hst hZ hSX hB ih _ _
      refine vf_if _ (fun h => ?_) (fun _ => ?_)
      · refine vf_swx C (z := 13) (off := 617) (tgt := 656) dA_sw h (by decide) (by decide) rfl (by decide) ?_
        exact t_A_law_656 C hn hX hr hst hZ hSX hB ih _ _
      refine vf_if _ (fun h => ?_) (fun _ => ?_)
      · refine vf_swx C (z := 14) (off := 630) (tgt := 669) dA_sw h (by decide) (by decide) rfl (by decide) ?_
        exact t_A_law_669 C hn hX hr hst hZ hSX hB ih _ _
      refine vf_if _ (fun h => ?_) (fun _ => ?_)
      · refine vf_swx C (z := 15) (off := 655) (tgt := 694) dA_sw h (by decide) (by decide) rfl (by decide) ?_
        exact t_A_law_694 C hn hX hr hst hZ hSX hB ih _ _
      refine vf_if _ (fun h => ?_) (fun _ => ?_)
      · refine vf_swx C (z := 16) (off := 668) (tgt := 707) dA_sw h (by decide) (by decide) rfl (by decide) ?_
        exact t_A_law_707 C hn hX hr hst hZ hSX hB ih _ _
      refine vf_if _ (fun h => ?_) (fun _ => ?_)
      · refine vf_swx C (z := 17) (off := 681) (tgt := 720) dA_sw h (by decide) (by decide) rfl (by decide) ?_
        exact t_A_law_720 C hn hX hr hst hZ hSX hB ih _ _
      refine vf_if _ (fun h => ?_) (fun _ => ?_)
      · refine vf_swx C (z := 18) (off := 694) (tgt := 733) dA_sw h (by decide) (by decide) rfl (by decide) ?_
        exact t_A_law_733 C hn hX hr hst hZ hSX hB ih _ _
      refine vf_if _ (fun h => ?_) (fun _ => ?_)
      · refine vf_swx C (z := 19) (off := 719) (tgt := 758) dA_sw h (by decide) (by decide) rfl (by decide) ?_
        exact t_A_law_758 C hn hX hr hst hZ hSX hB ih _ _
      refine vf_if _ (fun h => ?_) (fun _ => ?_)
      · refine vf_swx C (z := 20) (off := 744) (tgt := 783) dA_sw h (by decide) (by decide) rfl (by decide) ?_
        exact t_A_law_783 C hn hX hr hst hZ hSX hB ih _ _
      refine vf_if _ (fun h => ?_) (fun _ => ?_)
      · refine vf_swx C (z := 21) (off := 769) (tgt := 808) dA_sw h (by decide) (by decide) rfl (by decide) ?_
        exact t_A_law_808 C hn hX hr hst hZ hSX hB ih _ _
      refine vf_if _ (fun h => ?_) (fun _ => ?_)
      · refine vf_swx C (z := 22) (off := 782) (tgt := 821) dA_sw h (by decide) (by decide) rfl (by decide) ?_
        exact t_A_law_821 C hn hX hr hst hZ hSX hB ih _ _
      refine vf_if _ (fun h => ?_) (fun _ => ?_)
      · refine vf_swx C (z := 23) (off := 831) (tgt := 870) dA_sw h (by decide) (by decide) rfl (by decide) ?_
        exact t_A_law_870 C hn hX hr hst hZ hSX hB ih _ _
      refine vf_if _ (fun h => ?_) (fun _ => ?_)
      · refine vf_swx C (z := 24) (off := 844) (tgt := 883) dA_sw h (by decide) (by decide) rfl (by decide) ?_
        exact t_A_law_883 C hn hX hr hst hZ hSX hB ih _ _
      refine vf_if _ (fun h => ?_) (fun _ => ?_)
      · refine vf_swx C (z := 25) (off := 857) (tgt := 896) dA_sw h (by decide) (by decide) rfl (by decide) ?_
        exact t_A_law_896 C hn hX hr hst hZ hSX hB ih _ _
      refine vf_if _ (fun h => ?_) (fun _ => ?_)
      · refine vf_swx C (z := 26) (off := 882) (tgt := 921) dA_sw h (by decide) (by decide) rfl (by decide) ?_
        exact t_A_law_921 C hn hX hr hst hZ hSX hB ih _ _
      refine vf_if _ (fun h => ?_) (fun _ => ?_)
      · refine vf_swx C (z := 27) (off := 907) (tgt := 946) dA_sw h (by decide) (by decide) rfl (by decide) ?_
        exact t_A_law_946 C hn hX hr hst hZ hSX hB ih _ _
      refine vf_if _ (fun h => ?_) (fun _ => ?_)
      · refine vf_swx C (z := 28) (off := 932) (tgt := 971) dA_sw h (by decide) (by decide) rfl (by decide) ?_
        exact t_A_law_971 C hn hX hr hst hZ hSX hB ih _ _
      refine vf_if _ (fun h => ?_) (fun _ => ?_)
      · refine vf_swx C (z := 29) (off := 957) (tgt := 996) dA_sw h (by decide) (by decide) rfl (by decide) ?_
        exact t_A_law_996 C hn hX hr hst hZ hSX hB ih _ _
      refine vf_if _ (fun h => ?_) (fun _ => ?_)
      · refine vf_swx C (z := 30) (off := 970) (tgt := 1009) dA_sw h (by decide) (by decide) rfl (by decide) ?_
        exact t_A_law_1009 C hn hX hr hst hZ hSX hB ih _ _
      refine vf_if _ (fun h => ?_) (fun _ => ?_)
      · refine vf_swx C (z := 31) (off := 983) (tgt := 1022) dA_sw h (by decide) (by decide) rfl (by decide) ?_
        exact t_A_law_1022 C hn hX hr hst hZ hSX hB ih _ _
      refine vf_if _ (fun h => ?_) (fun _ => ?_)
      · refine vf_swx C (z := 32) (off := 996) (tgt := 1035) dA_sw h (by decide) (by decide) rfl (by decide) ?_
        exact t_A_law_1035 C hn hX hr hst hZ hSX hB ih _ _
      refine vf_if _ (fun h => ?_) (fun _ => ?_)
      · refine vf_swx C (z := 33) (off := 1021) (tgt := 1060) dA_sw h (by decide) (by decide) rfl (by decide) ?_
        exact t_A_law_1060 C hn hX hr hst hZ hSX hB ih _ _
      refine vf_if _ (fun h => ?_) (fun _ => ?_)
      · refine vf_swx C (z := 34) (off := 1046) (tgt := 1085) dA_sw h (by decide) (by decide) rfl (by decide) ?_
        exact t_A_law_1085 C hn hX hr hst hZ hSX hB ih _ _
      refine vf_if _ (fun h => ?_) (fun _ => ?_)
      · refine vf_swx C (z := 35) (off := 1071) (tgt := 1110) dA_sw h (by decide) (by decide) rfl (by decide) ?_
        exact t_A_law_1110 C hn hX hr hst hZ hSX hB ih _ _
      refine vf_if _ (fun h => ?_) (fun _ => ?_)
      · refine vf_swx C (z := 36) (off := 1096) (tgt := 1135) dA_sw h (by decide) (by decide) rfl (by decide) ?_
        exact t_A_law_1135 C hn hX hr hst hZ hSX hB ih _ _
      refine vf_if _ (fun h => ?_) (fun _ => ?_)
      · refine vf_swx C (z := 37) (off := 1133) (tgt := 1172) dA_sw h (by decide) (by decide) rfl (by decide) ?_
        exact t_A_law_1172 C hn hX hr hst hZ hSX hB ih _ _
      refine vf_if _ (fun h => ?_) (fun _ => ?_)
      · refine vf_swx C (z := 38) (off := 1146) (tgt := 1185) dA_sw h (by decide) (by decide) rfl (by decide) ?_
        exact t_A_law_1185 C hn hX hr hst hZ hSX hB ih _ _
      refine vf_if _ (fun h => ?_) (fun _ => ?_)
      · refine vf_swx C (z := 39) (off := 1171) (tgt := 1210) dA_sw h (by decide) (by decide) rfl (by decide) ?_
        exact t_A_law_1210 C hn hX hr hst hZ hSX hB ih _ _
      refine vf_if _ (fun h => ?_) (fun _ => ?_)
      · refine vf_swx C (z := 40) (off := 1196) (tgt := 1235) dA_sw h (by decide) (by decide) rfl (by decide) ?_
        exact t_A_law_1235 C hn hX hr hst hZ hSX hB ih _ _
      refine vf_if _ (fun h => ?_) (fun _ => ?_)
      · refine vf_swx C (z := 41) (off := 1221) (tgt := 1260) dA_sw h (by decide) (by decide) rfl (by decide) ?_
        exact t_A_law_1260 C hn hX hr hst hZ hSX hB ih _ _
      exact vf_no
