theorem cy_E_of : CY y_E_of prog_1_method_6_code 3 (some .int) 2 false := cy_i 84 1127 1125 1126 (by decide +kernel)
theorem cy_E_row : CY y_E_row prog_1_method_43_code 2 (some .int) 1 false := cy_i 84 1206 1204 1205 (by decide +kernel)
theorem sh_82 : sh 82 = some (.inr (1, 1, [])) := rfl
def y_A_of : MethodName := ⟨"EachBringsAnotherLaw", "of", "(LEachBringsAnother;II[J)I"⟩
def y_A_row : MethodName := ⟨"EachBringsAnotherLaw", "row", "(LEachBringsAnother;I[J)I"⟩
theorem kA_13 : Cond.classLink "EachBringsAnotherLaw" 13 nse ∈ gw_tbl := mem_h 1123 (by decide +kernel)
theorem kA_ca : Cond.castable nse nse ∈ nw_tbl := mem_nh 1130 (by decide +kernel)
theorem kA_7 : Cond.methodLink "EachBringsAnotherLaw" 7 y_E_of ∈ gw_tbl := mem_h 1124 (by decide +kernel)
theorem kA_15 : Cond.methodLink "EachBringsAnotherLaw" 15 y_E_row ∈ gw_tbl := mem_h 1203 (by decide +kernel)
theorem jrm_x1 {X : jX} {d dep mL : Nat} (h : xR X = rmX d) (hd : (decide (dep + 1 ≤ d) && decide (mL ≤ 41)) = true) : jrm X dep mL (0 + 1) (0 + 6) := by
  simp only [Bool.and_eq_true, decide_eq_true_eq] at hd
  unfold jrm
  rw [h]
  simp only [rmX]
  omega
def f_A_of (v1 v2 : Int) (w : Wd) : Option (Int × Wd) :=
  jcall (f_E_of v1 v2 w) fun r w1 =>
  if r = THR then some (1, w1) else
  jgd ((0 : Int) ≤ (0 : Int) ∧ (0 : Int) < 1) <|
  jlw (st w1 82 (0 : Int).toNat r) fun w2 =>
  some (0, w2)
theorem ct_A_of (v1 v2 : Int) (w : Wd) : CtH y_A_of method_3_code 5 [(0, 10, 13, 13)] 9 [(2, 1), (0, v1), (0, v2), (2, 83)] w (f_A_of v1 v2 w) := by
  refine cth_of (by decide +kernel) (Nat.le_of_ble_eq_true rfl) ?_
  intro X Qf ad C hn hR hst hZ hX htab hr
  unfold f_A_of
  show VF X Qf ad NF 0 0 w 0 [(0, (2, 1)), (1, (0, v1)), (2, (0, v2)), (3, (2, 83))] [] _
  refine vf_aload_n C (f := 3) (by decide +kernel) 3 rfl rfl ?_
  refine vf_iconst C (z := 0) (by decide +kernel) (jz rfl) ?_
  refine vf_aload_n C (f := 0) (by decide +kernel) 0 rfl rfl ?_
  refine vf_iload_n C (f := 1) (by decide +kernel) 1 rfl rfl ?_
  refine vf_iload_n C (f := 2) (by decide +kernel) 2 rfl rfl ?_
  refine vf_callX C cy_E_of kA_7 rfl (ct_E_of _ _ _) sh_0 (by decide) rfl (jrm_x1 hR rfl) rfl (S := [(0, 0), (2, 83)]) rfl (Nat.le_of_ble_eq_true rfl) (by decide +kernel) hst hZ hX (x9 := ⟨0, 10, 13, 13⟩) htab rfl (by decide) kA_13 kA_ca (fun q w' => ?_) (fun r w' hne => ?_)
  · refine vf_if _ (fun _ => ?_) (fun h => absurd rfl h)
    refine vf_astore3 C (i := 4) (L' := []) (by decide +kernel) [] (jrI rfl rfl) hn (by decide) ?_
    refine vf_iconst C (z := 1) (by decide +kernel) (jz rfl) ?_
    exact hr _ _ _ _ (by decide +kernel)
  · refine vf_if _ (fun h => absurd h hne) (fun _ => ?_)
    refine vf_i2l C (by decide +kernel) ?_
    refine vf_last C sh_82 (by decide) rfl (mz := 1) rfl (by decide +kernel) ?_
    refine vf_uw ?_
    refine vf_goto C (off := 7) (tgt := 17) (by decide +kernel) (by decide) ?_
    refine vf_iconst C (z := 0) (by decide +kernel) (jz rfl) ?_
    exact hr _ _ _ _ (by decide +kernel)
def f_A_row (v1 : Int) (w : Wd) : Option (Int × Wd) :=
  jcall (f_E_row v1 w) fun r w1 =>
  if r = THR then some (1, w1) else
  jgd ((0 : Int) ≤ (0 : Int) ∧ (0 : Int) < 1) <|
  jlw (st w1 82 (0 : Int).toNat r) fun w2 =>
  some (0, w2)
theorem ct_A_row (v1 : Int) (w : Wd) : CtH y_A_row method_4_code 4 [(0, 9, 12, 13)] 9 [(2, 1), (0, v1), (2, 83)] w (f_A_row v1 w) := by
  refine cth_of (by decide +kernel) (Nat.le_of_ble_eq_true rfl) ?_
  intro X Qf ad C hn hR hst hZ hX htab hr
  unfold f_A_row
  show VF X Qf ad NF 0 0 w 0 [(0, (2, 1)), (1, (0, v1)), (2, (2, 83))] [] _
  refine vf_aload_n C (f := 2) (by decide +kernel) 2 rfl rfl ?_
  refine vf_iconst C (z := 0) (by decide +kernel) (jz rfl) ?_
  refine vf_aload_n C (f := 0) (by decide +kernel) 0 rfl rfl ?_
  refine vf_iload_n C (f := 1) (by decide +kernel) 1 rfl rfl ?_
  refine vf_callX C cy_E_row kA_15 rfl (ct_E_row _ _) sh_0 (by decide) rfl (jrm_x1 hR rfl) rfl (S := [(0, 0), (2, 83)]) rfl (Nat.le_of_ble_eq_true rfl) (by decide +kernel) hst hZ hX (x9 := ⟨0, 9, 12, 13⟩) htab rfl (by decide) kA_13 kA_ca (fun q w' => ?_) (fun r w' hne => ?_)
  · refine vf_if _ (fun _ => ?_) (fun h => absurd rfl h)
    refine vf_astore3_n C (f := 3) (L' := []) (by decide +kernel) [] (jrI rfl rfl) hn (by decide) rfl ?_
    refine vf_iconst C (z := 1) (by decide +kernel) (jz rfl) ?_
    exact hr _ _ _ _ (by decide +kernel)
  · refine vf_if _ (fun h => absurd h hne) (fun _ => ?_)
    refine vf_i2l C (by decide +kernel) ?_
    refine vf_last C sh_82 (by decide) rfl (mz := 1) rfl (by decide +kernel) ?_
    refine vf_uw ?_
    refine vf_goto C (off := 6) (tgt := 15) (by decide +kernel) (by decide) ?_
    refine vf_iconst C (z := 0) (by decide +kernel) (jz rfl) ?_
    exact hr _ _ _ _ (by decide +kernel)
