/-! THE LAW, AS A PURE FUNCTION, over scripts of any calls -/
theorem z_st {w : Wd} {c k : Nat} {z : Int} (h : ∀ c k, (83 ≤ c ∨ 100 ≤ k) → w c k = 0) (hc : c < 83 ∧ k < 100) : ∀ c' k', (83 ≤ c' ∨ 100 ≤ k') → st w c k z c' k' = 0 := by
  intro c' k' h'
  unfold st
  rw [if_neg (by omega)]
  exact h c' k' h'
theorem w0_far : ∀ c k, (83 ≤ c ∨ 100 ≤ k) → w0 c k = 0 := by
  unfold w0 i_R i_E i_K_40 i_K_37 i_S i_M i_W i_D i_P i_L i_F i_N i_T
  repeat (refine z_st ?_ (by decide))
  intro c k _
  rfl
/-- the columns that the start writes -/
def w0C : List Nat := [0, 1, 3, 5, 9, 12, 15, 19, 24, 28, 36, 37, 40, 43]
theorem zc_st {w : Wd} {c k : Nat} {z : Int} (h : ∀ c', c' ∉ w0C → ∀ k', w c' k' = 0) (hc : c ∈ w0C) : ∀ c', c' ∉ w0C → ∀ k', st w c k z c' k' = 0 := fun c' h' k' => (st_c (fun e => h' (by rw [e]; exact hc))).trans (h c' h' k')
theorem w0_col : ∀ c', c' ∉ w0C → ∀ k', w0 c' k' = 0 := by
  unfold w0 i_R i_E i_K_40 i_K_37 i_S i_M i_W i_D i_P i_L i_F i_N i_T
  repeat (refine zc_st ?_ (by decide))
  intro c _ k
  rfl
theorem w0_67 : ∀ k, w0 67 k = 0 := w0_col 67 (by decide)
theorem rgT_all : rgT.all (fun x => match x with | .inl fs => Nat.ble fs.length 99 | .inr p => decide (p.1 ≤ 0 ∧ 0 ≤ p.2)) = true := by decide +kernel
theorem rg_far {c k : Nat} (h : 83 ≤ c ∨ 100 ≤ k) : (rg c k).1 ≤ 0 ∧ 0 ≤ (rg c k).2 := by
  unfold rg
  by_cases h1 : c = 59
  · rw [if_pos h1]; split <;> decide
  · rw [if_neg h1]
    by_cases h2 : c = 79
    · rw [if_pos h2]; split
      · decide
      · split <;> decide
    · rw [if_neg h2]
      cases hr : rgT[c]? with
      | none => exact (by decide : (-9223372036854775808 : Int) ≤ 0 ∧ (0 : Int) ≤ 9223372036854775807)
      | some x =>
        have hx := List.all_eq_true.mp rgT_all x (List.mem_of_getElem? hr)
        have hc : c < rgT.length := (List.getElem?_eq_some_iff.mp hr).1
        have hl : rgT.length = 83 := by decide +kernel
        match x, hx with
        | .inl fs, hx =>
          have h3 := Nat.le_of_ble_eq_true hx
          show (fs.getD k _).1 ≤ 0 ∧ 0 ≤ (fs.getD k _).2
          rw [List.getD_eq_getElem?_getD, List.getElem?_eq_none (by omega)]
          decide
        | .inr p, hx => exact of_decide_eq_true hx
theorem rgC_all : (List.range 83).all (fun c => decide (c ∈ w0C) || (match rgT[c]? with | some (.inr p) => decide (p.1 ≤ 0 ∧ 0 ≤ p.2) | _ => false)) = true := by decide +kernel
theorem rg_col {c k : Nat} (hc : c < 83) (h : c ∉ w0C) : (rg c k).1 ≤ 0 ∧ 0 ≤ (rg c k).2 := by
  unfold rg
  by_cases h1 : c = 59
  · rw [if_pos h1]; split <;> decide
  · rw [if_neg h1]
    by_cases h2 : c = 79
    · rw [if_pos h2]; split
      · decide
      · split <;> decide
    · rw [if_neg h2]
      have hx : (decide (c ∈ w0C) || (match rgT[c]? with | some (.inr p) => decide (p.1 ≤ 0 ∧ 0 ≤ p.2) | _ => false)) = true := List.all_eq_true.mp rgC_all c (List.mem_range.mpr hc)
      rw [decide_eq_false h, Bool.false_or] at hx
      cases hr : rgT[c]? with
      | none => rw [hr] at hx; cases hx
      | some x =>
        rw [hr] at hx
        cases x with
        | inl fs => cases hx
        | inr p => exact of_decide_eq_true hx
theorem w0_rgb : w0C.all (fun c => (List.range 100).all fun k => decide ((rg c k).1 ≤ w0 c k ∧ w0 c k ≤ (rg c k).2)) = true := by decide +kernel
theorem w0_G : G [] w0 w0 := by
  refine ⟨fun c k => ?_, fun _ _ _ => rfl, fun p q hp hq _ hn => absurd (w0_67 p) hn, fun p hp => by rw [w0_67]; exact Int.le_of_eq (by decide +kernel)⟩
  by_cases h : 83 ≤ c ∨ 100 ≤ k
  · rw [w0_far c k h]; exact rg_far h
  · by_cases hcc : c ∈ w0C
    · exact of_decide_eq_true (List.all_eq_true.mp (List.all_eq_true.mp w0_rgb c hcc) k (List.mem_range.mpr (by omega)))
    · rw [w0_col c hcc k]; exact rg_col (by omega) hcc
theorem w0_0 : w0 43 0 = 0 := by decide +kernel
theorem w0_8 : w0 43 8 = 0 := by decide +kernel
theorem w0_32 : w0 43 32 = 0 := by decide +kernel
theorem w0_56 : w0 43 56 = 0 := by decide +kernel
theorem w0_80 : ∀ m : Nat, m < 2 → w0 80 m = 0 ∧ w0 81 m = 0 := by
  intro m hm
  match m, hm with
  | 0, _ => decide +kernel
  | 1, _ => decide +kernel
  | m + 2, h => omega
theorem w0_RS : RS w0 := by
  refine ⟨w0_G, ⟨⟨fun j hj => ?_, fun j hj => ?_⟩, fun t ht => ?_, fun m hm h80 => absurd (w0_80 m hm).1 h80, ⟨by rw [w0_56]; decide, by rw [w0_56, w0_0]; decide, fun m hm => by rw [(w0_80 m hm).2, w0_56]; decide⟩, by rw [w0_32, w0_8]; decide⟩, fun a c ha => ?_, fun a q ha => ?_⟩
  · rw [w0_0] at hj; omega
  · rw [w0_0] at hj; omega
  · rw [w0_32] at ht; omega
  · rw [w0_0] at ha; omega
  · rw [w0_0] at ha; omega
theorem e_E_sign {w : Wd} {v1 : Int} (h : RS w) (i_v1 : ((-2147483648 : Int) ≤ v1 ∧ v1 ≤ 2147483647)) : OK (f_E_sign v1 w) (fun r u => G md_E_sign w u ∧ RS u ∧ ((((76 : Int) < (w 1 1)) ∧ ((r = (-1 : Int)) ∧ ((u 1 1) = (w 1 1)))) ∨ (((w 1 1) ≤ (76 : Int)) ∧ ((r = (u 1 1)) ∧ ((u 1 1) = ((w 1 1) + (4 : Int))))))) := ok_w (s_E_sign (g_self h.1) i_v1) (fun _ _ q => ⟨q.2.1, rs_g h q.2.1 rfl, q.2.2⟩)
theorem e_R_sign {w : Wd} {v1 : Int} (h : RS w) (i_v1 : ((-2147483648 : Int) ≤ v1 ∧ v1 ≤ 2147483647)) : OK (f_R_sign v1 w) (fun r u => G md_R_sign w u ∧ RS u ∧ ((((76 : Int) < (w 43 13)) ∧ ((r = (-1 : Int)) ∧ ((u 43 13) = (w 43 13)))) ∨ (((w 43 13) ≤ (76 : Int)) ∧ ((r = (u 43 13)) ∧ ((u 43 13) = ((w 43 13) + (4 : Int))))))) := ok_w (s_R_sign (g_self h.1) i_v1) (fun _ _ q => ⟨q.2.1, rs_g h q.2.1 rfl, q.2.2⟩)
theorem e_E_end {w : Wd} {v1 : Int} (h : RS w) (i_v1 : ((-2147483648 : Int) ≤ v1 ∧ v1 ≤ 2147483647)) : OK (f_E_end v1 w) (fun r u => G md_E_end w u ∧ RS u ∧ ((((v1 < (0 : Int)) ∨ ((w 1 1) < v1)) ∧ ((r = (0 : Int)) ∧ ((u 1 1) = (w 1 1)))) ∨ (((0 : Int) ≤ v1) ∧ ((v1 ≤ (w 1 1)) ∧ ((r = (1 : Int)) ∧ ((u 1 1) = v1)))))) := ok_w (s_E_end (g_self h.1) i_v1) (fun _ _ q => ⟨q.2.1, rs_g h q.2.1 rfl, q.2.2⟩)
theorem e_R_end {w : Wd} {v1 : Int} (h : RS w) (i_v1 : ((-2147483648 : Int) ≤ v1 ∧ v1 ≤ 2147483647)) : OK (f_R_end v1 w) (fun r u => G md_R_end w u ∧ RS u ∧ ((((v1 < (0 : Int)) ∨ ((w 43 13) < v1)) ∧ ((r = (0 : Int)) ∧ ((u 43 13) = (w 43 13)))) ∨ (((0 : Int) ≤ v1) ∧ ((v1 ≤ (w 43 13)) ∧ ((r = (1 : Int)) ∧ ((u 43 13) = v1)))))) := ok_w (s_R_end (g_self h.1) i_v1) (fun _ _ q => ⟨q.2.1, rs_g h q.2.1 rfl, q.2.2⟩)
theorem e_E_land {w : Wd} (h : RS w) : OK (f_E_land w) (fun r u => G md_E_land w u ∧ RS u ∧ ((u 1 1) = (0 : Int))) := ok_w (s_E_land (g_self h.1)) (fun _ _ q => ⟨q.2.1, rs_g h q.2.1 rfl, q.2.2⟩)
theorem e_R_land {w : Wd} (h : RS w) : OK (f_R_land w) (fun r u => G md_R_land w u ∧ RS u ∧ ((u 43 13) = (0 : Int))) := ok_w (ok_pc (s_R_land (g_self h.1)) (land_pc h)) (fun _ _ q => ⟨q.1.2.1, ⟨g_self q.1.2.1, q.2⟩, q.1.2.2⟩)
theorem e_E_rule {w : Wd} (h : RS w) : OK (f_E_rule w) (fun r u => G md_E_rule w u ∧ RS u ∧ ((u 1 1) = (0 : Int))) := ok_w (s_E_rule (g_self h.1)) (fun _ _ q => ⟨q.2.1, rs_g h q.2.1 rfl, q.2.2⟩)
theorem e_R_rule {w : Wd} (h : RS w) : OK (f_R_rule w) (fun r u => G md_R_rule w u ∧ RS u ∧ ((u 43 13) = (0 : Int))) := ok_w (s_R_rule (g_self h.1)) (fun _ _ q => ⟨q.2.1, rs_g h q.2.1 rfl, q.2.2⟩)
theorem e_E_of {w : Wd} {v1 v2 : Int} (h : RS w) (i_v1 : ((-2147483648 : Int) ≤ v1 ∧ v1 ≤ 2147483647)) (i_v2 : ((-2147483648 : Int) ≤ v2 ∧ v2 ≤ 2147483647)) : OK (f_E_of v1 v2 w) (fun r u => G md_E_of w u ∧ RS u) := ok_w (s_E_of (g_self h.1) i_v1 i_v2) (fun _ _ q => ⟨q.2, rs_g h q.2 rfl⟩)
theorem e_R_of {w : Wd} {v1 v2 : Int} (h : RS w) (i_v1 : ((-2147483648 : Int) ≤ v1 ∧ v1 ≤ 2147483647)) (i_v2 : ((-2147483648 : Int) ≤ v2 ∧ v2 ≤ 2147483647)) : OK (f_R_of v1 v2 w) (fun r u => G md_R_of w u ∧ RS u) := ok_w (s_R_of (g_self h.1) i_v1 i_v2) (fun _ _ q => ⟨q.2, rs_g h q.2 rfl⟩)
theorem e_E_law {w : Wd} {v1 v2 : Int} (h : RS w) (i_v1 : ((-2147483648 : Int) ≤ v1 ∧ v1 ≤ 2147483647)) (i_v2 : ((-2147483648 : Int) ≤ v2 ∧ v2 ≤ 2147483647)) : OK (f_E_law v1 v2 w) (fun r u => G md_E_law w u ∧ RS u) := ok_w (s_E_law (g_self h.1) i_v1 i_v2) (fun _ _ q => ⟨q.2, rs_g h q.2 rfl⟩)
theorem e_R_law {w : Wd} {v1 v2 : Int} (h : RS w) (i_v1 : ((-2147483648 : Int) ≤ v1 ∧ v1 ≤ 2147483647)) (i_v2 : ((-2147483648 : Int) ≤ v2 ∧ v2 ≤ 2147483647)) : OK (f_R_law v1 v2 w) (fun r u => G md_R_law w u ∧ RS u) := ok_w (s_R_law (g_self h.1) i_v1 i_v2) (fun _ _ q => ⟨q.2, rs_g h q.2 rfl⟩)
theorem e_E_meet {w : Wd} {v1 v2 v3 : Int} (h : RS w) (i_v1 : ((-2147483648 : Int) ≤ v1 ∧ v1 ≤ 2147483647)) (i_v2 : ((-2147483648 : Int) ≤ v2 ∧ v2 ≤ 2147483647)) (i_v3 : ((0 : Int) ≤ v3 ∧ v3 ≤ 1)) : OK (f_E_meet v1 v2 v3 w) (fun r u => G md_E_meet w u ∧ RS u) := ok_w (s_E_meet (g_self h.1) i_v1 i_v2 i_v3) (fun _ _ q => ⟨q.2, rs_g h q.2 rfl⟩)
theorem e_R_meet {w : Wd} {v1 v2 v3 : Int} (h : RS w) (i_v1 : ((-2147483648 : Int) ≤ v1 ∧ v1 ≤ 2147483647)) (i_v2 : ((-2147483648 : Int) ≤ v2 ∧ v2 ≤ 2147483647)) (i_v3 : ((0 : Int) ≤ v3 ∧ v3 ≤ 1)) : OK (f_R_meet v1 v2 v3 w) (fun r u => G md_R_meet w u ∧ RS u) := ok_w (ok_pc (s_R_meet (g_self h.1) i_v1 i_v2 i_v3) (meet_pc h)) (fun _ _ q => ⟨q.1.2, ⟨g_self q.1.2, q.2⟩⟩)
theorem e_E_hide {w : Wd} {v1 v2 : Int} (h : RS w) (i_v1 : ((-2147483648 : Int) ≤ v1 ∧ v1 ≤ 2147483647)) (i_v2 : ((0 : Int) ≤ v2 ∧ v2 ≤ 1)) : OK (f_E_hide v1 v2 w) (fun r u => G md_E_hide w u ∧ RS u) := ok_w (s_E_hide (g_self h.1) i_v1 i_v2) (fun _ _ q => ⟨q.2, rs_g h q.2 rfl⟩)
theorem e_R_hide {w : Wd} {v1 v2 : Int} (h : RS w) (i_v1 : ((-2147483648 : Int) ≤ v1 ∧ v1 ≤ 2147483647)) (i_v2 : ((0 : Int) ≤ v2 ∧ v2 ≤ 1)) : OK (f_R_hide v1 v2 w) (fun r u => G md_R_hide w u ∧ RS u) := ok_w (s_R_hide (g_self h.1) i_v1 i_v2) (fun _ _ q => ⟨q.2, rs_g h q.2 rfl⟩)
theorem e_E_baby {w : Wd} {v1 : Int} (h : RS w) (i_v1 : ((-2147483648 : Int) ≤ v1 ∧ v1 ≤ 2147483647)) : OK (f_E_baby v1 w) (fun r u => G md_E_baby w u ∧ RS u) := ok_w (s_E_baby (g_self h.1) i_v1) (fun _ _ q => ⟨q.2, rs_g h q.2 rfl⟩)
theorem e_R_baby {w : Wd} {v1 : Int} (h : RS w) (i_v1 : ((-2147483648 : Int) ≤ v1 ∧ v1 ≤ 2147483647)) : OK (f_R_baby v1 w) (fun r u => G md_R_baby w u ∧ RS u) := ok_w (ok_pc (s_R_baby (g_self h.1) i_v1) (baby_pc i_v1 h)) (fun _ _ q => ⟨q.1.2, ⟨g_self q.1.2, q.2⟩⟩)
theorem e_E_sheet {w : Wd} {v1 v2 v3 v4 : Int} (h : RS w) (i_v1 : ((-2147483648 : Int) ≤ v1 ∧ v1 ≤ 2147483647)) (i_v2 : ((-2147483648 : Int) ≤ v2 ∧ v2 ≤ 2147483647)) (i_v3 : ((-2147483648 : Int) ≤ v3 ∧ v3 ≤ 2147483647)) (i_v4 : ((-2147483648 : Int) ≤ v4 ∧ v4 ≤ 2147483647)) : OK (f_E_sheet v1 v2 v3 v4 w) (fun r u => G md_E_sheet w u ∧ RS u) := ok_w (s_E_sheet (g_self h.1) i_v1 i_v2 i_v3 i_v4) (fun _ _ q => ⟨q.2, rs_g h q.2 rfl⟩)
theorem e_R_sheet {w : Wd} {v1 v2 v3 v4 : Int} (h : RS w) (i_v1 : ((-2147483648 : Int) ≤ v1 ∧ v1 ≤ 2147483647)) (i_v2 : ((-2147483648 : Int) ≤ v2 ∧ v2 ≤ 2147483647)) (i_v3 : ((-2147483648 : Int) ≤ v3 ∧ v3 ≤ 2147483647)) (i_v4 : ((-2147483648 : Int) ≤ v4 ∧ v4 ≤ 2147483647)) : OK (f_R_sheet v1 v2 v3 v4 w) (fun r u => G md_R_sheet w u ∧ RS u) := ok_w (s_R_sheet (g_self h.1) i_v1 i_v2 i_v3 i_v4) (fun _ _ q => ⟨q.2, rs_g h q.2 rfl⟩)
theorem e_E_week {w : Wd} (h : RS w) : OK (f_E_week w) (fun r u => G md_E_week w u ∧ RS u ∧ ((u 1 1) = (0 : Int))) := ok_w (s_E_week (g_self h.1)) (fun _ _ q => ⟨q.2.1, rs_g h q.2.1 rfl, q.2.2⟩)
theorem e_R_week {w : Wd} (h : RS w) : OK (f_R_week w) (fun r u => G md_R_week w u ∧ RS u ∧ ((u 43 32) ≤ (u 43 8)) ∧ ((u 43 13) = (0 : Int))) := ok_w (ok_pc (s_R_week (g_self h.1) h.2.1.2.2.2.2) (week_pc h)) (fun _ _ q => ⟨q.1.2.1, ⟨g_self q.1.2.1, q.2⟩, q.1.2.2⟩)
theorem e_E_goes {w : Wd} {v1 : Int} (h : RS w) (i_v1 : ((-2147483648 : Int) ≤ v1 ∧ v1 ≤ 2147483647)) : OK (f_E_goes v1 w) (fun r u => G md_E_goes w u ∧ RS u) := ok_w (s_E_goes (g_self h.1) i_v1) (fun _ _ q => ⟨q.2, rs_g h q.2 rfl⟩)
theorem e_R_goes {w : Wd} {v1 : Int} (h : RS w) (i_v1 : ((-2147483648 : Int) ≤ v1 ∧ v1 ≤ 2147483647)) : OK (f_R_goes v1 w) (fun r u => G md_R_goes w u ∧ RS u ∧ ((u 43 32) ≤ (u 43 8))) := ok_w (ok_pc (s_R_goes (g_self h.1) i_v1 h.2.1.2.2.2.2) (goes_pc h)) (fun _ _ q => ⟨q.1.2.1, ⟨g_self q.1.2.1, q.2⟩, q.1.2.2⟩)
theorem e_E_undo {w : Wd} (h : RS w) : OK (f_E_undo w) (fun r u => G md_E_undo w u ∧ RS u) := ok_w (s_E_undo (g_self h.1)) (fun _ _ q => ⟨q.2, rs_g h q.2 rfl⟩)
theorem e_R_undo {w : Wd} (h : RS w) : OK (f_R_undo w) (fun r u => G md_R_undo w u ∧ RS u ∧ ((u 43 32) ≤ (u 43 8))) := ok_w (ok_pc (s_R_undo (g_self h.1) h.2.1.2.2.2.2) (undo_pc h)) (fun _ _ q => ⟨q.1.2.1, ⟨g_self q.1.2.1, q.2⟩, q.1.2.2⟩)
theorem e_E_can {w : Wd} (h : RS w) : OK (f_E_can w) (fun r u => G md_E_can w u ∧ RS u) := ok_w (s_E_can (g_self h.1)) (fun _ _ q => ⟨q.2, rs_g h q.2 rfl⟩)
theorem e_R_can {w : Wd} (h : RS w) : OK (f_R_can w) (fun r u => G md_R_can w u ∧ RS u) := ok_w (s_R_can (g_self h.1)) (fun _ _ q => ⟨q.2, rs_g h q.2 rfl⟩)
theorem e_E_picks {w : Wd} {v1 : Int} (h : RS w) (i_v1 : ((-2147483648 : Int) ≤ v1 ∧ v1 ≤ 2147483647)) : OK (f_E_picks v1 w) (fun r u => G md_E_picks w u ∧ RS u) := ok_w (s_E_picks (g_self h.1) i_v1) (fun _ _ q => ⟨q.2, rs_g h q.2 rfl⟩)
theorem e_R_picks {w : Wd} {v1 : Int} (h : RS w) (i_v1 : ((-2147483648 : Int) ≤ v1 ∧ v1 ≤ 2147483647)) : OK (f_R_picks v1 w) (fun r u => G md_R_picks w u ∧ RS u) := ok_w (s_R_picks (g_self h.1) i_v1) (fun _ _ q => ⟨q.2, rs_g h q.2 rfl⟩)
theorem e_E_pairs {w : Wd} (h : RS w) : OK (f_E_pairs w) (fun r u => G md_E_pairs w u ∧ RS u) := ok_w (s_E_pairs (g_self h.1)) (fun _ _ q => ⟨q.2, rs_g h q.2 rfl⟩)
theorem e_R_pairs {w : Wd} (h : RS w) : OK (f_R_pairs w) (fun r u => G md_R_pairs w u ∧ RS u) := ok_w (s_R_pairs (g_self h.1)) (fun _ _ q => ⟨q.2, rs_g h q.2 rfl⟩)
theorem e_E_bars {w : Wd} (h : RS w) : OK (f_E_bars w) (fun r u => G md_E_bars w u ∧ RS u) := ok_w (s_E_bars (g_self h.1)) (fun _ _ q => ⟨q.2, rs_g h q.2 rfl⟩)
theorem e_R_bars {w : Wd} (h : RS w) : OK (f_R_bars w) (fun r u => G md_R_bars w u ∧ RS u) := ok_w (s_R_bars (g_self h.1)) (fun _ _ q => ⟨q.2, rs_g h q.2 rfl⟩)
theorem e_E_states {w : Wd} (h : RS w) : OK (f_E_states w) (fun r u => G md_E_states w u ∧ RS u) := ok_w (s_E_states (g_self h.1)) (fun _ _ q => ⟨q.2, rs_g h q.2 rfl⟩)
theorem e_R_states {w : Wd} (h : RS w) : OK (f_R_states w) (fun r u => G md_R_states w u ∧ RS u) := ok_w (s_R_states (g_self h.1)) (fun _ _ q => ⟨q.2, rs_g h q.2 rfl⟩)
theorem e_E_most {w : Wd} {v1 : Int} (h : RS w) (i_v1 : ((-2147483648 : Int) ≤ v1 ∧ v1 ≤ 2147483647)) : OK (f_E_most v1 w) (fun r u => G md_E_most w u ∧ RS u) := ok_w (s_E_most (g_self h.1) i_v1) (fun _ _ q => ⟨q.2, rs_g h q.2 rfl⟩)
theorem e_R_most {w : Wd} {v1 : Int} (h : RS w) (i_v1 : ((-2147483648 : Int) ≤ v1 ∧ v1 ≤ 2147483647)) : OK (f_R_most v1 w) (fun r u => G md_R_most w u ∧ RS u) := ok_w (s_R_most (g_self h.1) i_v1) (fun _ _ q => ⟨q.2, rs_g h q.2 rfl⟩)
theorem e_E_reach {w : Wd} {v1 : Int} (h : RS w) (i_v1 : ((-2147483648 : Int) ≤ v1 ∧ v1 ≤ 2147483647)) : OK (f_E_reach v1 w) (fun r u => G md_E_reach w u ∧ RS u) := ok_w (s_E_reach (g_self h.1) i_v1) (fun _ _ q => ⟨q.2, rs_g h q.2 rfl⟩)
theorem e_R_reach {w : Wd} {v1 : Int} (h : RS w) (i_v1 : ((-2147483648 : Int) ≤ v1 ∧ v1 ≤ 2147483647)) : OK (f_R_reach v1 w) (fun r u => G md_R_reach w u ∧ RS u) := ok_w (s_R_reach (g_self h.1) i_v1) (fun _ _ q => ⟨q.2, rs_g h q.2 rfl⟩)
theorem e_E_fewest {w : Wd} {v1 : Int} (h : RS w) (i_v1 : ((-2147483648 : Int) ≤ v1 ∧ v1 ≤ 2147483647)) : OK (f_E_fewest v1 w) (fun r u => G md_E_fewest w u ∧ RS u) := ok_w (s_E_fewest (g_self h.1) i_v1) (fun _ _ q => ⟨q.2, rs_g h q.2 rfl⟩)
theorem e_R_fewest {w : Wd} {v1 : Int} (h : RS w) (i_v1 : ((-2147483648 : Int) ≤ v1 ∧ v1 ≤ 2147483647)) : OK (f_R_fewest v1 w) (fun r u => G md_R_fewest w u ∧ RS u) := ok_w (s_R_fewest (g_self h.1) i_v1) (fun _ _ q => ⟨q.2, rs_g h q.2 rfl⟩)
theorem e_E_crowd {w : Wd} (h : RS w) : OK (f_E_crowd w) (fun r u => G md_E_crowd w u ∧ RS u) := ok_w (s_E_crowd (g_self h.1)) (fun _ _ q => ⟨q.2, rs_g h q.2 rfl⟩)
theorem e_R_crowd {w : Wd} (h : RS w) : OK (f_R_crowd w) (fun r u => G md_R_crowd w u ∧ RS u) := ok_w (s_R_crowd (g_self h.1)) (fun _ _ q => ⟨q.2, rs_g h q.2 rfl⟩)
theorem e_E_both {w : Wd} {v1 v2 v3 : Int} (h : RS w) (i_v1 : ((-2147483648 : Int) ≤ v1 ∧ v1 ≤ 2147483647)) (i_v2 : ((-2147483648 : Int) ≤ v2 ∧ v2 ≤ 2147483647)) (i_v3 : ((-2147483648 : Int) ≤ v3 ∧ v3 ≤ 2147483647)) : OK (f_E_both v1 v2 v3 w) (fun r u => G md_E_both w u ∧ RS u) := ok_w (s_E_both (g_self h.1) i_v1 i_v2 i_v3) (fun _ _ q => ⟨q.2, rs_g h q.2 rfl⟩)
theorem e_R_both {w : Wd} {v1 v2 v3 : Int} (h : RS w) (i_v1 : ((-2147483648 : Int) ≤ v1 ∧ v1 ≤ 2147483647)) (i_v2 : ((-2147483648 : Int) ≤ v2 ∧ v2 ≤ 2147483647)) (i_v3 : ((-2147483648 : Int) ≤ v3 ∧ v3 ≤ 2147483647)) : OK (f_R_both v1 v2 v3 w) (fun r u => G md_R_both w u ∧ RS u) := ok_w (s_R_both (g_self h.1) i_v1 i_v2 i_v3) (fun _ _ q => ⟨q.2, rs_g h q.2 rfl⟩)
theorem e_E_last {w : Wd} (h : RS w) : OK (f_E_last w) (fun r u => G md_E_last w u ∧ RS u) := ok_w (s_E_last (g_self h.1)) (fun _ _ q => ⟨q.2, rs_g h q.2 rfl⟩)
theorem e_R_last {w : Wd} (h : RS w) : OK (f_R_last w) (fun r u => G md_R_last w u ∧ RS u) := ok_w (s_R_last (g_self h.1)) (fun _ _ q => ⟨q.2, rs_g h q.2 rfl⟩)
theorem e_E_begin {w : Wd} (h : RS w) : OK (f_E_begin w) (fun r u => G md_E_begin w u ∧ RS u) := ok_w (s_E_begin (g_self h.1)) (fun _ _ q => ⟨q.2, rs_g h q.2 rfl⟩)
theorem e_R_begin2 {w : Wd} (h : RS w) : OK (f_R_begin2 w) (fun r u => G md_R_begin2 w u ∧ RS u) := ok_w (s_R_begin2 (g_self h.1)) (fun _ _ q => ⟨q.2, rs_g h q.2 rfl⟩)
theorem e_E_cheap {w : Wd} {v1 : Int} (h : RS w) (i_v1 : ((-2147483648 : Int) ≤ v1 ∧ v1 ≤ 2147483647)) : OK (f_E_cheap v1 w) (fun r u => G md_E_cheap w u ∧ RS u) := ok_w (s_E_cheap (g_self h.1) i_v1) (fun _ _ q => ⟨q.2, rs_g h q.2 rfl⟩)
theorem e_R_cheap {w : Wd} {v1 : Int} (h : RS w) (i_v1 : ((-2147483648 : Int) ≤ v1 ∧ v1 ≤ 2147483647)) : OK (f_R_cheap v1 w) (fun r u => G md_R_cheap w u ∧ RS u) := ok_w (s_R_cheap (g_self h.1) i_v1) (fun _ _ q => ⟨q.2, rs_g h q.2 rfl⟩)
theorem e_E_stays {w : Wd} {v1 : Int} (h : RS w) (i_v1 : ((-2147483648 : Int) ≤ v1 ∧ v1 ≤ 2147483647)) : OK (f_E_stays v1 w) (fun r u => G md_E_stays w u ∧ RS u) := ok_w (s_E_stays (g_self h.1) i_v1) (fun _ _ q => ⟨q.2, rs_g h q.2 rfl⟩)
theorem e_R_stays {w : Wd} {v1 : Int} (h : RS w) (i_v1 : ((-2147483648 : Int) ≤ v1 ∧ v1 ≤ 2147483647)) : OK (f_R_stays v1 w) (fun r u => G md_R_stays w u ∧ RS u) := ok_w (s_R_stays (g_self h.1) i_v1) (fun _ _ q => ⟨q.2, rs_g h q.2 rfl⟩)
theorem e_E_soonest {w : Wd} {v1 : Int} (h : RS w) (i_v1 : ((-2147483648 : Int) ≤ v1 ∧ v1 ≤ 2147483647)) : OK (f_E_soonest v1 w) (fun r u => G md_E_soonest w u ∧ RS u) := ok_w (s_E_soonest (g_self h.1) i_v1) (fun _ _ q => ⟨q.2, rs_g h q.2 rfl⟩)
theorem e_R_soonest {w : Wd} {v1 : Int} (h : RS w) (i_v1 : ((-2147483648 : Int) ≤ v1 ∧ v1 ≤ 2147483647)) : OK (f_R_soonest v1 w) (fun r u => G md_R_soonest w u ∧ RS u) := ok_w (s_R_soonest (g_self h.1) i_v1) (fun _ _ q => ⟨q.2, rs_g h q.2 rfl⟩)
theorem e_E_worth {w : Wd} {v1 : Int} (h : RS w) (i_v1 : ((-2147483648 : Int) ≤ v1 ∧ v1 ≤ 2147483647)) : OK (f_E_worth v1 w) (fun r u => G md_E_worth w u ∧ RS u) := ok_w (s_E_worth (g_self h.1) i_v1) (fun _ _ q => ⟨q.2, rs_g h q.2 rfl⟩)
theorem e_R_worth {w : Wd} {v1 : Int} (h : RS w) (i_v1 : ((-2147483648 : Int) ≤ v1 ∧ v1 ≤ 2147483647)) : OK (f_R_worth v1 w) (fun r u => G md_R_worth w u ∧ RS u) := ok_w (s_R_worth (g_self h.1) i_v1) (fun _ _ q => ⟨q.2, rs_g h q.2 rfl⟩)
theorem e_E_needed {w : Wd} (h : RS w) : OK (f_E_needed w) (fun r u => G md_E_needed w u ∧ RS u) := ok_w (s_E_needed (g_self h.1)) (fun _ _ q => ⟨q.2, rs_g h q.2 rfl⟩)
theorem e_R_needed {w : Wd} (h : RS w) : OK (f_R_needed w) (fun r u => G md_R_needed w u ∧ RS u) := ok_w (s_R_needed (g_self h.1)) (fun _ _ q => ⟨q.2, rs_g h q.2 rfl⟩)
theorem e_E_never {w : Wd} (h : RS w) : OK (f_E_never w) (fun r u => G md_E_never w u ∧ RS u) := ok_w (s_E_never (g_self h.1)) (fun _ _ q => ⟨q.2, rs_g h q.2 rfl⟩)
theorem e_R_never {w : Wd} (h : RS w) : OK (f_R_never w) (fun r u => G md_R_never w u ∧ RS u) := ok_w (s_R_never (g_self h.1)) (fun _ _ q => ⟨q.2, rs_g h q.2 rfl⟩)
theorem e_E_bound {w : Wd} (h : RS w) : OK (f_E_bound w) (fun r u => G md_E_bound w u ∧ RS u) := ok_w (s_E_bound (g_self h.1)) (fun _ _ q => ⟨q.2, rs_g h q.2 rfl⟩)
theorem e_R_bound {w : Wd} (h : RS w) : OK (f_R_bound w) (fun r u => G md_R_bound w u ∧ RS u) := ok_w (s_R_bound (g_self h.1)) (fun _ _ q => ⟨q.2, rs_g h q.2 rfl⟩)
theorem e_E_far {w : Wd} {v1 : Int} (h : RS w) (i_v1 : ((-2147483648 : Int) ≤ v1 ∧ v1 ≤ 2147483647)) : OK (f_E_far v1 w) (fun r u => G md_E_far w u ∧ RS u) := ok_w (s_E_far (g_self h.1) i_v1) (fun _ _ q => ⟨q.2, rs_g h q.2 rfl⟩)
theorem e_R_far {w : Wd} {v1 : Int} (h : RS w) (i_v1 : ((-2147483648 : Int) ≤ v1 ∧ v1 ≤ 2147483647)) : OK (f_R_far v1 w) (fun r u => G md_R_far w u ∧ RS u) := ok_w (s_R_far (ks_kb h.2.2) (g_self h.1) i_v1) (fun _ _ q => ⟨q.2, rs_g h q.2 rfl⟩)
theorem e_E_line {w : Wd} {v1 : Int} (h : RS w) (i_v1 : ((-2147483648 : Int) ≤ v1 ∧ v1 ≤ 2147483647)) : OK (f_E_line v1 w) (fun r u => G md_E_line w u ∧ RS u) := ok_w (s_E_line (g_self h.1) i_v1) (fun _ _ q => ⟨q.2, rs_g h q.2 rfl⟩)
theorem e_R_line {w : Wd} {v1 : Int} (h : RS w) (i_v1 : ((-2147483648 : Int) ≤ v1 ∧ v1 ≤ 2147483647)) : OK (f_R_line v1 w) (fun r u => G md_R_line w u ∧ RS u) := ok_w (s_R_line (ad_iv h.2.1 (h.1.1 43 0).2) (g_self h.1) i_v1) (fun _ _ q => ⟨q.2, rs_g h q.2 rfl⟩)
theorem e_E_led {w : Wd} {v1 : Int} (h : RS w) (i_v1 : ((-2147483648 : Int) ≤ v1 ∧ v1 ≤ 2147483647)) : OK (f_E_led v1 w) (fun r u => G md_E_led w u ∧ RS u) := ok_w (s_E_led (g_self h.1) i_v1) (fun _ _ q => ⟨q.2, rs_g h q.2 rfl⟩)
theorem e_R_led {w : Wd} {v1 : Int} (h : RS w) (i_v1 : ((-2147483648 : Int) ≤ v1 ∧ v1 ≤ 2147483647)) : OK (f_R_led v1 w) (fun r u => G md_R_led w u ∧ RS u) := ok_w (s_R_led (ad_iv h.2.1 (h.1.1 43 0).2) (g_self h.1) i_v1) (fun _ _ q => ⟨q.2, rs_g h q.2 rfl⟩)
theorem e_E_was {w : Wd} {v1 : Int} (h : RS w) (i_v1 : ((-2147483648 : Int) ≤ v1 ∧ v1 ≤ 2147483647)) : OK (f_E_was v1 w) (fun r u => G md_E_was w u ∧ RS u) := ok_w (s_E_was (g_self h.1) i_v1) (fun _ _ q => ⟨q.2, rs_g h q.2 rfl⟩)
theorem e_R_was {w : Wd} {v1 : Int} (h : RS w) (i_v1 : ((-2147483648 : Int) ≤ v1 ∧ v1 ≤ 2147483647)) : OK (f_R_was v1 w) (fun r u => G md_R_was w u ∧ RS u) := ok_w (s_R_was (g_self h.1) i_v1) (fun _ _ q => ⟨q.2, rs_g h q.2 rfl⟩)
theorem e_E_common {w : Wd} {v1 v2 : Int} (h : RS w) (i_v1 : ((-2147483648 : Int) ≤ v1 ∧ v1 ≤ 2147483647)) (i_v2 : ((-2147483648 : Int) ≤ v2 ∧ v2 ≤ 2147483647)) : OK (f_E_common v1 v2 w) (fun r u => G md_E_common w u ∧ RS u) := ok_w (s_E_common (g_self h.1) i_v1 i_v2) (fun _ _ q => ⟨q.2, rs_g h q.2 rfl⟩)
theorem e_R_common {w : Wd} {v1 v2 : Int} (h : RS w) (i_v1 : ((-2147483648 : Int) ≤ v1 ∧ v1 ≤ 2147483647)) (i_v2 : ((-2147483648 : Int) ≤ v2 ∧ v2 ≤ 2147483647)) : OK (f_R_common v1 v2 w) (fun r u => G md_R_common w u ∧ RS u) := ok_w (s_R_common (ad_iv h.2.1 (h.1.1 43 0).2) (g_self h.1) i_v1 i_v2) (fun _ _ q => ⟨q.2, rs_g h q.2 rfl⟩)
theorem e_E_father {w : Wd} (h : RS w) : OK (f_E_father w) (fun r u => G md_E_father w u ∧ RS u) := ok_w (s_E_father (g_self h.1)) (fun _ _ q => ⟨q.2, rs_g h q.2 rfl⟩)
theorem e_R_father {w : Wd} (h : RS w) : OK (f_R_father w) (fun r u => G md_R_father w u ∧ RS u) := ok_w (s_R_father (g_self h.1)) (fun _ _ q => ⟨q.2, rs_g h q.2 rfl⟩)
theorem e_E_keep {w : Wd} {v1 : Int} (h : RS w) (i_v1 : ((-2147483648 : Int) ≤ v1 ∧ v1 ≤ 2147483647)) : OK (f_E_keep v1 w) (fun r u => G md_E_keep w u ∧ RS u) := ok_w (s_E_keep (g_self h.1) i_v1) (fun _ _ q => ⟨q.2, rs_g h q.2 rfl⟩)
theorem e_R_keep {w : Wd} {v1 : Int} (h : RS w) (i_v1 : ((-2147483648 : Int) ≤ v1 ∧ v1 ≤ 2147483647)) : OK (f_R_keep v1 w) (fun r u => G md_R_keep w u ∧ RS u) := ok_w (ok_pc (s_R_keep (g_self h.1) i_v1) (keep_pc h)) (fun _ _ q => ⟨q.1.2, ⟨g_self q.1.2, q.2⟩⟩)
theorem e_E_again {w : Wd} {v1 : Int} (h : RS w) (i_v1 : ((-2147483648 : Int) ≤ v1 ∧ v1 ≤ 2147483647)) : OK (f_E_again v1 w) (fun r u => G md_E_again w u ∧ RS u) := ok_w (s_E_again (g_self h.1) i_v1) (fun _ _ q => ⟨q.2, rs_g h q.2 rfl⟩)
theorem e_R_again {w : Wd} {v1 : Int} (h : RS w) (i_v1 : ((-2147483648 : Int) ≤ v1 ∧ v1 ≤ 2147483647)) : OK (f_R_again v1 w) (fun r u => G md_R_again w u ∧ RS u ∧ (((r = (0 : Int)) ∧ (((u 43 32) = (w 43 32)) ∧ ((u 43 8) = (w 43 8)))) ∨ ((u 43 32) = (0 : Int)))) := ok_w (ok_pc (s_R_again (g_self h.1) i_v1) (again_pc h)) (fun _ _ q => ⟨q.1.2.1, ⟨g_self q.1.2.1, q.2⟩, q.1.2.2⟩)
theorem e_E_count {w : Wd} {v1 : Int} (h : RS w) (i_v1 : ((-2147483648 : Int) ≤ v1 ∧ v1 ≤ 2147483647)) : OK (f_E_count v1 w) (fun r u => G md_E_count w u ∧ RS u) := ok_w (s_E_count (g_self h.1) i_v1) (fun _ _ q => ⟨q.2, rs_g h q.2 rfl⟩)
theorem e_R_count {w : Wd} {v1 : Int} (h : RS w) (i_v1 : ((-2147483648 : Int) ≤ v1 ∧ v1 ≤ 2147483647)) : OK (f_R_count v1 w) (fun r u => G md_R_count w u ∧ RS u) := ok_w (s_R_count (g_self h.1) i_v1) (fun _ _ q => ⟨q.2, rs_g h q.2 rfl⟩)
theorem e_E_row {w : Wd} {v1 : Int} (h : RS w) (i_v1 : ((-2147483648 : Int) ≤ v1 ∧ v1 ≤ 2147483647)) : OK (f_E_row v1 w) (fun r u => G md_E_row w u ∧ RS u) := ok_w (s_E_row (g_self h.1) i_v1) (fun _ _ q => ⟨q.2, rs_g h q.2 rfl⟩)
theorem e_R_row {w : Wd} {v1 : Int} (h : RS w) (i_v1 : ((-2147483648 : Int) ≤ v1 ∧ v1 ≤ 2147483647)) : OK (f_R_row v1 w) (fun r u => G md_R_row w u ∧ RS u) := ok_w (s_R_row (g_self h.1) i_v1) (fun _ _ q => ⟨q.2, rs_g h q.2 rfl⟩)
theorem e_A_of {w : Wd} {v1 v2 : Int} (h : RS w) (i_v1 : ((-2147483648 : Int) ≤ v1 ∧ v1 ≤ 2147483647)) (i_v2 : ((-2147483648 : Int) ≤ v2 ∧ v2 ≤ 2147483647)) : OK (f_A_of v1 v2 w) (fun _ u => RS u ∧ ∀ c, c ≠ 82 → u c = w c) := by
  unfold f_A_of
  refine ok_call (s_E_of (g_self h.1) i_v1 i_v2) (fun r w1 q => ?_)
  have e1 : w1 = w := g_nil q.2
  subst e1
  have ir := q.1
  refine ok_ite (fun _ => ok_some ⟨h, fun _ _ => rfl⟩) (fun _ => ?_)
  refine ok_gd (by decide) ?_
  refine ok_lw (fun w2 e2 => ?_)
  have g2 : G [8299] w1 w2 := g_st (g_self h.1) e2 rfl rfl (show (-9223372036854775808 : Int) ≤ r ∧ r ≤ 9223372036854775807 by omega)
  have i2 := iv_st h.2 e2 (Or.inl (by decide))
  exact ok_some ⟨⟨g_self g2, i2⟩, fun c hc => funext fun k => by rw [e2]; exact st_c hc⟩
theorem e_A_row {w : Wd} {v1 : Int} (h : RS w) (i_v1 : ((-2147483648 : Int) ≤ v1 ∧ v1 ≤ 2147483647)) : OK (f_A_row v1 w) (fun _ u => RS u ∧ ∀ c, c ≠ 82 → u c = w c) := by
  unfold f_A_row
  refine ok_call (s_E_row (g_self h.1) i_v1) (fun r w1 q => ?_)
  have e1 : w1 = w := g_nil q.2
  subst e1
  have ir := q.1
  refine ok_ite (fun _ => ok_some ⟨h, fun _ _ => rfl⟩) (fun _ => ?_)
  refine ok_gd (by decide) ?_
  refine ok_lw (fun w2 e2 => ?_)
  have g2 : G [8299] w1 w2 := g_st (g_self h.1) e2 rfl rfl (show (-9223372036854775808 : Int) ≤ r ∧ r ≤ 9223372036854775807 by omega)
  have i2 := iv_st h.2 e2 (Or.inl (by decide))
  exact ok_some ⟨⟨g_self g2, i2⟩, fun c hc => funext fun k => by rw [e2]; exact st_c hc⟩
