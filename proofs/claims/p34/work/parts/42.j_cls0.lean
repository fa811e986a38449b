section
theorem s_T_append_19 {b : Wd} : ∀ (n : Nat) {w : Wd} {v1 v2 : Int}, (v2 + (9 : Int)) < (n : Int) → G md_T_append b w → ((-2147483648 : Int) ≤ v1 ∧ v1 ≤ 2147483647) → ((-8 : Int) ≤ v2 ∧ v2 ≤ 24) → ((((8 : Int) * (w 1 1)) + v2) = (((8 : Int) * (b 1 1)) + (24 : Int))) → ((b 1 1) ≤ (76 : Int)) → OK (f_T_append_19 n v1 v2 w) (fun r u => ((-1 : Int) ≤ r ∧ r ≤ 80) ∧ G md_T_append b u ∧ ((((76 : Int) < (b 1 1)) ∧ ((r = (-1 : Int)) ∧ ((u 1 1) = (b 1 1)))) ∨ (((b 1 1) ≤ (76 : Int)) ∧ ((r = (u 1 1)) ∧ ((u 1 1) = ((b 1 1) + (4 : Int))))))) := by
  intro n
  induction n with
  | zero =>
    intro w v1 v2 hm hG i_v1 i_v2 a_0 a_1
    exfalso
    omega
  | succ n ih =>
    intro w v1 v2 hm hG i_v1 i_v2 a_0 a_1
    rw [f_T_append_19]
    have : (0 : Int) ≤ (w 1 1) ∧ (w 1 1) ≤ 80 := hG.1 1 1
    refine ok_ite (fun h1 => ?_) (fun h2 => ?_)
    · exact ok_some ⟨by omega, hG, (by omega)⟩
    · refine ok_gd (by omega) ?_
      have := ishr_rg v1 v2
      have := iand_r (x := (ishr v1 v2)) (y := (255 : Int)) (by omega)
      have := i2c_rg (iand (ishr v1 v2) (255 : Int))
      have := nc_rg (i2c (iand (ishr v1 v2) (255 : Int)))
      refine ok_lw (fun u1 e3 => ?_)
      have g4 : G md_T_append b u1 := g_st hG e3 rfl rfl (show (0 : Int) ≤ (nc (i2c (iand (ishr v1 v2) (255 : Int)))) ∧ (nc (i2c (iand (ishr v1 v2) (255 : Int)))) ≤ 65535 by omega)
      have : (0 : Int) ≤ (u1 1 1) ∧ (u1 1 1) ≤ 80 := g4.1 1 1
      have : (u1 1 1) = (w 1 1) := (congrFun (congrFun e3 1) 1).trans (st_c (by decide))
      have := w32_sp (((u1 1 1) + (1 : Int)))
      refine ok_lw (fun u2 e5 => ?_)
      have g6 : G md_T_append b u2 := g_st g4 e5 rfl rfl (show (0 : Int) ≤ (w32 ((u1 1 1) + (1 : Int))) ∧ (w32 ((u1 1 1) + (1 : Int))) ≤ 80 by omega)
      have := w32_sp ((v2 + (-8 : Int)))
      refine ok_let (fun x3 e7 => ?_)
      have : (-8 : Int) ≤ x3 ∧ x3 ≤ 16 := by omega
      have : (0 : Int) ≤ (u2 1 1) ∧ (u2 1 1) ≤ 80 := g6.1 1 1
      have : (u2 1 1) = (w32 ((u1 1 1) + (1 : Int))) := (congrFun (congrFun e5 1) 1).trans (st_eq _ _ _ _)
      exact ih (by omega) g6 (by omega) (by omega) (by omega) (by omega)
theorem s_T_append {w : Wd} {v1 : Int} (hG : G md_T_append w w) (i_v1 : ((-2147483648 : Int) ≤ v1 ∧ v1 ≤ 2147483647)) : OK (f_T_append v1 w) (fun r u => ((-1 : Int) ≤ r ∧ r ≤ 80) ∧ G md_T_append w u ∧ ((((76 : Int) < (w 1 1)) ∧ ((r = (-1 : Int)) ∧ ((u 1 1) = (w 1 1)))) ∨ (((w 1 1) ≤ (76 : Int)) ∧ ((r = (u 1 1)) ∧ ((u 1 1) = ((w 1 1) + (4 : Int))))))) := by
  unfold f_T_append
  have : (0 : Int) ≤ (w 1 1) ∧ (w 1 1) ≤ 80 := hG.1 1 1
  have := w32_sp (((w 1 1) + (4 : Int)))
  refine ok_ite (fun h8 => ?_) (fun h9 => ?_)
  · exact s_T_append_19 FU (by have := eqFU; omega) hG (by omega) (by omega) (by omega) (by omega)
  · exact ok_some ⟨by omega, hG, (by omega)⟩
theorem s_E_sign {w : Wd} {v1 : Int} (hG : G md_E_sign w w) (i_v1 : ((-2147483648 : Int) ≤ v1 ∧ v1 ≤ 2147483647)) : OK (f_E_sign v1 w) (fun r u => ((-1 : Int) ≤ r ∧ r ≤ 80) ∧ G md_E_sign w u ∧ ((((76 : Int) < (w 1 1)) ∧ ((r = (-1 : Int)) ∧ ((u 1 1) = (w 1 1)))) ∨ (((w 1 1) ≤ (76 : Int)) ∧ ((r = (u 1 1)) ∧ ((u 1 1) = ((w 1 1) + (4 : Int))))))) := by
  unfold f_E_sign
  refine ok_call (s_T_append (g_self hG) (by omega)) (fun r1 u2 q => ?_)
  obtain ⟨i10, g11, p13⟩ := q
  have g12 : G md_E_sign w u2 := g_tr hG g11 rfl
  have : (0 : Int) ≤ (w 1 1) ∧ (w 1 1) ≤ 80 := hG.1 1 1
  have : (0 : Int) ≤ (u2 1 1) ∧ (u2 1 1) ≤ 80 := g12.1 1 1
  exact ok_some ⟨by omega, g12, (by omega)⟩
theorem s_T_cut {w : Wd} {v1 : Int} (hG : G md_T_cut w w) (i_v1 : ((-2147483648 : Int) ≤ v1 ∧ v1 ≤ 2147483647)) : OK (f_T_cut v1 w) (fun r u => ((0 : Int) ≤ r ∧ r ≤ 1) ∧ G md_T_cut w u ∧ ((((v1 < (0 : Int)) ∨ ((w 1 1) < v1)) ∧ ((r = (0 : Int)) ∧ ((u 1 1) = (w 1 1)))) ∨ (((0 : Int) ≤ v1) ∧ ((v1 ≤ (w 1 1)) ∧ ((r = (1 : Int)) ∧ ((u 1 1) = v1)))))) := by
  unfold f_T_cut
  refine ok_ite (fun h14 => ?_) (fun h15 => ?_)
  · have : (0 : Int) ≤ (w 1 1) ∧ (w 1 1) ≤ 80 := hG.1 1 1
    exact ok_some ⟨by omega, hG, (by omega)⟩
  · have : (0 : Int) ≤ (w 1 1) ∧ (w 1 1) ≤ 80 := hG.1 1 1
    refine ok_ite (fun h16 => ?_) (fun h17 => ?_)
    · refine ok_lw (fun u1 e18 => ?_)
      have g19 : G md_T_cut w u1 := g_st hG e18 rfl rfl (show (0 : Int) ≤ v1 ∧ v1 ≤ 80 by omega)
      have : (0 : Int) ≤ (u1 1 1) ∧ (u1 1 1) ≤ 80 := g19.1 1 1
      have : (u1 1 1) = v1 := (congrFun (congrFun e18 1) 1).trans (st_eq _ _ _ _)
      exact ok_some ⟨by omega, g19, (by omega)⟩
    · exact ok_some ⟨by omega, hG, (by omega)⟩
theorem s_E_end {w : Wd} {v1 : Int} (hG : G md_E_end w w) (i_v1 : ((-2147483648 : Int) ≤ v1 ∧ v1 ≤ 2147483647)) : OK (f_E_end v1 w) (fun r u => ((0 : Int) ≤ r ∧ r ≤ 1) ∧ G md_E_end w u ∧ ((((v1 < (0 : Int)) ∨ ((w 1 1) < v1)) ∧ ((r = (0 : Int)) ∧ ((u 1 1) = (w 1 1)))) ∨ (((0 : Int) ≤ v1) ∧ ((v1 ≤ (w 1 1)) ∧ ((r = (1 : Int)) ∧ ((u 1 1) = v1)))))) := by
  unfold f_E_end
  refine ok_call (s_T_cut (g_self hG) (by omega)) (fun r1 u2 q => ?_)
  obtain ⟨i20, g21, p23⟩ := q
  have g22 : G md_E_end w u2 := g_tr hG g21 rfl
  have : (0 : Int) ≤ (w 1 1) ∧ (w 1 1) ≤ 80 := hG.1 1 1
  have : (0 : Int) ≤ (u2 1 1) ∧ (u2 1 1) ≤ 80 := g22.1 1 1
  refine ok_it (by omega) ?_
  exact ok_some ⟨by omega, g22, (by omega)⟩
theorem s_T_signAt {w : Wd} {v1 v2 : Int} (hG : G md_T_signAt w w) (i_v1 : ((0 : Int) ≤ v1 ∧ v1 ≤ 80)) (i_v2 : ((40 : Int) ≤ v2 ∧ v2 ≤ 76)) : OK (f_T_signAt v1 v2 w) (fun r u => ((-2 : Int) ≤ r ∧ r ≤ 65535) ∧ G md_T_signAt w u ∧ ((r < (0 : Int)) ∨ (v1 < (u 1 1)))) := by
  unfold f_T_signAt
  refine ok_if (by omega) ?_
  have : (0 : Int) ≤ (w 1 1) ∧ (w 1 1) ≤ 80 := hG.1 1 1
  refine ok_ite (fun h24 => ?_) (fun h25 => ?_)
  · refine ok_ite (fun h26 => ?_) (fun h27 => ?_)
    · refine ok_gd (by omega) ?_
      have : (0 : Int) ≤ (w 2 (v1).toNat) ∧ (w 2 (v1).toNat) ≤ 65535 := hG.1 2 (v1).toNat
      exact ok_some ⟨by omega, hG, (by omega)⟩
    · exact ok_some ⟨by omega, hG, (by omega)⟩
  · exact ok_some ⟨by omega, hG, (by omega)⟩
theorem s_L_take_34 {b : Wd} {w : Wd} {v3 s1 s2 : Int} (hG : G md_L_take b w) (i_v3 : ((0 : Int) ≤ v3 ∧ v3 ≤ 1)) (i_s1 : ((0 : Int) ≤ s1 ∧ s1 ≤ 80)) (i_s2 : ((0 : Int) ≤ s2 ∧ s2 ≤ 1)) (a_0 : ((s1 + s2) ≤ (80 : Int))) : OK (f_L_take_34 v3 s1 s2 w) (fun r u => ((0 : Int) ≤ r ∧ r ≤ 1) ∧ G md_L_take b u) := by
  unfold f_L_take_34
  have := w32_sp ((s1 + s2))
  refine ok_lw (fun u3 e28 => ?_)
  have g29 : G md_L_take b u3 := g_st hG e28 rfl rfl (show (0 : Int) ≤ (w32 (s1 + s2)) ∧ (w32 (s1 + s2)) ≤ 80 by omega)
  refine ok_it (by omega) ?_
  exact ok_some ⟨by omega, g29⟩
theorem s_L_take_19 {b : Wd} {w : Wd} {s0 : Int} (hG : G md_L_take b w) (i_s0 : ((0 : Int) ≤ s0 ∧ s0 ≤ 1)) (a_0 : ((s0 = (0 : Int)) ∨ ((w 9 5) ≤ (79 : Int)))) : OK (f_L_take_19 s0 w) (fun r u => ((0 : Int) ≤ r ∧ r ≤ 1) ∧ G md_L_take b u) := by
  unfold f_L_take_19
  have : (0 : Int) ≤ (w 9 5) ∧ (w 9 5) ≤ 80 := hG.1 9 5
  refine ok_ite (fun h30 => ?_) (fun h31 => ?_)
  · exact s_L_take_34 hG (by omega) (by omega) (by omega) (by omega)
  · exact s_L_take_34 hG (by omega) (by omega) (by omega) (by omega)
theorem s_L_take {w : Wd} {v2 : Int} (hG : G md_L_take w w) (i_v2 : ((33 : Int) ≤ v2 ∧ v2 ≤ 127)) (a_0 : ((0 : Int) ≤ v2)) : OK (f_L_take v2 w) (fun r u => ((0 : Int) ≤ r ∧ r ≤ 1) ∧ G md_L_take w u) := by
  unfold f_L_take
  have : (0 : Int) ≤ (w 9 5) ∧ (w 9 5) ≤ 80 := hG.1 9 5
  refine ok_call (s_T_signAt (g_self hG) (by omega) (by omega)) (fun r1 u2 q => ?_)
  obtain ⟨i32, g33, p35⟩ := q
  have g34 : G md_L_take w u2 := g_tr hG g33 rfl
  have : (0 : Int) ≤ (u2 1 1) ∧ (u2 1 1) ≤ 80 := g34.1 1 1
  have : (u2 1 1) = (w 1 1) := g33.2.1 1 1 rfl
  have : (0 : Int) ≤ (w 1 1) ∧ (w 1 1) ≤ 80 := hG.1 1 1
  refine ok_ite (fun h36 => ?_) (fun h37 => ?_)
  · have : (0 : Int) ≤ (u2 9 5) ∧ (u2 9 5) ≤ 80 := g34.1 9 5
    have : (u2 9 5) = (w 9 5) := g33.2.1 9 5 rfl
    exact s_L_take_19 g34 (by omega) (by omega)
  · have : (0 : Int) ≤ (u2 9 5) ∧ (u2 9 5) ≤ 80 := g34.1 9 5
    have : (u2 9 5) = (w 9 5) := g33.2.1 9 5 rfl
    exact s_L_take_19 g34 (by omega) (by omega)
theorem s_L_readLine_163 {b : Wd} {w : Wd} {s1 s2 : Int} (hG : G md_L_readLine b w) (i_s1 : ((0 : Int) ≤ s1 ∧ s1 ≤ 1023)) (i_s2 : ((0 : Int) ≤ s2 ∧ s2 ≤ 512)) (a_0 : ((w 9 4) ≤ (9 : Int))) : OK (f_L_readLine_163 s1 s2 w) (fun r u => ((0 : Int) ≤ r ∧ r ≤ 1) ∧ G md_L_readLine b u) := by
  unfold f_L_readLine_163
  have : (0 : Int) ≤ (w 9 4) ∧ (w 9 4) ≤ 10 := hG.1 9 4
  have := ior_n 10 (x := s1) (y := s2) (m := 1023) (by decide) (by decide) (by omega) (by omega)
  refine ok_lw (fun u11 e38 => ?_)
  have g39 : G md_L_readLine b u11 := g_st hG e38 rfl rfl (show (0 : Int) ≤ (ior s1 s2) ∧ (ior s1 s2) ≤ 1023 by omega)
  have : (0 : Int) ≤ (u11 9 4) ∧ (u11 9 4) ≤ 10 := g39.1 9 4
  have : (u11 9 4) = (w 9 4) := (congrFun (congrFun e38 9) 4).trans (st_k (by decide))
  have := w32_sp (((u11 9 4) + (1 : Int)))
  refine ok_lw (fun u12 e40 => ?_)
  have g41 : G md_L_readLine b u12 := g_st g39 e40 rfl rfl (show (0 : Int) ≤ (w32 ((u11 9 4) + (1 : Int))) ∧ (w32 ((u11 9 4) + (1 : Int))) ≤ 10 by omega)
  exact ok_some ⟨by omega, g41⟩
theorem s_L_readLine_137 {b : Wd} {w : Wd} {v2 s1 s2 : Int} (hG : G md_L_readLine b w) (i_v2 : ((0 : Int) ≤ v2 ∧ v2 ≤ 9)) (i_s1 : ((0 : Int) ≤ s1 ∧ s1 ≤ 1023)) (i_s2 : ((0 : Int) ≤ s2 ∧ s2 ≤ 512)) (a_0 : ((w 9 4) ≤ (9 : Int))) : OK (f_L_readLine_137 v2 s1 s2 w) (fun r u => ((0 : Int) ≤ r ∧ r ≤ 1) ∧ G md_L_readLine b u) := by
  unfold f_L_readLine_137
  have : (0 : Int) ≤ (w 9 4) ∧ (w 9 4) ≤ 10 := hG.1 9 4
  have := ior_n 10 (x := s1) (y := s2) (m := 1023) (by decide) (by decide) (by omega) (by omega)
  refine ok_lw (fun u8 e42 => ?_)
  have g43 : G md_L_readLine b u8 := g_st hG e42 rfl rfl (show (0 : Int) ≤ (ior s1 s2) ∧ (ior s1 s2) ≤ 1023 by omega)
  refine ok_call (s_L_take (g_self g43) (by omega) (by omega)) (fun r9 u10 q => ?_)
  obtain ⟨i44, g45⟩ := q
  have g46 : G md_L_readLine b u10 := g_tr g43 g45 rfl
  refine ok_ite (fun h47 => ?_) (fun h48 => ?_)
  · have : (0 : Int) ≤ (u8 9 3) ∧ (u8 9 3) ≤ 1023 := g43.1 9 3
    have : (u8 9 3) = (w 9 3) := (congrFun (congrFun e42 9) 3).trans (st_k (by decide))
    have : (0 : Int) ≤ (w 9 3) ∧ (w 9 3) ≤ 1023 := hG.1 9 3
    have : (0 : Int) ≤ (u10 9 4) ∧ (u10 9 4) ≤ 10 := g46.1 9 4
    have : (u10 9 4) = (u8 9 4) := g45.2.1 9 4 rfl
    have : (0 : Int) ≤ (u8 9 4) ∧ (u8 9 4) ≤ 10 := g43.1 9 4
    have : (u8 9 4) = (w 9 4) := (congrFun (congrFun e42 9) 4).trans (st_k (by decide))
    exact s_L_readLine_163 g46 (by omega) (by omega) (by omega)
  · have : (0 : Int) ≤ (u8 9 3) ∧ (u8 9 3) ≤ 1023 := g43.1 9 3
    have : (u8 9 3) = (w 9 3) := (congrFun (congrFun e42 9) 3).trans (st_k (by decide))
    have : (0 : Int) ≤ (w 9 3) ∧ (w 9 3) ≤ 1023 := hG.1 9 3
    have := ishl1_n 9 (i := v2) (j := 9) (m := 512) (by decide) (by decide) (by decide) (by omega)
    have : (0 : Int) ≤ (u10 9 4) ∧ (u10 9 4) ≤ 10 := g46.1 9 4
    have : (u10 9 4) = (u8 9 4) := g45.2.1 9 4 rfl
    have : (0 : Int) ≤ (u8 9 4) ∧ (u8 9 4) ≤ 10 := g43.1 9 4
    have : (u8 9 4) = (w 9 4) := (congrFun (congrFun e42 9) 4).trans (st_k (by decide))
    exact s_L_readLine_163 g46 (by omega) (by omega) (by omega)
theorem s_L_readLine_107 {b : Wd} {k70 : Int → Int → Wd → Option (Int × Wd)} {Bk70 : Int} (hk70 : ∀ {w1 : Wd} {v2 v4 : Int}, ((10 : Int) - v4) < Bk70 → G md_L_readLine b w1 → ((0 : Int) ≤ v2 ∧ v2 ≤ 9) → ((0 : Int) ≤ v4 ∧ v4 ≤ 9) → ((w1 9 4) ≤ (9 : Int)) → OK (k70 v2 v4 w1) (fun r u => ((0 : Int) ≤ r ∧ r ≤ 1) ∧ G md_L_readLine b u)) {w : Wd} {v2 v4 s1 s2 s3 : Int} (hG : G md_L_readLine b w) (i_v2 : ((1 : Int) ≤ v2 ∧ v2 ≤ 9)) (i_v4 : ((0 : Int) ≤ v4 ∧ v4 ≤ 8)) (i_s1 : ((0 : Int) ≤ s1 ∧ s1 ≤ 9)) (i_s2 : ((0 : Int) ≤ s2 ∧ s2 ≤ 511)) (i_s3 : ((0 : Int) ≤ s3 ∧ s3 ≤ 256)) (a_0 : ((w 9 4) ≤ (9 : Int))) (hBk70 : ((10 : Int) - v4) ≤ Bk70) : OK (f_L_readLine_107 k70 v2 v4 s1 s2 s3 w) (fun r u => ((0 : Int) ≤ r ∧ r ≤ 1) ∧ G md_L_readLine b u) := by
  unfold f_L_readLine_107
  have : (0 : Int) ≤ (w 9 4) ∧ (w 9 4) ≤ 10 := hG.1 9 4
  refine ok_gd (by omega) ?_
  have := ior_n 9 (x := s2) (y := s3) (m := 511) (by decide) (by decide) (by omega) (by omega)
  refine ok_lw (fun u16 e49 => ?_)
  have g50 : G md_L_readLine b u16 := g_st hG e49 rfl rfl (show (0 : Int) ≤ (ior s2 s3) ∧ (ior s2 s3) ≤ 511 by omega)
  have := w32_sp ((v4 + (1 : Int)))
  refine ok_let (fun x17 e51 => ?_)
  have : (1 : Int) ≤ x17 ∧ x17 ≤ 9 := by omega
  have : (0 : Int) ≤ (u16 9 4) ∧ (u16 9 4) ≤ 10 := g50.1 9 4
  have : (u16 9 4) = (w 9 4) := (congrFun (congrFun e49 9) 4).trans (st_c (by decide))
  exact hk70 (by omega) g50 (by omega) (by omega) (by omega)
theorem s_L_readLine_70 {b : Wd} : ∀ (n : Nat) {w : Wd} {v2 v4 : Int}, ((10 : Int) - v4) < (n : Int) → G md_L_readLine b w → ((0 : Int) ≤ v2 ∧ v2 ≤ 9) → ((0 : Int) ≤ v4 ∧ v4 ≤ 9) → ((w 9 4) ≤ (9 : Int)) → OK (f_L_readLine_70 n v2 v4 w) (fun r u => ((0 : Int) ≤ r ∧ r ≤ 1) ∧ G md_L_readLine b u) := by
  intro n
  induction n with
  | zero =>
    intro w v2 v4 hm hG i_v2 i_v4 a_0
    exfalso
    omega
  | succ n ih =>
    intro w v2 v4 hm hG i_v2 i_v4 a_0
    rw [f_L_readLine_70]
    have : (0 : Int) ≤ (w 9 4) ∧ (w 9 4) ≤ 10 := hG.1 9 4
    refine ok_ite (fun h52 => ?_) (fun h53 => ?_)
    · refine ok_call (s_L_take (g_self hG) (by omega) (by omega)) (fun r6 u7 q => ?_)
      obtain ⟨i54, g55⟩ := q
      have g56 : G md_L_readLine b u7 := g_tr hG g55 rfl
      refine ok_ite (fun h57 => ?_) (fun h58 => ?_)
      · have : (0 : Int) ≤ (w 9 2) ∧ (w 9 2) ≤ 1023 := hG.1 9 2
        have : (0 : Int) ≤ (u7 9 4) ∧ (u7 9 4) ≤ 10 := g56.1 9 4
        have : (u7 9 4) = (w 9 4) := g55.2.1 9 4 rfl
        exact s_L_readLine_137 g56 (by omega) (by omega) (by omega) (by omega)
      · have : (0 : Int) ≤ (w 9 2) ∧ (w 9 2) ≤ 1023 := hG.1 9 2
        have := ishl1_n 9 (i := v2) (j := 9) (m := 512) (by decide) (by decide) (by decide) (by omega)
        have : (0 : Int) ≤ (u7 9 4) ∧ (u7 9 4) ≤ 10 := g56.1 9 4
        have : (u7 9 4) = (w 9 4) := g55.2.1 9 4 rfl
        exact s_L_readLine_137 g56 (by omega) (by omega) (by omega) (by omega)
    · refine ok_let (fun x13 e59 => ?_)
      have : (0 : Int) ≤ x13 ∧ x13 ≤ 10 := by omega
      refine ok_gd (by omega) ?_
      have := w32_sp (((97 : Int) + v4))
      refine ok_call (s_L_take (g_self hG) (by omega) (by omega)) (fun r14 u15 q => ?_)
      obtain ⟨i60, g61⟩ := q
      have g62 : G md_L_readLine b u15 := g_tr hG g61 rfl
      refine ok_ite (fun h63 => ?_) (fun h64 => ?_)
      · have : (0 : Int) ≤ (w 11 (x13).toNat) ∧ (w 11 (x13).toNat) ≤ 511 := hG.1 11 (x13).toNat
        have : (0 : Int) ≤ (u15 9 4) ∧ (u15 9 4) ≤ 10 := g62.1 9 4
        have : (u15 9 4) = (w 9 4) := g61.2.1 9 4 rfl
        exact s_L_readLine_107 ih g62 (by omega) (by omega) (by omega) (by omega) (by omega) (by omega) (by omega)
      · have : (0 : Int) ≤ (w 11 (x13).toNat) ∧ (w 11 (x13).toNat) ≤ 511 := hG.1 11 (x13).toNat
        have := ishl1_n 8 (i := v4) (j := 8) (m := 256) (by decide) (by decide) (by decide) (by omega)
        have : (0 : Int) ≤ (u15 9 4) ∧ (u15 9 4) ≤ 10 := g62.1 9 4
        have : (u15 9 4) = (w 9 4) := g61.2.1 9 4 rfl
        exact s_L_readLine_107 ih g62 (by omega) (by omega) (by omega) (by omega) (by omega) (by omega) (by omega)
theorem s_L_readLine {w : Wd} {v2 : Int} (hG : G md_L_readLine w w) (i_v2 : ((0 : Int) ≤ v2 ∧ v2 ≤ 9)) : OK (f_L_readLine v2 w) (fun r u => ((0 : Int) ≤ r ∧ r ≤ 1) ∧ G md_L_readLine w u) := by
  unfold f_L_readLine
  have : (0 : Int) ≤ (w 9 5) ∧ (w 9 5) ≤ 80 := hG.1 9 5
  refine ok_call (s_T_signAt (g_self hG) (by omega) (by omega)) (fun r1 u2 q => ?_)
  obtain ⟨i65, g66, p68⟩ := q
  have g67 : G md_L_readLine w u2 := g_tr hG g66 rfl
  have : (0 : Int) ≤ (u2 1 1) ∧ (u2 1 1) ≤ 80 := g67.1 1 1
  have : (u2 1 1) = (w 1 1) := g66.2.1 1 1 rfl
  have : (0 : Int) ≤ (w 1 1) ∧ (w 1 1) ≤ 80 := hG.1 1 1
  refine ok_ite (fun h69 => ?_) (fun h70 => ?_)
  · exact ok_some ⟨by omega, g67⟩
  · refine ok_ite (fun h71 => ?_) (fun h72 => ?_)
    · exact ok_some ⟨by omega, g67⟩
    · have : (0 : Int) ≤ (u2 9 4) ∧ (u2 9 4) ≤ 10 := g67.1 9 4
      have : (u2 9 4) = (w 9 4) := g66.2.1 9 4 rfl
      have : (0 : Int) ≤ (w 9 4) ∧ (w 9 4) ≤ 10 := hG.1 9 4
      refine ok_ite (fun h73 => ?_) (fun h74 => ?_)
      · have : (0 : Int) ≤ (u2 9 5) ∧ (u2 9 5) ≤ 80 := g67.1 9 5
        have : (u2 9 5) = (w 9 5) := g66.2.1 9 5 rfl
        have := w32_sp (((u2 9 5) + (1 : Int)))
        refine ok_lw (fun u3 e75 => ?_)
        have g76 : G md_L_readLine w u3 := g_st g67 e75 rfl rfl (show (0 : Int) ≤ (w32 ((u2 9 5) + (1 : Int))) ∧ (w32 ((u2 9 5) + (1 : Int))) ≤ 80 by omega)
        have : (0 : Int) ≤ (u3 9 4) ∧ (u3 9 4) ≤ 10 := g76.1 9 4
        have : (u3 9 4) = (u2 9 4) := (congrFun (congrFun e75 9) 4).trans (st_k (by decide))
        refine ok_gd (by omega) ?_
        have := w32_sp ((r1 - (48 : Int)))
        refine ok_lw (fun u4 e77 => ?_)
        have g78 : G md_L_readLine w u4 := g_st g76 e77 rfl rfl (show (0 : Int) ≤ (w32 (r1 - (48 : Int))) ∧ (w32 (r1 - (48 : Int))) ≤ 9 by omega)
        have : (0 : Int) ≤ (u4 9 4) ∧ (u4 9 4) ≤ 10 := g78.1 9 4
        have : (u4 9 4) = (u3 9 4) := (congrFun (congrFun e77 9) 4).trans (st_c (by decide))
        refine ok_gd (by omega) ?_
        refine ok_lw (fun u5 e79 => ?_)
        have g80 : G md_L_readLine w u5 := g_st g78 e79 rfl rfl (show (0 : Int) ≤ (0 : Int) ∧ (0 : Int) ≤ 511 by omega)
        have : (0 : Int) ≤ (u5 9 4) ∧ (u5 9 4) ≤ 10 := g80.1 9 4
        have : (u5 9 4) = (u4 9 4) := (congrFun (congrFun e79 9) 4).trans (st_c (by decide))
        exact s_L_readLine_70 FU (by have := eqFU; omega) g80 (by omega) (by omega) (by omega)
      · exact ok_some ⟨by omega, g67⟩
theorem s_L_read_31 {b : Wd} : ∀ (n : Nat) {w : Wd} {v3 : Int}, ((11 : Int) - v3) < (n : Int) → G md_L_read b w → ((0 : Int) ≤ v3 ∧ v3 ≤ 10) → OK (f_L_read_31 n v3 w) (fun r u => ((-81 : Int) ≤ r ∧ r ≤ 10) ∧ G md_L_read b u) := by
  intro n
  induction n with
  | zero =>
    intro w v3 hm hG i_v3
    exfalso
    omega
  | succ n ih =>
    intro w v3 hm hG i_v3
    rw [f_L_read_31]
    refine ok_ite (fun h81 => ?_) (fun h82 => ?_)
    · have : (0 : Int) ≤ (w 9 5) ∧ (w 9 5) ≤ 80 := hG.1 9 5
      have := w32_sp (((-1 : Int) - (w 9 5)))
      exact ok_some ⟨by omega, hG⟩
    · refine ok_call (s_L_readLine (g_self hG) (by omega)) (fun r5 u6 q => ?_)
      obtain ⟨i83, g84⟩ := q
      have g85 : G md_L_read b u6 := g_tr hG g84 rfl
      refine ok_ite (fun h86 => ?_) (fun h87 => ?_)
      · have : (0 : Int) ≤ (u6 9 5) ∧ (u6 9 5) ≤ 80 := g85.1 9 5
        have := w32_sp (((-1 : Int) - (u6 9 5)))
        exact ok_some ⟨by omega, g85⟩
      · have : (0 : Int) ≤ (u6 9 5) ∧ (u6 9 5) ≤ 80 := g85.1 9 5
        refine ok_call (s_T_signAt (g_self g85) (by omega) (by omega)) (fun r7 u8 q => ?_)
        obtain ⟨i88, g89, p91⟩ := q
        have g90 : G md_L_read b u8 := g_tr g85 g89 rfl
        have : (0 : Int) ≤ (u8 1 1) ∧ (u8 1 1) ≤ 80 := g90.1 1 1
        have : (u8 1 1) = (u6 1 1) := g89.2.1 1 1 rfl
        have : (0 : Int) ≤ (u6 1 1) ∧ (u6 1 1) ≤ 80 := g85.1 1 1
        have : (u6 1 1) = (w 1 1) := g84.2.1 1 1 rfl
        have : (0 : Int) ≤ (w 1 1) ∧ (w 1 1) ≤ 80 := hG.1 1 1
        have : (w 1 1) = (b 1 1) := hG.2.1 1 1 rfl
        refine ok_ite (fun h92 => ?_) (fun h93 => ?_)
        · have : (0 : Int) ≤ (u8 9 4) ∧ (u8 9 4) ≤ 10 := g90.1 9 4
          have : (u8 9 4) = (u6 9 4) := g89.2.1 9 4 rfl
          have : (0 : Int) ≤ (u6 9 4) ∧ (u6 9 4) ≤ 10 := g85.1 9 4
          exact ok_some ⟨by omega, g90⟩
        · refine ok_ite (fun h94 => ?_) (fun h95 => ?_)
          · have : (0 : Int) ≤ (u8 9 5) ∧ (u8 9 5) ≤ 80 := g90.1 9 5
            have : (u8 9 5) = (u6 9 5) := g89.2.1 9 5 rfl
            have := w32_sp (((u8 9 5) + (1 : Int)))
            refine ok_lw (fun u9 e96 => ?_)
            have g97 : G md_L_read b u9 := g_st g90 e96 rfl rfl (show (0 : Int) ≤ (w32 ((u8 9 5) + (1 : Int))) ∧ (w32 ((u8 9 5) + (1 : Int))) ≤ 80 by omega)
            have := w32_sp ((v3 + (1 : Int)))
            refine ok_let (fun x10 e98 => ?_)
            have : (1 : Int) ≤ x10 ∧ x10 ≤ 10 := by omega
            exact ih (by omega) g97 (by omega)
          · have : (0 : Int) ≤ (u8 9 5) ∧ (u8 9 5) ≤ 80 := g90.1 9 5
            have : (u8 9 5) = (u6 9 5) := g89.2.1 9 5 rfl
            have := w32_sp (((-1 : Int) - (u8 9 5)))
            exact ok_some ⟨by omega, g90⟩
theorem s_L_read {w : Wd} {v2 : Int} (hG : G md_L_read w w) (i_v2 : ((0 : Int) ≤ v2 ∧ v2 ≤ 10)) : OK (f_L_read v2 w) (fun r u => ((-81 : Int) ≤ r ∧ r ≤ 10) ∧ G md_L_read w u) := by
  unfold f_L_read
  refine ok_lw (fun u1 e99 => ?_)
  have g100 : G md_L_read w u1 := g_st hG e99 rfl rfl (show (0 : Int) ≤ (0 : Int) ∧ (0 : Int) ≤ 1023 by omega)
  refine ok_lw (fun u2 e101 => ?_)
  have g102 : G md_L_read w u2 := g_st g100 e101 rfl rfl (show (0 : Int) ≤ (0 : Int) ∧ (0 : Int) ≤ 1023 by omega)
  refine ok_lw (fun u3 e103 => ?_)
  have g104 : G md_L_read w u3 := g_st g102 e103 rfl rfl (show (0 : Int) ≤ (0 : Int) ∧ (0 : Int) ≤ 10 by omega)
  refine ok_lw (fun u4 e105 => ?_)
  have g106 : G md_L_read w u4 := g_st g104 e105 rfl rfl (show (0 : Int) ≤ (0 : Int) ∧ (0 : Int) ≤ 80 by omega)
  have : (0 : Int) ≤ (u4 1 1) ∧ (u4 1 1) ≤ 80 := g106.1 1 1
  have : (u4 1 1) = (u3 1 1) := (congrFun (congrFun e105 1) 1).trans (st_c (by decide))
  have : (0 : Int) ≤ (u3 1 1) ∧ (u3 1 1) ≤ 80 := g104.1 1 1
  have : (u3 1 1) = (u2 1 1) := (congrFun (congrFun e103 1) 1).trans (st_c (by decide))
  have : (0 : Int) ≤ (u2 1 1) ∧ (u2 1 1) ≤ 80 := g102.1 1 1
  have : (u2 1 1) = (u1 1 1) := (congrFun (congrFun e101 1) 1).trans (st_c (by decide))
  have : (0 : Int) ≤ (u1 1 1) ∧ (u1 1 1) ≤ 80 := g100.1 1 1
  have : (u1 1 1) = (w 1 1) := (congrFun (congrFun e99 1) 1).trans (st_c (by decide))
  have : (0 : Int) ≤ (w 1 1) ∧ (w 1 1) ≤ 80 := hG.1 1 1
  refine ok_ite (fun h107 => ?_) (fun h108 => ?_)
  · exact ok_some ⟨by omega, g106⟩
  · exact s_L_read_31 FU (by have := eqFU; omega) g106 (by omega)
theorem s_T_clear {w : Wd} (hG : G md_T_clear w w) : OK (f_T_clear w) (fun r u => ((0 : Int) ≤ r ∧ r ≤ 0) ∧ G md_T_clear w u ∧ ((u 1 1) = (0 : Int))) := by
  unfold f_T_clear
  refine ok_lw (fun u1 e109 => ?_)
  have g110 : G md_T_clear w u1 := g_st hG e109 rfl rfl (show (0 : Int) ≤ (0 : Int) ∧ (0 : Int) ≤ 80 by omega)
  have : (0 : Int) ≤ (u1 1 1) ∧ (u1 1 1) ≤ 80 := g110.1 1 1
  have : (u1 1 1) = (0 : Int) := (congrFun (congrFun e109 1) 1).trans (st_eq _ _ _ _)
  exact ok_some ⟨by omega, g110, (by omega)⟩
theorem s_E_with {w : Wd} {v0 v1 v2 : Int} (hG : G md_E_with w w) (i_v0 : ((-2147483648 : Int) ≤ v0 ∧ v0 ≤ 2147483647)) (i_v1 : ((0 : Int) ≤ v1 ∧ v1 ≤ 10)) (i_v2 : ((0 : Int) ≤ v2 ∧ v2 ≤ 1)) : OK (f_E_with v0 v1 v2 w) (fun r u => ((-2147483648 : Int) ≤ r ∧ r ≤ 2147483647) ∧ G md_E_with w u) := by
  unfold f_E_with
  refine ok_ite (fun h111 => ?_) (fun h112 => ?_)
  · have := ishl1_n 10 (i := v1) (j := 10) (m := 1024) (by decide) (by decide) (by decide) (by omega)
    have := ixor_m1 (x := (ishl (1 : Int) v1)) (by omega)
    have := iand_rg v0 (ixor (ishl (1 : Int) v1) (-1 : Int))
    exact ok_some ⟨by omega, hG⟩
  · have := ishl1_n 10 (i := v1) (j := 10) (m := 1024) (by decide) (by decide) (by decide) (by omega)
    have := ior_rg v0 (ishl (1 : Int) v1)
    exact ok_some ⟨by omega, hG⟩
theorem s_F_add_42 {b : Wd} : ∀ (n : Nat) {w : Wd} {v2 v3 : Int}, ((11 : Int) - v3) < (n : Int) → G md_F_add b w → ((-2147483648 : Int) ≤ v2 ∧ v2 ≤ 2147483647) → ((0 : Int) ≤ v3 ∧ v3 ≤ 10) → ((w 5 3) ≤ (9 : Int)) → OK (f_F_add_42 n v2 v3 w) (fun r u => ((0 : Int) ≤ r ∧ r ≤ 0) ∧ G md_F_add b u) := by
  intro n
  induction n with
  | zero =>
    intro w v2 v3 hm hG i_v2 i_v3 a_0
    exfalso
    omega
  | succ n ih =>
    intro w v2 v3 hm hG i_v2 i_v3 a_0
    rw [f_F_add_42]
    have : (0 : Int) ≤ (w 5 3) ∧ (w 5 3) ≤ 10 := hG.1 5 3
    refine ok_ite (fun h113 => ?_) (fun h114 => ?_)
    · have := w32_sp (((w 5 3) + (1 : Int)))
      refine ok_lw (fun u4 e115 => ?_)
      have g116 : G md_F_add b u4 := g_st hG e115 rfl rfl (show (0 : Int) ≤ (w32 ((w 5 3) + (1 : Int))) ∧ (w32 ((w 5 3) + (1 : Int))) ≤ 10 by omega)
      exact ok_some ⟨by omega, g116⟩
    · refine ok_gd (by omega) ?_
      refine ok_jif (by omega) ?_
      refine ok_jif (by omega) ?_
      have := ishr_rg v2 v3
      have := iand_r (x := (ishr v2 v3)) (y := (1 : Int)) (by omega)
      refine ok_jite (fun h118 => ?_) (fun h119 => ?_)
      · refine ok_jsome ?_
        have : (-2147483648 : Int) ≤ (w 7 (v3).toNat) ∧ (w 7 (v3).toNat) ≤ 2147483647 := hG.1 7 (v3).toNat
        refine ok_call (s_E_with (g_self hG) (by omega) (by omega) (by omega)) (fun r7 u8 q => ?_)
        obtain ⟨i120, g121⟩ := q
        have g122 : G md_F_add b u8 := g_tr hG g121 rfl
        refine ok_gd (by omega) ?_
        refine ok_lw (fun u9 e123 => ?_)
        have g124 : G md_F_add b u9 := g_st g122 e123 rfl rfl (show (-2147483648 : Int) ≤ r7 ∧ r7 ≤ 2147483647 by omega)
        have := w32_sp ((v3 + (1 : Int)))
        refine ok_let (fun x10 e125 => ?_)
        have : (1 : Int) ≤ x10 ∧ x10 ≤ 10 := by omega
        have : (0 : Int) ≤ (u9 5 3) ∧ (u9 5 3) ≤ 10 := g124.1 5 3
        have : (u9 5 3) = (u8 5 3) := (congrFun (congrFun e123 5) 3).trans (st_c (by decide))
        have : (0 : Int) ≤ (u8 5 3) ∧ (u8 5 3) ≤ 10 := g122.1 5 3
        have : (u8 5 3) = (w 5 3) := g121.2.1 5 3 rfl
        exact ih (by omega) g124 (by omega) (by omega) (by omega)
      · refine ok_jsome ?_
        have : (-2147483648 : Int) ≤ (w 7 (v3).toNat) ∧ (w 7 (v3).toNat) ≤ 2147483647 := hG.1 7 (v3).toNat
        refine ok_call (s_E_with (g_self hG) (by omega) (by omega) (by omega)) (fun r7 u8 q => ?_)
        obtain ⟨i126, g127⟩ := q
        have g128 : G md_F_add b u8 := g_tr hG g127 rfl
        refine ok_gd (by omega) ?_
        refine ok_lw (fun u9 e129 => ?_)
        have g130 : G md_F_add b u9 := g_st g128 e129 rfl rfl (show (-2147483648 : Int) ≤ r7 ∧ r7 ≤ 2147483647 by omega)
        have := w32_sp ((v3 + (1 : Int)))
        refine ok_let (fun x10 e131 => ?_)
        have : (1 : Int) ≤ x10 ∧ x10 ≤ 10 := by omega
        have : (0 : Int) ≤ (u9 5 3) ∧ (u9 5 3) ≤ 10 := g130.1 5 3
        have : (u9 5 3) = (u8 5 3) := (congrFun (congrFun e129 5) 3).trans (st_c (by decide))
        have : (0 : Int) ≤ (u8 5 3) ∧ (u8 5 3) ≤ 10 := g128.1 5 3
        have : (u8 5 3) = (w 5 3) := g127.2.1 5 3 rfl
        exact ih (by omega) g130 (by omega) (by omega) (by omega)
theorem s_F_add {w : Wd} {v1 v2 : Int} (hG : G md_F_add w w) (i_v1 : ((0 : Int) ≤ v1 ∧ v1 ≤ 9)) (i_v2 : ((-2147483648 : Int) ≤ v2 ∧ v2 ≤ 2147483647)) : OK (f_F_add v1 v2 w) (fun r u => ((0 : Int) ≤ r ∧ r ≤ 0) ∧ G md_F_add w u) := by
  unfold f_F_add
  have : (0 : Int) ≤ (w 5 3) ∧ (w 5 3) ≤ 10 := hG.1 5 3
  refine ok_ite (fun h132 => ?_) (fun h133 => ?_)
  · refine ok_gd (by omega) ?_
    refine ok_lw (fun u1 e134 => ?_)
    have g135 : G md_F_add w u1 := g_st hG e134 rfl rfl (show (0 : Int) ≤ v1 ∧ v1 ≤ 9 by omega)
    have : (0 : Int) ≤ (u1 5 3) ∧ (u1 5 3) ≤ 10 := g135.1 5 3
    have : (u1 5 3) = (w 5 3) := (congrFun (congrFun e134 5) 3).trans (st_c (by decide))
    refine ok_gd (by omega) ?_
    refine ok_lw (fun u2 e136 => ?_)
    have g137 : G md_F_add w u2 := g_st g135 e136 rfl rfl (show (-2147483648 : Int) ≤ v2 ∧ v2 ≤ 2147483647 by omega)
    have : (0 : Int) ≤ (u2 5 3) ∧ (u2 5 3) ≤ 10 := g137.1 5 3
    have : (u2 5 3) = (u1 5 3) := (congrFun (congrFun e136 5) 3).trans (st_c (by decide))
    refine ok_gd (by omega) ?_
    refine ok_lw (fun u3 e138 => ?_)
    have g139 : G md_F_add w u3 := g_st g137 e138 rfl rfl (show (-1 : Int) ≤ (-1 : Int) ∧ (-1 : Int) ≤ 9 by omega)
    have : (0 : Int) ≤ (u3 5 3) ∧ (u3 5 3) ≤ 10 := g139.1 5 3
    have : (u3 5 3) = (u2 5 3) := (congrFun (congrFun e138 5) 3).trans (st_c (by decide))
    exact s_F_add_42 FU (by have := eqFU; omega) g139 (by omega) (by omega) (by omega)
  · exact ok_some ⟨by omega, hG⟩
theorem s_L_settle_2 {b : Wd} : ∀ (n : Nat) {w : Wd} {v2 : Int}, ((11 : Int) - v2) < (n : Int) → G md_L_settle b w → ((0 : Int) ≤ v2 ∧ v2 ≤ 10) → OK (f_L_settle_2 n v2 w) (fun r u => ((0 : Int) ≤ r ∧ r ≤ 0) ∧ G md_L_settle b u) := by
  intro n
  induction n with
  | zero =>
    intro w v2 hm hG i_v2
    exfalso
    omega
  | succ n ih =>
    intro w v2 hm hG i_v2
    rw [f_L_settle_2]
    have : (0 : Int) ≤ (w 9 4) ∧ (w 9 4) ≤ 10 := hG.1 9 4
    have : (w 9 4) = (b 9 4) := hG.2.1 9 4 rfl
    refine ok_ite (fun h140 => ?_) (fun h141 => ?_)
    · have : (-2147483648 : Int) ≤ (w 5 4) ∧ (w 5 4) ≤ 2147483647 := hG.1 5 4
      have : (0 : Int) ≤ (w 9 2) ∧ (w 9 2) ≤ 1023 := hG.1 9 2
      have : (w 9 2) = (b 9 2) := hG.2.1 9 2 rfl
      have := ior_rg (w 5 4) (w 9 2)
      refine ok_lw (fun u1 e142 => ?_)
      have g143 : G md_L_settle b u1 := g_st hG e142 rfl rfl (show (-2147483648 : Int) ≤ (ior (w 5 4) (w 9 2)) ∧ (ior (w 5 4) (w 9 2)) ≤ 2147483647 by omega)
      have : (-2147483648 : Int) ≤ (u1 5 5) ∧ (u1 5 5) ≤ 2147483647 := g143.1 5 5
      have : (u1 5 5) = (w 5 5) := (congrFun (congrFun e142 5) 5).trans (st_k (by decide))
      have : (-2147483648 : Int) ≤ (w 5 5) ∧ (w 5 5) ≤ 2147483647 := hG.1 5 5
      have : (0 : Int) ≤ (u1 9 3) ∧ (u1 9 3) ≤ 1023 := g143.1 9 3
      have : (u1 9 3) = (w 9 3) := (congrFun (congrFun e142 9) 3).trans (st_c (by decide))
      have : (0 : Int) ≤ (w 9 3) ∧ (w 9 3) ≤ 1023 := hG.1 9 3
      have : (w 9 3) = (b 9 3) := hG.2.1 9 3 rfl
      have := ior_rg (u1 5 5) (u1 9 3)
      refine ok_lw (fun u2 e144 => ?_)
      have g145 : G md_L_settle b u2 := g_st g143 e144 rfl rfl (show (-2147483648 : Int) ≤ (ior (u1 5 5) (u1 9 3)) ∧ (ior (u1 5 5) (u1 9 3)) ≤ 2147483647 by omega)
      exact ok_some ⟨by omega, g145⟩
    · refine ok_gd (by omega) ?_
      refine ok_gd (by omega) ?_
      have : (0 : Int) ≤ (w 10 (v2).toNat) ∧ (w 10 (v2).toNat) ≤ 9 := hG.1 10 (v2).toNat
      have : (0 : Int) ≤ (w 11 (v2).toNat) ∧ (w 11 (v2).toNat) ≤ 511 := hG.1 11 (v2).toNat
      refine ok_call (s_F_add (g_self hG) (by omega) (by omega)) (fun r3 u4 q => ?_)
      obtain ⟨i146, g147⟩ := q
      have g148 : G md_L_settle b u4 := g_tr hG g147 rfl
      have := w32_sp ((v2 + (1 : Int)))
      refine ok_let (fun x5 e149 => ?_)
      have : (1 : Int) ≤ x5 ∧ x5 ≤ 10 := by omega
      exact ih (by omega) g148 (by omega)
theorem s_L_settle {w : Wd} (hG : G md_L_settle w w) : OK (f_L_settle w) (fun r u => ((0 : Int) ≤ r ∧ r ≤ 0) ∧ G md_L_settle w u) := by
  unfold f_L_settle
  exact s_L_settle_2 FU (by have := eqFU; omega) hG (by omega)
theorem s_O_guests {w : Wd} {v0 : Int} (hG : G md_O_guests w w) (i_v0 : ((-2147483648 : Int) ≤ v0 ∧ v0 ≤ 2147483647)) : OK (f_O_guests v0 w) (fun r u => ((0 : Int) ≤ r ∧ r ≤ 1023) ∧ G md_O_guests w u) := by
  unfold f_O_guests
  have := ishr_rg v0 (10 : Int)
  have := ior_rg v0 (ishr v0 (10 : Int))
  have := iand_r (x := (ior v0 (ishr v0 (10 : Int)))) (y := (1023 : Int)) (by omega)
  exact ok_some ⟨by omega, hG⟩
theorem s_F_guests {w : Wd} (hG : G md_F_guests w w) : OK (f_F_guests w) (fun r u => ((0 : Int) ≤ r ∧ r ≤ 1023) ∧ G md_F_guests w u) := by
  unfold f_F_guests
  have : (-2147483648 : Int) ≤ (w 5 4) ∧ (w 5 4) ≤ 2147483647 := hG.1 5 4
  refine ok_call (s_O_guests (g_self hG) (by omega)) (fun r1 u2 q => ?_)
  obtain ⟨i150, g151⟩ := q
  have g152 : G md_F_guests w u2 := g_tr hG g151 rfl
  exact ok_some ⟨by omega, g152⟩
theorem s_D_noteGuests {w : Wd} {v1 : Int} (hG : G md_D_noteGuests w w) (i_v1 : ((0 : Int) ≤ v1 ∧ v1 ≤ 1023)) : OK (f_D_noteGuests v1 w) (fun r u => ((0 : Int) ≤ r ∧ r ≤ 0) ∧ G md_D_noteGuests w u) := by
  unfold f_D_noteGuests
  have : (0 : Int) ≤ (w 15 3) ∧ (w 15 3) ≤ 60 := hG.1 15 3
  refine ok_jif (by omega) ?_
  refine ok_jif (by omega) ?_
  refine ok_jite (fun h154 => ?_) (fun h155 => ?_)
  · refine ok_jsome ?_
    refine ok_it (by decide) ?_
    exact ok_some ⟨by omega, hG⟩
  · refine ok_jsome ?_
    refine ok_if (by decide) ?_
    refine ok_gd (by omega) ?_
    refine ok_lw (fun u3 e156 => ?_)
    have g157 : G md_D_noteGuests w u3 := g_st hG e156 rfl rfl (show (0 : Int) ≤ v1 ∧ v1 ≤ 1023 by omega)
    exact ok_some ⟨by omega, g157⟩
theorem s_S_forget {w : Wd} (hG : G md_S_forget w w) : OK (f_S_forget w) (fun r u => ((0 : Int) ≤ r ∧ r ≤ 0) ∧ G md_S_forget w u) := by
  unfold f_S_forget
  refine ok_lw (fun u1 e158 => ?_)
  have g159 : G md_S_forget w u1 := g_st hG e158 rfl rfl (show (0 : Int) ≤ (0 : Int) ∧ (0 : Int) ≤ 1 by omega)
  exact ok_some ⟨by omega, g159⟩
theorem s_E_peopleCame {w : Wd} (hG : G md_E_peopleCame w w) : OK (f_E_peopleCame w) (fun r u => ((0 : Int) ≤ r ∧ r ≤ 0) ∧ G md_E_peopleCame w u) := by
  unfold f_E_peopleCame
  refine ok_call (s_F_guests (g_self hG)) (fun r1 u2 q => ?_)
  obtain ⟨i160, g161⟩ := q
  have g162 : G md_E_peopleCame w u2 := g_tr hG g161 rfl
  refine ok_call (s_D_noteGuests (g_self g162) (by omega)) (fun r3 u4 q => ?_)
  obtain ⟨i163, g164⟩ := q
  have g165 : G md_E_peopleCame w u4 := g_tr g162 g164 rfl
  refine ok_lw (fun u5 e166 => ?_)
  have g167 : G md_E_peopleCame w u5 := g_st g165 e166 rfl rfl (show (-2147483648 : Int) ≤ (0 : Int) ∧ (0 : Int) ≤ 2147483647 by omega)
  refine ok_call (s_S_forget (g_self g167)) (fun r6 u7 q => ?_)
  obtain ⟨i168, g169⟩ := q
  have g170 : G md_E_peopleCame w u7 := g_tr g167 g169 rfl
  exact ok_some ⟨by omega, g170⟩
theorem s_E_land {w : Wd} (hG : G md_E_land w w) : OK (f_E_land w) (fun r u => ((-81 : Int) ≤ r ∧ r ≤ 10) ∧ G md_E_land w u ∧ ((u 1 1) = (0 : Int))) := by
  unfold f_E_land
  have : (0 : Int) ≤ (w 5 3) ∧ (w 5 3) ≤ 10 := hG.1 5 3
  refine ok_call (s_L_read (g_self hG) (by omega)) (fun r1 u2 q => ?_)
  obtain ⟨i171, g172⟩ := q
  have g173 : G md_E_land w u2 := g_tr hG g172 rfl
  refine ok_call (s_T_clear (g_self g173)) (fun r3 u4 q => ?_)
  obtain ⟨i174, g175, p177⟩ := q
  have g176 : G md_E_land w u4 := g_tr g173 g175 rfl
  have : (0 : Int) ≤ (u4 1 1) ∧ (u4 1 1) ≤ 80 := g176.1 1 1
  refine ok_ite (fun h178 => ?_) (fun h179 => ?_)
  · exact ok_some ⟨by omega, g176, (by omega)⟩
  · refine ok_call (s_L_settle (g_self g176)) (fun r5 u6 q => ?_)
    obtain ⟨i180, g181⟩ := q
    have g182 : G md_E_land w u6 := g_tr g176 g181 rfl
    refine ok_call (s_E_peopleCame (g_self g182)) (fun r7 u8 q => ?_)
    obtain ⟨i183, g184⟩ := q
    have g185 : G md_E_land w u8 := g_tr g182 g184 rfl
    have : (0 : Int) ≤ (u8 1 1) ∧ (u8 1 1) ≤ 80 := g185.1 1 1
    have : (u8 1 1) = (u6 1 1) := g184.2.1 1 1 rfl
    have : (0 : Int) ≤ (u6 1 1) ∧ (u6 1 1) ≤ 80 := g182.1 1 1
    have : (u6 1 1) = (u4 1 1) := g181.2.1 1 1 rfl
    exact ok_some ⟨by omega, g185, (by omega)⟩
theorem s_W_strength {w : Wd} {v0 : Int} (hG : G md_W_strength w w) (i_v0 : ((-2147483648 : Int) ≤ v0 ∧ v0 ≤ 2147483647)) : OK (f_W_strength v0 w) (fun r u => ((0 : Int) ≤ r ∧ r ≤ 4) ∧ G md_W_strength w u) := by
  unfold f_W_strength
  refine ok_ite (fun h186 => ?_) (fun h187 => ?_)
  · exact ok_some ⟨by omega, hG⟩
  · refine ok_ite (fun h188 => ?_) (fun h189 => ?_)
    · exact ok_some ⟨by omega, hG⟩
    · refine ok_ite (fun h190 => ?_) (fun h191 => ?_)
      · exact ok_some ⟨by omega, hG⟩
      · refine ok_ite (fun h192 => ?_) (fun h193 => ?_)
        · exact ok_some ⟨by omega, hG⟩
        · refine ok_ite (fun h194 => ?_) (fun h195 => ?_)
          · exact ok_some ⟨by omega, hG⟩
          · refine ok_ite (fun h196 => ?_) (fun h197 => ?_)
            · exact ok_some ⟨by omega, hG⟩
            · refine ok_ite (fun h198 => ?_) (fun h199 => ?_)
              · exact ok_some ⟨by omega, hG⟩
              · refine ok_ite (fun h200 => ?_) (fun h201 => ?_)
                · exact ok_some ⟨by omega, hG⟩
                · exact ok_some ⟨by omega, hG⟩
theorem s_W_write {w : Wd} {v1 : Int} (hG : G md_W_write w w) (i_v1 : ((-65535 : Int) ≤ v1 ∧ v1 ≤ 65487)) : OK (f_W_write v1 w) (fun r u => ((0 : Int) ≤ r ∧ r ≤ 0) ∧ G md_W_write w u) := by
  unfold f_W_write
  have : (0 : Int) ≤ (w 19 5) ∧ (w 19 5) ≤ 40 := hG.1 19 5
  refine ok_ite (fun h202 => ?_) (fun h203 => ?_)
  · exact ok_some ⟨by omega, hG⟩
  · refine ok_gd (by omega) ?_
    refine ok_lw (fun u1 e204 => ?_)
    have g205 : G md_W_write w u1 := g_st hG e204 rfl rfl (show (-2147483648 : Int) ≤ v1 ∧ v1 ≤ 2147483647 by omega)
    have : (0 : Int) ≤ (u1 19 5) ∧ (u1 19 5) ≤ 40 := g205.1 19 5
    have : (u1 19 5) = (w 19 5) := (congrFun (congrFun e204 19) 5).trans (st_c (by decide))
    have := w32_sp (((u1 19 5) + (1 : Int)))
    refine ok_lw (fun u2 e206 => ?_)
    have g207 : G md_W_write w u2 := g_st g205 e206 rfl rfl (show (0 : Int) ≤ (w32 ((u1 19 5) + (1 : Int))) ∧ (w32 ((u1 19 5) + (1 : Int))) ≤ 40 by omega)
    exact ok_some ⟨by omega, g207⟩
theorem s_W_release_7 {b : Wd} : ∀ (n : Nat) {w : Wd} {v1 v2 : Int}, (v2 + (2 : Int)) < (n : Int) → G md_W_release b w → ((1 : Int) ≤ v1 ∧ v1 ≤ 4) → ((-1 : Int) ≤ v2 ∧ v2 ≤ 39) → OK (f_W_release_7 n v1 v2 w) (fun r u => ((0 : Int) ≤ r ∧ r ≤ 0) ∧ G md_W_release b u) := by
  intro n
  induction n with
  | zero =>
    intro w v1 v2 hm hG i_v1 i_v2
    exfalso
    omega
  | succ n ih =>
    intro w v1 v2 hm hG i_v1 i_v2
    rw [f_W_release_7]
    refine ok_ite (fun h208 => ?_) (fun h209 => ?_)
    · exact ok_some ⟨by omega, hG⟩
    · refine ok_gd (by omega) ?_
      have : (-2 : Int) ≤ (w 22 (v2).toNat) ∧ (w 22 (v2).toNat) ≤ 65535 := hG.1 22 (v2).toNat
      refine ok_call (s_W_strength (g_self hG) (by omega)) (fun r2 u3 q => ?_)
      obtain ⟨i210, g211⟩ := q
      have g212 : G md_W_release b u3 := g_tr hG g211 rfl
      refine ok_ite (fun h213 => ?_) (fun h214 => ?_)
      · exact ok_some ⟨by omega, g212⟩
      · refine ok_gd (by omega) ?_
        have : (-2 : Int) ≤ (u3 22 (v2).toNat) ∧ (u3 22 (v2).toNat) ≤ 65535 := g212.1 22 (v2).toNat
        have := w32_sp ((-(u3 22 (v2).toNat)))
        refine ok_call (s_W_write (g_self g212) (by omega)) (fun r4 u5 q => ?_)
        obtain ⟨i215, g216⟩ := q
        have g217 : G md_W_release b u5 := g_tr g212 g216 rfl
        refine ok_lw (fun u6 e218 => ?_)
        have g219 : G md_W_release b u6 := g_st g217 e218 rfl rfl (show (0 : Int) ≤ v2 ∧ v2 ≤ 40 by omega)
        have := w32_sp ((v2 + (-1 : Int)))
        refine ok_let (fun x7 e220 => ?_)
        have : (-1 : Int) ≤ x7 ∧ x7 ≤ 38 := by omega
        exact ih (by omega) g219 (by omega) (by omega)
theorem s_W_release {w : Wd} {v1 : Int} (hG : G md_W_release w w) (i_v1 : ((1 : Int) ≤ v1 ∧ v1 ≤ 4)) : OK (f_W_release v1 w) (fun r u => ((0 : Int) ≤ r ∧ r ≤ 0) ∧ G md_W_release w u) := by
  unfold f_W_release
  have : (0 : Int) ≤ (w 19 6) ∧ (w 19 6) ≤ 40 := hG.1 19 6
  have := w32_sp (((w 19 6) - (1 : Int)))
  refine ok_let (fun x1 e221 => ?_)
  have : (-1 : Int) ≤ x1 ∧ x1 ≤ 39 := by omega
  exact s_W_release_7 FU (by have := eqFU; omega) hG (by omega) (by omega)
theorem s_W_await {w : Wd} {v1 : Int} (hG : G md_W_await w w) (i_v1 : ((-2 : Int) ≤ v1 ∧ v1 ≤ 65535)) : OK (f_W_await v1 w) (fun r u => ((0 : Int) ≤ r ∧ r ≤ 0) ∧ G md_W_await w u) := by
  unfold f_W_await
  have : (0 : Int) ≤ (w 19 6) ∧ (w 19 6) ≤ 40 := hG.1 19 6
  refine ok_ite (fun h222 => ?_) (fun h223 => ?_)
  · exact ok_some ⟨by omega, hG⟩
  · refine ok_gd (by omega) ?_
    refine ok_lw (fun u1 e224 => ?_)
    have g225 : G md_W_await w u1 := g_st hG e224 rfl rfl (show (-2 : Int) ≤ v1 ∧ v1 ≤ 65535 by omega)
    have : (0 : Int) ≤ (u1 19 6) ∧ (u1 19 6) ≤ 40 := g225.1 19 6
    have : (u1 19 6) = (w 19 6) := (congrFun (congrFun e224 19) 6).trans (st_c (by decide))
    have := w32_sp (((u1 19 6) + (1 : Int)))
    refine ok_lw (fun u2 e226 => ?_)
    have g227 : G md_W_await w u2 := g_st g225 e226 rfl rfl (show (0 : Int) ≤ (w32 ((u1 19 6) + (1 : Int))) ∧ (w32 ((u1 19 6) + (1 : Int))) ≤ 40 by omega)
    exact ok_some ⟨by omega, g227⟩
theorem s_W_takeDigit {w : Wd} {v1 : Int} (hG : G md_W_takeDigit w w) (i_v1 : ((0 : Int) ≤ v1 ∧ v1 ≤ 9)) : OK (f_W_takeDigit v1 w) (fun r u => ((0 : Int) ≤ r ∧ r ≤ 1) ∧ G md_W_takeDigit w u) := by
  unfold f_W_takeDigit
  have : (0 : Int) ≤ (w 19 8) ∧ (w 19 8) ≤ 3 := hG.1 19 8
  refine ok_ite (fun h228 => ?_) (fun h229 => ?_)
  · exact ok_some ⟨by omega, hG⟩
  · refine ok_ite (fun h230 => ?_) (fun h231 => ?_)
    · exact ok_some ⟨by omega, hG⟩
    · have : (0 : Int) ≤ (w 19 5) ∧ (w 19 5) ≤ 40 := hG.1 19 5
      refine ok_ite (fun h232 => ?_) (fun h233 => ?_)
      · exact ok_some ⟨by omega, hG⟩
      · have := w32_sp (((w 19 5) - (1 : Int)))
        refine ok_gd (by omega) ?_
        refine ok_gd (by omega) ?_
        have : (-2147483648 : Int) ≤ (w 21 ((w32 ((w 19 5) - (1 : Int)))).toNat) ∧ (w 21 ((w32 ((w 19 5) - (1 : Int)))).toNat) ≤ 2147483647 := hG.1 21 ((w32 ((w 19 5) - (1 : Int)))).toNat
        have := w32_sp (((w 21 ((w32 ((w 19 5) - (1 : Int)))).toNat) * (10 : Int)))
        have := w32_sp (((w32 ((w 21 ((w32 ((w 19 5) - (1 : Int)))).toNat) * (10 : Int))) + v1))
        refine ok_lw (fun u1 e234 => ?_)
        have g235 : G md_W_takeDigit w u1 := g_st hG e234 rfl rfl (show (-2147483648 : Int) ≤ (w32 ((w32 ((w 21 ((w32 ((w 19 5) - (1 : Int)))).toNat) * (10 : Int))) + v1)) ∧ (w32 ((w32 ((w 21 ((w32 ((w 19 5) - (1 : Int)))).toNat) * (10 : Int))) + v1)) ≤ 2147483647 by omega)
        have : (0 : Int) ≤ (u1 19 8) ∧ (u1 19 8) ≤ 3 := g235.1 19 8
        have : (u1 19 8) = (w 19 8) := (congrFun (congrFun e234 19) 8).trans (st_c (by decide))
        have := w32_sp (((u1 19 8) + (1 : Int)))
        refine ok_lw (fun u2 e236 => ?_)
        have g237 : G md_W_takeDigit w u2 := g_st g235 e236 rfl rfl (show (0 : Int) ≤ (w32 ((u1 19 8) + (1 : Int))) ∧ (w32 ((u1 19 8) + (1 : Int))) ≤ 3 by omega)
        exact ok_some ⟨by omega, g237⟩
theorem s_W_takeBehindThing_127 {b : Wd} {w : Wd} {v1 v2 s1 s2 : Int} (hG : G md_W_takeBehindThing b w) (i_v1 : ((-2 : Int) ≤ v1 ∧ v1 ≤ 65535)) (i_v2 : ((1 : Int) ≤ v2 ∧ v2 ≤ 4)) (i_s1 : ((0 : Int) ≤ s1 ∧ s1 ≤ 31)) (i_s2 : ((0 : Int) ≤ s2 ∧ s2 ≤ 16)) : OK (f_W_takeBehindThing_127 v1 v2 s1 s2 w) (fun r u => ((0 : Int) ≤ r ∧ r ≤ 1) ∧ G md_W_takeBehindThing b u) := by
  unfold f_W_takeBehindThing_127
  have := ior_n 5 (x := s1) (y := s2) (m := 31) (by decide) (by decide) (by omega) (by omega)
  refine ok_lw (fun u4 e238 => ?_)
  have g239 : G md_W_takeBehindThing b u4 := g_st hG e238 rfl rfl (show (0 : Int) ≤ (ior s1 s2) ∧ (ior s1 s2) ≤ 31 by omega)
  refine ok_call (s_W_release (g_self g239) (by omega)) (fun r5 u6 q => ?_)
  obtain ⟨i240, g241⟩ := q
  have g242 : G md_W_takeBehindThing b u6 := g_tr g239 g241 rfl
  refine ok_call (s_W_await (g_self g242) (by omega)) (fun r7 u8 q => ?_)
  obtain ⟨i243, g244⟩ := q
  have g245 : G md_W_takeBehindThing b u8 := g_tr g242 g244 rfl
  refine ok_lw (fun u9 e246 => ?_)
  have g247 : G md_W_takeBehindThing b u9 := g_st g245 e246 rfl rfl (show (0 : Int) ≤ (1 : Int) ∧ (1 : Int) ≤ 1 by omega)
  exact ok_some ⟨by omega, g247⟩
theorem s_W_takeBehindThing_107 {b : Wd} {w : Wd} {v1 v2 : Int} (hG : G md_W_takeBehindThing b w) (i_v1 : ((-2 : Int) ≤ v1 ∧ v1 ≤ 65535)) (i_v2 : ((1 : Int) ≤ v2 ∧ v2 ≤ 4)) : OK (f_W_takeBehindThing_107 v1 v2 w) (fun r u => ((0 : Int) ≤ r ∧ r ≤ 1) ∧ G md_W_takeBehindThing b u) := by
  unfold f_W_takeBehindThing_107
  refine ok_ite (fun h248 => ?_) (fun h249 => ?_)
  · have : (0 : Int) ≤ (w 19 9) ∧ (w 19 9) ≤ 31 := hG.1 19 9
    have : (0 : Int) ≤ (w 19 7) ∧ (w 19 7) ≤ 4 := hG.1 19 7
    have := ishl1_n 4 (i := (w 19 7)) (j := 4) (m := 16) (by decide) (by decide) (by decide) (by omega)
    exact s_W_takeBehindThing_127 hG (by omega) (by omega) (by omega) (by omega)
  · have : (0 : Int) ≤ (w 19 9) ∧ (w 19 9) ≤ 31 := hG.1 19 9
    exact s_W_takeBehindThing_127 hG (by omega) (by omega) (by omega) (by omega)
theorem s_W_takeBehindThing_77 {b : Wd} {w : Wd} {v1 : Int} (hG : G md_W_takeBehindThing b w) (i_v1 : ((-2 : Int) ≤ v1 ∧ v1 ≤ 65535)) : OK (f_W_takeBehindThing_77 v1 w) (fun r u => ((0 : Int) ≤ r ∧ r ≤ 1) ∧ G md_W_takeBehindThing b u) := by
  unfold f_W_takeBehindThing_77
  refine ok_call (s_W_strength (g_self hG) (by omega)) (fun r2 u3 q => ?_)
  obtain ⟨i250, g251⟩ := q
  have g252 : G md_W_takeBehindThing b u3 := g_tr hG g251 rfl
  refine ok_ite (fun h253 => ?_) (fun h254 => ?_)
  · exact ok_some ⟨by omega, g252⟩
  · refine ok_ite (fun h255 => ?_) (fun h256 => ?_)
    · have : (0 : Int) ≤ (u3 19 9) ∧ (u3 19 9) ≤ 31 := g252.1 19 9
      have : (u3 19 9) = (w 19 9) := g251.2.1 19 9 rfl
      have : (0 : Int) ≤ (w 19 9) ∧ (w 19 9) ≤ 31 := hG.1 19 9
      have : (0 : Int) ≤ (u3 19 7) ∧ (u3 19 7) ≤ 4 := g252.1 19 7
      have : (u3 19 7) = (w 19 7) := g251.2.1 19 7 rfl
      have : (0 : Int) ≤ (w 19 7) ∧ (w 19 7) ≤ 4 := hG.1 19 7
      have := ishr_nn (x := (u3 19 9)) (y := (u3 19 7)) (by omega)
      have := iand_l (x := (ishr (u3 19 9) (u3 19 7))) (y := (1 : Int)) (by omega)
      have := iand_r (x := (ishr (u3 19 9) (u3 19 7))) (y := (1 : Int)) (by omega)
      refine ok_ite (fun h257 => ?_) (fun h258 => ?_)
      · exact s_W_takeBehindThing_107 g252 (by omega) (by omega)
      · exact ok_some ⟨by omega, g252⟩
    · exact s_W_takeBehindThing_107 g252 (by omega) (by omega)
theorem s_W_takeBehindThing_71 {b : Wd} {w : Wd} {s1 s2 : Int} (hG : G md_W_takeBehindThing b w) (i_s1 : ((0 : Int) ≤ s1 ∧ s1 ≤ 40)) (i_s2 : ((0 : Int) ≤ s2 ∧ s2 ≤ 1)) (a_0 : (s2 ≤ s1)) : OK (f_W_takeBehindThing_71 s1 s2 w) (fun r u => ((0 : Int) ≤ r ∧ r ≤ 1) ∧ G md_W_takeBehindThing b u) := by
  unfold f_W_takeBehindThing_71
  have := w32_sp ((s1 - s2))
  refine ok_lw (fun u13 e259 => ?_)
  have g260 : G md_W_takeBehindThing b u13 := g_st hG e259 rfl rfl (show (0 : Int) ≤ (w32 (s1 - s2)) ∧ (w32 (s1 - s2)) ≤ 40 by omega)
  exact ok_some ⟨by omega, g260⟩
theorem s_W_takeBehindThing_21 {b : Wd} {w : Wd} {v1 : Int} (hG : G md_W_takeBehindThing b w) (i_v1 : ((-2 : Int) ≤ v1 ∧ v1 ≤ 65535)) : OK (f_W_takeBehindThing_21 v1 w) (fun r u => ((0 : Int) ≤ r ∧ r ≤ 1) ∧ G md_W_takeBehindThing b u) := by
  unfold f_W_takeBehindThing_21
  refine ok_lw (fun u1 e261 => ?_)
  have g262 : G md_W_takeBehindThing b u1 := g_st hG e261 rfl rfl (show (0 : Int) ≤ (0 : Int) ∧ (0 : Int) ≤ 3 by omega)
  refine ok_ite (fun h263 => ?_) (fun h264 => ?_)
  · have : (0 : Int) ≤ (u1 19 7) ∧ (u1 19 7) ≤ 4 := g262.1 19 7
    have : (u1 19 7) = (w 19 7) := (congrFun (congrFun e261 19) 7).trans (st_k (by decide))
    have : (0 : Int) ≤ (w 19 7) ∧ (w 19 7) ≤ 4 := hG.1 19 7
    refine ok_ite (fun h265 => ?_) (fun h266 => ?_)
    · exact s_W_takeBehindThing_77 g262 (by omega)
    · have := w32_sp (((u1 19 7) - (1 : Int)))
      refine ok_lw (fun u10 e267 => ?_)
      have g268 : G md_W_takeBehindThing b u10 := g_st g262 e267 rfl rfl (show (0 : Int) ≤ (w32 ((u1 19 7) - (1 : Int))) ∧ (w32 ((u1 19 7) - (1 : Int))) ≤ 4 by omega)
      refine ok_call (s_W_release (g_self g268) (by omega)) (fun r11 u12 q => ?_)
      obtain ⟨i269, g270⟩ := q
      have g271 : G md_W_takeBehindThing b u12 := g_tr g268 g270 rfl
      have : (0 : Int) ≤ (u12 19 6) ∧ (u12 19 6) ≤ 40 := g271.1 19 6
      refine ok_ite (fun h272 => ?_) (fun h273 => ?_)
      · exact s_W_takeBehindThing_71 g271 (by omega) (by omega) (by omega)
      · exact s_W_takeBehindThing_71 g271 (by omega) (by omega) (by omega)
  · exact s_W_takeBehindThing_77 g262 (by omega)
theorem s_W_takeBehindThing {w : Wd} {v1 : Int} (hG : G md_W_takeBehindThing w w) (i_v1 : ((-2 : Int) ≤ v1 ∧ v1 ≤ 65535)) : OK (f_W_takeBehindThing v1 w) (fun r u => ((0 : Int) ≤ r ∧ r ≤ 1) ∧ G md_W_takeBehindThing w u) := by
  unfold f_W_takeBehindThing
  refine ok_ite (fun h274 => ?_) (fun h275 => ?_)
  · exact s_W_takeBehindThing_21 hG (by omega)
  · refine ok_ite (fun h276 => ?_) (fun h277 => ?_)
    · exact s_W_takeBehindThing_21 hG (by omega)
    · have := w32_sp ((v1 - (48 : Int)))
      refine ok_call (s_W_takeDigit (g_self hG) (by omega)) (fun r14 u15 q => ?_)
      obtain ⟨i278, g279⟩ := q
      have g280 : G md_W_takeBehindThing w u15 := g_tr hG g279 rfl
      refine ok_it (by omega) ?_
      exact ok_some ⟨by omega, g280⟩
theorem s_W_isLetter {w : Wd} {v0 : Int} (hG : G md_W_isLetter w w) (i_v0 : ((-2 : Int) ≤ v0 ∧ v0 ≤ 65535)) : OK (f_W_isLetter v0 w) (fun r u => ((0 : Int) ≤ r ∧ r ≤ 1) ∧ G md_W_isLetter w u) := by
  unfold f_W_isLetter
  refine ok_ite (fun h281 => ?_) (fun h282 => ?_)
  · exact ok_some ⟨by omega, hG⟩
  · refine ok_ite (fun h283 => ?_) (fun h284 => ?_)
    · exact ok_some ⟨by omega, hG⟩
    · refine ok_ite (fun h285 => ?_) (fun h286 => ?_)
      · exact ok_some ⟨by omega, hG⟩
      · refine ok_ite (fun h287 => ?_) (fun h288 => ?_)
        · exact ok_some ⟨by omega, hG⟩
        · refine ok_ite (fun h289 => ?_) (fun h290 => ?_)
          · exact ok_some ⟨by omega, hG⟩
          · refine ok_ite (fun h291 => ?_) (fun h292 => ?_)
            · exact ok_some ⟨by omega, hG⟩
            · refine ok_ite (fun h293 => ?_) (fun h294 => ?_)
              · exact ok_some ⟨by omega, hG⟩
              · refine ok_ite (fun h295 => ?_) (fun h296 => ?_)
                · exact ok_some ⟨by omega, hG⟩
                · refine ok_ite (fun h297 => ?_) (fun h298 => ?_)
                  · exact ok_some ⟨by omega, hG⟩
                  · refine ok_ite (fun h299 => ?_) (fun h300 => ?_)
                    · exact ok_some ⟨by omega, hG⟩
                    · refine ok_ite (fun h301 => ?_) (fun h302 => ?_)
                      · exact ok_some ⟨by omega, hG⟩
                      · refine ok_ite (fun h303 => ?_) (fun h304 => ?_)
                        · exact ok_some ⟨by omega, hG⟩
                        · refine ok_ite (fun h305 => ?_) (fun h306 => ?_)
                          · exact ok_some ⟨by omega, hG⟩
                          · refine ok_ite (fun h307 => ?_) (fun h308 => ?_)
                            · exact ok_some ⟨by omega, hG⟩
                            · refine ok_ite (fun h309 => ?_) (fun h310 => ?_)
                              · exact ok_some ⟨by omega, hG⟩
                              · refine ok_ite (fun h311 => ?_) (fun h312 => ?_)
                                · exact ok_some ⟨by omega, hG⟩
                                · refine ok_ite (fun h313 => ?_) (fun h314 => ?_)
                                  · exact ok_some ⟨by omega, hG⟩
                                  · refine ok_it (by omega) ?_
                                    exact ok_some ⟨by omega, hG⟩
theorem s_W_takeThing_121 {b : Wd} {w : Wd} {s1 : Int} (hG : G md_W_takeThing b w) (i_s1 : ((0 : Int) ≤ s1 ∧ s1 ≤ 1)) : OK (f_W_takeThing_121 s1 w) (fun r u => ((0 : Int) ≤ r ∧ r ≤ 1) ∧ G md_W_takeThing b u) := by
  unfold f_W_takeThing_121
  refine ok_lw (fun u3 e315 => ?_)
  have g316 : G md_W_takeThing b u3 := g_st hG e315 rfl rfl (show (0 : Int) ≤ s1 ∧ s1 ≤ 3 by omega)
  refine ok_lw (fun u4 e317 => ?_)
  have g318 : G md_W_takeThing b u4 := g_st g316 e317 rfl rfl (show (0 : Int) ≤ (0 : Int) ∧ (0 : Int) ≤ 1 by omega)
  exact ok_some ⟨by omega, g318⟩
theorem s_W_takeThing_108 {b : Wd} {w : Wd} {v2 s1 : Int} (hG : G md_W_takeThing b w) (i_v2 : ((0 : Int) ≤ v2 ∧ v2 ≤ 1)) (i_s1 : ((-65535 : Int) ≤ s1 ∧ s1 ≤ 65487)) : OK (f_W_takeThing_108 v2 s1 w) (fun r u => ((0 : Int) ≤ r ∧ r ≤ 1) ∧ G md_W_takeThing b u) := by
  unfold f_W_takeThing_108
  refine ok_call (s_W_write (g_self hG) (by omega)) (fun r1 u2 q => ?_)
  obtain ⟨i319, g320⟩ := q
  have g321 : G md_W_takeThing b u2 := g_tr hG g320 rfl
  refine ok_ite (fun h322 => ?_) (fun h323 => ?_)
  · exact s_W_takeThing_121 g321 (by omega)
  · exact s_W_takeThing_121 g321 (by omega)
theorem s_W_takeThing_94 {b : Wd} {w : Wd} {v1 v2 : Int} (hG : G md_W_takeThing b w) (i_v1 : ((-2 : Int) ≤ v1 ∧ v1 ≤ 65535)) (i_v2 : ((0 : Int) ≤ v2 ∧ v2 ≤ 1)) : OK (f_W_takeThing_94 v1 v2 w) (fun r u => ((0 : Int) ≤ r ∧ r ≤ 1) ∧ G md_W_takeThing b u) := by
  unfold f_W_takeThing_94
  refine ok_ite (fun h324 => ?_) (fun h325 => ?_)
  · have := w32_sp ((-v1))
    exact s_W_takeThing_108 hG (by omega) (by omega)
  · have := w32_sp ((v1 - (48 : Int)))
    exact s_W_takeThing_108 hG (by omega) (by omega)
theorem s_W_takeThing_80 {b : Wd} {w : Wd} {v1 s0 : Int} (hG : G md_W_takeThing b w) (i_v1 : ((-2 : Int) ≤ v1 ∧ v1 ≤ 65535)) (i_s0 : ((0 : Int) ≤ s0 ∧ s0 ≤ 1)) : OK (f_W_takeThing_80 v1 s0 w) (fun r u => ((0 : Int) ≤ r ∧ r ≤ 1) ∧ G md_W_takeThing b u) := by
  unfold f_W_takeThing_80
  refine ok_ite (fun h326 => ?_) (fun h327 => ?_)
  · refine ok_call (s_W_isLetter (g_self hG) (by omega)) (fun r5 u6 q => ?_)
    obtain ⟨i328, g329⟩ := q
    have g330 : G md_W_takeThing b u6 := g_tr hG g329 rfl
    refine ok_ite (fun h331 => ?_) (fun h332 => ?_)
    · exact ok_some ⟨by omega, g330⟩
    · exact s_W_takeThing_94 g330 (by omega) (by omega)
  · exact s_W_takeThing_94 hG (by omega) (by omega)
theorem s_W_takeThing_79 {b : Wd} {w : Wd} {v1 : Int} (hG : G md_W_takeThing b w) (i_v1 : ((-2 : Int) ≤ v1 ∧ v1 ≤ 65535)) : OK (f_W_takeThing_79 v1 w) (fun r u => ((0 : Int) ≤ r ∧ r ≤ 1) ∧ G md_W_takeThing b u) := by
  unfold f_W_takeThing_79
  exact s_W_takeThing_80 hG (by omega) (by omega)
theorem s_W_takeThing_63 {b : Wd} {w : Wd} {v1 : Int} (hG : G md_W_takeThing b w) (i_v1 : ((-2 : Int) ≤ v1 ∧ v1 ≤ 65535)) : OK (f_W_takeThing_63 v1 w) (fun r u => ((0 : Int) ≤ r ∧ r ≤ 1) ∧ G md_W_takeThing b u) := by
  unfold f_W_takeThing_63
  refine ok_ite (fun h333 => ?_) (fun h334 => ?_)
  · exact s_W_takeThing_79 hG (by omega)
  · refine ok_ite (fun h335 => ?_) (fun h336 => ?_)
    · exact s_W_takeThing_79 hG (by omega)
    · exact s_W_takeThing_80 hG (by omega) (by omega)
theorem s_W_takeThing {w : Wd} {v1 : Int} (hG : G md_W_takeThing w w) (i_v1 : ((-2 : Int) ≤ v1 ∧ v1 ≤ 65535)) : OK (f_W_takeThing v1 w) (fun r u => ((0 : Int) ≤ r ∧ r ≤ 1) ∧ G md_W_takeThing w u) := by
  unfold f_W_takeThing
  refine ok_ite (fun h337 => ?_) (fun h338 => ?_)
  · refine ok_call (s_W_await (g_self hG) (by omega)) (fun r11 u12 q => ?_)
    obtain ⟨i339, g340⟩ := q
    have g341 : G md_W_takeThing w u12 := g_tr hG g340 rfl
    exact ok_some ⟨by omega, g341⟩
  · refine ok_ite (fun h342 => ?_) (fun h343 => ?_)
    · have : (0 : Int) ≤ (w 19 7) ∧ (w 19 7) ≤ 4 := hG.1 19 7
      refine ok_ite (fun h344 => ?_) (fun h345 => ?_)
      · exact s_W_takeThing_63 hG (by omega)
      · have := w32_sp (((w 19 7) + (1 : Int)))
        refine ok_lw (fun u7 e346 => ?_)
        have g347 : G md_W_takeThing w u7 := g_st hG e346 rfl rfl (show (0 : Int) ≤ (w32 ((w 19 7) + (1 : Int))) ∧ (w32 ((w 19 7) + (1 : Int))) ≤ 4 by omega)
        have : (0 : Int) ≤ (u7 19 9) ∧ (u7 19 9) ≤ 31 := g347.1 19 9
        have : (u7 19 9) = (w 19 9) := (congrFun (congrFun e346 19) 9).trans (st_k (by decide))
        have : (0 : Int) ≤ (w 19 9) ∧ (w 19 9) ≤ 31 := hG.1 19 9
        have : (0 : Int) ≤ (u7 19 7) ∧ (u7 19 7) ≤ 4 := g347.1 19 7
        have : (u7 19 7) = (w32 ((w 19 7) + (1 : Int))) := (congrFun (congrFun e346 19) 7).trans (st_eq _ _ _ _)
        have := ishl1_n 4 (i := (u7 19 7)) (j := 4) (m := 16) (by decide) (by decide) (by decide) (by omega)
        have := ixor_m1 (x := (ishl (1 : Int) (u7 19 7))) (by omega)
        have := iand_l (x := (u7 19 9)) (y := (ixor (ishl (1 : Int) (u7 19 7)) (-1 : Int))) (by omega)
        refine ok_lw (fun u8 e348 => ?_)
        have g349 : G md_W_takeThing w u8 := g_st g347 e348 rfl rfl (show (0 : Int) ≤ (iand (u7 19 9) (ixor (ishl (1 : Int) (u7 19 7)) (-1 : Int))) ∧ (iand (u7 19 9) (ixor (ishl (1 : Int) (u7 19 7)) (-1 : Int))) ≤ 31 by omega)
        refine ok_call (s_W_await (g_self g349) (by omega)) (fun r9 u10 q => ?_)
        obtain ⟨i350, g351⟩ := q
        have g352 : G md_W_takeThing w u10 := g_tr g349 g351 rfl
        exact ok_some ⟨by omega, g352⟩
    · exact s_W_takeThing_63 hG (by omega)
theorem s_W_read_112 {b : Wd} {w : Wd} (hG : G md_W_read b w) : OK (f_W_read_112 w) (fun r u => ((-81 : Int) ≤ r ∧ r ≤ 0) ∧ G md_W_read b u) := by
  unfold f_W_read_112
  have : (0 : Int) ≤ (w 1 1) ∧ (w 1 1) ≤ 80 := hG.1 1 1
  have : (w 1 1) = (b 1 1) := hG.2.1 1 1 rfl
  have := w32_sp (((-1 : Int) - (w 1 1)))
  exact ok_some ⟨by omega, hG⟩
theorem s_W_read_92 {b : Wd} {k46 : Int → Wd → Option (Int × Wd)} {Bk46 : Int} (hk46 : ∀ {w1 : Wd} {v2 : Int}, ((81 : Int) - v2) < Bk46 → G md_W_read b w1 → ((0 : Int) ≤ v2 ∧ v2 ≤ 80) → OK (k46 v2 w1) (fun r u => ((-81 : Int) ≤ r ∧ r ≤ 0) ∧ G md_W_read b u)) {w : Wd} {v2 : Int} (hG : G md_W_read b w) (i_v2 : ((0 : Int) ≤ v2 ∧ v2 ≤ 79)) (hBk46 : ((81 : Int) - v2) ≤ Bk46) : OK (f_W_read_92 k46 v2 w) (fun r u => ((-81 : Int) ≤ r ∧ r ≤ 0) ∧ G md_W_read b u) := by
  unfold f_W_read_92
  have := w32_sp ((v2 + (1 : Int)))
  refine ok_let (fun x15 e353 => ?_)
  have : (1 : Int) ≤ x15 ∧ x15 ≤ 80 := by omega
  exact hk46 (by omega) hG (by omega)
theorem s_W_read_88 {b : Wd} {w : Wd} {v2 : Int} (hG : G md_W_read b w) (i_v2 : ((0 : Int) ≤ v2 ∧ v2 ≤ 79)) : OK (f_W_read_88 v2 w) (fun r u => ((-81 : Int) ≤ r ∧ r ≤ 0) ∧ G md_W_read b u) := by
  unfold f_W_read_88
  have := w32_sp (((-1 : Int) - v2))
  exact ok_some ⟨by omega, hG⟩
theorem s_W_read_46 {b : Wd} : ∀ (n : Nat) {w : Wd} {v2 : Int}, ((81 : Int) - v2) < (n : Int) → G md_W_read b w → ((0 : Int) ≤ v2 ∧ v2 ≤ 80) → OK (f_W_read_46 n v2 w) (fun r u => ((-81 : Int) ≤ r ∧ r ≤ 0) ∧ G md_W_read b u) := by
  intro n
  induction n with
  | zero =>
    intro w v2 hm hG i_v2
    exfalso
    omega
  | succ n ih =>
    intro w v2 hm hG i_v2
    rw [f_W_read_46]
    have : (0 : Int) ≤ (w 1 1) ∧ (w 1 1) ≤ 80 := hG.1 1 1
    have : (w 1 1) = (b 1 1) := hG.2.1 1 1 rfl
    refine ok_ite (fun h354 => ?_) (fun h355 => ?_)
    · have : (0 : Int) ≤ (w 19 10) ∧ (w 19 10) ≤ 1 := hG.1 19 10
      refine ok_ite (fun h356 => ?_) (fun h357 => ?_)
      · have : (0 : Int) ≤ (w 19 7) ∧ (w 19 7) ≤ 4 := hG.1 19 7
        refine ok_ite (fun h358 => ?_) (fun h359 => ?_)
        · refine ok_call (s_W_release (g_self hG) (by omega)) (fun r7 u8 q => ?_)
          obtain ⟨i360, g361⟩ := q
          have g362 : G md_W_read b u8 := g_tr hG g361 rfl
          have : (0 : Int) ≤ (u8 19 5) ∧ (u8 19 5) ≤ 40 := g362.1 19 5
          refine ok_gd (by omega) ?_
          refine ok_lw (fun u9 e363 => ?_)
          have g364 : G md_W_read b u9 := g_cpy g362 e363 rfl rfl (fun _ _ => show (-2147483648 : Int) ≤ -2147483648 ∧ (2147483647 : Int) ≤ 2147483647 by decide)
          have : (0 : Int) ≤ (u9 19 5) ∧ (u9 19 5) ≤ 40 := g364.1 19 5
          refine ok_lw (fun u10 e365 => ?_)
          have g366 : G md_W_read b u10 := g_st g364 e365 rfl rfl (show (0 : Int) ≤ (u9 19 5) ∧ (u9 19 5) ≤ 40 by omega)
          exact ok_some ⟨by omega, g366⟩
        · exact s_W_read_112 hG
      · exact s_W_read_112 hG
    · refine ok_call (s_T_signAt (g_self hG) (by omega) (by omega)) (fun r11 u12 q => ?_)
      obtain ⟨i367, g368, p370⟩ := q
      have g369 : G md_W_read b u12 := g_tr hG g368 rfl
      have : (0 : Int) ≤ (u12 1 1) ∧ (u12 1 1) ≤ 80 := g369.1 1 1
      have : (u12 1 1) = (w 1 1) := g368.2.1 1 1 rfl
      have : (0 : Int) ≤ (u12 19 10) ∧ (u12 19 10) ≤ 1 := g369.1 19 10
      have : (u12 19 10) = (w 19 10) := g368.2.1 19 10 rfl
      have : (0 : Int) ≤ (w 19 10) ∧ (w 19 10) ≤ 1 := hG.1 19 10
      refine ok_ite (fun h371 => ?_) (fun h372 => ?_)
      · refine ok_call (s_W_takeBehindThing (g_self g369) (by omega)) (fun r13 u14 q => ?_)
        obtain ⟨i373, g374⟩ := q
        have g375 : G md_W_read b u14 := g_tr g369 g374 rfl
        refine ok_ite (fun h376 => ?_) (fun h377 => ?_)
        · exact s_W_read_88 g375 (by omega)
        · exact s_W_read_92 ih g375 (by omega) (by omega)
      · refine ok_call (s_W_takeThing (g_self g369) (by omega)) (fun r16 u17 q => ?_)
        obtain ⟨i378, g379⟩ := q
        have g380 : G md_W_read b u17 := g_tr g369 g379 rfl
        refine ok_ite (fun h381 => ?_) (fun h382 => ?_)
        · exact s_W_read_88 g380 (by omega)
        · exact s_W_read_92 ih g380 (by omega) (by omega)
theorem s_W_read {w : Wd} (hG : G md_W_read w w) : OK (f_W_read w) (fun r u => ((-81 : Int) ≤ r ∧ r ≤ 0) ∧ G md_W_read w u) := by
  unfold f_W_read
  have : (0 : Int) ≤ (w 1 1) ∧ (w 1 1) ≤ 80 := hG.1 1 1
  refine ok_ite (fun h383 => ?_) (fun h384 => ?_)
  · refine ok_lw (fun u18 e385 => ?_)
    have g386 : G md_W_read w u18 := g_st hG e385 rfl rfl (show (0 : Int) ≤ (0 : Int) ∧ (0 : Int) ≤ 40 by omega)
    exact ok_some ⟨by omega, g386⟩
  · refine ok_lw (fun u1 e387 => ?_)
    have g388 : G md_W_read w u1 := g_st hG e387 rfl rfl (show (0 : Int) ≤ (0 : Int) ∧ (0 : Int) ≤ 40 by omega)
    refine ok_lw (fun u2 e389 => ?_)
    have g390 : G md_W_read w u2 := g_st g388 e389 rfl rfl (show (0 : Int) ≤ (0 : Int) ∧ (0 : Int) ≤ 40 by omega)
    refine ok_lw (fun u3 e391 => ?_)
    have g392 : G md_W_read w u3 := g_st g390 e391 rfl rfl (show (0 : Int) ≤ (0 : Int) ∧ (0 : Int) ≤ 4 by omega)
    refine ok_lw (fun u4 e393 => ?_)
    have g394 : G md_W_read w u4 := g_st g392 e393 rfl rfl (show (0 : Int) ≤ (0 : Int) ∧ (0 : Int) ≤ 3 by omega)
    refine ok_lw (fun u5 e395 => ?_)
    have g396 : G md_W_read w u5 := g_st g394 e395 rfl rfl (show (0 : Int) ≤ (0 : Int) ∧ (0 : Int) ≤ 31 by omega)
    refine ok_lw (fun u6 e397 => ?_)
    have g398 : G md_W_read w u6 := g_st g396 e397 rfl rfl (show (0 : Int) ≤ (1 : Int) ∧ (1 : Int) ≤ 1 by omega)
    exact s_W_read_46 FU (by have := eqFU; omega) g398 (by omega)
theorem s_E_rule {w : Wd} (hG : G md_E_rule w w) : OK (f_E_rule w) (fun r u => ((-81 : Int) ≤ r ∧ r ≤ 0) ∧ G md_E_rule w u ∧ ((u 1 1) = (0 : Int))) := by
  unfold f_E_rule
  refine ok_call (s_W_read (g_self hG)) (fun r1 u2 q => ?_)
  obtain ⟨i399, g400⟩ := q
  have g401 : G md_E_rule w u2 := g_tr hG g400 rfl
  refine ok_call (s_T_clear (g_self g401)) (fun r3 u4 q => ?_)
  obtain ⟨i402, g403, p405⟩ := q
  have g404 : G md_E_rule w u4 := g_tr g401 g403 rfl
  have : (0 : Int) ≤ (u4 1 1) ∧ (u4 1 1) ≤ 80 := g404.1 1 1
  exact ok_some ⟨by omega, g404, (by omega)⟩
theorem s_F_everybody {w : Wd} (hG : G md_F_everybody w w) : OK (f_F_everybody w) (fun r u => ((0 : Int) ≤ r ∧ r ≤ 1023) ∧ G md_F_everybody w u) := by
  unfold f_F_everybody
  have : (0 : Int) ≤ (w 5 3) ∧ (w 5 3) ≤ 10 := hG.1 5 3
  have := ishl1_n 10 (i := (w 5 3)) (j := 10) (m := 1024) (by decide) (by decide) (by decide) (by omega)
  have := w32_sp (((ishl (1 : Int) (w 5 3)) - (1 : Int)))
  exact ok_some ⟨by omega, hG⟩
theorem s_O_known {w : Wd} {v0 : Int} (hG : G md_O_known w w) (i_v0 : ((-2147483648 : Int) ≤ v0 ∧ v0 ≤ 2147483647)) : OK (f_O_known v0 w) (fun r u => ((0 : Int) ≤ r ∧ r ≤ 1023) ∧ G md_O_known w u) := by
  unfold f_O_known
  have := ishr_rg v0 (10 : Int)
  have := ior_rg v0 (ishr v0 (10 : Int))
  have := ishr_rg v0 (20 : Int)
  have := ior_rg (ior v0 (ishr v0 (10 : Int))) (ishr v0 (20 : Int))
  have := iand_r (x := (ior (ior v0 (ishr v0 (10 : Int))) (ishr v0 (20 : Int)))) (y := (1023 : Int)) (by omega)
  exact ok_some ⟨by omega, hG⟩
theorem s_F_strangers {w : Wd} (hG : G md_F_strangers w w) : OK (f_F_strangers w) (fun r u => ((0 : Int) ≤ r ∧ r ≤ 1023) ∧ G md_F_strangers w u) := by
  unfold f_F_strangers
  refine ok_call (s_F_everybody (g_self hG)) (fun r1 u2 q => ?_)
  obtain ⟨i406, g407⟩ := q
  have g408 : G md_F_strangers w u2 := g_tr hG g407 rfl
  have : (-2147483648 : Int) ≤ (u2 5 4) ∧ (u2 5 4) ≤ 2147483647 := g408.1 5 4
  have : (u2 5 4) = (w 5 4) := g407.2.1 5 4 rfl
  have : (-2147483648 : Int) ≤ (w 5 4) ∧ (w 5 4) ≤ 2147483647 := hG.1 5 4
  refine ok_call (s_O_known (g_self g408) (by omega)) (fun r3 u4 q => ?_)
  obtain ⟨i409, g410⟩ := q
  have g411 : G md_F_strangers w u4 := g_tr g408 g410 rfl
  have := ixor_m1 (x := r3) (by omega)
  have := iand_l (x := r1) (y := (ixor r3 (-1 : Int))) (by omega)
  exact ok_some ⟨by omega, g411⟩
theorem s_O_late {w : Wd} {v0 v1 : Int} (hG : G md_O_late w w) (i_v0 : ((-2147483648 : Int) ≤ v0 ∧ v0 ≤ 2147483647)) (i_v1 : ((0 : Int) ≤ v1 ∧ v1 ≤ 9)) : OK (f_O_late v0 v1 w) (fun r u => ((-1 : Int) ≤ r ∧ r ≤ 2) ∧ G md_O_late w u) := by
  unfold f_O_late
  refine ok_call (s_O_guests (g_self hG) (by omega)) (fun r1 u2 q => ?_)
  obtain ⟨i412, g413⟩ := q
  have g414 : G md_O_late w u2 := g_tr hG g413 rfl
  refine ok_jif (by omega) ?_
  refine ok_jif (by omega) ?_
  have := ishr_nn (x := r1) (y := v1) (by omega)
  have := iand_l (x := (ishr r1 v1)) (y := (1 : Int)) (by omega)
  have := iand_r (x := (ishr r1 v1)) (y := (1 : Int)) (by omega)
  refine ok_jite (fun h416 => ?_) (fun h417 => ?_)
  · refine ok_jsome ?_
    refine ok_it (by decide) ?_
    exact ok_some ⟨by omega, g414⟩
  · refine ok_jsome ?_
    refine ok_if (by decide) ?_
    have := ishr_rg v0 v1
    have := iand_r (x := (ishr v0 v1)) (y := (1 : Int)) (by omega)
    have := w32_sp (((10 : Int) + v1))
    have := ishr_rg v0 (w32 ((10 : Int) + v1))
    have := iand_r (x := (ishr v0 (w32 ((10 : Int) + v1)))) (y := (1 : Int)) (by omega)
    have := w32_sp (((2 : Int) * (iand (ishr v0 (w32 ((10 : Int) + v1))) (1 : Int))))
    have := w32_sp (((iand (ishr v0 v1) (1 : Int)) + (w32 ((2 : Int) * (iand (ishr v0 (w32 ((10 : Int) + v1))) (1 : Int))))))
    have := w32_sp (((w32 ((iand (ishr v0 v1) (1 : Int)) + (w32 ((2 : Int) * (iand (ishr v0 (w32 ((10 : Int) + v1))) (1 : Int)))))) - (1 : Int)))
    exact ok_some ⟨by omega, g414⟩
theorem s_D_guestsBehind {w : Wd} {v1 : Int} (hG : G md_D_guestsBehind w w) (i_v1 : ((0 : Int) ≤ v1 ∧ v1 ≤ 60)) : OK (f_D_guestsBehind v1 w) (fun r u => ((0 : Int) ≤ r ∧ r ≤ 1023) ∧ G md_D_guestsBehind w u) := by
  unfold f_D_guestsBehind
  refine ok_jif (by omega) ?_
  refine ok_jif (by omega) ?_
  have : (0 : Int) ≤ (w 15 3) ∧ (w 15 3) ≤ 60 := hG.1 15 3
  refine ok_jite (fun h419 => ?_) (fun h420 => ?_)
  · refine ok_jsome ?_
    refine ok_it (by decide) ?_
    exact ok_some ⟨by omega, hG⟩
  · refine ok_jsome ?_
    refine ok_if (by decide) ?_
    refine ok_gd (by omega) ?_
    have : (0 : Int) ≤ (w 16 (v1).toNat) ∧ (w 16 (v1).toNat) ≤ 1023 := hG.1 16 (v1).toNat
    exact ok_some ⟨by omega, hG⟩
theorem s_D_firstWeekOf_2 {b : Wd} : ∀ (n : Nat) {w : Wd} {v1 v2 : Int}, ((62 : Int) - v2) < (n : Int) → G md_D_firstWeekOf b w → ((0 : Int) ≤ v1 ∧ v1 ≤ 9) → ((0 : Int) ≤ v2 ∧ v2 ≤ 61) → OK (f_D_firstWeekOf_2 n v1 v2 w) (fun r u => ((-1 : Int) ≤ r ∧ r ≤ 60) ∧ G md_D_firstWeekOf b u) := by
  intro n
  induction n with
  | zero =>
    intro w v1 v2 hm hG i_v1 i_v2
    exfalso
    omega
  | succ n ih =>
    intro w v1 v2 hm hG i_v1 i_v2
    rw [f_D_firstWeekOf_2]
    have : (0 : Int) ≤ (w 15 3) ∧ (w 15 3) ≤ 60 := hG.1 15 3
    have : (w 15 3) = (b 15 3) := hG.2.1 15 3 rfl
    refine ok_ite (fun h421 => ?_) (fun h422 => ?_)
    · exact ok_some ⟨by omega, hG⟩
    · refine ok_call (s_D_guestsBehind (g_self hG) (by omega)) (fun r1 u2 q => ?_)
      obtain ⟨i423, g424⟩ := q
      have g425 : G md_D_firstWeekOf b u2 := g_tr hG g424 rfl
      refine ok_jif (by omega) ?_
      refine ok_jif (by omega) ?_
      have := ishr_nn (x := r1) (y := v1) (by omega)
      have := iand_l (x := (ishr r1 v1)) (y := (1 : Int)) (by omega)
      have := iand_r (x := (ishr r1 v1)) (y := (1 : Int)) (by omega)
      refine ok_jite (fun h427 => ?_) (fun h428 => ?_)
      · refine ok_jsome ?_
        refine ok_it (by decide) ?_
        have := w32_sp ((v2 + (1 : Int)))
        refine ok_let (fun x5 e429 => ?_)
        have : (1 : Int) ≤ x5 ∧ x5 ≤ 61 := by omega
        exact ih (by omega) g425 (by omega) (by omega)
      · refine ok_jsome ?_
        refine ok_if (by decide) ?_
        exact ok_some ⟨by omega, g425⟩
theorem s_D_firstWeekOf {w : Wd} {v1 : Int} (hG : G md_D_firstWeekOf w w) (i_v1 : ((0 : Int) ≤ v1 ∧ v1 ≤ 9)) : OK (f_D_firstWeekOf v1 w) (fun r u => ((-1 : Int) ≤ r ∧ r ≤ 60) ∧ G md_D_firstWeekOf w u) := by
  unfold f_D_firstWeekOf
  exact s_D_firstWeekOf_2 FU (by have := eqFU; omega) hG (by omega) (by omega)
theorem s_E_law_75 {b : Wd} {w : Wd} {v3 : Int} (hG : G md_E_law b w) (i_v3 : ((0 : Int) ≤ v3 ∧ v3 ≤ 2147483647)) : OK (f_E_law_75 v3 w) (fun r u => ((-1 : Int) ≤ r ∧ r ≤ 2147483647) ∧ G md_E_law b u) := by
  unfold f_E_law_75
  refine ok_call (s_S_forget (g_self hG)) (fun r2 u3 q => ?_)
  obtain ⟨i430, g431⟩ := q
  have g432 : G md_E_law b u3 := g_tr hG g431 rfl
  exact ok_some ⟨by omega, g432⟩
theorem s_E_law_51 {b : Wd} {w : Wd} {v1 v2 s0 : Int} (hG : G md_E_law b w) (i_v1 : ((0 : Int) ≤ v1 ∧ v1 ≤ 1)) (i_v2 : ((1 : Int) ≤ v2 ∧ v2 ≤ 2147483647)) (i_s0 : ((0 : Int) ≤ s0 ∧ s0 ≤ 2147483647)) : OK (f_E_law_51 v1 v2 s0 w) (fun r u => ((-1 : Int) ≤ r ∧ r ≤ 2147483647) ∧ G md_E_law b u) := by
  unfold f_E_law_51
  refine ok_ite (fun h433 => ?_) (fun h434 => ?_)
  · refine ok_lw (fun u4 e435 => ?_)
    have g436 : G md_E_law b u4 := g_st hG e435 rfl rfl (show (0 : Int) ≤ v2 ∧ v2 ≤ 2147483647 by omega)
    exact s_E_law_75 g436 (by omega)
  · refine ok_lw (fun u1 e437 => ?_)
    have g438 : G md_E_law b u1 := g_st hG e437 rfl rfl (show (0 : Int) ≤ v2 ∧ v2 ≤ 2147483647 by omega)
    exact s_E_law_75 g438 (by omega)
theorem s_E_law_25 {b : Wd} {w : Wd} {v1 v2 s0 s1 : Int} (hG : G md_E_law b w) (i_v1 : ((0 : Int) ≤ v1 ∧ v1 ≤ 1)) (i_v2 : ((1 : Int) ≤ v2 ∧ v2 ≤ 2147483647)) (i_s0 : ((1 : Int) ≤ s0 ∧ s0 ≤ 2147483647)) (i_s1 : ((3 : Int) ≤ s1 ∧ s1 ≤ 10)) : OK (f_E_law_25 v1 v2 s0 s1 w) (fun r u => ((-1 : Int) ≤ r ∧ r ≤ 2147483647) ∧ G md_E_law b u) := by
  unfold f_E_law_25
  refine ok_ite (fun h439 => ?_) (fun h440 => ?_)
  · refine ok_ite (fun h441 => ?_) (fun h442 => ?_)
    · have : (0 : Int) ≤ (w 5 7) ∧ (w 5 7) ≤ 2147483647 := hG.1 5 7
      exact s_E_law_51 hG (by omega) (by omega) (by omega)
    · have : (0 : Int) ≤ (w 5 8) ∧ (w 5 8) ≤ 2147483647 := hG.1 5 8
      exact s_E_law_51 hG (by omega) (by omega) (by omega)
  · exact ok_some ⟨by omega, hG⟩
theorem s_E_law {w : Wd} {v1 v2 : Int} (hG : G md_E_law w w) (i_v1 : ((-2147483648 : Int) ≤ v1 ∧ v1 ≤ 2147483647)) (i_v2 : ((-2147483648 : Int) ≤ v2 ∧ v2 ≤ 2147483647)) : OK (f_E_law v1 v2 w) (fun r u => ((-1 : Int) ≤ r ∧ r ≤ 2147483647) ∧ G md_E_law w u) := by
  unfold f_E_law
  refine ok_ite (fun h443 => ?_) (fun h444 => ?_)
  · exact ok_some ⟨by omega, hG⟩
  · refine ok_ite (fun h445 => ?_) (fun h446 => ?_)
    · exact ok_some ⟨by omega, hG⟩
    · refine ok_ite (fun h447 => ?_) (fun h448 => ?_)
      · exact ok_some ⟨by omega, hG⟩
      · refine ok_ite (fun h449 => ?_) (fun h450 => ?_)
        · exact s_E_law_25 hG (by omega) (by omega) (by omega) (by omega)
        · exact s_E_law_25 hG (by omega) (by omega) (by omega) (by omega)
theorem s_E_meet {w : Wd} {v1 v2 v3 : Int} (hG : G md_E_meet w w) (i_v1 : ((-2147483648 : Int) ≤ v1 ∧ v1 ≤ 2147483647)) (i_v2 : ((-2147483648 : Int) ≤ v2 ∧ v2 ≤ 2147483647)) (i_v3 : ((0 : Int) ≤ v3 ∧ v3 ≤ 1)) : OK (f_E_meet v1 v2 v3 w) (fun r u => ((0 : Int) ≤ r ∧ r ≤ 1) ∧ G md_E_meet w u) := by
  unfold f_E_meet
  refine ok_jite (fun h452 => ?_) (fun h453 => ?_)
  · refine ok_jsome ?_
    refine ok_it (by decide) ?_
    exact ok_some ⟨by omega, hG⟩
  · refine ok_jj ?_
    refine ok_jite (fun h455 => ?_) (fun h456 => ?_)
    · refine ok_jsome ?_
      refine ok_jit (by decide) ?_
      refine ok_jsome ?_
      refine ok_it (by decide) ?_
      exact ok_some ⟨by omega, hG⟩
    · have : (0 : Int) ≤ (w 5 3) ∧ (w 5 3) ≤ 10 := hG.1 5 3
      refine ok_jite (fun h457 => ?_) (fun h458 => ?_)
      · refine ok_jsome ?_
        refine ok_jit (by decide) ?_
        refine ok_jsome ?_
        refine ok_it (by decide) ?_
        exact ok_some ⟨by omega, hG⟩
      · refine ok_jsome ?_
        refine ok_jif (by decide) ?_
        refine ok_jj ?_
        refine ok_jite (fun h460 => ?_) (fun h461 => ?_)
        · refine ok_jsome ?_
          refine ok_jit (by decide) ?_
          refine ok_jsome ?_
          refine ok_it (by decide) ?_
          exact ok_some ⟨by omega, hG⟩
        · refine ok_jite (fun h462 => ?_) (fun h463 => ?_)
          · refine ok_jsome ?_
            refine ok_jit (by decide) ?_
            refine ok_jsome ?_
            refine ok_it (by decide) ?_
            exact ok_some ⟨by omega, hG⟩
          · refine ok_jsome ?_
            refine ok_jif (by decide) ?_
            refine ok_jsome ?_
            refine ok_if (by decide) ?_
            refine ok_gd (by omega) ?_
            have : (-2147483648 : Int) ≤ (w 7 (v1).toNat) ∧ (w 7 (v1).toNat) ≤ 2147483647 := hG.1 7 (v1).toNat
            refine ok_call (s_E_with (g_self hG) (by omega) (by omega) (by omega)) (fun r3 u4 q => ?_)
            obtain ⟨i464, g465⟩ := q
            have g466 : G md_E_meet w u4 := g_tr hG g465 rfl
            refine ok_gd (by omega) ?_
            refine ok_lw (fun u5 e467 => ?_)
            have g468 : G md_E_meet w u5 := g_st g466 e467 rfl rfl (show (-2147483648 : Int) ≤ r3 ∧ r3 ≤ 2147483647 by omega)
            refine ok_gd (by omega) ?_
            have : (-2147483648 : Int) ≤ (u5 7 (v2).toNat) ∧ (u5 7 (v2).toNat) ≤ 2147483647 := g468.1 7 (v2).toNat
            refine ok_call (s_E_with (g_self g468) (by omega) (by omega) (by omega)) (fun r6 u7 q => ?_)
            obtain ⟨i469, g470⟩ := q
            have g471 : G md_E_meet w u7 := g_tr g468 g470 rfl
            refine ok_gd (by omega) ?_
            refine ok_lw (fun u8 e472 => ?_)
            have g473 : G md_E_meet w u8 := g_st g471 e472 rfl rfl (show (-2147483648 : Int) ≤ r6 ∧ r6 ≤ 2147483647 by omega)
            refine ok_call (s_S_forget (g_self g473)) (fun r9 u10 q => ?_)
            obtain ⟨i474, g475⟩ := q
            have g476 : G md_E_meet w u10 := g_tr g473 g475 rfl
            exact ok_some ⟨by omega, g476⟩
theorem s_E_hide {w : Wd} {v1 v2 : Int} (hG : G md_E_hide w w) (i_v1 : ((-2147483648 : Int) ≤ v1 ∧ v1 ≤ 2147483647)) (i_v2 : ((0 : Int) ≤ v2 ∧ v2 ≤ 1)) : OK (f_E_hide v1 v2 w) (fun r u => ((0 : Int) ≤ r ∧ r ≤ 1) ∧ G md_E_hide w u) := by
  unfold f_E_hide
  refine ok_jite (fun h478 => ?_) (fun h479 => ?_)
  · refine ok_jsome ?_
    refine ok_it (by decide) ?_
    exact ok_some ⟨by omega, hG⟩
  · have : (0 : Int) ≤ (w 5 3) ∧ (w 5 3) ≤ 10 := hG.1 5 3
    refine ok_jite (fun h480 => ?_) (fun h481 => ?_)
    · refine ok_jsome ?_
      refine ok_it (by decide) ?_
      exact ok_some ⟨by omega, hG⟩
    · refine ok_jsome ?_
      refine ok_if (by decide) ?_
      have : (-2147483648 : Int) ≤ (w 5 5) ∧ (w 5 5) ≤ 2147483647 := hG.1 5 5
      refine ok_call (s_E_with (g_self hG) (by omega) (by omega) (by omega)) (fun r3 u4 q => ?_)
      obtain ⟨i482, g483⟩ := q
      have g484 : G md_E_hide w u4 := g_tr hG g483 rfl
      refine ok_lw (fun u5 e485 => ?_)
      have g486 : G md_E_hide w u5 := g_st g484 e485 rfl rfl (show (-2147483648 : Int) ≤ r3 ∧ r3 ≤ 2147483647 by omega)
      refine ok_call (s_S_forget (g_self g486)) (fun r6 u7 q => ?_)
      obtain ⟨i487, g488⟩ := q
      have g489 : G md_E_hide w u7 := g_tr g486 g488 rfl
      exact ok_some ⟨by omega, g489⟩
theorem s_E_baby {w : Wd} {v1 : Int} (hG : G md_E_baby w w) (i_v1 : ((-2147483648 : Int) ≤ v1 ∧ v1 ≤ 2147483647)) : OK (f_E_baby v1 w) (fun r u => ((-1 : Int) ≤ r ∧ r ≤ 9) ∧ G md_E_baby w u) := by
  unfold f_E_baby
  have : (0 : Int) ≤ (w 5 3) ∧ (w 5 3) ≤ 10 := hG.1 5 3
  refine ok_ite (fun h490 => ?_) (fun h491 => ?_)
  · exact ok_some ⟨by omega, hG⟩
  · refine ok_call (s_F_everybody (g_self hG)) (fun r1 u2 q => ?_)
    obtain ⟨i492, g493⟩ := q
    have g494 : G md_E_baby w u2 := g_tr hG g493 rfl
    have := ixor_m1 (x := r1) (by omega)
    have := iand_rg v1 (ixor r1 (-1 : Int))
    refine ok_ite (fun h495 => ?_) (fun h496 => ?_)
    · refine ok_call (s_F_add (g_self g494) (by omega) (by omega)) (fun r3 u4 q => ?_)
      obtain ⟨i497, g498⟩ := q
      have g499 : G md_E_baby w u4 := g_tr g494 g498 rfl
      refine ok_call (s_E_peopleCame (g_self g499)) (fun r5 u6 q => ?_)
      obtain ⟨i500, g501⟩ := q
      have g502 : G md_E_baby w u6 := g_tr g499 g501 rfl
      have : (0 : Int) ≤ (u6 5 3) ∧ (u6 5 3) ≤ 10 := g502.1 5 3
      have : (u6 5 3) = (u4 5 3) := g501.2.1 5 3 rfl
      have : (0 : Int) ≤ (u4 5 3) ∧ (u4 5 3) ≤ 10 := g499.1 5 3
      have := w32_sp (((u6 5 3) - (1 : Int)))
      exact ok_some ⟨by omega, g502⟩
    · exact ok_some ⟨by omega, g494⟩
theorem s_F_pricesOf_31 {b : Wd} {k4 : Int → Int → Int → Wd → Option (Int × Wd)} {Bk4 : Int} (hk4 : ∀ {w1 : Wd} {v1 v2 v3 : Int}, ((11 : Int) - v3) < Bk4 → G md_F_pricesOf b w1 → ((0 : Int) ≤ v1 ∧ v1 ≤ 1023) → ((-2147483648 : Int) ≤ v2 ∧ v2 ≤ 2147483647) → ((0 : Int) ≤ v3 ∧ v3 ≤ 10) → OK (k4 v1 v2 v3 w1) (fun r u => ((-2147483648 : Int) ≤ r ∧ r ≤ 2147483647) ∧ G md_F_pricesOf b u)) {w : Wd} {v1 v3 s0 s1 : Int} (hG : G md_F_pricesOf b w) (i_v1 : ((0 : Int) ≤ v1 ∧ v1 ≤ 1023)) (i_v3 : ((0 : Int) ≤ v3 ∧ v3 ≤ 9)) (i_s0 : ((-2147483648 : Int) ≤ s0 ∧ s0 ≤ 2147483647)) (i_s1 : ((0 : Int) ≤ s1 ∧ s1 ≤ 9)) (hBk4 : ((11 : Int) - v3) ≤ Bk4) : OK (f_F_pricesOf_31 k4 v1 v3 s0 s1 w) (fun r u => ((-2147483648 : Int) ≤ r ∧ r ≤ 2147483647) ∧ G md_F_pricesOf b u) := by
  unfold f_F_pricesOf_31
  have := w32_sp ((s0 + s1))
  refine ok_let (fun x3 e503 => ?_)
  have : (-2147483648 : Int) ≤ x3 ∧ x3 ≤ 2147483647 := by omega
  have := w32_sp ((v3 + (1 : Int)))
  refine ok_let (fun x4 e504 => ?_)
  have : (1 : Int) ≤ x4 ∧ x4 ≤ 10 := by omega
  exact hk4 (by omega) hG (by omega) (by omega) (by omega)
theorem s_F_pricesOf_4 {b : Wd} : ∀ (n : Nat) {w : Wd} {v1 v2 v3 : Int}, ((11 : Int) - v3) < (n : Int) → G md_F_pricesOf b w → ((0 : Int) ≤ v1 ∧ v1 ≤ 1023) → ((-2147483648 : Int) ≤ v2 ∧ v2 ≤ 2147483647) → ((0 : Int) ≤ v3 ∧ v3 ≤ 10) → OK (f_F_pricesOf_4 n v1 v2 v3 w) (fun r u => ((-2147483648 : Int) ≤ r ∧ r ≤ 2147483647) ∧ G md_F_pricesOf b u) := by
  intro n
  induction n with
  | zero =>
    intro w v1 v2 v3 hm hG i_v1 i_v2 i_v3
    exfalso
    omega
  | succ n ih =>
    intro w v1 v2 v3 hm hG i_v1 i_v2 i_v3
    rw [f_F_pricesOf_4]
    have : (0 : Int) ≤ (w 5 3) ∧ (w 5 3) ≤ 10 := hG.1 5 3
    have : (w 5 3) = (b 5 3) := hG.2.1 5 3 rfl
    refine ok_ite (fun h505 => ?_) (fun h506 => ?_)
    · exact ok_some ⟨by omega, hG⟩
    · refine ok_jif (by omega) ?_
      refine ok_jif (by omega) ?_
      have := ishr_nn (x := v1) (y := v3) (by omega)
      have := iand_l (x := (ishr v1 v3)) (y := (1 : Int)) (by omega)
      have := iand_r (x := (ishr v1 v3)) (y := (1 : Int)) (by omega)
      refine ok_jite (fun h508 => ?_) (fun h509 => ?_)
      · refine ok_jsome ?_
        refine ok_it (by decide) ?_
        exact s_F_pricesOf_31 ih hG (by omega) (by omega) (by omega) (by omega) (by omega)
      · refine ok_jsome ?_
        refine ok_if (by decide) ?_
        refine ok_gd (by omega) ?_
        have : (0 : Int) ≤ (w 6 (v3).toNat) ∧ (w 6 (v3).toNat) ≤ 9 := hG.1 6 (v3).toNat
        exact s_F_pricesOf_31 ih hG (by omega) (by omega) (by omega) (by omega) (by omega)
theorem s_F_pricesOf {w : Wd} {v1 : Int} (hG : G md_F_pricesOf w w) (i_v1 : ((0 : Int) ≤ v1 ∧ v1 ≤ 1023)) : OK (f_F_pricesOf v1 w) (fun r u => ((-2147483648 : Int) ≤ r ∧ r ≤ 2147483647) ∧ G md_F_pricesOf w u) := by
  unfold f_F_pricesOf
  exact s_F_pricesOf_4 FU (by have := eqFU; omega) hG (by omega) (by omega) (by omega)
theorem s_E_entry_20 {b : Wd} {w : Wd} {s0 : Int} (hG : G md_E_entry b w) (i_s0 : ((-2147483648 : Int) ≤ s0 ∧ s0 ≤ 2147483647)) : OK (f_E_entry_20 s0 w) (fun r u => ((0 : Int) ≤ r ∧ r ≤ 9) ∧ G md_E_entry b u) := by
  unfold f_E_entry_20
  have := imin_sp (9 : Int) s0
  have := imax_sp (0 : Int) (imin (9 : Int) s0)
  exact ok_some ⟨by omega, hG⟩
theorem s_E_entry {w : Wd} {v0 v1 : Int} (hG : G md_E_entry w w) (i_v0 : ((0 : Int) ≤ v0 ∧ v0 ≤ 2)) (i_v1 : ((-2147483648 : Int) ≤ v1 ∧ v1 ≤ 2147483647)) : OK (f_E_entry v0 v1 w) (fun r u => ((0 : Int) ≤ r ∧ r ≤ 9) ∧ G md_E_entry w u) := by
  unfold f_E_entry
  refine ok_ite (fun h510 => ?_) (fun h511 => ?_)
  · have := i2b_rg v1
    exact s_E_entry_20 hG (by omega)
  · refine ok_ite (fun h512 => ?_) (fun h513 => ?_)
    · have := i2s_rg v1
      exact s_E_entry_20 hG (by omega)
    · exact s_E_entry_20 hG (by omega)
theorem s_JA_fill_6_5 {b : Wd} : ∀ (n : Nat) {w : Wd} {v1 v2 v3 : Int}, ((11 : Int) - v2) < (n : Int) → G md_JA_fill_6 b w → ((0 : Int) ≤ v1 ∧ v1 ≤ 0) → ((0 : Int) ≤ v2 ∧ v2 ≤ 10) → ((10 : Int) ≤ v3 ∧ v3 ≤ 10) → OK (f_JA_fill_6_5 n v1 v2 v3 w) (fun r u => ((0 : Int) ≤ r ∧ r ≤ 0) ∧ G md_JA_fill_6 b u) := by
  intro n
  induction n with
  | zero =>
    intro w v1 v2 v3 hm hG i_v1 i_v2 i_v3
    exfalso
    omega
  | succ n ih =>
    intro w v1 v2 v3 hm hG i_v1 i_v2 i_v3
    rw [f_JA_fill_6_5]
    refine ok_ite (fun h514 => ?_) (fun h515 => ?_)
    · exact ok_some ⟨by omega, hG⟩
    · refine ok_gd (by omega) ?_
      refine ok_lw (fun u1 e516 => ?_)
      have g517 : G md_JA_fill_6 b u1 := g_st hG e516 rfl rfl (show (0 : Int) ≤ v1 ∧ v1 ≤ 9 by omega)
      have := w32_sp ((v2 + (1 : Int)))
      refine ok_let (fun x2 e518 => ?_)
      have : (1 : Int) ≤ x2 ∧ x2 ≤ 10 := by omega
      exact ih (by omega) g517 (by omega) (by omega) (by omega)
theorem s_JA_fill_6 {w : Wd} {v1 : Int} (hG : G md_JA_fill_6 w w) (i_v1 : ((0 : Int) ≤ v1 ∧ v1 ≤ 0)) : OK (f_JA_fill_6 v1 w) (fun r u => ((0 : Int) ≤ r ∧ r ≤ 0) ∧ G md_JA_fill_6 w u) := by
  unfold f_JA_fill_6
  exact s_JA_fill_6_5 FU (by have := eqFU; omega) hG (by omega) (by omega) (by omega)
theorem s_E_sheet_88 {b : Wd} {k46 : Int → Int → Int → Int → Int → Wd → Option (Int × Wd)} {Bk46 : Int} (hk46 : ∀ {w1 : Wd} {v1 v2 v3 v4 v5 : Int}, ((11 : Int) - v5) < Bk46 → G md_E_sheet b w1 → ((0 : Int) ≤ v1 ∧ v1 ≤ 2) → ((0 : Int) ≤ v2 ∧ v2 ≤ 10) → ((-2147483648 : Int) ≤ v3 ∧ v3 ≤ 2147483647) → ((-2147483648 : Int) ≤ v4 ∧ v4 ≤ 2147483647) → ((0 : Int) ≤ v5 ∧ v5 ≤ 10) → OK (k46 v1 v2 v3 v4 v5 w1) (fun r u => ((-2147483648 : Int) ≤ r ∧ r ≤ 2147483647) ∧ G md_E_sheet b u)) {w : Wd} {v1 v2 v3 v4 v5 s1 s2 : Int} (hG : G md_E_sheet b w) (i_v1 : ((0 : Int) ≤ v1 ∧ v1 ≤ 2)) (i_v2 : ((0 : Int) ≤ v2 ∧ v2 ≤ 10)) (i_v3 : ((-2147483648 : Int) ≤ v3 ∧ v3 ≤ 2147483647)) (i_v4 : ((-2147483648 : Int) ≤ v4 ∧ v4 ≤ 2147483647)) (i_v5 : ((0 : Int) ≤ v5 ∧ v5 ≤ 9)) (i_s1 : ((0 : Int) ≤ s1 ∧ s1 ≤ 9)) (i_s2 : ((0 : Int) ≤ s2 ∧ s2 ≤ 9)) (hBk46 : ((11 : Int) - v5) ≤ Bk46) : OK (f_E_sheet_88 k46 v1 v2 v3 v4 v5 s1 s2 w) (fun r u => ((-2147483648 : Int) ≤ r ∧ r ≤ 2147483647) ∧ G md_E_sheet b u) := by
  unfold f_E_sheet_88
  refine ok_gd (by omega) ?_
  refine ok_lw (fun u5 e519 => ?_)
  have g520 : G md_E_sheet b u5 := g_st hG e519 rfl rfl (show (0 : Int) ≤ s2 ∧ s2 ≤ 9 by omega)
  have := w32_sp ((v5 + (1 : Int)))
  refine ok_let (fun x6 e521 => ?_)
  have : (1 : Int) ≤ x6 ∧ x6 ≤ 10 := by omega
  exact hk46 (by omega) g520 (by omega) (by omega) (by omega) (by omega) (by omega)
theorem s_E_sheet_46 {b : Wd} : ∀ (n : Nat) {w : Wd} {v1 v2 v3 v4 v5 : Int}, ((11 : Int) - v5) < (n : Int) → G md_E_sheet b w → ((0 : Int) ≤ v1 ∧ v1 ≤ 2) → ((0 : Int) ≤ v2 ∧ v2 ≤ 10) → ((-2147483648 : Int) ≤ v3 ∧ v3 ≤ 2147483647) → ((-2147483648 : Int) ≤ v4 ∧ v4 ≤ 2147483647) → ((0 : Int) ≤ v5 ∧ v5 ≤ 10) → OK (f_E_sheet_46 n v1 v2 v3 v4 v5 w) (fun r u => ((-2147483648 : Int) ≤ r ∧ r ≤ 2147483647) ∧ G md_E_sheet b u) := by
  intro n
  induction n with
  | zero =>
    intro w v1 v2 v3 v4 v5 hm hG i_v1 i_v2 i_v3 i_v4 i_v5
    exfalso
    omega
  | succ n ih =>
    intro w v1 v2 v3 v4 v5 hm hG i_v1 i_v2 i_v3 i_v4 i_v5
    rw [f_E_sheet_46]
    have : (0 : Int) ≤ (w 5 3) ∧ (w 5 3) ≤ 10 := hG.1 5 3
    have : (w 5 3) = (b 5 3) := hG.2.1 5 3 rfl
    refine ok_ite (fun h522 => ?_) (fun h523 => ?_)
    · refine ok_call (s_F_everybody (g_self hG)) (fun r1 u2 q => ?_)
      obtain ⟨i524, g525⟩ := q
      have g526 : G md_E_sheet b u2 := g_tr hG g525 rfl
      refine ok_call (s_F_pricesOf (g_self g526) (by omega)) (fun r3 u4 q => ?_)
      obtain ⟨i527, g528⟩ := q
      have g529 : G md_E_sheet b u4 := g_tr g526 g528 rfl
      exact ok_some ⟨by omega, g529⟩
    · refine ok_ite (fun h530 => ?_) (fun h531 => ?_)
      · exact s_E_sheet_88 ih hG (by omega) (by omega) (by omega) (by omega) (by omega) (by omega) (by omega) (by omega)
      · have := w32_sp ((v5 * v4))
        have := w32_sp ((v3 + (w32 (v5 * v4))))
        refine ok_call (s_E_entry (g_self hG) (by omega) (by omega)) (fun r7 u8 q => ?_)
        obtain ⟨i532, g533⟩ := q
        have g534 : G md_E_sheet b u8 := g_tr hG g533 rfl
        exact s_E_sheet_88 ih g534 (by omega) (by omega) (by omega) (by omega) (by omega) (by omega) (by omega) (by omega)
theorem s_E_sheet {w : Wd} {v1 v2 v3 v4 : Int} (hG : G md_E_sheet w w) (i_v1 : ((-2147483648 : Int) ≤ v1 ∧ v1 ≤ 2147483647)) (i_v2 : ((-2147483648 : Int) ≤ v2 ∧ v2 ≤ 2147483647)) (i_v3 : ((-2147483648 : Int) ≤ v3 ∧ v3 ≤ 2147483647)) (i_v4 : ((-2147483648 : Int) ≤ v4 ∧ v4 ≤ 2147483647)) : OK (f_E_sheet v1 v2 v3 v4 w) (fun r u => ((-2147483648 : Int) ≤ r ∧ r ≤ 2147483647) ∧ G md_E_sheet w u) := by
  unfold f_E_sheet
  refine ok_ite (fun h535 => ?_) (fun h536 => ?_)
  · exact ok_some ⟨by omega, hG⟩
  · refine ok_ite (fun h537 => ?_) (fun h538 => ?_)
    · exact ok_some ⟨by omega, hG⟩
    · refine ok_ite (fun h539 => ?_) (fun h540 => ?_)
      · refine ok_ite (fun h541 => ?_) (fun h542 => ?_)
        · refine ok_call (s_JA_fill_6 (g_self hG) (by omega)) (fun r9 u10 q => ?_)
          obtain ⟨i543, g544⟩ := q
          have g545 : G md_E_sheet w u10 := g_tr hG g544 rfl
          exact ok_some ⟨by omega, g545⟩
        · refine ok_ite (fun h546 => ?_) (fun h547 => ?_)
          · exact s_E_sheet_46 FU (by have := eqFU; omega) hG (by omega) (by omega) (by omega) (by omega) (by omega)
          · exact ok_some ⟨by omega, hG⟩
      · exact ok_some ⟨by omega, hG⟩
theorem s_P_clear {w : Wd} (hG : G md_P_clear w w) : OK (f_P_clear w) (fun r u => ((0 : Int) ≤ r ∧ r ≤ 0) ∧ G md_P_clear w u) := by
  unfold f_P_clear
  refine ok_lw (fun u1 e548 => ?_)
  have g549 : G md_P_clear w u1 := g_st hG e548 rfl rfl (show (0 : Int) ≤ (0 : Int) ∧ (0 : Int) ≤ 10 by omega)
  refine ok_lw (fun u2 e550 => ?_)
  have g551 : G md_P_clear w u2 := g_st g549 e550 rfl rfl (show (-2147483648 : Int) ≤ (0 : Int) ∧ (0 : Int) ≤ 2147483647 by omega)
  exact ok_some ⟨by omega, g551⟩
theorem s_P_add_39 {b : Wd} {w : Wd} {v1 v2 : Int} (hG : G md_P_add b w) (i_v1 : ((-99 : Int) ≤ v1 ∧ v1 ≤ 65438)) (i_v2 : ((-99 : Int) ≤ v2 ∧ v2 ≤ 65438)) : OK (f_P_add_39 v1 v2 w) (fun r u => ((0 : Int) ≤ r ∧ r ≤ 0) ∧ G md_P_add b u) := by
  unfold f_P_add_39
  have : (-2147483648 : Int) ≤ (w 12 3) ∧ (w 12 3) ≤ 2147483647 := hG.1 12 3
  have := ishl_rg (1 : Int) v1
  have := ishl_rg (1 : Int) v2
  have := ior_rg (ishl (1 : Int) v1) (ishl (1 : Int) v2)
  have := ior_rg (w 12 3) (ior (ishl (1 : Int) v1) (ishl (1 : Int) v2))
  refine ok_lw (fun u1 e552 => ?_)
  have g553 : G md_P_add b u1 := g_st hG e552 rfl rfl (show (-2147483648 : Int) ≤ (ior (w 12 3) (ior (ishl (1 : Int) v1) (ishl (1 : Int) v2))) ∧ (ior (w 12 3) (ior (ishl (1 : Int) v1) (ishl (1 : Int) v2))) ≤ 2147483647 by omega)
  exact ok_some ⟨by omega, g553⟩
theorem s_P_add {w : Wd} {v1 v2 : Int} (hG : G md_P_add w w) (i_v1 : ((-99 : Int) ≤ v1 ∧ v1 ≤ 65438)) (i_v2 : ((-99 : Int) ≤ v2 ∧ v2 ≤ 65438)) : OK (f_P_add v1 v2 w) (fun r u => ((0 : Int) ≤ r ∧ r ≤ 0) ∧ G md_P_add w u) := by
  unfold f_P_add
  have : (0 : Int) ≤ (w 12 2) ∧ (w 12 2) ≤ 10 := hG.1 12 2
  refine ok_ite (fun h554 => ?_) (fun h555 => ?_)
  · exact s_P_add_39 hG (by omega) (by omega)
  · refine ok_gd (by omega) ?_
    refine ok_lw (fun u2 e556 => ?_)
    have g557 : G md_P_add w u2 := g_st hG e556 rfl rfl (show (-99 : Int) ≤ v1 ∧ v1 ≤ 65438 by omega)
    have : (0 : Int) ≤ (u2 12 2) ∧ (u2 12 2) ≤ 10 := g557.1 12 2
    have : (u2 12 2) = (w 12 2) := (congrFun (congrFun e556 12) 2).trans (st_c (by decide))
    refine ok_gd (by omega) ?_
    refine ok_lw (fun u3 e558 => ?_)
    have g559 : G md_P_add w u3 := g_st g557 e558 rfl rfl (show (-99 : Int) ≤ v2 ∧ v2 ≤ 65438 by omega)
    have : (0 : Int) ≤ (u3 12 2) ∧ (u3 12 2) ≤ 10 := g559.1 12 2
    have : (u3 12 2) = (u2 12 2) := (congrFun (congrFun e558 12) 2).trans (st_c (by decide))
    have := w32_sp (((u3 12 2) + (1 : Int)))
    refine ok_lw (fun u4 e560 => ?_)
    have g561 : G md_P_add w u4 := g_st g559 e560 rfl rfl (show (0 : Int) ≤ (w32 ((u3 12 2) + (1 : Int))) ∧ (w32 ((u3 12 2) + (1 : Int))) ≤ 10 by omega)
    exact s_P_add_39 g561 (by omega) (by omega)
theorem s_P_read_70 {b : Wd} {w : Wd} {v3 : Int} (hG : G md_P_read b w) (i_v3 : ((0 : Int) ≤ v3 ∧ v3 ≤ 41)) : OK (f_P_read_70 v3 w) (fun r u => ((-81 : Int) ≤ r ∧ r ≤ 0) ∧ G md_P_read b u) := by
  unfold f_P_read_70
  have := w32_sp (((-1 : Int) - v3))
  exact ok_some ⟨by omega, hG⟩
theorem s_P_read_74 {b : Wd} {k15 : Int → Wd → Option (Int × Wd)} {Bk15 : Int} {k23 : Int → Int → Wd → Option (Int × Wd)} {Bk23 : Int} (hk15 : ∀ {w1 : Wd} {v2 : Int}, ((46 : Int) - v2) < Bk15 → G md_P_read b w1 → ((0 : Int) ≤ v2 ∧ v2 ≤ 45) → OK (k15 v2 w1) (fun r u => ((-81 : Int) ≤ r ∧ r ≤ 0) ∧ G md_P_read b u)) (hk23 : ∀ {w1 : Wd} {v2 v3 : Int}, ((46 : Int) - v3) < Bk23 → G md_P_read b w1 → ((0 : Int) ≤ v2 ∧ v2 ≤ 39) → ((0 : Int) ≤ v3 ∧ v3 ≤ 45) → ((46 : Int) - v2) ≤ Bk15 → OK (k23 v2 v3 w1) (fun r u => ((-81 : Int) ≤ r ∧ r ≤ 0) ∧ G md_P_read b u)) {w : Wd} {v2 v3 : Int} (hG : G md_P_read b w) (i_v2 : ((0 : Int) ≤ v2 ∧ v2 ≤ 39)) (i_v3 : ((0 : Int) ≤ v3 ∧ v3 ≤ 41)) (hBk15 : ((46 : Int) - v2) ≤ Bk15) (hBk23 : ((46 : Int) - v3) ≤ Bk23) : OK (f_P_read_74 k15 k23 v2 v3 w) (fun r u => ((-81 : Int) ≤ r ∧ r ≤ 0) ∧ G md_P_read b u) := by
  unfold f_P_read_74
  have := w32_sp ((v3 + (1 : Int)))
  refine ok_let (fun x14 e562 => ?_)
  have : (1 : Int) ≤ x14 ∧ x14 ≤ 42 := by omega
  exact hk23 (by omega) hG (by omega) (by omega) (by omega)
theorem s_P_read_23 {b : Wd} {k15 : Int → Wd → Option (Int × Wd)} {Bk15 : Int} (hk15 : ∀ {w1 : Wd} {v2 : Int}, ((46 : Int) - v2) < Bk15 → G md_P_read b w1 → ((0 : Int) ≤ v2 ∧ v2 ≤ 45) → OK (k15 v2 w1) (fun r u => ((-81 : Int) ≤ r ∧ r ≤ 0) ∧ G md_P_read b u)) : ∀ (n : Nat) {w : Wd} {v2 v3 : Int}, ((46 : Int) - v3) < (n : Int) → G md_P_read b w → ((0 : Int) ≤ v2 ∧ v2 ≤ 39) → ((0 : Int) ≤ v3 ∧ v3 ≤ 45) → ((46 : Int) - v2) ≤ Bk15 → OK (f_P_read_23 k15 n v2 v3 w) (fun r u => ((-81 : Int) ≤ r ∧ r ≤ 0) ∧ G md_P_read b u) := by
  intro n
  induction n with
  | zero =>
    intro w v2 v3 hm hG i_v2 i_v3 hBk15
    exfalso
    omega
  | succ n ih =>
    intro w v2 v3 hm hG i_v2 i_v3 hBk15
    rw [f_P_read_23]
    have := w32_sp ((v2 + (3 : Int)))
    refine ok_ite (fun h563 => ?_) (fun h564 => ?_)
    · refine ok_call (s_T_signAt (g_self hG) (by omega) (by omega)) (fun r3 u4 q => ?_)
      obtain ⟨i565, g566, p568⟩ := q
      have g567 : G md_P_read b u4 := g_tr hG g566 rfl
      have : (0 : Int) ≤ (u4 1 1) ∧ (u4 1 1) ≤ 80 := g567.1 1 1
      have : (u4 1 1) = (w 1 1) := g566.2.1 1 1 rfl
      have : (0 : Int) ≤ (w 1 1) ∧ (w 1 1) ≤ 80 := hG.1 1 1
      have : (w 1 1) = (b 1 1) := hG.2.1 1 1 rfl
      have := w32_sp ((v2 + (2 : Int)))
      refine ok_call (s_T_signAt (g_self g567) (by omega) (by omega)) (fun r5 u6 q => ?_)
      obtain ⟨i569, g570, p572⟩ := q
      have g571 : G md_P_read b u6 := g_tr g567 g570 rfl
      have : (0 : Int) ≤ (u6 1 1) ∧ (u6 1 1) ≤ 80 := g571.1 1 1
      have : (u6 1 1) = (u4 1 1) := g570.2.1 1 1 rfl
      have := w32_sp ((r3 - (97 : Int)))
      have := w32_sp ((r5 - (97 : Int)))
      refine ok_call (s_P_add (g_self g571) (by omega) (by omega)) (fun r7 u8 q => ?_)
      obtain ⟨i573, g574⟩ := q
      have g575 : G md_P_read b u8 := g_tr g571 g574 rfl
      refine ok_call (s_T_signAt (g_self g575) (by omega) (by omega)) (fun r9 u10 q => ?_)
      obtain ⟨i576, g577, p579⟩ := q
      have g578 : G md_P_read b u10 := g_tr g575 g577 rfl
      have : (0 : Int) ≤ (u10 1 1) ∧ (u10 1 1) ≤ 80 := g578.1 1 1
      have : (u10 1 1) = (u8 1 1) := g577.2.1 1 1 rfl
      have : (0 : Int) ≤ (u8 1 1) ∧ (u8 1 1) ≤ 80 := g575.1 1 1
      have : (u8 1 1) = (u6 1 1) := g574.2.1 1 1 rfl
      refine ok_ite (fun h580 => ?_) (fun h581 => ?_)
      · exact ok_some ⟨by omega, g578⟩
      · refine ok_ite (fun h582 => ?_) (fun h583 => ?_)
        · have := w32_sp ((v2 + (4 : Int)))
          refine ok_let (fun x11 e584 => ?_)
          have : (4 : Int) ≤ x11 ∧ x11 ≤ 43 := by omega
          exact hk15 (by omega) g578 (by omega)
        · have := w32_sp (((-1 : Int) - (w32 (v2 + (3 : Int)))))
          exact ok_some ⟨by omega, g578⟩
    · refine ok_call (s_T_signAt (g_self hG) (by omega) (by omega)) (fun r12 u13 q => ?_)
      obtain ⟨i585, g586, p588⟩ := q
      have g587 : G md_P_read b u13 := g_tr hG g586 rfl
      have : (0 : Int) ≤ (u13 1 1) ∧ (u13 1 1) ≤ 80 := g587.1 1 1
      have : (u13 1 1) = (w 1 1) := g586.2.1 1 1 rfl
      have : (0 : Int) ≤ (w 1 1) ∧ (w 1 1) ≤ 80 := hG.1 1 1
      have : (w 1 1) = (b 1 1) := hG.2.1 1 1 rfl
      have := w32_sp ((v2 + (1 : Int)))
      refine ok_ite (fun h589 => ?_) (fun h590 => ?_)
      · refine ok_ite (fun h591 => ?_) (fun h592 => ?_)
        · exact s_P_read_74 hk15 ih g587 (by omega) (by omega) (by omega) (by omega)
        · exact s_P_read_70 g587 (by omega)
      · refine ok_ite (fun h593 => ?_) (fun h594 => ?_)
        · exact s_P_read_70 g587 (by omega)
        · refine ok_ite (fun h595 => ?_) (fun h596 => ?_)
          · exact s_P_read_74 hk15 ih g587 (by omega) (by omega) (by omega) (by omega)
          · exact s_P_read_70 g587 (by omega)
theorem s_P_read_15 {b : Wd} : ∀ (n : Nat) {w : Wd} {v2 : Int}, ((46 : Int) - v2) < (n : Int) → G md_P_read b w → ((0 : Int) ≤ v2 ∧ v2 ≤ 45) → OK (f_P_read_15 n v2 w) (fun r u => ((-81 : Int) ≤ r ∧ r ≤ 0) ∧ G md_P_read b u) := by
  intro n
  induction n with
  | zero =>
    intro w v2 hm hG i_v2
    exfalso
    omega
  | succ n ih =>
    intro w v2 hm hG i_v2
    rw [f_P_read_15]
    refine ok_ite (fun h597 => ?_) (fun h598 => ?_)
    · exact ok_some ⟨by omega, hG⟩
    · exact s_P_read_23 ih FU (by have := eqFU; omega) hG (by omega) (by omega) (by omega)
theorem s_P_read {w : Wd} (hG : G md_P_read w w) : OK (f_P_read w) (fun r u => ((-81 : Int) ≤ r ∧ r ≤ 0) ∧ G md_P_read w u) := by
  unfold f_P_read
  refine ok_call (s_P_clear (g_self hG)) (fun r1 u2 q => ?_)
  obtain ⟨i599, g600⟩ := q
  have g601 : G md_P_read w u2 := g_tr hG g600 rfl
  have : (0 : Int) ≤ (u2 1 1) ∧ (u2 1 1) ≤ 80 := g601.1 1 1
  have : (u2 1 1) = (w 1 1) := g600.2.1 1 1 rfl
  have : (0 : Int) ≤ (w 1 1) ∧ (w 1 1) ≤ 80 := hG.1 1 1
  refine ok_ite (fun h602 => ?_) (fun h603 => ?_)
  · exact ok_some ⟨by omega, g601⟩
  · exact s_P_read_15 FU (by have := eqFU; omega) g601 (by omega)
theorem s_F_free {w : Wd} (hG : G md_F_free w w) : OK (f_F_free w) (fun r u => ((0 : Int) ≤ r ∧ r ≤ 1023) ∧ G md_F_free w u) := by
  unfold f_F_free
  refine ok_call (s_F_strangers (g_self hG)) (fun r1 u2 q => ?_)
  obtain ⟨i604, g605⟩ := q
  have g606 : G md_F_free w u2 := g_tr hG g605 rfl
  have : (-2147483648 : Int) ≤ (u2 5 5) ∧ (u2 5 5) ≤ 2147483647 := g606.1 5 5
  have : (u2 5 5) = (w 5 5) := g605.2.1 5 5 rfl
  have : (-2147483648 : Int) ≤ (w 5 5) ∧ (w 5 5) ≤ 2147483647 := hG.1 5 5
  have := ixor_m1 (x := (u2 5 5)) (by omega)
  have := iand_l (x := r1) (y := (ixor (u2 5 5) (-1 : Int))) (by omega)
  exact ok_some ⟨by omega, g606⟩
theorem s_F_knownBy_31 {b : Wd} {k4 : Int → Int → Int → Wd → Option (Int × Wd)} {Bk4 : Int} (hk4 : ∀ {w1 : Wd} {v1 v2 v3 : Int}, ((11 : Int) - v3) < Bk4 → G md_F_knownBy b w1 → ((-2147483648 : Int) ≤ v1 ∧ v1 ≤ 2147483647) → ((-2147483648 : Int) ≤ v2 ∧ v2 ≤ 2147483647) → ((0 : Int) ≤ v3 ∧ v3 ≤ 10) → OK (k4 v1 v2 v3 w1) (fun r u => ((-2147483648 : Int) ≤ r ∧ r ≤ 2147483647) ∧ G md_F_knownBy b u)) {w : Wd} {v1 v3 s0 s1 : Int} (hG : G md_F_knownBy b w) (i_v1 : ((-2147483648 : Int) ≤ v1 ∧ v1 ≤ 2147483647)) (i_v3 : ((0 : Int) ≤ v3 ∧ v3 ≤ 9)) (i_s0 : ((-2147483648 : Int) ≤ s0 ∧ s0 ≤ 2147483647)) (i_s1 : ((-2147483648 : Int) ≤ s1 ∧ s1 ≤ 2147483647)) (hBk4 : ((11 : Int) - v3) ≤ Bk4) : OK (f_F_knownBy_31 k4 v1 v3 s0 s1 w) (fun r u => ((-2147483648 : Int) ≤ r ∧ r ≤ 2147483647) ∧ G md_F_knownBy b u) := by
  unfold f_F_knownBy_31
  have := ior_rg s0 s1
  refine ok_let (fun x3 e607 => ?_)
  have : (-2147483648 : Int) ≤ x3 ∧ x3 ≤ 2147483647 := by omega
  have := w32_sp ((v3 + (1 : Int)))
  refine ok_let (fun x4 e608 => ?_)
  have : (1 : Int) ≤ x4 ∧ x4 ≤ 10 := by omega
  exact hk4 (by omega) hG (by omega) (by omega) (by omega)
theorem s_F_knownBy_4 {b : Wd} : ∀ (n : Nat) {w : Wd} {v1 v2 v3 : Int}, ((11 : Int) - v3) < (n : Int) → G md_F_knownBy b w → ((-2147483648 : Int) ≤ v1 ∧ v1 ≤ 2147483647) → ((-2147483648 : Int) ≤ v2 ∧ v2 ≤ 2147483647) → ((0 : Int) ≤ v3 ∧ v3 ≤ 10) → OK (f_F_knownBy_4 n v1 v2 v3 w) (fun r u => ((-2147483648 : Int) ≤ r ∧ r ≤ 2147483647) ∧ G md_F_knownBy b u) := by
  intro n
  induction n with
  | zero =>
    intro w v1 v2 v3 hm hG i_v1 i_v2 i_v3
    exfalso
    omega
  | succ n ih =>
    intro w v1 v2 v3 hm hG i_v1 i_v2 i_v3
    rw [f_F_knownBy_4]
    have : (0 : Int) ≤ (w 5 3) ∧ (w 5 3) ≤ 10 := hG.1 5 3
    have : (w 5 3) = (b 5 3) := hG.2.1 5 3 rfl
    refine ok_ite (fun h609 => ?_) (fun h610 => ?_)
    · exact ok_some ⟨by omega, hG⟩
    · refine ok_jif (by omega) ?_
      refine ok_jif (by omega) ?_
      have := ishr_rg v1 v3
      have := iand_r (x := (ishr v1 v3)) (y := (1 : Int)) (by omega)
      refine ok_jite (fun h612 => ?_) (fun h613 => ?_)
      · refine ok_jsome ?_
        refine ok_it (by decide) ?_
        exact s_F_knownBy_31 ih hG (by omega) (by omega) (by omega) (by omega) (by omega)
      · refine ok_jsome ?_
        refine ok_if (by decide) ?_
        refine ok_gd (by omega) ?_
        have : (-2147483648 : Int) ≤ (w 7 (v3).toNat) ∧ (w 7 (v3).toNat) ≤ 2147483647 := hG.1 7 (v3).toNat
        exact s_F_knownBy_31 ih hG (by omega) (by omega) (by omega) (by omega) (by omega)
theorem s_F_knownBy {w : Wd} {v1 : Int} (hG : G md_F_knownBy w w) (i_v1 : ((-2147483648 : Int) ≤ v1 ∧ v1 ≤ 2147483647)) : OK (f_F_knownBy v1 w) (fun r u => ((-2147483648 : Int) ≤ r ∧ r ≤ 2147483647) ∧ G md_F_knownBy w u) := by
  unfold f_F_knownBy
  exact s_F_knownBy_4 FU (by have := eqFU; omega) hG (by omega) (by omega) (by omega)
theorem s_P_firstWrongPair_48 {b : Wd} {k4 : Int → Int → Wd → Option (Int × Wd)} {Bk4 : Int} (hk4 : ∀ {w1 : Wd} {v2 v3 : Int}, ((11 : Int) - v3) < Bk4 → G md_P_firstWrongPair b w1 → ((-2147483648 : Int) ≤ v2 ∧ v2 ≤ 2147483647) → ((0 : Int) ≤ v3 ∧ v3 ≤ 10) → OK (k4 v2 v3 w1) (fun r u => ((-1 : Int) ≤ r ∧ r ≤ 9) ∧ G md_P_firstWrongPair b u)) {w : Wd} {v2 v3 s0 : Int} (hG : G md_P_firstWrongPair b w) (i_v2 : ((-2147483648 : Int) ≤ v2 ∧ v2 ≤ 2147483647)) (i_v3 : ((0 : Int) ≤ v3 ∧ v3 ≤ 9)) (i_s0 : ((-2147483648 : Int) ≤ s0 ∧ s0 ≤ 2147483647)) (hBk4 : ((11 : Int) - v3) ≤ Bk4) : OK (f_P_firstWrongPair_48 k4 v2 v3 s0 w) (fun r u => ((-1 : Int) ≤ r ∧ r ≤ 9) ∧ G md_P_firstWrongPair b u) := by
  unfold f_P_firstWrongPair_48
  refine ok_call (s_F_free (g_self hG)) (fun r5 u6 q => ?_)
  obtain ⟨i614, g615⟩ := q
  have g616 : G md_P_firstWrongPair b u6 := g_tr hG g615 rfl
  refine ok_gd (by omega) ?_
  have : (-99 : Int) ≤ (u6 14 (v3).toNat) ∧ (u6 14 (v3).toNat) ≤ 65438 := g616.1 14 (v3).toNat
  refine ok_jite (fun h618 => ?_) (fun h619 => ?_)
  · refine ok_jsome ?_
    refine ok_it (by decide) ?_
    exact ok_some ⟨by omega, g616⟩
  · refine ok_jite (fun h620 => ?_) (fun h621 => ?_)
    · refine ok_jsome ?_
      refine ok_it (by decide) ?_
      exact ok_some ⟨by omega, g616⟩
    · have := iand_r (x := s0) (y := r5) (by omega)
      have := ixor_m1 (x := v2) (by omega)
      have := iand_l (x := (iand s0 r5)) (y := (ixor v2 (-1 : Int))) (by omega)
      have := ishr_nn (x := (iand (iand s0 r5) (ixor v2 (-1 : Int)))) (y := (u6 14 (v3).toNat)) (by omega)
      have := iand_l (x := (ishr (iand (iand s0 r5) (ixor v2 (-1 : Int))) (u6 14 (v3).toNat))) (y := (1 : Int)) (by omega)
      have := iand_r (x := (ishr (iand (iand s0 r5) (ixor v2 (-1 : Int))) (u6 14 (v3).toNat))) (y := (1 : Int)) (by omega)
      refine ok_jite (fun h622 => ?_) (fun h623 => ?_)
      · refine ok_jsome ?_
        refine ok_it (by decide) ?_
        exact ok_some ⟨by omega, g616⟩
      · refine ok_jsome ?_
        refine ok_if (by decide) ?_
        refine ok_gd (by omega) ?_
        refine ok_gd (by omega) ?_
        have : (-99 : Int) ≤ (u6 13 (v3).toNat) ∧ (u6 13 (v3).toNat) ≤ 65438 := g616.1 13 (v3).toNat
        have := ishl_rg (1 : Int) (u6 13 (v3).toNat)
        have := ishl1_n 9 (i := (u6 14 (v3).toNat)) (j := 9) (m := 512) (by decide) (by decide) (by decide) (by omega)
        have := ior_rg (ishl (1 : Int) (u6 13 (v3).toNat)) (ishl (1 : Int) (u6 14 (v3).toNat))
        have := ior_rg v2 (ior (ishl (1 : Int) (u6 13 (v3).toNat)) (ishl (1 : Int) (u6 14 (v3).toNat)))
        refine ok_let (fun x9 e624 => ?_)
        have : (-2147483648 : Int) ≤ x9 ∧ x9 ≤ 2147483647 := by omega
        have := w32_sp ((v3 + (1 : Int)))
        refine ok_let (fun x10 e625 => ?_)
        have : (1 : Int) ≤ x10 ∧ x10 ≤ 10 := by omega
        exact hk4 (by omega) g616 (by omega) (by omega)
theorem s_P_firstWrongPair_4 {b : Wd} : ∀ (n : Nat) {w : Wd} {v2 v3 : Int}, ((11 : Int) - v3) < (n : Int) → G md_P_firstWrongPair b w → ((-2147483648 : Int) ≤ v2 ∧ v2 ≤ 2147483647) → ((0 : Int) ≤ v3 ∧ v3 ≤ 10) → OK (f_P_firstWrongPair_4 n v2 v3 w) (fun r u => ((-1 : Int) ≤ r ∧ r ≤ 9) ∧ G md_P_firstWrongPair b u) := by
  intro n
  induction n with
  | zero =>
    intro w v2 v3 hm hG i_v2 i_v3
    exfalso
    omega
  | succ n ih =>
    intro w v2 v3 hm hG i_v2 i_v3
    rw [f_P_firstWrongPair_4]
    have : (0 : Int) ≤ (w 12 2) ∧ (w 12 2) ≤ 10 := hG.1 12 2
    have : (w 12 2) = (b 12 2) := hG.2.1 12 2 rfl
    refine ok_ite (fun h626 => ?_) (fun h627 => ?_)
    · exact ok_some ⟨by omega, hG⟩
    · refine ok_call (s_F_guests (g_self hG)) (fun r1 u2 q => ?_)
      obtain ⟨i628, g629⟩ := q
      have g630 : G md_P_firstWrongPair b u2 := g_tr hG g629 rfl
      refine ok_gd (by omega) ?_
      have : (-99 : Int) ≤ (u2 13 (v3).toNat) ∧ (u2 13 (v3).toNat) ≤ 65438 := g630.1 13 (v3).toNat
      refine ok_jite (fun h632 => ?_) (fun h633 => ?_)
      · refine ok_jsome ?_
        refine ok_it (by decide) ?_
        exact s_P_firstWrongPair_48 ih g630 (by omega) (by omega) (by omega) (by omega)
      · refine ok_jite (fun h634 => ?_) (fun h635 => ?_)
        · refine ok_jsome ?_
          refine ok_it (by decide) ?_
          exact s_P_firstWrongPair_48 ih g630 (by omega) (by omega) (by omega) (by omega)
        · have := ixor_m1 (x := v2) (by omega)
          have := iand_l (x := r1) (y := (ixor v2 (-1 : Int))) (by omega)
          have := ishr_nn (x := (iand r1 (ixor v2 (-1 : Int)))) (y := (u2 13 (v3).toNat)) (by omega)
          have := iand_l (x := (ishr (iand r1 (ixor v2 (-1 : Int))) (u2 13 (v3).toNat))) (y := (1 : Int)) (by omega)
          have := iand_r (x := (ishr (iand r1 (ixor v2 (-1 : Int))) (u2 13 (v3).toNat))) (y := (1 : Int)) (by omega)
          refine ok_jite (fun h636 => ?_) (fun h637 => ?_)
          · refine ok_jsome ?_
            refine ok_it (by decide) ?_
            exact s_P_firstWrongPair_48 ih g630 (by omega) (by omega) (by omega) (by omega)
          · refine ok_jsome ?_
            refine ok_if (by decide) ?_
            refine ok_gd (by omega) ?_
            have := ishl1_n 9 (i := (u2 13 (v3).toNat)) (j := 9) (m := 512) (by decide) (by decide) (by decide) (by omega)
            refine ok_call (s_F_knownBy (g_self g630) (by omega)) (fun r11 u12 q => ?_)
            obtain ⟨i638, g639⟩ := q
            have g640 : G md_P_firstWrongPair b u12 := g_tr g630 g639 rfl
            exact s_P_firstWrongPair_48 ih g640 (by omega) (by omega) (by omega) (by omega)
theorem s_P_firstWrongPair {w : Wd} (hG : G md_P_firstWrongPair w w) : OK (f_P_firstWrongPair w) (fun r u => ((-1 : Int) ≤ r ∧ r ≤ 9) ∧ G md_P_firstWrongPair w u) := by
  unfold f_P_firstWrongPair
  exact s_P_firstWrongPair_4 FU (by have := eqFU; omega) hG (by omega) (by omega)
theorem s_D_noteAhead {w : Wd} (hG : G md_D_noteAhead w w) : OK (f_D_noteAhead w) (fun r u => ((0 : Int) ≤ r ∧ r ≤ 0) ∧ G md_D_noteAhead w u) := by
  unfold f_D_noteAhead
  have : (0 : Int) ≤ (w 15 3) ∧ (w 15 3) ≤ 60 := hG.1 15 3
  refine ok_jif (by omega) ?_
  refine ok_jif (by omega) ?_
  refine ok_jite (fun h642 => ?_) (fun h643 => ?_)
  · refine ok_jsome ?_
    refine ok_it (by decide) ?_
    exact ok_some ⟨by omega, hG⟩
  · refine ok_jsome ?_
    refine ok_if (by decide) ?_
    refine ok_gd (by omega) ?_
    have : (-2147483648 : Int) ≤ (w 5 4) ∧ (w 5 4) ≤ 2147483647 := hG.1 5 4
    refine ok_lw (fun u3 e644 => ?_)
    have g645 : G md_D_noteAhead w u3 := g_st hG e644 rfl rfl (show (-2147483648 : Int) ≤ (w 5 4) ∧ (w 5 4) ≤ 2147483647 by omega)
    have : (0 : Int) ≤ (u3 15 3) ∧ (u3 15 3) ≤ 60 := g645.1 15 3
    have : (u3 15 3) = (w 15 3) := (congrFun (congrFun e644 15) 3).trans (st_c (by decide))
    refine ok_gd (by omega) ?_
    have : (-2147483648 : Int) ≤ (u3 5 6) ∧ (u3 5 6) ≤ 2147483647 := g645.1 5 6
    have : (u3 5 6) = (w 5 6) := (congrFun (congrFun e644 5) 6).trans (st_c (by decide))
    have : (-2147483648 : Int) ≤ (w 5 6) ∧ (w 5 6) ≤ 2147483647 := hG.1 5 6
    refine ok_lw (fun u4 e646 => ?_)
    have g647 : G md_D_noteAhead w u4 := g_st g645 e646 rfl rfl (show (-2147483648 : Int) ≤ (u3 5 6) ∧ (u3 5 6) ≤ 2147483647 by omega)
    have : (-2147483648 : Int) ≤ (u4 15 4) ∧ (u4 15 4) ≤ 2147483647 := g647.1 15 4
    have : (u4 15 4) = (u3 15 4) := (congrFun (congrFun e646 15) 4).trans (st_c (by decide))
    have : (-2147483648 : Int) ≤ (u3 15 4) ∧ (u3 15 4) ≤ 2147483647 := g645.1 15 4
    have : (u3 15 4) = (w 15 4) := (congrFun (congrFun e644 15) 4).trans (st_c (by decide))
    have : (-2147483648 : Int) ≤ (w 15 4) ∧ (w 15 4) ≤ 2147483647 := hG.1 15 4
    have := w32_sp (((u4 15 4) + (1 : Int)))
    refine ok_lw (fun u5 e648 => ?_)
    have g649 : G md_D_noteAhead w u5 := g_st g647 e648 rfl rfl (show (-2147483648 : Int) ≤ (w32 ((u4 15 4) + (1 : Int))) ∧ (w32 ((u4 15 4) + (1 : Int))) ≤ 2147483647 by omega)
    exact ok_some ⟨by omega, g649⟩
theorem s_O_lateOne {w : Wd} {v0 v1 : Int} (hG : G md_O_lateOne w w) (i_v0 : ((-2147483648 : Int) ≤ v0 ∧ v0 ≤ 2147483647)) (i_v1 : ((0 : Int) ≤ v1 ∧ v1 ≤ 2147483647)) : OK (f_O_lateOne v0 v1 w) (fun r u => ((0 : Int) ≤ r ∧ r ≤ 1023) ∧ G md_O_lateOne w u) := by
  unfold f_O_lateOne
  refine ok_ite (fun h650 => ?_) (fun h651 => ?_)
  · exact ok_some ⟨by omega, hG⟩
  · have := ishr_rg v0 (10 : Int)
    have := ixor_m1 (x := (ishr v0 (10 : Int))) (by omega)
    have := iand_rg v0 (ixor (ishr v0 (10 : Int)) (-1 : Int))
    have := iand_r (x := (iand v0 (ixor (ishr v0 (10 : Int)) (-1 : Int)))) (y := (1023 : Int)) (by omega)
    exact ok_some ⟨by omega, hG⟩
theorem s_O_lateTwo {w : Wd} {v0 v1 : Int} (hG : G md_O_lateTwo w w) (i_v0 : ((-2147483648 : Int) ≤ v0 ∧ v0 ≤ 2147483647)) (i_v1 : ((0 : Int) ≤ v1 ∧ v1 ≤ 2147483647)) : OK (f_O_lateTwo v0 v1 w) (fun r u => ((0 : Int) ≤ r ∧ r ≤ 1023) ∧ G md_O_lateTwo w u) := by
  unfold f_O_lateTwo
  refine ok_ite (fun h652 => ?_) (fun h653 => ?_)
  · exact ok_some ⟨by omega, hG⟩
  · have := ishr_rg v0 (10 : Int)
    have := ixor_m1 (x := v0) (by omega)
    have := iand_rg (ishr v0 (10 : Int)) (ixor v0 (-1 : Int))
    have := iand_r (x := (iand (ishr v0 (10 : Int)) (ixor v0 (-1 : Int)))) (y := (1023 : Int)) (by omega)
    exact ok_some ⟨by omega, hG⟩
theorem s_O_out {w : Wd} {v0 : Int} (hG : G md_O_out w w) (i_v0 : ((-2147483648 : Int) ≤ v0 ∧ v0 ≤ 2147483647)) : OK (f_O_out v0 w) (fun r u => ((0 : Int) ≤ r ∧ r ≤ 1023) ∧ G md_O_out w u) := by
  unfold f_O_out
  have := ishr_rg v0 (20 : Int)
  have := iand_r (x := (ishr v0 (20 : Int))) (y := (1023 : Int)) (by omega)
  exact ok_some ⟨by omega, hG⟩
theorem s_O_after {w : Wd} {v0 v1 v2 : Int} (hG : G md_O_after w w) (i_v0 : ((-2147483648 : Int) ≤ v0 ∧ v0 ≤ 2147483647)) (i_v1 : ((-2147483648 : Int) ≤ v1 ∧ v1 ≤ 2147483647)) (i_v2 : ((0 : Int) ≤ v2 ∧ v2 ≤ 2147483647)) : OK (f_O_after v0 v1 v2 w) (fun r u => ((-2147483648 : Int) ≤ r ∧ r ≤ 2147483647) ∧ G md_O_after w u) := by
  unfold f_O_after
  refine ok_call (s_O_lateOne (g_self hG) (by omega) (by omega)) (fun r1 u2 q => ?_)
  obtain ⟨i654, g655⟩ := q
  have g656 : G md_O_after w u2 := g_tr hG g655 rfl
  have := ixor_m1 (x := v1) (by omega)
  have := iand_l (x := r1) (y := (ixor v1 (-1 : Int))) (by omega)
  refine ok_let (fun x3 e657 => ?_)
  have : (0 : Int) ≤ x3 ∧ x3 ≤ 1023 := by omega
  refine ok_call (s_O_lateTwo (g_self g656) (by omega) (by omega)) (fun r4 u5 q => ?_)
  obtain ⟨i658, g659⟩ := q
  have g660 : G md_O_after w u5 := g_tr g656 g659 rfl
  have := iand_l (x := r4) (y := (ixor v1 (-1 : Int))) (by omega)
  refine ok_let (fun x6 e661 => ?_)
  have : (0 : Int) ≤ x6 ∧ x6 ≤ 1023 := by omega
  refine ok_call (s_O_out (g_self g660) (by omega)) (fun r7 u8 q => ?_)
  obtain ⟨i662, g663⟩ := q
  have g664 : G md_O_after w u8 := g_tr g660 g663 rfl
  refine ok_call (s_O_guests (g_self g664) (by omega)) (fun r9 u10 q => ?_)
  obtain ⟨i665, g666⟩ := q
  have g667 : G md_O_after w u10 := g_tr g664 g666 rfl
  have := ior_rg v1 x3
  have := ior_rg (ior v1 x3) x6
  have := ixor_m1 (x := (ior (ior v1 x3) x6)) (by omega)
  have := iand_l (x := r9) (y := (ixor (ior (ior v1 x3) x6) (-1 : Int))) (by omega)
  have := ior_n 10 (x := r7) (y := (iand r9 (ixor (ior (ior v1 x3) x6) (-1 : Int)))) (m := 1023) (by decide) (by decide) (by omega) (by omega)
  refine ok_let (fun x11 e668 => ?_)
  have : (0 : Int) ≤ x11 ∧ x11 ≤ 1023 := by omega
  have := ior_rg v1 x6
  have := ior_n 10 (x := x3) (y := x6) (m := 1023) (by decide) (by decide) (by omega) (by omega)
  have := ishl_k 10 (x := (ior x3 x6)) (y := (10 : Int)) (m := 1024) (by decide) (by decide) (by decide) (by omega) (by omega) (by omega)
  have := ior_rg (ior v1 x6) (ishl (ior x3 x6) (10 : Int))
  have := ishl_k 20 (x := x11) (y := (20 : Int)) (m := 1048576) (by decide) (by decide) (by decide) (by omega) (by omega) (by omega)
  have := ior_rg (ior (ior v1 x6) (ishl (ior x3 x6) (10 : Int))) (ishl x11 (20 : Int))
  exact ok_some ⟨by omega, g667⟩
theorem s_P_bringer {w : Wd} {v1 : Int} (hG : G md_P_bringer w w) (i_v1 : ((0 : Int) ≤ v1 ∧ v1 ≤ 9)) : OK (f_P_bringer v1 w) (fun r u => ((-99 : Int) ≤ r ∧ r ≤ 65438) ∧ G md_P_bringer w u) := by
  unfold f_P_bringer
  refine ok_if (by omega) ?_
  have : (0 : Int) ≤ (w 12 2) ∧ (w 12 2) ≤ 10 := hG.1 12 2
  refine ok_ite (fun h669 => ?_) (fun h670 => ?_)
  · exact ok_some ⟨by omega, hG⟩
  · refine ok_gd (by omega) ?_
    have : (-99 : Int) ≤ (w 13 (v1).toNat) ∧ (w 13 (v1).toNat) ≤ 65438 := hG.1 13 (v1).toNat
    exact ok_some ⟨by omega, hG⟩
theorem s_P_whomOf {w : Wd} {v1 : Int} (hG : G md_P_whomOf w w) (i_v1 : ((0 : Int) ≤ v1 ∧ v1 ≤ 9)) : OK (f_P_whomOf v1 w) (fun r u => ((-99 : Int) ≤ r ∧ r ≤ 65438) ∧ G md_P_whomOf w u) := by
  unfold f_P_whomOf
  refine ok_if (by omega) ?_
  have : (0 : Int) ≤ (w 12 2) ∧ (w 12 2) ≤ 10 := hG.1 12 2
  refine ok_ite (fun h671 => ?_) (fun h672 => ?_)
  · exact ok_some ⟨by omega, hG⟩
  · refine ok_gd (by omega) ?_
    have : (-99 : Int) ≤ (w 14 (v1).toNat) ∧ (w 14 (v1).toNat) ≤ 65438 := hG.1 14 (v1).toNat
    exact ok_some ⟨by omega, hG⟩
theorem s_F_bring {w : Wd} {v1 v2 : Int} (hG : G md_F_bring w w) (i_v1 : ((-99 : Int) ≤ v1 ∧ v1 ≤ 65438)) (i_v2 : ((-99 : Int) ≤ v2 ∧ v2 ≤ 65438)) : OK (f_F_bring v1 v2 w) (fun r u => ((0 : Int) ≤ r ∧ r ≤ 9) ∧ G md_F_bring w u) := by
  unfold f_F_bring
  refine ok_jite (fun h674 => ?_) (fun h675 => ?_)
  · refine ok_jsome ?_
    refine ok_it (by decide) ?_
    exact ok_some ⟨by omega, hG⟩
  · have : (0 : Int) ≤ (w 5 3) ∧ (w 5 3) ≤ 10 := hG.1 5 3
    refine ok_jite (fun h676 => ?_) (fun h677 => ?_)
    · refine ok_jsome ?_
      refine ok_it (by decide) ?_
      exact ok_some ⟨by omega, hG⟩
    · refine ok_jsome ?_
      refine ok_if (by decide) ?_
      refine ok_jite (fun h679 => ?_) (fun h680 => ?_)
      · refine ok_jsome ?_
        refine ok_it (by decide) ?_
        exact ok_some ⟨by omega, hG⟩
      · refine ok_jite (fun h681 => ?_) (fun h682 => ?_)
        · refine ok_jsome ?_
          refine ok_it (by decide) ?_
          exact ok_some ⟨by omega, hG⟩
        · refine ok_jsome ?_
          refine ok_if (by decide) ?_
          refine ok_gd (by omega) ?_
          refine ok_lw (fun u5 e683 => ?_)
          have g684 : G md_F_bring w u5 := g_st hG e683 rfl rfl (show (-1 : Int) ≤ v1 ∧ v1 ≤ 9 by omega)
          refine ok_gd (by omega) ?_
          have : (0 : Int) ≤ (u5 6 (v2).toNat) ∧ (u5 6 (v2).toNat) ≤ 9 := g684.1 6 (v2).toNat
          have : (u5 6 (v2).toNat) = (w 6 (v2).toNat) := (congrFun (congrFun e683 6) (v2).toNat).trans (st_c (by decide))
          have : (0 : Int) ≤ (w 6 (v2).toNat) ∧ (w 6 (v2).toNat) ≤ 9 := hG.1 6 (v2).toNat
          exact ok_some ⟨by omega, g684⟩
theorem s_E_pass_15 {b : Wd} : ∀ (n : Nat) {w : Wd} {v1 v2 : Int}, ((11 : Int) - v2) < (n : Int) → G md_E_pass b w → ((-2147483648 : Int) ≤ v1 ∧ v1 ≤ 2147483647) → ((0 : Int) ≤ v2 ∧ v2 ≤ 10) → ((w 15 3) ≤ (59 : Int)) → OK (f_E_pass_15 n v1 v2 w) (fun r u => ((-2147483648 : Int) ≤ r ∧ r ≤ 2147483647) ∧ G md_E_pass b u) := by
  intro n
  induction n with
  | zero =>
    intro w v1 v2 hm hG i_v1 i_v2 a_0
    exfalso
    omega
  | succ n ih =>
    intro w v1 v2 hm hG i_v1 i_v2 a_0
    rw [f_E_pass_15]
    have : (0 : Int) ≤ (w 15 3) ∧ (w 15 3) ≤ 60 := hG.1 15 3
    have : (0 : Int) ≤ (w 12 2) ∧ (w 12 2) ≤ 10 := hG.1 12 2
    have : (w 12 2) = (b 12 2) := hG.2.1 12 2 rfl
    refine ok_ite (fun h685 => ?_) (fun h686 => ?_)
    · have : (-2147483648 : Int) ≤ (w 5 6) ∧ (w 5 6) ≤ 2147483647 := hG.1 5 6
      have := w32_sp (((w 5 6) + v1))
      refine ok_lw (fun u3 e687 => ?_)
      have g688 : G md_E_pass b u3 := g_st hG e687 rfl rfl (show (-2147483648 : Int) ≤ (w32 ((w 5 6) + v1)) ∧ (w32 ((w 5 6) + v1)) ≤ 2147483647 by omega)
      have : (-2147483648 : Int) ≤ (u3 5 4) ∧ (u3 5 4) ≤ 2147483647 := g688.1 5 4
      have : (u3 5 4) = (w 5 4) := (congrFun (congrFun e687 5) 4).trans (st_k (by decide))
      have : (-2147483648 : Int) ≤ (w 5 4) ∧ (w 5 4) ≤ 2147483647 := hG.1 5 4
      have : (-2147483648 : Int) ≤ (u3 12 3) ∧ (u3 12 3) ≤ 2147483647 := g688.1 12 3
      have : (u3 12 3) = (w 12 3) := (congrFun (congrFun e687 12) 3).trans (st_c (by decide))
      have : (-2147483648 : Int) ≤ (w 12 3) ∧ (w 12 3) ≤ 2147483647 := hG.1 12 3
      have : (w 12 3) = (b 12 3) := hG.2.1 12 3 rfl
      have : (0 : Int) ≤ (u3 5 7) ∧ (u3 5 7) ≤ 2147483647 := g688.1 5 7
      have : (u3 5 7) = (w 5 7) := (congrFun (congrFun e687 5) 7).trans (st_k (by decide))
      have : (0 : Int) ≤ (w 5 7) ∧ (w 5 7) ≤ 2147483647 := hG.1 5 7
      have : (w 5 7) = (b 5 7) := hG.2.1 5 7 rfl
      refine ok_call (s_O_after (g_self g688) (by omega) (by omega) (by omega)) (fun r4 u5 q => ?_)
      obtain ⟨i689, g690⟩ := q
      have g691 : G md_E_pass b u5 := g_tr g688 g690 rfl
      refine ok_lw (fun u6 e692 => ?_)
      have g693 : G md_E_pass b u6 := g_st g691 e692 rfl rfl (show (-2147483648 : Int) ≤ r4 ∧ r4 ≤ 2147483647 by omega)
      have : (0 : Int) ≤ (u6 15 3) ∧ (u6 15 3) ≤ 60 := g693.1 15 3
      have : (u6 15 3) = (u5 15 3) := (congrFun (congrFun e692 15) 3).trans (st_c (by decide))
      have : (0 : Int) ≤ (u5 15 3) ∧ (u5 15 3) ≤ 60 := g691.1 15 3
      have : (u5 15 3) = (u3 15 3) := g690.2.1 15 3 rfl
      have : (0 : Int) ≤ (u3 15 3) ∧ (u3 15 3) ≤ 60 := g688.1 15 3
      have : (u3 15 3) = (w 15 3) := (congrFun (congrFun e687 15) 3).trans (st_c (by decide))
      have := w32_sp (((u6 15 3) + (1 : Int)))
      refine ok_lw (fun u7 e694 => ?_)
      have g695 : G md_E_pass b u7 := g_st g693 e694 rfl rfl (show (0 : Int) ≤ (w32 ((u6 15 3) + (1 : Int))) ∧ (w32 ((u6 15 3) + (1 : Int))) ≤ 60 by omega)
      refine ok_call (s_F_guests (g_self g695)) (fun r8 u9 q => ?_)
      obtain ⟨i696, g697⟩ := q
      have g698 : G md_E_pass b u9 := g_tr g695 g697 rfl
      refine ok_call (s_D_noteGuests (g_self g698) (by omega)) (fun r10 u11 q => ?_)
      obtain ⟨i699, g700⟩ := q
      have g701 : G md_E_pass b u11 := g_tr g698 g700 rfl
      refine ok_call (s_S_forget (g_self g701)) (fun r12 u13 q => ?_)
      obtain ⟨i702, g703⟩ := q
      have g704 : G md_E_pass b u13 := g_tr g701 g703 rfl
      exact ok_some ⟨by omega, g704⟩
    · refine ok_call (s_P_bringer (g_self hG) (by omega)) (fun r14 u15 q => ?_)
      obtain ⟨i705, g706⟩ := q
      have g707 : G md_E_pass b u15 := g_tr hG g706 rfl
      refine ok_call (s_P_whomOf (g_self g707) (by omega)) (fun r16 u17 q => ?_)
      obtain ⟨i708, g709⟩ := q
      have g710 : G md_E_pass b u17 := g_tr g707 g709 rfl
      refine ok_call (s_F_bring (g_self g710) (by omega) (by omega)) (fun r18 u19 q => ?_)
      obtain ⟨i711, g712⟩ := q
      have g713 : G md_E_pass b u19 := g_tr g710 g712 rfl
      have := w32_sp ((v1 + r18))
      refine ok_let (fun x20 e714 => ?_)
      have : (-2147483648 : Int) ≤ x20 ∧ x20 ≤ 2147483647 := by omega
      have := w32_sp ((v2 + (1 : Int)))
      refine ok_let (fun x21 e715 => ?_)
      have : (1 : Int) ≤ x21 ∧ x21 ≤ 10 := by omega
      have : (0 : Int) ≤ (u19 15 3) ∧ (u19 15 3) ≤ 60 := g713.1 15 3
      have : (u19 15 3) = (u17 15 3) := g712.2.1 15 3 rfl
      have : (0 : Int) ≤ (u17 15 3) ∧ (u17 15 3) ≤ 60 := g710.1 15 3
      have : (u17 15 3) = (u15 15 3) := g709.2.1 15 3 rfl
      have : (0 : Int) ≤ (u15 15 3) ∧ (u15 15 3) ≤ 60 := g707.1 15 3
      have : (u15 15 3) = (w 15 3) := g706.2.1 15 3 rfl
      exact ih (by omega) g713 (by omega) (by omega) (by omega)
theorem s_E_pass {w : Wd} (hG : G md_E_pass w w) (a_0 : ((w 15 3) ≤ (59 : Int))) : OK (f_E_pass w) (fun r u => ((-2147483648 : Int) ≤ r ∧ r ≤ 2147483647) ∧ G md_E_pass w u) := by
  unfold f_E_pass
  have : (0 : Int) ≤ (w 15 3) ∧ (w 15 3) ≤ 60 := hG.1 15 3
  refine ok_call (s_D_noteAhead (g_self hG)) (fun r1 u2 q => ?_)
  obtain ⟨i716, g717⟩ := q
  have g718 : G md_E_pass w u2 := g_tr hG g717 rfl
  have : (0 : Int) ≤ (u2 15 3) ∧ (u2 15 3) ≤ 60 := g718.1 15 3
  have : (u2 15 3) = (w 15 3) := g717.2.1 15 3 rfl
  exact s_E_pass_15 FU (by have := eqFU; omega) g718 (by omega) (by omega) (by omega)
theorem s_O_stay {w : Wd} {v0 v1 : Int} (hG : G md_O_stay w w) (i_v0 : ((-2147483648 : Int) ≤ v0 ∧ v0 ≤ 2147483647)) (i_v1 : ((0 : Int) ≤ v1 ∧ v1 ≤ 2147483647)) : OK (f_O_stay v0 v1 w) (fun r u => ((0 : Int) ≤ r ∧ r ≤ 1023) ∧ G md_O_stay w u) := by
  unfold f_O_stay
  refine ok_call (s_O_lateOne (g_self hG) (by omega) (by omega)) (fun r1 u2 q => ?_)
  obtain ⟨i719, g720⟩ := q
  have g721 : G md_O_stay w u2 := g_tr hG g720 rfl
  refine ok_call (s_O_lateTwo (g_self g721) (by omega) (by omega)) (fun r3 u4 q => ?_)
  obtain ⟨i722, g723⟩ := q
  have g724 : G md_O_stay w u4 := g_tr g721 g723 rfl
  have := ior_n 10 (x := r1) (y := r3) (m := 1023) (by decide) (by decide) (by omega) (by omega)
  exact ok_some ⟨by omega, g724⟩
theorem s_JI_bitCount {w : Wd} {v0 : Int} (hG : G md_JI_bitCount w w) (i_v0 : ((-2147483648 : Int) ≤ v0 ∧ v0 ≤ 2147483647)) : OK (f_JI_bitCount v0 w) (fun r u => ((0 : Int) ≤ r ∧ r ≤ 63) ∧ G md_JI_bitCount w u) := by
  unfold f_JI_bitCount
  have := iush_k 1 (x := v0) (y := (1 : Int)) (m := 2147483647) (by decide) (by decide) (by decide) (by decide)
  have := iand_l (x := (iush v0 (1 : Int))) (y := (1431655765 : Int)) (by omega)
  have := iand_r (x := (iush v0 (1 : Int))) (y := (1431655765 : Int)) (by omega)
  have := w32_sp ((v0 - (iand (iush v0 (1 : Int)) (1431655765 : Int))))
  refine ok_let (fun x1 e725 => ?_)
  have : (-2147483648 : Int) ≤ x1 ∧ x1 ≤ 2147483647 := by omega
  have := iand_r (x := x1) (y := (858993459 : Int)) (by omega)
  have := iush_k 2 (x := x1) (y := (2 : Int)) (m := 1073741823) (by decide) (by decide) (by decide) (by decide)
  have := iand_l (x := (iush x1 (2 : Int))) (y := (858993459 : Int)) (by omega)
  have := iand_r (x := (iush x1 (2 : Int))) (y := (858993459 : Int)) (by omega)
  have := w32_sp (((iand x1 (858993459 : Int)) + (iand (iush x1 (2 : Int)) (858993459 : Int))))
  refine ok_let (fun x2 e726 => ?_)
  have : (0 : Int) ≤ x2 ∧ x2 ≤ 1717986918 := by omega
  have := iush_k 4 (x := x2) (y := (4 : Int)) (m := 268435455) (by decide) (by decide) (by decide) (by decide)
  have := w32_sp ((x2 + (iush x2 (4 : Int))))
  have := iand_l (x := (w32 (x2 + (iush x2 (4 : Int))))) (y := (252645135 : Int)) (by omega)
  have := iand_r (x := (w32 (x2 + (iush x2 (4 : Int))))) (y := (252645135 : Int)) (by omega)
  refine ok_let (fun x3 e727 => ?_)
  have : (0 : Int) ≤ x3 ∧ x3 ≤ 252645135 := by omega
  have := iush_k 8 (x := x3) (y := (8 : Int)) (m := 16777215) (by decide) (by decide) (by decide) (by decide)
  have := w32_sp ((x3 + (iush x3 (8 : Int))))
  refine ok_let (fun x4 e728 => ?_)
  have : (0 : Int) ≤ x4 ∧ x4 ≤ 269422350 := by omega
  have := iush_k 16 (x := x4) (y := (16 : Int)) (m := 65535) (by decide) (by decide) (by decide) (by decide)
  have := w32_sp ((x4 + (iush x4 (16 : Int))))
  refine ok_let (fun x5 e729 => ?_)
  have : (0 : Int) ≤ x5 ∧ x5 ≤ 269487885 := by omega
  have := iand_l (x := x5) (y := (63 : Int)) (by omega)
  have := iand_r (x := x5) (y := (63 : Int)) (by omega)
  exact ok_some ⟨by omega, hG⟩
theorem s_F_guestsAfter {w : Wd} {v1 : Int} (hG : G md_F_guestsAfter w w) (i_v1 : ((-2147483648 : Int) ≤ v1 ∧ v1 ≤ 2147483647)) : OK (f_F_guestsAfter v1 w) (fun r u => ((0 : Int) ≤ r ∧ r ≤ 63) ∧ G md_F_guestsAfter w u) := by
  unfold f_F_guestsAfter
  have : (-2147483648 : Int) ≤ (w 5 4) ∧ (w 5 4) ≤ 2147483647 := hG.1 5 4
  have : (0 : Int) ≤ (w 5 7) ∧ (w 5 7) ≤ 2147483647 := hG.1 5 7
  refine ok_call (s_O_stay (g_self hG) (by omega) (by omega)) (fun r1 u2 q => ?_)
  obtain ⟨i730, g731⟩ := q
  have g732 : G md_F_guestsAfter w u2 := g_tr hG g731 rfl
  have := ior_rg r1 v1
  refine ok_call (s_JI_bitCount (g_self g732) (by omega)) (fun r3 u4 q => ?_)
  obtain ⟨i733, g734⟩ := q
  have g735 : G md_F_guestsAfter w u4 := g_tr g732 g734 rfl
  exact ok_some ⟨by omega, g735⟩
theorem s_E_week_100 {b : Wd} {w : Wd} (hG : G md_E_week b w) (a_0 : ((w 15 3) ≤ (59 : Int))) (a_1 : ((w 1 1) = (0 : Int))) : OK (f_E_week_100 w) (fun r u => ((-2147483648 : Int) ≤ r ∧ r ≤ 2147483647) ∧ G md_E_week b u ∧ ((u 1 1) = (0 : Int))) := by
  unfold f_E_week_100
  have : (0 : Int) ≤ (w 15 3) ∧ (w 15 3) ≤ 60 := hG.1 15 3
  have : (0 : Int) ≤ (w 1 1) ∧ (w 1 1) ≤ 80 := hG.1 1 1
  refine ok_call (s_E_pass (g_self hG) (by omega)) (fun r7 u8 q => ?_)
  obtain ⟨i736, g737⟩ := q
  have g738 : G md_E_week b u8 := g_tr hG g737 rfl
  have : (0 : Int) ≤ (u8 1 1) ∧ (u8 1 1) ≤ 80 := g738.1 1 1
  have : (u8 1 1) = (w 1 1) := g737.2.1 1 1 rfl
  exact ok_some ⟨by omega, g738, (by omega)⟩
theorem s_E_week {w : Wd} (hG : G md_E_week w w) : OK (f_E_week w) (fun r u => ((-2147483648 : Int) ≤ r ∧ r ≤ 2147483647) ∧ G md_E_week w u ∧ ((u 1 1) = (0 : Int))) := by
  unfold f_E_week
  refine ok_call (s_P_read (g_self hG)) (fun r1 u2 q => ?_)
  obtain ⟨i739, g740⟩ := q
  have g741 : G md_E_week w u2 := g_tr hG g740 rfl
  refine ok_call (s_T_clear (g_self g741)) (fun r3 u4 q => ?_)
  obtain ⟨i742, g743, p745⟩ := q
  have g744 : G md_E_week w u4 := g_tr g741 g743 rfl
  have : (0 : Int) ≤ (u4 1 1) ∧ (u4 1 1) ≤ 80 := g744.1 1 1
  refine ok_ite (fun h746 => ?_) (fun h747 => ?_)
  · have : (0 : Int) ≤ (u4 15 3) ∧ (u4 15 3) ≤ 60 := g744.1 15 3
    have : (u4 15 3) = (u2 15 3) := g743.2.1 15 3 rfl
    have : (0 : Int) ≤ (u2 15 3) ∧ (u2 15 3) ≤ 60 := g741.1 15 3
    have : (u2 15 3) = (w 15 3) := g740.2.1 15 3 rfl
    have : (0 : Int) ≤ (w 15 3) ∧ (w 15 3) ≤ 60 := hG.1 15 3
    refine ok_ite (fun h748 => ?_) (fun h749 => ?_)
    · refine ok_call (s_P_firstWrongPair (g_self g744)) (fun r5 u6 q => ?_)
      obtain ⟨i750, g751⟩ := q
      have g752 : G md_E_week w u6 := g_tr g744 g751 rfl
      refine ok_ite (fun h753 => ?_) (fun h754 => ?_)
      · have : (0 : Int) ≤ (u6 12 2) ∧ (u6 12 2) ≤ 10 := g752.1 12 2
        have : (u6 12 2) = (u4 12 2) := g751.2.1 12 2 rfl
        have : (0 : Int) ≤ (u4 12 2) ∧ (u4 12 2) ≤ 10 := g744.1 12 2
        have : (u4 12 2) = (u2 12 2) := g743.2.1 12 2 rfl
        have : (0 : Int) ≤ (u2 12 2) ∧ (u2 12 2) ≤ 10 := g741.1 12 2
        refine ok_ite (fun h755 => ?_) (fun h756 => ?_)
        · have : (0 : Int) ≤ (u6 15 3) ∧ (u6 15 3) ≤ 60 := g752.1 15 3
          have : (u6 15 3) = (u4 15 3) := g751.2.1 15 3 rfl
          have : (0 : Int) ≤ (u6 1 1) ∧ (u6 1 1) ≤ 80 := g752.1 1 1
          have : (u6 1 1) = (u4 1 1) := g751.2.1 1 1 rfl
          exact s_E_week_100 g752 (by omega) (by omega)
        · have : (-2147483648 : Int) ≤ (u6 12 3) ∧ (u6 12 3) ≤ 2147483647 := g752.1 12 3
          have : (u6 12 3) = (u4 12 3) := g751.2.1 12 3 rfl
          have : (-2147483648 : Int) ≤ (u4 12 3) ∧ (u4 12 3) ≤ 2147483647 := g744.1 12 3
          have : (u4 12 3) = (u2 12 3) := g743.2.1 12 3 rfl
          have : (-2147483648 : Int) ≤ (u2 12 3) ∧ (u2 12 3) ≤ 2147483647 := g741.1 12 3
          refine ok_call (s_F_guestsAfter (g_self g752) (by omega)) (fun r9 u10 q => ?_)
          obtain ⟨i757, g758⟩ := q
          have g759 : G md_E_week w u10 := g_tr g752 g758 rfl
          have : (0 : Int) ≤ (u10 5 8) ∧ (u10 5 8) ≤ 2147483647 := g759.1 5 8
          have : (u10 5 8) = (u6 5 8) := g758.2.1 5 8 rfl
          have : (0 : Int) ≤ (u6 5 8) ∧ (u6 5 8) ≤ 2147483647 := g752.1 5 8
          have : (u6 5 8) = (u4 5 8) := g751.2.1 5 8 rfl
          have : (0 : Int) ≤ (u4 5 8) ∧ (u4 5 8) ≤ 2147483647 := g744.1 5 8
          have : (u4 5 8) = (u2 5 8) := g743.2.1 5 8 rfl
          have : (0 : Int) ≤ (u2 5 8) ∧ (u2 5 8) ≤ 2147483647 := g741.1 5 8
          have : (u2 5 8) = (w 5 8) := g740.2.1 5 8 rfl
          have : (0 : Int) ≤ (w 5 8) ∧ (w 5 8) ≤ 2147483647 := hG.1 5 8
          refine ok_ite (fun h760 => ?_) (fun h761 => ?_)
          · have : (0 : Int) ≤ (u10 15 3) ∧ (u10 15 3) ≤ 60 := g759.1 15 3
            have : (u10 15 3) = (u6 15 3) := g758.2.1 15 3 rfl
            have : (0 : Int) ≤ (u6 15 3) ∧ (u6 15 3) ≤ 60 := g752.1 15 3
            have : (u6 15 3) = (u4 15 3) := g751.2.1 15 3 rfl
            have : (0 : Int) ≤ (u10 1 1) ∧ (u10 1 1) ≤ 80 := g759.1 1 1
            have : (u10 1 1) = (u6 1 1) := g758.2.1 1 1 rfl
            have : (0 : Int) ≤ (u6 1 1) ∧ (u6 1 1) ≤ 80 := g752.1 1 1
            have : (u6 1 1) = (u4 1 1) := g751.2.1 1 1 rfl
            exact s_E_week_100 g759 (by omega) (by omega)
          · have : (0 : Int) ≤ (u10 1 1) ∧ (u10 1 1) ≤ 80 := g759.1 1 1
            have : (u10 1 1) = (u6 1 1) := g758.2.1 1 1 rfl
            have : (0 : Int) ≤ (u6 1 1) ∧ (u6 1 1) ≤ 80 := g752.1 1 1
            have : (u6 1 1) = (u4 1 1) := g751.2.1 1 1 rfl
            exact ok_some ⟨by omega, g759, (by omega)⟩
      · have := w32_sp (((-100 : Int) - r5))
        have : (0 : Int) ≤ (u6 1 1) ∧ (u6 1 1) ≤ 80 := g752.1 1 1
        have : (u6 1 1) = (u4 1 1) := g751.2.1 1 1 rfl
        exact ok_some ⟨by omega, g752, (by omega)⟩
    · exact ok_some ⟨by omega, g744, (by omega)⟩
  · exact ok_some ⟨by omega, g744, (by omega)⟩
theorem s_N_clear {w : Wd} (hG : G md_N_clear w w) : OK (f_N_clear w) (fun r u => ((0 : Int) ≤ r ∧ r ≤ 0) ∧ G md_N_clear w u) := by
  unfold f_N_clear
  refine ok_lw (fun u1 e762 => ?_)
  have g763 : G md_N_clear w u1 := g_st hG e762 rfl rfl (show (0 : Int) ≤ (0 : Int) ∧ (0 : Int) ≤ 20 by omega)
  exact ok_some ⟨by omega, g763⟩
theorem s_N_put {w : Wd} {v1 : Int} (hG : G md_N_put w w) (i_v1 : ((-2147483648 : Int) ≤ v1 ∧ v1 ≤ 2147483647)) : OK (f_N_put v1 w) (fun r u => ((0 : Int) ≤ r ∧ r ≤ 0) ∧ G md_N_put w u) := by
  unfold f_N_put
  have : (0 : Int) ≤ (w 3 1) ∧ (w 3 1) ≤ 20 := hG.1 3 1
  refine ok_ite (fun h764 => ?_) (fun h765 => ?_)
  · exact ok_some ⟨by omega, hG⟩
  · refine ok_gd (by omega) ?_
    refine ok_lw (fun u1 e766 => ?_)
    have g767 : G md_N_put w u1 := g_st hG e766 rfl rfl (show (-2147483648 : Int) ≤ v1 ∧ v1 ≤ 2147483647 by omega)
    have : (0 : Int) ≤ (u1 3 1) ∧ (u1 3 1) ≤ 20 := g767.1 3 1
    have : (u1 3 1) = (w 3 1) := (congrFun (congrFun e766 3) 1).trans (st_c (by decide))
    have := w32_sp (((u1 3 1) + (1 : Int)))
    refine ok_lw (fun u2 e768 => ?_)
    have g769 : G md_N_put w u2 := g_st g767 e768 rfl rfl (show (0 : Int) ≤ (w32 ((u1 3 1) + (1 : Int))) ∧ (w32 ((u1 3 1) + (1 : Int))) ≤ 20 by omega)
    exact ok_some ⟨by omega, g769⟩
theorem s_N_tell1 {w : Wd} {v1 : Int} (hG : G md_N_tell1 w w) (i_v1 : ((-2147483648 : Int) ≤ v1 ∧ v1 ≤ 2147483647)) : OK (f_N_tell1 v1 w) (fun r u => ((0 : Int) ≤ r ∧ r ≤ 0) ∧ G md_N_tell1 w u) := by
  unfold f_N_tell1
  refine ok_call (s_N_clear (g_self hG)) (fun r1 u2 q => ?_)
  obtain ⟨i770, g771⟩ := q
  have g772 : G md_N_tell1 w u2 := g_tr hG g771 rfl
  refine ok_call (s_N_put (g_self g772) (by omega)) (fun r3 u4 q => ?_)
  obtain ⟨i773, g774⟩ := q
  have g775 : G md_N_tell1 w u4 := g_tr g772 g774 rfl
  exact ok_some ⟨by omega, g775⟩
theorem s_N_tell2 {w : Wd} {v1 v2 : Int} (hG : G md_N_tell2 w w) (i_v1 : ((-2147483648 : Int) ≤ v1 ∧ v1 ≤ 2147483647)) (i_v2 : ((-2147483648 : Int) ≤ v2 ∧ v2 ≤ 2147483647)) : OK (f_N_tell2 v1 v2 w) (fun r u => ((0 : Int) ≤ r ∧ r ≤ 0) ∧ G md_N_tell2 w u) := by
  unfold f_N_tell2
  refine ok_call (s_N_tell1 (g_self hG) (by omega)) (fun r1 u2 q => ?_)
  obtain ⟨i776, g777⟩ := q
  have g778 : G md_N_tell2 w u2 := g_tr hG g777 rfl
  refine ok_call (s_N_put (g_self g778) (by omega)) (fun r3 u4 q => ?_)
  obtain ⟨i779, g780⟩ := q
  have g781 : G md_N_tell2 w u4 := g_tr g778 g780 rfl
  exact ok_some ⟨by omega, g781⟩
theorem s_W_thing {w : Wd} {v0 v2 v3 v4 : Int} (hG : G md_W_thing w w) (i_v0 : ((1 : Int) ≤ v0 ∧ v0 ≤ 2147483647)) (i_v2 : ((0 : Int) ≤ v2 ∧ v2 ≤ 9)) (i_v3 : ((0 : Int) ≤ v3 ∧ v3 ≤ 9)) (i_v4 : ((0 : Int) ≤ v4 ∧ v4 ≤ 60)) : OK (f_W_thing v0 v2 v3 v4 w) (fun r u => ((-2147483648 : Int) ≤ r ∧ r ≤ 2147483647) ∧ G md_W_thing w u) := by
  unfold f_W_thing
  have := ishl1_n 9 (i := v3) (j := 9) (m := 512) (by decide) (by decide) (by decide) (by omega)
  refine ok_call (s_F_knownBy (g_self hG) (by omega)) (fun r1 u2 q => ?_)
  obtain ⟨i782, g783⟩ := q
  have g784 : G md_W_thing w u2 := g_tr hG g783 rfl
  refine ok_ite (fun h785 => ?_) (fun h786 => ?_)
  · exact ok_some ⟨by omega, g784⟩
  · refine ok_ite (fun h787 => ?_) (fun h788 => ?_)
    · refine ok_call (s_F_guests (g_self g784)) (fun r3 u4 q => ?_)
      obtain ⟨i789, g790⟩ := q
      have g791 : G md_W_thing w u4 := g_tr g784 g790 rfl
      have := iand_r (x := r1) (y := r3) (by omega)
      refine ok_call (s_JI_bitCount (g_self g791) (by omega)) (fun r5 u6 q => ?_)
      obtain ⟨i792, g793⟩ := q
      have g794 : G md_W_thing w u6 := g_tr g791 g793 rfl
      exact ok_some ⟨by omega, g794⟩
    · refine ok_ite (fun h795 => ?_) (fun h796 => ?_)
      · exact ok_some ⟨by omega, g784⟩
      · refine ok_ite (fun h797 => ?_) (fun h798 => ?_)
        · exact ok_some ⟨by omega, g784⟩
        · refine ok_ite (fun h799 => ?_) (fun h800 => ?_)
          · exact ok_some ⟨by omega, g784⟩
          · refine ok_ite (fun h801 => ?_) (fun h802 => ?_)
            · refine ok_call (s_JI_bitCount (g_self g784) (by omega)) (fun r7 u8 q => ?_)
              obtain ⟨i803, g804⟩ := q
              have g805 : G md_W_thing w u8 := g_tr g784 g804 rfl
              exact ok_some ⟨by omega, g805⟩
            · refine ok_ite (fun h806 => ?_) (fun h807 => ?_)
              · have : (-2147483648 : Int) ≤ (u2 5 4) ∧ (u2 5 4) ≤ 2147483647 := g784.1 5 4
                have : (u2 5 4) = (w 5 4) := g783.2.1 5 4 rfl
                have : (-2147483648 : Int) ≤ (w 5 4) ∧ (w 5 4) ≤ 2147483647 := hG.1 5 4
                refine ok_call (s_O_late (g_self g784) (by omega) (by omega)) (fun r9 u10 q => ?_)
                obtain ⟨i808, g809⟩ := q
                have g810 : G md_W_thing w u10 := g_tr g784 g809 rfl
                exact ok_some ⟨by omega, g810⟩
              · refine ok_ite (fun h811 => ?_) (fun h812 => ?_)
                · exact ok_some ⟨by omega, g784⟩
                · refine ok_ite (fun h813 => ?_) (fun h814 => ?_)
                  · exact ok_some ⟨by omega, g784⟩
                  · refine ok_ite (fun h815 => ?_) (fun h816 => ?_)
                    · exact ok_some ⟨by omega, g784⟩
                    · refine ok_ite (fun h817 => ?_) (fun h818 => ?_)
                      · refine ok_call (s_F_pricesOf (g_self g784) (by omega)) (fun r11 u12 q => ?_)
                        obtain ⟨i819, g820⟩ := q
                        have g821 : G md_W_thing w u12 := g_tr g784 g820 rfl
                        exact ok_some ⟨by omega, g821⟩
                      · refine ok_ite (fun h822 => ?_) (fun h823 => ?_)
                        · exact ok_some ⟨by omega, g784⟩
                        · refine ok_ite (fun h824 => ?_) (fun h825 => ?_)
                          · exact ok_some ⟨by omega, g784⟩
                          · refine ok_it (by omega) ?_
                            refine ok_call (s_F_strangers (g_self g784)) (fun r13 u14 q => ?_)
                            obtain ⟨i826, g827⟩ := q
                            have g828 : G md_W_thing w u14 := g_tr g784 g827 rfl
                            have := iand_r (x := r1) (y := r13) (by omega)
                            refine ok_call (s_JI_bitCount (g_self g828) (by omega)) (fun r15 u16 q => ?_)
                            obtain ⟨i829, g830⟩ := q
                            have g831 : G md_W_thing w u16 := g_tr g828 g830 rfl
                            exact ok_some ⟨by omega, g831⟩
theorem s_W_operate {w : Wd} {v0 v1 v2 : Int} (hG : G md_W_operate w w) (i_v0 : ((-2147483648 : Int) ≤ v0 ∧ v0 ≤ 2147483647)) (i_v1 : ((-2147483648 : Int) ≤ v1 ∧ v1 ≤ 2147483647)) (i_v2 : ((-2147483648 : Int) ≤ v2 ∧ v2 ≤ 2147483647)) : OK (f_W_operate v0 v1 v2 w) (fun r u => ((-2147483648 : Int) ≤ r ∧ r ≤ 2147483647) ∧ G md_W_operate w u) := by
  unfold f_W_operate
  refine ok_ite (fun h832 => ?_) (fun h833 => ?_)
  · have := w32_sp ((v1 * v2))
    exact ok_some ⟨by omega, hG⟩
  · refine ok_ite (fun h834 => ?_) (fun h835 => ?_)
    · have := w32_sp ((v1 + v2))
      exact ok_some ⟨by omega, hG⟩
    · refine ok_ite (fun h836 => ?_) (fun h837 => ?_)
      · have := w32_sp ((v1 - v2))
        exact ok_some ⟨by omega, hG⟩
      · refine ok_ite (fun h838 => ?_) (fun h839 => ?_)
        · refine ok_ite (fun h840 => ?_) (fun h841 => ?_)
          · exact ok_some ⟨by omega, hG⟩
          · exact ok_some ⟨by omega, hG⟩
        · refine ok_ite (fun h842 => ?_) (fun h843 => ?_)
          · refine ok_ite (fun h844 => ?_) (fun h845 => ?_)
            · exact ok_some ⟨by omega, hG⟩
            · exact ok_some ⟨by omega, hG⟩
          · refine ok_ite (fun h846 => ?_) (fun h847 => ?_)
            · refine ok_ite (fun h848 => ?_) (fun h849 => ?_)
              · exact ok_some ⟨by omega, hG⟩
              · exact ok_some ⟨by omega, hG⟩
            · refine ok_ite (fun h850 => ?_) (fun h851 => ?_)
              · exact ok_some ⟨by omega, hG⟩
              · refine ok_ite (fun h852 => ?_) (fun h853 => ?_)
                · exfalso; omega
                · have := idiv_rg v1 v2
                  exact ok_some ⟨by omega, hG⟩
theorem s_W_value_158 {b : Wd} {k13 : Int → Int → Int → Int → Int → Wd → Option (Int × Wd)} {Bk13 : Int} (hk13 : ∀ {w1 : Wd} {v2 v3 v4 v5 v6 : Int}, ((41 : Int) - v6) < Bk13 → G md_W_value b w1 → ((0 : Int) ≤ v2 ∧ v2 ≤ 9) → ((0 : Int) ≤ v3 ∧ v3 ≤ 9) → ((0 : Int) ≤ v4 ∧ v4 ≤ 60) → ((0 : Int) ≤ v5 ∧ v5 ≤ 40) → ((0 : Int) ≤ v6 ∧ v6 ≤ 40) → OK (k13 v2 v3 v4 v5 v6 w1) (fun r u => ((-2147483648 : Int) ≤ r ∧ r ≤ 2147483647) ∧ G md_W_value b u)) {w : Wd} {v2 v3 v4 v5 v6 : Int} (hG : G md_W_value b w) (i_v2 : ((0 : Int) ≤ v2 ∧ v2 ≤ 9)) (i_v3 : ((0 : Int) ≤ v3 ∧ v3 ≤ 9)) (i_v4 : ((0 : Int) ≤ v4 ∧ v4 ≤ 60)) (i_v5 : ((1 : Int) ≤ v5 ∧ v5 ≤ 40)) (i_v6 : ((0 : Int) ≤ v6 ∧ v6 ≤ 39)) (hBk13 : ((41 : Int) - v6) ≤ Bk13) : OK (f_W_value_158 k13 v2 v3 v4 v5 v6 w) (fun r u => ((-2147483648 : Int) ≤ r ∧ r ≤ 2147483647) ∧ G md_W_value b u) := by
  unfold f_W_value_158
  have := w32_sp ((v6 + (1 : Int)))
  refine ok_let (fun x5 e854 => ?_)
  have : (1 : Int) ≤ x5 ∧ x5 ≤ 40 := by omega
  exact hk13 (by omega) hG (by omega) (by omega) (by omega) (by omega) (by omega)
theorem s_W_value_154 {b : Wd} {k13 : Int → Int → Int → Int → Int → Wd → Option (Int × Wd)} {Bk13 : Int} (hk13 : ∀ {w1 : Wd} {v2 v3 v4 v5 v6 : Int}, ((41 : Int) - v6) < Bk13 → G md_W_value b w1 → ((0 : Int) ≤ v2 ∧ v2 ≤ 9) → ((0 : Int) ≤ v3 ∧ v3 ≤ 9) → ((0 : Int) ≤ v4 ∧ v4 ≤ 60) → ((0 : Int) ≤ v5 ∧ v5 ≤ 40) → ((0 : Int) ≤ v6 ∧ v6 ≤ 40) → OK (k13 v2 v3 v4 v5 v6 w1) (fun r u => ((-2147483648 : Int) ≤ r ∧ r ≤ 2147483647) ∧ G md_W_value b u)) {w : Wd} {v2 v3 v4 v5 v6 s1 s2 : Int} (hG : G md_W_value b w) (i_v2 : ((0 : Int) ≤ v2 ∧ v2 ≤ 9)) (i_v3 : ((0 : Int) ≤ v3 ∧ v3 ≤ 9)) (i_v4 : ((0 : Int) ≤ v4 ∧ v4 ≤ 60)) (i_v5 : ((0 : Int) ≤ v5 ∧ v5 ≤ 39)) (i_v6 : ((0 : Int) ≤ v6 ∧ v6 ≤ 39)) (i_s1 : ((0 : Int) ≤ s1 ∧ s1 ≤ 39)) (i_s2 : ((-2147483648 : Int) ≤ s2 ∧ s2 ≤ 2147483647)) (hBk13 : ((41 : Int) - v6) ≤ Bk13) : OK (f_W_value_154 k13 v2 v3 v4 v5 v6 s1 s2 w) (fun r u => ((-2147483648 : Int) ≤ r ∧ r ≤ 2147483647) ∧ G md_W_value b u) := by
  unfold f_W_value_154
  refine ok_gd (by omega) ?_
  refine ok_lw (fun u8 e855 => ?_)
  have g856 : G md_W_value b u8 := g_st hG e855 rfl rfl (show (-2147483648 : Int) ≤ s2 ∧ s2 ≤ 2147483647 by omega)
  have := w32_sp ((v5 + (1 : Int)))
  refine ok_let (fun x9 e857 => ?_)
  have : (1 : Int) ≤ x9 ∧ x9 ≤ 40 := by omega
  exact s_W_value_158 hk13 g856 (by omega) (by omega) (by omega) (by omega) (by omega) (by omega)
theorem s_W_value_117 {b : Wd} {k13 : Int → Int → Int → Int → Int → Wd → Option (Int × Wd)} {Bk13 : Int} (hk13 : ∀ {w1 : Wd} {v2 v3 v4 v5 v6 : Int}, ((41 : Int) - v6) < Bk13 → G md_W_value b w1 → ((0 : Int) ≤ v2 ∧ v2 ≤ 9) → ((0 : Int) ≤ v3 ∧ v3 ≤ 9) → ((0 : Int) ≤ v4 ∧ v4 ≤ 60) → ((0 : Int) ≤ v5 ∧ v5 ≤ 40) → ((0 : Int) ≤ v6 ∧ v6 ≤ 40) → OK (k13 v2 v3 v4 v5 v6 w1) (fun r u => ((-2147483648 : Int) ≤ r ∧ r ≤ 2147483647) ∧ G md_W_value b u)) {w : Wd} {v2 v3 v4 v5 v6 v7 : Int} (hG : G md_W_value b w) (i_v2 : ((0 : Int) ≤ v2 ∧ v2 ≤ 9)) (i_v3 : ((0 : Int) ≤ v3 ∧ v3 ≤ 9)) (i_v4 : ((0 : Int) ≤ v4 ∧ v4 ≤ 60)) (i_v5 : ((0 : Int) ≤ v5 ∧ v5 ≤ 40)) (i_v6 : ((0 : Int) ≤ v6 ∧ v6 ≤ 39)) (i_v7 : ((-2147483648 : Int) ≤ v7 ∧ v7 ≤ 2147483647)) (hBk13 : ((41 : Int) - v6) ≤ Bk13) : OK (f_W_value_117 k13 v2 v3 v4 v5 v6 v7 w) (fun r u => ((-2147483648 : Int) ≤ r ∧ r ≤ 2147483647) ∧ G md_W_value b u) := by
  unfold f_W_value_117
  refine ok_ite (fun h858 => ?_) (fun h859 => ?_)
  · exact s_W_value_158 hk13 hG (by omega) (by omega) (by omega) (by omega) (by omega) (by omega)
  · refine ok_ite (fun h860 => ?_) (fun h861 => ?_)
    · refine ok_call (s_W_thing (g_self hG) (by omega) (by omega) (by omega) (by omega)) (fun r6 u7 q => ?_)
      obtain ⟨i862, g863⟩ := q
      have g864 : G md_W_value b u7 := g_tr hG g863 rfl
      exact s_W_value_154 hk13 g864 (by omega) (by omega) (by omega) (by omega) (by omega) (by omega) (by omega) (by omega)
    · have := w32_sp ((-v7))
      exact s_W_value_154 hk13 hG (by omega) (by omega) (by omega) (by omega) (by omega) (by omega) (by omega) (by omega)
theorem s_W_value_67 {b : Wd} {k13 : Int → Int → Int → Int → Int → Wd → Option (Int × Wd)} {Bk13 : Int} (hk13 : ∀ {w1 : Wd} {v2 v3 v4 v5 v6 : Int}, ((41 : Int) - v6) < Bk13 → G md_W_value b w1 → ((0 : Int) ≤ v2 ∧ v2 ≤ 9) → ((0 : Int) ≤ v3 ∧ v3 ≤ 9) → ((0 : Int) ≤ v4 ∧ v4 ≤ 60) → ((0 : Int) ≤ v5 ∧ v5 ≤ 40) → ((0 : Int) ≤ v6 ∧ v6 ≤ 40) → OK (k13 v2 v3 v4 v5 v6 w1) (fun r u => ((-2147483648 : Int) ≤ r ∧ r ≤ 2147483647) ∧ G md_W_value b u)) {w : Wd} {v2 v3 v4 v5 v6 v7 : Int} (hG : G md_W_value b w) (i_v2 : ((0 : Int) ≤ v2 ∧ v2 ≤ 9)) (i_v3 : ((0 : Int) ≤ v3 ∧ v3 ≤ 9)) (i_v4 : ((0 : Int) ≤ v4 ∧ v4 ≤ 60)) (i_v5 : ((0 : Int) ≤ v5 ∧ v5 ≤ 40)) (i_v6 : ((0 : Int) ≤ v6 ∧ v6 ≤ 39)) (i_v7 : ((-2147483648 : Int) ≤ v7 ∧ v7 ≤ 2147483647)) (hBk13 : ((41 : Int) - v6) ≤ Bk13) : OK (f_W_value_67 k13 v2 v3 v4 v5 v6 v7 w) (fun r u => ((-2147483648 : Int) ≤ r ∧ r ≤ 2147483647) ∧ G md_W_value b u) := by
  unfold f_W_value_67
  refine ok_call (s_W_strength (g_self hG) (by omega)) (fun r3 u4 q => ?_)
  obtain ⟨i865, g866⟩ := q
  have g867 : G md_W_value b u4 := g_tr hG g866 rfl
  refine ok_ite (fun h868 => ?_) (fun h869 => ?_)
  · exact s_W_value_117 hk13 g867 (by omega) (by omega) (by omega) (by omega) (by omega) (by omega) (by omega)
  · refine ok_ite (fun h870 => ?_) (fun h871 => ?_)
    · exact s_W_value_117 hk13 g867 (by omega) (by omega) (by omega) (by omega) (by omega) (by omega) (by omega)
    · have := w32_sp ((v5 + (-1 : Int)))
      refine ok_let (fun x10 e872 => ?_)
      have : (1 : Int) ≤ x10 ∧ x10 ≤ 39 := by omega
      have := w32_sp ((x10 - (1 : Int)))
      refine ok_gd (by omega) ?_
      refine ok_gd (by omega) ?_
      have : (-2147483648 : Int) ≤ (u4 23 ((w32 (x10 - (1 : Int)))).toNat) ∧ (u4 23 ((w32 (x10 - (1 : Int)))).toNat) ≤ 2147483647 := g867.1 23 ((w32 (x10 - (1 : Int)))).toNat
      have : (-2147483648 : Int) ≤ (u4 23 (x10).toNat) ∧ (u4 23 (x10).toNat) ≤ 2147483647 := g867.1 23 (x10).toNat
      refine ok_call (s_W_operate (g_self g867) (by omega) (by omega) (by omega)) (fun r11 u12 q => ?_)
      obtain ⟨i873, g874⟩ := q
      have g875 : G md_W_value b u12 := g_tr g867 g874 rfl
      refine ok_gd (by omega) ?_
      refine ok_lw (fun u13 e876 => ?_)
      have g877 : G md_W_value b u13 := g_st g875 e876 rfl rfl (show (-2147483648 : Int) ≤ r11 ∧ r11 ≤ 2147483647 by omega)
      exact s_W_value_158 hk13 g877 (by omega) (by omega) (by omega) (by omega) (by omega) (by omega)
theorem s_W_value_13 {b : Wd} : ∀ (n : Nat) {w : Wd} {v2 v3 v4 v5 v6 : Int}, ((41 : Int) - v6) < (n : Int) → G md_W_value b w → ((0 : Int) ≤ v2 ∧ v2 ≤ 9) → ((0 : Int) ≤ v3 ∧ v3 ≤ 9) → ((0 : Int) ≤ v4 ∧ v4 ≤ 60) → ((0 : Int) ≤ v5 ∧ v5 ≤ 40) → ((0 : Int) ≤ v6 ∧ v6 ≤ 40) → OK (f_W_value_13 n v2 v3 v4 v5 v6 w) (fun r u => ((-2147483648 : Int) ≤ r ∧ r ≤ 2147483647) ∧ G md_W_value b u) := by
  intro n
  induction n with
  | zero =>
    intro w v2 v3 v4 v5 v6 hm hG i_v2 i_v3 i_v4 i_v5 i_v6
    exfalso
    omega
  | succ n ih =>
    intro w v2 v3 v4 v5 v6 hm hG i_v2 i_v3 i_v4 i_v5 i_v6
    rw [f_W_value_13]
    have : (0 : Int) ≤ (w 19 4) ∧ (w 19 4) ≤ 40 := hG.1 19 4
    have : (w 19 4) = (b 19 4) := hG.2.1 19 4 rfl
    refine ok_ite (fun h878 => ?_) (fun h879 => ?_)
    · refine ok_gd (by omega) ?_
      have : (-2147483648 : Int) ≤ (w 23 ((0 : Int)).toNat) ∧ (w 23 ((0 : Int)).toNat) ≤ 2147483647 := hG.1 23 ((0 : Int)).toNat
      exact ok_some ⟨by omega, hG⟩
    · refine ok_gd (by omega) ?_
      have : (-2147483648 : Int) ≤ (w 20 (v6).toNat) ∧ (w 20 (v6).toNat) ≤ 2147483647 := hG.1 20 (v6).toNat
      have := w32_sp ((-(w 20 (v6).toNat)))
      refine ok_let (fun x2 e880 => ?_)
      have : (-2147483648 : Int) ≤ x2 ∧ x2 ≤ 2147483647 := by omega
      refine ok_ite (fun h881 => ?_) (fun h882 => ?_)
      · refine ok_ite (fun h883 => ?_) (fun h884 => ?_)
        · exact s_W_value_67 ih hG (by omega) (by omega) (by omega) (by omega) (by omega) (by omega) (by omega)
        · have := w32_sp ((v5 - (1 : Int)))
          refine ok_gd (by omega) ?_
          refine ok_gd (by omega) ?_
          have : (-2147483648 : Int) ≤ (w 23 ((w32 (v5 - (1 : Int)))).toNat) ∧ (w 23 ((w32 (v5 - (1 : Int)))).toNat) ≤ 2147483647 := hG.1 23 ((w32 (v5 - (1 : Int)))).toNat
          have := w32_sp ((-(w 23 ((w32 (v5 - (1 : Int)))).toNat)))
          refine ok_lw (fun u14 e885 => ?_)
          have g886 : G md_W_value b u14 := g_st hG e885 rfl rfl (show (-2147483648 : Int) ≤ (w32 (-(w 23 ((w32 (v5 - (1 : Int)))).toNat))) ∧ (w32 (-(w 23 ((w32 (v5 - (1 : Int)))).toNat))) ≤ 2147483647 by omega)
          exact s_W_value_158 ih g886 (by omega) (by omega) (by omega) (by omega) (by omega) (by omega)
      · exact s_W_value_67 ih hG (by omega) (by omega) (by omega) (by omega) (by omega) (by omega) (by omega)
theorem s_W_value {w : Wd} {v2 v3 v4 : Int} (hG : G md_W_value w w) (i_v2 : ((0 : Int) ≤ v2 ∧ v2 ≤ 9)) (i_v3 : ((0 : Int) ≤ v3 ∧ v3 ≤ 9)) (i_v4 : ((0 : Int) ≤ v4 ∧ v4 ≤ 60)) : OK (f_W_value v2 v3 v4 w) (fun r u => ((-2147483648 : Int) ≤ r ∧ r ≤ 2147483647) ∧ G md_W_value w u) := by
  unfold f_W_value
  refine ok_gd (by omega) ?_
  refine ok_lw (fun u1 e887 => ?_)
  have g888 : G md_W_value w u1 := g_st hG e887 rfl rfl (show (-2147483648 : Int) ≤ (0 : Int) ∧ (0 : Int) ≤ 2147483647 by omega)
  exact s_W_value_13 FU (by have := eqFU; omega) g888 (by omega) (by omega) (by omega) (by omega) (by omega)
theorem s_W_favourite_54 {b : Wd} {k9 : Int → Int → Int → Int → Int → Int → Wd → Option (Int × Wd)} {Bk9 : Int} (hk9 : ∀ {w1 : Wd} {v2 v3 v4 v5 v6 v7 : Int}, ((11 : Int) - v7) < Bk9 → G md_W_favourite b w1 → ((0 : Int) ≤ v2 ∧ v2 ≤ 9) → ((0 : Int) ≤ v3 ∧ v3 ≤ 1023) → ((0 : Int) ≤ v4 ∧ v4 ≤ 60) → ((-1 : Int) ≤ v5 ∧ v5 ≤ 9) → ((-1 : Int) ≤ v6 ∧ v6 ≤ 2147483647) → ((0 : Int) ≤ v7 ∧ v7 ≤ 10) → OK (k9 v2 v3 v4 v5 v6 v7 w1) (fun r u => ((-1 : Int) ≤ r ∧ r ≤ 9) ∧ G md_W_favourite b u)) {w : Wd} {v2 v3 v4 v5 v6 v7 : Int} (hG : G md_W_favourite b w) (i_v2 : ((0 : Int) ≤ v2 ∧ v2 ≤ 9)) (i_v3 : ((0 : Int) ≤ v3 ∧ v3 ≤ 1023)) (i_v4 : ((0 : Int) ≤ v4 ∧ v4 ≤ 60)) (i_v5 : ((-1 : Int) ≤ v5 ∧ v5 ≤ 9)) (i_v6 : ((-1 : Int) ≤ v6 ∧ v6 ≤ 2147483647)) (i_v7 : ((0 : Int) ≤ v7 ∧ v7 ≤ 9)) (hBk9 : ((11 : Int) - v7) ≤ Bk9) : OK (f_W_favourite_54 k9 v2 v3 v4 v5 v6 v7 w) (fun r u => ((-1 : Int) ≤ r ∧ r ≤ 9) ∧ G md_W_favourite b u) := by
  unfold f_W_favourite_54
  have := w32_sp ((v7 + (1 : Int)))
  refine ok_let (fun x3 e889 => ?_)
  have : (1 : Int) ≤ x3 ∧ x3 ≤ 10 := by omega
  exact hk9 (by omega) hG (by omega) (by omega) (by omega) (by omega) (by omega) (by omega)
theorem s_W_favourite_9 {b : Wd} : ∀ (n : Nat) {w : Wd} {v2 v3 v4 v5 v6 v7 : Int}, ((11 : Int) - v7) < (n : Int) → G md_W_favourite b w → ((0 : Int) ≤ v2 ∧ v2 ≤ 9) → ((0 : Int) ≤ v3 ∧ v3 ≤ 1023) → ((0 : Int) ≤ v4 ∧ v4 ≤ 60) → ((-1 : Int) ≤ v5 ∧ v5 ≤ 9) → ((-1 : Int) ≤ v6 ∧ v6 ≤ 2147483647) → ((0 : Int) ≤ v7 ∧ v7 ≤ 10) → OK (f_W_favourite_9 n v2 v3 v4 v5 v6 v7 w) (fun r u => ((-1 : Int) ≤ r ∧ r ≤ 9) ∧ G md_W_favourite b u) := by
  intro n
  induction n with
  | zero =>
    intro w v2 v3 v4 v5 v6 v7 hm hG i_v2 i_v3 i_v4 i_v5 i_v6 i_v7
    exfalso
    omega
  | succ n ih =>
    intro w v2 v3 v4 v5 v6 v7 hm hG i_v2 i_v3 i_v4 i_v5 i_v6 i_v7
    rw [f_W_favourite_9]
    have : (0 : Int) ≤ (w 5 3) ∧ (w 5 3) ≤ 10 := hG.1 5 3
    have : (w 5 3) = (b 5 3) := hG.2.1 5 3 rfl
    refine ok_ite (fun h890 => ?_) (fun h891 => ?_)
    · exact ok_some ⟨by omega, hG⟩
    · refine ok_jif (by omega) ?_
      refine ok_jif (by omega) ?_
      have := ishr_nn (x := v3) (y := v7) (by omega)
      have := iand_l (x := (ishr v3 v7)) (y := (1 : Int)) (by omega)
      have := iand_r (x := (ishr v3 v7)) (y := (1 : Int)) (by omega)
      refine ok_jite (fun h893 => ?_) (fun h894 => ?_)
      · refine ok_jsome ?_
        refine ok_it (by decide) ?_
        exact s_W_favourite_54 ih hG (by omega) (by omega) (by omega) (by omega) (by omega) (by omega) (by omega)
      · refine ok_jsome ?_
        refine ok_if (by decide) ?_
        refine ok_call (s_W_value (g_self hG) (by omega) (by omega) (by omega)) (fun r4 u5 q => ?_)
        obtain ⟨i895, g896⟩ := q
        have g897 : G md_W_favourite b u5 := g_tr hG g896 rfl
        refine ok_ite (fun h898 => ?_) (fun h899 => ?_)
        · exact s_W_favourite_54 ih g897 (by omega) (by omega) (by omega) (by omega) (by omega) (by omega) (by omega)
        · exact s_W_favourite_54 ih g897 (by omega) (by omega) (by omega) (by omega) (by omega) (by omega) (by omega)
theorem s_W_favourite {w : Wd} {v2 v3 v4 : Int} (hG : G md_W_favourite w w) (i_v2 : ((0 : Int) ≤ v2 ∧ v2 ≤ 9)) (i_v3 : ((0 : Int) ≤ v3 ∧ v3 ≤ 1023)) (i_v4 : ((0 : Int) ≤ v4 ∧ v4 ≤ 60)) : OK (f_W_favourite v2 v3 v4 w) (fun r u => ((-1 : Int) ≤ r ∧ r ≤ 9) ∧ G md_W_favourite w u) := by
  unfold f_W_favourite
  exact s_W_favourite_9 FU (by have := eqFU; omega) hG (by omega) (by omega) (by omega) (by omega) (by omega) (by omega)
theorem s_P_follow_104 {b : Wd} {k7 : Int → Int → Wd → Option (Int × Wd)} {Bk7 : Int} (hk7 : ∀ {w1 : Wd} {v3 v4 : Int}, ((11 : Int) - v4) < Bk7 → G md_P_follow b w1 → ((0 : Int) ≤ v3 ∧ v3 ≤ 60) → ((0 : Int) ≤ v4 ∧ v4 ≤ 10) → OK (k7 v3 v4 w1) (fun r u => ((0 : Int) ≤ r ∧ r ≤ 0) ∧ G md_P_follow b u)) {w : Wd} {v3 v4 : Int} (hG : G md_P_follow b w) (i_v3 : ((0 : Int) ≤ v3 ∧ v3 ≤ 60)) (i_v4 : ((0 : Int) ≤ v4 ∧ v4 ≤ 9)) (hBk7 : ((11 : Int) - v4) ≤ Bk7) : OK (f_P_follow_104 k7 v3 v4 w) (fun r u => ((0 : Int) ≤ r ∧ r ≤ 0) ∧ G md_P_follow b u) := by
  unfold f_P_follow_104
  have := w32_sp ((v4 + (1 : Int)))
  refine ok_let (fun x9 e900 => ?_)
  have : (1 : Int) ≤ x9 ∧ x9 ≤ 10 := by omega
  exact hk7 (by omega) hG (by omega) (by omega)
theorem s_P_follow_51 {b : Wd} {k7 : Int → Int → Wd → Option (Int × Wd)} {Bk7 : Int} (hk7 : ∀ {w1 : Wd} {v3 v4 : Int}, ((11 : Int) - v4) < Bk7 → G md_P_follow b w1 → ((0 : Int) ≤ v3 ∧ v3 ≤ 60) → ((0 : Int) ≤ v4 ∧ v4 ≤ 10) → OK (k7 v3 v4 w1) (fun r u => ((0 : Int) ≤ r ∧ r ≤ 0) ∧ G md_P_follow b u)) {w : Wd} {v3 v4 s0 : Int} (hG : G md_P_follow b w) (i_v3 : ((0 : Int) ≤ v3 ∧ v3 ≤ 60)) (i_v4 : ((0 : Int) ≤ v4 ∧ v4 ≤ 9)) (i_s0 : ((0 : Int) ≤ s0 ∧ s0 ≤ 1023)) (hBk7 : ((11 : Int) - v4) ≤ Bk7) : OK (f_P_follow_51 k7 v3 v4 s0 w) (fun r u => ((0 : Int) ≤ r ∧ r ≤ 0) ∧ G md_P_follow b u) := by
  unfold f_P_follow_51
  refine ok_call (s_W_favourite (g_self hG) (by omega) (by omega) (by omega)) (fun r7 u8 q => ?_)
  obtain ⟨i901, g902⟩ := q
  have g903 : G md_P_follow b u8 := g_tr hG g902 rfl
  refine ok_ite (fun h904 => ?_) (fun h905 => ?_)
  · exact s_P_follow_104 hk7 g903 (by omega) (by omega) (by omega)
  · have : (-2147483648 : Int) ≤ (u8 12 3) ∧ (u8 12 3) ≤ 2147483647 := g903.1 12 3
    have : (u8 12 3) = (w 12 3) := g902.2.1 12 3 rfl
    have : (-2147483648 : Int) ≤ (w 12 3) ∧ (w 12 3) ≤ 2147483647 := hG.1 12 3
    have := ishl1_n 9 (i := v4) (j := 9) (m := 512) (by decide) (by decide) (by decide) (by omega)
    have := ior_rg (u8 12 3) (ishl (1 : Int) v4)
    have := ishl1_n 9 (i := r7) (j := 9) (m := 512) (by decide) (by decide) (by decide) (by omega)
    have := ior_rg (ior (u8 12 3) (ishl (1 : Int) v4)) (ishl (1 : Int) r7)
    refine ok_call (s_F_guestsAfter (g_self g903) (by omega)) (fun r10 u11 q => ?_)
    obtain ⟨i906, g907⟩ := q
    have g908 : G md_P_follow b u11 := g_tr g903 g907 rfl
    have : (0 : Int) ≤ (u11 5 8) ∧ (u11 5 8) ≤ 2147483647 := g908.1 5 8
    have : (u11 5 8) = (u8 5 8) := g907.2.1 5 8 rfl
    have : (0 : Int) ≤ (u8 5 8) ∧ (u8 5 8) ≤ 2147483647 := g903.1 5 8
    have : (u8 5 8) = (w 5 8) := g902.2.1 5 8 rfl
    have : (0 : Int) ≤ (w 5 8) ∧ (w 5 8) ≤ 2147483647 := hG.1 5 8
    have : (w 5 8) = (b 5 8) := hG.2.1 5 8 rfl
    refine ok_ite (fun h909 => ?_) (fun h910 => ?_)
    · exact s_P_follow_104 hk7 g908 (by omega) (by omega) (by omega)
    · refine ok_call (s_P_add (g_self g908) (by omega) (by omega)) (fun r12 u13 q => ?_)
      obtain ⟨i911, g912⟩ := q
      have g913 : G md_P_follow b u13 := g_tr g908 g912 rfl
      exact s_P_follow_104 hk7 g913 (by omega) (by omega) (by omega)
theorem s_P_follow_7 {b : Wd} : ∀ (n : Nat) {w : Wd} {v3 v4 : Int}, ((11 : Int) - v4) < (n : Int) → G md_P_follow b w → ((0 : Int) ≤ v3 ∧ v3 ≤ 60) → ((0 : Int) ≤ v4 ∧ v4 ≤ 10) → OK (f_P_follow_7 n v3 v4 w) (fun r u => ((0 : Int) ≤ r ∧ r ≤ 0) ∧ G md_P_follow b u) := by
  intro n
  induction n with
  | zero =>
    intro w v3 v4 hm hG i_v3 i_v4
    exfalso
    omega
  | succ n ih =>
    intro w v3 v4 hm hG i_v3 i_v4
    rw [f_P_follow_7]
    have : (0 : Int) ≤ (w 5 3) ∧ (w 5 3) ≤ 10 := hG.1 5 3
    have : (w 5 3) = (b 5 3) := hG.2.1 5 3 rfl
    refine ok_ite (fun h914 => ?_) (fun h915 => ?_)
    · exact ok_some ⟨by omega, hG⟩
    · refine ok_call (s_F_guests (g_self hG)) (fun r3 u4 q => ?_)
      obtain ⟨i916, g917⟩ := q
      have g918 : G md_P_follow b u4 := g_tr hG g917 rfl
      refine ok_jif (by omega) ?_
      refine ok_jif (by omega) ?_
      have := ishr_nn (x := r3) (y := v4) (by omega)
      have := iand_l (x := (ishr r3 v4)) (y := (1 : Int)) (by omega)
      have := iand_r (x := (ishr r3 v4)) (y := (1 : Int)) (by omega)
      refine ok_jite (fun h920 => ?_) (fun h921 => ?_)
      · refine ok_jsome ?_
        refine ok_it (by decide) ?_
        exact s_P_follow_51 ih g918 (by omega) (by omega) (by omega) (by omega)
      · refine ok_jsome ?_
        refine ok_if (by decide) ?_
        refine ok_gd (by omega) ?_
        refine ok_call (s_F_free (g_self g918)) (fun r14 u15 q => ?_)
        obtain ⟨i922, g923⟩ := q
        have g924 : G md_P_follow b u15 := g_tr g918 g923 rfl
        have : (-2147483648 : Int) ≤ (u4 7 (v4).toNat) ∧ (u4 7 (v4).toNat) ≤ 2147483647 := g918.1 7 (v4).toNat
        have := iand_r (x := (u4 7 (v4).toNat)) (y := r14) (by omega)
        have : (-2147483648 : Int) ≤ (u15 12 3) ∧ (u15 12 3) ≤ 2147483647 := g924.1 12 3
        have : (u15 12 3) = (u4 12 3) := g923.2.1 12 3 rfl
        have : (-2147483648 : Int) ≤ (u4 12 3) ∧ (u4 12 3) ≤ 2147483647 := g918.1 12 3
        have : (u4 12 3) = (w 12 3) := g917.2.1 12 3 rfl
        have : (-2147483648 : Int) ≤ (w 12 3) ∧ (w 12 3) ≤ 2147483647 := hG.1 12 3
        have := ixor_m1 (x := (u15 12 3)) (by omega)
        have := iand_l (x := (iand (u4 7 (v4).toNat) r14)) (y := (ixor (u15 12 3) (-1 : Int))) (by omega)
        exact s_P_follow_51 ih g924 (by omega) (by omega) (by omega) (by omega)
theorem s_P_follow {w : Wd} {v3 : Int} (hG : G md_P_follow w w) (i_v3 : ((0 : Int) ≤ v3 ∧ v3 ≤ 60)) : OK (f_P_follow v3 w) (fun r u => ((0 : Int) ≤ r ∧ r ≤ 0) ∧ G md_P_follow w u) := by
  unfold f_P_follow
  refine ok_call (s_P_clear (g_self hG)) (fun r1 u2 q => ?_)
  obtain ⟨i925, g926⟩ := q
  have g927 : G md_P_follow w u2 := g_tr hG g926 rfl
  exact s_P_follow_7 FU (by have := eqFU; omega) g927 (by omega) (by omega)
theorem s_E_goes_75 {b : Wd} {w : Wd} {v2 v3 : Int} (hG : G md_E_goes b w) (i_v2 : ((0 : Int) ≤ v2 ∧ v2 ≤ 60)) (i_v3 : ((-2147483648 : Int) ≤ v3 ∧ v3 ≤ 2147483647)) : OK (f_E_goes_75 v2 v3 w) (fun r u => ((-1 : Int) ≤ r ∧ r ≤ 60) ∧ G md_E_goes b u) := by
  unfold f_E_goes_75
  refine ok_call (s_F_guests (g_self hG)) (fun r3 u4 q => ?_)
  obtain ⟨i928, g929⟩ := q
  have g930 : G md_E_goes b u4 := g_tr hG g929 rfl
  refine ok_call (s_N_tell2 (g_self g930) (by omega) (by omega)) (fun r5 u6 q => ?_)
  obtain ⟨i931, g932⟩ := q
  have g933 : G md_E_goes b u6 := g_tr g930 g932 rfl
  exact ok_some ⟨by omega, g933⟩
theorem s_E_goes_13 {b : Wd} : ∀ (n : Nat) {w : Wd} {v1 v2 v3 : Int}, ((61 : Int) - v2) < (n : Int) → G md_E_goes b w → ((0 : Int) ≤ v1 ∧ v1 ≤ 60) → ((0 : Int) ≤ v2 ∧ v2 ≤ 60) → ((-2147483648 : Int) ≤ v3 ∧ v3 ≤ 2147483647) → OK (f_E_goes_13 n v1 v2 v3 w) (fun r u => ((-1 : Int) ≤ r ∧ r ≤ 60) ∧ G md_E_goes b u) := by
  intro n
  induction n with
  | zero =>
    intro w v1 v2 v3 hm hG i_v1 i_v2 i_v3
    exfalso
    omega
  | succ n ih =>
    intro w v1 v2 v3 hm hG i_v1 i_v2 i_v3
    rw [f_E_goes_13]
    refine ok_ite (fun h934 => ?_) (fun h935 => ?_)
    · exact s_E_goes_75 hG (by omega) (by omega)
    · have : (0 : Int) ≤ (w 15 3) ∧ (w 15 3) ≤ 60 := hG.1 15 3
      refine ok_ite (fun h936 => ?_) (fun h937 => ?_)
      · exact s_E_goes_75 hG (by omega) (by omega)
      · refine ok_call (s_F_guests (g_self hG)) (fun r7 u8 q => ?_)
        obtain ⟨i938, g939⟩ := q
        have g940 : G md_E_goes b u8 := g_tr hG g939 rfl
        refine ok_ite (fun h941 => ?_) (fun h942 => ?_)
        · exact s_E_goes_75 g940 (by omega) (by omega)
        · have : (0 : Int) ≤ (u8 15 3) ∧ (u8 15 3) ≤ 60 := g940.1 15 3
          have : (u8 15 3) = (w 15 3) := g939.2.1 15 3 rfl
          refine ok_call (s_P_follow (g_self g940) (by omega)) (fun r9 u10 q => ?_)
          obtain ⟨i943, g944⟩ := q
          have g945 : G md_E_goes b u10 := g_tr g940 g944 rfl
          have : (0 : Int) ≤ (u10 15 3) ∧ (u10 15 3) ≤ 60 := g945.1 15 3
          have : (u10 15 3) = (u8 15 3) := g944.2.1 15 3 rfl
          refine ok_call (s_E_pass (g_self g945) (by omega)) (fun r11 u12 q => ?_)
          obtain ⟨i946, g947⟩ := q
          have g948 : G md_E_goes b u12 := g_tr g945 g947 rfl
          have := w32_sp ((v3 + r11))
          refine ok_let (fun x13 e949 => ?_)
          have : (-2147483648 : Int) ≤ x13 ∧ x13 ≤ 2147483647 := by omega
          have := w32_sp ((v2 + (1 : Int)))
          refine ok_let (fun x14 e950 => ?_)
          have : (1 : Int) ≤ x14 ∧ x14 ≤ 60 := by omega
          exact ih (by omega) g948 (by omega) (by omega) (by omega)
theorem s_E_goes {w : Wd} {v1 : Int} (hG : G md_E_goes w w) (i_v1 : ((-2147483648 : Int) ≤ v1 ∧ v1 ≤ 2147483647)) : OK (f_E_goes v1 w) (fun r u => ((-1 : Int) ≤ r ∧ r ≤ 60) ∧ G md_E_goes w u) := by
  unfold f_E_goes
  refine ok_jite (fun h952 => ?_) (fun h953 => ?_)
  · refine ok_jsome ?_
    refine ok_it (by decide) ?_
    exact ok_some ⟨by omega, hG⟩
  · refine ok_jite (fun h954 => ?_) (fun h955 => ?_)
    · refine ok_jsome ?_
      refine ok_it (by decide) ?_
      exact ok_some ⟨by omega, hG⟩
    · refine ok_jsome ?_
      refine ok_if (by decide) ?_
      exact s_E_goes_13 FU (by have := eqFU; omega) hG (by omega) (by omega) (by omega)
theorem s_D_goBack_96 {b : Wd} {k70 : Int → Wd → Option (Int × Wd)} {Bk70 : Int} (hk70 : ∀ {w1 : Wd} {v2 : Int}, ((11 : Int) - v2) < Bk70 → G md_D_goBack b w1 → ((0 : Int) ≤ v2 ∧ v2 ≤ 10) → OK (k70 v2 w1) (fun r u => ((0 : Int) ≤ r ∧ r ≤ 1) ∧ G md_D_goBack b u)) {w : Wd} {v2 : Int} (hG : G md_D_goBack b w) (i_v2 : ((0 : Int) ≤ v2 ∧ v2 ≤ 9)) (hBk70 : ((11 : Int) - v2) ≤ Bk70) : OK (f_D_goBack_96 k70 v2 w) (fun r u => ((0 : Int) ≤ r ∧ r ≤ 1) ∧ G md_D_goBack b u) := by
  unfold f_D_goBack_96
  have := w32_sp ((v2 + (1 : Int)))
  refine ok_let (fun x11 e956 => ?_)
  have : (1 : Int) ≤ x11 ∧ x11 ≤ 10 := by omega
  exact hk70 (by omega) hG (by omega)
theorem s_D_goBack_70 {b : Wd} : ∀ (n : Nat) {w : Wd} {v2 : Int}, ((11 : Int) - v2) < (n : Int) → G md_D_goBack b w → ((0 : Int) ≤ v2 ∧ v2 ≤ 10) → OK (f_D_goBack_70 n v2 w) (fun r u => ((0 : Int) ≤ r ∧ r ≤ 1) ∧ G md_D_goBack b u) := by
  intro n
  induction n with
  | zero =>
    intro w v2 hm hG i_v2
    exfalso
    omega
  | succ n ih =>
    intro w v2 hm hG i_v2
    rw [f_D_goBack_70]
    have : (0 : Int) ≤ (w 5 3) ∧ (w 5 3) ≤ 10 := hG.1 5 3
    have : (w 5 3) = (b 5 3) := hG.2.1 5 3 rfl
    refine ok_ite (fun h957 => ?_) (fun h958 => ?_)
    · exact ok_some ⟨by omega, hG⟩
    · refine ok_call (s_F_strangers (g_self hG)) (fun r7 u8 q => ?_)
      obtain ⟨i959, g960⟩ := q
      have g961 : G md_D_goBack b u8 := g_tr hG g960 rfl
      refine ok_jif (by omega) ?_
      refine ok_jif (by omega) ?_
      have := ishr_nn (x := r7) (y := v2) (by omega)
      have := iand_l (x := (ishr r7 v2)) (y := (1 : Int)) (by omega)
      have := iand_r (x := (ishr r7 v2)) (y := (1 : Int)) (by omega)
      refine ok_jite (fun h963 => ?_) (fun h964 => ?_)
      · refine ok_jsome ?_
        refine ok_it (by decide) ?_
        exact s_D_goBack_96 ih g961 (by omega) (by omega)
      · refine ok_jsome ?_
        refine ok_if (by decide) ?_
        refine ok_gd (by omega) ?_
        refine ok_lw (fun u12 e965 => ?_)
        have g966 : G md_D_goBack b u12 := g_st g961 e965 rfl rfl (show (-1 : Int) ≤ (-1 : Int) ∧ (-1 : Int) ≤ 9 by omega)
        exact s_D_goBack_96 ih g966 (by omega) (by omega)
theorem s_D_goBack {w : Wd} (hG : G md_D_goBack w w) : OK (f_D_goBack w) (fun r u => ((0 : Int) ≤ r ∧ r ≤ 1) ∧ G md_D_goBack w u) := by
  unfold f_D_goBack
  have : (-2147483648 : Int) ≤ (w 15 4) ∧ (w 15 4) ≤ 2147483647 := hG.1 15 4
  refine ok_ite (fun h967 => ?_) (fun h968 => ?_)
  · exact ok_some ⟨by omega, hG⟩
  · have : (0 : Int) ≤ (w 15 3) ∧ (w 15 3) ≤ 60 := hG.1 15 3
    have := w32_sp (((w 15 3) - (1 : Int)))
    refine ok_jite (fun h970 => ?_) (fun h971 => ?_)
    · refine ok_jsome ?_
      refine ok_it (by decide) ?_
      exact ok_some ⟨by omega, hG⟩
    · refine ok_jif (by omega) ?_
      refine ok_jite (fun h972 => ?_) (fun h973 => ?_)
      · refine ok_jsome ?_
        refine ok_it (by decide) ?_
        exact ok_some ⟨by omega, hG⟩
      · refine ok_jsome ?_
        refine ok_if (by decide) ?_
        have := w32_sp (((w 15 4) - (1 : Int)))
        refine ok_lw (fun u3 e974 => ?_)
        have g975 : G md_D_goBack w u3 := g_st hG e974 rfl rfl (show (-2147483648 : Int) ≤ (w32 ((w 15 4) - (1 : Int))) ∧ (w32 ((w 15 4) - (1 : Int))) ≤ 2147483647 by omega)
        have : (0 : Int) ≤ (u3 15 3) ∧ (u3 15 3) ≤ 60 := g975.1 15 3
        have : (u3 15 3) = (w 15 3) := (congrFun (congrFun e974 15) 3).trans (st_k (by decide))
        have := w32_sp (((u3 15 3) - (1 : Int)))
        refine ok_lw (fun u4 e976 => ?_)
        have g977 : G md_D_goBack w u4 := g_st g975 e976 rfl rfl (show (0 : Int) ≤ (w32 ((u3 15 3) - (1 : Int))) ∧ (w32 ((u3 15 3) - (1 : Int))) ≤ 60 by omega)
        have : (0 : Int) ≤ (u4 15 3) ∧ (u4 15 3) ≤ 60 := g977.1 15 3
        have : (u4 15 3) = (w32 ((u3 15 3) - (1 : Int))) := (congrFun (congrFun e976 15) 3).trans (st_eq _ _ _ _)
        refine ok_gd (by omega) ?_
        have : (-2147483648 : Int) ≤ (u4 17 ((u4 15 3)).toNat) ∧ (u4 17 ((u4 15 3)).toNat) ≤ 2147483647 := g977.1 17 ((u4 15 3)).toNat
        have : (u4 17 ((u4 15 3)).toNat) = (u3 17 ((u4 15 3)).toNat) := (congrFun (congrFun e976 17) ((u4 15 3)).toNat).trans (st_c (by decide))
        have : (-2147483648 : Int) ≤ (u3 17 ((u4 15 3)).toNat) ∧ (u3 17 ((u4 15 3)).toNat) ≤ 2147483647 := g975.1 17 ((u4 15 3)).toNat
        have : (u3 17 ((u4 15 3)).toNat) = (w 17 ((u4 15 3)).toNat) := (congrFun (congrFun e974 17) ((u4 15 3)).toNat).trans (st_c (by decide))
        have : (-2147483648 : Int) ≤ (w 17 ((u4 15 3)).toNat) ∧ (w 17 ((u4 15 3)).toNat) ≤ 2147483647 := hG.1 17 ((u4 15 3)).toNat
        refine ok_lw (fun u5 e978 => ?_)
        have g979 : G md_D_goBack w u5 := g_st g977 e978 rfl rfl (show (-2147483648 : Int) ≤ (u4 17 ((u4 15 3)).toNat) ∧ (u4 17 ((u4 15 3)).toNat) ≤ 2147483647 by omega)
        have : (0 : Int) ≤ (u5 15 3) ∧ (u5 15 3) ≤ 60 := g979.1 15 3
        have : (u5 15 3) = (u4 15 3) := (congrFun (congrFun e978 15) 3).trans (st_c (by decide))
        refine ok_gd (by omega) ?_
        have : (-2147483648 : Int) ≤ (u5 18 ((u5 15 3)).toNat) ∧ (u5 18 ((u5 15 3)).toNat) ≤ 2147483647 := g979.1 18 ((u5 15 3)).toNat
        have : (u5 18 ((u5 15 3)).toNat) = (u4 18 ((u5 15 3)).toNat) := (congrFun (congrFun e978 18) ((u5 15 3)).toNat).trans (st_c (by decide))
        have : (-2147483648 : Int) ≤ (u4 18 ((u5 15 3)).toNat) ∧ (u4 18 ((u5 15 3)).toNat) ≤ 2147483647 := g977.1 18 ((u5 15 3)).toNat
        have : (u4 18 ((u5 15 3)).toNat) = (u3 18 ((u5 15 3)).toNat) := (congrFun (congrFun e976 18) ((u5 15 3)).toNat).trans (st_c (by decide))
        have : (-2147483648 : Int) ≤ (u3 18 ((u5 15 3)).toNat) ∧ (u3 18 ((u5 15 3)).toNat) ≤ 2147483647 := g975.1 18 ((u5 15 3)).toNat
        have : (u3 18 ((u5 15 3)).toNat) = (w 18 ((u5 15 3)).toNat) := (congrFun (congrFun e974 18) ((u5 15 3)).toNat).trans (st_c (by decide))
        have : (-2147483648 : Int) ≤ (w 18 ((u5 15 3)).toNat) ∧ (w 18 ((u5 15 3)).toNat) ≤ 2147483647 := hG.1 18 ((u5 15 3)).toNat
        refine ok_lw (fun u6 e980 => ?_)
        have g981 : G md_D_goBack w u6 := g_st g979 e980 rfl rfl (show (-2147483648 : Int) ≤ (u5 18 ((u5 15 3)).toNat) ∧ (u5 18 ((u5 15 3)).toNat) ≤ 2147483647 by omega)
        exact s_D_goBack_70 FU (by have := eqFU; omega) g981 (by omega)
theorem s_E_undo {w : Wd} (hG : G md_E_undo w w) : OK (f_E_undo w) (fun r u => ((-1 : Int) ≤ r ∧ r ≤ 60) ∧ G md_E_undo w u) := by
  unfold f_E_undo
  refine ok_call (s_D_goBack (g_self hG)) (fun r1 u2 q => ?_)
  obtain ⟨i982, g983⟩ := q
  have g984 : G md_E_undo w u2 := g_tr hG g983 rfl
  refine ok_ite (fun h985 => ?_) (fun h986 => ?_)
  · exact ok_some ⟨by omega, g984⟩
  · refine ok_call (s_S_forget (g_self g984)) (fun r3 u4 q => ?_)
    obtain ⟨i987, g988⟩ := q
    have g989 : G md_E_undo w u4 := g_tr g984 g988 rfl
    have : (0 : Int) ≤ (u4 15 3) ∧ (u4 15 3) ≤ 60 := g989.1 15 3
    have : (u4 15 3) = (u2 15 3) := g988.2.1 15 3 rfl
    have : (0 : Int) ≤ (u2 15 3) ∧ (u2 15 3) ≤ 60 := g984.1 15 3
    exact ok_some ⟨by omega, g989⟩
theorem s_M_prepare {w : Wd} {v2 v3 v4 : Int} (hG : G md_M_prepare w w) (i_v2 : ((-2147483648 : Int) ≤ v2 ∧ v2 ≤ 2147483647)) (i_v3 : ((0 : Int) ≤ v3 ∧ v3 ≤ 1023)) (i_v4 : ((0 : Int) ≤ v4 ∧ v4 ≤ 2147483647)) : OK (f_M_prepare v2 v3 v4 w) (fun r u => ((0 : Int) ≤ r ∧ r ≤ 0) ∧ G md_M_prepare w u ∧ ((u 24 5) = (6 : Int))) := by
  unfold f_M_prepare
  refine ok_lw (fun u1 e990 => ?_)
  have g991 : G md_M_prepare w u1 := g_st hG e990 rfl rfl (show (0 : Int) ≤ (6 : Int) ∧ (6 : Int) ≤ 6 by omega)
  refine ok_lw (fun u2 e992 => ?_)
  have g993 : G md_M_prepare w u2 := g_st g991 e992 rfl rfl (show (0 : Int) ≤ v3 ∧ v3 ≤ 1023 by omega)
  refine ok_call (s_F_everybody (g_self g993)) (fun r3 u4 q => ?_)
  obtain ⟨i994, g995⟩ := q
  have g996 : G md_M_prepare w u4 := g_tr g993 g995 rfl
  refine ok_call (s_O_known (g_self g996) (by omega)) (fun r5 u6 q => ?_)
  obtain ⟨i997, g998⟩ := q
  have g999 : G md_M_prepare w u6 := g_tr g996 g998 rfl
  have := ixor_m1 (x := r5) (by omega)
  have := iand_l (x := r3) (y := (ixor r5 (-1 : Int))) (by omega)
  have : (-2147483648 : Int) ≤ (u6 5 5) ∧ (u6 5 5) ≤ 2147483647 := g999.1 5 5
  have : (u6 5 5) = (u4 5 5) := g998.2.1 5 5 rfl
  have : (-2147483648 : Int) ≤ (u4 5 5) ∧ (u4 5 5) ≤ 2147483647 := g996.1 5 5
  have : (u4 5 5) = (u2 5 5) := g995.2.1 5 5 rfl
  have : (-2147483648 : Int) ≤ (u2 5 5) ∧ (u2 5 5) ≤ 2147483647 := g993.1 5 5
  have : (u2 5 5) = (u1 5 5) := (congrFun (congrFun e992 5) 5).trans (st_c (by decide))
  have : (-2147483648 : Int) ≤ (u1 5 5) ∧ (u1 5 5) ≤ 2147483647 := g991.1 5 5
  have : (u1 5 5) = (w 5 5) := (congrFun (congrFun e990 5) 5).trans (st_c (by decide))
  have : (-2147483648 : Int) ≤ (w 5 5) ∧ (w 5 5) ≤ 2147483647 := hG.1 5 5
  have := ixor_m1 (x := (u6 5 5)) (by omega)
  have := iand_l (x := (iand r3 (ixor r5 (-1 : Int)))) (y := (ixor (u6 5 5) (-1 : Int))) (by omega)
  refine ok_lw (fun u7 e1000 => ?_)
  have g1001 : G md_M_prepare w u7 := g_st g999 e1000 rfl rfl (show (0 : Int) ≤ (iand (iand r3 (ixor r5 (-1 : Int))) (ixor (u6 5 5) (-1 : Int))) ∧ (iand (iand r3 (ixor r5 (-1 : Int))) (ixor (u6 5 5) (-1 : Int))) ≤ 1023 by omega)
  have : (0 : Int) ≤ (u7 5 7) ∧ (u7 5 7) ≤ 2147483647 := g1001.1 5 7
  have : (u7 5 7) = (u6 5 7) := (congrFun (congrFun e1000 5) 7).trans (st_c (by decide))
  have : (0 : Int) ≤ (u6 5 7) ∧ (u6 5 7) ≤ 2147483647 := g999.1 5 7
  have : (u6 5 7) = (u4 5 7) := g998.2.1 5 7 rfl
  have : (0 : Int) ≤ (u4 5 7) ∧ (u4 5 7) ≤ 2147483647 := g996.1 5 7
  have : (u4 5 7) = (u2 5 7) := g995.2.1 5 7 rfl
  have : (0 : Int) ≤ (u2 5 7) ∧ (u2 5 7) ≤ 2147483647 := g993.1 5 7
  have : (u2 5 7) = (u1 5 7) := (congrFun (congrFun e992 5) 7).trans (st_c (by decide))
  have : (0 : Int) ≤ (u1 5 7) ∧ (u1 5 7) ≤ 2147483647 := g991.1 5 7
  have : (u1 5 7) = (w 5 7) := (congrFun (congrFun e990 5) 7).trans (st_c (by decide))
  have : (0 : Int) ≤ (w 5 7) ∧ (w 5 7) ≤ 2147483647 := hG.1 5 7
  refine ok_call (s_O_stay (g_self g1001) (by omega) (by omega)) (fun r8 u9 q => ?_)
  obtain ⟨i1002, g1003⟩ := q
  have g1004 : G md_M_prepare w u9 := g_tr g1001 g1003 rfl
  refine ok_lw (fun u10 e1005 => ?_)
  have g1006 : G md_M_prepare w u10 := g_st g1004 e1005 rfl rfl (show (0 : Int) ≤ r8 ∧ r8 ≤ 1023 by omega)
  refine ok_lw (fun u11 e1007 => ?_)
  have g1008 : G md_M_prepare w u11 := g_st g1006 e1007 rfl rfl (show (0 : Int) ≤ v4 ∧ v4 ≤ 2147483647 by omega)
  refine ok_lw (fun u12 e1009 => ?_)
  have g1010 : G md_M_prepare w u12 := g_st g1008 e1009 rfl rfl (show (0 : Int) ≤ (0 : Int) ∧ (0 : Int) ≤ 256 by omega)
  have : (-2147483648 : Int) ≤ (u12 24 4) ∧ (u12 24 4) ≤ 2147483647 := g1010.1 24 4
  have : (u12 24 4) = (u11 24 4) := (congrFun (congrFun e1009 24) 4).trans (st_k (by decide))
  have : (-2147483648 : Int) ≤ (u11 24 4) ∧ (u11 24 4) ≤ 2147483647 := g1008.1 24 4
  have : (u11 24 4) = (u10 24 4) := (congrFun (congrFun e1007 24) 4).trans (st_k (by decide))
  have : (-2147483648 : Int) ≤ (u10 24 4) ∧ (u10 24 4) ≤ 2147483647 := g1006.1 24 4
  have : (u10 24 4) = (u9 24 4) := (congrFun (congrFun e1005 24) 4).trans (st_k (by decide))
  have : (-2147483648 : Int) ≤ (u9 24 4) ∧ (u9 24 4) ≤ 2147483647 := g1004.1 24 4
  have : (u9 24 4) = (u7 24 4) := g1003.2.1 24 4 rfl
  have : (-2147483648 : Int) ≤ (u7 24 4) ∧ (u7 24 4) ≤ 2147483647 := g1001.1 24 4
  have : (u7 24 4) = (u6 24 4) := (congrFun (congrFun e1000 24) 4).trans (st_k (by decide))
  have : (-2147483648 : Int) ≤ (u6 24 4) ∧ (u6 24 4) ≤ 2147483647 := g999.1 24 4
  have : (u6 24 4) = (u4 24 4) := g998.2.1 24 4 rfl
  have : (-2147483648 : Int) ≤ (u4 24 4) ∧ (u4 24 4) ≤ 2147483647 := g996.1 24 4
  have : (u4 24 4) = (u2 24 4) := g995.2.1 24 4 rfl
  have : (-2147483648 : Int) ≤ (u2 24 4) ∧ (u2 24 4) ≤ 2147483647 := g993.1 24 4
  have : (u2 24 4) = (u1 24 4) := (congrFun (congrFun e992 24) 4).trans (st_k (by decide))
  have : (-2147483648 : Int) ≤ (u1 24 4) ∧ (u1 24 4) ≤ 2147483647 := g991.1 24 4
  have : (u1 24 4) = (w 24 4) := (congrFun (congrFun e990 24) 4).trans (st_k (by decide))
  have : (-2147483648 : Int) ≤ (w 24 4) ∧ (w 24 4) ≤ 2147483647 := hG.1 24 4
  have := w32_sp (((u12 24 4) + (1 : Int)))
  refine ok_lw (fun u13 e1011 => ?_)
  have g1012 : G md_M_prepare w u13 := g_st g1010 e1011 rfl rfl (show (-2147483648 : Int) ≤ (w32 ((u12 24 4) + (1 : Int))) ∧ (w32 ((u12 24 4) + (1 : Int))) ≤ 2147483647 by omega)
  have : (0 : Int) ≤ (u13 24 5) ∧ (u13 24 5) ≤ 6 := g1012.1 24 5
  have : (u13 24 5) = (u12 24 5) := (congrFun (congrFun e1011 24) 5).trans (st_k (by decide))
  have : (0 : Int) ≤ (u12 24 5) ∧ (u12 24 5) ≤ 6 := g1010.1 24 5
  have : (u12 24 5) = (u11 24 5) := (congrFun (congrFun e1009 24) 5).trans (st_k (by decide))
  have : (0 : Int) ≤ (u11 24 5) ∧ (u11 24 5) ≤ 6 := g1008.1 24 5
  have : (u11 24 5) = (u10 24 5) := (congrFun (congrFun e1007 24) 5).trans (st_k (by decide))
  have : (0 : Int) ≤ (u10 24 5) ∧ (u10 24 5) ≤ 6 := g1006.1 24 5
  have : (u10 24 5) = (u9 24 5) := (congrFun (congrFun e1005 24) 5).trans (st_k (by decide))
  have : (0 : Int) ≤ (u9 24 5) ∧ (u9 24 5) ≤ 6 := g1004.1 24 5
  have : (u9 24 5) = (u7 24 5) := g1003.2.1 24 5 rfl
  have : (0 : Int) ≤ (u7 24 5) ∧ (u7 24 5) ≤ 6 := g1001.1 24 5
  have : (u7 24 5) = (u6 24 5) := (congrFun (congrFun e1000 24) 5).trans (st_k (by decide))
  have : (0 : Int) ≤ (u6 24 5) ∧ (u6 24 5) ≤ 6 := g999.1 24 5
  have : (u6 24 5) = (u4 24 5) := g998.2.1 24 5 rfl
  have : (0 : Int) ≤ (u4 24 5) ∧ (u4 24 5) ≤ 6 := g996.1 24 5
  have : (u4 24 5) = (u2 24 5) := g995.2.1 24 5 rfl
  have : (0 : Int) ≤ (u2 24 5) ∧ (u2 24 5) ≤ 6 := g993.1 24 5
  have : (u2 24 5) = (u1 24 5) := (congrFun (congrFun e992 24) 5).trans (st_k (by decide))
  have : (0 : Int) ≤ (u1 24 5) ∧ (u1 24 5) ≤ 6 := g991.1 24 5
  have : (u1 24 5) = (6 : Int) := (congrFun (congrFun e990 24) 5).trans (st_eq _ _ _ _)
  exact ok_some ⟨by omega, g1012, (by omega)⟩
theorem s_M_spread_206 {b : Wd} {rec : Int → Int → Int → Wd → Option (Int × Wd)} {Brec : Int} {k83 : Int → Int → Int → Wd → Option (Int × Wd)} {Bk83 : Int} (hrec : ∀ {w1 : Wd} {v1 v2 v3 : Int}, ((11 : Int) - v1) < Brec → G md_M_spread w1 w1 → ((0 : Int) ≤ v1 ∧ v1 ≤ 10) → ((0 : Int) ≤ v2 ∧ v2 ≤ 1023) → ((-1 : Int) ≤ v3 ∧ v3 ≤ 255) → ((w1 24 5) = (6 : Int)) → OK (rec v1 v2 v3 w1) (fun r u => ((0 : Int) ≤ r ∧ r ≤ 0) ∧ G md_M_spread w1 u ∧ ((u 24 5) = (6 : Int)))) (hk83 : ∀ {w1 : Wd} {v2 v4 v5 : Int}, ((11 : Int) - v5) < Bk83 → G md_M_spread b w1 → ((0 : Int) ≤ v2 ∧ v2 ≤ 1023) → ((0 : Int) ≤ v4 ∧ v4 ≤ 255) → ((0 : Int) ≤ v5 ∧ v5 ≤ 10) → ((w1 24 5) = (6 : Int)) → ((11 : Int) - v5) ≤ Brec → OK (k83 v2 v4 v5 w1) (fun r u => ((0 : Int) ≤ r ∧ r ≤ 0) ∧ G md_M_spread b u ∧ ((u 24 5) = (6 : Int)))) {w : Wd} {v2 v4 v5 : Int} (hG : G md_M_spread b w) (i_v2 : ((0 : Int) ≤ v2 ∧ v2 ≤ 1023)) (i_v4 : ((0 : Int) ≤ v4 ∧ v4 ≤ 255)) (i_v5 : ((0 : Int) ≤ v5 ∧ v5 ≤ 9)) (a_0 : ((w 24 5) = (6 : Int))) (hBrec : ((11 : Int) - v5) ≤ Brec) (hBk83 : ((11 : Int) - v5) ≤ Bk83) : OK (f_M_spread_206 rec k83 v2 v4 v5 w) (fun r u => ((0 : Int) ≤ r ∧ r ≤ 0) ∧ G md_M_spread b u ∧ ((u 24 5) = (6 : Int))) := by
  unfold f_M_spread_206
  have : (0 : Int) ≤ (w 24 5) ∧ (w 24 5) ≤ 6 := hG.1 24 5
  have : (w 24 5) = (b 24 5) := hG.2.1 24 5 rfl
  have := w32_sp ((v5 + (1 : Int)))
  refine ok_let (fun x8 e1013 => ?_)
  have : (1 : Int) ≤ x8 ∧ x8 ≤ 10 := by omega
  exact hk83 (by omega) hG (by omega) (by omega) (by omega) (by omega) (by omega)
theorem s_M_spread_200 {b : Wd} {rec : Int → Int → Int → Wd → Option (Int × Wd)} {Brec : Int} {k83 : Int → Int → Int → Wd → Option (Int × Wd)} {Bk83 : Int} {k135 : Int → Int → Int → Int → Int → Wd → Option (Int × Wd)} {Bk135 : Int} (hrec : ∀ {w1 : Wd} {v1 v2 v3 : Int}, ((11 : Int) - v1) < Brec → G md_M_spread w1 w1 → ((0 : Int) ≤ v1 ∧ v1 ≤ 10) → ((0 : Int) ≤ v2 ∧ v2 ≤ 1023) → ((-1 : Int) ≤ v3 ∧ v3 ≤ 255) → ((w1 24 5) = (6 : Int)) → OK (rec v1 v2 v3 w1) (fun r u => ((0 : Int) ≤ r ∧ r ≤ 0) ∧ G md_M_spread w1 u ∧ ((u 24 5) = (6 : Int)))) (hk83 : ∀ {w1 : Wd} {v2 v4 v5 : Int}, ((11 : Int) - v5) < Bk83 → G md_M_spread b w1 → ((0 : Int) ≤ v2 ∧ v2 ≤ 1023) → ((0 : Int) ≤ v4 ∧ v4 ≤ 255) → ((0 : Int) ≤ v5 ∧ v5 ≤ 10) → ((w1 24 5) = (6 : Int)) → ((11 : Int) - v5) ≤ Brec → OK (k83 v2 v4 v5 w1) (fun r u => ((0 : Int) ≤ r ∧ r ≤ 0) ∧ G md_M_spread b u ∧ ((u 24 5) = (6 : Int)))) (hk135 : ∀ {w1 : Wd} {v2 v4 v5 v6 v7 : Int}, ((11 : Int) - v7) < Bk135 → G md_M_spread b w1 → ((0 : Int) ≤ v2 ∧ v2 ≤ 1023) → ((0 : Int) ≤ v4 ∧ v4 ≤ 255) → ((0 : Int) ≤ v5 ∧ v5 ≤ 9) → ((0 : Int) ≤ v6 ∧ v6 ≤ 1023) → ((0 : Int) ≤ v7 ∧ v7 ≤ 10) → ((w1 24 5) = (6 : Int)) → ((11 : Int) - v5) ≤ Brec → ((11 : Int) - v5) ≤ Bk83 → OK (k135 v2 v4 v5 v6 v7 w1) (fun r u => ((0 : Int) ≤ r ∧ r ≤ 0) ∧ G md_M_spread b u ∧ ((u 24 5) = (6 : Int)))) {w : Wd} {v2 v4 v5 v6 v7 : Int} (hG : G md_M_spread b w) (i_v2 : ((0 : Int) ≤ v2 ∧ v2 ≤ 1023)) (i_v4 : ((0 : Int) ≤ v4 ∧ v4 ≤ 255)) (i_v5 : ((0 : Int) ≤ v5 ∧ v5 ≤ 9)) (i_v6 : ((0 : Int) ≤ v6 ∧ v6 ≤ 1023)) (i_v7 : ((0 : Int) ≤ v7 ∧ v7 ≤ 9)) (a_0 : ((w 24 5) = (6 : Int))) (hBrec : ((11 : Int) - v5) ≤ Brec) (hBk83 : ((11 : Int) - v5) ≤ Bk83) (hBk135 : ((11 : Int) - v7) ≤ Bk135) : OK (f_M_spread_200 rec k83 k135 v2 v4 v5 v6 v7 w) (fun r u => ((0 : Int) ≤ r ∧ r ≤ 0) ∧ G md_M_spread b u ∧ ((u 24 5) = (6 : Int))) := by
  unfold f_M_spread_200
  have : (0 : Int) ≤ (w 24 5) ∧ (w 24 5) ≤ 6 := hG.1 24 5
  have : (w 24 5) = (b 24 5) := hG.2.1 24 5 rfl
  have := w32_sp ((v7 + (1 : Int)))
  refine ok_let (fun x13 e1014 => ?_)
  have : (1 : Int) ≤ x13 ∧ x13 ≤ 10 := by omega
  exact hk135 (by omega) hG (by omega) (by omega) (by omega) (by omega) (by omega) (by omega) (by omega) (by omega)
theorem s_M_spread_135 {b : Wd} {rec : Int → Int → Int → Wd → Option (Int × Wd)} {Brec : Int} {k83 : Int → Int → Int → Wd → Option (Int × Wd)} {Bk83 : Int} (hrec : ∀ {w1 : Wd} {v1 v2 v3 : Int}, ((11 : Int) - v1) < Brec → G md_M_spread w1 w1 → ((0 : Int) ≤ v1 ∧ v1 ≤ 10) → ((0 : Int) ≤ v2 ∧ v2 ≤ 1023) → ((-1 : Int) ≤ v3 ∧ v3 ≤ 255) → ((w1 24 5) = (6 : Int)) → OK (rec v1 v2 v3 w1) (fun r u => ((0 : Int) ≤ r ∧ r ≤ 0) ∧ G md_M_spread w1 u ∧ ((u 24 5) = (6 : Int)))) (hk83 : ∀ {w1 : Wd} {v2 v4 v5 : Int}, ((11 : Int) - v5) < Bk83 → G md_M_spread b w1 → ((0 : Int) ≤ v2 ∧ v2 ≤ 1023) → ((0 : Int) ≤ v4 ∧ v4 ≤ 255) → ((0 : Int) ≤ v5 ∧ v5 ≤ 10) → ((w1 24 5) = (6 : Int)) → ((11 : Int) - v5) ≤ Brec → OK (k83 v2 v4 v5 w1) (fun r u => ((0 : Int) ≤ r ∧ r ≤ 0) ∧ G md_M_spread b u ∧ ((u 24 5) = (6 : Int)))) : ∀ (n : Nat) {w : Wd} {v2 v4 v5 v6 v7 : Int}, ((11 : Int) - v7) < (n : Int) → G md_M_spread b w → ((0 : Int) ≤ v2 ∧ v2 ≤ 1023) → ((0 : Int) ≤ v4 ∧ v4 ≤ 255) → ((0 : Int) ≤ v5 ∧ v5 ≤ 9) → ((0 : Int) ≤ v6 ∧ v6 ≤ 1023) → ((0 : Int) ≤ v7 ∧ v7 ≤ 10) → ((w 24 5) = (6 : Int)) → ((11 : Int) - v5) ≤ Brec → ((11 : Int) - v5) ≤ Bk83 → OK (f_M_spread_135 rec k83 n v2 v4 v5 v6 v7 w) (fun r u => ((0 : Int) ≤ r ∧ r ≤ 0) ∧ G md_M_spread b u ∧ ((u 24 5) = (6 : Int))) := by
  intro n
  induction n with
  | zero =>
    intro w v2 v4 v5 v6 v7 hm hG i_v2 i_v4 i_v5 i_v6 i_v7 a_0 hBrec hBk83
    exfalso
    omega
  | succ n ih =>
    intro w v2 v4 v5 v6 v7 hm hG i_v2 i_v4 i_v5 i_v6 i_v7 a_0 hBrec hBk83
    rw [f_M_spread_135]
    have : (0 : Int) ≤ (w 24 5) ∧ (w 24 5) ≤ 6 := hG.1 24 5
    have : (w 24 5) = (b 24 5) := hG.2.1 24 5 rfl
    refine ok_ite (fun h1015 => ?_) (fun h1016 => ?_)
    · exact s_M_spread_206 hrec hk83 hG (by omega) (by omega) (by omega) (by omega) (by omega) (by omega)
    · refine ok_ite (fun h1017 => ?_) (fun h1018 => ?_)
      · exact s_M_spread_206 hrec hk83 hG (by omega) (by omega) (by omega) (by omega) (by omega) (by omega)
      · have := ishl1_n 9 (i := v5) (j := 9) (m := 512) (by decide) (by decide) (by decide) (by omega)
        have := ior_n 10 (x := v2) (y := (ishl (1 : Int) v5)) (m := 1023) (by decide) (by decide) (by omega) (by omega)
        have := w32_sp ((-v6))
        have := iand_l (x := v6) (y := (w32 (-v6))) (by omega)
        have := ior_n 10 (x := (ior v2 (ishl (1 : Int) v5))) (y := (iand v6 (w32 (-v6)))) (m := 1023) (by decide) (by decide) (by omega) (by omega)
        refine ok_let (fun x9 e1019 => ?_)
        have : (0 : Int) ≤ x9 ∧ x9 ≤ 1023 := by omega
        have := w32_sp ((v6 - (1 : Int)))
        have := iand_l (x := v6) (y := (w32 (v6 - (1 : Int)))) (by omega)
        have := iand_r (x := v6) (y := (w32 (v6 - (1 : Int)))) (by omega)
        refine ok_let (fun x10 e1020 => ?_)
        have : (0 : Int) ≤ x10 ∧ x10 ≤ 1022 := by omega
        have : (0 : Int) ≤ (w 24 8) ∧ (w 24 8) ≤ 1023 := hG.1 24 8
        have : (w 24 8) = (b 24 8) := hG.2.1 24 8 rfl
        have := ior_n 10 (x := (w 24 8)) (y := x9) (m := 1023) (by decide) (by decide) (by omega) (by omega)
        refine ok_call (s_JI_bitCount (g_self hG) (by omega)) (fun r11 u12 q => ?_)
        obtain ⟨i1021, g1022⟩ := q
        have g1023 : G md_M_spread b u12 := g_tr hG g1022 rfl
        have : (0 : Int) ≤ (u12 24 9) ∧ (u12 24 9) ≤ 2147483647 := g1023.1 24 9
        have : (u12 24 9) = (w 24 9) := g1022.2.1 24 9 rfl
        have : (0 : Int) ≤ (w 24 9) ∧ (w 24 9) ≤ 2147483647 := hG.1 24 9
        have : (w 24 9) = (b 24 9) := hG.2.1 24 9 rfl
        refine ok_ite (fun h1024 => ?_) (fun h1025 => ?_)
        · have : (0 : Int) ≤ (u12 24 5) ∧ (u12 24 5) ≤ 6 := g1023.1 24 5
          have : (u12 24 5) = (w 24 5) := g1022.2.1 24 5 rfl
          exact s_M_spread_200 hrec hk83 ih g1023 (by omega) (by omega) (by omega) (by omega) (by omega) (by omega) (by omega) (by omega) (by omega)
        · have := w32_sp ((v5 + (1 : Int)))
          have : (0 : Int) ≤ (u12 24 5) ∧ (u12 24 5) ≤ 6 := g1023.1 24 5
          have : (u12 24 5) = (w 24 5) := g1022.2.1 24 5 rfl
          refine ok_call (hrec (by omega) (g_self g1023) (by omega) (by omega) (by omega) (by omega)) (fun r14 u15 q => ?_)
          obtain ⟨i1026, g1027, p1029⟩ := q
          have g1028 : G md_M_spread b u15 := g_tr g1023 g1027 rfl
          have : (0 : Int) ≤ (u15 24 5) ∧ (u15 24 5) ≤ 6 := g1028.1 24 5
          have : (u15 24 5) = (u12 24 5) := g1027.2.1 24 5 rfl
          exact s_M_spread_200 hrec hk83 ih g1028 (by omega) (by omega) (by omega) (by omega) (by omega) (by omega) (by omega) (by omega) (by omega)
theorem s_M_spread_130 {b : Wd} {rec : Int → Int → Int → Wd → Option (Int × Wd)} {Brec : Int} {k83 : Int → Int → Int → Wd → Option (Int × Wd)} {Bk83 : Int} (hrec : ∀ {w1 : Wd} {v1 v2 v3 : Int}, ((11 : Int) - v1) < Brec → G md_M_spread w1 w1 → ((0 : Int) ≤ v1 ∧ v1 ≤ 10) → ((0 : Int) ≤ v2 ∧ v2 ≤ 1023) → ((-1 : Int) ≤ v3 ∧ v3 ≤ 255) → ((w1 24 5) = (6 : Int)) → OK (rec v1 v2 v3 w1) (fun r u => ((0 : Int) ≤ r ∧ r ≤ 0) ∧ G md_M_spread w1 u ∧ ((u 24 5) = (6 : Int)))) (hk83 : ∀ {w1 : Wd} {v2 v4 v5 : Int}, ((11 : Int) - v5) < Bk83 → G md_M_spread b w1 → ((0 : Int) ≤ v2 ∧ v2 ≤ 1023) → ((0 : Int) ≤ v4 ∧ v4 ≤ 255) → ((0 : Int) ≤ v5 ∧ v5 ≤ 10) → ((w1 24 5) = (6 : Int)) → ((11 : Int) - v5) ≤ Brec → OK (k83 v2 v4 v5 w1) (fun r u => ((0 : Int) ≤ r ∧ r ≤ 0) ∧ G md_M_spread b u ∧ ((u 24 5) = (6 : Int)))) {w : Wd} {v2 v4 v5 s0 : Int} (hG : G md_M_spread b w) (i_v2 : ((0 : Int) ≤ v2 ∧ v2 ≤ 1023)) (i_v4 : ((0 : Int) ≤ v4 ∧ v4 ≤ 255)) (i_v5 : ((0 : Int) ≤ v5 ∧ v5 ≤ 9)) (i_s0 : ((0 : Int) ≤ s0 ∧ s0 ≤ 1023)) (a_0 : ((w 24 5) = (6 : Int))) (hBrec : ((11 : Int) - v5) ≤ Brec) (hBk83 : ((11 : Int) - v5) ≤ Bk83) : OK (f_M_spread_130 rec k83 v2 v4 v5 s0 w) (fun r u => ((0 : Int) ≤ r ∧ r ≤ 0) ∧ G md_M_spread b u ∧ ((u 24 5) = (6 : Int))) := by
  unfold f_M_spread_130
  have : (0 : Int) ≤ (w 24 5) ∧ (w 24 5) ≤ 6 := hG.1 24 5
  have : (w 24 5) = (b 24 5) := hG.2.1 24 5 rfl
  exact s_M_spread_135 hrec hk83 FU (by have := eqFU; omega) hG (by omega) (by omega) (by omega) (by omega) (by omega) (by omega) (by omega) (by omega)
theorem s_M_spread_83 {b : Wd} {rec : Int → Int → Int → Wd → Option (Int × Wd)} {Brec : Int} (hrec : ∀ {w1 : Wd} {v1 v2 v3 : Int}, ((11 : Int) - v1) < Brec → G md_M_spread w1 w1 → ((0 : Int) ≤ v1 ∧ v1 ≤ 10) → ((0 : Int) ≤ v2 ∧ v2 ≤ 1023) → ((-1 : Int) ≤ v3 ∧ v3 ≤ 255) → ((w1 24 5) = (6 : Int)) → OK (rec v1 v2 v3 w1) (fun r u => ((0 : Int) ≤ r ∧ r ≤ 0) ∧ G md_M_spread w1 u ∧ ((u 24 5) = (6 : Int)))) : ∀ (n : Nat) {w : Wd} {v2 v4 v5 : Int}, ((11 : Int) - v5) < (n : Int) → G md_M_spread b w → ((0 : Int) ≤ v2 ∧ v2 ≤ 1023) → ((0 : Int) ≤ v4 ∧ v4 ≤ 255) → ((0 : Int) ≤ v5 ∧ v5 ≤ 10) → ((w 24 5) = (6 : Int)) → ((11 : Int) - v5) ≤ Brec → OK (f_M_spread_83 rec n v2 v4 v5 w) (fun r u => ((0 : Int) ≤ r ∧ r ≤ 0) ∧ G md_M_spread b u ∧ ((u 24 5) = (6 : Int))) := by
  intro n
  induction n with
  | zero =>
    intro w v2 v4 v5 hm hG i_v2 i_v4 i_v5 a_0 hBrec
    exfalso
    omega
  | succ n ih =>
    intro w v2 v4 v5 hm hG i_v2 i_v4 i_v5 a_0 hBrec
    rw [f_M_spread_83]
    have : (0 : Int) ≤ (w 24 5) ∧ (w 24 5) ≤ 6 := hG.1 24 5
    have : (w 24 5) = (b 24 5) := hG.2.1 24 5 rfl
    refine ok_gd (by omega) ?_
    have : (0 : Int) ≤ (w 5 3) ∧ (w 5 3) ≤ 10 := hG.1 5 3
    have : (w 5 3) = (b 5 3) := hG.2.1 5 3 rfl
    refine ok_ite (fun h1030 => ?_) (fun h1031 => ?_)
    · exact ok_some ⟨by omega, hG, (by omega)⟩
    · refine ok_jif (by omega) ?_
      refine ok_jif (by omega) ?_
      have : (0 : Int) ≤ (w 24 6) ∧ (w 24 6) ≤ 1023 := hG.1 24 6
      have : (w 24 6) = (b 24 6) := hG.2.1 24 6 rfl
      have := ishr_nn (x := (w 24 6)) (y := v5) (by omega)
      have := iand_l (x := (ishr (w 24 6) v5)) (y := (1 : Int)) (by omega)
      have := iand_r (x := (ishr (w 24 6) v5)) (y := (1 : Int)) (by omega)
      refine ok_jite (fun h1033 => ?_) (fun h1034 => ?_)
      · refine ok_jsome ?_
        refine ok_it (by decide) ?_
        exact s_M_spread_130 hrec ih hG (by omega) (by omega) (by omega) (by omega) (by omega) (by omega) (by omega)
      · refine ok_jsome ?_
        refine ok_if (by decide) ?_
        refine ok_gd (by omega) ?_
        refine ok_gd (by omega) ?_
        have : (-2147483648 : Int) ≤ (w 7 (v5).toNat) ∧ (w 7 (v5).toNat) ≤ 2147483647 := hG.1 7 (v5).toNat
        have : (0 : Int) ≤ (w 24 7) ∧ (w 24 7) ≤ 1023 := hG.1 24 7
        have : (w 24 7) = (b 24 7) := hG.2.1 24 7 rfl
        have := iand_r (x := (w 7 (v5).toNat)) (y := (w 24 7)) (by omega)
        have := ixor_m1 (x := v2) (by omega)
        have := iand_l (x := (iand (w 7 (v5).toNat) (w 24 7))) (y := (ixor v2 (-1 : Int))) (by omega)
        exact s_M_spread_130 hrec ih hG (by omega) (by omega) (by omega) (by omega) (by omega) (by omega) (by omega)
theorem s_M_spread_b {b : Wd} {rec : Int → Int → Int → Wd → Option (Int × Wd)} {Brec : Int} (hrec : ∀ {w1 : Wd} {v1 v2 v3 : Int}, ((11 : Int) - v1) < Brec → G md_M_spread w1 w1 → ((0 : Int) ≤ v1 ∧ v1 ≤ 10) → ((0 : Int) ≤ v2 ∧ v2 ≤ 1023) → ((-1 : Int) ≤ v3 ∧ v3 ≤ 255) → ((w1 24 5) = (6 : Int)) → OK (rec v1 v2 v3 w1) (fun r u => ((0 : Int) ≤ r ∧ r ≤ 0) ∧ G md_M_spread w1 u ∧ ((u 24 5) = (6 : Int)))) {w : Wd} {v1 v2 v3 : Int} (hG : G md_M_spread b w) (i_v1 : ((0 : Int) ≤ v1 ∧ v1 ≤ 10)) (i_v2 : ((0 : Int) ≤ v2 ∧ v2 ≤ 1023)) (i_v3 : ((-1 : Int) ≤ v3 ∧ v3 ≤ 255)) (a_0 : ((w 24 5) = (6 : Int))) (hBrec : ((11 : Int) - v1) ≤ Brec) : OK (f_M_spread_b rec v1 v2 v3 w) (fun r u => ((0 : Int) ≤ r ∧ r ≤ 0) ∧ G md_M_spread b u ∧ ((u 24 5) = (6 : Int))) := by
  unfold f_M_spread_b
  have : (0 : Int) ≤ (w 24 5) ∧ (w 24 5) ≤ 6 := hG.1 24 5
  have : (w 24 5) = (b 24 5) := hG.2.1 24 5 rfl
  refine ok_if (by omega) ?_
  have : (0 : Int) ≤ (w 24 3) ∧ (w 24 3) ≤ 256 := hG.1 24 3
  refine ok_ite (fun h1035 => ?_) (fun h1036 => ?_)
  · exact ok_some ⟨by omega, hG, (by omega)⟩
  · have := iand_l (x := v2) (y := (-1024 : Int)) (by omega)
    refine ok_ite (fun h1037 => ?_) (fun h1038 => ?_)
    · refine ok_gd (by omega) ?_
      have : (-2147483648 : Int) ≤ (w 27 (v2).toNat) ∧ (w 27 (v2).toNat) ≤ 2147483647 := hG.1 27 (v2).toNat
      have : (-2147483648 : Int) ≤ (w 24 4) ∧ (w 24 4) ≤ 2147483647 := hG.1 24 4
      have : (w 24 4) = (b 24 4) := hG.2.1 24 4 rfl
      refine ok_ite (fun h1039 => ?_) (fun h1040 => ?_)
      · exact ok_some ⟨by omega, hG, (by omega)⟩
      · refine ok_let (fun x1 e1041 => ?_)
        have : (0 : Int) ≤ x1 ∧ x1 ≤ 255 := by omega
        refine ok_gd (by omega) ?_
        refine ok_lw (fun u2 e1042 => ?_)
        have g1043 : G md_M_spread b u2 := g_st hG e1042 rfl rfl (show (-2147483648 : Int) ≤ (w 24 4) ∧ (w 24 4) ≤ 2147483647 by omega)
        refine ok_gd (by omega) ?_
        refine ok_lw (fun u3 e1044 => ?_)
        have g1045 : G md_M_spread b u3 := g_st g1043 e1044 rfl rfl (show (0 : Int) ≤ v2 ∧ v2 ≤ 1023 by omega)
        refine ok_gd (by omega) ?_
        refine ok_lw (fun u4 e1046 => ?_)
        have g1047 : G md_M_spread b u4 := g_st g1045 e1046 rfl rfl (show (-1 : Int) ≤ v3 ∧ v3 ≤ 255 by omega)
        have : (0 : Int) ≤ (u4 24 3) ∧ (u4 24 3) ≤ 256 := g1047.1 24 3
        have : (u4 24 3) = (u3 24 3) := (congrFun (congrFun e1046 24) 3).trans (st_c (by decide))
        have : (0 : Int) ≤ (u3 24 3) ∧ (u3 24 3) ≤ 256 := g1045.1 24 3
        have : (u3 24 3) = (u2 24 3) := (congrFun (congrFun e1044 24) 3).trans (st_c (by decide))
        have : (0 : Int) ≤ (u2 24 3) ∧ (u2 24 3) ≤ 256 := g1043.1 24 3
        have : (u2 24 3) = (w 24 3) := (congrFun (congrFun e1042 24) 3).trans (st_c (by decide))
        have := w32_sp (((u4 24 3) + (1 : Int)))
        refine ok_lw (fun u5 e1048 => ?_)
        have g1049 : G md_M_spread b u5 := g_st g1047 e1048 rfl rfl (show (0 : Int) ≤ (w32 ((u4 24 3) + (1 : Int))) ∧ (w32 ((u4 24 3) + (1 : Int))) ≤ 256 by omega)
        have : (0 : Int) ≤ (u5 24 5) ∧ (u5 24 5) ≤ 6 := g1049.1 24 5
        have : (u5 24 5) = (u4 24 5) := (congrFun (congrFun e1048 24) 5).trans (st_k (by decide))
        have : (0 : Int) ≤ (u4 24 5) ∧ (u4 24 5) ≤ 6 := g1047.1 24 5
        have : (u4 24 5) = (u3 24 5) := (congrFun (congrFun e1046 24) 5).trans (st_c (by decide))
        have : (0 : Int) ≤ (u3 24 5) ∧ (u3 24 5) ≤ 6 := g1045.1 24 5
        have : (u3 24 5) = (u2 24 5) := (congrFun (congrFun e1044 24) 5).trans (st_c (by decide))
        have : (0 : Int) ≤ (u2 24 5) ∧ (u2 24 5) ≤ 6 := g1043.1 24 5
        have : (u2 24 5) = (w 24 5) := (congrFun (congrFun e1042 24) 5).trans (st_c (by decide))
        exact s_M_spread_83 hrec FU (by have := eqFU; omega) g1049 (by omega) (by omega) (by omega) (by omega) (by omega)
    · exact ok_some ⟨by omega, hG, (by omega)⟩
theorem s_M_spread : ∀ (n : Nat) {w : Wd} {v1 v2 v3 : Int}, ((11 : Int) - v1) < (n : Int) → G md_M_spread w w → ((0 : Int) ≤ v1 ∧ v1 ≤ 10) → ((0 : Int) ≤ v2 ∧ v2 ≤ 1023) → ((-1 : Int) ≤ v3 ∧ v3 ≤ 255) → ((w 24 5) = (6 : Int)) → OK (f_M_spread n v1 v2 v3 w) (fun r u => ((0 : Int) ≤ r ∧ r ≤ 0) ∧ G md_M_spread w u ∧ ((u 24 5) = (6 : Int))) := by
  intro n
  induction n with
  | zero =>
    intro w v1 v2 v3 hm hG i_v1 i_v2 i_v3 a_0
    exfalso
    omega
  | succ n ih =>
    intro w v1 v2 v3 hm hG i_v1 i_v2 i_v3 a_0
    rw [f_M_spread]
    have : (0 : Int) ≤ (w 24 5) ∧ (w 24 5) ≤ 6 := hG.1 24 5
    exact s_M_spread_b ih hG (by omega) (by omega) (by omega) (by omega) (by omega)
theorem s_M_gather {w : Wd} {v2 v3 : Int} (hG : G md_M_gather w w) (i_v2 : ((-2147483648 : Int) ≤ v2 ∧ v2 ≤ 2147483647)) (i_v3 : ((0 : Int) ≤ v3 ∧ v3 ≤ 2147483647)) : OK (f_M_gather v2 v3 w) (fun r u => ((0 : Int) ≤ r ∧ r ≤ 0) ∧ G md_M_gather w u) := by
  unfold f_M_gather
  refine ok_call (s_O_guests (g_self hG) (by omega)) (fun r1 u2 q => ?_)
  obtain ⟨i1050, g1051⟩ := q
  have g1052 : G md_M_gather w u2 := g_tr hG g1051 rfl
  refine ok_call (s_M_prepare (g_self g1052) (by omega) (by omega) (by omega)) (fun r3 u4 q => ?_)
  obtain ⟨i1053, g1054, p1056⟩ := q
  have g1055 : G md_M_gather w u4 := g_tr g1052 g1054 rfl
  have : (0 : Int) ≤ (u4 24 5) ∧ (u4 24 5) ≤ 6 := g1055.1 24 5
  refine ok_call (s_M_spread 16 (by omega) (g_self g1055) (by omega) (by omega) (by omega) (by omega)) (fun r5 u6 q => ?_)
  obtain ⟨i1057, g1058, p1060⟩ := q
  have g1059 : G md_M_gather w u6 := g_tr g1055 g1058 rfl
  have : (0 : Int) ≤ (u6 24 5) ∧ (u6 24 5) ≤ 6 := g1059.1 24 5
  have : (u6 24 5) = (u4 24 5) := g1058.2.1 24 5 rfl
  exact ok_some ⟨by omega, g1059⟩
theorem s_M_moversOf {w : Wd} {v1 : Int} (hG : G md_M_moversOf w w) (i_v1 : ((-1 : Int) ≤ v1 ∧ v1 ≤ 255)) : OK (f_M_moversOf v1 w) (fun r u => ((0 : Int) ≤ r ∧ r ≤ 1023) ∧ G md_M_moversOf w u) := by
  unfold f_M_moversOf
  refine ok_ite (fun h1061 => ?_) (fun h1062 => ?_)
  · exact ok_some ⟨by omega, hG⟩
  · have : (0 : Int) ≤ (w 24 3) ∧ (w 24 3) ≤ 256 := hG.1 24 3
    refine ok_ite (fun h1063 => ?_) (fun h1064 => ?_)
    · exact ok_some ⟨by omega, hG⟩
    · refine ok_gd (by omega) ?_
      have : (0 : Int) ≤ (w 25 (v1).toNat) ∧ (w 25 (v1).toNat) ≤ 1023 := hG.1 25 (v1).toNat
      exact ok_some ⟨by omega, hG⟩
theorem s_E_can_29 {b : Wd} : ∀ (n : Nat) {w : Wd} {v1 v2 : Int}, ((257 : Int) - v2) < (n : Int) → G md_E_can b w → ((0 : Int) ≤ v1 ∧ v1 ≤ 1023) → ((0 : Int) ≤ v2 ∧ v2 ≤ 256) → OK (f_E_can_29 n v1 v2 w) (fun r u => ((0 : Int) ≤ r ∧ r ≤ 1023) ∧ G md_E_can b u) := by
  intro n
  induction n with
  | zero =>
    intro w v1 v2 hm hG i_v1 i_v2
    exfalso
    omega
  | succ n ih =>
    intro w v1 v2 hm hG i_v1 i_v2
    rw [f_E_can_29]
    have : (0 : Int) ≤ (w 24 3) ∧ (w 24 3) ≤ 256 := hG.1 24 3
    refine ok_ite (fun h1065 => ?_) (fun h1066 => ?_)
    · refine ok_call (s_F_strangers (g_self hG)) (fun r3 u4 q => ?_)
      obtain ⟨i1067, g1068⟩ := q
      have g1069 : G md_E_can b u4 := g_tr hG g1068 rfl
      have := iand_l (x := v1) (y := r3) (by omega)
      have := iand_r (x := v1) (y := r3) (by omega)
      refine ok_call (s_N_tell1 (g_self g1069) (by omega)) (fun r5 u6 q => ?_)
      obtain ⟨i1070, g1071⟩ := q
      have g1072 : G md_E_can b u6 := g_tr g1069 g1071 rfl
      refine ok_call (s_F_guests (g_self g1072)) (fun r7 u8 q => ?_)
      obtain ⟨i1073, g1074⟩ := q
      have g1075 : G md_E_can b u8 := g_tr g1072 g1074 rfl
      have := iand_l (x := v1) (y := r7) (by omega)
      have := iand_r (x := v1) (y := r7) (by omega)
      exact ok_some ⟨by omega, g1075⟩
    · refine ok_call (s_M_moversOf (g_self hG) (by omega)) (fun r9 u10 q => ?_)
      obtain ⟨i1076, g1077⟩ := q
      have g1078 : G md_E_can b u10 := g_tr hG g1077 rfl
      have := ior_n 10 (x := v1) (y := r9) (m := 1023) (by decide) (by decide) (by omega) (by omega)
      refine ok_let (fun x11 e1079 => ?_)
      have : (0 : Int) ≤ x11 ∧ x11 ≤ 1023 := by omega
      have := w32_sp ((v2 + (1 : Int)))
      refine ok_let (fun x12 e1080 => ?_)
      have : (1 : Int) ≤ x12 ∧ x12 ≤ 256 := by omega
      exact ih (by omega) g1078 (by omega) (by omega)
theorem s_E_can {w : Wd} (hG : G md_E_can w w) : OK (f_E_can w) (fun r u => ((0 : Int) ≤ r ∧ r ≤ 1023) ∧ G md_E_can w u) := by
  unfold f_E_can
  have : (-2147483648 : Int) ≤ (w 5 4) ∧ (w 5 4) ≤ 2147483647 := hG.1 5 4
  have : (0 : Int) ≤ (w 5 8) ∧ (w 5 8) ≤ 2147483647 := hG.1 5 8
  refine ok_call (s_M_gather (g_self hG) (by omega) (by omega)) (fun r1 u2 q => ?_)
  obtain ⟨i1081, g1082⟩ := q
  have g1083 : G md_E_can w u2 := g_tr hG g1082 rfl
  exact s_E_can_29 FU (by have := eqFU; omega) g1083 (by omega) (by omega)
theorem s_P_whom_2 {b : Wd} : ∀ (n : Nat) {w : Wd} {v1 v2 : Int}, ((11 : Int) - v2) < (n : Int) → G md_P_whom b w → ((0 : Int) ≤ v1 ∧ v1 ≤ 9) → ((0 : Int) ≤ v2 ∧ v2 ≤ 10) → OK (f_P_whom_2 n v1 v2 w) (fun r u => ((-99 : Int) ≤ r ∧ r ≤ 65438) ∧ G md_P_whom b u) := by
  intro n
  induction n with
  | zero =>
    intro w v1 v2 hm hG i_v1 i_v2
    exfalso
    omega
  | succ n ih =>
    intro w v1 v2 hm hG i_v1 i_v2
    rw [f_P_whom_2]
    have : (0 : Int) ≤ (w 12 2) ∧ (w 12 2) ≤ 10 := hG.1 12 2
    have : (w 12 2) = (b 12 2) := hG.2.1 12 2 rfl
    refine ok_ite (fun h1084 => ?_) (fun h1085 => ?_)
    · exact ok_some ⟨by omega, hG⟩
    · refine ok_gd (by omega) ?_
      have : (-99 : Int) ≤ (w 13 (v2).toNat) ∧ (w 13 (v2).toNat) ≤ 65438 := hG.1 13 (v2).toNat
      refine ok_ite (fun h1086 => ?_) (fun h1087 => ?_)
      · refine ok_gd (by omega) ?_
        have : (-99 : Int) ≤ (w 14 (v2).toNat) ∧ (w 14 (v2).toNat) ≤ 65438 := hG.1 14 (v2).toNat
        exact ok_some ⟨by omega, hG⟩
      · have := w32_sp ((v2 + (1 : Int)))
        refine ok_let (fun x1 e1088 => ?_)
        have : (1 : Int) ≤ x1 ∧ x1 ≤ 10 := by omega
        exact ih (by omega) hG (by omega) (by omega)
theorem s_P_whom {w : Wd} {v1 : Int} (hG : G md_P_whom w w) (i_v1 : ((0 : Int) ≤ v1 ∧ v1 ≤ 9)) : OK (f_P_whom v1 w) (fun r u => ((-99 : Int) ≤ r ∧ r ≤ 65438) ∧ G md_P_whom w u) := by
  unfold f_P_whom
  exact s_P_whom_2 FU (by have := eqFU; omega) hG (by omega) (by omega)
theorem s_E_picks {w : Wd} {v1 : Int} (hG : G md_E_picks w w) (i_v1 : ((-2147483648 : Int) ≤ v1 ∧ v1 ≤ 2147483647)) : OK (f_E_picks v1 w) (fun r u => ((-99 : Int) ≤ r ∧ r ≤ 65438) ∧ G md_E_picks w u) := by
  unfold f_E_picks
  refine ok_call (s_F_guests (g_self hG)) (fun r1 u2 q => ?_)
  obtain ⟨i1089, g1090⟩ := q
  have g1091 : G md_E_picks w u2 := g_tr hG g1090 rfl
  refine ok_jite (fun h1093 => ?_) (fun h1094 => ?_)
  · refine ok_jsome ?_
    refine ok_it (by decide) ?_
    exact ok_some ⟨by omega, g1091⟩
  · refine ok_jite (fun h1095 => ?_) (fun h1096 => ?_)
    · refine ok_jsome ?_
      refine ok_it (by decide) ?_
      exact ok_some ⟨by omega, g1091⟩
    · have := ishr_nn (x := r1) (y := v1) (by omega)
      have := iand_l (x := (ishr r1 v1)) (y := (1 : Int)) (by omega)
      have := iand_r (x := (ishr r1 v1)) (y := (1 : Int)) (by omega)
      refine ok_jite (fun h1097 => ?_) (fun h1098 => ?_)
      · refine ok_jsome ?_
        refine ok_it (by decide) ?_
        exact ok_some ⟨by omega, g1091⟩
      · refine ok_jsome ?_
        refine ok_if (by decide) ?_
        have : (0 : Int) ≤ (u2 15 3) ∧ (u2 15 3) ≤ 60 := g1091.1 15 3
        have : (u2 15 3) = (w 15 3) := g1090.2.1 15 3 rfl
        have : (0 : Int) ≤ (w 15 3) ∧ (w 15 3) ≤ 60 := hG.1 15 3
        refine ok_call (s_P_follow (g_self g1091) (by omega)) (fun r5 u6 q => ?_)
        obtain ⟨i1099, g1100⟩ := q
        have g1101 : G md_E_picks w u6 := g_tr g1091 g1100 rfl
        refine ok_call (s_P_whom (g_self g1101) (by omega)) (fun r7 u8 q => ?_)
        obtain ⟨i1102, g1103⟩ := q
        have g1104 : G md_E_picks w u8 := g_tr g1101 g1103 rfl
        refine ok_ite (fun h1105 => ?_) (fun h1106 => ?_)
        · exact ok_some ⟨by omega, g1104⟩
        · exact ok_some ⟨by omega, g1104⟩
theorem s_E_largestWeek_62 {b : Wd} {k24 : Int → Int → Wd → Option (Int × Wd)} {Bk24 : Int} (hk24 : ∀ {w1 : Wd} {v1 v2 : Int}, ((257 : Int) - v2) < Bk24 → G md_E_largestWeek b w1 → ((0 : Int) ≤ v1 ∧ v1 ≤ 255) → ((1 : Int) ≤ v2 ∧ v2 ≤ 256) → OK (k24 v1 v2 w1) (fun r u => ((0 : Int) ≤ r ∧ r ≤ 255) ∧ G md_E_largestWeek b u)) {w : Wd} {v1 v2 : Int} (hG : G md_E_largestWeek b w) (i_v1 : ((0 : Int) ≤ v1 ∧ v1 ≤ 255)) (i_v2 : ((1 : Int) ≤ v2 ∧ v2 ≤ 255)) (hBk24 : ((257 : Int) - v2) ≤ Bk24) : OK (f_E_largestWeek_62 k24 v1 v2 w) (fun r u => ((0 : Int) ≤ r ∧ r ≤ 255) ∧ G md_E_largestWeek b u) := by
  unfold f_E_largestWeek_62
  have := w32_sp ((v2 + (1 : Int)))
  refine ok_let (fun x11 e1107 => ?_)
  have : (2 : Int) ≤ x11 ∧ x11 ≤ 256 := by omega
  exact hk24 (by omega) hG (by omega) (by omega)
theorem s_E_largestWeek_24 {b : Wd} : ∀ (n : Nat) {w : Wd} {v1 v2 : Int}, ((257 : Int) - v2) < (n : Int) → G md_E_largestWeek b w → ((0 : Int) ≤ v1 ∧ v1 ≤ 255) → ((1 : Int) ≤ v2 ∧ v2 ≤ 256) → OK (f_E_largestWeek_24 n v1 v2 w) (fun r u => ((0 : Int) ≤ r ∧ r ≤ 255) ∧ G md_E_largestWeek b u) := by
  intro n
  induction n with
  | zero =>
    intro w v1 v2 hm hG i_v1 i_v2
    exfalso
    omega
  | succ n ih =>
    intro w v1 v2 hm hG i_v1 i_v2
    rw [f_E_largestWeek_24]
    have : (0 : Int) ≤ (w 24 3) ∧ (w 24 3) ≤ 256 := hG.1 24 3
    refine ok_ite (fun h1108 => ?_) (fun h1109 => ?_)
    · exact ok_some ⟨by omega, hG⟩
    · refine ok_call (s_M_moversOf (g_self hG) (by omega)) (fun r3 u4 q => ?_)
      obtain ⟨i1110, g1111⟩ := q
      have g1112 : G md_E_largestWeek b u4 := g_tr hG g1111 rfl
      refine ok_call (s_JI_bitCount (g_self g1112) (by omega)) (fun r5 u6 q => ?_)
      obtain ⟨i1113, g1114⟩ := q
      have g1115 : G md_E_largestWeek b u6 := g_tr g1112 g1114 rfl
      refine ok_call (s_M_moversOf (g_self g1115) (by omega)) (fun r7 u8 q => ?_)
      obtain ⟨i1116, g1117⟩ := q
      have g1118 : G md_E_largestWeek b u8 := g_tr g1115 g1117 rfl
      refine ok_call (s_JI_bitCount (g_self g1118) (by omega)) (fun r9 u10 q => ?_)
      obtain ⟨i1119, g1120⟩ := q
      have g1121 : G md_E_largestWeek b u10 := g_tr g1118 g1120 rfl
      refine ok_ite (fun h1122 => ?_) (fun h1123 => ?_)
      · exact s_E_largestWeek_62 ih g1121 (by omega) (by omega) (by omega)
      · exact s_E_largestWeek_62 ih g1121 (by omega) (by omega) (by omega)
theorem s_E_largestWeek {w : Wd} (hG : G md_E_largestWeek w w) : OK (f_E_largestWeek w) (fun r u => ((0 : Int) ≤ r ∧ r ≤ 255) ∧ G md_E_largestWeek w u) := by
  unfold f_E_largestWeek
  have : (-2147483648 : Int) ≤ (w 5 4) ∧ (w 5 4) ≤ 2147483647 := hG.1 5 4
  refine ok_call (s_M_gather (g_self hG) (by omega) (by omega)) (fun r1 u2 q => ?_)
  obtain ⟨i1124, g1125⟩ := q
  have g1126 : G md_E_largestWeek w u2 := g_tr hG g1125 rfl
  exact s_E_largestWeek_24 FU (by have := eqFU; omega) g1126 (by omega) (by omega)
theorem s_E_lowest {w : Wd} {v0 : Int} (hG : G md_E_lowest w w) (i_v0 : ((0 : Int) ≤ v0 ∧ v0 ≤ 1023)) : OK (f_E_lowest v0 w) (fun r u => ((-1 : Int) ≤ r ∧ r ≤ 63) ∧ G md_E_lowest w u) := by
  unfold f_E_lowest
  refine ok_ite (fun h1127 => ?_) (fun h1128 => ?_)
  · exact ok_some ⟨by omega, hG⟩
  · have := w32_sp ((-v0))
    have := iand_l (x := v0) (y := (w32 (-v0))) (by omega)
    have := w32_sp (((iand v0 (w32 (-v0))) - (1 : Int)))
    refine ok_call (s_JI_bitCount (g_self hG) (by omega)) (fun r1 u2 q => ?_)
    obtain ⟨i1129, g1130⟩ := q
    have g1131 : G md_E_lowest w u2 := g_tr hG g1130 rfl
    exact ok_some ⟨by omega, g1131⟩
theorem s_N_putFirst_12 {b : Wd} : ∀ (n : Nat) {w : Wd} {v1 v2 : Int}, (v2 + (2 : Int)) < (n : Int) → G md_N_putFirst b w → ((-41 : Int) ≤ v1 ∧ v1 ≤ 1000) → ((-1 : Int) ≤ v2 ∧ v2 ≤ 19) → OK (f_N_putFirst_12 n v1 v2 w) (fun r u => ((0 : Int) ≤ r ∧ r ≤ 0) ∧ G md_N_putFirst b u) := by
  intro n
  induction n with
  | zero =>
    intro w v1 v2 hm hG i_v1 i_v2
    exfalso
    omega
  | succ n ih =>
    intro w v1 v2 hm hG i_v1 i_v2
    rw [f_N_putFirst_12]
    refine ok_ite (fun h1132 => ?_) (fun h1133 => ?_)
    · exact ok_some ⟨by omega, hG⟩
    · have := w32_sp ((v2 - (1 : Int)))
      refine ok_gd (by omega) ?_
      refine ok_gd (by omega) ?_
      have : (-2147483648 : Int) ≤ (w 4 ((w32 (v2 - (1 : Int)))).toNat) ∧ (w 4 ((w32 (v2 - (1 : Int)))).toNat) ≤ 2147483647 := hG.1 4 ((w32 (v2 - (1 : Int)))).toNat
      refine ok_lw (fun u4 e1134 => ?_)
      have g1135 : G md_N_putFirst b u4 := g_st hG e1134 rfl rfl (show (-2147483648 : Int) ≤ (w 4 ((w32 (v2 - (1 : Int)))).toNat) ∧ (w 4 ((w32 (v2 - (1 : Int)))).toNat) ≤ 2147483647 by omega)
      refine ok_gd (by omega) ?_
      refine ok_lw (fun u5 e1136 => ?_)
      have g1137 : G md_N_putFirst b u5 := g_st g1135 e1136 rfl rfl (show (-2147483648 : Int) ≤ v1 ∧ v1 ≤ 2147483647 by omega)
      have := w32_sp ((v2 + (-1 : Int)))
      refine ok_let (fun x6 e1138 => ?_)
      have : (0 : Int) ≤ x6 ∧ x6 ≤ 18 := by omega
      exact ih (by omega) g1137 (by omega) (by omega)
theorem s_N_putFirst {w : Wd} {v1 : Int} (hG : G md_N_putFirst w w) (i_v1 : ((-41 : Int) ≤ v1 ∧ v1 ≤ 1000)) : OK (f_N_putFirst v1 w) (fun r u => ((0 : Int) ≤ r ∧ r ≤ 0) ∧ G md_N_putFirst w u) := by
  unfold f_N_putFirst
  refine ok_call (s_N_put (g_self hG) (by omega)) (fun r1 u2 q => ?_)
  obtain ⟨i1139, g1140⟩ := q
  have g1141 : G md_N_putFirst w u2 := g_tr hG g1140 rfl
  have : (0 : Int) ≤ (u2 3 1) ∧ (u2 3 1) ≤ 20 := g1141.1 3 1
  have := w32_sp (((u2 3 1) - (1 : Int)))
  refine ok_let (fun x3 e1142 => ?_)
  have : (-1 : Int) ≤ x3 ∧ x3 ≤ 19 := by omega
  exact s_N_putFirst_12 FU (by have := eqFU; omega) g1141 (by omega) (by omega)
theorem s_M_tellPairs_9 {b : Wd} : ∀ (n : Nat) {w : Wd} {v3 v4 : Int}, ((11 : Int) - v4) < (n : Int) → G md_M_tellPairs b w → ((-1 : Int) ≤ v3 ∧ v3 ≤ 255) → ((0 : Int) ≤ v4 ∧ v4 ≤ 10) → OK (f_M_tellPairs_9 n v3 v4 w) (fun r u => ((0 : Int) ≤ r ∧ r ≤ 0) ∧ G md_M_tellPairs b u) := by
  intro n
  induction n with
  | zero =>
    intro w v3 v4 hm hG i_v3 i_v4
    exfalso
    omega
  | succ n ih =>
    intro w v3 v4 hm hG i_v3 i_v4
    rw [f_M_tellPairs_9]
    refine ok_ite (fun h1143 => ?_) (fun h1144 => ?_)
    · exact ok_some ⟨by omega, hG⟩
    · refine ok_ite (fun h1145 => ?_) (fun h1146 => ?_)
      · exact ok_some ⟨by omega, hG⟩
      · have : (0 : Int) ≤ (w 24 3) ∧ (w 24 3) ≤ 256 := hG.1 24 3
        have : (w 24 3) = (b 24 3) := hG.2.1 24 3 rfl
        refine ok_ite (fun h1147 => ?_) (fun h1148 => ?_)
        · exact ok_some ⟨by omega, hG⟩
        · refine ok_gd (by omega) ?_
          refine ok_gd (by omega) ?_
          have : (-1 : Int) ≤ (w 26 (v3).toNat) ∧ (w 26 (v3).toNat) ≤ 255 := hG.1 26 (v3).toNat
          refine ok_call (s_M_moversOf (g_self hG) (by omega)) (fun r3 u4 q => ?_)
          obtain ⟨i1149, g1150⟩ := q
          have g1151 : G md_M_tellPairs b u4 := g_tr hG g1150 rfl
          have : (0 : Int) ≤ (w 25 (v3).toNat) ∧ (w 25 (v3).toNat) ≤ 1023 := hG.1 25 (v3).toNat
          have := ixor_m1 (x := r3) (by omega)
          have := iand_l (x := (w 25 (v3).toNat)) (y := (ixor r3 (-1 : Int))) (by omega)
          refine ok_let (fun x5 e1152 => ?_)
          have : (0 : Int) ≤ x5 ∧ x5 ≤ 1023 := by omega
          have : (0 : Int) ≤ (u4 24 6) ∧ (u4 24 6) ≤ 1023 := g1151.1 24 6
          have : (u4 24 6) = (w 24 6) := g1150.2.1 24 6 rfl
          have : (0 : Int) ≤ (w 24 6) ∧ (w 24 6) ≤ 1023 := hG.1 24 6
          have : (w 24 6) = (b 24 6) := hG.2.1 24 6 rfl
          have := iand_l (x := x5) (y := (u4 24 6)) (by omega)
          have := iand_r (x := x5) (y := (u4 24 6)) (by omega)
          refine ok_call (s_E_lowest (g_self g1151) (by omega)) (fun r6 u7 q => ?_)
          obtain ⟨i1153, g1154⟩ := q
          have g1155 : G md_M_tellPairs b u7 := g_tr g1151 g1154 rfl
          have : (0 : Int) ≤ (u7 24 7) ∧ (u7 24 7) ≤ 1023 := g1155.1 24 7
          have : (u7 24 7) = (u4 24 7) := g1154.2.1 24 7 rfl
          have : (0 : Int) ≤ (u4 24 7) ∧ (u4 24 7) ≤ 1023 := g1151.1 24 7
          have : (u4 24 7) = (w 24 7) := g1150.2.1 24 7 rfl
          have : (0 : Int) ≤ (w 24 7) ∧ (w 24 7) ≤ 1023 := hG.1 24 7
          have : (w 24 7) = (b 24 7) := hG.2.1 24 7 rfl
          have := iand_l (x := x5) (y := (u7 24 7)) (by omega)
          have := iand_r (x := x5) (y := (u7 24 7)) (by omega)
          refine ok_call (s_E_lowest (g_self g1155) (by omega)) (fun r8 u9 q => ?_)
          obtain ⟨i1156, g1157⟩ := q
          have g1158 : G md_M_tellPairs b u9 := g_tr g1155 g1157 rfl
          have := w32_sp (((10 : Int) * r6))
          have := w32_sp (((w32 ((10 : Int) * r6)) + r8))
          refine ok_call (s_N_putFirst (g_self g1158) (by omega)) (fun r10 u11 q => ?_)
          obtain ⟨i1159, g1160⟩ := q
          have g1161 : G md_M_tellPairs b u11 := g_tr g1158 g1160 rfl
          refine ok_gd (by omega) ?_
          have : (-1 : Int) ≤ (u11 26 (v3).toNat) ∧ (u11 26 (v3).toNat) ≤ 255 := g1161.1 26 (v3).toNat
          refine ok_let (fun x12 e1162 => ?_)
          have : (-1 : Int) ≤ x12 ∧ x12 ≤ 255 := by omega
          have := w32_sp ((v4 + (1 : Int)))
          refine ok_let (fun x13 e1163 => ?_)
          have : (1 : Int) ≤ x13 ∧ x13 ≤ 10 := by omega
          exact ih (by omega) g1161 (by omega) (by omega)
end
section
theorem s_M_tellPairs {w : Wd} {v1 : Int} (hG : G md_M_tellPairs w w) (i_v1 : ((0 : Int) ≤ v1 ∧ v1 ≤ 255)) : OK (f_M_tellPairs v1 w) (fun r u => ((0 : Int) ≤ r ∧ r ≤ 0) ∧ G md_M_tellPairs w u) := by
  unfold f_M_tellPairs
  refine ok_call (s_N_clear (g_self hG)) (fun r1 u2 q => ?_)
  obtain ⟨i1164, g1165⟩ := q
  have g1166 : G md_M_tellPairs w u2 := g_tr hG g1165 rfl
  exact s_M_tellPairs_9 FU (by have := eqFU; omega) g1166 (by omega) (by omega)
theorem s_E_pairs {w : Wd} (hG : G md_E_pairs w w) : OK (f_E_pairs w) (fun r u => ((0 : Int) ≤ r ∧ r ≤ 20) ∧ G md_E_pairs w u) := by
  unfold f_E_pairs
  refine ok_call (s_E_largestWeek (g_self hG)) (fun r1 u2 q => ?_)
  obtain ⟨i1167, g1168⟩ := q
  have g1169 : G md_E_pairs w u2 := g_tr hG g1168 rfl
  refine ok_call (s_M_tellPairs (g_self g1169) (by omega)) (fun r3 u4 q => ?_)
  obtain ⟨i1170, g1171⟩ := q
  have g1172 : G md_E_pairs w u4 := g_tr g1169 g1171 rfl
  have : (0 : Int) ≤ (u4 3 1) ∧ (u4 3 1) ≤ 20 := g1172.1 3 1
  exact ok_some ⟨by omega, g1172⟩
theorem s_E_bars_89 {b : Wd} {k32 : Int → Int → Int → Wd → Option (Int × Wd)} {Bk32 : Int} (hk32 : ∀ {w1 : Wd} {v1 v2 v3 : Int}, ((1025 : Int) - v3) < Bk32 → G md_E_bars b w1 → ((0 : Int) ≤ v1 ∧ v1 ≤ 1023) → ((-31 : Int) ≤ v2 ∧ v2 ≤ 63) → ((0 : Int) ≤ v3 ∧ v3 ≤ 1024) → OK (k32 v1 v2 v3 w1) (fun r u => ((-1 : Int) ≤ r ∧ r ≤ 1023) ∧ G md_E_bars b u)) {w : Wd} {v1 v2 v3 : Int} (hG : G md_E_bars b w) (i_v1 : ((0 : Int) ≤ v1 ∧ v1 ≤ 1023)) (i_v2 : ((-31 : Int) ≤ v2 ∧ v2 ≤ 63)) (i_v3 : ((0 : Int) ≤ v3 ∧ v3 ≤ 1023)) (hBk32 : ((1025 : Int) - v3) ≤ Bk32) : OK (f_E_bars_89 k32 v1 v2 v3 w) (fun r u => ((-1 : Int) ≤ r ∧ r ≤ 1023) ∧ G md_E_bars b u) := by
  unfold f_E_bars_89
  have := w32_sp ((v3 + (1 : Int)))
  refine ok_let (fun x17 e1173 => ?_)
  have : (1 : Int) ≤ x17 ∧ x17 ≤ 1024 := by omega
  exact hk32 (by omega) hG (by omega) (by omega) (by omega)
theorem s_E_bars_32 {b : Wd} : ∀ (n : Nat) {w : Wd} {v1 v2 v3 : Int}, ((1025 : Int) - v3) < (n : Int) → G md_E_bars b w → ((0 : Int) ≤ v1 ∧ v1 ≤ 1023) → ((-31 : Int) ≤ v2 ∧ v2 ≤ 63) → ((0 : Int) ≤ v3 ∧ v3 ≤ 1024) → OK (f_E_bars_32 n v1 v2 v3 w) (fun r u => ((-1 : Int) ≤ r ∧ r ≤ 1023) ∧ G md_E_bars b u) := by
  intro n
  induction n with
  | zero =>
    intro w v1 v2 v3 hm hG i_v1 i_v2 i_v3
    exfalso
    omega
  | succ n ih =>
    intro w v1 v2 v3 hm hG i_v1 i_v2 i_v3
    rw [f_E_bars_32]
    refine ok_ite (fun h1174 => ?_) (fun h1175 => ?_)
    · exact ok_some ⟨by omega, hG⟩
    · refine ok_call (s_F_knownBy (g_self hG) (by omega)) (fun r12 u13 q => ?_)
      obtain ⟨i1176, g1177⟩ := q
      have g1178 : G md_E_bars b u13 := g_tr hG g1177 rfl
      refine ok_call (s_F_free (g_self g1178)) (fun r14 u15 q => ?_)
      obtain ⟨i1179, g1180⟩ := q
      have g1181 : G md_E_bars b u15 := g_tr g1178 g1180 rfl
      have := iand_r (x := r12) (y := r14) (by omega)
      refine ok_let (fun x16 e1182 => ?_)
      have : (0 : Int) ≤ x16 ∧ x16 ≤ 1023 := by omega
      have := ixor_m1 (x := v1) (by omega)
      have := iand_l (x := v3) (y := (ixor v1 (-1 : Int))) (by omega)
      refine ok_ite (fun h1183 => ?_) (fun h1184 => ?_)
      · refine ok_call (s_JI_bitCount (g_self g1181) (by omega)) (fun r18 u19 q => ?_)
        obtain ⟨i1185, g1186⟩ := q
        have g1187 : G md_E_bars b u19 := g_tr g1181 g1186 rfl
        refine ok_call (s_JI_bitCount (g_self g1187) (by omega)) (fun r20 u21 q => ?_)
        obtain ⟨i1188, g1189⟩ := q
        have g1190 : G md_E_bars b u21 := g_tr g1187 g1189 rfl
        have := w32_sp ((r18 - r20))
        refine ok_ite (fun h1191 => ?_) (fun h1192 => ?_)
        · refine ok_call (s_N_tell2 (g_self g1190) (by omega) (by omega)) (fun r22 u23 q => ?_)
          obtain ⟨i1193, g1194⟩ := q
          have g1195 : G md_E_bars b u23 := g_tr g1190 g1194 rfl
          exact ok_some ⟨by omega, g1195⟩
        · exact s_E_bars_89 ih g1190 (by omega) (by omega) (by omega) (by omega)
      · exact s_E_bars_89 ih g1181 (by omega) (by omega) (by omega) (by omega)
theorem s_E_bars {w : Wd} (hG : G md_E_bars w w) : OK (f_E_bars w) (fun r u => ((-1 : Int) ≤ r ∧ r ≤ 1023) ∧ G md_E_bars w u) := by
  unfold f_E_bars
  refine ok_call (s_F_guests (g_self hG)) (fun r1 u2 q => ?_)
  obtain ⟨i1196, g1197⟩ := q
  have g1198 : G md_E_bars w u2 := g_tr hG g1197 rfl
  refine ok_call (s_JI_bitCount (g_self g1198) (by omega)) (fun r3 u4 q => ?_)
  obtain ⟨i1199, g1200⟩ := q
  have g1201 : G md_E_bars w u4 := g_tr g1198 g1200 rfl
  refine ok_call (s_E_largestWeek (g_self g1201)) (fun r5 u6 q => ?_)
  obtain ⟨i1202, g1203⟩ := q
  have g1204 : G md_E_bars w u6 := g_tr g1201 g1203 rfl
  refine ok_call (s_M_moversOf (g_self g1204) (by omega)) (fun r7 u8 q => ?_)
  obtain ⟨i1205, g1206⟩ := q
  have g1207 : G md_E_bars w u8 := g_tr g1204 g1206 rfl
  refine ok_call (s_JI_bitCount (g_self g1207) (by omega)) (fun r9 u10 q => ?_)
  obtain ⟨i1208, g1209⟩ := q
  have g1210 : G md_E_bars w u10 := g_tr g1207 g1209 rfl
  refine ok_if (by decide) ?_
  have := idiv_k (x := r9) (c := (2 : Int)) (by decide) (by omega)
  have := w32_sp ((r3 - (idiv r9 (2 : Int))))
  refine ok_let (fun x11 e1211 => ?_)
  have : (-31 : Int) ≤ x11 ∧ x11 ≤ 63 := by omega
  exact s_E_bars_32 FU (by have := eqFU; omega) g1210 (by omega) (by omega) (by omega)
theorem s_JA_fill_29_5 {b : Wd} : ∀ (n : Nat) {w : Wd} {v1 v2 v3 : Int}, ((8193 : Int) - v2) < (n : Int) → G md_JA_fill_29 b w → ((0 : Int) ≤ v1 ∧ v1 ≤ 0) → ((0 : Int) ≤ v2 ∧ v2 ≤ 8192) → ((8192 : Int) ≤ v3 ∧ v3 ≤ 8192) → OK (f_JA_fill_29_5 n v1 v2 v3 w) (fun r u => ((0 : Int) ≤ r ∧ r ≤ 0) ∧ G md_JA_fill_29 b u) := by
  intro n
  induction n with
  | zero =>
    intro w v1 v2 v3 hm hG i_v1 i_v2 i_v3
    exfalso
    omega
  | succ n ih =>
    intro w v1 v2 v3 hm hG i_v1 i_v2 i_v3
    rw [f_JA_fill_29_5]
    refine ok_ite (fun h1212 => ?_) (fun h1213 => ?_)
    · exact ok_some ⟨by omega, hG⟩
    · refine ok_gd (by omega) ?_
      refine ok_lw (fun u1 e1214 => ?_)
      have g1215 : G md_JA_fill_29 b u1 := g_st hG e1214 rfl rfl (show (0 : Int) ≤ v1 ∧ v1 ≤ 3000 by omega)
      have := w32_sp ((v2 + (1 : Int)))
      refine ok_let (fun x2 e1216 => ?_)
      have : (1 : Int) ≤ x2 ∧ x2 ≤ 8192 := by omega
      exact ih (by omega) g1215 (by omega) (by omega) (by omega)
theorem s_JA_fill_29 {w : Wd} {v1 : Int} (hG : G md_JA_fill_29 w w) (i_v1 : ((0 : Int) ≤ v1 ∧ v1 ≤ 0)) : OK (f_JA_fill_29 v1 w) (fun r u => ((0 : Int) ≤ r ∧ r ≤ 0) ∧ G md_JA_fill_29 w u) := by
  unfold f_JA_fill_29
  exact s_JA_fill_29_5 FU (by have := eqFU; omega) hG (by omega) (by omega) (by omega)
theorem s_JA_fill_34_5 {b : Wd} : ∀ (n : Nat) {w : Wd} {v1 v2 v3 : Int}, ((452 : Int) - v2) < (n : Int) → G md_JA_fill_34 b w → ((-1 : Int) ≤ v1 ∧ v1 ≤ -1) → ((0 : Int) ≤ v2 ∧ v2 ≤ 451) → ((451 : Int) ≤ v3 ∧ v3 ≤ 451) → OK (f_JA_fill_34_5 n v1 v2 v3 w) (fun r u => ((0 : Int) ≤ r ∧ r ≤ 0) ∧ G md_JA_fill_34 b u) := by
  intro n
  induction n with
  | zero =>
    intro w v1 v2 v3 hm hG i_v1 i_v2 i_v3
    exfalso
    omega
  | succ n ih =>
    intro w v1 v2 v3 hm hG i_v1 i_v2 i_v3
    rw [f_JA_fill_34_5]
    refine ok_ite (fun h1217 => ?_) (fun h1218 => ?_)
    · exact ok_some ⟨by omega, hG⟩
    · refine ok_gd (by omega) ?_
      refine ok_lw (fun u1 e1219 => ?_)
      have g1220 : G md_JA_fill_34 b u1 := g_st hG e1219 rfl rfl (show (-1 : Int) ≤ v1 ∧ v1 ≤ 2999 by omega)
      have := w32_sp ((v2 + (1 : Int)))
      refine ok_let (fun x2 e1221 => ?_)
      have : (1 : Int) ≤ x2 ∧ x2 ≤ 451 := by omega
      exact ih (by omega) g1220 (by omega) (by omega) (by omega)
theorem s_JA_fill_34 {w : Wd} {v1 : Int} (hG : G md_JA_fill_34 w w) (i_v1 : ((-1 : Int) ≤ v1 ∧ v1 ≤ -1)) : OK (f_JA_fill_34 v1 w) (fun r u => ((0 : Int) ≤ r ∧ r ≤ 0) ∧ G md_JA_fill_34 w u) := by
  unfold f_JA_fill_34
  exact s_JA_fill_34_5 FU (by have := eqFU; omega) hG (by omega) (by omega) (by omega)
theorem s_S_clear {w : Wd} (hG : G md_S_clear w w) : OK (f_S_clear w) (fun r u => ((0 : Int) ≤ r ∧ r ≤ 0) ∧ G md_S_clear w u) := by
  unfold f_S_clear
  refine ok_call (s_JA_fill_29 (g_self hG) (by omega)) (fun r1 u2 q => ?_)
  obtain ⟨i1222, g1223⟩ := q
  have g1224 : G md_S_clear w u2 := g_tr hG g1223 rfl
  refine ok_call (s_JA_fill_34 (g_self g1224) (by omega)) (fun r3 u4 q => ?_)
  obtain ⟨i1225, g1226⟩ := q
  have g1227 : G md_S_clear w u4 := g_tr g1224 g1226 rfl
  refine ok_lw (fun u5 e1228 => ?_)
  have g1229 : G md_S_clear w u5 := g_st g1227 e1228 rfl rfl (show (0 : Int) ≤ (0 : Int) ∧ (0 : Int) ≤ 3000 by omega)
  refine ok_lw (fun u6 e1230 => ?_)
  have g1231 : G md_S_clear w u6 := g_st g1229 e1230 rfl rfl (show (0 : Int) ≤ (0 : Int) ∧ (0 : Int) ≤ 3000 by omega)
  refine ok_lw (fun u7 e1232 => ?_)
  have g1233 : G md_S_clear w u7 := g_st g1231 e1232 rfl rfl (show (0 : Int) ≤ (0 : Int) ∧ (0 : Int) ≤ 1 by omega)
  refine ok_lw (fun u8 e1234 => ?_)
  have g1235 : G md_S_clear w u8 := g_st g1233 e1234 rfl rfl (show (0 : Int) ≤ (1 : Int) ∧ (1 : Int) ≤ 1 by omega)
  exact ok_some ⟨by omega, g1235⟩
theorem s_S_slotOf_14 {b : Wd} : ∀ (n : Nat) {w : Wd} {v1 v2 v3 : Int}, ((8193 : Int) - v3) < (n : Int) → G md_S_slotOf b w → ((-2147483648 : Int) ≤ v1 ∧ v1 ≤ 2147483647) → ((0 : Int) ≤ v2 ∧ v2 ≤ 8191) → ((0 : Int) ≤ v3 ∧ v3 ≤ 8192) → OK (f_S_slotOf_14 n v1 v2 v3 w) (fun r u => ((0 : Int) ≤ r ∧ r ≤ 8191) ∧ G md_S_slotOf b u) := by
  intro n
  induction n with
  | zero =>
    intro w v1 v2 v3 hm hG i_v1 i_v2 i_v3
    exfalso
    omega
  | succ n ih =>
    intro w v1 v2 v3 hm hG i_v1 i_v2 i_v3
    rw [f_S_slotOf_14]
    refine ok_ite (fun h1236 => ?_) (fun h1237 => ?_)
    · exact ok_some ⟨by omega, hG⟩
    · refine ok_gd (by omega) ?_
      have : (0 : Int) ≤ (w 29 (v2).toNat) ∧ (w 29 (v2).toNat) ≤ 3000 := hG.1 29 (v2).toNat
      refine ok_ite (fun h1238 => ?_) (fun h1239 => ?_)
      · exact ok_some ⟨by omega, hG⟩
      · refine ok_gd (by omega) ?_
        have := w32_sp (((w 29 (v2).toNat) - (1 : Int)))
        refine ok_gd (by omega) ?_
        have : (-2147483648 : Int) ≤ (w 30 ((w32 ((w 29 (v2).toNat) - (1 : Int)))).toNat) ∧ (w 30 ((w32 ((w 29 (v2).toNat) - (1 : Int)))).toNat) ≤ 2147483647 := hG.1 30 ((w32 ((w 29 (v2).toNat) - (1 : Int)))).toNat
        refine ok_ite (fun h1240 => ?_) (fun h1241 => ?_)
        · exact ok_some ⟨by omega, hG⟩
        · refine ok_if (by decide) ?_
          have := w32_sp ((v2 + (1 : Int)))
          have := irem_k (x := (w32 (v2 + (1 : Int)))) (c := (8192 : Int)) (by decide) (by omega)
          refine ok_let (fun x2 e1242 => ?_)
          have : (0 : Int) ≤ x2 ∧ x2 ≤ 8191 := by omega
          have := w32_sp ((v3 + (1 : Int)))
          refine ok_let (fun x3 e1243 => ?_)
          have : (1 : Int) ≤ x3 ∧ x3 ≤ 8192 := by omega
          exact ih (by omega) hG (by omega) (by omega) (by omega)
theorem s_S_slotOf {w : Wd} {v1 : Int} (hG : G md_S_slotOf w w) (i_v1 : ((-2147483648 : Int) ≤ v1 ∧ v1 ≤ 2147483647)) : OK (f_S_slotOf v1 w) (fun r u => ((0 : Int) ≤ r ∧ r ≤ 8191) ∧ G md_S_slotOf w u) := by
  unfold f_S_slotOf
  refine ok_if (by decide) ?_
  have := w32_sp ((v1 * (-1640531535 : Int)))
  have := iush_k 8 (x := (w32 (v1 * (-1640531535 : Int)))) (y := (8 : Int)) (m := 16777215) (by decide) (by decide) (by decide) (by decide)
  have := irem_k (x := (iush (w32 (v1 * (-1640531535 : Int))) (8 : Int))) (c := (8192 : Int)) (by decide) (by omega)
  refine ok_let (fun x1 e1244 => ?_)
  have : (0 : Int) ≤ x1 ∧ x1 ≤ 8191 := by omega
  exact s_S_slotOf_14 FU (by have := eqFU; omega) hG (by omega) (by omega) (by omega)
theorem s_O_rank {w : Wd} {v0 : Int} (hG : G md_O_rank w w) (i_v0 : ((-2147483648 : Int) ≤ v0 ∧ v0 ≤ 2147483647)) : OK (f_O_rank v0 w) (fun r u => ((0 : Int) ≤ r ∧ r ≤ 3024) ∧ G md_O_rank w u) := by
  unfold f_O_rank
  have := iand_r (x := v0) (y := (1023 : Int)) (by omega)
  refine ok_call (s_JI_bitCount (g_self hG) (by omega)) (fun r1 u2 q => ?_)
  obtain ⟨i1245, g1246⟩ := q
  have g1247 : G md_O_rank w u2 := g_tr hG g1246 rfl
  have := ishr_rg v0 (10 : Int)
  have := iand_r (x := (ishr v0 (10 : Int))) (y := (1023 : Int)) (by omega)
  refine ok_call (s_JI_bitCount (g_self g1247) (by omega)) (fun r3 u4 q => ?_)
  obtain ⟨i1248, g1249⟩ := q
  have g1250 : G md_O_rank w u4 := g_tr g1247 g1249 rfl
  refine ok_call (s_O_out (g_self g1250) (by omega)) (fun r5 u6 q => ?_)
  obtain ⟨i1251, g1252⟩ := q
  have g1253 : G md_O_rank w u6 := g_tr g1250 g1252 rfl
  refine ok_call (s_JI_bitCount (g_self g1253) (by omega)) (fun r7 u8 q => ?_)
  obtain ⟨i1254, g1255⟩ := q
  have g1256 : G md_O_rank w u8 := g_tr g1253 g1255 rfl
  have := w32_sp (((2 : Int) * r3))
  have := w32_sp ((r1 + (w32 ((2 : Int) * r3))))
  have := w32_sp (((4 : Int) * r7))
  have := w32_sp (((w32 (r1 + (w32 ((2 : Int) * r3)))) + (w32 ((4 : Int) * r7))))
  refine ok_let (fun x9 e1257 => ?_)
  have : (0 : Int) ≤ x9 ∧ x9 ≤ 441 := by omega
  refine ok_call (s_O_known (g_self g1256) (by omega)) (fun r10 u11 q => ?_)
  obtain ⟨i1258, g1259⟩ := q
  have g1260 : G md_O_rank w u11 := g_tr g1256 g1259 rfl
  refine ok_call (s_JI_bitCount (g_self g1260) (by omega)) (fun r12 u13 q => ?_)
  obtain ⟨i1261, g1262⟩ := q
  have g1263 : G md_O_rank w u13 := g_tr g1260 g1262 rfl
  have := w32_sp ((r12 * (41 : Int)))
  have := w32_sp (((w32 (r12 * (41 : Int))) + x9))
  exact ok_some ⟨by omega, g1263⟩
theorem s_S_place_120 {b : Wd} {w : Wd} {v2 v4 : Int} (hG : G md_S_place b w) (i_v2 : ((-9223372036854775808 : Int) ≤ v2 ∧ v2 ≤ 9223372036854775807)) (i_v4 : ((0 : Int) ≤ v4 ∧ v4 ≤ 8191)) (a_0 : ((1 : Int) ≤ (w 29 (v4).toNat))) : OK (f_S_place_120 v2 v4 w) (fun r u => ((0 : Int) ≤ r ∧ r ≤ 0) ∧ G md_S_place b u) := by
  unfold f_S_place_120
  have : (0 : Int) ≤ (w 29 (v4).toNat) ∧ (w 29 (v4).toNat) ≤ 3000 := hG.1 29 (v4).toNat
  refine ok_gd (by omega) ?_
  have := w32_sp (((w 29 (v4).toNat) - (1 : Int)))
  refine ok_let (fun x3 e1264 => ?_)
  have : (-1 : Int) ≤ x3 ∧ x3 ≤ 2999 := by omega
  refine ok_gd (by omega) ?_
  refine ok_gd (by omega) ?_
  have : (-9223372036854775808 : Int) ≤ (w 31 (x3).toNat) ∧ (w 31 (x3).toNat) ≤ 9223372036854775807 := hG.1 31 (x3).toNat
  have := lor_rg (w 31 (x3).toNat) v2
  refine ok_lw (fun u4 e1265 => ?_)
  have g1266 : G md_S_place b u4 := g_st hG e1265 rfl rfl (show (-9223372036854775808 : Int) ≤ (lor (w 31 (x3).toNat) v2) ∧ (lor (w 31 (x3).toNat) v2) ≤ 9223372036854775807 by omega)
  exact ok_some ⟨by omega, g1266⟩
theorem s_S_place_46 {b : Wd} {w : Wd} (hG : G md_S_place b w) : OK (f_S_place_46 w) (fun r u => ((0 : Int) ≤ r ∧ r ≤ 0) ∧ G md_S_place b u) := by
  unfold f_S_place_46
  refine ok_lw (fun u7 e1267 => ?_)
  have g1268 : G md_S_place b u7 := g_st hG e1267 rfl rfl (show (0 : Int) ≤ (1 : Int) ∧ (1 : Int) ≤ 1 by omega)
  exact ok_some ⟨by omega, g1268⟩
theorem s_S_place {w : Wd} {v1 v2 : Int} (hG : G md_S_place w w) (i_v1 : ((-2147483648 : Int) ≤ v1 ∧ v1 ≤ 2147483647)) (i_v2 : ((-9223372036854775808 : Int) ≤ v2 ∧ v2 ≤ 9223372036854775807)) : OK (f_S_place v1 v2 w) (fun r u => ((0 : Int) ≤ r ∧ r ≤ 0) ∧ G md_S_place w u) := by
  unfold f_S_place
  refine ok_call (s_S_slotOf (g_self hG) (by omega)) (fun r1 u2 q => ?_)
  obtain ⟨i1269, g1270⟩ := q
  have g1271 : G md_S_place w u2 := g_tr hG g1270 rfl
  refine ok_gd (by omega) ?_
  have : (0 : Int) ≤ (u2 29 (r1).toNat) ∧ (u2 29 (r1).toNat) ≤ 3000 := g1271.1 29 (r1).toNat
  refine ok_ite (fun h1272 => ?_) (fun h1273 => ?_)
  · refine ok_call (s_O_rank (g_self g1271) (by omega)) (fun r5 u6 q => ?_)
    obtain ⟨i1274, g1275⟩ := q
    have g1276 : G md_S_place w u6 := g_tr g1271 g1275 rfl
    have : (0 : Int) ≤ (u6 28 7) ∧ (u6 28 7) ≤ 3000 := g1276.1 28 7
    have : (u6 28 7) = (u2 28 7) := g1275.2.1 28 7 rfl
    have : (0 : Int) ≤ (u2 28 7) ∧ (u2 28 7) ≤ 3000 := g1271.1 28 7
    have : (u2 28 7) = (w 28 7) := g1270.2.1 28 7 rfl
    have : (0 : Int) ≤ (w 28 7) ∧ (w 28 7) ≤ 3000 := hG.1 28 7
    refine ok_ite (fun h1277 => ?_) (fun h1278 => ?_)
    · exact s_S_place_46 g1276
    · refine ok_if (by omega) ?_
      refine ok_ite (fun h1279 => ?_) (fun h1280 => ?_)
      · refine ok_gd (by omega) ?_
        refine ok_lw (fun u8 e1281 => ?_)
        have g1282 : G md_S_place w u8 := g_st g1276 e1281 rfl rfl (show (-2147483648 : Int) ≤ v1 ∧ v1 ≤ 2147483647 by omega)
        have : (0 : Int) ≤ (u8 28 7) ∧ (u8 28 7) ≤ 3000 := g1282.1 28 7
        have : (u8 28 7) = (u6 28 7) := (congrFun (congrFun e1281 28) 7).trans (st_c (by decide))
        refine ok_gd (by omega) ?_
        refine ok_lw (fun u9 e1283 => ?_)
        have g1284 : G md_S_place w u9 := g_st g1282 e1283 rfl rfl (show (-9223372036854775808 : Int) ≤ (0 : Int) ∧ (0 : Int) ≤ 9223372036854775807 by omega)
        refine ok_gd (by omega) ?_
        have : (0 : Int) ≤ (u9 28 7) ∧ (u9 28 7) ≤ 3000 := g1284.1 28 7
        have : (u9 28 7) = (u8 28 7) := (congrFun (congrFun e1283 28) 7).trans (st_c (by decide))
        refine ok_gd (by omega) ?_
        have : (-1 : Int) ≤ (u9 34 (r5).toNat) ∧ (u9 34 (r5).toNat) ≤ 2999 := g1284.1 34 (r5).toNat
        have : (u9 34 (r5).toNat) = (u8 34 (r5).toNat) := (congrFun (congrFun e1283 34) (r5).toNat).trans (st_c (by decide))
        have : (-1 : Int) ≤ (u8 34 (r5).toNat) ∧ (u8 34 (r5).toNat) ≤ 2999 := g1282.1 34 (r5).toNat
        have : (u8 34 (r5).toNat) = (u6 34 (r5).toNat) := (congrFun (congrFun e1281 34) (r5).toNat).trans (st_c (by decide))
        have : (-1 : Int) ≤ (u6 34 (r5).toNat) ∧ (u6 34 (r5).toNat) ≤ 2999 := g1276.1 34 (r5).toNat
        refine ok_lw (fun u10 e1285 => ?_)
        have g1286 : G md_S_place w u10 := g_st g1284 e1285 rfl rfl (show (-1 : Int) ≤ (u9 34 (r5).toNat) ∧ (u9 34 (r5).toNat) ≤ 2999 by omega)
        refine ok_gd (by omega) ?_
        have : (0 : Int) ≤ (u10 28 7) ∧ (u10 28 7) ≤ 3000 := g1286.1 28 7
        have : (u10 28 7) = (u9 28 7) := (congrFun (congrFun e1285 28) 7).trans (st_c (by decide))
        refine ok_lw (fun u11 e1287 => ?_)
        have g1288 : G md_S_place w u11 := g_st g1286 e1287 rfl rfl (show (-1 : Int) ≤ (u10 28 7) ∧ (u10 28 7) ≤ 2999 by omega)
        have : (0 : Int) ≤ (u11 28 7) ∧ (u11 28 7) ≤ 3000 := g1288.1 28 7
        have : (u11 28 7) = (u10 28 7) := (congrFun (congrFun e1287 28) 7).trans (st_c (by decide))
        have := w32_sp (((u11 28 7) + (1 : Int)))
        refine ok_lw (fun u12 e1289 => ?_)
        have g1290 : G md_S_place w u12 := g_st g1288 e1289 rfl rfl (show (0 : Int) ≤ (w32 ((u11 28 7) + (1 : Int))) ∧ (w32 ((u11 28 7) + (1 : Int))) ≤ 3000 by omega)
        refine ok_gd (by omega) ?_
        have : (0 : Int) ≤ (u12 28 7) ∧ (u12 28 7) ≤ 3000 := g1290.1 28 7
        have : (u12 28 7) = (w32 ((u11 28 7) + (1 : Int))) := (congrFun (congrFun e1289 28) 7).trans (st_eq _ _ _ _)
        refine ok_lw (fun u13 e1291 => ?_)
        have g1292 : G md_S_place w u13 := g_st g1290 e1291 rfl rfl (show (0 : Int) ≤ (u12 28 7) ∧ (u12 28 7) ≤ 3000 by omega)
        have : (0 : Int) ≤ (u13 29 (r1).toNat) ∧ (u13 29 (r1).toNat) ≤ 3000 := g1292.1 29 (r1).toNat
        have : (u13 29 (r1).toNat) = (u12 28 7) := (congrFun (congrFun e1291 29) (r1).toNat).trans (st_eq _ _ _ _)
        exact s_S_place_120 g1292 (by omega) (by omega) (by omega)
      · exact s_S_place_46 g1276
  · exact s_S_place_120 g1271 (by omega) (by omega) (by omega)
theorem s_S_guests {w : Wd} {v1 : Int} (hG : G md_S_guests w w) (i_v1 : ((0 : Int) ≤ v1 ∧ v1 ≤ 2999)) : OK (f_S_guests v1 w) (fun r u => ((0 : Int) ≤ r ∧ r ≤ 1023) ∧ G md_S_guests w u) := by
  unfold f_S_guests
  refine ok_if (by omega) ?_
  have : (0 : Int) ≤ (w 28 7) ∧ (w 28 7) ≤ 3000 := hG.1 28 7
  refine ok_ite (fun h1293 => ?_) (fun h1294 => ?_)
  · exact ok_some ⟨by omega, hG⟩
  · refine ok_gd (by omega) ?_
    have : (-2147483648 : Int) ≤ (w 30 (v1).toNat) ∧ (w 30 (v1).toNat) ≤ 2147483647 := hG.1 30 (v1).toNat
    refine ok_call (s_O_guests (g_self hG) (by omega)) (fun r1 u2 q => ?_)
    obtain ⟨i1295, g1296⟩ := q
    have g1297 : G md_S_guests w u2 := g_tr hG g1296 rfl
    exact ok_some ⟨by omega, g1297⟩
theorem s_S_goOn_52 {b : Wd} : ∀ (n : Nat) {w : Wd} {v1 v4 : Int}, ((257 : Int) - v4) < (n : Int) → G md_S_goOn b w → ((0 : Int) ≤ v1 ∧ v1 ≤ 2999) → ((0 : Int) ≤ v4 ∧ v4 ≤ 256) → OK (f_S_goOn_52 n v1 v4 w) (fun r u => ((0 : Int) ≤ r ∧ r ≤ 0) ∧ G md_S_goOn b u) := by
  intro n
  induction n with
  | zero =>
    intro w v1 v4 hm hG i_v1 i_v4
    exfalso
    omega
  | succ n ih =>
    intro w v1 v4 hm hG i_v1 i_v4
    rw [f_S_goOn_52]
    have : (0 : Int) ≤ (w 24 3) ∧ (w 24 3) ≤ 256 := hG.1 24 3
    refine ok_ite (fun h1298 => ?_) (fun h1299 => ?_)
    · exact ok_some ⟨by omega, hG⟩
    · have : (0 : Int) ≤ (w 28 10) ∧ (w 28 10) ≤ 1 := hG.1 28 10
      refine ok_ite (fun h1300 => ?_) (fun h1301 => ?_)
      · refine ok_gd (by omega) ?_
        refine ok_call (s_M_moversOf (g_self hG) (by omega)) (fun r5 u6 q => ?_)
        obtain ⟨i1302, g1303⟩ := q
        have g1304 : G md_S_goOn b u6 := g_tr hG g1303 rfl
        have : (-2147483648 : Int) ≤ (w 30 (v1).toNat) ∧ (w 30 (v1).toNat) ≤ 2147483647 := hG.1 30 (v1).toNat
        have : (0 : Int) ≤ (u6 5 7) ∧ (u6 5 7) ≤ 2147483647 := g1304.1 5 7
        have : (u6 5 7) = (w 5 7) := g1303.2.1 5 7 rfl
        have : (0 : Int) ≤ (w 5 7) ∧ (w 5 7) ≤ 2147483647 := hG.1 5 7
        have : (w 5 7) = (b 5 7) := hG.2.1 5 7 rfl
        refine ok_call (s_O_after (g_self g1304) (by omega) (by omega) (by omega)) (fun r7 u8 q => ?_)
        obtain ⟨i1305, g1306⟩ := q
        have g1307 : G md_S_goOn b u8 := g_tr g1304 g1306 rfl
        refine ok_gd (by omega) ?_
        have : (-9223372036854775808 : Int) ≤ (u8 31 (v1).toNat) ∧ (u8 31 (v1).toNat) ≤ 9223372036854775807 := g1307.1 31 (v1).toNat
        have := lshl_rg (u8 31 (v1).toNat) (1 : Int)
        have := land_rg (lshl (u8 31 (v1).toNat) (1 : Int)) (2305843009213693951 : Int)
        refine ok_call (s_S_place (g_self g1307) (by omega) (by omega)) (fun r9 u10 q => ?_)
        obtain ⟨i1308, g1309⟩ := q
        have g1310 : G md_S_goOn b u10 := g_tr g1307 g1309 rfl
        have := w32_sp ((v4 + (1 : Int)))
        refine ok_let (fun x11 e1311 => ?_)
        have : (1 : Int) ≤ x11 ∧ x11 ≤ 256 := by omega
        exact ih (by omega) g1310 (by omega) (by omega)
      · exact ok_some ⟨by omega, hG⟩
theorem s_S_goOn {w : Wd} {v1 : Int} (hG : G md_S_goOn w w) (i_v1 : ((0 : Int) ≤ v1 ∧ v1 ≤ 2999)) : OK (f_S_goOn v1 w) (fun r u => ((0 : Int) ≤ r ∧ r ≤ 0) ∧ G md_S_goOn w u) := by
  unfold f_S_goOn
  refine ok_call (s_S_guests (g_self hG) (by omega)) (fun r1 u2 q => ?_)
  obtain ⟨i1312, g1313⟩ := q
  have g1314 : G md_S_goOn w u2 := g_tr hG g1313 rfl
  refine ok_ite (fun h1315 => ?_) (fun h1316 => ?_)
  · refine ok_gd (by omega) ?_
    refine ok_gd (by omega) ?_
    refine ok_gd (by omega) ?_
    have : (-9223372036854775808 : Int) ≤ (u2 31 (v1).toNat) ∧ (u2 31 (v1).toNat) ≤ 9223372036854775807 := g1314.1 31 (v1).toNat
    have := w64_rg (-(u2 31 (v1).toNat))
    have := land_rg (u2 31 (v1).toNat) (w64 (-(u2 31 (v1).toNat)))
    have := w64_rg (-(land (u2 31 (v1).toNat) (w64 (-(u2 31 (v1).toNat)))))
    have := land_rg (w64 (-(land (u2 31 (v1).toNat) (w64 (-(u2 31 (v1).toNat)))))) (2305843009213693951 : Int)
    refine ok_lw (fun u12 e1317 => ?_)
    have g1318 : G md_S_goOn w u12 := g_st g1314 e1317 rfl rfl (show (-9223372036854775808 : Int) ≤ (land (w64 (-(land (u2 31 (v1).toNat) (w64 (-(u2 31 (v1).toNat)))))) (2305843009213693951 : Int)) ∧ (land (w64 (-(land (u2 31 (v1).toNat) (w64 (-(u2 31 (v1).toNat)))))) (2305843009213693951 : Int)) ≤ 9223372036854775807 by omega)
    exact ok_some ⟨by omega, g1318⟩
  · refine ok_gd (by omega) ?_
    have : (-2147483648 : Int) ≤ (u2 30 (v1).toNat) ∧ (u2 30 (v1).toNat) ≤ 2147483647 := g1314.1 30 (v1).toNat
    have : (0 : Int) ≤ (u2 5 8) ∧ (u2 5 8) ≤ 2147483647 := g1314.1 5 8
    have : (u2 5 8) = (w 5 8) := g1313.2.1 5 8 rfl
    have : (0 : Int) ≤ (w 5 8) ∧ (w 5 8) ≤ 2147483647 := hG.1 5 8
    refine ok_call (s_M_gather (g_self g1314) (by omega) (by omega)) (fun r3 u4 q => ?_)
    obtain ⟨i1319, g1320⟩ := q
    have g1321 : G md_S_goOn w u4 := g_tr g1314 g1320 rfl
    exact s_S_goOn_52 FU (by have := eqFU; omega) g1321 (by omega) (by omega)
theorem s_S_run_122 {b : Wd} {k35 : Int → Wd → Option (Int × Wd)} {Bk35 : Int} (hk35 : ∀ {w1 : Wd} {v3 : Int}, ((452 : Int) - v3) < Bk35 → G md_S_run b w1 → ((0 : Int) ≤ v3 ∧ v3 ≤ 451) → OK (k35 v3 w1) (fun r u => ((0 : Int) ≤ r ∧ r ≤ 1) ∧ G md_S_run b u)) {w : Wd} {v3 : Int} (hG : G md_S_run b w) (i_v3 : ((0 : Int) ≤ v3 ∧ v3 ≤ 450)) (hBk35 : ((452 : Int) - v3) ≤ Bk35) : OK (f_S_run_122 k35 v3 w) (fun r u => ((0 : Int) ≤ r ∧ r ≤ 1) ∧ G md_S_run b u) := by
  unfold f_S_run_122
  have := w32_sp ((v3 + (1 : Int)))
  refine ok_let (fun x5 e1322 => ?_)
  have : (1 : Int) ≤ x5 ∧ x5 ≤ 451 := by omega
  exact hk35 (by omega) hG (by omega)
theorem s_S_run_42 {b : Wd} {k35 : Int → Wd → Option (Int × Wd)} {Bk35 : Int} (hk35 : ∀ {w1 : Wd} {v3 : Int}, ((452 : Int) - v3) < Bk35 → G md_S_run b w1 → ((0 : Int) ≤ v3 ∧ v3 ≤ 451) → OK (k35 v3 w1) (fun r u => ((0 : Int) ≤ r ∧ r ≤ 1) ∧ G md_S_run b u)) : ∀ (n : Nat) {w : Wd} {v3 : Int}, ((3000 : Int) - (w 28 8)) < (n : Int) → G md_S_run b w → ((0 : Int) ≤ v3 ∧ v3 ≤ 450) → ((452 : Int) - v3) ≤ Bk35 → OK (f_S_run_42 k35 n v3 w) (fun r u => ((0 : Int) ≤ r ∧ r ≤ 1) ∧ G md_S_run b u) := by
  intro n
  induction n with
  | zero =>
    intro w v3 hm hG i_v3 hBk35
    exfalso
    have : (0 : Int) ≤ (w 28 8) ∧ (w 28 8) ≤ 3000 := hG.1 28 8
    omega
  | succ n ih =>
    intro w v3 hm hG i_v3 hBk35
    rw [f_S_run_42]
    have : (0 : Int) ≤ (w 28 8) ∧ (w 28 8) ≤ 3000 := hG.1 28 8
    refine ok_ite (fun h1323 => ?_) (fun h1324 => ?_)
    · exact s_S_run_122 hk35 hG (by omega) (by omega)
    · refine ok_gd (by omega) ?_
      have : (-1 : Int) ≤ (w 34 (v3).toNat) ∧ (w 34 (v3).toNat) ≤ 2999 := hG.1 34 (v3).toNat
      refine ok_ite (fun h1325 => ?_) (fun h1326 => ?_)
      · exact s_S_run_122 hk35 hG (by omega) (by omega)
      · have : (0 : Int) ≤ (w 28 10) ∧ (w 28 10) ≤ 1 := hG.1 28 10
        refine ok_ite (fun h1327 => ?_) (fun h1328 => ?_)
        · refine ok_gd (by omega) ?_
          refine ok_let (fun x6 e1329 => ?_)
          have : (0 : Int) ≤ x6 ∧ x6 ≤ 2999 := by omega
          refine ok_gd (by omega) ?_
          refine ok_gd (by omega) ?_
          have : (-1 : Int) ≤ (w 33 (x6).toNat) ∧ (w 33 (x6).toNat) ≤ 2999 := hG.1 33 (x6).toNat
          refine ok_lw (fun u7 e1330 => ?_)
          have g1331 : G md_S_run b u7 := g_st hG e1330 rfl rfl (show (-1 : Int) ≤ (w 33 (x6).toNat) ∧ (w 33 (x6).toNat) ≤ 2999 by omega)
          have : (0 : Int) ≤ (u7 28 8) ∧ (u7 28 8) ≤ 3000 := g1331.1 28 8
          have : (u7 28 8) = (w 28 8) := (congrFun (congrFun e1330 28) 8).trans (st_c (by decide))
          refine ok_gd (by omega) ?_
          refine ok_lw (fun u8 e1332 => ?_)
          have g1333 : G md_S_run b u8 := g_st g1331 e1332 rfl rfl (show (0 : Int) ≤ x6 ∧ x6 ≤ 2999 by omega)
          have : (0 : Int) ≤ (u8 28 8) ∧ (u8 28 8) ≤ 3000 := g1333.1 28 8
          have : (u8 28 8) = (u7 28 8) := (congrFun (congrFun e1332 28) 8).trans (st_c (by decide))
          have := w32_sp (((u8 28 8) + (1 : Int)))
          refine ok_lw (fun u9 e1334 => ?_)
          have g1335 : G md_S_run b u9 := g_st g1333 e1334 rfl rfl (show (0 : Int) ≤ (w32 ((u8 28 8) + (1 : Int))) ∧ (w32 ((u8 28 8) + (1 : Int))) ≤ 3000 by omega)
          refine ok_call (s_S_goOn (g_self g1335) (by omega)) (fun r10 u11 q => ?_)
          obtain ⟨i1336, g1337⟩ := q
          have g1338 : G md_S_run b u11 := g_tr g1335 g1337 rfl
          have : (0 : Int) ≤ (u11 28 8) ∧ (u11 28 8) ≤ 3000 := g1338.1 28 8
          have : (u11 28 8) = (u9 28 8) := g1337.2.1 28 8 rfl
          have : (0 : Int) ≤ (u9 28 8) ∧ (u9 28 8) ≤ 3000 := g1335.1 28 8
          have : (u9 28 8) = (w32 ((u8 28 8) + (1 : Int))) := (congrFun (congrFun e1334 28) 8).trans (st_eq _ _ _ _)
          exact ih (by omega) g1338 (by omega) (by omega)
        · exact s_S_run_122 hk35 hG (by omega) (by omega)
theorem s_S_run_35 {b : Wd} : ∀ (n : Nat) {w : Wd} {v3 : Int}, ((452 : Int) - v3) < (n : Int) → G md_S_run b w → ((0 : Int) ≤ v3 ∧ v3 ≤ 451) → OK (f_S_run_35 n v3 w) (fun r u => ((0 : Int) ≤ r ∧ r ≤ 1) ∧ G md_S_run b u) := by
  intro n
  induction n with
  | zero =>
    intro w v3 hm hG i_v3
    exfalso
    omega
  | succ n ih =>
    intro w v3 hm hG i_v3
    rw [f_S_run_35]
    refine ok_ite (fun h1339 => ?_) (fun h1340 => ?_)
    · have : (0 : Int) ≤ (w 28 10) ∧ (w 28 10) ≤ 1 := hG.1 28 10
      refine ok_ite (fun h1341 => ?_) (fun h1342 => ?_)
      · exact ok_some ⟨by omega, hG⟩
      · exact ok_some ⟨by omega, hG⟩
    · have : (0 : Int) ≤ (w 28 8) ∧ (w 28 8) ≤ 3000 := hG.1 28 8
      exact s_S_run_42 ih FU (by have := eqFU; omega) hG (by omega) (by omega)
theorem s_S_run {w : Wd} (hG : G md_S_run w w) : OK (f_S_run w) (fun r u => ((0 : Int) ≤ r ∧ r ≤ 1) ∧ G md_S_run w u) := by
  unfold f_S_run
  have : (0 : Int) ≤ (w 28 9) ∧ (w 28 9) ≤ 1 := hG.1 28 9
  refine ok_ite (fun h1343 => ?_) (fun h1344 => ?_)
  · refine ok_call (s_S_clear (g_self hG)) (fun r1 u2 q => ?_)
    obtain ⟨i1345, g1346⟩ := q
    have g1347 : G md_S_run w u2 := g_tr hG g1346 rfl
    have : (-2147483648 : Int) ≤ (u2 5 4) ∧ (u2 5 4) ≤ 2147483647 := g1347.1 5 4
    have : (u2 5 4) = (w 5 4) := g1346.2.1 5 4 rfl
    have : (-2147483648 : Int) ≤ (w 5 4) ∧ (w 5 4) ≤ 2147483647 := hG.1 5 4
    refine ok_call (s_S_place (g_self g1347) (by omega) (by omega)) (fun r3 u4 q => ?_)
    obtain ⟨i1348, g1349⟩ := q
    have g1350 : G md_S_run w u4 := g_tr g1347 g1349 rfl
    exact s_S_run_35 FU (by have := eqFU; omega) g1350 (by omega)
  · have : (0 : Int) ≤ (w 28 10) ∧ (w 28 10) ≤ 1 := hG.1 28 10
    refine ok_ite (fun h1351 => ?_) (fun h1352 => ?_)
    · exact ok_some ⟨by omega, hG⟩
    · exact ok_some ⟨by omega, hG⟩
theorem s_S_mostGuests_4 {b : Wd} : ∀ (n : Nat) {w : Wd} {v1 v2 : Int}, ((3001 : Int) - v2) < (n : Int) → G md_S_mostGuests b w → ((0 : Int) ≤ v1 ∧ v1 ≤ 63) → ((0 : Int) ≤ v2 ∧ v2 ≤ 3000) → OK (f_S_mostGuests_4 n v1 v2 w) (fun r u => ((0 : Int) ≤ r ∧ r ≤ 63) ∧ G md_S_mostGuests b u) := by
  intro n
  induction n with
  | zero =>
    intro w v1 v2 hm hG i_v1 i_v2
    exfalso
    omega
  | succ n ih =>
    intro w v1 v2 hm hG i_v1 i_v2
    rw [f_S_mostGuests_4]
    have : (0 : Int) ≤ (w 28 7) ∧ (w 28 7) ≤ 3000 := hG.1 28 7
    have : (w 28 7) = (b 28 7) := hG.2.1 28 7 rfl
    refine ok_ite (fun h1353 => ?_) (fun h1354 => ?_)
    · exact ok_some ⟨by omega, hG⟩
    · refine ok_call (s_S_guests (g_self hG) (by omega)) (fun r1 u2 q => ?_)
      obtain ⟨i1355, g1356⟩ := q
      have g1357 : G md_S_mostGuests b u2 := g_tr hG g1356 rfl
      refine ok_call (s_JI_bitCount (g_self g1357) (by omega)) (fun r3 u4 q => ?_)
      obtain ⟨i1358, g1359⟩ := q
      have g1360 : G md_S_mostGuests b u4 := g_tr g1357 g1359 rfl
      have := imax_sp v1 r3
      refine ok_let (fun x5 e1361 => ?_)
      have : (0 : Int) ≤ x5 ∧ x5 ≤ 63 := by omega
      have := w32_sp ((v2 + (1 : Int)))
      refine ok_let (fun x6 e1362 => ?_)
      have : (1 : Int) ≤ x6 ∧ x6 ≤ 3000 := by omega
      exact ih (by omega) g1360 (by omega) (by omega)
theorem s_S_mostGuests {w : Wd} (hG : G md_S_mostGuests w w) : OK (f_S_mostGuests w) (fun r u => ((0 : Int) ≤ r ∧ r ≤ 63) ∧ G md_S_mostGuests w u) := by
  unfold f_S_mostGuests
  exact s_S_mostGuests_4 FU (by have := eqFU; omega) hG (by omega) (by omega)
theorem s_E_states_53 {b : Wd} {k25 : Int → Int → Wd → Option (Int × Wd)} {Bk25 : Int} (hk25 : ∀ {w1 : Wd} {v1 v2 : Int}, ((3001 : Int) - v2) < Bk25 → G md_E_states b w1 → ((-2147483648 : Int) ≤ v1 ∧ v1 ≤ 2147483647) → ((0 : Int) ≤ v2 ∧ v2 ≤ 3000) → OK (k25 v1 v2 w1) (fun r u => ((-3 : Int) ≤ r ∧ r ≤ 3000) ∧ G md_E_states b u)) {w : Wd} {v2 s0 s1 : Int} (hG : G md_E_states b w) (i_v2 : ((0 : Int) ≤ v2 ∧ v2 ≤ 2999)) (i_s0 : ((-2147483648 : Int) ≤ s0 ∧ s0 ≤ 2147483647)) (i_s1 : ((0 : Int) ≤ s1 ∧ s1 ≤ 1)) (hBk25 : ((3001 : Int) - v2) ≤ Bk25) : OK (f_E_states_53 k25 v2 s0 s1 w) (fun r u => ((-3 : Int) ≤ r ∧ r ≤ 3000) ∧ G md_E_states b u) := by
  unfold f_E_states_53
  have := w32_sp ((s0 + s1))
  refine ok_let (fun x9 e1363 => ?_)
  have : (-2147483648 : Int) ≤ x9 ∧ x9 ≤ 2147483647 := by omega
  have := w32_sp ((v2 + (1 : Int)))
  refine ok_let (fun x10 e1364 => ?_)
  have : (1 : Int) ≤ x10 ∧ x10 ≤ 3000 := by omega
  exact hk25 (by omega) hG (by omega) (by omega)
theorem s_E_states_25 {b : Wd} : ∀ (n : Nat) {w : Wd} {v1 v2 : Int}, ((3001 : Int) - v2) < (n : Int) → G md_E_states b w → ((-2147483648 : Int) ≤ v1 ∧ v1 ≤ 2147483647) → ((0 : Int) ≤ v2 ∧ v2 ≤ 3000) → OK (f_E_states_25 n v1 v2 w) (fun r u => ((-3 : Int) ≤ r ∧ r ≤ 3000) ∧ G md_E_states b u) := by
  intro n
  induction n with
  | zero =>
    intro w v1 v2 hm hG i_v1 i_v2
    exfalso
    omega
  | succ n ih =>
    intro w v1 v2 hm hG i_v1 i_v2
    rw [f_E_states_25]
    have : (0 : Int) ≤ (w 28 7) ∧ (w 28 7) ≤ 3000 := hG.1 28 7
    refine ok_ite (fun h1365 => ?_) (fun h1366 => ?_)
    · refine ok_call (s_S_mostGuests (g_self hG)) (fun r3 u4 q => ?_)
      obtain ⟨i1367, g1368⟩ := q
      have g1369 : G md_E_states b u4 := g_tr hG g1368 rfl
      refine ok_call (s_N_tell2 (g_self g1369) (by omega) (by omega)) (fun r5 u6 q => ?_)
      obtain ⟨i1370, g1371⟩ := q
      have g1372 : G md_E_states b u6 := g_tr g1369 g1371 rfl
      have : (0 : Int) ≤ (u6 28 7) ∧ (u6 28 7) ≤ 3000 := g1372.1 28 7
      have : (u6 28 7) = (u4 28 7) := g1371.2.1 28 7 rfl
      have : (0 : Int) ≤ (u4 28 7) ∧ (u4 28 7) ≤ 3000 := g1369.1 28 7
      have : (u4 28 7) = (w 28 7) := g1368.2.1 28 7 rfl
      exact ok_some ⟨by omega, g1372⟩
    · refine ok_call (s_S_guests (g_self hG) (by omega)) (fun r7 u8 q => ?_)
      obtain ⟨i1373, g1374⟩ := q
      have g1375 : G md_E_states b u8 := g_tr hG g1374 rfl
      refine ok_ite (fun h1376 => ?_) (fun h1377 => ?_)
      · exact s_E_states_53 ih g1375 (by omega) (by omega) (by omega) (by omega)
      · exact s_E_states_53 ih g1375 (by omega) (by omega) (by omega) (by omega)
theorem s_E_states {w : Wd} (hG : G md_E_states w w) : OK (f_E_states w) (fun r u => ((-3 : Int) ≤ r ∧ r ≤ 3000) ∧ G md_E_states w u) := by
  unfold f_E_states
  refine ok_call (s_S_run (g_self hG)) (fun r1 u2 q => ?_)
  obtain ⟨i1378, g1379⟩ := q
  have g1380 : G md_E_states w u2 := g_tr hG g1379 rfl
  refine ok_ite (fun h1381 => ?_) (fun h1382 => ?_)
  · exact ok_some ⟨by omega, g1380⟩
  · exact s_E_states_25 FU (by have := eqFU; omega) g1380 (by omega) (by omega)
theorem s_S_weeksOf {w : Wd} {v1 : Int} (hG : G md_S_weeksOf w w) (i_v1 : ((0 : Int) ≤ v1 ∧ v1 ≤ 2999)) : OK (f_S_weeksOf v1 w) (fun r u => ((-9223372036854775808 : Int) ≤ r ∧ r ≤ 9223372036854775807) ∧ G md_S_weeksOf w u) := by
  unfold f_S_weeksOf
  refine ok_if (by omega) ?_
  have : (0 : Int) ≤ (w 28 7) ∧ (w 28 7) ≤ 3000 := hG.1 28 7
  refine ok_ite (fun h1383 => ?_) (fun h1384 => ?_)
  · exact ok_some ⟨by omega, hG⟩
  · refine ok_gd (by omega) ?_
    have : (-9223372036854775808 : Int) ≤ (w 31 (v1).toNat) ∧ (w 31 (v1).toNat) ≤ 9223372036854775807 := hG.1 31 (v1).toNat
    exact ok_some ⟨by omega, hG⟩
theorem s_S_canBe {w : Wd} {v1 v2 : Int} (hG : G md_S_canBe w w) (i_v1 : ((0 : Int) ≤ v1 ∧ v1 ≤ 2999)) (i_v2 : ((-1 : Int) ≤ v2 ∧ v2 ≤ 60)) : OK (f_S_canBe v1 v2 w) (fun r u => ((0 : Int) ≤ r ∧ r ≤ 1) ∧ G md_S_canBe w u) := by
  unfold f_S_canBe
  refine ok_call (s_S_weeksOf (g_self hG) (by omega)) (fun r1 u2 q => ?_)
  obtain ⟨i1385, g1386⟩ := q
  have g1387 : G md_S_canBe w u2 := g_tr hG g1386 rfl
  have := lshr_rg r1 v2
  have := land_rg (lshr r1 v2) (1 : Int)
  have := lcmp_rg (land (lshr r1 v2) (1 : Int)) (0 : Int)
  refine ok_ite (fun h1388 => ?_) (fun h1389 => ?_)
  · exact ok_some ⟨by omega, g1387⟩
  · exact ok_some ⟨by omega, g1387⟩
theorem s_E_most_82 {b : Wd} {k37 : Int → Int → Int → Int → Wd → Option (Int × Wd)} {Bk37 : Int} (hk37 : ∀ {w1 : Wd} {v1 v2 v3 v4 : Int}, ((3001 : Int) - v4) < Bk37 → G md_E_most b w1 → ((0 : Int) ≤ v1 ∧ v1 ≤ 60) → ((0 : Int) ≤ v2 ∧ v2 ≤ 63) → ((-2147483648 : Int) ≤ v3 ∧ v3 ≤ 2147483647) → ((0 : Int) ≤ v4 ∧ v4 ≤ 3000) → OK (k37 v1 v2 v3 v4 w1) (fun r u => ((-3 : Int) ≤ r ∧ r ≤ 63) ∧ G md_E_most b u)) {w : Wd} {v1 v2 v3 v4 : Int} (hG : G md_E_most b w) (i_v1 : ((0 : Int) ≤ v1 ∧ v1 ≤ 60)) (i_v2 : ((0 : Int) ≤ v2 ∧ v2 ≤ 63)) (i_v3 : ((-2147483648 : Int) ≤ v3 ∧ v3 ≤ 2147483647)) (i_v4 : ((0 : Int) ≤ v4 ∧ v4 ≤ 2999)) (hBk37 : ((3001 : Int) - v4) ≤ Bk37) : OK (f_E_most_82 k37 v1 v2 v3 v4 w) (fun r u => ((-3 : Int) ≤ r ∧ r ≤ 63) ∧ G md_E_most b u) := by
  unfold f_E_most_82
  have := w32_sp ((v4 + (1 : Int)))
  refine ok_let (fun x9 e1390 => ?_)
  have : (1 : Int) ≤ x9 ∧ x9 ≤ 3000 := by omega
  exact hk37 (by omega) hG (by omega) (by omega) (by omega) (by omega)
theorem s_E_most_37 {b : Wd} : ∀ (n : Nat) {w : Wd} {v1 v2 v3 v4 : Int}, ((3001 : Int) - v4) < (n : Int) → G md_E_most b w → ((0 : Int) ≤ v1 ∧ v1 ≤ 60) → ((0 : Int) ≤ v2 ∧ v2 ≤ 63) → ((-2147483648 : Int) ≤ v3 ∧ v3 ≤ 2147483647) → ((0 : Int) ≤ v4 ∧ v4 ≤ 3000) → OK (f_E_most_37 n v1 v2 v3 v4 w) (fun r u => ((-3 : Int) ≤ r ∧ r ≤ 63) ∧ G md_E_most b u) := by
  intro n
  induction n with
  | zero =>
    intro w v1 v2 v3 v4 hm hG i_v1 i_v2 i_v3 i_v4
    exfalso
    omega
  | succ n ih =>
    intro w v1 v2 v3 v4 hm hG i_v1 i_v2 i_v3 i_v4
    rw [f_E_most_37]
    have : (0 : Int) ≤ (w 28 7) ∧ (w 28 7) ≤ 3000 := hG.1 28 7
    refine ok_ite (fun h1391 => ?_) (fun h1392 => ?_)
    · refine ok_call (s_N_tell1 (g_self hG) (by omega)) (fun r5 u6 q => ?_)
      obtain ⟨i1393, g1394⟩ := q
      have g1395 : G md_E_most b u6 := g_tr hG g1394 rfl
      exact ok_some ⟨by omega, g1395⟩
    · refine ok_call (s_S_canBe (g_self hG) (by omega) (by omega)) (fun r7 u8 q => ?_)
      obtain ⟨i1396, g1397⟩ := q
      have g1398 : G md_E_most b u8 := g_tr hG g1397 rfl
      refine ok_ite (fun h1399 => ?_) (fun h1400 => ?_)
      · exact s_E_most_82 ih g1398 (by omega) (by omega) (by omega) (by omega) (by omega)
      · refine ok_call (s_S_guests (g_self g1398) (by omega)) (fun r10 u11 q => ?_)
        obtain ⟨i1401, g1402⟩ := q
        have g1403 : G md_E_most b u11 := g_tr g1398 g1402 rfl
        refine ok_call (s_JI_bitCount (g_self g1403) (by omega)) (fun r12 u13 q => ?_)
        obtain ⟨i1404, g1405⟩ := q
        have g1406 : G md_E_most b u13 := g_tr g1403 g1405 rfl
        have := imax_sp v2 r12
        refine ok_let (fun x14 e1407 => ?_)
        have : (0 : Int) ≤ x14 ∧ x14 ≤ 63 := by omega
        have := w32_sp ((v3 + (1 : Int)))
        refine ok_let (fun x15 e1408 => ?_)
        have : (-2147483648 : Int) ≤ x15 ∧ x15 ≤ 2147483647 := by omega
        exact s_E_most_82 ih g1406 (by omega) (by omega) (by omega) (by omega) (by omega)
theorem s_E_most {w : Wd} {v1 : Int} (hG : G md_E_most w w) (i_v1 : ((-2147483648 : Int) ≤ v1 ∧ v1 ≤ 2147483647)) : OK (f_E_most v1 w) (fun r u => ((-3 : Int) ≤ r ∧ r ≤ 63) ∧ G md_E_most w u) := by
  unfold f_E_most
  refine ok_jite (fun h1410 => ?_) (fun h1411 => ?_)
  · refine ok_jsome ?_
    refine ok_it (by decide) ?_
    exact ok_some ⟨by omega, hG⟩
  · refine ok_jite (fun h1412 => ?_) (fun h1413 => ?_)
    · refine ok_jsome ?_
      refine ok_it (by decide) ?_
      exact ok_some ⟨by omega, hG⟩
    · refine ok_jsome ?_
      refine ok_if (by decide) ?_
      refine ok_call (s_S_run (g_self hG)) (fun r3 u4 q => ?_)
      obtain ⟨i1414, g1415⟩ := q
      have g1416 : G md_E_most w u4 := g_tr hG g1415 rfl
      refine ok_ite (fun h1417 => ?_) (fun h1418 => ?_)
      · exact ok_some ⟨by omega, g1416⟩
      · exact s_E_most_37 FU (by have := eqFU; omega) g1416 (by omega) (by omega) (by omega) (by omega)
theorem s_E_reach_100 {b : Wd} {k39 : Int → Int → Int → Int → Wd → Option (Int × Wd)} {Bk39 : Int} (hk39 : ∀ {w1 : Wd} {v1 v2 v3 v4 : Int}, ((3001 : Int) - v4) < Bk39 → G md_E_reach b w1 → ((0 : Int) ≤ v1 ∧ v1 ≤ 60) → ((0 : Int) ≤ v2 ∧ v2 ≤ 1023) → ((0 : Int) ≤ v3 ∧ v3 ≤ 1023) → ((0 : Int) ≤ v4 ∧ v4 ≤ 3000) → OK (k39 v1 v2 v3 v4 w1) (fun r u => ((-3 : Int) ≤ r ∧ r ≤ 1023) ∧ G md_E_reach b u)) {w : Wd} {v1 v2 v3 v4 : Int} (hG : G md_E_reach b w) (i_v1 : ((0 : Int) ≤ v1 ∧ v1 ≤ 60)) (i_v2 : ((0 : Int) ≤ v2 ∧ v2 ≤ 1023)) (i_v3 : ((0 : Int) ≤ v3 ∧ v3 ≤ 1023)) (i_v4 : ((0 : Int) ≤ v4 ∧ v4 ≤ 2999)) (hBk39 : ((3001 : Int) - v4) ≤ Bk39) : OK (f_E_reach_100 k39 v1 v2 v3 v4 w) (fun r u => ((-3 : Int) ≤ r ∧ r ≤ 1023) ∧ G md_E_reach b u) := by
  unfold f_E_reach_100
  have := w32_sp ((v4 + (1 : Int)))
  refine ok_let (fun x9 e1419 => ?_)
  have : (1 : Int) ≤ x9 ∧ x9 ≤ 3000 := by omega
  exact hk39 (by omega) hG (by omega) (by omega) (by omega) (by omega)
theorem s_E_reach_39 {b : Wd} : ∀ (n : Nat) {w : Wd} {v1 v2 v3 v4 : Int}, ((3001 : Int) - v4) < (n : Int) → G md_E_reach b w → ((0 : Int) ≤ v1 ∧ v1 ≤ 60) → ((0 : Int) ≤ v2 ∧ v2 ≤ 1023) → ((0 : Int) ≤ v3 ∧ v3 ≤ 1023) → ((0 : Int) ≤ v4 ∧ v4 ≤ 3000) → OK (f_E_reach_39 n v1 v2 v3 v4 w) (fun r u => ((-3 : Int) ≤ r ∧ r ≤ 1023) ∧ G md_E_reach b u) := by
  intro n
  induction n with
  | zero =>
    intro w v1 v2 v3 v4 hm hG i_v1 i_v2 i_v3 i_v4
    exfalso
    omega
  | succ n ih =>
    intro w v1 v2 v3 v4 hm hG i_v1 i_v2 i_v3 i_v4
    rw [f_E_reach_39]
    have : (0 : Int) ≤ (w 28 7) ∧ (w 28 7) ≤ 3000 := hG.1 28 7
    refine ok_ite (fun h1420 => ?_) (fun h1421 => ?_)
    · have := iand_l (x := v2) (y := v3) (by omega)
      have := iand_r (x := v2) (y := v3) (by omega)
      refine ok_call (s_N_tell1 (g_self hG) (by omega)) (fun r5 u6 q => ?_)
      obtain ⟨i1422, g1423⟩ := q
      have g1424 : G md_E_reach b u6 := g_tr hG g1423 rfl
      exact ok_some ⟨by omega, g1424⟩
    · refine ok_call (s_S_canBe (g_self hG) (by omega) (by omega)) (fun r7 u8 q => ?_)
      obtain ⟨i1425, g1426⟩ := q
      have g1427 : G md_E_reach b u8 := g_tr hG g1426 rfl
      refine ok_ite (fun h1428 => ?_) (fun h1429 => ?_)
      · exact s_E_reach_100 ih g1427 (by omega) (by omega) (by omega) (by omega) (by omega)
      · refine ok_call (s_S_guests (g_self g1427) (by omega)) (fun r10 u11 q => ?_)
        obtain ⟨i1430, g1431⟩ := q
        have g1432 : G md_E_reach b u11 := g_tr g1427 g1431 rfl
        refine ok_ite (fun h1433 => ?_) (fun h1434 => ?_)
        · exact s_E_reach_100 ih g1432 (by omega) (by omega) (by omega) (by omega) (by omega)
        · refine ok_call (s_S_guests (g_self g1432) (by omega)) (fun r12 u13 q => ?_)
          obtain ⟨i1435, g1436⟩ := q
          have g1437 : G md_E_reach b u13 := g_tr g1432 g1436 rfl
          have := ior_n 10 (x := v2) (y := r12) (m := 1023) (by decide) (by decide) (by omega) (by omega)
          refine ok_let (fun x14 e1438 => ?_)
          have : (0 : Int) ≤ x14 ∧ x14 ≤ 1023 := by omega
          refine ok_call (s_S_guests (g_self g1437) (by omega)) (fun r15 u16 q => ?_)
          obtain ⟨i1439, g1440⟩ := q
          have g1441 : G md_E_reach b u16 := g_tr g1437 g1440 rfl
          have := iand_l (x := v3) (y := r15) (by omega)
          have := iand_r (x := v3) (y := r15) (by omega)
          refine ok_let (fun x17 e1442 => ?_)
          have : (0 : Int) ≤ x17 ∧ x17 ≤ 1023 := by omega
          exact s_E_reach_100 ih g1441 (by omega) (by omega) (by omega) (by omega) (by omega)
theorem s_E_reach {w : Wd} {v1 : Int} (hG : G md_E_reach w w) (i_v1 : ((-2147483648 : Int) ≤ v1 ∧ v1 ≤ 2147483647)) : OK (f_E_reach v1 w) (fun r u => ((-3 : Int) ≤ r ∧ r ≤ 1023) ∧ G md_E_reach w u) := by
  unfold f_E_reach
  refine ok_jite (fun h1444 => ?_) (fun h1445 => ?_)
  · refine ok_jsome ?_
    refine ok_it (by decide) ?_
    exact ok_some ⟨by omega, hG⟩
  · refine ok_jite (fun h1446 => ?_) (fun h1447 => ?_)
    · refine ok_jsome ?_
      refine ok_it (by decide) ?_
      exact ok_some ⟨by omega, hG⟩
    · refine ok_jsome ?_
      refine ok_if (by decide) ?_
      refine ok_call (s_S_run (g_self hG)) (fun r3 u4 q => ?_)
      obtain ⟨i1448, g1449⟩ := q
      have g1450 : G md_E_reach w u4 := g_tr hG g1449 rfl
      refine ok_ite (fun h1451 => ?_) (fun h1452 => ?_)
      · exact ok_some ⟨by omega, g1450⟩
      · exact s_E_reach_39 FU (by have := eqFU; omega) g1450 (by omega) (by omega) (by omega) (by omega)
theorem s_E_less_10 {b : Wd} {w : Wd} {v1 : Int} (hG : G md_E_less b w) (i_v1 : ((-2147483648 : Int) ≤ v1 ∧ v1 ≤ 2147483647)) : OK (f_E_less_10 v1 w) (fun r u => ((-2147483648 : Int) ≤ r ∧ r ≤ 2147483647) ∧ G md_E_less b u) := by
  unfold f_E_less_10
  exact ok_some ⟨by omega, hG⟩
theorem s_E_less {w : Wd} {v0 v1 : Int} (hG : G md_E_less w w) (i_v0 : ((-2147483648 : Int) ≤ v0 ∧ v0 ≤ 2147483647)) (i_v1 : ((-2147483648 : Int) ≤ v1 ∧ v1 ≤ 2147483647)) : OK (f_E_less v0 v1 w) (fun r u => ((-2147483648 : Int) ≤ r ∧ r ≤ 2147483647) ∧ G md_E_less w u) := by
  unfold f_E_less
  refine ok_ite (fun h1453 => ?_) (fun h1454 => ?_)
  · exact s_E_less_10 hG (by omega)
  · refine ok_ite (fun h1455 => ?_) (fun h1456 => ?_)
    · exact ok_some ⟨by omega, hG⟩
    · exact s_E_less_10 hG (by omega)
theorem s_S_fewestGuests_42 {b : Wd} {k4 : Int → Int → Int → Wd → Option (Int × Wd)} {Bk4 : Int} (hk4 : ∀ {w1 : Wd} {v1 v2 v3 : Int}, ((3001 : Int) - v3) < Bk4 → G md_S_fewestGuests b w1 → ((0 : Int) ≤ v1 ∧ v1 ≤ 60) → ((-2147483648 : Int) ≤ v2 ∧ v2 ≤ 2147483647) → ((0 : Int) ≤ v3 ∧ v3 ≤ 3000) → OK (k4 v1 v2 v3 w1) (fun r u => ((-2147483648 : Int) ≤ r ∧ r ≤ 2147483647) ∧ G md_S_fewestGuests b u)) {w : Wd} {v1 v2 v3 : Int} (hG : G md_S_fewestGuests b w) (i_v1 : ((0 : Int) ≤ v1 ∧ v1 ≤ 60)) (i_v2 : ((-2147483648 : Int) ≤ v2 ∧ v2 ≤ 2147483647)) (i_v3 : ((0 : Int) ≤ v3 ∧ v3 ≤ 2999)) (hBk4 : ((3001 : Int) - v3) ≤ Bk4) : OK (f_S_fewestGuests_42 k4 v1 v2 v3 w) (fun r u => ((-2147483648 : Int) ≤ r ∧ r ≤ 2147483647) ∧ G md_S_fewestGuests b u) := by
  unfold f_S_fewestGuests_42
  have := w32_sp ((v3 + (1 : Int)))
  refine ok_let (fun x3 e1457 => ?_)
  have : (1 : Int) ≤ x3 ∧ x3 ≤ 3000 := by omega
  exact hk4 (by omega) hG (by omega) (by omega) (by omega)
theorem s_S_fewestGuests_4 {b : Wd} : ∀ (n : Nat) {w : Wd} {v1 v2 v3 : Int}, ((3001 : Int) - v3) < (n : Int) → G md_S_fewestGuests b w → ((0 : Int) ≤ v1 ∧ v1 ≤ 60) → ((-2147483648 : Int) ≤ v2 ∧ v2 ≤ 2147483647) → ((0 : Int) ≤ v3 ∧ v3 ≤ 3000) → OK (f_S_fewestGuests_4 n v1 v2 v3 w) (fun r u => ((-2147483648 : Int) ≤ r ∧ r ≤ 2147483647) ∧ G md_S_fewestGuests b u) := by
  intro n
  induction n with
  | zero =>
    intro w v1 v2 v3 hm hG i_v1 i_v2 i_v3
    exfalso
    omega
  | succ n ih =>
    intro w v1 v2 v3 hm hG i_v1 i_v2 i_v3
    rw [f_S_fewestGuests_4]
    have : (0 : Int) ≤ (w 28 7) ∧ (w 28 7) ≤ 3000 := hG.1 28 7
    have : (w 28 7) = (b 28 7) := hG.2.1 28 7 rfl
    refine ok_ite (fun h1458 => ?_) (fun h1459 => ?_)
    · exact ok_some ⟨by omega, hG⟩
    · refine ok_call (s_S_canBe (g_self hG) (by omega) (by omega)) (fun r1 u2 q => ?_)
      obtain ⟨i1460, g1461⟩ := q
      have g1462 : G md_S_fewestGuests b u2 := g_tr hG g1461 rfl
      refine ok_ite (fun h1463 => ?_) (fun h1464 => ?_)
      · exact s_S_fewestGuests_42 ih g1462 (by omega) (by omega) (by omega) (by omega)
      · refine ok_call (s_S_guests (g_self g1462) (by omega)) (fun r4 u5 q => ?_)
        obtain ⟨i1465, g1466⟩ := q
        have g1467 : G md_S_fewestGuests b u5 := g_tr g1462 g1466 rfl
        refine ok_ite (fun h1468 => ?_) (fun h1469 => ?_)
        · exact s_S_fewestGuests_42 ih g1467 (by omega) (by omega) (by omega) (by omega)
        · refine ok_call (s_S_guests (g_self g1467) (by omega)) (fun r6 u7 q => ?_)
          obtain ⟨i1470, g1471⟩ := q
          have g1472 : G md_S_fewestGuests b u7 := g_tr g1467 g1471 rfl
          refine ok_call (s_JI_bitCount (g_self g1472) (by omega)) (fun r8 u9 q => ?_)
          obtain ⟨i1473, g1474⟩ := q
          have g1475 : G md_S_fewestGuests b u9 := g_tr g1472 g1474 rfl
          refine ok_call (s_E_less (g_self g1475) (by omega) (by omega)) (fun r10 u11 q => ?_)
          obtain ⟨i1476, g1477⟩ := q
          have g1478 : G md_S_fewestGuests b u11 := g_tr g1475 g1477 rfl
          exact s_S_fewestGuests_42 ih g1478 (by omega) (by omega) (by omega) (by omega)
theorem s_S_fewestGuests {w : Wd} {v1 : Int} (hG : G md_S_fewestGuests w w) (i_v1 : ((0 : Int) ≤ v1 ∧ v1 ≤ 60)) : OK (f_S_fewestGuests v1 w) (fun r u => ((-2147483648 : Int) ≤ r ∧ r ≤ 2147483647) ∧ G md_S_fewestGuests w u) := by
  unfold f_S_fewestGuests
  exact s_S_fewestGuests_4 FU (by have := eqFU; omega) hG (by omega) (by omega) (by omega)
theorem s_E_fewest {w : Wd} {v1 : Int} (hG : G md_E_fewest w w) (i_v1 : ((-2147483648 : Int) ≤ v1 ∧ v1 ≤ 2147483647)) : OK (f_E_fewest v1 w) (fun r u => ((-2147483648 : Int) ≤ r ∧ r ≤ 2147483647) ∧ G md_E_fewest w u) := by
  unfold f_E_fewest
  refine ok_jite (fun h1480 => ?_) (fun h1481 => ?_)
  · refine ok_jsome ?_
    refine ok_it (by decide) ?_
    exact ok_some ⟨by omega, hG⟩
  · refine ok_jite (fun h1482 => ?_) (fun h1483 => ?_)
    · refine ok_jsome ?_
      refine ok_it (by decide) ?_
      exact ok_some ⟨by omega, hG⟩
    · refine ok_jsome ?_
      refine ok_if (by decide) ?_
      refine ok_call (s_S_run (g_self hG)) (fun r3 u4 q => ?_)
      obtain ⟨i1484, g1485⟩ := q
      have g1486 : G md_E_fewest w u4 := g_tr hG g1485 rfl
      refine ok_ite (fun h1487 => ?_) (fun h1488 => ?_)
      · exact ok_some ⟨by omega, g1486⟩
      · refine ok_call (s_S_fewestGuests (g_self g1486) (by omega)) (fun r5 u6 q => ?_)
        obtain ⟨i1489, g1490⟩ := q
        have g1491 : G md_E_fewest w u6 := g_tr g1486 g1490 rfl
        refine ok_ite (fun h1492 => ?_) (fun h1493 => ?_)
        · exact ok_some ⟨by omega, g1491⟩
        · exact ok_some ⟨by omega, g1491⟩
theorem s_E_firstWeek_2 {b : Wd} : ∀ (n : Nat) {w : Wd} {v0 v2 : Int}, ((62 : Int) - v2) < (n : Int) → G md_E_firstWeek b w → ((-9223372036854775808 : Int) ≤ v0 ∧ v0 ≤ 9223372036854775807) → ((0 : Int) ≤ v2 ∧ v2 ≤ 61) → OK (f_E_firstWeek_2 n v0 v2 w) (fun r u => ((-1 : Int) ≤ r ∧ r ≤ 60) ∧ G md_E_firstWeek b u) := by
  intro n
  induction n with
  | zero =>
    intro w v0 v2 hm hG i_v0 i_v2
    exfalso
    omega
  | succ n ih =>
    intro w v0 v2 hm hG i_v0 i_v2
    rw [f_E_firstWeek_2]
    refine ok_ite (fun h1494 => ?_) (fun h1495 => ?_)
    · exact ok_some ⟨by omega, hG⟩
    · have := lshr_rg v0 v2
      have := land_rg (lshr v0 v2) (1 : Int)
      have := lcmp_rg (land (lshr v0 v2) (1 : Int)) (0 : Int)
      refine ok_ite (fun h1496 => ?_) (fun h1497 => ?_)
      · have := w32_sp ((v2 + (1 : Int)))
        refine ok_let (fun x1 e1498 => ?_)
        have : (1 : Int) ≤ x1 ∧ x1 ≤ 61 := by omega
        exact ih (by omega) hG (by omega) (by omega)
      · exact ok_some ⟨by omega, hG⟩
theorem s_E_firstWeek {w : Wd} {v0 : Int} (hG : G md_E_firstWeek w w) (i_v0 : ((-9223372036854775808 : Int) ≤ v0 ∧ v0 ≤ 9223372036854775807)) : OK (f_E_firstWeek v0 w) (fun r u => ((-1 : Int) ≤ r ∧ r ≤ 60) ∧ G md_E_firstWeek w u) := by
  unfold f_E_firstWeek
  exact s_E_firstWeek_2 FU (by have := eqFU; omega) hG (by omega) (by omega)
theorem s_S_paidFor {w : Wd} {v1 : Int} (hG : G md_S_paidFor w w) (i_v1 : ((0 : Int) ≤ v1 ∧ v1 ≤ 2999)) : OK (f_S_paidFor v1 w) (fun r u => ((-2147483648 : Int) ≤ r ∧ r ≤ 2147483647) ∧ G md_S_paidFor w u) := by
  unfold f_S_paidFor
  refine ok_if (by omega) ?_
  have : (0 : Int) ≤ (w 28 7) ∧ (w 28 7) ≤ 3000 := hG.1 28 7
  refine ok_ite (fun h1499 => ?_) (fun h1500 => ?_)
  · exact ok_some ⟨by omega, hG⟩
  · refine ok_call (s_F_strangers (g_self hG)) (fun r1 u2 q => ?_)
    obtain ⟨i1501, g1502⟩ := q
    have g1503 : G md_S_paidFor w u2 := g_tr hG g1502 rfl
    refine ok_gd (by omega) ?_
    have : (-2147483648 : Int) ≤ (u2 30 (v1).toNat) ∧ (u2 30 (v1).toNat) ≤ 2147483647 := g1503.1 30 (v1).toNat
    refine ok_call (s_O_known (g_self g1503) (by omega)) (fun r3 u4 q => ?_)
    obtain ⟨i1504, g1505⟩ := q
    have g1506 : G md_S_paidFor w u4 := g_tr g1503 g1505 rfl
    have := iand_l (x := r1) (y := r3) (by omega)
    have := iand_r (x := r1) (y := r3) (by omega)
    refine ok_call (s_F_pricesOf (g_self g1506) (by omega)) (fun r5 u6 q => ?_)
    obtain ⟨i1507, g1508⟩ := q
    have g1509 : G md_S_paidFor w u6 := g_tr g1506 g1508 rfl
    exact ok_some ⟨by omega, g1509⟩
theorem s_E_crowd_154 {b : Wd} {k92 : Int → Int → Int → Int → Wd → Option (Int × Wd)} {Bk92 : Int} (hk92 : ∀ {w1 : Wd} {v1 v4 v5 v6 : Int}, ((3001 : Int) - v6) < Bk92 → G md_E_crowd b w1 → ((0 : Int) ≤ v1 ∧ v1 ≤ 63) → ((-1 : Int) ≤ v4 ∧ v4 ≤ 60) → ((-2147483648 : Int) ≤ v5 ∧ v5 ≤ 2147483647) → ((0 : Int) ≤ v6 ∧ v6 ≤ 3000) → OK (k92 v1 v4 v5 v6 w1) (fun r u => ((-3 : Int) ≤ r ∧ r ≤ 60) ∧ G md_E_crowd b u)) {w : Wd} {v1 v4 v5 v6 : Int} (hG : G md_E_crowd b w) (i_v1 : ((0 : Int) ≤ v1 ∧ v1 ≤ 63)) (i_v4 : ((-1 : Int) ≤ v4 ∧ v4 ≤ 60)) (i_v5 : ((-2147483648 : Int) ≤ v5 ∧ v5 ≤ 2147483647)) (i_v6 : ((0 : Int) ≤ v6 ∧ v6 ≤ 2999)) (hBk92 : ((3001 : Int) - v6) ≤ Bk92) : OK (f_E_crowd_154 k92 v1 v4 v5 v6 w) (fun r u => ((-3 : Int) ≤ r ∧ r ≤ 60) ∧ G md_E_crowd b u) := by
  unfold f_E_crowd_154
  have := w32_sp ((v6 + (1 : Int)))
  refine ok_let (fun x13 e1510 => ?_)
  have : (1 : Int) ≤ x13 ∧ x13 ≤ 3000 := by omega
  exact hk92 (by omega) hG (by omega) (by omega) (by omega) (by omega)
theorem s_E_crowd_92 {b : Wd} : ∀ (n : Nat) {w : Wd} {v1 v4 v5 v6 : Int}, ((3001 : Int) - v6) < (n : Int) → G md_E_crowd b w → ((0 : Int) ≤ v1 ∧ v1 ≤ 63) → ((-1 : Int) ≤ v4 ∧ v4 ≤ 60) → ((-2147483648 : Int) ≤ v5 ∧ v5 ≤ 2147483647) → ((0 : Int) ≤ v6 ∧ v6 ≤ 3000) → OK (f_E_crowd_92 n v1 v4 v5 v6 w) (fun r u => ((-3 : Int) ≤ r ∧ r ≤ 60) ∧ G md_E_crowd b u) := by
  intro n
  induction n with
  | zero =>
    intro w v1 v4 v5 v6 hm hG i_v1 i_v4 i_v5 i_v6
    exfalso
    omega
  | succ n ih =>
    intro w v1 v4 v5 v6 hm hG i_v1 i_v4 i_v5 i_v6
    rw [f_E_crowd_92]
    have : (0 : Int) ≤ (w 28 7) ∧ (w 28 7) ≤ 3000 := hG.1 28 7
    refine ok_ite (fun h1511 => ?_) (fun h1512 => ?_)
    · refine ok_call (s_N_tell2 (g_self hG) (by omega) (by omega)) (fun r7 u8 q => ?_)
      obtain ⟨i1513, g1514⟩ := q
      have g1515 : G md_E_crowd b u8 := g_tr hG g1514 rfl
      exact ok_some ⟨by omega, g1515⟩
    · refine ok_call (s_S_guests (g_self hG) (by omega)) (fun r9 u10 q => ?_)
      obtain ⟨i1516, g1517⟩ := q
      have g1518 : G md_E_crowd b u10 := g_tr hG g1517 rfl
      refine ok_call (s_JI_bitCount (g_self g1518) (by omega)) (fun r11 u12 q => ?_)
      obtain ⟨i1519, g1520⟩ := q
      have g1521 : G md_E_crowd b u12 := g_tr g1518 g1520 rfl
      refine ok_ite (fun h1522 => ?_) (fun h1523 => ?_)
      · refine ok_call (s_S_canBe (g_self g1521) (by omega) (by omega)) (fun r14 u15 q => ?_)
        obtain ⟨i1524, g1525⟩ := q
        have g1526 : G md_E_crowd b u15 := g_tr g1521 g1525 rfl
        refine ok_ite (fun h1527 => ?_) (fun h1528 => ?_)
        · exact s_E_crowd_154 ih g1526 (by omega) (by omega) (by omega) (by omega) (by omega)
        · refine ok_call (s_S_paidFor (g_self g1526) (by omega)) (fun r16 u17 q => ?_)
          obtain ⟨i1529, g1530⟩ := q
          have g1531 : G md_E_crowd b u17 := g_tr g1526 g1530 rfl
          refine ok_call (s_E_less (g_self g1531) (by omega) (by omega)) (fun r18 u19 q => ?_)
          obtain ⟨i1532, g1533⟩ := q
          have g1534 : G md_E_crowd b u19 := g_tr g1531 g1533 rfl
          exact s_E_crowd_154 ih g1534 (by omega) (by omega) (by omega) (by omega) (by omega)
      · exact s_E_crowd_154 ih g1521 (by omega) (by omega) (by omega) (by omega) (by omega)
theorem s_E_crowd_74 {b : Wd} {k34 : Int → Int → Int → Wd → Option (Int × Wd)} {Bk34 : Int} (hk34 : ∀ {w1 : Wd} {v1 v2 v4 : Int}, ((3001 : Int) - v4) < Bk34 → G md_E_crowd b w1 → ((0 : Int) ≤ v1 ∧ v1 ≤ 63) → ((-9223372036854775808 : Int) ≤ v2 ∧ v2 ≤ 9223372036854775807) → ((0 : Int) ≤ v4 ∧ v4 ≤ 3000) → OK (k34 v1 v2 v4 w1) (fun r u => ((-3 : Int) ≤ r ∧ r ≤ 60) ∧ G md_E_crowd b u)) {w : Wd} {v1 v2 v4 : Int} (hG : G md_E_crowd b w) (i_v1 : ((0 : Int) ≤ v1 ∧ v1 ≤ 63)) (i_v2 : ((-9223372036854775808 : Int) ≤ v2 ∧ v2 ≤ 9223372036854775807)) (i_v4 : ((0 : Int) ≤ v4 ∧ v4 ≤ 2999)) (hBk34 : ((3001 : Int) - v4) ≤ Bk34) : OK (f_E_crowd_74 k34 v1 v2 v4 w) (fun r u => ((-3 : Int) ≤ r ∧ r ≤ 60) ∧ G md_E_crowd b u) := by
  unfold f_E_crowd_74
  have := w32_sp ((v4 + (1 : Int)))
  refine ok_let (fun x24 e1535 => ?_)
  have : (1 : Int) ≤ x24 ∧ x24 ≤ 3000 := by omega
  exact hk34 (by omega) hG (by omega) (by omega) (by omega)
theorem s_E_crowd_34 {b : Wd} : ∀ (n : Nat) {w : Wd} {v1 v2 v4 : Int}, ((3001 : Int) - v4) < (n : Int) → G md_E_crowd b w → ((0 : Int) ≤ v1 ∧ v1 ≤ 63) → ((-9223372036854775808 : Int) ≤ v2 ∧ v2 ≤ 9223372036854775807) → ((0 : Int) ≤ v4 ∧ v4 ≤ 3000) → OK (f_E_crowd_34 n v1 v2 v4 w) (fun r u => ((-3 : Int) ≤ r ∧ r ≤ 60) ∧ G md_E_crowd b u) := by
  intro n
  induction n with
  | zero =>
    intro w v1 v2 v4 hm hG i_v1 i_v2 i_v4
    exfalso
    omega
  | succ n ih =>
    intro w v1 v2 v4 hm hG i_v1 i_v2 i_v4
    rw [f_E_crowd_34]
    have : (0 : Int) ≤ (w 28 7) ∧ (w 28 7) ≤ 3000 := hG.1 28 7
    refine ok_ite (fun h1536 => ?_) (fun h1537 => ?_)
    · refine ok_call (s_E_firstWeek (g_self hG) (by omega)) (fun r5 u6 q => ?_)
      obtain ⟨i1538, g1539⟩ := q
      have g1540 : G md_E_crowd b u6 := g_tr hG g1539 rfl
      exact s_E_crowd_92 FU (by have := eqFU; omega) g1540 (by omega) (by omega) (by omega) (by omega)
    · refine ok_call (s_S_guests (g_self hG) (by omega)) (fun r20 u21 q => ?_)
      obtain ⟨i1541, g1542⟩ := q
      have g1543 : G md_E_crowd b u21 := g_tr hG g1542 rfl
      refine ok_call (s_JI_bitCount (g_self g1543) (by omega)) (fun r22 u23 q => ?_)
      obtain ⟨i1544, g1545⟩ := q
      have g1546 : G md_E_crowd b u23 := g_tr g1543 g1545 rfl
      refine ok_ite (fun h1547 => ?_) (fun h1548 => ?_)
      · refine ok_call (s_S_weeksOf (g_self g1546) (by omega)) (fun r25 u26 q => ?_)
        obtain ⟨i1549, g1550⟩ := q
        have g1551 : G md_E_crowd b u26 := g_tr g1546 g1550 rfl
        have := lor_rg v2 r25
        refine ok_let (fun x27 e1552 => ?_)
        have : (-9223372036854775808 : Int) ≤ x27 ∧ x27 ≤ 9223372036854775807 := by omega
        exact s_E_crowd_74 ih g1551 (by omega) (by omega) (by omega) (by omega)
      · exact s_E_crowd_74 ih g1546 (by omega) (by omega) (by omega) (by omega)
theorem s_E_crowd {w : Wd} (hG : G md_E_crowd w w) : OK (f_E_crowd w) (fun r u => ((-3 : Int) ≤ r ∧ r ≤ 60) ∧ G md_E_crowd w u) := by
  unfold f_E_crowd
  refine ok_call (s_S_run (g_self hG)) (fun r1 u2 q => ?_)
  obtain ⟨i1553, g1554⟩ := q
  have g1555 : G md_E_crowd w u2 := g_tr hG g1554 rfl
  refine ok_ite (fun h1556 => ?_) (fun h1557 => ?_)
  · exact ok_some ⟨by omega, g1555⟩
  · refine ok_call (s_S_mostGuests (g_self g1555)) (fun r3 u4 q => ?_)
    obtain ⟨i1558, g1559⟩ := q
    have g1560 : G md_E_crowd w u4 := g_tr g1555 g1559 rfl
    exact s_E_crowd_34 FU (by have := eqFU; omega) g1560 (by omega) (by omega) (by omega)
theorem s_S_leastPaid_61 {b : Wd} {k6 : Int → Int → Int → Int → Wd → Option (Int × Wd)} {Bk6 : Int} (hk6 : ∀ {w1 : Wd} {v1 v2 v4 v5 : Int}, ((3001 : Int) - v5) < Bk6 → G md_S_leastPaid b w1 → ((0 : Int) ≤ v1 ∧ v1 ≤ 1023) → ((0 : Int) ≤ v2 ∧ v2 ≤ 60) → ((-2147483648 : Int) ≤ v4 ∧ v4 ≤ 2147483647) → ((0 : Int) ≤ v5 ∧ v5 ≤ 3000) → OK (k6 v1 v2 v4 v5 w1) (fun r u => ((-2147483648 : Int) ≤ r ∧ r ≤ 2147483647) ∧ G md_S_leastPaid b u)) {w : Wd} {v1 v2 v4 v5 : Int} (hG : G md_S_leastPaid b w) (i_v1 : ((0 : Int) ≤ v1 ∧ v1 ≤ 1023)) (i_v2 : ((0 : Int) ≤ v2 ∧ v2 ≤ 60)) (i_v4 : ((-2147483648 : Int) ≤ v4 ∧ v4 ≤ 2147483647)) (i_v5 : ((0 : Int) ≤ v5 ∧ v5 ≤ 2999)) (hBk6 : ((3001 : Int) - v5) ≤ Bk6) : OK (f_S_leastPaid_61 k6 v1 v2 v4 v5 w) (fun r u => ((-2147483648 : Int) ≤ r ∧ r ≤ 2147483647) ∧ G md_S_leastPaid b u) := by
  unfold f_S_leastPaid_61
  have := w32_sp ((v5 + (1 : Int)))
  refine ok_let (fun x3 e1561 => ?_)
  have : (1 : Int) ≤ x3 ∧ x3 ≤ 3000 := by omega
  exact hk6 (by omega) hG (by omega) (by omega) (by omega) (by omega)
theorem s_S_leastPaid_6 {b : Wd} : ∀ (n : Nat) {w : Wd} {v1 v2 v4 v5 : Int}, ((3001 : Int) - v5) < (n : Int) → G md_S_leastPaid b w → ((0 : Int) ≤ v1 ∧ v1 ≤ 1023) → ((0 : Int) ≤ v2 ∧ v2 ≤ 60) → ((-2147483648 : Int) ≤ v4 ∧ v4 ≤ 2147483647) → ((0 : Int) ≤ v5 ∧ v5 ≤ 3000) → OK (f_S_leastPaid_6 n v1 v2 v4 v5 w) (fun r u => ((-2147483648 : Int) ≤ r ∧ r ≤ 2147483647) ∧ G md_S_leastPaid b u) := by
  intro n
  induction n with
  | zero =>
    intro w v1 v2 v4 v5 hm hG i_v1 i_v2 i_v4 i_v5
    exfalso
    omega
  | succ n ih =>
    intro w v1 v2 v4 v5 hm hG i_v1 i_v2 i_v4 i_v5
    rw [f_S_leastPaid_6]
    have : (0 : Int) ≤ (w 28 7) ∧ (w 28 7) ≤ 3000 := hG.1 28 7
    have : (w 28 7) = (b 28 7) := hG.2.1 28 7 rfl
    refine ok_ite (fun h1562 => ?_) (fun h1563 => ?_)
    · exact ok_some ⟨by omega, hG⟩
    · refine ok_call (s_S_canBe (g_self hG) (by omega) (by omega)) (fun r1 u2 q => ?_)
      obtain ⟨i1564, g1565⟩ := q
      have g1566 : G md_S_leastPaid b u2 := g_tr hG g1565 rfl
      refine ok_ite (fun h1567 => ?_) (fun h1568 => ?_)
      · exact s_S_leastPaid_61 ih g1566 (by omega) (by omega) (by omega) (by omega) (by omega)
      · refine ok_call (s_S_guests (g_self g1566) (by omega)) (fun r4 u5 q => ?_)
        obtain ⟨i1569, g1570⟩ := q
        have g1571 : G md_S_leastPaid b u5 := g_tr g1566 g1570 rfl
        refine ok_ite (fun h1572 => ?_) (fun h1573 => ?_)
        · exact s_S_leastPaid_61 ih g1571 (by omega) (by omega) (by omega) (by omega) (by omega)
        · refine ok_call (s_S_guests (g_self g1571) (by omega)) (fun r6 u7 q => ?_)
          obtain ⟨i1574, g1575⟩ := q
          have g1576 : G md_S_leastPaid b u7 := g_tr g1571 g1575 rfl
          have := ixor_m1 (x := r6) (by omega)
          have := iand_l (x := v1) (y := (ixor r6 (-1 : Int))) (by omega)
          refine ok_ite (fun h1577 => ?_) (fun h1578 => ?_)
          · refine ok_call (s_S_paidFor (g_self g1576) (by omega)) (fun r8 u9 q => ?_)
            obtain ⟨i1579, g1580⟩ := q
            have g1581 : G md_S_leastPaid b u9 := g_tr g1576 g1580 rfl
            refine ok_call (s_E_less (g_self g1581) (by omega) (by omega)) (fun r10 u11 q => ?_)
            obtain ⟨i1582, g1583⟩ := q
            have g1584 : G md_S_leastPaid b u11 := g_tr g1581 g1583 rfl
            exact s_S_leastPaid_61 ih g1584 (by omega) (by omega) (by omega) (by omega) (by omega)
          · exact s_S_leastPaid_61 ih g1576 (by omega) (by omega) (by omega) (by omega) (by omega)
theorem s_S_leastPaid {w : Wd} {v1 v2 : Int} (hG : G md_S_leastPaid w w) (i_v1 : ((0 : Int) ≤ v1 ∧ v1 ≤ 1023)) (i_v2 : ((0 : Int) ≤ v2 ∧ v2 ≤ 60)) : OK (f_S_leastPaid v1 v2 w) (fun r u => ((-2147483648 : Int) ≤ r ∧ r ≤ 2147483647) ∧ G md_S_leastPaid w u) := by
  unfold f_S_leastPaid
  exact s_S_leastPaid_6 FU (by have := eqFU; omega) hG (by omega) (by omega) (by omega) (by omega)
theorem s_E_both {w : Wd} {v1 v2 v3 : Int} (hG : G md_E_both w w) (i_v1 : ((-2147483648 : Int) ≤ v1 ∧ v1 ≤ 2147483647)) (i_v2 : ((-2147483648 : Int) ≤ v2 ∧ v2 ≤ 2147483647)) (i_v3 : ((-2147483648 : Int) ≤ v3 ∧ v3 ≤ 2147483647)) : OK (f_E_both v1 v2 v3 w) (fun r u => ((-2147483648 : Int) ≤ r ∧ r ≤ 2147483647) ∧ G md_E_both w u) := by
  unfold f_E_both
  refine ok_jite (fun h1586 => ?_) (fun h1587 => ?_)
  · refine ok_jsome ?_
    refine ok_it (by decide) ?_
    exact ok_some ⟨by omega, hG⟩
  · refine ok_jj ?_
    refine ok_jite (fun h1589 => ?_) (fun h1590 => ?_)
    · refine ok_jsome ?_
      refine ok_jit (by decide) ?_
      refine ok_jsome ?_
      refine ok_it (by decide) ?_
      exact ok_some ⟨by omega, hG⟩
    · have : (0 : Int) ≤ (w 5 3) ∧ (w 5 3) ≤ 10 := hG.1 5 3
      refine ok_jite (fun h1591 => ?_) (fun h1592 => ?_)
      · refine ok_jsome ?_
        refine ok_jit (by decide) ?_
        refine ok_jsome ?_
        refine ok_it (by decide) ?_
        exact ok_some ⟨by omega, hG⟩
      · refine ok_jsome ?_
        refine ok_jif (by decide) ?_
        refine ok_jj ?_
        refine ok_jite (fun h1594 => ?_) (fun h1595 => ?_)
        · refine ok_jsome ?_
          refine ok_jit (by decide) ?_
          refine ok_jsome ?_
          refine ok_it (by decide) ?_
          exact ok_some ⟨by omega, hG⟩
        · refine ok_jite (fun h1596 => ?_) (fun h1597 => ?_)
          · refine ok_jsome ?_
            refine ok_jit (by decide) ?_
            refine ok_jsome ?_
            refine ok_it (by decide) ?_
            exact ok_some ⟨by omega, hG⟩
          · refine ok_jsome ?_
            refine ok_jif (by decide) ?_
            refine ok_jsome ?_
            refine ok_if (by decide) ?_
            refine ok_jite (fun h1599 => ?_) (fun h1600 => ?_)
            · refine ok_jsome ?_
              refine ok_it (by decide) ?_
              exact ok_some ⟨by omega, hG⟩
            · refine ok_jite (fun h1601 => ?_) (fun h1602 => ?_)
              · refine ok_jsome ?_
                refine ok_it (by decide) ?_
                exact ok_some ⟨by omega, hG⟩
              · refine ok_jsome ?_
                refine ok_if (by decide) ?_
                refine ok_call (s_S_run (g_self hG)) (fun r5 u6 q => ?_)
                obtain ⟨i1603, g1604⟩ := q
                have g1605 : G md_E_both w u6 := g_tr hG g1604 rfl
                refine ok_ite (fun h1606 => ?_) (fun h1607 => ?_)
                · exact ok_some ⟨by omega, g1605⟩
                · have := ishl1_n 9 (i := v1) (j := 9) (m := 512) (by decide) (by decide) (by decide) (by omega)
                  have := ishl1_n 9 (i := v2) (j := 9) (m := 512) (by decide) (by decide) (by decide) (by omega)
                  have := ior_n 10 (x := (ishl (1 : Int) v1)) (y := (ishl (1 : Int) v2)) (m := 1023) (by decide) (by decide) (by omega) (by omega)
                  refine ok_call (s_S_leastPaid (g_self g1605) (by omega) (by omega)) (fun r7 u8 q => ?_)
                  obtain ⟨i1608, g1609⟩ := q
                  have g1610 : G md_E_both w u8 := g_tr g1605 g1609 rfl
                  refine ok_ite (fun h1611 => ?_) (fun h1612 => ?_)
                  · exact ok_some ⟨by omega, g1610⟩
                  · exact ok_some ⟨by omega, g1610⟩
theorem s_S_weeksWith_61 {b : Wd} {k5 : Int → Int → Int → Int → Wd → Option (Int × Wd)} {Bk5 : Int} (hk5 : ∀ {w1 : Wd} {v1 v2 v3 v5 : Int}, ((3001 : Int) - v5) < Bk5 → G md_S_weeksWith b w1 → ((0 : Int) ≤ v1 ∧ v1 ≤ 512) → ((0 : Int) ≤ v2 ∧ v2 ≤ 512) → ((-9223372036854775808 : Int) ≤ v3 ∧ v3 ≤ 9223372036854775807) → ((0 : Int) ≤ v5 ∧ v5 ≤ 3000) → OK (k5 v1 v2 v3 v5 w1) (fun r u => ((-9223372036854775808 : Int) ≤ r ∧ r ≤ 9223372036854775807) ∧ G md_S_weeksWith b u)) {w : Wd} {v1 v2 v3 v5 : Int} (hG : G md_S_weeksWith b w) (i_v1 : ((0 : Int) ≤ v1 ∧ v1 ≤ 512)) (i_v2 : ((0 : Int) ≤ v2 ∧ v2 ≤ 512)) (i_v3 : ((-9223372036854775808 : Int) ≤ v3 ∧ v3 ≤ 9223372036854775807)) (i_v5 : ((0 : Int) ≤ v5 ∧ v5 ≤ 2999)) (hBk5 : ((3001 : Int) - v5) ≤ Bk5) : OK (f_S_weeksWith_61 k5 v1 v2 v3 v5 w) (fun r u => ((-9223372036854775808 : Int) ≤ r ∧ r ≤ 9223372036854775807) ∧ G md_S_weeksWith b u) := by
  unfold f_S_weeksWith_61
  have := w32_sp ((v5 + (1 : Int)))
  refine ok_let (fun x3 e1613 => ?_)
  have : (1 : Int) ≤ x3 ∧ x3 ≤ 3000 := by omega
  exact hk5 (by omega) hG (by omega) (by omega) (by omega) (by omega)
theorem s_S_weeksWith_5 {b : Wd} : ∀ (n : Nat) {w : Wd} {v1 v2 v3 v5 : Int}, ((3001 : Int) - v5) < (n : Int) → G md_S_weeksWith b w → ((0 : Int) ≤ v1 ∧ v1 ≤ 512) → ((0 : Int) ≤ v2 ∧ v2 ≤ 512) → ((-9223372036854775808 : Int) ≤ v3 ∧ v3 ≤ 9223372036854775807) → ((0 : Int) ≤ v5 ∧ v5 ≤ 3000) → OK (f_S_weeksWith_5 n v1 v2 v3 v5 w) (fun r u => ((-9223372036854775808 : Int) ≤ r ∧ r ≤ 9223372036854775807) ∧ G md_S_weeksWith b u) := by
  intro n
  induction n with
  | zero =>
    intro w v1 v2 v3 v5 hm hG i_v1 i_v2 i_v3 i_v5
    exfalso
    omega
  | succ n ih =>
    intro w v1 v2 v3 v5 hm hG i_v1 i_v2 i_v3 i_v5
    rw [f_S_weeksWith_5]
    have : (0 : Int) ≤ (w 28 7) ∧ (w 28 7) ≤ 3000 := hG.1 28 7
    have : (w 28 7) = (b 28 7) := hG.2.1 28 7 rfl
    refine ok_ite (fun h1614 => ?_) (fun h1615 => ?_)
    · exact ok_some ⟨by omega, hG⟩
    · refine ok_call (s_S_guests (g_self hG) (by omega)) (fun r1 u2 q => ?_)
      obtain ⟨i1616, g1617⟩ := q
      have g1618 : G md_S_weeksWith b u2 := g_tr hG g1617 rfl
      refine ok_ite (fun h1619 => ?_) (fun h1620 => ?_)
      · exact s_S_weeksWith_61 ih g1618 (by omega) (by omega) (by omega) (by omega) (by omega)
      · refine ok_call (s_S_guests (g_self g1618) (by omega)) (fun r4 u5 q => ?_)
        obtain ⟨i1621, g1622⟩ := q
        have g1623 : G md_S_weeksWith b u5 := g_tr g1618 g1622 rfl
        have := ixor_m1 (x := r4) (by omega)
        have := iand_l (x := v1) (y := (ixor r4 (-1 : Int))) (by omega)
        refine ok_ite (fun h1624 => ?_) (fun h1625 => ?_)
        · refine ok_gd (by omega) ?_
          have : (-2147483648 : Int) ≤ (u5 30 (v5).toNat) ∧ (u5 30 (v5).toNat) ≤ 2147483647 := g1623.1 30 (v5).toNat
          refine ok_call (s_O_known (g_self g1623) (by omega)) (fun r6 u7 q => ?_)
          obtain ⟨i1626, g1627⟩ := q
          have g1628 : G md_S_weeksWith b u7 := g_tr g1623 g1627 rfl
          have := iand_l (x := r6) (y := v2) (by omega)
          have := iand_r (x := r6) (y := v2) (by omega)
          refine ok_ite (fun h1629 => ?_) (fun h1630 => ?_)
          · refine ok_gd (by omega) ?_
            have : (-9223372036854775808 : Int) ≤ (u7 31 (v5).toNat) ∧ (u7 31 (v5).toNat) ≤ 9223372036854775807 := g1628.1 31 (v5).toNat
            have := lor_rg v3 (u7 31 (v5).toNat)
            refine ok_let (fun x8 e1631 => ?_)
            have : (-9223372036854775808 : Int) ≤ x8 ∧ x8 ≤ 9223372036854775807 := by omega
            exact s_S_weeksWith_61 ih g1628 (by omega) (by omega) (by omega) (by omega) (by omega)
          · exact s_S_weeksWith_61 ih g1628 (by omega) (by omega) (by omega) (by omega) (by omega)
        · exact s_S_weeksWith_61 ih g1623 (by omega) (by omega) (by omega) (by omega) (by omega)
theorem s_S_weeksWith {w : Wd} {v1 v2 : Int} (hG : G md_S_weeksWith w w) (i_v1 : ((0 : Int) ≤ v1 ∧ v1 ≤ 512)) (i_v2 : ((0 : Int) ≤ v2 ∧ v2 ≤ 512)) : OK (f_S_weeksWith v1 v2 w) (fun r u => ((-9223372036854775808 : Int) ≤ r ∧ r ≤ 9223372036854775807) ∧ G md_S_weeksWith w u) := by
  unfold f_S_weeksWith
  exact s_S_weeksWith_5 FU (by have := eqFU; omega) hG (by omega) (by omega) (by omega) (by omega)
theorem s_S_lastWeek_11 {b : Wd} : ∀ (n : Nat) {w : Wd} {v3 v5 : Int}, (v5 + (2 : Int)) < (n : Int) → G md_S_lastWeek b w → ((-9223372036854775808 : Int) ≤ v3 ∧ v3 ≤ 9223372036854775807) → ((-1 : Int) ≤ v5 ∧ v5 ≤ 60) → OK (f_S_lastWeek_11 n v3 v5 w) (fun r u => ((-1 : Int) ≤ r ∧ r ≤ 60) ∧ G md_S_lastWeek b u) := by
  intro n
  induction n with
  | zero =>
    intro w v3 v5 hm hG i_v3 i_v5
    exfalso
    omega
  | succ n ih =>
    intro w v3 v5 hm hG i_v3 i_v5
    rw [f_S_lastWeek_11]
    refine ok_ite (fun h1632 => ?_) (fun h1633 => ?_)
    · exact ok_some ⟨by omega, hG⟩
    · have := lshr_rg v3 v5
      have := land_rg (lshr v3 v5) (1 : Int)
      have := lcmp_rg (land (lshr v3 v5) (1 : Int)) (0 : Int)
      refine ok_ite (fun h1634 => ?_) (fun h1635 => ?_)
      · have := w32_sp ((v5 + (-1 : Int)))
        refine ok_let (fun x3 e1636 => ?_)
        have : (-1 : Int) ≤ x3 ∧ x3 ≤ 59 := by omega
        exact ih (by omega) hG (by omega) (by omega)
      · exact ok_some ⟨by omega, hG⟩
theorem s_S_lastWeek {w : Wd} {v1 v2 : Int} (hG : G md_S_lastWeek w w) (i_v1 : ((0 : Int) ≤ v1 ∧ v1 ≤ 512)) (i_v2 : ((0 : Int) ≤ v2 ∧ v2 ≤ 512)) : OK (f_S_lastWeek v1 v2 w) (fun r u => ((-1 : Int) ≤ r ∧ r ≤ 60) ∧ G md_S_lastWeek w u) := by
  unfold f_S_lastWeek
  refine ok_call (s_S_weeksWith (g_self hG) (by omega) (by omega)) (fun r1 u2 q => ?_)
  obtain ⟨i1637, g1638⟩ := q
  have g1639 : G md_S_lastWeek w u2 := g_tr hG g1638 rfl
  exact s_S_lastWeek_11 FU (by have := eqFU; omega) g1639 (by omega) (by omega)
theorem s_E_last {w : Wd} (hG : G md_E_last w w) : OK (f_E_last w) (fun r u => ((-3 : Int) ≤ r ∧ r ≤ 60) ∧ G md_E_last w u) := by
  unfold f_E_last
  refine ok_call (s_S_run (g_self hG)) (fun r1 u2 q => ?_)
  obtain ⟨i1640, g1641⟩ := q
  have g1642 : G md_E_last w u2 := g_tr hG g1641 rfl
  refine ok_ite (fun h1643 => ?_) (fun h1644 => ?_)
  · exact ok_some ⟨by omega, g1642⟩
  · refine ok_call (s_S_lastWeek (g_self g1642) (by omega) (by omega)) (fun r3 u4 q => ?_)
    obtain ⟨i1645, g1646⟩ := q
    have g1647 : G md_E_last w u4 := g_tr g1642 g1646 rfl
    refine ok_ite (fun h1648 => ?_) (fun h1649 => ?_)
    · exact ok_some ⟨by omega, g1647⟩
    · refine ok_call (s_S_fewestGuests (g_self g1647) (by omega)) (fun r5 u6 q => ?_)
      obtain ⟨i1650, g1651⟩ := q
      have g1652 : G md_E_last w u6 := g_tr g1647 g1651 rfl
      refine ok_call (s_N_tell1 (g_self g1652) (by omega)) (fun r7 u8 q => ?_)
      obtain ⟨i1653, g1654⟩ := q
      have g1655 : G md_E_last w u8 := g_tr g1652 g1654 rfl
      exact ok_some ⟨by omega, g1655⟩
theorem s_S_leftOf {w : Wd} {v1 : Int} (hG : G md_S_leftOf w w) (i_v1 : ((-2147483648 : Int) ≤ v1 ∧ v1 ≤ 2147483647)) : OK (f_S_leftOf v1 w) (fun r u => ((-9223372036854775808 : Int) ≤ r ∧ r ≤ 9223372036854775807) ∧ G md_S_leftOf w u) := by
  unfold f_S_leftOf
  refine ok_call (s_S_slotOf (g_self hG) (by omega)) (fun r1 u2 q => ?_)
  obtain ⟨i1656, g1657⟩ := q
  have g1658 : G md_S_leftOf w u2 := g_tr hG g1657 rfl
  refine ok_gd (by omega) ?_
  have : (0 : Int) ≤ (u2 29 (r1).toNat) ∧ (u2 29 (r1).toNat) ≤ 3000 := g1658.1 29 (r1).toNat
  have := w32_sp (((u2 29 (r1).toNat) - (1 : Int)))
  refine ok_let (fun x3 e1659 => ?_)
  have : (-1 : Int) ≤ x3 ∧ x3 ≤ 2999 := by omega
  refine ok_ite (fun h1660 => ?_) (fun h1661 => ?_)
  · exact ok_some ⟨by omega, g1658⟩
  · have : (0 : Int) ≤ (u2 28 7) ∧ (u2 28 7) ≤ 3000 := g1658.1 28 7
    have : (u2 28 7) = (w 28 7) := g1657.2.1 28 7 rfl
    have : (0 : Int) ≤ (w 28 7) ∧ (w 28 7) ≤ 3000 := hG.1 28 7
    refine ok_ite (fun h1662 => ?_) (fun h1663 => ?_)
    · exact ok_some ⟨by omega, g1658⟩
    · refine ok_gd (by omega) ?_
      have : (-9223372036854775808 : Int) ≤ (u2 32 (x3).toNat) ∧ (u2 32 (x3).toNat) ≤ 9223372036854775807 := g1658.1 32 (x3).toNat
      exact ok_some ⟨by omega, g1658⟩
theorem s_S_leftBehind_29 {b : Wd} : ∀ (n : Nat) {w : Wd} {v1 v4 v6 : Int}, ((257 : Int) - v6) < (n : Int) → G md_S_leftBehind b w → ((0 : Int) ≤ v1 ∧ v1 ≤ 2999) → ((-9223372036854775808 : Int) ≤ v4 ∧ v4 ≤ 9223372036854775807) → ((0 : Int) ≤ v6 ∧ v6 ≤ 256) → OK (f_S_leftBehind_29 n v1 v4 v6 w) (fun r u => ((-9223372036854775808 : Int) ≤ r ∧ r ≤ 9223372036854775807) ∧ G md_S_leftBehind b u) := by
  intro n
  induction n with
  | zero =>
    intro w v1 v4 v6 hm hG i_v1 i_v4 i_v6
    exfalso
    omega
  | succ n ih =>
    intro w v1 v4 v6 hm hG i_v1 i_v4 i_v6
    rw [f_S_leftBehind_29]
    have : (0 : Int) ≤ (w 24 3) ∧ (w 24 3) ≤ 256 := hG.1 24 3
    refine ok_ite (fun h1664 => ?_) (fun h1665 => ?_)
    · exact ok_some ⟨by omega, hG⟩
    · refine ok_gd (by omega) ?_
      refine ok_call (s_M_moversOf (g_self hG) (by omega)) (fun r5 u6 q => ?_)
      obtain ⟨i1666, g1667⟩ := q
      have g1668 : G md_S_leftBehind b u6 := g_tr hG g1667 rfl
      have : (-2147483648 : Int) ≤ (w 30 (v1).toNat) ∧ (w 30 (v1).toNat) ≤ 2147483647 := hG.1 30 (v1).toNat
      have : (0 : Int) ≤ (u6 5 7) ∧ (u6 5 7) ≤ 2147483647 := g1668.1 5 7
      have : (u6 5 7) = (w 5 7) := g1667.2.1 5 7 rfl
      have : (0 : Int) ≤ (w 5 7) ∧ (w 5 7) ≤ 2147483647 := hG.1 5 7
      have : (w 5 7) = (b 5 7) := hG.2.1 5 7 rfl
      refine ok_call (s_O_after (g_self g1668) (by omega) (by omega) (by omega)) (fun r7 u8 q => ?_)
      obtain ⟨i1669, g1670⟩ := q
      have g1671 : G md_S_leftBehind b u8 := g_tr g1668 g1670 rfl
      refine ok_call (s_S_leftOf (g_self g1671) (by omega)) (fun r9 u10 q => ?_)
      obtain ⟨i1672, g1673⟩ := q
      have g1674 : G md_S_leftBehind b u10 := g_tr g1671 g1673 rfl
      have := lor_rg v4 r9
      refine ok_let (fun x11 e1675 => ?_)
      have : (-9223372036854775808 : Int) ≤ x11 ∧ x11 ≤ 9223372036854775807 := by omega
      have := w32_sp ((v6 + (1 : Int)))
      refine ok_let (fun x12 e1676 => ?_)
      have : (1 : Int) ≤ x12 ∧ x12 ≤ 256 := by omega
      exact ih (by omega) g1674 (by omega) (by omega) (by omega)
theorem s_S_leftBehind {w : Wd} {v1 : Int} (hG : G md_S_leftBehind w w) (i_v1 : ((0 : Int) ≤ v1 ∧ v1 ≤ 2999)) : OK (f_S_leftBehind v1 w) (fun r u => ((-9223372036854775808 : Int) ≤ r ∧ r ≤ 9223372036854775807) ∧ G md_S_leftBehind w u) := by
  unfold f_S_leftBehind
  refine ok_call (s_S_guests (g_self hG) (by omega)) (fun r1 u2 q => ?_)
  obtain ⟨i1677, g1678⟩ := q
  have g1679 : G md_S_leftBehind w u2 := g_tr hG g1678 rfl
  refine ok_ite (fun h1680 => ?_) (fun h1681 => ?_)
  · exact ok_some ⟨by omega, g1679⟩
  · refine ok_gd (by omega) ?_
    have : (-2147483648 : Int) ≤ (u2 30 (v1).toNat) ∧ (u2 30 (v1).toNat) ≤ 2147483647 := g1679.1 30 (v1).toNat
    have : (0 : Int) ≤ (u2 5 8) ∧ (u2 5 8) ≤ 2147483647 := g1679.1 5 8
    have : (u2 5 8) = (w 5 8) := g1678.2.1 5 8 rfl
    have : (0 : Int) ≤ (w 5 8) ∧ (w 5 8) ≤ 2147483647 := hG.1 5 8
    refine ok_call (s_M_gather (g_self g1679) (by omega) (by omega)) (fun r3 u4 q => ?_)
    obtain ⟨i1682, g1683⟩ := q
    have g1684 : G md_S_leftBehind w u4 := g_tr g1679 g1683 rfl
    exact s_S_leftBehind_29 FU (by have := eqFU; omega) g1684 (by omega) (by omega) (by omega)
theorem s_S_lookBack_79 {b : Wd} {k8 : Int → Int → Int → Wd → Option (Int × Wd)} {Bk8 : Int} (hk8 : ∀ {w1 : Wd} {v3 v4 v5 : Int}, (v5 + (2 : Int)) < Bk8 → G md_S_lookBack b w1 → ((0 : Int) ≤ v3 ∧ v3 ≤ 512) → ((-2147483648 : Int) ≤ v4 ∧ v4 ≤ 2147483647) → ((-1 : Int) ≤ v5 ∧ v5 ≤ 2999) → OK (k8 v3 v4 v5 w1) (fun r u => ((0 : Int) ≤ r ∧ r ≤ 0) ∧ G md_S_lookBack b u)) {w : Wd} {v3 v4 v5 v6 s0 : Int} (hG : G md_S_lookBack b w) (i_v3 : ((0 : Int) ≤ v3 ∧ v3 ≤ 512)) (i_v4 : ((-2147483648 : Int) ≤ v4 ∧ v4 ≤ 2147483647)) (i_v5 : ((0 : Int) ≤ v5 ∧ v5 ≤ 2999)) (i_v6 : ((0 : Int) ≤ v6 ∧ v6 ≤ 2999)) (i_s0 : ((0 : Int) ≤ s0 ∧ s0 ≤ 1)) (hBk8 : (v5 + (2 : Int)) ≤ Bk8) : OK (f_S_lookBack_79 k8 v3 v4 v5 v6 s0 w) (fun r u => ((0 : Int) ≤ r ∧ r ≤ 0) ∧ G md_S_lookBack b u) := by
  unfold f_S_lookBack_79
  refine ok_call (s_S_leftBehind (g_self hG) (by omega)) (fun r5 u6 q => ?_)
  obtain ⟨i1685, g1686⟩ := q
  have g1687 : G md_S_lookBack b u6 := g_tr hG g1686 rfl
  refine ok_gd (by omega) ?_
  have := lshl_rg r5 (1 : Int)
  have := lor_rg s0 (lshl r5 (1 : Int))
  refine ok_lw (fun u7 e1688 => ?_)
  have g1689 : G md_S_lookBack b u7 := g_st g1687 e1688 rfl rfl (show (-9223372036854775808 : Int) ≤ (lor s0 (lshl r5 (1 : Int))) ∧ (lor s0 (lshl r5 (1 : Int))) ≤ 9223372036854775807 by omega)
  have := w32_sp ((v5 + (-1 : Int)))
  refine ok_let (fun x8 e1690 => ?_)
  have : (-1 : Int) ≤ x8 ∧ x8 ≤ 2998 := by omega
  exact hk8 (by omega) g1689 (by omega) (by omega) (by omega)
theorem s_S_lookBack_78 {b : Wd} {k8 : Int → Int → Int → Wd → Option (Int × Wd)} {Bk8 : Int} (hk8 : ∀ {w1 : Wd} {v3 v4 v5 : Int}, (v5 + (2 : Int)) < Bk8 → G md_S_lookBack b w1 → ((0 : Int) ≤ v3 ∧ v3 ≤ 512) → ((-2147483648 : Int) ≤ v4 ∧ v4 ≤ 2147483647) → ((-1 : Int) ≤ v5 ∧ v5 ≤ 2999) → OK (k8 v3 v4 v5 w1) (fun r u => ((0 : Int) ≤ r ∧ r ≤ 0) ∧ G md_S_lookBack b u)) {w : Wd} {v3 v4 v5 v6 : Int} (hG : G md_S_lookBack b w) (i_v3 : ((0 : Int) ≤ v3 ∧ v3 ≤ 512)) (i_v4 : ((-2147483648 : Int) ≤ v4 ∧ v4 ≤ 2147483647)) (i_v5 : ((0 : Int) ≤ v5 ∧ v5 ≤ 2999)) (i_v6 : ((0 : Int) ≤ v6 ∧ v6 ≤ 2999)) (hBk8 : (v5 + (2 : Int)) ≤ Bk8) : OK (f_S_lookBack_78 k8 v3 v4 v5 v6 w) (fun r u => ((0 : Int) ≤ r ∧ r ≤ 0) ∧ G md_S_lookBack b u) := by
  unfold f_S_lookBack_78
  exact s_S_lookBack_79 hk8 hG (by omega) (by omega) (by omega) (by omega) (by omega) (by omega)
theorem s_S_lookBack_74 {b : Wd} {k8 : Int → Int → Int → Wd → Option (Int × Wd)} {Bk8 : Int} (hk8 : ∀ {w1 : Wd} {v3 v4 v5 : Int}, (v5 + (2 : Int)) < Bk8 → G md_S_lookBack b w1 → ((0 : Int) ≤ v3 ∧ v3 ≤ 512) → ((-2147483648 : Int) ≤ v4 ∧ v4 ≤ 2147483647) → ((-1 : Int) ≤ v5 ∧ v5 ≤ 2999) → OK (k8 v3 v4 v5 w1) (fun r u => ((0 : Int) ≤ r ∧ r ≤ 0) ∧ G md_S_lookBack b u)) {w : Wd} {v3 v4 v5 v6 : Int} (hG : G md_S_lookBack b w) (i_v3 : ((0 : Int) ≤ v3 ∧ v3 ≤ 512)) (i_v4 : ((-2147483648 : Int) ≤ v4 ∧ v4 ≤ 2147483647)) (i_v5 : ((0 : Int) ≤ v5 ∧ v5 ≤ 2999)) (i_v6 : ((0 : Int) ≤ v6 ∧ v6 ≤ 2999)) (hBk8 : (v5 + (2 : Int)) ≤ Bk8) : OK (f_S_lookBack_74 k8 v3 v4 v5 v6 w) (fun r u => ((0 : Int) ≤ r ∧ r ≤ 0) ∧ G md_S_lookBack b u) := by
  unfold f_S_lookBack_74
  exact s_S_lookBack_79 hk8 hG (by omega) (by omega) (by omega) (by omega) (by omega) (by omega)
theorem s_S_lookBack_49 {b : Wd} {k8 : Int → Int → Int → Wd → Option (Int × Wd)} {Bk8 : Int} (hk8 : ∀ {w1 : Wd} {v3 v4 v5 : Int}, (v5 + (2 : Int)) < Bk8 → G md_S_lookBack b w1 → ((0 : Int) ≤ v3 ∧ v3 ≤ 512) → ((-2147483648 : Int) ≤ v4 ∧ v4 ≤ 2147483647) → ((-1 : Int) ≤ v5 ∧ v5 ≤ 2999) → OK (k8 v3 v4 v5 w1) (fun r u => ((0 : Int) ≤ r ∧ r ≤ 0) ∧ G md_S_lookBack b u)) {w : Wd} {v3 v4 v5 v6 s0 : Int} (hG : G md_S_lookBack b w) (i_v3 : ((0 : Int) ≤ v3 ∧ v3 ≤ 512)) (i_v4 : ((-2147483648 : Int) ≤ v4 ∧ v4 ≤ 2147483647)) (i_v5 : ((0 : Int) ≤ v5 ∧ v5 ≤ 2999)) (i_v6 : ((0 : Int) ≤ v6 ∧ v6 ≤ 2999)) (i_s0 : ((0 : Int) ≤ s0 ∧ s0 ≤ 1)) (hBk8 : (v5 + (2 : Int)) ≤ Bk8) : OK (f_S_lookBack_49 k8 v3 v4 v5 v6 s0 w) (fun r u => ((0 : Int) ≤ r ∧ r ≤ 0) ∧ G md_S_lookBack b u) := by
  unfold f_S_lookBack_49
  refine ok_ite (fun h1691 => ?_) (fun h1692 => ?_)
  · exact s_S_lookBack_78 hk8 hG (by omega) (by omega) (by omega) (by omega) (by omega)
  · refine ok_ite (fun h1693 => ?_) (fun h1694 => ?_)
    · exact s_S_lookBack_74 hk8 hG (by omega) (by omega) (by omega) (by omega) (by omega)
    · refine ok_call (s_S_paidFor (g_self hG) (by omega)) (fun r9 u10 q => ?_)
      obtain ⟨i1695, g1696⟩ := q
      have g1697 : G md_S_lookBack b u10 := g_tr hG g1696 rfl
      refine ok_ite (fun h1698 => ?_) (fun h1699 => ?_)
      · exact s_S_lookBack_74 hk8 g1697 (by omega) (by omega) (by omega) (by omega) (by omega)
      · exact s_S_lookBack_78 hk8 g1697 (by omega) (by omega) (by omega) (by omega) (by omega)
theorem s_S_lookBack_48 {b : Wd} {k8 : Int → Int → Int → Wd → Option (Int × Wd)} {Bk8 : Int} (hk8 : ∀ {w1 : Wd} {v3 v4 v5 : Int}, (v5 + (2 : Int)) < Bk8 → G md_S_lookBack b w1 → ((0 : Int) ≤ v3 ∧ v3 ≤ 512) → ((-2147483648 : Int) ≤ v4 ∧ v4 ≤ 2147483647) → ((-1 : Int) ≤ v5 ∧ v5 ≤ 2999) → OK (k8 v3 v4 v5 w1) (fun r u => ((0 : Int) ≤ r ∧ r ≤ 0) ∧ G md_S_lookBack b u)) {w : Wd} {v3 v4 v5 v6 : Int} (hG : G md_S_lookBack b w) (i_v3 : ((0 : Int) ≤ v3 ∧ v3 ≤ 512)) (i_v4 : ((-2147483648 : Int) ≤ v4 ∧ v4 ≤ 2147483647)) (i_v5 : ((0 : Int) ≤ v5 ∧ v5 ≤ 2999)) (i_v6 : ((0 : Int) ≤ v6 ∧ v6 ≤ 2999)) (hBk8 : (v5 + (2 : Int)) ≤ Bk8) : OK (f_S_lookBack_48 k8 v3 v4 v5 v6 w) (fun r u => ((0 : Int) ≤ r ∧ r ≤ 0) ∧ G md_S_lookBack b u) := by
  unfold f_S_lookBack_48
  exact s_S_lookBack_49 hk8 hG (by omega) (by omega) (by omega) (by omega) (by omega) (by omega)
theorem s_S_lookBack_8 {b : Wd} : ∀ (n : Nat) {w : Wd} {v3 v4 v5 : Int}, (v5 + (2 : Int)) < (n : Int) → G md_S_lookBack b w → ((0 : Int) ≤ v3 ∧ v3 ≤ 512) → ((-2147483648 : Int) ≤ v4 ∧ v4 ≤ 2147483647) → ((-1 : Int) ≤ v5 ∧ v5 ≤ 2999) → OK (f_S_lookBack_8 n v3 v4 v5 w) (fun r u => ((0 : Int) ≤ r ∧ r ≤ 0) ∧ G md_S_lookBack b u) := by
  intro n
  induction n with
  | zero =>
    intro w v3 v4 v5 hm hG i_v3 i_v4 i_v5
    exfalso
    omega
  | succ n ih =>
    intro w v3 v4 v5 hm hG i_v3 i_v4 i_v5
    rw [f_S_lookBack_8]
    refine ok_ite (fun h1700 => ?_) (fun h1701 => ?_)
    · exact ok_some ⟨by omega, hG⟩
    · refine ok_gd (by omega) ?_
      have : (0 : Int) ≤ (w 35 (v5).toNat) ∧ (w 35 (v5).toNat) ≤ 2999 := hG.1 35 (v5).toNat
      refine ok_let (fun x2 e1702 => ?_)
      have : (0 : Int) ≤ x2 ∧ x2 ≤ 2999 := by omega
      refine ok_call (s_S_guests (g_self hG) (by omega)) (fun r3 u4 q => ?_)
      obtain ⟨i1703, g1704⟩ := q
      have g1705 : G md_S_lookBack b u4 := g_tr hG g1704 rfl
      refine ok_ite (fun h1706 => ?_) (fun h1707 => ?_)
      · exact s_S_lookBack_48 ih g1705 (by omega) (by omega) (by omega) (by omega) (by omega)
      · refine ok_call (s_S_guests (g_self g1705) (by omega)) (fun r11 u12 q => ?_)
        obtain ⟨i1708, g1709⟩ := q
        have g1710 : G md_S_lookBack b u12 := g_tr g1705 g1709 rfl
        have := ixor_m1 (x := r11) (by omega)
        have := iand_l (x := v3) (y := (ixor r11 (-1 : Int))) (by omega)
        refine ok_ite (fun h1711 => ?_) (fun h1712 => ?_)
        · exact s_S_lookBack_49 ih g1710 (by omega) (by omega) (by omega) (by omega) (by omega) (by omega)
        · exact s_S_lookBack_48 ih g1710 (by omega) (by omega) (by omega) (by omega) (by omega)
theorem s_S_lookBack {w : Wd} {v3 v4 : Int} (hG : G md_S_lookBack w w) (i_v3 : ((0 : Int) ≤ v3 ∧ v3 ≤ 512)) (i_v4 : ((-2147483648 : Int) ≤ v4 ∧ v4 ≤ 2147483647)) : OK (f_S_lookBack v3 v4 w) (fun r u => ((0 : Int) ≤ r ∧ r ≤ 0) ∧ G md_S_lookBack w u) := by
  unfold f_S_lookBack
  have : (0 : Int) ≤ (w 28 8) ∧ (w 28 8) ≤ 3000 := hG.1 28 8
  have := w32_sp (((w 28 8) - (1 : Int)))
  refine ok_let (fun x1 e1713 => ?_)
  have : (-1 : Int) ≤ x1 ∧ x1 ≤ 2999 := by omega
  exact s_S_lookBack_8 FU (by have := eqFU; omega) hG (by omega) (by omega) (by omega)
theorem s_S_leads {w : Wd} {v1 v2 : Int} (hG : G md_S_leads w w) (i_v1 : ((-2147483648 : Int) ≤ v1 ∧ v1 ≤ 2147483647)) (i_v2 : ((0 : Int) ≤ v2 ∧ v2 ≤ 59)) : OK (f_S_leads v1 v2 w) (fun r u => ((0 : Int) ≤ r ∧ r ≤ 1) ∧ G md_S_leads w u) := by
  unfold f_S_leads
  refine ok_call (s_S_leftOf (g_self hG) (by omega)) (fun r1 u2 q => ?_)
  obtain ⟨i1714, g1715⟩ := q
  have g1716 : G md_S_leads w u2 := g_tr hG g1715 rfl
  have := lshr_rg r1 v2
  have := land_rg (lshr r1 v2) (1 : Int)
  have := lcmp_rg (land (lshr r1 v2) (1 : Int)) (0 : Int)
  refine ok_ite (fun h1717 => ?_) (fun h1718 => ?_)
  · exact ok_some ⟨by omega, g1716⟩
  · exact ok_some ⟨by omega, g1716⟩
theorem s_E_firstThatLeads_2 {b : Wd} : ∀ (n : Nat) {w : Wd} {v1 v2 : Int}, ((257 : Int) - v2) < (n : Int) → G md_E_firstThatLeads b w → ((1 : Int) ≤ v1 ∧ v1 ≤ 60) → ((0 : Int) ≤ v2 ∧ v2 ≤ 256) → OK (f_E_firstThatLeads_2 n v1 v2 w) (fun r u => ((-1 : Int) ≤ r ∧ r ≤ 255) ∧ G md_E_firstThatLeads b u) := by
  intro n
  induction n with
  | zero =>
    intro w v1 v2 hm hG i_v1 i_v2
    exfalso
    omega
  | succ n ih =>
    intro w v1 v2 hm hG i_v1 i_v2
    rw [f_E_firstThatLeads_2]
    have : (0 : Int) ≤ (w 24 3) ∧ (w 24 3) ≤ 256 := hG.1 24 3
    have : (w 24 3) = (b 24 3) := hG.2.1 24 3 rfl
    refine ok_ite (fun h1719 => ?_) (fun h1720 => ?_)
    · exact ok_some ⟨by omega, hG⟩
    · refine ok_call (s_M_moversOf (g_self hG) (by omega)) (fun r1 u2 q => ?_)
      obtain ⟨i1721, g1722⟩ := q
      have g1723 : G md_E_firstThatLeads b u2 := g_tr hG g1722 rfl
      have : (-2147483648 : Int) ≤ (w 5 4) ∧ (w 5 4) ≤ 2147483647 := hG.1 5 4
      have : (w 5 4) = (b 5 4) := hG.2.1 5 4 rfl
      have : (0 : Int) ≤ (u2 5 7) ∧ (u2 5 7) ≤ 2147483647 := g1723.1 5 7
      have : (u2 5 7) = (w 5 7) := g1722.2.1 5 7 rfl
      have : (0 : Int) ≤ (w 5 7) ∧ (w 5 7) ≤ 2147483647 := hG.1 5 7
      have : (w 5 7) = (b 5 7) := hG.2.1 5 7 rfl
      refine ok_call (s_O_after (g_self g1723) (by omega) (by omega) (by omega)) (fun r3 u4 q => ?_)
      obtain ⟨i1724, g1725⟩ := q
      have g1726 : G md_E_firstThatLeads b u4 := g_tr g1723 g1725 rfl
      have := w32_sp ((v1 - (1 : Int)))
      refine ok_call (s_S_leads (g_self g1726) (by omega) (by omega)) (fun r5 u6 q => ?_)
      obtain ⟨i1727, g1728⟩ := q
      have g1729 : G md_E_firstThatLeads b u6 := g_tr g1726 g1728 rfl
      refine ok_ite (fun h1730 => ?_) (fun h1731 => ?_)
      · have := w32_sp ((v2 + (1 : Int)))
        refine ok_let (fun x7 e1732 => ?_)
        have : (1 : Int) ≤ x7 ∧ x7 ≤ 256 := by omega
        exact ih (by omega) g1729 (by omega) (by omega)
      · exact ok_some ⟨by omega, g1729⟩
theorem s_E_firstThatLeads {w : Wd} {v1 : Int} (hG : G md_E_firstThatLeads w w) (i_v1 : ((1 : Int) ≤ v1 ∧ v1 ≤ 60)) : OK (f_E_firstThatLeads v1 w) (fun r u => ((-1 : Int) ≤ r ∧ r ≤ 255) ∧ G md_E_firstThatLeads w u) := by
  unfold f_E_firstThatLeads
  exact s_E_firstThatLeads_2 FU (by have := eqFU; omega) hG (by omega) (by omega)
theorem s_E_tellFirstWeek {w : Wd} {v1 : Int} (hG : G md_E_tellFirstWeek w w) (i_v1 : ((1 : Int) ≤ v1 ∧ v1 ≤ 60)) : OK (f_E_tellFirstWeek v1 w) (fun r u => ((0 : Int) ≤ r ∧ r ≤ 0) ∧ G md_E_tellFirstWeek w u) := by
  unfold f_E_tellFirstWeek
  have : (-2147483648 : Int) ≤ (w 5 4) ∧ (w 5 4) ≤ 2147483647 := hG.1 5 4
  have : (0 : Int) ≤ (w 5 8) ∧ (w 5 8) ≤ 2147483647 := hG.1 5 8
  refine ok_call (s_M_gather (g_self hG) (by omega) (by omega)) (fun r1 u2 q => ?_)
  obtain ⟨i1733, g1734⟩ := q
  have g1735 : G md_E_tellFirstWeek w u2 := g_tr hG g1734 rfl
  refine ok_call (s_E_firstThatLeads (g_self g1735) (by omega)) (fun r3 u4 q => ?_)
  obtain ⟨i1736, g1737⟩ := q
  have g1738 : G md_E_tellFirstWeek w u4 := g_tr g1735 g1737 rfl
  refine ok_ite (fun h1739 => ?_) (fun h1740 => ?_)
  · exact ok_some ⟨by omega, g1738⟩
  · refine ok_call (s_M_tellPairs (g_self g1738) (by omega)) (fun r5 u6 q => ?_)
    obtain ⟨i1741, g1742⟩ := q
    have g1743 : G md_E_tellFirstWeek w u6 := g_tr g1738 g1742 rfl
    exact ok_some ⟨by omega, g1743⟩
theorem s_E_begin {w : Wd} (hG : G md_E_begin w w) : OK (f_E_begin w) (fun r u => ((-3 : Int) ≤ r ∧ r ≤ 20) ∧ G md_E_begin w u) := by
  unfold f_E_begin
  refine ok_call (s_S_run (g_self hG)) (fun r1 u2 q => ?_)
  obtain ⟨i1744, g1745⟩ := q
  have g1746 : G md_E_begin w u2 := g_tr hG g1745 rfl
  refine ok_ite (fun h1747 => ?_) (fun h1748 => ?_)
  · exact ok_some ⟨by omega, g1746⟩
  · refine ok_call (s_S_lastWeek (g_self g1746) (by omega) (by omega)) (fun r3 u4 q => ?_)
    obtain ⟨i1749, g1750⟩ := q
    have g1751 : G md_E_begin w u4 := g_tr g1746 g1750 rfl
    refine ok_ite (fun h1752 => ?_) (fun h1753 => ?_)
    · refine ok_call (s_S_lookBack (g_self g1751) (by omega) (by omega)) (fun r5 u6 q => ?_)
      obtain ⟨i1754, g1755⟩ := q
      have g1756 : G md_E_begin w u6 := g_tr g1751 g1755 rfl
      refine ok_call (s_E_tellFirstWeek (g_self g1756) (by omega)) (fun r7 u8 q => ?_)
      obtain ⟨i1757, g1758⟩ := q
      have g1759 : G md_E_begin w u8 := g_tr g1756 g1758 rfl
      have : (0 : Int) ≤ (u8 3 1) ∧ (u8 3 1) ≤ 20 := g1759.1 3 1
      exact ok_some ⟨by omega, g1759⟩
    · exact ok_some ⟨by omega, g1751⟩
theorem s_E_cheap {w : Wd} {v1 : Int} (hG : G md_E_cheap w w) (i_v1 : ((-2147483648 : Int) ≤ v1 ∧ v1 ≤ 2147483647)) : OK (f_E_cheap v1 w) (fun r u => ((-2147483648 : Int) ≤ r ∧ r ≤ 2147483647) ∧ G md_E_cheap w u) := by
  unfold f_E_cheap
  refine ok_jite (fun h1761 => ?_) (fun h1762 => ?_)
  · refine ok_jsome ?_
    refine ok_it (by decide) ?_
    exact ok_some ⟨by omega, hG⟩
  · refine ok_jite (fun h1763 => ?_) (fun h1764 => ?_)
    · refine ok_jsome ?_
      refine ok_it (by decide) ?_
      exact ok_some ⟨by omega, hG⟩
    · refine ok_jsome ?_
      refine ok_if (by decide) ?_
      refine ok_call (s_S_run (g_self hG)) (fun r3 u4 q => ?_)
      obtain ⟨i1765, g1766⟩ := q
      have g1767 : G md_E_cheap w u4 := g_tr hG g1766 rfl
      refine ok_ite (fun h1768 => ?_) (fun h1769 => ?_)
      · exact ok_some ⟨by omega, g1767⟩
      · refine ok_call (s_S_leastPaid (g_self g1767) (by omega) (by omega)) (fun r5 u6 q => ?_)
        obtain ⟨i1770, g1771⟩ := q
        have g1772 : G md_E_cheap w u6 := g_tr g1767 g1771 rfl
        refine ok_ite (fun h1773 => ?_) (fun h1774 => ?_)
        · exact ok_some ⟨by omega, g1772⟩
        · refine ok_ite (fun h1775 => ?_) (fun h1776 => ?_)
          · refine ok_call (s_N_clear (g_self g1772)) (fun r11 u12 q => ?_)
            obtain ⟨i1777, g1778⟩ := q
            have g1779 : G md_E_cheap w u12 := g_tr g1772 g1778 rfl
            exact ok_some ⟨by omega, g1779⟩
          · refine ok_call (s_S_lookBack (g_self g1772) (by omega) (by omega)) (fun r7 u8 q => ?_)
            obtain ⟨i1780, g1781⟩ := q
            have g1782 : G md_E_cheap w u8 := g_tr g1772 g1781 rfl
            refine ok_call (s_E_tellFirstWeek (g_self g1782) (by omega)) (fun r9 u10 q => ?_)
            obtain ⟨i1783, g1784⟩ := q
            have g1785 : G md_E_cheap w u10 := g_tr g1782 g1784 rfl
            exact ok_some ⟨by omega, g1785⟩
theorem s_M_gatherBehind_34 {b : Wd} {w : Wd} {v3 : Int} (hG : G md_M_gatherBehind b w) (i_v3 : ((0 : Int) ≤ v3 ∧ v3 ≤ 1023)) (a_0 : ((w 24 5) = (6 : Int))) : OK (f_M_gatherBehind_34 v3 w) (fun r u => ((0 : Int) ≤ r ∧ r ≤ 0) ∧ G md_M_gatherBehind b u) := by
  unfold f_M_gatherBehind_34
  have : (0 : Int) ≤ (w 24 5) ∧ (w 24 5) ≤ 6 := hG.1 24 5
  refine ok_call (s_M_spread 16 (by omega) (g_self hG) (by omega) (by omega) (by omega) (by omega)) (fun r3 u4 q => ?_)
  obtain ⟨i1786, g1787, p1789⟩ := q
  have g1788 : G md_M_gatherBehind b u4 := g_tr hG g1787 rfl
  have : (0 : Int) ≤ (u4 24 5) ∧ (u4 24 5) ≤ 6 := g1788.1 24 5
  have : (u4 24 5) = (w 24 5) := g1787.2.1 24 5 rfl
  exact ok_some ⟨by omega, g1788⟩
theorem s_M_gatherBehind {w : Wd} {v2 v3 : Int} (hG : G md_M_gatherBehind w w) (i_v2 : ((0 : Int) ≤ v2 ∧ v2 ≤ 1023)) (i_v3 : ((0 : Int) ≤ v3 ∧ v3 ≤ 1023)) : OK (f_M_gatherBehind v2 v3 w) (fun r u => ((0 : Int) ≤ r ∧ r ≤ 0) ∧ G md_M_gatherBehind w u) := by
  unfold f_M_gatherBehind
  have : (-2147483648 : Int) ≤ (w 5 4) ∧ (w 5 4) ≤ 2147483647 := hG.1 5 4
  have : (0 : Int) ≤ (w 5 8) ∧ (w 5 8) ≤ 2147483647 := hG.1 5 8
  refine ok_call (s_M_prepare (g_self hG) (by omega) (by omega) (by omega)) (fun r1 u2 q => ?_)
  obtain ⟨i1790, g1791, p1793⟩ := q
  have g1792 : G md_M_gatherBehind w u2 := g_tr hG g1791 rfl
  have : (0 : Int) ≤ (u2 24 5) ∧ (u2 24 5) ≤ 6 := g1792.1 24 5
  refine ok_ite (fun h1794 => ?_) (fun h1795 => ?_)
  · exact s_M_gatherBehind_34 g1792 (by omega) (by omega)
  · have : (0 : Int) ≤ (u2 24 8) ∧ (u2 24 8) ≤ 1023 := g1792.1 24 8
    have := ior_n 10 (x := (u2 24 8)) (y := v3) (m := 1023) (by decide) (by decide) (by omega) (by omega)
    refine ok_call (s_JI_bitCount (g_self g1792) (by omega)) (fun r5 u6 q => ?_)
    obtain ⟨i1796, g1797⟩ := q
    have g1798 : G md_M_gatherBehind w u6 := g_tr g1792 g1797 rfl
    have : (0 : Int) ≤ (u6 24 9) ∧ (u6 24 9) ≤ 2147483647 := g1798.1 24 9
    have : (u6 24 9) = (u2 24 9) := g1797.2.1 24 9 rfl
    have : (0 : Int) ≤ (u2 24 9) ∧ (u2 24 9) ≤ 2147483647 := g1792.1 24 9
    refine ok_ite (fun h1799 => ?_) (fun h1800 => ?_)
    · exact ok_some ⟨by omega, g1798⟩
    · have : (0 : Int) ≤ (u6 24 5) ∧ (u6 24 5) ≤ 6 := g1798.1 24 5
      have : (u6 24 5) = (u2 24 5) := g1797.2.1 24 5 rfl
      exact s_M_gatherBehind_34 g1798 (by omega) (by omega)
theorem s_E_firstToBring_111 {b : Wd} {k41 : Int → Int → Int → Int → Wd → Option (Int × Wd)} {Bk41 : Int} (hk41 : ∀ {w1 : Wd} {v1 v2 v3 v4 : Int}, ((11 : Int) - v4) < Bk41 → G md_E_firstToBring b w1 → ((0 : Int) ≤ v1 ∧ v1 ≤ 9) → ((1 : Int) ≤ v2 ∧ v2 ≤ 60) → ((0 : Int) ≤ v3 ∧ v3 ≤ 1023) → ((0 : Int) ≤ v4 ∧ v4 ≤ 10) → OK (k41 v1 v2 v3 v4 w1) (fun r u => ((-1 : Int) ≤ r ∧ r ≤ 9) ∧ G md_E_firstToBring b u)) {w : Wd} {v1 v2 v3 v4 : Int} (hG : G md_E_firstToBring b w) (i_v1 : ((0 : Int) ≤ v1 ∧ v1 ≤ 9)) (i_v2 : ((1 : Int) ≤ v2 ∧ v2 ≤ 60)) (i_v3 : ((0 : Int) ≤ v3 ∧ v3 ≤ 1023)) (i_v4 : ((0 : Int) ≤ v4 ∧ v4 ≤ 9)) (hBk41 : ((11 : Int) - v4) ≤ Bk41) : OK (f_E_firstToBring_111 k41 v1 v2 v3 v4 w) (fun r u => ((-1 : Int) ≤ r ∧ r ≤ 9) ∧ G md_E_firstToBring b u) := by
  unfold f_E_firstToBring_111
  have := w32_sp ((v4 + (1 : Int)))
  refine ok_let (fun x14 e1801 => ?_)
  have : (1 : Int) ≤ x14 ∧ x14 ≤ 10 := by omega
  exact hk41 (by omega) hG (by omega) (by omega) (by omega) (by omega)
theorem s_E_firstToBring_41 {b : Wd} : ∀ (n : Nat) {w : Wd} {v1 v2 v3 v4 : Int}, ((11 : Int) - v4) < (n : Int) → G md_E_firstToBring b w → ((0 : Int) ≤ v1 ∧ v1 ≤ 9) → ((1 : Int) ≤ v2 ∧ v2 ≤ 60) → ((0 : Int) ≤ v3 ∧ v3 ≤ 1023) → ((0 : Int) ≤ v4 ∧ v4 ≤ 10) → OK (f_E_firstToBring_41 n v1 v2 v3 v4 w) (fun r u => ((-1 : Int) ≤ r ∧ r ≤ 9) ∧ G md_E_firstToBring b u) := by
  intro n
  induction n with
  | zero =>
    intro w v1 v2 v3 v4 hm hG i_v1 i_v2 i_v3 i_v4
    exfalso
    omega
  | succ n ih =>
    intro w v1 v2 v3 v4 hm hG i_v1 i_v2 i_v3 i_v4
    rw [f_E_firstToBring_41]
    have : (0 : Int) ≤ (w 5 3) ∧ (w 5 3) ≤ 10 := hG.1 5 3
    have : (w 5 3) = (b 5 3) := hG.2.1 5 3 rfl
    refine ok_ite (fun h1802 => ?_) (fun h1803 => ?_)
    · exact ok_some ⟨by omega, hG⟩
    · have := ishl1_n 9 (i := v1) (j := 9) (m := 512) (by decide) (by decide) (by decide) (by omega)
      refine ok_call (s_F_knownBy (g_self hG) (by omega)) (fun r8 u9 q => ?_)
      obtain ⟨i1804, g1805⟩ := q
      have g1806 : G md_E_firstToBring b u9 := g_tr hG g1805 rfl
      refine ok_call (s_F_free (g_self g1806)) (fun r10 u11 q => ?_)
      obtain ⟨i1807, g1808⟩ := q
      have g1809 : G md_E_firstToBring b u11 := g_tr g1806 g1808 rfl
      refine ok_jif (by omega) ?_
      refine ok_jif (by omega) ?_
      have := iand_r (x := r8) (y := r10) (by omega)
      have := ishr_nn (x := (iand r8 r10)) (y := v4) (by omega)
      have := iand_l (x := (ishr (iand r8 r10) v4)) (y := (1 : Int)) (by omega)
      have := iand_r (x := (ishr (iand r8 r10) v4)) (y := (1 : Int)) (by omega)
      refine ok_jite (fun h1811 => ?_) (fun h1812 => ?_)
      · refine ok_jsome ?_
        refine ok_it (by decide) ?_
        exact s_E_firstToBring_111 ih g1809 (by omega) (by omega) (by omega) (by omega) (by omega)
      · refine ok_jsome ?_
        refine ok_if (by decide) ?_
        have := ishl1_n 9 (i := v4) (j := 9) (m := 512) (by decide) (by decide) (by decide) (by omega)
        have := ior_n 10 (x := (ishl (1 : Int) v1)) (y := (ishl (1 : Int) v4)) (m := 1023) (by decide) (by decide) (by omega) (by omega)
        refine ok_call (s_M_gatherBehind (g_self g1809) (by omega) (by omega)) (fun r15 u16 q => ?_)
        obtain ⟨i1813, g1814⟩ := q
        have g1815 : G md_E_firstToBring b u16 := g_tr g1809 g1814 rfl
        refine ok_call (s_E_firstThatLeads (g_self g1815) (by omega)) (fun r17 u18 q => ?_)
        obtain ⟨i1816, g1817⟩ := q
        have g1818 : G md_E_firstToBring b u18 := g_tr g1815 g1817 rfl
        refine ok_ite (fun h1819 => ?_) (fun h1820 => ?_)
        · exact s_E_firstToBring_111 ih g1818 (by omega) (by omega) (by omega) (by omega) (by omega)
        · exact ok_some ⟨by omega, g1818⟩
theorem s_E_firstToBring {w : Wd} {v1 v2 : Int} (hG : G md_E_firstToBring w w) (i_v1 : ((0 : Int) ≤ v1 ∧ v1 ≤ 9)) (i_v2 : ((1 : Int) ≤ v2 ∧ v2 ≤ 60)) : OK (f_E_firstToBring v1 v2 w) (fun r u => ((-1 : Int) ≤ r ∧ r ≤ 9) ∧ G md_E_firstToBring w u) := by
  unfold f_E_firstToBring
  refine ok_call (s_F_guests (g_self hG)) (fun r1 u2 q => ?_)
  obtain ⟨i1821, g1822⟩ := q
  have g1823 : G md_E_firstToBring w u2 := g_tr hG g1822 rfl
  have := ishl1_n 9 (i := v1) (j := 9) (m := 512) (by decide) (by decide) (by decide) (by omega)
  have := ixor_m1 (x := (ishl (1 : Int) v1)) (by omega)
  have := iand_l (x := r1) (y := (ixor (ishl (1 : Int) v1) (-1 : Int))) (by omega)
  refine ok_let (fun x3 e1824 => ?_)
  have : (0 : Int) ≤ x3 ∧ x3 ≤ 1023 := by omega
  refine ok_call (s_M_gatherBehind (g_self g1823) (by omega) (by omega)) (fun r4 u5 q => ?_)
  obtain ⟨i1825, g1826⟩ := q
  have g1827 : G md_E_firstToBring w u5 := g_tr g1823 g1826 rfl
  refine ok_call (s_E_firstThatLeads (g_self g1827) (by omega)) (fun r6 u7 q => ?_)
  obtain ⟨i1828, g1829⟩ := q
  have g1830 : G md_E_firstToBring w u7 := g_tr g1827 g1829 rfl
  refine ok_ite (fun h1831 => ?_) (fun h1832 => ?_)
  · exact s_E_firstToBring_41 FU (by have := eqFU; omega) g1830 (by omega) (by omega) (by omega) (by omega)
  · exact ok_some ⟨by omega, g1830⟩
theorem s_E_stays_95 {b : Wd} {w : Wd} {v2 v3 : Int} (hG : G md_E_stays b w) (i_v2 : ((-1 : Int) ≤ v2 ∧ v2 ≤ 60)) (i_v3 : ((-1 : Int) ≤ v3 ∧ v3 ≤ 9)) : OK (f_E_stays_95 v2 v3 w) (fun r u => ((-3 : Int) ≤ r ∧ r ≤ 60) ∧ G md_E_stays b u) := by
  unfold f_E_stays_95
  refine ok_call (s_N_tell1 (g_self hG) (by omega)) (fun r11 u12 q => ?_)
  obtain ⟨i1833, g1834⟩ := q
  have g1835 : G md_E_stays b u12 := g_tr hG g1834 rfl
  exact ok_some ⟨by omega, g1835⟩
theorem s_E_stays {w : Wd} {v1 : Int} (hG : G md_E_stays w w) (i_v1 : ((-2147483648 : Int) ≤ v1 ∧ v1 ≤ 2147483647)) : OK (f_E_stays v1 w) (fun r u => ((-3 : Int) ≤ r ∧ r ≤ 60) ∧ G md_E_stays w u) := by
  unfold f_E_stays
  refine ok_jite (fun h1837 => ?_) (fun h1838 => ?_)
  · refine ok_jsome ?_
    refine ok_it (by decide) ?_
    exact ok_some ⟨by omega, hG⟩
  · have : (0 : Int) ≤ (w 5 3) ∧ (w 5 3) ≤ 10 := hG.1 5 3
    refine ok_jite (fun h1839 => ?_) (fun h1840 => ?_)
    · refine ok_jsome ?_
      refine ok_it (by decide) ?_
      exact ok_some ⟨by omega, hG⟩
    · refine ok_jsome ?_
      refine ok_if (by decide) ?_
      refine ok_call (s_S_run (g_self hG)) (fun r3 u4 q => ?_)
      obtain ⟨i1841, g1842⟩ := q
      have g1843 : G md_E_stays w u4 := g_tr hG g1842 rfl
      refine ok_ite (fun h1844 => ?_) (fun h1845 => ?_)
      · exact ok_some ⟨by omega, g1843⟩
      · refine ok_call (s_F_guests (g_self g1843)) (fun r5 u6 q => ?_)
        obtain ⟨i1846, g1847⟩ := q
        have g1848 : G md_E_stays w u6 := g_tr g1843 g1847 rfl
        refine ok_jif (by omega) ?_
        refine ok_jif (by omega) ?_
        have := ishr_nn (x := r5) (y := v1) (by omega)
        have := iand_l (x := (ishr r5 v1)) (y := (1 : Int)) (by omega)
        have := iand_r (x := (ishr r5 v1)) (y := (1 : Int)) (by omega)
        refine ok_jite (fun h1850 => ?_) (fun h1851 => ?_)
        · refine ok_jsome ?_
          refine ok_it (by decide) ?_
          exact ok_some ⟨by omega, g1848⟩
        · refine ok_jsome ?_
          refine ok_if (by decide) ?_
          have := ishl1_n 9 (i := v1) (j := 9) (m := 512) (by decide) (by decide) (by decide) (by omega)
          refine ok_call (s_S_lastWeek (g_self g1848) (by omega) (by omega)) (fun r9 u10 q => ?_)
          obtain ⟨i1852, g1853⟩ := q
          have g1854 : G md_E_stays w u10 := g_tr g1848 g1853 rfl
          refine ok_ite (fun h1855 => ?_) (fun h1856 => ?_)
          · exact s_E_stays_95 g1854 (by omega) (by omega)
          · refine ok_call (s_S_lookBack (g_self g1854) (by omega) (by omega)) (fun r13 u14 q => ?_)
            obtain ⟨i1857, g1858⟩ := q
            have g1859 : G md_E_stays w u14 := g_tr g1854 g1858 rfl
            refine ok_call (s_E_firstToBring (g_self g1859) (by omega) (by omega)) (fun r15 u16 q => ?_)
            obtain ⟨i1860, g1861⟩ := q
            have g1862 : G md_E_stays w u16 := g_tr g1859 g1861 rfl
            exact s_E_stays_95 g1862 (by omega) (by omega)
theorem s_E_soonest {w : Wd} {v1 : Int} (hG : G md_E_soonest w w) (i_v1 : ((-2147483648 : Int) ≤ v1 ∧ v1 ≤ 2147483647)) : OK (f_E_soonest v1 w) (fun r u => ((-3 : Int) ≤ r ∧ r ≤ 60) ∧ G md_E_soonest w u) := by
  unfold f_E_soonest
  refine ok_jite (fun h1864 => ?_) (fun h1865 => ?_)
  · refine ok_jsome ?_
    refine ok_it (by decide) ?_
    exact ok_some ⟨by omega, hG⟩
  · have : (0 : Int) ≤ (w 5 3) ∧ (w 5 3) ≤ 10 := hG.1 5 3
    refine ok_jite (fun h1866 => ?_) (fun h1867 => ?_)
    · refine ok_jsome ?_
      refine ok_it (by decide) ?_
      exact ok_some ⟨by omega, hG⟩
    · refine ok_jsome ?_
      refine ok_if (by decide) ?_
      refine ok_call (s_S_run (g_self hG)) (fun r3 u4 q => ?_)
      obtain ⟨i1868, g1869⟩ := q
      have g1870 : G md_E_soonest w u4 := g_tr hG g1869 rfl
      refine ok_ite (fun h1871 => ?_) (fun h1872 => ?_)
      · exact ok_some ⟨by omega, g1870⟩
      · have := ishl1_n 9 (i := v1) (j := 9) (m := 512) (by decide) (by decide) (by decide) (by omega)
        refine ok_call (s_S_weeksWith (g_self g1870) (by omega) (by omega)) (fun r5 u6 q => ?_)
        obtain ⟨i1873, g1874⟩ := q
        have g1875 : G md_E_soonest w u6 := g_tr g1870 g1874 rfl
        refine ok_call (s_E_firstWeek (g_self g1875) (by omega)) (fun r7 u8 q => ?_)
        obtain ⟨i1876, g1877⟩ := q
        have g1878 : G md_E_soonest w u8 := g_tr g1875 g1877 rfl
        refine ok_ite (fun h1879 => ?_) (fun h1880 => ?_)
        · exact ok_some ⟨by omega, g1878⟩
        · exact ok_some ⟨by omega, g1878⟩
theorem s_E_worth {w : Wd} {v1 : Int} (hG : G md_E_worth w w) (i_v1 : ((-2147483648 : Int) ≤ v1 ∧ v1 ≤ 2147483647)) : OK (f_E_worth v1 w) (fun r u => ((-81 : Int) ≤ r ∧ r ≤ 61) ∧ G md_E_worth w u) := by
  unfold f_E_worth
  refine ok_call (s_F_free (g_self hG)) (fun r1 u2 q => ?_)
  obtain ⟨i1881, g1882⟩ := q
  have g1883 : G md_E_worth w u2 := g_tr hG g1882 rfl
  refine ok_jite (fun h1885 => ?_) (fun h1886 => ?_)
  · refine ok_jsome ?_
    refine ok_it (by decide) ?_
    exact ok_some ⟨by omega, g1883⟩
  · refine ok_jite (fun h1887 => ?_) (fun h1888 => ?_)
    · refine ok_jsome ?_
      refine ok_it (by decide) ?_
      exact ok_some ⟨by omega, g1883⟩
    · have := ishr_nn (x := r1) (y := v1) (by omega)
      have := iand_l (x := (ishr r1 v1)) (y := (1 : Int)) (by omega)
      have := iand_r (x := (ishr r1 v1)) (y := (1 : Int)) (by omega)
      refine ok_jite (fun h1889 => ?_) (fun h1890 => ?_)
      · refine ok_jsome ?_
        refine ok_it (by decide) ?_
        exact ok_some ⟨by omega, g1883⟩
      · refine ok_jsome ?_
        refine ok_if (by decide) ?_
        refine ok_call (s_S_run (g_self g1883)) (fun r5 u6 q => ?_)
        obtain ⟨i1891, g1892⟩ := q
        have g1893 : G md_E_worth w u6 := g_tr g1883 g1892 rfl
        refine ok_ite (fun h1894 => ?_) (fun h1895 => ?_)
        · exact ok_some ⟨by omega, g1893⟩
        · refine ok_call (s_S_lastWeek (g_self g1893) (by omega) (by omega)) (fun r7 u8 q => ?_)
          obtain ⟨i1896, g1897⟩ := q
          have g1898 : G md_E_worth w u8 := g_tr g1893 g1897 rfl
          refine ok_ite (fun h1899 => ?_) (fun h1900 => ?_)
          · exact ok_some ⟨by omega, g1898⟩
          · have := ishl1_n 9 (i := v1) (j := 9) (m := 512) (by decide) (by decide) (by decide) (by omega)
            refine ok_call (s_S_lastWeek (g_self g1898) (by omega) (by omega)) (fun r9 u10 q => ?_)
            obtain ⟨i1901, g1902⟩ := q
            have g1903 : G md_E_worth w u10 := g_tr g1898 g1902 rfl
            have := w32_sp ((r7 - r9))
            exact ok_some ⟨by omega, g1903⟩
theorem s_E_needed_89 {b : Wd} {k43 : Int → Int → Int → Wd → Option (Int × Wd)} {Bk43 : Int} (hk43 : ∀ {w1 : Wd} {v1 v2 v3 : Int}, ((11 : Int) - v3) < Bk43 → G md_E_needed b w1 → ((0 : Int) ≤ v1 ∧ v1 ≤ 60) → ((0 : Int) ≤ v2 ∧ v2 ≤ 1023) → ((0 : Int) ≤ v3 ∧ v3 ≤ 10) → OK (k43 v1 v2 v3 w1) (fun r u => ((-3 : Int) ≤ r ∧ r ≤ 1023) ∧ G md_E_needed b u)) {w : Wd} {v1 v2 v3 : Int} (hG : G md_E_needed b w) (i_v1 : ((0 : Int) ≤ v1 ∧ v1 ≤ 60)) (i_v2 : ((0 : Int) ≤ v2 ∧ v2 ≤ 1023)) (i_v3 : ((0 : Int) ≤ v3 ∧ v3 ≤ 9)) (hBk43 : ((11 : Int) - v3) ≤ Bk43) : OK (f_E_needed_89 k43 v1 v2 v3 w) (fun r u => ((-3 : Int) ≤ r ∧ r ≤ 1023) ∧ G md_E_needed b u) := by
  unfold f_E_needed_89
  have := w32_sp ((v3 + (1 : Int)))
  refine ok_let (fun x9 e1904 => ?_)
  have : (1 : Int) ≤ x9 ∧ x9 ≤ 10 := by omega
  exact hk43 (by omega) hG (by omega) (by omega) (by omega)
theorem s_E_needed_43 {b : Wd} : ∀ (n : Nat) {w : Wd} {v1 v2 v3 : Int}, ((11 : Int) - v3) < (n : Int) → G md_E_needed b w → ((0 : Int) ≤ v1 ∧ v1 ≤ 60) → ((0 : Int) ≤ v2 ∧ v2 ≤ 1023) → ((0 : Int) ≤ v3 ∧ v3 ≤ 10) → OK (f_E_needed_43 n v1 v2 v3 w) (fun r u => ((-3 : Int) ≤ r ∧ r ≤ 1023) ∧ G md_E_needed b u) := by
  intro n
  induction n with
  | zero =>
    intro w v1 v2 v3 hm hG i_v1 i_v2 i_v3
    exfalso
    omega
  | succ n ih =>
    intro w v1 v2 v3 hm hG i_v1 i_v2 i_v3
    rw [f_E_needed_43]
    have : (0 : Int) ≤ (w 5 3) ∧ (w 5 3) ≤ 10 := hG.1 5 3
    have : (w 5 3) = (b 5 3) := hG.2.1 5 3 rfl
    refine ok_ite (fun h1905 => ?_) (fun h1906 => ?_)
    · exact ok_some ⟨by omega, hG⟩
    · refine ok_call (s_F_free (g_self hG)) (fun r5 u6 q => ?_)
      obtain ⟨i1907, g1908⟩ := q
      have g1909 : G md_E_needed b u6 := g_tr hG g1908 rfl
      refine ok_jif (by omega) ?_
      refine ok_jif (by omega) ?_
      have := ishr_nn (x := r5) (y := v3) (by omega)
      have := iand_l (x := (ishr r5 v3)) (y := (1 : Int)) (by omega)
      have := iand_r (x := (ishr r5 v3)) (y := (1 : Int)) (by omega)
      refine ok_jite (fun h1911 => ?_) (fun h1912 => ?_)
      · refine ok_jsome ?_
        refine ok_it (by decide) ?_
        exact s_E_needed_89 ih g1909 (by omega) (by omega) (by omega) (by omega)
      · refine ok_jsome ?_
        refine ok_if (by decide) ?_
        have := ishl1_n 9 (i := v3) (j := 9) (m := 512) (by decide) (by decide) (by decide) (by omega)
        refine ok_call (s_S_lastWeek (g_self g1909) (by omega) (by omega)) (fun r10 u11 q => ?_)
        obtain ⟨i1913, g1914⟩ := q
        have g1915 : G md_E_needed b u11 := g_tr g1909 g1914 rfl
        refine ok_ite (fun h1916 => ?_) (fun h1917 => ?_)
        · exact s_E_needed_89 ih g1915 (by omega) (by omega) (by omega) (by omega)
        · have := ior_n 10 (x := v2) (y := (ishl (1 : Int) v3)) (m := 1023) (by decide) (by decide) (by omega) (by omega)
          refine ok_let (fun x12 e1918 => ?_)
          have : (0 : Int) ≤ x12 ∧ x12 ≤ 1023 := by omega
          exact s_E_needed_89 ih g1915 (by omega) (by omega) (by omega) (by omega)
theorem s_E_needed {w : Wd} (hG : G md_E_needed w w) : OK (f_E_needed w) (fun r u => ((-3 : Int) ≤ r ∧ r ≤ 1023) ∧ G md_E_needed w u) := by
  unfold f_E_needed
  refine ok_call (s_S_run (g_self hG)) (fun r1 u2 q => ?_)
  obtain ⟨i1919, g1920⟩ := q
  have g1921 : G md_E_needed w u2 := g_tr hG g1920 rfl
  refine ok_ite (fun h1922 => ?_) (fun h1923 => ?_)
  · exact ok_some ⟨by omega, g1921⟩
  · refine ok_call (s_S_lastWeek (g_self g1921) (by omega) (by omega)) (fun r3 u4 q => ?_)
    obtain ⟨i1924, g1925⟩ := q
    have g1926 : G md_E_needed w u4 := g_tr g1921 g1925 rfl
    refine ok_ite (fun h1927 => ?_) (fun h1928 => ?_)
    · exact ok_some ⟨by omega, g1926⟩
    · exact s_E_needed_43 FU (by have := eqFU; omega) g1926 (by omega) (by omega) (by omega)
theorem s_E_never_25 {b : Wd} : ∀ (n : Nat) {w : Wd} {v1 v2 : Int}, ((3001 : Int) - v2) < (n : Int) → G md_E_never b w → ((0 : Int) ≤ v1 ∧ v1 ≤ 1023) → ((0 : Int) ≤ v2 ∧ v2 ≤ 3000) → OK (f_E_never_25 n v1 v2 w) (fun r u => ((-3 : Int) ≤ r ∧ r ≤ 1023) ∧ G md_E_never b u) := by
  intro n
  induction n with
  | zero =>
    intro w v1 v2 hm hG i_v1 i_v2
    exfalso
    omega
  | succ n ih =>
    intro w v1 v2 hm hG i_v1 i_v2
    rw [f_E_never_25]
    have : (0 : Int) ≤ (w 28 7) ∧ (w 28 7) ≤ 3000 := hG.1 28 7
    refine ok_ite (fun h1929 => ?_) (fun h1930 => ?_)
    · refine ok_call (s_F_strangers (g_self hG)) (fun r3 u4 q => ?_)
      obtain ⟨i1931, g1932⟩ := q
      have g1933 : G md_E_never b u4 := g_tr hG g1932 rfl
      have := ixor_m1 (x := v1) (by omega)
      have := iand_l (x := r3) (y := (ixor v1 (-1 : Int))) (by omega)
      exact ok_some ⟨by omega, g1933⟩
    · refine ok_call (s_S_guests (g_self hG) (by omega)) (fun r5 u6 q => ?_)
      obtain ⟨i1934, g1935⟩ := q
      have g1936 : G md_E_never b u6 := g_tr hG g1935 rfl
      have := ior_n 10 (x := v1) (y := r5) (m := 1023) (by decide) (by decide) (by omega) (by omega)
      refine ok_let (fun x7 e1937 => ?_)
      have : (0 : Int) ≤ x7 ∧ x7 ≤ 1023 := by omega
      have := w32_sp ((v2 + (1 : Int)))
      refine ok_let (fun x8 e1938 => ?_)
      have : (1 : Int) ≤ x8 ∧ x8 ≤ 3000 := by omega
      exact ih (by omega) g1936 (by omega) (by omega)
theorem s_E_never {w : Wd} (hG : G md_E_never w w) : OK (f_E_never w) (fun r u => ((-3 : Int) ≤ r ∧ r ≤ 1023) ∧ G md_E_never w u) := by
  unfold f_E_never
  refine ok_call (s_S_run (g_self hG)) (fun r1 u2 q => ?_)
  obtain ⟨i1939, g1940⟩ := q
  have g1941 : G md_E_never w u2 := g_tr hG g1940 rfl
  refine ok_ite (fun h1942 => ?_) (fun h1943 => ?_)
  · exact ok_some ⟨by omega, g1941⟩
  · exact s_E_never_25 FU (by have := eqFU; omega) g1941 (by omega) (by omega)
theorem s_E_bound_93 {b : Wd} {k55 : Int → Int → Int → Int → Wd → Option (Int × Wd)} {Bk55 : Int} (hk55 : ∀ {w1 : Wd} {v1 v2 v3 v4 : Int}, ((11 : Int) - v4) < Bk55 → G md_E_bound b w1 → ((1 : Int) ≤ v1 ∧ v1 ≤ 1023) → ((0 : Int) ≤ v2 ∧ v2 ≤ 1023) → ((-1 : Int) ≤ v3 ∧ v3 ≤ 3) → ((0 : Int) ≤ v4 ∧ v4 ≤ 10) → OK (k55 v1 v2 v3 v4 w1) (fun r u => ((-2147483648 : Int) ≤ r ∧ r ≤ 2147483647) ∧ G md_E_bound b u)) {w : Wd} {v1 v2 v3 v4 : Int} (hG : G md_E_bound b w) (i_v1 : ((1 : Int) ≤ v1 ∧ v1 ≤ 1023)) (i_v2 : ((0 : Int) ≤ v2 ∧ v2 ≤ 1023)) (i_v3 : ((-1 : Int) ≤ v3 ∧ v3 ≤ 3)) (i_v4 : ((0 : Int) ≤ v4 ∧ v4 ≤ 9)) (hBk55 : ((11 : Int) - v4) ≤ Bk55) : OK (f_E_bound_93 k55 v1 v2 v3 v4 w) (fun r u => ((-2147483648 : Int) ≤ r ∧ r ≤ 2147483647) ∧ G md_E_bound b u) := by
  unfold f_E_bound_93
  have := w32_sp ((v4 + (1 : Int)))
  refine ok_let (fun x7 e1944 => ?_)
  have : (1 : Int) ≤ x7 ∧ x7 ≤ 10 := by omega
  exact hk55 (by omega) hG (by omega) (by omega) (by omega) (by omega)
theorem s_E_bound_55 {b : Wd} : ∀ (n : Nat) {w : Wd} {v1 v2 v3 v4 : Int}, ((11 : Int) - v4) < (n : Int) → G md_E_bound b w → ((1 : Int) ≤ v1 ∧ v1 ≤ 1023) → ((0 : Int) ≤ v2 ∧ v2 ≤ 1023) → ((-1 : Int) ≤ v3 ∧ v3 ≤ 3) → ((0 : Int) ≤ v4 ∧ v4 ≤ 10) → OK (f_E_bound_55 n v1 v2 v3 v4 w) (fun r u => ((-2147483648 : Int) ≤ r ∧ r ≤ 2147483647) ∧ G md_E_bound b u) := by
  intro n
  induction n with
  | zero =>
    intro w v1 v2 v3 v4 hm hG i_v1 i_v2 i_v3 i_v4
    exfalso
    omega
  | succ n ih =>
    intro w v1 v2 v3 v4 hm hG i_v1 i_v2 i_v3 i_v4
    rw [f_E_bound_55]
    have : (0 : Int) ≤ (w 5 3) ∧ (w 5 3) ≤ 10 := hG.1 5 3
    have : (w 5 3) = (b 5 3) := hG.2.1 5 3 rfl
    refine ok_ite (fun h1945 => ?_) (fun h1946 => ?_)
    · have := ixor_m1 (x := v1) (by omega)
      have := iand_l (x := v2) (y := (ixor v1 (-1 : Int))) (by omega)
      refine ok_call (s_JI_bitCount (g_self hG) (by omega)) (fun r3 u4 q => ?_)
      obtain ⟨i1947, g1948⟩ := q
      have g1949 : G md_E_bound b u4 := g_tr hG g1948 rfl
      have : (0 : Int) ≤ (w 5 7) ∧ (w 5 7) ≤ 2147483647 := hG.1 5 7
      have : (w 5 7) = (b 5 7) := hG.2.1 5 7 rfl
      have := w32_sp (((w 5 7) * r3))
      have : (0 : Int) ≤ (u4 5 7) ∧ (u4 5 7) ≤ 2147483647 := g1949.1 5 7
      have : (u4 5 7) = (w 5 7) := g1948.2.1 5 7 rfl
      have := w32_sp (((u4 5 7) - v3))
      have := imax_sp (1 : Int) (w32 ((u4 5 7) - v3))
      have := w32_sp (((w32 ((w 5 7) * r3)) + (imax (1 : Int) (w32 ((u4 5 7) - v3)))))
      have := w32_sp (((w32 ((w32 ((w 5 7) * r3)) + (imax (1 : Int) (w32 ((u4 5 7) - v3))))) - (1 : Int)))
      exact ok_some ⟨by omega, g1949⟩
    · refine ok_jif (by omega) ?_
      refine ok_jif (by omega) ?_
      have := ishr_nn (x := v1) (y := v4) (by omega)
      have := iand_l (x := (ishr v1 v4)) (y := (1 : Int)) (by omega)
      have := iand_r (x := (ishr v1 v4)) (y := (1 : Int)) (by omega)
      refine ok_jite (fun h1951 => ?_) (fun h1952 => ?_)
      · refine ok_jsome ?_
        refine ok_it (by decide) ?_
        exact s_E_bound_93 ih hG (by omega) (by omega) (by omega) (by omega) (by omega)
      · refine ok_jsome ?_
        refine ok_if (by decide) ?_
        have : (-2147483648 : Int) ≤ (w 5 4) ∧ (w 5 4) ≤ 2147483647 := hG.1 5 4
        have : (w 5 4) = (b 5 4) := hG.2.1 5 4 rfl
        refine ok_call (s_O_late (g_self hG) (by omega) (by omega)) (fun r8 u9 q => ?_)
        obtain ⟨i1953, g1954⟩ := q
        have g1955 : G md_E_bound b u9 := g_tr hG g1954 rfl
        have := imin_sp v3 r8
        refine ok_let (fun x10 e1956 => ?_)
        have : (-1 : Int) ≤ x10 ∧ x10 ≤ 2 := by omega
        exact s_E_bound_93 ih g1955 (by omega) (by omega) (by omega) (by omega) (by omega)
theorem s_E_bound_19 {b : Wd} : ∀ (n : Nat) {w : Wd} {v1 v2 v3 : Int}, ((11 : Int) - v3) < (n : Int) → G md_E_bound b w → ((1 : Int) ≤ v1 ∧ v1 ≤ 1023) → ((0 : Int) ≤ v2 ∧ v2 ≤ 1023) → ((0 : Int) ≤ v3 ∧ v3 ≤ 10) → OK (f_E_bound_19 n v1 v2 v3 w) (fun r u => ((-2147483648 : Int) ≤ r ∧ r ≤ 2147483647) ∧ G md_E_bound b u) := by
  intro n
  induction n with
  | zero =>
    intro w v1 v2 v3 hm hG i_v1 i_v2 i_v3
    exfalso
    omega
  | succ n ih =>
    intro w v1 v2 v3 hm hG i_v1 i_v2 i_v3
    rw [f_E_bound_19]
    refine ok_ite (fun h1957 => ?_) (fun h1958 => ?_)
    · exact s_E_bound_55 FU (by have := eqFU; omega) hG (by omega) (by omega) (by omega) (by omega)
    · refine ok_call (s_F_knownBy (g_self hG) (by omega)) (fun r11 u12 q => ?_)
      obtain ⟨i1959, g1960⟩ := q
      have g1961 : G md_E_bound b u12 := g_tr hG g1960 rfl
      refine ok_call (s_F_free (g_self g1961)) (fun r13 u14 q => ?_)
      obtain ⟨i1962, g1963⟩ := q
      have g1964 : G md_E_bound b u14 := g_tr g1961 g1963 rfl
      have := iand_r (x := r11) (y := r13) (by omega)
      have := ior_n 10 (x := v2) (y := (iand r11 r13)) (m := 1023) (by decide) (by decide) (by omega) (by omega)
      refine ok_let (fun x15 e1965 => ?_)
      have : (0 : Int) ≤ x15 ∧ x15 ≤ 1023 := by omega
      have := w32_sp ((v3 + (1 : Int)))
      refine ok_let (fun x16 e1966 => ?_)
      have : (1 : Int) ≤ x16 ∧ x16 ≤ 10 := by omega
      exact ih (by omega) g1964 (by omega) (by omega) (by omega)
theorem s_E_bound {w : Wd} (hG : G md_E_bound w w) : OK (f_E_bound w) (fun r u => ((-2147483648 : Int) ≤ r ∧ r ≤ 2147483647) ∧ G md_E_bound w u) := by
  unfold f_E_bound
  refine ok_call (s_F_guests (g_self hG)) (fun r1 u2 q => ?_)
  obtain ⟨i1967, g1968⟩ := q
  have g1969 : G md_E_bound w u2 := g_tr hG g1968 rfl
  refine ok_ite (fun h1970 => ?_) (fun h1971 => ?_)
  · exact ok_some ⟨by omega, g1969⟩
  · exact s_E_bound_19 FU (by have := eqFU; omega) g1969 (by omega) (by omega) (by omega)
theorem s_F_within_12 {b : Wd} : ∀ (n : Nat) {w : Wd} {v2 v3 v4 : Int}, ((10 : Int) - v4) < (n : Int) → G md_F_within b w → ((0 : Int) ≤ v2 ∧ v2 ≤ 9) → ((0 : Int) ≤ v3 ∧ v3 ≤ 1023) → ((0 : Int) ≤ v4 ∧ v4 ≤ 9) → OK (f_F_within_12 n v2 v3 v4 w) (fun r u => ((0 : Int) ≤ r ∧ r ≤ 1023) ∧ G md_F_within b u) := by
  intro n
  induction n with
  | zero =>
    intro w v2 v3 v4 hm hG i_v2 i_v3 i_v4
    exfalso
    omega
  | succ n ih =>
    intro w v2 v3 v4 hm hG i_v2 i_v3 i_v4
    rw [f_F_within_12]
    refine ok_ite (fun h1972 => ?_) (fun h1973 => ?_)
    · exact ok_some ⟨by omega, hG⟩
    · refine ok_call (s_F_knownBy (g_self hG) (by omega)) (fun r4 u5 q => ?_)
      obtain ⟨i1974, g1975⟩ := q
      have g1976 : G md_F_within b u5 := g_tr hG g1975 rfl
      refine ok_call (s_F_free (g_self g1976)) (fun r6 u7 q => ?_)
      obtain ⟨i1977, g1978⟩ := q
      have g1979 : G md_F_within b u7 := g_tr g1976 g1978 rfl
      have := iand_r (x := r4) (y := r6) (by omega)
      have := ior_n 10 (x := v3) (y := (iand r4 r6)) (m := 1023) (by decide) (by decide) (by omega) (by omega)
      refine ok_let (fun x8 e1980 => ?_)
      have : (0 : Int) ≤ x8 ∧ x8 ≤ 1023 := by omega
      have := w32_sp ((v4 + (1 : Int)))
      refine ok_let (fun x9 e1981 => ?_)
      have : (1 : Int) ≤ x9 ∧ x9 ≤ 9 := by omega
      exact ih (by omega) g1979 (by omega) (by omega) (by omega)
theorem s_F_within {w : Wd} {v1 v2 : Int} (hG : G md_F_within w w) (i_v1 : ((0 : Int) ≤ v1 ∧ v1 ≤ 9)) (i_v2 : ((0 : Int) ≤ v2 ∧ v2 ≤ 9)) : OK (f_F_within v1 v2 w) (fun r u => ((0 : Int) ≤ r ∧ r ≤ 1023) ∧ G md_F_within w u) := by
  unfold f_F_within
  refine ok_call (s_F_free (g_self hG)) (fun r1 u2 q => ?_)
  obtain ⟨i1982, g1983⟩ := q
  have g1984 : G md_F_within w u2 := g_tr hG g1983 rfl
  have := ishl1_n 9 (i := v1) (j := 9) (m := 512) (by decide) (by decide) (by decide) (by omega)
  have := iand_l (x := (ishl (1 : Int) v1)) (y := r1) (by omega)
  have := iand_r (x := (ishl (1 : Int) v1)) (y := r1) (by omega)
  refine ok_let (fun x3 e1985 => ?_)
  have : (0 : Int) ≤ x3 ∧ x3 ≤ 512 := by omega
  exact s_F_within_12 FU (by have := eqFU; omega) g1984 (by omega) (by omega) (by omega)
theorem s_E_tellWay_13 {b : Wd} : ∀ (n : Nat) {w : Wd} {v1 v4 v5 : Int}, (v5 + (1 : Int)) < (n : Int) → G md_E_tellWay b w → ((0 : Int) ≤ v1 ∧ v1 ≤ 9) → ((-2147483648 : Int) ≤ v4 ∧ v4 ≤ 2147483647) → ((0 : Int) ≤ v5 ∧ v5 ≤ 9) → OK (f_E_tellWay_13 n v1 v4 v5 w) (fun r u => ((0 : Int) ≤ r ∧ r ≤ 0) ∧ G md_E_tellWay b u) := by
  intro n
  induction n with
  | zero =>
    intro w v1 v4 v5 hm hG i_v1 i_v4 i_v5
    exfalso
    omega
  | succ n ih =>
    intro w v1 v4 v5 hm hG i_v1 i_v4 i_v5
    rw [f_E_tellWay_13]
    refine ok_ite (fun h1986 => ?_) (fun h1987 => ?_)
    · exact ok_some ⟨by omega, hG⟩
    · refine ok_call (s_F_within (g_self hG) (by omega) (by omega)) (fun r3 u4 q => ?_)
      obtain ⟨i1988, g1989⟩ := q
      have g1990 : G md_E_tellWay b u4 := g_tr hG g1989 rfl
      have := iand_r (x := v4) (y := r3) (by omega)
      refine ok_call (s_E_lowest (g_self g1990) (by omega)) (fun r5 u6 q => ?_)
      obtain ⟨i1991, g1992⟩ := q
      have g1993 : G md_E_tellWay b u6 := g_tr g1990 g1992 rfl
      refine ok_call (s_N_put (g_self g1993) (by omega)) (fun r7 u8 q => ?_)
      obtain ⟨i1994, g1995⟩ := q
      have g1996 : G md_E_tellWay b u8 := g_tr g1993 g1995 rfl
      have := ishl_rg (1 : Int) r5
      refine ok_call (s_F_knownBy (g_self g1996) (by omega)) (fun r9 u10 q => ?_)
      obtain ⟨i1997, g1998⟩ := q
      have g1999 : G md_E_tellWay b u10 := g_tr g1996 g1998 rfl
      have := w32_sp ((v5 + (-1 : Int)))
      refine ok_let (fun x11 e2000 => ?_)
      have : (0 : Int) ≤ x11 ∧ x11 ≤ 8 := by omega
      exact ih (by omega) g1999 (by omega) (by omega) (by omega)
theorem s_E_tellWay {w : Wd} {v1 v2 v3 : Int} (hG : G md_E_tellWay w w) (i_v1 : ((0 : Int) ≤ v1 ∧ v1 ≤ 9)) (i_v2 : ((0 : Int) ≤ v2 ∧ v2 ≤ 9)) (i_v3 : ((-2147483648 : Int) ≤ v3 ∧ v3 ≤ 2147483647)) : OK (f_E_tellWay v1 v2 v3 w) (fun r u => ((0 : Int) ≤ r ∧ r ≤ 0) ∧ G md_E_tellWay w u) := by
  unfold f_E_tellWay
  refine ok_call (s_N_clear (g_self hG)) (fun r1 u2 q => ?_)
  obtain ⟨i2001, g2002⟩ := q
  have g2003 : G md_E_tellWay w u2 := g_tr hG g2002 rfl
  exact s_E_tellWay_13 FU (by have := eqFU; omega) g2003 (by omega) (by omega) (by omega)
theorem s_E_far_118 {b : Wd} {w : Wd} {v1 v2 v3 : Int} (hG : G md_E_far b w) (i_v1 : ((0 : Int) ≤ v1 ∧ v1 ≤ 9)) (i_v2 : ((-2147483648 : Int) ≤ v2 ∧ v2 ≤ 2147483647)) (i_v3 : ((-1 : Int) ≤ v3 ∧ v3 ≤ 9)) : OK (f_E_far_118 v1 v2 v3 w) (fun r u => ((-2 : Int) ≤ r ∧ r ≤ 10) ∧ G md_E_far b u) := by
  unfold f_E_far_118
  refine ok_ite (fun h2004 => ?_) (fun h2005 => ?_)
  · exact ok_some ⟨by omega, hG⟩
  · refine ok_call (s_E_tellWay (g_self hG) (by omega) (by omega) (by omega)) (fun r15 u16 q => ?_)
    obtain ⟨i2006, g2007⟩ := q
    have g2008 : G md_E_far b u16 := g_tr hG g2007 rfl
    have := w32_sp ((v3 + (1 : Int)))
    exact ok_some ⟨by omega, g2008⟩
theorem s_E_far_111 {b : Wd} {k73 : Int → Int → Int → Int → Wd → Option (Int × Wd)} {Bk73 : Int} (hk73 : ∀ {w1 : Wd} {v1 v2 v3 v4 : Int}, ((11 : Int) - v4) < Bk73 → G md_E_far b w1 → ((0 : Int) ≤ v1 ∧ v1 ≤ 9) → ((-2147483648 : Int) ≤ v2 ∧ v2 ≤ 2147483647) → ((-1 : Int) ≤ v3 ∧ v3 ≤ 9) → ((0 : Int) ≤ v4 ∧ v4 ≤ 10) → OK (k73 v1 v2 v3 v4 w1) (fun r u => ((-2 : Int) ≤ r ∧ r ≤ 10) ∧ G md_E_far b u)) {w : Wd} {v1 v2 v4 s0 : Int} (hG : G md_E_far b w) (i_v1 : ((0 : Int) ≤ v1 ∧ v1 ≤ 9)) (i_v2 : ((-2147483648 : Int) ≤ v2 ∧ v2 ≤ 2147483647)) (i_v4 : ((0 : Int) ≤ v4 ∧ v4 ≤ 9)) (i_s0 : ((-1 : Int) ≤ s0 ∧ s0 ≤ 9)) (hBk73 : ((11 : Int) - v4) ≤ Bk73) : OK (f_E_far_111 k73 v1 v2 v4 s0 w) (fun r u => ((-2 : Int) ≤ r ∧ r ≤ 10) ∧ G md_E_far b u) := by
  unfold f_E_far_111
  have := w32_sp ((v4 + (1 : Int)))
  refine ok_let (fun x19 e2009 => ?_)
  have : (1 : Int) ≤ x19 ∧ x19 ≤ 10 := by omega
  exact hk73 (by omega) hG (by omega) (by omega) (by omega) (by omega)
theorem s_E_far_73 {b : Wd} : ∀ (n : Nat) {w : Wd} {v1 v2 v3 v4 : Int}, ((11 : Int) - v4) < (n : Int) → G md_E_far b w → ((0 : Int) ≤ v1 ∧ v1 ≤ 9) → ((-2147483648 : Int) ≤ v2 ∧ v2 ≤ 2147483647) → ((-1 : Int) ≤ v3 ∧ v3 ≤ 9) → ((0 : Int) ≤ v4 ∧ v4 ≤ 10) → OK (f_E_far_73 n v1 v2 v3 v4 w) (fun r u => ((-2 : Int) ≤ r ∧ r ≤ 10) ∧ G md_E_far b u) := by
  intro n
  induction n with
  | zero =>
    intro w v1 v2 v3 v4 hm hG i_v1 i_v2 i_v3 i_v4
    exfalso
    omega
  | succ n ih =>
    intro w v1 v2 v3 v4 hm hG i_v1 i_v2 i_v3 i_v4
    rw [f_E_far_73]
    have : (0 : Int) ≤ (w 5 3) ∧ (w 5 3) ≤ 10 := hG.1 5 3
    have : (w 5 3) = (b 5 3) := hG.2.1 5 3 rfl
    refine ok_ite (fun h2010 => ?_) (fun h2011 => ?_)
    · exact s_E_far_118 hG (by omega) (by omega) (by omega)
    · refine ok_ite (fun h2012 => ?_) (fun h2013 => ?_)
      · refine ok_call (s_F_within (g_self hG) (by omega) (by omega)) (fun r17 u18 q => ?_)
        obtain ⟨i2014, g2015⟩ := q
        have g2016 : G md_E_far b u18 := g_tr hG g2015 rfl
        have := iand_l (x := r17) (y := v2) (by omega)
        refine ok_ite (fun h2017 => ?_) (fun h2018 => ?_)
        · exact s_E_far_111 ih g2016 (by omega) (by omega) (by omega) (by omega) (by omega)
        · exact s_E_far_111 ih g2016 (by omega) (by omega) (by omega) (by omega) (by omega)
      · exact s_E_far_118 hG (by omega) (by omega) (by omega)
theorem s_E_far {w : Wd} {v1 : Int} (hG : G md_E_far w w) (i_v1 : ((-2147483648 : Int) ≤ v1 ∧ v1 ≤ 2147483647)) : OK (f_E_far v1 w) (fun r u => ((-2 : Int) ≤ r ∧ r ≤ 10) ∧ G md_E_far w u) := by
  unfold f_E_far
  refine ok_jite (fun h2020 => ?_) (fun h2021 => ?_)
  · refine ok_jsome ?_
    refine ok_it (by decide) ?_
    exact ok_some ⟨by omega, hG⟩
  · have : (0 : Int) ≤ (w 5 3) ∧ (w 5 3) ≤ 10 := hG.1 5 3
    refine ok_jite (fun h2022 => ?_) (fun h2023 => ?_)
    · refine ok_jsome ?_
      refine ok_it (by decide) ?_
      exact ok_some ⟨by omega, hG⟩
    · refine ok_jsome ?_
      refine ok_if (by decide) ?_
      refine ok_call (s_F_guests (g_self hG)) (fun r3 u4 q => ?_)
      obtain ⟨i2024, g2025⟩ := q
      have g2026 : G md_E_far w u4 := g_tr hG g2025 rfl
      refine ok_jif (by omega) ?_
      refine ok_jif (by omega) ?_
      have := ishr_nn (x := r3) (y := v1) (by omega)
      have := iand_l (x := (ishr r3 v1)) (y := (1 : Int)) (by omega)
      have := iand_r (x := (ishr r3 v1)) (y := (1 : Int)) (by omega)
      refine ok_jite (fun h2028 => ?_) (fun h2029 => ?_)
      · refine ok_jsome ?_
        refine ok_it (by decide) ?_
        refine ok_call (s_F_free (g_self g2026)) (fun r7 u8 q => ?_)
        obtain ⟨i2030, g2031⟩ := q
        have g2032 : G md_E_far w u8 := g_tr g2026 g2031 rfl
        refine ok_jif (by omega) ?_
        refine ok_jif (by omega) ?_
        have := ishr_nn (x := r7) (y := v1) (by omega)
        have := iand_l (x := (ishr r7 v1)) (y := (1 : Int)) (by omega)
        have := iand_r (x := (ishr r7 v1)) (y := (1 : Int)) (by omega)
        refine ok_jite (fun h2034 => ?_) (fun h2035 => ?_)
        · refine ok_jsome ?_
          refine ok_it (by decide) ?_
          exact ok_some ⟨by omega, g2032⟩
        · refine ok_jsome ?_
          refine ok_if (by decide) ?_
          refine ok_call (s_F_guests (g_self g2032)) (fun r11 u12 q => ?_)
          obtain ⟨i2036, g2037⟩ := q
          have g2038 : G md_E_far w u12 := g_tr g2032 g2037 rfl
          refine ok_call (s_F_knownBy (g_self g2038) (by omega)) (fun r13 u14 q => ?_)
          obtain ⟨i2039, g2040⟩ := q
          have g2041 : G md_E_far w u14 := g_tr g2038 g2040 rfl
          exact s_E_far_73 FU (by have := eqFU; omega) g2041 (by omega) (by omega) (by omega) (by omega)
      · refine ok_jsome ?_
        refine ok_if (by decide) ?_
        refine ok_call (s_N_clear (g_self g2026)) (fun r20 u21 q => ?_)
        obtain ⟨i2042, g2043⟩ := q
        have g2044 : G md_E_far w u21 := g_tr g2026 g2043 rfl
        exact ok_some ⟨by omega, g2044⟩
theorem s_F_broughtBy {w : Wd} {v1 : Int} (hG : G md_F_broughtBy w w) (i_v1 : ((0 : Int) ≤ v1 ∧ v1 ≤ 9)) : OK (f_F_broughtBy v1 w) (fun r u => ((-1 : Int) ≤ r ∧ r ≤ 9) ∧ G md_F_broughtBy w u) := by
  unfold f_F_broughtBy
  refine ok_jif (by omega) ?_
  have : (0 : Int) ≤ (w 5 3) ∧ (w 5 3) ≤ 10 := hG.1 5 3
  refine ok_jite (fun h2046 => ?_) (fun h2047 => ?_)
  · refine ok_jsome ?_
    refine ok_it (by decide) ?_
    exact ok_some ⟨by omega, hG⟩
  · refine ok_jsome ?_
    refine ok_if (by decide) ?_
    refine ok_gd (by omega) ?_
    have : (-1 : Int) ≤ (w 8 (v1).toNat) ∧ (w 8 (v1).toNat) ≤ 9 := hG.1 8 (v1).toNat
    exact ok_some ⟨by omega, hG⟩
theorem s_E_line_70 {b : Wd} {w : Wd} (hG : G md_E_line b w) : OK (f_E_line_70 w) (fun r u => ((-1 : Int) ≤ r ∧ r ≤ 20) ∧ G md_E_line b u) := by
  unfold f_E_line_70
  have : (0 : Int) ≤ (w 3 1) ∧ (w 3 1) ≤ 20 := hG.1 3 1
  exact ok_some ⟨by omega, hG⟩
theorem s_E_line_31 {b : Wd} : ∀ (n : Nat) {w : Wd} {v2 v3 : Int}, ((11 : Int) - v3) < (n : Int) → G md_E_line b w → ((-1 : Int) ≤ v2 ∧ v2 ≤ 9) → ((0 : Int) ≤ v3 ∧ v3 ≤ 10) → OK (f_E_line_31 n v2 v3 w) (fun r u => ((-1 : Int) ≤ r ∧ r ≤ 20) ∧ G md_E_line b u) := by
  intro n
  induction n with
  | zero =>
    intro w v2 v3 hm hG i_v2 i_v3
    exfalso
    omega
  | succ n ih =>
    intro w v2 v3 hm hG i_v2 i_v3
    rw [f_E_line_31]
    have : (0 : Int) ≤ (w 5 3) ∧ (w 5 3) ≤ 10 := hG.1 5 3
    have : (w 5 3) = (b 5 3) := hG.2.1 5 3 rfl
    refine ok_ite (fun h2048 => ?_) (fun h2049 => ?_)
    · exact s_E_line_70 hG
    · refine ok_ite (fun h2050 => ?_) (fun h2051 => ?_)
      · exact s_E_line_70 hG
      · refine ok_call (s_N_putFirst (g_self hG) (by omega)) (fun r7 u8 q => ?_)
        obtain ⟨i2052, g2053⟩ := q
        have g2054 : G md_E_line b u8 := g_tr hG g2053 rfl
        refine ok_call (s_F_broughtBy (g_self g2054) (by omega)) (fun r9 u10 q => ?_)
        obtain ⟨i2055, g2056⟩ := q
        have g2057 : G md_E_line b u10 := g_tr g2054 g2056 rfl
        have := w32_sp ((v3 + (1 : Int)))
        refine ok_let (fun x11 e2058 => ?_)
        have : (1 : Int) ≤ x11 ∧ x11 ≤ 10 := by omega
        exact ih (by omega) g2057 (by omega) (by omega)
theorem s_E_line {w : Wd} {v1 : Int} (hG : G md_E_line w w) (i_v1 : ((-2147483648 : Int) ≤ v1 ∧ v1 ≤ 2147483647)) : OK (f_E_line v1 w) (fun r u => ((-1 : Int) ≤ r ∧ r ≤ 20) ∧ G md_E_line w u) := by
  unfold f_E_line
  refine ok_jite (fun h2060 => ?_) (fun h2061 => ?_)
  · refine ok_jsome ?_
    refine ok_it (by decide) ?_
    exact ok_some ⟨by omega, hG⟩
  · have : (0 : Int) ≤ (w 5 3) ∧ (w 5 3) ≤ 10 := hG.1 5 3
    refine ok_jite (fun h2062 => ?_) (fun h2063 => ?_)
    · refine ok_jsome ?_
      refine ok_it (by decide) ?_
      exact ok_some ⟨by omega, hG⟩
    · refine ok_jsome ?_
      refine ok_if (by decide) ?_
      refine ok_call (s_N_clear (g_self hG)) (fun r3 u4 q => ?_)
      obtain ⟨i2064, g2065⟩ := q
      have g2066 : G md_E_line w u4 := g_tr hG g2065 rfl
      refine ok_call (s_F_broughtBy (g_self g2066) (by omega)) (fun r5 u6 q => ?_)
      obtain ⟨i2067, g2068⟩ := q
      have g2069 : G md_E_line w u6 := g_tr g2066 g2068 rfl
      exact s_E_line_31 FU (by have := eqFU; omega) g2069 (by omega) (by omega)
theorem s_F_stepsUp_5 {b : Wd} : ∀ (n : Nat) {w : Wd} {v2 v3 v4 : Int}, ((11 : Int) - v4) < (n : Int) → G md_F_stepsUp b w → ((0 : Int) ≤ v2 ∧ v2 ≤ 9) → ((-1 : Int) ≤ v3 ∧ v3 ≤ 9) → ((0 : Int) ≤ v4 ∧ v4 ≤ 10) → OK (f_F_stepsUp_5 n v2 v3 v4 w) (fun r u => ((-1 : Int) ≤ r ∧ r ≤ 9) ∧ G md_F_stepsUp b u) := by
  intro n
  induction n with
  | zero =>
    intro w v2 v3 v4 hm hG i_v2 i_v3 i_v4
    exfalso
    omega
  | succ n ih =>
    intro w v2 v3 v4 hm hG i_v2 i_v3 i_v4
    rw [f_F_stepsUp_5]
    have : (0 : Int) ≤ (w 5 3) ∧ (w 5 3) ≤ 10 := hG.1 5 3
    have : (w 5 3) = (b 5 3) := hG.2.1 5 3 rfl
    refine ok_ite (fun h2070 => ?_) (fun h2071 => ?_)
    · exact ok_some ⟨by omega, hG⟩
    · refine ok_ite (fun h2072 => ?_) (fun h2073 => ?_)
      · exact ok_some ⟨by omega, hG⟩
      · refine ok_ite (fun h2074 => ?_) (fun h2075 => ?_)
        · exact ok_some ⟨by omega, hG⟩
        · refine ok_call (s_F_broughtBy (g_self hG) (by omega)) (fun r1 u2 q => ?_)
          obtain ⟨i2076, g2077⟩ := q
          have g2078 : G md_F_stepsUp b u2 := g_tr hG g2077 rfl
          have := w32_sp ((v4 + (1 : Int)))
          refine ok_let (fun x3 e2079 => ?_)
          have : (1 : Int) ≤ x3 ∧ x3 ≤ 10 := by omega
          exact ih (by omega) g2078 (by omega) (by omega) (by omega)
theorem s_F_stepsUp {w : Wd} {v1 v2 : Int} (hG : G md_F_stepsUp w w) (i_v1 : ((0 : Int) ≤ v1 ∧ v1 ≤ 9)) (i_v2 : ((0 : Int) ≤ v2 ∧ v2 ≤ 9)) : OK (f_F_stepsUp v1 v2 w) (fun r u => ((-1 : Int) ≤ r ∧ r ≤ 9) ∧ G md_F_stepsUp w u) := by
  unfold f_F_stepsUp
  exact s_F_stepsUp_5 FU (by have := eqFU; omega) hG (by omega) (by omega) (by omega)
theorem s_F_ledBy_29 {b : Wd} {k4 : Int → Int → Int → Wd → Option (Int × Wd)} {Bk4 : Int} (hk4 : ∀ {w1 : Wd} {v1 v2 v3 : Int}, ((11 : Int) - v3) < Bk4 → G md_F_ledBy b w1 → ((0 : Int) ≤ v1 ∧ v1 ≤ 9) → ((0 : Int) ≤ v2 ∧ v2 ≤ 1023) → ((0 : Int) ≤ v3 ∧ v3 ≤ 10) → OK (k4 v1 v2 v3 w1) (fun r u => ((0 : Int) ≤ r ∧ r ≤ 1023) ∧ G md_F_ledBy b u)) {w : Wd} {v1 v3 s0 s1 : Int} (hG : G md_F_ledBy b w) (i_v1 : ((0 : Int) ≤ v1 ∧ v1 ≤ 9)) (i_v3 : ((0 : Int) ≤ v3 ∧ v3 ≤ 9)) (i_s0 : ((0 : Int) ≤ s0 ∧ s0 ≤ 1023)) (i_s1 : ((0 : Int) ≤ s1 ∧ s1 ≤ 512)) (hBk4 : ((11 : Int) - v3) ≤ Bk4) : OK (f_F_ledBy_29 k4 v1 v3 s0 s1 w) (fun r u => ((0 : Int) ≤ r ∧ r ≤ 1023) ∧ G md_F_ledBy b u) := by
  unfold f_F_ledBy_29
  have := ior_n 10 (x := s0) (y := s1) (m := 1023) (by decide) (by decide) (by omega) (by omega)
  refine ok_let (fun x3 e2080 => ?_)
  have : (0 : Int) ≤ x3 ∧ x3 ≤ 1023 := by omega
  have := w32_sp ((v3 + (1 : Int)))
  refine ok_let (fun x4 e2081 => ?_)
  have : (1 : Int) ≤ x4 ∧ x4 ≤ 10 := by omega
  exact hk4 (by omega) hG (by omega) (by omega) (by omega)
theorem s_F_ledBy_4 {b : Wd} : ∀ (n : Nat) {w : Wd} {v1 v2 v3 : Int}, ((11 : Int) - v3) < (n : Int) → G md_F_ledBy b w → ((0 : Int) ≤ v1 ∧ v1 ≤ 9) → ((0 : Int) ≤ v2 ∧ v2 ≤ 1023) → ((0 : Int) ≤ v3 ∧ v3 ≤ 10) → OK (f_F_ledBy_4 n v1 v2 v3 w) (fun r u => ((0 : Int) ≤ r ∧ r ≤ 1023) ∧ G md_F_ledBy b u) := by
  intro n
  induction n with
  | zero =>
    intro w v1 v2 v3 hm hG i_v1 i_v2 i_v3
    exfalso
    omega
  | succ n ih =>
    intro w v1 v2 v3 hm hG i_v1 i_v2 i_v3
    rw [f_F_ledBy_4]
    have : (0 : Int) ≤ (w 5 3) ∧ (w 5 3) ≤ 10 := hG.1 5 3
    have : (w 5 3) = (b 5 3) := hG.2.1 5 3 rfl
    refine ok_ite (fun h2082 => ?_) (fun h2083 => ?_)
    · exact ok_some ⟨by omega, hG⟩
    · refine ok_call (s_F_stepsUp (g_self hG) (by omega) (by omega)) (fun r1 u2 q => ?_)
      obtain ⟨i2084, g2085⟩ := q
      have g2086 : G md_F_ledBy b u2 := g_tr hG g2085 rfl
      refine ok_ite (fun h2087 => ?_) (fun h2088 => ?_)
      · exact s_F_ledBy_29 ih g2086 (by omega) (by omega) (by omega) (by omega) (by omega)
      · have := ishl1_n 9 (i := v3) (j := 9) (m := 512) (by decide) (by decide) (by decide) (by omega)
        exact s_F_ledBy_29 ih g2086 (by omega) (by omega) (by omega) (by omega) (by omega)
theorem s_F_ledBy {w : Wd} {v1 : Int} (hG : G md_F_ledBy w w) (i_v1 : ((0 : Int) ≤ v1 ∧ v1 ≤ 9)) : OK (f_F_ledBy v1 w) (fun r u => ((0 : Int) ≤ r ∧ r ≤ 1023) ∧ G md_F_ledBy w u) := by
  unfold f_F_ledBy
  exact s_F_ledBy_4 FU (by have := eqFU; omega) hG (by omega) (by omega) (by omega)
theorem s_E_led_51 {b : Wd} {k20 : Int → Int → Int → Int → Wd → Option (Int × Wd)} {Bk20 : Int} (hk20 : ∀ {w1 : Wd} {v1 v2 v3 v4 : Int}, ((11 : Int) - v4) < Bk20 → G md_E_led b w1 → ((0 : Int) ≤ v1 ∧ v1 ≤ 9) → ((-2147483648 : Int) ≤ v2 ∧ v2 ≤ 2147483647) → ((0 : Int) ≤ v3 ∧ v3 ≤ 9) → ((0 : Int) ≤ v4 ∧ v4 ≤ 10) → OK (k20 v1 v2 v3 v4 w1) (fun r u => ((-1 : Int) ≤ r ∧ r ≤ 1023) ∧ G md_E_led b u)) {w : Wd} {v1 v3 v4 s0 s1 : Int} (hG : G md_E_led b w) (i_v1 : ((0 : Int) ≤ v1 ∧ v1 ≤ 9)) (i_v3 : ((0 : Int) ≤ v3 ∧ v3 ≤ 9)) (i_v4 : ((0 : Int) ≤ v4 ∧ v4 ≤ 9)) (i_s0 : ((-2147483648 : Int) ≤ s0 ∧ s0 ≤ 2147483647)) (i_s1 : ((0 : Int) ≤ s1 ∧ s1 ≤ 1)) (hBk20 : ((11 : Int) - v4) ≤ Bk20) : OK (f_E_led_51 k20 v1 v3 v4 s0 s1 w) (fun r u => ((-1 : Int) ≤ r ∧ r ≤ 1023) ∧ G md_E_led b u) := by
  unfold f_E_led_51
  have := w32_sp ((s0 + s1))
  refine ok_let (fun x9 e2089 => ?_)
  have : (-2147483648 : Int) ≤ x9 ∧ x9 ≤ 2147483647 := by omega
  refine ok_call (s_F_stepsUp (g_self hG) (by omega) (by omega)) (fun r10 u11 q => ?_)
  obtain ⟨i2090, g2091⟩ := q
  have g2092 : G md_E_led b u11 := g_tr hG g2091 rfl
  have := imax_sp v3 r10
  refine ok_let (fun x12 e2093 => ?_)
  have : (0 : Int) ≤ x12 ∧ x12 ≤ 9 := by omega
  have := w32_sp ((v4 + (1 : Int)))
  refine ok_let (fun x13 e2094 => ?_)
  have : (1 : Int) ≤ x13 ∧ x13 ≤ 10 := by omega
  exact hk20 (by omega) g2092 (by omega) (by omega) (by omega) (by omega)
theorem s_E_led_20 {b : Wd} : ∀ (n : Nat) {w : Wd} {v1 v2 v3 v4 : Int}, ((11 : Int) - v4) < (n : Int) → G md_E_led b w → ((0 : Int) ≤ v1 ∧ v1 ≤ 9) → ((-2147483648 : Int) ≤ v2 ∧ v2 ≤ 2147483647) → ((0 : Int) ≤ v3 ∧ v3 ≤ 9) → ((0 : Int) ≤ v4 ∧ v4 ≤ 10) → OK (f_E_led_20 n v1 v2 v3 v4 w) (fun r u => ((-1 : Int) ≤ r ∧ r ≤ 1023) ∧ G md_E_led b u) := by
  intro n
  induction n with
  | zero =>
    intro w v1 v2 v3 v4 hm hG i_v1 i_v2 i_v3 i_v4
    exfalso
    omega
  | succ n ih =>
    intro w v1 v2 v3 v4 hm hG i_v1 i_v2 i_v3 i_v4
    rw [f_E_led_20]
    have : (0 : Int) ≤ (w 5 3) ∧ (w 5 3) ≤ 10 := hG.1 5 3
    have : (w 5 3) = (b 5 3) := hG.2.1 5 3 rfl
    refine ok_ite (fun h2095 => ?_) (fun h2096 => ?_)
    · refine ok_call (s_N_tell2 (g_self hG) (by omega) (by omega)) (fun r3 u4 q => ?_)
      obtain ⟨i2097, g2098⟩ := q
      have g2099 : G md_E_led b u4 := g_tr hG g2098 rfl
      refine ok_call (s_F_ledBy (g_self g2099) (by omega)) (fun r5 u6 q => ?_)
      obtain ⟨i2100, g2101⟩ := q
      have g2102 : G md_E_led b u6 := g_tr g2099 g2101 rfl
      exact ok_some ⟨by omega, g2102⟩
    · refine ok_call (s_F_broughtBy (g_self hG) (by omega)) (fun r7 u8 q => ?_)
      obtain ⟨i2103, g2104⟩ := q
      have g2105 : G md_E_led b u8 := g_tr hG g2104 rfl
      refine ok_ite (fun h2106 => ?_) (fun h2107 => ?_)
      · exact s_E_led_51 ih g2105 (by omega) (by omega) (by omega) (by omega) (by omega) (by omega)
      · exact s_E_led_51 ih g2105 (by omega) (by omega) (by omega) (by omega) (by omega) (by omega)
theorem s_E_led {w : Wd} {v1 : Int} (hG : G md_E_led w w) (i_v1 : ((-2147483648 : Int) ≤ v1 ∧ v1 ≤ 2147483647)) : OK (f_E_led v1 w) (fun r u => ((-1 : Int) ≤ r ∧ r ≤ 1023) ∧ G md_E_led w u) := by
  unfold f_E_led
  refine ok_jite (fun h2109 => ?_) (fun h2110 => ?_)
  · refine ok_jsome ?_
    refine ok_it (by decide) ?_
    exact ok_some ⟨by omega, hG⟩
  · have : (0 : Int) ≤ (w 5 3) ∧ (w 5 3) ≤ 10 := hG.1 5 3
    refine ok_jite (fun h2111 => ?_) (fun h2112 => ?_)
    · refine ok_jsome ?_
      refine ok_it (by decide) ?_
      exact ok_some ⟨by omega, hG⟩
    · refine ok_jsome ?_
      refine ok_if (by decide) ?_
      exact s_E_led_20 FU (by have := eqFU; omega) hG (by omega) (by omega) (by omega) (by omega)
theorem s_E_was_15 {b : Wd} {w : Wd} (hG : G md_E_was b w) : OK (f_E_was_15 w) (fun r u => ((-1 : Int) ≤ r ∧ r ≤ 1023) ∧ G md_E_was b u) := by
  unfold f_E_was_15
  exact ok_some ⟨by omega, hG⟩
theorem s_E_was {w : Wd} {v1 : Int} (hG : G md_E_was w w) (i_v1 : ((-2147483648 : Int) ≤ v1 ∧ v1 ≤ 2147483647)) : OK (f_E_was v1 w) (fun r u => ((-1 : Int) ≤ r ∧ r ≤ 1023) ∧ G md_E_was w u) := by
  unfold f_E_was
  refine ok_ite (fun h2113 => ?_) (fun h2114 => ?_)
  · exact s_E_was_15 hG
  · have : (0 : Int) ≤ (w 15 3) ∧ (w 15 3) ≤ 60 := hG.1 15 3
    refine ok_ite (fun h2115 => ?_) (fun h2116 => ?_)
    · refine ok_call (s_D_guestsBehind (g_self hG) (by omega)) (fun r1 u2 q => ?_)
      obtain ⟨i2117, g2118⟩ := q
      have g2119 : G md_E_was w u2 := g_tr hG g2118 rfl
      exact ok_some ⟨by omega, g2119⟩
    · exact s_E_was_15 hG
theorem s_E_common_16 {b : Wd} : ∀ (n : Nat) {w : Wd} {v2 v3 v4 : Int}, ((11 : Int) - v4) < (n : Int) → G md_E_common b w → ((0 : Int) ≤ v2 ∧ v2 ≤ 9) → ((-1 : Int) ≤ v3 ∧ v3 ≤ 9) → ((0 : Int) ≤ v4 ∧ v4 ≤ 10) → OK (f_E_common_16 n v2 v3 v4 w) (fun r u => ((-2 : Int) ≤ r ∧ r ≤ 9) ∧ G md_E_common b u) := by
  intro n
  induction n with
  | zero =>
    intro w v2 v3 v4 hm hG i_v2 i_v3 i_v4
    exfalso
    omega
  | succ n ih =>
    intro w v2 v3 v4 hm hG i_v2 i_v3 i_v4
    rw [f_E_common_16]
    have : (0 : Int) ≤ (w 5 3) ∧ (w 5 3) ≤ 10 := hG.1 5 3
    have : (w 5 3) = (b 5 3) := hG.2.1 5 3 rfl
    refine ok_ite (fun h2120 => ?_) (fun h2121 => ?_)
    · exact ok_some ⟨by omega, hG⟩
    · refine ok_ite (fun h2122 => ?_) (fun h2123 => ?_)
      · exact ok_some ⟨by omega, hG⟩
      · refine ok_call (s_F_stepsUp (g_self hG) (by omega) (by omega)) (fun r3 u4 q => ?_)
        obtain ⟨i2124, g2125⟩ := q
        have g2126 : G md_E_common b u4 := g_tr hG g2125 rfl
        refine ok_ite (fun h2127 => ?_) (fun h2128 => ?_)
        · refine ok_call (s_F_broughtBy (g_self g2126) (by omega)) (fun r5 u6 q => ?_)
          obtain ⟨i2129, g2130⟩ := q
          have g2131 : G md_E_common b u6 := g_tr g2126 g2130 rfl
          have := w32_sp ((v4 + (1 : Int)))
          refine ok_let (fun x7 e2132 => ?_)
          have : (1 : Int) ≤ x7 ∧ x7 ≤ 10 := by omega
          exact ih (by omega) g2131 (by omega) (by omega) (by omega)
        · exact ok_some ⟨by omega, g2126⟩
theorem s_E_common {w : Wd} {v1 v2 : Int} (hG : G md_E_common w w) (i_v1 : ((-2147483648 : Int) ≤ v1 ∧ v1 ≤ 2147483647)) (i_v2 : ((-2147483648 : Int) ≤ v2 ∧ v2 ≤ 2147483647)) : OK (f_E_common v1 v2 w) (fun r u => ((-2 : Int) ≤ r ∧ r ≤ 9) ∧ G md_E_common w u) := by
  unfold f_E_common
  refine ok_jite (fun h2134 => ?_) (fun h2135 => ?_)
  · refine ok_jsome ?_
    refine ok_it (by decide) ?_
    exact ok_some ⟨by omega, hG⟩
  · refine ok_jj ?_
    refine ok_jite (fun h2137 => ?_) (fun h2138 => ?_)
    · refine ok_jsome ?_
      refine ok_jit (by decide) ?_
      refine ok_jsome ?_
      refine ok_it (by decide) ?_
      exact ok_some ⟨by omega, hG⟩
    · have : (0 : Int) ≤ (w 5 3) ∧ (w 5 3) ≤ 10 := hG.1 5 3
      refine ok_jite (fun h2139 => ?_) (fun h2140 => ?_)
      · refine ok_jsome ?_
        refine ok_jit (by decide) ?_
        refine ok_jsome ?_
        refine ok_it (by decide) ?_
        exact ok_some ⟨by omega, hG⟩
      · refine ok_jsome ?_
        refine ok_jif (by decide) ?_
        refine ok_jj ?_
        refine ok_jite (fun h2142 => ?_) (fun h2143 => ?_)
        · refine ok_jsome ?_
          refine ok_jit (by decide) ?_
          refine ok_jsome ?_
          refine ok_it (by decide) ?_
          exact ok_some ⟨by omega, hG⟩
        · refine ok_jite (fun h2144 => ?_) (fun h2145 => ?_)
          · refine ok_jsome ?_
            refine ok_jit (by decide) ?_
            refine ok_jsome ?_
            refine ok_it (by decide) ?_
            exact ok_some ⟨by omega, hG⟩
          · refine ok_jsome ?_
            refine ok_jif (by decide) ?_
            refine ok_jsome ?_
            refine ok_if (by decide) ?_
            exact s_E_common_16 FU (by have := eqFU; omega) hG (by omega) (by omega) (by omega)
theorem s_E_father_41 {b : Wd} {k6 : Int → Int → Int → Wd → Option (Int × Wd)} {Bk6 : Int} (hk6 : ∀ {w1 : Wd} {v1 v2 v3 : Int}, ((11 : Int) - v3) < Bk6 → G md_E_father b w1 → ((-1 : Int) ≤ v1 ∧ v1 ≤ 9) → ((0 : Int) ≤ v2 ∧ v2 ≤ 63) → ((0 : Int) ≤ v3 ∧ v3 ≤ 10) → OK (k6 v1 v2 v3 w1) (fun r u => ((-2 : Int) ≤ r ∧ r ≤ 9) ∧ G md_E_father b u)) {w : Wd} {v1 v2 v3 : Int} (hG : G md_E_father b w) (i_v1 : ((-1 : Int) ≤ v1 ∧ v1 ≤ 9)) (i_v2 : ((0 : Int) ≤ v2 ∧ v2 ≤ 63)) (i_v3 : ((0 : Int) ≤ v3 ∧ v3 ≤ 9)) (hBk6 : ((11 : Int) - v3) ≤ Bk6) : OK (f_E_father_41 k6 v1 v2 v3 w) (fun r u => ((-2 : Int) ≤ r ∧ r ≤ 9) ∧ G md_E_father b u) := by
  unfold f_E_father_41
  have := w32_sp ((v3 + (1 : Int)))
  refine ok_let (fun x7 e2146 => ?_)
  have : (1 : Int) ≤ x7 ∧ x7 ≤ 10 := by omega
  exact hk6 (by omega) hG (by omega) (by omega) (by omega)
theorem s_E_father_6 {b : Wd} : ∀ (n : Nat) {w : Wd} {v1 v2 v3 : Int}, ((11 : Int) - v3) < (n : Int) → G md_E_father b w → ((-1 : Int) ≤ v1 ∧ v1 ≤ 9) → ((0 : Int) ≤ v2 ∧ v2 ≤ 63) → ((0 : Int) ≤ v3 ∧ v3 ≤ 10) → OK (f_E_father_6 n v1 v2 v3 w) (fun r u => ((-2 : Int) ≤ r ∧ r ≤ 9) ∧ G md_E_father b u) := by
  intro n
  induction n with
  | zero =>
    intro w v1 v2 v3 hm hG i_v1 i_v2 i_v3
    exfalso
    omega
  | succ n ih =>
    intro w v1 v2 v3 hm hG i_v1 i_v2 i_v3
    rw [f_E_father_6]
    have : (0 : Int) ≤ (w 5 3) ∧ (w 5 3) ≤ 10 := hG.1 5 3
    have : (w 5 3) = (b 5 3) := hG.2.1 5 3 rfl
    refine ok_ite (fun h2147 => ?_) (fun h2148 => ?_)
    · refine ok_ite (fun h2149 => ?_) (fun h2150 => ?_)
      · exact ok_some ⟨by omega, hG⟩
      · refine ok_call (s_N_tell1 (g_self hG) (by omega)) (fun r1 u2 q => ?_)
        obtain ⟨i2151, g2152⟩ := q
        have g2153 : G md_E_father b u2 := g_tr hG g2152 rfl
        exact ok_some ⟨by omega, g2153⟩
    · refine ok_call (s_F_ledBy (g_self hG) (by omega)) (fun r3 u4 q => ?_)
      obtain ⟨i2154, g2155⟩ := q
      have g2156 : G md_E_father b u4 := g_tr hG g2155 rfl
      refine ok_call (s_JI_bitCount (g_self g2156) (by omega)) (fun r5 u6 q => ?_)
      obtain ⟨i2157, g2158⟩ := q
      have g2159 : G md_E_father b u6 := g_tr g2156 g2158 rfl
      refine ok_ite (fun h2160 => ?_) (fun h2161 => ?_)
      · exact s_E_father_41 ih g2159 (by omega) (by omega) (by omega) (by omega)
      · exact s_E_father_41 ih g2159 (by omega) (by omega) (by omega) (by omega)
theorem s_E_father {w : Wd} (hG : G md_E_father w w) : OK (f_E_father w) (fun r u => ((-2 : Int) ≤ r ∧ r ≤ 9) ∧ G md_E_father w u) := by
  unfold f_E_father
  exact s_E_father_6 FU (by have := eqFU; omega) hG (by omega) (by omega) (by omega)
theorem s_K_take {w : Wd} (hG : G md_K_take w w) : OK (f_K_take w) (fun r u => ((0 : Int) ≤ r ∧ r ≤ 0) ∧ G md_K_take w u) := by
  unfold f_K_take
  refine ok_lw (fun u1 e2162 => ?_)
  have g2163 : G md_K_take w u1 := g_st hG e2162 rfl rfl (show (0 : Int) ≤ (1 : Int) ∧ (1 : Int) ≤ 1 by omega)
  have : (0 : Int) ≤ (u1 5 3) ∧ (u1 5 3) ≤ 10 := g2163.1 5 3
  have : (u1 5 3) = (w 5 3) := (congrFun (congrFun e2162 5) 3).trans (st_c (by decide))
  have : (0 : Int) ≤ (w 5 3) ∧ (w 5 3) ≤ 10 := hG.1 5 3
  refine ok_lw (fun u2 e2164 => ?_)
  have g2165 : G md_K_take w u2 := g_st g2163 e2164 rfl rfl (show (0 : Int) ≤ (u1 5 3) ∧ (u1 5 3) ≤ 10 by omega)
  have : (-2147483648 : Int) ≤ (u2 5 4) ∧ (u2 5 4) ≤ 2147483647 := g2165.1 5 4
  have : (u2 5 4) = (u1 5 4) := (congrFun (congrFun e2164 5) 4).trans (st_c (by decide))
  have : (-2147483648 : Int) ≤ (u1 5 4) ∧ (u1 5 4) ≤ 2147483647 := g2163.1 5 4
  have : (u1 5 4) = (w 5 4) := (congrFun (congrFun e2162 5) 4).trans (st_c (by decide))
  have : (-2147483648 : Int) ≤ (w 5 4) ∧ (w 5 4) ≤ 2147483647 := hG.1 5 4
  refine ok_lw (fun u3 e2166 => ?_)
  have g2167 : G md_K_take w u3 := g_st g2165 e2166 rfl rfl (show (-2147483648 : Int) ≤ (u2 5 4) ∧ (u2 5 4) ≤ 2147483647 by omega)
  have : (-2147483648 : Int) ≤ (u3 5 5) ∧ (u3 5 5) ≤ 2147483647 := g2167.1 5 5
  have : (u3 5 5) = (u2 5 5) := (congrFun (congrFun e2166 5) 5).trans (st_c (by decide))
  have : (-2147483648 : Int) ≤ (u2 5 5) ∧ (u2 5 5) ≤ 2147483647 := g2165.1 5 5
  have : (u2 5 5) = (u1 5 5) := (congrFun (congrFun e2164 5) 5).trans (st_c (by decide))
  have : (-2147483648 : Int) ≤ (u1 5 5) ∧ (u1 5 5) ≤ 2147483647 := g2163.1 5 5
  have : (u1 5 5) = (w 5 5) := (congrFun (congrFun e2162 5) 5).trans (st_c (by decide))
  have : (-2147483648 : Int) ≤ (w 5 5) ∧ (w 5 5) ≤ 2147483647 := hG.1 5 5
  refine ok_lw (fun u4 e2168 => ?_)
  have g2169 : G md_K_take w u4 := g_st g2167 e2168 rfl rfl (show (-2147483648 : Int) ≤ (u3 5 5) ∧ (u3 5 5) ≤ 2147483647 by omega)
  have : (-2147483648 : Int) ≤ (u4 5 6) ∧ (u4 5 6) ≤ 2147483647 := g2169.1 5 6
  have : (u4 5 6) = (u3 5 6) := (congrFun (congrFun e2168 5) 6).trans (st_c (by decide))
  have : (-2147483648 : Int) ≤ (u3 5 6) ∧ (u3 5 6) ≤ 2147483647 := g2167.1 5 6
  have : (u3 5 6) = (u2 5 6) := (congrFun (congrFun e2166 5) 6).trans (st_c (by decide))
  have : (-2147483648 : Int) ≤ (u2 5 6) ∧ (u2 5 6) ≤ 2147483647 := g2165.1 5 6
  have : (u2 5 6) = (u1 5 6) := (congrFun (congrFun e2164 5) 6).trans (st_c (by decide))
  have : (-2147483648 : Int) ≤ (u1 5 6) ∧ (u1 5 6) ≤ 2147483647 := g2163.1 5 6
  have : (u1 5 6) = (w 5 6) := (congrFun (congrFun e2162 5) 6).trans (st_c (by decide))
  have : (-2147483648 : Int) ≤ (w 5 6) ∧ (w 5 6) ≤ 2147483647 := hG.1 5 6
  refine ok_lw (fun u5 e2170 => ?_)
  have g2171 : G md_K_take w u5 := g_st g2169 e2170 rfl rfl (show (-2147483648 : Int) ≤ (u4 5 6) ∧ (u4 5 6) ≤ 2147483647 by omega)
  have : (0 : Int) ≤ (u5 5 7) ∧ (u5 5 7) ≤ 2147483647 := g2171.1 5 7
  have : (u5 5 7) = (u4 5 7) := (congrFun (congrFun e2170 5) 7).trans (st_c (by decide))
  have : (0 : Int) ≤ (u4 5 7) ∧ (u4 5 7) ≤ 2147483647 := g2169.1 5 7
  have : (u4 5 7) = (u3 5 7) := (congrFun (congrFun e2168 5) 7).trans (st_c (by decide))
  have : (0 : Int) ≤ (u3 5 7) ∧ (u3 5 7) ≤ 2147483647 := g2167.1 5 7
  have : (u3 5 7) = (u2 5 7) := (congrFun (congrFun e2166 5) 7).trans (st_c (by decide))
  have : (0 : Int) ≤ (u2 5 7) ∧ (u2 5 7) ≤ 2147483647 := g2165.1 5 7
  have : (u2 5 7) = (u1 5 7) := (congrFun (congrFun e2164 5) 7).trans (st_c (by decide))
  have : (0 : Int) ≤ (u1 5 7) ∧ (u1 5 7) ≤ 2147483647 := g2163.1 5 7
  have : (u1 5 7) = (w 5 7) := (congrFun (congrFun e2162 5) 7).trans (st_c (by decide))
  have : (0 : Int) ≤ (w 5 7) ∧ (w 5 7) ≤ 2147483647 := hG.1 5 7
  refine ok_lw (fun u6 e2172 => ?_)
  have g2173 : G md_K_take w u6 := g_st g2171 e2172 rfl rfl (show (0 : Int) ≤ (u5 5 7) ∧ (u5 5 7) ≤ 2147483647 by omega)
  have : (0 : Int) ≤ (u6 5 8) ∧ (u6 5 8) ≤ 2147483647 := g2173.1 5 8
  have : (u6 5 8) = (u5 5 8) := (congrFun (congrFun e2172 5) 8).trans (st_c (by decide))
  have : (0 : Int) ≤ (u5 5 8) ∧ (u5 5 8) ≤ 2147483647 := g2171.1 5 8
  have : (u5 5 8) = (u4 5 8) := (congrFun (congrFun e2170 5) 8).trans (st_c (by decide))
  have : (0 : Int) ≤ (u4 5 8) ∧ (u4 5 8) ≤ 2147483647 := g2169.1 5 8
  have : (u4 5 8) = (u3 5 8) := (congrFun (congrFun e2168 5) 8).trans (st_c (by decide))
  have : (0 : Int) ≤ (u3 5 8) ∧ (u3 5 8) ≤ 2147483647 := g2167.1 5 8
  have : (u3 5 8) = (u2 5 8) := (congrFun (congrFun e2166 5) 8).trans (st_c (by decide))
  have : (0 : Int) ≤ (u2 5 8) ∧ (u2 5 8) ≤ 2147483647 := g2165.1 5 8
  have : (u2 5 8) = (u1 5 8) := (congrFun (congrFun e2164 5) 8).trans (st_c (by decide))
  have : (0 : Int) ≤ (u1 5 8) ∧ (u1 5 8) ≤ 2147483647 := g2163.1 5 8
  have : (u1 5 8) = (w 5 8) := (congrFun (congrFun e2162 5) 8).trans (st_c (by decide))
  have : (0 : Int) ≤ (w 5 8) ∧ (w 5 8) ≤ 2147483647 := hG.1 5 8
  refine ok_lw (fun u7 e2174 => ?_)
  have g2175 : G md_K_take w u7 := g_st g2173 e2174 rfl rfl (show (0 : Int) ≤ (u6 5 8) ∧ (u6 5 8) ≤ 2147483647 by omega)
  have : (0 : Int) ≤ (u7 15 3) ∧ (u7 15 3) ≤ 60 := g2175.1 15 3
  have : (u7 15 3) = (u6 15 3) := (congrFun (congrFun e2174 15) 3).trans (st_c (by decide))
  have : (0 : Int) ≤ (u6 15 3) ∧ (u6 15 3) ≤ 60 := g2173.1 15 3
  have : (u6 15 3) = (u5 15 3) := (congrFun (congrFun e2172 15) 3).trans (st_c (by decide))
  have : (0 : Int) ≤ (u5 15 3) ∧ (u5 15 3) ≤ 60 := g2171.1 15 3
  have : (u5 15 3) = (u4 15 3) := (congrFun (congrFun e2170 15) 3).trans (st_c (by decide))
  have : (0 : Int) ≤ (u4 15 3) ∧ (u4 15 3) ≤ 60 := g2169.1 15 3
  have : (u4 15 3) = (u3 15 3) := (congrFun (congrFun e2168 15) 3).trans (st_c (by decide))
  have : (0 : Int) ≤ (u3 15 3) ∧ (u3 15 3) ≤ 60 := g2167.1 15 3
  have : (u3 15 3) = (u2 15 3) := (congrFun (congrFun e2166 15) 3).trans (st_c (by decide))
  have : (0 : Int) ≤ (u2 15 3) ∧ (u2 15 3) ≤ 60 := g2165.1 15 3
  have : (u2 15 3) = (u1 15 3) := (congrFun (congrFun e2164 15) 3).trans (st_c (by decide))
  have : (0 : Int) ≤ (u1 15 3) ∧ (u1 15 3) ≤ 60 := g2163.1 15 3
  have : (u1 15 3) = (w 15 3) := (congrFun (congrFun e2162 15) 3).trans (st_c (by decide))
  have : (0 : Int) ≤ (w 15 3) ∧ (w 15 3) ≤ 60 := hG.1 15 3
  refine ok_lw (fun u8 e2176 => ?_)
  have g2177 : G md_K_take w u8 := g_st g2175 e2176 rfl rfl (show (0 : Int) ≤ (u7 15 3) ∧ (u7 15 3) ≤ 60 by omega)
  refine ok_gd (by omega) ?_
  refine ok_lw (fun u9 e2178 => ?_)
  have g2179 : G md_K_take w u9 := g_cpy g2177 e2178 rfl rfl (fun _ _ => show (-1 : Int) ≤ -1 ∧ (9 : Int) ≤ 9 by decide)
  refine ok_gd (by omega) ?_
  refine ok_lw (fun u10 e2180 => ?_)
  have g2181 : G md_K_take w u10 := g_cpy g2179 e2180 rfl rfl (fun _ _ => show (0 : Int) ≤ 0 ∧ (1023 : Int) ≤ 1023 by decide)
  exact ok_some ⟨by omega, g2181⟩
theorem s_K_take_40_5_15 {w : Wd} (hG : G md_K_take_40_5_15 w w) : OK (f_K_take_40_5_15 w) (fun r u => ((0 : Int) ≤ r ∧ r ≤ 0) ∧ G md_K_take_40_5_15 w u) := by
  unfold f_K_take_40_5_15
  refine ok_lw (fun u1 e2182 => ?_)
  have g2183 : G md_K_take_40_5_15 w u1 := g_st hG e2182 rfl rfl (show (0 : Int) ≤ (1 : Int) ∧ (1 : Int) ≤ 1 by omega)
  have : (0 : Int) ≤ (u1 5 3) ∧ (u1 5 3) ≤ 10 := g2183.1 5 3
  have : (u1 5 3) = (w 5 3) := (congrFun (congrFun e2182 5) 3).trans (st_c (by decide))
  have : (0 : Int) ≤ (w 5 3) ∧ (w 5 3) ≤ 10 := hG.1 5 3
  refine ok_lw (fun u2 e2184 => ?_)
  have g2185 : G md_K_take_40_5_15 w u2 := g_st g2183 e2184 rfl rfl (show (0 : Int) ≤ (u1 5 3) ∧ (u1 5 3) ≤ 10 by omega)
  have : (-2147483648 : Int) ≤ (u2 5 4) ∧ (u2 5 4) ≤ 2147483647 := g2185.1 5 4
  have : (u2 5 4) = (u1 5 4) := (congrFun (congrFun e2184 5) 4).trans (st_c (by decide))
  have : (-2147483648 : Int) ≤ (u1 5 4) ∧ (u1 5 4) ≤ 2147483647 := g2183.1 5 4
  have : (u1 5 4) = (w 5 4) := (congrFun (congrFun e2182 5) 4).trans (st_c (by decide))
  have : (-2147483648 : Int) ≤ (w 5 4) ∧ (w 5 4) ≤ 2147483647 := hG.1 5 4
  refine ok_lw (fun u3 e2186 => ?_)
  have g2187 : G md_K_take_40_5_15 w u3 := g_st g2185 e2186 rfl rfl (show (-2147483648 : Int) ≤ (u2 5 4) ∧ (u2 5 4) ≤ 2147483647 by omega)
  have : (-2147483648 : Int) ≤ (u3 5 5) ∧ (u3 5 5) ≤ 2147483647 := g2187.1 5 5
  have : (u3 5 5) = (u2 5 5) := (congrFun (congrFun e2186 5) 5).trans (st_c (by decide))
  have : (-2147483648 : Int) ≤ (u2 5 5) ∧ (u2 5 5) ≤ 2147483647 := g2185.1 5 5
  have : (u2 5 5) = (u1 5 5) := (congrFun (congrFun e2184 5) 5).trans (st_c (by decide))
  have : (-2147483648 : Int) ≤ (u1 5 5) ∧ (u1 5 5) ≤ 2147483647 := g2183.1 5 5
  have : (u1 5 5) = (w 5 5) := (congrFun (congrFun e2182 5) 5).trans (st_c (by decide))
  have : (-2147483648 : Int) ≤ (w 5 5) ∧ (w 5 5) ≤ 2147483647 := hG.1 5 5
  refine ok_lw (fun u4 e2188 => ?_)
  have g2189 : G md_K_take_40_5_15 w u4 := g_st g2187 e2188 rfl rfl (show (-2147483648 : Int) ≤ (u3 5 5) ∧ (u3 5 5) ≤ 2147483647 by omega)
  have : (-2147483648 : Int) ≤ (u4 5 6) ∧ (u4 5 6) ≤ 2147483647 := g2189.1 5 6
  have : (u4 5 6) = (u3 5 6) := (congrFun (congrFun e2188 5) 6).trans (st_c (by decide))
  have : (-2147483648 : Int) ≤ (u3 5 6) ∧ (u3 5 6) ≤ 2147483647 := g2187.1 5 6
  have : (u3 5 6) = (u2 5 6) := (congrFun (congrFun e2186 5) 6).trans (st_c (by decide))
  have : (-2147483648 : Int) ≤ (u2 5 6) ∧ (u2 5 6) ≤ 2147483647 := g2185.1 5 6
  have : (u2 5 6) = (u1 5 6) := (congrFun (congrFun e2184 5) 6).trans (st_c (by decide))
  have : (-2147483648 : Int) ≤ (u1 5 6) ∧ (u1 5 6) ≤ 2147483647 := g2183.1 5 6
  have : (u1 5 6) = (w 5 6) := (congrFun (congrFun e2182 5) 6).trans (st_c (by decide))
  have : (-2147483648 : Int) ≤ (w 5 6) ∧ (w 5 6) ≤ 2147483647 := hG.1 5 6
  refine ok_lw (fun u5 e2190 => ?_)
  have g2191 : G md_K_take_40_5_15 w u5 := g_st g2189 e2190 rfl rfl (show (-2147483648 : Int) ≤ (u4 5 6) ∧ (u4 5 6) ≤ 2147483647 by omega)
  have : (0 : Int) ≤ (u5 5 7) ∧ (u5 5 7) ≤ 2147483647 := g2191.1 5 7
  have : (u5 5 7) = (u4 5 7) := (congrFun (congrFun e2190 5) 7).trans (st_c (by decide))
  have : (0 : Int) ≤ (u4 5 7) ∧ (u4 5 7) ≤ 2147483647 := g2189.1 5 7
  have : (u4 5 7) = (u3 5 7) := (congrFun (congrFun e2188 5) 7).trans (st_c (by decide))
  have : (0 : Int) ≤ (u3 5 7) ∧ (u3 5 7) ≤ 2147483647 := g2187.1 5 7
  have : (u3 5 7) = (u2 5 7) := (congrFun (congrFun e2186 5) 7).trans (st_c (by decide))
  have : (0 : Int) ≤ (u2 5 7) ∧ (u2 5 7) ≤ 2147483647 := g2185.1 5 7
  have : (u2 5 7) = (u1 5 7) := (congrFun (congrFun e2184 5) 7).trans (st_c (by decide))
  have : (0 : Int) ≤ (u1 5 7) ∧ (u1 5 7) ≤ 2147483647 := g2183.1 5 7
  have : (u1 5 7) = (w 5 7) := (congrFun (congrFun e2182 5) 7).trans (st_c (by decide))
  have : (0 : Int) ≤ (w 5 7) ∧ (w 5 7) ≤ 2147483647 := hG.1 5 7
  refine ok_lw (fun u6 e2192 => ?_)
  have g2193 : G md_K_take_40_5_15 w u6 := g_st g2191 e2192 rfl rfl (show (0 : Int) ≤ (u5 5 7) ∧ (u5 5 7) ≤ 2147483647 by omega)
  have : (0 : Int) ≤ (u6 5 8) ∧ (u6 5 8) ≤ 2147483647 := g2193.1 5 8
  have : (u6 5 8) = (u5 5 8) := (congrFun (congrFun e2192 5) 8).trans (st_c (by decide))
  have : (0 : Int) ≤ (u5 5 8) ∧ (u5 5 8) ≤ 2147483647 := g2191.1 5 8
  have : (u5 5 8) = (u4 5 8) := (congrFun (congrFun e2190 5) 8).trans (st_c (by decide))
  have : (0 : Int) ≤ (u4 5 8) ∧ (u4 5 8) ≤ 2147483647 := g2189.1 5 8
  have : (u4 5 8) = (u3 5 8) := (congrFun (congrFun e2188 5) 8).trans (st_c (by decide))
  have : (0 : Int) ≤ (u3 5 8) ∧ (u3 5 8) ≤ 2147483647 := g2187.1 5 8
  have : (u3 5 8) = (u2 5 8) := (congrFun (congrFun e2186 5) 8).trans (st_c (by decide))
  have : (0 : Int) ≤ (u2 5 8) ∧ (u2 5 8) ≤ 2147483647 := g2185.1 5 8
  have : (u2 5 8) = (u1 5 8) := (congrFun (congrFun e2184 5) 8).trans (st_c (by decide))
  have : (0 : Int) ≤ (u1 5 8) ∧ (u1 5 8) ≤ 2147483647 := g2183.1 5 8
  have : (u1 5 8) = (w 5 8) := (congrFun (congrFun e2182 5) 8).trans (st_c (by decide))
  have : (0 : Int) ≤ (w 5 8) ∧ (w 5 8) ≤ 2147483647 := hG.1 5 8
  refine ok_lw (fun u7 e2194 => ?_)
  have g2195 : G md_K_take_40_5_15 w u7 := g_st g2193 e2194 rfl rfl (show (0 : Int) ≤ (u6 5 8) ∧ (u6 5 8) ≤ 2147483647 by omega)
  have : (0 : Int) ≤ (u7 15 3) ∧ (u7 15 3) ≤ 60 := g2195.1 15 3
  have : (u7 15 3) = (u6 15 3) := (congrFun (congrFun e2194 15) 3).trans (st_c (by decide))
  have : (0 : Int) ≤ (u6 15 3) ∧ (u6 15 3) ≤ 60 := g2193.1 15 3
  have : (u6 15 3) = (u5 15 3) := (congrFun (congrFun e2192 15) 3).trans (st_c (by decide))
  have : (0 : Int) ≤ (u5 15 3) ∧ (u5 15 3) ≤ 60 := g2191.1 15 3
  have : (u5 15 3) = (u4 15 3) := (congrFun (congrFun e2190 15) 3).trans (st_c (by decide))
  have : (0 : Int) ≤ (u4 15 3) ∧ (u4 15 3) ≤ 60 := g2189.1 15 3
  have : (u4 15 3) = (u3 15 3) := (congrFun (congrFun e2188 15) 3).trans (st_c (by decide))
  have : (0 : Int) ≤ (u3 15 3) ∧ (u3 15 3) ≤ 60 := g2187.1 15 3
  have : (u3 15 3) = (u2 15 3) := (congrFun (congrFun e2186 15) 3).trans (st_c (by decide))
  have : (0 : Int) ≤ (u2 15 3) ∧ (u2 15 3) ≤ 60 := g2185.1 15 3
  have : (u2 15 3) = (u1 15 3) := (congrFun (congrFun e2184 15) 3).trans (st_c (by decide))
  have : (0 : Int) ≤ (u1 15 3) ∧ (u1 15 3) ≤ 60 := g2183.1 15 3
  have : (u1 15 3) = (w 15 3) := (congrFun (congrFun e2182 15) 3).trans (st_c (by decide))
  have : (0 : Int) ≤ (w 15 3) ∧ (w 15 3) ≤ 60 := hG.1 15 3
  refine ok_lw (fun u8 e2196 => ?_)
  have g2197 : G md_K_take_40_5_15 w u8 := g_st g2195 e2196 rfl rfl (show (0 : Int) ≤ (u7 15 3) ∧ (u7 15 3) ≤ 60 by omega)
  refine ok_gd (by omega) ?_
  refine ok_lw (fun u9 e2198 => ?_)
  have g2199 : G md_K_take_40_5_15 w u9 := g_cpy g2197 e2198 rfl rfl (fun _ _ => show (-1 : Int) ≤ -1 ∧ (9 : Int) ≤ 9 by decide)
  refine ok_gd (by omega) ?_
  refine ok_lw (fun u10 e2200 => ?_)
  have g2201 : G md_K_take_40_5_15 w u10 := g_cpy g2199 e2200 rfl rfl (fun _ _ => show (0 : Int) ≤ 0 ∧ (1023 : Int) ≤ 1023 by decide)
  exact ok_some ⟨by omega, g2201⟩
theorem s_E_keep {w : Wd} {v1 : Int} (hG : G md_E_keep w w) (i_v1 : ((-2147483648 : Int) ≤ v1 ∧ v1 ≤ 2147483647)) : OK (f_E_keep v1 w) (fun r u => ((0 : Int) ≤ r ∧ r ≤ 1) ∧ G md_E_keep w u) := by
  unfold f_E_keep
  refine ok_ite (fun h2202 => ?_) (fun h2203 => ?_)
  · exact ok_some ⟨by omega, hG⟩
  · refine ok_ite (fun h2204 => ?_) (fun h2205 => ?_)
    · refine ok_ite (fun h2206 => ?_) (fun h2207 => ?_)
      · refine ok_call (s_K_take (g_self hG)) (fun r1 u2 q => ?_)
        obtain ⟨i2208, g2209⟩ := q
        have g2210 : G md_E_keep w u2 := g_tr hG g2209 rfl
        exact ok_some ⟨by omega, g2210⟩
      · refine ok_it (by omega) ?_
        refine ok_call (s_K_take_40_5_15 (g_self hG)) (fun r3 u4 q => ?_)
        obtain ⟨i2211, g2212⟩ := q
        have g2213 : G md_E_keep w u4 := g_tr hG g2212 rfl
        exact ok_some ⟨by omega, g2213⟩
    · exact ok_some ⟨by omega, hG⟩
theorem s_K_fits {w : Wd} (hG : G md_K_fits w w) : OK (f_K_fits w) (fun r u => ((0 : Int) ≤ r ∧ r ≤ 1) ∧ G md_K_fits w u) := by
  unfold f_K_fits
  have : (0 : Int) ≤ (w 37 2) ∧ (w 37 2) ≤ 1 := hG.1 37 2
  refine ok_ite (fun h2214 => ?_) (fun h2215 => ?_)
  · exact ok_some ⟨by omega, hG⟩
  · have : (0 : Int) ≤ (w 37 3) ∧ (w 37 3) ≤ 10 := hG.1 37 3
    have : (0 : Int) ≤ (w 5 3) ∧ (w 5 3) ≤ 10 := hG.1 5 3
    refine ok_ite (fun h2216 => ?_) (fun h2217 => ?_)
    · exact ok_some ⟨by omega, hG⟩
    · exact ok_some ⟨by omega, hG⟩
theorem s_K_giveBack {w : Wd} (hG : G md_K_giveBack w w) : OK (f_K_giveBack w) (fun r u => ((0 : Int) ≤ r ∧ r ≤ 0) ∧ G md_K_giveBack w u) := by
  unfold f_K_giveBack
  have : (-2147483648 : Int) ≤ (w 37 4) ∧ (w 37 4) ≤ 2147483647 := hG.1 37 4
  refine ok_lw (fun u1 e2218 => ?_)
  have g2219 : G md_K_giveBack w u1 := g_st hG e2218 rfl rfl (show (-2147483648 : Int) ≤ (w 37 4) ∧ (w 37 4) ≤ 2147483647 by omega)
  have : (-2147483648 : Int) ≤ (u1 37 5) ∧ (u1 37 5) ≤ 2147483647 := g2219.1 37 5
  have : (u1 37 5) = (w 37 5) := (congrFun (congrFun e2218 37) 5).trans (st_c (by decide))
  have : (-2147483648 : Int) ≤ (w 37 5) ∧ (w 37 5) ≤ 2147483647 := hG.1 37 5
  refine ok_lw (fun u2 e2220 => ?_)
  have g2221 : G md_K_giveBack w u2 := g_st g2219 e2220 rfl rfl (show (-2147483648 : Int) ≤ (u1 37 5) ∧ (u1 37 5) ≤ 2147483647 by omega)
  have : (-2147483648 : Int) ≤ (u2 37 6) ∧ (u2 37 6) ≤ 2147483647 := g2221.1 37 6
  have : (u2 37 6) = (u1 37 6) := (congrFun (congrFun e2220 37) 6).trans (st_c (by decide))
  have : (-2147483648 : Int) ≤ (u1 37 6) ∧ (u1 37 6) ≤ 2147483647 := g2219.1 37 6
  have : (u1 37 6) = (w 37 6) := (congrFun (congrFun e2218 37) 6).trans (st_c (by decide))
  have : (-2147483648 : Int) ≤ (w 37 6) ∧ (w 37 6) ≤ 2147483647 := hG.1 37 6
  refine ok_lw (fun u3 e2222 => ?_)
  have g2223 : G md_K_giveBack w u3 := g_st g2221 e2222 rfl rfl (show (-2147483648 : Int) ≤ (u2 37 6) ∧ (u2 37 6) ≤ 2147483647 by omega)
  have : (0 : Int) ≤ (u3 37 7) ∧ (u3 37 7) ≤ 2147483647 := g2223.1 37 7
  have : (u3 37 7) = (u2 37 7) := (congrFun (congrFun e2222 37) 7).trans (st_c (by decide))
  have : (0 : Int) ≤ (u2 37 7) ∧ (u2 37 7) ≤ 2147483647 := g2221.1 37 7
  have : (u2 37 7) = (u1 37 7) := (congrFun (congrFun e2220 37) 7).trans (st_c (by decide))
  have : (0 : Int) ≤ (u1 37 7) ∧ (u1 37 7) ≤ 2147483647 := g2219.1 37 7
  have : (u1 37 7) = (w 37 7) := (congrFun (congrFun e2218 37) 7).trans (st_c (by decide))
  have : (0 : Int) ≤ (w 37 7) ∧ (w 37 7) ≤ 2147483647 := hG.1 37 7
  refine ok_lw (fun u4 e2224 => ?_)
  have g2225 : G md_K_giveBack w u4 := g_st g2223 e2224 rfl rfl (show (0 : Int) ≤ (u3 37 7) ∧ (u3 37 7) ≤ 2147483647 by omega)
  have : (0 : Int) ≤ (u4 37 8) ∧ (u4 37 8) ≤ 2147483647 := g2225.1 37 8
  have : (u4 37 8) = (u3 37 8) := (congrFun (congrFun e2224 37) 8).trans (st_c (by decide))
  have : (0 : Int) ≤ (u3 37 8) ∧ (u3 37 8) ≤ 2147483647 := g2223.1 37 8
  have : (u3 37 8) = (u2 37 8) := (congrFun (congrFun e2222 37) 8).trans (st_c (by decide))
  have : (0 : Int) ≤ (u2 37 8) ∧ (u2 37 8) ≤ 2147483647 := g2221.1 37 8
  have : (u2 37 8) = (u1 37 8) := (congrFun (congrFun e2220 37) 8).trans (st_c (by decide))
  have : (0 : Int) ≤ (u1 37 8) ∧ (u1 37 8) ≤ 2147483647 := g2219.1 37 8
  have : (u1 37 8) = (w 37 8) := (congrFun (congrFun e2218 37) 8).trans (st_c (by decide))
  have : (0 : Int) ≤ (w 37 8) ∧ (w 37 8) ≤ 2147483647 := hG.1 37 8
  refine ok_lw (fun u5 e2226 => ?_)
  have g2227 : G md_K_giveBack w u5 := g_st g2225 e2226 rfl rfl (show (0 : Int) ≤ (u4 37 8) ∧ (u4 37 8) ≤ 2147483647 by omega)
  have : (0 : Int) ≤ (u5 37 9) ∧ (u5 37 9) ≤ 60 := g2227.1 37 9
  have : (u5 37 9) = (u4 37 9) := (congrFun (congrFun e2226 37) 9).trans (st_c (by decide))
  have : (0 : Int) ≤ (u4 37 9) ∧ (u4 37 9) ≤ 60 := g2225.1 37 9
  have : (u4 37 9) = (u3 37 9) := (congrFun (congrFun e2224 37) 9).trans (st_c (by decide))
  have : (0 : Int) ≤ (u3 37 9) ∧ (u3 37 9) ≤ 60 := g2223.1 37 9
  have : (u3 37 9) = (u2 37 9) := (congrFun (congrFun e2222 37) 9).trans (st_c (by decide))
  have : (0 : Int) ≤ (u2 37 9) ∧ (u2 37 9) ≤ 60 := g2221.1 37 9
  have : (u2 37 9) = (u1 37 9) := (congrFun (congrFun e2220 37) 9).trans (st_c (by decide))
  have : (0 : Int) ≤ (u1 37 9) ∧ (u1 37 9) ≤ 60 := g2219.1 37 9
  have : (u1 37 9) = (w 37 9) := (congrFun (congrFun e2218 37) 9).trans (st_c (by decide))
  have : (0 : Int) ≤ (w 37 9) ∧ (w 37 9) ≤ 60 := hG.1 37 9
  refine ok_lw (fun u6 e2228 => ?_)
  have g2229 : G md_K_giveBack w u6 := g_st g2227 e2228 rfl rfl (show (0 : Int) ≤ (u5 37 9) ∧ (u5 37 9) ≤ 60 by omega)
  refine ok_lw (fun u7 e2230 => ?_)
  have g2231 : G md_K_giveBack w u7 := g_st g2229 e2230 rfl rfl (show (-2147483648 : Int) ≤ (0 : Int) ∧ (0 : Int) ≤ 2147483647 by omega)
  refine ok_gd (by omega) ?_
  refine ok_lw (fun u8 e2232 => ?_)
  have g2233 : G md_K_giveBack w u8 := g_cpy g2231 e2232 rfl rfl (fun _ _ => show (-1 : Int) ≤ -1 ∧ (9 : Int) ≤ 9 by decide)
  refine ok_gd (by omega) ?_
  refine ok_lw (fun u9 e2234 => ?_)
  have g2235 : G md_K_giveBack w u9 := g_cpy g2233 e2234 rfl rfl (fun _ _ => show (0 : Int) ≤ 0 ∧ (1023 : Int) ≤ 1023 by decide)
  exact ok_some ⟨by omega, g2235⟩
theorem s_K_giveBack_40_5_15 {w : Wd} (hG : G md_K_giveBack_40_5_15 w w) : OK (f_K_giveBack_40_5_15 w) (fun r u => ((0 : Int) ≤ r ∧ r ≤ 0) ∧ G md_K_giveBack_40_5_15 w u) := by
  unfold f_K_giveBack_40_5_15
  have : (-2147483648 : Int) ≤ (w 40 4) ∧ (w 40 4) ≤ 2147483647 := hG.1 40 4
  refine ok_lw (fun u1 e2236 => ?_)
  have g2237 : G md_K_giveBack_40_5_15 w u1 := g_st hG e2236 rfl rfl (show (-2147483648 : Int) ≤ (w 40 4) ∧ (w 40 4) ≤ 2147483647 by omega)
  have : (-2147483648 : Int) ≤ (u1 40 5) ∧ (u1 40 5) ≤ 2147483647 := g2237.1 40 5
  have : (u1 40 5) = (w 40 5) := (congrFun (congrFun e2236 40) 5).trans (st_c (by decide))
  have : (-2147483648 : Int) ≤ (w 40 5) ∧ (w 40 5) ≤ 2147483647 := hG.1 40 5
  refine ok_lw (fun u2 e2238 => ?_)
  have g2239 : G md_K_giveBack_40_5_15 w u2 := g_st g2237 e2238 rfl rfl (show (-2147483648 : Int) ≤ (u1 40 5) ∧ (u1 40 5) ≤ 2147483647 by omega)
  have : (-2147483648 : Int) ≤ (u2 40 6) ∧ (u2 40 6) ≤ 2147483647 := g2239.1 40 6
  have : (u2 40 6) = (u1 40 6) := (congrFun (congrFun e2238 40) 6).trans (st_c (by decide))
  have : (-2147483648 : Int) ≤ (u1 40 6) ∧ (u1 40 6) ≤ 2147483647 := g2237.1 40 6
  have : (u1 40 6) = (w 40 6) := (congrFun (congrFun e2236 40) 6).trans (st_c (by decide))
  have : (-2147483648 : Int) ≤ (w 40 6) ∧ (w 40 6) ≤ 2147483647 := hG.1 40 6
  refine ok_lw (fun u3 e2240 => ?_)
  have g2241 : G md_K_giveBack_40_5_15 w u3 := g_st g2239 e2240 rfl rfl (show (-2147483648 : Int) ≤ (u2 40 6) ∧ (u2 40 6) ≤ 2147483647 by omega)
  have : (0 : Int) ≤ (u3 40 7) ∧ (u3 40 7) ≤ 2147483647 := g2241.1 40 7
  have : (u3 40 7) = (u2 40 7) := (congrFun (congrFun e2240 40) 7).trans (st_c (by decide))
  have : (0 : Int) ≤ (u2 40 7) ∧ (u2 40 7) ≤ 2147483647 := g2239.1 40 7
  have : (u2 40 7) = (u1 40 7) := (congrFun (congrFun e2238 40) 7).trans (st_c (by decide))
  have : (0 : Int) ≤ (u1 40 7) ∧ (u1 40 7) ≤ 2147483647 := g2237.1 40 7
  have : (u1 40 7) = (w 40 7) := (congrFun (congrFun e2236 40) 7).trans (st_c (by decide))
  have : (0 : Int) ≤ (w 40 7) ∧ (w 40 7) ≤ 2147483647 := hG.1 40 7
  refine ok_lw (fun u4 e2242 => ?_)
  have g2243 : G md_K_giveBack_40_5_15 w u4 := g_st g2241 e2242 rfl rfl (show (0 : Int) ≤ (u3 40 7) ∧ (u3 40 7) ≤ 2147483647 by omega)
  have : (0 : Int) ≤ (u4 40 8) ∧ (u4 40 8) ≤ 2147483647 := g2243.1 40 8
  have : (u4 40 8) = (u3 40 8) := (congrFun (congrFun e2242 40) 8).trans (st_c (by decide))
  have : (0 : Int) ≤ (u3 40 8) ∧ (u3 40 8) ≤ 2147483647 := g2241.1 40 8
  have : (u3 40 8) = (u2 40 8) := (congrFun (congrFun e2240 40) 8).trans (st_c (by decide))
  have : (0 : Int) ≤ (u2 40 8) ∧ (u2 40 8) ≤ 2147483647 := g2239.1 40 8
  have : (u2 40 8) = (u1 40 8) := (congrFun (congrFun e2238 40) 8).trans (st_c (by decide))
  have : (0 : Int) ≤ (u1 40 8) ∧ (u1 40 8) ≤ 2147483647 := g2237.1 40 8
  have : (u1 40 8) = (w 40 8) := (congrFun (congrFun e2236 40) 8).trans (st_c (by decide))
  have : (0 : Int) ≤ (w 40 8) ∧ (w 40 8) ≤ 2147483647 := hG.1 40 8
  refine ok_lw (fun u5 e2244 => ?_)
  have g2245 : G md_K_giveBack_40_5_15 w u5 := g_st g2243 e2244 rfl rfl (show (0 : Int) ≤ (u4 40 8) ∧ (u4 40 8) ≤ 2147483647 by omega)
  have : (0 : Int) ≤ (u5 40 9) ∧ (u5 40 9) ≤ 60 := g2245.1 40 9
  have : (u5 40 9) = (u4 40 9) := (congrFun (congrFun e2244 40) 9).trans (st_c (by decide))
  have : (0 : Int) ≤ (u4 40 9) ∧ (u4 40 9) ≤ 60 := g2243.1 40 9
  have : (u4 40 9) = (u3 40 9) := (congrFun (congrFun e2242 40) 9).trans (st_c (by decide))
  have : (0 : Int) ≤ (u3 40 9) ∧ (u3 40 9) ≤ 60 := g2241.1 40 9
  have : (u3 40 9) = (u2 40 9) := (congrFun (congrFun e2240 40) 9).trans (st_c (by decide))
  have : (0 : Int) ≤ (u2 40 9) ∧ (u2 40 9) ≤ 60 := g2239.1 40 9
  have : (u2 40 9) = (u1 40 9) := (congrFun (congrFun e2238 40) 9).trans (st_c (by decide))
  have : (0 : Int) ≤ (u1 40 9) ∧ (u1 40 9) ≤ 60 := g2237.1 40 9
  have : (u1 40 9) = (w 40 9) := (congrFun (congrFun e2236 40) 9).trans (st_c (by decide))
  have : (0 : Int) ≤ (w 40 9) ∧ (w 40 9) ≤ 60 := hG.1 40 9
  refine ok_lw (fun u6 e2246 => ?_)
  have g2247 : G md_K_giveBack_40_5_15 w u6 := g_st g2245 e2246 rfl rfl (show (0 : Int) ≤ (u5 40 9) ∧ (u5 40 9) ≤ 60 by omega)
  refine ok_lw (fun u7 e2248 => ?_)
  have g2249 : G md_K_giveBack_40_5_15 w u7 := g_st g2247 e2248 rfl rfl (show (-2147483648 : Int) ≤ (0 : Int) ∧ (0 : Int) ≤ 2147483647 by omega)
  refine ok_gd (by omega) ?_
  refine ok_lw (fun u8 e2250 => ?_)
  have g2251 : G md_K_giveBack_40_5_15 w u8 := g_cpy g2249 e2250 rfl rfl (fun _ _ => show (-1 : Int) ≤ -1 ∧ (9 : Int) ≤ 9 by decide)
  refine ok_gd (by omega) ?_
  refine ok_lw (fun u9 e2252 => ?_)
  have g2253 : G md_K_giveBack_40_5_15 w u9 := g_cpy g2251 e2252 rfl rfl (fun _ _ => show (0 : Int) ≤ 0 ∧ (1023 : Int) ≤ 1023 by decide)
  exact ok_some ⟨by omega, g2253⟩
theorem s_K_fits_40_5 {w : Wd} (hG : G md_K_fits_40_5 w w) : OK (f_K_fits_40_5 w) (fun r u => ((0 : Int) ≤ r ∧ r ≤ 1) ∧ G md_K_fits_40_5 w u) := by
  unfold f_K_fits_40_5
  have : (0 : Int) ≤ (w 40 2) ∧ (w 40 2) ≤ 1 := hG.1 40 2
  refine ok_ite (fun h2254 => ?_) (fun h2255 => ?_)
  · exact ok_some ⟨by omega, hG⟩
  · have : (0 : Int) ≤ (w 40 3) ∧ (w 40 3) ≤ 10 := hG.1 40 3
    have : (0 : Int) ≤ (w 5 3) ∧ (w 5 3) ≤ 10 := hG.1 5 3
    refine ok_ite (fun h2256 => ?_) (fun h2257 => ?_)
    · exact ok_some ⟨by omega, hG⟩
    · exact ok_some ⟨by omega, hG⟩
theorem s_E_again {w : Wd} {v1 : Int} (hG : G md_E_again w w) (i_v1 : ((-2147483648 : Int) ≤ v1 ∧ v1 ≤ 2147483647)) : OK (f_E_again v1 w) (fun r u => ((0 : Int) ≤ r ∧ r ≤ 1) ∧ G md_E_again w u) := by
  unfold f_E_again
  refine ok_ite (fun h2258 => ?_) (fun h2259 => ?_)
  · exact ok_some ⟨by omega, hG⟩
  · refine ok_ite (fun h2260 => ?_) (fun h2261 => ?_)
    · exact ok_some ⟨by omega, hG⟩
    · refine ok_ite (fun h2262 => ?_) (fun h2263 => ?_)
      · refine ok_call (s_K_fits (g_self hG)) (fun r1 u2 q => ?_)
        obtain ⟨i2264, g2265⟩ := q
        have g2266 : G md_E_again w u2 := g_tr hG g2265 rfl
        refine ok_ite (fun h2267 => ?_) (fun h2268 => ?_)
        · exact ok_some ⟨by omega, g2266⟩
        · refine ok_it (by omega) ?_
          refine ok_call (s_K_giveBack (g_self g2266)) (fun r3 u4 q => ?_)
          obtain ⟨i2269, g2270⟩ := q
          have g2271 : G md_E_again w u4 := g_tr g2266 g2270 rfl
          refine ok_call (s_S_forget (g_self g2271)) (fun r5 u6 q => ?_)
          obtain ⟨i2272, g2273⟩ := q
          have g2274 : G md_E_again w u6 := g_tr g2271 g2273 rfl
          exact ok_some ⟨by omega, g2274⟩
      · refine ok_it (by omega) ?_
        refine ok_call (s_K_fits_40_5 (g_self hG)) (fun r11 u12 q => ?_)
        obtain ⟨i2275, g2276⟩ := q
        have g2277 : G md_E_again w u12 := g_tr hG g2276 rfl
        refine ok_ite (fun h2278 => ?_) (fun h2279 => ?_)
        · exact ok_some ⟨by omega, g2277⟩
        · refine ok_if (by omega) ?_
          refine ok_it (by omega) ?_
          refine ok_call (s_K_giveBack_40_5_15 (g_self g2277)) (fun r17 u18 q => ?_)
          obtain ⟨i2280, g2281⟩ := q
          have g2282 : G md_E_again w u18 := g_tr g2277 g2281 rfl
          refine ok_call (s_S_forget (g_self g2282)) (fun r19 u20 q => ?_)
          obtain ⟨i2283, g2284⟩ := q
          have g2285 : G md_E_again w u20 := g_tr g2282 g2284 rfl
          exact ok_some ⟨by omega, g2285⟩
theorem s_E_count {w : Wd} {v1 : Int} (hG : G md_E_count w w) (i_v1 : ((-2147483648 : Int) ≤ v1 ∧ v1 ≤ 2147483647)) : OK (f_E_count v1 w) (fun r u => ((-2147483648 : Int) ≤ r ∧ r ≤ 2147483647) ∧ G md_E_count w u) := by
  unfold f_E_count
  refine ok_ite (fun h2286 => ?_) (fun h2287 => ?_)
  · exact ok_some ⟨by omega, hG⟩
  · refine ok_ite (fun h2288 => ?_) (fun h2289 => ?_)
    · have : (0 : Int) ≤ (w 5 3) ∧ (w 5 3) ≤ 10 := hG.1 5 3
      exact ok_some ⟨by omega, hG⟩
    · refine ok_ite (fun h2290 => ?_) (fun h2291 => ?_)
      · have : (0 : Int) ≤ (w 15 3) ∧ (w 15 3) ≤ 60 := hG.1 15 3
        exact ok_some ⟨by omega, hG⟩
      · refine ok_ite (fun h2292 => ?_) (fun h2293 => ?_)
        · refine ok_call (s_F_guests (g_self hG)) (fun r1 u2 q => ?_)
          obtain ⟨i2294, g2295⟩ := q
          have g2296 : G md_E_count w u2 := g_tr hG g2295 rfl
          exact ok_some ⟨by omega, g2296⟩
        · refine ok_ite (fun h2297 => ?_) (fun h2298 => ?_)
          · refine ok_call (s_F_strangers (g_self hG)) (fun r3 u4 q => ?_)
            obtain ⟨i2299, g2300⟩ := q
            have g2301 : G md_E_count w u4 := g_tr hG g2300 rfl
            exact ok_some ⟨by omega, g2301⟩
          · refine ok_ite (fun h2302 => ?_) (fun h2303 => ?_)
            · have : (-2147483648 : Int) ≤ (w 5 4) ∧ (w 5 4) ≤ 2147483647 := hG.1 5 4
              refine ok_call (s_O_out (g_self hG) (by omega)) (fun r5 u6 q => ?_)
              obtain ⟨i2304, g2305⟩ := q
              have g2306 : G md_E_count w u6 := g_tr hG g2305 rfl
              exact ok_some ⟨by omega, g2306⟩
            · refine ok_ite (fun h2307 => ?_) (fun h2308 => ?_)
              · have : (-2147483648 : Int) ≤ (w 5 6) ∧ (w 5 6) ≤ 2147483647 := hG.1 5 6
                exact ok_some ⟨by omega, hG⟩
              · refine ok_ite (fun h2309 => ?_) (fun h2310 => ?_)
                · have : (-2147483648 : Int) ≤ (w 15 4) ∧ (w 15 4) ≤ 2147483647 := hG.1 15 4
                  exact ok_some ⟨by omega, hG⟩
                · refine ok_ite (fun h2311 => ?_) (fun h2312 => ?_)
                  · have : (0 : Int) ≤ (w 3 1) ∧ (w 3 1) ≤ 20 := hG.1 3 1
                    exact ok_some ⟨by omega, hG⟩
                  · refine ok_ite (fun h2313 => ?_) (fun h2314 => ?_)
                    · have : (0 : Int) ≤ (w 1 1) ∧ (w 1 1) ≤ 80 := hG.1 1 1
                      exact ok_some ⟨by omega, hG⟩
                    · refine ok_it (by omega) ?_
                      have : (-2147483648 : Int) ≤ (w 5 5) ∧ (w 5 5) ≤ 2147483647 := hG.1 5 5
                      exact ok_some ⟨by omega, hG⟩
theorem s_N_number {w : Wd} {v1 : Int} (hG : G md_N_number w w) (i_v1 : ((0 : Int) ≤ v1 ∧ v1 ≤ 19)) : OK (f_N_number v1 w) (fun r u => ((-2147483648 : Int) ≤ r ∧ r ≤ 2147483647) ∧ G md_N_number w u) := by
  unfold f_N_number
  refine ok_if (by omega) ?_
  have : (0 : Int) ≤ (w 3 1) ∧ (w 3 1) ≤ 20 := hG.1 3 1
  refine ok_ite (fun h2315 => ?_) (fun h2316 => ?_)
  · exact ok_some ⟨by omega, hG⟩
  · refine ok_gd (by omega) ?_
    have : (-2147483648 : Int) ≤ (w 4 (v1).toNat) ∧ (w 4 (v1).toNat) ≤ 2147483647 := hG.1 4 (v1).toNat
    exact ok_some ⟨by omega, hG⟩
theorem s_E_of {w : Wd} {v1 v2 : Int} (hG : G md_E_of w w) (i_v1 : ((-2147483648 : Int) ≤ v1 ∧ v1 ≤ 2147483647)) (i_v2 : ((-2147483648 : Int) ≤ v2 ∧ v2 ≤ 2147483647)) : OK (f_E_of v1 v2 w) (fun r u => ((-2147483648 : Int) ≤ r ∧ r ≤ 4294967296) ∧ G md_E_of w u) := by
  unfold f_E_of
  refine ok_jite (fun h4521 => ?_) (fun h4522 => ?_)
  · refine ok_jsome ?_
    refine ok_it (by decide) ?_
    have := eTHR
    exact ok_some ⟨by omega, hG⟩
  · have : (0 : Int) ≤ (w 5 3) ∧ (w 5 3) ≤ 10 := hG.1 5 3
    refine ok_jite (fun h4523 => ?_) (fun h4524 => ?_)
    · refine ok_jsome ?_
      refine ok_it (by decide) ?_
      have := eTHR
      exact ok_some ⟨by omega, hG⟩
    · refine ok_jsome ?_
      refine ok_if (by decide) ?_
      refine ok_ite (fun h4525 => ?_) (fun h4526 => ?_)
      · have := eTHR
        exact ok_some ⟨by omega, hG⟩
      · refine ok_ite (fun h4527 => ?_) (fun h4528 => ?_)
        · refine ok_gd (by omega) ?_
          have : (0 : Int) ≤ (w 6 (v1).toNat) ∧ (w 6 (v1).toNat) ≤ 9 := hG.1 6 (v1).toNat
          exact ok_some ⟨by omega, hG⟩
        · refine ok_ite (fun h4529 => ?_) (fun h4530 => ?_)
          · refine ok_gd (by omega) ?_
            have : (-2147483648 : Int) ≤ (w 7 (v1).toNat) ∧ (w 7 (v1).toNat) ≤ 2147483647 := hG.1 7 (v1).toNat
            exact ok_some ⟨by omega, hG⟩
          · refine ok_ite (fun h4531 => ?_) (fun h4532 => ?_)
            · refine ok_jif (by omega) ?_
              refine ok_jif (by omega) ?_
              have : (-2147483648 : Int) ≤ (w 5 5) ∧ (w 5 5) ≤ 2147483647 := hG.1 5 5
              have := ishr_rg (w 5 5) v1
              have := iand_r (x := (ishr (w 5 5) v1)) (y := (1 : Int)) (by omega)
              refine ok_jite (fun h4534 => ?_) (fun h4535 => ?_)
              · refine ok_jsome ?_
                refine ok_it (by decide) ?_
                exact ok_some ⟨by omega, hG⟩
              · refine ok_jsome ?_
                refine ok_if (by decide) ?_
                exact ok_some ⟨by omega, hG⟩
            · refine ok_ite (fun h4536 => ?_) (fun h4537 => ?_)
              · refine ok_call (s_F_strangers (g_self hG)) (fun r5 u6 q => ?_)
                obtain ⟨i4538, g4539⟩ := q
                have g4540 : G md_E_of w u6 := g_tr hG g4539 rfl
                refine ok_jif (by omega) ?_
                refine ok_jif (by omega) ?_
                have := ishr_nn (x := r5) (y := v1) (by omega)
                have := iand_l (x := (ishr r5 v1)) (y := (1 : Int)) (by omega)
                have := iand_r (x := (ishr r5 v1)) (y := (1 : Int)) (by omega)
                refine ok_jite (fun h4542 => ?_) (fun h4543 => ?_)
                · refine ok_jsome ?_
                  refine ok_it (by decide) ?_
                  refine ok_call (s_F_guests (g_self g4540)) (fun r9 u10 q => ?_)
                  obtain ⟨i4544, g4545⟩ := q
                  have g4546 : G md_E_of w u10 := g_tr g4540 g4545 rfl
                  refine ok_jif (by omega) ?_
                  refine ok_jif (by omega) ?_
                  have := ishr_nn (x := r9) (y := v1) (by omega)
                  have := iand_l (x := (ishr r9 v1)) (y := (1 : Int)) (by omega)
                  have := iand_r (x := (ishr r9 v1)) (y := (1 : Int)) (by omega)
                  refine ok_jite (fun h4548 => ?_) (fun h4549 => ?_)
                  · refine ok_jsome ?_
                    refine ok_it (by decide) ?_
                    exact ok_some ⟨by omega, g4546⟩
                  · refine ok_jsome ?_
                    refine ok_if (by decide) ?_
                    exact ok_some ⟨by omega, g4546⟩
                · refine ok_jsome ?_
                  refine ok_if (by decide) ?_
                  exact ok_some ⟨by omega, g4540⟩
              · refine ok_ite (fun h4550 => ?_) (fun h4551 => ?_)
                · have : (-2147483648 : Int) ≤ (w 5 4) ∧ (w 5 4) ≤ 2147483647 := hG.1 5 4
                  refine ok_call (s_O_late (g_self hG) (by omega) (by omega)) (fun r13 u14 q => ?_)
                  obtain ⟨i4552, g4553⟩ := q
                  have g4554 : G md_E_of w u14 := g_tr hG g4553 rfl
                  exact ok_some ⟨by omega, g4554⟩
                · refine ok_ite (fun h4555 => ?_) (fun h4556 => ?_)
                  · refine ok_gd (by omega) ?_
                    have : (-1 : Int) ≤ (w 8 (v1).toNat) ∧ (w 8 (v1).toNat) ≤ 9 := hG.1 8 (v1).toNat
                    exact ok_some ⟨by omega, hG⟩
                  · refine ok_it (by omega) ?_
                    refine ok_call (s_D_firstWeekOf (g_self hG) (by omega)) (fun r15 u16 q => ?_)
                    obtain ⟨i4557, g4558⟩ := q
                    have g4559 : G md_E_of w u16 := g_tr hG g4558 rfl
                    exact ok_some ⟨by omega, g4559⟩
theorem s_E_row {w : Wd} {v1 : Int} (hG : G md_E_row w w) (i_v1 : ((-2147483648 : Int) ≤ v1 ∧ v1 ≤ 2147483647)) : OK (f_E_row v1 w) (fun r u => ((-2147483648 : Int) ≤ r ∧ r ≤ 4294967296) ∧ G md_E_row w u) := by
  unfold f_E_row
  refine ok_ite (fun h4560 => ?_) (fun h4561 => ?_)
  · have := eTHR
    exact ok_some ⟨by omega, hG⟩
  · have : (0 : Int) ≤ (w 3 1) ∧ (w 3 1) ≤ 20 := hG.1 3 1
    refine ok_ite (fun h4562 => ?_) (fun h4563 => ?_)
    · refine ok_call (s_N_number (g_self hG) (by omega)) (fun r1 u2 q => ?_)
      obtain ⟨i4564, g4565⟩ := q
      have g4566 : G md_E_row w u2 := g_tr hG g4565 rfl
      exact ok_some ⟨by omega, g4566⟩
    · have := eTHR
      exact ok_some ⟨by omega, hG⟩
end
