theorem s_R_last_44 {b : Wd} : ∀ (n : Nat) {w : Wd} {v1 v2 : Int}, ((2147483648 : Int) - v2) < (n : Int) → G md_R_last b w → ((0 : Int) ≤ v1 ∧ v1 ≤ 2147483647) → ((0 : Int) ≤ v2 ∧ v2 ≤ 2147483647) → OK (f_R_last_44 n v1 v2 w) (fun r u => ((-3 : Int) ≤ r ∧ r ≤ 2147483647) ∧ G md_R_last b u) := by
  intro n
  induction n with
  | zero =>
    intro w v1 v2 hm hG i_v1 i_v2
    exfalso
    omega
  | succ n ih =>
    intro w v1 v2 hm hG i_v1 i_v2
    rw [f_R_last_44]
    refine ok_ite (fun h3885 => ?_) (fun h3886 => ?_)
    · exact s_R_last_65 FU (by have := eqFU; omega) hG (by omega) (by omega) (by omega)
    · refine ok_call (s_R_goOneWeek (g_self hG)) (fun r22 u23 q => ?_)
      obtain ⟨i3887, g3888⟩ := q
      have g3889 : G md_R_last b u23 := g_tr hG g3888 rfl
      have := w32_sp ((v2 + (1 : Int)))
      refine ok_let (fun x24 e3890 => ?_)
      have : (1 : Int) ≤ x24 ∧ x24 ≤ 2147483647 := by omega
      exact ih (by omega) g3889 (by omega) (by omega)
theorem s_R_last {w : Wd} (hG : G md_R_last w w) : OK (f_R_last w) (fun r u => ((-3 : Int) ≤ r ∧ r ≤ 2147483647) ∧ G md_R_last w u) := by
  unfold f_R_last
  refine ok_lw (fun u1 e3891 => ?_)
  have g3892 : G md_R_last w u1 := g_st hG e3891 rfl rfl (show (0 : Int) ≤ (0 : Int) ∧ (0 : Int) ≤ 1 by omega)
  refine ok_call (s_R_findStates (g_self g3892) (by omega)) (fun r2 u3 q => ?_)
  obtain ⟨i3893, g3894⟩ := q
  have g3895 : G md_R_last w u3 := g_tr g3892 g3894 rfl
  refine ok_ite (fun h3896 => ?_) (fun h3897 => ?_)
  · exact ok_some ⟨by omega, g3895⟩
  · refine ok_call (s_R_all (g_self g3895)) (fun r4 u5 q => ?_)
    obtain ⟨i3898, g3899⟩ := q
    have g3900 : G md_R_last w u5 := g_tr g3895 g3899 rfl
    refine ok_call (s_R_findLife (g_self g3900) (by omega)) (fun r6 u7 q => ?_)
    obtain ⟨i3901, g3902⟩ := q
    have g3903 : G md_R_last w u7 := g_tr g3900 g3902 rfl
    refine ok_gd (by omega) ?_
    have : (-1 : Int) ≤ (u7 71 ((0 : Int)).toNat) ∧ (u7 71 ((0 : Int)).toNat) ≤ 2147483647 := g3903.1 71 ((0 : Int)).toNat
    refine ok_let (fun x8 e3904 => ?_)
    have : (-1 : Int) ≤ x8 ∧ x8 ≤ 2147483647 := by omega
    refine ok_ite (fun h3905 => ?_) (fun h3906 => ?_)
    · refine ok_call (s_R_beginWeeks (g_self g3903)) (fun r9 u10 q => ?_)
      obtain ⟨i3907, g3908⟩ := q
      have g3909 : G md_R_last w u10 := g_tr g3903 g3908 rfl
      exact s_R_last_44 FU (by have := eqFU; omega) g3909 (by omega) (by omega)
    · exact ok_some ⟨by omega, g3903⟩
theorem s_R_tellPairs_206 {b : Wd} {rec : Int → Int → Int → Wd → Option (Int × Wd)} {Brec : Int} {k62 : Int → Int → Int → Wd → Option (Int × Wd)} {Bk62 : Int} (hrec : ∀ {w1 : Wd} {v1 v2 v3 : Int}, ((11 : Int) - v1) < Brec → G md_R_tellPairs w1 w1 → ((0 : Int) ≤ v1 ∧ v1 ≤ 10) → ((0 : Int) ≤ v2 ∧ v2 ≤ 1023) → ((0 : Int) ≤ v3 ∧ v3 ≤ 1023) → ((w1 43 52) ≤ v1) → OK (rec v1 v2 v3 w1) (fun r u => ((0 : Int) ≤ r ∧ r ≤ 1) ∧ G md_R_tellPairs w1 u ∧ (((r = (0 : Int)) ∧ ((u 43 52) = (w1 43 52))) ∨ (r = (1 : Int))))) (hk62 : ∀ {w1 : Wd} {v2 v3 v5 : Int}, ((11 : Int) - v5) < Bk62 → G md_R_tellPairs b w1 → ((0 : Int) ≤ v2 ∧ v2 ≤ 1023) → ((0 : Int) ≤ v3 ∧ v3 ≤ 1023) → ((0 : Int) ≤ v5 ∧ v5 ≤ 10) → ((w1 43 52) ≤ v5) → ((w1 43 52) = (b 43 52)) → ((11 : Int) - v5) ≤ Brec → OK (k62 v2 v3 v5 w1) (fun r u => ((0 : Int) ≤ r ∧ r ≤ 1) ∧ G md_R_tellPairs b u ∧ (((r = (0 : Int)) ∧ ((u 43 52) = (b 43 52))) ∨ (r = (1 : Int))))) {w : Wd} {v2 v3 v5 : Int} (hG : G md_R_tellPairs b w) (i_v2 : ((0 : Int) ≤ v2 ∧ v2 ≤ 1023)) (i_v3 : ((0 : Int) ≤ v3 ∧ v3 ≤ 1023)) (i_v5 : ((0 : Int) ≤ v5 ∧ v5 ≤ 9)) (a_0 : ((w 43 52) ≤ v5)) (a_1 : ((w 43 52) = (b 43 52))) (hBrec : ((11 : Int) - v5) ≤ Brec) (hBk62 : ((11 : Int) - v5) ≤ Bk62) : OK (f_R_tellPairs_206 rec k62 v2 v3 v5 w) (fun r u => ((0 : Int) ≤ r ∧ r ≤ 1) ∧ G md_R_tellPairs b u ∧ (((r = (0 : Int)) ∧ ((u 43 52) = (b 43 52))) ∨ (r = (1 : Int)))) := by
  unfold f_R_tellPairs_206
  have : (0 : Int) ≤ (w 43 52) ∧ (w 43 52) ≤ 10 := hG.1 43 52
  have := w32_sp ((v5 + (1 : Int)))
  refine ok_let (fun x5 e3910 => ?_)
  have : (1 : Int) ≤ x5 ∧ x5 ≤ 10 := by omega
  exact hk62 (by omega) hG (by omega) (by omega) (by omega) (by omega) (by omega) (by omega)
theorem s_R_tellPairs_200 {b : Wd} {rec : Int → Int → Int → Wd → Option (Int × Wd)} {Brec : Int} {k62 : Int → Int → Int → Wd → Option (Int × Wd)} {Bk62 : Int} {k90 : Int → Int → Int → Int → Wd → Option (Int × Wd)} {Bk90 : Int} (hrec : ∀ {w1 : Wd} {v1 v2 v3 : Int}, ((11 : Int) - v1) < Brec → G md_R_tellPairs w1 w1 → ((0 : Int) ≤ v1 ∧ v1 ≤ 10) → ((0 : Int) ≤ v2 ∧ v2 ≤ 1023) → ((0 : Int) ≤ v3 ∧ v3 ≤ 1023) → ((w1 43 52) ≤ v1) → OK (rec v1 v2 v3 w1) (fun r u => ((0 : Int) ≤ r ∧ r ≤ 1) ∧ G md_R_tellPairs w1 u ∧ (((r = (0 : Int)) ∧ ((u 43 52) = (w1 43 52))) ∨ (r = (1 : Int))))) (hk62 : ∀ {w1 : Wd} {v2 v3 v5 : Int}, ((11 : Int) - v5) < Bk62 → G md_R_tellPairs b w1 → ((0 : Int) ≤ v2 ∧ v2 ≤ 1023) → ((0 : Int) ≤ v3 ∧ v3 ≤ 1023) → ((0 : Int) ≤ v5 ∧ v5 ≤ 10) → ((w1 43 52) ≤ v5) → ((w1 43 52) = (b 43 52)) → ((11 : Int) - v5) ≤ Brec → OK (k62 v2 v3 v5 w1) (fun r u => ((0 : Int) ≤ r ∧ r ≤ 1) ∧ G md_R_tellPairs b u ∧ (((r = (0 : Int)) ∧ ((u 43 52) = (b 43 52))) ∨ (r = (1 : Int))))) (hk90 : ∀ {w1 : Wd} {v2 v3 v5 v6 : Int}, ((11 : Int) - v6) < Bk90 → G md_R_tellPairs b w1 → ((0 : Int) ≤ v2 ∧ v2 ≤ 1023) → ((0 : Int) ≤ v3 ∧ v3 ≤ 1023) → ((0 : Int) ≤ v5 ∧ v5 ≤ 9) → ((0 : Int) ≤ v6 ∧ v6 ≤ 10) → ((w1 43 52) ≤ v5) → ((w1 43 52) = (b 43 52)) → ((11 : Int) - v5) ≤ Brec → ((11 : Int) - v5) ≤ Bk62 → OK (k90 v2 v3 v5 v6 w1) (fun r u => ((0 : Int) ≤ r ∧ r ≤ 1) ∧ G md_R_tellPairs b u ∧ (((r = (0 : Int)) ∧ ((u 43 52) = (b 43 52))) ∨ (r = (1 : Int))))) {w : Wd} {v2 v3 v5 v6 : Int} (hG : G md_R_tellPairs b w) (i_v2 : ((0 : Int) ≤ v2 ∧ v2 ≤ 1023)) (i_v3 : ((0 : Int) ≤ v3 ∧ v3 ≤ 1023)) (i_v5 : ((0 : Int) ≤ v5 ∧ v5 ≤ 9)) (i_v6 : ((0 : Int) ≤ v6 ∧ v6 ≤ 9)) (a_0 : ((w 43 52) ≤ v5)) (a_1 : ((w 43 52) = (b 43 52))) (hBrec : ((11 : Int) - v5) ≤ Brec) (hBk62 : ((11 : Int) - v5) ≤ Bk62) (hBk90 : ((11 : Int) - v6) ≤ Bk90) : OK (f_R_tellPairs_200 rec k62 k90 v2 v3 v5 v6 w) (fun r u => ((0 : Int) ≤ r ∧ r ≤ 1) ∧ G md_R_tellPairs b u ∧ (((r = (0 : Int)) ∧ ((u 43 52) = (b 43 52))) ∨ (r = (1 : Int)))) := by
  unfold f_R_tellPairs_200
  have : (0 : Int) ≤ (w 43 52) ∧ (w 43 52) ≤ 10 := hG.1 43 52
  have := w32_sp ((v6 + (1 : Int)))
  refine ok_let (fun x8 e3911 => ?_)
  have : (1 : Int) ≤ x8 ∧ x8 ≤ 10 := by omega
  exact hk90 (by omega) hG (by omega) (by omega) (by omega) (by omega) (by omega) (by omega) (by omega) (by omega)
theorem s_R_tellPairs_90 {b : Wd} {rec : Int → Int → Int → Wd → Option (Int × Wd)} {Brec : Int} {k62 : Int → Int → Int → Wd → Option (Int × Wd)} {Bk62 : Int} (hrec : ∀ {w1 : Wd} {v1 v2 v3 : Int}, ((11 : Int) - v1) < Brec → G md_R_tellPairs w1 w1 → ((0 : Int) ≤ v1 ∧ v1 ≤ 10) → ((0 : Int) ≤ v2 ∧ v2 ≤ 1023) → ((0 : Int) ≤ v3 ∧ v3 ≤ 1023) → ((w1 43 52) ≤ v1) → OK (rec v1 v2 v3 w1) (fun r u => ((0 : Int) ≤ r ∧ r ≤ 1) ∧ G md_R_tellPairs w1 u ∧ (((r = (0 : Int)) ∧ ((u 43 52) = (w1 43 52))) ∨ (r = (1 : Int))))) (hk62 : ∀ {w1 : Wd} {v2 v3 v5 : Int}, ((11 : Int) - v5) < Bk62 → G md_R_tellPairs b w1 → ((0 : Int) ≤ v2 ∧ v2 ≤ 1023) → ((0 : Int) ≤ v3 ∧ v3 ≤ 1023) → ((0 : Int) ≤ v5 ∧ v5 ≤ 10) → ((w1 43 52) ≤ v5) → ((w1 43 52) = (b 43 52)) → ((11 : Int) - v5) ≤ Brec → OK (k62 v2 v3 v5 w1) (fun r u => ((0 : Int) ≤ r ∧ r ≤ 1) ∧ G md_R_tellPairs b u ∧ (((r = (0 : Int)) ∧ ((u 43 52) = (b 43 52))) ∨ (r = (1 : Int))))) : ∀ (n : Nat) {w : Wd} {v2 v3 v5 v6 : Int}, ((11 : Int) - v6) < (n : Int) → G md_R_tellPairs b w → ((0 : Int) ≤ v2 ∧ v2 ≤ 1023) → ((0 : Int) ≤ v3 ∧ v3 ≤ 1023) → ((0 : Int) ≤ v5 ∧ v5 ≤ 9) → ((0 : Int) ≤ v6 ∧ v6 ≤ 10) → ((w 43 52) ≤ v5) → ((w 43 52) = (b 43 52)) → ((11 : Int) - v5) ≤ Brec → ((11 : Int) - v5) ≤ Bk62 → OK (f_R_tellPairs_90 rec k62 n v2 v3 v5 v6 w) (fun r u => ((0 : Int) ≤ r ∧ r ≤ 1) ∧ G md_R_tellPairs b u ∧ (((r = (0 : Int)) ∧ ((u 43 52) = (b 43 52))) ∨ (r = (1 : Int)))) := by
  intro n
  induction n with
  | zero =>
    intro w v2 v3 v5 v6 hm hG i_v2 i_v3 i_v5 i_v6 a_0 a_1 hBrec hBk62
    exfalso
    omega
  | succ n ih =>
    intro w v2 v3 v5 v6 hm hG i_v2 i_v3 i_v5 i_v6 a_0 a_1 hBrec hBk62
    rw [f_R_tellPairs_90]
    have : (0 : Int) ≤ (w 43 52) ∧ (w 43 52) ≤ 10 := hG.1 43 52
    have : (0 : Int) ≤ (w 43 0) ∧ (w 43 0) ≤ 10 := hG.1 43 0
    have : (w 43 0) = (b 43 0) := hG.2.1 43 0 rfl
    refine ok_ite (fun h3912 => ?_) (fun h3913 => ?_)
    · exact s_R_tellPairs_206 hrec hk62 hG (by omega) (by omega) (by omega) (by omega) (by omega) (by omega) (by omega)
    · refine ok_gd (by omega) ?_
      have : (0 : Int) ≤ (w 45 (v5).toNat) ∧ (w 45 (v5).toNat) ≤ 1023 := hG.1 45 (v5).toNat
      have := ixor_m1 (x := v3) (by omega)
      have := iand_l (x := (w 45 (v5).toNat)) (y := (ixor v3 (-1 : Int))) (by omega)
      have : (0 : Int) ≤ (w 43 44) ∧ (w 43 44) ≤ 1023 := hG.1 43 44
      have : (w 43 44) = (b 43 44) := hG.2.1 43 44 rfl
      have := ixor_m1 (x := (w 43 44)) (by omega)
      have := iand_l (x := (iand (w 45 (v5).toNat) (ixor v3 (-1 : Int)))) (y := (ixor (w 43 44) (-1 : Int))) (by omega)
      refine ok_call (s_R_has (g_self hG) (by omega) (by omega)) (fun r6 u7 q => ?_)
      obtain ⟨i3914, g3915⟩ := q
      have g3916 : G md_R_tellPairs b u7 := g_tr hG g3915 rfl
      refine ok_ite (fun h3917 => ?_) (fun h3918 => ?_)
      · have : (0 : Int) ≤ (u7 43 52) ∧ (u7 43 52) ≤ 10 := g3916.1 43 52
        have : (u7 43 52) = (w 43 52) := g3915.2.1 43 52 rfl
        exact s_R_tellPairs_200 hrec hk62 ih g3916 (by omega) (by omega) (by omega) (by omega) (by omega) (by omega) (by omega) (by omega) (by omega)
      · refine ok_gd (by omega) ?_
        have : (-4 : Int) ≤ (u7 68 (v6).toNat) ∧ (u7 68 (v6).toNat) ≤ 4 := g3916.1 68 (v6).toNat
        refine ok_ite (fun h3919 => ?_) (fun h3920 => ?_)
        · have : (0 : Int) ≤ (u7 43 52) ∧ (u7 43 52) ≤ 10 := g3916.1 43 52
          have : (u7 43 52) = (w 43 52) := g3915.2.1 43 52 rfl
          refine ok_gd (by omega) ?_
          have := w32_sp (((10 : Int) * v5))
          have := w32_sp (((w32 ((10 : Int) * v5)) + v6))
          refine ok_lw (fun u9 e3921 => ?_)
          have g3922 : G md_R_tellPairs b u9 := g_st g3916 e3921 rfl rfl (show (0 : Int) ≤ (w32 ((w32 ((10 : Int) * v5)) + v6)) ∧ (w32 ((w32 ((10 : Int) * v5)) + v6)) ≤ 100 by omega)
          have : (0 : Int) ≤ (u9 43 52) ∧ (u9 43 52) ≤ 10 := g3922.1 43 52
          have : (u9 43 52) = (u7 43 52) := (congrFun (congrFun e3921 43) 52).trans (st_c (by decide))
          have := w32_sp (((u9 43 52) + (1 : Int)))
          refine ok_lw (fun u10 e3923 => ?_)
          have g3924 : G md_R_tellPairs b u10 := g_st g3922 e3923 rfl rfl (show (0 : Int) ≤ (w32 ((u9 43 52) + (1 : Int))) ∧ (w32 ((u9 43 52) + (1 : Int))) ≤ 10 by omega)
          have := w32_sp ((v5 + (1 : Int)))
          have := ishl1_n 9 (i := v5) (j := 9) (m := 512) (by decide) (by decide) (by decide) (by omega)
          have := ior_n 10 (x := v2) (y := (ishl (1 : Int) v5)) (m := 1023) (by decide) (by decide) (by omega) (by omega)
          have := ishl1_n 9 (i := v6) (j := 9) (m := 512) (by decide) (by decide) (by decide) (by omega)
          have := ior_n 10 (x := v3) (y := (ishl (1 : Int) v6)) (m := 1023) (by decide) (by decide) (by omega) (by omega)
          have : (0 : Int) ≤ (u10 43 52) ∧ (u10 43 52) ≤ 10 := g3924.1 43 52
          have : (u10 43 52) = (w32 ((u9 43 52) + (1 : Int))) := (congrFun (congrFun e3923 43) 52).trans (st_eq _ _ _ _)
          refine ok_call (hrec (by omega) (g_self g3924) (by omega) (by omega) (by omega) (by omega)) (fun r11 u12 q => ?_)
          obtain ⟨i3925, g3926, p3928⟩ := q
          have g3927 : G md_R_tellPairs b u12 := g_tr g3924 g3926 rfl
          have : (0 : Int) ≤ (u12 43 52) ∧ (u12 43 52) ≤ 10 := g3927.1 43 52
          refine ok_ite (fun h3929 => ?_) (fun h3930 => ?_)
          · have := w32_sp (((u12 43 52) - (1 : Int)))
            refine ok_lw (fun u13 e3931 => ?_)
            have g3932 : G md_R_tellPairs b u13 := g_st g3927 e3931 rfl rfl (show (0 : Int) ≤ (w32 ((u12 43 52) - (1 : Int))) ∧ (w32 ((u12 43 52) - (1 : Int))) ≤ 10 by omega)
            have : (0 : Int) ≤ (u13 43 52) ∧ (u13 43 52) ≤ 10 := g3932.1 43 52
            have : (u13 43 52) = (w32 ((u12 43 52) - (1 : Int))) := (congrFun (congrFun e3931 43) 52).trans (st_eq _ _ _ _)
            exact s_R_tellPairs_200 hrec hk62 ih g3932 (by omega) (by omega) (by omega) (by omega) (by omega) (by omega) (by omega) (by omega) (by omega)
          · exact ok_some ⟨by omega, g3927, (by omega)⟩
        · have : (0 : Int) ≤ (u7 43 52) ∧ (u7 43 52) ≤ 10 := g3916.1 43 52
          have : (u7 43 52) = (w 43 52) := g3915.2.1 43 52 rfl
          exact s_R_tellPairs_200 hrec hk62 ih g3916 (by omega) (by omega) (by omega) (by omega) (by omega) (by omega) (by omega) (by omega) (by omega)
theorem s_R_tellPairs_62 {b : Wd} {rec : Int → Int → Int → Wd → Option (Int × Wd)} {Brec : Int} (hrec : ∀ {w1 : Wd} {v1 v2 v3 : Int}, ((11 : Int) - v1) < Brec → G md_R_tellPairs w1 w1 → ((0 : Int) ≤ v1 ∧ v1 ≤ 10) → ((0 : Int) ≤ v2 ∧ v2 ≤ 1023) → ((0 : Int) ≤ v3 ∧ v3 ≤ 1023) → ((w1 43 52) ≤ v1) → OK (rec v1 v2 v3 w1) (fun r u => ((0 : Int) ≤ r ∧ r ≤ 1) ∧ G md_R_tellPairs w1 u ∧ (((r = (0 : Int)) ∧ ((u 43 52) = (w1 43 52))) ∨ (r = (1 : Int))))) : ∀ (n : Nat) {w : Wd} {v2 v3 v5 : Int}, ((11 : Int) - v5) < (n : Int) → G md_R_tellPairs b w → ((0 : Int) ≤ v2 ∧ v2 ≤ 1023) → ((0 : Int) ≤ v3 ∧ v3 ≤ 1023) → ((0 : Int) ≤ v5 ∧ v5 ≤ 10) → ((w 43 52) ≤ v5) → ((w 43 52) = (b 43 52)) → ((11 : Int) - v5) ≤ Brec → OK (f_R_tellPairs_62 rec n v2 v3 v5 w) (fun r u => ((0 : Int) ≤ r ∧ r ≤ 1) ∧ G md_R_tellPairs b u ∧ (((r = (0 : Int)) ∧ ((u 43 52) = (b 43 52))) ∨ (r = (1 : Int)))) := by
  intro n
  induction n with
  | zero =>
    intro w v2 v3 v5 hm hG i_v2 i_v3 i_v5 a_0 a_1 hBrec
    exfalso
    omega
  | succ n ih =>
    intro w v2 v3 v5 hm hG i_v2 i_v3 i_v5 a_0 a_1 hBrec
    rw [f_R_tellPairs_62]
    have : (0 : Int) ≤ (w 43 52) ∧ (w 43 52) ≤ 10 := hG.1 43 52
    have : (0 : Int) ≤ (w 43 0) ∧ (w 43 0) ≤ 10 := hG.1 43 0
    have : (w 43 0) = (b 43 0) := hG.2.1 43 0 rfl
    refine ok_ite (fun h3933 => ?_) (fun h3934 => ?_)
    · exact ok_some ⟨by omega, hG, (by omega)⟩
    · refine ok_gd (by omega) ?_
      have : (-4 : Int) ≤ (w 68 (v5).toNat) ∧ (w 68 (v5).toNat) ≤ 4 := hG.1 68 (v5).toNat
      refine ok_jite (fun h3936 => ?_) (fun h3937 => ?_)
      · refine ok_jsome ?_
        refine ok_it (by decide) ?_
        exact s_R_tellPairs_206 hrec ih hG (by omega) (by omega) (by omega) (by omega) (by omega) (by omega) (by omega)
      · refine ok_jite (fun h3938 => ?_) (fun h3939 => ?_)
        · refine ok_jsome ?_
          refine ok_it (by decide) ?_
          exact s_R_tellPairs_206 hrec ih hG (by omega) (by omega) (by omega) (by omega) (by omega) (by omega) (by omega)
        · refine ok_jsome ?_
          refine ok_if (by decide) ?_
          exact s_R_tellPairs_90 hrec ih FU (by have := eqFU; omega) hG (by omega) (by omega) (by omega) (by omega) (by omega) (by omega) (by omega) (by omega)
theorem s_R_tellPairs_59 {b : Wd} {rec : Int → Int → Int → Wd → Option (Int × Wd)} {Brec : Int} (hrec : ∀ {w1 : Wd} {v1 v2 v3 : Int}, ((11 : Int) - v1) < Brec → G md_R_tellPairs w1 w1 → ((0 : Int) ≤ v1 ∧ v1 ≤ 10) → ((0 : Int) ≤ v2 ∧ v2 ≤ 1023) → ((0 : Int) ≤ v3 ∧ v3 ≤ 1023) → ((w1 43 52) ≤ v1) → OK (rec v1 v2 v3 w1) (fun r u => ((0 : Int) ≤ r ∧ r ≤ 1) ∧ G md_R_tellPairs w1 u ∧ (((r = (0 : Int)) ∧ ((u 43 52) = (w1 43 52))) ∨ (r = (1 : Int))))) {w : Wd} {v1 v2 v3 : Int} (hG : G md_R_tellPairs b w) (i_v1 : ((0 : Int) ≤ v1 ∧ v1 ≤ 10)) (i_v2 : ((0 : Int) ≤ v2 ∧ v2 ≤ 1023)) (i_v3 : ((0 : Int) ≤ v3 ∧ v3 ≤ 1023)) (a_0 : ((w 43 52) ≤ v1)) (a_1 : ((w 43 52) = (b 43 52))) (hBrec : ((11 : Int) - v1) ≤ Brec) : OK (f_R_tellPairs_59 rec v1 v2 v3 w) (fun r u => ((0 : Int) ≤ r ∧ r ≤ 1) ∧ G md_R_tellPairs b u ∧ (((r = (0 : Int)) ∧ ((u 43 52) = (b 43 52))) ∨ (r = (1 : Int)))) := by
  unfold f_R_tellPairs_59
  have : (0 : Int) ≤ (w 43 52) ∧ (w 43 52) ≤ 10 := hG.1 43 52
  exact s_R_tellPairs_62 hrec FU (by have := eqFU; omega) hG (by omega) (by omega) (by omega) (by omega) (by omega) (by omega)
theorem s_R_tellPairs_31 {b : Wd} {rec : Int → Int → Int → Wd → Option (Int × Wd)} {Brec : Int} (hrec : ∀ {w1 : Wd} {v1 v2 v3 : Int}, ((11 : Int) - v1) < Brec → G md_R_tellPairs w1 w1 → ((0 : Int) ≤ v1 ∧ v1 ≤ 10) → ((0 : Int) ≤ v2 ∧ v2 ≤ 1023) → ((0 : Int) ≤ v3 ∧ v3 ≤ 1023) → ((w1 43 52) ≤ v1) → OK (rec v1 v2 v3 w1) (fun r u => ((0 : Int) ≤ r ∧ r ≤ 1) ∧ G md_R_tellPairs w1 u ∧ (((r = (0 : Int)) ∧ ((u 43 52) = (w1 43 52))) ∨ (r = (1 : Int))))) : ∀ (n : Nat) {w : Wd} {v5 : Int}, ((11 : Int) - v5) < (n : Int) → G md_R_tellPairs b w → ((0 : Int) ≤ v5 ∧ v5 ≤ 10) → ((w 43 15) = v5) → (0 : Int) ≤ Brec → OK (f_R_tellPairs_31 rec n v5 w) (fun r u => ((0 : Int) ≤ r ∧ r ≤ 1) ∧ G md_R_tellPairs b u ∧ (((r = (0 : Int)) ∧ ((u 43 52) = (b 43 52))) ∨ (r = (1 : Int)))) := by
  intro n
  induction n with
  | zero =>
    intro w v5 hm hG i_v5 a_0 hBrec
    exfalso
    omega
  | succ n ih =>
    intro w v5 hm hG i_v5 a_0 hBrec
    rw [f_R_tellPairs_31]
    have : (0 : Int) ≤ (w 43 15) ∧ (w 43 15) ≤ 16 := hG.1 43 15
    have : (0 : Int) ≤ (w 43 52) ∧ (w 43 52) ≤ 10 := hG.1 43 52
    refine ok_ite (fun h3940 => ?_) (fun h3941 => ?_)
    · exact ok_some ⟨by omega, hG, (by omega)⟩
    · refine ok_gd (by omega) ?_
      refine ok_jgd (by omega) ?_
      have : (0 : Int) ≤ (w 75 (v5).toNat) ∧ (w 75 (v5).toNat) ≤ 100 := hG.1 75 (v5).toNat
      refine ok_jlw (fun u1_3942 e3943 => ?_)
      have g3944 : G md_R_tellPairs b u1_3942 := g_st hG e3943 rfl rfl (show (-2147483648 : Int) ≤ (w 75 (v5).toNat) ∧ (w 75 (v5).toNat) ≤ 2147483647 by omega)
      have : (0 : Int) ≤ (u1_3942 43 15) ∧ (u1_3942 43 15) ≤ 16 := g3944.1 43 15
      have : (u1_3942 43 15) = (w 43 15) := (congrFun (congrFun e3943 43) 15).trans (st_c (by decide))
      have := w32_sp (((u1_3942 43 15) + (1 : Int)))
      refine ok_jlw (fun u2_3942 e3945 => ?_)
      have g3946 : G md_R_tellPairs b u2_3942 := g_st g3944 e3945 rfl rfl (show (0 : Int) ≤ (w32 ((u1_3942 43 15) + (1 : Int))) ∧ (w32 ((u1_3942 43 15) + (1 : Int))) ≤ 16 by omega)
      refine ok_jsome ?_
      have := w32_sp ((v5 + (1 : Int)))
      refine ok_let (fun x17 e3947 => ?_)
      have : (1 : Int) ≤ x17 ∧ x17 ≤ 10 := by omega
      have : (0 : Int) ≤ (u2_3942 43 15) ∧ (u2_3942 43 15) ≤ 16 := g3946.1 43 15
      have : (u2_3942 43 15) = (w32 ((u1_3942 43 15) + (1 : Int))) := (congrFun (congrFun e3945 43) 15).trans (st_eq _ _ _ _)
      exact ih (by omega) g3946 (by omega) (by omega) (by omega)
theorem s_R_tellPairs_b {b : Wd} {rec : Int → Int → Int → Wd → Option (Int × Wd)} {Brec : Int} (hrec : ∀ {w1 : Wd} {v1 v2 v3 : Int}, ((11 : Int) - v1) < Brec → G md_R_tellPairs w1 w1 → ((0 : Int) ≤ v1 ∧ v1 ≤ 10) → ((0 : Int) ≤ v2 ∧ v2 ≤ 1023) → ((0 : Int) ≤ v3 ∧ v3 ≤ 1023) → ((w1 43 52) ≤ v1) → OK (rec v1 v2 v3 w1) (fun r u => ((0 : Int) ≤ r ∧ r ≤ 1) ∧ G md_R_tellPairs w1 u ∧ (((r = (0 : Int)) ∧ ((u 43 52) = (w1 43 52))) ∨ (r = (1 : Int))))) {w : Wd} {v1 v2 v3 : Int} (hG : G md_R_tellPairs b w) (i_v1 : ((0 : Int) ≤ v1 ∧ v1 ≤ 10)) (i_v2 : ((0 : Int) ≤ v2 ∧ v2 ≤ 1023)) (i_v3 : ((0 : Int) ≤ v3 ∧ v3 ≤ 1023)) (a_0 : ((w 43 52) ≤ v1)) (a_1 : ((w 43 52) = (b 43 52))) (hBrec : ((11 : Int) - v1) ≤ Brec) : OK (f_R_tellPairs_b rec v1 v2 v3 w) (fun r u => ((0 : Int) ≤ r ∧ r ≤ 1) ∧ G md_R_tellPairs b u ∧ (((r = (0 : Int)) ∧ ((u 43 52) = (b 43 52))) ∨ (r = (1 : Int)))) := by
  unfold f_R_tellPairs_b
  have : (0 : Int) ≤ (w 43 52) ∧ (w 43 52) ≤ 10 := hG.1 43 52
  refine ok_call (s_R_behind (g_self hG) (by omega) (by omega)) (fun r1 u2 q => ?_)
  obtain ⟨i3948, g3949⟩ := q
  have g3950 : G md_R_tellPairs b u2 := g_tr hG g3949 rfl
  refine ok_ite (fun h3951 => ?_) (fun h3952 => ?_)
  · have : (0 : Int) ≤ (u2 43 52) ∧ (u2 43 52) ≤ 10 := g3950.1 43 52
    have : (u2 43 52) = (w 43 52) := g3949.2.1 43 52 rfl
    exact s_R_tellPairs_59 hrec g3950 (by omega) (by omega) (by omega) (by omega) (by omega) (by omega)
  · refine ok_gd (by omega) ?_
    have : (0 : Int) ≤ (u2 74 (r1).toNat) ∧ (u2 74 (r1).toNat) ≤ 1 := g3950.1 74 (r1).toNat
    refine ok_ite (fun h3953 => ?_) (fun h3954 => ?_)
    · have : (0 : Int) ≤ (u2 43 52) ∧ (u2 43 52) ≤ 10 := g3950.1 43 52
      have : (u2 43 52) = (w 43 52) := g3949.2.1 43 52 rfl
      exact s_R_tellPairs_59 hrec g3950 (by omega) (by omega) (by omega) (by omega) (by omega) (by omega)
    · refine ok_lw (fun u14 e3955 => ?_)
      have g3956 : G md_R_tellPairs b u14 := g_st g3950 e3955 rfl rfl (show (0 : Int) ≤ (0 : Int) ∧ (0 : Int) ≤ 16 by omega)
      have : (0 : Int) ≤ (u14 43 15) ∧ (u14 43 15) ≤ 16 := g3956.1 43 15
      have : (u14 43 15) = (0 : Int) := (congrFun (congrFun e3955 43) 15).trans (st_eq _ _ _ _)
      exact s_R_tellPairs_31 hrec FU (by have := eqFU; omega) g3956 (by omega) (by omega) (by omega)
theorem s_R_tellPairs : ∀ (n : Nat) {w : Wd} {v1 v2 v3 : Int}, ((11 : Int) - v1) < (n : Int) → G md_R_tellPairs w w → ((0 : Int) ≤ v1 ∧ v1 ≤ 10) → ((0 : Int) ≤ v2 ∧ v2 ≤ 1023) → ((0 : Int) ≤ v3 ∧ v3 ≤ 1023) → ((w 43 52) ≤ v1) → OK (f_R_tellPairs n v1 v2 v3 w) (fun r u => ((0 : Int) ≤ r ∧ r ≤ 1) ∧ G md_R_tellPairs w u ∧ (((r = (0 : Int)) ∧ ((u 43 52) = (w 43 52))) ∨ (r = (1 : Int)))) := by
  intro n
  induction n with
  | zero =>
    intro w v1 v2 v3 hm hG i_v1 i_v2 i_v3 a_0
    exfalso
    omega
  | succ n ih =>
    intro w v1 v2 v3 hm hG i_v1 i_v2 i_v3 a_0
    rw [f_R_tellPairs]
    have : (0 : Int) ≤ (w 43 52) ∧ (w 43 52) ≤ 10 := hG.1 43 52
    exact s_R_tellPairs_b ih hG (by omega) (by omega) (by omega) (by omega) (by omega) (by omega)
theorem s_R_tellFirst {w : Wd} (hG : G md_R_tellFirst w w) : OK (f_R_tellFirst w) (fun r u => ((0 : Int) ≤ r ∧ r ≤ 10) ∧ G md_R_tellFirst w u) := by
  unfold f_R_tellFirst
  refine ok_call (s_R_load (g_self hG) (by omega)) (fun r1 u2 q => ?_)
  obtain ⟨i3957, g3958⟩ := q
  have g3959 : G md_R_tellFirst w u2 := g_tr hG g3958 rfl
  refine ok_lw (fun u3 e3960 => ?_)
  have g3961 : G md_R_tellFirst w u3 := g_st g3959 e3960 rfl rfl (show (0 : Int) ≤ (0 : Int) ∧ (0 : Int) ≤ 10 by omega)
  have : (0 : Int) ≤ (u3 43 52) ∧ (u3 43 52) ≤ 10 := g3961.1 43 52
  have : (u3 43 52) = (0 : Int) := (congrFun (congrFun e3960 43) 52).trans (st_eq _ _ _ _)
  refine ok_call (s_R_tellPairs 16 (by omega) (g_self g3961) (by omega) (by omega) (by omega) (by omega)) (fun r4 u5 q => ?_)
  obtain ⟨i3962, g3963, p3965⟩ := q
  have g3964 : G md_R_tellFirst w u5 := g_tr g3961 g3963 rfl
  have : (0 : Int) ≤ (u5 43 52) ∧ (u5 43 52) ≤ 10 := g3964.1 43 52
  exact ok_some ⟨by omega, g3964⟩
theorem s_R_findNext_30 {b : Wd} : ∀ (n : Nat) {w : Wd} {v1 : Int}, ((756001 : Int) - v1) < (n : Int) → G md_R_findNext b w → ((0 : Int) ≤ v1 ∧ v1 ≤ 756000) → OK (f_R_findNext_30 n v1 w) (fun r u => ((0 : Int) ≤ r ∧ r ≤ 0) ∧ G md_R_findNext b u) := by
  intro n
  induction n with
  | zero =>
    intro w v1 hm hG i_v1
    exfalso
    omega
  | succ n ih =>
    intro w v1 hm hG i_v1
    rw [f_R_findNext_30]
    refine ok_gd (by omega) ?_
    have : (0 : Int) ≤ (w 64 ((1 : Int)).toNat) ∧ (w 64 ((1 : Int)).toNat) ≤ 756000 := hG.1 64 ((1 : Int)).toNat
    have : (w 64 ((1 : Int)).toNat) = (b 64 ((1 : Int)).toNat) := hG.2.1 64 ((1 : Int)).toNat rfl
    refine ok_ite (fun h3966 => ?_) (fun h3967 => ?_)
    · exact ok_some ⟨by omega, hG⟩
    · refine ok_gd (by omega) ?_
      have : (0 : Int) ≤ (w 65 (v1).toNat) ∧ (w 65 (v1).toNat) ≤ 2999 := hG.1 65 (v1).toNat
      refine ok_gd (by omega) ?_
      have := nz_rg (1 : Int)
      refine ok_lw (fun u2 e3968 => ?_)
      have g3969 : G md_R_findNext b u2 := g_st hG e3968 rfl rfl (show (0 : Int) ≤ (nz (1 : Int)) ∧ (nz (1 : Int)) ≤ 1 by omega)
      have := w32_sp ((v1 + (1 : Int)))
      refine ok_let (fun x3 e3970 => ?_)
      have : (1 : Int) ≤ x3 ∧ x3 ≤ 756000 := by omega
      exact ih (by omega) g3969 (by omega)
theorem s_R_findNext_2 {b : Wd} : ∀ (n : Nat) {w : Wd} {v1 : Int}, ((3001 : Int) - v1) < (n : Int) → G md_R_findNext b w → ((0 : Int) ≤ v1 ∧ v1 ≤ 3000) → OK (f_R_findNext_2 n v1 w) (fun r u => ((0 : Int) ≤ r ∧ r ≤ 0) ∧ G md_R_findNext b u) := by
  intro n
  induction n with
  | zero =>
    intro w v1 hm hG i_v1
    exfalso
    omega
  | succ n ih =>
    intro w v1 hm hG i_v1
    rw [f_R_findNext_2]
    have : (0 : Int) ≤ (w 43 40) ∧ (w 43 40) ≤ 3000 := hG.1 43 40
    have : (w 43 40) = (b 43 40) := hG.2.1 43 40 rfl
    refine ok_ite (fun h3971 => ?_) (fun h3972 => ?_)
    · refine ok_gd (by omega) ?_
      have : (0 : Int) ≤ (w 64 ((0 : Int)).toNat) ∧ (w 64 ((0 : Int)).toNat) ≤ 756000 := hG.1 64 ((0 : Int)).toNat
      have : (w 64 ((0 : Int)).toNat) = (b 64 ((0 : Int)).toNat) := hG.2.1 64 ((0 : Int)).toNat rfl
      refine ok_let (fun x1 e3973 => ?_)
      have : (0 : Int) ≤ x1 ∧ x1 ≤ 756000 := by omega
      exact s_R_findNext_30 FU (by have := eqFU; omega) hG (by omega)
    · refine ok_gd (by omega) ?_
      have := nz_rg (0 : Int)
      refine ok_lw (fun u4 e3974 => ?_)
      have g3975 : G md_R_findNext b u4 := g_st hG e3974 rfl rfl (show (0 : Int) ≤ (nz (0 : Int)) ∧ (nz (0 : Int)) ≤ 1 by omega)
      have := w32_sp ((v1 + (1 : Int)))
      refine ok_let (fun x5 e3976 => ?_)
      have : (1 : Int) ≤ x5 ∧ x5 ≤ 3000 := by omega
      exact ih (by omega) g3975 (by omega)
theorem s_R_findNext {w : Wd} (hG : G md_R_findNext w w) : OK (f_R_findNext w) (fun r u => ((0 : Int) ≤ r ∧ r ≤ 0) ∧ G md_R_findNext w u) := by
  unfold f_R_findNext
  exact s_R_findNext_2 FU (by have := eqFU; omega) hG (by omega)
theorem s_R_isNext {w : Wd} {v1 : Int} (hG : G md_R_isNext w w) (i_v1 : ((0 : Int) ≤ v1 ∧ v1 ≤ 2999)) : OK (f_R_isNext v1 w) (fun r u => ((0 : Int) ≤ r ∧ r ≤ 1) ∧ G md_R_isNext w u) := by
  unfold f_R_isNext
  refine ok_gd (by omega) ?_
  have : (0 : Int) ≤ (w 76 (v1).toNat) ∧ (w 76 (v1).toNat) ≤ 1 := hG.1 76 (v1).toNat
  refine ok_let (fun x1 e3977 => ?_)
  have : (0 : Int) ≤ x1 ∧ x1 ≤ 1 := by omega
  refine ok_it (by omega) ?_
  exact ok_some ⟨by omega, hG⟩
theorem s_R_begin2_86 {b : Wd} {k43 : Int → Wd → Option (Int × Wd)} {Bk43 : Int} (hk43 : ∀ {w1 : Wd} {v1 : Int}, ((3001 : Int) - v1) < Bk43 → G md_R_begin2 b w1 → ((0 : Int) ≤ v1 ∧ v1 ≤ 3000) → OK (k43 v1 w1) (fun r u => ((-3 : Int) ≤ r ∧ r ≤ 10) ∧ G md_R_begin2 b u)) {w : Wd} {v1 s1 s2 : Int} (hG : G md_R_begin2 b w) (i_v1 : ((0 : Int) ≤ v1 ∧ v1 ≤ 2999)) (i_s1 : ((0 : Int) ≤ s1 ∧ s1 ≤ 2999)) (i_s2 : ((0 : Int) ≤ s2 ∧ s2 ≤ 1)) (hBk43 : ((3001 : Int) - v1) ≤ Bk43) : OK (f_R_begin2_86 k43 v1 s1 s2 w) (fun r u => ((-3 : Int) ≤ r ∧ r ≤ 10) ∧ G md_R_begin2 b u) := by
  unfold f_R_begin2_86
  refine ok_gd (by omega) ?_
  have := nz_rg s2
  refine ok_lw (fun u12 e3978 => ?_)
  have g3979 : G md_R_begin2 b u12 := g_st hG e3978 rfl rfl (show (0 : Int) ≤ (nz s2) ∧ (nz s2) ≤ 1 by omega)
  have := w32_sp ((v1 + (1 : Int)))
  refine ok_let (fun x13 e3980 => ?_)
  have : (1 : Int) ≤ x13 ∧ x13 ≤ 3000 := by omega
  exact hk43 (by omega) g3979 (by omega)
theorem s_R_begin2_85 {b : Wd} {k43 : Int → Wd → Option (Int × Wd)} {Bk43 : Int} (hk43 : ∀ {w1 : Wd} {v1 : Int}, ((3001 : Int) - v1) < Bk43 → G md_R_begin2 b w1 → ((0 : Int) ≤ v1 ∧ v1 ≤ 3000) → OK (k43 v1 w1) (fun r u => ((-3 : Int) ≤ r ∧ r ≤ 10) ∧ G md_R_begin2 b u)) {w : Wd} {v1 s1 : Int} (hG : G md_R_begin2 b w) (i_v1 : ((0 : Int) ≤ v1 ∧ v1 ≤ 2999)) (i_s1 : ((0 : Int) ≤ s1 ∧ s1 ≤ 2999)) (hBk43 : ((3001 : Int) - v1) ≤ Bk43) : OK (f_R_begin2_85 k43 v1 s1 w) (fun r u => ((-3 : Int) ≤ r ∧ r ≤ 10) ∧ G md_R_begin2 b u) := by
  unfold f_R_begin2_85
  exact s_R_begin2_86 hk43 hG (by omega) (by omega) (by omega) (by omega)
theorem s_R_begin2_43 {b : Wd} : ∀ (n : Nat) {w : Wd} {v1 : Int}, ((3001 : Int) - v1) < (n : Int) → G md_R_begin2 b w → ((0 : Int) ≤ v1 ∧ v1 ≤ 3000) → OK (f_R_begin2_43 n v1 w) (fun r u => ((-3 : Int) ≤ r ∧ r ≤ 10) ∧ G md_R_begin2 b u) := by
  intro n
  induction n with
  | zero =>
    intro w v1 hm hG i_v1
    exfalso
    omega
  | succ n ih =>
    intro w v1 hm hG i_v1
    rw [f_R_begin2_43]
    have : (0 : Int) ≤ (w 43 40) ∧ (w 43 40) ≤ 3000 := hG.1 43 40
    refine ok_ite (fun h3981 => ?_) (fun h3982 => ?_)
    · refine ok_call (s_R_tellFirst (g_self hG)) (fun r10 u11 q => ?_)
      obtain ⟨i3983, g3984⟩ := q
      have g3985 : G md_R_begin2 b u11 := g_tr hG g3984 rfl
      exact ok_some ⟨by omega, g3985⟩
    · refine ok_gd (by omega) ?_
      refine ok_gd (by omega) ?_
      have : (-1 : Int) ≤ (w 71 (v1).toNat) ∧ (w 71 (v1).toNat) ≤ 2147483647 := hG.1 71 (v1).toNat
      have : (-1 : Int) ≤ (w 71 ((0 : Int)).toNat) ∧ (w 71 ((0 : Int)).toNat) ≤ 2147483647 := hG.1 71 ((0 : Int)).toNat
      have := w32_sp (((w 71 ((0 : Int)).toNat) - (1 : Int)))
      refine ok_ite (fun h3986 => ?_) (fun h3987 => ?_)
      · refine ok_call (s_R_isNext (g_self hG) (by omega)) (fun r14 u15 q => ?_)
        obtain ⟨i3988, g3989⟩ := q
        have g3990 : G md_R_begin2 b u15 := g_tr hG g3989 rfl
        refine ok_ite (fun h3991 => ?_) (fun h3992 => ?_)
        · exact s_R_begin2_85 ih g3990 (by omega) (by omega) (by omega)
        · exact s_R_begin2_86 ih g3990 (by omega) (by omega) (by omega) (by omega)
      · exact s_R_begin2_85 ih hG (by omega) (by omega) (by omega)
theorem s_R_begin2 {w : Wd} (hG : G md_R_begin2 w w) : OK (f_R_begin2 w) (fun r u => ((-3 : Int) ≤ r ∧ r ≤ 10) ∧ G md_R_begin2 w u) := by
  unfold f_R_begin2
  refine ok_lw (fun u1 e3993 => ?_)
  have g3994 : G md_R_begin2 w u1 := g_st hG e3993 rfl rfl (show (0 : Int) ≤ (0 : Int) ∧ (0 : Int) ≤ 1 by omega)
  refine ok_call (s_R_findStates (g_self g3994) (by omega)) (fun r2 u3 q => ?_)
  obtain ⟨i3995, g3996⟩ := q
  have g3997 : G md_R_begin2 w u3 := g_tr g3994 g3996 rfl
  refine ok_ite (fun h3998 => ?_) (fun h3999 => ?_)
  · exact ok_some ⟨by omega, g3997⟩
  · refine ok_call (s_R_all (g_self g3997)) (fun r4 u5 q => ?_)
    obtain ⟨i4000, g4001⟩ := q
    have g4002 : G md_R_begin2 w u5 := g_tr g3997 g4001 rfl
    refine ok_call (s_R_findLife (g_self g4002) (by omega)) (fun r6 u7 q => ?_)
    obtain ⟨i4003, g4004⟩ := q
    have g4005 : G md_R_begin2 w u7 := g_tr g4002 g4004 rfl
    refine ok_gd (by omega) ?_
    have : (-1 : Int) ≤ (u7 71 ((0 : Int)).toNat) ∧ (u7 71 ((0 : Int)).toNat) ≤ 2147483647 := g4005.1 71 ((0 : Int)).toNat
    refine ok_ite (fun h4006 => ?_) (fun h4007 => ?_)
    · refine ok_call (s_R_findNext (g_self g4005)) (fun r8 u9 q => ?_)
      obtain ⟨i4008, g4009⟩ := q
      have g4010 : G md_R_begin2 w u9 := g_tr g4005 g4009 rfl
      exact s_R_begin2_43 FU (by have := eqFU; omega) g4010 (by omega)
    · exact ok_some ⟨by omega, g4005⟩
theorem s_R_cheap_279 {b : Wd} {k229 : Int → Int → Int → Wd → Option (Int × Wd)} {Bk229 : Int} (hk229 : ∀ {w1 : Wd} {v1 v2 v3 : Int}, ((3001 : Int) - v3) < Bk229 → G md_R_cheap b w1 → ((1 : Int) ≤ v1 ∧ v1 ≤ 44) → ((0 : Int) ≤ v2 ∧ v2 ≤ 999999) → ((0 : Int) ≤ v3 ∧ v3 ≤ 3000) → OK (k229 v1 v2 v3 w1) (fun r u => ((-3 : Int) ≤ r ∧ r ≤ 1000000) ∧ G md_R_cheap b u)) {w : Wd} {v1 v2 v3 s1 s2 : Int} (hG : G md_R_cheap b w) (i_v1 : ((1 : Int) ≤ v1 ∧ v1 ≤ 44)) (i_v2 : ((0 : Int) ≤ v2 ∧ v2 ≤ 999999)) (i_v3 : ((0 : Int) ≤ v3 ∧ v3 ≤ 2999)) (i_s1 : ((0 : Int) ≤ s1 ∧ s1 ≤ 2999)) (i_s2 : ((0 : Int) ≤ s2 ∧ s2 ≤ 1)) (hBk229 : ((3001 : Int) - v3) ≤ Bk229) : OK (f_R_cheap_279 k229 v1 v2 v3 s1 s2 w) (fun r u => ((-3 : Int) ≤ r ∧ r ≤ 1000000) ∧ G md_R_cheap b u) := by
  unfold f_R_cheap_279
  refine ok_gd (by omega) ?_
  have := nz_rg s2
  refine ok_lw (fun u16 e4011 => ?_)
  have g4012 : G md_R_cheap b u16 := g_st hG e4011 rfl rfl (show (0 : Int) ≤ (nz s2) ∧ (nz s2) ≤ 1 by omega)
  have := w32_sp ((v3 + (1 : Int)))
  refine ok_let (fun x17 e4013 => ?_)
  have : (1 : Int) ≤ x17 ∧ x17 ≤ 3000 := by omega
  exact hk229 (by omega) g4012 (by omega) (by omega) (by omega)
theorem s_R_cheap_278 {b : Wd} {k229 : Int → Int → Int → Wd → Option (Int × Wd)} {Bk229 : Int} (hk229 : ∀ {w1 : Wd} {v1 v2 v3 : Int}, ((3001 : Int) - v3) < Bk229 → G md_R_cheap b w1 → ((1 : Int) ≤ v1 ∧ v1 ≤ 44) → ((0 : Int) ≤ v2 ∧ v2 ≤ 999999) → ((0 : Int) ≤ v3 ∧ v3 ≤ 3000) → OK (k229 v1 v2 v3 w1) (fun r u => ((-3 : Int) ≤ r ∧ r ≤ 1000000) ∧ G md_R_cheap b u)) {w : Wd} {v1 v2 v3 s1 : Int} (hG : G md_R_cheap b w) (i_v1 : ((1 : Int) ≤ v1 ∧ v1 ≤ 44)) (i_v2 : ((0 : Int) ≤ v2 ∧ v2 ≤ 999999)) (i_v3 : ((0 : Int) ≤ v3 ∧ v3 ≤ 2999)) (i_s1 : ((0 : Int) ≤ s1 ∧ s1 ≤ 2999)) (hBk229 : ((3001 : Int) - v3) ≤ Bk229) : OK (f_R_cheap_278 k229 v1 v2 v3 s1 w) (fun r u => ((-3 : Int) ≤ r ∧ r ≤ 1000000) ∧ G md_R_cheap b u) := by
  unfold f_R_cheap_278
  exact s_R_cheap_279 hk229 hG (by omega) (by omega) (by omega) (by omega) (by omega) (by omega)
theorem s_R_cheap_229 {b : Wd} : ∀ (n : Nat) {w : Wd} {v1 v2 v3 : Int}, ((3001 : Int) - v3) < (n : Int) → G md_R_cheap b w → ((1 : Int) ≤ v1 ∧ v1 ≤ 44) → ((0 : Int) ≤ v2 ∧ v2 ≤ 999999) → ((0 : Int) ≤ v3 ∧ v3 ≤ 3000) → OK (f_R_cheap_229 n v1 v2 v3 w) (fun r u => ((-3 : Int) ≤ r ∧ r ≤ 1000000) ∧ G md_R_cheap b u) := by
  intro n
  induction n with
  | zero =>
    intro w v1 v2 v3 hm hG i_v1 i_v2 i_v3
    exfalso
    omega
  | succ n ih =>
    intro w v1 v2 v3 hm hG i_v1 i_v2 i_v3
    rw [f_R_cheap_229]
    have : (0 : Int) ≤ (w 43 40) ∧ (w 43 40) ≤ 3000 := hG.1 43 40
    refine ok_ite (fun h4014 => ?_) (fun h4015 => ?_)
    · refine ok_call (s_R_tellFirst (g_self hG)) (fun r12 u13 q => ?_)
      obtain ⟨i4016, g4017⟩ := q
      have g4018 : G md_R_cheap b u13 := g_tr hG g4017 rfl
      exact ok_some ⟨by omega, g4018⟩
    · refine ok_call (s_R_isNext (g_self hG) (by omega)) (fun r14 u15 q => ?_)
      obtain ⟨i4019, g4020⟩ := q
      have g4021 : G md_R_cheap b u15 := g_tr hG g4020 rfl
      refine ok_ite (fun h4022 => ?_) (fun h4023 => ?_)
      · exact s_R_cheap_278 ih g4021 (by omega) (by omega) (by omega) (by omega) (by omega)
      · have := w32_sp (((45 : Int) * v3))
        have := w32_sp (((w32 ((45 : Int) * v3)) + v1))
        have := w32_sp (((w32 ((w32 ((45 : Int) * v3)) + v1)) - (1 : Int)))
        refine ok_gd (by omega) ?_
        refine ok_call (s_R_costOf (g_self g4021) (by omega) (by omega)) (fun r18 u19 q => ?_)
        obtain ⟨i4024, g4025, p4027⟩ := q
        have g4026 : G md_R_cheap b u19 := g_tr g4021 g4025 rfl
        have : (0 : Int) ≤ (u15 77 ((w32 ((w32 ((w32 ((45 : Int) * v3)) + v1)) - (1 : Int)))).toNat) ∧ (u15 77 ((w32 ((w32 ((w32 ((45 : Int) * v3)) + v1)) - (1 : Int)))).toNat) ≤ 1000000 := g4021.1 77 ((w32 ((w32 ((w32 ((45 : Int) * v3)) + v1)) - (1 : Int)))).toNat
        have := w32_sp (((u15 77 ((w32 ((w32 ((w32 ((45 : Int) * v3)) + v1)) - (1 : Int)))).toNat) + r18))
        refine ok_ite (fun h4028 => ?_) (fun h4029 => ?_)
        · exact s_R_cheap_279 ih g4026 (by omega) (by omega) (by omega) (by omega) (by omega) (by omega)
        · exact s_R_cheap_278 ih g4026 (by omega) (by omega) (by omega) (by omega) (by omega)
theorem s_R_cheap_163 {b : Wd} {k40 : Int → Int → Wd → Option (Int × Wd)} {Bk40 : Int} {k58 : Int → Int → Int → Int → Wd → Option (Int × Wd)} {Bk58 : Int} (hk40 : ∀ {w1 : Wd} {v1 v2 : Int}, ((3001 : Int) - v2) < Bk40 → G md_R_cheap b w1 → ((0 : Int) ≤ v1 ∧ v1 ≤ 44) → ((0 : Int) ≤ v2 ∧ v2 ≤ 3000) → OK (k40 v1 v2 w1) (fun r u => ((-3 : Int) ≤ r ∧ r ≤ 1000000) ∧ G md_R_cheap b u)) (hk58 : ∀ {w1 : Wd} {v1 v2 v3 v4 : Int}, ((60 : Int) - v4) < Bk58 → G md_R_cheap b w1 → ((0 : Int) ≤ v1 ∧ v1 ≤ 44) → ((0 : Int) ≤ v2 ∧ v2 ≤ 2999) → ((0 : Int) ≤ v3 ∧ v3 ≤ 2999) → ((0 : Int) ≤ v4 ∧ v4 ≤ 59) → ((3001 : Int) - v2) ≤ Bk40 → OK (k58 v1 v2 v3 v4 w1) (fun r u => ((-3 : Int) ≤ r ∧ r ≤ 1000000) ∧ G md_R_cheap b u)) {w : Wd} {v1 v2 v3 v4 v5 : Int} (hG : G md_R_cheap b w) (i_v1 : ((0 : Int) ≤ v1 ∧ v1 ≤ 44)) (i_v2 : ((0 : Int) ≤ v2 ∧ v2 ≤ 2999)) (i_v3 : ((0 : Int) ≤ v3 ∧ v3 ≤ 2999)) (i_v4 : ((0 : Int) ≤ v4 ∧ v4 ≤ 45)) (i_v5 : ((0 : Int) ≤ v5 ∧ v5 ≤ 1000000)) (a_0 : (v4 ≤ v1)) (hBk40 : ((3001 : Int) - v2) ≤ Bk40) (hBk58 : ((60 : Int) - v4) ≤ Bk58) : OK (f_R_cheap_163 k40 k58 v1 v2 v3 v4 v5 w) (fun r u => ((-3 : Int) ≤ r ∧ r ≤ 1000000) ∧ G md_R_cheap b u) := by
  unfold f_R_cheap_163
  have := w32_sp (((45 : Int) * v3))
  have := w32_sp (((w32 ((45 : Int) * v3)) + v4))
  refine ok_gd (by omega) ?_
  have := imin_sp v5 (1000000 : Int)
  refine ok_lw (fun u24 e4030 => ?_)
  have g4031 : G md_R_cheap b u24 := g_st hG e4030 rfl rfl (show (0 : Int) ≤ (imin v5 (1000000 : Int)) ∧ (imin v5 (1000000 : Int)) ≤ 1000000 by omega)
  have := w32_sp ((v4 + (1 : Int)))
  refine ok_let (fun x25 e4032 => ?_)
  have : (1 : Int) ≤ x25 ∧ x25 ≤ 46 := by omega
  exact hk58 (by omega) g4031 (by omega) (by omega) (by omega) (by omega) (by omega)
theorem s_R_cheap_99 {b : Wd} {k40 : Int → Int → Wd → Option (Int × Wd)} {Bk40 : Int} {k58 : Int → Int → Int → Int → Wd → Option (Int × Wd)} {Bk58 : Int} (hk40 : ∀ {w1 : Wd} {v1 v2 : Int}, ((3001 : Int) - v2) < Bk40 → G md_R_cheap b w1 → ((0 : Int) ≤ v1 ∧ v1 ≤ 44) → ((0 : Int) ≤ v2 ∧ v2 ≤ 3000) → OK (k40 v1 v2 w1) (fun r u => ((-3 : Int) ≤ r ∧ r ≤ 1000000) ∧ G md_R_cheap b u)) (hk58 : ∀ {w1 : Wd} {v1 v2 v3 v4 : Int}, ((60 : Int) - v4) < Bk58 → G md_R_cheap b w1 → ((0 : Int) ≤ v1 ∧ v1 ≤ 44) → ((0 : Int) ≤ v2 ∧ v2 ≤ 2999) → ((0 : Int) ≤ v3 ∧ v3 ≤ 2999) → ((0 : Int) ≤ v4 ∧ v4 ≤ 59) → ((3001 : Int) - v2) ≤ Bk40 → OK (k58 v1 v2 v3 v4 w1) (fun r u => ((-3 : Int) ≤ r ∧ r ≤ 1000000) ∧ G md_R_cheap b u)) : ∀ (n : Nat) {w : Wd} {v1 v2 v3 v4 v5 v6 : Int}, ((756001 : Int) - v6) < (n : Int) → G md_R_cheap b w → ((0 : Int) ≤ v1 ∧ v1 ≤ 44) → ((0 : Int) ≤ v2 ∧ v2 ≤ 2999) → ((0 : Int) ≤ v3 ∧ v3 ≤ 2999) → ((0 : Int) ≤ v4 ∧ v4 ≤ 45) → ((0 : Int) ≤ v5 ∧ v5 ≤ 1000000) → ((0 : Int) ≤ v6 ∧ v6 ≤ 756000) → (v4 ≤ v1) → ((3001 : Int) - v2) ≤ Bk40 → ((60 : Int) - v4) ≤ Bk58 → OK (f_R_cheap_99 k40 k58 n v1 v2 v3 v4 v5 v6 w) (fun r u => ((-3 : Int) ≤ r ∧ r ≤ 1000000) ∧ G md_R_cheap b u) := by
  intro n
  induction n with
  | zero =>
    intro w v1 v2 v3 v4 v5 v6 hm hG i_v1 i_v2 i_v3 i_v4 i_v5 i_v6 a_0 hBk40 hBk58
    exfalso
    omega
  | succ n ih =>
    intro w v1 v2 v3 v4 v5 v6 hm hG i_v1 i_v2 i_v3 i_v4 i_v5 i_v6 a_0 hBk40 hBk58
    rw [f_R_cheap_99]
    have := w32_sp ((v3 + (1 : Int)))
    refine ok_gd (by omega) ?_
    have : (0 : Int) ≤ (w 64 ((w32 (v3 + (1 : Int)))).toNat) ∧ (w 64 ((w32 (v3 + (1 : Int)))).toNat) ≤ 756000 := hG.1 64 ((w32 (v3 + (1 : Int)))).toNat
    refine ok_ite (fun h4033 => ?_) (fun h4034 => ?_)
    · exact s_R_cheap_163 hk40 hk58 hG (by omega) (by omega) (by omega) (by omega) (by omega) (by omega) (by omega) (by omega)
    · refine ok_ite (fun h4035 => ?_) (fun h4036 => ?_)
      · exact s_R_cheap_163 hk40 hk58 hG (by omega) (by omega) (by omega) (by omega) (by omega) (by omega) (by omega) (by omega)
      · refine ok_gd (by omega) ?_
        have : (0 : Int) ≤ (w 65 (v6).toNat) ∧ (w 65 (v6).toNat) ≤ 2999 := hG.1 65 (v6).toNat
        have := w32_sp (((45 : Int) * (w 65 (v6).toNat)))
        have := w32_sp (((w32 ((45 : Int) * (w 65 (v6).toNat))) + v4))
        have := w32_sp (((w32 ((w32 ((45 : Int) * (w 65 (v6).toNat))) + v4)) - (1 : Int)))
        refine ok_gd (by omega) ?_
        refine ok_gd (by omega) ?_
        refine ok_call (s_R_costOf (g_self hG) (by omega) (by omega)) (fun r27 u28 q => ?_)
        obtain ⟨i4037, g4038, p4040⟩ := q
        have g4039 : G md_R_cheap b u28 := g_tr hG g4038 rfl
        have : (0 : Int) ≤ (w 77 ((w32 ((w32 ((w32 ((45 : Int) * (w 65 (v6).toNat))) + v4)) - (1 : Int)))).toNat) ∧ (w 77 ((w32 ((w32 ((w32 ((45 : Int) * (w 65 (v6).toNat))) + v4)) - (1 : Int)))).toNat) ≤ 1000000 := hG.1 77 ((w32 ((w32 ((w32 ((45 : Int) * (w 65 (v6).toNat))) + v4)) - (1 : Int)))).toNat
        have := w32_sp (((w 77 ((w32 ((w32 ((w32 ((45 : Int) * (w 65 (v6).toNat))) + v4)) - (1 : Int)))).toNat) + r27))
        have := imin_sp v5 (w32 ((w 77 ((w32 ((w32 ((w32 ((45 : Int) * (w 65 (v6).toNat))) + v4)) - (1 : Int)))).toNat) + r27))
        refine ok_let (fun x29 e4041 => ?_)
        have : (0 : Int) ≤ x29 ∧ x29 ≤ 1000000 := by omega
        have := w32_sp ((v6 + (1 : Int)))
        refine ok_let (fun x30 e4042 => ?_)
        have : (1 : Int) ≤ x30 ∧ x30 ≤ 756000 := by omega
        exact ih (by omega) g4039 (by omega) (by omega) (by omega) (by omega) (by omega) (by omega) (by omega) (by omega) (by omega)
theorem s_R_cheap_89 {b : Wd} {k40 : Int → Int → Wd → Option (Int × Wd)} {Bk40 : Int} {k58 : Int → Int → Int → Int → Wd → Option (Int × Wd)} {Bk58 : Int} (hk40 : ∀ {w1 : Wd} {v1 v2 : Int}, ((3001 : Int) - v2) < Bk40 → G md_R_cheap b w1 → ((0 : Int) ≤ v1 ∧ v1 ≤ 44) → ((0 : Int) ≤ v2 ∧ v2 ≤ 3000) → OK (k40 v1 v2 w1) (fun r u => ((-3 : Int) ≤ r ∧ r ≤ 1000000) ∧ G md_R_cheap b u)) (hk58 : ∀ {w1 : Wd} {v1 v2 v3 v4 : Int}, ((60 : Int) - v4) < Bk58 → G md_R_cheap b w1 → ((0 : Int) ≤ v1 ∧ v1 ≤ 44) → ((0 : Int) ≤ v2 ∧ v2 ≤ 2999) → ((0 : Int) ≤ v3 ∧ v3 ≤ 2999) → ((0 : Int) ≤ v4 ∧ v4 ≤ 59) → ((3001 : Int) - v2) ≤ Bk40 → OK (k58 v1 v2 v3 v4 w1) (fun r u => ((-3 : Int) ≤ r ∧ r ≤ 1000000) ∧ G md_R_cheap b u)) {w : Wd} {v1 v2 v3 v4 s0 : Int} (hG : G md_R_cheap b w) (i_v1 : ((0 : Int) ≤ v1 ∧ v1 ≤ 44)) (i_v2 : ((0 : Int) ≤ v2 ∧ v2 ≤ 2999)) (i_v3 : ((0 : Int) ≤ v3 ∧ v3 ≤ 2999)) (i_v4 : ((0 : Int) ≤ v4 ∧ v4 ≤ 45)) (i_s0 : ((0 : Int) ≤ s0 ∧ s0 ≤ 1000000)) (a_0 : (v4 ≤ v1)) (hBk40 : ((3001 : Int) - v2) ≤ Bk40) (hBk58 : ((60 : Int) - v4) ≤ Bk58) : OK (f_R_cheap_89 k40 k58 v1 v2 v3 v4 s0 w) (fun r u => ((-3 : Int) ≤ r ∧ r ≤ 1000000) ∧ G md_R_cheap b u) := by
  unfold f_R_cheap_89
  refine ok_gd (by omega) ?_
  have : (0 : Int) ≤ (w 64 (v3).toNat) ∧ (w 64 (v3).toNat) ≤ 756000 := hG.1 64 (v3).toNat
  refine ok_let (fun x26 e4043 => ?_)
  have : (0 : Int) ≤ x26 ∧ x26 ≤ 756000 := by omega
  exact s_R_cheap_99 hk40 hk58 FU (by have := eqFU; omega) hG (by omega) (by omega) (by omega) (by omega) (by omega) (by omega) (by omega) (by omega) (by omega)
theorem s_R_cheap_58 {b : Wd} {k40 : Int → Int → Wd → Option (Int × Wd)} {Bk40 : Int} (hk40 : ∀ {w1 : Wd} {v1 v2 : Int}, ((3001 : Int) - v2) < Bk40 → G md_R_cheap b w1 → ((0 : Int) ≤ v1 ∧ v1 ≤ 44) → ((0 : Int) ≤ v2 ∧ v2 ≤ 3000) → OK (k40 v1 v2 w1) (fun r u => ((-3 : Int) ≤ r ∧ r ≤ 1000000) ∧ G md_R_cheap b u)) : ∀ (n : Nat) {w : Wd} {v1 v2 v3 v4 : Int}, ((60 : Int) - v4) < (n : Int) → G md_R_cheap b w → ((0 : Int) ≤ v1 ∧ v1 ≤ 44) → ((0 : Int) ≤ v2 ∧ v2 ≤ 2999) → ((0 : Int) ≤ v3 ∧ v3 ≤ 2999) → ((0 : Int) ≤ v4 ∧ v4 ≤ 59) → ((3001 : Int) - v2) ≤ Bk40 → OK (f_R_cheap_58 k40 n v1 v2 v3 v4 w) (fun r u => ((-3 : Int) ≤ r ∧ r ≤ 1000000) ∧ G md_R_cheap b u) := by
  intro n
  induction n with
  | zero =>
    intro w v1 v2 v3 v4 hm hG i_v1 i_v2 i_v3 i_v4 hBk40
    exfalso
    omega
  | succ n ih =>
    intro w v1 v2 v3 v4 hm hG i_v1 i_v2 i_v3 i_v4 hBk40
    rw [f_R_cheap_58]
    refine ok_ite (fun h4044 => ?_) (fun h4045 => ?_)
    · have := w32_sp ((v2 + (1 : Int)))
      refine ok_let (fun x21 e4046 => ?_)
      have : (1 : Int) ≤ x21 ∧ x21 ≤ 3000 := by omega
      exact hk40 (by omega) hG (by omega) (by omega)
    · refine ok_call (s_R_guestsIn (g_self hG) (by omega)) (fun r22 u23 q => ?_)
      obtain ⟨i4047, g4048⟩ := q
      have g4049 : G md_R_cheap b u23 := g_tr hG g4048 rfl
      refine ok_ite (fun h4050 => ?_) (fun h4051 => ?_)
      · exact s_R_cheap_163 hk40 ih g4049 (by omega) (by omega) (by omega) (by omega) (by omega) (by omega) (by omega) (by omega)
      · refine ok_ite (fun h4052 => ?_) (fun h4053 => ?_)
        · exact s_R_cheap_89 hk40 ih g4049 (by omega) (by omega) (by omega) (by omega) (by omega) (by omega) (by omega) (by omega)
        · exact s_R_cheap_89 hk40 ih g4049 (by omega) (by omega) (by omega) (by omega) (by omega) (by omega) (by omega) (by omega)
theorem s_R_cheap_40 {b : Wd} : ∀ (n : Nat) {w : Wd} {v1 v2 : Int}, ((3001 : Int) - v2) < (n : Int) → G md_R_cheap b w → ((0 : Int) ≤ v1 ∧ v1 ≤ 44) → ((0 : Int) ≤ v2 ∧ v2 ≤ 3000) → OK (f_R_cheap_40 n v1 v2 w) (fun r u => ((-3 : Int) ≤ r ∧ r ≤ 1000000) ∧ G md_R_cheap b u) := by
  intro n
  induction n with
  | zero =>
    intro w v1 v2 hm hG i_v1 i_v2
    exfalso
    omega
  | succ n ih =>
    intro w v1 v2 hm hG i_v1 i_v2
    rw [f_R_cheap_40]
    have : (0 : Int) ≤ (w 43 40) ∧ (w 43 40) ≤ 3000 := hG.1 43 40
    refine ok_ite (fun h4054 => ?_) (fun h4055 => ?_)
    · refine ok_gd (by omega) ?_
      have : (0 : Int) ≤ (w 77 (v1).toNat) ∧ (w 77 (v1).toNat) ≤ 1000000 := hG.1 77 (v1).toNat
      refine ok_let (fun x8 e4056 => ?_)
      have : (0 : Int) ≤ x8 ∧ x8 ≤ 1000000 := by omega
      refine ok_ite (fun h4057 => ?_) (fun h4058 => ?_)
      · exact ok_some ⟨by omega, hG⟩
      · refine ok_lw (fun u9 e4059 => ?_)
        have g4060 : G md_R_cheap b u9 := g_st hG e4059 rfl rfl (show (0 : Int) ≤ (0 : Int) ∧ (0 : Int) ≤ 16 by omega)
        refine ok_ite (fun h4061 => ?_) (fun h4062 => ?_)
        · exact ok_some ⟨by omega, g4060⟩
        · refine ok_call (s_R_findNext (g_self g4060)) (fun r10 u11 q => ?_)
          obtain ⟨i4063, g4064⟩ := q
          have g4065 : G md_R_cheap b u11 := g_tr g4060 g4064 rfl
          exact s_R_cheap_229 FU (by have := eqFU; omega) g4065 (by omega) (by omega) (by omega)
    · refine ok_gd (by omega) ?_
      have : (0 : Int) ≤ (w 72 (v2).toNat) ∧ (w 72 (v2).toNat) ≤ 2999 := hG.1 72 (v2).toNat
      refine ok_let (fun x20 e4066 => ?_)
      have : (0 : Int) ≤ x20 ∧ x20 ≤ 2999 := by omega
      exact s_R_cheap_58 ih FU (by have := eqFU; omega) hG (by omega) (by omega) (by omega) (by omega) (by omega)
theorem s_R_cheap {w : Wd} {v1 : Int} (hG : G md_R_cheap w w) (i_v1 : ((-2147483648 : Int) ≤ v1 ∧ v1 ≤ 2147483647)) : OK (f_R_cheap v1 w) (fun r u => ((-3 : Int) ≤ r ∧ r ≤ 1000000) ∧ G md_R_cheap w u) := by
  unfold f_R_cheap
  refine ok_lw (fun u1 e4067 => ?_)
  have g4068 : G md_R_cheap w u1 := g_st hG e4067 rfl rfl (show (0 : Int) ≤ (0 : Int) ∧ (0 : Int) ≤ 1 by omega)
  refine ok_jj ?_
  refine ok_jite (fun h4071 => ?_) (fun h4072 => ?_)
  · refine ok_jsome ?_
    refine ok_jit (by decide) ?_
    refine ok_jsome ?_
    refine ok_it (by decide) ?_
    exact ok_some ⟨by omega, g4068⟩
  · refine ok_jite (fun h4073 => ?_) (fun h4074 => ?_)
    · refine ok_jsome ?_
      refine ok_jit (by decide) ?_
      refine ok_jsome ?_
      refine ok_it (by decide) ?_
      exact ok_some ⟨by omega, g4068⟩
    · refine ok_jsome ?_
      refine ok_jit (by decide) ?_
      refine ok_jsome ?_
      refine ok_if (by decide) ?_
      refine ok_call (s_R_findStates (g_self g4068) (by omega)) (fun r4 u5 q => ?_)
      obtain ⟨i4075, g4076⟩ := q
      have g4077 : G md_R_cheap w u5 := g_tr g4068 g4076 rfl
      refine ok_ite (fun h4078 => ?_) (fun h4079 => ?_)
      · exact ok_some ⟨by omega, g4077⟩
      · refine ok_call (s_R_findOrder (g_self g4077)) (fun r6 u7 q => ?_)
        obtain ⟨i4080, g4081⟩ := q
        have g4082 : G md_R_cheap w u7 := g_tr g4077 g4081 rfl
        refine ok_ite (fun h4083 => ?_) (fun h4084 => ?_)
        · exact s_R_cheap_40 FU (by have := eqFU; omega) g4082 (by omega) (by omega)
        · exact ok_some ⟨by omega, g4082⟩
theorem s_R_canWant_154 {b : Wd} {rec : Int → Int → Int → Int → Int → Wd → Option (Int × Wd)} {Brec : Int} {k79 : Int → Int → Int → Int → Int → Int → Wd → Option (Int × Wd)} {Bk79 : Int} (hrec : ∀ {w1 : Wd} {v1 v2 v3 v4 v5 : Int}, ((12 : Int) - v3) < Brec → G md_R_canWant w1 w1 → ((0 : Int) ≤ v1 ∧ v1 ≤ 9) → ((-1 : Int) ≤ v2 ∧ v2 ≤ 9) → ((0 : Int) ≤ v3 ∧ v3 ≤ 11) → ((0 : Int) ≤ v4 ∧ v4 ≤ 1023) → ((0 : Int) ≤ v5 ∧ v5 ≤ 1023) → (v3 ≤ (w1 43 0)) → OK (rec v1 v2 v3 v4 v5 w1) (fun r u => ((0 : Int) ≤ r ∧ r ≤ 1) ∧ G md_R_canWant w1 u)) (hk79 : ∀ {w1 : Wd} {v1 v2 v3 v4 v5 v6 : Int}, ((11 : Int) - v6) < Bk79 → G md_R_canWant b w1 → ((0 : Int) ≤ v1 ∧ v1 ≤ 9) → ((-1 : Int) ≤ v2 ∧ v2 ≤ 9) → ((0 : Int) ≤ v3 ∧ v3 ≤ 9) → ((0 : Int) ≤ v4 ∧ v4 ≤ 1023) → ((0 : Int) ≤ v5 ∧ v5 ≤ 1023) → ((0 : Int) ≤ v6 ∧ v6 ≤ 10) → (v3 < (w1 43 0)) → ((12 : Int) - v3) ≤ Brec → OK (k79 v1 v2 v3 v4 v5 v6 w1) (fun r u => ((0 : Int) ≤ r ∧ r ≤ 1) ∧ G md_R_canWant b u)) {w : Wd} {v1 v2 v3 v4 v5 v6 : Int} (hG : G md_R_canWant b w) (i_v1 : ((0 : Int) ≤ v1 ∧ v1 ≤ 9)) (i_v2 : ((-1 : Int) ≤ v2 ∧ v2 ≤ 9)) (i_v3 : ((0 : Int) ≤ v3 ∧ v3 ≤ 9)) (i_v4 : ((0 : Int) ≤ v4 ∧ v4 ≤ 1023)) (i_v5 : ((0 : Int) ≤ v5 ∧ v5 ≤ 1023)) (i_v6 : ((0 : Int) ≤ v6 ∧ v6 ≤ 9)) (a_0 : (v3 < (w 43 0))) (hBrec : ((12 : Int) - v3) ≤ Brec) (hBk79 : ((11 : Int) - v6) ≤ Bk79) : OK (f_R_canWant_154 rec k79 v1 v2 v3 v4 v5 v6 w) (fun r u => ((0 : Int) ≤ r ∧ r ≤ 1) ∧ G md_R_canWant b u) := by
  unfold f_R_canWant_154
  have : (0 : Int) ≤ (w 43 0) ∧ (w 43 0) ≤ 10 := hG.1 43 0
  have : (w 43 0) = (b 43 0) := hG.2.1 43 0 rfl
  have := w32_sp ((v6 + (1 : Int)))
  refine ok_let (fun x7 e4085 => ?_)
  have : (1 : Int) ≤ x7 ∧ x7 ≤ 10 := by omega
  exact hk79 (by omega) hG (by omega) (by omega) (by omega) (by omega) (by omega) (by omega) (by omega) (by omega)
theorem s_R_canWant_79 {b : Wd} {rec : Int → Int → Int → Int → Int → Wd → Option (Int × Wd)} {Brec : Int} (hrec : ∀ {w1 : Wd} {v1 v2 v3 v4 v5 : Int}, ((12 : Int) - v3) < Brec → G md_R_canWant w1 w1 → ((0 : Int) ≤ v1 ∧ v1 ≤ 9) → ((-1 : Int) ≤ v2 ∧ v2 ≤ 9) → ((0 : Int) ≤ v3 ∧ v3 ≤ 11) → ((0 : Int) ≤ v4 ∧ v4 ≤ 1023) → ((0 : Int) ≤ v5 ∧ v5 ≤ 1023) → (v3 ≤ (w1 43 0)) → OK (rec v1 v2 v3 v4 v5 w1) (fun r u => ((0 : Int) ≤ r ∧ r ≤ 1) ∧ G md_R_canWant w1 u)) : ∀ (n : Nat) {w : Wd} {v1 v2 v3 v4 v5 v6 : Int}, ((11 : Int) - v6) < (n : Int) → G md_R_canWant b w → ((0 : Int) ≤ v1 ∧ v1 ≤ 9) → ((-1 : Int) ≤ v2 ∧ v2 ≤ 9) → ((0 : Int) ≤ v3 ∧ v3 ≤ 9) → ((0 : Int) ≤ v4 ∧ v4 ≤ 1023) → ((0 : Int) ≤ v5 ∧ v5 ≤ 1023) → ((0 : Int) ≤ v6 ∧ v6 ≤ 10) → (v3 < (w 43 0)) → ((12 : Int) - v3) ≤ Brec → OK (f_R_canWant_79 rec n v1 v2 v3 v4 v5 v6 w) (fun r u => ((0 : Int) ≤ r ∧ r ≤ 1) ∧ G md_R_canWant b u) := by
  intro n
  induction n with
  | zero =>
    intro w v1 v2 v3 v4 v5 v6 hm hG i_v1 i_v2 i_v3 i_v4 i_v5 i_v6 a_0 hBrec
    exfalso
    omega
  | succ n ih =>
    intro w v1 v2 v3 v4 v5 v6 hm hG i_v1 i_v2 i_v3 i_v4 i_v5 i_v6 a_0 hBrec
    rw [f_R_canWant_79]
    have : (0 : Int) ≤ (w 43 0) ∧ (w 43 0) ≤ 10 := hG.1 43 0
    have : (w 43 0) = (b 43 0) := hG.2.1 43 0 rfl
    refine ok_ite (fun h4086 => ?_) (fun h4087 => ?_)
    · exact ok_some ⟨by omega, hG⟩
    · refine ok_gd (by omega) ?_
      have : (0 : Int) ≤ (w 45 (v3).toNat) ∧ (w 45 (v3).toNat) ≤ 1023 := hG.1 45 (v3).toNat
      have := ixor_m1 (x := v5) (by omega)
      have := iand_l (x := (w 45 (v3).toNat)) (y := (ixor v5 (-1 : Int))) (by omega)
      have : (0 : Int) ≤ (w 43 44) ∧ (w 43 44) ≤ 1023 := hG.1 43 44
      have : (w 43 44) = (b 43 44) := hG.2.1 43 44 rfl
      have := ixor_m1 (x := (w 43 44)) (by omega)
      have := iand_l (x := (iand (w 45 (v3).toNat) (ixor v5 (-1 : Int)))) (y := (ixor (w 43 44) (-1 : Int))) (by omega)
      refine ok_call (s_R_has (g_self hG) (by omega) (by omega)) (fun r5 u6 q => ?_)
      obtain ⟨i4088, g4089⟩ := q
      have g4090 : G md_R_canWant b u6 := g_tr hG g4089 rfl
      refine ok_ite (fun h4091 => ?_) (fun h4092 => ?_)
      · have : (0 : Int) ≤ (u6 43 0) ∧ (u6 43 0) ≤ 10 := g4090.1 43 0
        have : (u6 43 0) = (w 43 0) := g4089.2.1 43 0 rfl
        exact s_R_canWant_154 hrec ih g4090 (by omega) (by omega) (by omega) (by omega) (by omega) (by omega) (by omega) (by omega) (by omega)
      · refine ok_gd (by omega) ?_
        have : (-4 : Int) ≤ (u6 68 (v6).toNat) ∧ (u6 68 (v6).toNat) ≤ 4 := g4090.1 68 (v6).toNat
        refine ok_ite (fun h4093 => ?_) (fun h4094 => ?_)
        · have := w32_sp ((v3 + (1 : Int)))
          have := ishl1_n 9 (i := v3) (j := 9) (m := 512) (by decide) (by decide) (by decide) (by omega)
          have := ior_n 10 (x := v4) (y := (ishl (1 : Int) v3)) (m := 1023) (by decide) (by decide) (by omega) (by omega)
          have := ishl1_n 9 (i := v6) (j := 9) (m := 512) (by decide) (by decide) (by decide) (by omega)
          have := ior_n 10 (x := v5) (y := (ishl (1 : Int) v6)) (m := 1023) (by decide) (by decide) (by omega) (by omega)
          have : (0 : Int) ≤ (u6 43 0) ∧ (u6 43 0) ≤ 10 := g4090.1 43 0
          have : (u6 43 0) = (w 43 0) := g4089.2.1 43 0 rfl
          refine ok_call (hrec (by omega) (g_self g4090) (by omega) (by omega) (by omega) (by omega) (by omega) (by omega)) (fun r8 u9 q => ?_)
          obtain ⟨i4095, g4096⟩ := q
          have g4097 : G md_R_canWant b u9 := g_tr g4090 g4096 rfl
          refine ok_ite (fun h4098 => ?_) (fun h4099 => ?_)
          · have : (0 : Int) ≤ (u9 43 0) ∧ (u9 43 0) ≤ 10 := g4097.1 43 0
            have : (u9 43 0) = (u6 43 0) := g4096.2.1 43 0 rfl
            exact s_R_canWant_154 hrec ih g4097 (by omega) (by omega) (by omega) (by omega) (by omega) (by omega) (by omega) (by omega) (by omega)
          · exact ok_some ⟨by omega, g4097⟩
        · have : (0 : Int) ≤ (u6 43 0) ∧ (u6 43 0) ≤ 10 := g4090.1 43 0
          have : (u6 43 0) = (w 43 0) := g4089.2.1 43 0 rfl
          exact s_R_canWant_154 hrec ih g4090 (by omega) (by omega) (by omega) (by omega) (by omega) (by omega) (by omega) (by omega) (by omega)
theorem s_R_canWant_b {b : Wd} {rec : Int → Int → Int → Int → Int → Wd → Option (Int × Wd)} {Brec : Int} (hrec : ∀ {w1 : Wd} {v1 v2 v3 v4 v5 : Int}, ((12 : Int) - v3) < Brec → G md_R_canWant w1 w1 → ((0 : Int) ≤ v1 ∧ v1 ≤ 9) → ((-1 : Int) ≤ v2 ∧ v2 ≤ 9) → ((0 : Int) ≤ v3 ∧ v3 ≤ 11) → ((0 : Int) ≤ v4 ∧ v4 ≤ 1023) → ((0 : Int) ≤ v5 ∧ v5 ≤ 1023) → (v3 ≤ (w1 43 0)) → OK (rec v1 v2 v3 v4 v5 w1) (fun r u => ((0 : Int) ≤ r ∧ r ≤ 1) ∧ G md_R_canWant w1 u)) {w : Wd} {v1 v2 v3 v4 v5 : Int} (hG : G md_R_canWant b w) (i_v1 : ((0 : Int) ≤ v1 ∧ v1 ≤ 9)) (i_v2 : ((-1 : Int) ≤ v2 ∧ v2 ≤ 9)) (i_v3 : ((0 : Int) ≤ v3 ∧ v3 ≤ 10)) (i_v4 : ((0 : Int) ≤ v4 ∧ v4 ≤ 1023)) (i_v5 : ((0 : Int) ≤ v5 ∧ v5 ≤ 1023)) (a_0 : (v3 ≤ (w 43 0))) (hBrec : ((12 : Int) - v3) ≤ Brec) : OK (f_R_canWant_b rec v1 v2 v3 v4 v5 w) (fun r u => ((0 : Int) ≤ r ∧ r ≤ 1) ∧ G md_R_canWant b u) := by
  unfold f_R_canWant_b
  have : (0 : Int) ≤ (w 43 0) ∧ (w 43 0) ≤ 10 := hG.1 43 0
  have : (w 43 0) = (b 43 0) := hG.2.1 43 0 rfl
  refine ok_ite (fun h4100 => ?_) (fun h4101 => ?_)
  · refine ok_call (s_R_behind (g_self hG) (by omega) (by omega)) (fun r10 u11 q => ?_)
    obtain ⟨i4102, g4103⟩ := q
    have g4104 : G md_R_canWant b u11 := g_tr hG g4103 rfl
    refine ok_ite (fun h4105 => ?_) (fun h4106 => ?_)
    · exact ok_some ⟨by omega, g4104⟩
    · refine ok_gd (by omega) ?_
      have : (0 : Int) ≤ (u11 74 (r10).toNat) ∧ (u11 74 (r10).toNat) ≤ 1 := g4104.1 74 (r10).toNat
      refine ok_ite (fun h4107 => ?_) (fun h4108 => ?_)
      · exact ok_some ⟨by omega, g4104⟩
      · exact ok_some ⟨by omega, g4104⟩
  · have := w32_sp ((v3 + (1 : Int)))
    refine ok_call (hrec (by omega) (g_self hG) (by omega) (by omega) (by omega) (by omega) (by omega) (by omega)) (fun r1 u2 q => ?_)
    obtain ⟨i4109, g4110⟩ := q
    have g4111 : G md_R_canWant b u2 := g_tr hG g4110 rfl
    refine ok_ite (fun h4112 => ?_) (fun h4113 => ?_)
    · refine ok_ite (fun h4114 => ?_) (fun h4115 => ?_)
      · exact ok_some ⟨by omega, g4111⟩
      · refine ok_gd (by omega) ?_
        have : (-4 : Int) ≤ (u2 68 (v3).toNat) ∧ (u2 68 (v3).toNat) ≤ 4 := g4111.1 68 (v3).toNat
        refine ok_jite (fun h4117 => ?_) (fun h4118 => ?_)
        · refine ok_jsome ?_
          refine ok_it (by decide) ?_
          exact ok_some ⟨by omega, g4111⟩
        · refine ok_jite (fun h4119 => ?_) (fun h4120 => ?_)
          · refine ok_jsome ?_
            refine ok_it (by decide) ?_
            exact ok_some ⟨by omega, g4111⟩
          · refine ok_jsome ?_
            refine ok_if (by decide) ?_
            have : (0 : Int) ≤ (u2 43 0) ∧ (u2 43 0) ≤ 10 := g4111.1 43 0
            have : (u2 43 0) = (w 43 0) := g4110.2.1 43 0 rfl
            exact s_R_canWant_79 hrec FU (by have := eqFU; omega) g4111 (by omega) (by omega) (by omega) (by omega) (by omega) (by omega) (by omega) (by omega)
    · exact ok_some ⟨by omega, g4111⟩
theorem s_R_canWant : ∀ (n : Nat) {w : Wd} {v1 v2 v3 v4 v5 : Int}, ((12 : Int) - v3) < (n : Int) → G md_R_canWant w w → ((0 : Int) ≤ v1 ∧ v1 ≤ 9) → ((-1 : Int) ≤ v2 ∧ v2 ≤ 9) → ((0 : Int) ≤ v3 ∧ v3 ≤ 11) → ((0 : Int) ≤ v4 ∧ v4 ≤ 1023) → ((0 : Int) ≤ v5 ∧ v5 ≤ 1023) → (v3 ≤ (w 43 0)) → OK (f_R_canWant n v1 v2 v3 v4 v5 w) (fun r u => ((0 : Int) ≤ r ∧ r ≤ 1) ∧ G md_R_canWant w u) := by
  intro n
  induction n with
  | zero =>
    intro w v1 v2 v3 v4 v5 hm hG i_v1 i_v2 i_v3 i_v4 i_v5 a_0
    exfalso
    omega
  | succ n ih =>
    intro w v1 v2 v3 v4 v5 hm hG i_v1 i_v2 i_v3 i_v4 i_v5 a_0
    rw [f_R_canWant]
    have : (0 : Int) ≤ (w 43 0) ∧ (w 43 0) ≤ 10 := hG.1 43 0
    exact s_R_canWant_b ih hG (by omega) (by omega) (by omega) (by omega) (by omega) (by omega) (by omega)
theorem s_R_stays_236 {b : Wd} {w : Wd} {v2 v3 : Int} (hG : G md_R_stays b w) (i_v2 : ((-1 : Int) ≤ v2 ∧ v2 ≤ 2147483647)) (i_v3 : ((-1 : Int) ≤ v3 ∧ v3 ≤ 9)) : OK (f_R_stays_236 v2 v3 w) (fun r u => ((-3 : Int) ≤ r ∧ r ≤ 2147483647) ∧ G md_R_stays b u) := by
  unfold f_R_stays_236
  refine ok_lw (fun u15 e4121 => ?_)
  have g4122 : G md_R_stays b u15 := g_st hG e4121 rfl rfl (show (0 : Int) ≤ (0 : Int) ∧ (0 : Int) ≤ 16 by omega)
  have : (0 : Int) ≤ (u15 43 15) ∧ (u15 43 15) ≤ 16 := g4122.1 43 15
  have : (u15 43 15) = (0 : Int) := (congrFun (congrFun e4121 43) 15).trans (st_eq _ _ _ _)
  refine ok_jgd (by omega) ?_
  refine ok_jlw (fun u1_4123 e4124 => ?_)
  have g4125 : G md_R_stays b u1_4123 := g_st g4122 e4124 rfl rfl (show (-2147483648 : Int) ≤ v3 ∧ v3 ≤ 2147483647 by omega)
  have : (0 : Int) ≤ (u1_4123 43 15) ∧ (u1_4123 43 15) ≤ 16 := g4125.1 43 15
  have : (u1_4123 43 15) = (u15 43 15) := (congrFun (congrFun e4124 43) 15).trans (st_c (by decide))
  have := w32_sp (((u1_4123 43 15) + (1 : Int)))
  refine ok_jlw (fun u2_4123 e4126 => ?_)
  have g4127 : G md_R_stays b u2_4123 := g_st g4125 e4126 rfl rfl (show (0 : Int) ≤ (w32 ((u1_4123 43 15) + (1 : Int))) ∧ (w32 ((u1_4123 43 15) + (1 : Int))) ≤ 16 by omega)
  refine ok_jsome ?_
  exact ok_some ⟨by omega, g4127⟩
theorem s_R_stays_230 {b : Wd} {k127 : Int → Int → Int → Int → Int → Wd → Option (Int × Wd)} {Bk127 : Int} (hk127 : ∀ {w1 : Wd} {v1 v2 v3 v4 v5 : Int}, ((11 : Int) - v5) < Bk127 → G md_R_stays b w1 → ((0 : Int) ≤ v1 ∧ v1 ≤ 9) → ((-1 : Int) ≤ v2 ∧ v2 ≤ 2147483647) → ((-1 : Int) ≤ v3 ∧ v3 ≤ 9) → ((0 : Int) ≤ v4 ∧ v4 ≤ 1) → ((-1 : Int) ≤ v5 ∧ v5 ≤ 10) → OK (k127 v1 v2 v3 v4 v5 w1) (fun r u => ((-3 : Int) ≤ r ∧ r ≤ 2147483647) ∧ G md_R_stays b u)) {w : Wd} {v1 v2 v3 v4 v5 : Int} (hG : G md_R_stays b w) (i_v1 : ((0 : Int) ≤ v1 ∧ v1 ≤ 9)) (i_v2 : ((-1 : Int) ≤ v2 ∧ v2 ≤ 2147483647)) (i_v3 : ((-1 : Int) ≤ v3 ∧ v3 ≤ 9)) (i_v4 : ((0 : Int) ≤ v4 ∧ v4 ≤ 1)) (i_v5 : ((-1 : Int) ≤ v5 ∧ v5 ≤ 9)) (hBk127 : ((11 : Int) - v5) ≤ Bk127) : OK (f_R_stays_230 k127 v1 v2 v3 v4 v5 w) (fun r u => ((-3 : Int) ≤ r ∧ r ≤ 2147483647) ∧ G md_R_stays b u) := by
  unfold f_R_stays_230
  have := w32_sp ((v5 + (1 : Int)))
  refine ok_let (fun x20 e4128 => ?_)
  have : (0 : Int) ≤ x20 ∧ x20 ≤ 10 := by omega
  exact hk127 (by omega) hG (by omega) (by omega) (by omega) (by omega) (by omega)
theorem s_R_stays_229 {b : Wd} {k127 : Int → Int → Int → Int → Int → Wd → Option (Int × Wd)} {Bk127 : Int} (hk127 : ∀ {w1 : Wd} {v1 v2 v3 v4 v5 : Int}, ((11 : Int) - v5) < Bk127 → G md_R_stays b w1 → ((0 : Int) ≤ v1 ∧ v1 ≤ 9) → ((-1 : Int) ≤ v2 ∧ v2 ≤ 2147483647) → ((-1 : Int) ≤ v3 ∧ v3 ≤ 9) → ((0 : Int) ≤ v4 ∧ v4 ≤ 1) → ((-1 : Int) ≤ v5 ∧ v5 ≤ 10) → OK (k127 v1 v2 v3 v4 v5 w1) (fun r u => ((-3 : Int) ≤ r ∧ r ≤ 2147483647) ∧ G md_R_stays b u)) {w : Wd} {v1 v2 v4 v5 s0 : Int} (hG : G md_R_stays b w) (i_v1 : ((0 : Int) ≤ v1 ∧ v1 ≤ 9)) (i_v2 : ((-1 : Int) ≤ v2 ∧ v2 ≤ 2147483647)) (i_v4 : ((0 : Int) ≤ v4 ∧ v4 ≤ 1)) (i_v5 : ((-1 : Int) ≤ v5 ∧ v5 ≤ 9)) (i_s0 : ((-1 : Int) ≤ s0 ∧ s0 ≤ 9)) (hBk127 : ((11 : Int) - v5) ≤ Bk127) : OK (f_R_stays_229 k127 v1 v2 v4 v5 s0 w) (fun r u => ((-3 : Int) ≤ r ∧ r ≤ 2147483647) ∧ G md_R_stays b u) := by
  unfold f_R_stays_229
  exact s_R_stays_230 hk127 hG (by omega) (by omega) (by omega) (by omega) (by omega) (by omega)
theorem s_R_stays_213 {b : Wd} {k127 : Int → Int → Int → Int → Int → Wd → Option (Int × Wd)} {Bk127 : Int} (hk127 : ∀ {w1 : Wd} {v1 v2 v3 v4 v5 : Int}, ((11 : Int) - v5) < Bk127 → G md_R_stays b w1 → ((0 : Int) ≤ v1 ∧ v1 ≤ 9) → ((-1 : Int) ≤ v2 ∧ v2 ≤ 2147483647) → ((-1 : Int) ≤ v3 ∧ v3 ≤ 9) → ((0 : Int) ≤ v4 ∧ v4 ≤ 1) → ((-1 : Int) ≤ v5 ∧ v5 ≤ 10) → OK (k127 v1 v2 v3 v4 v5 w1) (fun r u => ((-3 : Int) ≤ r ∧ r ≤ 2147483647) ∧ G md_R_stays b u)) {w : Wd} {v1 v2 v5 s1 s2 s3 s4 s5 : Int} (hG : G md_R_stays b w) (i_v1 : ((0 : Int) ≤ v1 ∧ v1 ≤ 9)) (i_v2 : ((-1 : Int) ≤ v2 ∧ v2 ≤ 2147483647)) (i_v5 : ((-1 : Int) ≤ v5 ∧ v5 ≤ 9)) (i_s1 : ((0 : Int) ≤ s1 ∧ s1 ≤ 9)) (i_s2 : ((-1 : Int) ≤ s2 ∧ s2 ≤ 9)) (i_s3 : ((0 : Int) ≤ s3 ∧ s3 ≤ 0)) (i_s4 : ((0 : Int) ≤ s4 ∧ s4 ≤ 512)) (i_s5 : ((0 : Int) ≤ s5 ∧ s5 ≤ 512)) (hBk127 : ((11 : Int) - v5) ≤ Bk127) : OK (f_R_stays_213 k127 v1 v2 v5 s1 s2 s3 s4 s5 w) (fun r u => ((-3 : Int) ≤ r ∧ r ≤ 2147483647) ∧ G md_R_stays b u) := by
  unfold f_R_stays_213
  have : (0 : Int) ≤ (w 43 0) ∧ (w 43 0) ≤ 10 := hG.1 43 0
  have : (w 43 0) = (b 43 0) := hG.2.1 43 0 rfl
  refine ok_call (s_R_canWant 16 (by omega) (g_self hG) (by omega) (by omega) (by omega) (by omega) (by omega) (by omega)) (fun r18 u19 q => ?_)
  obtain ⟨i4129, g4130⟩ := q
  have g4131 : G md_R_stays b u19 := g_tr hG g4130 rfl
  refine ok_ite (fun h4132 => ?_) (fun h4133 => ?_)
  · exact s_R_stays_229 hk127 g4131 (by omega) (by omega) (by omega) (by omega) (by omega) (by omega)
  · exact s_R_stays_229 hk127 g4131 (by omega) (by omega) (by omega) (by omega) (by omega) (by omega)
theorem s_R_stays_199 {b : Wd} {k127 : Int → Int → Int → Int → Int → Wd → Option (Int × Wd)} {Bk127 : Int} (hk127 : ∀ {w1 : Wd} {v1 v2 v3 v4 v5 : Int}, ((11 : Int) - v5) < Bk127 → G md_R_stays b w1 → ((0 : Int) ≤ v1 ∧ v1 ≤ 9) → ((-1 : Int) ≤ v2 ∧ v2 ≤ 2147483647) → ((-1 : Int) ≤ v3 ∧ v3 ≤ 9) → ((0 : Int) ≤ v4 ∧ v4 ≤ 1) → ((-1 : Int) ≤ v5 ∧ v5 ≤ 10) → OK (k127 v1 v2 v3 v4 v5 w1) (fun r u => ((-3 : Int) ≤ r ∧ r ≤ 2147483647) ∧ G md_R_stays b u)) {w : Wd} {v1 v2 v5 s1 s2 s3 s4 : Int} (hG : G md_R_stays b w) (i_v1 : ((0 : Int) ≤ v1 ∧ v1 ≤ 9)) (i_v2 : ((-1 : Int) ≤ v2 ∧ v2 ≤ 2147483647)) (i_v5 : ((-1 : Int) ≤ v5 ∧ v5 ≤ 9)) (i_s1 : ((0 : Int) ≤ s1 ∧ s1 ≤ 9)) (i_s2 : ((-1 : Int) ≤ s2 ∧ s2 ≤ 9)) (i_s3 : ((0 : Int) ≤ s3 ∧ s3 ≤ 0)) (i_s4 : ((0 : Int) ≤ s4 ∧ s4 ≤ 512)) (hBk127 : ((11 : Int) - v5) ≤ Bk127) : OK (f_R_stays_199 k127 v1 v2 v5 s1 s2 s3 s4 w) (fun r u => ((-3 : Int) ≤ r ∧ r ≤ 2147483647) ∧ G md_R_stays b u) := by
  unfold f_R_stays_199
  refine ok_ite (fun h4134 => ?_) (fun h4135 => ?_)
  · exact s_R_stays_213 hk127 hG (by omega) (by omega) (by omega) (by omega) (by omega) (by omega) (by omega) (by omega) (by omega)
  · have := ishl1_n 9 (i := v5) (j := 9) (m := 512) (by decide) (by decide) (by decide) (by omega)
    exact s_R_stays_213 hk127 hG (by omega) (by omega) (by omega) (by omega) (by omega) (by omega) (by omega) (by omega) (by omega)
theorem s_R_stays_181 {b : Wd} {k127 : Int → Int → Int → Int → Int → Wd → Option (Int × Wd)} {Bk127 : Int} (hk127 : ∀ {w1 : Wd} {v1 v2 v3 v4 v5 : Int}, ((11 : Int) - v5) < Bk127 → G md_R_stays b w1 → ((0 : Int) ≤ v1 ∧ v1 ≤ 9) → ((-1 : Int) ≤ v2 ∧ v2 ≤ 2147483647) → ((-1 : Int) ≤ v3 ∧ v3 ≤ 9) → ((0 : Int) ≤ v4 ∧ v4 ≤ 1) → ((-1 : Int) ≤ v5 ∧ v5 ≤ 10) → OK (k127 v1 v2 v3 v4 v5 w1) (fun r u => ((-3 : Int) ≤ r ∧ r ≤ 2147483647) ∧ G md_R_stays b u)) {w : Wd} {v1 v2 v5 : Int} (hG : G md_R_stays b w) (i_v1 : ((0 : Int) ≤ v1 ∧ v1 ≤ 9)) (i_v2 : ((-1 : Int) ≤ v2 ∧ v2 ≤ 2147483647)) (i_v5 : ((-1 : Int) ≤ v5 ∧ v5 ≤ 9)) (hBk127 : ((11 : Int) - v5) ≤ Bk127) : OK (f_R_stays_181 k127 v1 v2 v5 w) (fun r u => ((-3 : Int) ≤ r ∧ r ≤ 2147483647) ∧ G md_R_stays b u) := by
  unfold f_R_stays_181
  refine ok_ite (fun h4136 => ?_) (fun h4137 => ?_)
  · exact s_R_stays_199 hk127 hG (by omega) (by omega) (by omega) (by omega) (by omega) (by omega) (by omega) (by omega)
  · have := ishl1_n 9 (i := v1) (j := 9) (m := 512) (by decide) (by decide) (by decide) (by omega)
    exact s_R_stays_199 hk127 hG (by omega) (by omega) (by omega) (by omega) (by omega) (by omega) (by omega) (by omega)
theorem s_R_stays_127 {b : Wd} : ∀ (n : Nat) {w : Wd} {v1 v2 v3 v4 v5 : Int}, ((11 : Int) - v5) < (n : Int) → G md_R_stays b w → ((0 : Int) ≤ v1 ∧ v1 ≤ 9) → ((-1 : Int) ≤ v2 ∧ v2 ≤ 2147483647) → ((-1 : Int) ≤ v3 ∧ v3 ≤ 9) → ((0 : Int) ≤ v4 ∧ v4 ≤ 1) → ((-1 : Int) ≤ v5 ∧ v5 ≤ 10) → OK (f_R_stays_127 n v1 v2 v3 v4 v5 w) (fun r u => ((-3 : Int) ≤ r ∧ r ≤ 2147483647) ∧ G md_R_stays b u) := by
  intro n
  induction n with
  | zero =>
    intro w v1 v2 v3 v4 v5 hm hG i_v1 i_v2 i_v3 i_v4 i_v5
    exfalso
    omega
  | succ n ih =>
    intro w v1 v2 v3 v4 v5 hm hG i_v1 i_v2 i_v3 i_v4 i_v5
    rw [f_R_stays_127]
    have : (0 : Int) ≤ (w 43 0) ∧ (w 43 0) ≤ 10 := hG.1 43 0
    have : (w 43 0) = (b 43 0) := hG.2.1 43 0 rfl
    refine ok_ite (fun h4138 => ?_) (fun h4139 => ?_)
    · exact s_R_stays_236 hG (by omega) (by omega)
    · refine ok_ite (fun h4140 => ?_) (fun h4141 => ?_)
      · refine ok_ite (fun h4142 => ?_) (fun h4143 => ?_)
        · exact s_R_stays_181 ih hG (by omega) (by omega) (by omega) (by omega)
        · refine ok_gd (by omega) ?_
          have : (0 : Int) ≤ (w 45 (v1).toNat) ∧ (w 45 (v1).toNat) ≤ 1023 := hG.1 45 (v1).toNat
          have : (0 : Int) ≤ (w 43 44) ∧ (w 43 44) ≤ 1023 := hG.1 43 44
          have := ixor_m1 (x := (w 43 44)) (by omega)
          have := iand_l (x := (w 45 (v1).toNat)) (y := (ixor (w 43 44) (-1 : Int))) (by omega)
          refine ok_call (s_R_has (g_self hG) (by omega) (by omega)) (fun r21 u22 q => ?_)
          obtain ⟨i4144, g4145⟩ := q
          have g4146 : G md_R_stays b u22 := g_tr hG g4145 rfl
          refine ok_ite (fun h4147 => ?_) (fun h4148 => ?_)
          · exact s_R_stays_230 ih g4146 (by omega) (by omega) (by omega) (by omega) (by omega) (by omega)
          · refine ok_gd (by omega) ?_
            have : (-4 : Int) ≤ (u22 68 (v5).toNat) ∧ (u22 68 (v5).toNat) ≤ 4 := g4146.1 68 (v5).toNat
            refine ok_ite (fun h4149 => ?_) (fun h4150 => ?_)
            · exact s_R_stays_181 ih g4146 (by omega) (by omega) (by omega) (by omega)
            · exact s_R_stays_230 ih g4146 (by omega) (by omega) (by omega) (by omega) (by omega) (by omega)
      · exact s_R_stays_236 hG (by omega) (by omega)
theorem s_R_stays_117 {b : Wd} {w : Wd} {v1 v2 v3 s0 : Int} (hG : G md_R_stays b w) (i_v1 : ((0 : Int) ≤ v1 ∧ v1 ≤ 9)) (i_v2 : ((-1 : Int) ≤ v2 ∧ v2 ≤ 2147483647)) (i_v3 : ((-1 : Int) ≤ v3 ∧ v3 ≤ -1)) (i_s0 : ((0 : Int) ≤ s0 ∧ s0 ≤ 1)) : OK (f_R_stays_117 v1 v2 v3 s0 w) (fun r u => ((-3 : Int) ≤ r ∧ r ≤ 2147483647) ∧ G md_R_stays b u) := by
  unfold f_R_stays_117
  refine ok_call (s_R_load (g_self hG) (by omega)) (fun r13 u14 q => ?_)
  obtain ⟨i4151, g4152⟩ := q
  have g4153 : G md_R_stays b u14 := g_tr hG g4152 rfl
  exact s_R_stays_127 FU (by have := eqFU; omega) g4153 (by omega) (by omega) (by omega) (by omega) (by omega)
theorem s_R_stays_99 {b : Wd} {k61 : Int → Int → Int → Wd → Option (Int × Wd)} {Bk61 : Int} (hk61 : ∀ {w1 : Wd} {v1 v2 v3 : Int}, ((3001 : Int) - v3) < Bk61 → G md_R_stays b w1 → ((0 : Int) ≤ v1 ∧ v1 ≤ 9) → ((-1 : Int) ≤ v2 ∧ v2 ≤ 2147483647) → ((0 : Int) ≤ v3 ∧ v3 ≤ 3000) → OK (k61 v1 v2 v3 w1) (fun r u => ((-3 : Int) ≤ r ∧ r ≤ 2147483647) ∧ G md_R_stays b u)) {w : Wd} {v1 v2 v3 s1 s2 : Int} (hG : G md_R_stays b w) (i_v1 : ((0 : Int) ≤ v1 ∧ v1 ≤ 9)) (i_v2 : ((-1 : Int) ≤ v2 ∧ v2 ≤ 2147483647)) (i_v3 : ((0 : Int) ≤ v3 ∧ v3 ≤ 2999)) (i_s1 : ((0 : Int) ≤ s1 ∧ s1 ≤ 2999)) (i_s2 : ((0 : Int) ≤ s2 ∧ s2 ≤ 1)) (hBk61 : ((3001 : Int) - v3) ≤ Bk61) : OK (f_R_stays_99 k61 v1 v2 v3 s1 s2 w) (fun r u => ((-3 : Int) ≤ r ∧ r ≤ 2147483647) ∧ G md_R_stays b u) := by
  unfold f_R_stays_99
  refine ok_gd (by omega) ?_
  have := nz_rg s2
  refine ok_lw (fun u25 e4154 => ?_)
  have g4155 : G md_R_stays b u25 := g_st hG e4154 rfl rfl (show (0 : Int) ≤ (nz s2) ∧ (nz s2) ≤ 1 by omega)
  have := w32_sp ((v3 + (1 : Int)))
  refine ok_let (fun x26 e4156 => ?_)
  have : (1 : Int) ≤ x26 ∧ x26 ≤ 3000 := by omega
  exact hk61 (by omega) g4155 (by omega) (by omega) (by omega)
theorem s_R_stays_98 {b : Wd} {k61 : Int → Int → Int → Wd → Option (Int × Wd)} {Bk61 : Int} (hk61 : ∀ {w1 : Wd} {v1 v2 v3 : Int}, ((3001 : Int) - v3) < Bk61 → G md_R_stays b w1 → ((0 : Int) ≤ v1 ∧ v1 ≤ 9) → ((-1 : Int) ≤ v2 ∧ v2 ≤ 2147483647) → ((0 : Int) ≤ v3 ∧ v3 ≤ 3000) → OK (k61 v1 v2 v3 w1) (fun r u => ((-3 : Int) ≤ r ∧ r ≤ 2147483647) ∧ G md_R_stays b u)) {w : Wd} {v1 v2 v3 s1 : Int} (hG : G md_R_stays b w) (i_v1 : ((0 : Int) ≤ v1 ∧ v1 ≤ 9)) (i_v2 : ((-1 : Int) ≤ v2 ∧ v2 ≤ 2147483647)) (i_v3 : ((0 : Int) ≤ v3 ∧ v3 ≤ 2999)) (i_s1 : ((0 : Int) ≤ s1 ∧ s1 ≤ 2999)) (hBk61 : ((3001 : Int) - v3) ≤ Bk61) : OK (f_R_stays_98 k61 v1 v2 v3 s1 w) (fun r u => ((-3 : Int) ≤ r ∧ r ≤ 2147483647) ∧ G md_R_stays b u) := by
  unfold f_R_stays_98
  exact s_R_stays_99 hk61 hG (by omega) (by omega) (by omega) (by omega) (by omega) (by omega)
theorem s_R_stays_61 {b : Wd} : ∀ (n : Nat) {w : Wd} {v1 v2 v3 : Int}, ((3001 : Int) - v3) < (n : Int) → G md_R_stays b w → ((0 : Int) ≤ v1 ∧ v1 ≤ 9) → ((-1 : Int) ≤ v2 ∧ v2 ≤ 2147483647) → ((0 : Int) ≤ v3 ∧ v3 ≤ 3000) → OK (f_R_stays_61 n v1 v2 v3 w) (fun r u => ((-3 : Int) ≤ r ∧ r ≤ 2147483647) ∧ G md_R_stays b u) := by
  intro n
  induction n with
  | zero =>
    intro w v1 v2 v3 hm hG i_v1 i_v2 i_v3
    exfalso
    omega
  | succ n ih =>
    intro w v1 v2 v3 hm hG i_v1 i_v2 i_v3
    rw [f_R_stays_61]
    have : (0 : Int) ≤ (w 43 40) ∧ (w 43 40) ≤ 3000 := hG.1 43 40
    refine ok_ite (fun h4157 => ?_) (fun h4158 => ?_)
    · refine ok_ite (fun h4159 => ?_) (fun h4160 => ?_)
      · exact s_R_stays_117 hG (by omega) (by omega) (by omega) (by omega)
      · exact s_R_stays_117 hG (by omega) (by omega) (by omega) (by omega)
    · refine ok_call (s_R_isNext (g_self hG) (by omega)) (fun r23 u24 q => ?_)
      obtain ⟨i4161, g4162⟩ := q
      have g4163 : G md_R_stays b u24 := g_tr hG g4162 rfl
      refine ok_ite (fun h4164 => ?_) (fun h4165 => ?_)
      · exact s_R_stays_98 ih g4163 (by omega) (by omega) (by omega) (by omega) (by omega)
      · refine ok_gd (by omega) ?_
        have : (-1 : Int) ≤ (u24 71 (v3).toNat) ∧ (u24 71 (v3).toNat) ≤ 2147483647 := g4163.1 71 (v3).toNat
        have := w32_sp ((v2 - (1 : Int)))
        refine ok_ite (fun h4166 => ?_) (fun h4167 => ?_)
        · exact s_R_stays_99 ih g4163 (by omega) (by omega) (by omega) (by omega) (by omega) (by omega)
        · exact s_R_stays_98 ih g4163 (by omega) (by omega) (by omega) (by omega) (by omega)
theorem s_R_stays {w : Wd} {v1 : Int} (hG : G md_R_stays w w) (i_v1 : ((-2147483648 : Int) ≤ v1 ∧ v1 ≤ 2147483647)) : OK (f_R_stays v1 w) (fun r u => ((-3 : Int) ≤ r ∧ r ≤ 2147483647) ∧ G md_R_stays w u) := by
  unfold f_R_stays
  refine ok_lw (fun u1 e4168 => ?_)
  have g4169 : G md_R_stays w u1 := g_st hG e4168 rfl rfl (show (0 : Int) ≤ (0 : Int) ∧ (0 : Int) ≤ 1 by omega)
  refine ok_jj ?_
  refine ok_jite (fun h4172 => ?_) (fun h4173 => ?_)
  · refine ok_jsome ?_
    refine ok_jit (by decide) ?_
    refine ok_jsome ?_
    refine ok_it (by decide) ?_
    exact ok_some ⟨by omega, g4169⟩
  · have : (0 : Int) ≤ (u1 43 0) ∧ (u1 43 0) ≤ 10 := g4169.1 43 0
    have : (u1 43 0) = (w 43 0) := (congrFun (congrFun e4168 43) 0).trans (st_k (by decide))
    have : (0 : Int) ≤ (w 43 0) ∧ (w 43 0) ≤ 10 := hG.1 43 0
    have := w32_sp (((u1 43 0) - (1 : Int)))
    refine ok_jite (fun h4174 => ?_) (fun h4175 => ?_)
    · refine ok_jsome ?_
      refine ok_jit (by decide) ?_
      refine ok_jsome ?_
      refine ok_it (by decide) ?_
      exact ok_some ⟨by omega, g4169⟩
    · refine ok_jsome ?_
      refine ok_jit (by decide) ?_
      refine ok_jsome ?_
      refine ok_if (by decide) ?_
      refine ok_call (s_R_findStates (g_self g4169) (by omega)) (fun r4 u5 q => ?_)
      obtain ⟨i4176, g4177⟩ := q
      have g4178 : G md_R_stays w u5 := g_tr g4169 g4177 rfl
      refine ok_ite (fun h4179 => ?_) (fun h4180 => ?_)
      · exact ok_some ⟨by omega, g4178⟩
      · refine ok_gd (by omega) ?_
        have : (-2147483648 : Int) ≤ (u5 47 (v1).toNat) ∧ (u5 47 (v1).toNat) ≤ 2147483647 := g4178.1 47 (v1).toNat
        refine ok_jite (fun h4182 => ?_) (fun h4183 => ?_)
        · refine ok_jsome ?_
          refine ok_it (by decide) ?_
          exact ok_some ⟨by omega, g4178⟩
        · refine ok_jite (fun h4184 => ?_) (fun h4185 => ?_)
          · refine ok_jsome ?_
            refine ok_it (by decide) ?_
            exact ok_some ⟨by omega, g4178⟩
          · refine ok_jsome ?_
            refine ok_if (by decide) ?_
            have := ishl1_n 9 (i := v1) (j := 9) (m := 512) (by decide) (by decide) (by decide) (by omega)
            refine ok_call (s_R_findLife (g_self g4178) (by omega)) (fun r8 u9 q => ?_)
            obtain ⟨i4186, g4187⟩ := q
            have g4188 : G md_R_stays w u9 := g_tr g4178 g4187 rfl
            refine ok_gd (by omega) ?_
            have : (-1 : Int) ≤ (u9 71 ((0 : Int)).toNat) ∧ (u9 71 ((0 : Int)).toNat) ≤ 2147483647 := g4188.1 71 ((0 : Int)).toNat
            refine ok_let (fun x10 e4189 => ?_)
            have : (-1 : Int) ≤ x10 ∧ x10 ≤ 2147483647 := by omega
            refine ok_call (s_R_findNext (g_self g4188)) (fun r11 u12 q => ?_)
            obtain ⟨i4190, g4191⟩ := q
            have g4192 : G md_R_stays w u12 := g_tr g4188 g4191 rfl
            exact s_R_stays_61 FU (by have := eqFU; omega) g4192 (by omega) (by omega) (by omega)
-- <man14>
def hs (w : Wd) (i : Int) (s : Nat) : Bool := bt (gI (w 63 s) (w 43 0)) i.toNat
theorem it_2 {w : Wd} (hG : G md_R_isThere w w) {v1 : Int} (i1 : 0 ≤ v1 ∧ v1 ≤ 9) : ∀ (n : Nat) {v2 : Int}, 3001 - v2 < (n : Int) → (0 ≤ v2 ∧ v2 ≤ 3000) → (∀ s : Nat, (s : Int) < v2 → w 69 s < 1000000 → hs w v1 s = false) → OK (f_R_isThere_2 n v1 v2 w) (fun r u => ((0 : Int) ≤ r ∧ r ≤ 1) ∧ u = w ∧ (r = 0 → ∀ s : Nat, (s : Int) < w 43 40 → w 69 s < 1000000 → hs w v1 s = false)) := by
  intro n
  induction n with
  | zero => intro v2 hm i2; omega
  | succ n ih =>
    intro v2 hm i2 hI
    rw [f_R_isThere_2]
    have a40 : (0 : Int) ≤ w 43 40 ∧ w 43 40 ≤ 3000 := hG.1 43 40
    have w1 := w32_sp (v2 + 1)
    refine ok_ite (fun h => ?_) (fun h => ?_)
    · exact ok_some ⟨by omega, rfl, fun _ s hs hf => hI s (by omega) hf⟩
    · refine ok_gd (by omega) ?_
      have nx : (w 69 v2.toNat < 1000000 → hs w v1 v2.toNat = false) → OK (f_R_isThere_36 (f_R_isThere_2 n) v1 v2 w) (fun r u => ((0 : Int) ≤ r ∧ r ≤ 1) ∧ u = w ∧ (r = 0 → ∀ s : Nat, (s : Int) < w 43 40 → w 69 s < 1000000 → hs w v1 s = false)) := by
        intro hn
        unfold f_R_isThere_36
        refine ok_let (fun x1 e1 => ?_)
        refine ih (by omega) (by omega) (fun s hs2 hf => ?_)
        by_cases hsv : (s : Int) = v2
        · have : s = v2.toNat := by omega
          rw [this] at hf ⊢; exact hn hf
        · exact hI s (by omega) hf
      refine ok_ite (fun h2 => ?_) (fun h2 => ?_)
      · exact nx (fun h => by omega)
      · obtain ⟨eg, ig⟩ := gi_e hG (s := v2) (by omega)
        rw [eg, jc_s, has_e w (by omega), jc_s]
        cases hb : bt (gI (w 63 v2.toNat) (w 43 0)) v1.toNat with
        | false =>
          refine ok_it (by simp) ?_
          exact nx (fun _ => hb)
        | true =>
          refine ok_if (by simp) ?_
          exact ok_some ⟨by omega, rfl, fun h => by omega⟩
theorem it {w : Wd} (hG : G md_R_isThere w w) {v1 : Int} (i1 : 0 ≤ v1 ∧ v1 ≤ 9) : OK (f_R_isThere v1 w) (fun r u => ((0 : Int) ≤ r ∧ r ≤ 1) ∧ u = w ∧ (r = 0 → ∀ s : Nat, (s : Int) < w 43 40 → w 69 s < 1000000 → hs w v1 s = false)) := by
  unfold f_R_isThere
  exact it_2 hG i1 FU (by have := eqFU; omega) (by omega) (fun s hs => by omega)
theorem sn_79 {b : Wd} {dep : Nat → Nat} {s0 : Nat} {v1 : Int} (i1 : 0 ≤ v1 ∧ v1 ≤ 9) : ∀ (n k : Nat) {w : Wd} {v3 : Int}, dep s0 + 1 < n + k → G md_R_soonest b w → Dep w dep → (s0 : Int) < w 43 40 → k ≤ dep s0 → dep s0 ≤ 3000 → hs w v1 s0 = true → KW w dep k → v3 = k → OK (f_R_soonest_79 n v1 v3 w) (fun r u => ((-2147483648 : Int) ≤ r ∧ r ≤ 2147483647) ∧ G md_R_soonest b u) := by
  intro n
  induction n with
  | zero => intro k w v3 hm; omega
  | succ n ih =>
    intro k w v3 hm hG hD hs0 hk hd hh hK h3
    rw [f_R_soonest_79]
    refine ok_call (it (g_self hG) i1) (fun r8 u9 q => ?_)
    obtain ⟨i8, eu, hn⟩ := q
    subst eu
    refine ok_ite (fun h => ?_) (fun h => ?_)
    · have hne : k ≠ dep s0 := by
        intro e
        have h1 := hK s0 hs0 e.symm
        have h2 := hn h s0 hs0 (by omega)
        rw [hh] at h2; cases h2
      refine ok_call (gw_dep (g_self hG) hD (by omega) hK) (fun r10 u11 q => ?_)
      obtain ⟨gy, hD2, hK2, hgi⟩ := q
      have g11 : G md_R_soonest b u11 := g_tr hG gy rfl
      have h40 := gy.2.1 43 40 rfl
      have w1 := w32_sp (v3 + 1)
      refine ok_let (fun x12 e12 => ?_)
      refine ih (k + 1) (by omega) g11 hD2 (by omega) (by omega) hd ?_ hK2 (by omega)
      unfold hs
      rw [hgi]; exact hh
    · exact ok_some ⟨by omega, hG⟩
theorem sn_30 {b : Wd} {v1 : Int} (i1 : 0 ≤ v1 ∧ v1 ≤ 9) : ∀ (n : Nat) {w : Wd} {v2 v3 : Int}, 3001 - v3 < (n : Int) → G md_R_soonest b w → (0 ≤ v2 ∧ v2 ≤ 1) → (0 ≤ v3 ∧ v3 ≤ w 43 40) → RPF w → 1 ≤ w 43 40 → (v2 = 0 ∨ ∃ s : Nat, (s : Int) < w 43 40 ∧ hs w v1 s = true) → OK (f_R_soonest_30 n v1 v2 v3 w) (fun r u => ((-2147483648 : Int) ≤ r ∧ r ≤ 2147483647) ∧ G md_R_soonest b u) := by
  intro n
  induction n with
  | zero =>
    intro w v2 v3 hm hG i2 i3
    have a40 : (0 : Int) ≤ w 43 40 ∧ w 43 40 ≤ 3000 := hG.1 43 40
    omega
  | succ n ih =>
    intro w v2 v3 hm hG i2 i3 hR h1 hI
    rw [f_R_soonest_30]
    have a40 : (0 : Int) ≤ w 43 40 ∧ w 43 40 ≤ 3000 := hG.1 43 40
    have w1 := w32_sp (v3 + 1)
    refine ok_ite (fun h => ?_) (fun h => ?_)
    · refine ok_ite (fun h2 => ?_) (fun h2 => ?_)
      · exact ok_some ⟨by omega, hG⟩
      · obtain ⟨s0, hs0, hm0⟩ := hI.resolve_left h2
        obtain ⟨dep, hD⟩ := dep_ex hR
        refine ok_call (bw (g_self hG) h1) (fun r4 u5 q => ?_)
        obtain ⟨i4, gy, h69⟩ := q
        have g5 : G md_R_soonest b u5 := g_tr hG gy rfl
        have h40 : u5 43 40 = w 43 40 := gy.2.1 43 40 rfl
        have hD5 : Dep u5 dep := dep_congr hD h40 (fun k => gy.2.1 64 k (mS_ar rfl k)) (fun k => gy.2.1 65 k (mS_ar rfl k))
        have hm5 : hs u5 v1 s0 = true := by
          unfold hs
          rw [gy.2.1 63 s0 (mS_ar rfl s0), gy.2.1 43 0 rfl]
          exact hm0
        have hK5 : KW u5 dep 0 := by
          intro s hs2 hd
          have : s = 0 := by
            rcases Nat.eq_zero_or_pos s with h | h
            · exact h
            · obtain ⟨_, s', e, _, q2, _⟩ := hD5.2 s h hs2
              omega
          rw [this, h69]; decide
        have hd0 : dep s0 ≤ 3000 := by
          rcases Nat.eq_zero_or_pos s0 with h | h
          · rw [h, hD.1]; decide
          · have := (hD.2 s0 h (by omega)).1
            omega
        exact sn_79 i1 FU 0 (by have : FU = 4000000000 := rfl; omega) g5 hD5 (by omega) (by omega) hd0 hm5 hK5 rfl
    · have nx : ∀ z : Int, (0 ≤ z ∧ z ≤ 1) → (z = 0 ∨ ∃ s : Nat, (s : Int) < w 43 40 ∧ hs w v1 s = true) → OK (f_R_soonest_59 (f_R_soonest_30 n) v1 v3 z w) (fun r u => ((-2147483648 : Int) ≤ r ∧ r ≤ 2147483647) ∧ G md_R_soonest b u) := by
        intro z iz hz
        unfold f_R_soonest_59
        refine ok_let (fun x13 e13 => ?_)
        have f1 : 3001 - x13 < (n : Int) := by clear hz hI; omega
        have f2 : 0 ≤ x13 ∧ x13 ≤ w 43 40 := by clear hz hI; omega
        exact ih f1 hG iz f2 hR h1 hz
      refine ok_ite (fun h2 => ?_) (fun h2 => ?_)
      · obtain ⟨eg, ig⟩ := gi_e hG (s := v3) (by omega)
        rw [eg, jc_s, has_e w (by omega), jc_s]
        cases hb : bt (gI (w 63 v3.toNat) (w 43 0)) v1.toNat with
        | false =>
          refine ok_it (by simp) ?_
          exact nx 0 (by decide) (Or.inl rfl)
        | true =>
          refine ok_if (by simp) ?_
          unfold f_R_soonest_54
          exact nx 1 (by decide) (Or.inr ⟨v3.toNat, by omega, hb⟩)
      · unfold f_R_soonest_54
        exact nx 1 (by decide) (Or.inr (hI.resolve_left h2))
theorem s_R_soonest {w : Wd} {v1 : Int} (hG : G md_R_soonest w w) (i_v1 : ((-2147483648 : Int) ≤ v1 ∧ v1 ≤ 2147483647)) : OK (f_R_soonest v1 w) (fun r u => ((-2147483648 : Int) ≤ r ∧ r ≤ 2147483647) ∧ G md_R_soonest w u) := by
  unfold f_R_soonest
  refine ok_lw (fun u1 e4229 => ?_)
  have g4230 : G md_R_soonest w u1 := g_st hG e4229 rfl rfl (show (0 : Int) ≤ (0 : Int) ∧ (0 : Int) ≤ 1 by omega)
  refine ok_jj ?_
  refine ok_jite (fun h4233 => ?_) (fun h4234 => ?_)
  · refine ok_jsome ?_
    refine ok_jit (by decide) ?_
    refine ok_jsome ?_
    refine ok_it (by decide) ?_
    exact ok_some ⟨by omega, g4230⟩
  · have : (0 : Int) ≤ (u1 43 0) ∧ (u1 43 0) ≤ 10 := g4230.1 43 0
    have := w32_sp (((u1 43 0) - (1 : Int)))
    refine ok_jite (fun h4235 => ?_) (fun h4236 => ?_)
    · refine ok_jsome ?_
      refine ok_jit (by decide) ?_
      refine ok_jsome ?_
      refine ok_it (by decide) ?_
      exact ok_some ⟨by omega, g4230⟩
    · refine ok_jsome ?_
      refine ok_jit (by decide) ?_
      refine ok_jsome ?_
      refine ok_if (by decide) ?_
      refine ok_call (fs (g_self g4230) (by decide)) (fun r4 u5 q => ?_)
      obtain ⟨i4237, g4238, hR, h1⟩ := q
      have g4239 : G md_R_soonest w u5 := g_tr g4230 g4238 rfl
      have a40 : (0 : Int) ≤ u5 43 40 ∧ u5 43 40 ≤ 3000 := g4239.1 43 40
      refine ok_ite (fun h4240 => ?_) (fun h4241 => ?_)
      · exact ok_some ⟨by omega, g4239⟩
      · exact sn_30 (by omega) FU (by have := eqFU; omega) g4239 (by omega) (by omega) (hR (by omega)) h1 (Or.inl rfl)
-- </man14>
theorem s_R_lastWith {w : Wd} {v1 : Int} (hG : G md_R_lastWith w w) (i_v1 : ((0 : Int) ≤ v1 ∧ v1 ≤ 512)) : OK (f_R_lastWith v1 w) (fun r u => ((-3 : Int) ≤ r ∧ r ≤ 2147483647) ∧ G md_R_lastWith w u) := by
  unfold f_R_lastWith
  refine ok_call (s_R_findStates (g_self hG) (by omega)) (fun r1 u2 q => ?_)
  obtain ⟨i4193, g4194⟩ := q
  have g4195 : G md_R_lastWith w u2 := g_tr hG g4194 rfl
  refine ok_ite (fun h4196 => ?_) (fun h4197 => ?_)
  · exact ok_some ⟨by omega, g4195⟩
  · refine ok_call (s_R_all (g_self g4195)) (fun r3 u4 q => ?_)
    obtain ⟨i4198, g4199⟩ := q
    have g4200 : G md_R_lastWith w u4 := g_tr g4195 g4199 rfl
    refine ok_call (s_R_findLife (g_self g4200) (by omega)) (fun r5 u6 q => ?_)
    obtain ⟨i4201, g4202⟩ := q
    have g4203 : G md_R_lastWith w u6 := g_tr g4200 g4202 rfl
    refine ok_gd (by omega) ?_
    have : (-1 : Int) ≤ (u6 71 ((0 : Int)).toNat) ∧ (u6 71 ((0 : Int)).toNat) ≤ 2147483647 := g4203.1 71 ((0 : Int)).toNat
    refine ok_ite (fun h4204 => ?_) (fun h4205 => ?_)
    · refine ok_gd (by omega) ?_
      exact ok_some ⟨by omega, g4203⟩
    · exact ok_some ⟨by omega, g4203⟩
theorem s_R_worth {w : Wd} {v1 : Int} (hG : G md_R_worth w w) (i_v1 : ((-2147483648 : Int) ≤ v1 ∧ v1 ≤ 2147483647)) : OK (f_R_worth v1 w) (fun r u => ((-2147483648 : Int) ≤ r ∧ r ≤ 2147483647) ∧ G md_R_worth w u) := by
  unfold f_R_worth
  refine ok_lw (fun u1 e4206 => ?_)
  have g4207 : G md_R_worth w u1 := g_st hG e4206 rfl rfl (show (0 : Int) ≤ (0 : Int) ∧ (0 : Int) ≤ 1 by omega)
  refine ok_jj ?_
  refine ok_jite (fun h4210 => ?_) (fun h4211 => ?_)
  · refine ok_jsome ?_
    refine ok_jit (by decide) ?_
    refine ok_jsome ?_
    refine ok_it (by decide) ?_
    exact ok_some ⟨by omega, g4207⟩
  · have : (0 : Int) ≤ (u1 43 0) ∧ (u1 43 0) ≤ 10 := g4207.1 43 0
    have : (u1 43 0) = (w 43 0) := (congrFun (congrFun e4206 43) 0).trans (st_k (by decide))
    have : (0 : Int) ≤ (w 43 0) ∧ (w 43 0) ≤ 10 := hG.1 43 0
    have := w32_sp (((u1 43 0) - (1 : Int)))
    refine ok_jite (fun h4212 => ?_) (fun h4213 => ?_)
    · refine ok_jsome ?_
      refine ok_jit (by decide) ?_
      refine ok_jsome ?_
      refine ok_it (by decide) ?_
      exact ok_some ⟨by omega, g4207⟩
    · refine ok_jsome ?_
      refine ok_jit (by decide) ?_
      refine ok_jsome ?_
      refine ok_if (by decide) ?_
      refine ok_gd (by omega) ?_
      have : (-2147483648 : Int) ≤ (u1 47 (v1).toNat) ∧ (u1 47 (v1).toNat) ≤ 2147483647 := g4207.1 47 (v1).toNat
      have : (u1 47 (v1).toNat) = (w 47 (v1).toNat) := (congrFun (congrFun e4206 47) (v1).toNat).trans (st_c (by decide))
      have : (-2147483648 : Int) ≤ (w 47 (v1).toNat) ∧ (w 47 (v1).toNat) ≤ 2147483647 := hG.1 47 (v1).toNat
      refine ok_ite (fun h4214 => ?_) (fun h4215 => ?_)
      · refine ok_gd (by omega) ?_
        have : (0 : Int) ≤ (u1 46 (v1).toNat) ∧ (u1 46 (v1).toNat) ≤ 1 := g4207.1 46 (v1).toNat
        have : (u1 46 (v1).toNat) = (w 46 (v1).toNat) := (congrFun (congrFun e4206 46) (v1).toNat).trans (st_c (by decide))
        have : (0 : Int) ≤ (w 46 (v1).toNat) ∧ (w 46 (v1).toNat) ≤ 1 := hG.1 46 (v1).toNat
        refine ok_ite (fun h4216 => ?_) (fun h4217 => ?_)
        · refine ok_call (s_R_lastWith (g_self g4207) (by omega)) (fun r4 u5 q => ?_)
          obtain ⟨i4218, g4219⟩ := q
          have g4220 : G md_R_worth w u5 := g_tr g4207 g4219 rfl
          refine ok_ite (fun h4221 => ?_) (fun h4222 => ?_)
          · have := ishl1_n 9 (i := v1) (j := 9) (m := 512) (by decide) (by decide) (by decide) (by omega)
            refine ok_call (s_R_lastWith (g_self g4220) (by omega)) (fun r6 u7 q => ?_)
            obtain ⟨i4223, g4224⟩ := q
            have g4225 : G md_R_worth w u7 := g_tr g4220 g4224 rfl
            have := w32_sp ((r4 - r6))
            exact ok_some ⟨by omega, g4225⟩
          · exact ok_some ⟨by omega, g4220⟩
        · exact ok_some ⟨by omega, g4207⟩
      · exact ok_some ⟨by omega, g4207⟩
theorem s_R_needed_57 {b : Wd} {k21 : Int → Int → Int → Wd → Option (Int × Wd)} {Bk21 : Int} (hk21 : ∀ {w1 : Wd} {v1 v2 v3 : Int}, ((11 : Int) - v3) < Bk21 → G md_R_needed b w1 → ((0 : Int) ≤ v1 ∧ v1 ≤ 2147483647) → ((0 : Int) ≤ v2 ∧ v2 ≤ 1023) → ((0 : Int) ≤ v3 ∧ v3 ≤ 10) → OK (k21 v1 v2 v3 w1) (fun r u => ((-3 : Int) ≤ r ∧ r ≤ 1023) ∧ G md_R_needed b u)) {w : Wd} {v1 v2 v3 : Int} (hG : G md_R_needed b w) (i_v1 : ((0 : Int) ≤ v1 ∧ v1 ≤ 2147483647)) (i_v2 : ((0 : Int) ≤ v2 ∧ v2 ≤ 1023)) (i_v3 : ((0 : Int) ≤ v3 ∧ v3 ≤ 9)) (hBk21 : ((11 : Int) - v3) ≤ Bk21) : OK (f_R_needed_57 k21 v1 v2 v3 w) (fun r u => ((-3 : Int) ≤ r ∧ r ≤ 1023) ∧ G md_R_needed b u) := by
  unfold f_R_needed_57
  have := w32_sp ((v3 + (1 : Int)))
  refine ok_let (fun x8 e4226 => ?_)
  have : (1 : Int) ≤ x8 ∧ x8 ≤ 10 := by omega
  exact hk21 (by omega) hG (by omega) (by omega) (by omega)
theorem s_R_needed_21 {b : Wd} : ∀ (n : Nat) {w : Wd} {v1 v2 v3 : Int}, ((11 : Int) - v3) < (n : Int) → G md_R_needed b w → ((0 : Int) ≤ v1 ∧ v1 ≤ 2147483647) → ((0 : Int) ≤ v2 ∧ v2 ≤ 1023) → ((0 : Int) ≤ v3 ∧ v3 ≤ 10) → OK (f_R_needed_21 n v1 v2 v3 w) (fun r u => ((-3 : Int) ≤ r ∧ r ≤ 1023) ∧ G md_R_needed b u) := by
  intro n
  induction n with
  | zero =>
    intro w v1 v2 v3 hm hG i_v1 i_v2 i_v3
    exfalso
    omega
  | succ n ih =>
    intro w v1 v2 v3 hm hG i_v1 i_v2 i_v3
    rw [f_R_needed_21]
    have : (0 : Int) ≤ (w 43 0) ∧ (w 43 0) ≤ 10 := hG.1 43 0
    have : (w 43 0) = (b 43 0) := hG.2.1 43 0 rfl
    refine ok_ite (fun h4227 => ?_) (fun h4228 => ?_)
    · exact ok_some ⟨by omega, hG⟩
    · refine ok_call (s_R_free (g_self hG)) (fun r4 u5 q => ?_)
      obtain ⟨i4229, g4230⟩ := q
      have g4231 : G md_R_needed b u5 := g_tr hG g4230 rfl
      refine ok_call (s_R_has (g_self g4231) (by omega) (by omega)) (fun r6 u7 q => ?_)
      obtain ⟨i4232, g4233⟩ := q
      have g4234 : G md_R_needed b u7 := g_tr g4231 g4233 rfl
      refine ok_ite (fun h4235 => ?_) (fun h4236 => ?_)
      · exact s_R_needed_57 ih g4234 (by omega) (by omega) (by omega) (by omega)
      · have := ishl1_n 9 (i := v3) (j := 9) (m := 512) (by decide) (by decide) (by decide) (by omega)
        refine ok_call (s_R_lastWith (g_self g4234) (by omega)) (fun r9 u10 q => ?_)
        obtain ⟨i4237, g4238⟩ := q
        have g4239 : G md_R_needed b u10 := g_tr g4234 g4238 rfl
        refine ok_ite (fun h4240 => ?_) (fun h4241 => ?_)
        · exact s_R_needed_57 ih g4239 (by omega) (by omega) (by omega) (by omega)
        · have := ior_n 10 (x := v2) (y := (ishl (1 : Int) v3)) (m := 1023) (by decide) (by decide) (by omega) (by omega)
          refine ok_let (fun x11 e4242 => ?_)
          have : (0 : Int) ≤ x11 ∧ x11 ≤ 1023 := by omega
          exact s_R_needed_57 ih g4239 (by omega) (by omega) (by omega) (by omega)
theorem s_R_needed {w : Wd} (hG : G md_R_needed w w) : OK (f_R_needed w) (fun r u => ((-3 : Int) ≤ r ∧ r ≤ 1023) ∧ G md_R_needed w u) := by
  unfold f_R_needed
  refine ok_lw (fun u1 e4243 => ?_)
  have g4244 : G md_R_needed w u1 := g_st hG e4243 rfl rfl (show (0 : Int) ≤ (0 : Int) ∧ (0 : Int) ≤ 1 by omega)
  refine ok_call (s_R_lastWith (g_self g4244) (by omega)) (fun r2 u3 q => ?_)
  obtain ⟨i4245, g4246⟩ := q
  have g4247 : G md_R_needed w u3 := g_tr g4244 g4246 rfl
  refine ok_ite (fun h4248 => ?_) (fun h4249 => ?_)
  · exact s_R_needed_21 FU (by have := eqFU; omega) g4247 (by omega) (by omega) (by omega)
  · exact ok_some ⟨by omega, g4247⟩
theorem s_R_never_25 {b : Wd} : ∀ (n : Nat) {w : Wd} {v1 v2 : Int}, ((3001 : Int) - v2) < (n : Int) → G md_R_never b w → ((0 : Int) ≤ v1 ∧ v1 ≤ 1023) → ((0 : Int) ≤ v2 ∧ v2 ≤ 3000) → OK (f_R_never_25 n v1 v2 w) (fun r u => ((-3 : Int) ≤ r ∧ r ≤ 1023) ∧ G md_R_never b u) := by
  intro n
  induction n with
  | zero =>
    intro w v1 v2 hm hG i_v1 i_v2
    exfalso
    omega
  | succ n ih =>
    intro w v1 v2 hm hG i_v1 i_v2
    rw [f_R_never_25]
    have : (0 : Int) ≤ (w 43 40) ∧ (w 43 40) ≤ 3000 := hG.1 43 40
    refine ok_ite (fun h4250 => ?_) (fun h4251 => ?_)
    · exact ok_some ⟨by omega, hG⟩
    · refine ok_call (s_R_guestsIn (g_self hG) (by omega)) (fun r6 u7 q => ?_)
      obtain ⟨i4252, g4253⟩ := q
      have g4254 : G md_R_never b u7 := g_tr hG g4253 rfl
      have := ixor_m1 (x := r6) (by omega)
      have := iand_l (x := v1) (y := (ixor r6 (-1 : Int))) (by omega)
      refine ok_let (fun x8 e4255 => ?_)
      have : (0 : Int) ≤ x8 ∧ x8 ≤ 1023 := by omega
      have := w32_sp ((v2 + (1 : Int)))
      refine ok_let (fun x9 e4256 => ?_)
      have : (1 : Int) ≤ x9 ∧ x9 ≤ 3000 := by omega
      exact ih (by omega) g4254 (by omega) (by omega)
theorem s_R_never {w : Wd} (hG : G md_R_never w w) : OK (f_R_never w) (fun r u => ((-3 : Int) ≤ r ∧ r ≤ 1023) ∧ G md_R_never w u) := by
  unfold f_R_never
  refine ok_lw (fun u1 e4257 => ?_)
  have g4258 : G md_R_never w u1 := g_st hG e4257 rfl rfl (show (0 : Int) ≤ (0 : Int) ∧ (0 : Int) ≤ 1 by omega)
  refine ok_call (s_R_findStates (g_self g4258) (by omega)) (fun r2 u3 q => ?_)
  obtain ⟨i4259, g4260⟩ := q
  have g4261 : G md_R_never w u3 := g_tr g4258 g4260 rfl
  refine ok_ite (fun h4262 => ?_) (fun h4263 => ?_)
  · exact ok_some ⟨by omega, g4261⟩
  · refine ok_call (s_R_those (g_self g4261) (by omega) (by omega)) (fun r4 u5 q => ?_)
    obtain ⟨i4264, g4265⟩ := q
    have g4266 : G md_R_never w u5 := g_tr g4261 g4265 rfl
    exact s_R_never_25 FU (by have := eqFU; omega) g4266 (by omega) (by omega)
theorem s_R_bound_124 {b : Wd} {k86 : Int → Int → Int → Wd → Option (Int × Wd)} {Bk86 : Int} (hk86 : ∀ {w1 : Wd} {v2 v4 v5 : Int}, ((11 : Int) - v5) < Bk86 → G md_R_bound b w1 → ((0 : Int) ≤ v2 ∧ v2 ≤ 1023) → ((0 : Int) ≤ v4 ∧ v4 ≤ 1000000) → ((0 : Int) ≤ v5 ∧ v5 ≤ 10) → OK (k86 v2 v4 v5 w1) (fun r u => ((-2147483648 : Int) ≤ r ∧ r ≤ 2147483647) ∧ G md_R_bound b u)) {w : Wd} {v2 v4 v5 : Int} (hG : G md_R_bound b w) (i_v2 : ((0 : Int) ≤ v2 ∧ v2 ≤ 1023)) (i_v4 : ((0 : Int) ≤ v4 ∧ v4 ≤ 1000000)) (i_v5 : ((0 : Int) ≤ v5 ∧ v5 ≤ 9)) (hBk86 : ((11 : Int) - v5) ≤ Bk86) : OK (f_R_bound_124 k86 v2 v4 v5 w) (fun r u => ((-2147483648 : Int) ≤ r ∧ r ≤ 2147483647) ∧ G md_R_bound b u) := by
  unfold f_R_bound_124
  have := w32_sp ((v5 + (1 : Int)))
  refine ok_let (fun x10 e4267 => ?_)
  have : (1 : Int) ≤ x10 ∧ x10 ≤ 10 := by omega
  exact hk86 (by omega) hG (by omega) (by omega) (by omega)
theorem s_R_bound_86 {b : Wd} : ∀ (n : Nat) {w : Wd} {v2 v4 v5 : Int}, ((11 : Int) - v5) < (n : Int) → G md_R_bound b w → ((0 : Int) ≤ v2 ∧ v2 ≤ 1023) → ((0 : Int) ≤ v4 ∧ v4 ≤ 1000000) → ((0 : Int) ≤ v5 ∧ v5 ≤ 10) → OK (f_R_bound_86 n v2 v4 v5 w) (fun r u => ((-2147483648 : Int) ≤ r ∧ r ≤ 2147483647) ∧ G md_R_bound b u) := by
  intro n
  induction n with
  | zero =>
    intro w v2 v4 v5 hm hG i_v2 i_v4 i_v5
    exfalso
    omega
  | succ n ih =>
    intro w v2 v4 v5 hm hG i_v2 i_v4 i_v5
    rw [f_R_bound_86]
    have : (0 : Int) ≤ (w 43 0) ∧ (w 43 0) ≤ 10 := hG.1 43 0
    have : (w 43 0) = (b 43 0) := hG.2.1 43 0 rfl
    refine ok_ite (fun h4268 => ?_) (fun h4269 => ?_)
    · refine ok_call (s_JI_bitCount (g_self hG) (by omega)) (fun r6 u7 q => ?_)
      obtain ⟨i4270, g4271⟩ := q
      have g4272 : G md_R_bound b u7 := g_tr hG g4271 rfl
      have : (-2147483648 : Int) ≤ (w 43 10) ∧ (w 43 10) ≤ 2147483647 := hG.1 43 10
      have : (w 43 10) = (b 43 10) := hG.2.1 43 10 rfl
      have := w32_sp (((w 43 10) * r6))
      have : (-2147483648 : Int) ≤ (u7 43 10) ∧ (u7 43 10) ≤ 2147483647 := g4272.1 43 10
      have : (u7 43 10) = (w 43 10) := g4271.2.1 43 10 rfl
      have := w32_sp (((u7 43 10) - v4))
      have := imax_sp (1 : Int) (w32 ((u7 43 10) - v4))
      have := w32_sp (((w32 ((w 43 10) * r6)) + (imax (1 : Int) (w32 ((u7 43 10) - v4)))))
      have := w32_sp (((w32 ((w32 ((w 43 10) * r6)) + (imax (1 : Int) (w32 ((u7 43 10) - v4))))) - (1 : Int)))
      exact ok_some ⟨by omega, g4272⟩
    · refine ok_gd (by omega) ?_
      have : (-2147483648 : Int) ≤ (w 47 (v5).toNat) ∧ (w 47 (v5).toNat) ≤ 2147483647 := hG.1 47 (v5).toNat
      refine ok_jite (fun h4274 => ?_) (fun h4275 => ?_)
      · refine ok_jsome ?_
        refine ok_it (by decide) ?_
        exact s_R_bound_124 ih hG (by omega) (by omega) (by omega) (by omega)
      · refine ok_jite (fun h4276 => ?_) (fun h4277 => ?_)
        · refine ok_jsome ?_
          refine ok_it (by decide) ?_
          exact s_R_bound_124 ih hG (by omega) (by omega) (by omega) (by omega)
        · refine ok_jsome ?_
          refine ok_if (by decide) ?_
          refine ok_gd (by omega) ?_
          have := w32_sp (((w 47 (v5).toNat) - (1 : Int)))
          have := imin_sp v4 (w32 ((w 47 (v5).toNat) - (1 : Int)))
          refine ok_let (fun x11 e4278 => ?_)
          have : (0 : Int) ≤ x11 ∧ x11 ≤ 2 := by omega
          exact s_R_bound_124 ih hG (by omega) (by omega) (by omega) (by omega)
theorem s_R_bound_69 {b : Wd} {k24 : Int → Int → Int → Wd → Option (Int × Wd)} {Bk24 : Int} {k34 : Int → Int → Int → Int → Wd → Option (Int × Wd)} {Bk34 : Int} (hk24 : ∀ {w1 : Wd} {v1 v2 v3 : Int}, ((1025 : Int) - v3) < Bk24 → G md_R_bound b w1 → ((0 : Int) ≤ v1 ∧ v1 ≤ 1023) → ((0 : Int) ≤ v2 ∧ v2 ≤ 1023) → ((-1 : Int) ≤ v3 ∧ v3 ≤ 1023) → (v3 ≤ v2) → OK (k24 v1 v2 v3 w1) (fun r u => ((-2147483648 : Int) ≤ r ∧ r ≤ 2147483647) ∧ G md_R_bound b u)) (hk34 : ∀ {w1 : Wd} {v1 v2 v3 v4 : Int}, ((11 : Int) - v4) < Bk34 → G md_R_bound b w1 → ((0 : Int) ≤ v1 ∧ v1 ≤ 1023) → ((0 : Int) ≤ v2 ∧ v2 ≤ 1023) → ((0 : Int) ≤ v3 ∧ v3 ≤ 1023) → ((0 : Int) ≤ v4 ∧ v4 ≤ 10) → (v3 ≤ v2) → ((1026 : Int) - v3) ≤ Bk24 → OK (k34 v1 v2 v3 v4 w1) (fun r u => ((-2147483648 : Int) ≤ r ∧ r ≤ 2147483647) ∧ G md_R_bound b u)) {w : Wd} {v1 v2 v3 v4 : Int} (hG : G md_R_bound b w) (i_v1 : ((0 : Int) ≤ v1 ∧ v1 ≤ 1023)) (i_v2 : ((0 : Int) ≤ v2 ∧ v2 ≤ 1023)) (i_v3 : ((0 : Int) ≤ v3 ∧ v3 ≤ 1023)) (i_v4 : ((0 : Int) ≤ v4 ∧ v4 ≤ 9)) (a_0 : (v3 ≤ v2)) (hBk24 : ((1026 : Int) - v3) ≤ Bk24) (hBk34 : ((11 : Int) - v4) ≤ Bk34) : OK (f_R_bound_69 k24 k34 v1 v2 v3 v4 w) (fun r u => ((-2147483648 : Int) ≤ r ∧ r ≤ 2147483647) ∧ G md_R_bound b u) := by
  unfold f_R_bound_69
  have := w32_sp ((v4 + (1 : Int)))
  refine ok_let (fun x16 e4279 => ?_)
  have : (1 : Int) ≤ x16 ∧ x16 ≤ 10 := by omega
  exact hk34 (by omega) hG (by omega) (by omega) (by omega) (by omega) (by omega) (by omega)
theorem s_R_bound_34 {b : Wd} {k24 : Int → Int → Int → Wd → Option (Int × Wd)} {Bk24 : Int} (hk24 : ∀ {w1 : Wd} {v1 v2 v3 : Int}, ((1025 : Int) - v3) < Bk24 → G md_R_bound b w1 → ((0 : Int) ≤ v1 ∧ v1 ≤ 1023) → ((0 : Int) ≤ v2 ∧ v2 ≤ 1023) → ((-1 : Int) ≤ v3 ∧ v3 ≤ 1023) → (v3 ≤ v2) → OK (k24 v1 v2 v3 w1) (fun r u => ((-2147483648 : Int) ≤ r ∧ r ≤ 2147483647) ∧ G md_R_bound b u)) : ∀ (n : Nat) {w : Wd} {v1 v2 v3 v4 : Int}, ((11 : Int) - v4) < (n : Int) → G md_R_bound b w → ((0 : Int) ≤ v1 ∧ v1 ≤ 1023) → ((0 : Int) ≤ v2 ∧ v2 ≤ 1023) → ((0 : Int) ≤ v3 ∧ v3 ≤ 1023) → ((0 : Int) ≤ v4 ∧ v4 ≤ 10) → (v3 ≤ v2) → ((1026 : Int) - v3) ≤ Bk24 → OK (f_R_bound_34 k24 n v1 v2 v3 v4 w) (fun r u => ((-2147483648 : Int) ≤ r ∧ r ≤ 2147483647) ∧ G md_R_bound b u) := by
  intro n
  induction n with
  | zero =>
    intro w v1 v2 v3 v4 hm hG i_v1 i_v2 i_v3 i_v4 a_0 hBk24
    exfalso
    omega
  | succ n ih =>
    intro w v1 v2 v3 v4 hm hG i_v1 i_v2 i_v3 i_v4 a_0 hBk24
    rw [f_R_bound_34]
    have : (0 : Int) ≤ (w 43 0) ∧ (w 43 0) ≤ 10 := hG.1 43 0
    have : (w 43 0) = (b 43 0) := hG.2.1 43 0 rfl
    refine ok_ite (fun h4280 => ?_) (fun h4281 => ?_)
    · exact hk24 (by omega) hG (by omega) (by omega) (by omega) (by omega)
    · refine ok_call (s_R_guests (g_self hG)) (fun r12 u13 q => ?_)
      obtain ⟨i4282, g4283⟩ := q
      have g4284 : G md_R_bound b u13 := g_tr hG g4283 rfl
      have := ior_n 10 (x := r12) (y := v3) (m := 1023) (by decide) (by decide) (by omega) (by omega)
      have := ior_ge (x := r12) (y := v3) (by omega) (by omega)
      refine ok_call (s_R_has (g_self g4284) (by omega) (by omega)) (fun r14 u15 q => ?_)
      obtain ⟨i4285, g4286⟩ := q
      have g4287 : G md_R_bound b u15 := g_tr g4284 g4286 rfl
      refine ok_ite (fun h4288 => ?_) (fun h4289 => ?_)
      · exact s_R_bound_69 hk24 ih g4287 (by omega) (by omega) (by omega) (by omega) (by omega) (by omega) (by omega)
      · refine ok_gd (by omega) ?_
        have : (0 : Int) ≤ (u15 45 (v4).toNat) ∧ (u15 45 (v4).toNat) ≤ 1023 := g4287.1 45 (v4).toNat
        have := iand_l (x := (u15 45 (v4).toNat)) (y := v1) (by omega)
        have := iand_r (x := (u15 45 (v4).toNat)) (y := v1) (by omega)
        have := ior_n 10 (x := v2) (y := (iand (u15 45 (v4).toNat) v1)) (m := 1023) (by decide) (by decide) (by omega) (by omega)
        have := ior_ge (x := v2) (y := (iand (u15 45 (v4).toNat) v1)) (by omega) (by omega)
        refine ok_let (fun x17 e4290 => ?_)
        have : (0 : Int) ≤ x17 ∧ x17 ≤ 1023 := by omega
        exact s_R_bound_69 hk24 ih g4287 (by omega) (by omega) (by omega) (by omega) (by omega) (by omega) (by omega)
theorem s_R_bound_24 {b : Wd} : ∀ (n : Nat) {w : Wd} {v1 v2 v3 : Int}, ((1025 : Int) - v3) < (n : Int) → G md_R_bound b w → ((0 : Int) ≤ v1 ∧ v1 ≤ 1023) → ((0 : Int) ≤ v2 ∧ v2 ≤ 1023) → ((-1 : Int) ≤ v3 ∧ v3 ≤ 1023) → (v3 ≤ v2) → OK (f_R_bound_24 n v1 v2 v3 w) (fun r u => ((-2147483648 : Int) ≤ r ∧ r ≤ 2147483647) ∧ G md_R_bound b u) := by
  intro n
  induction n with
  | zero =>
    intro w v1 v2 v3 hm hG i_v1 i_v2 i_v3 a_0
    exfalso
    omega
  | succ n ih =>
    intro w v1 v2 v3 hm hG i_v1 i_v2 i_v3 a_0
    rw [f_R_bound_24]
    refine ok_ite (fun h4291 => ?_) (fun h4292 => ?_)
    · exact s_R_bound_86 FU (by have := eqFU; omega) hG (by omega) (by omega) (by omega)
    · exact s_R_bound_34 ih FU (by have := eqFU; omega) hG (by omega) (by omega) (by omega) (by omega) (by omega) (by omega)
theorem s_R_bound {w : Wd} (hG : G md_R_bound w w) : OK (f_R_bound w) (fun r u => ((-2147483648 : Int) ≤ r ∧ r ≤ 2147483647) ∧ G md_R_bound w u) := by
  unfold f_R_bound
  refine ok_lw (fun u1 e4293 => ?_)
  have g4294 : G md_R_bound w u1 := g_st hG e4293 rfl rfl (show (0 : Int) ≤ (0 : Int) ∧ (0 : Int) ≤ 1 by omega)
  refine ok_call (s_R_guests (g_self g4294)) (fun r2 u3 q => ?_)
  obtain ⟨i4295, g4296⟩ := q
  have g4297 : G md_R_bound w u3 := g_tr g4294 g4296 rfl
  refine ok_ite (fun h4298 => ?_) (fun h4299 => ?_)
  · exact ok_some ⟨by omega, g4297⟩
  · refine ok_call (s_R_free (g_self g4297)) (fun r4 u5 q => ?_)
    obtain ⟨i4300, g4301⟩ := q
    have g4302 : G md_R_bound w u5 := g_tr g4297 g4301 rfl
    exact s_R_bound_24 FU (by have := eqFU; omega) g4302 (by omega) (by omega) (by omega) (by omega)
-- <man15a>
/-! BY HAND: who was led by whom has an end -/
def Ad (w : Wd) : Prop := ∃ d : Nat → Nat, (∀ i, d i ≤ 9) ∧ ∀ i : Nat, (i : Int) < w 43 0 → w 48 i ≠ -1 → w 48 i < w 43 0 ∧ d (w 48 i).toNat < d i
theorem ad_congr {w u : Wd} (h : Ad w) (h1 : ∀ k, u 48 k = w 48 k) (h0 : u 43 0 = w 43 0) : Ad u := by
  obtain ⟨d, h2, h3⟩ := h
  exact ⟨d, h2, fun i hi hn => by rw [h1] at hn ⊢; rw [h0] at hi ⊢; exact h3 i hi hn⟩
theorem tell_ok {S : List Nat} {b w : Wd} {v : Int} (hG : G S b w) (h1 : mS S 52 99 = true) (h2 : mS S 43 15 = true) (h : w 43 15 ≤ 15) (iv : -2147483648 ≤ v ∧ v ≤ 2147483647) : OK (f_R_tell v w) (fun _ u => G S b u ∧ u 43 15 = w 43 15 + 1 ∧ ∀ c k, ¬ (c = 52 ∨ (c = 43 ∧ k = 15)) → u c k = w c k) := by
  unfold f_R_tell
  have a15 : (0 : Int) ≤ w 43 15 ∧ w 43 15 ≤ 16 := hG.1 43 15
  have hm : ∀ k, mS S 52 k = true := by
    intro k
    unfold mS at *
    rw [Bool.or_eq_true] at *
    exact Or.inl (h1.elim id (fun h => by simp at h))
  refine ok_gd (by omega) ?_
  refine ok_lw (fun u1 e1 => ?_)
  have g1 : G S b u1 := g_st hG e1 (hm _) rfl (show (-2147483648 : Int) ≤ v ∧ v ≤ 2147483647 by omega)
  have t1 : u1 43 15 = w 43 15 := (congrFun (congrFun e1 43) 15).trans (st_c (by decide))
  have w1 := w32_sp (u1 43 15 + 1)
  refine ok_lw (fun u2 e2 => ?_)
  have g2 : G S b u2 := g_st g1 e2 h2 rfl (show (0 : Int) ≤ w32 (u1 43 15 + 1) ∧ w32 (u1 43 15 + 1) ≤ 16 by omega)
  refine ok_some ⟨g2, ?_, fun c k hc => ?_⟩
  · rw [e2, st_eq]; omega
  · rw [e2, e1]
    unfold st
    rw [if_neg (fun h => hc (Or.inr h)), if_neg (fun h => hc (Or.inl h.1))]
-- </man15a>
-- <man18>
/-! BY HAND: far: the way back is found -/
def Ks (w : Wd) : Prop := ∀ a c : Nat, (a : Int) < w 43 0 → (c : Int) < w 43 0 → bt (w 45 a) c = bt (w 45 c) a
def FI (b : Wd) (fr : Int) (S : Nat → Int) : Prop := ∀ x : Nat, (x : Int) < b 43 0 → S x = 1000000 ∨ (0 ≤ S x ∧ S x ≤ 10 ∧ (S x = 0 ∨ ((∃ o : Nat, (o : Int) < b 43 0 ∧ S o = S x - 1 ∧ gst (b 47 o) = false ∧ bt (b 45 o) x = true) ∧ (gst (b 47 x) = true ∨ bt fr x = true))))
def Qf (b : Wd) : Int → Wd → Prop := fun r u => ((-2147483648 : Int) ≤ r ∧ r ≤ 2147483647) ∧ G md_R_far b u
theorem fa_396 {b : Wd} {S : Nat → Int} {k341 : Int → Int → Int → Int → Wd → Option (Int × Wd)} {v2 v3 v5 v6 : Int} {o : Nat} (ho : o ≤ 9) (h6 : bt v6 o = true) (hS : S o = v5) (hf : bt v2 o = true) {w : Wd} (hG : G md_R_far b w) (h78 : ∀ k, w 78 k = S k) (h15 : 0 ≤ w 43 15 ∧ w 43 15 + v5 ≤ 9) (i5 : 1 ≤ v5) (hk : ∀ {u : Wd} {y : Int}, G md_R_far b u → (∀ k, u 78 k = S k) → u 43 15 = w 43 15 + 1 → (0 ≤ y ∧ y ≤ 9) → S y.toNat = v5 → bt v2 y.toNat = true → OK (k341 v2 v3 (ishl 1 y) (v5 - 1) u) (Qf b)) : ∀ (n : Nat) {v7 : Int}, (o : Int) - v7 < n → (0 ≤ v7 ∧ v7 ≤ o) → OK (f_R_far_396 k341 n v2 v3 v5 v6 v7 w) (Qf b) := by
  intro n
  induction n with
  | zero => intro v7 hm i7; omega
  | succ n ih =>
    intro v7 hm i7
    rw [f_R_far_396]
    rw [has_e w (by omega), jc_s]
    have w7 := w32_sp (v7 + 1)
    have nx : v7 ≠ o → OK (f_R_far_427 k341 (f_R_far_396 k341 n) v2 v3 v5 v6 v7 w) (Qf b) := by
      intro hne
      unfold f_R_far_427
      refine ok_let (fun x12 e12 => ?_)
      exact ih (by omega) (by omega)
    have heq : v7 = (o : Int) → v7.toNat = o := fun e => by omega
    cases hb : bt v6 v7.toNat with
    | false =>
      refine ok_it (by simp) ?_
      exact nx (fun e => by rw [heq e, h6] at hb; cases hb)
    | true =>
      refine ok_if (by simp) ?_
      refine ok_gd (by omega) ?_
      refine ok_ite (fun h => ?_) (fun h => ?_)
      · rw [has_e w (by omega), jc_s]
        rw [h78] at h
        cases hb2 : bt v2 v7.toNat with
        | false =>
          refine ok_it (by simp) ?_
          exact nx (fun e => by rw [heq e, hf] at hb2; cases hb2)
        | true =>
          refine ok_if (by simp) ?_
          refine ok_call (tell_ok (v := v7) hG rfl rfl (by omega) (by omega)) (fun r15 u16 q => ?_)
          obtain ⟨g16, t16, o16⟩ := q
          refine ok_let (fun x17 e17 => ?_)
          have w5 := w32_sp (v5 + (-1))
          refine ok_let (fun x18 e18 => ?_)
          have z18 : x18 = v5 - 1 := by omega
          rw [z18, e17]
          exact hk g16 (fun k => by rw [o16 78 k (by omega)]; exact h78 k) t16 (by omega) h hb2
      · rw [h78] at h
        exact nx (fun e => h (by rw [heq e]; exact hS))
theorem fa_341 {b : Wd} {S : Nat → Int} {v2 v3 : Int} (hK : Ks b) (hF : FI b v2 S) (hfr : ∀ q : Nat, q < 10 → bt v2 q = true → (q : Int) < b 43 0) (i3 : 0 ≤ v3 ∧ v3 ≤ 10) : ∀ (n : Nat) {w : Wd} {v4 v5 : Int}, v5 < n → v5 ≤ 9 → G md_R_far b w → (∀ k, w 78 k = S k) → (0 ≤ w 43 15 ∧ (0 ≤ v5 → w 43 15 + v5 ≤ 9)) → (∃ x : Nat, (x : Int) < b 43 0 ∧ bt v4 x = true ∧ S x = v5 + 1) → 0 < n → OK (f_R_far_341 n v2 v3 v4 v5 w) (Qf b) := by
  intro n
  induction n with
  | zero => intro w v4 v5 hm i5 hG h78 h15 hx hn; omega
  | succ n ih =>
    intro w v4 v5 hm i5 hG h78 h15 hx hn
    rw [f_R_far_341]
    refine ok_ite (fun h => ?_) (fun h => ?_)
    · exact ok_some ⟨by omega, hG⟩
    · have a0 : (0 : Int) ≤ w 43 0 ∧ w 43 0 ≤ 10 := hG.1 43 0
      have b0 : w 43 0 = b 43 0 := hG.2.1 43 0 rfl
      obtain ⟨x, hxp, hxb, hxS⟩ := hx
      have hfi := hF x hxp
      obtain ⟨o, hop, hoS, hog, hok⟩ : ∃ o : Nat, (o : Int) < b 43 0 ∧ S o = S x - 1 ∧ gst (b 47 o) = false ∧ bt (b 45 o) x = true := by
        rcases hfi with h1 | ⟨h1, h2, h3 | h3⟩
        · exfalso; omega
        · exfalso; omega
        · exact h3.1
      clear hfi
      have hof : bt v2 o = true := by
        rcases hF o hop with h1 | ⟨h1, h2, h3 | h3⟩
        · exfalso; omega
        · exfalso; omega
        · rcases h3.2 with h4 | h4
          · rw [hog] at h4; cases h4
          · exact h4
      have hko : bt (b 45 x) o = true := by rw [hK x o hxp hop]; exact hok
      have lp : ∀ (m : Nat) {v6 v7 : Int}, 11 - v7 < m → (0 ≤ v7 ∧ v7 ≤ 10) → (∀ y : Nat, (y : Int) < v7 → bt v4 y = true → ∀ q, bt (b 45 y) q = true → bt v6 q = true) → OK (f_R_far_352 (f_R_far_341 n) m v2 v3 v4 v5 v6 v7 w) (Qf b) := by
        intro m
        induction m with
        | zero => intro v6 v7 hm2 i7; omega
        | succ m ih2 =>
          intro v6 v7 hm2 i7 hI
          rw [f_R_far_352]
          have w7 := w32_sp (v7 + 1)
          refine ok_ite (fun h2 => ?_) (fun h2 => ?_)
          · refine fa_396 (o := o) (by omega) (hI x (by omega) hxb o hko) (by omega) hof hG h78 (by omega) (by omega) (fun {u y} gu hu hr iy hy hyf => ?_) FU (by have := eqFU; omega) (by omega)
            have hr2 := hfr y.toNat (by omega) hyf
            refine ih (by omega) (by omega) gu hu (by omega) ⟨y.toNat, ?_, ?_, by omega⟩ (by omega)
            · exact hr2
            · rw [bt_shl (by omega) (by omega)]; simp
          · rw [has_e w (by omega), jc_s]
            have b45 : ∀ k, w 45 k = b 45 k := fun k => hG.2.1 45 k (mS_ar rfl k)
            have st : ∀ z : Int, (bt v4 v7.toNat = true → ∀ q, bt (b 45 v7.toNat) q = true → bt z q = true) → OK (f_R_far_384 (f_R_far_341 n) (f_R_far_352 (f_R_far_341 n) m) v2 v3 v4 v5 v7 v6 z w) (Qf b) := by
              intro z hz
              unfold f_R_far_384
              refine ok_let (fun x21 e21 => ?_)
              refine ok_let (fun x22 e22 => ?_)
              refine ih2 (by omega) (by omega) (fun y hy hyb q hq => ?_)
              rw [e21, bt_or]
              by_cases hyv : (y : Int) = v7
              · have : y = v7.toNat := by omega
                rw [this] at hyb hq
                rw [hz hyb q hq, Bool.or_true]
              · rw [hI y (by omega) hyb q hq, Bool.true_or]
            cases hb : bt v4 v7.toNat with
            | false =>
              refine ok_it (by simp) ?_
              exact st 0 (fun h => by rw [hb] at h; cases h)
            | true =>
              refine ok_if (by simp) ?_
              refine ok_gd (by omega) ?_
              rw [b45]
              exact st _ (fun _ q hq => hq)
      exact lp FU (by have := eqFU; omega) (by omega) (fun y hy => by omega)
theorem fa_284 {b : Wd} {S : Nat → Int} {v2 v3 : Int} (hK : Ks b) (hF : FI b v2 S) (hfr : ∀ q : Nat, q < 10 → bt v2 q = true → (q : Int) < b 43 0) (i3 : 0 ≤ v3 ∧ v3 ≤ 10) {x0 : Nat} (hx0 : (x0 : Int) < b 43 0) (hg0 : gst (b 47 x0) = true) (hS0 : S x0 = v3) : ∀ (n : Nat) {w : Wd} {v4 v5 : Int}, 11 - v5 < n → (0 ≤ v5 ∧ v5 ≤ 10) → G md_R_far b w → (∀ k, w 78 k = S k) → w 43 15 = 0 → (∀ x : Nat, (x : Int) < v5 → gst (b 47 x) = true → S x = v3 → bt v4 x = true) → OK (f_R_far_284 n v2 v3 v4 v5 w) (Qf b) := by
  intro n
  induction n with
  | zero => intro w v4 v5 hm i5; omega
  | succ n ih =>
    intro w v4 v5 hm i5 hG h78 h15 hI
    rw [f_R_far_284]
    have a0 : (0 : Int) ≤ w 43 0 ∧ w 43 0 ≤ 10 := hG.1 43 0
    have b0 : w 43 0 = b 43 0 := hG.2.1 43 0 rfl
    have w3 := w32_sp (v3 - 1)
    have w5 := w32_sp (v5 + 1)
    refine ok_ite (fun h => ?_) (fun h => ?_)
    · refine ok_let (fun x9 e9 => ?_)
      refine fa_341 hK hF hfr i3 FU (by have := eqFU; omega) (by omega) hG h78 (by omega) ⟨x0, hx0, hI x0 (by omega) hg0 hS0, by omega⟩ (by have : FU = 4000000000 := rfl; omega)
    · refine ok_gd (by omega) ?_
      have nx : ∀ z : Int, (gst (b 47 v5.toNat) = true → S v5.toNat = v3 → bt z v5.toNat = true) → OK (f_R_far_327 (f_R_far_284 n) v2 v3 v5 v4 z w) (Qf b) := by
        intro z hz
        unfold f_R_far_327
        refine ok_let (fun x25 e25 => ?_)
        refine ok_let (fun x26 e26 => ?_)
        refine ih (by omega) (by omega) hG h78 h15 (fun x hx hgx hSx => ?_)
        rw [e25, bt_or]
        by_cases hxv : (x : Int) = v5
        · have : x = v5.toNat := by omega
          rw [this] at hgx hSx ⊢
          rw [hz hgx hSx, Bool.or_true]
        · rw [hI x (by omega) hgx hSx, Bool.true_or]
      have e47 : w 47 v5.toNat = b 47 v5.toNat := hG.2.1 47 v5.toNat (mS_ar rfl _)
      rw [isG_e, jc_s, e47]
      cases hg : gst (b 47 v5.toNat) with
      | false =>
        refine ok_it (by simp) ?_
        unfold f_R_far_326
        exact nx 0 (fun h => by rw [hg] at h; cases h)
      | true =>
        refine ok_if (by simp) ?_
        refine ok_gd (by omega) ?_
        refine ok_ite (fun h2 => ?_) (fun h2 => ?_)
        · refine nx _ (fun _ _ => ?_)
          rw [bt_shl (by omega) (by omega)]; simp
        · unfold f_R_far_326
          rw [h78] at h2
          exact nx 0 (fun _ h => absurd h h2)
theorem fa_223 {b : Wd} {S : Nat → Int} {v2 : Int} (hK : Ks b) (hF : FI b v2 S) (hfr : ∀ q : Nat, q < 10 → bt v2 q = true → (q : Int) < b 43 0) : ∀ (n : Nat) {w : Wd} {v3 v4 : Int}, 11 - v4 < n → (0 ≤ v4 ∧ v4 ≤ 10) → G md_R_far b w → (∀ k, w 78 k = S k) → (v3 = 1000000 ∨ ∃ x : Nat, (x : Int) < b 43 0 ∧ gst (b 47 x) = true ∧ S x = v3) → OK (f_R_far_223 n v2 v3 v4 w) (Qf b) := by
  intro n
  induction n with
  | zero => intro w v3 v4 hm i4; omega
  | succ n ih =>
    intro w v3 v4 hm i4 hG h78 hI
    rw [f_R_far_223]
    have a0 : (0 : Int) ≤ w 43 0 ∧ w 43 0 ≤ 10 := hG.1 43 0
    have b0 : w 43 0 = b 43 0 := hG.2.1 43 0 rfl
    have w4 := w32_sp (v4 + 1)
    refine ok_ite (fun h => ?_) (fun h => ?_)
    · refine ok_ite (fun h2 => ?_) (fun h2 => ?_)
      · exact ok_some ⟨by omega, hG⟩
      · obtain ⟨x0, hx0, hg0, hS0⟩ := hI.resolve_left h2
        have i3 : 0 ≤ v3 ∧ v3 ≤ 10 := by
          rcases hF x0 hx0 with h1 | ⟨h1, h3, _⟩
          · exfalso; omega
          · omega
        refine ok_lw (fun u8 e8 => ?_)
        have g8 : G md_R_far b u8 := g_st hG e8 rfl rfl (show (0 : Int) ≤ 0 ∧ (0 : Int) ≤ 16 by decide)
        refine fa_284 hK hF hfr i3 hx0 hg0 hS0 FU (by have := eqFU; omega) (by omega) g8 (fun k => ?_) ?_ (fun x hx => by omega)
        · rw [e8, st_c (by decide)]; exact h78 k
        · rw [e8, st_eq]
    · refine ok_gd (by omega) ?_
      have e47 : w 47 v4.toNat = b 47 v4.toNat := hG.2.1 47 v4.toNat (mS_ar rfl _)
      rw [isG_e, jc_s, e47]
      have nx : ∀ z : Int, (z = 1000000 ∨ ∃ x : Nat, (x : Int) < b 43 0 ∧ gst (b 47 x) = true ∧ S x = z) → OK (f_R_far_257 (f_R_far_223 n) v2 z v4 w) (Qf b) := by
        intro z hz
        unfold f_R_far_257
        refine ok_let (fun x29 e29 => ?_)
        have f1 : 11 - x29 < (n : Int) := by clear hz hI; omega
        have f2 : 0 ≤ x29 ∧ x29 ≤ 10 := by clear hz hI; omega
        exact ih f1 f2 hG h78 hz
      cases hg : gst (b 47 v4.toNat) with
      | false =>
        refine ok_it (by simp) ?_
        exact nx v3 hI
      | true =>
        refine ok_if (by simp) ?_
        refine ok_gd (by omega) ?_
        have mn := imin_sp v3 (w 78 v4.toNat)
        refine ok_let (fun x30 e30 => ?_)
        rw [h78] at mn e30
        rcases mn with ⟨_, h3⟩ | ⟨_, h3⟩
        · rw [e30, h3]
          exact nx _ (Or.inr ⟨v4.toNat, by clear hI; omega, hg, rfl⟩)
        · rw [e30, h3]
          exact nx v3 hI
theorem fi_set {b : Wd} {fr : Int} {S S' : Nat → Int} {to o : Nat} {n : Int} (hF : FI b fr S) (hto : S to = 1000000) (hn : 0 ≤ n ∧ n ≤ 9) (hop : (o : Int) < b 43 0) (hoS : S o = n) (hog : gst (b 47 o) = false) (hok : bt (b 45 o) to = true) (hg : gst (b 47 to) = true ∨ bt fr to = true) (hS' : ∀ k, S' k = if k = to then n + 1 else S k) : FI b fr S' := by
  intro x hx
  by_cases hxt : x = to
  · refine Or.inr ?_
    rw [hS', if_pos hxt]
    refine ⟨by omega, by omega, Or.inr ⟨⟨o, hop, ?_, hog, by rw [hxt]; exact hok⟩, by rw [hxt]; exact hg⟩⟩
    have hne : o ≠ to := fun e => by rw [e, hto] at hoS; omega
    rw [hS', if_neg hne]; omega
  · rw [hS', if_neg hxt]
    rcases hF x hx with h1 | ⟨h1, h2, h3⟩
    · exact Or.inl h1
    · refine Or.inr ⟨h1, h2, ?_⟩
      rcases h3 with h3 | ⟨⟨o2, q1, q2, q3, q4⟩, q5⟩
      · exact Or.inl h3
      · refine Or.inr ⟨⟨o2, q1, ?_, q3, q4⟩, q5⟩
        have hne : o2 ≠ to := fun e => by rw [e, hto] at q2; omega
        rw [hS', if_neg hne]; exact q2
theorem fa_79 {b : Wd} {v2 : Int} (hK : Ks b) (hfr : ∀ q : Nat, q < 10 → bt v2 q = true → (q : Int) < b 43 0) : ∀ (n : Nat) {w : Wd} {v3 : Int}, 11 - v3 < n → (0 ≤ v3 ∧ v3 ≤ 10) → G md_R_far b w → FI b v2 (w 78) → OK (f_R_far_79 n v2 v3 w) (Qf b) := by
  intro n
  induction n with
  | zero => intro w v3 hm i3; omega
  | succ n ih =>
    intro w v3 hm i3 hG hF
    rw [f_R_far_79]
    have a0 : (0 : Int) ≤ w 43 0 ∧ w 43 0 ≤ 10 := hG.1 43 0
    have b0 : w 43 0 = b 43 0 := hG.2.1 43 0 rfl
    have w3 := w32_sp (v3 + 1)
    refine ok_ite (fun h => ?_) (fun h => ?_)
    · exact fa_223 hK hF hfr FU (by have := eqFU; omega) (by omega) hG (fun _ => rfl) (Or.inl rfl)
    · have lp : ∀ (m : Nat) {w : Wd} {v4 : Int}, 11 - v4 < m → (0 ≤ v4 ∧ v4 ≤ 10) → G md_R_far b w → FI b v2 (w 78) → OK (f_R_far_90 (f_R_far_79 n) m v2 v3 v4 w) (Qf b) := by
        intro m
        induction m with
        | zero => intro w v4 hm2 i4; omega
        | succ m ih2 =>
          intro w v4 hm2 i4 hG2 hF2
          rw [f_R_far_90]
          have a0' : (0 : Int) ≤ w 43 0 ∧ w 43 0 ≤ 10 := hG2.1 43 0
          have b0' : w 43 0 = b 43 0 := hG2.2.1 43 0 rfl
          have w4 := w32_sp (v4 + 1)
          refine ok_ite (fun h2 => ?_) (fun h2 => ?_)
          · refine ok_let (fun x31 e31 => ?_)
            exact ih (by omega) (by omega) hG2 hF2
          · have nx : ∀ {u : Wd}, G md_R_far b u → FI b v2 (u 78) → OK (f_R_far_204 (f_R_far_79 n) (f_R_far_90 (f_R_far_79 n) m) v2 v3 v4 u) (Qf b) := by
              intro u gu hu
              unfold f_R_far_204
              refine ok_let (fun x32 e32 => ?_)
              exact ih2 (by omega) (by omega) gu hu
            refine ok_gd (by omega) ?_
            refine ok_ite (fun h3 => ?_) (fun h3 => ?_)
            · refine ok_gd (by omega) ?_
              have e47 : w 47 v4.toNat = b 47 v4.toNat := hG2.2.1 47 v4.toNat (mS_ar rfl _)
              rw [isG_e, jc_s, e47]
              cases hg : gst (b 47 v4.toNat) with
              | true =>
                refine ok_if (by simp) ?_
                exact nx hG2 hF2
              | false =>
                refine ok_it (by simp) ?_
                have lp2 : ∀ (j : Nat) {w : Wd} {v5 : Int}, 11 - v5 < j → (0 ≤ v5 ∧ v5 ≤ 10) → G md_R_far b w → FI b v2 (w 78) → w 78 v4.toNat = v3 → OK (f_R_far_129 (f_R_far_79 n) (f_R_far_90 (f_R_far_79 n) m) j v2 v3 v4 v5 w) (Qf b) := by
                  intro j
                  induction j with
                  | zero => intro w v5 hm3 i5; omega
                  | succ j ih3 =>
                    intro w v5 hm3 i5 hG3 hF3 h4
                    rw [f_R_far_129]
                    have a0'' : (0 : Int) ≤ w 43 0 ∧ w 43 0 ≤ 10 := hG3.1 43 0
                    have b0'' : w 43 0 = b 43 0 := hG3.2.1 43 0 rfl
                    have w5 := w32_sp (v5 + 1)
                    refine ok_ite (fun h5 => ?_) (fun h5 => ?_)
                    · exact nx hG3 hF3
                    · have n3 : ∀ {u : Wd}, G md_R_far b u → FI b v2 (u 78) → u 78 v4.toNat = v3 → OK (f_R_far_198 (f_R_far_79 n) (f_R_far_90 (f_R_far_79 n) m) (f_R_far_129 (f_R_far_79 n) (f_R_far_90 (f_R_far_79 n) m) j) v2 v3 v4 v5 u) (Qf b) := by
                        intro u gu hu h4u
                        unfold f_R_far_198
                        refine ok_let (fun x37 e37 => ?_)
                        exact ih3 (by omega) (by omega) gu hu h4u
                      refine ok_gd (by omega) ?_
                      rw [has_e w (by omega), jc_s]
                      have e45 : w 45 v4.toNat = b 45 v4.toNat := hG3.2.1 45 v4.toNat (mS_ar rfl _)
                      cases hb : bt (w 45 v4.toNat) v5.toNat with
                      | false =>
                        refine ok_it (by simp) ?_
                        exact n3 hG3 hF3 h4
                      | true =>
                        refine ok_if (by simp) ?_
                        refine ok_gd (by omega) ?_
                        refine ok_ite (fun h6 => ?_) (fun h6 => ?_)
                        · have set : (gst (b 47 v5.toNat) = true ∨ bt v2 v5.toNat = true) → OK (f_R_far_188 (f_R_far_79 n) (f_R_far_90 (f_R_far_79 n) m) (f_R_far_129 (f_R_far_79 n) (f_R_far_90 (f_R_far_79 n) m) j) v2 v3 v4 v5 w) (Qf b) := by
                            intro hor
                            unfold f_R_far_188
                            refine ok_gd (by clear hor; omega) ?_
                            have z1 : w32 (v3 + 1) = v3 + 1 := by clear hor; omega
                            rw [z1]
                            have iz : (0 : Int) ≤ v3 + 1 ∧ v3 + 1 ≤ 1000000 := by clear hor; omega
                            refine ok_lw (fun u40 e40 => ?_)
                            have g40 : G md_R_far b u40 := g_st hG3 e40 rfl rfl iz
                            have t40 : ∀ k, u40 78 k = if k = v5.toNat then v3 + 1 else w 78 k := fun k => by
                              rw [e40]
                              by_cases hk : k = v5.toNat
                              · rw [if_pos hk, hk, st_eq]
                              · rw [if_neg hk, st_k hk]
                            refine n3 g40 (fi_set hF3 h6 (by clear hor; omega) (o := v4.toNat) (by clear hor; omega) h4 hg (by rw [← e45]; exact hb) hor t40) ?_
                            have hne : v4.toNat ≠ v5.toNat := fun e => by rw [← e, h4] at h6; clear hor; omega
                            rw [t40, if_neg hne]; exact h4
                          rw [has_e w (by omega), jc_s]
                          cases hb2 : bt v2 v5.toNat with
                          | true =>
                            refine ok_if (by simp) ?_
                            exact set (Or.inr hb2)
                          | false =>
                            refine ok_it (by simp) ?_
                            refine ok_gd (by omega) ?_
                            have e47' : w 47 v5.toNat = b 47 v5.toNat := hG3.2.1 47 v5.toNat (mS_ar rfl _)
                            rw [isG_e, jc_s, e47']
                            cases hg5 : gst (b 47 v5.toNat) with
                            | false =>
                              refine ok_it (by simp) ?_
                              exact n3 hG3 hF3 h4
                            | true =>
                              refine ok_if (by simp) ?_
                              exact set (Or.inl hg5)
                        · exact n3 hG3 hF3 h4
                exact lp2 FU (by have := eqFU; omega) (by omega) hG2 hF2 h3
            · exact nx hG2 hF2
      exact lp FU (by have := eqFU; omega) (by omega) hG hF
theorem fa_45 {b : Wd} {v1 v2 : Int} (i1 : 0 ≤ v1 ∧ v1 ≤ 9) (hK : Ks b) (hfr : ∀ q : Nat, q < 10 → bt v2 q = true → (q : Int) < b 43 0) : ∀ (n : Nat) {w : Wd} {v3 : Int}, 11 - v3 < n → (0 ≤ v3 ∧ v3 ≤ 10) → G md_R_far b w → (∀ x : Nat, (x : Int) < v3 → w 78 x = 0 ∨ w 78 x = 1000000) → OK (f_R_far_45 n v1 v2 v3 w) (Qf b) := by
  intro n
  induction n with
  | zero => intro w v3 hm i3; omega
  | succ n ih =>
    intro w v3 hm i3 hG hI
    rw [f_R_far_45]
    have a0 : (0 : Int) ≤ w 43 0 ∧ w 43 0 ≤ 10 := hG.1 43 0
    have b0 : w 43 0 = b 43 0 := hG.2.1 43 0 rfl
    have w3 := w32_sp (v3 + 1)
    refine ok_ite (fun h => ?_) (fun h => ?_)
    · refine fa_79 hK hfr FU (by have := eqFU; omega) (by omega) hG (fun x hx => ?_)
      rcases hI x (by omega) with h1 | h1
      · exact Or.inr ⟨by omega, by omega, Or.inl h1⟩
      · exact Or.inl h1
    · have nx : ∀ z : Int, (z = 0 ∨ z = 1000000) → OK (f_R_far_70 (f_R_far_45 n) v1 v2 v3 v3 z w) (Qf b) := by
        intro z hz
        unfold f_R_far_70
        refine ok_gd (by omega) ?_
        refine ok_lw (fun u43 e43 => ?_)
        have g43 : G md_R_far b u43 := g_st hG e43 rfl rfl (show (0 : Int) ≤ z ∧ z ≤ 1000000 by omega)
        refine ok_let (fun x44 e44 => ?_)
        refine ih (by omega) (by omega) g43 (fun x hx => ?_)
        rw [e43]
        by_cases hxv : x = v3.toNat
        · rw [hxv, st_eq]; exact hz
        · rw [st_k hxv]; exact hI x (by omega)
      refine ok_ite (fun _ => nx 0 (Or.inl rfl)) (fun _ => nx 1000000 (Or.inr rfl))
theorem g_nil {b u : Wd} (h : G [] b u) : u = b := by
  funext c k
  refine h.2.1 c k ?_
  unfold mS
  simp
theorem th_5 {w : Wd} {v1 v2 : Int} (hG : G md_R_those w w) : ∀ (n : Nat) {v3 v4 : Int}, 11 - v4 < n → (0 ≤ v4 ∧ v4 ≤ 10) → (0 ≤ v3 ∧ v3 ≤ 1023) → (∀ q : Nat, q < 10 → bt v3 q = true → (q : Int) < w 43 0) → OK (f_R_those_5 n v1 v2 v3 v4 w) (fun r u => ((0 : Int) ≤ r ∧ r ≤ 1023) ∧ u = w ∧ ∀ q : Nat, q < 10 → bt r q = true → (q : Int) < w 43 0) := by
  intro n
  induction n with
  | zero => intro v3 v4 hm i4; omega
  | succ n ih =>
    intro v3 v4 hm i4 i3 hI
    rw [f_R_those_5]
    have a0 : (0 : Int) ≤ w 43 0 ∧ w 43 0 ≤ 10 := hG.1 43 0
    have w4 := w32_sp (v4 + 1)
    refine ok_ite (fun h => ?_) (fun h => ?_)
    · exact ok_some ⟨i3, rfl, hI⟩
    · refine ok_gd (by omega) ?_
      have nx : ∀ z : Int, (0 ≤ z ∧ z ≤ 1023) → (∀ q : Nat, q < 10 → bt z q = true → (q : Int) < w 43 0) → OK (f_R_those_38 (f_R_those_5 n) v1 v2 v4 v3 z w) (fun r u => ((0 : Int) ≤ r ∧ r ≤ 1023) ∧ u = w ∧ ∀ q : Nat, q < 10 → bt r q = true → (q : Int) < w 43 0) := by
        intro z iz hz
        unfold f_R_those_38
        have hr := ior_n 10 (x := v3) (y := z) (m := 1023) (by decide) (by decide) i3 iz
        refine ok_let (fun x3 e3 => ?_)
        refine ok_let (fun x4 e4 => ?_)
        refine ih (by omega) (by omega) (by omega) (fun q hq hb => ?_)
        rw [e3, bt_or] at hb
        cases hb3 : bt v3 q with
        | true => exact hI q hq hb3
        | false =>
          rw [hb3, Bool.false_or] at hb
          exact hz q hq hb
      have s1 := ishl1_n 9 (i := v4) (j := 9) (m := 512) (by decide) (by decide) (by decide) (by omega)
      have z0 : OK (f_R_those_38 (f_R_those_5 n) v1 v2 v4 v3 0 w) (fun r u => ((0 : Int) ≤ r ∧ r ≤ 1023) ∧ u = w ∧ ∀ q : Nat, q < 10 → bt r q = true → (q : Int) < w 43 0) := nx 0 (by decide) (fun q _ hb => by rw [bt_0] at hb; cases hb)
      unfold f_R_in
      refine ok_jite (fun _ => ?_) (fun _ => ?_)
      · exact z0
      · refine ok_jite (fun _ => ?_) (fun _ => ?_)
        · exact z0
        · refine nx _ (by omega) (fun q hq hb => ?_)
          rw [bt_shl (by omega) (by omega)] at hb
          have : q = v4.toNat := by simpa using hb
          omega
theorem fr_ok {w : Wd} {S : List Nat} {b : Wd} (hG : G S b w) : OK (f_R_free w) (fun r u => ((0 : Int) ≤ r ∧ r ≤ 1023) ∧ u = w ∧ ∀ q : Nat, q < 10 → bt r q = true → (q : Int) < w 43 0) := by
  unfold f_R_free
  unfold f_R_those
  refine ok_call (th_5 (g_self hG) FU (by have := eqFU; omega) (by omega) (by decide) (fun q _ hb => by rw [bt_0] at hb; cases hb)) (fun r1 u2 q => ?_)
  obtain ⟨i1, eu, h1⟩ := q
  subst eu
  refine ok_call (s_R_hidden (g_self hG)) (fun r3 u4 q => ?_)
  obtain ⟨i3, gy⟩ := q
  have e4 : u4 = u2 := g_nil gy
  subst e4
  have := iand_l (x := r1) (y := ixor r3 (-1)) (by omega)
  refine ok_some ⟨by omega, rfl, fun q hq hb => ?_⟩
  rw [bt_and] at hb
  cases hb1 : bt r1 q with
  | true => exact h1 q hq hb1
  | false => rw [hb1] at hb; simp at hb
theorem s_R_far {w : Wd} {v1 : Int} (hK : Ks w) (hG : G md_R_far w w) (i_v1 : ((-2147483648 : Int) ≤ v1 ∧ v1 ≤ 2147483647)) : OK (f_R_far v1 w) (Qf w) := by
  unfold f_R_far
  refine ok_lw (fun u1 e4397 => ?_)
  have g4398 : G md_R_far w u1 := g_st hG e4397 rfl rfl (show (0 : Int) ≤ (0 : Int) ∧ (0 : Int) ≤ 1 by omega)
  refine ok_jj ?_
  refine ok_jite (fun h4401 => ?_) (fun h4402 => ?_)
  · refine ok_jsome ?_
    refine ok_jit (by decide) ?_
    refine ok_jsome ?_
    refine ok_it (by decide) ?_
    exact ok_some ⟨by omega, g4398⟩
  · have : (0 : Int) ≤ (u1 43 0) ∧ (u1 43 0) ≤ 10 := g4398.1 43 0
    have : (u1 43 0) = (w 43 0) := (congrFun (congrFun e4397 43) 0).trans (st_k (by decide))
    have : (0 : Int) ≤ (w 43 0) ∧ (w 43 0) ≤ 10 := hG.1 43 0
    have := w32_sp (((u1 43 0) - (1 : Int)))
    refine ok_jite (fun h4403 => ?_) (fun h4404 => ?_)
    · refine ok_jsome ?_
      refine ok_jit (by decide) ?_
      refine ok_jsome ?_
      refine ok_it (by decide) ?_
      exact ok_some ⟨by omega, g4398⟩
    · refine ok_jsome ?_
      refine ok_jit (by decide) ?_
      refine ok_jsome ?_
      refine ok_if (by decide) ?_
      refine ok_call (fr_ok g4398) (fun r4 u5 q => ?_)
      obtain ⟨i4405, eu, hfr⟩ := q
      subst eu
      have g4407 := g4398
      have e0 : u5 43 0 = w 43 0 := (congrFun (congrFun e4397 43) 0).trans (st_k (by decide))
      have hfr' : ∀ q : Nat, q < 10 → bt r4 q = true → (q : Int) < w 43 0 := fun q hq hb => by rw [← e0]; exact hfr q hq hb
      have fin : OK (f_R_far_43 v1 r4 u5) (Qf w) := by
        unfold f_R_far_43
        exact fa_45 (by omega) hK hfr' FU (by have := eqFU; omega) (by omega) g4407 (fun x hx => by omega)
      refine ok_gd (by omega) ?_
      rw [isG_e, jc_s]
      cases hg : gst (u5 47 v1.toNat) with
      | false =>
        refine ok_it (by simp) ?_
        rw [has_e u5 (by omega), jc_s]
        cases hb : bt r4 v1.toNat with
        | false =>
          refine ok_it (by simp) ?_
          exact ok_some ⟨by omega, g4407⟩
        | true =>
          refine ok_if (by simp) ?_
          exact fin
      | true =>
        refine ok_if (by simp) ?_
        exact fin
-- </man18>
theorem s_R_ledBy_66 {b : Wd} {k4 : Int → Int → Int → Wd → Option (Int × Wd)} {Bk4 : Int} {k14 : Int → Int → Int → Int → Wd → Option (Int × Wd)} {Bk14 : Int} (hk4 : ∀ {w1 : Wd} {v1 v2 v3 : Int}, ((1025 : Int) - v3) < Bk4 → G md_R_ledBy b w1 → ((0 : Int) ≤ v1 ∧ v1 ≤ 9) → ((0 : Int) ≤ v2 ∧ v2 ≤ 1023) → ((-1 : Int) ≤ v3 ∧ v3 ≤ 1023) → (v3 ≤ v2) → OK (k4 v1 v2 v3 w1) (fun r u => ((0 : Int) ≤ r ∧ r ≤ 1023) ∧ G md_R_ledBy b u)) (hk14 : ∀ {w1 : Wd} {v1 v2 v3 v4 : Int}, ((11 : Int) - v4) < Bk14 → G md_R_ledBy b w1 → ((0 : Int) ≤ v1 ∧ v1 ≤ 9) → ((0 : Int) ≤ v2 ∧ v2 ≤ 1023) → ((0 : Int) ≤ v3 ∧ v3 ≤ 1023) → ((0 : Int) ≤ v4 ∧ v4 ≤ 10) → (v3 ≤ v2) → ((1026 : Int) - v3) ≤ Bk4 → OK (k14 v1 v2 v3 v4 w1) (fun r u => ((0 : Int) ≤ r ∧ r ≤ 1023) ∧ G md_R_ledBy b u)) {w : Wd} {v1 v2 v3 v4 : Int} (hG : G md_R_ledBy b w) (i_v1 : ((0 : Int) ≤ v1 ∧ v1 ≤ 9)) (i_v2 : ((0 : Int) ≤ v2 ∧ v2 ≤ 1023)) (i_v3 : ((0 : Int) ≤ v3 ∧ v3 ≤ 1023)) (i_v4 : ((0 : Int) ≤ v4 ∧ v4 ≤ 9)) (a_0 : (v3 ≤ v2)) (hBk4 : ((1026 : Int) - v3) ≤ Bk4) (hBk14 : ((11 : Int) - v4) ≤ Bk14) : OK (f_R_ledBy_66 k4 k14 v1 v2 v3 v4 w) (fun r u => ((0 : Int) ≤ r ∧ r ≤ 1023) ∧ G md_R_ledBy b u) := by
  unfold f_R_ledBy_66
  have := w32_sp ((v4 + (1 : Int)))
  refine ok_let (fun x1 e4303 => ?_)
  have : (1 : Int) ≤ x1 ∧ x1 ≤ 10 := by omega
  exact hk14 (by omega) hG (by omega) (by omega) (by omega) (by omega) (by omega) (by omega)
theorem s_R_ledBy_59 {b : Wd} {k4 : Int → Int → Int → Wd → Option (Int × Wd)} {Bk4 : Int} {k14 : Int → Int → Int → Int → Wd → Option (Int × Wd)} {Bk14 : Int} (hk4 : ∀ {w1 : Wd} {v1 v2 v3 : Int}, ((1025 : Int) - v3) < Bk4 → G md_R_ledBy b w1 → ((0 : Int) ≤ v1 ∧ v1 ≤ 9) → ((0 : Int) ≤ v2 ∧ v2 ≤ 1023) → ((-1 : Int) ≤ v3 ∧ v3 ≤ 1023) → (v3 ≤ v2) → OK (k4 v1 v2 v3 w1) (fun r u => ((0 : Int) ≤ r ∧ r ≤ 1023) ∧ G md_R_ledBy b u)) (hk14 : ∀ {w1 : Wd} {v1 v2 v3 v4 : Int}, ((11 : Int) - v4) < Bk14 → G md_R_ledBy b w1 → ((0 : Int) ≤ v1 ∧ v1 ≤ 9) → ((0 : Int) ≤ v2 ∧ v2 ≤ 1023) → ((0 : Int) ≤ v3 ∧ v3 ≤ 1023) → ((0 : Int) ≤ v4 ∧ v4 ≤ 10) → (v3 ≤ v2) → ((1026 : Int) - v3) ≤ Bk4 → OK (k14 v1 v2 v3 v4 w1) (fun r u => ((0 : Int) ≤ r ∧ r ≤ 1023) ∧ G md_R_ledBy b u)) {w : Wd} {v1 v2 v3 v4 : Int} (hG : G md_R_ledBy b w) (i_v1 : ((0 : Int) ≤ v1 ∧ v1 ≤ 9)) (i_v2 : ((0 : Int) ≤ v2 ∧ v2 ≤ 1023)) (i_v3 : ((0 : Int) ≤ v3 ∧ v3 ≤ 1023)) (i_v4 : ((0 : Int) ≤ v4 ∧ v4 ≤ 9)) (a_0 : (v3 ≤ v2)) (hBk4 : ((1026 : Int) - v3) ≤ Bk4) (hBk14 : ((11 : Int) - v4) ≤ Bk14) : OK (f_R_ledBy_59 k4 k14 v1 v2 v3 v4 w) (fun r u => ((0 : Int) ≤ r ∧ r ≤ 1023) ∧ G md_R_ledBy b u) := by
  unfold f_R_ledBy_59
  have := ishl1_n 9 (i := v4) (j := 9) (m := 512) (by decide) (by decide) (by decide) (by omega)
  have := ior_n 10 (x := v2) (y := (ishl (1 : Int) v4)) (m := 1023) (by decide) (by decide) (by omega) (by omega)
  have := ior_ge (x := v2) (y := (ishl (1 : Int) v4)) (by omega) (by omega)
  refine ok_let (fun x2 e4304 => ?_)
  have : (0 : Int) ≤ x2 ∧ x2 ≤ 1023 := by omega
  exact s_R_ledBy_66 hk4 hk14 hG (by omega) (by omega) (by omega) (by omega) (by omega) (by omega) (by omega)
theorem s_R_ledBy_14 {b : Wd} {k4 : Int → Int → Int → Wd → Option (Int × Wd)} {Bk4 : Int} (hk4 : ∀ {w1 : Wd} {v1 v2 v3 : Int}, ((1025 : Int) - v3) < Bk4 → G md_R_ledBy b w1 → ((0 : Int) ≤ v1 ∧ v1 ≤ 9) → ((0 : Int) ≤ v2 ∧ v2 ≤ 1023) → ((-1 : Int) ≤ v3 ∧ v3 ≤ 1023) → (v3 ≤ v2) → OK (k4 v1 v2 v3 w1) (fun r u => ((0 : Int) ≤ r ∧ r ≤ 1023) ∧ G md_R_ledBy b u)) : ∀ (n : Nat) {w : Wd} {v1 v2 v3 v4 : Int}, ((11 : Int) - v4) < (n : Int) → G md_R_ledBy b w → ((0 : Int) ≤ v1 ∧ v1 ≤ 9) → ((0 : Int) ≤ v2 ∧ v2 ≤ 1023) → ((0 : Int) ≤ v3 ∧ v3 ≤ 1023) → ((0 : Int) ≤ v4 ∧ v4 ≤ 10) → (v3 ≤ v2) → ((1026 : Int) - v3) ≤ Bk4 → OK (f_R_ledBy_14 k4 n v1 v2 v3 v4 w) (fun r u => ((0 : Int) ≤ r ∧ r ≤ 1023) ∧ G md_R_ledBy b u) := by
  intro n
  induction n with
  | zero =>
    intro w v1 v2 v3 v4 hm hG i_v1 i_v2 i_v3 i_v4 a_0 hBk4
    exfalso
    omega
  | succ n ih =>
    intro w v1 v2 v3 v4 hm hG i_v1 i_v2 i_v3 i_v4 a_0 hBk4
    rw [f_R_ledBy_14]
    have : (0 : Int) ≤ (w 43 0) ∧ (w 43 0) ≤ 10 := hG.1 43 0
    have : (w 43 0) = (b 43 0) := hG.2.1 43 0 rfl
    refine ok_ite (fun h4305 => ?_) (fun h4306 => ?_)
    · exact hk4 (by omega) hG (by omega) (by omega) (by omega) (by omega)
    · refine ok_gd (by omega) ?_
      have : (-1 : Int) ≤ (w 48 (v4).toNat) ∧ (w 48 (v4).toNat) ≤ 9 := hG.1 48 (v4).toNat
      refine ok_ite (fun h4307 => ?_) (fun h4308 => ?_)
      · exact s_R_ledBy_66 hk4 ih hG (by omega) (by omega) (by omega) (by omega) (by omega) (by omega) (by omega)
      · refine ok_gd (by omega) ?_
        refine ok_ite (fun h4309 => ?_) (fun h4310 => ?_)
        · exact s_R_ledBy_59 hk4 ih hG (by omega) (by omega) (by omega) (by omega) (by omega) (by omega) (by omega)
        · refine ok_gd (by omega) ?_
          refine ok_call (s_R_has (g_self hG) (by omega) (by omega)) (fun r3 u4 q => ?_)
          obtain ⟨i4311, g4312⟩ := q
          have g4313 : G md_R_ledBy b u4 := g_tr hG g4312 rfl
          refine ok_ite (fun h4314 => ?_) (fun h4315 => ?_)
          · exact s_R_ledBy_66 hk4 ih g4313 (by omega) (by omega) (by omega) (by omega) (by omega) (by omega) (by omega)
          · exact s_R_ledBy_59 hk4 ih g4313 (by omega) (by omega) (by omega) (by omega) (by omega) (by omega) (by omega)
theorem s_R_ledBy_4 {b : Wd} : ∀ (n : Nat) {w : Wd} {v1 v2 v3 : Int}, ((1025 : Int) - v3) < (n : Int) → G md_R_ledBy b w → ((0 : Int) ≤ v1 ∧ v1 ≤ 9) → ((0 : Int) ≤ v2 ∧ v2 ≤ 1023) → ((-1 : Int) ≤ v3 ∧ v3 ≤ 1023) → (v3 ≤ v2) → OK (f_R_ledBy_4 n v1 v2 v3 w) (fun r u => ((0 : Int) ≤ r ∧ r ≤ 1023) ∧ G md_R_ledBy b u) := by
  intro n
  induction n with
  | zero =>
    intro w v1 v2 v3 hm hG i_v1 i_v2 i_v3 a_0
    exfalso
    omega
  | succ n ih =>
    intro w v1 v2 v3 hm hG i_v1 i_v2 i_v3 a_0
    rw [f_R_ledBy_4]
    refine ok_ite (fun h4316 => ?_) (fun h4317 => ?_)
    · exact ok_some ⟨by omega, hG⟩
    · exact s_R_ledBy_14 ih FU (by have := eqFU; omega) hG (by omega) (by omega) (by omega) (by omega) (by omega) (by omega)
theorem s_R_ledBy {w : Wd} {v1 : Int} (hG : G md_R_ledBy w w) (i_v1 : ((0 : Int) ≤ v1 ∧ v1 ≤ 9)) : OK (f_R_ledBy v1 w) (fun r u => ((0 : Int) ≤ r ∧ r ≤ 1023) ∧ G md_R_ledBy w u) := by
  unfold f_R_ledBy
  exact s_R_ledBy_4 FU (by have := eqFU; omega) hG (by omega) (by omega) (by omega) (by omega)
-- <man16>
def anc (f : Nat → Int) (v : Int) : Nat → Int
  | 0 => v
  | n + 1 => f (anc f v n).toNat
theorem ln_59 {b : Wd} {v1 v2 v3 : Int} (f : Nat → Int) (i2 : 0 ≤ v2 ∧ v2 ≤ 9) (i3 : 1 ≤ v3 ∧ v3 ≤ v2) (hf : ∀ j : Nat, (j : Int) ≤ v2 → 0 ≤ anc f v1 j ∧ anc f v1 j ≤ 9) {k49 : Int → Int → Int → Wd → Option (Int × Wd)} {w : Wd} (hG : G md_R_line b w) (h48 : ∀ k, w 48 k = f k) (h15 : w 43 15 = v2 - v3) (hk : ∀ {u : Wd}, G md_R_line b u → (∀ k, u 48 k = f k) → u 43 15 = v2 - (v3 - 1) → OK (k49 v1 v2 (v3 - 1) u) (fun r u => ((0 : Int) ≤ r ∧ r ≤ 9) ∧ G md_R_line b u)) : ∀ (n : Nat) {v4 v5 : Int}, v3 - v5 < n → (0 ≤ v5 ∧ v5 ≤ v3) → v4 = anc f v1 v5.toNat → OK (f_R_line_59 k49 n v1 v2 v3 v4 v5 w) (fun r u => ((0 : Int) ≤ r ∧ r ≤ 9) ∧ G md_R_line b u) := by
  intro n
  induction n with
  | zero => intro v4 v5 hm i5; omega
  | succ n ih =>
    intro v4 v5 hm i5 h4
    rw [f_R_line_59]
    have a4 := hf v5.toNat (by omega)
    rw [← h4] at a4
    refine ok_ite (fun h => ?_) (fun h => ?_)
    · refine ok_call (tell_ok (v := v4) hG rfl rfl (by omega) (by omega)) (fun r6 u7 q => ?_)
      obtain ⟨g7, t7, o7⟩ := q
      have w3 := w32_sp (v3 + (-1))
      refine ok_let (fun x8 e8 => ?_)
      have z8 : x8 = v3 - 1 := by omega
      rw [z8]
      exact hk g7 (fun k => by rw [o7 48 k (by omega)]; exact h48 k) (by omega)
    · refine ok_gd (by omega) ?_
      refine ok_let (fun x9 e9 => ?_)
      have w5 := w32_sp (v5 + 1)
      refine ok_let (fun x10 e10 => ?_)
      have z10 : x10 = v5 + 1 := by omega
      refine ih (by omega) (by omega) ?_
      rw [e9, h48, z10, show (v5 + 1).toNat = v5.toNat + 1 by omega, h4]
      rfl
theorem ln_49 {b : Wd} {v1 v2 : Int} (f : Nat → Int) (i2 : 0 ≤ v2 ∧ v2 ≤ 9) (hf : ∀ j : Nat, (j : Int) ≤ v2 → 0 ≤ anc f v1 j ∧ anc f v1 j ≤ 9) : ∀ (n : Nat) {w : Wd} {v3 : Int}, v3 < n → (0 ≤ v3 ∧ v3 ≤ v2) → G md_R_line b w → (∀ k, w 48 k = f k) → w 43 15 = v2 - v3 → OK (f_R_line_49 n v1 v2 v3 w) (fun r u => ((0 : Int) ≤ r ∧ r ≤ 9) ∧ G md_R_line b u) := by
  intro n
  induction n with
  | zero => intro w v3 hm i3; omega
  | succ n ih =>
    intro w v3 hm i3 hG h48 h15
    rw [f_R_line_49]
    refine ok_ite (fun h => ?_) (fun h => ?_)
    · exact ok_some ⟨by omega, hG⟩
    · refine ln_59 f i2 (by omega) hf hG h48 h15 (fun gu hu h => ih (by omega) (by omega) gu hu h) FU (by have := eqFU; omega) (by omega) rfl
theorem ln_24 {b : Wd} {v1 : Int} (d : Nat → Nat) {w : Wd} (hG : G md_R_line b w) (hA : ∀ i : Nat, (i : Int) < w 43 0 → w 48 i ≠ -1 → w 48 i < w 43 0 ∧ d (w 48 i).toNat < d i) (i1 : 0 ≤ v1 ∧ v1 ≤ 9) : ∀ (n : Nat) {v2 v3 : Int}, (v3 ≠ -1 → (d v3.toNat : Int) + 1 < n) → 0 < n → (0 ≤ v2 ∧ v2 ≤ 9) → (v3 ≠ -1 → v2 + d v3.toNat ≤ 8) → (-1 ≤ v3 ∧ v3 ≤ 9) → (v3 ≠ -1 → v3 < w 43 0) → v3 = anc (w 48) v1 (v2.toNat + 1) → (∀ j : Nat, (j : Int) ≤ v2 → 0 ≤ anc (w 48) v1 j ∧ anc (w 48) v1 j ≤ 9) → OK (f_R_line_24 n v1 v2 v3 w) (fun r u => ((0 : Int) ≤ r ∧ r ≤ 9) ∧ G md_R_line b u) := by
  intro n
  induction n with
  | zero => intro v2 v3 h1 h2; omega
  | succ n ih =>
    intro v2 v3 h1 h2 i2 hd i3 hp ha hj
    rw [f_R_line_24]
    refine ok_ite (fun h => ?_) (fun h => ?_)
    · refine ok_lw (fun u5 e5 => ?_)
      have g5 : G md_R_line b u5 := g_st hG e5 rfl rfl (show (0 : Int) ≤ 0 ∧ (0 : Int) ≤ 16 by decide)
      have t5 : u5 43 15 = 0 := (congrFun (congrFun e5 43) 15).trans (st_eq _ _ _ _)
      exact ln_49 (w 48) i2 hj FU (by have := eqFU; omega) (by omega) g5 (fun k => (congrFun (congrFun e5 48) k).trans (st_c (by decide))) (by omega)
    · have hd' := hd h
      have h1' := h1 h
      have w2 := w32_sp (v2 + 1)
      refine ok_let (fun x11 e11 => ?_)
      refine ok_gd (by omega) ?_
      have a48 : (-1 : Int) ≤ w 48 v3.toNat ∧ w 48 v3.toNat ≤ 9 := hG.1 48 v3.toNat
      refine ok_let (fun x12 e12 => ?_)
      have z11 : x11 = v2 + 1 := by omega
      have hp' := hp h
      have hx : x12 ≠ -1 → x12 < w 43 0 ∧ d x12.toNat < d v3.toNat := fun hn => by
        rw [e12] at hn ⊢
        exact hA v3.toNat (by omega) hn
      have hs : x11.toNat = v2.toNat + 1 := by omega
      refine ih (fun hn => by have := (hx hn).2; omega) (by omega) (by omega) (fun hn => by have := (hx hn).2; omega) (by omega) (fun hn => (hx hn).1) ?_ (fun j hjj => ?_)
      · rw [hs, e12, ha]; rfl
      · by_cases hjv : (j : Int) ≤ v2
        · exact hj j hjv
        · have : j = v2.toNat + 1 := by omega
          rw [this, ← ha]; omega
theorem s_R_line {w : Wd} {v1 : Int} (hA : Ad w) (hG : G md_R_line w w) (i_v1 : ((-2147483648 : Int) ≤ v1 ∧ v1 ≤ 2147483647)) : OK (f_R_line v1 w) (fun r u => ((-2147483648 : Int) ≤ r ∧ r ≤ 2147483647) ∧ G md_R_line w u) := by
  unfold f_R_line
  refine ok_lw (fun u1 e4229 => ?_)
  have g4230 : G md_R_line w u1 := g_st hG e4229 rfl rfl (show (0 : Int) ≤ (0 : Int) ∧ (0 : Int) ≤ 1 by omega)
  refine ok_jj ?_
  refine ok_jite (fun h4233 => ?_) (fun h4234 => ?_)
  · refine ok_jsome ?_
    refine ok_jit (by decide) ?_
    refine ok_jsome ?_
    refine ok_it (by decide) ?_
    exact ok_some ⟨by omega, g4230⟩
  · have : (0 : Int) ≤ (u1 43 0) ∧ (u1 43 0) ≤ 10 := g4230.1 43 0
    have := w32_sp (((u1 43 0) - (1 : Int)))
    refine ok_jite (fun h4235 => ?_) (fun h4236 => ?_)
    · refine ok_jsome ?_
      refine ok_jit (by decide) ?_
      refine ok_jsome ?_
      refine ok_it (by decide) ?_
      exact ok_some ⟨by omega, g4230⟩
    · refine ok_jsome ?_
      refine ok_jit (by decide) ?_
      refine ok_jsome ?_
      refine ok_if (by decide) ?_
      refine ok_gd (by omega) ?_
      obtain ⟨d, hd, h⟩ := ad_congr hA (u := u1) (fun k => g4230.2.1 48 k (mS_ar rfl k)) (g4230.2.1 43 0 rfl)
      have a48 : (-1 : Int) ≤ u1 48 v1.toNat ∧ u1 48 v1.toNat ≤ 9 := g4230.1 48 v1.toNat
      have hx : u1 48 v1.toNat ≠ -1 → u1 48 v1.toNat < u1 43 0 ∧ d (u1 48 v1.toNat).toNat < d v1.toNat := h v1.toNat (by omega)
      have d1 := hd v1.toNat
      refine ok_let (fun x4 e4 => ?_)
      rw [e4]
      refine ok_w (ln_24 (b := w) d g4230 h (by omega) FU (fun hn => by have := (hx hn).2; have := eqFU; omega) (by have : FU = 4000000000 := rfl; omega) (by omega) (fun hn => by have := (hx hn).2; omega) (by omega) (fun hn => (hx hn).1) rfl (fun j hj => ?_)) (fun r u q => ⟨by omega, q.2⟩)
      have : j = 0 := by omega
      rw [this]
      show 0 ≤ v1 ∧ v1 ≤ 9
      omega
-- </man16>
-- <man15>
theorem du_18 {b : Wd} {v1 : Int} (d : Nat → Nat) (hd : ∀ i, d i ≤ 9) {k4 : Int → Int → Int → Wd → Option (Int × Wd)} {w : Wd} {v2 v3 : Int} (hG : G md_R_depthUnder b w) (hA : ∀ i : Nat, (i : Int) < w 43 0 → w 48 i ≠ -1 → w 48 i < w 43 0 ∧ d (w 48 i).toNat < d i) (i2 : 0 ≤ v2 ∧ v2 ≤ 10) (i3 : 0 ≤ v3 ∧ v3 ≤ 9) (hk : ∀ {y : Int}, (0 ≤ y ∧ y ≤ 10) → OK (k4 v1 y (v3 + 1) w) (fun r u => ((0 : Int) ≤ r ∧ r ≤ 10) ∧ G md_R_depthUnder b u)) : ∀ (n : Nat) {v4 v5 : Int}, (v5 ≠ -1 → (d v5.toNat : Int) + 1 < n) → 0 < n → (0 ≤ v4 ∧ v4 ≤ 10) → (v5 ≠ -1 → v4 + d v5.toNat ≤ 9) → (-1 ≤ v5 ∧ v5 ≤ 9) → (v5 ≠ -1 → v5 < w 43 0) → OK (f_R_depthUnder_18 k4 n v1 v2 v3 v4 v5 w) (fun r u => ((0 : Int) ≤ r ∧ r ≤ 10) ∧ G md_R_depthUnder b u) := by
  have w3 := w32_sp (v3 + 1)
  have z3 : w32 (v3 + 1) = v3 + 1 := by omega
  have fin : ∀ {v4 v5 : Int}, (0 ≤ v4 ∧ v4 ≤ 10) → OK (f_R_depthUnder_45 k4 v1 v2 v3 v4 v5 w) (fun r u => ((0 : Int) ≤ r ∧ r ≤ 10) ∧ G md_R_depthUnder b u) := by
    intro v4 v5 i4
    unfold f_R_depthUnder_45
    have mx := imax_sp v2 v4
    refine ok_ite (fun _ => ?_) (fun _ => ?_)
    · refine ok_let (fun x2 e2 => ?_)
      unfold f_R_depthUnder_58
      rw [z3]
      refine ok_let (fun x1 e1 => ?_)
      rw [e1]
      exact hk (by omega)
    · unfold f_R_depthUnder_58
      rw [z3]
      refine ok_let (fun x1 e1 => ?_)
      rw [e1]
      exact hk i2
  intro n
  induction n with
  | zero => intro v4 v5 h1 h2; omega
  | succ n ih =>
    intro v4 v5 h1 h2 i4 h4 i5 hp
    rw [f_R_depthUnder_18]
    refine ok_ite (fun h => fin i4) (fun h => ?_)
    refine ok_ite (fun _ => fin i4) (fun _ => ?_)
    refine ok_gd (by omega) ?_
    have a48 : (-1 : Int) ≤ w 48 v5.toNat ∧ w 48 v5.toNat ≤ 9 := hG.1 48 v5.toNat
    have w4 := w32_sp (v4 + 1)
    have d5 := hd v5.toNat
    have h1' := h1 h
    have h4' := h4 h
    refine ok_let (fun x3 e3 => ?_)
    refine ok_let (fun x4 e4 => ?_)
    have hp' := hp h
    have hx : x3 ≠ -1 → x3 < w 43 0 ∧ d x3.toNat < d v5.toNat := fun hn => by
      rw [e3] at hn ⊢
      exact hA v5.toNat (by omega) hn
    refine ih (fun hn => by have := (hx hn).2; omega) (by omega) (by omega) (fun hn => by have := (hx hn).2; omega) (by omega) (fun hn => (hx hn).1)
theorem du_4 {b : Wd} {v1 : Int} (d : Nat → Nat) (hd : ∀ i, d i ≤ 9) {w : Wd} (hG : G md_R_depthUnder b w) (hA : ∀ i : Nat, (i : Int) < w 43 0 → w 48 i ≠ -1 → w 48 i < w 43 0 ∧ d (w 48 i).toNat < d i) : ∀ (n : Nat) {v2 v3 : Int}, 11 - v3 < (n : Int) → (0 ≤ v2 ∧ v2 ≤ 10) → (0 ≤ v3 ∧ v3 ≤ 10) → OK (f_R_depthUnder_4 n v1 v2 v3 w) (fun r u => ((0 : Int) ≤ r ∧ r ≤ 10) ∧ G md_R_depthUnder b u) := by
  intro n
  induction n with
  | zero => intro v2 v3 hm i2 i3; omega
  | succ n ih =>
    intro v2 v3 hm i2 i3
    rw [f_R_depthUnder_4]
    have a0 : (0 : Int) ≤ w 43 0 ∧ w 43 0 ≤ 10 := hG.1 43 0
    refine ok_ite (fun h => ?_) (fun h => ?_)
    · exact ok_some ⟨by omega, hG⟩
    · have d3 := hd v3.toNat
      refine du_18 d hd hG hA i2 (by omega) (fun iy => ih (by omega) iy (by omega)) FU (fun _ => ?_) (by have : FU = 4000000000 := rfl; omega) (by omega) (fun _ => by omega) (by omega) (fun _ => by omega)
      have := eqFU
      omega
theorem s_R_depthUnder {w : Wd} {v1 : Int} (hA : Ad w) (hG : G md_R_depthUnder w w) (_ : (0 : Int) ≤ v1 ∧ v1 ≤ 9) : OK (f_R_depthUnder v1 w) (fun r u => ((0 : Int) ≤ r ∧ r ≤ 10) ∧ G md_R_depthUnder w u) := by
  unfold f_R_depthUnder
  obtain ⟨d, hd, h⟩ := hA
  exact du_4 d hd hG h FU (by have := eqFU; omega) (by omega) (by omega)
-- </man15>
theorem s_R_led_43 {b : Wd} {k19 : Int → Int → Int → Wd → Option (Int × Wd)} {Bk19 : Int} (hA : Ad b) (hk19 : ∀ {w1 : Wd} {v1 v2 v3 : Int}, ((11 : Int) - v3) < Bk19 → G md_R_led b w1 → ((0 : Int) ≤ v1 ∧ v1 ≤ 9) → ((-2147483648 : Int) ≤ v2 ∧ v2 ≤ 2147483647) → ((0 : Int) ≤ v3 ∧ v3 ≤ 10) → OK (k19 v1 v2 v3 w1) (fun r u => ((-1 : Int) ≤ r ∧ r ≤ 1023) ∧ G md_R_led b u)) {w : Wd} {v1 v3 s0 s1 : Int} (hG : G md_R_led b w) (i_v1 : ((0 : Int) ≤ v1 ∧ v1 ≤ 9)) (i_v3 : ((0 : Int) ≤ v3 ∧ v3 ≤ 9)) (i_s0 : ((-2147483648 : Int) ≤ s0 ∧ s0 ≤ 2147483647)) (i_s1 : ((0 : Int) ≤ s1 ∧ s1 ≤ 1)) (hBk19 : ((11 : Int) - v3) ≤ Bk19) : OK (f_R_led_43 k19 v1 v3 s0 s1 w) (fun r u => ((-1 : Int) ≤ r ∧ r ≤ 1023) ∧ G md_R_led b u) := by
  unfold f_R_led_43
  have := w32_sp ((s0 + s1))
  refine ok_let (fun x13 e4318 => ?_)
  have : (-2147483648 : Int) ≤ x13 ∧ x13 ≤ 2147483647 := by omega
  have := w32_sp ((v3 + (1 : Int)))
  refine ok_let (fun x14 e4319 => ?_)
  have : (1 : Int) ≤ x14 ∧ x14 ≤ 10 := by omega
  exact hk19 (by omega) hG (by omega) (by omega) (by omega)
theorem s_R_led_19 {b : Wd} (hA : Ad b) : ∀ (n : Nat) {w : Wd} {v1 v2 v3 : Int}, ((11 : Int) - v3) < (n : Int) → G md_R_led b w → ((0 : Int) ≤ v1 ∧ v1 ≤ 9) → ((-2147483648 : Int) ≤ v2 ∧ v2 ≤ 2147483647) → ((0 : Int) ≤ v3 ∧ v3 ≤ 10) → OK (f_R_led_19 n v1 v2 v3 w) (fun r u => ((-1 : Int) ≤ r ∧ r ≤ 1023) ∧ G md_R_led b u) := by
  intro n
  induction n with
  | zero =>
    intro w v1 v2 v3 hm hG i_v1 i_v2 i_v3
    exfalso
    omega
  | succ n ih =>
    intro w v1 v2 v3 hm hG i_v1 i_v2 i_v3
    rw [f_R_led_19]
    have : (0 : Int) ≤ (w 43 0) ∧ (w 43 0) ≤ 10 := hG.1 43 0
    have : (w 43 0) = (b 43 0) := hG.2.1 43 0 rfl
    refine ok_ite (fun h4320 => ?_) (fun h4321 => ?_)
    · refine ok_lw (fun u4 e4322 => ?_)
      have g4323 : G md_R_led b u4 := g_st hG e4322 rfl rfl (show (0 : Int) ≤ (0 : Int) ∧ (0 : Int) ≤ 16 by omega)
      have : (0 : Int) ≤ (u4 43 15) ∧ (u4 43 15) ≤ 16 := g4323.1 43 15
      have : (u4 43 15) = (0 : Int) := (congrFun (congrFun e4322 43) 15).trans (st_eq _ _ _ _)
      refine ok_jgd (by omega) ?_
      refine ok_jlw (fun u1_4324 e4325 => ?_)
      have g4326 : G md_R_led b u1_4324 := g_st g4323 e4325 rfl rfl (show (-2147483648 : Int) ≤ v2 ∧ v2 ≤ 2147483647 by omega)
      have : (0 : Int) ≤ (u1_4324 43 15) ∧ (u1_4324 43 15) ≤ 16 := g4326.1 43 15
      have : (u1_4324 43 15) = (u4 43 15) := (congrFun (congrFun e4325 43) 15).trans (st_c (by decide))
      have := w32_sp (((u1_4324 43 15) + (1 : Int)))
      refine ok_jlw (fun u2_4324 e4327 => ?_)
      have g4328 : G md_R_led b u2_4324 := g_st g4326 e4327 rfl rfl (show (0 : Int) ≤ (w32 ((u1_4324 43 15) + (1 : Int))) ∧ (w32 ((u1_4324 43 15) + (1 : Int))) ≤ 16 by omega)
      refine ok_jsome ?_
      refine ok_call (s_R_depthUnder (ad_congr hA (fun k => g4328.2.1 48 k (mS_ar rfl k)) (g4328.2.1 43 0 rfl)) (g_self g4328) (by omega)) (fun r7 u8 q => ?_)
      obtain ⟨i4329, g4330⟩ := q
      have g4331 : G md_R_led b u8 := g_tr g4328 g4330 rfl
      have : (0 : Int) ≤ (u8 43 15) ∧ (u8 43 15) ≤ 16 := g4331.1 43 15
      have : (u8 43 15) = (u2_4324 43 15) := g4330.2.1 43 15 rfl
      have : (0 : Int) ≤ (u2_4324 43 15) ∧ (u2_4324 43 15) ≤ 16 := g4328.1 43 15
      have : (u2_4324 43 15) = (w32 ((u1_4324 43 15) + (1 : Int))) := (congrFun (congrFun e4327 43) 15).trans (st_eq _ _ _ _)
      refine ok_jgd (by omega) ?_
      refine ok_jlw (fun u1_4332 e4333 => ?_)
      have g4334 : G md_R_led b u1_4332 := g_st g4331 e4333 rfl rfl (show (-2147483648 : Int) ≤ r7 ∧ r7 ≤ 2147483647 by omega)
      have : (0 : Int) ≤ (u1_4332 43 15) ∧ (u1_4332 43 15) ≤ 16 := g4334.1 43 15
      have : (u1_4332 43 15) = (u8 43 15) := (congrFun (congrFun e4333 43) 15).trans (st_c (by decide))
      have := w32_sp (((u1_4332 43 15) + (1 : Int)))
      refine ok_jlw (fun u2_4332 e4335 => ?_)
      have g4336 : G md_R_led b u2_4332 := g_st g4334 e4335 rfl rfl (show (0 : Int) ≤ (w32 ((u1_4332 43 15) + (1 : Int))) ∧ (w32 ((u1_4332 43 15) + (1 : Int))) ≤ 16 by omega)
      refine ok_jsome ?_
      refine ok_call (s_R_ledBy (g_self g4336) (by omega)) (fun r11 u12 q => ?_)
      obtain ⟨i4337, g4338⟩ := q
      have g4339 : G md_R_led b u12 := g_tr g4336 g4338 rfl
      exact ok_some ⟨by omega, g4339⟩
    · refine ok_gd (by omega) ?_
      have : (-1 : Int) ≤ (w 48 (v3).toNat) ∧ (w 48 (v3).toNat) ≤ 9 := hG.1 48 (v3).toNat
      refine ok_ite (fun h4340 => ?_) (fun h4341 => ?_)
      · exact s_R_led_43 hA ih hG (by omega) (by omega) (by omega) (by omega) (by omega)
      · exact s_R_led_43 hA ih hG (by omega) (by omega) (by omega) (by omega) (by omega)
theorem s_R_led {w : Wd} {v1 : Int} (hA : Ad w) (hG : G md_R_led w w) (i_v1 : ((-2147483648 : Int) ≤ v1 ∧ v1 ≤ 2147483647)) : OK (f_R_led v1 w) (fun r u => ((-1 : Int) ≤ r ∧ r ≤ 1023) ∧ G md_R_led w u) := by
  unfold f_R_led
  refine ok_lw (fun u1 e4342 => ?_)
  have g4343 : G md_R_led w u1 := g_st hG e4342 rfl rfl (show (0 : Int) ≤ (0 : Int) ∧ (0 : Int) ≤ 1 by omega)
  refine ok_jj ?_
  refine ok_jite (fun h4346 => ?_) (fun h4347 => ?_)
  · refine ok_jsome ?_
    refine ok_jit (by decide) ?_
    refine ok_jsome ?_
    refine ok_it (by decide) ?_
    exact ok_some ⟨by omega, g4343⟩
  · have : (0 : Int) ≤ (u1 43 0) ∧ (u1 43 0) ≤ 10 := g4343.1 43 0
    have : (u1 43 0) = (w 43 0) := (congrFun (congrFun e4342 43) 0).trans (st_k (by decide))
    have : (0 : Int) ≤ (w 43 0) ∧ (w 43 0) ≤ 10 := hG.1 43 0
    have := w32_sp (((u1 43 0) - (1 : Int)))
    refine ok_jite (fun h4348 => ?_) (fun h4349 => ?_)
    · refine ok_jsome ?_
      refine ok_jit (by decide) ?_
      refine ok_jsome ?_
      refine ok_it (by decide) ?_
      exact ok_some ⟨by omega, g4343⟩
    · refine ok_jsome ?_
      refine ok_jit (by decide) ?_
      refine ok_jsome ?_
      refine ok_if (by decide) ?_
      exact s_R_led_19 hA FU (by have := eqFU; omega) g4343 (by omega) (by omega) (by omega)
theorem s_R_was {w : Wd} {v1 : Int} (hG : G md_R_was w w) (i_v1 : ((-2147483648 : Int) ≤ v1 ∧ v1 ≤ 2147483647)) : OK (f_R_was v1 w) (fun r u => ((-2147483648 : Int) ≤ r ∧ r ≤ 2147483647) ∧ G md_R_was w u) := by
  unfold f_R_was
  refine ok_lw (fun u1 e4350 => ?_)
  have g4351 : G md_R_was w u1 := g_st hG e4350 rfl rfl (show (0 : Int) ≤ (0 : Int) ∧ (0 : Int) ≤ 1 by omega)
  refine ok_jite (fun h4353 => ?_) (fun h4354 => ?_)
  · refine ok_jsome ?_
    refine ok_it (by decide) ?_
    exact ok_some ⟨by omega, g4351⟩
  · have : (0 : Int) ≤ (u1 43 8) ∧ (u1 43 8) ≤ 60 := g4351.1 43 8
    have : (u1 43 8) = (w 43 8) := (congrFun (congrFun e4350 43) 8).trans (st_k (by decide))
    have : (0 : Int) ≤ (w 43 8) ∧ (w 43 8) ≤ 60 := hG.1 43 8
    refine ok_jite (fun h4355 => ?_) (fun h4356 => ?_)
    · refine ok_jsome ?_
      refine ok_it (by decide) ?_
      exact ok_some ⟨by omega, g4351⟩
    · refine ok_jsome ?_
      refine ok_if (by decide) ?_
      refine ok_gd (by omega) ?_
      have : (-2147483648 : Int) ≤ (u1 50 (v1).toNat) ∧ (u1 50 (v1).toNat) ≤ 2147483647 := g4351.1 50 (v1).toNat
      have : (u1 50 (v1).toNat) = (w 50 (v1).toNat) := (congrFun (congrFun e4350 50) (v1).toNat).trans (st_c (by decide))
      have : (-2147483648 : Int) ≤ (w 50 (v1).toNat) ∧ (w 50 (v1).toNat) ≤ 2147483647 := hG.1 50 (v1).toNat
      exact ok_some ⟨by omega, g4351⟩
-- <man17>
theorem cm_18 {b : Wd} {v2 : Int} (d : Nat → Nat) (i2 : 0 ≤ v2 ∧ v2 ≤ 9) : ∀ (n : Nat) {w : Wd} {v3 : Int}, (v3 ≠ -1 → (d v3.toNat : Int) + 1 < n) → 0 < n → G md_R_common b w → (∀ i : Nat, (i : Int) < w 43 0 → w 48 i ≠ -1 → w 48 i < w 43 0 ∧ d (w 48 i).toNat < d i) → (-1 ≤ v3 ∧ v3 ≤ 9) → (v3 ≠ -1 → v3 < w 43 0) → OK (f_R_common_18 n v2 v3 w) (fun r u => ((-2 : Int) ≤ r ∧ r ≤ 9) ∧ G md_R_common b u) := by
  intro n
  induction n with
  | zero => intro w v3 h1 h2; omega
  | succ n ih =>
    intro w v3 h1 h2 hG hA i3 hp
    rw [f_R_common_18]
    refine ok_ite (fun h => ?_) (fun h => ?_)
    · exact ok_some ⟨by omega, hG⟩
    · have h1' := h1 h
      refine ok_ite (fun h3 => ?_) (fun h3 => ?_)
      · exact ok_some ⟨by omega, hG⟩
      · refine ok_call (s_R_ledBy (g_self hG) (by omega)) (fun r4 u5 q => ?_)
        obtain ⟨i4, gy⟩ := q
        have g5 : G md_R_common b u5 := g_tr hG gy rfl
        rw [has_e u5 (by omega), jc_s]
        have t48 : ∀ k, u5 48 k = w 48 k := fun k => gy.2.1 48 k (mS_ar rfl k)
        have a48 : (-1 : Int) ≤ u5 48 v3.toNat ∧ u5 48 v3.toNat ≤ 9 := g5.1 48 v3.toNat
        cases hb : bt r4 v2.toNat with
        | true =>
          refine ok_if (by simp) ?_
          exact ok_some ⟨by omega, g5⟩
        | false =>
          refine ok_it (by simp) ?_
          refine ok_gd (by omega) ?_
          refine ok_let (fun x8 e8 => ?_)
          have hp' := hp h
          have t0 : u5 43 0 = w 43 0 := gy.2.1 43 0 rfl
          have hx : x8 ≠ -1 → x8 < u5 43 0 ∧ d x8.toNat < d v3.toNat := fun hn => by
            rw [e8, t48] at hn ⊢
            rw [t0]
            exact hA v3.toNat (by omega) hn
          exact ih (fun hn => by have := (hx hn).2; omega) (by omega) g5 (fun i hi hn => by rw [t48] at hn ⊢; rw [t0] at hi ⊢; exact hA i hi hn) (by omega) (fun hn => (hx hn).1)
theorem cm_0 {u w : Wd} {v1 v2 : Int} (hA : Ad u) (hG : G md_R_common w u) (i1 : 0 ≤ v1 ∧ v1 ≤ 9 ∧ v1 < u 43 0) (i2 : 0 ≤ v2 ∧ v2 ≤ 9) : OK (f_R_common_18 FU v2 v1 u) (fun r u => ((-2 : Int) ≤ r ∧ r ≤ 9) ∧ G md_R_common w u) := by
  obtain ⟨d, hd, h⟩ := hA
  have d1 := hd v1.toNat
  exact cm_18 d i2 FU (fun _ => by have := eqFU; omega) (by have : FU = 4000000000 := rfl; omega) hG h (by omega) (fun _ => i1.2.2)
theorem s_R_common {w : Wd} {v1 v2 : Int} (hA : Ad w) (hG : G md_R_common w w) (i_v1 : ((-2147483648 : Int) ≤ v1 ∧ v1 ≤ 2147483647)) (i_v2 : ((-2147483648 : Int) ≤ v2 ∧ v2 ≤ 2147483647)) : OK (f_R_common v1 v2 w) (fun r u => ((-2 : Int) ≤ r ∧ r ≤ 9) ∧ G md_R_common w u) := by
  unfold f_R_common
  refine ok_lw (fun u1 e4582 => ?_)
  have g4583 : G md_R_common w u1 := g_st hG e4582 rfl rfl (show (0 : Int) ≤ (0 : Int) ∧ (0 : Int) ≤ 1 by omega)
  refine ok_jj ?_
  refine ok_jj ?_
  refine ok_jite (fun h4587 => ?_) (fun h4588 => ?_)
  · refine ok_jsome ?_
    refine ok_jit (by decide) ?_
    refine ok_jsome ?_
    refine ok_jit (by decide) ?_
    refine ok_jsome ?_
    refine ok_it (by decide) ?_
    exact ok_some ⟨by omega, g4583⟩
  · have : (0 : Int) ≤ (u1 43 0) ∧ (u1 43 0) ≤ 10 := g4583.1 43 0
    have : (u1 43 0) = (w 43 0) := (congrFun (congrFun e4582 43) 0).trans (st_k (by decide))
    have : (0 : Int) ≤ (w 43 0) ∧ (w 43 0) ≤ 10 := hG.1 43 0
    have := w32_sp (((u1 43 0) - (1 : Int)))
    refine ok_jite (fun h4589 => ?_) (fun h4590 => ?_)
    · refine ok_jsome ?_
      refine ok_jit (by decide) ?_
      refine ok_jsome ?_
      refine ok_jit (by decide) ?_
      refine ok_jsome ?_
      refine ok_it (by decide) ?_
      exact ok_some ⟨by omega, g4583⟩
    · refine ok_jsome ?_
      refine ok_jit (by decide) ?_
      refine ok_jsome ?_
      refine ok_jif (by decide) ?_
      refine ok_jj ?_
      refine ok_jj ?_
      refine ok_jite (fun h4593 => ?_) (fun h4594 => ?_)
      · refine ok_jsome ?_
        refine ok_jit (by decide) ?_
        refine ok_jsome ?_
        refine ok_jit (by decide) ?_
        refine ok_jsome ?_
        refine ok_it (by decide) ?_
        exact ok_some ⟨by omega, g4583⟩
      · refine ok_jite (fun h4595 => ?_) (fun h4596 => ?_)
        · refine ok_jsome ?_
          refine ok_jit (by decide) ?_
          refine ok_jsome ?_
          refine ok_jit (by decide) ?_
          refine ok_jsome ?_
          refine ok_it (by decide) ?_
          exact ok_some ⟨by omega, g4583⟩
        · refine ok_jsome ?_
          refine ok_jit (by decide) ?_
          refine ok_jsome ?_
          refine ok_jif (by decide) ?_
          refine ok_jite (fun h4597 => ?_) (fun h4598 => ?_)
          · refine ok_jsome ?_
            refine ok_it (by decide) ?_
            exact ok_some ⟨by omega, g4583⟩
          · refine ok_jsome ?_
            refine ok_if (by decide) ?_
            exact cm_0 (ad_congr hA (fun k => g4583.2.1 48 k (mS_ar rfl k)) (g4583.2.1 43 0 rfl)) g4583 (by omega) (by omega)
-- </man17>
theorem s_R_father_43 {b : Wd} {k11 : Int → Int → Int → Wd → Option (Int × Wd)} {Bk11 : Int} (hk11 : ∀ {w1 : Wd} {v1 v2 v3 : Int}, ((11 : Int) - v3) < Bk11 → G md_R_father b w1 → ((-1 : Int) ≤ v1 ∧ v1 ≤ 9) → ((0 : Int) ≤ v2 ∧ v2 ≤ 63) → ((0 : Int) ≤ v3 ∧ v3 ≤ 10) → OK (k11 v1 v2 v3 w1) (fun r u => ((-2 : Int) ≤ r ∧ r ≤ 9) ∧ G md_R_father b u)) {w : Wd} {v1 v2 v3 : Int} (hG : G md_R_father b w) (i_v1 : ((-1 : Int) ≤ v1 ∧ v1 ≤ 9)) (i_v2 : ((0 : Int) ≤ v2 ∧ v2 ≤ 63)) (i_v3 : ((0 : Int) ≤ v3 ∧ v3 ≤ 9)) (hBk11 : ((11 : Int) - v3) ≤ Bk11) : OK (f_R_father_43 k11 v1 v2 v3 w) (fun r u => ((-2 : Int) ≤ r ∧ r ≤ 9) ∧ G md_R_father b u) := by
  unfold f_R_father_43
  have := w32_sp ((v3 + (1 : Int)))
  refine ok_let (fun x9 e4357 => ?_)
  have : (1 : Int) ≤ x9 ∧ x9 ≤ 10 := by omega
  exact hk11 (by omega) hG (by omega) (by omega) (by omega)
theorem s_R_father_11 {b : Wd} : ∀ (n : Nat) {w : Wd} {v1 v2 v3 : Int}, ((11 : Int) - v3) < (n : Int) → G md_R_father b w → ((-1 : Int) ≤ v1 ∧ v1 ≤ 9) → ((0 : Int) ≤ v2 ∧ v2 ≤ 63) → ((0 : Int) ≤ v3 ∧ v3 ≤ 10) → OK (f_R_father_11 n v1 v2 v3 w) (fun r u => ((-2 : Int) ≤ r ∧ r ≤ 9) ∧ G md_R_father b u) := by
  intro n
  induction n with
  | zero =>
    intro w v1 v2 v3 hm hG i_v1 i_v2 i_v3
    exfalso
    omega
  | succ n ih =>
    intro w v1 v2 v3 hm hG i_v1 i_v2 i_v3
    rw [f_R_father_11]
    have : (0 : Int) ≤ (w 43 0) ∧ (w 43 0) ≤ 10 := hG.1 43 0
    have : (w 43 0) = (b 43 0) := hG.2.1 43 0 rfl
    refine ok_ite (fun h4358 => ?_) (fun h4359 => ?_)
    · refine ok_ite (fun h4360 => ?_) (fun h4361 => ?_)
      · exact ok_some ⟨by omega, hG⟩
      · refine ok_lw (fun u2 e4362 => ?_)
        have g4363 : G md_R_father b u2 := g_st hG e4362 rfl rfl (show (0 : Int) ≤ (0 : Int) ∧ (0 : Int) ≤ 16 by omega)
        have : (0 : Int) ≤ (u2 43 15) ∧ (u2 43 15) ≤ 16 := g4363.1 43 15
        have : (u2 43 15) = (0 : Int) := (congrFun (congrFun e4362 43) 15).trans (st_eq _ _ _ _)
        refine ok_jgd (by omega) ?_
        refine ok_jlw (fun u1_4364 e4365 => ?_)
        have g4366 : G md_R_father b u1_4364 := g_st g4363 e4365 rfl rfl (show (-2147483648 : Int) ≤ v2 ∧ v2 ≤ 2147483647 by omega)
        have : (0 : Int) ≤ (u1_4364 43 15) ∧ (u1_4364 43 15) ≤ 16 := g4366.1 43 15
        have : (u1_4364 43 15) = (u2 43 15) := (congrFun (congrFun e4365 43) 15).trans (st_c (by decide))
        have := w32_sp (((u1_4364 43 15) + (1 : Int)))
        refine ok_jlw (fun u2_4364 e4367 => ?_)
        have g4368 : G md_R_father b u2_4364 := g_st g4366 e4367 rfl rfl (show (0 : Int) ≤ (w32 ((u1_4364 43 15) + (1 : Int))) ∧ (w32 ((u1_4364 43 15) + (1 : Int))) ≤ 16 by omega)
        refine ok_jsome ?_
        exact ok_some ⟨by omega, g4368⟩
    · refine ok_call (s_R_ledBy (g_self hG) (by omega)) (fun r5 u6 q => ?_)
      obtain ⟨i4369, g4370⟩ := q
      have g4371 : G md_R_father b u6 := g_tr hG g4370 rfl
      refine ok_call (s_JI_bitCount (g_self g4371) (by omega)) (fun r7 u8 q => ?_)
      obtain ⟨i4372, g4373⟩ := q
      have g4374 : G md_R_father b u8 := g_tr g4371 g4373 rfl
      refine ok_ite (fun h4375 => ?_) (fun h4376 => ?_)
      · exact s_R_father_43 ih g4374 (by omega) (by omega) (by omega) (by omega)
      · exact s_R_father_43 ih g4374 (by omega) (by omega) (by omega) (by omega)
theorem s_R_father {w : Wd} (hG : G md_R_father w w) : OK (f_R_father w) (fun r u => ((-2 : Int) ≤ r ∧ r ≤ 9) ∧ G md_R_father w u) := by
  unfold f_R_father
  refine ok_lw (fun u1 e4377 => ?_)
  have g4378 : G md_R_father w u1 := g_st hG e4377 rfl rfl (show (0 : Int) ≤ (0 : Int) ∧ (0 : Int) ≤ 1 by omega)
  exact s_R_father_11 FU (by have := eqFU; omega) g4378 (by omega) (by omega) (by omega)
theorem s_R_lay_43_79_2 {b : Wd} : ∀ (n : Nat) {w : Wd} {v2 v3 : Int}, ((11 : Int) - v3) < (n : Int) → G md_R_lay_43_79 b w → ((0 : Int) ≤ v2 ∧ v2 ≤ 105) → ((0 : Int) ≤ v3 ∧ v3 ≤ 10) → ((v2 % (105 : Int)) = (0 : Int)) → OK (f_R_lay_43_79_2 n v2 v3 w) (fun r u => ((0 : Int) ≤ r ∧ r ≤ 0) ∧ G md_R_lay_43_79 b u) := by
  intro n
  induction n with
  | zero =>
    intro w v2 v3 hm hG i_v2 i_v3 a_0
    exfalso
    omega
  | succ n ih =>
    intro w v2 v3 hm hG i_v2 i_v3 a_0
    rw [f_R_lay_43_79_2]
    refine ok_ite (fun h4379 => ?_) (fun h4380 => ?_)
    · have := w32_sp ((v2 + (30 : Int)))
      refine ok_gd (by omega) ?_
      have : (-2147483648 : Int) ≤ (w 43 7) ∧ (w 43 7) ≤ 2147483647 := hG.1 43 7
      have : (w 43 7) = (b 43 7) := hG.2.1 43 7 rfl
      refine ok_lw (fun u1 e4381 => ?_)
      have g4382 : G md_R_lay_43_79 b u1 := g_st hG e4381 rfl rfl (by rw [r79_0 (by omega) (by omega)]; show (-2147483648 : Int) ≤ (w 43 7) ∧ (w 43 7) ≤ 2147483647; omega)
      exact ok_some ⟨by omega, g4382⟩
    · refine ok_gd (by omega) ?_
      have := w32_sp (((3 : Int) * v3))
      have := w32_sp ((v2 + (w32 ((3 : Int) * v3))))
      refine ok_gd (by omega) ?_
      have : (-2147483648 : Int) ≤ (w 47 (v3).toNat) ∧ (w 47 (v3).toNat) ≤ 2147483647 := hG.1 47 (v3).toNat
      refine ok_lw (fun u2 e4383 => ?_)
      have g4384 : G md_R_lay_43_79 b u2 := g_st hG e4383 rfl rfl (by rw [r79_0 (by omega) (by omega)]; show (-2147483648 : Int) ≤ (w 47 (v3).toNat) ∧ (w 47 (v3).toNat) ≤ 2147483647; omega)
      refine ok_gd (by omega) ?_
      have := w32_sp (((w32 (v2 + (w32 ((3 : Int) * v3)))) + (1 : Int)))
      refine ok_gd (by omega) ?_
      have : (-1 : Int) ≤ (u2 48 (v3).toNat) ∧ (u2 48 (v3).toNat) ≤ 9 := g4384.1 48 (v3).toNat
      have : (u2 48 (v3).toNat) = (w 48 (v3).toNat) := (congrFun (congrFun e4383 48) (v3).toNat).trans (st_c (by decide))
      have : (-1 : Int) ≤ (w 48 (v3).toNat) ∧ (w 48 (v3).toNat) ≤ 9 := hG.1 48 (v3).toNat
      refine ok_lw (fun u3 e4385 => ?_)
      have g4386 : G md_R_lay_43_79 b u3 := g_st g4384 e4385 rfl rfl (by rw [r79_1 (by omega) (by omega)]; show (-1 : Int) ≤ (u2 48 (v3).toNat) ∧ (u2 48 (v3).toNat) ≤ 9; omega)
      refine ok_gd (by omega) ?_
      have := w32_sp (((w32 (v2 + (w32 ((3 : Int) * v3)))) + (2 : Int)))
      refine ok_gd (by omega) ?_
      have : (-2147483648 : Int) ≤ (u3 49 (v3).toNat) ∧ (u3 49 (v3).toNat) ≤ 2147483647 := g4386.1 49 (v3).toNat
      have : (u3 49 (v3).toNat) = (u2 49 (v3).toNat) := (congrFun (congrFun e4385 49) (v3).toNat).trans (st_c (by decide))
      have : (-2147483648 : Int) ≤ (u2 49 (v3).toNat) ∧ (u2 49 (v3).toNat) ≤ 2147483647 := g4384.1 49 (v3).toNat
      have : (u2 49 (v3).toNat) = (w 49 (v3).toNat) := (congrFun (congrFun e4383 49) (v3).toNat).trans (st_c (by decide))
      have : (-2147483648 : Int) ≤ (w 49 (v3).toNat) ∧ (w 49 (v3).toNat) ≤ 2147483647 := hG.1 49 (v3).toNat
      refine ok_lw (fun u4 e4387 => ?_)
      have g4388 : G md_R_lay_43_79 b u4 := g_st g4386 e4387 rfl rfl (by rw [r79_0 (by omega) (by omega)]; show (-2147483648 : Int) ≤ (u3 49 (v3).toNat) ∧ (u3 49 (v3).toNat) ≤ 2147483647; omega)
      have := w32_sp ((v3 + (1 : Int)))
      refine ok_let (fun x5 e4389 => ?_)
      have : (1 : Int) ≤ x5 ∧ x5 ≤ 10 := by omega
      exact ih (by omega) g4388 (by omega) (by omega) (by omega)
theorem s_R_lay_43_79 {w : Wd} {v2 : Int} (hG : G md_R_lay_43_79 w w) (i_v2 : ((0 : Int) ≤ v2 ∧ v2 ≤ 105)) (a_0 : ((v2 % (105 : Int)) = (0 : Int))) : OK (f_R_lay_43_79 v2 w) (fun r u => ((0 : Int) ≤ r ∧ r ≤ 0) ∧ G md_R_lay_43_79 w u) := by
  unfold f_R_lay_43_79
  exact s_R_lay_43_79_2 FU (by have := eqFU; omega) hG (by omega) (by omega) (by omega)
theorem s_R_keep_125 {b : Wd} : ∀ (n : Nat) {w : Wd} {v2 v3 : Int}, ((62 : Int) - v3) < (n : Int) → G md_R_keep b w → ((41 : Int) ≤ v2 ∧ v2 ≤ 146) → ((0 : Int) ≤ v3 ∧ v3 ≤ 61) → ((v2 % (105 : Int)) = (41 : Int)) → OK (f_R_keep_125 n v2 v3 w) (fun r u => ((0 : Int) ≤ r ∧ r ≤ 1) ∧ G md_R_keep b u) := by
  intro n
  induction n with
  | zero =>
    intro w v2 v3 hm hG i_v2 i_v3 a_0
    exfalso
    omega
  | succ n ih =>
    intro w v2 v3 hm hG i_v2 i_v3 a_0
    rw [f_R_keep_125]
    refine ok_ite (fun h4390 => ?_) (fun h4391 => ?_)
    · exact ok_some ⟨by omega, hG⟩
    · refine ok_gd (by omega) ?_
      have := w32_sp ((v2 + (3 : Int)))
      have := w32_sp (((w32 (v2 + (3 : Int))) + v3))
      refine ok_gd (by omega) ?_
      have : (-2147483648 : Int) ≤ (w 50 (v3).toNat) ∧ (w 50 (v3).toNat) ≤ 2147483647 := hG.1 50 (v3).toNat
      refine ok_lw (fun u14 e4392 => ?_)
      have g4393 : G md_R_keep b u14 := g_st hG e4392 rfl rfl (by rw [r79_0 (by omega) (by omega)]; show (-2147483648 : Int) ≤ (w 50 (v3).toNat) ∧ (w 50 (v3).toNat) ≤ 2147483647; omega)
      have := w32_sp ((v3 + (1 : Int)))
      refine ok_let (fun x15 e4394 => ?_)
      have : (1 : Int) ≤ x15 ∧ x15 ≤ 61 := by omega
      exact ih (by omega) g4393 (by omega) (by omega) (by omega)
theorem s_R_keep_79 {b : Wd} {k52 : Int → Int → Wd → Option (Int × Wd)} {Bk52 : Int} (hk52 : ∀ {w1 : Wd} {v2 v3 : Int}, ((11 : Int) - v3) < Bk52 → G md_R_keep b w1 → ((31 : Int) ≤ v2 ∧ v2 ≤ 136) → ((0 : Int) ≤ v3 ∧ v3 ≤ 10) → ((v2 % (105 : Int)) = (31 : Int)) → OK (k52 v2 v3 w1) (fun r u => ((0 : Int) ≤ r ∧ r ≤ 1) ∧ G md_R_keep b u)) {w : Wd} {v2 v3 s1 s2 : Int} (hG : G md_R_keep b w) (i_v2 : ((31 : Int) ≤ v2 ∧ v2 ≤ 136)) (i_v3 : ((0 : Int) ≤ v3 ∧ v3 ≤ 9)) (i_s1 : ((31 : Int) ≤ s1 ∧ s1 ≤ 145)) (i_s2 : ((0 : Int) ≤ s2 ∧ s2 ≤ 1)) (a_0 : (((31 : Int) ≤ (s1 % (105 : Int))) ∧ ((s1 % (105 : Int)) ≤ (40 : Int)))) (a_1 : ((v2 % (105 : Int)) = (31 : Int))) (hBk52 : ((11 : Int) - v3) ≤ Bk52) : OK (f_R_keep_79 k52 v2 v3 s1 s2 w) (fun r u => ((0 : Int) ≤ r ∧ r ≤ 1) ∧ G md_R_keep b u) := by
  unfold f_R_keep_79
  refine ok_gd (by omega) ?_
  refine ok_lw (fun u16 e4395 => ?_)
  have g4396 : G md_R_keep b u16 := g_st hG e4395 rfl rfl (by rw [r79_0 (by omega) (by omega)]; show (-2147483648 : Int) ≤ s2 ∧ s2 ≤ 2147483647; omega)
  have := w32_sp ((v3 + (1 : Int)))
  refine ok_let (fun x17 e4397 => ?_)
  have : (1 : Int) ≤ x17 ∧ x17 ≤ 10 := by omega
  exact hk52 (by omega) g4396 (by omega) (by omega) (by omega)
theorem s_R_keep_52 {b : Wd} : ∀ (n : Nat) {w : Wd} {v2 v3 : Int}, ((11 : Int) - v3) < (n : Int) → G md_R_keep b w → ((31 : Int) ≤ v2 ∧ v2 ≤ 136) → ((0 : Int) ≤ v3 ∧ v3 ≤ 10) → ((v2 % (105 : Int)) = (31 : Int)) → OK (f_R_keep_52 n v2 v3 w) (fun r u => ((0 : Int) ≤ r ∧ r ≤ 1) ∧ G md_R_keep b u) := by
  intro n
  induction n with
  | zero =>
    intro w v2 v3 hm hG i_v2 i_v3 a_0
    exfalso
    omega
  | succ n ih =>
    intro w v2 v3 hm hG i_v2 i_v3 a_0
    rw [f_R_keep_52]
    refine ok_ite (fun h4398 => ?_) (fun h4399 => ?_)
    · have := w32_sp ((v2 + (10 : Int)))
      refine ok_let (fun x10 e4400 => ?_)
      have : (41 : Int) ≤ x10 ∧ x10 ≤ 146 := by omega
      refine ok_gd (by omega) ?_
      have : (-2147483648 : Int) ≤ (w 43 10) ∧ (w 43 10) ≤ 2147483647 := hG.1 43 10
      have : (w 43 10) = (b 43 10) := hG.2.1 43 10 rfl
      refine ok_lw (fun u11 e4401 => ?_)
      have g4402 : G md_R_keep b u11 := g_st hG e4401 rfl rfl (by rw [r79_0 (by omega) (by omega)]; show (-2147483648 : Int) ≤ (w 43 10) ∧ (w 43 10) ≤ 2147483647; omega)
      have := w32_sp ((x10 + (1 : Int)))
      refine ok_gd (by omega) ?_
      have : (-2147483648 : Int) ≤ (u11 43 11) ∧ (u11 43 11) ≤ 2147483647 := g4402.1 43 11
      have : (u11 43 11) = (w 43 11) := (congrFun (congrFun e4401 43) 11).trans (st_c (by decide))
      have : (-2147483648 : Int) ≤ (w 43 11) ∧ (w 43 11) ≤ 2147483647 := hG.1 43 11
      have : (w 43 11) = (b 43 11) := hG.2.1 43 11 rfl
      refine ok_lw (fun u12 e4403 => ?_)
      have g4404 : G md_R_keep b u12 := g_st g4402 e4403 rfl rfl (by rw [r79_0 (by omega) (by omega)]; show (-2147483648 : Int) ≤ (u11 43 11) ∧ (u11 43 11) ≤ 2147483647; omega)
      have := w32_sp ((x10 + (2 : Int)))
      refine ok_gd (by omega) ?_
      have : (0 : Int) ≤ (u12 43 8) ∧ (u12 43 8) ≤ 60 := g4404.1 43 8
      have : (u12 43 8) = (u11 43 8) := (congrFun (congrFun e4403 43) 8).trans (st_c (by decide))
      have : (0 : Int) ≤ (u11 43 8) ∧ (u11 43 8) ≤ 60 := g4402.1 43 8
      have : (u11 43 8) = (w 43 8) := (congrFun (congrFun e4401 43) 8).trans (st_c (by decide))
      have : (0 : Int) ≤ (w 43 8) ∧ (w 43 8) ≤ 60 := hG.1 43 8
      have : (w 43 8) = (b 43 8) := hG.2.1 43 8 rfl
      refine ok_lw (fun u13 e4405 => ?_)
      have g4406 : G md_R_keep b u13 := g_st g4404 e4405 rfl rfl (by rw [r79_w (by omega)]; show (0 : Int) ≤ (u12 43 8) ∧ (u12 43 8) ≤ 60; omega)
      exact s_R_keep_125 FU (by have := eqFU; omega) g4406 (by omega) (by omega) (by omega)
    · refine ok_gd (by omega) ?_
      have : (0 : Int) ≤ (w 46 (v3).toNat) ∧ (w 46 (v3).toNat) ≤ 1 := hG.1 46 (v3).toNat
      refine ok_ite (fun h4407 => ?_) (fun h4408 => ?_)
      · have := w32_sp ((v2 + v3))
        exact s_R_keep_79 ih hG (by omega) (by omega) (by omega) (by omega) (by omega) (by omega) (by omega)
      · have := w32_sp ((v2 + v3))
        exact s_R_keep_79 ih hG (by omega) (by omega) (by omega) (by omega) (by omega) (by omega) (by omega)
theorem s_R_keep {w : Wd} {v1 : Int} (hG : G md_R_keep w w) (i_v1 : ((-2147483648 : Int) ≤ v1 ∧ v1 ≤ 2147483647)) : OK (f_R_keep v1 w) (fun r u => ((0 : Int) ≤ r ∧ r ≤ 1) ∧ G md_R_keep w u) := by
  unfold f_R_keep
  refine ok_lw (fun u1 e4409 => ?_)
  have g4410 : G md_R_keep w u1 := g_st hG e4409 rfl rfl (show (0 : Int) ≤ (0 : Int) ∧ (0 : Int) ≤ 1 by omega)
  refine ok_jite (fun h4412 => ?_) (fun h4413 => ?_)
  · refine ok_jsome ?_
    refine ok_it (by decide) ?_
    exact ok_some ⟨by omega, g4410⟩
  · refine ok_jite (fun h4414 => ?_) (fun h4415 => ?_)
    · refine ok_jsome ?_
      refine ok_it (by decide) ?_
      exact ok_some ⟨by omega, g4410⟩
    · refine ok_jsome ?_
      refine ok_if (by decide) ?_
      refine ok_gd (by omega) ?_
      have := nz_rg (1 : Int)
      refine ok_lw (fun u4 e4416 => ?_)
      have g4417 : G md_R_keep w u4 := g_st g4410 e4416 rfl rfl (show (0 : Int) ≤ (nz (1 : Int)) ∧ (nz (1 : Int)) ≤ 1 by omega)
      refine ok_gd (by omega) ?_
      have : (-2147483648 : Int) ≤ (u4 43 56) ∧ (u4 43 56) ≤ 2147483647 := g4417.1 43 56
      have : (u4 43 56) = (u1 43 56) := (congrFun (congrFun e4416 43) 56).trans (st_c (by decide))
      have : (-2147483648 : Int) ≤ (u1 43 56) ∧ (u1 43 56) ≤ 2147483647 := g4410.1 43 56
      have : (u1 43 56) = (w 43 56) := (congrFun (congrFun e4409 43) 56).trans (st_k (by decide))
      have : (-2147483648 : Int) ≤ (w 43 56) ∧ (w 43 56) ≤ 2147483647 := hG.1 43 56
      refine ok_lw (fun u5 e4418 => ?_)
      have g4419 : G md_R_keep w u5 := g_st g4417 e4418 rfl rfl (show (-2147483648 : Int) ≤ (u4 43 56) ∧ (u4 43 56) ≤ 2147483647 by omega)
      have := w32_sp (((105 : Int) * v1))
      refine ok_let (fun x6 e4420 => ?_)
      have : (0 : Int) ≤ x6 ∧ x6 ≤ 105 := by omega
      refine ok_call (s_R_lay_43_79 (g_self g4419) (by omega) (by omega)) (fun r7 u8 q => ?_)
      obtain ⟨i4421, g4422⟩ := q
      have g4423 : G md_R_keep w u8 := g_tr g4419 g4422 rfl
      have := w32_sp ((x6 + (31 : Int)))
      refine ok_let (fun x9 e4424 => ?_)
      have : (31 : Int) ≤ x9 ∧ x9 ≤ 136 := by omega
      exact s_R_keep_52 FU (by have := eqFU; omega) g4423 (by omega) (by omega) (by omega)
theorem s_R_bring_43_79_2 {b : Wd} : ∀ (n : Nat) {w : Wd} {v2 v3 : Int}, ((11 : Int) - v3) < (n : Int) → G md_R_bring_43_79 b w → ((0 : Int) ≤ v2 ∧ v2 ≤ 105) → ((0 : Int) ≤ v3 ∧ v3 ≤ 10) → ((v2 % (105 : Int)) = (0 : Int)) → OK (f_R_bring_43_79_2 n v2 v3 w) (fun r u => ((0 : Int) ≤ r ∧ r ≤ 0) ∧ G md_R_bring_43_79 b u) := by
  intro n
  induction n with
  | zero =>
    intro w v2 v3 hm hG i_v2 i_v3 a_0
    exfalso
    omega
  | succ n ih =>
    intro w v2 v3 hm hG i_v2 i_v3 a_0
    rw [f_R_bring_43_79_2]
    have : (0 : Int) ≤ (w 43 0) ∧ (w 43 0) ≤ 10 := hG.1 43 0
    have : (w 43 0) = (b 43 0) := hG.2.1 43 0 rfl
    refine ok_ite (fun h4425 => ?_) (fun h4426 => ?_)
    · have := w32_sp ((v2 + (30 : Int)))
      refine ok_gd (by omega) ?_
      have : (-2147483648 : Int) ≤ (w 79 ((w32 (v2 + (30 : Int)))).toNat) ∧ (w 79 ((w32 (v2 + (30 : Int)))).toNat) ≤ 2147483647 := by have h0 := hG.1 79 ((w32 (v2 + (30 : Int)))).toNat; rw [r79_0 (by omega) (by omega)] at h0; exact h0
      refine ok_lw (fun u1 e4427 => ?_)
      have g4428 : G md_R_bring_43_79 b u1 := g_st hG e4427 rfl rfl (show (-2147483648 : Int) ≤ (w 79 ((w32 (v2 + (30 : Int)))).toNat) ∧ (w 79 ((w32 (v2 + (30 : Int)))).toNat) ≤ 2147483647 by omega)
      exact ok_some ⟨by omega, g4428⟩
    · have := w32_sp (((3 : Int) * v3))
      have := w32_sp ((v2 + (w32 ((3 : Int) * v3))))
      refine ok_gd (by omega) ?_
      refine ok_gd (by omega) ?_
      have : (-2147483648 : Int) ≤ (w 79 ((w32 (v2 + (w32 ((3 : Int) * v3))))).toNat) ∧ (w 79 ((w32 (v2 + (w32 ((3 : Int) * v3))))).toNat) ≤ 2147483647 := by have h0 := hG.1 79 ((w32 (v2 + (w32 ((3 : Int) * v3))))).toNat; rw [r79_0 (by omega) (by omega)] at h0; exact h0
      refine ok_lw (fun u2 e4429 => ?_)
      have g4430 : G md_R_bring_43_79 b u2 := g_st hG e4429 rfl rfl (show (-2147483648 : Int) ≤ (w 79 ((w32 (v2 + (w32 ((3 : Int) * v3))))).toNat) ∧ (w 79 ((w32 (v2 + (w32 ((3 : Int) * v3))))).toNat) ≤ 2147483647 by omega)
      have := w32_sp (((w32 (v2 + (w32 ((3 : Int) * v3)))) + (1 : Int)))
      refine ok_gd (by omega) ?_
      refine ok_gd (by omega) ?_
      have : (-1 : Int) ≤ (u2 79 ((w32 ((w32 (v2 + (w32 ((3 : Int) * v3)))) + (1 : Int)))).toNat) ∧ (u2 79 ((w32 ((w32 (v2 + (w32 ((3 : Int) * v3)))) + (1 : Int)))).toNat) ≤ 9 := by have h0 := g4430.1 79 ((w32 ((w32 (v2 + (w32 ((3 : Int) * v3)))) + (1 : Int)))).toNat; rw [r79_1 (by omega) (by omega)] at h0; exact h0
      have : (u2 79 ((w32 ((w32 (v2 + (w32 ((3 : Int) * v3)))) + (1 : Int)))).toNat) = (w 79 ((w32 ((w32 (v2 + (w32 ((3 : Int) * v3)))) + (1 : Int)))).toNat) := (congrFun (congrFun e4429 79) ((w32 ((w32 (v2 + (w32 ((3 : Int) * v3)))) + (1 : Int)))).toNat).trans (st_c (by decide))
      have : (-1 : Int) ≤ (w 79 ((w32 ((w32 (v2 + (w32 ((3 : Int) * v3)))) + (1 : Int)))).toNat) ∧ (w 79 ((w32 ((w32 (v2 + (w32 ((3 : Int) * v3)))) + (1 : Int)))).toNat) ≤ 9 := by have h0 := hG.1 79 ((w32 ((w32 (v2 + (w32 ((3 : Int) * v3)))) + (1 : Int)))).toNat; rw [r79_1 (by omega) (by omega)] at h0; exact h0
      refine ok_lw (fun u3 e4431 => ?_)
      have g4432 : G md_R_bring_43_79 b u3 := g_st g4430 e4431 rfl rfl (show (-1 : Int) ≤ (u2 79 ((w32 ((w32 (v2 + (w32 ((3 : Int) * v3)))) + (1 : Int)))).toNat) ∧ (u2 79 ((w32 ((w32 (v2 + (w32 ((3 : Int) * v3)))) + (1 : Int)))).toNat) ≤ 9 by omega)
      have := w32_sp (((w32 (v2 + (w32 ((3 : Int) * v3)))) + (2 : Int)))
      refine ok_gd (by omega) ?_
      refine ok_gd (by omega) ?_
      have : (-2147483648 : Int) ≤ (u3 79 ((w32 ((w32 (v2 + (w32 ((3 : Int) * v3)))) + (2 : Int)))).toNat) ∧ (u3 79 ((w32 ((w32 (v2 + (w32 ((3 : Int) * v3)))) + (2 : Int)))).toNat) ≤ 2147483647 := by have h0 := g4432.1 79 ((w32 ((w32 (v2 + (w32 ((3 : Int) * v3)))) + (2 : Int)))).toNat; rw [r79_0 (by omega) (by omega)] at h0; exact h0
      have : (u3 79 ((w32 ((w32 (v2 + (w32 ((3 : Int) * v3)))) + (2 : Int)))).toNat) = (u2 79 ((w32 ((w32 (v2 + (w32 ((3 : Int) * v3)))) + (2 : Int)))).toNat) := (congrFun (congrFun e4431 79) ((w32 ((w32 (v2 + (w32 ((3 : Int) * v3)))) + (2 : Int)))).toNat).trans (st_c (by decide))
      have : (-2147483648 : Int) ≤ (u2 79 ((w32 ((w32 (v2 + (w32 ((3 : Int) * v3)))) + (2 : Int)))).toNat) ∧ (u2 79 ((w32 ((w32 (v2 + (w32 ((3 : Int) * v3)))) + (2 : Int)))).toNat) ≤ 2147483647 := by have h0 := g4430.1 79 ((w32 ((w32 (v2 + (w32 ((3 : Int) * v3)))) + (2 : Int)))).toNat; rw [r79_0 (by omega) (by omega)] at h0; exact h0
      have : (u2 79 ((w32 ((w32 (v2 + (w32 ((3 : Int) * v3)))) + (2 : Int)))).toNat) = (w 79 ((w32 ((w32 (v2 + (w32 ((3 : Int) * v3)))) + (2 : Int)))).toNat) := (congrFun (congrFun e4429 79) ((w32 ((w32 (v2 + (w32 ((3 : Int) * v3)))) + (2 : Int)))).toNat).trans (st_c (by decide))
      have : (-2147483648 : Int) ≤ (w 79 ((w32 ((w32 (v2 + (w32 ((3 : Int) * v3)))) + (2 : Int)))).toNat) ∧ (w 79 ((w32 ((w32 (v2 + (w32 ((3 : Int) * v3)))) + (2 : Int)))).toNat) ≤ 2147483647 := by have h0 := hG.1 79 ((w32 ((w32 (v2 + (w32 ((3 : Int) * v3)))) + (2 : Int)))).toNat; rw [r79_0 (by omega) (by omega)] at h0; exact h0
      refine ok_lw (fun u4 e4433 => ?_)
      have g4434 : G md_R_bring_43_79 b u4 := g_st g4432 e4433 rfl rfl (show (-2147483648 : Int) ≤ (u3 79 ((w32 ((w32 (v2 + (w32 ((3 : Int) * v3)))) + (2 : Int)))).toNat) ∧ (u3 79 ((w32 ((w32 (v2 + (w32 ((3 : Int) * v3)))) + (2 : Int)))).toNat) ≤ 2147483647 by omega)
      have := w32_sp ((v3 + (1 : Int)))
      refine ok_let (fun x5 e4435 => ?_)
      have : (1 : Int) ≤ x5 ∧ x5 ≤ 10 := by omega
      exact ih (by omega) g4434 (by omega) (by omega) (by omega)
theorem s_R_bring_43_79 {w : Wd} {v2 : Int} (hG : G md_R_bring_43_79 w w) (i_v2 : ((0 : Int) ≤ v2 ∧ v2 ≤ 105)) (a_0 : ((v2 % (105 : Int)) = (0 : Int))) : OK (f_R_bring_43_79 v2 w) (fun r u => ((0 : Int) ≤ r ∧ r ≤ 0) ∧ G md_R_bring_43_79 w u) := by
  unfold f_R_bring_43_79
  exact s_R_bring_43_79_2 FU (by have := eqFU; omega) hG (by omega) (by omega) (by omega)
theorem s_R_again_133 {b : Wd} : ∀ (n : Nat) {w : Wd} {v2 v3 : Int}, ((62 : Int) - v3) < (n : Int) → G md_R_again b w → ((41 : Int) ≤ v2 ∧ v2 ≤ 146) → ((0 : Int) ≤ v3 ∧ v3 ≤ 61) → ((v2 % (105 : Int)) = (41 : Int)) → OK (f_R_again_133 n v2 v3 w) (fun r u => ((0 : Int) ≤ r ∧ r ≤ 1) ∧ G md_R_again b u ∧ (((r = (0 : Int)) ∧ (((u 43 32) = (b 43 32)) ∧ ((u 43 8) = (b 43 8)))) ∨ ((u 43 32) = (0 : Int)))) := by
  intro n
  induction n with
  | zero =>
    intro w v2 v3 hm hG i_v2 i_v3 a_0
    exfalso
    omega
  | succ n ih =>
    intro w v2 v3 hm hG i_v2 i_v3 a_0
    rw [f_R_again_133]
    refine ok_ite (fun h4436 => ?_) (fun h4437 => ?_)
    · refine ok_lw (fun u12 e4438 => ?_)
      have g4439 : G md_R_again b u12 := g_st hG e4438 rfl rfl (show (0 : Int) ≤ (0 : Int) ∧ (0 : Int) ≤ 60 by omega)
      have : (0 : Int) ≤ (u12 43 32) ∧ (u12 43 32) ≤ 60 := g4439.1 43 32
      have : (u12 43 32) = (0 : Int) := (congrFun (congrFun e4438 43) 32).trans (st_eq _ _ _ _)
      have : (0 : Int) ≤ (u12 43 8) ∧ (u12 43 8) ≤ 60 := g4439.1 43 8
      have : (u12 43 8) = (w 43 8) := (congrFun (congrFun e4438 43) 8).trans (st_k (by decide))
      have : (0 : Int) ≤ (w 43 8) ∧ (w 43 8) ≤ 60 := hG.1 43 8
      exact ok_some ⟨by omega, g4439, (by omega)⟩
    · have := w32_sp ((v2 + (3 : Int)))
      have := w32_sp (((w32 (v2 + (3 : Int))) + v3))
      refine ok_gd (by omega) ?_
      refine ok_gd (by omega) ?_
      have : (-2147483648 : Int) ≤ (w 79 ((w32 ((w32 (v2 + (3 : Int))) + v3))).toNat) ∧ (w 79 ((w32 ((w32 (v2 + (3 : Int))) + v3))).toNat) ≤ 2147483647 := by have h0 := hG.1 79 ((w32 ((w32 (v2 + (3 : Int))) + v3))).toNat; rw [r79_0 (by omega) (by omega)] at h0; exact h0
      refine ok_lw (fun u13 e4440 => ?_)
      have g4441 : G md_R_again b u13 := g_st hG e4440 rfl rfl (show (-2147483648 : Int) ≤ (w 79 ((w32 ((w32 (v2 + (3 : Int))) + v3))).toNat) ∧ (w 79 ((w32 ((w32 (v2 + (3 : Int))) + v3))).toNat) ≤ 2147483647 by omega)
      have := w32_sp ((v3 + (1 : Int)))
      refine ok_let (fun x14 e4442 => ?_)
      have : (1 : Int) ≤ x14 ∧ x14 ≤ 61 := by omega
      exact ih (by omega) g4441 (by omega) (by omega) (by omega)
theorem s_R_again_87 {b : Wd} {k57 : Int → Int → Wd → Option (Int × Wd)} {Bk57 : Int} (hk57 : ∀ {w1 : Wd} {v2 v3 : Int}, ((11 : Int) - v3) < Bk57 → G md_R_again b w1 → ((31 : Int) ≤ v2 ∧ v2 ≤ 136) → ((0 : Int) ≤ v3 ∧ v3 ≤ 10) → ((v2 % (105 : Int)) = (31 : Int)) → OK (k57 v2 v3 w1) (fun r u => ((0 : Int) ≤ r ∧ r ≤ 1) ∧ G md_R_again b u ∧ (((r = (0 : Int)) ∧ (((u 43 32) = (b 43 32)) ∧ ((u 43 8) = (b 43 8)))) ∨ ((u 43 32) = (0 : Int))))) {w : Wd} {v2 v3 s1 s2 : Int} (hG : G md_R_again b w) (i_v2 : ((31 : Int) ≤ v2 ∧ v2 ≤ 136)) (i_v3 : ((0 : Int) ≤ v3 ∧ v3 ≤ 9)) (i_s1 : ((0 : Int) ≤ s1 ∧ s1 ≤ 9)) (i_s2 : ((0 : Int) ≤ s2 ∧ s2 ≤ 1)) (a_0 : ((v2 % (105 : Int)) = (31 : Int))) (hBk57 : ((11 : Int) - v3) ≤ Bk57) : OK (f_R_again_87 k57 v2 v3 s1 s2 w) (fun r u => ((0 : Int) ≤ r ∧ r ≤ 1) ∧ G md_R_again b u ∧ (((r = (0 : Int)) ∧ (((u 43 32) = (b 43 32)) ∧ ((u 43 8) = (b 43 8)))) ∨ ((u 43 32) = (0 : Int)))) := by
  unfold f_R_again_87
  refine ok_gd (by omega) ?_
  have := nz_rg s2
  refine ok_lw (fun u15 e4443 => ?_)
  have g4444 : G md_R_again b u15 := g_st hG e4443 rfl rfl (show (0 : Int) ≤ (nz s2) ∧ (nz s2) ≤ 1 by omega)
  have := w32_sp ((v3 + (1 : Int)))
  refine ok_let (fun x16 e4445 => ?_)
  have : (1 : Int) ≤ x16 ∧ x16 ≤ 10 := by omega
  exact hk57 (by omega) g4444 (by omega) (by omega) (by omega)
theorem s_R_again_57 {b : Wd} : ∀ (n : Nat) {w : Wd} {v2 v3 : Int}, ((11 : Int) - v3) < (n : Int) → G md_R_again b w → ((31 : Int) ≤ v2 ∧ v2 ≤ 136) → ((0 : Int) ≤ v3 ∧ v3 ≤ 10) → ((v2 % (105 : Int)) = (31 : Int)) → OK (f_R_again_57 n v2 v3 w) (fun r u => ((0 : Int) ≤ r ∧ r ≤ 1) ∧ G md_R_again b u ∧ (((r = (0 : Int)) ∧ (((u 43 32) = (b 43 32)) ∧ ((u 43 8) = (b 43 8)))) ∨ ((u 43 32) = (0 : Int)))) := by
  intro n
  induction n with
  | zero =>
    intro w v2 v3 hm hG i_v2 i_v3 a_0
    exfalso
    omega
  | succ n ih =>
    intro w v2 v3 hm hG i_v2 i_v3 a_0
    rw [f_R_again_57]
    have : (0 : Int) ≤ (w 43 0) ∧ (w 43 0) ≤ 10 := hG.1 43 0
    have : (w 43 0) = (b 43 0) := hG.2.1 43 0 rfl
    refine ok_ite (fun h4446 => ?_) (fun h4447 => ?_)
    · have := w32_sp ((v2 + (10 : Int)))
      refine ok_let (fun x8 e4448 => ?_)
      have : (41 : Int) ≤ x8 ∧ x8 ≤ 146 := by omega
      refine ok_gd (by omega) ?_
      have : (-2147483648 : Int) ≤ (w 79 (x8).toNat) ∧ (w 79 (x8).toNat) ≤ 2147483647 := by have h0 := hG.1 79 (x8).toNat; rw [r79_0 (by omega) (by omega)] at h0; exact h0
      refine ok_lw (fun u9 e4449 => ?_)
      have g4450 : G md_R_again b u9 := g_st hG e4449 rfl rfl (show (-2147483648 : Int) ≤ (w 79 (x8).toNat) ∧ (w 79 (x8).toNat) ≤ 2147483647 by omega)
      have := w32_sp ((x8 + (1 : Int)))
      refine ok_gd (by omega) ?_
      have : (-2147483648 : Int) ≤ (u9 79 ((w32 (x8 + (1 : Int)))).toNat) ∧ (u9 79 ((w32 (x8 + (1 : Int)))).toNat) ≤ 2147483647 := by have h0 := g4450.1 79 ((w32 (x8 + (1 : Int)))).toNat; rw [r79_0 (by omega) (by omega)] at h0; exact h0
      have : (u9 79 ((w32 (x8 + (1 : Int)))).toNat) = (w 79 ((w32 (x8 + (1 : Int)))).toNat) := (congrFun (congrFun e4449 79) ((w32 (x8 + (1 : Int)))).toNat).trans (st_c (by decide))
      have : (-2147483648 : Int) ≤ (w 79 ((w32 (x8 + (1 : Int)))).toNat) ∧ (w 79 ((w32 (x8 + (1 : Int)))).toNat) ≤ 2147483647 := by have h0 := hG.1 79 ((w32 (x8 + (1 : Int)))).toNat; rw [r79_0 (by omega) (by omega)] at h0; exact h0
      refine ok_lw (fun u10 e4451 => ?_)
      have g4452 : G md_R_again b u10 := g_st g4450 e4451 rfl rfl (show (-2147483648 : Int) ≤ (u9 79 ((w32 (x8 + (1 : Int)))).toNat) ∧ (u9 79 ((w32 (x8 + (1 : Int)))).toNat) ≤ 2147483647 by omega)
      have := w32_sp ((x8 + (2 : Int)))
      refine ok_gd (by omega) ?_
      have : (0 : Int) ≤ (u10 79 ((w32 (x8 + (2 : Int)))).toNat) ∧ (u10 79 ((w32 (x8 + (2 : Int)))).toNat) ≤ 60 := by have h0 := g4452.1 79 ((w32 (x8 + (2 : Int)))).toNat; rw [r79_w (by omega)] at h0; exact h0
      have : (u10 79 ((w32 (x8 + (2 : Int)))).toNat) = (u9 79 ((w32 (x8 + (2 : Int)))).toNat) := (congrFun (congrFun e4451 79) ((w32 (x8 + (2 : Int)))).toNat).trans (st_c (by decide))
      have : (0 : Int) ≤ (u9 79 ((w32 (x8 + (2 : Int)))).toNat) ∧ (u9 79 ((w32 (x8 + (2 : Int)))).toNat) ≤ 60 := by have h0 := g4450.1 79 ((w32 (x8 + (2 : Int)))).toNat; rw [r79_w (by omega)] at h0; exact h0
      have : (u9 79 ((w32 (x8 + (2 : Int)))).toNat) = (w 79 ((w32 (x8 + (2 : Int)))).toNat) := (congrFun (congrFun e4449 79) ((w32 (x8 + (2 : Int)))).toNat).trans (st_c (by decide))
      have : (0 : Int) ≤ (w 79 ((w32 (x8 + (2 : Int)))).toNat) ∧ (w 79 ((w32 (x8 + (2 : Int)))).toNat) ≤ 60 := by have h0 := hG.1 79 ((w32 (x8 + (2 : Int)))).toNat; rw [r79_w (by omega)] at h0; exact h0
      refine ok_lw (fun u11 e4453 => ?_)
      have g4454 : G md_R_again b u11 := g_st g4452 e4453 rfl rfl (show (0 : Int) ≤ (u10 79 ((w32 (x8 + (2 : Int)))).toNat) ∧ (u10 79 ((w32 (x8 + (2 : Int)))).toNat) ≤ 60 by omega)
      exact s_R_again_133 FU (by have := eqFU; omega) g4454 (by omega) (by omega) (by omega)
    · have := w32_sp ((v2 + v3))
      refine ok_gd (by omega) ?_
      have : (-2147483648 : Int) ≤ (w 79 ((w32 (v2 + v3))).toNat) ∧ (w 79 ((w32 (v2 + v3))).toNat) ≤ 2147483647 := by have h0 := hG.1 79 ((w32 (v2 + v3))).toNat; rw [r79_0 (by omega) (by omega)] at h0; exact h0
      refine ok_ite (fun h4455 => ?_) (fun h4456 => ?_)
      · exact s_R_again_87 ih hG (by omega) (by omega) (by omega) (by omega) (by omega) (by omega)
      · exact s_R_again_87 ih hG (by omega) (by omega) (by omega) (by omega) (by omega) (by omega)
theorem s_R_again {w : Wd} {v1 : Int} (hG : G md_R_again w w) (i_v1 : ((-2147483648 : Int) ≤ v1 ∧ v1 ≤ 2147483647)) : OK (f_R_again v1 w) (fun r u => ((0 : Int) ≤ r ∧ r ≤ 1) ∧ G md_R_again w u ∧ (((r = (0 : Int)) ∧ (((u 43 32) = (w 43 32)) ∧ ((u 43 8) = (w 43 8)))) ∨ ((u 43 32) = (0 : Int)))) := by
  unfold f_R_again
  refine ok_lw (fun u1 e4457 => ?_)
  have g4458 : G md_R_again w u1 := g_st hG e4457 rfl rfl (show (0 : Int) ≤ (0 : Int) ∧ (0 : Int) ≤ 1 by omega)
  refine ok_jite (fun h4460 => ?_) (fun h4461 => ?_)
  · refine ok_jsome ?_
    refine ok_it (by decide) ?_
    have : (0 : Int) ≤ (u1 43 32) ∧ (u1 43 32) ≤ 60 := g4458.1 43 32
    have : (u1 43 32) = (w 43 32) := (congrFun (congrFun e4457 43) 32).trans (st_k (by decide))
    have : (0 : Int) ≤ (w 43 32) ∧ (w 43 32) ≤ 60 := hG.1 43 32
    have : (0 : Int) ≤ (u1 43 8) ∧ (u1 43 8) ≤ 60 := g4458.1 43 8
    have : (u1 43 8) = (w 43 8) := (congrFun (congrFun e4457 43) 8).trans (st_k (by decide))
    have : (0 : Int) ≤ (w 43 8) ∧ (w 43 8) ≤ 60 := hG.1 43 8
    exact ok_some ⟨by omega, g4458, (by omega)⟩
  · refine ok_jite (fun h4462 => ?_) (fun h4463 => ?_)
    · refine ok_jsome ?_
      refine ok_it (by decide) ?_
      have : (0 : Int) ≤ (u1 43 32) ∧ (u1 43 32) ≤ 60 := g4458.1 43 32
      have : (u1 43 32) = (w 43 32) := (congrFun (congrFun e4457 43) 32).trans (st_k (by decide))
      have : (0 : Int) ≤ (w 43 32) ∧ (w 43 32) ≤ 60 := hG.1 43 32
      have : (0 : Int) ≤ (u1 43 8) ∧ (u1 43 8) ≤ 60 := g4458.1 43 8
      have : (u1 43 8) = (w 43 8) := (congrFun (congrFun e4457 43) 8).trans (st_k (by decide))
      have : (0 : Int) ≤ (w 43 8) ∧ (w 43 8) ≤ 60 := hG.1 43 8
      exact ok_some ⟨by omega, g4458, (by omega)⟩
    · refine ok_jsome ?_
      refine ok_if (by decide) ?_
      refine ok_gd (by omega) ?_
      have : (0 : Int) ≤ (u1 80 (v1).toNat) ∧ (u1 80 (v1).toNat) ≤ 1 := g4458.1 80 (v1).toNat
      have : (u1 80 (v1).toNat) = (w 80 (v1).toNat) := (congrFun (congrFun e4457 80) (v1).toNat).trans (st_c (by decide))
      have : (0 : Int) ≤ (w 80 (v1).toNat) ∧ (w 80 (v1).toNat) ≤ 1 := hG.1 80 (v1).toNat
      refine ok_ite (fun h4464 => ?_) (fun h4465 => ?_)
      · have : (0 : Int) ≤ (u1 43 32) ∧ (u1 43 32) ≤ 60 := g4458.1 43 32
        have : (u1 43 32) = (w 43 32) := (congrFun (congrFun e4457 43) 32).trans (st_k (by decide))
        have : (0 : Int) ≤ (w 43 32) ∧ (w 43 32) ≤ 60 := hG.1 43 32
        have : (0 : Int) ≤ (u1 43 8) ∧ (u1 43 8) ≤ 60 := g4458.1 43 8
        have : (u1 43 8) = (w 43 8) := (congrFun (congrFun e4457 43) 8).trans (st_k (by decide))
        have : (0 : Int) ≤ (w 43 8) ∧ (w 43 8) ≤ 60 := hG.1 43 8
        exact ok_some ⟨by omega, g4458, (by omega)⟩
      · refine ok_gd (by omega) ?_
        have : (-2147483648 : Int) ≤ (u1 81 (v1).toNat) ∧ (u1 81 (v1).toNat) ≤ 2147483647 := g4458.1 81 (v1).toNat
        have : (u1 81 (v1).toNat) = (w 81 (v1).toNat) := (congrFun (congrFun e4457 81) (v1).toNat).trans (st_c (by decide))
        have : (-2147483648 : Int) ≤ (w 81 (v1).toNat) ∧ (w 81 (v1).toNat) ≤ 2147483647 := hG.1 81 (v1).toNat
        have : (-2147483648 : Int) ≤ (u1 43 56) ∧ (u1 43 56) ≤ 2147483647 := g4458.1 43 56
        have : (u1 43 56) = (w 43 56) := (congrFun (congrFun e4457 43) 56).trans (st_k (by decide))
        have : (-2147483648 : Int) ≤ (w 43 56) ∧ (w 43 56) ≤ 2147483647 := hG.1 43 56
        refine ok_ite (fun h4466 => ?_) (fun h4467 => ?_)
        · have := w32_sp (((105 : Int) * v1))
          refine ok_let (fun x4 e4468 => ?_)
          have : (0 : Int) ≤ x4 ∧ x4 ≤ 105 := by omega
          refine ok_call (s_R_bring_43_79 (g_self g4458) (by omega) (by omega)) (fun r5 u6 q => ?_)
          obtain ⟨i4469, g4470⟩ := q
          have g4471 : G md_R_again w u6 := g_tr g4458 g4470 rfl
          have := w32_sp ((x4 + (31 : Int)))
          refine ok_let (fun x7 e4472 => ?_)
          have : (31 : Int) ≤ x7 ∧ x7 ≤ 136 := by omega
          exact s_R_again_57 FU (by have := eqFU; omega) g4471 (by omega) (by omega) (by omega)
        · have : (0 : Int) ≤ (u1 43 32) ∧ (u1 43 32) ≤ 60 := g4458.1 43 32
          have : (u1 43 32) = (w 43 32) := (congrFun (congrFun e4457 43) 32).trans (st_k (by decide))
          have : (0 : Int) ≤ (w 43 32) ∧ (w 43 32) ≤ 60 := hG.1 43 32
          have : (0 : Int) ≤ (u1 43 8) ∧ (u1 43 8) ≤ 60 := g4458.1 43 8
          have : (u1 43 8) = (w 43 8) := (congrFun (congrFun e4457 43) 8).trans (st_k (by decide))
          have : (0 : Int) ≤ (w 43 8) ∧ (w 43 8) ≤ 60 := hG.1 43 8
          exact ok_some ⟨by omega, g4458, (by omega)⟩
theorem s_R_count {w : Wd} {v1 : Int} (hG : G md_R_count w w) (i_v1 : ((-2147483648 : Int) ≤ v1 ∧ v1 ≤ 2147483647)) : OK (f_R_count v1 w) (fun r u => ((-2147483648 : Int) ≤ r ∧ r ≤ 2147483647) ∧ G md_R_count w u) := by
  unfold f_R_count
  refine ok_lw (fun u1 e4473 => ?_)
  have g4474 : G md_R_count w u1 := g_st hG e4473 rfl rfl (show (0 : Int) ≤ (0 : Int) ∧ (0 : Int) ≤ 1 by omega)
  refine ok_ite (fun h4475 => ?_) (fun h4476 => ?_)
  · exact ok_some ⟨by omega, g4474⟩
  · refine ok_ite (fun h4477 => ?_) (fun h4478 => ?_)
    · have : (0 : Int) ≤ (u1 43 0) ∧ (u1 43 0) ≤ 10 := g4474.1 43 0
      have : (u1 43 0) = (w 43 0) := (congrFun (congrFun e4473 43) 0).trans (st_k (by decide))
      have : (0 : Int) ≤ (w 43 0) ∧ (w 43 0) ≤ 10 := hG.1 43 0
      exact ok_some ⟨by omega, g4474⟩
    · refine ok_ite (fun h4479 => ?_) (fun h4480 => ?_)
      · have : (0 : Int) ≤ (u1 43 8) ∧ (u1 43 8) ≤ 60 := g4474.1 43 8
        have : (u1 43 8) = (w 43 8) := (congrFun (congrFun e4473 43) 8).trans (st_k (by decide))
        have : (0 : Int) ≤ (w 43 8) ∧ (w 43 8) ≤ 60 := hG.1 43 8
        exact ok_some ⟨by omega, g4474⟩
      · refine ok_ite (fun h4481 => ?_) (fun h4482 => ?_)
        · refine ok_call (s_R_guests (g_self g4474)) (fun r2 u3 q => ?_)
          obtain ⟨i4483, g4484⟩ := q
          have g4485 : G md_R_count w u3 := g_tr g4474 g4484 rfl
          exact ok_some ⟨by omega, g4485⟩
        · refine ok_ite (fun h4486 => ?_) (fun h4487 => ?_)
          · refine ok_call (s_R_those (g_self g4474) (by omega) (by omega)) (fun r4 u5 q => ?_)
            obtain ⟨i4488, g4489⟩ := q
            have g4490 : G md_R_count w u5 := g_tr g4474 g4489 rfl
            exact ok_some ⟨by omega, g4490⟩
          · refine ok_ite (fun h4491 => ?_) (fun h4492 => ?_)
            · refine ok_call (s_R_those (g_self g4474) (by omega) (by omega)) (fun r6 u7 q => ?_)
              obtain ⟨i4493, g4494⟩ := q
              have g4495 : G md_R_count w u7 := g_tr g4474 g4494 rfl
              exact ok_some ⟨by omega, g4495⟩
            · refine ok_ite (fun h4496 => ?_) (fun h4497 => ?_)
              · have : (-2147483648 : Int) ≤ (u1 43 7) ∧ (u1 43 7) ≤ 2147483647 := g4474.1 43 7
                have : (u1 43 7) = (w 43 7) := (congrFun (congrFun e4473 43) 7).trans (st_k (by decide))
                have : (-2147483648 : Int) ≤ (w 43 7) ∧ (w 43 7) ≤ 2147483647 := hG.1 43 7
                exact ok_some ⟨by omega, g4474⟩
              · refine ok_ite (fun h4498 => ?_) (fun h4499 => ?_)
                · have : (0 : Int) ≤ (u1 43 32) ∧ (u1 43 32) ≤ 60 := g4474.1 43 32
                  have : (u1 43 32) = (w 43 32) := (congrFun (congrFun e4473 43) 32).trans (st_k (by decide))
                  have : (0 : Int) ≤ (w 43 32) ∧ (w 43 32) ≤ 60 := hG.1 43 32
                  exact ok_some ⟨by omega, g4474⟩
                · refine ok_ite (fun h4500 => ?_) (fun h4501 => ?_)
                  · have : (0 : Int) ≤ (u1 43 15) ∧ (u1 43 15) ≤ 16 := g4474.1 43 15
                    have : (u1 43 15) = (w 43 15) := (congrFun (congrFun e4473 43) 15).trans (st_k (by decide))
                    have : (0 : Int) ≤ (w 43 15) ∧ (w 43 15) ≤ 16 := hG.1 43 15
                    exact ok_some ⟨by omega, g4474⟩
                  · refine ok_ite (fun h4502 => ?_) (fun h4503 => ?_)
                    · have : (0 : Int) ≤ (u1 43 13) ∧ (u1 43 13) ≤ 80 := g4474.1 43 13
                      have : (u1 43 13) = (w 43 13) := (congrFun (congrFun e4473 43) 13).trans (st_k (by decide))
                      have : (0 : Int) ≤ (w 43 13) ∧ (w 43 13) ≤ 80 := hG.1 43 13
                      exact ok_some ⟨by omega, g4474⟩
                    · refine ok_it (by omega) ?_
                      refine ok_call (s_R_hidden (g_self g4474)) (fun r8 u9 q => ?_)
                      obtain ⟨i4504, g4505⟩ := q
                      have g4506 : G md_R_count w u9 := g_tr g4474 g4505 rfl
                      exact ok_some ⟨by omega, g4506⟩
theorem s_R_row {w : Wd} {v1 : Int} (hG : G md_R_row w w) (i_v1 : ((-2147483648 : Int) ≤ v1 ∧ v1 ≤ 2147483647)) : OK (f_R_row v1 w) (fun r u => ((-2147483648 : Int) ≤ r ∧ r ≤ 2147483647) ∧ G md_R_row w u) := by
  unfold f_R_row
  refine ok_lw (fun u1 e4507 => ?_)
  have g4508 : G md_R_row w u1 := g_st hG e4507 rfl rfl (show (0 : Int) ≤ (0 : Int) ∧ (0 : Int) ≤ 1 by omega)
  refine ok_jite (fun h4510 => ?_) (fun h4511 => ?_)
  · refine ok_jsome ?_
    refine ok_it (by decide) ?_
    refine ok_call (s_R_lost (g_self g4508)) (fun r4 u5 q => ?_)
    obtain ⟨i4512, g4513⟩ := q
    have g4514 : G md_R_row w u5 := g_tr g4508 g4513 rfl
    exact ok_some ⟨by omega, g4514⟩
  · have : (0 : Int) ≤ (u1 43 15) ∧ (u1 43 15) ≤ 16 := g4508.1 43 15
    have : (u1 43 15) = (w 43 15) := (congrFun (congrFun e4507 43) 15).trans (st_k (by decide))
    have : (0 : Int) ≤ (w 43 15) ∧ (w 43 15) ≤ 16 := hG.1 43 15
    have := w32_sp (((u1 43 15) - (1 : Int)))
    refine ok_jite (fun h4515 => ?_) (fun h4516 => ?_)
    · refine ok_jsome ?_
      refine ok_it (by decide) ?_
      refine ok_call (s_R_lost (g_self g4508)) (fun r4 u5 q => ?_)
      obtain ⟨i4517, g4518⟩ := q
      have g4519 : G md_R_row w u5 := g_tr g4508 g4518 rfl
      exact ok_some ⟨by omega, g4519⟩
    · refine ok_jsome ?_
      refine ok_if (by decide) ?_
      refine ok_gd (by omega) ?_
      have : (-2147483648 : Int) ≤ (u1 52 (v1).toNat) ∧ (u1 52 (v1).toNat) ≤ 2147483647 := g4508.1 52 (v1).toNat
      have : (u1 52 (v1).toNat) = (w 52 (v1).toNat) := (congrFun (congrFun e4507 52) (v1).toNat).trans (st_c (by decide))
      have : (-2147483648 : Int) ≤ (w 52 (v1).toNat) ∧ (w 52 (v1).toNat) ≤ 2147483647 := hG.1 52 (v1).toNat
      exact ok_some ⟨by omega, g4508⟩
