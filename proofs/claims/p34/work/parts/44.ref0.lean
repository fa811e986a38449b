theorem s_R_has {w : Wd} {v0 v1 : Int} (hG : G md_R_has w w) (i_v0 : ((0 : Int) ≤ v0 ∧ v0 ≤ 1023)) (i_v1 : ((0 : Int) ≤ v1 ∧ v1 ≤ 9)) : OK (f_R_has v0 v1 w) (fun r u => ((0 : Int) ≤ r ∧ r ≤ 1) ∧ G md_R_has w u) := by
  unfold f_R_has
  have := ishr_nn (x := v0) (y := v1) (by omega)
  have := iand_l (x := (ishr v0 v1)) (y := (1 : Int)) (by omega)
  have := iand_r (x := (ishr v0 v1)) (y := (1 : Int)) (by omega)
  refine ok_ite (fun h2317 => ?_) (fun h2318 => ?_)
  · exact ok_some ⟨by omega, hG⟩
  · exact ok_some ⟨by omega, hG⟩
theorem s_R_lost {w : Wd} (hG : G md_R_lost w w) : OK (f_R_lost w) (fun r u => ((0 : Int) ≤ r ∧ r ≤ 0) ∧ G md_R_lost w u) := by
  unfold f_R_lost
  refine ok_lw (fun u1 e2319 => ?_)
  have g2320 : G md_R_lost w u1 := g_st hG e2319 rfl rfl (show (0 : Int) ≤ (1 : Int) ∧ (1 : Int) ≤ 1 by omega)
  exact ok_some ⟨by omega, g2320⟩
theorem s_R_those_38 {b : Wd} {k5 : Int → Int → Int → Int → Wd → Option (Int × Wd)} {Bk5 : Int} (hk5 : ∀ {w1 : Wd} {v1 v2 v3 v4 : Int}, ((11 : Int) - v4) < Bk5 → G md_R_those b w1 → ((0 : Int) ≤ v1 ∧ v1 ≤ 4) → ((0 : Int) ≤ v2 ∧ v2 ≤ 4) → ((0 : Int) ≤ v3 ∧ v3 ≤ 1023) → ((0 : Int) ≤ v4 ∧ v4 ≤ 10) → OK (k5 v1 v2 v3 v4 w1) (fun r u => ((0 : Int) ≤ r ∧ r ≤ 1023) ∧ G md_R_those b u)) {w : Wd} {v1 v2 v4 s0 s1 : Int} (hG : G md_R_those b w) (i_v1 : ((0 : Int) ≤ v1 ∧ v1 ≤ 4)) (i_v2 : ((0 : Int) ≤ v2 ∧ v2 ≤ 4)) (i_v4 : ((0 : Int) ≤ v4 ∧ v4 ≤ 9)) (i_s0 : ((0 : Int) ≤ s0 ∧ s0 ≤ 1023)) (i_s1 : ((0 : Int) ≤ s1 ∧ s1 ≤ 512)) (hBk5 : ((11 : Int) - v4) ≤ Bk5) : OK (f_R_those_38 k5 v1 v2 v4 s0 s1 w) (fun r u => ((0 : Int) ≤ r ∧ r ≤ 1023) ∧ G md_R_those b u) := by
  unfold f_R_those_38
  have := ior_n 10 (x := s0) (y := s1) (m := 1023) (by decide) (by decide) (by omega) (by omega)
  refine ok_let (fun x3 e2321 => ?_)
  have : (0 : Int) ≤ x3 ∧ x3 ≤ 1023 := by omega
  have := w32_sp ((v4 + (1 : Int)))
  refine ok_let (fun x4 e2322 => ?_)
  have : (1 : Int) ≤ x4 ∧ x4 ≤ 10 := by omega
  exact hk5 (by omega) hG (by omega) (by omega) (by omega) (by omega)
theorem s_R_those_5 {b : Wd} : ∀ (n : Nat) {w : Wd} {v1 v2 v3 v4 : Int}, ((11 : Int) - v4) < (n : Int) → G md_R_those b w → ((0 : Int) ≤ v1 ∧ v1 ≤ 4) → ((0 : Int) ≤ v2 ∧ v2 ≤ 4) → ((0 : Int) ≤ v3 ∧ v3 ≤ 1023) → ((0 : Int) ≤ v4 ∧ v4 ≤ 10) → OK (f_R_those_5 n v1 v2 v3 v4 w) (fun r u => ((0 : Int) ≤ r ∧ r ≤ 1023) ∧ G md_R_those b u) := by
  intro n
  induction n with
  | zero =>
    intro w v1 v2 v3 v4 hm hG i_v1 i_v2 i_v3 i_v4
    exfalso
    omega
  | succ n ih =>
    intro w v1 v2 v3 v4 hm hG i_v1 i_v2 i_v3 i_v4
    rw [f_R_those_5]
    have : (0 : Int) ≤ (w 43 0) ∧ (w 43 0) ≤ 10 := hG.1 43 0
    have : (w 43 0) = (b 43 0) := hG.2.1 43 0 rfl
    refine ok_ite (fun h2323 => ?_) (fun h2324 => ?_)
    · exact ok_some ⟨by omega, hG⟩
    · refine ok_gd (by omega) ?_
      have : (-2147483648 : Int) ≤ (w 47 (v4).toNat) ∧ (w 47 (v4).toNat) ≤ 2147483647 := hG.1 47 (v4).toNat
      refine ok_jite (fun h2326 => ?_) (fun h2327 => ?_)
      · refine ok_jsome ?_
        refine ok_it (by decide) ?_
        exact s_R_those_38 ih hG (by omega) (by omega) (by omega) (by omega) (by omega) (by omega)
      · refine ok_jite (fun h2328 => ?_) (fun h2329 => ?_)
        · refine ok_jsome ?_
          refine ok_it (by decide) ?_
          exact s_R_those_38 ih hG (by omega) (by omega) (by omega) (by omega) (by omega) (by omega)
        · refine ok_jsome ?_
          refine ok_if (by decide) ?_
          have := ishl1_n 9 (i := v4) (j := 9) (m := 512) (by decide) (by decide) (by decide) (by omega)
          exact s_R_those_38 ih hG (by omega) (by omega) (by omega) (by omega) (by omega) (by omega)
theorem s_R_those {w : Wd} {v1 v2 : Int} (hG : G md_R_those w w) (i_v1 : ((0 : Int) ≤ v1 ∧ v1 ≤ 4)) (i_v2 : ((0 : Int) ≤ v2 ∧ v2 ≤ 4)) : OK (f_R_those v1 v2 w) (fun r u => ((0 : Int) ≤ r ∧ r ≤ 1023) ∧ G md_R_those w u) := by
  unfold f_R_those
  exact s_R_those_5 FU (by have := eqFU; omega) hG (by omega) (by omega) (by omega) (by omega)
theorem s_R_guests {w : Wd} (hG : G md_R_guests w w) : OK (f_R_guests w) (fun r u => ((0 : Int) ≤ r ∧ r ≤ 1023) ∧ G md_R_guests w u) := by
  unfold f_R_guests
  refine ok_call (s_R_those (g_self hG) (by omega) (by omega)) (fun r1 u2 q => ?_)
  obtain ⟨i2330, g2331⟩ := q
  have g2332 : G md_R_guests w u2 := g_tr hG g2331 rfl
  exact ok_some ⟨by omega, g2332⟩
theorem s_R_hidden_29 {b : Wd} {k4 : Int → Int → Wd → Option (Int × Wd)} {Bk4 : Int} (hk4 : ∀ {w1 : Wd} {v1 v2 : Int}, ((11 : Int) - v2) < Bk4 → G md_R_hidden b w1 → ((0 : Int) ≤ v1 ∧ v1 ≤ 1023) → ((0 : Int) ≤ v2 ∧ v2 ≤ 10) → OK (k4 v1 v2 w1) (fun r u => ((0 : Int) ≤ r ∧ r ≤ 1023) ∧ G md_R_hidden b u)) {w : Wd} {v2 s0 s1 : Int} (hG : G md_R_hidden b w) (i_v2 : ((0 : Int) ≤ v2 ∧ v2 ≤ 9)) (i_s0 : ((0 : Int) ≤ s0 ∧ s0 ≤ 1023)) (i_s1 : ((0 : Int) ≤ s1 ∧ s1 ≤ 512)) (hBk4 : ((11 : Int) - v2) ≤ Bk4) : OK (f_R_hidden_29 k4 v2 s0 s1 w) (fun r u => ((0 : Int) ≤ r ∧ r ≤ 1023) ∧ G md_R_hidden b u) := by
  unfold f_R_hidden_29
  have := ior_n 10 (x := s0) (y := s1) (m := 1023) (by decide) (by decide) (by omega) (by omega)
  refine ok_let (fun x1 e2333 => ?_)
  have : (0 : Int) ≤ x1 ∧ x1 ≤ 1023 := by omega
  have := w32_sp ((v2 + (1 : Int)))
  refine ok_let (fun x2 e2334 => ?_)
  have : (1 : Int) ≤ x2 ∧ x2 ≤ 10 := by omega
  exact hk4 (by omega) hG (by omega) (by omega)
theorem s_R_hidden_4 {b : Wd} : ∀ (n : Nat) {w : Wd} {v1 v2 : Int}, ((11 : Int) - v2) < (n : Int) → G md_R_hidden b w → ((0 : Int) ≤ v1 ∧ v1 ≤ 1023) → ((0 : Int) ≤ v2 ∧ v2 ≤ 10) → OK (f_R_hidden_4 n v1 v2 w) (fun r u => ((0 : Int) ≤ r ∧ r ≤ 1023) ∧ G md_R_hidden b u) := by
  intro n
  induction n with
  | zero =>
    intro w v1 v2 hm hG i_v1 i_v2
    exfalso
    omega
  | succ n ih =>
    intro w v1 v2 hm hG i_v1 i_v2
    rw [f_R_hidden_4]
    have : (0 : Int) ≤ (w 43 0) ∧ (w 43 0) ≤ 10 := hG.1 43 0
    have : (w 43 0) = (b 43 0) := hG.2.1 43 0 rfl
    refine ok_ite (fun h2335 => ?_) (fun h2336 => ?_)
    · exact ok_some ⟨by omega, hG⟩
    · refine ok_gd (by omega) ?_
      have : (0 : Int) ≤ (w 46 (v2).toNat) ∧ (w 46 (v2).toNat) ≤ 1 := hG.1 46 (v2).toNat
      refine ok_ite (fun h2337 => ?_) (fun h2338 => ?_)
      · exact s_R_hidden_29 ih hG (by omega) (by omega) (by omega) (by omega)
      · have := ishl1_n 9 (i := v2) (j := 9) (m := 512) (by decide) (by decide) (by decide) (by omega)
        exact s_R_hidden_29 ih hG (by omega) (by omega) (by omega) (by omega)
theorem s_R_hidden {w : Wd} (hG : G md_R_hidden w w) : OK (f_R_hidden w) (fun r u => ((0 : Int) ≤ r ∧ r ≤ 1023) ∧ G md_R_hidden w u) := by
  unfold f_R_hidden
  exact s_R_hidden_4 FU (by have := eqFU; omega) hG (by omega) (by omega)
theorem s_R_free {w : Wd} (hG : G md_R_free w w) : OK (f_R_free w) (fun r u => ((0 : Int) ≤ r ∧ r ≤ 1023) ∧ G md_R_free w u) := by
  unfold f_R_free
  refine ok_call (s_R_those (g_self hG) (by omega) (by omega)) (fun r1 u2 q => ?_)
  obtain ⟨i2339, g2340⟩ := q
  have g2341 : G md_R_free w u2 := g_tr hG g2340 rfl
  refine ok_call (s_R_hidden (g_self g2341)) (fun r3 u4 q => ?_)
  obtain ⟨i2342, g2343⟩ := q
  have g2344 : G md_R_free w u4 := g_tr g2341 g2343 rfl
  have := ixor_m1 (x := r3) (by omega)
  have := iand_l (x := r1) (y := (ixor r3 (-1 : Int))) (by omega)
  exact ok_some ⟨by omega, g2344⟩
theorem s_R_sign_20 {b : Wd} : ∀ (n : Nat) {w : Wd} {v1 v2 : Int}, (v2 + (2 : Int)) < (n : Int) → G md_R_sign b w → ((-2147483648 : Int) ≤ v1 ∧ v1 ≤ 2147483647) → ((-1 : Int) ≤ v2 ∧ v2 ≤ 3) → ((((w 43 13) + v2) + (1 : Int)) = ((b 43 13) + (4 : Int))) → ((b 43 13) ≤ (76 : Int)) → OK (f_R_sign_20 n v1 v2 w) (fun r u => ((-1 : Int) ≤ r ∧ r ≤ 80) ∧ G md_R_sign b u ∧ ((((76 : Int) < (b 43 13)) ∧ ((r = (-1 : Int)) ∧ ((u 43 13) = (b 43 13)))) ∨ (((b 43 13) ≤ (76 : Int)) ∧ ((r = (u 43 13)) ∧ ((u 43 13) = ((b 43 13) + (4 : Int))))))) := by
  intro n
  induction n with
  | zero =>
    intro w v1 v2 hm hG i_v1 i_v2 a_0 a_1
    exfalso
    omega
  | succ n ih =>
    intro w v1 v2 hm hG i_v1 i_v2 a_0 a_1
    rw [f_R_sign_20]
    have : (0 : Int) ≤ (w 43 13) ∧ (w 43 13) ≤ 80 := hG.1 43 13
    refine ok_ite (fun h2345 => ?_) (fun h2346 => ?_)
    · exact ok_some ⟨by omega, hG, (by omega)⟩
    · refine ok_let (fun x2 e2347 => ?_)
      have : (0 : Int) ≤ x2 ∧ x2 ≤ 80 := by omega
      have := w32_sp ((x2 + (1 : Int)))
      refine ok_lw (fun u3 e2348 => ?_)
      have g2349 : G md_R_sign b u3 := g_st hG e2348 rfl rfl (show (0 : Int) ≤ (w32 (x2 + (1 : Int))) ∧ (w32 (x2 + (1 : Int))) ≤ 80 by omega)
      refine ok_gd (by omega) ?_
      have := w32_sp (((8 : Int) * v2))
      have := ishr_rg v1 (w32 ((8 : Int) * v2))
      have := i2b_rg (ishr v1 (w32 ((8 : Int) * v2)))
      have := nb_rg (i2b (ishr v1 (w32 ((8 : Int) * v2))))
      refine ok_lw (fun u4 e2350 => ?_)
      have g2351 : G md_R_sign b u4 := g_st g2349 e2350 rfl rfl (show (-128 : Int) ≤ (nb (i2b (ishr v1 (w32 ((8 : Int) * v2))))) ∧ (nb (i2b (ishr v1 (w32 ((8 : Int) * v2))))) ≤ 127 by omega)
      have := w32_sp ((v2 + (-1 : Int)))
      refine ok_let (fun x5 e2352 => ?_)
      have : (-1 : Int) ≤ x5 ∧ x5 ≤ 2 := by omega
      have : (0 : Int) ≤ (u4 43 13) ∧ (u4 43 13) ≤ 80 := g2351.1 43 13
      have : (u4 43 13) = (u3 43 13) := (congrFun (congrFun e2350 43) 13).trans (st_c (by decide))
      have : (0 : Int) ≤ (u3 43 13) ∧ (u3 43 13) ≤ 80 := g2349.1 43 13
      have : (u3 43 13) = (w32 (x2 + (1 : Int))) := (congrFun (congrFun e2348 43) 13).trans (st_eq _ _ _ _)
      exact ih (by omega) g2351 (by omega) (by omega) (by omega) (by omega)
theorem s_R_sign {w : Wd} {v1 : Int} (hG : G md_R_sign w w) (i_v1 : ((-2147483648 : Int) ≤ v1 ∧ v1 ≤ 2147483647)) : OK (f_R_sign v1 w) (fun r u => ((-1 : Int) ≤ r ∧ r ≤ 80) ∧ G md_R_sign w u ∧ ((((76 : Int) < (w 43 13)) ∧ ((r = (-1 : Int)) ∧ ((u 43 13) = (w 43 13)))) ∨ (((w 43 13) ≤ (76 : Int)) ∧ ((r = (u 43 13)) ∧ ((u 43 13) = ((w 43 13) + (4 : Int))))))) := by
  unfold f_R_sign
  refine ok_lw (fun u1 e2353 => ?_)
  have g2354 : G md_R_sign w u1 := g_st hG e2353 rfl rfl (show (0 : Int) ≤ (0 : Int) ∧ (0 : Int) ≤ 1 by omega)
  have : (0 : Int) ≤ (u1 43 13) ∧ (u1 43 13) ≤ 80 := g2354.1 43 13
  have : (u1 43 13) = (w 43 13) := (congrFun (congrFun e2353 43) 13).trans (st_k (by decide))
  have : (0 : Int) ≤ (w 43 13) ∧ (w 43 13) ≤ 80 := hG.1 43 13
  have := w32_sp (((u1 43 13) + (4 : Int)))
  refine ok_ite (fun h2355 => ?_) (fun h2356 => ?_)
  · exact s_R_sign_20 FU (by have := eqFU; omega) g2354 (by omega) (by omega) (by omega) (by omega)
  · exact ok_some ⟨by omega, g2354, (by omega)⟩
theorem s_R_end {w : Wd} {v1 : Int} (hG : G md_R_end w w) (i_v1 : ((-2147483648 : Int) ≤ v1 ∧ v1 ≤ 2147483647)) : OK (f_R_end v1 w) (fun r u => ((0 : Int) ≤ r ∧ r ≤ 1) ∧ G md_R_end w u ∧ ((((v1 < (0 : Int)) ∨ ((w 43 13) < v1)) ∧ ((r = (0 : Int)) ∧ ((u 43 13) = (w 43 13)))) ∨ (((0 : Int) ≤ v1) ∧ ((v1 ≤ (w 43 13)) ∧ ((r = (1 : Int)) ∧ ((u 43 13) = v1)))))) := by
  unfold f_R_end
  refine ok_lw (fun u1 e2357 => ?_)
  have g2358 : G md_R_end w u1 := g_st hG e2357 rfl rfl (show (0 : Int) ≤ (0 : Int) ∧ (0 : Int) ≤ 1 by omega)
  refine ok_jite (fun h2360 => ?_) (fun h2361 => ?_)
  · refine ok_jsome ?_
    refine ok_it (by decide) ?_
    have : (0 : Int) ≤ (u1 43 13) ∧ (u1 43 13) ≤ 80 := g2358.1 43 13
    have : (u1 43 13) = (w 43 13) := (congrFun (congrFun e2357 43) 13).trans (st_k (by decide))
    have : (0 : Int) ≤ (w 43 13) ∧ (w 43 13) ≤ 80 := hG.1 43 13
    exact ok_some ⟨by omega, g2358, (by omega)⟩
  · have : (0 : Int) ≤ (u1 43 13) ∧ (u1 43 13) ≤ 80 := g2358.1 43 13
    have : (u1 43 13) = (w 43 13) := (congrFun (congrFun e2357 43) 13).trans (st_k (by decide))
    have : (0 : Int) ≤ (w 43 13) ∧ (w 43 13) ≤ 80 := hG.1 43 13
    refine ok_jite (fun h2362 => ?_) (fun h2363 => ?_)
    · refine ok_jsome ?_
      refine ok_it (by decide) ?_
      exact ok_some ⟨by omega, g2358, (by omega)⟩
    · refine ok_jsome ?_
      refine ok_if (by decide) ?_
      refine ok_lw (fun u4 e2364 => ?_)
      have g2365 : G md_R_end w u4 := g_st g2358 e2364 rfl rfl (show (0 : Int) ≤ v1 ∧ v1 ≤ 80 by omega)
      have : (0 : Int) ≤ (u4 43 13) ∧ (u4 43 13) ≤ 80 := g2365.1 43 13
      have : (u4 43 13) = v1 := (congrFun (congrFun e2364 43) 13).trans (st_eq _ _ _ _)
      exact ok_some ⟨by omega, g2365, (by omega)⟩
theorem s_R_here {w : Wd} (hG : G md_R_here w w) (a_0 : (((w 43 17) = (52 : Int)) ∨ (((w 43 17) = (58 : Int)) ∧ ((w 43 19) ≤ (40 : Int))))) : OK (f_R_here w) (fun r u => ((-128 : Int) ≤ r ∧ r ≤ 127) ∧ G md_R_here w u ∧ ((r = (-1 : Int)) ∨ (((w 43 20) < (w 43 18)) ∧ ((w 43 20) < (w 43 19))))) := by
  unfold f_R_here
  have : (0 : Int) ≤ (w 43 17) ∧ (w 43 17) ≤ 58 := hG.1 43 17
  have : (0 : Int) ≤ (w 43 19) ∧ (w 43 19) ≤ 76 := hG.1 43 19
  have : (0 : Int) ≤ (w 43 18) ∧ (w 43 18) ≤ 80 := hG.1 43 18
  have : (0 : Int) ≤ (w 43 20) ∧ (w 43 20) ≤ 80 := hG.1 43 20
  refine ok_ite (fun h2366 => ?_) (fun h2367 => ?_)
  · exact ok_some ⟨by omega, hG, (by omega)⟩
  · refine ok_ite (fun h2368 => ?_) (fun h2369 => ?_)
    · exact ok_some ⟨by omega, hG, (by omega)⟩
    · refine ok_ite (fun h2370 => ?_) (fun h2371 => ?_)
      · refine ok_gd (by omega) ?_
        have : (-128 : Int) ≤ (w 51 ((w 43 20)).toNat) ∧ (w 51 ((w 43 20)).toNat) ≤ 127 := hG.1 51 ((w 43 20)).toNat
        exact ok_some ⟨by omega, hG, (by omega)⟩
      · refine ok_ite (fun h2372 => ?_) (fun h2373 => ?_)
        · refine ok_gd (by omega) ?_
          have : (-128 : Int) ≤ (w 57 ((w 43 20)).toNat) ∧ (w 57 ((w 43 20)).toNat) ≤ 127 := hG.1 57 ((w 43 20)).toNat
          exact ok_some ⟨by omega, hG, (by omega)⟩
        · exfalso; omega
theorem s_R_fault {w : Wd} {v1 : Int} (hG : G md_R_fault w w) (i_v1 : ((0 : Int) ≤ v1 ∧ v1 ≤ 80)) (a_0 : ((0 : Int) ≤ v1)) : OK (f_R_fault v1 w) (fun r u => ((0 : Int) ≤ r ∧ r ≤ 0) ∧ G md_R_fault w u ∧ (¬ ((u 43 21) = (-1 : Int)))) := by
  unfold f_R_fault
  have : (-1 : Int) ≤ (w 43 21) ∧ (w 43 21) ≤ 80 := hG.1 43 21
  refine ok_jite (fun h2375 => ?_) (fun h2376 => ?_)
  · refine ok_jsome ?_
    refine ok_if (by decide) ?_
    refine ok_lw (fun u3 e2377 => ?_)
    have g2378 : G md_R_fault w u3 := g_st hG e2377 rfl rfl (show (-1 : Int) ≤ v1 ∧ v1 ≤ 80 by omega)
    have : (-1 : Int) ≤ (u3 43 21) ∧ (u3 43 21) ≤ 80 := g2378.1 43 21
    have : (u3 43 21) = v1 := (congrFun (congrFun e2377 43) 21).trans (st_eq _ _ _ _)
    exact ok_some ⟨by omega, g2378, (by omega)⟩
  · refine ok_jsome ?_
    refine ok_it (by decide) ?_
    exact ok_some ⟨by omega, hG, (by omega)⟩
theorem s_R_passes {w : Wd} {v1 : Int} (hG : G md_R_passes w w) (i_v1 : ((33 : Int) ≤ v1 ∧ v1 ≤ 63)) (a_0 : (((w 43 17) = (52 : Int)) ∨ (((w 43 17) = (58 : Int)) ∧ ((w 43 19) ≤ (40 : Int))))) (a_1 : ((0 : Int) ≤ v1)) : OK (f_R_passes v1 w) (fun r u => ((0 : Int) ≤ r ∧ r ≤ 1) ∧ G md_R_passes w u ∧ (((r = (0 : Int)) ∧ ((u 43 20) = (w 43 20))) ∨ ((r = (1 : Int)) ∧ (((u 43 20) = ((w 43 20) + (1 : Int))) ∧ (((w 43 21) = (-1 : Int)) ∧ (((w 43 20) < (w 43 18)) ∧ ((w 43 20) < (w 43 19)))))))) := by
  unfold f_R_passes
  have : (0 : Int) ≤ (w 43 17) ∧ (w 43 17) ≤ 58 := hG.1 43 17
  have : (0 : Int) ≤ (w 43 19) ∧ (w 43 19) ≤ 76 := hG.1 43 19
  have : (-1 : Int) ≤ (w 43 21) ∧ (w 43 21) ≤ 80 := hG.1 43 21
  refine ok_jite (fun h2380 => ?_) (fun h2381 => ?_)
  · refine ok_jsome ?_
    refine ok_if (by decide) ?_
    refine ok_call (s_R_here (g_self hG) (by omega)) (fun r3 u4 q => ?_)
    obtain ⟨i2382, g2383, p2385⟩ := q
    have g2384 : G md_R_passes w u4 := g_tr hG g2383 rfl
    have : (0 : Int) ≤ (w 43 20) ∧ (w 43 20) ≤ 80 := hG.1 43 20
    have : (0 : Int) ≤ (w 43 18) ∧ (w 43 18) ≤ 80 := hG.1 43 18
    refine ok_ite (fun h2386 => ?_) (fun h2387 => ?_)
    · have : (0 : Int) ≤ (u4 43 20) ∧ (u4 43 20) ≤ 80 := g2384.1 43 20
      have : (u4 43 20) = (w 43 20) := g2383.2.1 43 20 rfl
      have := w32_sp (((u4 43 20) + (1 : Int)))
      refine ok_lw (fun u5 e2388 => ?_)
      have g2389 : G md_R_passes w u5 := g_st g2384 e2388 rfl rfl (show (0 : Int) ≤ (w32 ((u4 43 20) + (1 : Int))) ∧ (w32 ((u4 43 20) + (1 : Int))) ≤ 80 by omega)
      have : (0 : Int) ≤ (u5 43 20) ∧ (u5 43 20) ≤ 80 := g2389.1 43 20
      have : (u5 43 20) = (w32 ((u4 43 20) + (1 : Int))) := (congrFun (congrFun e2388 43) 20).trans (st_eq _ _ _ _)
      exact ok_some ⟨by omega, g2389, (by omega)⟩
    · have : (0 : Int) ≤ (u4 43 20) ∧ (u4 43 20) ≤ 80 := g2384.1 43 20
      have : (u4 43 20) = (w 43 20) := g2383.2.1 43 20 rfl
      exact ok_some ⟨by omega, g2384, (by omega)⟩
  · refine ok_jsome ?_
    refine ok_it (by decide) ?_
    have : (0 : Int) ≤ (w 43 20) ∧ (w 43 20) ≤ 80 := hG.1 43 20
    exact ok_some ⟨by omega, hG, (by omega)⟩
theorem s_R_begin1_43_51 {w : Wd} {v2 v3 : Int} (hG : G md_R_begin1_43_51 w w) (i_v2 : ((0 : Int) ≤ v2 ∧ v2 ≤ 80)) (i_v3 : ((40 : Int) ≤ v3 ∧ v3 ≤ 76)) : OK (f_R_begin1_43_51 v2 v3 w) (fun r u => ((0 : Int) ≤ r ∧ r ≤ 0) ∧ G md_R_begin1_43_51 w u ∧ ((u 43 17) = (52 : Int)) ∧ ((u 43 20) = (0 : Int)) ∧ ((u 43 21) = (-1 : Int)) ∧ ((u 43 18) = v2) ∧ ((u 43 19) = v3)) := by
  unfold f_R_begin1_43_51
  refine ok_lw (fun u1 e2390 => ?_)
  have g2391 : G md_R_begin1_43_51 w u1 := g_st hG e2390 rfl rfl (show (0 : Int) ≤ (52 : Int) ∧ (52 : Int) ≤ 58 by omega)
  refine ok_lw (fun u2 e2392 => ?_)
  have g2393 : G md_R_begin1_43_51 w u2 := g_st g2391 e2392 rfl rfl (show (0 : Int) ≤ v2 ∧ v2 ≤ 80 by omega)
  refine ok_lw (fun u3 e2394 => ?_)
  have g2395 : G md_R_begin1_43_51 w u3 := g_st g2393 e2394 rfl rfl (show (0 : Int) ≤ v3 ∧ v3 ≤ 76 by omega)
  refine ok_lw (fun u4 e2396 => ?_)
  have g2397 : G md_R_begin1_43_51 w u4 := g_st g2395 e2396 rfl rfl (show (0 : Int) ≤ (0 : Int) ∧ (0 : Int) ≤ 80 by omega)
  refine ok_lw (fun u5 e2398 => ?_)
  have g2399 : G md_R_begin1_43_51 w u5 := g_st g2397 e2398 rfl rfl (show (-1 : Int) ≤ (-1 : Int) ∧ (-1 : Int) ≤ 80 by omega)
  have : (0 : Int) ≤ (u5 43 17) ∧ (u5 43 17) ≤ 58 := g2399.1 43 17
  have : (u5 43 17) = (u4 43 17) := (congrFun (congrFun e2398 43) 17).trans (st_k (by decide))
  have : (0 : Int) ≤ (u4 43 17) ∧ (u4 43 17) ≤ 58 := g2397.1 43 17
  have : (u4 43 17) = (u3 43 17) := (congrFun (congrFun e2396 43) 17).trans (st_k (by decide))
  have : (0 : Int) ≤ (u3 43 17) ∧ (u3 43 17) ≤ 58 := g2395.1 43 17
  have : (u3 43 17) = (u2 43 17) := (congrFun (congrFun e2394 43) 17).trans (st_k (by decide))
  have : (0 : Int) ≤ (u2 43 17) ∧ (u2 43 17) ≤ 58 := g2393.1 43 17
  have : (u2 43 17) = (u1 43 17) := (congrFun (congrFun e2392 43) 17).trans (st_k (by decide))
  have : (0 : Int) ≤ (u1 43 17) ∧ (u1 43 17) ≤ 58 := g2391.1 43 17
  have : (u1 43 17) = (52 : Int) := (congrFun (congrFun e2390 43) 17).trans (st_eq _ _ _ _)
  have : (0 : Int) ≤ (u5 43 20) ∧ (u5 43 20) ≤ 80 := g2399.1 43 20
  have : (u5 43 20) = (u4 43 20) := (congrFun (congrFun e2398 43) 20).trans (st_k (by decide))
  have : (0 : Int) ≤ (u4 43 20) ∧ (u4 43 20) ≤ 80 := g2397.1 43 20
  have : (u4 43 20) = (0 : Int) := (congrFun (congrFun e2396 43) 20).trans (st_eq _ _ _ _)
  have : (-1 : Int) ≤ (u5 43 21) ∧ (u5 43 21) ≤ 80 := g2399.1 43 21
  have : (u5 43 21) = (-1 : Int) := (congrFun (congrFun e2398 43) 21).trans (st_eq _ _ _ _)
  have : (0 : Int) ≤ (u5 43 18) ∧ (u5 43 18) ≤ 80 := g2399.1 43 18
  have : (u5 43 18) = (u4 43 18) := (congrFun (congrFun e2398 43) 18).trans (st_k (by decide))
  have : (0 : Int) ≤ (u4 43 18) ∧ (u4 43 18) ≤ 80 := g2397.1 43 18
  have : (u4 43 18) = (u3 43 18) := (congrFun (congrFun e2396 43) 18).trans (st_k (by decide))
  have : (0 : Int) ≤ (u3 43 18) ∧ (u3 43 18) ≤ 80 := g2395.1 43 18
  have : (u3 43 18) = (u2 43 18) := (congrFun (congrFun e2394 43) 18).trans (st_k (by decide))
  have : (0 : Int) ≤ (u2 43 18) ∧ (u2 43 18) ≤ 80 := g2393.1 43 18
  have : (u2 43 18) = v2 := (congrFun (congrFun e2392 43) 18).trans (st_eq _ _ _ _)
  have : (0 : Int) ≤ (u5 43 19) ∧ (u5 43 19) ≤ 76 := g2399.1 43 19
  have : (u5 43 19) = (u4 43 19) := (congrFun (congrFun e2398 43) 19).trans (st_k (by decide))
  have : (0 : Int) ≤ (u4 43 19) ∧ (u4 43 19) ≤ 76 := g2397.1 43 19
  have : (u4 43 19) = (u3 43 19) := (congrFun (congrFun e2396 43) 19).trans (st_k (by decide))
  have : (0 : Int) ≤ (u3 43 19) ∧ (u3 43 19) ≤ 76 := g2395.1 43 19
  have : (u3 43 19) = v3 := (congrFun (congrFun e2394 43) 19).trans (st_eq _ _ _ _)
  exact ok_some ⟨by omega, g2399, (by omega), (by omega), (by omega), (by omega), (by omega)⟩
theorem s_R_told {w : Wd} (hG : G md_R_told w w) : OK (f_R_told w) (fun r u => ((0 : Int) ≤ r ∧ r ≤ 0) ∧ G md_R_told w u ∧ ((u 43 32) = (0 : Int))) := by
  unfold f_R_told
  refine ok_call (s_R_guests (g_self hG)) (fun r1 u2 q => ?_)
  obtain ⟨i2400, g2401⟩ := q
  have g2402 : G md_R_told w u2 := g_tr hG g2401 rfl
  have : (0 : Int) ≤ (w 43 8) ∧ (w 43 8) ≤ 60 := hG.1 43 8
  refine ok_gd (by omega) ?_
  refine ok_lw (fun u3 e2403 => ?_)
  have g2404 : G md_R_told w u3 := g_st g2402 e2403 rfl rfl (show (-2147483648 : Int) ≤ r1 ∧ r1 ≤ 2147483647 by omega)
  refine ok_lw (fun u4 e2405 => ?_)
  have g2406 : G md_R_told w u4 := g_st g2404 e2405 rfl rfl (show (0 : Int) ≤ (0 : Int) ∧ (0 : Int) ≤ 60 by omega)
  have : (-2147483648 : Int) ≤ (u4 43 56) ∧ (u4 43 56) ≤ 2147483647 := g2406.1 43 56
  have : (u4 43 56) = (u3 43 56) := (congrFun (congrFun e2405 43) 56).trans (st_k (by decide))
  have : (-2147483648 : Int) ≤ (u3 43 56) ∧ (u3 43 56) ≤ 2147483647 := g2404.1 43 56
  have : (u3 43 56) = (u2 43 56) := (congrFun (congrFun e2403 43) 56).trans (st_c (by decide))
  have : (-2147483648 : Int) ≤ (u2 43 56) ∧ (u2 43 56) ≤ 2147483647 := g2402.1 43 56
  have : (u2 43 56) = (w 43 56) := g2401.2.1 43 56 rfl
  have : (-2147483648 : Int) ≤ (w 43 56) ∧ (w 43 56) ≤ 2147483647 := hG.1 43 56
  have := w32_sp (((u4 43 56) + (1 : Int)))
  refine ok_lw (fun u5 e2407 => ?_)
  have g2408 : G md_R_told w u5 := g_st g2406 e2407 rfl rfl (show (-2147483648 : Int) ≤ (w32 ((u4 43 56) + (1 : Int))) ∧ (w32 ((u4 43 56) + (1 : Int))) ≤ 2147483647 by omega)
  have : (0 : Int) ≤ (u5 43 32) ∧ (u5 43 32) ≤ 60 := g2408.1 43 32
  have : (u5 43 32) = (u4 43 32) := (congrFun (congrFun e2407 43) 32).trans (st_k (by decide))
  have : (0 : Int) ≤ (u4 43 32) ∧ (u4 43 32) ≤ 60 := g2406.1 43 32
  have : (u4 43 32) = (0 : Int) := (congrFun (congrFun e2405 43) 32).trans (st_eq _ _ _ _)
  exact ok_some ⟨by omega, g2408, (by omega)⟩
theorem s_R_add_93 {b : Wd} {w : Wd} {s1 s2 : Int} (hG : G md_R_add b w) (i_s1 : ((0 : Int) ≤ s1 ∧ s1 ≤ 9)) (i_s2 : ((-1 : Int) ≤ s2 ∧ s2 ≤ 60)) : OK (f_R_add_93 s1 s2 w) (fun r u => ((0 : Int) ≤ r ∧ r ≤ 0) ∧ G md_R_add b u) := by
  unfold f_R_add_93
  refine ok_gd (by omega) ?_
  refine ok_lw (fun u6 e2409 => ?_)
  have g2410 : G md_R_add b u6 := g_st hG e2409 rfl rfl (show (-2147483648 : Int) ≤ s2 ∧ s2 ≤ 2147483647 by omega)
  exact ok_some ⟨by omega, g2410⟩
theorem s_R_add_45 {b : Wd} {k17 : Int → Int → Int → Int → Int → Wd → Option (Int × Wd)} {Bk17 : Int} (hk17 : ∀ {w1 : Wd} {v1 v3 v4 v5 v6 : Int}, ((10 : Int) - v6) < Bk17 → G md_R_add b w1 → ((0 : Int) ≤ v1 ∧ v1 ≤ 9) → ((0 : Int) ≤ v3 ∧ v3 ≤ 1023) → ((0 : Int) ≤ v4 ∧ v4 ≤ 1) → ((0 : Int) ≤ v5 ∧ v5 ≤ 1) → ((0 : Int) ≤ v6 ∧ v6 ≤ 9) → OK (k17 v1 v3 v4 v5 v6 w1) (fun r u => ((0 : Int) ≤ r ∧ r ≤ 0) ∧ G md_R_add b u)) {w : Wd} {v1 v3 v4 v5 v6 : Int} (hG : G md_R_add b w) (i_v1 : ((1 : Int) ≤ v1 ∧ v1 ≤ 9)) (i_v3 : ((0 : Int) ≤ v3 ∧ v3 ≤ 1023)) (i_v4 : ((0 : Int) ≤ v4 ∧ v4 ≤ 1)) (i_v5 : ((0 : Int) ≤ v5 ∧ v5 ≤ 1)) (i_v6 : ((0 : Int) ≤ v6 ∧ v6 ≤ 8)) (hBk17 : ((10 : Int) - v6) ≤ Bk17) : OK (f_R_add_45 k17 v1 v3 v4 v5 v6 w) (fun r u => ((0 : Int) ≤ r ∧ r ≤ 0) ∧ G md_R_add b u) := by
  unfold f_R_add_45
  have := w32_sp ((v6 + (1 : Int)))
  refine ok_let (fun x9 e2411 => ?_)
  have : (1 : Int) ≤ x9 ∧ x9 ≤ 9 := by omega
  exact hk17 (by omega) hG (by omega) (by omega) (by omega) (by omega) (by omega)
theorem s_R_add_17 {b : Wd} : ∀ (n : Nat) {w : Wd} {v1 v3 v4 v5 v6 : Int}, ((10 : Int) - v6) < (n : Int) → G md_R_add b w → ((0 : Int) ≤ v1 ∧ v1 ≤ 9) → ((0 : Int) ≤ v3 ∧ v3 ≤ 1023) → ((0 : Int) ≤ v4 ∧ v4 ≤ 1) → ((0 : Int) ≤ v5 ∧ v5 ≤ 1) → ((0 : Int) ≤ v6 ∧ v6 ≤ 9) → OK (f_R_add_17 n v1 v3 v4 v5 v6 w) (fun r u => ((0 : Int) ≤ r ∧ r ≤ 0) ∧ G md_R_add b u) := by
  intro n
  induction n with
  | zero =>
    intro w v1 v3 v4 v5 v6 hm hG i_v1 i_v3 i_v4 i_v5 i_v6
    exfalso
    omega
  | succ n ih =>
    intro w v1 v3 v4 v5 v6 hm hG i_v1 i_v3 i_v4 i_v5 i_v6
    rw [f_R_add_17]
    refine ok_ite (fun h2412 => ?_) (fun h2413 => ?_)
    · refine ok_gd (by omega) ?_
      refine ok_lw (fun u3 e2414 => ?_)
      have g2415 : G md_R_add b u3 := g_st hG e2414 rfl rfl (show (-2147483648 : Int) ≤ v4 ∧ v4 ≤ 2147483647 by omega)
      refine ok_gd (by omega) ?_
      have := nz_rg v5
      refine ok_lw (fun u4 e2416 => ?_)
      have g2417 : G md_R_add b u4 := g_st g2415 e2416 rfl rfl (show (0 : Int) ≤ (nz v5) ∧ (nz v5) ≤ 1 by omega)
      refine ok_gd (by omega) ?_
      refine ok_lw (fun u5 e2418 => ?_)
      have g2419 : G md_R_add b u5 := g_st g2417 e2418 rfl rfl (show (-1 : Int) ≤ (-1 : Int) ∧ (-1 : Int) ≤ 9 by omega)
      refine ok_ite (fun h2420 => ?_) (fun h2421 => ?_)
      · have : (0 : Int) ≤ (u5 43 8) ∧ (u5 43 8) ≤ 60 := g2419.1 43 8
        have : (u5 43 8) = (u4 43 8) := (congrFun (congrFun e2418 43) 8).trans (st_c (by decide))
        have : (0 : Int) ≤ (u4 43 8) ∧ (u4 43 8) ≤ 60 := g2417.1 43 8
        have : (u4 43 8) = (u3 43 8) := (congrFun (congrFun e2416 43) 8).trans (st_c (by decide))
        have : (0 : Int) ≤ (u3 43 8) ∧ (u3 43 8) ≤ 60 := g2415.1 43 8
        have : (u3 43 8) = (w 43 8) := (congrFun (congrFun e2414 43) 8).trans (st_c (by decide))
        have : (0 : Int) ≤ (w 43 8) ∧ (w 43 8) ≤ 60 := hG.1 43 8
        have : (w 43 8) = (b 43 8) := hG.2.1 43 8 rfl
        exact s_R_add_93 g2419 (by omega) (by omega)
      · exact s_R_add_93 g2419 (by omega) (by omega)
    · refine ok_call (s_R_has (g_self hG) (by omega) (by omega)) (fun r7 u8 q => ?_)
      obtain ⟨i2422, g2423⟩ := q
      have g2424 : G md_R_add b u8 := g_tr hG g2423 rfl
      refine ok_ite (fun h2425 => ?_) (fun h2426 => ?_)
      · exact s_R_add_45 ih g2424 (by omega) (by omega) (by omega) (by omega) (by omega) (by omega)
      · refine ok_gd (by omega) ?_
        refine ok_gd (by omega) ?_
        have : (0 : Int) ≤ (u8 45 (v6).toNat) ∧ (u8 45 (v6).toNat) ≤ 1023 := g2424.1 45 (v6).toNat
        have := ishl1_n 9 (i := v1) (j := 9) (m := 512) (by decide) (by decide) (by decide) (by omega)
        have := ior_n 10 (x := (u8 45 (v6).toNat)) (y := (ishl (1 : Int) v1)) (m := 1023) (by decide) (by decide) (by omega) (by omega)
        refine ok_lw (fun u10 e2427 => ?_)
        have g2428 : G md_R_add b u10 := g_st g2424 e2427 rfl rfl (show (0 : Int) ≤ (ior (u8 45 (v6).toNat) (ishl (1 : Int) v1)) ∧ (ior (u8 45 (v6).toNat) (ishl (1 : Int) v1)) ≤ 1023 by omega)
        exact s_R_add_45 ih g2428 (by omega) (by omega) (by omega) (by omega) (by omega) (by omega)
theorem s_R_add {w : Wd} {v1 v2 v3 v4 v5 : Int} (hG : G md_R_add w w) (i_v1 : ((0 : Int) ≤ v1 ∧ v1 ≤ 9)) (i_v2 : ((0 : Int) ≤ v2 ∧ v2 ≤ 9)) (i_v3 : ((0 : Int) ≤ v3 ∧ v3 ≤ 1023)) (i_v4 : ((0 : Int) ≤ v4 ∧ v4 ≤ 1)) (i_v5 : ((0 : Int) ≤ v5 ∧ v5 ≤ 1)) : OK (f_R_add v1 v2 v3 v4 v5 w) (fun r u => ((0 : Int) ≤ r ∧ r ≤ 0) ∧ G md_R_add w u) := by
  unfold f_R_add
  refine ok_gd (by omega) ?_
  refine ok_lw (fun u1 e2429 => ?_)
  have g2430 : G md_R_add w u1 := g_st hG e2429 rfl rfl (show (0 : Int) ≤ v2 ∧ v2 ≤ 9 by omega)
  refine ok_gd (by omega) ?_
  refine ok_lw (fun u2 e2431 => ?_)
  have g2432 : G md_R_add w u2 := g_st g2430 e2431 rfl rfl (show (0 : Int) ≤ v3 ∧ v3 ≤ 1023 by omega)
  exact s_R_add_17 FU (by have := eqFU; omega) g2432 (by omega) (by omega) (by omega) (by omega) (by omega)
theorem s_R_readOne_142 {b : Wd} {w : Wd} {v1 s1 s2 : Int} (hG : G md_R_readOne b w) (i_v1 : ((0 : Int) ≤ v1 ∧ v1 ≤ 9)) (i_s1 : ((0 : Int) ≤ s1 ∧ s1 ≤ 9)) (i_s2 : ((0 : Int) ≤ s2 ∧ s2 ≤ 1)) (a_0 : ((w 43 17) = (52 : Int))) : OK (f_R_readOne_142 v1 s1 s2 w) (fun r u => ((0 : Int) ≤ r ∧ r ≤ 0) ∧ G md_R_readOne b u) := by
  unfold f_R_readOne_142
  have : (0 : Int) ≤ (w 43 17) ∧ (w 43 17) ≤ 58 := hG.1 43 17
  have : (w 43 17) = (b 43 17) := hG.2.1 43 17 rfl
  refine ok_gd (by omega) ?_
  refine ok_lw (fun u16 e2433 => ?_)
  have g2434 : G md_R_readOne b u16 := g_st hG e2433 rfl rfl (show (0 : Int) ≤ s2 ∧ s2 ≤ 1 by omega)
  have : (0 : Int) ≤ (u16 43 17) ∧ (u16 43 17) ≤ 58 := g2434.1 43 17
  have : (u16 43 17) = (w 43 17) := (congrFun (congrFun e2433 43) 17).trans (st_c (by decide))
  have : (0 : Int) ≤ (u16 43 19) ∧ (u16 43 19) ≤ 76 := g2434.1 43 19
  have : (u16 43 19) = (w 43 19) := (congrFun (congrFun e2433 43) 19).trans (st_c (by decide))
  have : (0 : Int) ≤ (w 43 19) ∧ (w 43 19) ≤ 76 := hG.1 43 19
  have : (w 43 19) = (b 43 19) := hG.2.1 43 19 rfl
  refine ok_call (s_R_passes (g_self g2434) (by omega) (by omega) (by omega)) (fun r17 u18 q => ?_)
  obtain ⟨i2435, g2436, p2438⟩ := q
  have g2437 : G md_R_readOne b u18 := g_tr g2434 g2436 rfl
  have : (0 : Int) ≤ (u18 43 20) ∧ (u18 43 20) ≤ 80 := g2437.1 43 20
  have : (0 : Int) ≤ (u16 43 20) ∧ (u16 43 20) ≤ 80 := g2434.1 43 20
  have : (u16 43 20) = (w 43 20) := (congrFun (congrFun e2433 43) 20).trans (st_c (by decide))
  have : (0 : Int) ≤ (w 43 20) ∧ (w 43 20) ≤ 80 := hG.1 43 20
  have : (-1 : Int) ≤ (u16 43 21) ∧ (u16 43 21) ≤ 80 := g2434.1 43 21
  have : (u16 43 21) = (w 43 21) := (congrFun (congrFun e2433 43) 21).trans (st_c (by decide))
  have : (-1 : Int) ≤ (w 43 21) ∧ (w 43 21) ≤ 80 := hG.1 43 21
  have : (0 : Int) ≤ (u16 43 18) ∧ (u16 43 18) ≤ 80 := g2434.1 43 18
  have : (u16 43 18) = (w 43 18) := (congrFun (congrFun e2433 43) 18).trans (st_c (by decide))
  have : (0 : Int) ≤ (w 43 18) ∧ (w 43 18) ≤ 80 := hG.1 43 18
  have : (w 43 18) = (b 43 18) := hG.2.1 43 18 rfl
  refine ok_gd (by omega) ?_
  have := nz_rg r17
  refine ok_lw (fun u19 e2439 => ?_)
  have g2440 : G md_R_readOne b u19 := g_st g2437 e2439 rfl rfl (show (0 : Int) ≤ (nz r17) ∧ (nz r17) ≤ 1 by omega)
  exact ok_some ⟨by omega, g2440⟩
theorem s_R_readOne_87 {b : Wd} {w : Wd} (hG : G md_R_readOne b w) (a_0 : ((w 43 17) = (52 : Int))) : OK (f_R_readOne_87 w) (fun r u => ((0 : Int) ≤ r ∧ r ≤ 0) ∧ G md_R_readOne b u) := by
  unfold f_R_readOne_87
  have : (0 : Int) ≤ (w 43 17) ∧ (w 43 17) ≤ 58 := hG.1 43 17
  have : (w 43 17) = (b 43 17) := hG.2.1 43 17 rfl
  have : (0 : Int) ≤ (w 43 20) ∧ (w 43 20) ≤ 80 := hG.1 43 20
  refine ok_call (s_R_fault (g_self hG) (by omega) (by omega)) (fun r23 u24 q => ?_)
  obtain ⟨i2441, g2442, p2444⟩ := q
  have g2443 : G md_R_readOne b u24 := g_tr hG g2442 rfl
  have : (-1 : Int) ≤ (u24 43 21) ∧ (u24 43 21) ≤ 80 := g2443.1 43 21
  exact ok_some ⟨by omega, g2443⟩
theorem s_R_readOne_55 {b : Wd} : ∀ (n : Nat) {w : Wd} {v1 v2 : Int}, ((10 : Int) - v2) < (n : Int) → G md_R_readOne b w → ((0 : Int) ≤ v1 ∧ v1 ≤ 9) → ((-1 : Int) ≤ v2 ∧ v2 ≤ 8) → ((w 43 17) = (52 : Int)) → OK (f_R_readOne_55 n v1 v2 w) (fun r u => ((0 : Int) ≤ r ∧ r ≤ 0) ∧ G md_R_readOne b u) := by
  intro n
  induction n with
  | zero =>
    intro w v1 v2 hm hG i_v1 i_v2 a_0
    exfalso
    omega
  | succ n ih =>
    intro w v1 v2 hm hG i_v1 i_v2 a_0
    rw [f_R_readOne_55]
    have : (0 : Int) ≤ (w 43 17) ∧ (w 43 17) ≤ 58 := hG.1 43 17
    have : (w 43 17) = (b 43 17) := hG.2.1 43 17 rfl
    have : (0 : Int) ≤ (w 43 19) ∧ (w 43 19) ≤ 76 := hG.1 43 19
    have : (w 43 19) = (b 43 19) := hG.2.1 43 19 rfl
    refine ok_call (s_R_here (g_self hG) (by omega)) (fun r10 u11 q => ?_)
    obtain ⟨i2445, g2446, p2448⟩ := q
    have g2447 : G md_R_readOne b u11 := g_tr hG g2446 rfl
    have : (0 : Int) ≤ (w 43 20) ∧ (w 43 20) ≤ 80 := hG.1 43 20
    have : (0 : Int) ≤ (w 43 18) ∧ (w 43 18) ≤ 80 := hG.1 43 18
    have : (w 43 18) = (b 43 18) := hG.2.1 43 18 rfl
    refine ok_jite (fun h2450 => ?_) (fun h2451 => ?_)
    · refine ok_jsome ?_
      refine ok_it (by decide) ?_
      have : (0 : Int) ≤ (u11 43 17) ∧ (u11 43 17) ≤ 58 := g2447.1 43 17
      have : (u11 43 17) = (w 43 17) := g2446.2.1 43 17 rfl
      have : (0 : Int) ≤ (u11 43 19) ∧ (u11 43 19) ≤ 76 := g2447.1 43 19
      have : (u11 43 19) = (w 43 19) := g2446.2.1 43 19 rfl
      refine ok_call (s_R_passes (g_self g2447) (by omega) (by omega) (by omega)) (fun r14 u15 q => ?_)
      obtain ⟨i2452, g2453, p2455⟩ := q
      have g2454 : G md_R_readOne b u15 := g_tr g2447 g2453 rfl
      have : (0 : Int) ≤ (u15 43 20) ∧ (u15 43 20) ≤ 80 := g2454.1 43 20
      have : (0 : Int) ≤ (u11 43 20) ∧ (u11 43 20) ≤ 80 := g2447.1 43 20
      have : (u11 43 20) = (w 43 20) := g2446.2.1 43 20 rfl
      have : (-1 : Int) ≤ (u11 43 21) ∧ (u11 43 21) ≤ 80 := g2447.1 43 21
      have : (u11 43 21) = (w 43 21) := g2446.2.1 43 21 rfl
      have : (-1 : Int) ≤ (w 43 21) ∧ (w 43 21) ≤ 80 := hG.1 43 21
      have : (0 : Int) ≤ (u11 43 18) ∧ (u11 43 18) ≤ 80 := g2447.1 43 18
      have : (u11 43 18) = (w 43 18) := g2446.2.1 43 18 rfl
      refine ok_ite (fun h2456 => ?_) (fun h2457 => ?_)
      · have : (0 : Int) ≤ (u15 43 17) ∧ (u15 43 17) ≤ 58 := g2454.1 43 17
        have : (u15 43 17) = (u11 43 17) := g2453.2.1 43 17 rfl
        exact s_R_readOne_142 g2454 (by omega) (by omega) (by omega) (by omega)
      · have : (0 : Int) ≤ (u15 43 17) ∧ (u15 43 17) ≤ 58 := g2454.1 43 17
        have : (u15 43 17) = (u11 43 17) := g2453.2.1 43 17 rfl
        exact s_R_readOne_142 g2454 (by omega) (by omega) (by omega) (by omega)
    · refine ok_jite (fun h2458 => ?_) (fun h2459 => ?_)
      · refine ok_jsome ?_
        refine ok_it (by decide) ?_
        have : (0 : Int) ≤ (u11 43 17) ∧ (u11 43 17) ≤ 58 := g2447.1 43 17
        have : (u11 43 17) = (w 43 17) := g2446.2.1 43 17 rfl
        have : (0 : Int) ≤ (u11 43 19) ∧ (u11 43 19) ≤ 76 := g2447.1 43 19
        have : (u11 43 19) = (w 43 19) := g2446.2.1 43 19 rfl
        refine ok_call (s_R_passes (g_self g2447) (by omega) (by omega) (by omega)) (fun r14 u15 q => ?_)
        obtain ⟨i2460, g2461, p2463⟩ := q
        have g2462 : G md_R_readOne b u15 := g_tr g2447 g2461 rfl
        have : (0 : Int) ≤ (u15 43 20) ∧ (u15 43 20) ≤ 80 := g2462.1 43 20
        have : (0 : Int) ≤ (u11 43 20) ∧ (u11 43 20) ≤ 80 := g2447.1 43 20
        have : (u11 43 20) = (w 43 20) := g2446.2.1 43 20 rfl
        have : (-1 : Int) ≤ (u11 43 21) ∧ (u11 43 21) ≤ 80 := g2447.1 43 21
        have : (u11 43 21) = (w 43 21) := g2446.2.1 43 21 rfl
        have : (-1 : Int) ≤ (w 43 21) ∧ (w 43 21) ≤ 80 := hG.1 43 21
        have : (0 : Int) ≤ (u11 43 18) ∧ (u11 43 18) ≤ 80 := g2447.1 43 18
        have : (u11 43 18) = (w 43 18) := g2446.2.1 43 18 rfl
        refine ok_ite (fun h2464 => ?_) (fun h2465 => ?_)
        · have : (0 : Int) ≤ (u15 43 17) ∧ (u15 43 17) ≤ 58 := g2462.1 43 17
          have : (u15 43 17) = (u11 43 17) := g2461.2.1 43 17 rfl
          exact s_R_readOne_142 g2462 (by omega) (by omega) (by omega) (by omega)
        · have : (0 : Int) ≤ (u15 43 17) ∧ (u15 43 17) ≤ 58 := g2462.1 43 17
          have : (u15 43 17) = (u11 43 17) := g2461.2.1 43 17 rfl
          exact s_R_readOne_142 g2462 (by omega) (by omega) (by omega) (by omega)
      · refine ok_jsome ?_
        refine ok_if (by decide) ?_
        have : (0 : Int) ≤ (u11 43 17) ∧ (u11 43 17) ≤ 58 := g2447.1 43 17
        have : (u11 43 17) = (w 43 17) := g2446.2.1 43 17 rfl
        have : (0 : Int) ≤ (u11 43 19) ∧ (u11 43 19) ≤ 76 := g2447.1 43 19
        have : (u11 43 19) = (w 43 19) := g2446.2.1 43 19 rfl
        refine ok_call (s_R_here (g_self g2447) (by omega)) (fun r20 u21 q => ?_)
        obtain ⟨i2466, g2467, p2469⟩ := q
        have g2468 : G md_R_readOne b u21 := g_tr g2447 g2467 rfl
        have : (0 : Int) ≤ (u11 43 20) ∧ (u11 43 20) ≤ 80 := g2447.1 43 20
        have : (u11 43 20) = (w 43 20) := g2446.2.1 43 20 rfl
        have : (0 : Int) ≤ (u11 43 18) ∧ (u11 43 18) ≤ 80 := g2447.1 43 18
        have : (u11 43 18) = (w 43 18) := g2446.2.1 43 18 rfl
        have := w32_sp ((r20 - (97 : Int)))
        refine ok_let (fun x22 e2470 => ?_)
        have : (-225 : Int) ≤ x22 ∧ x22 ≤ 30 := by omega
        refine ok_ite (fun h2471 => ?_) (fun h2472 => ?_)
        · have : (0 : Int) ≤ (u21 43 17) ∧ (u21 43 17) ≤ 58 := g2468.1 43 17
          have : (u21 43 17) = (u11 43 17) := g2467.2.1 43 17 rfl
          exact s_R_readOne_87 g2468 (by omega)
        · refine ok_ite (fun h2473 => ?_) (fun h2474 => ?_)
          · refine ok_gd (by omega) ?_
            refine ok_gd (by omega) ?_
            have : (0 : Int) ≤ (u21 54 (v1).toNat) ∧ (u21 54 (v1).toNat) ≤ 511 := g2468.1 54 (v1).toNat
            have := ishl1_n 8 (i := x22) (j := 8) (m := 256) (by decide) (by decide) (by decide) (by omega)
            have := ior_n 9 (x := (u21 54 (v1).toNat)) (y := (ishl (1 : Int) x22)) (m := 511) (by decide) (by decide) (by omega) (by omega)
            refine ok_lw (fun u25 e2475 => ?_)
            have g2476 : G md_R_readOne b u25 := g_st g2468 e2475 rfl rfl (show (0 : Int) ≤ (ior (u21 54 (v1).toNat) (ishl (1 : Int) x22)) ∧ (ior (u21 54 (v1).toNat) (ishl (1 : Int) x22)) ≤ 511 by omega)
            have : (0 : Int) ≤ (u25 43 20) ∧ (u25 43 20) ≤ 80 := g2476.1 43 20
            have : (u25 43 20) = (u21 43 20) := (congrFun (congrFun e2475 43) 20).trans (st_c (by decide))
            have : (0 : Int) ≤ (u21 43 20) ∧ (u21 43 20) ≤ 80 := g2468.1 43 20
            have : (u21 43 20) = (u11 43 20) := g2467.2.1 43 20 rfl
            have := w32_sp (((u25 43 20) + (1 : Int)))
            refine ok_lw (fun u26 e2477 => ?_)
            have g2478 : G md_R_readOne b u26 := g_st g2476 e2477 rfl rfl (show (0 : Int) ≤ (w32 ((u25 43 20) + (1 : Int))) ∧ (w32 ((u25 43 20) + (1 : Int))) ≤ 80 by omega)
            have : (0 : Int) ≤ (u26 43 17) ∧ (u26 43 17) ≤ 58 := g2478.1 43 17
            have : (u26 43 17) = (u25 43 17) := (congrFun (congrFun e2477 43) 17).trans (st_k (by decide))
            have : (0 : Int) ≤ (u25 43 17) ∧ (u25 43 17) ≤ 58 := g2476.1 43 17
            have : (u25 43 17) = (u21 43 17) := (congrFun (congrFun e2475 43) 17).trans (st_c (by decide))
            have : (0 : Int) ≤ (u21 43 17) ∧ (u21 43 17) ≤ 58 := g2468.1 43 17
            have : (u21 43 17) = (u11 43 17) := g2467.2.1 43 17 rfl
            exact ih (by omega) g2478 (by omega) (by omega) (by omega)
          · have : (0 : Int) ≤ (u21 43 17) ∧ (u21 43 17) ≤ 58 := g2468.1 43 17
            have : (u21 43 17) = (u11 43 17) := g2467.2.1 43 17 rfl
            exact s_R_readOne_87 g2468 (by omega)
-- <man11>
/-! BY HAND: one line of THE LAND: the same sign is looked at twice -/
theorem here_e {S : List Nat} {b w : Wd} (hG : G S b w) (h17 : w 43 17 = 52) : ∃ r, f_R_here w = some (r, w) ∧ (r = -1 ∨ (w 43 20 < w 43 18 ∧ w 43 20 < w 43 19)) := by
  have a1 : (0 : Int) ≤ w 43 20 ∧ w 43 20 ≤ 80 := hG.1 43 20
  have a2 : (0 : Int) ≤ w 43 18 ∧ w 43 18 ≤ 80 := hG.1 43 18
  unfold f_R_here
  by_cases h1 : w 43 18 ≤ w 43 20
  · exact ⟨-1, by rw [if_pos h1], Or.inl rfl⟩
  · by_cases h2 : w 43 19 ≤ w 43 20
    · exact ⟨-1, by rw [if_neg h1, if_pos h2], Or.inl rfl⟩
    · exact ⟨w 51 (w 43 20).toNat, by rw [if_neg h1, if_neg h2, if_pos h17, jgd, if_pos (by omega)], Or.inr (by omega)⟩
theorem s_R_readOne {w : Wd} {v1 : Int} (hG : G md_R_readOne w w) (i_v1 : ((0 : Int) ≤ v1 ∧ v1 ≤ 9)) (a_0 : ((w 43 17) = (52 : Int))) : OK (f_R_readOne v1 w) (fun r u => ((0 : Int) ≤ r ∧ r ≤ 0) ∧ G md_R_readOne w u) := by
  unfold f_R_readOne
  obtain ⟨r1, e1, p1⟩ := here_e hG a_0
  have a20 : (0 : Int) ≤ (w 43 20) ∧ (w 43 20) ≤ 80 := hG.1 43 20
  have a18 : (0 : Int) ≤ (w 43 18) ∧ (w 43 18) ≤ 80 := hG.1 43 18
  rw [e1, jc_s]
  have flt : OK (jcall (f_R_fault (w 43 20) w) fun r27 u28 => some (0, u28)) (fun r u => ((0 : Int) ≤ r ∧ r ≤ 0) ∧ G md_R_readOne w u) := by
    refine ok_call (s_R_fault (g_self hG) (by omega) (by omega)) (fun r27 u28 q => ?_)
    obtain ⟨i8, g9, p11⟩ := q
    exact ok_some ⟨by omega, g_tr hG g9 rfl⟩
  unfold f_R_in
  refine ok_jite (fun h6 => ?_) (fun h7 => ?_)
  · refine ok_jsome ?_
    refine ok_it (by decide) ?_
    exact flt
  · refine ok_jite (fun h12 => ?_) (fun h13 => ?_)
    · refine ok_jsome ?_
      refine ok_it (by decide) ?_
      exact flt
    · refine ok_jsome ?_
      refine ok_if (by decide) ?_
      rw [e1, jc_s]
      refine ok_gd (by omega) ?_
      have := w32_sp ((r1 - (48 : Int)))
      refine ok_lw (fun u7 e22 => ?_)
      have g23 : G md_R_readOne w u7 := g_st hG e22 rfl rfl (show (0 : Int) ≤ (w32 (r1 - (48 : Int))) ∧ (w32 (r1 - (48 : Int))) ≤ 9 by omega)
      have : (u7 43 20) = (w 43 20) := (congrFun (congrFun e22 43) 20).trans (st_c (by decide))
      have := w32_sp (((u7 43 20) + (1 : Int)))
      refine ok_lw (fun u8 e24 => ?_)
      have g25 : G md_R_readOne w u8 := g_st g23 e24 rfl rfl (show (0 : Int) ≤ (w32 ((u7 43 20) + (1 : Int))) ∧ (w32 ((u7 43 20) + (1 : Int))) ≤ 80 by omega)
      refine ok_gd (by omega) ?_
      refine ok_lw (fun u9 e26 => ?_)
      have g27 : G md_R_readOne w u9 := g_st g25 e26 rfl rfl (show (0 : Int) ≤ (0 : Int) ∧ (0 : Int) ≤ 511 by omega)
      have : (u9 43 17) = (u8 43 17) := (congrFun (congrFun e26 43) 17).trans (st_c (by decide))
      have : (u8 43 17) = (u7 43 17) := (congrFun (congrFun e24 43) 17).trans (st_k (by decide))
      have : (u7 43 17) = (w 43 17) := (congrFun (congrFun e22 43) 17).trans (st_c (by decide))
      exact s_R_readOne_55 FU (by have := eqFU; omega) g27 (by omega) (by omega) (by omega)
-- </man11>
theorem s_R_land_132 {b : Wd} : ∀ (n : Nat) {w : Wd} {v1 v3 v4 : Int}, ((11 : Int) - v4) < (n : Int) → G md_R_land b w → ((0 : Int) ≤ v1 ∧ v1 ≤ 10) → ((-10 : Int) ≤ v3 ∧ v3 ≤ 11) → ((0 : Int) ≤ v4 ∧ v4 ≤ 10) → ((w 43 13) = (0 : Int)) → OK (f_R_land_132 n v1 v3 v4 w) (fun r u => ((-81 : Int) ≤ r ∧ r ≤ 11) ∧ G md_R_land b u ∧ ((u 43 13) = (0 : Int))) := by
  intro n
  induction n with
  | zero =>
    intro w v1 v3 v4 hm hG i_v1 i_v3 i_v4 a_0
    exfalso
    omega
  | succ n ih =>
    intro w v1 v3 v4 hm hG i_v1 i_v3 i_v4 a_0
    rw [f_R_land_132]
    have : (0 : Int) ≤ (w 43 13) ∧ (w 43 13) ≤ 80 := hG.1 43 13
    refine ok_ite (fun h2479 => ?_) (fun h2480 => ?_)
    · refine ok_lw (fun u10 e2481 => ?_)
      have g2482 : G md_R_land b u10 := g_st hG e2481 rfl rfl (show (0 : Int) ≤ v1 ∧ v1 ≤ 10 by omega)
      refine ok_call (s_R_told (g_self g2482)) (fun r11 u12 q => ?_)
      obtain ⟨i2483, g2484, p2486⟩ := q
      have g2485 : G md_R_land b u12 := g_tr g2482 g2484 rfl
      have : (0 : Int) ≤ (u12 43 32) ∧ (u12 43 32) ≤ 60 := g2485.1 43 32
      have : (0 : Int) ≤ (u12 43 13) ∧ (u12 43 13) ≤ 80 := g2485.1 43 13
      have : (u12 43 13) = (u10 43 13) := g2484.2.1 43 13 rfl
      have : (0 : Int) ≤ (u10 43 13) ∧ (u10 43 13) ≤ 80 := g2482.1 43 13
      have : (u10 43 13) = (w 43 13) := (congrFun (congrFun e2481 43) 13).trans (st_k (by decide))
      exact ok_some ⟨by omega, g2485, (by omega)⟩
    · refine ok_gd (by omega) ?_
      refine ok_gd (by omega) ?_
      refine ok_gd (by omega) ?_
      refine ok_gd (by omega) ?_
      have : (0 : Int) ≤ (w 53 (v4).toNat) ∧ (w 53 (v4).toNat) ≤ 9 := hG.1 53 (v4).toNat
      have : (0 : Int) ≤ (w 54 (v4).toNat) ∧ (w 54 (v4).toNat) ≤ 511 := hG.1 54 (v4).toNat
      have : (0 : Int) ≤ (w 55 (v4).toNat) ∧ (w 55 (v4).toNat) ≤ 1 := hG.1 55 (v4).toNat
      have : (0 : Int) ≤ (w 56 (v4).toNat) ∧ (w 56 (v4).toNat) ≤ 1 := hG.1 56 (v4).toNat
      refine ok_call (s_R_add (g_self hG) (by omega) (by omega) (by omega) (by omega) (by omega)) (fun r13 u14 q => ?_)
      obtain ⟨i2487, g2488⟩ := q
      have g2489 : G md_R_land b u14 := g_tr hG g2488 rfl
      have := w32_sp ((v4 + (1 : Int)))
      refine ok_let (fun x15 e2490 => ?_)
      have : (1 : Int) ≤ x15 ∧ x15 ≤ 10 := by omega
      have : (0 : Int) ≤ (u14 43 13) ∧ (u14 43 13) ≤ 80 := g2489.1 43 13
      have : (u14 43 13) = (w 43 13) := g2488.2.1 43 13 rfl
      exact ih (by omega) g2489 (by omega) (by omega) (by omega) (by omega)
theorem s_R_land_105 {b : Wd} {w : Wd} {v1 : Int} (hG : G md_R_land b w) (i_v1 : ((0 : Int) ≤ v1 ∧ v1 ≤ 11)) (a_0 : ((v1 ≤ (10 : Int)) ∨ (¬ ((w 43 21) = (-1 : Int))))) (a_1 : ((w 43 13) = (0 : Int))) : OK (f_R_land_105 v1 w) (fun r u => ((-81 : Int) ≤ r ∧ r ≤ 11) ∧ G md_R_land b u ∧ ((u 43 13) = (0 : Int))) := by
  unfold f_R_land_105
  have : (-1 : Int) ≤ (w 43 21) ∧ (w 43 21) ≤ 80 := hG.1 43 21
  have : (0 : Int) ≤ (w 43 13) ∧ (w 43 13) ≤ 80 := hG.1 43 13
  refine ok_jite (fun h2492 => ?_) (fun h2493 => ?_)
  · refine ok_jsome ?_
    refine ok_if (by decide) ?_
    have : (0 : Int) ≤ (w 43 0) ∧ (w 43 0) ≤ 10 := hG.1 43 0
    have := w32_sp ((v1 - (w 43 0)))
    refine ok_let (fun x8 e2494 => ?_)
    have : (-10 : Int) ≤ x8 ∧ x8 ≤ 11 := by omega
    refine ok_let (fun x9 e2495 => ?_)
    have : (0 : Int) ≤ x9 ∧ x9 ≤ 10 := by omega
    exact s_R_land_132 FU (by have := eqFU; omega) hG (by omega) (by omega) (by omega) (by omega)
  · refine ok_jsome ?_
    refine ok_it (by decide) ?_
    have := w32_sp (((-1 : Int) - (w 43 21)))
    exact ok_some ⟨by omega, hG, (by omega)⟩
theorem s_R_land_86 {b : Wd} {w : Wd} {v1 : Int} (hG : G md_R_land b w) (i_v1 : ((0 : Int) ≤ v1 ∧ v1 ≤ 11)) (a_0 : ((v1 ≤ (10 : Int)) ∨ (¬ ((w 43 21) = (-1 : Int))))) (a_1 : ((w 43 13) = (0 : Int))) : OK (f_R_land_86 v1 w) (fun r u => ((-81 : Int) ≤ r ∧ r ≤ 11) ∧ G md_R_land b u ∧ ((u 43 13) = (0 : Int))) := by
  unfold f_R_land_86
  have : (-1 : Int) ≤ (w 43 21) ∧ (w 43 21) ≤ 80 := hG.1 43 21
  have : (0 : Int) ≤ (w 43 13) ∧ (w 43 13) ≤ 80 := hG.1 43 13
  have : (0 : Int) ≤ (w 43 18) ∧ (w 43 18) ≤ 80 := hG.1 43 18
  have : (0 : Int) ≤ (w 43 20) ∧ (w 43 20) ≤ 80 := hG.1 43 20
  refine ok_ite (fun h2496 => ?_) (fun h2497 => ?_)
  · exact s_R_land_105 hG (by omega) (by omega) (by omega)
  · refine ok_call (s_R_fault (g_self hG) (by omega) (by omega)) (fun r16 u17 q => ?_)
    obtain ⟨i2498, g2499, p2501⟩ := q
    have g2500 : G md_R_land b u17 := g_tr hG g2499 rfl
    have : (-1 : Int) ≤ (u17 43 21) ∧ (u17 43 21) ≤ 80 := g2500.1 43 21
    have : (0 : Int) ≤ (u17 43 13) ∧ (u17 43 13) ≤ 80 := g2500.1 43 13
    have : (u17 43 13) = (w 43 13) := g2499.2.1 43 13 rfl
    exact s_R_land_105 g2500 (by omega) (by omega) (by omega)
theorem s_R_land_73 {b : Wd} {k40 : Int → Int → Wd → Option (Int × Wd)} {Bk40 : Int} (hk40 : ∀ {w1 : Wd} {v1 v2 : Int}, ((12 : Int) - v1) < Bk40 → G md_R_land b w1 → ((0 : Int) ≤ v1 ∧ v1 ≤ 11) → ((0 : Int) ≤ v2 ∧ v2 ≤ 1) → ((w1 43 17) = (52 : Int)) → ((v1 ≤ (10 : Int)) ∨ ((v2 = (0 : Int)) ∧ (¬ ((w1 43 21) = (-1 : Int))))) → ((w1 43 13) = (0 : Int)) → OK (k40 v1 v2 w1) (fun r u => ((-81 : Int) ≤ r ∧ r ≤ 11) ∧ G md_R_land b u ∧ ((u 43 13) = (0 : Int)))) {w : Wd} {v1 : Int} (hG : G md_R_land b w) (i_v1 : ((0 : Int) ≤ v1 ∧ v1 ≤ 11)) (a_0 : ((w 43 17) = (52 : Int))) (a_1 : ((v1 ≤ (9 : Int)) ∨ ((v1 = (10 : Int)) ∧ (¬ ((w 43 21) = (-1 : Int)))))) (a_2 : ((w 43 13) = (0 : Int))) (hBk40 : ((12 : Int) - v1) ≤ Bk40) : OK (f_R_land_73 k40 v1 w) (fun r u => ((-81 : Int) ≤ r ∧ r ≤ 11) ∧ G md_R_land b u ∧ ((u 43 13) = (0 : Int))) := by
  unfold f_R_land_73
  have : (0 : Int) ≤ (w 43 17) ∧ (w 43 17) ≤ 58 := hG.1 43 17
  have : (-1 : Int) ≤ (w 43 21) ∧ (w 43 21) ≤ 80 := hG.1 43 21
  have : (0 : Int) ≤ (w 43 13) ∧ (w 43 13) ≤ 80 := hG.1 43 13
  have := w32_sp ((v1 + (1 : Int)))
  refine ok_let (fun x22 e2502 => ?_)
  have : (1 : Int) ≤ x22 ∧ x22 ≤ 12 := by omega
  have : (0 : Int) ≤ (w 43 19) ∧ (w 43 19) ≤ 76 := hG.1 43 19
  refine ok_call (s_R_passes (g_self hG) (by omega) (by omega) (by omega)) (fun r23 u24 q => ?_)
  obtain ⟨i2503, g2504, p2506⟩ := q
  have g2505 : G md_R_land b u24 := g_tr hG g2504 rfl
  have : (0 : Int) ≤ (u24 43 20) ∧ (u24 43 20) ≤ 80 := g2505.1 43 20
  have : (0 : Int) ≤ (w 43 20) ∧ (w 43 20) ≤ 80 := hG.1 43 20
  have : (0 : Int) ≤ (w 43 18) ∧ (w 43 18) ≤ 80 := hG.1 43 18
  have : (0 : Int) ≤ (u24 43 17) ∧ (u24 43 17) ≤ 58 := g2505.1 43 17
  have : (u24 43 17) = (w 43 17) := g2504.2.1 43 17 rfl
  have : (-1 : Int) ≤ (u24 43 21) ∧ (u24 43 21) ≤ 80 := g2505.1 43 21
  have : (u24 43 21) = (w 43 21) := g2504.2.1 43 21 rfl
  have : (0 : Int) ≤ (u24 43 13) ∧ (u24 43 13) ≤ 80 := g2505.1 43 13
  have : (u24 43 13) = (w 43 13) := g2504.2.1 43 13 rfl
  exact hk40 (by omega) g2505 (by omega) (by omega) (by omega) (by omega) (by omega)
theorem s_R_land_40 {b : Wd} : ∀ (n : Nat) {w : Wd} {v1 v2 : Int}, ((12 : Int) - v1) < (n : Int) → G md_R_land b w → ((0 : Int) ≤ v1 ∧ v1 ≤ 11) → ((0 : Int) ≤ v2 ∧ v2 ≤ 1) → ((w 43 17) = (52 : Int)) → ((v1 ≤ (10 : Int)) ∨ ((v2 = (0 : Int)) ∧ (¬ ((w 43 21) = (-1 : Int))))) → ((w 43 13) = (0 : Int)) → OK (f_R_land_40 n v1 v2 w) (fun r u => ((-81 : Int) ≤ r ∧ r ≤ 11) ∧ G md_R_land b u ∧ ((u 43 13) = (0 : Int))) := by
  intro n
  induction n with
  | zero =>
    intro w v1 v2 hm hG i_v1 i_v2 a_0 a_1 a_2
    exfalso
    omega
  | succ n ih =>
    intro w v1 v2 hm hG i_v1 i_v2 a_0 a_1 a_2
    rw [f_R_land_40]
    have : (0 : Int) ≤ (w 43 17) ∧ (w 43 17) ≤ 58 := hG.1 43 17
    have : (-1 : Int) ≤ (w 43 21) ∧ (w 43 21) ≤ 80 := hG.1 43 21
    have : (0 : Int) ≤ (w 43 13) ∧ (w 43 13) ≤ 80 := hG.1 43 13
    refine ok_ite (fun h2507 => ?_) (fun h2508 => ?_)
    · exact s_R_land_86 hG (by omega) (by omega) (by omega)
    · refine ok_jite (fun h2510 => ?_) (fun h2511 => ?_)
      · refine ok_jsome ?_
        refine ok_if (by decide) ?_
        refine ok_ite (fun h2512 => ?_) (fun h2513 => ?_)
        · have : (0 : Int) ≤ (w 43 20) ∧ (w 43 20) ≤ 80 := hG.1 43 20
          refine ok_call (s_R_fault (g_self hG) (by omega) (by omega)) (fun r25 u26 q => ?_)
          obtain ⟨i2514, g2515, p2517⟩ := q
          have g2516 : G md_R_land b u26 := g_tr hG g2515 rfl
          have : (-1 : Int) ≤ (u26 43 21) ∧ (u26 43 21) ≤ 80 := g2516.1 43 21
          have : (0 : Int) ≤ (u26 43 17) ∧ (u26 43 17) ≤ 58 := g2516.1 43 17
          have : (u26 43 17) = (w 43 17) := g2515.2.1 43 17 rfl
          have : (0 : Int) ≤ (u26 43 13) ∧ (u26 43 13) ≤ 80 := g2516.1 43 13
          have : (u26 43 13) = (w 43 13) := g2515.2.1 43 13 rfl
          exact s_R_land_73 ih g2516 (by omega) (by omega) (by omega) (by omega) (by omega)
        · refine ok_call (s_R_readOne (g_self hG) (by omega) (by omega)) (fun r20 u21 q => ?_)
          obtain ⟨i2518, g2519⟩ := q
          have g2520 : G md_R_land b u21 := g_tr hG g2519 rfl
          have : (0 : Int) ≤ (u21 43 17) ∧ (u21 43 17) ≤ 58 := g2520.1 43 17
          have : (u21 43 17) = (w 43 17) := g2519.2.1 43 17 rfl
          have : (-1 : Int) ≤ (u21 43 21) ∧ (u21 43 21) ≤ 80 := g2520.1 43 21
          have : (0 : Int) ≤ (u21 43 13) ∧ (u21 43 13) ≤ 80 := g2520.1 43 13
          have : (u21 43 13) = (w 43 13) := g2519.2.1 43 13 rfl
          exact s_R_land_73 ih g2520 (by omega) (by omega) (by omega) (by omega) (by omega)
      · refine ok_jsome ?_
        refine ok_it (by decide) ?_
        exact s_R_land_86 hG (by omega) (by omega) (by omega)
theorem s_R_land {w : Wd} (hG : G md_R_land w w) : OK (f_R_land w) (fun r u => ((-81 : Int) ≤ r ∧ r ≤ 11) ∧ G md_R_land w u ∧ ((u 43 13) = (0 : Int))) := by
  unfold f_R_land
  refine ok_lw (fun u1 e2521 => ?_)
  have g2522 : G md_R_land w u1 := g_st hG e2521 rfl rfl (show (0 : Int) ≤ (0 : Int) ∧ (0 : Int) ≤ 1 by omega)
  have : (0 : Int) ≤ (u1 43 13) ∧ (u1 43 13) ≤ 80 := g2522.1 43 13
  have : (u1 43 13) = (w 43 13) := (congrFun (congrFun e2521 43) 13).trans (st_k (by decide))
  have : (0 : Int) ≤ (w 43 13) ∧ (w 43 13) ≤ 80 := hG.1 43 13
  refine ok_call (s_R_begin1_43_51 (g_self g2522) (by omega) (by omega)) (fun r2 u3 q => ?_)
  obtain ⟨i2523, g2524, p2526, p2527, p2528, p2529, p2530⟩ := q
  have g2525 : G md_R_land w u3 := g_tr g2522 g2524 rfl
  have : (0 : Int) ≤ (u3 43 17) ∧ (u3 43 17) ≤ 58 := g2525.1 43 17
  have : (0 : Int) ≤ (u3 43 20) ∧ (u3 43 20) ≤ 80 := g2525.1 43 20
  have : (-1 : Int) ≤ (u3 43 21) ∧ (u3 43 21) ≤ 80 := g2525.1 43 21
  have : (0 : Int) ≤ (u3 43 18) ∧ (u3 43 18) ≤ 80 := g2525.1 43 18
  have : (0 : Int) ≤ (u3 43 19) ∧ (u3 43 19) ≤ 76 := g2525.1 43 19
  refine ok_lw (fun u4 e2531 => ?_)
  have g2532 : G md_R_land w u4 := g_st g2525 e2531 rfl rfl (show (0 : Int) ≤ (0 : Int) ∧ (0 : Int) ≤ 80 by omega)
  have : (0 : Int) ≤ (u4 43 18) ∧ (u4 43 18) ≤ 80 := g2532.1 43 18
  have : (u4 43 18) = (u3 43 18) := (congrFun (congrFun e2531 43) 18).trans (st_k (by decide))
  refine ok_ite (fun h2533 => ?_) (fun h2534 => ?_)
  · have : (0 : Int) ≤ (u4 43 13) ∧ (u4 43 13) ≤ 80 := g2532.1 43 13
    have : (u4 43 13) = (0 : Int) := (congrFun (congrFun e2531 43) 13).trans (st_eq _ _ _ _)
    exact ok_some ⟨by omega, g2532, (by omega)⟩
  · have : (0 : Int) ≤ (u4 43 0) ∧ (u4 43 0) ≤ 10 := g2532.1 43 0
    have : (u4 43 0) = (u3 43 0) := (congrFun (congrFun e2531 43) 0).trans (st_k (by decide))
    have : (0 : Int) ≤ (u3 43 0) ∧ (u3 43 0) ≤ 10 := g2525.1 43 0
    have : (u3 43 0) = (u1 43 0) := g2524.2.1 43 0 rfl
    have : (0 : Int) ≤ (u1 43 0) ∧ (u1 43 0) ≤ 10 := g2522.1 43 0
    have : (u1 43 0) = (w 43 0) := (congrFun (congrFun e2521 43) 0).trans (st_k (by decide))
    have : (0 : Int) ≤ (w 43 0) ∧ (w 43 0) ≤ 10 := hG.1 43 0
    refine ok_let (fun x5 e2535 => ?_)
    have : (0 : Int) ≤ x5 ∧ x5 ≤ 10 := by omega
    have : (0 : Int) ≤ (u4 43 17) ∧ (u4 43 17) ≤ 58 := g2532.1 43 17
    have : (u4 43 17) = (u3 43 17) := (congrFun (congrFun e2531 43) 17).trans (st_k (by decide))
    have : (-1 : Int) ≤ (u4 43 21) ∧ (u4 43 21) ≤ 80 := g2532.1 43 21
    have : (u4 43 21) = (u3 43 21) := (congrFun (congrFun e2531 43) 21).trans (st_k (by decide))
    have : (0 : Int) ≤ (u4 43 13) ∧ (u4 43 13) ≤ 80 := g2532.1 43 13
    have : (u4 43 13) = (0 : Int) := (congrFun (congrFun e2531 43) 13).trans (st_eq _ _ _ _)
    exact s_R_land_40 FU (by have := eqFU; omega) g2532 (by omega) (by omega) (by omega) (by omega) (by omega)
theorem s_R_letter_151 {b : Wd} {w : Wd} (hG : G md_R_letter b w) : OK (f_R_letter_151 w) (fun r u => ((-2147483648 : Int) ≤ r ∧ r ≤ 2147483647) ∧ G md_R_letter b u) := by
  unfold f_R_letter_151
  have : (0 : Int) ≤ (w 43 8) ∧ (w 43 8) ≤ 60 := hG.1 43 8
  have : (w 43 8) = (b 43 8) := hG.2.1 43 8 rfl
  exact ok_some ⟨by omega, hG⟩
theorem s_R_letter {w : Wd} {v1 : Int} (hG : G md_R_letter w w) (i_v1 : ((100 : Int) ≤ v1 ∧ v1 ≤ 127)) (a_0 : ((0 : Int) ≤ (w 43 28))) : OK (f_R_letter v1 w) (fun r u => ((-2147483648 : Int) ≤ r ∧ r ≤ 2147483647) ∧ G md_R_letter w u) := by
  unfold f_R_letter
  have : (-1 : Int) ≤ (w 43 28) ∧ (w 43 28) ≤ 9 := hG.1 43 28
  refine ok_ite (fun h2536 => ?_) (fun h2537 => ?_)
  · exact s_R_letter_151 hG
  · refine ok_ite (fun h2538 => ?_) (fun h2539 => ?_)
    · refine ok_gd (by omega) ?_
      refine ok_call (s_R_guests (g_self hG)) (fun r1 u2 q => ?_)
      obtain ⟨i2540, g2541⟩ := q
      have g2542 : G md_R_letter w u2 := g_tr hG g2541 rfl
      have : (0 : Int) ≤ (w 45 ((w 43 28)).toNat) ∧ (w 45 ((w 43 28)).toNat) ≤ 1023 := hG.1 45 ((w 43 28)).toNat
      have := iand_l (x := (w 45 ((w 43 28)).toNat)) (y := r1) (by omega)
      have := iand_r (x := (w 45 ((w 43 28)).toNat)) (y := r1) (by omega)
      refine ok_call (s_JI_bitCount (g_self g2542) (by omega)) (fun r3 u4 q => ?_)
      obtain ⟨i2543, g2544⟩ := q
      have g2545 : G md_R_letter w u4 := g_tr g2542 g2544 rfl
      exact ok_some ⟨by omega, g2545⟩
    · refine ok_ite (fun h2546 => ?_) (fun h2547 => ?_)
      · exact s_R_letter_151 hG
      · refine ok_ite (fun h2548 => ?_) (fun h2549 => ?_)
        · exact ok_some ⟨by omega, hG⟩
        · refine ok_ite (fun h2550 => ?_) (fun h2551 => ?_)
          · exact s_R_letter_151 hG
          · refine ok_ite (fun h2552 => ?_) (fun h2553 => ?_)
            · refine ok_gd (by omega) ?_
              have : (0 : Int) ≤ (w 45 ((w 43 28)).toNat) ∧ (w 45 ((w 43 28)).toNat) ≤ 1023 := hG.1 45 ((w 43 28)).toNat
              refine ok_call (s_JI_bitCount (g_self hG) (by omega)) (fun r5 u6 q => ?_)
              obtain ⟨i2554, g2555⟩ := q
              have g2556 : G md_R_letter w u6 := g_tr hG g2555 rfl
              exact ok_some ⟨by omega, g2556⟩
            · refine ok_ite (fun h2557 => ?_) (fun h2558 => ?_)
              · have : (0 : Int) ≤ (w 43 29) ∧ (w 43 29) ≤ 9 := hG.1 43 29
                refine ok_gd (by omega) ?_
                have : (-2147483648 : Int) ≤ (w 47 ((w 43 29)).toNat) ∧ (w 47 ((w 43 29)).toNat) ≤ 2147483647 := hG.1 47 ((w 43 29)).toNat
                have := w32_sp (((w 47 ((w 43 29)).toNat) - (1 : Int)))
                exact ok_some ⟨by omega, hG⟩
              · refine ok_ite (fun h2559 => ?_) (fun h2560 => ?_)
                · exact s_R_letter_151 hG
                · refine ok_ite (fun h2561 => ?_) (fun h2562 => ?_)
                  · have : (0 : Int) ≤ (w 43 29) ∧ (w 43 29) ≤ 9 := hG.1 43 29
                    exact ok_some ⟨by omega, hG⟩
                  · refine ok_ite (fun h2563 => ?_) (fun h2564 => ?_)
                    · exact s_R_letter_151 hG
                    · refine ok_ite (fun h2565 => ?_) (fun h2566 => ?_)
                      · refine ok_gd (by omega) ?_
                        have : (0 : Int) ≤ (w 44 ((w 43 28)).toNat) ∧ (w 44 ((w 43 28)).toNat) ≤ 9 := hG.1 44 ((w 43 28)).toNat
                        exact ok_some ⟨by omega, hG⟩
                      · refine ok_ite (fun h2567 => ?_) (fun h2568 => ?_)
                        · exact s_R_letter_151 hG
                        · refine ok_ite (fun h2569 => ?_) (fun h2570 => ?_)
                          · exact s_R_letter_151 hG
                          · refine ok_it (by omega) ?_
                            refine ok_gd (by omega) ?_
                            refine ok_call (s_R_those (g_self hG) (by omega) (by omega)) (fun r7 u8 q => ?_)
                            obtain ⟨i2571, g2572⟩ := q
                            have g2573 : G md_R_letter w u8 := g_tr hG g2572 rfl
                            have : (0 : Int) ≤ (w 45 ((w 43 28)).toNat) ∧ (w 45 ((w 43 28)).toNat) ≤ 1023 := hG.1 45 ((w 43 28)).toNat
                            have := iand_l (x := (w 45 ((w 43 28)).toNat)) (y := r7) (by omega)
                            have := iand_r (x := (w 45 ((w 43 28)).toNat)) (y := r7) (by omega)
                            refine ok_call (s_JI_bitCount (g_self g2573) (by omega)) (fun r9 u10 q => ?_)
                            obtain ⟨i2574, g2575⟩ := q
                            have g2576 : G md_R_letter w u10 := g_tr g2573 g2575 rfl
                            exact ok_some ⟨by omega, g2576⟩
theorem s_R_held_b {b : Wd} {rec : Nat → Int → Wd → Option (Int × Wd)} {Brec : Int} (hrec : ∀ {w1 : Wd} {y : Int} (i : Nat), i ≤ 3 → 60 - w1 43 20 - 4 * y - (i : Int) < Brec → G md_R_grp w1 w1 → ((0 : Int) ≤ y ∧ y ≤ 4) → (((w1 43 17) = (52 : Int)) ∨ (((w1 43 17) = (58 : Int)) ∧ ((w1 43 19) ≤ (40 : Int)))) → ((w1 43 20) ≤ (w1 43 19)) → ((w1 43 19) ≤ (40 : Int)) → OK (rec i y w1) (fun r u => ((-2147483648 : Int) ≤ r ∧ r ≤ 2147483647) ∧ G md_R_grp w1 u ∧ ((w1 43 20) ≤ (u 43 20)) ∧ ((u 43 20) ≤ (u 43 19)))) {w : Wd} {v1 : Int} (hG : G md_R_grp b w) (i_v1 : ((0 : Int) ≤ v1 ∧ v1 ≤ 4)) (a_0 : (((w 43 17) = (52 : Int)) ∨ (((w 43 17) = (58 : Int)) ∧ ((w 43 19) ≤ (40 : Int))))) (a_1 : ((w 43 20) ≤ (w 43 19))) (a_2 : ((w 43 20) = (b 43 20))) (a_3 : ((w 43 19) ≤ (40 : Int))) (hBrec : ((((60 : Int) - (b 43 20)) - ((4 : Int) * v1)) - (0 : Int)) ≤ Brec) : OK (f_R_held_b rec v1 w) (fun r u => ((-2147483648 : Int) ≤ r ∧ r ≤ 2147483647) ∧ G md_R_grp b u ∧ ((b 43 20) ≤ (u 43 20)) ∧ ((u 43 20) ≤ (u 43 19))) := by
  unfold f_R_held_b
  have : (0 : Int) ≤ (w 43 17) ∧ (w 43 17) ≤ 58 := hG.1 43 17
  have : (w 43 17) = (b 43 17) := hG.2.1 43 17 rfl
  have : (0 : Int) ≤ (w 43 19) ∧ (w 43 19) ≤ 76 := hG.1 43 19
  have : (w 43 19) = (b 43 19) := hG.2.1 43 19 rfl
  have : (0 : Int) ≤ (w 43 20) ∧ (w 43 20) ≤ 80 := hG.1 43 20
  refine ok_call (hrec 1 (by decide) (by omega) (g_self hG) (by omega) (by omega) (by omega) (by omega)) (fun r1 u2 q => ?_)
  obtain ⟨i2577, g2578, p2580, p2581⟩ := q
  have g2579 : G md_R_grp b u2 := g_tr hG g2578 rfl
  have : (0 : Int) ≤ (u2 43 20) ∧ (u2 43 20) ≤ 80 := g2579.1 43 20
  have : (0 : Int) ≤ (u2 43 19) ∧ (u2 43 19) ≤ 76 := g2579.1 43 19
  have : (u2 43 19) = (w 43 19) := g2578.2.1 43 19 rfl
  have : (0 : Int) ≤ (u2 43 17) ∧ (u2 43 17) ≤ 58 := g2579.1 43 17
  have : (u2 43 17) = (w 43 17) := g2578.2.1 43 17 rfl
  refine ok_call (s_R_passes (g_self g2579) (by omega) (by omega) (by omega)) (fun r3 u4 q => ?_)
  obtain ⟨i2582, g2583, p2585⟩ := q
  have g2584 : G md_R_grp b u4 := g_tr g2579 g2583 rfl
  have : (0 : Int) ≤ (u4 43 20) ∧ (u4 43 20) ≤ 80 := g2584.1 43 20
  have : (-1 : Int) ≤ (u2 43 21) ∧ (u2 43 21) ≤ 80 := g2579.1 43 21
  have : (0 : Int) ≤ (u2 43 18) ∧ (u2 43 18) ≤ 80 := g2579.1 43 18
  have : (u2 43 18) = (w 43 18) := g2578.2.1 43 18 rfl
  have : (0 : Int) ≤ (w 43 18) ∧ (w 43 18) ≤ 80 := hG.1 43 18
  have : (w 43 18) = (b 43 18) := hG.2.1 43 18 rfl
  refine ok_ite (fun h2586 => ?_) (fun h2587 => ?_)
  · have : (0 : Int) ≤ (u4 43 17) ∧ (u4 43 17) ≤ 58 := g2584.1 43 17
    have : (u4 43 17) = (u2 43 17) := g2583.2.1 43 17 rfl
    have : (0 : Int) ≤ (u4 43 19) ∧ (u4 43 19) ≤ 76 := g2584.1 43 19
    have : (u4 43 19) = (u2 43 19) := g2583.2.1 43 19 rfl
    refine ok_call (s_R_passes (g_self g2584) (by omega) (by omega) (by omega)) (fun r5 u6 q => ?_)
    obtain ⟨i2588, g2589, p2591⟩ := q
    have g2590 : G md_R_grp b u6 := g_tr g2584 g2589 rfl
    have : (0 : Int) ≤ (u6 43 20) ∧ (u6 43 20) ≤ 80 := g2590.1 43 20
    have : (-1 : Int) ≤ (u4 43 21) ∧ (u4 43 21) ≤ 80 := g2584.1 43 21
    have : (u4 43 21) = (u2 43 21) := g2583.2.1 43 21 rfl
    have : (0 : Int) ≤ (u4 43 18) ∧ (u4 43 18) ≤ 80 := g2584.1 43 18
    have : (u4 43 18) = (u2 43 18) := g2583.2.1 43 18 rfl
    refine ok_ite (fun h2592 => ?_) (fun h2593 => ?_)
    · have : (0 : Int) ≤ (u6 43 17) ∧ (u6 43 17) ≤ 58 := g2590.1 43 17
      have : (u6 43 17) = (u4 43 17) := g2589.2.1 43 17 rfl
      have : (0 : Int) ≤ (u6 43 19) ∧ (u6 43 19) ≤ 76 := g2590.1 43 19
      have : (u6 43 19) = (u4 43 19) := g2589.2.1 43 19 rfl
      refine ok_call (s_R_passes (g_self g2590) (by omega) (by omega) (by omega)) (fun r7 u8 q => ?_)
      obtain ⟨i2594, g2595, p2597⟩ := q
      have g2596 : G md_R_grp b u8 := g_tr g2590 g2595 rfl
      have : (0 : Int) ≤ (u8 43 20) ∧ (u8 43 20) ≤ 80 := g2596.1 43 20
      have : (-1 : Int) ≤ (u6 43 21) ∧ (u6 43 21) ≤ 80 := g2590.1 43 21
      have : (u6 43 21) = (u4 43 21) := g2589.2.1 43 21 rfl
      have : (0 : Int) ≤ (u6 43 18) ∧ (u6 43 18) ≤ 80 := g2590.1 43 18
      have : (u6 43 18) = (u4 43 18) := g2589.2.1 43 18 rfl
      refine ok_ite (fun h2598 => ?_) (fun h2599 => ?_)
      · have : (0 : Int) ≤ (u8 43 19) ∧ (u8 43 19) ≤ 76 := g2596.1 43 19
        have : (u8 43 19) = (u6 43 19) := g2595.2.1 43 19 rfl
        exact ok_some ⟨by omega, g2596, (by omega), (by omega)⟩
      · have : (0 : Int) ≤ (u8 43 17) ∧ (u8 43 17) ≤ 58 := g2596.1 43 17
        have : (u8 43 17) = (u6 43 17) := g2595.2.1 43 17 rfl
        have : (0 : Int) ≤ (u8 43 19) ∧ (u8 43 19) ≤ 76 := g2596.1 43 19
        have : (u8 43 19) = (u6 43 19) := g2595.2.1 43 19 rfl
        refine ok_call (hrec 1 (by decide) (by omega) (g_self g2596) (by omega) (by omega) (by omega) (by omega)) (fun r9 u10 q => ?_)
        obtain ⟨i2600, g2601, p2603, p2604⟩ := q
        have g2602 : G md_R_grp b u10 := g_tr g2596 g2601 rfl
        have : (0 : Int) ≤ (u10 43 20) ∧ (u10 43 20) ≤ 80 := g2602.1 43 20
        have : (0 : Int) ≤ (u10 43 19) ∧ (u10 43 19) ≤ 76 := g2602.1 43 19
        have : (u10 43 19) = (u8 43 19) := g2601.2.1 43 19 rfl
        refine ok_ite (fun h2605 => ?_) (fun h2606 => ?_)
        · exact ok_some ⟨by omega, g2602, (by omega), (by omega)⟩
        · exact ok_some ⟨by omega, g2602, (by omega), (by omega)⟩
    · have : (0 : Int) ≤ (u6 43 17) ∧ (u6 43 17) ≤ 58 := g2590.1 43 17
      have : (u6 43 17) = (u4 43 17) := g2589.2.1 43 17 rfl
      have : (0 : Int) ≤ (u6 43 19) ∧ (u6 43 19) ≤ 76 := g2590.1 43 19
      have : (u6 43 19) = (u4 43 19) := g2589.2.1 43 19 rfl
      refine ok_call (hrec 1 (by decide) (by omega) (g_self g2590) (by omega) (by omega) (by omega) (by omega)) (fun r11 u12 q => ?_)
      obtain ⟨i2607, g2608, p2610, p2611⟩ := q
      have g2609 : G md_R_grp b u12 := g_tr g2590 g2608 rfl
      have : (0 : Int) ≤ (u12 43 20) ∧ (u12 43 20) ≤ 80 := g2609.1 43 20
      have : (0 : Int) ≤ (u12 43 19) ∧ (u12 43 19) ≤ 76 := g2609.1 43 19
      have : (u12 43 19) = (u6 43 19) := g2608.2.1 43 19 rfl
      refine ok_ite (fun h2612 => ?_) (fun h2613 => ?_)
      · exact ok_some ⟨by omega, g2609, (by omega), (by omega)⟩
      · exact ok_some ⟨by omega, g2609, (by omega), (by omega)⟩
  · have : (0 : Int) ≤ (u4 43 17) ∧ (u4 43 17) ≤ 58 := g2584.1 43 17
    have : (u4 43 17) = (u2 43 17) := g2583.2.1 43 17 rfl
    have : (0 : Int) ≤ (u4 43 19) ∧ (u4 43 19) ≤ 76 := g2584.1 43 19
    have : (u4 43 19) = (u2 43 19) := g2583.2.1 43 19 rfl
    refine ok_call (hrec 1 (by decide) (by omega) (g_self g2584) (by omega) (by omega) (by omega) (by omega)) (fun r13 u14 q => ?_)
    obtain ⟨i2614, g2615, p2617, p2618⟩ := q
    have g2616 : G md_R_grp b u14 := g_tr g2584 g2615 rfl
    have : (0 : Int) ≤ (u14 43 20) ∧ (u14 43 20) ≤ 80 := g2616.1 43 20
    have : (0 : Int) ≤ (u14 43 19) ∧ (u14 43 19) ≤ 76 := g2616.1 43 19
    have : (u14 43 19) = (u4 43 19) := g2615.2.1 43 19 rfl
    refine ok_ite (fun h2619 => ?_) (fun h2620 => ?_)
    · exact ok_some ⟨by omega, g2616, (by omega), (by omega)⟩
    · exact ok_some ⟨by omega, g2616, (by omega), (by omega)⟩
theorem s_R_sum_78 {b : Wd} {rec : Nat → Int → Wd → Option (Int × Wd)} {Brec : Int} {k6 : Int → Int → Wd → Option (Int × Wd)} {Bk6 : Int} (hrec : ∀ {w1 : Wd} {y : Int} (i : Nat), i ≤ 3 → 60 - w1 43 20 - 4 * y - (i : Int) < Brec → G md_R_grp w1 w1 → ((0 : Int) ≤ y ∧ y ≤ 4) → (((w1 43 17) = (52 : Int)) ∨ (((w1 43 17) = (58 : Int)) ∧ ((w1 43 19) ≤ (40 : Int)))) → ((w1 43 20) ≤ (w1 43 19)) → ((w1 43 19) ≤ (40 : Int)) → OK (rec i y w1) (fun r u => ((-2147483648 : Int) ≤ r ∧ r ≤ 2147483647) ∧ G md_R_grp w1 u ∧ ((w1 43 20) ≤ (u 43 20)) ∧ ((u 43 20) ≤ (u 43 19)))) (hk6 : ∀ {w1 : Wd} {v1 v2 : Int}, ((81 : Int) - (w1 43 20)) < Bk6 → G md_R_grp b w1 → ((0 : Int) ≤ v1 ∧ v1 ≤ 4) → ((-2147483648 : Int) ≤ v2 ∧ v2 ≤ 2147483647) → (((w1 43 17) = (52 : Int)) ∨ (((w1 43 17) = (58 : Int)) ∧ ((w1 43 19) ≤ (40 : Int)))) → ((w1 43 20) ≤ (w1 43 19)) → ((b 43 20) ≤ (w1 43 20)) → ((w1 43 19) ≤ (40 : Int)) → ((((60 : Int) - (b 43 20)) - ((4 : Int) * v1)) - (1 : Int)) ≤ Brec → OK (k6 v1 v2 w1) (fun r u => ((-2147483648 : Int) ≤ r ∧ r ≤ 2147483647) ∧ G md_R_grp b u ∧ ((b 43 20) ≤ (u 43 20)) ∧ ((u 43 20) ≤ (u 43 19)))) {w : Wd} {v1 s0 : Int} (hG : G md_R_grp b w) (i_v1 : ((0 : Int) ≤ v1 ∧ v1 ≤ 4)) (i_s0 : ((-2147483648 : Int) ≤ s0 ∧ s0 ≤ 2147483647)) (a_0 : (((w 43 17) = (52 : Int)) ∨ (((w 43 17) = (58 : Int)) ∧ ((w 43 19) ≤ (40 : Int))))) (a_1 : ((w 43 20) ≤ (w 43 19))) (a_2 : ((b 43 20) ≤ (w 43 20))) (a_3 : ((w 43 19) ≤ (40 : Int))) (hBrec : ((((60 : Int) - (b 43 20)) - ((4 : Int) * v1)) - (1 : Int)) ≤ Brec) (hBk6 : ((82 : Int) - (w 43 20)) ≤ Bk6) : OK (f_R_sum_78 rec k6 v1 s0 w) (fun r u => ((-2147483648 : Int) ≤ r ∧ r ≤ 2147483647) ∧ G md_R_grp b u ∧ ((b 43 20) ≤ (u 43 20)) ∧ ((u 43 20) ≤ (u 43 19))) := by
  unfold f_R_sum_78
  have : (0 : Int) ≤ (w 43 17) ∧ (w 43 17) ≤ 58 := hG.1 43 17
  have : (w 43 17) = (b 43 17) := hG.2.1 43 17 rfl
  have : (0 : Int) ≤ (w 43 19) ∧ (w 43 19) ≤ 76 := hG.1 43 19
  have : (w 43 19) = (b 43 19) := hG.2.1 43 19 rfl
  have : (0 : Int) ≤ (w 43 20) ∧ (w 43 20) ≤ 80 := hG.1 43 20
  exact hk6 (by omega) hG (by omega) (by omega) (by omega) (by omega) (by omega) (by omega) (by omega)
theorem s_R_sum_45 {b : Wd} {rec : Nat → Int → Wd → Option (Int × Wd)} {Brec : Int} {k6 : Int → Int → Wd → Option (Int × Wd)} {Bk6 : Int} (hrec : ∀ {w1 : Wd} {y : Int} (i : Nat), i ≤ 3 → 60 - w1 43 20 - 4 * y - (i : Int) < Brec → G md_R_grp w1 w1 → ((0 : Int) ≤ y ∧ y ≤ 4) → (((w1 43 17) = (52 : Int)) ∨ (((w1 43 17) = (58 : Int)) ∧ ((w1 43 19) ≤ (40 : Int)))) → ((w1 43 20) ≤ (w1 43 19)) → ((w1 43 19) ≤ (40 : Int)) → OK (rec i y w1) (fun r u => ((-2147483648 : Int) ≤ r ∧ r ≤ 2147483647) ∧ G md_R_grp w1 u ∧ ((w1 43 20) ≤ (u 43 20)) ∧ ((u 43 20) ≤ (u 43 19)))) (hk6 : ∀ {w1 : Wd} {v1 v2 : Int}, ((81 : Int) - (w1 43 20)) < Bk6 → G md_R_grp b w1 → ((0 : Int) ≤ v1 ∧ v1 ≤ 4) → ((-2147483648 : Int) ≤ v2 ∧ v2 ≤ 2147483647) → (((w1 43 17) = (52 : Int)) ∨ (((w1 43 17) = (58 : Int)) ∧ ((w1 43 19) ≤ (40 : Int)))) → ((w1 43 20) ≤ (w1 43 19)) → ((b 43 20) ≤ (w1 43 20)) → ((w1 43 19) ≤ (40 : Int)) → ((((60 : Int) - (b 43 20)) - ((4 : Int) * v1)) - (1 : Int)) ≤ Brec → OK (k6 v1 v2 w1) (fun r u => ((-2147483648 : Int) ≤ r ∧ r ≤ 2147483647) ∧ G md_R_grp b u ∧ ((b 43 20) ≤ (u 43 20)) ∧ ((u 43 20) ≤ (u 43 19)))) {w : Wd} {v1 v2 s0 : Int} (hG : G md_R_grp b w) (i_v1 : ((0 : Int) ≤ v1 ∧ v1 ≤ 4)) (i_v2 : ((-2147483648 : Int) ≤ v2 ∧ v2 ≤ 2147483647)) (i_s0 : ((0 : Int) ≤ s0 ∧ s0 ≤ 1)) (a_0 : (((w 43 17) = (52 : Int)) ∨ (((w 43 17) = (58 : Int)) ∧ ((w 43 19) ≤ (40 : Int))))) (a_1 : ((w 43 20) < (w 43 19))) (a_2 : ((b 43 20) ≤ (w 43 20))) (a_3 : ((w 43 19) ≤ (40 : Int))) (hBrec : ((((60 : Int) - (b 43 20)) - ((4 : Int) * v1)) - (1 : Int)) ≤ Brec) (hBk6 : ((81 : Int) - (w 43 20)) ≤ Bk6) : OK (f_R_sum_45 rec k6 v1 v2 s0 w) (fun r u => ((-2147483648 : Int) ≤ r ∧ r ≤ 2147483647) ∧ G md_R_grp b u ∧ ((b 43 20) ≤ (u 43 20)) ∧ ((u 43 20) ≤ (u 43 19))) := by
  unfold f_R_sum_45
  have : (0 : Int) ≤ (w 43 17) ∧ (w 43 17) ≤ 58 := hG.1 43 17
  have : (w 43 17) = (b 43 17) := hG.2.1 43 17 rfl
  have : (0 : Int) ≤ (w 43 19) ∧ (w 43 19) ≤ 76 := hG.1 43 19
  have : (w 43 19) = (b 43 19) := hG.2.1 43 19 rfl
  have : (0 : Int) ≤ (w 43 20) ∧ (w 43 20) ≤ 80 := hG.1 43 20
  have := w32_sp (((w 43 20) + (1 : Int)))
  refine ok_lw (fun u9 e2621 => ?_)
  have g2622 : G md_R_grp b u9 := g_st hG e2621 rfl rfl (show (0 : Int) ≤ (w32 ((w 43 20) + (1 : Int))) ∧ (w32 ((w 43 20) + (1 : Int))) ≤ 80 by omega)
  have : (0 : Int) ≤ (u9 43 17) ∧ (u9 43 17) ≤ 58 := g2622.1 43 17
  have : (u9 43 17) = (w 43 17) := (congrFun (congrFun e2621 43) 17).trans (st_k (by decide))
  have : (0 : Int) ≤ (u9 43 19) ∧ (u9 43 19) ≤ 76 := g2622.1 43 19
  have : (u9 43 19) = (w 43 19) := (congrFun (congrFun e2621 43) 19).trans (st_k (by decide))
  have : (0 : Int) ≤ (u9 43 20) ∧ (u9 43 20) ≤ 80 := g2622.1 43 20
  have : (u9 43 20) = (w32 ((w 43 20) + (1 : Int))) := (congrFun (congrFun e2621 43) 20).trans (st_eq _ _ _ _)
  refine ok_call (hrec 2 (by decide) (by omega) (g_self g2622) (by omega) (by omega) (by omega) (by omega)) (fun r10 u11 q => ?_)
  obtain ⟨i2623, g2624, p2626, p2627⟩ := q
  have g2625 : G md_R_grp b u11 := g_tr g2622 g2624 rfl
  have : (0 : Int) ≤ (u11 43 20) ∧ (u11 43 20) ≤ 80 := g2625.1 43 20
  have : (0 : Int) ≤ (u11 43 19) ∧ (u11 43 19) ≤ 76 := g2625.1 43 19
  have : (u11 43 19) = (u9 43 19) := g2624.2.1 43 19 rfl
  refine ok_ite (fun h2628 => ?_) (fun h2629 => ?_)
  · have := w32_sp ((v2 - r10))
    have : (0 : Int) ≤ (u11 43 17) ∧ (u11 43 17) ≤ 58 := g2625.1 43 17
    have : (u11 43 17) = (u9 43 17) := g2624.2.1 43 17 rfl
    exact s_R_sum_78 hrec hk6 g2625 (by omega) (by omega) (by omega) (by omega) (by omega) (by omega) (by omega) (by omega)
  · have := w32_sp ((v2 + r10))
    have : (0 : Int) ≤ (u11 43 17) ∧ (u11 43 17) ≤ 58 := g2625.1 43 17
    have : (u11 43 17) = (u9 43 17) := g2624.2.1 43 17 rfl
    exact s_R_sum_78 hrec hk6 g2625 (by omega) (by omega) (by omega) (by omega) (by omega) (by omega) (by omega) (by omega)
theorem s_R_sum_31 {b : Wd} {rec : Nat → Int → Wd → Option (Int × Wd)} {Brec : Int} {k6 : Int → Int → Wd → Option (Int × Wd)} {Bk6 : Int} (hrec : ∀ {w1 : Wd} {y : Int} (i : Nat), i ≤ 3 → 60 - w1 43 20 - 4 * y - (i : Int) < Brec → G md_R_grp w1 w1 → ((0 : Int) ≤ y ∧ y ≤ 4) → (((w1 43 17) = (52 : Int)) ∨ (((w1 43 17) = (58 : Int)) ∧ ((w1 43 19) ≤ (40 : Int)))) → ((w1 43 20) ≤ (w1 43 19)) → ((w1 43 19) ≤ (40 : Int)) → OK (rec i y w1) (fun r u => ((-2147483648 : Int) ≤ r ∧ r ≤ 2147483647) ∧ G md_R_grp w1 u ∧ ((w1 43 20) ≤ (u 43 20)) ∧ ((u 43 20) ≤ (u 43 19)))) (hk6 : ∀ {w1 : Wd} {v1 v2 : Int}, ((81 : Int) - (w1 43 20)) < Bk6 → G md_R_grp b w1 → ((0 : Int) ≤ v1 ∧ v1 ≤ 4) → ((-2147483648 : Int) ≤ v2 ∧ v2 ≤ 2147483647) → (((w1 43 17) = (52 : Int)) ∨ (((w1 43 17) = (58 : Int)) ∧ ((w1 43 19) ≤ (40 : Int)))) → ((w1 43 20) ≤ (w1 43 19)) → ((b 43 20) ≤ (w1 43 20)) → ((w1 43 19) ≤ (40 : Int)) → ((((60 : Int) - (b 43 20)) - ((4 : Int) * v1)) - (1 : Int)) ≤ Brec → OK (k6 v1 v2 w1) (fun r u => ((-2147483648 : Int) ≤ r ∧ r ≤ 2147483647) ∧ G md_R_grp b u ∧ ((b 43 20) ≤ (u 43 20)) ∧ ((u 43 20) ≤ (u 43 19)))) {w : Wd} {v1 v2 : Int} (hG : G md_R_grp b w) (i_v1 : ((0 : Int) ≤ v1 ∧ v1 ≤ 4)) (i_v2 : ((-2147483648 : Int) ≤ v2 ∧ v2 ≤ 2147483647)) (a_0 : (((w 43 17) = (52 : Int)) ∨ (((w 43 17) = (58 : Int)) ∧ ((w 43 19) ≤ (40 : Int))))) (a_1 : ((w 43 20) < (w 43 19))) (a_2 : ((b 43 20) ≤ (w 43 20))) (a_3 : ((w 43 19) ≤ (40 : Int))) (hBrec : ((((60 : Int) - (b 43 20)) - ((4 : Int) * v1)) - (1 : Int)) ≤ Brec) (hBk6 : ((81 : Int) - (w 43 20)) ≤ Bk6) : OK (f_R_sum_31 rec k6 v1 v2 w) (fun r u => ((-2147483648 : Int) ≤ r ∧ r ≤ 2147483647) ∧ G md_R_grp b u ∧ ((b 43 20) ≤ (u 43 20)) ∧ ((u 43 20) ≤ (u 43 19))) := by
  unfold f_R_sum_31
  have : (0 : Int) ≤ (w 43 17) ∧ (w 43 17) ≤ 58 := hG.1 43 17
  have : (w 43 17) = (b 43 17) := hG.2.1 43 17 rfl
  have : (0 : Int) ≤ (w 43 19) ∧ (w 43 19) ≤ 76 := hG.1 43 19
  have : (w 43 19) = (b 43 19) := hG.2.1 43 19 rfl
  have : (0 : Int) ≤ (w 43 20) ∧ (w 43 20) ≤ 80 := hG.1 43 20
  refine ok_call (s_R_here (g_self hG) (by omega)) (fun r7 u8 q => ?_)
  obtain ⟨i2630, g2631, p2633⟩ := q
  have g2632 : G md_R_grp b u8 := g_tr hG g2631 rfl
  have : (0 : Int) ≤ (w 43 18) ∧ (w 43 18) ≤ 80 := hG.1 43 18
  have : (w 43 18) = (b 43 18) := hG.2.1 43 18 rfl
  refine ok_ite (fun h2634 => ?_) (fun h2635 => ?_)
  · have : (0 : Int) ≤ (u8 43 17) ∧ (u8 43 17) ≤ 58 := g2632.1 43 17
    have : (u8 43 17) = (w 43 17) := g2631.2.1 43 17 rfl
    have : (0 : Int) ≤ (u8 43 19) ∧ (u8 43 19) ≤ 76 := g2632.1 43 19
    have : (u8 43 19) = (w 43 19) := g2631.2.1 43 19 rfl
    have : (0 : Int) ≤ (u8 43 20) ∧ (u8 43 20) ≤ 80 := g2632.1 43 20
    have : (u8 43 20) = (w 43 20) := g2631.2.1 43 20 rfl
    exact s_R_sum_45 hrec hk6 g2632 (by omega) (by omega) (by omega) (by omega) (by omega) (by omega) (by omega) (by omega) (by omega)
  · have : (0 : Int) ≤ (u8 43 17) ∧ (u8 43 17) ≤ 58 := g2632.1 43 17
    have : (u8 43 17) = (w 43 17) := g2631.2.1 43 17 rfl
    have : (0 : Int) ≤ (u8 43 19) ∧ (u8 43 19) ≤ 76 := g2632.1 43 19
    have : (u8 43 19) = (w 43 19) := g2631.2.1 43 19 rfl
    have : (0 : Int) ≤ (u8 43 20) ∧ (u8 43 20) ≤ 80 := g2632.1 43 20
    have : (u8 43 20) = (w 43 20) := g2631.2.1 43 20 rfl
    exact s_R_sum_45 hrec hk6 g2632 (by omega) (by omega) (by omega) (by omega) (by omega) (by omega) (by omega) (by omega) (by omega)
theorem s_R_sum_6 {b : Wd} {rec : Nat → Int → Wd → Option (Int × Wd)} {Brec : Int} (hrec : ∀ {w1 : Wd} {y : Int} (i : Nat), i ≤ 3 → 60 - w1 43 20 - 4 * y - (i : Int) < Brec → G md_R_grp w1 w1 → ((0 : Int) ≤ y ∧ y ≤ 4) → (((w1 43 17) = (52 : Int)) ∨ (((w1 43 17) = (58 : Int)) ∧ ((w1 43 19) ≤ (40 : Int)))) → ((w1 43 20) ≤ (w1 43 19)) → ((w1 43 19) ≤ (40 : Int)) → OK (rec i y w1) (fun r u => ((-2147483648 : Int) ≤ r ∧ r ≤ 2147483647) ∧ G md_R_grp w1 u ∧ ((w1 43 20) ≤ (u 43 20)) ∧ ((u 43 20) ≤ (u 43 19)))) : ∀ (n : Nat) {w : Wd} {v1 v2 : Int}, ((81 : Int) - (w 43 20)) < (n : Int) → G md_R_grp b w → ((0 : Int) ≤ v1 ∧ v1 ≤ 4) → ((-2147483648 : Int) ≤ v2 ∧ v2 ≤ 2147483647) → (((w 43 17) = (52 : Int)) ∨ (((w 43 17) = (58 : Int)) ∧ ((w 43 19) ≤ (40 : Int)))) → ((w 43 20) ≤ (w 43 19)) → ((b 43 20) ≤ (w 43 20)) → ((w 43 19) ≤ (40 : Int)) → ((((60 : Int) - (b 43 20)) - ((4 : Int) * v1)) - (1 : Int)) ≤ Brec → OK (f_R_sum_6 rec n v1 v2 w) (fun r u => ((-2147483648 : Int) ≤ r ∧ r ≤ 2147483647) ∧ G md_R_grp b u ∧ ((b 43 20) ≤ (u 43 20)) ∧ ((u 43 20) ≤ (u 43 19))) := by
  intro n
  induction n with
  | zero =>
    intro w v1 v2 hm hG i_v1 i_v2 a_0 a_1 a_2 a_3 hBrec
    exfalso
    have : (0 : Int) ≤ (w 43 20) ∧ (w 43 20) ≤ 80 := hG.1 43 20
    omega
  | succ n ih =>
    intro w v1 v2 hm hG i_v1 i_v2 a_0 a_1 a_2 a_3 hBrec
    rw [f_R_sum_6]
    have : (0 : Int) ≤ (w 43 17) ∧ (w 43 17) ≤ 58 := hG.1 43 17
    have : (w 43 17) = (b 43 17) := hG.2.1 43 17 rfl
    have : (0 : Int) ≤ (w 43 19) ∧ (w 43 19) ≤ 76 := hG.1 43 19
    have : (w 43 19) = (b 43 19) := hG.2.1 43 19 rfl
    have : (0 : Int) ≤ (w 43 20) ∧ (w 43 20) ≤ 80 := hG.1 43 20
    have : (-1 : Int) ≤ (w 43 21) ∧ (w 43 21) ≤ 80 := hG.1 43 21
    refine ok_jite (fun h2637 => ?_) (fun h2638 => ?_)
    · refine ok_jsome ?_
      refine ok_if (by decide) ?_
      refine ok_call (s_R_here (g_self hG) (by omega)) (fun r5 u6 q => ?_)
      obtain ⟨i2639, g2640, p2642⟩ := q
      have g2641 : G md_R_grp b u6 := g_tr hG g2640 rfl
      have : (0 : Int) ≤ (w 43 18) ∧ (w 43 18) ≤ 80 := hG.1 43 18
      have : (w 43 18) = (b 43 18) := hG.2.1 43 18 rfl
      refine ok_ite (fun h2643 => ?_) (fun h2644 => ?_)
      · have : (0 : Int) ≤ (u6 43 17) ∧ (u6 43 17) ≤ 58 := g2641.1 43 17
        have : (u6 43 17) = (w 43 17) := g2640.2.1 43 17 rfl
        have : (0 : Int) ≤ (u6 43 19) ∧ (u6 43 19) ≤ 76 := g2641.1 43 19
        have : (u6 43 19) = (w 43 19) := g2640.2.1 43 19 rfl
        have : (0 : Int) ≤ (u6 43 20) ∧ (u6 43 20) ≤ 80 := g2641.1 43 20
        have : (u6 43 20) = (w 43 20) := g2640.2.1 43 20 rfl
        exact s_R_sum_31 hrec ih g2641 (by omega) (by omega) (by omega) (by omega) (by omega) (by omega) (by omega) (by omega)
      · have : (0 : Int) ≤ (u6 43 17) ∧ (u6 43 17) ≤ 58 := g2641.1 43 17
        have : (u6 43 17) = (w 43 17) := g2640.2.1 43 17 rfl
        have : (0 : Int) ≤ (u6 43 19) ∧ (u6 43 19) ≤ 76 := g2641.1 43 19
        have : (u6 43 19) = (w 43 19) := g2640.2.1 43 19 rfl
        refine ok_call (s_R_here (g_self g2641) (by omega)) (fun r12 u13 q => ?_)
        obtain ⟨i2645, g2646, p2648⟩ := q
        have g2647 : G md_R_grp b u13 := g_tr g2641 g2646 rfl
        have : (0 : Int) ≤ (u6 43 20) ∧ (u6 43 20) ≤ 80 := g2641.1 43 20
        have : (u6 43 20) = (w 43 20) := g2640.2.1 43 20 rfl
        have : (0 : Int) ≤ (u6 43 18) ∧ (u6 43 18) ≤ 80 := g2641.1 43 18
        have : (u6 43 18) = (w 43 18) := g2640.2.1 43 18 rfl
        refine ok_ite (fun h2649 => ?_) (fun h2650 => ?_)
        · have : (0 : Int) ≤ (u13 43 17) ∧ (u13 43 17) ≤ 58 := g2647.1 43 17
          have : (u13 43 17) = (u6 43 17) := g2646.2.1 43 17 rfl
          have : (0 : Int) ≤ (u13 43 19) ∧ (u13 43 19) ≤ 76 := g2647.1 43 19
          have : (u13 43 19) = (u6 43 19) := g2646.2.1 43 19 rfl
          have : (0 : Int) ≤ (u13 43 20) ∧ (u13 43 20) ≤ 80 := g2647.1 43 20
          have : (u13 43 20) = (u6 43 20) := g2646.2.1 43 20 rfl
          exact s_R_sum_31 hrec ih g2647 (by omega) (by omega) (by omega) (by omega) (by omega) (by omega) (by omega) (by omega)
        · have : (0 : Int) ≤ (u13 43 20) ∧ (u13 43 20) ≤ 80 := g2647.1 43 20
          have : (u13 43 20) = (u6 43 20) := g2646.2.1 43 20 rfl
          have : (0 : Int) ≤ (u13 43 19) ∧ (u13 43 19) ≤ 76 := g2647.1 43 19
          have : (u13 43 19) = (u6 43 19) := g2646.2.1 43 19 rfl
          exact ok_some ⟨by omega, g2647, (by omega), (by omega)⟩
    · refine ok_jsome ?_
      refine ok_it (by decide) ?_
      exact ok_some ⟨by omega, hG, (by omega), (by omega)⟩
theorem s_R_sum_b {b : Wd} {rec : Nat → Int → Wd → Option (Int × Wd)} {Brec : Int} (hrec : ∀ {w1 : Wd} {y : Int} (i : Nat), i ≤ 3 → 60 - w1 43 20 - 4 * y - (i : Int) < Brec → G md_R_grp w1 w1 → ((0 : Int) ≤ y ∧ y ≤ 4) → (((w1 43 17) = (52 : Int)) ∨ (((w1 43 17) = (58 : Int)) ∧ ((w1 43 19) ≤ (40 : Int)))) → ((w1 43 20) ≤ (w1 43 19)) → ((w1 43 19) ≤ (40 : Int)) → OK (rec i y w1) (fun r u => ((-2147483648 : Int) ≤ r ∧ r ≤ 2147483647) ∧ G md_R_grp w1 u ∧ ((w1 43 20) ≤ (u 43 20)) ∧ ((u 43 20) ≤ (u 43 19)))) {w : Wd} {v1 : Int} (hG : G md_R_grp b w) (i_v1 : ((0 : Int) ≤ v1 ∧ v1 ≤ 4)) (a_0 : (((w 43 17) = (52 : Int)) ∨ (((w 43 17) = (58 : Int)) ∧ ((w 43 19) ≤ (40 : Int))))) (a_1 : ((w 43 20) ≤ (w 43 19))) (a_2 : ((w 43 20) = (b 43 20))) (a_3 : ((w 43 19) ≤ (40 : Int))) (hBrec : ((((60 : Int) - (b 43 20)) - ((4 : Int) * v1)) - (1 : Int)) ≤ Brec) : OK (f_R_sum_b rec v1 w) (fun r u => ((-2147483648 : Int) ≤ r ∧ r ≤ 2147483647) ∧ G md_R_grp b u ∧ ((b 43 20) ≤ (u 43 20)) ∧ ((u 43 20) ≤ (u 43 19))) := by
  unfold f_R_sum_b
  have : (0 : Int) ≤ (w 43 17) ∧ (w 43 17) ≤ 58 := hG.1 43 17
  have : (w 43 17) = (b 43 17) := hG.2.1 43 17 rfl
  have : (0 : Int) ≤ (w 43 19) ∧ (w 43 19) ≤ 76 := hG.1 43 19
  have : (w 43 19) = (b 43 19) := hG.2.1 43 19 rfl
  have : (0 : Int) ≤ (w 43 20) ∧ (w 43 20) ≤ 80 := hG.1 43 20
  refine ok_call (hrec 2 (by decide) (by omega) (g_self hG) (by omega) (by omega) (by omega) (by omega)) (fun r1 u2 q => ?_)
  obtain ⟨i2651, g2652, p2654, p2655⟩ := q
  have g2653 : G md_R_grp b u2 := g_tr hG g2652 rfl
  have : (0 : Int) ≤ (u2 43 20) ∧ (u2 43 20) ≤ 80 := g2653.1 43 20
  have : (0 : Int) ≤ (u2 43 19) ∧ (u2 43 19) ≤ 76 := g2653.1 43 19
  have : (u2 43 19) = (w 43 19) := g2652.2.1 43 19 rfl
  have : (0 : Int) ≤ (u2 43 17) ∧ (u2 43 17) ≤ 58 := g2653.1 43 17
  have : (u2 43 17) = (w 43 17) := g2652.2.1 43 17 rfl
  exact s_R_sum_6 hrec FU (by have := eqFU; omega) g2653 (by omega) (by omega) (by omega) (by omega) (by omega) (by omega) (by omega)
theorem s_R_product_87 {b : Wd} {rec : Nat → Int → Wd → Option (Int × Wd)} {Brec : Int} {k6 : Int → Int → Wd → Option (Int × Wd)} {Bk6 : Int} (hrec : ∀ {w1 : Wd} {y : Int} (i : Nat), i ≤ 3 → 60 - w1 43 20 - 4 * y - (i : Int) < Brec → G md_R_grp w1 w1 → ((0 : Int) ≤ y ∧ y ≤ 4) → (((w1 43 17) = (52 : Int)) ∨ (((w1 43 17) = (58 : Int)) ∧ ((w1 43 19) ≤ (40 : Int)))) → ((w1 43 20) ≤ (w1 43 19)) → ((w1 43 19) ≤ (40 : Int)) → OK (rec i y w1) (fun r u => ((-2147483648 : Int) ≤ r ∧ r ≤ 2147483647) ∧ G md_R_grp w1 u ∧ ((w1 43 20) ≤ (u 43 20)) ∧ ((u 43 20) ≤ (u 43 19)))) (hk6 : ∀ {w1 : Wd} {v1 v2 : Int}, ((81 : Int) - (w1 43 20)) < Bk6 → G md_R_grp b w1 → ((0 : Int) ≤ v1 ∧ v1 ≤ 4) → ((-2147483648 : Int) ≤ v2 ∧ v2 ≤ 2147483647) → (((w1 43 17) = (52 : Int)) ∨ (((w1 43 17) = (58 : Int)) ∧ ((w1 43 19) ≤ (40 : Int)))) → ((w1 43 20) ≤ (w1 43 19)) → ((b 43 20) ≤ (w1 43 20)) → ((w1 43 19) ≤ (40 : Int)) → ((((60 : Int) - (b 43 20)) - ((4 : Int) * v1)) - (2 : Int)) ≤ Brec → OK (k6 v1 v2 w1) (fun r u => ((-2147483648 : Int) ≤ r ∧ r ≤ 2147483647) ∧ G md_R_grp b u ∧ ((b 43 20) ≤ (u 43 20)) ∧ ((u 43 20) ≤ (u 43 19)))) {w : Wd} {v1 s0 : Int} (hG : G md_R_grp b w) (i_v1 : ((0 : Int) ≤ v1 ∧ v1 ≤ 4)) (i_s0 : ((-2147483648 : Int) ≤ s0 ∧ s0 ≤ 2147483647)) (a_0 : (((w 43 17) = (52 : Int)) ∨ (((w 43 17) = (58 : Int)) ∧ ((w 43 19) ≤ (40 : Int))))) (a_1 : ((w 43 20) ≤ (w 43 19))) (a_2 : ((b 43 20) ≤ (w 43 20))) (a_3 : ((w 43 19) ≤ (40 : Int))) (hBrec : ((((60 : Int) - (b 43 20)) - ((4 : Int) * v1)) - (2 : Int)) ≤ Brec) (hBk6 : ((82 : Int) - (w 43 20)) ≤ Bk6) : OK (f_R_product_87 rec k6 v1 s0 w) (fun r u => ((-2147483648 : Int) ≤ r ∧ r ≤ 2147483647) ∧ G md_R_grp b u ∧ ((b 43 20) ≤ (u 43 20)) ∧ ((u 43 20) ≤ (u 43 19))) := by
  unfold f_R_product_87
  have : (0 : Int) ≤ (w 43 17) ∧ (w 43 17) ≤ 58 := hG.1 43 17
  have : (w 43 17) = (b 43 17) := hG.2.1 43 17 rfl
  have : (0 : Int) ≤ (w 43 19) ∧ (w 43 19) ≤ 76 := hG.1 43 19
  have : (w 43 19) = (b 43 19) := hG.2.1 43 19 rfl
  have : (0 : Int) ≤ (w 43 20) ∧ (w 43 20) ≤ 80 := hG.1 43 20
  exact hk6 (by omega) hG (by omega) (by omega) (by omega) (by omega) (by omega) (by omega) (by omega)
theorem s_R_product_45 {b : Wd} {rec : Nat → Int → Wd → Option (Int × Wd)} {Brec : Int} {k6 : Int → Int → Wd → Option (Int × Wd)} {Bk6 : Int} (hrec : ∀ {w1 : Wd} {y : Int} (i : Nat), i ≤ 3 → 60 - w1 43 20 - 4 * y - (i : Int) < Brec → G md_R_grp w1 w1 → ((0 : Int) ≤ y ∧ y ≤ 4) → (((w1 43 17) = (52 : Int)) ∨ (((w1 43 17) = (58 : Int)) ∧ ((w1 43 19) ≤ (40 : Int)))) → ((w1 43 20) ≤ (w1 43 19)) → ((w1 43 19) ≤ (40 : Int)) → OK (rec i y w1) (fun r u => ((-2147483648 : Int) ≤ r ∧ r ≤ 2147483647) ∧ G md_R_grp w1 u ∧ ((w1 43 20) ≤ (u 43 20)) ∧ ((u 43 20) ≤ (u 43 19)))) (hk6 : ∀ {w1 : Wd} {v1 v2 : Int}, ((81 : Int) - (w1 43 20)) < Bk6 → G md_R_grp b w1 → ((0 : Int) ≤ v1 ∧ v1 ≤ 4) → ((-2147483648 : Int) ≤ v2 ∧ v2 ≤ 2147483647) → (((w1 43 17) = (52 : Int)) ∨ (((w1 43 17) = (58 : Int)) ∧ ((w1 43 19) ≤ (40 : Int)))) → ((w1 43 20) ≤ (w1 43 19)) → ((b 43 20) ≤ (w1 43 20)) → ((w1 43 19) ≤ (40 : Int)) → ((((60 : Int) - (b 43 20)) - ((4 : Int) * v1)) - (2 : Int)) ≤ Brec → OK (k6 v1 v2 w1) (fun r u => ((-2147483648 : Int) ≤ r ∧ r ≤ 2147483647) ∧ G md_R_grp b u ∧ ((b 43 20) ≤ (u 43 20)) ∧ ((u 43 20) ≤ (u 43 19)))) {w : Wd} {v1 v2 s0 : Int} (hG : G md_R_grp b w) (i_v1 : ((0 : Int) ≤ v1 ∧ v1 ≤ 4)) (i_v2 : ((-2147483648 : Int) ≤ v2 ∧ v2 ≤ 2147483647)) (i_s0 : ((0 : Int) ≤ s0 ∧ s0 ≤ 1)) (a_0 : (((w 43 17) = (52 : Int)) ∨ (((w 43 17) = (58 : Int)) ∧ ((w 43 19) ≤ (40 : Int))))) (a_1 : ((w 43 20) < (w 43 19))) (a_2 : ((b 43 20) ≤ (w 43 20))) (a_3 : ((w 43 19) ≤ (40 : Int))) (hBrec : ((((60 : Int) - (b 43 20)) - ((4 : Int) * v1)) - (2 : Int)) ≤ Brec) (hBk6 : ((81 : Int) - (w 43 20)) ≤ Bk6) : OK (f_R_product_45 rec k6 v1 v2 s0 w) (fun r u => ((-2147483648 : Int) ≤ r ∧ r ≤ 2147483647) ∧ G md_R_grp b u ∧ ((b 43 20) ≤ (u 43 20)) ∧ ((u 43 20) ≤ (u 43 19))) := by
  unfold f_R_product_45
  have : (0 : Int) ≤ (w 43 17) ∧ (w 43 17) ≤ 58 := hG.1 43 17
  have : (w 43 17) = (b 43 17) := hG.2.1 43 17 rfl
  have : (0 : Int) ≤ (w 43 19) ∧ (w 43 19) ≤ 76 := hG.1 43 19
  have : (w 43 19) = (b 43 19) := hG.2.1 43 19 rfl
  have : (0 : Int) ≤ (w 43 20) ∧ (w 43 20) ≤ 80 := hG.1 43 20
  have := w32_sp (((w 43 20) + (1 : Int)))
  refine ok_lw (fun u9 e2656 => ?_)
  have g2657 : G md_R_grp b u9 := g_st hG e2656 rfl rfl (show (0 : Int) ≤ (w32 ((w 43 20) + (1 : Int))) ∧ (w32 ((w 43 20) + (1 : Int))) ≤ 80 by omega)
  have : (0 : Int) ≤ (u9 43 17) ∧ (u9 43 17) ≤ 58 := g2657.1 43 17
  have : (u9 43 17) = (w 43 17) := (congrFun (congrFun e2656 43) 17).trans (st_k (by decide))
  have : (0 : Int) ≤ (u9 43 19) ∧ (u9 43 19) ≤ 76 := g2657.1 43 19
  have : (u9 43 19) = (w 43 19) := (congrFun (congrFun e2656 43) 19).trans (st_k (by decide))
  have : (0 : Int) ≤ (u9 43 20) ∧ (u9 43 20) ≤ 80 := g2657.1 43 20
  have : (u9 43 20) = (w32 ((w 43 20) + (1 : Int))) := (congrFun (congrFun e2656 43) 20).trans (st_eq _ _ _ _)
  refine ok_call (hrec 3 (by decide) (by omega) (g_self g2657) (by omega) (by omega) (by omega) (by omega)) (fun r10 u11 q => ?_)
  obtain ⟨i2658, g2659, p2661, p2662⟩ := q
  have g2660 : G md_R_grp b u11 := g_tr g2657 g2659 rfl
  have : (0 : Int) ≤ (u11 43 20) ∧ (u11 43 20) ≤ 80 := g2660.1 43 20
  have : (0 : Int) ≤ (u11 43 19) ∧ (u11 43 19) ≤ 76 := g2660.1 43 19
  have : (u11 43 19) = (u9 43 19) := g2659.2.1 43 19 rfl
  refine ok_ite (fun h2663 => ?_) (fun h2664 => ?_)
  · refine ok_ite (fun h2665 => ?_) (fun h2666 => ?_)
    · have : (0 : Int) ≤ (u11 43 17) ∧ (u11 43 17) ≤ 58 := g2660.1 43 17
      have : (u11 43 17) = (u9 43 17) := g2659.2.1 43 17 rfl
      exact s_R_product_87 hrec hk6 g2660 (by omega) (by omega) (by omega) (by omega) (by omega) (by omega) (by omega) (by omega)
    · refine ok_ite (fun h2667 => ?_) (fun h2668 => ?_)
      · exfalso; omega
      · have := idiv_rg v2 r10
        have : (0 : Int) ≤ (u11 43 17) ∧ (u11 43 17) ≤ 58 := g2660.1 43 17
        have : (u11 43 17) = (u9 43 17) := g2659.2.1 43 17 rfl
        exact s_R_product_87 hrec hk6 g2660 (by omega) (by omega) (by omega) (by omega) (by omega) (by omega) (by omega) (by omega)
  · have := w32_sp ((v2 * r10))
    have : (0 : Int) ≤ (u11 43 17) ∧ (u11 43 17) ≤ 58 := g2660.1 43 17
    have : (u11 43 17) = (u9 43 17) := g2659.2.1 43 17 rfl
    exact s_R_product_87 hrec hk6 g2660 (by omega) (by omega) (by omega) (by omega) (by omega) (by omega) (by omega) (by omega)
theorem s_R_product_31 {b : Wd} {rec : Nat → Int → Wd → Option (Int × Wd)} {Brec : Int} {k6 : Int → Int → Wd → Option (Int × Wd)} {Bk6 : Int} (hrec : ∀ {w1 : Wd} {y : Int} (i : Nat), i ≤ 3 → 60 - w1 43 20 - 4 * y - (i : Int) < Brec → G md_R_grp w1 w1 → ((0 : Int) ≤ y ∧ y ≤ 4) → (((w1 43 17) = (52 : Int)) ∨ (((w1 43 17) = (58 : Int)) ∧ ((w1 43 19) ≤ (40 : Int)))) → ((w1 43 20) ≤ (w1 43 19)) → ((w1 43 19) ≤ (40 : Int)) → OK (rec i y w1) (fun r u => ((-2147483648 : Int) ≤ r ∧ r ≤ 2147483647) ∧ G md_R_grp w1 u ∧ ((w1 43 20) ≤ (u 43 20)) ∧ ((u 43 20) ≤ (u 43 19)))) (hk6 : ∀ {w1 : Wd} {v1 v2 : Int}, ((81 : Int) - (w1 43 20)) < Bk6 → G md_R_grp b w1 → ((0 : Int) ≤ v1 ∧ v1 ≤ 4) → ((-2147483648 : Int) ≤ v2 ∧ v2 ≤ 2147483647) → (((w1 43 17) = (52 : Int)) ∨ (((w1 43 17) = (58 : Int)) ∧ ((w1 43 19) ≤ (40 : Int)))) → ((w1 43 20) ≤ (w1 43 19)) → ((b 43 20) ≤ (w1 43 20)) → ((w1 43 19) ≤ (40 : Int)) → ((((60 : Int) - (b 43 20)) - ((4 : Int) * v1)) - (2 : Int)) ≤ Brec → OK (k6 v1 v2 w1) (fun r u => ((-2147483648 : Int) ≤ r ∧ r ≤ 2147483647) ∧ G md_R_grp b u ∧ ((b 43 20) ≤ (u 43 20)) ∧ ((u 43 20) ≤ (u 43 19)))) {w : Wd} {v1 v2 : Int} (hG : G md_R_grp b w) (i_v1 : ((0 : Int) ≤ v1 ∧ v1 ≤ 4)) (i_v2 : ((-2147483648 : Int) ≤ v2 ∧ v2 ≤ 2147483647)) (a_0 : (((w 43 17) = (52 : Int)) ∨ (((w 43 17) = (58 : Int)) ∧ ((w 43 19) ≤ (40 : Int))))) (a_1 : ((w 43 20) < (w 43 19))) (a_2 : ((b 43 20) ≤ (w 43 20))) (a_3 : ((w 43 19) ≤ (40 : Int))) (hBrec : ((((60 : Int) - (b 43 20)) - ((4 : Int) * v1)) - (2 : Int)) ≤ Brec) (hBk6 : ((81 : Int) - (w 43 20)) ≤ Bk6) : OK (f_R_product_31 rec k6 v1 v2 w) (fun r u => ((-2147483648 : Int) ≤ r ∧ r ≤ 2147483647) ∧ G md_R_grp b u ∧ ((b 43 20) ≤ (u 43 20)) ∧ ((u 43 20) ≤ (u 43 19))) := by
  unfold f_R_product_31
  have : (0 : Int) ≤ (w 43 17) ∧ (w 43 17) ≤ 58 := hG.1 43 17
  have : (w 43 17) = (b 43 17) := hG.2.1 43 17 rfl
  have : (0 : Int) ≤ (w 43 19) ∧ (w 43 19) ≤ 76 := hG.1 43 19
  have : (w 43 19) = (b 43 19) := hG.2.1 43 19 rfl
  have : (0 : Int) ≤ (w 43 20) ∧ (w 43 20) ≤ 80 := hG.1 43 20
  refine ok_call (s_R_here (g_self hG) (by omega)) (fun r7 u8 q => ?_)
  obtain ⟨i2669, g2670, p2672⟩ := q
  have g2671 : G md_R_grp b u8 := g_tr hG g2670 rfl
  have : (0 : Int) ≤ (w 43 18) ∧ (w 43 18) ≤ 80 := hG.1 43 18
  have : (w 43 18) = (b 43 18) := hG.2.1 43 18 rfl
  refine ok_ite (fun h2673 => ?_) (fun h2674 => ?_)
  · have : (0 : Int) ≤ (u8 43 17) ∧ (u8 43 17) ≤ 58 := g2671.1 43 17
    have : (u8 43 17) = (w 43 17) := g2670.2.1 43 17 rfl
    have : (0 : Int) ≤ (u8 43 19) ∧ (u8 43 19) ≤ 76 := g2671.1 43 19
    have : (u8 43 19) = (w 43 19) := g2670.2.1 43 19 rfl
    have : (0 : Int) ≤ (u8 43 20) ∧ (u8 43 20) ≤ 80 := g2671.1 43 20
    have : (u8 43 20) = (w 43 20) := g2670.2.1 43 20 rfl
    exact s_R_product_45 hrec hk6 g2671 (by omega) (by omega) (by omega) (by omega) (by omega) (by omega) (by omega) (by omega) (by omega)
  · have : (0 : Int) ≤ (u8 43 17) ∧ (u8 43 17) ≤ 58 := g2671.1 43 17
    have : (u8 43 17) = (w 43 17) := g2670.2.1 43 17 rfl
    have : (0 : Int) ≤ (u8 43 19) ∧ (u8 43 19) ≤ 76 := g2671.1 43 19
    have : (u8 43 19) = (w 43 19) := g2670.2.1 43 19 rfl
    have : (0 : Int) ≤ (u8 43 20) ∧ (u8 43 20) ≤ 80 := g2671.1 43 20
    have : (u8 43 20) = (w 43 20) := g2670.2.1 43 20 rfl
    exact s_R_product_45 hrec hk6 g2671 (by omega) (by omega) (by omega) (by omega) (by omega) (by omega) (by omega) (by omega) (by omega)
theorem s_R_product_6 {b : Wd} {rec : Nat → Int → Wd → Option (Int × Wd)} {Brec : Int} (hrec : ∀ {w1 : Wd} {y : Int} (i : Nat), i ≤ 3 → 60 - w1 43 20 - 4 * y - (i : Int) < Brec → G md_R_grp w1 w1 → ((0 : Int) ≤ y ∧ y ≤ 4) → (((w1 43 17) = (52 : Int)) ∨ (((w1 43 17) = (58 : Int)) ∧ ((w1 43 19) ≤ (40 : Int)))) → ((w1 43 20) ≤ (w1 43 19)) → ((w1 43 19) ≤ (40 : Int)) → OK (rec i y w1) (fun r u => ((-2147483648 : Int) ≤ r ∧ r ≤ 2147483647) ∧ G md_R_grp w1 u ∧ ((w1 43 20) ≤ (u 43 20)) ∧ ((u 43 20) ≤ (u 43 19)))) : ∀ (n : Nat) {w : Wd} {v1 v2 : Int}, ((81 : Int) - (w 43 20)) < (n : Int) → G md_R_grp b w → ((0 : Int) ≤ v1 ∧ v1 ≤ 4) → ((-2147483648 : Int) ≤ v2 ∧ v2 ≤ 2147483647) → (((w 43 17) = (52 : Int)) ∨ (((w 43 17) = (58 : Int)) ∧ ((w 43 19) ≤ (40 : Int)))) → ((w 43 20) ≤ (w 43 19)) → ((b 43 20) ≤ (w 43 20)) → ((w 43 19) ≤ (40 : Int)) → ((((60 : Int) - (b 43 20)) - ((4 : Int) * v1)) - (2 : Int)) ≤ Brec → OK (f_R_product_6 rec n v1 v2 w) (fun r u => ((-2147483648 : Int) ≤ r ∧ r ≤ 2147483647) ∧ G md_R_grp b u ∧ ((b 43 20) ≤ (u 43 20)) ∧ ((u 43 20) ≤ (u 43 19))) := by
  intro n
  induction n with
  | zero =>
    intro w v1 v2 hm hG i_v1 i_v2 a_0 a_1 a_2 a_3 hBrec
    exfalso
    have : (0 : Int) ≤ (w 43 20) ∧ (w 43 20) ≤ 80 := hG.1 43 20
    omega
  | succ n ih =>
    intro w v1 v2 hm hG i_v1 i_v2 a_0 a_1 a_2 a_3 hBrec
    rw [f_R_product_6]
    have : (0 : Int) ≤ (w 43 17) ∧ (w 43 17) ≤ 58 := hG.1 43 17
    have : (w 43 17) = (b 43 17) := hG.2.1 43 17 rfl
    have : (0 : Int) ≤ (w 43 19) ∧ (w 43 19) ≤ 76 := hG.1 43 19
    have : (w 43 19) = (b 43 19) := hG.2.1 43 19 rfl
    have : (0 : Int) ≤ (w 43 20) ∧ (w 43 20) ≤ 80 := hG.1 43 20
    have : (-1 : Int) ≤ (w 43 21) ∧ (w 43 21) ≤ 80 := hG.1 43 21
    refine ok_jite (fun h2676 => ?_) (fun h2677 => ?_)
    · refine ok_jsome ?_
      refine ok_if (by decide) ?_
      refine ok_call (s_R_here (g_self hG) (by omega)) (fun r5 u6 q => ?_)
      obtain ⟨i2678, g2679, p2681⟩ := q
      have g2680 : G md_R_grp b u6 := g_tr hG g2679 rfl
      have : (0 : Int) ≤ (w 43 18) ∧ (w 43 18) ≤ 80 := hG.1 43 18
      have : (w 43 18) = (b 43 18) := hG.2.1 43 18 rfl
      refine ok_ite (fun h2682 => ?_) (fun h2683 => ?_)
      · have : (0 : Int) ≤ (u6 43 17) ∧ (u6 43 17) ≤ 58 := g2680.1 43 17
        have : (u6 43 17) = (w 43 17) := g2679.2.1 43 17 rfl
        have : (0 : Int) ≤ (u6 43 19) ∧ (u6 43 19) ≤ 76 := g2680.1 43 19
        have : (u6 43 19) = (w 43 19) := g2679.2.1 43 19 rfl
        have : (0 : Int) ≤ (u6 43 20) ∧ (u6 43 20) ≤ 80 := g2680.1 43 20
        have : (u6 43 20) = (w 43 20) := g2679.2.1 43 20 rfl
        exact s_R_product_31 hrec ih g2680 (by omega) (by omega) (by omega) (by omega) (by omega) (by omega) (by omega) (by omega)
      · have : (0 : Int) ≤ (u6 43 17) ∧ (u6 43 17) ≤ 58 := g2680.1 43 17
        have : (u6 43 17) = (w 43 17) := g2679.2.1 43 17 rfl
        have : (0 : Int) ≤ (u6 43 19) ∧ (u6 43 19) ≤ 76 := g2680.1 43 19
        have : (u6 43 19) = (w 43 19) := g2679.2.1 43 19 rfl
        refine ok_call (s_R_here (g_self g2680) (by omega)) (fun r12 u13 q => ?_)
        obtain ⟨i2684, g2685, p2687⟩ := q
        have g2686 : G md_R_grp b u13 := g_tr g2680 g2685 rfl
        have : (0 : Int) ≤ (u6 43 20) ∧ (u6 43 20) ≤ 80 := g2680.1 43 20
        have : (u6 43 20) = (w 43 20) := g2679.2.1 43 20 rfl
        have : (0 : Int) ≤ (u6 43 18) ∧ (u6 43 18) ≤ 80 := g2680.1 43 18
        have : (u6 43 18) = (w 43 18) := g2679.2.1 43 18 rfl
        refine ok_ite (fun h2688 => ?_) (fun h2689 => ?_)
        · have : (0 : Int) ≤ (u13 43 17) ∧ (u13 43 17) ≤ 58 := g2686.1 43 17
          have : (u13 43 17) = (u6 43 17) := g2685.2.1 43 17 rfl
          have : (0 : Int) ≤ (u13 43 19) ∧ (u13 43 19) ≤ 76 := g2686.1 43 19
          have : (u13 43 19) = (u6 43 19) := g2685.2.1 43 19 rfl
          have : (0 : Int) ≤ (u13 43 20) ∧ (u13 43 20) ≤ 80 := g2686.1 43 20
          have : (u13 43 20) = (u6 43 20) := g2685.2.1 43 20 rfl
          exact s_R_product_31 hrec ih g2686 (by omega) (by omega) (by omega) (by omega) (by omega) (by omega) (by omega) (by omega)
        · have : (0 : Int) ≤ (u13 43 20) ∧ (u13 43 20) ≤ 80 := g2686.1 43 20
          have : (u13 43 20) = (u6 43 20) := g2685.2.1 43 20 rfl
          have : (0 : Int) ≤ (u13 43 19) ∧ (u13 43 19) ≤ 76 := g2686.1 43 19
          have : (u13 43 19) = (u6 43 19) := g2685.2.1 43 19 rfl
          exact ok_some ⟨by omega, g2686, (by omega), (by omega)⟩
    · refine ok_jsome ?_
      refine ok_it (by decide) ?_
      exact ok_some ⟨by omega, hG, (by omega), (by omega)⟩
theorem s_R_product_b {b : Wd} {rec : Nat → Int → Wd → Option (Int × Wd)} {Brec : Int} (hrec : ∀ {w1 : Wd} {y : Int} (i : Nat), i ≤ 3 → 60 - w1 43 20 - 4 * y - (i : Int) < Brec → G md_R_grp w1 w1 → ((0 : Int) ≤ y ∧ y ≤ 4) → (((w1 43 17) = (52 : Int)) ∨ (((w1 43 17) = (58 : Int)) ∧ ((w1 43 19) ≤ (40 : Int)))) → ((w1 43 20) ≤ (w1 43 19)) → ((w1 43 19) ≤ (40 : Int)) → OK (rec i y w1) (fun r u => ((-2147483648 : Int) ≤ r ∧ r ≤ 2147483647) ∧ G md_R_grp w1 u ∧ ((w1 43 20) ≤ (u 43 20)) ∧ ((u 43 20) ≤ (u 43 19)))) {w : Wd} {v1 : Int} (hG : G md_R_grp b w) (i_v1 : ((0 : Int) ≤ v1 ∧ v1 ≤ 4)) (a_0 : (((w 43 17) = (52 : Int)) ∨ (((w 43 17) = (58 : Int)) ∧ ((w 43 19) ≤ (40 : Int))))) (a_1 : ((w 43 20) ≤ (w 43 19))) (a_2 : ((w 43 20) = (b 43 20))) (a_3 : ((w 43 19) ≤ (40 : Int))) (hBrec : ((((60 : Int) - (b 43 20)) - ((4 : Int) * v1)) - (2 : Int)) ≤ Brec) : OK (f_R_product_b rec v1 w) (fun r u => ((-2147483648 : Int) ≤ r ∧ r ≤ 2147483647) ∧ G md_R_grp b u ∧ ((b 43 20) ≤ (u 43 20)) ∧ ((u 43 20) ≤ (u 43 19))) := by
  unfold f_R_product_b
  have : (0 : Int) ≤ (w 43 17) ∧ (w 43 17) ≤ 58 := hG.1 43 17
  have : (w 43 17) = (b 43 17) := hG.2.1 43 17 rfl
  have : (0 : Int) ≤ (w 43 19) ∧ (w 43 19) ≤ 76 := hG.1 43 19
  have : (w 43 19) = (b 43 19) := hG.2.1 43 19 rfl
  have : (0 : Int) ≤ (w 43 20) ∧ (w 43 20) ≤ 80 := hG.1 43 20
  refine ok_call (hrec 3 (by decide) (by omega) (g_self hG) (by omega) (by omega) (by omega) (by omega)) (fun r1 u2 q => ?_)
  obtain ⟨i2690, g2691, p2693, p2694⟩ := q
  have g2692 : G md_R_grp b u2 := g_tr hG g2691 rfl
  have : (0 : Int) ≤ (u2 43 20) ∧ (u2 43 20) ≤ 80 := g2692.1 43 20
  have : (0 : Int) ≤ (u2 43 19) ∧ (u2 43 19) ≤ 76 := g2692.1 43 19
  have : (u2 43 19) = (w 43 19) := g2691.2.1 43 19 rfl
  have : (0 : Int) ≤ (u2 43 17) ∧ (u2 43 17) ≤ 58 := g2692.1 43 17
  have : (u2 43 17) = (w 43 17) := g2691.2.1 43 17 rfl
  exact s_R_product_6 hrec FU (by have := eqFU; omega) g2692 (by omega) (by omega) (by omega) (by omega) (by omega) (by omega) (by omega)
theorem s_R_thing_203 {b : Wd} {rec : Nat → Int → Wd → Option (Int × Wd)} {Brec : Int} (hrec : ∀ {w1 : Wd} {y : Int} (i : Nat), i ≤ 3 → 60 - w1 43 20 - 4 * y - (i : Int) < Brec → G md_R_grp w1 w1 → ((0 : Int) ≤ y ∧ y ≤ 4) → (((w1 43 17) = (52 : Int)) ∨ (((w1 43 17) = (58 : Int)) ∧ ((w1 43 19) ≤ (40 : Int)))) → ((w1 43 20) ≤ (w1 43 19)) → ((w1 43 19) ≤ (40 : Int)) → OK (rec i y w1) (fun r u => ((-2147483648 : Int) ≤ r ∧ r ≤ 2147483647) ∧ G md_R_grp w1 u ∧ ((w1 43 20) ≤ (u 43 20)) ∧ ((u 43 20) ≤ (u 43 19)))) {w : Wd} {v2 : Int} (hG : G md_R_grp b w) (i_v2 : ((100 : Int) ≤ v2 ∧ v2 ≤ 127)) (a_0 : ((w 43 20) < (w 43 19))) (a_1 : ((b 43 20) ≤ (w 43 20))) (a_2 : ((w 43 19) ≤ (40 : Int))) (hBrec : ((41 : Int) - (b 43 20)) ≤ Brec) : OK (f_R_thing_203 rec v2 w) (fun r u => ((-2147483648 : Int) ≤ r ∧ r ≤ 2147483647) ∧ G md_R_grp b u ∧ ((b 43 20) ≤ (u 43 20)) ∧ ((u 43 20) ≤ (u 43 19))) := by
  unfold f_R_thing_203
  have : (0 : Int) ≤ (w 43 20) ∧ (w 43 20) ≤ 80 := hG.1 43 20
  have : (0 : Int) ≤ (w 43 19) ∧ (w 43 19) ≤ 76 := hG.1 43 19
  have : (w 43 19) = (b 43 19) := hG.2.1 43 19 rfl
  have := w32_sp (((w 43 20) + (1 : Int)))
  refine ok_lw (fun u9 e2695 => ?_)
  have g2696 : G md_R_grp b u9 := g_st hG e2695 rfl rfl (show (0 : Int) ≤ (w32 ((w 43 20) + (1 : Int))) ∧ (w32 ((w 43 20) + (1 : Int))) ≤ 80 by omega)
  have : (-1 : Int) ≤ (u9 43 28) ∧ (u9 43 28) ≤ 9 := g2696.1 43 28
  have : (u9 43 28) = (w 43 28) := (congrFun (congrFun e2695 43) 28).trans (st_k (by decide))
  have : (-1 : Int) ≤ (w 43 28) ∧ (w 43 28) ≤ 9 := hG.1 43 28
  have : (w 43 28) = (b 43 28) := hG.2.1 43 28 rfl
  refine ok_ite (fun h2697 => ?_) (fun h2698 => ?_)
  · have : (0 : Int) ≤ (u9 43 20) ∧ (u9 43 20) ≤ 80 := g2696.1 43 20
    have : (u9 43 20) = (w32 ((w 43 20) + (1 : Int))) := (congrFun (congrFun e2695 43) 20).trans (st_eq _ _ _ _)
    have : (0 : Int) ≤ (u9 43 19) ∧ (u9 43 19) ≤ 76 := g2696.1 43 19
    have : (u9 43 19) = (w 43 19) := (congrFun (congrFun e2695 43) 19).trans (st_k (by decide))
    exact ok_some ⟨by omega, g2696, (by omega), (by omega)⟩
  · refine ok_call (s_R_letter (g_self g2696) (by omega) (by omega)) (fun r10 u11 q => ?_)
    obtain ⟨i2699, g2700⟩ := q
    have g2701 : G md_R_grp b u11 := g_tr g2696 g2700 rfl
    have : (0 : Int) ≤ (u11 43 20) ∧ (u11 43 20) ≤ 80 := g2701.1 43 20
    have : (u11 43 20) = (u9 43 20) := g2700.2.1 43 20 rfl
    have : (0 : Int) ≤ (u9 43 20) ∧ (u9 43 20) ≤ 80 := g2696.1 43 20
    have : (u9 43 20) = (w32 ((w 43 20) + (1 : Int))) := (congrFun (congrFun e2695 43) 20).trans (st_eq _ _ _ _)
    have : (0 : Int) ≤ (u11 43 19) ∧ (u11 43 19) ≤ 76 := g2701.1 43 19
    have : (u11 43 19) = (u9 43 19) := g2700.2.1 43 19 rfl
    have : (0 : Int) ≤ (u9 43 19) ∧ (u9 43 19) ≤ 76 := g2696.1 43 19
    have : (u9 43 19) = (w 43 19) := (congrFun (congrFun e2695 43) 19).trans (st_k (by decide))
    exact ok_some ⟨by omega, g2701, (by omega), (by omega)⟩
theorem s_R_thing_94 {b : Wd} {rec : Nat → Int → Wd → Option (Int × Wd)} {Brec : Int} (hrec : ∀ {w1 : Wd} {y : Int} (i : Nat), i ≤ 3 → 60 - w1 43 20 - 4 * y - (i : Int) < Brec → G md_R_grp w1 w1 → ((0 : Int) ≤ y ∧ y ≤ 4) → (((w1 43 17) = (52 : Int)) ∨ (((w1 43 17) = (58 : Int)) ∧ ((w1 43 19) ≤ (40 : Int)))) → ((w1 43 20) ≤ (w1 43 19)) → ((w1 43 19) ≤ (40 : Int)) → OK (rec i y w1) (fun r u => ((-2147483648 : Int) ≤ r ∧ r ≤ 2147483647) ∧ G md_R_grp w1 u ∧ ((w1 43 20) ≤ (u 43 20)) ∧ ((u 43 20) ≤ (u 43 19)))) : ∀ (n : Nat) {w : Wd} {v3 v4 : Int}, ((4 : Int) - v4) < (n : Int) → G md_R_grp b w → ((-2147483648 : Int) ≤ v3 ∧ v3 ≤ 2147483647) → ((0 : Int) ≤ v4 ∧ v4 ≤ 3) → (((w 43 17) = (52 : Int)) ∨ (((w 43 17) = (58 : Int)) ∧ ((w 43 19) ≤ (40 : Int)))) → ((w 43 20) ≤ (w 43 19)) → ((b 43 20) ≤ (w 43 20)) → ((w 43 19) ≤ (40 : Int)) → ((41 : Int) - (b 43 20)) ≤ Brec → OK (f_R_thing_94 rec n v3 v4 w) (fun r u => ((-2147483648 : Int) ≤ r ∧ r ≤ 2147483647) ∧ G md_R_grp b u ∧ ((b 43 20) ≤ (u 43 20)) ∧ ((u 43 20) ≤ (u 43 19))) := by
  intro n
  induction n with
  | zero =>
    intro w v3 v4 hm hG i_v3 i_v4 a_0 a_1 a_2 a_3 hBrec
    exfalso
    omega
  | succ n ih =>
    intro w v3 v4 hm hG i_v3 i_v4 a_0 a_1 a_2 a_3 hBrec
    rw [f_R_thing_94]
    have : (0 : Int) ≤ (w 43 17) ∧ (w 43 17) ≤ 58 := hG.1 43 17
    have : (w 43 17) = (b 43 17) := hG.2.1 43 17 rfl
    have : (0 : Int) ≤ (w 43 19) ∧ (w 43 19) ≤ 76 := hG.1 43 19
    have : (w 43 19) = (b 43 19) := hG.2.1 43 19 rfl
    have : (0 : Int) ≤ (w 43 20) ∧ (w 43 20) ≤ 80 := hG.1 43 20
    refine ok_ite (fun h2702 => ?_) (fun h2703 => ?_)
    · exact ok_some ⟨by omega, hG, (by omega), (by omega)⟩
    · refine ok_call (s_R_here (g_self hG) (by omega)) (fun r14 u15 q => ?_)
      obtain ⟨i2704, g2705, p2707⟩ := q
      have g2706 : G md_R_grp b u15 := g_tr hG g2705 rfl
      have : (0 : Int) ≤ (w 43 18) ∧ (w 43 18) ≤ 80 := hG.1 43 18
      have : (w 43 18) = (b 43 18) := hG.2.1 43 18 rfl
      refine ok_jite (fun h2709 => ?_) (fun h2710 => ?_)
      · refine ok_jsome ?_
        refine ok_it (by decide) ?_
        have : (0 : Int) ≤ (u15 43 20) ∧ (u15 43 20) ≤ 80 := g2706.1 43 20
        have : (u15 43 20) = (w 43 20) := g2705.2.1 43 20 rfl
        have : (0 : Int) ≤ (u15 43 19) ∧ (u15 43 19) ≤ 76 := g2706.1 43 19
        have : (u15 43 19) = (w 43 19) := g2705.2.1 43 19 rfl
        exact ok_some ⟨by omega, g2706, (by omega), (by omega)⟩
      · refine ok_jite (fun h2711 => ?_) (fun h2712 => ?_)
        · refine ok_jsome ?_
          refine ok_it (by decide) ?_
          have : (0 : Int) ≤ (u15 43 20) ∧ (u15 43 20) ≤ 80 := g2706.1 43 20
          have : (u15 43 20) = (w 43 20) := g2705.2.1 43 20 rfl
          have : (0 : Int) ≤ (u15 43 19) ∧ (u15 43 19) ≤ 76 := g2706.1 43 19
          have : (u15 43 19) = (w 43 19) := g2705.2.1 43 19 rfl
          exact ok_some ⟨by omega, g2706, (by omega), (by omega)⟩
        · refine ok_jsome ?_
          refine ok_if (by decide) ?_
          have : (0 : Int) ≤ (u15 43 17) ∧ (u15 43 17) ≤ 58 := g2706.1 43 17
          have : (u15 43 17) = (w 43 17) := g2705.2.1 43 17 rfl
          have : (0 : Int) ≤ (u15 43 19) ∧ (u15 43 19) ≤ 76 := g2706.1 43 19
          have : (u15 43 19) = (w 43 19) := g2705.2.1 43 19 rfl
          refine ok_call (s_R_here (g_self g2706) (by omega)) (fun r18 u19 q => ?_)
          obtain ⟨i2713, g2714, p2716⟩ := q
          have g2715 : G md_R_grp b u19 := g_tr g2706 g2714 rfl
          have : (0 : Int) ≤ (u15 43 20) ∧ (u15 43 20) ≤ 80 := g2706.1 43 20
          have : (u15 43 20) = (w 43 20) := g2705.2.1 43 20 rfl
          have : (0 : Int) ≤ (u15 43 18) ∧ (u15 43 18) ≤ 80 := g2706.1 43 18
          have : (u15 43 18) = (w 43 18) := g2705.2.1 43 18 rfl
          have := w32_sp (((10 : Int) * v3))
          have := w32_sp (((w32 ((10 : Int) * v3)) + r18))
          have := w32_sp (((w32 ((w32 ((10 : Int) * v3)) + r18)) - (48 : Int)))
          refine ok_let (fun x20 e2717 => ?_)
          have : (-2147483648 : Int) ≤ x20 ∧ x20 ≤ 2147483647 := by omega
          have : (0 : Int) ≤ (u19 43 20) ∧ (u19 43 20) ≤ 80 := g2715.1 43 20
          have : (u19 43 20) = (u15 43 20) := g2714.2.1 43 20 rfl
          have := w32_sp (((u19 43 20) + (1 : Int)))
          refine ok_lw (fun u21 e2718 => ?_)
          have g2719 : G md_R_grp b u21 := g_st g2715 e2718 rfl rfl (show (0 : Int) ≤ (w32 ((u19 43 20) + (1 : Int))) ∧ (w32 ((u19 43 20) + (1 : Int))) ≤ 80 by omega)
          have := w32_sp ((v4 + (1 : Int)))
          refine ok_let (fun x22 e2720 => ?_)
          have : (1 : Int) ≤ x22 ∧ x22 ≤ 3 := by omega
          have : (0 : Int) ≤ (u21 43 17) ∧ (u21 43 17) ≤ 58 := g2719.1 43 17
          have : (u21 43 17) = (u19 43 17) := (congrFun (congrFun e2718 43) 17).trans (st_k (by decide))
          have : (0 : Int) ≤ (u19 43 17) ∧ (u19 43 17) ≤ 58 := g2715.1 43 17
          have : (u19 43 17) = (u15 43 17) := g2714.2.1 43 17 rfl
          have : (0 : Int) ≤ (u21 43 19) ∧ (u21 43 19) ≤ 76 := g2719.1 43 19
          have : (u21 43 19) = (u19 43 19) := (congrFun (congrFun e2718 43) 19).trans (st_k (by decide))
          have : (0 : Int) ≤ (u19 43 19) ∧ (u19 43 19) ≤ 76 := g2715.1 43 19
          have : (u19 43 19) = (u15 43 19) := g2714.2.1 43 19 rfl
          have : (0 : Int) ≤ (u21 43 20) ∧ (u21 43 20) ≤ 80 := g2719.1 43 20
          have : (u21 43 20) = (w32 ((u19 43 20) + (1 : Int))) := (congrFun (congrFun e2718 43) 20).trans (st_eq _ _ _ _)
          exact ih (by omega) g2719 (by omega) (by omega) (by omega) (by omega) (by omega) (by omega) (by omega)
theorem s_R_thing_78 {b : Wd} {rec : Nat → Int → Wd → Option (Int × Wd)} {Brec : Int} (hrec : ∀ {w1 : Wd} {y : Int} (i : Nat), i ≤ 3 → 60 - w1 43 20 - 4 * y - (i : Int) < Brec → G md_R_grp w1 w1 → ((0 : Int) ≤ y ∧ y ≤ 4) → (((w1 43 17) = (52 : Int)) ∨ (((w1 43 17) = (58 : Int)) ∧ ((w1 43 19) ≤ (40 : Int)))) → ((w1 43 20) ≤ (w1 43 19)) → ((w1 43 19) ≤ (40 : Int)) → OK (rec i y w1) (fun r u => ((-2147483648 : Int) ≤ r ∧ r ≤ 2147483647) ∧ G md_R_grp w1 u ∧ ((w1 43 20) ≤ (u 43 20)) ∧ ((u 43 20) ≤ (u 43 19)))) {w : Wd} {v2 : Int} (hG : G md_R_grp b w) (i_v2 : ((-128 : Int) ≤ v2 ∧ v2 ≤ 127)) (a_0 : (((w 43 17) = (52 : Int)) ∨ (((w 43 17) = (58 : Int)) ∧ ((w 43 19) ≤ (40 : Int))))) (a_1 : ((w 43 20) ≤ (w 43 19))) (a_2 : ((b 43 20) ≤ (w 43 20))) (a_3 : ((v2 = (-1 : Int)) ∨ ((w 43 20) < (w 43 19)))) (a_4 : ((w 43 19) ≤ (40 : Int))) (hBrec : ((41 : Int) - (b 43 20)) ≤ Brec) : OK (f_R_thing_78 rec v2 w) (fun r u => ((-2147483648 : Int) ≤ r ∧ r ≤ 2147483647) ∧ G md_R_grp b u ∧ ((b 43 20) ≤ (u 43 20)) ∧ ((u 43 20) ≤ (u 43 19))) := by
  unfold f_R_thing_78
  have : (0 : Int) ≤ (w 43 17) ∧ (w 43 17) ≤ 58 := hG.1 43 17
  have : (w 43 17) = (b 43 17) := hG.2.1 43 17 rfl
  have : (0 : Int) ≤ (w 43 19) ∧ (w 43 19) ≤ 76 := hG.1 43 19
  have : (w 43 19) = (b 43 19) := hG.2.1 43 19 rfl
  have : (0 : Int) ≤ (w 43 20) ∧ (w 43 20) ≤ 80 := hG.1 43 20
  refine ok_jite (fun h2722 => ?_) (fun h2723 => ?_)
  · refine ok_jsome ?_
    refine ok_it (by decide) ?_
    refine ok_if (by omega) ?_
    refine ok_if (by omega) ?_
    refine ok_if (by omega) ?_
    refine ok_if (by omega) ?_
    refine ok_if (by omega) ?_
    refine ok_if (by omega) ?_
    refine ok_if (by omega) ?_
    refine ok_if (by omega) ?_
    refine ok_call (s_R_fault (g_self hG) (by omega) (by omega)) (fun r12 u13 q => ?_)
    obtain ⟨i2724, g2725, p2727⟩ := q
    have g2726 : G md_R_grp b u13 := g_tr hG g2725 rfl
    have : (-1 : Int) ≤ (u13 43 21) ∧ (u13 43 21) ≤ 80 := g2726.1 43 21
    have : (0 : Int) ≤ (u13 43 20) ∧ (u13 43 20) ≤ 80 := g2726.1 43 20
    have : (u13 43 20) = (w 43 20) := g2725.2.1 43 20 rfl
    have : (0 : Int) ≤ (u13 43 19) ∧ (u13 43 19) ≤ 76 := g2726.1 43 19
    have : (u13 43 19) = (w 43 19) := g2725.2.1 43 19 rfl
    exact ok_some ⟨by omega, g2726, (by omega), (by omega)⟩
  · refine ok_jite (fun h2728 => ?_) (fun h2729 => ?_)
    · refine ok_jsome ?_
      refine ok_it (by decide) ?_
      refine ok_ite (fun h2730 => ?_) (fun h2731 => ?_)
      · exact s_R_thing_203 hrec hG (by omega) (by omega) (by omega) (by omega) (by omega)
      · refine ok_ite (fun h2732 => ?_) (fun h2733 => ?_)
        · exact s_R_thing_203 hrec hG (by omega) (by omega) (by omega) (by omega) (by omega)
        · refine ok_ite (fun h2734 => ?_) (fun h2735 => ?_)
          · exact s_R_thing_203 hrec hG (by omega) (by omega) (by omega) (by omega) (by omega)
          · refine ok_ite (fun h2736 => ?_) (fun h2737 => ?_)
            · exact s_R_thing_203 hrec hG (by omega) (by omega) (by omega) (by omega) (by omega)
            · refine ok_ite (fun h2738 => ?_) (fun h2739 => ?_)
              · exact s_R_thing_203 hrec hG (by omega) (by omega) (by omega) (by omega) (by omega)
              · refine ok_ite (fun h2740 => ?_) (fun h2741 => ?_)
                · exact s_R_thing_203 hrec hG (by omega) (by omega) (by omega) (by omega) (by omega)
                · refine ok_ite (fun h2742 => ?_) (fun h2743 => ?_)
                  · exact s_R_thing_203 hrec hG (by omega) (by omega) (by omega) (by omega) (by omega)
                  · refine ok_ite (fun h2744 => ?_) (fun h2745 => ?_)
                    · exact s_R_thing_203 hrec hG (by omega) (by omega) (by omega) (by omega) (by omega)
                    · refine ok_call (s_R_fault (g_self hG) (by omega) (by omega)) (fun r12 u13 q => ?_)
                      obtain ⟨i2746, g2747, p2749⟩ := q
                      have g2748 : G md_R_grp b u13 := g_tr hG g2747 rfl
                      have : (-1 : Int) ≤ (u13 43 21) ∧ (u13 43 21) ≤ 80 := g2748.1 43 21
                      have : (0 : Int) ≤ (u13 43 20) ∧ (u13 43 20) ≤ 80 := g2748.1 43 20
                      have : (u13 43 20) = (w 43 20) := g2747.2.1 43 20 rfl
                      have : (0 : Int) ≤ (u13 43 19) ∧ (u13 43 19) ≤ 76 := g2748.1 43 19
                      have : (u13 43 19) = (w 43 19) := g2747.2.1 43 19 rfl
                      exact ok_some ⟨by omega, g2748, (by omega), (by omega)⟩
    · refine ok_jsome ?_
      refine ok_if (by decide) ?_
      exact s_R_thing_94 hrec FU (by have := eqFU; omega) hG (by omega) (by omega) (by omega) (by omega) (by omega) (by omega) (by omega)
theorem s_R_thing_b {b : Wd} {rec : Nat → Int → Wd → Option (Int × Wd)} {Brec : Int} (hrec : ∀ {w1 : Wd} {y : Int} (i : Nat), i ≤ 3 → 60 - w1 43 20 - 4 * y - (i : Int) < Brec → G md_R_grp w1 w1 → ((0 : Int) ≤ y ∧ y ≤ 4) → (((w1 43 17) = (52 : Int)) ∨ (((w1 43 17) = (58 : Int)) ∧ ((w1 43 19) ≤ (40 : Int)))) → ((w1 43 20) ≤ (w1 43 19)) → ((w1 43 19) ≤ (40 : Int)) → OK (rec i y w1) (fun r u => ((-2147483648 : Int) ≤ r ∧ r ≤ 2147483647) ∧ G md_R_grp w1 u ∧ ((w1 43 20) ≤ (u 43 20)) ∧ ((u 43 20) ≤ (u 43 19)))) {w : Wd} {v1 : Int} (hG : G md_R_grp b w) (i_v1 : ((0 : Int) ≤ v1 ∧ v1 ≤ 4)) (a_0 : (((w 43 17) = (52 : Int)) ∨ (((w 43 17) = (58 : Int)) ∧ ((w 43 19) ≤ (40 : Int))))) (a_1 : ((w 43 20) ≤ (w 43 19))) (a_2 : ((w 43 20) = (b 43 20))) (a_3 : ((w 43 19) ≤ (40 : Int))) (hBrec : ((((60 : Int) - (b 43 20)) - ((4 : Int) * v1)) - (3 : Int)) ≤ Brec) : OK (f_R_thing_b rec v1 w) (fun r u => ((-2147483648 : Int) ≤ r ∧ r ≤ 2147483647) ∧ G md_R_grp b u ∧ ((b 43 20) ≤ (u 43 20)) ∧ ((u 43 20) ≤ (u 43 19))) := by
  unfold f_R_thing_b
  have : (0 : Int) ≤ (w 43 17) ∧ (w 43 17) ≤ 58 := hG.1 43 17
  have : (w 43 17) = (b 43 17) := hG.2.1 43 17 rfl
  have : (0 : Int) ≤ (w 43 19) ∧ (w 43 19) ≤ 76 := hG.1 43 19
  have : (w 43 19) = (b 43 19) := hG.2.1 43 19 rfl
  have : (0 : Int) ≤ (w 43 20) ∧ (w 43 20) ≤ 80 := hG.1 43 20
  refine ok_call (s_R_passes (g_self hG) (by omega) (by omega) (by omega)) (fun r1 u2 q => ?_)
  obtain ⟨i2750, g2751, p2753⟩ := q
  have g2752 : G md_R_grp b u2 := g_tr hG g2751 rfl
  have : (0 : Int) ≤ (u2 43 20) ∧ (u2 43 20) ≤ 80 := g2752.1 43 20
  have : (-1 : Int) ≤ (w 43 21) ∧ (w 43 21) ≤ 80 := hG.1 43 21
  have : (0 : Int) ≤ (w 43 18) ∧ (w 43 18) ≤ 80 := hG.1 43 18
  have : (w 43 18) = (b 43 18) := hG.2.1 43 18 rfl
  refine ok_ite (fun h2754 => ?_) (fun h2755 => ?_)
  · have : (-1 : Int) ≤ (u2 43 21) ∧ (u2 43 21) ≤ 80 := g2752.1 43 21
    have : (u2 43 21) = (w 43 21) := g2751.2.1 43 21 rfl
    refine ok_jite (fun h2757 => ?_) (fun h2758 => ?_)
    · refine ok_jsome ?_
      refine ok_if (by decide) ?_
      have : (0 : Int) ≤ (u2 43 17) ∧ (u2 43 17) ≤ 58 := g2752.1 43 17
      have : (u2 43 17) = (w 43 17) := g2751.2.1 43 17 rfl
      have : (0 : Int) ≤ (u2 43 19) ∧ (u2 43 19) ≤ 76 := g2752.1 43 19
      have : (u2 43 19) = (w 43 19) := g2751.2.1 43 19 rfl
      refine ok_call (s_R_here (g_self g2752) (by omega)) (fun r5 u6 q => ?_)
      obtain ⟨i2759, g2760, p2762⟩ := q
      have g2761 : G md_R_grp b u6 := g_tr g2752 g2760 rfl
      have : (0 : Int) ≤ (u2 43 18) ∧ (u2 43 18) ≤ 80 := g2752.1 43 18
      have : (u2 43 18) = (w 43 18) := g2751.2.1 43 18 rfl
      refine ok_ite (fun h2763 => ?_) (fun h2764 => ?_)
      · refine ok_ite (fun h2765 => ?_) (fun h2766 => ?_)
        · have : (0 : Int) ≤ (u6 43 17) ∧ (u6 43 17) ≤ 58 := g2761.1 43 17
          have : (u6 43 17) = (u2 43 17) := g2760.2.1 43 17 rfl
          have : (0 : Int) ≤ (u6 43 19) ∧ (u6 43 19) ≤ 76 := g2761.1 43 19
          have : (u6 43 19) = (u2 43 19) := g2760.2.1 43 19 rfl
          have : (0 : Int) ≤ (u6 43 20) ∧ (u6 43 20) ≤ 80 := g2761.1 43 20
          have : (u6 43 20) = (u2 43 20) := g2760.2.1 43 20 rfl
          exact s_R_thing_78 hrec g2761 (by omega) (by omega) (by omega) (by omega) (by omega) (by omega) (by omega)
        · have : (0 : Int) ≤ (u6 43 20) ∧ (u6 43 20) ≤ 80 := g2761.1 43 20
          have : (u6 43 20) = (u2 43 20) := g2760.2.1 43 20 rfl
          have := w32_sp (((u6 43 20) + (1 : Int)))
          refine ok_lw (fun u23 e2767 => ?_)
          have g2768 : G md_R_grp b u23 := g_st g2761 e2767 rfl rfl (show (0 : Int) ≤ (w32 ((u6 43 20) + (1 : Int))) ∧ (w32 ((u6 43 20) + (1 : Int))) ≤ 80 by omega)
          have := w32_sp ((v1 + (1 : Int)))
          have : (0 : Int) ≤ (u23 43 17) ∧ (u23 43 17) ≤ 58 := g2768.1 43 17
          have : (u23 43 17) = (u6 43 17) := (congrFun (congrFun e2767 43) 17).trans (st_k (by decide))
          have : (0 : Int) ≤ (u6 43 17) ∧ (u6 43 17) ≤ 58 := g2761.1 43 17
          have : (u6 43 17) = (u2 43 17) := g2760.2.1 43 17 rfl
          have : (0 : Int) ≤ (u23 43 19) ∧ (u23 43 19) ≤ 76 := g2768.1 43 19
          have : (u23 43 19) = (u6 43 19) := (congrFun (congrFun e2767 43) 19).trans (st_k (by decide))
          have : (0 : Int) ≤ (u6 43 19) ∧ (u6 43 19) ≤ 76 := g2761.1 43 19
          have : (u6 43 19) = (u2 43 19) := g2760.2.1 43 19 rfl
          have : (0 : Int) ≤ (u23 43 20) ∧ (u23 43 20) ≤ 80 := g2768.1 43 20
          have : (u23 43 20) = (w32 ((u6 43 20) + (1 : Int))) := (congrFun (congrFun e2767 43) 20).trans (st_eq _ _ _ _)
          refine ok_call (hrec 0 (by decide) (by omega) (g_self g2768) (by omega) (by omega) (by omega) (by omega)) (fun r24 u25 q => ?_)
          obtain ⟨i2769, g2770, p2772, p2773⟩ := q
          have g2771 : G md_R_grp b u25 := g_tr g2768 g2770 rfl
          have : (0 : Int) ≤ (u25 43 20) ∧ (u25 43 20) ≤ 80 := g2771.1 43 20
          have : (0 : Int) ≤ (u25 43 19) ∧ (u25 43 19) ≤ 76 := g2771.1 43 19
          have : (u25 43 19) = (u23 43 19) := g2770.2.1 43 19 rfl
          have : (0 : Int) ≤ (u25 43 17) ∧ (u25 43 17) ≤ 58 := g2771.1 43 17
          have : (u25 43 17) = (u23 43 17) := g2770.2.1 43 17 rfl
          refine ok_call (s_R_passes (g_self g2771) (by omega) (by omega) (by omega)) (fun r26 u27 q => ?_)
          obtain ⟨i2774, g2775, p2777⟩ := q
          have g2776 : G md_R_grp b u27 := g_tr g2771 g2775 rfl
          have : (0 : Int) ≤ (u27 43 20) ∧ (u27 43 20) ≤ 80 := g2776.1 43 20
          have : (-1 : Int) ≤ (u25 43 21) ∧ (u25 43 21) ≤ 80 := g2771.1 43 21
          have : (0 : Int) ≤ (u25 43 18) ∧ (u25 43 18) ≤ 80 := g2771.1 43 18
          have : (u25 43 18) = (u23 43 18) := g2770.2.1 43 18 rfl
          have : (0 : Int) ≤ (u23 43 18) ∧ (u23 43 18) ≤ 80 := g2768.1 43 18
          have : (u23 43 18) = (u6 43 18) := (congrFun (congrFun e2767 43) 18).trans (st_k (by decide))
          have : (0 : Int) ≤ (u6 43 18) ∧ (u6 43 18) ≤ 80 := g2761.1 43 18
          have : (u6 43 18) = (u2 43 18) := g2760.2.1 43 18 rfl
          refine ok_ite (fun h2778 => ?_) (fun h2779 => ?_)
          · refine ok_call (s_R_fault (g_self g2776) (by omega) (by omega)) (fun r28 u29 q => ?_)
            obtain ⟨i2780, g2781, p2783⟩ := q
            have g2782 : G md_R_grp b u29 := g_tr g2776 g2781 rfl
            have : (-1 : Int) ≤ (u29 43 21) ∧ (u29 43 21) ≤ 80 := g2782.1 43 21
            have : (0 : Int) ≤ (u29 43 20) ∧ (u29 43 20) ≤ 80 := g2782.1 43 20
            have : (u29 43 20) = (u27 43 20) := g2781.2.1 43 20 rfl
            have : (0 : Int) ≤ (u29 43 19) ∧ (u29 43 19) ≤ 76 := g2782.1 43 19
            have : (u29 43 19) = (u27 43 19) := g2781.2.1 43 19 rfl
            have : (0 : Int) ≤ (u27 43 19) ∧ (u27 43 19) ≤ 76 := g2776.1 43 19
            have : (u27 43 19) = (u25 43 19) := g2775.2.1 43 19 rfl
            exact ok_some ⟨by omega, g2782, (by omega), (by omega)⟩
          · have : (0 : Int) ≤ (u27 43 19) ∧ (u27 43 19) ≤ 76 := g2776.1 43 19
            have : (u27 43 19) = (u25 43 19) := g2775.2.1 43 19 rfl
            exact ok_some ⟨by omega, g2776, (by omega), (by omega)⟩
      · have : (0 : Int) ≤ (u6 43 17) ∧ (u6 43 17) ≤ 58 := g2761.1 43 17
        have : (u6 43 17) = (u2 43 17) := g2760.2.1 43 17 rfl
        have : (0 : Int) ≤ (u6 43 19) ∧ (u6 43 19) ≤ 76 := g2761.1 43 19
        have : (u6 43 19) = (u2 43 19) := g2760.2.1 43 19 rfl
        have : (0 : Int) ≤ (u6 43 20) ∧ (u6 43 20) ≤ 80 := g2761.1 43 20
        have : (u6 43 20) = (u2 43 20) := g2760.2.1 43 20 rfl
        exact s_R_thing_78 hrec g2761 (by omega) (by omega) (by omega) (by omega) (by omega) (by omega) (by omega)
    · refine ok_jsome ?_
      refine ok_it (by decide) ?_
      have : (0 : Int) ≤ (u2 43 19) ∧ (u2 43 19) ≤ 76 := g2752.1 43 19
      have : (u2 43 19) = (w 43 19) := g2751.2.1 43 19 rfl
      exact ok_some ⟨by omega, g2752, (by omega), (by omega)⟩
  · have : (0 : Int) ≤ (u2 43 17) ∧ (u2 43 17) ≤ 58 := g2752.1 43 17
    have : (u2 43 17) = (w 43 17) := g2751.2.1 43 17 rfl
    have : (0 : Int) ≤ (u2 43 19) ∧ (u2 43 19) ≤ 76 := g2752.1 43 19
    have : (u2 43 19) = (w 43 19) := g2751.2.1 43 19 rfl
    refine ok_call (hrec 3 (by decide) (by omega) (g_self g2752) (by omega) (by omega) (by omega) (by omega)) (fun r30 u31 q => ?_)
    obtain ⟨i2784, g2785, p2787, p2788⟩ := q
    have g2786 : G md_R_grp b u31 := g_tr g2752 g2785 rfl
    have : (0 : Int) ≤ (u31 43 20) ∧ (u31 43 20) ≤ 80 := g2786.1 43 20
    have : (0 : Int) ≤ (u31 43 19) ∧ (u31 43 19) ≤ 76 := g2786.1 43 19
    have : (u31 43 19) = (u2 43 19) := g2785.2.1 43 19 rfl
    have := w32_sp ((-r30))
    exact ok_some ⟨by omega, g2786, (by omega), (by omega)⟩
theorem s_R_grp : ∀ (d : Nat) {w : Wd} {y : Int} (i : Nat), i ≤ 3 → 60 - w 43 20 - 4 * y - (i : Int) < (d : Int) → G md_R_grp w w → ((0 : Int) ≤ y ∧ y ≤ 4) → (((w 43 17) = (52 : Int)) ∨ (((w 43 17) = (58 : Int)) ∧ ((w 43 19) ≤ (40 : Int)))) → ((w 43 20) ≤ (w 43 19)) → ((w 43 19) ≤ (40 : Int)) → OK (f_R_grp d i y w) (fun r u => ((-2147483648 : Int) ≤ r ∧ r ≤ 2147483647) ∧ G md_R_grp w u ∧ ((w 43 20) ≤ (u 43 20)) ∧ ((u 43 20) ≤ (u 43 19))) := by
  intro d
  induction d with
  | zero =>
    intro w y i hi hm hG hy h1 h2 h3
    exfalso
    have h := hG.1 43 20
    have h5 : (0 : Int) ≤ (w 43 20) ∧ (w 43 20) ≤ 80 := h
    have h4 : (0 : Int) ≤ (w 43 19) ∧ (w 43 19) ≤ 76 := hG.1 43 19
    omega
  | succ d ih =>
    intro w y i hi hm hG hy h1 h2 h3
    match i, hi with
    | 0, _ => exact s_R_held_b ih hG hy h1 h2 rfl h3 (by omega)
    | 1, _ => exact s_R_sum_b ih hG hy h1 h2 rfl h3 (by omega)
    | 2, _ => exact s_R_product_b ih hG hy h1 h2 rfl h3 (by omega)
    | 3, _ => exact s_R_thing_b ih hG hy h1 h2 rfl h3 (by omega)
    | k + 4, h => exfalso; omega
theorem s_R_rule_73 {b : Wd} : ∀ (n : Nat) {w : Wd} {v1 v2 : Int}, ((41 : Int) - v2) < (n : Int) → G md_R_rule b w → ((0 : Int) ≤ v1 ∧ v1 ≤ 80) → ((0 : Int) ≤ v2 ∧ v2 ≤ 40) → (v1 ≤ (40 : Int)) → ((w 43 13) = (0 : Int)) → OK (f_R_rule_73 n v1 v2 w) (fun r u => ((-81 : Int) ≤ r ∧ r ≤ 0) ∧ G md_R_rule b u ∧ ((u 43 13) = (0 : Int))) := by
  intro n
  induction n with
  | zero =>
    intro w v1 v2 hm hG i_v1 i_v2 a_0 a_1
    exfalso
    omega
  | succ n ih =>
    intro w v1 v2 hm hG i_v1 i_v2 a_0 a_1
    rw [f_R_rule_73]
    have : (0 : Int) ≤ (w 43 13) ∧ (w 43 13) ≤ 80 := hG.1 43 13
    refine ok_ite (fun h2789 => ?_) (fun h2790 => ?_)
    · refine ok_lw (fun u7 e2791 => ?_)
      have g2792 : G md_R_rule b u7 := g_st hG e2791 rfl rfl (show (0 : Int) ≤ v1 ∧ v1 ≤ 40 by omega)
      have : (0 : Int) ≤ (u7 43 13) ∧ (u7 43 13) ≤ 80 := g2792.1 43 13
      have : (u7 43 13) = (w 43 13) := (congrFun (congrFun e2791 43) 13).trans (st_k (by decide))
      exact ok_some ⟨by omega, g2792, (by omega)⟩
    · refine ok_gd (by omega) ?_
      refine ok_gd (by omega) ?_
      have : (-128 : Int) ≤ (w 51 (v2).toNat) ∧ (w 51 (v2).toNat) ≤ 127 := hG.1 51 (v2).toNat
      have := nb_rg (w 51 (v2).toNat)
      refine ok_lw (fun u8 e2793 => ?_)
      have g2794 : G md_R_rule b u8 := g_st hG e2793 rfl rfl (show (-128 : Int) ≤ (nb (w 51 (v2).toNat)) ∧ (nb (w 51 (v2).toNat)) ≤ 127 by omega)
      have := w32_sp ((v2 + (1 : Int)))
      refine ok_let (fun x9 e2795 => ?_)
      have : (1 : Int) ≤ x9 ∧ x9 ≤ 40 := by omega
      have : (0 : Int) ≤ (u8 43 13) ∧ (u8 43 13) ≤ 80 := g2794.1 43 13
      have : (u8 43 13) = (w 43 13) := (congrFun (congrFun e2793 43) 13).trans (st_c (by decide))
      exact ih (by omega) g2794 (by omega) (by omega) (by omega) (by omega)
theorem s_R_rule_71 {b : Wd} {w : Wd} {v1 : Int} (hG : G md_R_rule b w) (i_v1 : ((0 : Int) ≤ v1 ∧ v1 ≤ 80)) (a_0 : (v1 ≤ (40 : Int))) (a_1 : ((w 43 13) = (0 : Int))) : OK (f_R_rule_71 v1 w) (fun r u => ((-81 : Int) ≤ r ∧ r ≤ 0) ∧ G md_R_rule b u ∧ ((u 43 13) = (0 : Int))) := by
  unfold f_R_rule_71
  have : (0 : Int) ≤ (w 43 13) ∧ (w 43 13) ≤ 80 := hG.1 43 13
  exact s_R_rule_73 FU (by have := eqFU; omega) hG (by omega) (by omega) (by omega) (by omega)
theorem s_R_rule_57 {b : Wd} {w : Wd} {v1 : Int} (hG : G md_R_rule b w) (i_v1 : ((1 : Int) ≤ v1 ∧ v1 ≤ 80)) (a_0 : ((v1 ≤ (40 : Int)) ∨ (¬ ((w 43 21) = (-1 : Int))))) (a_1 : ((w 43 13) = (0 : Int))) : OK (f_R_rule_57 v1 w) (fun r u => ((-81 : Int) ≤ r ∧ r ≤ 0) ∧ G md_R_rule b u ∧ ((u 43 13) = (0 : Int))) := by
  unfold f_R_rule_57
  have : (-1 : Int) ≤ (w 43 21) ∧ (w 43 21) ≤ 80 := hG.1 43 21
  have : (0 : Int) ≤ (w 43 13) ∧ (w 43 13) ≤ 80 := hG.1 43 13
  refine ok_jite (fun h2797 => ?_) (fun h2798 => ?_)
  · refine ok_jsome ?_
    refine ok_if (by decide) ?_
    exact s_R_rule_71 hG (by omega) (by omega) (by omega)
  · refine ok_jsome ?_
    refine ok_it (by decide) ?_
    have := w32_sp (((-1 : Int) - (w 43 21)))
    exact ok_some ⟨by omega, hG, (by omega)⟩
theorem s_R_rule {w : Wd} (hG : G md_R_rule w w) : OK (f_R_rule w) (fun r u => ((-81 : Int) ≤ r ∧ r ≤ 0) ∧ G md_R_rule w u ∧ ((u 43 13) = (0 : Int))) := by
  unfold f_R_rule
  refine ok_lw (fun u1 e2799 => ?_)
  have g2800 : G md_R_rule w u1 := g_st hG e2799 rfl rfl (show (0 : Int) ≤ (0 : Int) ∧ (0 : Int) ≤ 1 by omega)
  have : (0 : Int) ≤ (u1 43 13) ∧ (u1 43 13) ≤ 80 := g2800.1 43 13
  have : (u1 43 13) = (w 43 13) := (congrFun (congrFun e2799 43) 13).trans (st_k (by decide))
  have : (0 : Int) ≤ (w 43 13) ∧ (w 43 13) ≤ 80 := hG.1 43 13
  refine ok_let (fun x2 e2801 => ?_)
  have : (0 : Int) ≤ x2 ∧ x2 ≤ 80 := by omega
  refine ok_call (s_R_begin1_43_51 (g_self g2800) (by omega) (by omega)) (fun r3 u4 q => ?_)
  obtain ⟨i2802, g2803, p2805, p2806, p2807, p2808, p2809⟩ := q
  have g2804 : G md_R_rule w u4 := g_tr g2800 g2803 rfl
  have : (0 : Int) ≤ (u4 43 17) ∧ (u4 43 17) ≤ 58 := g2804.1 43 17
  have : (0 : Int) ≤ (u4 43 20) ∧ (u4 43 20) ≤ 80 := g2804.1 43 20
  have : (-1 : Int) ≤ (u4 43 21) ∧ (u4 43 21) ≤ 80 := g2804.1 43 21
  have : (0 : Int) ≤ (u4 43 18) ∧ (u4 43 18) ≤ 80 := g2804.1 43 18
  have : (0 : Int) ≤ (u4 43 19) ∧ (u4 43 19) ≤ 76 := g2804.1 43 19
  refine ok_lw (fun u5 e2810 => ?_)
  have g2811 : G md_R_rule w u5 := g_st g2804 e2810 rfl rfl (show (0 : Int) ≤ (0 : Int) ∧ (0 : Int) ≤ 80 by omega)
  refine ok_lw (fun u6 e2812 => ?_)
  have g2813 : G md_R_rule w u6 := g_st g2811 e2812 rfl rfl (show (-1 : Int) ≤ (-1 : Int) ∧ (-1 : Int) ≤ 9 by omega)
  refine ok_ite (fun h2814 => ?_) (fun h2815 => ?_)
  · have : (0 : Int) ≤ (u6 43 13) ∧ (u6 43 13) ≤ 80 := g2813.1 43 13
    have : (u6 43 13) = (u5 43 13) := (congrFun (congrFun e2812 43) 13).trans (st_k (by decide))
    have : (0 : Int) ≤ (u5 43 13) ∧ (u5 43 13) ≤ 80 := g2811.1 43 13
    have : (u5 43 13) = (0 : Int) := (congrFun (congrFun e2810 43) 13).trans (st_eq _ _ _ _)
    exact s_R_rule_71 g2813 (by omega) (by omega) (by omega)
  · have : (0 : Int) ≤ (u6 43 17) ∧ (u6 43 17) ≤ 58 := g2813.1 43 17
    have : (u6 43 17) = (u5 43 17) := (congrFun (congrFun e2812 43) 17).trans (st_k (by decide))
    have : (0 : Int) ≤ (u5 43 17) ∧ (u5 43 17) ≤ 58 := g2811.1 43 17
    have : (u5 43 17) = (u4 43 17) := (congrFun (congrFun e2810 43) 17).trans (st_k (by decide))
    have : (0 : Int) ≤ (u6 43 19) ∧ (u6 43 19) ≤ 76 := g2813.1 43 19
    have : (u6 43 19) = (u5 43 19) := (congrFun (congrFun e2812 43) 19).trans (st_k (by decide))
    have : (0 : Int) ≤ (u5 43 19) ∧ (u5 43 19) ≤ 76 := g2811.1 43 19
    have : (u5 43 19) = (u4 43 19) := (congrFun (congrFun e2810 43) 19).trans (st_k (by decide))
    have : (0 : Int) ≤ (u6 43 20) ∧ (u6 43 20) ≤ 80 := g2813.1 43 20
    have : (u6 43 20) = (u5 43 20) := (congrFun (congrFun e2812 43) 20).trans (st_k (by decide))
    have : (0 : Int) ≤ (u5 43 20) ∧ (u5 43 20) ≤ 80 := g2811.1 43 20
    have : (u5 43 20) = (u4 43 20) := (congrFun (congrFun e2810 43) 20).trans (st_k (by decide))
    refine ok_call (s_R_grp 100 0 (by decide) (by omega) (g_self g2813) (by omega) (by omega) (by omega) (by omega)) (fun r10 u11 q => ?_)
    obtain ⟨i2816, g2817, p2819, p2820⟩ := q
    have g2818 : G md_R_rule w u11 := g_tr g2813 g2817 rfl
    have : (0 : Int) ≤ (u11 43 20) ∧ (u11 43 20) ≤ 80 := g2818.1 43 20
    have : (0 : Int) ≤ (u11 43 19) ∧ (u11 43 19) ≤ 76 := g2818.1 43 19
    have : (u11 43 19) = (u6 43 19) := g2817.2.1 43 19 rfl
    refine ok_ite (fun h2821 => ?_) (fun h2822 => ?_)
    · have : (-1 : Int) ≤ (u11 43 21) ∧ (u11 43 21) ≤ 80 := g2818.1 43 21
      have : (0 : Int) ≤ (u11 43 13) ∧ (u11 43 13) ≤ 80 := g2818.1 43 13
      have : (u11 43 13) = (u6 43 13) := g2817.2.1 43 13 rfl
      have : (0 : Int) ≤ (u6 43 13) ∧ (u6 43 13) ≤ 80 := g2813.1 43 13
      have : (u6 43 13) = (u5 43 13) := (congrFun (congrFun e2812 43) 13).trans (st_k (by decide))
      have : (0 : Int) ≤ (u5 43 13) ∧ (u5 43 13) ≤ 80 := g2811.1 43 13
      have : (u5 43 13) = (0 : Int) := (congrFun (congrFun e2810 43) 13).trans (st_eq _ _ _ _)
      exact s_R_rule_57 g2818 (by omega) (by omega) (by omega)
    · refine ok_call (s_R_fault (g_self g2818) (by omega) (by omega)) (fun r14 u15 q => ?_)
      obtain ⟨i2823, g2824, p2826⟩ := q
      have g2825 : G md_R_rule w u15 := g_tr g2818 g2824 rfl
      have : (-1 : Int) ≤ (u15 43 21) ∧ (u15 43 21) ≤ 80 := g2825.1 43 21
      have : (0 : Int) ≤ (u15 43 13) ∧ (u15 43 13) ≤ 80 := g2825.1 43 13
      have : (u15 43 13) = (u11 43 13) := g2824.2.1 43 13 rfl
      have : (0 : Int) ≤ (u11 43 13) ∧ (u11 43 13) ≤ 80 := g2818.1 43 13
      have : (u11 43 13) = (u6 43 13) := g2817.2.1 43 13 rfl
      have : (0 : Int) ≤ (u6 43 13) ∧ (u6 43 13) ≤ 80 := g2813.1 43 13
      have : (u6 43 13) = (u5 43 13) := (congrFun (congrFun e2812 43) 13).trans (st_k (by decide))
      have : (0 : Int) ≤ (u5 43 13) ∧ (u5 43 13) ≤ 80 := g2811.1 43 13
      have : (u5 43 13) = (0 : Int) := (congrFun (congrFun e2810 43) 13).trans (st_eq _ _ _ _)
      exact s_R_rule_57 g2825 (by omega) (by omega) (by omega)
theorem s_R_begin1_43_57 {w : Wd} {v2 v3 : Int} (hG : G md_R_begin1_43_57 w w) (i_v2 : ((1 : Int) ≤ v2 ∧ v2 ≤ 40)) (i_v3 : ((40 : Int) ≤ v3 ∧ v3 ≤ 40)) : OK (f_R_begin1_43_57 v2 v3 w) (fun r u => ((0 : Int) ≤ r ∧ r ≤ 0) ∧ G md_R_begin1_43_57 w u ∧ ((u 43 17) = (58 : Int)) ∧ ((u 43 20) = (0 : Int)) ∧ ((u 43 21) = (-1 : Int)) ∧ ((u 43 18) = v2) ∧ ((u 43 19) = v3)) := by
  unfold f_R_begin1_43_57
  refine ok_lw (fun u1 e2827 => ?_)
  have g2828 : G md_R_begin1_43_57 w u1 := g_st hG e2827 rfl rfl (show (0 : Int) ≤ (58 : Int) ∧ (58 : Int) ≤ 58 by omega)
  refine ok_lw (fun u2 e2829 => ?_)
  have g2830 : G md_R_begin1_43_57 w u2 := g_st g2828 e2829 rfl rfl (show (0 : Int) ≤ v2 ∧ v2 ≤ 80 by omega)
  refine ok_lw (fun u3 e2831 => ?_)
  have g2832 : G md_R_begin1_43_57 w u3 := g_st g2830 e2831 rfl rfl (show (0 : Int) ≤ v3 ∧ v3 ≤ 76 by omega)
  refine ok_lw (fun u4 e2833 => ?_)
  have g2834 : G md_R_begin1_43_57 w u4 := g_st g2832 e2833 rfl rfl (show (0 : Int) ≤ (0 : Int) ∧ (0 : Int) ≤ 80 by omega)
  refine ok_lw (fun u5 e2835 => ?_)
  have g2836 : G md_R_begin1_43_57 w u5 := g_st g2834 e2835 rfl rfl (show (-1 : Int) ≤ (-1 : Int) ∧ (-1 : Int) ≤ 80 by omega)
  have : (0 : Int) ≤ (u5 43 17) ∧ (u5 43 17) ≤ 58 := g2836.1 43 17
  have : (u5 43 17) = (u4 43 17) := (congrFun (congrFun e2835 43) 17).trans (st_k (by decide))
  have : (0 : Int) ≤ (u4 43 17) ∧ (u4 43 17) ≤ 58 := g2834.1 43 17
  have : (u4 43 17) = (u3 43 17) := (congrFun (congrFun e2833 43) 17).trans (st_k (by decide))
  have : (0 : Int) ≤ (u3 43 17) ∧ (u3 43 17) ≤ 58 := g2832.1 43 17
  have : (u3 43 17) = (u2 43 17) := (congrFun (congrFun e2831 43) 17).trans (st_k (by decide))
  have : (0 : Int) ≤ (u2 43 17) ∧ (u2 43 17) ≤ 58 := g2830.1 43 17
  have : (u2 43 17) = (u1 43 17) := (congrFun (congrFun e2829 43) 17).trans (st_k (by decide))
  have : (0 : Int) ≤ (u1 43 17) ∧ (u1 43 17) ≤ 58 := g2828.1 43 17
  have : (u1 43 17) = (58 : Int) := (congrFun (congrFun e2827 43) 17).trans (st_eq _ _ _ _)
  have : (0 : Int) ≤ (u5 43 20) ∧ (u5 43 20) ≤ 80 := g2836.1 43 20
  have : (u5 43 20) = (u4 43 20) := (congrFun (congrFun e2835 43) 20).trans (st_k (by decide))
  have : (0 : Int) ≤ (u4 43 20) ∧ (u4 43 20) ≤ 80 := g2834.1 43 20
  have : (u4 43 20) = (0 : Int) := (congrFun (congrFun e2833 43) 20).trans (st_eq _ _ _ _)
  have : (-1 : Int) ≤ (u5 43 21) ∧ (u5 43 21) ≤ 80 := g2836.1 43 21
  have : (u5 43 21) = (-1 : Int) := (congrFun (congrFun e2835 43) 21).trans (st_eq _ _ _ _)
  have : (0 : Int) ≤ (u5 43 18) ∧ (u5 43 18) ≤ 80 := g2836.1 43 18
  have : (u5 43 18) = (u4 43 18) := (congrFun (congrFun e2835 43) 18).trans (st_k (by decide))
  have : (0 : Int) ≤ (u4 43 18) ∧ (u4 43 18) ≤ 80 := g2834.1 43 18
  have : (u4 43 18) = (u3 43 18) := (congrFun (congrFun e2833 43) 18).trans (st_k (by decide))
  have : (0 : Int) ≤ (u3 43 18) ∧ (u3 43 18) ≤ 80 := g2832.1 43 18
  have : (u3 43 18) = (u2 43 18) := (congrFun (congrFun e2831 43) 18).trans (st_k (by decide))
  have : (0 : Int) ≤ (u2 43 18) ∧ (u2 43 18) ≤ 80 := g2830.1 43 18
  have : (u2 43 18) = v2 := (congrFun (congrFun e2829 43) 18).trans (st_eq _ _ _ _)
  have : (0 : Int) ≤ (u5 43 19) ∧ (u5 43 19) ≤ 76 := g2836.1 43 19
  have : (u5 43 19) = (u4 43 19) := (congrFun (congrFun e2835 43) 19).trans (st_k (by decide))
  have : (0 : Int) ≤ (u4 43 19) ∧ (u4 43 19) ≤ 76 := g2834.1 43 19
  have : (u4 43 19) = (u3 43 19) := (congrFun (congrFun e2833 43) 19).trans (st_k (by decide))
  have : (0 : Int) ≤ (u3 43 19) ∧ (u3 43 19) ≤ 76 := g2832.1 43 19
  have : (u3 43 19) = v3 := (congrFun (congrFun e2831 43) 19).trans (st_eq _ _ _ _)
  exact ok_some ⟨by omega, g2836, (by omega), (by omega), (by omega), (by omega), (by omega)⟩
theorem s_R_ruleFor {w : Wd} {v1 v2 : Int} (hG : G md_R_ruleFor w w) (i_v1 : ((0 : Int) ≤ v1 ∧ v1 ≤ 9)) (i_v2 : ((0 : Int) ≤ v2 ∧ v2 ≤ 9)) : OK (f_R_ruleFor v1 v2 w) (fun r u => ((-2147483648 : Int) ≤ r ∧ r ≤ 2147483647) ∧ G md_R_ruleFor w u) := by
  unfold f_R_ruleFor
  have : (0 : Int) ≤ (w 43 27) ∧ (w 43 27) ≤ 40 := hG.1 43 27
  refine ok_ite (fun h2837 => ?_) (fun h2838 => ?_)
  · exact ok_some ⟨by omega, hG⟩
  · refine ok_call (s_R_begin1_43_57 (g_self hG) (by omega) (by omega)) (fun r1 u2 q => ?_)
    obtain ⟨i2839, g2840, p2842, p2843, p2844, p2845, p2846⟩ := q
    have g2841 : G md_R_ruleFor w u2 := g_tr hG g2840 rfl
    have : (0 : Int) ≤ (u2 43 17) ∧ (u2 43 17) ≤ 58 := g2841.1 43 17
    have : (0 : Int) ≤ (u2 43 20) ∧ (u2 43 20) ≤ 80 := g2841.1 43 20
    have : (-1 : Int) ≤ (u2 43 21) ∧ (u2 43 21) ≤ 80 := g2841.1 43 21
    have : (0 : Int) ≤ (u2 43 18) ∧ (u2 43 18) ≤ 80 := g2841.1 43 18
    have : (0 : Int) ≤ (u2 43 19) ∧ (u2 43 19) ≤ 76 := g2841.1 43 19
    refine ok_lw (fun u3 e2847 => ?_)
    have g2848 : G md_R_ruleFor w u3 := g_st g2841 e2847 rfl rfl (show (-1 : Int) ≤ v1 ∧ v1 ≤ 9 by omega)
    refine ok_lw (fun u4 e2849 => ?_)
    have g2850 : G md_R_ruleFor w u4 := g_st g2848 e2849 rfl rfl (show (0 : Int) ≤ v2 ∧ v2 ≤ 9 by omega)
    have : (0 : Int) ≤ (u4 43 17) ∧ (u4 43 17) ≤ 58 := g2850.1 43 17
    have : (u4 43 17) = (u3 43 17) := (congrFun (congrFun e2849 43) 17).trans (st_k (by decide))
    have : (0 : Int) ≤ (u3 43 17) ∧ (u3 43 17) ≤ 58 := g2848.1 43 17
    have : (u3 43 17) = (u2 43 17) := (congrFun (congrFun e2847 43) 17).trans (st_k (by decide))
    have : (0 : Int) ≤ (u4 43 19) ∧ (u4 43 19) ≤ 76 := g2850.1 43 19
    have : (u4 43 19) = (u3 43 19) := (congrFun (congrFun e2849 43) 19).trans (st_k (by decide))
    have : (0 : Int) ≤ (u3 43 19) ∧ (u3 43 19) ≤ 76 := g2848.1 43 19
    have : (u3 43 19) = (u2 43 19) := (congrFun (congrFun e2847 43) 19).trans (st_k (by decide))
    have : (0 : Int) ≤ (u4 43 20) ∧ (u4 43 20) ≤ 80 := g2850.1 43 20
    have : (u4 43 20) = (u3 43 20) := (congrFun (congrFun e2849 43) 20).trans (st_k (by decide))
    have : (0 : Int) ≤ (u3 43 20) ∧ (u3 43 20) ≤ 80 := g2848.1 43 20
    have : (u3 43 20) = (u2 43 20) := (congrFun (congrFun e2847 43) 20).trans (st_k (by decide))
    refine ok_call (s_R_grp 100 0 (by decide) (by omega) (g_self g2850) (by omega) (by omega) (by omega) (by omega)) (fun r5 u6 q => ?_)
    obtain ⟨i2851, g2852, p2854, p2855⟩ := q
    have g2853 : G md_R_ruleFor w u6 := g_tr g2850 g2852 rfl
    have : (0 : Int) ≤ (u6 43 20) ∧ (u6 43 20) ≤ 80 := g2853.1 43 20
    have : (0 : Int) ≤ (u6 43 19) ∧ (u6 43 19) ≤ 76 := g2853.1 43 19
    have : (u6 43 19) = (u4 43 19) := g2852.2.1 43 19 rfl
    exact ok_some ⟨by omega, g2853⟩
theorem s_R_of_23 {b : Wd} {w : Wd} (hG : G md_R_of b w) : OK (f_R_of_23 w) (fun r u => ((-2147483648 : Int) ≤ r ∧ r ≤ 2147483647) ∧ G md_R_of b u) := by
  unfold f_R_of_23
  refine ok_call (s_R_lost (g_self hG)) (fun r4 u5 q => ?_)
  obtain ⟨i2856, g2857⟩ := q
  have g2858 : G md_R_of b u5 := g_tr hG g2857 rfl
  exact ok_some ⟨by omega, g2858⟩
theorem s_R_of {w : Wd} {v1 v2 : Int} (hG : G md_R_of w w) (i_v1 : ((-2147483648 : Int) ≤ v1 ∧ v1 ≤ 2147483647)) (i_v2 : ((-2147483648 : Int) ≤ v2 ∧ v2 ≤ 2147483647)) : OK (f_R_of v1 v2 w) (fun r u => ((-2147483648 : Int) ≤ r ∧ r ≤ 2147483647) ∧ G md_R_of w u) := by
  unfold f_R_of
  refine ok_lw (fun u1 e2859 => ?_)
  have g2860 : G md_R_of w u1 := g_st hG e2859 rfl rfl (show (0 : Int) ≤ (0 : Int) ∧ (0 : Int) ≤ 1 by omega)
  refine ok_jj ?_
  refine ok_jite (fun h2863 => ?_) (fun h2864 => ?_)
  · refine ok_jsome ?_
    refine ok_jit (by decide) ?_
    refine ok_jsome ?_
    refine ok_it (by decide) ?_
    exact s_R_of_23 g2860
  · have : (0 : Int) ≤ (u1 43 0) ∧ (u1 43 0) ≤ 10 := g2860.1 43 0
    have : (u1 43 0) = (w 43 0) := (congrFun (congrFun e2859 43) 0).trans (st_k (by decide))
    have : (0 : Int) ≤ (w 43 0) ∧ (w 43 0) ≤ 10 := hG.1 43 0
    have := w32_sp (((u1 43 0) - (1 : Int)))
    refine ok_jite (fun h2865 => ?_) (fun h2866 => ?_)
    · refine ok_jsome ?_
      refine ok_jit (by decide) ?_
      refine ok_jsome ?_
      refine ok_it (by decide) ?_
      exact s_R_of_23 g2860
    · refine ok_jsome ?_
      refine ok_jit (by decide) ?_
      refine ok_jsome ?_
      refine ok_if (by decide) ?_
      refine ok_jite (fun h2868 => ?_) (fun h2869 => ?_)
      · refine ok_jsome ?_
        refine ok_it (by decide) ?_
        exact s_R_of_23 g2860
      · refine ok_jite (fun h2870 => ?_) (fun h2871 => ?_)
        · refine ok_jsome ?_
          refine ok_it (by decide) ?_
          exact s_R_of_23 g2860
        · refine ok_jsome ?_
          refine ok_if (by decide) ?_
          refine ok_ite (fun h2872 => ?_) (fun h2873 => ?_)
          · refine ok_gd (by omega) ?_
            have : (-2147483648 : Int) ≤ (u1 49 (v1).toNat) ∧ (u1 49 (v1).toNat) ≤ 2147483647 := g2860.1 49 (v1).toNat
            have : (u1 49 (v1).toNat) = (w 49 (v1).toNat) := (congrFun (congrFun e2859 49) (v1).toNat).trans (st_c (by decide))
            have : (-2147483648 : Int) ≤ (w 49 (v1).toNat) ∧ (w 49 (v1).toNat) ≤ 2147483647 := hG.1 49 (v1).toNat
            exact ok_some ⟨by omega, g2860⟩
          · refine ok_ite (fun h2874 => ?_) (fun h2875 => ?_)
            · refine ok_gd (by omega) ?_
              have : (0 : Int) ≤ (u1 44 (v1).toNat) ∧ (u1 44 (v1).toNat) ≤ 9 := g2860.1 44 (v1).toNat
              have : (u1 44 (v1).toNat) = (w 44 (v1).toNat) := (congrFun (congrFun e2859 44) (v1).toNat).trans (st_c (by decide))
              have : (0 : Int) ≤ (w 44 (v1).toNat) ∧ (w 44 (v1).toNat) ≤ 9 := hG.1 44 (v1).toNat
              exact ok_some ⟨by omega, g2860⟩
            · refine ok_ite (fun h2876 => ?_) (fun h2877 => ?_)
              · refine ok_gd (by omega) ?_
                have : (0 : Int) ≤ (u1 45 (v1).toNat) ∧ (u1 45 (v1).toNat) ≤ 1023 := g2860.1 45 (v1).toNat
                have : (u1 45 (v1).toNat) = (w 45 (v1).toNat) := (congrFun (congrFun e2859 45) (v1).toNat).trans (st_c (by decide))
                have : (0 : Int) ≤ (w 45 (v1).toNat) ∧ (w 45 (v1).toNat) ≤ 1023 := hG.1 45 (v1).toNat
                exact ok_some ⟨by omega, g2860⟩
              · refine ok_ite (fun h2878 => ?_) (fun h2879 => ?_)
                · refine ok_gd (by omega) ?_
                  have : (0 : Int) ≤ (u1 46 (v1).toNat) ∧ (u1 46 (v1).toNat) ≤ 1 := g2860.1 46 (v1).toNat
                  have : (u1 46 (v1).toNat) = (w 46 (v1).toNat) := (congrFun (congrFun e2859 46) (v1).toNat).trans (st_c (by decide))
                  have : (0 : Int) ≤ (w 46 (v1).toNat) ∧ (w 46 (v1).toNat) ≤ 1 := hG.1 46 (v1).toNat
                  refine ok_ite (fun h2880 => ?_) (fun h2881 => ?_)
                  · exact ok_some ⟨by omega, g2860⟩
                  · exact ok_some ⟨by omega, g2860⟩
                · refine ok_ite (fun h2882 => ?_) (fun h2883 => ?_)
                  · refine ok_gd (by omega) ?_
                    have : (-2147483648 : Int) ≤ (u1 47 (v1).toNat) ∧ (u1 47 (v1).toNat) ≤ 2147483647 := g2860.1 47 (v1).toNat
                    have : (u1 47 (v1).toNat) = (w 47 (v1).toNat) := (congrFun (congrFun e2859 47) (v1).toNat).trans (st_c (by decide))
                    have : (-2147483648 : Int) ≤ (w 47 (v1).toNat) ∧ (w 47 (v1).toNat) ≤ 2147483647 := hG.1 47 (v1).toNat
                    refine ok_ite (fun h2884 => ?_) (fun h2885 => ?_)
                    · exact ok_some ⟨by omega, g2860⟩
                    · refine ok_gd (by omega) ?_
                      refine ok_ite (fun h2886 => ?_) (fun h2887 => ?_)
                      · exact ok_some ⟨by omega, g2860⟩
                      · exact ok_some ⟨by omega, g2860⟩
                  · refine ok_ite (fun h2888 => ?_) (fun h2889 => ?_)
                    · refine ok_gd (by omega) ?_
                      have : (-2147483648 : Int) ≤ (u1 47 (v1).toNat) ∧ (u1 47 (v1).toNat) ≤ 2147483647 := g2860.1 47 (v1).toNat
                      have : (u1 47 (v1).toNat) = (w 47 (v1).toNat) := (congrFun (congrFun e2859 47) (v1).toNat).trans (st_c (by decide))
                      have : (-2147483648 : Int) ≤ (w 47 (v1).toNat) ∧ (w 47 (v1).toNat) ≤ 2147483647 := hG.1 47 (v1).toNat
                      refine ok_jite (fun h2891 => ?_) (fun h2892 => ?_)
                      · refine ok_jsome ?_
                        refine ok_it (by decide) ?_
                        exact ok_some ⟨by omega, g2860⟩
                      · refine ok_jite (fun h2893 => ?_) (fun h2894 => ?_)
                        · refine ok_jsome ?_
                          refine ok_it (by decide) ?_
                          exact ok_some ⟨by omega, g2860⟩
                        · refine ok_jsome ?_
                          refine ok_if (by decide) ?_
                          refine ok_gd (by omega) ?_
                          have := w32_sp (((u1 47 (v1).toNat) - (1 : Int)))
                          exact ok_some ⟨by omega, g2860⟩
                    · refine ok_it (by omega) ?_
                      refine ok_gd (by omega) ?_
                      have : (-1 : Int) ≤ (u1 48 (v1).toNat) ∧ (u1 48 (v1).toNat) ≤ 9 := g2860.1 48 (v1).toNat
                      have : (u1 48 (v1).toNat) = (w 48 (v1).toNat) := (congrFun (congrFun e2859 48) (v1).toNat).trans (st_c (by decide))
                      have : (-1 : Int) ≤ (w 48 (v1).toNat) ∧ (w 48 (v1).toNat) ≤ 9 := hG.1 48 (v1).toNat
                      exact ok_some ⟨by omega, g2860⟩
theorem s_R_law_49 {b : Wd} {w : Wd} {v1 v2 s0 : Int} (hG : G md_R_law b w) (i_v1 : ((0 : Int) ≤ v1 ∧ v1 ≤ 1)) (i_v2 : ((-2147483648 : Int) ≤ v2 ∧ v2 ≤ 2147483647)) (i_s0 : ((-2147483648 : Int) ≤ s0 ∧ s0 ≤ 2147483647)) : OK (f_R_law_49 v1 v2 s0 w) (fun r u => ((-2147483648 : Int) ≤ r ∧ r ≤ 2147483647) ∧ G md_R_law b u) := by
  unfold f_R_law_49
  refine ok_ite (fun h2895 => ?_) (fun h2896 => ?_)
  · refine ok_lw (fun u7 e2897 => ?_)
    have g2898 : G md_R_law b u7 := g_st hG e2897 rfl rfl (show (-2147483648 : Int) ≤ v2 ∧ v2 ≤ 2147483647 by omega)
    exact ok_some ⟨by omega, g2898⟩
  · refine ok_lw (fun u6 e2899 => ?_)
    have g2900 : G md_R_law b u6 := g_st hG e2899 rfl rfl (show (-2147483648 : Int) ≤ v2 ∧ v2 ≤ 2147483647 by omega)
    exact ok_some ⟨by omega, g2900⟩
theorem s_R_law_26 {b : Wd} {w : Wd} {v1 v2 s0 s1 s2 : Int} (hG : G md_R_law b w) (i_v1 : ((0 : Int) ≤ v1 ∧ v1 ≤ 1)) (i_v2 : ((-2147483648 : Int) ≤ v2 ∧ v2 ≤ 2147483647)) (i_s0 : ((-2147483648 : Int) ≤ s0 ∧ s0 ≤ 2147483647)) (i_s1 : ((1 : Int) ≤ s1 ∧ s1 ≤ 1)) (i_s2 : ((3 : Int) ≤ s2 ∧ s2 ≤ 10)) : OK (f_R_law_26 v1 v2 s0 s1 s2 w) (fun r u => ((-2147483648 : Int) ≤ r ∧ r ≤ 2147483647) ∧ G md_R_law b u) := by
  unfold f_R_law_26
  refine ok_jite (fun h2902 => ?_) (fun h2903 => ?_)
  · refine ok_jsome ?_
    refine ok_it (by decide) ?_
    exact ok_some ⟨by omega, hG⟩
  · refine ok_jite (fun h2904 => ?_) (fun h2905 => ?_)
    · refine ok_jsome ?_
      refine ok_it (by decide) ?_
      exact ok_some ⟨by omega, hG⟩
    · refine ok_jsome ?_
      refine ok_if (by decide) ?_
      refine ok_ite (fun h2906 => ?_) (fun h2907 => ?_)
      · have : (-2147483648 : Int) ≤ (w 43 10) ∧ (w 43 10) ≤ 2147483647 := hG.1 43 10
        exact s_R_law_49 hG (by omega) (by omega) (by omega)
      · have : (-2147483648 : Int) ≤ (w 43 11) ∧ (w 43 11) ≤ 2147483647 := hG.1 43 11
        exact s_R_law_49 hG (by omega) (by omega) (by omega)
theorem s_R_law {w : Wd} {v1 v2 : Int} (hG : G md_R_law w w) (i_v1 : ((-2147483648 : Int) ≤ v1 ∧ v1 ≤ 2147483647)) (i_v2 : ((-2147483648 : Int) ≤ v2 ∧ v2 ≤ 2147483647)) : OK (f_R_law v1 v2 w) (fun r u => ((-2147483648 : Int) ≤ r ∧ r ≤ 2147483647) ∧ G md_R_law w u) := by
  unfold f_R_law
  refine ok_lw (fun u1 e2908 => ?_)
  have g2909 : G md_R_law w u1 := g_st hG e2908 rfl rfl (show (0 : Int) ≤ (0 : Int) ∧ (0 : Int) ≤ 1 by omega)
  refine ok_jite (fun h2911 => ?_) (fun h2912 => ?_)
  · refine ok_jsome ?_
    refine ok_it (by decide) ?_
    exact ok_some ⟨by omega, g2909⟩
  · refine ok_jite (fun h2913 => ?_) (fun h2914 => ?_)
    · refine ok_jsome ?_
      refine ok_it (by decide) ?_
      exact ok_some ⟨by omega, g2909⟩
    · refine ok_jsome ?_
      refine ok_if (by decide) ?_
      refine ok_ite (fun h2915 => ?_) (fun h2916 => ?_)
      · exact s_R_law_26 g2909 (by omega) (by omega) (by omega) (by omega) (by omega)
      · exact s_R_law_26 g2909 (by omega) (by omega) (by omega) (by omega) (by omega)
theorem s_R_meet_85 {b : Wd} {w : Wd} {s1 s2 : Int} (hG : G md_R_meet b w) (i_s1 : ((0 : Int) ≤ s1 ∧ s1 ≤ 9)) (i_s2 : ((0 : Int) ≤ s2 ∧ s2 ≤ 1023)) : OK (f_R_meet_85 s1 s2 w) (fun r u => ((0 : Int) ≤ r ∧ r ≤ 1) ∧ G md_R_meet b u) := by
  unfold f_R_meet_85
  refine ok_gd (by omega) ?_
  refine ok_lw (fun u5 e2917 => ?_)
  have g2918 : G md_R_meet b u5 := g_st hG e2917 rfl rfl (show (0 : Int) ≤ s2 ∧ s2 ≤ 1023 by omega)
  exact ok_some ⟨by omega, g2918⟩
theorem s_R_meet_50 {b : Wd} {w : Wd} {v1 v2 v3 s1 s2 : Int} (hG : G md_R_meet b w) (i_v1 : ((0 : Int) ≤ v1 ∧ v1 ≤ 9)) (i_v2 : ((0 : Int) ≤ v2 ∧ v2 ≤ 9)) (i_v3 : ((0 : Int) ≤ v3 ∧ v3 ≤ 1)) (i_s1 : ((0 : Int) ≤ s1 ∧ s1 ≤ 9)) (i_s2 : ((0 : Int) ≤ s2 ∧ s2 ≤ 1023)) : OK (f_R_meet_50 v1 v2 v3 s1 s2 w) (fun r u => ((0 : Int) ≤ r ∧ r ≤ 1) ∧ G md_R_meet b u) := by
  unfold f_R_meet_50
  refine ok_gd (by omega) ?_
  refine ok_lw (fun u4 e2919 => ?_)
  have g2920 : G md_R_meet b u4 := g_st hG e2919 rfl rfl (show (0 : Int) ≤ s2 ∧ s2 ≤ 1023 by omega)
  refine ok_ite (fun h2921 => ?_) (fun h2922 => ?_)
  · refine ok_gd (by omega) ?_
    have : (0 : Int) ≤ (u4 45 (v2).toNat) ∧ (u4 45 (v2).toNat) ≤ 1023 := g2920.1 45 (v2).toNat
    have := ishl1_n 9 (i := v1) (j := 9) (m := 512) (by decide) (by decide) (by decide) (by omega)
    have := ixor_m1 (x := (ishl (1 : Int) v1)) (by omega)
    have := iand_l (x := (u4 45 (v2).toNat)) (y := (ixor (ishl (1 : Int) v1) (-1 : Int))) (by omega)
    exact s_R_meet_85 g2920 (by omega) (by omega)
  · refine ok_gd (by omega) ?_
    have : (0 : Int) ≤ (u4 45 (v2).toNat) ∧ (u4 45 (v2).toNat) ≤ 1023 := g2920.1 45 (v2).toNat
    have := ishl1_n 9 (i := v1) (j := 9) (m := 512) (by decide) (by decide) (by decide) (by omega)
    have := ior_n 10 (x := (u4 45 (v2).toNat)) (y := (ishl (1 : Int) v1)) (m := 1023) (by decide) (by decide) (by omega) (by omega)
    exact s_R_meet_85 g2920 (by omega) (by omega)
theorem s_R_meet {w : Wd} {v1 v2 v3 : Int} (hG : G md_R_meet w w) (i_v1 : ((-2147483648 : Int) ≤ v1 ∧ v1 ≤ 2147483647)) (i_v2 : ((-2147483648 : Int) ≤ v2 ∧ v2 ≤ 2147483647)) (i_v3 : ((0 : Int) ≤ v3 ∧ v3 ≤ 1)) : OK (f_R_meet v1 v2 v3 w) (fun r u => ((0 : Int) ≤ r ∧ r ≤ 1) ∧ G md_R_meet w u) := by
  unfold f_R_meet
  refine ok_lw (fun u1 e2923 => ?_)
  have g2924 : G md_R_meet w u1 := g_st hG e2923 rfl rfl (show (0 : Int) ≤ (0 : Int) ∧ (0 : Int) ≤ 1 by omega)
  refine ok_jj ?_
  refine ok_jj ?_
  refine ok_jite (fun h2928 => ?_) (fun h2929 => ?_)
  · refine ok_jsome ?_
    refine ok_jit (by decide) ?_
    refine ok_jsome ?_
    refine ok_jit (by decide) ?_
    refine ok_jsome ?_
    refine ok_it (by decide) ?_
    exact ok_some ⟨by omega, g2924⟩
  · have : (0 : Int) ≤ (u1 43 0) ∧ (u1 43 0) ≤ 10 := g2924.1 43 0
    have : (u1 43 0) = (w 43 0) := (congrFun (congrFun e2923 43) 0).trans (st_k (by decide))
    have : (0 : Int) ≤ (w 43 0) ∧ (w 43 0) ≤ 10 := hG.1 43 0
    have := w32_sp (((u1 43 0) - (1 : Int)))
    refine ok_jite (fun h2930 => ?_) (fun h2931 => ?_)
    · refine ok_jsome ?_
      refine ok_jit (by decide) ?_
      refine ok_jsome ?_
      refine ok_jit (by decide) ?_
      refine ok_jsome ?_
      refine ok_it (by decide) ?_
      exact ok_some ⟨by omega, g2924⟩
    · refine ok_jsome ?_
      refine ok_jit (by decide) ?_
      refine ok_jsome ?_
      refine ok_jif (by decide) ?_
      refine ok_jj ?_
      refine ok_jj ?_
      refine ok_jite (fun h2934 => ?_) (fun h2935 => ?_)
      · refine ok_jsome ?_
        refine ok_jit (by decide) ?_
        refine ok_jsome ?_
        refine ok_jit (by decide) ?_
        refine ok_jsome ?_
        refine ok_it (by decide) ?_
        exact ok_some ⟨by omega, g2924⟩
      · refine ok_jite (fun h2936 => ?_) (fun h2937 => ?_)
        · refine ok_jsome ?_
          refine ok_jit (by decide) ?_
          refine ok_jsome ?_
          refine ok_jit (by decide) ?_
          refine ok_jsome ?_
          refine ok_it (by decide) ?_
          exact ok_some ⟨by omega, g2924⟩
        · refine ok_jsome ?_
          refine ok_jit (by decide) ?_
          refine ok_jsome ?_
          refine ok_jif (by decide) ?_
          refine ok_jite (fun h2938 => ?_) (fun h2939 => ?_)
          · refine ok_jsome ?_
            refine ok_it (by decide) ?_
            exact ok_some ⟨by omega, g2924⟩
          · refine ok_jsome ?_
            refine ok_if (by decide) ?_
            refine ok_ite (fun h2940 => ?_) (fun h2941 => ?_)
            · refine ok_gd (by omega) ?_
              have : (0 : Int) ≤ (u1 45 (v1).toNat) ∧ (u1 45 (v1).toNat) ≤ 1023 := g2924.1 45 (v1).toNat
              have : (u1 45 (v1).toNat) = (w 45 (v1).toNat) := (congrFun (congrFun e2923 45) (v1).toNat).trans (st_c (by decide))
              have : (0 : Int) ≤ (w 45 (v1).toNat) ∧ (w 45 (v1).toNat) ≤ 1023 := hG.1 45 (v1).toNat
              have := ishl1_n 9 (i := v2) (j := 9) (m := 512) (by decide) (by decide) (by decide) (by omega)
              have := ixor_m1 (x := (ishl (1 : Int) v2)) (by omega)
              have := iand_l (x := (u1 45 (v1).toNat)) (y := (ixor (ishl (1 : Int) v2) (-1 : Int))) (by omega)
              exact s_R_meet_50 g2924 (by omega) (by omega) (by omega) (by omega) (by omega)
            · refine ok_gd (by omega) ?_
              have : (0 : Int) ≤ (u1 45 (v1).toNat) ∧ (u1 45 (v1).toNat) ≤ 1023 := g2924.1 45 (v1).toNat
              have : (u1 45 (v1).toNat) = (w 45 (v1).toNat) := (congrFun (congrFun e2923 45) (v1).toNat).trans (st_c (by decide))
              have : (0 : Int) ≤ (w 45 (v1).toNat) ∧ (w 45 (v1).toNat) ≤ 1023 := hG.1 45 (v1).toNat
              have := ishl1_n 9 (i := v2) (j := 9) (m := 512) (by decide) (by decide) (by decide) (by omega)
              have := ior_n 10 (x := (u1 45 (v1).toNat)) (y := (ishl (1 : Int) v2)) (m := 1023) (by decide) (by decide) (by omega) (by omega)
              exact s_R_meet_50 g2924 (by omega) (by omega) (by omega) (by omega) (by omega)
theorem s_R_hide {w : Wd} {v1 v2 : Int} (hG : G md_R_hide w w) (i_v1 : ((-2147483648 : Int) ≤ v1 ∧ v1 ≤ 2147483647)) (i_v2 : ((0 : Int) ≤ v2 ∧ v2 ≤ 1)) : OK (f_R_hide v1 v2 w) (fun r u => ((0 : Int) ≤ r ∧ r ≤ 1) ∧ G md_R_hide w u) := by
  unfold f_R_hide
  refine ok_lw (fun u1 e2942 => ?_)
  have g2943 : G md_R_hide w u1 := g_st hG e2942 rfl rfl (show (0 : Int) ≤ (0 : Int) ∧ (0 : Int) ≤ 1 by omega)
  refine ok_jj ?_
  refine ok_jite (fun h2946 => ?_) (fun h2947 => ?_)
  · refine ok_jsome ?_
    refine ok_jit (by decide) ?_
    refine ok_jsome ?_
    refine ok_it (by decide) ?_
    exact ok_some ⟨by omega, g2943⟩
  · have : (0 : Int) ≤ (u1 43 0) ∧ (u1 43 0) ≤ 10 := g2943.1 43 0
    have : (u1 43 0) = (w 43 0) := (congrFun (congrFun e2942 43) 0).trans (st_k (by decide))
    have : (0 : Int) ≤ (w 43 0) ∧ (w 43 0) ≤ 10 := hG.1 43 0
    have := w32_sp (((u1 43 0) - (1 : Int)))
    refine ok_jite (fun h2948 => ?_) (fun h2949 => ?_)
    · refine ok_jsome ?_
      refine ok_jit (by decide) ?_
      refine ok_jsome ?_
      refine ok_it (by decide) ?_
      exact ok_some ⟨by omega, g2943⟩
    · refine ok_jsome ?_
      refine ok_jit (by decide) ?_
      refine ok_jsome ?_
      refine ok_if (by decide) ?_
      refine ok_gd (by omega) ?_
      have := nz_rg v2
      refine ok_lw (fun u4 e2950 => ?_)
      have g2951 : G md_R_hide w u4 := g_st g2943 e2950 rfl rfl (show (0 : Int) ≤ (nz v2) ∧ (nz v2) ≤ 1 by omega)
      exact ok_some ⟨by omega, g2951⟩
theorem s_R_baby {w : Wd} {v1 : Int} (hG : G md_R_baby w w) (i_v1 : ((-2147483648 : Int) ≤ v1 ∧ v1 ≤ 2147483647)) : OK (f_R_baby v1 w) (fun r u => ((-1 : Int) ≤ r ∧ r ≤ 9) ∧ G md_R_baby w u) := by
  unfold f_R_baby
  refine ok_lw (fun u1 e2952 => ?_)
  have g2953 : G md_R_baby w u1 := g_st hG e2952 rfl rfl (show (0 : Int) ≤ (0 : Int) ∧ (0 : Int) ≤ 1 by omega)
  refine ok_jite (fun h2955 => ?_) (fun h2956 => ?_)
  · refine ok_jsome ?_
    refine ok_it (by decide) ?_
    exact ok_some ⟨by omega, g2953⟩
  · have : (0 : Int) ≤ (u1 43 0) ∧ (u1 43 0) ≤ 10 := g2953.1 43 0
    have : (u1 43 0) = (w 43 0) := (congrFun (congrFun e2952 43) 0).trans (st_k (by decide))
    have : (0 : Int) ≤ (w 43 0) ∧ (w 43 0) ≤ 10 := hG.1 43 0
    have := ishl1_n 10 (i := (u1 43 0)) (j := 10) (m := 1024) (by decide) (by decide) (by decide) (by omega)
    have := w32_sp (((ishl (1 : Int) (u1 43 0)) - (1 : Int)))
    refine ok_jite (fun h2957 => ?_) (fun h2958 => ?_)
    · refine ok_jsome ?_
      refine ok_it (by decide) ?_
      exact ok_some ⟨by omega, g2953⟩
    · refine ok_jsome ?_
      refine ok_if (by decide) ?_
      refine ok_ite (fun h2959 => ?_) (fun h2960 => ?_)
      · exact ok_some ⟨by omega, g2953⟩
      · refine ok_call (s_R_add (g_self g2953) (by omega) (by omega) (by omega) (by omega) (by omega)) (fun r4 u5 q => ?_)
        obtain ⟨i2961, g2962⟩ := q
        have g2963 : G md_R_baby w u5 := g_tr g2953 g2962 rfl
        have : (0 : Int) ≤ (u5 43 0) ∧ (u5 43 0) ≤ 10 := g2963.1 43 0
        have : (u5 43 0) = (u1 43 0) := g2962.2.1 43 0 rfl
        have := w32_sp (((u5 43 0) + (1 : Int)))
        refine ok_lw (fun u6 e2964 => ?_)
        have g2965 : G md_R_baby w u6 := g_st g2963 e2964 rfl rfl (show (0 : Int) ≤ (w32 ((u5 43 0) + (1 : Int))) ∧ (w32 ((u5 43 0) + (1 : Int))) ≤ 10 by omega)
        refine ok_call (s_R_told (g_self g2965)) (fun r7 u8 q => ?_)
        obtain ⟨i2966, g2967, p2969⟩ := q
        have g2968 : G md_R_baby w u8 := g_tr g2965 g2967 rfl
        have : (0 : Int) ≤ (u8 43 32) ∧ (u8 43 32) ≤ 60 := g2968.1 43 32
        have : (0 : Int) ≤ (u8 43 0) ∧ (u8 43 0) ≤ 10 := g2968.1 43 0
        have : (u8 43 0) = (u6 43 0) := g2967.2.1 43 0 rfl
        have : (0 : Int) ≤ (u6 43 0) ∧ (u6 43 0) ≤ 10 := g2965.1 43 0
        have : (u6 43 0) = (w32 ((u5 43 0) + (1 : Int))) := (congrFun (congrFun e2964 43) 0).trans (st_eq _ _ _ _)
        have := w32_sp (((u8 43 0) - (1 : Int)))
        exact ok_some ⟨by omega, g2968⟩
theorem s_R_sheet_109 {b : Wd} {k43 : Int → Int → Int → Int → Int → Int → Wd → Option (Int × Wd)} {Bk43 : Int} (hk43 : ∀ {w1 : Wd} {v1 v2 v4 v5 v6 v7 : Int}, ((11 : Int) - v7) < Bk43 → G md_R_sheet b w1 → ((0 : Int) ≤ v1 ∧ v1 ≤ 3) → ((-2147483648 : Int) ≤ v2 ∧ v2 ≤ 10) → ((-2147483648 : Int) ≤ v4 ∧ v4 ≤ 2147483647) → ((-2147483648 : Int) ≤ v5 ∧ v5 ≤ 2147483647) → ((-2147483648 : Int) ≤ v6 ∧ v6 ≤ 2147483647) → ((0 : Int) ≤ v7 ∧ v7 ≤ 10) → OK (k43 v1 v2 v4 v5 v6 v7 w1) (fun r u => ((-2147483648 : Int) ≤ r ∧ r ≤ 2147483647) ∧ G md_R_sheet b u)) {w : Wd} {v1 v2 v4 v5 v6 v7 s1 s2 : Int} (hG : G md_R_sheet b w) (i_v1 : ((0 : Int) ≤ v1 ∧ v1 ≤ 3)) (i_v2 : ((-2147483648 : Int) ≤ v2 ∧ v2 ≤ 10)) (i_v4 : ((-2147483648 : Int) ≤ v4 ∧ v4 ≤ 2147483647)) (i_v5 : ((-2147483648 : Int) ≤ v5 ∧ v5 ≤ 2147483647)) (i_v6 : ((-2147483648 : Int) ≤ v6 ∧ v6 ≤ 2147483647)) (i_v7 : ((0 : Int) ≤ v7 ∧ v7 ≤ 9)) (i_s1 : ((0 : Int) ≤ s1 ∧ s1 ≤ 9)) (i_s2 : ((0 : Int) ≤ s2 ∧ s2 ≤ 9)) (hBk43 : ((11 : Int) - v7) ≤ Bk43) : OK (f_R_sheet_109 k43 v1 v2 v4 v5 v6 v7 s1 s2 w) (fun r u => ((-2147483648 : Int) ≤ r ∧ r ≤ 2147483647) ∧ G md_R_sheet b u) := by
  unfold f_R_sheet_109
  refine ok_gd (by omega) ?_
  refine ok_lw (fun u4 e2970 => ?_)
  have g2971 : G md_R_sheet b u4 := g_st hG e2970 rfl rfl (show (0 : Int) ≤ s2 ∧ s2 ≤ 9 by omega)
  refine ok_gd (by omega) ?_
  have : (0 : Int) ≤ (u4 44 (v7).toNat) ∧ (u4 44 (v7).toNat) ≤ 9 := g2971.1 44 (v7).toNat
  have := w32_sp ((v5 + (u4 44 (v7).toNat)))
  refine ok_let (fun x5 e2972 => ?_)
  have : (-2147483648 : Int) ≤ x5 ∧ x5 ≤ 2147483647 := by omega
  have := w32_sp ((v6 + v4))
  refine ok_let (fun x6 e2973 => ?_)
  have : (-2147483648 : Int) ≤ x6 ∧ x6 ≤ 2147483647 := by omega
  have := w32_sp ((v7 + (1 : Int)))
  refine ok_let (fun x7 e2974 => ?_)
  have : (1 : Int) ≤ x7 ∧ x7 ≤ 10 := by omega
  exact hk43 (by omega) g2971 (by omega) (by omega) (by omega) (by omega) (by omega) (by omega)
theorem s_R_sheet_94 {b : Wd} {k43 : Int → Int → Int → Int → Int → Int → Wd → Option (Int × Wd)} {Bk43 : Int} (hk43 : ∀ {w1 : Wd} {v1 v2 v4 v5 v6 v7 : Int}, ((11 : Int) - v7) < Bk43 → G md_R_sheet b w1 → ((0 : Int) ≤ v1 ∧ v1 ≤ 3) → ((-2147483648 : Int) ≤ v2 ∧ v2 ≤ 10) → ((-2147483648 : Int) ≤ v4 ∧ v4 ≤ 2147483647) → ((-2147483648 : Int) ≤ v5 ∧ v5 ≤ 2147483647) → ((-2147483648 : Int) ≤ v6 ∧ v6 ≤ 2147483647) → ((0 : Int) ≤ v7 ∧ v7 ≤ 10) → OK (k43 v1 v2 v4 v5 v6 v7 w1) (fun r u => ((-2147483648 : Int) ≤ r ∧ r ≤ 2147483647) ∧ G md_R_sheet b u)) {w : Wd} {v1 v2 v4 v5 v6 v7 s1 : Int} (hG : G md_R_sheet b w) (i_v1 : ((0 : Int) ≤ v1 ∧ v1 ≤ 3)) (i_v2 : ((-2147483648 : Int) ≤ v2 ∧ v2 ≤ 10)) (i_v4 : ((-2147483648 : Int) ≤ v4 ∧ v4 ≤ 2147483647)) (i_v5 : ((-2147483648 : Int) ≤ v5 ∧ v5 ≤ 2147483647)) (i_v6 : ((-2147483648 : Int) ≤ v6 ∧ v6 ≤ 2147483647)) (i_v7 : ((0 : Int) ≤ v7 ∧ v7 ≤ 9)) (i_s1 : ((0 : Int) ≤ s1 ∧ s1 ≤ 9)) (hBk43 : ((11 : Int) - v7) ≤ Bk43) : OK (f_R_sheet_94 k43 v1 v2 v4 v5 v6 v7 s1 w) (fun r u => ((-2147483648 : Int) ≤ r ∧ r ≤ 2147483647) ∧ G md_R_sheet b u) := by
  unfold f_R_sheet_94
  exact s_R_sheet_109 hk43 hG (by omega) (by omega) (by omega) (by omega) (by omega) (by omega) (by omega) (by omega) (by omega)
theorem s_R_sheet_75 {b : Wd} {k43 : Int → Int → Int → Int → Int → Int → Wd → Option (Int × Wd)} {Bk43 : Int} (hk43 : ∀ {w1 : Wd} {v1 v2 v4 v5 v6 v7 : Int}, ((11 : Int) - v7) < Bk43 → G md_R_sheet b w1 → ((0 : Int) ≤ v1 ∧ v1 ≤ 3) → ((-2147483648 : Int) ≤ v2 ∧ v2 ≤ 10) → ((-2147483648 : Int) ≤ v4 ∧ v4 ≤ 2147483647) → ((-2147483648 : Int) ≤ v5 ∧ v5 ≤ 2147483647) → ((-2147483648 : Int) ≤ v6 ∧ v6 ≤ 2147483647) → ((0 : Int) ≤ v7 ∧ v7 ≤ 10) → OK (k43 v1 v2 v4 v5 v6 v7 w1) (fun r u => ((-2147483648 : Int) ≤ r ∧ r ≤ 2147483647) ∧ G md_R_sheet b u)) {w : Wd} {v1 v2 v4 v5 v6 v7 s0 : Int} (hG : G md_R_sheet b w) (i_v1 : ((0 : Int) ≤ v1 ∧ v1 ≤ 3)) (i_v2 : ((-2147483648 : Int) ≤ v2 ∧ v2 ≤ 10)) (i_v4 : ((-2147483648 : Int) ≤ v4 ∧ v4 ≤ 2147483647)) (i_v5 : ((-2147483648 : Int) ≤ v5 ∧ v5 ≤ 2147483647)) (i_v6 : ((-2147483648 : Int) ≤ v6 ∧ v6 ≤ 2147483647)) (i_v7 : ((0 : Int) ≤ v7 ∧ v7 ≤ 9)) (i_s0 : ((-2147483648 : Int) ≤ s0 ∧ s0 ≤ 2147483647)) (hBk43 : ((11 : Int) - v7) ≤ Bk43) : OK (f_R_sheet_75 k43 v1 v2 v4 v5 v6 v7 s0 w) (fun r u => ((-2147483648 : Int) ≤ r ∧ r ≤ 2147483647) ∧ G md_R_sheet b u) := by
  unfold f_R_sheet_75
  refine ok_ite (fun h2975 => ?_) (fun h2976 => ?_)
  · exact s_R_sheet_94 hk43 hG (by omega) (by omega) (by omega) (by omega) (by omega) (by omega) (by omega) (by omega)
  · refine ok_ite (fun h2977 => ?_) (fun h2978 => ?_)
    · have := imin_sp (9 : Int) s0
      have := imax_sp (0 : Int) (imin (9 : Int) s0)
      exact s_R_sheet_109 hk43 hG (by omega) (by omega) (by omega) (by omega) (by omega) (by omega) (by omega) (by omega) (by omega)
    · exact s_R_sheet_94 hk43 hG (by omega) (by omega) (by omega) (by omega) (by omega) (by omega) (by omega) (by omega)
theorem s_R_sheet_43 {b : Wd} : ∀ (n : Nat) {w : Wd} {v1 v2 v4 v5 v6 v7 : Int}, ((11 : Int) - v7) < (n : Int) → G md_R_sheet b w → ((0 : Int) ≤ v1 ∧ v1 ≤ 3) → ((-2147483648 : Int) ≤ v2 ∧ v2 ≤ 10) → ((-2147483648 : Int) ≤ v4 ∧ v4 ≤ 2147483647) → ((-2147483648 : Int) ≤ v5 ∧ v5 ≤ 2147483647) → ((-2147483648 : Int) ≤ v6 ∧ v6 ≤ 2147483647) → ((0 : Int) ≤ v7 ∧ v7 ≤ 10) → OK (f_R_sheet_43 n v1 v2 v4 v5 v6 v7 w) (fun r u => ((-2147483648 : Int) ≤ r ∧ r ≤ 2147483647) ∧ G md_R_sheet b u) := by
  intro n
  induction n with
  | zero =>
    intro w v1 v2 v4 v5 v6 v7 hm hG i_v1 i_v2 i_v4 i_v5 i_v6 i_v7
    exfalso
    omega
  | succ n ih =>
    intro w v1 v2 v4 v5 v6 v7 hm hG i_v1 i_v2 i_v4 i_v5 i_v6 i_v7
    rw [f_R_sheet_43]
    have : (0 : Int) ≤ (w 43 0) ∧ (w 43 0) ≤ 10 := hG.1 43 0
    have : (w 43 0) = (b 43 0) := hG.2.1 43 0 rfl
    refine ok_ite (fun h2979 => ?_) (fun h2980 => ?_)
    · refine ok_ite (fun h2981 => ?_) (fun h2982 => ?_)
      · exact ok_some ⟨by omega, hG⟩
      · exact ok_some ⟨by omega, hG⟩
    · refine ok_ite (fun h2983 => ?_) (fun h2984 => ?_)
      · have := i2b_rg v6
        exact s_R_sheet_75 ih hG (by omega) (by omega) (by omega) (by omega) (by omega) (by omega) (by omega) (by omega)
      · refine ok_ite (fun h2985 => ?_) (fun h2986 => ?_)
        · have := i2s_rg v6
          exact s_R_sheet_75 ih hG (by omega) (by omega) (by omega) (by omega) (by omega) (by omega) (by omega) (by omega)
        · exact s_R_sheet_75 ih hG (by omega) (by omega) (by omega) (by omega) (by omega) (by omega) (by omega) (by omega)
theorem s_R_sheet_34 {b : Wd} {w : Wd} {v1 v2 v3 v4 : Int} (hG : G md_R_sheet b w) (i_v1 : ((0 : Int) ≤ v1 ∧ v1 ≤ 3)) (i_v2 : ((-2147483648 : Int) ≤ v2 ∧ v2 ≤ 10)) (i_v3 : ((-2147483648 : Int) ≤ v3 ∧ v3 ≤ 2147483647)) (i_v4 : ((-2147483648 : Int) ≤ v4 ∧ v4 ≤ 2147483647)) : OK (f_R_sheet_34 v1 v2 v3 v4 w) (fun r u => ((-2147483648 : Int) ≤ r ∧ r ≤ 2147483647) ∧ G md_R_sheet b u) := by
  unfold f_R_sheet_34
  exact s_R_sheet_43 FU (by have := eqFU; omega) hG (by omega) (by omega) (by omega) (by omega) (by omega) (by omega)
theorem s_R_sheet {w : Wd} {v1 v2 v3 v4 : Int} (hG : G md_R_sheet w w) (i_v1 : ((-2147483648 : Int) ≤ v1 ∧ v1 ≤ 2147483647)) (i_v2 : ((-2147483648 : Int) ≤ v2 ∧ v2 ≤ 2147483647)) (i_v3 : ((-2147483648 : Int) ≤ v3 ∧ v3 ≤ 2147483647)) (i_v4 : ((-2147483648 : Int) ≤ v4 ∧ v4 ≤ 2147483647)) : OK (f_R_sheet v1 v2 v3 v4 w) (fun r u => ((-2147483648 : Int) ≤ r ∧ r ≤ 2147483647) ∧ G md_R_sheet w u) := by
  unfold f_R_sheet
  refine ok_lw (fun u1 e2987 => ?_)
  have g2988 : G md_R_sheet w u1 := g_st hG e2987 rfl rfl (show (0 : Int) ≤ (0 : Int) ∧ (0 : Int) ≤ 1 by omega)
  refine ok_jite (fun h2990 => ?_) (fun h2991 => ?_)
  · refine ok_jsome ?_
    refine ok_it (by decide) ?_
    exact ok_some ⟨by omega, g2988⟩
  · refine ok_jite (fun h2992 => ?_) (fun h2993 => ?_)
    · refine ok_jsome ?_
      refine ok_it (by decide) ?_
      exact ok_some ⟨by omega, g2988⟩
    · refine ok_jsome ?_
      refine ok_if (by decide) ?_
      refine ok_ite (fun h2994 => ?_) (fun h2995 => ?_)
      · refine ok_ite (fun h2996 => ?_) (fun h2997 => ?_)
        · exact s_R_sheet_34 g2988 (by omega) (by omega) (by omega) (by omega)
        · refine ok_ite (fun h2998 => ?_) (fun h2999 => ?_)
          · exact s_R_sheet_34 g2988 (by omega) (by omega) (by omega) (by omega)
          · exact ok_some ⟨by omega, g2988⟩
      · exact ok_some ⟨by omega, g2988⟩
theorem s_R_nobody_2 {b : Wd} : ∀ (n : Nat) {w : Wd} {v1 : Int}, ((11 : Int) - v1) < (n : Int) → G md_R_nobody b w → ((0 : Int) ≤ v1 ∧ v1 ≤ 10) → OK (f_R_nobody_2 n v1 w) (fun r u => ((0 : Int) ≤ r ∧ r ≤ 0) ∧ G md_R_nobody b u) := by
  intro n
  induction n with
  | zero =>
    intro w v1 hm hG i_v1
    exfalso
    omega
  | succ n ih =>
    intro w v1 hm hG i_v1
    rw [f_R_nobody_2]
    refine ok_ite (fun h3000 => ?_) (fun h3001 => ?_)
    · exact ok_some ⟨by omega, hG⟩
    · refine ok_gd (by omega) ?_
      refine ok_lw (fun u1 e3002 => ?_)
      have g3003 : G md_R_nobody b u1 := g_st hG e3002 rfl rfl (show (-1 : Int) ≤ (-1 : Int) ∧ (-1 : Int) ≤ 9 by omega)
      have := w32_sp ((v1 + (1 : Int)))
      refine ok_let (fun x2 e3004 => ?_)
      have : (1 : Int) ≤ x2 ∧ x2 ≤ 10 := by omega
      exact ih (by omega) g3003 (by omega)
theorem s_R_nobody {w : Wd} (hG : G md_R_nobody w w) : OK (f_R_nobody w) (fun r u => ((0 : Int) ≤ r ∧ r ≤ 0) ∧ G md_R_nobody w u) := by
  unfold f_R_nobody
  exact s_R_nobody_2 FU (by have := eqFU; omega) hG (by omega)
theorem s_R_broughtNow_35 {b : Wd} {k4 : Int → Int → Wd → Option (Int × Wd)} {Bk4 : Int} (hk4 : ∀ {w1 : Wd} {v1 v2 : Int}, ((11 : Int) - v2) < Bk4 → G md_R_broughtNow b w1 → ((0 : Int) ≤ v1 ∧ v1 ≤ 1023) → ((0 : Int) ≤ v2 ∧ v2 ≤ 10) → OK (k4 v1 v2 w1) (fun r u => ((0 : Int) ≤ r ∧ r ≤ 1023) ∧ G md_R_broughtNow b u)) {w : Wd} {v2 s0 s1 : Int} (hG : G md_R_broughtNow b w) (i_v2 : ((0 : Int) ≤ v2 ∧ v2 ≤ 9)) (i_s0 : ((0 : Int) ≤ s0 ∧ s0 ≤ 1023)) (i_s1 : ((0 : Int) ≤ s1 ∧ s1 ≤ 512)) (hBk4 : ((11 : Int) - v2) ≤ Bk4) : OK (f_R_broughtNow_35 k4 v2 s0 s1 w) (fun r u => ((0 : Int) ≤ r ∧ r ≤ 1023) ∧ G md_R_broughtNow b u) := by
  unfold f_R_broughtNow_35
  have := ior_n 10 (x := s0) (y := s1) (m := 1023) (by decide) (by decide) (by omega) (by omega)
  refine ok_let (fun x1 e3005 => ?_)
  have : (0 : Int) ≤ x1 ∧ x1 ≤ 1023 := by omega
  have := w32_sp ((v2 + (1 : Int)))
  refine ok_let (fun x2 e3006 => ?_)
  have : (1 : Int) ≤ x2 ∧ x2 ≤ 10 := by omega
  exact hk4 (by omega) hG (by omega) (by omega)
theorem s_R_broughtNow_4 {b : Wd} : ∀ (n : Nat) {w : Wd} {v1 v2 : Int}, ((11 : Int) - v2) < (n : Int) → G md_R_broughtNow b w → ((0 : Int) ≤ v1 ∧ v1 ≤ 1023) → ((0 : Int) ≤ v2 ∧ v2 ≤ 10) → OK (f_R_broughtNow_4 n v1 v2 w) (fun r u => ((0 : Int) ≤ r ∧ r ≤ 1023) ∧ G md_R_broughtNow b u) := by
  intro n
  induction n with
  | zero =>
    intro w v1 v2 hm hG i_v1 i_v2
    exfalso
    omega
  | succ n ih =>
    intro w v1 v2 hm hG i_v1 i_v2
    rw [f_R_broughtNow_4]
    have : (0 : Int) ≤ (w 43 0) ∧ (w 43 0) ≤ 10 := hG.1 43 0
    have : (w 43 0) = (b 43 0) := hG.2.1 43 0 rfl
    refine ok_ite (fun h3007 => ?_) (fun h3008 => ?_)
    · exact ok_some ⟨by omega, hG⟩
    · refine ok_gd (by omega) ?_
      have : (-1 : Int) ≤ (w 58 (v2).toNat) ∧ (w 58 (v2).toNat) ≤ 9 := hG.1 58 (v2).toNat
      refine ok_ite (fun h3009 => ?_) (fun h3010 => ?_)
      · exact s_R_broughtNow_35 ih hG (by omega) (by omega) (by omega) (by omega)
      · refine ok_gd (by omega) ?_
        have := ishl1_n 9 (i := (w 58 (v2).toNat)) (j := 9) (m := 512) (by decide) (by decide) (by decide) (by omega)
        exact s_R_broughtNow_35 ih hG (by omega) (by omega) (by omega) (by omega)
theorem s_R_broughtNow {w : Wd} (hG : G md_R_broughtNow w w) : OK (f_R_broughtNow w) (fun r u => ((0 : Int) ≤ r ∧ r ≤ 1023) ∧ G md_R_broughtNow w u) := by
  unfold f_R_broughtNow
  exact s_R_broughtNow_4 FU (by have := eqFU; omega) hG (by omega) (by omega)
theorem s_R_guestsThen_66 {b : Wd} {k4 : Int → Int → Wd → Option (Int × Wd)} {Bk4 : Int} (hk4 : ∀ {w1 : Wd} {v1 v2 : Int}, ((11 : Int) - v2) < Bk4 → G md_R_guestsThen b w1 → ((-2147483648 : Int) ≤ v1 ∧ v1 ≤ 2147483647) → ((0 : Int) ≤ v2 ∧ v2 ≤ 10) → OK (k4 v1 v2 w1) (fun r u => ((-2147483648 : Int) ≤ r ∧ r ≤ 2147483647) ∧ G md_R_guestsThen b u)) {w : Wd} {v1 v2 : Int} (hG : G md_R_guestsThen b w) (i_v1 : ((-2147483648 : Int) ≤ v1 ∧ v1 ≤ 2147483647)) (i_v2 : ((0 : Int) ≤ v2 ∧ v2 ≤ 9)) (hBk4 : ((11 : Int) - v2) ≤ Bk4) : OK (f_R_guestsThen_66 k4 v1 v2 w) (fun r u => ((-2147483648 : Int) ≤ r ∧ r ≤ 2147483647) ∧ G md_R_guestsThen b u) := by
  unfold f_R_guestsThen_66
  have := w32_sp ((v2 + (1 : Int)))
  refine ok_let (fun x4 e3011 => ?_)
  have : (1 : Int) ≤ x4 ∧ x4 ≤ 10 := by omega
  exact hk4 (by omega) hG (by omega) (by omega)
theorem s_R_guestsThen_64 {b : Wd} {k4 : Int → Int → Wd → Option (Int × Wd)} {Bk4 : Int} (hk4 : ∀ {w1 : Wd} {v1 v2 : Int}, ((11 : Int) - v2) < Bk4 → G md_R_guestsThen b w1 → ((-2147483648 : Int) ≤ v1 ∧ v1 ≤ 2147483647) → ((0 : Int) ≤ v2 ∧ v2 ≤ 10) → OK (k4 v1 v2 w1) (fun r u => ((-2147483648 : Int) ≤ r ∧ r ≤ 2147483647) ∧ G md_R_guestsThen b u)) {w : Wd} {v2 s0 s1 : Int} (hG : G md_R_guestsThen b w) (i_v2 : ((0 : Int) ≤ v2 ∧ v2 ≤ 9)) (i_s0 : ((-2147483648 : Int) ≤ s0 ∧ s0 ≤ 2147483647)) (i_s1 : ((0 : Int) ≤ s1 ∧ s1 ≤ 2)) (hBk4 : ((11 : Int) - v2) ≤ Bk4) : OK (f_R_guestsThen_64 k4 v2 s0 s1 w) (fun r u => ((-2147483648 : Int) ≤ r ∧ r ≤ 2147483647) ∧ G md_R_guestsThen b u) := by
  unfold f_R_guestsThen_64
  have := w32_sp ((s0 + s1))
  refine ok_let (fun x3 e3012 => ?_)
  have : (-2147483648 : Int) ≤ x3 ∧ x3 ≤ 2147483647 := by omega
  exact s_R_guestsThen_66 hk4 hG (by omega) (by omega) (by omega)
theorem s_R_guestsThen_4 {b : Wd} : ∀ (n : Nat) {w : Wd} {v1 v2 : Int}, ((11 : Int) - v2) < (n : Int) → G md_R_guestsThen b w → ((-2147483648 : Int) ≤ v1 ∧ v1 ≤ 2147483647) → ((0 : Int) ≤ v2 ∧ v2 ≤ 10) → OK (f_R_guestsThen_4 n v1 v2 w) (fun r u => ((-2147483648 : Int) ≤ r ∧ r ≤ 2147483647) ∧ G md_R_guestsThen b u) := by
  intro n
  induction n with
  | zero =>
    intro w v1 v2 hm hG i_v1 i_v2
    exfalso
    omega
  | succ n ih =>
    intro w v1 v2 hm hG i_v1 i_v2
    rw [f_R_guestsThen_4]
    have : (0 : Int) ≤ (w 43 0) ∧ (w 43 0) ≤ 10 := hG.1 43 0
    have : (w 43 0) = (b 43 0) := hG.2.1 43 0 rfl
    refine ok_ite (fun h3013 => ?_) (fun h3014 => ?_)
    · exact ok_some ⟨by omega, hG⟩
    · refine ok_gd (by omega) ?_
      have : (-2147483648 : Int) ≤ (w 47 (v2).toNat) ∧ (w 47 (v2).toNat) ≤ 2147483647 := hG.1 47 (v2).toNat
      refine ok_jite (fun h3016 => ?_) (fun h3017 => ?_)
      · refine ok_jsome ?_
        refine ok_it (by decide) ?_
        exact s_R_guestsThen_66 ih hG (by omega) (by omega) (by omega)
      · refine ok_jite (fun h3018 => ?_) (fun h3019 => ?_)
        · refine ok_jsome ?_
          refine ok_it (by decide) ?_
          exact s_R_guestsThen_66 ih hG (by omega) (by omega) (by omega)
        · refine ok_jsome ?_
          refine ok_if (by decide) ?_
          refine ok_gd (by omega) ?_
          have : (-1 : Int) ≤ (w 58 (v2).toNat) ∧ (w 58 (v2).toNat) ≤ 9 := hG.1 58 (v2).toNat
          refine ok_ite (fun h3020 => ?_) (fun h3021 => ?_)
          · refine ok_gd (by omega) ?_
            have : (-2147483648 : Int) ≤ (w 43 10) ∧ (w 43 10) ≤ 2147483647 := hG.1 43 10
            have : (w 43 10) = (b 43 10) := hG.2.1 43 10 rfl
            have := w32_sp (((w 47 (v2).toNat) - (1 : Int)))
            have := w32_sp (((w32 ((w 47 (v2).toNat) - (1 : Int))) + (1 : Int)))
            refine ok_ite (fun h3022 => ?_) (fun h3023 => ?_)
            · exact s_R_guestsThen_64 ih hG (by omega) (by omega) (by omega) (by omega)
            · exact s_R_guestsThen_64 ih hG (by omega) (by omega) (by omega) (by omega)
          · exact s_R_guestsThen_64 ih hG (by omega) (by omega) (by omega) (by omega)
theorem s_R_guestsThen {w : Wd} (hG : G md_R_guestsThen w w) : OK (f_R_guestsThen w) (fun r u => ((-2147483648 : Int) ≤ r ∧ r ≤ 2147483647) ∧ G md_R_guestsThen w u) := by
  unfold f_R_guestsThen
  exact s_R_guestsThen_4 FU (by have := eqFU; omega) hG (by omega) (by omega)
theorem s_R_lay_43_59_2 {b : Wd} : ∀ (n : Nat) {w : Wd} {v2 v3 : Int}, ((11 : Int) - v3) < (n : Int) → G md_R_lay_43_59 b w → ((0 : Int) ≤ v2 ∧ v2 ≤ 1860) → ((0 : Int) ≤ v3 ∧ v3 ≤ 10) → ((v2 % (31 : Int)) = (0 : Int)) → (v2 ≤ (1829 : Int)) → OK (f_R_lay_43_59_2 n v2 v3 w) (fun r u => ((0 : Int) ≤ r ∧ r ≤ 0) ∧ G md_R_lay_43_59 b u) := by
  intro n
  induction n with
  | zero =>
    intro w v2 v3 hm hG i_v2 i_v3 a_0 a_1
    exfalso
    omega
  | succ n ih =>
    intro w v2 v3 hm hG i_v2 i_v3 a_0 a_1
    rw [f_R_lay_43_59_2]
    refine ok_ite (fun h3024 => ?_) (fun h3025 => ?_)
    · have := w32_sp ((v2 + (30 : Int)))
      refine ok_gd (by omega) ?_
      have : (-2147483648 : Int) ≤ (w 43 7) ∧ (w 43 7) ≤ 2147483647 := hG.1 43 7
      have : (w 43 7) = (b 43 7) := hG.2.1 43 7 rfl
      refine ok_lw (fun u1 e3026 => ?_)
      have g3027 : G md_R_lay_43_59 b u1 := g_st hG e3026 rfl rfl (by rw [r59_0 (by omega)]; show (-2147483648 : Int) ≤ (w 43 7) ∧ (w 43 7) ≤ 2147483647; omega)
      exact ok_some ⟨by omega, g3027⟩
    · refine ok_gd (by omega) ?_
      have := w32_sp (((3 : Int) * v3))
      have := w32_sp ((v2 + (w32 ((3 : Int) * v3))))
      refine ok_gd (by omega) ?_
      have : (-2147483648 : Int) ≤ (w 47 (v3).toNat) ∧ (w 47 (v3).toNat) ≤ 2147483647 := hG.1 47 (v3).toNat
      refine ok_lw (fun u2 e3028 => ?_)
      have g3029 : G md_R_lay_43_59 b u2 := g_st hG e3028 rfl rfl (by rw [r59_0 (by omega)]; show (-2147483648 : Int) ≤ (w 47 (v3).toNat) ∧ (w 47 (v3).toNat) ≤ 2147483647; omega)
      refine ok_gd (by omega) ?_
      have := w32_sp (((w32 (v2 + (w32 ((3 : Int) * v3)))) + (1 : Int)))
      refine ok_gd (by omega) ?_
      have : (-1 : Int) ≤ (u2 48 (v3).toNat) ∧ (u2 48 (v3).toNat) ≤ 9 := g3029.1 48 (v3).toNat
      have : (u2 48 (v3).toNat) = (w 48 (v3).toNat) := (congrFun (congrFun e3028 48) (v3).toNat).trans (st_c (by decide))
      have : (-1 : Int) ≤ (w 48 (v3).toNat) ∧ (w 48 (v3).toNat) ≤ 9 := hG.1 48 (v3).toNat
      refine ok_lw (fun u3 e3030 => ?_)
      have g3031 : G md_R_lay_43_59 b u3 := g_st g3029 e3030 rfl rfl (by rw [r59_1 (by omega)]; show (-1 : Int) ≤ (u2 48 (v3).toNat) ∧ (u2 48 (v3).toNat) ≤ 9; omega)
      refine ok_gd (by omega) ?_
      have := w32_sp (((w32 (v2 + (w32 ((3 : Int) * v3)))) + (2 : Int)))
      refine ok_gd (by omega) ?_
      have : (-2147483648 : Int) ≤ (u3 49 (v3).toNat) ∧ (u3 49 (v3).toNat) ≤ 2147483647 := g3031.1 49 (v3).toNat
      have : (u3 49 (v3).toNat) = (u2 49 (v3).toNat) := (congrFun (congrFun e3030 49) (v3).toNat).trans (st_c (by decide))
      have : (-2147483648 : Int) ≤ (u2 49 (v3).toNat) ∧ (u2 49 (v3).toNat) ≤ 2147483647 := g3029.1 49 (v3).toNat
      have : (u2 49 (v3).toNat) = (w 49 (v3).toNat) := (congrFun (congrFun e3028 49) (v3).toNat).trans (st_c (by decide))
      have : (-2147483648 : Int) ≤ (w 49 (v3).toNat) ∧ (w 49 (v3).toNat) ≤ 2147483647 := hG.1 49 (v3).toNat
      refine ok_lw (fun u4 e3032 => ?_)
      have g3033 : G md_R_lay_43_59 b u4 := g_st g3031 e3032 rfl rfl (by rw [r59_0 (by omega)]; show (-2147483648 : Int) ≤ (u3 49 (v3).toNat) ∧ (u3 49 (v3).toNat) ≤ 2147483647; omega)
      have := w32_sp ((v3 + (1 : Int)))
      refine ok_let (fun x5 e3034 => ?_)
      have : (1 : Int) ≤ x5 ∧ x5 ≤ 10 := by omega
      exact ih (by omega) g3033 (by omega) (by omega) (by omega) (by omega)
theorem s_R_lay_43_59 {w : Wd} {v2 : Int} (hG : G md_R_lay_43_59 w w) (i_v2 : ((0 : Int) ≤ v2 ∧ v2 ≤ 1860)) (a_0 : ((v2 % (31 : Int)) = (0 : Int))) (a_1 : (v2 ≤ (1829 : Int))) : OK (f_R_lay_43_59 v2 w) (fun r u => ((0 : Int) ≤ r ∧ r ≤ 0) ∧ G md_R_lay_43_59 w u) := by
  unfold f_R_lay_43_59
  exact s_R_lay_43_59_2 FU (by have := eqFU; omega) hG (by omega) (by omega) (by omega) (by omega)
theorem s_R_goWeek_187 {b : Wd} {k164 : Int → Int → Int → Wd → Option (Int × Wd)} {Bk164 : Int} (hk164 : ∀ {w1 : Wd} {v1 v2 v3 : Int}, ((11 : Int) - v3) < Bk164 → G md_R_goWeek b w1 → ((-2147483648 : Int) ≤ v1 ∧ v1 ≤ 2147483647) → ((0 : Int) ≤ v2 ∧ v2 ≤ 1023) → ((0 : Int) ≤ v3 ∧ v3 ≤ 10) → ((w1 43 8) = ((b 43 8) + (1 : Int))) → ((w1 43 32) = ((b 43 32) + (1 : Int))) → OK (k164 v1 v2 v3 w1) (fun r u => ((-2147483648 : Int) ≤ r ∧ r ≤ 2147483647) ∧ G md_R_goWeek b u ∧ ((u 43 8) = ((b 43 8) + (1 : Int))) ∧ ((u 43 32) = ((b 43 32) + (1 : Int))))) {w : Wd} {v1 v2 v3 : Int} (hG : G md_R_goWeek b w) (i_v1 : ((-2147483648 : Int) ≤ v1 ∧ v1 ≤ 2147483647)) (i_v2 : ((0 : Int) ≤ v2 ∧ v2 ≤ 1023)) (i_v3 : ((0 : Int) ≤ v3 ∧ v3 ≤ 9)) (a_0 : ((w 43 8) = ((b 43 8) + (1 : Int)))) (a_1 : ((w 43 32) = ((b 43 32) + (1 : Int)))) (hBk164 : ((11 : Int) - v3) ≤ Bk164) : OK (f_R_goWeek_187 k164 v1 v2 v3 w) (fun r u => ((-2147483648 : Int) ≤ r ∧ r ≤ 2147483647) ∧ G md_R_goWeek b u ∧ ((u 43 8) = ((b 43 8) + (1 : Int))) ∧ ((u 43 32) = ((b 43 32) + (1 : Int)))) := by
  unfold f_R_goWeek_187
  have : (0 : Int) ≤ (w 43 8) ∧ (w 43 8) ≤ 60 := hG.1 43 8
  have : (0 : Int) ≤ (w 43 32) ∧ (w 43 32) ≤ 60 := hG.1 43 32
  have := w32_sp ((v3 + (1 : Int)))
  refine ok_let (fun x13 e3035 => ?_)
  have : (1 : Int) ≤ x13 ∧ x13 ≤ 10 := by omega
  exact hk164 (by omega) hG (by omega) (by omega) (by omega) (by omega) (by omega)
theorem s_R_goWeek_164 {b : Wd} : ∀ (n : Nat) {w : Wd} {v1 v2 v3 : Int}, ((11 : Int) - v3) < (n : Int) → G md_R_goWeek b w → ((-2147483648 : Int) ≤ v1 ∧ v1 ≤ 2147483647) → ((0 : Int) ≤ v2 ∧ v2 ≤ 1023) → ((0 : Int) ≤ v3 ∧ v3 ≤ 10) → ((w 43 8) = ((b 43 8) + (1 : Int))) → ((w 43 32) = ((b 43 32) + (1 : Int))) → OK (f_R_goWeek_164 n v1 v2 v3 w) (fun r u => ((-2147483648 : Int) ≤ r ∧ r ≤ 2147483647) ∧ G md_R_goWeek b u ∧ ((u 43 8) = ((b 43 8) + (1 : Int))) ∧ ((u 43 32) = ((b 43 32) + (1 : Int)))) := by
  intro n
  induction n with
  | zero =>
    intro w v1 v2 v3 hm hG i_v1 i_v2 i_v3 a_0 a_1
    exfalso
    omega
  | succ n ih =>
    intro w v1 v2 v3 hm hG i_v1 i_v2 i_v3 a_0 a_1
    rw [f_R_goWeek_164]
    have : (0 : Int) ≤ (w 43 8) ∧ (w 43 8) ≤ 60 := hG.1 43 8
    have : (0 : Int) ≤ (w 43 32) ∧ (w 43 32) ≤ 60 := hG.1 43 32
    have : (0 : Int) ≤ (w 43 0) ∧ (w 43 0) ≤ 10 := hG.1 43 0
    have : (w 43 0) = (b 43 0) := hG.2.1 43 0 rfl
    refine ok_ite (fun h3036 => ?_) (fun h3037 => ?_)
    · refine ok_call (s_R_guests (g_self hG)) (fun r7 u8 q => ?_)
      obtain ⟨i3038, g3039⟩ := q
      have g3040 : G md_R_goWeek b u8 := g_tr hG g3039 rfl
      refine ok_gd (by omega) ?_
      refine ok_lw (fun u9 e3041 => ?_)
      have g3042 : G md_R_goWeek b u9 := g_st g3040 e3041 rfl rfl (show (-2147483648 : Int) ≤ r7 ∧ r7 ≤ 2147483647 by omega)
      have : (-2147483648 : Int) ≤ (u9 43 7) ∧ (u9 43 7) ≤ 2147483647 := g3042.1 43 7
      have : (u9 43 7) = (u8 43 7) := (congrFun (congrFun e3041 43) 7).trans (st_c (by decide))
      have : (-2147483648 : Int) ≤ (u8 43 7) ∧ (u8 43 7) ≤ 2147483647 := g3040.1 43 7
      have : (u8 43 7) = (w 43 7) := g3039.2.1 43 7 rfl
      have : (-2147483648 : Int) ≤ (w 43 7) ∧ (w 43 7) ≤ 2147483647 := hG.1 43 7
      have := w32_sp (((u9 43 7) + v1))
      refine ok_lw (fun u10 e3043 => ?_)
      have g3044 : G md_R_goWeek b u10 := g_st g3042 e3043 rfl rfl (show (-2147483648 : Int) ≤ (w32 ((u9 43 7) + v1)) ∧ (w32 ((u9 43 7) + v1)) ≤ 2147483647 by omega)
      have : (0 : Int) ≤ (u10 43 8) ∧ (u10 43 8) ≤ 60 := g3044.1 43 8
      have : (u10 43 8) = (u9 43 8) := (congrFun (congrFun e3043 43) 8).trans (st_k (by decide))
      have : (0 : Int) ≤ (u9 43 8) ∧ (u9 43 8) ≤ 60 := g3042.1 43 8
      have : (u9 43 8) = (u8 43 8) := (congrFun (congrFun e3041 43) 8).trans (st_c (by decide))
      have : (0 : Int) ≤ (u8 43 8) ∧ (u8 43 8) ≤ 60 := g3040.1 43 8
      have : (u8 43 8) = (w 43 8) := g3039.2.1 43 8 rfl
      have : (0 : Int) ≤ (u10 43 32) ∧ (u10 43 32) ≤ 60 := g3044.1 43 32
      have : (u10 43 32) = (u9 43 32) := (congrFun (congrFun e3043 43) 32).trans (st_k (by decide))
      have : (0 : Int) ≤ (u9 43 32) ∧ (u9 43 32) ≤ 60 := g3042.1 43 32
      have : (u9 43 32) = (u8 43 32) := (congrFun (congrFun e3041 43) 32).trans (st_c (by decide))
      have : (0 : Int) ≤ (u8 43 32) ∧ (u8 43 32) ≤ 60 := g3040.1 43 32
      have : (u8 43 32) = (w 43 32) := g3039.2.1 43 32 rfl
      exact ok_some ⟨by omega, g3044, (by omega), (by omega)⟩
    · refine ok_call (s_R_has (g_self hG) (by omega) (by omega)) (fun r11 u12 q => ?_)
      obtain ⟨i3045, g3046⟩ := q
      have g3047 : G md_R_goWeek b u12 := g_tr hG g3046 rfl
      refine ok_ite (fun h3048 => ?_) (fun h3049 => ?_)
      · have : (0 : Int) ≤ (u12 43 8) ∧ (u12 43 8) ≤ 60 := g3047.1 43 8
        have : (u12 43 8) = (w 43 8) := g3046.2.1 43 8 rfl
        have : (0 : Int) ≤ (u12 43 32) ∧ (u12 43 32) ≤ 60 := g3047.1 43 32
        have : (u12 43 32) = (w 43 32) := g3046.2.1 43 32 rfl
        exact s_R_goWeek_187 ih g3047 (by omega) (by omega) (by omega) (by omega) (by omega) (by omega)
      · refine ok_gd (by omega) ?_
        refine ok_lw (fun u14 e3050 => ?_)
        have g3051 : G md_R_goWeek b u14 := g_st g3047 e3050 rfl rfl (show (-2147483648 : Int) ≤ (1 : Int) ∧ (1 : Int) ≤ 2147483647 by omega)
        have : (0 : Int) ≤ (u14 43 8) ∧ (u14 43 8) ≤ 60 := g3051.1 43 8
        have : (u14 43 8) = (u12 43 8) := (congrFun (congrFun e3050 43) 8).trans (st_c (by decide))
        have : (0 : Int) ≤ (u12 43 8) ∧ (u12 43 8) ≤ 60 := g3047.1 43 8
        have : (u12 43 8) = (w 43 8) := g3046.2.1 43 8 rfl
        have : (0 : Int) ≤ (u14 43 32) ∧ (u14 43 32) ≤ 60 := g3051.1 43 32
        have : (u14 43 32) = (u12 43 32) := (congrFun (congrFun e3050 43) 32).trans (st_c (by decide))
        have : (0 : Int) ≤ (u12 43 32) ∧ (u12 43 32) ≤ 60 := g3047.1 43 32
        have : (u12 43 32) = (w 43 32) := g3046.2.1 43 32 rfl
        exact s_R_goWeek_187 ih g3051 (by omega) (by omega) (by omega) (by omega) (by omega) (by omega)
theorem s_R_goWeek_156 {b : Wd} {k44 : Int → Int → Int → Wd → Option (Int × Wd)} {Bk44 : Int} (hk44 : ∀ {w1 : Wd} {v1 v2 v3 : Int}, ((11 : Int) - v3) < Bk44 → G md_R_goWeek b w1 → ((-2147483648 : Int) ≤ v1 ∧ v1 ≤ 2147483647) → ((0 : Int) ≤ v2 ∧ v2 ≤ 1023) → ((0 : Int) ≤ v3 ∧ v3 ≤ 10) → ((w1 43 8) = ((b 43 8) + (1 : Int))) → ((w1 43 32) = ((b 43 32) + (1 : Int))) → OK (k44 v1 v2 v3 w1) (fun r u => ((-2147483648 : Int) ≤ r ∧ r ≤ 2147483647) ∧ G md_R_goWeek b u ∧ ((u 43 8) = ((b 43 8) + (1 : Int))) ∧ ((u 43 32) = ((b 43 32) + (1 : Int))))) {w : Wd} {v1 v2 v3 : Int} (hG : G md_R_goWeek b w) (i_v1 : ((-2147483648 : Int) ≤ v1 ∧ v1 ≤ 2147483647)) (i_v2 : ((0 : Int) ≤ v2 ∧ v2 ≤ 1023)) (i_v3 : ((0 : Int) ≤ v3 ∧ v3 ≤ 9)) (a_0 : ((w 43 8) = ((b 43 8) + (1 : Int)))) (a_1 : ((w 43 32) = ((b 43 32) + (1 : Int)))) (hBk44 : ((11 : Int) - v3) ≤ Bk44) : OK (f_R_goWeek_156 k44 v1 v2 v3 w) (fun r u => ((-2147483648 : Int) ≤ r ∧ r ≤ 2147483647) ∧ G md_R_goWeek b u ∧ ((u 43 8) = ((b 43 8) + (1 : Int))) ∧ ((u 43 32) = ((b 43 32) + (1 : Int)))) := by
  unfold f_R_goWeek_156
  have : (0 : Int) ≤ (w 43 8) ∧ (w 43 8) ≤ 60 := hG.1 43 8
  have : (0 : Int) ≤ (w 43 32) ∧ (w 43 32) ≤ 60 := hG.1 43 32
  have := w32_sp ((v3 + (1 : Int)))
  refine ok_let (fun x22 e3052 => ?_)
  have : (1 : Int) ≤ x22 ∧ x22 ≤ 10 := by omega
  exact hk44 (by omega) hG (by omega) (by omega) (by omega) (by omega) (by omega)
theorem s_R_goWeek_44 {b : Wd} : ∀ (n : Nat) {w : Wd} {v1 v2 v3 : Int}, ((11 : Int) - v3) < (n : Int) → G md_R_goWeek b w → ((-2147483648 : Int) ≤ v1 ∧ v1 ≤ 2147483647) → ((0 : Int) ≤ v2 ∧ v2 ≤ 1023) → ((0 : Int) ≤ v3 ∧ v3 ≤ 10) → ((w 43 8) = ((b 43 8) + (1 : Int))) → ((w 43 32) = ((b 43 32) + (1 : Int))) → OK (f_R_goWeek_44 n v1 v2 v3 w) (fun r u => ((-2147483648 : Int) ≤ r ∧ r ≤ 2147483647) ∧ G md_R_goWeek b u ∧ ((u 43 8) = ((b 43 8) + (1 : Int))) ∧ ((u 43 32) = ((b 43 32) + (1 : Int)))) := by
  intro n
  induction n with
  | zero =>
    intro w v1 v2 v3 hm hG i_v1 i_v2 i_v3 a_0 a_1
    exfalso
    omega
  | succ n ih =>
    intro w v1 v2 v3 hm hG i_v1 i_v2 i_v3 a_0 a_1
    rw [f_R_goWeek_44]
    have : (0 : Int) ≤ (w 43 8) ∧ (w 43 8) ≤ 60 := hG.1 43 8
    have : (0 : Int) ≤ (w 43 32) ∧ (w 43 32) ≤ 60 := hG.1 43 32
    have : (0 : Int) ≤ (w 43 0) ∧ (w 43 0) ≤ 10 := hG.1 43 0
    have : (w 43 0) = (b 43 0) := hG.2.1 43 0 rfl
    refine ok_ite (fun h3053 => ?_) (fun h3054 => ?_)
    · exact s_R_goWeek_164 FU (by have := eqFU; omega) hG (by omega) (by omega) (by omega) (by omega) (by omega)
    · refine ok_gd (by omega) ?_
      have : (-2147483648 : Int) ≤ (w 47 (v3).toNat) ∧ (w 47 (v3).toNat) ≤ 2147483647 := hG.1 47 (v3).toNat
      refine ok_jite (fun h3056 => ?_) (fun h3057 => ?_)
      · refine ok_jsome ?_
        refine ok_it (by decide) ?_
        exact s_R_goWeek_156 ih hG (by omega) (by omega) (by omega) (by omega) (by omega) (by omega)
      · refine ok_jite (fun h3058 => ?_) (fun h3059 => ?_)
        · refine ok_jsome ?_
          refine ok_it (by decide) ?_
          exact s_R_goWeek_156 ih hG (by omega) (by omega) (by omega) (by omega) (by omega) (by omega)
        · refine ok_jsome ?_
          refine ok_if (by decide) ?_
          refine ok_gd (by omega) ?_
          have : (-1 : Int) ≤ (w 58 (v3).toNat) ∧ (w 58 (v3).toNat) ≤ 9 := hG.1 58 (v3).toNat
          refine ok_ite (fun h3060 => ?_) (fun h3061 => ?_)
          · refine ok_gd (by omega) ?_
            refine ok_gd (by omega) ?_
            have := w32_sp (((w 47 (v3).toNat) + (1 : Int)))
            refine ok_lw (fun u23 e3062 => ?_)
            have g3063 : G md_R_goWeek b u23 := g_st hG e3062 rfl rfl (show (-2147483648 : Int) ≤ (w32 ((w 47 (v3).toNat) + (1 : Int))) ∧ (w32 ((w 47 (v3).toNat) + (1 : Int))) ≤ 2147483647 by omega)
            refine ok_gd (by omega) ?_
            have : (-2147483648 : Int) ≤ (u23 47 (v3).toNat) ∧ (u23 47 (v3).toNat) ≤ 2147483647 := g3063.1 47 (v3).toNat
            have : (u23 47 (v3).toNat) = (w32 ((w 47 (v3).toNat) + (1 : Int))) := (congrFun (congrFun e3062 47) (v3).toNat).trans (st_eq _ _ _ _)
            have := w32_sp (((u23 47 (v3).toNat) - (1 : Int)))
            have : (-2147483648 : Int) ≤ (u23 43 10) ∧ (u23 43 10) ≤ 2147483647 := g3063.1 43 10
            have : (u23 43 10) = (w 43 10) := (congrFun (congrFun e3062 43) 10).trans (st_c (by decide))
            have : (-2147483648 : Int) ≤ (w 43 10) ∧ (w 43 10) ≤ 2147483647 := hG.1 43 10
            have : (w 43 10) = (b 43 10) := hG.2.1 43 10 rfl
            refine ok_ite (fun h3064 => ?_) (fun h3065 => ?_)
            · have : (0 : Int) ≤ (u23 43 8) ∧ (u23 43 8) ≤ 60 := g3063.1 43 8
              have : (u23 43 8) = (w 43 8) := (congrFun (congrFun e3062 43) 8).trans (st_c (by decide))
              have : (0 : Int) ≤ (u23 43 32) ∧ (u23 43 32) ≤ 60 := g3063.1 43 32
              have : (u23 43 32) = (w 43 32) := (congrFun (congrFun e3062 43) 32).trans (st_c (by decide))
              exact s_R_goWeek_156 ih g3063 (by omega) (by omega) (by omega) (by omega) (by omega) (by omega)
            · refine ok_gd (by omega) ?_
              refine ok_lw (fun u24 e3066 => ?_)
              have g3067 : G md_R_goWeek b u24 := g_st g3063 e3066 rfl rfl (show (-2147483648 : Int) ≤ (4 : Int) ∧ (4 : Int) ≤ 2147483647 by omega)
              have : (0 : Int) ≤ (u24 43 8) ∧ (u24 43 8) ≤ 60 := g3067.1 43 8
              have : (u24 43 8) = (u23 43 8) := (congrFun (congrFun e3066 43) 8).trans (st_c (by decide))
              have : (0 : Int) ≤ (u23 43 8) ∧ (u23 43 8) ≤ 60 := g3063.1 43 8
              have : (u23 43 8) = (w 43 8) := (congrFun (congrFun e3062 43) 8).trans (st_c (by decide))
              have : (0 : Int) ≤ (u24 43 32) ∧ (u24 43 32) ≤ 60 := g3067.1 43 32
              have : (u24 43 32) = (u23 43 32) := (congrFun (congrFun e3066 43) 32).trans (st_c (by decide))
              have : (0 : Int) ≤ (u23 43 32) ∧ (u23 43 32) ≤ 60 := g3063.1 43 32
              have : (u23 43 32) = (w 43 32) := (congrFun (congrFun e3062 43) 32).trans (st_c (by decide))
              exact s_R_goWeek_156 ih g3067 (by omega) (by omega) (by omega) (by omega) (by omega) (by omega)
          · refine ok_gd (by omega) ?_
            refine ok_let (fun x17 e3068 => ?_)
            have : (0 : Int) ≤ x17 ∧ x17 ≤ 9 := by omega
            refine ok_gd (by omega) ?_
            refine ok_lw (fun u18 e3069 => ?_)
            have g3070 : G md_R_goWeek b u18 := g_st hG e3069 rfl rfl (show (-2147483648 : Int) ≤ (1 : Int) ∧ (1 : Int) ≤ 2147483647 by omega)
            refine ok_gd (by omega) ?_
            have : (0 : Int) ≤ (u18 44 (x17).toNat) ∧ (u18 44 (x17).toNat) ≤ 9 := g3070.1 44 (x17).toNat
            have : (u18 44 (x17).toNat) = (w 44 (x17).toNat) := (congrFun (congrFun e3069 44) (x17).toNat).trans (st_c (by decide))
            have : (0 : Int) ≤ (w 44 (x17).toNat) ∧ (w 44 (x17).toNat) ≤ 9 := hG.1 44 (x17).toNat
            have := w32_sp ((v1 + (u18 44 (x17).toNat)))
            refine ok_let (fun x19 e3071 => ?_)
            have : (-2147483648 : Int) ≤ x19 ∧ x19 ≤ 2147483647 := by omega
            refine ok_gd (by omega) ?_
            refine ok_lw (fun u20 e3072 => ?_)
            have g3073 : G md_R_goWeek b u20 := g_st g3070 e3072 rfl rfl (show (-1 : Int) ≤ v3 ∧ v3 ≤ 9 by omega)
            refine ok_gd (by omega) ?_
            have : (0 : Int) ≤ (u20 43 8) ∧ (u20 43 8) ≤ 60 := g3073.1 43 8
            have : (u20 43 8) = (u18 43 8) := (congrFun (congrFun e3072 43) 8).trans (st_c (by decide))
            have : (0 : Int) ≤ (u18 43 8) ∧ (u18 43 8) ≤ 60 := g3070.1 43 8
            have : (u18 43 8) = (w 43 8) := (congrFun (congrFun e3069 43) 8).trans (st_c (by decide))
            refine ok_lw (fun u21 e3074 => ?_)
            have g3075 : G md_R_goWeek b u21 := g_st g3073 e3074 rfl rfl (show (-2147483648 : Int) ≤ (u20 43 8) ∧ (u20 43 8) ≤ 2147483647 by omega)
            have : (0 : Int) ≤ (u21 43 8) ∧ (u21 43 8) ≤ 60 := g3075.1 43 8
            have : (u21 43 8) = (u20 43 8) := (congrFun (congrFun e3074 43) 8).trans (st_c (by decide))
            have : (0 : Int) ≤ (u21 43 32) ∧ (u21 43 32) ≤ 60 := g3075.1 43 32
            have : (u21 43 32) = (u20 43 32) := (congrFun (congrFun e3074 43) 32).trans (st_c (by decide))
            have : (0 : Int) ≤ (u20 43 32) ∧ (u20 43 32) ≤ 60 := g3073.1 43 32
            have : (u20 43 32) = (u18 43 32) := (congrFun (congrFun e3072 43) 32).trans (st_c (by decide))
            have : (0 : Int) ≤ (u18 43 32) ∧ (u18 43 32) ≤ 60 := g3070.1 43 32
            have : (u18 43 32) = (w 43 32) := (congrFun (congrFun e3069 43) 32).trans (st_c (by decide))
            exact s_R_goWeek_156 ih g3075 (by omega) (by omega) (by omega) (by omega) (by omega) (by omega)
theorem s_R_goWeek {w : Wd} (hG : G md_R_goWeek w w) (a_0 : ((w 43 8) ≤ (59 : Int))) (a_1 : ((w 43 32) ≤ (w 43 8))) : OK (f_R_goWeek w) (fun r u => ((-2147483648 : Int) ≤ r ∧ r ≤ 2147483647) ∧ G md_R_goWeek w u ∧ ((u 43 8) = ((w 43 8) + (1 : Int))) ∧ ((u 43 32) = ((w 43 32) + (1 : Int)))) := by
  unfold f_R_goWeek
  have : (0 : Int) ≤ (w 43 8) ∧ (w 43 8) ≤ 60 := hG.1 43 8
  have : (0 : Int) ≤ (w 43 32) ∧ (w 43 32) ≤ 60 := hG.1 43 32
  have := w32_sp (((31 : Int) * (w 43 32)))
  refine ok_call (s_R_lay_43_59 (g_self hG) (by omega) (by omega) (by omega)) (fun r1 u2 q => ?_)
  obtain ⟨i3076, g3077⟩ := q
  have g3078 : G md_R_goWeek w u2 := g_tr hG g3077 rfl
  have : (0 : Int) ≤ (u2 43 32) ∧ (u2 43 32) ≤ 60 := g3078.1 43 32
  have : (u2 43 32) = (w 43 32) := g3077.2.1 43 32 rfl
  have := w32_sp (((u2 43 32) + (1 : Int)))
  refine ok_lw (fun u3 e3079 => ?_)
  have g3080 : G md_R_goWeek w u3 := g_st g3078 e3079 rfl rfl (show (0 : Int) ≤ (w32 ((u2 43 32) + (1 : Int))) ∧ (w32 ((u2 43 32) + (1 : Int))) ≤ 60 by omega)
  have : (0 : Int) ≤ (u3 43 8) ∧ (u3 43 8) ≤ 60 := g3080.1 43 8
  have : (u3 43 8) = (u2 43 8) := (congrFun (congrFun e3079 43) 8).trans (st_k (by decide))
  have : (0 : Int) ≤ (u2 43 8) ∧ (u2 43 8) ≤ 60 := g3078.1 43 8
  have : (u2 43 8) = (w 43 8) := g3077.2.1 43 8 rfl
  have := w32_sp (((u3 43 8) + (1 : Int)))
  refine ok_lw (fun u4 e3081 => ?_)
  have g3082 : G md_R_goWeek w u4 := g_st g3080 e3081 rfl rfl (show (0 : Int) ≤ (w32 ((u3 43 8) + (1 : Int))) ∧ (w32 ((u3 43 8) + (1 : Int))) ≤ 60 by omega)
  refine ok_call (s_R_broughtNow (g_self g3082)) (fun r5 u6 q => ?_)
  obtain ⟨i3083, g3084⟩ := q
  have g3085 : G md_R_goWeek w u6 := g_tr g3082 g3084 rfl
  have : (0 : Int) ≤ (u6 43 8) ∧ (u6 43 8) ≤ 60 := g3085.1 43 8
  have : (u6 43 8) = (u4 43 8) := g3084.2.1 43 8 rfl
  have : (0 : Int) ≤ (u4 43 8) ∧ (u4 43 8) ≤ 60 := g3082.1 43 8
  have : (u4 43 8) = (w32 ((u3 43 8) + (1 : Int))) := (congrFun (congrFun e3081 43) 8).trans (st_eq _ _ _ _)
  have : (0 : Int) ≤ (u6 43 32) ∧ (u6 43 32) ≤ 60 := g3085.1 43 32
  have : (u6 43 32) = (u4 43 32) := g3084.2.1 43 32 rfl
  have : (0 : Int) ≤ (u4 43 32) ∧ (u4 43 32) ≤ 60 := g3082.1 43 32
  have : (u4 43 32) = (u3 43 32) := (congrFun (congrFun e3081 43) 32).trans (st_k (by decide))
  have : (0 : Int) ≤ (u3 43 32) ∧ (u3 43 32) ≤ 60 := g3080.1 43 32
  have : (u3 43 32) = (w32 ((u2 43 32) + (1 : Int))) := (congrFun (congrFun e3079 43) 32).trans (st_eq _ _ _ _)
  exact s_R_goWeek_44 FU (by have := eqFU; omega) g3085 (by omega) (by omega) (by omega) (by omega) (by omega)
theorem s_R_readLetter {w : Wd} (hG : G md_R_readLetter w w) (a_0 : (((w 43 17) = (52 : Int)) ∨ (((w 43 17) = (58 : Int)) ∧ ((w 43 19) ≤ (40 : Int))))) : OK (f_R_readLetter w) (fun r u => ((-225 : Int) ≤ r ∧ r ≤ 30) ∧ G md_R_readLetter w u ∧ ((((u 43 20) = (w 43 20)) ∧ (¬ ((u 43 21) = (-1 : Int)))) ∨ (((u 43 20) = ((w 43 20) + (1 : Int))) ∧ (((w 43 20) < (w 43 19)) ∧ (((w 43 20) < (w 43 18)) ∧ ((u 43 21) = (w 43 21))))))) := by
  unfold f_R_readLetter
  have : (0 : Int) ≤ (w 43 17) ∧ (w 43 17) ≤ 58 := hG.1 43 17
  have : (0 : Int) ≤ (w 43 19) ∧ (w 43 19) ≤ 76 := hG.1 43 19
  have : (-1 : Int) ≤ (w 43 21) ∧ (w 43 21) ≤ 80 := hG.1 43 21
  refine ok_jite (fun h3087 => ?_) (fun h3088 => ?_)
  · refine ok_jsome ?_
    refine ok_if (by decide) ?_
    refine ok_call (s_R_here (g_self hG) (by omega)) (fun r3 u4 q => ?_)
    obtain ⟨i3089, g3090, p3092⟩ := q
    have g3091 : G md_R_readLetter w u4 := g_tr hG g3090 rfl
    have : (0 : Int) ≤ (w 43 20) ∧ (w 43 20) ≤ 80 := hG.1 43 20
    have : (0 : Int) ≤ (w 43 18) ∧ (w 43 18) ≤ 80 := hG.1 43 18
    refine ok_jite (fun h3094 => ?_) (fun h3095 => ?_)
    · refine ok_jsome ?_
      refine ok_it (by decide) ?_
      have : (0 : Int) ≤ (u4 43 20) ∧ (u4 43 20) ≤ 80 := g3091.1 43 20
      have : (u4 43 20) = (w 43 20) := g3090.2.1 43 20 rfl
      refine ok_call (s_R_fault (g_self g3091) (by omega) (by omega)) (fun r8 u9 q => ?_)
      obtain ⟨i3096, g3097, p3099⟩ := q
      have g3098 : G md_R_readLetter w u9 := g_tr g3091 g3097 rfl
      have : (-1 : Int) ≤ (u9 43 21) ∧ (u9 43 21) ≤ 80 := g3098.1 43 21
      have : (0 : Int) ≤ (u9 43 20) ∧ (u9 43 20) ≤ 80 := g3098.1 43 20
      have : (u9 43 20) = (u4 43 20) := g3097.2.1 43 20 rfl
      exact ok_some ⟨by omega, g3098, (by omega)⟩
    · refine ok_jite (fun h3100 => ?_) (fun h3101 => ?_)
      · refine ok_jsome ?_
        refine ok_it (by decide) ?_
        have : (0 : Int) ≤ (u4 43 20) ∧ (u4 43 20) ≤ 80 := g3091.1 43 20
        have : (u4 43 20) = (w 43 20) := g3090.2.1 43 20 rfl
        refine ok_call (s_R_fault (g_self g3091) (by omega) (by omega)) (fun r8 u9 q => ?_)
        obtain ⟨i3102, g3103, p3105⟩ := q
        have g3104 : G md_R_readLetter w u9 := g_tr g3091 g3103 rfl
        have : (-1 : Int) ≤ (u9 43 21) ∧ (u9 43 21) ≤ 80 := g3104.1 43 21
        have : (0 : Int) ≤ (u9 43 20) ∧ (u9 43 20) ≤ 80 := g3104.1 43 20
        have : (u9 43 20) = (u4 43 20) := g3103.2.1 43 20 rfl
        exact ok_some ⟨by omega, g3104, (by omega)⟩
      · refine ok_jsome ?_
        refine ok_if (by decide) ?_
        have : (0 : Int) ≤ (u4 43 20) ∧ (u4 43 20) ≤ 80 := g3091.1 43 20
        have : (u4 43 20) = (w 43 20) := g3090.2.1 43 20 rfl
        have := w32_sp (((u4 43 20) + (1 : Int)))
        refine ok_lw (fun u7 e3106 => ?_)
        have g3107 : G md_R_readLetter w u7 := g_st g3091 e3106 rfl rfl (show (0 : Int) ≤ (w32 ((u4 43 20) + (1 : Int))) ∧ (w32 ((u4 43 20) + (1 : Int))) ≤ 80 by omega)
        have : (0 : Int) ≤ (u7 43 17) ∧ (u7 43 17) ≤ 58 := g3107.1 43 17
        have : (u7 43 17) = (u4 43 17) := (congrFun (congrFun e3106 43) 17).trans (st_k (by decide))
        have : (0 : Int) ≤ (u4 43 17) ∧ (u4 43 17) ≤ 58 := g3091.1 43 17
        have : (u4 43 17) = (w 43 17) := g3090.2.1 43 17 rfl
        refine ok_ite (fun h3108 => ?_) (fun h3109 => ?_)
        · have : (0 : Int) ≤ (u7 43 20) ∧ (u7 43 20) ≤ 80 := g3107.1 43 20
          have : (u7 43 20) = (w32 ((u4 43 20) + (1 : Int))) := (congrFun (congrFun e3106 43) 20).trans (st_eq _ _ _ _)
          have := w32_sp (((u7 43 20) - (1 : Int)))
          refine ok_gd (by omega) ?_
          have : (-128 : Int) ≤ (u7 51 ((w32 ((u7 43 20) - (1 : Int)))).toNat) ∧ (u7 51 ((w32 ((u7 43 20) - (1 : Int)))).toNat) ≤ 127 := g3107.1 51 ((w32 ((u7 43 20) - (1 : Int)))).toNat
          have : (u7 51 ((w32 ((u7 43 20) - (1 : Int)))).toNat) = (u4 51 ((w32 ((u7 43 20) - (1 : Int)))).toNat) := (congrFun (congrFun e3106 51) ((w32 ((u7 43 20) - (1 : Int)))).toNat).trans (st_c (by decide))
          have : (-128 : Int) ≤ (u4 51 ((w32 ((u7 43 20) - (1 : Int)))).toNat) ∧ (u4 51 ((w32 ((u7 43 20) - (1 : Int)))).toNat) ≤ 127 := g3091.1 51 ((w32 ((u7 43 20) - (1 : Int)))).toNat
          have := w32_sp (((u7 51 ((w32 ((u7 43 20) - (1 : Int)))).toNat) - (97 : Int)))
          have : (-1 : Int) ≤ (u7 43 21) ∧ (u7 43 21) ≤ 80 := g3107.1 43 21
          have : (u7 43 21) = (u4 43 21) := (congrFun (congrFun e3106 43) 21).trans (st_k (by decide))
          have : (-1 : Int) ≤ (u4 43 21) ∧ (u4 43 21) ≤ 80 := g3091.1 43 21
          have : (u4 43 21) = (w 43 21) := g3090.2.1 43 21 rfl
          exact ok_some ⟨by omega, g3107, (by omega)⟩
        · refine ok_ite (fun h3110 => ?_) (fun h3111 => ?_)
          · have : (0 : Int) ≤ (u7 43 20) ∧ (u7 43 20) ≤ 80 := g3107.1 43 20
            have : (u7 43 20) = (w32 ((u4 43 20) + (1 : Int))) := (congrFun (congrFun e3106 43) 20).trans (st_eq _ _ _ _)
            have := w32_sp (((u7 43 20) - (1 : Int)))
            refine ok_gd (by omega) ?_
            have : (-128 : Int) ≤ (u7 57 ((w32 ((u7 43 20) - (1 : Int)))).toNat) ∧ (u7 57 ((w32 ((u7 43 20) - (1 : Int)))).toNat) ≤ 127 := g3107.1 57 ((w32 ((u7 43 20) - (1 : Int)))).toNat
            have : (u7 57 ((w32 ((u7 43 20) - (1 : Int)))).toNat) = (u4 57 ((w32 ((u7 43 20) - (1 : Int)))).toNat) := (congrFun (congrFun e3106 57) ((w32 ((u7 43 20) - (1 : Int)))).toNat).trans (st_c (by decide))
            have : (-128 : Int) ≤ (u4 57 ((w32 ((u7 43 20) - (1 : Int)))).toNat) ∧ (u4 57 ((w32 ((u7 43 20) - (1 : Int)))).toNat) ≤ 127 := g3091.1 57 ((w32 ((u7 43 20) - (1 : Int)))).toNat
            have := w32_sp (((u7 57 ((w32 ((u7 43 20) - (1 : Int)))).toNat) - (97 : Int)))
            have : (-1 : Int) ≤ (u7 43 21) ∧ (u7 43 21) ≤ 80 := g3107.1 43 21
            have : (u7 43 21) = (u4 43 21) := (congrFun (congrFun e3106 43) 21).trans (st_k (by decide))
            have : (-1 : Int) ≤ (u4 43 21) ∧ (u4 43 21) ≤ 80 := g3091.1 43 21
            have : (u4 43 21) = (w 43 21) := g3090.2.1 43 21 rfl
            exact ok_some ⟨by omega, g3107, (by omega)⟩
          · exfalso; omega
  · refine ok_jsome ?_
    refine ok_it (by decide) ?_
    have : (0 : Int) ≤ (w 43 20) ∧ (w 43 20) ≤ 80 := hG.1 43 20
    exact ok_some ⟨by omega, hG, (by omega)⟩
theorem s_R_week_305 {b : Wd} {w : Wd} (hG : G md_R_week b w) (a_0 : ((w 43 32) ≤ (w 43 8))) (a_1 : ((w 43 8) ≤ (59 : Int))) (a_2 : ((w 43 13) = (0 : Int))) : OK (f_R_week_305 w) (fun r u => ((-2147483648 : Int) ≤ r ∧ r ≤ 2147483647) ∧ G md_R_week b u ∧ ((u 43 32) ≤ (u 43 8)) ∧ ((u 43 13) = (0 : Int))) := by
  unfold f_R_week_305
  have : (0 : Int) ≤ (w 43 32) ∧ (w 43 32) ≤ 60 := hG.1 43 32
  have : (0 : Int) ≤ (w 43 8) ∧ (w 43 8) ≤ 60 := hG.1 43 8
  have : (0 : Int) ≤ (w 43 13) ∧ (w 43 13) ≤ 80 := hG.1 43 13
  refine ok_call (s_R_goWeek (g_self hG) (by omega) (by omega)) (fun r9 u10 q => ?_)
  obtain ⟨i3112, g3113, p3115, p3116⟩ := q
  have g3114 : G md_R_week b u10 := g_tr hG g3113 rfl
  have : (0 : Int) ≤ (u10 43 8) ∧ (u10 43 8) ≤ 60 := g3114.1 43 8
  have : (0 : Int) ≤ (u10 43 32) ∧ (u10 43 32) ≤ 60 := g3114.1 43 32
  have : (0 : Int) ≤ (u10 43 13) ∧ (u10 43 13) ≤ 80 := g3114.1 43 13
  have : (u10 43 13) = (w 43 13) := g3113.2.1 43 13 rfl
  exact ok_some ⟨by omega, g3114, (by omega), (by omega)⟩
theorem s_R_week_259 {b : Wd} {k152 : Int → Int → Wd → Option (Int × Wd)} {Bk152 : Int} (hk152 : ∀ {w1 : Wd} {v1 v3 : Int}, ((41 : Int) - v3) < Bk152 → G md_R_week b w1 → ((0 : Int) ≤ v1 ∧ v1 ≤ 40) → ((0 : Int) ≤ v3 ∧ v3 ≤ 40) → ((w1 43 32) ≤ (w1 43 8)) → ((w1 43 8) ≤ (59 : Int)) → ((w1 43 13) = (0 : Int)) → OK (k152 v1 v3 w1) (fun r u => ((-2147483648 : Int) ≤ r ∧ r ≤ 2147483647) ∧ G md_R_week b u ∧ ((u 43 32) ≤ (u 43 8)) ∧ ((u 43 13) = (0 : Int)))) {w : Wd} {v1 v3 v4 v5 s0 : Int} (hG : G md_R_week b w) (i_v1 : ((1 : Int) ≤ v1 ∧ v1 ≤ 40)) (i_v3 : ((0 : Int) ≤ v3 ∧ v3 ≤ 39)) (i_v4 : ((-225 : Int) ≤ v4 ∧ v4 ≤ 30)) (i_v5 : ((-225 : Int) ≤ v5 ∧ v5 ≤ 30)) (i_s0 : ((0 : Int) ≤ s0 ∧ s0 ≤ 1)) (a_0 : ((s0 = (0 : Int)) ∨ (((0 : Int) ≤ v4) ∧ ((v4 ≤ (9 : Int)) ∧ (((0 : Int) ≤ v5) ∧ (v5 ≤ (9 : Int))))))) (a_1 : ((w 43 32) ≤ (w 43 8))) (a_2 : ((w 43 8) ≤ (59 : Int))) (a_3 : ((w 43 13) = (0 : Int))) (hBk152 : ((41 : Int) - v3) ≤ Bk152) : OK (f_R_week_259 k152 v1 v3 v4 v5 s0 w) (fun r u => ((-2147483648 : Int) ≤ r ∧ r ≤ 2147483647) ∧ G md_R_week b u ∧ ((u 43 32) ≤ (u 43 8)) ∧ ((u 43 13) = (0 : Int))) := by
  unfold f_R_week_259
  have : (0 : Int) ≤ (w 43 32) ∧ (w 43 32) ≤ 60 := hG.1 43 32
  have : (0 : Int) ≤ (w 43 8) ∧ (w 43 8) ≤ 60 := hG.1 43 8
  have : (0 : Int) ≤ (w 43 13) ∧ (w 43 13) ≤ 80 := hG.1 43 13
  refine ok_ite (fun h3117 => ?_) (fun h3118 => ?_)
  · have := w32_sp (((-100 : Int) - v3))
    exact ok_some ⟨by omega, hG, (by omega), (by omega)⟩
  · refine ok_gd (by omega) ?_
    refine ok_lw (fun u17 e3119 => ?_)
    have g3120 : G md_R_week b u17 := g_st hG e3119 rfl rfl (show (-1 : Int) ≤ v5 ∧ v5 ≤ 9 by omega)
    have := w32_sp ((v3 + (1 : Int)))
    refine ok_let (fun x18 e3121 => ?_)
    have : (1 : Int) ≤ x18 ∧ x18 ≤ 40 := by omega
    have : (0 : Int) ≤ (u17 43 32) ∧ (u17 43 32) ≤ 60 := g3120.1 43 32
    have : (u17 43 32) = (w 43 32) := (congrFun (congrFun e3119 43) 32).trans (st_c (by decide))
    have : (0 : Int) ≤ (u17 43 8) ∧ (u17 43 8) ≤ 60 := g3120.1 43 8
    have : (u17 43 8) = (w 43 8) := (congrFun (congrFun e3119 43) 8).trans (st_c (by decide))
    have : (0 : Int) ≤ (u17 43 13) ∧ (u17 43 13) ≤ 80 := g3120.1 43 13
    have : (u17 43 13) = (w 43 13) := (congrFun (congrFun e3119 43) 13).trans (st_c (by decide))
    exact hk152 (by omega) g3120 (by omega) (by omega) (by omega) (by omega) (by omega)
theorem s_R_week_258 {b : Wd} {k152 : Int → Int → Wd → Option (Int × Wd)} {Bk152 : Int} (hk152 : ∀ {w1 : Wd} {v1 v3 : Int}, ((41 : Int) - v3) < Bk152 → G md_R_week b w1 → ((0 : Int) ≤ v1 ∧ v1 ≤ 40) → ((0 : Int) ≤ v3 ∧ v3 ≤ 40) → ((w1 43 32) ≤ (w1 43 8)) → ((w1 43 8) ≤ (59 : Int)) → ((w1 43 13) = (0 : Int)) → OK (k152 v1 v3 w1) (fun r u => ((-2147483648 : Int) ≤ r ∧ r ≤ 2147483647) ∧ G md_R_week b u ∧ ((u 43 32) ≤ (u 43 8)) ∧ ((u 43 13) = (0 : Int)))) {w : Wd} {v1 v3 v4 v5 : Int} (hG : G md_R_week b w) (i_v1 : ((1 : Int) ≤ v1 ∧ v1 ≤ 40)) (i_v3 : ((0 : Int) ≤ v3 ∧ v3 ≤ 39)) (i_v4 : ((-225 : Int) ≤ v4 ∧ v4 ≤ 30)) (i_v5 : ((-225 : Int) ≤ v5 ∧ v5 ≤ 30)) (a_0 : ((w 43 32) ≤ (w 43 8))) (a_1 : ((w 43 8) ≤ (59 : Int))) (a_2 : ((w 43 13) = (0 : Int))) (hBk152 : ((41 : Int) - v3) ≤ Bk152) : OK (f_R_week_258 k152 v1 v3 v4 v5 w) (fun r u => ((-2147483648 : Int) ≤ r ∧ r ≤ 2147483647) ∧ G md_R_week b u ∧ ((u 43 32) ≤ (u 43 8)) ∧ ((u 43 13) = (0 : Int))) := by
  unfold f_R_week_258
  have : (0 : Int) ≤ (w 43 32) ∧ (w 43 32) ≤ 60 := hG.1 43 32
  have : (0 : Int) ≤ (w 43 8) ∧ (w 43 8) ≤ 60 := hG.1 43 8
  have : (0 : Int) ≤ (w 43 13) ∧ (w 43 13) ≤ 80 := hG.1 43 13
  exact s_R_week_259 hk152 hG (by omega) (by omega) (by omega) (by omega) (by omega) (by omega) (by omega) (by omega) (by omega) (by omega)
theorem s_R_week_152 {b : Wd} : ∀ (n : Nat) {w : Wd} {v1 v3 : Int}, ((41 : Int) - v3) < (n : Int) → G md_R_week b w → ((0 : Int) ≤ v1 ∧ v1 ≤ 40) → ((0 : Int) ≤ v3 ∧ v3 ≤ 40) → ((w 43 32) ≤ (w 43 8)) → ((w 43 8) ≤ (59 : Int)) → ((w 43 13) = (0 : Int)) → OK (f_R_week_152 n v1 v3 w) (fun r u => ((-2147483648 : Int) ≤ r ∧ r ≤ 2147483647) ∧ G md_R_week b u ∧ ((u 43 32) ≤ (u 43 8)) ∧ ((u 43 13) = (0 : Int))) := by
  intro n
  induction n with
  | zero =>
    intro w v1 v3 hm hG i_v1 i_v3 a_0 a_1 a_2
    exfalso
    omega
  | succ n ih =>
    intro w v1 v3 hm hG i_v1 i_v3 a_0 a_1 a_2
    rw [f_R_week_152]
    have : (0 : Int) ≤ (w 43 32) ∧ (w 43 32) ≤ 60 := hG.1 43 32
    have : (0 : Int) ≤ (w 43 8) ∧ (w 43 8) ≤ 60 := hG.1 43 8
    have : (0 : Int) ≤ (w 43 13) ∧ (w 43 13) ≤ 80 := hG.1 43 13
    refine ok_ite (fun h3122 => ?_) (fun h3123 => ?_)
    · refine ok_ite (fun h3124 => ?_) (fun h3125 => ?_)
      · exact s_R_week_305 hG (by omega) (by omega) (by omega)
      · refine ok_call (s_R_guestsThen (g_self hG)) (fun r11 u12 q => ?_)
        obtain ⟨i3126, g3127⟩ := q
        have g3128 : G md_R_week b u12 := g_tr hG g3127 rfl
        have : (-2147483648 : Int) ≤ (u12 43 11) ∧ (u12 43 11) ≤ 2147483647 := g3128.1 43 11
        have : (u12 43 11) = (w 43 11) := g3127.2.1 43 11 rfl
        have : (-2147483648 : Int) ≤ (w 43 11) ∧ (w 43 11) ≤ 2147483647 := hG.1 43 11
        have : (w 43 11) = (b 43 11) := hG.2.1 43 11 rfl
        refine ok_ite (fun h3129 => ?_) (fun h3130 => ?_)
        · have : (0 : Int) ≤ (u12 43 32) ∧ (u12 43 32) ≤ 60 := g3128.1 43 32
          have : (u12 43 32) = (w 43 32) := g3127.2.1 43 32 rfl
          have : (0 : Int) ≤ (u12 43 8) ∧ (u12 43 8) ≤ 60 := g3128.1 43 8
          have : (u12 43 8) = (w 43 8) := g3127.2.1 43 8 rfl
          have : (0 : Int) ≤ (u12 43 13) ∧ (u12 43 13) ≤ 80 := g3128.1 43 13
          have : (u12 43 13) = (w 43 13) := g3127.2.1 43 13 rfl
          exact s_R_week_305 g3128 (by omega) (by omega) (by omega)
        · have : (0 : Int) ≤ (u12 43 32) ∧ (u12 43 32) ≤ 60 := g3128.1 43 32
          have : (u12 43 32) = (w 43 32) := g3127.2.1 43 32 rfl
          have : (0 : Int) ≤ (u12 43 8) ∧ (u12 43 8) ≤ 60 := g3128.1 43 8
          have : (u12 43 8) = (w 43 8) := g3127.2.1 43 8 rfl
          have : (0 : Int) ≤ (u12 43 13) ∧ (u12 43 13) ≤ 80 := g3128.1 43 13
          have : (u12 43 13) = (w 43 13) := g3127.2.1 43 13 rfl
          exact ok_some ⟨by omega, g3128, (by omega), (by omega)⟩
    · refine ok_gd (by omega) ?_
      have : (-225 : Int) ≤ (w 60 (v3).toNat) ∧ (w 60 (v3).toNat) ≤ 30 := hG.1 60 (v3).toNat
      refine ok_let (fun x13 e3131 => ?_)
      have : (-225 : Int) ≤ x13 ∧ x13 ≤ 30 := by omega
      refine ok_gd (by omega) ?_
      have : (-225 : Int) ≤ (w 61 (v3).toNat) ∧ (w 61 (v3).toNat) ≤ 30 := hG.1 61 (v3).toNat
      refine ok_let (fun x14 e3132 => ?_)
      have : (-225 : Int) ≤ x14 ∧ x14 ≤ 30 := by omega
      refine ok_jj ?_
      refine ok_jite (fun h3135 => ?_) (fun h3136 => ?_)
      · refine ok_jsome ?_
        refine ok_jit (by decide) ?_
        refine ok_jsome ?_
        refine ok_it (by decide) ?_
        exact s_R_week_258 ih hG (by omega) (by omega) (by omega) (by omega) (by omega) (by omega) (by omega) (by omega)
      · have : (0 : Int) ≤ (w 43 0) ∧ (w 43 0) ≤ 10 := hG.1 43 0
        have : (w 43 0) = (b 43 0) := hG.2.1 43 0 rfl
        have := w32_sp (((w 43 0) - (1 : Int)))
        refine ok_jite (fun h3137 => ?_) (fun h3138 => ?_)
        · refine ok_jsome ?_
          refine ok_jit (by decide) ?_
          refine ok_jsome ?_
          refine ok_it (by decide) ?_
          exact s_R_week_258 ih hG (by omega) (by omega) (by omega) (by omega) (by omega) (by omega) (by omega) (by omega)
        · refine ok_jsome ?_
          refine ok_jit (by decide) ?_
          refine ok_jsome ?_
          refine ok_if (by decide) ?_
          refine ok_gd (by omega) ?_
          have : (-2147483648 : Int) ≤ (w 47 (x13).toNat) ∧ (w 47 (x13).toNat) ≤ 2147483647 := hG.1 47 (x13).toNat
          refine ok_jite (fun h3140 => ?_) (fun h3141 => ?_)
          · refine ok_jsome ?_
            refine ok_it (by decide) ?_
            exact s_R_week_258 ih hG (by omega) (by omega) (by omega) (by omega) (by omega) (by omega) (by omega) (by omega)
          · refine ok_jite (fun h3142 => ?_) (fun h3143 => ?_)
            · refine ok_jsome ?_
              refine ok_it (by decide) ?_
              exact s_R_week_258 ih hG (by omega) (by omega) (by omega) (by omega) (by omega) (by omega) (by omega) (by omega)
            · refine ok_jsome ?_
              refine ok_if (by decide) ?_
              refine ok_gd (by omega) ?_
              have : (-1 : Int) ≤ (w 58 (x13).toNat) ∧ (w 58 (x13).toNat) ≤ 9 := hG.1 58 (x13).toNat
              refine ok_ite (fun h3144 => ?_) (fun h3145 => ?_)
              · refine ok_jj ?_
                refine ok_jite (fun h3148 => ?_) (fun h3149 => ?_)
                · refine ok_jsome ?_
                  refine ok_jit (by decide) ?_
                  refine ok_jsome ?_
                  refine ok_it (by decide) ?_
                  exact s_R_week_258 ih hG (by omega) (by omega) (by omega) (by omega) (by omega) (by omega) (by omega) (by omega)
                · refine ok_jite (fun h3150 => ?_) (fun h3151 => ?_)
                  · refine ok_jsome ?_
                    refine ok_jit (by decide) ?_
                    refine ok_jsome ?_
                    refine ok_it (by decide) ?_
                    exact s_R_week_258 ih hG (by omega) (by omega) (by omega) (by omega) (by omega) (by omega) (by omega) (by omega)
                  · refine ok_jsome ?_
                    refine ok_jit (by decide) ?_
                    refine ok_jsome ?_
                    refine ok_if (by decide) ?_
                    refine ok_call (s_R_free (g_self hG)) (fun r23 u24 q => ?_)
                    obtain ⟨i3152, g3153⟩ := q
                    have g3154 : G md_R_week b u24 := g_tr hG g3153 rfl
                    refine ok_call (s_R_has (g_self g3154) (by omega) (by omega)) (fun r25 u26 q => ?_)
                    obtain ⟨i3155, g3156⟩ := q
                    have g3157 : G md_R_week b u26 := g_tr g3154 g3156 rfl
                    refine ok_ite (fun h3158 => ?_) (fun h3159 => ?_)
                    · have : (0 : Int) ≤ (u26 43 32) ∧ (u26 43 32) ≤ 60 := g3157.1 43 32
                      have : (u26 43 32) = (u24 43 32) := g3156.2.1 43 32 rfl
                      have : (0 : Int) ≤ (u24 43 32) ∧ (u24 43 32) ≤ 60 := g3154.1 43 32
                      have : (u24 43 32) = (w 43 32) := g3153.2.1 43 32 rfl
                      have : (0 : Int) ≤ (u26 43 8) ∧ (u26 43 8) ≤ 60 := g3157.1 43 8
                      have : (u26 43 8) = (u24 43 8) := g3156.2.1 43 8 rfl
                      have : (0 : Int) ≤ (u24 43 8) ∧ (u24 43 8) ≤ 60 := g3154.1 43 8
                      have : (u24 43 8) = (w 43 8) := g3153.2.1 43 8 rfl
                      have : (0 : Int) ≤ (u26 43 13) ∧ (u26 43 13) ≤ 80 := g3157.1 43 13
                      have : (u26 43 13) = (u24 43 13) := g3156.2.1 43 13 rfl
                      have : (0 : Int) ≤ (u24 43 13) ∧ (u24 43 13) ≤ 80 := g3154.1 43 13
                      have : (u24 43 13) = (w 43 13) := g3153.2.1 43 13 rfl
                      exact s_R_week_258 ih g3157 (by omega) (by omega) (by omega) (by omega) (by omega) (by omega) (by omega) (by omega)
                    · refine ok_gd (by omega) ?_
                      have : (0 : Int) ≤ (u26 45 (x13).toNat) ∧ (u26 45 (x13).toNat) ≤ 1023 := g3157.1 45 (x13).toNat
                      refine ok_call (s_R_has (g_self g3157) (by omega) (by omega)) (fun r27 u28 q => ?_)
                      obtain ⟨i3160, g3161⟩ := q
                      have g3162 : G md_R_week b u28 := g_tr g3157 g3161 rfl
                      refine ok_ite (fun h3163 => ?_) (fun h3164 => ?_)
                      · have : (0 : Int) ≤ (u28 43 32) ∧ (u28 43 32) ≤ 60 := g3162.1 43 32
                        have : (u28 43 32) = (u26 43 32) := g3161.2.1 43 32 rfl
                        have : (0 : Int) ≤ (u26 43 32) ∧ (u26 43 32) ≤ 60 := g3157.1 43 32
                        have : (u26 43 32) = (u24 43 32) := g3156.2.1 43 32 rfl
                        have : (0 : Int) ≤ (u24 43 32) ∧ (u24 43 32) ≤ 60 := g3154.1 43 32
                        have : (u24 43 32) = (w 43 32) := g3153.2.1 43 32 rfl
                        have : (0 : Int) ≤ (u28 43 8) ∧ (u28 43 8) ≤ 60 := g3162.1 43 8
                        have : (u28 43 8) = (u26 43 8) := g3161.2.1 43 8 rfl
                        have : (0 : Int) ≤ (u26 43 8) ∧ (u26 43 8) ≤ 60 := g3157.1 43 8
                        have : (u26 43 8) = (u24 43 8) := g3156.2.1 43 8 rfl
                        have : (0 : Int) ≤ (u24 43 8) ∧ (u24 43 8) ≤ 60 := g3154.1 43 8
                        have : (u24 43 8) = (w 43 8) := g3153.2.1 43 8 rfl
                        have : (0 : Int) ≤ (u28 43 13) ∧ (u28 43 13) ≤ 80 := g3162.1 43 13
                        have : (u28 43 13) = (u26 43 13) := g3161.2.1 43 13 rfl
                        have : (0 : Int) ≤ (u26 43 13) ∧ (u26 43 13) ≤ 80 := g3157.1 43 13
                        have : (u26 43 13) = (u24 43 13) := g3156.2.1 43 13 rfl
                        have : (0 : Int) ≤ (u24 43 13) ∧ (u24 43 13) ≤ 80 := g3154.1 43 13
                        have : (u24 43 13) = (w 43 13) := g3153.2.1 43 13 rfl
                        exact s_R_week_258 ih g3162 (by omega) (by omega) (by omega) (by omega) (by omega) (by omega) (by omega) (by omega)
                      · refine ok_call (s_R_broughtNow (g_self g3162)) (fun r29 u30 q => ?_)
                        obtain ⟨i3165, g3166⟩ := q
                        have g3167 : G md_R_week b u30 := g_tr g3162 g3166 rfl
                        refine ok_call (s_R_has (g_self g3167) (by omega) (by omega)) (fun r31 u32 q => ?_)
                        obtain ⟨i3168, g3169⟩ := q
                        have g3170 : G md_R_week b u32 := g_tr g3167 g3169 rfl
                        refine ok_ite (fun h3171 => ?_) (fun h3172 => ?_)
                        · have : (0 : Int) ≤ (u32 43 32) ∧ (u32 43 32) ≤ 60 := g3170.1 43 32
                          have : (u32 43 32) = (u30 43 32) := g3169.2.1 43 32 rfl
                          have : (0 : Int) ≤ (u30 43 32) ∧ (u30 43 32) ≤ 60 := g3167.1 43 32
                          have : (u30 43 32) = (u28 43 32) := g3166.2.1 43 32 rfl
                          have : (0 : Int) ≤ (u28 43 32) ∧ (u28 43 32) ≤ 60 := g3162.1 43 32
                          have : (u28 43 32) = (u26 43 32) := g3161.2.1 43 32 rfl
                          have : (0 : Int) ≤ (u26 43 32) ∧ (u26 43 32) ≤ 60 := g3157.1 43 32
                          have : (u26 43 32) = (u24 43 32) := g3156.2.1 43 32 rfl
                          have : (0 : Int) ≤ (u24 43 32) ∧ (u24 43 32) ≤ 60 := g3154.1 43 32
                          have : (u24 43 32) = (w 43 32) := g3153.2.1 43 32 rfl
                          have : (0 : Int) ≤ (u32 43 8) ∧ (u32 43 8) ≤ 60 := g3170.1 43 8
                          have : (u32 43 8) = (u30 43 8) := g3169.2.1 43 8 rfl
                          have : (0 : Int) ≤ (u30 43 8) ∧ (u30 43 8) ≤ 60 := g3167.1 43 8
                          have : (u30 43 8) = (u28 43 8) := g3166.2.1 43 8 rfl
                          have : (0 : Int) ≤ (u28 43 8) ∧ (u28 43 8) ≤ 60 := g3162.1 43 8
                          have : (u28 43 8) = (u26 43 8) := g3161.2.1 43 8 rfl
                          have : (0 : Int) ≤ (u26 43 8) ∧ (u26 43 8) ≤ 60 := g3157.1 43 8
                          have : (u26 43 8) = (u24 43 8) := g3156.2.1 43 8 rfl
                          have : (0 : Int) ≤ (u24 43 8) ∧ (u24 43 8) ≤ 60 := g3154.1 43 8
                          have : (u24 43 8) = (w 43 8) := g3153.2.1 43 8 rfl
                          have : (0 : Int) ≤ (u32 43 13) ∧ (u32 43 13) ≤ 80 := g3170.1 43 13
                          have : (u32 43 13) = (u30 43 13) := g3169.2.1 43 13 rfl
                          have : (0 : Int) ≤ (u30 43 13) ∧ (u30 43 13) ≤ 80 := g3167.1 43 13
                          have : (u30 43 13) = (u28 43 13) := g3166.2.1 43 13 rfl
                          have : (0 : Int) ≤ (u28 43 13) ∧ (u28 43 13) ≤ 80 := g3162.1 43 13
                          have : (u28 43 13) = (u26 43 13) := g3161.2.1 43 13 rfl
                          have : (0 : Int) ≤ (u26 43 13) ∧ (u26 43 13) ≤ 80 := g3157.1 43 13
                          have : (u26 43 13) = (u24 43 13) := g3156.2.1 43 13 rfl
                          have : (0 : Int) ≤ (u24 43 13) ∧ (u24 43 13) ≤ 80 := g3154.1 43 13
                          have : (u24 43 13) = (w 43 13) := g3153.2.1 43 13 rfl
                          exact s_R_week_259 ih g3170 (by omega) (by omega) (by omega) (by omega) (by omega) (by omega) (by omega) (by omega) (by omega) (by omega)
                        · have : (0 : Int) ≤ (u32 43 32) ∧ (u32 43 32) ≤ 60 := g3170.1 43 32
                          have : (u32 43 32) = (u30 43 32) := g3169.2.1 43 32 rfl
                          have : (0 : Int) ≤ (u30 43 32) ∧ (u30 43 32) ≤ 60 := g3167.1 43 32
                          have : (u30 43 32) = (u28 43 32) := g3166.2.1 43 32 rfl
                          have : (0 : Int) ≤ (u28 43 32) ∧ (u28 43 32) ≤ 60 := g3162.1 43 32
                          have : (u28 43 32) = (u26 43 32) := g3161.2.1 43 32 rfl
                          have : (0 : Int) ≤ (u26 43 32) ∧ (u26 43 32) ≤ 60 := g3157.1 43 32
                          have : (u26 43 32) = (u24 43 32) := g3156.2.1 43 32 rfl
                          have : (0 : Int) ≤ (u24 43 32) ∧ (u24 43 32) ≤ 60 := g3154.1 43 32
                          have : (u24 43 32) = (w 43 32) := g3153.2.1 43 32 rfl
                          have : (0 : Int) ≤ (u32 43 8) ∧ (u32 43 8) ≤ 60 := g3170.1 43 8
                          have : (u32 43 8) = (u30 43 8) := g3169.2.1 43 8 rfl
                          have : (0 : Int) ≤ (u30 43 8) ∧ (u30 43 8) ≤ 60 := g3167.1 43 8
                          have : (u30 43 8) = (u28 43 8) := g3166.2.1 43 8 rfl
                          have : (0 : Int) ≤ (u28 43 8) ∧ (u28 43 8) ≤ 60 := g3162.1 43 8
                          have : (u28 43 8) = (u26 43 8) := g3161.2.1 43 8 rfl
                          have : (0 : Int) ≤ (u26 43 8) ∧ (u26 43 8) ≤ 60 := g3157.1 43 8
                          have : (u26 43 8) = (u24 43 8) := g3156.2.1 43 8 rfl
                          have : (0 : Int) ≤ (u24 43 8) ∧ (u24 43 8) ≤ 60 := g3154.1 43 8
                          have : (u24 43 8) = (w 43 8) := g3153.2.1 43 8 rfl
                          have : (0 : Int) ≤ (u32 43 13) ∧ (u32 43 13) ≤ 80 := g3170.1 43 13
                          have : (u32 43 13) = (u30 43 13) := g3169.2.1 43 13 rfl
                          have : (0 : Int) ≤ (u30 43 13) ∧ (u30 43 13) ≤ 80 := g3167.1 43 13
                          have : (u30 43 13) = (u28 43 13) := g3166.2.1 43 13 rfl
                          have : (0 : Int) ≤ (u28 43 13) ∧ (u28 43 13) ≤ 80 := g3162.1 43 13
                          have : (u28 43 13) = (u26 43 13) := g3161.2.1 43 13 rfl
                          have : (0 : Int) ≤ (u26 43 13) ∧ (u26 43 13) ≤ 80 := g3157.1 43 13
                          have : (u26 43 13) = (u24 43 13) := g3156.2.1 43 13 rfl
                          have : (0 : Int) ≤ (u24 43 13) ∧ (u24 43 13) ≤ 80 := g3154.1 43 13
                          have : (u24 43 13) = (w 43 13) := g3153.2.1 43 13 rfl
                          exact s_R_week_258 ih g3170 (by omega) (by omega) (by omega) (by omega) (by omega) (by omega) (by omega) (by omega)
              · exact s_R_week_258 ih hG (by omega) (by omega) (by omega) (by omega) (by omega) (by omega) (by omega) (by omega)
theorem s_R_week_119 {b : Wd} {w : Wd} {v1 : Int} (hG : G md_R_week b w) (i_v1 : ((0 : Int) ≤ v1 ∧ v1 ≤ 40)) (a_0 : ((w 43 32) ≤ (w 43 8))) (a_1 : ((w 43 13) = (0 : Int))) : OK (f_R_week_119 v1 w) (fun r u => ((-2147483648 : Int) ≤ r ∧ r ≤ 2147483647) ∧ G md_R_week b u ∧ ((u 43 32) ≤ (u 43 8)) ∧ ((u 43 13) = (0 : Int))) := by
  unfold f_R_week_119
  have : (0 : Int) ≤ (w 43 32) ∧ (w 43 32) ≤ 60 := hG.1 43 32
  have : (0 : Int) ≤ (w 43 8) ∧ (w 43 8) ≤ 60 := hG.1 43 8
  have : (0 : Int) ≤ (w 43 13) ∧ (w 43 13) ≤ 80 := hG.1 43 13
  have : (-1 : Int) ≤ (w 43 21) ∧ (w 43 21) ≤ 80 := hG.1 43 21
  refine ok_jite (fun h3174 => ?_) (fun h3175 => ?_)
  · refine ok_jsome ?_
    refine ok_if (by decide) ?_
    refine ok_ite (fun h3176 => ?_) (fun h3177 => ?_)
    · exact ok_some ⟨by omega, hG, (by omega), (by omega)⟩
    · refine ok_call (s_R_nobody (g_self hG)) (fun r7 u8 q => ?_)
      obtain ⟨i3178, g3179⟩ := q
      have g3180 : G md_R_week b u8 := g_tr hG g3179 rfl
      have : (0 : Int) ≤ (u8 43 32) ∧ (u8 43 32) ≤ 60 := g3180.1 43 32
      have : (u8 43 32) = (w 43 32) := g3179.2.1 43 32 rfl
      have : (0 : Int) ≤ (u8 43 8) ∧ (u8 43 8) ≤ 60 := g3180.1 43 8
      have : (u8 43 8) = (w 43 8) := g3179.2.1 43 8 rfl
      have : (0 : Int) ≤ (u8 43 13) ∧ (u8 43 13) ≤ 80 := g3180.1 43 13
      have : (u8 43 13) = (w 43 13) := g3179.2.1 43 13 rfl
      exact s_R_week_152 FU (by have := eqFU; omega) g3180 (by omega) (by omega) (by omega) (by omega) (by omega)
  · refine ok_jsome ?_
    refine ok_it (by decide) ?_
    have := w32_sp (((-1 : Int) - (w 43 21)))
    exact ok_some ⟨by omega, hG, (by omega), (by omega)⟩
theorem s_R_week_100 {b : Wd} {w : Wd} {v1 : Int} (hG : G md_R_week b w) (i_v1 : ((0 : Int) ≤ v1 ∧ v1 ≤ 40)) (a_0 : ((w 43 32) ≤ (w 43 8))) (a_1 : ((w 43 13) = (0 : Int))) : OK (f_R_week_100 v1 w) (fun r u => ((-2147483648 : Int) ≤ r ∧ r ≤ 2147483647) ∧ G md_R_week b u ∧ ((u 43 32) ≤ (u 43 8)) ∧ ((u 43 13) = (0 : Int))) := by
  unfold f_R_week_100
  have : (0 : Int) ≤ (w 43 32) ∧ (w 43 32) ≤ 60 := hG.1 43 32
  have : (0 : Int) ≤ (w 43 8) ∧ (w 43 8) ≤ 60 := hG.1 43 8
  have : (0 : Int) ≤ (w 43 13) ∧ (w 43 13) ≤ 80 := hG.1 43 13
  have : (0 : Int) ≤ (w 43 18) ∧ (w 43 18) ≤ 80 := hG.1 43 18
  have : (0 : Int) ≤ (w 43 20) ∧ (w 43 20) ≤ 80 := hG.1 43 20
  refine ok_ite (fun h3181 => ?_) (fun h3182 => ?_)
  · exact s_R_week_119 hG (by omega) (by omega) (by omega)
  · refine ok_call (s_R_fault (g_self hG) (by omega) (by omega)) (fun r33 u34 q => ?_)
    obtain ⟨i3183, g3184, p3186⟩ := q
    have g3185 : G md_R_week b u34 := g_tr hG g3184 rfl
    have : (-1 : Int) ≤ (u34 43 21) ∧ (u34 43 21) ≤ 80 := g3185.1 43 21
    have : (0 : Int) ≤ (u34 43 32) ∧ (u34 43 32) ≤ 60 := g3185.1 43 32
    have : (u34 43 32) = (w 43 32) := g3184.2.1 43 32 rfl
    have : (0 : Int) ≤ (u34 43 8) ∧ (u34 43 8) ≤ 60 := g3185.1 43 8
    have : (u34 43 8) = (w 43 8) := g3184.2.1 43 8 rfl
    have : (0 : Int) ≤ (u34 43 13) ∧ (u34 43 13) ≤ 80 := g3185.1 43 13
    have : (u34 43 13) = (w 43 13) := g3184.2.1 43 13 rfl
    exact s_R_week_119 g3185 (by omega) (by omega) (by omega)
theorem s_R_week_77 {b : Wd} {k39 : Int → Int → Wd → Option (Int × Wd)} {Bk39 : Int} (hk39 : ∀ {w1 : Wd} {v1 v2 : Int}, ((41 : Int) - v1) < Bk39 → G md_R_week b w1 → ((0 : Int) ≤ v1 ∧ v1 ≤ 40) → ((0 : Int) ≤ v2 ∧ v2 ≤ 1) → ((w1 43 17) = (52 : Int)) → ((w1 43 19) = (40 : Int)) → ((w1 43 20) ≤ (40 : Int)) → ((v2 = (0 : Int)) ∨ (((4 : Int) * v1) ≤ (w1 43 20))) → ((w1 43 32) ≤ (w1 43 8)) → ((w1 43 13) = (0 : Int)) → OK (k39 v1 v2 w1) (fun r u => ((-2147483648 : Int) ≤ r ∧ r ≤ 2147483647) ∧ G md_R_week b u ∧ ((u 43 32) ≤ (u 43 8)) ∧ ((u 43 13) = (0 : Int)))) {w : Wd} {v1 : Int} (hG : G md_R_week b w) (i_v1 : ((0 : Int) ≤ v1 ∧ v1 ≤ 39)) (a_0 : ((w 43 17) = (52 : Int))) (a_1 : ((w 43 19) = (40 : Int))) (a_2 : ((w 43 20) ≤ (40 : Int))) (a_3 : ((¬ ((w 43 21) = (-1 : Int))) ∨ ((((4 : Int) * v1) + (2 : Int)) ≤ (w 43 20)))) (a_4 : (v1 ≤ (10 : Int))) (a_5 : ((w 43 32) ≤ (w 43 8))) (a_6 : ((w 43 13) = (0 : Int))) (hBk39 : ((41 : Int) - v1) ≤ Bk39) : OK (f_R_week_77 k39 v1 w) (fun r u => ((-2147483648 : Int) ≤ r ∧ r ≤ 2147483647) ∧ G md_R_week b u ∧ ((u 43 32) ≤ (u 43 8)) ∧ ((u 43 13) = (0 : Int))) := by
  unfold f_R_week_77
  have : (0 : Int) ≤ (w 43 17) ∧ (w 43 17) ≤ 58 := hG.1 43 17
  have : (0 : Int) ≤ (w 43 19) ∧ (w 43 19) ≤ 76 := hG.1 43 19
  have : (0 : Int) ≤ (w 43 20) ∧ (w 43 20) ≤ 80 := hG.1 43 20
  have : (-1 : Int) ≤ (w 43 21) ∧ (w 43 21) ≤ 80 := hG.1 43 21
  have : (0 : Int) ≤ (w 43 32) ∧ (w 43 32) ≤ 60 := hG.1 43 32
  have : (0 : Int) ≤ (w 43 8) ∧ (w 43 8) ≤ 60 := hG.1 43 8
  have : (0 : Int) ≤ (w 43 13) ∧ (w 43 13) ≤ 80 := hG.1 43 13
  refine ok_call (s_R_readLetter (g_self hG) (by omega)) (fun r42 u43 q => ?_)
  obtain ⟨i3187, g3188, p3190⟩ := q
  have g3189 : G md_R_week b u43 := g_tr hG g3188 rfl
  have : (0 : Int) ≤ (u43 43 20) ∧ (u43 43 20) ≤ 80 := g3189.1 43 20
  have : (-1 : Int) ≤ (u43 43 21) ∧ (u43 43 21) ≤ 80 := g3189.1 43 21
  have : (0 : Int) ≤ (w 43 18) ∧ (w 43 18) ≤ 80 := hG.1 43 18
  refine ok_gd (by omega) ?_
  refine ok_lw (fun u44 e3191 => ?_)
  have g3192 : G md_R_week b u44 := g_st g3189 e3191 rfl rfl (show (-225 : Int) ≤ r42 ∧ r42 ≤ 30 by omega)
  have := w32_sp ((v1 + (1 : Int)))
  refine ok_let (fun x45 e3193 => ?_)
  have : (1 : Int) ≤ x45 ∧ x45 ≤ 40 := by omega
  have : (0 : Int) ≤ (u44 43 17) ∧ (u44 43 17) ≤ 58 := g3192.1 43 17
  have : (u44 43 17) = (u43 43 17) := (congrFun (congrFun e3191 43) 17).trans (st_c (by decide))
  have : (0 : Int) ≤ (u43 43 17) ∧ (u43 43 17) ≤ 58 := g3189.1 43 17
  have : (u43 43 17) = (w 43 17) := g3188.2.1 43 17 rfl
  have : (0 : Int) ≤ (u44 43 19) ∧ (u44 43 19) ≤ 76 := g3192.1 43 19
  have : (u44 43 19) = (u43 43 19) := (congrFun (congrFun e3191 43) 19).trans (st_c (by decide))
  have : (0 : Int) ≤ (u43 43 19) ∧ (u43 43 19) ≤ 76 := g3189.1 43 19
  have : (u43 43 19) = (w 43 19) := g3188.2.1 43 19 rfl
  refine ok_call (s_R_passes (g_self g3192) (by omega) (by omega) (by omega)) (fun r46 u47 q => ?_)
  obtain ⟨i3194, g3195, p3197⟩ := q
  have g3196 : G md_R_week b u47 := g_tr g3192 g3195 rfl
  have : (0 : Int) ≤ (u47 43 20) ∧ (u47 43 20) ≤ 80 := g3196.1 43 20
  have : (0 : Int) ≤ (u44 43 20) ∧ (u44 43 20) ≤ 80 := g3192.1 43 20
  have : (u44 43 20) = (u43 43 20) := (congrFun (congrFun e3191 43) 20).trans (st_c (by decide))
  have : (-1 : Int) ≤ (u44 43 21) ∧ (u44 43 21) ≤ 80 := g3192.1 43 21
  have : (u44 43 21) = (u43 43 21) := (congrFun (congrFun e3191 43) 21).trans (st_c (by decide))
  have : (0 : Int) ≤ (u44 43 18) ∧ (u44 43 18) ≤ 80 := g3192.1 43 18
  have : (u44 43 18) = (u43 43 18) := (congrFun (congrFun e3191 43) 18).trans (st_c (by decide))
  have : (0 : Int) ≤ (u43 43 18) ∧ (u43 43 18) ≤ 80 := g3189.1 43 18
  have : (u43 43 18) = (w 43 18) := g3188.2.1 43 18 rfl
  have : (0 : Int) ≤ (u47 43 17) ∧ (u47 43 17) ≤ 58 := g3196.1 43 17
  have : (u47 43 17) = (u44 43 17) := g3195.2.1 43 17 rfl
  have : (0 : Int) ≤ (u47 43 19) ∧ (u47 43 19) ≤ 76 := g3196.1 43 19
  have : (u47 43 19) = (u44 43 19) := g3195.2.1 43 19 rfl
  have : (0 : Int) ≤ (u47 43 32) ∧ (u47 43 32) ≤ 60 := g3196.1 43 32
  have : (u47 43 32) = (u44 43 32) := g3195.2.1 43 32 rfl
  have : (0 : Int) ≤ (u44 43 32) ∧ (u44 43 32) ≤ 60 := g3192.1 43 32
  have : (u44 43 32) = (u43 43 32) := (congrFun (congrFun e3191 43) 32).trans (st_c (by decide))
  have : (0 : Int) ≤ (u43 43 32) ∧ (u43 43 32) ≤ 60 := g3189.1 43 32
  have : (u43 43 32) = (w 43 32) := g3188.2.1 43 32 rfl
  have : (0 : Int) ≤ (u47 43 8) ∧ (u47 43 8) ≤ 60 := g3196.1 43 8
  have : (u47 43 8) = (u44 43 8) := g3195.2.1 43 8 rfl
  have : (0 : Int) ≤ (u44 43 8) ∧ (u44 43 8) ≤ 60 := g3192.1 43 8
  have : (u44 43 8) = (u43 43 8) := (congrFun (congrFun e3191 43) 8).trans (st_c (by decide))
  have : (0 : Int) ≤ (u43 43 8) ∧ (u43 43 8) ≤ 60 := g3189.1 43 8
  have : (u43 43 8) = (w 43 8) := g3188.2.1 43 8 rfl
  have : (0 : Int) ≤ (u47 43 13) ∧ (u47 43 13) ≤ 80 := g3196.1 43 13
  have : (u47 43 13) = (u44 43 13) := g3195.2.1 43 13 rfl
  have : (0 : Int) ≤ (u44 43 13) ∧ (u44 43 13) ≤ 80 := g3192.1 43 13
  have : (u44 43 13) = (u43 43 13) := (congrFun (congrFun e3191 43) 13).trans (st_c (by decide))
  have : (0 : Int) ≤ (u43 43 13) ∧ (u43 43 13) ≤ 80 := g3189.1 43 13
  have : (u43 43 13) = (w 43 13) := g3188.2.1 43 13 rfl
  exact hk39 (by omega) g3196 (by omega) (by omega) (by omega) (by omega) (by omega) (by omega) (by omega) (by omega)
theorem s_R_week_39 {b : Wd} : ∀ (n : Nat) {w : Wd} {v1 v2 : Int}, ((41 : Int) - v1) < (n : Int) → G md_R_week b w → ((0 : Int) ≤ v1 ∧ v1 ≤ 40) → ((0 : Int) ≤ v2 ∧ v2 ≤ 1) → ((w 43 17) = (52 : Int)) → ((w 43 19) = (40 : Int)) → ((w 43 20) ≤ (40 : Int)) → ((v2 = (0 : Int)) ∨ (((4 : Int) * v1) ≤ (w 43 20))) → ((w 43 32) ≤ (w 43 8)) → ((w 43 13) = (0 : Int)) → OK (f_R_week_39 n v1 v2 w) (fun r u => ((-2147483648 : Int) ≤ r ∧ r ≤ 2147483647) ∧ G md_R_week b u ∧ ((u 43 32) ≤ (u 43 8)) ∧ ((u 43 13) = (0 : Int))) := by
  intro n
  induction n with
  | zero =>
    intro w v1 v2 hm hG i_v1 i_v2 a_0 a_1 a_2 a_3 a_4 a_5
    exfalso
    omega
  | succ n ih =>
    intro w v1 v2 hm hG i_v1 i_v2 a_0 a_1 a_2 a_3 a_4 a_5
    rw [f_R_week_39]
    have : (0 : Int) ≤ (w 43 17) ∧ (w 43 17) ≤ 58 := hG.1 43 17
    have : (0 : Int) ≤ (w 43 19) ∧ (w 43 19) ≤ 76 := hG.1 43 19
    have : (0 : Int) ≤ (w 43 20) ∧ (w 43 20) ≤ 80 := hG.1 43 20
    have : (0 : Int) ≤ (w 43 32) ∧ (w 43 32) ≤ 60 := hG.1 43 32
    have : (0 : Int) ≤ (w 43 8) ∧ (w 43 8) ≤ 60 := hG.1 43 8
    have : (0 : Int) ≤ (w 43 13) ∧ (w 43 13) ≤ 80 := hG.1 43 13
    refine ok_ite (fun h3198 => ?_) (fun h3199 => ?_)
    · exact s_R_week_100 hG (by omega) (by omega) (by omega)
    · have : (-1 : Int) ≤ (w 43 21) ∧ (w 43 21) ≤ 80 := hG.1 43 21
      refine ok_jite (fun h3201 => ?_) (fun h3202 => ?_)
      · refine ok_jsome ?_
        refine ok_if (by decide) ?_
        refine ok_call (s_R_readLetter (g_self hG) (by omega)) (fun r37 u38 q => ?_)
        obtain ⟨i3203, g3204, p3206⟩ := q
        have g3205 : G md_R_week b u38 := g_tr hG g3204 rfl
        have : (0 : Int) ≤ (u38 43 20) ∧ (u38 43 20) ≤ 80 := g3205.1 43 20
        have : (-1 : Int) ≤ (u38 43 21) ∧ (u38 43 21) ≤ 80 := g3205.1 43 21
        have : (0 : Int) ≤ (w 43 18) ∧ (w 43 18) ≤ 80 := hG.1 43 18
        refine ok_gd (by omega) ?_
        refine ok_lw (fun u39 e3207 => ?_)
        have g3208 : G md_R_week b u39 := g_st g3205 e3207 rfl rfl (show (-225 : Int) ≤ r37 ∧ r37 ≤ 30 by omega)
        have : (0 : Int) ≤ (u39 43 17) ∧ (u39 43 17) ≤ 58 := g3208.1 43 17
        have : (u39 43 17) = (u38 43 17) := (congrFun (congrFun e3207 43) 17).trans (st_c (by decide))
        have : (0 : Int) ≤ (u38 43 17) ∧ (u38 43 17) ≤ 58 := g3205.1 43 17
        have : (u38 43 17) = (w 43 17) := g3204.2.1 43 17 rfl
        have : (0 : Int) ≤ (u39 43 19) ∧ (u39 43 19) ≤ 76 := g3208.1 43 19
        have : (u39 43 19) = (u38 43 19) := (congrFun (congrFun e3207 43) 19).trans (st_c (by decide))
        have : (0 : Int) ≤ (u38 43 19) ∧ (u38 43 19) ≤ 76 := g3205.1 43 19
        have : (u38 43 19) = (w 43 19) := g3204.2.1 43 19 rfl
        refine ok_call (s_R_passes (g_self g3208) (by omega) (by omega) (by omega)) (fun r40 u41 q => ?_)
        obtain ⟨i3209, g3210, p3212⟩ := q
        have g3211 : G md_R_week b u41 := g_tr g3208 g3210 rfl
        have : (0 : Int) ≤ (u41 43 20) ∧ (u41 43 20) ≤ 80 := g3211.1 43 20
        have : (0 : Int) ≤ (u39 43 20) ∧ (u39 43 20) ≤ 80 := g3208.1 43 20
        have : (u39 43 20) = (u38 43 20) := (congrFun (congrFun e3207 43) 20).trans (st_c (by decide))
        have : (-1 : Int) ≤ (u39 43 21) ∧ (u39 43 21) ≤ 80 := g3208.1 43 21
        have : (u39 43 21) = (u38 43 21) := (congrFun (congrFun e3207 43) 21).trans (st_c (by decide))
        have : (0 : Int) ≤ (u39 43 18) ∧ (u39 43 18) ≤ 80 := g3208.1 43 18
        have : (u39 43 18) = (u38 43 18) := (congrFun (congrFun e3207 43) 18).trans (st_c (by decide))
        have : (0 : Int) ≤ (u38 43 18) ∧ (u38 43 18) ≤ 80 := g3205.1 43 18
        have : (u38 43 18) = (w 43 18) := g3204.2.1 43 18 rfl
        refine ok_ite (fun h3213 => ?_) (fun h3214 => ?_)
        · refine ok_call (s_R_fault (g_self g3211) (by omega) (by omega)) (fun r48 u49 q => ?_)
          obtain ⟨i3215, g3216, p3218⟩ := q
          have g3217 : G md_R_week b u49 := g_tr g3211 g3216 rfl
          have : (-1 : Int) ≤ (u49 43 21) ∧ (u49 43 21) ≤ 80 := g3217.1 43 21
          have : (0 : Int) ≤ (u49 43 17) ∧ (u49 43 17) ≤ 58 := g3217.1 43 17
          have : (u49 43 17) = (u41 43 17) := g3216.2.1 43 17 rfl
          have : (0 : Int) ≤ (u41 43 17) ∧ (u41 43 17) ≤ 58 := g3211.1 43 17
          have : (u41 43 17) = (u39 43 17) := g3210.2.1 43 17 rfl
          have : (0 : Int) ≤ (u49 43 19) ∧ (u49 43 19) ≤ 76 := g3217.1 43 19
          have : (u49 43 19) = (u41 43 19) := g3216.2.1 43 19 rfl
          have : (0 : Int) ≤ (u41 43 19) ∧ (u41 43 19) ≤ 76 := g3211.1 43 19
          have : (u41 43 19) = (u39 43 19) := g3210.2.1 43 19 rfl
          have : (0 : Int) ≤ (u49 43 20) ∧ (u49 43 20) ≤ 80 := g3217.1 43 20
          have : (u49 43 20) = (u41 43 20) := g3216.2.1 43 20 rfl
          have : (0 : Int) ≤ (u49 43 32) ∧ (u49 43 32) ≤ 60 := g3217.1 43 32
          have : (u49 43 32) = (u41 43 32) := g3216.2.1 43 32 rfl
          have : (0 : Int) ≤ (u41 43 32) ∧ (u41 43 32) ≤ 60 := g3211.1 43 32
          have : (u41 43 32) = (u39 43 32) := g3210.2.1 43 32 rfl
          have : (0 : Int) ≤ (u39 43 32) ∧ (u39 43 32) ≤ 60 := g3208.1 43 32
          have : (u39 43 32) = (u38 43 32) := (congrFun (congrFun e3207 43) 32).trans (st_c (by decide))
          have : (0 : Int) ≤ (u38 43 32) ∧ (u38 43 32) ≤ 60 := g3205.1 43 32
          have : (u38 43 32) = (w 43 32) := g3204.2.1 43 32 rfl
          have : (0 : Int) ≤ (u49 43 8) ∧ (u49 43 8) ≤ 60 := g3217.1 43 8
          have : (u49 43 8) = (u41 43 8) := g3216.2.1 43 8 rfl
          have : (0 : Int) ≤ (u41 43 8) ∧ (u41 43 8) ≤ 60 := g3211.1 43 8
          have : (u41 43 8) = (u39 43 8) := g3210.2.1 43 8 rfl
          have : (0 : Int) ≤ (u39 43 8) ∧ (u39 43 8) ≤ 60 := g3208.1 43 8
          have : (u39 43 8) = (u38 43 8) := (congrFun (congrFun e3207 43) 8).trans (st_c (by decide))
          have : (0 : Int) ≤ (u38 43 8) ∧ (u38 43 8) ≤ 60 := g3205.1 43 8
          have : (u38 43 8) = (w 43 8) := g3204.2.1 43 8 rfl
          have : (0 : Int) ≤ (u49 43 13) ∧ (u49 43 13) ≤ 80 := g3217.1 43 13
          have : (u49 43 13) = (u41 43 13) := g3216.2.1 43 13 rfl
          have : (0 : Int) ≤ (u41 43 13) ∧ (u41 43 13) ≤ 80 := g3211.1 43 13
          have : (u41 43 13) = (u39 43 13) := g3210.2.1 43 13 rfl
          have : (0 : Int) ≤ (u39 43 13) ∧ (u39 43 13) ≤ 80 := g3208.1 43 13
          have : (u39 43 13) = (u38 43 13) := (congrFun (congrFun e3207 43) 13).trans (st_c (by decide))
          have : (0 : Int) ≤ (u38 43 13) ∧ (u38 43 13) ≤ 80 := g3205.1 43 13
          have : (u38 43 13) = (w 43 13) := g3204.2.1 43 13 rfl
          exact s_R_week_77 ih g3217 (by omega) (by omega) (by omega) (by omega) (by omega) (by omega) (by omega) (by omega) (by omega)
        · have : (0 : Int) ≤ (u41 43 17) ∧ (u41 43 17) ≤ 58 := g3211.1 43 17
          have : (u41 43 17) = (u39 43 17) := g3210.2.1 43 17 rfl
          have : (0 : Int) ≤ (u41 43 19) ∧ (u41 43 19) ≤ 76 := g3211.1 43 19
          have : (u41 43 19) = (u39 43 19) := g3210.2.1 43 19 rfl
          have : (-1 : Int) ≤ (u41 43 21) ∧ (u41 43 21) ≤ 80 := g3211.1 43 21
          have : (u41 43 21) = (u39 43 21) := g3210.2.1 43 21 rfl
          have : (0 : Int) ≤ (u41 43 32) ∧ (u41 43 32) ≤ 60 := g3211.1 43 32
          have : (u41 43 32) = (u39 43 32) := g3210.2.1 43 32 rfl
          have : (0 : Int) ≤ (u39 43 32) ∧ (u39 43 32) ≤ 60 := g3208.1 43 32
          have : (u39 43 32) = (u38 43 32) := (congrFun (congrFun e3207 43) 32).trans (st_c (by decide))
          have : (0 : Int) ≤ (u38 43 32) ∧ (u38 43 32) ≤ 60 := g3205.1 43 32
          have : (u38 43 32) = (w 43 32) := g3204.2.1 43 32 rfl
          have : (0 : Int) ≤ (u41 43 8) ∧ (u41 43 8) ≤ 60 := g3211.1 43 8
          have : (u41 43 8) = (u39 43 8) := g3210.2.1 43 8 rfl
          have : (0 : Int) ≤ (u39 43 8) ∧ (u39 43 8) ≤ 60 := g3208.1 43 8
          have : (u39 43 8) = (u38 43 8) := (congrFun (congrFun e3207 43) 8).trans (st_c (by decide))
          have : (0 : Int) ≤ (u38 43 8) ∧ (u38 43 8) ≤ 60 := g3205.1 43 8
          have : (u38 43 8) = (w 43 8) := g3204.2.1 43 8 rfl
          have : (0 : Int) ≤ (u41 43 13) ∧ (u41 43 13) ≤ 80 := g3211.1 43 13
          have : (u41 43 13) = (u39 43 13) := g3210.2.1 43 13 rfl
          have : (0 : Int) ≤ (u39 43 13) ∧ (u39 43 13) ≤ 80 := g3208.1 43 13
          have : (u39 43 13) = (u38 43 13) := (congrFun (congrFun e3207 43) 13).trans (st_c (by decide))
          have : (0 : Int) ≤ (u38 43 13) ∧ (u38 43 13) ≤ 80 := g3205.1 43 13
          have : (u38 43 13) = (w 43 13) := g3204.2.1 43 13 rfl
          exact s_R_week_77 ih g3211 (by omega) (by omega) (by omega) (by omega) (by omega) (by omega) (by omega) (by omega) (by omega)
      · refine ok_jsome ?_
        refine ok_it (by decide) ?_
        exact s_R_week_100 hG (by omega) (by omega) (by omega)
theorem s_R_week_38 {b : Wd} {w : Wd} {v1 s0 : Int} (hG : G md_R_week b w) (i_v1 : ((0 : Int) ≤ v1 ∧ v1 ≤ 0)) (i_s0 : ((0 : Int) ≤ s0 ∧ s0 ≤ 1)) (a_0 : ((w 43 17) = (52 : Int))) (a_1 : ((w 43 19) = (40 : Int))) (a_2 : ((w 43 20) ≤ (40 : Int))) (a_3 : ((s0 = (0 : Int)) ∨ (((4 : Int) * v1) ≤ (w 43 20)))) (a_4 : ((w 43 32) ≤ (w 43 8))) (a_5 : ((w 43 13) = (0 : Int))) : OK (f_R_week_38 v1 s0 w) (fun r u => ((-2147483648 : Int) ≤ r ∧ r ≤ 2147483647) ∧ G md_R_week b u ∧ ((u 43 32) ≤ (u 43 8)) ∧ ((u 43 13) = (0 : Int))) := by
  unfold f_R_week_38
  have : (0 : Int) ≤ (w 43 17) ∧ (w 43 17) ≤ 58 := hG.1 43 17
  have : (0 : Int) ≤ (w 43 19) ∧ (w 43 19) ≤ 76 := hG.1 43 19
  have : (0 : Int) ≤ (w 43 20) ∧ (w 43 20) ≤ 80 := hG.1 43 20
  have : (0 : Int) ≤ (w 43 32) ∧ (w 43 32) ≤ 60 := hG.1 43 32
  have : (0 : Int) ≤ (w 43 8) ∧ (w 43 8) ≤ 60 := hG.1 43 8
  have : (0 : Int) ≤ (w 43 13) ∧ (w 43 13) ≤ 80 := hG.1 43 13
  exact s_R_week_39 FU (by have := eqFU; omega) hG (by omega) (by omega) (by omega) (by omega) (by omega) (by omega) (by omega) (by omega)
theorem s_R_week {w : Wd} (hG : G md_R_week w w) (a_0 : ((w 43 32) ≤ (w 43 8))) : OK (f_R_week w) (fun r u => ((-2147483648 : Int) ≤ r ∧ r ≤ 2147483647) ∧ G md_R_week w u ∧ ((u 43 32) ≤ (u 43 8)) ∧ ((u 43 13) = (0 : Int))) := by
  unfold f_R_week
  have : (0 : Int) ≤ (w 43 32) ∧ (w 43 32) ≤ 60 := hG.1 43 32
  have : (0 : Int) ≤ (w 43 8) ∧ (w 43 8) ≤ 60 := hG.1 43 8
  refine ok_lw (fun u1 e3219 => ?_)
  have g3220 : G md_R_week w u1 := g_st hG e3219 rfl rfl (show (0 : Int) ≤ (0 : Int) ∧ (0 : Int) ≤ 1 by omega)
  have : (0 : Int) ≤ (u1 43 13) ∧ (u1 43 13) ≤ 80 := g3220.1 43 13
  have : (u1 43 13) = (w 43 13) := (congrFun (congrFun e3219 43) 13).trans (st_k (by decide))
  have : (0 : Int) ≤ (w 43 13) ∧ (w 43 13) ≤ 80 := hG.1 43 13
  refine ok_call (s_R_begin1_43_51 (g_self g3220) (by omega) (by omega)) (fun r2 u3 q => ?_)
  obtain ⟨i3221, g3222, p3224, p3225, p3226, p3227, p3228⟩ := q
  have g3223 : G md_R_week w u3 := g_tr g3220 g3222 rfl
  have : (0 : Int) ≤ (u3 43 17) ∧ (u3 43 17) ≤ 58 := g3223.1 43 17
  have : (0 : Int) ≤ (u3 43 20) ∧ (u3 43 20) ≤ 80 := g3223.1 43 20
  have : (-1 : Int) ≤ (u3 43 21) ∧ (u3 43 21) ≤ 80 := g3223.1 43 21
  have : (0 : Int) ≤ (u3 43 18) ∧ (u3 43 18) ≤ 80 := g3223.1 43 18
  have : (0 : Int) ≤ (u3 43 19) ∧ (u3 43 19) ≤ 76 := g3223.1 43 19
  refine ok_lw (fun u4 e3229 => ?_)
  have g3230 : G md_R_week w u4 := g_st g3223 e3229 rfl rfl (show (0 : Int) ≤ (0 : Int) ∧ (0 : Int) ≤ 80 by omega)
  have : (0 : Int) ≤ (u4 43 18) ∧ (u4 43 18) ≤ 80 := g3230.1 43 18
  have : (u4 43 18) = (u3 43 18) := (congrFun (congrFun e3229 43) 18).trans (st_k (by decide))
  refine ok_ite (fun h3231 => ?_) (fun h3232 => ?_)
  · have : (0 : Int) ≤ (u4 43 17) ∧ (u4 43 17) ≤ 58 := g3230.1 43 17
    have : (u4 43 17) = (u3 43 17) := (congrFun (congrFun e3229 43) 17).trans (st_k (by decide))
    have : (0 : Int) ≤ (u4 43 19) ∧ (u4 43 19) ≤ 76 := g3230.1 43 19
    have : (u4 43 19) = (u3 43 19) := (congrFun (congrFun e3229 43) 19).trans (st_k (by decide))
    have : (0 : Int) ≤ (u4 43 20) ∧ (u4 43 20) ≤ 80 := g3230.1 43 20
    have : (u4 43 20) = (u3 43 20) := (congrFun (congrFun e3229 43) 20).trans (st_k (by decide))
    have : (0 : Int) ≤ (u4 43 32) ∧ (u4 43 32) ≤ 60 := g3230.1 43 32
    have : (u4 43 32) = (u3 43 32) := (congrFun (congrFun e3229 43) 32).trans (st_k (by decide))
    have : (0 : Int) ≤ (u3 43 32) ∧ (u3 43 32) ≤ 60 := g3223.1 43 32
    have : (u3 43 32) = (u1 43 32) := g3222.2.1 43 32 rfl
    have : (0 : Int) ≤ (u1 43 32) ∧ (u1 43 32) ≤ 60 := g3220.1 43 32
    have : (u1 43 32) = (w 43 32) := (congrFun (congrFun e3219 43) 32).trans (st_k (by decide))
    have : (0 : Int) ≤ (u4 43 8) ∧ (u4 43 8) ≤ 60 := g3230.1 43 8
    have : (u4 43 8) = (u3 43 8) := (congrFun (congrFun e3229 43) 8).trans (st_k (by decide))
    have : (0 : Int) ≤ (u3 43 8) ∧ (u3 43 8) ≤ 60 := g3223.1 43 8
    have : (u3 43 8) = (u1 43 8) := g3222.2.1 43 8 rfl
    have : (0 : Int) ≤ (u1 43 8) ∧ (u1 43 8) ≤ 60 := g3220.1 43 8
    have : (u1 43 8) = (w 43 8) := (congrFun (congrFun e3219 43) 8).trans (st_k (by decide))
    have : (0 : Int) ≤ (u4 43 13) ∧ (u4 43 13) ≤ 80 := g3230.1 43 13
    have : (u4 43 13) = (0 : Int) := (congrFun (congrFun e3229 43) 13).trans (st_eq _ _ _ _)
    exact s_R_week_38 g3230 (by omega) (by omega) (by omega) (by omega) (by omega) (by omega) (by omega) (by omega)
  · have : (0 : Int) ≤ (u4 43 17) ∧ (u4 43 17) ≤ 58 := g3230.1 43 17
    have : (u4 43 17) = (u3 43 17) := (congrFun (congrFun e3229 43) 17).trans (st_k (by decide))
    have : (0 : Int) ≤ (u4 43 19) ∧ (u4 43 19) ≤ 76 := g3230.1 43 19
    have : (u4 43 19) = (u3 43 19) := (congrFun (congrFun e3229 43) 19).trans (st_k (by decide))
    have : (0 : Int) ≤ (u4 43 20) ∧ (u4 43 20) ≤ 80 := g3230.1 43 20
    have : (u4 43 20) = (u3 43 20) := (congrFun (congrFun e3229 43) 20).trans (st_k (by decide))
    have : (0 : Int) ≤ (u4 43 32) ∧ (u4 43 32) ≤ 60 := g3230.1 43 32
    have : (u4 43 32) = (u3 43 32) := (congrFun (congrFun e3229 43) 32).trans (st_k (by decide))
    have : (0 : Int) ≤ (u3 43 32) ∧ (u3 43 32) ≤ 60 := g3223.1 43 32
    have : (u3 43 32) = (u1 43 32) := g3222.2.1 43 32 rfl
    have : (0 : Int) ≤ (u1 43 32) ∧ (u1 43 32) ≤ 60 := g3220.1 43 32
    have : (u1 43 32) = (w 43 32) := (congrFun (congrFun e3219 43) 32).trans (st_k (by decide))
    have : (0 : Int) ≤ (u4 43 8) ∧ (u4 43 8) ≤ 60 := g3230.1 43 8
    have : (u4 43 8) = (u3 43 8) := (congrFun (congrFun e3229 43) 8).trans (st_k (by decide))
    have : (0 : Int) ≤ (u3 43 8) ∧ (u3 43 8) ≤ 60 := g3223.1 43 8
    have : (u3 43 8) = (u1 43 8) := g3222.2.1 43 8 rfl
    have : (0 : Int) ≤ (u1 43 8) ∧ (u1 43 8) ≤ 60 := g3220.1 43 8
    have : (u1 43 8) = (w 43 8) := (congrFun (congrFun e3219 43) 8).trans (st_k (by decide))
    have : (0 : Int) ≤ (u4 43 13) ∧ (u4 43 13) ≤ 80 := g3230.1 43 13
    have : (u4 43 13) = (0 : Int) := (congrFun (congrFun e3229 43) 13).trans (st_eq _ _ _ _)
    exact s_R_week_38 g3230 (by omega) (by omega) (by omega) (by omega) (by omega) (by omega) (by omega) (by omega)
theorem s_R_choice_84 {b : Wd} {k27 : Int → Int → Int → Int → Int → Wd → Option (Int × Wd)} {Bk27 : Int} (hk27 : ∀ {w1 : Wd} {v1 v2 v3 v4 v5 : Int}, ((11 : Int) - v5) < Bk27 → G md_R_choice b w1 → ((0 : Int) ≤ v1 ∧ v1 ≤ 9) → ((0 : Int) ≤ v2 ∧ v2 ≤ 1023) → ((-1 : Int) ≤ v3 ∧ v3 ≤ 9) → ((0 : Int) ≤ v4 ∧ v4 ≤ 2147483647) → ((0 : Int) ≤ v5 ∧ v5 ≤ 10) → OK (k27 v1 v2 v3 v4 v5 w1) (fun r u => ((-1 : Int) ≤ r ∧ r ≤ 9) ∧ G md_R_choice b u)) {w : Wd} {v1 v2 v3 v4 v5 : Int} (hG : G md_R_choice b w) (i_v1 : ((0 : Int) ≤ v1 ∧ v1 ≤ 9)) (i_v2 : ((0 : Int) ≤ v2 ∧ v2 ≤ 1023)) (i_v3 : ((-1 : Int) ≤ v3 ∧ v3 ≤ 9)) (i_v4 : ((0 : Int) ≤ v4 ∧ v4 ≤ 2147483647)) (i_v5 : ((0 : Int) ≤ v5 ∧ v5 ≤ 9)) (hBk27 : ((11 : Int) - v5) ≤ Bk27) : OK (f_R_choice_84 k27 v1 v2 v3 v4 v5 w) (fun r u => ((-1 : Int) ≤ r ∧ r ≤ 9) ∧ G md_R_choice b u) := by
  unfold f_R_choice_84
  have := w32_sp ((v5 + (1 : Int)))
  refine ok_let (fun x14 e3233 => ?_)
  have : (1 : Int) ≤ x14 ∧ x14 ≤ 10 := by omega
  exact hk27 (by omega) hG (by omega) (by omega) (by omega) (by omega) (by omega)
theorem s_R_choice_77 {b : Wd} {k27 : Int → Int → Int → Int → Int → Wd → Option (Int × Wd)} {Bk27 : Int} (hk27 : ∀ {w1 : Wd} {v1 v2 v3 v4 v5 : Int}, ((11 : Int) - v5) < Bk27 → G md_R_choice b w1 → ((0 : Int) ≤ v1 ∧ v1 ≤ 9) → ((0 : Int) ≤ v2 ∧ v2 ≤ 1023) → ((-1 : Int) ≤ v3 ∧ v3 ≤ 9) → ((0 : Int) ≤ v4 ∧ v4 ≤ 2147483647) → ((0 : Int) ≤ v5 ∧ v5 ≤ 10) → OK (k27 v1 v2 v3 v4 v5 w1) (fun r u => ((-1 : Int) ≤ r ∧ r ≤ 9) ∧ G md_R_choice b u)) {w : Wd} {v1 v2 v5 v6 : Int} (hG : G md_R_choice b w) (i_v1 : ((0 : Int) ≤ v1 ∧ v1 ≤ 9)) (i_v2 : ((0 : Int) ≤ v2 ∧ v2 ≤ 1023)) (i_v5 : ((0 : Int) ≤ v5 ∧ v5 ≤ 9)) (i_v6 : ((0 : Int) ≤ v6 ∧ v6 ≤ 2147483647)) (hBk27 : ((11 : Int) - v5) ≤ Bk27) : OK (f_R_choice_77 k27 v1 v2 v5 v6 w) (fun r u => ((-1 : Int) ≤ r ∧ r ≤ 9) ∧ G md_R_choice b u) := by
  unfold f_R_choice_77
  exact s_R_choice_84 hk27 hG (by omega) (by omega) (by omega) (by omega) (by omega) (by omega)
theorem s_R_choice_27 {b : Wd} : ∀ (n : Nat) {w : Wd} {v1 v2 v3 v4 v5 : Int}, ((11 : Int) - v5) < (n : Int) → G md_R_choice b w → ((0 : Int) ≤ v1 ∧ v1 ≤ 9) → ((0 : Int) ≤ v2 ∧ v2 ≤ 1023) → ((-1 : Int) ≤ v3 ∧ v3 ≤ 9) → ((0 : Int) ≤ v4 ∧ v4 ≤ 2147483647) → ((0 : Int) ≤ v5 ∧ v5 ≤ 10) → OK (f_R_choice_27 n v1 v2 v3 v4 v5 w) (fun r u => ((-1 : Int) ≤ r ∧ r ≤ 9) ∧ G md_R_choice b u) := by
  intro n
  induction n with
  | zero =>
    intro w v1 v2 v3 v4 v5 hm hG i_v1 i_v2 i_v3 i_v4 i_v5
    exfalso
    omega
  | succ n ih =>
    intro w v1 v2 v3 v4 v5 hm hG i_v1 i_v2 i_v3 i_v4 i_v5
    rw [f_R_choice_27]
    have : (0 : Int) ≤ (w 43 0) ∧ (w 43 0) ≤ 10 := hG.1 43 0
    have : (w 43 0) = (b 43 0) := hG.2.1 43 0 rfl
    refine ok_ite (fun h3234 => ?_) (fun h3235 => ?_)
    · refine ok_ite (fun h3236 => ?_) (fun h3237 => ?_)
      · exact ok_some ⟨by omega, hG⟩
      · refine ok_gd (by omega) ?_
        refine ok_lw (fun u6 e3238 => ?_)
        have g3239 : G md_R_choice b u6 := g_st hG e3238 rfl rfl (show (-1 : Int) ≤ v3 ∧ v3 ≤ 9 by omega)
        refine ok_call (s_R_guestsThen (g_self g3239)) (fun r7 u8 q => ?_)
        obtain ⟨i3240, g3241⟩ := q
        have g3242 : G md_R_choice b u8 := g_tr g3239 g3241 rfl
        refine ok_gd (by omega) ?_
        refine ok_lw (fun u9 e3243 => ?_)
        have g3244 : G md_R_choice b u9 := g_st g3242 e3243 rfl rfl (show (-1 : Int) ≤ (-1 : Int) ∧ (-1 : Int) ≤ 9 by omega)
        have : (-2147483648 : Int) ≤ (u9 43 11) ∧ (u9 43 11) ≤ 2147483647 := g3244.1 43 11
        have : (u9 43 11) = (u8 43 11) := (congrFun (congrFun e3243 43) 11).trans (st_c (by decide))
        have : (-2147483648 : Int) ≤ (u8 43 11) ∧ (u8 43 11) ≤ 2147483647 := g3242.1 43 11
        have : (u8 43 11) = (u6 43 11) := g3241.2.1 43 11 rfl
        have : (-2147483648 : Int) ≤ (u6 43 11) ∧ (u6 43 11) ≤ 2147483647 := g3239.1 43 11
        have : (u6 43 11) = (w 43 11) := (congrFun (congrFun e3238 43) 11).trans (st_c (by decide))
        have : (-2147483648 : Int) ≤ (w 43 11) ∧ (w 43 11) ≤ 2147483647 := hG.1 43 11
        have : (w 43 11) = (b 43 11) := hG.2.1 43 11 rfl
        refine ok_ite (fun h3245 => ?_) (fun h3246 => ?_)
        · exact ok_some ⟨by omega, g3244⟩
        · exact ok_some ⟨by omega, g3244⟩
    · refine ok_call (s_R_has (g_self hG) (by omega) (by omega)) (fun r10 u11 q => ?_)
      obtain ⟨i3247, g3248⟩ := q
      have g3249 : G md_R_choice b u11 := g_tr hG g3248 rfl
      refine ok_ite (fun h3250 => ?_) (fun h3251 => ?_)
      · exact s_R_choice_84 ih g3249 (by omega) (by omega) (by omega) (by omega) (by omega) (by omega)
      · refine ok_call (s_R_ruleFor (g_self g3249) (by omega) (by omega)) (fun r12 u13 q => ?_)
        obtain ⟨i3252, g3253⟩ := q
        have g3254 : G md_R_choice b u13 := g_tr g3249 g3253 rfl
        refine ok_ite (fun h3255 => ?_) (fun h3256 => ?_)
        · exact s_R_choice_84 ih g3254 (by omega) (by omega) (by omega) (by omega) (by omega) (by omega)
        · refine ok_ite (fun h3257 => ?_) (fun h3258 => ?_)
          · exact s_R_choice_77 ih g3254 (by omega) (by omega) (by omega) (by omega) (by omega)
          · refine ok_ite (fun h3259 => ?_) (fun h3260 => ?_)
            · exact s_R_choice_77 ih g3254 (by omega) (by omega) (by omega) (by omega) (by omega)
            · exact s_R_choice_84 ih g3254 (by omega) (by omega) (by omega) (by omega) (by omega) (by omega)
theorem s_R_choice {w : Wd} {v1 : Int} (hG : G md_R_choice w w) (i_v1 : ((0 : Int) ≤ v1 ∧ v1 ≤ 9)) : OK (f_R_choice v1 w) (fun r u => ((-1 : Int) ≤ r ∧ r ≤ 9) ∧ G md_R_choice w u) := by
  unfold f_R_choice
  refine ok_call (s_R_free (g_self hG)) (fun r1 u2 q => ?_)
  obtain ⟨i3261, g3262⟩ := q
  have g3263 : G md_R_choice w u2 := g_tr hG g3262 rfl
  refine ok_gd (by omega) ?_
  refine ok_call (s_R_broughtNow (g_self g3263)) (fun r3 u4 q => ?_)
  obtain ⟨i3264, g3265⟩ := q
  have g3266 : G md_R_choice w u4 := g_tr g3263 g3265 rfl
  have : (0 : Int) ≤ (u2 45 (v1).toNat) ∧ (u2 45 (v1).toNat) ≤ 1023 := g3263.1 45 (v1).toNat
  have := iand_l (x := r1) (y := (u2 45 (v1).toNat)) (by omega)
  have := iand_r (x := r1) (y := (u2 45 (v1).toNat)) (by omega)
  have := ixor_m1 (x := r3) (by omega)
  have := iand_l (x := (iand r1 (u2 45 (v1).toNat))) (y := (ixor r3 (-1 : Int))) (by omega)
  refine ok_let (fun x5 e3267 => ?_)
  have : (0 : Int) ≤ x5 ∧ x5 ≤ 1023 := by omega
  exact s_R_choice_27 FU (by have := eqFU; omega) g3266 (by omega) (by omega) (by omega) (by omega) (by omega)
theorem s_R_findChoices_37 {b : Wd} {k6 : Int → Wd → Option (Int × Wd)} {Bk6 : Int} (hk6 : ∀ {w1 : Wd} {v1 : Int}, ((11 : Int) - v1) < Bk6 → G md_R_findChoices b w1 → ((0 : Int) ≤ v1 ∧ v1 ≤ 10) → OK (k6 v1 w1) (fun r u => ((0 : Int) ≤ r ∧ r ≤ 0) ∧ G md_R_findChoices b u)) {w : Wd} {v1 : Int} (hG : G md_R_findChoices b w) (i_v1 : ((0 : Int) ≤ v1 ∧ v1 ≤ 9)) (hBk6 : ((11 : Int) - v1) ≤ Bk6) : OK (f_R_findChoices_37 k6 v1 w) (fun r u => ((0 : Int) ≤ r ∧ r ≤ 0) ∧ G md_R_findChoices b u) := by
  unfold f_R_findChoices_37
  have := w32_sp ((v1 + (1 : Int)))
  refine ok_let (fun x5 e3268 => ?_)
  have : (1 : Int) ≤ x5 ∧ x5 ≤ 10 := by omega
  exact hk6 (by omega) hG (by omega)
theorem s_R_findChoices_6 {b : Wd} : ∀ (n : Nat) {w : Wd} {v1 : Int}, ((11 : Int) - v1) < (n : Int) → G md_R_findChoices b w → ((0 : Int) ≤ v1 ∧ v1 ≤ 10) → OK (f_R_findChoices_6 n v1 w) (fun r u => ((0 : Int) ≤ r ∧ r ≤ 0) ∧ G md_R_findChoices b u) := by
  intro n
  induction n with
  | zero =>
    intro w v1 hm hG i_v1
    exfalso
    omega
  | succ n ih =>
    intro w v1 hm hG i_v1
    rw [f_R_findChoices_6]
    have : (0 : Int) ≤ (w 43 0) ∧ (w 43 0) ≤ 10 := hG.1 43 0
    have : (w 43 0) = (b 43 0) := hG.2.1 43 0 rfl
    refine ok_ite (fun h3269 => ?_) (fun h3270 => ?_)
    · exact ok_some ⟨by omega, hG⟩
    · refine ok_gd (by omega) ?_
      have : (-2147483648 : Int) ≤ (w 47 (v1).toNat) ∧ (w 47 (v1).toNat) ≤ 2147483647 := hG.1 47 (v1).toNat
      refine ok_jite (fun h3272 => ?_) (fun h3273 => ?_)
      · refine ok_jsome ?_
        refine ok_it (by decide) ?_
        exact s_R_findChoices_37 ih hG (by omega) (by omega)
      · refine ok_jite (fun h3274 => ?_) (fun h3275 => ?_)
        · refine ok_jsome ?_
          refine ok_it (by decide) ?_
          exact s_R_findChoices_37 ih hG (by omega) (by omega)
        · refine ok_jsome ?_
          refine ok_if (by decide) ?_
          refine ok_call (s_R_choice (g_self hG) (by omega)) (fun r6 u7 q => ?_)
          obtain ⟨i3276, g3277⟩ := q
          have g3278 : G md_R_findChoices b u7 := g_tr hG g3277 rfl
          refine ok_gd (by omega) ?_
          refine ok_lw (fun u8 e3279 => ?_)
          have g3280 : G md_R_findChoices b u8 := g_st g3278 e3279 rfl rfl (show (-1 : Int) ≤ r6 ∧ r6 ≤ 9 by omega)
          exact s_R_findChoices_37 ih g3280 (by omega) (by omega)
theorem s_R_findChoices {w : Wd} (hG : G md_R_findChoices w w) : OK (f_R_findChoices w) (fun r u => ((0 : Int) ≤ r ∧ r ≤ 0) ∧ G md_R_findChoices w u) := by
  unfold f_R_findChoices
  refine ok_call (s_R_nobody (g_self hG)) (fun r1 u2 q => ?_)
  obtain ⟨i3281, g3282⟩ := q
  have g3283 : G md_R_findChoices w u2 := g_tr hG g3282 rfl
  exact s_R_findChoices_6 FU (by have := eqFU; omega) g3283 (by omega)
theorem s_R_goes_60 {b : Wd} {w : Wd} {v2 v3 : Int} (hG : G md_R_goes b w) (i_v2 : ((-2147483648 : Int) ≤ v2 ∧ v2 ≤ 2147483647)) (i_v3 : ((0 : Int) ≤ v3 ∧ v3 ≤ 60)) (a_0 : ((w 43 32) ≤ (w 43 8))) : OK (f_R_goes_60 v2 v3 w) (fun r u => ((-1 : Int) ≤ r ∧ r ≤ 60) ∧ G md_R_goes b u ∧ ((u 43 32) ≤ (u 43 8))) := by
  unfold f_R_goes_60
  have : (0 : Int) ≤ (w 43 32) ∧ (w 43 32) ≤ 60 := hG.1 43 32
  have : (0 : Int) ≤ (w 43 8) ∧ (w 43 8) ≤ 60 := hG.1 43 8
  refine ok_lw (fun u5 e3284 => ?_)
  have g3285 : G md_R_goes b u5 := g_st hG e3284 rfl rfl (show (0 : Int) ≤ (0 : Int) ∧ (0 : Int) ≤ 16 by omega)
  refine ok_call (s_R_guests (g_self g3285)) (fun r6 u7 q => ?_)
  obtain ⟨i3286, g3287⟩ := q
  have g3288 : G md_R_goes b u7 := g_tr g3285 g3287 rfl
  have : (0 : Int) ≤ (u7 43 15) ∧ (u7 43 15) ≤ 16 := g3288.1 43 15
  have : (u7 43 15) = (u5 43 15) := g3287.2.1 43 15 rfl
  have : (0 : Int) ≤ (u5 43 15) ∧ (u5 43 15) ≤ 16 := g3285.1 43 15
  have : (u5 43 15) = (0 : Int) := (congrFun (congrFun e3284 43) 15).trans (st_eq _ _ _ _)
  refine ok_jgd (by omega) ?_
  refine ok_jlw (fun u1_3289 e3290 => ?_)
  have g3291 : G md_R_goes b u1_3289 := g_st g3288 e3290 rfl rfl (show (-2147483648 : Int) ≤ r6 ∧ r6 ≤ 2147483647 by omega)
  have : (0 : Int) ≤ (u1_3289 43 15) ∧ (u1_3289 43 15) ≤ 16 := g3291.1 43 15
  have : (u1_3289 43 15) = (u7 43 15) := (congrFun (congrFun e3290 43) 15).trans (st_c (by decide))
  have := w32_sp (((u1_3289 43 15) + (1 : Int)))
  refine ok_jlw (fun u2_3289 e3292 => ?_)
  have g3293 : G md_R_goes b u2_3289 := g_st g3291 e3292 rfl rfl (show (0 : Int) ≤ (w32 ((u1_3289 43 15) + (1 : Int))) ∧ (w32 ((u1_3289 43 15) + (1 : Int))) ≤ 16 by omega)
  refine ok_jsome ?_
  have : (0 : Int) ≤ (u2_3289 43 15) ∧ (u2_3289 43 15) ≤ 16 := g3293.1 43 15
  have : (u2_3289 43 15) = (w32 ((u1_3289 43 15) + (1 : Int))) := (congrFun (congrFun e3292 43) 15).trans (st_eq _ _ _ _)
  refine ok_jgd (by omega) ?_
  have : (-2147483648 : Int) ≤ (u2_3289 43 7) ∧ (u2_3289 43 7) ≤ 2147483647 := g3293.1 43 7
  have : (u2_3289 43 7) = (u1_3289 43 7) := (congrFun (congrFun e3292 43) 7).trans (st_k (by decide))
  have : (-2147483648 : Int) ≤ (u1_3289 43 7) ∧ (u1_3289 43 7) ≤ 2147483647 := g3291.1 43 7
  have : (u1_3289 43 7) = (u7 43 7) := (congrFun (congrFun e3290 43) 7).trans (st_c (by decide))
  have : (-2147483648 : Int) ≤ (u7 43 7) ∧ (u7 43 7) ≤ 2147483647 := g3288.1 43 7
  have : (u7 43 7) = (u5 43 7) := g3287.2.1 43 7 rfl
  have : (-2147483648 : Int) ≤ (u5 43 7) ∧ (u5 43 7) ≤ 2147483647 := g3285.1 43 7
  have : (u5 43 7) = (w 43 7) := (congrFun (congrFun e3284 43) 7).trans (st_k (by decide))
  have : (-2147483648 : Int) ≤ (w 43 7) ∧ (w 43 7) ≤ 2147483647 := hG.1 43 7
  have := w32_sp (((u2_3289 43 7) - v2))
  refine ok_jlw (fun u1_3294 e3295 => ?_)
  have g3296 : G md_R_goes b u1_3294 := g_st g3293 e3295 rfl rfl (show (-2147483648 : Int) ≤ (w32 ((u2_3289 43 7) - v2)) ∧ (w32 ((u2_3289 43 7) - v2)) ≤ 2147483647 by omega)
  have : (0 : Int) ≤ (u1_3294 43 15) ∧ (u1_3294 43 15) ≤ 16 := g3296.1 43 15
  have : (u1_3294 43 15) = (u2_3289 43 15) := (congrFun (congrFun e3295 43) 15).trans (st_c (by decide))
  have := w32_sp (((u1_3294 43 15) + (1 : Int)))
  refine ok_jlw (fun u2_3294 e3297 => ?_)
  have g3298 : G md_R_goes b u2_3294 := g_st g3296 e3297 rfl rfl (show (0 : Int) ≤ (w32 ((u1_3294 43 15) + (1 : Int))) ∧ (w32 ((u1_3294 43 15) + (1 : Int))) ≤ 16 by omega)
  refine ok_jsome ?_
  have : (0 : Int) ≤ (u2_3294 43 32) ∧ (u2_3294 43 32) ≤ 60 := g3298.1 43 32
  have : (u2_3294 43 32) = (u1_3294 43 32) := (congrFun (congrFun e3297 43) 32).trans (st_k (by decide))
  have : (0 : Int) ≤ (u1_3294 43 32) ∧ (u1_3294 43 32) ≤ 60 := g3296.1 43 32
  have : (u1_3294 43 32) = (u2_3289 43 32) := (congrFun (congrFun e3295 43) 32).trans (st_c (by decide))
  have : (0 : Int) ≤ (u2_3289 43 32) ∧ (u2_3289 43 32) ≤ 60 := g3293.1 43 32
  have : (u2_3289 43 32) = (u1_3289 43 32) := (congrFun (congrFun e3292 43) 32).trans (st_k (by decide))
  have : (0 : Int) ≤ (u1_3289 43 32) ∧ (u1_3289 43 32) ≤ 60 := g3291.1 43 32
  have : (u1_3289 43 32) = (u7 43 32) := (congrFun (congrFun e3290 43) 32).trans (st_c (by decide))
  have : (0 : Int) ≤ (u7 43 32) ∧ (u7 43 32) ≤ 60 := g3288.1 43 32
  have : (u7 43 32) = (u5 43 32) := g3287.2.1 43 32 rfl
  have : (0 : Int) ≤ (u5 43 32) ∧ (u5 43 32) ≤ 60 := g3285.1 43 32
  have : (u5 43 32) = (w 43 32) := (congrFun (congrFun e3284 43) 32).trans (st_k (by decide))
  have : (0 : Int) ≤ (u2_3294 43 8) ∧ (u2_3294 43 8) ≤ 60 := g3298.1 43 8
  have : (u2_3294 43 8) = (u1_3294 43 8) := (congrFun (congrFun e3297 43) 8).trans (st_k (by decide))
  have : (0 : Int) ≤ (u1_3294 43 8) ∧ (u1_3294 43 8) ≤ 60 := g3296.1 43 8
  have : (u1_3294 43 8) = (u2_3289 43 8) := (congrFun (congrFun e3295 43) 8).trans (st_c (by decide))
  have : (0 : Int) ≤ (u2_3289 43 8) ∧ (u2_3289 43 8) ≤ 60 := g3293.1 43 8
  have : (u2_3289 43 8) = (u1_3289 43 8) := (congrFun (congrFun e3292 43) 8).trans (st_k (by decide))
  have : (0 : Int) ≤ (u1_3289 43 8) ∧ (u1_3289 43 8) ≤ 60 := g3291.1 43 8
  have : (u1_3289 43 8) = (u7 43 8) := (congrFun (congrFun e3290 43) 8).trans (st_c (by decide))
  have : (0 : Int) ≤ (u7 43 8) ∧ (u7 43 8) ≤ 60 := g3288.1 43 8
  have : (u7 43 8) = (u5 43 8) := g3287.2.1 43 8 rfl
  have : (0 : Int) ≤ (u5 43 8) ∧ (u5 43 8) ≤ 60 := g3285.1 43 8
  have : (u5 43 8) = (w 43 8) := (congrFun (congrFun e3284 43) 8).trans (st_k (by decide))
  exact ok_some ⟨by omega, g3298, (by omega)⟩
theorem s_R_goes_24 {b : Wd} : ∀ (n : Nat) {w : Wd} {v1 v2 v3 : Int}, ((61 : Int) - v3) < (n : Int) → G md_R_goes b w → ((0 : Int) ≤ v1 ∧ v1 ≤ 60) → ((-2147483648 : Int) ≤ v2 ∧ v2 ≤ 2147483647) → ((0 : Int) ≤ v3 ∧ v3 ≤ 60) → ((w 43 32) ≤ (w 43 8)) → OK (f_R_goes_24 n v1 v2 v3 w) (fun r u => ((-1 : Int) ≤ r ∧ r ≤ 60) ∧ G md_R_goes b u ∧ ((u 43 32) ≤ (u 43 8))) := by
  intro n
  induction n with
  | zero =>
    intro w v1 v2 v3 hm hG i_v1 i_v2 i_v3 a_0
    exfalso
    omega
  | succ n ih =>
    intro w v1 v2 v3 hm hG i_v1 i_v2 i_v3 a_0
    rw [f_R_goes_24]
    have : (0 : Int) ≤ (w 43 32) ∧ (w 43 32) ≤ 60 := hG.1 43 32
    have : (0 : Int) ≤ (w 43 8) ∧ (w 43 8) ≤ 60 := hG.1 43 8
    refine ok_ite (fun h3299 => ?_) (fun h3300 => ?_)
    · exact s_R_goes_60 hG (by omega) (by omega) (by omega)
    · refine ok_ite (fun h3301 => ?_) (fun h3302 => ?_)
      · exact s_R_goes_60 hG (by omega) (by omega) (by omega)
      · refine ok_call (s_R_guests (g_self hG)) (fun r12 u13 q => ?_)
        obtain ⟨i3303, g3304⟩ := q
        have g3305 : G md_R_goes b u13 := g_tr hG g3304 rfl
        refine ok_ite (fun h3306 => ?_) (fun h3307 => ?_)
        · have : (0 : Int) ≤ (u13 43 32) ∧ (u13 43 32) ≤ 60 := g3305.1 43 32
          have : (u13 43 32) = (w 43 32) := g3304.2.1 43 32 rfl
          have : (0 : Int) ≤ (u13 43 8) ∧ (u13 43 8) ≤ 60 := g3305.1 43 8
          have : (u13 43 8) = (w 43 8) := g3304.2.1 43 8 rfl
          exact s_R_goes_60 g3305 (by omega) (by omega) (by omega)
        · refine ok_call (s_R_findChoices (g_self g3305)) (fun r14 u15 q => ?_)
          obtain ⟨i3308, g3309⟩ := q
          have g3310 : G md_R_goes b u15 := g_tr g3305 g3309 rfl
          have : (0 : Int) ≤ (u15 43 8) ∧ (u15 43 8) ≤ 60 := g3310.1 43 8
          have : (u15 43 8) = (u13 43 8) := g3309.2.1 43 8 rfl
          have : (0 : Int) ≤ (u13 43 8) ∧ (u13 43 8) ≤ 60 := g3305.1 43 8
          have : (u13 43 8) = (w 43 8) := g3304.2.1 43 8 rfl
          have : (0 : Int) ≤ (u15 43 32) ∧ (u15 43 32) ≤ 60 := g3310.1 43 32
          have : (u15 43 32) = (u13 43 32) := g3309.2.1 43 32 rfl
          have : (0 : Int) ≤ (u13 43 32) ∧ (u13 43 32) ≤ 60 := g3305.1 43 32
          have : (u13 43 32) = (w 43 32) := g3304.2.1 43 32 rfl
          refine ok_call (s_R_goWeek (g_self g3310) (by omega) (by omega)) (fun r16 u17 q => ?_)
          obtain ⟨i3311, g3312, p3314, p3315⟩ := q
          have g3313 : G md_R_goes b u17 := g_tr g3310 g3312 rfl
          have : (0 : Int) ≤ (u17 43 8) ∧ (u17 43 8) ≤ 60 := g3313.1 43 8
          have : (0 : Int) ≤ (u17 43 32) ∧ (u17 43 32) ≤ 60 := g3313.1 43 32
          have := w32_sp ((v3 + (1 : Int)))
          refine ok_let (fun x18 e3316 => ?_)
          have : (1 : Int) ≤ x18 ∧ x18 ≤ 60 := by omega
          exact ih (by omega) g3313 (by omega) (by omega) (by omega) (by omega)
