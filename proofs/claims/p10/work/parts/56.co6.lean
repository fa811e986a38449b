/-! TEXTS: end, sign, rule, week -/
theorem c_end {w : Wd} {v1 : Int} (h : LI w) (i_v1 : ((-2147483648 : Int) ≤ v1 ∧ v1 ≤ 2147483647)) : OK (f_E_end v1 w) (fun r1 u1 => OK (f_R_end v1 u1) (fun r2 u2 => LI u2 ∧ r1 = r2)) := by
  refine ok_w (e_E_end h.1 i_v1) (fun r1 u1 q1 => ?_)
  obtain ⟨g1, s1, p1⟩ := q1
  refine ok_w (e_R_end s1 i_v1) (fun r2 u2 q2 => ?_)
  obtain ⟨g2, s2, p2⟩ := q2
  have t2 : u1 43 13 = w 43 13 := g1.2.1 43 13 rfl
  have t3 : u2 1 1 = u1 1 1 := g2.2.1 1 1 rfl
  have hl := h.2.1.1
  have f := fr_tr (fr_g (P := ctP) (A := 2 :: 51 :: ctA) g1 rfl) (fr_g g2 rfl)
  refine ⟨⟨s2, ct_fr h.2 (fr_sub f (by decide) (by decide)) ⟨by omega, fun k hk => ?_⟩⟩, by omega⟩
  rw [f.2 2 (by decide), f.2 51 (by decide)]
  exact h.2.1.2 k (by omega)
theorem c_sign {w : Wd} {v1 : Int} (h : LI w) (i_v1 : ((-2147483648 : Int) ≤ v1 ∧ v1 ≤ 2147483647)) : OK (f_E_sign v1 w) (fun r1 u1 => OK (f_R_sign v1 u1) (fun r2 u2 => LI u2 ∧ r1 = r2)) := by
  have a11 : (0 : Int) ≤ w 1 1 ∧ w 1 1 ≤ 80 := h.1.1.1 1 1
  refine ok_w (ok_pc (e_E_sign h.1 i_v1) (sgE_pc a11)) (fun r1 u1 q1 => ?_)
  obtain ⟨⟨g1, s1, p1⟩, x1⟩ := q1
  have a13 : (0 : Int) ≤ u1 43 13 ∧ u1 43 13 ≤ 80 := s1.1.1 43 13
  refine ok_w (ok_pc (e_R_sign s1 i_v1) (sgR_pc a13)) (fun r2 u2 q2 => ?_)
  obtain ⟨⟨g2, s2, p2⟩, x2⟩ := q2
  have t2 : u1 43 13 = w 43 13 := g1.2.1 43 13 rfl
  have t3 : u2 1 1 = u1 1 1 := g2.2.1 1 1 rfl
  have f := fr_tr (fr_g (P := ctP) (A := ctA) g1 rfl) (fr_g g2 rfl)
  refine ⟨⟨s2, ct_fr h.2 f (tx_sign h.2.1 a11.1 x1 x2 t2 (funext fun k => g1.2.1 51 k (mS_ar rfl k)) t3 (funext fun k => g2.2.1 2 k (mS_ar rfl k)))⟩, ?_⟩
  have hl := h.2.1.1
  clear x1 x2
  omega
theorem c_rule0 {w : Wd} (h : LI w) : OK (f_E_rule w) (fun _ u1 => OK (f_R_rule u1) (fun _ u2 => LI u2)) := by
  refine ok_w (e_E_rule h.1) (fun r1 u1 q1 => ?_)
  obtain ⟨g1, s1, p1⟩ := q1
  refine ok_w (e_R_rule s1) (fun r2 u2 q2 => ?_)
  obtain ⟨g2, s2, p2⟩ := q2
  exact ⟨s2, ct_fr h.2 (fr_tr (fr_g (P := ctP) (A := ctA) g1 rfl) (fr_g g2 rfl)) (tx_0 ((g2.2.1 1 1 rfl).trans p1) p2)⟩
theorem c_week0 {w : Wd} (h : LI w) : OK (f_E_week w) (fun _ u1 => OK (f_R_week u1) (fun _ u2 => LI u2)) := by
  refine ok_w (e_E_week h.1) (fun r1 u1 q1 => ?_)
  obtain ⟨g1, s1, p1⟩ := q1
  refine ok_w (e_R_week s1) (fun r2 u2 q2 => ?_)
  obtain ⟨g2, s2, p2⟩ := q2
  exact ⟨s2, ct_fr h.2 (fr_tr (fr_g (P := ctP) (A := ctA) g1 rfl) (fr_g g2 rfl)) (tx_0 ((g2.2.1 1 1 rfl).trans p1) p2.2)⟩
/-! PEOPLE CAME: land, baby -/
theorem co_pp {w u : Wd} (h : CO w) (f : FR ckP ctA w u) (t : TX u) (e : u 5 3 = u 43 0) (hs : (u 5 3 = w 5 3 ∧ u 43 56 = w 43 56) ∨ (w 5 3 < u 5 3 ∧ w 43 56 < u 43 56)) : CO u := by
  obtain ⟨h1, h2, h3, h4, h5⟩ := h
  have p := f.1
  have a79 := f.2 79 (by decide)
  have a80 := f.2 80 (by decide)
  have a81 := f.2 81 (by decide)
  refine ⟨t, e, ⟨?_, ?_⟩, ?_, ?_⟩
  · rw [p (5, 7) (by decide), p (43, 10) (by decide)]; exact h3.1
  · rw [p (5, 8) (by decide), p (43, 11) (by decide)]; exact h3.2
  · exact km_eq h4 (p (37, 2) (by decide)) (p (37, 3) (by decide)) (p (37, 7) (by decide)) (p (37, 8) (by decide)) a80 a79 a81 hs
  · exact km_eq h5 (p (40, 2) (by decide)) (p (40, 3) (by decide)) (p (40, 7) (by decide)) (p (40, 8) (by decide)) a80 a79 a81 hs
theorem rs_56 {w : Wd} (h : RS w) : 0 ≤ w 43 56 ∧ w 43 56 ≤ 10 := by
  have a0 : (0 : Int) ≤ w 43 0 ∧ w 43 0 ≤ 10 := h.1.1 43 0
  have c := h.2.1.2.2.2.1
  exact ⟨c.1, Int.le_trans c.2.1 a0.2⟩
theorem c_land {w : Wd} (h : LI w) : OK (f_E_land w) (fun r1 u1 => OK (f_R_land u1) (fun r2 u2 => LI u2 ∧ r1 = r2)) := by
  refine ok_w (ok_pc (e_E_land h.1) (land_E (g_self h.1.1))) (fun r1 u1 q1 => ?_)
  obtain ⟨⟨g1, s1, p1⟩, x1, y1⟩ := q1
  refine ok_w (ok_pc (e_R_land s1) (land_R (g_self s1.1) (rs_56 s1))) (fun r2 u2 q2 => ?_)
  obtain ⟨⟨g2, s2, p2⟩, x2, y2, z2⟩ := q2
  have e13 : u1 43 13 = w 43 13 := g1.2.1 43 13 rfl
  have e51 : u1 51 = w 51 := funext fun k => g1.2.1 51 k (mS_ar rfl k)
  have e0 : u1 43 0 = w 43 0 := g1.2.1 43 0 rfl
  have e56 : u1 43 56 = w 43 56 := g1.2.1 43 56 rfl
  have t53 : u2 5 3 = u1 5 3 := g2.2.1 5 3 rfl
  have a0 : (0 : Int) ≤ w 5 3 ∧ w 5 3 ≤ 10 := h.1.1.1 5 3
  have hP := h.2.2.1
  have hr : r1 = r2 := by
    refine x1.trans ((landA_sy (tx_sy h.2.1 (fun k => (h.1.1.1 2 k).1)) a0.1).trans ?_)
    rw [x2, e13, e51, e0, h.2.1.1, h.2.2.1]
  refine ⟨⟨s2, co_pp h.2 (fr_tr (fr_g (P := ckP) (A := ctA) g1 rfl) (fr_g g2 rfl)) (tx_0 ((g2.2.1 1 1 rfl).trans p1) p2) ?_ ?_⟩, hr⟩
  · rw [t53, y1, y2, e0, hP, hr]
  · clear x1 x2
    by_cases c : 0 < r1
    · rw [if_pos c] at y1
      rw [if_pos (by omega)] at z2
      exact Or.inr ⟨by omega, by omega⟩
    · rw [if_neg c] at y1
      rw [if_neg (by omega)] at z2
      exact Or.inl ⟨by omega, by omega⟩
theorem bb_E {w : Wd} {v1 : Int} (hG : G md_E_baby w w) (hv : -2147483648 ≤ v1 ∧ v1 ≤ 2147483647) : PC (f_E_baby v1 w) (fun r u => (¬ (w 5 3 ≤ 9 ∧ 0 ≤ v1 ∧ v1 ≤ w32 (ishl 1 (w 5 3) - 1)) ∧ r = -1 ∧ u 5 3 = w 5 3) ∨ ((w 5 3 ≤ 9 ∧ 0 ≤ v1 ∧ v1 ≤ w32 (ishl 1 (w 5 3) - 1)) ∧ r = w 5 3 ∧ u 5 3 = w 5 3 + 1)) := by
  unfold f_E_baby
  have a0 : (0 : Int) ≤ w 5 3 ∧ w 5 3 ≤ 10 := hG.1 5 3
  refine pc_ite (fun c => pc_some (Or.inl ⟨fun c2 => by omega, rfl, rfl⟩)) (fun c => ?_)
  unfold f_F_everybody
  rw [jc_s]
  refine pc_ite (fun c1 => ?_) (fun c1 => ?_)
  · have c2 := (baby_c a0 hv).mp c1
    refine pc_call (pc_and (pc_ok (s_F_add (g_self hG) (by decide) hv)) (fadd (by omega))) (fun r3 u4 q => ?_)
    obtain ⟨⟨_, gy⟩, q3, _⟩ := q
    refine pc_call (pc_ok (s_E_peopleCame (g_self (g_tr hG gy rfl)))) (fun r5 u6 q => ?_)
    have t : u6 5 3 = u4 5 3 := q.2.2.1 5 3 rfl
    have w1 := w32_sp (u6 5 3 - 1)
    exact pc_some (Or.inr ⟨⟨by omega, c2⟩, by omega, by omega⟩)
  · exact pc_some (Or.inl ⟨fun c2 => c1 ((baby_c a0 hv).mpr c2.2), rfl, rfl⟩)
theorem bb_R {w : Wd} {v1 : Int} (hG : G md_R_baby w w) (h56 : 0 ≤ w 43 56 ∧ w 43 56 ≤ 10) : PC (f_R_baby v1 w) (fun r u => (¬ (w 43 0 ≤ 9 ∧ 0 ≤ v1 ∧ v1 ≤ w32 (ishl 1 (w 43 0) - 1)) ∧ r = -1 ∧ u 43 0 = w 43 0 ∧ u 43 56 = w 43 56) ∨ ((w 43 0 ≤ 9 ∧ 0 ≤ v1 ∧ v1 ≤ w32 (ishl 1 (w 43 0) - 1)) ∧ r = w 43 0 ∧ u 43 0 = w 43 0 + 1 ∧ u 43 56 = w 43 56 + 1)) := by
  unfold f_R_baby
  have a0 : (0 : Int) ≤ w 43 0 ∧ w 43 0 ≤ 10 := hG.1 43 0
  refine pc_lw (fun u1 e1 => ?_)
  have g1 : G md_R_baby w u1 := g_st hG e1 rfl rfl (show (0 : Int) ≤ 0 ∧ (0 : Int) ≤ 1 by decide)
  have t0 : u1 43 0 = w 43 0 := by rw [e1, st_k (by decide)]
  have t56 : u1 43 56 = w 43 56 := by rw [e1, st_k (by decide)]
  rw [in_e, jc_s, t0]
  have hA := all_e a0
  refine pc_ite (fun c => ?_) (fun c => ?_)
  · refine pc_some (Or.inl ⟨fun c2 => ?_, rfl, t0, t56⟩)
    rw [if_pos c2.2] at c
    exact absurd c (by decide)
  · have c1 : 0 ≤ v1 ∧ v1 ≤ w32 (ishl 1 (w 43 0) - 1) := by
      by_cases c2 : 0 ≤ v1 ∧ v1 ≤ w32 (ishl 1 (w 43 0) - 1)
      · exact c2
      · rw [if_neg c2] at c; exact absurd rfl c
    refine pc_ite (fun c2 => pc_some (Or.inl ⟨fun c3 => by omega, rfl, t0, t56⟩)) (fun c2 => ?_)
    refine pc_call (pc_ok (s_R_add (g_self g1) (by omega) (by decide) (by omega) (by decide) (by decide))) (fun r4 u5 q => ?_)
    obtain ⟨_, gy⟩ := q
    have g5 : G md_R_baby w u5 := g_tr g1 gy rfl
    have t5 : u5 43 0 = w 43 0 := (gy.2.1 43 0 rfl).trans t0
    have t556 : u5 43 56 = w 43 56 := (gy.2.1 43 56 rfl).trans t56
    have w1 := w32_sp (u5 43 0 + 1)
    refine pc_lw (fun u6 e6 => ?_)
    have t6 : u6 43 0 = w 43 0 + 1 := by rw [e6, st_eq]; omega
    have t656 : u6 43 56 = w 43 56 := by rw [e6, st_k (by decide)]; exact t556
    have g6 : G md_R_baby w u6 := g_st g5 e6 rfl rfl (show (0 : Int) ≤ w32 (u5 43 0 + 1) ∧ w32 (u5 43 0 + 1) ≤ 10 by omega)
    refine pc_call (pc_and (pc_ok (s_R_told (g_self g6))) (told_pc (g_self g6) (by omega))) (fun r7 u8 q => ?_)
    obtain ⟨⟨_, gy8, _⟩, _, q56⟩ := q
    have t8 : u8 43 0 = u6 43 0 := gy8.2.1 43 0 rfl
    have w2 := w32_sp (u8 43 0 - 1)
    exact pc_some (Or.inr ⟨⟨by omega, c1⟩, by omega, by omega, by omega⟩)
theorem c_baby {w : Wd} {v1 : Int} (h : LI w) (i_v1 : ((-2147483648 : Int) ≤ v1 ∧ v1 ≤ 2147483647)) : OK (f_E_baby v1 w) (fun r1 u1 => OK (f_R_baby v1 u1) (fun r2 u2 => LI u2 ∧ r1 = r2)) := by
  refine ok_w (ok_pc (e_E_baby h.1 i_v1) (bb_E (g_self h.1.1) i_v1)) (fun r1 u1 q1 => ?_)
  obtain ⟨⟨g1, s1⟩, x1⟩ := q1
  refine ok_w (ok_pc (e_R_baby s1 i_v1) (bb_R (g_self s1.1) (rs_56 s1))) (fun r2 u2 q2 => ?_)
  obtain ⟨⟨g2, s2⟩, x2⟩ := q2
  have e0 : u1 43 0 = w 43 0 := g1.2.1 43 0 rfl
  have e56 : u1 43 56 = w 43 56 := g1.2.1 43 56 rfl
  have t53 : u2 5 3 = u1 5 3 := g2.2.1 5 3 rfl
  have hP := h.2.2.1
  rw [e0, e56, ← hP] at x2
  have f := fr_tr (fr_g (P := (1, 1) :: (43, 13) :: ckP) (A := 2 :: 51 :: ctA) g1 rfl) (fr_g g2 rfl)
  have t := tx_eq h.2.1 (f.1 (1, 1) (by decide)) (f.1 (43, 13) (by decide)) (f.2 2 (by decide)) (f.2 51 (by decide))
  rcases x1 with ⟨n1, a1, b1⟩ | ⟨n1, a1, b1⟩
  · rcases x2 with ⟨n2, a2, b2, c2⟩ | ⟨n2, a2, b2, c2⟩
    · exact ⟨⟨s2, co_pp h.2 (fr_sub f (by decide) (by decide)) t (by omega) (Or.inl ⟨by omega, c2⟩)⟩, by omega⟩
    · exact absurd n2 n1
  · rcases x2 with ⟨n2, a2, b2, c2⟩ | ⟨n2, a2, b2, c2⟩
    · exact absurd n1 n2
    · exact ⟨⟨s2, co_pp h.2 (fr_sub f (by decide) (by decide)) t (by omega) (Or.inr ⟨by omega, by omega⟩)⟩, by omega⟩
/-! THE LAW -/
theorem sf_pc (w : Wd) : PC (f_S_forget w) (fun _ u => ∀ c, c ≠ 28 → u c = w c) := by
  unfold f_S_forget
  refine pc_lw (fun u1 e1 => pc_some (fun c hc => ?_))
  rw [e1]; exact st_row hc
def LW (g s v1 v2 r g' s' : Int) : Prop := (v1 = 0 ∧ (1 ≤ v2 ∧ v2 ≤ 3) ∧ r = g ∧ g' = v2 ∧ s' = s) ∨ (v1 = 1 ∧ (1 ≤ v2 ∧ v2 ≤ 10) ∧ r = s ∧ g' = g ∧ s' = v2) ∨ (¬ (v1 = 0 ∧ 1 ≤ v2 ∧ v2 ≤ 3) ∧ ¬ (v1 = 1 ∧ 1 ≤ v2 ∧ v2 ≤ 10) ∧ r = -1 ∧ g' = g ∧ s' = s)
theorem lw_E (v1 v2 : Int) (w : Wd) : PC (f_E_law v1 v2 w) (fun r u => LW (w 5 7) (w 5 8) v1 v2 r (u 5 7) (u 5 8)) := by
  have k51 : ∀ s0 : Int, PC (f_E_law_51 v1 v2 s0 w) (fun r u => r = s0 ∧ (v1 = 0 → u 5 7 = v2 ∧ u 5 8 = w 5 8) ∧ (v1 ≠ 0 → u 5 7 = w 5 7 ∧ u 5 8 = v2)) := by
    intro s0
    unfold f_E_law_51
    refine pc_ite (fun c => ?_) (fun c => ?_)
    · refine pc_lw (fun u4 e4 => ?_)
      unfold f_E_law_75
      refine pc_call (sf_pc u4) (fun r2 u3 q => pc_some ⟨rfl, fun _ => ?_, fun n => absurd c n⟩)
      rw [q 5 (by decide), e4, st_eq, st_k (by decide)]
      exact ⟨rfl, rfl⟩
    · refine pc_lw (fun u4 e4 => ?_)
      unfold f_E_law_75
      refine pc_call (sf_pc u4) (fun r2 u3 q => pc_some ⟨rfl, fun n => absurd n c, fun _ => ?_⟩)
      rw [q 5 (by decide), e4, st_eq, st_k (by decide)]
      exact ⟨rfl, rfl⟩
  unfold f_E_law LW
  refine pc_ite (fun c => pc_some (Or.inr (Or.inr ⟨by omega, by omega, rfl, rfl, rfl⟩))) (fun c1 => ?_)
  refine pc_ite (fun c => pc_some (Or.inr (Or.inr ⟨by omega, by omega, rfl, rfl, rfl⟩))) (fun c2 => ?_)
  refine pc_ite (fun c => pc_some (Or.inr (Or.inr ⟨by omega, by omega, rfl, rfl, rfl⟩))) (fun c3 => ?_)
  refine pc_ite (fun c => ?_) (fun c => ?_)
  · unfold f_E_law_25
    refine pc_ite (fun c4 => ?_) (fun c4 => pc_some (Or.inr (Or.inr ⟨by omega, by omega, rfl, rfl, rfl⟩)))
    refine pc_ite (fun _ => ?_) (fun n => absurd c n)
    refine pc_w (k51 _) (fun r u q => Or.inl ⟨c, by omega, q.1, (q.2.1 c).1, (q.2.1 c).2⟩)
  · unfold f_E_law_25
    refine pc_ite (fun c4 => ?_) (fun c4 => pc_some (Or.inr (Or.inr ⟨by omega, by omega, rfl, rfl, rfl⟩)))
    refine pc_ite (fun n => absurd n c) (fun _ => ?_)
    refine pc_w (k51 _) (fun r u q => Or.inr (Or.inl ⟨by omega, by omega, q.1, (q.2.2 c).1, (q.2.2 c).2⟩))
theorem lw_R (v1 v2 : Int) (w : Wd) : PC (f_R_law v1 v2 w) (fun r u => LW (w 43 10) (w 43 11) v1 v2 r (u 43 10) (u 43 11)) := by
  unfold f_R_law LW
  refine pc_lw (fun u1 e1 => ?_)
  have t10 : u1 43 10 = w 43 10 := by rw [e1, st_k (by decide)]
  have t11 : u1 43 11 = w 43 11 := by rw [e1, st_k (by decide)]
  rw [in_e, jc_s]
  by_cases c : 0 ≤ v1 ∧ v1 ≤ 1
  · rw [if_pos c]
    refine pc_ite (fun h => absurd h (by decide)) (fun _ => ?_)
    refine pc_ite (fun c1 => ?_) (fun c1 => ?_)
    · unfold f_R_law_26
      rw [in_e, jc_s]
      by_cases c2 : 1 ≤ v2 ∧ v2 ≤ 3
      · rw [if_pos c2]
        refine pc_ite (fun h => absurd h (by decide)) (fun _ => ?_)
        refine pc_ite (fun _ => ?_) (fun n => absurd c1 n)
        unfold f_R_law_49
        refine pc_ite (fun _ => ?_) (fun n => absurd c1 n)
        refine pc_lw (fun u7 e7 => pc_some (Or.inl ⟨c1, c2, t10, ?_, ?_⟩))
        · rw [e7, st_eq]
        · rw [e7, st_k (by decide)]; exact t11
      · rw [if_neg c2]
        exact pc_ite (fun _ => pc_some (Or.inr (Or.inr ⟨by omega, by omega, rfl, t10, t11⟩))) (fun n => absurd rfl n)
    · unfold f_R_law_26
      rw [in_e, jc_s]
      by_cases c2 : 1 ≤ v2 ∧ v2 ≤ 10
      · rw [if_pos c2]
        refine pc_ite (fun h => absurd h (by decide)) (fun _ => ?_)
        refine pc_ite (fun n => absurd n c1) (fun _ => ?_)
        unfold f_R_law_49
        refine pc_ite (fun n => absurd n c1) (fun _ => ?_)
        refine pc_lw (fun u7 e7 => pc_some (Or.inr (Or.inl ⟨by omega, c2, t11, ?_, ?_⟩)))
        · rw [e7, st_k (by decide)]; exact t10
        · rw [e7, st_eq]
      · rw [if_neg c2]
        exact pc_ite (fun _ => pc_some (Or.inr (Or.inr ⟨by omega, by omega, rfl, t10, t11⟩))) (fun n => absurd rfl n)
  · rw [if_neg c]
    exact pc_ite (fun _ => pc_some (Or.inr (Or.inr ⟨by omega, by omega, rfl, t10, t11⟩))) (fun n => absurd rfl n)
/-- grace and seats anew, all else as it was -/
theorem co_gs {w u : Wd} (h : CO w) (f : FR clP coA w u) (e : u 5 7 = u 43 10 ∧ u 5 8 = u 43 11) : CO u := by
  obtain ⟨h1, h2, h3, h4, h5⟩ := h
  have p := f.1
  have a79 := f.2 79 (by decide)
  have a80 := f.2 80 (by decide)
  have a81 := f.2 81 (by decide)
  have q53 := p (5, 3) (by decide)
  have q56 := p (43, 56) (by decide)
  refine ⟨tx_eq h1 (p (1, 1) (by decide)) (p (43, 13) (by decide)) (f.2 2 (by decide)) (f.2 51 (by decide)), ?_, e, ?_, ?_⟩
  · rw [q53, p (43, 0) (by decide)]; exact h2
  · exact km_eq h4 (p (37, 2) (by decide)) (p (37, 3) (by decide)) (p (37, 7) (by decide)) (p (37, 8) (by decide)) a80 a79 a81 (Or.inl ⟨q53, q56⟩)
  · exact km_eq h5 (p (40, 2) (by decide)) (p (40, 3) (by decide)) (p (40, 7) (by decide)) (p (40, 8) (by decide)) a80 a79 a81 (Or.inl ⟨q53, q56⟩)
theorem c_law {w : Wd} {v1 v2 : Int} (h : LI w) (i_v1 : ((-2147483648 : Int) ≤ v1 ∧ v1 ≤ 2147483647)) (i_v2 : ((-2147483648 : Int) ≤ v2 ∧ v2 ≤ 2147483647)) : OK (f_E_law v1 v2 w) (fun r1 u1 => OK (f_R_law v1 v2 u1) (fun r2 u2 => LI u2 ∧ r1 = r2)) := by
  refine ok_w (ok_pc (e_E_law h.1 i_v1 i_v2) (lw_E v1 v2 w)) (fun r1 u1 q1 => ?_)
  obtain ⟨⟨g1, s1⟩, x1⟩ := q1
  refine ok_w (ok_pc (e_R_law s1 i_v1 i_v2) (lw_R v1 v2 u1)) (fun r2 u2 q2 => ?_)
  obtain ⟨⟨g2, s2⟩, x2⟩ := q2
  have e10 : u1 43 10 = w 43 10 := g1.2.1 43 10 rfl
  have e11 : u1 43 11 = w 43 11 := g1.2.1 43 11 rfl
  have t7 : u2 5 7 = u1 5 7 := g2.2.1 5 7 rfl
  have t8 : u2 5 8 = u1 5 8 := g2.2.1 5 8 rfl
  have f := fr_tr (fr_g (P := clP) (A := coA) g1 rfl) (fr_g g2 rfl)
  obtain ⟨hg, hs⟩ := h.2.2.2.1
  unfold LW at x1 x2
  refine ⟨⟨s2, co_gs h.2 f ⟨by omega, by omega⟩⟩, by omega⟩
