/-! KEEP, all of it -/
theorem kbf_new {w u2 : Wd} {c d g m : Nat} (h : FC w) (h8 : 0 ≤ w 43 8 ∧ w 43 8 ≤ 60) (h0 : 0 ≤ w 43 0 ∧ w 43 0 ≤ 10) {x1 x2 : Wd} (hE : KTq w x1 c d g) (hR : KRq x2 u2 m) (fE : u2 c = x1 c ∧ u2 d = x1 d ∧ u2 g = x1 g) (fR : FR [(43, 0), (43, 7), (43, 8), (43, 10), (43, 11)] [46, 47, 48, 49, 50] w x2) (e0 : u2 43 0 = w 43 0) : KBf u2 c d g m := by
  intro _ _
  obtain ⟨hCO, hPP, hHB, hWH, ⟨hp, hwk, hun⟩, hwe, hSN, hUB, hK0, hK1, hgr, hse⟩ := h
  obtain ⟨_, _, a4, a5, a6, a7, a8, a9, ad, ag⟩ := hE
  obtain ⟨_, _, b1, b2, b3⟩ := hR
  obtain ⟨f1, f2, f3⟩ := fE
  have r46 := fR.2 46 (by decide)
  have r47 := fR.2 47 (by decide)
  have r48 := fR.2 48 (by decide)
  have r49 := fR.2 49 (by decide)
  have r50 := fR.2 50 (by decide)
  have q7 : x2 43 7 = w 43 7 := fR.1 (43, 7) (by decide)
  have q8 : x2 43 8 = w 43 8 := fR.1 (43, 8) (by decide)
  rw [r47, r48, r49] at b1
  have hid : ∀ j : Nat, j < 10 → u2 79 (105 * m + 31 + j) = if w 46 j = 0 then 0 else 1 := fun j hj => by
    rw [b3 _ (by omega) (by omega)]
    unfold KF
    rw [if_neg (by omega), if_neg (by omega), if_neg (by omega), if_neg (by omega), if_pos (show 105 * m + 31 ≤ 105 * m + 31 + j ∧ 105 * m + 31 + j < 105 * m + 41 by omega), show 105 * m + 31 + j - (105 * m + 31) = j by omega, r46]
  have wek : ∀ t : Nat, t < 61 → u2 79 (105 * m + 44 + t) = w 50 t := fun t ht => by
    rw [b3 _ (by omega) (by omega)]
    unfold KF
    rw [if_pos (by omega), show 105 * m + 44 + t - (105 * m + 44) = t by omega, r50]
  have k43 : u2 79 (105 * m + 43) = w 43 8 := by
    rw [b3 _ (by omega) (by omega)]
    unfold KF
    rw [if_neg (by omega), if_pos rfl, q8]
  have c9 : u2 c 9 = w 43 8 := by rw [f1, a9]; exact hwk
  rw [e0]
  refine ⟨?_, ?_, fun j hj => ?_, ?_, ⟨?_, ?_, ?_⟩, fun j hj => ?_, fun t ht ht2 => ?_, ?_, ⟨?_, ?_⟩, ?_, ?_⟩
  · rw [f1, a4]
    exact wh_eq hWH (fun k hk => ((b1 k (by omega)).1).symm)
  · rw [f1, a5]
    refine b10_w hHB (fun k hk => ?_)
    unfold hB
    dsimp only
    rw [hid k hk]
    by_cases c : w 46 k = 0
    · rw [if_pos c, c]
    · rw [if_neg c, beq_eq_false_iff_ne.mpr c]; rfl
  · rw [hid j (by omega)]
    by_cases c : w 46 j = 0
    · rw [if_pos c]; exact Or.inl rfl
    · rw [if_neg c]; exact Or.inr rfl
  · rw [f1, a6, b2, q7]; exact hp
  · rw [c9, k43]
  · rw [c9]; exact h8.1
  · rw [c9]; exact h8.2
  · rw [f2, ad j (by omega), (b1 j (by omega)).2.1]; exact (hPP j hj).2.2
  · rw [f3, ag t ht, wek t ht]; exact hwe t (by omega)
  · rw [c9]
    exact sn_eq hSN h8.1 (fun j hj => ⟨((b1 j (by omega)).1).symm, ((b1 j (by omega)).2.1).symm, ((b1 j (by omega)).2.2).symm⟩) (fun t ht => (wek t (by omega)).symm)
  · rw [f1, a7, hCO.2.2.1.1]; exact hgr.1
  · rw [f1, a7, hCO.2.2.1.1]; exact hgr.2
  · rw [f1, a8, hCO.2.2.1.2]; exact hse.1
  · rw [f1, a8, hCO.2.2.1.2]; exact hse.2
theorem kbf_old {w u : Wd} {c d g m : Nat} (h : KBf w c d g m) (ec : u c = w c) (ed : u d = w d) (eg : u g = w g) (e53 : u 5 3 = w 5 3) (e0 : u 43 0 = w 43 0) (h10 : w 43 0 ≤ 10) (e79 : ∀ k, k < 105 → u 79 (105 * m + k) = w 79 (105 * m + k)) : KBf u c d g m := by
  intro h1 h2
  rw [ec] at h1 h2
  rw [e53] at h2
  obtain ⟨a1, a2, a3, a4, ⟨a5, a50, a51⟩, a6, a7, a8, a9, a10⟩ := h h1 h2
  have y : ∀ k, k < 105 → u 79 (105 * m + k) = w 79 (105 * m + k) := e79
  rw [ec, ed, eg, e0]
  refine ⟨wh_eq a1 (fun k hk => ?_), b10_w a2 (fun k hk => ?_), fun j hj => ?_, ?_, ⟨?_, a50, a51⟩, fun j hj => ?_, fun t ht ht2 => ?_, ?_, a9, a10⟩
  · exact (y (3 * k) (by omega)).symm
  · unfold hB
    dsimp only
    rw [show 105 * m + 31 + k = 105 * m + (31 + k) by omega, y (31 + k) (by omega)]
  · have := a3 j hj
    rw [show 105 * m + 31 + j = 105 * m + (31 + j) by omega] at this ⊢
    rw [y (31 + j) (by omega)]; exact this
  · rw [y 30 (by decide)]; exact a4
  · rw [y 43 (by decide)]; exact a5
  · have := a6 j hj
    rw [show 105 * m + 3 * j + 1 = 105 * m + (3 * j + 1) by omega] at this ⊢
    rw [y _ (by omega)]; exact this
  · have := a7 t ht ht2
    rw [show 105 * m + 44 + t = 105 * m + (44 + t) by omega] at this ⊢
    rw [y _ (by omega)]; exact this
  · refine sn_eq a8 a50 (fun j hj => ⟨?_, ?_, ?_⟩) (fun t ht => ?_)
    · exact (y (3 * j) (by omega)).symm
    · rw [show 105 * m + 3 * j + 1 = 105 * m + (3 * j + 1) by omega]; exact (y _ (by omega)).symm
    · rw [show 105 * m + 3 * j + 2 = 105 * m + (3 * j + 2) by omega]; exact (y _ (by omega)).symm
    · rw [show 105 * m + 44 + t = 105 * m + (44 + t) by omega]; exact (y _ (by omega)).symm
def kdP : List (Nat × Nat) := [(5, 3), (5, 4), (5, 5), (5, 6), (15, 3), (15, 4), (43, 0), (43, 7), (43, 8), (43, 10), (43, 11), (43, 32)]
def kdA : List Nat := [6, 7, 8, 16, 17, 18, 44, 45, 46, 47, 48, 49, 50, 59]
theorem fc_kd {w u : Wd} (h : FC w) (c0 : CO u) (f : FR kdP kdA w u) (k0 : KBf u 37 38 39 0) (k1 : KBf u 40 41 42 1) : FC u := by
  have p := f.1
  have q53 := p (5, 3) (by decide)
  have q54 := p (5, 4) (by decide)
  have q55 := p (5, 5) (by decide)
  have q56 := p (5, 6) (by decide)
  have q153 := p (15, 3) (by decide)
  have q154 := p (15, 4) (by decide)
  have q0 := p (43, 0) (by decide)
  have q7 := p (43, 7) (by decide)
  have q8 := p (43, 8) (by decide)
  have q10 := p (43, 10) (by decide)
  have q11 := p (43, 11) (by decide)
  have q32 := p (43, 32) (by decide)
  simp only at q53 q54 q55 q56 q153 q154 q0 q7 q8 q10 q11 q32
  obtain ⟨hCO, hPP, hHB, hWH, h5, hwe, hSN, hUB, hK0, hK1, hgs⟩ := h
  refine ⟨c0, ?_, ?_, ?_, ?_, ?_, ?_, ?_, k0, k1, ?_⟩
  · unfold PPL
    rw [q0, f.2 6 (by decide), f.2 7 (by decide), f.2 8 (by decide), f.2 44 (by decide), f.2 45 (by decide), f.2 48 (by decide)]
    exact hPP
  · rw [q55, q0, f.2 46 (by decide)]; exact hHB
  · rw [q54, q0, f.2 47 (by decide)]; exact hWH
  · rw [q56, q153, q154, q7, q8, q32]; exact h5
  · rw [q8, f.2 16 (by decide), f.2 50 (by decide)]; exact hwe
  · rw [q0, q8, f.2 47 (by decide), f.2 48 (by decide), f.2 49 (by decide), f.2 50 (by decide)]; exact hSN
  · unfold UB wki at hUB ⊢
    rw [q0, q8, q32, f.2 17 (by decide), f.2 18 (by decide), f.2 47 (by decide), f.2 48 (by decide), f.2 50 (by decide), f.2 59 (by decide)]
    exact hUB
  · rw [q10, q11]; exact hgs
theorem k_keep {w : Wd} {v1 : Int} (h : LF w) (i_v1 : ((-2147483648 : Int) ≤ v1 ∧ v1 ≤ 2147483647)) : OK (f_E_keep v1 w) (fun r1 u1 => OK (f_R_keep v1 u1) (fun r2 u2 => LF u2 ∧ r1 = r2)) := by
  have a0 : (0 : Int) ≤ w 43 0 ∧ w 43 0 ≤ 10 := h.1.1.1 43 0
  have a8 : (0 : Int) ≤ w 43 8 ∧ w 43 8 ≤ 60 := h.1.1.1 43 8
  refine ok_w (ok_pc (c_keep (lf_li h) i_v1) (pc_and (pc_ok (e_E_keep h.1 i_v1)) (kp_E (g_self h.1.1)))) (fun r1 u1 q1 => ?_)
  obtain ⟨o1, ⟨g1, s1⟩, x1⟩ := q1
  refine ok_w (ok_pc o1 (pc_and (pc_ok (e_R_keep s1 i_v1)) (kp_R (g_self s1.1)))) (fun r2 u2 q2 => ?_)
  obtain ⟨⟨hL, hr⟩, ⟨g2, s2⟩, x2⟩ := q2
  refine ⟨⟨s2, ?_⟩, hr⟩
  have hF := h.2
  obtain ⟨_, _, _, _, _, _, _, _, hK0, hK1, _⟩ := hF
  have f := fr_tr (fr_g (P := kdP) (A := kdA) g1 rfl) (fr_g g2 rfl)
  have f1 := fr_g (P := [(43, 0), (43, 7), (43, 8), (43, 10), (43, 11)]) (A := [46, 47, 48, 49, 50]) g1 rfl
  have e0 : u2 43 0 = w 43 0 := f.1 (43, 0) (by decide)
  have e53 : u2 5 3 = w 5 3 := f.1 (5, 3) (by decide)
  have rw2 : ∀ c ∈ [37, 38, 39, 40, 41, 42], u2 c = u1 c := (fr_g (P := []) (A := [37, 38, 39, 40, 41, 42]) g2 rfl).2
  have r79 : u1 79 = w 79 := funext fun k => g1.2.1 79 k (mS_ar rfl k)
  rw [r79] at x2
  rcases x1 with ⟨n1, a1, b1⟩ | ⟨n1, a1, b1, b2, b3, b4⟩ | ⟨n1, a1, b1, b2, b3, b4⟩
  · rcases x2 with ⟨_, a2, c1, c2, c3⟩ | ⟨n2, _⟩
    · refine fc_kd h.2 hL.2 f (kbf_old hK0 ?_ ?_ ?_ e53 e0 a0.2 (fun k _ => by rw [c1])) (kbf_old hK1 ?_ ?_ ?_ e53 e0 a0.2 (fun k _ => by rw [c1]))
      · rw [rw2 37 (by decide), b1]
      · rw [rw2 38 (by decide), b1]
      · rw [rw2 39 (by decide), b1]
      · rw [rw2 40 (by decide), b1]
      · rw [rw2 41 (by decide), b1]
      · rw [rw2 42 (by decide), b1]
    · exact absurd n2 n1
  · rcases x2 with ⟨n2, _⟩ | ⟨n2, a2, c1, c2, c3⟩
    · exfalso; omega
    · have hv : v1.toNat = 0 := by omega
      rw [hv] at c1 c2 c3
      refine fc_kd h.2 hL.2 f (kbf_new h.2 a8 a0 b1 c1 ⟨rw2 37 (by decide), rw2 38 (by decide), rw2 39 (by decide)⟩ f1 e0) (kbf_old hK1 ?_ ?_ ?_ e53 e0 a0.2 (fun k _ => c3 _ (by omega)))
      · rw [rw2 40 (by decide), b2]
      · rw [rw2 41 (by decide), b3]
      · rw [rw2 42 (by decide), b4]
  · rcases x2 with ⟨n2, _⟩ | ⟨n2, a2, c1, c2, c3⟩
    · exfalso; omega
    · have hv : v1.toNat = 1 := by omega
      rw [hv] at c1 c2 c3
      refine fc_kd h.2 hL.2 f (kbf_old hK0 ?_ ?_ ?_ e53 e0 a0.2 (fun k _ => c3 _ (by omega))) (kbf_new h.2 a8 a0 b1 c1 ⟨rw2 40 (by decide), rw2 41 (by decide), rw2 42 (by decide)⟩ f1 e0)
      · rw [rw2 37 (by decide), b2]
      · rw [rw2 38 (by decide), b3]
      · rw [rw2 39 (by decide), b4]
/-! AGAIN, all of it -/
def agP : List (Nat × Nat) := [(5, 3), (37, 2), (37, 3), (37, 4), (37, 5), (37, 6), (37, 7), (37, 8), (37, 9), (40, 2), (40, 3), (40, 4), (40, 5), (40, 6), (40, 7), (40, 8), (40, 9), (43, 0)]
def agA : List Nat := [6, 7, 38, 39, 41, 42, 44, 45, 79]
theorem fc_ag {w u1 u2 : Wd} {c d g m : Nat} (h : FC w) (c0 : CO u2) (hk : KBf w c d g m) (hfit : w c 2 ≠ 0 ∧ w c 3 = w 5 3) (hg7 : w c 7 = w 79 (105 * m + 41) ∧ w c 8 = w 79 (105 * m + 42)) (hE : GBq w u1 c d g) (hR : RAq w u2 m) (f : FR agP agA w u2) (fE : FR [(5, 4), (5, 5), (5, 6), (5, 7), (5, 8), (15, 3), (15, 4)] [8, 16] u1 u2) (h10 : w 43 0 ≤ 10) (k0 : KBf u2 37 38 39 0) (k1 : KBf u2 40 41 42 1) : FC u2 := by
  obtain ⟨hCO, hPP, hHB, hWH, h5, hwe, hSN, hUB, hK0, hK1, hgs⟩ := h
  obtain ⟨a1, a2, a3, a4, ⟨a5, a50, a51⟩, a6, a7, a8, a9, a10⟩ := hk hfit.1 hfit.2
  obtain ⟨b4, b5, b6, b7, b8, b9, b15, bd, bg⟩ := hE
  obtain ⟨r1, r7, r46, r10, r11, r8, r32, r50⟩ := hR
  have q0 : u2 43 0 = w 43 0 := f.1 (43, 0) (by decide)
  have y54 : u2 5 4 = w c 4 := (fE.1 (5, 4) (by decide)).trans b4
  have y55 : u2 5 5 = w c 5 := (fE.1 (5, 5) (by decide)).trans b5
  have y56 : u2 5 6 = w c 6 := (fE.1 (5, 6) (by decide)).trans b6
  have y153 : u2 15 3 = w c 9 := (fE.1 (15, 3) (by decide)).trans b9
  have y154 : u2 15 4 = 0 := (fE.1 (15, 4) (by decide)).trans b15
  have y8 := fE.2 8 (by decide)
  have y16 := fE.2 16 (by decide)
  refine ⟨c0, fun j hj => ?_, ?_, ?_, ⟨?_, ?_, ?_⟩, fun t ht => ?_, ?_, fun t ht => ?_, k0, k1, ⟨?_, ?_⟩, ?_, ?_⟩
  · rw [q0] at hj
    rw [f.2 6 (by decide), f.2 7 (by decide), f.2 44 (by decide), f.2 45 (by decide), y8, bd j (by omega), (r1 j hj).2.1]
    obtain ⟨z1, z2, _⟩ := hPP j hj
    exact ⟨z1, z2, a6 j hj⟩
  · rw [y55, q0]
    refine b10_w a2 (fun k hk => hB_eq (fun j hj => ?_) k)
    rw [r46 j hj]
    rcases a3 j hj with e | e
    · rw [e]; rfl
    · rw [e]; rfl
  · rw [y54, q0]
    exact wh_eq a1 (fun k hk => ((r1 k hk).1).symm)
  · rw [y56, r7]; exact a4
  · rw [y153, r8]; exact a5
  · rw [y154, r32]
  · rw [r8, ← a5] at ht
    rw [y16, bg t (by omega), r50 t (by omega)]
    exact a7 t (by omega) ht
  · rw [q0, r8, ← a5]
    exact sn_eq a8 a50 (fun j hj => ⟨((r1 j hj).1).symm, ((r1 j hj).2.1).symm, ((r1 j hj).2.2).symm⟩) (fun t ht => (r50 t (by omega)).symm)
  · rw [r32] at ht; omega
  · rw [r10, ← hg7.1]; exact a9.1
  · rw [r10, ← hg7.1]; exact a9.2
  · rw [r11, ← hg7.2]; exact a10.1
  · rw [r11, ← hg7.2]; exact a10.2
theorem kbf_ag {w u : Wd} {c d g m : Nat} (hk : KBf w c d g m) (f : FR [(c, 2), (c, 3), (c, 4), (c, 5), (c, 6), (c, 7), (c, 8), (c, 9), (5, 3), (43, 0)] [d, g, 79] w u) : KBf u c d g m := by
  have p := f.1
  have q2 : u c 2 = w c 2 := p (c, 2) (by simp)
  have q3 : u c 3 = w c 3 := p (c, 3) (by simp)
  have q4 : u c 4 = w c 4 := p (c, 4) (by simp)
  have q5 : u c 5 = w c 5 := p (c, 5) (by simp)
  have q6 : u c 6 = w c 6 := p (c, 6) (by simp)
  have q7 : u c 7 = w c 7 := p (c, 7) (by simp)
  have q8 : u c 8 = w c 8 := p (c, 8) (by simp)
  have q9 : u c 9 = w c 9 := p (c, 9) (by simp)
  have q53 : u 5 3 = w 5 3 := p (5, 3) (by simp)
  have q0 : u 43 0 = w 43 0 := p (43, 0) (by simp)
  have d1 := f.2 d (by simp)
  have g1 := f.2 g (by simp)
  have e79 := f.2 79 (by simp)
  unfold KBf
  rw [q2, q3, q4, q5, q6, q7, q8, q9, q53, q0, d1, g1, e79]
  exact hk
theorem k_again {w : Wd} {v1 : Int} (h : LF w) (i_v1 : ((-2147483648 : Int) ≤ v1 ∧ v1 ≤ 2147483647)) : OK (f_E_again v1 w) (fun r1 u1 => OK (f_R_again v1 u1) (fun r2 u2 => LF u2 ∧ r1 = r2)) := by
  have a0 : (0 : Int) ≤ w 43 0 ∧ w 43 0 ≤ 10 := h.1.1.1 43 0
  refine ok_w (ok_pc (c_again (lf_li h) i_v1) (pc_and (pc_ok (e_E_again h.1 i_v1)) ag_E)) (fun r1 u1 q1 => ?_)
  obtain ⟨o1, ⟨g1, s1⟩, x1⟩ := q1
  refine ok_w (ok_pc o1 (pc_and (pc_ok (e_R_again s1 i_v1)) (ag_R (g_self s1.1)))) (fun r2 u2 q2 => ?_)
  obtain ⟨⟨hL, hr⟩, ⟨g2, s2, _⟩, x2⟩ := q2
  refine ⟨⟨s2, ?_⟩, hr⟩
  have hF := h.2
  obtain ⟨hCO, _, _, _, _, _, _, _, hK0, hK1, _⟩ := hF
  obtain ⟨hTX, hPe, hGS, hM0, hM1⟩ := hCO
  have f := fr_tr (fr_g (P := agP) (A := agA) g1 rfl) (fr_g g2 rfl)
  have fE := fr_g (P := [(5, 4), (5, 5), (5, 6), (5, 7), (5, 8), (15, 3), (15, 4)]) (A := [8, 16]) g2 rfl
  have k0 := kbf_ag hK0 (fr_sub f (by decide) (by decide))
  have k1 := kbf_ag hK1 (fr_sub f (by decide) (by decide))
  have fw := fr_g (P := [(43, 0), (43, 56)]) (A := [79, 80, 81]) g1 rfl
  have w79 := fw.2 79 (by decide)
  have w80 := fw.2 80 (by decide)
  have w81 := fw.2 81 (by decide)
  have w56 : u1 43 56 = w 43 56 := fw.1 (43, 56) (by decide)
  have w0 : u1 43 0 = w 43 0 := fw.1 (43, 0) (by decide)
  have raq : ∀ {m : Nat}, RAq u1 u2 m → RAq w u2 m := fun hq => by
    unfold RAq at hq ⊢
    rw [w0, w79] at hq
    exact hq
  rcases x1 with ⟨n0, n1, a1, b1⟩ | ⟨⟨n0, n1⟩, a1, b1⟩ | ⟨⟨n0, n1⟩, a1, b1⟩
  · rcases x2 with ⟨n2, a2, b2⟩ | ⟨_, a2, _⟩
    · rw [b1] at b2
      refine fc_fr2 h.2 hL.2 ⟨fun p hp => ?_, fun c hc => ?_⟩
      · rw [b2]
        simp only [fdP, List.mem_cons, List.not_mem_nil, or_false] at hp
        unfold st
        rw [if_neg]
        rintro ⟨e1, e2⟩
        obtain ⟨p1, p2⟩ := p
        simp only at e1 e2
        subst e1; subst e2
        simp at hp
      · rw [b2]
        refine st_row ?_
        simp only [fdA, List.mem_cons, List.not_mem_nil, or_false] at hc
        omega
    · exfalso; omega
  · rcases x2 with ⟨_, a2, _⟩ | ⟨⟨m0, m1⟩, a2, b2⟩
    · exfalso; omega
    · subst n0
      obtain ⟨k7, k8, _⟩ := hM0.2 n1.1
      exact fc_ag h.2 hL.2 hK0 n1 ⟨k7, k8⟩ b1 (raq b2) f fE a0.2 k0 k1
  · rcases x2 with ⟨_, a2, _⟩ | ⟨⟨m0, m1⟩, a2, b2⟩
    · exfalso; omega
    · subst n0
      obtain ⟨k7, k8, _⟩ := hM1.2 n1.1
      exact fc_ag h.2 hL.2 hK1 n1 ⟨k7, k8⟩ b1 (raq b2) f fE a0.2 k0 k1
