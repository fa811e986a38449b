/-! WHAT BOTH HAVE IN COMMON, where who is what stays -/
def feP : List (Nat × Nat) := [(5, 3), (5, 4), (5, 6), (15, 3), (15, 4), (37, 2), (37, 3), (37, 4), (37, 5), (37, 6), (37, 7), (37, 8), (37, 9), (40, 2), (40, 3), (40, 4), (40, 5), (40, 6), (40, 7), (40, 8), (40, 9), (43, 0), (43, 7), (43, 8), (43, 32)]
def feA : List Nat := [16, 17, 18, 38, 39, 41, 42, 47, 48, 49, 50, 59, 79]
theorem fc_gen {w u : Wd} (h : FC w) (c0 : CO u) (hP : PPL u) (hH : B10 (u 5 5) (hB (u 43 0) (u 46))) (hg : (1 ≤ u 43 10 ∧ u 43 10 ≤ 3) ∧ 1 ≤ u 43 11 ∧ u 43 11 ≤ 10) (f : FR feP feA w u) : FC u := by
  have p := f.1
  have p5_3 := p (5, 3) (by decide)
  have p5_4 := p (5, 4) (by decide)
  have p5_6 := p (5, 6) (by decide)
  have p15_3 := p (15, 3) (by decide)
  have p15_4 := p (15, 4) (by decide)
  have p37_2 := p (37, 2) (by decide)
  have p37_3 := p (37, 3) (by decide)
  have p37_4 := p (37, 4) (by decide)
  have p37_5 := p (37, 5) (by decide)
  have p37_6 := p (37, 6) (by decide)
  have p37_7 := p (37, 7) (by decide)
  have p37_8 := p (37, 8) (by decide)
  have p37_9 := p (37, 9) (by decide)
  have p40_2 := p (40, 2) (by decide)
  have p40_3 := p (40, 3) (by decide)
  have p40_4 := p (40, 4) (by decide)
  have p40_5 := p (40, 5) (by decide)
  have p40_6 := p (40, 6) (by decide)
  have p40_7 := p (40, 7) (by decide)
  have p40_8 := p (40, 8) (by decide)
  have p40_9 := p (40, 9) (by decide)
  have p43_0 := p (43, 0) (by decide)
  have p43_7 := p (43, 7) (by decide)
  have p43_8 := p (43, 8) (by decide)
  have p43_32 := p (43, 32) (by decide)
  have a16 := f.2 16 (by decide)
  have a17 := f.2 17 (by decide)
  have a18 := f.2 18 (by decide)
  have a38 := f.2 38 (by decide)
  have a39 := f.2 39 (by decide)
  have a41 := f.2 41 (by decide)
  have a42 := f.2 42 (by decide)
  have a47 := f.2 47 (by decide)
  have a48 := f.2 48 (by decide)
  have a49 := f.2 49 (by decide)
  have a50 := f.2 50 (by decide)
  have a59 := f.2 59 (by decide)
  have a79 := f.2 79 (by decide)
  refine ⟨c0, hP, hH, ?_⟩
  obtain ⟨_, _, _, h4, h5, h6, h7, h8, h9, h10, _⟩ := h
  unfold UB wki at h8
  unfold KBf at h9 h10
  unfold UB KBf wki
  rw [p5_3, p5_4, p5_6, p15_3, p15_4, p37_2, p37_3, p37_4, p37_5, p37_6, p37_7, p37_8, p37_9, p40_2, p40_3, p40_4, p40_5, p40_6, p40_7, p40_8, p40_9, p43_0, p43_7, p43_8, p43_32, a16, a17, a18, a38, a39, a41, a42, a47, a48, a49, a50, a59, a79]
  exact ⟨h4, h5, h6, h7, h8, h9, h10, hg⟩
theorem sn_eq {P wk : Int} {s b f wr s2 b2 f2 wr2 : Nat → Int} (h : SN P s b f wr wk) (h0 : 0 ≤ wk) (e : ∀ j : Nat, (j : Int) < P → s j = s2 j ∧ b j = b2 j ∧ f j = f2 j) (ew : ∀ t : Nat, (t : Int) ≤ wk → wr t = wr2 t) : SN P s2 b2 f2 wr2 wk := by
  obtain ⟨n1, n2, n3, n4⟩ := h
  refine ⟨fun j hj hs => ?_, fun j hj => ?_, ?_, fun t ht => ?_⟩
  · obtain ⟨e1, e2, e3⟩ := e j hj
    rw [← e1] at hs
    obtain ⟨x1, x2⟩ := n1 j hj hs
    exact ⟨by rw [← e2]; exact x1, fun t ht => by rw [← ew t ht]; exact x2 t ht⟩
  · rw [← (e j hj).2.2, n2 j hj]
    exact fw_eq (fun t ht => ew t (by omega))
  · rw [← ew wk.toNat (by omega)]
    exact b10_w n3 (fun k _ => gs_eq (fun k hk => (e k hk).1) k)
  · rw [← ew t ht]; exact n4 t ht
def wt (x p v : Int) : Int := if v = 0 then iand x (ixor (ishl 1 p) (-1)) else ior x (ishl 1 p)
theorem wt_e (x p v : Int) (w : Wd) : f_E_with x p v w = some (wt x p v, w) := by
  unfold f_E_with wt
  by_cases h : v = 0
  · rw [if_pos h, if_pos h]
  · rw [if_neg h, if_neg h]
/-- knowing after meeting -/
def mk2 (kn : Nat → Int) (a c v : Int) (j : Nat) : Int := if j = c.toNat then wt (kn c.toNat) a v else if j = a.toNat then wt (kn a.toNat) c v else kn j
theorem mf_E {v1 v2 v3 : Int} {w : Wd} (hP : w 5 3 ≤ 10) : PC (f_E_meet v1 v2 v3 w) (fun _ u => (mt (w 5 3) v1 v2 = 0 ∧ u = w) ∨ (mt (w 5 3) v1 v2 = 1 ∧ (∀ j, u 7 j = mk2 (w 7) v1 v2 v3 j) ∧ ∀ c, c ≠ 7 → c ≠ 28 → u c = w c)) := by
  unfold f_E_meet
  refine pc_call (at_pc v1 v2 w) (fun r1 u2 q => ?_)
  rw [q.1]
  have h01 := mt_01 (w 5 3) v1 v2
  refine pc_ite (fun c => pc_some (Or.inl ⟨q.2.symm.trans c, rfl⟩)) (fun c => ?_)
  have h1 : mt (w 5 3) v1 v2 = 1 := by have := q.2; omega
  have hv : 0 ≤ v1 ∧ v1 < w 5 3 ∧ 0 ≤ v2 ∧ v2 < w 5 3 ∧ ¬ v1 = v2 := by
    unfold mt at h1
    by_cases hc : 0 ≤ v1 ∧ v1 < w 5 3 ∧ 0 ≤ v2 ∧ v2 < w 5 3 ∧ ¬ v1 = v2
    · exact hc
    · rw [if_neg hc] at h1; exact absurd h1 (by decide)
  refine pc_gd (fun _ => ?_)
  rw [wt_e, jc_s]
  refine pc_gd (fun _ => ?_)
  refine pc_lw (fun u5 e5 => ?_)
  refine pc_gd (fun _ => ?_)
  rw [wt_e, jc_s]
  refine pc_gd (fun _ => ?_)
  refine pc_lw (fun u8 e8 => ?_)
  refine pc_call (sf_pc u8) (fun r9 u10 y => pc_some (Or.inr ⟨h1, fun j => ?_, fun c h7 h28 => ?_⟩))
  · rw [y 7 (by decide), e8]
    have t2 : u5 7 v2.toNat = w 7 v2.toNat := by rw [e5, st_k (by omega)]
    rw [t2]
    unfold mk2
    by_cases cj : j = v2.toNat
    · rw [if_pos cj, cj, st_eq]
    · rw [if_neg cj, st_k cj, e5]
      by_cases c1 : j = v1.toNat
      · rw [if_pos c1, c1, st_eq]
      · rw [if_neg c1, st_k c1]
  · rw [y c h28, e8, st_row h7, e5, st_row h7]
theorem mf_R {v1 v2 v3 : Int} {w : Wd} (hP : 0 ≤ w 43 0 ∧ w 43 0 ≤ 10) : PC (f_R_meet v1 v2 v3 w) (fun _ u => (mt (w 43 0) v1 v2 = 0 ∧ u = st w 43 16 0) ∨ (mt (w 43 0) v1 v2 = 1 ∧ (∀ j, u 45 j = mk2 (w 45) v1 v2 v3 j) ∧ ∀ c k, c ≠ 45 → ¬ (c = 43 ∧ k = 16) → u c k = w c k)) := by
  unfold f_R_meet
  refine pc_lw (fun u1 e1 => ?_)
  have t0 : u1 43 0 = w 43 0 := by rw [e1, st_k (by decide)]
  have t45 : u1 45 = w 45 := by rw [e1]; exact st_row (by decide)
  refine pc_call (ar_pc v1 v2 u1 (by omega)) (fun r2 u3 q => ?_)
  rw [q.1]
  rw [t0] at q
  have h01 := mt_01 (w 43 0) v1 v2
  refine pc_ite (fun c => pc_some (Or.inl ⟨q.2.symm.trans c, e1⟩)) (fun c => ?_)
  have h1 : mt (w 43 0) v1 v2 = 1 := by have := q.2; omega
  have hv : 0 ≤ v1 ∧ v1 < w 43 0 ∧ 0 ≤ v2 ∧ v2 < w 43 0 ∧ ¬ v1 = v2 := by
    unfold mt at h1
    by_cases hc : 0 ≤ v1 ∧ v1 < w 43 0 ∧ 0 ≤ v2 ∧ v2 < w 43 0 ∧ ¬ v1 = v2
    · exact hc
    · rw [if_neg hc] at h1; exact absurd h1 (by decide)
  have fin : ∀ {s : Int} {u4 : Wd}, u4 = st u1 45 v1.toNat (wt (w 45 v1.toNat) v2 v3) → s = wt (u4 45 v2.toNat) v1 v3 → PC (f_R_meet_85 v2 s u4) (fun _ u => (mt (w 43 0) v1 v2 = 0 ∧ u = st w 43 16 0) ∨ (mt (w 43 0) v1 v2 = 1 ∧ (∀ j, u 45 j = mk2 (w 45) v1 v2 v3 j) ∧ ∀ c k, c ≠ 45 → ¬ (c = 43 ∧ k = 16) → u c k = w c k)) := by
    intro s u4 e4 es
    unfold f_R_meet_85
    refine pc_gd (fun _ => ?_)
    refine pc_lw (fun u5 e5 => pc_some (Or.inr ⟨h1, fun j => ?_, fun c k h45 h16 => ?_⟩))
    · have t2 : u4 45 v2.toNat = w 45 v2.toNat := by rw [e4, st_k (by omega), t45]
      rw [e5, es, t2]
      unfold mk2
      by_cases cj : j = v2.toNat
      · rw [if_pos cj, cj, st_eq]
      · rw [if_neg cj, st_k cj, e4]
        by_cases c1 : j = v1.toNat
        · rw [if_pos c1, c1, st_eq]
        · rw [if_neg c1, st_k c1, t45]
    · rw [e5, st_c h45, e4, st_c h45, e1]; unfold st; rw [if_neg h16]
  have nx : ∀ {s : Int}, s = wt (w 45 v1.toNat) v2 v3 → PC (f_R_meet_50 v1 v2 v3 v1 s u1) (fun _ u => (mt (w 43 0) v1 v2 = 0 ∧ u = st w 43 16 0) ∨ (mt (w 43 0) v1 v2 = 1 ∧ (∀ j, u 45 j = mk2 (w 45) v1 v2 v3 j) ∧ ∀ c k, c ≠ 45 → ¬ (c = 43 ∧ k = 16) → u c k = w c k)) := by
    intro s es
    unfold f_R_meet_50
    refine pc_gd (fun _ => ?_)
    refine pc_lw (fun u4 e4 => ?_)
    rw [es] at e4
    refine pc_ite (fun c3 => pc_gd (fun _ => fin e4 ?_)) (fun c3 => pc_gd (fun _ => fin e4 ?_))
    · unfold wt; rw [if_pos c3]
    · unfold wt; rw [if_neg c3]
  rw [t45]
  refine pc_ite (fun c3 => pc_gd (fun _ => nx ?_)) (fun c3 => pc_gd (fun _ => nx ?_))
  · unfold wt; rw [if_pos c3]
  · unfold wt; rw [if_neg c3]
theorem k_meet {w : Wd} {v1 v2 v3 : Int} (h : LF w) (i_v1 : ((-2147483648 : Int) ≤ v1 ∧ v1 ≤ 2147483647)) (i_v2 : ((-2147483648 : Int) ≤ v2 ∧ v2 ≤ 2147483647)) (i_v3 : ((0 : Int) ≤ v3 ∧ v3 ≤ 1)) : OK (f_E_meet v1 v2 v3 w) (fun r1 u1 => OK (f_R_meet v1 v2 v3 u1) (fun r2 u2 => LF u2 ∧ r1 = r2)) := by
  have a5 : (0 : Int) ≤ w 5 3 ∧ w 5 3 ≤ 10 := h.1.1.1 5 3
  refine ok_w (ok_pc (c_meet (lf_li h) i_v1 i_v2 i_v3) (pc_and (pc_ok (e_E_meet h.1 i_v1 i_v2 i_v3)) (mf_E a5.2))) (fun r1 u1 q1 => ?_)
  obtain ⟨o1, ⟨g1, s1⟩, x1⟩ := q1
  refine ok_w (ok_pc o1 (pc_and (pc_ok (e_R_meet s1 i_v1 i_v2 i_v3)) (mf_R (s1.1.1 43 0)))) (fun r2 u2 q2 => ?_)
  obtain ⟨⟨hL, hr⟩, ⟨g2, s2⟩, x2⟩ := q2
  refine ⟨⟨s2, ?_⟩, hr⟩
  have hF := h.2
  obtain ⟨hCO, hPP, hHB, hWH, _, _, _, _, _, _, hgr, hse⟩ := hF
  have f := fr_tr (fr_g (P := (5, 5) :: (43, 10) :: (43, 11) :: feP) (A := 6 :: 8 :: 44 :: 46 :: feA) g1 rfl) (fr_g g2 rfl)
  have e0 : u2 43 0 = w 43 0 := f.1 (43, 0) (by decide)
  have e10 : u2 43 10 = w 43 10 := f.1 (43, 10) (by decide)
  have e11 : u2 43 11 = w 43 11 := f.1 (43, 11) (by decide)
  refine fc_gen h.2 hL.2 (fun j hj => ?_) ?_ ⟨by rw [e10]; exact hgr, by rw [e11]; exact hse⟩ (fr_sub f (by decide) (by decide))
  · rw [e0] at hj
    obtain ⟨y1, y2, y3⟩ := hPP j hj
    rw [f.2 6 (by decide), f.2 8 (by decide), f.2 44 (by decide), f.2 48 (by decide)]
    refine ⟨y1, ?_, y3⟩
    have e45 : u1 45 = w 45 := funext fun k => g1.2.1 45 k (mS_ar rfl k)
    have e7 : u2 7 = u1 7 := funext fun k => g2.2.1 7 k (mS_ar rfl k)
    have e01 : u1 43 0 = w 43 0 := g1.2.1 43 0 rfl
    rw [e7]
    rw [e01, ← hCO.2.1] at x2
    rcases x1 with ⟨m1, b1⟩ | ⟨m1, b1, _⟩
    · rcases x2 with ⟨m2, b2⟩ | ⟨m2, _⟩
      · rw [b2, st_c (by decide), e45, b1]; exact y2
      · omega
    · rcases x2 with ⟨m2, _⟩ | ⟨m2, b2, _⟩
      · omega
      · have hv : 0 ≤ v1 ∧ v1 < w 5 3 ∧ 0 ≤ v2 ∧ v2 < w 5 3 ∧ ¬ v1 = v2 := by
          unfold mt at m1
          by_cases hc : 0 ≤ v1 ∧ v1 < w 5 3 ∧ 0 ≤ v2 ∧ v2 < w 5 3 ∧ ¬ v1 = v2
          · exact hc
          · rw [if_neg hc] at m1; exact absurd m1 (by decide)
        have hp := hCO.2.1
        rw [b1, b2, e45]
        unfold mk2
        rw [(hPP v2.toNat (by omega)).2.1, (hPP v1.toNat (by omega)).2.1, y2]
  · rw [f.1 (5, 5) (by decide), e0, f.2 46 (by decide)]; exact hHB
/-! HIDE -/
theorem hf_E {v1 v2 : Int} {w : Wd} : PC (f_E_hide v1 v2 w) (fun _ u => (hd (w 5 3) v1 = 0 ∧ u = w) ∨ (hd (w 5 3) v1 = 1 ∧ u 5 5 = wt (w 5 5) v1 v2 ∧ ∀ c k, c ≠ 28 → ¬ (c = 5 ∧ k = 5) → u c k = w c k)) := by
  unfold f_E_hide
  refine pc_call (it_pc v1 w) (fun r1 u2 q => ?_)
  rw [q.1]
  have h01 := hd_01 (w 5 3) v1
  refine pc_ite (fun c => pc_some (Or.inl ⟨q.2.symm.trans c, rfl⟩)) (fun c => ?_)
  have h1 : hd (w 5 3) v1 = 1 := by have := q.2; omega
  rw [wt_e, jc_s]
  refine pc_lw (fun u5 e5 => ?_)
  refine pc_call (sf_pc u5) (fun r9 u10 y => pc_some (Or.inr ⟨h1, ?_, fun c k h28 h5 => ?_⟩))
  · rw [y 5 (by decide), e5, st_eq]
  · rw [y c h28, e5]; unfold st; rw [if_neg h5]
theorem hf_R {v1 v2 : Int} {w : Wd} (hP : 0 ≤ w 43 0 ∧ w 43 0 ≤ 10) : PC (f_R_hide v1 v2 w) (fun _ u => (hd (w 43 0) v1 = 0 ∧ u = st w 43 16 0) ∨ (hd (w 43 0) v1 = 1 ∧ (∀ j, u 46 j = if j = v1.toNat then nz v2 else w 46 j) ∧ ∀ c k, c ≠ 46 → ¬ (c = 43 ∧ k = 16) → u c k = w c k)) := by
  unfold f_R_hide
  refine pc_lw (fun u1 e1 => ?_)
  have t0 : u1 43 0 = w 43 0 := by rw [e1, st_k (by decide)]
  refine pc_call (io_pc v1 u1 (by omega)) (fun r2 u3 q => ?_)
  rw [q.1]
  rw [t0] at q
  have h01 := hd_01 (w 43 0) v1
  refine pc_ite (fun c => pc_some (Or.inl ⟨q.2.symm.trans c, e1⟩)) (fun c => ?_)
  have h1 : hd (w 43 0) v1 = 1 := by have := q.2; omega
  refine pc_gd (fun _ => ?_)
  refine pc_lw (fun u4 e4 => pc_some (Or.inr ⟨h1, fun j => ?_, fun c k h46 h16 => ?_⟩))
  · rw [e4]
    by_cases c1 : j = v1.toNat
    · rw [if_pos c1, c1, st_eq]
    · rw [if_neg c1, st_k c1, e1, st_c (by decide)]
  · rw [e4, st_c h46, e1]; unfold st; rw [if_neg h16]
theorem hB_hide {x P v1 v2 : Int} {h h2 : Nat → Int} (hP : P ≤ 10) (hv : 0 ≤ v1 ∧ v1 < P) (i2 : 0 ≤ v2 ∧ v2 ≤ 1) (hx : B10 x (hB P h)) (e : ∀ j, h2 j = if j = v1.toNat then nz v2 else h j) : B10 (wt x v1 v2) (hB P h2) := by
  unfold wt
  have nz1 : nz 1 = 1 := by decide
  have nz0 : nz 0 = 0 := by decide
  by_cases c : v2 = 0
  · rw [if_pos c]
    refine b10_w (b10_andn hx (b10_1 (i := v1) (by omega)).2) (fun k hk => ?_)
    unfold hB
    rw [e k]
    by_cases ck : k = v1.toNat
    · rw [if_pos ck, ck, c, nz0, decide_eq_true rfl]; simp
    · rw [if_neg ck, decide_eq_false ck]; simp
  · rw [if_neg c]
    refine b10_w (b10_or hx (b10_1 (i := v1) (by omega))) (fun k hk => ?_)
    unfold hB
    rw [e k]
    by_cases ck : k = v1.toNat
    · rw [if_pos ck, ck, show v2 = 1 by omega, nz1, decide_eq_true rfl, show inP P v1.toNat = true from decide_eq_true (by omega)]; simp
    · rw [if_neg ck, decide_eq_false ck]; simp
theorem k_hide {w : Wd} {v1 v2 : Int} (h : LF w) (i_v1 : ((-2147483648 : Int) ≤ v1 ∧ v1 ≤ 2147483647)) (i_v2 : ((0 : Int) ≤ v2 ∧ v2 ≤ 1)) : OK (f_E_hide v1 v2 w) (fun r1 u1 => OK (f_R_hide v1 v2 u1) (fun r2 u2 => LF u2 ∧ r1 = r2)) := by
  have a5 : (0 : Int) ≤ w 5 3 ∧ w 5 3 ≤ 10 := h.1.1.1 5 3
  refine ok_w (ok_pc (c_hide (lf_li h) i_v1 i_v2) (pc_and (pc_ok (e_E_hide h.1 i_v1 i_v2)) hf_E)) (fun r1 u1 q1 => ?_)
  obtain ⟨o1, ⟨g1, s1⟩, x1⟩ := q1
  refine ok_w (ok_pc o1 (pc_and (pc_ok (e_R_hide s1 i_v1 i_v2)) (hf_R (s1.1.1 43 0)))) (fun r2 u2 q2 => ?_)
  obtain ⟨⟨hL, hr⟩, ⟨g2, s2⟩, x2⟩ := q2
  refine ⟨⟨s2, ?_⟩, hr⟩
  have hF := h.2
  obtain ⟨hCO, hPP, hHB, hWH, _, _, _, _, _, _, hgr, hse⟩ := hF
  have f := fr_tr (fr_g (P := (43, 10) :: (43, 11) :: feP) (A := 6 :: 7 :: 8 :: 44 :: 45 :: feA) g1 rfl) (fr_g g2 rfl)
  have e0 : u2 43 0 = w 43 0 := f.1 (43, 0) (by decide)
  have e10 : u2 43 10 = w 43 10 := f.1 (43, 10) (by decide)
  have e11 : u2 43 11 = w 43 11 := f.1 (43, 11) (by decide)
  refine fc_gen h.2 hL.2 (fun j hj => ?_) ?_ ⟨by rw [e10]; exact hgr, by rw [e11]; exact hse⟩ (fr_sub f (by decide) (by decide))
  · rw [e0] at hj
    rw [f.2 6 (by decide), f.2 7 (by decide), f.2 8 (by decide), f.2 44 (by decide), f.2 45 (by decide), f.2 48 (by decide)]
    exact hPP j hj
  · have e46 : u1 46 = w 46 := funext fun k => g1.2.1 46 k (mS_ar rfl k)
    have e55 : u2 5 5 = u1 5 5 := g2.2.1 5 5 rfl
    have e01 : u1 43 0 = w 43 0 := g1.2.1 43 0 rfl
    have hp := hCO.2.1
    rw [e55, e0]
    rw [e01, ← hCO.2.1] at x2
    rcases x1 with ⟨m1, b1⟩ | ⟨m1, b1, _⟩
    · rcases x2 with ⟨m2, b2⟩ | ⟨m2, _⟩
      · rw [b2, st_row (by decide), e46, b1]; exact hHB
      · omega
    · rcases x2 with ⟨m2, _⟩ | ⟨m2, b2, _⟩
      · omega
      · have hv := hd_1 (P := w 5 3) (v := v1) (by omega)
        rw [b1, ← hp]
        rw [← hp] at hHB
        exact hB_hide a5.2 hv i_v2 hHB (fun j => by rw [b2 j, e46])
/-! LAW, SHEET -/
theorem k_law {w : Wd} {v1 v2 : Int} (h : LF w) (i_v1 : ((-2147483648 : Int) ≤ v1 ∧ v1 ≤ 2147483647)) (i_v2 : ((-2147483648 : Int) ≤ v2 ∧ v2 ≤ 2147483647)) : OK (f_E_law v1 v2 w) (fun r1 u1 => OK (f_R_law v1 v2 u1) (fun r2 u2 => LF u2 ∧ r1 = r2)) := by
  refine ok_w (ok_pc (c_law (lf_li h) i_v1 i_v2) (pc_ok (e_E_law h.1 i_v1 i_v2))) (fun r1 u1 q1 => ?_)
  obtain ⟨o1, g1, s1⟩ := q1
  refine ok_w (ok_pc o1 (pc_and (pc_ok (e_R_law s1 i_v1 i_v2)) (lw_R v1 v2 u1))) (fun r2 u2 q2 => ?_)
  obtain ⟨⟨hL, hr⟩, ⟨g2, s2⟩, x2⟩ := q2
  refine ⟨⟨s2, ?_⟩, hr⟩
  have hF := h.2
  obtain ⟨hCO, hPP, hHB, hWH, _, _, _, _, _, _, hgr, hse⟩ := hF
  have f := fr_tr (fr_g (P := (5, 5) :: feP) (A := 6 :: 7 :: 8 :: 44 :: 45 :: 46 :: feA) g1 rfl) (fr_g g2 rfl)
  have e0 : u2 43 0 = w 43 0 := f.1 (43, 0) (by decide)
  have e10 : u1 43 10 = w 43 10 := g1.2.1 43 10 rfl
  have e11 : u1 43 11 = w 43 11 := g1.2.1 43 11 rfl
  refine fc_gen h.2 hL.2 (fun j hj => ?_) ?_ ?_ (fr_sub f (by decide) (by decide))
  · rw [e0] at hj
    rw [f.2 6 (by decide), f.2 7 (by decide), f.2 8 (by decide), f.2 44 (by decide), f.2 45 (by decide), f.2 48 (by decide)]
    exact hPP j hj
  · rw [f.1 (5, 5) (by decide), e0, f.2 46 (by decide)]; exact hHB
  · unfold LW at x2
    omega
theorem k_sheet {w : Wd} {v1 v2 v3 v4 : Int} (h : LF w) (i_v1 : ((-2147483648 : Int) ≤ v1 ∧ v1 ≤ 2147483647)) (i_v2 : ((-2147483648 : Int) ≤ v2 ∧ v2 ≤ 2147483647)) (i_v3 : ((-2147483648 : Int) ≤ v3 ∧ v3 ≤ 2147483647)) (i_v4 : ((-2147483648 : Int) ≤ v4 ∧ v4 ≤ 2147483647)) : OK (f_E_sheet v1 v2 v3 v4 w) (fun r1 u1 => OK (f_R_sheet v1 v2 v3 v4 u1) (fun r2 u2 => LF u2 ∧ r1 = r2)) := by
  refine ok_w (ok_pc (c_sheet (lf_li h) i_v1 i_v2 i_v3 i_v4) (pc_and (pc_ok (e_E_sheet h.1 i_v1 i_v2 i_v3 i_v4)) (sh_E i_v3 (h.1.1.1 5 3) (fun j => h.1.1.1 6 j)))) (fun r1 u1 q1 => ?_)
  obtain ⟨o1, ⟨g1, s1⟩, x1⟩ := q1
  refine ok_w (ok_pc o1 (pc_and (pc_ok (e_R_sheet s1 i_v1 i_v2 i_v3 i_v4)) (sh_R i_v3 (s1.1.1 43 0)))) (fun r2 u2 q2 => ?_)
  obtain ⟨⟨hL, hr⟩, ⟨g2, s2⟩, x2⟩ := q2
  refine ⟨⟨s2, ?_⟩, hr⟩
  have hF := h.2
  obtain ⟨hCO, hPP, hHB, hWH, _, _, _, _, _, _, hgr, hse⟩ := hF
  have f := fr_tr (fr_g (P := (5, 5) :: (43, 10) :: (43, 11) :: feP) (A := 7 :: 8 :: 45 :: 46 :: feA) g1 rfl) (fr_g g2 rfl)
  have e0 : u2 43 0 = w 43 0 := f.1 (43, 0) (by decide)
  have e10 : u2 43 10 = w 43 10 := f.1 (43, 10) (by decide)
  have e11 : u2 43 11 = w 43 11 := f.1 (43, 11) (by decide)
  refine fc_gen h.2 hL.2 (fun j hj => ?_) ?_ ⟨by rw [e10]; exact hgr, by rw [e11]; exact hse⟩ (fr_sub f (by decide) (by decide))
  · rw [e0] at hj
    obtain ⟨y1, y2, y3⟩ := hPP j hj
    rw [f.2 7 (by decide), f.2 8 (by decide), f.2 45 (by decide), f.2 48 (by decide)]
    refine ⟨?_, y2, y3⟩
    have e44 : u1 44 = w 44 := funext fun k => g1.2.1 44 k (mS_ar rfl k)
    have e6 : u2 6 = u1 6 := funext fun k => g2.2.1 6 k (mS_ar rfl k)
    have e01 : u1 43 0 = w 43 0 := g1.2.1 43 0 rfl
    have hp := hCO.2.1
    rw [e6]
    rw [e01] at x2
    rcases x1 with ⟨n1, a1, b1⟩ | ⟨n1, a1, b1⟩ | ⟨n1, a1, b1⟩ <;> rcases x2 with ⟨n2, a2, b2⟩ | ⟨n2, a2, b2⟩ | ⟨n2, a2, b2⟩
    · rw [b2, st_c (by decide), e44, b1]; exact y1
    · exact absurd n2.1 n1
    · exact absurd n2.1 n1
    · exact absurd n1.1 n2
    · rw [b2, st_c (by decide), e44, b1]; exact y1
    · exfalso; omega
    · exact absurd n1.1 n2
    · exfalso; omega
    · rw [b1 j (by omega), b2 j hj]
  · rw [f.1 (5, 5) (by decide), e0, f.2 46 (by decide)]; exact hHB
