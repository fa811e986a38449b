/-! WHAT BOTH HAVE IN COMMON, where texts alone change -/
def fdP : List (Nat × Nat) := [(5, 3), (5, 4), (5, 5), (5, 6), (15, 3), (15, 4), (37, 2), (37, 3), (37, 4), (37, 5), (37, 6), (37, 7), (37, 8), (37, 9), (40, 2), (40, 3), (40, 4), (40, 5), (40, 6), (40, 7), (40, 8), (40, 9), (43, 0), (43, 7), (43, 8), (43, 10), (43, 11), (43, 32)]
def fdA : List Nat := [6, 7, 8, 16, 17, 18, 38, 39, 41, 42, 44, 45, 46, 47, 48, 49, 50, 59, 79]
theorem fc_fr2 {w u : Wd} (h : FC w) (c0 : CO u) (f : FR fdP fdA w u) : FC u := by
  have p := f.1
  have p5_3 := p (5, 3) (by decide)
  have p5_4 := p (5, 4) (by decide)
  have p5_5 := p (5, 5) (by decide)
  have p5_6 := p (5, 6) (by decide)
  have p15_3 := p (15, 3) (by decide)
  have p15_4 := p (15, 4) (by decide)
  have p37_2 := p (37, 2) (by decide)
  have p37_3 := p (37, 3) (by decide)
  have p37_4 := p (37, 4) (by decide)
  have p37_5 := p (37, 5) (by decide)
  have p37_6 := p (37, 6) (by decide)
  have p37_7 := p (37, 7) (by decide)
  have p37_8 := p (37, 8) (by decide)
  have p37_9 := p (37, 9) (by decide)
  have p40_2 := p (40, 2) (by decide)
  have p40_3 := p (40, 3) (by decide)
  have p40_4 := p (40, 4) (by decide)
  have p40_5 := p (40, 5) (by decide)
  have p40_6 := p (40, 6) (by decide)
  have p40_7 := p (40, 7) (by decide)
  have p40_8 := p (40, 8) (by decide)
  have p40_9 := p (40, 9) (by decide)
  have p43_0 := p (43, 0) (by decide)
  have p43_7 := p (43, 7) (by decide)
  have p43_8 := p (43, 8) (by decide)
  have p43_10 := p (43, 10) (by decide)
  have p43_11 := p (43, 11) (by decide)
  have p43_32 := p (43, 32) (by decide)
  have a6 := f.2 6 (by decide)
  have a7 := f.2 7 (by decide)
  have a8 := f.2 8 (by decide)
  have a16 := f.2 16 (by decide)
  have a17 := f.2 17 (by decide)
  have a18 := f.2 18 (by decide)
  have a38 := f.2 38 (by decide)
  have a39 := f.2 39 (by decide)
  have a41 := f.2 41 (by decide)
  have a42 := f.2 42 (by decide)
  have a44 := f.2 44 (by decide)
  have a45 := f.2 45 (by decide)
  have a46 := f.2 46 (by decide)
  have a47 := f.2 47 (by decide)
  have a48 := f.2 48 (by decide)
  have a49 := f.2 49 (by decide)
  have a50 := f.2 50 (by decide)
  have a59 := f.2 59 (by decide)
  have a79 := f.2 79 (by decide)
  refine ⟨c0, ?_⟩
  unfold PPL UB KBf wki
  rw [p5_3, p5_4, p5_5, p5_6, p15_3, p15_4, p37_2, p37_3, p37_4, p37_5, p37_6, p37_7, p37_8, p37_9, p40_2, p40_3, p40_4, p40_5, p40_6, p40_7, p40_8, p40_9, p43_0, p43_7, p43_8, p43_10, p43_11, p43_32, a6, a7, a8, a16, a17, a18, a38, a39, a41, a42, a44, a45, a46, a47, a48, a49, a50, a59, a79]
  exact h.2
def LF (w : Wd) : Prop := RS w ∧ FC w
theorem lf_li {w : Wd} (h : LF w) : LI w := ⟨h.1, h.2.1⟩
theorem rs_kn {w : Wd} (h : RS w) : KNW (w 43 0).toNat (w 45) := by
  intro j hj
  have a0 : (0 : Int) ≤ w 43 0 ∧ w 43 0 ≤ 10 := h.1.1 43 0
  have a45 : (0 : Int) ≤ w 45 j ∧ w 45 j ≤ 1023 := h.1.1 45 j
  exact ⟨a45, fun q hq hb => by have := h.2.2.2 j q (by omega) hq hb; omega⟩
theorem kz1 {w0 u : Wd} {x : Int} (n : Nat) (hn : ¬ u 43 21 = -1) (ku : KF0 w0 u) : PC (f_R_land_40 n x 0 u) (fun _ u' => KF0 w0 u') := by
  cases n with
  | zero => exact pc_none
  | succ n =>
    have k105 : PC (f_R_land_105 x u) (fun _ u' => KF0 w0 u') := by
      unfold f_R_land_105
      rw [fine_e, jc_s, if_neg hn]
      exact pc_ite (fun _ => pc_some ku) (fun h => absurd rfl h)
    rw [f_R_land_40]
    refine pc_ite (fun _ => ?_) (fun h => absurd rfl h)
    unfold f_R_land_86
    refine pc_ite (fun _ => k105) (fun _ => ?_)
    refine pc_call (fl_pc u (u 43 20)) (fun r16 u17 q => ?_)
    rw [if_neg hn] at q
    rw [q]; exact k105
theorem kz2 {w0 u : Wd} {x : Int} (n : Nat) (h21 : u 43 21 = -1) (h20 : 0 ≤ u 43 20) (ku : KF0 w0 u) : PC (f_R_land_40 n x 0 u) (fun _ u' => u 43 18 ≤ u 43 20 ∨ KF0 w0 u') := by
  by_cases cc : u 43 18 ≤ u 43 20
  · exact fun _ _ _ => Or.inl cc
  · cases n with
    | zero => exact pc_none
    | succ n =>
      rw [f_R_land_40]
      refine pc_ite (fun _ => ?_) (fun h => absurd rfl h)
      unfold f_R_land_86
      rw [if_neg cc]
      refine pc_call (fl_pc u (u 43 20)) (fun r16 u17 q => ?_)
      rw [if_pos h21] at q
      have k17 : KF0 w0 u17 := kf_st ku q (by omega)
      have n17 : ¬ u17 43 21 = -1 := by rw [q, st_eq]; omega
      unfold f_R_land_105
      rw [fine_e, jc_s, if_neg n17]
      exact pc_ite (fun _ => pc_some (Or.inr k17)) (fun h => absurd rfl h)
theorem k40 {b w0 : Wd} {a : Nat} {n0 : Int} {f0 : Nat → Int} {C0 : Int} (hC : 0 ≤ C0 ∧ C0 ≤ 10) : ∀ (n : Nat) {w : Wd} (j : Nat), a + j ≤ 10 → G md_R_land b w → RV n0 f0 (a : Int) w → w 43 21 = -1 → (0 ≤ w 43 20 ∧ w 43 20 ≤ 76) → w 43 56 = C0 → KF0 w0 w → PC (f_R_land_40 n ((a : Int) + j) 1 w) (fun r u => 0 < r ∨ KF0 w0 u) := by
  intro n
  induction n with
  | zero => intros; exact pc_none
  | succ n ih =>
    intro w j haj hG h h21 h20 h56 hk
    rw [f_R_land_40]
    have w1 := w32_sp ((a : Int) + j + 1)
    refine pc_ite (fun h => absurd h (by decide)) (fun _ => ?_)
    rw [fine_e, jc_s, if_pos h21]
    refine pc_ite (fun h => absurd h (by decide)) (fun _ => ?_)
    have stop : ∀ {u : Wd} {x : Int}, RV n0 f0 (a : Int) u → u 43 21 = x → 0 ≤ x → (0 ≤ u 43 20 ∧ u 43 20 ≤ 76) → KF0 w0 u → PC (f_R_land_73 (f_R_land_40 n) ((a : Int) + j) u) (fun r u' => 0 < r ∨ KF0 w0 u') := by
      intro u x hu ux x0 u20 ku
      unfold f_R_land_73
      refine pc_let (fun x22 e22 => ?_)
      refine pc_call (ps_pc hu 59 u20) (fun r23 u24 q => ?_)
      rcases q with ⟨q0, _⟩ | ⟨_, q2, q3⟩
      · exfalso; omega
      · rw [q2, q3]
        exact pc_w (kz1 n (by omega) ku) (fun r u' p => Or.inr p)
    refine pc_ite (fun c1 => ?_) (fun c1 => ?_)
    · refine pc_call (fl_pc w (w 43 20)) (fun r25 u26 q => ?_)
      rw [if_pos h21] at q
      have t20 : u26 43 20 = w 43 20 := by rw [q, st_k (by decide)]
      exact stop (rv_st h q (by decide) (Or.inr (by decide))) (by rw [q, st_eq]) h20.1 (by omega) (kf_st hk q (by omega))
    · refine pc_call (pc_and (pc_ok (s_R_readOne (g_self hG) (by omega) h.1)) (rrl (by omega) h h21 h20)) (fun r20 u21 q => ?_)
      obtain ⟨⟨_, gy⟩, hu, q⟩ := q
      have gu : G md_R_land b u21 := g_tr hG gy rfl
      have ku := kf_ro hk gy
      have t56 : u21 43 56 = C0 := (gy.2.1 43 56 rfl).trans h56
      rcases q with ⟨q1, q2, q3⟩ | ⟨q1, q⟩
      · exact stop hu q2 h20.1 (by omega) ku
      · have l5 := hR_lt (n := n0) (f := f0) (p := w 43 20) (by omega)
        have b1 := lt_ge (hR n0 f0) ((a : Int) + j) ((a : Int) + j).toNat (w 43 20 + 1)
        have b2 := lt_le (hR_76 n0 f0) (num := (a : Int) + j) ((a : Int) + j).toNat (p := w 43 20 + 1) (by omega) (by omega)
        have b3 := fnl_le (hR_76 n0 f0) (p := lt (hR n0 f0) ((a : Int) + j) ((a : Int) + j).toNat (w 43 20 + 1)) (by omega)
        have b4 := fnl_ge (hR n0 f0) (lt (hR n0 f0) ((a : Int) + j) ((a : Int) + j).toNat (w 43 20 + 1))
        generalize lt (hR n0 f0) ((a : Int) + j) ((a : Int) + j).toNat (w 43 20 + 1) = x at *
        rcases q with ⟨p1, p2, p3⟩ | ⟨p1, p2, p3⟩
        · have l6 := hR_lt (n := n0) (f := f0) (p := x) (by omega)
          exact stop hu p2 (by omega) (by omega) ku
        · unfold f_R_land_73
          refine pc_let (fun x22 e22 => ?_)
          have e22' : x22 = (a : Int) + ((j + 1 : Nat) : Int) := by omega
          rw [e22']
          refine pc_call (pc_and (pc_ok (s_R_passes (g_self gu) (by decide) (Or.inl hu.1) (by decide))) (ps_pc hu 59 (by omega))) (fun r23 u24 q => ?_)
          obtain ⟨⟨_, gy2, _⟩, q⟩ := q
          rcases q with ⟨_, c2, q2, q3⟩ | ⟨q1', q2, q3⟩
          · have l6 := hR_lt (n := n0) (f := f0) (p := u21 43 20) (by omega)
            rw [q2]
            have t20 : u24 43 20 = u21 43 20 + 1 := by rw [q3, st_eq]
            exact ih (j + 1) (by omega) (g_tr gu gy2 rfl) (rv_st hu q3 (by decide) (Or.inr (by decide))) (by rw [q3, st_k (by decide)]; exact p2) (by omega) (by rw [q3, st_k (by decide)]; exact t56) (kf_st ku q3 (by omega))
          · rw [q2, q3]
            refine pc_w (pc_and (kz2 n p2 (by omega) ku) (r40z (v1 := (a : Int) + ((j + 1 : Nat) : Int)) (by omega) n gu (by omega) (Or.inl (by omega)))) (fun r u' p => ?_)
            obtain ⟨p1', p2'⟩ := p
            rcases p1' with p1' | p1'
            · rw [if_pos p2, if_pos p1', hu.2.2.2.2] at p2'
              exact Or.inl (by omega)
            · exact Or.inr p1'
theorem lz_R {w : Wd} {a : Nat} (hG : G md_R_land w w) (ha : w 43 0 = a) (h56 : 0 ≤ w 43 56 ∧ w 43 56 ≤ 10) : PC (f_R_land w) (fun r u => 0 < r ∨ KF0 w u) := by
  unfold f_R_land
  have a0 : (0 : Int) ≤ w 43 0 ∧ w 43 0 ≤ 10 := hG.1 43 0
  refine pc_lw (fun u1 e1 => ?_)
  have g1 : G md_R_land w u1 := g_st hG e1 rfl rfl (show (0 : Int) ≤ 0 ∧ (0 : Int) ≤ 1 by decide)
  have a13 : (0 : Int) ≤ u1 43 13 ∧ u1 43 13 ≤ 80 := g1.1 43 13
  have t13 : u1 43 13 = w 43 13 := by rw [e1, st_k (by decide)]
  have t0 : u1 43 0 = w 43 0 := by rw [e1, st_k (by decide)]
  have t51 : u1 51 = w 51 := by rw [e1]; exact st_row (by decide)
  have k1 : KF0 w u1 := kf_st ⟨fun _ _ _ _ _ _ _ => rfl, fun _ _ _ _ _ _ _ _ => rfl⟩ e1 (by omega)
  have q1 : PC (f_R_begin1_43_51 (u1 43 13) 76 u1) (fun _ u => RV (w 43 13) (w 51) (a : Int) u ∧ u 43 20 = 0 ∧ u 43 21 = -1 ∧ KF0 w u) := by
    unfold f_R_begin1_43_51
    refine pc_lw (fun x1 y1 => ?_)
    refine pc_lw (fun x2 y2 => ?_)
    refine pc_lw (fun x3 y3 => ?_)
    refine pc_lw (fun x4 y4 => ?_)
    refine pc_lw (fun x5 y5 => ?_)
    refine pc_some ⟨⟨?_, ?_, ?_, ?_, ?_⟩, ?_, ?_, ?_⟩
    · rw [y5, st_k (by decide), y4, st_k (by decide), y3, st_k (by decide), y2, st_k (by decide), y1, st_eq]
    · rw [y5, st_k (by decide), y4, st_k (by decide), y3, st_k (by decide), y2, st_eq]; exact t13
    · rw [y5, st_k (by decide), y4, st_k (by decide), y3, st_eq]
    · rw [y5, st_row (by decide), y4, st_row (by decide), y3, st_row (by decide), y2, st_row (by decide), y1, st_row (by decide)]; exact t51
    · rw [y5, st_k (by decide), y4, st_k (by decide), y3, st_k (by decide), y2, st_k (by decide), y1, st_k (by decide), t0]; exact ha
    · rw [y5, st_k (by decide), y4, st_eq]
    · rw [y5, st_eq]
    · exact kf_st (kf_st (kf_st (kf_st (kf_st k1 y1 (by omega)) y2 (by omega)) y3 (by omega)) y4 (by omega)) y5 (by omega)
  refine pc_call (pc_and (pc_ok (s_R_begin1_43_51 (g_self g1) (by omega) (by omega))) q1) (fun r2 u3 q => ?_)
  obtain ⟨⟨_, gy, _⟩, hu, q20, q21, k3⟩ := q
  have g3 : G md_R_land w u3 := g_tr g1 gy rfl
  refine pc_lw (fun u4 e4 => ?_)
  have g4 : G md_R_land w u4 := g_st g3 e4 rfl rfl (show (0 : Int) ≤ 0 ∧ (0 : Int) ≤ 80 by decide)
  have h4 := rv_st hu e4 (by decide) (Or.inr (by decide))
  have t20 : u4 43 20 = 0 := by rw [e4, st_k (by decide)]; exact q20
  have t21 : u4 43 21 = -1 := by rw [e4, st_k (by decide)]; exact q21
  have t56 : u4 43 56 = w 43 56 := by rw [e4, st_k (by decide), gy.2.1 43 56 rfl, e1, st_k (by decide)]
  have k4 := kf_st k3 e4 (by omega)
  refine pc_ite (fun c => pc_some (Or.inr k4)) (fun c => ?_)
  refine pc_let (fun x5 e5 => ?_)
  have ex : x5 = (a : Int) + ((0 : Nat) : Int) := by rw [e5, h4.2.2.2.2]; omega
  rw [ex]
  exact k40 h56 FU 0 (by omega) g4 h4 t21 (by omega) t56 k4
theorem kf_fr {w u : Wd} (h : KF0 w u) : FR fdP fdA w u := by
  refine ⟨fun p hp => ?_, fun c hc => funext fun k => ?_⟩
  · simp only [fdP, List.mem_cons, List.not_mem_nil, or_false] at hp
    by_cases c : p.1 = 43
    · rw [c]
      refine h.2 p.2 ?_ ?_ ?_ ?_ ?_ ?_ ?_ <;> (rintro e; obtain ⟨p1, p2⟩ := p; simp only at c e; subst c; subst e; simp at hp)
    · refine h.1 p.1 p.2 c ?_ ?_ ?_ ?_ <;> (rintro e; obtain ⟨p1, p2⟩ := p; simp only at e; subst e; simp at hp)
  · simp only [fdA, List.mem_cons, List.not_mem_nil, or_false] at hc
    exact h.1 c k (by omega) (by omega) (by omega) (by omega) (by omega)
theorem ran_eq {a n : Nat} {pr kn g h g2 h2 : Nat → Int} {w u : Wd} (hr : RAN a n pr kn g h w u) (e : ∀ i, i < n → g i = g2 i ∧ h i = h2 i) : RAN a n pr kn g2 h2 w u := by
  obtain ⟨a2, a3, a4, a5⟩ := hr
  refine ⟨a2, fun i hi => ?_, a4, a5⟩
  have y := a3 i hi
  rw [(e i hi).1, (e i hi).2] at y
  exact y
theorem k_land {w : Wd} (h : LF w) : OK (f_E_land w) (fun r1 u1 => OK (f_R_land u1) (fun r2 u2 => LF u2 ∧ r1 = r2)) := by
  have a0 : (0 : Int) ≤ w 43 0 ∧ w 43 0 ≤ 10 := h.1.1.1 43 0
  have a8 : (0 : Int) ≤ w 43 8 ∧ w 43 8 ≤ 60 := h.1.1.1 43 8
  have hF := h.2
  obtain ⟨hCO, hPP, hHB, hWH, ⟨hp, hwk, hun⟩, hwe, hSN, hUB, hK0, hK1, hgr, hse⟩ := hF
  have hP := hCO.2.1
  have ea : w 43 0 = (((w 43 0).toNat : Nat) : Int) := by omega
  generalize hA : (w 43 0).toNat = a at ea
  have kn : KNW a (w 7) := by
    have k := rs_kn h.1
    rw [hA] at k
    intro j hj
    rw [(hPP j (by omega)).2.1]
    exact k j hj
  refine ok_w (ok_pc (c_land (lf_li h)) (pc_and (pc_ok (e_E_land h.1)) (lf_E (a := a) (s := w 47) (h := w 46) (g_self h.1.1) (by omega) (by rw [← ea]; exact hWH) (by rw [← ea]; exact hHB) kn (by omega)))) (fun r1 u1 q1 => ?_)
  obtain ⟨o1, ⟨g1, s1, p1⟩, x1⟩ := q1
  have e0 : u1 43 0 = w 43 0 := g1.2.1 43 0 rfl
  refine ok_w (ok_pc o1 (pc_and (pc_ok (e_R_land s1)) (pc_and (lf_R (a := a) (g_self s1.1) (by omega) (rs_56 s1)) (lz_R (a := a) (g_self s1.1) (by omega) (rs_56 s1))))) (fun r2 u2 q2 => ?_)
  obtain ⟨⟨hL, hr⟩, ⟨g2, s2, p2⟩, x2, x3⟩ := q2
  refine ⟨⟨s2, ?_⟩, hr⟩
  rcases x1 with ⟨n1, f1⟩ | ⟨n1, n2, hE⟩
  · have k2 : KF0 u1 u2 := x3.resolve_left (by omega)
    refine fc_fr2 h.2 hL.2 (fr_tr (u := u1) ⟨fun p hp => ?_, fun c hc => funext fun k => ?_⟩ (kf_fr k2))
    · simp only [fdP, List.mem_cons, List.not_mem_nil, or_false] at hp
      refine f1 p.1 p.2 ?_ ?_ ?_ ?_ <;> (rintro e; obtain ⟨p1, p2⟩ := p; simp only at e; first | (subst e; simp at hp) | (obtain ⟨e1, e2⟩ := e; subst e1; simp at hp))
    · simp only [fdA, List.mem_cons, List.not_mem_nil, or_false] at hc
      exact f1 c k (by omega) (by omega) (by omega) (by omega)
  · have fR := fr_g (P := [(43, 7), (43, 8), (43, 10), (43, 11), (43, 56)]) (A := [44, 45, 46, 47, 48, 49, 50, 79, 80, 81]) g1 rfl
    obtain ⟨n3, hR1⟩ := x2 (by omega)
    have hR2 := rcn_x fR hR1
    have e13 : u1 43 13 = w 43 13 := g1.2.1 43 13 rfl
    have e51 : u1 51 = w 51 := funext fun k => g1.2.1 51 k (mS_ar rfl k)
    rw [e13, e51, ← hr] at hR2
    have sy := tx_sy hCO.1 (fun k => (h.1.1.1 2 k).1)
    have b6 : ∀ i : Nat, i < r1.toNat → 0 ≤ lpr (sE (w 1 1) (w 2)) a i ∧ lpr (sE (w 1 1) (w 2)) a i ≤ 9 := fun i hi => by
      have b := s1.1.1 6 (a + i)
      rw [(hE.1.2.2.1 i hi).1] at b
      exact b
    refine fc_come (a := a) (n := r1.toNat) h.2 ea (by omega) (by omega) a8 hL.2 hE (pr2 := lpr (hR (w 43 13) (w 51)) a) (kn2 := lkn (hR (w 43 13) (w 51)) a) ?_ (fun i hi => lpr_sy sy (by omega) (by omega) (b6 i hi)) (fun i hi => lkn_sy sy (by omega) (by omega)) (fr_g g2 rfl) (fr_tr (u := u1) (fr_g (P := []) g1 rfl) (fr_g g2 rfl))
    obtain ⟨⟨v, hv1, hv⟩, rest⟩ := hR2
    refine ⟨⟨v, ran_eq hv1 (fun i hi => ?_), hv⟩, rest⟩
    have e1 := lgs_sy sy (a := (a : Int)) (i := i) (by omega) (by omega)
    have e2 := lhi_sy sy (a := (a : Int)) (i := i) (by omega) (by omega)
    simp only [e1, e2, and_self]
