/-! the reference -/
def RV (n0 : Int) (f0 : Nat → Int) (P0 : Int) (w : Wd) : Prop := w 43 17 = 52 ∧ w 43 18 = n0 ∧ w 43 19 = 76 ∧ w 51 = f0 ∧ w 43 0 = P0
theorem rv_st {n0 : Int} {f0 : Nat → Int} {P0 : Int} {w u : Wd} {c k : Nat} {z : Int} (h : RV n0 f0 P0 w) (e : u = st w c k z) (h51 : 51 ≠ c) (hc : 43 ≠ c ∨ (17 ≠ k ∧ 18 ≠ k ∧ 19 ≠ k ∧ 0 ≠ k)) : RV n0 f0 P0 u := by
  rw [e]
  obtain ⟨a1, a2, a3, a4, a5⟩ := h
  rcases hc with hc | ⟨k1, k2, k3, k4⟩
  · exact ⟨(st_c hc).trans a1, (st_c hc).trans a2, (st_c hc).trans a3, (st_row h51).trans a4, (st_c hc).trans a5⟩
  · exact ⟨(st_k k1).trans a1, (st_k k2).trans a2, (st_k k3).trans a3, (st_row h51).trans a4, (st_k k4).trans a5⟩
theorem here_pc {n0 : Int} {f0 : Nat → Int} {P0 : Int} {w : Wd} (h : RV n0 f0 P0 w) : PC (f_R_here w) (fun r u => u = w ∧ r = hR n0 f0 (w 43 20)) := by
  unfold f_R_here hR
  rw [h.1, h.2.1, h.2.2.1, h.2.2.2.1]
  refine pc_ite (fun c => ?_) (fun c => ?_)
  · rw [if_pos c]; exact pc_some ⟨rfl, rfl⟩
  · rw [if_neg c]
    refine pc_ite (fun c2 => ?_) (fun c2 => ?_)
    · rw [if_pos c2]; exact pc_some ⟨rfl, rfl⟩
    · rw [if_neg c2]
      exact pc_ite (fun _ => pc_gd (fun _ => pc_some ⟨rfl, rfl⟩)) (fun h => absurd rfl h)
theorem ps_pc {n0 : Int} {f0 : Nat → Int} {P0 : Int} {w : Wd} (h : RV n0 f0 P0 w) (c : Int) (h20 : 0 ≤ w 43 20 ∧ w 43 20 ≤ 76) : PC (f_R_passes c w) (fun r u => (w 43 21 = -1 ∧ hR n0 f0 (w 43 20) = c ∧ r = 1 ∧ u = st w 43 20 (w 43 20 + 1)) ∨ (¬ (w 43 21 = -1 ∧ hR n0 f0 (w 43 20) = c) ∧ r = 0 ∧ u = w)) := by
  unfold f_R_passes
  rw [fine_e, jc_s]
  have w1 := w32_sp (w 43 20 + 1)
  refine pc_ite (fun hf => ?_) (fun hf => ?_)
  · refine pc_some (Or.inr ⟨fun h2 => ?_, rfl, rfl⟩)
    rw [if_pos h2.1] at hf
    exact absurd hf (by decide)
  · have h21 : w 43 21 = -1 := by
      by_cases h2 : w 43 21 = -1
      · exact h2
      · rw [if_neg h2] at hf; exact absurd rfl hf
    refine pc_call (here_pc h) (fun r3 u4 q => ?_)
    obtain ⟨q1, q2⟩ := q
    rw [q1]
    refine pc_ite (fun c1 => ?_) (fun c1 => ?_)
    · refine pc_lw (fun u5 e5 => ?_)
      rw [show w32 (w 43 20 + 1) = w 43 20 + 1 by omega] at e5
      exact pc_some (Or.inl ⟨h21, q2.symm.trans c1, rfl, e5⟩)
    · exact pc_some (Or.inr ⟨fun h2 => c1 (q2.trans h2.2), rfl, rfl⟩)
theorem fl_pc (w : Wd) (v : Int) : PC (f_R_fault v w) (fun _ u => u = if w 43 21 = -1 then st w 43 21 v else w) := by
  unfold f_R_fault
  rw [fine_e, jc_s]
  by_cases h : w 43 21 = -1
  · rw [if_pos h, if_pos h]
    exact pc_ite (fun h => absurd h (by decide)) (fun _ => pc_lw (fun u3 e3 => pc_some e3))
  · rw [if_neg h, if_neg h]
    exact pc_ite (fun _ => pc_some rfl) (fun h => absurd rfl h)
theorem r142 {n0 : Int} {f0 : Nat → Int} {P0 : Int} {w : Wd} {v1 s1 s2 : Int} (h : RV n0 f0 P0 w) (h21 : w 43 21 = -1) (h20 : 0 ≤ w 43 20 ∧ w 43 20 ≤ 76) : PC (f_R_readOne_142 v1 s1 s2 w) (fun _ u => RV n0 f0 P0 u ∧ u 43 21 = -1 ∧ u 43 20 = (if hR n0 f0 (w 43 20) = 63 then w 43 20 + 1 else w 43 20)) := by
  unfold f_R_readOne_142
  refine pc_gd (fun _ => ?_)
  refine pc_lw (fun u16 e16 => ?_)
  have h16 := rv_st h e16 (by decide) (Or.inl (by decide))
  have t20 : u16 43 20 = w 43 20 := by rw [e16, st_c (by decide)]
  have t21 : u16 43 21 = -1 := by rw [e16, st_c (by decide)]; exact h21
  refine pc_call (ps_pc h16 63 (by omega)) (fun r17 u18 q => ?_)
  rw [t20] at q
  refine pc_gd (fun _ => ?_)
  refine pc_lw (fun u19 e19 => ?_)
  rcases q with ⟨_, q1, _, q3⟩ | ⟨q1, _, q3⟩
  · refine pc_some ⟨rv_st (rv_st h16 q3 (by decide) (Or.inr (by decide))) e19 (by decide) (Or.inl (by decide)), ?_, ?_⟩
    · rw [e19, st_c (by decide), q3, st_k (by decide)]; exact t21
    · rw [if_pos q1, e19, st_c (by decide), q3, st_eq]
  · rw [q3] at e19
    refine pc_some ⟨rv_st h16 e19 (by decide) (Or.inl (by decide)), ?_, ?_⟩
    · rw [e19, st_c (by decide)]; exact t21
    · rw [if_neg (fun h2 => q1 ⟨t21, h2⟩), e19, st_c (by decide)]; exact t20
/-- behind the letters: a letter that can't stand there, or the marks -/
def RO (h : Int → Int) (p : Int) (u : Wd) : Prop := ((97 ≤ h p ∧ h p ≤ 106) ∧ u 43 21 = p ∧ u 43 20 = p) ∨ (¬ (97 ≤ h p ∧ h p ≤ 106) ∧ u 43 21 = -1 ∧ u 43 20 = fnl h p)
theorem rr55 {n0 : Int} {f0 : Nat → Int} {P0 : Int} {v1 : Int} (i1 : 0 ≤ v1 ∧ v1 ≤ 9) : ∀ (n : Nat) {w : Wd} {v2 : Int} (k : Nat), v2 + 1 = v1 - k → -1 ≤ v2 → RV n0 f0 P0 w → w 43 21 = -1 → (0 ≤ w 43 20 ∧ w 43 20 ≤ 76) → PC (f_R_readOne_55 n v1 v2 w) (fun _ u => RV n0 f0 P0 u ∧ RO (hR n0 f0) (lt (hR n0 f0) v1 k (w 43 20)) u) := by
  intro n
  induction n with
  | zero => intros; exact pc_none
  | succ n ih =>
    intro w v2 k hk i2 h h21 h20
    rw [f_R_readOne_55]
    refine pc_call (here_pc h) (fun r10 u11 q => ?_)
    obtain ⟨q1, q2⟩ := q
    rw [q1, in_e, jc_s]
    refine pc_ite (fun hc => ?_) (fun hc => ?_)
    · have hn : ¬ (97 ≤ r10 ∧ r10 ≤ 106) := fun h2 => by rw [if_pos h2] at hc; exact absurd hc (by decide)
      have e0 : lt (hR n0 f0) v1 k (w 43 20) = w 43 20 := lt_none k (fun x h1 h2 e => hn (by omega))
      rw [e0]
      have hn' : ¬ (97 ≤ hR n0 f0 (w 43 20) ∧ hR n0 f0 (w 43 20) ≤ 106) := by rw [← q2]; exact hn
      refine pc_call (ps_pc h 33 h20) (fun r14 u15 q => ?_)
      rcases q with ⟨_, p1, p2, p3⟩ | ⟨p1, p2, p3⟩
      · have l5 := hR_lt (n := n0) (f := f0) (p := w 43 20) (by omega)
        have t20 : u15 43 20 = w 43 20 + 1 := by rw [p3, st_eq]
        refine pc_ite (fun h => absurd (p2.symm.trans h) (by decide)) (fun _ => ?_)
        refine pc_w (r142 (rv_st h p3 (by decide) (Or.inr (by decide))) (by rw [p3, st_k (by decide)]; exact h21) (by omega)) (fun r u q => ⟨q.1, Or.inr ⟨hn', q.2.1, ?_⟩⟩)
        rw [q.2.2, t20]
        unfold fnl
        rw [if_pos p1]
        split <;> omega
      · refine pc_ite (fun _ => ?_) (fun h => absurd p2 h)
        rw [p3]
        refine pc_w (r142 h h21 h20) (fun r u q => ⟨q.1, Or.inr ⟨hn', q.2.1, ?_⟩⟩)
        rw [q.2.2]
        unfold fnl
        rw [if_neg (fun h2 => p1 ⟨h21, h2⟩)]
    · have hl : 97 ≤ r10 ∧ r10 ≤ 106 := by
        by_cases h2 : 97 ≤ r10 ∧ r10 ≤ 106
        · exact h2
        · rw [if_neg h2] at hc; exact absurd rfl hc
      have l5 := hR_lt (n := n0) (f := f0) (p := w 43 20) (by omega)
      have f87 : lt (hR n0 f0) v1 k (w 43 20) = w 43 20 → PC (f_R_readOne_87 w) (fun _ u => RV n0 f0 P0 u ∧ RO (hR n0 f0) (lt (hR n0 f0) v1 k (w 43 20)) u) := by
        intro e0
        rw [e0]
        unfold f_R_readOne_87
        refine pc_call (fl_pc w (w 43 20)) (fun r23 u24 q => ?_)
        rw [if_pos h21] at q
        refine pc_some ⟨rv_st h q (by decide) (Or.inr (by decide)), Or.inl ⟨by omega, ?_, ?_⟩⟩
        · rw [q, st_eq]
        · rw [q, st_k (by decide)]
      refine pc_call (here_pc h) (fun r20 u21 q => ?_)
      obtain ⟨p1, p2⟩ := q
      rw [p1]
      have w1 := w32_sp (r20 - 97)
      refine pc_let (fun x22 e22 => ?_)
      have e23 : hR n0 f0 (w 43 20) = 97 + x22 := by omega
      refine pc_ite (fun c1 => ?_) (fun c1 => ?_)
      · exact f87 (lt_none k (fun x h1 h2 e => by omega))
      · refine pc_ite (fun c2 => ?_) (fun c2 => ?_)
        · refine pc_gd (fun _ => ?_)
          refine pc_gd (fun _ => ?_)
          refine pc_lw (fun u25 e25 => ?_)
          have t20 : u25 43 20 = w 43 20 := by rw [e25, st_c (by decide)]
          have w2 := w32_sp (u25 43 20 + 1)
          refine pc_lw (fun u26 e26 => ?_)
          have t26 : u26 43 20 = w 43 20 + 1 := by rw [e26, st_eq]; omega
          rw [lt_skip e23 c2 k (by omega), ← t26]
          exact ih (v1 - x22 - 1).toNat (by omega) (by omega) (rv_st (rv_st h e25 (by decide) (Or.inl (by decide))) e26 (by decide) (Or.inr (by decide))) (by rw [e26, st_k (by decide), e25, st_c (by decide)]; exact h21) (by omega)
        · exact f87 (lt_none k (fun x h1 h2 e => by omega))
theorem rrl {n0 : Int} {f0 : Nat → Int} {P0 : Int} {v1 : Int} (i1 : 0 ≤ v1 ∧ v1 ≤ 9) {w : Wd} (h : RV n0 f0 P0 w) (h21 : w 43 21 = -1) (h20 : 0 ≤ w 43 20 ∧ w 43 20 ≤ 76) : PC (f_R_readOne v1 w) (fun _ u => RV n0 f0 P0 u ∧ ((¬ (48 ≤ hR n0 f0 (w 43 20) ∧ hR n0 f0 (w 43 20) ≤ 57) ∧ u 43 21 = w 43 20 ∧ u 43 20 = w 43 20) ∨ ((48 ≤ hR n0 f0 (w 43 20) ∧ hR n0 f0 (w 43 20) ≤ 57) ∧ RO (hR n0 f0) (lt (hR n0 f0) v1 v1.toNat (w 43 20 + 1)) u))) := by
  unfold f_R_readOne
  refine pc_call (here_pc h) (fun r1 u2 q => ?_)
  obtain ⟨q1, q2⟩ := q
  rw [q1, in_e, jc_s]
  refine pc_ite (fun hc => ?_) (fun hc => ?_)
  · have hn : ¬ (48 ≤ r1 ∧ r1 ≤ 57) := fun h2 => by rw [if_pos h2] at hc; exact absurd hc (by decide)
    refine pc_call (fl_pc w (w 43 20)) (fun r27 u28 q => ?_)
    rw [if_pos h21] at q
    refine pc_some ⟨rv_st h q (by decide) (Or.inr (by decide)), Or.inl ⟨by rw [← q2]; exact hn, ?_, ?_⟩⟩
    · rw [q, st_eq]
    · rw [q, st_k (by decide)]
  · have hl : 48 ≤ r1 ∧ r1 ≤ 57 := by
      by_cases h2 : 48 ≤ r1 ∧ r1 ≤ 57
      · exact h2
      · rw [if_neg h2] at hc; exact absurd rfl hc
    have l5 := hR_lt (n := n0) (f := f0) (p := w 43 20) (by omega)
    refine pc_call (here_pc h) (fun r5 u6 q => ?_)
    obtain ⟨p1, p2⟩ := q
    rw [p1]
    refine pc_gd (fun _ => ?_)
    refine pc_lw (fun u7 e7 => ?_)
    have t20 : u7 43 20 = w 43 20 := by rw [e7, st_c (by decide)]
    have w2 := w32_sp (u7 43 20 + 1)
    refine pc_lw (fun u8 e8 => ?_)
    refine pc_gd (fun _ => ?_)
    refine pc_lw (fun u9 e9 => ?_)
    have t9 : u9 43 20 = w 43 20 + 1 := by rw [e9, st_c (by decide), e8, st_eq]; omega
    refine pc_w (rr55 i1 FU v1.toNat (by omega) (by omega) (rv_st (rv_st (rv_st h e7 (by decide) (Or.inl (by decide))) e8 (by decide) (Or.inr (by decide))) e9 (by decide) (Or.inl (by decide))) (by rw [e9, st_c (by decide), e8, st_k (by decide), e7, st_c (by decide)]; exact h21) (by omega)) (fun r u q => ⟨q.1, Or.inr ⟨by rw [← q2]; exact hl, ?_⟩⟩)
    rw [← t9]; exact q.2
theorem r132 {b : Wd} {v1 v3 : Int} (hv : 0 ≤ v1 ∧ v1 ≤ 10) : ∀ (n : Nat) {w : Wd} {v4 : Int}, 0 ≤ v4 → G md_R_land b w → (0 ≤ w 43 56 ∧ w 43 56 ≤ 10) → PC (f_R_land_132 n v1 v3 v4 w) (fun r u => r = v3 ∧ u 43 0 = v1 ∧ u 43 56 = w 43 56 + 1) := by
  intro n
  induction n with
  | zero => intros; exact pc_none
  | succ n ih =>
    intro w v4 i4 hG h56
    rw [f_R_land_132]
    refine pc_ite (fun h => ?_) (fun h => ?_)
    · refine pc_lw (fun u10 e10 => ?_)
      have g10 : G md_R_land b u10 := g_st hG e10 rfl rfl (show (0 : Int) ≤ v1 ∧ v1 ≤ 10 by omega)
      have t56 : u10 43 56 = w 43 56 := by rw [e10, st_k (by decide)]
      refine pc_call (pc_and (pc_ok (s_R_told (g_self g10))) (told_pc (g_self g10) (by omega))) (fun r11 u12 q => ?_)
      obtain ⟨⟨_, gy, _⟩, _, q56⟩ := q
      refine pc_some ⟨rfl, ?_, by omega⟩
      rw [gy.2.1 43 0 rfl, e10, st_eq]
    · refine pc_gd (fun _ => ?_)
      refine pc_gd (fun _ => ?_)
      refine pc_gd (fun _ => ?_)
      refine pc_gd (fun _ => ?_)
      have a53 : (0 : Int) ≤ (w 53 (v4).toNat) ∧ (w 53 (v4).toNat) ≤ 9 := hG.1 53 (v4).toNat
      have a54 : (0 : Int) ≤ (w 54 (v4).toNat) ∧ (w 54 (v4).toNat) ≤ 511 := hG.1 54 (v4).toNat
      have a55 : (0 : Int) ≤ (w 55 (v4).toNat) ∧ (w 55 (v4).toNat) ≤ 1 := hG.1 55 (v4).toNat
      have a56 : (0 : Int) ≤ (w 56 (v4).toNat) ∧ (w 56 (v4).toNat) ≤ 1 := hG.1 56 (v4).toNat
      refine pc_call (pc_ok (s_R_add (g_self hG) (by omega) (by omega) (by omega) (by omega) (by omega))) (fun r13 u14 q => ?_)
      obtain ⟨_, gy⟩ := q
      have w1 := w32_sp (v4 + 1)
      refine pc_let (fun x15 e15 => ?_)
      have t56 : u14 43 56 = w 43 56 := gy.2.1 43 56 rfl
      rw [← t56]
      exact ih (by omega) (g_tr hG gy rfl) (by omega)
theorem r105 {b : Wd} {v1 : Int} (hv : 0 ≤ v1 ∧ v1 ≤ 11) {w : Wd} (hG : G md_R_land b w) (h56 : 0 ≤ w 43 56 ∧ w 43 56 ≤ 10) (h10 : v1 ≤ 10 ∨ ¬ w 43 21 = -1) : PC (f_R_land_105 v1 w) (fun r u => if w 43 21 = -1 then r = v1 - w 43 0 ∧ u 43 0 = v1 ∧ u 43 56 = w 43 56 + 1 else r = -1 - w 43 21 ∧ u 43 0 = w 43 0 ∧ u 43 56 = w 43 56) := by
  unfold f_R_land_105
  have a0 : (0 : Int) ≤ w 43 0 ∧ w 43 0 ≤ 10 := hG.1 43 0
  have a21 : (-1 : Int) ≤ w 43 21 ∧ w 43 21 ≤ 80 := hG.1 43 21
  have w1 := w32_sp (-1 - w 43 21)
  have w2 := w32_sp (v1 - w 43 0)
  rw [fine_e, jc_s]
  by_cases h : w 43 21 = -1
  · rw [if_pos h]
    refine pc_ite (fun h => absurd h (by decide)) (fun _ => ?_)
    refine pc_let (fun x8 e8 => ?_)
    refine pc_let (fun x9 e9 => ?_)
    have hv10 : v1 ≤ 10 := h10.resolve_right (fun h2 => h2 h)
    refine pc_w (r132 (v3 := x8) ⟨hv.1, hv10⟩ FU (by omega) hG h56) (fun r u q => ?_)
    rw [if_pos h]
    exact ⟨by omega, q.2⟩
  · rw [if_neg h]
    refine pc_ite (fun _ => ?_) (fun h => absurd rfl h)
    refine pc_some ?_
    rw [if_neg h]
    exact ⟨by omega, rfl, rfl⟩
theorem r86 {b : Wd} {v1 : Int} (hv : 0 ≤ v1 ∧ v1 ≤ 11) {w : Wd} (hG : G md_R_land b w) (h56 : 0 ≤ w 43 56 ∧ w 43 56 ≤ 10) (h10 : v1 ≤ 10 ∨ ¬ w 43 21 = -1) : PC (f_R_land_86 v1 w) (fun r u => if w 43 21 = -1 then (if w 43 18 ≤ w 43 20 then r = v1 - w 43 0 ∧ u 43 0 = v1 ∧ u 43 56 = w 43 56 + 1 else r = -1 - w 43 20 ∧ u 43 0 = w 43 0 ∧ u 43 56 = w 43 56) else r = -1 - w 43 21 ∧ u 43 0 = w 43 0 ∧ u 43 56 = w 43 56) := by
  unfold f_R_land_86
  have a20 : (0 : Int) ≤ w 43 20 ∧ w 43 20 ≤ 80 := hG.1 43 20
  refine pc_ite (fun c => ?_) (fun c => ?_)
  · refine pc_w (r105 hv hG h56 h10) (fun r u q => ?_)
    rw [if_pos c]; exact q
  · refine pc_call (pc_and (pc_ok (s_R_fault (g_self hG) a20 a20.1)) (fl_pc w (w 43 20))) (fun r16 u17 q => ?_)
    obtain ⟨⟨_, gy, hn⟩, q⟩ := q
    have t56 : u17 43 56 = w 43 56 := gy.2.1 43 56 rfl
    refine pc_w (r105 hv (g_tr hG gy rfl) (by omega) (Or.inr hn)) (fun r u p => ?_)
    rw [if_neg hn, gy.2.1 43 0 rfl, t56] at p
    by_cases h : w 43 21 = -1
    · rw [if_pos h, if_neg c]
      rw [if_pos h] at q
      rw [q, st_eq] at p
      exact p
    · rw [if_neg h]
      rw [if_neg h] at q
      rw [q] at p
      exact p
theorem r40z {b : Wd} {v1 : Int} (hv : 0 ≤ v1 ∧ v1 ≤ 11) (n : Nat) {w : Wd} (hG : G md_R_land b w) (h56 : 0 ≤ w 43 56 ∧ w 43 56 ≤ 10) (h10 : v1 ≤ 10 ∨ ¬ w 43 21 = -1) : PC (f_R_land_40 n v1 0 w) (fun r u => if w 43 21 = -1 then (if w 43 18 ≤ w 43 20 then r = v1 - w 43 0 ∧ u 43 0 = v1 ∧ u 43 56 = w 43 56 + 1 else r = -1 - w 43 20 ∧ u 43 0 = w 43 0 ∧ u 43 56 = w 43 56) else r = -1 - w 43 21 ∧ u 43 0 = w 43 0 ∧ u 43 56 = w 43 56) := by
  cases n with
  | zero => exact pc_none
  | succ n =>
    rw [f_R_land_40]
    exact pc_ite (fun _ => r86 hv hG h56 h10) (fun h => absurd rfl h)
theorem r40 {b : Wd} {n0 : Int} {f0 : Nat → Int} {P0 C0 : Int} (hP : 0 ≤ P0) (hC : 0 ≤ C0 ∧ C0 ≤ 10) : ∀ (n : Nat) {w : Wd} {v1 : Int} (f j : Nat), v1 = P0 + j → v1 ≤ 10 → 10 < v1 + f → G md_R_land b w → RV n0 f0 P0 w → w 43 21 = -1 → (0 ≤ w 43 20 ∧ w 43 20 ≤ 76) → w 43 56 = C0 → PC (f_R_land_40 n v1 1 w) (fun r u => r = lan (hR n0 f0) n0 P0 f j (w 43 20) ∧ u 43 0 = P0 + (if 0 < r then r else 0) ∧ u 43 56 = C0 + (if 0 < r then 1 else 0)) := by
  intro n
  induction n with
  | zero => intros; exact pc_none
  | succ n ih =>
    intro w v1 f j hv h10 hfu hG h h21 h20 h56
    cases f with
    | zero => exfalso; omega
    | succ f =>
      rw [f_R_land_40, lan]
      have w1 := w32_sp (v1 + 1)
      refine pc_ite (fun h => absurd h (by decide)) (fun _ => ?_)
      rw [fine_e, jc_s, if_pos h21]
      refine pc_ite (fun h => absurd h (by decide)) (fun _ => ?_)
      -- no more is to come: a fault at place x
      have stop : ∀ {u : Wd} {x : Int}, G md_R_land b u → RV n0 f0 P0 u → u 43 21 = x → 0 ≤ x → (0 ≤ u 43 20 ∧ u 43 20 ≤ 76) → u 43 56 = C0 → PC (f_R_land_73 (f_R_land_40 n) v1 u) (fun r u' => r = -1 - x ∧ u' 43 0 = P0 + (if 0 < r then r else 0) ∧ u' 43 56 = C0 + (if 0 < r then 1 else 0)) := by
        intro u x gu hu ux x0 u20 u56
        unfold f_R_land_73
        refine pc_let (fun x22 e22 => ?_)
        refine pc_call (pc_and (pc_ok (s_R_passes (g_self gu) (by decide) (Or.inl hu.1) (by decide))) (ps_pc hu 59 u20)) (fun r23 u24 q => ?_)
        obtain ⟨⟨_, gy, _⟩, q⟩ := q
        rcases q with ⟨q0, _⟩ | ⟨_, q2, q3⟩
        · exfalso; omega
        · rw [q2, q3]
          have hne : ¬ u 43 21 = -1 := by omega
          refine pc_w (r40z (by omega) n gu (by omega) (Or.inr hne)) (fun r u' p => ?_)
          rw [if_neg hne, ux, hu.2.2.2.2] at p
          refine ⟨p.1, ?_, ?_⟩
          · rw [if_neg (by omega)]; omega
          · rw [if_neg (by omega)]; omega
      refine pc_ite (fun c1 => ?_) (fun c1 => ?_)
      · rw [if_pos (by omega)]
        refine pc_call (pc_and (pc_ok (s_R_fault (g_self hG) (by omega) h20.1)) (fl_pc w (w 43 20))) (fun r25 u26 q => ?_)
        obtain ⟨⟨_, gy, _⟩, q⟩ := q
        rw [if_pos h21] at q
        have t20 : u26 43 20 = w 43 20 := by rw [q, st_k (by decide)]
        exact stop (g_tr hG gy rfl) (rv_st h q (by decide) (Or.inr (by decide))) (by rw [q, st_eq]) h20.1 (by omega) (by rw [q, st_k (by decide)]; exact h56)
      · rw [if_neg (by omega)]
        refine pc_call (pc_and (pc_ok (s_R_readOne (g_self hG) (by omega) h.1)) (rrl (by omega) h h21 h20)) (fun r20 u21 q => ?_)
        obtain ⟨⟨_, gy⟩, hu, q⟩ := q
        have gu : G md_R_land b u21 := g_tr hG gy rfl
        rcases q with ⟨q1, q2, q3⟩ | ⟨q1, q⟩
        · rw [if_neg q1]
          exact stop gu hu q2 h20.1 (by omega) (by rw [gy.2.1 43 56 rfl]; exact h56)
        · rw [if_pos q1]
          have l5 := hR_lt (n := n0) (f := f0) (p := w 43 20) (by omega)
          have b1 := lt_ge (hR n0 f0) v1 v1.toNat (w 43 20 + 1)
          have b2 := lt_le (hR_76 n0 f0) (num := v1) v1.toNat (p := w 43 20 + 1) (by omega) (by omega)
          have b3 := fnl_le (hR_76 n0 f0) (p := lt (hR n0 f0) v1 v1.toNat (w 43 20 + 1)) (by omega)
          have b4 := fnl_ge (hR n0 f0) (lt (hR n0 f0) v1 v1.toNat (w 43 20 + 1))
          have ee : en (hR n0 f0) (P0 + j) (w 43 20) = fnl (hR n0 f0) (lt (hR n0 f0) v1 v1.toNat (w 43 20 + 1)) := by rw [hv]; rfl
          rw [ee]
          generalize lt (hR n0 f0) v1 v1.toNat (w 43 20 + 1) = x at *
          rcases q with ⟨p1, p2, p3⟩ | ⟨p1, p2, p3⟩
          · have ef : fnl (hR n0 f0) x = x := by
              unfold fnl
              rw [if_neg (by omega), if_neg (by omega)]
            have l6 := hR_lt (n := n0) (f := f0) (p := x) (by omega)
            rw [ef, if_neg (by omega), if_neg (by omega)]
            exact stop gu hu p2 (by omega) (by omega) (by rw [gy.2.1 43 56 rfl]; exact h56)
          · generalize fnl (hR n0 f0) x = e at *
            unfold f_R_land_73
            refine pc_let (fun x22 e22 => ?_)
            refine pc_call (pc_and (pc_ok (s_R_passes (g_self gu) (by decide) (Or.inl hu.1) (by decide))) (ps_pc hu 59 (by omega))) (fun r23 u24 q => ?_)
            obtain ⟨⟨_, gy2, _⟩, q⟩ := q
            rw [p3] at q
            rcases q with ⟨_, c2, q2, q3⟩ | ⟨q1', q2, q3⟩
            · have l6 := hR_lt (n := n0) (f := f0) (p := e) (by omega)
              rw [if_neg (by omega), if_pos c2, q2]
              have t20 : u24 43 20 = e + 1 := by rw [q3, st_eq]
              rw [← t20]
              have e22' : x22 = v1 + 1 := by omega
              rw [e22']
              exact ih f (j + 1) (by omega) (by omega) (by omega) (g_tr gu gy2 rfl) (rv_st hu q3 (by decide) (Or.inr (by decide))) (by rw [q3, st_k (by decide)]; exact p2) (by omega) (by rw [gy2.2.1 43 56 rfl, gy.2.1 43 56 rfl]; exact h56)
            · have c2 : ¬ hR n0 f0 e = 59 := fun h2 => q1' ⟨p2, h2⟩
              rw [if_neg c2, q2, q3]
              have t56 : u21 43 56 = w 43 56 := gy.2.1 43 56 rfl
              refine pc_w (r40z (by omega) n gu (by omega) (Or.inl (by omega))) (fun r u' p => ?_)
              rw [if_pos p2, hu.2.1, p3, hu.2.2.2.2] at p
              by_cases c3 : n0 ≤ e
              · rw [if_pos c3] at p ⊢
                refine ⟨by omega, ?_, ?_⟩
                · rw [if_pos (by omega)]; omega
                · rw [if_pos (by omega)]; omega
              · rw [if_neg c3] at p ⊢
                refine ⟨p.1, ?_, ?_⟩
                · rw [if_neg (by omega)]; omega
                · rw [if_neg (by omega)]; omega
theorem land_R {w : Wd} (hG : G md_R_land w w) (h56 : 0 ≤ w 43 56 ∧ w 43 56 ≤ 10) : PC (f_R_land w) (fun r u => r = landA (hR (w 43 13) (w 51)) (w 43 13) (w 43 0) ∧ u 43 0 = w 43 0 + (if 0 < r then r else 0) ∧ u 43 56 = w 43 56 + (if 0 < r then 1 else 0)) := by
  unfold f_R_land landA
  have a0 : (0 : Int) ≤ w 43 0 ∧ w 43 0 ≤ 10 := hG.1 43 0
  refine pc_lw (fun u1 e1 => ?_)
  have g1 : G md_R_land w u1 := g_st hG e1 rfl rfl (show (0 : Int) ≤ 0 ∧ (0 : Int) ≤ 1 by decide)
  have a13 : (0 : Int) ≤ u1 43 13 ∧ u1 43 13 ≤ 80 := g1.1 43 13
  have t13 : u1 43 13 = w 43 13 := by rw [e1, st_k (by decide)]
  have t0 : u1 43 0 = w 43 0 := by rw [e1, st_k (by decide)]
  have t51 : u1 51 = w 51 := by rw [e1]; exact st_row (by decide)
  have q1 : PC (f_R_begin1_43_51 (u1 43 13) 76 u1) (fun _ u => RV (w 43 13) (w 51) (w 43 0) u ∧ u 43 20 = 0 ∧ u 43 21 = -1) := by
    unfold f_R_begin1_43_51
    refine pc_lw (fun x1 y1 => ?_)
    refine pc_lw (fun x2 y2 => ?_)
    refine pc_lw (fun x3 y3 => ?_)
    refine pc_lw (fun x4 y4 => ?_)
    refine pc_lw (fun x5 y5 => ?_)
    refine pc_some ⟨⟨?_, ?_, ?_, ?_, ?_⟩, ?_, ?_⟩
    · rw [y5, st_k (by decide), y4, st_k (by decide), y3, st_k (by decide), y2, st_k (by decide), y1, st_eq]
    · rw [y5, st_k (by decide), y4, st_k (by decide), y3, st_k (by decide), y2, st_eq]; exact t13
    · rw [y5, st_k (by decide), y4, st_k (by decide), y3, st_eq]
    · rw [y5, st_row (by decide), y4, st_row (by decide), y3, st_row (by decide), y2, st_row (by decide), y1, st_row (by decide)]; exact t51
    · rw [y5, st_k (by decide), y4, st_k (by decide), y3, st_k (by decide), y2, st_k (by decide), y1, st_k (by decide)]; exact t0
    · rw [y5, st_k (by decide), y4, st_eq]
    · rw [y5, st_eq]
  refine pc_call (pc_and (pc_ok (s_R_begin1_43_51 (g_self g1) (by omega) (by omega))) q1) (fun r2 u3 q => ?_)
  obtain ⟨⟨_, gy, _⟩, hu, q20, q21⟩ := q
  have g3 : G md_R_land w u3 := g_tr g1 gy rfl
  refine pc_lw (fun u4 e4 => ?_)
  have g4 : G md_R_land w u4 := g_st g3 e4 rfl rfl (show (0 : Int) ≤ 0 ∧ (0 : Int) ≤ 80 by decide)
  have h4 := rv_st hu e4 (by decide) (Or.inr (by decide))
  have t20 : u4 43 20 = 0 := by rw [e4, st_k (by decide)]; exact q20
  have t21 : u4 43 21 = -1 := by rw [e4, st_k (by decide)]; exact q21
  have t56 : u4 43 56 = w 43 56 := by rw [e4, st_k (by decide), gy.2.1 43 56 rfl, e1, st_k (by decide)]
  rw [h4.2.1]
  refine pc_ite (fun c => ?_) (fun c => ?_)
  · rw [if_pos c]
    refine pc_some ⟨rfl, ?_, ?_⟩
    · rw [if_neg (by decide), h4.2.2.2.2]; omega
    · rw [if_neg (by decide)]; omega
  · rw [if_neg c]
    refine pc_let (fun x5 e5 => ?_)
    rw [e5, h4.2.2.2.2]
    have h9 := r40 a0.1 h56 FU (v1 := w 43 0) 11 0 (by omega) a0.2 (by omega) g4 h4 t21 (by omega) t56
    rw [t20] at h9
    exact h9
/-! both read alike -/
def Sy (s h : Int → Int) : Prop := ∀ p c, 0 ≤ p → 0 ≤ c → c ≤ 127 → (s p = c ↔ h p = c)
theorem sy_dig {s h : Int → Int} (hs : Sy s h) {p a b : Int} (hp : 0 ≤ p) (ha : 0 ≤ a) (hb : b ≤ 127) : (a ≤ s p ∧ s p ≤ b) ↔ (a ≤ h p ∧ h p ≤ b) := by
  constructor
  · intro q
    have := (hs p (s p) hp (by omega) (by omega)).mp rfl
    omega
  · intro q
    have := (hs p (h p) hp (by omega) (by omega)).mpr rfl
    omega
theorem lt_sy {s h : Int → Int} (hs : Sy s h) {num : Int} (hn : num ≤ 10) : ∀ (k : Nat) {p : Int}, (k : Int) ≤ num → 0 ≤ p → lt s num k p = lt h num k p := by
  intro k
  induction k with
  | zero => intros; rfl
  | succ k ih =>
    intro p hk hp
    have e := hs p (97 + (num - ((k : Int) + 1))) hp (by omega) (by omega)
    rw [lt, lt]
    by_cases c : s p = 97 + (num - ((k : Int) + 1))
    · rw [if_pos c, if_pos (e.mp c)]; exact ih (by omega) (by omega)
    · rw [if_neg c, if_neg (fun c2 => c (e.mpr c2))]; exact ih (by omega) hp
theorem fnl_sy {s h : Int → Int} (hs : Sy s h) {p : Int} (hp : 0 ≤ p) : fnl s p = fnl h p := by
  have e1 := hs p 33 hp (by decide) (by decide)
  have e2 := hs p 63 hp (by decide) (by decide)
  have e3 := hs (p + 1) 63 (by omega) (by decide) (by decide)
  unfold fnl
  by_cases c1 : s p = 33
  · rw [if_pos c1, if_pos (e1.mp c1)]
    by_cases c3 : s (p + 1) = 63
    · rw [if_pos c3, if_pos (e3.mp c3)]
    · rw [if_neg c3, if_neg (fun c => c3 (e3.mpr c))]
  · rw [if_neg c1, if_neg (fun c => c1 (e1.mpr c))]
    by_cases c3 : s p = 63
    · rw [if_pos c3, if_pos (e2.mp c3)]
    · rw [if_neg c3, if_neg (fun c => c3 (e2.mpr c))]
theorem en_sy {s h : Int → Int} (hs : Sy s h) {num p : Int} (hn : 0 ≤ num ∧ num ≤ 10) (hp : 0 ≤ p) : en s num p = en h num p := by
  unfold en
  rw [lt_sy hs hn.2 num.toNat (by omega) (by omega)]
  exact fnl_sy hs (Int.le_trans (by omega) (lt_ge h num _ _))
theorem lan_sy {s h : Int → Int} (hs : Sy s h) {n a : Int} (ha : 0 ≤ a) : ∀ (f j : Nat) {p : Int}, 0 ≤ p → lan s n a f j p = lan h n a f j p := by
  intro f
  induction f with
  | zero => intros; rfl
  | succ f ih =>
    intro j p hp
    rw [lan, lan]
    by_cases c1 : (10 : Int) ≤ a + j
    · rw [if_pos c1, if_pos c1]
    · rw [if_neg c1, if_neg c1]
      have d := sy_dig hs hp (a := 48) (b := 57) (by decide) (by decide)
      by_cases c2 : 48 ≤ s p ∧ s p ≤ 57
      · rw [if_pos c2, if_pos (d.mp c2), en_sy hs (by omega) hp]
        have b1 := en_ge h (a + j) p
        by_cases c3 : n ≤ en h (a + j) p
        · rw [if_pos c3, if_pos c3]
        · rw [if_neg c3, if_neg c3]
          have e := hs (en h (a + j) p) 59 (by omega) (by decide) (by decide)
          by_cases c4 : s (en h (a + j) p) = 59
          · rw [if_pos c4, if_pos (e.mp c4)]; exact ih _ (by omega)
          · rw [if_neg c4, if_neg (fun c => c4 (e.mpr c))]
      · rw [if_neg c2, if_neg (fun c => c2 (d.mpr c))]
theorem landA_sy {s h : Int → Int} (hs : Sy s h) {n a : Int} (ha : 0 ≤ a) : landA s n a = landA h n a := by
  unfold landA
  split
  · rfl
  · exact lan_sy hs ha 11 0 (Int.le_refl 0)
/-- the texts of both: bytes here, characters there -/
def TX (w : Wd) : Prop := w 1 1 = w 43 13 ∧ ∀ k : Nat, (k : Int) < w 43 13 → w 2 k ≤ 255 ∧ w 51 k = (if w 2 k ≤ 127 then w 2 k else w 2 k - 256)
theorem tx_sy {w : Wd} (h : TX w) (hf : ∀ k, 0 ≤ w 2 k) : Sy (sE (w 1 1) (w 2)) (hR (w 43 13) (w 51)) := by
  intro p c hp hc hc2
  unfold sE hR
  rw [h.1, if_neg (by omega)]
  by_cases c1 : p < w 43 13
  · rw [if_pos c1, if_neg (show ¬ w 43 13 ≤ p by omega)]
    by_cases c2 : p < 76
    · rw [if_pos c2, if_neg (show ¬ (76 : Int) ≤ p by omega)]
      obtain ⟨h1, h2⟩ := h.2 p.toNat (by omega)
      have h3 := hf p.toNat
      rw [h2]
      split <;> omega
    · rw [if_neg c2, if_pos (show (76 : Int) ≤ p by omega)]; omega
  · rw [if_neg c1, if_pos (show w 43 13 ≤ p by omega)]
