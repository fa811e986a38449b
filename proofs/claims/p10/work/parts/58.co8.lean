/-! again: the class -/
def GBq (w u : Wd) (c d g : Nat) : Prop := u 5 4 = w c 4 ∧ u 5 5 = w c 5 ∧ u 5 6 = w c 6 ∧ u 5 7 = w c 7 ∧ u 5 8 = w c 8 ∧ u 15 3 = w c 9 ∧ u 15 4 = 0 ∧ (∀ k : Nat, k < 10 → u 8 k = w d k) ∧ ∀ k : Nat, k < 61 → u 16 k = w g k
theorem gb0 (w : Wd) : PC (f_K_giveBack w) (fun _ u => GBq w u 37 38 39) := by
  unfold f_K_giveBack GBq
  refine pc_lw (fun u1 e1 => ?_)
  refine pc_lw (fun u2 e2 => ?_)
  refine pc_lw (fun u3 e3 => ?_)
  refine pc_lw (fun u4 e4 => ?_)
  refine pc_lw (fun u5 e5 => ?_)
  refine pc_lw (fun u6 e6 => ?_)
  refine pc_lw (fun u7 e7 => ?_)
  refine pc_gd (fun _ => ?_)
  refine pc_lw (fun u9 e9 => ?_)
  refine pc_gd (fun _ => ?_)
  refine pc_lw (fun u10 e10 => ?_)
  subst e1; subst e2; subst e3; subst e4; subst e5; subst e6; subst e7; subst e9; subst e10
  refine pc_some ⟨?_, ?_, ?_, ?_, ?_, ?_, ?_, fun k hk => ?_, fun k hk => ?_⟩ <;> simp [st, cpy]
  · omega
  · omega
theorem gb1 (w : Wd) : PC (f_K_giveBack_40_5_15 w) (fun _ u => GBq w u 40 41 42) := by
  unfold f_K_giveBack_40_5_15 GBq
  refine pc_lw (fun u1 e1 => ?_)
  refine pc_lw (fun u2 e2 => ?_)
  refine pc_lw (fun u3 e3 => ?_)
  refine pc_lw (fun u4 e4 => ?_)
  refine pc_lw (fun u5 e5 => ?_)
  refine pc_lw (fun u6 e6 => ?_)
  refine pc_lw (fun u7 e7 => ?_)
  refine pc_gd (fun _ => ?_)
  refine pc_lw (fun u9 e9 => ?_)
  refine pc_gd (fun _ => ?_)
  refine pc_lw (fun u10 e10 => ?_)
  subst e1; subst e2; subst e3; subst e4; subst e5; subst e6; subst e7; subst e9; subst e10
  refine pc_some ⟨?_, ?_, ?_, ?_, ?_, ?_, ?_, fun k hk => ?_, fun k hk => ?_⟩ <;> simp [st, cpy]
  · omega
  · omega
theorem ft0 (w : Wd) : f_K_fits w = some (if w 37 2 ≠ 0 ∧ w 37 3 = w 5 3 then 1 else 0, w) := by
  unfold f_K_fits
  by_cases h1 : w 37 2 = 0
  · rw [if_pos h1, if_neg (fun h => h.1 h1)]
  · rw [if_neg h1]
    by_cases h2 : w 37 3 = w 5 3
    · rw [if_pos h2, if_pos ⟨h1, h2⟩]
    · rw [if_neg h2, if_neg (fun h => h2 h.2)]
theorem ft1 (w : Wd) : f_K_fits_40_5 w = some (if w 40 2 ≠ 0 ∧ w 40 3 = w 5 3 then 1 else 0, w) := by
  unfold f_K_fits_40_5
  by_cases h1 : w 40 2 = 0
  · rw [if_pos h1, if_neg (fun h => h.1 h1)]
  · rw [if_neg h1]
    by_cases h2 : w 40 3 = w 5 3
    · rw [if_pos h2, if_pos ⟨h1, h2⟩]
    · rw [if_neg h2, if_neg (fun h => h2 h.2)]
theorem gbq_sf {w u v : Wd} {c d g : Nat} (h : GBq w u c d g) (e : ∀ c, c ≠ 28 → v c = u c) : GBq w v c d g := by
  unfold GBq
  rw [e 5 (by decide), e 15 (by decide), e 8 (by decide), e 16 (by decide)]
  exact h
theorem ag_E {v1 : Int} {w : Wd} : PC (f_E_again v1 w) (fun r u => (¬ (v1 = 0 ∧ w 37 2 ≠ 0 ∧ w 37 3 = w 5 3) ∧ ¬ (v1 = 1 ∧ w 40 2 ≠ 0 ∧ w 40 3 = w 5 3) ∧ r = 0 ∧ u = w) ∨ ((v1 = 0 ∧ w 37 2 ≠ 0 ∧ w 37 3 = w 5 3) ∧ r = 1 ∧ GBq w u 37 38 39) ∨ ((v1 = 1 ∧ w 40 2 ≠ 0 ∧ w 40 3 = w 5 3) ∧ r = 1 ∧ GBq w u 40 41 42)) := by
  unfold f_E_again
  refine pc_ite (fun c => pc_some (Or.inl ⟨fun h => by omega, fun h => by omega, rfl, rfl⟩)) (fun c => ?_)
  refine pc_ite (fun c => pc_some (Or.inl ⟨fun h => by omega, fun h => by omega, rfl, rfl⟩)) (fun c => ?_)
  refine pc_ite (fun c2 => ?_) (fun c2 => ?_)
  · rw [ft0, jc_s]
    by_cases hf : w 37 2 ≠ 0 ∧ w 37 3 = w 5 3
    · rw [if_pos hf]
      refine pc_ite (fun h => absurd h (by decide)) (fun _ => ?_)
      refine pc_ite (fun _ => ?_) (fun n => absurd c2 n)
      refine pc_call (gb0 w) (fun r3 u4 q => ?_)
      refine pc_call (sf_pc u4) (fun r5 u6 p => ?_)
      exact pc_some (Or.inr (Or.inl ⟨⟨c2, hf⟩, rfl, gbq_sf q p⟩))
    · rw [if_neg hf]
      exact pc_ite (fun _ => pc_some (Or.inl ⟨fun h => hf h.2, fun h => by omega, rfl, rfl⟩)) (fun n => absurd rfl n)
  · refine pc_ite (fun c3 => ?_) (fun _ => pc_none)
    rw [ft1, jc_s]
    by_cases hf : w 40 2 ≠ 0 ∧ w 40 3 = w 5 3
    · rw [if_pos hf]
      refine pc_ite (fun h => absurd h (by decide)) (fun _ => ?_)
      refine pc_ite (fun n => absurd n c2) (fun _ => ?_)
      refine pc_ite (fun _ => ?_) (fun n => absurd c3 n)
      refine pc_call (gb1 w) (fun r3 u4 q => ?_)
      refine pc_call (sf_pc u4) (fun r5 u6 p => ?_)
      exact pc_some (Or.inr (Or.inr ⟨⟨c3, hf⟩, rfl, gbq_sf q p⟩))
    · rw [if_neg hf]
      exact pc_ite (fun _ => pc_some (Or.inl ⟨fun h => by omega, fun h => hf h.2, rfl, rfl⟩)) (fun n => absurd rfl n)
/-! again: the reference -/
theorem aq_133 {x : Wd} {i : Nat} {v2 : Int} (h2 : v2 = 105 * i + 41) (hi : i < 2) {wk g s : Int} {hd : Nat → Int} : ∀ (n : Nat) {w : Wd} {v3 : Int}, 0 ≤ v3 → E57 x w → w 43 8 = wk → w 43 10 = g → w 43 11 = s → w 46 = hd → (∀ t : Nat, (t : Int) < v3 → w 50 t = x 79 (105 * i + 44 + t)) → PC (f_R_again_133 n v2 v3 w) (fun r u => r = 1 ∧ E57 x u ∧ u 43 8 = wk ∧ u 43 10 = g ∧ u 43 11 = s ∧ u 46 = hd ∧ u 43 32 = 0 ∧ ∀ t : Nat, t < 61 → u 50 t = x 79 (105 * i + 44 + t)) := by
  intro n
  induction n with
  | zero => intros; exact pc_none
  | succ n ih =>
    intro w v3 i3 hE h8 h10 h11 h46 hW
    rw [f_R_again_133]
    have w1 := w32_sp (v3 + 1)
    have w2 := w32_sp (v2 + 3)
    have w3 := w32_sp (w32 (v2 + 3) + v3)
    refine pc_ite (fun _ => ?_) (fun _ => ?_)
    · refine pc_lw (fun u12 e12 => ?_)
      refine pc_some ⟨rfl, e57_st hE e12 (by omega), ?_, ?_, ?_, ?_, ?_, fun t ht => ?_⟩
      · rw [e12, st_k (by decide)]; exact h8
      · rw [e12, st_k (by decide)]; exact h10
      · rw [e12, st_k (by decide)]; exact h11
      · rw [e12, st_row (by decide)]; exact h46
      · rw [e12, st_eq]
      · rw [e12, st_c (by decide)]; exact hW t (by omega)
    · refine pc_gd (fun _ => ?_)
      refine pc_gd (fun _ => ?_)
      refine pc_lw (fun u13 e13 => ?_)
      refine pc_let (fun x14 e14 => ?_)
      refine ih (by omega) (e57_st hE e13 (by omega)) (by rw [e13, st_c (by decide)]; exact h8) (by rw [e13, st_c (by decide)]; exact h10) (by rw [e13, st_c (by decide)]; exact h11) (by rw [e13, st_row (by decide)]; exact h46) (fun t ht => ?_)
      rw [e13]
      by_cases c : t = v3.toNat
      · rw [c, st_eq, hE 79 _ (by omega)]
        congr 1
        omega
      · rw [st_k c]; exact hW t (by omega)
theorem aq_57 {x : Wd} {i : Nat} {v2 P : Int} (h2 : v2 = 105 * i + 31) (hi : i < 2) (hP : x 43 0 = P) (hP10 : P ≤ 10) : ∀ (n : Nat) {w : Wd} {v3 : Int}, 0 ≤ v3 → E57 x w → (∀ j : Nat, (j : Int) < v3 → w 46 j = if x 79 (105 * i + 31 + j) = 1 then 1 else 0) → PC (f_R_again_57 n v2 v3 w) (fun r u => r = 1 ∧ E57 x u ∧ u 43 8 = x 79 (105 * i + 43) ∧ u 43 10 = x 79 (105 * i + 41) ∧ u 43 11 = x 79 (105 * i + 42) ∧ (∀ j : Nat, (j : Int) < P → u 46 j = if x 79 (105 * i + 31 + j) = 1 then 1 else 0) ∧ u 43 32 = 0 ∧ ∀ t : Nat, t < 61 → u 50 t = x 79 (105 * i + 44 + t)) := by
  intro n
  induction n with
  | zero => intros; exact pc_none
  | succ n ih =>
    intro w v3 i3 hE hH
    rw [f_R_again_57]
    have y0 : w 43 0 = P := (hE 43 0 (by omega)).trans hP
    rw [y0]
    have w0 := w32_sp (v2 + v3)
    have w9 := w32_sp (v3 + 1)
    refine pc_ite (fun c0 => ?_) (fun c0 => ?_)
    · have w1 := w32_sp (v2 + 10)
      refine pc_let (fun x8 e8 => ?_)
      have w2 := w32_sp (x8 + 1)
      have w3 := w32_sp (x8 + 2)
      refine pc_gd (fun _ => ?_)
      refine pc_lw (fun u9 e9 => ?_)
      refine pc_gd (fun _ => ?_)
      refine pc_lw (fun u10 e10 => ?_)
      refine pc_gd (fun _ => ?_)
      refine pc_lw (fun u11 e11 => ?_)
      have E9 := e57_st hE e9 (by omega)
      have E10 := e57_st E9 e10 (by omega)
      have hx0 : x8.toNat = 105 * i + 41 := by omega
      have hx1 : (w32 (x8 + 1)).toNat = 105 * i + 42 := by omega
      have hx2 : (w32 (x8 + 2)).toNat = 105 * i + 43 := by omega
      rw [hx0, hE 79 _ (by omega)] at e9
      rw [hx1, E9 79 _ (by omega)] at e10
      rw [hx2, E10 79 _ (by omega)] at e11
      refine pc_w (aq_133 (x := x) (i := i) (by omega) hi FU (by decide) (e57_st E10 e11 (by omega)) rfl rfl rfl rfl (fun t ht => by omega)) (fun r u q => ⟨q.1, q.2.1, q.2.2.1.trans ?_, q.2.2.2.1.trans ?_, q.2.2.2.2.1.trans ?_, fun j hj => ?_, q.2.2.2.2.2.2⟩)
      · rw [e11, st_eq]
      · rw [e11, st_k (by decide), e10, st_k (by decide), e9, st_eq]
      · rw [e11, st_k (by decide), e10, st_eq]
      · rw [q.2.2.2.2.2.1, e11, st_c (by decide), e10, st_c (by decide), e9, st_c (by decide)]
        exact hH j (by omega)
    · refine pc_gd (fun _ => ?_)
      have q1 : (w32 (v2 + v3)).toNat = 105 * i + 31 + v3.toNat := by omega
      rw [q1, hE 79 _ (by omega)]
      have nx : ∀ s : Int, nz s = (if x 79 (105 * i + 31 + v3.toNat) = 1 then 1 else 0) → PC (f_R_again_87 (f_R_again_57 n) v2 v3 v3 s w) (fun r u => r = 1 ∧ E57 x u ∧ u 43 8 = x 79 (105 * i + 43) ∧ u 43 10 = x 79 (105 * i + 41) ∧ u 43 11 = x 79 (105 * i + 42) ∧ (∀ j : Nat, (j : Int) < P → u 46 j = if x 79 (105 * i + 31 + j) = 1 then 1 else 0) ∧ u 43 32 = 0 ∧ ∀ t : Nat, t < 61 → u 50 t = x 79 (105 * i + 44 + t)) := by
        intro s hs
        unfold f_R_again_87
        refine pc_gd (fun _ => ?_)
        refine pc_lw (fun u15 e15 => ?_)
        refine pc_let (fun x16 e16 => ?_)
        refine ih (by omega) (e57_st hE e15 (by omega)) (fun j hj => ?_)
        rw [e15]
        by_cases c : j = v3.toNat
        · rw [c, st_eq]; exact hs
        · rw [st_k c]; exact hH j (by omega)
      exact pc_ite (fun c => nx 1 (by rw [if_pos c]; decide)) (fun c => nx 0 (by rw [if_neg c]; decide))
def RAq (w u : Wd) (i : Nat) : Prop := (∀ j : Nat, (j : Int) < w 43 0 → u 47 j = w 79 (105 * i + 3 * j) ∧ u 48 j = w 79 (105 * i + 3 * j + 1) ∧ u 49 j = w 79 (105 * i + 3 * j + 2)) ∧ u 43 7 = w 79 (105 * i + 30) ∧ (∀ j : Nat, (j : Int) < w 43 0 → u 46 j = if w 79 (105 * i + 31 + j) = 1 then 1 else 0) ∧ u 43 10 = w 79 (105 * i + 41) ∧ u 43 11 = w 79 (105 * i + 42) ∧ u 43 8 = w 79 (105 * i + 43) ∧ u 43 32 = 0 ∧ ∀ t : Nat, t < 61 → u 50 t = w 79 (105 * i + 44 + t)
theorem ag_R {v1 : Int} {w : Wd} (hG : G md_R_again w w) : PC (f_R_again v1 w) (fun r u => (¬ ((0 ≤ v1 ∧ v1 ≤ 1) ∧ w 80 v1.toNat ≠ 0 ∧ w 81 v1.toNat = w 43 56) ∧ r = 0 ∧ u = st w 43 16 0) ∨ (((0 ≤ v1 ∧ v1 ≤ 1) ∧ w 80 v1.toNat ≠ 0 ∧ w 81 v1.toNat = w 43 56) ∧ r = 1 ∧ RAq w u v1.toNat)) := by
  unfold f_R_again
  refine pc_lw (fun u1 e1 => ?_)
  have g1 : G md_R_again w u1 := g_st hG e1 rfl rfl (show (0 : Int) ≤ 0 ∧ (0 : Int) ≤ 1 by decide)
  rw [in_e, jc_s]
  refine pc_ite (fun hr => ?_) (fun hr => ?_)
  · refine pc_some (Or.inl ⟨fun h2 => ?_, rfl, e1⟩)
    rw [if_pos h2.1] at hr; exact absurd hr (by decide)
  · have hv : 0 ≤ v1 ∧ v1 ≤ 1 := by
      by_cases h2 : 0 ≤ v1 ∧ v1 ≤ 1
      · exact h2
      · rw [if_neg h2] at hr; exact absurd rfl hr
    have t80 : u1 80 v1.toNat = w 80 v1.toNat := by rw [e1, st_c (by decide)]
    have t81 : u1 81 v1.toNat = w 81 v1.toNat := by rw [e1, st_c (by decide)]
    have t56 : u1 43 56 = w 43 56 := by rw [e1, st_k (by decide)]
    have t0 : u1 43 0 = w 43 0 := by rw [e1, st_k (by decide)]
    have t79 : u1 79 = w 79 := by rw [e1, st_row (by decide)]
    refine pc_gd (fun _ => ?_)
    rw [t80]
    refine pc_ite (fun h80 => pc_some (Or.inl ⟨fun h => h.2.1 h80, rfl, e1⟩)) (fun h80 => ?_)
    refine pc_gd (fun _ => ?_)
    rw [t81, t56]
    refine pc_ite (fun h81 => ?_) (fun h81 => pc_some (Or.inl ⟨fun h => h81 h.2.2, rfl, e1⟩))
    have a0 : (0 : Int) ≤ u1 43 0 ∧ u1 43 0 ≤ 10 := g1.1 43 0
    have w1 := w32_sp (105 * v1)
    refine pc_let (fun x4 e4 => ?_)
    refine pc_call (pc_and (pc_ok (s_R_bring_43_79 (v2 := x4) (g_self g1) (by omega) (by omega))) (bringq79 (k := 105 * v1.toNat) (v2 := x4) (by omega) (by omega) u1 (by omega))) (fun r5 u6 q => ?_)
    obtain ⟨⟨_, gy⟩, hD, h7⟩ := q
    have w2 := w32_sp (x4 + 31)
    refine pc_let (fun x7 e7 => ?_)
    have y79 : u6 79 = w 79 := (funext fun k => gy.2.1 79 k (mS_ar rfl k)).trans t79
    have y0 : u6 43 0 = w 43 0 := (gy.2.1 43 0 rfl).trans t0
    refine pc_w (aq_57 (x := u6) (i := v1.toNat) (P := w 43 0) (by omega) (by omega) y0 (by omega) FU (by decide) (fun _ _ _ => rfl) (fun j hj => by omega)) (fun r u q => Or.inr ⟨⟨hv, h80, h81⟩, q.1, fun j hj => ?_, ?_, ?_, ?_, ?_, ?_, q.2.2.2.2.2.2.1, ?_⟩)
    · have h1 := hD j (by omega)
      rw [t79] at h1
      rw [q.2.1 47 j (by omega), q.2.1 48 j (by omega), q.2.1 49 j (by omega)]
      exact h1
    · rw [q.2.1 43 7 (by omega), h7, t79]
    · rw [← y79]; exact q.2.2.2.2.2.1
    · rw [← y79]; exact q.2.2.2.1
    · rw [← y79]; exact q.2.2.2.2.1
    · rw [← y79]; exact q.2.2.1
    · rw [← y79]; exact q.2.2.2.2.2.2.2
theorem c_again {w : Wd} {v1 : Int} (h : LI w) (i_v1 : ((-2147483648 : Int) ≤ v1 ∧ v1 ≤ 2147483647)) : OK (f_E_again v1 w) (fun r1 u1 => OK (f_R_again v1 u1) (fun r2 u2 => LI u2 ∧ r1 = r2)) := by
  refine ok_w (ok_pc (e_E_again h.1 i_v1) ag_E) (fun r1 u1 q1 => ?_)
  obtain ⟨⟨g1, s1⟩, x1⟩ := q1
  refine ok_w (ok_pc (e_R_again s1 i_v1) (ag_R (g_self s1.1))) (fun r2 u2 q2 => ?_)
  obtain ⟨⟨g2, s2, _⟩, x2⟩ := q2
  have f := fr_tr (fr_g (P := clP) (A := coA) g1 rfl) (fr_g g2 rfl)
  have r79 : u1 79 = w 79 := funext fun k => g1.2.1 79 k (mS_ar rfl k)
  have r80 : u1 80 = w 80 := funext fun k => g1.2.1 80 k (mS_ar rfl k)
  have r81 : u1 81 = w 81 := funext fun k => g1.2.1 81 k (mS_ar rfl k)
  have e10 : u1 43 10 = w 43 10 := g1.2.1 43 10 rfl
  have e11 : u1 43 11 = w 43 11 := g1.2.1 43 11 rfl
  have e56 : u1 43 56 = w 43 56 := g1.2.1 43 56 rfl
  have t7 : u2 5 7 = u1 5 7 := g2.2.1 5 7 rfl
  have t8 : u2 5 8 = u1 5 8 := g2.2.1 5 8 rfl
  obtain ⟨h1, h2, h3, h4, h5⟩ := h.2
  rw [r80, r81, e56] at x2
  -- kept alike
  have fit : ∀ {c m : Nat}, KM w c m → ((w c 2 ≠ 0 ∧ w c 3 = w 5 3) ↔ (w 80 m ≠ 0 ∧ w 81 m = w 43 56)) := by
    intro c m hk
    constructor
    · rintro ⟨a1, a2⟩
      obtain ⟨_, _, b3⟩ := hk.2 a1
      exact ⟨by rw [← hk.1]; exact a1, by omega⟩
    · rintro ⟨a1, a2⟩
      rw [← hk.1] at a1
      obtain ⟨_, _, b3⟩ := hk.2 a1
      exact ⟨a1, by omega⟩
  rcases x1 with ⟨n0, n1, a1, b1⟩ | ⟨⟨n0, n1⟩, a1, b1⟩ | ⟨⟨n0, n1⟩, a1, b1⟩
  · rcases x2 with ⟨n2, a2, b2⟩ | ⟨⟨m0, m1⟩, a2, b2⟩
    · have y7 : u2 43 10 = u1 43 10 := by rw [b2, st_k (by decide)]
      have y8 : u2 43 11 = u1 43 11 := by rw [b2, st_k (by decide)]
      exact ⟨⟨s2, co_gs h.2 f ⟨by rw [t7, y7, b1]; exact h3.1, by rw [t8, y8, b1]; exact h3.2⟩⟩, by omega⟩
    · exfalso
      by_cases c : v1 = 0
      · subst c
        exact n0 ⟨rfl, (fit h4).mpr m1⟩
      · have c1 : v1 = 1 := by omega
        subst c1
        exact n1 ⟨rfl, (fit h5).mpr m1⟩
  · subst n0
    have m1 := (fit h4).mp n1
    rcases x2 with ⟨n2, a2, b2⟩ | ⟨⟨m0, m2⟩, a2, b2⟩
    · exact absurd ⟨⟨by decide, by decide⟩, m1⟩ n2
    · obtain ⟨_, _, _, d7, d8, _⟩ := b1
      obtain ⟨_, _, _, d10, d11, _⟩ := b2
      obtain ⟨k7, k8, _⟩ := h4.2 n1.1
      rw [r79] at d10 d11
      exact ⟨⟨s2, co_gs h.2 f ⟨by rw [t7, d7, d10]; exact k7, by rw [t8, d8, d11]; exact k8⟩⟩, by omega⟩
  · subst n0
    have m1 := (fit h5).mp n1
    rcases x2 with ⟨n2, a2, b2⟩ | ⟨⟨m0, m2⟩, a2, b2⟩
    · exact absurd ⟨⟨by decide, by decide⟩, m1⟩ n2
    · obtain ⟨_, _, _, d7, d8, _⟩ := b1
      obtain ⟨_, _, _, d10, d11, _⟩ := b2
      obtain ⟨k7, k8, _⟩ := h5.2 n1.1
      rw [r79] at d10 d11
      exact ⟨⟨s2, co_gs h.2 f ⟨by rw [t7, d7, d10]; exact k7, by rw [t8, d8, d11]; exact k8⟩⟩, by omega⟩
