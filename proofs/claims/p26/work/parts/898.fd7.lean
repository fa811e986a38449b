/-! LED -/
theorem du18 {v1 : Int} {w : Wd} {k4 : Int → Int → Int → Wd → Option (Int × Wd)} {Q : Int → Wd → Prop} (hk : ∀ v2 v3, PC (k4 v1 v2 v3 w) Q) : ∀ (n : Nat) {v2 v3 v4 v5 : Int}, PC (f_R_depthUnder_18 k4 n v1 v2 v3 v4 v5 w) Q := by
  have e45 : ∀ v2 v3 v4 v5, PC (f_R_depthUnder_45 k4 v1 v2 v3 v4 v5 w) Q := fun v2 v3 v4 v5 => by
    unfold f_R_depthUnder_45 f_R_depthUnder_58
    exact pc_ite (fun _ => pc_let (fun _ _ => pc_let (fun _ _ => hk _ _))) (fun _ => pc_let (fun _ _ => hk _ _))
  intro n
  induction n with
  | zero => intros; exact pc_none
  | succ n ih =>
    intro v2 v3 v4 v5
    rw [f_R_depthUnder_18]
    refine pc_ite (fun _ => e45 _ _ _ _) (fun _ => ?_)
    refine pc_ite (fun _ => e45 _ _ _ _) (fun _ => ?_)
    exact pc_gd (fun _ => pc_let (fun _ _ => pc_let (fun _ _ => ih)))
theorem du_pc {v1 : Int} {w : Wd} : PC (f_R_depthUnder v1 w) (fun _ u => u = w) := by
  have : ∀ (n : Nat) {v2 v3 : Int}, PC (f_R_depthUnder_4 n v1 v2 v3 w) (fun _ u => u = w) := by
    intro n
    induction n with
    | zero => intros; exact pc_none
    | succ n ih =>
      intro v2 v3
      rw [f_R_depthUnder_4]
      refine pc_ite (fun _ => pc_some rfl) (fun _ => ?_)
      exact du18 (fun _ _ => ih) FU
  unfold f_R_depthUnder
  exact this FU
theorem er_led {a w : Wd} {v1 : Int} (h : ER a w) (hS : Sn (a 43 0) (a 47) (a 48) (a 49) (a 43 8)) : PC (f_E_led v1 w) (fun r _ => PC (f_R_led v1 a) (fun r' _ => r = r')) := by
  have x0 : 0 ≤ a 43 0 ∧ a 43 0 ≤ 10 := h.2.2.1
  have x3 : w 5 3 = a 43 0 := h.1.1.2.1
  have xp : ∀ j : Nat, (j : Int) < a 43 0 → w 6 j = a 44 j ∧ w 7 j = a 45 j ∧ w 8 j = a 48 j := h.1.2.1
  obtain ⟨d, hrk⟩ := rk_sn x0 hS
  have pE : ∀ (n : Nat) {v2 v3 v4 : Int}, 0 ≤ v4 → v4 ≤ a 43 0 → PC (f_E_led_20 n v1 v2 v3 v4 w) (fun r _ => B10 r (fun k => inP (a 43 0) k && des (a 48) v1 k)) := by
    intro n
    induction n with
    | zero => intros; exact pc_none
    | succ n ih =>
      intro v2 v3 v4 i0 i1
      rw [f_E_led_20, x3]
      refine pc_ite (fun z => ?_) (fun z => ?_)
      · refine pc_call (nt2 v2 v3 w) (fun r3 u4 q => ?_)
        refine pc_call (ledE_pc (y := v1) (w := u4) (b := a 48) x0 hrk (by rw [q 5 (by decide) (by decide)]; exact x3) (fun j hj => by rw [q 8 (by decide) (by decide)]; exact (xp j hj).2.2)) (fun r5 u6 q5 => pc_some q5.2)
      · have nx : ∀ s : Int, PC (f_E_led_51 (f_E_led_20 n) v1 v3 v4 v2 s w) (fun r _ => B10 r (fun k => inP (a 43 0) k && des (a 48) v1 k)) := fun s => by
          unfold f_E_led_51
          refine pc_let (fun x9 _ => ?_)
          refine pc_call (steps_pc (x := v4) (y := v1) x0.2 hrk x3 (fun j hj => (xp j hj).2.2) (by omega)) (fun r10 u11 q => ?_)
          rw [q.1]
          refine pc_let (fun x12 _ => pc_let (fun x13 e13 => ?_))
          rw [wsucc (P := a 43 0) (by omega) (by omega)] at e13
          rw [e13]
          exact ih (by omega) (by omega)
        refine pc_call (bb_pc (v1 := v4) (w := w) (by omega)) (fun r7 u8 q => ?_)
        rw [q.1]
        exact pc_ite (fun _ => nx 1) (fun _ => nx 0)
  have pR : ∀ {y : Wd}, y 43 0 = a 43 0 → y 48 = a 48 → (0 ≤ v1 ∧ v1 < a 43 0) → ∀ (n : Nat) {v2 v3 : Int}, PC (f_R_led_19 n v1 v2 v3 y) (fun r _ => B10 r (fun k => inP (a 43 0) k && des (a 48) v1 k)) := by
    intro y y0 y48 hv n
    induction n with
    | zero => intros; exact pc_none
    | succ n ih =>
      intro v2 v3
      rw [f_R_led_19]
      refine pc_ite (fun z => ?_) (fun z => ?_)
      · refine pc_lw (fun u4 e4 => ?_)
        refine pc_call (rt1 v2 u4) (fun r5 u6 q5 => ?_)
        refine pc_call du_pc (fun r7 u8 q7 => ?_)
        rw [q7]
        refine pc_call (rt1 r7 u6) (fun r9 u10 q9 => ?_)
        have o : ∀ c k, c ≠ 52 → ¬ (c = 43 ∧ (k = 15 ∨ k = 16)) → u10 c k = y c k := fun c k h52 hk => by
          rw [q9 c k h52 hk, q5 c k h52 hk, e4]; unfold st; rw [if_neg (by omega)]
        exact pc_call (ledR_pc (y := v1) (w := u10) (b := a 48) x0 hrk hv (by rw [o 43 0 (by decide) (by decide)]; exact y0) (fun j _ => by rw [o 48 j (by decide) (by omega), y48])) (fun r11 u12 q11 => pc_some q11.2)
      · refine pc_gd (fun _ => ?_)
        unfold f_R_led_43
        exact pc_ite (fun _ => pc_let (fun _ _ => pc_let (fun _ _ => ih))) (fun _ => pc_let (fun _ _ => pc_let (fun _ _ => ih)))
  unfold f_E_led f_R_led
  refine pc_call (it_pc v1 w) (fun r1 u2 q => ?_)
  rw [q.1, q.2, x3]
  unfold hd
  by_cases c1 : 0 ≤ v1 ∧ v1 < a 43 0
  · rw [if_pos c1]
    refine pc_ite (fun e => absurd e (by decide)) (fun _ => ?_)
    refine pc_w (pE FU (by decide) x0.1) (fun r _ q5 => ?_)
    refine pc_lw (fun y ey => ?_)
    have y0 : y 43 0 = a 43 0 := by rw [ey, st_k (by decide)]
    refine pc_call (io_pc v1 y (by omega)) (fun r2 u3 q3 => ?_)
    rw [q3.1, q3.2, y0, show hd (a 43 0) v1 = 1 from if_pos c1]
    refine pc_ite (fun e => absurd e (by decide)) (fun _ => ?_)
    exact pc_w (pR y0 (by rw [ey, st_row (by decide)]) c1 FU) (fun r' _ q6 => b10_eq q5 q6 (fun _ _ => rfl))
  · rw [if_neg c1]
    refine pc_ite (fun _ => pc_some (pc_lw (fun y ey => ?_))) (fun e => absurd rfl e)
    have y0 : y 43 0 = a 43 0 := by rw [ey, st_k (by decide)]
    refine pc_call (io_pc v1 y (by omega)) (fun r2 u3 q3 => ?_)
    rw [q3.2, y0, show hd (a 43 0) v1 = 0 from if_neg c1]
    exact pc_ite (fun _ => pc_some rfl) (fun e => absurd rfl e)
theorem dq_led {w : Wd} {v1 : Int} (h : LU w) (i_v1 : ((-2147483648 : Int) ≤ v1 ∧ v1 ≤ 2147483647)) : OK (f_E_led v1 w) (fun r1 u1 => OK (f_R_led v1 u1) (fun r2 u2 => LU u2 ∧ r1 = r2)) :=
  d_er (xR := fun u => f_R_led v1 u) h (d_led h i_v1) (pc_w (pc_ok (e_E_led h.1.1 i_v1)) (fun _ _ q => g_hi q.1 (by decide))) (fun _ ha hs => er_led ha hs)
/-! LINE -/
theorem pf_pc {x : Int} {w : Wd} (h : 0 ≤ w 3 1 ∧ w 3 1 < 20) : PC (f_N_putFirst x w) (fun _ u => u 3 1 = w 3 1 + 1 ∧ ∀ c, c ≠ 3 → c ≠ 4 → u c = w c) := by
  have l12 : ∀ (n : Nat) {v2 : Int} {y : Wd}, PC (f_N_putFirst_12 n x v2 y) (fun _ u => ∀ c, c ≠ 4 → u c = y c) := by
    intro n
    induction n with
    | zero => intros; exact pc_none
    | succ n ih =>
      intro v2 y
      rw [f_N_putFirst_12]
      refine pc_ite (fun _ => pc_some (fun _ _ => rfl)) (fun _ => ?_)
      refine pc_gd (fun _ => pc_gd (fun _ => pc_lw (fun u4 e4 => pc_gd (fun _ => pc_lw (fun u5 e5 => pc_let (fun x6 _ => ?_))))))
      exact pc_w ih (fun _ u q c hc => by rw [q c hc, e5, st_row hc, e4, st_row hc])
  unfold f_N_putFirst f_N_put
  refine pc_call (P := fun _ u => u 3 1 = w 3 1 + 1 ∧ ∀ c, c ≠ 3 → c ≠ 4 → u c = w c) ?_ (fun r1 u2 q => ?_)
  · refine pc_ite (fun z => by omega) (fun _ => ?_)
    refine pc_gd (fun _ => pc_lw (fun u1 e1 => pc_lw (fun u2 e2 => pc_some ⟨?_, fun c h3 h4 => ?_⟩)))
    · rw [e2, st_eq, e1, st_c (by decide)]; exact w32_id (by omega)
    · rw [e2, st_row h3, e1, st_row h4]
  · refine pc_let (fun x3 _ => ?_)
    exact pc_w (l12 FU) (fun _ u y => ⟨by rw [y 3 (by decide)]; exact q.1, fun c h3 h4 => (y c h4).trans (q.2 c h3 h4)⟩)
theorem rl49 {v1 v2 : Int} : ∀ (n : Nat) {v3 : Int} {w : Wd}, PC (f_R_line_49 n v1 v2 v3 w) (fun r _ => r = v2) := by
  intro n
  induction n with
  | zero => intros; exact pc_none
  | succ n ih =>
    intro v3 w
    rw [f_R_line_49]
    refine pc_ite (fun _ => pc_some rfl) (fun _ => ?_)
    have l59 : ∀ (m : Nat) {v4 v5 : Int}, PC (f_R_line_59 (f_R_line_49 n) m v1 v2 v3 v4 v5 w) (fun r _ => r = v2) := by
      intro m
      induction m with
      | zero => intros; exact pc_none
      | succ m ihm =>
        intro v4 v5
        rw [f_R_line_59]
        refine pc_ite (fun _ => ?_) (fun _ => ?_)
        · exact pc_call (rt1 v4 w) (fun _ _ _ => pc_let (fun _ _ => ih))
        · exact pc_gd (fun _ => pc_let (fun _ _ => pc_let (fun _ _ => ihm)))
    exact l59 FU
theorem er_line {a w : Wd} {v1 : Int} (h : ER a w) (hS : Sn (a 43 0) (a 47) (a 48) (a 49) (a 43 8)) : PC (f_E_line v1 w) (fun r _ => PC (f_R_line v1 a) (fun r' _ => r = r')) := by
  have x0 : 0 ≤ a 43 0 ∧ a 43 0 ≤ 10 := h.2.2.1
  have x3 : w 5 3 = a 43 0 := h.1.1.2.1
  have xp : ∀ j : Nat, (j : Int) < a 43 0 → w 6 j = a 44 j ∧ w 7 j = a 45 j ∧ w 8 j = a 48 j := h.1.2.1
  obtain ⟨d, hrk⟩ := rk_sn x0 hS
  have two : ∀ (n m : Nat) {x v3 : Int} {u y : Wd}, u 5 = w 5 → u 8 = w 8 → u 3 1 = v3 → y 48 = a 48 → 0 ≤ v3 → v3 ≤ 10 → (x = -1 ∨ ((0 ≤ x ∧ x < a 43 0) ∧ v3 + d x.toNat < a 43 0)) → PC (f_E_line_31 n x v3 u) (fun r _ => PC (f_R_line_24 m v1 v3 x y) (fun r' _ => r = r')) := by
    intro n
    induction n with
    | zero => intros; exact pc_none
    | succ n ih =>
      intro m x v3 u y u5 u8 u3 y48 i0 i1 hx
      cases m with
      | zero => exact fun _ _ _ => pc_none
      | succ m =>
      rw [f_E_line_31, u5, x3, f_R_line_24]
      have fin : x = -1 → PC (f_E_line_70 u) (fun r _ => PC (if x = -1 then jlw (st y 43 15 0) fun u5 => f_R_line_49 FU v1 v3 v3 u5 else jlet (w32 (v3 + 1)) fun x11 => jgd ((0 : Int) ≤ x ∧ x < 10) <| jlet (y 48 x.toNat) fun x12 => f_R_line_24 m v1 x11 x12 y) (fun r' _ => r = r')) := fun e => by
        unfold f_E_line_70
        refine pc_some ?_
        rw [if_pos e]
        exact pc_lw (fun _ _ => pc_w (rl49 FU) (fun r' _ q => u3.trans q.symm))
      refine pc_ite (fun c => fin ?_) (fun c => ?_)
      · rcases hx with e | e
        · exact e
        · omega
      refine pc_ite (fun e => fin e) (fun c1 => ?_)
      have hx2 := hx.resolve_left c1
      have dx := (hrk x.toNat (by omega)).1
      refine pc_call (pf_pc (x := x) (w := u) (by omega)) (fun r7 u8' q7 => ?_)
      refine pc_call (bb_pc (v1 := x) (w := u8') (by rw [q7.2 5 (by decide) (by decide), u5]; omega)) (fun r9 u10 q9 => ?_)
      rw [q9.1, q9.2, q7.2 8 (by decide) (by decide), u8, (xp x.toNat (by omega)).2.2]
      refine pc_let (fun x11 e11 => ?_)
      rw [w32_id (show -2147483648 ≤ v3 + 1 ∧ v3 + 1 ≤ 2147483647 by omega)] at e11
      rw [e11]
      have hb := (hrk x.toNat (by omega)).2
      refine pc_w (ih m (x := a 48 x.toNat) (v3 := v3 + 1) (u := u8') (y := y) ((q7.2 5 (by decide) (by decide)).trans u5) ((q7.2 8 (by decide) (by decide)).trans u8) (by rw [q7.1, u3]) y48 (by omega) (by omega) (by
        rcases hb with e | e
        · exact Or.inl e
        · exact Or.inr ⟨e.1, by omega⟩)) (fun r _ q => ?_)
      rw [if_neg c1]
      refine pc_let (fun x12 e12 => pc_gd (fun _ => pc_let (fun x13 e13 => ?_)))
      rw [w32_id (show -2147483648 ≤ v3 + 1 ∧ v3 + 1 ≤ 2147483647 by omega)] at e12
      rw [e12, e13, y48]
      exact q
  unfold f_E_line f_R_line
  refine pc_call (it_pc v1 w) (fun r1 u2 q => ?_)
  rw [q.1, q.2, x3]
  unfold hd
  by_cases c1 : 0 ≤ v1 ∧ v1 < a 43 0
  · rw [if_pos c1]
    refine pc_ite (fun e => absurd e (by decide)) (fun _ => ?_)
    unfold f_N_clear
    refine pc_call (P := fun _ u => u = st w 3 1 0) (pc_lw (fun u1 e1 => pc_some e1)) (fun r3 u4 e4 => ?_)
    have u5 : u4 5 = w 5 := by rw [e4, st_row (by decide)]
    have u8 : u4 8 = w 8 := by rw [e4, st_row (by decide)]
    refine pc_call (bb_pc (v1 := v1) (w := u4) (by rw [u5]; omega)) (fun r5 u6 q5 => ?_)
    rw [q5.1, q5.2, u8, (xp v1.toNat (by omega)).2.2]
    have hb := (hrk v1.toNat (by omega)).2
    have dv := (hrk v1.toNat (by omega)).1
    have hx : a 48 v1.toNat = -1 ∨ ((0 ≤ a 48 v1.toNat ∧ a 48 v1.toNat < a 43 0) ∧ 0 + d (a 48 v1.toNat).toNat < a 43 0) := by
      rcases hb with e | e
      · exact Or.inl e
      · exact Or.inr ⟨e.1, by omega⟩
    intro r u eL
    refine pc_lw (fun y ey => ?_)
    have y0 : y 43 0 = a 43 0 := by rw [ey, st_k (by decide)]
    have y48 : y 48 = a 48 := by rw [ey, st_row (by decide)]
    refine pc_call (io_pc v1 y (by omega)) (fun r2 u3 q3 => ?_)
    rw [q3.1, q3.2, y0, show hd (a 43 0) v1 = 1 from if_pos c1]
    refine pc_ite (fun e => absurd e (by decide)) (fun _ => ?_)
    refine pc_gd (fun _ => pc_let (fun x4 e4' => ?_))
    rw [e4', y48]
    exact two FU FU u5 u8 (by rw [e4, st_eq]) y48 (by decide) (by decide) hx r u eL
  · rw [if_neg c1]
    refine pc_ite (fun _ => pc_some (pc_lw (fun y ey => ?_))) (fun e => absurd rfl e)
    have y0 : y 43 0 = a 43 0 := by rw [ey, st_k (by decide)]
    refine pc_call (io_pc v1 y (by omega)) (fun r2 u3 q3 => ?_)
    rw [q3.2, y0, show hd (a 43 0) v1 = 0 from if_neg c1]
    exact pc_ite (fun _ => pc_some rfl) (fun e => absurd rfl e)
theorem dq_line {w : Wd} {v1 : Int} (h : LU w) (i_v1 : ((-2147483648 : Int) ≤ v1 ∧ v1 ≤ 2147483647)) : OK (f_E_line v1 w) (fun r1 u1 => OK (f_R_line v1 u1) (fun r2 u2 => LU u2 ∧ r1 = r2)) :=
  d_er (xR := fun u => f_R_line v1 u) h (d_line h i_v1) (pc_w (pc_ok (e_E_line h.1.1 i_v1)) (fun _ _ q => g_hi q.1 (by decide))) (fun _ ha hs => er_line ha hs)
