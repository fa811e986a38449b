/-! THE ROW'S SIZE: what leaves it alone (written by kgen.py, out of the program's text) -/
def EKP (b w : Wd) : Prop := w 3 = b 3 ∧ w 5 = b 5
def RKP (b w : Wd) : Prop := w 43 15 = b 43 15 ∧ w 43 0 = b 43 0
theorem ke_st {b w u : Wd} {c k : Nat} {z : Int} (h : EKP b w) (e : u = st w c k z) (hc : 3 ≠ c ∧ 5 ≠ c) : EKP b u := by
  unfold EKP; rw [e, st_row hc.1, st_row hc.2]; exact h
theorem ke_0 (b : Wd) : EKP b b := ⟨rfl, rfl⟩
theorem kr_0 (b : Wd) : RKP b b := ⟨rfl, rfl⟩
theorem ke_1 {b u : Wd} (h : EKP b u) : u 3 1 = b 3 1 := congrFun h.1 1
theorem kr_st {b w u : Wd} {c k : Nat} {z : Int} (h : RKP b w) (e : u = st w c k z) (hc : 43 ≠ c ∨ (15 ≠ k ∧ 0 ≠ k)) : RKP b u := by
  unfold RKP
  rw [e]
  rcases hc with hc | hc
  · rw [st_c hc, st_c hc]; exact h
  · rw [st_k hc.1, st_k hc.2]; exact h
theorem ke_JA_fill_29_5 {b : Wd} : ∀ (n : Nat) {v1 v2 v3 : Int} {w : Wd}, EKP b w → PC (f_JA_fill_29_5 n v1 v2 v3 w) (fun _ u => EKP b u) := by
  intro n
  induction n with
  | zero => intros; exact pc_none
  | succ n ih =>
    intro v1 v2 v3 w h
    rw [f_JA_fill_29_5]
    refine pc_ite (fun _ => ?_) (fun _ => ?_)
    · exact pc_some h
    · refine pc_gd (fun _ => ?_)
      refine pc_lw (fun u1 e => ?_)
      replace h := ke_st h e (by decide)
      refine pc_let (fun x2 _ => ?_)
      exact ih h
theorem ke_JA_fill_29 {b : Wd} {v1 : Int} {w : Wd} (h : EKP b w) : PC (f_JA_fill_29 v1 w) (fun _ u => EKP b u) := by
  unfold f_JA_fill_29
  exact (ke_JA_fill_29_5 _ h)
theorem ke_JA_fill_34_5 {b : Wd} : ∀ (n : Nat) {v1 v2 v3 : Int} {w : Wd}, EKP b w → PC (f_JA_fill_34_5 n v1 v2 v3 w) (fun _ u => EKP b u) := by
  intro n
  induction n with
  | zero => intros; exact pc_none
  | succ n ih =>
    intro v1 v2 v3 w h
    rw [f_JA_fill_34_5]
    refine pc_ite (fun _ => ?_) (fun _ => ?_)
    · exact pc_some h
    · refine pc_gd (fun _ => ?_)
      refine pc_lw (fun u1 e => ?_)
      replace h := ke_st h e (by decide)
      refine pc_let (fun x2 _ => ?_)
      exact ih h
theorem ke_JA_fill_34 {b : Wd} {v1 : Int} {w : Wd} (h : EKP b w) : PC (f_JA_fill_34 v1 w) (fun _ u => EKP b u) := by
  unfold f_JA_fill_34
  exact (ke_JA_fill_34_5 _ h)
theorem ke_S_clear {b : Wd} {w : Wd} (h : EKP b w) : PC (f_S_clear w) (fun _ u => EKP b u) := by
  unfold f_S_clear
  refine pc_call (ke_JA_fill_29 h) (fun r1 u2 h => ?_)
  refine pc_call (ke_JA_fill_34 h) (fun r3 u4 h => ?_)
  refine pc_lw (fun u5 e => ?_)
  replace h := ke_st h e (by decide)
  refine pc_lw (fun u6 e => ?_)
  replace h := ke_st h e (by decide)
  refine pc_lw (fun u7 e => ?_)
  replace h := ke_st h e (by decide)
  refine pc_lw (fun u8 e => ?_)
  replace h := ke_st h e (by decide)
  exact pc_some h
theorem ke_JI_bitCount {b : Wd} {v0 : Int} {w : Wd} (h : EKP b w) : PC (f_JI_bitCount v0 w) (fun _ u => EKP b u) := by
  unfold f_JI_bitCount
  refine pc_let (fun x1 _ => ?_)
  refine pc_let (fun x2 _ => ?_)
  refine pc_let (fun x3 _ => ?_)
  refine pc_let (fun x4 _ => ?_)
  refine pc_let (fun x5 _ => ?_)
  exact pc_some h
theorem ke_O_known {b : Wd} {v0 : Int} {w : Wd} (h : EKP b w) : PC (f_O_known v0 w) (fun _ u => EKP b u) := by
  unfold f_O_known
  exact pc_some h
theorem ke_O_out {b : Wd} {v0 : Int} {w : Wd} (h : EKP b w) : PC (f_O_out v0 w) (fun _ u => EKP b u) := by
  unfold f_O_out
  exact pc_some h
theorem ke_O_rank {b : Wd} {v0 : Int} {w : Wd} (h : EKP b w) : PC (f_O_rank v0 w) (fun _ u => EKP b u) := by
  unfold f_O_rank
  refine pc_call (ke_JI_bitCount h) (fun r1 u2 h => ?_)
  refine pc_call (ke_JI_bitCount h) (fun r3 u4 h => ?_)
  refine pc_call (ke_O_out h) (fun r5 u6 h => ?_)
  refine pc_call (ke_JI_bitCount h) (fun r7 u8 h => ?_)
  refine pc_let (fun x9 _ => ?_)
  refine pc_call (ke_O_known h) (fun r10 u11 h => ?_)
  refine pc_call (ke_JI_bitCount h) (fun r12 u13 h => ?_)
  exact pc_some h
theorem ke_S_place_120 {b : Wd} {v2 v4 : Int} {w : Wd} (h : EKP b w) : PC (f_S_place_120 v2 v4 w) (fun _ u => EKP b u) := by
  unfold f_S_place_120
  refine pc_gd (fun _ => ?_)
  refine pc_let (fun x3 _ => ?_)
  refine pc_gd (fun _ => ?_)
  refine pc_gd (fun _ => ?_)
  refine pc_lw (fun u4 e => ?_)
  replace h := ke_st h e (by decide)
  exact pc_some h
theorem ke_S_place_46 {b : Wd} {w : Wd} (h : EKP b w) : PC (f_S_place_46 w) (fun _ u => EKP b u) := by
  unfold f_S_place_46
  refine pc_lw (fun u7 e => ?_)
  replace h := ke_st h e (by decide)
  exact pc_some h
theorem ke_S_slotOf_14 {b : Wd} : ∀ (n : Nat) {v1 v2 v3 : Int} {w : Wd}, EKP b w → PC (f_S_slotOf_14 n v1 v2 v3 w) (fun _ u => EKP b u) := by
  intro n
  induction n with
  | zero => intros; exact pc_none
  | succ n ih =>
    intro v1 v2 v3 w h
    rw [f_S_slotOf_14]
    refine pc_ite (fun _ => ?_) (fun _ => ?_)
    · exact pc_some h
    · refine pc_gd (fun _ => ?_)
      refine pc_ite (fun _ => ?_) (fun _ => ?_)
      · exact pc_some h
      · refine pc_gd (fun _ => ?_)
        refine pc_gd (fun _ => ?_)
        refine pc_ite (fun _ => ?_) (fun _ => ?_)
        · exact pc_some h
        · refine pc_ite (fun _ => pc_none) (fun _ => ?_)
          refine pc_let (fun x2 _ => ?_)
          refine pc_let (fun x3 _ => ?_)
          exact ih h
theorem ke_S_slotOf {b : Wd} {v1 : Int} {w : Wd} (h : EKP b w) : PC (f_S_slotOf v1 w) (fun _ u => EKP b u) := by
  unfold f_S_slotOf
  refine pc_ite (fun _ => pc_none) (fun _ => ?_)
  refine pc_let (fun x1 _ => ?_)
  exact (ke_S_slotOf_14 _ h)
theorem ke_S_place {b : Wd} {v1 v2 : Int} {w : Wd} (h : EKP b w) : PC (f_S_place v1 v2 w) (fun _ u => EKP b u) := by
  unfold f_S_place
  refine pc_call (ke_S_slotOf h) (fun r1 u2 h => ?_)
  refine pc_gd (fun _ => ?_)
  refine pc_ite (fun _ => ?_) (fun _ => ?_)
  · refine pc_call (ke_O_rank h) (fun r5 u6 h => ?_)
    refine pc_ite (fun _ => ?_) (fun _ => ?_)
    · exact (ke_S_place_46 h)
    · refine pc_ite (fun _ => ?_) (fun _ => ?_)
      · exact (ke_S_place_46 h)
      · refine pc_ite (fun _ => ?_) (fun _ => ?_)
        · refine pc_gd (fun _ => ?_)
          refine pc_lw (fun u8 e => ?_)
          replace h := ke_st h e (by decide)
          refine pc_gd (fun _ => ?_)
          refine pc_lw (fun u9 e => ?_)
          replace h := ke_st h e (by decide)
          refine pc_gd (fun _ => ?_)
          refine pc_gd (fun _ => ?_)
          refine pc_lw (fun u10 e => ?_)
          replace h := ke_st h e (by decide)
          refine pc_gd (fun _ => ?_)
          refine pc_lw (fun u11 e => ?_)
          replace h := ke_st h e (by decide)
          refine pc_lw (fun u12 e => ?_)
          replace h := ke_st h e (by decide)
          refine pc_gd (fun _ => ?_)
          refine pc_lw (fun u13 e => ?_)
          replace h := ke_st h e (by decide)
          exact (ke_S_place_120 h)
        · exact (ke_S_place_46 h)
  · exact (ke_S_place_120 h)
theorem ke_F_everybody {b : Wd} {w : Wd} (h : EKP b w) : PC (f_F_everybody w) (fun _ u => EKP b u) := by
  unfold f_F_everybody
  exact pc_some h
theorem ke_O_lateOne {b : Wd} {v0 v1 : Int} {w : Wd} (h : EKP b w) : PC (f_O_lateOne v0 v1 w) (fun _ u => EKP b u) := by
  unfold f_O_lateOne
  refine pc_ite (fun _ => ?_) (fun _ => ?_)
  · exact pc_some h
  · exact pc_some h
theorem ke_O_lateTwo {b : Wd} {v0 v1 : Int} {w : Wd} (h : EKP b w) : PC (f_O_lateTwo v0 v1 w) (fun _ u => EKP b u) := by
  unfold f_O_lateTwo
  refine pc_ite (fun _ => ?_) (fun _ => ?_)
  · exact pc_some h
  · exact pc_some h
theorem ke_O_stay {b : Wd} {v0 v1 : Int} {w : Wd} (h : EKP b w) : PC (f_O_stay v0 v1 w) (fun _ u => EKP b u) := by
  unfold f_O_stay
  refine pc_call (ke_O_lateOne h) (fun r1 u2 h => ?_)
  refine pc_call (ke_O_lateTwo h) (fun r3 u4 h => ?_)
  exact pc_some h
theorem ke_M_prepare {b : Wd} {v2 v3 v4 : Int} {w : Wd} (h : EKP b w) : PC (f_M_prepare v2 v3 v4 w) (fun _ u => EKP b u) := by
  unfold f_M_prepare
  refine pc_lw (fun u1 e => ?_)
  replace h := ke_st h e (by decide)
  refine pc_lw (fun u2 e => ?_)
  replace h := ke_st h e (by decide)
  refine pc_call (ke_F_everybody h) (fun r3 u4 h => ?_)
  refine pc_call (ke_O_known h) (fun r5 u6 h => ?_)
  refine pc_lw (fun u7 e => ?_)
  replace h := ke_st h e (by decide)
  refine pc_call (ke_O_stay h) (fun r8 u9 h => ?_)
  refine pc_lw (fun u10 e => ?_)
  replace h := ke_st h e (by decide)
  refine pc_lw (fun u11 e => ?_)
  replace h := ke_st h e (by decide)
  refine pc_lw (fun u12 e => ?_)
  replace h := ke_st h e (by decide)
  refine pc_lw (fun u13 e => ?_)
  replace h := ke_st h e (by decide)
  exact pc_some h
theorem ke_E_has {b : Wd} {v0 v1 : Int} {w : Wd} (h : EKP b w) : PC (f_E_has v0 v1 w) (fun _ u => EKP b u) := by
  unfold f_E_has
  refine pc_ite (fun _ => ?_) (fun _ => ?_)
  · exact pc_some h
  · refine pc_ite (fun _ => ?_) (fun _ => ?_)
    · exact pc_some h
    · refine pc_ite (fun _ => ?_) (fun _ => ?_)
      · exact pc_some h
      · exact pc_some h
theorem ke_M_spread_200 {b : Wd} {rec : Int → Int → Int → Wd → Option (Int × Wd)} {k83 : Int → Int → Int → Wd → Option (Int × Wd)} {k135 : Int → Int → Int → Int → Int → Wd → Option (Int × Wd)} (hrec : ∀ {a0 a1 a2 : Int} {w : Wd}, EKP b w → PC (rec a0 a1 a2 w) (fun _ u => EKP b u)) (hk83 : ∀ {a0 a1 a2 : Int} {w : Wd}, EKP b w → PC (k83 a0 a1 a2 w) (fun _ u => EKP b u)) (hk135 : ∀ {a0 a1 a2 a3 a4 : Int} {w : Wd}, EKP b w → PC (k135 a0 a1 a2 a3 a4 w) (fun _ u => EKP b u)) {v2 v4 v5 v6 v7 : Int} {w : Wd} (h : EKP b w) : PC (f_M_spread_200 rec k83 k135 v2 v4 v5 v6 v7 w) (fun _ u => EKP b u) := by
  unfold f_M_spread_200
  refine pc_let (fun x13 _ => ?_)
  exact hk135 h
theorem ke_M_spread_206 {b : Wd} {rec : Int → Int → Int → Wd → Option (Int × Wd)} {k83 : Int → Int → Int → Wd → Option (Int × Wd)} (hrec : ∀ {a0 a1 a2 : Int} {w : Wd}, EKP b w → PC (rec a0 a1 a2 w) (fun _ u => EKP b u)) (hk83 : ∀ {a0 a1 a2 : Int} {w : Wd}, EKP b w → PC (k83 a0 a1 a2 w) (fun _ u => EKP b u)) {v2 v4 v5 : Int} {w : Wd} (h : EKP b w) : PC (f_M_spread_206 rec k83 v2 v4 v5 w) (fun _ u => EKP b u) := by
  unfold f_M_spread_206
  refine pc_let (fun x8 _ => ?_)
  exact hk83 h
theorem ke_M_spread_135 {b : Wd} {rec : Int → Int → Int → Wd → Option (Int × Wd)} {k83 : Int → Int → Int → Wd → Option (Int × Wd)} (hrec : ∀ {a0 a1 a2 : Int} {w : Wd}, EKP b w → PC (rec a0 a1 a2 w) (fun _ u => EKP b u)) (hk83 : ∀ {a0 a1 a2 : Int} {w : Wd}, EKP b w → PC (k83 a0 a1 a2 w) (fun _ u => EKP b u)) : ∀ (n : Nat) {v2 v4 v5 v6 v7 : Int} {w : Wd}, EKP b w → PC (f_M_spread_135 rec k83 n v2 v4 v5 v6 v7 w) (fun _ u => EKP b u) := by
  intro n
  induction n with
  | zero => intros; exact pc_none
  | succ n ih =>
    intro v2 v4 v5 v6 v7 w h
    rw [f_M_spread_135]
    refine pc_ite (fun _ => ?_) (fun _ => ?_)
    · exact (ke_M_spread_206 hrec hk83 h)
    · refine pc_ite (fun _ => ?_) (fun _ => ?_)
      · exact (ke_M_spread_206 hrec hk83 h)
      · refine pc_let (fun x9 _ => ?_)
        refine pc_let (fun x10 _ => ?_)
        refine pc_call (ke_JI_bitCount h) (fun r11 u12 h => ?_)
        refine pc_ite (fun _ => ?_) (fun _ => ?_)
        · exact (ke_M_spread_200 hrec hk83 (fun h => ih h) h)
        · refine pc_call (hrec h) (fun r14 u15 h => ?_)
          exact (ke_M_spread_200 hrec hk83 (fun h => ih h) h)
theorem ke_M_spread_130 {b : Wd} {rec : Int → Int → Int → Wd → Option (Int × Wd)} {k83 : Int → Int → Int → Wd → Option (Int × Wd)} (hrec : ∀ {a0 a1 a2 : Int} {w : Wd}, EKP b w → PC (rec a0 a1 a2 w) (fun _ u => EKP b u)) (hk83 : ∀ {a0 a1 a2 : Int} {w : Wd}, EKP b w → PC (k83 a0 a1 a2 w) (fun _ u => EKP b u)) {v2 v4 v5 s0 : Int} {w : Wd} (h : EKP b w) : PC (f_M_spread_130 rec k83 v2 v4 v5 s0 w) (fun _ u => EKP b u) := by
  unfold f_M_spread_130
  exact (ke_M_spread_135 hrec hk83 _ h)
theorem ke_M_spread_83 {b : Wd} {rec : Int → Int → Int → Wd → Option (Int × Wd)} (hrec : ∀ {a0 a1 a2 : Int} {w : Wd}, EKP b w → PC (rec a0 a1 a2 w) (fun _ u => EKP b u)) : ∀ (n : Nat) {v2 v4 v5 : Int} {w : Wd}, EKP b w → PC (f_M_spread_83 rec n v2 v4 v5 w) (fun _ u => EKP b u) := by
  intro n
  induction n with
  | zero => intros; exact pc_none
  | succ n ih =>
    intro v2 v4 v5 w h
    rw [f_M_spread_83]
    refine pc_gd (fun _ => ?_)
    refine pc_ite (fun _ => ?_) (fun _ => ?_)
    · exact pc_some h
    · refine pc_call (ke_E_has h) (fun r6 u7 h => ?_)
      refine pc_ite (fun _ => ?_) (fun _ => ?_)
      · exact (ke_M_spread_130 hrec (fun h => ih h) h)
      · refine pc_gd (fun _ => ?_)
        refine pc_gd (fun _ => ?_)
        exact (ke_M_spread_130 hrec (fun h => ih h) h)
theorem ke_M_spread_b {b : Wd} {rec : Int → Int → Int → Wd → Option (Int × Wd)} (hrec : ∀ {a0 a1 a2 : Int} {w : Wd}, EKP b w → PC (rec a0 a1 a2 w) (fun _ u => EKP b u)) {v1 v2 v3 : Int} {w : Wd} (h : EKP b w) : PC (f_M_spread_b rec v1 v2 v3 w) (fun _ u => EKP b u) := by
  unfold f_M_spread_b
  refine pc_ite (fun _ => ?_) (fun _ => ?_)
  · exact pc_some h
  · refine pc_ite (fun _ => ?_) (fun _ => ?_)
    · exact pc_some h
    · refine pc_ite (fun _ => ?_) (fun _ => ?_)
      · refine pc_gd (fun _ => ?_)
        refine pc_ite (fun _ => ?_) (fun _ => ?_)
        · exact pc_some h
        · refine pc_let (fun x1 _ => ?_)
          refine pc_gd (fun _ => ?_)
          refine pc_lw (fun u2 e => ?_)
          replace h := ke_st h e (by decide)
          refine pc_gd (fun _ => ?_)
          refine pc_lw (fun u3 e => ?_)
          replace h := ke_st h e (by decide)
          refine pc_gd (fun _ => ?_)
          refine pc_lw (fun u4 e => ?_)
          replace h := ke_st h e (by decide)
          refine pc_lw (fun u5 e => ?_)
          replace h := ke_st h e (by decide)
          exact (ke_M_spread_83 hrec _ h)
      · exact pc_some h
theorem ke_M_spread {b : Wd} : ∀ (n : Nat) {v1 v2 v3 : Int} {w : Wd}, EKP b w → PC (f_M_spread n v1 v2 v3 w) (fun _ u => EKP b u) := by
  intro n
  induction n with
  | zero => intros; exact pc_none
  | succ n ih =>
    intro v1 v2 v3 w h
    rw [f_M_spread]
    exact (ke_M_spread_b (fun h => ih h) h)
theorem ke_O_guests {b : Wd} {v0 : Int} {w : Wd} (h : EKP b w) : PC (f_O_guests v0 w) (fun _ u => EKP b u) := by
  unfold f_O_guests
  exact pc_some h
theorem ke_M_gather {b : Wd} {v2 v3 : Int} {w : Wd} (h : EKP b w) : PC (f_M_gather v2 v3 w) (fun _ u => EKP b u) := by
  unfold f_M_gather
  refine pc_call (ke_O_guests h) (fun r1 u2 h => ?_)
  refine pc_call (ke_M_prepare h) (fun r3 u4 h => ?_)
  refine pc_call (ke_M_spread _ h) (fun r5 u6 h => ?_)
  exact pc_some h
theorem ke_M_moversOf {b : Wd} {v1 : Int} {w : Wd} (h : EKP b w) : PC (f_M_moversOf v1 w) (fun _ u => EKP b u) := by
  unfold f_M_moversOf
  refine pc_ite (fun _ => ?_) (fun _ => ?_)
  · exact pc_some h
  · refine pc_ite (fun _ => ?_) (fun _ => ?_)
    · exact pc_some h
    · refine pc_gd (fun _ => ?_)
      exact pc_some h
theorem ke_O_after {b : Wd} {v0 v1 v2 : Int} {w : Wd} (h : EKP b w) : PC (f_O_after v0 v1 v2 w) (fun _ u => EKP b u) := by
  unfold f_O_after
  refine pc_call (ke_O_lateOne h) (fun r1 u2 h => ?_)
  refine pc_let (fun x3 _ => ?_)
  refine pc_call (ke_O_lateTwo h) (fun r4 u5 h => ?_)
  refine pc_let (fun x6 _ => ?_)
  refine pc_call (ke_O_out h) (fun r7 u8 h => ?_)
  refine pc_call (ke_O_guests h) (fun r9 u10 h => ?_)
  refine pc_let (fun x11 _ => ?_)
  exact pc_some h
theorem ke_S_goOn_52 {b : Wd} : ∀ (n : Nat) {v1 v4 : Int} {w : Wd}, EKP b w → PC (f_S_goOn_52 n v1 v4 w) (fun _ u => EKP b u) := by
  intro n
  induction n with
  | zero => intros; exact pc_none
  | succ n ih =>
    intro v1 v4 w h
    rw [f_S_goOn_52]
    refine pc_ite (fun _ => ?_) (fun _ => ?_)
    · exact pc_some h
    · refine pc_ite (fun _ => ?_) (fun _ => ?_)
      · refine pc_gd (fun _ => ?_)
        refine pc_call (ke_M_moversOf h) (fun r5 u6 h => ?_)
        refine pc_call (ke_O_after h) (fun r7 u8 h => ?_)
        refine pc_gd (fun _ => ?_)
        refine pc_call (ke_S_place h) (fun r9 u10 h => ?_)
        refine pc_let (fun x11 _ => ?_)
        exact ih h
      · exact pc_some h
theorem ke_S_guests {b : Wd} {v1 : Int} {w : Wd} (h : EKP b w) : PC (f_S_guests v1 w) (fun _ u => EKP b u) := by
  unfold f_S_guests
  refine pc_ite (fun _ => ?_) (fun _ => ?_)
  · exact pc_some h
  · refine pc_ite (fun _ => ?_) (fun _ => ?_)
    · exact pc_some h
    · refine pc_gd (fun _ => ?_)
      refine pc_call (ke_O_guests h) (fun r1 u2 h => ?_)
      exact pc_some h
theorem ke_S_goOn {b : Wd} {v1 : Int} {w : Wd} (h : EKP b w) : PC (f_S_goOn v1 w) (fun _ u => EKP b u) := by
  unfold f_S_goOn
  refine pc_call (ke_S_guests h) (fun r1 u2 h => ?_)
  refine pc_ite (fun _ => ?_) (fun _ => ?_)
  · refine pc_gd (fun _ => ?_)
    refine pc_gd (fun _ => ?_)
    refine pc_gd (fun _ => ?_)
    refine pc_lw (fun u12 e => ?_)
    replace h := ke_st h e (by decide)
    exact pc_some h
  · refine pc_gd (fun _ => ?_)
    refine pc_call (ke_M_gather h) (fun r3 u4 h => ?_)
    exact (ke_S_goOn_52 _ h)
theorem ke_S_run_122 {b : Wd} {k35 : Int → Wd → Option (Int × Wd)} (hk35 : ∀ {a0 : Int} {w : Wd}, EKP b w → PC (k35 a0 w) (fun _ u => EKP b u)) {v3 : Int} {w : Wd} (h : EKP b w) : PC (f_S_run_122 k35 v3 w) (fun _ u => EKP b u) := by
  unfold f_S_run_122
  refine pc_let (fun x5 _ => ?_)
  exact hk35 h
theorem ke_S_run_42 {b : Wd} {k35 : Int → Wd → Option (Int × Wd)} (hk35 : ∀ {a0 : Int} {w : Wd}, EKP b w → PC (k35 a0 w) (fun _ u => EKP b u)) : ∀ (n : Nat) {v3 : Int} {w : Wd}, EKP b w → PC (f_S_run_42 k35 n v3 w) (fun _ u => EKP b u) := by
  intro n
  induction n with
  | zero => intros; exact pc_none
  | succ n ih =>
    intro v3 w h
    rw [f_S_run_42]
    refine pc_ite (fun _ => ?_) (fun _ => ?_)
    · exact (ke_S_run_122 hk35 h)
    · refine pc_gd (fun _ => ?_)
      refine pc_ite (fun _ => ?_) (fun _ => ?_)
      · exact (ke_S_run_122 hk35 h)
      · refine pc_ite (fun _ => ?_) (fun _ => ?_)
        · refine pc_gd (fun _ => ?_)
          refine pc_let (fun x6 _ => ?_)
          refine pc_gd (fun _ => ?_)
          refine pc_gd (fun _ => ?_)
          refine pc_lw (fun u7 e => ?_)
          replace h := ke_st h e (by decide)
          refine pc_gd (fun _ => ?_)
          refine pc_lw (fun u8 e => ?_)
          replace h := ke_st h e (by decide)
          refine pc_lw (fun u9 e => ?_)
          replace h := ke_st h e (by decide)
          refine pc_call (ke_S_goOn h) (fun r10 u11 h => ?_)
          exact ih h
        · exact (ke_S_run_122 hk35 h)
theorem ke_S_run_35 {b : Wd} : ∀ (n : Nat) {v3 : Int} {w : Wd}, EKP b w → PC (f_S_run_35 n v3 w) (fun _ u => EKP b u) := by
  intro n
  induction n with
  | zero => intros; exact pc_none
  | succ n ih =>
    intro v3 w h
    rw [f_S_run_35]
    refine pc_ite (fun _ => ?_) (fun _ => ?_)
    · refine pc_ite (fun _ => ?_) (fun _ => ?_)
      · exact pc_some h
      · exact pc_some h
    · exact (ke_S_run_42 (fun h => ih h) _ h)
theorem ke_S_run {b : Wd} {w : Wd} (h : EKP b w) : PC (f_S_run w) (fun _ u => EKP b u) := by
  unfold f_S_run
  refine pc_ite (fun _ => ?_) (fun _ => ?_)
  · refine pc_call (ke_S_clear h) (fun r1 u2 h => ?_)
    refine pc_call (ke_S_place h) (fun r3 u4 h => ?_)
    exact (ke_S_run_35 _ h)
  · refine pc_ite (fun _ => ?_) (fun _ => ?_)
    · exact pc_some h
    · exact pc_some h
theorem ke_S_lastWeek_11 {b : Wd} : ∀ (n : Nat) {v3 v5 : Int} {w : Wd}, EKP b w → PC (f_S_lastWeek_11 n v3 v5 w) (fun _ u => EKP b u) := by
  intro n
  induction n with
  | zero => intros; exact pc_none
  | succ n ih =>
    intro v3 v5 w h
    rw [f_S_lastWeek_11]
    refine pc_ite (fun _ => ?_) (fun _ => ?_)
    · exact pc_some h
    · refine pc_ite (fun _ => ?_) (fun _ => ?_)
      · refine pc_let (fun x3 _ => ?_)
        exact ih h
      · exact pc_some h
theorem ke_S_weeksWith_61 {b : Wd} {k5 : Int → Int → Int → Int → Wd → Option (Int × Wd)} (hk5 : ∀ {a0 a1 a2 a3 : Int} {w : Wd}, EKP b w → PC (k5 a0 a1 a2 a3 w) (fun _ u => EKP b u)) {v1 v2 v3 v5 : Int} {w : Wd} (h : EKP b w) : PC (f_S_weeksWith_61 k5 v1 v2 v3 v5 w) (fun _ u => EKP b u) := by
  unfold f_S_weeksWith_61
  refine pc_let (fun x3 _ => ?_)
  exact hk5 h
theorem ke_S_weeksWith_5 {b : Wd} : ∀ (n : Nat) {v1 v2 v3 v5 : Int} {w : Wd}, EKP b w → PC (f_S_weeksWith_5 n v1 v2 v3 v5 w) (fun _ u => EKP b u) := by
  intro n
  induction n with
  | zero => intros; exact pc_none
  | succ n ih =>
    intro v1 v2 v3 v5 w h
    rw [f_S_weeksWith_5]
    refine pc_ite (fun _ => ?_) (fun _ => ?_)
    · exact pc_some h
    · refine pc_call (ke_S_guests h) (fun r1 u2 h => ?_)
      refine pc_ite (fun _ => ?_) (fun _ => ?_)
      · exact (ke_S_weeksWith_61 (fun h => ih h) h)
      · refine pc_call (ke_S_guests h) (fun r4 u5 h => ?_)
        refine pc_ite (fun _ => ?_) (fun _ => ?_)
        · refine pc_gd (fun _ => ?_)
          refine pc_call (ke_O_known h) (fun r6 u7 h => ?_)
          refine pc_ite (fun _ => ?_) (fun _ => ?_)
          · refine pc_gd (fun _ => ?_)
            refine pc_let (fun x8 _ => ?_)
            exact (ke_S_weeksWith_61 (fun h => ih h) h)
          · exact (ke_S_weeksWith_61 (fun h => ih h) h)
        · exact (ke_S_weeksWith_61 (fun h => ih h) h)
theorem ke_S_weeksWith {b : Wd} {v1 v2 : Int} {w : Wd} (h : EKP b w) : PC (f_S_weeksWith v1 v2 w) (fun _ u => EKP b u) := by
  unfold f_S_weeksWith
  exact (ke_S_weeksWith_5 _ h)
theorem ke_S_lastWeek {b : Wd} {v1 v2 : Int} {w : Wd} (h : EKP b w) : PC (f_S_lastWeek v1 v2 w) (fun _ u => EKP b u) := by
  unfold f_S_lastWeek
  refine pc_call (ke_S_weeksWith h) (fun r1 u2 h => ?_)
  exact (ke_S_lastWeek_11 _ h)
theorem ke_F_guests {b : Wd} {w : Wd} (h : EKP b w) : PC (f_F_guests w) (fun _ u => EKP b u) := by
  unfold f_F_guests
  refine pc_call (ke_O_guests h) (fun r1 u2 h => ?_)
  exact pc_some h
theorem ke_F_isThere {b : Wd} {v1 : Int} {w : Wd} (h : EKP b w) : PC (f_F_isThere v1 w) (fun _ u => EKP b u) := by
  unfold f_F_isThere
  refine pc_ite (fun _ => ?_) (fun _ => ?_)
  · exact pc_some h
  · refine pc_ite (fun _ => ?_) (fun _ => ?_)
    · exact pc_some h
    · exact pc_some h
theorem ke_E_isWeek {b : Wd} {v0 : Int} {w : Wd} (h : EKP b w) : PC (f_E_isWeek v0 w) (fun _ u => EKP b u) := by
  unfold f_E_isWeek
  refine pc_ite (fun _ => ?_) (fun _ => ?_)
  · exact pc_some h
  · refine pc_ite (fun _ => ?_) (fun _ => ?_)
    · exact pc_some h
    · exact pc_some h
theorem ke_E_less_10 {b : Wd} {v1 : Int} {w : Wd} (h : EKP b w) : PC (f_E_less_10 v1 w) (fun _ u => EKP b u) := by
  unfold f_E_less_10
  exact pc_some h
theorem ke_E_less {b : Wd} {v0 v1 : Int} {w : Wd} (h : EKP b w) : PC (f_E_less v0 v1 w) (fun _ u => EKP b u) := by
  unfold f_E_less
  refine pc_ite (fun _ => ?_) (fun _ => ?_)
  · exact (ke_E_less_10 h)
  · refine pc_ite (fun _ => ?_) (fun _ => ?_)
    · exact pc_some h
    · exact (ke_E_less_10 h)
theorem ke_S_weeksOf {b : Wd} {v1 : Int} {w : Wd} (h : EKP b w) : PC (f_S_weeksOf v1 w) (fun _ u => EKP b u) := by
  unfold f_S_weeksOf
  refine pc_ite (fun _ => ?_) (fun _ => ?_)
  · exact pc_some h
  · refine pc_ite (fun _ => ?_) (fun _ => ?_)
    · exact pc_some h
    · refine pc_gd (fun _ => ?_)
      exact pc_some h
theorem ke_S_canBe {b : Wd} {v1 v2 : Int} {w : Wd} (h : EKP b w) : PC (f_S_canBe v1 v2 w) (fun _ u => EKP b u) := by
  unfold f_S_canBe
  refine pc_call (ke_S_weeksOf h) (fun r1 u2 h => ?_)
  refine pc_ite (fun _ => ?_) (fun _ => ?_)
  · exact pc_some h
  · exact pc_some h
theorem ke_S_leastPaid_61 {b : Wd} {k6 : Int → Int → Int → Int → Wd → Option (Int × Wd)} (hk6 : ∀ {a0 a1 a2 a3 : Int} {w : Wd}, EKP b w → PC (k6 a0 a1 a2 a3 w) (fun _ u => EKP b u)) {v1 v2 v4 v5 : Int} {w : Wd} (h : EKP b w) : PC (f_S_leastPaid_61 k6 v1 v2 v4 v5 w) (fun _ u => EKP b u) := by
  unfold f_S_leastPaid_61
  refine pc_let (fun x3 _ => ?_)
  exact hk6 h
theorem ke_F_pricesOf_31 {b : Wd} {k4 : Int → Int → Int → Wd → Option (Int × Wd)} (hk4 : ∀ {a0 a1 a2 : Int} {w : Wd}, EKP b w → PC (k4 a0 a1 a2 w) (fun _ u => EKP b u)) {v1 v3 s0 s1 : Int} {w : Wd} (h : EKP b w) : PC (f_F_pricesOf_31 k4 v1 v3 s0 s1 w) (fun _ u => EKP b u) := by
  unfold f_F_pricesOf_31
  refine pc_let (fun x3 _ => ?_)
  refine pc_let (fun x4 _ => ?_)
  exact hk4 h
theorem ke_F_pricesOf_4 {b : Wd} : ∀ (n : Nat) {v1 v2 v3 : Int} {w : Wd}, EKP b w → PC (f_F_pricesOf_4 n v1 v2 v3 w) (fun _ u => EKP b u) := by
  intro n
  induction n with
  | zero => intros; exact pc_none
  | succ n ih =>
    intro v1 v2 v3 w h
    rw [f_F_pricesOf_4]
    refine pc_ite (fun _ => ?_) (fun _ => ?_)
    · exact pc_some h
    · refine pc_call (ke_E_has h) (fun r1 u2 h => ?_)
      refine pc_ite (fun _ => ?_) (fun _ => ?_)
      · exact (ke_F_pricesOf_31 (fun h => ih h) h)
      · refine pc_gd (fun _ => ?_)
        exact (ke_F_pricesOf_31 (fun h => ih h) h)
theorem ke_F_pricesOf {b : Wd} {v1 : Int} {w : Wd} (h : EKP b w) : PC (f_F_pricesOf v1 w) (fun _ u => EKP b u) := by
  unfold f_F_pricesOf
  exact (ke_F_pricesOf_4 _ h)
theorem ke_F_strangers {b : Wd} {w : Wd} (h : EKP b w) : PC (f_F_strangers w) (fun _ u => EKP b u) := by
  unfold f_F_strangers
  refine pc_call (ke_F_everybody h) (fun r1 u2 h => ?_)
  refine pc_call (ke_O_known h) (fun r3 u4 h => ?_)
  exact pc_some h
theorem ke_S_paidFor {b : Wd} {v1 : Int} {w : Wd} (h : EKP b w) : PC (f_S_paidFor v1 w) (fun _ u => EKP b u) := by
  unfold f_S_paidFor
  refine pc_ite (fun _ => ?_) (fun _ => ?_)
  · exact pc_some h
  · refine pc_ite (fun _ => ?_) (fun _ => ?_)
    · exact pc_some h
    · refine pc_call (ke_F_strangers h) (fun r1 u2 h => ?_)
      refine pc_gd (fun _ => ?_)
      refine pc_call (ke_O_known h) (fun r3 u4 h => ?_)
      refine pc_call (ke_F_pricesOf h) (fun r5 u6 h => ?_)
      exact pc_some h
theorem ke_S_leastPaid_6 {b : Wd} : ∀ (n : Nat) {v1 v2 v4 v5 : Int} {w : Wd}, EKP b w → PC (f_S_leastPaid_6 n v1 v2 v4 v5 w) (fun _ u => EKP b u) := by
  intro n
  induction n with
  | zero => intros; exact pc_none
  | succ n ih =>
    intro v1 v2 v4 v5 w h
    rw [f_S_leastPaid_6]
    refine pc_ite (fun _ => ?_) (fun _ => ?_)
    · exact pc_some h
    · refine pc_call (ke_S_canBe h) (fun r1 u2 h => ?_)
      refine pc_ite (fun _ => ?_) (fun _ => ?_)
      · exact (ke_S_leastPaid_61 (fun h => ih h) h)
      · refine pc_call (ke_S_guests h) (fun r4 u5 h => ?_)
        refine pc_ite (fun _ => ?_) (fun _ => ?_)
        · exact (ke_S_leastPaid_61 (fun h => ih h) h)
        · refine pc_call (ke_S_guests h) (fun r6 u7 h => ?_)
          refine pc_ite (fun _ => ?_) (fun _ => ?_)
          · refine pc_call (ke_S_paidFor h) (fun r8 u9 h => ?_)
            refine pc_call (ke_E_less h) (fun r10 u11 h => ?_)
            exact (ke_S_leastPaid_61 (fun h => ih h) h)
          · exact (ke_S_leastPaid_61 (fun h => ih h) h)
theorem ke_S_leastPaid {b : Wd} {v1 v2 : Int} {w : Wd} (h : EKP b w) : PC (f_S_leastPaid v1 v2 w) (fun _ u => EKP b u) := by
  unfold f_S_leastPaid
  exact (ke_S_leastPaid_6 _ h)
theorem ke_F_free {b : Wd} {w : Wd} (h : EKP b w) : PC (f_F_free w) (fun _ u => EKP b u) := by
  unfold f_F_free
  refine pc_call (ke_F_strangers h) (fun r1 u2 h => ?_)
  exact pc_some h
theorem ke_F_knownBy_31 {b : Wd} {k4 : Int → Int → Int → Wd → Option (Int × Wd)} (hk4 : ∀ {a0 a1 a2 : Int} {w : Wd}, EKP b w → PC (k4 a0 a1 a2 w) (fun _ u => EKP b u)) {v1 v3 s0 s1 : Int} {w : Wd} (h : EKP b w) : PC (f_F_knownBy_31 k4 v1 v3 s0 s1 w) (fun _ u => EKP b u) := by
  unfold f_F_knownBy_31
  refine pc_let (fun x3 _ => ?_)
  refine pc_let (fun x4 _ => ?_)
  exact hk4 h
theorem ke_F_knownBy_4 {b : Wd} : ∀ (n : Nat) {v1 v2 v3 : Int} {w : Wd}, EKP b w → PC (f_F_knownBy_4 n v1 v2 v3 w) (fun _ u => EKP b u) := by
  intro n
  induction n with
  | zero => intros; exact pc_none
  | succ n ih =>
    intro v1 v2 v3 w h
    rw [f_F_knownBy_4]
    refine pc_ite (fun _ => ?_) (fun _ => ?_)
    · exact pc_some h
    · refine pc_call (ke_E_has h) (fun r1 u2 h => ?_)
      refine pc_ite (fun _ => ?_) (fun _ => ?_)
      · exact (ke_F_knownBy_31 (fun h => ih h) h)
      · refine pc_gd (fun _ => ?_)
        exact (ke_F_knownBy_31 (fun h => ih h) h)
theorem ke_F_knownBy {b : Wd} {v1 : Int} {w : Wd} (h : EKP b w) : PC (f_F_knownBy v1 w) (fun _ u => EKP b u) := by
  unfold f_F_knownBy
  exact (ke_F_knownBy_4 _ h)
theorem ke_F_within_12 {b : Wd} : ∀ (n : Nat) {v2 v3 v4 : Int} {w : Wd}, EKP b w → PC (f_F_within_12 n v2 v3 v4 w) (fun _ u => EKP b u) := by
  intro n
  induction n with
  | zero => intros; exact pc_none
  | succ n ih =>
    intro v2 v3 v4 w h
    rw [f_F_within_12]
    refine pc_ite (fun _ => ?_) (fun _ => ?_)
    · exact pc_some h
    · refine pc_call (ke_F_knownBy h) (fun r4 u5 h => ?_)
      refine pc_call (ke_F_free h) (fun r6 u7 h => ?_)
      refine pc_let (fun x8 _ => ?_)
      refine pc_let (fun x9 _ => ?_)
      exact ih h
theorem ke_F_within {b : Wd} {v1 v2 : Int} {w : Wd} (h : EKP b w) : PC (f_F_within v1 v2 w) (fun _ u => EKP b u) := by
  unfold f_F_within
  refine pc_call (ke_F_free h) (fun r1 u2 h => ?_)
  refine pc_let (fun x3 _ => ?_)
  exact (ke_F_within_12 _ h)
theorem ke_F_ledBy_29 {b : Wd} {k4 : Int → Int → Int → Wd → Option (Int × Wd)} (hk4 : ∀ {a0 a1 a2 : Int} {w : Wd}, EKP b w → PC (k4 a0 a1 a2 w) (fun _ u => EKP b u)) {v1 v3 s0 s1 : Int} {w : Wd} (h : EKP b w) : PC (f_F_ledBy_29 k4 v1 v3 s0 s1 w) (fun _ u => EKP b u) := by
  unfold f_F_ledBy_29
  refine pc_let (fun x3 _ => ?_)
  refine pc_let (fun x4 _ => ?_)
  exact hk4 h
theorem ke_F_broughtBy {b : Wd} {v1 : Int} {w : Wd} (h : EKP b w) : PC (f_F_broughtBy v1 w) (fun _ u => EKP b u) := by
  unfold f_F_broughtBy
  refine pc_call (ke_F_isThere h) (fun r1 u2 h => ?_)
  refine pc_ite (fun _ => ?_) (fun _ => ?_)
  · exact pc_some h
  · refine pc_gd (fun _ => ?_)
    exact pc_some h
theorem ke_F_stepsUp_5 {b : Wd} : ∀ (n : Nat) {v2 v3 v4 : Int} {w : Wd}, EKP b w → PC (f_F_stepsUp_5 n v2 v3 v4 w) (fun _ u => EKP b u) := by
  intro n
  induction n with
  | zero => intros; exact pc_none
  | succ n ih =>
    intro v2 v3 v4 w h
    rw [f_F_stepsUp_5]
    refine pc_ite (fun _ => ?_) (fun _ => ?_)
    · exact pc_some h
    · refine pc_ite (fun _ => ?_) (fun _ => ?_)
      · exact pc_some h
      · refine pc_ite (fun _ => ?_) (fun _ => ?_)
        · exact pc_some h
        · refine pc_call (ke_F_broughtBy h) (fun r1 u2 h => ?_)
          refine pc_let (fun x3 _ => ?_)
          exact ih h
theorem ke_F_stepsUp {b : Wd} {v1 v2 : Int} {w : Wd} (h : EKP b w) : PC (f_F_stepsUp v1 v2 w) (fun _ u => EKP b u) := by
  unfold f_F_stepsUp
  exact (ke_F_stepsUp_5 _ h)
theorem ke_F_ledBy_4 {b : Wd} : ∀ (n : Nat) {v1 v2 v3 : Int} {w : Wd}, EKP b w → PC (f_F_ledBy_4 n v1 v2 v3 w) (fun _ u => EKP b u) := by
  intro n
  induction n with
  | zero => intros; exact pc_none
  | succ n ih =>
    intro v1 v2 v3 w h
    rw [f_F_ledBy_4]
    refine pc_ite (fun _ => ?_) (fun _ => ?_)
    · exact pc_some h
    · refine pc_call (ke_F_stepsUp h) (fun r1 u2 h => ?_)
      refine pc_ite (fun _ => ?_) (fun _ => ?_)
      · exact (ke_F_ledBy_29 (fun h => ih h) h)
      · exact (ke_F_ledBy_29 (fun h => ih h) h)
theorem ke_F_ledBy {b : Wd} {v1 : Int} {w : Wd} (h : EKP b w) : PC (f_F_ledBy v1 w) (fun _ u => EKP b u) := by
  unfold f_F_ledBy
  exact (ke_F_ledBy_4 _ h)
theorem ke_E_lowest {b : Wd} {v0 : Int} {w : Wd} (h : EKP b w) : PC (f_E_lowest v0 w) (fun _ u => EKP b u) := by
  unfold f_E_lowest
  refine pc_ite (fun _ => ?_) (fun _ => ?_)
  · exact pc_some h
  · refine pc_call (ke_JI_bitCount h) (fun r1 u2 h => ?_)
    exact pc_some h
theorem ke_E_largestWeek_62 {b : Wd} {k24 : Int → Int → Wd → Option (Int × Wd)} (hk24 : ∀ {a0 a1 : Int} {w : Wd}, EKP b w → PC (k24 a0 a1 w) (fun _ u => EKP b u)) {v1 v2 : Int} {w : Wd} (h : EKP b w) : PC (f_E_largestWeek_62 k24 v1 v2 w) (fun _ u => EKP b u) := by
  unfold f_E_largestWeek_62
  refine pc_let (fun x11 _ => ?_)
  exact hk24 h
theorem ke_E_largestWeek_24 {b : Wd} : ∀ (n : Nat) {v1 v2 : Int} {w : Wd}, EKP b w → PC (f_E_largestWeek_24 n v1 v2 w) (fun _ u => EKP b u) := by
  intro n
  induction n with
  | zero => intros; exact pc_none
  | succ n ih =>
    intro v1 v2 w h
    rw [f_E_largestWeek_24]
    refine pc_ite (fun _ => ?_) (fun _ => ?_)
    · exact pc_some h
    · refine pc_call (ke_M_moversOf h) (fun r3 u4 h => ?_)
      refine pc_call (ke_JI_bitCount h) (fun r5 u6 h => ?_)
      refine pc_call (ke_M_moversOf h) (fun r7 u8 h => ?_)
      refine pc_call (ke_JI_bitCount h) (fun r9 u10 h => ?_)
      refine pc_ite (fun _ => ?_) (fun _ => ?_)
      · exact (ke_E_largestWeek_62 (fun h => ih h) h)
      · exact (ke_E_largestWeek_62 (fun h => ih h) h)
theorem ke_E_largestWeek {b : Wd} {w : Wd} (h : EKP b w) : PC (f_E_largestWeek w) (fun _ u => EKP b u) := by
  unfold f_E_largestWeek
  refine pc_call (ke_M_gather h) (fun r1 u2 h => ?_)
  exact (ke_E_largestWeek_24 _ h)
/-! THE SAME, of the reference -/
theorem kr_R_codeNow_4 {b : Wd} : ∀ (n : Nat) {v1 v2 : Int} {w : Wd}, RKP b w → PC (f_R_codeNow_4 n v1 v2 w) (fun _ u => RKP b u) := by
  intro n
  induction n with
  | zero => intros; exact pc_none
  | succ n ih =>
    intro v1 v2 w h
    rw [f_R_codeNow_4]
    refine pc_ite (fun _ => ?_) (fun _ => ?_)
    · exact pc_some h
    · refine pc_gd (fun _ => ?_)
      refine pc_let (fun x1 _ => ?_)
      refine pc_let (fun x2 _ => ?_)
      exact ih h
theorem kr_R_codeNow {b : Wd} {w : Wd} (h : RKP b w) : PC (f_R_codeNow w) (fun _ u => RKP b u) := by
  unfold f_R_codeNow
  exact (kr_R_codeNow_4 _ h)
theorem kr_R_stateOf_50 {b : Wd} {v1 v2 : Int} {w : Wd} (h : RKP b w) : PC (f_R_stateOf_50 v1 v2 w) (fun _ u => RKP b u) := by
  unfold f_R_stateOf_50
  refine pc_gd (fun _ => ?_)
  refine pc_ite (fun _ => ?_) (fun _ => ?_)
  · refine pc_ite (fun _ => ?_) (fun _ => ?_)
    · exact pc_some h
    · refine pc_gd (fun _ => ?_)
      refine pc_lw (fun u2 e => ?_)
      replace h := kr_st h e (Or.inl (by decide))
      refine pc_gd (fun _ => ?_)
      refine pc_lw (fun u3 e => ?_)
      replace h := kr_st h e (Or.inl (by decide))
      refine pc_lw (fun u4 e => ?_)
      replace h := kr_st h e (Or.inr (by decide))
      refine pc_gd (fun _ => ?_)
      refine pc_lw (fun u5 e => ?_)
      replace h := kr_st h e (Or.inl (by decide))
      exact pc_some h
  · refine pc_gd (fun _ => ?_)
    exact pc_some h
theorem kr_R_stateOf_13 {b : Wd} : ∀ (n : Nat) {v1 v2 : Int} {w : Wd}, RKP b w → PC (f_R_stateOf_13 n v1 v2 w) (fun _ u => RKP b u) := by
  intro n
  induction n with
  | zero => intros; exact pc_none
  | succ n ih =>
    intro v1 v2 w h
    rw [f_R_stateOf_13]
    refine pc_gd (fun _ => ?_)
    refine pc_ite (fun _ => ?_) (fun _ => ?_)
    · exact (kr_R_stateOf_50 h)
    · refine pc_gd (fun _ => ?_)
      refine pc_gd (fun _ => ?_)
      refine pc_ite (fun _ => ?_) (fun _ => ?_)
      · exact (kr_R_stateOf_50 h)
      · refine pc_let (fun x6 _ => ?_)
        exact ih h
theorem kr_R_stateOf {b : Wd} {v1 : Int} {w : Wd} (h : RKP b w) : PC (f_R_stateOf v1 w) (fun _ u => RKP b u) := by
  unfold f_R_stateOf
  refine pc_let (fun x1 _ => ?_)
  exact (kr_R_stateOf_13 _ h)
theorem kr_R_behind_120 {b : Wd} {v3 : Int} {w : Wd} (h : RKP b w) : PC (f_R_behind_120 v3 w) (fun _ u => RKP b u) := by
  unfold f_R_behind_120
  refine pc_call (kr_R_stateOf h) (fun r1 u2 h => ?_)
  refine pc_ite (fun _ => ?_) (fun _ => ?_)
  · exact pc_some h
  · exact pc_some h
theorem kr_R_behind_89 {b : Wd} {k8 : Int → Int → Int → Int → Int → Wd → Option (Int × Wd)} (hk8 : ∀ {a0 a1 a2 a3 a4 : Int} {w : Wd}, RKP b w → PC (k8 a0 a1 a2 a3 a4 w) (fun _ u => RKP b u)) {v1 v2 v3 v5 v6 s0 s1 : Int} {w : Wd} (h : RKP b w) : PC (f_R_behind_89 k8 v1 v2 v3 v5 v6 s0 s1 w) (fun _ u => RKP b u) := by
  unfold f_R_behind_89
  refine pc_let (fun x10 _ => ?_)
  refine pc_let (fun x11 _ => ?_)
  refine pc_let (fun x12 _ => ?_)
  exact hk8 h
theorem kr_R_isGuest {b : Wd} {v0 : Int} {w : Wd} (h : RKP b w) : PC (f_R_isGuest v0 w) (fun _ u => RKP b u) := by
  unfold f_R_isGuest
  refine pc_ite (fun _ => ?_) (fun _ => ?_)
  · exact pc_some h
  · refine pc_ite (fun _ => ?_) (fun _ => ?_)
    · exact pc_some h
    · exact pc_some h
theorem kr_R_behind_74 {b : Wd} {k8 : Int → Int → Int → Int → Int → Wd → Option (Int × Wd)} (hk8 : ∀ {a0 a1 a2 a3 a4 : Int} {w : Wd}, RKP b w → PC (k8 a0 a1 a2 a3 a4 w) (fun _ u => RKP b u)) {v1 v2 v3 v4 v5 v6 : Int} {w : Wd} (h : RKP b w) : PC (f_R_behind_74 k8 v1 v2 v3 v4 v5 v6 w) (fun _ u => RKP b u) := by
  unfold f_R_behind_74
  refine pc_call (kr_R_isGuest h) (fun r8 u9 h => ?_)
  refine pc_ite (fun _ => ?_) (fun _ => ?_)
  · exact (kr_R_behind_89 hk8 h)
  · exact (kr_R_behind_89 hk8 h)
theorem kr_R_behind_72 {b : Wd} {k8 : Int → Int → Int → Int → Int → Wd → Option (Int × Wd)} (hk8 : ∀ {a0 a1 a2 a3 a4 : Int} {w : Wd}, RKP b w → PC (k8 a0 a1 a2 a3 a4 w) (fun _ u => RKP b u)) {v1 v2 v3 v4 v5 s0 : Int} {w : Wd} (h : RKP b w) : PC (f_R_behind_72 k8 v1 v2 v3 v4 v5 s0 w) (fun _ u => RKP b u) := by
  unfold f_R_behind_72
  exact (kr_R_behind_74 hk8 h)
theorem kr_R_has {b : Wd} {v0 v1 : Int} {w : Wd} (h : RKP b w) : PC (f_R_has v0 v1 w) (fun _ u => RKP b u) := by
  unfold f_R_has
  refine pc_ite (fun _ => ?_) (fun _ => ?_)
  · exact pc_some h
  · exact pc_some h
theorem kr_R_behind_8 {b : Wd} : ∀ (n : Nat) {v1 v2 v3 v4 v5 : Int} {w : Wd}, RKP b w → PC (f_R_behind_8 n v1 v2 v3 v4 v5 w) (fun _ u => RKP b u) := by
  intro n
  induction n with
  | zero => intros; exact pc_none
  | succ n ih =>
    intro v1 v2 v3 v4 v5 w h
    rw [f_R_behind_8]
    refine pc_ite (fun _ => ?_) (fun _ => ?_)
    · refine pc_ite (fun _ => ?_) (fun _ => ?_)
      · exact (kr_R_behind_120 h)
      · refine pc_ite (fun _ => ?_) (fun _ => ?_)
        · exact (kr_R_behind_120 h)
        · exact pc_some h
    · refine pc_gd (fun _ => ?_)
      refine pc_let (fun x3 _ => ?_)
      refine pc_call (kr_R_has h) (fun r4 u5 h => ?_)
      refine pc_ite (fun _ => ?_) (fun _ => ?_)
      · refine pc_call (kr_R_isGuest h) (fun r6 u7 h => ?_)
        refine pc_ite (fun _ => ?_) (fun _ => ?_)
        · exact (kr_R_behind_74 (fun h => ih h) h)
        · refine pc_ite (fun _ => ?_) (fun _ => ?_)
          · exact (kr_R_behind_72 (fun h => ih h) h)
          · exact (kr_R_behind_72 (fun h => ih h) h)
      · exact (kr_R_behind_74 (fun h => ih h) h)
theorem kr_R_behind {b : Wd} {v1 v2 : Int} {w : Wd} (h : RKP b w) : PC (f_R_behind v1 v2 w) (fun _ u => RKP b u) := by
  unfold f_R_behind
  exact (kr_R_behind_8 _ h)
theorem kr_R_goPairs_182 {b : Wd} {rec : Int → Int → Int → Int → Wd → Option (Int × Wd)} {k109 : Int → Int → Int → Int → Int → Wd → Option (Int × Wd)} (hrec : ∀ {a0 a1 a2 a3 : Int} {w : Wd}, RKP b w → PC (rec a0 a1 a2 a3 w) (fun _ u => RKP b u)) (hk109 : ∀ {a0 a1 a2 a3 a4 : Int} {w : Wd}, RKP b w → PC (k109 a0 a1 a2 a3 a4 w) (fun _ u => RKP b u)) {v1 v2 v3 v4 v5 : Int} {w : Wd} (h : RKP b w) : PC (f_R_goPairs_182 rec k109 v1 v2 v3 v4 v5 w) (fun _ u => RKP b u) := by
  unfold f_R_goPairs_182
  refine pc_let (fun x7 _ => ?_)
  exact hk109 h
theorem kr_R_goPairs_109 {b : Wd} {rec : Int → Int → Int → Int → Wd → Option (Int × Wd)} (hrec : ∀ {a0 a1 a2 a3 : Int} {w : Wd}, RKP b w → PC (rec a0 a1 a2 a3 w) (fun _ u => RKP b u)) : ∀ (n : Nat) {v1 v2 v3 v4 v5 : Int} {w : Wd}, RKP b w → PC (f_R_goPairs_109 rec n v1 v2 v3 v4 v5 w) (fun _ u => RKP b u) := by
  intro n
  induction n with
  | zero => intros; exact pc_none
  | succ n ih =>
    intro v1 v2 v3 v4 v5 w h
    rw [f_R_goPairs_109]
    refine pc_ite (fun _ => ?_) (fun _ => ?_)
    · exact pc_some h
    · refine pc_gd (fun _ => ?_)
      refine pc_call (kr_R_has h) (fun r5 u6 h => ?_)
      refine pc_ite (fun _ => ?_) (fun _ => ?_)
      · exact (kr_R_goPairs_182 hrec (fun h => ih h) h)
      · refine pc_gd (fun _ => ?_)
        refine pc_ite (fun _ => ?_) (fun _ => ?_)
        · refine pc_call (hrec h) (fun r8 u9 h => ?_)
          refine pc_ite (fun _ => ?_) (fun _ => ?_)
          · exact pc_some h
          · exact (kr_R_goPairs_182 hrec (fun h => ih h) h)
        · exact (kr_R_goPairs_182 hrec (fun h => ih h) h)
theorem kr_R_goPairs_b {b : Wd} {rec : Int → Int → Int → Int → Wd → Option (Int × Wd)} (hrec : ∀ {a0 a1 a2 a3 : Int} {w : Wd}, RKP b w → PC (rec a0 a1 a2 a3 w) (fun _ u => RKP b u)) {v1 v2 v3 v4 : Int} {w : Wd} (h : RKP b w) : PC (f_R_goPairs_b rec v1 v2 v3 v4 w) (fun _ u => RKP b u) := by
  unfold f_R_goPairs_b
  refine pc_ite (fun _ => ?_) (fun _ => ?_)
  · refine pc_call (kr_R_behind h) (fun r10 u11 h => ?_)
    refine pc_ite (fun _ => ?_) (fun _ => ?_)
    · exact pc_some h
    · refine pc_ite (fun _ => ?_) (fun _ => ?_)
      · exact pc_some h
      · refine pc_gd (fun _ => ?_)
        refine pc_ite (fun _ => ?_) (fun _ => ?_)
        · exact pc_some h
        · refine pc_gd (fun _ => ?_)
          refine pc_lw (fun u12 e => ?_)
          replace h := kr_st h e (Or.inl (by decide))
          refine pc_gd (fun _ => ?_)
          refine pc_lw (fun u13 e => ?_)
          replace h := kr_st h e (Or.inl (by decide))
          refine pc_lw (fun u14 e => ?_)
          replace h := kr_st h e (Or.inr (by decide))
          exact pc_some h
  · refine pc_call (hrec h) (fun r1 u2 h => ?_)
    refine pc_ite (fun _ => ?_) (fun _ => ?_)
    · exact pc_some h
    · refine pc_gd (fun _ => ?_)
      refine pc_call (kr_R_isGuest h) (fun r3 u4 h => ?_)
      refine pc_ite (fun _ => ?_) (fun _ => ?_)
      · exact pc_some h
      · exact (kr_R_goPairs_109 hrec _ h)
theorem kr_R_goPairs {b : Wd} : ∀ (n : Nat) {v1 v2 v3 v4 : Int} {w : Wd}, RKP b w → PC (f_R_goPairs n v1 v2 v3 v4 w) (fun _ u => RKP b u) := by
  intro n
  induction n with
  | zero => intros; exact pc_none
  | succ n ih =>
    intro v1 v2 v3 v4 w h
    rw [f_R_goPairs]
    exact (kr_R_goPairs_b (fun h => ih h) h)
theorem kr_R_load_14 {b : Wd} : ∀ (n : Nat) {v2 v3 : Int} {w : Wd}, RKP b w → PC (f_R_load_14 n v2 v3 w) (fun _ u => RKP b u) := by
  intro n
  induction n with
  | zero => intros; exact pc_none
  | succ n ih =>
    intro v2 v3 w h
    rw [f_R_load_14]
    refine pc_ite (fun _ => ?_) (fun _ => ?_)
    · exact pc_some h
    · refine pc_ite (fun _ => pc_none) (fun _ => ?_)
      refine pc_gd (fun _ => ?_)
      refine pc_lw (fun u3 e => ?_)
      replace h := kr_st h e (Or.inl (by decide))
      refine pc_ite (fun _ => pc_none) (fun _ => ?_)
      refine pc_let (fun x4 _ => ?_)
      refine pc_let (fun x5 _ => ?_)
      exact ih h
theorem kr_R_load {b : Wd} {v1 : Int} {w : Wd} (h : RKP b w) : PC (f_R_load v1 w) (fun _ u => RKP b u) := by
  unfold f_R_load
  refine pc_gd (fun _ => ?_)
  refine pc_let (fun x1 _ => ?_)
  refine pc_let (fun x2 _ => ?_)
  exact (kr_R_load_14 _ h)
theorem kr_R_findStates_53 {b : Wd} : ∀ (n : Nat) {v2 : Int} {w : Wd}, RKP b w → PC (f_R_findStates_53 n v2 w) (fun _ u => RKP b u) := by
  intro n
  induction n with
  | zero => intros; exact pc_none
  | succ n ih =>
    intro v2 w h
    rw [f_R_findStates_53]
    refine pc_ite (fun _ => ?_) (fun _ => ?_)
    · refine pc_gd (fun _ => ?_)
      refine pc_lw (fun u10 e => ?_)
      replace h := kr_st h e (Or.inl (by decide))
      exact pc_some h
    · refine pc_gd (fun _ => ?_)
      refine pc_lw (fun u11 e => ?_)
      replace h := kr_st h e (Or.inl (by decide))
      refine pc_call (kr_R_load h) (fun r12 u13 h => ?_)
      refine pc_call (kr_R_goPairs _ h) (fun r14 u15 h => ?_)
      refine pc_ite (fun _ => ?_) (fun _ => ?_)
      · exact pc_some h
      · refine pc_let (fun x16 _ => ?_)
        exact ih h
theorem kr_R_findStates_12 {b : Wd} : ∀ (n : Nat) {v2 : Int} {w : Wd}, RKP b w → PC (f_R_findStates_12 n v2 w) (fun _ u => RKP b u) := by
  intro n
  induction n with
  | zero => intros; exact pc_none
  | succ n ih =>
    intro v2 w h
    rw [f_R_findStates_12]
    refine pc_ite (fun _ => ?_) (fun _ => ?_)
    · refine pc_lw (fun u4 e => ?_)
      replace h := kr_st h e (Or.inr (by decide))
      refine pc_lw (fun u5 e => ?_)
      replace h := kr_st h e (Or.inr (by decide))
      refine pc_call (kr_R_codeNow h) (fun r6 u7 h => ?_)
      refine pc_call (kr_R_stateOf h) (fun r8 u9 h => ?_)
      exact (kr_R_findStates_53 _ h)
    · refine pc_gd (fun _ => ?_)
      refine pc_lw (fun u17 e => ?_)
      replace h := kr_st h e (Or.inl (by decide))
      refine pc_let (fun x18 _ => ?_)
      exact ih h
theorem kr_R_hidden_29 {b : Wd} {k4 : Int → Int → Wd → Option (Int × Wd)} (hk4 : ∀ {a0 a1 : Int} {w : Wd}, RKP b w → PC (k4 a0 a1 w) (fun _ u => RKP b u)) {v2 s0 s1 : Int} {w : Wd} (h : RKP b w) : PC (f_R_hidden_29 k4 v2 s0 s1 w) (fun _ u => RKP b u) := by
  unfold f_R_hidden_29
  refine pc_let (fun x1 _ => ?_)
  refine pc_let (fun x2 _ => ?_)
  exact hk4 h
theorem kr_R_hidden_4 {b : Wd} : ∀ (n : Nat) {v1 v2 : Int} {w : Wd}, RKP b w → PC (f_R_hidden_4 n v1 v2 w) (fun _ u => RKP b u) := by
  intro n
  induction n with
  | zero => intros; exact pc_none
  | succ n ih =>
    intro v1 v2 w h
    rw [f_R_hidden_4]
    refine pc_ite (fun _ => ?_) (fun _ => ?_)
    · exact pc_some h
    · refine pc_gd (fun _ => ?_)
      refine pc_ite (fun _ => ?_) (fun _ => ?_)
      · exact (kr_R_hidden_29 (fun h => ih h) h)
      · exact (kr_R_hidden_29 (fun h => ih h) h)
theorem kr_R_hidden {b : Wd} {w : Wd} (h : RKP b w) : PC (f_R_hidden w) (fun _ u => RKP b u) := by
  unfold f_R_hidden
  exact (kr_R_hidden_4 _ h)
theorem kr_R_findStates {b : Wd} {v1 : Int} {w : Wd} (h : RKP b w) : PC (f_R_findStates v1 w) (fun _ u => RKP b u) := by
  unfold f_R_findStates
  refine pc_call (kr_R_hidden h) (fun r1 u2 h => ?_)
  refine pc_lw (fun u3 e => ?_)
  replace h := kr_st h e (Or.inr (by decide))
  exact (kr_R_findStates_12 _ h)
theorem kr_R_beginWeeks_26 {b : Wd} {k2 : Int → Wd → Option (Int × Wd)} (hk2 : ∀ {a0 : Int} {w : Wd}, RKP b w → PC (k2 a0 w) (fun _ u => RKP b u)) {v1 s1 s2 : Int} {w : Wd} (h : RKP b w) : PC (f_R_beginWeeks_26 k2 v1 s1 s2 w) (fun _ u => RKP b u) := by
  unfold f_R_beginWeeks_26
  refine pc_gd (fun _ => ?_)
  refine pc_lw (fun u1 e => ?_)
  replace h := kr_st h e (Or.inl (by decide))
  refine pc_let (fun x2 _ => ?_)
  exact hk2 h
theorem kr_R_beginWeeks_2 {b : Wd} : ∀ (n : Nat) {v1 : Int} {w : Wd}, RKP b w → PC (f_R_beginWeeks_2 n v1 w) (fun _ u => RKP b u) := by
  intro n
  induction n with
  | zero => intros; exact pc_none
  | succ n ih =>
    intro v1 w h
    rw [f_R_beginWeeks_2]
    refine pc_ite (fun _ => ?_) (fun _ => ?_)
    · exact pc_some h
    · refine pc_ite (fun _ => ?_) (fun _ => ?_)
      · exact (kr_R_beginWeeks_26 (fun h => ih h) h)
      · exact (kr_R_beginWeeks_26 (fun h => ih h) h)
theorem kr_R_beginWeeks {b : Wd} {w : Wd} (h : RKP b w) : PC (f_R_beginWeeks w) (fun _ u => RKP b u) := by
  unfold f_R_beginWeeks
  exact (kr_R_beginWeeks_2 _ h)
theorem kr_R_goOneWeek_118 {b : Wd} {k27 : Int → Wd → Option (Int × Wd)} (hk27 : ∀ {a0 : Int} {w : Wd}, RKP b w → PC (k27 a0 w) (fun _ u => RKP b u)) {v1 : Int} {w : Wd} (h : RKP b w) : PC (f_R_goOneWeek_118 k27 v1 w) (fun _ u => RKP b u) := by
  unfold f_R_goOneWeek_118
  refine pc_let (fun x4 _ => ?_)
  exact hk27 h
theorem kr_R_goOneWeek_126 {b : Wd} : ∀ (n : Nat) {v1 : Int} {w : Wd}, RKP b w → PC (f_R_goOneWeek_126 n v1 w) (fun _ u => RKP b u) := by
  intro n
  induction n with
  | zero => intros; exact pc_none
  | succ n ih =>
    intro v1 w h
    rw [f_R_goOneWeek_126]
    refine pc_ite (fun _ => ?_) (fun _ => ?_)
    · exact pc_some h
    · refine pc_gd (fun _ => ?_)
      refine pc_gd (fun _ => ?_)
      refine pc_lw (fun u1 e => ?_)
      replace h := kr_st h e (Or.inl (by decide))
      refine pc_let (fun x2 _ => ?_)
      exact ih h
theorem kr_R_costOf_51 {b : Wd} {k20 : Int → Int → Int → Wd → Option (Int × Wd)} (hk20 : ∀ {a0 a1 a2 : Int} {w : Wd}, RKP b w → PC (k20 a0 a1 a2 w) (fun _ u => RKP b u)) {v3 v5 s0 s1 : Int} {w : Wd} (h : RKP b w) : PC (f_R_costOf_51 k20 v3 v5 s0 s1 w) (fun _ u => RKP b u) := by
  unfold f_R_costOf_51
  refine pc_let (fun x8 _ => ?_)
  refine pc_let (fun x9 _ => ?_)
  exact hk20 h
theorem kr_R_costOf_20 {b : Wd} : ∀ (n : Nat) {v3 v4 v5 : Int} {w : Wd}, RKP b w → PC (f_R_costOf_20 n v3 v4 v5 w) (fun _ u => RKP b u) := by
  intro n
  induction n with
  | zero => intros; exact pc_none
  | succ n ih =>
    intro v3 v4 v5 w h
    rw [f_R_costOf_20]
    refine pc_ite (fun _ => ?_) (fun _ => ?_)
    · exact pc_some h
    · refine pc_call (kr_R_has h) (fun r6 u7 h => ?_)
      refine pc_ite (fun _ => ?_) (fun _ => ?_)
      · exact (kr_R_costOf_51 (fun h => ih h) h)
      · refine pc_gd (fun _ => ?_)
        exact (kr_R_costOf_51 (fun h => ih h) h)
theorem kr_R_strangersIn_37 {b : Wd} {k17 : Int → Int → Int → Wd → Option (Int × Wd)} (hk17 : ∀ {a0 a1 a2 : Int} {w : Wd}, RKP b w → PC (k17 a0 a1 a2 w) (fun _ u => RKP b u)) {v3 v4 s0 s1 : Int} {w : Wd} (h : RKP b w) : PC (f_R_strangersIn_37 k17 v3 v4 s0 s1 w) (fun _ u => RKP b u) := by
  unfold f_R_strangersIn_37
  refine pc_let (fun x3 _ => ?_)
  refine pc_ite (fun _ => pc_none) (fun _ => ?_)
  refine pc_let (fun x4 _ => ?_)
  refine pc_let (fun x5 _ => ?_)
  exact hk17 h
theorem kr_R_strangersIn_17 {b : Wd} : ∀ (n : Nat) {v2 v3 v4 : Int} {w : Wd}, RKP b w → PC (f_R_strangersIn_17 n v2 v3 v4 w) (fun _ u => RKP b u) := by
  intro n
  induction n with
  | zero => intros; exact pc_none
  | succ n ih =>
    intro v2 v3 v4 w h
    rw [f_R_strangersIn_17]
    refine pc_ite (fun _ => ?_) (fun _ => ?_)
    · exact pc_some h
    · refine pc_ite (fun _ => pc_none) (fun _ => ?_)
      refine pc_ite (fun _ => ?_) (fun _ => ?_)
      · exact (kr_R_strangersIn_37 (fun h => ih h) h)
      · exact (kr_R_strangersIn_37 (fun h => ih h) h)
theorem kr_R_strangersIn {b : Wd} {v1 : Int} {w : Wd} (h : RKP b w) : PC (f_R_strangersIn v1 w) (fun _ u => RKP b u) := by
  unfold f_R_strangersIn
  refine pc_gd (fun _ => ?_)
  refine pc_let (fun x1 _ => ?_)
  refine pc_let (fun x2 _ => ?_)
  exact (kr_R_strangersIn_17 _ h)
theorem kr_R_costOf {b : Wd} {v1 v2 : Int} {w : Wd} (h : RKP b w) : PC (f_R_costOf v1 v2 w) (fun _ u => RKP b u) := by
  unfold f_R_costOf
  refine pc_call (kr_R_strangersIn h) (fun r1 u2 h => ?_)
  refine pc_call (kr_R_strangersIn h) (fun r3 u4 h => ?_)
  refine pc_let (fun x5 _ => ?_)
  exact (kr_R_costOf_20 _ h)
theorem kr_R_goOneWeek_57 {b : Wd} {k27 : Int → Wd → Option (Int × Wd)} (hk27 : ∀ {a0 : Int} {w : Wd}, RKP b w → PC (k27 a0 w) (fun _ u => RKP b u)) : ∀ (n : Nat) {v1 v2 : Int} {w : Wd}, RKP b w → PC (f_R_goOneWeek_57 k27 n v1 v2 w) (fun _ u => RKP b u) := by
  intro n
  induction n with
  | zero => intros; exact pc_none
  | succ n ih =>
    intro v1 v2 w h
    rw [f_R_goOneWeek_57]
    refine pc_gd (fun _ => ?_)
    refine pc_ite (fun _ => ?_) (fun _ => ?_)
    · exact (kr_R_goOneWeek_118 hk27 h)
    · refine pc_gd (fun _ => ?_)
      refine pc_gd (fun _ => ?_)
      refine pc_gd (fun _ => ?_)
      refine pc_gd (fun _ => ?_)
      refine pc_gd (fun _ => ?_)
      refine pc_call (kr_R_costOf h) (fun r5 u6 h => ?_)
      refine pc_gd (fun _ => ?_)
      refine pc_lw (fun u7 e => ?_)
      replace h := kr_st h e (Or.inl (by decide))
      refine pc_let (fun x8 _ => ?_)
      exact ih h
theorem kr_R_goOneWeek_27 {b : Wd} : ∀ (n : Nat) {v1 : Int} {w : Wd}, RKP b w → PC (f_R_goOneWeek_27 n v1 w) (fun _ u => RKP b u) := by
  intro n
  induction n with
  | zero => intros; exact pc_none
  | succ n ih =>
    intro v1 w h
    rw [f_R_goOneWeek_27]
    refine pc_ite (fun _ => ?_) (fun _ => ?_)
    · exact (kr_R_goOneWeek_126 _ h)
    · refine pc_gd (fun _ => ?_)
      refine pc_ite (fun _ => ?_) (fun _ => ?_)
      · exact (kr_R_goOneWeek_118 (fun h => ih h) h)
      · refine pc_gd (fun _ => ?_)
        refine pc_let (fun x3 _ => ?_)
        exact (kr_R_goOneWeek_57 (fun h => ih h) _ h)
theorem kr_R_goOneWeek_2 {b : Wd} : ∀ (n : Nat) {v1 : Int} {w : Wd}, RKP b w → PC (f_R_goOneWeek_2 n v1 w) (fun _ u => RKP b u) := by
  intro n
  induction n with
  | zero => intros; exact pc_none
  | succ n ih =>
    intro v1 w h
    rw [f_R_goOneWeek_2]
    refine pc_ite (fun _ => ?_) (fun _ => ?_)
    · exact (kr_R_goOneWeek_27 _ h)
    · refine pc_gd (fun _ => ?_)
      refine pc_lw (fun u9 e => ?_)
      replace h := kr_st h e (Or.inl (by decide))
      refine pc_let (fun x10 _ => ?_)
      exact ih h
theorem kr_R_goOneWeek {b : Wd} {w : Wd} (h : RKP b w) : PC (f_R_goOneWeek w) (fun _ u => RKP b u) := by
  unfold f_R_goOneWeek
  exact (kr_R_goOneWeek_2 _ h)
theorem kr_R_findWeek_16 {b : Wd} : ∀ (n : Nat) {v1 v2 : Int} {w : Wd}, RKP b w → PC (f_R_findWeek_16 n v1 v2 w) (fun _ u => RKP b u) := by
  intro n
  induction n with
  | zero => intros; exact pc_none
  | succ n ih =>
    intro v1 v2 w h
    rw [f_R_findWeek_16]
    refine pc_ite (fun _ => ?_) (fun _ => ?_)
    · exact pc_some h
    · refine pc_call (kr_R_goOneWeek h) (fun r5 u6 h => ?_)
      refine pc_let (fun x7 _ => ?_)
      exact ih h
theorem kr_R_findWeek {b : Wd} {v1 : Int} {w : Wd} (h : RKP b w) : PC (f_R_findWeek v1 w) (fun _ u => RKP b u) := by
  unfold f_R_findWeek
  refine pc_call (kr_R_findStates h) (fun r1 u2 h => ?_)
  refine pc_ite (fun _ => ?_) (fun _ => ?_)
  · exact pc_some h
  · refine pc_call (kr_R_beginWeeks h) (fun r3 u4 h => ?_)
    exact (kr_R_findWeek_16 _ h)
theorem kr_R_in {b : Wd} {v0 v1 v2 : Int} {w : Wd} (h : RKP b w) : PC (f_R_in v0 v1 v2 w) (fun _ u => RKP b u) := by
  unfold f_R_in
  refine pc_ite (fun _ => ?_) (fun _ => ?_)
  · exact pc_some h
  · refine pc_ite (fun _ => ?_) (fun _ => ?_)
    · exact pc_some h
    · exact pc_some h
theorem kr_R_isWeeks {b : Wd} {v0 : Int} {w : Wd} (h : RKP b w) : PC (f_R_isWeeks v0 w) (fun _ u => RKP b u) := by
  unfold f_R_isWeeks
  refine pc_call (kr_R_in h) (fun r1 u2 h => ?_)
  exact pc_ite (fun _ => pc_some h) (fun _ => pc_none)
theorem kr_R_isOne {b : Wd} {v1 : Int} {w : Wd} (h : RKP b w) : PC (f_R_isOne v1 w) (fun _ u => RKP b u) := by
  unfold f_R_isOne
  refine pc_call (kr_R_in h) (fun r1 u2 h => ?_)
  exact pc_ite (fun _ => pc_some h) (fun _ => pc_none)
theorem kr_R_all {b : Wd} {w : Wd} (h : RKP b w) : PC (f_R_all w) (fun _ u => RKP b u) := by
  unfold f_R_all
  exact pc_some h
theorem kr_R_findLife_104 {b : Wd} {k6 : Int → Int → Wd → Option (Int × Wd)} (hk6 : ∀ {a0 a1 : Int} {w : Wd}, RKP b w → PC (k6 a0 a1 w) (fun _ u => RKP b u)) {v1 v2 : Int} {w : Wd} (h : RKP b w) : PC (f_R_findLife_104 k6 v1 v2 w) (fun _ u => RKP b u) := by
  unfold f_R_findLife_104
  refine pc_let (fun x9 _ => ?_)
  exact hk6 h
theorem kr_R_findLife_56 {b : Wd} {k6 : Int → Int → Wd → Option (Int × Wd)} (hk6 : ∀ {a0 a1 : Int} {w : Wd}, RKP b w → PC (k6 a0 a1 w) (fun _ u => RKP b u)) : ∀ (n : Nat) {v1 v2 v3 v4 : Int} {w : Wd}, RKP b w → PC (f_R_findLife_56 k6 n v1 v2 v3 v4 w) (fun _ u => RKP b u) := by
  intro n
  induction n with
  | zero => intros; exact pc_none
  | succ n ih =>
    intro v1 v2 v3 v4 w h
    rw [f_R_findLife_56]
    refine pc_gd (fun _ => ?_)
    refine pc_ite (fun _ => ?_) (fun _ => ?_)
    · exact (kr_R_findLife_104 hk6 h)
    · refine pc_gd (fun _ => ?_)
      refine pc_gd (fun _ => ?_)
      refine pc_gd (fun _ => ?_)
      refine pc_gd (fun _ => ?_)
      refine pc_lw (fun u10 e => ?_)
      replace h := kr_st h e (Or.inl (by decide))
      refine pc_let (fun x11 _ => ?_)
      exact ih h
theorem kr_R_guestsIn_40 {b : Wd} {k17 : Int → Int → Int → Wd → Option (Int × Wd)} (hk17 : ∀ {a0 a1 a2 : Int} {w : Wd}, RKP b w → PC (k17 a0 a1 a2 w) (fun _ u => RKP b u)) {v3 v4 s0 s1 : Int} {w : Wd} (h : RKP b w) : PC (f_R_guestsIn_40 k17 v3 v4 s0 s1 w) (fun _ u => RKP b u) := by
  unfold f_R_guestsIn_40
  refine pc_let (fun x5 _ => ?_)
  refine pc_ite (fun _ => pc_none) (fun _ => ?_)
  refine pc_let (fun x6 _ => ?_)
  refine pc_let (fun x7 _ => ?_)
  exact hk17 h
theorem kr_R_guestsIn_17 {b : Wd} : ∀ (n : Nat) {v2 v3 v4 : Int} {w : Wd}, RKP b w → PC (f_R_guestsIn_17 n v2 v3 v4 w) (fun _ u => RKP b u) := by
  intro n
  induction n with
  | zero => intros; exact pc_none
  | succ n ih =>
    intro v2 v3 v4 w h
    rw [f_R_guestsIn_17]
    refine pc_ite (fun _ => ?_) (fun _ => ?_)
    · exact pc_some h
    · refine pc_ite (fun _ => pc_none) (fun _ => ?_)
      refine pc_call (kr_R_isGuest h) (fun r3 u4 h => ?_)
      refine pc_ite (fun _ => ?_) (fun _ => ?_)
      · exact (kr_R_guestsIn_40 (fun h => ih h) h)
      · exact (kr_R_guestsIn_40 (fun h => ih h) h)
theorem kr_R_guestsIn {b : Wd} {v1 : Int} {w : Wd} (h : RKP b w) : PC (f_R_guestsIn v1 w) (fun _ u => RKP b u) := by
  unfold f_R_guestsIn
  refine pc_gd (fun _ => ?_)
  refine pc_let (fun x1 _ => ?_)
  refine pc_let (fun x2 _ => ?_)
  exact (kr_R_guestsIn_17 _ h)
theorem kr_R_findLife_6 {b : Wd} : ∀ (n : Nat) {v1 v2 : Int} {w : Wd}, RKP b w → PC (f_R_findLife_6 n v1 v2 w) (fun _ u => RKP b u) := by
  intro n
  induction n with
  | zero => intros; exact pc_none
  | succ n ih =>
    intro v1 v2 w h
    rw [f_R_findLife_6]
    refine pc_ite (fun _ => ?_) (fun _ => ?_)
    · exact pc_some h
    · refine pc_gd (fun _ => ?_)
      refine pc_let (fun x3 _ => ?_)
      refine pc_gd (fun _ => ?_)
      refine pc_lw (fun u4 e => ?_)
      replace h := kr_st h e (Or.inl (by decide))
      refine pc_call (kr_R_guestsIn h) (fun r5 u6 h => ?_)
      refine pc_ite (fun _ => ?_) (fun _ => ?_)
      · exact (kr_R_findLife_104 (fun h => ih h) h)
      · refine pc_gd (fun _ => ?_)
        refine pc_lw (fun u7 e => ?_)
        replace h := kr_st h e (Or.inl (by decide))
        refine pc_gd (fun _ => ?_)
        refine pc_let (fun x8 _ => ?_)
        exact (kr_R_findLife_56 (fun h => ih h) _ h)
theorem kr_R_findOrder_142 {b : Wd} {k103 : Int → Int → Int → Wd → Option (Int × Wd)} {k111 : Int → Int → Int → Int → Wd → Option (Int × Wd)} (hk103 : ∀ {a0 a1 a2 : Int} {w : Wd}, RKP b w → PC (k103 a0 a1 a2 w) (fun _ u => RKP b u)) (hk111 : ∀ {a0 a1 a2 a3 : Int} {w : Wd}, RKP b w → PC (k111 a0 a1 a2 a3 w) (fun _ u => RKP b u)) {v1 v2 v3 v4 : Int} {w : Wd} (h : RKP b w) : PC (f_R_findOrder_142 k103 k111 v1 v2 v3 v4 w) (fun _ u => RKP b u) := by
  unfold f_R_findOrder_142
  refine pc_let (fun x2 _ => ?_)
  exact hk111 h
theorem kr_R_findOrder_111 {b : Wd} {k103 : Int → Int → Int → Wd → Option (Int × Wd)} (hk103 : ∀ {a0 a1 a2 : Int} {w : Wd}, RKP b w → PC (k103 a0 a1 a2 w) (fun _ u => RKP b u)) : ∀ (n : Nat) {v1 v2 v3 v4 : Int} {w : Wd}, RKP b w → PC (f_R_findOrder_111 k103 n v1 v2 v3 v4 w) (fun _ u => RKP b u) := by
  intro n
  induction n with
  | zero => intros; exact pc_none
  | succ n ih =>
    intro v1 v2 v3 v4 w h
    rw [f_R_findOrder_111]
    refine pc_ite (fun _ => ?_) (fun _ => ?_)
    · refine pc_let (fun x1 _ => ?_)
      exact hk103 h
    · refine pc_gd (fun _ => ?_)
      refine pc_ite (fun _ => ?_) (fun _ => ?_)
      · refine pc_let (fun x3 _ => ?_)
        refine pc_gd (fun _ => ?_)
        refine pc_lw (fun u4 e => ?_)
        replace h := kr_st h e (Or.inl (by decide))
        exact (kr_R_findOrder_142 hk103 (fun h => ih h) h)
      · exact (kr_R_findOrder_142 hk103 (fun h => ih h) h)
theorem kr_R_findOrder_103 {b : Wd} : ∀ (n : Nat) {v1 v2 v3 : Int} {w : Wd}, RKP b w → PC (f_R_findOrder_103 n v1 v2 v3 w) (fun _ u => RKP b u) := by
  intro n
  induction n with
  | zero => intros; exact pc_none
  | succ n ih =>
    intro v1 v2 v3 w h
    rw [f_R_findOrder_103]
    refine pc_ite (fun _ => ?_) (fun _ => ?_)
    · exact pc_some h
    · exact (kr_R_findOrder_111 (fun h => ih h) _ h)
theorem kr_R_findOrder_65 {b : Wd} {k4 : Int → Int → Wd → Option (Int × Wd)} {k25 : Int → Int → Int → Int → Int → Wd → Option (Int × Wd)} (hk4 : ∀ {a0 a1 : Int} {w : Wd}, RKP b w → PC (k4 a0 a1 w) (fun _ u => RKP b u)) (hk25 : ∀ {a0 a1 a2 a3 a4 : Int} {w : Wd}, RKP b w → PC (k25 a0 a1 a2 a3 a4 w) (fun _ u => RKP b u)) {v1 v2 v3 v5 s0 s1 : Int} {w : Wd} (h : RKP b w) : PC (f_R_findOrder_65 k4 k25 v1 v2 v3 v5 s0 s1 w) (fun _ u => RKP b u) := by
  unfold f_R_findOrder_65
  refine pc_let (fun x11 _ => ?_)
  refine pc_ite (fun _ => pc_none) (fun _ => ?_)
  refine pc_let (fun x12 _ => ?_)
  refine pc_let (fun x13 _ => ?_)
  exact hk25 h
theorem kr_R_findOrder_25 {b : Wd} {k4 : Int → Int → Wd → Option (Int × Wd)} (hk4 : ∀ {a0 a1 : Int} {w : Wd}, RKP b w → PC (k4 a0 a1 w) (fun _ u => RKP b u)) : ∀ (n : Nat) {v1 v2 v3 v4 v5 : Int} {w : Wd}, RKP b w → PC (f_R_findOrder_25 k4 n v1 v2 v3 v4 v5 w) (fun _ u => RKP b u) := by
  intro n
  induction n with
  | zero => intros; exact pc_none
  | succ n ih =>
    intro v1 v2 v3 v4 v5 w h
    rw [f_R_findOrder_25]
    refine pc_ite (fun _ => ?_) (fun _ => ?_)
    · refine pc_gd (fun _ => ?_)
      refine pc_lw (fun u6 e => ?_)
      replace h := kr_st h e (Or.inl (by decide))
      refine pc_let (fun x7 _ => ?_)
      refine pc_let (fun x8 _ => ?_)
      exact hk4 h
    · refine pc_ite (fun _ => pc_none) (fun _ => ?_)
      refine pc_ite (fun _ => ?_) (fun _ => ?_)
      · exact (kr_R_findOrder_65 hk4 (fun h => ih h) h)
      · refine pc_ite (fun _ => pc_none) (fun _ => ?_)
        refine pc_call (kr_R_isGuest h) (fun r9 u10 h => ?_)
        refine pc_ite (fun _ => ?_) (fun _ => ?_)
        · exact (kr_R_findOrder_65 hk4 (fun h => ih h) h)
        · refine pc_ite (fun _ => pc_none) (fun _ => ?_)
          exact (kr_R_findOrder_65 hk4 (fun h => ih h) h)
theorem kr_R_findOrder_4 {b : Wd} : ∀ (n : Nat) {v1 v2 : Int} {w : Wd}, RKP b w → PC (f_R_findOrder_4 n v1 v2 w) (fun _ u => RKP b u) := by
  intro n
  induction n with
  | zero => intros; exact pc_none
  | succ n ih =>
    intro v1 v2 w h
    rw [f_R_findOrder_4]
    refine pc_ite (fun _ => ?_) (fun _ => ?_)
    · exact (kr_R_findOrder_103 _ h)
    · refine pc_gd (fun _ => ?_)
      refine pc_let (fun x5 _ => ?_)
      exact (kr_R_findOrder_25 (fun h => ih h) _ h)
theorem kr_R_findOrder {b : Wd} {w : Wd} (h : RKP b w) : PC (f_R_findOrder w) (fun _ u => RKP b u) := by
  unfold f_R_findOrder
  exact (kr_R_findOrder_4 _ h)
theorem kr_R_findLife {b : Wd} {v1 : Int} {w : Wd} (h : RKP b w) : PC (f_R_findLife v1 w) (fun _ u => RKP b u) := by
  unfold f_R_findLife
  refine pc_call (kr_R_findOrder h) (fun r1 u2 h => ?_)
  exact (kr_R_findLife_6 _ h)
theorem kr_R_those_38 {b : Wd} {k5 : Int → Int → Int → Int → Wd → Option (Int × Wd)} (hk5 : ∀ {a0 a1 a2 a3 : Int} {w : Wd}, RKP b w → PC (k5 a0 a1 a2 a3 w) (fun _ u => RKP b u)) {v1 v2 v4 s0 s1 : Int} {w : Wd} (h : RKP b w) : PC (f_R_those_38 k5 v1 v2 v4 s0 s1 w) (fun _ u => RKP b u) := by
  unfold f_R_those_38
  refine pc_let (fun x3 _ => ?_)
  refine pc_let (fun x4 _ => ?_)
  exact hk5 h
theorem kr_R_those_5 {b : Wd} : ∀ (n : Nat) {v1 v2 v3 v4 : Int} {w : Wd}, RKP b w → PC (f_R_those_5 n v1 v2 v3 v4 w) (fun _ u => RKP b u) := by
  intro n
  induction n with
  | zero => intros; exact pc_none
  | succ n ih =>
    intro v1 v2 v3 v4 w h
    rw [f_R_those_5]
    refine pc_ite (fun _ => ?_) (fun _ => ?_)
    · exact pc_some h
    · refine pc_gd (fun _ => ?_)
      refine pc_call (kr_R_in h) (fun r1 u2 h => ?_)
      refine pc_ite (fun _ => ?_) (fun _ => ?_)
      · exact (kr_R_those_38 (fun h => ih h) h)
      · exact (kr_R_those_38 (fun h => ih h) h)
theorem kr_R_those {b : Wd} {v1 v2 : Int} {w : Wd} (h : RKP b w) : PC (f_R_those v1 v2 w) (fun _ u => RKP b u) := by
  unfold f_R_those
  exact (kr_R_those_5 _ h)
theorem kr_R_free {b : Wd} {w : Wd} (h : RKP b w) : PC (f_R_free w) (fun _ u => RKP b u) := by
  unfold f_R_free
  refine pc_call (kr_R_those h) (fun r1 u2 h => ?_)
  refine pc_call (kr_R_hidden h) (fun r3 u4 h => ?_)
  exact pc_some h
theorem kr_R_guests {b : Wd} {w : Wd} (h : RKP b w) : PC (f_R_guests w) (fun _ u => RKP b u) := by
  unfold f_R_guests
  refine pc_call (kr_R_those h) (fun r1 u2 h => ?_)
  exact pc_some h
theorem kr_R_depthUnder_58 {b : Wd} {k4 : Int → Int → Int → Wd → Option (Int × Wd)} (hk4 : ∀ {a0 a1 a2 : Int} {w : Wd}, RKP b w → PC (k4 a0 a1 a2 w) (fun _ u => RKP b u)) {v1 v2 v3 : Int} {w : Wd} (h : RKP b w) : PC (f_R_depthUnder_58 k4 v1 v2 v3 w) (fun _ u => RKP b u) := by
  unfold f_R_depthUnder_58
  refine pc_let (fun x1 _ => ?_)
  exact hk4 h
theorem kr_R_depthUnder_45 {b : Wd} {k4 : Int → Int → Int → Wd → Option (Int × Wd)} (hk4 : ∀ {a0 a1 a2 : Int} {w : Wd}, RKP b w → PC (k4 a0 a1 a2 w) (fun _ u => RKP b u)) {v1 v2 v3 v4 v5 : Int} {w : Wd} (h : RKP b w) : PC (f_R_depthUnder_45 k4 v1 v2 v3 v4 v5 w) (fun _ u => RKP b u) := by
  unfold f_R_depthUnder_45
  refine pc_ite (fun _ => ?_) (fun _ => ?_)
  · refine pc_let (fun x2 _ => ?_)
    exact (kr_R_depthUnder_58 hk4 h)
  · exact (kr_R_depthUnder_58 hk4 h)
theorem kr_R_depthUnder_18 {b : Wd} {k4 : Int → Int → Int → Wd → Option (Int × Wd)} (hk4 : ∀ {a0 a1 a2 : Int} {w : Wd}, RKP b w → PC (k4 a0 a1 a2 w) (fun _ u => RKP b u)) : ∀ (n : Nat) {v1 v2 v3 v4 v5 : Int} {w : Wd}, RKP b w → PC (f_R_depthUnder_18 k4 n v1 v2 v3 v4 v5 w) (fun _ u => RKP b u) := by
  intro n
  induction n with
  | zero => intros; exact pc_none
  | succ n ih =>
    intro v1 v2 v3 v4 v5 w h
    rw [f_R_depthUnder_18]
    refine pc_ite (fun _ => ?_) (fun _ => ?_)
    · exact (kr_R_depthUnder_45 hk4 h)
    · refine pc_ite (fun _ => ?_) (fun _ => ?_)
      · exact (kr_R_depthUnder_45 hk4 h)
      · refine pc_gd (fun _ => ?_)
        refine pc_let (fun x3 _ => ?_)
        refine pc_let (fun x4 _ => ?_)
        exact ih h
theorem kr_R_depthUnder_4 {b : Wd} : ∀ (n : Nat) {v1 v2 v3 : Int} {w : Wd}, RKP b w → PC (f_R_depthUnder_4 n v1 v2 v3 w) (fun _ u => RKP b u) := by
  intro n
  induction n with
  | zero => intros; exact pc_none
  | succ n ih =>
    intro v1 v2 v3 w h
    rw [f_R_depthUnder_4]
    refine pc_ite (fun _ => ?_) (fun _ => ?_)
    · exact pc_some h
    · exact (kr_R_depthUnder_18 (fun h => ih h) _ h)
theorem kr_R_depthUnder {b : Wd} {v1 : Int} {w : Wd} (h : RKP b w) : PC (f_R_depthUnder v1 w) (fun _ u => RKP b u) := by
  unfold f_R_depthUnder
  exact (kr_R_depthUnder_4 _ h)
theorem kr_R_ledBy_66 {b : Wd} {k4 : Int → Int → Int → Wd → Option (Int × Wd)} {k14 : Int → Int → Int → Int → Wd → Option (Int × Wd)} (hk4 : ∀ {a0 a1 a2 : Int} {w : Wd}, RKP b w → PC (k4 a0 a1 a2 w) (fun _ u => RKP b u)) (hk14 : ∀ {a0 a1 a2 a3 : Int} {w : Wd}, RKP b w → PC (k14 a0 a1 a2 a3 w) (fun _ u => RKP b u)) {v1 v2 v3 v4 : Int} {w : Wd} (h : RKP b w) : PC (f_R_ledBy_66 k4 k14 v1 v2 v3 v4 w) (fun _ u => RKP b u) := by
  unfold f_R_ledBy_66
  refine pc_let (fun x1 _ => ?_)
  exact hk14 h
theorem kr_R_ledBy_59 {b : Wd} {k4 : Int → Int → Int → Wd → Option (Int × Wd)} {k14 : Int → Int → Int → Int → Wd → Option (Int × Wd)} (hk4 : ∀ {a0 a1 a2 : Int} {w : Wd}, RKP b w → PC (k4 a0 a1 a2 w) (fun _ u => RKP b u)) (hk14 : ∀ {a0 a1 a2 a3 : Int} {w : Wd}, RKP b w → PC (k14 a0 a1 a2 a3 w) (fun _ u => RKP b u)) {v1 v2 v3 v4 : Int} {w : Wd} (h : RKP b w) : PC (f_R_ledBy_59 k4 k14 v1 v2 v3 v4 w) (fun _ u => RKP b u) := by
  unfold f_R_ledBy_59
  refine pc_let (fun x2 _ => ?_)
  exact (kr_R_ledBy_66 hk4 hk14 h)
theorem kr_R_ledBy_14 {b : Wd} {k4 : Int → Int → Int → Wd → Option (Int × Wd)} (hk4 : ∀ {a0 a1 a2 : Int} {w : Wd}, RKP b w → PC (k4 a0 a1 a2 w) (fun _ u => RKP b u)) : ∀ (n : Nat) {v1 v2 v3 v4 : Int} {w : Wd}, RKP b w → PC (f_R_ledBy_14 k4 n v1 v2 v3 v4 w) (fun _ u => RKP b u) := by
  intro n
  induction n with
  | zero => intros; exact pc_none
  | succ n ih =>
    intro v1 v2 v3 v4 w h
    rw [f_R_ledBy_14]
    refine pc_ite (fun _ => ?_) (fun _ => ?_)
    · exact hk4 h
    · refine pc_gd (fun _ => ?_)
      refine pc_ite (fun _ => ?_) (fun _ => ?_)
      · exact (kr_R_ledBy_66 hk4 (fun h => ih h) h)
      · refine pc_gd (fun _ => ?_)
        refine pc_ite (fun _ => ?_) (fun _ => ?_)
        · exact (kr_R_ledBy_59 hk4 (fun h => ih h) h)
        · refine pc_gd (fun _ => ?_)
          refine pc_call (kr_R_has h) (fun r3 u4 h => ?_)
          refine pc_ite (fun _ => ?_) (fun _ => ?_)
          · exact (kr_R_ledBy_66 hk4 (fun h => ih h) h)
          · exact (kr_R_ledBy_59 hk4 (fun h => ih h) h)
theorem kr_R_ledBy_4 {b : Wd} : ∀ (n : Nat) {v1 v2 v3 : Int} {w : Wd}, RKP b w → PC (f_R_ledBy_4 n v1 v2 v3 w) (fun _ u => RKP b u) := by
  intro n
  induction n with
  | zero => intros; exact pc_none
  | succ n ih =>
    intro v1 v2 v3 w h
    rw [f_R_ledBy_4]
    refine pc_ite (fun _ => ?_) (fun _ => ?_)
    · exact pc_some h
    · exact (kr_R_ledBy_14 (fun h => ih h) _ h)
theorem kr_R_ledBy {b : Wd} {v1 : Int} {w : Wd} (h : RKP b w) : PC (f_R_ledBy v1 w) (fun _ u => RKP b u) := by
  unfold f_R_ledBy
  exact (kr_R_ledBy_4 _ h)
theorem kr_JI_bitCount {b : Wd} {v0 : Int} {w : Wd} (h : RKP b w) : PC (f_JI_bitCount v0 w) (fun _ u => RKP b u) := by
  unfold f_JI_bitCount
  refine pc_let (fun x1 _ => ?_)
  refine pc_let (fun x2 _ => ?_)
  refine pc_let (fun x3 _ => ?_)
  refine pc_let (fun x4 _ => ?_)
  refine pc_let (fun x5 _ => ?_)
  exact pc_some h
theorem kr_R_findNext_30 {b : Wd} : ∀ (n : Nat) {v1 : Int} {w : Wd}, RKP b w → PC (f_R_findNext_30 n v1 w) (fun _ u => RKP b u) := by
  intro n
  induction n with
  | zero => intros; exact pc_none
  | succ n ih =>
    intro v1 w h
    rw [f_R_findNext_30]
    refine pc_gd (fun _ => ?_)
    refine pc_ite (fun _ => ?_) (fun _ => ?_)
    · exact pc_some h
    · refine pc_gd (fun _ => ?_)
      refine pc_gd (fun _ => ?_)
      refine pc_lw (fun u2 e => ?_)
      replace h := kr_st h e (Or.inl (by decide))
      refine pc_let (fun x3 _ => ?_)
      exact ih h
theorem kr_R_findNext_2 {b : Wd} : ∀ (n : Nat) {v1 : Int} {w : Wd}, RKP b w → PC (f_R_findNext_2 n v1 w) (fun _ u => RKP b u) := by
  intro n
  induction n with
  | zero => intros; exact pc_none
  | succ n ih =>
    intro v1 w h
    rw [f_R_findNext_2]
    refine pc_ite (fun _ => ?_) (fun _ => ?_)
    · refine pc_gd (fun _ => ?_)
      refine pc_let (fun x1 _ => ?_)
      exact (kr_R_findNext_30 _ h)
    · refine pc_gd (fun _ => ?_)
      refine pc_lw (fun u4 e => ?_)
      replace h := kr_st h e (Or.inl (by decide))
      refine pc_let (fun x5 _ => ?_)
      exact ih h
theorem kr_R_findNext {b : Wd} {w : Wd} (h : RKP b w) : PC (f_R_findNext w) (fun _ u => RKP b u) := by
  unfold f_R_findNext
  exact (kr_R_findNext_2 _ h)
theorem kr_R_isNext {b : Wd} {v1 : Int} {w : Wd} (h : RKP b w) : PC (f_R_isNext v1 w) (fun _ u => RKP b u) := by
  unfold f_R_isNext
  refine pc_gd (fun _ => ?_)
  refine pc_let (fun x1 _ => ?_)
  exact pc_ite (fun _ => pc_some h) (fun _ => pc_none)
theorem kr_R_findPairs_138 {b : Wd} {k10 : Int → Int → Wd → Option (Int × Wd)} {k16 : Int → Int → Int → Wd → Option (Int × Wd)} (hk10 : ∀ {a0 a1 : Int} {w : Wd}, RKP b w → PC (k10 a0 a1 w) (fun _ u => RKP b u)) (hk16 : ∀ {a0 a1 a2 : Int} {w : Wd}, RKP b w → PC (k16 a0 a1 a2 w) (fun _ u => RKP b u)) {v1 v2 v3 v4 : Int} {w : Wd} (h : RKP b w) : PC (f_R_findPairs_138 k10 k16 v1 v2 v3 v4 w) (fun _ u => RKP b u) := by
  unfold f_R_findPairs_138
  refine pc_gd (fun _ => ?_)
  refine pc_lw (fun u5 e => ?_)
  replace h := kr_st h e (Or.inl (by decide))
  refine pc_let (fun x6 _ => ?_)
  exact hk16 h
theorem kr_R_findPairs_132 {b : Wd} {k10 : Int → Int → Wd → Option (Int × Wd)} {k16 : Int → Int → Int → Wd → Option (Int × Wd)} {k76 : Int → Int → Int → Int → Int → Wd → Option (Int × Wd)} (hk10 : ∀ {a0 a1 : Int} {w : Wd}, RKP b w → PC (k10 a0 a1 w) (fun _ u => RKP b u)) (hk16 : ∀ {a0 a1 a2 : Int} {w : Wd}, RKP b w → PC (k16 a0 a1 a2 w) (fun _ u => RKP b u)) (hk76 : ∀ {a0 a1 a2 a3 a4 : Int} {w : Wd}, RKP b w → PC (k76 a0 a1 a2 a3 a4 w) (fun _ u => RKP b u)) {v1 v2 v3 v4 v5 : Int} {w : Wd} (h : RKP b w) : PC (f_R_findPairs_132 k10 k16 k76 v1 v2 v3 v4 v5 w) (fun _ u => RKP b u) := by
  unfold f_R_findPairs_132
  refine pc_let (fun x11 _ => ?_)
  exact hk76 h
theorem kr_R_findPairs_76 {b : Wd} {k10 : Int → Int → Wd → Option (Int × Wd)} {k16 : Int → Int → Int → Wd → Option (Int × Wd)} (hk10 : ∀ {a0 a1 : Int} {w : Wd}, RKP b w → PC (k10 a0 a1 w) (fun _ u => RKP b u)) (hk16 : ∀ {a0 a1 a2 : Int} {w : Wd}, RKP b w → PC (k16 a0 a1 a2 w) (fun _ u => RKP b u)) : ∀ (n : Nat) {v1 v2 v3 v4 v5 : Int} {w : Wd}, RKP b w → PC (f_R_findPairs_76 k10 k16 n v1 v2 v3 v4 v5 w) (fun _ u => RKP b u) := by
  intro n
  induction n with
  | zero => intros; exact pc_none
  | succ n ih =>
    intro v1 v2 v3 v4 v5 w h
    rw [f_R_findPairs_76]
    refine pc_ite (fun _ => ?_) (fun _ => ?_)
    · exact (kr_R_findPairs_138 hk10 hk16 h)
    · refine pc_gd (fun _ => ?_)
      refine pc_call (kr_R_has h) (fun r9 u10 h => ?_)
      refine pc_ite (fun _ => ?_) (fun _ => ?_)
      · exact (kr_R_findPairs_132 hk10 hk16 (fun h => ih h) h)
      · refine pc_gd (fun _ => ?_)
        refine pc_let (fun x12 _ => ?_)
        exact (kr_R_findPairs_132 hk10 hk16 (fun h => ih h) h)
theorem kr_R_findPairs_51 {b : Wd} {k10 : Int → Int → Wd → Option (Int × Wd)} {k16 : Int → Int → Int → Wd → Option (Int × Wd)} (hk10 : ∀ {a0 a1 : Int} {w : Wd}, RKP b w → PC (k10 a0 a1 w) (fun _ u => RKP b u)) (hk16 : ∀ {a0 a1 a2 : Int} {w : Wd}, RKP b w → PC (k16 a0 a1 a2 w) (fun _ u => RKP b u)) {v1 v2 v3 s0 : Int} {w : Wd} (h : RKP b w) : PC (f_R_findPairs_51 k10 k16 v1 v2 v3 s0 w) (fun _ u => RKP b u) := by
  unfold f_R_findPairs_51
  refine pc_ite (fun _ => ?_) (fun _ => ?_)
  · exact (kr_R_findPairs_138 hk10 hk16 h)
  · refine pc_gd (fun _ => ?_)
    refine pc_call (kr_R_isGuest h) (fun r7 u8 h => ?_)
    refine pc_ite (fun _ => ?_) (fun _ => ?_)
    · exact (kr_R_findPairs_138 hk10 hk16 h)
    · exact (kr_R_findPairs_76 hk10 hk16 _ h)
theorem kr_R_findPairs_16 {b : Wd} {k10 : Int → Int → Wd → Option (Int × Wd)} (hk10 : ∀ {a0 a1 : Int} {w : Wd}, RKP b w → PC (k10 a0 a1 w) (fun _ u => RKP b u)) : ∀ (n : Nat) {v1 v2 v3 : Int} {w : Wd}, RKP b w → PC (f_R_findPairs_16 k10 n v1 v2 v3 w) (fun _ u => RKP b u) := by
  intro n
  induction n with
  | zero => intros; exact pc_none
  | succ n ih =>
    intro v1 v2 v3 w h
    rw [f_R_findPairs_16]
    refine pc_ite (fun _ => ?_) (fun _ => ?_)
    · refine pc_let (fun x4 _ => ?_)
      exact hk10 h
    · refine pc_ite (fun _ => ?_) (fun _ => ?_)
      · exact (kr_R_findPairs_51 hk10 (fun h => ih h) h)
      · refine pc_gd (fun _ => ?_)
        exact (kr_R_findPairs_51 hk10 (fun h => ih h) h)
theorem kr_R_findPairs_10 {b : Wd} : ∀ (n : Nat) {v1 v2 : Int} {w : Wd}, RKP b w → PC (f_R_findPairs_10 n v1 v2 w) (fun _ u => RKP b u) := by
  intro n
  induction n with
  | zero => intros; exact pc_none
  | succ n ih =>
    intro v1 v2 w h
    rw [f_R_findPairs_10]
    refine pc_ite (fun _ => ?_) (fun _ => ?_)
    · exact pc_some h
    · exact (kr_R_findPairs_16 (fun h => ih h) _ h)
theorem kr_R_findPairs {b : Wd} {w : Wd} (h : RKP b w) : PC (f_R_findPairs w) (fun _ u => RKP b u) := by
  unfold f_R_findPairs
  refine pc_call (kr_R_free h) (fun r1 u2 h => ?_)
  refine pc_let (fun x3 _ => ?_)
  exact (kr_R_findPairs_10 _ h)
theorem kr_R_far_70 {b : Wd} {k45 : Int → Int → Int → Wd → Option (Int × Wd)} {Q : Int → Wd → Prop} (hk45 : ∀ {a0 a1 a2 : Int} {w : Wd}, RKP b w → PC (k45 a0 a1 a2 w) Q) {v1 v2 v3 s1 s2 : Int} {w : Wd} (h : RKP b w) : PC (f_R_far_70 k45 v1 v2 v3 s1 s2 w) Q := by
  unfold f_R_far_70
  refine pc_gd (fun _ => ?_)
  refine pc_lw (fun u43 e => ?_)
  replace h := kr_st h e (Or.inl (by decide))
  refine pc_let (fun x44 _ => ?_)
  exact hk45 h
theorem kr_R_far_198 {b : Wd} {k79 : Int → Int → Wd → Option (Int × Wd)} {k90 : Int → Int → Int → Wd → Option (Int × Wd)} {k129 : Int → Int → Int → Int → Wd → Option (Int × Wd)} {Q : Int → Wd → Prop} (hk79 : ∀ {a0 a1 : Int} {w : Wd}, RKP b w → PC (k79 a0 a1 w) Q) (hk90 : ∀ {a0 a1 a2 : Int} {w : Wd}, RKP b w → PC (k90 a0 a1 a2 w) Q) (hk129 : ∀ {a0 a1 a2 a3 : Int} {w : Wd}, RKP b w → PC (k129 a0 a1 a2 a3 w) Q) {v2 v3 v4 v5 : Int} {w : Wd} (h : RKP b w) : PC (f_R_far_198 k79 k90 k129 v2 v3 v4 v5 w) Q := by
  unfold f_R_far_198
  refine pc_let (fun x37 _ => ?_)
  exact hk129 h
theorem kr_R_far_188 {b : Wd} {k79 : Int → Int → Wd → Option (Int × Wd)} {k90 : Int → Int → Int → Wd → Option (Int × Wd)} {k129 : Int → Int → Int → Int → Wd → Option (Int × Wd)} {Q : Int → Wd → Prop} (hk79 : ∀ {a0 a1 : Int} {w : Wd}, RKP b w → PC (k79 a0 a1 w) Q) (hk90 : ∀ {a0 a1 a2 : Int} {w : Wd}, RKP b w → PC (k90 a0 a1 a2 w) Q) (hk129 : ∀ {a0 a1 a2 a3 : Int} {w : Wd}, RKP b w → PC (k129 a0 a1 a2 a3 w) Q) {v2 v3 v4 v5 : Int} {w : Wd} (h : RKP b w) : PC (f_R_far_188 k79 k90 k129 v2 v3 v4 v5 w) Q := by
  unfold f_R_far_188
  refine pc_gd (fun _ => ?_)
  refine pc_lw (fun u40 e => ?_)
  replace h := kr_st h e (Or.inl (by decide))
  exact (kr_R_far_198 hk79 hk90 hk129 h)
theorem kr_R_far_204 {b : Wd} {k79 : Int → Int → Wd → Option (Int × Wd)} {k90 : Int → Int → Int → Wd → Option (Int × Wd)} {Q : Int → Wd → Prop} (hk79 : ∀ {a0 a1 : Int} {w : Wd}, RKP b w → PC (k79 a0 a1 w) Q) (hk90 : ∀ {a0 a1 a2 : Int} {w : Wd}, RKP b w → PC (k90 a0 a1 a2 w) Q) {v2 v3 v4 : Int} {w : Wd} (h : RKP b w) : PC (f_R_far_204 k79 k90 v2 v3 v4 w) Q := by
  unfold f_R_far_204
  refine pc_let (fun x32 _ => ?_)
  exact hk90 h
theorem kr_R_far_129 {b : Wd} {k79 : Int → Int → Wd → Option (Int × Wd)} {k90 : Int → Int → Int → Wd → Option (Int × Wd)} {Q : Int → Wd → Prop} (hk79 : ∀ {a0 a1 : Int} {w : Wd}, RKP b w → PC (k79 a0 a1 w) Q) (hk90 : ∀ {a0 a1 a2 : Int} {w : Wd}, RKP b w → PC (k90 a0 a1 a2 w) Q) : ∀ (n : Nat) {v2 v3 v4 v5 : Int} {w : Wd}, RKP b w → PC (f_R_far_129 k79 k90 n v2 v3 v4 v5 w) Q := by
  intro n
  induction n with
  | zero => intros; exact pc_none
  | succ n ih =>
    intro v2 v3 v4 v5 w h
    rw [f_R_far_129]
    refine pc_ite (fun _ => ?_) (fun _ => ?_)
    · exact (kr_R_far_204 hk79 hk90 h)
    · refine pc_gd (fun _ => ?_)
      refine pc_call (kr_R_has h) (fun r35 u36 h => ?_)
      refine pc_ite (fun _ => ?_) (fun _ => ?_)
      · exact (kr_R_far_198 hk79 hk90 (fun h => ih h) h)
      · refine pc_gd (fun _ => ?_)
        refine pc_ite (fun _ => ?_) (fun _ => ?_)
        · refine pc_call (kr_R_has h) (fun r38 u39 h => ?_)
          refine pc_ite (fun _ => ?_) (fun _ => ?_)
          · refine pc_gd (fun _ => ?_)
            refine pc_call (kr_R_isGuest h) (fun r41 u42 h => ?_)
            refine pc_ite (fun _ => ?_) (fun _ => ?_)
            · exact (kr_R_far_198 hk79 hk90 (fun h => ih h) h)
            · exact (kr_R_far_188 hk79 hk90 (fun h => ih h) h)
          · exact (kr_R_far_188 hk79 hk90 (fun h => ih h) h)
        · exact (kr_R_far_198 hk79 hk90 (fun h => ih h) h)
theorem kr_R_far_90 {b : Wd} {k79 : Int → Int → Wd → Option (Int × Wd)} {Q : Int → Wd → Prop} (hk79 : ∀ {a0 a1 : Int} {w : Wd}, RKP b w → PC (k79 a0 a1 w) Q) : ∀ (n : Nat) {v2 v3 v4 : Int} {w : Wd}, RKP b w → PC (f_R_far_90 k79 n v2 v3 v4 w) Q := by
  intro n
  induction n with
  | zero => intros; exact pc_none
  | succ n ih =>
    intro v2 v3 v4 w h
    rw [f_R_far_90]
    refine pc_ite (fun _ => ?_) (fun _ => ?_)
    · refine pc_let (fun x31 _ => ?_)
      exact hk79 h
    · refine pc_gd (fun _ => ?_)
      refine pc_ite (fun _ => ?_) (fun _ => ?_)
      · refine pc_gd (fun _ => ?_)
        refine pc_call (kr_R_isGuest h) (fun r33 u34 h => ?_)
        refine pc_ite (fun _ => ?_) (fun _ => ?_)
        · exact (kr_R_far_129 hk79 (fun h => ih h) _ h)
        · exact (kr_R_far_204 hk79 (fun h => ih h) h)
      · exact (kr_R_far_204 hk79 (fun h => ih h) h)
theorem kr_R_far_257 {b : Wd} {k223 : Int → Int → Int → Wd → Option (Int × Wd)} {Q : Int → Wd → Prop} (hk223 : ∀ {a0 a1 a2 : Int} {w : Wd}, RKP b w → PC (k223 a0 a1 a2 w) Q) {v2 v3 v4 : Int} {w : Wd} (h : RKP b w) : PC (f_R_far_257 k223 v2 v3 v4 w) Q := by
  unfold f_R_far_257
  refine pc_let (fun x29 _ => ?_)
  exact hk223 h
theorem kr_R_far_327 {b : Wd} {k284 : Int → Int → Int → Int → Wd → Option (Int × Wd)} {Q : Int → Wd → Prop} (hk284 : ∀ {a0 a1 a2 a3 : Int} {w : Wd}, RKP b w → PC (k284 a0 a1 a2 a3 w) Q) {v2 v3 v5 s0 s1 : Int} {w : Wd} (h : RKP b w) : PC (f_R_far_327 k284 v2 v3 v5 s0 s1 w) Q := by
  unfold f_R_far_327
  refine pc_let (fun x25 _ => ?_)
  refine pc_let (fun x26 _ => ?_)
  exact hk284 h
theorem kr_R_far_326 {b : Wd} {k284 : Int → Int → Int → Int → Wd → Option (Int × Wd)} {Q : Int → Wd → Prop} (hk284 : ∀ {a0 a1 a2 a3 : Int} {w : Wd}, RKP b w → PC (k284 a0 a1 a2 a3 w) Q) {v2 v3 v5 s0 : Int} {w : Wd} (h : RKP b w) : PC (f_R_far_326 k284 v2 v3 v5 s0 w) Q := by
  unfold f_R_far_326
  exact (kr_R_far_327 hk284 h)
theorem kr_R_far_384 {b : Wd} {k341 : Int → Int → Int → Int → Wd → Option (Int × Wd)} {k352 : Int → Int → Int → Int → Int → Int → Wd → Option (Int × Wd)} {Q : Int → Wd → Prop} (hk341 : ∀ {a0 a1 a2 a3 : Int} {w : Wd}, RKP b w → PC (k341 a0 a1 a2 a3 w) Q) (hk352 : ∀ {a0 a1 a2 a3 a4 a5 : Int} {w : Wd}, RKP b w → PC (k352 a0 a1 a2 a3 a4 a5 w) Q) {v2 v3 v4 v5 v7 s0 s1 : Int} {w : Wd} (h : RKP b w) : PC (f_R_far_384 k341 k352 v2 v3 v4 v5 v7 s0 s1 w) Q := by
  unfold f_R_far_384
  refine pc_let (fun x21 _ => ?_)
  refine pc_let (fun x22 _ => ?_)
  exact hk352 h
theorem kr_R_far_427 {b : Wd} {k341 : Int → Int → Int → Int → Wd → Option (Int × Wd)} {k396 : Int → Int → Int → Int → Int → Wd → Option (Int × Wd)} {Q : Int → Wd → Prop} (hk341 : ∀ {a0 a1 a2 a3 : Int} {w : Wd}, RKP b w → PC (k341 a0 a1 a2 a3 w) Q) (hk396 : ∀ {a0 a1 a2 a3 a4 : Int} {w : Wd}, RKP b w → PC (k396 a0 a1 a2 a3 a4 w) Q) {v2 v3 v5 v6 v7 : Int} {w : Wd} (h : RKP b w) : PC (f_R_far_427 k341 k396 v2 v3 v5 v6 v7 w) Q := by
  unfold f_R_far_427
  refine pc_let (fun x12 _ => ?_)
  exact hk396 h
theorem kr_R_cheap_163 {b : Wd} {k40 : Int → Int → Wd → Option (Int × Wd)} {k58 : Int → Int → Int → Int → Wd → Option (Int × Wd)} {Q : Int → Wd → Prop} (hk40 : ∀ {a0 a1 : Int} {w : Wd}, RKP b w → PC (k40 a0 a1 w) Q) (hk58 : ∀ {a0 a1 a2 a3 : Int} {w : Wd}, RKP b w → PC (k58 a0 a1 a2 a3 w) Q) {v1 v2 v3 v4 v5 : Int} {w : Wd} (h : RKP b w) : PC (f_R_cheap_163 k40 k58 v1 v2 v3 v4 v5 w) Q := by
  unfold f_R_cheap_163
  refine pc_gd (fun _ => ?_)
  refine pc_lw (fun u24 e => ?_)
  replace h := kr_st h e (Or.inl (by decide))
  refine pc_let (fun x25 _ => ?_)
  exact hk58 h
theorem kr_R_cheap_99 {b : Wd} {k40 : Int → Int → Wd → Option (Int × Wd)} {k58 : Int → Int → Int → Int → Wd → Option (Int × Wd)} {Q : Int → Wd → Prop} (hk40 : ∀ {a0 a1 : Int} {w : Wd}, RKP b w → PC (k40 a0 a1 w) Q) (hk58 : ∀ {a0 a1 a2 a3 : Int} {w : Wd}, RKP b w → PC (k58 a0 a1 a2 a3 w) Q) : ∀ (n : Nat) {v1 v2 v3 v4 v5 v6 : Int} {w : Wd}, RKP b w → PC (f_R_cheap_99 k40 k58 n v1 v2 v3 v4 v5 v6 w) Q := by
  intro n
  induction n with
  | zero => intros; exact pc_none
  | succ n ih =>
    intro v1 v2 v3 v4 v5 v6 w h
    rw [f_R_cheap_99]
    refine pc_gd (fun _ => ?_)
    refine pc_ite (fun _ => ?_) (fun _ => ?_)
    · exact (kr_R_cheap_163 hk40 hk58 h)
    · refine pc_ite (fun _ => ?_) (fun _ => ?_)
      · exact (kr_R_cheap_163 hk40 hk58 h)
      · refine pc_gd (fun _ => ?_)
        refine pc_gd (fun _ => ?_)
        refine pc_gd (fun _ => ?_)
        refine pc_call (kr_R_costOf h) (fun r27 u28 h => ?_)
        refine pc_let (fun x29 _ => ?_)
        refine pc_let (fun x30 _ => ?_)
        exact ih h
theorem kr_R_cheap_89 {b : Wd} {k40 : Int → Int → Wd → Option (Int × Wd)} {k58 : Int → Int → Int → Int → Wd → Option (Int × Wd)} {Q : Int → Wd → Prop} (hk40 : ∀ {a0 a1 : Int} {w : Wd}, RKP b w → PC (k40 a0 a1 w) Q) (hk58 : ∀ {a0 a1 a2 a3 : Int} {w : Wd}, RKP b w → PC (k58 a0 a1 a2 a3 w) Q) {v1 v2 v3 v4 s0 : Int} {w : Wd} (h : RKP b w) : PC (f_R_cheap_89 k40 k58 v1 v2 v3 v4 s0 w) Q := by
  unfold f_R_cheap_89
  refine pc_gd (fun _ => ?_)
  refine pc_let (fun x26 _ => ?_)
  exact (kr_R_cheap_99 hk40 hk58 _ h)
theorem kr_R_cheap_58 {b : Wd} {k40 : Int → Int → Wd → Option (Int × Wd)} {Q : Int → Wd → Prop} (hk40 : ∀ {a0 a1 : Int} {w : Wd}, RKP b w → PC (k40 a0 a1 w) Q) : ∀ (n : Nat) {v1 v2 v3 v4 : Int} {w : Wd}, RKP b w → PC (f_R_cheap_58 k40 n v1 v2 v3 v4 w) Q := by
  intro n
  induction n with
  | zero => intros; exact pc_none
  | succ n ih =>
    intro v1 v2 v3 v4 w h
    rw [f_R_cheap_58]
    refine pc_ite (fun _ => ?_) (fun _ => ?_)
    · refine pc_let (fun x21 _ => ?_)
      exact hk40 h
    · refine pc_call (kr_R_guestsIn h) (fun r22 u23 h => ?_)
      refine pc_ite (fun _ => ?_) (fun _ => ?_)
      · exact (kr_R_cheap_163 hk40 (fun h => ih h) h)
      · refine pc_ite (fun _ => ?_) (fun _ => ?_)
        · exact (kr_R_cheap_89 hk40 (fun h => ih h) h)
        · exact (kr_R_cheap_89 hk40 (fun h => ih h) h)
theorem kr_R_cheap_279 {b : Wd} {k229 : Int → Int → Int → Wd → Option (Int × Wd)} {Q : Int → Wd → Prop} (hk229 : ∀ {a0 a1 a2 : Int} {w : Wd}, RKP b w → PC (k229 a0 a1 a2 w) Q) {v1 v2 v3 s1 s2 : Int} {w : Wd} (h : RKP b w) : PC (f_R_cheap_279 k229 v1 v2 v3 s1 s2 w) Q := by
  unfold f_R_cheap_279
  refine pc_gd (fun _ => ?_)
  refine pc_lw (fun u16 e => ?_)
  replace h := kr_st h e (Or.inl (by decide))
  refine pc_let (fun x17 _ => ?_)
  exact hk229 h
theorem kr_R_cheap_278 {b : Wd} {k229 : Int → Int → Int → Wd → Option (Int × Wd)} {Q : Int → Wd → Prop} (hk229 : ∀ {a0 a1 a2 : Int} {w : Wd}, RKP b w → PC (k229 a0 a1 a2 w) Q) {v1 v2 v3 s1 : Int} {w : Wd} (h : RKP b w) : PC (f_R_cheap_278 k229 v1 v2 v3 s1 w) Q := by
  unfold f_R_cheap_278
  exact (kr_R_cheap_279 hk229 h)
theorem kr_R_begin2_86 {b : Wd} {k43 : Int → Wd → Option (Int × Wd)} {Q : Int → Wd → Prop} (hk43 : ∀ {a0 : Int} {w : Wd}, RKP b w → PC (k43 a0 w) Q) {v1 s1 s2 : Int} {w : Wd} (h : RKP b w) : PC (f_R_begin2_86 k43 v1 s1 s2 w) Q := by
  unfold f_R_begin2_86
  refine pc_gd (fun _ => ?_)
  refine pc_lw (fun u12 e => ?_)
  replace h := kr_st h e (Or.inl (by decide))
  refine pc_let (fun x13 _ => ?_)
  exact hk43 h
theorem kr_R_begin2_85 {b : Wd} {k43 : Int → Wd → Option (Int × Wd)} {Q : Int → Wd → Prop} (hk43 : ∀ {a0 : Int} {w : Wd}, RKP b w → PC (k43 a0 w) Q) {v1 s1 : Int} {w : Wd} (h : RKP b w) : PC (f_R_begin2_85 k43 v1 s1 w) Q := by
  unfold f_R_begin2_85
  exact (kr_R_begin2_86 hk43 h)
theorem kr_R_stays_99 {b : Wd} {k61 : Int → Int → Int → Wd → Option (Int × Wd)} {Q : Int → Wd → Prop} (hk61 : ∀ {a0 a1 a2 : Int} {w : Wd}, RKP b w → PC (k61 a0 a1 a2 w) Q) {v1 v2 v3 s1 s2 : Int} {w : Wd} (h : RKP b w) : PC (f_R_stays_99 k61 v1 v2 v3 s1 s2 w) Q := by
  unfold f_R_stays_99
  refine pc_gd (fun _ => ?_)
  refine pc_lw (fun u25 e => ?_)
  replace h := kr_st h e (Or.inl (by decide))
  refine pc_let (fun x26 _ => ?_)
  exact hk61 h
theorem kr_R_pairs_142 {b : Wd} {k23 : Int → Int → Int → Wd → Option (Int × Wd)} {Q : Int → Wd → Prop} (hk23 : ∀ {a0 a1 a2 : Int} {w : Wd}, RKP b w → PC (k23 a0 a1 a2 w) Q) {v1 v2 v3 : Int} {w : Wd} (h : RKP b w) : PC (f_R_pairs_142 k23 v1 v2 v3 w) Q := by
  unfold f_R_pairs_142
  refine pc_let (fun x9 _ => ?_)
  exact hk23 h
theorem kr_R_pairs_136 {b : Wd} {k23 : Int → Int → Int → Wd → Option (Int × Wd)} {k49 : Int → Int → Int → Int → Wd → Option (Int × Wd)} {Q : Int → Wd → Prop} (hk23 : ∀ {a0 a1 a2 : Int} {w : Wd}, RKP b w → PC (k23 a0 a1 a2 w) Q) (hk49 : ∀ {a0 a1 a2 a3 : Int} {w : Wd}, RKP b w → PC (k49 a0 a1 a2 a3 w) Q) {v1 v2 v3 v4 : Int} {w : Wd} (h : RKP b w) : PC (f_R_pairs_136 k23 k49 v1 v2 v3 v4 w) Q := by
  unfold f_R_pairs_136
  refine pc_let (fun x12 _ => ?_)
  exact hk49 h
theorem kr_R_father_43 {b : Wd} {k11 : Int → Int → Int → Wd → Option (Int × Wd)} {Q : Int → Wd → Prop} (hk11 : ∀ {a0 a1 a2 : Int} {w : Wd}, RKP b w → PC (k11 a0 a1 a2 w) Q) {v1 v2 v3 : Int} {w : Wd} (h : RKP b w) : PC (f_R_father_43 k11 v1 v2 v3 w) Q := by
  unfold f_R_father_43
  refine pc_let (fun x9 _ => ?_)
  exact hk11 h
/-! THE ROW'S SIZE, the class -/
def SZK (N : Prop) (s k t : Int) : Prop := (N ∧ t = s) ∨ (¬ N ∧ t = k)
theorem szk_eq {N N' : Prop} {s k t t' : Int} (h : SZK N s k t) (h' : SZK N' s k t') (e : N ↔ N') : t = t' := by
  rcases h with ⟨a, b⟩ | ⟨a, b⟩
  · rcases h' with ⟨_, d⟩ | ⟨c, _⟩
    · omega
    · exact absurd (e.mp a) c
  · rcases h' with ⟨c, _⟩ | ⟨_, d⟩
    · exact absurd (e.mpr c) a
    · omega
/-- kept below 0, else a function of the answer -/
def SZR (f : Int → Int) (s r t : Int) : Prop := (r < 0 ∧ t = s) ∨ (0 ≤ r ∧ t = f r)
theorem szr_eq {f : Int → Int} {s r t t' : Int} (h : SZR f s r t) (h' : SZR f s r t') : t = t' := by
  rcases h with ⟨a, b⟩ | ⟨a, b⟩
  · rcases h' with ⟨_, d⟩ | ⟨c, _⟩ <;> omega
  · rcases h' with ⟨c, _⟩ | ⟨_, d⟩
    · omega
    · rw [b, d]
theorem pcTT (o : Option (Int × Wd)) : PC o (fun _ _ => True) := fun _ _ _ => trivial
theorem nput_3 {x : Int} {w : Wd} (h : 0 ≤ w 3 1 ∧ w 3 1 < 20) : PC (f_N_put x w) (fun _ u => u 3 1 = w 3 1 + 1 ∧ ∀ c, c ≠ 3 → c ≠ 4 → u c = w c) := by
  unfold f_N_put
  refine pc_ite (fun c => by omega) (fun _ => pc_gd (fun _ => pc_lw (fun u1 e1 => pc_lw (fun u2 e2 => pc_some ⟨?_, fun c a b => ?_⟩))))
  · have e : u1 3 1 = w 3 1 := by rw [e1, st_c (by decide)]
    rw [e2, st_eq, e, w32_id (by omega)]
  · rw [e2, st_row a, e1, st_row b]
theorem nclr_3 (w : Wd) : PC (f_N_clear w) (fun _ u => u 3 1 = 0 ∧ ∀ c, c ≠ 3 → u c = w c) := by
  unfold f_N_clear
  exact pc_lw (fun u1 e1 => pc_some ⟨by rw [e1, st_eq], fun c hc => by rw [e1, st_row hc]⟩)
theorem nt1_3 (x : Int) (w : Wd) : PC (f_N_tell1 x w) (fun _ u => u 3 1 = 1) := by
  unfold f_N_tell1
  refine pc_call (nclr_3 w) (fun r1 u2 q => ?_)
  refine pc_call (nput_3 (x := x) (w := u2) (by omega)) (fun r3 u4 z => pc_some ?_)
  have := z.1
  have := q.1
  omega
theorem nt2_3 (x y : Int) (w : Wd) : PC (f_N_tell2 x y w) (fun _ u => u 3 1 = 2) := by
  unfold f_N_tell2
  refine pc_call (nt1_3 x w) (fun r1 u2 q => ?_)
  refine pc_call (nput_3 (x := y) (w := u2) (by omega)) (fun r3 u4 z => pc_some ?_)
  have := z.1
  omega
theorem crun2 {a w : Wd} {P g se : Int} {h kn : Nat → Int} {x0 n : Int} (hp : PRM a w P g se h kn x0) (hs : SCR n w) (hn : n ≤ 2600) (hk : w 28 9 ≠ 0 → KPT P g se h kn x0 w) : PC (f_S_run w) (fun r u => (EKP w u ∧ RUN P g se h kn x0 w u) ∧ ((r = 1 ∧ SRC P g se h kn x0 u ∧ CLI P g se h kn x0 u ∧ ¬ MNY P g se h kn x0) ∨ (r = 0 ∧ MNY P g se h kn x0))) := by
  obtain ⟨hP, _, h0, _⟩ := id hp
  refine pc_w (crun hp hs hn hk) (fun r u q => ⟨⟨?_, q.1⟩, ?_⟩)
  · exact ⟨q.1.1 3 (by decide) (by decide) (by decide) (by decide) (by decide) (by decide) (by decide) (by decide) (by decide) (by decide) (by decide), (run_5 q.1).1⟩
  · rcases q.2 with ⟨e, s⟩ | ⟨e, m⟩
    · have cl := src_cli hP h0 s
      exact Or.inl ⟨e, s, cl, cli_mny hP h0 cl⟩
    · exact Or.inr ⟨e, m⟩
theorem se_run {a w : Wd} {P g se : Int} {h kn : Nat → Int} {x0 n k : Int} {K : Wd → Option (Int × Wd)} (hp : PRM a w P g se h kn x0) (hs : SCR n w) (hn : n ≤ 2600) (hk : w 28 9 ≠ 0 → KPT P g se h kn x0 w) (hK : ∀ u, PC (K u) (fun _ v => v 3 1 = k)) : PC (jcall (f_S_run w) fun r1 u2 => if r1 = 0 then some ((-3), u2) else K u2) (fun _ u => SZK (MNY P g se h kn x0) (w 3 1) k (u 3 1)) := by
  refine pc_call (crun2 hp hs hn hk) (fun r1 u q => ?_)
  rcases q.2 with ⟨e, _, _, m⟩ | ⟨e, m⟩
  · exact pc_ite (fun c => by omega) (fun _ => pc_w (hK u) (fun _ _ e => Or.inr ⟨m, e⟩))
  · exact pc_ite (fun _ => pc_some (Or.inl ⟨m, ke_1 q.1.1⟩)) (fun c => absurd e c)
theorem szk_or {N M : Prop} {s k t : Int} (hN : ¬ N) (h : SZK M s k t) : SZK (N ∨ M) s k t := by
  rcases h with ⟨a, b⟩ | ⟨a, b⟩
  · exact Or.inl ⟨Or.inr a, b⟩
  · exact Or.inr ⟨fun hh => hh.elim hN a, b⟩
theorem se_states {a w : Wd} {P g se : Int} {h kn : Nat → Int} {x0 n : Int} (hp : PRM a w P g se h kn x0) (hs : SCR n w) (hn : n ≤ 2600) (hk : w 28 9 ≠ 0 → KPT P g se h kn x0 w) : PC (f_E_states w) (fun _ u => SZK (MNY P g se h kn x0) (w 3 1) 2 (u 3 1)) := by
  unfold f_E_states
  refine se_run hp hs hn hk (fun u => ?_)
  have l25 : ∀ (n : Nat) {v1 v2 : Int} {u : Wd}, PC (f_E_states_25 n v1 v2 u) (fun _ v => v 3 1 = 2) := by
    intro n
    induction n with
    | zero => intros; exact pc_none
    | succ n ih =>
      intro v1 v2 u
      rw [f_E_states_25]
      unfold f_E_states_53
      exact pc_ite (fun _ => pc_call (pcTT _) (fun _ _ _ => pc_call (nt2_3 _ _ _) (fun _ _ q => pc_some q))) (fun _ => pc_call (pcTT _) (fun _ _ _ => pc_ite (fun _ => pc_let (fun _ _ => pc_let (fun _ _ => ih))) (fun _ => pc_let (fun _ _ => pc_let (fun _ _ => ih)))))
  exact l25 FU
theorem se_most {a w : Wd} {P g se : Int} {h kn : Nat → Int} {x0 n v1 : Int} (hp : PRM a w P g se h kn x0) (hs : SCR n w) (hn : n ≤ 2600) (hk : w 28 9 ≠ 0 → KPT P g se h kn x0 w) : PC (f_E_most v1 w) (fun _ u => SZK ((¬ (0 ≤ v1 ∧ v1 ≤ 60)) ∨ MNY P g se h kn x0) (w 3 1) 1 (u 3 1)) := by
  unfold f_E_most
  rw [isw_e, jc_s]
  by_cases hv : 0 ≤ v1 ∧ v1 ≤ 60
  · rw [if_pos hv]
    refine pc_ite (fun e => absurd e (by decide)) (fun _ => pc_w (se_run hp hs hn hk (fun u => ?_)) (fun _ _ q => szk_or (fun hh => hh hv) q))
    have l37 : ∀ (n : Nat) {v2 v3 v4 : Int} {u : Wd}, PC (f_E_most_37 n v1 v2 v3 v4 u) (fun _ v => v 3 1 = 1) := by
      intro n
      induction n with
      | zero => intros; exact pc_none
      | succ n ih =>
        intro v2 v3 v4 u
        rw [f_E_most_37]
        unfold f_E_most_82
        exact pc_ite (fun _ => pc_call (nt1_3 _ _) (fun _ _ q => pc_some q)) (fun _ => pc_call (pcTT _) (fun _ _ _ => pc_ite (fun _ => pc_let (fun _ _ => ih)) (fun _ => pc_call (pcTT _) (fun _ _ _ => pc_call (pcTT _) (fun _ _ _ => pc_let (fun _ _ => pc_let (fun _ _ => pc_let (fun _ _ => ih))))))))
    exact l37 FU
  · rw [if_neg hv]
    exact pc_ite (fun _ => pc_some (Or.inl ⟨Or.inl hv, rfl⟩)) (fun e => absurd rfl e)
theorem se_reach {a w : Wd} {P g se : Int} {h kn : Nat → Int} {x0 n v1 : Int} (hp : PRM a w P g se h kn x0) (hs : SCR n w) (hn : n ≤ 2600) (hk : w 28 9 ≠ 0 → KPT P g se h kn x0 w) : PC (f_E_reach v1 w) (fun _ u => SZK ((¬ (0 ≤ v1 ∧ v1 ≤ 60)) ∨ MNY P g se h kn x0) (w 3 1) 1 (u 3 1)) := by
  unfold f_E_reach
  rw [isw_e, jc_s]
  by_cases hv : 0 ≤ v1 ∧ v1 ≤ 60
  · rw [if_pos hv]
    refine pc_ite (fun e => absurd e (by decide)) (fun _ => pc_w (se_run hp hs hn hk (fun u => ?_)) (fun _ _ q => szk_or (fun hh => hh hv) q))
    have l39 : ∀ (n : Nat) {v2 v3 v4 : Int} {u : Wd}, PC (f_E_reach_39 n v1 v2 v3 v4 u) (fun _ v => v 3 1 = 1) := by
      intro n
      induction n with
      | zero => intros; exact pc_none
      | succ n ih =>
        intro v2 v3 v4 u
        rw [f_E_reach_39]
        unfold f_E_reach_100
        exact pc_ite (fun _ => pc_call (nt1_3 _ _) (fun _ _ q => pc_some q)) (fun _ => pc_call (pcTT _) (fun _ _ _ => pc_ite (fun _ => pc_let (fun _ _ => ih)) (fun _ => pc_call (pcTT _) (fun _ _ _ => pc_ite (fun _ => pc_let (fun _ _ => ih)) (fun _ => pc_call (pcTT _) (fun _ _ _ => pc_let (fun _ _ => pc_call (pcTT _) (fun _ _ _ => pc_let (fun _ _ => pc_let (fun _ _ => ih))))))))))
    exact l39 FU
  · rw [if_neg hv]
    exact pc_ite (fun _ => pc_some (Or.inl ⟨Or.inl hv, rfl⟩)) (fun e => absurd rfl e)
theorem se_crowd {a w : Wd} {P g se : Int} {h kn : Nat → Int} {x0 n : Int} (hp : PRM a w P g se h kn x0) (hs : SCR n w) (hn : n ≤ 2600) (hk : w 28 9 ≠ 0 → KPT P g se h kn x0 w) : PC (f_E_crowd w) (fun _ u => SZK (MNY P g se h kn x0) (w 3 1) 2 (u 3 1)) := by
  unfold f_E_crowd
  refine se_run hp hs hn hk (fun u => pc_call (pcTT _) (fun r3 u4 _ => ?_))
  have l92 : ∀ (n : Nat) {v4 v5 v6 : Int} {u : Wd}, PC (f_E_crowd_92 n r3 v4 v5 v6 u) (fun _ v => v 3 1 = 2) := by
    intro n
    induction n with
    | zero => intros; exact pc_none
    | succ n ih =>
      intro v4 v5 v6 u
      rw [f_E_crowd_92]
      unfold f_E_crowd_154
      exact pc_ite (fun _ => pc_call (nt2_3 _ _ _) (fun _ _ q => pc_some q)) (fun _ => pc_call (pcTT _) (fun _ _ _ => pc_call (pcTT _) (fun _ _ _ => pc_ite (fun _ => pc_call (pcTT _) (fun _ _ _ => pc_ite (fun _ => pc_let (fun _ _ => ih)) (fun _ => pc_call (pcTT _) (fun _ _ _ => pc_call (pcTT _) (fun _ _ _ => pc_let (fun _ _ => ih)))))) (fun _ => pc_let (fun _ _ => ih)))))
  have l34 : ∀ (n : Nat) {v2 v4 : Int} {u : Wd}, PC (f_E_crowd_34 n r3 v2 v4 u) (fun _ v => v 3 1 = 2) := by
    intro n
    induction n with
    | zero => intros; exact pc_none
    | succ n ih =>
      intro v2 v4 u
      rw [f_E_crowd_34]
      unfold f_E_crowd_74
      exact pc_ite (fun _ => pc_call (pcTT _) (fun _ _ _ => l92 FU)) (fun _ => pc_call (pcTT _) (fun _ _ _ => pc_call (pcTT _) (fun _ _ _ => pc_ite (fun _ => pc_call (pcTT _) (fun _ _ _ => pc_let (fun _ _ => pc_let (fun _ _ => ih)))) (fun _ => pc_let (fun _ _ => ih)))))
  exact l34 FU
theorem se_last {a w : Wd} {P g se : Int} {h kn : Nat → Int} {x0 n : Int} (hp : PRM a w P g se h kn x0) (hs : SCR n w) (hn : n ≤ 2600) (hk : w 28 9 ≠ 0 → KPT P g se h kn x0 w) : PC (f_E_last w) (fun _ u => SZK (MNY P g se h kn x0 ∨ ¬ sbg P x0) (w 3 1) 1 (u 3 1)) := by
  obtain ⟨hP, hg, h0, _⟩ := id hp
  unfold f_E_last
  refine pc_call (crun2 hp hs hn hk) (fun r1 u q => ?_)
  rcases q.2 with ⟨e, _, hc, m⟩ | ⟨e, m⟩
  · refine pc_ite (fun c => by omega) (fun _ => ?_)
    refine pc_call (clw_pc hc hP h0 b10_0 b10_0) (fun r3 u4 z => ?_)
    rw [z.1]
    have hl := lst_lwq hP hg h0 wkt_all z.2
    refine pc_ite (fun e => pc_some (Or.inl ⟨Or.inr ?_, ke_1 q.1.1⟩)) (fun e => ?_)
    · rcases hl with ⟨_, b⟩ | ⟨b, _⟩
      · exact b
      · omega
    · refine pc_call (pcTT _) (fun _ _ _ => pc_call (nt1_3 _ _) (fun _ _ q => pc_some (Or.inr ⟨fun hh => ?_, q⟩)))
      rcases hl with ⟨b, _⟩ | ⟨_, ⟨y, y1, y2⟩, _⟩
      · exact absurd b e
      · exact hh.elim m (fun hn => hn (sbg_back hP h0 y1 y2))
  · exact pc_ite (fun _ => pc_some (Or.inl ⟨Or.inl m, ke_1 q.1.1⟩)) (fun c => absurd e c)
theorem se_stays {a w : Wd} {P g se : Int} {h kn : Nat → Int} {x0 n v1 : Int} (hp : PRM a w P g se h kn x0) (hs : SCR n w) (hn : n ≤ 2600) (hk : w 28 9 ≠ 0 → KPT P g se h kn x0 w) : PC (f_E_stays v1 w) (fun _ u => SZK ((¬ (0 ≤ v1 ∧ v1 < P)) ∨ MNY P g se h kn x0 ∨ gs P (sof x0) v1.toNat = false) (w 3 1) 1 (u 3 1)) := by
  obtain ⟨hP, hg, h0, hw, _⟩ := id hp
  unfold f_E_stays
  refine pc_call (it_pc v1 w) (fun r1 u2 q => ?_)
  rw [q.1, q.2, hw.1]
  unfold hd
  by_cases ct : 0 ≤ v1 ∧ v1 < P
  · rw [if_pos ct]
    refine pc_ite (fun e => absurd e (by decide)) (fun _ => ?_)
    refine pc_call (crun2 hp hs hn hk) (fun r1 u q => ?_)
    rcases q.2 with ⟨e, _, hc, m⟩ | ⟨e, m⟩
    · refine pc_ite (fun c => by omega) (fun _ => ?_)
      obtain ⟨u5, u6, u7⟩ := run_5 q.1.2
      refine pc_call (eg_e (P := P) (s := sof x0) (by rw [u5, hw.2.2.2.2.1]; exact h0)) (fun r5 u6' z => ?_)
      rw [z.1, has_10 u z.2 (by omega), jc_s]
      cases hgx : gs P (sof x0) v1.toNat with
      | false => exact pc_ite (fun _ => pc_some (Or.inl ⟨Or.inr (Or.inr rfl), ke_1 q.1.1⟩)) (fun e => absurd rfl e)
      | true =>
        refine pc_ite (fun e => absurd e (by decide)) (fun _ => pc_call (pcTT _) (fun r9 u10 _ => ?_))
        have fin : ∀ {v3 : Int} {v : Wd}, PC (f_E_stays_95 r9 v3 v) (fun _ u => SZK ((¬ (0 ≤ v1 ∧ v1 < P)) ∨ MNY P g se h kn x0 ∨ true = false) (w 3 1) 1 (u 3 1)) := fun {v3 v} => by
          unfold f_E_stays_95
          exact pc_call (nt1_3 _ _) (fun _ _ q => pc_some (Or.inr ⟨fun hh => hh.elim (fun hx => hx ct) (fun hx => hx.elim m (fun hy => by cases hy)), q⟩))
        exact pc_ite (fun _ => fin) (fun _ => pc_call (pcTT _) (fun _ _ _ => pc_call (pcTT _) (fun _ _ _ => fin)))
    · exact pc_ite (fun _ => pc_some (Or.inl ⟨Or.inr (Or.inl m), ke_1 q.1.1⟩)) (fun c => absurd e c)
  · rw [if_neg ct]
    exact pc_ite (fun _ => pc_some (Or.inl ⟨Or.inl ct, rfl⟩)) (fun e => absurd rfl e)
theorem se_begin {a w : Wd} {P g se : Int} {h kn : Nat → Int} {x0 n : Int} (hp : PRM a w P g se h kn x0) (hs : SCR n w) (hn : n ≤ 2600) (hk : w 28 9 ≠ 0 → KPT P g se h kn x0 w) : PC (f_E_begin w) (fun r u => SZK (MNY P g se h kn x0 ∨ ∃ L, LWQ P g se h kn x0 L ∧ L ≤ 0) (w 3 1) r (u 3 1)) := by
  obtain ⟨hP, hg, h0, _⟩ := id hp
  unfold f_E_begin
  refine pc_call (crun2 hp hs hn hk) (fun r1 u q => ?_)
  rcases q.2 with ⟨e, _, hc, m⟩ | ⟨e, m⟩
  · refine pc_ite (fun c => by omega) (fun _ => ?_)
    refine pc_call (clw_pc hc hP h0 b10_0 b10_0) (fun r3 u4 z => ?_)
    rw [z.1]
    have hl := lst_lwq hP hg h0 wkt_all z.2
    refine pc_ite (fun c => pc_call (pcTT _) (fun _ _ _ => pc_call (pcTT _) (fun _ _ _ => pc_some (Or.inr ⟨fun hh => hh.elim m (fun ⟨L, l1, l2⟩ => ?_), rfl⟩)))) (fun c => pc_some (Or.inl ⟨Or.inr ⟨r3, hl, by omega⟩, ke_1 q.1.1⟩))
    have := lwq_one hP h0 l1 hl
    omega
  · exact pc_ite (fun _ => pc_some (Or.inl ⟨Or.inl m, ke_1 q.1.1⟩)) (fun c => absurd e c)
theorem se_can {w : Wd} : PC (f_E_can w) (fun _ u => u 3 1 = 1) := by
  unfold f_E_can
  refine pc_call (pcTT _) (fun _ u2 _ => ?_)
  have l29 : ∀ (n : Nat) {v1 v2 : Int} {u : Wd}, PC (f_E_can_29 n v1 v2 u) (fun _ v => v 3 1 = 1) := by
    intro n
    induction n with
    | zero => intros; exact pc_none
    | succ n ih =>
      intro v1 v2 u
      rw [f_E_can_29]
      refine pc_ite (fun _ => pc_call (pcTT _) (fun _ _ _ => pc_call (nt1_3 _ _) (fun _ u6 q => ?_))) (fun _ => pc_call (pcTT _) (fun _ _ _ => pc_let (fun _ _ => pc_let (fun _ _ => ih))))
      exact pc_call (ke_F_guests (ke_0 u6)) (fun _ u8 k => pc_some ((ke_1 k).trans q))
  exact l29 FU
theorem se_goes {v1 : Int} {w : Wd} : PC (f_E_goes v1 w) (fun _ u => SZK (¬ (0 ≤ v1 ∧ v1 ≤ 60)) (w 3 1) 2 (u 3 1)) := by
  unfold f_E_goes
  rw [isw_e, jc_s]
  by_cases hv : 0 ≤ v1 ∧ v1 ≤ 60
  · rw [if_pos hv]
    refine pc_ite (fun e => absurd e (by decide)) (fun _ => ?_)
    have l75 : ∀ {v2 v3 : Int} {u : Wd}, PC (f_E_goes_75 v2 v3 u) (fun _ v => v 3 1 = 2) := fun {v2 v3 u} => by
      unfold f_E_goes_75
      exact pc_call (pcTT _) (fun _ _ _ => pc_call (nt2_3 _ _ _) (fun _ _ q => pc_some q))
    have l13 : ∀ (n : Nat) {v2 v3 : Int} {u : Wd}, PC (f_E_goes_13 n v1 v2 v3 u) (fun _ v => v 3 1 = 2) := by
      intro n
      induction n with
      | zero => intros; exact pc_none
      | succ n ih =>
        intro v2 v3 u
        rw [f_E_goes_13]
        exact pc_ite (fun _ => l75) (fun _ => pc_ite (fun _ => l75) (fun _ => pc_call (pcTT _) (fun _ _ _ => pc_ite (fun _ => l75) (fun _ => pc_call (pcTT _) (fun _ _ _ => pc_call (pcTT _) (fun _ _ _ => pc_let (fun _ _ => pc_let (fun _ _ => ih))))))))
    exact pc_w (l13 FU) (fun _ _ e => Or.inr ⟨fun hh => hh hv, e⟩)
  · rw [if_neg hv]
    exact pc_ite (fun _ => pc_some (Or.inl ⟨hv, rfl⟩)) (fun e => absurd rfl e)
theorem se_bars {w : Wd} : PC (f_E_bars w) (fun r u => r = -1 ∨ u 3 1 = 2) := by
  unfold f_E_bars
  refine pc_call (pcTT _) (fun _ _ _ => pc_call (pcTT _) (fun _ _ _ => pc_call (pcTT _) (fun _ _ _ => pc_call (pcTT _) (fun _ _ _ => pc_call (pcTT _) (fun _ _ _ => pc_ite (fun _ => pc_none) (fun _ => pc_let (fun _ _ => ?_)))))))
  have l32 : ∀ (n : Nat) {v1 v2 v3 : Int} {u : Wd}, PC (f_E_bars_32 n v1 v2 v3 u) (fun r v => r = -1 ∨ v 3 1 = 2) := by
    intro n
    induction n with
    | zero => intros; exact pc_none
    | succ n ih =>
      intro v1 v2 v3 u
      rw [f_E_bars_32]
      unfold f_E_bars_89
      exact pc_ite (fun _ => pc_some (Or.inl rfl)) (fun _ => pc_call (pcTT _) (fun _ _ _ => pc_call (pcTT _) (fun _ _ _ => pc_let (fun _ _ => pc_ite (fun _ => pc_call (pcTT _) (fun _ _ _ => pc_call (pcTT _) (fun _ _ _ => pc_ite (fun _ => pc_call (nt2_3 _ _ _) (fun _ _ q => pc_some (Or.inr q))) (fun _ => pc_let (fun _ _ => ih))))) (fun _ => pc_let (fun _ _ => ih))))))
  exact l32 FU
theorem se_led {v1 : Int} {w : Wd} : PC (f_E_led v1 w) (fun _ u => SZK (hd (w 5 3) v1 = 0) (w 3 1) 2 (u 3 1)) := by
  unfold f_E_led
  refine pc_call (it_pc v1 w) (fun r1 u2 q => ?_)
  rw [q.1, q.2]
  refine pc_ite (fun e => pc_some (Or.inl ⟨e, rfl⟩)) (fun e => ?_)
  have l20 : ∀ (n : Nat) {v2 v3 v4 : Int} {u : Wd}, PC (f_E_led_20 n v1 v2 v3 v4 u) (fun _ v => v 3 1 = 2) := by
    intro n
    induction n with
    | zero => intros; exact pc_none
    | succ n ih =>
      intro v2 v3 v4 u
      rw [f_E_led_20]
      unfold f_E_led_51
      refine pc_ite (fun _ => pc_call (nt2_3 _ _ _) (fun _ u4 q => ?_)) (fun _ => pc_call (pcTT _) (fun _ _ _ => pc_ite (fun _ => pc_let (fun _ _ => pc_call (pcTT _) (fun _ _ _ => pc_let (fun _ _ => pc_let (fun _ _ => ih))))) (fun _ => pc_let (fun _ _ => pc_call (pcTT _) (fun _ _ _ => pc_let (fun _ _ => pc_let (fun _ _ => ih)))))))
      exact pc_call (ke_F_ledBy (ke_0 u4)) (fun _ u6 k => pc_some ((ke_1 k).trans q))
  exact pc_w (l20 FU) (fun _ _ z => Or.inr ⟨e, z⟩)
theorem se_father {w : Wd} (h3 : w 5 3 ≤ 10) : PC (f_E_father w) (fun r u => SZR (fun _ => 1) (w 3 1) r (u 3 1)) := by
  unfold f_E_father
  have l6 : ∀ (n : Nat) {v1 v2 v3 : Int} {u : Wd}, (v1 = -1 ∨ 0 ≤ v1) → 0 ≤ v3 → EKP w u → PC (f_E_father_6 n v1 v2 v3 u) (fun r v => SZR (fun _ => 1) (w 3 1) r (v 3 1)) := by
    intro n
    induction n with
    | zero => intros; exact pc_none
    | succ n ih =>
      intro v1 v2 v3 u i1 i3 k
      rw [f_E_father_6, k.2]
      unfold f_E_father_41
      refine pc_ite (fun _ => pc_ite (fun _ => pc_some (Or.inl ⟨by decide, ke_1 k⟩)) (fun c => pc_call (nt1_3 _ _) (fun _ _ q => pc_some (Or.inr ⟨by omega, q⟩)))) (fun c => ?_)
      refine pc_call (ke_F_ledBy k) (fun r3 u4 k => pc_call (ke_JI_bitCount k) (fun r5 u6 k => ?_))
      rw [w32_id (by omega)]
      exact pc_ite (fun _ => pc_let (fun x7 e7 => ih i1 (by omega) k)) (fun _ => pc_let (fun x7 e7 => ih (Or.inr i3) (by omega) k))
  exact l6 FU (Or.inl rfl) (by decide) (ke_0 w)
theorem se_pairs {w : Wd} : PC (f_E_pairs w) (fun r u => u 3 1 = r) := by
  unfold f_E_pairs
  exact pc_call (pcTT _) (fun _ _ _ => pc_call (pcTT _) (fun _ _ _ => pc_some rfl))
theorem se_line {v1 : Int} {w : Wd} : PC (f_E_line v1 w) (fun r u => SZK (hd (w 5 3) v1 = 0) (w 3 1) r (u 3 1)) := by
  unfold f_E_line
  refine pc_call (it_pc v1 w) (fun r1 u2 q => ?_)
  rw [q.1, q.2]
  refine pc_ite (fun e => pc_some (Or.inl ⟨e, rfl⟩)) (fun e => pc_call (pcTT _) (fun _ _ _ => pc_call (pcTT _) (fun _ u6 _ => ?_)))
  have l31 : ∀ (n : Nat) {v2 v3 : Int} {u : Wd}, PC (f_E_line_31 n v2 v3 u) (fun r v => v 3 1 = r) := by
    intro n
    induction n with
    | zero => intros; exact pc_none
    | succ n ih =>
      intro v2 v3 u
      rw [f_E_line_31]
      unfold f_E_line_70
      exact pc_ite (fun _ => pc_some rfl) (fun _ => pc_ite (fun _ => pc_some rfl) (fun _ => pc_call (pcTT _) (fun _ _ _ => pc_call (pcTT _) (fun _ _ _ => pc_let (fun _ _ => ih)))))
  exact pc_w (l31 FU) (fun _ _ z => Or.inr ⟨e, z⟩)
def szF (r : Int) : Int := if r ≤ 1 then 0 else r - 1
theorem se_far {v1 : Int} {w : Wd} (h3 : w 5 3 ≤ 10) : PC (f_E_far v1 w) (fun r u => SZR szF (w 3 1) r (u 3 1)) := by
  unfold f_E_far
  refine pc_call (ke_F_isThere (ke_0 w)) (fun r1 u2 k => ?_)
  refine pc_ite (fun _ => pc_some (Or.inl ⟨by decide, ke_1 k⟩)) (fun _ => ?_)
  refine pc_call (ke_F_guests k) (fun r3 u4 k => pc_call (ke_E_has k) (fun r5 u6 k => ?_))
  refine pc_ite (fun _ => ?_) (fun _ => pc_call (nclr_3 u6) (fun _ _ q => pc_some (Or.inr ⟨by decide, q.1⟩)))
  refine pc_call (ke_F_free k) (fun r7 u8 k => pc_call (ke_E_has k) (fun r9 u10 k => ?_))
  refine pc_ite (fun _ => pc_some (Or.inl ⟨by decide, ke_1 k⟩)) (fun _ => ?_)
  refine pc_call (ke_F_guests k) (fun r11 u12 k => pc_call (ke_F_knownBy k) (fun r13 u14 k => ?_))
  have l13 : ∀ (n : Nat) {v4 v5 : Int} {u : Wd}, 0 ≤ v5 → 0 ≤ u 3 1 → u 3 1 + v5 ≤ 19 → PC (f_E_tellWay_13 n v1 v4 v5 u) (fun _ v => v 3 1 = u 3 1 + v5) := by
    intro n
    induction n with
    | zero => intros; exact pc_none
    | succ n ih =>
      intro v4 v5 u i5 iu i19
      rw [f_E_tellWay_13]
      refine pc_ite (fun c => pc_some (by omega)) (fun c => ?_)
      refine pc_call (ke_F_within (ke_0 u)) (fun r3 u4 k => pc_call (ke_E_lowest k) (fun r5 u6 k => ?_))
      have k6 := ke_1 k
      refine pc_call (nput_3 (x := r5) (w := u6) (by omega)) (fun r7 u8 z => ?_)
      refine pc_call (ke_F_knownBy (ke_0 u8)) (fun r9 u10 k => pc_let (fun x11 e11 => ?_))
      have k10 := ke_1 k
      have z1 := z.1
      rw [w32_id (by omega)] at e11
      rw [e11]
      exact pc_w (ih (by omega) (by omega) (by omega)) (fun _ _ e => by omega)
  have l118 : ∀ {v2 v3 : Int} {u : Wd}, EKP w u → (v3 = -1 ∨ 0 ≤ v3) → v3 ≤ 10 → PC (f_E_far_118 v1 v2 v3 u) (fun r v => SZR szF (w 3 1) r (v 3 1)) := fun {v2 v3 u} k i3 i3' => by
    unfold f_E_far_118 f_E_tellWay
    refine pc_ite (fun _ => pc_some (Or.inl ⟨by decide, ke_1 k⟩)) (fun c => ?_)
    refine pc_call (P := fun _ v => v 3 1 = v3) (pc_call (nclr_3 u) (fun r1 u2 q => ?_)) (fun r15 u16 e => pc_some (Or.inr ?_))
    · have q1 := q.1
      exact pc_w (l13 FU (by omega) (by omega) (by omega)) (fun _ _ e => by omega)
    · rw [w32_id (by omega), e]
      unfold szF
      refine ⟨by omega, ?_⟩
      by_cases c0 : v3 = 0
      · rw [if_pos (by omega)]; exact c0
      · rw [if_neg (by omega)]; omega
  have l73 : ∀ (n : Nat) {v2 v3 v4 : Int} {u : Wd}, EKP w u → (v3 = -1 ∨ 0 ≤ v3) → v3 ≤ 10 → 0 ≤ v4 → PC (f_E_far_73 n v1 v2 v3 v4 u) (fun r v => SZR szF (w 3 1) r (v 3 1)) := by
    intro n
    induction n with
    | zero => intros; exact pc_none
    | succ n ih =>
      intro v2 v3 v4 u k i3 i3' i4
      rw [f_E_far_73, k.2]
      unfold f_E_far_111
      refine pc_ite (fun _ => l118 k i3 i3') (fun c => pc_ite (fun _ => ?_) (fun _ => l118 k i3 i3'))
      refine pc_call (ke_F_within k) (fun r17 u18 k => ?_)
      rw [w32_id (by omega)]
      exact pc_ite (fun _ => pc_let (fun x e => ih k (Or.inl rfl) (by decide) (by omega))) (fun _ => pc_let (fun x e => ih k (Or.inr i4) (by omega) (by omega)))
  exact l73 FU k (Or.inl rfl) (by decide) (by decide)
/-! THE ROW'S SIZE, the reference -/
theorem rt15 (x : Int) (u : Wd) : PC (f_R_tell x u) (fun _ v => v 43 15 = u 43 15 + 1 ∧ ∀ c k, c ≠ 52 → ¬ (c = 43 ∧ k = 15) → v c k = u c k) := by
  unfold f_R_tell
  refine pc_gd (fun hg => pc_lw (fun u1 e1 => pc_lw (fun u2 e2 => pc_some ⟨?_, fun c k a b => ?_⟩)))
  · have e : u1 43 15 = u 43 15 := by rw [e1, st_c (by decide)]
    rw [e2, st_eq, e, w32_id (by omega)]
  · rw [e2]
    by_cases c43 : c = 43
    · rw [c43, st_k (fun hh => b ⟨c43, hh⟩), e1, st_c (by decide)]
    · rw [st_c c43, e1, st_c a]
theorem rt15_1 {x : Int} {u : Wd} (h : u 43 15 = 0) : PC (f_R_tell x u) (fun _ v => v 43 15 = 1) := pc_w (rt15 x u) (fun _ _ q => by have := q.1; omega)
theorem rt15_2 {x : Int} {u : Wd} (h : u 43 15 = 1) : PC (f_R_tell x u) (fun _ v => v 43 15 = 2) := pc_w (rt15 x u) (fun _ _ q => by have := q.1; omega)
theorem rfs {a w : Wd} {P g se : Int} {h kn : Nat → Int} {x0 : Int} (hp : PRM a w P g se h kn x0) (hG : G [] a a) {y : Wd} (ey : y = st a 43 16 0) : PC (f_R_findStates 0 y) (fun r u => (RKP a u ∧ FRY y u ∧ G [] u u) ∧ ((r = 0 ∧ MNY P g se h kn x0) ∨ (r = 1 ∧ RLC P g se h kn x0 u ∧ ¬ MNY P g se h kn x0))) := by
  obtain ⟨hP, hg, h0, hw, ⟨c0, c10, c11⟩, c47, c45, c46, _⟩ := id hp
  have gy : G [4316] a y := g_st (g_self hG) ey rfl rfl (show (0 : Int) ≤ 0 ∧ (0 : Int) ≤ 1 by decide)
  have yr : ∀ c, c ≠ 43 → y c = a c := fun c hc => by rw [ey, st_row hc]
  have yk : ∀ k, k ≠ 16 → y 43 k = a 43 k := fun k hk => by rw [ey, st_k hk]
  refine pc_w (fstc_pc (h := h) (se := se) hP hg h0 (g_self gy) (by rw [yk 0 (by decide)]; exact c0) (by rw [yk 10 (by decide)]; exact c10) (by rw [yk 11 (by decide)]; exact c11) (fun k hk => by rw [yr 47 (by decide)]; exact c47 k hk) (fun j hj => by rw [yr 45 (by decide)]; exact c45 j hj) (by decide) (fun k hk => by rw [bt_0, Bool.or_false, yr 46 (by decide)]; exact c46 k hk)) (fun r u q => ?_)
  obtain ⟨z1, z2, z3⟩ := q
  refine ⟨⟨⟨(z1.2 15 (by decide) (by decide) (by decide)).trans (yk 15 (by decide)), (z1.2 0 (by decide) (by decide) (by decide)).trans (yk 0 (by decide))⟩, z1, z2⟩, ?_⟩
  rcases z3 with e | ⟨e, l⟩
  · exact Or.inl e
  · exact Or.inr ⟨e, l, rli_mny hP h0 l.1⟩
theorem rfw {a w : Wd} {P g se : Int} {h kn : Nat → Int} {x0 v1 : Int} (hp : PRM a w P g se h kn x0) (hG : G [] a a) (hv : 0 ≤ v1 ∧ v1 ≤ 60) {y : Wd} (ey : y = st a 43 16 0) : PC (f_R_findWeek v1 y) (fun r u => RKP a u ∧ ((r = 0 ∧ MNY P g se h kn x0) ∨ (r = 1 ∧ ¬ MNY P g se h kn x0))) := by
  obtain ⟨hP, hg, h0, hw, ⟨c0, c10, c11⟩, c47, c45, c46, _⟩ := id hp
  have gy : G [4316] a y := g_st (g_self hG) ey rfl rfl (show (0 : Int) ≤ 0 ∧ (0 : Int) ≤ 1 by decide)
  have yr : ∀ c, c ≠ 43 → y c = a c := fun c hc => by rw [ey, st_row hc]
  have yk : ∀ k, k ≠ 16 → y 43 k = a 43 k := fun k hk => by rw [ey, st_k hk]
  have kz : RKP a y := ⟨yk 15 (by decide), yk 0 (by decide)⟩
  refine pc_w (pc_and (kr_R_findWeek (v1 := v1) kz) (fwk_pc (h := h) (se := se) hP hg h0 (g_self gy) (by rw [yk 0 (by decide)]; exact c0) (by rw [yk 10 (by decide)]; exact c10) (by rw [yk 11 (by decide)]; exact c11) (fun k hk => by rw [yr 47 (by decide)]; exact c47 k hk) (fun j hj => by rw [yr 45 (by decide)]; exact c45 j hj) (fun k hk => by rw [yr 46 (by decide)]; exact c46 k hk) hv)) (fun r u q => ⟨q.1, ?_⟩)
  rcases q.2 with e | ⟨e, b, _, l⟩
  · exact Or.inl e
  · exact Or.inr ⟨e, rli_mny hP h0 l.2.1⟩
theorem sr_states {a w : Wd} {P g se : Int} {h kn : Nat → Int} {x0 : Int} (hp : PRM a w P g se h kn x0) (hG : G [] a a) : PC (f_R_states a) (fun _ u => SZK (MNY P g se h kn x0) (a 43 15) 2 (u 43 15)) := by
  unfold f_R_states
  refine pc_lw (fun y ey => pc_call (rfs hp hG ey) (fun r2 u q => ?_))
  rcases q.2 with ⟨e, m⟩ | ⟨e, _, m⟩
  · exact pc_ite (fun _ => pc_some (Or.inl ⟨m, q.1.1.1⟩)) (fun c => absurd e c)
  · refine pc_ite (fun c => by omega) (fun _ => ?_)
    have l22 : ∀ (n : Nat) {v1 v2 v3 : Int} {u : Wd}, PC (f_R_states_22 n v1 v2 v3 u) (fun _ v => v 43 15 = 2) := by
      intro n
      induction n with
      | zero => intros; exact pc_none
      | succ n ih =>
        intro v1 v2 v3 u
        rw [f_R_states_22]
        unfold f_R_states_51
        exact pc_ite (fun _ => pc_lw (fun u4 e4 => pc_call (rt15_1 (by rw [e4, st_eq])) (fun _ _ q => pc_call (rt15_2 q) (fun _ _ q => pc_some q)))) (fun _ => pc_call (pcTT _) (fun _ _ _ => pc_call (pcTT _) (fun _ _ _ => pc_ite (fun _ => pc_let (fun _ _ => pc_let (fun _ _ => pc_let (fun _ _ => ih)))) (fun _ => pc_let (fun _ _ => pc_let (fun _ _ => pc_let (fun _ _ => ih)))))))
    exact pc_w (l22 FU) (fun _ _ z => Or.inr ⟨m, z⟩)
theorem sr_wk {a w : Wd} {P g se : Int} {h kn : Nat → Int} {x0 v1 k : Int} {K : Wd → Option (Int × Wd)} (hp : PRM a w P g se h kn x0) (hG : G [] a a) (hK : ∀ u, PC (K u) (fun _ v => v 43 15 = k)) : PC (jlw (st a 43 16 0) fun u1 => jcall (f_R_isWeeks v1 u1) fun r2 u3 => if r2 = 0 then some ((-1), u3) else jcall (f_R_findWeek v1 u3) fun r4 u5 => if r4 = 0 then some ((-3), u5) else K u5) (fun _ u => SZK ((¬ (0 ≤ v1 ∧ v1 ≤ 60)) ∨ MNY P g se h kn x0) (a 43 15) k (u 43 15)) := by
  refine pc_lw (fun y ey => pc_call (iswR_e v1 y) (fun r2 u3 z => ?_))
  rw [z.1, z.2]
  by_cases hv : 0 ≤ v1 ∧ v1 ≤ 60
  · rw [if_pos hv]
    refine pc_ite (fun e => absurd e (by decide)) (fun _ => pc_call (rfw hp hG hv ey) (fun r4 u5 q => ?_))
    rcases q.2 with ⟨e, m⟩ | ⟨e, m⟩
    · exact pc_ite (fun _ => pc_some (Or.inl ⟨Or.inr m, q.1.1⟩)) (fun c => absurd e c)
    · exact pc_ite (fun c => by omega) (fun _ => pc_w (hK u5) (fun _ _ z => Or.inr ⟨fun hh => hh.elim (fun hx => hx hv) m, z⟩))
  · rw [if_neg hv]
    exact pc_ite (fun _ => pc_some (Or.inl ⟨Or.inl hv, by rw [ey, st_k (by decide)]⟩)) (fun e => absurd rfl e)
theorem sr_most {a w : Wd} {P g se : Int} {h kn : Nat → Int} {x0 v1 : Int} (hp : PRM a w P g se h kn x0) (hG : G [] a a) : PC (f_R_most v1 a) (fun _ u => SZK ((¬ (0 ≤ v1 ∧ v1 ≤ 60)) ∨ MNY P g se h kn x0) (a 43 15) 1 (u 43 15)) := by
  unfold f_R_most
  refine sr_wk hp hG (fun u => ?_)
  have l32 : ∀ (n : Nat) {v2 v3 v4 : Int} {u : Wd}, PC (f_R_most_32 n v2 v3 v4 u) (fun _ v => v 43 15 = 1) := by
    intro n
    induction n with
    | zero => intros; exact pc_none
    | succ n ih =>
      intro v2 v3 v4 u
      rw [f_R_most_32]
      unfold f_R_most_74
      exact pc_ite (fun _ => pc_lw (fun u4 e4 => pc_call (rt15_1 (by rw [e4, st_eq])) (fun _ _ q => pc_some q))) (fun _ => pc_gd (fun _ => pc_ite (fun _ => pc_let (fun _ _ => ih)) (fun _ => pc_let (fun _ _ => pc_call (pcTT _) (fun _ _ _ => pc_call (pcTT _) (fun _ _ _ => pc_let (fun _ _ => pc_let (fun _ _ => ih))))))))
  exact l32 FU
theorem sr_reach {a w : Wd} {P g se : Int} {h kn : Nat → Int} {x0 v1 : Int} (hp : PRM a w P g se h kn x0) (hG : G [] a a) : PC (f_R_reach v1 a) (fun _ u => SZK ((¬ (0 ≤ v1 ∧ v1 ≤ 60)) ∨ MNY P g se h kn x0) (a 43 15) 1 (u 43 15)) := by
  unfold f_R_reach
  refine sr_wk (K := fun u5 => jlet (w32 ((ishl 1 (u5 43 0)) - 1)) fun x6 => f_R_reach_42 FU 0 x6 0 0 u5) hp hG (fun u => pc_let (fun _ _ => ?_))
  have l42 : ∀ (n : Nat) {v2 v3 v4 v5 : Int} {u : Wd}, PC (f_R_reach_42 n v2 v3 v4 v5 u) (fun _ v => v 43 15 = 1) := by
    intro n
    induction n with
    | zero => intros; exact pc_none
    | succ n ih =>
      intro v2 v3 v4 v5 u
      rw [f_R_reach_42]
      have l74 : ∀ {s0 : Int} {u : Wd}, PC (f_R_reach_74 (f_R_reach_42 n) v2 v3 v4 v5 s0 u) (fun _ v => v 43 15 = 1) := fun {s0 u} => by
        unfold f_R_reach_74 f_R_reach_97
        exact pc_ite (fun _ => pc_let (fun _ _ => ih)) (fun _ => pc_let (fun _ _ => pc_let (fun _ _ => pc_let (fun _ _ => ih))))
      unfold f_R_reach_119
      exact pc_ite (fun _ => pc_lw (fun u4 e4 => pc_ite (fun _ => pc_call (rt15_1 (by rw [e4, st_eq])) (fun _ _ q => pc_some q)) (fun _ => pc_call (rt15_1 (by rw [e4, st_eq])) (fun _ _ q => pc_some q)))) (fun _ => pc_gd (fun _ => pc_ite (fun _ => l74) (fun _ => pc_call (pcTT _) (fun _ _ _ => l74))))
  exact l42 FU
theorem sr_crowd {a w : Wd} {P g se : Int} {h kn : Nat → Int} {x0 : Int} (hp : PRM a w P g se h kn x0) (hG : G [] a a) : PC (f_R_crowd a) (fun _ u => SZK (MNY P g se h kn x0) (a 43 15) 2 (u 43 15)) := by
  unfold f_R_crowd
  refine pc_lw (fun y ey => pc_call (rfs hp hG ey) (fun r2 u q => ?_))
  rcases q.2 with ⟨e, m⟩ | ⟨e, _, m⟩
  · exact pc_ite (fun _ => pc_some (Or.inl ⟨m, q.1.1.1⟩)) (fun c => absurd e c)
  · refine pc_ite (fun c => by omega) (fun _ => ?_)
    have l59 : ∀ (n : Nat) {v1 v2 v3 : Int} {u : Wd}, PC (f_R_crowd_59 n v1 v2 v3 u) (fun _ v => v 43 15 = 2) := by
      intro n
      induction n with
      | zero => intros; exact pc_none
      | succ n ih =>
        intro v1 v2 v3 u
        rw [f_R_crowd_59]
        exact pc_ite (fun _ => pc_call (pcTT _) (fun _ _ _ => pc_let (fun _ _ => pc_call (pcTT _) (fun _ _ _ => ih)))) (fun _ => pc_lw (fun u4 e4 => pc_call (rt15_1 (by rw [e4, st_eq])) (fun _ _ q => pc_call (rt15_2 q) (fun _ _ q => pc_some q))))
    have l20 : ∀ (n : Nat) {v1 v2 : Int} {u : Wd}, PC (f_R_crowd_20 n v1 v2 u) (fun _ v => v 43 15 = 2) := by
      intro n
      induction n with
      | zero => intros; exact pc_none
      | succ n ih =>
        intro v1 v2 u
        rw [f_R_crowd_20]
        exact pc_ite (fun _ => pc_call (pcTT _) (fun _ _ _ => pc_call (pcTT _) (fun _ _ _ => l59 FU))) (fun _ => pc_call (pcTT _) (fun _ _ _ => pc_call (pcTT _) (fun _ _ _ => pc_let (fun _ _ => pc_let (fun _ _ => ih)))))
    exact pc_w (l20 FU) (fun _ _ z => Or.inr ⟨m, z⟩)
theorem srl_last {a w : Wd} {P g se : Int} {h kn : Nat → Int} {x0 : Int} (hp : PRM a w P g se h kn x0) (hG : G [] a a) : PC (f_R_last a) (fun _ u => SZK (MNY P g se h kn x0 ∨ ¬ sbg P x0) (a 43 15) 1 (u 43 15)) := by
  obtain ⟨hP, hg, h0, _, ⟨c0, _⟩, _⟩ := id hp
  unfold f_R_last
  refine pc_lw (fun y ey => pc_call (rfs hp hG ey) (fun r2 u q => ?_))
  rcases q.2 with ⟨e, m⟩ | ⟨e, l, m⟩
  · exact pc_ite (fun _ => pc_some (Or.inl ⟨Or.inl m, q.1.1.1⟩)) (fun c => absurd e c)
  · refine pc_ite (fun c => by omega) (fun _ => ?_)
    have u0 : u 43 0 = P := by rw [q.1.2.1.2 0 (by decide) (by decide) (by decide), ey, st_k (by decide)]; exact c0
    have fl := flall_pc hP hg h0 u0 l.1
    unfold f_R_all at fl ⊢
    rw [jc_s] at fl ⊢
    refine pc_call fl (fun r6 u7 z => pc_gd (fun _ => pc_let (fun x8 e8 => ?_)))
    have e8' : x8 = u7 71 0 := e8
    have hq := z.2
    rw [← e8'] at hq
    have k7 : u7 43 15 = a 43 15 := (congrFun (z.1 43 (by decide) (by decide) (by decide)) 15).trans q.1.1.1
    refine pc_ite (fun c => ?_) (fun c => pc_some (Or.inl ⟨Or.inr ?_, k7⟩))
    · have l65 : ∀ (m : Nat) {v2 v3 : Int} {v : Wd}, PC (f_R_last_65 m x8 v2 v3 v) (fun _ v => v 43 15 = 1) := by
        intro m
        induction m with
        | zero => intros; exact pc_none
        | succ m ih =>
          intro v2 v3 v
          rw [f_R_last_65]
          unfold f_R_last_106
          exact pc_ite (fun _ => pc_lw (fun u4 e4 => pc_call (rt15_1 (by rw [e4, st_eq])) (fun _ _ q => pc_some q))) (fun _ => pc_gd (fun _ => pc_ite (fun _ => pc_let (fun _ _ => ih)) (fun _ => pc_call (pcTT _) (fun _ _ _ => pc_ite (fun _ => pc_let (fun _ _ => ih)) (fun _ => pc_call (pcTT _) (fun _ _ _ => pc_call (pcTT _) (fun _ _ _ => pc_let (fun _ _ => pc_let (fun _ _ => ih)))))))))
      have l44 : ∀ (m : Nat) {v2 : Int} {v : Wd}, PC (f_R_last_44 m x8 v2 v) (fun _ v => v 43 15 = 1) := by
        intro m
        induction m with
        | zero => intros; exact pc_none
        | succ m ih =>
          intro v2 v
          rw [f_R_last_44]
          exact pc_ite (fun _ => l65 FU) (fun _ => pc_call (pcTT _) (fun _ _ _ => pc_let (fun _ _ => ih)))
      refine pc_call (pcTT _) (fun _ u10 _ => pc_w (l44 FU) (fun _ _ e => Or.inr ⟨fun hh => ?_, e⟩))
      rcases hq with ⟨b, _⟩ | ⟨_, ⟨y', y1, y2⟩, _⟩
      · omega
      · exact hh.elim m (fun hn => hn (sbg_back hP h0 y1 y2))
    · rcases hq with ⟨_, b⟩ | ⟨b, _⟩
      · exact b
      · exact absurd b c
theorem sr_stays {a w : Wd} {P g se : Int} {h kn : Nat → Int} {x0 v1 : Int} (hp : PRM a w P g se h kn x0) (hG : G [] a a) : PC (f_R_stays v1 a) (fun _ u => SZK ((¬ (0 ≤ v1 ∧ v1 < P)) ∨ MNY P g se h kn x0 ∨ gs P (sof x0) v1.toNat = false) (a 43 15) 1 (u 43 15)) := by
  obtain ⟨hP, hg, h0, _, ⟨c0, _⟩, c47, _⟩ := id hp
  unfold f_R_stays
  refine pc_lw (fun y ey => ?_)
  have y0 : y 43 0 = P := by rw [ey, st_k (by decide)]; exact c0
  refine pc_call (io_pc v1 y (by rw [y0]; exact hP)) (fun r2 u3 z => ?_)
  rw [z.1, z.2, y0]
  unfold hd
  by_cases ct : 0 ≤ v1 ∧ v1 < P
  · rw [if_pos ct]
    refine pc_ite (fun e => absurd e (by decide)) (fun _ => pc_call (rfs hp hG ey) (fun r2 u q => ?_))
    rcases q.2 with ⟨e, m⟩ | ⟨e, l, m⟩
    · exact pc_ite (fun _ => pc_some (Or.inl ⟨Or.inr (Or.inl m), q.1.1.1⟩)) (fun c => absurd e c)
    · refine pc_ite (fun c => by omega) (fun _ => pc_gd (fun _ => ?_))
      have u47 : u 47 = a 47 := by rw [q.1.2.1.1 47 (by decide) (by decide) (by decide) (by decide) (by decide) (by decide) (by decide), ey, st_row (by decide)]
      rw [isG_e, jc_s, u47, c47 v1.toNat (by omega)]
      have egs : gs P (sof x0) v1.toNat = gst (sof x0 v1.toNat) := by
        unfold gs
        rw [show inP P v1.toNat = true from decide_eq_true (by omega)]; rfl
      rw [egs]
      cases hgx : gst (sof x0 v1.toNat) with
      | false => exact pc_ite (fun _ => pc_some (Or.inl ⟨Or.inr (Or.inr rfl), q.1.1.1⟩)) (fun e => absurd rfl e)
      | true =>
        refine pc_ite (fun e => absurd e (by decide)) (fun _ => pc_call (pcTT _) (fun r8 u9 _ => pc_gd (fun _ => pc_let (fun x10 e10 => pc_call (pcTT _) (fun _ u12 _ => ?_)))))
        have l236 : ∀ {v3 : Int} {v : Wd}, PC (f_R_stays_236 x10 v3 v) (fun _ v => v 43 15 = 1) := fun {v3 v} => by
          unfold f_R_stays_236
          exact pc_lw (fun u4 e4 => pc_call (rt15_1 (by rw [e4, st_eq])) (fun _ _ q => pc_some q))
        have l127 : ∀ (m : Nat) {v3 v4 v5 : Int} {v : Wd}, PC (f_R_stays_127 m v1 x10 v3 v4 v5 v) (fun _ v => v 43 15 = 1) := by
          intro m
          induction m with
          | zero => intros; exact pc_none
          | succ m ih =>
            intro v3 v4 v5 v
            rw [f_R_stays_127]
            have l181 : ∀ {v5 : Int} {v : Wd}, PC (f_R_stays_181 (f_R_stays_127 m) v1 x10 v5 v) (fun _ v => v 43 15 = 1) := fun {v5 v} => by
              unfold f_R_stays_181 f_R_stays_199 f_R_stays_213 f_R_stays_229 f_R_stays_230
              refine pc_ite (fun _ => pc_ite (fun _ => ?_) (fun _ => ?_)) (fun _ => pc_ite (fun _ => ?_) (fun _ => ?_)) <;> exact pc_call (pcTT _) (fun _ _ _ => pc_ite (fun _ => pc_let (fun _ _ => ih)) (fun _ => pc_let (fun _ _ => ih)))
            unfold f_R_stays_230
            refine pc_ite (fun _ => l236) (fun _ => pc_ite (fun _ => pc_ite (fun _ => l181) (fun _ => pc_gd (fun _ => pc_call (pcTT _) (fun _ _ _ => pc_ite (fun _ => pc_let (fun _ _ => ih)) (fun _ => pc_gd (fun _ => pc_ite (fun _ => l181) (fun _ => pc_let (fun _ _ => ih)))))))) (fun _ => l236))
        have l61 : ∀ (m : Nat) {v3 : Int} {v : Wd}, PC (f_R_stays_61 m v1 x10 v3 v) (fun _ v => v 43 15 = 1) := by
          intro m
          induction m with
          | zero => intros; exact pc_none
          | succ m ih =>
            intro v3 v
            rw [f_R_stays_61]
            unfold f_R_stays_117 f_R_stays_98 f_R_stays_99
            refine pc_ite (fun _ => pc_ite (fun _ => pc_call (pcTT _) (fun _ _ _ => l127 FU)) (fun _ => pc_call (pcTT _) (fun _ _ _ => l127 FU))) (fun _ => pc_call (pcTT _) (fun _ _ _ => ?_))
            refine pc_ite (fun _ => pc_gd (fun _ => pc_lw (fun _ _ => pc_let (fun _ _ => ih)))) (fun _ => pc_gd (fun _ => pc_ite (fun _ => pc_gd (fun _ => pc_lw (fun _ _ => pc_let (fun _ _ => ih)))) (fun _ => pc_gd (fun _ => pc_lw (fun _ _ => pc_let (fun _ _ => ih))))))
        exact pc_w (l61 FU) (fun _ _ e => Or.inr ⟨fun hh => hh.elim (fun hx => hx ct) (fun hx => hx.elim m (fun hy => by cases hy)), e⟩)
  · rw [if_neg ct]
    exact pc_ite (fun _ => pc_some (Or.inl ⟨Or.inl ct, by rw [ey, st_k (by decide)]⟩)) (fun e => absurd rfl e)
theorem sr_can {a : Wd} : PC (f_R_can a) (fun _ u => u 43 15 = 1) := by
  unfold f_R_can
  refine pc_lw (fun _ _ => ?_)
  have l11 : ∀ (n : Nat) {v1 v2 v3 : Int} {u : Wd}, PC (f_R_can_11 n v1 v2 v3 u) (fun _ v => v 43 15 = 1) := by
    intro n
    induction n with
    | zero => intros; exact pc_none
    | succ n ih =>
      intro v1 v2 v3 u
      rw [f_R_can_11]
      unfold f_R_can_68
      exact pc_ite (fun _ => pc_lw (fun u4 e4 => pc_call (rt15_1 (by rw [e4, st_eq])) (fun _ _ q => pc_some q))) (fun _ => pc_gd (fun _ => pc_call (pcTT _) (fun _ _ _ => pc_ite (fun _ => pc_let (fun _ _ => ih)) (fun _ => pc_gd (fun _ => pc_call (pcTT _) (fun _ _ _ => pc_ite (fun _ => pc_let (fun _ _ => ih)) (fun _ => pc_let (fun _ _ => pc_gd (fun _ => pc_call (pcTT _) (fun _ _ _ => pc_let (fun _ _ => pc_let (fun _ _ => ih))))))))))))
  exact l11 FU
theorem sr_goes {v1 : Int} {a : Wd} : PC (f_R_goes v1 a) (fun _ u => SZK (¬ (0 ≤ v1 ∧ v1 ≤ 60)) (a 43 15) 2 (u 43 15)) := by
  unfold f_R_goes
  refine pc_lw (fun y ey => ?_)
  rw [in_e, jc_s]
  by_cases hv : 0 ≤ v1 ∧ v1 ≤ 60
  · rw [if_pos hv]
    refine pc_ite (fun e => absurd e (by decide)) (fun _ => pc_let (fun _ _ => ?_))
    have l60 : ∀ {v2 v3 : Int} {u : Wd}, PC (f_R_goes_60 v2 v3 u) (fun _ v => v 43 15 = 2) := fun {v2 v3 u} => by
      unfold f_R_goes_60
      refine pc_lw (fun u5 e5 => pc_call (kr_R_guests (kr_0 u5)) (fun r6 u7 k => ?_))
      have k7 : u7 43 15 = 0 := by
        have : u5 43 15 = 0 := by rw [e5, st_eq]
        exact k.1.trans this
      exact pc_call (rt15_1 k7) (fun _ _ q => pc_call (rt15_2 q) (fun _ _ q => pc_some q))
    have l24 : ∀ (n : Nat) {v2 v3 : Int} {u : Wd}, PC (f_R_goes_24 n v1 v2 v3 u) (fun _ v => v 43 15 = 2) := by
      intro n
      induction n with
      | zero => intros; exact pc_none
      | succ n ih =>
        intro v2 v3 u
        rw [f_R_goes_24]
        exact pc_ite (fun _ => l60) (fun _ => pc_ite (fun _ => l60) (fun _ => pc_call (pcTT _) (fun _ _ _ => pc_ite (fun _ => l60) (fun _ => pc_call (pcTT _) (fun _ _ _ => pc_call (pcTT _) (fun _ _ _ => pc_let (fun _ _ => ih)))))))
    exact pc_w (l24 FU) (fun _ _ e => Or.inr ⟨fun hh => hh hv, e⟩)
  · rw [if_neg hv]
    exact pc_ite (fun _ => pc_some (Or.inl ⟨hv, by rw [ey, st_k (by decide)]⟩)) (fun e => absurd rfl e)
theorem sr_bars {a : Wd} : PC (f_R_bars a) (fun _ u => u 43 15 = 2) := by
  unfold f_R_bars
  refine pc_lw (fun _ _ => pc_call (pcTT _) (fun _ _ _ => ?_))
  have l20 : ∀ (n : Nat) {v1 v2 v3 v4 v5 : Int} {u : Wd}, PC (f_R_bars_20 n v1 v2 v3 v4 v5 u) (fun _ v => v 43 15 = 2) := by
    intro n
    induction n with
    | zero => intros; exact pc_none
    | succ n ih =>
      intro v1 v2 v3 v4 v5 u
      rw [f_R_bars_20]
      have l127 : ∀ {v1 v2 v3 v4 v5 : Int} {u : Wd}, PC (f_R_bars_127 (f_R_bars_20 n) v1 v2 v3 v4 v5 u) (fun _ v => v 43 15 = 2) := fun {v1 v2 v3 v4 v5 u} => by
        unfold f_R_bars_127
        exact pc_let (fun _ _ => ih)
      have l49 : ∀ (m : Nat) {v2 v3 v4 v5 v6 v7 : Int} {u : Wd}, PC (f_R_bars_49 (f_R_bars_20 n) m v1 v2 v3 v4 v5 v6 v7 u) (fun _ v => v 43 15 = 2) := by
        intro m
        induction m with
        | zero => intros; exact pc_none
        | succ m ihm =>
          intro v2 v3 v4 v5 v6 v7 u
          rw [f_R_bars_49]
          unfold f_R_bars_86
          exact pc_ite (fun _ => pc_call (pcTT _) (fun _ _ _ => pc_call (pcTT _) (fun _ _ _ => pc_let (fun _ _ => pc_ite (fun _ => l127) (fun _ => l127))))) (fun _ => pc_call (pcTT _) (fun _ _ _ => pc_ite (fun _ => pc_let (fun _ _ => pc_let (fun _ _ => ihm))) (fun _ => pc_gd (fun _ => pc_call (pcTT _) (fun _ _ _ => pc_let (fun _ _ => pc_let (fun _ _ => ihm)))))))
      exact pc_ite (fun _ => pc_lw (fun u4 e4 => pc_call (rt15_1 (by rw [e4, st_eq])) (fun _ _ q => pc_call (rt15_2 q) (fun _ _ q => pc_some q)))) (fun _ => pc_ite (fun _ => l49 FU) (fun _ => l127))
  exact l20 FU
theorem sr_led {v1 : Int} {a : Wd} (hP : 0 ≤ a 43 0 ∧ a 43 0 ≤ 10) : PC (f_R_led v1 a) (fun _ u => SZK (hd (a 43 0) v1 = 0) (a 43 15) 2 (u 43 15)) := by
  unfold f_R_led
  refine pc_lw (fun y ey => ?_)
  have y0 : y 43 0 = a 43 0 := by rw [ey, st_k (by decide)]
  refine pc_call (io_pc v1 y (by rw [y0]; exact hP)) (fun r2 u3 z => ?_)
  rw [z.1, z.2, y0]
  refine pc_ite (fun e => pc_some (Or.inl ⟨e, by rw [ey, st_k (by decide)]⟩)) (fun e => ?_)
  have l19 : ∀ (n : Nat) {v2 v3 : Int} {u : Wd}, PC (f_R_led_19 n v1 v2 v3 u) (fun _ v => v 43 15 = 2) := by
    intro n
    induction n with
    | zero => intros; exact pc_none
    | succ n ih =>
      intro v2 v3 u
      rw [f_R_led_19]
      unfold f_R_led_43
      refine pc_ite (fun _ => pc_lw (fun u4 e4 => pc_call (rt15_1 (by rw [e4, st_eq])) (fun _ u6 q => pc_call (kr_R_depthUnder (kr_0 u6)) (fun r7 u8 k => pc_call (rt15_2 (k.1.trans q)) (fun _ u10 q => pc_call (kr_R_ledBy (kr_0 u10)) (fun _ _ k => pc_some (k.1.trans q))))))) (fun _ => pc_gd (fun _ => pc_ite (fun _ => pc_let (fun _ _ => pc_let (fun _ _ => ih))) (fun _ => pc_let (fun _ _ => pc_let (fun _ _ => ih)))))
  exact pc_w (l19 FU) (fun _ _ z => Or.inr ⟨e, z⟩)
theorem sr_father {a : Wd} (hP : 0 ≤ a 43 0 ∧ a 43 0 ≤ 10) : PC (f_R_father a) (fun r u => SZR (fun _ => 1) (a 43 15) r (u 43 15)) := by
  unfold f_R_father
  refine pc_lw (fun y ey => ?_)
  have l11 : ∀ (n : Nat) {v1 v2 v3 : Int} {u : Wd}, (v1 = -1 ∨ 0 ≤ v1) → 0 ≤ v3 → RKP a u → PC (f_R_father_11 n v1 v2 v3 u) (fun r v => SZR (fun _ => 1) (a 43 15) r (v 43 15)) := by
    intro n
    induction n with
    | zero => intros; exact pc_none
    | succ n ih =>
      intro v1 v2 v3 u i1 i3 k
      rw [f_R_father_11, k.2]
      unfold f_R_father_43
      refine pc_ite (fun _ => pc_ite (fun _ => pc_some (Or.inl ⟨by decide, k.1⟩)) (fun _ => pc_lw (fun u4 e4 => pc_call (rt15_1 (by rw [e4, st_eq])) (fun _ _ q => pc_some (Or.inr ⟨by omega, q⟩))))) (fun _ => ?_)
      rw [w32_id (by omega)]
      exact pc_call (kr_R_ledBy k) (fun _ _ k => pc_call (kr_JI_bitCount k) (fun _ _ k => pc_ite (fun _ => pc_let (fun x e => ih (Or.inr i3) (by omega) k)) (fun _ => pc_let (fun x e => ih i1 (by omega) k))))
  exact l11 FU (Or.inl rfl) (by decide) (kr_st (kr_0 a) ey (Or.inr (by decide)))
theorem sr_line {v1 : Int} {a : Wd} (hP : 0 ≤ a 43 0 ∧ a 43 0 ≤ 10) : PC (f_R_line v1 a) (fun r u => SZK (hd (a 43 0) v1 = 0) (a 43 15) (imax 0 r) (u 43 15)) := by
  unfold f_R_line
  refine pc_lw (fun y ey => ?_)
  have y0 : y 43 0 = a 43 0 := by rw [ey, st_k (by decide)]
  refine pc_call (io_pc v1 y (by rw [y0]; exact hP)) (fun r2 u3 z => ?_)
  rw [z.1, z.2, y0]
  refine pc_ite (fun e => pc_some (Or.inl ⟨e, by rw [ey, st_k (by decide)]⟩)) (fun e => pc_gd (fun _ => pc_let (fun x4 _ => ?_)))
  have l49 : ∀ (n : Nat) {v2 v3 : Int} {u : Wd}, v3 ≤ 2147483647 → u 43 15 + imax 0 v3 = imax 0 v2 → PC (f_R_line_49 n v1 v2 v3 u) (fun r v => v 43 15 = imax 0 r) := by
    intro n
    induction n with
    | zero => intros; exact pc_none
    | succ n ih =>
      intro v2 v3 u i3 hi
      rw [f_R_line_49]
      have im := imax_sp 0 v3
      refine pc_ite (fun c => pc_some (by omega)) (fun c => ?_)
      have l59 : ∀ (m : Nat) {v4 v5 : Int}, PC (f_R_line_59 (f_R_line_49 n) m v1 v2 v3 v4 v5 u) (fun r v => v 43 15 = imax 0 r) := by
        intro m
        induction m with
        | zero => intros; exact pc_none
        | succ m ihm =>
          intro v4 v5
          rw [f_R_line_59]
          refine pc_ite (fun _ => pc_call (rt15 v4 u) (fun r6 u7 q => pc_let (fun x8 e8 => ?_))) (fun _ => pc_gd (fun _ => pc_let (fun _ _ => pc_let (fun _ _ => ihm))))
          rw [w32_id (by omega)] at e8
          have q1 := q.1
          have im2 := imax_sp 0 x8
          exact ih (by omega) (by omega)
      exact l59 FU
  have l24 : ∀ (n : Nat) {v2 v3 : Int} {u : Wd}, v2 ≤ 2147483647 → PC (f_R_line_24 n v1 v2 v3 u) (fun r v => v 43 15 = imax 0 r) := by
    intro n
    induction n with
    | zero => intros; exact pc_none
    | succ n ih =>
      intro v2 v3 u i2
      rw [f_R_line_24]
      refine pc_ite (fun _ => pc_lw (fun u5 e5 => l49 FU i2 (by rw [e5, st_eq]; omega))) (fun _ => pc_let (fun x11 e11 => pc_gd (fun _ => pc_let (fun _ _ => ih ?_))))
      have := w32_sp (v2 + 1)
      omega
  exact pc_w (l24 FU (by decide)) (fun _ _ z => Or.inr ⟨e, z⟩)
