/-! WHAT IS KEPT OF A SEARCH: it stays through all reading -/
def SJ (L : Int) (b w : Wd) : Prop := (w 5 = b 5 ∧ w 7 = b 7 ∧ w 28 = b 28 ∧ w 29 = b 29 ∧ w 30 = b 30 ∧ w 31 = b 31 ∧ w 35 = b 35) ∧ ROK w ∧ w 24 4 ≤ L
theorem sj_mono {L M : Int} {b w : Wd} (h : SJ L b w) (hM : L ≤ M) : SJ M b w := ⟨h.1, h.2.1, Int.le_trans h.2.2 hM⟩
theorem sj_st {L : Int} {b w u : Wd} {c k : Nat} {z : Int} (h : SJ L b w) (e : u = st w c k z) (hc : [5, 7, 24, 27, 28, 29, 30, 31, 35].contains c = false) : SJ L b u := by
  have f : ∀ c', [5, 7, 24, 27, 28, 29, 30, 31, 35].contains c' = true → u c' = w c' := fun c' hc' => by
    rw [e]; exact st_row (fun hh => by rw [hh, hc] at hc'; cases hc')
  unfold SJ ROK
  rw [f 5 rfl, f 7 rfl, f 24 rfl, f 27 rfl, f 28 rfl, f 29 rfl, f 30 rfl, f 31 rfl, f 35 rfl]
  exact h
theorem sj_s24 {L : Int} {b w u : Wd} {k : Nat} {z : Int} (h : SJ L b w) (e : u = st w 24 k z) (hk : (k == 4) = false) : SJ L b u := by
  have f : ∀ c', c' ≠ 24 → u c' = w c' := fun c' hc' => by rw [e]; exact st_row hc'
  have f4 : u 24 4 = w 24 4 := by rw [e]; exact st_k (fun hh => by rw [← hh] at hk; cases hk)
  unfold SJ ROK
  rw [f 5 (by decide), f 7 (by decide), f4, f 27 (by decide), f 28 (by decide), f 29 (by decide), f 30 (by decide), f 31 (by decide), f 35 (by decide)]
  exact h
theorem sj_fm {L : Int} {b w u : Wd} (h : SJ L b w) (f : FM w u) : SJ L b u := by
  have g := f.1
  have f4 : u 24 4 = w 24 4 := f.2.1 4 (by decide)
  obtain ⟨h1, h2, h3⟩ := h
  refine ⟨?_, ⟨by rw [f4]; exact h2.1, fun k hk => ?_⟩, by rw [f4]; exact h3⟩
  · rw [g 5 (by decide) (by decide) (by decide) (by decide), g 7 (by decide) (by decide) (by decide) (by decide), g 28 (by decide) (by decide) (by decide) (by decide), g 29 (by decide) (by decide) (by decide) (by decide), g 30 (by decide) (by decide) (by decide) (by decide), g 31 (by decide) (by decide) (by decide) (by decide), g 35 (by decide) (by decide) (by decide) (by decide)]
    exact h1
  · rw [f4]
    rcases f.2.2 k with e | e
    · rw [e]; exact h2.2 k hk
    · rw [e]; exact Int.le_refl _
theorem zq_E_isWeek {b : Wd} {v0 : Int} {w : Wd} (h : w = b) : PC (f_E_isWeek v0 w) (fun _ u => u = b) := by
  unfold f_E_isWeek
  refine pc_ite (fun _ => ?_) (fun _ => ?_)
  · exact pc_some h
  · refine pc_ite (fun _ => ?_) (fun _ => ?_)
    · exact pc_some h
    · exact pc_some h
theorem zq_F_isThere {b : Wd} {v1 : Int} {w : Wd} (h : w = b) : PC (f_F_isThere v1 w) (fun _ u => u = b) := by
  unfold f_F_isThere
  refine pc_ite (fun _ => ?_) (fun _ => ?_)
  · exact pc_some h
  · refine pc_ite (fun _ => ?_) (fun _ => ?_)
    · exact pc_some h
    · exact pc_some h
theorem zq_E_areTwo {b : Wd} {v1 v2 : Int} {w : Wd} (h : w = b) : PC (f_E_areTwo v1 v2 w) (fun _ u => u = b) := by
  unfold f_E_areTwo
  refine pc_ite (fun _ => ?_) (fun _ => ?_)
  · exact pc_some h
  · refine pc_call (zq_F_isThere h) (fun r1 u2 h => ?_)
    refine pc_ite (fun _ => ?_) (fun _ => ?_)
    · exact pc_some h
    · refine pc_call (zq_F_isThere h) (fun r3 u4 h => ?_)
      refine pc_ite (fun _ => ?_) (fun _ => ?_)
      · exact pc_some h
      · exact pc_some h
theorem zq_F_everybody {b : Wd} {w : Wd} (h : w = b) : PC (f_F_everybody  w) (fun _ u => u = b) := by
  unfold f_F_everybody
  exact pc_some h
theorem zq_O_known {b : Wd} {v0 : Int} {w : Wd} (h : w = b) : PC (f_O_known v0 w) (fun _ u => u = b) := by
  unfold f_O_known
  exact pc_some h
theorem zq_F_strangers {b : Wd} {w : Wd} (h : w = b) : PC (f_F_strangers  w) (fun _ u => u = b) := by
  unfold f_F_strangers
  refine pc_call (zq_F_everybody h) (fun r1 u2 h => ?_)
  refine pc_call (zq_O_known h) (fun r3 u4 h => ?_)
  exact pc_some h
theorem zq_F_free {b : Wd} {w : Wd} (h : w = b) : PC (f_F_free  w) (fun _ u => u = b) := by
  unfold f_F_free
  refine pc_call (zq_F_strangers h) (fun r1 u2 h => ?_)
  exact pc_some h
theorem zq_E_has {b : Wd} {v0 v1 : Int} {w : Wd} (h : w = b) : PC (f_E_has v0 v1 w) (fun _ u => u = b) := by
  unfold f_E_has
  refine pc_ite (fun _ => ?_) (fun _ => ?_)
  · exact pc_some h
  · refine pc_ite (fun _ => ?_) (fun _ => ?_)
    · exact pc_some h
    · refine pc_ite (fun _ => ?_) (fun _ => ?_)
      · exact pc_some h
      · exact pc_some h
theorem zs_O_lateOne {L : Int} {b : Wd} {v0 v1 : Int} {w : Wd} (h : SJ L b w) : PC (f_O_lateOne v0 v1 w) (fun _ u => SJ L b u) := by
  unfold f_O_lateOne
  refine pc_ite (fun _ => ?_) (fun _ => ?_)
  · exact pc_some h
  · exact pc_some h
theorem zs_O_lateTwo {L : Int} {b : Wd} {v0 v1 : Int} {w : Wd} (h : SJ L b w) : PC (f_O_lateTwo v0 v1 w) (fun _ u => SJ L b u) := by
  unfold f_O_lateTwo
  refine pc_ite (fun _ => ?_) (fun _ => ?_)
  · exact pc_some h
  · exact pc_some h
theorem zs_O_stay {L : Int} {b : Wd} {v0 v1 : Int} {w : Wd} (h : SJ L b w) : PC (f_O_stay v0 v1 w) (fun _ u => SJ L b u) := by
  unfold f_O_stay
  refine pc_call (zs_O_lateOne h) (fun r1 u2 h => ?_)
  refine pc_call (zs_O_lateTwo h) (fun r3 u4 h => ?_)
  exact pc_some h
theorem zs_F_everybody {L : Int} {b : Wd} {w : Wd} (h : SJ L b w) : PC (f_F_everybody  w) (fun _ u => SJ L b u) := by
  unfold f_F_everybody
  exact pc_some h
theorem zs_O_known {L : Int} {b : Wd} {v0 : Int} {w : Wd} (h : SJ L b w) : PC (f_O_known v0 w) (fun _ u => SJ L b u) := by
  unfold f_O_known
  exact pc_some h
theorem zs_M_prepare {L : Int} {b : Wd} {v2 v3 v4 : Int} {w : Wd} (h : SJ L b w) (hL : L + 1 ≤ 2147480000) : PC (f_M_prepare v2 v3 v4 w) (fun _ u => SJ (L + 1) b u) := by
  unfold f_M_prepare
  refine pc_lw (fun u1 e => ?_)
  replace h := sj_s24 h e rfl
  refine pc_lw (fun u2 e => ?_)
  replace h := sj_s24 h e rfl
  refine pc_call (zs_F_everybody h) (fun r3 u4 h => ?_)
  refine pc_call (zs_O_known h) (fun r5 u6 h => ?_)
  refine pc_lw (fun u7 e => ?_)
  replace h := sj_s24 h e rfl
  refine pc_call (zs_O_stay h) (fun r8 u9 h => ?_)
  refine pc_lw (fun u10 e => ?_)
  replace h := sj_s24 h e rfl
  refine pc_lw (fun u11 e => ?_)
  replace h := sj_s24 h e rfl
  refine pc_lw (fun u12 e => ?_)
  replace h := sj_s24 h e rfl
  refine pc_lw (fun u13 e => ?_)
  obtain ⟨h1, ⟨h2, h3⟩, h4⟩ := h
  have z := w32_sp (u12 24 4 + 1)
  have f : ∀ c', c' ≠ 24 → u13 c' = u12 c' := fun c' hc' => by rw [e]; exact st_row hc'
  have f4 : u13 24 4 = u12 24 4 + 1 := by rw [e, st_eq]; omega
  refine pc_some ⟨?_, ⟨by omega, fun k hk => ?_⟩, by omega⟩
  · rw [f 5 (by decide), f 7 (by decide), f 28 (by decide), f 29 (by decide), f 30 (by decide), f 31 (by decide), f 35 (by decide)]
    exact h1
  · rw [f4, f 27 (by decide)]
    have := h3 k hk
    omega
theorem zs_M_spread {L : Int} {b : Wd} {D : Nat} {f m x : Int} {w : Wd} (h : SJ L b w) : PC (f_M_spread D f m x w) (fun _ u => SJ L b u) := pc_w (spf_pc D) (fun _ _ q => sj_fm h q)
theorem zs_O_guests {L : Int} {b : Wd} {v0 : Int} {w : Wd} (h : SJ L b w) : PC (f_O_guests v0 w) (fun _ u => SJ L b u) := by
  unfold f_O_guests
  exact pc_some h
theorem zs_M_gather {L : Int} {b : Wd} {v2 v3 : Int} {w : Wd} (h : SJ L b w) (hL : L + 1 ≤ 2147480000) : PC (f_M_gather v2 v3 w) (fun _ u => SJ (L + 1) b u) := by
  unfold f_M_gather
  refine pc_call (zs_O_guests h) (fun r1 u2 h => ?_)
  refine pc_call (zs_M_prepare h (by omega)) (fun r3 u4 h => ?_)
  refine pc_call (zs_M_spread h) (fun r5 u6 h => ?_)
  exact pc_some (sj_mono h (by omega))
theorem zs_M_gatherBehind_34 {L : Int} {b : Wd} {v3 : Int} {w : Wd} (h : SJ L b w) : PC (f_M_gatherBehind_34 v3 w) (fun _ u => SJ L b u) := by
  unfold f_M_gatherBehind_34
  refine pc_call (zs_M_spread h) (fun r3 u4 h => ?_)
  exact pc_some h
theorem zs_JI_bitCount {L : Int} {b : Wd} {v0 : Int} {w : Wd} (h : SJ L b w) : PC (f_JI_bitCount v0 w) (fun _ u => SJ L b u) := by
  unfold f_JI_bitCount
  refine pc_let (fun x1 _ => ?_)
  refine pc_let (fun x2 _ => ?_)
  refine pc_let (fun x3 _ => ?_)
  refine pc_let (fun x4 _ => ?_)
  refine pc_let (fun x5 _ => ?_)
  exact pc_some h
theorem zs_M_gatherBehind {L : Int} {b : Wd} {v2 v3 : Int} {w : Wd} (h : SJ L b w) (hL : L + 1 ≤ 2147480000) : PC (f_M_gatherBehind v2 v3 w) (fun _ u => SJ (L + 1) b u) := by
  unfold f_M_gatherBehind
  refine pc_call (zs_M_prepare h (by omega)) (fun r1 u2 h => ?_)
  refine pc_ite (fun _ => ?_) (fun _ => ?_)
  · exact pc_w (zs_M_gatherBehind_34 h) (fun _ _ h => sj_mono h (by omega))
  · refine pc_call (zs_JI_bitCount h) (fun r5 u6 h => ?_)
    refine pc_ite (fun _ => ?_) (fun _ => ?_)
    · exact pc_some (sj_mono h (by omega))
    · exact pc_w (zs_M_gatherBehind_34 h) (fun _ _ h => sj_mono h (by omega))
theorem zs_F_strangers {L : Int} {b : Wd} {w : Wd} (h : SJ L b w) : PC (f_F_strangers  w) (fun _ u => SJ L b u) := by
  unfold f_F_strangers
  refine pc_call (zs_F_everybody h) (fun r1 u2 h => ?_)
  refine pc_call (zs_O_known h) (fun r3 u4 h => ?_)
  exact pc_some h
theorem zs_N_clear {L : Int} {b : Wd} {w : Wd} (h : SJ L b w) : PC (f_N_clear  w) (fun _ u => SJ L b u) := by
  unfold f_N_clear
  refine pc_lw (fun u1 e => ?_)
  replace h := sj_st h e (by decide)
  exact pc_some h
theorem zs_N_put {L : Int} {b : Wd} {v1 : Int} {w : Wd} (h : SJ L b w) : PC (f_N_put v1 w) (fun _ u => SJ L b u) := by
  unfold f_N_put
  refine pc_ite (fun _ => ?_) (fun _ => ?_)
  · exact pc_some h
  · refine pc_gd (fun _ => ?_)
    refine pc_lw (fun u1 e => ?_)
    replace h := sj_st h e (by decide)
    refine pc_lw (fun u2 e => ?_)
    replace h := sj_st h e (by decide)
    exact pc_some h
theorem zs_N_tell1 {L : Int} {b : Wd} {v1 : Int} {w : Wd} (h : SJ L b w) : PC (f_N_tell1 v1 w) (fun _ u => SJ L b u) := by
  unfold f_N_tell1
  refine pc_call (zs_N_clear h) (fun r1 u2 h => ?_)
  refine pc_call (zs_N_put h) (fun r3 u4 h => ?_)
  exact pc_some h
theorem zs_F_guests {L : Int} {b : Wd} {w : Wd} (h : SJ L b w) : PC (f_F_guests  w) (fun _ u => SJ L b u) := by
  unfold f_F_guests
  refine pc_call (zs_O_guests h) (fun r1 u2 h => ?_)
  exact pc_some h
theorem zs_M_moversOf {L : Int} {b : Wd} {v1 : Int} {w : Wd} (h : SJ L b w) : PC (f_M_moversOf v1 w) (fun _ u => SJ L b u) := by
  unfold f_M_moversOf
  refine pc_ite (fun _ => ?_) (fun _ => ?_)
  · exact pc_some h
  · refine pc_ite (fun _ => ?_) (fun _ => ?_)
    · exact pc_some h
    · refine pc_gd (fun _ => ?_)
      exact pc_some h
theorem zs_E_can_29 {L : Int} {b : Wd} : ∀ (n : Nat) {v1 v2 : Int} {w : Wd}, SJ L b w → PC (f_E_can_29 n v1 v2 w) (fun _ u => SJ L b u) := by
  intro n
  induction n with
  | zero => intros; exact pc_none
  | succ n ih =>
    intro v1 v2 w h
    rw [f_E_can_29]
    refine pc_ite (fun _ => ?_) (fun _ => ?_)
    · refine pc_call (zs_F_strangers h) (fun r3 u4 h => ?_)
      refine pc_call (zs_N_tell1 h) (fun r5 u6 h => ?_)
      refine pc_call (zs_F_guests h) (fun r7 u8 h => ?_)
      exact pc_some h
    · refine pc_call (zs_M_moversOf h) (fun r9 u10 h => ?_)
      refine pc_let (fun x11 _ => ?_)
      refine pc_let (fun x12 _ => ?_)
      exact ih h
theorem zs_E_can {L : Int} {b : Wd} {w : Wd} (h : SJ L b w) (hL : L + 1 ≤ 2147480000) : PC (f_E_can  w) (fun _ u => SJ (L + 1) b u) := by
  unfold f_E_can
  refine pc_call (zs_M_gather h (by omega)) (fun r1 u2 h => ?_)
  exact pc_w (zs_E_can_29 _ h) (fun _ _ h => sj_mono h (by omega))
theorem zs_E_largestWeek_62 {L : Int} {b : Wd} {k24 : Int → Int → Wd → Option (Int × Wd)} {v1 v2 : Int} {w : Wd} (h : SJ L b w) (hk : ∀ {a0 a1 : Int} {w : Wd}, SJ L b w → PC (k24 a0 a1 w) (fun _ u => SJ L b u)) : PC (f_E_largestWeek_62 k24 v1 v2 w) (fun _ u => SJ L b u) := by
  unfold f_E_largestWeek_62
  refine pc_let (fun x11 _ => ?_)
  exact hk h
theorem zs_E_largestWeek_24 {L : Int} {b : Wd} : ∀ (n : Nat) {v1 v2 : Int} {w : Wd}, SJ L b w → PC (f_E_largestWeek_24 n v1 v2 w) (fun _ u => SJ L b u) := by
  intro n
  induction n with
  | zero => intros; exact pc_none
  | succ n ih =>
    intro v1 v2 w h
    rw [f_E_largestWeek_24]
    refine pc_ite (fun _ => ?_) (fun _ => ?_)
    · exact pc_some h
    · refine pc_call (zs_M_moversOf h) (fun r3 u4 h => ?_)
      refine pc_call (zs_JI_bitCount h) (fun r5 u6 h => ?_)
      refine pc_call (zs_M_moversOf h) (fun r7 u8 h => ?_)
      refine pc_call (zs_JI_bitCount h) (fun r9 u10 h => ?_)
      refine pc_ite (fun _ => ?_) (fun _ => ?_)
      · exact (zs_E_largestWeek_62 h (fun h => ih h))
      · exact (zs_E_largestWeek_62 h (fun h => ih h))
theorem zs_E_largestWeek {L : Int} {b : Wd} {w : Wd} (h : SJ L b w) (hL : L + 1 ≤ 2147480000) : PC (f_E_largestWeek  w) (fun _ u => SJ (L + 1) b u) := by
  unfold f_E_largestWeek
  refine pc_call (zs_M_gather h (by omega)) (fun r1 u2 h => ?_)
  exact pc_w (zs_E_largestWeek_24 _ h) (fun _ _ h => sj_mono h (by omega))
theorem zs_E_lowest {L : Int} {b : Wd} {v0 : Int} {w : Wd} (h : SJ L b w) : PC (f_E_lowest v0 w) (fun _ u => SJ L b u) := by
  unfold f_E_lowest
  refine pc_ite (fun _ => ?_) (fun _ => ?_)
  · exact pc_some h
  · refine pc_call (zs_JI_bitCount h) (fun r1 u2 h => ?_)
    exact pc_some h
theorem zs_N_putFirst_12 {L : Int} {b : Wd} : ∀ (n : Nat) {v1 v2 : Int} {w : Wd}, SJ L b w → PC (f_N_putFirst_12 n v1 v2 w) (fun _ u => SJ L b u) := by
  intro n
  induction n with
  | zero => intros; exact pc_none
  | succ n ih =>
    intro v1 v2 w h
    rw [f_N_putFirst_12]
    refine pc_ite (fun _ => ?_) (fun _ => ?_)
    · exact pc_some h
    · refine pc_gd (fun _ => ?_)
      refine pc_gd (fun _ => ?_)
      refine pc_lw (fun u4 e => ?_)
      replace h := sj_st h e (by decide)
      refine pc_gd (fun _ => ?_)
      refine pc_lw (fun u5 e => ?_)
      replace h := sj_st h e (by decide)
      refine pc_let (fun x6 _ => ?_)
      exact ih h
theorem zs_N_putFirst {L : Int} {b : Wd} {v1 : Int} {w : Wd} (h : SJ L b w) : PC (f_N_putFirst v1 w) (fun _ u => SJ L b u) := by
  unfold f_N_putFirst
  refine pc_call (zs_N_put h) (fun r1 u2 h => ?_)
  refine pc_let (fun x3 _ => ?_)
  exact (zs_N_putFirst_12 _ h)
theorem zs_M_tellPairs_9 {L : Int} {b : Wd} : ∀ (n : Nat) {v3 v4 : Int} {w : Wd}, SJ L b w → PC (f_M_tellPairs_9 n v3 v4 w) (fun _ u => SJ L b u) := by
  intro n
  induction n with
  | zero => intros; exact pc_none
  | succ n ih =>
    intro v3 v4 w h
    rw [f_M_tellPairs_9]
    refine pc_ite (fun _ => ?_) (fun _ => ?_)
    · exact pc_some h
    · refine pc_ite (fun _ => ?_) (fun _ => ?_)
      · exact pc_some h
      · refine pc_ite (fun _ => ?_) (fun _ => ?_)
        · exact pc_some h
        · refine pc_gd (fun _ => ?_)
          refine pc_gd (fun _ => ?_)
          refine pc_call (zs_M_moversOf h) (fun r3 u4 h => ?_)
          refine pc_let (fun x5 _ => ?_)
          refine pc_call (zs_E_lowest h) (fun r6 u7 h => ?_)
          refine pc_call (zs_E_lowest h) (fun r8 u9 h => ?_)
          refine pc_call (zs_N_putFirst h) (fun r10 u11 h => ?_)
          refine pc_gd (fun _ => ?_)
          refine pc_let (fun x12 _ => ?_)
          refine pc_let (fun x13 _ => ?_)
          exact ih h
theorem zs_M_tellPairs {L : Int} {b : Wd} {v1 : Int} {w : Wd} (h : SJ L b w) : PC (f_M_tellPairs v1 w) (fun _ u => SJ L b u) := by
  unfold f_M_tellPairs
  refine pc_call (zs_N_clear h) (fun r1 u2 h => ?_)
  exact (zs_M_tellPairs_9 _ h)
theorem zs_E_pairs {L : Int} {b : Wd} {w : Wd} (h : SJ L b w) (hL : L + 1 ≤ 2147480000) : PC (f_E_pairs  w) (fun _ u => SJ (L + 1) b u) := by
  unfold f_E_pairs
  refine pc_call (zs_E_largestWeek h (by omega)) (fun r1 u2 h => ?_)
  refine pc_call (zs_M_tellPairs h) (fun r3 u4 h => ?_)
  exact pc_some (sj_mono h (by omega))
theorem zs_E_has {L : Int} {b : Wd} {v0 v1 : Int} {w : Wd} (h : SJ L b w) : PC (f_E_has v0 v1 w) (fun _ u => SJ L b u) := by
  unfold f_E_has
  refine pc_ite (fun _ => ?_) (fun _ => ?_)
  · exact pc_some h
  · refine pc_ite (fun _ => ?_) (fun _ => ?_)
    · exact pc_some h
    · refine pc_ite (fun _ => ?_) (fun _ => ?_)
      · exact pc_some h
      · exact pc_some h
theorem zs_F_knownBy_31 {L : Int} {b : Wd} {k4 : Int → Int → Int → Wd → Option (Int × Wd)} {v1 v3 s0 s1 : Int} {w : Wd} (h : SJ L b w) (hk : ∀ {a0 a1 a2 : Int} {w : Wd}, SJ L b w → PC (k4 a0 a1 a2 w) (fun _ u => SJ L b u)) : PC (f_F_knownBy_31 k4 v1 v3 s0 s1 w) (fun _ u => SJ L b u) := by
  unfold f_F_knownBy_31
  refine pc_let (fun x3 _ => ?_)
  refine pc_let (fun x4 _ => ?_)
  exact hk h
theorem zs_F_knownBy_4 {L : Int} {b : Wd} : ∀ (n : Nat) {v1 v2 v3 : Int} {w : Wd}, SJ L b w → PC (f_F_knownBy_4 n v1 v2 v3 w) (fun _ u => SJ L b u) := by
  intro n
  induction n with
  | zero => intros; exact pc_none
  | succ n ih =>
    intro v1 v2 v3 w h
    rw [f_F_knownBy_4]
    refine pc_ite (fun _ => ?_) (fun _ => ?_)
    · exact pc_some h
    · refine pc_call (zs_E_has h) (fun r1 u2 h => ?_)
      refine pc_ite (fun _ => ?_) (fun _ => ?_)
      · exact (zs_F_knownBy_31 h (fun h => ih h))
      · refine pc_gd (fun _ => ?_)
        exact (zs_F_knownBy_31 h (fun h => ih h))
theorem zs_F_knownBy {L : Int} {b : Wd} {v1 : Int} {w : Wd} (h : SJ L b w) : PC (f_F_knownBy v1 w) (fun _ u => SJ L b u) := by
  unfold f_F_knownBy
  exact (zs_F_knownBy_4 _ h)
theorem zs_F_free {L : Int} {b : Wd} {w : Wd} (h : SJ L b w) : PC (f_F_free  w) (fun _ u => SJ L b u) := by
  unfold f_F_free
  refine pc_call (zs_F_strangers h) (fun r1 u2 h => ?_)
  exact pc_some h
theorem zs_N_tell2 {L : Int} {b : Wd} {v1 v2 : Int} {w : Wd} (h : SJ L b w) : PC (f_N_tell2 v1 v2 w) (fun _ u => SJ L b u) := by
  unfold f_N_tell2
  refine pc_call (zs_N_tell1 h) (fun r1 u2 h => ?_)
  refine pc_call (zs_N_put h) (fun r3 u4 h => ?_)
  exact pc_some h
theorem zs_E_bars_89 {L : Int} {b : Wd} {k32 : Int → Int → Int → Wd → Option (Int × Wd)} {v1 v2 v3 : Int} {w : Wd} (h : SJ L b w) (hk : ∀ {a0 a1 a2 : Int} {w : Wd}, SJ L b w → PC (k32 a0 a1 a2 w) (fun _ u => SJ L b u)) : PC (f_E_bars_89 k32 v1 v2 v3 w) (fun _ u => SJ L b u) := by
  unfold f_E_bars_89
  refine pc_let (fun x17 _ => ?_)
  exact hk h
theorem zs_E_bars_32 {L : Int} {b : Wd} : ∀ (n : Nat) {v1 v2 v3 : Int} {w : Wd}, SJ L b w → PC (f_E_bars_32 n v1 v2 v3 w) (fun _ u => SJ L b u) := by
  intro n
  induction n with
  | zero => intros; exact pc_none
  | succ n ih =>
    intro v1 v2 v3 w h
    rw [f_E_bars_32]
    refine pc_ite (fun _ => ?_) (fun _ => ?_)
    · exact pc_some h
    · refine pc_call (zs_F_knownBy h) (fun r12 u13 h => ?_)
      refine pc_call (zs_F_free h) (fun r14 u15 h => ?_)
      refine pc_let (fun x16 _ => ?_)
      refine pc_ite (fun _ => ?_) (fun _ => ?_)
      · refine pc_call (zs_JI_bitCount h) (fun r18 u19 h => ?_)
        refine pc_call (zs_JI_bitCount h) (fun r20 u21 h => ?_)
        refine pc_ite (fun _ => ?_) (fun _ => ?_)
        · refine pc_call (zs_N_tell2 h) (fun r22 u23 h => ?_)
          exact pc_some h
        · exact (zs_E_bars_89 h (fun h => ih h))
      · exact (zs_E_bars_89 h (fun h => ih h))
theorem zs_E_bars {L : Int} {b : Wd} {w : Wd} (h : SJ L b w) (hL : L + 1 ≤ 2147480000) : PC (f_E_bars  w) (fun _ u => SJ (L + 1) b u) := by
  unfold f_E_bars
  refine pc_call (zs_F_guests h) (fun r1 u2 h => ?_)
  refine pc_call (zs_JI_bitCount h) (fun r3 u4 h => ?_)
  refine pc_call (zs_E_largestWeek h (by omega)) (fun r5 u6 h => ?_)
  refine pc_call (zs_M_moversOf h) (fun r7 u8 h => ?_)
  refine pc_call (zs_JI_bitCount h) (fun r9 u10 h => ?_)
  refine pc_ite (fun _ => pc_none) (fun _ => ?_)
  refine pc_let (fun x11 _ => ?_)
  exact pc_w (zs_E_bars_32 _ h) (fun _ _ h => sj_mono h (by omega))
theorem zs_S_guests {L : Int} {b : Wd} {v1 : Int} {w : Wd} (h : SJ L b w) : PC (f_S_guests v1 w) (fun _ u => SJ L b u) := by
  unfold f_S_guests
  refine pc_ite (fun _ => ?_) (fun _ => ?_)
  · exact pc_some h
  · refine pc_ite (fun _ => ?_) (fun _ => ?_)
    · exact pc_some h
    · refine pc_gd (fun _ => ?_)
      refine pc_call (zs_O_guests h) (fun r1 u2 h => ?_)
      exact pc_some h
theorem zs_O_out {L : Int} {b : Wd} {v0 : Int} {w : Wd} (h : SJ L b w) : PC (f_O_out v0 w) (fun _ u => SJ L b u) := by
  unfold f_O_out
  exact pc_some h
theorem zs_O_after {L : Int} {b : Wd} {v0 v1 v2 : Int} {w : Wd} (h : SJ L b w) : PC (f_O_after v0 v1 v2 w) (fun _ u => SJ L b u) := by
  unfold f_O_after
  refine pc_call (zs_O_lateOne h) (fun r1 u2 h => ?_)
  refine pc_let (fun x3 _ => ?_)
  refine pc_call (zs_O_lateTwo h) (fun r4 u5 h => ?_)
  refine pc_let (fun x6 _ => ?_)
  refine pc_call (zs_O_out h) (fun r7 u8 h => ?_)
  refine pc_call (zs_O_guests h) (fun r9 u10 h => ?_)
  refine pc_let (fun x11 _ => ?_)
  exact pc_some h
theorem zs_S_slotOf_14 {L : Int} {b : Wd} : ∀ (n : Nat) {v1 v2 v3 : Int} {w : Wd}, SJ L b w → PC (f_S_slotOf_14 n v1 v2 v3 w) (fun _ u => SJ L b u) := by
  intro n
  induction n with
  | zero => intros; exact pc_none
  | succ n ih =>
    intro v1 v2 v3 w h
    rw [f_S_slotOf_14]
    refine pc_ite (fun _ => ?_) (fun _ => ?_)
    · exact pc_some h
    · refine pc_gd (fun _ => ?_)
      refine pc_ite (fun _ => ?_) (fun _ => ?_)
      · exact pc_some h
      · refine pc_gd (fun _ => ?_)
        refine pc_gd (fun _ => ?_)
        refine pc_ite (fun _ => ?_) (fun _ => ?_)
        · exact pc_some h
        · refine pc_ite (fun _ => pc_none) (fun _ => ?_)
          refine pc_let (fun x2 _ => ?_)
          refine pc_let (fun x3 _ => ?_)
          exact ih h
theorem zs_S_slotOf {L : Int} {b : Wd} {v1 : Int} {w : Wd} (h : SJ L b w) : PC (f_S_slotOf v1 w) (fun _ u => SJ L b u) := by
  unfold f_S_slotOf
  refine pc_ite (fun _ => pc_none) (fun _ => ?_)
  refine pc_let (fun x1 _ => ?_)
  exact (zs_S_slotOf_14 _ h)
theorem zs_S_leftOf {L : Int} {b : Wd} {v1 : Int} {w : Wd} (h : SJ L b w) : PC (f_S_leftOf v1 w) (fun _ u => SJ L b u) := by
  unfold f_S_leftOf
  refine pc_call (zs_S_slotOf h) (fun r1 u2 h => ?_)
  refine pc_gd (fun _ => ?_)
  refine pc_let (fun x3 _ => ?_)
  refine pc_ite (fun _ => ?_) (fun _ => ?_)
  · exact pc_some h
  · refine pc_ite (fun _ => ?_) (fun _ => ?_)
    · exact pc_some h
    · refine pc_gd (fun _ => ?_)
      exact pc_some h
theorem zs_S_leftBehind_29 {L : Int} {b : Wd} : ∀ (n : Nat) {v1 v4 v6 : Int} {w : Wd}, SJ L b w → PC (f_S_leftBehind_29 n v1 v4 v6 w) (fun _ u => SJ L b u) := by
  intro n
  induction n with
  | zero => intros; exact pc_none
  | succ n ih =>
    intro v1 v4 v6 w h
    rw [f_S_leftBehind_29]
    refine pc_ite (fun _ => ?_) (fun _ => ?_)
    · exact pc_some h
    · refine pc_gd (fun _ => ?_)
      refine pc_call (zs_M_moversOf h) (fun r5 u6 h => ?_)
      refine pc_call (zs_O_after h) (fun r7 u8 h => ?_)
      refine pc_call (zs_S_leftOf h) (fun r9 u10 h => ?_)
      refine pc_let (fun x11 _ => ?_)
      refine pc_let (fun x12 _ => ?_)
      exact ih h
theorem zs_S_leftBehind {L : Int} {b : Wd} {v1 : Int} {w : Wd} (h : SJ L b w) (hL : L + 1 ≤ 2147480000) : PC (f_S_leftBehind v1 w) (fun _ u => SJ (L + 1) b u) := by
  unfold f_S_leftBehind
  refine pc_call (zs_S_guests h) (fun r1 u2 h => ?_)
  refine pc_ite (fun _ => ?_) (fun _ => ?_)
  · exact pc_some (sj_mono h (by omega))
  · refine pc_gd (fun _ => ?_)
    refine pc_call (zs_M_gather h (by omega)) (fun r3 u4 h => ?_)
    exact pc_w (zs_S_leftBehind_29 _ h) (fun _ _ h => sj_mono h (by omega))
theorem zs_F_pricesOf_31 {L : Int} {b : Wd} {k4 : Int → Int → Int → Wd → Option (Int × Wd)} {v1 v3 s0 s1 : Int} {w : Wd} (h : SJ L b w) (hk : ∀ {a0 a1 a2 : Int} {w : Wd}, SJ L b w → PC (k4 a0 a1 a2 w) (fun _ u => SJ L b u)) : PC (f_F_pricesOf_31 k4 v1 v3 s0 s1 w) (fun _ u => SJ L b u) := by
  unfold f_F_pricesOf_31
  refine pc_let (fun x3 _ => ?_)
  refine pc_let (fun x4 _ => ?_)
  exact hk h
theorem zs_F_pricesOf_4 {L : Int} {b : Wd} : ∀ (n : Nat) {v1 v2 v3 : Int} {w : Wd}, SJ L b w → PC (f_F_pricesOf_4 n v1 v2 v3 w) (fun _ u => SJ L b u) := by
  intro n
  induction n with
  | zero => intros; exact pc_none
  | succ n ih =>
    intro v1 v2 v3 w h
    rw [f_F_pricesOf_4]
    refine pc_ite (fun _ => ?_) (fun _ => ?_)
    · exact pc_some h
    · refine pc_call (zs_E_has h) (fun r1 u2 h => ?_)
      refine pc_ite (fun _ => ?_) (fun _ => ?_)
      · exact (zs_F_pricesOf_31 h (fun h => ih h))
      · refine pc_gd (fun _ => ?_)
        exact (zs_F_pricesOf_31 h (fun h => ih h))
theorem zs_F_pricesOf {L : Int} {b : Wd} {v1 : Int} {w : Wd} (h : SJ L b w) : PC (f_F_pricesOf v1 w) (fun _ u => SJ L b u) := by
  unfold f_F_pricesOf
  exact (zs_F_pricesOf_4 _ h)
theorem zs_S_paidFor {L : Int} {b : Wd} {v1 : Int} {w : Wd} (h : SJ L b w) : PC (f_S_paidFor v1 w) (fun _ u => SJ L b u) := by
  unfold f_S_paidFor
  refine pc_ite (fun _ => ?_) (fun _ => ?_)
  · exact pc_some h
  · refine pc_ite (fun _ => ?_) (fun _ => ?_)
    · exact pc_some h
    · refine pc_call (zs_F_strangers h) (fun r1 u2 h => ?_)
      refine pc_gd (fun _ => ?_)
      refine pc_call (zs_O_known h) (fun r3 u4 h => ?_)
      refine pc_call (zs_F_pricesOf h) (fun r5 u6 h => ?_)
      exact pc_some h
theorem zs_S_leads {L : Int} {b : Wd} {v1 v2 : Int} {w : Wd} (h : SJ L b w) : PC (f_S_leads v1 v2 w) (fun _ u => SJ L b u) := by
  unfold f_S_leads
  refine pc_call (zs_S_leftOf h) (fun r1 u2 h => ?_)
  refine pc_ite (fun _ => ?_) (fun _ => ?_)
  · exact pc_some h
  · exact pc_some h
theorem zs_E_firstThatLeads_2 {L : Int} {b : Wd} : ∀ (n : Nat) {v1 v2 : Int} {w : Wd}, SJ L b w → PC (f_E_firstThatLeads_2 n v1 v2 w) (fun _ u => SJ L b u) := by
  intro n
  induction n with
  | zero => intros; exact pc_none
  | succ n ih =>
    intro v1 v2 w h
    rw [f_E_firstThatLeads_2]
    refine pc_ite (fun _ => ?_) (fun _ => ?_)
    · exact pc_some h
    · refine pc_call (zs_M_moversOf h) (fun r1 u2 h => ?_)
      refine pc_call (zs_O_after h) (fun r3 u4 h => ?_)
      refine pc_call (zs_S_leads h) (fun r5 u6 h => ?_)
      refine pc_ite (fun _ => ?_) (fun _ => ?_)
      · refine pc_let (fun x7 _ => ?_)
        exact ih h
      · exact pc_some h
theorem zs_E_firstThatLeads {L : Int} {b : Wd} {v1 : Int} {w : Wd} (h : SJ L b w) : PC (f_E_firstThatLeads v1 w) (fun _ u => SJ L b u) := by
  unfold f_E_firstThatLeads
  exact (zs_E_firstThatLeads_2 _ h)
theorem zs_E_tellFirstWeek {L : Int} {b : Wd} {v1 : Int} {w : Wd} (h : SJ L b w) (hL : L + 1 ≤ 2147480000) : PC (f_E_tellFirstWeek v1 w) (fun _ u => SJ (L + 1) b u) := by
  unfold f_E_tellFirstWeek
  refine pc_call (zs_M_gather h (by omega)) (fun r1 u2 h => ?_)
  refine pc_call (zs_E_firstThatLeads h) (fun r3 u4 h => ?_)
  refine pc_ite (fun _ => ?_) (fun _ => ?_)
  · exact pc_some (sj_mono h (by omega))
  · refine pc_call (zs_M_tellPairs h) (fun r5 u6 h => ?_)
    exact pc_some (sj_mono h (by omega))
theorem zs_S_mostGuests_4 {L : Int} {b : Wd} : ∀ (n : Nat) {v1 v2 : Int} {w : Wd}, SJ L b w → PC (f_S_mostGuests_4 n v1 v2 w) (fun _ u => SJ L b u) := by
  intro n
  induction n with
  | zero => intros; exact pc_none
  | succ n ih =>
    intro v1 v2 w h
    rw [f_S_mostGuests_4]
    refine pc_ite (fun _ => ?_) (fun _ => ?_)
    · exact pc_some h
    · refine pc_call (zs_S_guests h) (fun r1 u2 h => ?_)
      refine pc_call (zs_JI_bitCount h) (fun r3 u4 h => ?_)
      refine pc_let (fun x5 _ => ?_)
      refine pc_let (fun x6 _ => ?_)
      exact ih h
theorem zs_S_mostGuests {L : Int} {b : Wd} {w : Wd} (h : SJ L b w) : PC (f_S_mostGuests  w) (fun _ u => SJ L b u) := by
  unfold f_S_mostGuests
  exact (zs_S_mostGuests_4 _ h)
theorem zs_E_states_53 {L : Int} {b : Wd} {k25 : Int → Int → Wd → Option (Int × Wd)} {v2 s0 s1 : Int} {w : Wd} (h : SJ L b w) (hk : ∀ {a0 a1 : Int} {w : Wd}, SJ L b w → PC (k25 a0 a1 w) (fun _ u => SJ L b u)) : PC (f_E_states_53 k25 v2 s0 s1 w) (fun _ u => SJ L b u) := by
  unfold f_E_states_53
  refine pc_let (fun x9 _ => ?_)
  refine pc_let (fun x10 _ => ?_)
  exact hk h
theorem zs_E_states_25 {L : Int} {b : Wd} : ∀ (n : Nat) {v1 v2 : Int} {w : Wd}, SJ L b w → PC (f_E_states_25 n v1 v2 w) (fun _ u => SJ L b u) := by
  intro n
  induction n with
  | zero => intros; exact pc_none
  | succ n ih =>
    intro v1 v2 w h
    rw [f_E_states_25]
    refine pc_ite (fun _ => ?_) (fun _ => ?_)
    · refine pc_call (zs_S_mostGuests h) (fun r3 u4 h => ?_)
      refine pc_call (zs_N_tell2 h) (fun r5 u6 h => ?_)
      exact pc_some h
    · refine pc_call (zs_S_guests h) (fun r7 u8 h => ?_)
      refine pc_ite (fun _ => ?_) (fun _ => ?_)
      · exact (zs_E_states_53 h (fun h => ih h))
      · exact (zs_E_states_53 h (fun h => ih h))
theorem zs_E_isWeek {L : Int} {b : Wd} {v0 : Int} {w : Wd} (h : SJ L b w) : PC (f_E_isWeek v0 w) (fun _ u => SJ L b u) := by
  unfold f_E_isWeek
  refine pc_ite (fun _ => ?_) (fun _ => ?_)
  · exact pc_some h
  · refine pc_ite (fun _ => ?_) (fun _ => ?_)
    · exact pc_some h
    · exact pc_some h
theorem zs_S_weeksOf {L : Int} {b : Wd} {v1 : Int} {w : Wd} (h : SJ L b w) : PC (f_S_weeksOf v1 w) (fun _ u => SJ L b u) := by
  unfold f_S_weeksOf
  refine pc_ite (fun _ => ?_) (fun _ => ?_)
  · exact pc_some h
  · refine pc_ite (fun _ => ?_) (fun _ => ?_)
    · exact pc_some h
    · refine pc_gd (fun _ => ?_)
      exact pc_some h
theorem zs_S_canBe {L : Int} {b : Wd} {v1 v2 : Int} {w : Wd} (h : SJ L b w) : PC (f_S_canBe v1 v2 w) (fun _ u => SJ L b u) := by
  unfold f_S_canBe
  refine pc_call (zs_S_weeksOf h) (fun r1 u2 h => ?_)
  refine pc_ite (fun _ => ?_) (fun _ => ?_)
  · exact pc_some h
  · exact pc_some h
theorem zs_E_most_82 {L : Int} {b : Wd} {k37 : Int → Int → Int → Int → Wd → Option (Int × Wd)} {v1 v2 v3 v4 : Int} {w : Wd} (h : SJ L b w) (hk : ∀ {a0 a1 a2 a3 : Int} {w : Wd}, SJ L b w → PC (k37 a0 a1 a2 a3 w) (fun _ u => SJ L b u)) : PC (f_E_most_82 k37 v1 v2 v3 v4 w) (fun _ u => SJ L b u) := by
  unfold f_E_most_82
  refine pc_let (fun x9 _ => ?_)
  exact hk h
theorem zs_E_most_37 {L : Int} {b : Wd} : ∀ (n : Nat) {v1 v2 v3 v4 : Int} {w : Wd}, SJ L b w → PC (f_E_most_37 n v1 v2 v3 v4 w) (fun _ u => SJ L b u) := by
  intro n
  induction n with
  | zero => intros; exact pc_none
  | succ n ih =>
    intro v1 v2 v3 v4 w h
    rw [f_E_most_37]
    refine pc_ite (fun _ => ?_) (fun _ => ?_)
    · refine pc_call (zs_N_tell1 h) (fun r5 u6 h => ?_)
      exact pc_some h
    · refine pc_call (zs_S_canBe h) (fun r7 u8 h => ?_)
      refine pc_ite (fun _ => ?_) (fun _ => ?_)
      · exact (zs_E_most_82 h (fun h => ih h))
      · refine pc_call (zs_S_guests h) (fun r10 u11 h => ?_)
        refine pc_call (zs_JI_bitCount h) (fun r12 u13 h => ?_)
        refine pc_let (fun x14 _ => ?_)
        refine pc_let (fun x15 _ => ?_)
        exact (zs_E_most_82 h (fun h => ih h))
theorem zs_E_reach_100 {L : Int} {b : Wd} {k39 : Int → Int → Int → Int → Wd → Option (Int × Wd)} {v1 v2 v3 v4 : Int} {w : Wd} (h : SJ L b w) (hk : ∀ {a0 a1 a2 a3 : Int} {w : Wd}, SJ L b w → PC (k39 a0 a1 a2 a3 w) (fun _ u => SJ L b u)) : PC (f_E_reach_100 k39 v1 v2 v3 v4 w) (fun _ u => SJ L b u) := by
  unfold f_E_reach_100
  refine pc_let (fun x9 _ => ?_)
  exact hk h
theorem zs_E_reach_39 {L : Int} {b : Wd} : ∀ (n : Nat) {v1 v2 v3 v4 : Int} {w : Wd}, SJ L b w → PC (f_E_reach_39 n v1 v2 v3 v4 w) (fun _ u => SJ L b u) := by
  intro n
  induction n with
  | zero => intros; exact pc_none
  | succ n ih =>
    intro v1 v2 v3 v4 w h
    rw [f_E_reach_39]
    refine pc_ite (fun _ => ?_) (fun _ => ?_)
    · refine pc_call (zs_N_tell1 h) (fun r5 u6 h => ?_)
      exact pc_some h
    · refine pc_call (zs_S_canBe h) (fun r7 u8 h => ?_)
      refine pc_ite (fun _ => ?_) (fun _ => ?_)
      · exact (zs_E_reach_100 h (fun h => ih h))
      · refine pc_call (zs_S_guests h) (fun r10 u11 h => ?_)
        refine pc_ite (fun _ => ?_) (fun _ => ?_)
        · exact (zs_E_reach_100 h (fun h => ih h))
        · refine pc_call (zs_S_guests h) (fun r12 u13 h => ?_)
          refine pc_let (fun x14 _ => ?_)
          refine pc_call (zs_S_guests h) (fun r15 u16 h => ?_)
          refine pc_let (fun x17 _ => ?_)
          exact (zs_E_reach_100 h (fun h => ih h))
theorem zs_S_fewestGuests_42 {L : Int} {b : Wd} {k4 : Int → Int → Int → Wd → Option (Int × Wd)} {v1 v2 v3 : Int} {w : Wd} (h : SJ L b w) (hk : ∀ {a0 a1 a2 : Int} {w : Wd}, SJ L b w → PC (k4 a0 a1 a2 w) (fun _ u => SJ L b u)) : PC (f_S_fewestGuests_42 k4 v1 v2 v3 w) (fun _ u => SJ L b u) := by
  unfold f_S_fewestGuests_42
  refine pc_let (fun x3 _ => ?_)
  exact hk h
theorem zs_E_less_10 {L : Int} {b : Wd} {v1 : Int} {w : Wd} (h : SJ L b w) : PC (f_E_less_10 v1 w) (fun _ u => SJ L b u) := by
  unfold f_E_less_10
  exact pc_some h
theorem zs_E_less {L : Int} {b : Wd} {v0 v1 : Int} {w : Wd} (h : SJ L b w) : PC (f_E_less v0 v1 w) (fun _ u => SJ L b u) := by
  unfold f_E_less
  refine pc_ite (fun _ => ?_) (fun _ => ?_)
  · exact (zs_E_less_10 h)
  · refine pc_ite (fun _ => ?_) (fun _ => ?_)
    · exact pc_some h
    · exact (zs_E_less_10 h)
theorem zs_S_fewestGuests_4 {L : Int} {b : Wd} : ∀ (n : Nat) {v1 v2 v3 : Int} {w : Wd}, SJ L b w → PC (f_S_fewestGuests_4 n v1 v2 v3 w) (fun _ u => SJ L b u) := by
  intro n
  induction n with
  | zero => intros; exact pc_none
  | succ n ih =>
    intro v1 v2 v3 w h
    rw [f_S_fewestGuests_4]
    refine pc_ite (fun _ => ?_) (fun _ => ?_)
    · exact pc_some h
    · refine pc_call (zs_S_canBe h) (fun r1 u2 h => ?_)
      refine pc_ite (fun _ => ?_) (fun _ => ?_)
      · exact (zs_S_fewestGuests_42 h (fun h => ih h))
      · refine pc_call (zs_S_guests h) (fun r4 u5 h => ?_)
        refine pc_ite (fun _ => ?_) (fun _ => ?_)
        · exact (zs_S_fewestGuests_42 h (fun h => ih h))
        · refine pc_call (zs_S_guests h) (fun r6 u7 h => ?_)
          refine pc_call (zs_JI_bitCount h) (fun r8 u9 h => ?_)
          refine pc_call (zs_E_less h) (fun r10 u11 h => ?_)
          exact (zs_S_fewestGuests_42 h (fun h => ih h))
theorem zs_S_fewestGuests {L : Int} {b : Wd} {v1 : Int} {w : Wd} (h : SJ L b w) : PC (f_S_fewestGuests v1 w) (fun _ u => SJ L b u) := by
  unfold f_S_fewestGuests
  exact (zs_S_fewestGuests_4 _ h)
theorem zs_E_firstWeek_2 {L : Int} {b : Wd} : ∀ (n : Nat) {v0 v2 : Int} {w : Wd}, SJ L b w → PC (f_E_firstWeek_2 n v0 v2 w) (fun _ u => SJ L b u) := by
  intro n
  induction n with
  | zero => intros; exact pc_none
  | succ n ih =>
    intro v0 v2 w h
    rw [f_E_firstWeek_2]
    refine pc_ite (fun _ => ?_) (fun _ => ?_)
    · exact pc_some h
    · refine pc_ite (fun _ => ?_) (fun _ => ?_)
      · refine pc_let (fun x1 _ => ?_)
        exact ih h
      · exact pc_some h
theorem zs_E_firstWeek {L : Int} {b : Wd} {v0 : Int} {w : Wd} (h : SJ L b w) : PC (f_E_firstWeek v0 w) (fun _ u => SJ L b u) := by
  unfold f_E_firstWeek
  exact (zs_E_firstWeek_2 _ h)
theorem zs_E_crowd_154 {L : Int} {b : Wd} {k92 : Int → Int → Int → Int → Wd → Option (Int × Wd)} {v1 v4 v5 v6 : Int} {w : Wd} (h : SJ L b w) (hk : ∀ {a0 a1 a2 a3 : Int} {w : Wd}, SJ L b w → PC (k92 a0 a1 a2 a3 w) (fun _ u => SJ L b u)) : PC (f_E_crowd_154 k92 v1 v4 v5 v6 w) (fun _ u => SJ L b u) := by
  unfold f_E_crowd_154
  refine pc_let (fun x13 _ => ?_)
  exact hk h
theorem zs_E_crowd_92 {L : Int} {b : Wd} : ∀ (n : Nat) {v1 v4 v5 v6 : Int} {w : Wd}, SJ L b w → PC (f_E_crowd_92 n v1 v4 v5 v6 w) (fun _ u => SJ L b u) := by
  intro n
  induction n with
  | zero => intros; exact pc_none
  | succ n ih =>
    intro v1 v4 v5 v6 w h
    rw [f_E_crowd_92]
    refine pc_ite (fun _ => ?_) (fun _ => ?_)
    · refine pc_call (zs_N_tell2 h) (fun r7 u8 h => ?_)
      exact pc_some h
    · refine pc_call (zs_S_guests h) (fun r9 u10 h => ?_)
      refine pc_call (zs_JI_bitCount h) (fun r11 u12 h => ?_)
      refine pc_ite (fun _ => ?_) (fun _ => ?_)
      · refine pc_call (zs_S_canBe h) (fun r14 u15 h => ?_)
        refine pc_ite (fun _ => ?_) (fun _ => ?_)
        · exact (zs_E_crowd_154 h (fun h => ih h))
        · refine pc_call (zs_S_paidFor h) (fun r16 u17 h => ?_)
          refine pc_call (zs_E_less h) (fun r18 u19 h => ?_)
          exact (zs_E_crowd_154 h (fun h => ih h))
      · exact (zs_E_crowd_154 h (fun h => ih h))
theorem zs_E_crowd_74 {L : Int} {b : Wd} {k34 : Int → Int → Int → Wd → Option (Int × Wd)} {v1 v2 v4 : Int} {w : Wd} (h : SJ L b w) (hk : ∀ {a0 a1 a2 : Int} {w : Wd}, SJ L b w → PC (k34 a0 a1 a2 w) (fun _ u => SJ L b u)) : PC (f_E_crowd_74 k34 v1 v2 v4 w) (fun _ u => SJ L b u) := by
  unfold f_E_crowd_74
  refine pc_let (fun x24 _ => ?_)
  exact hk h
theorem zs_E_crowd_34 {L : Int} {b : Wd} : ∀ (n : Nat) {v1 v2 v4 : Int} {w : Wd}, SJ L b w → PC (f_E_crowd_34 n v1 v2 v4 w) (fun _ u => SJ L b u) := by
  intro n
  induction n with
  | zero => intros; exact pc_none
  | succ n ih =>
    intro v1 v2 v4 w h
    rw [f_E_crowd_34]
    refine pc_ite (fun _ => ?_) (fun _ => ?_)
    · refine pc_call (zs_E_firstWeek h) (fun r5 u6 h => ?_)
      exact (zs_E_crowd_92 _ h)
    · refine pc_call (zs_S_guests h) (fun r20 u21 h => ?_)
      refine pc_call (zs_JI_bitCount h) (fun r22 u23 h => ?_)
      refine pc_ite (fun _ => ?_) (fun _ => ?_)
      · refine pc_call (zs_S_weeksOf h) (fun r25 u26 h => ?_)
        refine pc_let (fun x27 _ => ?_)
        exact (zs_E_crowd_74 h (fun h => ih h))
      · exact (zs_E_crowd_74 h (fun h => ih h))
theorem zs_F_isThere {L : Int} {b : Wd} {v1 : Int} {w : Wd} (h : SJ L b w) : PC (f_F_isThere v1 w) (fun _ u => SJ L b u) := by
  unfold f_F_isThere
  refine pc_ite (fun _ => ?_) (fun _ => ?_)
  · exact pc_some h
  · refine pc_ite (fun _ => ?_) (fun _ => ?_)
    · exact pc_some h
    · exact pc_some h
theorem zs_E_areTwo {L : Int} {b : Wd} {v1 v2 : Int} {w : Wd} (h : SJ L b w) : PC (f_E_areTwo v1 v2 w) (fun _ u => SJ L b u) := by
  unfold f_E_areTwo
  refine pc_ite (fun _ => ?_) (fun _ => ?_)
  · exact pc_some h
  · refine pc_call (zs_F_isThere h) (fun r1 u2 h => ?_)
    refine pc_ite (fun _ => ?_) (fun _ => ?_)
    · exact pc_some h
    · refine pc_call (zs_F_isThere h) (fun r3 u4 h => ?_)
      refine pc_ite (fun _ => ?_) (fun _ => ?_)
      · exact pc_some h
      · exact pc_some h
theorem zs_S_leastPaid_61 {L : Int} {b : Wd} {k6 : Int → Int → Int → Int → Wd → Option (Int × Wd)} {v1 v2 v4 v5 : Int} {w : Wd} (h : SJ L b w) (hk : ∀ {a0 a1 a2 a3 : Int} {w : Wd}, SJ L b w → PC (k6 a0 a1 a2 a3 w) (fun _ u => SJ L b u)) : PC (f_S_leastPaid_61 k6 v1 v2 v4 v5 w) (fun _ u => SJ L b u) := by
  unfold f_S_leastPaid_61
  refine pc_let (fun x3 _ => ?_)
  exact hk h
theorem zs_S_leastPaid_6 {L : Int} {b : Wd} : ∀ (n : Nat) {v1 v2 v4 v5 : Int} {w : Wd}, SJ L b w → PC (f_S_leastPaid_6 n v1 v2 v4 v5 w) (fun _ u => SJ L b u) := by
  intro n
  induction n with
  | zero => intros; exact pc_none
  | succ n ih =>
    intro v1 v2 v4 v5 w h
    rw [f_S_leastPaid_6]
    refine pc_ite (fun _ => ?_) (fun _ => ?_)
    · exact pc_some h
    · refine pc_call (zs_S_canBe h) (fun r1 u2 h => ?_)
      refine pc_ite (fun _ => ?_) (fun _ => ?_)
      · exact (zs_S_leastPaid_61 h (fun h => ih h))
      · refine pc_call (zs_S_guests h) (fun r4 u5 h => ?_)
        refine pc_ite (fun _ => ?_) (fun _ => ?_)
        · exact (zs_S_leastPaid_61 h (fun h => ih h))
        · refine pc_call (zs_S_guests h) (fun r6 u7 h => ?_)
          refine pc_ite (fun _ => ?_) (fun _ => ?_)
          · refine pc_call (zs_S_paidFor h) (fun r8 u9 h => ?_)
            refine pc_call (zs_E_less h) (fun r10 u11 h => ?_)
            exact (zs_S_leastPaid_61 h (fun h => ih h))
          · exact (zs_S_leastPaid_61 h (fun h => ih h))
theorem zs_S_leastPaid {L : Int} {b : Wd} {v1 v2 : Int} {w : Wd} (h : SJ L b w) : PC (f_S_leastPaid v1 v2 w) (fun _ u => SJ L b u) := by
  unfold f_S_leastPaid
  exact (zs_S_leastPaid_6 _ h)
theorem zs_S_weeksWith_61 {L : Int} {b : Wd} {k5 : Int → Int → Int → Int → Wd → Option (Int × Wd)} {v1 v2 v3 v5 : Int} {w : Wd} (h : SJ L b w) (hk : ∀ {a0 a1 a2 a3 : Int} {w : Wd}, SJ L b w → PC (k5 a0 a1 a2 a3 w) (fun _ u => SJ L b u)) : PC (f_S_weeksWith_61 k5 v1 v2 v3 v5 w) (fun _ u => SJ L b u) := by
  unfold f_S_weeksWith_61
  refine pc_let (fun x3 _ => ?_)
  exact hk h
theorem zs_S_weeksWith_5 {L : Int} {b : Wd} : ∀ (n : Nat) {v1 v2 v3 v5 : Int} {w : Wd}, SJ L b w → PC (f_S_weeksWith_5 n v1 v2 v3 v5 w) (fun _ u => SJ L b u) := by
  intro n
  induction n with
  | zero => intros; exact pc_none
  | succ n ih =>
    intro v1 v2 v3 v5 w h
    rw [f_S_weeksWith_5]
    refine pc_ite (fun _ => ?_) (fun _ => ?_)
    · exact pc_some h
    · refine pc_call (zs_S_guests h) (fun r1 u2 h => ?_)
      refine pc_ite (fun _ => ?_) (fun _ => ?_)
      · exact (zs_S_weeksWith_61 h (fun h => ih h))
      · refine pc_call (zs_S_guests h) (fun r4 u5 h => ?_)
        refine pc_ite (fun _ => ?_) (fun _ => ?_)
        · refine pc_gd (fun _ => ?_)
          refine pc_call (zs_O_known h) (fun r6 u7 h => ?_)
          refine pc_ite (fun _ => ?_) (fun _ => ?_)
          · refine pc_gd (fun _ => ?_)
            refine pc_let (fun x8 _ => ?_)
            exact (zs_S_weeksWith_61 h (fun h => ih h))
          · exact (zs_S_weeksWith_61 h (fun h => ih h))
        · exact (zs_S_weeksWith_61 h (fun h => ih h))
theorem zs_S_weeksWith {L : Int} {b : Wd} {v1 v2 : Int} {w : Wd} (h : SJ L b w) : PC (f_S_weeksWith v1 v2 w) (fun _ u => SJ L b u) := by
  unfold f_S_weeksWith
  exact (zs_S_weeksWith_5 _ h)
theorem zs_S_lastWeek_11 {L : Int} {b : Wd} : ∀ (n : Nat) {v3 v5 : Int} {w : Wd}, SJ L b w → PC (f_S_lastWeek_11 n v3 v5 w) (fun _ u => SJ L b u) := by
  intro n
  induction n with
  | zero => intros; exact pc_none
  | succ n ih =>
    intro v3 v5 w h
    rw [f_S_lastWeek_11]
    refine pc_ite (fun _ => ?_) (fun _ => ?_)
    · exact pc_some h
    · refine pc_ite (fun _ => ?_) (fun _ => ?_)
      · refine pc_let (fun x3 _ => ?_)
        exact ih h
      · exact pc_some h
theorem zs_S_lastWeek {L : Int} {b : Wd} {v1 v2 : Int} {w : Wd} (h : SJ L b w) : PC (f_S_lastWeek v1 v2 w) (fun _ u => SJ L b u) := by
  unfold f_S_lastWeek
  refine pc_call (zs_S_weeksWith h) (fun r1 u2 h => ?_)
  exact (zs_S_lastWeek_11 _ h)
theorem zs_E_stays_95 {L : Int} {b : Wd} {v2 v3 : Int} {w : Wd} (h : SJ L b w) : PC (f_E_stays_95 v2 v3 w) (fun _ u => SJ L b u) := by
  unfold f_E_stays_95
  refine pc_call (zs_N_tell1 h) (fun r11 u12 h => ?_)
  exact pc_some h
theorem zs_E_needed_89 {L : Int} {b : Wd} {k43 : Int → Int → Int → Wd → Option (Int × Wd)} {v1 v2 v3 : Int} {w : Wd} (h : SJ L b w) (hk : ∀ {a0 a1 a2 : Int} {w : Wd}, SJ L b w → PC (k43 a0 a1 a2 w) (fun _ u => SJ L b u)) : PC (f_E_needed_89 k43 v1 v2 v3 w) (fun _ u => SJ L b u) := by
  unfold f_E_needed_89
  refine pc_let (fun x9 _ => ?_)
  exact hk h
theorem zs_E_needed_43 {L : Int} {b : Wd} : ∀ (n : Nat) {v1 v2 v3 : Int} {w : Wd}, SJ L b w → PC (f_E_needed_43 n v1 v2 v3 w) (fun _ u => SJ L b u) := by
  intro n
  induction n with
  | zero => intros; exact pc_none
  | succ n ih =>
    intro v1 v2 v3 w h
    rw [f_E_needed_43]
    refine pc_ite (fun _ => ?_) (fun _ => ?_)
    · exact pc_some h
    · refine pc_call (zs_F_free h) (fun r5 u6 h => ?_)
      refine pc_call (zs_E_has h) (fun r7 u8 h => ?_)
      refine pc_ite (fun _ => ?_) (fun _ => ?_)
      · exact (zs_E_needed_89 h (fun h => ih h))
      · refine pc_call (zs_S_lastWeek h) (fun r10 u11 h => ?_)
        refine pc_ite (fun _ => ?_) (fun _ => ?_)
        · exact (zs_E_needed_89 h (fun h => ih h))
        · refine pc_let (fun x12 _ => ?_)
          exact (zs_E_needed_89 h (fun h => ih h))
theorem zs_E_never_25 {L : Int} {b : Wd} : ∀ (n : Nat) {v1 v2 : Int} {w : Wd}, SJ L b w → PC (f_E_never_25 n v1 v2 w) (fun _ u => SJ L b u) := by
  intro n
  induction n with
  | zero => intros; exact pc_none
  | succ n ih =>
    intro v1 v2 w h
    rw [f_E_never_25]
    refine pc_ite (fun _ => ?_) (fun _ => ?_)
    · refine pc_call (zs_F_strangers h) (fun r3 u4 h => ?_)
      exact pc_some h
    · refine pc_call (zs_S_guests h) (fun r5 u6 h => ?_)
      refine pc_let (fun x7 _ => ?_)
      refine pc_let (fun x8 _ => ?_)
      exact ih h
theorem zs_S_lookBack_79 {L T : Int} {b : Wd} {k8 : Int → Int → Int → Wd → Option (Int × Wd)} {v3 v4 v5 v6 s0 : Int} {w : Wd} (h : SJ L b w) (hL : L + 1 ≤ 2147480000) (hk : ∀ {w : Wd}, SJ (L + 1) b w → PC (k8 v3 v4 (w32 (v5 + (-1))) w) (fun _ u => SJ T b u)) : PC (f_S_lookBack_79 k8 v3 v4 v5 v6 s0 w) (fun _ u => SJ T b u) := by
  unfold f_S_lookBack_79
  refine pc_call (zs_S_leftBehind h hL) (fun r5 u6 h => ?_)
  refine pc_gd (fun _ => pc_lw (fun u7 e => pc_let (fun x8 e8 => ?_)))
  rw [e8]
  exact hk (sj_st h e (by decide))
theorem zs_S_lookBack_49 {L T : Int} {b : Wd} {k8 : Int → Int → Int → Wd → Option (Int × Wd)} {v3 v4 v5 v6 s0 : Int} {w : Wd} (h : SJ L b w) (hL : L + 1 ≤ 2147480000) (hk : ∀ {w : Wd}, SJ (L + 1) b w → PC (k8 v3 v4 (w32 (v5 + (-1))) w) (fun _ u => SJ T b u)) : PC (f_S_lookBack_49 k8 v3 v4 v5 v6 s0 w) (fun _ u => SJ T b u) := by
  unfold f_S_lookBack_49 f_S_lookBack_78 f_S_lookBack_74
  refine pc_ite (fun _ => zs_S_lookBack_79 h hL hk) (fun _ => pc_ite (fun _ => zs_S_lookBack_79 h hL hk) (fun _ => pc_call (zs_S_paidFor h) (fun r9 u10 h => pc_ite (fun _ => zs_S_lookBack_79 h hL hk) (fun _ => zs_S_lookBack_79 h hL hk))))
theorem zs_S_lookBack_8 {T : Int} {b : Wd} (hT : T ≤ 2147480000) : ∀ (n : Nat) {v3 v4 v5 L : Int} {w : Wd}, SJ L b w → L ≤ T → (v5 < 3000 → L + (v5 + 1) ≤ T) → PC (f_S_lookBack_8 n v3 v4 v5 w) (fun _ u => SJ T b u) := by
  intro n
  induction n with
  | zero => intros; exact pc_none
  | succ n ih =>
    intro v3 v4 v5 L w h h1 h2
    rw [f_S_lookBack_8]
    refine pc_ite (fun _ => pc_some (sj_mono h h1)) (fun c => pc_gd (fun g => pc_let (fun x2 _ => ?_)))
    have z := w32_sp (v5 + (-1))
    have hk : ∀ {w : Wd}, SJ (L + 1) b w → PC (f_S_lookBack_8 n v3 v4 (w32 (v5 + (-1))) w) (fun _ u => SJ T b u) := fun h => ih h (by omega) (by omega)
    refine pc_call (zs_S_guests h) (fun r3 u4 h => ?_)
    unfold f_S_lookBack_48
    refine pc_ite (fun _ => zs_S_lookBack_49 h (by omega) hk) (fun _ => pc_call (zs_S_guests h) (fun r11 u12 h => pc_ite (fun _ => zs_S_lookBack_49 h (by omega) hk) (fun _ => zs_S_lookBack_49 h (by omega) hk)))
theorem zs_S_lookBack {L : Int} {b : Wd} {v3 v4 : Int} {w : Wd} (h : SJ L b w) (hL : L + 3000 ≤ 2147480000) : PC (f_S_lookBack v3 v4 w) (fun _ u => SJ (L + 3000) b u) := by
  unfold f_S_lookBack
  exact pc_let (fun x1 _ => zs_S_lookBack_8 hL FU h (by omega) (fun _ => by omega))
theorem zs_E_firstToBring_41 {T : Int} {b : Wd} (hT : T ≤ 2147480000) (h53 : b 5 3 ≤ 10) : ∀ (n : Nat) {v1 v2 v3 v4 L : Int} {w : Wd}, SJ L b w → L ≤ T → 0 ≤ v4 → v4 ≤ 10 → L + (10 - v4) ≤ T → PC (f_E_firstToBring_41 n v1 v2 v3 v4 w) (fun _ u => SJ T b u) := by
  intro n
  induction n with
  | zero => intros; exact pc_none
  | succ n ih =>
    intro v1 v2 v3 v4 L w h h1 h0 h10 h2
    rw [f_E_firstToBring_41]
    refine pc_ite (fun _ => pc_some (sj_mono h h1)) (fun c => ?_)
    rw [h.1.1] at c
    have z := w32_sp (v4 + 1)
    refine pc_call (zs_F_knownBy h) (fun r8 u9 h => pc_call (zs_F_free h) (fun r10 u11 h => pc_call (zs_E_has h) (fun r12 u13 h => ?_)))
    unfold f_E_firstToBring_111
    refine pc_ite (fun _ => pc_let (fun x14 e => ?_)) (fun _ => ?_)
    · exact ih h h1 (by omega) (by omega) (by omega)
    · refine pc_call (zs_M_gatherBehind h (by omega)) (fun r15 u16 h => pc_call (zs_E_firstThatLeads h) (fun r17 u18 h => ?_))
      refine pc_ite (fun _ => pc_let (fun x14 e => ?_)) (fun _ => pc_some (sj_mono h (by omega)))
      exact ih h (by omega) (by omega) (by omega) (by omega)
theorem zs_E_firstToBring {L : Int} {b : Wd} {v1 v2 : Int} {w : Wd} (h : SJ L b w) (hL : L + 11 ≤ 2147480000) (h53 : b 5 3 ≤ 10) : PC (f_E_firstToBring v1 v2 w) (fun _ u => SJ (L + 11) b u) := by
  unfold f_E_firstToBring
  refine pc_call (zs_F_guests h) (fun r1 u2 h => pc_let (fun x3 _ => ?_))
  refine pc_call (zs_M_gatherBehind h (by omega)) (fun r4 u5 h => pc_call (zs_E_firstThatLeads h) (fun r6 u7 h => ?_))
  exact pc_ite (fun _ => zs_E_firstToBring_41 hL h53 FU h (by omega) (by omega) (by omega) (by omega)) (fun _ => pc_some (sj_mono h (by omega)))
