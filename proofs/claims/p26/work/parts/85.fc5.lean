/-! A WEEK GOES BY: the class -/
def EPq (P : Int) (bg s : Nat → Int) (g : Int) (w : Wd) (r : Int) (u : Wd) : Prop := (u 15 3 = w 15 3 + 1 ∧ u 15 4 = w 15 4 + 1 ∧ u 5 6 = w32 (w 5 6 + r)) ∧ r = sms (fun q => if brn bg P.toNat q = true then w 6 q else 0) P.toNat ∧ WH (u 5 4) (nis P s g (mvs P bg)) P ∧ B10 (u 16 (w 15 3 + 1).toNat) (gs P (nis P s g (mvs P bg))) ∧ (∀ t, t ≠ (w 15 3 + 1).toNat → u 16 t = w 16 t) ∧ (∀ q : Nat, (q : Int) < P → u 8 q = if brn bg P.toNat q = true then byo bg P.toNat q else w 8 q) ∧ (u 17 (w 15 3).toNat = w 5 4 ∧ u 18 (w 15 3).toNat = w 5 6 ∧ ∀ t, t ≠ (w 15 3).toNat → u 17 t = w 17 t ∧ u 18 t = w 18 t) ∧ ∀ c k, c ≠ 8 → c ≠ 16 → c ≠ 17 → c ≠ 18 → c ≠ 28 → ¬ (c = 5 ∧ (k = 4 ∨ k = 6)) → ¬ (c = 15 ∧ (k = 3 ∨ k = 4)) → u c k = w c k
theorem pbr_pc {P i : Int} {bg : Nat → Int} {m : Nat} {w : Wd} (h : PLm P bg m w) (hi : 0 ≤ i ∧ i < m) : PC (f_P_bringer i w) (fun r u => u = w ∧ r = w 13 i.toNat) := by
  unfold f_P_bringer
  rw [h.1]
  refine pc_ite (fun z => by omega) (fun _ => ?_)
  refine pc_ite (fun z => by omega) (fun _ => ?_)
  exact pc_gd (fun _ => pc_some ⟨rfl, rfl⟩)
theorem pwo_pc {P i : Int} {bg : Nat → Int} {m : Nat} {w : Wd} (h : PLm P bg m w) (hi : 0 ≤ i ∧ i < m) : PC (f_P_whomOf i w) (fun r u => u = w ∧ r = w 14 i.toNat) := by
  unfold f_P_whomOf
  rw [h.1]
  refine pc_ite (fun z => by omega) (fun _ => ?_)
  refine pc_ite (fun z => by omega) (fun _ => ?_)
  exact pc_gd (fun _ => pc_some ⟨rfl, rfl⟩)
theorem fbr_pc {P a q : Int} {w : Wd} (h3 : w 5 3 = P) (ha : 0 ≤ a ∧ a < P) (hq : 0 ≤ q ∧ q < P) : PC (f_F_bring a q w) (fun r u => r = w 6 q.toNat ∧ u = st w 8 q.toNat a) := by
  unfold f_F_bring
  refine pc_call (it_pc a w) (fun r1 u2 y => ?_)
  rw [y.1, y.2, h3, show hd P a = 1 from if_pos ha]
  refine pc_ite (fun e => absurd e (by decide)) (fun _ => ?_)
  refine pc_call (it_pc q w) (fun r3 u4 y2 => ?_)
  rw [y2.1, y2.2, h3, show hd P q = 1 from if_pos hq]
  refine pc_ite (fun e => absurd e (by decide)) (fun _ => ?_)
  refine pc_gd (fun _ => pc_lw (fun u5 e5 => pc_gd (fun _ => pc_some ⟨?_, e5⟩)))
  rw [e5, st_c (by decide)]
/-- the rows of a WEEK are its pairs -/
theorem plm_inj {P : Int} {bg : Nat → Int} {m : Nat} {w : Wd} (h : PLm P bg m w) (hI : INJ P.toNat bg) : INJ m (w 14) := by
  intro i j hi hj e _
  have a := h.2.2.1 i hi
  have b := h.2.2.1 j hj
  have : (w 13 i).toNat = (w 13 j).toNat := hI _ _ (by omega) (by omega) (by rw [a.2.2, b.2.2]; exact e) (by rw [a.2.2]; omega)
  exact h.2.2.2.2 i j hi hj (by omega)
theorem plm_brn {P : Int} {bg : Nat → Int} {m : Nat} {w : Wd} (h : PLm P bg m w) (q : Nat) : brn (w 14) m q = brn bg P.toNat q := by
  have h1 : brn (w 14) m q = true → brn bg P.toNat q = true := fun e => by
    obtain ⟨i, hi, e2⟩ := brn_t.mp e
    have a := h.2.2.1 i hi
    exact brn_t.mpr ⟨(w 13 i).toNat, by omega, by rw [a.2.2]; exact e2⟩
  have h2 : brn bg P.toNat q = true → brn (w 14) m q = true := fun e => by
    obtain ⟨a, ha, e2⟩ := brn_t.mp e
    obtain ⟨i, hi, e3⟩ := h.2.2.2.1 a (by omega) (by rw [e2]; omega)
    have b := h.2.2.1 i hi
    refine brn_t.mpr ⟨i, hi, ?_⟩
    rw [← b.2.2, e3]
    exact e2
  cases c1 : brn (w 14) m q with
  | true => exact (h1 c1).symm
  | false =>
    cases c2 : brn bg P.toNat q with
    | false => rfl
    | true => rw [h2 c2] at c1; cases c1
theorem plm_byo {P : Int} {bg : Nat → Int} {m : Nat} {w : Wd} (h : PLm P bg m w) (hI : INJ P.toNat bg) {q : Nat} (e : brn bg P.toNat q = true) : w 13 (byo (w 14) m q).toNat = byo bg P.toNat q := by
  obtain ⟨a, ha, e2⟩ := brn_t.mp e
  obtain ⟨i, hi, e3⟩ := h.2.2.2.1 a (by omega) (by rw [e2]; omega)
  have b := h.2.2.1 i hi
  have e4 : w 14 i = q := by rw [← b.2.2, e3]; exact e2
  rw [byo_e (plm_inj h hI) hi e4, byo_e hI ha e2]
  exact e3
theorem mv_ok {P : Int} {s h kn bg : Nat → Int} (hg : GWK P s h kn bg) (k : Nat) (hm : mvs P bg k = true) : (k : Int) < P ∧ s k ≠ 4 := by
  unfold mvs at hm
  rw [Bool.or_eq_true] at hm
  rcases hm with e | e
  · have h1 := gwk_gs hg e
    unfold bng at e
    rw [Bool.and_eq_true] at e
    refine ⟨inP_t e.1, fun e4 => ?_⟩
    rw [e4] at h1
    cases h1
  · have := brn_sr hg e
    exact ⟨this.1, by rw [this.2.1]; decide⟩
theorem ep15 {P g : Int} {bg s h kn : Nat → Int} {m : Nat} (x : Wd) (hP : 0 ≤ P ∧ P ≤ 10) (h3 : x 5 3 = P) (h7 : x 5 7 = g) (hg : 1 ≤ g ∧ g ≤ 3) (hw : WH (x 5 4) s P) (hL : PLm P bg m x) (hm : m ≤ 10) (hW : GWK P s h kn bg) (h15 : 0 ≤ x 15 3 ∧ x 15 3 ≤ 59) (h6 : ∀ j, 0 ≤ x 6 j ∧ x 6 j ≤ 9) : ∀ (n : Nat) {w : Wd} {v1 v2 : Int}, 0 ≤ v2 → v2 ≤ m → (∀ c, c ≠ 8 → w c = x c) → (∀ q : Nat, w 8 q = if brn (x 14) v2.toNat q = true then x 13 (byo (x 14) v2.toNat q).toNat else x 8 q) → v1 = sms (fun q => if brn (x 14) v2.toNat q = true then x 6 q else 0) P.toNat → PC (f_E_pass_15 n v1 v2 w) (fun r u => r = sms (fun q => if brn (x 14) m q = true then x 6 q else 0) P.toNat ∧ (u 15 3 = x 15 3 + 1 ∧ u 5 6 = w32 (x 5 6 + r)) ∧ WH (u 5 4) (nis P s g (mvs P bg)) P ∧ B10 (u 16 (x 15 3 + 1).toNat) (gs P (nis P s g (mvs P bg))) ∧ (∀ t, t ≠ (x 15 3 + 1).toNat → u 16 t = x 16 t) ∧ (∀ q : Nat, u 8 q = if brn (x 14) m q = true then x 13 (byo (x 14) m q).toNat else x 8 q) ∧ ∀ c k, c ≠ 8 → c ≠ 16 → c ≠ 28 → ¬ (c = 5 ∧ (k = 4 ∨ k = 6)) → ¬ (c = 15 ∧ k = 3) → u c k = x c k) := by
  intro n
  induction n with
  | zero => intros; exact pc_none
  | succ n ih =>
    intro w v1 v2 i0 i1 hx h8 hv
    have r12 : w 12 = x 12 := hx 12 (by decide)
    rw [f_E_pass_15, r12, hL.1]
    have hLw : PLm P bg m w := plm_eq hL ⟨by rw [r12], by rw [r12]⟩ (hx 13 (by decide)) (hx 14 (by decide))
    refine pc_ite (fun z => ?_) (fun z => ?_)
    · have e : v2.toNat = m := by omega
      rw [e] at h8 hv
      refine pc_lw (fun u3 e3 => ?_)
      have r5 : ∀ k, k ≠ 6 → u3 5 k = x 5 k := fun k hk => by rw [e3, st_k hk, hx 5 (by decide)]
      have r12' : u3 12 = x 12 := by rw [e3, st_row (by decide)]; exact r12
      rw [r5 4 (by decide), r5 7 (by decide), r12', h7]
      obtain ⟨ra, ea, ewh⟩ := after_e (g := g) (v := x 12 3) hw hP hg hL.2.1 (fun k _ hk => mv_ok hW k hk) u3
      rw [ea, jc_s]
      refine pc_lw (fun u6 e6 => ?_)
      refine pc_lw (fun u7 e7 => ?_)
      have e15 : u7 15 3 = x 15 3 + 1 := by
        rw [e7, st_eq, e6, st_c (by decide), e3, st_c (by decide), hx 15 (by decide)]
        exact w32_id (by omega)
      have e54 : u7 5 4 = ra := by rw [e7, st_c (by decide), e6, st_eq]
      refine pc_call (eg_e (w := u7) (P := P) (s := nis P s g (mvs P bg)) (by rw [e54]; exact ewh)) (fun r8 u9 q => ?_)
      rw [q.1]
      refine pc_call (ng_pc (v1 := r8) (w := u7) (by rw [e15]; omega)) (fun r10 u11 q2 => ?_)
      refine pc_call (sf_pc u11) (fun r12 u13 y => pc_some ⟨hv, ⟨?_, ?_⟩, ?_, ?_, fun t ht => ?_, fun q3 => ?_, fun c k c1 c2 c3 c4 c5 => ?_⟩)
      · rw [y 15 (by decide), q2, st_c (by decide)]; exact e15
      · rw [y 5 (by decide), q2, st_c (by decide), e7, st_c (by decide), e6, st_k (by decide), e3, st_eq, hx 5 (by decide)]
      · rw [y 5 (by decide), q2, st_c (by decide), e54]; exact ewh
      · rw [y 16 (by decide), q2, e15, st_eq]; exact q.2
      · rw [y 16 (by decide), q2, e15, st_k ht, e7, st_c (by decide), e6, st_c (by decide), e3, st_c (by decide), hx 16 (by decide)]
      · rw [y 8 (by decide), q2, st_c (by decide), e7, st_c (by decide), e6, st_c (by decide), e3, st_c (by decide)]; exact h8 q3
      · rw [y c c3, q2]; unfold st; rw [if_neg (fun h => c2 h.1), e7]; unfold st; rw [if_neg c5, e6]; unfold st; rw [if_neg (by omega), e3]; unfold st; rw [if_neg (by omega), hx c c1]
    · have hi : 0 ≤ v2 ∧ v2 < m := by omega
      have hr := hL.2.2.1 v2.toNat (by omega)
      refine pc_call (pbr_pc hLw hi) (fun r14 u15 y1 => ?_)
      rw [y1.1]
      refine pc_call (pwo_pc hLw hi) (fun r16 u17 y2 => ?_)
      rw [y2.1, y1.2, y2.2, hx 13 (by decide), hx 14 (by decide)]
      refine pc_call (fbr_pc (w := w) (P := P) (by rw [hx 5 (by decide)]; exact h3) hr.1 hr.2.1) (fun r18 u19 y3 => ?_)
      have r6 : w 6 = x 6 := hx 6 (by decide)
      have ei := plm_inj hL hW.1
      have hnb : brn (x 14) v2.toNat (x 14 v2.toNat).toNat = false := brn_f (fun i hi2 e2 => by
        have := ei i v2.toNat (by omega) (by omega) (by omega) (by omega)
        omega)
      refine pc_let (fun x20 e20 => ?_)
      refine pc_let (fun x21 e21 => ?_)
      rw [wsucc (P := 10) (by omega) (by omega)] at e21
      rw [e21]
      have e3 : (v2 + 1).toNat = v2.toNat + 1 := by omega
      have rg := sms_rg2 (f := brn (x 14) v2.toNat) h6 P.toNat
      have p6 := h6 (x 14 v2.toNat).toNat
      have ex20 : x20 = v1 + x 6 (x 14 v2.toNat).toNat := by
        rw [e20, y3.1, r6]
        have := w32_sp (v1 + x 6 (x 14 v2.toNat).toNat)
        omega
      refine ih (by omega) (by omega) (fun c hc => by rw [y3.2, st_row hc]; exact hx c hc) (fun q => ?_) ?_
      · rw [y3.2, e3, brn, byo]
        by_cases cq : x 14 v2.toNat = (q : Int)
        · have cq2 : (x 14 v2.toNat).toNat = q := by omega
          rw [beq_iff_eq.mpr cq, Bool.or_true, if_pos rfl, if_pos cq, cq2, st_eq]
          rfl
        · have cq2 : q ≠ (x 14 v2.toNat).toNat := by omega
          rw [beq_eq_false_iff_ne.mpr cq, Bool.or_false, if_neg cq, st_k cq2]
          exact h8 q
      · rw [ex20, hv, e3]
        have := sms_add (f := brn (x 14) v2.toNat) (g := x 6) (v := x 14 v2.toNat) (n := P.toNat) (by omega) hr.2.1.1 hnb
        rw [← this]
        exact sms_eq (fun j _ => by rw [brn])
theorem pass_pc {P g : Int} {bg s h kn : Nat → Int} {m : Nat} {w : Wd} (hP : 0 ≤ P ∧ P ≤ 10) (h3 : w 5 3 = P) (h7 : w 5 7 = g) (hg : 1 ≤ g ∧ g ≤ 3) (hw : WH (w 5 4) s P) (hL : PLm P bg m w) (hm : m ≤ 10) (hW : GWK P s h kn bg) (h15 : 0 ≤ w 15 3 ∧ w 15 3 ≤ 59) (hu : 0 ≤ w 15 4 ∧ w 15 4 ≤ 60) (h6 : ∀ j, 0 ≤ w 6 j ∧ w 6 j ≤ 9) : PC (f_E_pass w) (fun r u => EPq P bg s g w r u) := by
  unfold f_E_pass
  have hna : PC (f_D_noteAhead w) (fun _ u => u = st (st (st w 17 (w 15 3).toNat (w 5 4)) 18 (w 15 3).toNat (w 5 6)) 15 4 (w 15 4 + 1)) := by
    unfold f_D_noteAhead f_D_isOne
    rw [if_neg (by omega), if_neg (by omega), if_neg (by omega), jc_s, if_neg (by decide)]
    refine pc_gd (fun _ => pc_lw (fun u3 e3 => pc_gd (fun _ => pc_lw (fun u4 e4 => pc_lw (fun u5 e5 => pc_some ?_)))))
    have a1 : u3 15 3 = w 15 3 := by rw [e3, st_c (by decide)]
    have a2 : u3 5 6 = w 5 6 := by rw [e3, st_c (by decide)]
    have a3 : u4 15 4 = w 15 4 := by rw [e4, st_c (by decide), e3, st_c (by decide)]
    rw [e5, a3, e4, a1, a2, e3, w32_id (by omega)]
  refine pc_call hna (fun r1 x ex => ?_)
  have ro : ∀ c, c ≠ 17 → c ≠ 18 → c ≠ 15 → x c = w c := fun c c1 c2 c3 => by rw [ex, st_row c3, st_row c2, st_row c1]
  have r153 : x 15 3 = w 15 3 := by rw [ex, st_k (by decide), st_c (by decide), st_c (by decide)]
  have hLx : PLm P bg m x := plm_eq hL ⟨by rw [ro 12 (by decide) (by decide) (by decide)], by rw [ro 12 (by decide) (by decide) (by decide)]⟩ (ro 13 (by decide) (by decide) (by decide)) (ro 14 (by decide) (by decide) (by decide))
  have r5 := ro 5 (by decide) (by decide) (by decide)
  have r6 := ro 6 (by decide) (by decide) (by decide)
  refine pc_w (ep15 x hP (by rw [r5]; exact h3) (by rw [r5]; exact h7) hg (by rw [r5]; exact hw) hLx hm hW (by omega) (by rw [r6]; exact h6) FU (v1 := 0) (v2 := 0) (by decide) (by omega) (fun _ _ => rfl) (fun q => rfl) (sms_0 (fun _ _ => rfl)).symm) (fun r u y => ?_)
  obtain ⟨y1, ⟨y2, y3⟩, y4, y5, y6, y7, y8⟩ := y
  rw [r153] at y2 y5 y6
  rw [r5] at y3
  refine ⟨⟨y2, ?_, y3⟩, ?_, y4, y5, fun t ht => ?_, fun q hq => ?_, ⟨?_, ?_, fun t ht => ⟨?_, ?_⟩⟩, fun c k c1 c2 c3 c4 c5 c6 c7 => ?_⟩
  · rw [y8 15 4 (by decide) (by decide) (by decide) (by decide) (by decide), ex, st_eq]
  · rw [y1, r6]
    exact sms_eq (fun j _ => by rw [plm_brn hLx])
  · rw [y6 t ht, ro 16 (by decide) (by decide) (by decide)]
  · rw [y7 q, plm_brn hLx]
    by_cases c : brn bg P.toNat q = true
    · rw [if_pos c, if_pos c]; exact plm_byo hLx hW.1 c
    · rw [if_neg c, if_neg c, ro 8 (by decide) (by decide) (by decide)]
  · rw [y8 17 _ (by decide) (by decide) (by decide) (by omega) (by omega), ex, st_c (by decide), st_c (by decide), st_eq]
  · rw [y8 18 _ (by decide) (by decide) (by decide) (by omega) (by omega), ex, st_c (by decide), st_eq]
  · rw [y8 17 _ (by decide) (by decide) (by decide) (by omega) (by omega), ex, st_c (by decide), st_c (by decide), st_k ht]
  · rw [y8 18 _ (by decide) (by decide) (by decide) (by omega) (by omega), ex, st_c (by decide), st_k ht, st_c (by decide)]
  · rw [y8 c k c1 c2 c5 c6 (by omega), ex]; unfold st; rw [if_neg (by omega), if_neg (fun h => c4 h.1), if_neg (fun h => c3 h.1)]
