/-! BOTH, SOONEST, CROWD -/
theorem areE_pc {P v1 v2 : Int} {w : Wd} (h3 : w 5 3 = P) : PC (f_E_areTwo v1 v2 w) (fun r u => u = w ∧ r = if (0 ≤ v1 ∧ v1 < P) ∧ (0 ≤ v2 ∧ v2 < P) ∧ v1 ≠ v2 then 1 else 0) := by
  unfold f_E_areTwo
  refine pc_ite (fun c => pc_some ⟨rfl, ?_⟩) (fun c => ?_)
  · rw [if_neg (fun hh => hh.2.2 c)]
  refine pc_call (it_pc v1 w) (fun r1 u2 q => ?_)
  rw [q.1, q.2, h3]
  unfold hd
  by_cases c1 : 0 ≤ v1 ∧ v1 < P
  · rw [if_pos c1]
    refine pc_ite (fun e => absurd e (by decide)) (fun _ => ?_)
    refine pc_call (it_pc v2 w) (fun r3 u4 q3 => ?_)
    rw [q3.1, q3.2, h3]
    unfold hd
    by_cases c2 : 0 ≤ v2 ∧ v2 < P
    · rw [if_pos c2]
      refine pc_ite (fun e => absurd e (by decide)) (fun _ => pc_some ⟨rfl, ?_⟩)
      rw [if_pos ⟨c1, c2, c⟩]
    · rw [if_neg c2]
      refine pc_ite (fun _ => pc_some ⟨rfl, ?_⟩) (fun e => absurd rfl e)
      rw [if_neg (fun hh => c2 hh.2.1)]
  · rw [if_neg c1]
    refine pc_ite (fun _ => pc_some ⟨rfl, ?_⟩) (fun e => absurd rfl e)
    rw [if_neg (fun hh => c1 hh.1)]
theorem areR_pc {P v1 v2 : Int} {y : Wd} (hP : 0 ≤ P ∧ P ≤ 10) (y0 : y 43 0 = P) : PC (f_R_areTwo v1 v2 y) (fun r u => u = y ∧ r = if (0 ≤ v1 ∧ v1 < P) ∧ (0 ≤ v2 ∧ v2 < P) ∧ v1 ≠ v2 then 1 else 0) := by
  unfold f_R_areTwo
  refine pc_call (io_pc v1 y (by omega)) (fun r1 u2 q => ?_)
  rw [q.1, q.2, y0]
  unfold hd
  by_cases c1 : 0 ≤ v1 ∧ v1 < P
  · rw [if_pos c1]
    refine pc_ite (fun e => absurd e (by decide)) (fun _ => ?_)
    refine pc_call (io_pc v2 y (by omega)) (fun r3 u4 q3 => ?_)
    rw [q3.1, q3.2, y0]
    unfold hd
    by_cases c2 : 0 ≤ v2 ∧ v2 < P
    · rw [if_pos c2]
      refine pc_ite (fun e => absurd e (by decide)) (fun _ => ?_)
      refine pc_ite (fun c => pc_some ⟨rfl, ?_⟩) (fun c => pc_some ⟨rfl, ?_⟩)
      · rw [if_neg (fun hh => hh.2.2 c)]
      · rw [if_pos ⟨c1, c2, c⟩]
    · rw [if_neg c2]
      refine pc_ite (fun _ => pc_some ⟨rfl, ?_⟩) (fun e => absurd rfl e)
      rw [if_neg (fun hh => c2 hh.2.1)]
  · rw [if_neg c1]
    refine pc_ite (fun _ => pc_some ⟨rfl, ?_⟩) (fun e => absurd rfl e)
    rw [if_neg (fun hh => c1 hh.1)]
theorem er_both {a w : Wd} {P g se : Int} {h kn : Nat → Int} {x0 n v1 v2 v3 : Int} (hp : PRM a w P g se h kn x0) (hG : G [] a a) (hs : SCR n w) (hn : n ≤ 2600) (hk : w 28 9 ≠ 0 → KPT P g se h kn x0 w) : PC (f_E_both v1 v2 v3 w) (fun r _ => PC (f_R_both v1 v2 v3 a) (fun r' _ => r = r')) := by
  obtain ⟨hP, hg, h0, hw, ⟨c0, _⟩, c47, _, _, c44, c6⟩ := id hp
  unfold f_E_both f_R_both
  refine pc_call (areE_pc hw.1) (fun r1 u2 q => ?_)
  rw [q.1, q.2]
  have yy : ∀ y : Wd, y = st a 43 16 0 → y 43 0 = P := fun y ey => by rw [ey, st_k (by decide)]; exact c0
  by_cases ct : (0 ≤ v1 ∧ v1 < P) ∧ (0 ≤ v2 ∧ v2 < P) ∧ v1 ≠ v2
  · rw [if_pos ct]
    refine pc_ite (fun e => absurd e (by decide)) (fun _ => ?_)
    rw [isw_e, jc_s]
    by_cases hv : 0 ≤ v3 ∧ v3 ≤ 60
    · rw [if_pos hv]
      refine pc_ite (fun e => absurd e (by decide)) (fun _ => ?_)
      have b1 := b10_1 (i := v1) (by omega)
      have b2 := b10_1 (i := v2) (by omega)
      have bF := b10_or b1 b2
      refine pc_w (two_week (KR := fun u7 => f_R_both_42 FU v1 v2 1000000 0 u7) (v1 := v3) (A := fun r => ∃ m, MinQ (fun x => VLS P g se h kn x0 x ∧ RCX P g se h kn x0 v3.toNat x ∧ SUB P (fun k => decide (k = v1.toNat) || decide (k = v2.toNat)) x) (csf P (a 44) x0) (-1) m ∧ r = if m = -1 then -2 else m) (B := fun r => ∃ m, MinQ (fun x => VLS P g se h kn x0 x ∧ RCX P g se h kn x0 v3.toNat x ∧ gs P (sof x) v1.toNat = true ∧ gs P (sof x) v2.toNat = true) (csf P (a 44) x0) 1000000 m ∧ r = if m = 1000000 then -2 else m) hp hG hs hn hk hv (fun u hu hc => ?_) (fun y b u ey hf hwk => ?_) (fun r r' hA hB => ?_)) (fun r _ q => pc_lw (fun y ey => ?_))
      · obtain ⟨u5, u6, u7⟩ := run_5 hu
        refine pc_call (clp_pc (pr := a 44) hP h0 hc (by rw [u5]; exact hw.1) (by rw [u5]; exact hw.2.2.2.2.1) (fun j hj => by rw [u6]; exact ⟨c6 j hj, c44 j⟩) c44 hv bF) (fun r7 u8 z => ?_)
        refine pc_ite (fun e => pc_some ⟨r7, z.2, by rw [if_pos e]⟩) (fun e => pc_some ⟨r7, z.2, by rw [if_neg e]⟩)
      · obtain ⟨w1, w2, X, hx, hT⟩ := hwk
        have u0 : u 43 0 = P := by rw [w1 43 (by decide) (by decide), hf.2 0 (by decide) (by decide) (by decide)]; exact yy y ey
        have l42 : ∀ (n : Nat) {v4 v5 : Int}, 0 ≤ v5 → v5 ≤ u 43 40 → MinI X v5 (fun x => RCX P g se h kn x0 v3.toNat x ∧ gs P (sof x) v1.toNat = true ∧ gs P (sof x) v2.toNat = true) (csf P (a 44) x0) 1000000 v4 → PC (f_R_both_42 n v1 v2 v4 v5 u) (fun r _ => ∃ m, MinQ (fun x => VLS P g se h kn x0 x ∧ RCX P g se h kn x0 v3.toNat x ∧ gs P (sof x) v1.toNat = true ∧ gs P (sof x) v2.toNat = true) (csf P (a 44) x0) 1000000 m ∧ r = if m = 1000000 then -2 else m) := by
          intro n
          induction n with
          | zero => intros; exact pc_none
          | succ n ih =>
            intro v4 v5 i5 i5' hM
            rw [f_R_both_42]
            have h3000 := w2.1
            unfold f_R_both_91
            have v4le : v4 ≤ 1000000 := by
              rcases hM with ⟨e, _⟩ | ⟨⟨k, _, _, e⟩, _⟩
              · omega
              · have := csf_rg (P := P) (pr := a 44) hP c44 x0 (X k); omega
            refine pc_ite (fun c => ?_) (fun c => ?_)
            · rw [show v5 = u 43 40 by omega] at hM
              have hq := mini_q hM (fun k hk => (hx.1 k hk).1) hx.2
              refine pc_ite (fun e => pc_some ⟨v4, hq, by rw [if_pos e]⟩) (fun e => pc_some ⟨v4, hq, by rw [if_neg e]⟩)
            · refine pc_call (gx_pc hP hx u0 rfl ⟨i5, by omega⟩) (fun r8 u9 z => ?_)
              rw [z.1, hasR_10 u z.2 (by omega), jc_s]
              cases g1 : gs P (sof (X v5.toNat)) v1.toNat with
              | false =>
                refine pc_ite (fun _ => pc_let (fun x6 e6 => ?_)) (fun e => absurd rfl e)
                rw [w32_id (by omega)] at e6
                rw [e6]
                exact ih (by omega) (by omega) (mini_n hM i5 (fun hh => by rw [g1] at hh; cases hh.2.1))
              | true =>
                refine pc_ite (fun e => absurd e (by decide)) (fun _ => ?_)
                refine pc_call (gx_pc hP hx u0 rfl ⟨i5, by omega⟩) (fun r13 u14 z2 => ?_)
                rw [z2.1, hasR_10 u z2.2 (by omega), jc_s]
                cases g2 : gs P (sof (X v5.toNat)) v2.toNat with
                | false =>
                  refine pc_ite (fun _ => pc_let (fun x6 e6 => ?_)) (fun e => absurd rfl e)
                  rw [w32_id (by omega)] at e6
                  rw [e6]
                  exact ih (by omega) (by omega) (mini_n hM i5 (fun hh => by rw [g2] at hh; cases hh.2.2))
                | true =>
                  refine pc_ite (fun e => absurd e (by decide)) (fun _ => pc_gd (fun _ => pc_let (fun x17 e17 => pc_let (fun x6 e6 => ?_))))
                  rw [w32_id (by omega)] at e6
                  rw [e6]
                  have ht := hT v5.toNat (by omega)
                  have cr := csf_rg (P := P) (pr := a 44) hP c44 x0 (X v5.toNat)
                  by_cases hR : RCX P g se h kn x0 v3.toNat (X v5.toNat)
                  · rw [ht.1 hR] at e17
                    refine ih (by omega) (by omega) (mini_y hM i5 ⟨hR, g1, g2⟩ (fun k _ _ => by have := csf_rg (P := P) (pr := a 44) hP c44 x0 (X k); omega) ⟨fun e2 => ?_, fun _ => e17⟩)
                    have m := imin_sp v4 (csf P (a 44) x0 (X v5.toNat))
                    omega
                  · rw [ht.2 hR] at e17
                    have m := imin_sp v4 1000000
                    have e18 : x17 = v4 := by omega
                    rw [e18]
                    exact ih (by omega) (by omega) (mini_n hM i5 (fun hh => hR hh.1))
        exact l42 FU (by decide) (by have := w2.1; omega) mini_0
      · obtain ⟨m, m1, m2⟩ := hA
        obtain ⟨m', m1', m2'⟩ := hB
        have iff : ∀ x, (VLS P g se h kn x0 x ∧ RCX P g se h kn x0 v3.toNat x ∧ SUB P (fun k => decide (k = v1.toNat) || decide (k = v2.toNat)) x) ↔ (VLS P g se h kn x0 x ∧ RCX P g se h kn x0 v3.toNat x ∧ gs P (sof x) v1.toNat = true ∧ gs P (sof x) v2.toNat = true) := fun x => by
          constructor
          · rintro ⟨a1, a2, _, a4⟩
            exact ⟨a1, a2, a4 v1.toNat (by omega) (by simp), a4 v2.toNat (by omega) (by simp)⟩
          · rintro ⟨a1, a2, a3, a4⟩
            refine ⟨a1, a2, ⟨v1.toNat, by omega, a3⟩, fun q hq hF => ?_⟩
            have hF2 : (decide (q = v1.toNat) || decide (q = v2.toNat)) = true := hF
            rw [Bool.or_eq_true, decide_eq_true_iff, decide_eq_true_iff] at hF2
            rcases hF2 with e | e
            · rw [e]; exact a3
            · rw [e]; exact a4
        rcases minq_one m1 m1' iff with ⟨e1, e2, _⟩ | ⟨e1, x, _, ex⟩
        · rw [m2, m2', if_pos e1, if_pos e2]
        · have := csf_rg (P := P) (pr := a 44) hP c44 x0 x
          rw [m2, m2', if_neg (by omega), if_neg (by omega)]; exact e1
      · refine pc_call (areR_pc hP (yy y ey)) (fun r2 u3 z => ?_)
        rw [z.1, z.2, if_pos ct]
        refine pc_ite (fun e => absurd e (by decide)) (fun _ => ?_)
        refine pc_call (iswR_e v3 y) (fun r4 u5 z2 => ?_)
        rw [z2.1, z2.2, if_pos hv]
        exact pc_ite (fun e => absurd e (by decide)) (fun _ => q y ey)
    · rw [if_neg hv]
      refine pc_ite (fun _ => pc_some (pc_lw (fun y ey => ?_))) (fun e => absurd rfl e)
      refine pc_call (areR_pc hP (yy y ey)) (fun r2 u3 z => ?_)
      rw [z.1, z.2, if_pos ct]
      refine pc_ite (fun e => absurd e (by decide)) (fun _ => ?_)
      refine pc_call (iswR_e v3 y) (fun r4 u5 z2 => ?_)
      rw [z2.2, if_neg hv]
      exact pc_ite (fun _ => pc_some rfl) (fun e => absurd rfl e)
  · rw [if_neg ct]
    refine pc_ite (fun _ => pc_some (pc_lw (fun y ey => ?_))) (fun e => absurd rfl e)
    refine pc_call (areR_pc hP (yy y ey)) (fun r2 u3 z => ?_)
    rw [z.2, if_neg ct]
    exact pc_ite (fun _ => pc_some rfl) (fun e => absurd rfl e)
/-- the first WEEK of all -/
def FsW (T : Nat → Prop) (d r : Int) : Prop := (r = d ∧ ∀ t, ¬ T t) ∨ (0 ≤ r ∧ T r.toNat ∧ ∀ t, T t → r ≤ (t : Int))
theorem fsw_one {T T' : Nat → Prop} {d r r' : Int} (h : FsW T d r) (h' : FsW T' d r') (e : ∀ t, T t ↔ T' t) : r = r' := by
  rcases h with ⟨h1, h2⟩ | ⟨h1, h2, h3⟩
  · rcases h' with ⟨g1, g2⟩ | ⟨g1, g2, g3⟩
    · omega
    · exact absurd ((e _).mpr g2) (h2 _)
  · rcases h' with ⟨g1, g2⟩ | ⟨g1, g2, g3⟩
    · exact absurd ((e _).mp h2) (g2 _)
    · have a := g3 _ ((e _).mp h2)
      have b := h3 _ ((e _).mpr g2)
      omega
/-- one is a GUEST behind so many WEEKS -/
def ISG (P g se : Int) (h kn : Nat → Int) (x0 : Int) (i t : Nat) : Prop := ∃ x, RCX P g se h kn x0 t x ∧ gs P (sof x) i = true
theorem ith_pc {P g se : Int} {h kn : Nat → Int} {x0 : Int} {pr : Nat → Int} {n : Nat} {b u : Wd} {v1 : Int} (hP : 0 ≤ P ∧ P ≤ 10) (h0 : WH x0 (sof x0) P) (b0 : b 43 0 = P) (hpr : ∀ k, 0 ≤ pr k ∧ pr k ≤ 9) (hv : 0 ≤ v1 ∧ v1 < P) (hw : WKS P g se h kn x0 pr n b u) : PC (f_R_isThere v1 u) (fun r v => v = u ∧ ((r = 1 ∧ ISG P g se h kn x0 v1.toNat n) ∨ (r = 0 ∧ ¬ ISG P g se h kn x0 v1.toNat n))) := by
  obtain ⟨w1, w2, X, hx, hT⟩ := hw
  have u0 : u 43 0 = P := by rw [w1 43 (by decide) (by decide)]; exact b0
  have l2 : ∀ (m : Nat) {v2 : Int}, 0 ≤ v2 → v2 ≤ u 43 40 → (∀ t : Nat, (t : Int) < v2 → RCX P g se h kn x0 n (X t) → gs P (sof (X t)) v1.toNat = false) → PC (f_R_isThere_2 m v1 v2 u) (fun r v => v = u ∧ ((r = 1 ∧ ISG P g se h kn x0 v1.toNat n) ∨ (r = 0 ∧ ¬ ISG P g se h kn x0 v1.toNat n))) := by
    intro m
    induction m with
    | zero => intros; exact pc_none
    | succ m ih =>
      intro v2 i2 i2' hN
      rw [f_R_isThere_2]
      have h3000 := w2.1
      unfold f_R_isThere_36
      refine pc_ite (fun c => pc_some ⟨rfl, Or.inr ⟨rfl, ?_⟩⟩) (fun c => ?_)
      · rintro ⟨x, a, b⟩
        obtain ⟨t, ht, e⟩ := hx.2 x ⟨rx_wh hP h0 a, n, a⟩
        have := hN t (by omega) (by rw [e]; exact a)
        rw [e, b] at this; cases this
      · refine pc_gd (fun _ => ?_)
        have ht := hT v2.toNat (by omega)
        have cr := csf_rg (P := P) (pr := pr) hP hpr x0 (X v2.toNat)
        refine pc_ite (fun e => pc_let (fun x1 e1 => ?_)) (fun e => ?_)
        · rw [w32_id (by omega)] at e1
          rw [e1]
          refine ih (by omega) (by omega) (fun t htl hR => ?_)
          by_cases c2 : (t : Int) < v2
          · exact hN t c2 hR
          · rw [show t = v2.toNat by omega] at hR
            have := ht.1 hR; omega
        · have hR : RCX P g se h kn x0 n (X v2.toNat) := Classical.byContradiction fun hR => e (by rw [ht.2 hR]; exact Int.le_refl _)
          refine pc_call (gx_pc hP hx u0 rfl ⟨i2, by omega⟩) (fun r2 u3 z => ?_)
          rw [z.1, hasR_10 u z.2 (by omega), jc_s]
          cases g1 : gs P (sof (X v2.toNat)) v1.toNat with
          | false =>
            refine pc_ite (fun _ => pc_let (fun x1 e1 => ?_)) (fun e => absurd rfl e)
            rw [w32_id (by omega)] at e1
            rw [e1]
            refine ih (by omega) (by omega) (fun t htl hR => ?_)
            by_cases c2 : (t : Int) < v2
            · exact hN t c2 hR
            · rw [show t = v2.toNat by omega]; exact g1
          | true => exact pc_ite (fun e => absurd e (by decide)) (fun _ => pc_some ⟨rfl, Or.inl ⟨rfl, X v2.toNat, hR, g1⟩⟩)
  unfold f_R_isThere
  exact l2 FU (by decide) (by have := w2.1; omega) (fun t ht => by omega)
theorem er_soonest {a w : Wd} {P g se : Int} {h kn : Nat → Int} {x0 n v1 : Int} (hp : PRM a w P g se h kn x0) (hG : G [] a a) (hs : SCR n w) (hn : n ≤ 2600) (hk : w 28 9 ≠ 0 → KPT P g se h kn x0 w) : PC (f_E_soonest v1 w) (fun r _ => PC (f_R_soonest v1 a) (fun r' _ => r = r')) := by
  obtain ⟨hP, hg, h0, hw, ⟨c0, _⟩, c47, _, _, c44, c6⟩ := id hp
  unfold f_E_soonest f_R_soonest
  refine pc_call (it_pc v1 w) (fun r1 u2 q => ?_)
  rw [q.1, q.2, hw.1]
  have yy : ∀ y : Wd, y = st a 43 16 0 → y 43 0 = P := fun y ey => by rw [ey, st_k (by decide)]; exact c0
  unfold hd
  by_cases ct : 0 ≤ v1 ∧ v1 < P
  · rw [if_pos ct]
    refine pc_ite (fun e => absurd e (by decide)) (fun _ => ?_)
    have sg : ∀ t, ISG P g se h kn x0 v1.toNat t → t ≤ 29 := fun t ⟨x, a, b⟩ => wk_29 hP hg h0 a ⟨v1.toNat, by omega, b⟩
    refine pc_w (two_run (KR := fun u5 => f_R_soonest_30 FU v1 0 0 u5) (A := FsW (ISG P g se h kn x0 v1.toNat) (-2)) (B := FsW (ISG P g se h kn x0 v1.toNat) (-2)) hp hG hs hn hk (fun u hu _ hc => ?_) (fun y u ey hf hg' hr => ?_) (fun r r' hA hB => fsw_one hA hB (fun _ => Iff.rfl))) (fun r _ q => pc_lw (fun y ey => ?_))
    · refine pc_call (cww_pc hc hP h0 (b10_1 (i := v1) (by omega)) b10_0) (fun r5 u6 z => ?_)
      rw [z.1]
      refine pc_call (fwk1_pc u z.2) (fun r7 u8 z2 => ?_)
      have iff : ∀ t, WKT P g se h kn x0 (fun k => decide (k = v1.toNat)) (fun _ => false) t ↔ ISG P g se h kn x0 v1.toNat t := fun t => by
        constructor
        · rintro ⟨x, a1, ⟨_, a2⟩, _⟩
          exact ⟨x, a1, a2 v1.toNat (by omega) (decide_eq_true rfl)⟩
        · rintro ⟨x, a1, a2⟩
          refine ⟨x, a1, ⟨⟨v1.toNat, by omega, a2⟩, fun q hq hF => ?_⟩, fun q _ hF => by cases hF⟩
          rw [of_decide_eq_true hF]; exact a2
      rcases z2.2 with ⟨e, hno⟩ | ⟨e1, e2, e3⟩
      · refine pc_ite (fun _ => pc_some (Or.inl ⟨rfl, fun t ht => ?_⟩)) (fun c => absurd e c)
        exact hno t (by have := sg t ht; omega) ((iff t).mpr ht)
      · refine pc_ite (fun c => by omega) (fun _ => pc_some (Or.inr ⟨e1.1, (iff _).mp e2, fun t ht => e3 t ((iff t).mpr ht)⟩))
    · obtain ⟨X, hx⟩ := rli_x hP hr
      have u0 : u 43 0 = P := by rw [hf.2 0 (by decide) (by decide) (by decide)]; exact yy y ey
      have u44 : u 44 = a 44 := by rw [hf.1 44 (by decide) (by decide) (by decide) (by decide) (by decide) (by decide) (by decide), ey, st_row (by decide)]
      -- WEEKS on, till it is there
      have l79 : ∀ (m : Nat) {v3 : Int} {v : Wd}, 0 ≤ v3 → (∀ t : Nat, (t : Int) < v3 → ¬ ISG P g se h kn x0 v1.toNat t) → (∃ t, ISG P g se h kn x0 v1.toNat t) → WKS P g se h kn x0 (a 44) v3.toNat u v → PC (f_R_soonest_79 m v1 v3 v) (fun r _ => FsW (ISG P g se h kn x0 v1.toNat) (-2) r) := by
        intro m
        induction m with
        | zero => intros; exact pc_none
        | succ m ih =>
          intro v3 v i3 hno hex hwv
          rw [f_R_soonest_79]
          have b29 : v3 ≤ 29 := by
            obtain ⟨t, ht⟩ := hex
            have := sg t ht
            refine Classical.byContradiction fun hh => hno t (by omega) ht
          refine pc_call (ith_pc hP h0 u0 c44 ct hwv) (fun r8 u9 z => ?_)
          rw [z.1]
          rcases z.2 with ⟨e, hI⟩ | ⟨e, hI⟩
          · refine pc_ite (fun c => by omega) (fun _ => pc_some (Or.inr ⟨i3, hI, fun t ht => ?_⟩))
            exact Classical.byContradiction fun hh => hno t (by omega) ht
          · refine pc_ite (fun _ => ?_) (fun c => absurd e c)
            refine pc_call (wks_s hP h0 u0 u44 c44 hwv) (fun r10 u11 z2 => pc_let (fun x12 e12 => ?_))
            rw [w32_id (by omega)] at e12
            rw [e12]
            refine ih (by omega) (fun t ht hT => ?_) hex (by rw [show (v3 + 1).toNat = v3.toNat + 1 by omega]; exact z2)
            by_cases c2 : (t : Int) < v3
            · exact hno t c2 hT
            · rw [show t = v3.toNat by omega] at hT; exact hI hT
      have l30 : ∀ (m : Nat) {v2 v3 : Int}, 0 ≤ v3 → v3 ≤ u 43 40 → ((v2 = 0 ∧ ∀ k : Nat, (k : Int) < v3 → gs P (sof (X k)) v1.toNat = false) ∨ (v2 = 1 ∧ ∃ k : Nat, (k : Int) < v3 ∧ gs P (sof (X k)) v1.toNat = true)) → PC (f_R_soonest_30 m v1 v2 v3 u) (fun r _ => FsW (ISG P g se h kn x0 v1.toNat) (-2) r) := by
        intro m
        induction m with
        | zero => intros; exact pc_none
        | succ m ih =>
          intro v2 v3 i3 i3' hc
          rw [f_R_soonest_30]
          have h3000 := hr.1
          unfold f_R_soonest_54 f_R_soonest_59
          refine pc_ite (fun c => ?_) (fun c => ?_)
          · rcases hc with ⟨e, hc⟩ | ⟨e, k, hk, hc⟩
            · refine pc_ite (fun _ => pc_some (Or.inl ⟨rfl, fun t ⟨x, a1, a2⟩ => ?_⟩)) (fun c => absurd e c)
              obtain ⟨k, hk, ek⟩ := hx.2 x ⟨rx_wh hP h0 a1, t, a1⟩
              have := hc k (by omega)
              rw [ek, a2] at this; cases this
            · refine pc_ite (fun c => by omega) (fun _ => ?_)
              refine pc_call (wks_0 (pr := a 44) hP h0 hr) (fun r6 u7 z => ?_)
              refine l79 FU (by decide) (fun t ht => by omega) ?_ z
              obtain ⟨⟨_, t, ht⟩, _⟩ := hx.1 k (by omega)
              exact ⟨t, X k, ht, hc⟩
          · rcases hc with ⟨e, hc⟩ | ⟨e, k, hk, hc⟩
            · refine pc_ite (fun _ => ?_) (fun c => absurd e c)
              refine pc_call (gx_pc hP hx u0 rfl ⟨i3, by omega⟩) (fun r14 u15 z => ?_)
              rw [z.1, hasR_10 u z.2 (by omega), jc_s]
              cases g1 : gs P (sof (X v3.toNat)) v1.toNat with
              | false =>
                refine pc_ite (fun _ => pc_let (fun x e => ?_)) (fun e => absurd rfl e)
                rw [w32_id (by omega)] at e
                rw [e]
                refine ih (by omega) (by omega) (Or.inl ⟨rfl, fun k hk => ?_⟩)
                by_cases ck : (k : Int) < v3
                · exact hc k ck
                · rw [show k = v3.toNat by omega]; exact g1
              | true =>
                refine pc_ite (fun e => absurd e (by decide)) (fun _ => pc_let (fun x e => ?_))
                rw [w32_id (by omega)] at e
                rw [e]
                exact ih (by omega) (by omega) (Or.inr ⟨rfl, v3.toNat, by omega, g1⟩)
            · refine pc_ite (fun c => by omega) (fun _ => pc_let (fun x e => ?_))
              rw [w32_id (by omega)] at e
              rw [e]
              exact ih (by omega) (by omega) (Or.inr ⟨rfl, k, by omega, hc⟩)
      exact l30 FU (by decide) (by have := hr.1; omega) (Or.inl ⟨rfl, fun k hk => by omega⟩)
    · refine pc_call (io_pc v1 y (by rw [yy y ey]; exact hP)) (fun r2 u3 z => ?_)
      rw [z.1, z.2, yy y ey, show hd P v1 = 1 from if_pos ct]
      exact pc_ite (fun e => absurd e (by decide)) (fun _ => q y ey)
  · rw [if_neg ct]
    refine pc_ite (fun _ => pc_some (pc_lw (fun y ey => ?_))) (fun e => absurd rfl e)
    refine pc_call (io_pc v1 y (by rw [yy y ey]; exact hP)) (fun r2 u3 z => ?_)
    rw [z.2, yy y ey, show hd P v1 = 0 from if_neg ct]
    exact pc_ite (fun _ => pc_some rfl) (fun e => absurd rfl e)
/-- as many GUESTS -/
def ASM (P g se : Int) (h kn : Nat → Int) (x0 M : Int) (t : Nat) : Prop := ∃ x, RCX P g se h kn x0 t x ∧ gn P x = M
theorem asm_29 {P g se : Int} {h kn : Nat → Int} {x0 M : Int} (hP : 0 ≤ P ∧ P ≤ 10) (hg : 1 ≤ g ∧ g ≤ 3) (h0 : WH x0 (sof x0) P) (hM : MaxQ (VLS P g se h kn x0) (gn P) M) : ∃ t, t ≤ 29 ∧ ASM P g se h kn x0 M t := by
  by_cases c : M = 0
  · have := hM.2.1 x0 ⟨h0, 0, rfl⟩
    have := gn_rg P x0
    exact ⟨0, by decide, x0, rfl, by omega⟩
  · obtain ⟨x, ⟨_, t, ht⟩, e⟩ := hM.2.2.resolve_left c
    refine ⟨t, wk_29 hP hg h0 ht ?_, x, ht, e⟩
    refine Classical.byContradiction fun hn => c ?_
    rw [← e]
    unfold gn
    rw [pn_0 (fun k hk => by
      cases hb : gs P (sof x) k with
      | false => rfl
      | true => exact absurd ⟨k, hk, hb⟩ hn)]
    rfl
theorem lpR_pc {P g se : Int} {h kn : Nat → Int} {x0 : Int} {pr : Nat → Int} {n : Nat} {b u : Wd} {M : Int} (hP : 0 ≤ P ∧ P ≤ 10) (h0 : WH x0 (sof x0) P) (b0 : b 43 0 = P) (hpr : ∀ k, 0 ≤ pr k ∧ pr k ≤ 9) (hw : WKS P g se h kn x0 pr n b u) : PC (f_R_leastPaid M u) (fun r v => v = u ∧ ((r = 1000000 ∧ ¬ ASM P g se h kn x0 M n) ∨ (r ≠ 1000000 ∧ ASM P g se h kn x0 M n))) := by
  obtain ⟨w1, w2, X, hx, hT⟩ := hw
  have u0 : u 43 0 = P := by rw [w1 43 (by decide) (by decide)]; exact b0
  have l6 : ∀ (m : Nat) {v2 v3 : Int}, 0 ≤ v3 → v3 ≤ u 43 40 → ((v2 = 1000000 ∧ ∀ k : Nat, (k : Int) < v3 → ¬ (RCX P g se h kn x0 n (X k) ∧ gn P (X k) = M)) ∨ (v2 < 1000000 ∧ ∃ k : Nat, (k : Int) < v3 ∧ RCX P g se h kn x0 n (X k) ∧ gn P (X k) = M)) → PC (f_R_leastPaid_6 m M v2 v3 u) (fun r v => v = u ∧ ((r = 1000000 ∧ ¬ ASM P g se h kn x0 M n) ∨ (r ≠ 1000000 ∧ ASM P g se h kn x0 M n))) := by
    intro m
    induction m with
    | zero => intros; exact pc_none
    | succ m ih =>
      intro v2 v3 i3 i3' hc
      rw [f_R_leastPaid_6]
      have h3000 := w2.1
      unfold f_R_leastPaid_37
      refine pc_ite (fun c => pc_some ⟨rfl, ?_⟩) (fun c => ?_)
      · rcases hc with ⟨e, hc⟩ | ⟨e, k, hk, a1, a2⟩
        · refine Or.inl ⟨e, fun ⟨x, a1, a2⟩ => ?_⟩
          obtain ⟨k, hk, ek⟩ := hx.2 x ⟨rx_wh hP h0 a1, n, a1⟩
          exact hc k (by omega) (by rw [ek]; exact ⟨a1, a2⟩)
        · exact Or.inr ⟨by omega, X k, a1, a2⟩
      · refine pc_call (gx_pc hP hx u0 rfl ⟨i3, by omega⟩) (fun r1 u2 z => ?_)
        rw [z.1, bcs_e z.2, jc_s]
        have ht := hT v3.toNat (by omega)
        have cr := csf_rg (P := P) (pr := pr) hP hpr x0 (X v3.toNat)
        have nx : ∀ v2', ((v2' = 1000000 ∧ ∀ k : Nat, (k : Int) < v3 + 1 → ¬ (RCX P g se h kn x0 n (X k) ∧ gn P (X k) = M)) ∨ (v2' < 1000000 ∧ ∃ k : Nat, (k : Int) < v3 + 1 ∧ RCX P g se h kn x0 n (X k) ∧ gn P (X k) = M)) → PC (jlet (w32 (v3 + 1)) fun x5 => f_R_leastPaid_6 m M v2' x5 u) (fun r v => v = u ∧ ((r = 1000000 ∧ ¬ ASM P g se h kn x0 M n) ∨ (r ≠ 1000000 ∧ ASM P g se h kn x0 M n))) := fun v2' hc' => by
          refine pc_let (fun x5 e5 => ?_)
          rw [w32_id (by omega)] at e5
          rw [e5]
          exact ih (by omega) (by omega) hc'
        have keep : ¬ (RCX P g se h kn x0 n (X v3.toNat) ∧ gn P (X v3.toNat) = M) → ((v2 = 1000000 ∧ ∀ k : Nat, (k : Int) < v3 + 1 → ¬ (RCX P g se h kn x0 n (X k) ∧ gn P (X k) = M)) ∨ (v2 < 1000000 ∧ ∃ k : Nat, (k : Int) < v3 + 1 ∧ RCX P g se h kn x0 n (X k) ∧ gn P (X k) = M)) := fun hn => by
          rcases hc with ⟨e, hc⟩ | ⟨e, k, hk, a1, a2⟩
          · refine Or.inl ⟨e, fun k hk hh => ?_⟩
            by_cases ck : (k : Int) < v3
            · exact hc k ck hh
            · rw [show k = v3.toNat by omega] at hh; exact hn hh
          · exact Or.inr ⟨e, k, by omega, a1, a2⟩
        refine pc_ite (fun ce => pc_gd (fun _ => pc_let (fun x6 e6 => nx x6 ?_))) (fun ce => nx v2 (keep (fun hh => ce hh.2)))
        by_cases hR : RCX P g se h kn x0 n (X v3.toNat)
        · rw [ht.1 hR] at e6
          have m := imin_sp v2 (csf P pr x0 (X v3.toNat))
          exact Or.inr ⟨by omega, v3.toNat, by omega, hR, ce⟩
        · rw [ht.2 hR] at e6
          have m := imin_sp v2 1000000
          have e7 : x6 = v2 := by
            rcases hc with ⟨e, _⟩ | ⟨e, _⟩ <;> omega
          rw [e7]
          exact keep (fun hh => hR hh.1)
  unfold f_R_leastPaid
  exact l6 FU (by decide) (by have := w2.1; omega) (Or.inl ⟨rfl, fun k hk => by omega⟩)
theorem er_crowd {a w : Wd} {P g se : Int} {h kn : Nat → Int} {x0 n : Int} (hp : PRM a w P g se h kn x0) (hG : G [] a a) (hs : SCR n w) (hn : n ≤ 2600) (hk : w 28 9 ≠ 0 → KPT P g se h kn x0 w) : PC (f_E_crowd w) (fun r _ => PC (f_R_crowd a) (fun r' _ => r = r')) := by
  obtain ⟨hP, hg, h0, hw, ⟨c0, _⟩, c47, _, _, c44, c6⟩ := id hp
  unfold f_E_crowd f_R_crowd
  refine pc_w (two_run (A := fun r => ∃ M, MaxQ (VLS P g se h kn x0) (gn P) M ∧ FsW (ASM P g se h kn x0 M) (-1) r) (B := fun r => ∃ M, MaxQ (VLS P g se h kn x0) (gn P) M ∧ FsW (ASM P g se h kn x0 M) (-1) r) hp hG hs hn hk (fun u hu _ hc => ?_) (fun y u ey hf hg' hr => ?_) (fun r r' hA hB => ?_)) (fun r _ q => pc_lw (fun y ey => q y ey))
  · refine pc_call (cmg_pc hc rfl rfl) (fun M u4 z => ?_)
    rw [z.1]
    obtain ⟨u5, u6, u7⟩ := run_5 hu
    have h3000 := hc.1
    have l92 : ∀ (m : Nat) {v4 v5 v6 : Int}, (0 ≤ v4 ∧ v4 ≤ 60) → 0 ≤ v6 → v6 ≤ u 28 7 → PC (f_E_crowd_92 m M v4 v5 v6 u) (fun r _ => r = v4) := by
      intro m
      induction m with
      | zero => intros; exact pc_none
      | succ m ih =>
        intro v4 v5 v6 i4 i6 i6'
        rw [f_E_crowd_92]
        unfold f_E_crowd_154
        refine pc_ite (fun c => pc_call (nt2 M v5 u) (fun _ _ _ => pc_some rfl)) (fun c => ?_)
        have nx : ∀ v5', PC (jlet (w32 (v6 + 1)) fun x13 => f_E_crowd_92 m M v4 v5' x13 u) (fun r _ => r = v4) := fun v5' => by
          refine pc_let (fun x13 e13 => ?_)
          rw [w32_id (by omega)] at e13
          rw [e13]
          exact ih i4 (by omega) (by omega)
        refine pc_call (cg_pc hc rfl rfl ⟨i6, by omega⟩) (fun r9 u10 z => ?_)
        rw [z.1, bcs_e z.2, jc_s]
        refine pc_ite (fun _ => ?_) (fun _ => nx v5)
        refine pc_call (cbe_pc hc rfl rfl ⟨i6, by omega⟩ i4) (fun r14 u15 z2 => ?_)
        rw [z2.1]
        refine pc_ite (fun _ => nx v5) (fun _ => ?_)
        refine pc_call (cpf_pc (pr := a 44) hP h0 hc (by rw [u5]; exact hw.1) (by rw [u5]; exact hw.2.2.2.2.1) (fun j hj => by rw [u6]; exact ⟨c6 j hj, c44 j⟩) ⟨i6, by omega⟩) (fun r16 u17 z3 => ?_)
        rw [z3.1, lss_e, jc_s]
        exact nx _
    have l34 : ∀ (m : Nat) {v2 v4 : Int}, 0 ≤ v4 → v4 ≤ u 28 7 → (∀ t, t < 61 → (b6 v2 t = true ↔ ∃ k : Nat, (k : Int) < v4 ∧ RCX P g se h kn x0 t (u 30 k) ∧ gn P (u 30 k) = M)) → PC (f_E_crowd_34 m M v2 v4 u) (fun r _ => ∃ M, MaxQ (VLS P g se h kn x0) (gn P) M ∧ FsW (ASM P g se h kn x0 M) (-1) r) := by
      intro m
      induction m with
      | zero => intros; exact pc_none
      | succ m ih =>
        intro v2 v4 i4 i4' hM
        rw [f_E_crowd_34]
        unfold f_E_crowd_74
        refine pc_ite (fun c => ?_) (fun c => ?_)
        · have hT : ∀ t, t < 61 → (b6 v2 t = true ↔ ASM P g se h kn x0 M t) := fun t ht => by
            rw [hM t ht]
            constructor
            · rintro ⟨k, _, a1, a2⟩; exact ⟨u 30 k, a1, a2⟩
            · rintro ⟨x, a1, a2⟩
              obtain ⟨k, hk, e⟩ := hc.2.2.2.1 x ⟨rx_wh hP h0 a1, t, a1⟩
              exact ⟨k, by omega, by rw [e]; exact a1, by rw [e]; exact a2⟩
          refine pc_call (fwk1_pc u hT) (fun r5 u6 z2 => ?_)
          rw [z2.1]
          obtain ⟨t0, ht0, hA0⟩ := asm_29 hP hg h0 z.2
          rcases z2.2 with ⟨_, hno⟩ | ⟨e1, e2, e3⟩
          · exact absurd hA0 (hno t0 (by omega))
          · exact pc_w (l92 FU e1 (by decide) h3000.1) (fun r _ e => ⟨M, z.2, Or.inr ⟨by omega, by rw [e]; exact e2, by rw [e]; exact e3⟩⟩)
        · refine pc_call (cg_pc hc rfl rfl ⟨i4, by omega⟩) (fun r20 u21 z2 => ?_)
          rw [z2.1, bcs_e z2.2, jc_s]
          refine pc_ite (fun ce => ?_) (fun ce => pc_let (fun x24 e24 => ?_))
          · refine pc_call (cwk_pc hc rfl rfl ⟨i4, by omega⟩) (fun r25 u26 z3 => ?_)
            rw [z3.1, z3.2]
            refine pc_let (fun x27 e27 => pc_let (fun x24 e24 => ?_))
            rw [w32_id (by omega)] at e24
            rw [e24, e27]
            refine ih (by omega) (by omega) (fun t ht => ?_)
            rw [b6_or, Bool.or_eq_true, hM t ht, hc.2.2.2.2 v4.toNat (by omega) t ht]
            constructor
            · rintro (⟨k, hk, a1⟩ | a1)
              · exact ⟨k, by omega, a1⟩
              · exact ⟨v4.toNat, by omega, a1, ce⟩
            · rintro ⟨k, hk, a1, a2⟩
              by_cases ck : (k : Int) < v4
              · exact Or.inl ⟨k, ck, a1, a2⟩
              · rw [show k = v4.toNat by omega] at a1; exact Or.inr a1
          · rw [w32_id (by omega)] at e24
            rw [e24]
            refine ih (by omega) (by omega) (fun t ht => ?_)
            rw [hM t ht]
            constructor
            · rintro ⟨k, hk, a1⟩; exact ⟨k, by omega, a1⟩
            · rintro ⟨k, hk, a1, a2⟩
              by_cases ck : (k : Int) < v4
              · exact ⟨k, ck, a1, a2⟩
              · rw [show k = v4.toNat by omega] at a2; exact absurd a2 ce
    exact l34 FU (by decide) h3000.1 (fun t _ => by rw [b6_0]; exact ⟨(fun e => by cases e), (fun e => by obtain ⟨k, hk, _⟩ := e; omega)⟩)
  · obtain ⟨X, hx⟩ := rli_x hP hr
    have u0 : u 43 0 = P := by rw [hf.2 0 (by decide) (by decide) (by decide), ey, st_k (by decide)]; exact c0
    have u44 : u 44 = a 44 := by rw [hf.1 44 (by decide) (by decide) (by decide) (by decide) (by decide) (by decide) (by decide), ey, st_row (by decide)]
    have l20 : ∀ (m : Nat) {v1 v2 : Int}, 0 ≤ v2 → v2 ≤ u 43 40 → MaxI X v2 (fun _ => True) (gn P) v1 → PC (f_R_crowd_20 m v1 v2 u) (fun r _ => ∃ M, MaxQ (VLS P g se h kn x0) (gn P) M ∧ FsW (ASM P g se h kn x0 M) (-1) r) := by
      intro m
      induction m with
      | zero => intros; exact pc_none
      | succ m ih =>
        intro M v2 i2 i2' hM
        rw [f_R_crowd_20]
        have h3000 := hr.1
        refine pc_ite (fun c => ?_) (fun c => ?_)
        · rw [show v2 = u 43 40 by omega] at hM
          have hq0 := maxi_q hM (fun k hk => (hx.1 k hk).1) hx.2
          have hq : MaxQ (VLS P g se h kn x0) (gn P) M := by
            refine ⟨hq0.1, fun x hx => hq0.2.1 x ⟨hx, trivial⟩, ?_⟩
            rcases hq0.2.2 with e | ⟨x, hx, e⟩
            · exact Or.inl e
            · exact Or.inr ⟨x, hx.1, e⟩
          obtain ⟨t0, ht0, hA0⟩ := asm_29 hP hg h0 hq
          have l59 : ∀ (k : Nat) {v2 v3 : Int} {v : Wd}, 0 ≤ v2 → (∀ t : Nat, (t : Int) < v2 → ¬ ASM P g se h kn x0 M t) → WKS P g se h kn x0 (a 44) v2.toNat u v → ((v3 = 1000000 ∧ ¬ ASM P g se h kn x0 M v2.toNat) ∨ (v3 ≠ 1000000 ∧ ASM P g se h kn x0 M v2.toNat)) → PC (f_R_crowd_59 k M v2 v3 v) (fun r _ => ∃ M, MaxQ (VLS P g se h kn x0) (gn P) M ∧ FsW (ASM P g se h kn x0 M) (-1) r) := by
            intro k
            induction k with
            | zero => intros; exact pc_none
            | succ k ihk =>
              intro v2 v3 v i2 hno hwv hv3
              rw [f_R_crowd_59]
              have b29 : v2 ≤ 29 := by
                refine Classical.byContradiction fun hh => hno t0 (by omega) hA0
              rcases hv3 with ⟨e, hA⟩ | ⟨e, hA⟩
              · refine pc_ite (fun _ => ?_) (fun c => absurd e c)
                refine pc_call (wks_s hP h0 u0 u44 c44 hwv) (fun r13 u14 z2 => pc_let (fun x15 e15 => ?_))
                rw [w32_id (by omega)] at e15
                rw [e15]
                have z3 : WKS P g se h kn x0 (a 44) (v2 + 1).toNat u u14 := by rw [show (v2 + 1).toNat = v2.toNat + 1 by omega]; exact z2
                refine pc_call (lpR_pc (M := M) hP h0 u0 c44 z3) (fun r16 u17 z4 => ?_)
                rw [z4.1]
                refine ihk (by omega) (fun t ht hT => ?_) z3 z4.2
                by_cases c2 : (t : Int) < v2
                · exact hno t c2 hT
                · rw [show t = v2.toNat by omega] at hT; exact hA hT
              · refine pc_ite (fun c => absurd c e) (fun _ => ?_)
                refine pc_lw (fun u8 _ => pc_call (rt1 _ u8) (fun _ u10 _ => pc_call (rt1 _ u10) (fun _ _ _ => pc_some ⟨M, hq, Or.inr ⟨i2, hA, fun t ht => ?_⟩⟩)))
                exact Classical.byContradiction fun hh => hno t (by omega) ht
          refine pc_call (wks_0 (pr := a 44) hP h0 hr) (fun r4 u5 z => ?_)
          refine pc_call (lpR_pc (M := M) hP h0 u0 c44 z) (fun r6 u7 z4 => ?_)
          rw [z4.1]
          exact l59 FU (by decide) (fun t ht => by omega) z z4.2
        · refine pc_call (gx_pc hP hx u0 rfl ⟨i2, by omega⟩) (fun r18 u19 z => ?_)
          rw [z.1, bcs_e z.2, jc_s]
          refine pc_let (fun x22 e22 => pc_let (fun x23 e23 => ?_))
          rw [w32_id (by omega)] at e23
          rw [e22, e23]
          exact ih (by omega) (by omega) (maxi_y hM i2 trivial)
    exact l20 FU (by decide) (by have := hr.1; omega) maxi_0
  · obtain ⟨M, m1, m2⟩ := hA
    obtain ⟨M', m1', m2'⟩ := hB
    have e := maxq_one m1 m1' (fun _ => Iff.rfl)
    rw [← e] at m2'
    exact fsw_one m2 m2' (fun _ => Iff.rfl)
/-! HOW LONG STILL: the reference -/
theorem rcx_first {P g se : Int} {h kn : Nat → Int} : ∀ {n : Nat} {x y : Int}, RCX P g se h kn x (n + 1) y ↔ ∃ z, SUX P g se h kn x z ∧ RCX P g se h kn z n y := by
  intro n
  induction n with
  | zero =>
    intro x y
    constructor
    · rintro ⟨z, e, hs⟩
      have e' : z = x := e
      rw [e'] at hs
      exact ⟨y, hs, rfl⟩
    · rintro ⟨z, hs, e⟩
      have e' : y = z := e
      rw [e']
      exact ⟨x, rfl, hs⟩
  | succ n ih =>
    intro x y
    constructor
    · rintro ⟨v, hv, hs⟩
      obtain ⟨z, a, b⟩ := ih.mp hv
      exact ⟨z, a, v, b, hs⟩
    · rintro ⟨z, a, v, b, hs⟩
      exact ⟨v, ih.mpr ⟨z, a, b⟩, hs⟩
theorem rcx_add {P g se : Int} {h kn : Nat → Int} {n : Nat} {x z : Int} (hz : RCX P g se h kn x n z) : ∀ {m : Nat} {y : Int}, RCX P g se h kn z m y → RCX P g se h kn x (n + m) y := by
  intro m
  induction m with
  | zero => intro y e; rw [show y = z from e]; exact hz
  | succ m ih =>
    rintro y ⟨v, hv, hs⟩
    exact ⟨v, ih hv, hs⟩
def wgt (v : Int) : Int := if v = 0 then 100 else if gst v = true then 4 - v else 0
def lsm (s : Nat → Int) : Nat → Int
  | 0 => 0
  | n + 1 => lsm s n + wgt (s n)
theorem wgt_rg (v : Int) : 0 ≤ wgt v ∧ wgt v ≤ 100 := by
  unfold wgt
  by_cases c : v = 0
  · rw [if_pos c]; decide
  · rw [if_neg c]
    by_cases c2 : gst v = true
    · rw [if_pos c2]
      have := of_decide_eq_true c2
      omega
    · rw [if_neg c2]; decide
theorem lsm_rg (s : Nat → Int) : ∀ n : Nat, 0 ≤ lsm s n ∧ lsm s n ≤ 100 * n := by
  intro n
  induction n with
  | zero => exact ⟨Int.le_refl _, Int.le_refl _⟩
  | succ n ih => rw [lsm]; have := wgt_rg (s n); omega
/-- sums of differences -/
theorem lsm_le {s t : Nat → Int} {d : Nat → Int} : ∀ {n : Nat}, (∀ k, k < n → wgt (t k) ≤ wgt (s k) + d k) → lsm t n ≤ lsm s n + (List.range n).foldl (fun a k => a + d k) 0 := by
  intro n
  induction n with
  | zero => intro _; exact Int.le_refl _
  | succ n ih =>
    intro h
    rw [lsm, lsm, List.range_succ, List.foldl_append]
    have h1 := ih (fun k hk => h k (by omega))
    have h2 := h n (by omega)
    show lsm t n + wgt (t n) ≤ lsm s n + wgt (s n) + (List.foldl (fun a k => a + d k) 0 (List.range n) + d n)
    omega
/-- it gets less while somebody is a GUEST -/
theorem sx_lsm {P g se : Int} {h kn : Nat → Int} {x y : Int} (hP : 0 ≤ P ∧ P ≤ 10) (hg : 1 ≤ g ∧ g ≤ 3) (hx : WH x (sof x) P) (hs : SUX P g se h kn x y) (hgu : sbg P x) : lsm (sof y) P.toNat < lsm (sof x) P.toNat := by
  obtain ⟨m, hm, hw⟩ := hs
  have ek : ∀ k : Nat, (k : Int) < P → sof y k = nis P (sof x) g (bt m) k := fun k hk => sof_e hw hP.2 hk
  -- each alone
  have one : ∀ k : Nat, (k : Int) < P → (bt m k = false → wgt (sof y k) ≤ wgt (sof x k) ∧ (gst (sof x k) = true → wgt (sof y k) + 1 ≤ wgt (sof x k))) ∧ (bt m k = true → wgt (sof y k) = 3) := fun k hk => by
    have r := hx.2.2 k hk
    rw [ek k hk]
    unfold nis
    constructor
    · intro hb
      rw [hb]
      simp only [Bool.false_eq_true, if_false]
      rcases v5 r with e | e | e | e | e
      · rw [e]; simp [show gst 0 = false from rfl]
      · rw [e]
        by_cases c : 1 < g
        · simp only [show gst 1 = true from rfl, if_true, if_pos c]; decide
        · simp only [show gst 1 = true from rfl, if_true, if_neg c]; decide
      · rw [e]
        by_cases c : 2 < g
        · simp only [show gst 2 = true from rfl, if_true, if_pos c]; decide
        · simp only [show gst 2 = true from rfl, if_true, if_neg c]; decide
      · rw [e]
        by_cases c : 3 < g
        · simp only [show gst 3 = true from rfl, if_true, if_pos c]; decide
        · simp only [show gst 3 = true from rfl, if_true, if_neg c]; decide
      · rw [e]; simp [show gst 4 = false from rfl]
    · intro hb
      rw [hb, if_pos rfl]; decide
  obtain ⟨d, f, hD⟩ := hm
  have hmr := drc_rg hP hD
  -- by how much it may grow: of who brings 2, of who is brought -97
  have key : ∀ n : Nat, (n : Int) ≤ P → lsm (sof y) n + 97 * ((pn (fun k => bt m k && fre P (sof x) h k) n : Nat) : Int) + ((pn (fun k => gs P (sof x) k && !bt m k) n : Nat) : Int) ≤ lsm (sof x) n + 2 * ((pn (fun k => bt m k && gs P (sof x) k) n : Nat) : Int) := by
    intro n
    induction n with
    | zero => intro _; exact Int.le_refl _
    | succ n ih =>
      intro hn
      have h1 := ih (by omega)
      have h2 := one n (by omega)
      have rx := hx.2.2 n (by omega)
      rw [lsm, lsm, pn, pn, pn]
      have egs : gs P (sof x) n = gst (sof x n) := by unfold gs; rw [show inP P n = true from decide_eq_true (by omega)]; rfl
      cases hb : bt m n with
      | false =>
        obtain ⟨a1, a2⟩ := h2.1 hb
        rw [egs]
        cases hgs : gst (sof x n) with
        | false => simp; omega
        | true => have := a2 hgs; simp; omega
      | true =>
        have a1 := h2.2 hb
        have wr := wgt_rg (sof x n)
        rcases (mvs_who hP ⟨d, f, hD⟩).2 n (by omega) hb with e | e
        · have nf := gs_fre (P := P) (s := sof x) (h := h) n (by omega) e
          rw [e, nf]
          have : 1 ≤ wgt (sof x n) := by
            rw [egs] at e
            have h4 := of_decide_eq_true e
            unfold wgt
            rw [if_neg (by omega), if_pos e]; omega
          simp; omega
        · have ng : gs P (sof x) n = false := by
            cases hh : gs P (sof x) n with
            | false => rfl
            | true => rw [gs_fre (P := P) (s := sof x) (h := h) n (by omega) hh] at e; cases e
          have hf := fre_sr e
          rw [e, ng]
          have : wgt (sof x n) = 100 := by rw [hf.2.1]; rfl
          simp; omega
  have hk := key P.toNat (by omega)
  -- as many bring as are brought
  have cut : ∀ f : Nat → Bool, (∀ k, k < 10 → f k = true → (k : Int) < P) → pn f P.toNat = pn f 10 := fun f hf => (pn_cut (f := f) (n := P.toNat) (m := 10) (by omega) (fun k h1 h2 => by
    cases hb : f k with
    | false => rfl
    | true => have := hf k h2 hb; omega)).symm
  have gin : ∀ k, gs P (sof x) k = true → (k : Int) < P := fun k e => by unfold gs at e; rw [Bool.and_eq_true] at e; exact inP_t e.1
  have bal : ∀ {d : Nat} {f m : Int}, DRC P se kn (gs P (sof x)) (fre P (sof x) h) (sty P (sof x) g) d f m → pn (fun k => bt m k && fre P (sof x) h k) 10 = d ∧ pn (fun k => bt m k && gs P (sof x) k) 10 = d := by
    intro d
    induction d with
    | zero =>
      intro f m hD
      rw [hD.2]
      exact ⟨pn_0 (fun k _ => by rw [bt_0]; rfl), pn_0 (fun k _ => by rw [bt_0]; rfl)⟩
    | succ d ihd =>
      rintro f m ⟨f0, m0, h0', i, o, b1, b2, b3, b4, b5, b6', b7, b8, b9, b10'⟩
      obtain ⟨i1, i2⟩ := ihd h0'
      have r0 := drc_rg hP h0'
      obtain ⟨n1, n2⟩ := chd_new hP gs_fre h0' b1 (by omega) b3 b4 b5
      have st : ∀ k, k < 10 → bt m k = (bt m0 k || decide (k = i) || decide (k = o)) := fun k hk => by rw [b8]; exact sq_t r0.1 (by omega) b3 hk
      have fi : fre P (sof x) h i = false := gs_fre i (by omega) b4
      have go : gs P (sof x) o = false := by
        cases hh : gs P (sof x) o with
        | false => rfl
        | true => rw [gs_fre (P := P) (s := sof x) (h := h) o b3 hh] at b5; cases b5
      constructor
      · rw [← i1]
        refine pn_up (f := fun k => bt m0 k && fre P (sof x) h k) (f' := fun k => bt m k && fre P (sof x) h k) (i := o) b3 (fun k hk hn => ?_) (by rw [b7]; rfl) (by rw [st o b3, decide_eq_true rfl, b5]; simp)
        rw [st k hk, decide_eq_false hn, Bool.or_false]
        by_cases c : k = i
        · rw [c, fi]; simp
        · rw [decide_eq_false c, Bool.or_false]
      · rw [← i2]
        refine pn_up (f := fun k => bt m0 k && gs P (sof x) k) (f' := fun k => bt m k && gs P (sof x) k) (i := i) (by omega) (fun k hk hn => ?_) (by rw [n1]; rfl) (by rw [st i (by omega), decide_eq_true rfl, b4]; simp)
        rw [st k hk, decide_eq_false hn, Bool.or_false]
        by_cases c : k = o
        · rw [c, go]; simp
        · rw [decide_eq_false c, Bool.or_false]
  obtain ⟨q1, q2⟩ := bal hD
  rw [cut _ (fun k _ e => by rw [Bool.and_eq_true] at e; exact (fre_sr e.2).1), cut _ (fun k _ e => by rw [Bool.and_eq_true] at e; exact gin k e.1), cut _ (fun k _ e => by rw [Bool.and_eq_true] at e; exact gin k e.2), q1, q2] at hk
  by_cases c : d = 0
  · have m0 : m = 0 := by rw [c] at hD; exact hD.2
    obtain ⟨k0, hk0, hg0⟩ := hgu
    have := pn_pos (f := fun k => gs P (sof x) k && !bt m k) hk0 (by rw [hg0, m0, bt_0]; rfl)
    omega
  · omega
/-! the reference's order -/
def Lf (P : Int) (X : Nat → Int) (t : Nat) : Int := lsm (sof (X t)) P.toNat
def ODR (P : Int) (X : Nat → Int) (N : Int) (w : Wd) : Prop := (∀ k : Nat, (k : Int) < N → 0 ≤ w 72 k ∧ w 72 k < N) ∧ (∀ i j : Nat, (i : Int) < N → (j : Int) < N → w 72 i = w 72 j → i = j) ∧ (∀ t : Nat, (t : Int) < N → ∃ k : Nat, (k : Int) < N ∧ w 72 k = (t : Int)) ∧ ∀ i j : Nat, i < j → (j : Int) < N → Lf P X (w 72 i).toNat ≤ Lf P X (w 72 j).toNat
theorem fo_pc {P g se : Int} {h kn : Nat → Int} {x0 : Int} {X : Nat → Int} {w : Wd} (hP : 0 ≤ P ∧ P ≤ 10) (c0 : w 43 0 = P) (hr : 1 ≤ w 43 40 ∧ w 43 40 ≤ 3000) (hx : XOK P g se h kn x0 X w) : PC (f_R_findOrder w) (fun _ u => (∀ c, c ≠ 72 → c ≠ 73 → u c = w c) ∧ ODR P X (w 43 40) u) := by
  -- the order is written
  have l103 : ∀ (n : Nat) {v1 v2 v3 : Int} {u : Wd}, 0 ≤ v3 → 0 ≤ v2 → (∀ c, c ≠ 72 → c ≠ 73 → u c = w c) → (v1 ≤ 1000 ∧ ∀ t : Nat, (t : Int) < w 43 40 → u 73 t = Lf P X t ∧ Lf P X t ≤ v1) → (∀ k : Nat, (k : Int) < v2 → (0 ≤ u 72 k ∧ u 72 k < w 43 40) ∧ Lf P X (u 72 k).toNat < v3) → (∀ i j : Nat, (i : Int) < v2 → (j : Int) < v2 → u 72 i = u 72 j → i = j) → (∀ t : Nat, (t : Int) < w 43 40 → Lf P X t < v3 → ∃ k : Nat, (k : Int) < v2 ∧ u 72 k = (t : Int)) → (∀ i j : Nat, i < j → (j : Int) < v2 → Lf P X (u 72 i).toNat ≤ Lf P X (u 72 j).toNat) → PC (f_R_findOrder_103 n v1 v2 v3 u) (fun _ u => (∀ c, c ≠ 72 → c ≠ 73 → u c = w c) ∧ ODR P X (w 43 40) u) := by
    intro n
    induction n with
    | zero => intros; exact pc_none
    | succ n ih =>
      intro v1 v2 v3 u i3 i2 hu h73 hA hI hS hO
      rw [f_R_findOrder_103]
      refine pc_ite (fun c => pc_some ⟨hu, ?_⟩) (fun c => ?_)
      · have all : ∀ t : Nat, (t : Int) < w 43 40 → ∃ k : Nat, (k : Int) < v2 ∧ u 72 k = (t : Int) := fun t ht => hS t ht (by have := (h73.2 t ht).2; omega)
        -- as many as there are
        have ev : v2 = w 43 40 := by
          have a := php (w 43 40).toNat v2.toNat (fun i => (u 72 i).toNat) (fun i hi => by
            have := (hA i (by omega)).1
            show (u 72 i).toNat < (w 43 40).toNat
            omega) (fun i j hi hj e => by
            have e' : (u 72 i).toNat = (u 72 j).toNat := e
            have r1 := (hA i (by omega)).1
            have r2 := (hA j (by omega)).1
            exact hI i j (by omega) (by omega) (by omega))
          have ch : ∀ t : Nat, ∃ k : Nat, (t : Int) < w 43 40 → (k : Int) < v2 ∧ u 72 k = (t : Int) := fun t => by
            by_cases ct : (t : Int) < w 43 40
            · obtain ⟨k, hk⟩ := all t ct
              exact ⟨k, fun _ => hk⟩
            · exact ⟨0, fun hh => absurd hh ct⟩
          have b := php v2.toNat (w 43 40).toNat (fun i => Classical.choose (ch i)) (fun i hi => by
            have := (Classical.choose_spec (ch i) (by omega)).1
            show Classical.choose (ch i) < v2.toNat
            omega) (fun i j hi hj e => by
            have a := (Classical.choose_spec (ch i) (by omega)).2
            have b := (Classical.choose_spec (ch j) (by omega)).2
            have e2 : Classical.choose (ch i) = Classical.choose (ch j) := e
            rw [e2] at a
            omega)
          omega
        rw [ev] at hA hI hO all
        exact ⟨fun k hk => (hA k hk).1, hI, all, hO⟩
      · -- all of one sum
        have l111 : ∀ (m : Nat) {v2 v4 : Int} {u : Wd}, 0 ≤ v4 → v4 ≤ w 43 40 → 0 ≤ v2 → (∀ c, c ≠ 72 → c ≠ 73 → u c = w c) → (v1 ≤ 1000 ∧ ∀ t : Nat, (t : Int) < w 43 40 → u 73 t = Lf P X t ∧ Lf P X t ≤ v1) → (∀ k : Nat, (k : Int) < v2 → (0 ≤ u 72 k ∧ u 72 k < w 43 40) ∧ (Lf P X (u 72 k).toNat < v3 ∨ (Lf P X (u 72 k).toNat = v3 ∧ u 72 k < v4))) → (∀ i j : Nat, (i : Int) < v2 → (j : Int) < v2 → u 72 i = u 72 j → i = j) → (∀ t : Nat, (t : Int) < w 43 40 → (Lf P X t < v3 ∨ (Lf P X t = v3 ∧ (t : Int) < v4)) → ∃ k : Nat, (k : Int) < v2 ∧ u 72 k = (t : Int)) → (∀ i j : Nat, i < j → (j : Int) < v2 → Lf P X (u 72 i).toNat ≤ Lf P X (u 72 j).toNat) → PC (f_R_findOrder_111 (f_R_findOrder_103 n) m v1 v2 v3 v4 u) (fun _ u => (∀ c, c ≠ 72 → c ≠ 73 → u c = w c) ∧ ODR P X (w 43 40) u) := by
          intro m
          induction m with
          | zero => intros; exact pc_none
          | succ m ihm =>
            intro v2 v4 u i4 i4' i2 hu h73 hA hI hS hO
            rw [f_R_findOrder_111, hu 43 (by decide) (by decide)]
            unfold f_R_findOrder_142
            refine pc_ite (fun c4 => pc_let (fun x1 e1 => ?_)) (fun c4 => pc_gd (fun _ => ?_))
            · have h1000 := h73.1
              rw [w32_id (by omega)] at e1
              rw [e1]
              refine ih (by omega) i2 hu h73 (fun k hk => ?_) hI (fun t ht hlt => hS t ht (by omega)) hO
              have := hA k hk
              exact ⟨this.1, by omega⟩
            · obtain ⟨z73, z1⟩ := h73.2 v4.toNat (by omega)
              rw [z73]
              refine pc_ite (fun ce => pc_let (fun x3 e3 => pc_gd (fun g3 => pc_lw (fun u4 e4 => pc_let (fun x2 e2 => ?_))))) (fun ce => pc_let (fun x2 e2 => ?_))
              · rw [w32_id (by omega)] at e3
                rw [w32_id (by omega)] at e2
                rw [e2, e3]
                have z72 : ∀ k, u4 72 k = if k = v2.toNat then v4 else u 72 k := fun k => by
                  rw [e4]
                  by_cases ck : k = v2.toNat
                  · rw [if_pos ck, ck, st_eq]
                  · rw [if_neg ck, st_k ck]
                have o73 : u4 73 = u 73 := by rw [e4, st_row (by decide)]
                refine ihm (by omega) (by omega) (by omega) (fun c a b => by rw [e4, st_row a, hu c a b]) (by rw [o73]; exact h73) (fun k hk => ?_) (fun i j hi hj e => ?_) (fun t ht hlt => ?_) (fun i j hij hj => ?_)
                · rw [z72]
                  by_cases ck : k = v2.toNat
                  · rw [if_pos ck]; exact ⟨by omega, Or.inr ⟨ce, by omega⟩⟩
                  · rw [if_neg ck]
                    have := hA k (by omega)
                    exact ⟨this.1, by omega⟩
                · rw [z72, z72] at e
                  by_cases ci : i = v2.toNat <;> by_cases cj : j = v2.toNat
                  · omega
                  · rw [if_pos ci, if_neg cj] at e
                    have := hA j (by omega)
                    have e2 : (u 72 j).toNat = v4.toNat := by omega
                    rw [e2] at this; omega
                  · rw [if_neg ci, if_pos cj] at e
                    have := hA i (by omega)
                    have e2 : (u 72 i).toNat = v4.toNat := by omega
                    rw [e2] at this; omega
                  · rw [if_neg ci, if_neg cj] at e
                    exact hI i j (by omega) (by omega) e
                · by_cases ct : (t : Int) = v4
                  · exact ⟨v2.toNat, by omega, by rw [z72, if_pos rfl]; omega⟩
                  · obtain ⟨k, hk, e⟩ := hS t ht (by omega)
                    exact ⟨k, by omega, by rw [z72, if_neg (by omega)]; exact e⟩
                · rw [z72, z72, if_neg (show ¬ i = v2.toNat by omega)]
                  by_cases cj : j = v2.toNat
                  · rw [if_pos cj, ce]
                    have := hA i (by omega)
                    omega
                  · rw [if_neg cj]; exact hO i j hij (by omega)
              · rw [w32_id (by omega)] at e2
                rw [e2]
                refine ihm (by omega) (by omega) i2 hu h73 (fun k hk => ?_) hI (fun t ht hlt => ?_) hO
                · have := hA k hk
                  exact ⟨this.1, by omega⟩
                · by_cases ct : (t : Int) = v4
                  · rcases hlt with hlt | hlt
                    · exact hS t ht (Or.inl hlt)
                    · have e : t = v4.toNat := by omega
                      rw [e] at hlt
                      exact absurd hlt.1 ce
                  · exact hS t ht (by omega)
        exact l111 FU (by decide) (by omega) i2 hu h73 (fun k hk => ⟨(hA k hk).1, Or.inl (hA k hk).2⟩) hI (fun t ht hlt => hS t ht (by omega)) hO
  -- the sums
  have l4 : ∀ (n : Nat) {v1 v2 : Int} {u : Wd}, 0 ≤ v2 → v2 ≤ w 43 40 → (∀ c, c ≠ 72 → c ≠ 73 → u c = w c) → (0 ≤ v1 ∧ v1 ≤ 1000 ∧ ∀ t : Nat, (t : Int) < v2 → u 73 t = Lf P X t ∧ Lf P X t ≤ v1) → PC (f_R_findOrder_4 n v1 v2 u) (fun _ u => (∀ c, c ≠ 72 → c ≠ 73 → u c = w c) ∧ ODR P X (w 43 40) u) := by
    intro n
    induction n with
    | zero => intros; exact pc_none
    | succ n ih =>
      intro v1 v2 u i2 i2' hu h73
      rw [f_R_findOrder_4, hu 43 (by decide) (by decide)]
      refine pc_ite (fun c => ?_) (fun c => pc_gd (fun _ => pc_let (fun x5 e5 => ?_)))
      · refine l103 FU (by decide) (by decide) hu ⟨h73.2.1, fun t ht => h73.2.2 t (by omega)⟩ (fun k hk => by omega) (fun i j hi => by omega) (fun t ht hlt => ?_) (fun i j hij hj => by omega)
        have := (lsm_rg (sof (X t)) P.toNat).1
        unfold Lf at hlt
        omega
      · obtain ⟨hxv, hcv⟩ := hx.1 v2.toNat (by omega)
        have hs := hxv.1.2.2
        rw [hu 63 (by decide) (by decide)] at e5
        have l25 : ∀ (m : Nat) {v3 v4 v5 : Int}, 0 ≤ v5 → v5 ≤ P → v3 = cdf (sof (X v2.toNat)) (P - v5).toNat → (0 ≤ v4 ∧ v4 + lsm (sof (X v2.toNat)) (P - v5).toNat = Lf P X v2.toNat) → PC (f_R_findOrder_25 (f_R_findOrder_4 n) m v1 v2 v3 v4 v5 u) (fun _ u => (∀ c, c ≠ 72 → c ≠ 73 → u c = w c) ∧ ODR P X (w 43 40) u) := by
          intro m
          induction m with
          | zero => intros; exact pc_none
          | succ m ihm =>
            intro v3 v4 v5 i5 i5' e3 e4
            rw [f_R_findOrder_25, hu 43 (by decide) (by decide), c0]
            have lr := lsm_rg (sof (X v2.toNat)) P.toNat
            have eL : Lf P X v2.toNat = lsm (sof (X v2.toNat)) P.toNat := rfl
            refine pc_ite (fun c5 => ?_) (fun c5 => ?_)
            · rw [show (P - v5).toNat = 0 by omega] at e4
              have e4' : v4 = Lf P X v2.toNat := by
                have : lsm (sof (X v2.toNat)) 0 = 0 := rfl
                omega
              refine pc_gd (fun _ => pc_lw (fun u6 e6 => pc_let (fun x7 e7 => pc_let (fun x8 e8 => ?_))))
              rw [w32_id (by omega)] at e8
              rw [e8]
              have mm := imax_sp v1 v4
              refine ih (by omega) (by omega) (fun c a b => by rw [e6, st_row b, hu c a b]) ⟨by omega, by omega, fun t ht => ?_⟩
              rw [e6]
              by_cases ck : t = v2.toNat
              · rw [ck, st_eq]; exact ⟨e4', by omega⟩
              · rw [st_k ck]
                obtain ⟨a1, a2⟩ := h73.2.2 t (by omega)
                exact ⟨a1, by omega⟩
            · have en : (P - v5).toNat = (P - (v5 + 1)).toNat + 1 := by omega
              rw [en] at e3 e4
              obtain ⟨d1, d2⟩ := dg5 (s := sof (X v2.toNat)) (n := (P - (v5 + 1)).toNat) (fun k hk => hs k (by omega)) (by omega)
              have hsk := hs (P - (v5 + 1)).toNat (by omega)
              have lr2 := lsm_rg (sof (X v2.toNat)) (P - (v5 + 1)).toNat
              have wr := wgt_rg (sof (X v2.toNat) (P - (v5 + 1)).toNat)
              rw [lsm] at e4
              have nx : ∀ z : Int, z = wgt (sof (X v2.toNat) (P - (v5 + 1)).toNat) → PC (f_R_findOrder_65 (f_R_findOrder_4 n) (f_R_findOrder_25 (f_R_findOrder_4 n) m) v1 v2 v3 v5 v4 z u) (fun _ u => (∀ c, c ≠ 72 → c ≠ 73 → u c = w c) ∧ ODR P X (w 43 40) u) := fun z ez => by
                unfold f_R_findOrder_65
                refine pc_let (fun x11 e11 => ?_)
                rw [w32_id (by omega)] at e11
                rw [if_neg (by decide), e3, d2]
                refine pc_let (fun x12 e12 => pc_let (fun x13 e13 => ?_))
                rw [w32_id (by omega)] at e13
                rw [e11, e12, e13]
                exact ihm (by omega) (by omega) rfl (by omega)
              have ew : ∀ v : Int, v = sof (X v2.toNat) (P - (v5 + 1)).toNat → wgt v = wgt (sof (X v2.toNat) (P - (v5 + 1)).toNat) := fun v e => by rw [e]
              rw [if_neg (by decide), e3, d1]
              rw [← e3]
              refine pc_ite (fun z => nx 100 ?_) (fun z => ?_)
              · rw [z]; rfl
              · rw [if_neg (by decide), isG_e, jc_s]
                cases hgs : gst (sof (X v2.toNat) (P - (v5 + 1)).toNat) with
                | false =>
                  refine pc_ite (fun _ => nx 0 ?_) (fun e => absurd rfl e)
                  unfold wgt
                  rw [if_neg z, if_neg (by rw [hgs]; decide)]
                | true =>
                  refine pc_ite (fun e => absurd e (by decide)) (fun _ => ?_)
                  rw [if_neg (by decide)]
                  refine nx _ ?_
                  unfold wgt
                  rw [if_neg z, if_pos hgs]
                  exact w32_id (by omega)
        rw [e5]
        refine l25 FU (by decide) hP.1 (by rw [show (P - 0).toNat = P.toNat by omega]; exact hcv) ⟨Int.le_refl _, ?_⟩
        rw [show (P - 0).toNat = P.toNat by omega]
        unfold Lf; omega
  unfold f_R_findOrder
  exact l4 FU (by decide) (by omega) (fun _ _ _ => rfl) ⟨by decide, by decide, fun t ht => by omega⟩
/-! LAST, STAYS, WORTH, NEEDED -/
def LFQ (P g se : Int) (h kn : Nat → Int) (ok : Int → Prop) (x r : Int) : Prop := (¬ ok x ∧ r = -1) ∨ (ok x ∧ 0 ≤ r ∧ (∃ y, RCX P g se h kn x r.toNat y ∧ ok y) ∧ ∀ n y, RCX P g se h kn x n y → ok y → (n : Int) ≤ r)
theorem imx (a b : Int) : a ≤ imax a b ∧ b ≤ imax a b ∧ (imax a b = a ∨ imax a b = b) := by have := imax_sp a b; omega
theorem flf_pc {P g se : Int} {h kn : Nat → Int} {x0 : Int} {X : Nat → Int} {w : Wd} {v1 : Int} {F : Nat → Bool} {ok : Int → Prop} (hP : 0 ≤ P ∧ P ≤ 10) (c0 : w 43 0 = P) (hr : RLI P g se h kn x0 w) (hx : XOK P g se h kn x0 X w) (hF : B10 v1 F) (hok : ∀ x, ok x ↔ ∃ q, q < 10 ∧ gs P (sof x) q = true ∧ F q = true) (hback : ∀ x z n y, VLS P g se h kn x0 x → SUX P g se h kn x z → ok x → RCX P g se h kn z n y → ok y → ok z) (hless : ∀ x z, VLS P g se h kn x0 x → ok x → SUX P g se h kn x z → lsm (sof z) P.toNat < lsm (sof x) P.toNat) : PC (f_R_findLife v1 w) (fun _ u => (∀ c, c ≠ 71 → c ≠ 72 → c ≠ 73 → u c = w c) ∧ ∀ t : Nat, (t : Int) < w 43 40 → LFQ P g se h kn ok (X t) (u 71 t)) := by
  unfold f_R_findLife
  refine pc_call (fo_pc hP c0 hr.1 hx) (fun r1 b q => ?_)
  obtain ⟨q1, o1, o2, o3, o4⟩ := q
  have h3000 := hr.1
  have b43 : b 43 = w 43 := q1 43 (by decide) (by decide)
  have b63 : b 63 = w 63 := q1 63 (by decide) (by decide)
  have b64 : b 64 = w 64 := q1 64 (by decide) (by decide)
  have b65 : b 65 = w 65 := q1 65 (by decide) (by decide)
  have hvz : ∀ x z, VLS P g se h kn x0 x → SUX P g se h kn x z → VLS P g se h kn x0 z := fun x z hv hs => by
    obtain ⟨n, hn⟩ := hv.2
    have hs' := hs
    obtain ⟨m, _, hw⟩ := hs
    exact ⟨wh_sof hw hP.2, n + 1, x, hn, hs'⟩
  have l6 : ∀ (n : Nat) {v2 : Int} {u : Wd}, 0 ≤ v2 → v2 ≤ w 43 40 → (∀ c, c ≠ 71 → u c = b c) → (∀ j : Nat, (j : Int) < v2 → LFQ P g se h kn ok (X (b 72 j).toNat) (u 71 (b 72 j).toNat)) → PC (f_R_findLife_6 n v1 v2 u) (fun _ u => (∀ c, c ≠ 71 → c ≠ 72 → c ≠ 73 → u c = w c) ∧ ∀ t : Nat, (t : Int) < w 43 40 → LFQ P g se h kn ok (X t) (u 71 t)) := by
    intro n
    induction n with
    | zero => intros; exact pc_none
    | succ n ih =>
      intro v2 u i2 i2' hu hL
      rw [f_R_findLife_6, hu 43 (by decide), b43]
      unfold f_R_findLife_104
      refine pc_ite (fun c => pc_some ⟨fun c a1 a2 a3 => (hu c a1).trans (q1 c a2 a3), fun t ht => ?_⟩) (fun c => ?_)
      · obtain ⟨k, hk, e⟩ := o3 t ht
        have := hL k (by omega)
        rw [e, show ((t : Nat) : Int).toNat = t by omega] at this
        exact this
      · refine pc_gd (fun _ => pc_let (fun x3 e3 => ?_))
        rw [hu 72 (by decide)] at e3
        obtain ⟨s1, s2⟩ := o1 v2.toNat (by omega)
        rw [← e3] at s1 s2
        have es : x3 = ((x3.toNat : Nat) : Int) := by omega
        obtain ⟨hxv, hcv⟩ := hx.1 x3.toNat (by omega)
        obtain ⟨⟨hlo, hhi⟩, hE⟩ := hr.2.2.2.2.2 x3.toNat (by omega)
        obtain ⟨hE1, hE2⟩ := hE (X x3.toNat) hxv hcv
        -- what comes ahead of it
        have ahead : ∀ j : Nat, (j : Int) < v2 → (b 72 j).toNat ≠ x3.toNat := fun j hj e => by
          have r1 := (o1 j (by omega)).1
          have := o2 j v2.toNat (by omega) (by omega) (by omega)
          omega
        refine pc_gd (fun _ => pc_lw (fun u4 e4 => ?_))
        have hu4 : ∀ c, c ≠ 71 → u4 c = b c := fun c hc => by rw [e4, st_row hc, hu c hc]
        have k4 : ∀ k, k ≠ x3.toNat → u4 71 k = u 71 k := fun k hk => by rw [e4, st_k hk]
        refine pc_call (gx_pc hP hx (by rw [hu4 43 (by decide), b43]; exact c0) (by rw [hu4 63 (by decide), b63]) ⟨s1, s2⟩) (fun r5 u6 z => ?_)
        rw [z.1]
        have hand := b10_and z.2 hF.2
        have ok0 : iand r5 v1 = 0 ↔ ¬ ok (X x3.toNat) := by
          rw [hok]
          rcases b10_some hand with ⟨e, hn⟩ | ⟨e, q, hq, hb⟩
          · refine ⟨fun _ => fun ⟨q, hq, a1, a2⟩ => ?_, fun _ => e⟩
            have := hn q hq
            rw [a1, a2] at this; cases this
          · refine ⟨fun c => absurd c e, fun c => absurd ⟨q, hq, ?_⟩ c⟩
            rw [Bool.and_eq_true] at hb
            exact hb
        have w2 : w32 (v2 + 1) = v2 + 1 := w32_id (by omega)
        refine pc_ite (fun cz => pc_let (fun x9 e9 => ?_)) (fun cz => ?_)
        · rw [w2] at e9
          rw [e9]
          refine ih (by omega) (by omega) hu4 (fun j hj => ?_)
          by_cases cj : (j : Int) < v2
          · rw [k4 _ (ahead j cj)]; exact hL j cj
          · rw [show j = v2.toNat by omega, ← e3]
            exact Or.inl ⟨ok0.mp cz, by rw [e4, st_eq]⟩
        · have hokx : ok (X x3.toNat) := Classical.byContradiction fun hh => cz (ok0.mpr hh)
          refine pc_gd (fun _ => pc_lw (fun u7 e7 => pc_gd (fun _ => pc_let (fun x8 e8 => ?_))))
          have hu7 : ∀ c, c ≠ 71 → u7 c = b c := fun c hc => by rw [e7, st_row hc, hu4 c hc]
          have k7 : ∀ k, k ≠ x3.toNat → u7 71 k = u 71 k := fun k hk => by rw [e7, st_k hk, k4 k hk]
          have w3 : w32 (x3 + 1) = x3 + 1 := w32_id (by omega)
          rw [hu7 64 (by decide), b64] at e8
          -- one edge after the other: the longest so far
          have l56 : ∀ (m : Nat) {v4 : Int} {v : Wd}, w 64 x3.toNat ≤ v4 → v4 ≤ w 64 (x3.toNat + 1) → (∀ c, c ≠ 71 → v c = b c) → (∀ k, k ≠ x3.toNat → v 71 k = u 71 k) → (0 ≤ v 71 x3.toNat ∧ (∃ y, RCX P g se h kn (X x3.toNat) (v 71 x3.toNat).toNat y ∧ ok y) ∧ ∀ e : Nat, w 64 x3.toNat ≤ (e : Int) → (e : Int) < v4 → u 71 (w 65 e).toNat + 1 ≤ v 71 x3.toNat) → PC (f_R_findLife_56 (f_R_findLife_6 n) m v1 v2 x3 v4 v) (fun _ u => (∀ c, c ≠ 71 → c ≠ 72 → c ≠ 73 → u c = w c) ∧ ∀ t : Nat, (t : Int) < w 43 40 → LFQ P g se h kn ok (X t) (u 71 t)) := by
            intro m
            induction m with
            | zero => intros; exact pc_none
            | succ m ihm =>
              intro v4 v i4 i4' hv k71 hmx
              obtain ⟨m1, m2, m3⟩ := hmx
              rw [f_R_findLife_56, w3, hv 64 (by decide), b64, show (x3 + 1).toNat = x3.toNat + 1 by omega]
              unfold f_R_findLife_104
              -- what stands at the end of an edge
              have tgt : ∀ e : Nat, w 64 x3.toNat ≤ (e : Int) → (e : Int) < w 64 (x3.toNat + 1) → (w 65 e).toNat ≠ x3.toNat ∧ SUX P g se h kn (X x3.toNat) (X (w 65 e).toNat) ∧ LFQ P g se h kn ok (X (w 65 e).toNat) (u 71 (w 65 e).toNat) := fun e h1 h2 => by
                obtain ⟨g4, y, g5, g6⟩ := hE1 e h1 h2
                have hy := hx.1 (w 65 e).toNat (by omega)
                have eX : X (w 65 e).toNat = y := cdx_inj hP hy.1.1 (hvz _ _ hxv g5).1 (by rw [← hy.2, g6])
                have hl := hless _ _ hxv hokx g5
                obtain ⟨j, hj, ej⟩ := o3 (w 65 e).toNat (by omega)
                have hjv : (j : Int) < v2 := by
                  refine Classical.byContradiction fun hh => ?_
                  have le : Lf P X x3.toNat ≤ Lf P X (w 65 e).toNat := by
                    by_cases cj : j = v2.toNat
                    · rw [cj, ← e3] at ej
                      have : x3.toNat = (w 65 e).toNat := by omega
                      rw [this]; exact Int.le_refl _
                    · have := o4 v2.toNat j (by omega) hj
                      rw [← e3, ej, show (((w 65 e).toNat : Nat) : Int).toNat = (w 65 e).toNat by omega] at this
                      exact this
                  unfold Lf at le
                  rw [eX] at le
                  omega
                refine ⟨fun hh => ?_, by rw [eX]; exact g5, ?_⟩
                · rw [hh] at eX
                  rw [eX] at hl
                  omega
                · have := hL j hjv
                  rw [ej, show (((w 65 e).toNat : Nat) : Int).toNat = (w 65 e).toNat by omega] at this
                  exact this
              refine pc_gd (fun _ => pc_ite (fun c4 => pc_let (fun x9 e9 => ?_)) (fun c4 => ?_))
              · rw [w2] at e9
                rw [e9]
                refine ih (by omega) (by omega) hv (fun j hj => ?_)
                by_cases cj : (j : Int) < v2
                · rw [k71 _ (ahead j cj)]; exact hL j cj
                · rw [show j = v2.toNat by omega, ← e3]
                  refine Or.inr ⟨hokx, m1, m2, fun n y hn hy => ?_⟩
                  cases n with
                  | zero => omega
                  | succ n =>
                    obtain ⟨z', hz1, hz2⟩ := rcx_first.mp hn
                    obtain ⟨e, g1, g2, g3, g4⟩ := hE2 z' hz1
                    have ha := hx.1 (w 65 e).toNat (by omega)
                    have eX : X (w 65 e).toNat = z' := cdx_inj hP ha.1.1 (hvz _ _ hxv hz1).1 (by rw [← ha.2, g4])
                    have hokz := hback _ _ _ _ hxv hz1 hokx hz2 hy
                    have t3 := (tgt e g1 g2).2.2
                    rw [eX] at t3
                    rcases t3 with ⟨t4, _⟩ | ⟨_, _, _, t5⟩
                    · exact absurd hokz t4
                    · have := t5 n y hz2 hy
                      have := m3 e g1 (by omega)
                      omega
              · obtain ⟨t1, t2, t3⟩ := tgt v4.toNat (by omega) (by omega)
                have g4 := (hE1 v4.toNat (by omega) (by omega)).1
                rw [hv 65 (by decide), b65]
                refine pc_gd (fun _ => pc_gd (fun _ => pc_gd (fun _ => pc_gd (fun _ => pc_lw (fun u10 e10 => pc_let (fun x11 e11 => ?_))))))
                rw [k71 _ t1] at e10
                -- a number that is no bigger than the number of STATES' sums
                have lbd : u 71 (w 65 v4.toNat).toNat ≤ 2147483646 := by
                  rcases t3 with ⟨_, e⟩ | ⟨_, _, ⟨y, hy, oky⟩, _⟩
                  · omega
                  · have path : ∀ (n : Nat) (x' y : Int), VLS P g se h kn x0 x' → ok x' → RCX P g se h kn x' n y → ok y → (n : Int) + lsm (sof y) P.toNat ≤ lsm (sof x') P.toNat := by
                      intro n
                      induction n with
                      | zero => intro x' y _ _ e _; rw [show y = x' from e]; omega
                      | succ n ihn =>
                        intro x' y hv' hox hn hoy
                        obtain ⟨z', hz1, hz2⟩ := rcx_first.mp hn
                        have hoz := hback _ _ _ _ hv' hz1 hox hz2 hoy
                        have := ihn z' y (hvz _ _ hv' hz1) hoz hz2 hoy
                        have := hless _ _ hv' hox hz1
                        omega
                    have hokz := hback _ _ _ _ hxv t2 hokx hy oky
                    have a1 := path _ _ _ (hvz _ _ hxv t2) hokz hy oky
                    have a2 := (lsm_rg (sof y) P.toNat).1
                    have a3 := (lsm_rg (sof (X (w 65 v4.toNat).toNat)) P.toNat).2
                    omega
                have lbd2 : -1 ≤ u 71 (w 65 v4.toNat).toNat := by
                  rcases t3 with ⟨_, e⟩ | ⟨_, e, _⟩ <;> omega
                rw [w32_id (show -2147483648 ≤ u 71 (w 65 v4.toNat).toNat + 1 ∧ u 71 (w 65 v4.toNat).toNat + 1 ≤ 2147483647 by omega)] at e10
                have b41 : v4 ≤ 2147483646 := by omega
                rw [w32_id (by omega)] at e11
                rw [e11]
                obtain ⟨x1', x2', x3'⟩ := imx (v 71 x3.toNat) (u 71 (w 65 v4.toNat).toNat + 1)
                have z71 : u10 71 x3.toNat = imax (v 71 x3.toNat) (u 71 (w 65 v4.toNat).toNat + 1) := by rw [e10, st_eq]
                refine ihm (by omega) (by omega) (fun c hc => by rw [e10, st_row hc, hv c hc]) (fun k hk => by rw [e10, st_k hk, k71 k hk]) ⟨by rw [z71]; omega, ?_, fun e h1 h2 => ?_⟩
                · rw [z71]
                  rcases x3' with e | e
                  · rw [e]; exact m2
                  · rw [e]
                    by_cases cn : u 71 (w 65 v4.toNat).toNat = -1
                    · rw [cn]; exact ⟨X x3.toNat, rfl, hokx⟩
                    · rcases t3 with ⟨_, e'⟩ | ⟨_, e', ⟨y, hy, oky⟩, _⟩
                      · exact absurd e' cn
                      · refine ⟨y, ?_, oky⟩
                        rw [show (u 71 (w 65 v4.toNat).toNat + 1).toNat = (u 71 (w 65 v4.toNat).toNat).toNat + 1 by omega]
                        exact rcx_first.mpr ⟨_, t2, hy⟩
                · rw [z71]
                  by_cases ce : (e : Int) < v4
                  · have := m3 e h1 ce; omega
                  · rw [show e = v4.toNat by omega]; exact x2'
          rw [e8]
          exact l56 FU (Int.le_refl _) hhi hu7 k7 ⟨by rw [e7, st_eq]; exact Int.le_refl _, ⟨X x3.toNat, by rw [e7, st_eq]; exact rfl, hokx⟩, fun e h1 h2 => by omega⟩
  exact l6 FU (by decide) (by omega) (fun _ _ => rfl) (fun j hj => by omega)
/-- somebody a GUEST: all along -/
theorem sbg_back {P g se : Int} {h kn : Nat → Int} (hP : 0 ≤ P ∧ P ≤ 10) : ∀ {n : Nat} {z y : Int}, WH z (sof z) P → RCX P g se h kn z n y → sbg P y → sbg P z := by
  intro n
  induction n with
  | zero => intro z y _ e hs; rw [show y = z from e] at hs; exact hs
  | succ n ih =>
    intro z y hz hn hs
    obtain ⟨v, h1, h2⟩ := rcx_first.mp hn
    have hv : WH v (sof v) P := by
      obtain ⟨m, _, hw⟩ := h1
      exact wh_sof hw hP.2
    have sv := ih hv h2 hs
    refine Classical.byContradiction fun hno => ?_
    have h3 : ∀ k, k < 10 → gs P (sof z) k = false := fun k hk => by
      cases e : gs P (sof z) k with
      | false => rfl
      | true => exact absurd ⟨k, hk, e⟩ hno
    rw [(sx_no (g := g) (se := se) (h := h) (kn := kn) hP hz h3).mp h1] at sv
    exact hno sv
/-- who is OUT stays OUT -/
theorem out_on {P g se : Int} {h kn : Nat → Int} (hP : 0 ≤ P ∧ P ≤ 10) {i : Nat} (hi : (i : Int) < P) : ∀ {n : Nat} {z y : Int}, RCX P g se h kn z n y → sof z i = 4 → sof y i = 4 := by
  intro n
  induction n with
  | zero => intro z y e hs; rw [show y = z from e]; exact hs
  | succ n ih =>
    rintro z y ⟨v, hv, hs⟩ e
    have ev := ih hv e
    obtain ⟨m, hm, hw⟩ := hs
    rw [sof_e hw hP.2 hi]
    have nm : bt m i = false := by
      cases hb : bt m i with
      | false => rfl
      | true => exact absurd ev (mvs_ok hP hm i (by omega) hb).2
    unfold nis
    rw [nm, ev]; rfl
theorem gsi_back {P g se : Int} {h kn : Nat → Int} (hP : 0 ≤ P ∧ P ≤ 10) {i : Nat} {x z y : Int} {n : Nat} (hs : SUX P g se h kn x z) (hx : gs P (sof x) i = true) (hn : RCX P g se h kn z n y) (hy : gs P (sof y) i = true) : gs P (sof z) i = true := by
  unfold gs at hx hy ⊢
  rw [Bool.and_eq_true] at hx hy ⊢
  have hi := inP_t hx.1
  refine ⟨hx.1, ?_⟩
  have h1 : 1 ≤ sof x i ∧ sof x i < 4 := of_decide_eq_true hx.2
  have h2 : 1 ≤ sof y i ∧ sof y i < 4 := of_decide_eq_true hy.2
  have n4 : sof z i ≠ 4 := fun e => by have := out_on hP hi hn e; omega
  obtain ⟨m, _, hw⟩ := hs
  rw [sof_e hw hP.2 hi] at n4 ⊢
  unfold nis at n4 ⊢
  by_cases c : bt m i = true
  · rw [if_pos c]; rfl
  · rw [if_neg c, if_pos hx.2] at n4 ⊢
    by_cases c2 : sof x i < g
    · rw [if_pos c2] at n4 ⊢; exact decide_eq_true (by omega)
    · rw [if_neg c2] at n4; exact absurd rfl n4
theorem ls_gs {P g se : Int} {h kn : Nat → Int} {x0 : Int} (hP : 0 ≤ P ∧ P ≤ 10) (hg : 1 ≤ g ∧ g ≤ 3) {x z : Int} (hv : VLS P g se h kn x0 x) (hs : SUX P g se h kn x z) (hgu : sbg P x) : lsm (sof z) P.toNat < lsm (sof x) P.toNat := sx_lsm hP hg hv.1 hs hgu
/-- the last WEEK with somebody a GUEST -/
def LWQ (P g se : Int) (h kn : Nat → Int) (x0 r : Int) : Prop := (r = -1 ∧ ¬ sbg P x0) ∨ (0 ≤ r ∧ (∃ y, RCX P g se h kn x0 r.toNat y ∧ sbg P y) ∧ ∀ n y, RCX P g se h kn x0 n y → sbg P y → (n : Int) ≤ r)
theorem lwq_one {P g se : Int} {h kn : Nat → Int} {x0 r r' : Int} (hP : 0 ≤ P ∧ P ≤ 10) (h0 : WH x0 (sof x0) P) (a : LWQ P g se h kn x0 r) (b : LWQ P g se h kn x0 r') : r = r' := by
  rcases a with ⟨a1, a2⟩ | ⟨a1, ⟨y, a2, a3⟩, a4⟩
  · rcases b with ⟨b1, _⟩ | ⟨b1, ⟨y', b2, b3⟩, _⟩
    · omega
    · exact absurd (sbg_back hP h0 b2 b3) a2
  · rcases b with ⟨b1, b2⟩ | ⟨b1, ⟨y', b2, b3⟩, b4⟩
    · exact absurd (sbg_back hP h0 a2 a3) b2
    · have := b4 _ _ a2 a3
      have := a4 _ _ b2 b3
      omega
theorem flall_pc {P g se : Int} {h kn : Nat → Int} {x0 : Int} {w : Wd} (hP : 0 ≤ P ∧ P ≤ 10) (hg : 1 ≤ g ∧ g ≤ 3) (h0 : WH x0 (sof x0) P) (c0 : w 43 0 = P) (hr : RLI P g se h kn x0 w) : PC (jcall (f_R_all w) fun r4 u5 => f_R_findLife r4 u5) (fun _ u => (∀ c, c ≠ 71 → c ≠ 72 → c ≠ 73 → u c = w c) ∧ LWQ P g se h kn x0 (u 71 0)) := by
  obtain ⟨X, hx⟩ := rli_x hP hr
  unfold f_R_all
  rw [jc_s, c0]
  have h1 := hr.1
  refine pc_w (flf_pc (ok := sbg P) hP c0 hr hx (b10_all hP) (fun x => ?_) (fun x z n y hv hs _ hn hy => ?_) (fun x z hv hgu hs => ls_gs hP hg hv hs hgu)) (fun _ u q => ⟨q.1, ?_⟩)
  · constructor
    · rintro ⟨k, hk, hgk⟩
      refine ⟨k, hk, hgk, decide_eq_true ?_⟩
      unfold gs at hgk
      rw [Bool.and_eq_true] at hgk
      exact inP_t hgk.1
    · rintro ⟨k, hk, hgk, _⟩; exact ⟨k, hk, hgk⟩
  · obtain ⟨m, _, hw⟩ := hs
    exact sbg_back hP (wh_sof hw hP.2) hn hy
  · have := q.2 0 (by omega)
    rw [(xok_0 hP h0 hr hx (by omega)).mpr rfl] at this
    rcases this with ⟨a, b⟩ | ⟨a, b, c, d⟩
    · exact Or.inl ⟨b, a⟩
    · exact Or.inr ⟨b, c, d⟩
/-- the class's -/
theorem lst_lwq {P g se : Int} {h kn : Nat → Int} {x0 r : Int} (hP : 0 ≤ P ∧ P ≤ 10) (hg : 1 ≤ g ∧ g ≤ 3) (h0 : WH x0 (sof x0) P) {T : Nat → Prop} (hT : ∀ t, T t ↔ ∃ y, RCX P g se h kn x0 t y ∧ sbg P y) (hl : LstQ T r) : LWQ P g se h kn x0 r := by
  rcases hl with ⟨e, hn⟩ | ⟨e, h1, h2⟩
  · exact Or.inl ⟨e, fun hs => hn 0 (by decide) ((hT 0).mpr ⟨x0, rfl, hs⟩)⟩
  · refine Or.inr ⟨e.1, (hT _).mp h1, fun n y hn hy => h2 n ?_ ((hT n).mpr ⟨y, hn, hy⟩)⟩
    have := wk_29 hP hg h0 hn hy
    omega
theorem wkt_all {P g se : Int} {h kn : Nat → Int} {x0 : Int} (t : Nat) : WKT P g se h kn x0 (fun _ => false) (fun _ => false) t ↔ ∃ y, RCX P g se h kn x0 t y ∧ sbg P y := by
  constructor
  · rintro ⟨x, a, ⟨b, _⟩, _⟩; exact ⟨x, a, b⟩
  · rintro ⟨x, a, b⟩; exact ⟨x, a, ⟨b, fun q _ hF => by cases hF⟩, fun q _ hF => by cases hF⟩
theorem er_last {a w : Wd} {P g se : Int} {h kn : Nat → Int} {x0 n : Int} (hp : PRM a w P g se h kn x0) (hG : G [] a a) (hs : SCR n w) (hn : n ≤ 2600) (hk : w 28 9 ≠ 0 → KPT P g se h kn x0 w) : PC (f_E_last w) (fun r _ => PC (f_R_last a) (fun r' _ => r = r')) := by
  obtain ⟨hP, hg, h0, hw, ⟨c0, _⟩, c47, _, _, c44, c6⟩ := id hp
  unfold f_E_last f_R_last
  refine pc_w (two_run (A := fun r => ∃ m, LWQ P g se h kn x0 m ∧ r = if m = -1 then -2 else m) (B := fun r => ∃ m, LWQ P g se h kn x0 m ∧ r = if m = -1 then -2 else m) hp hG hs hn hk (fun u hu _ hc => ?_) (fun y u ey hf hg' hr => ?_) (fun r r' hA hB => ?_)) (fun r _ q => pc_lw (fun y ey => q y ey))
  · refine pc_call (clw_pc hc hP h0 b10_0 b10_0) (fun r3 u4 z => ?_)
    rw [z.1]
    have hl := lst_lwq hP hg h0 wkt_all z.2
    refine pc_ite (fun e => pc_some ⟨r3, hl, by rw [if_pos e]⟩) (fun e => ?_)
    have e60 : 0 ≤ r3 ∧ r3 ≤ 60 := by
      rcases z.2 with ⟨e', _⟩ | ⟨e', _⟩
      · exact absurd e' e
      · exact e'
    refine pc_call (cfg_pc hc e60) (fun r5 u6 _ => ?_)
    have nt1 : ∀ (x : Int) (z : Wd), PC (f_N_tell1 x z) (fun _ _ => True) := fun _ _ _ _ _ => trivial
    exact pc_call (nt1 r5 u6) (fun _ _ _ => pc_some ⟨r3, hl, by rw [if_neg e]⟩)
  · have u0 : u 43 0 = P := by rw [hf.2 0 (by decide) (by decide) (by decide), ey, st_k (by decide)]; exact c0
    have fl := flall_pc hP hg h0 u0 hr
    unfold f_R_all at fl ⊢
    rw [jc_s] at fl ⊢
    refine pc_call fl (fun r6 u7 q => pc_gd (fun _ => pc_let (fun x8 e8 => ?_)))
    have e8' : x8 = u7 71 0 := e8
    have hq := q.2
    rw [← e8'] at hq
    have pc1T : ∀ o : Option (Int × Wd), PC o (fun _ _ => True) := fun _ _ _ _ => trivial
    refine pc_ite (fun c => ?_) (fun c => pc_some ⟨x8, hq, ?_⟩)
    · have l65 : ∀ (m : Nat) {v2 v3 : Int} {v : Wd}, PC (f_R_last_65 m x8 v2 v3 v) (fun r _ => r = x8) := by
        intro m
        induction m with
        | zero => intros; exact pc_none
        | succ m ih =>
          intro v2 v3 v
          rw [f_R_last_65]
          unfold f_R_last_106
          refine pc_ite (fun _ => pc_lw (fun u11 _ => pc_call (pc1T _) (fun _ _ _ => pc_some rfl))) (fun _ => pc_gd (fun _ => pc_ite (fun _ => pc_let (fun _ _ => ih)) (fun _ => pc_call (pc1T _) (fun _ _ _ => ?_))))
          exact pc_ite (fun _ => pc_let (fun _ _ => ih)) (fun _ => pc_call (pc1T _) (fun _ _ _ => pc_call (pc1T _) (fun _ _ _ => pc_let (fun _ _ => pc_let (fun _ _ => ih)))))
      have l44 : ∀ (m : Nat) {v2 : Int} {v : Wd}, PC (f_R_last_44 m x8 v2 v) (fun r _ => r = x8) := by
        intro m
        induction m with
        | zero => intros; exact pc_none
        | succ m ih =>
          intro v2 v
          rw [f_R_last_44]
          exact pc_ite (fun _ => l65 FU) (fun _ => pc_call (pc1T _) (fun _ _ _ => pc_let (fun _ _ => ih)))
      refine pc_call (pc1T _) (fun _ u10 _ => pc_w (l44 FU) (fun r _ e => ⟨x8, hq, ?_⟩))
      rw [e, if_neg (by omega)]
    · have : x8 = -1 := by
        rcases hq with ⟨e, _⟩ | ⟨e, _⟩
        · exact e
        · exact absurd e c
      rw [if_pos this]
  · obtain ⟨m, m1, m2⟩ := hA
    obtain ⟨m', m1', m2'⟩ := hB
    have e := lwq_one hP h0 m1 m1'
    rw [m2, m2', e]
theorem er_stays {a w : Wd} {P g se : Int} {h kn : Nat → Int} {x0 n v1 : Int} (hp : PRM a w P g se h kn x0) (hG : G [] a a) (hs : SCR n w) (hn : n ≤ 2600) (hk : w 28 9 ≠ 0 → KPT P g se h kn x0 w) : PC (f_E_stays v1 w) (fun r _ => PC (f_R_stays v1 a) (fun r' _ => r = r')) := by
  obtain ⟨hP, hg, h0, hw, ⟨c0, _⟩, c47, _, _, c44, c6⟩ := id hp
  unfold f_E_stays f_R_stays
  have pc1T : ∀ o : Option (Int × Wd), PC o (fun _ _ => True) := fun _ _ _ _ => trivial
  refine pc_call (it_pc v1 w) (fun r1 u2 q => ?_)
  rw [q.1, q.2, hw.1]
  have yy : ∀ y : Wd, y = st a 43 16 0 → y 43 0 = P := fun y ey => by rw [ey, st_k (by decide)]; exact c0
  unfold hd
  by_cases ct : 0 ≤ v1 ∧ v1 < P
  · rw [if_pos ct]
    refine pc_ite (fun e => absurd e (by decide)) (fun _ => ?_)
    refine pc_w (two_run (KR := fun u5 => jgd ((0 : Int) ≤ v1 ∧ v1 < 10) <| jcall (f_R_isGuest (u5 47 v1.toNat) u5) fun r6 u7 => if r6 = 0 then some ((-2), u7) else jcall (f_R_findLife (ishl 1 v1) u7) fun r8 u9 => jgd ((0 : Int) ≤ (0 : Int) ∧ (0 : Int) < 3000) <| jlet (u9 71 (0 : Int).toNat) fun x10 => jcall (f_R_findNext u9) fun r11 u12 => f_R_stays_61 FU v1 x10 0 u12) (A := fun r => (gs P (sof x0) v1.toNat = false ∧ r = -2) ∨ (gs P (sof x0) v1.toNat = true ∧ 0 ≤ r ∧ ISG P g se h kn x0 v1.toNat r.toNat ∧ ∀ t, ISG P g se h kn x0 v1.toNat t → (t : Int) ≤ r)) (B := fun r => (gs P (sof x0) v1.toNat = false ∧ r = -2) ∨ (gs P (sof x0) v1.toNat = true ∧ 0 ≤ r ∧ ISG P g se h kn x0 v1.toNat r.toNat ∧ ∀ t, ISG P g se h kn x0 v1.toNat t → (t : Int) ≤ r)) hp hG hs hn hk (fun u hu _ hc => ?_) (fun y u ey hf hg' hr => ?_) (fun r r' hA hB => ?_)) (fun r _ q => pc_lw (fun y ey => ?_))
    · obtain ⟨u5, u6, u7⟩ := run_5 hu
      refine pc_call (eg_e (P := P) (s := sof x0) (by rw [u5, hw.2.2.2.2.1]; exact h0)) (fun r5 u6' z => ?_)
      rw [z.1, has_10 u z.2 (by omega), jc_s]
      cases hgx : gs P (sof x0) v1.toNat with
      | false => exact pc_ite (fun _ => pc_some (Or.inl ⟨rfl, rfl⟩)) (fun e => absurd rfl e)
      | true =>
        refine pc_ite (fun e => absurd e (by decide)) (fun _ => ?_)
        refine pc_call (clw_pc hc hP h0 (b10_1 (i := v1) (by omega)) b10_0) (fun r9 u10 z2 => ?_)
        have iff : ∀ t, WKT P g se h kn x0 (fun k => decide (k = v1.toNat)) (fun _ => false) t ↔ ISG P g se h kn x0 v1.toNat t := fun t => by
          constructor
          · rintro ⟨x, a1, ⟨_, a2⟩, _⟩
            exact ⟨x, a1, a2 v1.toNat (by omega) (decide_eq_true rfl)⟩
          · rintro ⟨x, a1, a2⟩
            refine ⟨x, a1, ⟨⟨v1.toNat, by omega, a2⟩, fun q hq hF => ?_⟩, fun q _ hF => by cases hF⟩
            rw [of_decide_eq_true hF]; exact a2
        have fin : ∀ r : Int, r = r9 → (true = false ∧ r = -2) ∨ (true = true ∧ 0 ≤ r ∧ ISG P g se h kn x0 v1.toNat r.toNat ∧ ∀ t, ISG P g se h kn x0 v1.toNat t → (t : Int) ≤ r) := fun r e => by
          rw [e]
          rcases z2.2 with ⟨_, e2⟩ | ⟨e1, e2, e3⟩
          · exact absurd ((iff 0).mpr ⟨x0, rfl, hgx⟩) (e2 0 (by decide))
          · refine Or.inr ⟨rfl, e1.1, (iff _).mp e2, fun t ht => e3 t ?_ ((iff t).mpr ht)⟩
            obtain ⟨x, b1, b2⟩ := ht
            have := wk_29 hP hg h0 b1 ⟨v1.toNat, by omega, b2⟩
            omega
        unfold f_E_stays_95
        refine pc_ite (fun _ => pc_call (pc1T _) (fun _ _ _ => pc_some (fin _ rfl))) (fun _ => pc_call (pc1T _) (fun _ _ _ => pc_call (pc1T _) (fun _ _ _ => pc_call (pc1T _) (fun _ _ _ => pc_some (fin _ rfl)))))
    · have u0 : u 43 0 = P := by rw [hf.2 0 (by decide) (by decide) (by decide)]; exact yy y ey
      have u47 : u 47 = a 47 := by rw [hf.1 47 (by decide) (by decide) (by decide) (by decide) (by decide) (by decide) (by decide), ey, st_row (by decide)]
      obtain ⟨X, hx⟩ := rli_x hP hr
      refine pc_gd (fun _ => ?_)
      rw [isG_e, jc_s, u47, c47 v1.toNat (by omega)]
      have egs : gs P (sof x0) v1.toNat = gst (sof x0 v1.toNat) := by
        unfold gs
        rw [show inP P v1.toNat = true from decide_eq_true (by omega)]; rfl
      rw [egs]
      cases hgx : gst (sof x0 v1.toNat) with
      | false => exact pc_ite (fun _ => pc_some (Or.inl ⟨rfl, rfl⟩)) (fun e => absurd rfl e)
      | true =>
        refine pc_ite (fun e => absurd e (by decide)) (fun _ => ?_)
        have b1 := b10_1 (i := v1) (by omega)
        have h1 := hr.1
        refine pc_call (flf_pc (ok := fun x => gs P (sof x) v1.toNat = true) hP u0 hr hx b1 (fun x => ?_) (fun x z n y hv hs' hox hn' hy => gsi_back hP hs' hox hn' hy) (fun x z hv hgu hs' => ls_gs hP hg hv hs' ⟨v1.toNat, by omega, hgu⟩)) (fun r8 u9 z => ?_)
        · constructor
          · intro e; exact ⟨v1.toNat, by omega, e, decide_eq_true rfl⟩
          · rintro ⟨q, _, a1, a2⟩
            rw [of_decide_eq_true a2] at a1; exact a1
        refine pc_gd (fun _ => pc_let (fun x10 e10 => pc_call (pc1T _) (fun _ u12 _ => ?_)))
        have lz := z.2 0 (by omega)
        rw [(xok_0 hP h0 hr hx (by omega)).mpr rfl] at lz
        have e10' : x10 = u9 71 0 := e10
        rw [← e10'] at lz
        have res : ∀ r : Int, r = x10 → (true = false ∧ r = -2) ∨ (true = true ∧ 0 ≤ r ∧ ISG P g se h kn x0 v1.toNat r.toNat ∧ ∀ t, ISG P g se h kn x0 v1.toNat t → (t : Int) ≤ r) := fun r e => by
          rw [e]
          rcases lz with ⟨a1, _⟩ | ⟨_, a2, a3, a4⟩
          · exact absurd (show gs P (sof x0) v1.toNat = true by rw [egs]; exact hgx) a1
          · exact Or.inr ⟨rfl, a2, a3, fun t ⟨x, b1, b2⟩ => a4 t x b1 b2⟩
        -- all that follows answers this
        have l236 : ∀ {v3 : Int} {v : Wd}, PC (f_R_stays_236 x10 v3 v) (fun r _ => r = x10) := fun {v3 v} => by
          unfold f_R_stays_236
          exact pc_lw (fun u15 _ => pc_call (pc1T _) (fun _ _ _ => pc_some rfl))
        have l127 : ∀ (m : Nat) {v3 v4 v5 : Int} {v : Wd}, PC (f_R_stays_127 m v1 x10 v3 v4 v5 v) (fun r _ => r = x10) := by
          intro m
          induction m with
          | zero => intros; exact pc_none
          | succ m ih =>
            intro v3 v4 v5 v
            rw [f_R_stays_127]
            have l181 : ∀ {v5 : Int} {v : Wd}, PC (f_R_stays_181 (f_R_stays_127 m) v1 x10 v5 v) (fun r _ => r = x10) := fun {v5 v} => by
              unfold f_R_stays_181 f_R_stays_199 f_R_stays_213 f_R_stays_229 f_R_stays_230
              refine pc_ite (fun _ => pc_ite (fun _ => ?_) (fun _ => ?_)) (fun _ => pc_ite (fun _ => ?_) (fun _ => ?_)) <;> exact pc_call (pc1T _) (fun _ _ _ => pc_ite (fun _ => pc_let (fun _ _ => ih)) (fun _ => pc_let (fun _ _ => ih)))
            unfold f_R_stays_230
            refine pc_ite (fun _ => l236) (fun _ => pc_ite (fun _ => pc_ite (fun _ => l181) (fun _ => pc_gd (fun _ => pc_call (pc1T _) (fun _ _ _ => pc_ite (fun _ => pc_let (fun _ _ => ih)) (fun _ => pc_gd (fun _ => pc_ite (fun _ => l181) (fun _ => pc_let (fun _ _ => ih)))))))) (fun _ => l236))
        have l61 : ∀ (m : Nat) {v3 : Int} {v : Wd}, PC (f_R_stays_61 m v1 x10 v3 v) (fun r _ => r = x10) := by
          intro m
          induction m with
          | zero => intros; exact pc_none
          | succ m ih =>
            intro v3 v
            rw [f_R_stays_61]
            unfold f_R_stays_117 f_R_stays_98 f_R_stays_99
            refine pc_ite (fun _ => pc_ite (fun _ => pc_call (pc1T _) (fun _ _ _ => l127 FU)) (fun _ => pc_call (pc1T _) (fun _ _ _ => l127 FU))) (fun _ => pc_call (pc1T _) (fun _ _ _ => ?_))
            refine pc_ite (fun _ => pc_gd (fun _ => pc_lw (fun _ _ => pc_let (fun _ _ => ih)))) (fun _ => pc_gd (fun _ => pc_ite (fun _ => pc_gd (fun _ => pc_lw (fun _ _ => pc_let (fun _ _ => ih)))) (fun _ => pc_gd (fun _ => pc_lw (fun _ _ => pc_let (fun _ _ => ih))))))
        exact pc_w (l61 FU) (fun r _ e => res r e)
    · rcases hA with ⟨a1, a2⟩ | ⟨a1, a2, a3, a4⟩
      · rcases hB with ⟨_, b2⟩ | ⟨b1, _⟩
        · omega
        · rw [a1] at b1; cases b1
      · rcases hB with ⟨b1, _⟩ | ⟨_, b2, b3, b4⟩
        · rw [a1] at b1; cases b1
        · have := b4 _ a3
          have := a4 _ b3
          omega
    · refine pc_call (io_pc v1 y (by rw [yy y ey]; exact hP)) (fun r2 u3 z => ?_)
      rw [z.1, z.2, yy y ey, show hd P v1 = 1 from if_pos ct]
      exact pc_ite (fun e => absurd e (by decide)) (fun _ => q y ey)
  · rw [if_neg ct]
    refine pc_ite (fun _ => pc_some (pc_lw (fun y ey => ?_))) (fun e => absurd rfl e)
    refine pc_call (io_pc v1 y (by rw [yy y ey]; exact hP)) (fun r2 u3 z => ?_)
    rw [z.2, yy y ey, show hd P v1 = 0 from if_neg ct]
    exact pc_ite (fun _ => pc_some rfl) (fun e => absurd rfl e)
/-! ONE HIDDEN: what each is worth, and who is needed -/
def hidn (h : Nat → Int) (i k : Nat) : Int := if k = i then 1 else h k
theorem hB_hid {P : Int} {h : Nat → Int} {i : Nat} (hi : (i : Int) < P) (k : Nat) : hB P (hidn h i) k = (hB P h k || decide (k = i)) := by
  unfold hB hidn
  by_cases c : k = i
  · subst c; rw [show inP P k = true from decide_eq_true hi]; simp
  · rw [if_neg c]; simp [c]
theorem fre_hid {P : Int} {s h : Nat → Int} {i : Nat} (hi : (i : Int) < P) (k : Nat) : fre P s (hidn h i) k = (fre P s h k && !decide (k = i)) := by
  unfold fre
  rw [hB_hid hi]
  by_cases c : k = i <;> simp [c]
theorem drc_w {P se : Int} {kn : Nat → Int} {br fr fr' sy : Nat → Bool} (hP : 0 ≤ P ∧ P ≤ 10) : ∀ {d : Nat} {f m : Int}, (∀ k, k < 10 → bt m k = true → fr k = true → fr' k = true) → DRC P se kn br fr sy d f m → DRC P se kn br fr' sy d f m := by
  intro d
  induction d with
  | zero => intro f m _ h; exact h
  | succ d ih =>
    intro f m hf h
    obtain ⟨f0, m0, h0, i, o, h1, h2, h3, h4, h5, h6, h7, h8, h9, h10⟩ := h
    have r := drc_rg hP h0
    have bm : ∀ k, k < 10 → bt m k = (bt m0 k || decide (k = i) || decide (k = o)) := fun k hk => by rw [h8, sq_t r.1 (by omega) h3 hk]
    exact ⟨f0, m0, ih (fun k hk hb => hf k hk (by rw [bm k hk, hb]; simp)) h0, i, o, h1, h2, h3, h4, hf o h3 (by rw [bm o h3]; simp) h5, h6, h7, h8, h9, h10⟩
theorem mvs_dn {P g se : Int} {h kn s : Nat → Int} {i : Nat} {m : Int} (hP : 0 ≤ P ∧ P ≤ 10) (hi : (i : Int) < P) (hs : s i = 0) (hm : MVS P g se (hidn h i) kn s m) : MVS P g se h kn s m ∧ bt m i = false := by
  have hw := mvs_who hP hm
  obtain ⟨d, f, h1⟩ := hm
  refine ⟨⟨d, f, drc_w hP (fun k _ _ hf => ?_) h1⟩, ?_⟩
  · rw [fre_hid hi, Bool.and_eq_true] at hf; exact hf.1
  · cases hb : bt m i with
    | false => rfl
    | true =>
      rcases hw.2 i (by omega) hb with e | e
      · unfold gs at e; rw [hs] at e; simp [gst] at e
      · rw [fre_hid hi] at e; simp at e
theorem mvs_up {P g se : Int} {h kn s : Nat → Int} {i : Nat} {m : Int} (hP : 0 ≤ P ∧ P ≤ 10) (hi : (i : Int) < P) (hb : bt m i = false) (hm : MVS P g se h kn s m) : MVS P g se (hidn h i) kn s m := by
  obtain ⟨d, f, h1⟩ := hm
  refine ⟨d, f, drc_w hP (fun k _ hk hf => ?_) h1⟩
  rw [fre_hid hi, hf]
  have c : k ≠ i := fun e => by rw [e, hb] at hk; cases hk
  simp [c]
theorem rcx_hid {P g se : Int} {h kn : Nat → Int} {x0 : Int} {i : Nat} (hP : 0 ≤ P ∧ P ≤ 10) (hi : (i : Int) < P) (h0 : sof x0 i = 0) : ∀ {t : Nat} {x : Int}, RCX P g se (hidn h i) kn x0 t x ↔ RCX P g se h kn x0 t x ∧ sof x i = 0 := by
  intro t
  induction t with
  | zero =>
    intro x
    constructor
    · intro e; exact ⟨e, by rw [show x = x0 from e]; exact h0⟩
    · intro e; exact e.1
  | succ t ih =>
    intro x
    constructor
    · rintro ⟨y, hy, m, hm, hw⟩
      have q := ih.mp hy
      have d := mvs_dn hP hi q.2 hm
      refine ⟨⟨y, q.1, m, d.1, hw⟩, ?_⟩
      rw [sof_e hw hP.2 hi]
      unfold nis
      rw [if_neg (by rw [d.2]; decide), q.2, if_neg (by decide)]
    · rintro ⟨⟨y, hy, m, hm, hw⟩, ex⟩
      have hsr : sr P (sof x) i = true := by
        unfold sr; rw [ex, show inP P i = true from decide_eq_true hi]; rfl
      have sy := sr_step (h := h) (kn := kn) (se := se) hP ⟨m, hm, hw⟩ hsr
      have ey : sof y i = 0 := by
        unfold sr at sy; rw [Bool.and_eq_true, beq_iff_eq] at sy; exact sy.2
      have hb : bt m i = false := by
        cases hb : bt m i with
        | false => rfl
        | true =>
          rw [sof_e hw hP.2 hi] at ex
          unfold nis at ex
          rw [if_pos hb] at ex
          cases ex
      exact ⟨y, ih.mpr ⟨hy, ey⟩, m, mvs_up hP hi hb hm, hw⟩
theorem wkt_hid {P g se : Int} {h kn : Nat → Int} {x0 : Int} {i : Nat} (hP : 0 ≤ P ∧ P ≤ 10) (hi : (i : Int) < P) (h0 : sof x0 i = 0) (t : Nat) : WKT P g se h kn x0 (fun _ => false) (fun k => decide (k = i)) t ↔ ∃ y, RCX P g se (hidn h i) kn x0 t y ∧ sbg P y := by
  have hk : ∀ x, kno P (sof x) i = false ↔ sof x i = 0 := fun x => by
    unfold kno
    rw [show inP P i = true from decide_eq_true hi]
    simp
  constructor
  · rintro ⟨x, a, ⟨b, _⟩, c⟩
    exact ⟨x, (rcx_hid hP hi h0).mpr ⟨a, (hk x).mp (c i (by omega) (decide_eq_true rfl))⟩, b⟩
  · rintro ⟨x, a, b⟩
    have q := (rcx_hid hP hi h0).mp a
    refine ⟨x, q.1, ⟨b, fun q _ hF => by cases hF⟩, fun j _ hF => ?_⟩
    rw [of_decide_eq_true hF]
    exact (hk x).mpr q.2
theorem mny_hid {P g se : Int} {h kn : Nat → Int} {x0 : Int} {i : Nat} (hP : 0 ≤ P ∧ P ≤ 10) (hi : (i : Int) < P) (h0 : sof x0 i = 0) (hm : MNY P g se (hidn h i) kn x0) : MNY P g se h kn x0 := by
  obtain ⟨F, h1, h2⟩ := hm
  refine ⟨F, fun j hj => ?_, h2⟩
  obtain ⟨t, ht⟩ := h1 j hj
  exact ⟨t, ((rcx_hid hP hi h0).mp ht).1⟩
theorem fre_0 {P : Int} {s h : Nat → Int} {k : Nat} (hf : fre P s h k = true) : (k : Int) < P ∧ s k = 0 ∧ hB P h k = false := by
  unfold fre sr at hf
  rw [Bool.and_eq_true, Bool.and_eq_true, beq_iff_eq] at hf
  refine ⟨inP_t hf.1.1, hf.1.2, ?_⟩
  have := hf.2
  cases e : hB P h k with
  | false => rfl
  | true => rw [e] at this; cases this
/-- the reference, before and behind each search -/
def RFI (P g se : Int) (h kn : Nat → Int) (x0 : Int) (u : Wd) : Prop := G [] u u ∧ (u 43 0 = P ∧ u 43 10 = g ∧ u 43 11 = se) ∧ (∀ k : Nat, (k : Int) < P → u 47 k = sof x0 k) ∧ (∀ j : Nat, (j : Int) < P → u 45 j = kn j ∧ 0 ≤ kn j ∧ kn j ≤ 1023) ∧ ∀ k : Nat, (k : Int) < P → hB P (u 46) k = hB P h k
theorem lw_pc {P g se : Int} {h h' kn : Nat → Int} {x0 v1 : Int} {w : Wd} (hP : 0 ≤ P ∧ P ≤ 10) (hg : 1 ≤ g ∧ g ≤ 3) (h0 : WH x0 (sof x0) P) (hr : RFI P g se h kn x0 w) (hv : 0 ≤ v1 ∧ v1 ≤ 512) (hh : ∀ k : Nat, (k : Int) < P → (hB P h k || bt v1 k) = hB P h' k) : PC (f_R_lastWith v1 w) (fun r u => RFI P g se h kn x0 u ∧ ((MNY P g se h' kn x0 ∧ r = -3) ∨ (¬ MNY P g se h' kn x0 ∧ ∃ m, LWQ P g se h' kn x0 m ∧ r = if m = -1 then -2 else m))) := by
  obtain ⟨gw, ⟨c0, c10, c11⟩, c47, c45, c46⟩ := hr
  refine pc_w (pc_and (pc_ok (s_R_lastWith (g_self gw) hv)) (Q := fun r _ => (MNY P g se h' kn x0 ∧ r = -3) ∨ (¬ MNY P g se h' kn x0 ∧ ∃ m, LWQ P g se h' kn x0 m ∧ r = if m = -1 then -2 else m)) ?_) (fun r u q => ⟨?_, q.2⟩)
  · unfold f_R_lastWith
    refine pc_call (fst_pc (h := h') hP hg h0 gw c0 c10 c11 c47 c45 (by omega) (fun k hk => by rw [c46 k hk]; exact hh k hk)) (fun r1 u2 z => ?_)
    obtain ⟨z1, z2, z3⟩ := z
    rcases z3 with ⟨e, m⟩ | ⟨e, l⟩
    · exact pc_ite (fun _ => pc_some (Or.inl ⟨m, rfl⟩)) (fun c => absurd e c)
    · refine pc_ite (fun c => by omega) (fun _ => ?_)
      have u0 : u2 43 0 = P := by rw [z1.2 0 (by decide) (by decide) (by decide)]; exact c0
      have nm := rli_mny hP h0 l
      have fl := flall_pc hP hg h0 u0 l
      unfold f_R_all at fl ⊢
      rw [jc_s] at fl ⊢
      refine pc_call fl (fun r6 u7 q => pc_gd (fun _ => ?_))
      have hq : LWQ P g se h' kn x0 (u7 71 (0 : Int).toNat) := q.2
      refine pc_ite (fun c => pc_gd (fun _ => pc_some (Or.inr ⟨nm, _, hq, ?_⟩))) (fun c => pc_some (Or.inr ⟨nm, -1, ?_, rfl⟩))
      · rw [if_neg (by omega)]
      · have : u7 71 (0 : Int).toNat = -1 := by
          rcases hq with ⟨e, _⟩ | ⟨e, _⟩
          · exact e
          · exact absurd e c
        rw [this] at hq
        exact hq
  · have G1 := q.1.2
    have f := g_fr G1 [43, 63, 64, 65, 66, 67, 68, 71, 72, 73] rfl
    have k := g_43 G1 [40, 41, 44] rfl
    refine ⟨g_self G1, ⟨by rw [k 0 rfl]; exact c0, by rw [k 10 rfl]; exact c10, by rw [k 11 rfl]; exact c11⟩, ?_, ?_, ?_⟩
    · rw [f 47 rfl]; exact c47
    · rw [f 45 rfl]; exact c45
    · rw [f 46 rfl]; exact c46
theorem shl_512 : ∀ i : Nat, i < 10 → 0 ≤ ishl 1 (i : Int) ∧ ishl 1 (i : Int) ≤ 512 := by decide +kernel
theorem hh_hid {P : Int} {h : Nat → Int} {i : Nat} (hP : 0 ≤ P ∧ P ≤ 10) (hi : (i : Int) < P) (k : Nat) (hk : (k : Int) < P) : (hB P h k || bt (ishl 1 (i : Int)) k) = hB P (hidn h i) k := by
  rw [hB_hid hi]
  have a := (b10_1 (i := (i : Int)) (by omega)).2 k (by omega)
  have ei : ((i : Nat) : Int).toNat = i := by omega
  rw [ei] at a
  have a2 : bt (ishl 1 (i : Int)) k = decide (k = i) := a
  rw [a2]
theorem b10_i {P : Int} {i : Nat} (hP : 0 ≤ P ∧ P ≤ 10) (hi : (i : Int) < P) : B10 (ishl 1 (i : Int)) (fun k => decide (k = i)) := by
  have a := b10_1 (i := (i : Int)) (by omega)
  have ei : ((i : Nat) : Int).toNat = i := by omega
  rw [ei] at a
  exact a
/-- the class's answer, one hidden -/
theorem clh_pc {P g se : Int} {h kn : Nat → Int} {x0 : Int} {u : Wd} {i : Nat} (hc : CLI P g se h kn x0 u) (hP : 0 ≤ P ∧ P ≤ 10) (hg : 1 ≤ g ∧ g ≤ 3) (h0 : WH x0 (sof x0) P) (hi : (i : Int) < P) (hz : sof x0 i = 0) : PC (f_S_lastWeek 0 (ishl 1 (i : Int)) u) (fun r v => v = u ∧ LWQ P g se (hidn h i) kn x0 r) :=
  pc_w (clw_pc hc hP h0 b10_0 (b10_i hP hi)) (fun _ _ q => ⟨q.1, lst_lwq hP hg h0 (wkt_hid hP hi hz) q.2⟩)
theorem prm_rfi {a w : Wd} {P g se : Int} {h kn : Nat → Int} {x0 : Int} (hp : PRM a w P g se h kn x0) (hG : G [] a a) {y : Wd} (ey : y = st a 43 16 0) : RFI P g se h kn x0 y := by
  obtain ⟨hP, hg, h0, hw, ⟨c0, c10, c11⟩, c47, c45, c46, _⟩ := hp
  have gy : G [4316] a y := g_st (g_self hG) ey rfl rfl (show (0 : Int) ≤ 0 ∧ (0 : Int) ≤ 1 by decide)
  have yr : ∀ c, c ≠ 43 → y c = a c := fun c hc => by rw [ey, st_row hc]
  have yk : ∀ k, k ≠ 16 → y 43 k = a 43 k := fun k hk => by rw [ey, st_k hk]
  exact ⟨g_self gy, ⟨by rw [yk 0 (by decide)]; exact c0, by rw [yk 10 (by decide)]; exact c10, by rw [yk 11 (by decide)]; exact c11⟩, by rw [yr 47 (by decide)]; exact c47, by rw [yr 45 (by decide)]; exact c45, by rw [yr 46 (by decide)]; exact c46⟩
def WOR (P g se : Int) (h kn : Nat → Int) (x0 : Int) (i : Nat) (r : Int) : Prop := (MNY P g se h kn x0 ∧ r = -3) ∨ (¬ MNY P g se h kn x0 ∧ ((LWQ P g se h kn x0 (-1) ∧ r = -2) ∨ ∃ m m', m ≠ -1 ∧ LWQ P g se h kn x0 m ∧ LWQ P g se (hidn h i) kn x0 m' ∧ r = w32 (m - m')))
theorem wor_one {P g se : Int} {h kn : Nat → Int} {x0 : Int} {i : Nat} {r r' : Int} (hP : 0 ≤ P ∧ P ≤ 10) (h0 : WH x0 (sof x0) P) (a : WOR P g se h kn x0 i r) (b : WOR P g se h kn x0 i r') : r = r' := by
  rcases a with ⟨a1, a2⟩ | ⟨a1, a2⟩
  · rcases b with ⟨_, b2⟩ | ⟨b1, _⟩
    · rw [a2, b2]
    · exact absurd a1 b1
  · rcases b with ⟨b1, _⟩ | ⟨_, b2⟩
    · exact absurd b1 a1
    · rcases a2 with ⟨a3, a4⟩ | ⟨m, m', a3, a4, a5, a6⟩
      · rcases b2 with ⟨_, b4⟩ | ⟨n, n', b3, b4, _, _⟩
        · rw [a4, b4]
        · exact absurd (lwq_one hP h0 b4 a3) b3
      · rcases b2 with ⟨b3, _⟩ | ⟨n, n', _, b4, b5, b6⟩
        · exact absurd (lwq_one hP h0 a4 b3) a3
        · rw [a6, b6, lwq_one hP h0 a4 b4, lwq_one hP h0 a5 b5]
theorem lwq_ne {P g se : Int} {h h' kn : Nat → Int} {x0 m m' : Int} (hP : 0 ≤ P ∧ P ≤ 10) (h0 : WH x0 (sof x0) P) (hm : m ≠ -1) (a : LWQ P g se h kn x0 m) (b : LWQ P g se h' kn x0 m') : m' ≠ -1 := by
  intro e
  rcases a with ⟨a1, _⟩ | ⟨_, ⟨y, a2, a3⟩, _⟩
  · exact hm a1
  · rcases b with ⟨_, b2⟩ | ⟨b1, _⟩
    · exact b2 (sbg_back hP h0 a2 a3)
    · omega
theorem lwq_0 {P g se : Int} {h kn : Nat → Int} {x0 m : Int} (hm : m ≠ -1) (a : LWQ P g se h kn x0 m) : 0 ≤ m := by
  rcases a with ⟨a1, _⟩ | ⟨a1, _⟩
  · exact absurd a1 hm
  · exact a1
theorem er_worth {a w : Wd} {P g se : Int} {h kn : Nat → Int} {x0 n v1 : Int} (hp : PRM a w P g se h kn x0) (hG : G [] a a) (hs : SCR n w) (hn : n ≤ 2600) (hk : w 28 9 ≠ 0 → KPT P g se h kn x0 w) : PC (f_E_worth v1 w) (fun r _ => PC (f_R_worth v1 a) (fun r' _ => r = r')) := by
  obtain ⟨hP, hg, h0, hw, ⟨c0, _⟩, c47, _, c46, _⟩ := id hp
  unfold f_E_worth f_R_worth
  refine pc_call (ef_e (by rw [hw.2.2.2.2.1]; exact h0) hP hw.1 hw.2.1) (fun r1 u2 q => ?_)
  rw [q.1]
  have yy : ∀ y, y = st a 43 16 0 → y 43 0 = P := fun y ey => by rw [ey, st_k (by decide)]; exact c0
  -- the reference's own test
  have href : ∀ y, y = st a 43 16 0 → ∀ {K : Wd → Option (Int × Wd)} {B : Int → Prop}, (¬ (0 ≤ v1 ∧ v1 < P ∧ fre P (sof x0) h v1.toNat = true) → B (-1)) → ((0 ≤ v1 ∧ v1 < P ∧ fre P (sof x0) h v1.toNat = true) → PC (K y) (fun r _ => B r)) → PC (jcall (f_R_isOne v1 y) fun r2 u3 => if r2 = 0 then some ((-1), u3) else jgd ((0 : Int) ≤ v1 ∧ v1 < 10) <| if (u3 47 v1.toNat) = 0 then jgd ((0 : Int) ≤ v1 ∧ v1 < 10) <| if (u3 46 v1.toNat) = 0 then K u3 else some ((-1), u3) else some ((-1), u3)) (fun r _ => B r) := fun y ey K B hno hyes => by
    refine pc_call (io_pc v1 y (by rw [yy y ey]; exact hP)) (fun r2 u3 z => ?_)
    rw [z.1, z.2, yy y ey]
    have e47 : y 47 = a 47 := by rw [ey, st_row (by decide)]
    have e46 : y 46 = a 46 := by rw [ey, st_row (by decide)]
    refine pc_ite (fun e => pc_some (hno (fun hh => hd_0 e ⟨hh.1, hh.2.1⟩))) (fun e => pc_gd (fun _ => ?_))
    have hv := hd_1 e
    have ev : ((v1.toNat : Nat) : Int) < P := by omega
    rw [e47, e46, c47 _ ev]
    refine pc_ite (fun e0 => pc_gd (fun _ => pc_ite (fun e1 => ?_) (fun e1 => ?_))) (fun e0 => pc_some (hno (fun hh => e0 (fre_0 hh.2.2).2.1)))
    · refine hyes ⟨hv.1, hv.2, ?_⟩
      unfold fre sr
      rw [← c46 _ ev, e0]
      unfold hB
      rw [show inP P v1.toNat = true from decide_eq_true ev, e1]
      rfl
    · refine pc_some (hno (fun hh => ?_))
      have := (fre_0 hh.2.2).2.2
      rw [← c46 _ ev] at this
      unfold hB at this
      rw [show inP P v1.toNat = true from decide_eq_true ev] at this
      have t2 : (a 46 v1.toNat == 0) = true := by
        cases e : (a 46 v1.toNat == 0) with
        | true => rfl
        | false => rw [e] at this; cases this
      exact e1 (beq_iff_eq.mp t2)
  by_cases ct : 0 ≤ v1 ∧ v1 < P ∧ fre P (sof x0) h v1.toNat = true
  · have hv10 : 0 ≤ v1 ∧ v1 < 10 := by omega
    rw [has_10 w q.2 hv10, if_pos ct.2.2, jc_s, if_neg (by decide)]
    have fz := fre_0 ct.2.2
    have evv : ((v1.toNat : Nat) : Int) = v1 := by omega
    -- the reference
    have hR : ∀ y, y = st a 43 16 0 → PC (jcall (f_R_lastWith 0 y) fun r4 u5 => if (0 : Int) ≤ r4 then jcall (f_R_lastWith (ishl 1 v1) u5) fun r6 u7 => some (w32 (r4 - r6), u7) else some (r4, u5)) (fun r _ => WOR P g se h kn x0 v1.toNat r) := fun y ey => by
      refine pc_call (lw_pc (h' := h) hP hg h0 (prm_rfi hp hG ey) (by decide) (fun k _ => by rw [bt_0, Bool.or_false])) (fun r4 u5 z => ?_)
      obtain ⟨z1, z2⟩ := z
      rcases z2 with ⟨m1, m2⟩ | ⟨m1, m, m2, m3⟩
      · exact pc_ite (fun c => by omega) (fun _ => pc_some (Or.inl ⟨m1, m2⟩))
      · refine pc_ite (fun c => ?_) (fun c => ?_)
        · have mn : m ≠ -1 := fun e => by rw [if_pos e] at m3; omega
          rw [if_neg mn] at m3
          have hh := fun (k : Nat) (hk : (k : Int) < P) => hh_hid (h := h) hP fz.1 k hk
          rw [evv] at hh
          have s5 := shl_512 v1.toNat (by omega)
          rw [evv] at s5
          refine pc_call (lw_pc (h' := hidn h v1.toNat) hP hg h0 z1 s5 hh) (fun r6 u7 zz => pc_some ?_)
          rcases zz.2 with ⟨k1, _⟩ | ⟨_, m', k2, k3⟩
          · exact absurd (mny_hid hP fz.1 fz.2.1 k1) m1
          · rw [if_neg (lwq_ne hP h0 mn m2 k2)] at k3
            exact Or.inr ⟨m1, Or.inr ⟨m, m', mn, m2, k2, by rw [m3, k3]⟩⟩
        · by_cases e : m = -1
          · rw [if_pos e] at m3
            rw [e] at m2
            exact pc_some (Or.inr ⟨m1, Or.inl ⟨m2, m3⟩⟩)
          · rw [if_neg e] at m3
            have := lwq_0 e m2
            omega
    have hRR : ∀ {r : Int}, WOR P g se h kn x0 v1.toNat r → ∀ {K : Option (Int × Wd)}, True → PC (jlw (st a 43 16 0) fun u1 => jcall (f_R_isOne v1 u1) fun r2 u3 => if r2 = 0 then some ((-1), u3) else jgd ((0 : Int) ≤ v1 ∧ v1 < 10) <| if (u3 47 v1.toNat) = 0 then jgd ((0 : Int) ≤ v1 ∧ v1 < 10) <| if (u3 46 v1.toNat) = 0 then jcall (f_R_lastWith 0 u3) fun r4 u5 => if (0 : Int) ≤ r4 then jcall (f_R_lastWith (ishl 1 v1) u5) fun r6 u7 => some (w32 (r4 - r6), u7) else some (r4, u5) else some ((-1), u3) else some ((-1), u3)) (fun r' _ => r = r') := fun {r} hA _ _ => by
      refine pc_lw (fun y ey => ?_)
      exact pc_w (href y ey (K := fun u3 => jcall (f_R_lastWith 0 u3) fun r4 u5 => if (0 : Int) ≤ r4 then jcall (f_R_lastWith (ishl 1 v1) u5) fun r6 u7 => some (w32 (r4 - r6), u7) else some (r4, u5)) (B := fun r => WOR P g se h kn x0 v1.toNat r) (fun hh => absurd ct hh) (fun _ => hR y ey)) (fun r' _ hB => wor_one hP h0 hA hB)
    refine pc_call (crun hp hs hn hk) (fun r5 u6 z => ?_)
    rcases z.2 with ⟨e, s⟩ | ⟨e, m⟩
    · refine pc_ite (fun c => by omega) (fun _ => ?_)
      have cl := src_cli hP h0 s
      have nm := cli_mny hP h0 cl
      refine pc_call (clw_pc cl hP h0 b10_0 b10_0) (fun r7 u8 z7 => ?_)
      rw [z7.1]
      have hl := lst_lwq hP hg h0 wkt_all z7.2
      refine pc_ite (fun e => ?_) (fun e => ?_)
      · rw [e] at hl
        exact pc_some (hRR (Or.inr ⟨nm, Or.inl ⟨hl, rfl⟩⟩) (K := none) trivial)
      · have cp := clh_pc cl hP hg h0 fz.1 fz.2.1
        rw [evv] at cp
        exact pc_call cp (fun r9 u10 z9 => pc_some (hRR (Or.inr ⟨nm, Or.inr ⟨r7, r9, e, hl, z9.2, rfl⟩⟩) (K := none) trivial))
    · exact pc_ite (fun _ => pc_some (hRR (Or.inl ⟨m, rfl⟩) (K := none) trivial)) (fun c => absurd e c)
  · have hz : f_E_has r1 v1 w = some (0, w) := by
      by_cases c : 0 ≤ v1 ∧ v1 < 10
      · rw [has_10 w q.2 c]
        by_cases f : fre P (sof x0) h v1.toNat = true
        · exact absurd ⟨c.1, by have := (fre_0 f).1; omega, f⟩ ct
        · rw [if_neg f]
      · exact has_o w c
    rw [hz, jc_s, if_pos rfl]
    refine pc_some (pc_lw (fun y ey => ?_))
    exact pc_w (href y ey (K := fun u3 => jcall (f_R_lastWith 0 u3) fun r4 u5 => if (0 : Int) ≤ r4 then jcall (f_R_lastWith (ishl 1 v1) u5) fun r6 u7 => some (w32 (r4 - r6), u7) else some (r4, u5)) (B := fun r => r = -1) (fun _ => rfl) (fun hh => absurd hh ct)) (fun r' _ hB => hB.symm)
/-! WHO IS NEEDED -/
def NDR (D : Nat → Prop) : Nat → Int → Prop
  | 0, r => r = 0
  | n + 1, r => ∃ r0, NDR D n r0 ∧ ((D n ∧ r = ior r0 (ishl 1 (n : Int))) ∨ (¬ D n ∧ r = r0))
theorem ndr_one {D : Nat → Prop} : ∀ {n : Nat} {r r' : Int}, NDR D n r → NDR D n r' → r = r' := by
  intro n
  induction n with
  | zero => intro r r' a b; rw [show r = 0 from a, show r' = 0 from b]
  | succ n ih =>
    rintro r r' ⟨s, a1, a2⟩ ⟨s', b1, b2⟩
    have e := ih a1 b1
    rcases a2 with ⟨a3, a4⟩ | ⟨a3, a4⟩
    · rcases b2 with ⟨_, b4⟩ | ⟨b3, _⟩
      · rw [a4, b4, e]
      · exact absurd a3 b3
    · rcases b2 with ⟨b3, _⟩ | ⟨_, b4⟩
      · exact absurd b3 a3
      · rw [a4, b4, e]
def NED (P g se : Int) (h kn : Nat → Int) (x0 m : Int) (k : Nat) : Prop := fre P (sof x0) h k = true ∧ ∃ m', LWQ P g se (hidn h k) kn x0 m' ∧ m' < m
theorem ndr_y {D : Nat → Prop} {v3 v2 : Int} (h0 : 0 ≤ v3) (h : NDR D v3.toNat v2) (hd : D v3.toNat) : NDR D (v3 + 1).toNat (ior v2 (ishl 1 v3)) := by
  rw [show (v3 + 1).toNat = v3.toNat + 1 by omega]
  refine ⟨v2, h, Or.inl ⟨hd, ?_⟩⟩
  rw [show ((v3.toNat : Nat) : Int) = v3 by omega]
theorem ndr_n {D : Nat → Prop} {v3 v2 : Int} (h0 : 0 ≤ v3) (h : NDR D v3.toNat v2) (hd : ¬ D v3.toNat) : NDR D (v3 + 1).toNat v2 := by
  rw [show (v3 + 1).toNat = v3.toNat + 1 by omega]
  exact ⟨v2, h, Or.inr ⟨hd, rfl⟩⟩
theorem en43 {P g se : Int} {h kn : Nat → Int} {x0 m : Int} {u : Wd} (hc : CLI P g se h kn x0 u) (hP : 0 ≤ P ∧ P ≤ 10) (hg : 1 ≤ g ∧ g ≤ 3) (h0 : WH x0 (sof x0) P) (h3 : u 5 3 = P) (h4 : u 5 4 = x0) (h5 : B10 (u 5 5) (hB P h)) : ∀ (n : Nat) {v2 v3 : Int}, 0 ≤ v3 → v3 ≤ P → NDR (NED P g se h kn x0 m) v3.toNat v2 → PC (f_E_needed_43 n m v2 v3 u) (fun r _ => NDR (NED P g se h kn x0 m) P.toNat r) := by
  intro n
  induction n with
  | zero => intros; exact pc_none
  | succ n ih =>
    intro v2 v3 i1 i2 hN
    rw [f_E_needed_43, h3]
    have z := w32_sp (v3 + 1)
    unfold f_E_needed_89
    refine pc_ite (fun c => ?_) (fun c => ?_)
    · have e : v3 = P := by omega
      rw [e] at hN
      exact pc_some hN
    refine pc_call (ef_e (by rw [h4]; exact h0) hP h3 h5) (fun r5 u6 q => ?_)
    rw [q.1, has_10 u q.2 (by omega), jc_s]
    by_cases f : fre P (sof x0) h v3.toNat = true
    · rw [if_pos f, if_neg (by decide)]
      have fz := fre_0 f
      have cp := clh_pc hc hP hg h0 fz.1 fz.2.1
      rw [show ((v3.toNat : Nat) : Int) = v3 by omega] at cp
      refine pc_call cp (fun r10 u11 q2 => ?_)
      rw [q2.1]
      refine pc_ite (fun c2 => pc_let (fun x9 e9 => ?_)) (fun c2 => pc_let (fun x12 e12 => pc_let (fun x9 e9 => ?_)))
      · have e : x9 = v3 + 1 := by omega
        rw [e]
        refine ih (by omega) (by omega) (ndr_n i1 hN (fun hd => ?_))
        obtain ⟨_, m', a1, a2⟩ := hd
        have := lwq_one hP h0 a1 q2.2
        omega
      · have e : x9 = v3 + 1 := by omega
        rw [e, e12]
        exact ih (by omega) (by omega) (ndr_y i1 hN ⟨f, r10, q2.2, by omega⟩)
    · rw [if_neg f, if_pos rfl]
      refine pc_let (fun x9 e9 => ?_)
      have e : x9 = v3 + 1 := by omega
      rw [e]
      exact ih (by omega) (by omega) (ndr_n i1 hN (fun hd => f hd.1))
theorem rfi_free {P g se : Int} {h kn : Nat → Int} {x0 : Int} {u : Wd} (hP : 0 ≤ P ∧ P ≤ 10) (hr : RFI P g se h kn x0 u) : PC (f_R_free u) (fun r v => v = u ∧ B10 r (fre P (sof x0) h)) := by
  obtain ⟨gw, ⟨c0, _, _⟩, c47, _, c46⟩ := hr
  refine pc_w (rfree_e (w := u) (by rw [c0]; exact hP)) (fun r v q => ⟨q.1, ?_⟩)
  have q2 := q.2
  rw [c0] at q2
  refine b10_w q2 (fun k hk => ?_)
  unfold fre sr
  by_cases c : (k : Int) < P
  · rw [c46 k c, c47 k c]
  · rw [show inP P k = false from decide_eq_false c]; rfl
theorem en21 {P g se : Int} {h kn : Nat → Int} {x0 m : Int} (hP : 0 ≤ P ∧ P ≤ 10) (hg : 1 ≤ g ∧ g ≤ 3) (h0 : WH x0 (sof x0) P) (hm : ¬ MNY P g se h kn x0) (hm1 : m ≠ -1) (hl : LWQ P g se h kn x0 m) : ∀ (n : Nat) {v2 v3 : Int} {u : Wd}, RFI P g se h kn x0 u → 0 ≤ v3 → v3 ≤ P → NDR (NED P g se h kn x0 m) v3.toNat v2 → PC (f_R_needed_21 n m v2 v3 u) (fun r _ => NDR (NED P g se h kn x0 m) P.toNat r) := by
  intro n
  induction n with
  | zero => intros; exact pc_none
  | succ n ih =>
    intro v2 v3 u hr i1 i2 hN
    have c0 := hr.2.1.1
    rw [f_R_needed_21, c0]
    have z := w32_sp (v3 + 1)
    unfold f_R_needed_57
    refine pc_ite (fun c => ?_) (fun c => ?_)
    · have e : v3 = P := by omega
      rw [e] at hN
      exact pc_some hN
    refine pc_call (rfi_free hP hr) (fun r5 u6 q => ?_)
    rw [q.1, hasR_10 u q.2 (by omega), jc_s]
    by_cases f : fre P (sof x0) h v3.toNat = true
    · rw [if_pos f, if_neg (by decide)]
      have fz := fre_0 f
      have s5 := shl_512 v3.toNat (by omega)
      have hh := fun (k : Nat) (hk : (k : Int) < P) => hh_hid (h := h) hP fz.1 k hk
      rw [show ((v3.toNat : Nat) : Int) = v3 by omega] at s5 hh
      refine pc_call (lw_pc (h' := hidn h v3.toNat) hP hg h0 hr s5 hh) (fun r10 u11 q2 => ?_)
      obtain ⟨hr2, q3⟩ := q2
      rcases q3 with ⟨k1, _⟩ | ⟨_, m', k2, k3⟩
      · exact absurd (mny_hid hP fz.1 fz.2.1 k1) hm
      · rw [if_neg (lwq_ne hP h0 hm1 hl k2)] at k3
        refine pc_ite (fun c2 => pc_let (fun x9 e9 => ?_)) (fun c2 => pc_let (fun x12 e12 => pc_let (fun x9 e9 => ?_)))
        · have e : x9 = v3 + 1 := by omega
          rw [e]
          refine ih hr2 (by omega) (by omega) (ndr_n i1 hN (fun hd => ?_))
          obtain ⟨_, m2, a1, a2⟩ := hd
          have := lwq_one hP h0 a1 k2
          omega
        · have e : x9 = v3 + 1 := by omega
          rw [e, e12]
          exact ih hr2 (by omega) (by omega) (ndr_y i1 hN ⟨f, m', k2, by omega⟩)
    · rw [if_neg f, if_pos rfl]
      refine pc_let (fun x9 e9 => ?_)
      have e : x9 = v3 + 1 := by omega
      rw [e]
      exact ih hr (by omega) (by omega) (ndr_n i1 hN (fun hd => f hd.1))
theorem er_needed {a w : Wd} {P g se : Int} {h kn : Nat → Int} {x0 n : Int} (hp : PRM a w P g se h kn x0) (hG : G [] a a) (hs : SCR n w) (hn : n ≤ 2600) (hk : w 28 9 ≠ 0 → KPT P g se h kn x0 w) : PC (f_E_needed w) (fun r _ => PC (f_R_needed a) (fun r' _ => r = r')) := by
  obtain ⟨hP, hg, h0, hw, _⟩ := id hp
  unfold f_E_needed f_R_needed
  refine pc_call (crun hp hs hn hk) (fun r1 u z => ?_)
  have hlw : ∀ y, y = st a 43 16 0 → PC (f_R_lastWith 0 y) (fun r u => RFI P g se h kn x0 u ∧ ((MNY P g se h kn x0 ∧ r = -3) ∨ (¬ MNY P g se h kn x0 ∧ ∃ m, LWQ P g se h kn x0 m ∧ r = if m = -1 then -2 else m))) := fun y ey => lw_pc (h' := h) hP hg h0 (prm_rfi hp hG ey) (by decide) (fun k _ => by rw [bt_0, Bool.or_false])
  rcases z.2 with ⟨e, s⟩ | ⟨e, m⟩
  · refine pc_ite (fun c => by omega) (fun _ => ?_)
    have cl := src_cli hP h0 s
    have nm := cli_mny hP h0 cl
    refine pc_call (clw_pc cl hP h0 b10_0 b10_0) (fun r3 u4 z3 => ?_)
    rw [z3.1]
    have hl := lst_lwq hP hg h0 wkt_all z3.2
    refine pc_ite (fun e => pc_some (pc_lw (fun y ey => pc_call (hlw y ey) (fun r2 u3 q => ?_)))) (fun e => ?_)
    · rcases q.2 with ⟨k1, _⟩ | ⟨_, m', k2, k3⟩
      · exact absurd k1 nm
      · have := lwq_one hP h0 hl k2
        rw [if_pos (by omega)] at k3
        exact pc_ite (fun c => by omega) (fun _ => pc_some k3.symm)
    · have u5 := (run_5 z.1).1
      have hwu : u 5 3 = P ∧ u 5 4 = x0 ∧ B10 (u 5 5) (hB P h) := by
        rw [u5]; exact ⟨hw.1, hw.2.2.2.2.1, hw.2.1⟩
      refine pc_w (en43 cl hP hg h0 hwu.1 hwu.2.1 hwu.2.2 FU (by decide) hP.1 rfl) (fun r _ hA => pc_lw (fun y ey => pc_call (hlw y ey) (fun r2 u3 q => ?_)))
      rcases q.2 with ⟨k1, _⟩ | ⟨_, m', k2, k3⟩
      · exact absurd k1 nm
      · have e2 := lwq_one hP h0 hl k2
        rw [if_neg (by omega)] at k3
        have e3 : r2 = r3 := by omega
        rw [e3]
        have := lwq_0 e hl
        refine pc_ite (fun _ => ?_) (fun c => by omega)
        exact pc_w (en21 hP hg h0 nm e hl FU q.1 (by decide) hP.1 rfl) (fun r' _ hB => ndr_one hA hB)
  · refine pc_ite (fun _ => pc_some (pc_lw (fun y ey => pc_call (hlw y ey) (fun r2 u3 q => ?_)))) (fun c => absurd e c)
    rcases q.2 with ⟨_, k2⟩ | ⟨k1, _⟩
    · exact pc_ite (fun c => by omega) (fun _ => pc_some k2.symm)
    · exact absurd m k1
/-! CHEAP: the least paid, so many WEEKS on -/
def LCQ (P g se : Int) (h kn pr : Nat → Int) (x : Int) (n : Nat) (r : Int) : Prop := (r = 1000000 ∧ ∀ y, RCX P g se h kn x n y → ¬ sbg P y) ∨ ((∃ y, RCX P g se h kn x n y ∧ sbg P y ∧ csf P pr x y = r) ∧ ∀ y, RCX P g se h kn x n y → sbg P y → r ≤ csf P pr x y)
theorem lcq_rg {P g se : Int} {h kn pr : Nat → Int} {x : Int} {n : Nat} {r : Int} (hP : 0 ≤ P ∧ P ≤ 10) (hpr : ∀ k, 0 ≤ pr k ∧ pr k ≤ 9) (hl : LCQ P g se h kn pr x n r) : 0 ≤ r ∧ r ≤ 1000000 := by
  rcases hl with ⟨e, _⟩ | ⟨⟨y, _, _, e⟩, _⟩
  · omega
  · have := csf_rg (P := P) (pr := pr) hP hpr x y
    omega
theorem csf_first {P g se : Int} {h kn : Nat → Int} {x z y : Int} {pr : Nat → Int} {n : Nat} (hP : 0 ≤ P ∧ P ≤ 10) (hs : SUX P g se h kn x z) (hn : RCX P g se h kn z n y) : csf P pr x y = csf P pr x z + csf P pr z y := by
  refine cst_add (fun k hk => ?_)
  have a : sr P (sof y) k = true → sr P (sof z) k = true := fun e => sr_path hP hn e
  have b : sr P (sof z) k = true → sr P (sof x) k = true := fun e => sr_step hP hs e
  cases h1 : sr P (sof x) k <;> cases h2 : sr P (sof z) k <;> cases h3 : sr P (sof y) k <;> simp [h1, h2, h3] at a b ⊢
theorem chp_pc {P g se : Int} {h kn : Nat → Int} {x0 : Int} {X pr : Nat → Int} {w b : Wd} {v1 : Int} (hP : 0 ≤ P ∧ P ≤ 10) (hg : 1 ≤ g ∧ g ≤ 3) (h0 : WH x0 (sof x0) P) (c0 : w 43 0 = P) (h44 : w 44 = pr) (hpr : ∀ k, 0 ≤ pr k ∧ pr k ≤ 9) (hr : RLI P g se h kn x0 w) (hx : XOK P g se h kn x0 X w) (hv : 0 ≤ v1 ∧ v1 < 45) (q1 : ∀ c, c ≠ 72 → c ≠ 73 → b c = w c) (ho : ODR P X (w 43 40) b) : PC (f_R_cheap_40 FU v1 0 b) (fun r _ => ∃ m, LCQ P g se h kn pr x0 v1.toNat m ∧ r = if m = 1000000 then -2 else m) := by
  obtain ⟨o1, o2, o3, o4⟩ := ho
  have h3000 := hr.1
  have b43 : b 43 = w 43 := q1 43 (by decide) (by decide)
  have b44 : b 44 = w 44 := q1 44 (by decide) (by decide)
  have b63 : b 63 = w 63 := q1 63 (by decide) (by decide)
  have b64 : b 64 = w 64 := q1 64 (by decide) (by decide)
  have b65 : b 65 = w 65 := q1 65 (by decide) (by decide)
  have hvz : ∀ x z, VLS P g se h kn x0 x → SUX P g se h kn x z → VLS P g se h kn x0 z := fun x z hv hs => by
    obtain ⟨n, hn⟩ := hv.2
    have hs' := hs
    obtain ⟨m, _, hw⟩ := hs
    exact ⟨wh_sof hw hP.2, n + 1, x, hn, hs'⟩
  have pcT : ∀ o : Option (Int × Wd), PC o (fun _ _ => True) := fun _ _ _ _ => trivial
  -- all that follows answers this
  have l229 : ∀ (n : Nat) {x8 v3 : Int} {v : Wd}, PC (f_R_cheap_229 n v1 x8 v3 v) (fun r _ => r = x8) := by
    intro n
    induction n with
    | zero => intros; exact pc_none
    | succ n ih =>
      intro x8 v3 v
      rw [f_R_cheap_229]
      unfold f_R_cheap_278 f_R_cheap_279
      refine pc_ite (fun _ => pc_call (pcT _) (fun _ _ _ => pc_some rfl)) (fun _ => pc_call (pcT _) (fun _ _ _ => pc_ite (fun _ => pc_gd (fun _ => pc_lw (fun _ _ => pc_let (fun _ _ => ih)))) (fun _ => pc_gd (fun _ => pc_call (pcT _) (fun _ _ _ => pc_ite (fun _ => pc_gd (fun _ => pc_lw (fun _ _ => pc_let (fun _ _ => ih)))) (fun _ => pc_gd (fun _ => pc_lw (fun _ _ => pc_let (fun _ _ => ih)))))))))
  have l40 : ∀ (n : Nat) {v2 : Int} {u : Wd}, 0 ≤ v2 → v2 ≤ w 43 40 → (∀ c, c ≠ 77 → u c = b c) → (∀ j : Nat, (j : Int) < v2 → ∀ q : Nat, (q : Int) ≤ v1 → LCQ P g se h kn pr (X (b 72 j).toNat) q (u 77 (45 * (b 72 j).toNat + q))) → PC (f_R_cheap_40 n v1 v2 u) (fun r _ => ∃ m, LCQ P g se h kn pr x0 v1.toNat m ∧ r = if m = 1000000 then -2 else m) := by
    intro n
    induction n with
    | zero => intros; exact pc_none
    | succ n ih =>
      intro v2 u i2 i2' hu hL
      rw [f_R_cheap_40, hu 43 (by decide), b43]
      refine pc_ite (fun c => ?_) (fun c => ?_)
      · obtain ⟨k, hk, e⟩ := o3 0 (by omega)
        have hl := hL k (by omega) v1.toNat (by omega)
        have e0 : (b 72 k).toNat = 0 := by omega
        rw [e0, (xok_0 hP h0 hr hx (by omega)).mpr rfl, show 45 * 0 + v1.toNat = v1.toNat by omega] at hl
        refine pc_gd (fun _ => pc_let (fun x8 e8 => ?_))
        rw [← e8] at hl
        refine pc_ite (fun c8 => pc_some ⟨x8, hl, by rw [if_pos c8]⟩) (fun c8 => pc_lw (fun u9 _ => pc_ite (fun _ => pc_some ⟨x8, hl, by rw [if_neg c8]⟩) (fun _ => pc_call (pcT _) (fun _ _ _ => pc_w (l229 FU) (fun r _ e => ⟨x8, hl, by rw [e, if_neg c8]⟩)))))
      · refine pc_gd (fun _ => pc_let (fun x3 e3 => ?_))
        rw [hu 72 (by decide)] at e3
        obtain ⟨s1, s2⟩ := o1 v2.toNat (by omega)
        rw [← e3] at s1 s2
        obtain ⟨hxv, hcv⟩ := hx.1 x3.toNat (by omega)
        obtain ⟨⟨hlo, hhi⟩, hE⟩ := hr.2.2.2.2.2 x3.toNat (by omega)
        obtain ⟨hE1, hE2⟩ := hE (X x3.toNat) hxv hcv
        have ahead : ∀ j : Nat, (j : Int) < v2 → (b 72 j).toNat ≠ x3.toNat := fun j hj e => by
          have r1 := (o1 j (by omega)).1
          have := o2 j v2.toNat (by omega) (by omega) (by omega)
          omega
        have w2 : w32 (v2 + 1) = v2 + 1 := w32_id (by omega)
        have w3 : w32 (x3 + 1) = x3 + 1 := w32_id (by omega)
        have l58 : ∀ (m : Nat) {v4 : Int} {v : Wd}, 0 ≤ v4 → v4 ≤ v1 + 1 → (∀ c, c ≠ 77 → v c = b c) → (∀ j : Nat, (j : Int) < v2 → ∀ q : Nat, (q : Int) ≤ v1 → LCQ P g se h kn pr (X (b 72 j).toNat) q (v 77 (45 * (b 72 j).toNat + q))) → (∀ q : Nat, (q : Int) < v4 → LCQ P g se h kn pr (X x3.toNat) q (v 77 (45 * x3.toNat + q))) → PC (f_R_cheap_58 (f_R_cheap_40 n) m v1 v2 x3 v4 v) (fun r _ => ∃ m, LCQ P g se h kn pr x0 v1.toNat m ∧ r = if m = 1000000 then -2 else m) := by
          intro m
          induction m with
          | zero => intros; exact pc_none
          | succ m ihm =>
            intro v4 v i4 i4' hv' hA hM
            rw [f_R_cheap_58]
            refine pc_ite (fun c4 => pc_let (fun x21 e21 => ?_)) (fun c4 => ?_)
            · rw [w2] at e21
              rw [e21]
              refine ih (by omega) (by omega) hv' (fun j hj => ?_)
              by_cases cj : (j : Int) < v2
              · exact hA j cj
              · rw [show j = v2.toNat by omega, ← e3]
                exact fun q hq => hM q (by omega)
            · -- what is written
              have w163 : ∀ {v5 : Int}, LCQ P g se h kn pr (X x3.toNat) v4.toNat v5 → PC (f_R_cheap_163 (f_R_cheap_40 n) (f_R_cheap_58 (f_R_cheap_40 n) m) v1 v2 x3 v4 v5 v) (fun r _ => ∃ m, LCQ P g se h kn pr x0 v1.toNat m ∧ r = if m = 1000000 then -2 else m) := fun {v5} hl => by
                unfold f_R_cheap_163
                have hl5 := lcq_rg hP hpr hl
                rw [w32_id (show -2147483648 ≤ 45 * x3 ∧ 45 * x3 ≤ 2147483647 by omega), w32_id (show -2147483648 ≤ 45 * x3 + v4 ∧ 45 * x3 + v4 ≤ 2147483647 by omega), w32_id (show -2147483648 ≤ v4 + 1 ∧ v4 + 1 ≤ 2147483647 by omega)]
                have im : imin v5 1000000 = v5 := by
                  rcases imin_sp v5 1000000 with ⟨a, e⟩ | ⟨_, e⟩
                  · omega
                  · exact e
                rw [im]
                refine pc_gd (fun _ => pc_lw (fun u24 e24 => pc_let (fun x25 e25 => ?_)))
                have ix : (45 * x3 + v4).toNat = 45 * x3.toNat + v4.toNat := by omega
                rw [ix] at e24
                have k24 : ∀ k, k ≠ 45 * x3.toNat + v4.toNat → u24 77 k = v 77 k := fun k hk => by rw [e24, st_k hk]
                rw [e25]
                refine ihm (by omega) (by omega) (fun c hc => by rw [e24, st_row hc, hv' c hc]) (fun j hj q hq => ?_) (fun q hq => ?_)
                · have := ahead j hj
                  rw [k24 _ (by omega)]
                  exact hA j hj q hq
                · by_cases cq : (q : Int) < v4
                  · rw [k24 _ (by omega)]; exact hM q cq
                  · rw [show q = v4.toNat by omega, e24, st_eq]; exact hl
              refine pc_call (gx_pc hP hx (by rw [hv' 43 (by decide), b43]; exact c0) (by rw [hv' 63 (by decide), b63]) ⟨s1, s2⟩) (fun r22 u23 z => ?_)
              rw [z.1]
              have sb := sbg_0 z.2
              refine pc_ite (fun cz => w163 (Or.inl ⟨rfl, fun y hy hs => ?_⟩)) (fun cz => ?_)
              · exact absurd cz (sb.mpr (sbg_back hP hxv.1 hy hs))
              · have hsb := sb.mp cz
                -- what stands at the end of an edge
                have tgt : ∀ e : Nat, w 64 x3.toNat ≤ (e : Int) → (e : Int) < w 64 (x3.toNat + 1) → (0 ≤ w 65 e ∧ w 65 e < w 43 40) ∧ SUX P g se h kn (X x3.toNat) (X (w 65 e).toNat) ∧ ∀ q : Nat, (q : Int) ≤ v1 → LCQ P g se h kn pr (X (w 65 e).toNat) q (v 77 (45 * (w 65 e).toNat + q)) := fun e h1 h2 => by
                  obtain ⟨g4, y, g5, g6⟩ := hE1 e h1 h2
                  have hy := hx.1 (w 65 e).toNat (by omega)
                  have eX : X (w 65 e).toNat = y := cdx_inj hP hy.1.1 (hvz _ _ hxv g5).1 (by rw [← hy.2, g6])
                  have hl := ls_gs hP hg hxv g5 hsb
                  obtain ⟨j, hj, ej⟩ := o3 (w 65 e).toNat (by omega)
                  have hjv : (j : Int) < v2 := by
                    refine Classical.byContradiction fun hh => ?_
                    have le : Lf P X x3.toNat ≤ Lf P X (w 65 e).toNat := by
                      by_cases cj : j = v2.toNat
                      · rw [cj, ← e3] at ej
                        have : x3.toNat = (w 65 e).toNat := by omega
                        rw [this]; exact Int.le_refl _
                      · have := o4 v2.toNat j (by omega) hj
                        rw [← e3, ej, show (((w 65 e).toNat : Nat) : Int).toNat = (w 65 e).toNat by omega] at this
                        exact this
                    unfold Lf at le
                    rw [eX] at le
                    omega
                  refine ⟨g4, by rw [eX]; exact g5, fun q hq => ?_⟩
                  have := hA j hjv q hq
                  rw [ej, show (((w 65 e).toNat : Nat) : Int).toNat = (w 65 e).toNat by omega] at this
                  exact this
                -- one edge after the other
                have l99 : ∀ (k : Nat) {v5 v6 : Int}, w 64 x3.toNat ≤ v6 → v6 ≤ w 64 (x3.toNat + 1) → (v4 = 0 → v5 = 0) → (0 < v4 → (0 ≤ v5 ∧ v5 ≤ 1000000) ∧ (v5 = 1000000 ∨ ∃ y, RCX P g se h kn (X x3.toNat) v4.toNat y ∧ sbg P y ∧ csf P pr (X x3.toNat) y = v5) ∧ ∀ e : Nat, w 64 x3.toNat ≤ (e : Int) → (e : Int) < v6 → v5 ≤ v 77 (45 * (w 65 e).toNat + (v4.toNat - 1)) + csf P pr (X x3.toNat) (X (w 65 e).toNat)) → PC (f_R_cheap_99 (f_R_cheap_40 n) (f_R_cheap_58 (f_R_cheap_40 n) m) k v1 v2 x3 v4 v5 v6 v) (fun r _ => ∃ m, LCQ P g se h kn pr x0 v1.toNat m ∧ r = if m = 1000000 then -2 else m) := by
                  intro k
                  induction k with
                  | zero => intros; exact pc_none
                  | succ k ihk =>
                    intro v5 v6 i6 i6' hz hn
                    have zero : v4 = 0 → LCQ P g se h kn pr (X x3.toNat) v4.toNat v5 := fun e4 => by
                      rw [e4, hz e4]
                      refine Or.inr ⟨⟨X x3.toNat, rfl, hsb, csf_self P pr _⟩, fun y hy _ => ?_⟩
                      exact (csf_rg (P := P) (pr := pr) hP hpr (X x3.toNat) y).1
                    rw [f_R_cheap_99, w3, hv' 64 (by decide), b64, show (x3 + 1).toNat = x3.toNat + 1 by omega]
                    refine pc_gd (fun _ => pc_ite (fun c6 => ?_) (fun c6 => pc_ite (fun c40 => w163 (zero (by omega))) (fun c40 => ?_)))
                    · by_cases c40 : v4 = 0
                      · exact w163 (zero c40)
                      · obtain ⟨n1, n2, n3⟩ := hn (by omega)
                        have hmin : ∀ y, RCX P g se h kn (X x3.toNat) v4.toNat y → sbg P y → v5 ≤ csf P pr (X x3.toNat) y := fun y hy hs => by
                          rw [show v4.toNat = (v4.toNat - 1) + 1 by omega] at hy
                          obtain ⟨z', hz1, hz2⟩ := rcx_first.mp hy
                          obtain ⟨e, g1, g2, g3, g4⟩ := hE2 z' hz1
                          have ha := hx.1 (w 65 e).toNat (by omega)
                          have eX : X (w 65 e).toNat = z' := cdx_inj hP ha.1.1 (hvz _ _ hxv hz1).1 (by rw [← ha.2, g4])
                          have t3 := (tgt e g1 g2).2.2 (v4.toNat - 1) (by omega)
                          have n4 := n3 e g1 (by omega)
                          rw [eX] at t3 n4
                          rcases t3 with ⟨_, t4⟩ | ⟨_, t4⟩
                          · exact absurd hs (t4 y hz2)
                          · have := t4 y hz2 hs
                            have := csf_first (pr := pr) hP hz1 hz2
                            omega
                        refine w163 ?_
                        by_cases c5 : v5 = 1000000
                        · refine Or.inl ⟨c5, fun y hy hs => ?_⟩
                          have a1 := hmin y hy hs
                          have a2 := csf_rg (P := P) (pr := pr) hP hpr (X x3.toNat) y
                          omega
                        · rcases n2 with e | hy
                          · exact absurd e c5
                          · exact Or.inr ⟨hy, hmin⟩
                    · obtain ⟨n1, n2, n3⟩ := hn (by omega)
                      obtain ⟨g4, t2, t3⟩ := tgt v6.toNat (by omega) (by omega)
                      have t4 := t3 (v4.toNat - 1) (by omega)
                      have t5 := lcq_rg hP hpr t4
                      have e65 : w 65 v6.toNat = (((w 65 v6.toNat).toNat : Nat) : Int) := by omega
                      have e3v : x3 = ((x3.toNat : Nat) : Int) := by omega
                      have hy := hx.1 (w 65 v6.toNat).toNat (by omega)
                      have c2' := csf_rg (P := P) (pr := pr) hP hpr (X x3.toNat) (X (w 65 v6.toNat).toNat)
                      have cp := cost_pc (P := P) (s := sof (X x3.toNat)) (s' := sof (X (w 65 v6.toNat).toNat)) (w := v) (t := x3.toNat) (t' := (w 65 v6.toNat).toNat) hP (by rw [hv' 43 (by decide), b43]; exact c0) (by rw [hv' 44 (by decide), b44, h44]; exact hpr) hxv.1.2.2 hy.1.1.2.2 (by rw [hv' 63 (by decide), b63]; exact hcv) (by rw [hv' 63 (by decide), b63]; exact hy.2)
                      rw [← e3v, ← e65, hv' 44 (by decide), b44, h44] at cp
                      rw [hv' 65 (by decide), b65]
                      refine pc_gd (fun _ => pc_gd (fun _ => pc_gd (fun _ => pc_call cp (fun r27 u28 q => ?_))))
                      have er : r27 = csf P pr (X x3.toNat) (X (w 65 v6.toNat).toNat) := q.2
                      rw [q.1, er, w32_id (show -2147483648 ≤ 45 * w 65 v6.toNat ∧ 45 * w 65 v6.toNat ≤ 2147483647 by omega), w32_id (show -2147483648 ≤ 45 * w 65 v6.toNat + v4 ∧ 45 * w 65 v6.toNat + v4 ≤ 2147483647 by omega), w32_id (show -2147483648 ≤ 45 * w 65 v6.toNat + v4 - 1 ∧ 45 * w 65 v6.toNat + v4 - 1 ≤ 2147483647 by omega)]
                      rw [show (45 * w 65 v6.toNat + v4 - 1).toNat = 45 * (w 65 v6.toNat).toNat + (v4.toNat - 1) by omega]
                      have b41 : v6 ≤ 2147483646 := by omega
                      rw [w32_id (by omega), w32_id (by omega)]
                      refine pc_let (fun x29 e29 => pc_let (fun x30 e30 => ?_))
                      rw [e30]
                      have im := imin_sp v5 (v 77 (45 * (w 65 v6.toNat).toNat + (v4.toNat - 1)) + csf P pr (X x3.toNat) (X (w 65 v6.toNat).toNat))
                      refine ihk (by omega) (by omega) (fun e => by omega) (fun _ => ⟨?_, ?_, fun e h1 h2 => ?_⟩)
                      · rcases im with ⟨a1, a2⟩ | ⟨a1, a2⟩ <;> rw [e29, a2] <;> omega
                      · rcases im with ⟨a1, a2⟩ | ⟨a1, a2⟩
                        · rw [e29, a2]
                          rcases t4 with ⟨e, _⟩ | ⟨⟨y, y1, y2, y3⟩, _⟩
                          · omega
                          · refine Or.inr ⟨y, ?_, y2, ?_⟩
                            · rw [show v4.toNat = (v4.toNat - 1) + 1 by omega]
                              exact rcx_first.mpr ⟨_, t2, y1⟩
                            · rw [csf_first (pr := pr) hP t2 y1, y3]; omega
                        · rw [e29, a2]; exact n2
                      · have le : x29 ≤ v5 ∧ x29 ≤ v 77 (45 * (w 65 v6.toNat).toNat + (v4.toNat - 1)) + csf P pr (X x3.toNat) (X (w 65 v6.toNat).toNat) := by
                          rcases im with ⟨a1, a2⟩ | ⟨a1, a2⟩ <;> rw [e29, a2] <;> omega
                        by_cases ce : (e : Int) < v6
                        · have := n3 e h1 ce; omega
                        · rw [show e = v6.toNat by omega]; exact le.2
                unfold f_R_cheap_89
                rw [hv' 64 (by decide), b64]
                refine pc_ite (fun c40 => pc_gd (fun _ => pc_let (fun x26 e26 => ?_))) (fun c40 => pc_gd (fun _ => pc_let (fun x26 e26 => ?_)))
                · rw [e26]
                  exact l99 FU (Int.le_refl _) hhi (fun _ => rfl) (fun hh => by omega)
                · rw [e26]
                  exact l99 FU (Int.le_refl _) hhi (fun hh => absurd hh c40) (fun _ => ⟨by decide, Or.inl rfl, fun e h1 h2 => by omega⟩)
        exact l58 FU (by decide) (by omega) hu hL (fun q hq => by omega)
  exact l40 FU (by decide) (by omega) (fun c hc => rfl) (fun j hj => by omega)
theorem er_cheap {a w : Wd} {P g se : Int} {h kn : Nat → Int} {x0 n v1 : Int} (hp : PRM a w P g se h kn x0) (hG : G [] a a) (hs : SCR n w) (hn : n ≤ 2600) (hk : w 28 9 ≠ 0 → KPT P g se h kn x0 w) : PC (f_E_cheap v1 w) (fun r _ => PC (f_R_cheap v1 a) (fun r' _ => r = r')) := by
  obtain ⟨hP, hg, h0, hw, ⟨c0, _⟩, c47, _, _, c44, c6⟩ := id hp
  unfold f_E_cheap f_R_cheap
  rw [isw_e, jc_s]
  have pcT : ∀ o : Option (Int × Wd), PC o (fun _ _ => True) := fun _ _ _ _ => trivial
  by_cases hv : 0 ≤ v1 ∧ v1 ≤ 60
  · rw [if_pos hv]
    refine pc_ite (fun e => absurd e (by decide)) (fun _ => ?_)
    refine pc_w (two_run (KR := fun u5 => jcall (f_R_findOrder u5) fun r6 u7 => if v1 < 45 then f_R_cheap_40 FU v1 0 u7 else some ((-2), u7)) (A := fun r => ∃ m, MinQ (fun x => VLS P g se h kn x0 x ∧ RCX P g se h kn x0 v1.toNat x ∧ SUB P (fun _ => false) x) (csf P (a 44) x0) (-1) m ∧ r = if m = -1 then -2 else m) (B := fun r => ∃ m, LCQ P g se h kn (a 44) x0 v1.toNat m ∧ r = if m = 1000000 then -2 else m) hp hG hs hn hk (fun u hu _ hc => ?_) (fun y u ey hf hg' hr => ?_) (fun r r' hA hB => ?_)) (fun r _ q => pc_lw (fun y ey => pc_call (iswR_e v1 y) (fun r2 u3 z => ?_)))
    · obtain ⟨u5, u6, u7⟩ := run_5 hu
      refine pc_call (clp_pc (pr := a 44) hP h0 hc (by rw [u5]; exact hw.1) (by rw [u5]; exact hw.2.2.2.2.1) (fun j hj => by rw [u6]; exact ⟨c6 j hj, c44 j⟩) c44 hv b10_0) (fun r5 u8 z => ?_)
      refine pc_ite (fun e => pc_some ⟨r5, z.2, by rw [if_pos e]⟩) (fun e => pc_ite (fun _ => ?_) (fun _ => ?_))
      · exact pc_call (pcT _) (fun _ _ _ => pc_some ⟨r5, z.2, by rw [if_neg e]⟩)
      · exact pc_call (pcT _) (fun _ _ _ => pc_call (pcT _) (fun _ _ _ => pc_some ⟨r5, z.2, by rw [if_neg e]⟩))
    · have u0 : u 43 0 = P := by rw [hf.2 0 (by decide) (by decide) (by decide), ey, st_k (by decide)]; exact c0
      have u44 : u 44 = a 44 := by rw [hf.1 44 (by decide) (by decide) (by decide) (by decide) (by decide) (by decide) (by decide), ey, st_row (by decide)]
      obtain ⟨X, hx⟩ := rli_x hP hr
      refine pc_call (fo_pc hP u0 hr.1 hx) (fun r6 b q => ?_)
      refine pc_ite (fun c => chp_pc hP hg h0 u0 u44 c44 hr hx ⟨hv.1, c⟩ q.1 q.2) (fun c => pc_some ⟨1000000, Or.inl ⟨rfl, fun y hy hs => ?_⟩, rfl⟩)
      have := wk_29 hP hg h0 hy hs
      omega
    · obtain ⟨m, m1, m2⟩ := hA
      obtain ⟨m', m1', m2'⟩ := hB
      have vls : ∀ y, RCX P g se h kn x0 v1.toNat y → VLS P g se h kn x0 y := fun y hy => ⟨rx_wh hP h0 hy, _, hy⟩
      rcases m1 with ⟨e, hno⟩ | ⟨⟨x, ⟨x1, x2, x3⟩, x4⟩, hmin⟩
      · rcases m1' with ⟨e', _⟩ | ⟨⟨y, y1, y2, _⟩, _⟩
        · rw [m2, m2', if_pos e, if_pos e']
        · exact absurd ⟨vls y y1, y1, y2, fun q _ hF => by cases hF⟩ (hno y)
      · have r1 := csf_rg (P := P) (pr := a 44) hP c44 x0 x
        rcases m1' with ⟨e', hno⟩ | ⟨⟨y, y1, y2, y4⟩, hmin'⟩
        · exact absurd x3.1 (hno x x2)
        · have r2 := csf_rg (P := P) (pr := a 44) hP c44 x0 y
          have a1 := hmin' x x2 x3.1
          have a2 := hmin y ⟨vls y y1, y1, y2, fun q _ hF => by cases hF⟩
          rw [m2, m2', if_neg (by omega), if_neg (by omega)]
          omega
    · rw [z.1, z.2, if_pos hv]
      refine pc_ite (fun e => absurd e (by decide)) (fun _ => q y ey)
  · rw [if_neg hv]
    refine pc_ite (fun _ => pc_some (pc_lw (fun y ey => pc_call (iswR_e v1 y) (fun r2 u3 z => ?_)))) (fun e => absurd rfl e)
    rw [z.1, z.2, if_neg hv]
    exact pc_ite (fun _ => pc_some rfl) (fun e => absurd rfl e)
/-! BARS: the greatest surplus is what the most PAIRS leave over -/
def nbh (P : Int) (kn : Nat → Int) (fr : Nat → Bool) (u : Int) (S : Nat → Bool) (o : Nat) : Bool := fr o && !bt u o && kbn kn S P.toNat o
theorem nbh_t {P : Int} {kn : Nat → Int} {fr : Nat → Bool} {u : Int} {S : Nat → Bool} {o : Nat} : nbh P kn fr u S o = true ↔ fr o = true ∧ bt u o = false ∧ ∃ i, i < P.toNat ∧ S i = true ∧ bt (kn i) o = true := by
  unfold nbh
  rw [Bool.and_eq_true, Bool.and_eq_true, kbn_t]
  constructor
  · rintro ⟨⟨a, b⟩, i, hi, c⟩
    refine ⟨a, ?_, i, hi, c⟩
    cases e : bt u o with
    | false => rfl
    | true => rw [e] at b; cases b
  · rintro ⟨a, b, i, hi, c⟩
    exact ⟨⟨a, by rw [b]; rfl⟩, i, hi, c⟩
theorem pn_uni (f g : Nat → Bool) : ∀ n, pn (fun k => f k || g k) n + pn (fun k => f k && g k) n = pn f n + pn g n := by
  intro n
  induction n with
  | zero => rfl
  | succ n ih =>
    rw [pn, pn, pn, pn]
    cases f n <;> cases g n <;> simp <;> omega
theorem pn_P {f : Nat → Bool} {p : Nat} : ∀ {m : Nat}, p ≤ m → (∀ k, k < m → f k = true → k < p) → pn f m = pn f p := by
  intro m
  induction m with
  | zero => intro h _; rw [show p = 0 by omega]
  | succ m ih =>
    intro h hf
    by_cases c : p = m + 1
    · rw [c]
    · rw [pn, ih (by omega) (fun k hk => hf k (by omega))]
      cases e : f m with
      | false => simp
      | true => have := hf m (by omega) e; omega
def bcn (P : Int) (br : Nat → Bool) (n : Nat) : Int := ((pn br P.toNat : Nat) : Int) - ((pn br (P.toNat - n) : Nat) : Int)
theorem bcn_s {P : Int} {br : Nat → Bool} {n : Nat} (hn : n < P.toNat) : bcn P br (n + 1) = bcn P br n + (if br (P.toNat - (n + 1)) = true then 1 else 0) := by
  unfold bcn
  rw [show P.toNat - n = (P.toNat - (n + 1)) + 1 by omega, pn]
  split <;> omega
def SBS (P : Int) (br : Nat → Bool) (n : Nat) (S : Nat → Bool) : Prop := ∀ k, k < 10 → S k = true → br k = true ∧ P.toNat - n ≤ k ∧ k < P.toNat
theorem nbh_w {P : Int} {kn : Nat → Int} {fr : Nat → Bool} {u : Int} {S T : Nat → Bool} (hP : 0 ≤ P ∧ P ≤ 10) (h : ∀ k, k < 10 → S k = true → T k = true) : pn (nbh P kn fr u S) 10 ≤ pn (nbh P kn fr u T) 10 := by
  refine pn_mono (fun o _ ho => ?_)
  rw [nbh_t] at ho ⊢
  obtain ⟨a, b, i, hi, c, d⟩ := ho
  exact ⟨a, b, i, hi, h i (by omega) c, d⟩
/-- one more used -/
theorem nbh_u {P : Int} {kn : Nat → Int} {fr : Nat → Bool} {u : Int} {S : Nat → Bool} {o : Nat} (hu : 0 ≤ u ∧ u ≤ 1023) (ho : o < 10) : (∀ k, k < 10 → nbh P kn fr (ior u (ishl 1 (o : Int))) S k = true → nbh P kn fr u S k = true) ∧ nbh P kn fr (ior u (ishl 1 (o : Int))) S o = false ∧ (∀ k, k < 10 → k ≠ o → nbh P kn fr (ior u (ishl 1 (o : Int))) S k = nbh P kn fr u S k) := by
  refine ⟨fun k hk h => ?_, ?_, fun k hk hne => ?_⟩
  · rw [nbh_t, or1_t hu ho hk] at h
    rw [nbh_t]
    refine ⟨h.1, ?_, h.2.2⟩
    cases e : bt u k with
    | false => rfl
    | true => rw [e] at h; simp at h
  · unfold nbh
    rw [or1_t hu ho ho]
    simp
  · unfold nbh
    rw [or1_t hu ho hk, decide_eq_false hne, Bool.or_false]
theorem bar_wk {P : Int} {kn : Nat → Int} {br fr : Nat → Bool} (hP : 0 ≤ P ∧ P ≤ 10) : ∀ (n : Nat), n ≤ P.toNat → ∀ {u : Int} {S : Nat → Bool}, (0 ≤ u ∧ u ≤ 1023) → SBS P br n S → mpv P kn br fr n u + ((pn S 10 : Nat) : Int) ≤ bcn P br n + ((pn (nbh P kn fr u S) 10 : Nat) : Int) := by
  intro n
  induction n with
  | zero =>
    intro _ u S hu hS
    have e : pn S 10 = 0 := pn_0 (fun k hk => by
      cases e : S k with
      | false => rfl
      | true => have := hS k hk e; omega)
    rw [mpv, e]
    unfold bcn
    rw [Nat.sub_zero]
    omega
  | succ n ih =>
    intro hn u S hu hS
    have hb := bcn_s (br := br) (show n < P.toNat by omega)
    have i10 : P.toNat - (n + 1) < 10 := by omega
    have hsm : S (P.toNat - (n + 1)) = false → SBS P br n S := fun e k hk hk2 => by
      have := hS k hk hk2
      refine ⟨this.1, ?_, this.2.2⟩
      have ne : k ≠ P.toNat - (n + 1) := fun h => by rw [h, e] at hk2; cases hk2
      omega
    rw [mpv]
    by_cases hbr : br (P.toNat - (n + 1)) = true
    · rw [if_pos hbr] at hb
      rw [if_pos hbr]
      cases hSi : S (P.toNat - (n + 1)) with
      | true =>
        have hS' : SBS P br n (fun k => S k && !decide (k = P.toNat - (n + 1))) := fun k hk h => by
          rw [Bool.and_eq_true] at h
          have := hS k hk h.1
          have ne : k ≠ P.toNat - (n + 1) := fun hh => by have := h.2; rw [decide_eq_true hh] at this; cases this
          exact ⟨this.1, by omega, this.2.2⟩
        have e1 : pn S 10 = pn (fun k => S k && !decide (k = P.toNat - (n + 1))) 10 + 1 := pn_up i10 (fun k _ hk => by simp [hk]) (by simp) hSi
        have sub := fun v => nbh_w (kn := kn) (fr := fr) (u := v) (S := fun k => S k && !decide (k = P.toNat - (n + 1))) (T := S) hP (fun k _ h => by rw [Bool.and_eq_true] at h; exact h.1)
        rcases mpo_w (v := mpv P kn br fr n) (kni := kn (P.toNat - (n + 1))) (fr := fr) (u := u) (base := mpv P kn br fr n u) P.toNat with e | ⟨o, ho, hc, e⟩
        · rw [e]
          have a1 := ih (by omega) hu hS'
          have a2 := sub u
          omega
        · rw [e]
          have ho10 : o < 10 := by omega
          have a1 := ih (by omega) (or1_b hu ho10).1 hS'
          have a2 := sub (ior u (ishl 1 (o : Int)))
          have nu := nbh_u (P := P) (kn := kn) (fr := fr) (S := S) hu ho10
          rw [Bool.and_eq_true, Bool.and_eq_true] at hc
          have hbo : bt u o = false := by
            cases e : bt u o with
            | false => rfl
            | true => have := hc.2; rw [e] at this; cases this
          have a3 : pn (nbh P kn fr (ior u (ishl 1 (o : Int))) S) 10 + 1 ≤ pn (nbh P kn fr u S) 10 := pn_lt nu.1 ⟨o, ho10, nu.2.1, nbh_t.mpr ⟨hc.1.2, hbo, _, by omega, hSi, hc.1.1⟩⟩
          omega
      | false =>
        have hS0 := hsm hSi
        rcases mpo_w (v := mpv P kn br fr n) (kni := kn (P.toNat - (n + 1))) (fr := fr) (u := u) (base := mpv P kn br fr n u) P.toNat with e | ⟨o, ho, hc, e⟩
        · rw [e]
          have a1 := ih (by omega) hu hS0
          omega
        · rw [e]
          have ho10 : o < 10 := by omega
          have a1 := ih (by omega) (or1_b hu ho10).1 hS0
          have a3 := pn_mono (nbh_u (P := P) (kn := kn) (fr := fr) (S := S) hu ho10).1
          omega
    · rw [if_neg hbr] at hb
      rw [if_neg hbr]
      have hSi : S (P.toNat - (n + 1)) = false := by
        cases e : S (P.toNat - (n + 1)) with
        | false => rfl
        | true => exact absurd (hS _ i10 e).1 hbr
      have a1 := ih (by omega) hu (hsm hSi)
      omega
def TGT (P : Int) (kn : Nat → Int) (br fr : Nat → Bool) (n : Nat) (u : Int) (S : Nat → Bool) : Prop := SBS P br n S ∧ mpv P kn br fr n u + ((pn S 10 : Nat) : Int) = bcn P br n + ((pn (nbh P kn fr u S) 10 : Nat) : Int)
theorem tgt_uni {P : Int} {kn : Nat → Int} {br fr : Nat → Bool} {n : Nat} {u : Int} {S T : Nat → Bool} (hP : 0 ≤ P ∧ P ≤ 10) (hn : n ≤ P.toNat) (hu : 0 ≤ u ∧ u ≤ 1023) (a : TGT P kn br fr n u S) (b : TGT P kn br fr n u T) : TGT P kn br fr n u (fun k => S k || T k) := by
  obtain ⟨a1, a2⟩ := a
  obtain ⟨b1, b2⟩ := b
  have c1 : SBS P br n (fun k => S k || T k) := fun k hk h => by
    rcases Bool.or_eq_true _ _ ▸ h with h | h
    · exact a1 k hk h
    · exact b1 k hk h
  have c2 : SBS P br n (fun k => S k && T k) := fun k hk h => by
    rw [Bool.and_eq_true] at h
    exact a1 k hk h.1
  have w1 := bar_wk (kn := kn) (fr := fr) hP n hn hu c1
  have w2 := bar_wk (kn := kn) (fr := fr) hP n hn hu c2
  have s1 := pn_uni S T 10
  have s2 := pn_uni (nbh P kn fr u S) (nbh P kn fr u T) 10
  have m1 : pn (nbh P kn fr u (fun k => S k || T k)) 10 ≤ pn (fun k => nbh P kn fr u S k || nbh P kn fr u T k) 10 := pn_mono (fun o _ ho => by
    rw [nbh_t] at ho
    obtain ⟨x1, x2, i, hi, x3, x4⟩ := ho
    rw [Bool.or_eq_true, nbh_t, nbh_t]
    rcases Bool.or_eq_true _ _ ▸ x3 with h | h
    · exact Or.inl ⟨x1, x2, i, hi, h, x4⟩
    · exact Or.inr ⟨x1, x2, i, hi, h, x4⟩)
  have m2 : pn (nbh P kn fr u (fun k => S k && T k)) 10 ≤ pn (fun k => nbh P kn fr u S k && nbh P kn fr u T k) 10 := pn_mono (fun o _ ho => by
    rw [nbh_t] at ho
    obtain ⟨x1, x2, i, hi, x3, x4⟩ := ho
    rw [Bool.and_eq_true] at x3
    rw [Bool.and_eq_true, nbh_t, nbh_t]
    exact ⟨⟨x1, x2, i, hi, x3.1, x4⟩, ⟨x1, x2, i, hi, x3.2, x4⟩⟩)
  refine ⟨c1, ?_⟩
  omega
theorem bar_st {P : Int} {kn : Nat → Int} {br fr : Nat → Bool} (hP : 0 ≤ P ∧ P ≤ 10) (hf : ∀ k : Nat, k < 10 → fr k = true → (k : Int) < P) : ∀ (n : Nat), n ≤ P.toNat → ∀ {u : Int}, (0 ≤ u ∧ u ≤ 1023) → ∃ S, TGT P kn br fr n u S := by
  intro n
  induction n with
  | zero =>
    intro _ u hu
    refine ⟨fun _ => false, (fun k _ h => by cases h), ?_⟩
    have e : pn (fun _ => false) 10 = 0 := pn_0 (fun _ _ => rfl)
    have e2 : pn (nbh P kn fr u (fun _ => false)) 10 = 0 := pn_0 (fun o _ => by
      cases e : nbh P kn fr u (fun _ => false) o with
      | false => rfl
      | true => rw [nbh_t] at e; obtain ⟨_, _, i, _, c, _⟩ := e; cases c)
    rw [mpv, e, e2]
    unfold bcn
    rw [Nat.sub_zero]
    omega
  | succ n ih =>
    intro hn u hu
    have hb := bcn_s (br := br) (show n < P.toNat by omega)
    have i10 : P.toNat - (n + 1) < 10 := by omega
    obtain ⟨S0, hS0⟩ := ih (by omega) hu
    have up : ∀ {S : Nat → Bool}, SBS P br n S → SBS P br (n + 1) S := fun h k hk hk2 => by
      have := h k hk hk2
      exact ⟨this.1, by omega, this.2.2⟩
    by_cases hbr : br (P.toNat - (n + 1)) = true
    · rw [if_pos hbr] at hb
      by_cases hm : mpv P kn br fr (n + 1) u = mpv P kn br fr n u
      · -- nobody can be added: all whom i knows are taken by tight sets
        have hle : ∀ o, o < P.toNat → (bt (kn (P.toNat - (n + 1))) o && fr o && !bt u o) = true → 1 + mpv P kn br fr n (ior u (ishl 1 (o : Int))) ≤ mpv P kn br fr n u := fun o ho hc => by
          have := mpo_c (v := mpv P kn br fr n) (kni := kn (P.toNat - (n + 1))) (fr := fr) (u := u) (base := mpv P kn br fr n u) (k := P.toNat) ho hc
          rw [mpv, if_pos hbr] at hm
          omega
        have one : ∀ o, o < P.toNat → (bt (kn (P.toNat - (n + 1))) o && fr o && !bt u o) = true → ∃ T, TGT P kn br fr n u T ∧ nbh P kn fr u T o = true := fun o ho hc => by
          have ho10 : o < 10 := by omega
          obtain ⟨T, hT1, hT2⟩ := ih (by omega) (or1_b hu ho10).1
          have a1 := hle o ho hc
          have a2 := bar_wk (kn := kn) (fr := fr) hP n (by omega) hu hT1
          have nu := nbh_u (P := P) (kn := kn) (fr := fr) (S := T) hu ho10
          cases e : nbh P kn fr u T o with
          | true =>
            have a3 : pn (nbh P kn fr u T) 10 = pn (nbh P kn fr (ior u (ishl 1 (o : Int))) T) 10 + 1 := pn_up ho10 (fun k hk hne => (nu.2.2 k hk hne).symm) nu.2.1 e
            exact ⟨T, ⟨hT1, by omega⟩, e⟩
          | false =>
            have a3 : pn (nbh P kn fr u T) 10 = pn (nbh P kn fr (ior u (ishl 1 (o : Int))) T) 10 := pn_eq (fun k hk => by
              by_cases c : k = o
              · rw [c, e, nu.2.1]
              · exact (nu.2.2 k hk c).symm)
            omega
        have all : ∀ k, k ≤ P.toNat → ∃ T, TGT P kn br fr n u T ∧ ∀ o, o < k → (bt (kn (P.toNat - (n + 1))) o && fr o && !bt u o) = true → nbh P kn fr u T o = true := by
          intro k
          induction k with
          | zero => intro _; exact ⟨S0, hS0, fun o ho => by omega⟩
          | succ k ihk =>
            intro hk
            obtain ⟨T, hT, hA⟩ := ihk (by omega)
            by_cases hc : (bt (kn (P.toNat - (n + 1))) k && fr k && !bt u k) = true
            · obtain ⟨T2, hT2, hk2⟩ := one k (by omega) hc
              refine ⟨fun j => T j || T2 j, tgt_uni hP (by omega) hu hT hT2, fun o ho hco => ?_⟩
              have pick : nbh P kn fr u T o = true ∨ nbh P kn fr u T2 o = true := by
                by_cases c : o = k
                · rw [c]; exact Or.inr hk2
                · exact Or.inl (hA o (by omega) hco)
              rw [nbh_t]
              rcases pick with h | h
              · rw [nbh_t] at h
                obtain ⟨x1, x2, i, hi, x3, x4⟩ := h
                exact ⟨x1, x2, i, hi, by rw [x3]; rfl, x4⟩
              · rw [nbh_t] at h
                obtain ⟨x1, x2, i, hi, x3, x4⟩ := h
                exact ⟨x1, x2, i, hi, by rw [x3, Bool.or_true], x4⟩
            · refine ⟨T, hT, fun o ho hco => ?_⟩
              by_cases c : o = k
              · rw [c] at hco; exact absurd hco hc
              · exact hA o (by omega) hco
        obtain ⟨T, ⟨hT1, hT2⟩, hA⟩ := all P.toNat (Nat.le_refl _)
        have hTi : T (P.toNat - (n + 1)) = false := by
          cases e : T (P.toNat - (n + 1)) with
          | false => rfl
          | true => have := hT1 _ i10 e; omega
        refine ⟨fun k => T k || decide (k = P.toNat - (n + 1)), fun k hk h => ?_, ?_⟩
        · rcases Bool.or_eq_true _ _ ▸ h with h | h
          · exact up hT1 k hk h
          · rw [of_decide_eq_true h]; exact ⟨hbr, by omega, by omega⟩
        · have e1 : pn (fun k => T k || decide (k = P.toNat - (n + 1))) 10 = pn T 10 + 1 := pn_up i10 (fun k _ hk => by simp [hk]) hTi (by simp)
          have e2 : pn (nbh P kn fr u (fun k => T k || decide (k = P.toNat - (n + 1)))) 10 = pn (nbh P kn fr u T) 10 := by
            refine Nat.le_antisymm (pn_mono (fun o ho h => ?_)) (nbh_w hP (fun k _ h => by show (T k || _) = true; rw [h]; rfl))
            rw [nbh_t] at h
            obtain ⟨x1, x2, i, hi, x3, x4⟩ := h
            rcases Bool.or_eq_true _ _ ▸ x3 with h | h
            · exact nbh_t.mpr ⟨x1, x2, i, hi, h, x4⟩
            · rw [of_decide_eq_true h] at x4
              have := hf o ho x1
              exact hA o (by omega) (by rw [x4, x1, x2]; rfl)
          rw [e1, e2, hm]
          omega
      · -- somebody can: what was tight stays so
        refine ⟨S0, up hS0.1, ?_⟩
        have a1 := bar_wk (kn := kn) (fr := fr) hP (n + 1) hn hu (up hS0.1)
        have a2 := mpv_s P kn br fr n u
        have := hS0.2
        omega
    · rw [if_neg hbr] at hb
      refine ⟨S0, up hS0.1, ?_⟩
      rw [mpv, if_neg hbr]
      have := hS0.2
      omega
