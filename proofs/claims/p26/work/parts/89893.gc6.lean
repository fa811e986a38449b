/-! BOTH, SOONEST, CROWD -/
theorem areE_pc {P v1 v2 : Int} {w : Wd} (h3 : w 5 3 = P) : PC (f_E_areTwo v1 v2 w) (fun r u => u = w ∧ r = if (0 ≤ v1 ∧ v1 < P) ∧ (0 ≤ v2 ∧ v2 < P) ∧ v1 ≠ v2 then 1 else 0) := by
  unfold f_E_areTwo
  refine pc_ite (fun c => pc_some ⟨rfl, ?_⟩) (fun c => ?_)
  · rw [if_neg (fun hh => hh.2.2 c)]
  refine pc_call (it_pc v1 w) (fun r1 u2 q => ?_)
  rw [q.1, q.2, h3]
  unfold hd
  by_cases c1 : 0 ≤ v1 ∧ v1 < P
  · rw [if_pos c1]
    refine pc_ite (fun e => absurd e (by decide)) (fun _ => ?_)
    refine pc_call (it_pc v2 w) (fun r3 u4 q3 => ?_)
    rw [q3.1, q3.2, h3]
    unfold hd
    by_cases c2 : 0 ≤ v2 ∧ v2 < P
    · rw [if_pos c2]
      refine pc_ite (fun e => absurd e (by decide)) (fun _ => pc_some ⟨rfl, ?_⟩)
      rw [if_pos ⟨c1, c2, c⟩]
    · rw [if_neg c2]
      refine pc_ite (fun _ => pc_some ⟨rfl, ?_⟩) (fun e => absurd rfl e)
      rw [if_neg (fun hh => c2 hh.2.1)]
  · rw [if_neg c1]
    refine pc_ite (fun _ => pc_some ⟨rfl, ?_⟩) (fun e => absurd rfl e)
    rw [if_neg (fun hh => c1 hh.1)]
theorem areR_pc {P v1 v2 : Int} {y : Wd} (hP : 0 ≤ P ∧ P ≤ 10) (y0 : y 43 0 = P) : PC (f_R_areTwo v1 v2 y) (fun r u => u = y ∧ r = if (0 ≤ v1 ∧ v1 < P) ∧ (0 ≤ v2 ∧ v2 < P) ∧ v1 ≠ v2 then 1 else 0) := by
  unfold f_R_areTwo
  refine pc_call (io_pc v1 y (by omega)) (fun r1 u2 q => ?_)
  rw [q.1, q.2, y0]
  unfold hd
  by_cases c1 : 0 ≤ v1 ∧ v1 < P
  · rw [if_pos c1]
    refine pc_ite (fun e => absurd e (by decide)) (fun _ => ?_)
    refine pc_call (io_pc v2 y (by omega)) (fun r3 u4 q3 => ?_)
    rw [q3.1, q3.2, y0]
    unfold hd
    by_cases c2 : 0 ≤ v2 ∧ v2 < P
    · rw [if_pos c2]
      refine pc_ite (fun e => absurd e (by decide)) (fun _ => ?_)
      refine pc_ite (fun c => pc_some ⟨rfl, ?_⟩) (fun c => pc_some ⟨rfl, ?_⟩)
      · rw [if_neg (fun hh => hh.2.2 c)]
      · rw [if_pos ⟨c1, c2, c⟩]
    · rw [if_neg c2]
      refine pc_ite (fun _ => pc_some ⟨rfl, ?_⟩) (fun e => absurd rfl e)
      rw [if_neg (fun hh => c2 hh.2.1)]
  · rw [if_neg c1]
    refine pc_ite (fun _ => pc_some ⟨rfl, ?_⟩) (fun e => absurd rfl e)
    rw [if_neg (fun hh => c1 hh.1)]
theorem er_both {a w : Wd} {P g se : Int} {h kn : Nat → Int} {x0 n v1 v2 v3 : Int} (hp : PRM a w P g se h kn x0) (hG : G [] a a) (hs : SCR n w) (hn : n ≤ 2600) (hk : w 28 9 ≠ 0 → KPT P g se h kn x0 w) : PC (f_E_both v1 v2 v3 w) (fun r _ => PC (f_R_both v1 v2 v3 a) (fun r' _ => r = r')) := by
  obtain ⟨hP, hg, h0, hw, ⟨c0, _⟩, c47, _, _, c44, c6⟩ := id hp
  unfold f_E_both f_R_both
  refine pc_call (areE_pc hw.1) (fun r1 u2 q => ?_)
  rw [q.1, q.2]
  have yy : ∀ y : Wd, y = st a 43 16 0 → y 43 0 = P := fun y ey => by rw [ey, st_k (by decide)]; exact c0
  by_cases ct : (0 ≤ v1 ∧ v1 < P) ∧ (0 ≤ v2 ∧ v2 < P) ∧ v1 ≠ v2
  · rw [if_pos ct]
    refine pc_ite (fun e => absurd e (by decide)) (fun _ => ?_)
    rw [isw_e, jc_s]
    by_cases hv : 0 ≤ v3 ∧ v3 ≤ 60
    · rw [if_pos hv]
      refine pc_ite (fun e => absurd e (by decide)) (fun _ => ?_)
      have b1 := b10_1 (i := v1) (by omega)
      have b2 := b10_1 (i := v2) (by omega)
      have bF := b10_or b1 b2
      refine pc_w (two_week (KR := fun u7 => f_R_both_42 FU v1 v2 1000000 0 u7) (v1 := v3) (A := fun r => ∃ m, MinQ (fun x => VLS P g se h kn x0 x ∧ RCX P g se h kn x0 v3.toNat x ∧ SUB P (fun k => decide (k = v1.toNat) || decide (k = v2.toNat)) x) (csf P (a 44) x0) (-1) m ∧ r = if m = -1 then -2 else m) (B := fun r => ∃ m, MinQ (fun x => VLS P g se h kn x0 x ∧ RCX P g se h kn x0 v3.toNat x ∧ gs P (sof x) v1.toNat = true ∧ gs P (sof x) v2.toNat = true) (csf P (a 44) x0) 1000000 m ∧ r = if m = 1000000 then -2 else m) hp hG hs hn hk hv (fun u hu hc => ?_) (fun y b u ey hf hwk => ?_) (fun r r' hA hB => ?_)) (fun r _ q => pc_lw (fun y ey => ?_))
      · obtain ⟨u5, u6, u7⟩ := run_5 hu
        refine pc_call (clp_pc (pr := a 44) hP h0 hc (by rw [u5]; exact hw.1) (by rw [u5]; exact hw.2.2.2.2.1) (fun j hj => by rw [u6]; exact ⟨c6 j hj, c44 j⟩) c44 hv bF) (fun r7 u8 z => ?_)
        refine pc_ite (fun e => pc_some ⟨r7, z.2, by rw [if_pos e]⟩) (fun e => pc_some ⟨r7, z.2, by rw [if_neg e]⟩)
      · obtain ⟨w1, w2, X, hx, hT⟩ := hwk
        have u0 : u 43 0 = P := by rw [w1 43 (by decide) (by decide), hf.2 0 (by decide) (by decide) (by decide)]; exact yy y ey
        have l42 : ∀ (n : Nat) {v4 v5 : Int}, 0 ≤ v5 → v5 ≤ u 43 40 → MinI X v5 (fun x => RCX P g se h kn x0 v3.toNat x ∧ gs P (sof x) v1.toNat = true ∧ gs P (sof x) v2.toNat = true) (csf P (a 44) x0) 1000000 v4 → PC (f_R_both_42 n v1 v2 v4 v5 u) (fun r _ => ∃ m, MinQ (fun x => VLS P g se h kn x0 x ∧ RCX P g se h kn x0 v3.toNat x ∧ gs P (sof x) v1.toNat = true ∧ gs P (sof x) v2.toNat = true) (csf P (a 44) x0) 1000000 m ∧ r = if m = 1000000 then -2 else m) := by
          intro n
          induction n with
          | zero => intros; exact pc_none
          | succ n ih =>
            intro v4 v5 i5 i5' hM
            rw [f_R_both_42]
            have h3000 := w2.1
            unfold f_R_both_91
            have v4le : v4 ≤ 1000000 := by
              rcases hM with ⟨e, _⟩ | ⟨⟨k, _, _, e⟩, _⟩
              · omega
              · have := csf_rg (P := P) (pr := a 44) hP c44 x0 (X k); omega
            refine pc_ite (fun c => ?_) (fun c => ?_)
            · rw [show v5 = u 43 40 by omega] at hM
              have hq := mini_q hM (fun k hk => (hx.1 k hk).1) hx.2
              refine pc_ite (fun e => pc_some ⟨v4, hq, by rw [if_pos e]⟩) (fun e => pc_some ⟨v4, hq, by rw [if_neg e]⟩)
            · refine pc_call (gx_pc hP hx u0 rfl ⟨i5, by omega⟩) (fun r8 u9 z => ?_)
              rw [z.1, hasR_10 u z.2 (by omega), jc_s]
              cases g1 : gs P (sof (X v5.toNat)) v1.toNat with
              | false =>
                refine pc_ite (fun _ => pc_let (fun x6 e6 => ?_)) (fun e => absurd rfl e)
                rw [w32_id (by omega)] at e6
                rw [e6]
                exact ih (by omega) (by omega) (mini_n hM i5 (fun hh => by rw [g1] at hh; cases hh.2.1))
              | true =>
                refine pc_ite (fun e => absurd e (by decide)) (fun _ => ?_)
                refine pc_call (gx_pc hP hx u0 rfl ⟨i5, by omega⟩) (fun r13 u14 z2 => ?_)
                rw [z2.1, hasR_10 u z2.2 (by omega), jc_s]
                cases g2 : gs P (sof (X v5.toNat)) v2.toNat with
                | false =>
                  refine pc_ite (fun _ => pc_let (fun x6 e6 => ?_)) (fun e => absurd rfl e)
                  rw [w32_id (by omega)] at e6
                  rw [e6]
                  exact ih (by omega) (by omega) (mini_n hM i5 (fun hh => by rw [g2] at hh; cases hh.2.2))
                | true =>
                  refine pc_ite (fun e => absurd e (by decide)) (fun _ => pc_gd (fun _ => pc_let (fun x17 e17 => pc_let (fun x6 e6 => ?_))))
                  rw [w32_id (by omega)] at e6
                  rw [e6]
                  have ht := hT v5.toNat (by omega)
                  have cr := csf_rg (P := P) (pr := a 44) hP c44 x0 (X v5.toNat)
                  by_cases hR : RCX P g se h kn x0 v3.toNat (X v5.toNat)
                  · rw [ht.1 hR] at e17
                    refine ih (by omega) (by omega) (mini_y hM i5 ⟨hR, g1, g2⟩ (fun k _ _ => by have := csf_rg (P := P) (pr := a 44) hP c44 x0 (X k); omega) ⟨fun e2 => ?_, fun _ => e17⟩)
                    have m := imin_sp v4 (csf P (a 44) x0 (X v5.toNat))
                    omega
                  · rw [ht.2 hR] at e17
                    have m := imin_sp v4 1000000
                    have e18 : x17 = v4 := by omega
                    rw [e18]
                    exact ih (by omega) (by omega) (mini_n hM i5 (fun hh => hR hh.1))
        exact l42 FU (by decide) (by have := w2.1; omega) mini_0
      · obtain ⟨m, m1, m2⟩ := hA
        obtain ⟨m', m1', m2'⟩ := hB
        have iff : ∀ x, (VLS P g se h kn x0 x ∧ RCX P g se h kn x0 v3.toNat x ∧ SUB P (fun k => decide (k = v1.toNat) || decide (k = v2.toNat)) x) ↔ (VLS P g se h kn x0 x ∧ RCX P g se h kn x0 v3.toNat x ∧ gs P (sof x) v1.toNat = true ∧ gs P (sof x) v2.toNat = true) := fun x => by
          constructor
          · rintro ⟨a1, a2, _, a4⟩
            exact ⟨a1, a2, a4 v1.toNat (by omega) (by simp), a4 v2.toNat (by omega) (by simp)⟩
          · rintro ⟨a1, a2, a3, a4⟩
            refine ⟨a1, a2, ⟨v1.toNat, by omega, a3⟩, fun q hq hF => ?_⟩
            have hF2 : (decide (q = v1.toNat) || decide (q = v2.toNat)) = true := hF
            rw [Bool.or_eq_true, decide_eq_true_iff, decide_eq_true_iff] at hF2
            rcases hF2 with e | e
            · rw [e]; exact a3
            · rw [e]; exact a4
        rcases minq_one m1 m1' iff with ⟨e1, e2, _⟩ | ⟨e1, x, _, ex⟩
        · rw [m2, m2', if_pos e1, if_pos e2]
        · have := csf_rg (P := P) (pr := a 44) hP c44 x0 x
          rw [m2, m2', if_neg (by omega), if_neg (by omega)]; exact e1
      · refine pc_call (areR_pc hP (yy y ey)) (fun r2 u3 z => ?_)
        rw [z.1, z.2, if_pos ct]
        refine pc_ite (fun e => absurd e (by decide)) (fun _ => ?_)
        refine pc_call (iswR_e v3 y) (fun r4 u5 z2 => ?_)
        rw [z2.1, z2.2, if_pos hv]
        exact pc_ite (fun e => absurd e (by decide)) (fun _ => q y ey)
    · rw [if_neg hv]
      refine pc_ite (fun _ => pc_some (pc_lw (fun y ey => ?_))) (fun e => absurd rfl e)
      refine pc_call (areR_pc hP (yy y ey)) (fun r2 u3 z => ?_)
      rw [z.1, z.2, if_pos ct]
      refine pc_ite (fun e => absurd e (by decide)) (fun _ => ?_)
      refine pc_call (iswR_e v3 y) (fun r4 u5 z2 => ?_)
      rw [z2.2, if_neg hv]
      exact pc_ite (fun _ => pc_some rfl) (fun e => absurd rfl e)
  · rw [if_neg ct]
    refine pc_ite (fun _ => pc_some (pc_lw (fun y ey => ?_))) (fun e => absurd rfl e)
    refine pc_call (areR_pc hP (yy y ey)) (fun r2 u3 z => ?_)
    rw [z.2, if_neg ct]
    exact pc_ite (fun _ => pc_some rfl) (fun e => absurd rfl e)
/-- the first WEEK of all -/
def FsW (T : Nat → Prop) (d r : Int) : Prop := (r = d ∧ ∀ t, ¬ T t) ∨ (0 ≤ r ∧ T r.toNat ∧ ∀ t, T t → r ≤ (t : Int))
theorem fsw_one {T T' : Nat → Prop} {d r r' : Int} (h : FsW T d r) (h' : FsW T' d r') (e : ∀ t, T t ↔ T' t) : r = r' := by
  rcases h with ⟨h1, h2⟩ | ⟨h1, h2, h3⟩
  · rcases h' with ⟨g1, g2⟩ | ⟨g1, g2, g3⟩
    · omega
    · exact absurd ((e _).mpr g2) (h2 _)
  · rcases h' with ⟨g1, g2⟩ | ⟨g1, g2, g3⟩
    · exact absurd ((e _).mp h2) (g2 _)
    · have a := g3 _ ((e _).mp h2)
      have b := h3 _ ((e _).mpr g2)
      omega
/-- one is a GUEST behind so many WEEKS -/
def ISG (P g se : Int) (h kn : Nat → Int) (x0 : Int) (i t : Nat) : Prop := ∃ x, RCX P g se h kn x0 t x ∧ gs P (sof x) i = true
theorem ith_pc {P g se : Int} {h kn : Nat → Int} {x0 : Int} {pr : Nat → Int} {n : Nat} {b u : Wd} {v1 : Int} (hP : 0 ≤ P ∧ P ≤ 10) (h0 : WH x0 (sof x0) P) (b0 : b 43 0 = P) (hpr : ∀ k, 0 ≤ pr k ∧ pr k ≤ 9) (hv : 0 ≤ v1 ∧ v1 < P) (hw : WKS P g se h kn x0 pr n b u) : PC (f_R_isThere v1 u) (fun r v => v = u ∧ ((r = 1 ∧ ISG P g se h kn x0 v1.toNat n) ∨ (r = 0 ∧ ¬ ISG P g se h kn x0 v1.toNat n))) := by
  obtain ⟨w1, w2, X, hx, hT⟩ := hw
  have u0 : u 43 0 = P := by rw [w1 43 (by decide) (by decide)]; exact b0
  have l2 : ∀ (m : Nat) {v2 : Int}, 0 ≤ v2 → v2 ≤ u 43 40 → (∀ t : Nat, (t : Int) < v2 → RCX P g se h kn x0 n (X t) → gs P (sof (X t)) v1.toNat = false) → PC (f_R_isThere_2 m v1 v2 u) (fun r v => v = u ∧ ((r = 1 ∧ ISG P g se h kn x0 v1.toNat n) ∨ (r = 0 ∧ ¬ ISG P g se h kn x0 v1.toNat n))) := by
    intro m
    induction m with
    | zero => intros; exact pc_none
    | succ m ih =>
      intro v2 i2 i2' hN
      rw [f_R_isThere_2]
      have h3000 := w2.1
      unfold f_R_isThere_36
      refine pc_ite (fun c => pc_some ⟨rfl, Or.inr ⟨rfl, ?_⟩⟩) (fun c => ?_)
      · rintro ⟨x, a, b⟩
        obtain ⟨t, ht, e⟩ := hx.2 x ⟨rx_wh hP h0 a, n, a⟩
        have := hN t (by omega) (by rw [e]; exact a)
        rw [e, b] at this; cases this
      · refine pc_gd (fun _ => ?_)
        have ht := hT v2.toNat (by omega)
        have cr := csf_rg (P := P) (pr := pr) hP hpr x0 (X v2.toNat)
        refine pc_ite (fun e => pc_let (fun x1 e1 => ?_)) (fun e => ?_)
        · rw [w32_id (by omega)] at e1
          rw [e1]
          refine ih (by omega) (by omega) (fun t htl hR => ?_)
          by_cases c2 : (t : Int) < v2
          · exact hN t c2 hR
          · rw [show t = v2.toNat by omega] at hR
            have := ht.1 hR; omega
        · have hR : RCX P g se h kn x0 n (X v2.toNat) := Classical.byContradiction fun hR => e (by rw [ht.2 hR]; exact Int.le_refl _)
          refine pc_call (gx_pc hP hx u0 rfl ⟨i2, by omega⟩) (fun r2 u3 z => ?_)
          rw [z.1, hasR_10 u z.2 (by omega), jc_s]
          cases g1 : gs P (sof (X v2.toNat)) v1.toNat with
          | false =>
            refine pc_ite (fun _ => pc_let (fun x1 e1 => ?_)) (fun e => absurd rfl e)
            rw [w32_id (by omega)] at e1
            rw [e1]
            refine ih (by omega) (by omega) (fun t htl hR => ?_)
            by_cases c2 : (t : Int) < v2
            · exact hN t c2 hR
            · rw [show t = v2.toNat by omega]; exact g1
          | true => exact pc_ite (fun e => absurd e (by decide)) (fun _ => pc_some ⟨rfl, Or.inl ⟨rfl, X v2.toNat, hR, g1⟩⟩)
  unfold f_R_isThere
  exact l2 FU (by decide) (by have := w2.1; omega) (fun t ht => by omega)
theorem er_soonest {a w : Wd} {P g se : Int} {h kn : Nat → Int} {x0 n v1 : Int} (hp : PRM a w P g se h kn x0) (hG : G [] a a) (hs : SCR n w) (hn : n ≤ 2600) (hk : w 28 9 ≠ 0 → KPT P g se h kn x0 w) : PC (f_E_soonest v1 w) (fun r _ => PC (f_R_soonest v1 a) (fun r' _ => r = r')) := by
  obtain ⟨hP, hg, h0, hw, ⟨c0, _⟩, c47, _, _, c44, c6⟩ := id hp
  unfold f_E_soonest f_R_soonest
  refine pc_call (it_pc v1 w) (fun r1 u2 q => ?_)
  rw [q.1, q.2, hw.1]
  have yy : ∀ y : Wd, y = st a 43 16 0 → y 43 0 = P := fun y ey => by rw [ey, st_k (by decide)]; exact c0
  unfold hd
  by_cases ct : 0 ≤ v1 ∧ v1 < P
  · rw [if_pos ct]
    refine pc_ite (fun e => absurd e (by decide)) (fun _ => ?_)
    have sg : ∀ t, ISG P g se h kn x0 v1.toNat t → t ≤ 29 := fun t ⟨x, a, b⟩ => wk_29 hP hg h0 a ⟨v1.toNat, by omega, b⟩
    refine pc_w (two_run (KR := fun u5 => f_R_soonest_30 FU v1 0 0 u5) (A := FsW (ISG P g se h kn x0 v1.toNat) (-2)) (B := FsW (ISG P g se h kn x0 v1.toNat) (-2)) hp hG hs hn hk (fun u hu _ hc => ?_) (fun y u ey hf hg' hr => ?_) (fun r r' hA hB => fsw_one hA hB (fun _ => Iff.rfl))) (fun r _ q => pc_lw (fun y ey => ?_))
    · refine pc_call (cww_pc hc hP h0 (b10_1 (i := v1) (by omega)) b10_0) (fun r5 u6 z => ?_)
      rw [z.1]
      refine pc_call (fwk1_pc u z.2) (fun r7 u8 z2 => ?_)
      have iff : ∀ t, WKT P g se h kn x0 (fun k => decide (k = v1.toNat)) (fun _ => false) t ↔ ISG P g se h kn x0 v1.toNat t := fun t => by
        constructor
        · rintro ⟨x, a1, ⟨_, a2⟩, _⟩
          exact ⟨x, a1, a2 v1.toNat (by omega) (decide_eq_true rfl)⟩
        · rintro ⟨x, a1, a2⟩
          refine ⟨x, a1, ⟨⟨v1.toNat, by omega, a2⟩, fun q hq hF => ?_⟩, fun q _ hF => by cases hF⟩
          rw [of_decide_eq_true hF]; exact a2
      rcases z2.2 with ⟨e, hno⟩ | ⟨e1, e2, e3⟩
      · refine pc_ite (fun _ => pc_some (Or.inl ⟨rfl, fun t ht => ?_⟩)) (fun c => absurd e c)
        exact hno t (by have := sg t ht; omega) ((iff t).mpr ht)
      · refine pc_ite (fun c => by omega) (fun _ => pc_some (Or.inr ⟨e1.1, (iff _).mp e2, fun t ht => e3 t ((iff t).mpr ht)⟩))
    · obtain ⟨X, hx⟩ := rli_x hP hr
      have u0 : u 43 0 = P := by rw [hf.2 0 (by decide) (by decide) (by decide)]; exact yy y ey
      have u44 : u 44 = a 44 := by rw [hf.1 44 (by decide) (by decide) (by decide) (by decide) (by decide) (by decide) (by decide), ey, st_row (by decide)]
      -- WEEKS on, till it is there
      have l79 : ∀ (m : Nat) {v3 : Int} {v : Wd}, 0 ≤ v3 → (∀ t : Nat, (t : Int) < v3 → ¬ ISG P g se h kn x0 v1.toNat t) → (∃ t, ISG P g se h kn x0 v1.toNat t) → WKS P g se h kn x0 (a 44) v3.toNat u v → PC (f_R_soonest_79 m v1 v3 v) (fun r _ => FsW (ISG P g se h kn x0 v1.toNat) (-2) r) := by
        intro m
        induction m with
        | zero => intros; exact pc_none
        | succ m ih =>
          intro v3 v i3 hno hex hwv
          rw [f_R_soonest_79]
          have b29 : v3 ≤ 29 := by
            obtain ⟨t, ht⟩ := hex
            have := sg t ht
            refine Classical.byContradiction fun hh => hno t (by omega) ht
          refine pc_call (ith_pc hP h0 u0 c44 ct hwv) (fun r8 u9 z => ?_)
          rw [z.1]
          rcases z.2 with ⟨e, hI⟩ | ⟨e, hI⟩
          · refine pc_ite (fun c => by omega) (fun _ => pc_some (Or.inr ⟨i3, hI, fun t ht => ?_⟩))
            exact Classical.byContradiction fun hh => hno t (by omega) ht
          · refine pc_ite (fun _ => ?_) (fun c => absurd e c)
            refine pc_call (wks_s hP h0 u0 u44 c44 hwv) (fun r10 u11 z2 => pc_let (fun x12 e12 => ?_))
            rw [w32_id (by omega)] at e12
            rw [e12]
            refine ih (by omega) (fun t ht hT => ?_) hex (by rw [show (v3 + 1).toNat = v3.toNat + 1 by omega]; exact z2)
            by_cases c2 : (t : Int) < v3
            · exact hno t c2 hT
            · rw [show t = v3.toNat by omega] at hT; exact hI hT
      have l30 : ∀ (m : Nat) {v2 v3 : Int}, 0 ≤ v3 → v3 ≤ u 43 40 → ((v2 = 0 ∧ ∀ k : Nat, (k : Int) < v3 → gs P (sof (X k)) v1.toNat = false) ∨ (v2 = 1 ∧ ∃ k : Nat, (k : Int) < v3 ∧ gs P (sof (X k)) v1.toNat = true)) → PC (f_R_soonest_30 m v1 v2 v3 u) (fun r _ => FsW (ISG P g se h kn x0 v1.toNat) (-2) r) := by
        intro m
        induction m with
        | zero => intros; exact pc_none
        | succ m ih =>
          intro v2 v3 i3 i3' hc
          rw [f_R_soonest_30]
          have h3000 := hr.1
          unfold f_R_soonest_54 f_R_soonest_59
          refine pc_ite (fun c => ?_) (fun c => ?_)
          · rcases hc with ⟨e, hc⟩ | ⟨e, k, hk, hc⟩
            · refine pc_ite (fun _ => pc_some (Or.inl ⟨rfl, fun t ⟨x, a1, a2⟩ => ?_⟩)) (fun c => absurd e c)
              obtain ⟨k, hk, ek⟩ := hx.2 x ⟨rx_wh hP h0 a1, t, a1⟩
              have := hc k (by omega)
              rw [ek, a2] at this; cases this
            · refine pc_ite (fun c => by omega) (fun _ => ?_)
              refine pc_call (wks_0 (pr := a 44) hP h0 hr) (fun r6 u7 z => ?_)
              refine l79 FU (by decide) (fun t ht => by omega) ?_ z
              obtain ⟨⟨_, t, ht⟩, _⟩ := hx.1 k (by omega)
              exact ⟨t, X k, ht, hc⟩
          · rcases hc with ⟨e, hc⟩ | ⟨e, k, hk, hc⟩
            · refine pc_ite (fun _ => ?_) (fun c => absurd e c)
              refine pc_call (gx_pc hP hx u0 rfl ⟨i3, by omega⟩) (fun r14 u15 z => ?_)
              rw [z.1, hasR_10 u z.2 (by omega), jc_s]
              cases g1 : gs P (sof (X v3.toNat)) v1.toNat with
              | false =>
                refine pc_ite (fun _ => pc_let (fun x e => ?_)) (fun e => absurd rfl e)
                rw [w32_id (by omega)] at e
                rw [e]
                refine ih (by omega) (by omega) (Or.inl ⟨rfl, fun k hk => ?_⟩)
                by_cases ck : (k : Int) < v3
                · exact hc k ck
                · rw [show k = v3.toNat by omega]; exact g1
              | true =>
                refine pc_ite (fun e => absurd e (by decide)) (fun _ => pc_let (fun x e => ?_))
                rw [w32_id (by omega)] at e
                rw [e]
                exact ih (by omega) (by omega) (Or.inr ⟨rfl, v3.toNat, by omega, g1⟩)
            · refine pc_ite (fun c => by omega) (fun _ => pc_let (fun x e => ?_))
              rw [w32_id (by omega)] at e
              rw [e]
              exact ih (by omega) (by omega) (Or.inr ⟨rfl, k, by omega, hc⟩)
      exact l30 FU (by decide) (by have := hr.1; omega) (Or.inl ⟨rfl, fun k hk => by omega⟩)
    · refine pc_call (io_pc v1 y (by rw [yy y ey]; exact hP)) (fun r2 u3 z => ?_)
      rw [z.1, z.2, yy y ey, show hd P v1 = 1 from if_pos ct]
      exact pc_ite (fun e => absurd e (by decide)) (fun _ => q y ey)
  · rw [if_neg ct]
    refine pc_ite (fun _ => pc_some (pc_lw (fun y ey => ?_))) (fun e => absurd rfl e)
    refine pc_call (io_pc v1 y (by rw [yy y ey]; exact hP)) (fun r2 u3 z => ?_)
    rw [z.2, yy y ey, show hd P v1 = 0 from if_neg ct]
    exact pc_ite (fun _ => pc_some rfl) (fun e => absurd rfl e)
/-- as many GUESTS -/
def ASM (P g se : Int) (h kn : Nat → Int) (x0 M : Int) (t : Nat) : Prop := ∃ x, RCX P g se h kn x0 t x ∧ gn P x = M
theorem asm_29 {P g se : Int} {h kn : Nat → Int} {x0 M : Int} (hP : 0 ≤ P ∧ P ≤ 10) (hg : 1 ≤ g ∧ g ≤ 3) (h0 : WH x0 (sof x0) P) (hM : MaxQ (VLS P g se h kn x0) (gn P) M) : ∃ t, t ≤ 29 ∧ ASM P g se h kn x0 M t := by
  by_cases c : M = 0
  · have := hM.2.1 x0 ⟨h0, 0, rfl⟩
    have := gn_rg P x0
    exact ⟨0, by decide, x0, rfl, by omega⟩
  · obtain ⟨x, ⟨_, t, ht⟩, e⟩ := hM.2.2.resolve_left c
    refine ⟨t, wk_29 hP hg h0 ht ?_, x, ht, e⟩
    refine Classical.byContradiction fun hn => c ?_
    rw [← e]
    unfold gn
    rw [pn_0 (fun k hk => by
      cases hb : gs P (sof x) k with
      | false => rfl
      | true => exact absurd ⟨k, hk, hb⟩ hn)]
    rfl
theorem lpR_pc {P g se : Int} {h kn : Nat → Int} {x0 : Int} {pr : Nat → Int} {n : Nat} {b u : Wd} {M : Int} (hP : 0 ≤ P ∧ P ≤ 10) (h0 : WH x0 (sof x0) P) (b0 : b 43 0 = P) (hpr : ∀ k, 0 ≤ pr k ∧ pr k ≤ 9) (hw : WKS P g se h kn x0 pr n b u) : PC (f_R_leastPaid M u) (fun r v => v = u ∧ ((r = 1000000 ∧ ¬ ASM P g se h kn x0 M n) ∨ (r ≠ 1000000 ∧ ASM P g se h kn x0 M n))) := by
  obtain ⟨w1, w2, X, hx, hT⟩ := hw
  have u0 : u 43 0 = P := by rw [w1 43 (by decide) (by decide)]; exact b0
  have l6 : ∀ (m : Nat) {v2 v3 : Int}, 0 ≤ v3 → v3 ≤ u 43 40 → ((v2 = 1000000 ∧ ∀ k : Nat, (k : Int) < v3 → ¬ (RCX P g se h kn x0 n (X k) ∧ gn P (X k) = M)) ∨ (v2 < 1000000 ∧ ∃ k : Nat, (k : Int) < v3 ∧ RCX P g se h kn x0 n (X k) ∧ gn P (X k) = M)) → PC (f_R_leastPaid_6 m M v2 v3 u) (fun r v => v = u ∧ ((r = 1000000 ∧ ¬ ASM P g se h kn x0 M n) ∨ (r ≠ 1000000 ∧ ASM P g se h kn x0 M n))) := by
    intro m
    induction m with
    | zero => intros; exact pc_none
    | succ m ih =>
      intro v2 v3 i3 i3' hc
      rw [f_R_leastPaid_6]
      have h3000 := w2.1
      unfold f_R_leastPaid_37
      refine pc_ite (fun c => pc_some ⟨rfl, ?_⟩) (fun c => ?_)
      · rcases hc with ⟨e, hc⟩ | ⟨e, k, hk, a1, a2⟩
        · refine Or.inl ⟨e, fun ⟨x, a1, a2⟩ => ?_⟩
          obtain ⟨k, hk, ek⟩ := hx.2 x ⟨rx_wh hP h0 a1, n, a1⟩
          exact hc k (by omega) (by rw [ek]; exact ⟨a1, a2⟩)
        · exact Or.inr ⟨by omega, X k, a1, a2⟩
      · refine pc_call (gx_pc hP hx u0 rfl ⟨i3, by omega⟩) (fun r1 u2 z => ?_)
        rw [z.1, bcs_e z.2, jc_s]
        have ht := hT v3.toNat (by omega)
        have cr := csf_rg (P := P) (pr := pr) hP hpr x0 (X v3.toNat)
        have nx : ∀ v2', ((v2' = 1000000 ∧ ∀ k : Nat, (k : Int) < v3 + 1 → ¬ (RCX P g se h kn x0 n (X k) ∧ gn P (X k) = M)) ∨ (v2' < 1000000 ∧ ∃ k : Nat, (k : Int) < v3 + 1 ∧ RCX P g se h kn x0 n (X k) ∧ gn P (X k) = M)) → PC (jlet (w32 (v3 + 1)) fun x5 => f_R_leastPaid_6 m M v2' x5 u) (fun r v => v = u ∧ ((r = 1000000 ∧ ¬ ASM P g se h kn x0 M n) ∨ (r ≠ 1000000 ∧ ASM P g se h kn x0 M n))) := fun v2' hc' => by
          refine pc_let (fun x5 e5 => ?_)
          rw [w32_id (by omega)] at e5
          rw [e5]
          exact ih (by omega) (by omega) hc'
        have keep : ¬ (RCX P g se h kn x0 n (X v3.toNat) ∧ gn P (X v3.toNat) = M) → ((v2 = 1000000 ∧ ∀ k : Nat, (k : Int) < v3 + 1 → ¬ (RCX P g se h kn x0 n (X k) ∧ gn P (X k) = M)) ∨ (v2 < 1000000 ∧ ∃ k : Nat, (k : Int) < v3 + 1 ∧ RCX P g se h kn x0 n (X k) ∧ gn P (X k) = M)) := fun hn => by
          rcases hc with ⟨e, hc⟩ | ⟨e, k, hk, a1, a2⟩
          · refine Or.inl ⟨e, fun k hk hh => ?_⟩
            by_cases ck : (k : Int) < v3
            · exact hc k ck hh
            · rw [show k = v3.toNat by omega] at hh; exact hn hh
          · exact Or.inr ⟨e, k, by omega, a1, a2⟩
        refine pc_ite (fun ce => pc_gd (fun _ => pc_let (fun x6 e6 => nx x6 ?_))) (fun ce => nx v2 (keep (fun hh => ce hh.2)))
        by_cases hR : RCX P g se h kn x0 n (X v3.toNat)
        · rw [ht.1 hR] at e6
          have m := imin_sp v2 (csf P pr x0 (X v3.toNat))
          exact Or.inr ⟨by omega, v3.toNat, by omega, hR, ce⟩
        · rw [ht.2 hR] at e6
          have m := imin_sp v2 1000000
          have e7 : x6 = v2 := by
            rcases hc with ⟨e, _⟩ | ⟨e, _⟩ <;> omega
          rw [e7]
          exact keep (fun hh => hR hh.1)
  unfold f_R_leastPaid
  exact l6 FU (by decide) (by have := w2.1; omega) (Or.inl ⟨rfl, fun k hk => by omega⟩)
theorem er_crowd {a w : Wd} {P g se : Int} {h kn : Nat → Int} {x0 n : Int} (hp : PRM a w P g se h kn x0) (hG : G [] a a) (hs : SCR n w) (hn : n ≤ 2600) (hk : w 28 9 ≠ 0 → KPT P g se h kn x0 w) : PC (f_E_crowd w) (fun r _ => PC (f_R_crowd a) (fun r' _ => r = r')) := by
  obtain ⟨hP, hg, h0, hw, ⟨c0, _⟩, c47, _, _, c44, c6⟩ := id hp
  unfold f_E_crowd f_R_crowd
  refine pc_w (two_run (A := fun r => ∃ M, MaxQ (VLS P g se h kn x0) (gn P) M ∧ FsW (ASM P g se h kn x0 M) (-1) r) (B := fun r => ∃ M, MaxQ (VLS P g se h kn x0) (gn P) M ∧ FsW (ASM P g se h kn x0 M) (-1) r) hp hG hs hn hk (fun u hu _ hc => ?_) (fun y u ey hf hg' hr => ?_) (fun r r' hA hB => ?_)) (fun r _ q => pc_lw (fun y ey => q y ey))
  · refine pc_call (cmg_pc hc rfl rfl) (fun M u4 z => ?_)
    rw [z.1]
    obtain ⟨u5, u6, u7⟩ := run_5 hu
    have h3000 := hc.1
    have l92 : ∀ (m : Nat) {v4 v5 v6 : Int}, (0 ≤ v4 ∧ v4 ≤ 60) → 0 ≤ v6 → v6 ≤ u 28 7 → PC (f_E_crowd_92 m M v4 v5 v6 u) (fun r _ => r = v4) := by
      intro m
      induction m with
      | zero => intros; exact pc_none
      | succ m ih =>
        intro v4 v5 v6 i4 i6 i6'
        rw [f_E_crowd_92]
        unfold f_E_crowd_154
        refine pc_ite (fun c => pc_call (nt2 M v5 u) (fun _ _ _ => pc_some rfl)) (fun c => ?_)
        have nx : ∀ v5', PC (jlet (w32 (v6 + 1)) fun x13 => f_E_crowd_92 m M v4 v5' x13 u) (fun r _ => r = v4) := fun v5' => by
          refine pc_let (fun x13 e13 => ?_)
          rw [w32_id (by omega)] at e13
          rw [e13]
          exact ih i4 (by omega) (by omega)
        refine pc_call (cg_pc hc rfl rfl ⟨i6, by omega⟩) (fun r9 u10 z => ?_)
        rw [z.1, bcs_e z.2, jc_s]
        refine pc_ite (fun _ => ?_) (fun _ => nx v5)
        refine pc_call (cbe_pc hc rfl rfl ⟨i6, by omega⟩ i4) (fun r14 u15 z2 => ?_)
        rw [z2.1]
        refine pc_ite (fun _ => nx v5) (fun _ => ?_)
        refine pc_call (cpf_pc (pr := a 44) hP h0 hc (by rw [u5]; exact hw.1) (by rw [u5]; exact hw.2.2.2.2.1) (fun j hj => by rw [u6]; exact ⟨c6 j hj, c44 j⟩) ⟨i6, by omega⟩) (fun r16 u17 z3 => ?_)
        rw [z3.1, lss_e, jc_s]
        exact nx _
    have l34 : ∀ (m : Nat) {v2 v4 : Int}, 0 ≤ v4 → v4 ≤ u 28 7 → (∀ t, t < 61 → (b6 v2 t = true ↔ ∃ k : Nat, (k : Int) < v4 ∧ RCX P g se h kn x0 t (u 30 k) ∧ gn P (u 30 k) = M)) → PC (f_E_crowd_34 m M v2 v4 u) (fun r _ => ∃ M, MaxQ (VLS P g se h kn x0) (gn P) M ∧ FsW (ASM P g se h kn x0 M) (-1) r) := by
      intro m
      induction m with
      | zero => intros; exact pc_none
      | succ m ih =>
        intro v2 v4 i4 i4' hM
        rw [f_E_crowd_34]
        unfold f_E_crowd_74
        refine pc_ite (fun c => ?_) (fun c => ?_)
        · have hT : ∀ t, t < 61 → (b6 v2 t = true ↔ ASM P g se h kn x0 M t) := fun t ht => by
            rw [hM t ht]
            constructor
            · rintro ⟨k, _, a1, a2⟩; exact ⟨u 30 k, a1, a2⟩
            · rintro ⟨x, a1, a2⟩
              obtain ⟨k, hk, e⟩ := hc.2.2.2.1 x ⟨rx_wh hP h0 a1, t, a1⟩
              exact ⟨k, by omega, by rw [e]; exact a1, by rw [e]; exact a2⟩
          refine pc_call (fwk1_pc u hT) (fun r5 u6 z2 => ?_)
          rw [z2.1]
          obtain ⟨t0, ht0, hA0⟩ := asm_29 hP hg h0 z.2
          rcases z2.2 with ⟨_, hno⟩ | ⟨e1, e2, e3⟩
          · exact absurd hA0 (hno t0 (by omega))
          · exact pc_w (l92 FU e1 (by decide) h3000.1) (fun r _ e => ⟨M, z.2, Or.inr ⟨by omega, by rw [e]; exact e2, by rw [e]; exact e3⟩⟩)
        · refine pc_call (cg_pc hc rfl rfl ⟨i4, by omega⟩) (fun r20 u21 z2 => ?_)
          rw [z2.1, bcs_e z2.2, jc_s]
          refine pc_ite (fun ce => ?_) (fun ce => pc_let (fun x24 e24 => ?_))
          · refine pc_call (cwk_pc hc rfl rfl ⟨i4, by omega⟩) (fun r25 u26 z3 => ?_)
            rw [z3.1, z3.2]
            refine pc_let (fun x27 e27 => pc_let (fun x24 e24 => ?_))
            rw [w32_id (by omega)] at e24
            rw [e24, e27]
            refine ih (by omega) (by omega) (fun t ht => ?_)
            rw [b6_or, Bool.or_eq_true, hM t ht, hc.2.2.2.2 v4.toNat (by omega) t ht]
            constructor
            · rintro (⟨k, hk, a1⟩ | a1)
              · exact ⟨k, by omega, a1⟩
              · exact ⟨v4.toNat, by omega, a1, ce⟩
            · rintro ⟨k, hk, a1, a2⟩
              by_cases ck : (k : Int) < v4
              · exact Or.inl ⟨k, ck, a1, a2⟩
              · rw [show k = v4.toNat by omega] at a1; exact Or.inr a1
          · rw [w32_id (by omega)] at e24
            rw [e24]
            refine ih (by omega) (by omega) (fun t ht => ?_)
            rw [hM t ht]
            constructor
            · rintro ⟨k, hk, a1⟩; exact ⟨k, by omega, a1⟩
            · rintro ⟨k, hk, a1, a2⟩
              by_cases ck : (k : Int) < v4
              · exact ⟨k, ck, a1, a2⟩
              · rw [show k = v4.toNat by omega] at a2; exact absurd a2 ce
    exact l34 FU (by decide) h3000.1 (fun t _ => by rw [b6_0]; exact ⟨(fun e => by cases e), (fun e => by obtain ⟨k, hk, _⟩ := e; omega)⟩)
  · obtain ⟨X, hx⟩ := rli_x hP hr
    have u0 : u 43 0 = P := by rw [hf.2 0 (by decide) (by decide) (by decide), ey, st_k (by decide)]; exact c0
    have u44 : u 44 = a 44 := by rw [hf.1 44 (by decide) (by decide) (by decide) (by decide) (by decide) (by decide) (by decide), ey, st_row (by decide)]
    have l20 : ∀ (m : Nat) {v1 v2 : Int}, 0 ≤ v2 → v2 ≤ u 43 40 → MaxI X v2 (fun _ => True) (gn P) v1 → PC (f_R_crowd_20 m v1 v2 u) (fun r _ => ∃ M, MaxQ (VLS P g se h kn x0) (gn P) M ∧ FsW (ASM P g se h kn x0 M) (-1) r) := by
      intro m
      induction m with
      | zero => intros; exact pc_none
      | succ m ih =>
        intro M v2 i2 i2' hM
        rw [f_R_crowd_20]
        have h3000 := hr.1
        refine pc_ite (fun c => ?_) (fun c => ?_)
        · rw [show v2 = u 43 40 by omega] at hM
          have hq0 := maxi_q hM (fun k hk => (hx.1 k hk).1) hx.2
          have hq : MaxQ (VLS P g se h kn x0) (gn P) M := by
            refine ⟨hq0.1, fun x hx => hq0.2.1 x ⟨hx, trivial⟩, ?_⟩
            rcases hq0.2.2 with e | ⟨x, hx, e⟩
            · exact Or.inl e
            · exact Or.inr ⟨x, hx.1, e⟩
          obtain ⟨t0, ht0, hA0⟩ := asm_29 hP hg h0 hq
          have l59 : ∀ (k : Nat) {v2 v3 : Int} {v : Wd}, 0 ≤ v2 → (∀ t : Nat, (t : Int) < v2 → ¬ ASM P g se h kn x0 M t) → WKS P g se h kn x0 (a 44) v2.toNat u v → ((v3 = 1000000 ∧ ¬ ASM P g se h kn x0 M v2.toNat) ∨ (v3 ≠ 1000000 ∧ ASM P g se h kn x0 M v2.toNat)) → PC (f_R_crowd_59 k M v2 v3 v) (fun r _ => ∃ M, MaxQ (VLS P g se h kn x0) (gn P) M ∧ FsW (ASM P g se h kn x0 M) (-1) r) := by
            intro k
            induction k with
            | zero => intros; exact pc_none
            | succ k ihk =>
              intro v2 v3 v i2 hno hwv hv3
              rw [f_R_crowd_59]
              have b29 : v2 ≤ 29 := by
                refine Classical.byContradiction fun hh => hno t0 (by omega) hA0
              rcases hv3 with ⟨e, hA⟩ | ⟨e, hA⟩
              · refine pc_ite (fun _ => ?_) (fun c => absurd e c)
                refine pc_call (wks_s hP h0 u0 u44 c44 hwv) (fun r13 u14 z2 => pc_let (fun x15 e15 => ?_))
                rw [w32_id (by omega)] at e15
                rw [e15]
                have z3 : WKS P g se h kn x0 (a 44) (v2 + 1).toNat u u14 := by rw [show (v2 + 1).toNat = v2.toNat + 1 by omega]; exact z2
                refine pc_call (lpR_pc (M := M) hP h0 u0 c44 z3) (fun r16 u17 z4 => ?_)
                rw [z4.1]
                refine ihk (by omega) (fun t ht hT => ?_) z3 z4.2
                by_cases c2 : (t : Int) < v2
                · exact hno t c2 hT
                · rw [show t = v2.toNat by omega] at hT; exact hA hT
              · refine pc_ite (fun c => absurd c e) (fun _ => ?_)
                refine pc_lw (fun u8 _ => pc_call (rt1 _ u8) (fun _ u10 _ => pc_call (rt1 _ u10) (fun _ _ _ => pc_some ⟨M, hq, Or.inr ⟨i2, hA, fun t ht => ?_⟩⟩)))
                exact Classical.byContradiction fun hh => hno t (by omega) ht
          refine pc_call (wks_0 (pr := a 44) hP h0 hr) (fun r4 u5 z => ?_)
          refine pc_call (lpR_pc (M := M) hP h0 u0 c44 z) (fun r6 u7 z4 => ?_)
          rw [z4.1]
          exact l59 FU (by decide) (fun t ht => by omega) z z4.2
        · refine pc_call (gx_pc hP hx u0 rfl ⟨i2, by omega⟩) (fun r18 u19 z => ?_)
          rw [z.1, bcs_e z.2, jc_s]
          refine pc_let (fun x22 e22 => pc_let (fun x23 e23 => ?_))
          rw [w32_id (by omega)] at e23
          rw [e22, e23]
          exact ih (by omega) (by omega) (maxi_y hM i2 trivial)
    exact l20 FU (by decide) (by have := hr.1; omega) maxi_0
  · obtain ⟨M, m1, m2⟩ := hA
    obtain ⟨M', m1', m2'⟩ := hB
    have e := maxq_one m1 m1' (fun _ => Iff.rfl)
    rw [← e] at m2'
    exact fsw_one m2 m2' (fun _ => Iff.rfl)
