/-! STATES, NEVER, MOST, REACH, FEWEST -/
theorem bcx (z : Int) (u : Wd) : PC (f_JI_bitCount z u) (fun _ v => v = u) := by
  show PC (some (bcI z, u)) _
  exact pc_some rfl
theorem gx_pc {P g se : Int} {h kn : Nat → Int} {x0 : Int} {X : Nat → Int} {w u : Wd} (hP : 0 ≤ P ∧ P ≤ 10) (hx : XOK P g se h kn x0 X w) (h0 : u 43 0 = P) (h63 : u 63 = w 63) {k : Int} (hk : 0 ≤ k ∧ k < w 43 40) : PC (f_R_guestsIn k u) (fun r v => v = u ∧ B10 r (gs P (sof (X k.toNat)))) := by
  obtain ⟨h1, h2⟩ := hx.1 k.toNat (by omega)
  have := gsIn_pc (P := P) (s := sof (X k.toNat)) (w := u) (t := k.toNat) hP h0 h1.1.2.2 (by rw [h63]; exact h2)
  rw [show ((k.toNat : Nat) : Int) = k by omega] at this
  exact this
theorem er_states {a w : Wd} {P g se : Int} {h kn : Nat → Int} {x0 n : Int} (hp : PRM a w P g se h kn x0) (hG : G [] a a) (hs : SCR n w) (hn : n ≤ 2600) (hk : w 28 9 ≠ 0 → KPT P g se h kn x0 w) : PC (f_E_states w) (fun r _ => PC (f_R_states a) (fun r' _ => r = r')) := by
  have hP := hp.1
  unfold f_E_states f_R_states
  refine pc_w (two_run (A := fun r => ∃ u, CLI P g se h kn x0 u ∧ r = u 28 7) (B := fun r => ∃ u, RLI P g se h kn x0 u ∧ r = u 43 40) hp hG hs hn hk (fun u hu _ hc => ?_) (fun y u ey hf hg hr => ?_) (fun r r' hA hB => ?_)) (fun r _ q => pc_lw (fun y ey => q y ey))
  · have l25 : ∀ (n : Nat) {v1 v2 : Int}, 0 ≤ v2 → v2 ≤ u 28 7 → PC (f_E_states_25 n v1 v2 u) (fun r _ => r = u 28 7) := by
      intro n
      induction n with
      | zero => intros; exact pc_none
      | succ n ih =>
        intro v1 v2 i2 i2'
        rw [f_E_states_25]
        have h3000 := hc.1
        refine pc_ite (fun c => ?_) (fun c => ?_)
        · refine pc_call (cmg_pc hc rfl rfl) (fun r3 u4 q => ?_)
          rw [q.1]
          refine pc_call (nt2 v1 r3 u) (fun r5 u6 q2 => pc_some ?_)
          rw [q2 28 (by decide) (by decide)]
        · refine pc_call (cg_pc hc rfl rfl ⟨i2, by omega⟩) (fun r7 u8 q => ?_)
          rw [q.1]
          unfold f_E_states_53
          refine pc_ite (fun _ => pc_let (fun x9 _ => pc_let (fun x10 e10 => ?_))) (fun _ => pc_let (fun x9 _ => pc_let (fun x10 e10 => ?_)))
          · rw [w32_id (by omega)] at e10
            rw [e10]; exact ih (by omega) (by omega)
          · rw [w32_id (by omega)] at e10
            rw [e10]; exact ih (by omega) (by omega)
    exact pc_w (l25 FU (by decide) hc.1.1) (fun r _ e => ⟨u, hc, e⟩)
  · obtain ⟨X, hx⟩ := rli_x hP hr
    have u0 : u 43 0 = P := by rw [hf.2 0 (by decide) (by decide) (by decide), ey, st_k (by decide)]; exact hp.2.2.2.2.1.1
    have l22 : ∀ (n : Nat) {v1 v2 v3 : Int}, 0 ≤ v3 → v3 ≤ u 43 40 → PC (f_R_states_22 n v1 v2 v3 u) (fun r _ => r = u 43 40) := by
      intro n
      induction n with
      | zero => intros; exact pc_none
      | succ n ih =>
        intro v1 v2 v3 i3 i3'
        rw [f_R_states_22]
        have h3000 := hr.1
        refine pc_ite (fun c => ?_) (fun c => ?_)
        · refine pc_lw (fun u4 e4 => pc_call (rt1 v1 u4) (fun r5 u6 q => pc_call (rt1 v2 u6) (fun r7 u8 q2 => pc_some ?_)))
          rw [q2 43 40 (by decide) (by decide), q 43 40 (by decide) (by decide), e4, st_k (by decide)]
        · refine pc_call (gx_pc hP hx u0 rfl ⟨i3, by omega⟩) (fun r9 u10 q => ?_)
          rw [q.1]
          refine pc_call (bcx _ u) (fun r11 u12 q2 => ?_)
          rw [q2]
          unfold f_R_states_51
          refine pc_ite (fun _ => pc_let (fun _ _ => pc_let (fun _ _ => pc_let (fun x e => ?_)))) (fun _ => pc_let (fun _ _ => pc_let (fun _ _ => pc_let (fun x e => ?_))))
          · rw [w32_id (by omega)] at e
            rw [e]; exact ih (by omega) (by omega)
          · rw [w32_id (by omega)] at e
            rw [e]; exact ih (by omega) (by omega)
    exact pc_w (l22 FU (by decide) (by have := hr.1; omega)) (fun r _ e => ⟨u, hr, e⟩)
  · obtain ⟨u, hc, e⟩ := hA
    obtain ⟨u', hr, e'⟩ := hB
    rw [e, e']
    exact cli_rli_n hP hc hr
theorem run_5 {P g se : Int} {h kn : Nat → Int} {x0 : Int} {w u : Wd} (hr : RUN P g se h kn x0 w u) : u 5 = w 5 ∧ u 6 = w 6 ∧ u 7 = w 7 := ⟨hr.1 5 (by decide) (by decide) (by decide) (by decide) (by decide) (by decide) (by decide) (by decide) (by decide) (by decide) (by decide), hr.1 6 (by decide) (by decide) (by decide) (by decide) (by decide) (by decide) (by decide) (by decide) (by decide) (by decide) (by decide), hr.1 7 (by decide) (by decide) (by decide) (by decide) (by decide) (by decide) (by decide) (by decide) (by decide) (by decide) (by decide)⟩
theorem er_never {a w : Wd} {P g se : Int} {h kn : Nat → Int} {x0 n : Int} (hp : PRM a w P g se h kn x0) (hG : G [] a a) (hs : SCR n w) (hn : n ≤ 2600) (hk : w 28 9 ≠ 0 → KPT P g se h kn x0 w) : PC (f_E_never w) (fun r _ => PC (f_R_never a) (fun r' _ => r = r')) := by
  obtain ⟨hP, hg, h0, hw, ⟨c0, _⟩, c47, _⟩ := id hp
  unfold f_E_never f_R_never
  refine pc_w (two_run (A := fun r => (0 ≤ r ∧ r ≤ 1023) ∧ ∀ q, q < 10 → (bt r q = true ↔ (sr P (sof x0) q = true ∧ ¬ ∃ x, VLS P g se h kn x0 x ∧ gs P (sof x) q = true))) (B := fun r => (0 ≤ r ∧ r ≤ 1023) ∧ ∀ q, q < 10 → (bt r q = true ↔ (sr P (sof x0) q = true ∧ ¬ ∃ x, VLS P g se h kn x0 x ∧ gs P (sof x) q = true))) hp hG hs hn hk (fun u hu _ hc => ?_) (fun y u ey hf hg' hr => ?_) (fun r r' hA hB => ?_)) (fun r _ q => pc_lw (fun y ey => q y ey))
  · have l25 : ∀ (n : Nat) {v1 v2 : Int}, 0 ≤ v2 → v2 ≤ u 28 7 → OrI (u 30) v2 (fun _ => True) (fun x => gs P (sof x)) v1 → PC (f_E_never_25 n v1 v2 u) (fun r _ => (0 ≤ r ∧ r ≤ 1023) ∧ ∀ q, q < 10 → (bt r q = true ↔ (sr P (sof x0) q = true ∧ ¬ ∃ x, VLS P g se h kn x0 x ∧ gs P (sof x) q = true))) := by
      intro n
      induction n with
      | zero => intros; exact pc_none
      | succ n ih =>
        intro v1 v2 i2 i2' hO
        rw [f_E_never_25]
        have h3000 := hc.1
        refine pc_ite (fun c => ?_) (fun c => ?_)
        · rw [show v2 = u 28 7 by omega] at hO
          refine pc_call (es_e (P := P) (s := sof x0) (by rw [(run_5 hu).1, hw.2.2.2.2.1]; exact h0) hP (by rw [(run_5 hu).1]; exact hw.1)) (fun r3 u4 q => pc_some ?_)
          have hb := b10_andn q.2 (b10_self hO.1).2
          refine ⟨hb.1, fun q' hq => ?_⟩
          have e : bt (iand r3 (ixor v1 (-1))) q' = (sr P (sof x0) q' && !bt v1 q') := hb.2 q' hq
          have ho := hO.2 q' hq
          have ex : (∃ k : Nat, (k : Int) < u 28 7 ∧ True ∧ gs P (sof (u 30 k)) q' = true) ↔ ∃ x, VLS P g se h kn x0 x ∧ gs P (sof x) q' = true := by
            constructor
            · rintro ⟨k, hk, _, b⟩; exact ⟨u 30 k, hc.2.2.1 k hk, b⟩
            · rintro ⟨x, hx, b⟩
              obtain ⟨k, hk, e⟩ := hc.2.2.2.1 x hx
              exact ⟨k, hk, trivial, by rw [e]; exact b⟩
          rw [ex] at ho
          rw [e, Bool.and_eq_true, Bool.not_eq_true', ← ho]
          simp
        · refine pc_call (cg_pc hc rfl rfl ⟨i2, by omega⟩) (fun r5 u6 q => ?_)
          rw [q.1]
          refine pc_let (fun x7 e7 => pc_let (fun x8 e8 => ?_))
          rw [w32_id (by omega)] at e8
          rw [e7, e8]
          exact ih (by omega) (by omega) (ori_y hO i2 trivial q.2)
    exact l25 FU (by decide) hc.1.1 ori_0
  · obtain ⟨X, hx⟩ := rli_x hP hr
    have u0 : u 43 0 = P := by rw [hf.2 0 (by decide) (by decide) (by decide), ey, st_k (by decide)]; exact c0
    have u47 : u 47 = a 47 := by rw [hf.1 47 (by decide) (by decide) (by decide) (by decide) (by decide) (by decide) (by decide), ey, st_row (by decide)]
    refine pc_call (rs0_e (w := u) (by omega)) (fun r4 u5 q => ?_)
    rw [q.1]
    have q2 : B10 r4 (sr P (sof x0)) := by
      have q2 := q.2
      rw [u0, u47] at q2
      refine b10_w q2 (fun k _ => ?_)
      unfold sr
      cases hp : inP P k with
      | false => rfl
      | true => rw [c47 k (inP_t hp)]
    have l25 : ∀ (n : Nat) {v1 v2 : Int}, 0 ≤ v2 → v2 ≤ u 43 40 → (0 ≤ v1 ∧ v1 ≤ 1023) → (∀ q, q < 10 → (bt v1 q = true ↔ (sr P (sof x0) q = true ∧ ¬ ∃ k : Nat, (k : Int) < v2 ∧ gs P (sof (X k)) q = true))) → PC (f_R_never_25 n v1 v2 u) (fun r _ => (0 ≤ r ∧ r ≤ 1023) ∧ ∀ q, q < 10 → (bt r q = true ↔ (sr P (sof x0) q = true ∧ ¬ ∃ x, VLS P g se h kn x0 x ∧ gs P (sof x) q = true))) := by
      intro n
      induction n with
      | zero => intros; exact pc_none
      | succ n ih =>
        intro v1 v2 i2 i2' hr1 hO
        rw [f_R_never_25]
        have h3000 := hr.1
        refine pc_ite (fun c => pc_some ⟨hr1, fun q hq => ?_⟩) (fun c => ?_)
        · rw [hO q hq]
          have ex : (∃ k : Nat, (k : Int) < v2 ∧ gs P (sof (X k)) q = true) ↔ ∃ x, VLS P g se h kn x0 x ∧ gs P (sof x) q = true := by
            constructor
            · rintro ⟨k, hk, b⟩; exact ⟨X k, (hx.1 k (by omega)).1, b⟩
            · rintro ⟨x, hx', b⟩
              obtain ⟨k, hk, e⟩ := hx.2 x hx'
              exact ⟨k, by omega, by rw [e]; exact b⟩
          rw [ex]
        · refine pc_call (gx_pc hP hx u0 rfl ⟨i2, by omega⟩) (fun r6 u7 z => ?_)
          rw [z.1]
          have hb := b10_andn (b10_self hr1) z.2.2
          refine pc_let (fun x8 e8 => pc_let (fun x9 e9 => ?_))
          rw [w32_id (by omega)] at e9
          rw [e8, e9]
          refine ih (by omega) (by omega) hb.1 (fun q hq => ?_)
          have e : bt (iand v1 (ixor r6 (-1))) q = (bt v1 q && !gs P (sof (X v2.toNat)) q) := hb.2 q hq
          rw [e, Bool.and_eq_true, Bool.not_eq_true', hO q hq]
          constructor
          · rintro ⟨⟨a1, a2⟩, a3⟩
            refine ⟨a1, fun ⟨k, hk, b⟩ => ?_⟩
            by_cases ck : (k : Int) < v2
            · exact a2 ⟨k, ck, b⟩
            · rw [show k = v2.toNat by omega, a3] at b; cases b
          · rintro ⟨a1, a2⟩
            refine ⟨⟨a1, fun ⟨k, hk, b⟩ => a2 ⟨k, by omega, b⟩⟩, ?_⟩
            cases hb2 : gs P (sof (X v2.toNat)) q with
            | false => rfl
            | true => exact absurd ⟨v2.toNat, by omega, hb2⟩ a2
    refine l25 FU (by decide) (by have := hr.1; omega) q2.1 (fun q' hq => ?_)
    rw [q2.2 q' hq]
    exact ⟨fun e => ⟨e, fun ⟨k, hk, _⟩ => by omega⟩, fun e => e.1⟩
  · refine bt_ext hA.1 hB.1 (fun k hk => ?_)
    have e1 := hA.2 k hk
    rw [← hB.2 k hk] at e1
    cases h1 : bt r k <;> cases h2 : bt r' k <;> simp [h1, h2] at e1 ⊢
theorem isw_e (v : Int) (w : Wd) : f_E_isWeek v w = some (if 0 ≤ v ∧ v ≤ 60 then 1 else 0, w) := by
  unfold f_E_isWeek
  by_cases c1 : v < 0
  · rw [if_pos c1, if_neg (by omega)]
  · rw [if_neg c1]
    by_cases c2 : 60 < v
    · rw [if_pos c2, if_neg (by omega)]
    · rw [if_neg c2, if_pos (by omega)]
theorem iswR_e (v : Int) (w : Wd) : PC (f_R_isWeeks v w) (fun r u => u = w ∧ r = if 0 ≤ v ∧ v ≤ 60 then 1 else 0) := by
  unfold f_R_isWeeks
  rw [in_e, jc_s]
  exact pc_ite (fun _ => pc_some ⟨rfl, rfl⟩) (fun _ => pc_none)
theorem er_most {a w : Wd} {P g se : Int} {h kn : Nat → Int} {x0 n v1 : Int} (hp : PRM a w P g se h kn x0) (hG : G [] a a) (hs : SCR n w) (hn : n ≤ 2600) (hk : w 28 9 ≠ 0 → KPT P g se h kn x0 w) : PC (f_E_most v1 w) (fun r _ => PC (f_R_most v1 a) (fun r' _ => r = r')) := by
  obtain ⟨hP, hg, h0, hw, ⟨c0, _⟩, c47, _⟩ := id hp
  unfold f_E_most f_R_most
  rw [isw_e, jc_s]
  by_cases hv : 0 ≤ v1 ∧ v1 ≤ 60
  · rw [if_pos hv]
    refine pc_ite (fun e => absurd e (by decide)) (fun _ => ?_)
    refine pc_w (two_week (KR := fun u => f_R_most_32 FU 0 0 0 u) (v1 := v1) (A := MaxQ (fun x => VLS P g se h kn x0 x ∧ RCX P g se h kn x0 v1.toNat x) (gn P)) (B := MaxQ (fun x => VLS P g se h kn x0 x ∧ RCX P g se h kn x0 v1.toNat x) (gn P)) hp hG hs hn hk hv (fun u hu hc => ?_) (fun y b u ey hf hwk => ?_) (fun r r' hA hB => maxq_one hA hB (fun _ => Iff.rfl))) (fun r _ q => pc_lw (fun y ey => ?_))
    · have l37 : ∀ (n : Nat) {v2 v3 v4 : Int}, 0 ≤ v4 → v4 ≤ u 28 7 → MaxI (u 30) v4 (RCX P g se h kn x0 v1.toNat) (gn P) v2 → PC (f_E_most_37 n v1 v2 v3 v4 u) (fun r _ => MaxQ (fun x => VLS P g se h kn x0 x ∧ RCX P g se h kn x0 v1.toNat x) (gn P) r) := by
        intro n
        induction n with
        | zero => intros; exact pc_none
        | succ n ih =>
          intro v2 v3 v4 i4 i4' hM
          rw [f_E_most_37]
          have h3000 := hc.1
          refine pc_ite (fun c => ?_) (fun c => ?_)
          · rw [show v4 = u 28 7 by omega] at hM
            have nt1 : ∀ (x : Int) (z : Wd), PC (f_N_tell1 x z) (fun _ _ => True) := fun _ _ _ _ _ => trivial
            exact pc_call (nt1 v3 u) (fun _ _ _ => pc_some (maxi_q hM hc.2.2.1 hc.2.2.2.1))
          · refine pc_call (cbe_pc hc rfl rfl ⟨i4, by omega⟩ hv) (fun r7 u8 q => ?_)
            rw [q.1]
            unfold f_E_most_82
            rcases q.2 with ⟨e, hR⟩ | ⟨e, hR⟩
            · refine pc_ite (fun c => by omega) (fun _ => ?_)
              refine pc_call (cg_pc hc rfl rfl ⟨i4, by omega⟩) (fun r10 u11 z => ?_)
              rw [z.1, bcs_e z.2, jc_s]
              refine pc_let (fun x14 e14 => pc_let (fun x15 _ => pc_let (fun x9 e9 => ?_)))
              rw [w32_id (by omega)] at e9
              rw [e14, e9]
              exact ih (by omega) (by omega) (maxi_y hM i4 hR)
            · refine pc_ite (fun _ => pc_let (fun x9 e9 => ?_)) (fun c => absurd e c)
              rw [w32_id (by omega)] at e9
              rw [e9]
              exact ih (by omega) (by omega) (maxi_n hM i4 hR)
      exact l37 FU (by decide) hc.1.1 maxi_0
    · obtain ⟨w1, w2, X, hx, hT⟩ := hwk
      have u0 : u 43 0 = P := by rw [w1 43 (by decide) (by decide), hf.2 0 (by decide) (by decide) (by decide), ey, st_k (by decide)]; exact c0
      have l32 : ∀ (n : Nat) {v2 v3 v4 : Int}, 0 ≤ v4 → v4 ≤ u 43 40 → MaxI X v4 (RCX P g se h kn x0 v1.toNat) (gn P) v2 → PC (f_R_most_32 n v2 v3 v4 u) (fun r _ => MaxQ (fun x => VLS P g se h kn x0 x ∧ RCX P g se h kn x0 v1.toNat x) (gn P) r) := by
        intro n
        induction n with
        | zero => intros; exact pc_none
        | succ n ih =>
          intro v2 v3 v4 i4 i4' hM
          rw [f_R_most_32]
          have h3000 := w2.1
          refine pc_ite (fun c => ?_) (fun c => ?_)
          · rw [show v4 = u 43 40 by omega] at hM
            refine pc_lw (fun u6 _ => ?_)
            exact pc_call (rt1 v3 u6) (fun _ _ _ => pc_some (maxi_q hM (fun k hk => (hx.1 k hk).1) hx.2))
          · refine pc_gd (fun _ => ?_)
            have ht := hT v4.toNat (by omega)
            have cr := csf_rg (P := P) (pr := a 44) hP hp.2.2.2.2.2.2.2.2.1 x0 (X v4.toNat)
            unfold f_R_most_74
            refine pc_ite (fun e => pc_let (fun x15 e15 => ?_)) (fun e => ?_)
            · rw [w32_id (by omega)] at e15
              rw [e15]
              exact ih (by omega) (by omega) (maxi_n hM i4 (fun hR => by have := ht.1 hR; omega))
            · have hR : RCX P g se h kn x0 v1.toNat (X v4.toNat) := Classical.byContradiction fun hR => e (ht.2 hR)
              refine pc_let (fun x9 _ => ?_)
              refine pc_call (gx_pc hP hx u0 rfl ⟨i4, by omega⟩) (fun r10 u11 z => ?_)
              rw [z.1, bcs_e z.2, jc_s]
              refine pc_let (fun x14 e14 => pc_let (fun x15 e15 => ?_))
              rw [w32_id (by omega)] at e15
              rw [e14, e15]
              exact ih (by omega) (by omega) (maxi_y hM i4 hR)
      exact l32 FU (by decide) (by have := w2.1; omega) maxi_0
    · refine pc_call (iswR_e v1 y) (fun r2 u3 z => ?_)
      rw [z.1, z.2, if_pos hv]
      exact pc_ite (fun e => absurd e (by decide)) (fun _ => q y ey)
  · rw [if_neg hv]
    refine pc_ite (fun _ => pc_some (pc_lw (fun y ey => ?_))) (fun e => absurd rfl e)
    refine pc_call (iswR_e v1 y) (fun r2 u3 z => ?_)
    rw [z.2, if_neg hv]
    exact pc_ite (fun _ => pc_some rfl) (fun e => absurd rfl e)
theorem sbg_0 {P x r : Int} (hb : B10 r (gs P (sof x))) : r ≠ 0 ↔ sbg P x := by
  rcases b10_some hb with ⟨e, hn⟩ | ⟨e, hs⟩
  · exact ⟨fun c => absurd e c, fun ⟨k, hk, e2⟩ => by rw [hn k hk] at e2; cases e2⟩
  · exact ⟨fun _ => hs, fun _ => e⟩
theorem er_reach {a w : Wd} {P g se : Int} {h kn : Nat → Int} {x0 n v1 : Int} (hp : PRM a w P g se h kn x0) (hG : G [] a a) (hs : SCR n w) (hn : n ≤ 2600) (hk : w 28 9 ≠ 0 → KPT P g se h kn x0 w) : PC (f_E_reach v1 w) (fun r _ => PC (f_R_reach v1 a) (fun r' _ => r = r')) := by
  obtain ⟨hP, hg, h0, hw, ⟨c0, _⟩, c47, _⟩ := id hp
  unfold f_E_reach f_R_reach
  rw [isw_e, jc_s]
  have nt1 : ∀ (x : Int) (z : Wd), PC (f_N_tell1 x z) (fun _ _ => True) := fun _ _ _ _ _ => trivial
  by_cases hv : 0 ≤ v1 ∧ v1 ≤ 60
  · rw [if_pos hv]
    refine pc_ite (fun e => absurd e (by decide)) (fun _ => ?_)
    refine pc_w (two_week (KR := fun u5 => jlet (w32 ((ishl 1 (u5 43 0)) - 1)) fun x6 => f_R_reach_42 FU 0 x6 0 0 u5) (v1 := v1) (A := fun r => ∃ (Y : Nat → Int) (N : Int), OrI Y N (fun x => RCX P g se h kn x0 v1.toNat x ∧ sbg P x) (fun x => gs P (sof x)) r ∧ (∀ k : Nat, (k : Int) < N → VLS P g se h kn x0 (Y k)) ∧ ∀ x, VLS P g se h kn x0 x → ∃ k : Nat, (k : Int) < N ∧ Y k = x) (B := fun r => ∃ (Y : Nat → Int) (N : Int), OrI Y N (fun x => RCX P g se h kn x0 v1.toNat x ∧ sbg P x) (fun x => gs P (sof x)) r ∧ (∀ k : Nat, (k : Int) < N → VLS P g se h kn x0 (Y k)) ∧ ∀ x, VLS P g se h kn x0 x → ∃ k : Nat, (k : Int) < N ∧ Y k = x) hp hG hs hn hk hv (fun u hu hc => ?_) (fun y b u ey hf hwk => ?_) (fun r r' hA hB => ?_)) (fun r _ q => pc_lw (fun y ey => ?_))
    · have l39 : ∀ (n : Nat) {v2 v3 v4 : Int}, 0 ≤ v4 → v4 ≤ u 28 7 → OrI (u 30) v4 (fun x => RCX P g se h kn x0 v1.toNat x ∧ sbg P x) (fun x => gs P (sof x)) v2 → PC (f_E_reach_39 n v1 v2 v3 v4 u) (fun r _ => OrI (u 30) (u 28 7) (fun x => RCX P g se h kn x0 v1.toNat x ∧ sbg P x) (fun x => gs P (sof x)) r) := by
        intro n
        induction n with
        | zero => intros; exact pc_none
        | succ n ih =>
          intro v2 v3 v4 i4 i4' hM
          rw [f_E_reach_39]
          have h3000 := hc.1
          unfold f_E_reach_100
          refine pc_ite (fun c => ?_) (fun c => ?_)
          · rw [show v4 = u 28 7 by omega] at hM
            exact pc_call (nt1 _ u) (fun _ _ _ => pc_some hM)
          · refine pc_call (cbe_pc hc rfl rfl ⟨i4, by omega⟩ hv) (fun r7 u8 q => ?_)
            rw [q.1]
            rcases q.2 with ⟨e, hR⟩ | ⟨e, hR⟩
            · refine pc_ite (fun c => by omega) (fun _ => ?_)
              refine pc_call (cg_pc hc rfl rfl ⟨i4, by omega⟩) (fun r10 u11 z => ?_)
              rw [z.1]
              have sb := sbg_0 z.2
              refine pc_ite (fun cz => pc_let (fun x9 e9 => ?_)) (fun cz => ?_)
              · rw [w32_id (by omega)] at e9
                rw [e9]
                exact ih (by omega) (by omega) (ori_n hM i4 (fun hh => absurd cz (sb.mpr hh.2)))
              · refine pc_call (cg_pc hc rfl rfl ⟨i4, by omega⟩) (fun r12 u13 z2 => ?_)
                rw [z2.1]
                refine pc_let (fun x14 e14 => ?_)
                refine pc_call (cg_pc hc rfl rfl ⟨i4, by omega⟩) (fun r15 u16 z3 => ?_)
                rw [z3.1]
                refine pc_let (fun x17 _ => pc_let (fun x9 e9 => ?_))
                rw [w32_id (by omega)] at e9
                rw [e14, e9]
                exact ih (by omega) (by omega) (ori_y hM i4 ⟨hR, sb.mp cz⟩ z2.2)
            · refine pc_ite (fun _ => pc_let (fun x9 e9 => ?_)) (fun c => absurd e c)
              rw [w32_id (by omega)] at e9
              rw [e9]
              exact ih (by omega) (by omega) (ori_n hM i4 (fun hh => hR hh.1))
      exact pc_w (l39 FU (by decide) hc.1.1 ori_0) (fun r _ hO => ⟨u 30, u 28 7, hO, hc.2.2.1, hc.2.2.2.1⟩)
    · obtain ⟨w1, w2, X, hx, hT⟩ := hwk
      have u0 : u 43 0 = P := by rw [w1 43 (by decide) (by decide), hf.2 0 (by decide) (by decide) (by decide), ey, st_k (by decide)]; exact c0
      refine pc_let (fun x6 _ => ?_)
      have l42 : ∀ (n : Nat) {v2 v3 v4 v5 : Int}, 0 ≤ v5 → v5 ≤ u 43 40 → OrI X v5 (fun x => RCX P g se h kn x0 v1.toNat x ∧ sbg P x) (fun x => gs P (sof x)) v2 → PC (f_R_reach_42 n v2 v3 v4 v5 u) (fun r _ => OrI X (u 43 40) (fun x => RCX P g se h kn x0 v1.toNat x ∧ sbg P x) (fun x => gs P (sof x)) r) := by
        intro n
        induction n with
        | zero => intros; exact pc_none
        | succ n ih =>
          intro v2 v3 v4 v5 i5 i5' hM
          rw [f_R_reach_42]
          have h3000 := w2.1
          refine pc_ite (fun c => ?_) (fun c => ?_)
          · rw [show v5 = u 43 40 by omega] at hM
            unfold f_R_reach_119
            refine pc_lw (fun u7 _ => pc_ite (fun _ => pc_call (rt1 _ u7) (fun _ _ _ => pc_some hM)) (fun _ => pc_call (rt1 _ u7) (fun _ _ _ => pc_some hM)))
          · refine pc_gd (fun _ => ?_)
            have ht := hT v5.toNat (by omega)
            have cr := csf_rg (P := P) (pr := a 44) hP hp.2.2.2.2.2.2.2.2.1 x0 (X v5.toNat)
            unfold f_R_reach_74 f_R_reach_97
            refine pc_ite (fun e => pc_ite (fun _ => pc_let (fun x14 e14 => ?_)) (fun c => absurd rfl c)) (fun e => ?_)
            · rw [w32_id (by omega)] at e14
              rw [e14]
              exact ih (by omega) (by omega) (ori_n hM i5 (fun hR => by have := ht.1 hR.1; omega))
            · have hR : RCX P g se h kn x0 v1.toNat (X v5.toNat) := Classical.byContradiction fun hR => e (ht.2 hR)
              refine pc_call (gx_pc hP hx u0 rfl ⟨i5, by omega⟩) (fun r10 u11 z => ?_)
              rw [z.1]
              have sb := sbg_0 z.2
              refine pc_ite (fun cz => pc_let (fun x14 e14 => ?_)) (fun cz => pc_let (fun x12 e12 => pc_let (fun x13 _ => pc_let (fun x14 e14 => ?_))))
              · rw [w32_id (by omega)] at e14
                rw [e14]
                exact ih (by omega) (by omega) (ori_n hM i5 (fun hh => absurd cz (sb.mpr hh.2)))
              · rw [w32_id (by omega)] at e14
                rw [e12, e14]
                exact ih (by omega) (by omega) (ori_y hM i5 ⟨hR, sb.mp cz⟩ z.2)
      exact pc_w (l42 FU (by decide) (by have := w2.1; omega) ori_0) (fun r _ hO => ⟨X, u 43 40, hO, fun k hk => (hx.1 k hk).1, hx.2⟩)
    · obtain ⟨Y, N, o1, o2, o3⟩ := hA
      obtain ⟨Y', N', o1', o2', o3'⟩ := hB
      exact ori_one o1 o1' o2 o3 o2' o3' (fun _ _ => Iff.rfl)
    · refine pc_call (iswR_e v1 y) (fun r2 u3 z => ?_)
      rw [z.1, z.2, if_pos hv]
      exact pc_ite (fun e => absurd e (by decide)) (fun _ => q y ey)
  · rw [if_neg hv]
    refine pc_ite (fun _ => pc_some (pc_lw (fun y ey => ?_))) (fun e => absurd rfl e)
    refine pc_call (iswR_e v1 y) (fun r2 u3 z => ?_)
    rw [z.2, if_neg hv]
    exact pc_ite (fun _ => pc_some rfl) (fun e => absurd rfl e)
theorem lss_e (v z : Int) (w : Wd) : f_E_less v z w = some (if v = -1 then z else imin v z, w) := by
  unfold f_E_less f_E_less_10
  by_cases c : v = -1
  · rw [if_pos c, if_pos c]
  · rw [if_neg c, if_neg c]
    have m := imin_sp v z
    by_cases c2 : v ≤ z
    · rw [if_pos c2]
      rcases m with m | m
      · omega
      · rw [m.2]
    · rw [if_neg c2]
      rcases m with m | m
      · rw [m.2]
      · omega
theorem cfg_pc {P g se : Int} {h kn : Nat → Int} {x0 : Int} {u : Wd} (hc : CLI P g se h kn x0 u) {t : Int} (ht : 0 ≤ t ∧ t ≤ 60) : PC (f_S_fewestGuests t u) (fun r v => v = u ∧ MinQ (fun x => VLS P g se h kn x0 x ∧ RCX P g se h kn x0 t.toNat x ∧ sbg P x) (gn P) (-1) r) := by
  have l4 : ∀ (n : Nat) {v2 v3 : Int}, 0 ≤ v3 → v3 ≤ u 28 7 → MinI (u 30) v3 (fun x => RCX P g se h kn x0 t.toNat x ∧ sbg P x) (gn P) (-1) v2 → PC (f_S_fewestGuests_4 n t v2 v3 u) (fun r v => v = u ∧ MinQ (fun x => VLS P g se h kn x0 x ∧ RCX P g se h kn x0 t.toNat x ∧ sbg P x) (gn P) (-1) r) := by
    intro n
    induction n with
    | zero => intros; exact pc_none
    | succ n ih =>
      intro v2 v3 i3 i3' hM
      rw [f_S_fewestGuests_4]
      have h3000 := hc.1
      unfold f_S_fewestGuests_42
      refine pc_ite (fun c => pc_some ⟨rfl, ?_⟩) (fun c => ?_)
      · rw [show v3 = u 28 7 by omega] at hM
        exact mini_q hM hc.2.2.1 hc.2.2.2.1
      · refine pc_call (cbe_pc hc rfl rfl ⟨i3, by omega⟩ ht) (fun r1 u2 q => ?_)
        rw [q.1]
        rcases q.2 with ⟨e, hR⟩ | ⟨e, hR⟩
        · refine pc_ite (fun c => by omega) (fun _ => ?_)
          refine pc_call (cg_pc hc rfl rfl ⟨i3, by omega⟩) (fun r4 u5 z => ?_)
          rw [z.1]
          have sb := sbg_0 z.2
          refine pc_ite (fun cz => pc_let (fun x9 e9 => ?_)) (fun cz => ?_)
          · rw [w32_id (by omega)] at e9
            rw [e9]
            exact ih (by omega) (by omega) (mini_n hM i3 (fun hh => absurd cz (sb.mpr hh.2)))
          · refine pc_call (cg_pc hc rfl rfl ⟨i3, by omega⟩) (fun r6 u7 z2 => ?_)
            rw [z2.1, bcs_e z2.2, jc_s, lss_e, jc_s]
            refine pc_let (fun x9 e9 => ?_)
            rw [w32_id (by omega)] at e9
            rw [e9]
            refine ih (by omega) (by omega) (mini_y hM i3 ⟨hR, sb.mp cz⟩ (fun k _ _ => by have := gn_rg P (u 30 k); omega) ⟨fun e2 => by rw [if_pos e2]; rfl, fun e2 => by rw [if_neg e2]; rfl⟩)
        · refine pc_ite (fun _ => pc_let (fun x9 e9 => ?_)) (fun c => absurd e c)
          rw [w32_id (by omega)] at e9
          rw [e9]
          exact ih (by omega) (by omega) (mini_n hM i3 (fun hh => hR hh.1))
  unfold f_S_fewestGuests
  exact l4 FU (by decide) hc.1.1 mini_0
theorem er_fewest {a w : Wd} {P g se : Int} {h kn : Nat → Int} {x0 n v1 : Int} (hp : PRM a w P g se h kn x0) (hG : G [] a a) (hs : SCR n w) (hn : n ≤ 2600) (hk : w 28 9 ≠ 0 → KPT P g se h kn x0 w) : PC (f_E_fewest v1 w) (fun r _ => PC (f_R_fewest v1 a) (fun r' _ => r = r')) := by
  obtain ⟨hP, hg, h0, hw, ⟨c0, _⟩, c47, _⟩ := id hp
  unfold f_E_fewest f_R_fewest
  rw [isw_e, jc_s]
  by_cases hv : 0 ≤ v1 ∧ v1 ≤ 60
  · rw [if_pos hv]
    refine pc_ite (fun e => absurd e (by decide)) (fun _ => ?_)
    refine pc_w (two_week (KR := fun u5 => f_R_fewest_31 FU 1000000 0 u5) (v1 := v1) (A := fun r => ∃ m, MinQ (fun x => VLS P g se h kn x0 x ∧ RCX P g se h kn x0 v1.toNat x ∧ sbg P x) (gn P) (-1) m ∧ r = if m = -1 then -2 else m) (B := fun r => ∃ m, MinQ (fun x => VLS P g se h kn x0 x ∧ RCX P g se h kn x0 v1.toNat x ∧ sbg P x) (gn P) 1000000 m ∧ r = if m = 1000000 then -2 else m) hp hG hs hn hk hv (fun u hu hc => ?_) (fun y b u ey hf hwk => ?_) (fun r r' hA hB => ?_)) (fun r _ q => pc_lw (fun y ey => ?_))
    · refine pc_call (cfg_pc hc hv) (fun r5 u6 z => ?_)
      refine pc_ite (fun e => pc_some ⟨r5, z.2, by rw [if_pos e]⟩) (fun e => pc_some ⟨r5, z.2, by rw [if_neg e]⟩)
    · obtain ⟨w1, w2, X, hx, hT⟩ := hwk
      have u0 : u 43 0 = P := by rw [w1 43 (by decide) (by decide), hf.2 0 (by decide) (by decide) (by decide), ey, st_k (by decide)]; exact c0
      have l31 : ∀ (n : Nat) {v2 v3 : Int}, 0 ≤ v3 → v3 ≤ u 43 40 → MinI X v3 (fun x => RCX P g se h kn x0 v1.toNat x ∧ sbg P x) (gn P) 1000000 v2 → PC (f_R_fewest_31 n v2 v3 u) (fun r _ => ∃ m, MinQ (fun x => VLS P g se h kn x0 x ∧ RCX P g se h kn x0 v1.toNat x ∧ sbg P x) (gn P) 1000000 m ∧ r = if m = 1000000 then -2 else m) := by
        intro n
        induction n with
        | zero => intros; exact pc_none
        | succ n ih =>
          intro v2 v3 i3 i3' hM
          rw [f_R_fewest_31]
          have h3000 := w2.1
          unfold f_R_fewest_72
          refine pc_ite (fun c => ?_) (fun c => ?_)
          · rw [show v3 = u 43 40 by omega] at hM
            have hq := mini_q hM (fun k hk => (hx.1 k hk).1) hx.2
            refine pc_ite (fun e => pc_some ⟨v2, hq, by rw [if_pos e]⟩) (fun e => pc_some ⟨v2, hq, by rw [if_neg e]⟩)
          · refine pc_gd (fun _ => ?_)
            have ht := hT v3.toNat (by omega)
            have cr := csf_rg (P := P) (pr := a 44) hP hp.2.2.2.2.2.2.2.2.1 x0 (X v3.toNat)
            refine pc_ite (fun e => pc_let (fun x6 e6 => ?_)) (fun e => ?_)
            · rw [w32_id (by omega)] at e6
              rw [e6]
              exact ih (by omega) (by omega) (mini_n hM i3 (fun hR => by have := ht.1 hR.1; omega))
            · have hR : RCX P g se h kn x0 v1.toNat (X v3.toNat) := Classical.byContradiction fun hR => e (by rw [ht.2 hR]; exact Int.le_refl _)
              refine pc_call (gx_pc hP hx u0 rfl ⟨i3, by omega⟩) (fun r7 u8 z => ?_)
              rw [z.1]
              have sb := sbg_0 z.2
              refine pc_ite (fun cz => pc_let (fun x6 e6 => ?_)) (fun cz => ?_)
              · rw [w32_id (by omega)] at e6
                rw [e6]
                exact ih (by omega) (by omega) (mini_n hM i3 (fun hh => absurd cz (sb.mpr hh.2)))
              · refine pc_call (gx_pc hP hx u0 rfl ⟨i3, by omega⟩) (fun r9 u10 z2 => ?_)
                rw [z2.1, bcs_e z2.2, jc_s]
                refine pc_let (fun x13 e13 => pc_let (fun x6 e6 => ?_))
                rw [w32_id (by omega)] at e6
                rw [e13, e6]
                have gr := gn_rg P (X v3.toNat)
                refine ih (by omega) (by omega) (mini_y hM i3 ⟨hR, sb.mp cz⟩ (fun k _ _ => by have := gn_rg P (X k); omega) ⟨fun e2 => ?_, fun e2 => rfl⟩)
                have m := imin_sp v2 (gn P (X v3.toNat))
                show imin v2 (gn P (X v3.toNat)) = gn P (X v3.toNat)
                omega
      exact l31 FU (by decide) (by have := w2.1; omega) mini_0
    · obtain ⟨m, m1, m2⟩ := hA
      obtain ⟨m', m1', m2'⟩ := hB
      rcases minq_one m1 m1' (fun _ => Iff.rfl) with ⟨e1, e2, _⟩ | ⟨e1, x, _, ex⟩
      · rw [m2, m2', if_pos e1, if_pos e2]
      · have := gn_rg P x
        rw [m2, m2', if_neg (by omega), if_neg (by omega)]; exact e1
    · refine pc_call (iswR_e v1 y) (fun r2 u3 z => ?_)
      rw [z.1, z.2, if_pos hv]
      exact pc_ite (fun e => absurd e (by decide)) (fun _ => q y ey)
  · rw [if_neg hv]
    refine pc_ite (fun _ => pc_some (pc_lw (fun y ey => ?_))) (fun e => absurd rfl e)
    refine pc_call (iswR_e v1 y) (fun r2 u3 z => ?_)
    rw [z.2, if_neg hv]
    exact pc_ite (fun _ => pc_some rfl) (fun e => absurd rfl e)
