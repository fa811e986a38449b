/-! meet, and a week that goes by -/
theorem one_pc {v : Int} {w : Wd} (h0 : 0 ≤ w 43 0 ∧ w 43 0 ≤ 10) : PC (f_R_isOne v w) (fun r u => u = w ∧ (r ≠ 0 → 0 ≤ v ∧ v < w 43 0)) := by
  unfold f_R_isOne
  have w1 := w32_sp (w 43 0 - 1)
  rw [in_e, jc_s]
  refine pc_ite (fun _ => pc_some ⟨rfl, fun h => ?_⟩) (fun _ => pc_none)
  by_cases h2 : 0 ≤ v ∧ v ≤ w32 (w 43 0 - 1)
  · omega
  · rw [if_neg h2] at h; exact absurd rfl h
theorem two_pc {a c : Int} {w : Wd} (h0 : 0 ≤ w 43 0 ∧ w 43 0 ≤ 10) : PC (f_R_areTwo a c w) (fun r u => u = w ∧ (r ≠ 0 → (0 ≤ a ∧ a < w 43 0) ∧ (0 ≤ c ∧ c < w 43 0) ∧ a ≠ c)) := by
  unfold f_R_areTwo
  refine pc_call (one_pc h0) (fun r1 u2 q => ?_)
  obtain ⟨e, q1⟩ := q
  subst e
  refine pc_ite (fun _ => pc_some ⟨rfl, fun h => absurd rfl h⟩) (fun h1 => ?_)
  refine pc_call (one_pc h0) (fun r3 u4 q => ?_)
  obtain ⟨e, q3⟩ := q
  subst e
  refine pc_ite (fun _ => pc_some ⟨rfl, fun h => absurd rfl h⟩) (fun h3 => ?_)
  refine pc_ite (fun _ => pc_some ⟨rfl, fun h => absurd rfl h⟩) (fun h5 => pc_some ⟨rfl, fun _ => ⟨q1 h1, q3 h3, h5⟩⟩)
theorem kn_meet {P : Int} {f g : Nat → Int} {a c : Nat} (hP : P ≤ 10) (ha : (a : Int) < P) (hc : (c : Int) < P) (op : Bool → Bool → Bool) (h : KN P f) (hop : ∀ x, op x false = x) (hg : ∀ k q : Nat, q < 10 → bt (g k) q = if k = a then op (bt (f k) q) (decide (q = c)) else if k = c then op (bt (f k) q) (decide (q = a)) else bt (f k) q) (hac : a ≠ c) : KN P g := by
  constructor
  · intro k q hk hq
    rw [hg k q (by omega), hg q k (by omega)]
    have e := h.1 k q hk hq
    by_cases h1 : k = a
    · have h2 : k ≠ c := fun e => hac (h1.symm.trans e)
      rw [if_pos h1]
      by_cases h3 : q = a
      · have h4 : q ≠ c := fun e => hac (h3.symm.trans e)
        rw [if_pos h3, decide_eq_false h4, decide_eq_false h2, e]
      · rw [if_neg h3]
        by_cases h4 : q = c
        · rw [if_pos h4, decide_eq_true h4, decide_eq_true h1, e]
        · rw [if_neg h4, decide_eq_false h4, hop, e]
    · rw [if_neg h1]
      by_cases h2 : k = c
      · rw [if_pos h2]
        by_cases h3 : q = a
        · rw [if_pos h3, decide_eq_true h3, decide_eq_true h2, e]
        · rw [if_neg h3, decide_eq_false h3, hop]
          by_cases h4 : q = c
          · rw [if_pos h4, decide_eq_false h1, hop, e]
          · rw [if_neg h4, e]
      · rw [if_neg h2]
        by_cases h3 : q = a
        · rw [if_pos h3, decide_eq_false h2, hop, e]
        · rw [if_neg h3]
          by_cases h4 : q = c
          · rw [if_pos h4, decide_eq_false h1, hop, e]
          · rw [if_neg h4, e]
  · intro k q hk hq hb
    rw [hg k q hq] at hb
    by_cases h1 : k = a
    · rw [if_pos h1] at hb
      by_cases h2 : q = c
      · omega
      · rw [decide_eq_false h2, hop] at hb
        exact h.2 k q hk hq hb
    · rw [if_neg h1] at hb
      by_cases h2 : k = c
      · rw [if_pos h2] at hb
        by_cases h3 : q = a
        · omega
        · rw [decide_eq_false h3, hop] at hb
          exact h.2 k q hk hq hb
      · rw [if_neg h2] at hb
        exact h.2 k q hk hq hb
theorem meet_pc {w : Wd} {v1 v2 v3 : Int} (h : RS w) : PC (f_R_meet v1 v2 v3 w) (fun _ u => IV u ∧ Kb u) := by
  obtain ⟨hG0, hI⟩ := h
  have hG : G md_R_meet w w := g_self hG0
  unfold f_R_meet
  refine pc_lw (fun u1 e1 => ?_)
  have g1 : G md_R_meet w u1 := g_st hG e1 rfl rfl (show (0 : Int) ≤ 0 ∧ (0 : Int) ≤ 1 by decide)
  have i1 := iv_st hI e1 (Or.inr ⟨rfl, by decide⟩)
  have a0 : (0 : Int) ≤ u1 43 0 ∧ u1 43 0 ≤ 10 := g1.1 43 0
  refine pc_call (two_pc a0) (fun r2 u3 q => ?_)
  obtain ⟨e, q2⟩ := q
  subst e
  refine pc_ite (fun _ => pc_some i1) (fun hr => ?_)
  obtain ⟨qa, qc, hne⟩ := q2 hr
  have hne' : v1.toNat ≠ v2.toNat := by omega
  have fin : ∀ (op : Bool → Bool → Bool) (s1 s2 : Int) (u4 u5 : Wd), (∀ x, op x false = x) → u4 = st u3 45 v1.toNat s1 → u5 = st u4 45 v2.toNat s2 → (∀ q : Nat, q < 10 → bt s1 q = op (bt (u3 45 v1.toNat) q) (decide (q = v2.toNat))) → (∀ q : Nat, q < 10 → bt s2 q = op (bt (u3 45 v2.toNat) q) (decide (q = v1.toNat))) → IV u5 ∧ Kb u5 := by
    intro op s1 s2 u4 u5 hop e4 e5 h1 h2
    have t : ∀ c k, c ≠ 45 → u5 c k = u3 c k := fun c k hc => by rw [e5, st_c hc, e4, st_c hc]
    refine ⟨iv_eq i1.1 (t 43 0 (by decide)) (t 43 8 (by decide)) (t 43 32 (by decide)) (t 43 56 (by decide)) (funext fun k => t 47 k (by decide)) (funext fun k => t 48 k (by decide)) (funext fun k => t 49 k (by decide)) (funext fun k => t 59 k (by decide)) (funext fun k => t 79 k (by decide)) (funext fun k => t 80 k (by decide)) (funext fun k => t 81 k (by decide)), ?_⟩
    have e : KN (u5 43 0) (u5 45) := by
      rw [t 43 0 (by decide)]
      refine kn_meet (a := v1.toNat) (c := v2.toNat) a0.2 (by omega) (by omega) op i1.2 hop (fun k q hq => ?_) hne'
      rw [e5]
      by_cases hk2 : k = v2.toNat
      · rw [if_neg (fun e => hne' (e.symm.trans hk2)), if_pos hk2, hk2, st_eq]; exact h2 q hq
      · rw [st_k hk2, e4]
        by_cases hk1 : k = v1.toNat
        · rw [if_pos hk1, hk1, st_eq]; exact h1 q hq
        · rw [if_neg hk1, if_neg hk2, st_k hk1]
    exact e
  refine pc_ite (fun h3 => ?_) (fun h3 => ?_)
  · refine pc_gd (fun _ => ?_)
    unfold f_R_meet_50
    refine pc_gd (fun _ => ?_)
    refine pc_lw (fun u4 e4 => ?_)
    refine pc_ite (fun _ => ?_) (fun h => absurd h3 h)
    refine pc_gd (fun _ => ?_)
    refine pc_w meet_85 (fun r u5 e5 => fin (fun x y => x && !y) _ _ u4 u5 (fun x => by simp) e4 e5 (fun q hq => ?_) (fun q hq => ?_))
    · rw [bt_and, bt_not _ (by omega), bt_shl (by omega) (by omega)]
    · rw [bt_and, bt_not _ (by omega), bt_shl (by omega) (by omega), e4, st_k (fun e => hne' e.symm)]
  · refine pc_gd (fun _ => ?_)
    unfold f_R_meet_50
    refine pc_gd (fun _ => ?_)
    refine pc_lw (fun u4 e4 => ?_)
    refine pc_ite (fun h => absurd h h3) (fun _ => ?_)
    refine pc_gd (fun _ => ?_)
    refine pc_w meet_85 (fun r u5 e5 => fin (fun x y => x || y) _ _ u4 u5 (fun x => by simp) e4 e5 (fun q hq => ?_) (fun q hq => ?_))
    · rw [bt_or, bt_shl (by omega) (by omega)]
    · rw [bt_or, bt_shl (by omega) (by omega), e4, st_k (fun e => hne' e.symm)]
def BR (w : Wd) : Prop := ∀ k : Nat, (k : Int) < w 43 0 → w 58 k ≠ -1 → 0 ≤ w 58 k ∧ w 58 k < w 43 0 ∧ w 47 (w 58 k).toNat = 0
def GI (P wk : Int) (i0 b0 f0 : Nat → Int) (w : Wd) : Prop := ∀ j, (w 48 j = b0 j ∧ w 49 j = f0 j) ∨ (i0 j = 0 ∧ ∃ i : Nat, (i : Int) < P ∧ w 48 j = (i : Int) ∧ i0 i ≠ 0 ∧ w 49 j = wk)
theorem gi_eq {P wk : Int} {i0 b0 f0 : Nat → Int} {w u : Wd} (h : GI P wk i0 b0 f0 w) (h1 : ∀ j, u 48 j = w 48 j) (h2 : ∀ j, u 49 j = w 49 j) : GI P wk i0 b0 f0 u := fun j => by rw [h1, h2]; exact h j
theorem gw164 {b : Wd} {P wk : Int} {i0 b0 f0 z59 : Nat → Int} {v2 : Int} : ∀ (n : Nat) {w : Wd} {v1 v3 : Int}, G md_R_goWeek b w → (∀ j, i0 j ≠ 0 → w 47 j ≠ 0) → GI P wk i0 b0 f0 w → (∀ k, w 59 k = z59 k) → PC (f_R_goWeek_164 n v1 v2 v3 w) (fun _ u => (∀ j, i0 j ≠ 0 → u 47 j ≠ 0) ∧ GI P wk i0 b0 f0 u ∧ ∀ k, u 59 k = z59 k) := by
  intro n
  induction n with
  | zero => intros; exact pc_none
  | succ n ih =>
    intro w v1 v3 hG h47 hGI h59
    rw [f_R_goWeek_164]
    refine pc_ite (fun _ => ?_) (fun _ => ?_)
    · refine pc_call (pc_ok (s_R_guests (g_self hG))) (fun r7 u8 q => ?_)
      have e := g_nil q.2
      subst e
      refine pc_gd (fun _ => ?_)
      refine pc_lw (fun u9 e9 => ?_)
      refine pc_lw (fun u10 e10 => ?_)
      refine pc_some ⟨fun j hj => ?_, gi_eq hGI (fun j => ?_) (fun j => ?_), fun k => ?_⟩
      · rw [e10, st_c (by decide), e9, st_c (by decide)]; exact h47 j hj
      · rw [e10, st_c (by decide), e9, st_c (by decide)]
      · rw [e10, st_c (by decide), e9, st_c (by decide)]
      · rw [e10, st_c (by decide), e9, st_c (by decide)]; exact h59 k
    · rw [has_eq, jc_s]
      refine pc_ite (fun _ => ?_) (fun _ => ?_)
      · unfold f_R_goWeek_187
        exact pc_let (fun x e => ih hG h47 hGI h59)
      · refine pc_gd (fun _ => ?_)
        refine pc_lw (fun u14 e14 => ?_)
        have g14 : G md_R_goWeek b u14 := g_st hG e14 rfl rfl (show (-2147483648 : Int) ≤ 1 ∧ (1 : Int) ≤ 2147483647 by decide)
        unfold f_R_goWeek_187
        refine pc_let (fun x e => ih g14 (fun j hj => ?_) (gi_eq hGI (fun j => ?_) (fun j => ?_)) (fun k => ?_))
        · rw [e14]
          by_cases hjv : j = v3.toNat
          · rw [hjv, st_eq]; decide
          · rw [st_k hjv]; exact h47 j hj
        · rw [e14, st_c (by decide)]
        · rw [e14, st_c (by decide)]
        · rw [e14, st_c (by decide)]; exact h59 k
theorem gw44 {b : Wd} {P wk : Int} {i0 b0 f0 z59 z58 : Nat → Int} {v2 : Int} (hP : P ≤ 10) (hB : ∀ k : Nat, (k : Int) < P → z58 k ≠ -1 → 0 ≤ z58 k ∧ z58 k < P ∧ i0 (z58 k).toNat = 0) : ∀ (n : Nat) {w : Wd} {v1 v3 : Int}, 0 ≤ v3 → G md_R_goWeek b w → w 43 0 = P → w 43 8 = wk → (∀ k, w 58 k = z58 k) → (∀ j, i0 j ≠ 0 ↔ w 47 j ≠ 0) → GI P wk i0 b0 f0 w → (∀ k, w 59 k = z59 k) → PC (f_R_goWeek_44 n v1 v2 v3 w) (fun _ u => (∀ j, i0 j ≠ 0 → u 47 j ≠ 0) ∧ GI P wk i0 b0 f0 u ∧ ∀ k, u 59 k = z59 k) := by
  intro n
  induction n with
  | zero => intros; exact pc_none
  | succ n ih =>
    intro w v1 v3 i3 hG h0 h8 h58 h47 hGI h59
    rw [f_R_goWeek_44]
    have w3 := w32_sp (v3 + 1)
    refine pc_ite (fun _ => ?_) (fun hlt => ?_)
    · exact gw164 FU hG (fun j hj => (h47 j).mp hj) hGI h59
    · have nx : ∀ {u : Wd} {c : Int}, G md_R_goWeek b u → u 43 0 = P → u 43 8 = wk → (∀ k, u 58 k = z58 k) → (∀ j, i0 j ≠ 0 ↔ u 47 j ≠ 0) → GI P wk i0 b0 f0 u → (∀ k, u 59 k = z59 k) → PC (f_R_goWeek_156 (f_R_goWeek_44 n) c v2 v3 u) (fun _ u => (∀ j, i0 j ≠ 0 → u 47 j ≠ 0) ∧ GI P wk i0 b0 f0 u ∧ ∀ k, u 59 k = z59 k) := by
        intro u c gu u0 u8 u58 u47 uGI u59
        unfold f_R_goWeek_156
        exact pc_let (fun x e => ih (by omega) gu u0 u8 u58 u47 uGI u59)
      refine pc_gd (fun _ => ?_)
      rw [isG_e, jc_s]
      cases hg : gst (w 47 v3.toNat) with
      | false =>
        refine pc_ite (fun _ => nx hG h0 h8 h58 h47 hGI h59) (fun h => absurd rfl h)
      | true =>
        refine pc_ite (fun h => absurd h (by simp)) (fun _ => ?_)
        have hgv : 1 ≤ w 47 v3.toNat ∧ w 47 v3.toNat < 4 := of_decide_eq_true hg
        have hi0 : i0 v3.toNat ≠ 0 := (h47 v3.toNat).mpr (by omega)
        have s47 : ∀ {u u' : Wd} {z : Int}, u' = st u 47 v3.toNat z → z ≠ 0 → (∀ j, i0 j ≠ 0 ↔ u 47 j ≠ 0) → ∀ j, i0 j ≠ 0 ↔ u' 47 j ≠ 0 := by
          intro u u' z e hz hu j
          rw [e]
          by_cases hjv : j = v3.toNat
          · rw [hjv, st_eq]; exact ⟨fun _ => hz, fun _ => hi0⟩
          · rw [st_k hjv]; exact hu j
        refine pc_gd (fun _ => ?_)
        refine pc_ite (fun _ => ?_) (fun hb => ?_)
        · refine pc_gd (fun _ => ?_)
          refine pc_gd (fun _ => ?_)
          have w1 := w32_sp (w 47 v3.toNat + 1)
          refine pc_lw (fun u23 e23 => ?_)
          have g23 : G md_R_goWeek b u23 := g_st hG e23 rfl rfl (show (-2147483648 : Int) ≤ w32 (w 47 v3.toNat + 1) ∧ w32 (w 47 v3.toNat + 1) ≤ 2147483647 by omega)
          have t47 := s47 e23 (by omega) h47
          have tc : ∀ c k, c ≠ 47 → u23 c k = w c k := fun c k hc => by rw [e23, st_c hc]
          refine pc_gd (fun _ => ?_)
          refine pc_ite (fun _ => ?_) (fun _ => ?_)
          · exact nx g23 ((tc 43 0 (by decide)).trans h0) ((tc 43 8 (by decide)).trans h8) (fun k => (tc 58 k (by decide)).trans (h58 k)) t47 (gi_eq hGI (fun j => tc 48 j (by decide)) (fun j => tc 49 j (by decide))) (fun k => (tc 59 k (by decide)).trans (h59 k))
          · refine pc_gd (fun _ => ?_)
            refine pc_lw (fun u24 e24 => ?_)
            have g24 : G md_R_goWeek b u24 := g_st g23 e24 rfl rfl (show (-2147483648 : Int) ≤ 4 ∧ (4 : Int) ≤ 2147483647 by decide)
            have td : ∀ c k, c ≠ 47 → u24 c k = w c k := fun c k hc => by rw [e24, st_c hc]; exact tc c k hc
            exact nx g24 ((td 43 0 (by decide)).trans h0) ((td 43 8 (by decide)).trans h8) (fun k => (td 58 k (by decide)).trans (h58 k)) (s47 e24 (by decide) t47) (gi_eq hGI (fun j => td 48 j (by decide)) (fun j => td 49 j (by decide))) (fun k => (td 59 k (by decide)).trans (h59 k))
        · refine pc_gd (fun _ => ?_)
          refine pc_let (fun x17 e17 => ?_)
          rw [h58] at hb e17
          obtain ⟨q1, q2, q3⟩ := hB v3.toNat (by omega) hb
          rw [← e17] at q1 q2 q3
          refine pc_gd (fun _ => ?_)
          refine pc_lw (fun u18 e18 => ?_)
          have g18 : G md_R_goWeek b u18 := g_st hG e18 rfl rfl (show (-2147483648 : Int) ≤ 1 ∧ (1 : Int) ≤ 2147483647 by decide)
          have t47 := s47 e18 (by decide) h47
          refine pc_gd (fun _ => ?_)
          refine pc_let (fun x19 e19 => ?_)
          refine pc_gd (fun _ => ?_)
          refine pc_lw (fun u20 e20 => ?_)
          have g20 : G md_R_goWeek b u20 := g_st g18 e20 rfl rfl (show (-1 : Int) ≤ v3 ∧ v3 ≤ 9 by omega)
          refine pc_gd (fun _ => ?_)
          have t8 : u20 43 8 = wk := by rw [e20, st_c (by decide), e18, st_c (by decide)]; exact h8
          have a8 : (0 : Int) ≤ u20 43 8 ∧ u20 43 8 ≤ 60 := g20.1 43 8
          refine pc_lw (fun u21 e21 => ?_)
          have g21 : G md_R_goWeek b u21 := g_st g20 e21 rfl rfl (show (-2147483648 : Int) ≤ u20 43 8 ∧ u20 43 8 ≤ 2147483647 by omega)
          refine nx g21 ?_ ?_ (fun k => ?_) (fun j => ?_) (fun j => ?_) (fun k => ?_)
          · rw [e21, st_c (by decide), e20, st_c (by decide), e18, st_c (by decide)]; exact h0
          · rw [e21, st_c (by decide)]; exact t8
          · rw [e21, st_c (by decide), e20, st_c (by decide), e18, st_c (by decide)]; exact h58 k
          · rw [e21, st_c (by decide), e20, st_c (by decide)]; exact t47 j
          · by_cases hj : j = x17.toNat
            · refine Or.inr ⟨by rw [hj]; exact q3, v3.toNat, by omega, ?_, hi0, ?_⟩
              · rw [e21, st_c (by decide), e20, hj, st_eq]; omega
              · rw [e21, hj, st_eq]; exact t8
            · rw [e21, st_c (by decide), st_k hj, e20, st_k hj, st_c (by decide), e18, st_c (by decide), st_c (by decide)]
              exact hGI j
          · rw [e21, st_c (by decide), e20, st_c (by decide), e18, st_c (by decide)]; exact h59 k
theorem gw_pc {w : Wd} (hG : G md_R_goWeek w w) (hI : IV w ∧ Kb w) (hB : BR w) (h8 : w 43 8 ≤ 59) : PC (f_R_goWeek w) (fun _ u => IV u ∧ Kb u) := by
  have a0 : (0 : Int) ≤ w 43 0 ∧ w 43 0 ≤ 10 := hG.1 43 0
  have a8 : (0 : Int) ≤ w 43 8 ∧ w 43 8 ≤ 60 := hG.1 43 8
  have a32 : (0 : Int) ≤ w 43 32 ∧ w 43 32 ≤ 60 := hG.1 43 32
  obtain ⟨⟨⟨n1, n2⟩, hUn, hKp, hCm, hUI⟩, hK⟩ := hI
  have key : PC (f_R_goWeek w) (fun _ u => (∀ j, w 47 j ≠ 0 → u 47 j ≠ 0) ∧ GI (w 43 0) (w 43 8 + 1) (w 47) (w 48) (w 49) u ∧ (∀ j : Nat, j < 10 → u 59 (31 * (w 43 32).toNat + 3 * j) = w 47 j ∧ u 59 (31 * (w 43 32).toNat + 3 * j + 1) = w 48 j ∧ u 59 (31 * (w 43 32).toNat + 3 * j + 2) = w 49 j) ∧ ∀ i, (i < 31 * (w 43 32).toNat ∨ 31 * (w 43 32).toNat + 31 ≤ i) → u 59 i = w 59 i) := by
    unfold f_R_goWeek
    have w1 := w32_sp (31 * w 43 32)
    refine pc_call (pc_and (pc_ok (s_R_lay_43_59 (v2 := w32 (31 * w 43 32)) (g_self hG) (by omega) (by omega) (by omega))) (lay59 (k := 31 * (w 43 32).toNat) (v2 := w32 (31 * w 43 32)) (by omega) (by omega) w)) (fun r1 u2 q => ?_)
    obtain ⟨⟨_, gy⟩, hD, hO⟩ := q
    have g2 : G md_R_goWeek w u2 := g_tr hG gy rfl
    have t32 : u2 43 32 = w 43 32 := gy.2.1 43 32 rfl
    have t8 : u2 43 8 = w 43 8 := gy.2.1 43 8 rfl
    have w2 := w32_sp (u2 43 32 + 1)
    refine pc_lw (fun u3 e3 => ?_)
    have g3 : G md_R_goWeek w u3 := g_st g2 e3 rfl rfl (show (0 : Int) ≤ w32 (u2 43 32 + 1) ∧ w32 (u2 43 32 + 1) ≤ 60 by omega)
    have t38 : u3 43 8 = w 43 8 := by rw [e3, st_k (by decide)]; exact t8
    have w3 := w32_sp (u3 43 8 + 1)
    refine pc_lw (fun u4 e4 => ?_)
    have g4 : G md_R_goWeek w u4 := g_st g3 e4 rfl rfl (show (0 : Int) ≤ w32 (u3 43 8 + 1) ∧ w32 (u3 43 8 + 1) ≤ 60 by omega)
    have tc : ∀ c k, c ≠ 43 → u4 c k = u2 c k := fun c k hc => by rw [e4, st_c hc, e3, st_c hc]
    refine pc_call (pc_ok (s_R_broughtNow (g_self g4))) (fun r5 u6 q => ?_)
    have e6 := g_nil q.2
    subst e6
    refine pc_w (gw44 (P := w 43 0) (wk := w 43 8 + 1) (i0 := w 47) (b0 := w 48) (f0 := w 49) (z59 := u2 59) (z58 := w 58) a0.2 hB FU (by decide) g4 (g4.2.1 43 0 rfl) (by rw [e4, st_eq]; omega) (fun k => (tc 58 k (by decide)).trans (gy.2.1 58 k (mS_ar rfl k))) (fun j => by rw [tc 47 j (by decide), gy.2.1 47 j (mS_ar rfl j)]) (fun j => Or.inl ⟨(tc 48 j (by decide)).trans (gy.2.1 48 j (mS_ar rfl j)), (tc 49 j (by decide)).trans (gy.2.1 49 j (mS_ar rfl j))⟩) (fun k => tc 59 k (by decide))) (fun r u q => ⟨q.1, q.2.1, fun j hj => ?_, fun i hi => ?_⟩)
    · rw [q.2.2, q.2.2, q.2.2]; exact hD j hj
    · rw [q.2.2]; exact hO i hi
  refine pc_w (pc_and (pc_ok (s_R_goWeek hG h8 hUI)) key) (fun r u q => ?_)
  obtain ⟨⟨_, gy, p8, p32⟩, q47, qGI, qD, qO⟩ := q
  have y0 : u 43 0 = w 43 0 := gy.2.1 43 0 rfl
  have y56 : u 43 56 = w 43 56 := gy.2.1 43 56 rfl
  refine ⟨⟨⟨fun j hj hn => ?_, fun j hj => ?_⟩, fun t ht => ?_, ?_, ?_, by omega⟩, kb_eq hK y0 (funext fun k => gy.2.1 45 k (mS_ar rfl k))⟩
  · rw [y0] at hj
    rcases qGI j with ⟨e1, e2⟩ | ⟨_, i, hi, e1, h3, e2⟩
    · rw [e1] at hn ⊢
      obtain ⟨b0, b1, b2, b3⟩ := n1 j hj hn
      have hf : u 49 (w 48 j).toNat = w 49 (w 48 j).toNat := by
        rcases qGI (w 48 j).toNat with ⟨_, e⟩ | ⟨h, _⟩
        · exact e
        · exact absurd h b2
      rw [y0, hf, e2]
      exact ⟨b0, b1, q47 _ b2, b3⟩
    · rw [e1, y0, e2, Int.toNat_natCast]
      have hf : u 49 i = w 49 i := by
        rcases qGI i with ⟨_, e⟩ | ⟨h, _⟩
        · exact e
        · exact absurd h h3
      rw [hf]
      have := n2 i hi
      exact ⟨by omega, hi, q47 _ h3, by omega⟩
  · rw [y0] at hj
    rw [p8]
    rcases qGI j with ⟨_, e2⟩ | ⟨_, i, hi, e1, h3, e2⟩
    · rw [e2]
      have := n2 j hj
      omega
    · rw [e2]; omega
  · rw [p32] at ht
    rw [y0, p8, p32]
    by_cases hto : (t : Int) < w 43 32
    · have h := hUn t hto
      have e : w 43 8 + 1 - (w 43 32 + 1) + (t : Int) = w 43 8 - w 43 32 + t := by omega
      rw [e]
      obtain ⟨m1, m2⟩ := h
      refine ⟨fun j hj hn => ?_, fun j hj => ?_⟩
      · simp only at hn ⊢
        rw [qO _ (by omega)] at hn
        obtain ⟨b0, b1, b2, b3⟩ := m1 j hj hn
        simp only at b0 b1 b2 b3
        have e1 : u 59 (31 * t + 3 * j + 1) = w 59 (31 * t + 3 * j + 1) := qO _ (by omega)
        rw [e1]
        rw [qO (31 * t + 3 * (w 59 (31 * t + 3 * j + 1)).toNat) (by omega), qO (31 * t + 3 * (w 59 (31 * t + 3 * j + 1)).toNat + 2) (by omega), qO (31 * t + 3 * j + 2) (by omega)]
        exact ⟨b0, b1, b2, b3⟩
      · simp only
        rw [qO _ (by omega)]
        exact m2 j hj
    · have et : t = (w 43 32).toNat := by omega
      subst et
      refine ⟨fun j hj hn => ?_, fun j hj => ?_⟩
      · simp only at hn ⊢
        rw [(qD j (by omega)).2.1] at hn ⊢
        obtain ⟨b0, b1, b2, b3⟩ := n1 j hj hn
        rw [(qD (w 48 j).toNat (by omega)).1, (qD (w 48 j).toNat (by omega)).2.2, (qD j (by omega)).2.2]
        exact ⟨b0, b1, b2, b3⟩
      · simp only
        rw [(qD j (by omega)).2.2]
        have := n2 j hj
        omega
  · intro m hm h80 h81
    rw [gy.2.1 80 m (mS_ar rfl m)] at h80
    rw [gy.2.1 81 m (mS_ar rfl m), y56] at h81
    have h := hKp m hm h80 h81
    rw [y0, show u 79 = w 79 from funext fun k => gy.2.1 79 k (mS_ar rfl k)]
    exact h
  · obtain ⟨c1, c2, c3⟩ := hCm
    exact ⟨by omega, by omega, fun m hm => by rw [gy.2.1 81 m (mS_ar rfl m), y56]; exact c3 m hm⟩
/-! who is chosen is a stranger -/
theorem th_pc {w : Wd} {v1 v2 : Int} (h0 : w 43 0 ≤ 10) : ∀ (n : Nat) {v3 v4 : Int}, (0 ≤ v4 ∧ v4 ≤ 10) → (∀ q : Nat, q < 10 → bt v3 q = true → (q : Int) < w 43 0 ∧ v1 ≤ w 47 q ∧ w 47 q ≤ v2) → PC (f_R_those_5 n v1 v2 v3 v4 w) (fun r u => u = w ∧ ∀ q : Nat, q < 10 → bt r q = true → (q : Int) < w 43 0 ∧ v1 ≤ w 47 q ∧ w 47 q ≤ v2) := by
  intro n
  induction n with
  | zero => intros; exact pc_none
  | succ n ih =>
    intro v3 v4 i4 hI
    rw [f_R_those_5]
    have w4 := w32_sp (v4 + 1)
    refine pc_ite (fun _ => pc_some ⟨rfl, hI⟩) (fun h => ?_)
    refine pc_gd (fun _ => ?_)
    have nx : ∀ z : Int, (∀ q : Nat, q < 10 → bt z q = true → (q : Int) < w 43 0 ∧ v1 ≤ w 47 q ∧ w 47 q ≤ v2) → PC (f_R_those_38 (f_R_those_5 n) v1 v2 v4 v3 z w) (fun r u => u = w ∧ ∀ q : Nat, q < 10 → bt r q = true → (q : Int) < w 43 0 ∧ v1 ≤ w 47 q ∧ w 47 q ≤ v2) := by
      intro z hz
      unfold f_R_those_38
      refine pc_let (fun x3 e3 => ?_)
      refine pc_let (fun x4 e4 => ?_)
      refine ih (by omega) (fun q hq hb => ?_)
      rw [e3, bt_or] at hb
      cases hb3 : bt v3 q with
      | true => exact hI q hq hb3
      | false =>
        rw [hb3, Bool.false_or] at hb
        exact hz q hq hb
    rw [in_e, jc_s]
    refine pc_ite (fun _ => ?_) (fun hc => ?_)
    · exact nx 0 (fun q _ hb => by rw [bt_0] at hb; cases hb)
    · refine nx _ (fun q hq hb => ?_)
      rw [bt_shl (by omega) (by omega)] at hb
      have e : q = v4.toNat := by simpa using hb
      have hv : v1 ≤ w 47 v4.toNat ∧ w 47 v4.toNat ≤ v2 := by
        by_cases h2 : v1 ≤ w 47 v4.toNat ∧ w 47 v4.toNat ≤ v2
        · exact h2
        · rw [if_neg h2] at hc; exact absurd rfl hc
      rw [e]
      exact ⟨by omega, hv⟩
theorem free_pc {S : List Nat} {b w : Wd} (hG : G S b w) : PC (f_R_free w) (fun r u => u = w ∧ ∀ q : Nat, q < 10 → bt r q = true → (q : Int) < w 43 0 ∧ w 47 q = 0) := by
  have a0 : (0 : Int) ≤ w 43 0 ∧ w 43 0 ≤ 10 := hG.1 43 0
  unfold f_R_free f_R_those
  refine pc_call (th_pc a0.2 FU (by decide) (fun q _ hb => by rw [bt_0] at hb; cases hb)) (fun r1 u2 q => ?_)
  obtain ⟨e, h1⟩ := q
  subst e
  refine pc_call (pc_ok (s_R_hidden (g_self hG))) (fun r3 u4 q => ?_)
  have e4 := g_nil q.2
  subst e4
  refine pc_some ⟨rfl, fun q hq hb => ?_⟩
  rw [bt_and] at hb
  cases hb1 : bt r1 q with
  | true => have := h1 q hq hb1; exact ⟨this.1, by omega⟩
  | false => rw [hb1] at hb; simp at hb
/-- the feast as in w0 -/
def CH (w0 u : Wd) (i : Nat) (r : Int) : Prop := (r = -1 ∨ (0 ≤ r ∧ r < w0 43 0 ∧ w0 47 r.toNat = 0)) ∧ ∀ k, k ≠ i → u 58 k = w0 58 k
theorem ch_27 {b w0 : Wd} {v1 v2 : Int} (i1 : 0 ≤ v1 ∧ v1 ≤ 9) (h2 : ∀ q : Nat, q < 10 → bt v2 q = true → (q : Int) < w0 43 0 ∧ w0 47 q = 0) : ∀ (n : Nat) {w : Wd} {v3 v4 v5 : Int}, (0 ≤ v5 ∧ v5 ≤ 10) → G md_R_choice b w → w 43 0 = w0 43 0 → (∀ k, k ≠ v1.toNat → w 58 k = w0 58 k) → (v3 = -1 ∨ (0 ≤ v3 ∧ v3 < w0 43 0 ∧ w0 47 v3.toNat = 0)) → PC (f_R_choice_27 n v1 v2 v3 v4 v5 w) (fun r u => CH w0 u v1.toNat r) := by
  intro n
  induction n with
  | zero => intros; exact pc_none
  | succ n ih =>
    intro w v3 v4 v5 i5 hG h0 h58 h3
    rw [f_R_choice_27]
    have a0 : (0 : Int) ≤ w 43 0 ∧ w 43 0 ≤ 10 := hG.1 43 0
    have w5 := w32_sp (v5 + 1)
    refine pc_ite (fun _ => ?_) (fun hlt => ?_)
    · refine pc_ite (fun _ => pc_some ⟨Or.inl rfl, h58⟩) (fun hn => ?_)
      have h3' := h3.resolve_left hn
      refine pc_gd (fun _ => ?_)
      refine pc_lw (fun u6 e6 => ?_)
      have iv3 : (-1 : Int) ≤ v3 ∧ v3 ≤ 9 := by omega
      have g6 : G md_R_choice b u6 := g_st hG e6 rfl rfl iv3
      refine pc_call (pc_ok (s_R_guestsThen (g_self g6))) (fun r7 u8 q => ?_)
      have e8 := g_nil q.2
      subst e8
      refine pc_gd (fun _ => ?_)
      refine pc_lw (fun u9 e9 => ?_)
      have t58 : ∀ k, k ≠ v1.toNat → u9 58 k = w0 58 k := fun k hk => by rw [e9, st_k hk, e6, st_k hk]; exact h58 k hk
      refine pc_ite (fun _ => pc_some ⟨Or.inr h3', t58⟩) (fun _ => pc_some ⟨Or.inl rfl, t58⟩)
    · rw [has_e w (by omega), jc_s]
      have nx : ∀ {u : Wd} {a c : Int}, G md_R_choice b u → u 43 0 = w0 43 0 → (∀ k, k ≠ v1.toNat → u 58 k = w0 58 k) → (a = -1 ∨ (0 ≤ a ∧ a < w0 43 0 ∧ w0 47 a.toNat = 0)) → PC (f_R_choice_84 (f_R_choice_27 n) v1 v2 a c v5 u) (fun r u => CH w0 u v1.toNat r) := by
        intro u a c gu u0 u58 ha
        unfold f_R_choice_84
        refine pc_let (fun x14 e14 => ?_)
        have i14 : 0 ≤ x14 ∧ x14 ≤ 10 := by clear ha h3; omega
        exact ih i14 gu u0 u58 ha
      cases hb : bt v2 v5.toNat with
      | false =>
        refine pc_ite (fun _ => nx hG h0 h58 h3) (fun h => absurd rfl h)
      | true =>
        refine pc_ite (fun h => absurd h (by simp)) (fun _ => ?_)
        refine pc_call (pc_ok (s_R_ruleFor (g_self hG) (by omega) (by omega))) (fun r12 u13 q => ?_)
        have gy := q.2
        have g13 : G md_R_choice b u13 := g_tr hG gy rfl
        have t0 : u13 43 0 = w0 43 0 := (gy.2.1 43 0 rfl).trans h0
        have t58 : ∀ k, k ≠ v1.toNat → u13 58 k = w0 58 k := fun k hk => (gy.2.1 58 k (mS_ar rfl k)).trans (h58 k hk)
        have h5 := h2 v5.toNat (by omega) hb
        have p77 : ∀ c : Int, PC (f_R_choice_77 (f_R_choice_27 n) v1 v2 v5 c u13) (fun r u => CH w0 u v1.toNat r) := by
          intro c
          unfold f_R_choice_77
          exact nx g13 t0 t58 (Or.inr ⟨by omega, by omega, h5.2⟩)
        refine pc_ite (fun _ => nx g13 t0 t58 h3) (fun _ => ?_)
        refine pc_ite (fun _ => p77 _) (fun _ => ?_)
        exact pc_ite (fun _ => p77 _) (fun _ => nx g13 t0 t58 h3)
theorem ch_pc {w : Wd} {v1 : Int} (i1 : 0 ≤ v1 ∧ v1 ≤ 9) (hG : G md_R_choice w w) : PC (f_R_choice v1 w) (fun r u => CH w u v1.toNat r) := by
  unfold f_R_choice
  refine pc_call (free_pc hG) (fun r1 u2 q => ?_)
  obtain ⟨e, h1⟩ := q
  subst e
  refine pc_gd (fun _ => ?_)
  refine pc_call (pc_ok (s_R_broughtNow (g_self hG))) (fun r3 u4 q => ?_)
  have e4 := g_nil q.2
  subst e4
  refine pc_let (fun x5 e5 => ?_)
  refine ch_27 i1 (fun q hq hb => ?_) FU (by decide) hG rfl (fun _ _ => rfl) (Or.inl rfl)
  rw [e5, bt_and, bt_and] at hb
  cases hb1 : bt r1 q with
  | true => exact h1 q hq hb1
  | false => rw [hb1] at hb; simp at hb
theorem nb_pc : ∀ (n : Nat) {w : Wd} {v1 : Int}, 0 ≤ v1 → (∀ k : Nat, (k : Int) < v1 → w 58 k = -1) → PC (f_R_nobody_2 n v1 w) (fun _ u => ∀ k : Nat, k < 10 → u 58 k = -1) := by
  intro n
  induction n with
  | zero => intros; exact pc_none
  | succ n ih =>
    intro w v1 i1 h
    rw [f_R_nobody_2]
    have w1 := w32_sp (v1 + 1)
    refine pc_ite (fun _ => pc_some (fun k hk => h k (by omega))) (fun _ => ?_)
    refine pc_gd (fun _ => ?_)
    refine pc_lw (fun u1 e1 => ?_)
    refine pc_let (fun x2 e2 => ?_)
    refine ih (by omega) (fun k hk => ?_)
    rw [e1]
    by_cases hkv : k = v1.toNat
    · rw [hkv, st_eq]
    · rw [st_k hkv]; exact h k (by omega)
theorem fc_pc {w : Wd} (hG : G md_R_findChoices w w) : PC (f_R_findChoices w) (fun _ u => BR u) := by
  have a0 : (0 : Int) ≤ w 43 0 ∧ w 43 0 ≤ 10 := hG.1 43 0
  unfold f_R_findChoices
  have nb : PC (f_R_nobody w) (fun _ u => ∀ k : Nat, k < 10 → u 58 k = -1) := by
    unfold f_R_nobody
    exact nb_pc FU (by decide) (fun k hk => by omega)
  refine pc_call (pc_and (pc_ok (s_R_nobody (g_self hG))) nb) (fun r1 u2 q => ?_)
  obtain ⟨⟨_, gy⟩, hn⟩ := q
  have g2 : G md_R_findChoices w u2 := g_tr hG gy rfl
  have lp : ∀ (n : Nat) {u : Wd} {v1 : Int}, 0 ≤ v1 → G md_R_findChoices w u → BR u → PC (f_R_findChoices_6 n v1 u) (fun _ u => BR u) := by
    intro n
    induction n with
    | zero => intros; exact pc_none
    | succ n ih =>
      intro u v1 i1 gu hB
      rw [f_R_findChoices_6]
      have b0 : (0 : Int) ≤ u 43 0 ∧ u 43 0 ≤ 10 := gu.1 43 0
      have w1 := w32_sp (v1 + 1)
      refine pc_ite (fun _ => pc_some hB) (fun hlt => ?_)
      have nx : ∀ {x : Wd}, G md_R_findChoices w x → BR x → PC (f_R_findChoices_37 (f_R_findChoices_6 n) v1 x) (fun _ u => BR u) := by
        intro x gx hx
        unfold f_R_findChoices_37
        exact pc_let (fun y e => ih (by omega) gx hx)
      refine pc_gd (fun _ => ?_)
      rw [isG_e, jc_s]
      refine pc_ite (fun _ => nx gu hB) (fun _ => ?_)
      refine pc_call (pc_and (pc_ok (s_R_choice (g_self gu) (by omega))) (ch_pc (by omega) (g_self gu))) (fun r6 u7 q => ?_)
      obtain ⟨⟨ir, gz⟩, hr, h58⟩ := q
      have g7 : G md_R_findChoices w u7 := g_tr gu gz rfl
      refine pc_gd (fun _ => ?_)
      have ir6 : (-1 : Int) ≤ r6 ∧ r6 ≤ 9 := by omega
      refine pc_lw (fun u8 e8 => ?_)
      have g8 : G md_R_findChoices w u8 := g_st g7 e8 rfl rfl ir6
      refine nx g8 (fun k hk hne => ?_)
      have t0 : u8 43 0 = u 43 0 := by rw [e8, st_c (by decide)]; exact gz.2.1 43 0 rfl
      have t47 : ∀ k, u8 47 k = u 47 k := fun k => by rw [e8, st_c (by decide)]; exact gz.2.1 47 k (mS_ar rfl k)
      rw [t0] at hk ⊢
      by_cases hkv : k = v1.toNat
      · have e58 : u8 58 k = r6 := by rw [e8, hkv, st_eq]
        rw [e58] at hne ⊢
        rw [t47]
        exact hr.resolve_left hne
      · have e58 : u8 58 k = u 58 k := by rw [e8, st_k hkv]; exact h58 k hkv
        rw [e58] at hne ⊢
        rw [t47]
        exact hB k hk hne
  refine lp FU (by decide) g2 (fun k hk hne => ?_)
  have e0 : u2 43 0 = w 43 0 := gy.2.1 43 0 rfl
  exact absurd (hn k (by omega)) hne
theorem tl_pc {w : Wd} {v : Int} (hI : IV w ∧ Kb w) : PC (f_R_tell v w) (fun _ u => IV u ∧ Kb u) := by
  unfold f_R_tell
  refine pc_gd (fun _ => ?_)
  refine pc_lw (fun u1 e1 => ?_)
  refine pc_lw (fun u2 e2 => ?_)
  exact pc_some (iv_st (iv_st hI e1 (Or.inl (by decide))) e2 (Or.inr ⟨rfl, by decide⟩))
theorem go_60 {b w : Wd} {v2 v3 : Int} (hG : G md_R_goes b w) (hI : IV w ∧ Kb w) : PC (f_R_goes_60 v2 v3 w) (fun _ u => IV u ∧ Kb u) := by
  unfold f_R_goes_60
  refine pc_lw (fun u5 e5 => ?_)
  have g5 : G md_R_goes b u5 := g_st hG e5 rfl rfl (show (0 : Int) ≤ 0 ∧ (0 : Int) ≤ 16 by decide)
  have i5 := iv_st hI e5 (Or.inr ⟨rfl, by decide⟩)
  refine pc_call (pc_ok (s_R_guests (g_self g5))) (fun r6 u7 q => ?_)
  have e := g_nil q.2
  subst e
  refine pc_call (tl_pc i5) (fun r8 u9 i9 => ?_)
  refine pc_call (tl_pc i9) (fun r10 u11 i11 => ?_)
  exact pc_some i11
theorem go_24 {b : Wd} {v1 v2 : Int} : ∀ (n : Nat) {w : Wd} {v3 : Int}, G md_R_goes b w → IV w ∧ Kb w → PC (f_R_goes_24 n v1 v2 v3 w) (fun _ u => IV u ∧ Kb u) := by
  intro n
  induction n with
  | zero => intros; exact pc_none
  | succ n ih =>
    intro w v3 hG hI
    rw [f_R_goes_24]
    refine pc_ite (fun _ => go_60 hG hI) (fun _ => ?_)
    refine pc_ite (fun _ => go_60 hG hI) (fun h8 => ?_)
    refine pc_call (pc_ok (s_R_guests (g_self hG))) (fun r12 u13 q => ?_)
    have e := g_nil q.2
    subst e
    refine pc_ite (fun _ => go_60 hG hI) (fun _ => ?_)
    refine pc_call (pc_and (pc_ok (s_R_findChoices (g_self hG))) (fc_pc (g_self hG))) (fun r14 u15 q => ?_)
    obtain ⟨⟨_, gy⟩, hB⟩ := q
    have g15 : G md_R_goes b u15 := g_tr hG gy rfl
    have i15 := iv_ff hI gy rfl
    have t8 : u15 43 8 = u13 43 8 := gy.2.1 43 8 rfl
    refine pc_call (pc_and (pc_ok (s_R_goWeek (g_self g15) (by omega) i15.1.2.2.2.2)) (gw_pc (g_self g15) i15 hB (by omega))) (fun r16 u17 q => ?_)
    obtain ⟨⟨_, gz, _⟩, i17⟩ := q
    refine pc_let (fun x18 e18 => ?_)
    exact ih (g_tr g15 gz rfl) i17
theorem goes_pc {w : Wd} {v1 : Int} (h : RS w) : PC (f_R_goes v1 w) (fun _ u => IV u ∧ Kb u) := by
  obtain ⟨hG0, hI⟩ := h
  have hG : G md_R_goes w w := g_self hG0
  unfold f_R_goes
  refine pc_lw (fun u1 e1 => ?_)
  have g1 : G md_R_goes w u1 := g_st hG e1 rfl rfl (show (0 : Int) ≤ 0 ∧ (0 : Int) ≤ 1 by decide)
  have i1 := iv_st hI e1 (Or.inr ⟨rfl, by decide⟩)
  rw [in_e, jc_s]
  refine pc_ite (fun _ => pc_some i1) (fun _ => ?_)
  exact pc_let (fun x4 e4 => go_24 FU g1 i1)
theorem undo_pc {w : Wd} (h : RS w) : PC (f_R_undo w) (fun _ u => IV u ∧ Kb u) := by
  obtain ⟨hG0, hI⟩ := h
  have hG : G md_R_undo w w := g_self hG0
  unfold f_R_undo
  refine pc_lw (fun u1 e1 => ?_)
  have g1 : G md_R_undo w u1 := g_st hG e1 rfl rfl (show (0 : Int) ≤ 0 ∧ (0 : Int) ≤ 1 by decide)
  have i1 := iv_st hI e1 (Or.inr ⟨rfl, by decide⟩)
  refine pc_ite (fun _ => pc_some i1) (fun hne => ?_)
  obtain ⟨⟨⟨n1, n2⟩, hUn, hKp, ⟨c1, c2, c3⟩, hUI⟩, hK⟩ := i1
  have a0 : (0 : Int) ≤ u1 43 0 ∧ u1 43 0 ≤ 10 := g1.1 43 0
  have a8 : (0 : Int) ≤ u1 43 8 ∧ u1 43 8 ≤ 60 := g1.1 43 8
  have a32 : (0 : Int) ≤ u1 43 32 ∧ u1 43 32 ≤ 60 := g1.1 43 32
  have w1 := w32_sp (u1 43 32 - 1)
  refine pc_lw (fun u2 e2 => ?_)
  have g2 : G md_R_undo w u2 := g_st g1 e2 rfl rfl (show (0 : Int) ≤ w32 (u1 43 32 - 1) ∧ w32 (u1 43 32 - 1) ≤ 60 by omega)
  have t8 : u2 43 8 = u1 43 8 := by rw [e2, st_k (by decide)]
  have w2 := w32_sp (u2 43 8 - 1)
  refine pc_lw (fun u3 e3 => ?_)
  have g3 : G md_R_undo w u3 := g_st g2 e3 rfl rfl (show (0 : Int) ≤ w32 (u2 43 8 - 1) ∧ w32 (u2 43 8 - 1) ≤ 60 by omega)
  have s32 : u3 43 32 = u1 43 32 - 1 := by rw [e3, st_k (by decide), e2, st_eq]; omega
  have s8 : u3 43 8 = u1 43 8 - 1 := by rw [e3, st_eq]; omega
  have s0 : u3 43 0 = u1 43 0 := by rw [e3, st_k (by decide), e2, st_k (by decide)]
  have s56 : u3 43 56 = u1 43 56 := by rw [e3, st_k (by decide), e2, st_k (by decide)]
  have sc : ∀ c k, c ≠ 43 → u3 c k = u1 c k := fun c k hc => by rw [e3, st_c hc, e2, st_c hc]
  have w3 := w32_sp (31 * u3 43 32)
  refine pc_call (pc_and (pc_ok (s_R_bring_43_59 (v2 := w32 (31 * u3 43 32)) (g_self g3) (by omega) (by omega) (by omega))) (bring59 (k := 31 * (u3 43 32).toNat) (v2 := w32 (31 * u3 43 32)) (by omega) (by omega) u3 (by omega))) (fun r4 u5 q => ?_)
  obtain ⟨⟨_, gy⟩, hD⟩ := q
  have y0 : u5 43 0 = u1 43 0 := (gy.2.1 43 0 rfl).trans s0
  have y8 : u5 43 8 = u1 43 8 - 1 := (gy.2.1 43 8 rfl).trans s8
  have y32 : u5 43 32 = u1 43 32 - 1 := (gy.2.1 43 32 rfl).trans s32
  have y56 : u5 43 56 = u1 43 56 := (gy.2.1 43 56 rfl).trans s56
  have y59 : ∀ k, u5 59 k = u1 59 k := fun k => (gy.2.1 59 k (mS_ar rfl k)).trans (sc 59 k (by decide))
  have hD' : ∀ j : Nat, (j : Int) < u1 43 0 → u5 47 j = u1 59 (31 * (u1 43 32 - 1).toNat + 3 * j) ∧ u5 48 j = u1 59 (31 * (u1 43 32 - 1).toNat + 3 * j + 1) ∧ u5 49 j = u1 59 (31 * (u1 43 32 - 1).toNat + 3 * j + 2) := fun j hj => by
    have h1 := hD j (by omega)
    rw [s32, sc 59 _ (by decide), sc 59 _ (by decide), sc 59 _ (by decide)] at h1
    exact h1
  obtain ⟨m1, m2⟩ := hUn (u1 43 32 - 1).toNat (by omega)
  simp only at m1 m2
  refine pc_some ⟨⟨⟨fun j hj hn => ?_, fun j hj => ?_⟩, fun t ht => ?_, ?_, ⟨by omega, by omega, fun m hm => ?_⟩, by omega⟩, ?_⟩
  · rw [y0] at hj
    rw [(hD' j hj).2.1] at hn ⊢
    obtain ⟨b0, b1, b2, b3⟩ := m1 j hj hn
    rw [y0, (hD' _ (show ((u1 59 (31 * (u1 43 32 - 1).toNat + 3 * j + 1)).toNat : Int) < u1 43 0 by omega)).1, (hD' _ (show ((u1 59 (31 * (u1 43 32 - 1).toNat + 3 * j + 1)).toNat : Int) < u1 43 0 by omega)).2.2, (hD' j hj).2.2]
    exact ⟨b0, b1, b2, b3⟩
  · rw [y0] at hj
    rw [(hD' j hj).2.2, y8]
    have := m2 j hj
    omega
  · rw [y32] at ht
    have h := hUn t (by omega)
    rw [y0, y8, y32, show u5 59 = u1 59 from funext y59, show u1 43 8 - 1 - (u1 43 32 - 1) + (t : Int) = u1 43 8 - u1 43 32 + t by omega]
    exact h
  · intro m hm h80 h81
    rw [gy.2.1 80 m (mS_ar rfl m), sc 80 m (by decide)] at h80
    rw [gy.2.1 81 m (mS_ar rfl m), sc 81 m (by decide), y56] at h81
    have h := hKp m hm h80 h81
    rw [y0, show u5 79 = u1 79 from funext fun k => (gy.2.1 79 k (mS_ar rfl k)).trans (sc 79 k (by decide))]
    exact h
  · rw [gy.2.1 81 m (mS_ar rfl m), sc 81 m (by decide), y56]
    exact c3 m hm
  · exact kb_eq hK y0 (funext fun k => (gy.2.1 45 k (mS_ar rfl k)).trans (sc 45 k (by decide)))
def E57 (x w : Wd) : Prop := ∀ c k, (c ≠ 46 ∧ c ≠ 50 ∧ ¬ (c = 43 ∧ (k = 8 ∨ k = 10 ∨ k = 11 ∨ k = 32))) → w c k = x c k
theorem e57_st {x w u : Wd} {c k : Nat} {z : Int} (h : E57 x w) (e : u = st w c k z) (hc : c = 46 ∨ c = 50 ∨ (c = 43 ∧ (k = 8 ∨ k = 10 ∨ k = 11 ∨ k = 32))) : E57 x u := by
  intro c' k' hc'
  rw [e]
  unfold st
  rw [if_neg (by omega)]
  exact h c' k' hc'
theorem ag_133 {x : Wd} {wk v2 : Int} : ∀ (n : Nat) {w : Wd} {v3 : Int}, E57 x w → w 43 8 = wk → PC (f_R_again_133 n v2 v3 w) (fun _ u => E57 x u ∧ u 43 8 = wk ∧ u 43 32 = 0) := by
  intro n
  induction n with
  | zero => intros; exact pc_none
  | succ n ih =>
    intro w v3 hE h8
    rw [f_R_again_133]
    refine pc_ite (fun _ => ?_) (fun _ => ?_)
    · refine pc_lw (fun u12 e12 => ?_)
      exact pc_some ⟨e57_st hE e12 (by omega), by rw [e12, st_k (by decide)]; exact h8, by rw [e12, st_eq]⟩
    · refine pc_gd (fun _ => ?_)
      refine pc_gd (fun _ => ?_)
      refine pc_lw (fun u13 e13 => ?_)
      refine pc_let (fun x14 e14 => ?_)
      exact ih (e57_st hE e13 (by omega)) (by rw [e13, st_c (by decide)]; exact h8)
theorem ag_57 {x : Wd} {i : Nat} {v2 : Int} (h2 : v2 = 105 * i + 31) (hi : i < 2) : ∀ (n : Nat) {w : Wd} {v3 : Int}, E57 x w → PC (f_R_again_57 n v2 v3 w) (fun _ u => E57 x u ∧ u 43 8 = x 79 (105 * i + 43) ∧ u 43 32 = 0) := by
  intro n
  induction n with
  | zero => intros; exact pc_none
  | succ n ih =>
    intro w v3 hE
    rw [f_R_again_57]
    refine pc_ite (fun _ => ?_) (fun _ => ?_)
    · have w1 := w32_sp (v2 + 10)
      refine pc_let (fun x8 e8 => ?_)
      have w2 := w32_sp (x8 + 2)
      refine pc_gd (fun _ => ?_)
      refine pc_lw (fun u9 e9 => ?_)
      refine pc_gd (fun _ => ?_)
      refine pc_lw (fun u10 e10 => ?_)
      refine pc_gd (fun _ => ?_)
      refine pc_lw (fun u11 e11 => ?_)
      have E9 := e57_st hE e9 (by omega)
      have E10 := e57_st E9 e10 (by omega)
      refine ag_133 FU (e57_st E10 e11 (by omega)) ?_
      rw [e11, st_eq, E10 79 _ (by omega)]
      congr 1
      omega
    · refine pc_gd (fun _ => ?_)
      have nx : ∀ s : Int, PC (f_R_again_87 (f_R_again_57 n) v2 v3 v3 s w) (fun _ u => E57 x u ∧ u 43 8 = x 79 (105 * i + 43) ∧ u 43 32 = 0) := by
        intro s
        unfold f_R_again_87
        refine pc_gd (fun _ => ?_)
        refine pc_lw (fun u15 e15 => ?_)
        refine pc_let (fun x16 e16 => ?_)
        exact ih (e57_st hE e15 (by omega))
      exact pc_ite (fun _ => nx 1) (fun _ => nx 0)
theorem again_pc {w : Wd} {v1 : Int} (h : RS w) : PC (f_R_again v1 w) (fun _ u => IV u ∧ Kb u) := by
  obtain ⟨hG0, hI⟩ := h
  have hG : G md_R_again w w := g_self hG0
  unfold f_R_again
  refine pc_lw (fun u1 e1 => ?_)
  have g1 : G md_R_again w u1 := g_st hG e1 rfl rfl (show (0 : Int) ≤ 0 ∧ (0 : Int) ≤ 1 by decide)
  have i1 := iv_st hI e1 (Or.inr ⟨rfl, by decide⟩)
  rw [in_e, jc_s]
  refine pc_ite (fun _ => pc_some i1) (fun hr => ?_)
  have hv : 0 ≤ v1 ∧ v1 ≤ 1 := by
    by_cases h2 : 0 ≤ v1 ∧ v1 ≤ 1
    · exact h2
    · rw [if_neg h2] at hr; exact absurd rfl hr
  refine pc_gd (fun _ => ?_)
  refine pc_ite (fun _ => pc_some i1) (fun h80 => ?_)
  refine pc_gd (fun _ => ?_)
  refine pc_ite (fun h81 => ?_) (fun _ => pc_some i1)
  obtain ⟨⟨⟨n1, n2⟩, hUn, hKp, ⟨c1, c2, c3⟩, hUI⟩, hK⟩ := i1
  have a0 : (0 : Int) ≤ u1 43 0 ∧ u1 43 0 ≤ 10 := g1.1 43 0
  have w1 := w32_sp (105 * v1)
  refine pc_let (fun x4 e4 => ?_)
  refine pc_call (pc_and (pc_ok (s_R_bring_43_79 (v2 := x4) (g_self g1) (by omega) (by omega))) (bring79 (k := 105 * v1.toNat) (v2 := x4) (by omega) (by omega) u1 (by omega))) (fun r5 u6 q => ?_)
  obtain ⟨⟨_, gy⟩, hD⟩ := q
  have w2 := w32_sp (x4 + 31)
  refine pc_let (fun x7 e7 => ?_)
  refine pc_w (ag_57 (x := u6) (i := v1.toNat) (by omega) (by omega) FU (fun _ _ _ => rfl)) (fun r u q => ?_)
  obtain ⟨hE, q8, q32⟩ := q
  have y0 : u 43 0 = u1 43 0 := (hE 43 0 (by omega)).trans (gy.2.1 43 0 rfl)
  have y56 : u 43 56 = u1 43 56 := (hE 43 56 (by omega)).trans (gy.2.1 43 56 rfl)
  have y79 : ∀ k, u6 79 k = u1 79 k := fun k => gy.2.1 79 k (mS_ar rfl k)
  have y81 : ∀ k, u 81 k = u1 81 k := fun k => (hE 81 k (by omega)).trans (gy.2.1 81 k (mS_ar rfl k))
  have y80 : ∀ k, u 80 k = u1 80 k := fun k => (hE 80 k (by omega)).trans (gy.2.1 80 k (mS_ar rfl k))
  have hD' : ∀ j : Nat, (j : Int) < u1 43 0 → u 47 j = u1 79 (105 * v1.toNat + 3 * j) ∧ u 48 j = u1 79 (105 * v1.toNat + 3 * j + 1) ∧ u 49 j = u1 79 (105 * v1.toNat + 3 * j + 2) := fun j hj => by
    have h1 := hD j hj
    rw [hE 47 j (by omega), hE 48 j (by omega), hE 49 j (by omega)]
    exact h1
  obtain ⟨m1, m2⟩ := hKp v1.toNat (by omega) h80 h81
  simp only at m1 m2
  rw [y79] at q8
  refine ⟨⟨⟨fun j hj hn => ?_, fun j hj => ?_⟩, fun t ht => ?_, ?_, ⟨by omega, by omega, fun m hm => ?_⟩, ?_⟩, ?_⟩
  · rw [y0] at hj
    rw [(hD' j hj).2.1] at hn ⊢
    obtain ⟨b0, b1, b2, b3⟩ := m1 j hj hn
    rw [y0, (hD' _ (show ((u1 79 (105 * v1.toNat + 3 * j + 1)).toNat : Int) < u1 43 0 by omega)).1, (hD' _ (show ((u1 79 (105 * v1.toNat + 3 * j + 1)).toNat : Int) < u1 43 0 by omega)).2.2, (hD' j hj).2.2]
    exact ⟨b0, b1, b2, b3⟩
  · rw [y0] at hj
    rw [(hD' j hj).2.2, q8]
    exact m2 j hj
  · rw [q32] at ht; omega
  · intro m hm k80 k81
    rw [y80] at k80
    rw [y81, y56] at k81
    have h := hKp m hm k80 k81
    rw [y0, show u 79 = u1 79 from funext fun k => (hE 79 k (by omega)).trans (y79 k)]
    exact h
  · rw [y81, y56]; exact c3 m hm
  · rw [q32, q8]
    have a79 := g1.1 79 (105 * v1.toNat + 43)
    rw [r79_w (by omega)] at a79
    exact a79.1
  · exact kb_eq hK y0 (funext fun k => (hE 45 k (by omega)).trans (gy.2.1 45 k (mS_ar rfl k)))
def Z79 (i : Nat) (z : Nat → Int) (w : Wd) : Prop := ∀ k, (k < 105 * i + 31 ∨ 105 * i + 105 ≤ k) → w 79 k = z k
def E79 (x w : Wd) : Prop := ∀ c k, c ≠ 79 → w c k = x c k
theorem kp_125 {x : Wd} {i : Nat} {z : Nat → Int} {wk v2 : Int} (h2 : v2 = 105 * i + 41) (hi : i < 2) : ∀ (n : Nat) {w : Wd} {v3 : Int}, 0 ≤ v3 → E79 x w → Z79 i z w → w 79 (105 * i + 43) = wk → PC (f_R_keep_125 n v2 v3 w) (fun _ u => E79 x u ∧ Z79 i z u ∧ u 79 (105 * i + 43) = wk) := by
  intro n
  induction n with
  | zero => intros; exact pc_none
  | succ n ih =>
    intro w v3 i3 hE hZ hk
    rw [f_R_keep_125]
    have w1 := w32_sp (v3 + 1)
    have w2 := w32_sp (v2 + 3)
    have w3 := w32_sp (w32 (v2 + 3) + v3)
    refine pc_ite (fun _ => pc_some ⟨hE, hZ, hk⟩) (fun h => ?_)
    refine pc_gd (fun _ => ?_)
    refine pc_gd (fun _ => ?_)
    refine pc_lw (fun u14 e14 => ?_)
    refine pc_let (fun x15 e15 => ?_)
    refine ih (by omega) (fun c k hc => ?_) (fun k hk2 => ?_) ?_
    · rw [e14, st_c hc]; exact hE c k hc
    · rw [e14, st_k (by omega)]; exact hZ k hk2
    · rw [e14, st_k (by omega)]; exact hk
theorem kp_52 {x : Wd} {i : Nat} {z : Nat → Int} {v2 : Int} (h2 : v2 = 105 * i + 31) (hi : i < 2) : ∀ (n : Nat) {w : Wd} {v3 : Int}, (0 ≤ v3 ∧ v3 ≤ 10) → E79 x w → Z79 i z w → PC (f_R_keep_52 n v2 v3 w) (fun _ u => E79 x u ∧ Z79 i z u ∧ u 79 (105 * i + 43) = x 43 8) := by
  intro n
  induction n with
  | zero => intros; exact pc_none
  | succ n ih =>
    intro w v3 i3 hE hZ
    rw [f_R_keep_52]
    have w1 := w32_sp (v2 + 10)
    have w2 := w32_sp (v2 + v3)
    have w3 := w32_sp (v3 + 1)
    refine pc_ite (fun _ => ?_) (fun h => ?_)
    · refine pc_let (fun x10 e10 => ?_)
      have w4 := w32_sp (x10 + 1)
      have w5 := w32_sp (x10 + 2)
      refine pc_gd (fun _ => ?_)
      refine pc_lw (fun u11 e11 => ?_)
      refine pc_gd (fun _ => ?_)
      refine pc_lw (fun u12 e12 => ?_)
      refine pc_gd (fun _ => ?_)
      refine pc_lw (fun u13 e13 => ?_)
      have hx : (w32 (x10 + 2)).toNat = 105 * i + 43 := by omega
      refine kp_125 (by omega) hi FU (by decide) (fun c k hc => ?_) (fun k hk => ?_) ?_
      · rw [e13, st_c hc, e12, st_c hc, e11, st_c hc]; exact hE c k hc
      · rw [e13, st_k (by omega), e12, st_k (by omega), e11, st_k (by omega)]; exact hZ k hk
      · rw [e13, hx, st_eq, e12, st_c (by decide), e11, st_c (by decide)]
        exact hE 43 8 (by decide)
    · refine pc_gd (fun _ => ?_)
      have nx : ∀ s : Int, PC (f_R_keep_79 (f_R_keep_52 n) v2 v3 (w32 (v2 + v3)) s w) (fun _ u => E79 x u ∧ Z79 i z u ∧ u 79 (105 * i + 43) = x 43 8) := by
        intro s
        unfold f_R_keep_79
        refine pc_gd (fun _ => ?_)
        refine pc_lw (fun u16 e16 => ?_)
        refine pc_let (fun x17 e17 => ?_)
        refine ih (by omega) (fun c k hc => ?_) (fun k hk => ?_)
        · rw [e16, st_c hc]; exact hE c k hc
        · rw [e16, st_k (by omega)]; exact hZ k hk
      exact pc_ite (fun _ => nx 0) (fun _ => nx 1)
theorem keep_pc {w : Wd} {v1 : Int} (h : RS w) : PC (f_R_keep v1 w) (fun _ u => IV u ∧ Kb u) := by
  obtain ⟨hG0, hI⟩ := h
  have hG : G md_R_keep w w := g_self hG0
  unfold f_R_keep
  refine pc_lw (fun u1 e1 => ?_)
  have g1 : G md_R_keep w u1 := g_st hG e1 rfl rfl (show (0 : Int) ≤ 0 ∧ (0 : Int) ≤ 1 by decide)
  have i1 := iv_st hI e1 (Or.inr ⟨rfl, by decide⟩)
  rw [in_e, jc_s]
  refine pc_ite (fun _ => pc_some i1) (fun hr => ?_)
  have hv : 0 ≤ v1 ∧ v1 ≤ 1 := by
    by_cases h2 : 0 ≤ v1 ∧ v1 ≤ 1
    · exact h2
    · rw [if_neg h2] at hr; exact absurd rfl hr
  obtain ⟨⟨⟨n1, n2⟩, hUn, hKp, ⟨c1, c2, c3⟩, hUI⟩, hK⟩ := i1
  have a0 : (0 : Int) ≤ u1 43 0 ∧ u1 43 0 ≤ 10 := g1.1 43 0
  refine pc_gd (fun _ => ?_)
  have nz1 := nz_rg 1
  refine pc_lw (fun u4 e4 => ?_)
  have g4 : G md_R_keep w u4 := g_st g1 e4 rfl rfl (show (0 : Int) ≤ nz 1 ∧ nz 1 ≤ 1 by omega)
  refine pc_gd (fun _ => ?_)
  have t56 : u4 43 56 = u1 43 56 := by rw [e4, st_c (by decide)]
  have a56 : (-2147483648 : Int) ≤ u4 43 56 ∧ u4 43 56 ≤ 2147483647 := g4.1 43 56
  refine pc_lw (fun u5 e5 => ?_)
  have g5 : G md_R_keep w u5 := g_st g4 e5 rfl rfl (show (-2147483648 : Int) ≤ u4 43 56 ∧ u4 43 56 ≤ 2147483647 by omega)
  have sc : ∀ c k, c ≠ 80 → c ≠ 81 → u5 c k = u1 c k := fun c k h1 h2 => by rw [e5, st_c h2, e4, st_c h1]
  have w1 := w32_sp (105 * v1)
  refine pc_let (fun x6 e6 => ?_)
  refine pc_call (pc_and (pc_ok (s_R_lay_43_79 (v2 := x6) (g_self g5) (by omega) (by omega))) (lay79 (k := 105 * v1.toNat) (v2 := x6) (by omega) (by omega) u5)) (fun r7 u8 q => ?_)
  obtain ⟨⟨_, gy⟩, hD, hO⟩ := q
  have w2 := w32_sp (x6 + 31)
  refine pc_let (fun x9 e9 => ?_)
  refine pc_w (kp_52 (x := u8) (i := v1.toNat) (z := u8 79) (by omega) (by omega) FU (by decide) (fun _ _ _ => rfl) (fun _ _ => rfl)) (fun r u q => ?_)
  obtain ⟨hE, hZ, hk⟩ := q
  have tc : ∀ c k, c ≠ 79 → c ≠ 80 → c ≠ 81 → mS md_R_lay_43_79 c k = false → u c k = u1 c k := fun c k h1 h2 h3 hm => (hE c k h1).trans ((gy.2.1 c k hm).trans (sc c k h2 h3))
  have y0 : u 43 0 = u1 43 0 := tc 43 0 (by decide) (by decide) (by decide) rfl
  have y8 : u 43 8 = u1 43 8 := tc 43 8 (by decide) (by decide) (by decide) rfl
  have y32 : u 43 32 = u1 43 32 := tc 43 32 (by decide) (by decide) (by decide) rfl
  have y56 : u 43 56 = u1 43 56 := tc 43 56 (by decide) (by decide) (by decide) rfl
  have y47 : u 47 = u1 47 := funext fun k => tc 47 k (by decide) (by decide) (by decide) (mS_ar rfl k)
  have y48 : u 48 = u1 48 := funext fun k => tc 48 k (by decide) (by decide) (by decide) (mS_ar rfl k)
  have y49 : u 49 = u1 49 := funext fun k => tc 49 k (by decide) (by decide) (by decide) (mS_ar rfl k)
  have y59 : u 59 = u1 59 := funext fun k => tc 59 k (by decide) (by decide) (by decide) (mS_ar rfl k)
  have y45 : u 45 = u1 45 := funext fun k => tc 45 k (by decide) (by decide) (by decide) (mS_ar rfl k)
  have y80 : ∀ k, k ≠ v1.toNat → u 80 k = u1 80 k := fun k hk2 => by rw [hE 80 k (by decide), gy.2.1 80 k (mS_ar rfl k), e5, st_c (by decide), e4, st_k hk2]
  have y81 : ∀ k, k ≠ v1.toNat → u 81 k = u1 81 k := fun k hk2 => by rw [hE 81 k (by decide), gy.2.1 81 k (mS_ar rfl k), e5, st_k hk2, e4, st_c (by decide)]
  have y81v : u 81 v1.toNat = u1 43 56 := by rw [hE 81 _ (by decide), gy.2.1 81 _ (mS_ar rfl _), e5, st_eq]; exact t56
  have z8 : u8 43 8 = u1 43 8 := (gy.2.1 43 8 rfl).trans (sc 43 8 (by decide) (by decide))
  refine ⟨⟨?_, ?_, fun m hm h80 h81 => ?_, ⟨by omega, by omega, fun m hm => ?_⟩, by omega⟩, kb_eq hK y0 y45⟩
  · rw [y0, y8, y47, y48, y49]; exact ⟨n1, n2⟩
  · intro t ht
    rw [y32] at ht
    rw [y0, y8, y32, y59]
    exact hUn t ht
  · rw [y0]
    by_cases hmv : m = v1.toNat
    · subst hmv
      have hB : ∀ j : Nat, j < 10 → u 79 (105 * v1.toNat + 3 * j) = u1 47 j ∧ u 79 (105 * v1.toNat + 3 * j + 1) = u1 48 j ∧ u 79 (105 * v1.toNat + 3 * j + 2) = u1 49 j := fun j hj => by
        have h1 := hD j hj
        rw [hZ _ (by omega), hZ _ (by omega), hZ _ (by omega), h1.1, h1.2.1, h1.2.2]
        exact ⟨sc 47 j (by decide) (by decide), sc 48 j (by decide) (by decide), sc 49 j (by decide) (by decide)⟩
      refine ⟨fun j hj hn => ?_, fun j hj => ?_⟩
      · simp only at hn ⊢
        rw [(hB j (by omega)).2.1] at hn ⊢
        obtain ⟨b0, b1, b2, b3⟩ := n1 j hj hn
        rw [(hB (u1 48 j).toNat (by omega)).1, (hB (u1 48 j).toNat (by omega)).2.2, (hB j (by omega)).2.2]
        exact ⟨b0, b1, b2, b3⟩
      · simp only
        rw [(hB j (by omega)).2.2, hk, z8]
        exact n2 j hj
    · rw [y80 m hmv] at h80
      rw [y81 m hmv, y56] at h81
      obtain ⟨m1, m2⟩ := hKp m hm h80 h81
      simp only at m1 m2
      have hB : ∀ k, 105 * m ≤ k → k < 105 * m + 105 → u 79 k = u1 79 k := fun k h1 h2 => by
        rw [hZ k (by omega), hO k (by omega)]
        exact sc 79 k (by decide) (by decide)
      refine ⟨fun j hj hn => ?_, fun j hj => ?_⟩
      · simp only at hn ⊢
        have e1 : u 79 (105 * m + 3 * j + 1) = u1 79 (105 * m + 3 * j + 1) := hB _ (by omega) (by omega)
        rw [e1] at hn ⊢
        obtain ⟨b0, b1, b2, b3⟩ := m1 j hj hn
        rw [hB (105 * m + 3 * (u1 79 (105 * m + 3 * j + 1)).toNat) (by omega) (by omega), hB (105 * m + 3 * (u1 79 (105 * m + 3 * j + 1)).toNat + 2) (by omega) (by omega), hB (105 * m + 3 * j + 2) (by omega) (by omega)]
        exact ⟨b0, b1, b2, b3⟩
      · simp only
        rw [hB (105 * m + 3 * j + 2) (by omega) (by omega), hB (105 * m + 43) (by omega) (by omega)]
        exact m2 j hj
  · by_cases hmv : m = v1.toNat
    · rw [hmv, y81v]; omega
    · rw [y81 m hmv, y56]; exact c3 m hm
/-! week -/
theorem wk_259 {b : Wd} {k152 : Int → Int → Wd → Option (Int × Wd)} {v1 v3 v4 v5 s0 : Int} {w : Wd} (hG : G md_R_week b w) (hI : IV w ∧ Kb w) (h : s0 ≠ 0 → ((0 ≤ v4 ∧ v4 ≤ 9) ∧ (0 ≤ v5 ∧ v5 ≤ 9) ∧ ∀ u : Wd, u = st w 58 v4.toNat v5 → G md_R_week b u → IV u ∧ Kb u → PC (k152 v1 (w32 (v3 + 1)) u) (fun _ u => IV u ∧ Kb u))) : PC (f_R_week_259 k152 v1 v3 v4 v5 s0 w) (fun _ u => IV u ∧ Kb u) := by
  unfold f_R_week_259
  refine pc_ite (fun _ => pc_some hI) (fun hs => ?_)
  obtain ⟨i4, i5, hk⟩ := h hs
  refine pc_gd (fun _ => ?_)
  refine pc_lw (fun u17 e17 => ?_)
  have g17 : G md_R_week b u17 := g_st hG e17 rfl rfl (show (-1 : Int) ≤ v5 ∧ v5 ≤ 9 by omega)
  refine pc_let (fun x18 e18 => ?_)
  rw [e18]
  exact hk u17 e17 g17 (iv_st hI e17 (Or.inl (by decide)))
theorem wk_152 {b : Wd} {v1 : Int} : ∀ (n : Nat) {w : Wd} {v3 : Int}, G md_R_week b w → IV w ∧ Kb w → BR w → w 43 8 ≤ 59 → PC (f_R_week_152 n v1 v3 w) (fun _ u => IV u ∧ Kb u) := by
  intro n
  induction n with
  | zero => intros; exact pc_none
  | succ n ih =>
    intro w v3 hG hI hB h8
    rw [f_R_week_152]
    have a0 : (0 : Int) ≤ w 43 0 ∧ w 43 0 ≤ 10 := hG.1 43 0
    have x305 : PC (f_R_week_305 w) (fun _ u => IV u ∧ Kb u) := by
      unfold f_R_week_305
      exact pc_call (gw_pc (g_self hG) hI hB h8) (fun r u q => pc_some q)
    refine pc_ite (fun _ => ?_) (fun _ => ?_)
    · refine pc_ite (fun _ => x305) (fun _ => ?_)
      refine pc_call (pc_ok (s_R_guestsThen (g_self hG))) (fun r11 u12 q => ?_)
      have e := g_nil q.2
      subst e
      exact pc_ite (fun _ => x305) (fun _ => pc_some hI)
    · refine pc_gd (fun _ => ?_)
      refine pc_let (fun x13 e13 => ?_)
      refine pc_gd (fun _ => ?_)
      refine pc_let (fun x14 e14 => ?_)
      have x258 : PC (f_R_week_258 (f_R_week_152 n) v1 v3 x13 x14 w) (fun _ u => IV u ∧ Kb u) := by
        unfold f_R_week_258
        exact wk_259 hG hI (fun h => absurd rfl h)
      refine pc_call (one_pc a0) (fun r15 u16 q => ?_)
      obtain ⟨e, q15⟩ := q
      subst e
      refine pc_ite (fun _ => x258) (fun h15 => ?_)
      have i13 := q15 h15
      refine pc_gd (fun _ => ?_)
      rw [isG_e, jc_s]
      refine pc_ite (fun _ => x258) (fun _ => ?_)
      refine pc_gd (fun _ => ?_)
      refine pc_ite (fun _ => ?_) (fun _ => x258)
      refine pc_call (one_pc a0) (fun r21 u22 q => ?_)
      obtain ⟨e, q21⟩ := q
      subst e
      refine pc_ite (fun _ => x258) (fun h21 => ?_)
      have i14 := q21 h21
      refine pc_call (free_pc hG) (fun r23 u24 q => ?_)
      obtain ⟨e, q23⟩ := q
      subst e
      rw [has_e _ (by omega), jc_s]
      cases hb : bt r23 x14.toNat with
      | false => exact pc_ite (fun _ => x258) (fun h => absurd rfl h)
      | true =>
        refine pc_ite (fun h => absurd h (by simp)) (fun _ => ?_)
        have hf := q23 x14.toNat (by omega) hb
        refine pc_gd (fun _ => ?_)
        rw [has_eq, jc_s]
        refine pc_ite (fun _ => x258) (fun _ => ?_)
        refine pc_call (pc_ok (s_R_broughtNow (g_self hG))) (fun r29 u30 q => ?_)
        have e := g_nil q.2
        subst e
        rw [has_eq, jc_s]
        refine pc_ite (fun _ => ?_) (fun _ => x258)
        refine wk_259 hG hI (fun _ => ⟨by omega, by omega, fun u e gu hu => ih gu hu (fun k hk hne => ?_) ?_⟩)
        · have t0 : u 43 0 = u30 43 0 := by rw [e, st_c (by decide)]
          have t47 : ∀ k, u 47 k = u30 47 k := fun k => by rw [e, st_c (by decide)]
          rw [t0] at hk ⊢
          by_cases hkv : k = x13.toNat
          · have e58 : u 58 k = x14 := by rw [e, hkv, st_eq]
            rw [e58, t47]
            exact ⟨i14.1, i14.2, hf.2⟩
          · have e58 : u 58 k = u30 58 k := by rw [e, st_k hkv]
            rw [e58] at hne ⊢
            rw [t47]
            exact hB k hk hne
        · rw [e, st_c (by decide)]; exact h8
theorem wk_119 {b w : Wd} {v1 : Int} (hG : G md_R_week b w) (hI : IV w ∧ Kb w) : PC (f_R_week_119 v1 w) (fun _ u => IV u ∧ Kb u) := by
  unfold f_R_week_119
  rw [fine_e, jc_s]
  refine pc_ite (fun _ => pc_some hI) (fun _ => ?_)
  have a8 : (0 : Int) ≤ w 43 8 ∧ w 43 8 ≤ 60 := hG.1 43 8
  have a0 : (0 : Int) ≤ w 43 0 ∧ w 43 0 ≤ 10 := hG.1 43 0
  refine pc_ite (fun _ => pc_some hI) (fun h => ?_)
  have nb : PC (f_R_nobody w) (fun _ u => ∀ k : Nat, k < 10 → u 58 k = -1) := by
    unfold f_R_nobody
    exact nb_pc FU (by decide) (fun k hk => by omega)
  refine pc_call (pc_and (pc_ok (s_R_nobody (g_self hG))) nb) (fun r7 u8 q => ?_)
  obtain ⟨⟨_, gy⟩, hn⟩ := q
  have t0 : u8 43 0 = w 43 0 := gy.2.1 43 0 rfl
  have t8 : u8 43 8 = w 43 8 := gy.2.1 43 8 rfl
  exact wk_152 FU (g_tr hG gy rfl) (iv_ff hI gy rfl) (fun k hk hne => absurd (hn k (by omega)) hne) (by omega)
theorem wk_39 {b : Wd} : ∀ (n : Nat) {w : Wd} {v1 v2 : Int}, G md_R_week b w → IV w ∧ Kb w → w 43 17 = 52 → PC (f_R_week_39 n v1 v2 w) (fun _ u => IV u ∧ Kb u) := by
  intro n
  induction n with
  | zero => intros; exact pc_none
  | succ n ih =>
    intro w v1 v2 hG hI h17
    rw [f_R_week_39]
    have x100 : PC (f_R_week_100 v1 w) (fun _ u => IV u ∧ Kb u) := by
      unfold f_R_week_100
      refine pc_ite (fun _ => wk_119 hG hI) (fun _ => ?_)
      exact flt_pc hG (fun r u gu _ => wk_119 (g_tr hG gu rfl) (iv_ff hI gu rfl))
    refine pc_ite (fun _ => x100) (fun _ => ?_)
    rw [fine_e, jc_s]
    refine pc_ite (fun _ => x100) (fun _ => ?_)
    refine pc_call (pc_ok (s_R_readLetter (g_self hG) (Or.inl h17))) (fun r37 u38 q => ?_)
    obtain ⟨ir, gy, _⟩ := q
    have g38 : G md_R_week b u38 := g_tr hG gy rfl
    have i38 := iv_ff hI gy rfl
    refine pc_gd (fun _ => ?_)
    refine pc_lw (fun u39 e39 => ?_)
    have g39 : G md_R_week b u39 := g_st g38 e39 rfl rfl (show (-225 : Int) ≤ r37 ∧ r37 ≤ 30 by omega)
    have i39 := iv_st i38 e39 (Or.inl (by decide))
    have t39 : u39 43 17 = 52 := by rw [e39, st_c (by decide)]; exact (gy.2.1 43 17 rfl).trans h17
    refine pc_call (pc_ok (s_R_passes (g_self g39) (by decide) (Or.inl t39) (by decide))) (fun r40 u41 q => ?_)
    have gz := q.2.1
    have g41 : G md_R_week b u41 := g_tr g39 gz rfl
    have i41 := iv_ff i39 gz rfl
    have t41 : u41 43 17 = 52 := (gz.2.1 43 17 rfl).trans t39
    have x77 : ∀ {u : Wd}, G md_R_week b u → IV u ∧ Kb u → u 43 17 = 52 → PC (f_R_week_77 (f_R_week_39 n) v1 u) (fun _ u => IV u ∧ Kb u) := by
      intro u gu hu u17
      unfold f_R_week_77
      refine pc_call (pc_ok (s_R_readLetter (g_self gu) (Or.inl u17))) (fun r42 u43 q => ?_)
      obtain ⟨ir2, gy2, _⟩ := q
      have g43 : G md_R_week b u43 := g_tr gu gy2 rfl
      refine pc_gd (fun _ => ?_)
      refine pc_lw (fun u44 e44 => ?_)
      have g44 : G md_R_week b u44 := g_st g43 e44 rfl rfl (show (-225 : Int) ≤ r42 ∧ r42 ≤ 30 by omega)
      have i44 := iv_st (iv_ff hu gy2 rfl) e44 (Or.inl (by decide))
      have t44 : u44 43 17 = 52 := by rw [e44, st_c (by decide)]; exact (gy2.2.1 43 17 rfl).trans u17
      refine pc_let (fun x45 e45 => ?_)
      refine pc_call (pc_ok (s_R_passes (g_self g44) (by decide) (Or.inl t44) (by decide))) (fun r46 u47 q => ?_)
      exact ih (g_tr g44 q.2.1 rfl) (iv_ff i44 q.2.1 rfl) ((q.2.1.2.1 43 17 rfl).trans t44)
    refine pc_ite (fun _ => ?_) (fun _ => x77 g41 i41 t41)
    exact flt_pc g41 (fun r u gu _ => x77 (g_tr g41 gu rfl) (iv_ff i41 gu rfl) ((gu.2.1 43 17 rfl).trans t41))
theorem week_pc {w : Wd} (h : RS w) : PC (f_R_week w) (fun _ u => IV u ∧ Kb u) := by
  obtain ⟨hG0, hI⟩ := h
  have hG : G md_R_week w w := g_self hG0
  unfold f_R_week
  refine pc_lw (fun u1 e1 => ?_)
  have g1 : G md_R_week w u1 := g_st hG e1 rfl rfl (show (0 : Int) ≤ 0 ∧ (0 : Int) ≤ 1 by decide)
  have i1 := iv_st hI e1 (Or.inr ⟨rfl, by decide⟩)
  have a13 : (0 : Int) ≤ u1 43 13 ∧ u1 43 13 ≤ 80 := g1.1 43 13
  refine pc_call (pc_ok (s_R_begin1_43_51 (g_self g1) (by omega) (by omega))) (fun r2 u3 q => ?_)
  obtain ⟨_, gy, p17, _⟩ := q
  have g3 : G md_R_week w u3 := g_tr g1 gy rfl
  have i3 := iv_ff i1 gy rfl
  refine pc_lw (fun u4 e4 => ?_)
  have g4 : G md_R_week w u4 := g_st g3 e4 rfl rfl (show (0 : Int) ≤ 0 ∧ (0 : Int) ≤ 80 by decide)
  have i4 := iv_st i3 e4 (Or.inr ⟨rfl, by decide⟩)
  have t4 : u4 43 17 = 52 := by rw [e4, st_k (by decide)]; exact p17
  have x38 : ∀ s : Int, PC (f_R_week_38 0 s u4) (fun _ u => IV u ∧ Kb u) := by
    intro s
    unfold f_R_week_38
    exact wk_39 FU g4 i4 t4
  exact pc_ite (fun _ => x38 0) (fun _ => x38 1)
