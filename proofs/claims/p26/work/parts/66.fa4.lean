/-! the reference reads: what stands in its lines -/
def RCt (h : Int → Int) (a : Int) (j : Nat) (w : Wd) : Prop := ∀ i : Nat, i < j → w 53 (a + i).toNat = lpr h a i ∧ w 54 (a + i).toNat = lkn h a i ∧ w 55 (a + i).toNat = (if lgs h a i = true then 1 else 0) ∧ w 56 (a + i).toNat = (if lhi h a i = true then 1 else 0)
/-- rows of one, and what stays of others -/
def R5 (x : Nat) (w u : Wd) : Prop := ∀ i, i ≠ x → u 53 i = w 53 i ∧ u 54 i = w 54 i ∧ u 55 i = w 55 i ∧ u 56 i = w 56 i
theorem r5_tr {x : Nat} {w u v : Wd} (h : R5 x w u) (h2 : R5 x u v) : R5 x w v := fun i hi => by
  obtain ⟨a1, a2, a3, a4⟩ := h i hi
  obtain ⟨b1, b2, b3, b4⟩ := h2 i hi
  exact ⟨b1.trans a1, b2.trans a2, b3.trans a3, b4.trans a4⟩
theorem r5_st {x : Nat} {w u : Wd} {c k : Nat} {z : Int} (e : u = st w c k z) (hc : (c ≠ 53 ∧ c ≠ 54 ∧ c ≠ 55 ∧ c ≠ 56) ∨ k = x) : R5 x w u := by
  intro i hi
  rw [e]
  rcases hc with hc | hc
  · rw [st_c (Ne.symm hc.1), st_c (Ne.symm hc.2.1), st_c (Ne.symm hc.2.2.1), st_c (Ne.symm hc.2.2.2)]
    exact ⟨rfl, rfl, rfl, rfl⟩
  · have hk : i ≠ k := by omega
    refine ⟨?_, ?_, ?_, ?_⟩
    · unfold st; rw [if_neg (fun h => hk h.2)]
    · unfold st; rw [if_neg (fun h => hk h.2)]
    · unfold st; rw [if_neg (fun h => hk h.2)]
    · unfold st; rw [if_neg (fun h => hk h.2)]
theorem n142 {n0 : Int} {f0 : Nat → Int} {P0 : Int} {w : Wd} {v1 s2 : Int} (h : RV n0 f0 P0 w) (h21 : w 43 21 = -1) (h20 : 0 ≤ w 43 20 ∧ w 43 20 ≤ 76) : PC (f_R_readOne_142 v1 v1 s2 w) (fun _ u => R5 v1.toNat w u ∧ u 53 v1.toNat = w 53 v1.toNat ∧ u 54 v1.toNat = w 54 v1.toNat ∧ u 55 v1.toNat = s2 ∧ u 56 v1.toNat = (if hR n0 f0 (w 43 20) = 63 then 1 else 0)) := by
  unfold f_R_readOne_142
  refine pc_gd (fun _ => ?_)
  refine pc_lw (fun u16 e16 => ?_)
  have h16 := rv_st h e16 (by decide) (Or.inl (by decide))
  have t20 : u16 43 20 = w 43 20 := by rw [e16, st_c (by decide)]
  have t21 : u16 43 21 = -1 := by rw [e16, st_c (by decide)]; exact h21
  have r16 : R5 v1.toNat w u16 := r5_st e16 (Or.inr rfl)
  refine pc_call (ps_pc h16 63 (by omega)) (fun r17 u18 q => ?_)
  rw [t20] at q
  refine pc_gd (fun _ => ?_)
  refine pc_lw (fun u19 e19 => ?_)
  have r19 : R5 v1.toNat u18 u19 := r5_st e19 (Or.inr rfl)
  have n1 : nz 1 = 1 := by decide
  have n0 : nz 0 = 0 := by decide
  rcases q with ⟨_, q1, q2, q3⟩ | ⟨q1, q2, q3⟩
  · have r18 : R5 v1.toNat u16 u18 := r5_st q3 (Or.inl (by decide))
    refine pc_some ⟨r5_tr (r5_tr r16 r18) r19, ?_, ?_, ?_, ?_⟩
    · rw [e19, st_c (by decide), q3, st_c (by decide), e16, st_c (by decide)]
    · rw [e19, st_c (by decide), q3, st_c (by decide), e16, st_c (by decide)]
    · rw [e19, st_c (by decide), q3, st_c (by decide), e16, st_eq]
    · rw [e19, st_eq, q2, if_pos q1]; exact n1
  · rw [q3] at e19 r19
    refine pc_some ⟨r5_tr r16 r19, ?_, ?_, ?_, ?_⟩
    · rw [e19, st_c (by decide), e16, st_c (by decide)]
    · rw [e19, st_c (by decide), e16, st_c (by decide)]
    · rw [e19, st_c (by decide), e16, st_eq]
    · rw [e19, st_eq, q2, if_neg (fun h2 => q1 ⟨t21, h2⟩)]; exact n0
theorem nr55 {n0 : Int} {f0 : Nat → Int} {P0 : Int} {v1 : Int} (i1 : 0 ≤ v1 ∧ v1 ≤ 9) : ∀ (n : Nat) {w : Wd} {v2 acc : Int} (k : Nat), v2 + 1 = v1 - k → -1 ≤ v2 → RV n0 f0 P0 w → w 43 21 = -1 → (0 ≤ w 43 20 ∧ w 43 20 ≤ 76) → w 54 v1.toNat = acc → PC (f_R_readOne_55 n v1 v2 w) (fun _ u => R5 v1.toNat w u ∧ (u 43 21 = -1 → u 53 v1.toNat = w 53 v1.toNat ∧ u 54 v1.toNat = lk (hR n0 f0) v1 k (w 43 20) acc ∧ u 55 v1.toNat = (if hR n0 f0 (lt (hR n0 f0) v1 k (w 43 20)) = 33 then 1 else 0) ∧ u 56 v1.toNat = (if hR n0 f0 (if hR n0 f0 (lt (hR n0 f0) v1 k (w 43 20)) = 33 then lt (hR n0 f0) v1 k (w 43 20) + 1 else lt (hR n0 f0) v1 k (w 43 20)) = 63 then 1 else 0))) := by
  intro n
  induction n with
  | zero => intros; exact pc_none
  | succ n ih =>
    intro w v2 acc k hk i2 h h21 h20 h54
    rw [f_R_readOne_55]
    refine pc_call (here_pc h) (fun r10 u11 q => ?_)
    obtain ⟨q1, q2⟩ := q
    rw [q1, in_e, jc_s]
    refine pc_ite (fun hc => ?_) (fun hc => ?_)
    · have hn : ¬ (97 ≤ r10 ∧ r10 ≤ 106) := fun h2 => by rw [if_pos h2] at hc; exact absurd hc (by decide)
      have e0 : lt (hR n0 f0) v1 k (w 43 20) = w 43 20 := lt_none k (fun x h1 h2 e => hn (by omega))
      have e1 : lk (hR n0 f0) v1 k (w 43 20) acc = acc := lk_none k (fun x h1 h2 e => hn (by omega))
      rw [e0, e1]
      refine pc_call (ps_pc h 33 h20) (fun r14 u15 q => ?_)
      rcases q with ⟨_, p1, p2, p3⟩ | ⟨p1, p2, p3⟩
      · have l5 := hR_lt (n := n0) (f := f0) (p := w 43 20) (by omega)
        have t20 : u15 43 20 = w 43 20 + 1 := by rw [p3, st_eq]
        refine pc_ite (fun h => absurd (p2.symm.trans h) (by decide)) (fun _ => ?_)
        refine pc_w (n142 (v1 := v1) (rv_st h p3 (by decide) (Or.inr (by decide))) (by rw [p3, st_k (by decide)]; exact h21) (by omega)) (fun r u q => ⟨r5_tr (r5_st p3 (Or.inl (by decide))) q.1, fun _ => ⟨?_, ?_, ?_, ?_⟩⟩)
        · rw [q.2.1, p3, st_c (by decide)]
        · rw [q.2.2.1, p3, st_c (by decide)]; exact h54
        · rw [if_pos p1]; exact q.2.2.2.1
        · rw [if_pos p1, q.2.2.2.2, t20]
      · refine pc_ite (fun _ => ?_) (fun h => absurd p2 h)
        rw [p3]
        have np : ¬ hR n0 f0 (w 43 20) = 33 := fun h2 => p1 ⟨h21, h2⟩
        refine pc_w (n142 (v1 := v1) h h21 h20) (fun r u q => ⟨q.1, fun _ => ⟨q.2.1, q.2.2.1.trans h54, ?_, ?_⟩⟩)
        · rw [if_neg np]; exact q.2.2.2.1
        · rw [if_neg np]; exact q.2.2.2.2
    · have hl : 97 ≤ r10 ∧ r10 ≤ 106 := by
        by_cases h2 : 97 ≤ r10 ∧ r10 ≤ 106
        · exact h2
        · rw [if_neg h2] at hc; exact absurd rfl hc
      have l5 := hR_lt (n := n0) (f := f0) (p := w 43 20) (by omega)
      have f87 : PC (f_R_readOne_87 w) (fun _ u => R5 v1.toNat w u ∧ (u 43 21 = -1 → u 53 v1.toNat = w 53 v1.toNat ∧ u 54 v1.toNat = lk (hR n0 f0) v1 k (w 43 20) acc ∧ u 55 v1.toNat = (if hR n0 f0 (lt (hR n0 f0) v1 k (w 43 20)) = 33 then 1 else 0) ∧ u 56 v1.toNat = (if hR n0 f0 (if hR n0 f0 (lt (hR n0 f0) v1 k (w 43 20)) = 33 then lt (hR n0 f0) v1 k (w 43 20) + 1 else lt (hR n0 f0) v1 k (w 43 20)) = 63 then 1 else 0))) := by
        unfold f_R_readOne_87
        refine pc_call (fl_pc w (w 43 20)) (fun r23 u24 q => ?_)
        rw [if_pos h21] at q
        refine pc_some ⟨r5_st q (Or.inl (by decide)), fun e => ?_⟩
        rw [q, st_eq] at e
        exfalso; omega
      refine pc_call (here_pc h) (fun r20 u21 q => ?_)
      obtain ⟨p1, p2⟩ := q
      rw [p1]
      have w1 := w32_sp (r20 - 97)
      refine pc_let (fun x22 e22 => ?_)
      have e23 : hR n0 f0 (w 43 20) = 97 + x22 := by omega
      refine pc_ite (fun c1 => f87) (fun c1 => ?_)
      refine pc_ite (fun c2 => ?_) (fun c2 => f87)
      refine pc_gd (fun _ => ?_)
      refine pc_gd (fun _ => ?_)
      refine pc_lw (fun u25 e25 => ?_)
      have t20 : u25 43 20 = w 43 20 := by rw [e25, st_c (by decide)]
      have w2 := w32_sp (u25 43 20 + 1)
      refine pc_lw (fun u26 e26 => ?_)
      have t26 : u26 43 20 = w 43 20 + 1 := by rw [e26, st_eq]; omega
      rw [lt_skip e23 c2 k (by omega), lk_skip e23 c2 k (by omega), ← t26]
      refine pc_w (ih (v1 - x22 - 1).toNat (acc := ior acc (ishl 1 x22)) (by omega) (by omega) (rv_st (rv_st h e25 (by decide) (Or.inl (by decide))) e26 (by decide) (Or.inr (by decide))) (by rw [e26, st_k (by decide), e25, st_c (by decide)]; exact h21) (by omega) (by rw [e26, st_c (by decide), e25, st_eq, h54])) (fun r u q => ⟨r5_tr (r5_tr (r5_st e25 (Or.inr rfl)) (r5_st e26 (Or.inl (by decide)))) q.1, fun e => ?_⟩)
      obtain ⟨y1, y2⟩ := q.2 e
      exact ⟨by rw [y1, e26, st_c (by decide), e25, st_c (by decide)], y2⟩
theorem nrl {n0 : Int} {f0 : Nat → Int} {P0 : Int} {a : Int} {j : Nat} (ha : 0 ≤ a) (haj : a + j ≤ 9) {w : Wd} (h : RV n0 f0 P0 w) (h21 : w 43 21 = -1) (h20 : 0 ≤ w 43 20 ∧ w 43 20 ≤ 76) (hl : w 43 20 = lp (hR n0 f0) a j) (hc : RCt (hR n0 f0) a j w) : PC (f_R_readOne (a + j) w) (fun _ u => u 43 21 = -1 → RCt (hR n0 f0) a (j + 1) u) := by
  unfold f_R_readOne
  refine pc_call (here_pc h) (fun r1 u2 q => ?_)
  obtain ⟨q1, q2⟩ := q
  rw [q1, in_e, jc_s]
  refine pc_ite (fun hc => ?_) (fun hcc => ?_)
  · refine pc_call (fl_pc w (w 43 20)) (fun r27 u28 q => ?_)
    rw [if_pos h21] at q
    refine pc_some (fun e => ?_)
    rw [q, st_eq] at e
    exfalso; omega
  · have hl2 : 48 ≤ r1 ∧ r1 ≤ 57 := by
      by_cases h2 : 48 ≤ r1 ∧ r1 ≤ 57
      · exact h2
      · rw [if_neg h2] at hcc; exact absurd rfl hcc
    have l5 := hR_lt (n := n0) (f := f0) (p := w 43 20) (by omega)
    refine pc_call (here_pc h) (fun r5 u6 q => ?_)
    obtain ⟨p1, p2⟩ := q
    rw [p1]
    have w3 := w32_sp (r5 - 48)
    refine pc_gd (fun _ => ?_)
    refine pc_lw (fun u7 e7 => ?_)
    have t20 : u7 43 20 = w 43 20 := by rw [e7, st_c (by decide)]
    have w2 := w32_sp (u7 43 20 + 1)
    refine pc_lw (fun u8 e8 => ?_)
    refine pc_gd (fun _ => ?_)
    refine pc_lw (fun u9 e9 => ?_)
    have t9 : u9 43 20 = w 43 20 + 1 := by rw [e9, st_c (by decide), e8, st_eq]; omega
    have t53 : u9 53 (a + j).toNat = lpr (hR n0 f0) a j := by
      rw [e9, st_c (by decide), e8, st_c (by decide), e7, st_eq]
      unfold lpr
      rw [← hl, ← p2]; omega
    refine pc_w (nr55 (v1 := a + j) (acc := 0) (by omega) FU (a + j).toNat (by omega) (by omega) (rv_st (rv_st (rv_st h e7 (by decide) (Or.inl (by decide))) e8 (by decide) (Or.inr (by decide))) e9 (by decide) (Or.inl (by decide))) (by rw [e9, st_c (by decide), e8, st_k (by decide), e7, st_c (by decide)]; exact h21) (by omega) (by rw [e9, st_eq])) (fun r u q e => ?_)
    obtain ⟨q5, qv⟩ := q
    obtain ⟨y1, y2, y3, y4⟩ := qv e
    have r5 := r5_tr (r5_tr (r5_tr (r5_st (x := (a + j).toNat) e7 (Or.inr rfl)) (r5_st e8 (Or.inl (by decide)))) (r5_st e9 (Or.inr rfl))) q5
    rw [t9, hl] at y2 y3 y4
    intro i hi
    by_cases c : i = j
    · rw [c]
      refine ⟨y1.trans t53, y2, ?_, ?_⟩
      · rw [y3]
        unfold lgs le1
        simp only [decide_eq_true_eq]
      · rw [y4]
        unfold lhi le1
        simp only [decide_eq_true_eq]
    · obtain ⟨z1, z2, z3, z4⟩ := r5 (a + i).toNat (by omega)
      obtain ⟨x1, x2, x3, x4⟩ := hc i (by omega)
      exact ⟨z1.trans x1, z2.trans x2, z3.trans x3, z4.trans x4⟩
/-! PEOPLE ARE ADDED -/
def wth (x i : Int) (b : Bool) : Int := if b = true then ior x (ishl 1 i) else iand x (ixor (ishl 1 i) (-1))
theorem with_e (x i : Int) (b : Bool) (w : Wd) : f_E_with x i (if b = true then 1 else 0) w = some (wth x i b, w) := by
  unfold f_E_with wth
  cases b <;> rfl
theorem wth_no {x i : Int} (hx : 0 ≤ x ∧ x ≤ 1023) (hi : 0 ≤ i ∧ i ≤ 9) (h : bt x i.toNat = false) : wth x i false = x := by
  unfold wth
  rw [if_neg (by decide)]
  refine b10_eq (b10_andn (b10_self hx) (b10_1 hi).2) (b10_self hx) (fun k _ => ?_)
  by_cases c : k = i.toNat
  · rw [c, h]; rfl
  · rw [decide_eq_false c]; simp
/-- whom all know when one more comes -/
def adk (kn : Nat → Int) (i : Nat) (k : Int) (j : Nat) : Int := if j = i then k else if j < i ∧ bt k j = true then ior (kn j) (ishl 1 (i : Int)) else kn j
def ads (kn : Nat → Int) (a : Nat) (k : Nat → Int) : Nat → Nat → Int
  | 0 => kn
  | n + 1 => adk (ads kn a k n) (a + n) (k n)
/-- known ones of so many are among them -/
def KNW (i : Nat) (kn : Nat → Int) : Prop := ∀ j : Nat, j < i → (0 ≤ kn j ∧ kn j ≤ 1023) ∧ ∀ q, q < 10 → bt (kn j) q = true → q < i
theorem kw_adk {i : Nat} {kn : Nat → Int} {k : Int} (hi : i ≤ 9) (h : KNW i kn) (hk : (0 ≤ k ∧ k ≤ 1023) ∧ ∀ q, q < 10 → bt k q = true → q < i) : KNW (i + 1) (adk kn i k) := by
  intro j hj
  unfold adk
  by_cases c : j = i
  · rw [if_pos c]; exact ⟨hk.1, fun q hq hb => by have := hk.2 q hq hb; omega⟩
  · rw [if_neg c]
    obtain ⟨h1, h2⟩ := h j (by omega)
    by_cases c2 : j < i ∧ bt k j = true
    · rw [if_pos c2]
      have b := b10_or (b10_self h1) (b10_1 (i := (i : Int)) (by omega))
      refine ⟨b.1, fun q hq hb => ?_⟩
      rw [b.2 q hq, Bool.or_eq_true] at hb
      rcases hb with hb | hb
      · have := h2 q hq hb; omega
      · have := of_decide_eq_true hb; omega
    · rw [if_neg c2]; exact ⟨h1, fun q hq hb => by have := h2 q hq hb; omega⟩
theorem kw_ads {a : Nat} {kn : Nat → Int} {k : Nat → Int} (h : KNW a kn) : ∀ {n : Nat}, a + n ≤ 10 → (∀ i, i < n → (0 ≤ k i ∧ k i ≤ 1023) ∧ ∀ q, q < 10 → bt (k i) q = true → q < a + i) → KNW (a + n) (ads kn a k n) := by
  intro n
  induction n with
  | zero => intro _ _; exact h
  | succ n ih => intro hn hk; exact kw_adk (i := a + n) (by omega) (ih (by omega) (fun i hi => hk i (by omega))) (hk n (by omega))
theorem ads_eq {a : Nat} {kn kn2 : Nat → Int} {k k2 : Nat → Int} (h : ∀ j, j < a → kn j = kn2 j) : ∀ {n : Nat}, (∀ i, i < n → k i = k2 i) → ∀ j, j < a + n → ads kn a k n j = ads kn2 a k2 n j := by
  intro n
  induction n with
  | zero => intro _ j hj; exact h j hj
  | succ n ih =>
    intro hk j hj
    have ih2 := ih (fun i hi => hk i (by omega))
    show adk _ _ _ _ = adk _ _ _ _
    unfold adk
    rw [hk n (by omega)]
    by_cases c : j = a + n
    · rw [if_pos c, if_pos c]
    · rw [if_neg c, if_neg c, ih2 j (by omega)]
/-- one comes to the class -/
def EA1 (i : Nat) (p k : Int) (w u : Wd) : Prop := u 5 3 = (i : Int) + 1 ∧ (∀ j, u 6 j = if j = i then p else w 6 j) ∧ (∀ j, j < i + 1 → u 7 j = adk (w 7) i k j) ∧ (∀ j, u 8 j = if j = i then -1 else w 8 j) ∧ ∀ c k, c ≠ 6 → c ≠ 7 → c ≠ 8 → ¬ (c = 5 ∧ k = 3) → u c k = w c k
theorem ea42 {i : Nat} (hi : i ≤ 9) {k : Int} {z : Nat → Int} (hz : KNW i z) (x : Wd) : ∀ (n : Nat) {w : Wd} {v3 : Int}, 0 ≤ v3 → v3 ≤ i → w 5 3 = i → w 7 i = k → (∀ j : Nat, j < i → w 7 j = if (j : Int) < v3 then adk z i k j else z j) → (∀ c k, c ≠ 7 → w c k = x c k) → PC (f_F_add_42 n k v3 w) (fun _ u => u 5 3 = (i : Int) + 1 ∧ u 7 i = k ∧ (∀ j : Nat, j < i → u 7 j = adk z i k j) ∧ ∀ c k, c ≠ 7 → ¬ (c = 5 ∧ k = 3) → u c k = x c k) := by
  intro n
  induction n with
  | zero => intros; exact pc_none
  | succ n ih =>
    intro w v3 i3 i4 h3 h7i h7 hx
    rw [f_F_add_42, h3]
    have w1 := w32_sp ((i : Int) + 1)
    refine pc_ite (fun c => ?_) (fun c => ?_)
    · refine pc_lw (fun u4 e4 => pc_some ⟨?_, ?_, fun j hj => ?_, fun c k h1 h2 => ?_⟩)
      · rw [e4, st_eq]; omega
      · rw [e4, st_c (by decide)]; exact h7i
      · rw [e4, st_c (by decide), h7 j hj, if_pos (by omega)]
      · rw [e4]; unfold st; rw [if_neg h2]; exact hx c k h1
    · refine pc_gd (fun _ => ?_)
      rw [hasE_e w (by omega), jc_s, with_e, jc_s]
      refine pc_gd (fun _ => ?_)
      refine pc_lw (fun u9 e9 => ?_)
      refine pc_let (fun x10 e10 => ?_)
      rw [wsucc (P := 10) (by omega) (by decide)] at e10
      have hv := h7 v3.toNat (by omega)
      rw [if_neg (by omega)] at hv
      refine ih (by omega) (by omega) (by rw [e9, st_c (by decide)]; exact h3) (by rw [e9, st_k (by omega)]; exact h7i) (fun j hj => ?_) (fun c k h1 => by rw [e9, st_c h1]; exact hx c k h1)
      rw [e9]
      by_cases cj : j = v3.toNat
      · rw [cj, st_eq, if_pos (by omega), hv]
        unfold adk
        rw [if_neg (by omega)]
        obtain ⟨z1, z2⟩ := hz v3.toNat (by omega)
        cases hb : bt k v3.toNat with
        | true => rw [if_pos ⟨by omega, rfl⟩]; rfl
        | false =>
          rw [if_neg (fun h => by cases h.2)]
          refine wth_no z1 (by omega) ?_
          cases hq : bt (z v3.toNat) ((i : Int)).toNat with
          | false => rfl
          | true => have := z2 _ (by omega) hq; omega
      · rw [st_k cj, h7 j hj]
        by_cases c2 : (j : Int) < v3
        · rw [if_pos c2, if_pos (by omega)]
        · rw [if_neg c2, if_neg (by omega)]
theorem ea_pc {i : Nat} (hi : i ≤ 9) {p k : Int} {w : Wd} (h3 : w 5 3 = i) (hz : KNW i (w 7)) : PC (f_F_add p k w) (fun _ u => EA1 i p k w u) := by
  unfold f_F_add
  refine pc_ite (fun _ => ?_) (fun c => by exfalso; omega)
  refine pc_gd (fun _ => ?_)
  refine pc_lw (fun u1 e1 => ?_)
  refine pc_gd (fun _ => ?_)
  refine pc_lw (fun u2 e2 => ?_)
  refine pc_gd (fun _ => ?_)
  refine pc_lw (fun u3 e3 => ?_)
  have y1 : u1 5 3 = i := by rw [e1, st_c (by decide)]; exact h3
  have y2 : u2 5 3 = i := by rw [e2, st_c (by decide)]; exact y1
  have ei : ((i : Nat) : Int).toNat = i := by omega
  rw [h3, ei] at e1; rw [y1, ei] at e2; rw [y2, ei] at e3
  refine pc_w (ea42 hi (z := w 7) hz u3 FU (by decide) (by omega) (by rw [e3, st_c (by decide)]; exact y2) (by rw [e3, st_c (by decide), e2, st_eq]) (fun j hj => ?_) (fun _ _ _ => rfl)) (fun r u q => ⟨q.1, fun j => ?_, fun j hj => ?_, fun j => ?_, fun c k h6 h7 h8 h5 => ?_⟩)
  · rw [if_neg (by omega), e3, st_c (by decide), e2, st_k (by omega), e1, st_c (by decide)]
  · rw [q.2.2.2 6 j (by decide) (by omega), e3, st_c (by decide), e2, st_c (by decide), e1]
    by_cases c : j = i
    · rw [if_pos c, c, st_eq]
    · rw [if_neg c, st_k c]
  · by_cases c : j = i
    · rw [c, q.2.1]; unfold adk; rw [if_pos rfl]
    · exact q.2.2.1 j (by omega)
  · rw [q.2.2.2 8 j (by decide) (by omega), e3]
    by_cases c : j = i
    · rw [if_pos c, c, st_eq]
    · rw [if_neg c, st_k c, e2, st_c (by decide), e1, st_c (by decide)]
  · rw [q.2.2.2 c k h7 h5, e3, st_c h8, e2, st_c h7, e1, st_c h6]
/-- one comes to the reference -/
def RA1 (i : Nat) (p k g h : Int) (w u : Wd) : Prop := (∀ j, u 44 j = if j = i then p else w 44 j) ∧ (∀ j, u 45 j = adk (w 45) i k j) ∧ (∀ j, u 47 j = if j = i then g else w 47 j) ∧ (∀ j, u 46 j = if j = i then h else w 46 j) ∧ (∀ j, u 48 j = if j = i then -1 else w 48 j) ∧ (∀ j, u 49 j = if j = i then (if g = 1 then w 43 8 else -1) else w 49 j) ∧ ∀ c k, c ≠ 44 → c ≠ 45 → c ≠ 46 → c ≠ 47 → c ≠ 48 → c ≠ 49 → u c k = w c k
theorem ra17 {i : Nat} (hi : i ≤ 9) {k g h : Int} (hg : nz h = h) {z : Nat → Int} (x : Wd) : ∀ (n : Nat) {w : Wd} {v6 : Int}, 0 ≤ v6 → v6 ≤ i → (∀ j : Nat, w 45 j = if (j : Int) < v6 ∧ bt k j = true then ior (z j) (ishl 1 (i : Int)) else z j) → (∀ c k, c ≠ 45 → w c k = x c k) → PC (f_R_add_17 n i k g h v6 w) (fun _ u => (∀ j : Nat, u 45 j = if (j : Int) < i ∧ bt k j = true then ior (z j) (ishl 1 (i : Int)) else z j) ∧ (∀ j, u 47 j = if j = i then g else x 47 j) ∧ (∀ j, u 46 j = if j = i then h else x 46 j) ∧ (∀ j, u 48 j = if j = i then -1 else x 48 j) ∧ (∀ j, u 49 j = if j = i then (if g = 1 then x 43 8 else -1) else x 49 j) ∧ ∀ c k, c ≠ 45 → c ≠ 46 → c ≠ 47 → c ≠ 48 → c ≠ 49 → u c k = x c k) := by
  intro n
  induction n with
  | zero => intros; exact pc_none
  | succ n ih =>
    intro w v6 i6 i7 h45 hx
    rw [f_R_add_17]
    have ei : ((i : Nat) : Int).toNat = i := by omega
    refine pc_ite (fun c => ?_) (fun c => ?_)
    · have ev : v6 = i := by omega
      refine pc_gd (fun _ => ?_)
      refine pc_lw (fun u3 e3 => ?_)
      refine pc_gd (fun _ => ?_)
      refine pc_lw (fun u4 e4 => ?_)
      refine pc_gd (fun _ => ?_)
      refine pc_lw (fun u5 e5 => ?_)
      rw [ei] at e3 e4 e5
      rw [hg] at e4
      have y8 : u5 43 8 = x 43 8 := by rw [e5, st_c (by decide), e4, st_c (by decide), e3, st_c (by decide)]; exact hx 43 8 (by decide)
      have fin : ∀ s : Int, s = (if g = 1 then x 43 8 else -1) → PC (f_R_add_93 i s u5) (fun _ u => (∀ j : Nat, u 45 j = if (j : Int) < i ∧ bt k j = true then ior (z j) (ishl 1 (i : Int)) else z j) ∧ (∀ j, u 47 j = if j = i then g else x 47 j) ∧ (∀ j, u 46 j = if j = i then h else x 46 j) ∧ (∀ j, u 48 j = if j = i then -1 else x 48 j) ∧ (∀ j, u 49 j = if j = i then (if g = 1 then x 43 8 else -1) else x 49 j) ∧ ∀ c k, c ≠ 45 → c ≠ 46 → c ≠ 47 → c ≠ 48 → c ≠ 49 → u c k = x c k) := by
        intro s es
        unfold f_R_add_93
        refine pc_gd (fun _ => ?_)
        refine pc_lw (fun u6 e6 => ?_)
        rw [ei] at e6
        refine pc_some ⟨fun j => ?_, fun j => ?_, fun j => ?_, fun j => ?_, fun j => ?_, fun c k h45 h46 h47 h48 h49 => ?_⟩
        · rw [e6, st_c (by decide), e5, st_c (by decide), e4, st_c (by decide), e3, st_c (by decide), h45 j, ev]
        · rw [e6, st_c (by decide), e5, st_c (by decide), e4, st_c (by decide), e3]
          by_cases c : j = i
          · rw [if_pos c, c, st_eq]
          · rw [if_neg c, st_k c]; exact hx 47 j (by decide)
        · rw [e6, st_c (by decide), e5, st_c (by decide), e4]
          by_cases c : j = i
          · rw [if_pos c, c, st_eq]
          · rw [if_neg c, st_k c, e3, st_c (by decide)]; exact hx 46 j (by decide)
        · rw [e6, st_c (by decide), e5]
          by_cases c : j = i
          · rw [if_pos c, c, st_eq]
          · rw [if_neg c, st_k c, e4, st_c (by decide), e3, st_c (by decide)]; exact hx 48 j (by decide)
        · rw [e6]
          by_cases c : j = i
          · rw [if_pos c, c, st_eq]; exact es
          · rw [if_neg c, st_k c, e5, st_c (by decide), e4, st_c (by decide), e3, st_c (by decide)]; exact hx 49 j (by decide)
        · rw [e6, st_c h49, e5, st_c h48, e4, st_c h46, e3, st_c h47]; exact hx c k h45
      rw [y8]
      exact pc_ite (fun c => fin _ (by rw [if_pos c])) (fun c => fin _ (by rw [if_neg c]))
    · rw [has_e w (by omega), jc_s]
      have nx : ∀ {u : Wd}, (∀ j : Nat, u 45 j = if (j : Int) < v6 + 1 ∧ bt k j = true then ior (z j) (ishl 1 (i : Int)) else z j) → (∀ c k, c ≠ 45 → u c k = x c k) → PC (f_R_add_45 (f_R_add_17 n) i k g h v6 u) (fun _ u => (∀ j : Nat, u 45 j = if (j : Int) < i ∧ bt k j = true then ior (z j) (ishl 1 (i : Int)) else z j) ∧ (∀ j, u 47 j = if j = i then g else x 47 j) ∧ (∀ j, u 46 j = if j = i then h else x 46 j) ∧ (∀ j, u 48 j = if j = i then -1 else x 48 j) ∧ (∀ j, u 49 j = if j = i then (if g = 1 then x 43 8 else -1) else x 49 j) ∧ ∀ c k, c ≠ 45 → c ≠ 46 → c ≠ 47 → c ≠ 48 → c ≠ 49 → u c k = x c k) := by
        intro u hu hx2
        unfold f_R_add_45
        refine pc_let (fun x9 e9 => ?_)
        rw [wsucc (P := 10) (by omega) (by decide)] at e9
        exact ih (by omega) (by omega) (by rw [e9]; exact hu) hx2
      have hv := h45 v6.toNat
      rw [if_neg (by omega)] at hv
      cases hb : bt k v6.toNat with
      | false =>
        refine pc_ite (fun _ => nx (fun j => ?_) hx) (fun h => absurd rfl h)
        rw [h45 j]
        by_cases cj : j = v6.toNat
        · rw [cj, hb, if_neg (fun h => by cases h.2), if_neg (fun h => by cases h.2)]
        · by_cases c2 : (j : Int) < v6 ∧ bt k j = true
          · rw [if_pos c2, if_pos ⟨by omega, c2.2⟩]
          · rw [if_neg c2, if_neg (fun h => c2 ⟨by omega, h.2⟩)]
      | true =>
        refine pc_ite (fun h => absurd h (by decide)) (fun _ => ?_)
        refine pc_gd (fun _ => ?_)
        refine pc_gd (fun _ => ?_)
        refine pc_lw (fun u10 e10 => nx (fun j => ?_) (fun c k h1 => by rw [e10, st_c h1]; exact hx c k h1))
        rw [e10]
        by_cases cj : j = v6.toNat
        · rw [cj, st_eq, hv, if_pos ⟨by omega, hb⟩]
        · rw [st_k cj, h45 j]
          by_cases c2 : (j : Int) < v6 ∧ bt k j = true
          · rw [if_pos c2, if_pos ⟨by omega, c2.2⟩]
          · rw [if_neg c2, if_neg (fun h => c2 ⟨by omega, h.2⟩)]
theorem ra_pc {i : Nat} (hi : i ≤ 9) {v1 p k g h : Int} (hv : v1 = i) (hg : nz h = h) {w : Wd} : PC (f_R_add v1 p k g h w) (fun _ u => RA1 i p k g h w u) := by
  unfold f_R_add
  have ei : v1.toNat = i := by omega
  refine pc_gd (fun _ => ?_)
  refine pc_lw (fun u1 e1 => ?_)
  refine pc_gd (fun _ => ?_)
  refine pc_lw (fun u2 e2 => ?_)
  rw [ei] at e1 e2
  rw [hv]
  refine pc_w (ra17 hi hg (z := u2 45) u2 FU (by decide) (by omega) (fun j => by rw [if_neg (by omega)]) (fun _ _ _ => rfl)) (fun r u q => ?_)
  obtain ⟨q45, q47, q46, q48, q49, qo⟩ := q
  have f : ∀ c k, c ≠ 44 → c ≠ 45 → u2 c k = w c k := fun c k h1 h2 => by rw [e2, st_c h2, e1, st_c h1]
  refine ⟨fun j => ?_, fun j => ?_, fun j => ?_, fun j => ?_, fun j => ?_, fun j => ?_, fun c k h44 h45 h46 h47 h48 h49 => ?_⟩
  · rw [qo 44 j (by decide) (by decide) (by decide) (by decide) (by decide), e2, st_c (by decide), e1]
    by_cases c : j = i
    · rw [if_pos c, c, st_eq]
    · rw [if_neg c, st_k c]
  · rw [q45 j]
    unfold adk
    by_cases c : j = i
    · rw [if_pos c, if_neg (by omega), c, e2, st_eq]
    · have y : u2 45 j = w 45 j := by rw [e2, st_k c, e1, st_c (by decide)]
      rw [if_neg c, y]
      by_cases c2 : j < i ∧ bt k j = true
      · rw [if_pos c2, if_pos ⟨by omega, c2.2⟩]
      · rw [if_neg c2, if_neg (fun h => c2 ⟨by omega, h.2⟩)]
  · rw [q47 j, f 47 j (by decide) (by decide)]
  · rw [q46 j, f 46 j (by decide) (by decide)]
  · rw [q48 j, f 48 j (by decide) (by decide)]
  · rw [q49 j, f 49 j (by decide) (by decide), f 43 8 (by decide) (by decide)]
  · rw [qo c k h45 h46 h47 h48 h49]; exact f c k h44 h45
