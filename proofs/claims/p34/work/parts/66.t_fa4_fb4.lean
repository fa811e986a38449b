/-! the reference reads: what stands in its lines -/
def RCt (h : Int → Int) (a : Int) (j : Nat) (w : Wd) : Prop := ∀ i : Nat, i < j → w 53 (a + i).toNat = lpr h a i ∧ w 54 (a + i).toNat = lkn h a i ∧ w 55 (a + i).toNat = (if lgs h a i = true then 1 else 0) ∧ w 56 (a + i).toNat = (if lhi h a i = true then 1 else 0)
/-- rows of one, and what stays of others -/
def R5 (x : Nat) (w u : Wd) : Prop := ∀ i, i ≠ x → u 53 i = w 53 i ∧ u 54 i = w 54 i ∧ u 55 i = w 55 i ∧ u 56 i = w 56 i
theorem r5_tr {x : Nat} {w u v : Wd} (h : R5 x w u) (h2 : R5 x u v) : R5 x w v := fun i hi => by
  obtain ⟨a1, a2, a3, a4⟩ := h i hi
  obtain ⟨b1, b2, b3, b4⟩ := h2 i hi
  exact ⟨b1.trans a1, b2.trans a2, b3.trans a3, b4.trans a4⟩
theorem r5_st {x : Nat} {w u : Wd} {c k : Nat} {z : Int} (e : u = st w c k z) (hc : (c ≠ 53 ∧ c ≠ 54 ∧ c ≠ 55 ∧ c ≠ 56) ∨ k = x) : R5 x w u := by
  intro i hi
  rw [e]
  rcases hc with hc | hc
  · rw [st_c (Ne.symm hc.1), st_c (Ne.symm hc.2.1), st_c (Ne.symm hc.2.2.1), st_c (Ne.symm hc.2.2.2)]
    exact ⟨rfl, rfl, rfl, rfl⟩
  · have hk : i ≠ k := by omega
    refine ⟨?_, ?_, ?_, ?_⟩
    · unfold st; rw [if_neg (fun h => hk h.2)]
    · unfold st; rw [if_neg (fun h => hk h.2)]
    · unfold st; rw [if_neg (fun h => hk h.2)]
    · unfold st; rw [if_neg (fun h => hk h.2)]
theorem n142 {n0 : Int} {f0 : Nat → Int} {P0 : Int} {w : Wd} {v1 s2 : Int} (h : RV n0 f0 P0 w) (h21 : w 43 21 = -1) (h20 : 0 ≤ w 43 20 ∧ w 43 20 ≤ 76) : PC (f_R_readOne_142 v1 v1 s2 w) (fun _ u => R5 v1.toNat w u ∧ u 53 v1.toNat = w 53 v1.toNat ∧ u 54 v1.toNat = w 54 v1.toNat ∧ u 55 v1.toNat = s2 ∧ u 56 v1.toNat = (if hR n0 f0 (w 43 20) = 63 then 1 else 0)) := by
  unfold f_R_readOne_142
  refine pc_gd (fun _ => ?_)
  refine pc_lw (fun u16 e16 => ?_)
  have h16 := rv_st h e16 (by decide) (Or.inl (by decide))
  have t20 : u16 43 20 = w 43 20 := by rw [e16, st_c (by decide)]
  have t21 : u16 43 21 = -1 := by rw [e16, st_c (by decide)]; exact h21
  have r16 : R5 v1.toNat w u16 := r5_st e16 (Or.inr rfl)
  refine pc_call (ps_pc h16 63 (by omega)) (fun r17 u18 q => ?_)
  rw [t20] at q
  refine pc_gd (fun _ => ?_)
  refine pc_lw (fun u19 e19 => ?_)
  have r19 : R5 v1.toNat u18 u19 := r5_st e19 (Or.inr rfl)
  have n1 : nz 1 = 1 := by decide
  have n0 : nz 0 = 0 := by decide
  rcases q with ⟨_, q1, q2, q3⟩ | ⟨q1, q2, q3⟩
  · have r18 : R5 v1.toNat u16 u18 := r5_st q3 (Or.inl (by decide))
    refine pc_some ⟨r5_tr (r5_tr r16 r18) r19, ?_, ?_, ?_, ?_⟩
    · rw [e19, st_c (by decide), q3, st_c (by decide), e16, st_c (by decide)]
    · rw [e19, st_c (by decide), q3, st_c (by decide), e16, st_c (by decide)]
    · rw [e19, st_c (by decide), q3, st_c (by decide), e16, st_eq]
    · rw [e19, st_eq, q2, if_pos q1]; exact n1
  · rw [q3] at e19 r19
    refine pc_some ⟨r5_tr r16 r19, ?_, ?_, ?_, ?_⟩
    · rw [e19, st_c (by decide), e16, st_c (by decide)]
    · rw [e19, st_c (by decide), e16, st_c (by decide)]
    · rw [e19, st_c (by decide), e16, st_eq]
    · rw [e19, st_eq, q2, if_neg (fun h2 => q1 ⟨t21, h2⟩)]; exact n0
theorem nr55 {n0 : Int} {f0 : Nat → Int} {P0 : Int} {v1 : Int} (i1 : 0 ≤ v1 ∧ v1 ≤ 9) : ∀ (n : Nat) {w : Wd} {v2 acc : Int} (k : Nat), v2 + 1 = v1 - k → -1 ≤ v2 → RV n0 f0 P0 w → w 43 21 = -1 → (0 ≤ w 43 20 ∧ w 43 20 ≤ 76) → w 54 v1.toNat = acc → PC (f_R_readOne_55 n v1 v2 w) (fun _ u => R5 v1.toNat w u ∧ (u 43 21 = -1 → u 53 v1.toNat = w 53 v1.toNat ∧ u 54 v1.toNat = lk (hR n0 f0) v1 k (w 43 20) acc ∧ u 55 v1.toNat = (if hR n0 f0 (lt (hR n0 f0) v1 k (w 43 20)) = 33 then 1 else 0) ∧ u 56 v1.toNat = (if hR n0 f0 (if hR n0 f0 (lt (hR n0 f0) v1 k (w 43 20)) = 33 then lt (hR n0 f0) v1 k (w 43 20) + 1 else lt (hR n0 f0) v1 k (w 43 20)) = 63 then 1 else 0))) := by
  intro n
  induction n with
  | zero => intros; exact pc_none
  | succ n ih =>
    intro w v2 acc k hk i2 h h21 h20 h54
    rw [f_R_readOne_55]
    refine pc_call (here_pc h) (fun r10 u11 q => ?_)
    obtain ⟨q1, q2⟩ := q
    rw [q1, in_e, jc_s]
    refine pc_ite (fun hc => ?_) (fun hc => ?_)
    · have hn : ¬ (97 ≤ r10 ∧ r10 ≤ 106) := fun h2 => by rw [if_pos h2] at hc; exact absurd hc (by decide)
      have e0 : lt (hR n0 f0) v1 k (w 43 20) = w 43 20 := lt_none k (fun x h1 h2 e => hn (by omega))
      have e1 : lk (hR n0 f0) v1 k (w 43 20) acc = acc := lk_none k (fun x h1 h2 e => hn (by omega))
      rw [e0, e1]
      refine pc_call (ps_pc h 33 h20) (fun r14 u15 q => ?_)
      rcases q with ⟨_, p1, p2, p3⟩ | ⟨p1, p2, p3⟩
      · have l5 := hR_lt (n := n0) (f := f0) (p := w 43 20) (by omega)
        have t20 : u15 43 20 = w 43 20 + 1 := by rw [p3, st_eq]
        refine pc_ite (fun h => absurd (p2.symm.trans h) (by decide)) (fun _ => ?_)
        refine pc_w (n142 (v1 := v1) (rv_st h p3 (by decide) (Or.inr (by decide))) (by rw [p3, st_k (by decide)]; exact h21) (by omega)) (fun r u q => ⟨r5_tr (r5_st p3 (Or.inl (by decide))) q.1, fun _ => ⟨?_, ?_, ?_, ?_⟩⟩)
        · rw [q.2.1, p3, st_c (by decide)]
        · rw [q.2.2.1, p3, st_c (by decide)]; exact h54
        · rw [if_pos p1]; exact q.2.2.2.1
        · rw [if_pos p1, q.2.2.2.2, t20]
      · refine pc_ite (fun _ => ?_) (fun h => absurd p2 h)
        rw [p3]
        have np : ¬ hR n0 f0 (w 43 20) = 33 := fun h2 => p1 ⟨h21, h2⟩
        refine pc_w (n142 (v1 := v1) h h21 h20) (fun r u q => ⟨q.1, fun _ => ⟨q.2.1, q.2.2.1.trans h54, ?_, ?_⟩⟩)
        · rw [if_neg np]; exact q.2.2.2.1
        · rw [if_neg np]; exact q.2.2.2.2
    · have hl : 97 ≤ r10 ∧ r10 ≤ 106 := by
        by_cases h2 : 97 ≤ r10 ∧ r10 ≤ 106
        · exact h2
        · rw [if_neg h2] at hc; exact absurd rfl hc
      have l5 := hR_lt (n := n0) (f := f0) (p := w 43 20) (by omega)
      have f87 : PC (f_R_readOne_87 w) (fun _ u => R5 v1.toNat w u ∧ (u 43 21 = -1 → u 53 v1.toNat = w 53 v1.toNat ∧ u 54 v1.toNat = lk (hR n0 f0) v1 k (w 43 20) acc ∧ u 55 v1.toNat = (if hR n0 f0 (lt (hR n0 f0) v1 k (w 43 20)) = 33 then 1 else 0) ∧ u 56 v1.toNat = (if hR n0 f0 (if hR n0 f0 (lt (hR n0 f0) v1 k (w 43 20)) = 33 then lt (hR n0 f0) v1 k (w 43 20) + 1 else lt (hR n0 f0) v1 k (w 43 20)) = 63 then 1 else 0))) := by
        unfold f_R_readOne_87
        refine pc_call (fl_pc w (w 43 20)) (fun r23 u24 q => ?_)
        rw [if_pos h21] at q
        refine pc_some ⟨r5_st q (Or.inl (by decide)), fun e => ?_⟩
        rw [q, st_eq] at e
        exfalso; omega
      refine pc_call (here_pc h) (fun r20 u21 q => ?_)
      obtain ⟨p1, p2⟩ := q
      rw [p1]
      have w1 := w32_sp (r20 - 97)
      refine pc_let (fun x22 e22 => ?_)
      have e23 : hR n0 f0 (w 43 20) = 97 + x22 := by omega
      refine pc_ite (fun c1 => f87) (fun c1 => ?_)
      refine pc_ite (fun c2 => ?_) (fun c2 => f87)
      refine pc_gd (fun _ => ?_)
      refine pc_gd (fun _ => ?_)
      refine pc_lw (fun u25 e25 => ?_)
      have t20 : u25 43 20 = w 43 20 := by rw [e25, st_c (by decide)]
      have w2 := w32_sp (u25 43 20 + 1)
      refine pc_lw (fun u26 e26 => ?_)
      have t26 : u26 43 20 = w 43 20 + 1 := by rw [e26, st_eq]; omega
      rw [lt_skip e23 c2 k (by omega), lk_skip e23 c2 k (by omega), ← t26]
      refine pc_w (ih (v1 - x22 - 1).toNat (acc := ior acc (ishl 1 x22)) (by omega) (by omega) (rv_st (rv_st h e25 (by decide) (Or.inl (by decide))) e26 (by decide) (Or.inr (by decide))) (by rw [e26, st_k (by decide), e25, st_c (by decide)]; exact h21) (by omega) (by rw [e26, st_c (by decide), e25, st_eq, h54])) (fun r u q => ⟨r5_tr (r5_tr (r5_st e25 (Or.inr rfl)) (r5_st e26 (Or.inl (by decide)))) q.1, fun e => ?_⟩)
      obtain ⟨y1, y2⟩ := q.2 e
      exact ⟨by rw [y1, e26, st_c (by decide), e25, st_c (by decide)], y2⟩
theorem nrl {n0 : Int} {f0 : Nat → Int} {P0 : Int} {a : Int} {j : Nat} (ha : 0 ≤ a) (haj : a + j ≤ 9) {w : Wd} (h : RV n0 f0 P0 w) (h21 : w 43 21 = -1) (h20 : 0 ≤ w 43 20 ∧ w 43 20 ≤ 76) (hl : w 43 20 = lp (hR n0 f0) a j) (hc : RCt (hR n0 f0) a j w) : PC (f_R_readOne (a + j) w) (fun _ u => u 43 21 = -1 → RCt (hR n0 f0) a (j + 1) u) := by
  unfold f_R_readOne
  refine pc_call (here_pc h) (fun r1 u2 q => ?_)
  obtain ⟨q1, q2⟩ := q
  rw [q1, in_e, jc_s]
  refine pc_ite (fun hc => ?_) (fun hcc => ?_)
  · refine pc_call (fl_pc w (w 43 20)) (fun r27 u28 q => ?_)
    rw [if_pos h21] at q
    refine pc_some (fun e => ?_)
    rw [q, st_eq] at e
    exfalso; omega
  · have hl2 : 48 ≤ r1 ∧ r1 ≤ 57 := by
      by_cases h2 : 48 ≤ r1 ∧ r1 ≤ 57
      · exact h2
      · rw [if_neg h2] at hcc; exact absurd rfl hcc
    have l5 := hR_lt (n := n0) (f := f0) (p := w 43 20) (by omega)
    refine pc_call (here_pc h) (fun r5 u6 q => ?_)
    obtain ⟨p1, p2⟩ := q
    rw [p1]
    have w3 := w32_sp (r5 - 48)
    refine pc_gd (fun _ => ?_)
    refine pc_lw (fun u7 e7 => ?_)
    have t20 : u7 43 20 = w 43 20 := by rw [e7, st_c (by decide)]
    have w2 := w32_sp (u7 43 20 + 1)
    refine pc_lw (fun u8 e8 => ?_)
    refine pc_gd (fun _ => ?_)
    refine pc_lw (fun u9 e9 => ?_)
    have t9 : u9 43 20 = w 43 20 + 1 := by rw [e9, st_c (by decide), e8, st_eq]; omega
    have t53 : u9 53 (a + j).toNat = lpr (hR n0 f0) a j := by
      rw [e9, st_c (by decide), e8, st_c (by decide), e7, st_eq]
      unfold lpr
      rw [← hl, ← p2]; omega
    refine pc_w (nr55 (v1 := a + j) (acc := 0) (by omega) FU (a + j).toNat (by omega) (by omega) (rv_st (rv_st (rv_st h e7 (by decide) (Or.inl (by decide))) e8 (by decide) (Or.inr (by decide))) e9 (by decide) (Or.inl (by decide))) (by rw [e9, st_c (by decide), e8, st_k (by decide), e7, st_c (by decide)]; exact h21) (by omega) (by rw [e9, st_eq])) (fun r u q e => ?_)
    obtain ⟨q5, qv⟩ := q
    obtain ⟨y1, y2, y3, y4⟩ := qv e
    have r5 := r5_tr (r5_tr (r5_tr (r5_st (x := (a + j).toNat) e7 (Or.inr rfl)) (r5_st e8 (Or.inl (by decide)))) (r5_st e9 (Or.inr rfl))) q5
    rw [t9, hl] at y2 y3 y4
    intro i hi
    by_cases c : i = j
    · rw [c]
      refine ⟨y1.trans t53, y2, ?_, ?_⟩
      · rw [y3]
        unfold lgs le1
        simp only [decide_eq_true_eq]
      · rw [y4]
        unfold lhi le1
        simp only [decide_eq_true_eq]
    · obtain ⟨z1, z2, z3, z4⟩ := r5 (a + i).toNat (by omega)
      obtain ⟨x1, x2, x3, x4⟩ := hc i (by omega)
      exact ⟨z1.trans x1, z2.trans x2, z3.trans x3, z4.trans x4⟩
/-! PEOPLE ARE ADDED -/
def wth (x i : Int) (b : Bool) : Int := if b = true then ior x (ishl 1 i) else iand x (ixor (ishl 1 i) (-1))
theorem with_e (x i : Int) (b : Bool) (w : Wd) : f_E_with x i (if b = true then 1 else 0) w = some (wth x i b, w) := by
  unfold f_E_with wth
  cases b <;> rfl
theorem wth_no {x i : Int} (hx : 0 ≤ x ∧ x ≤ 1023) (hi : 0 ≤ i ∧ i ≤ 9) (h : bt x i.toNat = false) : wth x i false = x := by
  unfold wth
  rw [if_neg (by decide)]
  refine b10_eq (b10_andn (b10_self hx) (b10_1 hi).2) (b10_self hx) (fun k _ => ?_)
  by_cases c : k = i.toNat
  · rw [c, h]; rfl
  · rw [decide_eq_false c]; simp
/-- whom all know when one more comes -/
def adk (kn : Nat → Int) (i : Nat) (k : Int) (j : Nat) : Int := if j = i then k else if j < i ∧ bt k j = true then ior (kn j) (ishl 1 (i : Int)) else kn j
def ads (kn : Nat → Int) (a : Nat) (k : Nat → Int) : Nat → Nat → Int
  | 0 => kn
  | n + 1 => adk (ads kn a k n) (a + n) (k n)
/-- known ones of so many are among them -/
def KNW (i : Nat) (kn : Nat → Int) : Prop := ∀ j : Nat, j < i → (0 ≤ kn j ∧ kn j ≤ 1023) ∧ ∀ q, q < 10 → bt (kn j) q = true → q < i
theorem kw_adk {i : Nat} {kn : Nat → Int} {k : Int} (hi : i ≤ 9) (h : KNW i kn) (hk : (0 ≤ k ∧ k ≤ 1023) ∧ ∀ q, q < 10 → bt k q = true → q < i) : KNW (i + 1) (adk kn i k) := by
  intro j hj
  unfold adk
  by_cases c : j = i
  · rw [if_pos c]; exact ⟨hk.1, fun q hq hb => by have := hk.2 q hq hb; omega⟩
  · rw [if_neg c]
    obtain ⟨h1, h2⟩ := h j (by omega)
    by_cases c2 : j < i ∧ bt k j = true
    · rw [if_pos c2]
      have b := b10_or (b10_self h1) (b10_1 (i := (i : Int)) (by omega))
      refine ⟨b.1, fun q hq hb => ?_⟩
      rw [b.2 q hq, Bool.or_eq_true] at hb
      rcases hb with hb | hb
      · have := h2 q hq hb; omega
      · have := of_decide_eq_true hb; omega
    · rw [if_neg c2]; exact ⟨h1, fun q hq hb => by have := h2 q hq hb; omega⟩
theorem kw_ads {a : Nat} {kn : Nat → Int} {k : Nat → Int} (h : KNW a kn) : ∀ {n : Nat}, a + n ≤ 10 → (∀ i, i < n → (0 ≤ k i ∧ k i ≤ 1023) ∧ ∀ q, q < 10 → bt (k i) q = true → q < a + i) → KNW (a + n) (ads kn a k n) := by
  intro n
  induction n with
  | zero => intro _ _; exact h
  | succ n ih => intro hn hk; exact kw_adk (i := a + n) (by omega) (ih (by omega) (fun i hi => hk i (by omega))) (hk n (by omega))
theorem ads_eq {a : Nat} {kn kn2 : Nat → Int} {k k2 : Nat → Int} (h : ∀ j, j < a → kn j = kn2 j) : ∀ {n : Nat}, (∀ i, i < n → k i = k2 i) → ∀ j, j < a + n → ads kn a k n j = ads kn2 a k2 n j := by
  intro n
  induction n with
  | zero => intro _ j hj; exact h j hj
  | succ n ih =>
    intro hk j hj
    have ih2 := ih (fun i hi => hk i (by omega))
    show adk _ _ _ _ = adk _ _ _ _
    unfold adk
    rw [hk n (by omega)]
    by_cases c : j = a + n
    · rw [if_pos c, if_pos c]
    · rw [if_neg c, if_neg c, ih2 j (by omega)]
/-- one comes to the class -/
def EA1 (i : Nat) (p k : Int) (w u : Wd) : Prop := u 5 3 = (i : Int) + 1 ∧ (∀ j, u 6 j = if j = i then p else w 6 j) ∧ (∀ j, j < i + 1 → u 7 j = adk (w 7) i k j) ∧ (∀ j, u 8 j = if j = i then -1 else w 8 j) ∧ ∀ c k, c ≠ 6 → c ≠ 7 → c ≠ 8 → ¬ (c = 5 ∧ k = 3) → u c k = w c k
theorem ea42 {i : Nat} (hi : i ≤ 9) {k : Int} {z : Nat → Int} (hz : KNW i z) (x : Wd) : ∀ (n : Nat) {w : Wd} {v3 : Int}, 0 ≤ v3 → v3 ≤ i → w 5 3 = i → w 7 i = k → (∀ j : Nat, j < i → w 7 j = if (j : Int) < v3 then adk z i k j else z j) → (∀ c k, c ≠ 7 → w c k = x c k) → PC (f_F_add_42 n k v3 w) (fun _ u => u 5 3 = (i : Int) + 1 ∧ u 7 i = k ∧ (∀ j : Nat, j < i → u 7 j = adk z i k j) ∧ ∀ c k, c ≠ 7 → ¬ (c = 5 ∧ k = 3) → u c k = x c k) := by
  intro n
  induction n with
  | zero => intros; exact pc_none
  | succ n ih =>
    intro w v3 i3 i4 h3 h7i h7 hx
    rw [f_F_add_42, h3]
    have w1 := w32_sp ((i : Int) + 1)
    refine pc_ite (fun c => ?_) (fun c => ?_)
    · refine pc_lw (fun u4 e4 => pc_some ⟨?_, ?_, fun j hj => ?_, fun c k h1 h2 => ?_⟩)
      · rw [e4, st_eq]; omega
      · rw [e4, st_c (by decide)]; exact h7i
      · rw [e4, st_c (by decide), h7 j hj, if_pos (by omega)]
      · rw [e4]; unfold st; rw [if_neg h2]; exact hx c k h1
    · refine pc_gd (fun _ => ?_)
      rw [hasE_e w (by omega), jc_s, with_e, jc_s]
      refine pc_gd (fun _ => ?_)
      refine pc_lw (fun u9 e9 => ?_)
      refine pc_let (fun x10 e10 => ?_)
      rw [wsucc (P := 10) (by omega) (by decide)] at e10
      have hv := h7 v3.toNat (by omega)
      rw [if_neg (by omega)] at hv
      refine ih (by omega) (by omega) (by rw [e9, st_c (by decide)]; exact h3) (by rw [e9, st_k (by omega)]; exact h7i) (fun j hj => ?_) (fun c k h1 => by rw [e9, st_c h1]; exact hx c k h1)
      rw [e9]
      by_cases cj : j = v3.toNat
      · rw [cj, st_eq, if_pos (by omega), hv]
        unfold adk
        rw [if_neg (by omega)]
        obtain ⟨z1, z2⟩ := hz v3.toNat (by omega)
        cases hb : bt k v3.toNat with
        | true => rw [if_pos ⟨by omega, rfl⟩]; rfl
        | false =>
          rw [if_neg (fun h => by cases h.2)]
          refine wth_no z1 (by omega) ?_
          cases hq : bt (z v3.toNat) ((i : Int)).toNat with
          | false => rfl
          | true => have := z2 _ (by omega) hq; omega
      · rw [st_k cj, h7 j hj]
        by_cases c2 : (j : Int) < v3
        · rw [if_pos c2, if_pos (by omega)]
        · rw [if_neg c2, if_neg (by omega)]
theorem ea_pc {i : Nat} (hi : i ≤ 9) {p k : Int} {w : Wd} (h3 : w 5 3 = i) (hz : KNW i (w 7)) : PC (f_F_add p k w) (fun _ u => EA1 i p k w u) := by
  unfold f_F_add
  refine pc_ite (fun _ => ?_) (fun c => by exfalso; omega)
  refine pc_gd (fun _ => ?_)
  refine pc_lw (fun u1 e1 => ?_)
  refine pc_gd (fun _ => ?_)
  refine pc_lw (fun u2 e2 => ?_)
  refine pc_gd (fun _ => ?_)
  refine pc_lw (fun u3 e3 => ?_)
  have y1 : u1 5 3 = i := by rw [e1, st_c (by decide)]; exact h3
  have y2 : u2 5 3 = i := by rw [e2, st_c (by decide)]; exact y1
  have ei : ((i : Nat) : Int).toNat = i := by omega
  rw [h3, ei] at e1; rw [y1, ei] at e2; rw [y2, ei] at e3
  refine pc_w (ea42 hi (z := w 7) hz u3 FU (by decide) (by omega) (by rw [e3, st_c (by decide)]; exact y2) (by rw [e3, st_c (by decide), e2, st_eq]) (fun j hj => ?_) (fun _ _ _ => rfl)) (fun r u q => ⟨q.1, fun j => ?_, fun j hj => ?_, fun j => ?_, fun c k h6 h7 h8 h5 => ?_⟩)
  · rw [if_neg (by omega), e3, st_c (by decide), e2, st_k (by omega), e1, st_c (by decide)]
  · rw [q.2.2.2 6 j (by decide) (by omega), e3, st_c (by decide), e2, st_c (by decide), e1]
    by_cases c : j = i
    · rw [if_pos c, c, st_eq]
    · rw [if_neg c, st_k c]
  · by_cases c : j = i
    · rw [c, q.2.1]; unfold adk; rw [if_pos rfl]
    · exact q.2.2.1 j (by omega)
  · rw [q.2.2.2 8 j (by decide) (by omega), e3]
    by_cases c : j = i
    · rw [if_pos c, c, st_eq]
    · rw [if_neg c, st_k c, e2, st_c (by decide), e1, st_c (by decide)]
  · rw [q.2.2.2 c k h7 h5, e3, st_c h8, e2, st_c h7, e1, st_c h6]
/-- one comes to the reference -/
def RA1 (i : Nat) (p k g h : Int) (w u : Wd) : Prop := (∀ j, u 44 j = if j = i then p else w 44 j) ∧ (∀ j, u 45 j = adk (w 45) i k j) ∧ (∀ j, u 47 j = if j = i then g else w 47 j) ∧ (∀ j, u 46 j = if j = i then h else w 46 j) ∧ (∀ j, u 48 j = if j = i then -1 else w 48 j) ∧ (∀ j, u 49 j = if j = i then (if g = 1 then w 43 8 else -1) else w 49 j) ∧ ∀ c k, c ≠ 44 → c ≠ 45 → c ≠ 46 → c ≠ 47 → c ≠ 48 → c ≠ 49 → u c k = w c k
theorem ra17 {i : Nat} (hi : i ≤ 9) {k g h : Int} (hg : nz h = h) {z : Nat → Int} (x : Wd) : ∀ (n : Nat) {w : Wd} {v6 : Int}, 0 ≤ v6 → v6 ≤ i → (∀ j : Nat, w 45 j = if (j : Int) < v6 ∧ bt k j = true then ior (z j) (ishl 1 (i : Int)) else z j) → (∀ c k, c ≠ 45 → w c k = x c k) → PC (f_R_add_17 n i k g h v6 w) (fun _ u => (∀ j : Nat, u 45 j = if (j : Int) < i ∧ bt k j = true then ior (z j) (ishl 1 (i : Int)) else z j) ∧ (∀ j, u 47 j = if j = i then g else x 47 j) ∧ (∀ j, u 46 j = if j = i then h else x 46 j) ∧ (∀ j, u 48 j = if j = i then -1 else x 48 j) ∧ (∀ j, u 49 j = if j = i then (if g = 1 then x 43 8 else -1) else x 49 j) ∧ ∀ c k, c ≠ 45 → c ≠ 46 → c ≠ 47 → c ≠ 48 → c ≠ 49 → u c k = x c k) := by
  intro n
  induction n with
  | zero => intros; exact pc_none
  | succ n ih =>
    intro w v6 i6 i7 h45 hx
    rw [f_R_add_17]
    have ei : ((i : Nat) : Int).toNat = i := by omega
    refine pc_ite (fun c => ?_) (fun c => ?_)
    · have ev : v6 = i := by omega
      refine pc_gd (fun _ => ?_)
      refine pc_lw (fun u3 e3 => ?_)
      refine pc_gd (fun _ => ?_)
      refine pc_lw (fun u4 e4 => ?_)
      refine pc_gd (fun _ => ?_)
      refine pc_lw (fun u5 e5 => ?_)
      rw [ei] at e3 e4 e5
      rw [hg] at e4
      have y8 : u5 43 8 = x 43 8 := by rw [e5, st_c (by decide), e4, st_c (by decide), e3, st_c (by decide)]; exact hx 43 8 (by decide)
      have fin : ∀ s : Int, s = (if g = 1 then x 43 8 else -1) → PC (f_R_add_93 i s u5) (fun _ u => (∀ j : Nat, u 45 j = if (j : Int) < i ∧ bt k j = true then ior (z j) (ishl 1 (i : Int)) else z j) ∧ (∀ j, u 47 j = if j = i then g else x 47 j) ∧ (∀ j, u 46 j = if j = i then h else x 46 j) ∧ (∀ j, u 48 j = if j = i then -1 else x 48 j) ∧ (∀ j, u 49 j = if j = i then (if g = 1 then x 43 8 else -1) else x 49 j) ∧ ∀ c k, c ≠ 45 → c ≠ 46 → c ≠ 47 → c ≠ 48 → c ≠ 49 → u c k = x c k) := by
        intro s es
        unfold f_R_add_93
        refine pc_gd (fun _ => ?_)
        refine pc_lw (fun u6 e6 => ?_)
        rw [ei] at e6
        refine pc_some ⟨fun j => ?_, fun j => ?_, fun j => ?_, fun j => ?_, fun j => ?_, fun c k h45 h46 h47 h48 h49 => ?_⟩
        · rw [e6, st_c (by decide), e5, st_c (by decide), e4, st_c (by decide), e3, st_c (by decide), h45 j, ev]
        · rw [e6, st_c (by decide), e5, st_c (by decide), e4, st_c (by decide), e3]
          by_cases c : j = i
          · rw [if_pos c, c, st_eq]
          · rw [if_neg c, st_k c]; exact hx 47 j (by decide)
        · rw [e6, st_c (by decide), e5, st_c (by decide), e4]
          by_cases c : j = i
          · rw [if_pos c, c, st_eq]
          · rw [if_neg c, st_k c, e3, st_c (by decide)]; exact hx 46 j (by decide)
        · rw [e6, st_c (by decide), e5]
          by_cases c : j = i
          · rw [if_pos c, c, st_eq]
          · rw [if_neg c, st_k c, e4, st_c (by decide), e3, st_c (by decide)]; exact hx 48 j (by decide)
        · rw [e6]
          by_cases c : j = i
          · rw [if_pos c, c, st_eq]; exact es
          · rw [if_neg c, st_k c, e5, st_c (by decide), e4, st_c (by decide), e3, st_c (by decide)]; exact hx 49 j (by decide)
        · rw [e6, st_c h49, e5, st_c h48, e4, st_c h46, e3, st_c h47]; exact hx c k h45
      rw [y8]
      exact pc_ite (fun c => fin _ (by rw [if_pos c])) (fun c => fin _ (by rw [if_neg c]))
    · rw [has_e w (by omega), jc_s]
      have nx : ∀ {u : Wd}, (∀ j : Nat, u 45 j = if (j : Int) < v6 + 1 ∧ bt k j = true then ior (z j) (ishl 1 (i : Int)) else z j) → (∀ c k, c ≠ 45 → u c k = x c k) → PC (f_R_add_45 (f_R_add_17 n) i k g h v6 u) (fun _ u => (∀ j : Nat, u 45 j = if (j : Int) < i ∧ bt k j = true then ior (z j) (ishl 1 (i : Int)) else z j) ∧ (∀ j, u 47 j = if j = i then g else x 47 j) ∧ (∀ j, u 46 j = if j = i then h else x 46 j) ∧ (∀ j, u 48 j = if j = i then -1 else x 48 j) ∧ (∀ j, u 49 j = if j = i then (if g = 1 then x 43 8 else -1) else x 49 j) ∧ ∀ c k, c ≠ 45 → c ≠ 46 → c ≠ 47 → c ≠ 48 → c ≠ 49 → u c k = x c k) := by
        intro u hu hx2
        unfold f_R_add_45
        refine pc_let (fun x9 e9 => ?_)
        rw [wsucc (P := 10) (by omega) (by decide)] at e9
        exact ih (by omega) (by omega) (by rw [e9]; exact hu) hx2
      have hv := h45 v6.toNat
      rw [if_neg (by omega)] at hv
      cases hb : bt k v6.toNat with
      | false =>
        refine pc_ite (fun _ => nx (fun j => ?_) hx) (fun h => absurd rfl h)
        rw [h45 j]
        by_cases cj : j = v6.toNat
        · rw [cj, hb, if_neg (fun h => by cases h.2), if_neg (fun h => by cases h.2)]
        · by_cases c2 : (j : Int) < v6 ∧ bt k j = true
          · rw [if_pos c2, if_pos ⟨by omega, c2.2⟩]
          · rw [if_neg c2, if_neg (fun h => c2 ⟨by omega, h.2⟩)]
      | true =>
        refine pc_ite (fun h => absurd h (by decide)) (fun _ => ?_)
        refine pc_gd (fun _ => ?_)
        refine pc_gd (fun _ => ?_)
        refine pc_lw (fun u10 e10 => nx (fun j => ?_) (fun c k h1 => by rw [e10, st_c h1]; exact hx c k h1))
        rw [e10]
        by_cases cj : j = v6.toNat
        · rw [cj, st_eq, hv, if_pos ⟨by omega, hb⟩]
        · rw [st_k cj, h45 j]
          by_cases c2 : (j : Int) < v6 ∧ bt k j = true
          · rw [if_pos c2, if_pos ⟨by omega, c2.2⟩]
          · rw [if_neg c2, if_neg (fun h => c2 ⟨by omega, h.2⟩)]
theorem ra_pc {i : Nat} (hi : i ≤ 9) {v1 p k g h : Int} (hv : v1 = i) (hg : nz h = h) {w : Wd} : PC (f_R_add v1 p k g h w) (fun _ u => RA1 i p k g h w u) := by
  unfold f_R_add
  have ei : v1.toNat = i := by omega
  refine pc_gd (fun _ => ?_)
  refine pc_lw (fun u1 e1 => ?_)
  refine pc_gd (fun _ => ?_)
  refine pc_lw (fun u2 e2 => ?_)
  rw [ei] at e1 e2
  rw [hv]
  refine pc_w (ra17 hi hg (z := u2 45) u2 FU (by decide) (by omega) (fun j => by rw [if_neg (by omega)]) (fun _ _ _ => rfl)) (fun r u q => ?_)
  obtain ⟨q45, q47, q46, q48, q49, qo⟩ := q
  have f : ∀ c k, c ≠ 44 → c ≠ 45 → u2 c k = w c k := fun c k h1 h2 => by rw [e2, st_c h2, e1, st_c h1]
  refine ⟨fun j => ?_, fun j => ?_, fun j => ?_, fun j => ?_, fun j => ?_, fun j => ?_, fun c k h44 h45 h46 h47 h48 h49 => ?_⟩
  · rw [qo 44 j (by decide) (by decide) (by decide) (by decide) (by decide), e2, st_c (by decide), e1]
    by_cases c : j = i
    · rw [if_pos c, c, st_eq]
    · rw [if_neg c, st_k c]
  · rw [q45 j]
    unfold adk
    by_cases c : j = i
    · rw [if_pos c, if_neg (by omega), c, e2, st_eq]
    · have y : u2 45 j = w 45 j := by rw [e2, st_k c, e1, st_c (by decide)]
      rw [if_neg c, y]
      by_cases c2 : j < i ∧ bt k j = true
      · rw [if_pos c2, if_pos ⟨by omega, c2.2⟩]
      · rw [if_neg c2, if_neg (fun h => c2 ⟨by omega, h.2⟩)]
  · rw [q47 j, f 47 j (by decide) (by decide)]
  · rw [q46 j, f 46 j (by decide) (by decide)]
  · rw [q48 j, f 48 j (by decide) (by decide)]
  · rw [q49 j, f 49 j (by decide) (by decide), f 43 8 (by decide) (by decide)]
  · rw [qo c k h45 h46 h47 h48 h49]; exact f c k h44 h45
/-! MANY COME: to the class -/
def EAN (a n : Nat) (pr kn : Nat → Int) (w u : Wd) : Prop := u 5 3 = (a : Int) + n ∧ (∀ j, j < a → u 6 j = w 6 j ∧ u 8 j = w 8 j) ∧ (∀ i, i < n → u 6 (a + i) = pr i ∧ u 8 (a + i) = -1) ∧ (∀ j, j < a + n → u 7 j = ads (w 7) a kn n j) ∧ ∀ c k, c ≠ 6 → c ≠ 7 → c ≠ 8 → ¬ (c = 5 ∧ k = 3) → u c k = w c k
theorem ean_0 {a : Nat} {pr kn : Nat → Int} {w : Wd} (h : w 5 3 = a) : EAN a 0 pr kn w w := ⟨by omega, fun _ _ => ⟨rfl, rfl⟩, fun i hi => by omega, fun _ _ => rfl, fun _ _ _ _ _ _ => rfl⟩
theorem ean_s {a n : Nat} {pr kn : Nat → Int} {w u v : Wd} (h : EAN a n pr kn w u) (h1 : EA1 (a + n) (pr n) (kn n) u v) : EAN a (n + 1) pr kn w v := by
  obtain ⟨a1, a2, a3, a4, a5⟩ := h
  obtain ⟨b1, b2, b3, b4, b5⟩ := h1
  refine ⟨by omega, fun j hj => ?_, fun i hi => ?_, fun j hj => ?_, fun c k h6 h7 h8 h5 => (b5 c k h6 h7 h8 h5).trans (a5 c k h6 h7 h8 h5)⟩
  · rw [b2, b4, if_neg (by omega), if_neg (by omega)]; exact a2 j hj
  · rw [b2, b4]
    by_cases c : i = n
    · rw [c, if_pos rfl, if_pos rfl]; exact ⟨rfl, rfl⟩
    · rw [if_neg (by omega), if_neg (by omega)]; exact a3 i (by omega)
  · rw [b3 j (by omega)]
    show adk _ _ _ _ = adk _ _ _ _
    unfold adk
    by_cases c : j = a + n
    · rw [if_pos c, if_pos c]
    · rw [if_neg c, if_neg c, a4 j (by omega)]
theorem et2 {a m : Nat} {pr kn : Nat → Int} (x : Wd) (ham : a + m ≤ 10) (hK : KNW a (x 7)) (hk : ∀ i, i < m → (0 ≤ kn i ∧ kn i ≤ 1023) ∧ ∀ q, q < 10 → bt (kn i) q = true → q < a + i) (h9 : x 9 4 = m) (h10 : ∀ i, i < m → x 10 i = pr i ∧ x 11 i = kn i) : ∀ (n : Nat) {w : Wd} (i : Nat), i ≤ m → EAN a i pr kn x w → PC (f_L_settle_2 n i w) (fun _ u => ∃ v, EAN a m pr kn x v ∧ u 5 4 = ior (x 5 4) (x 9 2) ∧ u 5 5 = ior (x 5 5) (x 9 3) ∧ ∀ c k, ¬ (c = 5 ∧ (k = 4 ∨ k = 5)) → u c k = v c k) := by
  intro n
  induction n with
  | zero => intros; exact pc_none
  | succ n ih =>
    intro w i hi hE
    rw [f_L_settle_2]
    obtain ⟨a1, a2, a3, a4, a5⟩ := hE
    have y9 : w 9 4 = m := (a5 9 4 (by decide) (by decide) (by decide) (by omega)).trans h9
    rw [y9]
    refine pc_ite (fun c => ?_) (fun c => ?_)
    · have e : i = m := by omega
      subst e
      refine pc_lw (fun u1 e1 => ?_)
      refine pc_lw (fun u2 e2 => pc_some ⟨w, ⟨a1, a2, a3, a4, a5⟩, ?_, ?_, fun c k hc => ?_⟩)
      · rw [e2, st_k (by decide), e1, st_eq, a5 5 4 (by decide) (by decide) (by decide) (by omega), a5 9 2 (by decide) (by decide) (by decide) (by omega)]
      · rw [e2, st_eq, e1, st_k (by decide), st_c (by decide), a5 5 5 (by decide) (by decide) (by decide) (by omega), a5 9 3 (by decide) (by decide) (by decide) (by omega)]
      · rw [e2]; unfold st; rw [if_neg (by omega), e1]; unfold st; rw [if_neg (by omega)]
    · have ei : ((i : Nat) : Int).toNat = i := by omega
      refine pc_gd (fun _ => ?_)
      refine pc_gd (fun _ => ?_)
      rw [ei, a5 10 i (by decide) (by decide) (by decide) (by omega), a5 11 i (by decide) (by decide) (by decide) (by omega), (h10 i (by omega)).1, (h10 i (by omega)).2]
      have kw : KNW (a + i) (w 7) := by
        intro j hj
        rw [a4 j hj]
        exact kw_ads hK (by omega) (fun i2 h2 => hk i2 (by omega)) j hj
      refine pc_call (ea_pc (i := a + i) (by omega) (by omega) kw) (fun r3 u4 q => ?_)
      refine pc_let (fun x5 e5 => ?_)
      rw [wsucc (P := 10) (by omega) (by decide)] at e5
      have ex : x5 = ((i + 1 : Nat) : Int) := by omega
      rw [ex]
      exact ih (i + 1) (by omega) (ean_s ⟨a1, a2, a3, a4, a5⟩ q)
theorem wh_eq {x P : Int} {s t : Nat → Int} (h : WH x s P) (e : ∀ k : Nat, (k : Int) < P → s k = t k) : WH x t P := by
  obtain ⟨h1, h2, h3⟩ := h
  refine ⟨h1, fun k hk => ?_, fun k hk => by rw [← e k hk]; exact h3 k hk⟩
  have := h2 k hk
  cases hp : inP P k with
  | false => rw [hp] at this; exact this
  | true => rw [hp] at this; rw [← e k (inP_t hp)]; exact this
theorem gs_eq {P : Int} {s t : Nat → Int} (e : ∀ k : Nat, (k : Int) < P → s k = t k) (k : Nat) : gs P s k = gs P t k := by
  unfold gs
  cases hp : inP P k with
  | false => rfl
  | true => rw [e k (inP_t hp)]
theorem hB_eq {P : Int} {s t : Nat → Int} (e : ∀ k : Nat, (k : Int) < P → s k = t k) (k : Nat) : hB P s k = hB P t k := by
  unfold hB
  cases hp : inP P k with
  | false => rfl
  | true => rw [e k (inP_t hp)]
/-- new ones among who is what: bits are joined -/
theorem wh_come {x g : Int} {s : Nat → Int} {a n : Nat} {gf : Nat → Bool} (han : a + n ≤ 10) (h : WH x s a) (hg : B10 g (fun k => decide ((a : Int) ≤ k ∧ (k : Int) < a + n) && gf ((k : Int) - a).toNat)) : WH (ior x g) (fun j => if j < a then s j else if gf (j - a) = true then 1 else 0) ((a : Int) + n) := by
  obtain ⟨h1, h2, h3⟩ := h
  have o := ior_n 30 (x := x) (y := g) (m := 1073741823) (by decide) (by decide) (by omega) (by have := hg.1; omega)
  refine ⟨by omega, fun k hk => ?_, fun k hk => ?_⟩
  · obtain ⟨b1, b2, b3⟩ := h2 k hk
    rw [bt_or, bt_or, bt_or, b1, b2, b3, hg.2 k hk, bt_hi hg.1 (by omega), bt_hi hg.1 (by omega)]
    dsimp only
    by_cases c : k < a
    · rw [show inP (a : Int) k = true from decide_eq_true (by omega), show inP ((a : Int) + n) k = true from decide_eq_true (by omega), if_pos c, decide_eq_false (show ¬ ((a : Int) ≤ k ∧ (k : Int) < a + n) by omega)]
      simp
    · rw [show inP (a : Int) k = false from decide_eq_false (by omega), if_neg c]
      by_cases c2 : k < a + n
      · rw [show inP ((a : Int) + n) k = true from decide_eq_true (by omega), decide_eq_true (show (a : Int) ≤ k ∧ (k : Int) < a + n by omega), show ((k : Int) - a).toNat = k - a by omega]
        cases gf (k - a) <;> simp
      · rw [show inP ((a : Int) + n) k = false from decide_eq_false (by omega), decide_eq_false (show ¬ ((a : Int) ≤ k ∧ (k : Int) < a + n) by omega)]
        simp
  · dsimp only
    by_cases c : k < a
    · rw [if_pos c]; exact h3 k (by omega)
    · rw [if_neg c]; split <;> decide
theorem hB_come {x g : Int} {s : Nat → Int} {a n : Nat} {gf : Nat → Bool} (han : a + n ≤ 10) (h : B10 x (hB a s)) (hg : B10 g (fun k => decide ((a : Int) ≤ k ∧ (k : Int) < a + n) && gf ((k : Int) - a).toNat)) : B10 (ior x g) (hB ((a : Int) + n) (fun j => if j < a then s j else if gf (j - a) = true then 1 else 0)) := by
  refine b10_w (b10_or h hg) (fun k hk => ?_)
  unfold hB
  dsimp only
  by_cases c : k < a
  · rw [show inP (a : Int) k = true from decide_eq_true (by omega), show inP ((a : Int) + n) k = true from decide_eq_true (by omega), if_pos c, decide_eq_false (show ¬ ((a : Int) ≤ k ∧ (k : Int) < a + n) by omega)]
    simp
  · rw [show inP (a : Int) k = false from decide_eq_false (by omega), if_neg c]
    by_cases c2 : k < a + n
    · rw [show inP ((a : Int) + n) k = true from decide_eq_true (by omega), decide_eq_true (show (a : Int) ≤ k ∧ (k : Int) < a + n by omega), show ((k : Int) - a).toNat = k - a by omega]
      cases gf (k - a) <;> simp
    · rw [show inP ((a : Int) + n) k = false from decide_eq_false (by omega), decide_eq_false (show ¬ ((a : Int) ≤ k ∧ (k : Int) < a + n) by omega)]
      simp
/-- who were GUESTS is noted -/
theorem ng_pc {v1 : Int} {w : Wd} (h : 0 ≤ w 15 3 ∧ w 15 3 ≤ 60) : PC (f_D_noteGuests v1 w) (fun _ u => u = st w 16 (w 15 3).toNat v1) := by
  unfold f_D_noteGuests f_D_isOne
  rw [if_neg (by omega), if_neg (by omega), if_neg (by omega), jc_s, if_neg (by decide)]
  exact pc_gd (fun _ => pc_lw (fun u3 e3 => pc_some e3))
theorem pcm_pc {w : Wd} {P : Int} {s : Nat → Int} (hw : WH (w 5 4) s P) (h : 0 ≤ w 15 3 ∧ w 15 3 ≤ 60) : PC (f_E_peopleCame w) (fun _ u => B10 (u 16 (w 15 3).toNat) (gs P s) ∧ u 15 4 = 0 ∧ (∀ t, t ≠ (w 15 3).toNat → u 16 t = w 16 t) ∧ ∀ c k, c ≠ 16 → c ≠ 28 → ¬ (c = 15 ∧ k = 4) → u c k = w c k) := by
  unfold f_E_peopleCame
  refine pc_call (eg_e hw) (fun r1 u2 q => ?_)
  rw [q.1]
  refine pc_call (ng_pc h) (fun r3 u4 p => ?_)
  refine pc_lw (fun u5 e5 => ?_)
  refine pc_call (sf_pc u5) (fun r6 u7 y => pc_some ⟨?_, ?_, fun t ht => ?_, fun c k h1 h2 h3 => ?_⟩)
  · rw [y 16 (by decide), e5, st_c (by decide), p, st_eq]; exact q.2
  · rw [y 15 (by decide), e5, st_eq]
  · rw [y 16 (by decide), e5, st_c (by decide), p, st_k ht]
  · rw [y c h2, e5]; unfold st; rw [if_neg h3, p]; unfold st; rw [if_neg (fun e => h1 e.1)]
/-- as EAN, but who, hidden and the diary too may be others -/
def EAW (a n : Nat) (pr kn : Nat → Int) (w u : Wd) : Prop := u 5 3 = (a : Int) + n ∧ (∀ j, j < a → u 6 j = w 6 j ∧ u 8 j = w 8 j) ∧ (∀ i, i < n → u 6 (a + i) = pr i ∧ u 8 (a + i) = -1) ∧ (∀ j, j < a + n → u 7 j = ads (w 7) a kn n j)
theorem eaw_eq {a n : Nat} {pr kn : Nat → Int} {w v u : Wd} (h : EAN a n pr kn w v) (e3 : u 5 3 = v 5 3) (e6 : u 6 = v 6) (e7 : u 7 = v 7) (e8 : u 8 = v 8) : EAW a n pr kn w u := by
  obtain ⟨a1, a2, a3, a4, _⟩ := h
  unfold EAW
  rw [e3, e6, e7, e8]
  exact ⟨a1, a2, a3, a4⟩
def ECN (a n : Nat) (pr kn : Nat → Int) (gf hf : Nat → Bool) (s h : Nat → Int) (w u : Wd) : Prop := EAW a n pr kn w u ∧ WH (u 5 4) (fun j => if j < a then s j else if gf (j - a) = true then 1 else 0) ((a : Int) + n) ∧ B10 (u 5 5) (hB ((a : Int) + n) (fun j => if j < a then h j else if hf (j - a) = true then 1 else 0)) ∧ B10 (u 16 (w 15 3).toNat) (gs ((a : Int) + n) (fun j => if j < a then s j else if gf (j - a) = true then 1 else 0)) ∧ u 15 4 = 0 ∧ (∀ t, t ≠ (w 15 3).toNat → u 16 t = w 16 t) ∧ (u 5 6 = w 5 6 ∧ u 15 3 = w 15 3)
theorem lf_E {w : Wd} {a : Nat} {s h : Nat → Int} (hG : G md_E_land w w) (ha : w 5 3 = a) (hw : WH (w 5 4) s a) (hh : B10 (w 5 5) (hB a h)) (hK : KNW a (w 7)) (hd : 0 ≤ w 15 3 ∧ w 15 3 ≤ 60) : PC (f_E_land w) (fun r u => (¬ 0 < r ∧ ∀ c k, c ≠ 9 → c ≠ 10 → c ≠ 11 → ¬ (c = 1 ∧ k = 1) → u c k = w c k) ∨ (0 < r ∧ (a : Int) + r ≤ 10 ∧ ECN a r.toNat (lpr (sE (w 1 1) (w 2)) a) (lkn (sE (w 1 1) (w 2)) a) (lgs (sE (w 1 1) (w 2)) a) (lhi (sE (w 1 1) (w 2)) a) s h w u)) := by
  unfold f_E_land
  have a0 : (0 : Int) ≤ w 5 3 ∧ w 5 3 ≤ 10 := hG.1 5 3
  have hf : ∀ k, 0 ≤ w 2 k := fun k => (hG.1 2 k).1
  refine pc_call (pc_and (pc_ok (s_L_read (g_self hG) (by omega))) (pc_and (lread hf a0 ⟨rfl, rfl, rfl⟩) (mread hf a0 ⟨rfl, rfl, rfl⟩))) (fun r1 u2 q => ?_)
  obtain ⟨⟨_, gy⟩, ⟨_, q1, q2⟩, q3⟩ := q
  have f2 : ∀ c k, c ≠ 9 → c ≠ 10 → c ≠ 11 → u2 c k = w c k := fun c k h9 h10 h11 => gy.2.1 c k (by
    have e : md_L_read = [902, 903, 904, 905, 1099, 1199] := rfl
    rw [e]
    refine mS_ar ?_ k
    simp [Nat.blt_eq]
    omega)
  unfold f_T_clear
  rw [show (jlw (st u2 1 1 0) fun u1 => some ((0 : Int), u1)) = some (0, st u2 1 1 0) from rfl, jc_s]
  have f4 : ∀ c k, c ≠ 9 → c ≠ 10 → c ≠ 11 → ¬ (c = 1 ∧ k = 1) → st u2 1 1 0 c k = w c k := fun c k h9 h10 h11 h1 => by
    unfold st
    rw [if_neg h1]; exact f2 c k h9 h10 h11
  refine pc_ite (fun c => pc_some (Or.inl ⟨by omega, f4⟩)) (fun c => ?_)
  have hle : r1 ≤ 10 - w 5 3 := by
    rw [q1]
    unfold landA
    split
    · omega
    · exact lan_le _ _ _ a0.2 _ _ _ (Int.le_refl 0)
  have hc := q3 (by omega)
  rw [ha] at hc
  obtain ⟨c1, c2, c3⟩ := hc
  generalize e4 : st u2 1 1 0 = u4 at f4 ⊢
  have t9 : ∀ k, u4 9 k = u2 9 k := fun k => by rw [← e4, st_c (by decide)]
  have t10 : u4 10 = u2 10 := by rw [← e4]; exact st_row (by decide)
  have t11 : u4 11 = u2 11 := by rw [← e4]; exact st_row (by decide)
  have k7 : u4 7 = w 7 := funext fun k => f4 7 k (by decide) (by decide) (by decide) (by omega)
  have hr : ((r1.toNat : Nat) : Int) = r1 := by omega
  have hkn : ∀ i, i < r1.toNat → (0 ≤ lkn (sE (w 1 1) (w 2)) a i ∧ lkn (sE (w 1 1) (w 2)) a i ≤ 1023) ∧ ∀ q, q < 10 → bt (lkn (sE (w 1 1) (w 2)) a i) q = true → q < a + i := fun i hi => by
    obtain ⟨y1, y2⟩ := lkn_rg (s := sE (w 1 1) (w 2)) (a := (a : Int)) (i := i) (by omega)
    exact ⟨y1, fun q hq hb => by have := y2 q hq hb; omega⟩
  have hs : PC (f_L_settle u4) (fun _ u => ∃ v, EAN a r1.toNat (lpr (sE (w 1 1) (w 2)) a) (lkn (sE (w 1 1) (w 2)) a) u4 v ∧ u 5 4 = ior (u4 5 4) (u4 9 2) ∧ u 5 5 = ior (u4 5 5) (u4 9 3) ∧ ∀ c k, ¬ (c = 5 ∧ (k = 4 ∨ k = 5)) → u c k = v c k) := by
    unfold f_L_settle
    refine et2 u4 (m := r1.toNat) (by omega) (by rw [k7]; exact hK) hkn ?_ (fun i hi => ?_) FU 0 (by omega) (ean_0 ?_)
    · rw [t9, q2 (by omega), hr]
    · rw [t10, t11]; exact c1 i hi
    · rw [f4 5 3 (by decide) (by decide) (by decide) (by omega)]; exact ha
  refine pc_call hs (fun r5 u6 q => ?_)
  obtain ⟨v, hE, y4, y5, yo⟩ := q
  have o4 := f4 5 4 (by decide) (by decide) (by decide) (by omega)
  have o5 := f4 5 5 (by decide) (by decide) (by decide) (by omega)
  rw [o4, t9] at y4
  rw [o5, t9] at y5
  have w6 : WH (u6 5 4) (fun j => if j < a then s j else if lgs (sE (w 1 1) (w 2)) a (j - a) = true then 1 else 0) ((a : Int) + r1.toNat) := by
    rw [y4]
    exact wh_come (by omega) hw (by rw [hr]; rw [hr] at c2; exact c2)
  have d15 : u6 15 3 = w 15 3 := by
    rw [yo 15 3 (by omega), hE.2.2.2.2 15 3 (by decide) (by decide) (by decide) (by omega)]
    exact f4 15 3 (by decide) (by decide) (by decide) (by omega)
  refine pc_call (pcm_pc w6 (by omega)) (fun r7 u8 q => ?_)
  obtain ⟨z1, z2, z3, z4⟩ := q
  have row : ∀ c, c ≠ 16 → c ≠ 28 → c ≠ 15 → c ≠ 5 → u8 c = v c := fun c h16 h28 h15 h5 => funext fun k => (z4 c k h16 h28 (fun e => h15 e.1)).trans (yo c k (fun e => h5 e.1))
  have E8 : EAW a r1.toNat (lpr (sE (w 1 1) (w 2)) a) (lkn (sE (w 1 1) (w 2)) a) u4 u8 := eaw_eq hE ((z4 5 3 (by decide) (by decide) (by decide)).trans (yo 5 3 (by decide))) (row 6 (by decide) (by decide) (by decide) (by omega)) (row 7 (by decide) (by decide) (by decide) (by omega)) (row 8 (by decide) (by decide) (by decide) (by omega))
  refine pc_some (Or.inr ⟨by omega, by omega, ?_, ?_, ?_, ?_, z2, fun t ht => ?_, ?_, ?_⟩)
  · unfold EAW at E8 ⊢
    rw [show u4 6 = w 6 from funext fun k => f4 6 k (by decide) (by decide) (by decide) (by omega), show u4 8 = w 8 from funext fun k => f4 8 k (by decide) (by decide) (by decide) (by omega), k7] at E8
    exact E8
  · rw [z4 5 4 (by decide) (by decide) (by decide)]; exact w6
  · rw [z4 5 5 (by decide) (by decide) (by decide), y5]
    exact hB_come (by omega) hh (by rw [hr]; rw [hr] at c3; exact c3)
  · rw [← d15]; exact z1
  · rw [z3 t (by rw [d15]; exact ht), yo 16 t (by omega), hE.2.2.2.2 16 t (by decide) (by decide) (by decide) (by omega)]
    exact f4 16 t (by decide) (by decide) (by decide) (by omega)
  · rw [z4 5 6 (by decide) (by decide) (by decide), yo 5 6 (by omega), hE.2.2.2.2 5 6 (by decide) (by decide) (by decide) (by omega)]
    exact f4 5 6 (by decide) (by decide) (by decide) (by omega)
  · rw [z4 15 3 (by decide) (by decide) (by decide)]; exact d15
/-! MANY COME: to the reference -/
def RAN (a n : Nat) (pr kn g h : Nat → Int) (w u : Wd) : Prop := (∀ j, j < a → u 44 j = w 44 j ∧ u 46 j = w 46 j ∧ u 47 j = w 47 j ∧ u 48 j = w 48 j ∧ u 49 j = w 49 j) ∧ (∀ i, i < n → u 44 (a + i) = pr i ∧ u 46 (a + i) = h i ∧ u 47 (a + i) = g i ∧ u 48 (a + i) = -1 ∧ u 49 (a + i) = if g i = 1 then w 43 8 else -1) ∧ (∀ j, j < a + n → u 45 j = ads (w 45) a kn n j) ∧ ∀ c k, c ≠ 44 → c ≠ 45 → c ≠ 46 → c ≠ 47 → c ≠ 48 → c ≠ 49 → u c k = w c k
theorem ran_0 {a : Nat} {pr kn g h : Nat → Int} {w : Wd} : RAN a 0 pr kn g h w w := ⟨fun _ _ => ⟨rfl, rfl, rfl, rfl, rfl⟩, fun i hi => by omega, fun _ _ => rfl, fun _ _ _ _ _ _ _ _ => rfl⟩
theorem ran_s {a n : Nat} {pr kn g h : Nat → Int} {w u v : Wd} (hr : RAN a n pr kn g h w u) (h1 : RA1 (a + n) (pr n) (kn n) (g n) (h n) u v) : RAN a (n + 1) pr kn g h w v := by
  obtain ⟨a2, a3, a4, a5⟩ := hr
  obtain ⟨b44, b45, b47, b46, b48, b49, bo⟩ := h1
  have y8 : u 43 8 = w 43 8 := a5 43 8 (by decide) (by decide) (by decide) (by decide) (by decide) (by decide)
  refine ⟨fun j hj => ?_, fun i hi => ?_, fun j hj => ?_, fun c k h1 h2 h3 h4 h5 h6 => (bo c k h1 h2 h3 h4 h5 h6).trans (a5 c k h1 h2 h3 h4 h5 h6)⟩
  · rw [b44, b46, b47, b48, b49, if_neg (by omega), if_neg (by omega), if_neg (by omega), if_neg (by omega), if_neg (by omega)]; exact a2 j hj
  · rw [b44, b46, b47, b48, b49, y8]
    by_cases c : i = n
    · rw [c, if_pos rfl, if_pos rfl, if_pos rfl, if_pos rfl, if_pos rfl]; exact ⟨rfl, rfl, rfl, rfl, rfl⟩
    · rw [if_neg (by omega), if_neg (by omega), if_neg (by omega), if_neg (by omega), if_neg (by omega)]; exact a3 i (by omega)
  · rw [b45 j]
    show adk _ _ _ _ = adk _ _ _ _
    unfold adk
    by_cases c : j = a + n
    · rw [if_pos c, if_pos c]
    · rw [if_neg c, if_neg c, a4 j (by omega)]
theorem tdq_pc {w : Wd} (hP : 0 ≤ w 43 0 ∧ w 43 0 ≤ 10) (h56 : 0 ≤ w 43 56 ∧ w 43 56 ≤ 10) : PC (f_R_told w) (fun _ u => B10 (u 50 (w 43 8).toNat) (gs (w 43 0) (w 47)) ∧ (∀ t, t ≠ (w 43 8).toNat → u 50 t = w 50 t) ∧ u 43 32 = 0 ∧ u 43 56 = w 43 56 + 1 ∧ ∀ c k, c ≠ 50 → ¬ (c = 43 ∧ (k = 32 ∨ k = 56)) → u c k = w c k) := by
  unfold f_R_told
  refine pc_call (rg_e hP) (fun r1 u2 q => ?_)
  rw [q.1]
  refine pc_gd (fun _ => ?_)
  refine pc_lw (fun u3 e3 => ?_)
  refine pc_lw (fun u4 e4 => ?_)
  refine pc_lw (fun u5 e5 => ?_)
  have t : u4 43 56 = w 43 56 := by rw [e4, st_k (by decide), e3, st_c (by decide)]
  have w1 := w32_sp (u4 43 56 + 1)
  refine pc_some ⟨?_, fun t ht => ?_, ?_, ?_, fun c k h1 h2 => ?_⟩
  · rw [e5, st_c (by decide), e4, st_c (by decide), e3, st_eq]; exact q.2
  · rw [e5, st_c (by decide), e4, st_c (by decide), e3, st_k ht]
  · rw [e5, st_k (by decide), e4, st_eq]
  · rw [e5, st_eq]; omega
  · rw [e5]; unfold st; rw [if_neg (by omega), e4]; unfold st; rw [if_neg (by omega), e3]; unfold st; rw [if_neg (fun e => h1 e.1)]
/-- the reference's side when so many came -/
def RCN (a n : Nat) (pr kn g h : Nat → Int) (w u : Wd) : Prop := (∃ v, RAN a n pr kn g h w v ∧ ∀ c, c = 44 ∨ c = 45 ∨ c = 46 ∨ c = 47 ∨ c = 48 ∨ c = 49 → u c = v c) ∧ u 43 0 = (a : Int) + n ∧ B10 (u 50 (w 43 8).toNat) (gs ((a : Int) + n) (u 47)) ∧ (∀ t, t ≠ (w 43 8).toNat → u 50 t = w 50 t) ∧ u 43 32 = 0 ∧ u 43 56 = w 43 56 + 1 ∧ (u 43 7 = w 43 7 ∧ u 43 8 = w 43 8 ∧ u 43 10 = w 43 10 ∧ u 43 11 = w 43 11) ∧ ∀ c, c = 79 ∨ c = 80 ∨ c = 81 → u c = w c
theorem rcn_fin {a n : Nat} (han : a + n ≤ 10) {pr kn g h : Nat → Int} {w v v2 u : Wd} (hv : RAN a n pr kn g h w v) (e2 : v2 = st v 43 0 ((a : Int) + n)) (q : B10 (u 50 (v2 43 8).toNat) (gs (v2 43 0) (v2 47)) ∧ (∀ t, t ≠ (v2 43 8).toNat → u 50 t = v2 50 t) ∧ u 43 32 = 0 ∧ u 43 56 = v2 43 56 + 1 ∧ ∀ c k, c ≠ 50 → ¬ (c = 43 ∧ (k = 32 ∨ k = 56)) → u c k = v2 c k) : RCN a n pr kn g h w u := by
  have f : ∀ c k, c ≠ 44 → c ≠ 45 → c ≠ 46 → c ≠ 47 → c ≠ 48 → c ≠ 49 → ¬ (c = 43 ∧ k = 0) → v2 c k = w c k := fun c k h1 h2 h3 h4 h5 h6 h7 => by
    rw [e2]; unfold st; rw [if_neg h7]; exact hv.2.2.2 c k h1 h2 h3 h4 h5 h6
  obtain ⟨q1, q2, q3, q4, q5⟩ := q
  have y8 : v2 43 8 = w 43 8 := f 43 8 (by decide) (by decide) (by decide) (by decide) (by decide) (by decide) (by decide)
  have y0 : v2 43 0 = (a : Int) + n := by rw [e2, st_eq]
  have y47 : u 47 = v2 47 := funext fun k => q5 47 k (by decide) (by omega)
  rw [y8] at q1 q2
  rw [y0, ← y47] at q1
  refine ⟨⟨v, hv, fun c hc => funext fun k => ?_⟩, ?_, q1, fun t ht => ?_, q3, ?_, ⟨?_, ?_, ?_, ?_⟩, fun c hc => funext fun k => ?_⟩
  · rw [q5 c k (by omega) (by omega), e2, st_c (by omega)]
  · rw [q5 43 0 (by decide) (by decide)]; exact y0
  · rw [q2 t ht, f 50 t (by decide) (by decide) (by decide) (by decide) (by decide) (by decide) (by omega)]
  · rw [q4, f 43 56 (by decide) (by decide) (by decide) (by decide) (by decide) (by decide) (by decide)]
  · rw [q5 43 7 (by decide) (by decide), f 43 7 (by decide) (by decide) (by decide) (by decide) (by decide) (by decide) (by decide)]
  · rw [q5 43 8 (by decide) (by decide)]; exact y8
  · rw [q5 43 10 (by decide) (by decide), f 43 10 (by decide) (by decide) (by decide) (by decide) (by decide) (by decide) (by decide)]
  · rw [q5 43 11 (by decide) (by decide), f 43 11 (by decide) (by decide) (by decide) (by decide) (by decide) (by decide) (by decide)]
  · rw [q5 c k (by omega) (by omega), f c k (by omega) (by omega) (by omega) (by omega) (by omega) (by omega) (by omega)]
/-- what the reading of lines leaves as it was -/
def KF0 (w0 w : Wd) : Prop := (∀ c k, c ≠ 43 → c ≠ 53 → c ≠ 54 → c ≠ 55 → c ≠ 56 → w c k = w0 c k) ∧ ∀ k, k ≠ 13 → k ≠ 16 → k ≠ 17 → k ≠ 18 → k ≠ 19 → k ≠ 20 → k ≠ 21 → w 43 k = w0 43 k
theorem kf_st {w0 w u : Wd} {c k : Nat} {z : Int} (h : KF0 w0 w) (e : u = st w c k z) (hc : c = 43 ∧ (k = 13 ∨ k = 16 ∨ k = 17 ∨ k = 18 ∨ k = 19 ∨ k = 20 ∨ k = 21)) : KF0 w0 u := by
  refine ⟨fun c' k' h1 h2 h3 h4 h5 => ?_, fun k' h1 h2 h3 h4 h5 h6 h7 => ?_⟩
  · rw [e, st_c (by omega)]; exact h.1 c' k' h1 h2 h3 h4 h5
  · rw [e, hc.1, st_k (by omega)]; exact h.2 k' h1 h2 h3 h4 h5 h6 h7
theorem mS_mem {S : List Nat} {c k : Nat} (h : mS S c k = true) : ∃ x ∈ S, x = c * 100 + 99 ∨ (k < 99 ∧ x = c * 100 + k) := by
  unfold mS at h
  rw [Bool.or_eq_true, Bool.and_eq_true, Nat.blt_eq] at h
  rcases h with h | h
  · exact ⟨_, List.contains_iff_mem.mp h, Or.inl rfl⟩
  · exact ⟨_, List.contains_iff_mem.mp h.2, Or.inr ⟨h.1, rfl⟩⟩
theorem kf_ro {w0 w u : Wd} (h : KF0 w0 w) (g : G md_R_readOne w u) : KF0 w0 u := by
  have key : ∀ c k, ¬ (c = 43 ∧ (k = 20 ∨ k = 21)) → c ≠ 53 → c ≠ 54 → c ≠ 55 → c ≠ 56 → u c k = w c k := by
    intro c k h1 h2 h3 h4 h5
    refine g.2.1 c k ?_
    cases hm : mS md_R_readOne c k with
    | false => rfl
    | true =>
      obtain ⟨x, hx, hx2⟩ := mS_mem hm
      have e : md_R_readOne = [4320, 4321, 5399, 5499, 5599, 5699] := rfl
      rw [e] at hx
      simp only [List.mem_cons, List.not_mem_nil, or_false] at hx
      exfalso
      omega
  refine ⟨fun c k h1 h2 h3 h4 h5 => ?_, fun k h1 h2 h3 h4 h5 h6 h7 => ?_⟩
  · rw [key c k (by omega) h2 h3 h4 h5]; exact h.1 c k h1 h2 h3 h4 h5
  · rw [key 43 k (by omega) (by decide) (by decide) (by decide) (by decide)]; exact h.2 k h1 h2 h3 h4 h5 h6 h7
theorem n132 {a m : Nat} (ham : a + m ≤ 10) {h : Int → Int} {v3 : Int} (x : Wd) (hx : RCt h a m x) (h56 : 0 ≤ x 43 56 ∧ x 43 56 ≤ 10) : ∀ (n : Nat) {w : Wd} (i : Nat), i ≤ m → RAN a i (lpr h a) (lkn h a) (fun i => if lgs h a i = true then 1 else 0) (fun i => if lhi h a i = true then 1 else 0) x w → PC (f_R_land_132 n ((a : Int) + m) v3 ((a : Int) + i) w) (fun _ u => RCN a m (lpr h a) (lkn h a) (fun i => if lgs h a i = true then 1 else 0) (fun i => if lhi h a i = true then 1 else 0) x u) := by
  intro n
  induction n with
  | zero => intros; exact pc_none
  | succ n ih =>
    intro w i hi hR
    rw [f_R_land_132]
    have fo := hR.2.2.2
    refine pc_ite (fun c => ?_) (fun c => ?_)
    · have e : i = m := by omega
      subst e
      refine pc_lw (fun u10 e10 => ?_)
      have y0 : u10 43 0 = (a : Int) + i := by rw [e10, st_eq]
      have y56 : u10 43 56 = x 43 56 := by rw [e10, st_k (by decide)]; exact fo 43 56 (by decide) (by decide) (by decide) (by decide) (by decide) (by decide)
      refine pc_call (tdq_pc (w := u10) (by omega) (by omega)) (fun r11 u12 q => pc_some ?_)
      exact rcn_fin ham hR e10 q
    · have ei : ((a : Int) + i).toNat = a + i := by omega
      refine pc_gd (fun _ => ?_)
      refine pc_gd (fun _ => ?_)
      refine pc_gd (fun _ => ?_)
      refine pc_gd (fun _ => ?_)
      obtain ⟨x1, x2, x3, x4⟩ := hx i (by omega)
      rw [ei] at x1 x2 x3 x4 ⊢
      rw [fo 53 _ (by decide) (by decide) (by decide) (by decide) (by decide) (by decide), fo 54 _ (by decide) (by decide) (by decide) (by decide) (by decide) (by decide), fo 55 _ (by decide) (by decide) (by decide) (by decide) (by decide) (by decide), fo 56 _ (by decide) (by decide) (by decide) (by decide) (by decide) (by decide), x1, x2, x3, x4]
      refine pc_call (ra_pc (i := a + i) (by omega) (by omega) (by cases lhi h a i <;> decide)) (fun r13 u14 q => ?_)
      refine pc_let (fun x15 e15 => ?_)
      rw [wsucc (P := 10) (by omega) (by decide)] at e15
      have ex : x15 = (a : Int) + ((i + 1 : Nat) : Int) := by omega
      rw [ex]
      exact ih (i + 1) (by omega) (ran_s hR q)
theorem rcn_tr {a n : Nat} {pr kn g h : Nat → Int} {w0 x u : Wd} (k : KF0 w0 x) (hr : RCN a n pr kn g h x u) : RCN a n pr kn g h w0 u := by
  obtain ⟨⟨v, ⟨a2, a3, a4, a5⟩, hv⟩, r0, r50, r50o, r32, r56, ⟨r7, r8, r10, r11⟩, rk⟩ := hr
  have k8 : x 43 8 = w0 43 8 := k.2 8 (by decide) (by decide) (by decide) (by decide) (by decide) (by decide) (by decide)
  have row : ∀ c, c ≠ 43 → c ≠ 53 → c ≠ 54 → c ≠ 55 → c ≠ 56 → x c = w0 c := fun c h1 h2 h3 h4 h5 => funext fun j => k.1 c j h1 h2 h3 h4 h5
  -- v is not what it is against w0 in the reader's own cells: make it so
  refine ⟨⟨fun c j => if c = 43 ∨ c = 53 ∨ c = 54 ∨ c = 55 ∨ c = 56 then w0 c j else v c j, ⟨fun j hj => ?_, fun i hi => ?_, fun j hj => ?_, fun c j h1 h2 h3 h4 h5 h6 => ?_⟩, fun c hc => ?_⟩, r0, by rw [← k8]; exact r50, fun t ht => ?_, r32, ?_, ⟨?_, ?_, ?_, ?_⟩, fun c hc => ?_⟩
  · have := a2 j hj
    rw [row 44 (by decide) (by decide) (by decide) (by decide) (by decide), row 46 (by decide) (by decide) (by decide) (by decide) (by decide), row 47 (by decide) (by decide) (by decide) (by decide) (by decide), row 48 (by decide) (by decide) (by decide) (by decide) (by decide), row 49 (by decide) (by decide) (by decide) (by decide) (by decide)] at this
    exact this
  · have := a3 i hi
    rw [k8] at this
    exact this
  · have := a4 j hj
    rw [row 45 (by decide) (by decide) (by decide) (by decide) (by decide)] at this
    exact this
  · dsimp only
    by_cases c1 : c = 43 ∨ c = 53 ∨ c = 54 ∨ c = 55 ∨ c = 56
    · rw [if_pos c1]
    · rw [if_neg c1, a5 c j h1 h2 h3 h4 h5 h6]; exact k.1 c j (by omega) (by omega) (by omega) (by omega) (by omega)
  · rw [hv c hc]
    funext j
    dsimp only
    rw [if_neg (by omega)]
  · rw [r50o t (by rw [k8]; exact ht)]; exact k.1 50 t (by decide) (by decide) (by decide) (by decide) (by decide)
  · rw [r56, k.2 56 (by decide) (by decide) (by decide) (by decide) (by decide) (by decide) (by decide)]
  · rw [r7, k.2 7 (by decide) (by decide) (by decide) (by decide) (by decide) (by decide) (by decide)]
  · rw [r8]; exact k8
  · rw [r10, k.2 10 (by decide) (by decide) (by decide) (by decide) (by decide) (by decide) (by decide)]
  · rw [r11, k.2 11 (by decide) (by decide) (by decide) (by decide) (by decide) (by decide) (by decide)]
  · rw [rk c hc]; exact row c (by omega) (by omega) (by omega) (by omega) (by omega)
/-- so many lines were read: they come, or there is a fault -/
theorem n40z {b w0 : Wd} {a m : Nat} {n0 : Int} {f0 : Nat → Int} (ham : a + m ≤ 10) (n : Nat) {w : Wd} (hG : G md_R_land b w) (hV : RV n0 f0 (a : Int) w) (h21 : w 43 21 = -1) (h56 : 0 ≤ w 43 56 ∧ w 43 56 ≤ 10) (hc : RCt (hR n0 f0) a m w) (hk : KF0 w0 w) : PC (f_R_land_40 n ((a : Int) + m) 0 w) (fun r u => 0 < r → RCN a m (lpr (hR n0 f0) a) (lkn (hR n0 f0) a) (fun i => if lgs (hR n0 f0) a i = true then 1 else 0) (fun i => if lhi (hR n0 f0) a i = true then 1 else 0) w0 u) := by
  cases n with
  | zero => exact pc_none
  | succ n =>
    rw [f_R_land_40]
    refine pc_ite (fun _ => ?_) (fun h => absurd rfl h)
    have a20 : (0 : Int) ≤ w 43 20 ∧ w 43 20 ≤ 80 := hG.1 43 20
    by_cases cc : w 43 18 ≤ w 43 20
    · unfold f_R_land_86
      rw [if_pos cc]
      unfold f_R_land_105
      rw [fine_e, jc_s, if_pos h21]
      refine pc_ite (fun h => absurd h (by decide)) (fun _ => ?_)
      refine pc_let (fun x8 e8 => ?_)
      refine pc_let (fun x9 e9 => ?_)
      have e : x9 = (a : Int) + ((0 : Nat) : Int) := by rw [e9, hV.2.2.2.2]; omega
      rw [e]
      exact pc_w (n132 ham w hc h56 FU 0 (by omega) ran_0) (fun r u q _ => rcn_tr hk q)
    · refine pc_w (r86 (v1 := (a : Int) + m) (by omega) hG h56 (Or.inl (by omega))) (fun r u q h0 => ?_)
      rw [if_pos h21, if_neg cc] at q
      exfalso; omega
theorem n40 {b w0 : Wd} {a : Nat} {n0 : Int} {f0 : Nat → Int} {C0 : Int} (hC : 0 ≤ C0 ∧ C0 ≤ 10) : ∀ (n : Nat) {w : Wd} (j : Nat), a + j ≤ 10 → G md_R_land b w → RV n0 f0 (a : Int) w → w 43 21 = -1 → (0 ≤ w 43 20 ∧ w 43 20 ≤ 76) → w 43 56 = C0 → w 43 20 = lp (hR n0 f0) a j → RCt (hR n0 f0) a j w → KF0 w0 w → PC (f_R_land_40 n ((a : Int) + j) 1 w) (fun r u => 0 < r → (a : Int) + r ≤ 10 ∧ RCN a r.toNat (lpr (hR n0 f0) a) (lkn (hR n0 f0) a) (fun i => if lgs (hR n0 f0) a i = true then 1 else 0) (fun i => if lhi (hR n0 f0) a i = true then 1 else 0) w0 u) := by
  intro n
  induction n with
  | zero => intros; exact pc_none
  | succ n ih =>
    intro w j haj hG h h21 h20 h56 hl hc hk
    rw [f_R_land_40]
    have w1 := w32_sp ((a : Int) + j + 1)
    refine pc_ite (fun h => absurd h (by decide)) (fun _ => ?_)
    rw [fine_e, jc_s, if_pos h21]
    refine pc_ite (fun h => absurd h (by decide)) (fun _ => ?_)
    have stop : ∀ {u : Wd} {x : Int}, G md_R_land b u → RV n0 f0 (a : Int) u → u 43 21 = x → 0 ≤ x → (0 ≤ u 43 20 ∧ u 43 20 ≤ 76) → u 43 56 = C0 → PC (f_R_land_73 (f_R_land_40 n) ((a : Int) + j) u) (fun r u' => 0 < r → (a : Int) + r ≤ 10 ∧ RCN a r.toNat (lpr (hR n0 f0) a) (lkn (hR n0 f0) a) (fun i => if lgs (hR n0 f0) a i = true then 1 else 0) (fun i => if lhi (hR n0 f0) a i = true then 1 else 0) w0 u') := by
      intro u x gu hu ux x0 u20 u56
      unfold f_R_land_73
      refine pc_let (fun x22 e22 => ?_)
      refine pc_call (ps_pc hu 59 u20) (fun r23 u24 q => ?_)
      rcases q with ⟨q0, _⟩ | ⟨_, q2, q3⟩
      · exfalso; omega
      · rw [q2, q3]
        have hne : ¬ u 43 21 = -1 := by omega
        refine pc_w (r40z (v1 := x22) (by omega) n gu (by omega) (Or.inr hne)) (fun r u' p h0 => ?_)
        rw [if_neg hne, ux] at p
        exfalso; omega
    refine pc_ite (fun c1 => ?_) (fun c1 => ?_)
    · refine pc_call (pc_and (pc_ok (s_R_fault (g_self hG) (by omega) h20.1)) (fl_pc w (w 43 20))) (fun r25 u26 q => ?_)
      obtain ⟨⟨_, gy, _⟩, q⟩ := q
      rw [if_pos h21] at q
      have t20 : u26 43 20 = w 43 20 := by rw [q, st_k (by decide)]
      exact stop (g_tr hG gy rfl) (rv_st h q (by decide) (Or.inr (by decide))) (by rw [q, st_eq]) h20.1 (by omega) (by rw [q, st_k (by decide)]; exact h56)
    · refine pc_call (pc_and (pc_ok (s_R_readOne (g_self hG) (by omega) h.1)) (pc_and (rrl (by omega) h h21 h20) (nrl (by omega) (by omega) h h21 h20 hl hc))) (fun r20 u21 q => ?_)
      obtain ⟨⟨_, gy⟩, ⟨hu, q⟩, qc⟩ := q
      have gu : G md_R_land b u21 := g_tr hG gy rfl
      have ku := kf_ro hk gy
      have t56 : u21 43 56 = C0 := (gy.2.1 43 56 rfl).trans h56
      rcases q with ⟨q1, q2, q3⟩ | ⟨q1, q⟩
      · exact stop gu hu q2 h20.1 (by omega) t56
      · have l5 := hR_lt (n := n0) (f := f0) (p := w 43 20) (by omega)
        have b1 := lt_ge (hR n0 f0) ((a : Int) + j) ((a : Int) + j).toNat (w 43 20 + 1)
        have b2 := lt_le (hR_76 n0 f0) (num := (a : Int) + j) ((a : Int) + j).toNat (p := w 43 20 + 1) (by omega) (by omega)
        have b3 := fnl_le (hR_76 n0 f0) (p := lt (hR n0 f0) ((a : Int) + j) ((a : Int) + j).toNat (w 43 20 + 1)) (by omega)
        have b4 := fnl_ge (hR n0 f0) (lt (hR n0 f0) ((a : Int) + j) ((a : Int) + j).toNat (w 43 20 + 1))
        have ee : en (hR n0 f0) ((a : Int) + j) (w 43 20) = fnl (hR n0 f0) (lt (hR n0 f0) ((a : Int) + j) ((a : Int) + j).toNat (w 43 20 + 1)) := rfl
        generalize lt (hR n0 f0) ((a : Int) + j) ((a : Int) + j).toNat (w 43 20 + 1) = x at *
        rcases q with ⟨p1, p2, p3⟩ | ⟨p1, p2, p3⟩
        · have l6 := hR_lt (n := n0) (f := f0) (p := x) (by omega)
          exact stop gu hu p2 (by omega) (by omega) t56
        · have qc2 := qc p2
          unfold f_R_land_73
          refine pc_let (fun x22 e22 => ?_)
          have e22' : x22 = (a : Int) + ((j + 1 : Nat) : Int) := by omega
          rw [e22']
          have y20 : u21 43 20 = en (hR n0 f0) ((a : Int) + j) (w 43 20) := by rw [ee]; exact p3
          refine pc_call (pc_and (pc_ok (s_R_passes (g_self gu) (by decide) (Or.inl hu.1) (by decide))) (ps_pc hu 59 (by omega))) (fun r23 u24 q => ?_)
          obtain ⟨⟨_, gy2, _⟩, q⟩ := q
          rcases q with ⟨_, c2, q2, q3⟩ | ⟨q1', q2, q3⟩
          · have l6 := hR_lt (n := n0) (f := f0) (p := u21 43 20) (by omega)
            rw [q2]
            have t20 : u24 43 20 = u21 43 20 + 1 := by rw [q3, st_eq]
            refine ih (j + 1) (by omega) (g_tr gu gy2 rfl) (rv_st hu q3 (by decide) (Or.inr (by decide))) (by rw [q3, st_k (by decide)]; exact p2) (by omega) (by rw [q3, st_k (by decide)]; exact t56) ?_ ?_ (kf_st ku q3 (by omega))
            · rw [t20, y20, hl]; rfl
            · intro i hi
              rw [q3, st_c (by decide), st_c (by decide), st_c (by decide), st_c (by decide)]
              exact qc2 i hi
          · rw [q2, q3]
            refine pc_w (pc_and (n40z (a := a) (m := j + 1) (by omega) n gu hu p2 (by omega) qc2 ku) (r40z (v1 := (a : Int) + ((j + 1 : Nat) : Int)) (by omega) n gu (by omega) (Or.inl (by omega)))) (fun r u' p h0 => ?_)
            obtain ⟨p1', p2'⟩ := p
            rw [if_pos p2, hu.2.2.2.2] at p2'
            by_cases c3 : u21 43 18 ≤ u21 43 20
            · rw [if_pos c3] at p2'
              have er : r = ((j + 1 : Nat) : Int) := by omega
              have er2 : r.toNat = j + 1 := by omega
              rw [er2]
              exact ⟨by omega, p1' h0⟩
            · rw [if_neg c3] at p2'
              exfalso; omega
theorem lf_R {w : Wd} {a : Nat} (hG : G md_R_land w w) (ha : w 43 0 = a) (h56 : 0 ≤ w 43 56 ∧ w 43 56 ≤ 10) : PC (f_R_land w) (fun r u => 0 < r → (a : Int) + r ≤ 10 ∧ RCN a r.toNat (lpr (hR (w 43 13) (w 51)) a) (lkn (hR (w 43 13) (w 51)) a) (fun i => if lgs (hR (w 43 13) (w 51)) a i = true then 1 else 0) (fun i => if lhi (hR (w 43 13) (w 51)) a i = true then 1 else 0) w u) := by
  unfold f_R_land
  have a0 : (0 : Int) ≤ w 43 0 ∧ w 43 0 ≤ 10 := hG.1 43 0
  refine pc_lw (fun u1 e1 => ?_)
  have g1 : G md_R_land w u1 := g_st hG e1 rfl rfl (show (0 : Int) ≤ 0 ∧ (0 : Int) ≤ 1 by decide)
  have a13 : (0 : Int) ≤ u1 43 13 ∧ u1 43 13 ≤ 80 := g1.1 43 13
  have t13 : u1 43 13 = w 43 13 := by rw [e1, st_k (by decide)]
  have t0 : u1 43 0 = w 43 0 := by rw [e1, st_k (by decide)]
  have t51 : u1 51 = w 51 := by rw [e1]; exact st_row (by decide)
  have k1 : KF0 w u1 := kf_st ⟨fun _ _ _ _ _ _ _ => rfl, fun _ _ _ _ _ _ _ _ => rfl⟩ e1 (by omega)
  have q1 : PC (f_R_begin1_43_51 (u1 43 13) 76 u1) (fun _ u => RV (w 43 13) (w 51) (a : Int) u ∧ u 43 20 = 0 ∧ u 43 21 = -1 ∧ KF0 w u) := by
    unfold f_R_begin1_43_51
    refine pc_lw (fun x1 y1 => ?_)
    refine pc_lw (fun x2 y2 => ?_)
    refine pc_lw (fun x3 y3 => ?_)
    refine pc_lw (fun x4 y4 => ?_)
    refine pc_lw (fun x5 y5 => ?_)
    refine pc_some ⟨⟨?_, ?_, ?_, ?_, ?_⟩, ?_, ?_, ?_⟩
    · rw [y5, st_k (by decide), y4, st_k (by decide), y3, st_k (by decide), y2, st_k (by decide), y1, st_eq]
    · rw [y5, st_k (by decide), y4, st_k (by decide), y3, st_k (by decide), y2, st_eq]; exact t13
    · rw [y5, st_k (by decide), y4, st_k (by decide), y3, st_eq]
    · rw [y5, st_row (by decide), y4, st_row (by decide), y3, st_row (by decide), y2, st_row (by decide), y1, st_row (by decide)]; exact t51
    · rw [y5, st_k (by decide), y4, st_k (by decide), y3, st_k (by decide), y2, st_k (by decide), y1, st_k (by decide), t0]; exact ha
    · rw [y5, st_k (by decide), y4, st_eq]
    · rw [y5, st_eq]
    · exact kf_st (kf_st (kf_st (kf_st (kf_st k1 y1 (by omega)) y2 (by omega)) y3 (by omega)) y4 (by omega)) y5 (by omega)
  refine pc_call (pc_and (pc_ok (s_R_begin1_43_51 (g_self g1) (by omega) (by omega))) q1) (fun r2 u3 q => ?_)
  obtain ⟨⟨_, gy, _⟩, hu, q20, q21, k3⟩ := q
  have g3 : G md_R_land w u3 := g_tr g1 gy rfl
  refine pc_lw (fun u4 e4 => ?_)
  have g4 : G md_R_land w u4 := g_st g3 e4 rfl rfl (show (0 : Int) ≤ 0 ∧ (0 : Int) ≤ 80 by decide)
  have h4 := rv_st hu e4 (by decide) (Or.inr (by decide))
  have t20 : u4 43 20 = 0 := by rw [e4, st_k (by decide)]; exact q20
  have t21 : u4 43 21 = -1 := by rw [e4, st_k (by decide)]; exact q21
  have t56 : u4 43 56 = w 43 56 := by rw [e4, st_k (by decide), gy.2.1 43 56 rfl, e1, st_k (by decide)]
  refine pc_ite (fun c => pc_some (fun h0 => by omega)) (fun c => ?_)
  refine pc_let (fun x5 e5 => ?_)
  have ex : x5 = (a : Int) + ((0 : Nat) : Int) := by rw [e5, h4.2.2.2.2]; omega
  rw [ex]
  exact n40 h56 FU 0 (by omega) g4 h4 t21 (by omega) t56 t20 (fun i hi => by omega) (kf_st k3 e4 (by omega))
theorem rcn_x {a n : Nat} {pr kn g h : Nat → Int} {w0 x u : Wd} (k : FR [(43, 7), (43, 8), (43, 10), (43, 11), (43, 56)] [44, 45, 46, 47, 48, 49, 50, 79, 80, 81] w0 x) (hr : RCN a n pr kn g h x u) : RCN a n pr kn g h w0 u := by
  obtain ⟨⟨v, ⟨a2, a3, a4, a5⟩, hv⟩, r0, r50, r50o, r32, r56, ⟨r7, r8, r10, r11⟩, rk⟩ := hr
  have k8 : x 43 8 = w0 43 8 := k.1 (43, 8) (by decide)
  have row : ∀ c, c ∈ [44, 45, 46, 47, 48, 49, 50, 79, 80, 81] → x c = w0 c := k.2
  refine ⟨⟨fun c j => if c = 44 ∨ c = 45 ∨ c = 46 ∨ c = 47 ∨ c = 48 ∨ c = 49 then v c j else w0 c j, ⟨fun j hj => ?_, fun i hi => ?_, fun j hj => ?_, fun c j h1 h2 h3 h4 h5 h6 => ?_⟩, fun c hc => ?_⟩, r0, by rw [← k8]; exact r50, fun t ht => ?_, r32, ?_, ⟨?_, ?_, ?_, ?_⟩, fun c hc => ?_⟩
  · have := a2 j hj
    rw [row 44 (by decide), row 46 (by decide), row 47 (by decide), row 48 (by decide), row 49 (by decide)] at this
    exact this
  · have := a3 i hi
    rw [k8] at this
    exact this
  · have := a4 j hj
    rw [row 45 (by decide)] at this
    exact this
  · dsimp only
    rw [if_neg (by omega)]
  · rw [hv c hc]
    funext j
    dsimp only
    rw [if_pos hc]
  · rw [r50o t (by rw [k8]; exact ht), row 50 (by decide)]
  · rw [r56, k.1 (43, 56) (by decide)]
  · rw [r7, k.1 (43, 7) (by decide)]
  · rw [r8]; exact k8
  · rw [r10, k.1 (43, 10) (by decide)]
  · rw [r11, k.1 (43, 11) (by decide)]
  · rw [rk c hc]
    rcases hc with e | e | e
    · rw [e]; exact row 79 (by decide)
    · rw [e]; exact row 80 (by decide)
    · rw [e]; exact row 81 (by decide)
theorem gs_at {P : Int} {s : Nat → Int} {j : Nat} (hj : (j : Int) < P) : gs P s j = gst (s j) := by
  unfold gs
  rw [show inP P j = true from decide_eq_true hj]; rfl
/-- WHAT BOTH HAVE IN COMMON stays so when people came -/
theorem fc_come {w u1 u2 : Wd} {a n : Nat} {pr kn pr2 kn2 : Nat → Int} {gf hf : Nat → Bool} (h : FC w) (ha : w 43 0 = a) (han : a + n ≤ 10) (hn : 1 ≤ n) (h8 : 0 ≤ w 43 8 ∧ w 43 8 ≤ 60) (hc : CO u2) (hE : ECN a n pr kn gf hf (w 47) (w 46) w u1) (hR : RCN a n pr2 kn2 (fun i => if gf i = true then 1 else 0) (fun i => if hf i = true then 1 else 0) w u2) (epr : ∀ i, i < n → pr i = pr2 i) (ekn : ∀ i, i < n → kn i = kn2 i) (fE : FR [(5, 3), (5, 4), (5, 5), (5, 6), (15, 3), (15, 4)] [6, 7, 8, 16] u1 u2) (fK : FR [] [37, 40] w u2) : FC u2 := by
  obtain ⟨hCO, hPP, hHB, hWH, ⟨hp, hwk, hun⟩, hwe, hSN, hUB, hK0, hK1, hgr, hse⟩ := h
  obtain ⟨⟨e3, e68, en68, e7⟩, ewh, ehb, e16, e154, e16o, e56, e153⟩ := hE
  obtain ⟨⟨v, ⟨r2, r3, r4, _⟩, hv⟩, r0, r50, r50o, r32, r56, ⟨r7, r8, r10, r11⟩, rk⟩ := hR
  have p3 := fE.1 (5, 3) (by decide)
  have p4 := fE.1 (5, 4) (by decide)
  have p5 := fE.1 (5, 5) (by decide)
  have p6 := fE.1 (5, 6) (by decide)
  have p15 := fE.1 (15, 3) (by decide)
  have p154 := fE.1 (15, 4) (by decide)
  have q6 := fE.2 6 (by decide)
  have q7 := fE.2 7 (by decide)
  have q8 := fE.2 8 (by decide)
  have q16 := fE.2 16 (by decide)
  simp only at p3 p4 p5 p6 p15 p154
  have s47 : ∀ j : Nat, (j : Int) < (a : Int) + n → (if j < a then w 47 j else if gf (j - a) = true then 1 else 0) = u2 47 j := fun j hj => by
    rw [hv 47 (by omega)]
    by_cases c : j < a
    · rw [if_pos c]; exact (r2 j c).2.2.1.symm
    · rw [if_neg c]
      have := (r3 (j - a) (by omega)).2.2.1
      rw [show a + (j - a) = j by omega] at this
      exact this.symm
  have s46 : ∀ j : Nat, (j : Int) < (a : Int) + n → (if j < a then w 46 j else if hf (j - a) = true then 1 else 0) = u2 46 j := fun j hj => by
    rw [hv 46 (by omega)]
    by_cases c : j < a
    · rw [if_pos c]; exact (r2 j c).2.1.symm
    · rw [if_neg c]
      have := (r3 (j - a) (by omega)).2.1
      rw [show a + (j - a) = j by omega] at this
      exact this.symm
  have hwk2 : w 15 3 = w 43 8 := hwk
  have nk : ∀ {c m : Nat}, KM w c m → u2 c = w c → ∀ {d g : Nat}, KBf u2 c d g m := by
    intro c m hk hc2 d g h2 h3
    exfalso
    rw [hc2] at h2 h3
    have h4 := (hk.2 h2).2.2
    have h5 := hCO.2.1
    omega
  obtain ⟨n1, n2, n3, n4⟩ := hSN
  have e8 : (w 43 8).toNat + 1 = (w 43 8 + 1).toNat := by omega
  refine ⟨hc, fun j hj => ?_, ?_, ?_, ⟨?_, ?_, ?_⟩, fun t ht => ?_, ⟨fun j hj hs => ?_, fun j hj => ?_, ?_, fun t ht => ?_⟩, fun t ht => ?_, nk hCO.2.2.2.1 (fK.2 37 (by decide)), nk hCO.2.2.2.2 (fK.2 40 (by decide)), ?_, ?_⟩
  · rw [r0] at hj
    rw [q6, q7, q8, hv 44 (by omega), hv 45 (by omega), hv 48 (by omega), e7 j (by omega), r4 j (by omega)]
    have ek := ads_eq (a := a) (kn := w 7) (kn2 := w 45) (k := kn) (k2 := kn2) (fun j hj => (hPP j (by omega)).2.1) (n := n) ekn j (by omega)
    by_cases c : j < a
    · obtain ⟨y1, y2⟩ := e68 j c
      obtain ⟨z1, _, _, z4, _⟩ := r2 j c
      obtain ⟨x1, _, x3⟩ := hPP j (by omega)
      rw [y1, y2, z1, z4]
      exact ⟨x1, ek, x3⟩
    · obtain ⟨y1, y2⟩ := en68 (j - a) (by omega)
      obtain ⟨z1, _, _, z4, _⟩ := r3 (j - a) (by omega)
      rw [show a + (j - a) = j by omega] at y1 y2 z1 z4
      rw [y1, y2, z1, z4]
      exact ⟨epr _ (by omega), ek, rfl⟩
  · rw [p5, r0]
    exact b10_w ehb (fun k _ => hB_eq s46 k)
  · rw [p4, r0]
    exact wh_eq ewh s47
  · rw [p6, r7, e56]; exact hp
  · rw [p15, r8, e153]; exact hwk
  · rw [p154, r32]; exact e154
  · rw [r8] at ht
    rw [q16]
    by_cases c : t = (w 43 8).toNat
    · rw [c]
      rw [hwk2] at e16
      refine b10_eq e16 r50 (fun k hk => gs_eq s47 k)
    · rw [e16o t (by rw [hwk2]; exact c), r50o t c]; exact hwe t ht
  · rw [r0] at hj
    have hg : gst (u2 47 j) = false := by rw [hs]; rfl
    have hb : ∀ t : Nat, (t : Int) ≤ u2 43 8 → t = (w 43 8).toNat → bt (u2 50 t) j = false := fun t ht e => by
      rw [e, r50.2 j (by omega), gs_at (by omega)]; exact hg
    by_cases c : j < a
    · have y := (r2 j c).2.2.1
      rw [hv 47 (by omega), y] at hs
      obtain ⟨x1, x2⟩ := n1 j (by omega) hs
      refine ⟨by rw [hv 48 (by omega), (r2 j c).2.2.2.1]; exact x1, fun t ht => ?_⟩
      by_cases c2 : t = (w 43 8).toNat
      · exact hb t ht c2
      · rw [r50o t c2]; exact x2 t (by omega)
    · refine ⟨?_, fun t ht => ?_⟩
      · have := (r3 (j - a) (by omega)).2.2.2.1
        rw [show a + (j - a) = j by omega] at this
        rw [hv 48 (by omega)]; exact this
      · by_cases c2 : t = (w 43 8).toNat
        · exact hb t ht c2
        · rw [r50o t c2]
          cases hq : bt (w 50 t) j with
          | false => rfl
          | true => have := (n4 t (by omega)).2 j (by omega) hq; omega
  · rw [r0] at hj
    have hbit : bt (u2 50 (w 43 8).toNat) j = gst (u2 47 j) := by rw [r50.2 j (by omega), gs_at (by omega)]
    have hold : fw (u2 50) j (w 43 8).toNat = fw (w 50) j (w 43 8).toNat := fw_eq (fun t ht => r50o t (by omega))
    rw [r8, ← e8, hv 49 (by omega), fw, hold, hbit]
    by_cases c : j < a
    · obtain ⟨_, _, z3, _, z5⟩ := r2 j c
      rw [z5, n2 j (by omega), ← e8, fw, n3.2 j (by omega), gs_at (by omega), hv 47 (by omega), z3]
    · obtain ⟨_, _, z3, _, z5⟩ := r3 (j - a) (by omega)
      rw [show a + (j - a) = j by omega] at z3 z5
      have hno : fw (w 50) j (w 43 8).toNat = -1 := fw_no (fun t ht => by
        cases hq : bt (w 50 t) j with
        | false => rfl
        | true => have := (n4 t (by omega)).2 j (by omega) hq; omega)
      rw [z5, hv 47 (by omega), z3, hno, if_pos rfl]
      have e9 : (((w 43 8).toNat : Nat) : Int) = w 43 8 := by omega
      dsimp only
      by_cases c3 : gf (j - a) = true
      · have e : (if gf (j - a) = true then (1 : Int) else 0) = 1 := if_pos c3
        have e2 : gst (if gf (j - a) = true then (1 : Int) else 0) = true := by rw [e]; decide
        rw [if_pos e, if_pos e2]
        exact e9.symm
      · have e : (if gf (j - a) = true then (1 : Int) else 0) = 0 := if_neg c3
        have e1 : ¬ (if gf (j - a) = true then (1 : Int) else 0) = 1 := by rw [e]; decide
        have e2 : ¬ gst (if gf (j - a) = true then (1 : Int) else 0) = true := by rw [e]; decide
        rw [if_neg e1, if_neg e2]
  · rw [r8, r0]; exact r50
  · rw [r8] at ht
    rw [r0]
    by_cases c : t = (w 43 8).toNat
    · rw [c]
      refine ⟨r50.1, fun j hj hb => ?_⟩
      rw [r50.2 j hj] at hb
      unfold gs at hb
      rw [Bool.and_eq_true] at hb
      exact inP_t hb.1
    · rw [r50o t c]
      obtain ⟨x1, x2⟩ := n4 t ht
      exact ⟨x1, fun j hj hb => by have := x2 j hj hb; omega⟩
  · rw [r32] at ht; omega
  · rw [r10]; exact hgr
  · rw [r11]; exact hse
/-! LAND, all of it -/
theorem lp_sy {s h : Int → Int} (hs : Sy s h) {a : Int} (ha : 0 ≤ a) : ∀ (i : Nat), a + i ≤ 10 → lp s a i = lp h a i ∧ 0 ≤ lp s a i := by
  intro i
  induction i with
  | zero => intro _; exact ⟨rfl, Int.le_refl 0⟩
  | succ i ih =>
    intro hi
    obtain ⟨h1, h2⟩ := ih (by omega)
    rw [lp, lp, ← h1, en_sy hs (by omega) h2]
    have := en_ge h (a + i) (lp s a i)
    exact ⟨rfl, by omega⟩
theorem lk_sy {s h : Int → Int} (hs : Sy s h) {num : Int} (hn : num ≤ 10) : ∀ (k : Nat) {p acc : Int}, (k : Int) ≤ num → 0 ≤ p → lk s num k p acc = lk h num k p acc := by
  intro k
  induction k with
  | zero => intro p acc _ _; rfl
  | succ k ih =>
    intro p acc hk hp
    rw [lk, lk]
    have e := hs p (97 + (num - ((k : Int) + 1))) hp (by omega) (by omega)
    by_cases c : s p = 97 + (num - ((k : Int) + 1))
    · rw [if_pos c, if_pos (e.mp c)]; exact ih (by omega) (by omega)
    · rw [if_neg c, if_neg (fun h2 => c (e.mpr h2))]; exact ih (by omega) hp
theorem le1_sy {s h : Int → Int} (hs : Sy s h) {num q : Int} (hn : 0 ≤ num ∧ num ≤ 10) (hq : 0 ≤ q) : le1 s num q = le1 h num q ∧ 0 ≤ le1 s num q := by
  unfold le1
  rw [lt_sy hs hn.2 num.toNat (by omega) (by omega)]
  have := lt_ge h num num.toNat (q + 1)
  exact ⟨rfl, by omega⟩
theorem lgs_sy {s h : Int → Int} (hs : Sy s h) {a : Int} (ha : 0 ≤ a) {i : Nat} (hi : a + i ≤ 9) : lgs s a i = lgs h a i := by
  obtain ⟨h1, h2⟩ := lp_sy hs ha i (by omega)
  obtain ⟨h3, h4⟩ := le1_sy hs (num := a + i) (by omega) h2
  unfold lgs
  rw [← h1, ← h3]
  have e := hs (le1 s (a + i) (lp s a i)) 33 h4 (by decide) (by decide)
  by_cases c : s (le1 s (a + i) (lp s a i)) = 33
  · rw [decide_eq_true c, decide_eq_true (e.mp c)]
  · rw [decide_eq_false c, decide_eq_false (fun h => c (e.mpr h))]
theorem lhi_sy {s h : Int → Int} (hs : Sy s h) {a : Int} (ha : 0 ≤ a) {i : Nat} (hi : a + i ≤ 9) : lhi s a i = lhi h a i := by
  obtain ⟨h1, h2⟩ := lp_sy hs ha i (by omega)
  obtain ⟨h3, h4⟩ := le1_sy hs (num := a + i) (by omega) h2
  unfold lhi
  rw [← h1, ← h3]
  have e := hs (le1 s (a + i) (lp s a i)) 33 h4 (by decide) (by decide)
  have fin : ∀ q : Int, 0 ≤ q → decide (s q = 63) = decide (h q = 63) := fun q hq => by
    have e := hs q 63 hq (by decide) (by decide)
    by_cases c : s q = 63
    · rw [decide_eq_true c, decide_eq_true (e.mp c)]
    · rw [decide_eq_false c, decide_eq_false (fun h => c (e.mpr h))]
  by_cases c : s (le1 s (a + i) (lp s a i)) = 33
  · rw [if_pos c, if_pos (e.mp c)]; exact fin _ (by omega)
  · rw [if_neg c, if_neg (fun h => c (e.mpr h))]; exact fin _ h4
theorem lkn_sy {s h : Int → Int} (hs : Sy s h) {a : Int} (ha : 0 ≤ a) {i : Nat} (hi : a + i ≤ 9) : lkn s a i = lkn h a i := by
  obtain ⟨h1, h2⟩ := lp_sy hs ha i (by omega)
  unfold lkn
  rw [← h1]
  exact lk_sy hs (by omega) _ (by omega) (by omega)
/-- its digit is the same: where a line was read -/
theorem lpr_sy {s h : Int → Int} (hs : Sy s h) {a : Int} (ha : 0 ≤ a) {i : Nat} (hi : a + i ≤ 9) (hd : 0 ≤ lpr s a i ∧ lpr s a i ≤ 9) : lpr s a i = lpr h a i := by
  obtain ⟨h1, h2⟩ := lp_sy hs ha i (by omega)
  unfold lpr at hd ⊢
  rw [← h1]
  have e := (hs (lp s a i) (s (lp s a i)) h2 (by omega) (by omega)).mp rfl
  rw [e]
/-! WHAT BOTH HAVE IN COMMON, where texts alone change -/
def fdP : List (Nat × Nat) := [(5, 3), (5, 4), (5, 5), (5, 6), (15, 3), (15, 4), (37, 2), (37, 3), (37, 4), (37, 5), (37, 6), (37, 7), (37, 8), (37, 9), (40, 2), (40, 3), (40, 4), (40, 5), (40, 6), (40, 7), (40, 8), (40, 9), (43, 0), (43, 7), (43, 8), (43, 10), (43, 11), (43, 32)]
def fdA : List Nat := [6, 7, 8, 16, 17, 18, 38, 39, 41, 42, 44, 45, 46, 47, 48, 49, 50, 59, 79]
theorem fc_fr2 {w u : Wd} (h : FC w) (c0 : CO u) (f : FR fdP fdA w u) : FC u := by
  have p := f.1
  have p5_3 := p (5, 3) (by decide)
  have p5_4 := p (5, 4) (by decide)
  have p5_5 := p (5, 5) (by decide)
  have p5_6 := p (5, 6) (by decide)
  have p15_3 := p (15, 3) (by decide)
  have p15_4 := p (15, 4) (by decide)
  have p37_2 := p (37, 2) (by decide)
  have p37_3 := p (37, 3) (by decide)
  have p37_4 := p (37, 4) (by decide)
  have p37_5 := p (37, 5) (by decide)
  have p37_6 := p (37, 6) (by decide)
  have p37_7 := p (37, 7) (by decide)
  have p37_8 := p (37, 8) (by decide)
  have p37_9 := p (37, 9) (by decide)
  have p40_2 := p (40, 2) (by decide)
  have p40_3 := p (40, 3) (by decide)
  have p40_4 := p (40, 4) (by decide)
  have p40_5 := p (40, 5) (by decide)
  have p40_6 := p (40, 6) (by decide)
  have p40_7 := p (40, 7) (by decide)
  have p40_8 := p (40, 8) (by decide)
  have p40_9 := p (40, 9) (by decide)
  have p43_0 := p (43, 0) (by decide)
  have p43_7 := p (43, 7) (by decide)
  have p43_8 := p (43, 8) (by decide)
  have p43_10 := p (43, 10) (by decide)
  have p43_11 := p (43, 11) (by decide)
  have p43_32 := p (43, 32) (by decide)
  have a6 := f.2 6 (by decide)
  have a7 := f.2 7 (by decide)
  have a8 := f.2 8 (by decide)
  have a16 := f.2 16 (by decide)
  have a17 := f.2 17 (by decide)
  have a18 := f.2 18 (by decide)
  have a38 := f.2 38 (by decide)
  have a39 := f.2 39 (by decide)
  have a41 := f.2 41 (by decide)
  have a42 := f.2 42 (by decide)
  have a44 := f.2 44 (by decide)
  have a45 := f.2 45 (by decide)
  have a46 := f.2 46 (by decide)
  have a47 := f.2 47 (by decide)
  have a48 := f.2 48 (by decide)
  have a49 := f.2 49 (by decide)
  have a50 := f.2 50 (by decide)
  have a59 := f.2 59 (by decide)
  have a79 := f.2 79 (by decide)
  refine ⟨c0, ?_⟩
  unfold PPL UB KBf wki
  rw [p5_3, p5_4, p5_5, p5_6, p15_3, p15_4, p37_2, p37_3, p37_4, p37_5, p37_6, p37_7, p37_8, p37_9, p40_2, p40_3, p40_4, p40_5, p40_6, p40_7, p40_8, p40_9, p43_0, p43_7, p43_8, p43_10, p43_11, p43_32, a6, a7, a8, a16, a17, a18, a38, a39, a41, a42, a44, a45, a46, a47, a48, a49, a50, a59, a79]
  exact h.2
def LF (w : Wd) : Prop := RS w ∧ FC w
theorem lf_li {w : Wd} (h : LF w) : LI w := ⟨h.1, h.2.1⟩
theorem rs_kn {w : Wd} (h : RS w) : KNW (w 43 0).toNat (w 45) := by
  intro j hj
  have a0 : (0 : Int) ≤ w 43 0 ∧ w 43 0 ≤ 10 := h.1.1 43 0
  have a45 : (0 : Int) ≤ w 45 j ∧ w 45 j ≤ 1023 := h.1.1 45 j
  exact ⟨a45, fun q hq hb => by have := h.2.2.2 j q (by omega) hq hb; omega⟩
theorem kz1 {w0 u : Wd} {x : Int} (n : Nat) (hn : ¬ u 43 21 = -1) (ku : KF0 w0 u) : PC (f_R_land_40 n x 0 u) (fun _ u' => KF0 w0 u') := by
  cases n with
  | zero => exact pc_none
  | succ n =>
    have k105 : PC (f_R_land_105 x u) (fun _ u' => KF0 w0 u') := by
      unfold f_R_land_105
      rw [fine_e, jc_s, if_neg hn]
      exact pc_ite (fun _ => pc_some ku) (fun h => absurd rfl h)
    rw [f_R_land_40]
    refine pc_ite (fun _ => ?_) (fun h => absurd rfl h)
    unfold f_R_land_86
    refine pc_ite (fun _ => k105) (fun _ => ?_)
    refine pc_call (fl_pc u (u 43 20)) (fun r16 u17 q => ?_)
    rw [if_neg hn] at q
    rw [q]; exact k105
theorem kz2 {w0 u : Wd} {x : Int} (n : Nat) (h21 : u 43 21 = -1) (h20 : 0 ≤ u 43 20) (ku : KF0 w0 u) : PC (f_R_land_40 n x 0 u) (fun _ u' => u 43 18 ≤ u 43 20 ∨ KF0 w0 u') := by
  by_cases cc : u 43 18 ≤ u 43 20
  · exact fun _ _ _ => Or.inl cc
  · cases n with
    | zero => exact pc_none
    | succ n =>
      rw [f_R_land_40]
      refine pc_ite (fun _ => ?_) (fun h => absurd rfl h)
      unfold f_R_land_86
      rw [if_neg cc]
      refine pc_call (fl_pc u (u 43 20)) (fun r16 u17 q => ?_)
      rw [if_pos h21] at q
      have k17 : KF0 w0 u17 := kf_st ku q (by omega)
      have n17 : ¬ u17 43 21 = -1 := by rw [q, st_eq]; omega
      unfold f_R_land_105
      rw [fine_e, jc_s, if_neg n17]
      exact pc_ite (fun _ => pc_some (Or.inr k17)) (fun h => absurd rfl h)
theorem k40 {b w0 : Wd} {a : Nat} {n0 : Int} {f0 : Nat → Int} {C0 : Int} (hC : 0 ≤ C0 ∧ C0 ≤ 10) : ∀ (n : Nat) {w : Wd} (j : Nat), a + j ≤ 10 → G md_R_land b w → RV n0 f0 (a : Int) w → w 43 21 = -1 → (0 ≤ w 43 20 ∧ w 43 20 ≤ 76) → w 43 56 = C0 → KF0 w0 w → PC (f_R_land_40 n ((a : Int) + j) 1 w) (fun r u => 0 < r ∨ KF0 w0 u) := by
  intro n
  induction n with
  | zero => intros; exact pc_none
  | succ n ih =>
    intro w j haj hG h h21 h20 h56 hk
    rw [f_R_land_40]
    have w1 := w32_sp ((a : Int) + j + 1)
    refine pc_ite (fun h => absurd h (by decide)) (fun _ => ?_)
    rw [fine_e, jc_s, if_pos h21]
    refine pc_ite (fun h => absurd h (by decide)) (fun _ => ?_)
    have stop : ∀ {u : Wd} {x : Int}, RV n0 f0 (a : Int) u → u 43 21 = x → 0 ≤ x → (0 ≤ u 43 20 ∧ u 43 20 ≤ 76) → KF0 w0 u → PC (f_R_land_73 (f_R_land_40 n) ((a : Int) + j) u) (fun r u' => 0 < r ∨ KF0 w0 u') := by
      intro u x hu ux x0 u20 ku
      unfold f_R_land_73
      refine pc_let (fun x22 e22 => ?_)
      refine pc_call (ps_pc hu 59 u20) (fun r23 u24 q => ?_)
      rcases q with ⟨q0, _⟩ | ⟨_, q2, q3⟩
      · exfalso; omega
      · rw [q2, q3]
        exact pc_w (kz1 n (by omega) ku) (fun r u' p => Or.inr p)
    refine pc_ite (fun c1 => ?_) (fun c1 => ?_)
    · refine pc_call (fl_pc w (w 43 20)) (fun r25 u26 q => ?_)
      rw [if_pos h21] at q
      have t20 : u26 43 20 = w 43 20 := by rw [q, st_k (by decide)]
      exact stop (rv_st h q (by decide) (Or.inr (by decide))) (by rw [q, st_eq]) h20.1 (by omega) (kf_st hk q (by omega))
    · refine pc_call (pc_and (pc_ok (s_R_readOne (g_self hG) (by omega) h.1)) (rrl (by omega) h h21 h20)) (fun r20 u21 q => ?_)
      obtain ⟨⟨_, gy⟩, hu, q⟩ := q
      have gu : G md_R_land b u21 := g_tr hG gy rfl
      have ku := kf_ro hk gy
      have t56 : u21 43 56 = C0 := (gy.2.1 43 56 rfl).trans h56
      rcases q with ⟨q1, q2, q3⟩ | ⟨q1, q⟩
      · exact stop hu q2 h20.1 (by omega) ku
      · have l5 := hR_lt (n := n0) (f := f0) (p := w 43 20) (by omega)
        have b1 := lt_ge (hR n0 f0) ((a : Int) + j) ((a : Int) + j).toNat (w 43 20 + 1)
        have b2 := lt_le (hR_76 n0 f0) (num := (a : Int) + j) ((a : Int) + j).toNat (p := w 43 20 + 1) (by omega) (by omega)
        have b3 := fnl_le (hR_76 n0 f0) (p := lt (hR n0 f0) ((a : Int) + j) ((a : Int) + j).toNat (w 43 20 + 1)) (by omega)
        have b4 := fnl_ge (hR n0 f0) (lt (hR n0 f0) ((a : Int) + j) ((a : Int) + j).toNat (w 43 20 + 1))
        generalize lt (hR n0 f0) ((a : Int) + j) ((a : Int) + j).toNat (w 43 20 + 1) = x at *
        rcases q with ⟨p1, p2, p3⟩ | ⟨p1, p2, p3⟩
        · have l6 := hR_lt (n := n0) (f := f0) (p := x) (by omega)
          exact stop hu p2 (by omega) (by omega) ku
        · unfold f_R_land_73
          refine pc_let (fun x22 e22 => ?_)
          have e22' : x22 = (a : Int) + ((j + 1 : Nat) : Int) := by omega
          rw [e22']
          refine pc_call (pc_and (pc_ok (s_R_passes (g_self gu) (by decide) (Or.inl hu.1) (by decide))) (ps_pc hu 59 (by omega))) (fun r23 u24 q => ?_)
          obtain ⟨⟨_, gy2, _⟩, q⟩ := q
          rcases q with ⟨_, c2, q2, q3⟩ | ⟨q1', q2, q3⟩
          · have l6 := hR_lt (n := n0) (f := f0) (p := u21 43 20) (by omega)
            rw [q2]
            have t20 : u24 43 20 = u21 43 20 + 1 := by rw [q3, st_eq]
            exact ih (j + 1) (by omega) (g_tr gu gy2 rfl) (rv_st hu q3 (by decide) (Or.inr (by decide))) (by rw [q3, st_k (by decide)]; exact p2) (by omega) (by rw [q3, st_k (by decide)]; exact t56) (kf_st ku q3 (by omega))
          · rw [q2, q3]
            refine pc_w (pc_and (kz2 n p2 (by omega) ku) (r40z (v1 := (a : Int) + ((j + 1 : Nat) : Int)) (by omega) n gu (by omega) (Or.inl (by omega)))) (fun r u' p => ?_)
            obtain ⟨p1', p2'⟩ := p
            rcases p1' with p1' | p1'
            · rw [if_pos p2, if_pos p1', hu.2.2.2.2] at p2'
              exact Or.inl (by omega)
            · exact Or.inr p1'
theorem lz_R {w : Wd} {a : Nat} (hG : G md_R_land w w) (ha : w 43 0 = a) (h56 : 0 ≤ w 43 56 ∧ w 43 56 ≤ 10) : PC (f_R_land w) (fun r u => 0 < r ∨ KF0 w u) := by
  unfold f_R_land
  have a0 : (0 : Int) ≤ w 43 0 ∧ w 43 0 ≤ 10 := hG.1 43 0
  refine pc_lw (fun u1 e1 => ?_)
  have g1 : G md_R_land w u1 := g_st hG e1 rfl rfl (show (0 : Int) ≤ 0 ∧ (0 : Int) ≤ 1 by decide)
  have a13 : (0 : Int) ≤ u1 43 13 ∧ u1 43 13 ≤ 80 := g1.1 43 13
  have t13 : u1 43 13 = w 43 13 := by rw [e1, st_k (by decide)]
  have t0 : u1 43 0 = w 43 0 := by rw [e1, st_k (by decide)]
  have t51 : u1 51 = w 51 := by rw [e1]; exact st_row (by decide)
  have k1 : KF0 w u1 := kf_st ⟨fun _ _ _ _ _ _ _ => rfl, fun _ _ _ _ _ _ _ _ => rfl⟩ e1 (by omega)
  have q1 : PC (f_R_begin1_43_51 (u1 43 13) 76 u1) (fun _ u => RV (w 43 13) (w 51) (a : Int) u ∧ u 43 20 = 0 ∧ u 43 21 = -1 ∧ KF0 w u) := by
    unfold f_R_begin1_43_51
    refine pc_lw (fun x1 y1 => ?_)
    refine pc_lw (fun x2 y2 => ?_)
    refine pc_lw (fun x3 y3 => ?_)
    refine pc_lw (fun x4 y4 => ?_)
    refine pc_lw (fun x5 y5 => ?_)
    refine pc_some ⟨⟨?_, ?_, ?_, ?_, ?_⟩, ?_, ?_, ?_⟩
    · rw [y5, st_k (by decide), y4, st_k (by decide), y3, st_k (by decide), y2, st_k (by decide), y1, st_eq]
    · rw [y5, st_k (by decide), y4, st_k (by decide), y3, st_k (by decide), y2, st_eq]; exact t13
    · rw [y5, st_k (by decide), y4, st_k (by decide), y3, st_eq]
    · rw [y5, st_row (by decide), y4, st_row (by decide), y3, st_row (by decide), y2, st_row (by decide), y1, st_row (by decide)]; exact t51
    · rw [y5, st_k (by decide), y4, st_k (by decide), y3, st_k (by decide), y2, st_k (by decide), y1, st_k (by decide), t0]; exact ha
    · rw [y5, st_k (by decide), y4, st_eq]
    · rw [y5, st_eq]
    · exact kf_st (kf_st (kf_st (kf_st (kf_st k1 y1 (by omega)) y2 (by omega)) y3 (by omega)) y4 (by omega)) y5 (by omega)
  refine pc_call (pc_and (pc_ok (s_R_begin1_43_51 (g_self g1) (by omega) (by omega))) q1) (fun r2 u3 q => ?_)
  obtain ⟨⟨_, gy, _⟩, hu, q20, q21, k3⟩ := q
  have g3 : G md_R_land w u3 := g_tr g1 gy rfl
  refine pc_lw (fun u4 e4 => ?_)
  have g4 : G md_R_land w u4 := g_st g3 e4 rfl rfl (show (0 : Int) ≤ 0 ∧ (0 : Int) ≤ 80 by decide)
  have h4 := rv_st hu e4 (by decide) (Or.inr (by decide))
  have t20 : u4 43 20 = 0 := by rw [e4, st_k (by decide)]; exact q20
  have t21 : u4 43 21 = -1 := by rw [e4, st_k (by decide)]; exact q21
  have t56 : u4 43 56 = w 43 56 := by rw [e4, st_k (by decide), gy.2.1 43 56 rfl, e1, st_k (by decide)]
  have k4 := kf_st k3 e4 (by omega)
  refine pc_ite (fun c => pc_some (Or.inr k4)) (fun c => ?_)
  refine pc_let (fun x5 e5 => ?_)
  have ex : x5 = (a : Int) + ((0 : Nat) : Int) := by rw [e5, h4.2.2.2.2]; omega
  rw [ex]
  exact k40 h56 FU 0 (by omega) g4 h4 t21 (by omega) t56 k4
theorem kf_fr {w u : Wd} (h : KF0 w u) : FR fdP fdA w u := by
  refine ⟨fun p hp => ?_, fun c hc => funext fun k => ?_⟩
  · simp only [fdP, List.mem_cons, List.not_mem_nil, or_false] at hp
    by_cases c : p.1 = 43
    · rw [c]
      refine h.2 p.2 ?_ ?_ ?_ ?_ ?_ ?_ ?_ <;> (rintro e; obtain ⟨p1, p2⟩ := p; simp only at c e; subst c; subst e; simp at hp)
    · refine h.1 p.1 p.2 c ?_ ?_ ?_ ?_ <;> (rintro e; obtain ⟨p1, p2⟩ := p; simp only at e; subst e; simp at hp)
  · simp only [fdA, List.mem_cons, List.not_mem_nil, or_false] at hc
    exact h.1 c k (by omega) (by omega) (by omega) (by omega) (by omega)
theorem ran_eq {a n : Nat} {pr kn g h g2 h2 : Nat → Int} {w u : Wd} (hr : RAN a n pr kn g h w u) (e : ∀ i, i < n → g i = g2 i ∧ h i = h2 i) : RAN a n pr kn g2 h2 w u := by
  obtain ⟨a2, a3, a4, a5⟩ := hr
  refine ⟨a2, fun i hi => ?_, a4, a5⟩
  have y := a3 i hi
  rw [(e i hi).1, (e i hi).2] at y
  exact y
theorem k_land {w : Wd} (h : LF w) : OK (f_E_land w) (fun r1 u1 => OK (f_R_land u1) (fun r2 u2 => LF u2 ∧ r1 = r2)) := by
  have a0 : (0 : Int) ≤ w 43 0 ∧ w 43 0 ≤ 10 := h.1.1.1 43 0
  have a8 : (0 : Int) ≤ w 43 8 ∧ w 43 8 ≤ 60 := h.1.1.1 43 8
  have hF := h.2
  obtain ⟨hCO, hPP, hHB, hWH, ⟨hp, hwk, hun⟩, hwe, hSN, hUB, hK0, hK1, hgr, hse⟩ := hF
  have hP := hCO.2.1
  have ea : w 43 0 = (((w 43 0).toNat : Nat) : Int) := by omega
  generalize hA : (w 43 0).toNat = a at ea
  have kn : KNW a (w 7) := by
    have k := rs_kn h.1
    rw [hA] at k
    intro j hj
    rw [(hPP j (by omega)).2.1]
    exact k j hj
  refine ok_w (ok_pc (c_land (lf_li h)) (pc_and (pc_ok (e_E_land h.1)) (lf_E (a := a) (s := w 47) (h := w 46) (g_self h.1.1) (by omega) (by rw [← ea]; exact hWH) (by rw [← ea]; exact hHB) kn (by omega)))) (fun r1 u1 q1 => ?_)
  obtain ⟨o1, ⟨g1, s1, p1⟩, x1⟩ := q1
  have e0 : u1 43 0 = w 43 0 := g1.2.1 43 0 rfl
  refine ok_w (ok_pc o1 (pc_and (pc_ok (e_R_land s1)) (pc_and (lf_R (a := a) (g_self s1.1) (by omega) (rs_56 s1)) (lz_R (a := a) (g_self s1.1) (by omega) (rs_56 s1))))) (fun r2 u2 q2 => ?_)
  obtain ⟨⟨hL, hr⟩, ⟨g2, s2, p2⟩, x2, x3⟩ := q2
  refine ⟨⟨s2, ?_⟩, hr⟩
  rcases x1 with ⟨n1, f1⟩ | ⟨n1, n2, hE⟩
  · have k2 : KF0 u1 u2 := x3.resolve_left (by omega)
    refine fc_fr2 h.2 hL.2 (fr_tr (u := u1) ⟨fun p hp => ?_, fun c hc => funext fun k => ?_⟩ (kf_fr k2))
    · simp only [fdP, List.mem_cons, List.not_mem_nil, or_false] at hp
      refine f1 p.1 p.2 ?_ ?_ ?_ ?_ <;> (rintro e; obtain ⟨p1, p2⟩ := p; simp only at e; first | (subst e; simp at hp) | (obtain ⟨e1, e2⟩ := e; subst e1; simp at hp))
    · simp only [fdA, List.mem_cons, List.not_mem_nil, or_false] at hc
      exact f1 c k (by omega) (by omega) (by omega) (by omega)
  · have fR := fr_g (P := [(43, 7), (43, 8), (43, 10), (43, 11), (43, 56)]) (A := [44, 45, 46, 47, 48, 49, 50, 79, 80, 81]) g1 rfl
    obtain ⟨n3, hR1⟩ := x2 (by omega)
    have hR2 := rcn_x fR hR1
    have e13 : u1 43 13 = w 43 13 := g1.2.1 43 13 rfl
    have e51 : u1 51 = w 51 := funext fun k => g1.2.1 51 k (mS_ar rfl k)
    rw [e13, e51, ← hr] at hR2
    have sy := tx_sy hCO.1 (fun k => (h.1.1.1 2 k).1)
    have b6 : ∀ i : Nat, i < r1.toNat → 0 ≤ lpr (sE (w 1 1) (w 2)) a i ∧ lpr (sE (w 1 1) (w 2)) a i ≤ 9 := fun i hi => by
      have b := s1.1.1 6 (a + i)
      rw [(hE.1.2.2.1 i hi).1] at b
      exact b
    refine fc_come (a := a) (n := r1.toNat) h.2 ea (by omega) (by omega) a8 hL.2 hE (pr2 := lpr (hR (w 43 13) (w 51)) a) (kn2 := lkn (hR (w 43 13) (w 51)) a) ?_ (fun i hi => lpr_sy sy (by omega) (by omega) (b6 i hi)) (fun i hi => lkn_sy sy (by omega) (by omega)) (fr_g g2 rfl) (fr_tr (u := u1) (fr_g (P := []) g1 rfl) (fr_g g2 rfl))
    obtain ⟨⟨v, hv1, hv⟩, rest⟩ := hR2
    refine ⟨⟨v, ran_eq hv1 (fun i hi => ?_), hv⟩, rest⟩
    have e1 := lgs_sy sy (a := (a : Int)) (i := i) (by omega) (by omega)
    have e2 := lhi_sy sy (a := (a : Int)) (i := i) (by omega) (by omega)
    simp only [e1, e2, and_self]
/-! WHAT BOTH HAVE IN COMMON, where who is what stays -/
def feP : List (Nat × Nat) := [(5, 3), (5, 4), (5, 6), (15, 3), (15, 4), (37, 2), (37, 3), (37, 4), (37, 5), (37, 6), (37, 7), (37, 8), (37, 9), (40, 2), (40, 3), (40, 4), (40, 5), (40, 6), (40, 7), (40, 8), (40, 9), (43, 0), (43, 7), (43, 8), (43, 32)]
def feA : List Nat := [16, 17, 18, 38, 39, 41, 42, 47, 48, 49, 50, 59, 79]
theorem fc_gen {w u : Wd} (h : FC w) (c0 : CO u) (hP : PPL u) (hH : B10 (u 5 5) (hB (u 43 0) (u 46))) (hg : (1 ≤ u 43 10 ∧ u 43 10 ≤ 3) ∧ 1 ≤ u 43 11 ∧ u 43 11 ≤ 10) (f : FR feP feA w u) : FC u := by
  have p := f.1
  have p5_3 := p (5, 3) (by decide)
  have p5_4 := p (5, 4) (by decide)
  have p5_6 := p (5, 6) (by decide)
  have p15_3 := p (15, 3) (by decide)
  have p15_4 := p (15, 4) (by decide)
  have p37_2 := p (37, 2) (by decide)
  have p37_3 := p (37, 3) (by decide)
  have p37_4 := p (37, 4) (by decide)
  have p37_5 := p (37, 5) (by decide)
  have p37_6 := p (37, 6) (by decide)
  have p37_7 := p (37, 7) (by decide)
  have p37_8 := p (37, 8) (by decide)
  have p37_9 := p (37, 9) (by decide)
  have p40_2 := p (40, 2) (by decide)
  have p40_3 := p (40, 3) (by decide)
  have p40_4 := p (40, 4) (by decide)
  have p40_5 := p (40, 5) (by decide)
  have p40_6 := p (40, 6) (by decide)
  have p40_7 := p (40, 7) (by decide)
  have p40_8 := p (40, 8) (by decide)
  have p40_9 := p (40, 9) (by decide)
  have p43_0 := p (43, 0) (by decide)
  have p43_7 := p (43, 7) (by decide)
  have p43_8 := p (43, 8) (by decide)
  have p43_32 := p (43, 32) (by decide)
  have a16 := f.2 16 (by decide)
  have a17 := f.2 17 (by decide)
  have a18 := f.2 18 (by decide)
  have a38 := f.2 38 (by decide)
  have a39 := f.2 39 (by decide)
  have a41 := f.2 41 (by decide)
  have a42 := f.2 42 (by decide)
  have a47 := f.2 47 (by decide)
  have a48 := f.2 48 (by decide)
  have a49 := f.2 49 (by decide)
  have a50 := f.2 50 (by decide)
  have a59 := f.2 59 (by decide)
  have a79 := f.2 79 (by decide)
  refine ⟨c0, hP, hH, ?_⟩
  obtain ⟨_, _, _, h4, h5, h6, h7, h8, h9, h10, _⟩ := h
  unfold UB wki at h8
  unfold KBf at h9 h10
  unfold UB KBf wki
  rw [p5_3, p5_4, p5_6, p15_3, p15_4, p37_2, p37_3, p37_4, p37_5, p37_6, p37_7, p37_8, p37_9, p40_2, p40_3, p40_4, p40_5, p40_6, p40_7, p40_8, p40_9, p43_0, p43_7, p43_8, p43_32, a16, a17, a18, a38, a39, a41, a42, a47, a48, a49, a50, a59, a79]
  exact ⟨h4, h5, h6, h7, h8, h9, h10, hg⟩
theorem sn_eq {P wk : Int} {s b f wr s2 b2 f2 wr2 : Nat → Int} (h : SN P s b f wr wk) (h0 : 0 ≤ wk) (e : ∀ j : Nat, (j : Int) < P → s j = s2 j ∧ b j = b2 j ∧ f j = f2 j) (ew : ∀ t : Nat, (t : Int) ≤ wk → wr t = wr2 t) : SN P s2 b2 f2 wr2 wk := by
  obtain ⟨n1, n2, n3, n4⟩ := h
  refine ⟨fun j hj hs => ?_, fun j hj => ?_, ?_, fun t ht => ?_⟩
  · obtain ⟨e1, e2, e3⟩ := e j hj
    rw [← e1] at hs
    obtain ⟨x1, x2⟩ := n1 j hj hs
    exact ⟨by rw [← e2]; exact x1, fun t ht => by rw [← ew t ht]; exact x2 t ht⟩
  · rw [← (e j hj).2.2, n2 j hj]
    exact fw_eq (fun t ht => ew t (by omega))
  · rw [← ew wk.toNat (by omega)]
    exact b10_w n3 (fun k _ => gs_eq (fun k hk => (e k hk).1) k)
  · rw [← ew t ht]; exact n4 t ht
def wt (x p v : Int) : Int := if v = 0 then iand x (ixor (ishl 1 p) (-1)) else ior x (ishl 1 p)
theorem wt_e (x p v : Int) (w : Wd) : f_E_with x p v w = some (wt x p v, w) := by
  unfold f_E_with wt
  by_cases h : v = 0
  · rw [if_pos h, if_pos h]
  · rw [if_neg h, if_neg h]
/-- knowing after meeting -/
def mk2 (kn : Nat → Int) (a c v : Int) (j : Nat) : Int := if j = c.toNat then wt (kn c.toNat) a v else if j = a.toNat then wt (kn a.toNat) c v else kn j
theorem mf_E {v1 v2 v3 : Int} {w : Wd} (hP : w 5 3 ≤ 10) : PC (f_E_meet v1 v2 v3 w) (fun _ u => (mt (w 5 3) v1 v2 = 0 ∧ u = w) ∨ (mt (w 5 3) v1 v2 = 1 ∧ (∀ j, u 7 j = mk2 (w 7) v1 v2 v3 j) ∧ ∀ c, c ≠ 7 → c ≠ 28 → u c = w c)) := by
  unfold f_E_meet
  refine pc_call (at_pc v1 v2 w) (fun r1 u2 q => ?_)
  rw [q.1]
  have h01 := mt_01 (w 5 3) v1 v2
  refine pc_ite (fun c => pc_some (Or.inl ⟨q.2.symm.trans c, rfl⟩)) (fun c => ?_)
  have h1 : mt (w 5 3) v1 v2 = 1 := by have := q.2; omega
  have hv : 0 ≤ v1 ∧ v1 < w 5 3 ∧ 0 ≤ v2 ∧ v2 < w 5 3 ∧ ¬ v1 = v2 := by
    unfold mt at h1
    by_cases hc : 0 ≤ v1 ∧ v1 < w 5 3 ∧ 0 ≤ v2 ∧ v2 < w 5 3 ∧ ¬ v1 = v2
    · exact hc
    · rw [if_neg hc] at h1; exact absurd h1 (by decide)
  refine pc_gd (fun _ => ?_)
  rw [wt_e, jc_s]
  refine pc_gd (fun _ => ?_)
  refine pc_lw (fun u5 e5 => ?_)
  refine pc_gd (fun _ => ?_)
  rw [wt_e, jc_s]
  refine pc_gd (fun _ => ?_)
  refine pc_lw (fun u8 e8 => ?_)
  refine pc_call (sf_pc u8) (fun r9 u10 y => pc_some (Or.inr ⟨h1, fun j => ?_, fun c h7 h28 => ?_⟩))
  · rw [y 7 (by decide), e8]
    have t2 : u5 7 v2.toNat = w 7 v2.toNat := by rw [e5, st_k (by omega)]
    rw [t2]
    unfold mk2
    by_cases cj : j = v2.toNat
    · rw [if_pos cj, cj, st_eq]
    · rw [if_neg cj, st_k cj, e5]
      by_cases c1 : j = v1.toNat
      · rw [if_pos c1, c1, st_eq]
      · rw [if_neg c1, st_k c1]
  · rw [y c h28, e8, st_row h7, e5, st_row h7]
theorem mf_R {v1 v2 v3 : Int} {w : Wd} (hP : 0 ≤ w 43 0 ∧ w 43 0 ≤ 10) : PC (f_R_meet v1 v2 v3 w) (fun _ u => (mt (w 43 0) v1 v2 = 0 ∧ u = st w 43 16 0) ∨ (mt (w 43 0) v1 v2 = 1 ∧ (∀ j, u 45 j = mk2 (w 45) v1 v2 v3 j) ∧ ∀ c k, c ≠ 45 → ¬ (c = 43 ∧ k = 16) → u c k = w c k)) := by
  unfold f_R_meet
  refine pc_lw (fun u1 e1 => ?_)
  have t0 : u1 43 0 = w 43 0 := by rw [e1, st_k (by decide)]
  have t45 : u1 45 = w 45 := by rw [e1]; exact st_row (by decide)
  refine pc_call (ar_pc v1 v2 u1 (by omega)) (fun r2 u3 q => ?_)
  rw [q.1]
  rw [t0] at q
  have h01 := mt_01 (w 43 0) v1 v2
  refine pc_ite (fun c => pc_some (Or.inl ⟨q.2.symm.trans c, e1⟩)) (fun c => ?_)
  have h1 : mt (w 43 0) v1 v2 = 1 := by have := q.2; omega
  have hv : 0 ≤ v1 ∧ v1 < w 43 0 ∧ 0 ≤ v2 ∧ v2 < w 43 0 ∧ ¬ v1 = v2 := by
    unfold mt at h1
    by_cases hc : 0 ≤ v1 ∧ v1 < w 43 0 ∧ 0 ≤ v2 ∧ v2 < w 43 0 ∧ ¬ v1 = v2
    · exact hc
    · rw [if_neg hc] at h1; exact absurd h1 (by decide)
  have fin : ∀ {s : Int} {u4 : Wd}, u4 = st u1 45 v1.toNat (wt (w 45 v1.toNat) v2 v3) → s = wt (u4 45 v2.toNat) v1 v3 → PC (f_R_meet_85 v2 s u4) (fun _ u => (mt (w 43 0) v1 v2 = 0 ∧ u = st w 43 16 0) ∨ (mt (w 43 0) v1 v2 = 1 ∧ (∀ j, u 45 j = mk2 (w 45) v1 v2 v3 j) ∧ ∀ c k, c ≠ 45 → ¬ (c = 43 ∧ k = 16) → u c k = w c k)) := by
    intro s u4 e4 es
    unfold f_R_meet_85
    refine pc_gd (fun _ => ?_)
    refine pc_lw (fun u5 e5 => pc_some (Or.inr ⟨h1, fun j => ?_, fun c k h45 h16 => ?_⟩))
    · have t2 : u4 45 v2.toNat = w 45 v2.toNat := by rw [e4, st_k (by omega), t45]
      rw [e5, es, t2]
      unfold mk2
      by_cases cj : j = v2.toNat
      · rw [if_pos cj, cj, st_eq]
      · rw [if_neg cj, st_k cj, e4]
        by_cases c1 : j = v1.toNat
        · rw [if_pos c1, c1, st_eq]
        · rw [if_neg c1, st_k c1, t45]
    · rw [e5, st_c h45, e4, st_c h45, e1]; unfold st; rw [if_neg h16]
  have nx : ∀ {s : Int}, s = wt (w 45 v1.toNat) v2 v3 → PC (f_R_meet_50 v1 v2 v3 v1 s u1) (fun _ u => (mt (w 43 0) v1 v2 = 0 ∧ u = st w 43 16 0) ∨ (mt (w 43 0) v1 v2 = 1 ∧ (∀ j, u 45 j = mk2 (w 45) v1 v2 v3 j) ∧ ∀ c k, c ≠ 45 → ¬ (c = 43 ∧ k = 16) → u c k = w c k)) := by
    intro s es
    unfold f_R_meet_50
    refine pc_gd (fun _ => ?_)
    refine pc_lw (fun u4 e4 => ?_)
    rw [es] at e4
    refine pc_ite (fun c3 => pc_gd (fun _ => fin e4 ?_)) (fun c3 => pc_gd (fun _ => fin e4 ?_))
    · unfold wt; rw [if_pos c3]
    · unfold wt; rw [if_neg c3]
  rw [t45]
  refine pc_ite (fun c3 => pc_gd (fun _ => nx ?_)) (fun c3 => pc_gd (fun _ => nx ?_))
  · unfold wt; rw [if_pos c3]
  · unfold wt; rw [if_neg c3]
theorem k_meet {w : Wd} {v1 v2 v3 : Int} (h : LF w) (i_v1 : ((-2147483648 : Int) ≤ v1 ∧ v1 ≤ 2147483647)) (i_v2 : ((-2147483648 : Int) ≤ v2 ∧ v2 ≤ 2147483647)) (i_v3 : ((0 : Int) ≤ v3 ∧ v3 ≤ 1)) : OK (f_E_meet v1 v2 v3 w) (fun r1 u1 => OK (f_R_meet v1 v2 v3 u1) (fun r2 u2 => LF u2 ∧ r1 = r2)) := by
  have a5 : (0 : Int) ≤ w 5 3 ∧ w 5 3 ≤ 10 := h.1.1.1 5 3
  refine ok_w (ok_pc (c_meet (lf_li h) i_v1 i_v2 i_v3) (pc_and (pc_ok (e_E_meet h.1 i_v1 i_v2 i_v3)) (mf_E a5.2))) (fun r1 u1 q1 => ?_)
  obtain ⟨o1, ⟨g1, s1⟩, x1⟩ := q1
  refine ok_w (ok_pc o1 (pc_and (pc_ok (e_R_meet s1 i_v1 i_v2 i_v3)) (mf_R (s1.1.1 43 0)))) (fun r2 u2 q2 => ?_)
  obtain ⟨⟨hL, hr⟩, ⟨g2, s2⟩, x2⟩ := q2
  refine ⟨⟨s2, ?_⟩, hr⟩
  have hF := h.2
  obtain ⟨hCO, hPP, hHB, hWH, _, _, _, _, _, _, hgr, hse⟩ := hF
  have f := fr_tr (fr_g (P := (5, 5) :: (43, 10) :: (43, 11) :: feP) (A := 6 :: 8 :: 44 :: 46 :: feA) g1 rfl) (fr_g g2 rfl)
  have e0 : u2 43 0 = w 43 0 := f.1 (43, 0) (by decide)
  have e10 : u2 43 10 = w 43 10 := f.1 (43, 10) (by decide)
  have e11 : u2 43 11 = w 43 11 := f.1 (43, 11) (by decide)
  refine fc_gen h.2 hL.2 (fun j hj => ?_) ?_ ⟨by rw [e10]; exact hgr, by rw [e11]; exact hse⟩ (fr_sub f (by decide) (by decide))
  · rw [e0] at hj
    obtain ⟨y1, y2, y3⟩ := hPP j hj
    rw [f.2 6 (by decide), f.2 8 (by decide), f.2 44 (by decide), f.2 48 (by decide)]
    refine ⟨y1, ?_, y3⟩
    have e45 : u1 45 = w 45 := funext fun k => g1.2.1 45 k (mS_ar rfl k)
    have e7 : u2 7 = u1 7 := funext fun k => g2.2.1 7 k (mS_ar rfl k)
    have e01 : u1 43 0 = w 43 0 := g1.2.1 43 0 rfl
    rw [e7]
    rw [e01, ← hCO.2.1] at x2
    rcases x1 with ⟨m1, b1⟩ | ⟨m1, b1, _⟩
    · rcases x2 with ⟨m2, b2⟩ | ⟨m2, _⟩
      · rw [b2, st_c (by decide), e45, b1]; exact y2
      · omega
    · rcases x2 with ⟨m2, _⟩ | ⟨m2, b2, _⟩
      · omega
      · have hv : 0 ≤ v1 ∧ v1 < w 5 3 ∧ 0 ≤ v2 ∧ v2 < w 5 3 ∧ ¬ v1 = v2 := by
          unfold mt at m1
          by_cases hc : 0 ≤ v1 ∧ v1 < w 5 3 ∧ 0 ≤ v2 ∧ v2 < w 5 3 ∧ ¬ v1 = v2
          · exact hc
          · rw [if_neg hc] at m1; exact absurd m1 (by decide)
        have hp := hCO.2.1
        rw [b1, b2, e45]
        unfold mk2
        rw [(hPP v2.toNat (by omega)).2.1, (hPP v1.toNat (by omega)).2.1, y2]
  · rw [f.1 (5, 5) (by decide), e0, f.2 46 (by decide)]; exact hHB
/-! HIDE -/
theorem hf_E {v1 v2 : Int} {w : Wd} : PC (f_E_hide v1 v2 w) (fun _ u => (hd (w 5 3) v1 = 0 ∧ u = w) ∨ (hd (w 5 3) v1 = 1 ∧ u 5 5 = wt (w 5 5) v1 v2 ∧ ∀ c k, c ≠ 28 → ¬ (c = 5 ∧ k = 5) → u c k = w c k)) := by
  unfold f_E_hide
  refine pc_call (it_pc v1 w) (fun r1 u2 q => ?_)
  rw [q.1]
  have h01 := hd_01 (w 5 3) v1
  refine pc_ite (fun c => pc_some (Or.inl ⟨q.2.symm.trans c, rfl⟩)) (fun c => ?_)
  have h1 : hd (w 5 3) v1 = 1 := by have := q.2; omega
  rw [wt_e, jc_s]
  refine pc_lw (fun u5 e5 => ?_)
  refine pc_call (sf_pc u5) (fun r9 u10 y => pc_some (Or.inr ⟨h1, ?_, fun c k h28 h5 => ?_⟩))
  · rw [y 5 (by decide), e5, st_eq]
  · rw [y c h28, e5]; unfold st; rw [if_neg h5]
theorem hf_R {v1 v2 : Int} {w : Wd} (hP : 0 ≤ w 43 0 ∧ w 43 0 ≤ 10) : PC (f_R_hide v1 v2 w) (fun _ u => (hd (w 43 0) v1 = 0 ∧ u = st w 43 16 0) ∨ (hd (w 43 0) v1 = 1 ∧ (∀ j, u 46 j = if j = v1.toNat then nz v2 else w 46 j) ∧ ∀ c k, c ≠ 46 → ¬ (c = 43 ∧ k = 16) → u c k = w c k)) := by
  unfold f_R_hide
  refine pc_lw (fun u1 e1 => ?_)
  have t0 : u1 43 0 = w 43 0 := by rw [e1, st_k (by decide)]
  refine pc_call (io_pc v1 u1 (by omega)) (fun r2 u3 q => ?_)
  rw [q.1]
  rw [t0] at q
  have h01 := hd_01 (w 43 0) v1
  refine pc_ite (fun c => pc_some (Or.inl ⟨q.2.symm.trans c, e1⟩)) (fun c => ?_)
  have h1 : hd (w 43 0) v1 = 1 := by have := q.2; omega
  refine pc_gd (fun _ => ?_)
  refine pc_lw (fun u4 e4 => pc_some (Or.inr ⟨h1, fun j => ?_, fun c k h46 h16 => ?_⟩))
  · rw [e4]
    by_cases c1 : j = v1.toNat
    · rw [if_pos c1, c1, st_eq]
    · rw [if_neg c1, st_k c1, e1, st_c (by decide)]
  · rw [e4, st_c h46, e1]; unfold st; rw [if_neg h16]
theorem hB_hide {x P v1 v2 : Int} {h h2 : Nat → Int} (hP : P ≤ 10) (hv : 0 ≤ v1 ∧ v1 < P) (i2 : 0 ≤ v2 ∧ v2 ≤ 1) (hx : B10 x (hB P h)) (e : ∀ j, h2 j = if j = v1.toNat then nz v2 else h j) : B10 (wt x v1 v2) (hB P h2) := by
  unfold wt
  have nz1 : nz 1 = 1 := by decide
  have nz0 : nz 0 = 0 := by decide
  by_cases c : v2 = 0
  · rw [if_pos c]
    refine b10_w (b10_andn hx (b10_1 (i := v1) (by omega)).2) (fun k hk => ?_)
    unfold hB
    rw [e k]
    by_cases ck : k = v1.toNat
    · rw [if_pos ck, ck, c, nz0, decide_eq_true rfl]; simp
    · rw [if_neg ck, decide_eq_false ck]; simp
  · rw [if_neg c]
    refine b10_w (b10_or hx (b10_1 (i := v1) (by omega))) (fun k hk => ?_)
    unfold hB
    rw [e k]
    by_cases ck : k = v1.toNat
    · rw [if_pos ck, ck, show v2 = 1 by omega, nz1, decide_eq_true rfl, show inP P v1.toNat = true from decide_eq_true (by omega)]; simp
    · rw [if_neg ck, decide_eq_false ck]; simp
theorem k_hide {w : Wd} {v1 v2 : Int} (h : LF w) (i_v1 : ((-2147483648 : Int) ≤ v1 ∧ v1 ≤ 2147483647)) (i_v2 : ((0 : Int) ≤ v2 ∧ v2 ≤ 1)) : OK (f_E_hide v1 v2 w) (fun r1 u1 => OK (f_R_hide v1 v2 u1) (fun r2 u2 => LF u2 ∧ r1 = r2)) := by
  have a5 : (0 : Int) ≤ w 5 3 ∧ w 5 3 ≤ 10 := h.1.1.1 5 3
  refine ok_w (ok_pc (c_hide (lf_li h) i_v1 i_v2) (pc_and (pc_ok (e_E_hide h.1 i_v1 i_v2)) hf_E)) (fun r1 u1 q1 => ?_)
  obtain ⟨o1, ⟨g1, s1⟩, x1⟩ := q1
  refine ok_w (ok_pc o1 (pc_and (pc_ok (e_R_hide s1 i_v1 i_v2)) (hf_R (s1.1.1 43 0)))) (fun r2 u2 q2 => ?_)
  obtain ⟨⟨hL, hr⟩, ⟨g2, s2⟩, x2⟩ := q2
  refine ⟨⟨s2, ?_⟩, hr⟩
  have hF := h.2
  obtain ⟨hCO, hPP, hHB, hWH, _, _, _, _, _, _, hgr, hse⟩ := hF
  have f := fr_tr (fr_g (P := (43, 10) :: (43, 11) :: feP) (A := 6 :: 7 :: 8 :: 44 :: 45 :: feA) g1 rfl) (fr_g g2 rfl)
  have e0 : u2 43 0 = w 43 0 := f.1 (43, 0) (by decide)
  have e10 : u2 43 10 = w 43 10 := f.1 (43, 10) (by decide)
  have e11 : u2 43 11 = w 43 11 := f.1 (43, 11) (by decide)
  refine fc_gen h.2 hL.2 (fun j hj => ?_) ?_ ⟨by rw [e10]; exact hgr, by rw [e11]; exact hse⟩ (fr_sub f (by decide) (by decide))
  · rw [e0] at hj
    rw [f.2 6 (by decide), f.2 7 (by decide), f.2 8 (by decide), f.2 44 (by decide), f.2 45 (by decide), f.2 48 (by decide)]
    exact hPP j hj
  · have e46 : u1 46 = w 46 := funext fun k => g1.2.1 46 k (mS_ar rfl k)
    have e55 : u2 5 5 = u1 5 5 := g2.2.1 5 5 rfl
    have e01 : u1 43 0 = w 43 0 := g1.2.1 43 0 rfl
    have hp := hCO.2.1
    rw [e55, e0]
    rw [e01, ← hCO.2.1] at x2
    rcases x1 with ⟨m1, b1⟩ | ⟨m1, b1, _⟩
    · rcases x2 with ⟨m2, b2⟩ | ⟨m2, _⟩
      · rw [b2, st_row (by decide), e46, b1]; exact hHB
      · omega
    · rcases x2 with ⟨m2, _⟩ | ⟨m2, b2, _⟩
      · omega
      · have hv := hd_1 (P := w 5 3) (v := v1) (by omega)
        rw [b1, ← hp]
        rw [← hp] at hHB
        exact hB_hide a5.2 hv i_v2 hHB (fun j => by rw [b2 j, e46])
/-! LAW, SHEET -/
theorem k_law {w : Wd} {v1 v2 : Int} (h : LF w) (i_v1 : ((-2147483648 : Int) ≤ v1 ∧ v1 ≤ 2147483647)) (i_v2 : ((-2147483648 : Int) ≤ v2 ∧ v2 ≤ 2147483647)) : OK (f_E_law v1 v2 w) (fun r1 u1 => OK (f_R_law v1 v2 u1) (fun r2 u2 => LF u2 ∧ r1 = r2)) := by
  refine ok_w (ok_pc (c_law (lf_li h) i_v1 i_v2) (pc_ok (e_E_law h.1 i_v1 i_v2))) (fun r1 u1 q1 => ?_)
  obtain ⟨o1, g1, s1⟩ := q1
  refine ok_w (ok_pc o1 (pc_and (pc_ok (e_R_law s1 i_v1 i_v2)) (lw_R v1 v2 u1))) (fun r2 u2 q2 => ?_)
  obtain ⟨⟨hL, hr⟩, ⟨g2, s2⟩, x2⟩ := q2
  refine ⟨⟨s2, ?_⟩, hr⟩
  have hF := h.2
  obtain ⟨hCO, hPP, hHB, hWH, _, _, _, _, _, _, hgr, hse⟩ := hF
  have f := fr_tr (fr_g (P := (5, 5) :: feP) (A := 6 :: 7 :: 8 :: 44 :: 45 :: 46 :: feA) g1 rfl) (fr_g g2 rfl)
  have e0 : u2 43 0 = w 43 0 := f.1 (43, 0) (by decide)
  have e10 : u1 43 10 = w 43 10 := g1.2.1 43 10 rfl
  have e11 : u1 43 11 = w 43 11 := g1.2.1 43 11 rfl
  refine fc_gen h.2 hL.2 (fun j hj => ?_) ?_ ?_ (fr_sub f (by decide) (by decide))
  · rw [e0] at hj
    rw [f.2 6 (by decide), f.2 7 (by decide), f.2 8 (by decide), f.2 44 (by decide), f.2 45 (by decide), f.2 48 (by decide)]
    exact hPP j hj
  · rw [f.1 (5, 5) (by decide), e0, f.2 46 (by decide)]; exact hHB
  · unfold LW at x2
    omega
theorem k_sheet {w : Wd} {v1 v2 v3 v4 : Int} (h : LF w) (i_v1 : ((-2147483648 : Int) ≤ v1 ∧ v1 ≤ 2147483647)) (i_v2 : ((-2147483648 : Int) ≤ v2 ∧ v2 ≤ 2147483647)) (i_v3 : ((-2147483648 : Int) ≤ v3 ∧ v3 ≤ 2147483647)) (i_v4 : ((-2147483648 : Int) ≤ v4 ∧ v4 ≤ 2147483647)) : OK (f_E_sheet v1 v2 v3 v4 w) (fun r1 u1 => OK (f_R_sheet v1 v2 v3 v4 u1) (fun r2 u2 => LF u2 ∧ r1 = r2)) := by
  refine ok_w (ok_pc (c_sheet (lf_li h) i_v1 i_v2 i_v3 i_v4) (pc_and (pc_ok (e_E_sheet h.1 i_v1 i_v2 i_v3 i_v4)) (sh_E i_v3 (h.1.1.1 5 3) (fun j => h.1.1.1 6 j)))) (fun r1 u1 q1 => ?_)
  obtain ⟨o1, ⟨g1, s1⟩, x1⟩ := q1
  refine ok_w (ok_pc o1 (pc_and (pc_ok (e_R_sheet s1 i_v1 i_v2 i_v3 i_v4)) (sh_R i_v3 (s1.1.1 43 0)))) (fun r2 u2 q2 => ?_)
  obtain ⟨⟨hL, hr⟩, ⟨g2, s2⟩, x2⟩ := q2
  refine ⟨⟨s2, ?_⟩, hr⟩
  have hF := h.2
  obtain ⟨hCO, hPP, hHB, hWH, _, _, _, _, _, _, hgr, hse⟩ := hF
  have f := fr_tr (fr_g (P := (5, 5) :: (43, 10) :: (43, 11) :: feP) (A := 7 :: 8 :: 45 :: 46 :: feA) g1 rfl) (fr_g g2 rfl)
  have e0 : u2 43 0 = w 43 0 := f.1 (43, 0) (by decide)
  have e10 : u2 43 10 = w 43 10 := f.1 (43, 10) (by decide)
  have e11 : u2 43 11 = w 43 11 := f.1 (43, 11) (by decide)
  refine fc_gen h.2 hL.2 (fun j hj => ?_) ?_ ⟨by rw [e10]; exact hgr, by rw [e11]; exact hse⟩ (fr_sub f (by decide) (by decide))
  · rw [e0] at hj
    obtain ⟨y1, y2, y3⟩ := hPP j hj
    rw [f.2 7 (by decide), f.2 8 (by decide), f.2 45 (by decide), f.2 48 (by decide)]
    refine ⟨?_, y2, y3⟩
    have e44 : u1 44 = w 44 := funext fun k => g1.2.1 44 k (mS_ar rfl k)
    have e6 : u2 6 = u1 6 := funext fun k => g2.2.1 6 k (mS_ar rfl k)
    have e01 : u1 43 0 = w 43 0 := g1.2.1 43 0 rfl
    have hp := hCO.2.1
    rw [e6]
    rw [e01] at x2
    rcases x1 with ⟨n1, a1, b1⟩ | ⟨n1, a1, b1⟩ | ⟨n1, a1, b1⟩ <;> rcases x2 with ⟨n2, a2, b2⟩ | ⟨n2, a2, b2⟩ | ⟨n2, a2, b2⟩
    · rw [b2, st_c (by decide), e44, b1]; exact y1
    · exact absurd n2.1 n1
    · exact absurd n2.1 n1
    · exact absurd n1.1 n2
    · rw [b2, st_c (by decide), e44, b1]; exact y1
    · exfalso; omega
    · exact absurd n1.1 n2
    · exfalso; omega
    · rw [b1 j (by omega), b2 j hj]
  · rw [f.1 (5, 5) (by decide), e0, f.2 46 (by decide)]; exact hHB
/-! KEEP, all of it -/
theorem kbf_new {w u2 : Wd} {c d g m : Nat} (h : FC w) (h8 : 0 ≤ w 43 8 ∧ w 43 8 ≤ 60) (h0 : 0 ≤ w 43 0 ∧ w 43 0 ≤ 10) {x1 x2 : Wd} (hE : KTq w x1 c d g) (hR : KRq x2 u2 m) (fE : u2 c = x1 c ∧ u2 d = x1 d ∧ u2 g = x1 g) (fR : FR [(43, 0), (43, 7), (43, 8), (43, 10), (43, 11)] [46, 47, 48, 49, 50] w x2) (e0 : u2 43 0 = w 43 0) : KBf u2 c d g m := by
  intro _ _
  obtain ⟨hCO, hPP, hHB, hWH, ⟨hp, hwk, hun⟩, hwe, hSN, hUB, hK0, hK1, hgr, hse⟩ := h
  obtain ⟨_, _, a4, a5, a6, a7, a8, a9, ad, ag⟩ := hE
  obtain ⟨_, _, b1, b2, b3⟩ := hR
  obtain ⟨f1, f2, f3⟩ := fE
  have r46 := fR.2 46 (by decide)
  have r47 := fR.2 47 (by decide)
  have r48 := fR.2 48 (by decide)
  have r49 := fR.2 49 (by decide)
  have r50 := fR.2 50 (by decide)
  have q7 : x2 43 7 = w 43 7 := fR.1 (43, 7) (by decide)
  have q8 : x2 43 8 = w 43 8 := fR.1 (43, 8) (by decide)
  rw [r47, r48, r49] at b1
  have hid : ∀ j : Nat, j < 10 → u2 79 (105 * m + 31 + j) = if w 46 j = 0 then 0 else 1 := fun j hj => by
    rw [b3 _ (by omega) (by omega)]
    unfold KF
    rw [if_neg (by omega), if_neg (by omega), if_neg (by omega), if_neg (by omega), if_pos (show 105 * m + 31 ≤ 105 * m + 31 + j ∧ 105 * m + 31 + j < 105 * m + 41 by omega), show 105 * m + 31 + j - (105 * m + 31) = j by omega, r46]
  have wek : ∀ t : Nat, t < 61 → u2 79 (105 * m + 44 + t) = w 50 t := fun t ht => by
    rw [b3 _ (by omega) (by omega)]
    unfold KF
    rw [if_pos (by omega), show 105 * m + 44 + t - (105 * m + 44) = t by omega, r50]
  have k43 : u2 79 (105 * m + 43) = w 43 8 := by
    rw [b3 _ (by omega) (by omega)]
    unfold KF
    rw [if_neg (by omega), if_pos rfl, q8]
  have c9 : u2 c 9 = w 43 8 := by rw [f1, a9]; exact hwk
  rw [e0]
  refine ⟨?_, ?_, fun j hj => ?_, ?_, ⟨?_, ?_, ?_⟩, fun j hj => ?_, fun t ht ht2 => ?_, ?_, ⟨?_, ?_⟩, ?_, ?_⟩
  · rw [f1, a4]
    exact wh_eq hWH (fun k hk => ((b1 k (by omega)).1).symm)
  · rw [f1, a5]
    refine b10_w hHB (fun k hk => ?_)
    unfold hB
    dsimp only
    rw [hid k hk]
    by_cases c : w 46 k = 0
    · rw [if_pos c, c]
    · rw [if_neg c, beq_eq_false_iff_ne.mpr c]; rfl
  · rw [hid j (by omega)]
    by_cases c : w 46 j = 0
    · rw [if_pos c]; exact Or.inl rfl
    · rw [if_neg c]; exact Or.inr rfl
  · rw [f1, a6, b2, q7]; exact hp
  · rw [c9, k43]
  · rw [c9]; exact h8.1
  · rw [c9]; exact h8.2
  · rw [f2, ad j (by omega), (b1 j (by omega)).2.1]; exact (hPP j hj).2.2
  · rw [f3, ag t ht, wek t ht]; exact hwe t (by omega)
  · rw [c9]
    exact sn_eq hSN h8.1 (fun j hj => ⟨((b1 j (by omega)).1).symm, ((b1 j (by omega)).2.1).symm, ((b1 j (by omega)).2.2).symm⟩) (fun t ht => (wek t (by omega)).symm)
  · rw [f1, a7, hCO.2.2.1.1]; exact hgr.1
  · rw [f1, a7, hCO.2.2.1.1]; exact hgr.2
  · rw [f1, a8, hCO.2.2.1.2]; exact hse.1
  · rw [f1, a8, hCO.2.2.1.2]; exact hse.2
theorem kbf_old {w u : Wd} {c d g m : Nat} (h : KBf w c d g m) (ec : u c = w c) (ed : u d = w d) (eg : u g = w g) (e53 : u 5 3 = w 5 3) (e0 : u 43 0 = w 43 0) (h10 : w 43 0 ≤ 10) (e79 : ∀ k, k < 105 → u 79 (105 * m + k) = w 79 (105 * m + k)) : KBf u c d g m := by
  intro h1 h2
  rw [ec] at h1 h2
  rw [e53] at h2
  obtain ⟨a1, a2, a3, a4, ⟨a5, a50, a51⟩, a6, a7, a8, a9, a10⟩ := h h1 h2
  have y : ∀ k, k < 105 → u 79 (105 * m + k) = w 79 (105 * m + k) := e79
  rw [ec, ed, eg, e0]
  refine ⟨wh_eq a1 (fun k hk => ?_), b10_w a2 (fun k hk => ?_), fun j hj => ?_, ?_, ⟨?_, a50, a51⟩, fun j hj => ?_, fun t ht ht2 => ?_, ?_, a9, a10⟩
  · exact (y (3 * k) (by omega)).symm
  · unfold hB
    dsimp only
    rw [show 105 * m + 31 + k = 105 * m + (31 + k) by omega, y (31 + k) (by omega)]
  · have := a3 j hj
    rw [show 105 * m + 31 + j = 105 * m + (31 + j) by omega] at this ⊢
    rw [y (31 + j) (by omega)]; exact this
  · rw [y 30 (by decide)]; exact a4
  · rw [y 43 (by decide)]; exact a5
  · have := a6 j hj
    rw [show 105 * m + 3 * j + 1 = 105 * m + (3 * j + 1) by omega] at this ⊢
    rw [y _ (by omega)]; exact this
  · have := a7 t ht ht2
    rw [show 105 * m + 44 + t = 105 * m + (44 + t) by omega] at this ⊢
    rw [y _ (by omega)]; exact this
  · refine sn_eq a8 a50 (fun j hj => ⟨?_, ?_, ?_⟩) (fun t ht => ?_)
    · exact (y (3 * j) (by omega)).symm
    · rw [show 105 * m + 3 * j + 1 = 105 * m + (3 * j + 1) by omega]; exact (y _ (by omega)).symm
    · rw [show 105 * m + 3 * j + 2 = 105 * m + (3 * j + 2) by omega]; exact (y _ (by omega)).symm
    · rw [show 105 * m + 44 + t = 105 * m + (44 + t) by omega]; exact (y _ (by omega)).symm
def kdP : List (Nat × Nat) := [(5, 3), (5, 4), (5, 5), (5, 6), (15, 3), (15, 4), (43, 0), (43, 7), (43, 8), (43, 10), (43, 11), (43, 32)]
def kdA : List Nat := [6, 7, 8, 16, 17, 18, 44, 45, 46, 47, 48, 49, 50, 59]
theorem fc_kd {w u : Wd} (h : FC w) (c0 : CO u) (f : FR kdP kdA w u) (k0 : KBf u 37 38 39 0) (k1 : KBf u 40 41 42 1) : FC u := by
  have p := f.1
  have q53 := p (5, 3) (by decide)
  have q54 := p (5, 4) (by decide)
  have q55 := p (5, 5) (by decide)
  have q56 := p (5, 6) (by decide)
  have q153 := p (15, 3) (by decide)
  have q154 := p (15, 4) (by decide)
  have q0 := p (43, 0) (by decide)
  have q7 := p (43, 7) (by decide)
  have q8 := p (43, 8) (by decide)
  have q10 := p (43, 10) (by decide)
  have q11 := p (43, 11) (by decide)
  have q32 := p (43, 32) (by decide)
  simp only at q53 q54 q55 q56 q153 q154 q0 q7 q8 q10 q11 q32
  obtain ⟨hCO, hPP, hHB, hWH, h5, hwe, hSN, hUB, hK0, hK1, hgs⟩ := h
  refine ⟨c0, ?_, ?_, ?_, ?_, ?_, ?_, ?_, k0, k1, ?_⟩
  · unfold PPL
    rw [q0, f.2 6 (by decide), f.2 7 (by decide), f.2 8 (by decide), f.2 44 (by decide), f.2 45 (by decide), f.2 48 (by decide)]
    exact hPP
  · rw [q55, q0, f.2 46 (by decide)]; exact hHB
  · rw [q54, q0, f.2 47 (by decide)]; exact hWH
  · rw [q56, q153, q154, q7, q8, q32]; exact h5
  · rw [q8, f.2 16 (by decide), f.2 50 (by decide)]; exact hwe
  · rw [q0, q8, f.2 47 (by decide), f.2 48 (by decide), f.2 49 (by decide), f.2 50 (by decide)]; exact hSN
  · unfold UB wki at hUB ⊢
    rw [q0, q8, q32, f.2 17 (by decide), f.2 18 (by decide), f.2 47 (by decide), f.2 48 (by decide), f.2 50 (by decide), f.2 59 (by decide)]
    exact hUB
  · rw [q10, q11]; exact hgs
theorem k_keep {w : Wd} {v1 : Int} (h : LF w) (i_v1 : ((-2147483648 : Int) ≤ v1 ∧ v1 ≤ 2147483647)) : OK (f_E_keep v1 w) (fun r1 u1 => OK (f_R_keep v1 u1) (fun r2 u2 => LF u2 ∧ r1 = r2)) := by
  have a0 : (0 : Int) ≤ w 43 0 ∧ w 43 0 ≤ 10 := h.1.1.1 43 0
  have a8 : (0 : Int) ≤ w 43 8 ∧ w 43 8 ≤ 60 := h.1.1.1 43 8
  refine ok_w (ok_pc (c_keep (lf_li h) i_v1) (pc_and (pc_ok (e_E_keep h.1 i_v1)) (kp_E (g_self h.1.1)))) (fun r1 u1 q1 => ?_)
  obtain ⟨o1, ⟨g1, s1⟩, x1⟩ := q1
  refine ok_w (ok_pc o1 (pc_and (pc_ok (e_R_keep s1 i_v1)) (kp_R (g_self s1.1)))) (fun r2 u2 q2 => ?_)
  obtain ⟨⟨hL, hr⟩, ⟨g2, s2⟩, x2⟩ := q2
  refine ⟨⟨s2, ?_⟩, hr⟩
  have hF := h.2
  obtain ⟨_, _, _, _, _, _, _, _, hK0, hK1, _⟩ := hF
  have f := fr_tr (fr_g (P := kdP) (A := kdA) g1 rfl) (fr_g g2 rfl)
  have f1 := fr_g (P := [(43, 0), (43, 7), (43, 8), (43, 10), (43, 11)]) (A := [46, 47, 48, 49, 50]) g1 rfl
  have e0 : u2 43 0 = w 43 0 := f.1 (43, 0) (by decide)
  have e53 : u2 5 3 = w 5 3 := f.1 (5, 3) (by decide)
  have rw2 : ∀ c ∈ [37, 38, 39, 40, 41, 42], u2 c = u1 c := (fr_g (P := []) (A := [37, 38, 39, 40, 41, 42]) g2 rfl).2
  have r79 : u1 79 = w 79 := funext fun k => g1.2.1 79 k (mS_ar rfl k)
  rw [r79] at x2
  rcases x1 with ⟨n1, a1, b1⟩ | ⟨n1, a1, b1, b2, b3, b4⟩ | ⟨n1, a1, b1, b2, b3, b4⟩
  · rcases x2 with ⟨_, a2, c1, c2, c3⟩ | ⟨n2, _⟩
    · refine fc_kd h.2 hL.2 f (kbf_old hK0 ?_ ?_ ?_ e53 e0 a0.2 (fun k _ => by rw [c1])) (kbf_old hK1 ?_ ?_ ?_ e53 e0 a0.2 (fun k _ => by rw [c1]))
      · rw [rw2 37 (by decide), b1]
      · rw [rw2 38 (by decide), b1]
      · rw [rw2 39 (by decide), b1]
      · rw [rw2 40 (by decide), b1]
      · rw [rw2 41 (by decide), b1]
      · rw [rw2 42 (by decide), b1]
    · exact absurd n2 n1
  · rcases x2 with ⟨n2, _⟩ | ⟨n2, a2, c1, c2, c3⟩
    · exfalso; omega
    · have hv : v1.toNat = 0 := by omega
      rw [hv] at c1 c2 c3
      refine fc_kd h.2 hL.2 f (kbf_new h.2 a8 a0 b1 c1 ⟨rw2 37 (by decide), rw2 38 (by decide), rw2 39 (by decide)⟩ f1 e0) (kbf_old hK1 ?_ ?_ ?_ e53 e0 a0.2 (fun k _ => c3 _ (by omega)))
      · rw [rw2 40 (by decide), b2]
      · rw [rw2 41 (by decide), b3]
      · rw [rw2 42 (by decide), b4]
  · rcases x2 with ⟨n2, _⟩ | ⟨n2, a2, c1, c2, c3⟩
    · exfalso; omega
    · have hv : v1.toNat = 1 := by omega
      rw [hv] at c1 c2 c3
      refine fc_kd h.2 hL.2 f (kbf_old hK0 ?_ ?_ ?_ e53 e0 a0.2 (fun k _ => c3 _ (by omega))) (kbf_new h.2 a8 a0 b1 c1 ⟨rw2 40 (by decide), rw2 41 (by decide), rw2 42 (by decide)⟩ f1 e0)
      · rw [rw2 37 (by decide), b2]
      · rw [rw2 38 (by decide), b3]
      · rw [rw2 39 (by decide), b4]
/-! AGAIN, all of it -/
def agP : List (Nat × Nat) := [(5, 3), (37, 2), (37, 3), (37, 4), (37, 5), (37, 6), (37, 7), (37, 8), (37, 9), (40, 2), (40, 3), (40, 4), (40, 5), (40, 6), (40, 7), (40, 8), (40, 9), (43, 0)]
def agA : List Nat := [6, 7, 38, 39, 41, 42, 44, 45, 79]
theorem fc_ag {w u1 u2 : Wd} {c d g m : Nat} (h : FC w) (c0 : CO u2) (hk : KBf w c d g m) (hfit : w c 2 ≠ 0 ∧ w c 3 = w 5 3) (hg7 : w c 7 = w 79 (105 * m + 41) ∧ w c 8 = w 79 (105 * m + 42)) (hE : GBq w u1 c d g) (hR : RAq w u2 m) (f : FR agP agA w u2) (fE : FR [(5, 4), (5, 5), (5, 6), (5, 7), (5, 8), (15, 3), (15, 4)] [8, 16] u1 u2) (h10 : w 43 0 ≤ 10) (k0 : KBf u2 37 38 39 0) (k1 : KBf u2 40 41 42 1) : FC u2 := by
  obtain ⟨hCO, hPP, hHB, hWH, h5, hwe, hSN, hUB, hK0, hK1, hgs⟩ := h
  obtain ⟨a1, a2, a3, a4, ⟨a5, a50, a51⟩, a6, a7, a8, a9, a10⟩ := hk hfit.1 hfit.2
  obtain ⟨b4, b5, b6, b7, b8, b9, b15, bd, bg⟩ := hE
  obtain ⟨r1, r7, r46, r10, r11, r8, r32, r50⟩ := hR
  have q0 : u2 43 0 = w 43 0 := f.1 (43, 0) (by decide)
  have y54 : u2 5 4 = w c 4 := (fE.1 (5, 4) (by decide)).trans b4
  have y55 : u2 5 5 = w c 5 := (fE.1 (5, 5) (by decide)).trans b5
  have y56 : u2 5 6 = w c 6 := (fE.1 (5, 6) (by decide)).trans b6
  have y153 : u2 15 3 = w c 9 := (fE.1 (15, 3) (by decide)).trans b9
  have y154 : u2 15 4 = 0 := (fE.1 (15, 4) (by decide)).trans b15
  have y8 := fE.2 8 (by decide)
  have y16 := fE.2 16 (by decide)
  refine ⟨c0, fun j hj => ?_, ?_, ?_, ⟨?_, ?_, ?_⟩, fun t ht => ?_, ?_, fun t ht => ?_, k0, k1, ⟨?_, ?_⟩, ?_, ?_⟩
  · rw [q0] at hj
    rw [f.2 6 (by decide), f.2 7 (by decide), f.2 44 (by decide), f.2 45 (by decide), y8, bd j (by omega), (r1 j hj).2.1]
    obtain ⟨z1, z2, _⟩ := hPP j hj
    exact ⟨z1, z2, a6 j hj⟩
  · rw [y55, q0]
    refine b10_w a2 (fun k hk => hB_eq (fun j hj => ?_) k)
    rw [r46 j hj]
    rcases a3 j hj with e | e
    · rw [e]; rfl
    · rw [e]; rfl
  · rw [y54, q0]
    exact wh_eq a1 (fun k hk => ((r1 k hk).1).symm)
  · rw [y56, r7]; exact a4
  · rw [y153, r8]; exact a5
  · rw [y154, r32]
  · rw [r8, ← a5] at ht
    rw [y16, bg t (by omega), r50 t (by omega)]
    exact a7 t (by omega) ht
  · rw [q0, r8, ← a5]
    exact sn_eq a8 a50 (fun j hj => ⟨((r1 j hj).1).symm, ((r1 j hj).2.1).symm, ((r1 j hj).2.2).symm⟩) (fun t ht => (r50 t (by omega)).symm)
  · rw [r32] at ht; omega
  · rw [r10, ← hg7.1]; exact a9.1
  · rw [r10, ← hg7.1]; exact a9.2
  · rw [r11, ← hg7.2]; exact a10.1
  · rw [r11, ← hg7.2]; exact a10.2
theorem kbf_ag {w u : Wd} {c d g m : Nat} (hk : KBf w c d g m) (f : FR [(c, 2), (c, 3), (c, 4), (c, 5), (c, 6), (c, 7), (c, 8), (c, 9), (5, 3), (43, 0)] [d, g, 79] w u) : KBf u c d g m := by
  have p := f.1
  have q2 : u c 2 = w c 2 := p (c, 2) (by simp)
  have q3 : u c 3 = w c 3 := p (c, 3) (by simp)
  have q4 : u c 4 = w c 4 := p (c, 4) (by simp)
  have q5 : u c 5 = w c 5 := p (c, 5) (by simp)
  have q6 : u c 6 = w c 6 := p (c, 6) (by simp)
  have q7 : u c 7 = w c 7 := p (c, 7) (by simp)
  have q8 : u c 8 = w c 8 := p (c, 8) (by simp)
  have q9 : u c 9 = w c 9 := p (c, 9) (by simp)
  have q53 : u 5 3 = w 5 3 := p (5, 3) (by simp)
  have q0 : u 43 0 = w 43 0 := p (43, 0) (by simp)
  have d1 := f.2 d (by simp)
  have g1 := f.2 g (by simp)
  have e79 := f.2 79 (by simp)
  unfold KBf
  rw [q2, q3, q4, q5, q6, q7, q8, q9, q53, q0, d1, g1, e79]
  exact hk
theorem k_again {w : Wd} {v1 : Int} (h : LF w) (i_v1 : ((-2147483648 : Int) ≤ v1 ∧ v1 ≤ 2147483647)) : OK (f_E_again v1 w) (fun r1 u1 => OK (f_R_again v1 u1) (fun r2 u2 => LF u2 ∧ r1 = r2)) := by
  have a0 : (0 : Int) ≤ w 43 0 ∧ w 43 0 ≤ 10 := h.1.1.1 43 0
  refine ok_w (ok_pc (c_again (lf_li h) i_v1) (pc_and (pc_ok (e_E_again h.1 i_v1)) ag_E)) (fun r1 u1 q1 => ?_)
  obtain ⟨o1, ⟨g1, s1⟩, x1⟩ := q1
  refine ok_w (ok_pc o1 (pc_and (pc_ok (e_R_again s1 i_v1)) (ag_R (g_self s1.1)))) (fun r2 u2 q2 => ?_)
  obtain ⟨⟨hL, hr⟩, ⟨g2, s2, _⟩, x2⟩ := q2
  refine ⟨⟨s2, ?_⟩, hr⟩
  have hF := h.2
  obtain ⟨hCO, _, _, _, _, _, _, _, hK0, hK1, _⟩ := hF
  obtain ⟨hTX, hPe, hGS, hM0, hM1⟩ := hCO
  have f := fr_tr (fr_g (P := agP) (A := agA) g1 rfl) (fr_g g2 rfl)
  have fE := fr_g (P := [(5, 4), (5, 5), (5, 6), (5, 7), (5, 8), (15, 3), (15, 4)]) (A := [8, 16]) g2 rfl
  have k0 := kbf_ag hK0 (fr_sub f (by decide) (by decide))
  have k1 := kbf_ag hK1 (fr_sub f (by decide) (by decide))
  have fw := fr_g (P := [(43, 0), (43, 56)]) (A := [79, 80, 81]) g1 rfl
  have w79 := fw.2 79 (by decide)
  have w80 := fw.2 80 (by decide)
  have w81 := fw.2 81 (by decide)
  have w56 : u1 43 56 = w 43 56 := fw.1 (43, 56) (by decide)
  have w0 : u1 43 0 = w 43 0 := fw.1 (43, 0) (by decide)
  have raq : ∀ {m : Nat}, RAq u1 u2 m → RAq w u2 m := fun hq => by
    unfold RAq at hq ⊢
    rw [w0, w79] at hq
    exact hq
  rcases x1 with ⟨n0, n1, a1, b1⟩ | ⟨⟨n0, n1⟩, a1, b1⟩ | ⟨⟨n0, n1⟩, a1, b1⟩
  · rcases x2 with ⟨n2, a2, b2⟩ | ⟨_, a2, _⟩
    · rw [b1] at b2
      refine fc_fr2 h.2 hL.2 ⟨fun p hp => ?_, fun c hc => ?_⟩
      · rw [b2]
        simp only [fdP, List.mem_cons, List.not_mem_nil, or_false] at hp
        unfold st
        rw [if_neg]
        rintro ⟨e1, e2⟩
        obtain ⟨p1, p2⟩ := p
        simp only at e1 e2
        subst e1; subst e2
        simp at hp
      · rw [b2]
        refine st_row ?_
        simp only [fdA, List.mem_cons, List.not_mem_nil, or_false] at hc
        omega
    · exfalso; omega
  · rcases x2 with ⟨_, a2, _⟩ | ⟨⟨m0, m1⟩, a2, b2⟩
    · exfalso; omega
    · subst n0
      obtain ⟨k7, k8, _⟩ := hM0.2 n1.1
      exact fc_ag h.2 hL.2 hK0 n1 ⟨k7, k8⟩ b1 (raq b2) f fE a0.2 k0 k1
  · rcases x2 with ⟨_, a2, _⟩ | ⟨⟨m0, m1⟩, a2, b2⟩
    · exfalso; omega
    · subst n0
      obtain ⟨k7, k8, _⟩ := hM1.2 n1.1
      exact fc_ag h.2 hL.2 hK1 n1 ⟨k7, k8⟩ b1 (raq b2) f fE a0.2 k0 k1
/-! UNDO, all of it -/
theorem ug70 {P : Int} {s : Nat → Int} (hP : 0 ≤ P ∧ P ≤ 10) (x : Wd) (hw : WH (x 5 4) s P) (h3 : x 5 3 = P) : ∀ (n : Nat) {w : Wd} {v2 : Int}, 0 ≤ v2 → v2 ≤ P → (∀ c k, c ≠ 8 → w c k = x c k) → (∀ j : Nat, w 8 j = if (j : Int) < v2 ∧ s j = 0 then -1 else x 8 j) → PC (f_D_goBack_70 n v2 w) (fun r u => r = 1 ∧ (∀ c k, c ≠ 8 → u c k = x c k) ∧ ∀ j : Nat, u 8 j = if (j : Int) < P ∧ s j = 0 then -1 else x 8 j) := by
  intro n
  induction n with
  | zero => intros; exact pc_none
  | succ n ih =>
    intro w v2 i0 i1 hx h8
    rw [f_D_goBack_70]
    have y3 : w 5 3 = P := (hx 5 3 (by decide)).trans h3
    have y4 : w 5 4 = x 5 4 := hx 5 4 (by decide)
    rw [y3]
    refine pc_ite (fun c => ?_) (fun c => ?_)
    · have e : v2 = P := by omega
      rw [e] at h8
      exact pc_some ⟨rfl, hx, h8⟩
    · refine pc_call (es_e (P := P) (s := s) (by rw [y4]; exact hw) hP y3) (fun r7 u8 q => ?_)
      rw [q.1, has_10 w q.2 (by omega), jc_s]
      have e1 := wsucc (v := v2) (P := P) (by omega) (by omega)
      have hs : sr P s v2.toNat = (s v2.toNat == 0) := by
        unfold sr
        rw [show inP P v2.toNat = true from decide_eq_true (by omega)]; rfl
      rw [hs]
      by_cases c2 : s v2.toNat = 0
      · rw [c2]
        refine pc_ite (fun h => absurd h (by decide)) (fun _ => ?_)
        refine pc_gd (fun _ => ?_)
        refine pc_lw (fun u12 e12 => ?_)
        unfold f_D_goBack_96
        refine pc_let (fun x11 e11 => ?_)
        rw [e1] at e11
        refine ih (by omega) (by omega) (fun c k hc => by rw [e12, st_c hc]; exact hx c k hc) (fun j => ?_)
        rw [e12]
        by_cases cj : j = v2.toNat
        · rw [cj, st_eq, if_pos ⟨by omega, c2⟩]
        · rw [st_k cj, h8 j]
          by_cases c3 : (j : Int) < v2 ∧ s j = 0
          · rw [if_pos c3, if_pos ⟨by omega, c3.2⟩]
          · rw [if_neg c3, if_neg (fun h => c3 ⟨by omega, h.2⟩)]
      · rw [beq_eq_false_iff_ne.mpr c2]
        refine pc_ite (fun _ => ?_) (fun h => absurd rfl h)
        unfold f_D_goBack_96
        refine pc_let (fun x11 e11 => ?_)
        rw [e1] at e11
        refine ih (by omega) (by omega) hx (fun j => ?_)
        rw [h8 j]
        by_cases c3 : (j : Int) < v2 ∧ s j = 0
        · rw [if_pos c3, if_pos ⟨by omega, c3.2⟩]
        · rw [if_neg c3, if_neg (fun h => c3 ⟨by
            by_cases cj : j = v2.toNat
            · rw [cj] at h; exact absurd h.2 c2
            · omega, h.2⟩)]
theorem uf_E {P : Int} {s : Nat → Int} {w : Wd} (hP : 0 ≤ P ∧ P ≤ 10) (h3 : w 5 3 = P) (hd : 0 ≤ w 15 3 ∧ w 15 3 ≤ 60) (hu : w 15 4 ≠ 0 → 1 ≤ w 15 3 ∧ 0 ≤ w 15 4 ∧ w 15 4 ≤ 60 ∧ WH (w 17 (w 15 3 - 1).toNat) s P) : PC (f_E_undo w) (fun r u => (w 15 4 = 0 ∧ r = -1 ∧ u = w) ∨ (w 15 4 ≠ 0 ∧ r = w 15 3 - 1 ∧ u 15 4 = w 15 4 - 1 ∧ u 15 3 = w 15 3 - 1 ∧ u 5 4 = w 17 (w 15 3 - 1).toNat ∧ u 5 6 = w 18 (w 15 3 - 1).toNat ∧ (∀ j : Nat, u 8 j = if (j : Int) < P ∧ s j = 0 then -1 else w 8 j) ∧ ∀ c k, c ≠ 28 → c ≠ 8 → ¬ (c = 15 ∧ (k = 3 ∨ k = 4)) → ¬ (c = 5 ∧ (k = 4 ∨ k = 6)) → u c k = w c k)) := by
  unfold f_E_undo
  have hg : PC (f_D_goBack w) (fun r u => (w 15 4 = 0 ∧ r = 0 ∧ u = w) ∨ (w 15 4 ≠ 0 ∧ r = 1 ∧ u 15 4 = w 15 4 - 1 ∧ u 15 3 = w 15 3 - 1 ∧ u 5 4 = w 17 (w 15 3 - 1).toNat ∧ u 5 6 = w 18 (w 15 3 - 1).toNat ∧ (∀ j : Nat, u 8 j = if (j : Int) < P ∧ s j = 0 then -1 else w 8 j) ∧ ∀ c k, c ≠ 8 → ¬ (c = 15 ∧ (k = 3 ∨ k = 4)) → ¬ (c = 5 ∧ (k = 4 ∨ k = 6)) → u c k = w c k)) := by
    unfold f_D_goBack
    refine pc_ite (fun c => pc_some (Or.inl ⟨c, rfl, rfl⟩)) (fun c => ?_)
    obtain ⟨u1, u2, u3, u4⟩ := hu c
    have w1 := w32_sp (w 15 3 - 1)
    have w2 := w32_sp (w 15 4 - 1)
    unfold f_D_isOne
    rw [if_neg (by omega), if_neg (by omega), if_neg (by omega), jc_s, if_neg (by decide)]
    refine pc_lw (fun x3 e3 => ?_)
    have y1 : x3 15 3 = w 15 3 := by rw [e3, st_k (by decide)]
    refine pc_lw (fun x4 e4 => ?_)
    rw [y1, show w32 (w 15 3 - 1) = w 15 3 - 1 by omega] at e4
    rw [show w32 (w 15 4 - 1) = w 15 4 - 1 by omega] at e3
    have y2 : x4 15 3 = w 15 3 - 1 := by rw [e4, st_eq]
    refine pc_gd (fun _ => ?_)
    refine pc_lw (fun x5 e5 => ?_)
    rw [y2] at e5
    have y3 : x5 15 3 = w 15 3 - 1 := by rw [e5, st_c (by decide)]; exact y2
    refine pc_gd (fun _ => ?_)
    refine pc_lw (fun x6 e6 => ?_)
    rw [y3] at e6
    have z17 : x4 17 (w 15 3 - 1).toNat = w 17 (w 15 3 - 1).toNat := by rw [e4, st_c (by decide), e3, st_c (by decide)]
    have z18 : x5 18 (w 15 3 - 1).toNat = w 18 (w 15 3 - 1).toNat := by rw [e5, st_c (by decide), e4, st_c (by decide), e3, st_c (by decide)]
    rw [z17] at e5
    rw [z18] at e6
    have q4 : x6 5 4 = w 17 (w 15 3 - 1).toNat := by rw [e6, st_k (by decide), e5, st_eq]
    have q3 : x6 5 3 = P := by rw [e6, st_k (by decide), e5, st_k (by decide), e4, st_c (by decide), e3, st_c (by decide)]; exact h3
    have q8 : ∀ j, x6 8 j = w 8 j := fun j => by rw [e6, st_c (by decide), e5, st_c (by decide), e4, st_c (by decide), e3, st_c (by decide)]
    refine pc_w (ug70 hP x6 (by rw [q4]; exact u4) q3 FU (by decide) hP.1 (fun _ _ _ => rfl) (fun j => by rw [if_neg (by omega)])) (fun r u q => Or.inr ⟨c, q.1, ?_, ?_, ?_, ?_, fun j => ?_, fun c' k h8 h15 h5 => ?_⟩)
    · rw [q.2.1 15 4 (by decide), e6, st_c (by decide), e5, st_c (by decide), e4, st_k (by decide), e3, st_eq]
    · rw [q.2.1 15 3 (by decide), e6, st_c (by decide)]; exact y3
    · rw [q.2.1 5 4 (by decide)]; exact q4
    · rw [q.2.1 5 6 (by decide), e6, st_eq]
    · rw [q.2.2 j, q8 j]
    · rw [q.2.1 c' k h8, e6]; unfold st; rw [if_neg (by omega), e5]; unfold st; rw [if_neg (by omega), e4]; unfold st; rw [if_neg (by omega), e3]; unfold st; rw [if_neg (by omega)]
  refine pc_call hg (fun r1 u2 q => ?_)
  rcases q with ⟨c, q1, q2⟩ | ⟨c, q1, q2, q3, q4, q5, q6, q7⟩
  · refine pc_ite (fun _ => pc_some (Or.inl ⟨c, rfl, q2⟩)) (fun h => absurd q1 h)
  · refine pc_ite (fun h => absurd (q1.symm.trans h) (by decide)) (fun _ => ?_)
    refine pc_call (sf_pc u2) (fun r3 u4 y => pc_some (Or.inr ⟨c, ?_, ?_, ?_, ?_, ?_, fun j => ?_, fun c' k h28 h8 h15 h5 => ?_⟩))
    · rw [y 15 (by decide)]; exact q3
    · rw [y 15 (by decide)]; exact q2
    · rw [y 15 (by decide)]; exact q3
    · rw [y 5 (by decide)]; exact q4
    · rw [y 5 (by decide)]; exact q5
    · rw [y 8 (by decide)]; exact q6 j
    · rw [y c' h28]; exact q7 c' k h8 h15 h5
theorem uf_R {w : Wd} (hG : G md_R_undo w w) (hb : 0 ≤ w 43 32 ∧ w 43 32 ≤ w 43 8 ∧ w 43 8 ≤ 60) (h0 : w 43 0 ≤ 10) : PC (f_R_undo w) (fun r u => (w 43 32 = 0 ∧ r = -1 ∧ u = st w 43 16 0) ∨ (w 43 32 ≠ 0 ∧ r = w 43 8 - 1 ∧ u 43 32 = w 43 32 - 1 ∧ u 43 8 = w 43 8 - 1 ∧ (∀ j : Nat, (j : Int) < w 43 0 → u 47 j = w 59 (31 * (w 43 32 - 1).toNat + 3 * j) ∧ u 48 j = w 59 (31 * (w 43 32 - 1).toNat + 3 * j + 1) ∧ u 49 j = w 59 (31 * (w 43 32 - 1).toNat + 3 * j + 2)) ∧ u 43 7 = w 59 (31 * (w 43 32 - 1).toNat + 30))) := by
  unfold f_R_undo
  refine pc_lw (fun u1 e1 => ?_)
  have t32 : u1 43 32 = w 43 32 := by rw [e1, st_k (by decide)]
  have t8 : u1 43 8 = w 43 8 := by rw [e1, st_k (by decide)]
  rw [t32]
  refine pc_ite (fun c => pc_some (Or.inl ⟨c, rfl, e1⟩)) (fun c => ?_)
  have w1 := w32_sp (w 43 32 - 1)
  have w2 := w32_sp (w 43 8 - 1)
  refine pc_lw (fun u2 e2 => ?_)
  have y8 : u2 43 8 = w 43 8 := by rw [e2, st_k (by decide)]; exact t8
  rw [y8]
  refine pc_lw (fun u3 e3 => ?_)
  rw [show w32 (w 43 32 - 1) = w 43 32 - 1 by omega] at e2
  rw [show w32 (w 43 8 - 1) = w 43 8 - 1 by omega] at e3
  have z32 : u3 43 32 = w 43 32 - 1 := by rw [e3, st_k (by decide), e2, st_eq]
  have z8 : u3 43 8 = w 43 8 - 1 := by rw [e3, st_eq]
  have z0 : u3 43 0 = w 43 0 := by rw [e3, st_k (by decide), e2, st_k (by decide), e1, st_k (by decide)]
  have z59 : u3 59 = w 59 := by rw [e3, st_row (by decide), e2, st_row (by decide), e1, st_row (by decide)]
  have w3 := w32_sp (31 * u3 43 32)
  have g1 : G md_R_undo w u1 := g_st hG e1 rfl rfl (show (0 : Int) ≤ 0 ∧ (0 : Int) ≤ 1 by decide)
  have g2 : G md_R_undo w u2 := g_st g1 e2 rfl rfl (show (0 : Int) ≤ w 43 32 - 1 ∧ w 43 32 - 1 ≤ 60 by omega)
  have g3 : G md_R_undo w u3 := g_st g2 e3 rfl rfl (show (0 : Int) ≤ w 43 8 - 1 ∧ w 43 8 - 1 ≤ 60 by omega)
  refine pc_call (pc_and (pc_ok (s_R_bring_43_59 (v2 := w32 (31 * u3 43 32)) (g_self g3) (by omega) (by omega) (by omega))) (bringq59 (k := 31 * (w 43 32 - 1).toNat) (v2 := w32 (31 * u3 43 32)) (by omega) (by omega) u3 (by omega))) (fun r4 u5 q => ?_)
  obtain ⟨⟨_, gy⟩, hD, h7⟩ := q
  rw [z59] at hD h7
  refine pc_some (Or.inr ⟨c, ?_, ?_, ?_, fun j hj => hD j (by omega), h7⟩)
  · rw [gy.2.1 43 8 rfl]; exact z8
  · rw [gy.2.1 43 32 rfl]; exact z32
  · rw [gy.2.1 43 8 rfl]; exact z8
def udP : List (Nat × Nat) := [(1, 1), (43, 13), (5, 3), (5, 5), (5, 7), (5, 8), (37, 2), (37, 3), (37, 4), (37, 5), (37, 6), (37, 7), (37, 8), (37, 9), (40, 2), (40, 3), (40, 4), (40, 5), (40, 6), (40, 7), (40, 8), (40, 9), (43, 0), (43, 10), (43, 11), (43, 56)]
def udA : List Nat := [2, 6, 7, 16, 17, 18, 38, 39, 41, 42, 44, 45, 46, 50, 51, 59, 79, 80, 81]
theorem k_undo {w : Wd} (h : LF w) : OK (f_E_undo w) (fun r1 u1 => OK (f_R_undo u1) (fun r2 u2 => LF u2 ∧ r1 = r2)) := by
  have a0 : (0 : Int) ≤ w 43 0 ∧ w 43 0 ≤ 10 := h.1.1.1 43 0
  have a8 : (0 : Int) ≤ w 43 8 ∧ w 43 8 ≤ 60 := h.1.1.1 43 8
  have a32 : (0 : Int) ≤ w 43 32 ∧ w 43 32 ≤ 60 := h.1.1.1 43 32
  have hUI := h.1.2.1.2.2.2.2
  have hF := h.2
  obtain ⟨hCO, hPP, hHB, hWH, ⟨hp, hwk, hun⟩, hwe, hSN, hUB, hK0, hK1, hgs⟩ := hF
  have hPe := hCO.2.1
  -- the latest of all that can be undone
  have tt : w 43 32 ≠ 0 → ((w 43 32 - 1).toNat : Int) = w 43 32 - 1 ∧ wki w (w 43 32 - 1).toNat = w 43 8 - 1 := fun hn => by
    have e : ((w 43 32 - 1).toNat : Int) = w 43 32 - 1 := by omega
    refine ⟨e, ?_⟩
    unfold wki
    rw [e]; omega
  refine ok_w (ok_pc (e_E_undo h.1) (uf_E (P := w 43 0) (s := fun j => w 59 (31 * (w 43 32 - 1).toNat + 3 * j)) a0 hPe (by omega) (fun hn => ?_))) (fun r1 u1 q1 => ?_)
  · rw [hun] at hn
    obtain ⟨t1, t2⟩ := tt hn
    obtain ⟨x1, _⟩ := hUB (w 43 32 - 1).toNat (by omega)
    rw [t2] at x1
    rw [hwk]
    exact ⟨by omega, by omega, by omega, x1⟩
  obtain ⟨⟨g1, s1⟩, x1⟩ := q1
  have f1 := fr_g (P := [(43, 0), (43, 8), (43, 32)]) (A := [59]) g1 rfl
  have e0 : u1 43 0 = w 43 0 := f1.1 (43, 0) (by decide)
  have e8 : u1 43 8 = w 43 8 := f1.1 (43, 8) (by decide)
  have e32 : u1 43 32 = w 43 32 := f1.1 (43, 32) (by decide)
  have e59 := f1.2 59 (by decide)
  refine ok_w (ok_pc (e_R_undo s1) (uf_R (g_self s1.1) (by omega) (by omega))) (fun r2 u2 q2 => ?_)
  obtain ⟨⟨g2, s2, _⟩, x2⟩ := q2
  rw [e0, e8, e32, e59] at x2
  have f := fr_tr (fr_g (P := udP) (A := udA) g1 rfl) (fr_g g2 rfl)
  have hco : CO u2 := co_fr hCO (fr_sub f (by decide) (by decide))
  rcases x1 with ⟨n1, c1, c2⟩ | ⟨n1, c1, c2, c3, c4, c5, c6, c7⟩
  · rcases x2 with ⟨n2, d1, d2⟩ | ⟨n2, _⟩
    · refine ⟨⟨s2, ?_⟩, by omega⟩
      rw [c2] at d2
      refine fc_fr2 h.2 hco ⟨fun p hp => ?_, fun c hc => ?_⟩
      · rw [d2]
        simp only [fdP, List.mem_cons, List.not_mem_nil, or_false] at hp
        unfold st
        rw [if_neg]
        rintro ⟨y1, y2⟩
        obtain ⟨p1, p2⟩ := p
        simp only at y1 y2
        subst y1; subst y2
        simp at hp
      · rw [d2]
        refine st_row ?_
        simp only [fdA, List.mem_cons, List.not_mem_nil, or_false] at hc
        omega
    · exfalso; omega
  · rcases x2 with ⟨n2, _⟩ | ⟨n2, d1, d2, d3, d4, d5⟩
    · exfalso; omega
    · obtain ⟨t1, t2⟩ := tt n2
      obtain ⟨y1, y2, y3, y4, y5⟩ := hUB (w 43 32 - 1).toNat (by omega)
      rw [t2] at y1 y2 y3
      generalize hT : (w 43 32 - 1).toNat = T at *
      have q0 : u2 43 0 = w 43 0 := f.1 (43, 0) (by decide)
      have fE := fr_g (P := [(5, 4), (5, 6), (15, 3), (15, 4)]) (A := [8]) g2 rfl
      have r54 : u2 5 4 = w 17 (w 43 8 - 1).toNat := by rw [fE.1 (5, 4) (by decide), c4, hwk]
      have r56 : u2 5 6 = w 18 (w 43 8 - 1).toNat := by rw [fE.1 (5, 6) (by decide), c5, hwk]
      have r153 : u2 15 3 = w 43 8 - 1 := by rw [fE.1 (15, 3) (by decide), c3, hwk]
      have r154 : u2 15 4 = w 43 32 - 1 := by rw [fE.1 (15, 4) (by decide), c2, hun]
      have r8 := fE.2 8 (by decide)
      have b8 : ∀ j : Nat, (j : Int) < w 43 0 → u2 8 j = u2 48 j := fun j hj => by
        rw [r8, c6 j, (d4 j hj).2.1]
        by_cases cs : w 59 (31 * T + 3 * j) = 0
        · rw [if_pos ⟨hj, cs⟩]
          exact (y3.1 j hj cs).1.symm
        · rw [if_neg (fun e => cs e.2), (y4 j hj cs).1]
          exact (hPP j hj).2.2
      refine ⟨⟨s2, hco, fun j hj => ?_, ?_, ?_, ⟨?_, ?_, ?_⟩, fun t ht => ?_, ?_, fun t ht => ?_, kbf_ag hK0 (fr_sub f (by decide) (by decide)), kbf_ag hK1 (fr_sub f (by decide) (by decide)), ?_⟩, by omega⟩
      · rw [q0] at hj
        rw [f.2 6 (by decide), f.2 7 (by decide), f.2 44 (by decide), f.2 45 (by decide)]
        obtain ⟨z1, z2, _⟩ := hPP j hj
        exact ⟨z1, z2, b8 j hj⟩
      · rw [f.1 (5, 5) (by decide), q0, f.2 46 (by decide)]; exact hHB
      · rw [r54, q0]
        exact wh_eq y1 (fun k hk => ((d4 k hk).1).symm)
      · rw [r56, d5]; exact y2
      · rw [r153, d3]
      · rw [r154, d2]
      · rw [d3] at ht
        rw [f.2 16 (by decide), f.2 50 (by decide)]
        exact hwe t (by omega)
      · rw [q0, d3, f.2 50 (by decide)]
        exact sn_eq y3 (by omega) (fun j hj => ⟨((d4 j hj).1).symm, ((d4 j hj).2.1).symm, ((d4 j hj).2.2).symm⟩) (fun _ _ => rfl)
      · rw [d2] at ht
        obtain ⟨z1, z2, z3, z4, z5⟩ := hUB t (by omega)
        have ew : wki u2 t = wki w t := by
          unfold wki
          rw [d3, d2]; omega
        rw [ew, q0, f.2 17 (by decide), f.2 18 (by decide), f.2 50 (by decide), f.2 59 (by decide), d2]
        refine ⟨z1, z2, z3, fun j hj hn => ?_, fun t2 h2 h3 => z5 t2 h2 (by omega)⟩
        have nT := z5 T (by omega) (by omega) j hj hn
        rw [(d4 j hj).1, (d4 j hj).2.1, (y4 j hj nT).1]
        exact ⟨(z4 j hj hn).1, nT⟩
      · rw [f.1 (43, 10) (by decide), f.1 (43, 11) (by decide)]; exact hgs
/-! BABY, all of it -/
theorem bf_E {w : Wd} {a : Nat} {s h : Nat → Int} {v1 : Int} (ha : w 5 3 = a) (h10 : a ≤ 10) (hw : WH (w 5 4) s a) (hh : B10 (w 5 5) (hB a h)) (hK : KNW a (w 7)) (hd : 0 ≤ w 15 3 ∧ w 15 3 ≤ 60) (hv : -2147483648 ≤ v1 ∧ v1 ≤ 2147483647) : PC (f_E_baby v1 w) (fun _ u => (¬ (w 5 3 ≤ 9 ∧ 0 ≤ v1 ∧ v1 ≤ w32 (ishl 1 (w 5 3) - 1)) ∧ u = w) ∨ ((w 5 3 ≤ 9 ∧ 0 ≤ v1 ∧ v1 ≤ w32 (ishl 1 (w 5 3) - 1)) ∧ ECN a 1 (fun _ => 0) (fun _ => v1) (fun _ => false) (fun _ => false) s h w u)) := by
  unfold f_E_baby
  have a0 : (0 : Int) ≤ w 5 3 ∧ w 5 3 ≤ 10 := by omega
  refine pc_ite (fun c => pc_some (Or.inl ⟨fun c2 => by omega, rfl⟩)) (fun c => ?_)
  unfold f_F_everybody
  rw [jc_s]
  refine pc_ite (fun c1 => ?_) (fun c1 => pc_some (Or.inl ⟨fun c2 => c1 ((baby_c a0 hv).mpr c2.2), rfl⟩))
  have c2 := (baby_c a0 hv).mp c1
  refine pc_call (ea_pc (i := a) (by omega) ha hK) (fun r3 u4 q => ?_)
  have hE : EAN a 1 (fun _ => 0) (fun _ => v1) w u4 := ean_s (n := 0) (ean_0 ha) q
  have fo := hE.2.2.2.2
  have g0 : B10 0 (fun k => decide ((a : Int) ≤ k ∧ (k : Int) < a + ((1 : Nat) : Int)) && (fun _ : Nat => false) ((k : Int) - a).toNat) := b10_w b10_0 (fun k _ => by simp)
  have y4 : u4 5 4 = w 5 4 := fo 5 4 (by decide) (by decide) (by decide) (by decide)
  have y5 : u4 5 5 = w 5 5 := fo 5 5 (by decide) (by decide) (by decide) (by decide)
  have y15 : u4 15 3 = w 15 3 := fo 15 3 (by decide) (by decide) (by decide) (by decide)
  have w4 : WH (u4 5 4) (fun j => if j < a then s j else if (fun _ : Nat => false) (j - a) = true then 1 else 0) ((a : Int) + ((1 : Nat) : Int)) := by
    have := wh_come (n := 1) (gf := fun _ => false) (by omega) hw g0
    rw [ior0 (by have := hw.1; omega)] at this
    rw [y4]; exact this
  refine pc_call (pcm_pc w4 (by omega)) (fun r5 u6 q2 => ?_)
  obtain ⟨z1, z2, z3, z4⟩ := q2
  have row : ∀ c, c ≠ 16 → c ≠ 28 → c ≠ 15 → u6 c = u4 c := fun c h16 h28 h15 => funext fun k => z4 c k h16 h28 (fun e => h15 e.1)
  refine pc_some (Or.inr ⟨⟨by omega, c2⟩, ?_, ?_, ?_, ?_, z2, fun t ht => ?_, ?_, ?_⟩)
  · exact eaw_eq hE (z4 5 3 (by decide) (by decide) (by decide)) (row 6 (by decide) (by decide) (by decide)) (row 7 (by decide) (by decide) (by decide)) (row 8 (by decide) (by decide) (by decide))
  · rw [z4 5 4 (by decide) (by decide) (by decide)]; exact w4
  · have := hB_come (n := 1) (gf := fun _ => false) (by omega) hh g0
    rw [ior0 (by have := hh.1; omega)] at this
    rw [z4 5 5 (by decide) (by decide) (by decide), y5]; exact this
  · rw [← y15]; exact z1
  · rw [z3 t (by rw [y15]; exact ht)]; exact fo 16 t (by decide) (by decide) (by decide) (by omega)
  · rw [z4 5 6 (by decide) (by decide) (by decide)]; exact fo 5 6 (by decide) (by decide) (by decide) (by decide)
  · rw [z4 15 3 (by decide) (by decide) (by decide)]; exact y15
theorem bf_R {w : Wd} {a : Nat} {v1 : Int} (ha : w 43 0 = a) (h10 : a ≤ 10) (h56 : 0 ≤ w 43 56 ∧ w 43 56 ≤ 10) : PC (f_R_baby v1 w) (fun _ u => (¬ (w 43 0 ≤ 9 ∧ 0 ≤ v1 ∧ v1 ≤ w32 (ishl 1 (w 43 0) - 1)) ∧ u = st w 43 16 0) ∨ ((w 43 0 ≤ 9 ∧ 0 ≤ v1 ∧ v1 ≤ w32 (ishl 1 (w 43 0) - 1)) ∧ RCN a 1 (fun _ => 0) (fun _ => v1) (fun _ => 0) (fun _ => 0) w u)) := by
  unfold f_R_baby
  refine pc_lw (fun u1 e1 => ?_)
  have t0 : u1 43 0 = w 43 0 := by rw [e1, st_k (by decide)]
  rw [in_e, jc_s, t0]
  refine pc_ite (fun c => ?_) (fun c => ?_)
  · refine pc_some (Or.inl ⟨fun c2 => ?_, e1⟩)
    rw [if_pos c2.2] at c
    exact absurd c (by decide)
  · have c1 : 0 ≤ v1 ∧ v1 ≤ w32 (ishl 1 (w 43 0) - 1) := by
      by_cases c2 : 0 ≤ v1 ∧ v1 ≤ w32 (ishl 1 (w 43 0) - 1)
      · exact c2
      · rw [if_neg c2] at c; exact absurd rfl c
    refine pc_ite (fun c2 => pc_some (Or.inl ⟨fun c3 => by omega, e1⟩)) (fun c2 => ?_)
    have k1 : FR [(43, 7), (43, 8), (43, 10), (43, 11), (43, 56)] [44, 45, 46, 47, 48, 49, 50, 79, 80, 81] w u1 := by
      refine ⟨fun p hp => ?_, fun c hc => ?_⟩
      · rw [e1]
        simp only [List.mem_cons, List.not_mem_nil, or_false] at hp
        unfold st
        rw [if_neg]
        rintro ⟨y1, y2⟩
        obtain ⟨p1, p2⟩ := p
        simp only at y1 y2
        subst y1; subst y2
        simp at hp
      · rw [e1]
        refine st_row ?_
        simp only [List.mem_cons, List.not_mem_nil, or_false] at hc
        omega
    refine pc_call (ra_pc (i := a) (v1 := w 43 0) (p := 0) (k := v1) (g := 0) (h := 0) (by omega) ha (by decide)) (fun r4 u5 q => ?_)
    have hR : RAN a 1 (fun _ => 0) (fun _ => v1) (fun _ => 0) (fun _ => 0) u1 u5 := ran_s (n := 0) ran_0 q
    have fo := hR.2.2.2
    have y0 : u5 43 0 = w 43 0 := (fo 43 0 (by decide) (by decide) (by decide) (by decide) (by decide) (by decide)).trans t0
    have y56 : u5 43 56 = w 43 56 := (fo 43 56 (by decide) (by decide) (by decide) (by decide) (by decide) (by decide)).trans (k1.1 (43, 56) (by decide))
    have w1 := w32_sp (w 43 0 + 1)
    rw [y0]
    refine pc_lw (fun u6 e6 => ?_)
    rw [show w32 (w 43 0 + 1) = (a : Int) + ((1 : Nat) : Int) by omega] at e6
    have z0 : u6 43 0 = (a : Int) + 1 := by rw [e6, st_eq]; rfl
    have z56 : u6 43 56 = w 43 56 := by rw [e6, st_k (by decide)]; exact y56
    refine pc_call (tdq_pc (w := u6) (by omega) (by omega)) (fun r7 u8 q7 => pc_some (Or.inr ⟨⟨by omega, c1⟩, rcn_x k1 (rcn_fin (by omega) hR e6 q7)⟩))
theorem k_baby {w : Wd} {v1 : Int} (h : LF w) (i_v1 : ((-2147483648 : Int) ≤ v1 ∧ v1 ≤ 2147483647)) : OK (f_E_baby v1 w) (fun r1 u1 => OK (f_R_baby v1 u1) (fun r2 u2 => LF u2 ∧ r1 = r2)) := by
  have a0 : (0 : Int) ≤ w 43 0 ∧ w 43 0 ≤ 10 := h.1.1.1 43 0
  have a8 : (0 : Int) ≤ w 43 8 ∧ w 43 8 ≤ 60 := h.1.1.1 43 8
  have hF := h.2
  obtain ⟨hCO, hPP, hHB, hWH, ⟨hp, hwk, hun⟩, hwe, hSN, hUB, hK0, hK1, hgr, hse⟩ := hF
  have hP := hCO.2.1
  have ea : w 43 0 = (((w 43 0).toNat : Nat) : Int) := by omega
  generalize hA : (w 43 0).toNat = a at ea
  have kn : KNW a (w 7) := by
    have k := rs_kn h.1
    rw [hA] at k
    intro j hj
    rw [(hPP j (by omega)).2.1]
    exact k j hj
  refine ok_w (ok_pc (c_baby (lf_li h) i_v1) (pc_and (pc_ok (e_E_baby h.1 i_v1)) (bf_E (a := a) (s := w 47) (h := w 46) (by omega) (by omega) (by rw [← ea]; exact hWH) (by rw [← ea]; exact hHB) kn (by omega) i_v1))) (fun r1 u1 q1 => ?_)
  obtain ⟨o1, ⟨g1, s1⟩, x1⟩ := q1
  have e0 : u1 43 0 = w 43 0 := g1.2.1 43 0 rfl
  refine ok_w (ok_pc o1 (pc_and (pc_ok (e_R_baby s1 i_v1)) (bf_R (a := a) (by omega) (by omega) (rs_56 s1)))) (fun r2 u2 q2 => ?_)
  obtain ⟨⟨hL, hr⟩, ⟨g2, s2⟩, x2⟩ := q2
  refine ⟨⟨s2, ?_⟩, hr⟩
  rw [e0, ← hP] at x2
  rcases x1 with ⟨n1, c1⟩ | ⟨n1, hE⟩
  · rcases x2 with ⟨n2, d2⟩ | ⟨n2, _⟩
    · rw [c1] at d2
      refine fc_fr2 h.2 hL.2 ⟨fun p hp => ?_, fun c hc => ?_⟩
      · rw [d2]
        simp only [fdP, List.mem_cons, List.not_mem_nil, or_false] at hp
        unfold st
        rw [if_neg]
        rintro ⟨y1, y2⟩
        obtain ⟨p1, p2⟩ := p
        simp only at y1 y2
        subst y1; subst y2
        simp at hp
      · rw [d2]
        refine st_row ?_
        simp only [fdA, List.mem_cons, List.not_mem_nil, or_false] at hc
        omega
    · exact absurd n2 n1
  · rcases x2 with ⟨n2, _⟩ | ⟨n2, hR⟩
    · exact absurd n1 n2
    · have fR := fr_g (P := [(43, 7), (43, 8), (43, 10), (43, 11), (43, 56)]) (A := [44, 45, 46, 47, 48, 49, 50, 79, 80, 81]) g1 rfl
      obtain ⟨⟨v, hv1, hv⟩, rest⟩ := rcn_x fR hR
      exact fc_come (a := a) (n := 1) h.2 ea (by omega) (by decide) a8 hL.2 hE (pr2 := fun _ => 0) (kn2 := fun _ => v1) ⟨⟨v, ran_eq hv1 (fun i _ => ⟨rfl, rfl⟩), hv⟩, rest⟩ (fun _ _ => rfl) (fun _ _ => rfl) (fr_g g2 rfl) (fr_tr (u := u1) (fr_g (P := []) g1 rfl) (fr_g g2 rfl))
/-! THE RULE'S TEXT: what is read, as a list of what is to be done (the latest first) -/
def stg (x : Int) : Int := if x = 42 then 3 else if x = 43 then 2 else if x = 45 then 2 else if x = 47 then 3 else if x = 60 then 1 else if x = 61 then 1 else if x = 62 then 1 else if x = 256 then 4 else 0
def dig (c : Int) : Prop := 48 ≤ c ∧ c ≤ 57
/-- as the reference goes down -/
abbrev Par : Type := Option (Bool × Int × List Int)
def plp (h : Int → Int) (a b : Int) (r : Int → Par) : Nat → Int → List Int → Par
  | 0, _, _ => none
  | n + 1, p, c => if h p = a ∨ h p = b then (match r (p + 1) with
      | none => none
      | some (false, q, _) => some (false, q, [])
      | some (true, q, c2) => plp h a b r n q (-(h p) :: (c2 ++ c))) else some (true, p, c)
def pst (h : Int → Int) (a b : Int) (r : Int → Par) (p : Int) : Par := match r p with
  | none => none
  | some (false, q, _) => some (false, q, [])
  | some (true, q, c) => plp h a b r 50 q c
def phd (h : Int → Int) (r : Int → Par) (p : Int) : Par := match r p with
  | none => none
  | some (false, q, _) => some (false, q, [])
  | some (true, q, c) => if h q = 60 ∨ h q = 62 ∨ h q = 61 then (match r (q + 1) with
      | none => none
      | some (false, q2, _) => some (false, q2, [])
      | some (true, q2, c2) => some (true, q2, -(h q) :: (c2 ++ c))) else some (true, q, c)
def pnm (h : Int → Int) (p : Int) : Int × Int := if 48 ≤ h (p + 1) ∧ h (p + 1) ≤ 57 then (if 48 ≤ h (p + 2) ∧ h (p + 2) ≤ 57 then (p + 3, 10 * (10 * (h p - 48) + (h (p + 1) - 48)) + (h (p + 2) - 48)) else (p + 2, 10 * (h p - 48) + (h (p + 1) - 48))) else (p + 1, h p - 48)
def pth (h : Int → Int) (rT : Int → Par) (rH : Int → Par) (v p : Int) : Par :=
  if h p = 45 then (match rT (p + 1) with
    | none => none
    | some (false, q, _) => some (false, q, [])
    | some (true, q, c) => some (true, q, -256 :: c))
  else if h p = 40 ∧ v < 4 then (match rH (p + 1) with
    | none => none
    | some (false, q, _) => some (false, q, [])
    | some (true, q, c) => if h q = 41 then some (true, q + 1, c) else some (false, q, []))
  else if 48 ≤ h p ∧ h p ≤ 57 then some (true, (pnm h p).1, [(pnm h p).2])
  else if h p = 105 ∨ h p = 112 ∨ h p = 107 ∨ h p = 115 ∨ h p = 103 ∨ h p = 108 ∨ h p = 110 ∨ h p = 119 then some (true, p + 1, [-(h p)])
  else some (false, p, [])
def pg (h : Int → Int) : Nat → Nat → Int → Int → Par
  | 0, _, _, _ => none
  | d + 1, 0, v, p => phd h (pg h d 1 v) p
  | d + 1, 1, v, p => pst h 43 45 (pg h d 2 v) p
  | d + 1, 2, v, p => pst h 42 47 (pg h d 3 v) p
  | d + 1, _, v, p => pth h (pg h d 3 v) (pg h d 0 (v + 1)) v p
/-- as the class goes on, sign by sign -/
def rel (v : Int) (D : List Int) : List Int → List Int × List Int
  | [] => (D, [])
  | x :: W => if v ≤ stg x then rel v (-x :: D) W else (D, x :: W)
def rlw (D : List Int) : List Int → List Int
  | [] => D
  | x :: w => rlw (-x :: D) w
def stc (c : Int) (D W : List Int) (d g K : Int) (wt : Bool) : Option (List Int × List Int × Int × Int × Int × Bool) :=
  if wt = true then
    if c = 45 then some (D, 256 :: W, d, g, K, true)
    else if c = 40 ∧ d < 4 then some (D, 40 :: W, d + 1, g, iand K (ixor (ishl 1 (d + 1)) (-1)), true)
    else if 48 ≤ c ∧ c ≤ 57 then some ((c - 48) :: D, W, d, 1, K, false)
    else if c = 105 ∨ c = 112 ∨ c = 107 ∨ c = 115 ∨ c = 103 ∨ c = 108 ∨ c = 110 ∨ c = 119 then some (-c :: D, W, d, 0, K, false)
    else none
  else
    if 48 ≤ c ∧ c ≤ 57 then (if g = 0 ∨ g = 3 then none else match D with
      | [] => none
      | x :: D' => some ((x * 10 + (c - 48)) :: D', W, d, g + 1, K, false))
    else if c = 41 ∧ 0 < d then some ((rel 1 D W).1, (rel 1 D W).2.tail, d - 1, 0, K, false)
    else if stg c = 0 ∨ (stg c = 1 ∧ bt K d.toNat = true) then none
    else some ((rel (stg c) D W).1, c :: (rel (stg c) D W).2, d, 0, (if stg c = 1 then ior K (ishl 1 d) else K), true)
def cgo (s : Int → Int) (n : Int) : Nat → List Int → List Int → Int → Int → Int → Bool → Bool × Int × List Int
  | 0, D, W, d, _, _, wt => if wt = true ∨ 0 < d then (false, n, []) else (true, n, (rel 1 D W).1)
  | m + 1, D, W, d, g, K, wt => match stc (s (n - ((m : Int) + 1))) D W d g K wt with
    | none => (false, n - ((m : Int) + 1), [])
    | some (D', W', d', g', K', wt') => cgo s n m D' W' d' g' K' wt'
/-- from place p on -/
def cat (s : Int → Int) (n p : Int) : List Int → List Int → Int → Int → Int → Bool → Bool × Int × List Int := cgo s n (n - p).toNat
theorem cat_s {s : Int → Int} {n p : Int} (h : p < n) (D W : List Int) (d g K : Int) (wt : Bool) : cat s n p D W d g K wt = (match stc (s p) D W d g K wt with
    | none => (false, p, [])
    | some (D', W', d', g', K', wt') => cat s n (p + 1) D' W' d' g' K' wt') := by
  unfold cat
  have e : (n - p).toNat = (n - (p + 1)).toNat + 1 := by omega
  rw [e, cgo]
  have e2 : n - (((n - (p + 1)).toNat : Int) + 1) = p := by omega
  rw [e2]
theorem cat_n {s : Int → Int} {n : Int} (D W : List Int) (d g K : Int) (wt : Bool) : cat s n n D W d g K wt = if wt = true ∨ 0 < d then (false, n, []) else (true, n, (rel 1 D W).1) := by
  unfold cat
  rw [show (n - n).toNat = 0 by omega, cgo]
/-- the two ways to look at a sign -/
def SH (s h : Int → Int) (n : Int) : Prop := ∀ p, 0 ≤ p → (h p < 0 ∨ (0 ≤ h p ∧ p < n ∧ p < 40)) ∧ (∀ c, 0 ≤ c → c ≤ 127 → (s p = c ↔ h p = c)) ∧ s p ≤ 255 ∧ (0 ≤ h p → h p ≤ 127)
theorem sh_e {s h : Int → Int} {n p : Int} (hs : SH s h n) (hp : 0 ≤ p) (h0 : 0 ≤ h p) : s p = h p ∧ p < n ∧ p < 40 := by
  obtain ⟨a, b, _, d⟩ := hs p hp
  refine ⟨(b (h p) h0 (d h0)).mpr rfl, ?_⟩
  omega
theorem rlw_app (D : List Int) : ∀ (w : List Int) (x : Int), rlw D (w ++ [x]) = -x :: rlw D w := by
  intro w
  induction w generalizing D with
  | nil => intro x; rfl
  | cons y w ih => intro x; exact ih (-y :: D) x
theorem rel_all {v : Int} {W : List Int} (hW : ∀ x t, W = x :: t → stg x < v) : ∀ (w D : List Int), (∀ x ∈ w, v ≤ stg x) → rel v D (w ++ W) = (rlw D w, W) := by
  intro w
  induction w with
  | nil =>
    intro D _
    cases W with
    | nil => rfl
    | cons x t =>
      show rel v D (x :: t) = (D, x :: t)
      rw [rel, if_neg (by have := hW x t rfl; omega)]
  | cons y w ih =>
    intro D h
    show rel v D (y :: (w ++ W)) = (rlw (-y :: D) w, W)
    rw [rel, if_pos (h y List.mem_cons_self)]
    exact ih _ (fun x hx => h x (List.mem_cons_of_mem _ hx))
/-- ends at a place, with so much written and so much waiting -/
def EN (s h : Int → Int) (n : Int) (l : Int) (k : Nat) (v p p2 : Int) (c D W : List Int) (g K : Int) : Prop := (p < p2 ∧ p2 ≤ n) ∧ ((c.length : Int) ≤ p2 - p) ∧ ∃ (D2 w : List Int) (g2 K2 : Int), cat s n p D W v g K true = cat s n p2 D2 (w ++ W) v g2 K2 false ∧ rlw D2 w = c ++ D ∧ (∀ x ∈ w, l ≤ stg x) ∧ ((g2 = 0 ∨ g2 = 3 ∨ ¬ dig (h p2)) ∧ (∀ i : Nat, (i : Int) < v → bt K2 i = bt K i)) ∧ (1 ≤ k → bt K2 v.toNat = bt K v.toNat) ∧ (k = 0 → bt K2 v.toNat = false → ¬ (h p2 = 60 ∨ h p2 = 62 ∨ h p2 = 61)) ∧ (k ≤ 2 → ¬ (h p2 = 42 ∨ h p2 = 47)) ∧ (k ≤ 1 → ¬ (h p2 = 43 ∨ h p2 = 45))
def RS1 (s h : Int → Int) (n : Int) (l : Int) (k : Nat) (v p : Int) (D W : List Int) (g K : Int) : Bool × Int × List Int → Prop
  | (true, p2, c) => EN s h n l k v p p2 c D W g K
  | (false, p2, _) => (p ≤ p2) ∧ cat s n p D W v g K true = (false, p2, [])
def low (v : Int) (W : List Int) : Prop := ∀ x t, W = x :: t → stg x < v
theorem low_w {a b : Int} {W : List Int} (h : low a W) (hab : a ≤ b) : low b W := fun x t e => by have := h x t e; omega
theorem low_c {x v : Int} {W : List Int} (h : stg x < v) : low v (x :: W) := fun y t e => by
  have e1 : x = y := (List.cons.inj e).1
  rw [← e1]; exact h
/-- nothing that can stand there -/
theorem no_thing {s h : Int → Int} {n p : Int} (hs : SH s h n) (hp : 0 ≤ p ∧ p ≤ n) (D W : List Int) {v g K : Int} (h1 : ¬ h p = 45) (h2 : ¬ (h p = 40 ∧ v < 4)) (h3 : ¬ (48 ≤ h p ∧ h p ≤ 57)) (h4 : ¬ (h p = 105 ∨ h p = 112 ∨ h p = 107 ∨ h p = 115 ∨ h p = 103 ∨ h p = 108 ∨ h p = 110 ∨ h p = 119)) : cat s n p D W v g K true = (false, p, []) := by
  by_cases c : p = n
  · subst c
    rw [cat_n, if_pos (Or.inl rfl)]
  · rw [cat_s (by omega)]
    have e := (hs p hp.1).2.1
    have q : ∀ c, 0 ≤ c → c ≤ 127 → ¬ h p = c → ¬ s p = c := fun c c0 c1 n e2 => n ((e c c0 c1).mp e2)
    have n3 : ¬ (48 ≤ s p ∧ s p ≤ 57) := fun h => h3 (by have := (e (s p) (by omega) (by omega)).mp rfl; omega)
    have n4 : ¬ (s p = 105 ∨ s p = 112 ∨ s p = 107 ∨ s p = 115 ∨ s p = 103 ∨ s p = 108 ∨ s p = 110 ∨ s p = 119) := fun h => h4 (by have := (e (s p) (by omega) (by omega)).mp rfl; omega)
    have n2 : ¬ (s p = 40 ∧ v < 4) := fun h => h2 ⟨(e 40 (by decide) (by decide)).mp h.1, h.2⟩
    unfold stc
    rw [if_pos rfl, if_neg (q 45 (by decide) (by decide) h1), if_neg n2, if_neg n3, if_neg n4]
theorem thing_num {s h : Int → Int} {n p : Int} (hs : SH s h n) (hp : 0 ≤ p) (D W : List Int) {v g K : Int} (h3 : 48 ≤ h p ∧ h p ≤ 57) : EN s h n 4 3 v p (pnm h p).1 [(pnm h p).2] D W g K := by
  obtain ⟨e0, n0, m0⟩ := sh_e hs hp (by omega)
  have st1 : cat s n p D W v g K true = cat s n (p + 1) ((h p - 48) :: D) W v 1 K false := by
    rw [cat_s n0, e0]
    unfold stc
    rw [if_pos rfl, if_neg (by omega), if_neg (by omega), if_pos h3]
  unfold pnm
  by_cases c1 : 48 ≤ h (p + 1) ∧ h (p + 1) ≤ 57
  · rw [if_pos c1]
    obtain ⟨e1, n1, m1⟩ := sh_e hs (p := p + 1) (by omega) (by omega)
    have st2 : cat s n (p + 1) ((h p - 48) :: D) W v 1 K false = cat s n (p + 2) (((h p - 48) * 10 + (h (p + 1) - 48)) :: D) W v 2 K false := by
      rw [cat_s n1, e1]
      unfold stc
      rw [if_neg (by decide), if_pos c1, if_neg (by decide)]
      rw [show p + 1 + 1 = p + 2 by omega]
      rfl
    by_cases c2 : 48 ≤ h (p + 2) ∧ h (p + 2) ≤ 57
    · rw [if_pos c2]
      obtain ⟨e2, n2, m2⟩ := sh_e hs (p := p + 2) (by omega) (by omega)
      have st3 : cat s n (p + 2) (((h p - 48) * 10 + (h (p + 1) - 48)) :: D) W v 2 K false = cat s n (p + 3) ((((h p - 48) * 10 + (h (p + 1) - 48)) * 10 + (h (p + 2) - 48)) :: D) W v 3 K false := by
        rw [cat_s n2, e2]
        unfold stc
        rw [if_neg (by decide), if_pos c2, if_neg (by decide)]
        rw [show p + 2 + 1 = p + 3 by omega]
        rfl
      refine ⟨⟨by show p < p + 3; omega, by show p + 3 ≤ n; omega⟩, by show ((1 : Nat) : Int) ≤ p + 3 - p; omega, _, [], 3, K, st1.trans (st2.trans st3), ?_, (fun x hx => by cases hx), ⟨Or.inr (Or.inl rfl), fun _ _ => rfl⟩, fun _ => rfl, (fun h => by cases h), fun h => by omega, fun h => by omega⟩
      show _ :: D = _ :: D
      congr 1
      show ((h p - 48) * 10 + (h (p + 1) - 48)) * 10 + (h (p + 2) - 48) = 10 * (10 * (h p - 48) + (h (p + 1) - 48)) + (h (p + 2) - 48)
      omega
    · rw [if_neg c2]
      refine ⟨⟨by show p < p + 2; omega, by show p + 2 ≤ n; omega⟩, by show ((1 : Nat) : Int) ≤ p + 2 - p; omega, _, [], 2, K, st1.trans st2, ?_, (fun x hx => by cases hx), ⟨Or.inr (Or.inr c2), fun _ _ => rfl⟩, fun _ => rfl, (fun h => by cases h), fun h => by omega, fun h => by omega⟩
      show _ :: D = _ :: D
      congr 1
      show (h p - 48) * 10 + (h (p + 1) - 48) = 10 * (h p - 48) + (h (p + 1) - 48)
      omega
  · rw [if_neg c1]
    exact ⟨⟨by show p < p + 1; omega, by show p + 1 ≤ n; omega⟩, by show ((1 : Nat) : Int) ≤ p + 1 - p; omega, _, [], 1, K, st1, rfl, (fun x hx => by cases hx), ⟨Or.inr (Or.inr c1), fun _ _ => rfl⟩, fun _ => rfl, (fun h => by cases h), fun h => by omega, fun h => by omega⟩
/-- behind a thing comes an operator: what waits and binds as strongly is written, it waits -/
theorem op_step {s h : Int → Int} {n p a v g K : Int} (hs : SH s h n) (hp : 0 ≤ p) (ha : h p = a) (h0 : 0 ≤ a) (hst : 1 ≤ stg a) (hnd : ¬ (48 ≤ a ∧ a ≤ 57)) (hn41 : ¬ a = 41) (hcmp : stg a = 1 → bt K v.toNat = false) {D W w : List Int} (hw : ∀ x ∈ w, stg a ≤ stg x) (hW : low (stg a) W) : cat s n p D (w ++ W) v g K false = cat s n (p + 1) (rlw D w) (a :: W) v 0 (if stg a = 1 then ior K (ishl 1 v) else K) true := by
  obtain ⟨e0, n0, m0⟩ := sh_e hs hp (by omega)
  rw [cat_s n0, e0, ha]
  unfold stc
  rw [if_neg (by decide), if_neg hnd, if_neg (fun h => hn41 h.1), if_neg (fun h => h.elim (fun h => by omega) (fun h => by rw [hcmp h.1] at h; cases h.2)), rel_all hW w D hw]
theorem rlw_snd {D w : List Int} {a : Int} : rlw D (w ++ [a]) = -a :: rlw D w := rlw_app D w a
theorem app3 (w : List Int) (a : Int) (W : List Int) : w ++ (a :: W) = (w ++ [a]) ++ W := by simp
/-- a row of things of one strength -/
theorem lp_en {s h : Int → Int} {n v : Int} (hs : SH s h n) (hv : 0 ≤ v ∧ v ≤ 4) {a b l : Int} {k : Nat} (hk : (k = 2 ∧ a = 42 ∧ b = 47 ∧ l = 3) ∨ (k = 1 ∧ a = 43 ∧ b = 45 ∧ l = 2)) {r : Int → Par} (hr : ∀ p res, r p = some res → 0 ≤ p → p ≤ n → ∀ (D W : List Int) (g K : Int), low (l + 1) W → RS1 s h n (l + 1) (k + 1) v p D W g K res) {p0 : Int} {D0 W : List Int} {g0 K0 : Int} (hW : low l W) (hp0 : 0 ≤ p0) : ∀ (f : Nat) (p : Int) (c : List Int) (res : Bool × Int × List Int), plp h a b r f p c = some res → (p0 < p ∧ p ≤ n) → ((c.length : Int) ≤ p - p0) → (∃ (D2 w : List Int) (g2 K2 : Int), cat s n p0 D0 W v g0 K0 true = cat s n p D2 (w ++ W) v g2 K2 false ∧ rlw D2 w = c ++ D0 ∧ (∀ x ∈ w, l ≤ stg x) ∧ ((g2 = 0 ∨ g2 = 3 ∨ ¬ dig (h p)) ∧ (∀ i : Nat, (i : Int) < v → bt K2 i = bt K0 i)) ∧ bt K2 v.toNat = bt K0 v.toNat ∧ (k ≤ 1 → ¬ (h p = 42 ∨ h p = 47))) → RS1 s h n l k v p0 D0 W g0 K0 res := by
  intro f
  induction f with
  | zero => intro p c res e; cases e
  | succ f ih =>
    intro p c res e hp hc hst
    rw [plp] at e
    by_cases c1 : h p = a ∨ h p = b
    · rw [if_pos c1] at e
      obtain ⟨D2, w, g2, K2, q1, q2, q3, ⟨q4, q5⟩, q6, q7⟩ := hst
      have sa : stg (h p) = l ∧ 0 ≤ h p ∧ ¬ (48 ≤ h p ∧ h p ≤ 57) ∧ ¬ h p = 41 ∧ ¬ stg (h p) = 1 := by
        rcases hk with ⟨_, ea, eb, el⟩ | ⟨_, ea, eb, el⟩ <;> rcases c1 with c1 | c1 <;> rw [c1] <;> subst ea <;> subst eb <;> subst el <;> decide
      have hop := op_step hs (a := h p) (v := v) (g := g2) (K := K2) (D := D2) (W := W) (w := w) (by omega) rfl sa.2.1 (by have := sa.1; rcases hk with ⟨_, _, _, el⟩ | ⟨_, _, _, el⟩ <;> omega) sa.2.2.1 sa.2.2.2.1 (fun h1 => absurd h1 sa.2.2.2.2) (by rw [sa.1]; exact q3) (by rw [sa.1]; exact hW)
      rw [if_neg sa.2.2.2.2, q2] at hop
      have hpn : p < n := (sh_e hs (by omega) sa.2.1).2.1
      cases hrr : r (p + 1) with
      | none => rw [hrr] at e; cases e
      | some r2 =>
        rw [hrr] at e
        have hh := hr (p + 1) r2 hrr (by omega) (by omega) (c ++ D0) (h p :: W) 0 K2 (low_c (by rw [sa.1]; omega))
        obtain ⟨ok, q, c2⟩ := r2
        cases ok with
        | false =>
          cases e
          obtain ⟨y1, y2⟩ := hh
          exact ⟨by omega, q1.trans (hop.trans y2)⟩
        | true =>
          obtain ⟨⟨z1, z2⟩, zl, D3, w3, g3, K3, z3, z4, z5, ⟨z6, z7⟩, z8, _, z10, _⟩ := hh
          refine ih q _ res e ⟨by omega, by omega⟩ ?_ ⟨D3, w3 ++ [h p], g3, K3, ?_, ?_, ?_, ⟨z6, fun i hi => (z7 i hi).trans (q5 i hi)⟩, (z8 (by omega)).trans q6, ?_⟩
          · simp only [List.length_cons, List.length_append]
            omega
          · rw [q1, hop, z3, app3]
          · rw [rlw_snd, z4]
            simp
          · intro x hx
            rw [List.mem_append] at hx
            rcases hx with hx | hx
            · have := z5 x hx; omega
            · have e2 : x = h p := by simpa using hx
              rw [e2, sa.1]; exact Int.le_refl l
          · intro hk1
            exact z10 (by omega)
    · rw [if_neg c1] at e
      cases e
      obtain ⟨D2, w, g2, K2, q1, q2, q3, q4, q6, q7⟩ := hst
      refine ⟨hp, hc, D2, w, g2, K2, q1, q2, q3, q4, fun _ => q6, fun h => ?_, fun h => ?_, fun h => ?_⟩
      · rcases hk with ⟨ek, _⟩ | ⟨ek, _⟩ <;> omega
      · rcases hk with ⟨ek, ea, eb, _⟩ | ⟨ek, _⟩
        · rw [ea, eb] at c1; exact c1
        · exact q7 (by omega)
      · rcases hk with ⟨ek, _⟩ | ⟨ek, ea, eb, _⟩
        · omega
        · rw [ea, eb] at c1; exact c1
theorem st_en {s h : Int → Int} {n v : Int} (hs : SH s h n) (hv : 0 ≤ v ∧ v ≤ 4) {a b l : Int} {k : Nat} (hk : (k = 2 ∧ a = 42 ∧ b = 47 ∧ l = 3) ∨ (k = 1 ∧ a = 43 ∧ b = 45 ∧ l = 2)) {r : Int → Par} (hr : ∀ p res, r p = some res → 0 ≤ p → p ≤ n → ∀ (D W : List Int) (g K : Int), low (l + 1) W → RS1 s h n (l + 1) (k + 1) v p D W g K res) {p : Int} {res : Bool × Int × List Int} (e : pst h a b r p = some res) (hp : 0 ≤ p ∧ p ≤ n) (D W : List Int) (g K : Int) (hW : low l W) : RS1 s h n l k v p D W g K res := by
  unfold pst at e
  cases hrr : r p with
  | none => rw [hrr] at e; cases e
  | some r2 =>
    rw [hrr] at e
    have hh := hr p r2 hrr hp.1 hp.2 D W g K (low_w hW (by omega))
    obtain ⟨ok, q, c2⟩ := r2
    cases ok with
    | false => cases e; exact hh
    | true =>
      obtain ⟨z1, zl, D3, w3, g3, K3, z3, z4, z5, z6, z8, _, z10, _⟩ := hh
      refine lp_en hs hv hk hr hW hp.1 50 q c2 res e z1 zl ⟨D3, w3, g3, K3, z3, z4, fun x hx => by have := z5 x hx; omega, z6, z8 (by omega), fun hk1 => z10 (by omega)⟩
theorem hd_en {s h : Int → Int} {n v : Int} (hs : SH s h n) (hv : 0 ≤ v ∧ v ≤ 4) {r : Int → Par} (hr : ∀ p res, r p = some res → 0 ≤ p → p ≤ n → ∀ (D W : List Int) (g K : Int), low 2 W → RS1 s h n 2 1 v p D W g K res) {p : Int} {res : Bool × Int × List Int} (e : phd h r p = some res) (hp : 0 ≤ p ∧ p ≤ n) (D W : List Int) (g K : Int) (hW : low 1 W) (hK : bt K v.toNat = false) : RS1 s h n 1 0 v p D W g K res := by
  unfold phd at e
  cases hrr : r p with
  | none => rw [hrr] at e; cases e
  | some r2 =>
    rw [hrr] at e
    have hh := hr p r2 hrr hp.1 hp.2 D W g K (low_w hW (by omega))
    obtain ⟨ok, q, c2⟩ := r2
    cases ok with
    | false => cases e; exact hh
    | true =>
      obtain ⟨z1, zl, D3, w3, g3, K3, z3, z4, z5, ⟨z6, z7⟩, z8, _, z10, z11⟩ := hh
      have zK := z8 (by omega)
      dsimp only at e
      by_cases c1 : h q = 60 ∨ h q = 62 ∨ h q = 61
      · rw [if_pos c1] at e
        have sa : stg (h q) = 1 ∧ 0 ≤ h q ∧ ¬ (48 ≤ h q ∧ h q ≤ 57) ∧ ¬ h q = 41 := by
          rcases c1 with c1 | c1 | c1 <;> rw [c1] <;> decide
        have hop := op_step hs (a := h q) (v := v) (g := g3) (K := K3) (D := D3) (W := W) (w := w3) (by omega) rfl sa.2.1 (by omega) sa.2.2.1 sa.2.2.2 (fun _ => zK.trans hK) (by rw [sa.1]; exact fun x hx => by have := z5 x hx; omega) (by rw [sa.1]; exact hW)
        rw [if_pos sa.1, z4] at hop
        have hqn : q < n := (sh_e hs (by omega) sa.2.1).2.1
        cases hr2 : r (q + 1) with
        | none => rw [hr2] at e; cases e
        | some r3 =>
          rw [hr2] at e
          have hh2 := hr (q + 1) r3 hr2 (by omega) (by omega) (c2 ++ D) (h q :: W) 0 (ior K3 (ishl 1 v)) (low_c (by rw [sa.1]; decide))
          obtain ⟨ok2, q2, c3⟩ := r3
          cases ok2 with
          | false =>
            cases e
            obtain ⟨y1, y2⟩ := hh2
            exact ⟨by omega, z3.trans (hop.trans y2)⟩
          | true =>
            cases e
            obtain ⟨y1, yl, D4, w4, g4, K4, y3, y4, y5, ⟨y6, y7⟩, y8, _, y10, y11⟩ := hh2
            refine ⟨⟨by omega, y1.2⟩, ?_, D4, w4 ++ [h q], g4, K4, ?_, ?_, fun x hx => ?_, ⟨y6, fun i hi => ?_⟩, fun h => by omega, fun _ hb => ?_, fun _ => y10 (by omega), fun _ => y11 (by omega)⟩
            · simp only [List.length_cons, List.length_append]
              omega
            · rw [z3, hop, y3, app3]
            · rw [rlw_snd, y4]
              simp
            · rw [List.mem_append] at hx
              rcases hx with hx | hx
              · have := y5 x hx; omega
              · have e2 : x = h q := by simpa using hx
                rw [e2, sa.1]; exact Int.le_refl 1
            · rw [y7 i hi, bt_or, z7 i hi, bt_shl (by omega) (by omega), decide_eq_false (show ¬ i = v.toNat by omega), Bool.or_false]
            · rw [y8 (by omega), bt_or, bt_shl (by omega) (by omega), decide_eq_true rfl, Bool.or_true] at hb
              cases hb
      · rw [if_neg c1] at e
        cases e
        exact ⟨z1, zl, D3, w3, g3, K3, z3, z4, fun x hx => by have := z5 x hx; omega, ⟨z6, z7⟩, fun h => by omega, fun _ _ => c1, fun _ => z10 (by omega), fun _ => z11 (by omega)⟩
theorem th_en {s h : Int → Int} {n v : Int} (hs : SH s h n) (hv : 0 ≤ v ∧ v ≤ 4) {rT rH : Int → Par} (hT : ∀ p res, rT p = some res → 0 ≤ p → p ≤ n → ∀ (D W : List Int) (g K : Int), RS1 s h n 4 3 v p D W g K res) (hH : v < 4 → ∀ p res, rH p = some res → 0 ≤ p → p ≤ n → ∀ (D W : List Int) (g K : Int), low 1 W → bt K (v + 1).toNat = false → RS1 s h n 1 0 (v + 1) p D W g K res) {p : Int} {res : Bool × Int × List Int} (e : pth h rT rH v p = some res) (hp : 0 ≤ p ∧ p ≤ n) (D W : List Int) (g K : Int) : RS1 s h n 4 3 v p D W g K res := by
  unfold pth at e
  by_cases c1 : h p = 45
  · rw [if_pos c1] at e
    obtain ⟨e0, n0, _⟩ := sh_e hs hp.1 (by omega)
    have st1 : cat s n p D W v g K true = cat s n (p + 1) D (256 :: W) v g K true := by
      rw [cat_s n0, e0]
      unfold stc
      rw [if_pos rfl, if_pos c1]
    cases hrr : rT (p + 1) with
    | none => rw [hrr] at e; cases e
    | some r2 =>
      rw [hrr] at e
      have hh := hT (p + 1) r2 hrr (by omega) (by omega) D (256 :: W) g K
      obtain ⟨ok, q, c2⟩ := r2
      cases ok with
      | false =>
        cases e
        obtain ⟨y1, y2⟩ := hh
        exact ⟨by omega, st1.trans y2⟩
      | true =>
        cases e
        obtain ⟨z1, zl, D3, w3, g3, K3, z3, z4, z5, z6, z8, _, _, _⟩ := hh
        refine ⟨⟨by omega, z1.2⟩, ?_, D3, w3 ++ [256], g3, K3, ?_, ?_, fun x hx => ?_, z6, z8, fun h => by omega, fun h => by omega, fun h => by omega⟩
        · simp only [List.length_cons]
          omega
        · rw [st1, z3, app3]
        · rw [rlw_snd, z4]; rfl
        · rw [List.mem_append] at hx
          rcases hx with hx | hx
          · exact z5 x hx
          · have e2 : x = 256 := by simpa using hx
            rw [e2]; decide
  · rw [if_neg c1] at e
    by_cases c2 : h p = 40 ∧ v < 4
    · rw [if_pos c2] at e
      obtain ⟨e0, n0, _⟩ := sh_e hs hp.1 (by omega)
      have st1 : cat s n p D W v g K true = cat s n (p + 1) D (40 :: W) (v + 1) g (iand K (ixor (ishl 1 (v + 1)) (-1))) true := by
        rw [cat_s n0, e0]
        unfold stc
        rw [if_pos rfl, if_neg c1, if_pos c2]
      have bk : ∀ i : Nat, (i : Int) ≤ 5 → bt (iand K (ixor (ishl 1 (v + 1)) (-1))) i = (bt K i && !decide (i = (v + 1).toNat)) := fun i hi => by
        rw [bt_and, bt_not _ (by omega), bt_shl (by omega) (by omega)]
      cases hrr : rH (p + 1) with
      | none => rw [hrr] at e; cases e
      | some r2 =>
        rw [hrr] at e
        have hh := hH c2.2 (p + 1) r2 hrr (by omega) (by omega) D (40 :: W) g (iand K (ixor (ishl 1 (v + 1)) (-1))) (low_c (by decide)) (by rw [bk _ (by omega), decide_eq_true rfl]; simp)
        obtain ⟨ok, q, c3⟩ := r2
        cases ok with
        | false =>
          cases e
          obtain ⟨y1, y2⟩ := hh
          exact ⟨by omega, st1.trans y2⟩
        | true =>
          dsimp only at e
          obtain ⟨z1, zl, D3, w3, g3, K3, z3, z4, z5, ⟨z6, z7⟩, _, z9, z10, z11⟩ := hh
          by_cases c4 : h q = 41
          · rw [if_pos c4] at e
            cases e
            obtain ⟨e1, n1, _⟩ := sh_e hs (p := q) (by omega) (by omega)
            have st2 : cat s n q D3 (w3 ++ (40 :: W)) (v + 1) g3 K3 false = cat s n (q + 1) (rlw D3 w3) W v 0 K3 false := by
              rw [cat_s n1, e1]
              unfold stc
              rw [if_neg (by decide), if_neg (by omega), if_pos ⟨c4, by omega⟩, rel_all (W := 40 :: W) (low_c (by decide)) w3 D3 z5]
              rw [show v + 1 - 1 = v by omega]
              rfl
            refine ⟨⟨by omega, by omega⟩, by omega, rlw D3 w3, [], 0, K3, ?_, ?_, (fun x hx => by cases hx), ⟨Or.inl rfl, fun i hi => ?_⟩, fun _ => ?_, fun h => by omega, fun h => by omega, fun h => by omega⟩
            · rw [st1, z3, st2]; rfl
            · exact z4
            · rw [z7 i (by omega), bk i (by omega), decide_eq_false (show ¬ i = (v + 1).toNat by omega)]; simp
            · rw [z7 v.toNat (by omega), bk v.toNat (by omega), decide_eq_false (show ¬ v.toNat = (v + 1).toNat by omega)]; simp
          · rw [if_neg c4] at e
            cases e
            refine ⟨by omega, st1.trans (z3.trans ?_)⟩
            by_cases cn : q = n
            · subst cn
              rw [cat_n, if_pos (Or.inr (by omega))]
            · rw [cat_s (by omega)]
              have en := (hs q (by omega)).2.1
              have s255 := (hs q (by omega)).2.2.1
              have nd : 48 ≤ s q ∧ s q ≤ 57 → g3 = 0 ∨ g3 = 3 := fun hd => by
                have := (en (s q) (by omega) (by omega)).mp rfl
                rcases z6 with z6 | z6 | z6
                · exact Or.inl z6
                · exact Or.inr z6
                · exact absurd (show dig (h q) from by unfold dig; omega) z6
              have n41 : ¬ (s q = 41 ∧ 0 < v + 1) := fun h => c4 ((en 41 (by decide) (by decide)).mp h.1)
              have nop : ¬ (48 ≤ s q ∧ s q ≤ 57) → stg (s q) = 0 ∨ (stg (s q) = 1 ∧ bt K3 (v + 1).toNat = true) := fun _ => by
                by_cases b42 : s q = 42
                · exact absurd (Or.inl ((en 42 (by decide) (by decide)).mp b42)) (z10 (by omega))
                · by_cases b47 : s q = 47
                  · exact absurd (Or.inr ((en 47 (by decide) (by decide)).mp b47)) (z10 (by omega))
                  · by_cases b43 : s q = 43
                    · exact absurd (Or.inl ((en 43 (by decide) (by decide)).mp b43)) (z11 (by omega))
                    · by_cases b45 : s q = 45
                      · exact absurd (Or.inr ((en 45 (by decide) (by decide)).mp b45)) (z11 (by omega))
                      · by_cases b60 : s q = 60 ∨ s q = 61 ∨ s q = 62
                        · have hb : bt K3 (v + 1).toNat = true := by
                            cases hbb : bt K3 (v + 1).toNat with
                            | true => rfl
                            | false =>
                              refine absurd ?_ (z9 rfl hbb)
                              rcases b60 with b | b | b
                              · exact Or.inl ((en 60 (by decide) (by decide)).mp b)
                              · exact Or.inr (Or.inr ((en 61 (by decide) (by decide)).mp b))
                              · exact Or.inr (Or.inl ((en 62 (by decide) (by decide)).mp b))
                          refine Or.inr ⟨?_, hb⟩
                          rcases b60 with b | b | b <;> rw [b] <;> decide
                        · refine Or.inl ?_
                          unfold stg
                          rw [if_neg b42, if_neg b43, if_neg b45, if_neg b47, if_neg (fun h => b60 (Or.inl h)), if_neg (fun h => b60 (Or.inr (Or.inl h))), if_neg (fun h => b60 (Or.inr (Or.inr h))), if_neg (by omega)]
              unfold stc
              rw [if_neg (by decide)]
              by_cases cd : 48 ≤ s q ∧ s q ≤ 57
              · rw [if_pos cd, if_pos (nd cd)]
              · rw [if_neg cd, if_neg n41, if_pos (nop cd)]
    · rw [if_neg c2] at e
      by_cases c3 : 48 ≤ h p ∧ h p ≤ 57
      · rw [if_pos c3] at e
        cases e
        exact thing_num hs hp.1 D W c3
      · rw [if_neg c3] at e
        by_cases c4 : h p = 105 ∨ h p = 112 ∨ h p = 107 ∨ h p = 115 ∨ h p = 103 ∨ h p = 108 ∨ h p = 110 ∨ h p = 119
        · rw [if_pos c4] at e
          cases e
          obtain ⟨e0, n0, _⟩ := sh_e hs hp.1 (by omega)
          refine ⟨⟨by omega, by omega⟩, by show ((1 : Nat) : Int) ≤ p + 1 - p; omega, -(h p) :: D, [], 0, K, ?_, rfl, (fun x hx => by cases hx), ⟨Or.inl rfl, fun _ _ => rfl⟩, fun _ => rfl, fun h => by omega, fun h => by omega, fun h => by omega⟩
          rw [cat_s n0, e0]
          unfold stc
          rw [if_pos rfl, if_neg c1, if_neg c2, if_neg c3, if_pos c4]
          rfl
        · rw [if_neg c4] at e
          cases e
          exact ⟨Int.le_refl _, no_thing hs hp D W c1 c2 c3 c4⟩
def lev (k : Nat) : Int := if k = 0 then 1 else if k = 1 then 2 else if k = 2 then 3 else 4
theorem pg_en {s h : Int → Int} {n : Int} (hs : SH s h n) : ∀ (d : Nat) (k : Nat) (v p : Int) (res : Bool × Int × List Int), k ≤ 3 → (0 ≤ v ∧ v ≤ 4) → pg h d k v p = some res → (0 ≤ p ∧ p ≤ n) → ∀ (D W : List Int) (g K : Int), (k ≤ 2 → low (lev k) W) → (k = 0 → bt K v.toNat = false) → RS1 s h n (lev k) k v p D W g K res := by
  intro d
  induction d with
  | zero => intro k v p res _ _ e; cases e
  | succ d ih =>
    intro k v p res hk hv e hp D W g K hW hK
    match k, hk with
    | 0, _ =>
      exact hd_en hs hv (r := pg h d 1 v) (fun p res e h0 h1 D W g K hl => ih 1 v p res (by omega) hv e ⟨h0, h1⟩ D W g K (fun _ => hl) (fun h => by omega)) e hp D W g K (hW (by omega)) (hK rfl)
    | 1, _ =>
      exact st_en hs hv (k := 1) (l := 2) (a := 43) (b := 45) (Or.inr ⟨rfl, rfl, rfl, rfl⟩) (r := pg h d 2 v) (fun p res e h0 h1 D W g K hl => ih 2 v p res (by omega) hv e ⟨h0, h1⟩ D W g K (fun _ => hl) (fun h => by omega)) e hp D W g K (hW (by omega))
    | 2, _ =>
      exact st_en hs hv (k := 2) (l := 3) (a := 42) (b := 47) (Or.inl ⟨rfl, rfl, rfl, rfl⟩) (r := pg h d 3 v) (fun p res e h0 h1 D W g K hl => ih 3 v p res (by omega) hv e ⟨h0, h1⟩ D W g K (fun h => by omega) (fun h => by omega)) e hp D W g K (hW (by omega))
    | 3, _ =>
      exact th_en hs hv (rT := pg h d 3 v) (rH := pg h d 0 (v + 1)) (fun p res e h0 h1 D W g K => ih 3 v p res (by omega) hv e ⟨h0, h1⟩ D W g K (fun h => by omega) (fun h => by omega)) (fun h4 p res e h0 h1 D W g K hl hb => ih 0 (v + 1) p res (by omega) (by omega) e ⟨h0, h1⟩ D W g K (fun _ => hl) (fun _ => hb)) e hp D W g K
/-- the whole text: both say the same, and what is to be done is the same -/
theorem pg_top {s h : Int → Int} {n : Int} (hs : SH s h n) (hn : 1 ≤ n) {ok : Bool} {q : Int} {c : List Int} (e : pg h 100 0 0 0 = some (ok, q, c)) : (ok = true ∧ q = n ∧ (c.length : Int) ≤ n ∧ cat s n 0 [] [] 0 0 0 true = (true, n, c)) ∨ (¬ (ok = true ∧ n ≤ q) ∧ q ≤ n ∧ 0 ≤ q ∧ cat s n 0 [] [] 0 0 0 true = (false, q, [])) := by
  have hh := pg_en hs 100 0 0 0 (ok, q, c) (by decide) (by decide) e ⟨by decide, by omega⟩ [] [] 0 0 (fun _ => fun x t e => by cases e) (fun _ => by decide)
  cases ok with
  | false =>
    obtain ⟨y1, y2⟩ := hh
    refine Or.inr ⟨(fun h => by cases h.1), ?_, y1, y2⟩
    -- the place of a fault is within the text
    have gen : ∀ (m : Nat) (D W : List Int) (d g K : Int) (wt : Bool) (q : Int) (x : List Int), cgo s n m D W d g K wt = (false, q, x) → q ≤ n := by
      intro m
      induction m with
      | zero =>
        intro D W d g K wt q x e
        rw [cgo] at e
        split at e
        · cases e; exact Int.le_refl _
        · cases e
      | succ m ih =>
        intro D W d g K wt q x e
        rw [cgo] at e
        split at e
        · cases e; omega
        · exact ih _ _ _ _ _ _ _ _ e
    exact gen _ _ _ _ _ _ _ _ _ y2
  | true =>
    obtain ⟨z1, zl, D3, w3, g3, K3, z3, z4, z5, ⟨z6, z7⟩, _, z9, z10, z11⟩ := hh
    rw [List.append_nil] at z3 z4
    by_cases cn : q = n
    · subst cn
      refine Or.inl ⟨rfl, rfl, by omega, ?_⟩
      rw [z3, cat_n, if_neg (fun h => h.elim (fun h => by cases h) (fun h => by omega))]
      have := rel_all (v := 1) (W := []) (fun x t e => by cases e) w3 D3 z5
      rw [List.append_nil] at this
      rw [this, z4]
    · refine Or.inr ⟨fun h => by omega, by omega, by omega, ?_⟩
      rw [z3, cat_s (by omega)]
      have en := (hs q (by omega)).2.1
      have s255 := (hs q (by omega)).2.2.1
      have nd : 48 ≤ s q ∧ s q ≤ 57 → g3 = 0 ∨ g3 = 3 := fun hd => by
        have := (en (s q) (by omega) (by omega)).mp rfl
        rcases z6 with z6 | z6 | z6
        · exact Or.inl z6
        · exact Or.inr z6
        · exact absurd (show dig (h q) from by unfold dig; omega) z6
      have n41 : ¬ (s q = 41 ∧ (0 : Int) < 0) := fun h => by omega
      have nop : ¬ (48 ≤ s q ∧ s q ≤ 57) → stg (s q) = 0 ∨ (stg (s q) = 1 ∧ bt K3 (0 : Int).toNat = true) := fun _ => by
        by_cases b42 : s q = 42
        · exact absurd (Or.inl ((en 42 (by decide) (by decide)).mp b42)) (z10 (by omega))
        · by_cases b47 : s q = 47
          · exact absurd (Or.inr ((en 47 (by decide) (by decide)).mp b47)) (z10 (by omega))
          · by_cases b43 : s q = 43
            · exact absurd (Or.inl ((en 43 (by decide) (by decide)).mp b43)) (z11 (by omega))
            · by_cases b45 : s q = 45
              · exact absurd (Or.inr ((en 45 (by decide) (by decide)).mp b45)) (z11 (by omega))
              · by_cases b60 : s q = 60 ∨ s q = 61 ∨ s q = 62
                · have hb : bt K3 (0 : Int).toNat = true := by
                    cases hbb : bt K3 (0 : Int).toNat with
                    | true => rfl
                    | false =>
                      refine absurd ?_ (z9 rfl hbb)
                      rcases b60 with b | b | b
                      · exact Or.inl ((en 60 (by decide) (by decide)).mp b)
                      · exact Or.inr (Or.inr ((en 61 (by decide) (by decide)).mp b))
                      · exact Or.inr (Or.inl ((en 62 (by decide) (by decide)).mp b))
                  refine Or.inr ⟨?_, hb⟩
                  rcases b60 with b | b | b <;> rw [b] <;> decide
                · refine Or.inl ?_
                  unfold stg
                  rw [if_neg b42, if_neg b43, if_neg b45, if_neg b47, if_neg (fun h => b60 (Or.inl h)), if_neg (fun h => b60 (Or.inr (Or.inl h))), if_neg (fun h => b60 (Or.inr (Or.inr h))), if_neg (by omega)]
      unfold stc
      rw [if_neg (by decide)]
      by_cases cd : 48 ≤ s q ∧ s q ≤ 57
      · rw [if_pos cd, if_pos (nd cd)]
      · rw [if_neg cd, if_neg n41, if_pos (nop cd)]
/-! THE CLASS READS THE RULE -/
def pre (f : Nat → Int) : Nat → List Int
  | 0 => []
  | n + 1 => f n :: pre f n
theorem pre_len (f : Nat → Int) : ∀ n, (pre f n).length = n := by
  intro n
  induction n with
  | zero => rfl
  | succ n ih => rw [pre, List.length_cons, ih]
theorem pre_eq {f g : Nat → Int} : ∀ {n : Nat}, (∀ i, i < n → f i = g i) → pre f n = pre g n := by
  intro n
  induction n with
  | zero => intro _; rfl
  | succ n ih => intro h; rw [pre, pre, h n (by omega), ih (fun i hi => h i (by omega))]
/-- the list stands in a row -/
def SR (f : Nat → Int) (D : List Int) : Prop := D = pre f D.length
theorem sr_c {f : Nat → Int} {x : Int} {D : List Int} (h : SR f (x :: D)) : f D.length = x ∧ SR f D := by
  unfold SR at h
  rw [List.length_cons, pre] at h
  exact ⟨((List.cons.inj h).1).symm, (List.cons.inj h).2⟩
theorem sr_push {w u : Wd} {c : Nat} {v : Int} {D : List Int} (h : SR (w c) D) (e : u = st w c D.length v) : SR (u c) (v :: D) := by
  unfold SR
  rw [List.length_cons, pre, e, st_eq]
  congr 1
  rw [show pre (st w c D.length v c) D.length = pre (w c) D.length from pre_eq (fun i hi => st_k (by omega))]
  exact h
def WS0 (w : Wd) (D W : List Int) (d K : Int) (wt : Bool) : Prop := (w 19 5 = D.length ∧ SR (w 21) D) ∧ (w 19 6 = W.length ∧ SR (w 22) W) ∧ (w 19 7 = d ∧ w 19 9 = K ∧ w 19 10 = (if wt = true then 1 else 0)) ∧ (∀ x ∈ W, 0 ≤ x ∧ x ≤ 256) ∧ 0 ≤ d ∧ d ≤ 4
def NB (D : List Int) (g : Int) : Prop := (g = 1 → ∃ x D', D = x :: D' ∧ 0 ≤ x ∧ x ≤ 9) ∧ (g = 2 → ∃ x D', D = x :: D' ∧ 0 ≤ x ∧ x ≤ 99) ∧ 0 ≤ g ∧ g ≤ 3
theorem nb_0 (D : List Int) : NB D 0 := ⟨(fun e => by omega), (fun e => by omega), by decide, by decide⟩
def WS (w : Wd) (D W : List Int) (d g K : Int) (wt : Bool) : Prop := WS0 w D W d K wt ∧ w 19 8 = g ∧ NB D g
/-- cells of the reader alone are others -/
def WX (x w : Wd) : Prop := (∀ c k, c ≠ 19 → c ≠ 21 → c ≠ 22 → w c k = x c k) ∧ ∀ k, k ≤ 4 → w 19 k = x 19 k
theorem wx_st {x w u : Wd} {c k : Nat} {z : Int} (h : WX x w) (e : u = st w c k z) (hc : c = 21 ∨ c = 22 ∨ (c = 19 ∧ 5 ≤ k)) : WX x u := by
  refine ⟨fun c' k' h1 h2 h3 => ?_, fun k' hk => ?_⟩
  · rw [e, st_c (by omega)]; exact h.1 c' k' h1 h2 h3
  · rw [e]; unfold st; rw [if_neg (by omega)]; exact h.2 k' hk
theorem wx_tr {x w u : Wd} (h : WX x w) (h2 : WX w u) : WX x u := ⟨fun c k h1 h3 h4 => (h2.1 c k h1 h3 h4).trans (h.1 c k h1 h3 h4), fun k hk => (h2.2 k hk).trans (h.2 k hk)⟩
theorem wx_r (w : Wd) : WX w w := ⟨fun _ _ _ _ _ => rfl, fun _ _ => rfl⟩
theorem stg_e (c : Int) (w : Wd) : f_W_strength c w = some (stg c, w) := by
  unfold f_W_strength stg
  by_cases h1 : c = 42
  · rw [if_pos h1, if_pos h1]
  · rw [if_neg h1, if_neg h1]
    by_cases h2 : c = 43
    · rw [if_pos h2, if_pos h2]
    · rw [if_neg h2, if_neg h2]
      by_cases h3 : c = 45
      · rw [if_pos h3, if_pos h3]
      · rw [if_neg h3, if_neg h3]
        by_cases h4 : c = 47
        · rw [if_pos h4, if_pos h4]
        · rw [if_neg h4, if_neg h4]
          by_cases h5 : c = 60
          · rw [if_pos h5, if_pos h5]
          · rw [if_neg h5, if_neg h5]
            by_cases h6 : c = 61
            · rw [if_pos h6, if_pos h6]
            · rw [if_neg h6, if_neg h6]
              by_cases h7 : c = 62
              · rw [if_pos h7, if_pos h7]
              · rw [if_neg h7, if_neg h7]
                by_cases h8 : c = 256
                · rw [if_pos h8, if_pos h8]
                · rw [if_neg h8, if_neg h8]
theorem ltr_pc (c : Int) (w : Wd) : PC (f_W_isLetter c w) (fun r u => u = w ∧ r = if c = 105 ∨ c = 112 ∨ c = 107 ∨ c = 115 ∨ c = 103 ∨ c = 108 ∨ c = 110 ∨ c = 119 then 1 else 0) := by
  unfold f_W_isLetter
  have y : ∀ {c : Int}, (c = 105 ∨ c = 112 ∨ c = 107 ∨ c = 115 ∨ c = 103 ∨ c = 108 ∨ c = 110 ∨ c = 119) → PC (some ((1 : Int), w)) (fun r u => u = w ∧ r = if c = 105 ∨ c = 112 ∨ c = 107 ∨ c = 115 ∨ c = 103 ∨ c = 108 ∨ c = 110 ∨ c = 119 then 1 else 0) := fun h => pc_some ⟨rfl, by rw [if_pos h]⟩
  have z : ∀ {c : Int}, ¬ (c = 105 ∨ c = 112 ∨ c = 107 ∨ c = 115 ∨ c = 103 ∨ c = 108 ∨ c = 110 ∨ c = 119) → PC (some ((0 : Int), w)) (fun r u => u = w ∧ r = if c = 105 ∨ c = 112 ∨ c = 107 ∨ c = 115 ∨ c = 103 ∨ c = 108 ∨ c = 110 ∨ c = 119 then 1 else 0) := fun h => pc_some ⟨rfl, by rw [if_neg h]⟩
  refine pc_ite (fun h => z (by omega)) (fun _ => ?_)
  refine pc_ite (fun h => y (by omega)) (fun _ => ?_)
  refine pc_ite (fun h => z (by omega)) (fun _ => ?_)
  refine pc_ite (fun h => y (by omega)) (fun _ => ?_)
  refine pc_ite (fun h => z (by omega)) (fun _ => ?_)
  refine pc_ite (fun h => y (by omega)) (fun _ => ?_)
  refine pc_ite (fun h => y (by omega)) (fun _ => ?_)
  refine pc_ite (fun h => z (by omega)) (fun _ => ?_)
  refine pc_ite (fun h => y (by omega)) (fun _ => ?_)
  refine pc_ite (fun h => z (by omega)) (fun _ => ?_)
  refine pc_ite (fun h => y (by omega)) (fun _ => ?_)
  refine pc_ite (fun h => z (by omega)) (fun _ => ?_)
  refine pc_ite (fun h => z (by omega)) (fun _ => ?_)
  refine pc_ite (fun h => y (by omega)) (fun _ => ?_)
  refine pc_ite (fun h => z (by omega)) (fun _ => ?_)
  refine pc_ite (fun h => z (by omega)) (fun _ => ?_)
  refine pc_ite (fun h => z (by omega)) (fun _ => ?_)
  exact pc_ite (fun h => y (by omega)) (fun _ => pc_none)
theorem wr_pc {w : Wd} {D W : List Int} {d K v : Int} {wt : Bool} (h : WS0 w D W d K wt) (hl : D.length < 40) : PC (f_W_write v w) (fun _ u => (u 19 5 = ((v :: D).length : Int) ∧ SR (u 21) (v :: D)) ∧ WX w u ∧ ∀ c k, c ≠ 21 → ¬ (c = 19 ∧ k = 5) → u c k = w c k) := by
  unfold f_W_write
  obtain ⟨⟨h1, h2⟩, _⟩ := h
  have w1 := w32_sp ((D.length : Int) + 1)
  refine pc_ite (fun c => by exfalso; omega) (fun c => ?_)
  refine pc_gd (fun _ => ?_)
  rw [h1]
  have el : ((D.length : Int)).toNat = D.length := by omega
  rw [el]
  refine pc_lw (fun u1 e1 => ?_)
  have y5 : u1 19 5 = D.length := by rw [e1, st_c (by decide)]; exact h1
  rw [y5]
  refine pc_lw (fun u2 e2 => pc_some ⟨⟨?_, ?_⟩, wx_st (wx_st (wx_r w) e1 (Or.inl rfl)) e2 (by omega), fun c k hc hk => ?_⟩)
  · rw [e2, st_eq, w32_id (by omega)]; rfl
  · rw [e2, st_row (by decide)]; exact sr_push h2 e1
  · rw [e2]; unfold st; rw [if_neg hk, e1]; unfold st; rw [if_neg (fun e => hc e.1)]
theorem aw_pc {w : Wd} {D W : List Int} {d g K v : Int} {wt : Bool} (h : WS w D W d g K wt) (hl : W.length < 40) (hv : 0 ≤ v ∧ v ≤ 256) : PC (f_W_await v w) (fun _ u => WS u D (v :: W) d g K wt ∧ WX w u) := by
  unfold f_W_await
  obtain ⟨⟨⟨h1, h2⟩, ⟨h3, h4⟩, ⟨h5, h7, h8⟩, h9, h10⟩, h6, hnb⟩ := h
  have w1 := w32_sp ((W.length : Int) + 1)
  refine pc_ite (fun c => by exfalso; omega) (fun c => ?_)
  refine pc_gd (fun _ => ?_)
  rw [h3]
  have el : ((W.length : Int)).toNat = W.length := by omega
  rw [el]
  refine pc_lw (fun u1 e1 => ?_)
  have y6 : u1 19 6 = W.length := by rw [e1, st_c (by decide)]; exact h3
  rw [y6]
  refine pc_lw (fun u2 e2 => pc_some ⟨⟨⟨⟨?_, ?_⟩, ⟨?_, ?_⟩, ⟨?_, ?_, ?_⟩, fun x hx => ?_, h10⟩, ?_, hnb⟩, wx_st (wx_st (wx_r w) e1 (Or.inr (Or.inl rfl))) e2 (by omega)⟩)
  · rw [e2, st_k (by decide), e1, st_c (by decide)]; exact h1
  · rw [e2, st_row (by decide), e1, st_row (by decide)]; exact h2
  · rw [e2, st_eq, w32_id (by omega)]; rfl
  · rw [e2, st_row (by decide)]; exact sr_push h4 e1
  · rw [e2, st_k (by decide), e1, st_c (by decide)]; exact h5
  · rw [e2, st_k (by decide), e1, st_c (by decide)]; exact h7
  · rw [e2, st_k (by decide), e1, st_c (by decide)]; exact h8
  · rw [List.mem_cons] at hx
    rcases hx with e | hx
    · rw [e]; exact hv
    · exact h9 x hx
  · rw [e2, st_k (by decide), e1, st_c (by decide)]; exact h6
theorem rel_len (v : Int) : ∀ (W D : List Int), (rel v D W).1.length + (rel v D W).2.length = D.length + W.length := by
  intro W
  induction W with
  | nil => intro D; rfl
  | cons x W ih =>
    intro D
    rw [rel]
    by_cases c : v ≤ stg x
    · rw [if_pos c, ih]; simp only [List.length_cons]; omega
    · rw [if_neg c]
theorem rl_pc {v d K : Int} {wt : Bool} : ∀ (n : Nat) (W D : List Int) {w : Wd} {v2 : Int}, v2 = (W.length : Int) - 1 → WS0 w D W d K wt → D.length + W.length ≤ 40 → PC (f_W_release_7 n v v2 w) (fun _ u => WS0 u (rel v D W).1 (rel v D W).2 d K wt ∧ WX w u ∧ u 19 8 = w 19 8) := by
  intro n
  induction n with
  | zero => intros; exact pc_none
  | succ n ih =>
    intro W D w v2 hv h hl
    rw [f_W_release_7]
    cases W with
    | nil =>
      simp only [List.length_nil] at hv
      exact pc_ite (fun _ => pc_some ⟨h, wx_r w, rfl⟩) (fun c => by exfalso; omega)
    | cons x W =>
      simp only [List.length_cons] at hl hv
      have h' := h
      obtain ⟨⟨h1, h2⟩, ⟨h3, h4⟩, ⟨h5, h7, h8⟩, h9, h10⟩ := h
      obtain ⟨hx, hW⟩ := sr_c h4
      refine pc_ite (fun c => by exfalso; omega) (fun c => ?_)
      refine pc_gd (fun _ => ?_)
      have e2 : v2.toNat = W.length := by omega
      rw [e2, hx, stg_e, jc_s, rel]
      refine pc_ite (fun c1 => ?_) (fun c1 => ?_)
      · rw [if_neg (by omega)]
        exact pc_some ⟨h', wx_r w, rfl⟩
      · rw [if_pos (by omega)]
        refine pc_gd (fun _ => ?_)
        have bx := h9 x List.mem_cons_self
        have w1 := w32_sp (-x)
        rw [hx, show w32 (-x) = -x by omega]
        refine pc_call (wr_pc (v := -x) h' (by omega)) (fun r4 u5 q => ?_)
        obtain ⟨⟨q1, q2⟩, q3, q4⟩ := q
        refine pc_lw (fun u6 e6 => ?_)
        have w2 := w32_sp (v2 + -1)
        refine pc_let (fun x7 e7 => ?_)
        have e8 : x7 = (W.length : Int) - 1 := by omega
        have f : ∀ c k, c ≠ 21 → ¬ (c = 19 ∧ (k = 5 ∨ k = 6)) → u6 c k = w c k := fun c k hc hk => by
          rw [e6]; unfold st; rw [if_neg (by omega)]; exact q4 c k hc (by omega)
        refine pc_w (ih W (-x :: D) (w := u6) e8 ⟨⟨?_, ?_⟩, ⟨?_, ?_⟩, ⟨?_, ?_, ?_⟩, fun y hy => h9 y (List.mem_cons_of_mem _ hy), h10⟩ ?_) (fun r u p => ⟨p.1, wx_tr (wx_st q3 e6 (by omega)) p.2.1, p.2.2.trans (f 19 8 (by decide) (by decide))⟩)
        · rw [e6, st_k (by decide)]; exact q1
        · rw [e6, st_row (by decide)]; exact q2
        · rw [e6, st_eq]; omega
        · rw [show u6 22 = w 22 from funext fun k => f 22 k (by decide) (by omega)]; exact hW
        · rw [f 19 7 (by decide) (by decide)]; exact h5
        · rw [f 19 9 (by decide) (by decide)]; exact h7
        · rw [f 19 10 (by decide) (by decide)]; exact h8
        · simp only [List.length_cons]; omega
theorem rel_pc {v d K : Int} {wt : Bool} {W D : List Int} {w : Wd} (h : WS0 w D W d K wt) (hl : D.length + W.length ≤ 40) : PC (f_W_release v w) (fun _ u => WS0 u (rel v D W).1 (rel v D W).2 d K wt ∧ WX w u ∧ u 19 8 = w 19 8) := by
  unfold f_W_release
  have w1 := w32_sp (w 19 6 - 1)
  refine pc_let (fun x1 e1 => ?_)
  have e : x1 = (W.length : Int) - 1 := by have := h.2.1.1; omega
  exact rl_pc FU W D e h hl
def stO (o : Option (List Int × List Int × Int × Int × Int × Bool)) (w : Wd) (r : Int) (u : Wd) : Prop := match o with
  | none => r = 0 ∧ WX w u
  | some (D, W, d, g, K, wt) => r = 1 ∧ WS u D W d g K wt ∧ WX w u
theorem tt_pc {c : Int} {w : Wd} {D W : List Int} {d g K : Int} (h : WS w D W d g K true) (hl : 0 ≤ c → D.length + W.length < 40) (hc : -2 ≤ c ∧ c ≤ 255) : PC (f_W_takeThing c w) (fun r u => stO (stc c D W d g K true) w r u) := by
  have h' := h
  obtain ⟨⟨⟨h1, h2⟩, ⟨h3, h4⟩, ⟨h5, h7, h8⟩, h9, h10⟩, h6, hnb⟩ := h
  -- a number's digit or a letter
  have fin : ∀ (v2 v : Int), ¬ c = 45 → ¬ (c = 40 ∧ d < 4) → (48 ≤ c ∧ c ≤ 57 ∧ v2 = 1 ∧ v = c - 48) ∨ (¬ (48 ≤ c ∧ c ≤ 57) ∧ (c = 105 ∨ c = 112 ∨ c = 107 ∨ c = 115 ∨ c = 103 ∨ c = 108 ∨ c = 110 ∨ c = 119) ∧ v2 = 0 ∧ v = -c) → PC (f_W_takeThing_108 v2 v w) (fun r u => stO (stc c D W d g K true) w r u) := by
    intro v2 v n45 n40 hv
    have hl2 := hl (by omega)
    have es : stc c D W d g K true = some (v :: D, W, d, v2, K, false) := by
      unfold stc
      rw [if_pos rfl, if_neg n45, if_neg n40]
      rcases hv with ⟨a1, a2, a3, a4⟩ | ⟨a1, a2, a3, a4⟩
      · rw [if_pos ⟨a1, a2⟩, a3, a4]
      · rw [if_neg a1, if_pos a2, a3, a4]
    rw [es]
    unfold f_W_takeThing_108
    refine pc_call (wr_pc (v := v) h'.1 (by omega)) (fun r1 u2 q => ?_)
    obtain ⟨⟨q1, q2⟩, q3, q4⟩ := q
    have nx : PC (f_W_takeThing_121 v2 u2) (fun r u => stO (some (v :: D, W, d, v2, K, false)) w r u) := by
      unfold f_W_takeThing_121
      refine pc_lw (fun u3 e3 => ?_)
      refine pc_lw (fun u4 e4 => ?_)
      have f : ∀ c k, c ≠ 21 → ¬ (c = 19 ∧ (k = 5 ∨ k = 8 ∨ k = 10)) → u4 c k = w c k := fun c k hc hk => by
        rw [e4]; unfold st; rw [if_neg (by omega), e3]; unfold st; rw [if_neg (by omega)]; exact q4 c k hc (by omega)
      refine pc_some ⟨rfl, ⟨⟨⟨?_, ?_⟩, ⟨?_, ?_⟩, ⟨?_, ?_, ?_⟩, h9, h10⟩, ?_, fun e => ?_, fun e => ?_, ?_, ?_⟩, wx_st (wx_st q3 e3 (by omega)) e4 (by omega)⟩
      · rw [e4, st_k (by decide), e3, st_k (by decide)]; exact q1
      · rw [e4, st_row (by decide), e3, st_row (by decide)]; exact q2
      · rw [f 19 6 (by decide) (by decide)]; exact h3
      · rw [show u4 22 = w 22 from funext fun k => f 22 k (by decide) (by omega)]; exact h4
      · rw [f 19 7 (by decide) (by decide)]; exact h5
      · rw [f 19 9 (by decide) (by decide)]; exact h7
      · rw [e4, st_eq]; rfl
      · rw [e4, st_k (by decide), e3, st_eq]
      · exact ⟨v, D, rfl, by omega, by omega⟩
      · omega
      · omega
      · omega
    rcases hv with ⟨a1, a2, a3, a4⟩ | ⟨a1, a2, a3, a4⟩
    · rw [a3] at nx ⊢
      exact pc_ite (fun e => absurd e (by decide)) (fun _ => nx)
    · rw [a3] at nx ⊢
      exact pc_ite (fun _ => nx) (fun e => absurd rfl e)
  have w1 := w32_sp (-c)
  have w2 := w32_sp (c - 48)
  have k63 : ¬ c = 45 → ¬ (c = 40 ∧ d < 4) → PC (f_W_takeThing_63 c w) (fun r u => stO (stc c D W d g K true) w r u) := by
    intro n45 n40
    have k79 : ¬ (48 ≤ c ∧ c ≤ 57) → PC (f_W_takeThing_79 c w) (fun r u => stO (stc c D W d g K true) w r u) := by
      intro nd
      unfold f_W_takeThing_79 f_W_takeThing_80
      refine pc_ite (fun _ => ?_) (fun e => absurd rfl e)
      refine pc_call (ltr_pc c w) (fun r5 u6 q => ?_)
      rw [q.1]
      by_cases cl : c = 105 ∨ c = 112 ∨ c = 107 ∨ c = 115 ∨ c = 103 ∨ c = 108 ∨ c = 110 ∨ c = 119
      · rw [if_pos cl] at q
        refine pc_ite (fun e => absurd (q.2.symm.trans e) (by decide)) (fun _ => ?_)
        unfold f_W_takeThing_94
        refine pc_ite (fun _ => ?_) (fun e => absurd rfl e)
        rw [show w32 (-c) = -c by omega]
        exact fin 0 (-c) n45 n40 (Or.inr ⟨nd, cl, rfl, rfl⟩)
      · rw [if_neg cl] at q
        refine pc_ite (fun _ => ?_) (fun e => absurd q.2 e)
        have es : stc c D W d g K true = none := by
          unfold stc
          rw [if_pos rfl, if_neg n45, if_neg n40, if_neg nd, if_neg cl]
        rw [es]
        exact pc_some ⟨rfl, wx_r w⟩
    unfold f_W_takeThing_63
    refine pc_ite (fun c1 => k79 (by omega)) (fun c1 => ?_)
    refine pc_ite (fun c2 => k79 (by omega)) (fun c2 => ?_)
    unfold f_W_takeThing_80
    refine pc_ite (fun e => absurd e (by decide)) (fun _ => ?_)
    unfold f_W_takeThing_94
    refine pc_ite (fun e => absurd e (by decide)) (fun _ => ?_)
    rw [show w32 (c - 48) = c - 48 by omega]
    exact fin 1 (c - 48) n45 n40 (Or.inl ⟨by omega, by omega, rfl, rfl⟩)
  unfold f_W_takeThing
  refine pc_ite (fun c1 => ?_) (fun c1 => ?_)
  · have es : stc c D W d g K true = some (D, 256 :: W, d, g, K, true) := by
      unfold stc
      rw [if_pos rfl, if_pos c1]
    have hl2 := hl (by omega)
    rw [es]
    exact pc_call (aw_pc (v := 256) h' (by omega) (by decide)) (fun r11 u12 q => pc_some ⟨rfl, q⟩)
  · refine pc_ite (fun c2 => ?_) (fun c2 => k63 c1 (fun e => c2 e.1))
    rw [h5]
    refine pc_ite (fun c3 => k63 c1 (fun e => by omega)) (fun c3 => ?_)
    have es : stc c D W d g K true = some (D, 40 :: W, d + 1, g, iand K (ixor (ishl 1 (d + 1)) (-1)), true) := by
      unfold stc
      rw [if_pos rfl, if_neg c1, if_pos ⟨c2, by omega⟩]
    have hl2 := hl (by omega)
    have w3 := w32_sp (d + 1)
    rw [es, c2, show w32 (d + 1) = d + 1 by omega]
    refine pc_lw (fun u7 e7 => ?_)
    have y7 : u7 19 7 = d + 1 := by rw [e7, st_eq]
    have y9 : u7 19 9 = K := by rw [e7, st_k (by decide)]; exact h7
    rw [y7, y9]
    refine pc_lw (fun u8 e8 => ?_)
    have f : ∀ c k, ¬ (c = 19 ∧ (k = 7 ∨ k = 9)) → u8 c k = w c k := fun c k hk => by
      rw [e8]; unfold st; rw [if_neg (by omega), e7]; unfold st; rw [if_neg (by omega)]
    have h8' : WS u8 D W (d + 1) g (iand K (ixor (ishl 1 (d + 1)) (-1))) true := by
      refine ⟨⟨⟨?_, ?_⟩, ⟨?_, ?_⟩, ⟨?_, ?_, ?_⟩, h9, by omega, by omega⟩, ?_, hnb⟩
      · rw [f 19 5 (by decide)]; exact h1
      · rw [show u8 21 = w 21 from funext fun k => f 21 k (by omega)]; exact h2
      · rw [f 19 6 (by decide)]; exact h3
      · rw [show u8 22 = w 22 from funext fun k => f 22 k (by omega)]; exact h4
      · rw [e8, st_k (by decide)]; exact y7
      · rw [e8, st_eq]
      · rw [f 19 10 (by decide)]; exact h8
      · rw [f 19 8 (by decide)]; exact h6
    refine pc_call (aw_pc (v := 40) h8' (by omega) (by decide)) (fun r9 u10 q => pc_some ⟨rfl, q.1, wx_tr (wx_st (wx_st (wx_r w) e7 (by omega)) e8 (by omega)) q.2⟩)
theorem tb_pc {c : Int} {w : Wd} {D W : List Int} {d g K : Int} (hKr : -2147483648 ≤ K ∧ K ≤ 2147483647) (h : WS w D W d g K false) (hl : 0 ≤ c → D.length + W.length < 40) (hc : -2 ≤ c ∧ c ≤ 255) : PC (f_W_takeBehindThing c w) (fun r u => stO (stc c D W d g K false) w r u) := by
  have h' := h
  obtain ⟨⟨⟨h1, h2⟩, ⟨h3, h4⟩, ⟨h5, h7, h8⟩, h9, h10⟩, h6, hnb⟩ := h
  have k21 : ¬ (48 ≤ c ∧ c ≤ 57) → PC (f_W_takeBehindThing_21 c w) (fun r u => stO (stc c D W d g K false) w r u) := by
    intro nd
    unfold f_W_takeBehindThing_21
    refine pc_lw (fun u1 e1 => ?_)
    have f1 : ∀ c k, ¬ (c = 19 ∧ k = 8) → u1 c k = w c k := fun c k hk => by
      rw [e1]; unfold st; rw [if_neg hk]
    have s1 : WS0 u1 D W d K false := by
      refine ⟨⟨?_, ?_⟩, ⟨?_, ?_⟩, ⟨?_, ?_, ?_⟩, h9, h10⟩
      · rw [f1 19 5 (by decide)]; exact h1
      · rw [show u1 21 = w 21 from funext fun k => f1 21 k (by omega)]; exact h2
      · rw [f1 19 6 (by decide)]; exact h3
      · rw [show u1 22 = w 22 from funext fun k => f1 22 k (by omega)]; exact h4
      · rw [f1 19 7 (by decide)]; exact h5
      · rw [f1 19 9 (by decide)]; exact h7
      · rw [f1 19 10 (by decide)]; exact h8
    have x1 : WX w u1 := wx_st (wx_r w) e1 (by omega)
    have k77 : ¬ (c = 41 ∧ 0 < d) → PC (f_W_takeBehindThing_77 c u1) (fun r u => stO (stc c D W d g K false) w r u) := by
      intro n41
      unfold f_W_takeBehindThing_77
      rw [stg_e, jc_s]
      refine pc_ite (fun c0 => ?_) (fun c0 => ?_)
      · have es : stc c D W d g K false = none := by
          unfold stc
          rw [if_neg (by decide), if_neg nd, if_neg n41, if_pos (Or.inl c0)]
        rw [es]
        exact pc_some ⟨rfl, x1⟩
      · have cpos : 0 ≤ c := by
          by_cases c9 : 0 ≤ c
          · exact c9
          · exfalso
            apply c0
            unfold stg
            rw [if_neg (by omega), if_neg (by omega), if_neg (by omega), if_neg (by omega), if_neg (by omega), if_neg (by omega), if_neg (by omega), if_neg (by omega)]
        have hl2 := hl cpos
        have k127 : ∀ s2 K2 : Int, ior K s2 = K2 → stc c D W d g K false = some ((rel (stg c) D W).1, c :: (rel (stg c) D W).2, d, 0, K2, true) → PC (f_W_takeBehindThing_127 c (stg c) (u1 19 9) s2 u1) (fun r u => stO (stc c D W d g K false) w r u) := by
          intro s2 K2 eK es
          rw [es]
          unfold f_W_takeBehindThing_127
          rw [s1.2.2.1.2.1, eK]
          refine pc_lw (fun u4 e4 => ?_)
          have f4 : ∀ c k, ¬ (c = 19 ∧ k = 9) → u4 c k = u1 c k := fun c k hk => by
            rw [e4]; unfold st; rw [if_neg hk]
          have s4 : WS0 u4 D W d K2 false := by
            obtain ⟨⟨a1, a2⟩, ⟨a3, a4⟩, ⟨a5, a7, a8⟩, a9, a10⟩ := s1
            refine ⟨⟨?_, ?_⟩, ⟨?_, ?_⟩, ⟨?_, ?_, ?_⟩, a9, a10⟩
            · rw [f4 19 5 (by decide)]; exact a1
            · rw [show u4 21 = u1 21 from funext fun k => f4 21 k (by omega)]; exact a2
            · rw [f4 19 6 (by decide)]; exact a3
            · rw [show u4 22 = u1 22 from funext fun k => f4 22 k (by omega)]; exact a4
            · rw [f4 19 7 (by decide)]; exact a5
            · rw [e4, st_eq]
            · rw [f4 19 10 (by decide)]; exact a8
          refine pc_call (rel_pc (v := stg c) s4 (by omega)) (fun r5 u6 q => ?_)
          obtain ⟨q1, q2, q3⟩ := q
          have q8 : u6 19 8 = 0 := by rw [q3, f4 19 8 (by decide), e1, st_eq]
          have hln := rel_len (stg c) W D
          refine pc_call (aw_pc (v := c) (g := 0) ⟨q1, q8, nb_0 _⟩ (by omega) (by omega)) (fun r7 u8 p => ?_)
          obtain ⟨⟨⟨⟨b1, b2⟩, ⟨b3, b4⟩, ⟨b5, b7, b8⟩, b9, b10⟩, b6, bnb⟩, p2⟩ := p
          refine pc_lw (fun u9 e9 => ?_)
          have f9 : ∀ c k, ¬ (c = 19 ∧ k = 10) → u9 c k = u8 c k := fun c k hk => by
            rw [e9]; unfold st; rw [if_neg hk]
          refine pc_some ⟨rfl, ⟨⟨⟨?_, ?_⟩, ⟨?_, ?_⟩, ⟨?_, ?_, ?_⟩, b9, b10⟩, ?_, bnb⟩, wx_st (wx_tr (wx_tr (wx_st x1 e4 (by omega)) q2) p2) e9 (by omega)⟩
          · rw [f9 19 5 (by decide)]; exact b1
          · rw [show u9 21 = u8 21 from funext fun k => f9 21 k (by omega)]; exact b2
          · rw [f9 19 6 (by decide)]; exact b3
          · rw [show u9 22 = u8 22 from funext fun k => f9 22 k (by omega)]; exact b4
          · rw [f9 19 7 (by decide)]; exact b5
          · rw [f9 19 9 (by decide)]; exact b7
          · rw [e9, st_eq]; rfl
          · rw [f9 19 8 (by decide)]; exact b6
        have y7 : u1 19 7 = d := s1.2.2.1.1
        have y9 : u1 19 9 = K := s1.2.2.1.2.1
        have k107 : ¬ (stg c = 1 ∧ bt K d.toNat = true) → PC (f_W_takeBehindThing_107 c (stg c) u1) (fun r u => stO (stc c D W d g K false) w r u) := by
          intro ncmp
          have es : stc c D W d g K false = some ((rel (stg c) D W).1, c :: (rel (stg c) D W).2, d, 0, (if stg c = 1 then ior K (ishl 1 d) else K), true) := by
            unfold stc
            rw [if_neg (by decide), if_neg nd, if_neg n41, if_neg (fun hh => hh.elim c0 ncmp)]
          unfold f_W_takeBehindThing_107
          refine pc_ite (fun c1 => ?_) (fun c1 => ?_)
          · rw [if_pos c1] at es
            rw [y7]
            exact k127 _ _ rfl es
          · rw [if_neg c1] at es
            exact k127 0 K (ior0 hKr) es
        refine pc_ite (fun c1 => ?_) (fun c1 => k107 (fun hh => c1 hh.1))
        rw [y9, y7, bit_i (by omega)]
        cases hb : bt K d.toNat with
        | true =>
          rw [if_pos (show true = true from rfl)]
          refine pc_ite (fun e => absurd e (by decide)) (fun _ => ?_)
          have es : stc c D W d g K false = none := by
            unfold stc
            rw [if_neg (by decide), if_neg nd, if_neg n41, if_pos (Or.inr ⟨c1, hb⟩)]
          rw [es]
          exact pc_some ⟨rfl, x1⟩
        | false =>
          rw [if_neg (show ¬ false = true by decide)]
          exact pc_ite (fun _ => k107 (fun hh => by rw [hb] at hh; cases hh.2)) (fun e => absurd rfl e)
    refine pc_ite (fun c1 => ?_) (fun c1 => k77 (fun hh => c1 hh.1))
    have y7 : u1 19 7 = d := s1.2.2.1.1
    rw [y7]
    refine pc_ite (fun c2 => k77 (fun hh => by omega)) (fun c2 => ?_)
    have hl2 := hl (by omega)
    have es : stc c D W d g K false = some ((rel 1 D W).1, (rel 1 D W).2.tail, d - 1, 0, K, false) := by
      unfold stc
      rw [if_neg (by decide), if_neg nd, if_pos ⟨c1, by omega⟩]
    rw [es]
    have w1 := w32_sp (d - 1)
    rw [show w32 (d - 1) = d - 1 by omega]
    refine pc_lw (fun u10 e10 => ?_)
    have f10 : ∀ c k, ¬ (c = 19 ∧ k = 7) → u10 c k = u1 c k := fun c k hk => by
      rw [e10]; unfold st; rw [if_neg hk]
    have s10 : WS0 u10 D W (d - 1) K false := by
      obtain ⟨⟨a1, a2⟩, ⟨a3, a4⟩, ⟨a5, a7, a8⟩, a9, a10⟩ := s1
      refine ⟨⟨?_, ?_⟩, ⟨?_, ?_⟩, ⟨?_, ?_, ?_⟩, a9, by omega, by omega⟩
      · rw [f10 19 5 (by decide)]; exact a1
      · rw [show u10 21 = u1 21 from funext fun k => f10 21 k (by omega)]; exact a2
      · rw [f10 19 6 (by decide)]; exact a3
      · rw [show u10 22 = u1 22 from funext fun k => f10 22 k (by omega)]; exact a4
      · rw [e10, st_eq]
      · rw [f10 19 9 (by decide)]; exact a7
      · rw [f10 19 10 (by decide)]; exact a8
    refine pc_call (rel_pc (v := 1) s10 (by omega)) (fun r11 u12 q => ?_)
    obtain ⟨⟨⟨a1, a2⟩, ⟨a3, a4⟩, ⟨a5, a7, a8⟩, a9, a10⟩, q2, q3⟩ := q
    have q8 : u12 19 8 = 0 := by rw [q3, f10 19 8 (by decide), e1, st_eq]
    have x12 : WX w u12 := wx_tr (wx_st x1 e10 (by omega)) q2
    have hln := rel_len 1 W D
    generalize (rel 1 D W).2 = W2 at *
    generalize (rel 1 D W).1 = D2 at *
    have k71 : ∀ s : Int, u12 19 6 - s = (W2.tail.length : Int) → (0 ≤ s ∧ s ≤ 1) → PC (f_W_takeBehindThing_71 (u12 19 6) s u12) (fun r u => stO (some (D2, W2.tail, d - 1, 0, K, false)) w r u) := by
      intro s e s01
      unfold f_W_takeBehindThing_71
      have w2 := w32_sp (u12 19 6 - s)
      refine pc_lw (fun u13 e13 => ?_)
      have f13 : ∀ c k, ¬ (c = 19 ∧ k = 6) → u13 c k = u12 c k := fun c k hk => by
        rw [e13]; unfold st; rw [if_neg hk]
      refine pc_some ⟨rfl, ⟨⟨⟨?_, ?_⟩, ⟨?_, ?_⟩, ⟨?_, ?_, ?_⟩, fun x hx => a9 x (List.mem_of_mem_tail hx), a10⟩, ?_, nb_0 _⟩, wx_st x12 e13 (by omega)⟩
      · rw [f13 19 5 (by decide)]; exact a1
      · rw [show u13 21 = u12 21 from funext fun k => f13 21 k (by omega)]; exact a2
      · rw [e13, st_eq]; omega
      · rw [show u13 22 = u12 22 from funext fun k => f13 22 k (by omega)]
        cases W2 with
        | nil => exact a4
        | cons y W2 => exact (sr_c a4).2
      · rw [f13 19 7 (by decide)]; exact a5
      · rw [f13 19 9 (by decide)]; exact a7
      · rw [f13 19 10 (by decide)]; exact a8
      · rw [f13 19 8 (by decide)]; exact q8
    have htl : W2.tail.length = W2.length - 1 := List.length_tail
    refine pc_ite (fun c3 => k71 0 (by omega) (by decide)) (fun c3 => k71 1 (by omega) (by decide))
  unfold f_W_takeBehindThing
  refine pc_ite (fun c1 => k21 (by omega)) (fun c1 => ?_)
  refine pc_ite (fun c2 => k21 (by omega)) (fun c2 => ?_)
  have hd : 48 ≤ c ∧ c ≤ 57 := by omega
  have w1 := w32_sp (c - 48)
  rw [show w32 (c - 48) = c - 48 by omega]
  have hdig : PC (f_W_takeDigit (c - 48) w) (fun r u => (r = 0 ∨ r = 1) ∧ stO (stc c D W d g K false) w r u) := by
    unfold f_W_takeDigit
    rw [h6]
    refine pc_ite (fun c3 => ?_) (fun c3 => ?_)
    · have es : stc c D W d g K false = none := by
        unfold stc
        rw [if_neg (by decide), if_pos hd, if_pos (Or.inl c3)]
      rw [es]; exact pc_some ⟨Or.inl rfl, rfl, wx_r w⟩
    · refine pc_ite (fun c4 => ?_) (fun c4 => ?_)
      · have es : stc c D W d g K false = none := by
          unfold stc
          rw [if_neg (by decide), if_pos hd, if_pos (Or.inr c4)]
        rw [es]; exact pc_some ⟨Or.inl rfl, rfl, wx_r w⟩
      · have hx : ∃ x D', D = x :: D' ∧ 0 ≤ x ∧ x ≤ 99 ∧ (g = 1 → x ≤ 9) := by
          have hg := hnb.2.2
          by_cases g1 : g = 1
          · obtain ⟨x, D', e, e1, e2⟩ := hnb.1 g1
            exact ⟨x, D', e, e1, by omega, fun _ => e2⟩
          · obtain ⟨x, D', e, e1, e2⟩ := hnb.2.1 (by omega)
            exact ⟨x, D', e, e1, e2, fun h => absurd h g1⟩
        obtain ⟨x, D', eD, x0, x99, xg⟩ := hx
        subst eD
        obtain ⟨hy, hD'⟩ := sr_c h2
        have es : stc c (x :: D') W d g K false = some ((x * 10 + (c - 48)) :: D', W, d, g + 1, K, false) := by
          unfold stc
          rw [if_neg (by decide), if_pos hd, if_neg (by omega)]
        rw [es]
        have hl2 := hl (by omega)
        simp only [List.length_cons] at h1 hl2
        have w2 := w32_sp (w 19 5 - 1)
        have w3 := w32_sp (x * 10)
        have w4 := w32_sp (w32 (x * 10) + (c - 48))
        have w5 := w32_sp (g + 1)
        have hg := hnb.2.2
        have ei : (w32 (w 19 5 - 1)).toNat = D'.length := by omega
        refine pc_ite (fun c5 => by exfalso; omega) (fun c5 => ?_)
        refine pc_gd (fun _ => ?_)
        refine pc_gd (fun _ => ?_)
        rw [ei, hy, show w32 (w32 (x * 10) + (c - 48)) = x * 10 + (c - 48) by omega]
        refine pc_lw (fun u1 e1 => ?_)
        have y8 : u1 19 8 = g := by rw [e1, st_c (by decide)]; exact h6
        rw [y8, show w32 (g + 1) = g + 1 by omega]
        refine pc_lw (fun u2 e2 => ?_)
        have f : ∀ c k, c ≠ 21 → ¬ (c = 19 ∧ k = 8) → u2 c k = w c k := fun c k hc hk => by
          rw [e2]; unfold st; rw [if_neg hk, e1]; unfold st; rw [if_neg (fun e => hc e.1)]
        refine pc_some ⟨Or.inr rfl, rfl, ⟨⟨⟨?_, ?_⟩, ⟨?_, ?_⟩, ⟨?_, ?_, ?_⟩, h9, h10⟩, ?_, fun e => ?_, fun e => ?_, ?_, ?_⟩, wx_st (wx_st (wx_r w) e1 (Or.inl rfl)) e2 (by omega)⟩
        · rw [f 19 5 (by decide) (by decide)]; exact h1
        · rw [e2, st_row (by decide)]; exact sr_push hD' e1
        · rw [f 19 6 (by decide) (by decide)]; exact h3
        · rw [show u2 22 = w 22 from funext fun k => f 22 k (by decide) (by omega)]; exact h4
        · rw [f 19 7 (by decide) (by decide)]; exact h5
        · rw [f 19 9 (by decide) (by decide)]; exact h7
        · rw [f 19 10 (by decide) (by decide)]; exact h8
        · rw [e2, st_eq]
        · omega
        · have := xg (by omega)
          exact ⟨x * 10 + (c - 48), D', rfl, by omega, by omega⟩
        · omega
        · omega
  refine pc_call hdig (fun r14 u15 q => ?_)
  exact pc_ite (fun _ => pc_some q.2) (fun hn => absurd q.1 hn)
