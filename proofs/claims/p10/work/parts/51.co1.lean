/-! THE LAND'S LINES, READ BY BOTH: where each stops, what it answers -/
theorem st_row {w : Wd} {c c' k : Nat} {z : Int} (h : c' ≠ c) : st w c k z c' = w c' := funext fun _ => st_c h
theorem st_self (w : Wd) (c k : Nat) : st w c k (w c k) = w := by
  funext c' k'
  by_cases e : c' = c
  · subst e
    by_cases e2 : k' = k
    · subst e2; exact st_eq w c' k' _
    · exact st_k e2
  · exact st_c e
def sE (n : Int) (f : Nat → Int) (p : Int) : Int := if p < 0 then -1 else if p < n then (if p < 76 then f p.toNat else -2) else -1
def hR (n : Int) (f : Nat → Int) (p : Int) : Int := if n ≤ p then -1 else if (76 : Int) ≤ p then -1 else f p.toNat
theorem sE_lt {n : Int} {f : Nat → Int} {p : Int} (h : 0 ≤ sE n f p) : 0 ≤ p ∧ p < n ∧ p < 76 := by
  unfold sE at h
  by_cases h1 : p < 0
  · rw [if_pos h1] at h; omega
  · rw [if_neg h1] at h
    by_cases h2 : p < n
    · rw [if_pos h2] at h
      by_cases h3 : p < 76
      · omega
      · rw [if_neg h3] at h; omega
    · rw [if_neg h2] at h; omega
theorem hR_lt {n : Int} {f : Nat → Int} {p : Int} (h : 0 ≤ hR n f p) : p < n ∧ p < 76 := by
  unfold hR at h
  by_cases h1 : n ≤ p
  · rw [if_pos h1] at h; omega
  · rw [if_neg h1] at h
    by_cases h2 : (76 : Int) ≤ p
    · rw [if_pos h2] at h; omega
    · omega
theorem sE_end {n : Int} {f : Nat → Int} {p : Int} (hf : ∀ k, 0 ≤ f k) (h0 : 0 ≤ p) : sE n f p = -1 ↔ n ≤ p := by
  unfold sE
  rw [if_neg (by omega)]
  by_cases h2 : p < n
  · rw [if_pos h2]
    by_cases h3 : p < 76
    · rw [if_pos h3]; have := hf p.toNat; omega
    · rw [if_neg h3]; omega
  · rw [if_neg h2]; omega
def lt (s : Int → Int) (num : Int) : Nat → Int → Int
  | 0, p => p
  | k + 1, p => if s p = 97 + (num - ((k : Int) + 1)) then lt s num k (p + 1) else lt s num k p
def fnl (s : Int → Int) (p : Int) : Int := if s p = 33 then (if s (p + 1) = 63 then p + 2 else p + 1) else (if s p = 63 then p + 1 else p)
def en (s : Int → Int) (num p : Int) : Int := fnl s (lt s num num.toNat (p + 1))
def lan (s : Int → Int) (n a : Int) : Nat → Nat → Int → Int
  | 0, _, p => -1 - p
  | f + 1, j, p => if (10 : Int) ≤ a + j then -1 - p else if 48 ≤ s p ∧ s p ≤ 57 then (if n ≤ en s (a + j) p then (j : Int) + 1 else if s (en s (a + j) p) = 59 then lan s n a f (j + 1) (en s (a + j) p + 1) else -1 - en s (a + j) p) else -1 - p
def landA (s : Int → Int) (n a : Int) : Int := if n = 0 then 0 else lan s n a 11 0 0
theorem lt_ge (s : Int → Int) (num : Int) : ∀ (k : Nat) (p : Int), p ≤ lt s num k p := by
  intro k
  induction k with
  | zero => intro p; exact Int.le_refl p
  | succ k ih =>
    intro p
    rw [lt]
    by_cases h : s p = 97 + (num - ((k : Int) + 1))
    · rw [if_pos h]; have := ih (p + 1); omega
    · rw [if_neg h]; exact ih p
theorem fnl_ge (s : Int → Int) (p : Int) : p ≤ fnl s p := by
  unfold fnl
  split
  · split <;> omega
  · split <;> omega
theorem en_ge (s : Int → Int) (num p : Int) : p + 1 ≤ en s num p := Int.le_trans (lt_ge s num _ _) (fnl_ge s _)
theorem lan_le (s : Int → Int) (n a : Int) (ha : a ≤ 10) : ∀ (f j : Nat) (p : Int), 0 ≤ p → lan s n a f j p ≤ 10 - a := by
  intro f
  induction f with
  | zero => intro j p hp; rw [lan]; omega
  | succ f ih =>
    intro j p hp
    have h1 := en_ge s (a + j) p
    rw [lan]
    by_cases c1 : (10 : Int) ≤ a + j
    · rw [if_pos c1]; omega
    · rw [if_neg c1]
      by_cases c2 : 48 ≤ s p ∧ s p ≤ 57
      · rw [if_pos c2]
        by_cases c3 : n ≤ en s (a + j) p
        · rw [if_pos c3]; omega
        · rw [if_neg c3]
          by_cases c4 : s (en s (a + j) p) = 59
          · rw [if_pos c4]; exact ih _ _ (by omega)
          · rw [if_neg c4]; omega
      · rw [if_neg c2]; omega
theorem lt_le {s : Int → Int} {num : Int} (hs : ∀ p, 0 ≤ p → 0 ≤ s p → p < 76) : ∀ (k : Nat) {p : Int}, (k : Int) ≤ num → 0 ≤ p ∧ p ≤ 76 → lt s num k p ≤ 76 := by
  intro k
  induction k with
  | zero => intro p _ hp; exact hp.2
  | succ k ih =>
    intro p hk hp
    rw [lt]
    by_cases h : s p = 97 + (num - ((k : Int) + 1))
    · have := hs p hp.1 (by omega)
      rw [if_pos h]; exact ih (by omega) (by omega)
    · rw [if_neg h]; exact ih (by omega) hp
theorem fnl_le {s : Int → Int} (hs : ∀ p, 0 ≤ p → 0 ≤ s p → p < 76) {p : Int} (hp : 0 ≤ p ∧ p ≤ 76) : fnl s p ≤ 76 := by
  unfold fnl
  by_cases h : s p = 33
  · have h1 := hs p hp.1 (by omega)
    rw [if_pos h]
    by_cases h2 : s (p + 1) = 63
    · have h3 := hs (p + 1) (by omega) (by omega)
      rw [if_pos h2]; omega
    · rw [if_neg h2]; omega
  · rw [if_neg h]
    by_cases h2 : s p = 63
    · have h3 := hs p hp.1 (by omega)
      rw [if_pos h2]; omega
    · rw [if_neg h2]; omega
theorem sE_76 (n : Int) (f : Nat → Int) : ∀ p, 0 ≤ p → 0 ≤ sE n f p → p < 76 := fun _ _ h => (sE_lt h).2.2
theorem hR_76 (n : Int) (f : Nat → Int) : ∀ p, 0 ≤ p → 0 ≤ hR n f p → p < 76 := fun _ _ h => (hR_lt h).2
theorem en_le {s : Int → Int} {num p : Int} (hs : ∀ p, 0 ≤ p → 0 ≤ s p → p < 76) (h0 : 0 ≤ num) (hp : 0 ≤ p) (h : 0 ≤ s p) : en s num p ≤ 76 := by
  have h1 := hs p hp h
  exact fnl_le hs ⟨Int.le_trans (by omega) (lt_ge s num _ _), lt_le hs num.toNat (by omega) (by omega)⟩
theorem lt_none {s : Int → Int} {num : Int} : ∀ (k : Nat) {p : Int}, (∀ x : Int, num - k ≤ x → x < num → s p ≠ 97 + x) → lt s num k p = p := by
  intro k
  induction k with
  | zero => intro p _; rfl
  | succ k ih =>
    intro p h
    rw [lt, if_neg (h _ (by omega) (by omega))]
    exact ih (fun x h1 h2 => h x (by omega) h2)
theorem lt_skip {s : Int → Int} {num x p : Int} (hx : s p = 97 + x) (h2 : x < num) : ∀ (k : Nat), num - k ≤ x → lt s num k p = lt s num (num - x - 1).toNat (p + 1) := by
  intro k
  induction k with
  | zero => intro h; omega
  | succ k ih =>
    intro h
    rw [lt]
    by_cases e : x = num - ((k : Int) + 1)
    · rw [if_pos (by omega), show (num - x - 1).toNat = k by omega]
    · rw [if_neg (by omega)]
      exact ih (by omega)
/-! the class -/
def EV (n0 : Int) (f0 z0 : Nat → Int) (w : Wd) : Prop := w 1 1 = n0 ∧ w 2 = f0 ∧ w 5 = z0
theorem ev_st {n0 : Int} {f0 z0 : Nat → Int} {w u : Wd} {c k : Nat} {z : Int} (h : EV n0 f0 z0 w) (e : u = st w c k z) (hc : 1 ≠ c ∧ 2 ≠ c ∧ 5 ≠ c) : EV n0 f0 z0 u := by
  rw [e]
  exact ⟨(st_c hc.1).trans h.1, (st_row hc.2.1).trans h.2.1, (st_row hc.2.2).trans h.2.2⟩
theorem sa_pc {n0 : Int} {f0 z0 : Nat → Int} {w : Wd} (h : EV n0 f0 z0 w) (p : Int) : PC (f_T_signAt p 76 w) (fun r u => u = w ∧ r = sE n0 f0 p) := by
  unfold f_T_signAt sE
  rw [h.1, h.2.1]
  refine pc_ite (fun h => ?_) (fun h => ?_)
  · rw [if_pos h]; exact pc_some ⟨rfl, rfl⟩
  · rw [if_neg h]
    refine pc_ite (fun h1 => ?_) (fun h1 => ?_)
    · rw [if_pos h1]
      refine pc_ite (fun h2 => ?_) (fun h2 => ?_)
      · rw [if_pos h2]; exact pc_gd (fun _ => pc_some ⟨rfl, rfl⟩)
      · rw [if_neg h2]; exact pc_some ⟨rfl, rfl⟩
    · rw [if_neg h1]; exact pc_some ⟨rfl, rfl⟩
theorem tk_pc {n0 : Int} {f0 z0 : Nat → Int} {w : Wd} (h : EV n0 f0 z0 w) (c : Int) (h5 : 0 ≤ w 9 5 ∧ w 9 5 ≤ 76) : PC (f_L_take c w) (fun r u => (sE n0 f0 (w 9 5) = c ∧ r = 1 ∧ u = st w 9 5 (w 9 5 + 1)) ∨ (¬ sE n0 f0 (w 9 5) = c ∧ r = 0 ∧ u = w)) := by
  unfold f_L_take
  refine pc_call (sa_pc h (w 9 5)) (fun r1 u2 q => ?_)
  obtain ⟨q1, q2⟩ := q
  rw [q1]
  have w1 := w32_sp (w 9 5 + 1)
  have w2 := w32_sp (w 9 5 + 0)
  refine pc_ite (fun h1 => ?_) (fun h1 => ?_)
  · unfold f_L_take_19
    refine pc_ite (fun h2 => absurd h2 (by decide)) (fun _ => ?_)
    unfold f_L_take_34
    refine pc_lw (fun u3 e3 => ?_)
    refine pc_ite (fun _ => ?_) (fun _ => pc_none)
    rw [show w32 (w 9 5 + 1) = w 9 5 + 1 by omega] at e3
    exact pc_some (Or.inl ⟨q2.symm.trans h1, rfl, e3⟩)
  · unfold f_L_take_19
    refine pc_ite (fun _ => ?_) (fun h2 => absurd rfl h2)
    unfold f_L_take_34
    refine pc_lw (fun u3 e3 => ?_)
    refine pc_ite (fun _ => ?_) (fun _ => pc_none)
    rw [show w32 (w 9 5 + 0) = w 9 5 by omega, st_self] at e3
    exact pc_some (Or.inr ⟨fun h3 => h1 (q2.trans h3), rfl, e3⟩)
theorem l137 {n0 : Int} {f0 z0 : Nat → Int} {w : Wd} {v2 s1 s2 : Int} (h : EV n0 f0 z0 w) (h5 : 0 ≤ w 9 5 ∧ w 9 5 ≤ 76) (h4 : 0 ≤ w 9 4 ∧ w 9 4 ≤ 9) : PC (f_L_readLine_137 v2 s1 s2 w) (fun r u => r = 1 ∧ EV n0 f0 z0 u ∧ u 9 4 = w 9 4 + 1 ∧ u 9 5 = (if sE n0 f0 (w 9 5) = 63 then w 9 5 + 1 else w 9 5)) := by
  have k163 : ∀ {u : Wd} {s1 s2 : Int}, EV n0 f0 z0 u → u 9 4 = w 9 4 → PC (f_L_readLine_163 s1 s2 u) (fun r u' => r = 1 ∧ EV n0 f0 z0 u' ∧ u' 9 4 = w 9 4 + 1 ∧ u' 9 5 = u 9 5) := by
    intro u s1 s2 hu e4
    unfold f_L_readLine_163
    refine pc_lw (fun u11 e11 => ?_)
    have t4 : u11 9 4 = w 9 4 := by rw [e11, st_k (by decide)]; exact e4
    have w1 := w32_sp (u11 9 4 + 1)
    refine pc_lw (fun u12 e12 => ?_)
    refine pc_some ⟨rfl, ev_st (ev_st hu e11 (by decide)) e12 (by decide), ?_, ?_⟩
    · rw [e12, st_eq]; omega
    · rw [e12, st_k (by decide), e11, st_k (by decide)]
  unfold f_L_readLine_137
  refine pc_lw (fun u8 e8 => ?_)
  have t5 : u8 9 5 = w 9 5 := by rw [e8, st_k (by decide)]
  have t4 : u8 9 4 = w 9 4 := by rw [e8, st_k (by decide)]
  have h8 := ev_st h e8 (by decide)
  refine pc_call (tk_pc h8 63 (by omega)) (fun r9 u10 q => ?_)
  rw [t5] at q
  rcases q with ⟨q1, q2, q3⟩ | ⟨q1, q2, q3⟩
  · have h10 := ev_st h8 q3 (by decide)
    refine pc_ite (fun h => absurd (q2.symm.trans h) (by decide)) (fun _ => ?_)
    refine pc_w (k163 h10 (by rw [q3, st_k (by decide)]; exact t4)) (fun r u q => ⟨q.1, q.2.1, q.2.2.1, ?_⟩)
    rw [if_pos q1, q.2.2.2, q3, st_eq]
  · rw [q3]
    refine pc_ite (fun _ => ?_) (fun h => absurd q2 h)
    refine pc_w (k163 h8 t4) (fun r u q => ⟨q.1, q.2.1, q.2.2.1, ?_⟩)
    rw [if_neg q1, q.2.2.2, t5]
theorem l70 {n0 : Int} {f0 z0 : Nat → Int} {num : Int} (hn : 0 ≤ num ∧ num ≤ 9) : ∀ (n : Nat) {w : Wd} {v4 : Int} (k : Nat), v4 = num - k → 0 ≤ v4 → EV n0 f0 z0 w → (0 ≤ w 9 5 ∧ w 9 5 ≤ 76) → (0 ≤ w 9 4 ∧ w 9 4 ≤ 9) → PC (f_L_readLine_70 n num v4 w) (fun r u => r = 1 ∧ EV n0 f0 z0 u ∧ u 9 4 = w 9 4 + 1 ∧ u 9 5 = fnl (sE n0 f0) (lt (sE n0 f0) num k (w 9 5))) := by
  intro n
  induction n with
  | zero => intros; exact pc_none
  | succ n ih =>
    intro w v4 k hk i4 h h5 h4
    rw [f_L_readLine_70]
    refine pc_ite (fun hc => ?_) (fun hc => ?_)
    · have k0 : k = 0 := by omega
      subst k0
      have e0 : lt (sE n0 f0) num 0 (w 9 5) = w 9 5 := rfl
      rw [e0]
      refine pc_call (tk_pc h 33 h5) (fun r6 u7 q => ?_)
      rcases q with ⟨q1, q2, q3⟩ | ⟨q1, q2, q3⟩
      · have l5 := sE_lt (n := n0) (f := f0) (p := w 9 5) (by omega)
        refine pc_ite (fun h => absurd (q2.symm.trans h) (by decide)) (fun _ => ?_)
        have t5 : u7 9 5 = w 9 5 + 1 := by rw [q3, st_eq]
        have t4 : u7 9 4 = w 9 4 := by rw [q3, st_k (by decide)]
        refine pc_w (l137 (ev_st h q3 (by decide)) (by omega) (by omega)) (fun r u q => ⟨q.1, q.2.1, by rw [q.2.2.1, t4], ?_⟩)
        rw [q.2.2.2, t5]
        unfold fnl
        rw [if_pos q1]
        split <;> omega
      · refine pc_ite (fun _ => ?_) (fun h => absurd q2 h)
        rw [q3]
        refine pc_w (l137 h h5 h4) (fun r u q => ⟨q.1, q.2.1, q.2.2.1, ?_⟩)
        rw [q.2.2.2]
        unfold fnl
        rw [if_neg q1]
    · cases k with
      | zero => exfalso; omega
      | succ k =>
        refine pc_let (fun x13 e13 => ?_)
        refine pc_gd (fun _ => ?_)
        have w1 := w32_sp (97 + v4)
        have e97 : w32 (97 + v4) = 97 + (num - ((k : Int) + 1)) := by omega
        rw [e97]
        have nx : ∀ {u : Wd} {s1 s2 s3 : Int}, EV n0 f0 z0 u → (0 ≤ u 9 5 ∧ u 9 5 ≤ 76) → u 9 4 = w 9 4 → PC (f_L_readLine_107 (f_L_readLine_70 n) num v4 s1 s2 s3 u) (fun r u' => r = 1 ∧ EV n0 f0 z0 u' ∧ u' 9 4 = w 9 4 + 1 ∧ u' 9 5 = fnl (sE n0 f0) (lt (sE n0 f0) num k (u 9 5))) := by
          intro u s1 s2 s3 hu u5 u4
          unfold f_L_readLine_107
          refine pc_gd (fun _ => ?_)
          refine pc_lw (fun u16 e16 => ?_)
          have w2 := w32_sp (v4 + 1)
          refine pc_let (fun x17 e17 => ?_)
          have t5 : u16 9 5 = u 9 5 := by rw [e16, st_c (by decide)]
          have t4 : u16 9 4 = u 9 4 := by rw [e16, st_c (by decide)]
          refine pc_w (ih k (by omega) (by omega) (ev_st hu e16 (by decide)) (by omega) (by omega)) (fun r u' q => ⟨q.1, q.2.1, ?_, ?_⟩)
          · rw [q.2.2.1, t4, u4]
          · rw [q.2.2.2, t5]
        refine pc_call (tk_pc h _ h5) (fun r14 u15 q => ?_)
        rcases q with ⟨q1, q2, q3⟩ | ⟨q1, q2, q3⟩
        · have l5 := sE_lt (n := n0) (f := f0) (p := w 9 5) (by omega)
          refine pc_ite (fun h => absurd (q2.symm.trans h) (by decide)) (fun _ => ?_)
          have t5 : u15 9 5 = w 9 5 + 1 := by rw [q3, st_eq]
          rw [lt, if_pos q1, ← t5]
          exact nx (ev_st h q3 (by decide)) (by omega) (by rw [q3, st_k (by decide)])
        · refine pc_ite (fun _ => ?_) (fun h => absurd q2 h)
          rw [lt, if_neg q1, q3]
          exact nx h h5 rfl
theorem lrl {n0 : Int} {f0 z0 : Nat → Int} {num : Int} (hn : 0 ≤ num ∧ num ≤ 9) {w : Wd} (h : EV n0 f0 z0 w) (h5 : 0 ≤ w 9 5 ∧ w 9 5 ≤ 76) (h4 : 0 ≤ w 9 4 ∧ w 9 4 ≤ 9) : PC (f_L_readLine num w) (fun r u => EV n0 f0 z0 u ∧ ((¬ (48 ≤ sE n0 f0 (w 9 5) ∧ sE n0 f0 (w 9 5) ≤ 57) ∧ r = 0 ∧ u 9 5 = w 9 5) ∨ ((48 ≤ sE n0 f0 (w 9 5) ∧ sE n0 f0 (w 9 5) ≤ 57) ∧ r = 1 ∧ u 9 4 = w 9 4 + 1 ∧ u 9 5 = en (sE n0 f0) num (w 9 5)))) := by
  unfold f_L_readLine
  refine pc_call (sa_pc h (w 9 5)) (fun r1 u2 q => ?_)
  obtain ⟨q1, q2⟩ := q
  rw [q1]
  refine pc_ite (fun c1 => ?_) (fun c1 => ?_)
  · exact pc_some ⟨h, Or.inl ⟨by omega, rfl, rfl⟩⟩
  · refine pc_ite (fun c2 => ?_) (fun c2 => ?_)
    · exact pc_some ⟨h, Or.inl ⟨by omega, rfl, rfl⟩⟩
    · have l5 := sE_lt (n := n0) (f := f0) (p := w 9 5) (by omega)
      refine pc_ite (fun c3 => ?_) (fun c3 => ?_)
      · have w1 := w32_sp (w 9 5 + 1)
        refine pc_lw (fun u3 e3 => ?_)
        refine pc_gd (fun _ => ?_)
        refine pc_lw (fun u4 e4 => ?_)
        refine pc_gd (fun _ => ?_)
        refine pc_lw (fun u5 e5 => ?_)
        have t5 : u5 9 5 = w 9 5 + 1 := by rw [e5, st_c (by decide), e4, st_c (by decide), e3, st_eq]; omega
        have t4 : u5 9 4 = w 9 4 := by rw [e5, st_c (by decide), e4, st_c (by decide), e3, st_k (by decide)]
        refine pc_w (l70 hn FU num.toNat (by omega) (by omega) (ev_st (ev_st (ev_st h e3 (by decide)) e4 (by decide)) e5 (by decide)) (by omega) (by omega)) (fun r u q => ⟨q.2.1, Or.inr ⟨by omega, q.1, ?_, ?_⟩⟩)
        · rw [q.2.2.1, t4]
        · rw [q.2.2.2, t5]; rfl
      · exfalso; omega
theorem l31 {n0 : Int} {f0 z0 : Nat → Int} (hf : ∀ k, 0 ≤ f0 k) {a : Int} (ha : 0 ≤ a) : ∀ (n : Nat) {w : Wd} {v3 : Int} (f j : Nat), v3 = a + j → v3 ≤ 10 → 10 < a + j + f → EV n0 f0 z0 w → (0 ≤ w 9 5 ∧ w 9 5 ≤ 76) → w 9 4 = j → PC (f_L_read_31 n v3 w) (fun r u => EV n0 f0 z0 u ∧ r = lan (sE n0 f0) n0 a f j (w 9 5) ∧ (0 < r → u 9 4 = r)) := by
  intro n
  induction n with
  | zero => intros; exact pc_none
  | succ n ih =>
    intro w v3 f j hv h10 hfu h h5 h4
    cases f with
    | zero => exfalso; omega
    | succ f =>
      rw [f_L_read_31, lan]
      have w1 := w32_sp (-1 - w 9 5)
      refine pc_ite (fun c1 => ?_) (fun c1 => ?_)
      · rw [if_pos (by omega)]
        exact pc_some ⟨h, by omega, fun h0 => by omega⟩
      · rw [if_neg (by omega)]
        refine pc_call (lrl (by omega) h h5 (by omega)) (fun r5 u6 q => ?_)
        obtain ⟨h6, q⟩ := q
        rw [hv] at q
        rcases q with ⟨q1, q2, q3⟩ | ⟨q1, q2, q3, q4⟩
        · rw [if_neg q1]
          refine pc_ite (fun _ => ?_) (fun h => absurd q2 h)
          rw [q3]
          exact pc_some ⟨h6, by omega, fun h0 => by omega⟩
        · rw [if_pos q1]
          refine pc_ite (fun h => absurd (q2.symm.trans h) (by decide)) (fun _ => ?_)
          have b1 := en_ge (sE n0 f0) (a + j) (w 9 5)
          have b2 := en_le (sE_76 n0 f0) (num := a + j) (by omega) h5.1 (by omega)
          generalize en (sE n0 f0) (a + j) (w 9 5) = e at *
          refine pc_call (sa_pc h6 (u6 9 5)) (fun r7 u8 q => ?_)
          obtain ⟨p1, p2⟩ := q
          rw [p1]
          rw [q4] at p2
          have hE := sE_end (n := n0) (p := e) hf (by omega)
          have w2 := w32_sp (-1 - u6 9 5)
          have w3 := w32_sp (u6 9 5 + 1)
          have w4 := w32_sp (v3 + 1)
          refine pc_ite (fun c2 => ?_) (fun c2 => ?_)
          · rw [if_pos (hE.mp (p2.symm.trans c2))]
            exact pc_some ⟨h6, by omega, fun _ => rfl⟩
          · rw [if_neg (fun h9 => c2 (p2.trans (hE.mpr h9)))]
            refine pc_ite (fun c3 => ?_) (fun c3 => ?_)
            · have c4 := p2.symm.trans c3
              have l5 := sE_lt (n := n0) (f := f0) (p := e) (by omega)
              rw [if_pos c4]
              refine pc_lw (fun u9 e9 => ?_)
              refine pc_let (fun x10 e10 => ?_)
              have t5 : u9 9 5 = e + 1 := by rw [e9, st_eq]; omega
              have t4 : u9 9 4 = u6 9 4 := by rw [e9, st_k (by decide)]
              rw [← t5]
              exact ih f (j + 1) (by omega) (by omega) (by omega) (ev_st h6 e9 (by decide)) (by omega) (by omega)
            · rw [if_neg (fun h9 => c3 (p2.trans h9))]
              exact pc_some ⟨h6, by omega, fun h0 => by omega⟩
theorem lread {n0 : Int} {f0 z0 : Nat → Int} (hf : ∀ k, 0 ≤ f0 k) {a : Int} (ha : 0 ≤ a ∧ a ≤ 10) {w : Wd} (h : EV n0 f0 z0 w) : PC (f_L_read a w) (fun r u => EV n0 f0 z0 u ∧ r = landA (sE n0 f0) n0 a ∧ (0 < r → u 9 4 = r)) := by
  unfold f_L_read landA
  refine pc_lw (fun u1 e1 => ?_)
  refine pc_lw (fun u2 e2 => ?_)
  refine pc_lw (fun u3 e3 => ?_)
  refine pc_lw (fun u4 e4 => ?_)
  have h4 := ev_st (ev_st (ev_st (ev_st h e1 (by decide)) e2 (by decide)) e3 (by decide)) e4 (by decide)
  have t5 : u4 9 5 = 0 := by rw [e4, st_eq]
  have t4 : u4 9 4 = 0 := by rw [e4, st_k (by decide), e3, st_eq]
  rw [h4.1]
  refine pc_ite (fun c => ?_) (fun c => ?_)
  · rw [if_pos c]; exact pc_some ⟨h4, rfl, fun h0 => absurd h0 (by decide)⟩
  · rw [if_neg c]
    have h9 := l31 hf ha.1 FU 11 0 (v3 := a) (by omega) ha.2 (by omega) h4 (by omega) (by omega)
    rw [t5] at h9
    exact h9
theorem has_w (v0 v1 : Int) (w : Wd) : PC (f_E_has v0 v1 w) (fun _ u => u = w) := by
  unfold f_E_has
  refine pc_ite (fun _ => pc_some rfl) (fun _ => ?_)
  refine pc_ite (fun _ => pc_some rfl) (fun _ => ?_)
  exact pc_ite (fun _ => pc_some rfl) (fun _ => pc_some rfl)
theorem with_w (v0 v1 v2 : Int) (w : Wd) : PC (f_E_with v0 v1 v2 w) (fun _ u => u = w) := by
  unfold f_E_with
  exact pc_ite (fun _ => pc_some rfl) (fun _ => pc_some rfl)
theorem fa42 {P : Int} (hP : 0 ≤ P ∧ P ≤ 9) {m : Int} : ∀ (n : Nat) {w : Wd} {v2 v3 : Int}, w 5 3 = P → w 9 4 = m → PC (f_F_add_42 n v2 v3 w) (fun _ u => u 5 3 = P + 1 ∧ u 9 4 = m) := by
  intro n
  induction n with
  | zero => intros; exact pc_none
  | succ n ih =>
    intro w v2 v3 h3 h9
    rw [f_F_add_42]
    have w1 := w32_sp (w 5 3 + 1)
    refine pc_ite (fun _ => ?_) (fun _ => ?_)
    · refine pc_lw (fun u4 e4 => pc_some ⟨?_, ?_⟩)
      · rw [e4, st_eq]; omega
      · rw [e4, st_c (by decide)]; exact h9
    · refine pc_gd (fun _ => ?_)
      refine pc_call (has_w _ _ _) (fun r5 u6 q => ?_)
      rw [q]
      refine pc_call (with_w _ _ _ _) (fun r7 u8 q => ?_)
      rw [q]
      refine pc_gd (fun _ => ?_)
      refine pc_lw (fun u9 e9 => ?_)
      refine pc_let (fun x10 e10 => ?_)
      exact ih (by rw [e9, st_c (by decide)]; exact h3) (by rw [e9, st_c (by decide)]; exact h9)
theorem fadd {w : Wd} {v1 v2 : Int} (hP : 0 ≤ w 5 3 ∧ w 5 3 ≤ 9) : PC (f_F_add v1 v2 w) (fun _ u => u 5 3 = w 5 3 + 1 ∧ u 9 4 = w 9 4) := by
  unfold f_F_add
  refine pc_ite (fun _ => ?_) (fun c => by exfalso; omega)
  refine pc_gd (fun _ => ?_)
  refine pc_lw (fun u1 e1 => ?_)
  refine pc_gd (fun _ => ?_)
  refine pc_lw (fun u2 e2 => ?_)
  refine pc_gd (fun _ => ?_)
  refine pc_lw (fun u3 e3 => ?_)
  exact fa42 hP FU (by rw [e3, st_c (by decide), e2, st_c (by decide), e1, st_c (by decide)]) (by rw [e3, st_c (by decide), e2, st_c (by decide), e1, st_c (by decide)])
theorem fset {P m : Int} (hP : 0 ≤ P) (hm : P + m ≤ 10) : ∀ (n : Nat) {w : Wd} {v2 : Int}, 0 ≤ v2 → v2 ≤ m → w 5 3 = P + v2 → w 9 4 = m → PC (f_L_settle_2 n v2 w) (fun _ u => u 5 3 = P + m) := by
  intro n
  induction n with
  | zero => intros; exact pc_none
  | succ n ih =>
    intro w v2 i0 i1 h3 h9
    rw [f_L_settle_2]
    have w1 := w32_sp (v2 + 1)
    refine pc_ite (fun c => ?_) (fun c => ?_)
    · refine pc_lw (fun u1 e1 => ?_)
      refine pc_lw (fun u2 e2 => pc_some ?_)
      rw [e2, st_k (by decide), e1, st_k (by decide)]
      omega
    · refine pc_gd (fun _ => ?_)
      refine pc_gd (fun _ => ?_)
      refine pc_call (fadd (by omega)) (fun r3 u4 q => ?_)
      refine pc_let (fun x5 e5 => ?_)
      exact ih (by omega) (by omega) (by omega) (by omega)
theorem land_E {w : Wd} (hG : G md_E_land w w) : PC (f_E_land w) (fun r u => r = landA (sE (w 1 1) (w 2)) (w 1 1) (w 5 3) ∧ u 5 3 = w 5 3 + (if 0 < r then r else 0)) := by
  unfold f_E_land
  have a0 : (0 : Int) ≤ w 5 3 ∧ w 5 3 ≤ 10 := hG.1 5 3
  have hf : ∀ k, 0 ≤ w 2 k := fun k => (hG.1 2 k).1
  refine pc_call (pc_and (pc_ok (s_L_read (g_self hG) (by omega))) (lread hf a0 ⟨rfl, rfl, rfl⟩)) (fun r1 u2 q => ?_)
  obtain ⟨⟨_, gy⟩, ⟨_, _, h53⟩, q1, q2⟩ := q
  have g2 : G md_E_land w u2 := g_tr hG gy rfl
  have t3 : u2 5 3 = w 5 3 := congrFun h53 3
  refine pc_call (pc_ok (s_T_clear (g_self g2))) (fun r3 u4 q => ?_)
  obtain ⟨_, gy4, _⟩ := q
  have g4 : G md_E_land w u4 := g_tr g2 gy4 rfl
  have t4 : u4 5 3 = w 5 3 := (gy4.2.1 5 3 rfl).trans t3
  refine pc_ite (fun c => ?_) (fun c => ?_)
  · refine pc_some ⟨q1, ?_⟩
    rw [if_neg (by omega)]; omega
  · have hle : r1 ≤ 10 - w 5 3 := by
      rw [q1]
      unfold landA
      split
      · omega
      · exact lan_le _ _ _ a0.2 _ _ _ (Int.le_refl 0)
    have t9 : u4 9 4 = r1 := (gy4.2.1 9 4 rfl).trans (q2 (by omega))
    have hs : PC (f_L_settle u4) (fun _ u => u 5 3 = w 5 3 + r1) := by
      unfold f_L_settle
      exact fset a0.1 (by omega) FU (Int.le_refl 0) (by omega) (by omega) t9
    refine pc_call (pc_and (pc_ok (s_L_settle (g_self g4))) hs) (fun r5 u6 q => ?_)
    obtain ⟨⟨_, gy6⟩, h6⟩ := q
    refine pc_call (pc_ok (s_E_peopleCame (g_self (g_tr g4 gy6 rfl)))) (fun r7 u8 q => ?_)
    obtain ⟨_, gy8⟩ := q
    refine pc_some ⟨q1, ?_⟩
    rw [if_pos (by omega), gy8.2.1 5 3 rfl]; exact h6
