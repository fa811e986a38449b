/-! THE LAND'S LINES, READ BY BOTH: where each stops, what it answers -/
theorem st_row {w : Wd} {c c' k : Nat} {z : Int} (h : c' ≠ c) : st w c k z c' = w c' := funext fun _ => st_c h
theorem st_self (w : Wd) (c k : Nat) : st w c k (w c k) = w := by
  funext c' k'
  by_cases e : c' = c
  · subst e
    by_cases e2 : k' = k
    · subst e2; exact st_eq w c' k' _
    · exact st_k e2
  · exact st_c e
def sE (n : Int) (f : Nat → Int) (p : Int) : Int := if p < 0 then -1 else if p < n then (if p < 76 then f p.toNat else -2) else -1
def hR (n : Int) (f : Nat → Int) (p : Int) : Int := if n ≤ p then -1 else if (76 : Int) ≤ p then -1 else f p.toNat
theorem sE_lt {n : Int} {f : Nat → Int} {p : Int} (h : 0 ≤ sE n f p) : 0 ≤ p ∧ p < n ∧ p < 76 := by
  unfold sE at h
  by_cases h1 : p < 0
  · rw [if_pos h1] at h; omega
  · rw [if_neg h1] at h
    by_cases h2 : p < n
    · rw [if_pos h2] at h
      by_cases h3 : p < 76
      · omega
      · rw [if_neg h3] at h; omega
    · rw [if_neg h2] at h; omega
theorem hR_lt {n : Int} {f : Nat → Int} {p : Int} (h : 0 ≤ hR n f p) : p < n ∧ p < 76 := by
  unfold hR at h
  by_cases h1 : n ≤ p
  · rw [if_pos h1] at h; omega
  · rw [if_neg h1] at h
    by_cases h2 : (76 : Int) ≤ p
    · rw [if_pos h2] at h; omega
    · omega
theorem sE_end {n : Int} {f : Nat → Int} {p : Int} (hf : ∀ k, 0 ≤ f k) (h0 : 0 ≤ p) : sE n f p = -1 ↔ n ≤ p := by
  unfold sE
  rw [if_neg (by omega)]
  by_cases h2 : p < n
  · rw [if_pos h2]
    by_cases h3 : p < 76
    · rw [if_pos h3]; have := hf p.toNat; omega
    · rw [if_neg h3]; omega
  · rw [if_neg h2]; omega
def lt (s : Int → Int) (num : Int) : Nat → Int → Int
  | 0, p => p
  | k + 1, p => if s p = 97 + (num - ((k : Int) + 1)) then lt s num k (p + 1) else lt s num k p
def fnl (s : Int → Int) (p : Int) : Int := if s p = 33 then (if s (p + 1) = 63 then p + 2 else p + 1) else (if s p = 63 then p + 1 else p)
def en (s : Int → Int) (num p : Int) : Int := fnl s (lt s num num.toNat (p + 1))
def lan (s : Int → Int) (n a : Int) : Nat → Nat → Int → Int
  | 0, _, p => -1 - p
  | f + 1, j, p => if (10 : Int) ≤ a + j then -1 - p else if 48 ≤ s p ∧ s p ≤ 57 then (if n ≤ en s (a + j) p then (j : Int) + 1 else if s (en s (a + j) p) = 59 then lan s n a f (j + 1) (en s (a + j) p + 1) else -1 - en s (a + j) p) else -1 - p
def landA (s : Int → Int) (n a : Int) : Int := if n = 0 then 0 else lan s n a 11 0 0
theorem lt_ge (s : Int → Int) (num : Int) : ∀ (k : Nat) (p : Int), p ≤ lt s num k p := by
  intro k
  induction k with
  | zero => intro p; exact Int.le_refl p
  | succ k ih =>
    intro p
    rw [lt]
    by_cases h : s p = 97 + (num - ((k : Int) + 1))
    · rw [if_pos h]; have := ih (p + 1); omega
    · rw [if_neg h]; exact ih p
theorem fnl_ge (s : Int → Int) (p : Int) : p ≤ fnl s p := by
  unfold fnl
  split
  · split <;> omega
  · split <;> omega
theorem en_ge (s : Int → Int) (num p : Int) : p + 1 ≤ en s num p := Int.le_trans (lt_ge s num _ _) (fnl_ge s _)
theorem lan_le (s : Int → Int) (n a : Int) (ha : a ≤ 10) : ∀ (f j : Nat) (p : Int), 0 ≤ p → lan s n a f j p ≤ 10 - a := by
  intro f
  induction f with
  | zero => intro j p hp; rw [lan]; omega
  | succ f ih =>
    intro j p hp
    have h1 := en_ge s (a + j) p
    rw [lan]
    by_cases c1 : (10 : Int) ≤ a + j
    · rw [if_pos c1]; omega
    · rw [if_neg c1]
      by_cases c2 : 48 ≤ s p ∧ s p ≤ 57
      · rw [if_pos c2]
        by_cases c3 : n ≤ en s (a + j) p
        · rw [if_pos c3]; omega
        · rw [if_neg c3]
          by_cases c4 : s (en s (a + j) p) = 59
          · rw [if_pos c4]; exact ih _ _ (by omega)
          · rw [if_neg c4]; omega
      · rw [if_neg c2]; omega
theorem lt_le {s : Int → Int} {num : Int} (hs : ∀ p, 0 ≤ p → 0 ≤ s p → p < 76) : ∀ (k : Nat) {p : Int}, (k : Int) ≤ num → 0 ≤ p ∧ p ≤ 76 → lt s num k p ≤ 76 := by
  intro k
  induction k with
  | zero => intro p _ hp; exact hp.2
  | succ k ih =>
    intro p hk hp
    rw [lt]
    by_cases h : s p = 97 + (num - ((k : Int) + 1))
    · have := hs p hp.1 (by omega)
      rw [if_pos h]; exact ih (by omega) (by omega)
    · rw [if_neg h]; exact ih (by omega) hp
theorem fnl_le {s : Int → Int} (hs : ∀ p, 0 ≤ p → 0 ≤ s p → p < 76) {p : Int} (hp : 0 ≤ p ∧ p ≤ 76) : fnl s p ≤ 76 := by
  unfold fnl
  by_cases h : s p = 33
  · have h1 := hs p hp.1 (by omega)
    rw [if_pos h]
    by_cases h2 : s (p + 1) = 63
    · have h3 := hs (p + 1) (by omega) (by omega)
      rw [if_pos h2]; omega
    · rw [if_neg h2]; omega
  · rw [if_neg h]
    by_cases h2 : s p = 63
    · have h3 := hs p hp.1 (by omega)
      rw [if_pos h2]; omega
    · rw [if_neg h2]; omega
theorem sE_76 (n : Int) (f : Nat → Int) : ∀ p, 0 ≤ p → 0 ≤ sE n f p → p < 76 := fun _ _ h => (sE_lt h).2.2
theorem hR_76 (n : Int) (f : Nat → Int) : ∀ p, 0 ≤ p → 0 ≤ hR n f p → p < 76 := fun _ _ h => (hR_lt h).2
theorem en_le {s : Int → Int} {num p : Int} (hs : ∀ p, 0 ≤ p → 0 ≤ s p → p < 76) (h0 : 0 ≤ num) (hp : 0 ≤ p) (h : 0 ≤ s p) : en s num p ≤ 76 := by
  have h1 := hs p hp h
  exact fnl_le hs ⟨Int.le_trans (by omega) (lt_ge s num _ _), lt_le hs num.toNat (by omega) (by omega)⟩
theorem lt_none {s : Int → Int} {num : Int} : ∀ (k : Nat) {p : Int}, (∀ x : Int, num - k ≤ x → x < num → s p ≠ 97 + x) → lt s num k p = p := by
  intro k
  induction k with
  | zero => intro p _; rfl
  | succ k ih =>
    intro p h
    rw [lt, if_neg (h _ (by omega) (by omega))]
    exact ih (fun x h1 h2 => h x (by omega) h2)
theorem lt_skip {s : Int → Int} {num x p : Int} (hx : s p = 97 + x) (h2 : x < num) : ∀ (k : Nat), num - k ≤ x → lt s num k p = lt s num (num - x - 1).toNat (p + 1) := by
  intro k
  induction k with
  | zero => intro h; omega
  | succ k ih =>
    intro h
    rw [lt]
    by_cases e : x = num - ((k : Int) + 1)
    · rw [if_pos (by omega), show (num - x - 1).toNat = k by omega]
    · rw [if_neg (by omega)]
      exact ih (by omega)
/-! the class -/
def EV (n0 : Int) (f0 z0 : Nat → Int) (w : Wd) : Prop := w 1 1 = n0 ∧ w 2 = f0 ∧ w 5 = z0
theorem ev_st {n0 : Int} {f0 z0 : Nat → Int} {w u : Wd} {c k : Nat} {z : Int} (h : EV n0 f0 z0 w) (e : u = st w c k z) (hc : 1 ≠ c ∧ 2 ≠ c ∧ 5 ≠ c) : EV n0 f0 z0 u := by
  rw [e]
  exact ⟨(st_c hc.1).trans h.1, (st_row hc.2.1).trans h.2.1, (st_row hc.2.2).trans h.2.2⟩
theorem sa_pc {n0 : Int} {f0 z0 : Nat → Int} {w : Wd} (h : EV n0 f0 z0 w) (p : Int) : PC (f_T_signAt p 76 w) (fun r u => u = w ∧ r = sE n0 f0 p) := by
  unfold f_T_signAt sE
  rw [h.1, h.2.1]
  refine pc_ite (fun h => ?_) (fun h => ?_)
  · rw [if_pos h]; exact pc_some ⟨rfl, rfl⟩
  · rw [if_neg h]
    refine pc_ite (fun h1 => ?_) (fun h1 => ?_)
    · rw [if_pos h1]
      refine pc_ite (fun h2 => ?_) (fun h2 => ?_)
      · rw [if_pos h2]; exact pc_gd (fun _ => pc_some ⟨rfl, rfl⟩)
      · rw [if_neg h2]; exact pc_some ⟨rfl, rfl⟩
    · rw [if_neg h1]; exact pc_some ⟨rfl, rfl⟩
theorem tk_pc {n0 : Int} {f0 z0 : Nat → Int} {w : Wd} (h : EV n0 f0 z0 w) (c : Int) (h5 : 0 ≤ w 9 5 ∧ w 9 5 ≤ 76) : PC (f_L_take c w) (fun r u => (sE n0 f0 (w 9 5) = c ∧ r = 1 ∧ u = st w 9 5 (w 9 5 + 1)) ∨ (¬ sE n0 f0 (w 9 5) = c ∧ r = 0 ∧ u = w)) := by
  unfold f_L_take
  refine pc_call (sa_pc h (w 9 5)) (fun r1 u2 q => ?_)
  obtain ⟨q1, q2⟩ := q
  rw [q1]
  have w1 := w32_sp (w 9 5 + 1)
  have w2 := w32_sp (w 9 5 + 0)
  refine pc_ite (fun h1 => ?_) (fun h1 => ?_)
  · unfold f_L_take_19
    refine pc_ite (fun h2 => absurd h2 (by decide)) (fun _ => ?_)
    unfold f_L_take_34
    refine pc_lw (fun u3 e3 => ?_)
    refine pc_ite (fun _ => ?_) (fun _ => pc_none)
    rw [show w32 (w 9 5 + 1) = w 9 5 + 1 by omega] at e3
    exact pc_some (Or.inl ⟨q2.symm.trans h1, rfl, e3⟩)
  · unfold f_L_take_19
    refine pc_ite (fun _ => ?_) (fun h2 => absurd rfl h2)
    unfold f_L_take_34
    refine pc_lw (fun u3 e3 => ?_)
    refine pc_ite (fun _ => ?_) (fun _ => pc_none)
    rw [show w32 (w 9 5 + 0) = w 9 5 by omega, st_self] at e3
    exact pc_some (Or.inr ⟨fun h3 => h1 (q2.trans h3), rfl, e3⟩)
theorem l137 {n0 : Int} {f0 z0 : Nat → Int} {w : Wd} {v2 s1 s2 : Int} (h : EV n0 f0 z0 w) (h5 : 0 ≤ w 9 5 ∧ w 9 5 ≤ 76) (h4 : 0 ≤ w 9 4 ∧ w 9 4 ≤ 9) : PC (f_L_readLine_137 v2 s1 s2 w) (fun r u => r = 1 ∧ EV n0 f0 z0 u ∧ u 9 4 = w 9 4 + 1 ∧ u 9 5 = (if sE n0 f0 (w 9 5) = 63 then w 9 5 + 1 else w 9 5)) := by
  have k163 : ∀ {u : Wd} {s1 s2 : Int}, EV n0 f0 z0 u → u 9 4 = w 9 4 → PC (f_L_readLine_163 s1 s2 u) (fun r u' => r = 1 ∧ EV n0 f0 z0 u' ∧ u' 9 4 = w 9 4 + 1 ∧ u' 9 5 = u 9 5) := by
    intro u s1 s2 hu e4
    unfold f_L_readLine_163
    refine pc_lw (fun u11 e11 => ?_)
    have t4 : u11 9 4 = w 9 4 := by rw [e11, st_k (by decide)]; exact e4
    have w1 := w32_sp (u11 9 4 + 1)
    refine pc_lw (fun u12 e12 => ?_)
    refine pc_some ⟨rfl, ev_st (ev_st hu e11 (by decide)) e12 (by decide), ?_, ?_⟩
    · rw [e12, st_eq]; omega
    · rw [e12, st_k (by decide), e11, st_k (by decide)]
  unfold f_L_readLine_137
  refine pc_lw (fun u8 e8 => ?_)
  have t5 : u8 9 5 = w 9 5 := by rw [e8, st_k (by decide)]
  have t4 : u8 9 4 = w 9 4 := by rw [e8, st_k (by decide)]
  have h8 := ev_st h e8 (by decide)
  refine pc_call (tk_pc h8 63 (by omega)) (fun r9 u10 q => ?_)
  rw [t5] at q
  rcases q with ⟨q1, q2, q3⟩ | ⟨q1, q2, q3⟩
  · have h10 := ev_st h8 q3 (by decide)
    refine pc_ite (fun h => absurd (q2.symm.trans h) (by decide)) (fun _ => ?_)
    refine pc_w (k163 h10 (by rw [q3, st_k (by decide)]; exact t4)) (fun r u q => ⟨q.1, q.2.1, q.2.2.1, ?_⟩)
    rw [if_pos q1, q.2.2.2, q3, st_eq]
  · rw [q3]
    refine pc_ite (fun _ => ?_) (fun h => absurd q2 h)
    refine pc_w (k163 h8 t4) (fun r u q => ⟨q.1, q.2.1, q.2.2.1, ?_⟩)
    rw [if_neg q1, q.2.2.2, t5]
theorem l70 {n0 : Int} {f0 z0 : Nat → Int} {num : Int} (hn : 0 ≤ num ∧ num ≤ 9) : ∀ (n : Nat) {w : Wd} {v4 : Int} (k : Nat), v4 = num - k → 0 ≤ v4 → EV n0 f0 z0 w → (0 ≤ w 9 5 ∧ w 9 5 ≤ 76) → (0 ≤ w 9 4 ∧ w 9 4 ≤ 9) → PC (f_L_readLine_70 n num v4 w) (fun r u => r = 1 ∧ EV n0 f0 z0 u ∧ u 9 4 = w 9 4 + 1 ∧ u 9 5 = fnl (sE n0 f0) (lt (sE n0 f0) num k (w 9 5))) := by
  intro n
  induction n with
  | zero => intros; exact pc_none
  | succ n ih =>
    intro w v4 k hk i4 h h5 h4
    rw [f_L_readLine_70]
    refine pc_ite (fun hc => ?_) (fun hc => ?_)
    · have k0 : k = 0 := by omega
      subst k0
      have e0 : lt (sE n0 f0) num 0 (w 9 5) = w 9 5 := rfl
      rw [e0]
      refine pc_call (tk_pc h 33 h5) (fun r6 u7 q => ?_)
      rcases q with ⟨q1, q2, q3⟩ | ⟨q1, q2, q3⟩
      · have l5 := sE_lt (n := n0) (f := f0) (p := w 9 5) (by omega)
        refine pc_ite (fun h => absurd (q2.symm.trans h) (by decide)) (fun _ => ?_)
        have t5 : u7 9 5 = w 9 5 + 1 := by rw [q3, st_eq]
        have t4 : u7 9 4 = w 9 4 := by rw [q3, st_k (by decide)]
        refine pc_w (l137 (ev_st h q3 (by decide)) (by omega) (by omega)) (fun r u q => ⟨q.1, q.2.1, by rw [q.2.2.1, t4], ?_⟩)
        rw [q.2.2.2, t5]
        unfold fnl
        rw [if_pos q1]
        split <;> omega
      · refine pc_ite (fun _ => ?_) (fun h => absurd q2 h)
        rw [q3]
        refine pc_w (l137 h h5 h4) (fun r u q => ⟨q.1, q.2.1, q.2.2.1, ?_⟩)
        rw [q.2.2.2]
        unfold fnl
        rw [if_neg q1]
    · cases k with
      | zero => exfalso; omega
      | succ k =>
        refine pc_let (fun x13 e13 => ?_)
        refine pc_gd (fun _ => ?_)
        have w1 := w32_sp (97 + v4)
        have e97 : w32 (97 + v4) = 97 + (num - ((k : Int) + 1)) := by omega
        rw [e97]
        have nx : ∀ {u : Wd} {s1 s2 s3 : Int}, EV n0 f0 z0 u → (0 ≤ u 9 5 ∧ u 9 5 ≤ 76) → u 9 4 = w 9 4 → PC (f_L_readLine_107 (f_L_readLine_70 n) num v4 s1 s2 s3 u) (fun r u' => r = 1 ∧ EV n0 f0 z0 u' ∧ u' 9 4 = w 9 4 + 1 ∧ u' 9 5 = fnl (sE n0 f0) (lt (sE n0 f0) num k (u 9 5))) := by
          intro u s1 s2 s3 hu u5 u4
          unfold f_L_readLine_107
          refine pc_gd (fun _ => ?_)
          refine pc_lw (fun u16 e16 => ?_)
          have w2 := w32_sp (v4 + 1)
          refine pc_let (fun x17 e17 => ?_)
          have t5 : u16 9 5 = u 9 5 := by rw [e16, st_c (by decide)]
          have t4 : u16 9 4 = u 9 4 := by rw [e16, st_c (by decide)]
          refine pc_w (ih k (by omega) (by omega) (ev_st hu e16 (by decide)) (by omega) (by omega)) (fun r u' q => ⟨q.1, q.2.1, ?_, ?_⟩)
          · rw [q.2.2.1, t4, u4]
          · rw [q.2.2.2, t5]
        refine pc_call (tk_pc h _ h5) (fun r14 u15 q => ?_)
        rcases q with ⟨q1, q2, q3⟩ | ⟨q1, q2, q3⟩
        · have l5 := sE_lt (n := n0) (f := f0) (p := w 9 5) (by omega)
          refine pc_ite (fun h => absurd (q2.symm.trans h) (by decide)) (fun _ => ?_)
          have t5 : u15 9 5 = w 9 5 + 1 := by rw [q3, st_eq]
          rw [lt, if_pos q1, ← t5]
          exact nx (ev_st h q3 (by decide)) (by omega) (by rw [q3, st_k (by decide)])
        · refine pc_ite (fun _ => ?_) (fun h => absurd q2 h)
          rw [lt, if_neg q1, q3]
          exact nx h h5 rfl
theorem lrl {n0 : Int} {f0 z0 : Nat → Int} {num : Int} (hn : 0 ≤ num ∧ num ≤ 9) {w : Wd} (h : EV n0 f0 z0 w) (h5 : 0 ≤ w 9 5 ∧ w 9 5 ≤ 76) (h4 : 0 ≤ w 9 4 ∧ w 9 4 ≤ 9) : PC (f_L_readLine num w) (fun r u => EV n0 f0 z0 u ∧ ((¬ (48 ≤ sE n0 f0 (w 9 5) ∧ sE n0 f0 (w 9 5) ≤ 57) ∧ r = 0 ∧ u 9 5 = w 9 5) ∨ ((48 ≤ sE n0 f0 (w 9 5) ∧ sE n0 f0 (w 9 5) ≤ 57) ∧ r = 1 ∧ u 9 4 = w 9 4 + 1 ∧ u 9 5 = en (sE n0 f0) num (w 9 5)))) := by
  unfold f_L_readLine
  refine pc_call (sa_pc h (w 9 5)) (fun r1 u2 q => ?_)
  obtain ⟨q1, q2⟩ := q
  rw [q1]
  refine pc_ite (fun c1 => ?_) (fun c1 => ?_)
  · exact pc_some ⟨h, Or.inl ⟨by omega, rfl, rfl⟩⟩
  · refine pc_ite (fun c2 => ?_) (fun c2 => ?_)
    · exact pc_some ⟨h, Or.inl ⟨by omega, rfl, rfl⟩⟩
    · have l5 := sE_lt (n := n0) (f := f0) (p := w 9 5) (by omega)
      refine pc_ite (fun c3 => ?_) (fun c3 => ?_)
      · have w1 := w32_sp (w 9 5 + 1)
        refine pc_lw (fun u3 e3 => ?_)
        refine pc_gd (fun _ => ?_)
        refine pc_lw (fun u4 e4 => ?_)
        refine pc_gd (fun _ => ?_)
        refine pc_lw (fun u5 e5 => ?_)
        have t5 : u5 9 5 = w 9 5 + 1 := by rw [e5, st_c (by decide), e4, st_c (by decide), e3, st_eq]; omega
        have t4 : u5 9 4 = w 9 4 := by rw [e5, st_c (by decide), e4, st_c (by decide), e3, st_k (by decide)]
        refine pc_w (l70 hn FU num.toNat (by omega) (by omega) (ev_st (ev_st (ev_st h e3 (by decide)) e4 (by decide)) e5 (by decide)) (by omega) (by omega)) (fun r u q => ⟨q.2.1, Or.inr ⟨by omega, q.1, ?_, ?_⟩⟩)
        · rw [q.2.2.1, t4]
        · rw [q.2.2.2, t5]; rfl
      · exfalso; omega
theorem l31 {n0 : Int} {f0 z0 : Nat → Int} (hf : ∀ k, 0 ≤ f0 k) {a : Int} (ha : 0 ≤ a) : ∀ (n : Nat) {w : Wd} {v3 : Int} (f j : Nat), v3 = a + j → v3 ≤ 10 → 10 < a + j + f → EV n0 f0 z0 w → (0 ≤ w 9 5 ∧ w 9 5 ≤ 76) → w 9 4 = j → PC (f_L_read_31 n v3 w) (fun r u => EV n0 f0 z0 u ∧ r = lan (sE n0 f0) n0 a f j (w 9 5) ∧ (0 < r → u 9 4 = r)) := by
  intro n
  induction n with
  | zero => intros; exact pc_none
  | succ n ih =>
    intro w v3 f j hv h10 hfu h h5 h4
    cases f with
    | zero => exfalso; omega
    | succ f =>
      rw [f_L_read_31, lan]
      have w1 := w32_sp (-1 - w 9 5)
      refine pc_ite (fun c1 => ?_) (fun c1 => ?_)
      · rw [if_pos (by omega)]
        exact pc_some ⟨h, by omega, fun h0 => by omega⟩
      · rw [if_neg (by omega)]
        refine pc_call (lrl (by omega) h h5 (by omega)) (fun r5 u6 q => ?_)
        obtain ⟨h6, q⟩ := q
        rw [hv] at q
        rcases q with ⟨q1, q2, q3⟩ | ⟨q1, q2, q3, q4⟩
        · rw [if_neg q1]
          refine pc_ite (fun _ => ?_) (fun h => absurd q2 h)
          rw [q3]
          exact pc_some ⟨h6, by omega, fun h0 => by omega⟩
        · rw [if_pos q1]
          refine pc_ite (fun h => absurd (q2.symm.trans h) (by decide)) (fun _ => ?_)
          have b1 := en_ge (sE n0 f0) (a + j) (w 9 5)
          have b2 := en_le (sE_76 n0 f0) (num := a + j) (by omega) h5.1 (by omega)
          generalize en (sE n0 f0) (a + j) (w 9 5) = e at *
          refine pc_call (sa_pc h6 (u6 9 5)) (fun r7 u8 q => ?_)
          obtain ⟨p1, p2⟩ := q
          rw [p1]
          rw [q4] at p2
          have hE := sE_end (n := n0) (p := e) hf (by omega)
          have w2 := w32_sp (-1 - u6 9 5)
          have w3 := w32_sp (u6 9 5 + 1)
          have w4 := w32_sp (v3 + 1)
          refine pc_ite (fun c2 => ?_) (fun c2 => ?_)
          · rw [if_pos (hE.mp (p2.symm.trans c2))]
            exact pc_some ⟨h6, by omega, fun _ => rfl⟩
          · rw [if_neg (fun h9 => c2 (p2.trans (hE.mpr h9)))]
            refine pc_ite (fun c3 => ?_) (fun c3 => ?_)
            · have c4 := p2.symm.trans c3
              have l5 := sE_lt (n := n0) (f := f0) (p := e) (by omega)
              rw [if_pos c4]
              refine pc_lw (fun u9 e9 => ?_)
              refine pc_let (fun x10 e10 => ?_)
              have t5 : u9 9 5 = e + 1 := by rw [e9, st_eq]; omega
              have t4 : u9 9 4 = u6 9 4 := by rw [e9, st_k (by decide)]
              rw [← t5]
              exact ih f (j + 1) (by omega) (by omega) (by omega) (ev_st h6 e9 (by decide)) (by omega) (by omega)
            · rw [if_neg (fun h9 => c3 (p2.trans h9))]
              exact pc_some ⟨h6, by omega, fun h0 => by omega⟩
theorem lread {n0 : Int} {f0 z0 : Nat → Int} (hf : ∀ k, 0 ≤ f0 k) {a : Int} (ha : 0 ≤ a ∧ a ≤ 10) {w : Wd} (h : EV n0 f0 z0 w) : PC (f_L_read a w) (fun r u => EV n0 f0 z0 u ∧ r = landA (sE n0 f0) n0 a ∧ (0 < r → u 9 4 = r)) := by
  unfold f_L_read landA
  refine pc_lw (fun u1 e1 => ?_)
  refine pc_lw (fun u2 e2 => ?_)
  refine pc_lw (fun u3 e3 => ?_)
  refine pc_lw (fun u4 e4 => ?_)
  have h4 := ev_st (ev_st (ev_st (ev_st h e1 (by decide)) e2 (by decide)) e3 (by decide)) e4 (by decide)
  have t5 : u4 9 5 = 0 := by rw [e4, st_eq]
  have t4 : u4 9 4 = 0 := by rw [e4, st_k (by decide), e3, st_eq]
  rw [h4.1]
  refine pc_ite (fun c => ?_) (fun c => ?_)
  · rw [if_pos c]; exact pc_some ⟨h4, rfl, fun h0 => absurd h0 (by decide)⟩
  · rw [if_neg c]
    have h9 := l31 hf ha.1 FU 11 0 (v3 := a) (by omega) ha.2 (by omega) h4 (by omega) (by omega)
    rw [t5] at h9
    exact h9
theorem has_w (v0 v1 : Int) (w : Wd) : PC (f_E_has v0 v1 w) (fun _ u => u = w) := by
  unfold f_E_has
  refine pc_ite (fun _ => pc_some rfl) (fun _ => ?_)
  refine pc_ite (fun _ => pc_some rfl) (fun _ => ?_)
  exact pc_ite (fun _ => pc_some rfl) (fun _ => pc_some rfl)
theorem with_w (v0 v1 v2 : Int) (w : Wd) : PC (f_E_with v0 v1 v2 w) (fun _ u => u = w) := by
  unfold f_E_with
  exact pc_ite (fun _ => pc_some rfl) (fun _ => pc_some rfl)
theorem fa42 {P : Int} (hP : 0 ≤ P ∧ P ≤ 9) {m : Int} : ∀ (n : Nat) {w : Wd} {v2 v3 : Int}, w 5 3 = P → w 9 4 = m → PC (f_F_add_42 n v2 v3 w) (fun _ u => u 5 3 = P + 1 ∧ u 9 4 = m) := by
  intro n
  induction n with
  | zero => intros; exact pc_none
  | succ n ih =>
    intro w v2 v3 h3 h9
    rw [f_F_add_42]
    have w1 := w32_sp (w 5 3 + 1)
    refine pc_ite (fun _ => ?_) (fun _ => ?_)
    · refine pc_lw (fun u4 e4 => pc_some ⟨?_, ?_⟩)
      · rw [e4, st_eq]; omega
      · rw [e4, st_c (by decide)]; exact h9
    · refine pc_gd (fun _ => ?_)
      refine pc_call (has_w _ _ _) (fun r5 u6 q => ?_)
      rw [q]
      refine pc_call (with_w _ _ _ _) (fun r7 u8 q => ?_)
      rw [q]
      refine pc_gd (fun _ => ?_)
      refine pc_lw (fun u9 e9 => ?_)
      refine pc_let (fun x10 e10 => ?_)
      exact ih (by rw [e9, st_c (by decide)]; exact h3) (by rw [e9, st_c (by decide)]; exact h9)
theorem fadd {w : Wd} {v1 v2 : Int} (hP : 0 ≤ w 5 3 ∧ w 5 3 ≤ 9) : PC (f_F_add v1 v2 w) (fun _ u => u 5 3 = w 5 3 + 1 ∧ u 9 4 = w 9 4) := by
  unfold f_F_add
  refine pc_ite (fun _ => ?_) (fun c => by exfalso; omega)
  refine pc_gd (fun _ => ?_)
  refine pc_lw (fun u1 e1 => ?_)
  refine pc_gd (fun _ => ?_)
  refine pc_lw (fun u2 e2 => ?_)
  refine pc_gd (fun _ => ?_)
  refine pc_lw (fun u3 e3 => ?_)
  exact fa42 hP FU (by rw [e3, st_c (by decide), e2, st_c (by decide), e1, st_c (by decide)]) (by rw [e3, st_c (by decide), e2, st_c (by decide), e1, st_c (by decide)])
theorem fset {P m : Int} (hP : 0 ≤ P) (hm : P + m ≤ 10) : ∀ (n : Nat) {w : Wd} {v2 : Int}, 0 ≤ v2 → v2 ≤ m → w 5 3 = P + v2 → w 9 4 = m → PC (f_L_settle_2 n v2 w) (fun _ u => u 5 3 = P + m) := by
  intro n
  induction n with
  | zero => intros; exact pc_none
  | succ n ih =>
    intro w v2 i0 i1 h3 h9
    rw [f_L_settle_2]
    have w1 := w32_sp (v2 + 1)
    refine pc_ite (fun c => ?_) (fun c => ?_)
    · refine pc_lw (fun u1 e1 => ?_)
      refine pc_lw (fun u2 e2 => pc_some ?_)
      rw [e2, st_k (by decide), e1, st_k (by decide)]
      omega
    · refine pc_gd (fun _ => ?_)
      refine pc_gd (fun _ => ?_)
      refine pc_call (fadd (by omega)) (fun r3 u4 q => ?_)
      refine pc_let (fun x5 e5 => ?_)
      exact ih (by omega) (by omega) (by omega) (by omega)
theorem land_E {w : Wd} (hG : G md_E_land w w) : PC (f_E_land w) (fun r u => r = landA (sE (w 1 1) (w 2)) (w 1 1) (w 5 3) ∧ u 5 3 = w 5 3 + (if 0 < r then r else 0)) := by
  unfold f_E_land
  have a0 : (0 : Int) ≤ w 5 3 ∧ w 5 3 ≤ 10 := hG.1 5 3
  have hf : ∀ k, 0 ≤ w 2 k := fun k => (hG.1 2 k).1
  refine pc_call (pc_and (pc_ok (s_L_read (g_self hG) (by omega))) (lread hf a0 ⟨rfl, rfl, rfl⟩)) (fun r1 u2 q => ?_)
  obtain ⟨⟨_, gy⟩, ⟨_, _, h53⟩, q1, q2⟩ := q
  have g2 : G md_E_land w u2 := g_tr hG gy rfl
  have t3 : u2 5 3 = w 5 3 := congrFun h53 3
  refine pc_call (pc_ok (s_T_clear (g_self g2))) (fun r3 u4 q => ?_)
  obtain ⟨_, gy4, _⟩ := q
  have g4 : G md_E_land w u4 := g_tr g2 gy4 rfl
  have t4 : u4 5 3 = w 5 3 := (gy4.2.1 5 3 rfl).trans t3
  refine pc_ite (fun c => ?_) (fun c => ?_)
  · refine pc_some ⟨q1, ?_⟩
    rw [if_neg (by omega)]; omega
  · have hle : r1 ≤ 10 - w 5 3 := by
      rw [q1]
      unfold landA
      split
      · omega
      · exact lan_le _ _ _ a0.2 _ _ _ (Int.le_refl 0)
    have t9 : u4 9 4 = r1 := (gy4.2.1 9 4 rfl).trans (q2 (by omega))
    have hs : PC (f_L_settle u4) (fun _ u => u 5 3 = w 5 3 + r1) := by
      unfold f_L_settle
      exact fset a0.1 (by omega) FU (Int.le_refl 0) (by omega) (by omega) t9
    refine pc_call (pc_and (pc_ok (s_L_settle (g_self g4))) hs) (fun r5 u6 q => ?_)
    obtain ⟨⟨_, gy6⟩, h6⟩ := q
    refine pc_call (pc_ok (s_E_peopleCame (g_self (g_tr g4 gy6 rfl)))) (fun r7 u8 q => ?_)
    obtain ⟨_, gy8⟩ := q
    refine pc_some ⟨q1, ?_⟩
    rw [if_pos (by omega), gy8.2.1 5 3 rfl]; exact h6
/-! the reference -/
def RV (n0 : Int) (f0 : Nat → Int) (P0 : Int) (w : Wd) : Prop := w 43 17 = 52 ∧ w 43 18 = n0 ∧ w 43 19 = 76 ∧ w 51 = f0 ∧ w 43 0 = P0
theorem rv_st {n0 : Int} {f0 : Nat → Int} {P0 : Int} {w u : Wd} {c k : Nat} {z : Int} (h : RV n0 f0 P0 w) (e : u = st w c k z) (h51 : 51 ≠ c) (hc : 43 ≠ c ∨ (17 ≠ k ∧ 18 ≠ k ∧ 19 ≠ k ∧ 0 ≠ k)) : RV n0 f0 P0 u := by
  rw [e]
  obtain ⟨a1, a2, a3, a4, a5⟩ := h
  rcases hc with hc | ⟨k1, k2, k3, k4⟩
  · exact ⟨(st_c hc).trans a1, (st_c hc).trans a2, (st_c hc).trans a3, (st_row h51).trans a4, (st_c hc).trans a5⟩
  · exact ⟨(st_k k1).trans a1, (st_k k2).trans a2, (st_k k3).trans a3, (st_row h51).trans a4, (st_k k4).trans a5⟩
theorem here_pc {n0 : Int} {f0 : Nat → Int} {P0 : Int} {w : Wd} (h : RV n0 f0 P0 w) : PC (f_R_here w) (fun r u => u = w ∧ r = hR n0 f0 (w 43 20)) := by
  unfold f_R_here hR
  rw [h.1, h.2.1, h.2.2.1, h.2.2.2.1]
  refine pc_ite (fun c => ?_) (fun c => ?_)
  · rw [if_pos c]; exact pc_some ⟨rfl, rfl⟩
  · rw [if_neg c]
    refine pc_ite (fun c2 => ?_) (fun c2 => ?_)
    · rw [if_pos c2]; exact pc_some ⟨rfl, rfl⟩
    · rw [if_neg c2]
      exact pc_ite (fun _ => pc_gd (fun _ => pc_some ⟨rfl, rfl⟩)) (fun h => absurd rfl h)
theorem ps_pc {n0 : Int} {f0 : Nat → Int} {P0 : Int} {w : Wd} (h : RV n0 f0 P0 w) (c : Int) (h20 : 0 ≤ w 43 20 ∧ w 43 20 ≤ 76) : PC (f_R_passes c w) (fun r u => (w 43 21 = -1 ∧ hR n0 f0 (w 43 20) = c ∧ r = 1 ∧ u = st w 43 20 (w 43 20 + 1)) ∨ (¬ (w 43 21 = -1 ∧ hR n0 f0 (w 43 20) = c) ∧ r = 0 ∧ u = w)) := by
  unfold f_R_passes
  rw [fine_e, jc_s]
  have w1 := w32_sp (w 43 20 + 1)
  refine pc_ite (fun hf => ?_) (fun hf => ?_)
  · refine pc_some (Or.inr ⟨fun h2 => ?_, rfl, rfl⟩)
    rw [if_pos h2.1] at hf
    exact absurd hf (by decide)
  · have h21 : w 43 21 = -1 := by
      by_cases h2 : w 43 21 = -1
      · exact h2
      · rw [if_neg h2] at hf; exact absurd rfl hf
    refine pc_call (here_pc h) (fun r3 u4 q => ?_)
    obtain ⟨q1, q2⟩ := q
    rw [q1]
    refine pc_ite (fun c1 => ?_) (fun c1 => ?_)
    · refine pc_lw (fun u5 e5 => ?_)
      rw [show w32 (w 43 20 + 1) = w 43 20 + 1 by omega] at e5
      exact pc_some (Or.inl ⟨h21, q2.symm.trans c1, rfl, e5⟩)
    · exact pc_some (Or.inr ⟨fun h2 => c1 (q2.trans h2.2), rfl, rfl⟩)
theorem fl_pc (w : Wd) (v : Int) : PC (f_R_fault v w) (fun _ u => u = if w 43 21 = -1 then st w 43 21 v else w) := by
  unfold f_R_fault
  rw [fine_e, jc_s]
  by_cases h : w 43 21 = -1
  · rw [if_pos h, if_pos h]
    exact pc_ite (fun h => absurd h (by decide)) (fun _ => pc_lw (fun u3 e3 => pc_some e3))
  · rw [if_neg h, if_neg h]
    exact pc_ite (fun _ => pc_some rfl) (fun h => absurd rfl h)
theorem r142 {n0 : Int} {f0 : Nat → Int} {P0 : Int} {w : Wd} {v1 s1 s2 : Int} (h : RV n0 f0 P0 w) (h21 : w 43 21 = -1) (h20 : 0 ≤ w 43 20 ∧ w 43 20 ≤ 76) : PC (f_R_readOne_142 v1 s1 s2 w) (fun _ u => RV n0 f0 P0 u ∧ u 43 21 = -1 ∧ u 43 20 = (if hR n0 f0 (w 43 20) = 63 then w 43 20 + 1 else w 43 20)) := by
  unfold f_R_readOne_142
  refine pc_gd (fun _ => ?_)
  refine pc_lw (fun u16 e16 => ?_)
  have h16 := rv_st h e16 (by decide) (Or.inl (by decide))
  have t20 : u16 43 20 = w 43 20 := by rw [e16, st_c (by decide)]
  have t21 : u16 43 21 = -1 := by rw [e16, st_c (by decide)]; exact h21
  refine pc_call (ps_pc h16 63 (by omega)) (fun r17 u18 q => ?_)
  rw [t20] at q
  refine pc_gd (fun _ => ?_)
  refine pc_lw (fun u19 e19 => ?_)
  rcases q with ⟨_, q1, _, q3⟩ | ⟨q1, _, q3⟩
  · refine pc_some ⟨rv_st (rv_st h16 q3 (by decide) (Or.inr (by decide))) e19 (by decide) (Or.inl (by decide)), ?_, ?_⟩
    · rw [e19, st_c (by decide), q3, st_k (by decide)]; exact t21
    · rw [if_pos q1, e19, st_c (by decide), q3, st_eq]
  · rw [q3] at e19
    refine pc_some ⟨rv_st h16 e19 (by decide) (Or.inl (by decide)), ?_, ?_⟩
    · rw [e19, st_c (by decide)]; exact t21
    · rw [if_neg (fun h2 => q1 ⟨t21, h2⟩), e19, st_c (by decide)]; exact t20
/-- behind the letters: a letter that can't stand there, or the marks -/
def RO (h : Int → Int) (p : Int) (u : Wd) : Prop := ((97 ≤ h p ∧ h p ≤ 106) ∧ u 43 21 = p ∧ u 43 20 = p) ∨ (¬ (97 ≤ h p ∧ h p ≤ 106) ∧ u 43 21 = -1 ∧ u 43 20 = fnl h p)
theorem rr55 {n0 : Int} {f0 : Nat → Int} {P0 : Int} {v1 : Int} (i1 : 0 ≤ v1 ∧ v1 ≤ 9) : ∀ (n : Nat) {w : Wd} {v2 : Int} (k : Nat), v2 + 1 = v1 - k → -1 ≤ v2 → RV n0 f0 P0 w → w 43 21 = -1 → (0 ≤ w 43 20 ∧ w 43 20 ≤ 76) → PC (f_R_readOne_55 n v1 v2 w) (fun _ u => RV n0 f0 P0 u ∧ RO (hR n0 f0) (lt (hR n0 f0) v1 k (w 43 20)) u) := by
  intro n
  induction n with
  | zero => intros; exact pc_none
  | succ n ih =>
    intro w v2 k hk i2 h h21 h20
    rw [f_R_readOne_55]
    refine pc_call (here_pc h) (fun r10 u11 q => ?_)
    obtain ⟨q1, q2⟩ := q
    rw [q1, in_e, jc_s]
    refine pc_ite (fun hc => ?_) (fun hc => ?_)
    · have hn : ¬ (97 ≤ r10 ∧ r10 ≤ 106) := fun h2 => by rw [if_pos h2] at hc; exact absurd hc (by decide)
      have e0 : lt (hR n0 f0) v1 k (w 43 20) = w 43 20 := lt_none k (fun x h1 h2 e => hn (by omega))
      rw [e0]
      have hn' : ¬ (97 ≤ hR n0 f0 (w 43 20) ∧ hR n0 f0 (w 43 20) ≤ 106) := by rw [← q2]; exact hn
      refine pc_call (ps_pc h 33 h20) (fun r14 u15 q => ?_)
      rcases q with ⟨_, p1, p2, p3⟩ | ⟨p1, p2, p3⟩
      · have l5 := hR_lt (n := n0) (f := f0) (p := w 43 20) (by omega)
        have t20 : u15 43 20 = w 43 20 + 1 := by rw [p3, st_eq]
        refine pc_ite (fun h => absurd (p2.symm.trans h) (by decide)) (fun _ => ?_)
        refine pc_w (r142 (rv_st h p3 (by decide) (Or.inr (by decide))) (by rw [p3, st_k (by decide)]; exact h21) (by omega)) (fun r u q => ⟨q.1, Or.inr ⟨hn', q.2.1, ?_⟩⟩)
        rw [q.2.2, t20]
        unfold fnl
        rw [if_pos p1]
        split <;> omega
      · refine pc_ite (fun _ => ?_) (fun h => absurd p2 h)
        rw [p3]
        refine pc_w (r142 h h21 h20) (fun r u q => ⟨q.1, Or.inr ⟨hn', q.2.1, ?_⟩⟩)
        rw [q.2.2]
        unfold fnl
        rw [if_neg (fun h2 => p1 ⟨h21, h2⟩)]
    · have hl : 97 ≤ r10 ∧ r10 ≤ 106 := by
        by_cases h2 : 97 ≤ r10 ∧ r10 ≤ 106
        · exact h2
        · rw [if_neg h2] at hc; exact absurd rfl hc
      have l5 := hR_lt (n := n0) (f := f0) (p := w 43 20) (by omega)
      have f87 : lt (hR n0 f0) v1 k (w 43 20) = w 43 20 → PC (f_R_readOne_87 w) (fun _ u => RV n0 f0 P0 u ∧ RO (hR n0 f0) (lt (hR n0 f0) v1 k (w 43 20)) u) := by
        intro e0
        rw [e0]
        unfold f_R_readOne_87
        refine pc_call (fl_pc w (w 43 20)) (fun r23 u24 q => ?_)
        rw [if_pos h21] at q
        refine pc_some ⟨rv_st h q (by decide) (Or.inr (by decide)), Or.inl ⟨by omega, ?_, ?_⟩⟩
        · rw [q, st_eq]
        · rw [q, st_k (by decide)]
      refine pc_call (here_pc h) (fun r20 u21 q => ?_)
      obtain ⟨p1, p2⟩ := q
      rw [p1]
      have w1 := w32_sp (r20 - 97)
      refine pc_let (fun x22 e22 => ?_)
      have e23 : hR n0 f0 (w 43 20) = 97 + x22 := by omega
      refine pc_ite (fun c1 => ?_) (fun c1 => ?_)
      · exact f87 (lt_none k (fun x h1 h2 e => by omega))
      · refine pc_ite (fun c2 => ?_) (fun c2 => ?_)
        · refine pc_gd (fun _ => ?_)
          refine pc_gd (fun _ => ?_)
          refine pc_lw (fun u25 e25 => ?_)
          have t20 : u25 43 20 = w 43 20 := by rw [e25, st_c (by decide)]
          have w2 := w32_sp (u25 43 20 + 1)
          refine pc_lw (fun u26 e26 => ?_)
          have t26 : u26 43 20 = w 43 20 + 1 := by rw [e26, st_eq]; omega
          rw [lt_skip e23 c2 k (by omega), ← t26]
          exact ih (v1 - x22 - 1).toNat (by omega) (by omega) (rv_st (rv_st h e25 (by decide) (Or.inl (by decide))) e26 (by decide) (Or.inr (by decide))) (by rw [e26, st_k (by decide), e25, st_c (by decide)]; exact h21) (by omega)
        · exact f87 (lt_none k (fun x h1 h2 e => by omega))
theorem rrl {n0 : Int} {f0 : Nat → Int} {P0 : Int} {v1 : Int} (i1 : 0 ≤ v1 ∧ v1 ≤ 9) {w : Wd} (h : RV n0 f0 P0 w) (h21 : w 43 21 = -1) (h20 : 0 ≤ w 43 20 ∧ w 43 20 ≤ 76) : PC (f_R_readOne v1 w) (fun _ u => RV n0 f0 P0 u ∧ ((¬ (48 ≤ hR n0 f0 (w 43 20) ∧ hR n0 f0 (w 43 20) ≤ 57) ∧ u 43 21 = w 43 20 ∧ u 43 20 = w 43 20) ∨ ((48 ≤ hR n0 f0 (w 43 20) ∧ hR n0 f0 (w 43 20) ≤ 57) ∧ RO (hR n0 f0) (lt (hR n0 f0) v1 v1.toNat (w 43 20 + 1)) u))) := by
  unfold f_R_readOne
  refine pc_call (here_pc h) (fun r1 u2 q => ?_)
  obtain ⟨q1, q2⟩ := q
  rw [q1, in_e, jc_s]
  refine pc_ite (fun hc => ?_) (fun hc => ?_)
  · have hn : ¬ (48 ≤ r1 ∧ r1 ≤ 57) := fun h2 => by rw [if_pos h2] at hc; exact absurd hc (by decide)
    refine pc_call (fl_pc w (w 43 20)) (fun r27 u28 q => ?_)
    rw [if_pos h21] at q
    refine pc_some ⟨rv_st h q (by decide) (Or.inr (by decide)), Or.inl ⟨by rw [← q2]; exact hn, ?_, ?_⟩⟩
    · rw [q, st_eq]
    · rw [q, st_k (by decide)]
  · have hl : 48 ≤ r1 ∧ r1 ≤ 57 := by
      by_cases h2 : 48 ≤ r1 ∧ r1 ≤ 57
      · exact h2
      · rw [if_neg h2] at hc; exact absurd rfl hc
    have l5 := hR_lt (n := n0) (f := f0) (p := w 43 20) (by omega)
    refine pc_call (here_pc h) (fun r5 u6 q => ?_)
    obtain ⟨p1, p2⟩ := q
    rw [p1]
    refine pc_gd (fun _ => ?_)
    refine pc_lw (fun u7 e7 => ?_)
    have t20 : u7 43 20 = w 43 20 := by rw [e7, st_c (by decide)]
    have w2 := w32_sp (u7 43 20 + 1)
    refine pc_lw (fun u8 e8 => ?_)
    refine pc_gd (fun _ => ?_)
    refine pc_lw (fun u9 e9 => ?_)
    have t9 : u9 43 20 = w 43 20 + 1 := by rw [e9, st_c (by decide), e8, st_eq]; omega
    refine pc_w (rr55 i1 FU v1.toNat (by omega) (by omega) (rv_st (rv_st (rv_st h e7 (by decide) (Or.inl (by decide))) e8 (by decide) (Or.inr (by decide))) e9 (by decide) (Or.inl (by decide))) (by rw [e9, st_c (by decide), e8, st_k (by decide), e7, st_c (by decide)]; exact h21) (by omega)) (fun r u q => ⟨q.1, Or.inr ⟨by rw [← q2]; exact hl, ?_⟩⟩)
    rw [← t9]; exact q.2
theorem r132 {b : Wd} {v1 v3 : Int} (hv : 0 ≤ v1 ∧ v1 ≤ 10) : ∀ (n : Nat) {w : Wd} {v4 : Int}, 0 ≤ v4 → G md_R_land b w → (0 ≤ w 43 56 ∧ w 43 56 ≤ 10) → PC (f_R_land_132 n v1 v3 v4 w) (fun r u => r = v3 ∧ u 43 0 = v1 ∧ u 43 56 = w 43 56 + 1) := by
  intro n
  induction n with
  | zero => intros; exact pc_none
  | succ n ih =>
    intro w v4 i4 hG h56
    rw [f_R_land_132]
    refine pc_ite (fun h => ?_) (fun h => ?_)
    · refine pc_lw (fun u10 e10 => ?_)
      have g10 : G md_R_land b u10 := g_st hG e10 rfl rfl (show (0 : Int) ≤ v1 ∧ v1 ≤ 10 by omega)
      have t56 : u10 43 56 = w 43 56 := by rw [e10, st_k (by decide)]
      refine pc_call (pc_and (pc_ok (s_R_told (g_self g10))) (told_pc (g_self g10) (by omega))) (fun r11 u12 q => ?_)
      obtain ⟨⟨_, gy, _⟩, _, q56⟩ := q
      refine pc_some ⟨rfl, ?_, by omega⟩
      rw [gy.2.1 43 0 rfl, e10, st_eq]
    · refine pc_gd (fun _ => ?_)
      refine pc_gd (fun _ => ?_)
      refine pc_gd (fun _ => ?_)
      refine pc_gd (fun _ => ?_)
      have a53 : (0 : Int) ≤ (w 53 (v4).toNat) ∧ (w 53 (v4).toNat) ≤ 9 := hG.1 53 (v4).toNat
      have a54 : (0 : Int) ≤ (w 54 (v4).toNat) ∧ (w 54 (v4).toNat) ≤ 511 := hG.1 54 (v4).toNat
      have a55 : (0 : Int) ≤ (w 55 (v4).toNat) ∧ (w 55 (v4).toNat) ≤ 1 := hG.1 55 (v4).toNat
      have a56 : (0 : Int) ≤ (w 56 (v4).toNat) ∧ (w 56 (v4).toNat) ≤ 1 := hG.1 56 (v4).toNat
      refine pc_call (pc_ok (s_R_add (g_self hG) (by omega) (by omega) (by omega) (by omega) (by omega))) (fun r13 u14 q => ?_)
      obtain ⟨_, gy⟩ := q
      have w1 := w32_sp (v4 + 1)
      refine pc_let (fun x15 e15 => ?_)
      have t56 : u14 43 56 = w 43 56 := gy.2.1 43 56 rfl
      rw [← t56]
      exact ih (by omega) (g_tr hG gy rfl) (by omega)
theorem r105 {b : Wd} {v1 : Int} (hv : 0 ≤ v1 ∧ v1 ≤ 11) {w : Wd} (hG : G md_R_land b w) (h56 : 0 ≤ w 43 56 ∧ w 43 56 ≤ 10) (h10 : v1 ≤ 10 ∨ ¬ w 43 21 = -1) : PC (f_R_land_105 v1 w) (fun r u => if w 43 21 = -1 then r = v1 - w 43 0 ∧ u 43 0 = v1 ∧ u 43 56 = w 43 56 + 1 else r = -1 - w 43 21 ∧ u 43 0 = w 43 0 ∧ u 43 56 = w 43 56) := by
  unfold f_R_land_105
  have a0 : (0 : Int) ≤ w 43 0 ∧ w 43 0 ≤ 10 := hG.1 43 0
  have a21 : (-1 : Int) ≤ w 43 21 ∧ w 43 21 ≤ 80 := hG.1 43 21
  have w1 := w32_sp (-1 - w 43 21)
  have w2 := w32_sp (v1 - w 43 0)
  rw [fine_e, jc_s]
  by_cases h : w 43 21 = -1
  · rw [if_pos h]
    refine pc_ite (fun h => absurd h (by decide)) (fun _ => ?_)
    refine pc_let (fun x8 e8 => ?_)
    refine pc_let (fun x9 e9 => ?_)
    have hv10 : v1 ≤ 10 := h10.resolve_right (fun h2 => h2 h)
    refine pc_w (r132 (v3 := x8) ⟨hv.1, hv10⟩ FU (by omega) hG h56) (fun r u q => ?_)
    rw [if_pos h]
    exact ⟨by omega, q.2⟩
  · rw [if_neg h]
    refine pc_ite (fun _ => ?_) (fun h => absurd rfl h)
    refine pc_some ?_
    rw [if_neg h]
    exact ⟨by omega, rfl, rfl⟩
theorem r86 {b : Wd} {v1 : Int} (hv : 0 ≤ v1 ∧ v1 ≤ 11) {w : Wd} (hG : G md_R_land b w) (h56 : 0 ≤ w 43 56 ∧ w 43 56 ≤ 10) (h10 : v1 ≤ 10 ∨ ¬ w 43 21 = -1) : PC (f_R_land_86 v1 w) (fun r u => if w 43 21 = -1 then (if w 43 18 ≤ w 43 20 then r = v1 - w 43 0 ∧ u 43 0 = v1 ∧ u 43 56 = w 43 56 + 1 else r = -1 - w 43 20 ∧ u 43 0 = w 43 0 ∧ u 43 56 = w 43 56) else r = -1 - w 43 21 ∧ u 43 0 = w 43 0 ∧ u 43 56 = w 43 56) := by
  unfold f_R_land_86
  have a20 : (0 : Int) ≤ w 43 20 ∧ w 43 20 ≤ 80 := hG.1 43 20
  refine pc_ite (fun c => ?_) (fun c => ?_)
  · refine pc_w (r105 hv hG h56 h10) (fun r u q => ?_)
    rw [if_pos c]; exact q
  · refine pc_call (pc_and (pc_ok (s_R_fault (g_self hG) a20 a20.1)) (fl_pc w (w 43 20))) (fun r16 u17 q => ?_)
    obtain ⟨⟨_, gy, hn⟩, q⟩ := q
    have t56 : u17 43 56 = w 43 56 := gy.2.1 43 56 rfl
    refine pc_w (r105 hv (g_tr hG gy rfl) (by omega) (Or.inr hn)) (fun r u p => ?_)
    rw [if_neg hn, gy.2.1 43 0 rfl, t56] at p
    by_cases h : w 43 21 = -1
    · rw [if_pos h, if_neg c]
      rw [if_pos h] at q
      rw [q, st_eq] at p
      exact p
    · rw [if_neg h]
      rw [if_neg h] at q
      rw [q] at p
      exact p
theorem r40z {b : Wd} {v1 : Int} (hv : 0 ≤ v1 ∧ v1 ≤ 11) (n : Nat) {w : Wd} (hG : G md_R_land b w) (h56 : 0 ≤ w 43 56 ∧ w 43 56 ≤ 10) (h10 : v1 ≤ 10 ∨ ¬ w 43 21 = -1) : PC (f_R_land_40 n v1 0 w) (fun r u => if w 43 21 = -1 then (if w 43 18 ≤ w 43 20 then r = v1 - w 43 0 ∧ u 43 0 = v1 ∧ u 43 56 = w 43 56 + 1 else r = -1 - w 43 20 ∧ u 43 0 = w 43 0 ∧ u 43 56 = w 43 56) else r = -1 - w 43 21 ∧ u 43 0 = w 43 0 ∧ u 43 56 = w 43 56) := by
  cases n with
  | zero => exact pc_none
  | succ n =>
    rw [f_R_land_40]
    exact pc_ite (fun _ => r86 hv hG h56 h10) (fun h => absurd rfl h)
theorem r40 {b : Wd} {n0 : Int} {f0 : Nat → Int} {P0 C0 : Int} (hP : 0 ≤ P0) (hC : 0 ≤ C0 ∧ C0 ≤ 10) : ∀ (n : Nat) {w : Wd} {v1 : Int} (f j : Nat), v1 = P0 + j → v1 ≤ 10 → 10 < v1 + f → G md_R_land b w → RV n0 f0 P0 w → w 43 21 = -1 → (0 ≤ w 43 20 ∧ w 43 20 ≤ 76) → w 43 56 = C0 → PC (f_R_land_40 n v1 1 w) (fun r u => r = lan (hR n0 f0) n0 P0 f j (w 43 20) ∧ u 43 0 = P0 + (if 0 < r then r else 0) ∧ u 43 56 = C0 + (if 0 < r then 1 else 0)) := by
  intro n
  induction n with
  | zero => intros; exact pc_none
  | succ n ih =>
    intro w v1 f j hv h10 hfu hG h h21 h20 h56
    cases f with
    | zero => exfalso; omega
    | succ f =>
      rw [f_R_land_40, lan]
      have w1 := w32_sp (v1 + 1)
      refine pc_ite (fun h => absurd h (by decide)) (fun _ => ?_)
      rw [fine_e, jc_s, if_pos h21]
      refine pc_ite (fun h => absurd h (by decide)) (fun _ => ?_)
      -- no more is to come: a fault at place x
      have stop : ∀ {u : Wd} {x : Int}, G md_R_land b u → RV n0 f0 P0 u → u 43 21 = x → 0 ≤ x → (0 ≤ u 43 20 ∧ u 43 20 ≤ 76) → u 43 56 = C0 → PC (f_R_land_73 (f_R_land_40 n) v1 u) (fun r u' => r = -1 - x ∧ u' 43 0 = P0 + (if 0 < r then r else 0) ∧ u' 43 56 = C0 + (if 0 < r then 1 else 0)) := by
        intro u x gu hu ux x0 u20 u56
        unfold f_R_land_73
        refine pc_let (fun x22 e22 => ?_)
        refine pc_call (pc_and (pc_ok (s_R_passes (g_self gu) (by decide) (Or.inl hu.1) (by decide))) (ps_pc hu 59 u20)) (fun r23 u24 q => ?_)
        obtain ⟨⟨_, gy, _⟩, q⟩ := q
        rcases q with ⟨q0, _⟩ | ⟨_, q2, q3⟩
        · exfalso; omega
        · rw [q2, q3]
          have hne : ¬ u 43 21 = -1 := by omega
          refine pc_w (r40z (by omega) n gu (by omega) (Or.inr hne)) (fun r u' p => ?_)
          rw [if_neg hne, ux, hu.2.2.2.2] at p
          refine ⟨p.1, ?_, ?_⟩
          · rw [if_neg (by omega)]; omega
          · rw [if_neg (by omega)]; omega
      refine pc_ite (fun c1 => ?_) (fun c1 => ?_)
      · rw [if_pos (by omega)]
        refine pc_call (pc_and (pc_ok (s_R_fault (g_self hG) (by omega) h20.1)) (fl_pc w (w 43 20))) (fun r25 u26 q => ?_)
        obtain ⟨⟨_, gy, _⟩, q⟩ := q
        rw [if_pos h21] at q
        have t20 : u26 43 20 = w 43 20 := by rw [q, st_k (by decide)]
        exact stop (g_tr hG gy rfl) (rv_st h q (by decide) (Or.inr (by decide))) (by rw [q, st_eq]) h20.1 (by omega) (by rw [q, st_k (by decide)]; exact h56)
      · rw [if_neg (by omega)]
        refine pc_call (pc_and (pc_ok (s_R_readOne (g_self hG) (by omega) h.1)) (rrl (by omega) h h21 h20)) (fun r20 u21 q => ?_)
        obtain ⟨⟨_, gy⟩, hu, q⟩ := q
        have gu : G md_R_land b u21 := g_tr hG gy rfl
        rcases q with ⟨q1, q2, q3⟩ | ⟨q1, q⟩
        · rw [if_neg q1]
          exact stop gu hu q2 h20.1 (by omega) (by rw [gy.2.1 43 56 rfl]; exact h56)
        · rw [if_pos q1]
          have l5 := hR_lt (n := n0) (f := f0) (p := w 43 20) (by omega)
          have b1 := lt_ge (hR n0 f0) v1 v1.toNat (w 43 20 + 1)
          have b2 := lt_le (hR_76 n0 f0) (num := v1) v1.toNat (p := w 43 20 + 1) (by omega) (by omega)
          have b3 := fnl_le (hR_76 n0 f0) (p := lt (hR n0 f0) v1 v1.toNat (w 43 20 + 1)) (by omega)
          have b4 := fnl_ge (hR n0 f0) (lt (hR n0 f0) v1 v1.toNat (w 43 20 + 1))
          have ee : en (hR n0 f0) (P0 + j) (w 43 20) = fnl (hR n0 f0) (lt (hR n0 f0) v1 v1.toNat (w 43 20 + 1)) := by rw [hv]; rfl
          rw [ee]
          generalize lt (hR n0 f0) v1 v1.toNat (w 43 20 + 1) = x at *
          rcases q with ⟨p1, p2, p3⟩ | ⟨p1, p2, p3⟩
          · have ef : fnl (hR n0 f0) x = x := by
              unfold fnl
              rw [if_neg (by omega), if_neg (by omega)]
            have l6 := hR_lt (n := n0) (f := f0) (p := x) (by omega)
            rw [ef, if_neg (by omega), if_neg (by omega)]
            exact stop gu hu p2 (by omega) (by omega) (by rw [gy.2.1 43 56 rfl]; exact h56)
          · generalize fnl (hR n0 f0) x = e at *
            unfold f_R_land_73
            refine pc_let (fun x22 e22 => ?_)
            refine pc_call (pc_and (pc_ok (s_R_passes (g_self gu) (by decide) (Or.inl hu.1) (by decide))) (ps_pc hu 59 (by omega))) (fun r23 u24 q => ?_)
            obtain ⟨⟨_, gy2, _⟩, q⟩ := q
            rw [p3] at q
            rcases q with ⟨_, c2, q2, q3⟩ | ⟨q1', q2, q3⟩
            · have l6 := hR_lt (n := n0) (f := f0) (p := e) (by omega)
              rw [if_neg (by omega), if_pos c2, q2]
              have t20 : u24 43 20 = e + 1 := by rw [q3, st_eq]
              rw [← t20]
              have e22' : x22 = v1 + 1 := by omega
              rw [e22']
              exact ih f (j + 1) (by omega) (by omega) (by omega) (g_tr gu gy2 rfl) (rv_st hu q3 (by decide) (Or.inr (by decide))) (by rw [q3, st_k (by decide)]; exact p2) (by omega) (by rw [gy2.2.1 43 56 rfl, gy.2.1 43 56 rfl]; exact h56)
            · have c2 : ¬ hR n0 f0 e = 59 := fun h2 => q1' ⟨p2, h2⟩
              rw [if_neg c2, q2, q3]
              have t56 : u21 43 56 = w 43 56 := gy.2.1 43 56 rfl
              refine pc_w (r40z (by omega) n gu (by omega) (Or.inl (by omega))) (fun r u' p => ?_)
              rw [if_pos p2, hu.2.1, p3, hu.2.2.2.2] at p
              by_cases c3 : n0 ≤ e
              · rw [if_pos c3] at p ⊢
                refine ⟨by omega, ?_, ?_⟩
                · rw [if_pos (by omega)]; omega
                · rw [if_pos (by omega)]; omega
              · rw [if_neg c3] at p ⊢
                refine ⟨p.1, ?_, ?_⟩
                · rw [if_neg (by omega)]; omega
                · rw [if_neg (by omega)]; omega
theorem land_R {w : Wd} (hG : G md_R_land w w) (h56 : 0 ≤ w 43 56 ∧ w 43 56 ≤ 10) : PC (f_R_land w) (fun r u => r = landA (hR (w 43 13) (w 51)) (w 43 13) (w 43 0) ∧ u 43 0 = w 43 0 + (if 0 < r then r else 0) ∧ u 43 56 = w 43 56 + (if 0 < r then 1 else 0)) := by
  unfold f_R_land landA
  have a0 : (0 : Int) ≤ w 43 0 ∧ w 43 0 ≤ 10 := hG.1 43 0
  refine pc_lw (fun u1 e1 => ?_)
  have g1 : G md_R_land w u1 := g_st hG e1 rfl rfl (show (0 : Int) ≤ 0 ∧ (0 : Int) ≤ 1 by decide)
  have a13 : (0 : Int) ≤ u1 43 13 ∧ u1 43 13 ≤ 80 := g1.1 43 13
  have t13 : u1 43 13 = w 43 13 := by rw [e1, st_k (by decide)]
  have t0 : u1 43 0 = w 43 0 := by rw [e1, st_k (by decide)]
  have t51 : u1 51 = w 51 := by rw [e1]; exact st_row (by decide)
  have q1 : PC (f_R_begin1_43_51 (u1 43 13) 76 u1) (fun _ u => RV (w 43 13) (w 51) (w 43 0) u ∧ u 43 20 = 0 ∧ u 43 21 = -1) := by
    unfold f_R_begin1_43_51
    refine pc_lw (fun x1 y1 => ?_)
    refine pc_lw (fun x2 y2 => ?_)
    refine pc_lw (fun x3 y3 => ?_)
    refine pc_lw (fun x4 y4 => ?_)
    refine pc_lw (fun x5 y5 => ?_)
    refine pc_some ⟨⟨?_, ?_, ?_, ?_, ?_⟩, ?_, ?_⟩
    · rw [y5, st_k (by decide), y4, st_k (by decide), y3, st_k (by decide), y2, st_k (by decide), y1, st_eq]
    · rw [y5, st_k (by decide), y4, st_k (by decide), y3, st_k (by decide), y2, st_eq]; exact t13
    · rw [y5, st_k (by decide), y4, st_k (by decide), y3, st_eq]
    · rw [y5, st_row (by decide), y4, st_row (by decide), y3, st_row (by decide), y2, st_row (by decide), y1, st_row (by decide)]; exact t51
    · rw [y5, st_k (by decide), y4, st_k (by decide), y3, st_k (by decide), y2, st_k (by decide), y1, st_k (by decide)]; exact t0
    · rw [y5, st_k (by decide), y4, st_eq]
    · rw [y5, st_eq]
  refine pc_call (pc_and (pc_ok (s_R_begin1_43_51 (g_self g1) (by omega) (by omega))) q1) (fun r2 u3 q => ?_)
  obtain ⟨⟨_, gy, _⟩, hu, q20, q21⟩ := q
  have g3 : G md_R_land w u3 := g_tr g1 gy rfl
  refine pc_lw (fun u4 e4 => ?_)
  have g4 : G md_R_land w u4 := g_st g3 e4 rfl rfl (show (0 : Int) ≤ 0 ∧ (0 : Int) ≤ 80 by decide)
  have h4 := rv_st hu e4 (by decide) (Or.inr (by decide))
  have t20 : u4 43 20 = 0 := by rw [e4, st_k (by decide)]; exact q20
  have t21 : u4 43 21 = -1 := by rw [e4, st_k (by decide)]; exact q21
  have t56 : u4 43 56 = w 43 56 := by rw [e4, st_k (by decide), gy.2.1 43 56 rfl, e1, st_k (by decide)]
  rw [h4.2.1]
  refine pc_ite (fun c => ?_) (fun c => ?_)
  · rw [if_pos c]
    refine pc_some ⟨rfl, ?_, ?_⟩
    · rw [if_neg (by decide), h4.2.2.2.2]; omega
    · rw [if_neg (by decide)]; omega
  · rw [if_neg c]
    refine pc_let (fun x5 e5 => ?_)
    rw [e5, h4.2.2.2.2]
    have h9 := r40 a0.1 h56 FU (v1 := w 43 0) 11 0 (by omega) a0.2 (by omega) g4 h4 t21 (by omega) t56
    rw [t20] at h9
    exact h9
/-! both read alike -/
def Sy (s h : Int → Int) : Prop := ∀ p c, 0 ≤ p → 0 ≤ c → c ≤ 127 → (s p = c ↔ h p = c)
theorem sy_dig {s h : Int → Int} (hs : Sy s h) {p a b : Int} (hp : 0 ≤ p) (ha : 0 ≤ a) (hb : b ≤ 127) : (a ≤ s p ∧ s p ≤ b) ↔ (a ≤ h p ∧ h p ≤ b) := by
  constructor
  · intro q
    have := (hs p (s p) hp (by omega) (by omega)).mp rfl
    omega
  · intro q
    have := (hs p (h p) hp (by omega) (by omega)).mpr rfl
    omega
theorem lt_sy {s h : Int → Int} (hs : Sy s h) {num : Int} (hn : num ≤ 10) : ∀ (k : Nat) {p : Int}, (k : Int) ≤ num → 0 ≤ p → lt s num k p = lt h num k p := by
  intro k
  induction k with
  | zero => intros; rfl
  | succ k ih =>
    intro p hk hp
    have e := hs p (97 + (num - ((k : Int) + 1))) hp (by omega) (by omega)
    rw [lt, lt]
    by_cases c : s p = 97 + (num - ((k : Int) + 1))
    · rw [if_pos c, if_pos (e.mp c)]; exact ih (by omega) (by omega)
    · rw [if_neg c, if_neg (fun c2 => c (e.mpr c2))]; exact ih (by omega) hp
theorem fnl_sy {s h : Int → Int} (hs : Sy s h) {p : Int} (hp : 0 ≤ p) : fnl s p = fnl h p := by
  have e1 := hs p 33 hp (by decide) (by decide)
  have e2 := hs p 63 hp (by decide) (by decide)
  have e3 := hs (p + 1) 63 (by omega) (by decide) (by decide)
  unfold fnl
  by_cases c1 : s p = 33
  · rw [if_pos c1, if_pos (e1.mp c1)]
    by_cases c3 : s (p + 1) = 63
    · rw [if_pos c3, if_pos (e3.mp c3)]
    · rw [if_neg c3, if_neg (fun c => c3 (e3.mpr c))]
  · rw [if_neg c1, if_neg (fun c => c1 (e1.mpr c))]
    by_cases c3 : s p = 63
    · rw [if_pos c3, if_pos (e2.mp c3)]
    · rw [if_neg c3, if_neg (fun c => c3 (e2.mpr c))]
theorem en_sy {s h : Int → Int} (hs : Sy s h) {num p : Int} (hn : 0 ≤ num ∧ num ≤ 10) (hp : 0 ≤ p) : en s num p = en h num p := by
  unfold en
  rw [lt_sy hs hn.2 num.toNat (by omega) (by omega)]
  exact fnl_sy hs (Int.le_trans (by omega) (lt_ge h num _ _))
theorem lan_sy {s h : Int → Int} (hs : Sy s h) {n a : Int} (ha : 0 ≤ a) : ∀ (f j : Nat) {p : Int}, 0 ≤ p → lan s n a f j p = lan h n a f j p := by
  intro f
  induction f with
  | zero => intros; rfl
  | succ f ih =>
    intro j p hp
    rw [lan, lan]
    by_cases c1 : (10 : Int) ≤ a + j
    · rw [if_pos c1, if_pos c1]
    · rw [if_neg c1, if_neg c1]
      have d := sy_dig hs hp (a := 48) (b := 57) (by decide) (by decide)
      by_cases c2 : 48 ≤ s p ∧ s p ≤ 57
      · rw [if_pos c2, if_pos (d.mp c2), en_sy hs (by omega) hp]
        have b1 := en_ge h (a + j) p
        by_cases c3 : n ≤ en h (a + j) p
        · rw [if_pos c3, if_pos c3]
        · rw [if_neg c3, if_neg c3]
          have e := hs (en h (a + j) p) 59 (by omega) (by decide) (by decide)
          by_cases c4 : s (en h (a + j) p) = 59
          · rw [if_pos c4, if_pos (e.mp c4)]; exact ih _ (by omega)
          · rw [if_neg c4, if_neg (fun c => c4 (e.mpr c))]
      · rw [if_neg c2, if_neg (fun c => c2 (d.mpr c))]
theorem landA_sy {s h : Int → Int} (hs : Sy s h) {n a : Int} (ha : 0 ≤ a) : landA s n a = landA h n a := by
  unfold landA
  split
  · rfl
  · exact lan_sy hs ha 11 0 (Int.le_refl 0)
/-- the texts of both: bytes here, characters there -/
def TX (w : Wd) : Prop := w 1 1 = w 43 13 ∧ ∀ k : Nat, (k : Int) < w 43 13 → w 2 k ≤ 255 ∧ w 51 k = (if w 2 k ≤ 127 then w 2 k else w 2 k - 256)
theorem tx_sy {w : Wd} (h : TX w) (hf : ∀ k, 0 ≤ w 2 k) : Sy (sE (w 1 1) (w 2)) (hR (w 43 13) (w 51)) := by
  intro p c hp hc hc2
  unfold sE hR
  rw [h.1, if_neg (by omega)]
  by_cases c1 : p < w 43 13
  · rw [if_pos c1, if_neg (show ¬ w 43 13 ≤ p by omega)]
    by_cases c2 : p < 76
    · rw [if_pos c2, if_neg (show ¬ (76 : Int) ≤ p by omega)]
      obtain ⟨h1, h2⟩ := h.2 p.toNat (by omega)
      have h3 := hf p.toNat
      rw [h2]
      split <;> omega
    · rw [if_neg c2, if_pos (show (76 : Int) ≤ p by omega)]; omega
  · rw [if_neg c1, if_pos (show w 43 13 ≤ p by omega)]
/-! SIGNS: what is typed, by both -/
theorem iand255 {x : Int} (h : -2147483648 ≤ x ∧ x ≤ 2147483647) : iand x 255 = x % 256 := by
  have ex := ofInt_toInt h.1 h.2
  have e0 : (Int32.ofInt 255).toBitVec.toNat = 255 := by decide
  have e1 : (Int32.ofInt x &&& Int32.ofInt 255).toBitVec.toNat = (Int32.ofInt x).toBitVec.toNat % 256 := by
    rw [Int32.toBitVec_and, BitVec.toNat_and, e0]
    exact Nat.and_two_pow_sub_one_eq_mod _ 8
  have e2 : (Int32.ofInt x &&& Int32.ofInt 255).toInt = (((Int32.ofInt x &&& Int32.ofInt 255).toBitVec.toNat : Nat) : Int) := bv_lt (by omega)
  have e3 := BitVec.toInt_eq_toNat_cond (Int32.ofInt x).toBitVec
  have e4 : (Int32.ofInt x).toBitVec.toInt = x := ex
  unfold iand
  rw [e4] at e3
  split at e3 <;> omega
theorem nci2c {z : Int} (h : 0 ≤ z ∧ z ≤ 255) : nc (i2c z) = z := by
  have h1 : (List.range 256).all (fun k => decide (nc (i2c (k : Int)) = (k : Int))) = true := by decide +kernel
  have h2 := of_decide_eq_true (List.all_eq_true.mp h1 z.toNat (List.mem_range.mpr (by omega)))
  rw [Int.toNat_of_nonneg h.1] at h2
  exact h2
theorem i2b_e {x : Int} (h : -2147483648 ≤ x ∧ x ≤ 2147483647) : i2b x = x.bmod 256 := by
  unfold i2b
  rw [Int8.toInt_toInt32, Int32.toInt_toInt8, ofInt_toInt h.1 h.2]
theorem nb_e {x : Int} (h : -2147483648 ≤ x ∧ x ≤ 2147483647) : nb x = x.bmod 256 := by
  show ((Int32.ofInt x).toInt8.toInt32).toInt = _
  rw [Int8.toInt_toInt32, Int32.toInt_toInt8, ofInt_toInt h.1 h.2]
theorem ch_rel {x : Int} (h : -2147483648 ≤ x ∧ x ≤ 2147483647) : nc (i2c (iand x 255)) = x % 256 ∧ nb (i2b x) = (if x % 256 ≤ 127 then x % 256 else x % 256 - 256) := by
  have e1 := iand255 h
  refine ⟨by rw [e1]; exact nci2c (by omega), ?_⟩
  have e2 : -128 ≤ i2b x ∧ i2b x ≤ 127 := by
    rw [i2b_e h]
    unfold Int.bmod
    simp only
    split <;> omega
  rw [nb_e (by omega), i2b_e h]
  unfold Int.bmod
  simp only
  split <;> split <;> split <;> omega
theorem ap_pc {L v1 : Int} {z : Nat → Int} (hL : 0 ≤ L) : ∀ (n : Nat) {w : Wd} {v2 : Int} (k : Nat), v2 = 24 - 8 * (k : Int) → k ≤ 4 → w 1 1 = L + k → (∀ j : Nat, w 2 j = if L ≤ j ∧ (j : Int) < L + k then ishr v1 (24 - 8 * ((j : Int) - L)) % 256 else z j) → PC (f_T_append_19 n v1 v2 w) (fun _ u => u 1 1 = L + 4 ∧ ∀ j : Nat, u 2 j = if L ≤ j ∧ (j : Int) < L + 4 then ishr v1 (24 - 8 * ((j : Int) - L)) % 256 else z j) := by
  intro n
  induction n with
  | zero => intros; exact pc_none
  | succ n ih =>
    intro w v2 k hk k4 h1 h2
    rw [f_T_append_19]
    refine pc_ite (fun c => ?_) (fun c => ?_)
    · have e : k = 4 := by omega
      subst e
      exact pc_some ⟨h1, h2⟩
    · refine pc_gd (fun g => ?_)
      refine pc_lw (fun u1 e1 => ?_)
      have t1 : u1 1 1 = w 1 1 := by rw [e1, st_c (by decide)]
      have w1 := w32_sp (u1 1 1 + 1)
      have w2 := w32_sp (v2 + -8)
      refine pc_lw (fun u2 e2 => ?_)
      refine pc_let (fun x3 e3 => ?_)
      refine ih (k + 1) (by omega) (by omega) (by rw [e2, st_eq]; omega) (fun j => ?_)
      have tj : u2 2 j = u1 2 j := by rw [e2, st_c (by decide)]
      rw [tj, e1]
      by_cases hj : j = (w 1 1).toNat
      · rw [hj, st_eq, (ch_rel (ishr_rg v1 v2)).1, if_pos (by omega)]
        rw [show 24 - 8 * ((((w 1 1).toNat : Nat) : Int) - L) = v2 by omega]
      · rw [st_k hj, h2 j]
        by_cases hc : L ≤ j ∧ (j : Int) < L + k
        · rw [if_pos hc, if_pos (by omega)]
        · rw [if_neg hc, if_neg (by omega)]
theorem sg_pc {L v1 : Int} {z : Nat → Int} (hL : 0 ≤ L) : ∀ (n : Nat) {w : Wd} {v2 : Int} (k : Nat), v2 = 3 - (k : Int) → k ≤ 4 → w 43 13 = L + k → (∀ j : Nat, w 51 j = if L ≤ j ∧ (j : Int) < L + k then nb (i2b (ishr v1 (24 - 8 * ((j : Int) - L)))) else z j) → PC (f_R_sign_20 n v1 v2 w) (fun _ u => u 43 13 = L + 4 ∧ ∀ j : Nat, u 51 j = if L ≤ j ∧ (j : Int) < L + 4 then nb (i2b (ishr v1 (24 - 8 * ((j : Int) - L)))) else z j) := by
  intro n
  induction n with
  | zero => intros; exact pc_none
  | succ n ih =>
    intro w v2 k hk k4 h1 h2
    rw [f_R_sign_20]
    refine pc_ite (fun c => ?_) (fun c => ?_)
    · have e : k = 4 := by omega
      subst e
      exact pc_some ⟨h1, h2⟩
    · refine pc_let (fun x2 y2 => ?_)
      have w1 := w32_sp (x2 + 1)
      have w2 := w32_sp (v2 + -1)
      have w3 := w32_sp (8 * v2)
      refine pc_lw (fun u3 e3 => ?_)
      refine pc_gd (fun g => ?_)
      refine pc_lw (fun u4 e4 => ?_)
      refine pc_let (fun x5 e5 => ?_)
      refine ih (k + 1) (by omega) (by omega) (by rw [e4, st_c (by decide), e3, st_eq]; omega) (fun j => ?_)
      rw [e4]
      by_cases hj : j = x2.toNat
      · rw [hj, st_eq, if_pos (by omega)]
        rw [show 24 - 8 * (((x2.toNat : Nat) : Int) - L) = w32 (8 * v2) by omega]
      · rw [st_k hj, e3, st_c (by decide), h2 j]
        by_cases hc : L ≤ j ∧ (j : Int) < L + k
        · rw [if_pos hc, if_pos (by omega)]
        · rw [if_neg hc, if_neg (by omega)]
theorem sgE_pc {w : Wd} {v1 : Int} (h : 0 ≤ w 1 1 ∧ w 1 1 ≤ 80) : PC (f_E_sign v1 w) (fun _ u => (76 < w 1 1 ∧ u = w) ∨ (w 1 1 ≤ 76 ∧ u 1 1 = w 1 1 + 4 ∧ ∀ j : Nat, u 2 j = if w 1 1 ≤ j ∧ (j : Int) < w 1 1 + 4 then ishr v1 (24 - 8 * ((j : Int) - w 1 1)) % 256 else w 2 j)) := by
  unfold f_E_sign f_T_append
  have w1 := w32_sp (w 1 1 + 4)
  have hp : PC (if w32 (w 1 1 + 4) ≤ 80 then f_T_append_19 FU v1 24 w else some (-1, w)) (fun _ u => (76 < w 1 1 ∧ u = w) ∨ (w 1 1 ≤ 76 ∧ u 1 1 = w 1 1 + 4 ∧ ∀ j : Nat, u 2 j = if w 1 1 ≤ j ∧ (j : Int) < w 1 1 + 4 then ishr v1 (24 - 8 * ((j : Int) - w 1 1)) % 256 else w 2 j)) := by
    refine pc_ite (fun c => ?_) (fun c => ?_)
    · refine pc_w (ap_pc (L := w 1 1) (z := w 2) h.1 FU 0 (by omega) (by decide) (by omega) (fun j => ?_)) (fun r u q => Or.inr ⟨by omega, q.1, q.2⟩)
      rw [if_neg (by omega)]
    · exact pc_some (Or.inl ⟨by omega, rfl⟩)
  exact pc_call hp (fun r u q => pc_some q)
theorem sgR_pc {w : Wd} {v1 : Int} (h : 0 ≤ w 43 13 ∧ w 43 13 ≤ 80) : PC (f_R_sign v1 w) (fun _ u => (76 < w 43 13 ∧ u 43 13 = w 43 13 ∧ u 51 = w 51) ∨ (w 43 13 ≤ 76 ∧ u 43 13 = w 43 13 + 4 ∧ ∀ j : Nat, u 51 j = if w 43 13 ≤ j ∧ (j : Int) < w 43 13 + 4 then nb (i2b (ishr v1 (24 - 8 * ((j : Int) - w 43 13)))) else w 51 j)) := by
  unfold f_R_sign
  refine pc_lw (fun u1 e1 => ?_)
  have t13 : u1 43 13 = w 43 13 := by rw [e1, st_k (by decide)]
  have t51 : u1 51 = w 51 := by rw [e1]; exact st_row (by decide)
  have w1 := w32_sp (u1 43 13 + 4)
  refine pc_ite (fun c => ?_) (fun c => ?_)
  · refine pc_w (sg_pc (L := w 43 13) (z := w 51) h.1 FU 0 (by omega) (by decide) (by omega) (fun j => ?_)) (fun r u q => Or.inr ⟨by omega, q.1, q.2⟩)
    rw [if_neg (by omega), t51]
  · exact pc_some (Or.inl ⟨by omega, t13, t51⟩)
/-- both texts after both have typed the same -/
theorem tx_sign {w u1 u2 : Wd} {v1 : Int} (h : TX w) (hb : 0 ≤ w 1 1)
    (hE : (76 < w 1 1 ∧ u1 = w) ∨ (w 1 1 ≤ 76 ∧ u1 1 1 = w 1 1 + 4 ∧ ∀ j : Nat, u1 2 j = if w 1 1 ≤ j ∧ (j : Int) < w 1 1 + 4 then ishr v1 (24 - 8 * ((j : Int) - w 1 1)) % 256 else w 2 j))
    (hR : (76 < u1 43 13 ∧ u2 43 13 = u1 43 13 ∧ u2 51 = u1 51) ∨ (u1 43 13 ≤ 76 ∧ u2 43 13 = u1 43 13 + 4 ∧ ∀ j : Nat, u2 51 j = if u1 43 13 ≤ j ∧ (j : Int) < u1 43 13 + 4 then nb (i2b (ishr v1 (24 - 8 * ((j : Int) - u1 43 13)))) else u1 51 j))
    (f1 : u1 43 13 = w 43 13) (f2 : u1 51 = w 51) (f3 : u2 1 1 = u1 1 1) (f4 : u2 2 = u1 2) : TX u2 := by
  obtain ⟨h1, h2⟩ := h
  unfold TX
  rw [f3, f4]
  rcases hE with ⟨a1, a2⟩ | ⟨a1, a2, a3⟩
  · rcases hR with ⟨b1, b2, b3⟩ | ⟨b1, b2, b3⟩
    · rw [b2, b3, f1, f2, a2]; exact ⟨h1, h2⟩
    · exfalso; omega
  · rcases hR with ⟨b1, b2, b3⟩ | ⟨b1, b2, b3⟩
    · exfalso; omega
    · refine ⟨by omega, fun k hk => ?_⟩
      rw [a3 k, b3 k, f1, ← h1, f2]
      by_cases hc : w 1 1 ≤ k ∧ (k : Int) < w 1 1 + 4
      · rw [if_pos hc, if_pos hc]
        exact ⟨by omega, (ch_rel (ishr_rg v1 _)).2⟩
      · rw [if_neg hc, if_neg hc]
        exact h2 k (by omega)
/-! MEET, HIDE: by the number of people alone -/
def mt (P v1 v2 : Int) : Int := if 0 ≤ v1 ∧ v1 < P ∧ 0 ≤ v2 ∧ v2 < P ∧ ¬ v1 = v2 then 1 else 0
def hd (P v1 : Int) : Int := if 0 ≤ v1 ∧ v1 < P then 1 else 0
theorem it_pc (v1 : Int) (w : Wd) : PC (f_F_isThere v1 w) (fun r u => u = w ∧ r = hd (w 5 3) v1) := by
  unfold f_F_isThere hd
  refine pc_ite (fun h => ?_) (fun h => ?_)
  · rw [if_neg (by omega)]; exact pc_some ⟨rfl, rfl⟩
  · refine pc_ite (fun h1 => ?_) (fun h1 => ?_)
    · rw [if_neg (by omega)]; exact pc_some ⟨rfl, rfl⟩
    · rw [if_pos (by omega)]; exact pc_some ⟨rfl, rfl⟩
theorem io_pc (v1 : Int) (w : Wd) (h : 0 ≤ w 43 0 ∧ w 43 0 ≤ 10) : PC (f_R_isOne v1 w) (fun r u => u = w ∧ r = hd (w 43 0) v1) := by
  unfold f_R_isOne
  have w1 := w32_sp (w 43 0 - 1)
  rw [in_e, jc_s]
  refine pc_ite (fun _ => ?_) (fun _ => pc_none)
  refine pc_some ⟨rfl, ?_⟩
  unfold hd
  by_cases c : 0 ≤ v1 ∧ v1 < w 43 0
  · rw [if_pos c, if_pos (by omega)]
  · rw [if_neg c, if_neg (by omega)]
theorem hd_0 {P v : Int} (h : hd P v = 0) : ¬ (0 ≤ v ∧ v < P) := fun c => by
  unfold hd at h
  rw [if_pos c] at h
  exact absurd h (by decide)
theorem hd_1 {P v : Int} (h : ¬ hd P v = 0) : 0 ≤ v ∧ v < P := by
  unfold hd at h
  by_cases c : 0 ≤ v ∧ v < P
  · exact c
  · rw [if_neg c] at h; exact absurd rfl h
theorem at_pc (v1 v2 : Int) (w : Wd) : PC (f_E_areTwo v1 v2 w) (fun r u => u = w ∧ r = mt (w 5 3) v1 v2) := by
  unfold f_E_areTwo mt
  refine pc_ite (fun c => ?_) (fun c => ?_)
  · rw [if_neg (fun h => h.2.2.2.2 c)]; exact pc_some ⟨rfl, rfl⟩
  · refine pc_call (it_pc v1 w) (fun r1 u2 q => ?_)
    obtain ⟨q1, q2⟩ := q
    rw [q1]
    refine pc_ite (fun c1 => ?_) (fun c1 => ?_)
    · have := hd_0 (q2.symm.trans c1)
      rw [if_neg (by omega)]; exact pc_some ⟨rfl, rfl⟩
    · have h1 := hd_1 (fun h => c1 (q2.trans h))
      refine pc_call (it_pc v2 w) (fun r3 u4 p => ?_)
      obtain ⟨p1, p2⟩ := p
      rw [p1]
      refine pc_ite (fun c2 => ?_) (fun c2 => ?_)
      · have := hd_0 (p2.symm.trans c2)
        rw [if_neg (by omega)]; exact pc_some ⟨rfl, rfl⟩
      · have h2 := hd_1 (fun h => c2 (p2.trans h))
        rw [if_pos (by omega)]; exact pc_some ⟨rfl, rfl⟩
theorem ar_pc (v1 v2 : Int) (w : Wd) (h : 0 ≤ w 43 0 ∧ w 43 0 ≤ 10) : PC (f_R_areTwo v1 v2 w) (fun r u => u = w ∧ r = mt (w 43 0) v1 v2) := by
  unfold f_R_areTwo mt
  refine pc_call (io_pc v1 w h) (fun r1 u2 q => ?_)
  obtain ⟨q1, q2⟩ := q
  rw [q1]
  refine pc_ite (fun c1 => ?_) (fun c1 => ?_)
  · have := hd_0 (q2.symm.trans c1)
    rw [if_neg (by omega)]; exact pc_some ⟨rfl, rfl⟩
  · have h1 := hd_1 (fun h => c1 (q2.trans h))
    refine pc_call (io_pc v2 w h) (fun r3 u4 p => ?_)
    obtain ⟨p1, p2⟩ := p
    rw [p1]
    refine pc_ite (fun c2 => ?_) (fun c2 => ?_)
    · have := hd_0 (p2.symm.trans c2)
      rw [if_neg (by omega)]; exact pc_some ⟨rfl, rfl⟩
    · have h2 := hd_1 (fun h => c2 (p2.trans h))
      refine pc_ite (fun c => ?_) (fun c => ?_)
      · rw [if_neg (fun h => h.2.2.2.2 c)]; exact pc_some ⟨rfl, rfl⟩
      · rw [if_pos ⟨h1.1, h1.2, h2.1, h2.2, c⟩]; exact pc_some ⟨rfl, rfl⟩
theorem mt_01 (P v1 v2 : Int) : mt P v1 v2 = 0 ∨ mt P v1 v2 = 1 := by
  unfold mt
  split
  · exact Or.inr rfl
  · exact Or.inl rfl
theorem pc_1 {x : Option (Int × Wd)} {f : Int → Wd → Option (Int × Wd)} {Q : Int → Wd → Prop} (hf : ∀ r u, PC (f r u) Q) : PC (jcall x f) Q := pc_call (P := fun _ _ => True) (fun _ _ _ => trivial) (fun r u _ => hf r u)
theorem me_E (v1 v2 v3 : Int) (w : Wd) : PC (f_E_meet v1 v2 v3 w) (fun r _ => r = mt (w 5 3) v1 v2) := by
  unfold f_E_meet
  refine pc_call (at_pc v1 v2 w) (fun r1 u2 q => ?_)
  have h01 := mt_01 (w 5 3) v1 v2
  refine pc_ite (fun c => pc_some (c.symm.trans q.2)) (fun c => ?_)
  have h1 : (1 : Int) = mt (w 5 3) v1 v2 := by
    have := q.2
    omega
  refine pc_gd (fun _ => ?_)
  refine pc_1 (fun r3 u4 => ?_)
  refine pc_gd (fun _ => ?_)
  refine pc_lw (fun u5 _ => ?_)
  refine pc_gd (fun _ => ?_)
  refine pc_1 (fun r6 u7 => ?_)
  refine pc_gd (fun _ => ?_)
  refine pc_lw (fun u8 _ => ?_)
  exact pc_1 (fun r9 u10 => pc_some h1)
theorem me_85 {s1 s2 : Int} {w : Wd} {x : Int} (h : (1 : Int) = x) : PC (f_R_meet_85 s1 s2 w) (fun r _ => r = x) := by
  unfold f_R_meet_85
  exact pc_gd (fun _ => pc_lw (fun u5 _ => pc_some h))
theorem me_50 {v1 v2 v3 s1 s2 : Int} {w : Wd} {x : Int} (h : (1 : Int) = x) : PC (f_R_meet_50 v1 v2 v3 s1 s2 w) (fun r _ => r = x) := by
  unfold f_R_meet_50
  refine pc_gd (fun _ => ?_)
  refine pc_lw (fun u4 _ => ?_)
  exact pc_ite (fun _ => pc_gd (fun _ => me_85 h)) (fun _ => pc_gd (fun _ => me_85 h))
theorem me_R (v1 v2 v3 : Int) (w : Wd) (hb : 0 ≤ w 43 0 ∧ w 43 0 ≤ 10) : PC (f_R_meet v1 v2 v3 w) (fun r _ => r = mt (w 43 0) v1 v2) := by
  unfold f_R_meet
  refine pc_lw (fun u1 e1 => ?_)
  have t0 : u1 43 0 = w 43 0 := by rw [e1, st_k (by decide)]
  refine pc_call (ar_pc v1 v2 u1 (by omega)) (fun r2 u3 q => ?_)
  rw [t0] at q
  have h01 := mt_01 (w 43 0) v1 v2
  refine pc_ite (fun c => pc_some (c.symm.trans q.2)) (fun c => ?_)
  have h1 : (1 : Int) = mt (w 43 0) v1 v2 := by
    have := q.2
    omega
  exact pc_ite (fun _ => pc_gd (fun _ => me_50 h1)) (fun _ => pc_gd (fun _ => me_50 h1))
theorem hd_01 (P v : Int) : hd P v = 0 ∨ hd P v = 1 := by
  unfold hd
  split
  · exact Or.inr rfl
  · exact Or.inl rfl
theorem hi_E (v1 v2 : Int) (w : Wd) : PC (f_E_hide v1 v2 w) (fun r _ => r = hd (w 5 3) v1) := by
  unfold f_E_hide
  refine pc_call (it_pc v1 w) (fun r1 u2 q => ?_)
  have h01 := hd_01 (w 5 3) v1
  refine pc_ite (fun c => pc_some (c.symm.trans q.2)) (fun c => ?_)
  have h1 : (1 : Int) = hd (w 5 3) v1 := by
    have := q.2
    omega
  refine pc_1 (fun r3 u4 => ?_)
  refine pc_lw (fun u5 _ => ?_)
  exact pc_1 (fun r6 u7 => pc_some h1)
theorem hi_R (v1 v2 : Int) (w : Wd) (hb : 0 ≤ w 43 0 ∧ w 43 0 ≤ 10) : PC (f_R_hide v1 v2 w) (fun r _ => r = hd (w 43 0) v1) := by
  unfold f_R_hide
  refine pc_lw (fun u1 e1 => ?_)
  have t0 : u1 43 0 = w 43 0 := by rw [e1, st_k (by decide)]
  refine pc_call (io_pc v1 u1 (by omega)) (fun r2 u3 q => ?_)
  rw [t0] at q
  have h01 := hd_01 (w 43 0) v1
  refine pc_ite (fun c => pc_some (c.symm.trans q.2)) (fun c => ?_)
  have h1 : (1 : Int) = hd (w 43 0) v1 := by
    have := q.2
    omega
  refine pc_gd (fun _ => ?_)
  exact pc_lw (fun u4 _ => pc_some h1)
/-! BITS, once more -/
theorem ext32 {x y : Int} (hx : -2147483648 ≤ x ∧ x ≤ 2147483647) (hy : -2147483648 ≤ y ∧ y ≤ 2147483647) (h : ∀ k, k < 32 → bt x k = bt y k) : x = y := by
  have e : (Int32.ofInt x).toBitVec = (Int32.ofInt y).toBitVec := BitVec.eq_of_getLsbD_eq (fun i hi => h i hi)
  have ex : (Int32.ofInt x).toBitVec.toInt = x := ofInt_toInt hx.1 hx.2
  have ey : (Int32.ofInt y).toBitVec.toInt = y := ofInt_toInt hy.1 hy.2
  rw [← ex, ← ey, e]
theorem bt_all {P k : Nat} (hP : P ≤ 10) (hk : k < 32) : bt (((2 ^ P : Nat) : Int) - 1) k = decide (k < P) := by
  have h1 : (List.range 11).all (fun p => (List.range 32).all fun k => bt (((2 ^ p : Nat) : Int) - 1) k == decide (k < p)) = true := by decide +kernel
  exact eq_of_beq (List.all_eq_true.mp (List.all_eq_true.mp h1 P (List.mem_range.mpr (by omega))) k (List.mem_range.mpr hk))
theorem p2_le {P : Nat} (hP : P ≤ 10) : 1 ≤ 2 ^ P ∧ 2 ^ P ≤ 1024 := by
  have h1 : (List.range 11).all (fun p => Nat.ble 1 (2 ^ p) && Nat.ble (2 ^ p) 1024) = true := by decide +kernel
  have h2 := List.all_eq_true.mp h1 P (List.mem_range.mpr (by omega))
  rw [Bool.and_eq_true, Nat.ble_eq, Nat.ble_eq] at h2
  exact h2
theorem all_e {P : Int} (h : 0 ≤ P ∧ P ≤ 10) : w32 (ishl 1 P - 1) = ((2 ^ P.toNat : Nat) : Int) - 1 ∧ 0 ≤ w32 (ishl 1 P - 1) ∧ w32 (ishl 1 P - 1) ≤ 1023 := by
  have e := ishl1 (i := P) (by omega)
  have h1 := p2_le (P := P.toNat) (by omega)
  have w := w32_sp (ishl 1 P - 1)
  rw [e] at w ⊢
  generalize 2 ^ P.toNat = N at h1 w ⊢
  omega
theorem baby_c {P v : Int} (hP : 0 ≤ P ∧ P ≤ 10) (hv : -2147483648 ≤ v ∧ v ≤ 2147483647) : iand v (ixor (w32 (ishl 1 P - 1)) (-1)) = 0 ↔ (0 ≤ v ∧ v ≤ w32 (ishl 1 P - 1)) := by
  have hA := all_e hP
  have hb : ∀ k, k < 32 → bt (w32 (ishl 1 P - 1)) k = decide (k < P.toNat) := fun k hk => by rw [hA.1]; exact bt_all (by omega) hk
  constructor
  · intro h
    have e : v = iand v (w32 (ishl 1 P - 1)) := by
      refine ext32 hv (iand_rg _ _) (fun k hk => ?_)
      have h1 : bt (iand v (ixor (w32 (ishl 1 P - 1)) (-1))) k = false := by rw [h]; exact bt_0 k
      rw [bt_and, bt_not _ hk] at h1
      rw [bt_and]
      cases hv : bt v k with
      | false => rfl
      | true => rw [hv] at h1; cases h2 : bt (w32 (ishl 1 P - 1)) k with
        | true => rfl
        | false => rw [h2] at h1; cases h1
    have h2 := iand_r (x := v) (y := w32 (ishl 1 P - 1)) (by omega)
    omega
  · intro h
    refine ext32 (iand_rg _ _) (by decide) (fun k hk => ?_)
    rw [bt_and, bt_not _ hk, bt_0, hb k hk]
    cases hv : bt v k with
    | false => rfl
    | true =>
      have h3 : k < P.toNat := bt_lt (x := v) (n := P.toNat) (by omega) (by omega) hv
      rw [decide_eq_true h3]; rfl
/-! WHAT STAYS: points and rows of a world -/
def FR (P : List (Nat × Nat)) (A : List Nat) (w u : Wd) : Prop := (∀ p ∈ P, u p.1 p.2 = w p.1 p.2) ∧ ∀ c ∈ A, u c = w c
def fck (P : List (Nat × Nat)) (A : List Nat) (S : List Nat) : Bool := P.all (fun p => !mS S p.1 p.2) && A.all (fun c => S.all fun x => Nat.blt x (c * 100) || Nat.blt (c * 100 + 99) x)
theorem fr_g {P : List (Nat × Nat)} {A S : List Nat} {w u : Wd} (h : G S w u) (hc : fck P A S = true) : FR P A w u := by
  unfold fck at hc
  rw [Bool.and_eq_true] at hc
  refine ⟨fun p hp => h.2.1 p.1 p.2 ?_, fun c hA => funext fun k => h.2.1 c k (mS_ar (List.all_eq_true.mp hc.2 c hA) k)⟩
  have := List.all_eq_true.mp hc.1 p hp
  rw [Bool.not_eq_true'] at this
  exact this
/-! THE FIRST COUPLING: texts, how many people, THE LAW, what is kept of it -/
def KM (w : Wd) (c m : Nat) : Prop := w c 2 = w 80 m ∧ (w c 2 ≠ 0 → w c 7 = w 79 (105 * m + 41) ∧ w c 8 = w 79 (105 * m + 42) ∧ ((w c 3 = w 5 3 ∧ w 81 m = w 43 56) ∨ (w c 3 < w 5 3 ∧ w 81 m < w 43 56)))
def CO (w : Wd) : Prop := TX w ∧ w 5 3 = w 43 0 ∧ (w 5 7 = w 43 10 ∧ w 5 8 = w 43 11) ∧ KM w 37 0 ∧ KM w 40 1
theorem tx_eq {w u : Wd} (h : TX w) (e1 : u 1 1 = w 1 1) (e2 : u 43 13 = w 43 13) (e3 : u 2 = w 2) (e4 : u 51 = w 51) : TX u := by
  unfold TX
  rw [e1, e2, e3, e4]
  exact h
theorem tx_0 {w : Wd} (e1 : w 1 1 = 0) (e2 : w 43 13 = 0) : TX w := ⟨by omega, fun k hk => by omega⟩
theorem km_eq {w u : Wd} {c m : Nat} (h : KM w c m) (e2 : u c 2 = w c 2) (e3 : u c 3 = w c 3) (e7 : u c 7 = w c 7) (e8 : u c 8 = w c 8) (e80 : u 80 = w 80) (e79 : u 79 = w 79) (e81 : u 81 = w 81) (hs : (u 5 3 = w 5 3 ∧ u 43 56 = w 43 56) ∨ (w 5 3 < u 5 3 ∧ w 43 56 < u 43 56)) : KM u c m := by
  unfold KM
  rw [e2, e3, e7, e8, e80, e79, e81]
  refine ⟨h.1, fun hn => ?_⟩
  obtain ⟨h1, h2, h3⟩ := h.2 hn
  exact ⟨h1, h2, by omega⟩
def coP : List (Nat × Nat) := [(1, 1), (43, 13), (5, 3), (43, 0), (5, 7), (43, 10), (5, 8), (43, 11), (37, 2), (37, 3), (37, 7), (37, 8), (40, 2), (40, 3), (40, 7), (40, 8), (43, 56)]
def coA : List Nat := [2, 51, 79, 80, 81]
/-- what the texts don't touch -/
def ctP : List (Nat × Nat) := [(5, 3), (43, 0), (5, 7), (43, 10), (5, 8), (43, 11), (37, 2), (37, 3), (37, 7), (37, 8), (40, 2), (40, 3), (40, 7), (40, 8), (43, 56)]
def ctA : List Nat := [79, 80, 81]
def clP : List (Nat × Nat) := [(1, 1), (43, 13), (5, 3), (43, 0), (37, 2), (37, 3), (37, 7), (37, 8), (40, 2), (40, 3), (40, 7), (40, 8), (43, 56)]
def ckP : List (Nat × Nat) := [(5, 7), (43, 10), (5, 8), (43, 11), (37, 2), (37, 3), (37, 7), (37, 8), (40, 2), (40, 3), (40, 7), (40, 8)]
theorem ct_fr {w u : Wd} (h : CO w) (f : FR ctP ctA w u) (t : TX u) : CO u := by
  obtain ⟨h1, h2, h3, h4, h5⟩ := h
  have p := f.1
  have a79 := f.2 79 (by decide)
  have a80 := f.2 80 (by decide)
  have a81 := f.2 81 (by decide)
  have q53 := p (5, 3) (by decide)
  have q56 := p (43, 56) (by decide)
  refine ⟨t, ?_, ⟨?_, ?_⟩, ?_, ?_⟩
  · rw [q53, p (43, 0) (by decide)]; exact h2
  · rw [p (5, 7) (by decide), p (43, 10) (by decide)]; exact h3.1
  · rw [p (5, 8) (by decide), p (43, 11) (by decide)]; exact h3.2
  · exact km_eq h4 (p (37, 2) (by decide)) (p (37, 3) (by decide)) (p (37, 7) (by decide)) (p (37, 8) (by decide)) a80 a79 a81 (Or.inl ⟨q53, q56⟩)
  · exact km_eq h5 (p (40, 2) (by decide)) (p (40, 3) (by decide)) (p (40, 7) (by decide)) (p (40, 8) (by decide)) a80 a79 a81 (Or.inl ⟨q53, q56⟩)
theorem fr_sub {P P2 : List (Nat × Nat)} {A A2 : List Nat} {w u : Wd} (h : FR P A w u) (hP : P2.all (fun p => P.contains p) = true) (hA : A2.all (fun c => A.contains c) = true) : FR P2 A2 w u :=
  ⟨fun p hp => h.1 p (List.contains_iff_mem.mp (List.all_eq_true.mp hP p hp)), fun c hc => h.2 c (List.contains_iff_mem.mp (List.all_eq_true.mp hA c hc))⟩
theorem fr_tr {P : List (Nat × Nat)} {A : List Nat} {w u v : Wd} (h : FR P A w u) (h2 : FR P A u v) : FR P A w v :=
  ⟨fun p hp => (h2.1 p hp).trans (h.1 p hp), fun c hc => (h2.2 c hc).trans (h.2 c hc)⟩
theorem co_fr {w u : Wd} (h : CO w) (f : FR coP coA w u) : CO u :=
  ct_fr h (fr_sub f (by decide) (by decide)) (tx_eq h.1 (f.1 (1, 1) (by decide)) (f.1 (43, 13) (by decide)) (f.2 2 (by decide)) (f.2 51 (by decide)))
def LI (w : Wd) : Prop := RS w ∧ CO w
def Q1 : Int → Wd → Prop := fun r _ => r = 1
/-! TEXTS: end, sign, rule, week -/
theorem c_end {w : Wd} {v1 : Int} (h : LI w) (i_v1 : ((-2147483648 : Int) ≤ v1 ∧ v1 ≤ 2147483647)) : OK (f_E_end v1 w) (fun r1 u1 => OK (f_R_end v1 u1) (fun r2 u2 => LI u2 ∧ r1 = r2)) := by
  refine ok_w (e_E_end h.1 i_v1) (fun r1 u1 q1 => ?_)
  obtain ⟨g1, s1, p1⟩ := q1
  refine ok_w (e_R_end s1 i_v1) (fun r2 u2 q2 => ?_)
  obtain ⟨g2, s2, p2⟩ := q2
  have t2 : u1 43 13 = w 43 13 := g1.2.1 43 13 rfl
  have t3 : u2 1 1 = u1 1 1 := g2.2.1 1 1 rfl
  have hl := h.2.1.1
  have f := fr_tr (fr_g (P := ctP) (A := 2 :: 51 :: ctA) g1 rfl) (fr_g g2 rfl)
  refine ⟨⟨s2, ct_fr h.2 (fr_sub f (by decide) (by decide)) ⟨by omega, fun k hk => ?_⟩⟩, by omega⟩
  rw [f.2 2 (by decide), f.2 51 (by decide)]
  exact h.2.1.2 k (by omega)
theorem c_sign {w : Wd} {v1 : Int} (h : LI w) (i_v1 : ((-2147483648 : Int) ≤ v1 ∧ v1 ≤ 2147483647)) : OK (f_E_sign v1 w) (fun r1 u1 => OK (f_R_sign v1 u1) (fun r2 u2 => LI u2 ∧ r1 = r2)) := by
  have a11 : (0 : Int) ≤ w 1 1 ∧ w 1 1 ≤ 80 := h.1.1.1 1 1
  refine ok_w (ok_pc (e_E_sign h.1 i_v1) (sgE_pc a11)) (fun r1 u1 q1 => ?_)
  obtain ⟨⟨g1, s1, p1⟩, x1⟩ := q1
  have a13 : (0 : Int) ≤ u1 43 13 ∧ u1 43 13 ≤ 80 := s1.1.1 43 13
  refine ok_w (ok_pc (e_R_sign s1 i_v1) (sgR_pc a13)) (fun r2 u2 q2 => ?_)
  obtain ⟨⟨g2, s2, p2⟩, x2⟩ := q2
  have t2 : u1 43 13 = w 43 13 := g1.2.1 43 13 rfl
  have t3 : u2 1 1 = u1 1 1 := g2.2.1 1 1 rfl
  have f := fr_tr (fr_g (P := ctP) (A := ctA) g1 rfl) (fr_g g2 rfl)
  refine ⟨⟨s2, ct_fr h.2 f (tx_sign h.2.1 a11.1 x1 x2 t2 (funext fun k => g1.2.1 51 k (mS_ar rfl k)) t3 (funext fun k => g2.2.1 2 k (mS_ar rfl k)))⟩, ?_⟩
  have hl := h.2.1.1
  clear x1 x2
  omega
theorem c_rule0 {w : Wd} (h : LI w) : OK (f_E_rule w) (fun _ u1 => OK (f_R_rule u1) (fun _ u2 => LI u2)) := by
  refine ok_w (e_E_rule h.1) (fun r1 u1 q1 => ?_)
  obtain ⟨g1, s1, p1⟩ := q1
  refine ok_w (e_R_rule s1) (fun r2 u2 q2 => ?_)
  obtain ⟨g2, s2, p2⟩ := q2
  exact ⟨s2, ct_fr h.2 (fr_tr (fr_g (P := ctP) (A := ctA) g1 rfl) (fr_g g2 rfl)) (tx_0 ((g2.2.1 1 1 rfl).trans p1) p2)⟩
/-! PEOPLE CAME: land, baby -/
theorem co_pp {w u : Wd} (h : CO w) (f : FR ckP ctA w u) (t : TX u) (e : u 5 3 = u 43 0) (hs : (u 5 3 = w 5 3 ∧ u 43 56 = w 43 56) ∨ (w 5 3 < u 5 3 ∧ w 43 56 < u 43 56)) : CO u := by
  obtain ⟨h1, h2, h3, h4, h5⟩ := h
  have p := f.1
  have a79 := f.2 79 (by decide)
  have a80 := f.2 80 (by decide)
  have a81 := f.2 81 (by decide)
  refine ⟨t, e, ⟨?_, ?_⟩, ?_, ?_⟩
  · rw [p (5, 7) (by decide), p (43, 10) (by decide)]; exact h3.1
  · rw [p (5, 8) (by decide), p (43, 11) (by decide)]; exact h3.2
  · exact km_eq h4 (p (37, 2) (by decide)) (p (37, 3) (by decide)) (p (37, 7) (by decide)) (p (37, 8) (by decide)) a80 a79 a81 hs
  · exact km_eq h5 (p (40, 2) (by decide)) (p (40, 3) (by decide)) (p (40, 7) (by decide)) (p (40, 8) (by decide)) a80 a79 a81 hs
theorem rs_56 {w : Wd} (h : RS w) : 0 ≤ w 43 56 ∧ w 43 56 ≤ 10 := by
  have a0 : (0 : Int) ≤ w 43 0 ∧ w 43 0 ≤ 10 := h.1.1 43 0
  have c := h.2.1.2.2.2.1
  exact ⟨c.1, Int.le_trans c.2.1 a0.2⟩
theorem c_land {w : Wd} (h : LI w) : OK (f_E_land w) (fun r1 u1 => OK (f_R_land u1) (fun r2 u2 => LI u2 ∧ r1 = r2)) := by
  refine ok_w (ok_pc (e_E_land h.1) (land_E (g_self h.1.1))) (fun r1 u1 q1 => ?_)
  obtain ⟨⟨g1, s1, p1⟩, x1, y1⟩ := q1
  refine ok_w (ok_pc (e_R_land s1) (land_R (g_self s1.1) (rs_56 s1))) (fun r2 u2 q2 => ?_)
  obtain ⟨⟨g2, s2, p2⟩, x2, y2, z2⟩ := q2
  have e13 : u1 43 13 = w 43 13 := g1.2.1 43 13 rfl
  have e51 : u1 51 = w 51 := funext fun k => g1.2.1 51 k (mS_ar rfl k)
  have e0 : u1 43 0 = w 43 0 := g1.2.1 43 0 rfl
  have e56 : u1 43 56 = w 43 56 := g1.2.1 43 56 rfl
  have t53 : u2 5 3 = u1 5 3 := g2.2.1 5 3 rfl
  have a0 : (0 : Int) ≤ w 5 3 ∧ w 5 3 ≤ 10 := h.1.1.1 5 3
  have hP := h.2.2.1
  have hr : r1 = r2 := by
    refine x1.trans ((landA_sy (tx_sy h.2.1 (fun k => (h.1.1.1 2 k).1)) a0.1).trans ?_)
    rw [x2, e13, e51, e0, h.2.1.1, h.2.2.1]
  refine ⟨⟨s2, co_pp h.2 (fr_tr (fr_g (P := ckP) (A := ctA) g1 rfl) (fr_g g2 rfl)) (tx_0 ((g2.2.1 1 1 rfl).trans p1) p2) ?_ ?_⟩, hr⟩
  · rw [t53, y1, y2, e0, hP, hr]
  · clear x1 x2
    by_cases c : 0 < r1
    · rw [if_pos c] at y1
      rw [if_pos (by omega)] at z2
      exact Or.inr ⟨by omega, by omega⟩
    · rw [if_neg c] at y1
      rw [if_neg (by omega)] at z2
      exact Or.inl ⟨by omega, by omega⟩
theorem bb_E {w : Wd} {v1 : Int} (hG : G md_E_baby w w) (hv : -2147483648 ≤ v1 ∧ v1 ≤ 2147483647) : PC (f_E_baby v1 w) (fun r u => (¬ (w 5 3 ≤ 9 ∧ 0 ≤ v1 ∧ v1 ≤ w32 (ishl 1 (w 5 3) - 1)) ∧ r = -1 ∧ u 5 3 = w 5 3) ∨ ((w 5 3 ≤ 9 ∧ 0 ≤ v1 ∧ v1 ≤ w32 (ishl 1 (w 5 3) - 1)) ∧ r = w 5 3 ∧ u 5 3 = w 5 3 + 1)) := by
  unfold f_E_baby
  have a0 : (0 : Int) ≤ w 5 3 ∧ w 5 3 ≤ 10 := hG.1 5 3
  refine pc_ite (fun c => pc_some (Or.inl ⟨fun c2 => by omega, rfl, rfl⟩)) (fun c => ?_)
  unfold f_F_everybody
  rw [jc_s]
  refine pc_ite (fun c1 => ?_) (fun c1 => ?_)
  · have c2 := (baby_c a0 hv).mp c1
    refine pc_call (pc_and (pc_ok (s_F_add (g_self hG) (by decide) hv)) (fadd (by omega))) (fun r3 u4 q => ?_)
    obtain ⟨⟨_, gy⟩, q3, _⟩ := q
    refine pc_call (pc_ok (s_E_peopleCame (g_self (g_tr hG gy rfl)))) (fun r5 u6 q => ?_)
    have t : u6 5 3 = u4 5 3 := q.2.2.1 5 3 rfl
    have w1 := w32_sp (u6 5 3 - 1)
    exact pc_some (Or.inr ⟨⟨by omega, c2⟩, by omega, by omega⟩)
  · exact pc_some (Or.inl ⟨fun c2 => c1 ((baby_c a0 hv).mpr c2.2), rfl, rfl⟩)
theorem bb_R {w : Wd} {v1 : Int} (hG : G md_R_baby w w) (h56 : 0 ≤ w 43 56 ∧ w 43 56 ≤ 10) : PC (f_R_baby v1 w) (fun r u => (¬ (w 43 0 ≤ 9 ∧ 0 ≤ v1 ∧ v1 ≤ w32 (ishl 1 (w 43 0) - 1)) ∧ r = -1 ∧ u 43 0 = w 43 0 ∧ u 43 56 = w 43 56) ∨ ((w 43 0 ≤ 9 ∧ 0 ≤ v1 ∧ v1 ≤ w32 (ishl 1 (w 43 0) - 1)) ∧ r = w 43 0 ∧ u 43 0 = w 43 0 + 1 ∧ u 43 56 = w 43 56 + 1)) := by
  unfold f_R_baby
  have a0 : (0 : Int) ≤ w 43 0 ∧ w 43 0 ≤ 10 := hG.1 43 0
  refine pc_lw (fun u1 e1 => ?_)
  have g1 : G md_R_baby w u1 := g_st hG e1 rfl rfl (show (0 : Int) ≤ 0 ∧ (0 : Int) ≤ 1 by decide)
  have t0 : u1 43 0 = w 43 0 := by rw [e1, st_k (by decide)]
  have t56 : u1 43 56 = w 43 56 := by rw [e1, st_k (by decide)]
  rw [in_e, jc_s, t0]
  have hA := all_e a0
  refine pc_ite (fun c => ?_) (fun c => ?_)
  · refine pc_some (Or.inl ⟨fun c2 => ?_, rfl, t0, t56⟩)
    rw [if_pos c2.2] at c
    exact absurd c (by decide)
  · have c1 : 0 ≤ v1 ∧ v1 ≤ w32 (ishl 1 (w 43 0) - 1) := by
      by_cases c2 : 0 ≤ v1 ∧ v1 ≤ w32 (ishl 1 (w 43 0) - 1)
      · exact c2
      · rw [if_neg c2] at c; exact absurd rfl c
    refine pc_ite (fun c2 => pc_some (Or.inl ⟨fun c3 => by omega, rfl, t0, t56⟩)) (fun c2 => ?_)
    refine pc_call (pc_ok (s_R_add (g_self g1) (by omega) (by decide) (by omega) (by decide) (by decide))) (fun r4 u5 q => ?_)
    obtain ⟨_, gy⟩ := q
    have g5 : G md_R_baby w u5 := g_tr g1 gy rfl
    have t5 : u5 43 0 = w 43 0 := (gy.2.1 43 0 rfl).trans t0
    have t556 : u5 43 56 = w 43 56 := (gy.2.1 43 56 rfl).trans t56
    have w1 := w32_sp (u5 43 0 + 1)
    refine pc_lw (fun u6 e6 => ?_)
    have t6 : u6 43 0 = w 43 0 + 1 := by rw [e6, st_eq]; omega
    have t656 : u6 43 56 = w 43 56 := by rw [e6, st_k (by decide)]; exact t556
    have g6 : G md_R_baby w u6 := g_st g5 e6 rfl rfl (show (0 : Int) ≤ w32 (u5 43 0 + 1) ∧ w32 (u5 43 0 + 1) ≤ 10 by omega)
    refine pc_call (pc_and (pc_ok (s_R_told (g_self g6))) (told_pc (g_self g6) (by omega))) (fun r7 u8 q => ?_)
    obtain ⟨⟨_, gy8, _⟩, _, q56⟩ := q
    have t8 : u8 43 0 = u6 43 0 := gy8.2.1 43 0 rfl
    have w2 := w32_sp (u8 43 0 - 1)
    exact pc_some (Or.inr ⟨⟨by omega, c1⟩, by omega, by omega, by omega⟩)
theorem c_baby {w : Wd} {v1 : Int} (h : LI w) (i_v1 : ((-2147483648 : Int) ≤ v1 ∧ v1 ≤ 2147483647)) : OK (f_E_baby v1 w) (fun r1 u1 => OK (f_R_baby v1 u1) (fun r2 u2 => LI u2 ∧ r1 = r2)) := by
  refine ok_w (ok_pc (e_E_baby h.1 i_v1) (bb_E (g_self h.1.1) i_v1)) (fun r1 u1 q1 => ?_)
  obtain ⟨⟨g1, s1⟩, x1⟩ := q1
  refine ok_w (ok_pc (e_R_baby s1 i_v1) (bb_R (g_self s1.1) (rs_56 s1))) (fun r2 u2 q2 => ?_)
  obtain ⟨⟨g2, s2⟩, x2⟩ := q2
  have e0 : u1 43 0 = w 43 0 := g1.2.1 43 0 rfl
  have e56 : u1 43 56 = w 43 56 := g1.2.1 43 56 rfl
  have t53 : u2 5 3 = u1 5 3 := g2.2.1 5 3 rfl
  have hP := h.2.2.1
  rw [e0, e56, ← hP] at x2
  have f := fr_tr (fr_g (P := (1, 1) :: (43, 13) :: ckP) (A := 2 :: 51 :: ctA) g1 rfl) (fr_g g2 rfl)
  have t := tx_eq h.2.1 (f.1 (1, 1) (by decide)) (f.1 (43, 13) (by decide)) (f.2 2 (by decide)) (f.2 51 (by decide))
  rcases x1 with ⟨n1, a1, b1⟩ | ⟨n1, a1, b1⟩
  · rcases x2 with ⟨n2, a2, b2, c2⟩ | ⟨n2, a2, b2, c2⟩
    · exact ⟨⟨s2, co_pp h.2 (fr_sub f (by decide) (by decide)) t (by omega) (Or.inl ⟨by omega, c2⟩)⟩, by omega⟩
    · exact absurd n2 n1
  · rcases x2 with ⟨n2, a2, b2, c2⟩ | ⟨n2, a2, b2, c2⟩
    · exact absurd n1 n2
    · exact ⟨⟨s2, co_pp h.2 (fr_sub f (by decide) (by decide)) t (by omega) (Or.inr ⟨by omega, by omega⟩)⟩, by omega⟩
/-! THE LAW -/
theorem sf_pc (w : Wd) : PC (f_S_forget w) (fun _ u => ∀ c, c ≠ 28 → u c = w c) := by
  unfold f_S_forget
  refine pc_lw (fun u1 e1 => pc_some (fun c hc => ?_))
  rw [e1]; exact st_row hc
def LW (g s v1 v2 r g' s' : Int) : Prop := (v1 = 0 ∧ (1 ≤ v2 ∧ v2 ≤ 3) ∧ r = g ∧ g' = v2 ∧ s' = s) ∨ (v1 = 1 ∧ (1 ≤ v2 ∧ v2 ≤ 10) ∧ r = s ∧ g' = g ∧ s' = v2) ∨ (¬ (v1 = 0 ∧ 1 ≤ v2 ∧ v2 ≤ 3) ∧ ¬ (v1 = 1 ∧ 1 ≤ v2 ∧ v2 ≤ 10) ∧ r = -1 ∧ g' = g ∧ s' = s)
theorem lw_E (v1 v2 : Int) (w : Wd) : PC (f_E_law v1 v2 w) (fun r u => LW (w 5 7) (w 5 8) v1 v2 r (u 5 7) (u 5 8)) := by
  have k51 : ∀ s0 : Int, PC (f_E_law_51 v1 v2 s0 w) (fun r u => r = s0 ∧ (v1 = 0 → u 5 7 = v2 ∧ u 5 8 = w 5 8) ∧ (v1 ≠ 0 → u 5 7 = w 5 7 ∧ u 5 8 = v2)) := by
    intro s0
    unfold f_E_law_51
    refine pc_ite (fun c => ?_) (fun c => ?_)
    · refine pc_lw (fun u4 e4 => ?_)
      unfold f_E_law_75
      refine pc_call (sf_pc u4) (fun r2 u3 q => pc_some ⟨rfl, fun _ => ?_, fun n => absurd c n⟩)
      rw [q 5 (by decide), e4, st_eq, st_k (by decide)]
      exact ⟨rfl, rfl⟩
    · refine pc_lw (fun u4 e4 => ?_)
      unfold f_E_law_75
      refine pc_call (sf_pc u4) (fun r2 u3 q => pc_some ⟨rfl, fun n => absurd n c, fun _ => ?_⟩)
      rw [q 5 (by decide), e4, st_eq, st_k (by decide)]
      exact ⟨rfl, rfl⟩
  unfold f_E_law LW
  refine pc_ite (fun c => pc_some (Or.inr (Or.inr ⟨by omega, by omega, rfl, rfl, rfl⟩))) (fun c1 => ?_)
  refine pc_ite (fun c => pc_some (Or.inr (Or.inr ⟨by omega, by omega, rfl, rfl, rfl⟩))) (fun c2 => ?_)
  refine pc_ite (fun c => pc_some (Or.inr (Or.inr ⟨by omega, by omega, rfl, rfl, rfl⟩))) (fun c3 => ?_)
  refine pc_ite (fun c => ?_) (fun c => ?_)
  · unfold f_E_law_25
    refine pc_ite (fun c4 => ?_) (fun c4 => pc_some (Or.inr (Or.inr ⟨by omega, by omega, rfl, rfl, rfl⟩)))
    refine pc_ite (fun _ => ?_) (fun n => absurd c n)
    refine pc_w (k51 _) (fun r u q => Or.inl ⟨c, by omega, q.1, (q.2.1 c).1, (q.2.1 c).2⟩)
  · unfold f_E_law_25
    refine pc_ite (fun c4 => ?_) (fun c4 => pc_some (Or.inr (Or.inr ⟨by omega, by omega, rfl, rfl, rfl⟩)))
    refine pc_ite (fun n => absurd n c) (fun _ => ?_)
    refine pc_w (k51 _) (fun r u q => Or.inr (Or.inl ⟨by omega, by omega, q.1, (q.2.2 c).1, (q.2.2 c).2⟩))
theorem lw_R (v1 v2 : Int) (w : Wd) : PC (f_R_law v1 v2 w) (fun r u => LW (w 43 10) (w 43 11) v1 v2 r (u 43 10) (u 43 11)) := by
  unfold f_R_law LW
  refine pc_lw (fun u1 e1 => ?_)
  have t10 : u1 43 10 = w 43 10 := by rw [e1, st_k (by decide)]
  have t11 : u1 43 11 = w 43 11 := by rw [e1, st_k (by decide)]
  rw [in_e, jc_s]
  by_cases c : 0 ≤ v1 ∧ v1 ≤ 1
  · rw [if_pos c]
    refine pc_ite (fun h => absurd h (by decide)) (fun _ => ?_)
    refine pc_ite (fun c1 => ?_) (fun c1 => ?_)
    · unfold f_R_law_26
      rw [in_e, jc_s]
      by_cases c2 : 1 ≤ v2 ∧ v2 ≤ 3
      · rw [if_pos c2]
        refine pc_ite (fun h => absurd h (by decide)) (fun _ => ?_)
        refine pc_ite (fun _ => ?_) (fun n => absurd c1 n)
        unfold f_R_law_49
        refine pc_ite (fun _ => ?_) (fun n => absurd c1 n)
        refine pc_lw (fun u7 e7 => pc_some (Or.inl ⟨c1, c2, t10, ?_, ?_⟩))
        · rw [e7, st_eq]
        · rw [e7, st_k (by decide)]; exact t11
      · rw [if_neg c2]
        exact pc_ite (fun _ => pc_some (Or.inr (Or.inr ⟨by omega, by omega, rfl, t10, t11⟩))) (fun n => absurd rfl n)
    · unfold f_R_law_26
      rw [in_e, jc_s]
      by_cases c2 : 1 ≤ v2 ∧ v2 ≤ 10
      · rw [if_pos c2]
        refine pc_ite (fun h => absurd h (by decide)) (fun _ => ?_)
        refine pc_ite (fun n => absurd n c1) (fun _ => ?_)
        unfold f_R_law_49
        refine pc_ite (fun n => absurd n c1) (fun _ => ?_)
        refine pc_lw (fun u7 e7 => pc_some (Or.inr (Or.inl ⟨by omega, c2, t11, ?_, ?_⟩)))
        · rw [e7, st_k (by decide)]; exact t10
        · rw [e7, st_eq]
      · rw [if_neg c2]
        exact pc_ite (fun _ => pc_some (Or.inr (Or.inr ⟨by omega, by omega, rfl, t10, t11⟩))) (fun n => absurd rfl n)
  · rw [if_neg c]
    exact pc_ite (fun _ => pc_some (Or.inr (Or.inr ⟨by omega, by omega, rfl, t10, t11⟩))) (fun n => absurd rfl n)
/-- grace and seats anew, all else as it was -/
theorem co_gs {w u : Wd} (h : CO w) (f : FR clP coA w u) (e : u 5 7 = u 43 10 ∧ u 5 8 = u 43 11) : CO u := by
  obtain ⟨h1, h2, h3, h4, h5⟩ := h
  have p := f.1
  have a79 := f.2 79 (by decide)
  have a80 := f.2 80 (by decide)
  have a81 := f.2 81 (by decide)
  have q53 := p (5, 3) (by decide)
  have q56 := p (43, 56) (by decide)
  refine ⟨tx_eq h1 (p (1, 1) (by decide)) (p (43, 13) (by decide)) (f.2 2 (by decide)) (f.2 51 (by decide)), ?_, e, ?_, ?_⟩
  · rw [q53, p (43, 0) (by decide)]; exact h2
  · exact km_eq h4 (p (37, 2) (by decide)) (p (37, 3) (by decide)) (p (37, 7) (by decide)) (p (37, 8) (by decide)) a80 a79 a81 (Or.inl ⟨q53, q56⟩)
  · exact km_eq h5 (p (40, 2) (by decide)) (p (40, 3) (by decide)) (p (40, 7) (by decide)) (p (40, 8) (by decide)) a80 a79 a81 (Or.inl ⟨q53, q56⟩)
theorem c_law {w : Wd} {v1 v2 : Int} (h : LI w) (i_v1 : ((-2147483648 : Int) ≤ v1 ∧ v1 ≤ 2147483647)) (i_v2 : ((-2147483648 : Int) ≤ v2 ∧ v2 ≤ 2147483647)) : OK (f_E_law v1 v2 w) (fun r1 u1 => OK (f_R_law v1 v2 u1) (fun r2 u2 => LI u2 ∧ r1 = r2)) := by
  refine ok_w (ok_pc (e_E_law h.1 i_v1 i_v2) (lw_E v1 v2 w)) (fun r1 u1 q1 => ?_)
  obtain ⟨⟨g1, s1⟩, x1⟩ := q1
  refine ok_w (ok_pc (e_R_law s1 i_v1 i_v2) (lw_R v1 v2 u1)) (fun r2 u2 q2 => ?_)
  obtain ⟨⟨g2, s2⟩, x2⟩ := q2
  have e10 : u1 43 10 = w 43 10 := g1.2.1 43 10 rfl
  have e11 : u1 43 11 = w 43 11 := g1.2.1 43 11 rfl
  have t7 : u2 5 7 = u1 5 7 := g2.2.1 5 7 rfl
  have t8 : u2 5 8 = u1 5 8 := g2.2.1 5 8 rfl
  have f := fr_tr (fr_g (P := clP) (A := coA) g1 rfl) (fr_g g2 rfl)
  obtain ⟨hg, hs⟩ := h.2.2.2.1
  unfold LW at x1 x2
  refine ⟨⟨s2, co_gs h.2 f ⟨by omega, by omega⟩⟩, by omega⟩
/-! LAYING ASIDE, BRINGING BACK: all of it -/
theorem lay_q79 {k : Nat} {v2 pd : Int} (hk : v2 = k) (i2 : 0 ≤ v2 ∧ v2 ≤ 105) (i0 b0 f0 z0 : Nat → Int) : ∀ (n : Nat) {w : Wd} {v3 : Int}, (0 ≤ v3 ∧ v3 ≤ 10) → (∀ j, w 47 j = i0 j) → (∀ j, w 48 j = b0 j) → (∀ j, w 49 j = f0 j) → w 43 7 = pd → (∀ j : Nat, (j : Int) < v3 → w 79 (k + 3 * j) = i0 j ∧ w 79 (k + 3 * j + 1) = b0 j ∧ w 79 (k + 3 * j + 2) = f0 j) → (∀ i, (i < k ∨ k + 31 ≤ i) → w 79 i = z0 i) → PC (f_R_lay_43_79_2 n v2 v3 w) (fun _ u => (∀ j : Nat, j < 10 → u 79 (k + 3 * j) = i0 j ∧ u 79 (k + 3 * j + 1) = b0 j ∧ u 79 (k + 3 * j + 2) = f0 j) ∧ u 79 (k + 30) = pd ∧ ∀ i, (i < k ∨ k + 31 ≤ i) → u 79 i = z0 i) := by
  intro n
  induction n with
  | zero => intros; exact pc_none
  | succ n ih =>
    intro w v3 i3 h47 h48 h49 h7 hD hO
    rw [f_R_lay_43_79_2]
    have w1 := w32_sp (v2 + 30)
    have w2 := w32_sp (3 * v3)
    have w3 := w32_sp (v2 + w32 (3 * v3))
    have w4 := w32_sp (w32 (v2 + w32 (3 * v3)) + 1)
    have w5 := w32_sp (w32 (v2 + w32 (3 * v3)) + 2)
    have w6 := w32_sp (v3 + 1)
    refine pc_ite (fun h => ?_) (fun h => ?_)
    · refine pc_gd (fun _ => ?_)
      refine pc_lw (fun u1 e1 => ?_)
      have q0 : (w32 (v2 + 30)).toNat = k + 30 := by omega
      refine pc_some ⟨fun j hj => ?_, ?_, fun i hi => ?_⟩
      · have h1 := hD j (by omega)
        rw [e1, st_k (by omega), st_k (by omega), st_k (by omega)]
        exact h1
      · rw [e1, q0, st_eq]; exact h7
      · rw [e1, st_k (by omega)]; exact hO i hi
    · refine pc_gd (fun _ => ?_)
      refine pc_gd (fun _ => ?_)
      refine pc_lw (fun u2 e2 => ?_)
      refine pc_gd (fun _ => ?_)
      refine pc_gd (fun _ => ?_)
      refine pc_lw (fun u3 e3 => ?_)
      refine pc_gd (fun _ => ?_)
      refine pc_gd (fun _ => ?_)
      refine pc_lw (fun u4 e4 => ?_)
      refine pc_let (fun x5 e5 => ?_)
      have q1 : (w32 (v2 + w32 (3 * v3))).toNat = k + 3 * v3.toNat := by omega
      have q2 : (w32 (w32 (v2 + w32 (3 * v3)) + 1)).toNat = k + 3 * v3.toNat + 1 := by omega
      have q3 : (w32 (w32 (v2 + w32 (3 * v3)) + 2)).toNat = k + 3 * v3.toNat + 2 := by omega
      rw [q1] at e2; rw [q2] at e3; rw [q3] at e4
      have a47 : ∀ j, u4 47 j = i0 j := fun j => by rw [e4, st_c (by decide), e3, st_c (by decide), e2, st_c (by decide)]; exact h47 j
      have a48 : ∀ j, u4 48 j = b0 j := fun j => by rw [e4, st_c (by decide), e3, st_c (by decide), e2, st_c (by decide)]; exact h48 j
      have a49 : ∀ j, u4 49 j = f0 j := fun j => by rw [e4, st_c (by decide), e3, st_c (by decide), e2, st_c (by decide)]; exact h49 j
      refine ih (by omega) a47 a48 a49 (by rw [e4, st_c (by decide), e3, st_c (by decide), e2, st_c (by decide)]; exact h7) (fun j hj => ?_) (fun i hi => ?_)
      · by_cases hjv : j = v3.toNat
        · subst hjv
          refine ⟨?_, ?_, ?_⟩
          · rw [e4, st_k (by omega), e3, st_k (by omega), e2, st_eq]; exact h47 _
          · rw [e4, st_k (by omega), e3, st_eq, e2, st_c (by decide)]; exact h48 _
          · rw [e4, st_eq, e3, st_c (by decide), e2, st_c (by decide)]; exact h49 _
        · have h1 := hD j (by omega)
          rw [e4, st_k (by omega), st_k (by omega), st_k (by omega), e3, st_k (by omega), st_k (by omega), st_k (by omega), e2, st_k (by omega), st_k (by omega), st_k (by omega)]
          exact h1
      · rw [e4, st_k (by omega), e3, st_k (by omega), e2, st_k (by omega)]; exact hO i hi
theorem layq79 {k : Nat} {v2 : Int} (hk : v2 = k) (i2 : 0 ≤ v2 ∧ v2 ≤ 105) (w : Wd) : PC (f_R_lay_43_79 v2 w) (fun _ u => (∀ j : Nat, j < 10 → u 79 (k + 3 * j) = w 47 j ∧ u 79 (k + 3 * j + 1) = w 48 j ∧ u 79 (k + 3 * j + 2) = w 49 j) ∧ u 79 (k + 30) = w 43 7 ∧ ∀ i, (i < k ∨ k + 31 ≤ i) → u 79 i = w 79 i) := by
  unfold f_R_lay_43_79
  exact lay_q79 hk i2 (w 47) (w 48) (w 49) (w 79) FU (by omega) (fun _ => rfl) (fun _ => rfl) (fun _ => rfl) rfl (fun j hj => by omega) (fun _ _ => rfl)
theorem bring_q79 {k : Nat} {v2 : Int} (hk : v2 = k) (i2 : 0 ≤ v2 ∧ v2 ≤ 105) (P : Int) (hP : P ≤ 10) (z0 : Nat → Int) : ∀ (n : Nat) {w : Wd} {v3 : Int}, (0 ≤ v3 ∧ v3 ≤ 10) → w 43 0 = P → (∀ j, w 79 j = z0 j) → (∀ j : Nat, (j : Int) < v3 → w 47 j = z0 (k + 3 * j) ∧ w 48 j = z0 (k + 3 * j + 1) ∧ w 49 j = z0 (k + 3 * j + 2)) → PC (f_R_bring_43_79_2 n v2 v3 w) (fun _ u => (∀ j : Nat, (j : Int) < P → u 47 j = z0 (k + 3 * j) ∧ u 48 j = z0 (k + 3 * j + 1) ∧ u 49 j = z0 (k + 3 * j + 2)) ∧ u 43 7 = z0 (k + 30)) := by
  intro n
  induction n with
  | zero => intros; exact pc_none
  | succ n ih =>
    intro w v3 i3 h0 hz hD
    rw [f_R_bring_43_79_2]
    have w1 := w32_sp (v2 + 30)
    have w2 := w32_sp (3 * v3)
    have w3 := w32_sp (v2 + w32 (3 * v3))
    have w4 := w32_sp (w32 (v2 + w32 (3 * v3)) + 1)
    have w5 := w32_sp (w32 (v2 + w32 (3 * v3)) + 2)
    have w6 := w32_sp (v3 + 1)
    refine pc_ite (fun h => ?_) (fun h => ?_)
    · refine pc_gd (fun _ => ?_)
      refine pc_lw (fun u1 e1 => ?_)
      have q0 : (w32 (v2 + 30)).toNat = k + 30 := by omega
      refine pc_some ⟨fun j hj => ?_, ?_⟩
      · rw [e1, st_c (by decide), st_c (by decide), st_c (by decide)]
        exact hD j (by omega)
      · rw [e1, q0, st_eq]; exact hz _
    · refine pc_gd (fun _ => ?_)
      refine pc_gd (fun _ => ?_)
      refine pc_lw (fun u2 e2 => ?_)
      refine pc_gd (fun _ => ?_)
      refine pc_gd (fun _ => ?_)
      refine pc_lw (fun u3 e3 => ?_)
      refine pc_gd (fun _ => ?_)
      refine pc_gd (fun _ => ?_)
      refine pc_lw (fun u4 e4 => ?_)
      refine pc_let (fun x5 e5 => ?_)
      have q1 : (w32 (v2 + w32 (3 * v3))).toNat = k + 3 * v3.toNat := by omega
      have q2 : (w32 (w32 (v2 + w32 (3 * v3)) + 1)).toNat = k + 3 * v3.toNat + 1 := by omega
      have q3 : (w32 (w32 (v2 + w32 (3 * v3)) + 2)).toNat = k + 3 * v3.toNat + 2 := by omega
      rw [q1] at e2; rw [q2] at e3; rw [q3] at e4
      have aZ2 : ∀ j, u2 79 j = z0 j := fun j => by rw [e2, st_c (by decide)]; exact hz j
      have aZ3 : ∀ j, u3 79 j = z0 j := fun j => by rw [e3, st_c (by decide)]; exact aZ2 j
      rw [hz] at e2; rw [aZ2] at e3; rw [aZ3] at e4
      refine ih (by omega) (by rw [e4, st_c (by decide), e3, st_c (by decide), e2, st_c (by decide)]; exact h0) (fun j => by rw [e4, st_c (by decide)]; exact aZ3 j) (fun j hj => ?_)
      by_cases hjv : j = v3.toNat
      · subst hjv
        refine ⟨?_, ?_, ?_⟩
        · rw [e4, st_c (by decide), e3, st_c (by decide), e2, st_eq]
        · rw [e4, st_c (by decide), e3, st_eq]
        · rw [e4, st_eq]
      · have h1 := hD j (by omega)
        rw [e4, st_c (by decide), st_c (by decide), st_k hjv, e3, st_c (by decide), st_k hjv, st_c (by decide), e2, st_k hjv, st_c (by decide), st_c (by decide)]
        exact h1
theorem bringq79 {k : Nat} {v2 : Int} (hk : v2 = k) (i2 : 0 ≤ v2 ∧ v2 ≤ 105) (w : Wd) (hP : w 43 0 ≤ 10) : PC (f_R_bring_43_79 v2 w) (fun _ u => (∀ j : Nat, (j : Int) < w 43 0 → u 47 j = w 79 (k + 3 * j) ∧ u 48 j = w 79 (k + 3 * j + 1) ∧ u 49 j = w 79 (k + 3 * j + 2)) ∧ u 43 7 = w 79 (k + 30)) := by
  unfold f_R_bring_43_79
  exact bring_q79 hk i2 (w 43 0) hP (w 79) FU (by omega) rfl (fun _ => rfl) (fun j hj => by omega)
theorem lay_q59 {k : Nat} {v2 pd : Int} (hk : v2 = k) (i2 : 0 ≤ v2 ∧ v2 ≤ 1829) (i0 b0 f0 z0 : Nat → Int) : ∀ (n : Nat) {w : Wd} {v3 : Int}, (0 ≤ v3 ∧ v3 ≤ 10) → (∀ j, w 47 j = i0 j) → (∀ j, w 48 j = b0 j) → (∀ j, w 49 j = f0 j) → w 43 7 = pd → (∀ j : Nat, (j : Int) < v3 → w 59 (k + 3 * j) = i0 j ∧ w 59 (k + 3 * j + 1) = b0 j ∧ w 59 (k + 3 * j + 2) = f0 j) → (∀ i, (i < k ∨ k + 31 ≤ i) → w 59 i = z0 i) → PC (f_R_lay_43_59_2 n v2 v3 w) (fun _ u => (∀ j : Nat, j < 10 → u 59 (k + 3 * j) = i0 j ∧ u 59 (k + 3 * j + 1) = b0 j ∧ u 59 (k + 3 * j + 2) = f0 j) ∧ u 59 (k + 30) = pd ∧ ∀ i, (i < k ∨ k + 31 ≤ i) → u 59 i = z0 i) := by
  intro n
  induction n with
  | zero => intros; exact pc_none
  | succ n ih =>
    intro w v3 i3 h47 h48 h49 h7 hD hO
    rw [f_R_lay_43_59_2]
    have w1 := w32_sp (v2 + 30)
    have w2 := w32_sp (3 * v3)
    have w3 := w32_sp (v2 + w32 (3 * v3))
    have w4 := w32_sp (w32 (v2 + w32 (3 * v3)) + 1)
    have w5 := w32_sp (w32 (v2 + w32 (3 * v3)) + 2)
    have w6 := w32_sp (v3 + 1)
    refine pc_ite (fun h => ?_) (fun h => ?_)
    · refine pc_gd (fun _ => ?_)
      refine pc_lw (fun u1 e1 => ?_)
      have q0 : (w32 (v2 + 30)).toNat = k + 30 := by omega
      refine pc_some ⟨fun j hj => ?_, ?_, fun i hi => ?_⟩
      · have h1 := hD j (by omega)
        rw [e1, st_k (by omega), st_k (by omega), st_k (by omega)]
        exact h1
      · rw [e1, q0, st_eq]; exact h7
      · rw [e1, st_k (by omega)]; exact hO i hi
    · refine pc_gd (fun _ => ?_)
      refine pc_gd (fun _ => ?_)
      refine pc_lw (fun u2 e2 => ?_)
      refine pc_gd (fun _ => ?_)
      refine pc_gd (fun _ => ?_)
      refine pc_lw (fun u3 e3 => ?_)
      refine pc_gd (fun _ => ?_)
      refine pc_gd (fun _ => ?_)
      refine pc_lw (fun u4 e4 => ?_)
      refine pc_let (fun x5 e5 => ?_)
      have q1 : (w32 (v2 + w32 (3 * v3))).toNat = k + 3 * v3.toNat := by omega
      have q2 : (w32 (w32 (v2 + w32 (3 * v3)) + 1)).toNat = k + 3 * v3.toNat + 1 := by omega
      have q3 : (w32 (w32 (v2 + w32 (3 * v3)) + 2)).toNat = k + 3 * v3.toNat + 2 := by omega
      rw [q1] at e2; rw [q2] at e3; rw [q3] at e4
      have a47 : ∀ j, u4 47 j = i0 j := fun j => by rw [e4, st_c (by decide), e3, st_c (by decide), e2, st_c (by decide)]; exact h47 j
      have a48 : ∀ j, u4 48 j = b0 j := fun j => by rw [e4, st_c (by decide), e3, st_c (by decide), e2, st_c (by decide)]; exact h48 j
      have a49 : ∀ j, u4 49 j = f0 j := fun j => by rw [e4, st_c (by decide), e3, st_c (by decide), e2, st_c (by decide)]; exact h49 j
      refine ih (by omega) a47 a48 a49 (by rw [e4, st_c (by decide), e3, st_c (by decide), e2, st_c (by decide)]; exact h7) (fun j hj => ?_) (fun i hi => ?_)
      · by_cases hjv : j = v3.toNat
        · subst hjv
          refine ⟨?_, ?_, ?_⟩
          · rw [e4, st_k (by omega), e3, st_k (by omega), e2, st_eq]; exact h47 _
          · rw [e4, st_k (by omega), e3, st_eq, e2, st_c (by decide)]; exact h48 _
          · rw [e4, st_eq, e3, st_c (by decide), e2, st_c (by decide)]; exact h49 _
        · have h1 := hD j (by omega)
          rw [e4, st_k (by omega), st_k (by omega), st_k (by omega), e3, st_k (by omega), st_k (by omega), st_k (by omega), e2, st_k (by omega), st_k (by omega), st_k (by omega)]
          exact h1
      · rw [e4, st_k (by omega), e3, st_k (by omega), e2, st_k (by omega)]; exact hO i hi
theorem layq59 {k : Nat} {v2 : Int} (hk : v2 = k) (i2 : 0 ≤ v2 ∧ v2 ≤ 1829) (w : Wd) : PC (f_R_lay_43_59 v2 w) (fun _ u => (∀ j : Nat, j < 10 → u 59 (k + 3 * j) = w 47 j ∧ u 59 (k + 3 * j + 1) = w 48 j ∧ u 59 (k + 3 * j + 2) = w 49 j) ∧ u 59 (k + 30) = w 43 7 ∧ ∀ i, (i < k ∨ k + 31 ≤ i) → u 59 i = w 59 i) := by
  unfold f_R_lay_43_59
  exact lay_q59 hk i2 (w 47) (w 48) (w 49) (w 59) FU (by omega) (fun _ => rfl) (fun _ => rfl) (fun _ => rfl) rfl (fun j hj => by omega) (fun _ _ => rfl)
theorem bring_q59 {k : Nat} {v2 : Int} (hk : v2 = k) (i2 : 0 ≤ v2 ∧ v2 ≤ 1829) (P : Int) (hP : P ≤ 10) (z0 : Nat → Int) : ∀ (n : Nat) {w : Wd} {v3 : Int}, (0 ≤ v3 ∧ v3 ≤ 10) → w 43 0 = P → (∀ j, w 59 j = z0 j) → (∀ j : Nat, (j : Int) < v3 → w 47 j = z0 (k + 3 * j) ∧ w 48 j = z0 (k + 3 * j + 1) ∧ w 49 j = z0 (k + 3 * j + 2)) → PC (f_R_bring_43_59_2 n v2 v3 w) (fun _ u => (∀ j : Nat, (j : Int) < P → u 47 j = z0 (k + 3 * j) ∧ u 48 j = z0 (k + 3 * j + 1) ∧ u 49 j = z0 (k + 3 * j + 2)) ∧ u 43 7 = z0 (k + 30)) := by
  intro n
  induction n with
  | zero => intros; exact pc_none
  | succ n ih =>
    intro w v3 i3 h0 hz hD
    rw [f_R_bring_43_59_2]
    have w1 := w32_sp (v2 + 30)
    have w2 := w32_sp (3 * v3)
    have w3 := w32_sp (v2 + w32 (3 * v3))
    have w4 := w32_sp (w32 (v2 + w32 (3 * v3)) + 1)
    have w5 := w32_sp (w32 (v2 + w32 (3 * v3)) + 2)
    have w6 := w32_sp (v3 + 1)
    refine pc_ite (fun h => ?_) (fun h => ?_)
    · refine pc_gd (fun _ => ?_)
      refine pc_lw (fun u1 e1 => ?_)
      have q0 : (w32 (v2 + 30)).toNat = k + 30 := by omega
      refine pc_some ⟨fun j hj => ?_, ?_⟩
      · rw [e1, st_c (by decide), st_c (by decide), st_c (by decide)]
        exact hD j (by omega)
      · rw [e1, q0, st_eq]; exact hz _
    · refine pc_gd (fun _ => ?_)
      refine pc_gd (fun _ => ?_)
      refine pc_lw (fun u2 e2 => ?_)
      refine pc_gd (fun _ => ?_)
      refine pc_gd (fun _ => ?_)
      refine pc_lw (fun u3 e3 => ?_)
      refine pc_gd (fun _ => ?_)
      refine pc_gd (fun _ => ?_)
      refine pc_lw (fun u4 e4 => ?_)
      refine pc_let (fun x5 e5 => ?_)
      have q1 : (w32 (v2 + w32 (3 * v3))).toNat = k + 3 * v3.toNat := by omega
      have q2 : (w32 (w32 (v2 + w32 (3 * v3)) + 1)).toNat = k + 3 * v3.toNat + 1 := by omega
      have q3 : (w32 (w32 (v2 + w32 (3 * v3)) + 2)).toNat = k + 3 * v3.toNat + 2 := by omega
      rw [q1] at e2; rw [q2] at e3; rw [q3] at e4
      have aZ2 : ∀ j, u2 59 j = z0 j := fun j => by rw [e2, st_c (by decide)]; exact hz j
      have aZ3 : ∀ j, u3 59 j = z0 j := fun j => by rw [e3, st_c (by decide)]; exact aZ2 j
      rw [hz] at e2; rw [aZ2] at e3; rw [aZ3] at e4
      refine ih (by omega) (by rw [e4, st_c (by decide), e3, st_c (by decide), e2, st_c (by decide)]; exact h0) (fun j => by rw [e4, st_c (by decide)]; exact aZ3 j) (fun j hj => ?_)
      by_cases hjv : j = v3.toNat
      · subst hjv
        refine ⟨?_, ?_, ?_⟩
        · rw [e4, st_c (by decide), e3, st_c (by decide), e2, st_eq]
        · rw [e4, st_c (by decide), e3, st_eq]
        · rw [e4, st_eq]
      · have h1 := hD j (by omega)
        rw [e4, st_c (by decide), st_c (by decide), st_k hjv, e3, st_c (by decide), st_k hjv, st_c (by decide), e2, st_k hjv, st_c (by decide), st_c (by decide)]
        exact h1
theorem bringq59 {k : Nat} {v2 : Int} (hk : v2 = k) (i2 : 0 ≤ v2 ∧ v2 ≤ 1829) (w : Wd) (hP : w 43 0 ≤ 10) : PC (f_R_bring_43_59 v2 w) (fun _ u => (∀ j : Nat, (j : Int) < w 43 0 → u 47 j = w 59 (k + 3 * j) ∧ u 48 j = w 59 (k + 3 * j + 1) ∧ u 49 j = w 59 (k + 3 * j + 2)) ∧ u 43 7 = w 59 (k + 30)) := by
  unfold f_R_bring_43_59
  exact bring_q59 hk i2 (w 43 0) hP (w 59) FU (by omega) rfl (fun _ => rfl) (fun j hj => by omega)
/-! keep: the class -/
def KTq (w u : Wd) (c d g : Nat) : Prop := u c 2 = 1 ∧ u c 3 = w 5 3 ∧ u c 4 = w 5 4 ∧ u c 5 = w 5 5 ∧ u c 6 = w 5 6 ∧ u c 7 = w 5 7 ∧ u c 8 = w 5 8 ∧ u c 9 = w 15 3 ∧ (∀ k : Nat, k < 10 → u d k = w 8 k) ∧ ∀ k : Nat, k < 61 → u g k = w 16 k
theorem kt0 (w : Wd) : PC (f_K_take w) (fun _ u => KTq w u 37 38 39) := by
  unfold f_K_take KTq
  refine pc_lw (fun u1 e1 => ?_)
  refine pc_lw (fun u2 e2 => ?_)
  refine pc_lw (fun u3 e3 => ?_)
  refine pc_lw (fun u4 e4 => ?_)
  refine pc_lw (fun u5 e5 => ?_)
  refine pc_lw (fun u6 e6 => ?_)
  refine pc_lw (fun u7 e7 => ?_)
  refine pc_lw (fun u8 e8 => ?_)
  refine pc_gd (fun _ => ?_)
  refine pc_lw (fun u9 e9 => ?_)
  refine pc_gd (fun _ => ?_)
  refine pc_lw (fun u10 e10 => ?_)
  subst e1; subst e2; subst e3; subst e4; subst e5; subst e6; subst e7; subst e8; subst e9; subst e10
  refine pc_some ⟨?_, ?_, ?_, ?_, ?_, ?_, ?_, ?_, fun k hk => ?_, fun k hk => ?_⟩ <;> simp [st, cpy]
  · omega
  · omega
theorem kt1 (w : Wd) : PC (f_K_take_40_5_15 w) (fun _ u => KTq w u 40 41 42) := by
  unfold f_K_take_40_5_15 KTq
  refine pc_lw (fun u1 e1 => ?_)
  refine pc_lw (fun u2 e2 => ?_)
  refine pc_lw (fun u3 e3 => ?_)
  refine pc_lw (fun u4 e4 => ?_)
  refine pc_lw (fun u5 e5 => ?_)
  refine pc_lw (fun u6 e6 => ?_)
  refine pc_lw (fun u7 e7 => ?_)
  refine pc_lw (fun u8 e8 => ?_)
  refine pc_gd (fun _ => ?_)
  refine pc_lw (fun u9 e9 => ?_)
  refine pc_gd (fun _ => ?_)
  refine pc_lw (fun u10 e10 => ?_)
  subst e1; subst e2; subst e3; subst e4; subst e5; subst e6; subst e7; subst e8; subst e9; subst e10
  refine pc_some ⟨?_, ?_, ?_, ?_, ?_, ?_, ?_, ?_, fun k hk => ?_, fun k hk => ?_⟩ <;> simp [st, cpy]
  · omega
  · omega
theorem kp_E {v1 : Int} {w : Wd} (hG : G md_E_keep w w) : PC (f_E_keep v1 w) (fun r u => (¬ (0 ≤ v1 ∧ v1 ≤ 1) ∧ r = 0 ∧ u = w) ∨ (v1 = 0 ∧ r = 1 ∧ KTq w u 37 38 39 ∧ u 40 = w 40 ∧ u 41 = w 41 ∧ u 42 = w 42) ∨ (v1 = 1 ∧ r = 1 ∧ KTq w u 40 41 42 ∧ u 37 = w 37 ∧ u 38 = w 38 ∧ u 39 = w 39)) := by
  unfold f_E_keep
  refine pc_ite (fun c => pc_some (Or.inl ⟨by omega, rfl, rfl⟩)) (fun c => ?_)
  refine pc_ite (fun c1 => ?_) (fun c1 => pc_some (Or.inl ⟨by omega, rfl, rfl⟩))
  refine pc_ite (fun c2 => ?_) (fun c2 => ?_)
  · refine pc_call (pc_and (pc_ok (s_K_take (g_self hG))) (kt0 w)) (fun r1 u2 q => ?_)
    obtain ⟨⟨_, gy⟩, q⟩ := q
    exact pc_some (Or.inr (Or.inl ⟨c2, rfl, q, funext fun k => gy.2.1 40 k (mS_ar rfl k), funext fun k => gy.2.1 41 k (mS_ar rfl k), funext fun k => gy.2.1 42 k (mS_ar rfl k)⟩))
  · refine pc_ite (fun c3 => ?_) (fun _ => pc_none)
    refine pc_call (pc_and (pc_ok (s_K_take_40_5_15 (g_self hG))) (kt1 w)) (fun r1 u2 q => ?_)
    obtain ⟨⟨_, gy⟩, q⟩ := q
    exact pc_some (Or.inr (Or.inr ⟨c3, rfl, q, funext fun k => gy.2.1 37 k (mS_ar rfl k), funext fun k => gy.2.1 38 k (mS_ar rfl k), funext fun k => gy.2.1 39 k (mS_ar rfl k)⟩))
/-! keep: the reference -/
theorem kq_125 {x : Wd} {i : Nat} {z : Nat → Int} {v2 : Int} (h2 : v2 = 105 * i + 41) (hi : i < 2) : ∀ (n : Nat) {w : Wd} {v3 : Int}, 0 ≤ v3 → v3 ≤ 61 → E79 x w → (∀ k : Nat, w 79 k = if 105 * i + 44 ≤ k ∧ (k : Int) < 105 * i + 44 + v3 then x 50 (k - (105 * i + 44)) else z k) → PC (f_R_keep_125 n v2 v3 w) (fun r u => r = 1 ∧ E79 x u ∧ ∀ k : Nat, u 79 k = if 105 * i + 44 ≤ k ∧ k < 105 * i + 105 then x 50 (k - (105 * i + 44)) else z k) := by
  intro n
  induction n with
  | zero => intros; exact pc_none
  | succ n ih =>
    intro w v3 i3 i4 hE hZ
    rw [f_R_keep_125]
    have w1 := w32_sp (v3 + 1)
    have w2 := w32_sp (v2 + 3)
    have w3 := w32_sp (w32 (v2 + 3) + v3)
    refine pc_ite (fun h => pc_some ⟨rfl, hE, fun k => ?_⟩) (fun h => ?_)
    · rw [hZ k]
      by_cases c : 105 * i + 44 ≤ k ∧ k < 105 * i + 105
      · rw [if_pos c, if_pos (by omega)]
      · rw [if_neg c, if_neg (by omega)]
    · refine pc_gd (fun _ => ?_)
      refine pc_gd (fun _ => ?_)
      refine pc_lw (fun u14 e14 => ?_)
      refine pc_let (fun x15 e15 => ?_)
      have q1 : (w32 (w32 (v2 + 3) + v3)).toNat = 105 * i + 44 + v3.toNat := by omega
      rw [q1] at e14
      refine ih (by omega) (by omega) (fun c k hc => ?_) (fun k => ?_)
      · rw [e14, st_c hc]; exact hE c k hc
      · rw [e14]
        by_cases hk : k = 105 * i + 44 + v3.toNat
        · rw [hk, st_eq, if_pos (by omega), hE 50 _ (by decide)]
          congr 1
          omega
        · rw [st_k hk, hZ k]
          by_cases c : 105 * i + 44 ≤ k ∧ (k : Int) < 105 * i + 44 + v3
          · rw [if_pos c, if_pos (by omega)]
          · rw [if_neg c, if_neg (by omega)]
def KF (x : Wd) (i : Nat) (z : Nat → Int) (k : Nat) : Int := if 105 * i + 44 ≤ k ∧ k < 105 * i + 105 then x 50 (k - (105 * i + 44)) else if k = 105 * i + 43 then x 43 8 else if k = 105 * i + 42 then x 43 11 else if k = 105 * i + 41 then x 43 10 else if 105 * i + 31 ≤ k ∧ k < 105 * i + 41 then (if x 46 (k - (105 * i + 31)) = 0 then 0 else 1) else z k
theorem kq_52 {x : Wd} {i : Nat} {z : Nat → Int} {v2 : Int} (h2 : v2 = 105 * i + 31) (hi : i < 2) : ∀ (n : Nat) {w : Wd} {v3 : Int}, (0 ≤ v3 ∧ v3 ≤ 10) → E79 x w → (∀ k : Nat, w 79 k = if 105 * i + 31 ≤ k ∧ (k : Int) < 105 * i + 31 + v3 then (if x 46 (k - (105 * i + 31)) = 0 then 0 else 1) else z k) → PC (f_R_keep_52 n v2 v3 w) (fun r u => r = 1 ∧ E79 x u ∧ ∀ k : Nat, u 79 k = KF x i z k) := by
  intro n
  induction n with
  | zero => intros; exact pc_none
  | succ n ih =>
    intro w v3 i3 hE hZ
    rw [f_R_keep_52]
    have w1 := w32_sp (v2 + 10)
    have w2 := w32_sp (v2 + v3)
    have w3 := w32_sp (v3 + 1)
    refine pc_ite (fun _ => ?_) (fun h => ?_)
    · refine pc_let (fun x10 e10 => ?_)
      have w4 := w32_sp (x10 + 1)
      have w5 := w32_sp (x10 + 2)
      refine pc_gd (fun _ => ?_)
      refine pc_lw (fun u11 e11 => ?_)
      refine pc_gd (fun _ => ?_)
      refine pc_lw (fun u12 e12 => ?_)
      refine pc_gd (fun _ => ?_)
      refine pc_lw (fun u13 e13 => ?_)
      have hx0 : x10.toNat = 105 * i + 41 := by omega
      have hx1 : (w32 (x10 + 1)).toNat = 105 * i + 42 := by omega
      have hx2 : (w32 (x10 + 2)).toNat = 105 * i + 43 := by omega
      have y10 : w 43 10 = x 43 10 := hE 43 10 (by decide)
      have y11 : u11 43 11 = x 43 11 := by rw [e11, st_c (by decide)]; exact hE 43 11 (by decide)
      have y8 : u12 43 8 = x 43 8 := by rw [e12, st_c (by decide), e11, st_c (by decide)]; exact hE 43 8 (by decide)
      rw [hx0, y10] at e11; rw [hx1, y11] at e12; rw [hx2, y8] at e13
      refine pc_w (kq_125 (x := x) (i := i) (z := u13 79) (by omega) hi FU (by decide) (by decide) (fun c k hc => ?_) (fun k => ?_)) (fun r u q => ⟨q.1, q.2.1, fun k => ?_⟩)
      · rw [e13, st_c hc, e12, st_c hc, e11, st_c hc]; exact hE c k hc
      · rw [if_neg (by omega)]
      · rw [q.2.2 k]
        unfold KF
        by_cases c1 : 105 * i + 44 ≤ k ∧ k < 105 * i + 105
        · rw [if_pos c1, if_pos c1]
        · rw [if_neg c1, if_neg c1]
          by_cases c2 : k = 105 * i + 43
          · rw [if_pos c2, e13, c2, st_eq]
          · rw [if_neg c2, e13, st_k c2]
            by_cases c3 : k = 105 * i + 42
            · rw [if_pos c3, e12, c3, st_eq]
            · rw [if_neg c3, e12, st_k c3]
              by_cases c4 : k = 105 * i + 41
              · rw [if_pos c4, e11, c4, st_eq]
              · rw [if_neg c4, e11, st_k c4, hZ k]
                by_cases c5 : 105 * i + 31 ≤ k ∧ k < 105 * i + 41
                · rw [if_pos c5, if_pos (by omega)]
                · rw [if_neg c5, if_neg (by omega)]
    · refine pc_gd (fun _ => ?_)
      have nx : ∀ s : Int, s = (if x 46 v3.toNat = 0 then 0 else 1) → PC (f_R_keep_79 (f_R_keep_52 n) v2 v3 (w32 (v2 + v3)) s w) (fun r u => r = 1 ∧ E79 x u ∧ ∀ k : Nat, u 79 k = KF x i z k) := by
        intro s hs
        unfold f_R_keep_79
        refine pc_gd (fun _ => ?_)
        refine pc_lw (fun u16 e16 => ?_)
        refine pc_let (fun x17 e17 => ?_)
        have q1 : (w32 (v2 + v3)).toNat = 105 * i + 31 + v3.toNat := by omega
        rw [q1] at e16
        refine ih (by omega) (fun c k hc => ?_) (fun k => ?_)
        · rw [e16, st_c hc]; exact hE c k hc
        · rw [e16]
          by_cases hk : k = 105 * i + 31 + v3.toNat
          · rw [hk, st_eq, if_pos (by omega), hs, show 105 * i + 31 + v3.toNat - (105 * i + 31) = v3.toNat by omega]
          · rw [st_k hk, hZ k]
            by_cases c : 105 * i + 31 ≤ k ∧ (k : Int) < 105 * i + 31 + v3
            · rw [if_pos c, if_pos (show 105 * i + 31 ≤ k ∧ (k : Int) < 105 * i + 31 + x17 by omega)]
            · rw [if_neg c, if_neg (by omega)]
      have e46 : w 46 v3.toNat = x 46 v3.toNat := hE 46 _ (by decide)
      rw [e46]
      exact pc_ite (fun c => nx 0 (by rw [if_pos c])) (fun c => nx 1 (by rw [if_neg c]))
def KRq (w u : Wd) (i : Nat) : Prop := u 80 i = 1 ∧ u 81 i = w 43 56 ∧ (∀ j : Nat, j < 10 → u 79 (105 * i + 3 * j) = w 47 j ∧ u 79 (105 * i + 3 * j + 1) = w 48 j ∧ u 79 (105 * i + 3 * j + 2) = w 49 j) ∧ u 79 (105 * i + 30) = w 43 7 ∧ (∀ k : Nat, 105 * i + 31 ≤ k → k < 105 * i + 105 → u 79 k = KF w i (w 79) k)
theorem kp_R {v1 : Int} {w : Wd} (hG : G md_R_keep w w) : PC (f_R_keep v1 w) (fun r u => (¬ (0 ≤ v1 ∧ v1 ≤ 1) ∧ r = 0 ∧ u 79 = w 79 ∧ u 80 = w 80 ∧ u 81 = w 81) ∨ ((0 ≤ v1 ∧ v1 ≤ 1) ∧ r = 1 ∧ KRq w u v1.toNat ∧ (∀ k, k ≠ v1.toNat → u 80 k = w 80 k ∧ u 81 k = w 81 k) ∧ ∀ k, (k < 105 * v1.toNat ∨ 105 * v1.toNat + 105 ≤ k) → u 79 k = w 79 k)) := by
  unfold f_R_keep
  refine pc_lw (fun u1 e1 => ?_)
  have g1 : G md_R_keep w u1 := g_st hG e1 rfl rfl (show (0 : Int) ≤ 0 ∧ (0 : Int) ≤ 1 by decide)
  rw [in_e, jc_s]
  refine pc_ite (fun hr => ?_) (fun hr => ?_)
  · refine pc_some (Or.inl ⟨fun h2 => ?_, rfl, ?_, ?_, ?_⟩)
    · rw [if_pos h2] at hr; exact absurd hr (by decide)
    · rw [e1]; exact st_row (by decide)
    · rw [e1]; exact st_row (by decide)
    · rw [e1]; exact st_row (by decide)
  · have hv : 0 ≤ v1 ∧ v1 ≤ 1 := by
      by_cases h2 : 0 ≤ v1 ∧ v1 ≤ 1
      · exact h2
      · rw [if_neg h2] at hr; exact absurd rfl hr
    have nz1 : nz 1 = 1 := by decide
    have c56 := g1.1 43 56
    refine pc_gd (fun _ => ?_)
    refine pc_lw (fun u4 e4 => ?_)
    refine pc_gd (fun _ => ?_)
    refine pc_lw (fun u5 e5 => ?_)
    have g4 : G md_R_keep w u4 := g_st g1 e4 rfl rfl (show (0 : Int) ≤ nz 1 ∧ nz 1 ≤ 1 by omega)
    have g5 : G md_R_keep w u5 := g_st g4 e5 rfl rfl (g4.1 43 56)
    have w1 := w32_sp (105 * v1)
    refine pc_let (fun x6 e6 => ?_)
    refine pc_call (pc_and (pc_ok (s_R_lay_43_79 (v2 := x6) (g_self g5) (by omega) (by omega))) (layq79 (k := 105 * v1.toNat) (v2 := x6) (by omega) (by omega) u5)) (fun r7 u8 q => ?_)
    obtain ⟨⟨_, gy⟩, hD, hp, hO⟩ := q
    have w2 := w32_sp (x6 + 31)
    refine pc_let (fun x9 e9 => ?_)
    have r1 : ∀ c, c ≠ 43 → c ≠ 80 → c ≠ 81 → c ≠ 79 → u8 c = w c := by
      intro c h43 h80 h81 h79
      have t : u8 c = u5 c := funext fun k => gy.2.1 c k (mS_ar (by
        unfold md_R_lay_43_79
        simp
        omega) k)
      rw [t, e5, st_row h81, e4, st_row h80, e1, st_row h43]
    have r43 : ∀ k, k ≠ 16 → u8 43 k = w 43 k := by
      intro k hk
      have t : u8 43 k = u5 43 k := gy.2.1 43 k (mS_ar rfl k)
      rw [t, e5, st_c (by decide), e4, st_c (by decide), e1, st_k hk]
    have t79 : u5 79 = w 79 := by rw [e5, st_row (by decide), e4, st_row (by decide), e1, st_row (by decide)]
    have t47 : u5 47 = w 47 := by rw [e5, st_row (by decide), e4, st_row (by decide), e1, st_row (by decide)]
    have t48 : u5 48 = w 48 := by rw [e5, st_row (by decide), e4, st_row (by decide), e1, st_row (by decide)]
    have t49 : u5 49 = w 49 := by rw [e5, st_row (by decide), e4, st_row (by decide), e1, st_row (by decide)]
    have t7 : u5 43 7 = w 43 7 := by rw [e5, st_c (by decide), e4, st_c (by decide), e1, st_k (by decide)]
    rw [t47, t48, t49] at hD
    rw [t7] at hp
    rw [t79] at hO
    have f80 : u8 80 = u4 80 := by
      have t : u8 80 = u5 80 := funext fun k => gy.2.1 80 k (mS_ar rfl k)
      rw [t, e5, st_row (by decide)]
    have f81 : u8 81 = u5 81 := funext fun k => gy.2.1 81 k (mS_ar rfl k)
    have t56 : u4 43 56 = w 43 56 := by rw [e4, st_c (by decide), e1, st_k (by decide)]
    refine pc_w (kq_52 (x := u8) (i := v1.toNat) (z := u8 79) (by omega) (by omega) FU (by omega) (fun _ _ _ => rfl) (fun k => by rw [if_neg (by omega)])) (fun r u q => Or.inr ⟨hv, q.1, ⟨?_, ?_, fun j hj => ?_, ?_, fun k k1 k2 => ?_⟩, fun k hk => ⟨?_, ?_⟩, fun k hk => ?_⟩)
    · rw [q.2.1 80 _ (by decide), f80, e4, st_eq]; exact nz1
    · rw [q.2.1 81 _ (by decide), f81, e5, st_eq]; exact t56
    · have h1 := hD j hj
      have y : ∀ a : Nat, a < 31 → u 79 (105 * v1.toNat + a) = u8 79 (105 * v1.toNat + a) := fun a ha => by
        rw [q.2.2]; unfold KF
        rw [if_neg (by omega), if_neg (by omega), if_neg (by omega), if_neg (by omega), if_neg (by omega)]
      rw [show 105 * v1.toNat + 3 * j + 1 = 105 * v1.toNat + (3 * j + 1) by omega, show 105 * v1.toNat + 3 * j + 2 = 105 * v1.toNat + (3 * j + 2) by omega] at h1 ⊢
      rw [y _ (by omega), y _ (by omega), y _ (by omega)]
      exact h1
    · rw [q.2.2]; unfold KF
      rw [if_neg (by omega), if_neg (by omega), if_neg (by omega), if_neg (by omega), if_neg (by omega)]
      exact hp
    · rw [q.2.2]; unfold KF
      rw [r1 50 (by decide) (by decide) (by decide) (by decide), r1 46 (by decide) (by decide) (by decide) (by decide), r43 8 (by decide), r43 10 (by decide), r43 11 (by decide)]
      by_cases c1 : 105 * v1.toNat + 44 ≤ k ∧ k < 105 * v1.toNat + 105
      · rw [if_pos c1, if_pos c1]
      · rw [if_neg c1, if_neg c1]
        by_cases c2 : k = 105 * v1.toNat + 43
        · rw [if_pos c2, if_pos c2]
        · rw [if_neg c2, if_neg c2]
          by_cases c3 : k = 105 * v1.toNat + 42
          · rw [if_pos c3, if_pos c3]
          · rw [if_neg c3, if_neg c3]
            by_cases c4 : k = 105 * v1.toNat + 41
            · rw [if_pos c4, if_pos c4]
            · rw [if_neg c4, if_neg c4, if_pos (show 105 * v1.toNat + 31 ≤ k ∧ k < 105 * v1.toNat + 41 by omega), if_pos (show 105 * v1.toNat + 31 ≤ k ∧ k < 105 * v1.toNat + 41 by omega)]
    · rw [q.2.1 80 _ (by decide), f80, e4, st_k hk, e1, st_c (by decide)]
    · rw [q.2.1 81 _ (by decide), f81, e5, st_k hk, e4, st_c (by decide), e1, st_c (by decide)]
    · rw [q.2.2]; unfold KF
      rw [if_neg (by omega), if_neg (by omega), if_neg (by omega), if_neg (by omega), if_neg (by omega)]
      exact hO k (by omega)
theorem c_keep {w : Wd} {v1 : Int} (h : LI w) (i_v1 : ((-2147483648 : Int) ≤ v1 ∧ v1 ≤ 2147483647)) : OK (f_E_keep v1 w) (fun r1 u1 => OK (f_R_keep v1 u1) (fun r2 u2 => LI u2 ∧ r1 = r2)) := by
  refine ok_w (ok_pc (e_E_keep h.1 i_v1) (kp_E (g_self h.1.1))) (fun r1 u1 q1 => ?_)
  obtain ⟨⟨g1, s1⟩, x1⟩ := q1
  refine ok_w (ok_pc (e_R_keep s1 i_v1) (kp_R (g_self s1.1))) (fun r2 u2 q2 => ?_)
  obtain ⟨⟨g2, s2⟩, x2⟩ := q2
  have f := fr_tr (fr_g (P := [(1, 1), (43, 13), (5, 3), (43, 0), (5, 7), (43, 10), (5, 8), (43, 11), (43, 56)]) (A := [2, 51]) g1 rfl) (fr_g g2 rfl)
  have p := f.1
  have q53 := p (5, 3) (by decide)
  have q56 := p (43, 56) (by decide)
  have r79 : u1 79 = w 79 := funext fun k => g1.2.1 79 k (mS_ar rfl k)
  have r80 : u1 80 = w 80 := funext fun k => g1.2.1 80 k (mS_ar rfl k)
  have r81 : u1 81 = w 81 := funext fun k => g1.2.1 81 k (mS_ar rfl k)
  have r37 : u2 37 = u1 37 := funext fun k => g2.2.1 37 k (mS_ar rfl k)
  have r40 : u2 40 = u1 40 := funext fun k => g2.2.1 40 k (mS_ar rfl k)
  have e10 : u1 43 10 = w 43 10 := g1.2.1 43 10 rfl
  have e11 : u1 43 11 = w 43 11 := g1.2.1 43 11 rfl
  have e56 : u1 43 56 = w 43 56 := g1.2.1 43 56 rfl
  obtain ⟨h1, h2, h3, h4, h5⟩ := h.2
  have fin : KM u2 37 0 ∧ KM u2 40 1 → LI u2 := fun k => ⟨s2, tx_eq h1 (p (1, 1) (by decide)) (p (43, 13) (by decide)) (f.2 2 (by decide)) (f.2 51 (by decide)), by rw [q53, p (43, 0) (by decide)]; exact h2, ⟨by rw [p (5, 7) (by decide), p (43, 10) (by decide)]; exact h3.1, by rw [p (5, 8) (by decide), p (43, 11) (by decide)]; exact h3.2⟩, k.1, k.2⟩
  -- what was kept under another number stays
  have old : ∀ {c m : Nat}, KM w c m → m < 2 → u2 c = w c → u2 80 m = w 80 m → u2 81 m = w 81 m → (∀ k, k < 105 → u2 79 (105 * m + k) = w 79 (105 * m + k)) → KM u2 c m := by
    intro c m hk hm y1 y2 y3 y4
    unfold KM
    rw [y1, y2, y3, y4 41 (by decide), y4 42 (by decide), q53, q56]
    exact hk
  -- what is kept now
  have new : ∀ {c d g m : Nat}, m < 2 → KTq w u1 c d g → u2 c = u1 c → KRq u1 u2 m → KM u2 c m := by
    intro c d g m hm y1 y2 y3
    obtain ⟨a1, a2, _, _, _, a3, a4, _⟩ := y1
    obtain ⟨b1, b2, _, _, b3⟩ := y3
    have b41 := b3 (105 * m + 41) (by omega) (by omega)
    have b42 := b3 (105 * m + 42) (by omega) (by omega)
    unfold KF at b41 b42
    rw [if_neg (by omega), if_neg (by omega), if_neg (by omega), if_pos rfl] at b41
    rw [if_neg (by omega), if_neg (by omega), if_pos rfl] at b42
    unfold KM
    rw [y2, b1, b2, b41, b42, a1, a2, a3, a4, e10, e11, e56, q53, q56]
    exact ⟨rfl, fun _ => ⟨h3.1, h3.2, Or.inl ⟨rfl, rfl⟩⟩⟩
  rw [r79, r80, r81] at x2
  rcases x1 with ⟨n1, a1, b1⟩ | ⟨n1, a1, b1, b2, _⟩ | ⟨n1, a1, b1, b2, _⟩
  · rcases x2 with ⟨_, a2, c1, c2, c3⟩ | ⟨n2, _⟩
    · exact ⟨fin ⟨old h4 (by decide) (by rw [r37, b1]) (by rw [c2]) (by rw [c3]) (fun k _ => by rw [c1]), old h5 (by decide) (by rw [r40, b1]) (by rw [c2]) (by rw [c3]) (fun k _ => by rw [c1])⟩, by omega⟩
    · exact absurd n2 n1
  · rcases x2 with ⟨n2, _⟩ | ⟨n2, a2, c1, c2, c3⟩
    · exfalso; omega
    · have hv : v1.toNat = 0 := by omega
      rw [hv] at c1 c2 c3
      exact ⟨fin ⟨new (by decide) b1 r37 c1, old h5 (by decide) (by rw [r40, b2]) (c2 1 (by decide)).1 (c2 1 (by decide)).2 (fun k _ => c3 _ (by omega))⟩, by omega⟩
  · rcases x2 with ⟨n2, _⟩ | ⟨n2, a2, c1, c2, c3⟩
    · exfalso; omega
    · have hv : v1.toNat = 1 := by omega
      rw [hv] at c1 c2 c3
      exact ⟨fin ⟨old h4 (by decide) (by rw [r37, b2]) (c2 0 (by decide)).1 (c2 0 (by decide)).2 (fun k _ => c3 _ (by omega)), new (by decide) b1 r40 c1⟩, by omega⟩
/-! again: the class -/
def GBq (w u : Wd) (c d g : Nat) : Prop := u 5 4 = w c 4 ∧ u 5 5 = w c 5 ∧ u 5 6 = w c 6 ∧ u 5 7 = w c 7 ∧ u 5 8 = w c 8 ∧ u 15 3 = w c 9 ∧ u 15 4 = 0 ∧ (∀ k : Nat, k < 10 → u 8 k = w d k) ∧ ∀ k : Nat, k < 61 → u 16 k = w g k
theorem gb0 (w : Wd) : PC (f_K_giveBack w) (fun _ u => GBq w u 37 38 39) := by
  unfold f_K_giveBack GBq
  refine pc_lw (fun u1 e1 => ?_)
  refine pc_lw (fun u2 e2 => ?_)
  refine pc_lw (fun u3 e3 => ?_)
  refine pc_lw (fun u4 e4 => ?_)
  refine pc_lw (fun u5 e5 => ?_)
  refine pc_lw (fun u6 e6 => ?_)
  refine pc_lw (fun u7 e7 => ?_)
  refine pc_gd (fun _ => ?_)
  refine pc_lw (fun u9 e9 => ?_)
  refine pc_gd (fun _ => ?_)
  refine pc_lw (fun u10 e10 => ?_)
  subst e1; subst e2; subst e3; subst e4; subst e5; subst e6; subst e7; subst e9; subst e10
  refine pc_some ⟨?_, ?_, ?_, ?_, ?_, ?_, ?_, fun k hk => ?_, fun k hk => ?_⟩ <;> simp [st, cpy]
  · omega
  · omega
theorem gb1 (w : Wd) : PC (f_K_giveBack_40_5_15 w) (fun _ u => GBq w u 40 41 42) := by
  unfold f_K_giveBack_40_5_15 GBq
  refine pc_lw (fun u1 e1 => ?_)
  refine pc_lw (fun u2 e2 => ?_)
  refine pc_lw (fun u3 e3 => ?_)
  refine pc_lw (fun u4 e4 => ?_)
  refine pc_lw (fun u5 e5 => ?_)
  refine pc_lw (fun u6 e6 => ?_)
  refine pc_lw (fun u7 e7 => ?_)
  refine pc_gd (fun _ => ?_)
  refine pc_lw (fun u9 e9 => ?_)
  refine pc_gd (fun _ => ?_)
  refine pc_lw (fun u10 e10 => ?_)
  subst e1; subst e2; subst e3; subst e4; subst e5; subst e6; subst e7; subst e9; subst e10
  refine pc_some ⟨?_, ?_, ?_, ?_, ?_, ?_, ?_, fun k hk => ?_, fun k hk => ?_⟩ <;> simp [st, cpy]
  · omega
  · omega
theorem ft0 (w : Wd) : f_K_fits w = some (if w 37 2 ≠ 0 ∧ w 37 3 = w 5 3 then 1 else 0, w) := by
  unfold f_K_fits
  by_cases h1 : w 37 2 = 0
  · rw [if_pos h1, if_neg (fun h => h.1 h1)]
  · rw [if_neg h1]
    by_cases h2 : w 37 3 = w 5 3
    · rw [if_pos h2, if_pos ⟨h1, h2⟩]
    · rw [if_neg h2, if_neg (fun h => h2 h.2)]
theorem ft1 (w : Wd) : f_K_fits_40_5 w = some (if w 40 2 ≠ 0 ∧ w 40 3 = w 5 3 then 1 else 0, w) := by
  unfold f_K_fits_40_5
  by_cases h1 : w 40 2 = 0
  · rw [if_pos h1, if_neg (fun h => h.1 h1)]
  · rw [if_neg h1]
    by_cases h2 : w 40 3 = w 5 3
    · rw [if_pos h2, if_pos ⟨h1, h2⟩]
    · rw [if_neg h2, if_neg (fun h => h2 h.2)]
theorem gbq_sf {w u v : Wd} {c d g : Nat} (h : GBq w u c d g) (e : ∀ c, c ≠ 28 → v c = u c) : GBq w v c d g := by
  unfold GBq
  rw [e 5 (by decide), e 15 (by decide), e 8 (by decide), e 16 (by decide)]
  exact h
theorem ag_E {v1 : Int} {w : Wd} : PC (f_E_again v1 w) (fun r u => (¬ (v1 = 0 ∧ w 37 2 ≠ 0 ∧ w 37 3 = w 5 3) ∧ ¬ (v1 = 1 ∧ w 40 2 ≠ 0 ∧ w 40 3 = w 5 3) ∧ r = 0 ∧ u = w) ∨ ((v1 = 0 ∧ w 37 2 ≠ 0 ∧ w 37 3 = w 5 3) ∧ r = 1 ∧ GBq w u 37 38 39) ∨ ((v1 = 1 ∧ w 40 2 ≠ 0 ∧ w 40 3 = w 5 3) ∧ r = 1 ∧ GBq w u 40 41 42)) := by
  unfold f_E_again
  refine pc_ite (fun c => pc_some (Or.inl ⟨fun h => by omega, fun h => by omega, rfl, rfl⟩)) (fun c => ?_)
  refine pc_ite (fun c => pc_some (Or.inl ⟨fun h => by omega, fun h => by omega, rfl, rfl⟩)) (fun c => ?_)
  refine pc_ite (fun c2 => ?_) (fun c2 => ?_)
  · rw [ft0, jc_s]
    by_cases hf : w 37 2 ≠ 0 ∧ w 37 3 = w 5 3
    · rw [if_pos hf]
      refine pc_ite (fun h => absurd h (by decide)) (fun _ => ?_)
      refine pc_ite (fun _ => ?_) (fun n => absurd c2 n)
      refine pc_call (gb0 w) (fun r3 u4 q => ?_)
      refine pc_call (sf_pc u4) (fun r5 u6 p => ?_)
      exact pc_some (Or.inr (Or.inl ⟨⟨c2, hf⟩, rfl, gbq_sf q p⟩))
    · rw [if_neg hf]
      exact pc_ite (fun _ => pc_some (Or.inl ⟨fun h => hf h.2, fun h => by omega, rfl, rfl⟩)) (fun n => absurd rfl n)
  · refine pc_ite (fun c3 => ?_) (fun _ => pc_none)
    rw [ft1, jc_s]
    by_cases hf : w 40 2 ≠ 0 ∧ w 40 3 = w 5 3
    · rw [if_pos hf]
      refine pc_ite (fun h => absurd h (by decide)) (fun _ => ?_)
      refine pc_ite (fun n => absurd n c2) (fun _ => ?_)
      refine pc_ite (fun _ => ?_) (fun n => absurd c3 n)
      refine pc_call (gb1 w) (fun r3 u4 q => ?_)
      refine pc_call (sf_pc u4) (fun r5 u6 p => ?_)
      exact pc_some (Or.inr (Or.inr ⟨⟨c3, hf⟩, rfl, gbq_sf q p⟩))
    · rw [if_neg hf]
      exact pc_ite (fun _ => pc_some (Or.inl ⟨fun h => by omega, fun h => hf h.2, rfl, rfl⟩)) (fun n => absurd rfl n)
/-! again: the reference -/
theorem aq_133 {x : Wd} {i : Nat} {v2 : Int} (h2 : v2 = 105 * i + 41) (hi : i < 2) {wk g s : Int} {hd : Nat → Int} : ∀ (n : Nat) {w : Wd} {v3 : Int}, 0 ≤ v3 → E57 x w → w 43 8 = wk → w 43 10 = g → w 43 11 = s → w 46 = hd → (∀ t : Nat, (t : Int) < v3 → w 50 t = x 79 (105 * i + 44 + t)) → PC (f_R_again_133 n v2 v3 w) (fun r u => r = 1 ∧ E57 x u ∧ u 43 8 = wk ∧ u 43 10 = g ∧ u 43 11 = s ∧ u 46 = hd ∧ u 43 32 = 0 ∧ ∀ t : Nat, t < 61 → u 50 t = x 79 (105 * i + 44 + t)) := by
  intro n
  induction n with
  | zero => intros; exact pc_none
  | succ n ih =>
    intro w v3 i3 hE h8 h10 h11 h46 hW
    rw [f_R_again_133]
    have w1 := w32_sp (v3 + 1)
    have w2 := w32_sp (v2 + 3)
    have w3 := w32_sp (w32 (v2 + 3) + v3)
    refine pc_ite (fun _ => ?_) (fun _ => ?_)
    · refine pc_lw (fun u12 e12 => ?_)
      refine pc_some ⟨rfl, e57_st hE e12 (by omega), ?_, ?_, ?_, ?_, ?_, fun t ht => ?_⟩
      · rw [e12, st_k (by decide)]; exact h8
      · rw [e12, st_k (by decide)]; exact h10
      · rw [e12, st_k (by decide)]; exact h11
      · rw [e12, st_row (by decide)]; exact h46
      · rw [e12, st_eq]
      · rw [e12, st_c (by decide)]; exact hW t (by omega)
    · refine pc_gd (fun _ => ?_)
      refine pc_gd (fun _ => ?_)
      refine pc_lw (fun u13 e13 => ?_)
      refine pc_let (fun x14 e14 => ?_)
      refine ih (by omega) (e57_st hE e13 (by omega)) (by rw [e13, st_c (by decide)]; exact h8) (by rw [e13, st_c (by decide)]; exact h10) (by rw [e13, st_c (by decide)]; exact h11) (by rw [e13, st_row (by decide)]; exact h46) (fun t ht => ?_)
      rw [e13]
      by_cases c : t = v3.toNat
      · rw [c, st_eq, hE 79 _ (by omega)]
        congr 1
        omega
      · rw [st_k c]; exact hW t (by omega)
theorem aq_57 {x : Wd} {i : Nat} {v2 P : Int} (h2 : v2 = 105 * i + 31) (hi : i < 2) (hP : x 43 0 = P) (hP10 : P ≤ 10) : ∀ (n : Nat) {w : Wd} {v3 : Int}, 0 ≤ v3 → E57 x w → (∀ j : Nat, (j : Int) < v3 → w 46 j = if x 79 (105 * i + 31 + j) = 1 then 1 else 0) → PC (f_R_again_57 n v2 v3 w) (fun r u => r = 1 ∧ E57 x u ∧ u 43 8 = x 79 (105 * i + 43) ∧ u 43 10 = x 79 (105 * i + 41) ∧ u 43 11 = x 79 (105 * i + 42) ∧ (∀ j : Nat, (j : Int) < P → u 46 j = if x 79 (105 * i + 31 + j) = 1 then 1 else 0) ∧ u 43 32 = 0 ∧ ∀ t : Nat, t < 61 → u 50 t = x 79 (105 * i + 44 + t)) := by
  intro n
  induction n with
  | zero => intros; exact pc_none
  | succ n ih =>
    intro w v3 i3 hE hH
    rw [f_R_again_57]
    have y0 : w 43 0 = P := (hE 43 0 (by omega)).trans hP
    rw [y0]
    have w0 := w32_sp (v2 + v3)
    have w9 := w32_sp (v3 + 1)
    refine pc_ite (fun c0 => ?_) (fun c0 => ?_)
    · have w1 := w32_sp (v2 + 10)
      refine pc_let (fun x8 e8 => ?_)
      have w2 := w32_sp (x8 + 1)
      have w3 := w32_sp (x8 + 2)
      refine pc_gd (fun _ => ?_)
      refine pc_lw (fun u9 e9 => ?_)
      refine pc_gd (fun _ => ?_)
      refine pc_lw (fun u10 e10 => ?_)
      refine pc_gd (fun _ => ?_)
      refine pc_lw (fun u11 e11 => ?_)
      have E9 := e57_st hE e9 (by omega)
      have E10 := e57_st E9 e10 (by omega)
      have hx0 : x8.toNat = 105 * i + 41 := by omega
      have hx1 : (w32 (x8 + 1)).toNat = 105 * i + 42 := by omega
      have hx2 : (w32 (x8 + 2)).toNat = 105 * i + 43 := by omega
      rw [hx0, hE 79 _ (by omega)] at e9
      rw [hx1, E9 79 _ (by omega)] at e10
      rw [hx2, E10 79 _ (by omega)] at e11
      refine pc_w (aq_133 (x := x) (i := i) (by omega) hi FU (by decide) (e57_st E10 e11 (by omega)) rfl rfl rfl rfl (fun t ht => by omega)) (fun r u q => ⟨q.1, q.2.1, q.2.2.1.trans ?_, q.2.2.2.1.trans ?_, q.2.2.2.2.1.trans ?_, fun j hj => ?_, q.2.2.2.2.2.2⟩)
      · rw [e11, st_eq]
      · rw [e11, st_k (by decide), e10, st_k (by decide), e9, st_eq]
      · rw [e11, st_k (by decide), e10, st_eq]
      · rw [q.2.2.2.2.2.1, e11, st_c (by decide), e10, st_c (by decide), e9, st_c (by decide)]
        exact hH j (by omega)
    · refine pc_gd (fun _ => ?_)
      have q1 : (w32 (v2 + v3)).toNat = 105 * i + 31 + v3.toNat := by omega
      rw [q1, hE 79 _ (by omega)]
      have nx : ∀ s : Int, nz s = (if x 79 (105 * i + 31 + v3.toNat) = 1 then 1 else 0) → PC (f_R_again_87 (f_R_again_57 n) v2 v3 v3 s w) (fun r u => r = 1 ∧ E57 x u ∧ u 43 8 = x 79 (105 * i + 43) ∧ u 43 10 = x 79 (105 * i + 41) ∧ u 43 11 = x 79 (105 * i + 42) ∧ (∀ j : Nat, (j : Int) < P → u 46 j = if x 79 (105 * i + 31 + j) = 1 then 1 else 0) ∧ u 43 32 = 0 ∧ ∀ t : Nat, t < 61 → u 50 t = x 79 (105 * i + 44 + t)) := by
        intro s hs
        unfold f_R_again_87
        refine pc_gd (fun _ => ?_)
        refine pc_lw (fun u15 e15 => ?_)
        refine pc_let (fun x16 e16 => ?_)
        refine ih (by omega) (e57_st hE e15 (by omega)) (fun j hj => ?_)
        rw [e15]
        by_cases c : j = v3.toNat
        · rw [c, st_eq]; exact hs
        · rw [st_k c]; exact hH j (by omega)
      exact pc_ite (fun c => nx 1 (by rw [if_pos c]; decide)) (fun c => nx 0 (by rw [if_neg c]; decide))
def RAq (w u : Wd) (i : Nat) : Prop := (∀ j : Nat, (j : Int) < w 43 0 → u 47 j = w 79 (105 * i + 3 * j) ∧ u 48 j = w 79 (105 * i + 3 * j + 1) ∧ u 49 j = w 79 (105 * i + 3 * j + 2)) ∧ u 43 7 = w 79 (105 * i + 30) ∧ (∀ j : Nat, (j : Int) < w 43 0 → u 46 j = if w 79 (105 * i + 31 + j) = 1 then 1 else 0) ∧ u 43 10 = w 79 (105 * i + 41) ∧ u 43 11 = w 79 (105 * i + 42) ∧ u 43 8 = w 79 (105 * i + 43) ∧ u 43 32 = 0 ∧ ∀ t : Nat, t < 61 → u 50 t = w 79 (105 * i + 44 + t)
theorem ag_R {v1 : Int} {w : Wd} (hG : G md_R_again w w) : PC (f_R_again v1 w) (fun r u => (¬ ((0 ≤ v1 ∧ v1 ≤ 1) ∧ w 80 v1.toNat ≠ 0 ∧ w 81 v1.toNat = w 43 56) ∧ r = 0 ∧ u = st w 43 16 0) ∨ (((0 ≤ v1 ∧ v1 ≤ 1) ∧ w 80 v1.toNat ≠ 0 ∧ w 81 v1.toNat = w 43 56) ∧ r = 1 ∧ RAq w u v1.toNat)) := by
  unfold f_R_again
  refine pc_lw (fun u1 e1 => ?_)
  have g1 : G md_R_again w u1 := g_st hG e1 rfl rfl (show (0 : Int) ≤ 0 ∧ (0 : Int) ≤ 1 by decide)
  rw [in_e, jc_s]
  refine pc_ite (fun hr => ?_) (fun hr => ?_)
  · refine pc_some (Or.inl ⟨fun h2 => ?_, rfl, e1⟩)
    rw [if_pos h2.1] at hr; exact absurd hr (by decide)
  · have hv : 0 ≤ v1 ∧ v1 ≤ 1 := by
      by_cases h2 : 0 ≤ v1 ∧ v1 ≤ 1
      · exact h2
      · rw [if_neg h2] at hr; exact absurd rfl hr
    have t80 : u1 80 v1.toNat = w 80 v1.toNat := by rw [e1, st_c (by decide)]
    have t81 : u1 81 v1.toNat = w 81 v1.toNat := by rw [e1, st_c (by decide)]
    have t56 : u1 43 56 = w 43 56 := by rw [e1, st_k (by decide)]
    have t0 : u1 43 0 = w 43 0 := by rw [e1, st_k (by decide)]
    have t79 : u1 79 = w 79 := by rw [e1, st_row (by decide)]
    refine pc_gd (fun _ => ?_)
    rw [t80]
    refine pc_ite (fun h80 => pc_some (Or.inl ⟨fun h => h.2.1 h80, rfl, e1⟩)) (fun h80 => ?_)
    refine pc_gd (fun _ => ?_)
    rw [t81, t56]
    refine pc_ite (fun h81 => ?_) (fun h81 => pc_some (Or.inl ⟨fun h => h81 h.2.2, rfl, e1⟩))
    have a0 : (0 : Int) ≤ u1 43 0 ∧ u1 43 0 ≤ 10 := g1.1 43 0
    have w1 := w32_sp (105 * v1)
    refine pc_let (fun x4 e4 => ?_)
    refine pc_call (pc_and (pc_ok (s_R_bring_43_79 (v2 := x4) (g_self g1) (by omega) (by omega))) (bringq79 (k := 105 * v1.toNat) (v2 := x4) (by omega) (by omega) u1 (by omega))) (fun r5 u6 q => ?_)
    obtain ⟨⟨_, gy⟩, hD, h7⟩ := q
    have w2 := w32_sp (x4 + 31)
    refine pc_let (fun x7 e7 => ?_)
    have y79 : u6 79 = w 79 := (funext fun k => gy.2.1 79 k (mS_ar rfl k)).trans t79
    have y0 : u6 43 0 = w 43 0 := (gy.2.1 43 0 rfl).trans t0
    refine pc_w (aq_57 (x := u6) (i := v1.toNat) (P := w 43 0) (by omega) (by omega) y0 (by omega) FU (by decide) (fun _ _ _ => rfl) (fun j hj => by omega)) (fun r u q => Or.inr ⟨⟨hv, h80, h81⟩, q.1, fun j hj => ?_, ?_, ?_, ?_, ?_, ?_, q.2.2.2.2.2.2.1, ?_⟩)
    · have h1 := hD j (by omega)
      rw [t79] at h1
      rw [q.2.1 47 j (by omega), q.2.1 48 j (by omega), q.2.1 49 j (by omega)]
      exact h1
    · rw [q.2.1 43 7 (by omega), h7, t79]
    · rw [← y79]; exact q.2.2.2.2.2.1
    · rw [← y79]; exact q.2.2.2.1
    · rw [← y79]; exact q.2.2.2.2.1
    · rw [← y79]; exact q.2.2.1
    · rw [← y79]; exact q.2.2.2.2.2.2.2
theorem c_again {w : Wd} {v1 : Int} (h : LI w) (i_v1 : ((-2147483648 : Int) ≤ v1 ∧ v1 ≤ 2147483647)) : OK (f_E_again v1 w) (fun r1 u1 => OK (f_R_again v1 u1) (fun r2 u2 => LI u2 ∧ r1 = r2)) := by
  refine ok_w (ok_pc (e_E_again h.1 i_v1) ag_E) (fun r1 u1 q1 => ?_)
  obtain ⟨⟨g1, s1⟩, x1⟩ := q1
  refine ok_w (ok_pc (e_R_again s1 i_v1) (ag_R (g_self s1.1))) (fun r2 u2 q2 => ?_)
  obtain ⟨⟨g2, s2, _⟩, x2⟩ := q2
  have f := fr_tr (fr_g (P := clP) (A := coA) g1 rfl) (fr_g g2 rfl)
  have r79 : u1 79 = w 79 := funext fun k => g1.2.1 79 k (mS_ar rfl k)
  have r80 : u1 80 = w 80 := funext fun k => g1.2.1 80 k (mS_ar rfl k)
  have r81 : u1 81 = w 81 := funext fun k => g1.2.1 81 k (mS_ar rfl k)
  have e10 : u1 43 10 = w 43 10 := g1.2.1 43 10 rfl
  have e11 : u1 43 11 = w 43 11 := g1.2.1 43 11 rfl
  have e56 : u1 43 56 = w 43 56 := g1.2.1 43 56 rfl
  have t7 : u2 5 7 = u1 5 7 := g2.2.1 5 7 rfl
  have t8 : u2 5 8 = u1 5 8 := g2.2.1 5 8 rfl
  obtain ⟨h1, h2, h3, h4, h5⟩ := h.2
  rw [r80, r81, e56] at x2
  -- kept alike
  have fit : ∀ {c m : Nat}, KM w c m → ((w c 2 ≠ 0 ∧ w c 3 = w 5 3) ↔ (w 80 m ≠ 0 ∧ w 81 m = w 43 56)) := by
    intro c m hk
    constructor
    · rintro ⟨a1, a2⟩
      obtain ⟨_, _, b3⟩ := hk.2 a1
      exact ⟨by rw [← hk.1]; exact a1, by omega⟩
    · rintro ⟨a1, a2⟩
      rw [← hk.1] at a1
      obtain ⟨_, _, b3⟩ := hk.2 a1
      exact ⟨a1, by omega⟩
  rcases x1 with ⟨n0, n1, a1, b1⟩ | ⟨⟨n0, n1⟩, a1, b1⟩ | ⟨⟨n0, n1⟩, a1, b1⟩
  · rcases x2 with ⟨n2, a2, b2⟩ | ⟨⟨m0, m1⟩, a2, b2⟩
    · have y7 : u2 43 10 = u1 43 10 := by rw [b2, st_k (by decide)]
      have y8 : u2 43 11 = u1 43 11 := by rw [b2, st_k (by decide)]
      exact ⟨⟨s2, co_gs h.2 f ⟨by rw [t7, y7, b1]; exact h3.1, by rw [t8, y8, b1]; exact h3.2⟩⟩, by omega⟩
    · exfalso
      by_cases c : v1 = 0
      · subst c
        exact n0 ⟨rfl, (fit h4).mpr m1⟩
      · have c1 : v1 = 1 := by omega
        subst c1
        exact n1 ⟨rfl, (fit h5).mpr m1⟩
  · subst n0
    have m1 := (fit h4).mp n1
    rcases x2 with ⟨n2, a2, b2⟩ | ⟨⟨m0, m2⟩, a2, b2⟩
    · exact absurd ⟨⟨by decide, by decide⟩, m1⟩ n2
    · obtain ⟨_, _, _, d7, d8, _⟩ := b1
      obtain ⟨_, _, _, d10, d11, _⟩ := b2
      obtain ⟨k7, k8, _⟩ := h4.2 n1.1
      rw [r79] at d10 d11
      exact ⟨⟨s2, co_gs h.2 f ⟨by rw [t7, d7, d10]; exact k7, by rw [t8, d8, d11]; exact k8⟩⟩, by omega⟩
  · subst n0
    have m1 := (fit h5).mp n1
    rcases x2 with ⟨n2, a2, b2⟩ | ⟨⟨m0, m2⟩, a2, b2⟩
    · exact absurd ⟨⟨by decide, by decide⟩, m1⟩ n2
    · obtain ⟨_, _, _, d7, d8, _⟩ := b1
      obtain ⟨_, _, _, d10, d11, _⟩ := b2
      obtain ⟨k7, k8, _⟩ := h5.2 n1.1
      rw [r79] at d10 d11
      exact ⟨⟨s2, co_gs h.2 f ⟨by rw [t7, d7, d10]; exact k7, by rw [t8, d8, d11]; exact k8⟩⟩, by omega⟩
/-! MEET, HIDE with what stays -/
theorem c_meet {w : Wd} {v1 v2 v3 : Int} (h : LI w) (i_v1 : ((-2147483648 : Int) ≤ v1 ∧ v1 ≤ 2147483647)) (i_v2 : ((-2147483648 : Int) ≤ v2 ∧ v2 ≤ 2147483647)) (i_v3 : ((0 : Int) ≤ v3 ∧ v3 ≤ 1)) : OK (f_E_meet v1 v2 v3 w) (fun r1 u1 => OK (f_R_meet v1 v2 v3 u1) (fun r2 u2 => LI u2 ∧ r1 = r2)) := by
  refine ok_w (ok_pc (e_E_meet h.1 i_v1 i_v2 i_v3) (me_E v1 v2 v3 w)) (fun r1 u1 q1 => ?_)
  obtain ⟨⟨g1, s1⟩, x1⟩ := q1
  refine ok_w (ok_pc (e_R_meet s1 i_v1 i_v2 i_v3) (me_R v1 v2 v3 u1 (s1.1.1 43 0))) (fun r2 u2 q2 => ?_)
  obtain ⟨⟨g2, s2⟩, x2⟩ := q2
  have e0 : u1 43 0 = w 43 0 := g1.2.1 43 0 rfl
  refine ⟨⟨s2, co_fr h.2 (fr_tr (fr_g g1 rfl) (fr_g g2 rfl))⟩, ?_⟩
  rw [x1, x2, e0, h.2.2.1]
theorem c_hide {w : Wd} {v1 v2 : Int} (h : LI w) (i_v1 : ((-2147483648 : Int) ≤ v1 ∧ v1 ≤ 2147483647)) (i_v2 : ((0 : Int) ≤ v2 ∧ v2 ≤ 1)) : OK (f_E_hide v1 v2 w) (fun r1 u1 => OK (f_R_hide v1 v2 u1) (fun r2 u2 => LI u2 ∧ r1 = r2)) := by
  refine ok_w (ok_pc (e_E_hide h.1 i_v1 i_v2) (hi_E v1 v2 w)) (fun r1 u1 q1 => ?_)
  obtain ⟨⟨g1, s1⟩, x1⟩ := q1
  refine ok_w (ok_pc (e_R_hide s1 i_v1 i_v2) (hi_R v1 v2 u1 (s1.1.1 43 0))) (fun r2 u2 q2 => ?_)
  obtain ⟨⟨g2, s2⟩, x2⟩ := q2
  have e0 : u1 43 0 = w 43 0 := g1.2.1 43 0 rfl
  refine ⟨⟨s2, co_fr h.2 (fr_tr (fr_g g1 rfl) (fr_g g2 rfl))⟩, ?_⟩
  rw [x1, x2, e0, h.2.2.1]
/-! SHEET -/
theorem w32_w (z : Int) (b : Int) : w32 (w32 z + b) = w32 (z + b) := by
  unfold w32
  exact Int.bmod_add_bmod
theorem w32_r (z : Int) (b : Int) : w32 (b + w32 z) = w32 (b + z) := by
  rw [Int.add_comm, w32_w, Int.add_comm]
theorem w32_id {z : Int} (h : -2147483648 ≤ z ∧ z ≤ 2147483647) : w32 z = z := by
  have := w32_sp z
  omega
theorem hasE_e {x k : Int} (w : Wd) (hk : 0 ≤ k ∧ k < 10) : f_E_has x k w = some (if bt x k.toNat then 1 else 0, w) := by
  unfold f_E_has
  rw [if_neg (by omega), if_neg (by omega)]
  have h := has_bt (x := x) (k := k) (by omega)
  have h2 := iand_r (x := ishr x k) (y := 1) (by decide)
  cases hb : bt x k.toNat with
  | true => rw [if_neg (by rw [h.mpr hb]; decide)]; rfl
  | false =>
    have h3 : ¬ iand (ishr x k) 1 = 1 := fun e => by rw [h.mp e] at hb; cases hb
    rw [if_pos (by omega)]; rfl
def shv (k v : Int) : Int := imax 0 (imin 9 (if k = 0 then i2b v else if k = 1 then i2s v else v))
theorem shv_rg (k v : Int) : 0 ≤ shv k v ∧ shv k v ≤ 9 := by
  unfold shv
  generalize (if k = 0 then i2b v else if k = 1 then i2s v else v) = e
  have h1 := imin_sp 9 e
  have h2 := imax_sp 0 (imin 9 e)
  omega
def shp (k n f s : Int) (j : Nat) : Int := if k = 3 then 0 else if (j : Int) < n then shv k (w32 (f + j * s)) else 0
theorem shp_rg (k n f s : Int) (j : Nat) : 0 ≤ shp k n f s j ∧ shp k n f s j ≤ 9 := by
  unfold shp
  by_cases h : k = 3
  · rw [if_pos h]; decide
  · rw [if_neg h]
    by_cases h2 : (j : Int) < n
    · rw [if_pos h2]; exact shv_rg _ _
    · rw [if_neg h2]; decide
def sms (g : Nat → Int) : Nat → Int
  | 0 => 0
  | k + 1 => sms g k + g k
theorem sms_rg {g : Nat → Int} (h : ∀ j, 0 ≤ g j ∧ g j ≤ 9) : ∀ n : Nat, 0 ≤ sms g n ∧ sms g n ≤ 9 * n := by
  intro n
  induction n with
  | zero => exact ⟨Int.le_refl 0, Int.le_refl 0⟩
  | succ n ih => have := h n; rw [sms]; omega
theorem sms_eq {g h : Nat → Int} : ∀ {n : Nat}, (∀ j, j < n → g j = h j) → sms g n = sms h n := by
  intro n
  induction n with
  | zero => intro _; rfl
  | succ n ih => intro e; rw [sms, sms, ih (fun j hj => e j (by omega)), e n (by omega)]
/-- what some cost -/
theorem po_pc {x P : Int} {w : Wd} (hP : 0 ≤ P ∧ P ≤ 10) (h3 : w 5 3 = P) (h6 : ∀ j : Nat, (0 : Int) ≤ w 6 j ∧ w 6 j ≤ 9) : ∀ (n : Nat) {v2 v3 : Int}, 0 ≤ v3 → v3 ≤ P → v2 = sms (fun j => if bt x j then w 6 j else 0) v3.toNat → PC (f_F_pricesOf_4 n x v2 v3 w) (fun r u => u = w ∧ r = sms (fun j => if bt x j then w 6 j else 0) P.toNat) := by
  have hg : ∀ j : Nat, 0 ≤ (if bt x j then w 6 j else 0) ∧ (if bt x j then w 6 j else 0) ≤ 9 := fun j => by
    by_cases c : bt x j = true
    · rw [if_pos c]; exact h6 j
    · rw [if_neg c]; decide
  intro n
  induction n with
  | zero => intros; exact pc_none
  | succ n ih =>
    intro v2 v3 i3 i4 h2
    rw [f_F_pricesOf_4, h3]
    have hr := sms_rg hg v3.toNat
    have hj := hg v3.toNat
    have w1 := w32_sp (v3 + 1)
    refine pc_ite (fun c => ?_) (fun c => ?_)
    · have : v3 = P := by omega
      exact pc_some ⟨rfl, by rw [h2, this]⟩
    · rw [hasE_e w (by omega), jc_s]
      have nx : ∀ s : Int, s = (if bt x v3.toNat then w 6 v3.toNat else 0) → PC (f_F_pricesOf_31 (f_F_pricesOf_4 n) x v3 v2 s w) (fun r u => u = w ∧ r = sms (fun j => if bt x j then w 6 j else 0) P.toNat) := by
        intro s hs
        unfold f_F_pricesOf_31
        refine pc_let (fun x3 e3 => ?_)
        refine pc_let (fun x4 e4 => ?_)
        rw [w32_id (by omega)] at e3
        rw [w32_id (by omega)] at e4
        refine ih (by omega) (by omega) ?_
        rw [e4, show (v3 + 1).toNat = v3.toNat + 1 by omega, sms, e3, h2, hs]
      cases hb : bt x v3.toNat with
      | true =>
        refine pc_ite (fun e => absurd e (by decide)) (fun _ => ?_)
        exact pc_gd (fun _ => nx _ (by rw [hb]; rfl))
      | false =>
        refine pc_ite (fun _ => nx 0 (by rw [hb]; rfl)) (fun e => absurd rfl e)
theorem prs_pc {x : Int} {w : Wd} (hP : 0 ≤ w 5 3 ∧ w 5 3 ≤ 10) (h6 : ∀ j : Nat, (0 : Int) ≤ w 6 j ∧ w 6 j ≤ 9) : PC (f_F_pricesOf x w) (fun r u => u = w ∧ r = sms (fun j => if bt x j then w 6 j else 0) (w 5 3).toNat) := by
  unfold f_F_pricesOf
  exact po_pc hP rfl h6 FU (by decide) hP.1 rfl
theorem se_46 {k m f s P : Int} (hk : k = 0 ∨ k = 1 ∨ k = 2) (hm : 0 ≤ m ∧ m ≤ 10) (hf : -2147483648 ≤ f ∧ f ≤ 2147483647) (hP : 0 ≤ P ∧ P ≤ 10) : ∀ (n : Nat) {w : Wd} {v5 : Int}, 0 ≤ v5 → v5 ≤ P → w 5 3 = P → (∀ j : Nat, (0 : Int) ≤ w 6 j ∧ w 6 j ≤ 9) → (∀ j : Nat, (j : Int) < v5 → w 6 j = shp k m f s j) → PC (f_E_sheet_46 n k m f s v5 w) (fun r u => r = sms (shp k m f s) P.toNat ∧ ∀ j : Nat, (j : Int) < P → u 6 j = shp k m f s j) := by
  intro n
  induction n with
  | zero => intros; exact pc_none
  | succ n ih =>
    intro w v5 i5 i6 h3 h6 hD
    rw [f_E_sheet_46, h3]
    have w1 := w32_sp (v5 + 1)
    refine pc_ite (fun c => ?_) (fun c => ?_)
    · unfold f_F_everybody
      rw [jc_s, h3]
      refine pc_call (prs_pc (by omega) h6) (fun r3 u4 q => pc_some ⟨?_, fun j hj => ?_⟩)
      · rw [q.2, h3]
        refine sms_eq (fun j hj => ?_)
        rw [(all_e hP).1, bt_all (by omega) (by omega), decide_eq_true hj]
        exact hD j (by omega)
      · rw [q.1]; exact hD j (by omega)
    · have nx : ∀ e : Int, e = shp k m f s v5.toNat → PC (f_E_sheet_88 (f_E_sheet_46 n) k m f s v5 v5 e w) (fun r u => r = sms (shp k m f s) P.toNat ∧ ∀ j : Nat, (j : Int) < P → u 6 j = shp k m f s j) := by
        intro e he
        unfold f_E_sheet_88
        refine pc_gd (fun _ => ?_)
        refine pc_lw (fun u5 e5 => ?_)
        refine pc_let (fun x6 e6 => ?_)
        refine ih (by omega) (by omega) (by rw [e5, st_c (by decide)]; exact h3) (fun j => ?_) (fun j hj => ?_)
        · rw [e5]
          by_cases hj : j = v5.toNat
          · rw [hj, st_eq, he]; exact shp_rg _ _ _ _ _
          · rw [st_k hj]; exact h6 j
        · rw [e5]
          by_cases hjv : j = v5.toNat
          · rw [hjv, st_eq]; exact he
          · rw [st_k hjv]; exact hD j (by omega)
      refine pc_ite (fun c1 => nx 0 ?_) (fun c1 => ?_)
      · unfold shp
        rw [if_neg (by omega), if_neg (by omega)]
      · have ee : PC (f_E_entry k (w32 (f + w32 (v5 * s))) w) (fun r u => u = w ∧ r = shp k m f s v5.toNat) := by
          have hv : shp k m f s v5.toNat = shv k (w32 (f + w32 (v5 * s))) := by
            unfold shp
            rw [if_neg (by omega), if_pos (by omega), w32_r, Int.toNat_of_nonneg i5]
          unfold f_E_entry f_E_entry_20
          rw [hv]
          unfold shv
          refine pc_ite (fun c2 => pc_some ⟨rfl, by rw [if_pos c2]⟩) (fun c2 => ?_)
          exact pc_ite (fun c3 => pc_some ⟨rfl, by rw [if_neg c2, if_pos c3]⟩) (fun c3 => pc_some ⟨rfl, by rw [if_neg c2, if_neg c3]⟩)
        refine pc_call ee (fun r7 u8 q => ?_)
        rw [q.1]
        exact nx r7 q.2
def SHc (k n : Int) : Prop := (0 ≤ k ∧ k ≤ 3) ∧ n ≤ 10
theorem fl6 {v : Int} : ∀ (n : Nat) {w : Wd} {v2 : Int}, 0 ≤ v2 → v2 ≤ 10 → (∀ j : Nat, (j : Int) < v2 → w 6 j = v) → PC (f_JA_fill_6_5 n v v2 10 w) (fun _ u => ∀ j : Nat, (j : Int) < 10 → u 6 j = v) := by
  intro n
  induction n with
  | zero => intros; exact pc_none
  | succ n ih =>
    intro w v2 i1 i2 h
    rw [f_JA_fill_6_5]
    have w1 := w32_sp (v2 + 1)
    refine pc_ite (fun c => pc_some (fun j hj => h j (by omega))) (fun c => ?_)
    refine pc_gd (fun _ => ?_)
    refine pc_lw (fun u1 e1 => ?_)
    refine pc_let (fun x2 e2 => ?_)
    refine ih (by omega) (by omega) (fun j hj => ?_)
    rw [e1]
    by_cases c2 : j = v2.toNat
    · rw [c2, st_eq]
    · rw [st_k c2]; exact h j (by omega)
theorem sh_E {w : Wd} {k m f s : Int} (hf : -2147483648 ≤ f ∧ f ≤ 2147483647) (hP : 0 ≤ w 5 3 ∧ w 5 3 ≤ 10) (h6 : ∀ j : Nat, (0 : Int) ≤ w 6 j ∧ w 6 j ≤ 9) : PC (f_E_sheet k m f s w) (fun r u => (¬ SHc k m ∧ r = -1 ∧ u = w) ∨ ((SHc k m ∧ k ≠ 3 ∧ m < 0) ∧ r = -2 ∧ u = w) ∨ ((SHc k m ∧ (k = 3 ∨ 0 ≤ m)) ∧ r = (if k = 3 then -3 else sms (shp k m f s) (w 5 3).toNat) ∧ ∀ j : Nat, (j : Int) < w 5 3 → u 6 j = shp k m f s j)) := by
  unfold f_E_sheet SHc
  refine pc_ite (fun c => pc_some (Or.inl ⟨by omega, rfl, rfl⟩)) (fun c1 => ?_)
  refine pc_ite (fun c => pc_some (Or.inl ⟨by omega, rfl, rfl⟩)) (fun c2 => ?_)
  refine pc_ite (fun c3 => ?_) (fun c => pc_some (Or.inl ⟨by omega, rfl, rfl⟩))
  refine pc_ite (fun c4 => ?_) (fun c4 => ?_)
  · unfold f_JA_fill_6
    refine pc_call (fl6 FU (by decide) (by decide) (fun j hj => by omega)) (fun r9 u10 q => pc_some (Or.inr (Or.inr ⟨⟨by omega, Or.inl c4⟩, ?_, fun j hj => ?_⟩)))
    · rw [if_pos c4]
    · rw [q j (by omega)]
      unfold shp
      rw [if_pos c4]
  · refine pc_ite (fun c5 => ?_) (fun c5 => pc_some (Or.inr (Or.inl ⟨⟨by omega, c4, by omega⟩, rfl, rfl⟩)))
    refine pc_w (se_46 (P := w 5 3) (by omega) (by omega) hf hP FU (by decide) hP.1 rfl h6 (fun j hj => by omega)) (fun r u q => Or.inr (Or.inr ⟨⟨by omega, Or.inr c5⟩, ?_, q.2⟩))
    rw [if_neg c4]; exact q.1
theorem sr_43 {k m f s P : Int} (hk : 0 ≤ k ∧ k ≤ 3) (hf : -2147483648 ≤ f ∧ f ≤ 2147483647) (hP : 0 ≤ P ∧ P ≤ 10) : ∀ (n : Nat) {w : Wd} {v5 v6 v7 : Int}, 0 ≤ v7 → v7 ≤ P → w 43 0 = P → v6 = w32 (f + v7 * s) → v5 = sms (shp k m f s) v7.toNat → (∀ j : Nat, (j : Int) < v7 → w 44 j = shp k m f s j) → PC (f_R_sheet_43 n k m s v5 v6 v7 w) (fun r u => r = (if k = 3 then -3 else sms (shp k m f s) P.toNat) ∧ ∀ j : Nat, (j : Int) < P → u 44 j = shp k m f s j) := by
  intro n
  induction n with
  | zero => intros; exact pc_none
  | succ n ih =>
    intro w v5 v6 v7 i7 i8 h0 h6 h5 hD
    rw [f_R_sheet_43, h0]
    have hr := sms_rg (shp_rg k m f s) v7.toNat
    have hj := shp_rg k m f s v7.toNat
    have w1 := w32_sp (v7 + 1)
    refine pc_ite (fun c => ?_) (fun c => ?_)
    · have e : v7 = P := by omega
      subst e
      refine pc_ite (fun c2 => pc_some ⟨by rw [if_pos c2], hD⟩) (fun c2 => pc_some ⟨by rw [if_neg c2]; exact h5, hD⟩)
    · have nx : ∀ e : Int, e = shp k m f s v7.toNat → PC (f_R_sheet_109 (f_R_sheet_43 n) k m s v5 v6 v7 v7 e w) (fun r u => r = (if k = 3 then -3 else sms (shp k m f s) P.toNat) ∧ ∀ j : Nat, (j : Int) < P → u 44 j = shp k m f s j) := by
        intro e he
        unfold f_R_sheet_109
        refine pc_gd (fun _ => ?_)
        refine pc_lw (fun u4 e4 => ?_)
        refine pc_gd (fun _ => ?_)
        refine pc_let (fun x5 e5 => ?_)
        refine pc_let (fun x6 e6 => ?_)
        refine pc_let (fun x7 e7 => ?_)
        have t : u4 44 v7.toNat = e := by rw [e4, st_eq]
        rw [t, he, w32_id (by omega)] at e5
        rw [w32_id (by omega)] at e7
        refine ih (by omega) (by omega) (by rw [e4, st_c (by decide)]; exact h0) ?_ ?_ (fun j hj => ?_)
        · rw [e6, h6, w32_w, e7]
          congr 1
          rw [Int.add_mul]
          omega
        · rw [e7, show (v7 + 1).toNat = v7.toNat + 1 by omega, sms, e5, h5]
        · rw [e4]
          by_cases hjv : j = v7.toNat
          · rw [hjv, st_eq]; exact he
          · rw [st_k hjv]; exact hD j (by omega)
      have n5 : ∀ e : Int, (k ≠ 3 → e = (if k = 0 then i2b v6 else if k = 1 then i2s v6 else v6)) → PC (f_R_sheet_75 (f_R_sheet_43 n) k m s v5 v6 v7 e w) (fun r u => r = (if k = 3 then -3 else sms (shp k m f s) P.toNat) ∧ ∀ j : Nat, (j : Int) < P → u 44 j = shp k m f s j) := by
        intro e he
        unfold f_R_sheet_75
        refine pc_ite (fun c3 => ?_) (fun c3 => ?_)
        · unfold f_R_sheet_94
          refine nx 0 ?_
          unfold shp
          rw [if_pos c3]
        · refine pc_ite (fun c4 => ?_) (fun c4 => ?_)
          · refine nx _ ?_
            unfold shp shv
            rw [if_neg c3, if_pos (by omega), Int.toNat_of_nonneg i7, ← h6, he c3]
          · unfold f_R_sheet_94
            refine nx 0 ?_
            unfold shp
            rw [if_neg c3, if_neg (by omega)]
      refine pc_ite (fun c1 => n5 _ (fun _ => by rw [if_pos c1])) (fun c1 => ?_)
      exact pc_ite (fun c2 => n5 _ (fun _ => by rw [if_neg c1, if_pos c2])) (fun c2 => n5 _ (fun _ => by rw [if_neg c1, if_neg c2]))
theorem sh_R {w : Wd} {k m f s : Int} (hf : -2147483648 ≤ f ∧ f ≤ 2147483647) (hP : 0 ≤ w 43 0 ∧ w 43 0 ≤ 10) : PC (f_R_sheet k m f s w) (fun r u => (¬ SHc k m ∧ r = -1 ∧ u = st w 43 16 0) ∨ ((SHc k m ∧ k ≠ 3 ∧ m < 0) ∧ r = -2 ∧ u = st w 43 16 0) ∨ ((SHc k m ∧ (k = 3 ∨ 0 ≤ m)) ∧ r = (if k = 3 then -3 else sms (shp k m f s) (w 43 0).toNat) ∧ ∀ j : Nat, (j : Int) < w 43 0 → u 44 j = shp k m f s j)) := by
  unfold f_R_sheet SHc
  refine pc_lw (fun u1 e1 => ?_)
  have t0 : u1 43 0 = w 43 0 := by rw [e1, st_k (by decide)]
  rw [in_e, jc_s]
  have go : 0 ≤ k ∧ k ≤ 3 → PC (f_R_sheet_34 k m f s u1) (fun r u => r = (if k = 3 then -3 else sms (shp k m f s) (w 43 0).toNat) ∧ ∀ j : Nat, (j : Int) < w 43 0 → u 44 j = shp k m f s j) := by
    intro hk
    unfold f_R_sheet_34
    refine sr_43 hk hf hP FU (by decide) hP.1 t0 ?_ rfl (fun j hj => by omega)
    rw [show f + 0 * s = f by omega, w32_id hf]
  refine pc_ite (fun hr => ?_) (fun hr => ?_)
  · refine pc_some (Or.inl ⟨fun h2 => ?_, rfl, e1⟩)
    rw [if_pos h2.1] at hr; exact absurd hr (by decide)
  · have hk : 0 ≤ k ∧ k ≤ 3 := by
      by_cases h2 : 0 ≤ k ∧ k ≤ 3
      · exact h2
      · rw [if_neg h2] at hr; exact absurd rfl hr
    refine pc_ite (fun c3 => ?_) (fun c => pc_some (Or.inl ⟨by omega, rfl, e1⟩))
    refine pc_ite (fun c4 => ?_) (fun c4 => ?_)
    · exact pc_w (go hk) (fun r u q => Or.inr (Or.inr ⟨⟨by omega, by omega⟩, q⟩))
    · refine pc_ite (fun c5 => ?_) (fun c5 => pc_some (Or.inr (Or.inl ⟨⟨by omega, by omega, by omega⟩, rfl, e1⟩)))
      exact pc_w (go hk) (fun r u q => Or.inr (Or.inr ⟨⟨by omega, by omega⟩, q⟩))
theorem c_sheet {w : Wd} {v1 v2 v3 v4 : Int} (h : LI w) (i_v1 : ((-2147483648 : Int) ≤ v1 ∧ v1 ≤ 2147483647)) (i_v2 : ((-2147483648 : Int) ≤ v2 ∧ v2 ≤ 2147483647)) (i_v3 : ((-2147483648 : Int) ≤ v3 ∧ v3 ≤ 2147483647)) (i_v4 : ((-2147483648 : Int) ≤ v4 ∧ v4 ≤ 2147483647)) : OK (f_E_sheet v1 v2 v3 v4 w) (fun r1 u1 => OK (f_R_sheet v1 v2 v3 v4 u1) (fun r2 u2 => LI u2 ∧ r1 = r2)) := by
  refine ok_w (ok_pc (e_E_sheet h.1 i_v1 i_v2 i_v3 i_v4) (sh_E i_v3 (h.1.1.1 5 3) (fun j => h.1.1.1 6 j))) (fun r1 u1 q1 => ?_)
  obtain ⟨⟨g1, s1⟩, x1⟩ := q1
  refine ok_w (ok_pc (e_R_sheet s1 i_v1 i_v2 i_v3 i_v4) (sh_R i_v3 (s1.1.1 43 0))) (fun r2 u2 q2 => ?_)
  obtain ⟨⟨g2, s2⟩, x2⟩ := q2
  have e0 : u1 43 0 = w 43 0 := g1.2.1 43 0 rfl
  refine ⟨⟨s2, co_fr h.2 (fr_tr (fr_g g1 rfl) (fr_g g2 rfl))⟩, ?_⟩
  rw [e0, ← h.2.2.1] at x2
  rcases x1 with ⟨n1, a1, _⟩ | ⟨n1, a1, _⟩ | ⟨n1, a1, _⟩ <;> rcases x2 with ⟨n2, a2, _⟩ | ⟨n2, a2, _⟩ | ⟨n2, a2, _⟩
  · rw [a1, a2]
  · exact absurd n2.1 n1
  · exact absurd n2.1 n1
  · exact absurd n1.1 n2
  · rw [a1, a2]
  · exfalso; omega
  · exact absurd n1.1 n2
  · exfalso; omega
  · rw [a1, a2]
/-! EVERY METHOD KEEPS THE COUPLING -/
theorem w0_TX : TX w0 := tx_0 (by decide +kernel) (by decide +kernel)
theorem w0_KM : ∀ c m : Nat, (c = 37 ∧ m = 0) ∨ (c = 40 ∧ m = 1) → KM w0 c m := by
  intro c m h
  have h1 : w0 37 2 = 0 ∧ w0 80 0 = 0 ∧ w0 40 2 = 0 ∧ w0 80 1 = 0 := by decide +kernel
  rcases h with ⟨rfl, rfl⟩ | ⟨rfl, rfl⟩
  · exact ⟨h1.1.trans h1.2.1.symm, fun n => absurd h1.1 n⟩
  · exact ⟨h1.2.2.1.trans h1.2.2.2.symm, fun n => absurd h1.2.2.1 n⟩
theorem w0_LI : LI w0 := ⟨w0_RS, w0_TX, by decide +kernel, ⟨by decide +kernel, by decide +kernel⟩, w0_KM 37 0 (Or.inl ⟨rfl, rfl⟩), w0_KM 40 1 (Or.inr ⟨rfl, rfl⟩)⟩
theorem fr_82 {P : List (Nat × Nat)} {A : List Nat} {w u : Wd} (h : ∀ c, c ≠ 82 → u c = w c) (hP : P.all (fun p => p.1 != 82) = true := by decide) (hA : A.all (fun c => c != 82) = true := by decide) : FR P A w u :=
  ⟨fun p hp => congrFun (h p.1 (by have := List.all_eq_true.mp hP p hp; simpa using this)) p.2, fun c hc => h c (by have := List.all_eq_true.mp hA c hc; simpa using this)⟩
theorem c_of {w : Wd} {v1 v2 : Int} (h : LI w) (i_v1 : ((-2147483648 : Int) ≤ v1 ∧ v1 ≤ 2147483647)) (i_v2 : ((-2147483648 : Int) ≤ v2 ∧ v2 ≤ 2147483647)) : OK (f_A_of v1 v2 w) (fun _ u1 => OK (f_R_of v1 v2 u1) (fun _ u2 => LI u2 ∧ True)) := ok_w (e_A_of h.1 i_v1 i_v2) (fun _ u1 q1 => ok_w (e_R_of q1.1 i_v1 i_v2) (fun _ u2 q2 => ⟨⟨q2.2, co_fr (co_fr h.2 (fr_82 q1.2)) (fr_g q2.1 rfl)⟩, trivial⟩))
theorem c_can {w : Wd} (h : LI w) : OK (f_E_can w) (fun _ u1 => OK (f_R_can u1) (fun _ u2 => LI u2 ∧ True)) := ok_w (e_E_can h.1) (fun _ u1 q1 => ok_w (e_R_can q1.2) (fun _ u2 q2 => ⟨⟨q2.2, co_fr (co_fr h.2 (fr_g q1.1 rfl)) (fr_g q2.1 rfl)⟩, trivial⟩))
theorem c_pairs {w : Wd} (h : LI w) : OK (f_E_pairs w) (fun _ u1 => OK (f_R_pairs u1) (fun _ u2 => LI u2 ∧ True)) := ok_w (e_E_pairs h.1) (fun _ u1 q1 => ok_w (e_R_pairs q1.2) (fun _ u2 q2 => ⟨⟨q2.2, co_fr (co_fr h.2 (fr_g q1.1 rfl)) (fr_g q2.1 rfl)⟩, trivial⟩))
theorem c_bars {w : Wd} (h : LI w) : OK (f_E_bars w) (fun _ u1 => OK (f_R_bars u1) (fun _ u2 => LI u2 ∧ True)) := ok_w (e_E_bars h.1) (fun _ u1 q1 => ok_w (e_R_bars q1.2) (fun _ u2 q2 => ⟨⟨q2.2, co_fr (co_fr h.2 (fr_g q1.1 rfl)) (fr_g q2.1 rfl)⟩, trivial⟩))
theorem c_states {w : Wd} (h : LI w) : OK (f_E_states w) (fun _ u1 => OK (f_R_states u1) (fun _ u2 => LI u2 ∧ True)) := ok_w (e_E_states h.1) (fun _ u1 q1 => ok_w (e_R_states q1.2) (fun _ u2 q2 => ⟨⟨q2.2, co_fr (co_fr h.2 (fr_g q1.1 rfl)) (fr_g q2.1 rfl)⟩, trivial⟩))
theorem c_most {w : Wd} {v1 : Int} (h : LI w) (i_v1 : ((-2147483648 : Int) ≤ v1 ∧ v1 ≤ 2147483647)) : OK (f_E_most v1 w) (fun _ u1 => OK (f_R_most v1 u1) (fun _ u2 => LI u2 ∧ True)) := ok_w (e_E_most h.1 i_v1) (fun _ u1 q1 => ok_w (e_R_most q1.2 i_v1) (fun _ u2 q2 => ⟨⟨q2.2, co_fr (co_fr h.2 (fr_g q1.1 rfl)) (fr_g q2.1 rfl)⟩, trivial⟩))
theorem c_reach {w : Wd} {v1 : Int} (h : LI w) (i_v1 : ((-2147483648 : Int) ≤ v1 ∧ v1 ≤ 2147483647)) : OK (f_E_reach v1 w) (fun _ u1 => OK (f_R_reach v1 u1) (fun _ u2 => LI u2 ∧ True)) := ok_w (e_E_reach h.1 i_v1) (fun _ u1 q1 => ok_w (e_R_reach q1.2 i_v1) (fun _ u2 q2 => ⟨⟨q2.2, co_fr (co_fr h.2 (fr_g q1.1 rfl)) (fr_g q2.1 rfl)⟩, trivial⟩))
theorem c_fewest {w : Wd} {v1 : Int} (h : LI w) (i_v1 : ((-2147483648 : Int) ≤ v1 ∧ v1 ≤ 2147483647)) : OK (f_E_fewest v1 w) (fun _ u1 => OK (f_R_fewest v1 u1) (fun _ u2 => LI u2 ∧ True)) := ok_w (e_E_fewest h.1 i_v1) (fun _ u1 q1 => ok_w (e_R_fewest q1.2 i_v1) (fun _ u2 q2 => ⟨⟨q2.2, co_fr (co_fr h.2 (fr_g q1.1 rfl)) (fr_g q2.1 rfl)⟩, trivial⟩))
theorem c_crowd {w : Wd} (h : LI w) : OK (f_E_crowd w) (fun _ u1 => OK (f_R_crowd u1) (fun _ u2 => LI u2 ∧ True)) := ok_w (e_E_crowd h.1) (fun _ u1 q1 => ok_w (e_R_crowd q1.2) (fun _ u2 q2 => ⟨⟨q2.2, co_fr (co_fr h.2 (fr_g q1.1 rfl)) (fr_g q2.1 rfl)⟩, trivial⟩))
theorem c_both {w : Wd} {v1 v2 v3 : Int} (h : LI w) (i_v1 : ((-2147483648 : Int) ≤ v1 ∧ v1 ≤ 2147483647)) (i_v2 : ((-2147483648 : Int) ≤ v2 ∧ v2 ≤ 2147483647)) (i_v3 : ((-2147483648 : Int) ≤ v3 ∧ v3 ≤ 2147483647)) : OK (f_E_both v1 v2 v3 w) (fun _ u1 => OK (f_R_both v1 v2 v3 u1) (fun _ u2 => LI u2 ∧ True)) := ok_w (e_E_both h.1 i_v1 i_v2 i_v3) (fun _ u1 q1 => ok_w (e_R_both q1.2 i_v1 i_v2 i_v3) (fun _ u2 q2 => ⟨⟨q2.2, co_fr (co_fr h.2 (fr_g q1.1 rfl)) (fr_g q2.1 rfl)⟩, trivial⟩))
theorem c_last {w : Wd} (h : LI w) : OK (f_E_last w) (fun _ u1 => OK (f_R_last u1) (fun _ u2 => LI u2 ∧ True)) := ok_w (e_E_last h.1) (fun _ u1 q1 => ok_w (e_R_last q1.2) (fun _ u2 q2 => ⟨⟨q2.2, co_fr (co_fr h.2 (fr_g q1.1 rfl)) (fr_g q2.1 rfl)⟩, trivial⟩))
theorem c_begin {w : Wd} (h : LI w) : OK (f_E_begin w) (fun _ u1 => OK (f_R_begin2 u1) (fun _ u2 => LI u2 ∧ True)) := ok_w (e_E_begin h.1) (fun _ u1 q1 => ok_w (e_R_begin2 q1.2) (fun _ u2 q2 => ⟨⟨q2.2, co_fr (co_fr h.2 (fr_g q1.1 rfl)) (fr_g q2.1 rfl)⟩, trivial⟩))
theorem c_cheap {w : Wd} {v1 : Int} (h : LI w) (i_v1 : ((-2147483648 : Int) ≤ v1 ∧ v1 ≤ 2147483647)) : OK (f_E_cheap v1 w) (fun _ u1 => OK (f_R_cheap v1 u1) (fun _ u2 => LI u2 ∧ True)) := ok_w (e_E_cheap h.1 i_v1) (fun _ u1 q1 => ok_w (e_R_cheap q1.2 i_v1) (fun _ u2 q2 => ⟨⟨q2.2, co_fr (co_fr h.2 (fr_g q1.1 rfl)) (fr_g q2.1 rfl)⟩, trivial⟩))
theorem c_stays {w : Wd} {v1 : Int} (h : LI w) (i_v1 : ((-2147483648 : Int) ≤ v1 ∧ v1 ≤ 2147483647)) : OK (f_E_stays v1 w) (fun _ u1 => OK (f_R_stays v1 u1) (fun _ u2 => LI u2 ∧ True)) := ok_w (e_E_stays h.1 i_v1) (fun _ u1 q1 => ok_w (e_R_stays q1.2 i_v1) (fun _ u2 q2 => ⟨⟨q2.2, co_fr (co_fr h.2 (fr_g q1.1 rfl)) (fr_g q2.1 rfl)⟩, trivial⟩))
theorem c_soonest {w : Wd} {v1 : Int} (h : LI w) (i_v1 : ((-2147483648 : Int) ≤ v1 ∧ v1 ≤ 2147483647)) : OK (f_E_soonest v1 w) (fun _ u1 => OK (f_R_soonest v1 u1) (fun _ u2 => LI u2 ∧ True)) := ok_w (e_E_soonest h.1 i_v1) (fun _ u1 q1 => ok_w (e_R_soonest q1.2 i_v1) (fun _ u2 q2 => ⟨⟨q2.2, co_fr (co_fr h.2 (fr_g q1.1 rfl)) (fr_g q2.1 rfl)⟩, trivial⟩))
theorem c_worth {w : Wd} {v1 : Int} (h : LI w) (i_v1 : ((-2147483648 : Int) ≤ v1 ∧ v1 ≤ 2147483647)) : OK (f_E_worth v1 w) (fun _ u1 => OK (f_R_worth v1 u1) (fun _ u2 => LI u2 ∧ True)) := ok_w (e_E_worth h.1 i_v1) (fun _ u1 q1 => ok_w (e_R_worth q1.2 i_v1) (fun _ u2 q2 => ⟨⟨q2.2, co_fr (co_fr h.2 (fr_g q1.1 rfl)) (fr_g q2.1 rfl)⟩, trivial⟩))
theorem c_needed {w : Wd} (h : LI w) : OK (f_E_needed w) (fun _ u1 => OK (f_R_needed u1) (fun _ u2 => LI u2 ∧ True)) := ok_w (e_E_needed h.1) (fun _ u1 q1 => ok_w (e_R_needed q1.2) (fun _ u2 q2 => ⟨⟨q2.2, co_fr (co_fr h.2 (fr_g q1.1 rfl)) (fr_g q2.1 rfl)⟩, trivial⟩))
theorem c_never {w : Wd} (h : LI w) : OK (f_E_never w) (fun _ u1 => OK (f_R_never u1) (fun _ u2 => LI u2 ∧ True)) := ok_w (e_E_never h.1) (fun _ u1 q1 => ok_w (e_R_never q1.2) (fun _ u2 q2 => ⟨⟨q2.2, co_fr (co_fr h.2 (fr_g q1.1 rfl)) (fr_g q2.1 rfl)⟩, trivial⟩))
theorem c_bound {w : Wd} (h : LI w) : OK (f_E_bound w) (fun _ u1 => OK (f_R_bound u1) (fun _ u2 => LI u2 ∧ True)) := ok_w (e_E_bound h.1) (fun _ u1 q1 => ok_w (e_R_bound q1.2) (fun _ u2 q2 => ⟨⟨q2.2, co_fr (co_fr h.2 (fr_g q1.1 rfl)) (fr_g q2.1 rfl)⟩, trivial⟩))
theorem c_far {w : Wd} {v1 : Int} (h : LI w) (i_v1 : ((-2147483648 : Int) ≤ v1 ∧ v1 ≤ 2147483647)) : OK (f_E_far v1 w) (fun _ u1 => OK (f_R_far v1 u1) (fun _ u2 => LI u2 ∧ True)) := ok_w (e_E_far h.1 i_v1) (fun _ u1 q1 => ok_w (e_R_far q1.2 i_v1) (fun _ u2 q2 => ⟨⟨q2.2, co_fr (co_fr h.2 (fr_g q1.1 rfl)) (fr_g q2.1 rfl)⟩, trivial⟩))
theorem c_line {w : Wd} {v1 : Int} (h : LI w) (i_v1 : ((-2147483648 : Int) ≤ v1 ∧ v1 ≤ 2147483647)) : OK (f_E_line v1 w) (fun _ u1 => OK (f_R_line v1 u1) (fun _ u2 => LI u2 ∧ True)) := ok_w (e_E_line h.1 i_v1) (fun _ u1 q1 => ok_w (e_R_line q1.2 i_v1) (fun _ u2 q2 => ⟨⟨q2.2, co_fr (co_fr h.2 (fr_g q1.1 rfl)) (fr_g q2.1 rfl)⟩, trivial⟩))
theorem c_led {w : Wd} {v1 : Int} (h : LI w) (i_v1 : ((-2147483648 : Int) ≤ v1 ∧ v1 ≤ 2147483647)) : OK (f_E_led v1 w) (fun _ u1 => OK (f_R_led v1 u1) (fun _ u2 => LI u2 ∧ True)) := ok_w (e_E_led h.1 i_v1) (fun _ u1 q1 => ok_w (e_R_led q1.2 i_v1) (fun _ u2 q2 => ⟨⟨q2.2, co_fr (co_fr h.2 (fr_g q1.1 rfl)) (fr_g q2.1 rfl)⟩, trivial⟩))
theorem c_was {w : Wd} {v1 : Int} (h : LI w) (i_v1 : ((-2147483648 : Int) ≤ v1 ∧ v1 ≤ 2147483647)) : OK (f_E_was v1 w) (fun _ u1 => OK (f_R_was v1 u1) (fun _ u2 => LI u2 ∧ True)) := ok_w (e_E_was h.1 i_v1) (fun _ u1 q1 => ok_w (e_R_was q1.2 i_v1) (fun _ u2 q2 => ⟨⟨q2.2, co_fr (co_fr h.2 (fr_g q1.1 rfl)) (fr_g q2.1 rfl)⟩, trivial⟩))
theorem c_common {w : Wd} {v1 v2 : Int} (h : LI w) (i_v1 : ((-2147483648 : Int) ≤ v1 ∧ v1 ≤ 2147483647)) (i_v2 : ((-2147483648 : Int) ≤ v2 ∧ v2 ≤ 2147483647)) : OK (f_E_common v1 v2 w) (fun _ u1 => OK (f_R_common v1 v2 u1) (fun _ u2 => LI u2 ∧ True)) := ok_w (e_E_common h.1 i_v1 i_v2) (fun _ u1 q1 => ok_w (e_R_common q1.2 i_v1 i_v2) (fun _ u2 q2 => ⟨⟨q2.2, co_fr (co_fr h.2 (fr_g q1.1 rfl)) (fr_g q2.1 rfl)⟩, trivial⟩))
theorem c_father {w : Wd} (h : LI w) : OK (f_E_father w) (fun _ u1 => OK (f_R_father u1) (fun _ u2 => LI u2 ∧ True)) := ok_w (e_E_father h.1) (fun _ u1 q1 => ok_w (e_R_father q1.2) (fun _ u2 q2 => ⟨⟨q2.2, co_fr (co_fr h.2 (fr_g q1.1 rfl)) (fr_g q2.1 rfl)⟩, trivial⟩))
theorem c_count {w : Wd} {v1 : Int} (h : LI w) (i_v1 : ((-2147483648 : Int) ≤ v1 ∧ v1 ≤ 2147483647)) : OK (f_E_count v1 w) (fun _ u1 => OK (f_R_count v1 u1) (fun _ u2 => LI u2 ∧ True)) := ok_w (e_E_count h.1 i_v1) (fun _ u1 q1 => ok_w (e_R_count q1.2 i_v1) (fun _ u2 q2 => ⟨⟨q2.2, co_fr (co_fr h.2 (fr_g q1.1 rfl)) (fr_g q2.1 rfl)⟩, trivial⟩))
theorem c_row {w : Wd} {v1 : Int} (h : LI w) (i_v1 : ((-2147483648 : Int) ≤ v1 ∧ v1 ≤ 2147483647)) : OK (f_A_row v1 w) (fun _ u1 => OK (f_R_row v1 u1) (fun _ u2 => LI u2 ∧ True)) := ok_w (e_A_row h.1 i_v1) (fun _ u1 q1 => ok_w (e_R_row q1.1 i_v1) (fun _ u2 q2 => ⟨⟨q2.2, co_fr (co_fr h.2 (fr_82 q1.2)) (fr_g q2.1 rfl)⟩, trivial⟩))
/-! SETS OF PEOPLE: ten bits -/
def B10 (x : Int) (f : Nat → Bool) : Prop := (0 ≤ x ∧ x ≤ 1023) ∧ ∀ k, k < 10 → bt x k = f k
theorem bt_hi {x : Int} (h : 0 ≤ x ∧ x ≤ 1023) {k : Nat} (hk : 10 ≤ k) : bt x k = false := by
  cases hb : bt x k with
  | false => rfl
  | true =>
    have e : ((2 ^ 10 : Nat) : Int) = 1024 := by decide
    have := bt_lt (x := x) (n := 10) (by decide) ⟨h.1, by omega⟩ hb
    omega
theorem b10_self {x : Int} (h : 0 ≤ x ∧ x ≤ 1023) : B10 x (bt x) := ⟨h, fun _ _ => rfl⟩
theorem b10_eq {x y : Int} {f g : Nat → Bool} (hx : B10 x f) (hy : B10 y g) (h : ∀ k, k < 10 → f k = g k) : x = y :=
  bt_ext hx.1 hy.1 (fun k hk => by rw [hx.2 k hk, hy.2 k hk]; exact h k hk)
theorem b10_w {x : Int} {f g : Nat → Bool} (hx : B10 x f) (h : ∀ k, k < 10 → f k = g k) : B10 x g := ⟨hx.1, fun k hk => (hx.2 k hk).trans (h k hk)⟩
theorem b10_0 : B10 0 (fun _ => false) := ⟨by decide, fun k _ => bt_0 k⟩
theorem b10_and {x y : Int} {f g : Nat → Bool} (hx : B10 x f) (hy : ∀ k, k < 10 → bt y k = g k) : B10 (iand x y) (fun k => f k && g k) := by
  have h1 := hx.1
  have h := iand_l (x := x) (y := y) (by omega)
  exact ⟨by omega, fun k hk => by rw [bt_and, hx.2 k hk, hy k hk]⟩
theorem b10_andn {x y : Int} {f g : Nat → Bool} (hx : B10 x f) (hy : ∀ k, k < 10 → bt y k = g k) : B10 (iand x (ixor y (-1))) (fun k => f k && !g k) :=
  b10_and hx (fun k hk => by rw [bt_not _ (by omega), hy k hk])
theorem b10_or {x y : Int} {f g : Nat → Bool} (hx : B10 x f) (hy : B10 y g) : B10 (ior x y) (fun k => f k || g k) := by
  have h := ior_n 10 (x := x) (y := y) (m := 1023) (by decide) (by decide) hx.1 hy.1
  exact ⟨h, fun k hk => by rw [bt_or, hx.2 k hk, hy.2 k hk]⟩
theorem b10_1 {i : Int} (h : 0 ≤ i ∧ i ≤ 9) : B10 (ishl 1 i) (fun k => decide (k = i.toNat)) := by
  have h1 := ishl1_n 9 (i := i) (j := 9) (m := 512) (by decide) (by decide) (by decide) h
  exact ⟨by omega, fun k hk => bt_shl (by omega) (by omega)⟩
theorem b10_all {P : Int} (h : 0 ≤ P ∧ P ≤ 10) : B10 (w32 (ishl 1 P - 1)) (fun k => decide ((k : Int) < P)) := by
  have hA := all_e h
  refine ⟨hA.2, fun k hk => ?_⟩
  rw [hA.1, bt_all (by omega) (by omega)]
  show _ = decide ((k : Int) < P)
  by_cases c : (k : Int) < P
  · rw [decide_eq_true c, decide_eq_true (by omega)]
  · rw [decide_eq_false c, decide_eq_false (by omega)]
theorem bt_1023 {k : Nat} (hk : k < 32) : bt 1023 k = decide (k < 10) := by
  have h := bt_all (P := 10) (by decide) hk
  exact h
theorem bt_shr {x i : Int} {k : Nat} (hi : 0 ≤ i) (hk : i.toNat + k < 32) : bt (ishr x i) k = bt x (i.toNat + k) := by
  have hh : (List.range 32).all (fun k => decide (((Int32.ofInt (k : Int) &&& 31).toBitVec.smod 32).toNat = k)) = true := by decide +kernel
  have h2 := of_decide_eq_true (List.all_eq_true.mp hh i.toNat (List.mem_range.mpr (by omega)))
  rw [Int.toNat_of_nonneg hi] at h2
  unfold bt ishr
  rw [Int32.ofInt_toInt, Int32.toBitVec_shiftRight, BitVec.sshiftRight', h2, BitVec.getLsbD_sshiftRight]
  rw [if_pos hk]
  simp
  omega
theorem bt_shr10 {x : Int} {k : Nat} (hk : k < 22) : bt (ishr x 10) k = bt x (10 + k) := bt_shr (i := 10) (by decide) (show 10 + k < 32 by omega)
theorem bt_shr20 {x : Int} {k : Nat} (hk : k < 12) : bt (ishr x 20) k = bt x (20 + k) := bt_shr (i := 20) (by decide) (show 20 + k < 32 by omega)
theorem b10_m {y : Int} {f : Nat → Bool} (hy : ∀ k, k < 10 → bt y k = f k) : B10 (iand y 1023) f := by
  have h := iand_r (x := y) (y := 1023) (by decide)
  exact ⟨h, fun k hk => by rw [bt_and, bt_1023 (by omega), decide_eq_true hk, Bool.and_true]; exact hy k hk⟩
theorem bit_i {x k : Int} (hk : 0 ≤ k ∧ k < 32) : iand (ishr x k) 1 = if bt x k.toNat then 1 else 0 := by
  have h := has_bt (x := x) hk
  have h2 := iand_r (x := ishr x k) (y := 1) (by decide)
  cases hb : bt x k.toNat with
  | true => rw [h.mpr hb]; rfl
  | false =>
    have h3 : ¬ iand (ishr x k) 1 = 1 := fun e => by rw [h.mp e] at hb; cases hb
    show _ = (0 : Int)
    omega
/-! how many -/
def pn (f : Nat → Bool) : Nat → Nat
  | 0 => 0
  | k + 1 => pn f k + (if f k then 1 else 0)
theorem pn_le (f : Nat → Bool) : ∀ n, pn f n ≤ n := by
  intro n
  induction n with
  | zero => exact Nat.le_refl 0
  | succ n ih => rw [pn]; split <;> omega
theorem pn_eq {f g : Nat → Bool} : ∀ {n : Nat}, (∀ k, k < n → f k = g k) → pn f n = pn g n := by
  intro n
  induction n with
  | zero => intro _; rfl
  | succ n ih => intro h; rw [pn, pn, ih (fun k hk => h k (by omega)), h n (by omega)]
theorem pn_0 {f : Nat → Bool} : ∀ {n : Nat}, (∀ k, k < n → f k = false) → pn f n = 0 := by
  intro n
  induction n with
  | zero => intro _; rfl
  | succ n ih => intro h; rw [pn, ih (fun k hk => h k (by omega)), h n (by omega)]; rfl
theorem pn_or {f g : Nat → Bool} : ∀ {n : Nat}, (∀ k, k < n → (f k && g k) = false) → pn (fun k => f k || g k) n = pn f n + pn g n := by
  intro n
  induction n with
  | zero => intro _; rfl
  | succ n ih =>
    intro h
    have h1 := h n (by omega)
    rw [pn, pn, pn, ih (fun k hk => h k (by omega))]
    cases hf : f n <;> cases hg : g n
    · simp
    · simp; omega
    · simp; omega
    · rw [hf, hg] at h1; cases h1
def bcI (v0 : Int) : Int :=
  let x1 := w32 (v0 - (iand (iush v0 1) 1431655765))
  let x2 := w32 ((iand x1 858993459) + (iand (iush x1 2) 858993459))
  let x3 := iand (w32 (x2 + (iush x2 4))) 252645135
  let x4 := w32 (x3 + (iush x3 8))
  let x5 := w32 (x4 + (iush x4 16))
  iand x5 63
theorem bcI_e : (List.range 1024).all (fun n => bcI (n : Int) == (pn (bt (n : Int)) 10 : Int)) = true := by decide +kernel
theorem bc_self {x : Int} (h : 0 ≤ x ∧ x ≤ 1023) (w : Wd) : f_JI_bitCount x w = some (((pn (bt x) 10 : Nat) : Int), w) := by
  have h1 := eq_of_beq (List.all_eq_true.mp bcI_e x.toNat (List.mem_range.mpr (by omega)))
  rw [Int.toNat_of_nonneg h.1] at h1
  show some (bcI x, w) = _
  rw [h1]
theorem bcs_e {x : Int} {f : Nat → Bool} (h : B10 x f) (w : Wd) : f_JI_bitCount x w = some (((pn f 10 : Nat) : Int), w) := by
  rw [bc_self h.1, pn_eq h.2]
theorem has_10 {x k : Int} {f : Nat → Bool} (w : Wd) (h : B10 x f) (hk : 0 ≤ k ∧ k < 10) : f_E_has x k w = some (if f k.toNat then 1 else 0, w) := by
  rw [hasE_e w hk, h.2 k.toNat (by omega)]
theorem has_o {x k : Int} (w : Wd) (hk : ¬ (0 ≤ k ∧ k < 10)) : f_E_has x k w = some (0, w) := by
  unfold f_E_has
  by_cases h : k < 0
  · rw [if_pos h]
  · rw [if_neg h, if_pos (by omega)]
/-! A STATE AS THE CLASS HAS IT: three bits of each, and as the reference has it: a number of each -/
def inP (P : Int) (k : Nat) : Bool := decide ((k : Int) < P)
def WH (x : Int) (s : Nat → Int) (P : Int) : Prop := (0 ≤ x ∧ x < 1073741824) ∧ (∀ k : Nat, k < 10 → bt x k = (inP P k && (s k == 1 || s k == 3)) ∧ bt x (10 + k) = (inP P k && (s k == 2 || s k == 3)) ∧ bt x (20 + k) = (inP P k && s k == 4)) ∧ ∀ k : Nat, (k : Int) < P → 0 ≤ s k ∧ s k ≤ 4
theorem v5 {v : Int} (h : 0 ≤ v ∧ v ≤ 4) : v = 0 ∨ v = 1 ∨ v = 2 ∨ v = 3 ∨ v = 4 := by omega
theorem inP_t {P : Int} {k : Nat} (h : inP P k = true) : (k : Int) < P := of_decide_eq_true h
def gs (P : Int) (s : Nat → Int) (k : Nat) : Bool := inP P k && gst (s k)
def sr (P : Int) (s : Nat → Int) (k : Nat) : Bool := inP P k && s k == 0
def ou (P : Int) (s : Nat → Int) (k : Nat) : Bool := inP P k && s k == 4
theorem wh_gs {x P : Int} {s : Nat → Int} (h : WH x s P) : B10 (iand (ior x (ishr x 10)) 1023) (gs P s) := by
  refine b10_m (fun k hk => ?_)
  have h1 := h.2.1 k hk
  rw [bt_or, bt_shr10 (by omega), h1.1, h1.2.1]
  unfold gs
  cases hp : inP P k with
  | false => rfl
  | true =>
    have h2 := h.2.2 k (inP_t hp)
    rcases v5 h2 with e | e | e | e | e <;> rw [e] <;> decide
theorem wh_ou {x P : Int} {s : Nat → Int} (h : WH x s P) : B10 (iand (ishr x 20) 1023) (ou P s) := by
  refine b10_m (fun k hk => ?_)
  have h1 := h.2.1 k hk
  rw [bt_shr20 (by omega), h1.2.2]
  rfl
theorem wh_kn {x P : Int} {s : Nat → Int} (h : WH x s P) : B10 (iand (ior (ior x (ishr x 10)) (ishr x 20)) 1023) (fun k => inP P k && !(s k == 0)) := by
  refine b10_m (fun k hk => ?_)
  have h1 := h.2.1 k hk
  rw [bt_or, bt_or, bt_shr10 (by omega), bt_shr20 (by omega), h1.1, h1.2.1, h1.2.2]
  cases hp : inP P k with
  | false => rfl
  | true =>
    have h2 := h.2.2 k (inP_t hp)
    rcases v5 h2 with e | e | e | e | e <;> rw [e] <;> decide
theorem og_e {x P : Int} {s : Nat → Int} (h : WH x s P) (w : Wd) : ∃ r, f_O_guests x w = some (r, w) ∧ B10 r (gs P s) := ⟨_, rfl, wh_gs h⟩
theorem oo_e {x P : Int} {s : Nat → Int} (h : WH x s P) (w : Wd) : ∃ r, f_O_out x w = some (r, w) ∧ B10 r (ou P s) := ⟨_, rfl, wh_ou h⟩
theorem late_e {x P : Int} {s : Nat → Int} (h : WH x s P) {v : Int} (w : Wd) : f_O_late x v w = some (if 0 ≤ v ∧ v < 10 ∧ gs P s v.toNat = true then s v.toNat - 1 else -1, w) := by
  unfold f_O_late f_O_guests
  rw [jc_s]
  by_cases hv : 0 ≤ v ∧ v < 10
  · rw [has_10 w (wh_gs h) hv, jc_s]
    have h1 := h.2.1 v.toNat (by omega)
    have e1 := bit_i (x := x) (k := v) (by omega)
    have w1 := w32_sp (10 + v)
    have e2 := bit_i (x := x) (k := w32 (10 + v)) (by omega)
    rw [show (w32 (10 + v)).toNat = 10 + v.toNat by omega] at e2
    rw [e1, e2, h1.1, h1.2.1]
    by_cases hg : gs P s v.toNat = true
    · rw [if_pos hg, if_neg (show ¬ (1 : Int) = 0 by decide), if_pos (show 0 ≤ v ∧ v < 10 ∧ gs P s v.toNat = true from ⟨hv.1, hv.2, hg⟩)]
      unfold gs at hg
      rw [Bool.and_eq_true] at hg
      rw [hg.1]
      have h3 : 1 ≤ s v.toNat ∧ s v.toNat < 4 := of_decide_eq_true hg.2
      have h4 : s v.toNat = 1 ∨ s v.toNat = 2 ∨ s v.toNat = 3 := by omega
      rcases h4 with e | e | e <;> rw [e] <;> rfl
    · rw [if_neg hg, if_pos rfl, if_neg (fun c => hg c.2.2)]
  · rw [has_o w hv, jc_s, if_pos rfl, if_neg (fun c => hv ⟨c.1, c.2.1⟩)]
/-- who stays a GUEST without bringing anybody -/
def sy1 (P : Int) (s : Nat → Int) (g : Int) (k : Nat) : Bool := inP P k && (s k == 1 && decide (1 < g))
def sy2 (P : Int) (s : Nat → Int) (g : Int) (k : Nat) : Bool := inP P k && (s k == 2 && decide (2 < g))
theorem wh_10 {x P : Int} {s : Nat → Int} (h : WH x s P) {k : Nat} (hk : k < 10) : bt (ishr x 10) k = (inP P k && (s k == 2 || s k == 3)) := by
  rw [bt_shr10 (by omega)]
  exact (h.2.1 k hk).2.1
theorem l1_e {x P g : Int} {s : Nat → Int} (h : WH x s P) (w : Wd) : ∃ r, f_O_lateOne x g w = some (r, w) ∧ B10 r (sy1 P s g) := by
  unfold f_O_lateOne
  by_cases hg : g ≤ 1
  · rw [if_pos hg]
    refine ⟨0, rfl, b10_w b10_0 (fun k hk => ?_)⟩
    unfold sy1
    rw [decide_eq_false (show ¬ 1 < g by omega), Bool.and_false, Bool.and_false]
  · rw [if_neg hg]
    refine ⟨_, rfl, b10_m (fun k hk => ?_)⟩
    rw [bt_and, bt_not _ (by omega), wh_10 h hk, (h.2.1 k hk).1]
    unfold sy1
    rw [decide_eq_true (show 1 < g by omega), Bool.and_true]
    cases hp : inP P k with
    | false => rfl
    | true =>
      have h2 := h.2.2 k (inP_t hp)
      rcases v5 h2 with e | e | e | e | e <;> rw [e] <;> decide
theorem l2_e {x P g : Int} {s : Nat → Int} (h : WH x s P) (w : Wd) : ∃ r, f_O_lateTwo x g w = some (r, w) ∧ B10 r (sy2 P s g) := by
  unfold f_O_lateTwo
  by_cases hg : g ≤ 2
  · rw [if_pos hg]
    refine ⟨0, rfl, b10_w b10_0 (fun k hk => ?_)⟩
    unfold sy2
    rw [decide_eq_false (show ¬ 2 < g by omega), Bool.and_false, Bool.and_false]
  · rw [if_neg hg]
    refine ⟨_, rfl, b10_m (fun k hk => ?_)⟩
    rw [bt_and, bt_not _ (by omega), wh_10 h hk, (h.2.1 k hk).1]
    unfold sy2
    rw [decide_eq_true (show 2 < g by omega), Bool.and_true]
    cases hp : inP P k with
    | false => rfl
    | true =>
      have h2 := h.2.2 k (inP_t hp)
      rcases v5 h2 with e | e | e | e | e <;> rw [e] <;> decide
def sty (P : Int) (s : Nat → Int) (g : Int) (k : Nat) : Bool := gs P s k && decide (s k < g)
theorem sty_e {P g : Int} {s : Nat → Int} (hg : g ≤ 3) (k : Nat) : (sy1 P s g k || sy2 P s g k) = sty P s g k := by
  unfold sy1 sy2 sty gs
  cases inP P k with
  | false => rfl
  | true =>
    by_cases e1 : s k = 1
    · rw [e1]; by_cases c : 1 < g
      · rw [decide_eq_true c]; rfl
      · rw [decide_eq_false c]; rfl
    · by_cases e2 : s k = 2
      · rw [e2]; by_cases c : 2 < g
        · rw [decide_eq_true c]; rfl
        · rw [decide_eq_false c]; rfl
      · have b1 : (s k == 1) = false := beq_eq_false_iff_ne.mpr e1
        have b2 : (s k == 2) = false := beq_eq_false_iff_ne.mpr e2
        rw [b1, b2]
        by_cases e3 : 1 ≤ s k ∧ s k < 4
        · rw [decide_eq_false (show ¬ s k < g by omega), Bool.and_false]; rfl
        · have : gst (s k) = false := decide_eq_false e3
          rw [this]; rfl
theorem stay_e {x P g : Int} {s : Nat → Int} (h : WH x s P) (hg : g ≤ 3) (w : Wd) : ∃ r, f_O_stay x g w = some (r, w) ∧ B10 r (sty P s g) := by
  obtain ⟨r1, e1, b1⟩ := l1_e (g := g) h w
  obtain ⟨r2, e2, b2⟩ := l2_e (g := g) h w
  refine ⟨ior r1 r2, ?_, b10_w (b10_or b1 b2) (fun k _ => sty_e hg k)⟩
  unfold f_O_stay
  rw [e1, jc_s, e2, jc_s]
/-- of each behind a WEEK in which some bring or are brought -/
def nis (P : Int) (s : Nat → Int) (g : Int) (mv : Nat → Bool) (k : Nat) : Int := if mv k then 1 else if gst (s k) then (if s k < g then s k + 1 else 4) else s k
theorem nis_rg {P g : Int} {s : Nat → Int} {mv : Nat → Bool} {k : Nat} (hg : g ≤ 3) (h : 0 ≤ s k ∧ s k ≤ 4) : 0 ≤ nis P s g mv k ∧ nis P s g mv k ≤ 4 := by
  unfold nis
  split
  · decide
  · split
    · split <;> omega
    · exact h
theorem bt_shl_k {x : Int} {i : Nat} (hi : i ≤ 20) (hx : 0 ≤ x ∧ x ≤ 1023) {k : Nat} (hk : k < 32) : bt (ishl x (i : Int)) k = (decide (i ≤ k) && bt x (k - i)) := by
  have hh : (List.range 32).all (fun k => decide (((Int32.ofInt (k : Int) &&& 31).toBitVec.smod 32).toNat = k)) = true := by decide +kernel
  have h2 := of_decide_eq_true (List.all_eq_true.mp hh i (List.mem_range.mpr (by omega)))
  unfold bt ishl
  rw [Int32.ofInt_toInt, Int32.toBitVec_shiftLeft, BitVec.shiftLeft_eq', h2, BitVec.getLsbD_shiftLeft, decide_eq_true hk, Bool.true_and]
  by_cases c : k < i
  · rw [decide_eq_true c, decide_eq_false (show ¬ i ≤ k by omega)]; rfl
  · rw [decide_eq_false c, decide_eq_true (show i ≤ k by omega)]; rfl
theorem jl_e {α : Type} {x : Int} {f : Int → α} : jlet x f = f x := rfl
theorem ish10 {y : Int} (h : 0 ≤ y ∧ y ≤ 1023) : ishl y 10 = y * 1024 := ishl_k 10 (by rfl) (by decide) (by decide) h.1 (by omega) (by omega)
theorem ish20 {y : Int} (h : 0 ≤ y ∧ y ≤ 1023) : ishl y 20 = y * 1048576 := ishl_k 20 (by rfl) (by decide) (by decide) h.1 (by omega) (by omega)
theorem mix_rg {a b c : Int} (ha : 0 ≤ a ∧ a ≤ 1023) (hb : 0 ≤ b ∧ b ≤ 1023) (hc : 0 ≤ c ∧ c ≤ 1023) : 0 ≤ ior (ior a (ishl b 10)) (ishl c 20) ∧ ior (ior a (ishl b 10)) (ishl c 20) < 1073741824 := by
  have m1 := ish10 hb
  have m2 := ish20 hc
  have n1 := ior_n 20 (x := a) (y := ishl b 10) (m := 1048575) (by decide) (by decide) (by omega) (by omega)
  have n2 := ior_n 30 (x := ior a (ishl b 10)) (y := ishl c 20) (m := 1073741823) (by decide) (by decide) (by omega) (by omega)
  omega
theorem after_e {x P g v : Int} {s : Nat → Int} {mv : Nat → Bool} (h : WH x s P) (hP : 0 ≤ P ∧ P ≤ 10) (hg : 1 ≤ g ∧ g ≤ 3) (hm : B10 v mv) (ho : ∀ k, k < 10 → mv k = true → (k : Int) < P ∧ s k ≠ 4) (w : Wd) : ∃ r, f_O_after x v g w = some (r, w) ∧ WH r (nis P s g mv) P := by
  obtain ⟨r1, e1, b1⟩ := l1_e (g := g) h w
  obtain ⟨r2, e2, b2⟩ := l2_e (g := g) h w
  obtain ⟨r3, e3, b3⟩ := oo_e h w
  obtain ⟨r4, e4, b4⟩ := og_e h w
  have x3 := b10_andn b1 hm.2
  have x6 := b10_andn b2 hm.2
  have x36 := b10_or x3 x6
  have xo := b10_or b3 (b10_andn b4 (b10_or (b10_or hm x3) x6).2)
  have lo := b10_or hm x6
  have eq : f_O_after x v g w = some (ior (ior (ior v (iand r2 (ixor v (-1)))) (ishl (ior (iand r1 (ixor v (-1))) (iand r2 (ixor v (-1)))) 10)) (ishl (ior r3 (iand r4 (ixor (ior (ior v (iand r1 (ixor v (-1)))) (iand r2 (ixor v (-1)))) (-1)))) 20), w) := by
    unfold f_O_after
    rw [e1, jc_s, jl_e, e2, jc_s, jl_e, e3, jc_s, e4, jc_s, jl_e]
  refine ⟨_, eq, ?_⟩
  clear eq
  generalize iand r1 (ixor v (-1)) = y3 at x3 x6 x36 xo lo ⊢
  generalize iand r2 (ixor v (-1)) = y6 at x3 x6 x36 xo lo ⊢
  generalize ior r3 (iand r4 (ixor (ior (ior v y3) y6) (-1))) = yo at xo ⊢
  generalize ior v y6 = yl at lo ⊢
  generalize ior y3 y6 = yh at x36 ⊢
  refine ⟨mix_rg lo.1 x36.1 xo.1, fun k hk => ?_, fun k hk => nis_rg hg.2 (h.2.2 k hk)⟩
  have c1 : ∀ j, j < 30 → bt (ior (ior yl (ishl yh 10)) (ishl yo 20)) j = (bt yl j || (decide (10 ≤ j) && bt yh (j - 10)) || (decide (20 ≤ j) && bt yo (j - 20))) := fun j hj => by
    rw [bt_or, bt_or]
    have a1 := bt_shl_k (i := 10) (by decide) x36.1 (k := j) (by omega)
    have a2 := bt_shl_k (i := 20) (by decide) xo.1 (k := j) (by omega)
    rw [show ((10 : Nat) : Int) = 10 from rfl] at a1
    rw [show ((20 : Nat) : Int) = 20 from rfl] at a2
    rw [a1, a2]
  have hs : inP P k = true → 0 ≤ s k ∧ s k ≤ 4 := fun hp => h.2.2 k (inP_t hp)
  have hp0 : inP P k = false → mv k = false := fun hp => by
    cases hm2 : mv k with
    | false => rfl
    | true => have := (ho k hk hm2).1; rw [show inP P k = true from decide_eq_true this] at hp; cases hp
  have hg3 : g = 1 ∨ g = 2 ∨ g = 3 := by omega
  refine ⟨?_, ?_, ?_⟩
  · rw [c1 k (by omega), decide_eq_false (show ¬ 10 ≤ k by omega), decide_eq_false (show ¬ 20 ≤ k by omega), lo.2 k hk, Bool.false_and, Bool.false_and, Bool.or_false, Bool.or_false]
    unfold nis sy2
    dsimp only
    cases hp : inP P k with
    | false => rw [hp0 hp]; rfl
    | true =>
      cases hm2 : mv k with
      | true => rfl
      | false =>
        rcases v5 (hs hp) with e | e | e | e | e <;> rcases hg3 with e2 | e2 | e2 <;> rw [e, e2] <;> decide
  · rw [c1 (10 + k) (by omega), bt_hi lo.1 (by omega), decide_eq_true (show 10 ≤ 10 + k by omega), decide_eq_false (show ¬ 20 ≤ 10 + k by omega), show 10 + k - 10 = k by omega, x36.2 k hk, Bool.false_and, Bool.or_false, Bool.false_or, Bool.true_and]
    unfold nis sy1 sy2
    dsimp only
    cases hp : inP P k with
    | false => rfl
    | true =>
      cases hm2 : mv k with
      | true => simp
      | false =>
        rcases v5 (hs hp) with e | e | e | e | e <;> rcases hg3 with e2 | e2 | e2 <;> rw [e, e2] <;> decide
  · rw [c1 (20 + k) (by omega), bt_hi lo.1 (by omega), decide_eq_true (show 20 ≤ 20 + k by omega), show 20 + k - 20 = k by omega, bt_hi x36.1 (by omega), xo.2 k hk, Bool.and_false, Bool.false_or, Bool.false_or, Bool.true_and]
    unfold nis sy1 sy2 ou gs
    dsimp only
    cases hp : inP P k with
    | false => rfl
    | true =>
      cases hm2 : mv k with
      | true =>
        have := (ho k hk hm2).2
        rw [show (s k == 4) = false from beq_eq_false_iff_ne.mpr this]
        simp
      | false =>
        rcases v5 (hs hp) with e | e | e | e | e <;> rcases hg3 with e2 | e2 | e2 <;> rw [e, e2] <;> decide
/-! SETS THAT THE REFERENCE COUNTS OUT -/
theorem wsucc {v P : Int} (h : 0 ≤ v ∧ v < P) (hP : P ≤ 10000) : w32 (v + 1) = v + 1 := w32_id (by omega)
theorem b10_step {x v : Int} {f : Nat → Bool} (hv : 0 ≤ v ∧ v ≤ 9) (hx : B10 x (fun k => decide ((k : Int) < v) && f k)) : B10 (ior x (if f v.toNat = true then ishl 1 v else 0)) (fun k => decide ((k : Int) < v + 1) && f k) := by
  have key : ∀ k : Nat, k < 10 → ((decide ((k : Int) < v) && f k) || (decide (k = v.toNat) && f v.toNat)) = (decide ((k : Int) < v + 1) && f k) := by
    intro k hk
    by_cases c : k = v.toNat
    · rw [c, decide_eq_false (show ¬ ((v.toNat : Nat) : Int) < v by omega), decide_eq_true (show ((v.toNat : Nat) : Int) < v + 1 by omega), decide_eq_true rfl]
      rfl
    · rw [decide_eq_false c]
      by_cases c2 : (k : Int) < v
      · rw [decide_eq_true c2, decide_eq_true (show (k : Int) < v + 1 by omega)]; simp
      · rw [decide_eq_false c2, decide_eq_false (show ¬ (k : Int) < v + 1 by omega)]; rfl
  cases hf : f v.toNat with
  | true =>
    rw [if_pos rfl]
    refine b10_w (b10_or hx (b10_1 hv)) (fun k hk => ?_)
    rw [← key k hk, hf, Bool.and_true]
  | false =>
    rw [if_neg (by decide)]
    refine b10_w (b10_or hx b10_0) (fun k hk => ?_)
    rw [← key k hk, hf, Bool.and_false]
theorem th_e {lo hi P : Int} {w : Wd} (hP : 0 ≤ P ∧ P ≤ 10) (h0 : w 43 0 = P) : ∀ (n : Nat) {v3 v4 : Int}, 0 ≤ v4 → v4 ≤ P → B10 v3 (fun k => decide ((k : Int) < v4) && decide (lo ≤ w 47 k ∧ w 47 k ≤ hi)) → PC (f_R_those_5 n lo hi v3 v4 w) (fun r u => u = w ∧ B10 r (fun k => inP P k && decide (lo ≤ w 47 k ∧ w 47 k ≤ hi))) := by
  intro n
  induction n with
  | zero => intros; exact pc_none
  | succ n ih =>
    intro v3 v4 i4 i5 hB
    rw [f_R_those_5, h0]
    refine pc_ite (fun c => ?_) (fun c => ?_)
    · have e : v4 = P := by omega
      subst e
      exact pc_some ⟨rfl, hB⟩
    · refine pc_gd (fun _ => ?_)
      rw [in_e, jc_s]
      have hs := b10_step (by omega) hB
      have nx : ∀ s : Int, s = (if decide (lo ≤ w 47 v4.toNat ∧ w 47 v4.toNat ≤ hi) = true then ishl 1 v4 else 0) → PC (f_R_those_38 (f_R_those_5 n) lo hi v4 v3 s w) (fun r u => u = w ∧ B10 r (fun k => inP P k && decide (lo ≤ w 47 k ∧ w 47 k ≤ hi))) := by
        intro s e
        unfold f_R_those_38
        refine pc_let (fun x3 e3 => ?_)
        refine pc_let (fun x4 e4 => ?_)
        rw [wsucc (P := P) (by omega) (by omega)] at e4
        refine ih (by omega) (by omega) ?_
        rw [e3, e4, e]; exact hs
      by_cases c2 : lo ≤ w 47 v4.toNat ∧ w 47 v4.toNat ≤ hi
      · rw [if_pos c2]
        refine pc_ite (fun h => absurd h (by decide)) (fun _ => nx _ ?_)
        rw [if_pos (decide_eq_true c2)]
      · rw [if_neg c2]
        refine pc_ite (fun _ => nx _ ?_) (fun h => absurd rfl h)
        rw [decide_eq_false c2]; rfl
theorem those_e {lo hi : Int} {w : Wd} (hP : 0 ≤ w 43 0 ∧ w 43 0 ≤ 10) : PC (f_R_those lo hi w) (fun r u => u = w ∧ B10 r (fun k => inP (w 43 0) k && decide (lo ≤ w 47 k ∧ w 47 k ≤ hi))) := by
  unfold f_R_those
  refine th_e hP rfl FU (by decide) hP.1 (b10_w b10_0 (fun k _ => ?_))
  rw [decide_eq_false (show ¬ (k : Int) < 0 by omega)]; rfl
theorem rg_e {w : Wd} (hP : 0 ≤ w 43 0 ∧ w 43 0 ≤ 10) : PC (f_R_guests w) (fun r u => u = w ∧ B10 r (gs (w 43 0) (w 47))) := by
  unfold f_R_guests
  refine pc_call (those_e hP) (fun r u q => pc_some ⟨q.1, b10_w q.2 (fun k _ => ?_)⟩)
  unfold gs gst
  by_cases c : 1 ≤ w 47 k ∧ w 47 k ≤ 3
  · rw [decide_eq_true c, decide_eq_true (show 1 ≤ w 47 k ∧ w 47 k < 4 by omega)]
  · rw [decide_eq_false c, decide_eq_false (show ¬ (1 ≤ w 47 k ∧ w 47 k < 4) by omega)]
theorem rs0_e {w : Wd} (hP : 0 ≤ w 43 0 ∧ w 43 0 ≤ 10) : PC (f_R_those 0 0 w) (fun r u => u = w ∧ B10 r (sr (w 43 0) (w 47))) := by
  refine pc_w (those_e hP) (fun r u q => ⟨q.1, b10_w q.2 (fun k _ => ?_)⟩)
  unfold sr
  by_cases c : w 47 k = 0
  · rw [decide_eq_true (show 0 ≤ w 47 k ∧ w 47 k ≤ 0 by omega), c]; rfl
  · rw [decide_eq_false (show ¬ (0 ≤ w 47 k ∧ w 47 k ≤ 0) by omega), beq_eq_false_iff_ne.mpr c]
def hB (P : Int) (h : Nat → Int) (k : Nat) : Bool := inP P k && !(h k == 0)
theorem hid_e {P : Int} {w : Wd} (hP : 0 ≤ P ∧ P ≤ 10) (h0 : w 43 0 = P) : ∀ (n : Nat) {v1 v2 : Int}, 0 ≤ v2 → v2 ≤ P → B10 v1 (fun k => decide ((k : Int) < v2) && !(w 46 k == 0)) → PC (f_R_hidden_4 n v1 v2 w) (fun r u => u = w ∧ B10 r (hB P (w 46))) := by
  intro n
  induction n with
  | zero => intros; exact pc_none
  | succ n ih =>
    intro v1 v2 i4 i5 hB1
    rw [f_R_hidden_4, h0]
    refine pc_ite (fun c => ?_) (fun c => ?_)
    · have e : v2 = P := by omega
      subst e
      exact pc_some ⟨rfl, hB1⟩
    · refine pc_gd (fun _ => ?_)
      have hs := b10_step (f := fun k => !(w 46 k == 0)) (by omega) hB1
      have nx : ∀ s : Int, s = (if (!(w 46 v2.toNat == 0)) = true then ishl 1 v2 else 0) → PC (f_R_hidden_29 (f_R_hidden_4 n) v2 v1 s w) (fun r u => u = w ∧ B10 r (hB P (w 46))) := by
        intro s e
        unfold f_R_hidden_29
        refine pc_let (fun x3 e3 => ?_)
        refine pc_let (fun x4 e4 => ?_)
        rw [wsucc (P := P) (by omega) (by omega)] at e4
        refine ih (by omega) (by omega) ?_
        rw [e3, e4, e]; exact hs
      by_cases c2 : w 46 v2.toNat = 0
      · refine pc_ite (fun _ => nx _ ?_) (fun h => absurd c2 h)
        rw [c2]; rfl
      · refine pc_ite (fun h => absurd h c2) (fun _ => nx _ ?_)
        rw [beq_eq_false_iff_ne.mpr c2]; rfl
theorem hidden_e {w : Wd} (hP : 0 ≤ w 43 0 ∧ w 43 0 ≤ 10) : PC (f_R_hidden w) (fun r u => u = w ∧ B10 r (hB (w 43 0) (w 46))) := by
  unfold f_R_hidden
  refine hid_e hP rfl FU (by decide) hP.1 (b10_w b10_0 (fun k _ => ?_))
  rw [decide_eq_false (show ¬ (k : Int) < 0 by omega)]; rfl
def fre (P : Int) (s h : Nat → Int) (k : Nat) : Bool := sr P s k && !hB P h k
theorem rfree_e {w : Wd} (hP : 0 ≤ w 43 0 ∧ w 43 0 ≤ 10) : PC (f_R_free w) (fun r u => u = w ∧ B10 r (fre (w 43 0) (w 47) (w 46))) := by
  unfold f_R_free
  refine pc_call (rs0_e hP) (fun r1 u2 q => ?_)
  rw [q.1]
  refine pc_call (hidden_e hP) (fun r3 u4 p => pc_some ⟨p.1, b10_andn q.2 p.2.2⟩)
/-! SETS THAT THE CLASS HAS -/
theorem eall_e {w : Wd} (hP : 0 ≤ w 5 3 ∧ w 5 3 ≤ 10) : ∃ r, f_F_everybody w = some (r, w) ∧ B10 r (inP (w 5 3)) := ⟨_, rfl, b10_all hP⟩
theorem eg_e {w : Wd} {P : Int} {s : Nat → Int} (h : WH (w 5 4) s P) : PC (f_F_guests w) (fun r u => u = w ∧ B10 r (gs P s)) := by
  unfold f_F_guests
  obtain ⟨r, e, b⟩ := og_e h w
  rw [e, jc_s]
  exact pc_some ⟨rfl, b⟩
theorem es_e {w : Wd} {P : Int} {s : Nat → Int} (h : WH (w 5 4) s P) (hP : 0 ≤ P ∧ P ≤ 10) (h3 : w 5 3 = P) : PC (f_F_strangers w) (fun r u => u = w ∧ B10 r (sr P s)) := by
  unfold f_F_strangers
  obtain ⟨r, e, b⟩ := eall_e (w := w) (by omega)
  rw [e, jc_s]
  unfold f_O_known
  rw [jc_s]
  refine pc_some ⟨rfl, b10_w (b10_andn b (wh_kn h).2) (fun k _ => ?_)⟩
  rw [h3]
  unfold sr
  cases inP P k with
  | false => rfl
  | true => cases (s k == 0) <;> rfl
theorem ef_e {w : Wd} {P : Int} {s h : Nat → Int} (hw : WH (w 5 4) s P) (hP : 0 ≤ P ∧ P ≤ 10) (h3 : w 5 3 = P) (h5 : B10 (w 5 5) (hB P h)) : PC (f_F_free w) (fun r u => u = w ∧ B10 r (fre P s h)) := by
  unfold f_F_free
  refine pc_call (es_e hw hP h3) (fun r1 u2 q => ?_)
  rw [q.1]
  exact pc_some ⟨rfl, b10_andn q.2 h5.2⟩
theorem ega_e {w : Wd} {P v : Int} {s : Nat → Int} {mv : Nat → Bool} (hw : WH (w 5 4) s P) (hg : w 5 7 ≤ 3) (hv : B10 v mv) : PC (f_F_guestsAfter v w) (fun r u => u = w ∧ r = ((pn (fun k => sty P s (w 5 7) k || mv k) 10 : Nat) : Int)) := by
  unfold f_F_guestsAfter
  obtain ⟨r, e, b⟩ := stay_e hw hg w
  rw [e, jc_s, bcs_e (b10_or b hv) w, jc_s]
  exact pc_some ⟨rfl, rfl⟩
/-- whom some know together -/
def kbn (kn : Nat → Int) (f : Nat → Bool) : Nat → Nat → Bool
  | 0, _ => false
  | n + 1, q => kbn kn f n q || (f n && bt (kn n) q)
theorem kbn_0 {kn : Nat → Int} {f : Nat → Bool} {q : Nat} : ∀ {n : Nat}, (∀ k, k < n → f k = false) → kbn kn f n q = false := by
  intro n
  induction n with
  | zero => intro _; rfl
  | succ n ih => intro h; rw [kbn, ih (fun k hk => h k (by omega)), h n (by omega)]; rfl
theorem kbn_1 {kn : Nat → Int} {i q : Nat} : ∀ {n : Nat}, i < n → kbn kn (fun k => decide (k = i)) n q = bt (kn i) q := by
  intro n
  induction n with
  | zero => intro h; omega
  | succ n ih =>
    intro h
    rw [kbn]
    by_cases c : n = i
    · rw [kbn_0 (fun k hk => decide_eq_false (show ¬ k = i by omega)), decide_eq_true c, c]; rfl
    · rw [ih (by omega), decide_eq_false c]; simp
theorem kb_e {x P : Int} {f : Nat → Bool} {w : Wd} (hP : 0 ≤ P ∧ P ≤ 10) (h3 : w 5 3 = P) (hx : ∀ k, k < 10 → bt x k = f k) (h7 : ∀ j : Nat, (j : Int) < P → (0 : Int) ≤ w 7 j ∧ w 7 j ≤ 1023) : ∀ (n : Nat) {v2 v3 : Int}, 0 ≤ v3 → v3 ≤ P → B10 v2 (kbn (w 7) f v3.toNat) → PC (f_F_knownBy_4 n x v2 v3 w) (fun r u => u = w ∧ B10 r (kbn (w 7) f P.toNat)) := by
  intro n
  induction n with
  | zero => intros; exact pc_none
  | succ n ih =>
    intro v2 v3 i3 i4 hB1
    rw [f_F_knownBy_4, h3]
    refine pc_ite (fun c => ?_) (fun c => ?_)
    · have e : v3 = P := by omega
      subst e
      exact pc_some ⟨rfl, hB1⟩
    · rw [hasE_e w (by omega), jc_s, hx _ (by omega)]
      have nx : ∀ s : Int, B10 s (fun q => f v3.toNat && bt (w 7 v3.toNat) q) → PC (f_F_knownBy_31 (f_F_knownBy_4 n) x v3 v2 s w) (fun r u => u = w ∧ B10 r (kbn (w 7) f P.toNat)) := by
        intro s e
        unfold f_F_knownBy_31
        refine pc_let (fun x3 e3 => ?_)
        refine pc_let (fun x4 e4 => ?_)
        rw [wsucc (P := P) (by omega) (by omega)] at e4
        refine ih (by omega) (by omega) ?_
        rw [e3, e4, show (v3 + 1).toNat = v3.toNat + 1 by omega]
        exact b10_or hB1 e
      cases hf : f v3.toNat with
      | true =>
        refine pc_ite (fun h => absurd h (by decide)) (fun _ => ?_)
        refine pc_gd (fun _ => nx _ ?_)
        rw [hf]
        exact b10_w (b10_self (h7 v3.toNat (by omega))) (fun k _ => by rw [Bool.true_and])
      | false =>
        refine pc_ite (fun _ => nx 0 ?_) (fun h => absurd rfl h)
        rw [hf]
        exact b10_w b10_0 (fun k _ => by rw [Bool.false_and])
theorem knb_e {x : Int} {f : Nat → Bool} {w : Wd} (hP : 0 ≤ w 5 3 ∧ w 5 3 ≤ 10) (hx : ∀ k, k < 10 → bt x k = f k) (h7 : ∀ j : Nat, (j : Int) < w 5 3 → (0 : Int) ≤ w 7 j ∧ w 7 j ≤ 1023) : PC (f_F_knownBy x w) (fun r u => u = w ∧ B10 r (kbn (w 7) f (w 5 3).toNat)) := by
  unfold f_F_knownBy
  exact kb_e hP rfl hx h7 FU (by decide) hP.1 b10_0
/-- of one -/
theorem kn1_e {i : Int} {w : Wd} (hP : 0 ≤ w 5 3 ∧ w 5 3 ≤ 10) (hi : 0 ≤ i ∧ i < w 5 3) (h7 : ∀ j : Nat, (j : Int) < w 5 3 → (0 : Int) ≤ w 7 j ∧ w 7 j ≤ 1023) : PC (f_F_knownBy (ishl 1 i) w) (fun r u => u = w ∧ r = w 7 i.toNat) := by
  refine pc_w (knb_e hP (b10_1 (i := i) (by omega)).2 h7) (fun r u q => ⟨q.1, ?_⟩)
  refine b10_eq q.2 (b10_self (h7 i.toNat (by omega))) (fun k _ => ?_)
  exact kbn_1 (by omega)
/-! THE WEEK BEHIND WHICH ONE WAS A GUEST FIRST -/
def fw (f : Nat → Int) (j : Nat) : Nat → Int
  | 0 => -1
  | n + 1 => if fw f j n = -1 then (if bt (f n) j = true then (n : Int) else -1) else fw f j n
theorem fw_eq {f g : Nat → Int} {j : Nat} : ∀ {n : Nat}, (∀ t, t < n → f t = g t) → fw f j n = fw g j n := by
  intro n
  induction n with
  | zero => intro _; rfl
  | succ n ih => intro h; rw [fw, fw, ih (fun k hk => h k (by omega)), h n (by omega)]
theorem fw_no {f : Nat → Int} {j : Nat} : ∀ {n : Nat}, (∀ t, t < n → bt (f t) j = false) → fw f j n = -1 := by
  intro n
  induction n with
  | zero => intro _; rfl
  | succ n ih => intro h; rw [fw, if_pos (ih (fun k hk => h k (by omega))), h n (by omega)]; rfl
theorem fw_s {f : Nat → Int} {j n : Nat} (h : bt (f n) j = true) : fw f j (n + 1) = if fw f j n = -1 then (n : Int) else fw f j n := by
  rw [fw, if_pos h]
theorem fw_sf {f : Nat → Int} {j n : Nat} (h : bt (f n) j = false) : fw f j (n + 1) = fw f j n := by
  rw [fw, h]
  by_cases c : fw f j n = -1
  · rw [if_pos c, c]; rfl
  · rw [if_neg c]
/-! WHAT BOTH HAVE IN COMMON: all of who is what, weeks, what is kept -/
def SN (P : Int) (s b f wr : Nat → Int) (wk : Int) : Prop :=
  (∀ j : Nat, (j : Int) < P → s j = 0 → b j = -1 ∧ ∀ t : Nat, (t : Int) ≤ wk → bt (wr t) j = false) ∧ (∀ j : Nat, (j : Int) < P → f j = fw wr j (wk + 1).toNat) ∧ B10 (wr wk.toNat) (gs P s) ∧ ∀ t : Nat, (t : Int) ≤ wk → (0 ≤ wr t ∧ wr t ≤ 1023) ∧ ∀ j : Nat, j < 10 → bt (wr t) j = true → (j : Int) < P
def wki (w : Wd) (t : Nat) : Int := w 43 8 - w 43 32 + t
def UB (w : Wd) : Prop := ∀ t : Nat, (t : Int) < w 43 32 → WH (w 17 (wki w t).toNat) (fun j => w 59 (31 * t + 3 * j)) (w 43 0) ∧ w 18 (wki w t).toNat = w 59 (31 * t + 30) ∧ SN (w 43 0) (fun j => w 59 (31 * t + 3 * j)) (fun j => w 59 (31 * t + 3 * j + 1)) (fun j => w 59 (31 * t + 3 * j + 2)) (w 50) (wki w t) ∧ (∀ j : Nat, (j : Int) < w 43 0 → w 59 (31 * t + 3 * j) ≠ 0 → w 59 (31 * t + 3 * j + 1) = w 48 j ∧ w 47 j ≠ 0) ∧ ∀ t2 : Nat, t ≤ t2 → (t2 : Int) < w 43 32 → ∀ j : Nat, (j : Int) < w 43 0 → w 59 (31 * t + 3 * j) ≠ 0 → w 59 (31 * t2 + 3 * j) ≠ 0
def KBf (w : Wd) (c d g m : Nat) : Prop := w c 2 ≠ 0 → w c 3 = w 5 3 → WH (w c 4) (fun j => w 79 (105 * m + 3 * j)) (w 43 0) ∧ B10 (w c 5) (hB (w 43 0) (fun j => w 79 (105 * m + 31 + j))) ∧ (∀ j : Nat, (j : Int) < w 43 0 → w 79 (105 * m + 31 + j) = 0 ∨ w 79 (105 * m + 31 + j) = 1) ∧ w c 6 = w 79 (105 * m + 30) ∧ (w c 9 = w 79 (105 * m + 43) ∧ 0 ≤ w c 9 ∧ w c 9 ≤ 60) ∧ (∀ j : Nat, (j : Int) < w 43 0 → w d j = w 79 (105 * m + 3 * j + 1)) ∧ (∀ t : Nat, t < 61 → (t : Int) ≤ w c 9 → w g t = w 79 (105 * m + 44 + t)) ∧ SN (w 43 0) (fun j => w 79 (105 * m + 3 * j)) (fun j => w 79 (105 * m + 3 * j + 1)) (fun j => w 79 (105 * m + 3 * j + 2)) (fun t => w 79 (105 * m + 44 + t)) (w c 9) ∧ (1 ≤ w c 7 ∧ w c 7 ≤ 3) ∧ 1 ≤ w c 8 ∧ w c 8 ≤ 10
def PPL (w : Wd) : Prop := ∀ j : Nat, (j : Int) < w 43 0 → w 6 j = w 44 j ∧ w 7 j = w 45 j ∧ w 8 j = w 48 j
def FC (w : Wd) : Prop := CO w ∧ PPL w ∧ B10 (w 5 5) (hB (w 43 0) (w 46)) ∧ WH (w 5 4) (w 47) (w 43 0) ∧ (w 5 6 = w 43 7 ∧ w 15 3 = w 43 8 ∧ w 15 4 = w 43 32) ∧ (∀ t : Nat, (t : Int) ≤ w 43 8 → w 16 t = w 50 t) ∧ SN (w 43 0) (w 47) (w 48) (w 49) (w 50) (w 43 8) ∧ UB w ∧ KBf w 37 38 39 0 ∧ KBf w 40 41 42 1 ∧ (1 ≤ w 43 10 ∧ w 43 10 ≤ 3) ∧ 1 ≤ w 43 11 ∧ w 43 11 ≤ 10
def fcP : List (Nat × Nat) := [(1, 1), (43, 13), (5, 3), (5, 4), (5, 5), (5, 6), (5, 7), (5, 8), (15, 3), (15, 4), (37, 2), (37, 3), (37, 4), (37, 5), (37, 6), (37, 7), (37, 8), (37, 9), (40, 2), (40, 3), (40, 4), (40, 5), (40, 6), (40, 7), (40, 8), (40, 9), (43, 0), (43, 7), (43, 8), (43, 10), (43, 11), (43, 32), (43, 56)]
def fcA : List Nat := [2, 6, 7, 8, 16, 17, 18, 38, 39, 41, 42, 44, 45, 46, 47, 48, 49, 50, 51, 59, 79, 80, 81]
theorem fc_fr {w u : Wd} (h : FC w) (f : FR fcP fcA w u) : FC u := by
  have c0 := co_fr h.1 (fr_sub f (by decide) (by decide))
  have p := f.1
  have p1_1 := p (1, 1) (by decide)
  have p43_13 := p (43, 13) (by decide)
  have p5_3 := p (5, 3) (by decide)
  have p5_4 := p (5, 4) (by decide)
  have p5_5 := p (5, 5) (by decide)
  have p5_6 := p (5, 6) (by decide)
  have p5_7 := p (5, 7) (by decide)
  have p5_8 := p (5, 8) (by decide)
  have p15_3 := p (15, 3) (by decide)
  have p15_4 := p (15, 4) (by decide)
  have p37_2 := p (37, 2) (by decide)
  have p37_3 := p (37, 3) (by decide)
  have p37_4 := p (37, 4) (by decide)
  have p37_5 := p (37, 5) (by decide)
  have p37_6 := p (37, 6) (by decide)
  have p37_7 := p (37, 7) (by decide)
  have p37_8 := p (37, 8) (by decide)
  have p37_9 := p (37, 9) (by decide)
  have p40_2 := p (40, 2) (by decide)
  have p40_3 := p (40, 3) (by decide)
  have p40_4 := p (40, 4) (by decide)
  have p40_5 := p (40, 5) (by decide)
  have p40_6 := p (40, 6) (by decide)
  have p40_7 := p (40, 7) (by decide)
  have p40_8 := p (40, 8) (by decide)
  have p40_9 := p (40, 9) (by decide)
  have p43_0 := p (43, 0) (by decide)
  have p43_7 := p (43, 7) (by decide)
  have p43_8 := p (43, 8) (by decide)
  have p43_10 := p (43, 10) (by decide)
  have p43_11 := p (43, 11) (by decide)
  have p43_32 := p (43, 32) (by decide)
  have p43_56 := p (43, 56) (by decide)
  have a2 := f.2 2 (by decide)
  have a6 := f.2 6 (by decide)
  have a7 := f.2 7 (by decide)
  have a8 := f.2 8 (by decide)
  have a16 := f.2 16 (by decide)
  have a17 := f.2 17 (by decide)
  have a18 := f.2 18 (by decide)
  have a38 := f.2 38 (by decide)
  have a39 := f.2 39 (by decide)
  have a41 := f.2 41 (by decide)
  have a42 := f.2 42 (by decide)
  have a44 := f.2 44 (by decide)
  have a45 := f.2 45 (by decide)
  have a46 := f.2 46 (by decide)
  have a47 := f.2 47 (by decide)
  have a48 := f.2 48 (by decide)
  have a49 := f.2 49 (by decide)
  have a50 := f.2 50 (by decide)
  have a51 := f.2 51 (by decide)
  have a59 := f.2 59 (by decide)
  have a79 := f.2 79 (by decide)
  have a80 := f.2 80 (by decide)
  have a81 := f.2 81 (by decide)

  refine ⟨c0, ?_⟩
  unfold PPL UB KBf wki
  rw [p5_3, p5_4, p5_5, p5_6, p15_3, p15_4, p37_2, p37_3, p37_4, p37_5, p37_6, p37_7, p37_8, p37_9, p40_2, p40_3, p40_4, p40_5, p40_6, p40_7, p40_8, p40_9, p43_0, p43_7, p43_8, p43_10, p43_11, p43_32, a6, a7, a8, a16, a17, a18, a38, a39, a41, a42, a44, a45, a46, a47, a48, a49, a50, a59, a79]
  exact h.2
/-! WHAT THE LAND'S LINES TELL -/
def lk (s : Int → Int) (num : Int) : Nat → Int → Int → Int
  | 0, _, acc => acc
  | k + 1, p, acc => if s p = 97 + (num - ((k : Int) + 1)) then lk s num k (p + 1) (ior acc (ishl 1 (num - ((k : Int) + 1)))) else lk s num k p acc
theorem ior0 {x : Int} (h : -2147483648 ≤ x ∧ x ≤ 2147483647) : ior x 0 = x :=
  ext32 (ior_rg _ _) h (fun k _ => by rw [bt_or, bt_0, Bool.or_false])
theorem lk_none {s : Int → Int} {num : Int} : ∀ (k : Nat) {p acc : Int}, (∀ x : Int, num - k ≤ x → x < num → s p ≠ 97 + x) → lk s num k p acc = acc := by
  intro k
  induction k with
  | zero => intro p acc _; rfl
  | succ k ih =>
    intro p acc h
    rw [lk, if_neg (h _ (by omega) (by omega))]
    exact ih (fun x h1 h2 => h x (by omega) h2)
theorem lk_skip {s : Int → Int} {num x p : Int} (hx : s p = 97 + x) (h2 : x < num) : ∀ (k : Nat) {acc : Int}, num - k ≤ x → lk s num k p acc = lk s num (num - x - 1).toNat (p + 1) (ior acc (ishl 1 x)) := by
  intro k
  induction k with
  | zero => intro acc h; omega
  | succ k ih =>
    intro acc h
    rw [lk]
    by_cases e : x = num - ((k : Int) + 1)
    · rw [if_pos (by omega), show (num - x - 1).toNat = k by omega, e]
    · rw [if_neg (by omega)]
      exact ih (by omega)
theorem lk_rg {s : Int → Int} {num : Int} (hn : num ≤ 9) : ∀ (k : Nat) {p acc : Int}, (k : Int) ≤ num → (0 ≤ acc ∧ acc ≤ 1023) → (∀ q, q < 10 → bt acc q = true → (q : Int) < num) → (0 ≤ lk s num k p acc ∧ lk s num k p acc ≤ 1023) ∧ ∀ q, q < 10 → bt (lk s num k p acc) q = true → (q : Int) < num := by
  intro k
  induction k with
  | zero => intro p acc _ h1 h2; exact ⟨h1, h2⟩
  | succ k ih =>
    intro p acc hk h1 h2
    rw [lk]
    by_cases c : s p = 97 + (num - ((k : Int) + 1))
    · rw [if_pos c]
      have b := b10_or (b10_self h1) (b10_1 (i := num - ((k : Int) + 1)) (by omega))
      refine ih (by omega) b.1 (fun q hq hb => ?_)
      rw [b.2 q hq, Bool.or_eq_true] at hb
      rcases hb with hb | hb
      · exact h2 q hq hb
      · have := of_decide_eq_true hb; omega
    · rw [if_neg c]; exact ih (by omega) h1 h2
def le1 (s : Int → Int) (num q : Int) : Int := lt s num num.toNat (q + 1)
def lp (s : Int → Int) (a : Int) : Nat → Int
  | 0 => 0
  | i + 1 => en s (a + i) (lp s a i) + 1
def lpr (s : Int → Int) (a : Int) (i : Nat) : Int := s (lp s a i) - 48
def lkn (s : Int → Int) (a : Int) (i : Nat) : Int := lk s (a + i) (a + i).toNat (lp s a i + 1) 0
def lgs (s : Int → Int) (a : Int) (i : Nat) : Bool := decide (s (le1 s (a + i) (lp s a i)) = 33)
def lhi (s : Int → Int) (a : Int) (i : Nat) : Bool := decide (s (if s (le1 s (a + i) (lp s a i)) = 33 then le1 s (a + i) (lp s a i) + 1 else le1 s (a + i) (lp s a i)) = 63)
theorem lkn_rg {s : Int → Int} {a : Int} {i : Nat} (h : 0 ≤ a ∧ a + i ≤ 9) : (0 ≤ lkn s a i ∧ lkn s a i ≤ 1023) ∧ ∀ q, q < 10 → bt (lkn s a i) q = true → (q : Int) < a + i :=
  lk_rg (by omega) _ (by omega) (by decide) (fun q _ hb => by rw [bt_0] at hb; cases hb)
/-! the class reads: what stands in its lines -/
def ECt (s : Int → Int) (a : Int) (j : Nat) (w : Wd) : Prop := (∀ i : Nat, i < j → w 10 i = lpr s a i ∧ w 11 i = lkn s a i) ∧ B10 (w 9 2) (fun k => decide (a ≤ k ∧ (k : Int) < a + j) && lgs s a ((k : Int) - a).toNat) ∧ B10 (w 9 3) (fun k => decide (a ≤ k ∧ (k : Int) < a + j) && lhi s a ((k : Int) - a).toNat)
theorem b10_line {x a : Int} {j : Nat} {f : Nat → Bool} (h : 0 ≤ a ∧ a + j ≤ 9) (hx : B10 x (fun k => decide (a ≤ k ∧ (k : Int) < a + j) && f ((k : Int) - a).toNat)) : B10 (ior x (if f j = true then ishl 1 (a + j) else 0)) (fun k => decide (a ≤ k ∧ (k : Int) < a + ((j + 1 : Nat) : Int)) && f ((k : Int) - a).toNat) := by
  have key : ∀ k : Nat, k < 10 → ((decide (a ≤ k ∧ (k : Int) < a + j) && f ((k : Int) - a).toNat) || (decide (k = (a + j).toNat) && f j)) = (decide (a ≤ k ∧ (k : Int) < a + ((j + 1 : Nat) : Int)) && f ((k : Int) - a).toNat) := by
    intro k hk
    by_cases c : k = (a + j).toNat
    · rw [decide_eq_false (show ¬ (a ≤ (k : Int) ∧ (k : Int) < a + j) by omega), decide_eq_true (show a ≤ (k : Int) ∧ (k : Int) < a + ((j + 1 : Nat) : Int) by omega), decide_eq_true c, show ((k : Int) - a).toNat = j by omega]
      rfl
    · rw [decide_eq_false c]
      by_cases c2 : a ≤ (k : Int) ∧ (k : Int) < a + j
      · rw [decide_eq_true c2, decide_eq_true (show a ≤ (k : Int) ∧ (k : Int) < a + ((j + 1 : Nat) : Int) by omega)]; simp
      · rw [decide_eq_false c2, decide_eq_false (show ¬ (a ≤ (k : Int) ∧ (k : Int) < a + ((j + 1 : Nat) : Int)) by omega)]; rfl
  cases hf : f j with
  | true =>
    rw [if_pos rfl]
    refine b10_w (b10_or hx (b10_1 (i := a + j) (by omega))) (fun k hk => ?_)
    rw [← key k hk, hf, Bool.and_true]
  | false =>
    rw [if_neg (by decide)]
    refine b10_w (b10_or hx b10_0) (fun k hk => ?_)
    rw [← key k hk, hf, Bool.and_false]
/-- behind the letters: both marks -/
theorem m137 {n0 : Int} {f0 z0 : Nat → Int} {num : Int} {w : Wd} {s1 s2 : Int} (h : EV n0 f0 z0 w) (h5 : 0 ≤ w 9 5 ∧ w 9 5 ≤ 76) (h4 : 0 ≤ w 9 4 ∧ w 9 4 ≤ 9) : PC (f_L_readLine_137 num s1 s2 w) (fun r u => r = 1 ∧ EV n0 f0 z0 u ∧ u 9 4 = w 9 4 + 1 ∧ u 9 5 = (if sE n0 f0 (w 9 5) = 63 then w 9 5 + 1 else w 9 5) ∧ u 10 = w 10 ∧ u 11 = w 11 ∧ u 9 2 = ior s1 s2 ∧ u 9 3 = ior (w 9 3) (if sE n0 f0 (w 9 5) = 63 then ishl 1 num else 0)) := by
  have k163 : ∀ {u : Wd} {s1 s2 : Int}, EV n0 f0 z0 u → u 9 4 = w 9 4 → PC (f_L_readLine_163 s1 s2 u) (fun r u' => r = 1 ∧ EV n0 f0 z0 u' ∧ u' 9 4 = w 9 4 + 1 ∧ u' 9 5 = u 9 5 ∧ u' 10 = u 10 ∧ u' 11 = u 11 ∧ u' 9 2 = u 9 2 ∧ u' 9 3 = ior s1 s2) := by
    intro u s1 s2 hu e4
    unfold f_L_readLine_163
    refine pc_lw (fun u11 e11 => ?_)
    have t4 : u11 9 4 = w 9 4 := by rw [e11, st_k (by decide)]; exact e4
    have w1 := w32_sp (u11 9 4 + 1)
    refine pc_lw (fun u12 e12 => ?_)
    refine pc_some ⟨rfl, ev_st (ev_st hu e11 (by decide)) e12 (by decide), ?_, ?_, ?_, ?_, ?_, ?_⟩
    · rw [e12, st_eq]; omega
    · rw [e12, st_k (by decide), e11, st_k (by decide)]
    · rw [e12, st_row (by decide), e11, st_row (by decide)]
    · rw [e12, st_row (by decide), e11, st_row (by decide)]
    · rw [e12, st_k (by decide), e11, st_k (by decide)]
    · rw [e12, st_k (by decide), e11, st_eq]
  unfold f_L_readLine_137
  refine pc_lw (fun u8 e8 => ?_)
  have t5 : u8 9 5 = w 9 5 := by rw [e8, st_k (by decide)]
  have t4 : u8 9 4 = w 9 4 := by rw [e8, st_k (by decide)]
  have t3 : u8 9 3 = w 9 3 := by rw [e8, st_k (by decide)]
  have t2 : u8 9 2 = ior s1 s2 := by rw [e8, st_eq]
  have t10 : u8 10 = w 10 := by rw [e8]; exact st_row (by decide)
  have t11 : u8 11 = w 11 := by rw [e8]; exact st_row (by decide)
  have h8 := ev_st h e8 (by decide)
  refine pc_call (tk_pc h8 63 (by omega)) (fun r9 u10 q => ?_)
  rw [t5] at q
  rw [t3]
  rcases q with ⟨q1, q2, q3⟩ | ⟨q1, q2, q3⟩
  · have h10 := ev_st h8 q3 (by decide)
    refine pc_ite (fun h => absurd (q2.symm.trans h) (by decide)) (fun _ => ?_)
    refine pc_w (k163 h10 (by rw [q3, st_k (by decide)]; exact t4)) (fun r u q => ⟨q.1, q.2.1, q.2.2.1, ?_, ?_, ?_, ?_, ?_⟩)
    · rw [if_pos q1, q.2.2.2.1, q3, st_eq]
    · rw [q.2.2.2.2.1, q3, st_row (by decide), t10]
    · rw [q.2.2.2.2.2.1, q3, st_row (by decide), t11]
    · rw [q.2.2.2.2.2.2.1, q3, st_k (by decide), t2]
    · rw [q.2.2.2.2.2.2.2, if_pos q1]
  · rw [q3]
    refine pc_ite (fun _ => ?_) (fun h => absurd q2 h)
    refine pc_w (k163 h8 t4) (fun r u q => ⟨q.1, q.2.1, q.2.2.1, ?_, ?_, ?_, ?_, ?_⟩)
    · rw [if_neg q1, q.2.2.2.1, t5]
    · rw [q.2.2.2.2.1, t10]
    · rw [q.2.2.2.2.2.1, t11]
    · rw [q.2.2.2.2.2.2.1, t2]
    · rw [q.2.2.2.2.2.2.2, if_neg q1]
theorem m70 {n0 : Int} {f0 z0 : Nat → Int} {num j : Int} (hn : 0 ≤ num ∧ num ≤ 9) (hj : 0 ≤ j ∧ j ≤ 9) (pr kn : Nat → Int) (g0 h0 : Int) : ∀ (n : Nat) {w : Wd} {v4 acc : Int} (k : Nat), v4 = num - k → 0 ≤ v4 → EV n0 f0 z0 w → (0 ≤ w 9 5 ∧ w 9 5 ≤ 76) → w 9 4 = j → w 10 = pr → w 11 j.toNat = acc → (0 ≤ acc ∧ acc ≤ 1023) → (∀ i, i ≠ j.toNat → w 11 i = kn i) → w 9 2 = g0 → w 9 3 = h0 → PC (f_L_readLine_70 n num v4 w) (fun _ u => u 10 = pr ∧ (∀ i, i ≠ j.toNat → u 11 i = kn i) ∧ u 11 j.toNat = lk (sE n0 f0) num k (w 9 5) acc ∧ u 9 2 = ior g0 (if sE n0 f0 (lt (sE n0 f0) num k (w 9 5)) = 33 then ishl 1 num else 0) ∧ u 9 3 = ior h0 (if sE n0 f0 (if sE n0 f0 (lt (sE n0 f0) num k (w 9 5)) = 33 then lt (sE n0 f0) num k (w 9 5) + 1 else lt (sE n0 f0) num k (w 9 5)) = 63 then ishl 1 num else 0)) := by
  intro n
  induction n with
  | zero => intros; exact pc_none
  | succ n ih =>
    intro w v4 acc k hk i4 h h5 h4 h10 h11 ha h11o h2 h3
    rw [f_L_readLine_70]
    refine pc_ite (fun hc => ?_) (fun hc => ?_)
    · have k0 : k = 0 := by omega
      subst k0
      have e0 : lt (sE n0 f0) num 0 (w 9 5) = w 9 5 := rfl
      have e1 : lk (sE n0 f0) num 0 (w 9 5) acc = acc := rfl
      rw [e0, e1]
      refine pc_call (tk_pc h 33 h5) (fun r6 u7 q => ?_)
      rcases q with ⟨q1, q2, q3⟩ | ⟨q1, q2, q3⟩
      · have l5 := sE_lt (n := n0) (f := f0) (p := w 9 5) (by omega)
        refine pc_ite (fun h => absurd (q2.symm.trans h) (by decide)) (fun _ => ?_)
        have t5 : u7 9 5 = w 9 5 + 1 := by rw [q3, st_eq]
        have t4 : u7 9 4 = w 9 4 := by rw [q3, st_k (by decide)]
        have t3 : u7 9 3 = w 9 3 := by rw [q3, st_k (by decide)]
        refine pc_w (m137 (ev_st h q3 (by decide)) (by omega) (by omega)) (fun r u q => ?_)
        obtain ⟨_, _, _, _, p10, p11, p2, p3⟩ := q
        rw [if_pos q1, if_pos q1]
        refine ⟨?_, fun i hi => ?_, ?_, ?_, ?_⟩
        · rw [p10, q3, st_row (by decide)]; exact h10
        · rw [p11, q3, st_row (by decide)]; exact h11o i hi
        · rw [p11, q3, st_row (by decide)]; exact h11
        · rw [p2, h2]
        · rw [p3, t3, h3, t5]
      · refine pc_ite (fun _ => ?_) (fun h => absurd q2 h)
        rw [q3]
        refine pc_w (m137 h h5 (by omega)) (fun r u q => ?_)
        obtain ⟨_, _, _, _, p10, p11, p2, p3⟩ := q
        rw [if_neg q1, if_neg q1]
        exact ⟨by rw [p10]; exact h10, fun i hi => by rw [p11]; exact h11o i hi, by rw [p11]; exact h11, by rw [p2, h2], by rw [p3, h3]⟩
    · cases k with
      | zero => exfalso; omega
      | succ k =>
        refine pc_let (fun x13 e13 => ?_)
        refine pc_gd (fun _ => ?_)
        have w1 := w32_sp (97 + v4)
        have e97 : w32 (97 + v4) = 97 + (num - ((k : Int) + 1)) := by omega
        rw [e97]
        have ex : x13.toNat = j.toNat := by omega
        have nx : ∀ {u : Wd} {s3 acc2 : Int}, EV n0 f0 z0 u → (0 ≤ u 9 5 ∧ u 9 5 ≤ 76) → u 9 4 = j → u 10 = pr → (∀ i, i ≠ j.toNat → u 11 i = kn i) → u 9 2 = g0 → u 9 3 = h0 → ior acc s3 = acc2 → (0 ≤ acc2 ∧ acc2 ≤ 1023) → PC (f_L_readLine_107 (f_L_readLine_70 n) num v4 x13 (w 11 x13.toNat) s3 u) (fun _ u' => u' 10 = pr ∧ (∀ i, i ≠ j.toNat → u' 11 i = kn i) ∧ u' 11 j.toNat = lk (sE n0 f0) num k (u 9 5) acc2 ∧ u' 9 2 = ior g0 (if sE n0 f0 (lt (sE n0 f0) num k (u 9 5)) = 33 then ishl 1 num else 0) ∧ u' 9 3 = ior h0 (if sE n0 f0 (if sE n0 f0 (lt (sE n0 f0) num k (u 9 5)) = 33 then lt (sE n0 f0) num k (u 9 5) + 1 else lt (sE n0 f0) num k (u 9 5)) = 63 then ishl 1 num else 0)) := by
          intro u s3 acc2 hu u5 u4 u10 u11 u2 u3 ea ha2
          unfold f_L_readLine_107
          refine pc_gd (fun _ => ?_)
          refine pc_lw (fun u16 e16 => ?_)
          have w2 := w32_sp (v4 + 1)
          refine pc_let (fun x17 e17 => ?_)
          rw [ex, h11, ea] at e16
          have t5 : u16 9 5 = u 9 5 := by rw [e16, st_c (by decide)]
          rw [← t5]
          refine ih k (by omega) (by omega) (ev_st hu e16 (by decide)) (by omega) ?_ ?_ ?_ ha2 (fun i hi => ?_) ?_ ?_
          · rw [e16, st_c (by decide)]; exact u4
          · rw [e16, st_row (by decide)]; exact u10
          · rw [e16, st_eq]
          · rw [e16, st_k hi]; exact u11 i hi
          · rw [e16, st_c (by decide)]; exact u2
          · rw [e16, st_c (by decide)]; exact u3
        refine pc_call (tk_pc h _ h5) (fun r14 u15 q => ?_)
        rcases q with ⟨q1, q2, q3⟩ | ⟨q1, q2, q3⟩
        · have l5 := sE_lt (n := n0) (f := f0) (p := w 9 5) (by omega)
          refine pc_ite (fun h => absurd (q2.symm.trans h) (by decide)) (fun _ => ?_)
          have t5 : u15 9 5 = w 9 5 + 1 := by rw [q3, st_eq]
          rw [lt, if_pos q1, lk, if_pos q1, ← t5]
          have ev : v4 = num - ((k : Int) + 1) := by omega
          have b := b10_or (b10_self ha) (b10_1 (i := v4) (by omega))
          refine nx (ev_st h q3 (by decide)) (by omega) (by rw [q3, st_k (by decide)]; exact h4) (by rw [q3, st_row (by decide)]; exact h10) (fun i hi => by rw [q3, st_row (by decide)]; exact h11o i hi) (by rw [q3, st_k (by decide)]; exact h2) (by rw [q3, st_k (by decide)]; exact h3) (by rw [ev]) ?_
          rw [← ev]; exact b.1
        · refine pc_ite (fun _ => ?_) (fun h => absurd q2 h)
          rw [lt, if_neg q1, lk, if_neg q1, q3]
          exact nx h h5 h4 h10 h11o h2 h3 (ior0 (by omega)) ha
theorem mrl {n0 : Int} {f0 z0 : Nat → Int} {a : Int} {j : Nat} (ha : 0 ≤ a) (haj : a + j ≤ 9) {w : Wd} (h : EV n0 f0 z0 w) (h5 : w 9 5 = lp (sE n0 f0) a j) (h5r : 0 ≤ w 9 5 ∧ w 9 5 ≤ 76) (h4 : w 9 4 = j) (hc : ECt (sE n0 f0) a j w) : PC (f_L_readLine (a + j) w) (fun r u => r = 0 ∨ ECt (sE n0 f0) a (j + 1) u) := by
  unfold f_L_readLine
  refine pc_call (sa_pc h (w 9 5)) (fun r1 u2 q => ?_)
  obtain ⟨q1, q2⟩ := q
  rw [q1]
  refine pc_ite (fun c1 => pc_some (Or.inl rfl)) (fun c1 => ?_)
  refine pc_ite (fun c2 => pc_some (Or.inl rfl)) (fun c2 => ?_)
  have l5 := sE_lt (n := n0) (f := f0) (p := w 9 5) (by omega)
  refine pc_ite (fun c3 => ?_) (fun c3 => pc_some (Or.inl rfl))
  have w1 := w32_sp (w 9 5 + 1)
  have w2 := w32_sp (r1 - 48)
  refine pc_lw (fun u3 e3 => ?_)
  refine pc_gd (fun _ => ?_)
  refine pc_lw (fun u4 e4 => ?_)
  refine pc_gd (fun _ => ?_)
  refine pc_lw (fun u5 e5 => ?_)
  have t34 : u3 9 4 = j := by rw [e3, st_k (by decide)]; exact h4
  have t44 : u4 9 4 = j := by rw [e4, st_c (by decide)]; exact t34
  have ej : ((j : Int)).toNat = j := by omega
  rw [t34, ej] at e4
  rw [t44, ej] at e5
  have t5 : u5 9 5 = w 9 5 + 1 := by rw [e5, st_c (by decide), e4, st_c (by decide), e3, st_eq]; omega
  have t54 : u5 9 4 = j := by rw [e5, st_c (by decide)]; exact t44
  have t11 : ∀ i, i ≠ j → u5 11 i = w 11 i := fun i hi => by rw [e5, st_k hi, e4, st_c (by decide), e3, st_c (by decide)]
  have t10 : ∀ i, i ≠ j → u5 10 i = w 10 i := fun i hi => by rw [e5, st_c (by decide), e4, st_k hi, e3, st_c (by decide)]
  have t10j : u5 10 j = lpr (sE n0 f0) a j := by
    rw [e5, st_c (by decide), e4, st_eq]
    unfold lpr
    rw [← h5, ← q2]; omega
  have t2 : u5 9 2 = w 9 2 := by rw [e5, st_c (by decide), e4, st_c (by decide), e3, st_k (by decide)]
  have t3 : u5 9 3 = w 9 3 := by rw [e5, st_c (by decide), e4, st_c (by decide), e3, st_k (by decide)]
  refine pc_w (m70 (j := j) (num := a + j) (by omega) (by omega) (u5 10) (w 11) (w 9 2) (w 9 3) FU (a + j).toNat (by omega) (by omega) (ev_st (ev_st (ev_st h e3 (by decide)) e4 (by decide)) e5 (by decide)) (by omega) t54 rfl (acc := 0) (by rw [e5, ej, st_eq]) (by decide) (fun i hi => t11 i (by omega)) t2 t3) (fun r u q => Or.inr ?_)
  obtain ⟨p10, p11, p11j, p2, p3⟩ := q
  rw [ej] at p11 p11j
  obtain ⟨c1, c2, c3⟩ := hc
  have x1 : lt (sE n0 f0) (a + j) (a + j).toNat (u5 9 5) = le1 (sE n0 f0) (a + j) (lp (sE n0 f0) a j) := by rw [t5, h5]; rfl
  rw [x1] at p2 p3
  refine ⟨fun i hi => ?_, ?_, ?_⟩
  · by_cases e : i = j
    · rw [e]
      refine ⟨by rw [p10]; exact t10j, ?_⟩
      rw [p11j, t5, h5]; rfl
    · rw [p10, t10 i e, p11 i e]
      exact c1 i (by omega)
  · rw [p2]
    have b := b10_line (f := lgs (sE n0 f0) a) ⟨ha, haj⟩ c2
    unfold lgs at b ⊢
    simp only [decide_eq_true_eq] at b
    exact b
  · rw [p3]
    have b := b10_line (f := lhi (sE n0 f0) a) ⟨ha, haj⟩ c3
    unfold lhi at b ⊢
    simp only [decide_eq_true_eq] at b
    exact b
theorem m31 {n0 : Int} {f0 z0 : Nat → Int} (hf : ∀ k, 0 ≤ f0 k) {a : Int} (ha : 0 ≤ a) : ∀ (n : Nat) {w : Wd} {v3 : Int} (j : Nat), v3 = a + j → v3 ≤ 10 → EV n0 f0 z0 w → (0 ≤ w 9 5 ∧ w 9 5 ≤ 76) → w 9 4 = j → w 9 5 = lp (sE n0 f0) a j → ECt (sE n0 f0) a j w → PC (f_L_read_31 n v3 w) (fun r u => 0 < r → ECt (sE n0 f0) a r.toNat u) := by
  intro n
  induction n with
  | zero => intros; exact pc_none
  | succ n ih =>
    intro w v3 j hv h10 h h5 h4 hl hc
    rw [f_L_read_31]
    have w1 := w32_sp (-1 - w 9 5)
    refine pc_ite (fun c1 => pc_some (fun h0 => by omega)) (fun c1 => ?_)
    rw [hv]
    refine pc_call (pc_and (lrl (by omega) h h5 (by omega)) (mrl ha (by omega) h hl h5 h4 hc)) (fun r5 u6 q => ?_)
    obtain ⟨⟨h6, q⟩, qc⟩ := q
    rcases q with ⟨q1, q2, q3⟩ | ⟨q1, q2, q3, q4⟩
    · refine pc_ite (fun _ => ?_) (fun h => absurd q2 h)
      rw [q3]
      exact pc_some (fun h0 => by omega)
    · refine pc_ite (fun h => absurd (q2.symm.trans h) (by decide)) (fun _ => ?_)
      have qc2 : ECt (sE n0 f0) a (j + 1) u6 := qc.resolve_left (fun e => by rw [q2] at e; exact absurd e (by decide))
      have b1 := en_ge (sE n0 f0) (a + j) (w 9 5)
      have b2 := en_le (sE_76 n0 f0) (num := a + j) (by omega) h5.1 (by omega)
      refine pc_call (sa_pc h6 (u6 9 5)) (fun r7 u8 q => ?_)
      obtain ⟨p1, p2⟩ := q
      rw [p1]
      have w2 := w32_sp (-1 - u6 9 5)
      have w3 := w32_sp (u6 9 5 + 1)
      have w4 := w32_sp (a + j + 1)
      refine pc_ite (fun c2 => pc_some (fun h0 => ?_)) (fun c2 => ?_)
      · have e : (u6 9 4).toNat = j + 1 := by omega
        rw [e]; exact qc2
      · refine pc_ite (fun c3 => ?_) (fun c3 => pc_some (fun h0 => by omega))
        have l5 := sE_lt (n := n0) (f := f0) (p := u6 9 5) (by omega)
        refine pc_lw (fun u9 e9 => ?_)
        refine pc_let (fun x10 e10 => ?_)
        have t5 : u9 9 5 = u6 9 5 + 1 := by rw [e9, st_eq]; omega
        have t4 : u9 9 4 = u6 9 4 := by rw [e9, st_k (by decide)]
        refine ih (j + 1) (by omega) (by omega) (ev_st h6 e9 (by decide)) (by omega) (by omega) ?_ ?_
        · rw [t5, q4, hl]; rfl
        · obtain ⟨d1, d2, d3⟩ := qc2
          refine ⟨fun i hi => ?_, ?_, ?_⟩
          · rw [e9, st_c (by decide), st_c (by decide)]; exact d1 i hi
          · rw [e9, st_k (by decide)]; exact d2
          · rw [e9, st_k (by decide)]; exact d3
theorem mread {n0 : Int} {f0 z0 : Nat → Int} (hf : ∀ k, 0 ≤ f0 k) {a : Int} (ha : 0 ≤ a ∧ a ≤ 10) {w : Wd} (h : EV n0 f0 z0 w) : PC (f_L_read a w) (fun r u => 0 < r → ECt (sE n0 f0) a r.toNat u) := by
  unfold f_L_read
  refine pc_lw (fun u1 e1 => ?_)
  refine pc_lw (fun u2 e2 => ?_)
  refine pc_lw (fun u3 e3 => ?_)
  refine pc_lw (fun u4 e4 => ?_)
  have h4 := ev_st (ev_st (ev_st (ev_st h e1 (by decide)) e2 (by decide)) e3 (by decide)) e4 (by decide)
  have t5 : u4 9 5 = 0 := by rw [e4, st_eq]
  have t4 : u4 9 4 = 0 := by rw [e4, st_k (by decide), e3, st_eq]
  have t2 : u4 9 2 = 0 := by rw [e4, st_k (by decide), e3, st_k (by decide), e2, st_k (by decide), e1, st_eq]
  have t3 : u4 9 3 = 0 := by rw [e4, st_k (by decide), e3, st_k (by decide), e2, st_eq]
  refine pc_ite (fun c => pc_some (fun h0 => by omega)) (fun c => ?_)
  refine m31 hf ha.1 FU 0 (by omega) ha.2 h4 (by omega) t4 t5 ⟨fun i hi => by omega, ?_, ?_⟩
  · rw [t2]
    refine b10_w b10_0 (fun k _ => ?_)
    rw [decide_eq_false (show ¬ (a ≤ (k : Int) ∧ (k : Int) < a + ((0 : Nat) : Int)) by omega)]; rfl
  · rw [t3]
    refine b10_w b10_0 (fun k _ => ?_)
    rw [decide_eq_false (show ¬ (a ≤ (k : Int) ∧ (k : Int) < a + ((0 : Nat) : Int)) by omega)]; rfl
