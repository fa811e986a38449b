/-! WHAT THE LAND'S LINES TELL -/
def lk (s : Int → Int) (num : Int) : Nat → Int → Int → Int
  | 0, _, acc => acc
  | k + 1, p, acc => if s p = 97 + (num - ((k : Int) + 1)) then lk s num k (p + 1) (ior acc (ishl 1 (num - ((k : Int) + 1)))) else lk s num k p acc
theorem ior0 {x : Int} (h : -2147483648 ≤ x ∧ x ≤ 2147483647) : ior x 0 = x :=
  ext32 (ior_rg _ _) h (fun k _ => by rw [bt_or, bt_0, Bool.or_false])
theorem lk_none {s : Int → Int} {num : Int} : ∀ (k : Nat) {p acc : Int}, (∀ x : Int, num - k ≤ x → x < num → s p ≠ 97 + x) → lk s num k p acc = acc := by
  intro k
  induction k with
  | zero => intro p acc _; rfl
  | succ k ih =>
    intro p acc h
    rw [lk, if_neg (h _ (by omega) (by omega))]
    exact ih (fun x h1 h2 => h x (by omega) h2)
theorem lk_skip {s : Int → Int} {num x p : Int} (hx : s p = 97 + x) (h2 : x < num) : ∀ (k : Nat) {acc : Int}, num - k ≤ x → lk s num k p acc = lk s num (num - x - 1).toNat (p + 1) (ior acc (ishl 1 x)) := by
  intro k
  induction k with
  | zero => intro acc h; omega
  | succ k ih =>
    intro acc h
    rw [lk]
    by_cases e : x = num - ((k : Int) + 1)
    · rw [if_pos (by omega), show (num - x - 1).toNat = k by omega, e]
    · rw [if_neg (by omega)]
      exact ih (by omega)
theorem lk_rg {s : Int → Int} {num : Int} (hn : num ≤ 9) : ∀ (k : Nat) {p acc : Int}, (k : Int) ≤ num → (0 ≤ acc ∧ acc ≤ 1023) → (∀ q, q < 10 → bt acc q = true → (q : Int) < num) → (0 ≤ lk s num k p acc ∧ lk s num k p acc ≤ 1023) ∧ ∀ q, q < 10 → bt (lk s num k p acc) q = true → (q : Int) < num := by
  intro k
  induction k with
  | zero => intro p acc _ h1 h2; exact ⟨h1, h2⟩
  | succ k ih =>
    intro p acc hk h1 h2
    rw [lk]
    by_cases c : s p = 97 + (num - ((k : Int) + 1))
    · rw [if_pos c]
      have b := b10_or (b10_self h1) (b10_1 (i := num - ((k : Int) + 1)) (by omega))
      refine ih (by omega) b.1 (fun q hq hb => ?_)
      rw [b.2 q hq, Bool.or_eq_true] at hb
      rcases hb with hb | hb
      · exact h2 q hq hb
      · have := of_decide_eq_true hb; omega
    · rw [if_neg c]; exact ih (by omega) h1 h2
def le1 (s : Int → Int) (num q : Int) : Int := lt s num num.toNat (q + 1)
def lp (s : Int → Int) (a : Int) : Nat → Int
  | 0 => 0
  | i + 1 => en s (a + i) (lp s a i) + 1
def lpr (s : Int → Int) (a : Int) (i : Nat) : Int := s (lp s a i) - 48
def lkn (s : Int → Int) (a : Int) (i : Nat) : Int := lk s (a + i) (a + i).toNat (lp s a i + 1) 0
def lgs (s : Int → Int) (a : Int) (i : Nat) : Bool := decide (s (le1 s (a + i) (lp s a i)) = 33)
def lhi (s : Int → Int) (a : Int) (i : Nat) : Bool := decide (s (if s (le1 s (a + i) (lp s a i)) = 33 then le1 s (a + i) (lp s a i) + 1 else le1 s (a + i) (lp s a i)) = 63)
theorem lkn_rg {s : Int → Int} {a : Int} {i : Nat} (h : 0 ≤ a ∧ a + i ≤ 9) : (0 ≤ lkn s a i ∧ lkn s a i ≤ 1023) ∧ ∀ q, q < 10 → bt (lkn s a i) q = true → (q : Int) < a + i :=
  lk_rg (by omega) _ (by omega) (by decide) (fun q _ hb => by rw [bt_0] at hb; cases hb)
/-! the class reads: what stands in its lines -/
def ECt (s : Int → Int) (a : Int) (j : Nat) (w : Wd) : Prop := (∀ i : Nat, i < j → w 10 i = lpr s a i ∧ w 11 i = lkn s a i) ∧ B10 (w 9 2) (fun k => decide (a ≤ k ∧ (k : Int) < a + j) && lgs s a ((k : Int) - a).toNat) ∧ B10 (w 9 3) (fun k => decide (a ≤ k ∧ (k : Int) < a + j) && lhi s a ((k : Int) - a).toNat)
theorem b10_line {x a : Int} {j : Nat} {f : Nat → Bool} (h : 0 ≤ a ∧ a + j ≤ 9) (hx : B10 x (fun k => decide (a ≤ k ∧ (k : Int) < a + j) && f ((k : Int) - a).toNat)) : B10 (ior x (if f j = true then ishl 1 (a + j) else 0)) (fun k => decide (a ≤ k ∧ (k : Int) < a + ((j + 1 : Nat) : Int)) && f ((k : Int) - a).toNat) := by
  have key : ∀ k : Nat, k < 10 → ((decide (a ≤ k ∧ (k : Int) < a + j) && f ((k : Int) - a).toNat) || (decide (k = (a + j).toNat) && f j)) = (decide (a ≤ k ∧ (k : Int) < a + ((j + 1 : Nat) : Int)) && f ((k : Int) - a).toNat) := by
    intro k hk
    by_cases c : k = (a + j).toNat
    · rw [decide_eq_false (show ¬ (a ≤ (k : Int) ∧ (k : Int) < a + j) by omega), decide_eq_true (show a ≤ (k : Int) ∧ (k : Int) < a + ((j + 1 : Nat) : Int) by omega), decide_eq_true c, show ((k : Int) - a).toNat = j by omega]
      rfl
    · rw [decide_eq_false c]
      by_cases c2 : a ≤ (k : Int) ∧ (k : Int) < a + j
      · rw [decide_eq_true c2, decide_eq_true (show a ≤ (k : Int) ∧ (k : Int) < a + ((j + 1 : Nat) : Int) by omega)]; simp
      · rw [decide_eq_false c2, decide_eq_false (show ¬ (a ≤ (k : Int) ∧ (k : Int) < a + ((j + 1 : Nat) : Int)) by omega)]; rfl
  cases hf : f j with
  | true =>
    rw [if_pos rfl]
    refine b10_w (b10_or hx (b10_1 (i := a + j) (by omega))) (fun k hk => ?_)
    rw [← key k hk, hf, Bool.and_true]
  | false =>
    rw [if_neg (by decide)]
    refine b10_w (b10_or hx b10_0) (fun k hk => ?_)
    rw [← key k hk, hf, Bool.and_false]
/-- behind the letters: both marks -/
theorem m137 {n0 : Int} {f0 z0 : Nat → Int} {num : Int} {w : Wd} {s1 s2 : Int} (h : EV n0 f0 z0 w) (h5 : 0 ≤ w 9 5 ∧ w 9 5 ≤ 76) (h4 : 0 ≤ w 9 4 ∧ w 9 4 ≤ 9) : PC (f_L_readLine_137 num s1 s2 w) (fun r u => r = 1 ∧ EV n0 f0 z0 u ∧ u 9 4 = w 9 4 + 1 ∧ u 9 5 = (if sE n0 f0 (w 9 5) = 63 then w 9 5 + 1 else w 9 5) ∧ u 10 = w 10 ∧ u 11 = w 11 ∧ u 9 2 = ior s1 s2 ∧ u 9 3 = ior (w 9 3) (if sE n0 f0 (w 9 5) = 63 then ishl 1 num else 0)) := by
  have k163 : ∀ {u : Wd} {s1 s2 : Int}, EV n0 f0 z0 u → u 9 4 = w 9 4 → PC (f_L_readLine_163 s1 s2 u) (fun r u' => r = 1 ∧ EV n0 f0 z0 u' ∧ u' 9 4 = w 9 4 + 1 ∧ u' 9 5 = u 9 5 ∧ u' 10 = u 10 ∧ u' 11 = u 11 ∧ u' 9 2 = u 9 2 ∧ u' 9 3 = ior s1 s2) := by
    intro u s1 s2 hu e4
    unfold f_L_readLine_163
    refine pc_lw (fun u11 e11 => ?_)
    have t4 : u11 9 4 = w 9 4 := by rw [e11, st_k (by decide)]; exact e4
    have w1 := w32_sp (u11 9 4 + 1)
    refine pc_lw (fun u12 e12 => ?_)
    refine pc_some ⟨rfl, ev_st (ev_st hu e11 (by decide)) e12 (by decide), ?_, ?_, ?_, ?_, ?_, ?_⟩
    · rw [e12, st_eq]; omega
    · rw [e12, st_k (by decide), e11, st_k (by decide)]
    · rw [e12, st_row (by decide), e11, st_row (by decide)]
    · rw [e12, st_row (by decide), e11, st_row (by decide)]
    · rw [e12, st_k (by decide), e11, st_k (by decide)]
    · rw [e12, st_k (by decide), e11, st_eq]
  unfold f_L_readLine_137
  refine pc_lw (fun u8 e8 => ?_)
  have t5 : u8 9 5 = w 9 5 := by rw [e8, st_k (by decide)]
  have t4 : u8 9 4 = w 9 4 := by rw [e8, st_k (by decide)]
  have t3 : u8 9 3 = w 9 3 := by rw [e8, st_k (by decide)]
  have t2 : u8 9 2 = ior s1 s2 := by rw [e8, st_eq]
  have t10 : u8 10 = w 10 := by rw [e8]; exact st_row (by decide)
  have t11 : u8 11 = w 11 := by rw [e8]; exact st_row (by decide)
  have h8 := ev_st h e8 (by decide)
  refine pc_call (tk_pc h8 63 (by omega)) (fun r9 u10 q => ?_)
  rw [t5] at q
  rw [t3]
  rcases q with ⟨q1, q2, q3⟩ | ⟨q1, q2, q3⟩
  · have h10 := ev_st h8 q3 (by decide)
    refine pc_ite (fun h => absurd (q2.symm.trans h) (by decide)) (fun _ => ?_)
    refine pc_w (k163 h10 (by rw [q3, st_k (by decide)]; exact t4)) (fun r u q => ⟨q.1, q.2.1, q.2.2.1, ?_, ?_, ?_, ?_, ?_⟩)
    · rw [if_pos q1, q.2.2.2.1, q3, st_eq]
    · rw [q.2.2.2.2.1, q3, st_row (by decide), t10]
    · rw [q.2.2.2.2.2.1, q3, st_row (by decide), t11]
    · rw [q.2.2.2.2.2.2.1, q3, st_k (by decide), t2]
    · rw [q.2.2.2.2.2.2.2, if_pos q1]
  · rw [q3]
    refine pc_ite (fun _ => ?_) (fun h => absurd q2 h)
    refine pc_w (k163 h8 t4) (fun r u q => ⟨q.1, q.2.1, q.2.2.1, ?_, ?_, ?_, ?_, ?_⟩)
    · rw [if_neg q1, q.2.2.2.1, t5]
    · rw [q.2.2.2.2.1, t10]
    · rw [q.2.2.2.2.2.1, t11]
    · rw [q.2.2.2.2.2.2.1, t2]
    · rw [q.2.2.2.2.2.2.2, if_neg q1]
theorem m70 {n0 : Int} {f0 z0 : Nat → Int} {num j : Int} (hn : 0 ≤ num ∧ num ≤ 9) (hj : 0 ≤ j ∧ j ≤ 9) (pr kn : Nat → Int) (g0 h0 : Int) : ∀ (n : Nat) {w : Wd} {v4 acc : Int} (k : Nat), v4 = num - k → 0 ≤ v4 → EV n0 f0 z0 w → (0 ≤ w 9 5 ∧ w 9 5 ≤ 76) → w 9 4 = j → w 10 = pr → w 11 j.toNat = acc → (0 ≤ acc ∧ acc ≤ 1023) → (∀ i, i ≠ j.toNat → w 11 i = kn i) → w 9 2 = g0 → w 9 3 = h0 → PC (f_L_readLine_70 n num v4 w) (fun _ u => u 10 = pr ∧ (∀ i, i ≠ j.toNat → u 11 i = kn i) ∧ u 11 j.toNat = lk (sE n0 f0) num k (w 9 5) acc ∧ u 9 2 = ior g0 (if sE n0 f0 (lt (sE n0 f0) num k (w 9 5)) = 33 then ishl 1 num else 0) ∧ u 9 3 = ior h0 (if sE n0 f0 (if sE n0 f0 (lt (sE n0 f0) num k (w 9 5)) = 33 then lt (sE n0 f0) num k (w 9 5) + 1 else lt (sE n0 f0) num k (w 9 5)) = 63 then ishl 1 num else 0)) := by
  intro n
  induction n with
  | zero => intros; exact pc_none
  | succ n ih =>
    intro w v4 acc k hk i4 h h5 h4 h10 h11 ha h11o h2 h3
    rw [f_L_readLine_70]
    refine pc_ite (fun hc => ?_) (fun hc => ?_)
    · have k0 : k = 0 := by omega
      subst k0
      have e0 : lt (sE n0 f0) num 0 (w 9 5) = w 9 5 := rfl
      have e1 : lk (sE n0 f0) num 0 (w 9 5) acc = acc := rfl
      rw [e0, e1]
      refine pc_call (tk_pc h 33 h5) (fun r6 u7 q => ?_)
      rcases q with ⟨q1, q2, q3⟩ | ⟨q1, q2, q3⟩
      · have l5 := sE_lt (n := n0) (f := f0) (p := w 9 5) (by omega)
        refine pc_ite (fun h => absurd (q2.symm.trans h) (by decide)) (fun _ => ?_)
        have t5 : u7 9 5 = w 9 5 + 1 := by rw [q3, st_eq]
        have t4 : u7 9 4 = w 9 4 := by rw [q3, st_k (by decide)]
        have t3 : u7 9 3 = w 9 3 := by rw [q3, st_k (by decide)]
        refine pc_w (m137 (ev_st h q3 (by decide)) (by omega) (by omega)) (fun r u q => ?_)
        obtain ⟨_, _, _, _, p10, p11, p2, p3⟩ := q
        rw [if_pos q1, if_pos q1]
        refine ⟨?_, fun i hi => ?_, ?_, ?_, ?_⟩
        · rw [p10, q3, st_row (by decide)]; exact h10
        · rw [p11, q3, st_row (by decide)]; exact h11o i hi
        · rw [p11, q3, st_row (by decide)]; exact h11
        · rw [p2, h2]
        · rw [p3, t3, h3, t5]
      · refine pc_ite (fun _ => ?_) (fun h => absurd q2 h)
        rw [q3]
        refine pc_w (m137 h h5 (by omega)) (fun r u q => ?_)
        obtain ⟨_, _, _, _, p10, p11, p2, p3⟩ := q
        rw [if_neg q1, if_neg q1]
        exact ⟨by rw [p10]; exact h10, fun i hi => by rw [p11]; exact h11o i hi, by rw [p11]; exact h11, by rw [p2, h2], by rw [p3, h3]⟩
    · cases k with
      | zero => exfalso; omega
      | succ k =>
        refine pc_let (fun x13 e13 => ?_)
        refine pc_gd (fun _ => ?_)
        have w1 := w32_sp (97 + v4)
        have e97 : w32 (97 + v4) = 97 + (num - ((k : Int) + 1)) := by omega
        rw [e97]
        have ex : x13.toNat = j.toNat := by omega
        have nx : ∀ {u : Wd} {s3 acc2 : Int}, EV n0 f0 z0 u → (0 ≤ u 9 5 ∧ u 9 5 ≤ 76) → u 9 4 = j → u 10 = pr → (∀ i, i ≠ j.toNat → u 11 i = kn i) → u 9 2 = g0 → u 9 3 = h0 → ior acc s3 = acc2 → (0 ≤ acc2 ∧ acc2 ≤ 1023) → PC (f_L_readLine_107 (f_L_readLine_70 n) num v4 x13 (w 11 x13.toNat) s3 u) (fun _ u' => u' 10 = pr ∧ (∀ i, i ≠ j.toNat → u' 11 i = kn i) ∧ u' 11 j.toNat = lk (sE n0 f0) num k (u 9 5) acc2 ∧ u' 9 2 = ior g0 (if sE n0 f0 (lt (sE n0 f0) num k (u 9 5)) = 33 then ishl 1 num else 0) ∧ u' 9 3 = ior h0 (if sE n0 f0 (if sE n0 f0 (lt (sE n0 f0) num k (u 9 5)) = 33 then lt (sE n0 f0) num k (u 9 5) + 1 else lt (sE n0 f0) num k (u 9 5)) = 63 then ishl 1 num else 0)) := by
          intro u s3 acc2 hu u5 u4 u10 u11 u2 u3 ea ha2
          unfold f_L_readLine_107
          refine pc_gd (fun _ => ?_)
          refine pc_lw (fun u16 e16 => ?_)
          have w2 := w32_sp (v4 + 1)
          refine pc_let (fun x17 e17 => ?_)
          rw [ex, h11, ea] at e16
          have t5 : u16 9 5 = u 9 5 := by rw [e16, st_c (by decide)]
          rw [← t5]
          refine ih k (by omega) (by omega) (ev_st hu e16 (by decide)) (by omega) ?_ ?_ ?_ ha2 (fun i hi => ?_) ?_ ?_
          · rw [e16, st_c (by decide)]; exact u4
          · rw [e16, st_row (by decide)]; exact u10
          · rw [e16, st_eq]
          · rw [e16, st_k hi]; exact u11 i hi
          · rw [e16, st_c (by decide)]; exact u2
          · rw [e16, st_c (by decide)]; exact u3
        refine pc_call (tk_pc h _ h5) (fun r14 u15 q => ?_)
        rcases q with ⟨q1, q2, q3⟩ | ⟨q1, q2, q3⟩
        · have l5 := sE_lt (n := n0) (f := f0) (p := w 9 5) (by omega)
          refine pc_ite (fun h => absurd (q2.symm.trans h) (by decide)) (fun _ => ?_)
          have t5 : u15 9 5 = w 9 5 + 1 := by rw [q3, st_eq]
          rw [lt, if_pos q1, lk, if_pos q1, ← t5]
          have ev : v4 = num - ((k : Int) + 1) := by omega
          have b := b10_or (b10_self ha) (b10_1 (i := v4) (by omega))
          refine nx (ev_st h q3 (by decide)) (by omega) (by rw [q3, st_k (by decide)]; exact h4) (by rw [q3, st_row (by decide)]; exact h10) (fun i hi => by rw [q3, st_row (by decide)]; exact h11o i hi) (by rw [q3, st_k (by decide)]; exact h2) (by rw [q3, st_k (by decide)]; exact h3) (by rw [ev]) ?_
          rw [← ev]; exact b.1
        · refine pc_ite (fun _ => ?_) (fun h => absurd q2 h)
          rw [lt, if_neg q1, lk, if_neg q1, q3]
          exact nx h h5 h4 h10 h11o h2 h3 (ior0 (by omega)) ha
theorem mrl {n0 : Int} {f0 z0 : Nat → Int} {a : Int} {j : Nat} (ha : 0 ≤ a) (haj : a + j ≤ 9) {w : Wd} (h : EV n0 f0 z0 w) (h5 : w 9 5 = lp (sE n0 f0) a j) (h5r : 0 ≤ w 9 5 ∧ w 9 5 ≤ 76) (h4 : w 9 4 = j) (hc : ECt (sE n0 f0) a j w) : PC (f_L_readLine (a + j) w) (fun r u => r = 0 ∨ ECt (sE n0 f0) a (j + 1) u) := by
  unfold f_L_readLine
  refine pc_call (sa_pc h (w 9 5)) (fun r1 u2 q => ?_)
  obtain ⟨q1, q2⟩ := q
  rw [q1]
  refine pc_ite (fun c1 => pc_some (Or.inl rfl)) (fun c1 => ?_)
  refine pc_ite (fun c2 => pc_some (Or.inl rfl)) (fun c2 => ?_)
  have l5 := sE_lt (n := n0) (f := f0) (p := w 9 5) (by omega)
  refine pc_ite (fun c3 => ?_) (fun c3 => pc_some (Or.inl rfl))
  have w1 := w32_sp (w 9 5 + 1)
  have w2 := w32_sp (r1 - 48)
  refine pc_lw (fun u3 e3 => ?_)
  refine pc_gd (fun _ => ?_)
  refine pc_lw (fun u4 e4 => ?_)
  refine pc_gd (fun _ => ?_)
  refine pc_lw (fun u5 e5 => ?_)
  have t34 : u3 9 4 = j := by rw [e3, st_k (by decide)]; exact h4
  have t44 : u4 9 4 = j := by rw [e4, st_c (by decide)]; exact t34
  have ej : ((j : Int)).toNat = j := by omega
  rw [t34, ej] at e4
  rw [t44, ej] at e5
  have t5 : u5 9 5 = w 9 5 + 1 := by rw [e5, st_c (by decide), e4, st_c (by decide), e3, st_eq]; omega
  have t54 : u5 9 4 = j := by rw [e5, st_c (by decide)]; exact t44
  have t11 : ∀ i, i ≠ j → u5 11 i = w 11 i := fun i hi => by rw [e5, st_k hi, e4, st_c (by decide), e3, st_c (by decide)]
  have t10 : ∀ i, i ≠ j → u5 10 i = w 10 i := fun i hi => by rw [e5, st_c (by decide), e4, st_k hi, e3, st_c (by decide)]
  have t10j : u5 10 j = lpr (sE n0 f0) a j := by
    rw [e5, st_c (by decide), e4, st_eq]
    unfold lpr
    rw [← h5, ← q2]; omega
  have t2 : u5 9 2 = w 9 2 := by rw [e5, st_c (by decide), e4, st_c (by decide), e3, st_k (by decide)]
  have t3 : u5 9 3 = w 9 3 := by rw [e5, st_c (by decide), e4, st_c (by decide), e3, st_k (by decide)]
  refine pc_w (m70 (j := j) (num := a + j) (by omega) (by omega) (u5 10) (w 11) (w 9 2) (w 9 3) FU (a + j).toNat (by omega) (by omega) (ev_st (ev_st (ev_st h e3 (by decide)) e4 (by decide)) e5 (by decide)) (by omega) t54 rfl (acc := 0) (by rw [e5, ej, st_eq]) (by decide) (fun i hi => t11 i (by omega)) t2 t3) (fun r u q => Or.inr ?_)
  obtain ⟨p10, p11, p11j, p2, p3⟩ := q
  rw [ej] at p11 p11j
  obtain ⟨c1, c2, c3⟩ := hc
  have x1 : lt (sE n0 f0) (a + j) (a + j).toNat (u5 9 5) = le1 (sE n0 f0) (a + j) (lp (sE n0 f0) a j) := by rw [t5, h5]; rfl
  rw [x1] at p2 p3
  refine ⟨fun i hi => ?_, ?_, ?_⟩
  · by_cases e : i = j
    · rw [e]
      refine ⟨by rw [p10]; exact t10j, ?_⟩
      rw [p11j, t5, h5]; rfl
    · rw [p10, t10 i e, p11 i e]
      exact c1 i (by omega)
  · rw [p2]
    have b := b10_line (f := lgs (sE n0 f0) a) ⟨ha, haj⟩ c2
    unfold lgs at b ⊢
    simp only [decide_eq_true_eq] at b
    exact b
  · rw [p3]
    have b := b10_line (f := lhi (sE n0 f0) a) ⟨ha, haj⟩ c3
    unfold lhi at b ⊢
    simp only [decide_eq_true_eq] at b
    exact b
theorem m31 {n0 : Int} {f0 z0 : Nat → Int} (hf : ∀ k, 0 ≤ f0 k) {a : Int} (ha : 0 ≤ a) : ∀ (n : Nat) {w : Wd} {v3 : Int} (j : Nat), v3 = a + j → v3 ≤ 10 → EV n0 f0 z0 w → (0 ≤ w 9 5 ∧ w 9 5 ≤ 76) → w 9 4 = j → w 9 5 = lp (sE n0 f0) a j → ECt (sE n0 f0) a j w → PC (f_L_read_31 n v3 w) (fun r u => 0 < r → ECt (sE n0 f0) a r.toNat u) := by
  intro n
  induction n with
  | zero => intros; exact pc_none
  | succ n ih =>
    intro w v3 j hv h10 h h5 h4 hl hc
    rw [f_L_read_31]
    have w1 := w32_sp (-1 - w 9 5)
    refine pc_ite (fun c1 => pc_some (fun h0 => by omega)) (fun c1 => ?_)
    rw [hv]
    refine pc_call (pc_and (lrl (by omega) h h5 (by omega)) (mrl ha (by omega) h hl h5 h4 hc)) (fun r5 u6 q => ?_)
    obtain ⟨⟨h6, q⟩, qc⟩ := q
    rcases q with ⟨q1, q2, q3⟩ | ⟨q1, q2, q3, q4⟩
    · refine pc_ite (fun _ => ?_) (fun h => absurd q2 h)
      rw [q3]
      exact pc_some (fun h0 => by omega)
    · refine pc_ite (fun h => absurd (q2.symm.trans h) (by decide)) (fun _ => ?_)
      have qc2 : ECt (sE n0 f0) a (j + 1) u6 := qc.resolve_left (fun e => by rw [q2] at e; exact absurd e (by decide))
      have b1 := en_ge (sE n0 f0) (a + j) (w 9 5)
      have b2 := en_le (sE_76 n0 f0) (num := a + j) (by omega) h5.1 (by omega)
      refine pc_call (sa_pc h6 (u6 9 5)) (fun r7 u8 q => ?_)
      obtain ⟨p1, p2⟩ := q
      rw [p1]
      have w2 := w32_sp (-1 - u6 9 5)
      have w3 := w32_sp (u6 9 5 + 1)
      have w4 := w32_sp (a + j + 1)
      refine pc_ite (fun c2 => pc_some (fun h0 => ?_)) (fun c2 => ?_)
      · have e : (u6 9 4).toNat = j + 1 := by omega
        rw [e]; exact qc2
      · refine pc_ite (fun c3 => ?_) (fun c3 => pc_some (fun h0 => by omega))
        have l5 := sE_lt (n := n0) (f := f0) (p := u6 9 5) (by omega)
        refine pc_lw (fun u9 e9 => ?_)
        refine pc_let (fun x10 e10 => ?_)
        have t5 : u9 9 5 = u6 9 5 + 1 := by rw [e9, st_eq]; omega
        have t4 : u9 9 4 = u6 9 4 := by rw [e9, st_k (by decide)]
        refine ih (j + 1) (by omega) (by omega) (ev_st h6 e9 (by decide)) (by omega) (by omega) ?_ ?_
        · rw [t5, q4, hl]; rfl
        · obtain ⟨d1, d2, d3⟩ := qc2
          refine ⟨fun i hi => ?_, ?_, ?_⟩
          · rw [e9, st_c (by decide), st_c (by decide)]; exact d1 i hi
          · rw [e9, st_k (by decide)]; exact d2
          · rw [e9, st_k (by decide)]; exact d3
theorem mread {n0 : Int} {f0 z0 : Nat → Int} (hf : ∀ k, 0 ≤ f0 k) {a : Int} (ha : 0 ≤ a ∧ a ≤ 10) {w : Wd} (h : EV n0 f0 z0 w) : PC (f_L_read a w) (fun r u => 0 < r → ECt (sE n0 f0) a r.toNat u) := by
  unfold f_L_read
  refine pc_lw (fun u1 e1 => ?_)
  refine pc_lw (fun u2 e2 => ?_)
  refine pc_lw (fun u3 e3 => ?_)
  refine pc_lw (fun u4 e4 => ?_)
  have h4 := ev_st (ev_st (ev_st (ev_st h e1 (by decide)) e2 (by decide)) e3 (by decide)) e4 (by decide)
  have t5 : u4 9 5 = 0 := by rw [e4, st_eq]
  have t4 : u4 9 4 = 0 := by rw [e4, st_k (by decide), e3, st_eq]
  have t2 : u4 9 2 = 0 := by rw [e4, st_k (by decide), e3, st_k (by decide), e2, st_k (by decide), e1, st_eq]
  have t3 : u4 9 3 = 0 := by rw [e4, st_k (by decide), e3, st_k (by decide), e2, st_eq]
  refine pc_ite (fun c => pc_some (fun h0 => by omega)) (fun c => ?_)
  refine m31 hf ha.1 FU 0 (by omega) ha.2 h4 (by omega) t4 t5 ⟨fun i hi => by omega, ?_, ?_⟩
  · rw [t2]
    refine b10_w b10_0 (fun k _ => ?_)
    rw [decide_eq_false (show ¬ (a ≤ (k : Int) ∧ (k : Int) < a + ((0 : Nat) : Int)) by omega)]; rfl
  · rw [t3]
    refine b10_w b10_0 (fun k _ => ?_)
    rw [decide_eq_false (show ¬ (a ≤ (k : Int) ∧ (k : Int) < a + ((0 : Nat) : Int)) by omega)]; rfl
