/-! A WEEK READ: the class -/
def LT (s : Int → Int) (p : Int) : Prop := 97 ≤ s p ∧ s p < 107
def mvb (A B : Nat → Int) : Nat → Nat → Bool
  | 0, _ => false
  | i + 1, k => mvb A B i k || (decide (k = (A i).toNat) || decide (k = (B i).toNat))
theorem mvb_eq {A B A2 B2 : Nat → Int} {k : Nat} : ∀ {n : Nat}, (∀ j, j < n → A j = A2 j ∧ B j = B2 j) → mvb A B n k = mvb A2 B2 n k := by
  intro n
  induction n with
  | zero => intro _; rfl
  | succ n ih => intro h; rw [mvb, mvb, ih (fun j hj => h j (by omega)), (h n (by omega)).1, (h n (by omega)).2]
def ADq (i : Nat) (a q : Int) (w u : Wd) : Prop := u 12 2 = (i : Int) + 1 ∧ u 12 3 = ior (w 12 3) (ior (ishl 1 a) (ishl 1 q)) ∧ u 13 i = a ∧ u 14 i = q ∧ (∀ j, j < i → u 13 j = w 13 j ∧ u 14 j = w 14 j) ∧ ∀ d, d ≠ 12 → d ≠ 13 → d ≠ 14 → u d = w d
theorem padd_pc {i : Nat} {a q : Int} {w : Wd} (h : w 12 2 = i) (hi : i < 10) : PC (f_P_add a q w) (fun _ u => ADq i a q w u) := by
  unfold f_P_add
  rw [h, show ((i : Int)).toNat = i from rfl]
  refine pc_ite (fun z => by omega) (fun _ => ?_)
  refine pc_gd (fun _ => ?_)
  refine pc_lw (fun u2 e2 => ?_)
  have a2 : u2 12 2 = (i : Int) := by rw [e2, st_c (by decide)]; exact h
  rw [a2, show ((i : Int)).toNat = i from rfl]
  refine pc_gd (fun _ => ?_)
  refine pc_lw (fun u3 e3 => ?_)
  have a3 : u3 12 2 = (i : Int) := by rw [e3, st_c (by decide)]; exact a2
  rw [a3]
  refine pc_lw (fun u4 e4 => ?_)
  unfold f_P_add_39
  refine pc_lw (fun u5 e5 => pc_some ⟨?_, ?_, ?_, ?_, fun j hj => ⟨?_, ?_⟩, fun d d1 d2 d3 => ?_⟩)
  · rw [e5, st_k (by decide), e4, st_eq]; exact w32_id (by omega)
  · rw [e5, st_eq, e4, st_k (by decide), e3, st_c (by decide), e2, st_c (by decide)]
  · rw [e5, st_c (by decide), e4, st_c (by decide), e3, st_c (by decide), e2, st_eq]
  · rw [e5, st_c (by decide), e4, st_c (by decide), e3, st_eq]
  · rw [e5, st_c (by decide), e4, st_c (by decide), e3, st_c (by decide), e2, st_k (by omega)]
  · rw [e5, st_c (by decide), e4, st_c (by decide), e3, st_k (by omega), e2, st_c (by decide)]
  · rw [e5, st_row d1, e4, st_row d1, e3, st_row d3, e2, st_row d2]
theorem r23_pc {N : Int} {f0 : Nat → Int} {k15 : Int → Wd → Option (Int × Wd)} {i : Nat} {w : Wd} {Q : Int → Wd → Prop} (h1 : w 1 1 = N) (h2 : w 2 = f0) (hi : i < 10) (h12 : w 12 2 = i)
    (qA : ¬ LT (sL N f0) (4 * i) → Q (-1 - 4 * i) w)
    (qB : LT (sL N f0) (4 * i) → sL N f0 (4 * i + 1) ≠ 62 → Q (-1 - (4 * i + 1)) w)
    (qC : LT (sL N f0) (4 * i) → sL N f0 (4 * i + 1) = 62 → ¬ LT (sL N f0) (4 * i + 2) → Q (-1 - (4 * i + 2)) w)
    (qD : LT (sL N f0) (4 * i) → sL N f0 (4 * i + 1) = 62 → LT (sL N f0) (4 * i + 2) → ∀ u, ADq i (sL N f0 (4 * i) - 97) (sL N f0 (4 * i + 2) - 97) w u → (sL N f0 (4 * i + 3) = -1 → Q 0 u) ∧ (sL N f0 (4 * i + 3) = 59 → PC (k15 (4 * i + 4) u) Q) ∧ (sL N f0 (4 * i + 3) ≠ -1 → sL N f0 (4 * i + 3) ≠ 59 → Q (-1 - (4 * i + 3)) u)) :
    ∀ n : Nat, PC (f_P_read_23 k15 n (4 * i) (4 * i) w) Q := by
  have sg : ∀ (p : Int) (u : Wd), u 1 = w 1 → u 2 = w 2 → PC (f_T_signAt p 40 u) (fun r u' => u' = u ∧ r = sL N f0 p) := fun p u e1 e2 => by
    have := sl_pc (w := u) p
    rw [e1, e2, h1, h2] at this
    exact this
  have W : ∀ z : Int, -1000 ≤ z → z ≤ 1000 → w32 z = z := fun z a b => w32_id (by omega)
  intro n
  cases n with
  | zero => exact pc_none
  | succ n =>
  rw [f_P_read_23, W (4 * (i : Int) + 3) (by omega) (by omega), W (4 * (i : Int) + 1) (by omega) (by omega)]
  refine pc_ite (fun z => by omega) (fun _ => ?_)
  refine pc_call (sg (4 * i) w rfl rfl) (fun r1 u1 y1 => ?_)
  rw [y1.1, y1.2]
  refine pc_ite (fun z => by omega) (fun _ => ?_)
  have bad : ∀ (p : Int), 0 ≤ p → p ≤ 40 → Q (-1 - p) w → PC (f_P_read_70 p w) Q := fun p a b hq => by
    unfold f_P_read_70
    rw [show w32 (-1 - p) = -1 - p from W _ (by omega) (by omega)]
    exact pc_some hq
  refine pc_ite (fun c => bad _ (by omega) (by omega) (qA (fun h => by have := h.1; omega))) (fun c1 => ?_)
  refine pc_ite (fun c2 => ?_) (fun c => bad _ (by omega) (by omega) (qA (fun h => by have := h.2; omega)))
  have L1 : LT (sL N f0) (4 * i) := ⟨by omega, c2⟩
  unfold f_P_read_74
  refine pc_let (fun x2 e2 => ?_)
  rw [W (4 * (i : Int) + 1) (by omega) (by omega)] at e2
  rw [e2]
  cases n with
  | zero => exact pc_none
  | succ n =>
  rw [f_P_read_23, W (4 * (i : Int) + 3) (by omega) (by omega), W (4 * (i : Int) + 1) (by omega) (by omega)]
  refine pc_ite (fun z => by omega) (fun _ => ?_)
  refine pc_call (sg (4 * i + 1) w rfl rfl) (fun r3 u3 y3 => ?_)
  rw [y3.1, y3.2]
  refine pc_ite (fun _ => ?_) (fun z => absurd rfl z)
  refine pc_ite (fun g1 => ?_) (fun g1 => bad _ (by omega) (by omega) (qB L1 g1))
  unfold f_P_read_74
  refine pc_let (fun x4 e4 => ?_)
  rw [W (4 * (i : Int) + 1 + 1) (by omega) (by omega)] at e4
  rw [e4]
  cases n with
  | zero => exact pc_none
  | succ n =>
  rw [f_P_read_23, W (4 * (i : Int) + 3) (by omega) (by omega), W (4 * (i : Int) + 1) (by omega) (by omega)]
  refine pc_ite (fun z => by omega) (fun _ => ?_)
  rw [show 4 * (i : Int) + 1 + 1 = 4 * i + 2 by omega]
  refine pc_call (sg (4 * i + 2) w rfl rfl) (fun r5 u5 y5 => ?_)
  rw [y5.1, y5.2]
  refine pc_ite (fun z => by omega) (fun _ => ?_)
  refine pc_ite (fun c => bad _ (by omega) (by omega) (qC L1 g1 (fun h => by have := h.1; omega))) (fun c3 => ?_)
  refine pc_ite (fun c4 => ?_) (fun c => bad _ (by omega) (by omega) (qC L1 g1 (fun h => by have := h.2; omega)))
  have L2 : LT (sL N f0) (4 * i + 2) := ⟨by omega, c4⟩
  unfold f_P_read_74
  refine pc_let (fun x6 e6 => ?_)
  rw [W (4 * (i : Int) + 2 + 1) (by omega) (by omega)] at e6
  rw [e6]
  cases n with
  | zero => exact pc_none
  | succ n =>
  rw [f_P_read_23, W (4 * (i : Int) + 3) (by omega) (by omega), W (4 * (i : Int) + 2) (by omega) (by omega)]
  refine pc_ite (fun _ => ?_) (fun z => by omega)
  refine pc_call (sg (4 * i) w rfl rfl) (fun r7 u7 y7 => ?_)
  rw [y7.1, y7.2]
  refine pc_call (sg (4 * i + 2) w rfl rfl) (fun r8 u8 y8 => ?_)
  rw [y8.1, y8.2, W (sL N f0 (4 * i) - 97) (by omega) (by omega), W (sL N f0 (4 * i + 2) - 97) (by omega) (by omega)]
  refine pc_call (padd_pc h12 hi) (fun r9 u9 y9 => ?_)
  obtain ⟨d1, d2, d3⟩ := qD L1 g1 L2 u9 y9
  have o9 := y9.2.2.2.2.2
  refine pc_call (sg (4 * i + 3) u9 (o9 1 (by decide) (by decide) (by decide)) (o9 2 (by decide) (by decide) (by decide))) (fun r10 u10 y10 => ?_)
  rw [y10.1, y10.2]
  refine pc_ite (fun c => pc_some (d1 c)) (fun n1 => ?_)
  refine pc_ite (fun c => ?_) (fun n2 => ?_)
  · refine pc_let (fun x11 e11 => ?_)
    rw [W (4 * (i : Int) + 4) (by omega) (by omega)] at e11
    rw [e11]
    exact d2 c
  · rw [W (-1 - (4 * (i : Int) + 3)) (by omega) (by omega)]
    exact pc_some (d3 n1 n2)
/-! the reference -/
def RW (N : Int) (f1 : Nat → Int) (a : Wd) : Prop := a 43 17 = 52 ∧ a 43 18 = N ∧ a 43 19 = 40 ∧ a 51 = f1
def RXr (x u : Wd) : Prop := ∀ c k, c ≠ 60 → c ≠ 61 → ¬ (c = 43 ∧ (k = 20 ∨ k = 21)) → u c k = x c k
theorem rxr_tr {x u v : Wd} (h : RXr x u) (h2 : RXr u v) : RXr x v := fun c k h60 h61 hc => (h2 c k h60 h61 hc).trans (h c k h60 h61 hc)
theorem rw_fr {N : Int} {f1 : Nat → Int} {x u : Wd} (h : RW N f1 x) (f : RXr x u) : RW N f1 u := by
  refine ⟨?_, ?_, ?_, ?_⟩
  · rw [f 43 17 (by decide) (by decide) (by decide)]; exact h.1
  · rw [f 43 18 (by decide) (by decide) (by decide)]; exact h.2.1
  · rw [f 43 19 (by decide) (by decide) (by decide)]; exact h.2.2.1
  · rw [show u 51 = x 51 from funext fun k => f 51 k (by decide) (by decide) (by omega)]; exact h.2.2.2
theorem herw_pc {N : Int} {f1 : Nat → Int} {a : Wd} (h : RW N f1 a) : PC (f_R_here a) (fun r u => u = a ∧ r = hx N f1 (a 43 20)) := by
  have := hx_pc (n := N) (f0 := f1) (x := a) ⟨h.2.1, h.2.2.1, Or.inl ⟨h.1, h.2.2.2⟩⟩ (a 43 20) (a 43 21)
  rw [xw_self] at this
  exact this
theorem rlw_pc {N p : Int} {f1 : Nat → Int} {a : Wd} (h : RW N f1 a) (hp : a 43 20 = p) (h21 : a 43 21 = -1) (h0 : 0 ≤ p ∧ p ≤ 40) : PC (f_R_readLetter a) (fun r u => (LT (hx N f1) p ∧ r = hx N f1 p - 97 ∧ u = st a 43 20 (p + 1)) ∨ (¬ LT (hx N f1) p ∧ r = 0 ∧ u = st a 43 21 p)) := by
  unfold f_R_readLetter
  rw [fine_e, jc_s, if_pos h21]
  refine pc_ite (fun e => absurd e (by decide)) (fun _ => ?_)
  refine pc_call (herw_pc h) (fun r3 u4 y => ?_)
  rw [y.1, y.2, hp]
  unfold f_R_in
  by_cases c1 : hx N f1 p < 97
  · rw [if_pos c1, jc_s, hp]
    refine pc_ite (fun _ => ?_) (fun e => absurd rfl e)
    refine pc_call (fl_pc a p) (fun r8 u9 y2 => pc_some (Or.inr ⟨fun hL => by have := hL.1; omega, rfl, ?_⟩))
    rw [y2, if_pos h21]
  · rw [if_neg c1]
    by_cases c2 : 106 < hx N f1 p
    · rw [if_pos c2, jc_s, hp]
      refine pc_ite (fun _ => ?_) (fun e => absurd rfl e)
      refine pc_call (fl_pc a p) (fun r8 u9 y2 => pc_some (Or.inr ⟨fun hL => by have := hL.2; omega, rfl, ?_⟩))
      rw [y2, if_pos h21]
    · rw [if_neg c2, jc_s]
      refine pc_ite (fun e => absurd e (by decide)) (fun _ => ?_)
      refine pc_lw (fun u7 e7 => ?_)
      rw [hp, w32_id (show -2147483648 ≤ p + 1 ∧ p + 1 ≤ 2147483647 by omega)] at e7
      have e20 : u7 43 20 = p + 1 := by rw [e7, st_eq]
      have e17 : u7 43 17 = 52 := by rw [e7, st_k (by decide)]; exact h.1
      have e51 : u7 51 = f1 := by rw [e7, st_row (by decide)]; exact h.2.2.2
      have lt := hx_lt (n := N) (f0 := f1) (p := p) (by omega)
      have ev : hx N f1 p = f1 p.toNat := by
        unfold hx
        rw [if_neg (by omega), if_neg (by omega)]
      refine pc_ite (fun _ => ?_) (fun z => absurd e17 z)
      refine pc_gd (fun _ => pc_some (Or.inl ⟨⟨by omega, by omega⟩, ?_, e7⟩))
      rw [e20, e51, show w32 (p + 1 - 1) = p by rw [show p + 1 - 1 = p by omega]; exact w32_id (by omega), ← ev]
      exact w32_id (by omega)
/-- once a fault is found -/
theorem flt77 {q v1 : Int} {a : Wd} {m : Nat} {Q : Int → Wd → Prop} (hq : a 43 21 = q) (hn : q ≠ -1) (hv : 0 ≤ v1 ∧ v1 ≤ 10) (hQ : ∀ a', RXr a a' → a' 43 21 = q → PC (f_R_week_100 (v1 + 1) a') Q) : PC (f_R_week_77 (f_R_week_39 m) v1 a) Q := by
  have nf : ∀ u : Wd, u 43 21 = q → ¬ u 43 21 = -1 := fun u e => by rw [e]; exact hn
  unfold f_R_week_77 f_R_readLetter
  rw [fine_e, if_neg (nf a hq), jc_s, if_pos rfl, jc_s]
  refine pc_gd (fun _ => pc_lw (fun u44 e44 => pc_let (fun x45 e45 => ?_)))
  have e21 : u44 43 21 = q := by rw [e44, st_c (by decide)]; exact hq
  unfold f_R_passes
  rw [fine_e, if_neg (nf u44 e21), jc_s, if_pos rfl, jc_s]
  cases m with
  | zero => exact pc_none
  | succ m =>
    rw [f_R_week_39, if_pos rfl]
    rw [w32_id (show -2147483648 ≤ v1 + 1 ∧ v1 + 1 ≤ 2147483647 by omega)] at e45
    rw [e45]
    exact hQ u44 (fun c k h60 h61 hc => by rw [e44, st_c h61]) e21
theorem r39_pc {N : Int} {f1 : Nat → Int} {i m : Nat} {a : Wd} {Q : Int → Wd → Prop} (h : RW N f1 a) (hi : i ≤ 10) (hp : a 43 20 = 4 * i) (h21 : a 43 21 = -1)
    (qA : ¬ LT (hx N f1) (4 * i) → ∀ a', RXr a a' → a' 43 21 = 4 * i → PC (f_R_week_100 ((i : Int) + 1) a') Q)
    (qB : LT (hx N f1) (4 * i) → hx N f1 (4 * i + 1) ≠ 62 → ∀ a', RXr a a' → a' 43 21 = 4 * i + 1 → PC (f_R_week_100 ((i : Int) + 1) a') Q)
    (qC : LT (hx N f1) (4 * i) → hx N f1 (4 * i + 1) = 62 → ¬ LT (hx N f1) (4 * i + 2) → ∀ a', RXr a a' → a' 43 21 = 4 * i + 2 → PC (f_R_week_100 ((i : Int) + 1) a') Q)
    (qD : LT (hx N f1) (4 * i) → hx N f1 (4 * i + 1) = 62 → LT (hx N f1) (4 * i + 2) → ∀ a', RXr a a' → a' 43 21 = -1 → (∀ j, a' 60 j = if j = i then hx N f1 (4 * i) - 97 else a 60 j) → (∀ j, a' 61 j = if j = i then hx N f1 (4 * i + 2) - 97 else a 61 j) → (hx N f1 (4 * i + 3) = 59 → a' 43 20 = 4 * i + 4 → PC (f_R_week_39 m ((i : Int) + 1) 1 a') Q) ∧ (hx N f1 (4 * i + 3) ≠ 59 → a' 43 20 = 4 * i + 3 → PC (f_R_week_100 ((i : Int) + 1) a') Q)) :
    PC (f_R_week_39 (m + 1) (i : Int) 1 a) Q := by
  rw [f_R_week_39, if_neg (by decide), fine_e, if_pos h21, jc_s, if_neg (by decide)]
  refine pc_call (rlw_pc h hp h21 (by omega)) (fun r37 u38 y => ?_)
  refine pc_gd (fun _ => pc_lw (fun u39 e39 => ?_))
  rw [show ((i : Int)).toNat = i from rfl] at e39
  have eni : ∀ j : Nat, (4 * (i : Int) + j) ≠ -1 := fun j => by omega
  have e3943 : u39 43 = u38 43 := by rw [e39, st_row (by decide)]
  -- a fault stays
  have goF : ∀ (q : Int), 0 ≤ q → u39 43 21 = q → RXr a u39 → (∀ a', RXr a a' → a' 43 21 = q → PC (f_R_week_100 ((i : Int) + 1) a') Q) → PC (jcall (f_R_passes 62 u39) fun r40 u41 => if r40 = 0 then jcall (f_R_fault (u41 43 20) u41) fun r48 u49 => f_R_week_77 (f_R_week_39 m) i u49 else f_R_week_77 (f_R_week_39 m) i u41) Q := fun q h0 hq hx9 hQ => by
    unfold f_R_passes
    rw [fine_e, if_neg (show ¬ u39 43 21 = -1 by omega), jc_s, if_pos rfl, jc_s, if_pos rfl]
    refine pc_call (fl_pc u39 _) (fun r48 u49 y2 => ?_)
    rw [if_neg (show ¬ u39 43 21 = -1 by omega)] at y2
    rw [y2]
    exact flt77 hq (by omega) (by omega) (fun a' b1 b2 => hQ a' (rxr_tr hx9 b1) b2)
  rcases y with ⟨L1, y2, y3⟩ | ⟨L1, y2, y3⟩
  · have x39 : RXr a u39 := fun c k h60 h61 hc => by
      rw [e39, st_c h60, y3]; unfold st; rw [if_neg (by omega)]
    have p39 : u39 43 20 = 4 * i + 1 := by rw [e3943, y3, st_eq]
    have f39 : u39 43 21 = -1 := by rw [e3943, y3, st_k (by decide)]; exact h21
    have h39 := rw_fr h x39
    unfold f_R_passes
    rw [fine_e, if_pos f39, jc_s, if_neg (by decide)]
    refine pc_call (P := fun r u => (hx N f1 (4 * i + 1) = 62 ∧ r = 1 ∧ u = st u39 43 20 (4 * i + 2)) ∨ (hx N f1 (4 * i + 1) ≠ 62 ∧ r = 0 ∧ u = u39)) ?_ (fun r40 u41 z => ?_)
    · refine pc_call (herw_pc h39) (fun r3 u4 y => ?_)
      rw [y.1, y.2, p39]
      refine pc_ite (fun c => ?_) (fun c => pc_some (Or.inr ⟨c, rfl, rfl⟩))
      refine pc_lw (fun u5 e5 => pc_some (Or.inl ⟨c, rfl, ?_⟩))
      rw [e5, w32_id (by omega), show (4 * (i : Int) + 1 + 1) = 4 * i + 2 by omega]
    · rcases z with ⟨g1, z2, z3⟩ | ⟨g1, z2, z3⟩
      · rw [z2]
        refine pc_ite (fun e => absurd e (by decide)) (fun _ => ?_)
        have x41 : RXr a u41 := rxr_tr x39 (fun c k h60 h61 hc => by rw [z3]; unfold st; rw [if_neg (by omega)])
        have p41 : u41 43 20 = 4 * i + 2 := by rw [z3, st_eq]
        have f41 : u41 43 21 = -1 := by rw [z3, st_k (by decide)]; exact f39
        have h41 := rw_fr h x41
        have lt1 := hx_lt (n := N) (f0 := f1) (p := 4 * (i : Int)) (by have := L1.1; omega)
        unfold f_R_week_77
        refine pc_call (rlw_pc (p := 4 * (i : Int) + 2) h41 p41 f41 (by omega)) (fun r42 u43 t => ?_)
        rcases t with ⟨L2, t2, t3⟩ | ⟨L2, t2, t3⟩
        · refine pc_gd (fun _ => pc_lw (fun u44 e44 => pc_let (fun x45 e45 => ?_)))
          rw [show ((i : Int)).toNat = i from rfl] at e44
          rw [w32_id (show -2147483648 ≤ (i : Int) + 1 ∧ (i : Int) + 1 ≤ 2147483647 by omega)] at e45
          have x44 : RXr a u44 := rxr_tr x41 (fun c k h60 h61 hc => by rw [e44, st_c h61, t3]; unfold st; rw [if_neg (by omega)])
          have p44 : u44 43 20 = 4 * i + 3 := by
            rw [e44, st_c (by decide), t3, st_eq]; omega
          have f44 : u44 43 21 = -1 := by rw [e44, st_c (by decide), t3, st_k (by decide)]; exact f41
          have h44 := rw_fr h x44
          have r60 : ∀ j, u44 60 j = if j = i then hx N f1 (4 * i) - 97 else a 60 j := fun j => by
            rw [e44, st_c (by decide), t3, st_c (by decide), z3, st_c (by decide), e39]
            by_cases c : j = i
            · rw [if_pos c, c, st_eq, y2]
            · rw [if_neg c, st_k c, y3, st_c (by decide)]
          have r61 : ∀ j, u44 61 j = if j = i then hx N f1 (4 * i + 2) - 97 else a 61 j := fun j => by
            rw [e44]
            by_cases c : j = i
            · rw [if_pos c, c, st_eq, t2]
            · rw [if_neg c, st_k c, t3, st_c (by decide), z3, st_c (by decide), e39, st_c (by decide), y3, st_c (by decide)]
          unfold f_R_passes
          rw [fine_e, if_pos f44, jc_s, if_neg (by decide)]
          refine pc_call (P := fun r u => (hx N f1 (4 * i + 3) = 59 ∧ r = 1 ∧ u = st u44 43 20 (4 * i + 4)) ∨ (hx N f1 (4 * i + 3) ≠ 59 ∧ r = 0 ∧ u = u44)) ?_ (fun r46 u47 z => ?_)
          · refine pc_call (herw_pc h44) (fun r3 u4 y => ?_)
            rw [y.1, y.2, p44]
            refine pc_ite (fun c => ?_) (fun c => pc_some (Or.inr ⟨c, rfl, rfl⟩))
            refine pc_lw (fun u5 e5 => pc_some (Or.inl ⟨c, rfl, ?_⟩))
            rw [e5, w32_id (by omega), show (4 * (i : Int) + 3 + 1) = 4 * i + 4 by omega]
          · rw [e45]
            rcases z with ⟨g3, s2, s3⟩ | ⟨g3, s2, s3⟩
            · rw [s2]
              refine (qD L1 g1 L2 u47 (rxr_tr x44 (fun c k h60 h61 hc => by rw [s3]; unfold st; rw [if_neg (by omega)])) (by rw [s3, st_k (by decide)]; exact f44) (fun j => by rw [s3, st_c (by decide)]; exact r60 j) (fun j => by rw [s3, st_c (by decide)]; exact r61 j)).1 g3 (by rw [s3, st_eq])
            · rw [s2, s3]
              have := (qD L1 g1 L2 u44 x44 f44 r60 r61).2 g3 p44
              cases m with
              | zero => exact pc_none
              | succ m => rw [f_R_week_39, if_pos rfl]; exact this
        · refine pc_gd (fun _ => pc_lw (fun u44 e44 => pc_let (fun x45 e45 => ?_)))
          rw [w32_id (show -2147483648 ≤ (i : Int) + 1 ∧ (i : Int) + 1 ≤ 2147483647 by omega)] at e45
          have x44 : RXr a u44 := rxr_tr x41 (fun c k h60 h61 hc => by rw [e44, st_c h61, t3]; unfold st; rw [if_neg (by omega)])
          have f44 : u44 43 21 = 4 * i + 2 := by rw [e44, st_c (by decide), t3, st_eq]
          unfold f_R_passes
          rw [fine_e, if_neg (show ¬ u44 43 21 = -1 by omega), jc_s, if_pos rfl, jc_s]
          have := qC L1 g1 L2 u44 x44 f44
          cases m with
          | zero => exact pc_none
          | succ m => rw [f_R_week_39, if_pos rfl, e45]; exact this
      · rw [z2, z3, if_pos rfl]
        refine pc_call (fl_pc u39 _) (fun r48 u49 y2 => ?_)
        rw [if_pos f39, p39] at y2
        refine flt77 (q := 4 * i + 1) (by rw [y2, st_eq]) (by omega) (by omega) (fun a' b1 b2 => qB L1 g1 a' (rxr_tr (rxr_tr x39 (fun c k h60 h61 hc => by rw [y2]; unfold st; rw [if_neg (by omega)])) b1) b2)
  · have x39 : RXr a u39 := fun c k h60 h61 hc => by
      rw [e39, st_c h60, y3]; unfold st; rw [if_neg (by omega)]
    have f39 : u39 43 21 = 4 * i := by rw [e3943, y3, st_eq]
    exact goF (4 * i) (by omega) f39 x39 (qA L1)
