/-! A WEEK READ: the class -/
def LT (s : Int → Int) (p : Int) : Prop := 97 ≤ s p ∧ s p < 107
def mvb (A B : Nat → Int) : Nat → Nat → Bool
  | 0, _ => false
  | i + 1, k => mvb A B i k || (decide (k = (A i).toNat) || decide (k = (B i).toNat))
theorem mvb_eq {A B A2 B2 : Nat → Int} {k : Nat} : ∀ {n : Nat}, (∀ j, j < n → A j = A2 j ∧ B j = B2 j) → mvb A B n k = mvb A2 B2 n k := by
  intro n
  induction n with
  | zero => intro _; rfl
  | succ n ih => intro h; rw [mvb, mvb, ih (fun j hj => h j (by omega)), (h n (by omega)).1, (h n (by omega)).2]
def ADq (i : Nat) (a q : Int) (w u : Wd) : Prop := u 12 2 = (i : Int) + 1 ∧ u 12 3 = ior (w 12 3) (ior (ishl 1 a) (ishl 1 q)) ∧ u 13 i = a ∧ u 14 i = q ∧ (∀ j, j < i → u 13 j = w 13 j ∧ u 14 j = w 14 j) ∧ ∀ d, d ≠ 12 → d ≠ 13 → d ≠ 14 → u d = w d
theorem padd_pc {i : Nat} {a q : Int} {w : Wd} (h : w 12 2 = i) (hi : i < 10) : PC (f_P_add a q w) (fun _ u => ADq i a q w u) := by
  unfold f_P_add
  rw [h, show ((i : Int)).toNat = i from rfl]
  refine pc_ite (fun z => by omega) (fun _ => ?_)
  refine pc_gd (fun _ => ?_)
  refine pc_lw (fun u2 e2 => ?_)
  have a2 : u2 12 2 = (i : Int) := by rw [e2, st_c (by decide)]; exact h
  rw [a2, show ((i : Int)).toNat = i from rfl]
  refine pc_gd (fun _ => ?_)
  refine pc_lw (fun u3 e3 => ?_)
  have a3 : u3 12 2 = (i : Int) := by rw [e3, st_c (by decide)]; exact a2
  rw [a3]
  refine pc_lw (fun u4 e4 => ?_)
  unfold f_P_add_39
  refine pc_lw (fun u5 e5 => pc_some ⟨?_, ?_, ?_, ?_, fun j hj => ⟨?_, ?_⟩, fun d d1 d2 d3 => ?_⟩)
  · rw [e5, st_k (by decide), e4, st_eq]; exact w32_id (by omega)
  · rw [e5, st_eq, e4, st_k (by decide), e3, st_c (by decide), e2, st_c (by decide)]
  · rw [e5, st_c (by decide), e4, st_c (by decide), e3, st_c (by decide), e2, st_eq]
  · rw [e5, st_c (by decide), e4, st_c (by decide), e3, st_eq]
  · rw [e5, st_c (by decide), e4, st_c (by decide), e3, st_c (by decide), e2, st_k (by omega)]
  · rw [e5, st_c (by decide), e4, st_c (by decide), e3, st_k (by omega), e2, st_c (by decide)]
  · rw [e5, st_row d1, e4, st_row d1, e3, st_row d3, e2, st_row d2]
theorem r23_pc {N : Int} {f0 : Nat → Int} {k15 : Int → Wd → Option (Int × Wd)} {i : Nat} {w : Wd} {Q : Int → Wd → Prop} (h1 : w 1 1 = N) (h2 : w 2 = f0) (hi : i < 10) (h12 : w 12 2 = i)
    (qA : ¬ LT (sL N f0) (4 * i) → Q (-1 - 4 * i) w)
    (qB : LT (sL N f0) (4 * i) → sL N f0 (4 * i + 1) ≠ 62 → Q (-1 - (4 * i + 1)) w)
    (qC : LT (sL N f0) (4 * i) → sL N f0 (4 * i + 1) = 62 → ¬ LT (sL N f0) (4 * i + 2) → Q (-1 - (4 * i + 2)) w)
    (qD : LT (sL N f0) (4 * i) → sL N f0 (4 * i + 1) = 62 → LT (sL N f0) (4 * i + 2) → ∀ u, ADq i (sL N f0 (4 * i) - 97) (sL N f0 (4 * i + 2) - 97) w u → (sL N f0 (4 * i + 3) = -1 → Q 0 u) ∧ (sL N f0 (4 * i + 3) = 59 → PC (k15 (4 * i + 4) u) Q) ∧ (sL N f0 (4 * i + 3) ≠ -1 → sL N f0 (4 * i + 3) ≠ 59 → Q (-1 - (4 * i + 3)) u)) :
    ∀ n : Nat, PC (f_P_read_23 k15 n (4 * i) (4 * i) w) Q := by
  have sg : ∀ (p : Int) (u : Wd), u 1 = w 1 → u 2 = w 2 → PC (f_T_signAt p 40 u) (fun r u' => u' = u ∧ r = sL N f0 p) := fun p u e1 e2 => by
    have := sl_pc (w := u) p
    rw [e1, e2, h1, h2] at this
    exact this
  have W : ∀ z : Int, -1000 ≤ z → z ≤ 1000 → w32 z = z := fun z a b => w32_id (by omega)
  intro n
  cases n with
  | zero => exact pc_none
  | succ n =>
  rw [f_P_read_23, W (4 * (i : Int) + 3) (by omega) (by omega), W (4 * (i : Int) + 1) (by omega) (by omega)]
  refine pc_ite (fun z => by omega) (fun _ => ?_)
  refine pc_call (sg (4 * i) w rfl rfl) (fun r1 u1 y1 => ?_)
  rw [y1.1, y1.2]
  refine pc_ite (fun z => by omega) (fun _ => ?_)
  have bad : ∀ (p : Int), 0 ≤ p → p ≤ 40 → Q (-1 - p) w → PC (f_P_read_70 p w) Q := fun p a b hq => by
    unfold f_P_read_70
    rw [show w32 (-1 - p) = -1 - p from W _ (by omega) (by omega)]
    exact pc_some hq
  refine pc_ite (fun c => bad _ (by omega) (by omega) (qA (fun h => by have := h.1; omega))) (fun c1 => ?_)
  refine pc_ite (fun c2 => ?_) (fun c => bad _ (by omega) (by omega) (qA (fun h => by have := h.2; omega)))
  have L1 : LT (sL N f0) (4 * i) := ⟨by omega, c2⟩
  unfold f_P_read_74
  refine pc_let (fun x2 e2 => ?_)
  rw [W (4 * (i : Int) + 1) (by omega) (by omega)] at e2
  rw [e2]
  cases n with
  | zero => exact pc_none
  | succ n =>
  rw [f_P_read_23, W (4 * (i : Int) + 3) (by omega) (by omega), W (4 * (i : Int) + 1) (by omega) (by omega)]
  refine pc_ite (fun z => by omega) (fun _ => ?_)
  refine pc_call (sg (4 * i + 1) w rfl rfl) (fun r3 u3 y3 => ?_)
  rw [y3.1, y3.2]
  refine pc_ite (fun _ => ?_) (fun z => absurd rfl z)
  refine pc_ite (fun g1 => ?_) (fun g1 => bad _ (by omega) (by omega) (qB L1 g1))
  unfold f_P_read_74
  refine pc_let (fun x4 e4 => ?_)
  rw [W (4 * (i : Int) + 1 + 1) (by omega) (by omega)] at e4
  rw [e4]
  cases n with
  | zero => exact pc_none
  | succ n =>
  rw [f_P_read_23, W (4 * (i : Int) + 3) (by omega) (by omega), W (4 * (i : Int) + 1) (by omega) (by omega)]
  refine pc_ite (fun z => by omega) (fun _ => ?_)
  rw [show 4 * (i : Int) + 1 + 1 = 4 * i + 2 by omega]
  refine pc_call (sg (4 * i + 2) w rfl rfl) (fun r5 u5 y5 => ?_)
  rw [y5.1, y5.2]
  refine pc_ite (fun z => by omega) (fun _ => ?_)
  refine pc_ite (fun c => bad _ (by omega) (by omega) (qC L1 g1 (fun h => by have := h.1; omega))) (fun c3 => ?_)
  refine pc_ite (fun c4 => ?_) (fun c => bad _ (by omega) (by omega) (qC L1 g1 (fun h => by have := h.2; omega)))
  have L2 : LT (sL N f0) (4 * i + 2) := ⟨by omega, c4⟩
  unfold f_P_read_74
  refine pc_let (fun x6 e6 => ?_)
  rw [W (4 * (i : Int) + 2 + 1) (by omega) (by omega)] at e6
  rw [e6]
  cases n with
  | zero => exact pc_none
  | succ n =>
  rw [f_P_read_23, W (4 * (i : Int) + 3) (by omega) (by omega), W (4 * (i : Int) + 2) (by omega) (by omega)]
  refine pc_ite (fun _ => ?_) (fun z => by omega)
  refine pc_call (sg (4 * i) w rfl rfl) (fun r7 u7 y7 => ?_)
  rw [y7.1, y7.2]
  refine pc_call (sg (4 * i + 2) w rfl rfl) (fun r8 u8 y8 => ?_)
  rw [y8.1, y8.2, W (sL N f0 (4 * i) - 97) (by omega) (by omega), W (sL N f0 (4 * i + 2) - 97) (by omega) (by omega)]
  refine pc_call (padd_pc h12 hi) (fun r9 u9 y9 => ?_)
  obtain ⟨d1, d2, d3⟩ := qD L1 g1 L2 u9 y9
  have o9 := y9.2.2.2.2.2
  refine pc_call (sg (4 * i + 3) u9 (o9 1 (by decide) (by decide) (by decide)) (o9 2 (by decide) (by decide) (by decide))) (fun r10 u10 y10 => ?_)
  rw [y10.1, y10.2]
  refine pc_ite (fun c => pc_some (d1 c)) (fun n1 => ?_)
  refine pc_ite (fun c => ?_) (fun n2 => ?_)
  · refine pc_let (fun x11 e11 => ?_)
    rw [W (4 * (i : Int) + 4) (by omega) (by omega)] at e11
    rw [e11]
    exact d2 c
  · rw [W (-1 - (4 * (i : Int) + 3)) (by omega) (by omega)]
    exact pc_some (d3 n1 n2)
/-! the reference -/
def RW (N : Int) (f1 : Nat → Int) (a : Wd) : Prop := a 43 17 = 52 ∧ a 43 18 = N ∧ a 43 19 = 40 ∧ a 51 = f1
def RXr (x u : Wd) : Prop := ∀ c k, c ≠ 60 → c ≠ 61 → ¬ (c = 43 ∧ (k = 20 ∨ k = 21)) → u c k = x c k
theorem rxr_tr {x u v : Wd} (h : RXr x u) (h2 : RXr u v) : RXr x v := fun c k h60 h61 hc => (h2 c k h60 h61 hc).trans (h c k h60 h61 hc)
theorem rw_fr {N : Int} {f1 : Nat → Int} {x u : Wd} (h : RW N f1 x) (f : RXr x u) : RW N f1 u := by
  refine ⟨?_, ?_, ?_, ?_⟩
  · rw [f 43 17 (by decide) (by decide) (by decide)]; exact h.1
  · rw [f 43 18 (by decide) (by decide) (by decide)]; exact h.2.1
  · rw [f 43 19 (by decide) (by decide) (by decide)]; exact h.2.2.1
  · rw [show u 51 = x 51 from funext fun k => f 51 k (by decide) (by decide) (by omega)]; exact h.2.2.2
theorem herw_pc {N : Int} {f1 : Nat → Int} {a : Wd} (h : RW N f1 a) : PC (f_R_here a) (fun r u => u = a ∧ r = hx N f1 (a 43 20)) := by
  have := hx_pc (n := N) (f0 := f1) (x := a) ⟨h.2.1, h.2.2.1, Or.inl ⟨h.1, h.2.2.2⟩⟩ (a 43 20) (a 43 21)
  rw [xw_self] at this
  exact this
theorem rlw_pc {N p : Int} {f1 : Nat → Int} {a : Wd} (h : RW N f1 a) (hp : a 43 20 = p) (h21 : a 43 21 = -1) (h0 : 0 ≤ p ∧ p ≤ 40) : PC (f_R_readLetter a) (fun r u => (LT (hx N f1) p ∧ r = hx N f1 p - 97 ∧ u = st a 43 20 (p + 1)) ∨ (¬ LT (hx N f1) p ∧ r = 0 ∧ u = st a 43 21 p)) := by
  unfold f_R_readLetter
  rw [fine_e, jc_s, if_pos h21]
  refine pc_ite (fun e => absurd e (by decide)) (fun _ => ?_)
  refine pc_call (herw_pc h) (fun r3 u4 y => ?_)
  rw [y.1, y.2, hp]
  unfold f_R_in
  by_cases c1 : hx N f1 p < 97
  · rw [if_pos c1, jc_s, hp]
    refine pc_ite (fun _ => ?_) (fun e => absurd rfl e)
    refine pc_call (fl_pc a p) (fun r8 u9 y2 => pc_some (Or.inr ⟨fun hL => by have := hL.1; omega, rfl, ?_⟩))
    rw [y2, if_pos h21]
  · rw [if_neg c1]
    by_cases c2 : 106 < hx N f1 p
    · rw [if_pos c2, jc_s, hp]
      refine pc_ite (fun _ => ?_) (fun e => absurd rfl e)
      refine pc_call (fl_pc a p) (fun r8 u9 y2 => pc_some (Or.inr ⟨fun hL => by have := hL.2; omega, rfl, ?_⟩))
      rw [y2, if_pos h21]
    · rw [if_neg c2, jc_s]
      refine pc_ite (fun e => absurd e (by decide)) (fun _ => ?_)
      refine pc_lw (fun u7 e7 => ?_)
      rw [hp, w32_id (show -2147483648 ≤ p + 1 ∧ p + 1 ≤ 2147483647 by omega)] at e7
      have e20 : u7 43 20 = p + 1 := by rw [e7, st_eq]
      have e17 : u7 43 17 = 52 := by rw [e7, st_k (by decide)]; exact h.1
      have e51 : u7 51 = f1 := by rw [e7, st_row (by decide)]; exact h.2.2.2
      have lt := hx_lt (n := N) (f0 := f1) (p := p) (by omega)
      have ev : hx N f1 p = f1 p.toNat := by
        unfold hx
        rw [if_neg (by omega), if_neg (by omega)]
      refine pc_ite (fun _ => ?_) (fun z => absurd e17 z)
      refine pc_gd (fun _ => pc_some (Or.inl ⟨⟨by omega, by omega⟩, ?_, e7⟩))
      rw [e20, e51, show w32 (p + 1 - 1) = p by rw [show p + 1 - 1 = p by omega]; exact w32_id (by omega), ← ev]
      exact w32_id (by omega)
/-- once a fault is found -/
theorem flt77 {q v1 : Int} {a : Wd} {m : Nat} {Q : Int → Wd → Prop} (hq : a 43 21 = q) (hn : q ≠ -1) (hv : 0 ≤ v1 ∧ v1 ≤ 10) (hQ : ∀ a', RXr a a' → a' 43 21 = q → PC (f_R_week_100 (v1 + 1) a') Q) : PC (f_R_week_77 (f_R_week_39 m) v1 a) Q := by
  have nf : ∀ u : Wd, u 43 21 = q → ¬ u 43 21 = -1 := fun u e => by rw [e]; exact hn
  unfold f_R_week_77 f_R_readLetter
  rw [fine_e, if_neg (nf a hq), jc_s, if_pos rfl, jc_s]
  refine pc_gd (fun _ => pc_lw (fun u44 e44 => pc_let (fun x45 e45 => ?_)))
  have e21 : u44 43 21 = q := by rw [e44, st_c (by decide)]; exact hq
  unfold f_R_passes
  rw [fine_e, if_neg (nf u44 e21), jc_s, if_pos rfl, jc_s]
  cases m with
  | zero => exact pc_none
  | succ m =>
    rw [f_R_week_39, if_pos rfl]
    rw [w32_id (show -2147483648 ≤ v1 + 1 ∧ v1 + 1 ≤ 2147483647 by omega)] at e45
    rw [e45]
    exact hQ u44 (fun c k h60 h61 hc => by rw [e44, st_c h61]) e21
theorem r39_pc {N : Int} {f1 : Nat → Int} {i m : Nat} {a : Wd} {Q : Int → Wd → Prop} (h : RW N f1 a) (hi : i ≤ 10) (hp : a 43 20 = 4 * i) (h21 : a 43 21 = -1)
    (qA : ¬ LT (hx N f1) (4 * i) → ∀ a', RXr a a' → a' 43 21 = 4 * i → PC (f_R_week_100 ((i : Int) + 1) a') Q)
    (qB : LT (hx N f1) (4 * i) → hx N f1 (4 * i + 1) ≠ 62 → ∀ a', RXr a a' → a' 43 21 = 4 * i + 1 → PC (f_R_week_100 ((i : Int) + 1) a') Q)
    (qC : LT (hx N f1) (4 * i) → hx N f1 (4 * i + 1) = 62 → ¬ LT (hx N f1) (4 * i + 2) → ∀ a', RXr a a' → a' 43 21 = 4 * i + 2 → PC (f_R_week_100 ((i : Int) + 1) a') Q)
    (qD : LT (hx N f1) (4 * i) → hx N f1 (4 * i + 1) = 62 → LT (hx N f1) (4 * i + 2) → ∀ a', RXr a a' → a' 43 21 = -1 → (∀ j, a' 60 j = if j = i then hx N f1 (4 * i) - 97 else a 60 j) → (∀ j, a' 61 j = if j = i then hx N f1 (4 * i + 2) - 97 else a 61 j) → (hx N f1 (4 * i + 3) = 59 → a' 43 20 = 4 * i + 4 → PC (f_R_week_39 m ((i : Int) + 1) 1 a') Q) ∧ (hx N f1 (4 * i + 3) ≠ 59 → a' 43 20 = 4 * i + 3 → PC (f_R_week_100 ((i : Int) + 1) a') Q)) :
    PC (f_R_week_39 (m + 1) (i : Int) 1 a) Q := by
  rw [f_R_week_39, if_neg (by decide), fine_e, if_pos h21, jc_s, if_neg (by decide)]
  refine pc_call (rlw_pc h hp h21 (by omega)) (fun r37 u38 y => ?_)
  refine pc_gd (fun _ => pc_lw (fun u39 e39 => ?_))
  rw [show ((i : Int)).toNat = i from rfl] at e39
  have eni : ∀ j : Nat, (4 * (i : Int) + j) ≠ -1 := fun j => by omega
  have e3943 : u39 43 = u38 43 := by rw [e39, st_row (by decide)]
  -- a fault stays
  have goF : ∀ (q : Int), 0 ≤ q → u39 43 21 = q → RXr a u39 → (∀ a', RXr a a' → a' 43 21 = q → PC (f_R_week_100 ((i : Int) + 1) a') Q) → PC (jcall (f_R_passes 62 u39) fun r40 u41 => if r40 = 0 then jcall (f_R_fault (u41 43 20) u41) fun r48 u49 => f_R_week_77 (f_R_week_39 m) i u49 else f_R_week_77 (f_R_week_39 m) i u41) Q := fun q h0 hq hx9 hQ => by
    unfold f_R_passes
    rw [fine_e, if_neg (show ¬ u39 43 21 = -1 by omega), jc_s, if_pos rfl, jc_s, if_pos rfl]
    refine pc_call (fl_pc u39 _) (fun r48 u49 y2 => ?_)
    rw [if_neg (show ¬ u39 43 21 = -1 by omega)] at y2
    rw [y2]
    exact flt77 hq (by omega) (by omega) (fun a' b1 b2 => hQ a' (rxr_tr hx9 b1) b2)
  rcases y with ⟨L1, y2, y3⟩ | ⟨L1, y2, y3⟩
  · have x39 : RXr a u39 := fun c k h60 h61 hc => by
      rw [e39, st_c h60, y3]; unfold st; rw [if_neg (by omega)]
    have p39 : u39 43 20 = 4 * i + 1 := by rw [e3943, y3, st_eq]
    have f39 : u39 43 21 = -1 := by rw [e3943, y3, st_k (by decide)]; exact h21
    have h39 := rw_fr h x39
    unfold f_R_passes
    rw [fine_e, if_pos f39, jc_s, if_neg (by decide)]
    refine pc_call (P := fun r u => (hx N f1 (4 * i + 1) = 62 ∧ r = 1 ∧ u = st u39 43 20 (4 * i + 2)) ∨ (hx N f1 (4 * i + 1) ≠ 62 ∧ r = 0 ∧ u = u39)) ?_ (fun r40 u41 z => ?_)
    · refine pc_call (herw_pc h39) (fun r3 u4 y => ?_)
      rw [y.1, y.2, p39]
      refine pc_ite (fun c => ?_) (fun c => pc_some (Or.inr ⟨c, rfl, rfl⟩))
      refine pc_lw (fun u5 e5 => pc_some (Or.inl ⟨c, rfl, ?_⟩))
      rw [e5, w32_id (by omega), show (4 * (i : Int) + 1 + 1) = 4 * i + 2 by omega]
    · rcases z with ⟨g1, z2, z3⟩ | ⟨g1, z2, z3⟩
      · rw [z2]
        refine pc_ite (fun e => absurd e (by decide)) (fun _ => ?_)
        have x41 : RXr a u41 := rxr_tr x39 (fun c k h60 h61 hc => by rw [z3]; unfold st; rw [if_neg (by omega)])
        have p41 : u41 43 20 = 4 * i + 2 := by rw [z3, st_eq]
        have f41 : u41 43 21 = -1 := by rw [z3, st_k (by decide)]; exact f39
        have h41 := rw_fr h x41
        have lt1 := hx_lt (n := N) (f0 := f1) (p := 4 * (i : Int)) (by have := L1.1; omega)
        unfold f_R_week_77
        refine pc_call (rlw_pc (p := 4 * (i : Int) + 2) h41 p41 f41 (by omega)) (fun r42 u43 t => ?_)
        rcases t with ⟨L2, t2, t3⟩ | ⟨L2, t2, t3⟩
        · refine pc_gd (fun _ => pc_lw (fun u44 e44 => pc_let (fun x45 e45 => ?_)))
          rw [show ((i : Int)).toNat = i from rfl] at e44
          rw [w32_id (show -2147483648 ≤ (i : Int) + 1 ∧ (i : Int) + 1 ≤ 2147483647 by omega)] at e45
          have x44 : RXr a u44 := rxr_tr x41 (fun c k h60 h61 hc => by rw [e44, st_c h61, t3]; unfold st; rw [if_neg (by omega)])
          have p44 : u44 43 20 = 4 * i + 3 := by
            rw [e44, st_c (by decide), t3, st_eq]; omega
          have f44 : u44 43 21 = -1 := by rw [e44, st_c (by decide), t3, st_k (by decide)]; exact f41
          have h44 := rw_fr h x44
          have r60 : ∀ j, u44 60 j = if j = i then hx N f1 (4 * i) - 97 else a 60 j := fun j => by
            rw [e44, st_c (by decide), t3, st_c (by decide), z3, st_c (by decide), e39]
            by_cases c : j = i
            · rw [if_pos c, c, st_eq, y2]
            · rw [if_neg c, st_k c, y3, st_c (by decide)]
          have r61 : ∀ j, u44 61 j = if j = i then hx N f1 (4 * i + 2) - 97 else a 61 j := fun j => by
            rw [e44]
            by_cases c : j = i
            · rw [if_pos c, c, st_eq, t2]
            · rw [if_neg c, st_k c, t3, st_c (by decide), z3, st_c (by decide), e39, st_c (by decide), y3, st_c (by decide)]
          unfold f_R_passes
          rw [fine_e, if_pos f44, jc_s, if_neg (by decide)]
          refine pc_call (P := fun r u => (hx N f1 (4 * i + 3) = 59 ∧ r = 1 ∧ u = st u44 43 20 (4 * i + 4)) ∨ (hx N f1 (4 * i + 3) ≠ 59 ∧ r = 0 ∧ u = u44)) ?_ (fun r46 u47 z => ?_)
          · refine pc_call (herw_pc h44) (fun r3 u4 y => ?_)
            rw [y.1, y.2, p44]
            refine pc_ite (fun c => ?_) (fun c => pc_some (Or.inr ⟨c, rfl, rfl⟩))
            refine pc_lw (fun u5 e5 => pc_some (Or.inl ⟨c, rfl, ?_⟩))
            rw [e5, w32_id (by omega), show (4 * (i : Int) + 3 + 1) = 4 * i + 4 by omega]
          · rw [e45]
            rcases z with ⟨g3, s2, s3⟩ | ⟨g3, s2, s3⟩
            · rw [s2]
              refine (qD L1 g1 L2 u47 (rxr_tr x44 (fun c k h60 h61 hc => by rw [s3]; unfold st; rw [if_neg (by omega)])) (by rw [s3, st_k (by decide)]; exact f44) (fun j => by rw [s3, st_c (by decide)]; exact r60 j) (fun j => by rw [s3, st_c (by decide)]; exact r61 j)).1 g3 (by rw [s3, st_eq])
            · rw [s2, s3]
              have := (qD L1 g1 L2 u44 x44 f44 r60 r61).2 g3 p44
              cases m with
              | zero => exact pc_none
              | succ m => rw [f_R_week_39, if_pos rfl]; exact this
        · refine pc_gd (fun _ => pc_lw (fun u44 e44 => pc_let (fun x45 e45 => ?_)))
          rw [w32_id (show -2147483648 ≤ (i : Int) + 1 ∧ (i : Int) + 1 ≤ 2147483647 by omega)] at e45
          have x44 : RXr a u44 := rxr_tr x41 (fun c k h60 h61 hc => by rw [e44, st_c h61, t3]; unfold st; rw [if_neg (by omega)])
          have f44 : u44 43 21 = 4 * i + 2 := by rw [e44, st_c (by decide), t3, st_eq]
          unfold f_R_passes
          rw [fine_e, if_neg (show ¬ u44 43 21 = -1 by omega), jc_s, if_pos rfl, jc_s]
          have := qC L1 g1 L2 u44 x44 f44
          cases m with
          | zero => exact pc_none
          | succ m => rw [f_R_week_39, if_pos rfl, e45]; exact this
      · rw [z2, z3, if_pos rfl]
        refine pc_call (fl_pc u39 _) (fun r48 u49 y2 => ?_)
        rw [if_pos f39, p39] at y2
        refine flt77 (q := 4 * i + 1) (by rw [y2, st_eq]) (by omega) (by omega) (fun a' b1 b2 => qB L1 g1 a' (rxr_tr (rxr_tr x39 (fun c k h60 h61 hc => by rw [y2]; unfold st; rw [if_neg (by omega)])) b1) b2)
  · have x39 : RXr a u39 := fun c k h60 h61 hc => by
      rw [e39, st_c h60, y3]; unfold st; rw [if_neg (by omega)]
    have f39 : u39 43 21 = 4 * i := by rw [e3943, y3, st_eq]
    exact goF (4 * i) (by omega) f39 x39 (qA L1)
/-! A WEEK READ, by both -/
theorem lt_sh {s h : Int → Int} {n p : Int} (hs : SH s h n) (hp : 0 ≤ p) : LT s p ↔ LT h p := by
  have b := (hs p hp).2.1
  constructor
  · intro ⟨h1, h2⟩
    have := (b (s p) (by omega) (by omega)).mp rfl
    exact ⟨by omega, by omega⟩
  · intro ⟨h1, h2⟩
    have := (b (h p) (by omega) (by omega)).mpr rfl
    exact ⟨by omega, by omega⟩
def ARR (i : Nat) (w a : Wd) : Prop := w 12 2 = (i : Int) ∧ B10 (w 12 3) (mvb (a 60) (a 61) i) ∧ ∀ j, j < i → (w 13 j = a 60 j ∧ w 14 j = a 61 j) ∧ (0 ≤ a 60 j ∧ a 60 j ≤ 9) ∧ 0 ≤ a 61 j ∧ a 61 j ≤ 9
def EXr (x u : Wd) : Prop := ∀ d, d ≠ 12 → d ≠ 13 → d ≠ 14 → u d = x d
def WR (x y : Wd) (N r : Int) (u : Wd) (i' : Int) (a' : Wd) : Prop := EXr x u ∧ RXr y a' ∧ ((r = 0 ∧ a' 43 21 = -1 ∧ N ≤ a' 43 20 ∧ ∃ i : Nat, i' = i ∧ i ≤ 10 ∧ ARR i u a') ∨ (r < 0 ∧ 0 ≤ -1 - r ∧ -1 - r ≤ 100 ∧ (a' 43 21 = -1 - r ∨ (a' 43 21 = -1 ∧ a' 43 20 < N ∧ a' 43 20 = -1 - r))))
theorem arr_add {i : Nat} {p q : Int} {w u a a' : Wd} (h : ARR i w a) (hp : 0 ≤ p ∧ p ≤ 9) (hq : 0 ≤ q ∧ q ≤ 9) (hu : ADq i p q w u) (h60 : ∀ j, a' 60 j = if j = i then p else a 60 j) (h61 : ∀ j, a' 61 j = if j = i then q else a 61 j) : ARR (i + 1) u a' := by
  obtain ⟨u1, u2, u3, u4, u5, _⟩ := hu
  obtain ⟨h1, h2, h3⟩ := h
  have o60 : ∀ j, j < i → a' 60 j = a 60 j := fun j hj => by rw [h60, if_neg (by omega)]
  have o61 : ∀ j, j < i → a' 61 j = a 61 j := fun j hj => by rw [h61, if_neg (by omega)]
  have n60 : a' 60 i = p := by rw [h60, if_pos rfl]
  have n61 : a' 61 i = q := by rw [h61, if_pos rfl]
  refine ⟨u1.trans rfl, ?_, fun j hj => ?_⟩
  · rw [u2]
    refine b10_w (b10_or h2 (b10_or (b10_1 hp) (b10_1 hq))) (fun k _ => ?_)
    rw [mvb, n60, n61, mvb_eq (fun j hj => ⟨(o60 j hj).symm, (o61 j hj).symm⟩)]
  · by_cases c : j = i
    · rw [c, n60, n61]
      exact ⟨⟨u3, u4⟩, hp, hq⟩
    · have := h3 j (by omega)
      rw [(u5 j (by omega)).1, (u5 j (by omega)).2, o60 j (by omega), o61 j (by omega)]
      exact this
theorem wk_read {N : Int} {f0 f1 : Nat → Int} (x y : Wd) (hN : 0 ≤ N) (hSH : SH (sL N f0) (hx N f1) N) (hf0 : ∀ k : Nat, (k : Int) < N → 0 ≤ f0 k) (x1 : x 1 1 = N) (x2 : x 2 = f0) (hy : RW N f1 y) : ∀ (n m : Nat) {i : Nat} {w a : Wd}, i ≤ 10 → EXr x w → RXr y a → a 43 20 = 4 * i → a 43 21 = -1 → ARR i w a → PC (f_P_read_15 n (4 * i) w) (fun r u => ∀ Q : Int → Wd → Prop, (∀ i' a', WR x y N r u i' a' → PC (f_R_week_100 i' a') Q) → PC (f_R_week_39 m (i : Int) 1 a) Q) := by
  intro n
  induction n with
  | zero => intros; exact pc_none
  | succ n ih =>
    intro m i w a hi hw ha hp h21 hA
    cases m with
    | zero => exact fun _ _ _ _ _ => pc_none
    | succ m =>
    have hR := rw_fr hy ha
    have ww1 : w 1 = x 1 := hw 1 (by decide) (by decide) (by decide)
    have ww2 : w 2 = x 2 := hw 2 (by decide) (by decide) (by decide)
    rw [f_P_read_15]
    refine pc_ite (fun c => pc_some (fun Q hQ => ?_)) (fun c => ?_)
    · have no : ¬ LT (hx N f1) (4 * i) := fun h => by
        have := hx_lt (n := N) (f0 := f1) (p := 4 * (i : Int)) (by have := h.1; omega)
        omega
      exact r39_pc hR hi hp h21 (fun _ a' b1 b2 => hQ _ a' ⟨hw, rxr_tr ha b1, Or.inr ⟨by decide, by decide, by decide, Or.inl (by rw [b2]; omega)⟩⟩) (fun h => absurd h no) (fun h => absurd h no) (fun h => absurd h no)
    · have e1 := lt_sh hSH (p := 4 * (i : Int)) (by omega)
      have e2 := lt_sh hSH (p := 4 * (i : Int) + 2) (by omega)
      have g1 := (hSH (4 * (i : Int) + 1) (by omega)).2.1 62 (by decide) (by decide)
      have g3 := (hSH (4 * (i : Int) + 3) (by omega)).2.1 59 (by decide) (by decide)
      refine r23_pc (N := N) (f0 := f0) (by rw [ww1]; exact x1) (ww2.trans x2) (by omega) hA.1 (fun z1 Q hQ => ?_) (fun z1 z2 Q hQ => ?_) (fun z1 z2 z3 Q hQ => ?_) (fun z1 z2 z3 u hu => ?_) FU
      · have no : ¬ LT (hx N f1) (4 * i) := fun h => z1 (e1.mpr h)
        exact r39_pc hR hi hp h21 (fun _ a' b1 b2 => hQ _ a' ⟨hw, rxr_tr ha b1, Or.inr ⟨by omega, by omega, by omega, Or.inl (by rw [b2]; omega)⟩⟩) (fun h => absurd h no) (fun h => absurd h no) (fun h => absurd h no)
      · have n62 : hx N f1 (4 * i + 1) ≠ 62 := fun h => z2 (g1.mpr h)
        exact r39_pc hR hi hp h21 (fun h => absurd (e1.mp z1) h) (fun _ _ a' b1 b2 => hQ _ a' ⟨hw, rxr_tr ha b1, Or.inr ⟨by omega, by omega, by omega, Or.inl (by rw [b2]; omega)⟩⟩) (fun _ h => absurd h n62) (fun _ h => absurd h n62)
      · have no : ¬ LT (hx N f1) (4 * i + 2) := fun h => z3 (e2.mpr h)
        exact r39_pc hR hi hp h21 (fun h => absurd (e1.mp z1) h) (fun _ h => absurd (g1.mp z2) h) (fun _ _ _ a' b1 b2 => hQ _ a' ⟨hw, rxr_tr ha b1, Or.inr ⟨by omega, by omega, by omega, Or.inl (by rw [b2]; omega)⟩⟩) (fun _ _ h => absurd h no)
      · have v1 := sh_e hSH (p := 4 * (i : Int)) (by omega) (by have := (e1.mp z1).1; omega)
        have v3 := sh_e hSH (p := 4 * (i : Int) + 2) (by omega) (by have := (e2.mp z3).1; omega)
        have hu' : ADq i (hx N f1 (4 * i) - 97) (hx N f1 (4 * i + 2) - 97) w u := by rw [← v1.1, ← v3.1]; exact hu
        have l1 := e1.mp z1
        have l3 := e2.mp z3
        have hwu : EXr x u := fun d d1 d2 d3 => (hu.2.2.2.2.2 d d1 d2 d3).trans (hw d d1 d2 d3)
        have arr : ∀ {a' : Wd}, (∀ j, a' 60 j = if j = i then hx N f1 (4 * i) - 97 else a 60 j) → (∀ j, a' 61 j = if j = i then hx N f1 (4 * i + 2) - 97 else a 61 j) → ARR (i + 1) u a' := fun b4 b5 => arr_add hA (by have := l1.1; have := l1.2; omega) (by have := l3.1; have := l3.2; omega) hu' b4 b5
        have sl3 : sL N f0 (4 * i + 3) = if 4 * (i : Int) + 3 < N then f0 (4 * (i : Int) + 3).toNat else -1 := by
          unfold sL
          rw [if_neg (by omega)]
          by_cases cn : 4 * (i : Int) + 3 < N
          · rw [if_pos cn, if_pos cn, if_pos (by omega)]
          · rw [if_neg cn, if_neg cn]
        refine ⟨fun y1 Q hQ => ?_, fun y1 => ?_, fun y1 y2 Q hQ => ?_⟩
        · have n59 : hx N f1 (4 * i + 3) ≠ 59 := fun h => by rw [g3.mpr h] at y1; omega
          have nN : N ≤ 4 * (i : Int) + 3 := by
            by_cases cn : 4 * (i : Int) + 3 < N
            · rw [sl3, if_pos cn] at y1
              have := hf0 (4 * (i : Int) + 3).toNat (by omega)
              omega
            · omega
          exact r39_pc hR hi hp h21 (fun h => absurd l1 h) (fun _ h => absurd (g1.mp z2) h) (fun _ _ h => absurd l3 h) (fun _ _ _ a' b1 b2 b4 b5 => ⟨fun h => absurd h n59, fun _ b3 => hQ _ a' ⟨hwu, rxr_tr ha b1, Or.inl ⟨rfl, b2, by rw [b3]; exact nN, i + 1, rfl, by omega, arr b4 b5⟩⟩⟩)
        · intro r u' eL Q hQ
          refine r39_pc hR hi hp h21 (fun h => absurd l1 h) (fun _ h => absurd (g1.mp z2) h) (fun _ _ h => absurd l3 h) (fun _ _ _ a' b1 b2 b4 b5 => ⟨fun _ b3 => ?_, fun h => absurd (g3.mp y1) h⟩)
          have := ih m (i := i + 1) (w := u) (a := a') (by omega) hwu (rxr_tr ha b1) (by rw [b3]; omega) b2 (arr b4 b5)
          rw [show 4 * ((i + 1 : Nat) : Int) = 4 * i + 4 by omega] at this
          exact this r u' eL Q hQ
        · have n59 : hx N f1 (4 * i + 3) ≠ 59 := fun h => y2 (g3.mpr h)
          have nN : 4 * (i : Int) + 3 < N := by
            by_cases cn : 4 * (i : Int) + 3 < N
            · exact cn
            · rw [sl3, if_neg cn] at y1
              exact absurd rfl y1
          exact r39_pc hR hi hp h21 (fun h => absurd l1 h) (fun _ h => absurd (g1.mp z2) h) (fun _ _ h => absurd l3 h) (fun _ _ _ a' b1 b2 b4 b5 => ⟨fun h => absurd h n59, fun _ b3 => hQ _ a' ⟨hwu, rxr_tr ha b1, Or.inr ⟨by omega, by omega, by omega, Or.inr ⟨b2, by rw [b3]; exact nN, by rw [b3]; omega⟩⟩⟩⟩)
/-! A WEEK TOLD: its pairs, one after another -/
def PRE (P : Int) (A B bg : Nat → Int) (i : Nat) : Prop := (∀ j, j < i → (0 ≤ A j ∧ A j < P) ∧ (0 ≤ B j ∧ B j < P) ∧ bg (A j).toNat = B j) ∧ (∀ a : Nat, (a : Int) < P → bg a ≠ -1 → ∃ j, j < i ∧ A j = (a : Int)) ∧ ∀ j l, j < i → l < i → A j = A l → j = l
theorem pre_put {P : Int} {A B bg : Nat → Int} {i : Nat} (h : PRE P A B bg i) (ha : 0 ≤ A i ∧ A i < P) (hb : 0 ≤ B i ∧ B i < P) (hn : bg (A i).toNat = -1) : PRE P A B (put bg (A i).toNat (B i)) (i + 1) := by
  obtain ⟨h1, h2, h3⟩ := h
  have ne : ∀ j, j < i → A j ≠ A i := fun j hj e => by
    have := (h1 j hj).2.2
    rw [e, hn] at this
    have := (h1 j hj).2.1
    omega
  refine ⟨fun j hj => ?_, fun a haP hv => ?_, fun j l hj hl e => ?_⟩
  · by_cases c : j = i
    · rw [c]; exact ⟨ha, hb, put_i _ _ _⟩
    · have := h1 j (by omega)
      refine ⟨this.1, this.2.1, ?_⟩
      rw [put_n (fun e => ne j (by omega) (by omega))]
      exact this.2.2
  · by_cases c : a = (A i).toNat
    · exact ⟨i, by omega, by omega⟩
    · rw [put_n c] at hv
      obtain ⟨j, hj, e⟩ := h2 a haP hv
      exact ⟨j, by omega, e⟩
  · by_cases c1 : j = i
    · by_cases c2 : l = i
      · omega
      · rw [c1] at e; exact absurd e.symm (ne l (by omega))
    · by_cases c2 : l = i
      · rw [c2] at e; exact absurd e (ne j (by omega))
      · exact h3 j l (by omega) (by omega) e
def FR58 (y a : Wd) : Prop := ∀ c, c ≠ 58 → a c = y c
theorem wk_chk {P : Int} {s h kn : Nat → Int} {I : Nat} {w y : Wd} (hI : I ≤ 10) (hP : 0 ≤ P ∧ P ≤ 10) (e0 : y 43 0 = P) (e47 : y 47 = s) (e46 : y 46 = h) (e45 : y 45 = kn) (hw : WH (w 5 4) s P) (h3 : w 5 3 = P) (hh : B10 (w 5 5) (hB P h)) (h7 : ∀ j : Nat, (j : Int) < P → w 7 j = kn j) (hk : ∀ j : Nat, (j : Int) < P → 0 ≤ kn j ∧ kn j ≤ 1023) (h12 : w 12 2 = I) (hA : ∀ j, j < I → (w 13 j = y 60 j ∧ w 14 j = y 61 j) ∧ (0 ≤ y 60 j ∧ y 60 j ≤ 9) ∧ 0 ≤ y 61 j ∧ y 61 j ≤ 9) : ∀ (n m : Nat) {i : Nat} {v2 : Int} {a : Wd}, i ≤ I → FR58 y a → GWK P s h kn (a 58) → B10 v2 (mvb (y 60) (y 61) i) → (∀ k, k < 10 → mvb (y 60) (y 61) i k = mvs P (a 58) k) → PRE P (y 60) (y 61) (a 58) i → PC (f_P_firstWrongPair_4 n v2 i w) (fun r u => u = w ∧ (r = -1 ∨ (0 ≤ r ∧ r ≤ 10)) ∧ ∀ Q : Int → Wd → Prop, ((r = -1 → ∀ a', FR58 y a' → GWK P s h kn (a' 58) → (∀ k, k < 10 → mvb (y 60) (y 61) I k = mvs P (a' 58) k) → PRE P (y 60) (y 61) (a' 58) I → PC (if (I : Int) ≤ 0 then f_R_week_305 a' else jcall (f_R_guestsThen a') fun r11 u12 => if r11 ≤ (u12 43 11) then f_R_week_305 u12 else some ((-200), u12)) Q) → (0 ≤ r → ∀ a', FR58 y a' → Q (w32 (-100 - r)) a') → PC (f_R_week_152 m (I : Int) (i : Int) a) Q)) := by
  intro n
  induction n with
  | zero => intros; exact pc_none
  | succ n ih =>
    intro m i v2 a hi hy hg hB2 hmv hpre
    have o : ∀ c k, c ≠ 58 → a c k = y c k := fun c k hc => by rw [hy c hc]
    rw [f_P_firstWrongPair_4, h12]
    refine pc_ite (fun z => pc_some ⟨rfl, Or.inl rfl, fun Q q1 q2 => ?_⟩) (fun z => ?_)
    · have ei : i = I := by omega
      cases m with
      | zero => exact pc_none
      | succ m =>
        rw [f_R_week_152]
        refine pc_ite (fun _ => ?_) (fun c => absurd (by omega) c)
        exact q1 rfl a hy hg (by rw [← ei]; exact hmv) (by rw [← ei]; exact hpre)
    · have hiI : i < I := by omega
      obtain ⟨⟨a13, a14⟩, a60, a61⟩ := hA i hiI
      refine pc_call (eg_e hw) (fun r1 u2 q => ?_)
      rw [q.1, show ((i : Int)).toNat = i from rfl, a13]
      refine pc_gd (fun _ => ?_)
      have hA1 : B10 (iand r1 (ixor v2 (-1))) (fun k => gs P s k && !mvs P (a 58) k) := b10_andn q.2 (fun k hk2 => (hB2.2 k hk2).trans (hmv k hk2))
      rw [has_10 w hA1 (by omega), jc_s]
      -- the reference at this pair
      have ref : ∀ {Q : Int → Wd → Prop}, (¬ ((y 60 i < P ∧ gst (s (y 60 i).toNat) = true ∧ a 58 (y 60 i).toNat = -1) ∧ okc P s h kn (a 58) (y 60 i).toNat (y 61 i).toNat = true) → Q (w32 (-100 - i)) a) → (y 60 i < P → gst (s (y 60 i).toNat) = true → a 58 (y 60 i).toNat = -1 → okc P s h kn (a 58) (y 60 i).toNat (y 61 i).toNat = true → ∀ l, m = l + 1 → PC (f_R_week_152 l (I : Int) ((i : Int) + 1) (st a 58 (y 60 i).toNat (y 61 i))) Q) → PC (f_R_week_152 m (I : Int) (i : Int) a) Q := by
        intro Q qF qT
        cases m with
        | zero => exact pc_none
        | succ l =>
        rw [f_R_week_152]
        refine pc_ite (fun c => by omega) (fun _ => ?_)
        rw [show ((i : Int)).toNat = i from rfl, o 60 i (by decide), o 61 i (by decide)]
        refine pc_gd (fun _ => pc_let (fun x13 e13 => pc_gd (fun _ => pc_let (fun x14 e14 => ?_))))
        rw [e13, e14]
        have eP : a 43 0 = P := (o 43 0 (by decide)).trans e0
        have r47 : a 47 = s := (hy 47 (by decide)).trans e47
        have r45 : a 45 = kn := (hy 45 (by decide)).trans e45
        have r46 : a 46 = h := (hy 46 (by decide)).trans e46
        have f258 : ¬ ((y 60 i < P ∧ gst (s (y 60 i).toNat) = true ∧ a 58 (y 60 i).toNat = -1) ∧ okc P s h kn (a 58) (y 60 i).toNat (y 61 i).toNat = true) → PC (f_R_week_258 (f_R_week_152 l) I i (y 60 i) (y 61 i) a) Q := fun hn => by
          unfold f_R_week_258 f_R_week_259
          exact pc_ite (fun _ => pc_some (qF hn)) (fun e => absurd rfl e)
        refine pc_call (io_pc (y 60 i) a (by omega)) (fun r15 u16 t => ?_)
        rw [t.1, t.2, eP]
        unfold hd
        by_cases c1 : 0 ≤ y 60 i ∧ y 60 i < P
        · rw [if_pos c1]
          refine pc_ite (fun e => absurd e (by decide)) (fun _ => pc_gd (fun _ => ?_))
          rw [isG_e, jc_s, r47]
          cases c2 : gst (s (y 60 i).toNat) with
          | false =>
            refine pc_ite (fun _ => f258 (fun hn => by rw [c2] at hn; cases hn.1.2.1)) (fun e => absurd rfl e)
          | true =>
            refine pc_ite (fun e => absurd e (by decide)) (fun _ => pc_gd (fun _ => ?_))
            refine pc_ite (fun c3 => ?_) (fun c3 => f258 (fun hn => c3 hn.1.2.2))
            refine pc_call (io_pc (y 61 i) a (by omega)) (fun r21 u22 t2 => ?_)
            rw [t2.1, t2.2, eP]
            unfold hd
            by_cases c4 : 0 ≤ y 61 i ∧ y 61 i < P
            · rw [if_pos c4]
              refine pc_ite (fun e => absurd e (by decide)) (fun _ => ?_)
              refine pc_call (rfree_e (w := a) (by omega)) (fun r23 u24 t3 => ?_)
              have t3b := t3.2
              rw [eP, r47, r46] at t3b
              rw [t3.1, hasR_10 a t3b (by omega), jc_s]
              have ok_e : okc P s h kn (a 58) (y 60 i).toNat (y 61 i).toNat = ((fre P s h (y 61 i).toNat && bt (kn (y 60 i).toNat) (y 61 i).toNat) && !brn (a 58) P.toNat (y 61 i).toNat) := rfl
              cases c5 : fre P s h (y 61 i).toNat with
              | false =>
                refine pc_ite (fun _ => f258 (fun hn => ?_)) (fun e => absurd rfl e)
                rw [ok_e, c5] at hn
                cases hn.2
              | true =>
                refine pc_ite (fun e => absurd e (by decide)) (fun _ => pc_gd (fun _ => ?_))
                rw [r45, hasR_10 a (b10_self (hk (y 60 i).toNat (by omega))) (by omega), jc_s]
                cases c6 : bt (kn (y 60 i).toNat) (y 61 i).toNat with
                | false =>
                  refine pc_ite (fun _ => f258 (fun hn => ?_)) (fun e => absurd rfl e)
                  rw [ok_e, c5, c6] at hn
                  cases hn.2
                | true =>
                  refine pc_ite (fun e => absurd e (by decide)) (fun _ => ?_)
                  refine pc_call (bn_pc (w := a) (by omega) (fun k hk2 => gwk_r hg hP.2 k (by omega))) (fun r29 u30 t4 => ?_)
                  have t4b := t4.2
                  rw [eP] at t4b
                  rw [t4.1, hasR_10 a t4b (by omega), jc_s]
                  cases c7 : brn (a 58) P.toNat (y 61 i).toNat with
                  | true =>
                    refine pc_ite (fun e => absurd e (by decide)) (fun _ => f258 (fun hn => ?_))
                    rw [ok_e, c5, c6, c7] at hn
                    cases hn.2
                  | false =>
                    refine pc_ite (fun _ => ?_) (fun e => absurd rfl e)
                    unfold f_R_week_259
                    refine pc_ite (fun e => absurd e (by decide)) (fun _ => pc_gd (fun _ => pc_lw (fun u17 e17 => pc_let (fun x18 e18 => ?_))))
                    rw [w32_id (show -2147483648 ≤ (i : Int) + 1 ∧ (i : Int) + 1 ≤ 2147483647 by omega)] at e18
                    rw [e18, e17]
                    exact qT c1.2 c2 c3 (by rw [ok_e, c5, c6, c7]; rfl) l rfl
            · rw [if_neg c4]
              refine pc_ite (fun _ => f258 (fun hn => ?_)) (fun e => absurd rfl e)
              have := hn.2
              unfold okc at this
              rw [Bool.and_eq_true, Bool.and_eq_true] at this
              have := (fre_sr this.1.1).1
              omega
        · rw [if_neg c1]
          exact pc_ite (fun _ => f258 (fun hn => c1 ⟨a60.1, hn.1.1⟩)) (fun e => absurd rfl e)
      -- the class finds it wrong
      have wrong : ¬ ((y 60 i < P ∧ gst (s (y 60 i).toNat) = true ∧ a 58 (y 60 i).toNat = -1) ∧ okc P s h kn (a 58) (y 60 i).toNat (y 61 i).toNat = true) → ∀ Q : Int → Wd → Prop, (((i : Int) = -1 → ∀ a', FR58 y a' → GWK P s h kn (a' 58) → (∀ k, k < 10 → mvb (y 60) (y 61) I k = mvs P (a' 58) k) → PRE P (y 60) (y 61) (a' 58) I → PC (if (I : Int) ≤ 0 then f_R_week_305 a' else jcall (f_R_guestsThen a') fun r11 u12 => if r11 ≤ (u12 43 11) then f_R_week_305 u12 else some ((-200), u12)) Q) → (0 ≤ (i : Int) → ∀ a', FR58 y a' → Q (w32 (-100 - i)) a') → PC (f_R_week_152 m (I : Int) (i : Int) a) Q) := fun hn Q _ q2 => ref (fun _ => q2 (by omega) a hy) (fun b1 b2 b3 b4 => absurd ⟨⟨b1, b2, b3⟩, b4⟩ hn)
      have gse : gs P s (y 60 i).toNat = (decide (y 60 i < P) && gst (s (y 60 i).toNat)) := by
        unfold gs inP
        rw [show (((y 60 i).toNat : Nat) : Int) = y 60 i by omega]
      cases hb : (gs P s (y 60 i).toNat && !mvs P (a 58) (y 60 i).toNat) with
      | false =>
        refine pc_ite (fun _ => ?_) (fun c => absurd rfl c)
        unfold f_P_firstWrongPair_48
        refine pc_call (ef_e hw hP h3 hh) (fun r5 u6 q5 => ?_)
        rw [q5.1, show ((i : Int)).toNat = i from rfl, a14]
        refine pc_gd (fun _ => ?_)
        have bz : B10 (iand (iand 0 r5) (ixor v2 (-1))) (fun _ => false) := b10_w (b10_andn (b10_and b10_0 q5.2.2) hB2.2) (fun k _ => by simp)
        rw [has_10 w bz (by omega), jc_s]
        refine pc_ite (fun _ => pc_some ⟨rfl, Or.inr ⟨by omega, by omega⟩, wrong (fun hn => ?_)⟩) (fun c => absurd rfl c)
        obtain ⟨⟨b1, b2, b3⟩, b4⟩ := hn
        rw [gse, decide_eq_true b1, b2] at hb
        have hm : mvs P (a 58) (y 60 i).toNat = true := by
          cases cm : mvs P (a 58) (y 60 i).toNat with
          | true => rfl
          | false => rw [cm] at hb; cases hb
        unfold mvs at hm
        rw [Bool.or_eq_true] at hm
        rcases hm with hm | hm
        · unfold bng at hm
          rw [b3] at hm
          rw [Bool.and_eq_true] at hm
          cases hm.2
        · have := (brn_sr hg hm).2.1
          rw [this] at b2
          cases b2
      | true =>
        refine pc_ite (fun c => absurd c (by decide)) (fun _ => pc_gd (fun _ => ?_))
        rw [Bool.and_eq_true, gse, Bool.and_eq_true, Bool.not_eq_true'] at hb
        obtain ⟨⟨hb1, hb2⟩, hb3⟩ := hb
        have b1 : y 60 i < P := of_decide_eq_true hb1
        have b3 : a 58 (y 60 i).toNat = -1 := by
          unfold mvs at hb3
          rw [Bool.or_eq_false_iff] at hb3
          have := hb3.1
          unfold bng at this
          rw [show inP P (y 60 i).toNat = true from decide_eq_true (by omega)] at this
          cases cb : (a 58 (y 60 i).toNat == -1) with
          | true => exact beq_iff_eq.mp cb
          | false => rw [cb] at this; cases this
        rw [a13]
        refine pc_call (kn1_e (w := w) (i := y 60 i) (by omega) (by omega) (fun j hj => by rw [h7 j (by omega)]; exact hk j (by omega))) (fun r11 u12 q11 => ?_)
        rw [q11.1, q11.2, h7 (y 60 i).toNat (by omega)]
        unfold f_P_firstWrongPair_48
        refine pc_call (ef_e hw hP h3 hh) (fun r5 u6 q5 => ?_)
        rw [q5.1, show ((i : Int)).toNat = i from rfl, a14]
        refine pc_gd (fun _ => ?_)
        have bS := okc_b10 (v := 0) (i := (y 60 i).toNat) (b10_self (hk (y 60 i).toNat (by omega))) q5.2 (b10_w hB2 hmv) hg
        rw [has_10 w bS (by omega), jc_s]
        cases hc : okc P s h kn (a 58) (y 60 i).toNat (y 61 i).toNat with
        | false =>
          refine pc_ite (fun _ => pc_some ⟨rfl, Or.inr ⟨by omega, by omega⟩, wrong (fun hn => by rw [hc] at hn; cases hn.2)⟩) (fun c => absurd rfl c)
        | true =>
          refine pc_ite (fun c => absurd c (by decide)) (fun _ => pc_gd (fun _ => pc_gd (fun _ => pc_let (fun x9 e9 => pc_let (fun x10 e10 => ?_)))))
          rw [w32_id (show -2147483648 ≤ (i : Int) + 1 ∧ (i : Int) + 1 ≤ 2147483647 by omega)] at e10
          rw [a13, a14] at e9
          rw [e10]
          have q61 : 0 ≤ y 61 i ∧ y 61 i < P := by
            have hc2 := hc
            unfold okc at hc2
            rw [Bool.and_eq_true, Bool.and_eq_true] at hc2
            have := (fre_sr hc2.1.1).1
            omega
          have r58 : st a 58 (y 60 i).toNat (y 61 i) 58 = put (a 58) (y 60 i).toNat (y 61 i) := funext fun k => by
            by_cases ck : k = (y 60 i).toNat
            · rw [ck, st_eq, put_i]
            · rw [st_k ck, put_n ck]
          have bx : B10 x9 (mvb (y 60) (y 61) (i + 1)) := by
            rw [e9]
            exact b10_w (b10_or hB2 (b10_or (b10_1 a60) (b10_1 a61))) (fun k _ => rfl)
          intro r u eL
          have nxt := fun l => ih l (i := i + 1) (v2 := x9) (a := st a 58 (y 60 i).toNat (y 61 i)) (by omega) (fun c hc2 => by rw [st_row hc2]; exact hy c hc2) (by rw [r58]; exact gwk_put hg (by omega) b3 hb2 q61 hc) bx (fun k hk2 => by rw [r58, mvb, mvs_put (by omega) q61.1 b3, hmv k hk2]) (by rw [r58]; exact pre_put hpre ⟨a60.1, b1⟩ q61 b3) r u (by rw [show ((i + 1 : Nat) : Int) = (i : Int) + 1 from rfl]; exact eL)
          refine ⟨(nxt 0).1, (nxt 0).2.1, fun Q q1 q2 => ref (fun hn => absurd ⟨⟨b1, hb2, b3⟩, hc⟩ hn) (fun _ _ _ _ l _ => ?_)⟩
          exact (nxt l).2.2 Q q1 q2
/-! A WEEK TOLD: both answer alike -/
def wcc (c k : Nat) : Bool := !(c == 1 || c == 12 || c == 13 || c == 14 || c == 58 || c == 60 || c == 61 || (c == 43 && (k == 13 || (Nat.ble 16 k && Nat.ble k 21))))
def wcr (c : Nat) : Bool := !(c == 1 || c == 12 || c == 13 || c == 14 || c == 58 || c == 60 || c == 61 || c == 43)
theorem wcc_t {c k : Nat} (h : wcc c k = true) : (c ≠ 1 ∧ c ≠ 12 ∧ c ≠ 13 ∧ c ≠ 14) ∧ c ≠ 58 ∧ c ≠ 60 ∧ c ≠ 61 ∧ ¬ (c = 43 ∧ (k = 13 ∨ (16 ≤ k ∧ k ≤ 21))) := by
  unfold wcc at h
  simp only [Bool.not_eq_true', Bool.or_eq_false_iff, Bool.and_eq_false_iff, beq_eq_false_iff_ne] at h
  obtain ⟨⟨⟨⟨⟨⟨⟨h1, h2⟩, h3⟩, h4⟩, h5⟩, h6⟩, h7⟩, h8⟩ := h
  refine ⟨⟨h1, h2, h3, h4⟩, h5, h6, h7, fun ⟨e, hk⟩ => ?_⟩
  rcases h8 with e2 | e2
  · exact e2 e
  · rcases hk with hk | hk
    · exact e2.1 hk
    · rcases e2.2 with e3 | e3
      · rw [Nat.ble_eq_true_of_le hk.1] at e3; cases e3
      · rw [Nat.ble_eq_true_of_le hk.2] at e3; cases e3
theorem wcr_t {c : Nat} (h : wcr c = true) (k : Nat) : wcc c k = true := by
  unfold wcr at h
  unfold wcc
  simp only [Bool.not_eq_true', Bool.or_eq_false_iff, beq_eq_false_iff_ne] at h
  obtain ⟨⟨⟨⟨⟨⟨⟨h1, h2⟩, h3⟩, h4⟩, h5⟩, h6⟩, h7⟩, h8⟩ := h
  simp only [Bool.not_eq_true', Bool.or_eq_false_iff, Bool.and_eq_false_iff, beq_eq_false_iff_ne]
  exact ⟨⟨⟨⟨⟨⟨⟨h1, h2⟩, h3⟩, h4⟩, h5⟩, h6⟩, h7⟩, Or.inl h8⟩
theorem er_week0 {a w a' u : Wd} (h : ER a w) (hE : ∀ c, c ≠ 1 → c ≠ 12 → c ≠ 13 → c ≠ 14 → u c = w c) (h1 : u 1 1 = 0) (hR : ∀ c k, c ≠ 58 → c ≠ 60 → c ≠ 61 → ¬ (c = 43 ∧ (k = 13 ∨ (16 ≤ k ∧ k ≤ 21))) → a' c k = a c k) (h13 : a' 43 13 = 0) : ER a' u := by
  have hc : ∀ c k, wcc c k = true → mx u a' c k = mx w a c k := fun c k hk => by
    have := wcc_t hk
    unfold mx
    by_cases z : c < 43
    · rw [if_pos z, if_pos z, hE c this.1.1 this.1.2.1 this.1.2.2.1 this.1.2.2.2]
    · rw [if_neg z, if_neg z, hR c k this.2.1 this.2.2.1 this.2.2.2.1 this.2.2.2.2]
  have hr : ∀ c, wcr c = true → mx u a' c = mx w a c := fun c hk => funext fun k => hc c k (wcr_t hk k)
  have hco : CO (mx u a') := ct_fr h.1.1 (fr_of wcc hc wcr hr (by decide) (by decide)) (tx_0 h1 h13)
  exact ⟨fc_fr2 h.1 hco (fr_of wcc hc wcr hr (by decide) (by decide)), ru_fr h.2.1 (fr_of wcc hc wcr hr (by decide) (by decide)), cb_fr h.2.2 (fr_of wcc hc wcr hr (by decide) (by decide))⟩
/-- where the reference's reading begins -/
def YP (N : Int) (b y : Wd) : Prop := RW N (b 51) y ∧ y 43 20 = 0 ∧ y 43 21 = -1 ∧ y 43 13 = 0 ∧ ∀ c k, ¬ (c = 43 ∧ (k = 13 ∨ (16 ≤ k ∧ k ≤ 21))) → y c k = b c k
theorem wkR {b : Wd} {Q : Int → Wd → Prop} (hQ : ∀ y, YP (b 43 13) b y → PC (if (y 43 18) ≤ 0 then f_R_week_38 0 0 y else f_R_week_38 0 1 y) Q) : PC (f_R_week b) Q := by
  unfold f_R_week
  refine pc_lw (fun y1 e1 => ?_)
  have y13 : y1 43 13 = b 43 13 := by rw [e1, st_k (by decide)]
  rw [y13]
  unfold f_R_begin1_43_51
  have hbg : PC (jlw (st y1 43 17 52) fun u1 => jlw (st u1 43 18 (b 43 13)) fun u2 => jlw (st u2 43 19 40) fun u3 => jlw (st u3 43 20 0) fun u4 => jlw (st u4 43 21 (-1)) fun u5 => some ((0 : Int), u5)) (fun _ u => u 43 17 = 52 ∧ u 43 18 = b 43 13 ∧ u 43 19 = 40 ∧ u 43 20 = 0 ∧ u 43 21 = -1 ∧ ∀ c k, ¬ (c = 43 ∧ 16 ≤ k ∧ k ≤ 21) → u c k = b c k) := by
    refine pc_lw (fun x1 z1 => ?_)
    refine pc_lw (fun x3 z3 => ?_)
    refine pc_lw (fun x4 z4 => ?_)
    refine pc_lw (fun x5 z5 => ?_)
    refine pc_lw (fun x6 z6 => pc_some ⟨?_, ?_, ?_, ?_, ?_, fun c k hc => ?_⟩)
    · rw [z6, st_k (by decide), z5, st_k (by decide), z4, st_k (by decide), z3, st_k (by decide), z1, st_eq]
    · rw [z6, st_k (by decide), z5, st_k (by decide), z4, st_k (by decide), z3, st_eq]
    · rw [z6, st_k (by decide), z5, st_k (by decide), z4, st_eq]
    · rw [z6, st_k (by decide), z5, st_eq]
    · rw [z6, st_eq]
    · rw [z6]; unfold st; rw [if_neg (by omega), z5]; unfold st; rw [if_neg (by omega), z4]; unfold st; rw [if_neg (by omega), z3]; unfold st; rw [if_neg (by omega), z1]; unfold st; rw [if_neg (by omega), e1]; unfold st; rw [if_neg (by omega)]
  refine pc_call hbg (fun r3 u2 q => ?_)
  obtain ⟨q17, q18, q19, q20, q21, qo⟩ := q
  refine pc_lw (fun y ey => ?_)
  refine hQ y ⟨⟨?_, ?_, ?_, ?_⟩, ?_, ?_, ?_, fun c k hc => ?_⟩
  · rw [ey, st_k (by decide)]; exact q17
  · rw [ey, st_k (by decide)]; exact q18
  · rw [ey, st_k (by decide)]; exact q19
  · rw [ey, st_row (by decide)]; exact funext fun k => qo 51 k (by omega)
  · rw [ey, st_k (by decide)]; exact q20
  · rw [ey, st_k (by decide)]; exact q21
  · rw [ey, st_eq]
  · rw [ey]; unfold st; rw [if_neg (by omega)]; exact qo c k (by omega)
theorem rd_2 {N : Int} {w b : Wd} (hN : 0 ≤ N) (h1 : w 1 1 = N) (h13 : b 43 13 = N) (hSH : SH (sL N (w 2)) (hx N (b 51)) N) (hf0 : ∀ k : Nat, (k : Int) < N → 0 ≤ w 2 k) : PC (f_P_read w) (fun r u => ∀ y, YP N b y → ∀ Q : Int → Wd → Prop, (∀ i' a', WR w y N r u i' a' → PC (f_R_week_100 i' a') Q) → PC (if (y 43 18) ≤ 0 then f_R_week_38 0 0 y else f_R_week_38 0 1 y) Q) := by
  unfold f_P_read f_P_clear
  refine pc_call (P := fun _ u => u 12 2 = 0 ∧ u 12 3 = 0 ∧ ∀ d, d ≠ 12 → u d = w d) ?_ (fun r1 x q => ?_)
  · refine pc_lw (fun u1 e1 => ?_)
    refine pc_lw (fun u2 e2 => pc_some ⟨?_, ?_, fun d hd => ?_⟩)
    · rw [e2, st_k (by decide), e1, st_eq]
    · rw [e2, st_eq]
    · rw [e2, st_row hd, e1, st_row hd]
  obtain ⟨x2, x3, xo⟩ := q
  have hxx : EXr w x := fun d d1 _ _ => xo d d1
  have arr0 : ∀ y, ARR 0 x y := fun y => ⟨x2, by rw [x3]; exact b10_0, fun j hj => by omega⟩
  rw [xo 1 (by decide), h1]
  refine pc_ite (fun z => pc_some (fun y hy Q hQ => ?_)) (fun z => ?_)
  · have e18 : y 43 18 = N := hy.1.2.1
    refine pc_ite (fun _ => ?_) (fun c => absurd (by omega) c)
    have hh := hQ 0 y ⟨hxx, fun _ _ _ _ _ => rfl, Or.inl ⟨rfl, hy.2.2.1, by rw [hy.2.1]; omega, 0, rfl, by decide, arr0 y⟩⟩
    unfold f_R_week_38
    have any : ∀ m : Nat, PC (f_R_week_39 m 0 0 y) Q := fun m => by
      cases m with
      | zero => exact pc_none
      | succ m => rw [f_R_week_39, if_pos rfl]; exact hh
    exact any FU
  · intro r u eL y hy Q hQ
    have e18 : y 43 18 = N := hy.1.2.1
    refine pc_ite (fun c => absurd c (by omega)) (fun _ => ?_)
    have := wk_read (N := N) (f0 := w 2) (f1 := b 51) x y hN hSH hf0 (by rw [xo 1 (by decide)]; exact h1) (xo 2 (by decide)) hy.1 FU FU (i := 0) (w := x) (a := y) (by decide) (fun _ _ _ _ => rfl) (fun _ _ _ _ _ => rfl) hy.2.1 hy.2.2.1 (arr0 y) r u eL Q
    unfold f_R_week_38
    refine this (fun i' a' hW => hQ i' a' ⟨fun d d1 d2 d3 => (hW.1 d d1 d2 d3).trans (hxx d d1 d2 d3), hW.2⟩)
theorem k_week {w : Wd} (h : LU w) : OK (f_E_week w) (fun r1 u1 => OK (f_R_week u1) (fun r2 u2 => LU u2 ∧ r1 = r2)) := by
  obtain ⟨r1, u1, eE, g1, s1, _⟩ := e_E_week h.1.1
  refine ⟨r1, u1, eE, ?_⟩
  obtain ⟨r2, u2, eR, g2, s2, _, _⟩ := e_R_week s1
  refine ⟨r2, u2, eR, ?_⟩
  have h1 := lu_er h (g_hi g1 (by decide))
  have a11 : (0 : Int) ≤ w 1 1 ∧ w 1 1 ≤ 80 := h.1.1.1.1 1 1
  have a2 : ∀ k, (0 : Int) ≤ w 2 k ∧ w 2 k ≤ 65535 := fun k => h.1.1.1.1 2 k
  have hTX : TX (mx w u1) := h1.1.1.1
  have tN : w 1 1 = u1 43 13 := hTX.1
  have tK : ∀ k : Nat, (k : Int) < u1 43 13 → w 2 k ≤ 255 ∧ u1 51 k = (if w 2 k ≤ 127 then w 2 k else w 2 k - 256) := hTX.2
  have hSH : SH (sL (u1 43 13) (w 2)) (hx (u1 43 13) (u1 51)) (u1 43 13) := sh_tx (fun k hk => ⟨(a2 k).1, (tK k hk).1⟩) (fun k hk => (tK k hk).2)
  have key : PC (f_E_week w) (fun r u => PC (f_R_week u1) (fun r' a' => r = r' ∧ ER a' u)) := by
    unfold f_E_week
    refine pc_call (rd_2 (w := w) (b := u1) (by omega) tN rfl hSH (fun k _ => (a2 k).1)) (fun q1 q2 hRd => ?_)
    unfold f_T_clear
    refine pc_call (P := fun _ u => u = st q2 1 1 0) (pc_lw (fun u1 e1 => pc_some e1)) (fun q3 q4 e4 => ?_)
    -- what stays, in whichever way it goes
    have stay : ∀ {y a'' : Wd}, YP (u1 43 13) u1 y → EXr w q2 → (∀ c k, c ≠ 58 → c ≠ 60 → c ≠ 61 → ¬ (c = 43 ∧ (k = 20 ∨ k = 21)) → a'' c k = y c k) → ER a'' q4 := fun hy hx1 hx2 => by
      refine er_week0 h1 (fun c c1 c2 c3 c4 => by rw [e4, st_row c1]; exact hx1 c c2 c3 c4) (by rw [e4, st_eq]) (fun c k c1 c2 c3 hc => ?_) ?_
      · rw [hx2 c k c1 c2 c3 (by omega)]
        exact hy.2.2.2.2 c k hc
      · rw [hx2 43 13 (by decide) (by decide) (by decide) (by decide)]
        exact hy.2.2.2.1
    by_cases hneg : 0 ≤ q1
    · rw [if_pos hneg]
      have x15 : ∀ {y a'' : Wd}, ER a'' q4 → q4 15 3 = a'' 43 8 := fun hh => hh.1.2.2.2.2.1.2.1
      by_cases h60 : q4 15 3 < 60
      · rw [if_pos h60]
        refine pc_call (pc_eq (f_P_firstWrongPair q4)) (fun r5 u6 eW => ?_)
        intro r u eL
        refine wkR (fun y hy => hRd y hy _ (fun i' a' hWR => ?_))
        obtain ⟨hx1, hx2, hcase⟩ := hWR
        rcases hcase with ⟨_, e21, e20, I, eI, hI, hARR⟩ | ⟨hlt, _⟩
        · have h18 : a' 43 18 = u1 43 13 := by
            rw [hx2 43 18 (by decide) (by decide) (by decide)]; exact hy.1.2.1
          have er1 : ER a' q4 := stay hy hx1 (fun c k _ c2 c3 c4 => hx2 c k c2 c3 c4)
          have e8 : q4 15 3 = a' 43 8 := er1.1.2.2.2.2.1.2.1
          rw [eI]
          unfold f_R_week_100
          rw [if_pos (by omega)]
          unfold f_R_week_119
          rw [fine_e, if_pos e21, jc_s, if_neg (by decide), if_neg (show ¬ a' 43 8 = 60 by omega)]
          unfold f_R_nobody
          refine pc_call (nob_pc a' FU (v1 := 0) (by decide) (by decide) (fun _ _ _ => rfl) (fun k hk => by omega)) (fun r7 y2 hn => ?_)
          have er2 : ER y2 q4 := stay hy hx1 (fun c k c1 c2 c3 c4 => (hn.1 c k c1).trans (hx2 c k c2 c3 c4))
          obtain ⟨hF, hU, hC⟩ := er2
          obtain ⟨fCO, fPP, fHB, fWH, fN, f16, fSN, fUB, fK1, fK2, fg, fs⟩ := hF
          have x0 : 0 ≤ y2 43 0 ∧ y2 43 0 ≤ 10 := hC.1
          have x3 : q4 5 3 = y2 43 0 := fCO.2.1
          have x7g : q4 5 7 = y2 43 10 := fCO.2.2.1.1
          have x8 : q4 5 8 = y2 43 11 := fCO.2.2.1.2
          have xg : 1 ≤ y2 43 10 ∧ y2 43 10 ≤ 3 := fg
          have xW : WH (q4 5 4) (y2 47) (y2 43 0) := fWH
          have xH : B10 (q4 5 5) (hB (y2 43 0) (y2 46)) := fHB
          have xp : ∀ j : Nat, (j : Int) < y2 43 0 → q4 6 j = y2 44 j ∧ q4 7 j = y2 45 j ∧ q4 8 j = y2 48 j := fPP
          have xk : ∀ j : Nat, (j : Int) < y2 43 0 → 0 ≤ y2 45 j ∧ y2 45 j ≤ 1023 := hC.2.2.2.1
          have r60 : y2 60 = a' 60 := funext fun k => hn.1 60 k (by decide)
          have r61 : y2 61 = a' 61 := funext fun k => hn.1 61 k (by decide)
          have hg0 : GWK (y2 43 0) (y2 47) (y2 46) (y2 45) (y2 58) := gwk_0 (fun i hi => hn.2 i (by omega))
          obtain ⟨A1, A2, A3⟩ := hARR
          have q12 : q4 12 = q2 12 := by rw [e4, st_row (by decide)]
          have q13 : q4 13 = q2 13 := by rw [e4, st_row (by decide)]
          have q14 : q4 14 = q2 14 := by rw [e4, st_row (by decide)]
          have chk := wk_chk (w := q4) (y := y2) (I := I) hI x0 rfl rfl rfl rfl xW x3 xH (fun j hj => (xp j hj).2.1) xk (by rw [q12]; exact A1) (fun j hj => by rw [q13, q14, r60, r61]; exact A3 j hj) FU FU (i := 0) (v2 := 0) (a := y2) (by omega) (fun _ _ => rfl) hg0 b10_0 (fun k hk => by
            have e1 : brn (y2 58) (y2 43 0).toNat k = false := brn_f (fun i hi e => by
              rw [hn.2 i (by omega)] at e
              omega)
            unfold mvs bng
            rw [e1]
            by_cases ck : (k : Int) < y2 43 0
            · rw [hn.2 k (by omega)]
              cases inP (y2 43 0) k <;> rfl
            · rw [show inP (y2 43 0) k = false from decide_eq_false ck]; rfl) ⟨fun j hj => by omega, fun a ha hv => absurd (hn.2 a (by omega)) hv, fun j l hj => by omega⟩ r5 u6 eW
          obtain ⟨eu6, hr5, hC2⟩ := chk
          subst eu6
          have erOf : ∀ a3, FR58 y2 a3 → ER a3 u6 := fun a3 hf => er_choose ⟨⟨fCO, fPP, fHB, fWH, fN, f16, fSN, fUB, fK1, fK2, fg, fs⟩, hU, hC⟩ (fun _ _ _ _ _ => rfl) (fun c k c1 _ => by rw [hf c c1])
          refine hC2 _ (fun em a3 hf hg3 hmv hpre => ?_) (fun e0 a3 hf => ?_)
          · have er3 := erOf a3 hf
            have z0 : a3 43 0 = y2 43 0 := by rw [hf 43 (by decide)]
            have z43 : a3 43 = y2 43 := hf 43 (by decide)
            rw [r60, r61] at hmv hpre
            have hPL : PLm (a3 43 0) (a3 58) I u6 := by
              rw [z0]
              refine ⟨by rw [q12]; exact A1, by rw [q12]; exact b10_w A2 hmv, fun i hi => ?_, fun a ha hv => ?_, fun i j hi hj e => ?_⟩
              · rw [q13, q14, (A3 i hi).1.1, (A3 i hi).1.2]; exact hpre.1 i hi
              · obtain ⟨j, hj, e⟩ := hpre.2.1 a ha hv
                exact ⟨j, hj, by rw [q13, (A3 j hj).1.1]; exact e⟩
              · rw [q13, (A3 i hi).1.1, (A3 j hj).1.1] at e
                exact hpre.2.2 i j hi hj e
            have hGW : GWK (a3 43 0) (a3 47) (a3 46) (a3 45) (a3 58) := by
              rw [z0, hf 47 (by decide), hf 46 (by decide), hf 45 (by decide)]; exact hg3
            have hPN : PLN a3 u6 := ⟨I, hI, hPL, hGW⟩
            have h59 : a3 43 8 ≤ 59 := by
              have : u6 15 3 = a3 43 8 := er3.1.2.2.2.2.1.2.1
              omega
            rw [if_pos (show r5 < 0 by omega), hPL.1] at eL
            have fin : ∀ {r u : _}, f_E_week_100 u6 = some (r, u) → PC (f_R_week_305 a3) (fun r' a' => r = r' ∧ ER a' u) := fun {r u} e => by
              unfold f_R_week_305
              have e2 : f_E_pass u6 = some (r, u) := by
                unfold f_E_week_100 at e
                cases c : f_E_pass u6 with
                | none => rw [c] at e; cases e
                | some o => rw [c] at e; exact e
              refine pc_call (pc_eq (f_R_goWeek a3)) (fun r9 u10 e3 => pc_some ?_)
              have := er_pass er3 hPN h59 _ _ _ _ e2 e3
              exact ⟨this.1, this.2.1⟩
            by_cases cI : (I : Int) ≤ 0
            · rw [if_pos cI] at eL
              rw [if_pos cI]
              exact fin eL
            · rw [if_neg cI] at eL
              rw [if_neg cI]
              have hga := ega_e (w := u6) (P := y2 43 0) (s := y2 47) (mv := mvs (y2 43 0) (a3 58)) xW (by rw [x7g]; exact xg.2) (by rw [← z0]; exact hPL.2.1)
              have hgp := gth_pn (g := y2 43 10) x0 hg3
              have hgt := gthen_pc (w := a3) (by rw [z0]; exact x0) (fun i hi => by rw [hf 47 (by decide)]; exact xW.2.2 i (by rw [z0] at hi; exact hi))
              refine pc_call hgt (fun r11 u12 y3 => ?_)
              rw [y3.1, y3.2, z43, hf 47 (by decide), ← hgp]
              have main : PC (jcall (f_F_guestsAfter (u6 12 3) u6) fun r9 u10 => if r9 ≤ (u10 5 8) then f_E_week_100 u10 else some ((-200), u10)) (fun r u => PC (if ((pn (fun k => sty (y2 43 0) (y2 47) (y2 43 10) k || mvs (y2 43 0) (a3 58) k) 10 : Nat) : Int) ≤ y2 43 11 then f_R_week_305 a3 else some ((-200), a3)) (fun r' a' => r = r' ∧ ER a' u)) := by
                refine pc_call hga (fun r9 u10 y4 => ?_)
                rw [y4.1, y4.2, x7g, x8]
                by_cases cc : ((pn (fun k => sty (y2 43 0) (y2 47) (y2 43 10) k || mvs (y2 43 0) (a3 58) k) 10 : Nat) : Int) ≤ y2 43 11
                · rw [if_pos cc, if_pos cc]
                  intro r u e
                  exact fin e
                · rw [if_neg cc, if_neg cc]
                  exact pc_some (pc_some ⟨rfl, er3⟩)
              exact main r u eL
          · rw [if_neg (show ¬ r5 < 0 by omega)] at eL
            cases eL
            exact ⟨rfl, erOf a3 hf⟩
        · omega
      · rw [if_neg h60]
        refine pc_some (wkR (fun y hy => hRd y hy _ (fun i' a' hWR => ?_)))
        obtain ⟨hx1, hx2, hcase⟩ := hWR
        rcases hcase with ⟨_, e21, e20, I, eI, hI, hARR⟩ | ⟨hlt, _⟩
        · have h18 : a' 43 18 = u1 43 13 := by
            rw [hx2 43 18 (by decide) (by decide) (by decide)]; exact hy.1.2.1
          have er1 : ER a' q4 := stay hy hx1 (fun c k _ c2 c3 c4 => hx2 c k c2 c3 c4)
          have e8 : q4 15 3 = a' 43 8 := er1.1.2.2.2.2.1.2.1
          have e8r : 0 ≤ a' 43 8 ∧ a' 43 8 ≤ 60 := er1.2.2.2.2.2.2.1
          unfold f_R_week_100
          rw [if_pos (by omega)]
          unfold f_R_week_119
          rw [fine_e, if_pos e21, jc_s, if_neg (by decide), if_pos (show a' 43 8 = 60 by omega)]
          exact pc_some ⟨rfl, er1⟩
        · omega
    · rw [if_neg hneg]
      refine pc_some (wkR (fun y hy => hRd y hy _ (fun i' a' hWR => ?_)))
      obtain ⟨hx1, hx2, hcase⟩ := hWR
      rcases hcase with ⟨e0, _⟩ | ⟨hlt, hb1, hb2, hc⟩
      · omega
      · have h18 : a' 43 18 = u1 43 13 := by
          rw [hx2 43 18 (by decide) (by decide) (by decide)]; exact hy.1.2.1
        have er1 : ER a' q4 := stay hy hx1 (fun c k _ c2 c3 c4 => hx2 c k c2 c3 c4)
        have fin : ∀ a3 : Wd, a3 43 21 = -1 - q1 → ER a3 q4 → PC (f_R_week_119 i' a3) (fun r' a' => q1 = r' ∧ ER a' q4) := fun a3 e21 her => by
          unfold f_R_week_119
          rw [fine_e, if_neg (by omega), jc_s, if_pos rfl, e21]
          exact pc_some ⟨by rw [w32_id (by omega)]; omega, her⟩
        unfold f_R_week_100
        refine pc_ite (fun c => ?_) (fun c => ?_)
        · rcases hc with e | ⟨e1, e2, e3⟩
          · exact fin a' e er1
          · omega
        · refine pc_call (fl_pc a' _) (fun r33 u34 e34 => ?_)
          rcases hc with e | ⟨e1, e2, e3⟩
          · rw [if_neg (by omega)] at e34
            rw [e34]; exact fin a' e er1
          · rw [if_pos e1] at e34
            refine fin u34 (by rw [e34, st_eq]; exact e3) (stay hy hx1 (fun c k _ c2 c3 c4 => ?_))
            rw [e34]; unfold st; rw [if_neg (by omega)]
            exact hx2 c k c2 c3 c4
  obtain ⟨er, hf⟩ := key r1 u1 eE r2 u2 eR
  exact ⟨er_lu hf (g_lo g2 (by decide)) s2, er⟩
/-! EVERY METHOD KEEPS ALL THAT BOTH HAVE IN COMMON -/
theorem w0_FC : FC w0 := by
  have e : w0 43 0 = 0 ∧ w0 5 5 = 0 ∧ w0 5 4 = 0 ∧ (w0 5 6 = w0 43 7 ∧ w0 15 3 = 0 ∧ w0 43 8 = 0 ∧ w0 15 4 = 0 ∧ w0 43 32 = 0) ∧ (w0 16 0 = 0 ∧ w0 50 0 = 0) ∧ (w0 37 2 = 0 ∧ w0 40 2 = 0) ∧ (1 ≤ w0 43 10 ∧ w0 43 10 ≤ 3) ∧ 1 ≤ w0 43 11 ∧ w0 43 11 ≤ 10 := by decide +kernel
  obtain ⟨e0, e55, e54, ⟨e56, e15, e8, e154, e32⟩, ⟨e16, e50⟩, ⟨e37, e40⟩, eg, es⟩ := e
  have ip : ∀ k : Nat, inP 0 k = false := fun k => decide_eq_false (by omega)
  have wt : ∀ t : Nat, (t : Int) ≤ 0 → t = 0 := fun t h => by omega
  refine ⟨w0_LI.2, fun j hj => ?_, ?_, ?_, ⟨e56, by rw [e15, e8], by rw [e154, e32]⟩, fun t ht => ?_, ?_, fun t ht => ?_, fun h => absurd e37 h, fun h => absurd e40 h, eg, es⟩
  · rw [e0] at hj; omega
  · rw [e55, e0]
    exact b10_w b10_0 (fun k _ => by unfold hB; rw [ip k]; rfl)
  · rw [e54, e0]
    refine ⟨by decide, fun k _ => ?_, fun k hk => by omega⟩
    rw [ip k, bt_0, bt_0, bt_0]
    exact ⟨rfl, rfl, rfl⟩
  · rw [e8] at ht
    rw [wt t ht, e16, e50]
  · rw [e0, e8]
    refine ⟨fun j hj => by omega, fun j hj => by omega, ?_, fun t ht => ?_⟩
    · show B10 (w0 50 0) _
      rw [e50]
      exact b10_w b10_0 (fun k _ => by unfold gs; rw [ip k]; rfl)
    · rw [wt t ht, e50]
      exact ⟨by decide, fun j _ hb => by rw [bt_0] at hb; cases hb⟩
  · rw [e32] at ht; omega
theorem w0_LU : LU w0 := ⟨⟨w0_RS, w0_FC⟩, Or.inl (by decide +kernel)⟩
theorem d_sign {w : Wd} {v1 : Int} (h : LU w) (i_v1 : ((-2147483648 : Int) ≤ v1 ∧ v1 ≤ 2147483647)) : OK (f_E_sign v1 w) (fun r1 u1 => OK (f_R_sign v1 u1) (fun r2 u2 => LU u2 ∧ r1 = r2)) := ok_w (ok_pc (c_sign (lf_li h.1) i_v1) (pc_ok (e_E_sign h.1.1 i_v1))) (fun r1 u1 q1 => ok_w (ok_pc q1.1 (pc_ok (e_R_sign q1.2.2.1 i_v1))) (fun r2 u2 q2 => ⟨⟨⟨q2.1.1.1, fc_fr2 h.1.2 q2.1.1.2 (fr_tr (fr_g q1.2.1 rfl) (fr_g q2.2.1 rfl))⟩, ru_fr h.2 (fr_tr (fr_g q1.2.1 rfl) (fr_g q2.2.1 rfl))⟩, q2.1.2⟩))
theorem d_end {w : Wd} {v1 : Int} (h : LU w) (i_v1 : ((-2147483648 : Int) ≤ v1 ∧ v1 ≤ 2147483647)) : OK (f_E_end v1 w) (fun r1 u1 => OK (f_R_end v1 u1) (fun r2 u2 => LU u2 ∧ r1 = r2)) := ok_w (ok_pc (c_end (lf_li h.1) i_v1) (pc_ok (e_E_end h.1.1 i_v1))) (fun r1 u1 q1 => ok_w (ok_pc q1.1 (pc_ok (e_R_end q1.2.2.1 i_v1))) (fun r2 u2 q2 => ⟨⟨⟨q2.1.1.1, fc_fr2 h.1.2 q2.1.1.2 (fr_tr (fr_g q1.2.1 rfl) (fr_g q2.2.1 rfl))⟩, ru_fr h.2 (fr_tr (fr_g q1.2.1 rfl) (fr_g q2.2.1 rfl))⟩, q2.1.2⟩))
theorem d_land {w : Wd} (h : LU w) : OK (f_E_land w) (fun r1 u1 => OK (f_R_land u1) (fun r2 u2 => LU u2 ∧ r1 = r2)) := ok_w (ok_pc (k_land h.1) (pc_ok (e_E_land h.1.1))) (fun r1 u1 q1 => ok_w (ok_pc q1.1 (pc_ok (e_R_land q1.2.2.1))) (fun r2 u2 q2 => ⟨⟨q2.1.1, ru_fr h.2 (fr_tr (fr_g q1.2.1 rfl) (fr_g q2.2.1 rfl))⟩, q2.1.2⟩))
theorem d_rule {w : Wd} (h : LU w) : OK (f_E_rule w) (fun r1 u1 => OK (f_R_rule u1) (fun r2 u2 => LU u2 ∧ r1 = r2)) := k_rule h.1 h.2
theorem d_of {w : Wd} {v1 v2 : Int} (h : LU w) (i_v1 : ((-2147483648 : Int) ≤ v1 ∧ v1 ≤ 2147483647)) (i_v2 : ((-2147483648 : Int) ≤ v2 ∧ v2 ≤ 2147483647)) : OK (f_A_of v1 v2 w) (fun r1 u1 => OK (f_R_of v1 v2 u1) (fun r2 u2 => LU u2 ∧ True)) := ok_w (ok_pc (c_of (lf_li h.1) i_v1 i_v2) (pc_ok (e_A_of h.1.1 i_v1 i_v2))) (fun r1 u1 q1 => ok_w (ok_pc q1.1 (pc_ok (e_R_of q1.2.1 i_v1 i_v2))) (fun r2 u2 q2 => ⟨⟨⟨q2.1.1.1, fc_fr2 h.1.2 q2.1.1.2 (fr_tr (fr_82 q1.2.2) (fr_g q2.2.1 rfl))⟩, ru_fr h.2 (fr_tr (fr_82 q1.2.2) (fr_g q2.2.1 rfl))⟩, q2.1.2⟩))
theorem d_law {w : Wd} {v1 v2 : Int} (h : LU w) (i_v1 : ((-2147483648 : Int) ≤ v1 ∧ v1 ≤ 2147483647)) (i_v2 : ((-2147483648 : Int) ≤ v2 ∧ v2 ≤ 2147483647)) : OK (f_E_law v1 v2 w) (fun r1 u1 => OK (f_R_law v1 v2 u1) (fun r2 u2 => LU u2 ∧ r1 = r2)) := ok_w (ok_pc (k_law h.1 i_v1 i_v2) (pc_ok (e_E_law h.1.1 i_v1 i_v2))) (fun r1 u1 q1 => ok_w (ok_pc q1.1 (pc_ok (e_R_law q1.2.2 i_v1 i_v2))) (fun r2 u2 q2 => ⟨⟨q2.1.1, ru_fr h.2 (fr_tr (fr_g q1.2.1 rfl) (fr_g q2.2.1 rfl))⟩, q2.1.2⟩))
theorem d_meet {w : Wd} {v1 v2 v3 : Int} (h : LU w) (i_v1 : ((-2147483648 : Int) ≤ v1 ∧ v1 ≤ 2147483647)) (i_v2 : ((-2147483648 : Int) ≤ v2 ∧ v2 ≤ 2147483647)) (i_v3 : ((0 : Int) ≤ v3 ∧ v3 ≤ 1)) : OK (f_E_meet v1 v2 v3 w) (fun r1 u1 => OK (f_R_meet v1 v2 v3 u1) (fun r2 u2 => LU u2 ∧ r1 = r2)) := ok_w (ok_pc (k_meet h.1 i_v1 i_v2 i_v3) (pc_ok (e_E_meet h.1.1 i_v1 i_v2 i_v3))) (fun r1 u1 q1 => ok_w (ok_pc q1.1 (pc_ok (e_R_meet q1.2.2 i_v1 i_v2 i_v3))) (fun r2 u2 q2 => ⟨⟨q2.1.1, ru_fr h.2 (fr_tr (fr_g q1.2.1 rfl) (fr_g q2.2.1 rfl))⟩, q2.1.2⟩))
theorem d_hide {w : Wd} {v1 v2 : Int} (h : LU w) (i_v1 : ((-2147483648 : Int) ≤ v1 ∧ v1 ≤ 2147483647)) (i_v2 : ((0 : Int) ≤ v2 ∧ v2 ≤ 1)) : OK (f_E_hide v1 v2 w) (fun r1 u1 => OK (f_R_hide v1 v2 u1) (fun r2 u2 => LU u2 ∧ r1 = r2)) := ok_w (ok_pc (k_hide h.1 i_v1 i_v2) (pc_ok (e_E_hide h.1.1 i_v1 i_v2))) (fun r1 u1 q1 => ok_w (ok_pc q1.1 (pc_ok (e_R_hide q1.2.2 i_v1 i_v2))) (fun r2 u2 q2 => ⟨⟨q2.1.1, ru_fr h.2 (fr_tr (fr_g q1.2.1 rfl) (fr_g q2.2.1 rfl))⟩, q2.1.2⟩))
theorem d_baby {w : Wd} {v1 : Int} (h : LU w) (i_v1 : ((-2147483648 : Int) ≤ v1 ∧ v1 ≤ 2147483647)) : OK (f_E_baby v1 w) (fun r1 u1 => OK (f_R_baby v1 u1) (fun r2 u2 => LU u2 ∧ r1 = r2)) := ok_w (ok_pc (k_baby h.1 i_v1) (pc_ok (e_E_baby h.1.1 i_v1))) (fun r1 u1 q1 => ok_w (ok_pc q1.1 (pc_ok (e_R_baby q1.2.2 i_v1))) (fun r2 u2 q2 => ⟨⟨q2.1.1, ru_fr h.2 (fr_tr (fr_g q1.2.1 rfl) (fr_g q2.2.1 rfl))⟩, q2.1.2⟩))
theorem d_sheet {w : Wd} {v1 v2 v3 v4 : Int} (h : LU w) (i_v1 : ((-2147483648 : Int) ≤ v1 ∧ v1 ≤ 2147483647)) (i_v2 : ((-2147483648 : Int) ≤ v2 ∧ v2 ≤ 2147483647)) (i_v3 : ((-2147483648 : Int) ≤ v3 ∧ v3 ≤ 2147483647)) (i_v4 : ((-2147483648 : Int) ≤ v4 ∧ v4 ≤ 2147483647)) : OK (f_E_sheet v1 v2 v3 v4 w) (fun r1 u1 => OK (f_R_sheet v1 v2 v3 v4 u1) (fun r2 u2 => LU u2 ∧ r1 = r2)) := ok_w (ok_pc (k_sheet h.1 i_v1 i_v2 i_v3 i_v4) (pc_ok (e_E_sheet h.1.1 i_v1 i_v2 i_v3 i_v4))) (fun r1 u1 q1 => ok_w (ok_pc q1.1 (pc_ok (e_R_sheet q1.2.2 i_v1 i_v2 i_v3 i_v4))) (fun r2 u2 q2 => ⟨⟨q2.1.1, ru_fr h.2 (fr_tr (fr_g q1.2.1 rfl) (fr_g q2.2.1 rfl))⟩, q2.1.2⟩))
theorem d_week {w : Wd} (h : LU w) : OK (f_E_week w) (fun r1 u1 => OK (f_R_week u1) (fun r2 u2 => LU u2 ∧ r1 = r2)) := k_week h
theorem d_goes {w : Wd} {v1 : Int} (h : LU w) (i_v1 : ((-2147483648 : Int) ≤ v1 ∧ v1 ≤ 2147483647)) : OK (f_E_goes v1 w) (fun r1 u1 => OK (f_R_goes v1 u1) (fun r2 u2 => LU u2 ∧ r1 = r2)) := k_goes h i_v1
theorem d_undo {w : Wd} (h : LU w) : OK (f_E_undo w) (fun r1 u1 => OK (f_R_undo u1) (fun r2 u2 => LU u2 ∧ r1 = r2)) := ok_w (ok_pc (k_undo h.1) (pc_ok (e_E_undo h.1.1))) (fun r1 u1 q1 => ok_w (ok_pc q1.1 (pc_ok (e_R_undo q1.2.2))) (fun r2 u2 q2 => ⟨⟨q2.1.1, ru_fr h.2 (fr_tr (fr_g q1.2.1 rfl) (fr_g q2.2.1 rfl))⟩, q2.1.2⟩))
theorem d_can {w : Wd} (h : LU w) : OK (f_E_can w) (fun r1 u1 => OK (f_R_can u1) (fun r2 u2 => LU u2 ∧ True)) := ok_w (ok_pc (c_can (lf_li h.1)) (pc_ok (e_E_can h.1.1))) (fun r1 u1 q1 => ok_w (ok_pc q1.1 (pc_ok (e_R_can q1.2.2))) (fun r2 u2 q2 => ⟨⟨⟨q2.1.1.1, fc_fr2 h.1.2 q2.1.1.2 (fr_tr (fr_g q1.2.1 rfl) (fr_g q2.2.1 rfl))⟩, ru_fr h.2 (fr_tr (fr_g q1.2.1 rfl) (fr_g q2.2.1 rfl))⟩, q2.1.2⟩))
theorem d_picks {w : Wd} {v1 : Int} (h : LU w) (i_v1 : ((-2147483648 : Int) ≤ v1 ∧ v1 ≤ 2147483647)) : OK (f_E_picks v1 w) (fun r1 u1 => OK (f_R_picks v1 u1) (fun r2 u2 => LU u2 ∧ r1 = r2)) := k_picks h i_v1
theorem d_pairs {w : Wd} (h : LU w) : OK (f_E_pairs w) (fun r1 u1 => OK (f_R_pairs u1) (fun r2 u2 => LU u2 ∧ True)) := ok_w (ok_pc (c_pairs (lf_li h.1)) (pc_ok (e_E_pairs h.1.1))) (fun r1 u1 q1 => ok_w (ok_pc q1.1 (pc_ok (e_R_pairs q1.2.2))) (fun r2 u2 q2 => ⟨⟨⟨q2.1.1.1, fc_fr2 h.1.2 q2.1.1.2 (fr_tr (fr_g q1.2.1 rfl) (fr_g q2.2.1 rfl))⟩, ru_fr h.2 (fr_tr (fr_g q1.2.1 rfl) (fr_g q2.2.1 rfl))⟩, q2.1.2⟩))
theorem d_bars {w : Wd} (h : LU w) : OK (f_E_bars w) (fun r1 u1 => OK (f_R_bars u1) (fun r2 u2 => LU u2 ∧ True)) := ok_w (ok_pc (c_bars (lf_li h.1)) (pc_ok (e_E_bars h.1.1))) (fun r1 u1 q1 => ok_w (ok_pc q1.1 (pc_ok (e_R_bars q1.2.2))) (fun r2 u2 q2 => ⟨⟨⟨q2.1.1.1, fc_fr2 h.1.2 q2.1.1.2 (fr_tr (fr_g q1.2.1 rfl) (fr_g q2.2.1 rfl))⟩, ru_fr h.2 (fr_tr (fr_g q1.2.1 rfl) (fr_g q2.2.1 rfl))⟩, q2.1.2⟩))
theorem d_states {w : Wd} (h : LU w) : OK (f_E_states w) (fun r1 u1 => OK (f_R_states u1) (fun r2 u2 => LU u2 ∧ True)) := ok_w (ok_pc (c_states (lf_li h.1)) (pc_ok (e_E_states h.1.1))) (fun r1 u1 q1 => ok_w (ok_pc q1.1 (pc_ok (e_R_states q1.2.2))) (fun r2 u2 q2 => ⟨⟨⟨q2.1.1.1, fc_fr2 h.1.2 q2.1.1.2 (fr_tr (fr_g q1.2.1 rfl) (fr_g q2.2.1 rfl))⟩, ru_fr h.2 (fr_tr (fr_g q1.2.1 rfl) (fr_g q2.2.1 rfl))⟩, q2.1.2⟩))
theorem d_most {w : Wd} {v1 : Int} (h : LU w) (i_v1 : ((-2147483648 : Int) ≤ v1 ∧ v1 ≤ 2147483647)) : OK (f_E_most v1 w) (fun r1 u1 => OK (f_R_most v1 u1) (fun r2 u2 => LU u2 ∧ True)) := ok_w (ok_pc (c_most (lf_li h.1) i_v1) (pc_ok (e_E_most h.1.1 i_v1))) (fun r1 u1 q1 => ok_w (ok_pc q1.1 (pc_ok (e_R_most q1.2.2 i_v1))) (fun r2 u2 q2 => ⟨⟨⟨q2.1.1.1, fc_fr2 h.1.2 q2.1.1.2 (fr_tr (fr_g q1.2.1 rfl) (fr_g q2.2.1 rfl))⟩, ru_fr h.2 (fr_tr (fr_g q1.2.1 rfl) (fr_g q2.2.1 rfl))⟩, q2.1.2⟩))
theorem d_reach {w : Wd} {v1 : Int} (h : LU w) (i_v1 : ((-2147483648 : Int) ≤ v1 ∧ v1 ≤ 2147483647)) : OK (f_E_reach v1 w) (fun r1 u1 => OK (f_R_reach v1 u1) (fun r2 u2 => LU u2 ∧ True)) := ok_w (ok_pc (c_reach (lf_li h.1) i_v1) (pc_ok (e_E_reach h.1.1 i_v1))) (fun r1 u1 q1 => ok_w (ok_pc q1.1 (pc_ok (e_R_reach q1.2.2 i_v1))) (fun r2 u2 q2 => ⟨⟨⟨q2.1.1.1, fc_fr2 h.1.2 q2.1.1.2 (fr_tr (fr_g q1.2.1 rfl) (fr_g q2.2.1 rfl))⟩, ru_fr h.2 (fr_tr (fr_g q1.2.1 rfl) (fr_g q2.2.1 rfl))⟩, q2.1.2⟩))
theorem d_fewest {w : Wd} {v1 : Int} (h : LU w) (i_v1 : ((-2147483648 : Int) ≤ v1 ∧ v1 ≤ 2147483647)) : OK (f_E_fewest v1 w) (fun r1 u1 => OK (f_R_fewest v1 u1) (fun r2 u2 => LU u2 ∧ True)) := ok_w (ok_pc (c_fewest (lf_li h.1) i_v1) (pc_ok (e_E_fewest h.1.1 i_v1))) (fun r1 u1 q1 => ok_w (ok_pc q1.1 (pc_ok (e_R_fewest q1.2.2 i_v1))) (fun r2 u2 q2 => ⟨⟨⟨q2.1.1.1, fc_fr2 h.1.2 q2.1.1.2 (fr_tr (fr_g q1.2.1 rfl) (fr_g q2.2.1 rfl))⟩, ru_fr h.2 (fr_tr (fr_g q1.2.1 rfl) (fr_g q2.2.1 rfl))⟩, q2.1.2⟩))
theorem d_crowd {w : Wd} (h : LU w) : OK (f_E_crowd w) (fun r1 u1 => OK (f_R_crowd u1) (fun r2 u2 => LU u2 ∧ True)) := ok_w (ok_pc (c_crowd (lf_li h.1)) (pc_ok (e_E_crowd h.1.1))) (fun r1 u1 q1 => ok_w (ok_pc q1.1 (pc_ok (e_R_crowd q1.2.2))) (fun r2 u2 q2 => ⟨⟨⟨q2.1.1.1, fc_fr2 h.1.2 q2.1.1.2 (fr_tr (fr_g q1.2.1 rfl) (fr_g q2.2.1 rfl))⟩, ru_fr h.2 (fr_tr (fr_g q1.2.1 rfl) (fr_g q2.2.1 rfl))⟩, q2.1.2⟩))
theorem d_both {w : Wd} {v1 v2 v3 : Int} (h : LU w) (i_v1 : ((-2147483648 : Int) ≤ v1 ∧ v1 ≤ 2147483647)) (i_v2 : ((-2147483648 : Int) ≤ v2 ∧ v2 ≤ 2147483647)) (i_v3 : ((-2147483648 : Int) ≤ v3 ∧ v3 ≤ 2147483647)) : OK (f_E_both v1 v2 v3 w) (fun r1 u1 => OK (f_R_both v1 v2 v3 u1) (fun r2 u2 => LU u2 ∧ True)) := ok_w (ok_pc (c_both (lf_li h.1) i_v1 i_v2 i_v3) (pc_ok (e_E_both h.1.1 i_v1 i_v2 i_v3))) (fun r1 u1 q1 => ok_w (ok_pc q1.1 (pc_ok (e_R_both q1.2.2 i_v1 i_v2 i_v3))) (fun r2 u2 q2 => ⟨⟨⟨q2.1.1.1, fc_fr2 h.1.2 q2.1.1.2 (fr_tr (fr_g q1.2.1 rfl) (fr_g q2.2.1 rfl))⟩, ru_fr h.2 (fr_tr (fr_g q1.2.1 rfl) (fr_g q2.2.1 rfl))⟩, q2.1.2⟩))
theorem d_last {w : Wd} (h : LU w) : OK (f_E_last w) (fun r1 u1 => OK (f_R_last u1) (fun r2 u2 => LU u2 ∧ True)) := ok_w (ok_pc (c_last (lf_li h.1)) (pc_ok (e_E_last h.1.1))) (fun r1 u1 q1 => ok_w (ok_pc q1.1 (pc_ok (e_R_last q1.2.2))) (fun r2 u2 q2 => ⟨⟨⟨q2.1.1.1, fc_fr2 h.1.2 q2.1.1.2 (fr_tr (fr_g q1.2.1 rfl) (fr_g q2.2.1 rfl))⟩, ru_fr h.2 (fr_tr (fr_g q1.2.1 rfl) (fr_g q2.2.1 rfl))⟩, q2.1.2⟩))
theorem d_begin {w : Wd} (h : LU w) : OK (f_E_begin w) (fun r1 u1 => OK (f_R_begin2 u1) (fun r2 u2 => LU u2 ∧ True)) := ok_w (ok_pc (c_begin (lf_li h.1)) (pc_ok (e_E_begin h.1.1))) (fun r1 u1 q1 => ok_w (ok_pc q1.1 (pc_ok (e_R_begin2 q1.2.2))) (fun r2 u2 q2 => ⟨⟨⟨q2.1.1.1, fc_fr2 h.1.2 q2.1.1.2 (fr_tr (fr_g q1.2.1 rfl) (fr_g q2.2.1 rfl))⟩, ru_fr h.2 (fr_tr (fr_g q1.2.1 rfl) (fr_g q2.2.1 rfl))⟩, q2.1.2⟩))
theorem d_cheap {w : Wd} {v1 : Int} (h : LU w) (i_v1 : ((-2147483648 : Int) ≤ v1 ∧ v1 ≤ 2147483647)) : OK (f_E_cheap v1 w) (fun r1 u1 => OK (f_R_cheap v1 u1) (fun r2 u2 => LU u2 ∧ True)) := ok_w (ok_pc (c_cheap (lf_li h.1) i_v1) (pc_ok (e_E_cheap h.1.1 i_v1))) (fun r1 u1 q1 => ok_w (ok_pc q1.1 (pc_ok (e_R_cheap q1.2.2 i_v1))) (fun r2 u2 q2 => ⟨⟨⟨q2.1.1.1, fc_fr2 h.1.2 q2.1.1.2 (fr_tr (fr_g q1.2.1 rfl) (fr_g q2.2.1 rfl))⟩, ru_fr h.2 (fr_tr (fr_g q1.2.1 rfl) (fr_g q2.2.1 rfl))⟩, q2.1.2⟩))
theorem d_stays {w : Wd} {v1 : Int} (h : LU w) (i_v1 : ((-2147483648 : Int) ≤ v1 ∧ v1 ≤ 2147483647)) : OK (f_E_stays v1 w) (fun r1 u1 => OK (f_R_stays v1 u1) (fun r2 u2 => LU u2 ∧ True)) := ok_w (ok_pc (c_stays (lf_li h.1) i_v1) (pc_ok (e_E_stays h.1.1 i_v1))) (fun r1 u1 q1 => ok_w (ok_pc q1.1 (pc_ok (e_R_stays q1.2.2 i_v1))) (fun r2 u2 q2 => ⟨⟨⟨q2.1.1.1, fc_fr2 h.1.2 q2.1.1.2 (fr_tr (fr_g q1.2.1 rfl) (fr_g q2.2.1 rfl))⟩, ru_fr h.2 (fr_tr (fr_g q1.2.1 rfl) (fr_g q2.2.1 rfl))⟩, q2.1.2⟩))
theorem d_soonest {w : Wd} {v1 : Int} (h : LU w) (i_v1 : ((-2147483648 : Int) ≤ v1 ∧ v1 ≤ 2147483647)) : OK (f_E_soonest v1 w) (fun r1 u1 => OK (f_R_soonest v1 u1) (fun r2 u2 => LU u2 ∧ True)) := ok_w (ok_pc (c_soonest (lf_li h.1) i_v1) (pc_ok (e_E_soonest h.1.1 i_v1))) (fun r1 u1 q1 => ok_w (ok_pc q1.1 (pc_ok (e_R_soonest q1.2.2 i_v1))) (fun r2 u2 q2 => ⟨⟨⟨q2.1.1.1, fc_fr2 h.1.2 q2.1.1.2 (fr_tr (fr_g q1.2.1 rfl) (fr_g q2.2.1 rfl))⟩, ru_fr h.2 (fr_tr (fr_g q1.2.1 rfl) (fr_g q2.2.1 rfl))⟩, q2.1.2⟩))
theorem d_worth {w : Wd} {v1 : Int} (h : LU w) (i_v1 : ((-2147483648 : Int) ≤ v1 ∧ v1 ≤ 2147483647)) : OK (f_E_worth v1 w) (fun r1 u1 => OK (f_R_worth v1 u1) (fun r2 u2 => LU u2 ∧ True)) := ok_w (ok_pc (c_worth (lf_li h.1) i_v1) (pc_ok (e_E_worth h.1.1 i_v1))) (fun r1 u1 q1 => ok_w (ok_pc q1.1 (pc_ok (e_R_worth q1.2.2 i_v1))) (fun r2 u2 q2 => ⟨⟨⟨q2.1.1.1, fc_fr2 h.1.2 q2.1.1.2 (fr_tr (fr_g q1.2.1 rfl) (fr_g q2.2.1 rfl))⟩, ru_fr h.2 (fr_tr (fr_g q1.2.1 rfl) (fr_g q2.2.1 rfl))⟩, q2.1.2⟩))
theorem d_needed {w : Wd} (h : LU w) : OK (f_E_needed w) (fun r1 u1 => OK (f_R_needed u1) (fun r2 u2 => LU u2 ∧ True)) := ok_w (ok_pc (c_needed (lf_li h.1)) (pc_ok (e_E_needed h.1.1))) (fun r1 u1 q1 => ok_w (ok_pc q1.1 (pc_ok (e_R_needed q1.2.2))) (fun r2 u2 q2 => ⟨⟨⟨q2.1.1.1, fc_fr2 h.1.2 q2.1.1.2 (fr_tr (fr_g q1.2.1 rfl) (fr_g q2.2.1 rfl))⟩, ru_fr h.2 (fr_tr (fr_g q1.2.1 rfl) (fr_g q2.2.1 rfl))⟩, q2.1.2⟩))
theorem d_never {w : Wd} (h : LU w) : OK (f_E_never w) (fun r1 u1 => OK (f_R_never u1) (fun r2 u2 => LU u2 ∧ True)) := ok_w (ok_pc (c_never (lf_li h.1)) (pc_ok (e_E_never h.1.1))) (fun r1 u1 q1 => ok_w (ok_pc q1.1 (pc_ok (e_R_never q1.2.2))) (fun r2 u2 q2 => ⟨⟨⟨q2.1.1.1, fc_fr2 h.1.2 q2.1.1.2 (fr_tr (fr_g q1.2.1 rfl) (fr_g q2.2.1 rfl))⟩, ru_fr h.2 (fr_tr (fr_g q1.2.1 rfl) (fr_g q2.2.1 rfl))⟩, q2.1.2⟩))
theorem d_bound {w : Wd} (h : LU w) : OK (f_E_bound w) (fun r1 u1 => OK (f_R_bound u1) (fun r2 u2 => LU u2 ∧ True)) := ok_w (ok_pc (c_bound (lf_li h.1)) (pc_ok (e_E_bound h.1.1))) (fun r1 u1 q1 => ok_w (ok_pc q1.1 (pc_ok (e_R_bound q1.2.2))) (fun r2 u2 q2 => ⟨⟨⟨q2.1.1.1, fc_fr2 h.1.2 q2.1.1.2 (fr_tr (fr_g q1.2.1 rfl) (fr_g q2.2.1 rfl))⟩, ru_fr h.2 (fr_tr (fr_g q1.2.1 rfl) (fr_g q2.2.1 rfl))⟩, q2.1.2⟩))
theorem d_far {w : Wd} {v1 : Int} (h : LU w) (i_v1 : ((-2147483648 : Int) ≤ v1 ∧ v1 ≤ 2147483647)) : OK (f_E_far v1 w) (fun r1 u1 => OK (f_R_far v1 u1) (fun r2 u2 => LU u2 ∧ True)) := ok_w (ok_pc (c_far (lf_li h.1) i_v1) (pc_ok (e_E_far h.1.1 i_v1))) (fun r1 u1 q1 => ok_w (ok_pc q1.1 (pc_ok (e_R_far q1.2.2 i_v1))) (fun r2 u2 q2 => ⟨⟨⟨q2.1.1.1, fc_fr2 h.1.2 q2.1.1.2 (fr_tr (fr_g q1.2.1 rfl) (fr_g q2.2.1 rfl))⟩, ru_fr h.2 (fr_tr (fr_g q1.2.1 rfl) (fr_g q2.2.1 rfl))⟩, q2.1.2⟩))
theorem d_line {w : Wd} {v1 : Int} (h : LU w) (i_v1 : ((-2147483648 : Int) ≤ v1 ∧ v1 ≤ 2147483647)) : OK (f_E_line v1 w) (fun r1 u1 => OK (f_R_line v1 u1) (fun r2 u2 => LU u2 ∧ True)) := ok_w (ok_pc (c_line (lf_li h.1) i_v1) (pc_ok (e_E_line h.1.1 i_v1))) (fun r1 u1 q1 => ok_w (ok_pc q1.1 (pc_ok (e_R_line q1.2.2 i_v1))) (fun r2 u2 q2 => ⟨⟨⟨q2.1.1.1, fc_fr2 h.1.2 q2.1.1.2 (fr_tr (fr_g q1.2.1 rfl) (fr_g q2.2.1 rfl))⟩, ru_fr h.2 (fr_tr (fr_g q1.2.1 rfl) (fr_g q2.2.1 rfl))⟩, q2.1.2⟩))
theorem d_led {w : Wd} {v1 : Int} (h : LU w) (i_v1 : ((-2147483648 : Int) ≤ v1 ∧ v1 ≤ 2147483647)) : OK (f_E_led v1 w) (fun r1 u1 => OK (f_R_led v1 u1) (fun r2 u2 => LU u2 ∧ True)) := ok_w (ok_pc (c_led (lf_li h.1) i_v1) (pc_ok (e_E_led h.1.1 i_v1))) (fun r1 u1 q1 => ok_w (ok_pc q1.1 (pc_ok (e_R_led q1.2.2 i_v1))) (fun r2 u2 q2 => ⟨⟨⟨q2.1.1.1, fc_fr2 h.1.2 q2.1.1.2 (fr_tr (fr_g q1.2.1 rfl) (fr_g q2.2.1 rfl))⟩, ru_fr h.2 (fr_tr (fr_g q1.2.1 rfl) (fr_g q2.2.1 rfl))⟩, q2.1.2⟩))
theorem d_was {w : Wd} {v1 : Int} (h : LU w) (i_v1 : ((-2147483648 : Int) ≤ v1 ∧ v1 ≤ 2147483647)) : OK (f_E_was v1 w) (fun r1 u1 => OK (f_R_was v1 u1) (fun r2 u2 => LU u2 ∧ True)) := ok_w (ok_pc (c_was (lf_li h.1) i_v1) (pc_ok (e_E_was h.1.1 i_v1))) (fun r1 u1 q1 => ok_w (ok_pc q1.1 (pc_ok (e_R_was q1.2.2 i_v1))) (fun r2 u2 q2 => ⟨⟨⟨q2.1.1.1, fc_fr2 h.1.2 q2.1.1.2 (fr_tr (fr_g q1.2.1 rfl) (fr_g q2.2.1 rfl))⟩, ru_fr h.2 (fr_tr (fr_g q1.2.1 rfl) (fr_g q2.2.1 rfl))⟩, q2.1.2⟩))
theorem d_common {w : Wd} {v1 v2 : Int} (h : LU w) (i_v1 : ((-2147483648 : Int) ≤ v1 ∧ v1 ≤ 2147483647)) (i_v2 : ((-2147483648 : Int) ≤ v2 ∧ v2 ≤ 2147483647)) : OK (f_E_common v1 v2 w) (fun r1 u1 => OK (f_R_common v1 v2 u1) (fun r2 u2 => LU u2 ∧ True)) := ok_w (ok_pc (c_common (lf_li h.1) i_v1 i_v2) (pc_ok (e_E_common h.1.1 i_v1 i_v2))) (fun r1 u1 q1 => ok_w (ok_pc q1.1 (pc_ok (e_R_common q1.2.2 i_v1 i_v2))) (fun r2 u2 q2 => ⟨⟨⟨q2.1.1.1, fc_fr2 h.1.2 q2.1.1.2 (fr_tr (fr_g q1.2.1 rfl) (fr_g q2.2.1 rfl))⟩, ru_fr h.2 (fr_tr (fr_g q1.2.1 rfl) (fr_g q2.2.1 rfl))⟩, q2.1.2⟩))
theorem d_father {w : Wd} (h : LU w) : OK (f_E_father w) (fun r1 u1 => OK (f_R_father u1) (fun r2 u2 => LU u2 ∧ True)) := ok_w (ok_pc (c_father (lf_li h.1)) (pc_ok (e_E_father h.1.1))) (fun r1 u1 q1 => ok_w (ok_pc q1.1 (pc_ok (e_R_father q1.2.2))) (fun r2 u2 q2 => ⟨⟨⟨q2.1.1.1, fc_fr2 h.1.2 q2.1.1.2 (fr_tr (fr_g q1.2.1 rfl) (fr_g q2.2.1 rfl))⟩, ru_fr h.2 (fr_tr (fr_g q1.2.1 rfl) (fr_g q2.2.1 rfl))⟩, q2.1.2⟩))
theorem d_keep {w : Wd} {v1 : Int} (h : LU w) (i_v1 : ((-2147483648 : Int) ≤ v1 ∧ v1 ≤ 2147483647)) : OK (f_E_keep v1 w) (fun r1 u1 => OK (f_R_keep v1 u1) (fun r2 u2 => LU u2 ∧ r1 = r2)) := ok_w (ok_pc (k_keep h.1 i_v1) (pc_ok (e_E_keep h.1.1 i_v1))) (fun r1 u1 q1 => ok_w (ok_pc q1.1 (pc_ok (e_R_keep q1.2.2 i_v1))) (fun r2 u2 q2 => ⟨⟨q2.1.1, ru_fr h.2 (fr_tr (fr_g q1.2.1 rfl) (fr_g q2.2.1 rfl))⟩, q2.1.2⟩))
theorem d_again {w : Wd} {v1 : Int} (h : LU w) (i_v1 : ((-2147483648 : Int) ≤ v1 ∧ v1 ≤ 2147483647)) : OK (f_E_again v1 w) (fun r1 u1 => OK (f_R_again v1 u1) (fun r2 u2 => LU u2 ∧ r1 = r2)) := ok_w (ok_pc (k_again h.1 i_v1) (pc_ok (e_E_again h.1.1 i_v1))) (fun r1 u1 q1 => ok_w (ok_pc q1.1 (pc_ok (e_R_again q1.2.2 i_v1))) (fun r2 u2 q2 => ⟨⟨q2.1.1, ru_fr h.2 (fr_tr (fr_g q1.2.1 rfl) (fr_g q2.2.1 rfl))⟩, q2.1.2⟩))
theorem d_count {w : Wd} {v1 : Int} (h : LU w) (i_v1 : ((-2147483648 : Int) ≤ v1 ∧ v1 ≤ 2147483647)) : OK (f_E_count v1 w) (fun r1 u1 => OK (f_R_count v1 u1) (fun r2 u2 => LU u2 ∧ True)) := ok_w (ok_pc (c_count (lf_li h.1) i_v1) (pc_ok (e_E_count h.1.1 i_v1))) (fun r1 u1 q1 => ok_w (ok_pc q1.1 (pc_ok (e_R_count q1.2.2 i_v1))) (fun r2 u2 q2 => ⟨⟨⟨q2.1.1.1, fc_fr2 h.1.2 q2.1.1.2 (fr_tr (fr_g q1.2.1 rfl) (fr_g q2.2.1 rfl))⟩, ru_fr h.2 (fr_tr (fr_g q1.2.1 rfl) (fr_g q2.2.1 rfl))⟩, q2.1.2⟩))
theorem d_row {w : Wd} {v1 : Int} (h : LU w) (i_v1 : ((-2147483648 : Int) ≤ v1 ∧ v1 ≤ 2147483647)) : OK (f_A_row v1 w) (fun r1 u1 => OK (f_R_row v1 u1) (fun r2 u2 => LU u2 ∧ True)) := ok_w (ok_pc (c_row (lf_li h.1) i_v1) (pc_ok (e_A_row h.1.1 i_v1))) (fun r1 u1 q1 => ok_w (ok_pc q1.1 (pc_ok (e_R_row q1.2.1 i_v1))) (fun r2 u2 q2 => ⟨⟨⟨q2.1.1.1, fc_fr2 h.1.2 q2.1.1.2 (fr_tr (fr_82 q1.2.2) (fr_g q2.2.1 rfl))⟩, ru_fr h.2 (fr_tr (fr_82 q1.2.2) (fr_g q2.2.1 rfl))⟩, q2.1.2⟩))
/-! BOUND -/
theorem kbn_t {kn : Nat → Int} {f : Nat → Bool} {q : Nat} : ∀ {n : Nat}, kbn kn f n q = true ↔ ∃ i, i < n ∧ f i = true ∧ bt (kn i) q = true := by
  intro n
  induction n with
  | zero => exact ⟨(fun h => by cases h), (fun h => by obtain ⟨i, hi, _⟩ := h; omega)⟩
  | succ n ih =>
    rw [kbn, Bool.or_eq_true, Bool.and_eq_true, ih]
    constructor
    · rintro (⟨i, hi, e⟩ | e)
      · exact ⟨i, by omega, e⟩
      · exact ⟨n, by omega, e⟩
    · rintro ⟨i, hi, e⟩
      by_cases c : i = n
      · rw [c] at e; exact Or.inr e
      · exact Or.inl ⟨i, by omega, e⟩
theorem pn_mono {f g : Nat → Bool} : ∀ {n : Nat}, (∀ k, k < n → f k = true → g k = true) → pn f n ≤ pn g n := by
  intro n
  induction n with
  | zero => intro _; exact Nat.le_refl _
  | succ n ih =>
    intro h
    have h1 := ih (fun k hk => h k (by omega))
    have h2 := h n (by omega)
    rw [pn, pn]
    cases hf : f n with
    | false => simp; omega
    | true => rw [h2 hf]; simp; omega
theorem pn_lt {f g : Nat → Bool} : ∀ {n : Nat}, (∀ k, k < n → f k = true → g k = true) → (∃ k, k < n ∧ f k = false ∧ g k = true) → pn f n + 1 ≤ pn g n := by
  intro n
  induction n with
  | zero => intro _ h; obtain ⟨k, hk, _⟩ := h; omega
  | succ n ih =>
    intro h he
    obtain ⟨k, hk, e1, e2⟩ := he
    rw [pn, pn]
    have h2 := h n (by omega)
    by_cases c : k = n
    · rw [c] at e1 e2
      have h1 := pn_mono (n := n) (fun k hk => h k (by omega))
      rw [e1, e2]; simp; omega
    · have h1 := ih (fun k hk => h k (by omega)) ⟨k, by omega, e1, e2⟩
      cases hf : f n with
      | false => simp; omega
      | true => rw [h2 hf]; simp; omega
theorem pn_pos {f : Nat → Bool} {n k : Nat} (hk : k < n) (h : f k = true) : 1 ≤ pn f n := by
  have h0 : pn (fun _ => false) n = 0 := pn_0 (fun _ _ => rfl)
  have := pn_lt (f := fun _ => false) (g := f) (n := n) (fun k _ e => by cases e) ⟨k, hk, rfl, h⟩
  omega
/-! A WEEK THAT MAY BE: who moves in it; found by adding PAIRS by who brings -/
def sq (m : Int) (i o : Nat) : Int := ior (ior m (ishl 1 (i : Int))) (ishl 1 (o : Int))
theorem sq_b {m : Int} {f : Nat → Bool} {i o : Nat} (h : B10 m f) (hi : i < 10) (ho : o < 10) : B10 (sq m i o) (fun k => f k || decide (k = i) || decide (k = o)) := by
  have a := b10_1 (i := (i : Int)) (by omega)
  have b := b10_1 (i := (o : Int)) (by omega)
  have ei : ((i : Nat) : Int).toNat = i := by omega
  have eo : ((o : Nat) : Int).toNat = o := by omega
  rw [ei] at a
  rw [eo] at b
  exact b10_or (b10_or h a) b
theorem sq_t {m : Int} {i o k : Nat} (h : 0 ≤ m ∧ m ≤ 1023) (hi : i < 10) (ho : o < 10) (hk : k < 10) : bt (sq m i o) k = (bt m k || decide (k = i) || decide (k = o)) := (sq_b (b10_self h) hi ho).2 k hk
theorem sq_rg {m : Int} {i o : Nat} (h : 0 ≤ m ∧ m ≤ 1023) (hi : i < 10) (ho : o < 10) : 0 ≤ sq m i o ∧ sq m i o ≤ 1023 := (sq_b (b10_self h) hi ho).1
theorem pn_up {f f' : Nat → Bool} {i : Nat} : ∀ {n : Nat}, i < n → (∀ k, k < n → k ≠ i → f' k = f k) → f i = false → f' i = true → pn f' n = pn f n + 1 := by
  intro n
  induction n with
  | zero => intro h; omega
  | succ n ih =>
    intro hi h h0 h1
    rw [pn, pn]
    by_cases c : i = n
    · subst c
      have e : pn f' i = pn f i := pn_eq (fun k hk => h k (by omega) (by omega))
      rw [e, h0, h1]; simp
    · rw [ih (by omega) (fun k hk => h k (by omega)) h0 h1, h n (by omega) (by omega)]; omega
def CHD (P se : Int) (kn : Nat → Int) (br fr sy : Nat → Bool) (f m f' m' : Int) : Prop :=
  ∃ i o : Nat, f ≤ (i : Int) ∧ (i : Int) < P ∧ o < 10 ∧ br i = true ∧ fr o = true ∧ bt (kn i) o = true ∧ bt m o = false ∧ m' = sq m i o ∧ ((pn (fun k => sy k || bt m' k) 10 : Nat) : Int) ≤ se ∧ f' = (i : Int) + 1
def DRC (P se : Int) (kn : Nat → Int) (br fr sy : Nat → Bool) : Nat → Int → Int → Prop
  | 0, f, m => f = 0 ∧ m = 0
  | d + 1, f, m => ∃ f0 m0, DRC P se kn br fr sy d f0 m0 ∧ CHD P se kn br fr sy f0 m0 f m
theorem drc_rg {P se : Int} {kn : Nat → Int} {br fr sy : Nat → Bool} (hP : 0 ≤ P ∧ P ≤ 10) : ∀ {d : Nat} {f m : Int}, DRC P se kn br fr sy d f m → (0 ≤ m ∧ m ≤ 1023) ∧ 0 ≤ f ∧ f ≤ P := by
  intro d
  induction d with
  | zero => intro f m h; obtain ⟨h1, h2⟩ := h; omega
  | succ d ih =>
    intro f m h
    obtain ⟨f0, m0, h0, i, o, h1, h2, h3, h4, h5, h6, h7, h8, h9, h10⟩ := h
    obtain ⟨r1, r2, r3⟩ := ih h0
    rw [h8]
    exact ⟨sq_rg r1 (by omega) h3, by omega, by omega⟩
theorem drc_fr {P se : Int} {kn : Nat → Int} {br fr sy : Nat → Bool} (hP : 0 ≤ P ∧ P ≤ 10) (hd : ∀ k, k < 10 → br k = true → fr k = false) : ∀ {d : Nat} {f m : Int}, DRC P se kn br fr sy d f m → (∀ k : Nat, k < 10 → bt m k = true → br k = true → (k : Int) < f) ∧ ((f = 0 ∧ m = 0) ∨ ∃ k : Nat, (k : Int) + 1 = f ∧ k < 10 ∧ bt m k = true ∧ br k = true) ∧ ∀ k : Nat, k < 10 → bt m k = true → ((k : Int) < P ∧ br k = true) ∨ fr k = true := by
  intro d
  induction d with
  | zero =>
    intro f m h
    obtain ⟨h1, h2⟩ := h
    refine ⟨fun k _ hb => ?_, Or.inl ⟨h1, h2⟩, fun k _ hb => ?_⟩ <;> rw [h2, bt_0] at hb <;> cases hb
  | succ d ih =>
    intro f m h
    obtain ⟨f0, m0, h0, i, o, h1, h2, h3, h4, h5, h6, h7, h8, h9, h10⟩ := h
    have r := drc_rg hP h0
    obtain ⟨q1, q2, q3⟩ := ih h0
    refine ⟨fun k hk hb hbr => ?_, Or.inr ⟨i, by omega, by omega, ?_, h4⟩, fun k hk hb => ?_⟩
    · rw [h8, sq_t r.1 (by omega) h3 hk, Bool.or_eq_true, Bool.or_eq_true, decide_eq_true_iff, decide_eq_true_iff] at hb
      rcases hb with (e | e) | e
      · have := q1 k hk e hbr; omega
      · omega
      · rw [e] at hbr; rw [hd o h3 hbr] at h5; cases h5
    · rw [h8, sq_t r.1 (by omega) h3 (by omega)]; simp
    · rw [h8, sq_t r.1 (by omega) h3 hk, Bool.or_eq_true, Bool.or_eq_true, decide_eq_true_iff, decide_eq_true_iff] at hb
      rcases hb with (e | e) | e
      · exact q3 k hk e
      · rw [e]; exact Or.inl ⟨h2, h4⟩
      · rw [e]; exact Or.inr h5
theorem drc_one {P se : Int} {kn : Nat → Int} {br fr sy : Nat → Bool} (hP : 0 ≤ P ∧ P ≤ 10) (hd : ∀ k, k < 10 → br k = true → fr k = false) {d d' : Nat} {f f' m : Int} (h : DRC P se kn br fr sy d f m) (h' : DRC P se kn br fr sy d' f' m) : f = f' := by
  obtain ⟨a1, a2, _⟩ := drc_fr hP hd h
  obtain ⟨b1, b2, _⟩ := drc_fr hP hd h'
  have le : ∀ {f f' : Int}, ((f = 0 ∧ m = 0) ∨ ∃ k : Nat, (k : Int) + 1 = f ∧ k < 10 ∧ bt m k = true ∧ br k = true) → (∀ k : Nat, k < 10 → bt m k = true → br k = true → (k : Int) < f') → 0 ≤ f' → f ≤ f' := by
    intro f f' h1 h2 h0
    rcases h1 with ⟨e, _⟩ | ⟨k, e, hk, e1, e2⟩
    · omega
    · have := h2 k hk e1 e2; omega
  have := le a2 b1 (drc_rg hP h').2.1
  have := le b2 a1 (drc_rg hP h).2.1
  omega
/-- one more PAIR: who brings and who is brought are new -/
theorem chd_new {P se : Int} {kn : Nat → Int} {br fr sy : Nat → Bool} (hP : 0 ≤ P ∧ P ≤ 10) (hd : ∀ k, k < 10 → br k = true → fr k = false) {d : Nat} {f m : Int} {i o : Nat} (h : DRC P se kn br fr sy d f m) (h1 : f ≤ (i : Int)) (hi : i < 10) (ho : o < 10) (hbr : br i = true) (hfr : fr o = true) : bt m i = false ∧ i ≠ o := by
  refine ⟨?_, fun e => ?_⟩
  · cases hb : bt m i with
    | false => rfl
    | true => have := (drc_fr hP hd h).1 i hi hb hbr; omega
  · rw [← e, hd i hi hbr] at hfr; cases hfr
theorem drc_pn {P se : Int} {kn : Nat → Int} {br fr sy : Nat → Bool} (hP : 0 ≤ P ∧ P ≤ 10) (hd : ∀ k, k < 10 → br k = true → fr k = false) : ∀ {d : Nat} {f m : Int}, DRC P se kn br fr sy d f m → pn (bt m) 10 = 2 * d ∧ cn (fun q => xor (bt m q) (br q)) = cn br := by
  intro d
  induction d with
  | zero =>
    intro f m h
    obtain ⟨h1, h2⟩ := h
    rw [h2]
    refine ⟨pn_0 (fun k _ => bt_0 k), ?_⟩
    congr 1
    funext q
    rw [bt_0]; simp
  | succ d ih =>
    intro f m h
    obtain ⟨f0, m0, h0, i, o, h1, h2, h3, h4, h5, h6, h7, h8, h9, h10⟩ := h
    have r := drc_rg hP h0
    obtain ⟨q1, q2⟩ := ih h0
    have hi : i < 10 := by omega
    obtain ⟨n1, n2⟩ := chd_new hP hd h0 h1 hi h3 h4 h5
    have hbo : br o = false := by
      cases hb : br o with
      | false => rfl
      | true => rw [hd o h3 hb] at h5; cases h5
    have st : ∀ k, k < 10 → bt m k = (bt m0 k || decide (k = i) || decide (k = o)) := fun k hk => by rw [h8]; exact sq_t r.1 hi h3 hk
    constructor
    · have e1 := pn_up (f := bt m0) (f' := fun k => bt m0 k || decide (k = i)) (i := i) (n := 10) hi (fun k _ hn => by rw [decide_eq_false hn, Bool.or_false]) n1 (by rw [decide_eq_true rfl, Bool.or_true])
      have e2 := pn_up (f := fun k => bt m0 k || decide (k = i)) (f' := bt m) (i := o) (n := 10) h3 (fun k hk hn => by rw [st k hk, decide_eq_false hn, Bool.or_false]) (by rw [h7, decide_eq_false (fun e => n2 e.symm)]; rfl) (by rw [st o h3, decide_eq_true rfl, Bool.or_true])
      omega
    · have e1 := cn_up (f := fun k => xor (bt m0 k) (br k) && !decide (k = i)) (f' := fun k => xor (bt m0 k) (br k)) (i := i) hi (fun k _ hn => by rw [decide_eq_false hn]; simp) (by simp) (by rw [n1, h4]; rfl)
      have e2 := cn_up (f := fun k => xor (bt m0 k) (br k) && !decide (k = i)) (f' := fun k => xor (bt m k) (br k)) (i := o) h3 (fun k hk hn => by
        rw [st k hk, decide_eq_false hn, Bool.or_false]
        by_cases c : k = i
        · rw [c, decide_eq_true rfl, n1, h4]; rfl
        · rw [decide_eq_false c]; simp) (by rw [h7, hbo]; rfl) (by rw [st o h3, decide_eq_true rfl, hbo]; simp)
      omega
/-- who moves in some WEEK that may be -/
def MOV (P se : Int) (kn : Nat → Int) (br fr sy : Nat → Bool) (m : Int) : Prop := ∃ (d : Nat) (f : Int), DRC P se kn br fr sy d f m
/-- 252 at most -/
theorem mov_few {P se : Int} {kn : Nat → Int} {br fr sy : Nat → Bool} (hP : 0 ≤ P ∧ P ≤ 10) (hd : ∀ k, k < 10 → br k = true → fr k = false) {n : Nat} {F : Nat → Int} (h : ∀ j, j < n → MOV P se kn br fr sy (F j)) (hi : ∀ i j, i < n → j < n → F i = F j → i = j) : n ≤ 252 := by
  refine few (cn_le br) (fun j q => xor (bt (F j) q) (br q)) (fun j hj => ?_) (fun i j hi1 hj e => ?_)
  · obtain ⟨d, f, h1⟩ := h j hj
    exact (drc_pn hP hd h1).2
  · obtain ⟨d, f, h1⟩ := h i hi1
    obtain ⟨d', f', h2⟩ := h j hj
    refine hi i j hi1 hj (bt_ext (drc_rg hP h1).1 (drc_rg hP h2).1 (fun q hq => ?_))
    have h := e q hq
    cases h3 : bt (F i) q <;> cases h4 : bt (F j) q <;> cases h5 : br q <;> simp [h3, h4, h5] at h ⊢
/-- the lowest of some -/
def lwb (x : Int) : Nat → Nat
  | 0 => 0
  | n + 1 => if bt x (9 - n) = true then 9 - n else lwb x n
theorem lwb_e : (List.range 1024).all (fun n => n == 0 || ((Nat.blt (lwb (n : Int) 10) 10 && (bt (n : Int) (lwb (n : Int) 10) && (iand (n : Int) (w32 (-(n : Int))) == ishl 1 ((lwb (n : Int) 10 : Nat) : Int)))) && (List.range 10).all fun k => (Nat.ble (lwb (n : Int) 10) k || !bt (n : Int) k) && (bt (iand (n : Int) (w32 ((n : Int) - 1))) k == (bt (n : Int) k && !(k == lwb (n : Int) 10))))) = true := by decide +kernel
theorem lw_sp {x : Int} (h : 0 ≤ x ∧ x ≤ 1023) (h0 : x ≠ 0) : ∃ o : Nat, o < 10 ∧ bt x o = true ∧ (∀ k, k < o → bt x k = false) ∧ iand x (w32 (-x)) = ishl 1 (o : Int) ∧ B10 (iand x (w32 (x - 1))) (fun k => bt x k && !decide (k = o)) := by
  have h1 := List.all_eq_true.mp lwb_e x.toNat (List.mem_range.mpr (by omega))
  have ex : ((x.toNat : Nat) : Int) = x := by omega
  rw [ex, Bool.or_eq_true, beq_iff_eq, Bool.and_eq_true, Bool.and_eq_true, Bool.and_eq_true, Nat.blt_eq, beq_iff_eq] at h1
  have h2 := h1.resolve_left (by omega)
  obtain ⟨⟨a1, a2, a3⟩, a4⟩ := h2
  have hk : ∀ k, k < 10 → (lwb x 10 ≤ k ∨ bt x k = false) ∧ bt (iand x (w32 (x - 1))) k = (bt x k && !(k == lwb x 10)) := fun k hk => by
    have := List.all_eq_true.mp a4 k (List.mem_range.mpr hk)
    rw [Bool.and_eq_true, Bool.or_eq_true, Nat.ble_eq, Bool.not_eq_true', beq_iff_eq] at this
    exact this
  refine ⟨lwb x 10, a1, a2, fun k hlt => ?_, a3, ?_⟩
  · rcases (hk k (by omega)).1 with e | e
    · omega
    · exact e
  · have r := iand_l (x := x) (y := w32 (x - 1)) (by omega)
    refine ⟨by omega, fun k hk10 => ?_⟩
    show bt (iand x (w32 (x - 1))) k = (bt x k && !decide (k = lwb x 10))
    rw [(hk k hk10).2]
    by_cases c : k = lwb x 10
    · rw [beq_iff_eq.mpr c, decide_eq_true c]
    · rw [beq_eq_false_iff_ne.mpr c, decide_eq_false c]
theorem hi0_e : (List.range 1024).all (fun n => iand (n : Int) (-1024) == 0) = true := by decide +kernel
theorem hiz {x : Int} (h : 0 ≤ x ∧ x ≤ 1023) : iand x (-1024) = 0 := by
  have h1 := eq_of_beq (List.all_eq_true.mp hi0_e x.toNat (List.mem_range.mpr (by omega)))
  rw [show ((x.toNat : Nat) : Int) = x by omega] at h1
  exact h1
/-! ALL WEEKS THAT MAY BE, AS THE CLASS FINDS THEM -/
def FM (w u : Wd) : Prop := (∀ c, c ≠ 24 → c ≠ 25 → c ≠ 26 → c ≠ 27 → u c = w c) ∧ (∀ k, k ≠ 3 → u 24 k = w 24 k) ∧ ∀ k, u 27 k = w 27 k ∨ u 27 k = w 24 4
theorem fm_self (w : Wd) : FM w w := ⟨fun _ _ _ _ _ => rfl, fun _ _ => rfl, fun _ => Or.inl rfl⟩
theorem fm_tr {w u v : Wd} (h : FM w u) (h2 : FM u v) : FM w v := ⟨fun c a b d e => (h2.1 c a b d e).trans (h.1 c a b d e), fun k hk => (h2.2.1 k hk).trans (h.2.1 k hk), fun k => by
  have e4 := h.2.1 4 (by decide)
  rcases h2.2.2 k with e | e
  · rw [e]; exact h.2.2 k
  · exact Or.inr (e.trans e4)⟩
def MCx (P se rd : Int) (kn : Nat → Int) (br fr sy : Nat → Bool) (w : Wd) : Prop := w 5 3 = P ∧ (∀ j : Nat, (j : Int) < P → w 7 j = kn j) ∧ B10 (w 24 6) br ∧ B10 (w 24 7) fr ∧ B10 (w 24 8) sy ∧ w 24 9 = se ∧ w 24 4 = rd
theorem mc_fm {P se rd : Int} {kn : Nat → Int} {br fr sy : Nat → Bool} {w u : Wd} (h : MCx P se rd kn br fr sy w) (f : FM w u) : MCx P se rd kn br fr sy u := by
  unfold MCx
  rw [f.1 5 (by decide) (by decide) (by decide) (by decide), f.1 7 (by decide) (by decide) (by decide) (by decide), f.2.1 6 (by decide), f.2.1 7 (by decide), f.2.1 8 (by decide), f.2.1 9 (by decide), f.2.1 4 (by decide)]
  exact h
def vis (rd : Int) (w : Wd) (m : Int) : Prop := (0 ≤ m ∧ m ≤ 1023) ∧ w 27 m.toNat = rd
def LSx (rd : Int) (M : Int → Prop) (w : Wd) : Prop := 0 ≤ w 24 3 ∧ (∀ k : Nat, (k : Int) < w 24 3 → vis rd w (w 25 k) ∧ M (w 25 k)) ∧ (∀ i j : Nat, (i : Int) < w 24 3 → (j : Int) < w 24 3 → w 25 i = w 25 j → i = j) ∧ (∀ m, vis rd w m → ∃ k : Nat, (k : Int) < w 24 3 ∧ w 25 k = m) ∧ ∀ k : Nat, (k : Int) < w 24 3 → (k = 0 ∧ w 25 k = 0) ∨ (0 < k ∧ 0 ≤ w 26 k ∧ w 26 k < (k : Int) ∧ pn (bt (w 25 k)) 10 = pn (bt (w 25 (w 26 k).toNat)) 10 + 2)
def CLO (P se rd : Int) (kn : Nat → Int) (br fr sy : Nat → Bool) (u : Wd) (x : Int) : Prop := ∀ (d : Nat) (f f' m' : Int), DRC P se kn br fr sy d f x → CHD P se kn br fr sy f x f' m' → vis rd u m'
/-- from w on, all that is new but m has all its children -/
def DL (P se rd : Int) (kn : Nat → Int) (br fr sy : Nat → Bool) (w u : Wd) (m : Int) : Prop := FM w u ∧ LSx rd (MOV P se kn br fr sy) u ∧ (w 24 3 ≤ u 24 3 ∧ (∀ k : Nat, (k : Int) < w 24 3 → u 25 k = w 25 k)) ∧ (∀ x, vis rd w x → vis rd u x) ∧ vis rd u m ∧ ∀ x, vis rd u x → vis rd w x ∨ x = m ∨ CLO P se rd kn br fr sy u x
def DN (P se rd : Int) (kn : Nat → Int) (br fr sy : Nat → Bool) (w u : Wd) (m : Int) : Prop := FM w u ∧ LSx rd (MOV P se kn br fr sy) u ∧ (w 24 3 ≤ u 24 3 ∧ (∀ k : Nat, (k : Int) < w 24 3 → u 25 k = w 25 k)) ∧ (∀ x, vis rd w x → vis rd u x) ∧ vis rd u m ∧ ∀ x, vis rd u x → vis rd w x ∨ CLO P se rd kn br fr sy u x
theorem dl_dn {P se rd : Int} {kn : Nat → Int} {br fr sy : Nat → Bool} {w u v : Wd} {m x : Int} (h : DL P se rd kn br fr sy w u m) (h2 : DN P se rd kn br fr sy u v x) : DL P se rd kn br fr sy w v m := by
  obtain ⟨a1, a2, a3, a4, a5, a6⟩ := h
  obtain ⟨b1, b2, b3, b4, b5, b6⟩ := h2
  refine ⟨fm_tr a1 b1, b2, ⟨by omega, fun k hk => (b3.2 k (by omega)).trans (a3.2 k hk)⟩, fun y hy => b4 y (a4 y hy), b4 m a5, fun y hy => ?_⟩
  rcases b6 y hy with h1 | h1
  · rcases a6 y h1 with h2 | h2 | h2
    · exact Or.inl h2
    · exact Or.inr (Or.inl h2)
    · exact Or.inr (Or.inr (fun d f f' m' e1 e2 => b4 m' (h2 d f f' m' e1 e2)))
  · exact Or.inr (Or.inr h1)
def CDN (P se rd : Int) (kn : Nat → Int) (br fr sy : Nat → Bool) (f m : Int) (u : Wd) (one : Int) (oo : Nat → Bool) : Prop := ∀ i o : Nat, f ≤ (i : Int) → (i : Int) < P → o < 10 → br i = true → fr o = true → bt (kn i) o = true → bt m o = false → ((pn (fun k => sy k || bt (sq m i o) k) 10 : Nat) : Int) ≤ se → ((i : Int) < one ∨ ((i : Int) = one ∧ oo o = false)) → vis rd u (sq m i o)
theorem sp135 {P se rd : Int} {kn : Nat → Int} {br fr sy : Nat → Bool} (hP : 0 ≤ P ∧ P ≤ 10) (hd : ∀ k, k < 10 → br k = true → fr k = false) {rec : Int → Int → Int → Wd → Option (Int × Wd)} {k83 : Int → Int → Int → Wd → Option (Int × Wd)} {w0 : Wd} {d : Nat} {f m v4 v5 : Int} {Q : Int → Wd → Prop} (hm : DRC P se kn br fr sy d f m) (h5 : f ≤ v5 ∧ v5 < P) (hf : 0 ≤ f)
    (hrec : ∀ {d' : Nat} {f' m' b : Int} {u : Wd}, MCx P se rd kn br fr sy u → LSx rd (MOV P se kn br fr sy) u → DRC P se kn br fr sy d' f' m' → (0 ≤ b ∧ b < u 24 3 ∧ pn (bt m') 10 = pn (bt (u 25 b.toNat)) 10 + 2) → PC (rec f' m' b u) (fun _ v => DN P se rd kn br fr sy u v m'))
    (hk : ∀ u, MCx P se rd kn br fr sy u → DL P se rd kn br fr sy w0 u m → (0 ≤ v4 ∧ v4 < u 24 3 ∧ u 25 v4.toNat = m) → CDN P se rd kn br fr sy f m u (v5 + 1) (fun _ => true) → PC (k83 m v4 (v5 + 1) u) Q) :
    ∀ (n : Nat) {v6 v7 : Int} {u : Wd} {oo : Nat → Bool}, 0 ≤ v7 → v7 + ((pn oo 10 : Nat) : Int) ≤ 10 → B10 v6 oo → (∀ o, o < 10 → oo o = true → br v5.toNat = true ∧ fr o = true ∧ bt (kn v5.toNat) o = true ∧ bt m o = false) → MCx P se rd kn br fr sy u → DL P se rd kn br fr sy w0 u m → (0 ≤ v4 ∧ v4 < u 24 3 ∧ u 25 v4.toNat = m) → CDN P se rd kn br fr sy f m u v5 oo → PC (f_M_spread_135 rec k83 n m v4 v5 v6 v7 u) Q := by
  intro n
  induction n with
  | zero => intros; exact pc_none
  | succ n ih =>
    intro v6 v7 u oo i7 i8 hB ho hM hL h4 hC
    rw [f_M_spread_135]
    have fin : (∀ o, o < 10 → oo o = false) → PC (f_M_spread_206 rec k83 m v4 v5 u) Q := fun hz => by
      unfold f_M_spread_206
      refine pc_let (fun x e => ?_)
      rw [w32_id (by omega)] at e
      rw [e]
      refine hk u hM hL h4 (fun i o a1 a2 a3 a4 a5 a6 a7 a8 a9 => hC i o a1 a2 a3 a4 a5 a6 a7 a8 ?_)
      rcases a9 with a9 | a9
      · by_cases c : (i : Int) < v5
        · exact Or.inl c
        · exact Or.inr ⟨by omega, hz o a3⟩
      · cases a9.2
    refine pc_ite (fun c => fin (fun o h10 => ?_)) (fun c => ?_)
    · cases hb : oo o with
      | false => rfl
      | true => have := pn_pos (f := oo) h10 hb; omega
    refine pc_ite (fun c0 => fin (fun o h10 => ?_)) (fun c0 => ?_)
    · rw [← hB.2 o h10, c0, bt_0]
    obtain ⟨o, ho10, e1, e2, e3, e4⟩ := lw_sp hB.1 c0
    rw [e3]
    have hoo : oo o = true := by rw [← hB.2 o ho10]; exact e1
    obtain ⟨b1, b2, b3, b4⟩ := ho o ho10 hoo
    have hmr := (drc_rg hP hm).1
    have e5 : v5 = ((v5.toNat : Nat) : Int) := by omega
    refine pc_let (fun x9 e9 => pc_let (fun x10 e10 => ?_))
    have e9' : x9 = sq m v5.toNat o := by rw [e9]; unfold sq; rw [← e5]
    have r9 : 0 ≤ x9 ∧ x9 ≤ 1023 := by rw [e9']; exact sq_rg hmr (by omega) ho10
    rw [← e10] at e4
    rw [bcs_e (b10_or hM.2.2.2.2.1 (b10_self r9)) u, jc_s, hM.2.2.2.2.2.1]
    have hB' : B10 x10 (fun k => oo k && !decide (k = o)) := b10_w e4 (fun k hk => by rw [hB.2 k hk])
    have hpn : pn oo 10 = pn (fun k => oo k && !decide (k = o)) 10 + 1 := pn_up (f := fun k => oo k && !decide (k = o)) (f' := oo) (i := o) ho10 (fun k _ hn => by rw [decide_eq_false hn]; simp) (by simp) hoo
    have ho' : ∀ o', o' < 10 → (oo o' && !decide (o' = o)) = true → br v5.toNat = true ∧ fr o' = true ∧ bt (kn v5.toNat) o' = true ∧ bt m o' = false := fun o' h10 e => ho o' h10 (by rw [Bool.and_eq_true] at e; exact e.1)
    have f200 : ∀ v, MCx P se rd kn br fr sy v → DL P se rd kn br fr sy w0 v m → (0 ≤ v4 ∧ v4 < v 24 3 ∧ v 25 v4.toNat = m) → CDN P se rd kn br fr sy f m v v5 (fun k => oo k && !decide (k = o)) → PC (f_M_spread_200 rec k83 (f_M_spread_135 rec k83 n) m v4 v5 x10 v7 v) Q := fun v hMv hLv h4v hCv => by
      unfold f_M_spread_200
      refine pc_let (fun x e => ?_)
      rw [w32_id (by omega)] at e
      rw [e]
      exact ih (by omega) (by omega) hB' ho' hMv hLv h4v hCv
    refine pc_ite (fun hs => f200 u hM hL h4 (fun i o' a1 a2 a3 a4 a5 a6 a7 a8 a9 => ?_)) (fun hs => ?_)
    · by_cases c9 : (i : Int) = v5 ∧ o' = o
      · exfalso
        rw [show i = v5.toNat by omega, c9.2, ← e9'] at a8
        omega
      · refine hC i o' a1 a2 a3 a4 a5 a6 a7 a8 ?_
        rcases a9 with a9 | a9
        · exact Or.inl a9
        · refine Or.inr ⟨a9.1, ?_⟩
          have a92 : (oo o' && !decide (o' = o)) = false := a9.2
          rw [decide_eq_false (fun e => c9 ⟨a9.1, e⟩)] at a92
          simpa using a92
    · have hD : DRC P se kn br fr sy (d + 1) (v5 + 1) x9 := ⟨f, m, hm, v5.toNat, o, by omega, by omega, ho10, b1, b2, b3, b4, e9', by omega, by omega⟩
      have hpm := (drc_pn hP hd hm).1
      have hpx := (drc_pn hP hd hD).1
      rw [w32_id (by omega)]
      refine pc_call (hrec hM hL.2.1 hD (b := v4) ⟨h4.1, h4.2.1, by rw [h4.2.2]; omega⟩) (fun r14 v q => ?_)
      have hMv := mc_fm hM q.1
      have hLv := dl_dn hL q
      refine f200 v hMv hLv ⟨h4.1, by have := q.2.2.1.1; omega, by rw [q.2.2.1.2 v4.toNat (by omega)]; exact h4.2.2⟩ (fun i o' a1 a2 a3 a4 a5 a6 a7 a8 a9 => ?_)
      by_cases c9 : (i : Int) = v5 ∧ o' = o
      · rw [show i = v5.toNat by omega, c9.2, ← e9']
        exact q.2.2.2.2.1
      · refine q.2.2.2.1 _ (hC i o' a1 a2 a3 a4 a5 a6 a7 a8 ?_)
        rcases a9 with a9 | a9
        · exact Or.inl a9
        · refine Or.inr ⟨a9.1, ?_⟩
          have a92 : (oo o' && !decide (o' = o)) = false := a9.2
          rw [decide_eq_false (fun e => c9 ⟨a9.1, e⟩)] at a92
          simpa using a92
theorem sp83 {P se rd : Int} {kn : Nat → Int} {br fr sy : Nat → Bool} (hP : 0 ≤ P ∧ P ≤ 10) (hd : ∀ k, k < 10 → br k = true → fr k = false) (hkn : ∀ j : Nat, (j : Int) < P → 0 ≤ kn j ∧ kn j ≤ 1023) {rec : Int → Int → Int → Wd → Option (Int × Wd)} {w0 : Wd} {d : Nat} {f m v4 : Int} (hm : DRC P se kn br fr sy d f m) (hf : 0 ≤ f)
    (hrec : ∀ {d' : Nat} {f' m' b : Int} {u : Wd}, MCx P se rd kn br fr sy u → LSx rd (MOV P se kn br fr sy) u → DRC P se kn br fr sy d' f' m' → (0 ≤ b ∧ b < u 24 3 ∧ pn (bt m') 10 = pn (bt (u 25 b.toNat)) 10 + 2) → PC (rec f' m' b u) (fun _ v => DN P se rd kn br fr sy u v m')) :
    ∀ (n : Nat) {v5 : Int} {u : Wd}, f ≤ v5 → v5 ≤ P → MCx P se rd kn br fr sy u → DL P se rd kn br fr sy w0 u m → (0 ≤ v4 ∧ v4 < u 24 3 ∧ u 25 v4.toNat = m) → CDN P se rd kn br fr sy f m u v5 (fun _ => true) → PC (f_M_spread_83 rec n m v4 v5 u) (fun _ v => DN P se rd kn br fr sy w0 v m) := by
  intro n
  induction n with
  | zero => intros; exact pc_none
  | succ n ih =>
    intro v5 u i5 i6 hM hL h4 hC
    rw [f_M_spread_83]
    refine pc_gd (fun _ => ?_)
    have hmr := (drc_rg hP hm).1
    rw [hM.1]
    refine pc_ite (fun c => pc_some ?_) (fun c => ?_)
    · obtain ⟨a1, a2, a3, a4, a5, a6⟩ := hL
      refine ⟨a1, a2, a3, a4, a5, fun x hx => ?_⟩
      rcases a6 x hx with e | e | e
      · exact Or.inl e
      · refine Or.inr (fun d' f1 f' m' e1 e2 => ?_)
        rw [e] at e1 e2
        obtain ⟨i, o, h1, h2, h3, g4, h5, h6, h7, h8, h9, h10⟩ := e2
        have ef := drc_one hP hd e1 hm
        rw [h8]
        rw [h8] at h9
        exact hC i o (by omega) h2 h3 g4 h5 h6 h7 h9 (Or.inl (by omega))
      · exact Or.inr e
    · have nx : ∀ (v6 : Int) (oo : Nat → Bool), B10 v6 oo → (∀ o, o < 10 → oo o = true → br v5.toNat = true ∧ fr o = true ∧ bt (kn v5.toNat) o = true ∧ bt m o = false) → CDN P se rd kn br fr sy f m u v5 oo → PC (f_M_spread_130 rec (f_M_spread_83 rec n) m v4 v5 v6 u) (fun _ v => DN P se rd kn br fr sy w0 v m) := fun v6 oo hB ho hC2 => by
        unfold f_M_spread_130
        have := pn_le oo 10
        exact sp135 hP hd hm ⟨i5, by omega⟩ hf hrec (fun v hMv hLv h4v hCv => ih (by omega) (by omega) hMv hLv h4v hCv) FU (by decide) (by omega) hB ho hM hL h4 hC2
      rw [has_10 u hM.2.2.1 (by omega), jc_s]
      cases hb : br v5.toNat with
      | false =>
        refine pc_ite (fun _ => nx 0 (fun _ => false) b10_0 (fun o _ e => by cases e) (fun i o a1 a2 a3 a4 a5 a6 a7 a8 a9 => ?_)) (fun e => absurd rfl e)
        rcases a9 with a9 | a9
        · exact hC i o a1 a2 a3 a4 a5 a6 a7 a8 (Or.inl a9)
        · rw [show i = v5.toNat by omega, hb] at a4; cases a4
      | true =>
        refine pc_ite (fun e => absurd e (by decide)) (fun _ => ?_)
        refine pc_gd (fun _ => pc_gd (fun _ => ?_))
        have hj := hkn v5.toNat (by omega)
        rw [hM.2.1 v5.toNat (by omega)]
        have hB := b10_andn (b10_and (b10_self hj) hM.2.2.2.1.2) (b10_self hmr).2
        refine nx _ _ hB (fun o h10 e => ?_) (fun i o a1 a2 a3 a4 a5 a6 a7 a8 a9 => ?_)
        · rw [Bool.and_eq_true, Bool.and_eq_true, Bool.not_eq_true'] at e
          exact ⟨hb, e.1.2, e.1.1, e.2⟩
        · rcases a9 with a9 | a9
          · exact hC i o a1 a2 a3 a4 a5 a6 a7 a8 (Or.inl a9)
          · exfalso
            have a92 : (bt (kn v5.toNat) o && fr o && !bt m o) = false := a9.2
            rw [show v5.toNat = i by omega, a6, a5, a7] at a92
            cases a92
theorem spr_pc {P se rd : Int} {kn : Nat → Int} {br fr sy : Nat → Bool} (hP : 0 ≤ P ∧ P ≤ 10) (hd : ∀ k, k < 10 → br k = true → fr k = false) (hkn : ∀ j : Nat, (j : Int) < P → 0 ≤ kn j ∧ kn j ≤ 1023) : ∀ (D : Nat) {d : Nat} {f m b : Int} {w : Wd}, MCx P se rd kn br fr sy w → LSx rd (MOV P se kn br fr sy) w → DRC P se kn br fr sy d f m → ((w 24 3 = 0 ∧ m = 0) ∨ (0 ≤ b ∧ b < w 24 3 ∧ pn (bt m) 10 = pn (bt (w 25 b.toNat)) 10 + 2)) → PC (f_M_spread D f m b w) (fun _ u => DN P se rd kn br fr sy w u m) := by
  intro D
  induction D with
  | zero => intros; exact pc_none
  | succ D ih =>
    intro d f m b w hM hL hm hb
    rw [f_M_spread]
    unfold f_M_spread_b
    obtain ⟨hmr, hf0, hfP⟩ := drc_rg hP hm
    have hw252 : w 24 3 ≤ 252 := by
      have := mov_few hP hd (n := (w 24 3).toNat) (F := w 25) (fun j hj => (hL.2.1 j (by omega)).2) (fun i j hi hj e => hL.2.2.1 i j (by omega) (by omega) e)
      omega
    have h0 := hL.1
    refine pc_ite (fun c => by omega) (fun _ => ?_)
    refine pc_ite (fun c => by omega) (fun _ => ?_)
    refine pc_ite (fun _ => ?_) (fun c => absurd (hiz hmr) c)
    refine pc_gd (fun _ => ?_)
    rw [hM.2.2.2.2.2.2]
    refine pc_ite (fun c => pc_some ?_) (fun c => ?_)
    · exact ⟨fm_self w, hL, ⟨Int.le_refl _, fun _ _ => rfl⟩, fun _ h => h, ⟨hmr, c⟩, fun _ h => Or.inl h⟩
    · refine pc_let (fun x1 e1 => pc_gd (fun _ => pc_lw (fun u2 e2 => pc_gd (fun _ => pc_lw (fun u3 e3 => pc_gd (fun _ => pc_lw (fun u4 e4 => pc_lw (fun u5 e5 => ?_))))))))
      have s4 : u4 24 3 = w 24 3 := by rw [e4, st_c (by decide), e3, st_c (by decide), e2, st_c (by decide)]
      have z5 : u5 24 3 = w 24 3 + 1 := by rw [e5, st_eq, s4, w32_id (by omega)]
      have z27 : ∀ k, u5 27 k = if k = m.toNat then rd else w 27 k := fun k => by
        rw [e5, st_c (by decide), e4, st_c (by decide), e3, st_c (by decide), e2]
        by_cases ck : k = m.toNat
        · rw [if_pos ck, ck, st_eq]
        · rw [if_neg ck, st_k ck]
      have z25 : ∀ k, u5 25 k = if k = (w 24 3).toNat then m else w 25 k := fun k => by
        rw [e5, st_c (by decide), e4, st_c (by decide), e3, e1]
        by_cases ck : k = (w 24 3).toNat
        · rw [if_pos ck, ck, st_eq]
        · rw [if_neg ck, st_k ck, e2, st_c (by decide)]
      have z26 : ∀ k, u5 26 k = if k = (w 24 3).toNat then b else w 26 k := fun k => by
        rw [e5, st_c (by decide), e4, e1]
        by_cases ck : k = (w 24 3).toNat
        · rw [if_pos ck, ck, st_eq]
        · rw [if_neg ck, st_k ck, e3, st_c (by decide), e2, st_c (by decide)]
      have f5 : FM w u5 := by
        refine ⟨fun c a1 a2 a3 a4 => ?_, fun k hk => ?_, fun k => ?_⟩
        · rw [e5, st_row a1, e4, st_row a3, e3, st_row a2, e2, st_row a4]
        · rw [e5, st_k hk, e4, st_c (by decide), e3, st_c (by decide), e2, st_c (by decide)]
        · rw [z27, hM.2.2.2.2.2.2]
          by_cases ck : k = m.toNat
          · rw [if_pos ck]; exact Or.inr rfl
          · rw [if_neg ck]; exact Or.inl rfl
      have vnew : vis rd u5 m := ⟨hmr, by rw [z27, if_pos rfl]⟩
      have vold : ∀ x, vis rd w x → vis rd u5 x := fun x hx => ⟨hx.1, by
        rw [z27]
        split
        · rfl
        · exact hx.2⟩
      have vback : ∀ x, vis rd u5 x → vis rd w x ∨ x = m := fun x hx => by
        by_cases ck : x.toNat = m.toNat
        · have := hx.1; exact Or.inr (by omega)
        · have h2 := hx.2
          rw [z27, if_neg ck] at h2
          exact Or.inl ⟨hx.1, h2⟩
      have nvm : ¬ vis rd w m := fun hv => c hv.2
      have z25o : ∀ k : Nat, (k : Int) < w 24 3 → u5 25 k = w 25 k := fun k hk => by rw [z25, if_neg (by omega)]
      have z25n : u5 25 (w 24 3).toNat = m := by rw [z25, if_pos rfl]
      have L5 : LSx rd (MOV P se kn br fr sy) u5 := by
        refine ⟨by omega, fun k hk => ?_, fun i j hi hj e => ?_, fun x hx => ?_, fun k hk => ?_⟩
        · by_cases ck : (k : Int) < w 24 3
          · rw [z25o k ck]
            exact ⟨vold _ (hL.2.1 k ck).1, (hL.2.1 k ck).2⟩
          · rw [show k = (w 24 3).toNat by omega, z25n]
            exact ⟨vnew, d, f, hm⟩
        · by_cases ci : (i : Int) < w 24 3
          · by_cases cj : (j : Int) < w 24 3
            · rw [z25o i ci, z25o j cj] at e
              exact hL.2.2.1 i j ci cj e
            · rw [z25o i ci, show j = (w 24 3).toNat by omega, z25n] at e
              have := (hL.2.1 i ci).1
              rw [e] at this
              exact absurd this nvm
          · by_cases cj : (j : Int) < w 24 3
            · rw [z25o j cj, show i = (w 24 3).toNat by omega, z25n] at e
              have := (hL.2.1 j cj).1
              rw [← e] at this
              exact absurd this nvm
            · omega
        · rcases vback x hx with h1 | h1
          · obtain ⟨k, hk, ek⟩ := hL.2.2.2.1 x h1
            exact ⟨k, by omega, by rw [z25o k hk]; exact ek⟩
          · exact ⟨(w 24 3).toNat, by omega, by rw [z25n, h1]⟩
        · by_cases ck : (k : Int) < w 24 3
          · rw [z25o k ck, z26, if_neg (by omega)]
            rcases hL.2.2.2.2 k ck with h1 | ⟨h1, h2, h3, h4⟩
            · exact Or.inl h1
            · refine Or.inr ⟨h1, h2, h3, ?_⟩
              rw [z25o (w 26 k).toNat (by omega)]
              exact h4
          · have ek : k = (w 24 3).toNat := by omega
            rw [ek, z25n, z26, if_pos rfl]
            rcases hb with ⟨h1, h2⟩ | ⟨h1, h2, h3⟩
            · exact Or.inl ⟨by omega, h2⟩
            · refine Or.inr ⟨by omega, h1, by omega, ?_⟩
              rw [z25o b.toNat (by omega)]
              exact h3
      have D5 : DL P se rd kn br fr sy w u5 m := ⟨f5, L5, ⟨by omega, z25o⟩, vold, vnew, fun x hx => (vback x hx).elim Or.inl (fun e => Or.inr (Or.inl e))⟩
      rw [e1]
      refine sp83 hP hd hkn hm hf0 (fun hM' hL' hD' hb' => ih hM' hL' hD' (Or.inr hb')) FU (Int.le_refl f) hfP (mc_fm hM f5) D5 ⟨h0, by omega, z25n⟩ (fun i o a1 _ _ _ _ _ _ _ a9 => ?_)
      rcases a9 with a9 | a9
      · omega
      · cases a9.2
/-! GATHER: the list of all WEEKS that may be -/
def ROK (w : Wd) : Prop := 0 ≤ w 24 4 ∧ ∀ k : Nat, k < 1024 → w 27 k ≤ w 24 4
def FXx (w u : Wd) : Prop := ∀ c, c ≠ 24 → c ≠ 25 → c ≠ 26 → c ≠ 27 → u c = w c
def GA (P se : Int) (kn : Nat → Int) (br fr sy : Nat → Bool) (w u : Wd) : Prop := FXx w u ∧ (u 24 4 = w 24 4 + 1 ∧ ROK u) ∧ (B10 (u 24 6) br ∧ B10 (u 24 7) fr ∧ B10 (u 24 8) sy ∧ u 24 9 = se) ∧ LSx (u 24 4) (MOV P se kn br fr sy) u ∧ ∀ m, MOV P se kn br fr sy m → ∃ k : Nat, (k : Int) < u 24 3 ∧ u 25 k = m
theorem gs_fre {P : Int} {s h : Nat → Int} : ∀ k, k < 10 → gs P s k = true → fre P s h k = false := by
  intro k _ hg
  cases hf : fre P s h k with
  | false => rfl
  | true =>
    have := fre_sr hf
    unfold gs at hg
    rw [this.2.1] at hg
    cases hp : inP P k <;> rw [hp] at hg <;> cases hg
theorem prep_pc {P g x v3 v4 : Int} {s h : Nat → Int} {br : Nat → Bool} {w : Wd} (hP : 0 ≤ P ∧ P ≤ 10) (hW : WH x s P) (h3 : w 5 3 = P) (h5 : B10 (w 5 5) (hB P h)) (hg : 1 ≤ g ∧ g ≤ 3) (h7 : w 5 7 = g) (hb : B10 v3 br) (hr : ROK w) (hlt : w 24 4 < 2147483647) : PC (f_M_prepare x v3 v4 w) (fun _ u => FXx w u ∧ (u 24 4 = w 24 4 + 1 ∧ u 27 = w 27) ∧ (B10 (u 24 6) br ∧ B10 (u 24 7) (fre P s h) ∧ B10 (u 24 8) (sty P s g) ∧ u 24 9 = v4) ∧ u 24 3 = 0 ∧ u 24 5 = 6) := by
  unfold f_M_prepare
  refine pc_lw (fun u1 e1 => pc_lw (fun u2 e2 => ?_))
  have r2 : ∀ c, c ≠ 24 → u2 c = w c := fun c hc => by rw [e2, st_row hc, e1, st_row hc]
  obtain ⟨r3, e3, b3⟩ := eall_e (w := u2) (by rw [r2 5 (by decide)]; omega)
  rw [e3, jc_s]
  unfold f_O_known
  rw [jc_s]
  refine pc_lw (fun u7 e7 => ?_)
  have r7 : ∀ c, c ≠ 24 → u7 c = w c := fun c hc => by rw [e7, st_row hc, r2 c hc]
  obtain ⟨r8, e8, b8⟩ := stay_e (g := u7 5 7) hW (by rw [r7 5 (by decide)]; omega) u7
  rw [e8, jc_s]
  refine pc_lw (fun u10 e10 => pc_lw (fun u11 e11 => pc_lw (fun u12 e12 => pc_lw (fun u13 e13 => pc_some ?_))))
  rw [r2 5 (by decide), h3] at b3
  rw [r7 5 (by decide), h7] at b8
  have a24 : ∀ k, u13 24 k = if k = 4 then w 24 4 + 1 else if k = 3 then 0 else if k = 9 then v4 else if k = 8 then r8 else u7 24 k := fun k => by
    have x4 : u12 24 4 = w 24 4 := by rw [e12, st_k (by decide), e11, st_k (by decide), e10, st_k (by decide), e7, st_k (by decide), e2, st_k (by decide), e1, st_k (by decide)]
    rw [e13]
    by_cases c4 : k = 4
    · rw [if_pos c4, c4, st_eq, x4]; exact w32_id (by have := hr.1; omega)
    · rw [if_neg c4, st_k c4, e12]
      by_cases c3 : k = 3
      · rw [if_pos c3, c3, st_eq]
      · rw [if_neg c3, st_k c3, e11]
        by_cases c9 : k = 9
        · rw [if_pos c9, c9, st_eq]
        · rw [if_neg c9, st_k c9, e10]
          by_cases c8 : k = 8
          · rw [if_pos c8, c8, st_eq]
          · rw [if_neg c8, st_k c8]
  refine ⟨fun c c1 _ _ _ => ?_, ⟨?_, ?_⟩, ⟨?_, ?_, ?_, ?_⟩, ?_, ?_⟩
  · rw [e13, st_row c1, e12, st_row c1, e11, st_row c1, e10, st_row c1, r7 c c1]
  · rw [a24, if_pos rfl]
  · rw [e13, st_row (by decide), e12, st_row (by decide), e11, st_row (by decide), e10, st_row (by decide), r7 27 (by decide)]
  · rw [a24, if_neg (by decide), if_neg (by decide), if_neg (by decide), if_neg (by decide), e7, st_k (by decide), e2, st_eq]; exact hb
  · rw [a24, if_neg (by decide), if_neg (by decide), if_neg (by decide), if_neg (by decide), e7, st_eq]
    rw [r2 5 (by decide)]
    refine b10_w (b10_andn (b10_andn b3 (wh_kn hW).2) h5.2) (fun k _ => ?_)
    unfold fre sr
    cases inP P k with
    | false => rfl
    | true => cases (s k == 0) <;> rfl
  · rw [a24, if_neg (by decide), if_neg (by decide), if_neg (by decide), if_pos rfl]; exact b8
  · rw [a24, if_neg (by decide), if_neg (by decide), if_pos rfl]
  · rw [a24, if_neg (by decide), if_pos rfl]
  · rw [a24, if_neg (by decide), if_neg (by decide), if_neg (by decide), if_neg (by decide), e7, st_k (by decide), e2, st_k (by decide), e1, st_eq]
theorem gat_pc {P g x se : Int} {s h kn : Nat → Int} {w : Wd} (hP : 0 ≤ P ∧ P ≤ 10) (hW : WH x s P) (h3 : w 5 3 = P) (h5 : B10 (w 5 5) (hB P h)) (hg : 1 ≤ g ∧ g ≤ 3) (h7 : w 5 7 = g) (hkn : ∀ j : Nat, (j : Int) < P → w 7 j = kn j ∧ 0 ≤ kn j ∧ kn j ≤ 1023) (hr : ROK w) (hlt : w 24 4 < 2147483647) : PC (f_M_gather x se w) (fun _ u => GA P se kn (gs P s) (fre P s h) (sty P s g) w u) := by
  unfold f_M_gather
  obtain ⟨r1, e1, b1⟩ := og_e hW w
  rw [e1, jc_s]
  refine pc_call (prep_pc hP hW h3 h5 hg h7 b1 hr hlt) (fun r3 u q => ?_)
  obtain ⟨q1, ⟨q2, q3⟩, ⟨q4, q5, q6, q7⟩, q8, q9⟩ := q
  have novis : ∀ m, ¬ vis (u 24 4) u m := fun m hv => by
    have h1 := hv.2
    rw [q3, q2] at h1
    have := hr.2 m.toNat (by have := hv.1; omega)
    omega
  have hM : MCx P se (u 24 4) kn (gs P s) (fre P s h) (sty P s g) u := ⟨by rw [q1 5 (by decide) (by decide) (by decide) (by decide)]; exact h3, fun j hj => by rw [q1 7 (by decide) (by decide) (by decide) (by decide)]; exact (hkn j hj).1, q4, q5, q6, q7, rfl⟩
  have hL : LSx (u 24 4) (MOV P se kn (gs P s) (fre P s h) (sty P s g)) u := ⟨by omega, fun k hk => by omega, fun i j hi hj => by omega, fun m hm => absurd hm (novis m), fun k hk => by omega⟩
  refine pc_call (spr_pc hP gs_fre (fun j hj => (hkn j hj).2) 16 (d := 0) (f := 0) (m := 0) (b := -1) hM hL ⟨rfl, rfl⟩ (Or.inl ⟨q8, rfl⟩)) (fun r5 v q' => pc_some ?_)
  obtain ⟨p1, p2, p3, p4, p5, p6⟩ := q'
  have v4 : v 24 4 = u 24 4 := p1.2.1 4 (by decide)
  have all : ∀ (d : Nat) (f m : Int), DRC P se kn (gs P s) (fre P s h) (sty P s g) d f m → vis (u 24 4) v m := by
    intro d
    induction d with
    | zero => rintro f m ⟨_, e⟩; rw [e]; exact p5
    | succ d ih =>
      rintro f m ⟨f0, m0, h0, hc⟩
      rcases p6 m0 (ih f0 m0 h0) with h1 | h1
      · exact absurd h1 (novis m0)
      · exact h1 d f0 f m h0 hc
  refine ⟨fun c a1 a2 a3 a4 => (p1.1 c a1 a2 a3 a4).trans (q1 c a1 a2 a3 a4), ⟨by rw [v4, q2], ?_⟩, ⟨by rw [p1.2.1 6 (by decide)]; exact q4, by rw [p1.2.1 7 (by decide)]; exact q5, by rw [p1.2.1 8 (by decide)]; exact q6, by rw [p1.2.1 9 (by decide)]; exact q7⟩, by rw [v4]; exact p2, fun m hm => ?_⟩
  · unfold ROK
    rw [v4, q2]
    have := hr.1
    refine ⟨by omega, fun k hk => ?_⟩
    rcases p1.2.2 k with e | e
    · rw [e, q3]; have := hr.2 k hk; omega
    · rw [e, q2]; exact Int.le_refl _
  · obtain ⟨d, f, h0⟩ := hm
    exact p2.2.2.2.1 m (all d f m h0)
/-- whatever it starts from: what stays as it was -/
theorem spf_pc : ∀ (D : Nat) {f m b : Int} {w : Wd}, PC (f_M_spread D f m b w) (fun _ u => FM w u) := by
  intro D
  induction D with
  | zero => intros; exact pc_none
  | succ D ih =>
    intro f m b w
    rw [f_M_spread]
    unfold f_M_spread_b
    have s135 : ∀ {k83 : Int → Int → Int → Wd → Option (Int × Wd)} {v2 v4 v5 : Int}, (∀ u, FM w u → PC (k83 v2 v4 (w32 (v5 + 1)) u) (fun _ u => FM w u)) → ∀ (n : Nat) {v6 v7 : Int} {u : Wd}, FM w u → PC (f_M_spread_135 (f_M_spread D) k83 n v2 v4 v5 v6 v7 u) (fun _ u => FM w u) := by
      intro k83 v2 v4 v5 hk n
      induction n with
      | zero => intros; exact pc_none
      | succ n ihn =>
        intro v6 v7 u hu
        rw [f_M_spread_135]
        refine pc_ite (fun _ => pc_let (fun x e => by rw [e]; exact hk u hu)) (fun _ => ?_)
        refine pc_ite (fun _ => pc_let (fun x e => by rw [e]; exact hk u hu)) (fun _ => ?_)
        refine pc_let (fun x9 _ => pc_let (fun x10 _ => ?_))
        have hbc : ∀ z : Int, PC (f_JI_bitCount z u) (fun _ u' => u' = u) := fun z => by
          show PC (some (bcI z, u)) _
          exact pc_some rfl
        refine pc_call (hbc _) (fun r11 u12 q => ?_)
        rw [q]
        refine pc_ite (fun _ => pc_let (fun x _ => ihn hu)) (fun _ => ?_)
        exact pc_call ih (fun r14 u15 q2 => pc_let (fun x _ => ihn (fm_tr hu q2)))
    have s83 : ∀ (n : Nat) {v2 v4 v5 : Int} {u : Wd}, FM w u → PC (f_M_spread_83 (f_M_spread D) n v2 v4 v5 u) (fun _ u => FM w u) := by
      intro n
      induction n with
      | zero => intros; exact pc_none
      | succ n ihn =>
        intro v2 v4 v5 u hu
        rw [f_M_spread_83]
        refine pc_gd (fun _ => pc_ite (fun _ => pc_some hu) (fun _ => ?_))
        have hhas : ∀ x k : Int, PC (f_E_has x k u) (fun _ u' => u' = u) := fun x k => by
          unfold f_E_has
          refine pc_ite (fun _ => pc_some rfl) (fun _ => pc_ite (fun _ => pc_some rfl) (fun _ => pc_ite (fun _ => pc_some rfl) (fun _ => pc_some rfl)))
        refine pc_call (hhas _ _) (fun r6 u7 q => ?_)
        rw [q]
        refine pc_ite (fun _ => s135 (fun y hy => ihn hy) FU hu) (fun _ => pc_gd (fun _ => pc_gd (fun _ => s135 (fun y hy => ihn hy) FU hu)))
    refine pc_ite (fun _ => pc_some (fm_self w)) (fun _ => ?_)
    refine pc_ite (fun _ => pc_some (fm_self w)) (fun _ => ?_)
    refine pc_ite (fun _ => ?_) (fun _ => pc_some (fm_self w))
    refine pc_gd (fun _ => pc_ite (fun _ => pc_some (fm_self w)) (fun _ => ?_))
    refine pc_let (fun x1 e1 => pc_gd (fun _ => pc_lw (fun u2 e2 => pc_gd (fun _ => pc_lw (fun u3 e3 => pc_gd (fun _ => pc_lw (fun u4 e4 => pc_lw (fun u5 e5 => s83 FU ?_))))))))
    refine ⟨fun c a1 a2 a3 a4 => ?_, fun k hk => ?_, fun k => ?_⟩
    · rw [e5, st_row a1, e4, st_row a3, e3, st_row a2, e2, st_row a4]
    · rw [e5, st_k hk, e4, st_c (by decide), e3, st_c (by decide), e2, st_c (by decide)]
    · rw [e5, st_c (by decide), e4, st_c (by decide), e3, st_c (by decide), e2]
      by_cases ck : k = m.toNat
      · rw [ck, st_eq]; exact Or.inr rfl
      · rw [st_k ck]; exact Or.inl rfl
/-! PAIRS: the class -/
theorem mo_pc {k : Int} {u : Wd} (h : 0 ≤ k ∧ k < u 24 3) : PC (f_M_moversOf k u) (fun r v => v = u ∧ r = u 25 k.toNat) := by
  unfold f_M_moversOf
  rw [if_neg (by omega), if_neg (by omega)]
  exact pc_gd (fun _ => pc_some ⟨rfl, rfl⟩)
/-! STATES THAT CAN COME -/
theorem bt_ext30 {x y : Int} (hx : 0 ≤ x ∧ x < 1073741824) (hy : 0 ≤ y ∧ y < 1073741824) (h : ∀ k, k < 30 → bt x k = bt y k) : x = y := by
  have ex := ofInt_toInt (z := x) (by omega) (by omega)
  have ey := ofInt_toInt (z := y) (by omega) (by omega)
  have hx' : (Int32.ofInt x).toBitVec.toInt = x := ex
  have hy' : (Int32.ofInt y).toBitVec.toInt = y := ey
  have bx := bv_nn (x := (Int32.ofInt x).toBitVec) (by omega)
  have bY := bv_nn (x := (Int32.ofInt y).toBitVec) (by omega)
  have e : (Int32.ofInt x).toBitVec = (Int32.ofInt y).toBitVec := by
    apply BitVec.eq_of_getLsbD_eq
    intro i hi
    by_cases h30 : i < 30
    · exact h i h30
    · have p30 : (2 : Nat) ^ 30 = 1073741824 := by decide
      have h1 : (Int32.ofInt x).toBitVec.getLsbD i = false := by
        rw [BitVec.getLsbD]
        refine Nat.testBit_lt_two_pow ?_
        have : 2 ^ 30 ≤ 2 ^ i := Nat.pow_le_pow_right (by decide) (by omega)
        omega
      have h2 : (Int32.ofInt y).toBitVec.getLsbD i = false := by
        rw [BitVec.getLsbD]
        refine Nat.testBit_lt_two_pow ?_
        have : 2 ^ 30 ≤ 2 ^ i := Nat.pow_le_pow_right (by decide) (by omega)
        omega
      rw [h1, h2]
  rw [← hx', ← hy', e]
theorem wh_inj {x y P : Int} {s t : Nat → Int} (hx : WH x s P) (hy : WH y t P) (h : ∀ k : Nat, (k : Int) < P → s k = t k) : x = y := by
  refine bt_ext30 hx.1 hy.1 (fun k hk => ?_)
  have key : ∀ j, j < 10 → bt x j = bt y j ∧ bt x (10 + j) = bt y (10 + j) ∧ bt x (20 + j) = bt y (20 + j) := fun j hj => by
    have a := hx.2.1 j hj
    have b := hy.2.1 j hj
    rw [a.1, a.2.1, a.2.2, b.1, b.2.1, b.2.2]
    cases hp : inP P j with
    | false => exact ⟨rfl, rfl, rfl⟩
    | true => rw [h j (inP_t hp)]; exact ⟨rfl, rfl, rfl⟩
  by_cases c1 : k < 10
  · exact (key k c1).1
  · by_cases c2 : k < 20
    · have := (key (k - 10) (by omega)).2.1
      rw [show 10 + (k - 10) = k by omega] at this
      exact this
    · have := (key (k - 20) (by omega)).2.2
      rw [show 20 + (k - 20) = k by omega] at this
      exact this
def sof (x : Int) (k : Nat) : Int := if bt x (20 + k) = true then 4 else (if bt x k = true then 1 else 0) + (if bt x (10 + k) = true then 2 else 0)
theorem sof_e {x P : Int} {s : Nat → Int} (h : WH x s P) (hP : P ≤ 10) {k : Nat} (hk : (k : Int) < P) : sof x k = s k := by
  have a := h.2.1 k (by omega)
  have r := h.2.2 k hk
  unfold sof
  rw [a.1, a.2.1, a.2.2, show inP P k = true from decide_eq_true hk]
  rcases v5 r with e | e | e | e | e <;> rw [e] <;> rfl
theorem wh_w {x P : Int} {s t : Nat → Int} (h : WH x s P) (he : ∀ k : Nat, (k : Int) < P → s k = t k) : WH x t P := by
  refine ⟨h.1, fun k hk => ?_, fun k hk => by rw [← he k hk]; exact h.2.2 k hk⟩
  have a := h.2.1 k hk
  rw [a.1, a.2.1, a.2.2]
  cases hp : inP P k with
  | false => exact ⟨rfl, rfl, rfl⟩
  | true => rw [he k (inP_t hp)]; exact ⟨rfl, rfl, rfl⟩
theorem wh_sof {x P : Int} {s : Nat → Int} (h : WH x s P) (hP : P ≤ 10) : WH x (sof x) P := wh_w h (fun _ hk => (sof_e h hP hk).symm)
/-- who moves in a WEEK that may be, from a STATE -/
def MVS (P g se : Int) (h kn s : Nat → Int) (m : Int) : Prop := MOV P se kn (gs P s) (fre P s h) (sty P s g) m
/-- one STATE behind another -/
def SUX (P g se : Int) (h kn : Nat → Int) (x y : Int) : Prop := ∃ m, MVS P g se h kn (sof x) m ∧ WH y (nis P (sof x) g (bt m)) P
def RCX (P g se : Int) (h kn : Nat → Int) (x0 : Int) : Nat → Int → Prop
  | 0, x => x = x0
  | t + 1, x => ∃ y, RCX P g se h kn x0 t y ∧ SUX P g se h kn y x
theorem mvs_0 (P g se : Int) (h kn s : Nat → Int) : MVS P g se h kn s 0 := ⟨0, 0, rfl, rfl⟩
/-- who moves was a GUEST, or a STRANGER not HIDDEN -/
theorem mvs_who {P g se : Int} {h kn s : Nat → Int} (hP : 0 ≤ P ∧ P ≤ 10) {m : Int} (hm : MVS P g se h kn s m) : (0 ≤ m ∧ m ≤ 1023) ∧ ∀ k, k < 10 → bt m k = true → gs P s k = true ∨ fre P s h k = true := by
  obtain ⟨d, f, h1⟩ := hm
  refine ⟨(drc_rg hP h1).1, fun k hk hb => ?_⟩
  rcases (drc_fr hP gs_fre h1).2.2 k hk hb with ⟨_, e⟩ | e
  · exact Or.inl e
  · exact Or.inr e
theorem mvs_ok {P g se : Int} {h kn s : Nat → Int} (hP : 0 ≤ P ∧ P ≤ 10) {m : Int} (hm : MVS P g se h kn s m) : ∀ k, k < 10 → bt m k = true → (k : Int) < P ∧ s k ≠ 4 := by
  intro k hk hb
  rcases (mvs_who hP hm).2 k hk hb with e | e
  · unfold gs at e
    rw [Bool.and_eq_true] at e
    have e2 : 1 ≤ s k ∧ s k < 4 := of_decide_eq_true e.2
    exact ⟨inP_t e.1, by omega⟩
  · have := fre_sr e
    exact ⟨this.1, by omega⟩
/-- nobody moves, or some STRANGER does -/
theorem mvs_some {P g se : Int} {h kn s : Nat → Int} (hP : 0 ≤ P ∧ P ≤ 10) {m : Int} (hm : MVS P g se h kn s m) : m = 0 ∨ ((∃ o, o < 10 ∧ bt m o = true ∧ fre P s h o = true) ∧ ∃ i, i < 10 ∧ gs P s i = true) := by
  obtain ⟨d, f, h1⟩ := hm
  cases d with
  | zero => exact Or.inl h1.2
  | succ d =>
    obtain ⟨f0, m0, h0, i, o, a1, a2, a3, a4, a5, a6, a7, a8, a9, a10⟩ := h1
    have r := drc_rg hP h0
    refine Or.inr ⟨⟨o, a3, ?_, a5⟩, i, by omega, a4⟩
    rw [a8, sq_t r.1 (by omega) a3 a3, decide_eq_true rfl, Bool.or_true]
theorem rx_wh {P g se : Int} {h kn : Nat → Int} {x0 : Int} (hP : 0 ≤ P ∧ P ≤ 10) (h0 : WH x0 (sof x0) P) : ∀ {t : Nat} {x : Int}, RCX P g se h kn x0 t x → WH x (sof x) P := by
  intro t
  cases t with
  | zero => intro x e; rw [show x = x0 from e]; exact h0
  | succ t =>
    rintro x ⟨y, _, m, _, hw⟩
    exact wh_sof hw hP.2
/-- where nobody is a GUEST all stays as it is -/
theorem sx_no {P g se : Int} {h kn : Nat → Int} {x y : Int} (hP : 0 ≤ P ∧ P ≤ 10) (hx : WH x (sof x) P) (hn : ∀ k, k < 10 → gs P (sof x) k = false) : SUX P g se h kn x y ↔ y = x := by
  have same : ∀ k : Nat, (k : Int) < P → nis P (sof x) g (bt 0) k = sof x k := fun k hk => by
    have hg := hn k (by omega)
    unfold gs at hg
    rw [show inP P k = true from decide_eq_true hk, Bool.true_and] at hg
    unfold nis
    rw [bt_0, hg]; rfl
  constructor
  · rintro ⟨m, hm, hw⟩
    rcases mvs_some hP hm with e | ⟨_, i, hi, e⟩
    · rw [e] at hw
      exact wh_inj hw hx same
    · rw [hn i hi] at e; cases e
  · intro e
    rw [e]
    exact ⟨0, mvs_0 _ _ _ _ _ _, wh_w hx (fun k hk => (same k hk).symm)⟩
/-! RANKS -/
def lo1 (P : Int) (s : Nat → Int) (k : Nat) : Bool := inP P k && (s k == 1 || s k == 3)
def mi1 (P : Int) (s : Nat → Int) (k : Nat) : Bool := inP P k && (s k == 2 || s k == 3)
def kno (P : Int) (s : Nat → Int) (k : Nat) : Bool := inP P k && !(s k == 0)
def smv (P : Int) (s : Nat → Int) : Nat → Int
  | 0 => 0
  | n + 1 => smv P s n + (if inP P n = true then s n else 0)
def rkf (P : Int) (s : Nat → Int) : Int := 41 * ((pn (kno P s) 10 : Nat) : Int) + smv P s 10
theorem smv_e {P : Int} {s : Nat → Int} (h : ∀ k : Nat, (k : Int) < P → 0 ≤ s k ∧ s k ≤ 4) : ∀ n : Nat, smv P s n = ((pn (lo1 P s) n : Nat) : Int) + 2 * ((pn (mi1 P s) n : Nat) : Int) + 4 * ((pn (ou P s) n : Nat) : Int) := by
  intro n
  induction n with
  | zero => rfl
  | succ n ih =>
    rw [smv, pn, pn, pn, ih]
    unfold lo1 mi1 ou
    cases hp : inP P n with
    | false => simp
    | true =>
      rcases v5 (h n (inP_t hp)) with e | e | e | e | e <;> rw [e] <;> simp <;> omega
theorem smv_rg {P : Int} {s : Nat → Int} (h : ∀ k : Nat, (k : Int) < P → 0 ≤ s k ∧ s k ≤ 4) : ∀ n : Nat, 0 ≤ smv P s n ∧ smv P s n ≤ 4 * n := by
  intro n
  induction n with
  | zero => exact ⟨Int.le_refl _, Int.le_refl _⟩
  | succ n ih =>
    rw [smv]
    by_cases hp : inP P n = true
    · have := h n (inP_t hp)
      rw [if_pos hp]; omega
    · rw [if_neg hp]; omega
theorem smv_le {P : Int} {s t : Nat → Int} : ∀ {n : Nat}, (∀ k : Nat, k < n → (k : Int) < P → s k ≤ t k) → smv P s n ≤ smv P t n := by
  intro n
  induction n with
  | zero => intro _; exact Int.le_refl _
  | succ n ih =>
    intro h
    rw [smv, smv]
    have h1 := ih (fun k hk => h k (by omega))
    by_cases hp : inP P n = true
    · have := h n (by omega) (inP_t hp)
      rw [if_pos hp, if_pos hp]; omega
    · rw [if_neg hp, if_neg hp]; omega
theorem smv_lt {P : Int} {s t : Nat → Int} : ∀ {n : Nat}, (∀ k : Nat, k < n → (k : Int) < P → s k ≤ t k) → (∃ k : Nat, k < n ∧ (k : Int) < P ∧ s k < t k) → smv P s n < smv P t n := by
  intro n
  induction n with
  | zero => intro _ h; obtain ⟨k, hk, _⟩ := h; omega
  | succ n ih =>
    intro h he
    obtain ⟨k, hk, h1, h2⟩ := he
    rw [smv, smv]
    by_cases c : k = n
    · have h3 := smv_le (P := P) (s := s) (t := t) (n := n) (fun k hk => h k (by omega))
      have hp : inP P n = true := decide_eq_true (by omega)
      rw [c] at h2
      rw [if_pos hp, if_pos hp]; omega
    · have h3 := ih (fun k hk => h k (by omega)) ⟨k, by omega, h1, h2⟩
      by_cases hp : inP P n = true
      · have := h n (by omega) (inP_t hp)
        rw [if_pos hp, if_pos hp]; omega
      · rw [if_neg hp, if_neg hp]; omega
theorem orank_e {x P : Int} {s : Nat → Int} (h : WH x s P) (w : Wd) : f_O_rank x w = some (rkf P s, w) := by
  unfold f_O_rank
  have b1 : B10 (iand x 1023) (lo1 P s) := b10_m (fun k hk => (h.2.1 k hk).1)
  have b2 : B10 (iand (ishr x 10) 1023) (mi1 P s) := b10_m (fun k hk => wh_10 h hk)
  rw [bcs_e b1, jc_s, bcs_e b2, jc_s]
  obtain ⟨r, e, b⟩ := oo_e h w
  rw [e, jc_s, bcs_e b, jc_s, jl_e]
  unfold f_O_known
  rw [jc_s, bcs_e (wh_kn h), jc_s]
  have l1 := pn_le (lo1 P s) 10
  have l2 := pn_le (mi1 P s) 10
  have l3 := pn_le (ou P s) 10
  have l4 := pn_le (fun k => inP P k && !(s k == 0)) 10
  have es := smv_e h.2.2 10
  have ek : pn (kno P s) 10 = pn (fun k => inP P k && !(s k == 0)) 10 := rfl
  unfold rkf
  rw [es, ek]
  generalize pn (fun k => inP P k && !(s k == 0)) 10 = a at *
  generalize pn (lo1 P s) 10 = b1' at *
  generalize pn (mi1 P s) 10 = b2' at *
  generalize pn (ou P s) 10 = b3' at *
  have z1 : w32 (2 * (b2' : Int)) = 2 * (b2' : Int) := w32_id (by omega)
  have z2 : w32 ((b1' : Int) + 2 * (b2' : Int)) = (b1' : Int) + 2 * (b2' : Int) := w32_id (by omega)
  have z3 : w32 (4 * (b3' : Int)) = 4 * (b3' : Int) := w32_id (by omega)
  have z4 : w32 ((b1' : Int) + 2 * (b2' : Int) + 4 * (b3' : Int)) = (b1' : Int) + 2 * (b2' : Int) + 4 * (b3' : Int) := w32_id (by omega)
  have z5 : w32 ((a : Int) * 41) = (a : Int) * 41 := w32_id (by omega)
  have z6 : w32 ((a : Int) * 41 + ((b1' : Int) + 2 * (b2' : Int) + 4 * (b3' : Int))) = 41 * (a : Int) + ((b1' : Int) + 2 * (b2' : Int) + 4 * (b3' : Int)) := (w32_id (by omega)).trans (by omega)
  rw [z1, z2, z3, z4, z5, z6]
theorem rkf_rg {P : Int} {s : Nat → Int} (h : ∀ k : Nat, (k : Int) < P → 0 ≤ s k ∧ s k ≤ 4) : 0 ≤ rkf P s ∧ rkf P s ≤ 450 := by
  have l4 := pn_le (kno P s) 10
  have := smv_rg h 10
  unfold rkf
  omega
theorem rkf_w {P : Int} {s t : Nat → Int} (he : ∀ k : Nat, (k : Int) < P → s k = t k) : rkf P s = rkf P t := by
  have e1 : pn (kno P s) 10 = pn (kno P t) 10 := pn_eq (fun k _ => by
    unfold kno
    cases hp : inP P k with
    | false => rfl
    | true => rw [he k (inP_t hp)])
  have a := smv_le (P := P) (s := s) (t := t) (n := 10) (fun k _ hk => by rw [he k hk]; exact Int.le_refl _)
  have b := smv_le (P := P) (s := t) (t := s) (n := 10) (fun k _ hk => by rw [he k hk]; exact Int.le_refl _)
  unfold rkf
  rw [e1]; omega
/-- a rank grows while somebody is a GUEST -/
theorem sx_rank {P g se : Int} {h kn : Nat → Int} {x y : Int} (hP : 0 ≤ P ∧ P ≤ 10) (hg : 1 ≤ g ∧ g ≤ 3) (hx : WH x (sof x) P) (hs : SUX P g se h kn x y) (hgu : ∃ k, k < 10 ∧ gs P (sof x) k = true) : rkf P (sof x) < rkf P (sof y) := by
  obtain ⟨m, hm, hw⟩ := hs
  have ey : rkf P (sof y) = rkf P (nis P (sof x) g (bt m)) := rkf_w (fun k hk => sof_e hw hP.2 hk)
  rw [ey]
  have r1 := smv_rg hx.2.2 10
  have r2 := smv_rg hw.2.2 10
  have ok := mvs_ok hP hm
  have up : ∀ k : Nat, (k : Int) < P → kno P (sof x) k = true → kno P (nis P (sof x) g (bt m)) k = true := fun k hk hb => by
    unfold kno at *
    rw [Bool.and_eq_true, Bool.not_eq_true', beq_eq_false_iff_ne] at hb ⊢
    refine ⟨hb.1, ?_⟩
    unfold nis
    have := hx.2.2 k hk
    split
    · decide
    · split
      · split <;> omega
      · exact hb.2
  have kin : ∀ k, kno P (sof x) k = true → (k : Int) < P := fun k e => by unfold kno at e; rw [Bool.and_eq_true] at e; exact inP_t e.1
  rcases mvs_some hP hm with e | ⟨⟨o, ho, hb, hf⟩, _⟩
  · rw [e]
    rw [e] at up
    have gr : ∀ k : Nat, (k : Int) < P → gst (sof x k) = true → sof x k < nis P (sof x) g (bt 0) k := fun k hk hgk => by
      have h2 : 1 ≤ sof x k ∧ sof x k < 4 := of_decide_eq_true hgk
      unfold nis
      rw [bt_0, hgk]
      simp only [Bool.false_eq_true, if_false, if_true]
      split <;> omega
    have le : ∀ k : Nat, (k : Int) < P → sof x k ≤ nis P (sof x) g (bt 0) k := fun k hk => by
      cases hgk : gst (sof x k) with
      | true => have := gr k hk hgk; omega
      | false =>
        unfold nis
        rw [bt_0, hgk]
        simp
    obtain ⟨k, hk, hgk⟩ := hgu
    unfold gs at hgk
    rw [Bool.and_eq_true] at hgk
    have h1 := smv_lt (P := P) (s := sof x) (t := nis P (sof x) g (bt 0)) (n := 10) (fun k _ hk => le k hk) ⟨k, hk, inP_t hgk.1, gr k (inP_t hgk.1) hgk.2⟩
    have h2 := pn_mono (f := kno P (sof x)) (g := kno P (nis P (sof x) g (bt 0))) (n := 10) (fun k _ e => up k (kin k e) e)
    unfold rkf
    omega
  · have hfo := fre_sr hf
    have h2 := pn_lt (f := kno P (sof x)) (g := kno P (nis P (sof x) g (bt m))) (n := 10) (fun k _ e => up k (kin k e) e) ⟨o, ho, by unfold kno; rw [hfo.2.1]; simp, by
      unfold kno nis
      rw [hb, show inP P o = true from decide_eq_true hfo.1]; rfl⟩
    unfold rkf
    omega
/-! BITS OF A LONG -/
def b6 (x : Int) (k : Nat) : Bool := (Int64.ofInt x).toBitVec.getLsbD k
theorem b6_or (x y : Int) (k : Nat) : b6 (lor x y) k = (b6 x k || b6 y k) := by
  unfold b6 lor
  rw [Int64.ofInt_toInt, Int64.toBitVec_or, BitVec.getLsbD_or]
theorem b6_and (x y : Int) (k : Nat) : b6 (land x y) k = (b6 x k && b6 y k) := by
  unfold b6 land
  rw [Int64.ofInt_toInt, Int64.toBitVec_and, BitVec.getLsbD_and]
theorem b6_0 (k : Nat) : b6 0 k = false := by
  unfold b6
  rw [show (Int64.ofInt 0).toBitVec = 0#64 from by decide]
  exact BitVec.getLsbD_zero
theorem b6_1 {k : Nat} (hk : k < 64) : b6 1 k = decide (k = 0) := by
  have h1 : (List.range 64).all (fun k => b6 1 k == decide (k = 0)) = true := by decide +kernel
  exact eq_of_beq (List.all_eq_true.mp h1 k (List.mem_range.mpr hk))
theorem b6_all {k : Nat} (hk : k < 64) : b6 2305843009213693951 k = decide (k < 61) := by
  have h1 : (List.range 64).all (fun k => b6 2305843009213693951 k == decide (k < 61)) = true := by decide +kernel
  exact eq_of_beq (List.all_eq_true.mp h1 k (List.mem_range.mpr hk))
theorem b6_shl {x : Int} {k : Nat} (hk : k < 64) : b6 (lshl x 1) k = (decide (1 ≤ k) && b6 x (k - 1)) := by
  have h2 : (((Int32.ofInt 1).toInt64 &&& 63).toBitVec.smod 64) = 1#64 := by decide +kernel
  unfold b6 lshl
  rw [Int64.ofInt_toInt, Int64.toBitVec_shiftLeft, h2, BitVec.shiftLeft_eq', show (1#64).toNat = 1 from by decide, BitVec.getLsbD_shiftLeft, decide_eq_true hk, Bool.true_and]
  by_cases c : k < 1
  · rw [decide_eq_true c, decide_eq_false (show ¬ 1 ≤ k by omega)]; rfl
  · rw [decide_eq_false c, decide_eq_true (show 1 ≤ k by omega)]; rfl
theorem b6_neg (x : Int) {k : Nat} (hk : k < 64) : b6 (w64 (-x)) k = (b6 x k ^^ decide (∃ j, j < k ∧ b6 x j = true)) := by
  unfold b6
  rw [i64_bmod, Int64.ofInt_neg, Int64.toBitVec_neg, BitVec.getLsbD_neg, decide_eq_true hk, Bool.true_and]
/-- from the lowest bit on -/
theorem b6_up (x : Int) {k : Nat} (hk : k < 61) : b6 (land (w64 (-(land x (w64 (-x))))) 2305843009213693951) k = decide (∃ j, j ≤ k ∧ b6 x j = true) := by
  rw [b6_and, b6_all (by omega), decide_eq_true hk, Bool.and_true, b6_neg _ (by omega)]
  have low : ∀ i, i < 64 → b6 (land x (w64 (-x))) i = (b6 x i && !decide (∃ j, j < i ∧ b6 x j = true)) := fun i hi => by
    rw [b6_and, b6_neg x hi]
    cases b6 x i <;> cases decide (∃ j, j < i ∧ b6 x j = true) <;> rfl
  -- the least of all, if there is one
  have least : ∀ n i, i ≤ n → b6 x i = true → ∃ j, j ≤ i ∧ b6 x j = true ∧ ∀ q, q < j → b6 x q = false := by
    intro n
    induction n with
    | zero => intro i hi hb; exact ⟨i, Nat.le_refl _, hb, fun q hq => by omega⟩
    | succ n ih =>
      intro i hi hb
      by_cases c : ∃ q, q < i ∧ b6 x q = true
      · obtain ⟨q, hq, e⟩ := c
        obtain ⟨j, hj, e2, e3⟩ := ih q (by omega) e
        exact ⟨j, by omega, e2, e3⟩
      · exact ⟨i, Nat.le_refl _, hb, fun q hq => by
          cases e : b6 x q with
          | false => rfl
          | true => exact absurd ⟨q, hq, e⟩ c⟩
  by_cases c : ∃ j, j ≤ k ∧ b6 x j = true
  · rw [decide_eq_true c]
    obtain ⟨i, hi, e⟩ := c
    obtain ⟨j, hj, e2, e3⟩ := least i i (Nat.le_refl _) e
    have nj : ¬ ∃ q, q < j ∧ b6 x q = true := fun ⟨q, hq, e4⟩ => by rw [e3 q hq] at e4; cases e4
    have lj : b6 (land x (w64 (-x))) j = true := by rw [low j (by omega), e2, decide_eq_false nj]; rfl
    by_cases cj : j = k
    · have : ¬ ∃ q, q < k ∧ b6 (land x (w64 (-x))) q = true := fun ⟨q, hq, e4⟩ => by
        rw [low q (by omega), e3 q (by omega)] at e4; cases e4
      rw [← cj] at this
      rw [← cj, lj, decide_eq_false this]; rfl
    · have : ∃ q, q < k ∧ b6 (land x (w64 (-x))) q = true := ⟨j, by omega, lj⟩
      rw [decide_eq_true this, low k (by omega), decide_eq_true (show ∃ q, q < k ∧ b6 x q = true from ⟨j, by omega, e2⟩)]
      simp
  · rw [decide_eq_false c]
    have f : ∀ i, i ≤ k → b6 x i = false := fun i hi => by
      cases e : b6 x i with
      | false => rfl
      | true => exact absurd ⟨i, hi, e⟩ c
    have : ¬ ∃ q, q < k ∧ b6 (land x (w64 (-x))) q = true := fun ⟨q, hq, e4⟩ => by
      rw [low q (by omega), f q (by omega)] at e4; cases e4
    rw [decide_eq_false this, low k (by omega), f k (Nat.le_refl _)]; rfl
/-! THE CLASS'S TABLE OF STATES -/
def shC (c : Int) : Nat := (irem (iush (w32 (c * (-1640531535))) 8) 8192).toNat
def slCx (c : Int) (j : Nat) : Nat := (shC c + j) % 8192
def MsC (w : Wd) (c : Int) (d : Nat) : Prop := ∀ j, j < d → w 29 (slCx c j) ≠ 0 ∧ w 30 (w 29 (slCx c j) - 1).toNat ≠ c
def FnC (w : Wd) (c : Int) (t : Nat) : Prop := ∃ d, d < 8192 ∧ MsC w c d ∧ w 29 (slCx c d) = (t : Int) + 1 ∧ w 30 t = c
def TC (w : Wd) : Prop := (∀ p q, p < 8192 → q < 8192 → w 29 p = w 29 q → w 29 p ≠ 0 → p = q) ∧ (∀ p, p < 8192 → 0 ≤ w 29 p ∧ w 29 p ≤ w 28 7) ∧ (0 ≤ w 28 7 ∧ w 28 7 ≤ 3000) ∧ ∀ k : Nat, (k : Int) < w 28 7 → FnC w (w 30 k) k
theorem slC_lt (c : Int) (j : Nat) : slCx c j < 8192 := Nat.mod_lt _ (by decide)
theorem fnC_one {w : Wd} {c : Int} {t t' : Nat} (h : FnC w c t) (h' : FnC w c t') : t = t' := by
  obtain ⟨d, hd, hm, e1, e2⟩ := h
  obtain ⟨d', hd', hm', e1', e2'⟩ := h'
  rcases Nat.lt_trichotomy d d' with h | h | h
  · have h1 := (hm' d h).2
    rw [e1] at h1
    exact absurd (by rw [show ((t : Int) + 1 - 1).toNat = t by omega]; exact e2) h1
  · subst h
    omega
  · have h1 := (hm d' h).2
    rw [e1'] at h1
    exact absurd (by rw [show ((t' : Int) + 1 - 1).toNat = t' by omega]; exact e2') h1
/-- no STATE stands twice -/
theorem tc_one {w : Wd} (h : TC w) {i j : Nat} (hi : (i : Int) < w 28 7) (hj : (j : Int) < w 28 7) (e : w 30 i = w 30 j) : i = j := by
  have h1 := h.2.2.2 i hi
  rw [e] at h1
  exact fnC_one h1 (h.2.2.2 j hj)
theorem tc_eq {w u : Wd} (h : TC w) (h29 : u 29 = w 29) (h30 : u 30 = w 30) (h7 : u 28 7 = w 28 7) : TC u := by
  unfold TC FnC MsC
  rw [h29, h30, h7]
  exact h
theorem tc_zero {w : Wd} (h : TC w) : ∃ p, p < 8192 ∧ w 29 p = 0 := by
  refine Classical.byContradiction fun hn => ?_
  have hnz : ∀ p, p < 8192 → w 29 p ≠ 0 := fun p hp e => hn ⟨p, hp, e⟩
  have h1 := php 3001 8192 (fun p => (w 29 p).toNat) (fun p hp => by
    have := h.2.1 p hp
    have := h.2.2.1
    show (w 29 p).toNat < 3001
    omega) (fun p q hp hq e => by
    have h1 := h.2.1 p hp
    have h2 := h.2.1 q hq
    exact h.1 p q hp hq (by have e' : (w 29 p).toNat = (w 29 q).toNat := e; omega) (hnz p hp))
  omega
theorem shC_lt (c : Int) : shC c < 8192 := by
  have r1 := iush_k 8 (x := w32 (c * (-1640531535))) (y := 8) (m := 16777215) rfl (by decide) (by decide) (by decide)
  have r2 := irem_rg2 (x := iush (w32 (c * (-1640531535))) 8) (c := 8192) (by decide) (by omega)
  unfold shC
  omega
theorem slo_pc {w : Wd} (h : TC w) {c : Int} : PC (f_S_slotOf c w) (fun r u => u = w ∧ (0 ≤ r ∧ r < 8192) ∧ ∃ d, d < 8192 ∧ r.toNat = slCx c d ∧ MsC w c d ∧ (w 29 r.toNat = 0 ∨ (w 29 r.toNat ≠ 0 ∧ w 30 (w 29 r.toNat - 1).toNat = c))) := by
  obtain ⟨p, hp, hz⟩ := tc_zero h
  have l14 : ∀ (n : Nat) {v2 v3 : Int}, (0 ≤ v2 ∧ v2 < 8192) → 0 ≤ v3 → v2.toNat = slCx c v3.toNat → MsC w c v3.toNat → PC (f_S_slotOf_14 n c v2 v3 w) (fun r u => u = w ∧ (0 ≤ r ∧ r < 8192) ∧ ∃ d, d < 8192 ∧ r.toNat = slCx c d ∧ MsC w c d ∧ (w 29 r.toNat = 0 ∨ (w 29 r.toNat ≠ 0 ∧ w 30 (w 29 r.toNat - 1).toNat = c))) := by
    intro n
    induction n with
    | zero => intros; exact pc_none
    | succ n ih =>
      intro v2 v3 i2 i3 e2 hm
      rw [f_S_slotOf_14]
      have hs : shC c < 8192 := shC_lt c
      have lt : v3 < 8192 := by
        refine Classical.byContradiction fun hn => ?_
        have := (hm ((p + 8192 - shC c) % 8192) (by omega)).1
        apply this
        rw [show slCx c ((p + 8192 - shC c) % 8192) = p by unfold slCx; omega]
        exact hz
      refine pc_ite (fun c0 => by omega) (fun _ => ?_)
      refine pc_gd (fun _ => pc_ite (fun c1 => pc_some ⟨rfl, i2, v3.toNat, by omega, e2, hm, Or.inl c1⟩) (fun c1 => ?_))
      have hr := h.2.1 v2.toNat (by omega)
      have h7 := h.2.2.1
      have z : w32 (w 29 v2.toNat - 1) = w 29 v2.toNat - 1 := w32_id (by omega)
      refine pc_gd (fun _ => pc_gd (fun _ => ?_))
      rw [z]
      refine pc_ite (fun c2 => pc_some ⟨rfl, i2, v3.toNat, by omega, e2, hm, Or.inr ⟨c1, c2⟩⟩) (fun c2 => ?_)
      rw [if_neg (by decide)]
      refine pc_let (fun x2 ex2 => pc_let (fun x3 ex3 => ?_))
      rw [w32_id (by omega)] at ex3
      rw [w32_id (show -2147483648 ≤ v2 + 1 ∧ v2 + 1 ≤ 2147483647 by omega), irem_k (by decide) (by omega)] at ex2
      rw [ex2, ex3]
      refine ih (by omega) (by omega) ?_ (fun j hj => ?_)
      · unfold slCx at *
        omega
      · by_cases cj : j < v3.toNat
        · exact hm j cj
        · rw [show j = v3.toNat by omega, ← e2]
          exact ⟨c1, c2⟩
  unfold f_S_slotOf
  rw [if_neg (by decide)]
  refine pc_let (fun x1 e1 => ?_)
  have r1 := iush_k 8 (x := w32 (c * (-1640531535))) (y := 8) (m := 16777215) rfl (by decide) (by decide) (by decide)
  have r2 := irem_rg2 (x := iush (w32 (c * (-1640531535))) 8) (c := 8192) (by decide) (by omega)
  refine l14 FU (v2 := x1) (v3 := 0) (by omega) (by decide) ?_ (fun j hj => by have : (0 : Int).toNat = 0 := rfl; omega)
  show x1.toNat = slCx c 0
  unfold slCx shC
  rw [← e1]
  omega
/-- a new STATE is laid -/
def NEWS (w u : Wd) (y wk rk : Int) : Prop := u 28 7 = w 28 7 + 1 ∧ (∀ k, k ≠ 7 → u 28 k = w 28 k) ∧ (∀ k, u 30 k = if k = (w 28 7).toNat then y else w 30 k) ∧ (∀ k, u 31 k = if k = (w 28 7).toNat then lor 0 wk else w 31 k) ∧ (∀ k, u 33 k = if k = (w 28 7).toNat then w 34 rk.toNat else w 33 k) ∧ (∀ k, u 34 k = if k = rk.toNat then w 28 7 else w 34 k) ∧ TC u ∧ ∀ c, c ≠ 28 → c ≠ 29 → c ≠ 30 → c ≠ 31 → c ≠ 33 → c ≠ 34 → u c = w c
def PLE (w u : Wd) (y wk rk : Int) : Prop := (u = st w 28 10 1 ∧ w 28 7 = 3000 ∧ ∀ t : Nat, (t : Int) < w 28 7 → w 30 t ≠ y) ∨ (∃ t : Nat, (t : Int) < w 28 7 ∧ w 30 t = y ∧ u = st w 31 t (lor (w 31 t) wk)) ∨ (w 28 7 < 3000 ∧ (∀ t : Nat, (t : Int) < w 28 7 → w 30 t ≠ y) ∧ NEWS w u y wk rk)
theorem place_pc {w : Wd} (h : TC w) {y wk rk : Int} (hr : f_O_rank y w = some (rk, w)) (hrk : 0 ≤ rk ∧ rk ≤ 450) : PC (f_S_place y wk w) (fun _ u => PLE w u y wk rk) := by
  unfold f_S_place
  refine pc_call (slo_pc h (c := y)) (fun r1 u2 q => ?_)
  obtain ⟨q1, q2, d, hd, q3, q4, q5⟩ := q
  rw [q1]
  refine pc_gd (fun _ => ?_)
  have h7 := h.2.2.1
  refine pc_ite (fun c => ?_) (fun c => ?_)
  · have nw : ∀ t : Nat, (t : Int) < w 28 7 → w 30 t ≠ y := fun t ht e => by
      have hf := h.2.2.2 t ht
      rw [e] at hf
      obtain ⟨d', hd', hm', e1', e2'⟩ := hf
      rcases Nat.lt_trichotomy d d' with h | h | h
      · have h1 := (hm' d h).1
        rw [← q3] at h1
        exact h1 c
      · subst h
        rw [← q3, c] at e1'
        omega
      · have h1 := (q4 d' h).2
        rw [e1'] at h1
        exact absurd (by rw [show ((t : Int) + 1 - 1).toNat = t by omega]; exact e2') h1
    rw [hr, jc_s]
    refine pc_ite (fun c3 => ?_) (fun c3 => ?_)
    · unfold f_S_place_46
      exact pc_lw (fun u7 e7 => pc_some (Or.inl ⟨e7, by omega, nw⟩))
    refine pc_ite (fun c4 => by omega) (fun _ => ?_)
    refine pc_ite (fun _ => ?_) (fun c5 => by omega)
    refine pc_gd (fun _ => pc_lw (fun u8 e8 => pc_gd (fun _ => pc_lw (fun u9 e9 => pc_gd (fun _ => pc_gd (fun _ => pc_lw (fun u10 e10 => pc_gd (fun _ => pc_lw (fun u11 e11 => pc_lw (fun u12 e12 => pc_gd (fun _ => pc_lw (fun u13 e13 => ?_))))))))))))
    have s8 : u8 28 7 = w 28 7 := by rw [e8, st_c (by decide)]
    have s9 : u9 28 7 = w 28 7 := by rw [e9, st_c (by decide)]; exact s8
    have s10 : u10 28 7 = w 28 7 := by rw [e10, st_c (by decide)]; exact s9
    have s11 : u11 28 7 = w 28 7 := by rw [e11, st_c (by decide)]; exact s10
    have s12 : u12 28 7 = w 28 7 + 1 := by rw [e12, st_eq, s11]; exact w32_id (by omega)
    have s13 : u13 28 7 = w 28 7 + 1 := by rw [e13, st_c (by decide)]; exact s12
    rw [s8] at e9
    rw [s9] at e10
    rw [s10] at e11
    rw [s12] at e13
    have a29 : ∀ k, u13 29 k = if k = r1.toNat then w 28 7 + 1 else w 29 k := fun k => by
      rw [e13]
      by_cases ck : k = r1.toNat
      · rw [if_pos ck, ck, st_eq]
      · rw [if_neg ck, st_k ck, e12, st_c (by decide), e11, st_c (by decide), e10, st_c (by decide), e9, st_c (by decide), e8, st_c (by decide)]
    have a30 : ∀ k, u13 30 k = if k = (w 28 7).toNat then y else w 30 k := fun k => by
      rw [e13, st_c (by decide), e12, st_c (by decide), e11, st_c (by decide), e10, st_c (by decide), e9, st_c (by decide), e8]
      by_cases ck : k = (w 28 7).toNat
      · rw [if_pos ck, ck, st_eq]
      · rw [if_neg ck, st_k ck]
    have a31 : ∀ k, u13 31 k = if k = (w 28 7).toNat then 0 else w 31 k := fun k => by
      rw [e13, st_c (by decide), e12, st_c (by decide), e11, st_c (by decide), e10, st_c (by decide), e9]
      by_cases ck : k = (w 28 7).toNat
      · rw [if_pos ck, ck, st_eq]
      · rw [if_neg ck, st_k ck, e8, st_c (by decide)]
    have a33 : ∀ k, u13 33 k = if k = (w 28 7).toNat then w 34 rk.toNat else w 33 k := fun k => by
      rw [e13, st_c (by decide), e12, st_c (by decide), e11, st_c (by decide), e10]
      by_cases ck : k = (w 28 7).toNat
      · rw [if_pos ck, ck, st_eq, e9, st_c (by decide), e8, st_c (by decide)]
      · rw [if_neg ck, st_k ck, e9, st_c (by decide), e8, st_c (by decide)]
    have a34 : ∀ k, u13 34 k = if k = rk.toNat then w 28 7 else w 34 k := fun k => by
      rw [e13, st_c (by decide), e12, st_c (by decide), e11]
      by_cases ck : k = rk.toNat
      · rw [if_pos ck, ck, st_eq]
      · rw [if_neg ck, st_k ck, e10, st_c (by decide), e9, st_c (by decide), e8, st_c (by decide)]
    have aot : ∀ c, c ≠ 28 → c ≠ 29 → c ≠ 30 → c ≠ 31 → c ≠ 33 → c ≠ 34 → u13 c = w c := fun c x1 x2 x3 x4 x5 x6 => by
      rw [e13, st_row x2, e12, st_row x1, e11, st_row x6, e10, st_row x5, e9, st_row x4, e8, st_row x3]
    have a28 : ∀ k, k ≠ 7 → u13 28 k = w 28 k := fun k hk => by
      rw [e13, st_c (by decide), e12, st_k hk, e11, st_c (by decide), e10, st_c (by decide), e9, st_c (by decide), e8, st_c (by decide)]
    have hms : ∀ c d, MsC w c d → MsC u13 c d := fun c' d' hm j hj => by
      obtain ⟨h1, h2⟩ := hm j hj
      have hne : slCx c' j ≠ r1.toNat := fun e => h1 (by rw [e]; exact c)
      have r3 := h.2.1 (slCx c' j) (slC_lt c' j)
      rw [a29, if_neg hne]
      refine ⟨h1, ?_⟩
      rw [a30, if_neg (by omega)]
      exact h2
    have hT : TC u13 := by
      refine ⟨fun p q hp hq e hn => ?_, fun p hp => ?_, by rw [s13]; omega, fun k hk => ?_⟩
      · rw [a29, a29] at e
        rw [a29] at hn
        have rp := h.2.1 p hp
        have rq := h.2.1 q hq
        by_cases h1 : p = r1.toNat <;> by_cases h2 : q = r1.toNat
        · rw [h1, h2]
        · rw [if_pos h1, if_neg h2] at e
          omega
        · rw [if_neg h1, if_pos h2] at e
          omega
        · rw [if_neg h1, if_neg h2] at e
          rw [if_neg h1] at hn
          exact h.1 p q hp hq e hn
      · rw [a29, s13]
        have rp := h.2.1 p hp
        split <;> omega
      · rw [s13] at hk
        by_cases ck : k = (w 28 7).toNat
        · rw [a30, if_pos ck]
          refine ⟨d, hd, hms y d q4, ?_, by rw [a30, if_pos ck]⟩
          rw [← q3, a29, if_pos rfl]; omega
        · have hk2 : (k : Int) < w 28 7 := by omega
          rw [a30, if_neg ck]
          obtain ⟨d', hd', hm', e1', e2'⟩ := h.2.2.2 k hk2
          have hne : slCx (w 30 k) d' ≠ r1.toNat := fun e => by rw [e, c] at e1'; omega
          exact ⟨d', hd', hms _ _ hm', by rw [a29, if_neg hne]; exact e1', by rw [a30, if_neg ck]⟩
    unfold f_S_place_120
    have b1 : u13 29 r1.toNat = w 28 7 + 1 := by rw [a29, if_pos rfl]
    rw [b1, show w32 (w 28 7 + 1 - 1) = w 28 7 from (w32_id (by omega)).trans (by omega)]
    refine pc_gd (fun _ => pc_let (fun x3 e3 => pc_gd (fun _ => pc_gd (fun _ => pc_lw (fun u4 e4 => pc_some (Or.inr (Or.inr ⟨by omega, nw, ?_⟩)))))))
    rw [e3] at e4
    rw [show u13 31 (w 28 7).toNat = 0 by rw [a31, if_pos rfl]] at e4
    refine ⟨by rw [e4, st_c (by decide)]; exact s13, fun k hk => by rw [e4, st_c (by decide)]; exact a28 k hk, fun k => by rw [e4, st_c (by decide)]; exact a30 k, fun k => ?_, fun k => by rw [e4, st_c (by decide)]; exact a33 k, fun k => by rw [e4, st_c (by decide)]; exact a34 k, tc_eq hT (by rw [e4, st_row (by decide)]) (by rw [e4, st_row (by decide)]) (by rw [e4, st_c (by decide)]), fun c x1 x2 x3 x4 x5 x6 => by rw [e4, st_row x4]; exact aot c x1 x2 x3 x4 x5 x6⟩
    rw [e4]
    by_cases ck : k = (w 28 7).toNat
    · rw [if_pos ck, ck, st_eq]
    · rw [if_neg ck, st_k ck, a31, if_neg ck]
  · obtain ⟨c1, c2⟩ := q5.resolve_left c
    have rr := h.2.1 r1.toNat (by omega)
    unfold f_S_place_120
    rw [show w32 (w 29 r1.toNat - 1) = w 29 r1.toNat - 1 from w32_id (by omega)]
    refine pc_gd (fun _ => pc_let (fun x3 e3 => pc_gd (fun _ => pc_gd (fun _ => pc_lw (fun u4 e4 => pc_some (Or.inr (Or.inl ⟨x3.toNat, by omega, by rw [e3]; exact c2, e4⟩)))))))
/-! THE CLASS'S SEARCH -/
def CW (P g se : Int) (h kn : Nat → Int) (x0 : Int) (w : Wd) : Prop := w 5 3 = P ∧ B10 (w 5 5) (hB P h) ∧ w 5 7 = g ∧ w 5 8 = se ∧ w 5 4 = x0 ∧ ∀ j : Nat, (j : Int) < P → w 7 j = kn j ∧ 0 ≤ kn j ∧ kn j ≤ 1023
theorem cw_eq {P g se : Int} {h kn : Nat → Int} {x0 : Int} {w u : Wd} (hw : CW P g se h kn x0 w) (h5 : u 5 = w 5) (h7 : u 7 = w 7) : CW P g se h kn x0 u := by
  unfold CW
  rw [h5, h7]; exact hw
def rkx (P x : Int) : Int := rkf P (sof x)
def SI0 (P g se : Int) (h kn : Nat → Int) (x0 : Int) (w : Wd) : Prop := TC w ∧ ∀ k : Nat, (k : Int) < w 28 7 → (∃ t, RCX P g se h kn x0 t (w 30 k)) ∧ ∀ t, t < 61 → b6 (w 31 k) t = true → RCX P g se h kn x0 t (w 30 k)
def PRO (w : Wd) (k : Nat) : Prop := ∃ j : Nat, (j : Int) < w 28 8 ∧ w 35 j = (k : Int)
def CLSx (P g se : Int) (h kn : Nat → Int) (w : Wd) (k : Nat) : Prop := ∀ y, SUX P g se h kn (w 30 k) y → ∃ j : Nat, (j : Int) < w 28 7 ∧ w 30 j = y ∧ ∀ t, t + 1 < 61 → b6 (w 31 k) t = true → b6 (w 31 j) (t + 1) = true
def chn (f : Nat → Int) : Int → List Nat → Prop
  | z, [] => z = -1
  | z, k :: l => z = (k : Int) ∧ chn f (f k) l
theorem chn_eq {f g : Nat → Int} : ∀ {l : List Nat} {z : Int}, (∀ k, k ∈ l → f k = g k) → chn f z l → chn g z l := by
  intro l
  induction l with
  | nil => intro z _ h; exact h
  | cons k l ih =>
    intro z he h
    refine ⟨h.1, ?_⟩
    rw [← he k List.mem_cons_self]
    exact ih (fun q hq => he q (List.mem_cons_of_mem _ hq)) h.2
def BKT (P : Int) (w : Wd) : Prop := ∀ r : Nat, r < 451 → ∃ l : List Nat, chn (w 33) (w 34 r) l ∧ l.Nodup ∧ ∀ k : Nat, k ∈ l ↔ ((k : Int) < w 28 7 ∧ rkx P (w 30 k) = (r : Int) ∧ ¬ PRO w k)
def ORD (w : Wd) : Prop := (0 ≤ w 28 8 ∧ w 28 8 ≤ w 28 7) ∧ (∀ j : Nat, (j : Int) < w 28 8 → 0 ≤ w 35 j ∧ w 35 j < w 28 7) ∧ ∀ i j : Nat, (i : Int) < w 28 8 → (j : Int) < w 28 8 → w 35 i = w 35 j → i = j
def MNY (P g se : Int) (h kn : Nat → Int) (x0 : Int) : Prop := ∃ F : Nat → Int, (∀ i, i < 3001 → ∃ t, RCX P g se h kn x0 t (F i)) ∧ ∀ i j, i < 3001 → j < 3001 → F i = F j → i = j
def COR (P g se : Int) (h kn : Nat → Int) (x0 v3 s : Int) (w : Wd) : Prop := SI0 P g se h kn x0 w ∧ ORD w ∧ BKT P w ∧ (∀ k, PRO w k → rkx P (w 30 k) ≤ v3 ∧ ((k : Int) ≠ s → CLSx P g se h kn w k)) ∧ ∀ k : Nat, (k : Int) < w 28 7 → rkx P (w 30 k) < v3 → PRO w k
/-- more is known, nothing is lost -/
def GRW (w u : Wd) (y : Int) : Prop := w 28 7 ≤ u 28 7 ∧ ∀ k : Nat, (k : Int) < w 28 7 → u 30 k = w 30 k ∧ (∀ t, t < 61 → b6 (w 31 k) t = true → b6 (u 31 k) t = true) ∧ (w 30 k ≠ y → u 31 k = w 31 k)
theorem cls_grw {P g se : Int} {h kn : Nat → Int} {w u : Wd} {y : Int} {k : Nat} (hk : (k : Int) < w 28 7) (hg : GRW w u y) (hn : w 30 k ≠ y) (hc : CLSx P g se h kn w k) : CLSx P g se h kn u k := by
  intro z hz
  obtain ⟨a1, _, a3⟩ := hg.2 k hk
  rw [a1] at hz
  obtain ⟨j, hj, ej, ht⟩ := hc z hz
  obtain ⟨b1, b2, _⟩ := hg.2 j hj
  have := hg.1
  refine ⟨j, by omega, by rw [b1]; exact ej, fun t h61 hb => b2 (t + 1) h61 (ht t h61 ?_)⟩
  rw [a3 hn] at hb; exact hb
theorem pro_eq {w u : Wd} (h8 : u 28 8 = w 28 8) (h35 : u 35 = w 35) (k : Nat) : PRO u k ↔ PRO w k := by
  unfold PRO
  rw [h8, h35]
theorem pro_lt {w : Wd} (ho : ORD w) {k : Nat} (hp : PRO w k) : (k : Int) < w 28 7 := by
  obtain ⟨j, hj, e⟩ := hp
  have := (ho.2.1 j hj).2
  omega
theorem cor_place {P g se : Int} {h kn : Nat → Int} {x0 v3 s : Int} {w u : Wd} {y wk : Int} (hc : COR P g se h kn x0 v3 s w) (hy : WH y (sof y) P) (hv : v3 < rkx P y) (hr : ∃ t, RCX P g se h kn x0 t y) (hb : ∀ t, t < 61 → b6 wk t = true → RCX P g se h kn x0 t y) (hp : PLE w u y wk (rkx P y)) : (u = st w 28 10 1 ∧ MNY P g se h kn x0) ∨ (COR P g se h kn x0 v3 s u ∧ u 28 10 = w 28 10 ∧ GRW w u y ∧ (∃ j : Nat, (j : Int) < u 28 7 ∧ u 30 j = y ∧ ∀ t, t < 61 → b6 wk t = true → b6 (u 31 j) t = true) ∧ (∀ c, c ≠ 28 → c ≠ 29 → c ≠ 30 → c ≠ 31 → c ≠ 33 → c ≠ 34 → u c = w c) ∧ u 28 8 = w 28 8 ∧ u 28 9 = w 28 9) := by
  obtain ⟨⟨c1, c2⟩, c3, c4, c5, c6⟩ := hc
  have h7 := c1.2.2.1
  rcases hp with ⟨e, e7, nw⟩ | ⟨t, ht, et, e⟩ | ⟨lt, nw, n7, n28, n30, n31, n33, n34, nT, not⟩
  · refine Or.inl ⟨e, fun i => if i < 3000 then w 30 i else y, fun i hi => ?_, fun i j hi hj e2 => ?_⟩
    · by_cases c : i < 3000
      · show ∃ t, RCX P g se h kn x0 t (if i < 3000 then w 30 i else y)
        rw [if_pos c]; exact (c2 i (by omega)).1
      · show ∃ t, RCX P g se h kn x0 t (if i < 3000 then w 30 i else y)
        rw [if_neg c]; exact hr
    · have e3 : (if i < 3000 then w 30 i else y) = (if j < 3000 then w 30 j else y) := e2
      by_cases ci : i < 3000 <;> by_cases cj : j < 3000
      · rw [if_pos ci, if_pos cj] at e3
        exact tc_one c1 (by omega) (by omega) e3
      · rw [if_pos ci, if_neg cj] at e3
        exact absurd e3 (nw i (by omega))
      · rw [if_neg ci, if_pos cj] at e3
        exact absurd e3.symm (nw j (by omega))
      · omega
  · have r7 : u 28 7 = w 28 7 := by rw [e, st_c (by decide)]
    have r8 : u 28 8 = w 28 8 := by rw [e, st_c (by decide)]
    have ro : ∀ c, c ≠ 31 → u c = w c := fun c hc => by rw [e, st_row hc]
    have a31 : ∀ k, u 31 k = if k = t then lor (w 31 t) wk else w 31 k := fun k => by
      rw [e]
      by_cases ck : k = t
      · rw [if_pos ck, ck, st_eq]
      · rw [if_neg ck, st_k ck]
    have hg : GRW w u y := ⟨by omega, fun k hk => ⟨by rw [ro 30 (by decide)], fun q _ hq => by
      rw [a31]
      by_cases ck : k = t
      · rw [if_pos ck, b6_or, ← ck, hq]; rfl
      · rw [if_neg ck]; exact hq, fun hn => by
      rw [a31, if_neg (fun ck => hn (by rw [ck]; exact et))]⟩⟩
    refine Or.inr ⟨⟨⟨tc_eq c1 (ro 29 (by decide)) (ro 30 (by decide)) r7, fun k hk => ?_⟩, ?_, ?_, fun k hk => ?_, fun k hk hlt => ?_⟩, by rw [e, st_c (by decide)], hg, ⟨t, by omega, by rw [ro 30 (by decide)]; exact et, fun q _ hq => by rw [a31, if_pos rfl, b6_or, hq, Bool.or_true]⟩, fun c _ _ _ x4 _ _ => ro c x4, r8, by rw [e, st_c (by decide)]⟩
    · rw [ro 30 (by decide)]
      rw [r7] at hk
      refine ⟨(c2 k hk).1, fun q h61 hq => ?_⟩
      rw [a31] at hq
      by_cases ck : k = t
      · rw [if_pos ck, b6_or, Bool.or_eq_true] at hq
        rcases hq with hq | hq
        · rw [ck]; exact (c2 t ht).2 q h61 hq
        · rw [ck, et]; exact hb q h61 hq
      · rw [if_neg ck] at hq
        exact (c2 k hk).2 q h61 hq
    · unfold ORD
      rw [r7, r8, ro 35 (by decide)]; exact c3
    · intro r hr'
      obtain ⟨l, l1, l2, l3⟩ := c4 r hr'
      refine ⟨l, by rw [ro 33 (by decide), ro 34 (by decide)]; exact l1, l2, fun k => ?_⟩
      rw [r7, ro 30 (by decide), pro_eq r8 (ro 35 (by decide))]
      exact l3 k
    · have hk' := (pro_eq r8 (ro 35 (by decide)) k).mp hk
      have q := c5 k hk'
      have hkl := pro_lt c3 hk'
      rw [ro 30 (by decide)]
      refine ⟨q.1, fun hn => cls_grw hkl hg (fun ey => ?_) (q.2 hn)⟩
      rw [ey] at q
      have := q.1
      omega
    · rw [pro_eq r8 (ro 35 (by decide))]
      rw [r7] at hk
      rw [ro 30 (by decide)] at hlt
      exact c6 k hk hlt
  · have r8 : u 28 8 = w 28 8 := n28 8 (by decide)
    have r35 : u 35 = w 35 := not 35 (by decide) (by decide) (by decide) (by decide) (by decide) (by decide)
    have o30 : ∀ k : Nat, (k : Int) < w 28 7 → u 30 k = w 30 k := fun k hk => by rw [n30, if_neg (by omega)]
    have o31 : ∀ k : Nat, (k : Int) < w 28 7 → u 31 k = w 31 k := fun k hk => by rw [n31, if_neg (by omega)]
    have z30 : u 30 (w 28 7).toNat = y := by rw [n30, if_pos rfl]
    have z31 : u 31 (w 28 7).toNat = lor 0 wk := by rw [n31, if_pos rfl]
    have hg : GRW w u y := ⟨by omega, fun k hk => ⟨o30 k hk, fun q _ hq => by rw [o31 k hk]; exact hq, fun _ => o31 k hk⟩⟩
    have pl : ∀ k, PRO u k ↔ PRO w k := pro_eq r8 r35
    refine Or.inr ⟨⟨⟨nT, fun k hk => ?_⟩, ?_, ?_, fun k hk => ?_, fun k hk hlt => ?_⟩, n28 10 (by decide), hg, ⟨(w 28 7).toNat, by omega, z30, fun q _ hq => by rw [z31, b6_or, hq, Bool.or_true]⟩, not, r8, n28 9 (by decide)⟩
    · by_cases ck : (k : Int) < w 28 7
      · rw [o30 k ck, o31 k ck]; exact c2 k ck
      · rw [show k = (w 28 7).toNat by omega, z30, z31]
        refine ⟨hr, fun q h61 hq => hb q h61 ?_⟩
        rw [b6_or, b6_0, Bool.false_or] at hq; exact hq
    · unfold ORD
      rw [r8, r35, n7]
      have c31 := c3.1
      exact ⟨by omega, fun j hj => by have := c3.2.1 j hj; omega, c3.2.2⟩
    · intro r hr'
      obtain ⟨l, l1, l2, l3⟩ := c4 r hr'
      have lm : ∀ k, k ∈ l → w 33 k = u 33 k := fun k hk => by
        have := ((l3 k).mp hk).1
        rw [n33, if_neg (by omega)]
      have nl : (w 28 7).toNat ∉ l := fun hm => by
        have := ((l3 _).mp hm).1
        omega
      have np : ¬ PRO w (w 28 7).toNat := fun hp => by
        have := pro_lt c3 hp
        omega
      by_cases cr : r = (rkx P y).toNat
      · have er : (r : Int) = rkx P y := by
          have := (rkf_rg hy.2.2).1
          have e : rkx P y = rkf P (sof y) := rfl
          omega
        refine ⟨(w 28 7).toNat :: l, ?_, List.nodup_cons.mpr ⟨nl, l2⟩, fun k => ?_⟩
        · refine ⟨by rw [n34, if_pos cr]; omega, ?_⟩
          rw [n33, if_pos rfl, ← cr]
          exact chn_eq lm l1
        · rw [List.mem_cons, pl, l3, n7]
          by_cases ck : k = (w 28 7).toNat
          · rw [ck, z30]
            exact ⟨fun _ => ⟨by omega, er.symm, np⟩, fun _ => Or.inl rfl⟩
          · constructor
            · rintro (e | ⟨h1, h2, h3⟩)
              · exact absurd e ck
              · rw [o30 k h1]; exact ⟨by omega, h2, h3⟩
            · rintro ⟨h1, h2, h3⟩
              have h1' : (k : Int) < w 28 7 := by omega
              rw [o30 k h1'] at h2
              exact Or.inr ⟨h1', h2, h3⟩
      · refine ⟨l, ?_, l2, fun k => ?_⟩
        · rw [n34, if_neg cr]; exact chn_eq lm l1
        · rw [pl, l3, n7]
          by_cases ck : k = (w 28 7).toNat
          · rw [ck, z30]
            constructor
            · rintro ⟨h1, _⟩; omega
            · rintro ⟨_, h2, _⟩
              exact absurd (by rw [h2]; omega) cr
          · constructor
            · rintro ⟨h1, h2, h3⟩
              rw [o30 k h1]; exact ⟨by omega, h2, h3⟩
            · rintro ⟨h1, h2, h3⟩
              have h1' : (k : Int) < w 28 7 := by omega
              rw [o30 k h1'] at h2
              exact ⟨h1', h2, h3⟩
    · have hk' := (pl k).mp hk
      have q := c5 k hk'
      have hkl := pro_lt c3 hk'
      rw [o30 k hkl]
      refine ⟨q.1, fun hn => cls_grw hkl hg (fun ey => ?_) (q.2 hn)⟩
      rw [ey] at q
      have := q.1
      omega
    · rw [pl]
      by_cases ck : (k : Int) < w 28 7
      · rw [o30 k ck] at hlt
        exact c6 k ck hlt
      · rw [show k = (w 28 7).toNat by omega, z30] at hlt
        omega
/-- one STATE's own loop: where nobody is a GUEST -/
theorem cor_no {P g se : Int} {h kn : Nat → Int} {x0 v3 : Int} {w u : Wd} {s : Nat} (hP : 0 ≤ P ∧ P ≤ 10) (h0 : WH x0 (sof x0) P) (hc : COR P g se h kn x0 v3 s w) (hs : (s : Int) < w 28 7) (hn : ∀ k, k < 10 → gs P (sof (w 30 s)) k = false) (e : u = st w 31 s (land (w64 (-(land (w 31 s) (w64 (-(w 31 s)))))) 2305843009213693951)) : COR P g se h kn x0 v3 (-1) u ∧ GRW w u (w 30 s) := by
  obtain ⟨⟨c1, c2⟩, c3, c4, c5, c6⟩ := hc
  have hx : WH (w 30 s) (sof (w 30 s)) P := by
    obtain ⟨t, ht⟩ := (c2 s hs).1
    exact rx_wh hP h0 ht
  have r7 : u 28 7 = w 28 7 := by rw [e, st_c (by decide)]
  have r8 : u 28 8 = w 28 8 := by rw [e, st_c (by decide)]
  have ro : ∀ c, c ≠ 31 → u c = w c := fun c hc => by rw [e, st_row hc]
  have a31 : ∀ k, k ≠ s → u 31 k = w 31 k := fun k hk => by rw [e, st_k hk]
  have s31 : ∀ t, t < 61 → b6 (u 31 s) t = decide (∃ j, j ≤ t ∧ b6 (w 31 s) j = true) := fun t ht => by rw [e, st_eq]; exact b6_up _ ht
  have hg : GRW w u (w 30 s) := ⟨by omega, fun k hk => ⟨by rw [ro 30 (by decide)], fun q h61 hq => by
    by_cases ck : k = s
    · rw [ck, s31 q h61]
      rw [ck] at hq
      exact decide_eq_true ⟨q, Nat.le_refl _, hq⟩
    · rw [a31 k ck]; exact hq, fun hn => a31 k (fun ck => hn (by rw [ck]))⟩⟩
  have pl := pro_eq r8 (ro 35 (by decide))
  have stay : ∀ (d t : Nat), RCX P g se h kn x0 t (w 30 s) → RCX P g se h kn x0 (t + d) (w 30 s) := by
    intro d
    induction d with
    | zero => intro t ht; exact ht
    | succ d ih => intro t ht; exact ⟨w 30 s, ih t ht, (sx_no hP hx hn).mpr rfl⟩
  refine ⟨⟨⟨tc_eq c1 (ro 29 (by decide)) (ro 30 (by decide)) r7, fun k hk => ?_⟩, ?_, ?_, fun k hk => ?_, fun k hk hlt => ?_⟩, hg⟩
  · rw [r7] at hk
    rw [ro 30 (by decide)]
    refine ⟨(c2 k hk).1, fun t h61 hq => ?_⟩
    by_cases ck : k = s
    · rw [ck, s31 t h61, decide_eq_true_iff] at hq
      obtain ⟨j, hj, hb⟩ := hq
      have := stay (t - j) j ((c2 s hs).2 j (by omega) hb)
      rw [show j + (t - j) = t by omega] at this
      rw [ck]; exact this
    · rw [a31 k ck] at hq
      exact (c2 k hk).2 t h61 hq
  · unfold ORD
    rw [r7, r8, ro 35 (by decide)]; exact c3
  · intro r hr'
    obtain ⟨l, l1, l2, l3⟩ := c4 r hr'
    refine ⟨l, by rw [ro 33 (by decide), ro 34 (by decide)]; exact l1, l2, fun k => ?_⟩
    rw [r7, ro 30 (by decide), pl]
    exact l3 k
  · have hk' := (pl k).mp hk
    have q := c5 k hk'
    have hkl := pro_lt c3 hk'
    rw [ro 30 (by decide)]
    refine ⟨q.1, fun _ => ?_⟩
    by_cases ck : k = s
    · intro z hz
      rw [ro 30 (by decide), ck, sx_no hP hx hn] at hz
      refine ⟨s, by omega, by rw [ro 30 (by decide)]; exact hz.symm, fun t h61 hb => ?_⟩
      rw [ck, s31 t (by omega), decide_eq_true_iff] at hb
      rw [s31 (t + 1) h61, decide_eq_true_iff]
      obtain ⟨j, hj, hb⟩ := hb
      exact ⟨j, by omega, hb⟩
    · have hne : w 30 k ≠ w 30 s := fun e2 => ck (tc_one c1 hkl hs e2)
      exact cls_grw hkl hg hne (q.2 (by omega))
  · rw [pl]
    rw [r7] at hk
    rw [ro 30 (by decide)] at hlt
    exact c6 k hk hlt
/-! ONE STATE AFTER THE OTHER -/
/-- what stays while the class searches -/
def FRS (w u : Wd) : Prop := (∀ c, c ≠ 24 → c ≠ 25 → c ≠ 26 → c ≠ 27 → c ≠ 28 → c ≠ 29 → c ≠ 30 → c ≠ 31 → c ≠ 33 → c ≠ 34 → c ≠ 35 → u c = w c) ∧ u 28 9 = w 28 9
theorem frs_tr {w u v : Wd} (h : FRS w u) (h2 : FRS u v) : FRS w v := ⟨fun c a1 a2 a3 a4 a5 a6 a7 a8 a9 a10 a11 => (h2.1 c a1 a2 a3 a4 a5 a6 a7 a8 a9 a10 a11).trans (h.1 c a1 a2 a3 a4 a5 a6 a7 a8 a9 a10 a11), h2.2.trans h.2⟩
theorem frs_self (w : Wd) : FRS w w := ⟨fun _ _ _ _ _ _ _ _ _ _ _ _ => rfl, rfl⟩
theorem frs_5 {w u : Wd} (h : FRS w u) : u 5 = w 5 := h.1 5 (by decide) (by decide) (by decide) (by decide) (by decide) (by decide) (by decide) (by decide) (by decide) (by decide) (by decide)
theorem frs_7 {w u : Wd} (h : FRS w u) : u 7 = w 7 := h.1 7 (by decide) (by decide) (by decide) (by decide) (by decide) (by decide) (by decide) (by decide) (by decide) (by decide) (by decide)
theorem cor_eq {P g se : Int} {h kn : Nat → Int} {x0 v3 s : Int} {w u : Wd} (hc : COR P g se h kn x0 v3 s w) (h7 : u 28 7 = w 28 7) (h8 : u 28 8 = w 28 8) (h29 : u 29 = w 29) (h30 : u 30 = w 30) (h31 : u 31 = w 31) (h33 : u 33 = w 33) (h34 : u 34 = w 34) (h35 : u 35 = w 35) : COR P g se h kn x0 v3 s u := by
  obtain ⟨⟨c1, c2⟩, c3, c4, c5, c6⟩ := hc
  refine ⟨⟨tc_eq c1 h29 h30 h7, ?_⟩, ?_, ?_, ?_, ?_⟩
  · rw [h7, h30, h31]; exact c2
  · unfold ORD; rw [h7, h8, h35]; exact c3
  · unfold BKT PRO; rw [h7, h8, h30, h33, h34, h35]; exact c4
  · unfold PRO CLSx; rw [h7, h8, h30, h31, h35]; exact c5
  · unfold PRO; rw [h7, h8, h30, h35]; exact c6
theorem sgu_pc {P : Int} {w : Wd} {s : Int} (hs : 0 ≤ s ∧ s < w 28 7) (hx : WH (w 30 s.toNat) (sof (w 30 s.toNat)) P) : PC (f_S_guests s w) (fun r u => u = w ∧ B10 r (gs P (sof (w 30 s.toNat)))) := by
  unfold f_S_guests
  rw [if_neg (by omega), if_neg (by omega)]
  refine pc_gd (fun _ => ?_)
  obtain ⟨r, e, b⟩ := og_e hx w
  rw [e, jc_s]
  exact pc_some ⟨rfl, b⟩
theorem b10_some {x : Int} {f : Nat → Bool} (h : B10 x f) : (x = 0 ∧ ∀ k, k < 10 → f k = false) ∨ (x ≠ 0 ∧ ∃ k, k < 10 ∧ f k = true) := by
  by_cases c : ∃ k, k < 10 ∧ f k = true
  · refine Or.inr ⟨fun e => ?_, c⟩
    obtain ⟨k, hk, e2⟩ := c
    have := h.2 k hk
    rw [e, bt_0, e2] at this; cases this
  · have f0 : ∀ k, k < 10 → f k = false := fun k hk => by
      cases e : f k with
      | false => rfl
      | true => exact absurd ⟨k, hk, e⟩ c
    exact Or.inl ⟨b10_eq h b10_0 f0, f0⟩
/-- the end of one STATE's turn -/
def TRN (P g se : Int) (h kn : Nat → Int) (x0 v3 : Int) (w u : Wd) : Prop := FRS w u ∧ (ROK u ∧ u 24 4 ≤ w 24 4 + 1) ∧ u 28 8 = w 28 8 ∧ u 35 = w 35 ∧ ((u 28 10 = 0 ∧ COR P g se h kn x0 v3 (-1) u ∧ w 28 7 ≤ u 28 7 ∧ ∀ k : Nat, (k : Int) < w 28 7 → u 30 k = w 30 k ∧ ∀ t, t < 61 → b6 (w 31 k) t = true → b6 (u 31 k) t = true) ∨ (u 28 10 = 1 ∧ MNY P g se h kn x0))
theorem goOn_pc {P g se : Int} {h kn : Nat → Int} {x0 v3 s : Int} {w : Wd} (hP : 0 ≤ P ∧ P ≤ 10) (hg : 1 ≤ g ∧ g ≤ 3) (h0 : WH x0 (sof x0) P) (hw : CW P g se h kn x0 w) (hc : COR P g se h kn x0 v3 s w) (hs : 0 ≤ s ∧ s < w 28 7) (hrk : rkx P (w 30 s.toNat) = v3) (hto : w 28 10 = 0) (hr : ROK w) (hlt : w 24 4 < 2147483647) : PC (f_S_goOn s w) (fun _ u => TRN P g se h kn x0 v3 w u) := by
  have es : ((s.toNat : Nat) : Int) = s := by omega
  have hre := (hc.1.2 s.toNat (by omega)).1
  have hx : WH (w 30 s.toNat) (sof (w 30 s.toNat)) P := by
    obtain ⟨t, ht⟩ := hre
    exact rx_wh hP h0 ht
  have hsz := hc.1.1.2.2.1
  unfold f_S_goOn
  refine pc_call (sgu_pc hs hx) (fun r1 u2 q => ?_)
  rw [q.1]
  rcases b10_some q.2 with ⟨e, hn⟩ | ⟨e, hgu⟩
  · refine pc_ite (fun _ => ?_) (fun c => absurd e c)
    refine pc_gd (fun _ => pc_gd (fun _ => pc_gd (fun _ => pc_lw (fun u e12 => pc_some ?_))))
    rw [← es] at hc
    obtain ⟨a1, a2⟩ := cor_no hP h0 hc (by omega) hn e12
    have r24 : u 24 = w 24 := by rw [e12, st_row (by decide)]
    have r27 : u 27 = w 27 := by rw [e12, st_row (by decide)]
    have r28 : u 28 = w 28 := by rw [e12, st_row (by decide)]
    refine ⟨⟨fun c _ _ _ _ _ _ _ x8 _ _ _ => by rw [e12, st_row x8], by rw [r28]⟩, ⟨by unfold ROK; rw [r24, r27]; exact hr, by rw [r24]; omega⟩, by rw [r28], by rw [e12, st_row (by decide)], Or.inl ⟨by rw [r28]; exact hto, a1, a2.1, fun k hk => ⟨(a2.2 k hk).1, (a2.2 k hk).2.1⟩⟩⟩
  · refine pc_ite (fun c => absurd c e) (fun _ => ?_)
    refine pc_gd (fun _ => ?_)
    obtain ⟨w3, w5, w7, w8, w4, wk⟩ := hw
    rw [w8]
    refine pc_call (gat_pc (kn := kn) hP hx w3 w5 hg w7 wk hr hlt) (fun r3 u4 z => ?_)
    obtain ⟨z1, ⟨z2, z3⟩, z4, z5, z6⟩ := z
    have h252 : u4 24 3 ≤ 256 := by
      have hz := z5.1
      have := mov_few hP (gs_fre (P := P) (s := sof (w 30 s.toNat)) (h := h)) (n := (u4 24 3).toNat) (F := u4 25) (fun j hj => (z5.2.1 j (by omega)).2) (fun i j hi hj e => z5.2.2.1 i j (by omega) (by omega) e)
      omega
    have y28 : u4 28 = w 28 := z1 28 (by decide) (by decide) (by decide) (by decide)
    have y31 : u4 31 = w 31 := z1 31 (by decide) (by decide) (by decide) (by decide)
    have y30 : u4 30 = w 30 := z1 30 (by decide) (by decide) (by decide) (by decide)
    have hc4 : COR P g se h kn x0 v3 s u4 := cor_eq hc (by rw [y28]) (by rw [y28]) (z1 29 (by decide) (by decide) (by decide) (by decide)) y30 y31 (z1 33 (by decide) (by decide) (by decide) (by decide)) (z1 34 (by decide) (by decide) (by decide) (by decide)) (z1 35 (by decide) (by decide) (by decide) (by decide))
    have fin : ∀ u : Wd, (∀ c, c ≠ 28 → c ≠ 29 → c ≠ 30 → c ≠ 31 → c ≠ 33 → c ≠ 34 → u c = u4 c) → u 28 8 = w 28 8 → u 28 9 = w 28 9 → FRS w u ∧ (ROK u ∧ u 24 4 ≤ w 24 4 + 1) ∧ u 28 8 = w 28 8 ∧ u 35 = w 35 := fun u hu h8 h9 => by
      refine ⟨⟨fun c x1 x2 x3 x4 x5 x6 x7 x8 x9 x10 x11 => ?_, h9⟩, ⟨?_, ?_⟩, h8, by rw [hu 35 (by decide) (by decide) (by decide) (by decide) (by decide) (by decide), z1 35 (by decide) (by decide) (by decide) (by decide)]⟩
      · rw [hu c x5 x6 x7 x8 x9 x10, z1 c x1 x2 x3 x4]
      · unfold ROK
        rw [hu 24 (by decide) (by decide) (by decide) (by decide) (by decide) (by decide), hu 27 (by decide) (by decide) (by decide) (by decide) (by decide) (by decide)]; exact z3
      · rw [hu 24 (by decide) (by decide) (by decide) (by decide) (by decide) (by decide), z2]; exact Int.le_refl _
    -- the moves in their order
    have loop : ∀ (n : Nat) {v4 : Int} {u : Wd}, 0 ≤ v4 → (∀ c, c ≠ 28 → c ≠ 29 → c ≠ 30 → c ≠ 31 → c ≠ 33 → c ≠ 34 → u c = u4 c) → u 28 8 = w 28 8 → u 28 9 = w 28 9 → ((u 28 10 = 1 ∧ MNY P g se h kn x0) ∨ (u 28 10 = 0 ∧ COR P g se h kn x0 v3 s u ∧ w 28 7 ≤ u 28 7 ∧ (∀ k : Nat, (k : Int) < w 28 7 → u 30 k = w 30 k ∧ ∀ t, t < 61 → b6 (w 31 k) t = true → b6 (u 31 k) t = true) ∧ u 31 s.toNat = w 31 s.toNat ∧ ∀ k : Nat, (k : Int) < v4 → (k : Int) < u4 24 3 → ∀ y, WH y (nis P (sof (w 30 s.toNat)) g (bt (u4 25 k))) P → ∃ j : Nat, (j : Int) < u 28 7 ∧ u 30 j = y ∧ ∀ t, t + 1 < 61 → b6 (w 31 s.toNat) t = true → b6 (u 31 j) (t + 1) = true)) → PC (f_S_goOn_52 n s v4 u) (fun _ u => TRN P g se h kn x0 v3 w u) := by
      intro n
      induction n with
      | zero => intros; exact pc_none
      | succ n ih =>
        intro v4 u i4 hu h8 h9 hd
        rw [f_S_goOn_52, hu 24 (by decide) (by decide) (by decide) (by decide) (by decide) (by decide)]
        obtain ⟨f1, f2, f3, f4⟩ := fin u hu h8 h9
        refine pc_ite (fun c => pc_some ⟨f1, f2, f3, f4, ?_⟩) (fun c => ?_)
        · rcases hd with d1 | ⟨d1, d2, d3, d4, d5, d6⟩
          · exact Or.inr d1
          · obtain ⟨k1, k2, k3, k4, k5⟩ := d2
            refine Or.inl ⟨d1, ⟨k1, k2, k3, fun k hk => ⟨(k4 k hk).1, fun _ => ?_⟩, k5⟩, d3, d4⟩
            by_cases ck : (k : Int) = s
            · intro y hy
              rw [show k = s.toNat by omega] at hy ⊢
              rw [(d4 s.toNat (by omega)).1] at hy
              obtain ⟨m, hm, hwy⟩ := hy
              obtain ⟨i, hi, ei⟩ := z6 m hm
              rw [← ei] at hwy
              obtain ⟨j, hj, ej, hb⟩ := d6 i (by omega) hi y hwy
              exact ⟨j, hj, ej, fun t h61 hbt => hb t h61 (by rw [d5] at hbt; exact hbt)⟩
            · exact (k4 k hk).2 ck
        · refine pc_ite (fun c0 => ?_) (fun c0 => pc_some ⟨f1, f2, f3, f4, ?_⟩)
          · rcases hd with ⟨d1, _⟩ | ⟨d1, d2, d3, d4, d5, d6⟩
            · omega
            refine pc_gd (fun _ => ?_)
            refine pc_call (mo_pc (k := v4) (u := u) (by rw [hu 24 (by decide) (by decide) (by decide) (by decide) (by decide) (by decide)]; omega)) (fun r5 u6 q5 => ?_)
            rw [q5.1, q5.2, hu 25 (by decide) (by decide) (by decide) (by decide) (by decide) (by decide), (d4 s.toNat (by omega)).1]
            have hm := (z5.2.1 v4.toNat (by omega)).2
            have u57 : u 5 7 = g := by rw [hu 5 (by decide) (by decide) (by decide) (by decide) (by decide) (by decide), z1 5 (by decide) (by decide) (by decide) (by decide)]; exact w7
            rw [u57]
            obtain ⟨y, ey, hy⟩ := after_e (v := u4 25 v4.toNat) hx hP hg (b10_self (mvs_who hP hm).1) (mvs_ok hP hm) u
            rw [ey, jc_s]
            refine pc_gd (fun _ => ?_)
            have hys := wh_sof hy hP.2
            have hsx : SUX P g se h kn (w 30 s.toNat) y := ⟨_, hm, hy⟩
            have hup : v3 < rkx P y := by
              have := sx_rank hP hg hx hsx hgu
              unfold rkx at hrk ⊢
              omega
            have hbits : ∀ t, t < 61 → b6 (land (lshl (u 31 s.toNat) 1) 2305843009213693951) t = true → 1 ≤ t ∧ b6 (w 31 s.toNat) (t - 1) = true := fun t h61 hb => by
              rw [b6_and, b6_shl (by omega), d5, Bool.and_eq_true, Bool.and_eq_true, decide_eq_true_iff] at hb
              exact hb.1
            have rs := hc.1.2 s.toNat (by omega)
            have hrt : ∀ t, t < 61 → b6 (land (lshl (u 31 s.toNat) 1) 2305843009213693951) t = true → RCX P g se h kn x0 t y := fun t h61 hb => by
              obtain ⟨b1, b2⟩ := hbits t h61 hb
              rw [show t = t - 1 + 1 by omega]
              exact ⟨_, rs.2 (t - 1) (by omega) b2, hsx⟩
            refine pc_call (place_pc d2.1.1 (orank_e hys u) (rkf_rg hys.2.2)) (fun r9 v pl => pc_let (fun x11 e11 => ?_))
            rw [w32_id (by omega)] at e11
            rw [e11]
            rcases cor_place d2 hys hup (by obtain ⟨t, ht⟩ := hre; exact ⟨t + 1, _, ht, hsx⟩) hrt pl with ⟨e2, hm2⟩ | ⟨p1, p2, p3, ⟨j, hj, ej, hb⟩, p5, p6, p7⟩
            · refine ih (by omega) (fun c a1 a2 a3 a4 a5 a6 => by rw [e2, st_row a1]; exact hu c a1 a2 a3 a4 a5 a6) (by rw [e2, st_k (by decide)]; exact h8) (by rw [e2, st_k (by decide)]; exact h9) (Or.inl ⟨by rw [e2, st_eq], hm2⟩)
            · have hne : ∀ k : Nat, (k : Int) < u 28 7 → rkx P (u 30 k) ≤ v3 → u 30 k ≠ y := fun k _ hle e => by rw [e] at hle; omega
              have s30 : u 30 s.toNat = w 30 s.toNat := (d4 s.toNat (by omega)).1
              refine ih (by omega) (fun c a1 a2 a3 a4 a5 a6 => (p5 c a1 a2 a3 a4 a5 a6).trans (hu c a1 a2 a3 a4 a5 a6)) (p6.trans h8) (p7.trans h9) (Or.inr ⟨p2.trans d1, p1, by have := p3.1; omega, fun k hk => ?_, ?_, fun k hk hk2 y' hy' => ?_⟩)
              · obtain ⟨g1, g2, _⟩ := p3.2 k (by omega)
                exact ⟨g1.trans (d4 k hk).1, fun t h61 hb => g2 t h61 ((d4 k hk).2 t h61 hb)⟩
              · obtain ⟨_, _, g3⟩ := p3.2 s.toNat (by omega)
                rw [g3 (hne _ (by omega) (by rw [s30]; omega)), d5]
              · by_cases ck : (k : Int) < v4
                · obtain ⟨j', hj', ej', hb'⟩ := d6 k ck hk2 y' hy'
                  obtain ⟨g1, g2, _⟩ := p3.2 j' hj'
                  have := p3.1
                  exact ⟨j', by omega, g1.trans ej', fun t h61 hbt => g2 (t + 1) h61 (hb' t h61 hbt)⟩
                · rw [show k = v4.toNat by omega] at hy'
                  have eyy : y' = y := wh_inj hy' hy (fun _ _ => rfl)
                  refine ⟨j, hj, by rw [eyy]; exact ej, fun t h61 hbt => hb (t + 1) h61 ?_⟩
                  rw [b6_and, b6_all (by omega), decide_eq_true h61, Bool.and_true, b6_shl (by omega), decide_eq_true (show 1 ≤ t + 1 by omega), d5, show t + 1 - 1 = t by omega, hbt]; rfl
          · rcases hd with d1 | ⟨d1, _⟩
            · exact Or.inr d1
            · omega
    refine loop FU (by decide) (fun c _ _ _ _ _ _ => rfl) (by rw [y28]) (by rw [y28]) (Or.inr ⟨by rw [y28]; exact hto, hc4, by rw [y28]; exact Int.le_refl _, fun k hk => ⟨by rw [y30], fun t _ hb => by rw [y31]; exact hb⟩, by rw [y31], fun k hk => by omega⟩)
/-! THE WHOLE SEARCH -/
def XST (x0 : Int) (w : Wd) : Prop := ∃ k : Nat, (k : Int) < w 28 7 ∧ w 30 k = x0 ∧ b6 (w 31 k) 0 = true
def ORK (P : Int) (w : Wd) : Prop := ∀ i j : Nat, i < j → (j : Int) < w 28 8 → rkx P (w 30 (w 35 i).toNat) ≤ rkx P (w 30 (w 35 j).toNat)
def RST (P g se : Int) (h kn : Nat → Int) (x0 v3 R : Int) (b w : Wd) : Prop := FRS b w ∧ (ROK w ∧ w 24 4 ≤ R + w 28 8) ∧ (0 ≤ w 28 8 ∧ w 28 8 ≤ 3000) ∧ ((w 28 10 = 1 ∧ MNY P g se h kn x0) ∨ (w 28 10 = 0 ∧ COR P g se h kn x0 v3 (-1) w ∧ XST x0 w ∧ ORK P w))
theorem rst_next {P g se : Int} {h kn : Nat → Int} {x0 R : Int} {v3 : Nat} {b w : Wd} (hs : RST P g se h kn x0 v3 R b w) (hv : v3 < 451) (he : (3000 : Int) ≤ w 28 8 ∨ w 34 v3 = -1 ∨ w 28 10 ≠ 0) : RST P g se h kn x0 ((v3 : Int) + 1) R b w := by
  obtain ⟨a1, a2, a3, a4⟩ := hs
  refine ⟨a1, a2, a3, ?_⟩
  rcases a4 with a4 | ⟨a4, a5, a6, a7⟩
  · exact Or.inl a4
  · refine Or.inr ⟨a4, ?_, a6, a7⟩
    obtain ⟨c1, c2, c3, c4, c5⟩ := a5
    obtain ⟨l, l1, l2, l3⟩ := c3 v3 hv
    have h7 := c1.1.2.2.1
    have hl : l = [] := by
      cases l with
      | nil => rfl
      | cons k l =>
        exfalso
        obtain ⟨k1, k2, k3⟩ := (l3 k).mp List.mem_cons_self
        rcases he with e | e | e
        · have h1 := php (w 28 7).toNat ((w 28 8).toNat + 1) (fun i => if i < (w 28 8).toNat then (w 35 i).toNat else k) (fun i hi => by
            show (if i < (w 28 8).toNat then (w 35 i).toNat else k) < (w 28 7).toNat
            by_cases ci : i < (w 28 8).toNat
            · rw [if_pos ci]; have := c2.2.1 i (by omega); omega
            · rw [if_neg ci]; omega) (fun i j hi hj e2 => by
            have e3 : (if i < (w 28 8).toNat then (w 35 i).toNat else k) = (if j < (w 28 8).toNat then (w 35 j).toNat else k) := e2
            by_cases ci : i < (w 28 8).toNat <;> by_cases cj : j < (w 28 8).toNat
            · rw [if_pos ci, if_pos cj] at e3
              have r1 := c2.2.1 i (by omega)
              have r2 := c2.2.1 j (by omega)
              exact c2.2.2 i j (by omega) (by omega) (by omega)
            · rw [if_pos ci, if_neg cj] at e3
              have r1 := c2.2.1 i (by omega)
              exact absurd ⟨i, by omega, by omega⟩ k3
            · rw [if_neg ci, if_pos cj] at e3
              have r1 := c2.2.1 j (by omega)
              exact absurd ⟨j, by omega, by omega⟩ k3
            · omega)
          omega
        · have := l1.1
          rw [e] at this; omega
        · exact e a4
    refine ⟨c1, c2, c3, fun k hk => ⟨by have := (c4 k hk).1; omega, (c4 k hk).2⟩, fun k hk hlt => ?_⟩
    by_cases c : rkx P (w 30 k) < (v3 : Int)
    · exact c5 k hk c
    · refine Classical.byContradiction fun hn => ?_
      have := (l3 k).mpr ⟨hk, by omega, hn⟩
      rw [hl] at this
      cases this
/-- the first of a rank is taken -/
theorem cor_pop {P g se : Int} {h kn : Nat → Int} {x0 : Int} {v3 : Nat} {w u7 u8 u9 : Wd} (hc : COR P g se h kn x0 v3 (-1) w) (ho : ORK P w) (hv : v3 < 451) (hne : w 34 v3 ≠ -1) (e7 : u7 = st w 34 v3 (w 33 (w 34 v3).toNat)) (e8 : u8 = st u7 35 (u7 28 8).toNat (w 34 v3)) (e9 : u9 = st u8 28 8 (w 28 8 + 1)) : COR P g se h kn x0 v3 (w 34 v3) u9 ∧ ORK P u9 ∧ (0 ≤ w 34 v3 ∧ w 34 v3 < w 28 7) ∧ rkx P (w 30 (w 34 v3).toNat) = (v3 : Int) ∧ u9 28 8 ≤ w 28 7 := by
  obtain ⟨c1, c2, c3, c4, c5⟩ := hc
  obtain ⟨l, l1, l2, l3⟩ := c3 v3 hv
  cases l with
  | nil => exact absurd l1 hne
  | cons s l =>
    obtain ⟨es, l1⟩ := l1
    obtain ⟨k1, k2, k3⟩ := (l3 s).mp List.mem_cons_self
    obtain ⟨nl, l2⟩ := List.nodup_cons.mp l2
    rw [es] at e7 e8 ⊢
    have ets : ((s : Nat) : Int).toNat = s := by omega
    rw [ets] at e7 ⊢
    have d7 : u7 28 8 = w 28 8 := by rw [e7, st_c (by decide)]
    rw [d7] at e8
    have z8 : u9 28 8 = w 28 8 + 1 := by rw [e9, st_eq]
    have z28 : ∀ k, k ≠ 8 → u9 28 k = w 28 k := fun k hk => by rw [e9, st_k hk, e8, st_c (by decide), e7, st_c (by decide)]
    have z35 : ∀ k, u9 35 k = if k = (w 28 8).toNat then (s : Int) else w 35 k := fun k => by
      rw [e9, st_c (by decide), e8]
      by_cases ck : k = (w 28 8).toNat
      · rw [if_pos ck, ck, st_eq]
      · rw [if_neg ck, st_k ck, e7, st_c (by decide)]
    have z34 : ∀ k, u9 34 k = if k = v3 then w 33 s else w 34 k := fun k => by
      rw [e9, st_c (by decide), e8, st_c (by decide), e7]
      by_cases ck : k = v3
      · rw [if_pos ck, ck, st_eq]
      · rw [if_neg ck, st_k ck]
    have zr : ∀ c, c ≠ 28 → c ≠ 34 → c ≠ 35 → u9 c = w c := fun c a1 a2 a3 => by rw [e9, st_row a1, e8, st_row a3, e7, st_row a2]
    have z7 : u9 28 7 = w 28 7 := z28 7 (by decide)
    have z30 : u9 30 = w 30 := zr 30 (by decide) (by decide) (by decide)
    have z31 : u9 31 = w 31 := zr 31 (by decide) (by decide) (by decide)
    have z33 : u9 33 = w 33 := zr 33 (by decide) (by decide) (by decide)
    have h8 := c2.1
    have pr : ∀ q, PRO u9 q ↔ (PRO w q ∨ q = s) := fun q => by
      constructor
      · rintro ⟨j, hj, e⟩
        rw [z35] at e
        by_cases cj : j = (w 28 8).toNat
        · rw [if_pos cj] at e; exact Or.inr (by omega)
        · rw [if_neg cj] at e; exact Or.inl ⟨j, by omega, e⟩
      · rintro (⟨j, hj, e⟩ | e)
        · exact ⟨j, by omega, by rw [z35, if_neg (by omega)]; exact e⟩
        · exact ⟨(w 28 8).toNat, by omega, by rw [z35, if_pos rfl, e]⟩
    have nd : ∀ j : Nat, (j : Int) < w 28 8 → w 35 j ≠ (s : Int) := fun j hj e => k3 ⟨j, hj, e⟩
    -- one more has its turn: no more than there are
    have cnt : w 28 8 + 1 ≤ w 28 7 := by
      have h1 := php (w 28 7).toNat ((w 28 8).toNat + 1) (fun i => if i < (w 28 8).toNat then (w 35 i).toNat else s) (fun i hi => by
        show (if i < (w 28 8).toNat then (w 35 i).toNat else s) < (w 28 7).toNat
        by_cases ci : i < (w 28 8).toNat
        · rw [if_pos ci]; have := c2.2.1 i (by omega); omega
        · rw [if_neg ci]; omega) (fun i j hi hj e2 => by
        have e3 : (if i < (w 28 8).toNat then (w 35 i).toNat else s) = (if j < (w 28 8).toNat then (w 35 j).toNat else s) := e2
        by_cases ci : i < (w 28 8).toNat <;> by_cases cj : j < (w 28 8).toNat
        · rw [if_pos ci, if_pos cj] at e3
          have r1 := c2.2.1 i (by omega)
          have r2 := c2.2.1 j (by omega)
          exact c2.2.2 i j (by omega) (by omega) (by omega)
        · rw [if_pos ci, if_neg cj] at e3
          have r1 := c2.2.1 i (by omega)
          exact absurd (by omega) (nd i (by omega))
        · rw [if_neg ci, if_pos cj] at e3
          have r1 := c2.2.1 j (by omega)
          exact absurd (by omega) (nd j (by omega))
        · omega)
      omega
    refine ⟨⟨⟨tc_eq c1.1 (zr 29 (by decide) (by decide) (by decide)) z30 z7, by rw [z7, z30, z31]; exact c1.2⟩, ⟨by omega, fun j hj => ?_, fun i j hi hj e => ?_⟩, fun r hr => ?_, fun k hk => ?_, fun k hk hlt => ?_⟩, fun i j hij hj => ?_, ⟨by omega, k1⟩, k2, by omega⟩
    · rw [z35, z7]
      by_cases cj : j = (w 28 8).toNat
      · rw [if_pos cj]; omega
      · rw [if_neg cj]; exact c2.2.1 j (by omega)
    · rw [z35, z35] at e
      by_cases ci : i = (w 28 8).toNat <;> by_cases cj : j = (w 28 8).toNat
      · omega
      · rw [if_pos ci, if_neg cj] at e
        exact absurd e.symm (nd j (by omega))
      · rw [if_neg ci, if_pos cj] at e
        exact absurd e (nd i (by omega))
      · rw [if_neg ci, if_neg cj] at e
        exact c2.2.2 i j (by omega) (by omega) e
    · by_cases cr : r = v3
      · refine ⟨l, by rw [z33, z34, if_pos cr]; exact l1, l2, fun k => ?_⟩
        have := l3 k
        rw [List.mem_cons] at this
        rw [z7, z30, pr, cr]
        constructor
        · intro hm
          obtain ⟨q1, q2, q3⟩ := this.mp (Or.inr hm)
          exact ⟨q1, q2, fun hp => hp.elim q3 (fun e => nl (by rw [← e]; exact hm))⟩
        · rintro ⟨q1, q2, q3⟩
          rcases this.mpr ⟨q1, q2, fun hp => q3 (Or.inl hp)⟩ with e | e
          · exact absurd (Or.inr e) q3
          · exact e
      · obtain ⟨l', m1, m2, m3⟩ := c3 r hr
        refine ⟨l', by rw [z33, z34, if_neg cr]; exact m1, m2, fun k => ?_⟩
        rw [m3, z7, z30, pr]
        constructor
        · rintro ⟨q1, q2, q3⟩
          refine ⟨q1, q2, fun hp => hp.elim q3 (fun e => ?_)⟩
          rw [e, k2] at q2
          omega
        · rintro ⟨q1, q2, q3⟩
          exact ⟨q1, q2, fun hp => q3 (Or.inl hp)⟩
    · rw [z30]
      rcases (pr k).mp hk with hp | e
      · have q := c4 k hp
        refine ⟨q.1, fun _ => ?_⟩
        unfold CLSx
        rw [z7, z30, z31]
        exact q.2 (by omega)
      · rw [e]
        exact ⟨by rw [k2]; exact Int.le_refl _, fun hn => absurd rfl hn⟩
    · rw [pr]
      rw [z7] at hk
      rw [z30] at hlt
      exact Or.inl (c5 k hk hlt)
    · rw [z30, z35, z35]
      by_cases cj : j = (w 28 8).toNat
      · rw [if_pos cj, if_neg (by omega), ets, k2]
        have r1 := c2.2.1 i (by omega)
        exact (c4 (w 35 i).toNat ⟨i, by omega, by omega⟩).1
      · rw [if_neg cj, if_neg (by omega)]
        exact ho i j hij (by omega)
theorem run42 {P g se : Int} {h kn : Nat → Int} {x0 R : Int} {b : Wd} {k35 : Int → Wd → Option (Int × Wd)} {Q : Int → Wd → Prop} {v3 : Nat} (hP : 0 ≤ P ∧ P ≤ 10) (hg : 1 ≤ g ∧ g ≤ 3) (h0 : WH x0 (sof x0) P) (hb : CW P g se h kn x0 b) (hR : 0 ≤ R ∧ R ≤ 2147480000) (hv : v3 < 451) (hk : ∀ w, RST P g se h kn x0 ((v3 : Int) + 1) R b w → PC (k35 ((v3 : Int) + 1) w) Q) : ∀ (n : Nat) {w : Wd}, RST P g se h kn x0 v3 R b w → PC (f_S_run_42 k35 n v3 w) Q := by
  intro n
  induction n with
  | zero => intros; exact pc_none
  | succ n ih =>
    intro w hs
    rw [f_S_run_42]
    have nx : ((3000 : Int) ≤ w 28 8 ∨ w 34 v3 = -1 ∨ w 28 10 ≠ 0) → PC (f_S_run_122 k35 v3 w) Q := fun he => by
      unfold f_S_run_122
      refine pc_let (fun x e => ?_)
      rw [w32_id (by omega)] at e
      rw [e]
      exact hk w (rst_next hs hv he)
    have ev : ((v3 : Nat) : Int).toNat = v3 := by omega
    rw [ev]
    refine pc_ite (fun c => nx (Or.inl c)) (fun c1 => pc_gd (fun _ => ?_))
    refine pc_ite (fun c => nx (Or.inr (Or.inl c))) (fun c2 => ?_)
    refine pc_ite (fun c3 => ?_) (fun c => nx (Or.inr (Or.inr c)))
    obtain ⟨a1, a2, a3, a4⟩ := hs
    obtain ⟨_, a5, a6, a7⟩ : w 28 10 = 0 ∧ COR P g se h kn x0 v3 (-1) w ∧ XST x0 w ∧ ORK P w := by
      rcases a4 with a4 | a4
      · have := a4.1; omega
      · exact a4
    refine pc_gd (fun _ => pc_let (fun x6 e6 => pc_gd (fun _ => pc_gd (fun _ => pc_lw (fun u7 e7 => pc_gd (fun _ => pc_lw (fun u8 e8 => pc_lw (fun u9 e9 => ?_))))))))
    rw [e6] at e7 e8 ⊢
    have d8 : u8 28 8 = w 28 8 := by rw [e8, st_c (by decide), e7, st_c (by decide)]
    rw [d8, w32_id (by omega)] at e9
    obtain ⟨p1, p2, p3, p4, p5⟩ := cor_pop a5 a7 hv c2 e7 e8 e9
    have zr : ∀ c, c ≠ 28 → c ≠ 34 → c ≠ 35 → u9 c = w c := fun c a1 a2 a3 => by rw [e9, st_row a1, e8, st_row a3, e7, st_row a2]
    have z28 : ∀ k, k ≠ 8 → u9 28 k = w 28 k := fun k hk => by rw [e9, st_k hk, e8, st_c (by decide), e7, st_c (by decide)]
    have z8 : u9 28 8 = w 28 8 + 1 := by rw [e9, st_eq]
    have f9 : FRS w u9 := ⟨fun c x1 x2 x3 x4 x5 x6 x7 x8 x9 x10 x11 => zr c x5 x10 x11, z28 9 (by decide)⟩
    have fb := frs_tr a1 f9
    have r24 : u9 24 = w 24 := zr 24 (by decide) (by decide) (by decide)
    have r27 : u9 27 = w 27 := zr 27 (by decide) (by decide) (by decide)
    refine pc_call (goOn_pc (s := w 34 v3) hP hg h0 (cw_eq hb (frs_5 fb) (frs_7 fb)) p1 (by rw [z28 7 (by decide)]; exact p3) (by rw [zr 30 (by decide) (by decide) (by decide)]; exact p4) (by rw [z28 10 (by decide)]; exact c3) (by unfold ROK; rw [r24, r27]; exact a2.1) (by rw [r24]; omega)) (fun r10 u11 t => ?_)
    obtain ⟨t1, t2, t3, t35, t4⟩ := t
    rw [r24] at t2
    refine ih ⟨frs_tr fb t1, ⟨t2.1, by omega⟩, by omega, ?_⟩
    rcases t4 with ⟨t4, t5, t6, t7⟩ | t4
    · refine Or.inr ⟨t4, t5, ?_, fun i j hij hj => ?_⟩
      · obtain ⟨k, k1, k2, k3⟩ := a6
        have e7' := z28 7 (by decide)
        obtain ⟨q1, q2⟩ := t7 k (by omega)
        refine ⟨k, by omega, ?_, q2 0 (by decide) ?_⟩
        · rw [q1, zr 30 (by decide) (by decide) (by decide)]; exact k2
        · rw [zr 31 (by decide) (by decide) (by decide)]; exact k3
      · rw [t35]
        have o1 := p1.2.1
        have ri := o1.2.1 i (by omega)
        have rj := o1.2.1 j (by omega)
        rw [(t7 (u9 35 i).toNat (by omega)).1, (t7 (u9 35 j).toNat (by omega)).1]
        exact p2 i j hij (by omega)
    · exact Or.inl t4
/-- what the class's search found, where it ended well -/
def SRC (P g se : Int) (h kn : Nat → Int) (x0 : Int) (w : Wd) : Prop := SI0 P g se h kn x0 w ∧ XST x0 w ∧ (∀ k : Nat, (k : Int) < w 28 7 → CLSx P g se h kn w k) ∧ ORD w ∧ (∀ k : Nat, (k : Int) < w 28 7 → PRO w k) ∧ ORK P w
theorem run35 {P g se : Int} {h kn : Nat → Int} {x0 R : Int} {b : Wd} (hP : 0 ≤ P ∧ P ≤ 10) (hg : 1 ≤ g ∧ g ≤ 3) (h0 : WH x0 (sof x0) P) (hb : CW P g se h kn x0 b) (hR : 0 ≤ R ∧ R ≤ 2147480000) : ∀ (n : Nat) {v3 : Int} {w : Wd}, 0 ≤ v3 → v3 ≤ 451 → RST P g se h kn x0 v3 R b w → PC (f_S_run_35 n v3 w) (fun r u => FRS b u ∧ (ROK u ∧ u 24 4 ≤ R + 3000) ∧ ((r = 1 ∧ u 28 10 = 0 ∧ SRC P g se h kn x0 u) ∨ (r = 0 ∧ u 28 10 = 1 ∧ MNY P g se h kn x0))) := by
  intro n
  induction n with
  | zero => intros; exact pc_none
  | succ n ih =>
    intro v3 w i3 i3' hs
    rw [f_S_run_35]
    refine pc_ite (fun c => ?_) (fun c => ?_)
    · obtain ⟨a1, a2, a3, a4⟩ := hs
      rcases a4 with a4 | ⟨a4, a5, a6, a7⟩
      · refine pc_ite (fun e => by have := a4.1; omega) (fun _ => pc_some ⟨a1, ⟨a2.1, by omega⟩, Or.inr ⟨rfl, a4⟩⟩)
      · refine pc_ite (fun _ => pc_some ⟨a1, ⟨a2.1, by omega⟩, Or.inl ⟨rfl, a4, ?_⟩⟩) (fun e => absurd a4 e)
        obtain ⟨c1, c2, c3, c4, c5⟩ := a5
        have all : ∀ k : Nat, (k : Int) < w 28 7 → PRO w k := fun k hk => c5 k hk (by
          obtain ⟨t, ht⟩ := (c1.2 k hk).1
          have := (rkf_rg (rx_wh hP h0 ht).2.2).2
          have e : rkx P (w 30 k) = rkf P (sof (w 30 k)) := rfl
          omega)
        exact ⟨c1, a6, fun k hk => (c4 k (all k hk)).2 (by omega), c2, all, a7⟩
    · have e : v3 = ((v3.toNat : Nat) : Int) := by omega
      rw [e] at hs ⊢
      exact run42 hP hg h0 hb hR (by omega) (fun w' hw' => ih (by omega) (by omega) hw') FU hs
/-- the table is emptied -/
theorem fill29 : ∀ (n : Nat) {v2 : Int} {w : Wd}, 0 ≤ v2 → v2 ≤ 8192 → (∀ k : Nat, (k : Int) < v2 → w 29 k = 0) → PC (f_JA_fill_29_5 n 0 v2 8192 w) (fun _ u => (∀ k : Nat, k < 8192 → u 29 k = 0) ∧ ∀ c, c ≠ 29 → u c = w c) := by
  intro n
  induction n with
  | zero => intros; exact pc_none
  | succ n ih =>
    intro v2 w i2 i2' hz
    rw [f_JA_fill_29_5]
    refine pc_ite (fun c => pc_some ⟨fun k hk => hz k (by omega), fun _ _ => rfl⟩) (fun c => ?_)
    refine pc_gd (fun _ => pc_lw (fun u1 e1 => pc_let (fun x2 e2 => ?_)))
    rw [w32_id (by omega)] at e2
    rw [e2]
    refine pc_w (ih (w := u1) (by omega) (by omega) (fun k hk => ?_)) (fun _ u q => ⟨q.1, fun c hc => (q.2 c hc).trans (by rw [e1, st_row hc])⟩)
    rw [e1]
    by_cases ck : k = v2.toNat
    · rw [ck, st_eq]
    · rw [st_k ck]; exact hz k (by omega)
theorem fill34 : ∀ (n : Nat) {v2 : Int} {w : Wd}, 0 ≤ v2 → v2 ≤ 451 → (∀ k : Nat, (k : Int) < v2 → w 34 k = -1) → PC (f_JA_fill_34_5 n (-1) v2 451 w) (fun _ u => (∀ k : Nat, k < 451 → u 34 k = -1) ∧ ∀ c, c ≠ 34 → u c = w c) := by
  intro n
  induction n with
  | zero => intros; exact pc_none
  | succ n ih =>
    intro v2 w i2 i2' hz
    rw [f_JA_fill_34_5]
    refine pc_ite (fun c => pc_some ⟨fun k hk => hz k (by omega), fun _ _ => rfl⟩) (fun c => ?_)
    refine pc_gd (fun _ => pc_lw (fun u1 e1 => pc_let (fun x2 e2 => ?_)))
    rw [w32_id (by omega)] at e2
    rw [e2]
    refine pc_w (ih (w := u1) (by omega) (by omega) (fun k hk => ?_)) (fun _ u q => ⟨q.1, fun c hc => (q.2 c hc).trans (by rw [e1, st_row hc])⟩)
    rw [e1]
    by_cases ck : k = v2.toNat
    · rw [ck, st_eq]
    · rw [st_k ck]; exact hz k (by omega)
/-- what is kept of a search -/
def KPT (P g se : Int) (h kn : Nat → Int) (x0 : Int) (w : Wd) : Prop := (w 28 10 = 0 ∧ SRC P g se h kn x0 w) ∨ (w 28 10 = 1 ∧ MNY P g se h kn x0)
theorem run_pc {P g se : Int} {h kn : Nat → Int} {x0 : Int} {w : Wd} (hP : 0 ≤ P ∧ P ≤ 10) (hg : 1 ≤ g ∧ g ≤ 3) (h0 : WH x0 (sof x0) P) (hw : CW P g se h kn x0 w) (hf : w 28 9 ≠ 0 → KPT P g se h kn x0 w) (hr : ROK w) (hlt : w 24 4 ≤ 2147480000) : PC (f_S_run w) (fun r u => (∀ c, c ≠ 24 → c ≠ 25 → c ≠ 26 → c ≠ 27 → c ≠ 28 → c ≠ 29 → c ≠ 30 → c ≠ 31 → c ≠ 33 → c ≠ 34 → c ≠ 35 → u c = w c) ∧ (ROK u ∧ u 24 4 ≤ w 24 4 + 3000) ∧ u 28 9 ≠ 0 ∧ ((r = 1 ∧ u 28 10 = 0 ∧ SRC P g se h kn x0 u) ∨ (r = 0 ∧ u 28 10 = 1 ∧ MNY P g se h kn x0))) := by
  have hr0 := hr.1
  unfold f_S_run
  refine pc_ite (fun c => ?_) (fun c => ?_)
  · have hcl : PC (f_S_clear w) (fun _ u => (∀ c, c ≠ 28 → c ≠ 29 → c ≠ 34 → u c = w c) ∧ (∀ k : Nat, k < 8192 → u 29 k = 0) ∧ (∀ k : Nat, k < 451 → u 34 k = -1) ∧ u 28 7 = 0 ∧ u 28 8 = 0 ∧ u 28 10 = 0 ∧ u 28 9 = 1) := by
      unfold f_S_clear f_JA_fill_29 f_JA_fill_34
      refine pc_call (fill29 FU (v2 := 0) (w := w) (by decide) (by decide) (fun k hk => by omega)) (fun r1 u2 q1 => ?_)
      refine pc_call (fill34 FU (v2 := 0) (w := u2) (by decide) (by decide) (fun k hk => by omega)) (fun r3 u4 q2 => ?_)
      refine pc_lw (fun u5 e5 => pc_lw (fun u6 e6 => pc_lw (fun u7 e7 => pc_lw (fun u8 e8 => pc_some ?_))))
      have ro : ∀ c, c ≠ 28 → u8 c = u4 c := fun c hc => by rw [e8, st_row hc, e7, st_row hc, e6, st_row hc, e5, st_row hc]
      refine ⟨fun c a1 a2 a3 => by rw [ro c a1, q2.2 c a3, q1.2 c a2], fun k hk => by rw [ro 29 (by decide), q2.2 29 (by decide)]; exact q1.1 k hk, fun k hk => by rw [ro 34 (by decide)]; exact q2.1 k hk, ?_, ?_, ?_, ?_⟩
      · rw [e8, st_k (by decide), e7, st_k (by decide), e6, st_k (by decide), e5, st_eq]
      · rw [e8, st_k (by decide), e7, st_k (by decide), e6, st_eq]
      · rw [e8, st_k (by decide), e7, st_eq]
      · rw [e8, st_eq]
    refine pc_call hcl (fun r1 u2 q => ?_)
    obtain ⟨q1, q2, q3, q4, q5, q6, q7⟩ := q
    have hw2 : CW P g se h kn x0 u2 := cw_eq hw (q1 5 (by decide) (by decide) (by decide)) (q1 7 (by decide) (by decide) (by decide))
    rw [hw2.2.2.2.2.1]
    have T2 : TC u2 := ⟨fun p q hp hq _ hn => absurd (q2 p hp) hn, fun p hp => by rw [q2 p hp, q4]; decide, by rw [q4]; decide, fun k hk => by rw [q4] at hk; omega⟩
    have np : ∀ k, ¬ PRO u2 k := fun k hp => by
      obtain ⟨j, hj, _⟩ := hp
      rw [q5] at hj; omega
    have C2 : COR P g se h kn x0 (-1) (-1) u2 := ⟨⟨T2, fun k hk => by rw [q4] at hk; omega⟩, ⟨by rw [q4, q5]; decide, fun j hj => by rw [q5] at hj; omega, fun i j hi => by rw [q5] at hi; omega⟩, fun r hr => ⟨[], q3 r hr, List.nodup_nil, fun k => ⟨(fun hm => by cases hm), (fun hm => by have := hm.1; rw [q4] at this; omega)⟩⟩, fun k hp => absurd hp (np k), fun k hk => by rw [q4] at hk; omega⟩
    have hrk := rkf_rg h0.2.2
    refine pc_call (place_pc T2 (orank_e h0 u2) hrk) (fun r3 u4 pl => ?_)
    have h1b : ∀ t, t < 61 → b6 1 t = true → RCX P g se h kn x0 t x0 := fun t h61 hb => by
      rw [b6_1 (by omega), decide_eq_true_iff] at hb
      rw [hb]; exact rfl
    have e24 : u2 24 = w 24 := q1 24 (by decide) (by decide) (by decide)
    have e27 : u2 27 = w 27 := q1 27 (by decide) (by decide) (by decide)
    have fin : RST P g se h kn x0 0 (w 24 4) u4 u4 := by
      rcases cor_place C2 h0 (by show (-1 : Int) < rkf P (sof x0); omega) ⟨0, rfl⟩ h1b pl with ⟨e2, hm2⟩ | ⟨p1, p2, p3, ⟨j, hj, ej, hb⟩, p5, p6, p7⟩
      · refine ⟨frs_self _, ⟨?_, ?_⟩, ?_, Or.inl ⟨by rw [e2, st_eq], hm2⟩⟩
        · unfold ROK; rw [e2, st_row (by decide), st_row (by decide), e24, e27]; exact hr
        · rw [e2, st_row (by decide), st_k (by decide), e24, q5]; omega
        · rw [e2, st_k (by decide), q5]; decide
      · have e24' : u4 24 = w 24 := by rw [p5 24 (by decide) (by decide) (by decide) (by decide) (by decide) (by decide), e24]
        have e27' : u4 27 = w 27 := by rw [p5 27 (by decide) (by decide) (by decide) (by decide) (by decide) (by decide), e27]
        have np4 : ∀ k, ¬ PRO u4 k := fun k hp => by
          obtain ⟨j, hj, _⟩ := hp
          rw [p6, q5] at hj; omega
        refine ⟨frs_self _, ⟨?_, ?_⟩, ?_, Or.inr ⟨p2.trans q6, ?_, ⟨j, hj, ej, hb 0 (by decide) (by decide +kernel)⟩, fun i j _ hj => by rw [p6, q5] at hj; omega⟩⟩
        · unfold ROK; rw [e24', e27']; exact hr
        · rw [e24', p6, q5]; omega
        · rw [p6, q5]; decide
        · obtain ⟨c1, c2, c3, c4, c5⟩ := p1
          refine ⟨c1, c2, c3, fun k hp => absurd hp (np4 k), fun k hk hlt => ?_⟩
          obtain ⟨t, ht⟩ := (c1.2 k hk).1
          have := (rkf_rg (rx_wh hP h0 ht).2.2).1
          have e : rkx P (u4 30 k) = rkf P (sof (u4 30 k)) := rfl
          omega
    have oth : ∀ c, c ≠ 28 → c ≠ 29 → c ≠ 30 → c ≠ 31 → c ≠ 33 → c ≠ 34 → u4 c = u2 c := by
      rcases pl with ⟨e, _⟩ | ⟨t, _, _, e⟩ | ⟨_, _, hn⟩
      · intro c a1 _ _ _ _ _; rw [e, st_row a1]
      · intro c _ _ _ a4 _ _; rw [e, st_row a4]
      · exact hn.2.2.2.2.2.2.2
    have n9 : u4 28 9 = 1 := by
      rcases pl with ⟨e, _⟩ | ⟨t, _, _, e⟩ | ⟨_, _, hn⟩
      · rw [e, st_k (by decide)]; exact q7
      · rw [e, st_c (by decide)]; exact q7
      · exact (hn.2.1 9 (by decide)).trans q7
    have hw4 : CW P g se h kn x0 u4 := cw_eq hw2 (oth 5 (by decide) (by decide) (by decide) (by decide) (by decide) (by decide)) (oth 7 (by decide) (by decide) (by decide) (by decide) (by decide) (by decide))
    refine pc_w (run35 hP hg h0 hw4 ⟨hr0, hlt⟩ FU (by decide) (by decide) fin) (fun r u z => ?_)
    obtain ⟨z1, z2, z3⟩ := z
    refine ⟨fun c x1 x2 x3 x4 x5 x6 x7 x8 x9 x10 x11 => ?_, z2, by rw [z1.2, n9]; decide, z3⟩
    rw [z1.1 c x1 x2 x3 x4 x5 x6 x7 x8 x9 x10 x11, oth c x5 x6 x7 x8 x9 x10, q1 c x5 x6 x10]
  · rcases hf c with ⟨e, hs⟩ | ⟨e, hm⟩
    · refine pc_ite (fun _ => pc_some ⟨fun _ _ _ _ _ _ _ _ _ _ _ _ => rfl, ⟨hr, by omega⟩, c, Or.inl ⟨rfl, e, hs⟩⟩) (fun c2 => absurd e c2)
    · refine pc_ite (fun c2 => by omega) (fun _ => pc_some ⟨fun _ _ _ _ _ _ _ _ _ _ _ _ => rfl, ⟨hr, by omega⟩, c, Or.inr ⟨rfl, e, hm⟩⟩)
/-! BOTH SEARCH: side by side -/
def hof (b : Int) (k : Nat) : Int := if bt b k = true then 1 else 0
theorem hof_B {b P : Int} {h : Nat → Int} (hb : B10 b (hB P h)) (k : Nat) (hk : k < 10) : hB P h k = hB P (hof b) k := by
  have e := hb.2 k hk
  unfold hB hof at *
  rw [e]
  cases inP P k with
  | false => rfl
  | true => cases (h k == 0) <;> rfl
def PRM (a w : Wd) (P g se : Int) (h kn : Nat → Int) (x0 : Int) : Prop := (0 ≤ P ∧ P ≤ 10) ∧ (1 ≤ g ∧ g ≤ 3) ∧ WH x0 (sof x0) P ∧ CW P g se h kn x0 w ∧ (a 43 0 = P ∧ a 43 10 = g ∧ a 43 11 = se) ∧ (∀ k : Nat, (k : Int) < P → a 47 k = sof x0 k) ∧ (∀ j : Nat, (j : Int) < P → a 45 j = kn j ∧ 0 ≤ kn j ∧ kn j ≤ 1023) ∧ (∀ k : Nat, (k : Int) < P → hB P (a 46) k = hB P h k) ∧ (∀ k, 0 ≤ a 44 k ∧ a 44 k ≤ 9) ∧ ∀ j : Nat, (j : Int) < P → w 6 j = a 44 j
theorem er_prm {a w : Wd} (h : ER a w) : PRM a w (w 5 3) (w 5 7) (w 5 8) (hof (w 5 5)) (w 7) (w 5 4) := by
  have x0 : 0 ≤ a 43 0 ∧ a 43 0 ≤ 10 := h.2.2.1
  have x3 : w 5 3 = a 43 0 := h.1.1.2.1
  have xp : ∀ j : Nat, (j : Int) < a 43 0 → w 6 j = a 44 j ∧ w 7 j = a 45 j ∧ w 8 j = a 48 j := h.1.2.1
  have xh : B10 (w 5 5) (hB (a 43 0) (a 46)) := h.1.2.2.1
  have xw : WH (w 5 4) (a 47) (a 43 0) := h.1.2.2.2.1
  have x7 : w 5 7 = a 43 10 := h.1.1.2.2.1.1
  have x8 : w 5 8 = a 43 11 := h.1.1.2.2.1.2
  have x45 : ∀ j : Nat, (j : Int) < a 43 0 → 0 ≤ a 45 j ∧ a 45 j ≤ 1023 := h.2.2.2.2.2.1
  have x44 : ∀ j, 0 ≤ a 44 j ∧ a 44 j ≤ 9 := h.2.2.2.1
  have xg : 1 ≤ a 43 10 ∧ a 43 10 ≤ 3 := h.1.2.2.2.2.2.2.2.2.2.2.1
  rw [← x3] at x0 xp xh xw x45
  refine ⟨x0, by rw [x7]; exact xg, wh_sof xw x0.2, ⟨rfl, ?_, rfl, rfl, rfl, fun j hj => ⟨rfl, ?_⟩⟩, ⟨x3.symm, x7.symm, x8.symm⟩, fun k hk => (sof_e xw x0.2 hk).symm, fun j hj => ⟨(xp j hj).2.1.symm, ?_⟩, fun k hk => hof_B xh k (by omega), x44, fun j hj => (xp j hj).1⟩
  · exact b10_w xh (fun k hk => hof_B xh k hk)
  · rw [(xp j hj).2.1]; exact x45 j hj
  · rw [(xp j hj).2.1]; exact x45 j hj
/-- of the class alone: what is kept of a search, and the count of its rounds -/
def SCR (n : Int) (w : Wd) : Prop := (ROK w ∧ w 24 4 ≤ 2000 * n) ∧ (w 28 9 ≠ 0 → KPT (w 5 3) (w 5 7) (w 5 8) (hof (w 5 5)) (w 7) (w 5 4) w)
theorem scr_mono {n n' : Int} {w : Wd} (h : SCR n w) (hn : n ≤ n') : SCR n' w := ⟨⟨h.1.1, by have := h.1.2; omega⟩, h.2⟩
theorem kpt_eq {P g se : Int} {h kn : Nat → Int} {x0 : Int} {w u : Wd} (hk : KPT P g se h kn x0 w) (h28 : ∀ k, k ≠ 9 → u 28 k = w 28 k) (h29 : u 29 = w 29) (h30 : u 30 = w 30) (h31 : u 31 = w 31) (h35 : u 35 = w 35) : KPT P g se h kn x0 u := by
  unfold KPT at *
  rw [h28 10 (by decide)]
  rcases hk with ⟨e, s1, s2, s3, s4, s5, s6⟩ | e
  · refine Or.inl ⟨e, ⟨tc_eq s1.1 h29 h30 (h28 7 (by decide)), ?_⟩, ?_, ?_, ?_, ?_, ?_⟩
    · rw [h28 7 (by decide), h30, h31]; exact s1.2
    · unfold XST; rw [h28 7 (by decide), h30, h31]; exact s2
    · unfold CLSx; rw [h28 7 (by decide), h30, h31]; exact s3
    · unfold ORD; rw [h28 7 (by decide), h28 8 (by decide), h35]; exact s4
    · unfold PRO; rw [h28 7 (by decide), h28 8 (by decide), h35]; exact s5
    · unfold ORK; rw [h28 8 (by decide), h30, h35]; exact s6
  · exact Or.inr e
/-- nothing of it is touched -/
theorem scr_fr {n : Int} {w u : Wd} (h : SCR n w) (h5 : u 5 = w 5) (h7 : u 7 = w 7) (h24 : u 24 = w 24) (h27 : u 27 = w 27) (h28 : u 28 = w 28) (h29 : u 29 = w 29) (h30 : u 30 = w 30) (h31 : u 31 = w 31) (h35 : u 35 = w 35) : SCR n u := by
  unfold SCR ROK
  rw [h24, h27, h28, h5, h7]
  exact ⟨h.1, fun hf => kpt_eq (h.2 hf) (fun k _ => by rw [h28]) h29 h30 h31 h35⟩
/-- it is forgotten -/
theorem scr_no {n : Int} {w u : Wd} (h : SCR n w) (h24 : u 24 = w 24) (h27 : u 27 = w 27) (h9 : u 28 9 = 0) : SCR n u := by
  unfold SCR ROK
  rw [h24, h27]
  exact ⟨h.1, fun hf => absurd h9 hf⟩
/-- what a run of the class leaves -/
def RUN (P g se : Int) (h kn : Nat → Int) (x0 : Int) (w u : Wd) : Prop := (∀ c, c ≠ 24 → c ≠ 25 → c ≠ 26 → c ≠ 27 → c ≠ 28 → c ≠ 29 → c ≠ 30 → c ≠ 31 → c ≠ 33 → c ≠ 34 → c ≠ 35 → u c = w c) ∧ (ROK u ∧ u 24 4 ≤ w 24 4 + 3000) ∧ u 28 9 ≠ 0 ∧ KPT P g se h kn x0 u
theorem crun {a w : Wd} {P g se : Int} {h kn : Nat → Int} {x0 n : Int} (hp : PRM a w P g se h kn x0) (hs : SCR n w) (hn : n ≤ 2600) (hk : w 28 9 ≠ 0 → KPT P g se h kn x0 w) : PC (f_S_run w) (fun r u => RUN P g se h kn x0 w u ∧ ((r = 1 ∧ SRC P g se h kn x0 u) ∨ (r = 0 ∧ MNY P g se h kn x0))) := by
  obtain ⟨hP, hg, h0, hw, _⟩ := hp
  refine pc_w (run_pc hP hg h0 hw hk hs.1.1 (by have := hs.1.2; omega)) (fun r u q => ?_)
  obtain ⟨q1, q2, q3, q4⟩ := q
  rcases q4 with ⟨e, e2, s⟩ | ⟨e, e2, m⟩
  · exact ⟨⟨q1, q2, q3, Or.inl ⟨e2, s⟩⟩, Or.inl ⟨e, s⟩⟩
  · exact ⟨⟨q1, q2, q3, Or.inr ⟨e2, m⟩⟩, Or.inr ⟨e, m⟩⟩
theorem run_scr {w u : Wd} {n : Int} (hs : SCR n w) (hr : RUN (w 5 3) (w 5 7) (w 5 8) (hof (w 5 5)) (w 7) (w 5 4) w u) : SCR (n + 5) u := by
  obtain ⟨q1, q2, q3, q4⟩ := hr
  have h5 : u 5 = w 5 := q1 5 (by decide) (by decide) (by decide) (by decide) (by decide) (by decide) (by decide) (by decide) (by decide) (by decide) (by decide)
  have h7 : u 7 = w 7 := q1 7 (by decide) (by decide) (by decide) (by decide) (by decide) (by decide) (by decide) (by decide) (by decide) (by decide) (by decide)
  refine ⟨⟨q2.1, by have := hs.1.2; omega⟩, fun _ => ?_⟩
  rw [h5, h7]; exact q4
/-! ONE HIDDEN: what each is worth, and who is needed -/
theorem fre_0 {P : Int} {s h : Nat → Int} {k : Nat} (hf : fre P s h k = true) : (k : Int) < P ∧ s k = 0 ∧ hB P h k = false := by
  unfold fre sr at hf
  rw [Bool.and_eq_true, Bool.and_eq_true, beq_iff_eq] at hf
  refine ⟨inP_t hf.1.1, hf.1.2, ?_⟩
  have := hf.2
  cases e : hB P h k with
  | false => rfl
  | true => rw [e] at this; cases this
/-! BARS: by both -/
theorem kbn_w {kn kn' : Nat → Int} {f : Nat → Bool} {n q : Nat} (h : ∀ i, i < n → kn i = kn' i) : kbn kn f n q = kbn kn' f n q := by
  have : kbn kn f n q = true ↔ kbn kn' f n q = true := by
    rw [kbn_t, kbn_t]
    constructor
    · rintro ⟨i, hi, a, b⟩; exact ⟨i, hi, a, by rw [← h i hi]; exact b⟩
    · rintro ⟨i, hi, a, b⟩; exact ⟨i, hi, a, by rw [h i hi]; exact b⟩
  cases a : kbn kn f n q <;> cases b : kbn kn' f n q <;> simp [a, b] at this ⊢
theorem gs_P {P : Int} {s : Nat → Int} {k : Nat} (h : gs P s k = true) : (k : Int) < P := by
  unfold gs at h; rw [Bool.and_eq_true] at h; exact inP_t h.1
