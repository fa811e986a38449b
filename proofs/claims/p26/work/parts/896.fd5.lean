/-! ANSWERS OF WHAT CHANGES NOTHING: side by side -/
theorem d_er {xE : Option (Int × Wd)} {xR : Wd → Option (Int × Wd)} {w : Wd} (h : LU w) (hd : OK xE (fun _ u1 => OK (xR u1) (fun _ u2 => LU u2 ∧ True))) (hG : PC xE (fun _ u => ∀ c, 43 ≤ c → u c = w c)) (q : ∀ a, ER a w → Sn (a 43 0) (a 47) (a 48) (a 49) (a 43 8) → PC xE (fun r _ => PC (xR a) (fun r' _ => r = r'))) : OK xE (fun r1 u1 => OK (xR u1) (fun r2 u2 => LU u2 ∧ r1 = r2)) := by
  obtain ⟨r1, u1, e1, h1⟩ := hd
  refine ⟨r1, u1, e1, ?_⟩
  obtain ⟨r2, u2, e2, h2, _⟩ := h1
  have hR := hG r1 u1 e1
  refine ⟨r2, u2, e2, h2, q u1 (lu_er h hR) ?_ r1 u1 e1 r2 u2 e2⟩
  rw [hR 43 (by decide), hR 47 (by decide), hR 48 (by decide), hR 49 (by decide)]
  exact h.1.1.2.1.1
theorem gb_pc {v1 : Int} {w : Wd} (h : 0 ≤ v1 ∧ v1 ≤ w 15 3 ∧ w 15 3 ≤ 60) : PC (f_D_guestsBehind v1 w) (fun r u => u = w ∧ r = w 16 v1.toNat) := by
  unfold f_D_guestsBehind f_D_isOne
  rw [if_neg (by omega), if_neg (by omega), if_neg (by omega), jc_s, if_neg (by decide)]
  exact pc_gd (fun _ => pc_some ⟨rfl, rfl⟩)
theorem er_was {a w : Wd} {v1 : Int} (h : ER a w) : PC (f_E_was v1 w) (fun r _ => PC (f_R_was v1 a) (fun r' _ => r = r')) := by
  have x15 : w 15 3 = a 43 8 := h.1.2.2.2.2.1.2.1
  have x8 : 0 ≤ a 43 8 ∧ a 43 8 ≤ 60 := h.2.2.2.2.2.2.1
  have x16 : ∀ t : Nat, (t : Int) ≤ a 43 8 → w 16 t = a 50 t := h.1.2.2.2.2.2.1
  unfold f_E_was f_R_was f_R_in f_E_was_15
  by_cases c1 : v1 < 0
  · rw [if_pos c1]
    refine pc_some (pc_lw (fun y e => ?_))
    rw [if_pos c1, jc_s, if_pos rfl]
    exact pc_some rfl
  · rw [if_neg c1]
    by_cases c2 : v1 ≤ w 15 3
    · rw [if_pos c2]
      refine pc_call (gb_pc (v1 := v1) (w := w) (by omega)) (fun r1 u2 q => pc_some (pc_lw (fun y e => ?_)))
      have y8 : y 43 8 = a 43 8 := by rw [e, st_k (by decide)]
      rw [if_neg c1, y8, if_neg (by omega), jc_s, if_neg (by decide)]
      refine pc_gd (fun _ => pc_some ?_)
      rw [q.2, e, st_c (by decide)]
      exact x16 v1.toNat (by omega)
    · rw [if_neg c2]
      refine pc_some (pc_lw (fun y e => ?_))
      have y8 : y 43 8 = a 43 8 := by rw [e, st_k (by decide)]
      rw [if_neg c1, y8, if_pos (by omega), jc_s, if_pos rfl]
      exact pc_some rfl
theorem dq_was {w : Wd} {v1 : Int} (h : LU w) (i_v1 : ((-2147483648 : Int) ≤ v1 ∧ v1 ≤ 2147483647)) : OK (f_E_was v1 w) (fun r1 u1 => OK (f_R_was v1 u1) (fun r2 u2 => LU u2 ∧ r1 = r2)) :=
  d_er (xR := fun u => f_R_was v1 u) h (d_was h i_v1) (pc_w (pc_ok (e_E_was h.1.1 i_v1)) (fun _ _ q => g_hi q.1 (by decide))) (fun _ ha _ => er_was ha)
/-! WHO BROUGHT WHOM -/
def RK (P : Int) (b : Nat → Int) (d : Nat → Nat) : Prop := ∀ i : Nat, (i : Int) < P → (d i : Int) < P ∧ (b i = -1 ∨ ((0 ≤ b i ∧ b i < P) ∧ d (b i).toNat < d i))
theorem rk_sn {P wk : Int} {s b f : Nat → Int} (hP : 0 ≤ P ∧ P ≤ 10) (h : Sn P s b f wk) : ∃ d, RK P b d := by
  refine ⟨fun i => if i < P.toNat then ct f P (f i) P.toNat else 0, fun i hi => ⟨?_, ?_⟩⟩
  · show (((if i < P.toNat then ct f P (f i) P.toNat else 0) : Nat) : Int) < P
    rw [if_pos (by omega)]
    have := ct_9 f P (i := i) (by omega) P.toNat (by omega)
    omega
  · by_cases c : b i = -1
    · exact Or.inl c
    · obtain ⟨q0, q1, _, q3⟩ := h.1 i hi c
      refine Or.inr ⟨⟨q0, q1⟩, ?_⟩
      show (if (b i).toNat < P.toNat then ct f P (f (b i).toNat) P.toNat else 0) < (if i < P.toNat then ct f P (f i) P.toNat else 0)
      rw [if_pos (by omega), if_pos (by omega)]
      exact ct_lt f P (by omega) q3 P.toNat (by omega)
/-- from x up to y: so many steps, or -1 -/
def stu (b : Nat → Int) : Nat → Int → Int → Int
  | 0, _, _ => -1
  | n + 1, x, y => if x = -1 then -1 else if x = y then 0 else if stu b n (b x.toNat) y < 0 then -1 else stu b n (b x.toNat) y + 1
theorem stu_rg (b : Nat → Int) (y : Int) : ∀ (n : Nat) (x : Int), -1 ≤ stu b n x y ∧ stu b n x y ≤ n := by
  intro n
  induction n with
  | zero => intro x; exact ⟨by show (-1 : Int) ≤ -1; decide, by show (-1 : Int) ≤ 0; decide⟩
  | succ n ih =>
    intro x
    rw [stu]
    by_cases c1 : x = -1
    · rw [if_pos c1]; omega
    · rw [if_neg c1]
      by_cases c2 : x = y
      · rw [if_pos c2]; omega
      · rw [if_neg c2]
        have := ih (b x.toNat)
        by_cases c3 : stu b n (b x.toNat) y < 0
        · rw [if_pos c3]; omega
        · rw [if_neg c3]; omega
/-- fuel enough: as many steps as the rank -/
theorem stu_fu {P : Int} {b : Nat → Int} {d : Nat → Nat} (h : RK P b d) {y : Int} : ∀ (k : Nat) (x : Int), (x = -1 ∨ ((0 ≤ x ∧ x < P) ∧ d x.toNat < k)) → ∀ n m : Nat, k ≤ n → k ≤ m → 1 ≤ n → 1 ≤ m → stu b n x y = stu b m x y := by
  intro k
  induction k with
  | zero =>
    intro x hx n m _ _ hn hm
    rcases hx with e | e
    · cases n with
      | zero => omega
      | succ n =>
        cases m with
        | zero => omega
        | succ m => rw [stu, stu, if_pos e, if_pos e]
    · omega
  | succ k ih =>
    intro x hx n m kn km hn hm
    cases n with
    | zero => omega
    | succ n =>
      cases m with
      | zero => omega
      | succ m =>
        rw [stu, stu]
        by_cases c1 : x = -1
        · rw [if_pos c1, if_pos c1]
        · rw [if_neg c1, if_neg c1]
          by_cases c2 : x = y
          · rw [if_pos c2, if_pos c2]
          · rw [if_neg c2, if_neg c2]
            have hx2 := hx.resolve_left c1
            have hb := (h x.toNat (by omega)).2
            by_cases k0 : k = 0
            · have hd0 : d x.toNat = 0 := by omega
              have e : b x.toNat = -1 := by
                rcases hb with e | e
                · exact e
                · omega
              have s0 : ∀ j, stu b j (b x.toNat) y = -1 := fun j => by
                cases j with
                | zero => rfl
                | succ j => rw [stu, if_pos e]
              rw [s0, s0]
            · rw [ih (b x.toNat) (by
                rcases hb with e | e
                · exact Or.inl e
                · exact Or.inr ⟨e.1, by omega⟩) n m (by omega) (by omega) (by omega) (by omega)]
theorem bb_pc {v1 : Int} {w : Wd} (h : 0 ≤ v1 ∧ v1 < w 5 3) : PC (f_F_broughtBy v1 w) (fun r u => u = w ∧ r = w 8 v1.toNat) := by
  unfold f_F_broughtBy
  refine pc_call (it_pc v1 w) (fun r1 u2 q => ?_)
  rw [q.1, q.2, show hd (w 5 3) v1 = 1 from if_pos h]
  refine pc_ite (fun e => absurd e (by decide)) (fun _ => ?_)
  exact pc_gd (fun _ => pc_some ⟨rfl, rfl⟩)
theorem su_pc {P y : Int} {b : Nat → Int} {d : Nat → Nat} {w : Wd} (hP : P ≤ 10) (h : RK P b d) (h3 : w 5 3 = P) (h8 : ∀ j : Nat, (j : Int) < P → w 8 j = b j) : ∀ (n : Nat) {x v4 : Int}, 0 ≤ v4 → (x = -1 ∨ ((0 ≤ x ∧ x < P) ∧ v4 + d x.toNat < P)) → PC (f_F_stepsUp_5 n y x v4 w) (fun r u => u = w ∧ r = if stu b 11 x y < 0 then -1 else v4 + stu b 11 x y) := by
  intro n
  induction n with
  | zero => intros; exact pc_none
  | succ n ih =>
    intro x v4 i0 hx
    rw [f_F_stepsUp_5, h3]
    have s0 : x = -1 → stu b 11 x y = -1 := fun e => by rw [stu, if_pos e]
    refine pc_ite (fun c => pc_some ⟨rfl, ?_⟩) (fun c => ?_)
    · have e : x = -1 := by
        rcases hx with e | e
        · exact e
        · omega
      rw [s0 e]; rfl
    refine pc_ite (fun e => pc_some ⟨rfl, ?_⟩) (fun c1 => ?_)
    · rw [s0 e]; rfl
    have hx2 := hx.resolve_left c1
    refine pc_ite (fun e => pc_some ⟨rfl, ?_⟩) (fun c2 => ?_)
    · rw [stu, if_neg c1, if_pos e]; simp
    · refine pc_call (bb_pc (v1 := x) (w := w) (by omega)) (fun r1 u2 q => ?_)
      rw [q.1, q.2, h8 x.toNat (by omega)]
      refine pc_let (fun x3 e3 => ?_)
      rw [wsucc (P := P) (by omega) (by omega)] at e3
      rw [e3]
      have hb := (h x.toNat (by omega)).2
      have dr := (h x.toNat (by omega)).1
      refine pc_w (ih (x := b x.toNat) (v4 := v4 + 1) (by omega) (by
        rcases hb with e | e
        · exact Or.inl e
        · exact Or.inr ⟨e.1, by omega⟩)) (fun r u z => ⟨z.1, ?_⟩)
      have ef : stu b 11 (b x.toNat) y = stu b 10 (b x.toNat) y := stu_fu h 10 (b x.toNat) (by
        rcases hb with e | e
        · exact Or.inl e
        · have := (h (b x.toNat).toNat (by omega)).1
          exact Or.inr ⟨e.1, by omega⟩) 11 10 (by decide) (by decide) (by decide) (by decide)
      have e11 : stu b 11 x y = if stu b 10 (b x.toNat) y < 0 then -1 else stu b 10 (b x.toNat) y + 1 := by
        rw [stu, if_neg c1, if_neg c2]
      rw [z.2, e11, ef]
      by_cases c3 : stu b 10 (b x.toNat) y < 0
      · rw [if_pos c3, if_pos c3]; rfl
      · rw [if_neg c3, if_neg c3, if_neg (by omega)]; omega
theorem steps_pc {P x y : Int} {b : Nat → Int} {d : Nat → Nat} {w : Wd} (hP : P ≤ 10) (h : RK P b d) (h3 : w 5 3 = P) (h8 : ∀ j : Nat, (j : Int) < P → w 8 j = b j) (hx : 0 ≤ x ∧ x < P) : PC (f_F_stepsUp x y w) (fun r u => u = w ∧ r = stu b 11 x y) := by
  unfold f_F_stepsUp
  have dr := (h x.toNat (by omega)).1
  refine pc_w (su_pc hP h h3 h8 FU (x := x) (v4 := 0) (by decide) (Or.inr ⟨hx, by omega⟩)) (fun r u q => ⟨q.1, ?_⟩)
  have := stu_rg b y 11 x
  rw [q.2]
  by_cases c : stu b 11 x y < 0
  · rw [if_pos c]; omega
  · rw [if_neg c]; omega
/-- led by y -/
def des (b : Nat → Int) (y : Int) (q : Nat) : Bool := decide (0 < stu b 11 (q : Int) y)
theorem des_s {P y : Int} {b : Nat → Int} {d : Nat → Nat} (hP : P ≤ 10) (h : RK P b d) (hy : 0 ≤ y ∧ y < P) {q : Nat} (hq : (q : Int) < P) : des b y q = true ↔ (b q = y ∨ (b q ≠ -1 ∧ des b y (b q).toNat = true)) := by
  have hb := (h q hq).2
  have e10 : ∀ x, (x = -1 ∨ (0 ≤ x ∧ x < P)) → stu b 11 x y = stu b 10 x y := fun x hx => stu_fu h 10 x (by
    rcases hx with e | e
    · exact Or.inl e
    · have := (h x.toNat (by omega)).1
      exact Or.inr ⟨e, by omega⟩) 11 10 (by decide) (by decide) (by decide) (by decide)
  -- a rank goes down along the way
  have down : ∀ (k : Nat) (x : Int), (0 ≤ x ∧ x < P) → 0 < stu b k x y → d y.toNat < d x.toNat := by
    intro k
    induction k with
    | zero => intro x _ h0; exact absurd h0 (by show ¬ (0 : Int) < -1; decide)
    | succ k ih =>
      intro x hx h0
      rw [stu, if_neg (show ¬ x = -1 by omega)] at h0
      by_cases c2 : x = y
      · rw [if_pos c2] at h0; omega
      · rw [if_neg c2] at h0
        by_cases c3 : stu b k (b x.toNat) y < 0
        · rw [if_pos c3] at h0; omega
        · have hbx := (h x.toNat (by omega)).2
          have hbn : b x.toNat ≠ -1 := fun e => by
            apply c3
            cases k with
            | zero => show (-1 : Int) < 0; decide
            | succ k => rw [stu, if_pos e]; decide
          have hb2 := hbx.resolve_left hbn
          by_cases c4 : b x.toNat = y
          · have := hb2.2
            rw [c4] at this
            exact this
          · have h1 : 0 < stu b k (b x.toNat) y := by
              cases k with
              | zero => exact absurd (show stu b 0 (b x.toNat) y < 0 by show (-1 : Int) < 0; decide) c3
              | succ k =>
                rw [stu, if_neg hbn, if_neg c4] at c3 ⊢
                by_cases c5 : stu b k (b (b x.toNat).toNat) y < 0
                · rw [if_pos c5] at c3; omega
                · rw [if_neg c5]; omega
            have := ih (b x.toNat) hb2.1 h1
            omega
  have e11 : stu b 11 (q : Int) y = if (q : Int) = y then 0 else if stu b 10 (b q) y < 0 then -1 else stu b 10 (b q) y + 1 := by
    rw [stu, if_neg (show ¬ (q : Int) = -1 by omega)]
    rfl
  unfold des
  rw [decide_eq_true_iff]
  constructor
  · intro h0
    rw [e11] at h0
    by_cases c : (q : Int) = y
    · rw [if_pos c] at h0; omega
    · rw [if_neg c] at h0
      by_cases c3 : stu b 10 (b q) y < 0
      · rw [if_pos c3] at h0; omega
      · have hbn : b q ≠ -1 := fun e => by
          apply c3
          rw [stu, if_pos e]; decide
        have hb2 := hb.resolve_left hbn
        by_cases c4 : b q = y
        · exact Or.inl c4
        · refine Or.inr ⟨hbn, ?_⟩
          rw [decide_eq_true_iff, show (((b q).toNat : Nat) : Int) = b q by omega, e10 (b q) (Or.inr hb2.1)]
          rw [stu, if_neg hbn, if_neg c4] at c3 ⊢
          by_cases c5 : stu b 9 (b (b q).toNat) y < 0
          · rw [if_pos c5] at c3; omega
          · rw [if_neg c5]; omega
  · intro hc
    have nq : (q : Int) ≠ y := fun e => by
      rcases hc with e1 | ⟨e1, e2⟩
      · have hb2 := hb.resolve_left (by omega)
        have := hb2.2
        rw [show (b q).toNat = q by omega] at this
        omega
      · rw [decide_eq_true_iff] at e2
        have hb2 := hb.resolve_left e1
        rw [show (((b q).toNat : Nat) : Int) = b q by omega] at e2
        have := down 11 (b q) hb2.1 e2
        have := hb2.2
        rw [show y.toNat = q by omega] at *
        omega
    rw [e11, if_neg nq]
    rcases hc with e1 | ⟨e1, e2⟩
    · have : stu b 10 (b q) y = 0 := by rw [stu, if_neg (by omega), if_pos e1]
      rw [this]; decide
    · rw [decide_eq_true_iff] at e2
      have hb2 := hb.resolve_left e1
      rw [show (((b q).toNat : Nat) : Int) = b q by omega, e10 (b q) (Or.inr hb2.1)] at e2
      rw [if_neg (by omega)]; omega
/-- all that one led: the class -/
theorem lb_pc {P y : Int} {b : Nat → Int} {d : Nat → Nat} {w : Wd} (hP : 0 ≤ P ∧ P ≤ 10) (h : RK P b d) (h3 : w 5 3 = P) (h8 : ∀ j : Nat, (j : Int) < P → w 8 j = b j) : ∀ (n : Nat) {v2 v3 : Int}, 0 ≤ v3 → v3 ≤ P → B10 v2 (fun k => decide ((k : Int) < v3) && des b y k) → PC (f_F_ledBy_4 n y v2 v3 w) (fun r u => u = w ∧ B10 r (fun k => inP P k && des b y k)) := by
  intro n
  induction n with
  | zero => intros; exact pc_none
  | succ n ih =>
    intro v2 v3 i0 i1 hB
    rw [f_F_ledBy_4, h3]
    refine pc_ite (fun z => ?_) (fun z => ?_)
    · have e : v3 = P := by omega
      subst e
      exact pc_some ⟨rfl, hB⟩
    · refine pc_call (steps_pc (x := v3) (y := y) hP.2 h h3 h8 (by omega)) (fun r1 u2 q => ?_)
      rw [q.1, q.2]
      have nx : ∀ s : Int, s = (if des b y v3.toNat = true then ishl 1 v3 else 0) → PC (f_F_ledBy_29 (f_F_ledBy_4 n) y v3 v2 s w) (fun r u => u = w ∧ B10 r (fun k => inP P k && des b y k)) := by
        intro s e
        unfold f_F_ledBy_29
        refine pc_let (fun x3 e3 => ?_)
        refine pc_let (fun x4 e4 => ?_)
        rw [wsucc (P := P) (by omega) (by omega)] at e4
        rw [e4]
        refine ih (by omega) (by omega) ?_
        rw [e3, e]
        exact b10_step (f := des b y) (by omega) hB
      have ed : des b y v3.toNat = decide (0 < stu b 11 v3 y) := by
        unfold des
        rw [show ((v3.toNat : Nat) : Int) = v3 by omega]
      refine pc_ite (fun c => nx 0 ?_) (fun c => nx _ ?_)
      · rw [ed, decide_eq_false (by omega), if_neg (by decide)]
      · rw [ed, decide_eq_true (by omega), if_pos rfl]
