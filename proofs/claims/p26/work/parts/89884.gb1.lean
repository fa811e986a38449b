/-! STATES AS NUMBERS: the reference's way to write them -/
def cdf (s : Nat → Int) : Nat → Int
  | 0 => 0
  | n + 1 => 5 * cdf s n + s n
def pw5 : Nat → Int
  | 0 => 1
  | n + 1 => 5 * pw5 n
theorem p5_le : ∀ n, n ≤ 10 → 1 ≤ pw5 n ∧ pw5 n ≤ 9765625 := by
  have h : (List.range 11).all (fun n => decide (1 ≤ pw5 n ∧ pw5 n ≤ 9765625)) = true := by decide +kernel
  intro n hn
  exact of_decide_eq_true (List.all_eq_true.mp h n (List.mem_range.mpr (by omega)))
theorem cdf_rg {s : Nat → Int} : ∀ {n : Nat}, (∀ k, k < n → 0 ≤ s k ∧ s k ≤ 4) → 0 ≤ cdf s n ∧ cdf s n < pw5 n := by
  intro n
  induction n with
  | zero => intro _; exact ⟨Int.le_refl _, by show (0 : Int) < 1; decide⟩
  | succ n ih =>
    intro h
    have h1 := ih (fun k hk => h k (by omega))
    have h2 := h n (by omega)
    rw [cdf, pw5]
    omega
theorem cdf_eq {s t : Nat → Int} : ∀ {n : Nat}, (∀ k, k < n → s k = t k) → cdf s n = cdf t n := by
  intro n
  induction n with
  | zero => intro _; rfl
  | succ n ih => intro h; rw [cdf, cdf, ih (fun k hk => h k (by omega)), h n (by omega)]
theorem cdf_inj {s t : Nat → Int} : ∀ {n : Nat}, (∀ k, k < n → 0 ≤ s k ∧ s k ≤ 4) → (∀ k, k < n → 0 ≤ t k ∧ t k ≤ 4) → cdf s n = cdf t n → ∀ k, k < n → s k = t k := by
  intro n
  induction n with
  | zero => intro _ _ _ k hk; omega
  | succ n ih =>
    intro hs ht e k hk
    rw [cdf, cdf] at e
    have h1 := hs n (by omega)
    have h2 := ht n (by omega)
    by_cases c : k = n
    · rw [c]; omega
    · exact ih (fun k hk => hs k (by omega)) (fun k hk => ht k (by omega)) (by omega) k (by omega)
def cdx (P x : Int) : Int := cdf (sof x) P.toNat
theorem cdx_rg {P x : Int} (hP : 0 ≤ P ∧ P ≤ 10) (h : WH x (sof x) P) : 0 ≤ cdx P x ∧ cdx P x < 9765625 := by
  have h1 := cdf_rg (s := sof x) (n := P.toNat) (fun k hk => h.2.2 k (by omega))
  have h2 := p5_le P.toNat (by omega)
  unfold cdx
  omega
theorem cdx_inj {P x y : Int} (hP : 0 ≤ P ∧ P ≤ 10) (hx : WH x (sof x) P) (hy : WH y (sof y) P) (e : cdx P x = cdx P y) : x = y := by
  have := cdf_inj (s := sof x) (t := sof y) (n := P.toNat) (fun k hk => hx.2.2 k (by omega)) (fun k hk => hy.2.2 k (by omega)) e
  exact wh_inj hx hy (fun k hk => this k (by omega))
theorem cdx_wh {P x : Int} {s : Nat → Int} (hP : 0 ≤ P ∧ P ≤ 10) (h : WH x s P) : cdx P x = cdf s P.toNat := cdf_eq (fun k hk => sof_e h hP.2 (by omega))
/-- the reference's own way to reckon it -/
theorem cd_cdf {b : Wd} {M : Int} {t : Nat → Int} : ∀ {n : Nat}, n ≤ 10 → (∀ k, k < n → nv b M k = t k ∧ 0 ≤ t k ∧ t k ≤ 4) → cd b M n = cdf t n := by
  intro n
  induction n with
  | zero => intro _ _; rfl
  | succ n ih =>
    intro hn h
    rw [cd, cdf, ih (by omega) (fun k hk => h k (by omega)), (h n (by omega)).1]
    have h1 := cdf_rg (s := t) (n := n) (fun k hk => (h k (by omega)).2)
    have h2 := p5_le n (by omega)
    have h3 := (h n (by omega)).2
    rw [w32_id (show -2147483648 ≤ 5 * cdf t n ∧ 5 * cdf t n ≤ 2147483647 by omega), w32_id (by omega)]
theorem nv_nis {b : Wd} {M P g : Int} {s : Nat → Int} {k : Nat} (hk : (k : Int) < P) (h68 : b 68 k = s k) (hs : 0 ≤ s k ∧ s k ≤ 4) (hg : b 43 10 = g) : nv b M k = nis P s g (bt M) k := by
  unfold nv nis
  rw [h68, hg]
  by_cases c : bt M k = true
  · rw [if_pos c, if_pos c]
  · rw [if_neg c, if_neg c]
    by_cases c2 : gst (s k) = true
    · rw [if_pos c2, if_pos c2]
      have e1 : w32 (s k + 1) = s k + 1 := w32_id (by omega)
      have e2 : w32 (s k + 1 - 1) = s k := (w32_id (by omega)).trans (by omega)
      rw [e1, e2]
    · rw [if_neg c2, if_neg c2]
/-- a number's signs, from the last on -/
theorem dg5 {s : Nat → Int} {n : Nat} (h : ∀ k, k < n + 1 → 0 ≤ s k ∧ s k ≤ 4) (hn : n < 10) : irem (cdf s (n + 1)) 5 = s n ∧ idiv (cdf s (n + 1)) 5 = cdf s n := by
  have h1 := cdf_rg (s := s) (n := n) (fun k hk => h k (by omega))
  have h2 := p5_le n (by omega)
  have h3 := h n (by omega)
  rw [cdf, irem_k (by decide) (by omega), idiv_k (by decide) (by omega)]
  constructor <;> omega
theorem load_pc {P : Int} {s : Nat → Int} {w : Wd} {t : Nat} (hP : 0 ≤ P ∧ P ≤ 10) (h0 : w 43 0 = P) (hs : ∀ k : Nat, (k : Int) < P → 0 ≤ s k ∧ s k ≤ 4) (hc : w 63 t = cdf s P.toNat) : PC (f_R_load (t : Int) w) (fun _ u => (∀ k : Nat, (k : Int) < P → u 68 k = s k) ∧ ∀ c, c ≠ 68 → u c = w c) := by
  have l14 : ∀ (n : Nat) {v2 v3 : Int} {u : Wd}, -1 ≤ v3 → v3 < P → v2 = cdf s (v3 + 1).toNat → (∀ k : Nat, v3 < (k : Int) → (k : Int) < P → u 68 k = s k) → (∀ c, c ≠ 68 → u c = w c) → PC (f_R_load_14 n v2 v3 u) (fun _ u => (∀ k : Nat, (k : Int) < P → u 68 k = s k) ∧ ∀ c, c ≠ 68 → u c = w c) := by
    intro n
    induction n with
    | zero => intros; exact pc_none
    | succ n ih =>
      intro v2 v3 u i3 i3' e2 h1 h2
      rw [f_R_load_14]
      refine pc_ite (fun c => pc_some ⟨fun k hk => h1 k (by omega) hk, h2⟩) (fun c => ?_)
      rw [if_neg (by decide)]
      have e : (v3 + 1).toNat = v3.toNat + 1 := by omega
      rw [e] at e2
      obtain ⟨d1, d2⟩ := dg5 (s := s) (n := v3.toNat) (fun k hk => hs k (by omega)) (by omega)
      rw [e2, d1]
      refine pc_gd (fun _ => pc_lw (fun u3 e3 => ?_))
      rw [if_neg (by decide), d2]
      refine pc_let (fun x4 e4 => pc_let (fun x5 e5 => ?_))
      rw [w32_id (by omega)] at e5
      rw [e4, e5]
      refine ih (by omega) (by omega) (by rw [show (v3 + -1 + 1).toNat = v3.toNat by omega]) (fun k hk hk2 => ?_) (fun c hc => by rw [e3, st_row hc, h2 c hc])
      rw [e3]
      by_cases ck : k = v3.toNat
      · rw [ck, st_eq]
      · rw [st_k ck]; exact h1 k (by omega) hk2
  unfold f_R_load
  rw [show ((t : Nat) : Int).toNat = t by omega, h0, hc, w32_id (by omega)]
  refine pc_gd (fun _ => pc_let (fun x1 e1 => pc_let (fun x2 e2 => ?_)))
  rw [e1, e2]
  exact l14 FU (by omega) (by omega) (by rw [show (P - 1 + 1).toNat = P.toNat by omega]) (fun k hk hk2 => by omega) (fun _ _ => rfl)
theorem gsIn_pc {P : Int} {s : Nat → Int} {w : Wd} {t : Nat} (hP : 0 ≤ P ∧ P ≤ 10) (h0 : w 43 0 = P) (hs : ∀ k : Nat, (k : Int) < P → 0 ≤ s k ∧ s k ≤ 4) (hc : w 63 t = cdf s P.toNat) : PC (f_R_guestsIn (t : Int) w) (fun r u => u = w ∧ B10 r (gs P s)) := by
  have l17 : ∀ (n : Nat) {v2 v3 v4 : Int}, -1 ≤ v4 → v4 < P → v3 = cdf s (v4 + 1).toNat → B10 v2 (fun k => decide (v4 < (k : Int)) && gs P s k) → PC (f_R_guestsIn_17 n v2 v3 v4 w) (fun r u => u = w ∧ B10 r (gs P s)) := by
    intro n
    induction n with
    | zero => intros; exact pc_none
    | succ n ih =>
      intro v2 v3 v4 i4 i4' e3 hB
      rw [f_R_guestsIn_17]
      refine pc_ite (fun c => pc_some ⟨rfl, b10_w hB (fun k _ => by rw [decide_eq_true (by omega)]; rfl)⟩) (fun c => ?_)
      rw [if_neg (by decide)]
      have e : (v4 + 1).toNat = v4.toNat + 1 := by omega
      rw [e] at e3
      obtain ⟨d1, d2⟩ := dg5 (s := s) (n := v4.toNat) (fun k hk => hs k (by omega)) (by omega)
      rw [e3, d1, isG_e, jc_s]
      have egs : gs P s v4.toNat = gst (s v4.toNat) := by
        unfold gs
        rw [show inP P v4.toNat = true from decide_eq_true (by omega)]; rfl
      have nx : ∀ z : Int, B10 z (fun k => decide (k = v4.toNat) && gs P s k) → PC (f_R_guestsIn_40 (f_R_guestsIn_17 n) (cdf s (v4.toNat + 1)) v4 v2 z w) (fun r u => u = w ∧ B10 r (gs P s)) := fun z hz => by
        unfold f_R_guestsIn_40
        refine pc_let (fun x5 e5 => ?_)
        rw [if_neg (by decide), d2]
        refine pc_let (fun x6 e6 => pc_let (fun x7 e7 => ?_))
        rw [w32_id (by omega)] at e7
        rw [e5, e6, e7]
        refine ih (by omega) (by omega) (by rw [show (v4 + -1 + 1).toNat = v4.toNat by omega]) ?_
        refine b10_w (b10_or hB hz) (fun k _ => ?_)
        by_cases ck : k = v4.toNat
        · rw [decide_eq_true ck, decide_eq_false (show ¬ v4 < (k : Int) by omega), decide_eq_true (show v4 + -1 < (k : Int) by omega)]; simp
        · rw [decide_eq_false ck]
          by_cases ck2 : v4 < (k : Int)
          · rw [decide_eq_true ck2, decide_eq_true (show v4 + -1 < (k : Int) by omega)]; simp
          · rw [decide_eq_false ck2, decide_eq_false (show ¬ v4 + -1 < (k : Int) by omega)]; rfl
      cases hg : gst (s v4.toNat) with
      | false =>
        refine pc_ite (fun _ => nx 0 (b10_w b10_0 (fun k _ => ?_))) (fun e => absurd rfl e)
        by_cases ck : k = v4.toNat
        · rw [ck, egs, hg]; simp
        · rw [decide_eq_false ck]; rfl
      | true =>
        refine pc_ite (fun e => absurd e (by decide)) (fun _ => nx _ (b10_w (b10_1 (i := v4) (by omega)) (fun k _ => ?_)))
        by_cases ck : k = v4.toNat
        · rw [ck, egs, hg, decide_eq_true rfl]; rfl
        · rw [decide_eq_false ck]; rfl
  unfold f_R_guestsIn
  rw [show ((t : Nat) : Int).toNat = t by omega, h0, hc, w32_id (by omega)]
  refine pc_gd (fun _ => pc_let (fun x1 e1 => pc_let (fun x2 e2 => ?_)))
  rw [e1, e2]
  refine l17 FU (by omega) (by omega) (by rw [show (P - 1 + 1).toNat = P.toNat by omega]) (b10_w b10_0 (fun k _ => ?_))
  by_cases ck : P - 1 < (k : Int)
  · unfold gs
    rw [show inP P k = false from decide_eq_false (by omega)]; simp
  · rw [decide_eq_false ck]; rfl
theorem stIn_pc {P : Int} {s : Nat → Int} {w : Wd} {t : Nat} (hP : 0 ≤ P ∧ P ≤ 10) (h0 : w 43 0 = P) (hs : ∀ k : Nat, (k : Int) < P → 0 ≤ s k ∧ s k ≤ 4) (hc : w 63 t = cdf s P.toNat) : PC (f_R_strangersIn (t : Int) w) (fun r u => u = w ∧ B10 r (sr P s)) := by
  have l17 : ∀ (n : Nat) {v2 v3 v4 : Int}, -1 ≤ v4 → v4 < P → v3 = cdf s (v4 + 1).toNat → B10 v2 (fun k => decide (v4 < (k : Int)) && sr P s k) → PC (f_R_strangersIn_17 n v2 v3 v4 w) (fun r u => u = w ∧ B10 r (sr P s)) := by
    intro n
    induction n with
    | zero => intros; exact pc_none
    | succ n ih =>
      intro v2 v3 v4 i4 i4' e3 hB
      rw [f_R_strangersIn_17]
      refine pc_ite (fun c => pc_some ⟨rfl, b10_w hB (fun k _ => by rw [decide_eq_true (by omega)]; rfl)⟩) (fun c => ?_)
      rw [if_neg (by decide)]
      have e : (v4 + 1).toNat = v4.toNat + 1 := by omega
      rw [e] at e3
      obtain ⟨d1, d2⟩ := dg5 (s := s) (n := v4.toNat) (fun k hk => hs k (by omega)) (by omega)
      rw [e3, d1]
      have egs : sr P s v4.toNat = (s v4.toNat == 0) := by
        unfold sr
        rw [show inP P v4.toNat = true from decide_eq_true (by omega)]; rfl
      have nx : ∀ z : Int, B10 z (fun k => decide (k = v4.toNat) && sr P s k) → PC (f_R_strangersIn_37 (f_R_strangersIn_17 n) (cdf s (v4.toNat + 1)) v4 v2 z w) (fun r u => u = w ∧ B10 r (sr P s)) := fun z hz => by
        unfold f_R_strangersIn_37
        refine pc_let (fun x5 e5 => ?_)
        rw [if_neg (by decide), d2]
        refine pc_let (fun x6 e6 => pc_let (fun x7 e7 => ?_))
        rw [w32_id (by omega)] at e7
        rw [e5, e6, e7]
        refine ih (by omega) (by omega) (by rw [show (v4 + -1 + 1).toNat = v4.toNat by omega]) ?_
        refine b10_w (b10_or hB hz) (fun k _ => ?_)
        by_cases ck : k = v4.toNat
        · rw [decide_eq_true ck, decide_eq_false (show ¬ v4 < (k : Int) by omega), decide_eq_true (show v4 + -1 < (k : Int) by omega)]; simp
        · rw [decide_eq_false ck]
          by_cases ck2 : v4 < (k : Int)
          · rw [decide_eq_true ck2, decide_eq_true (show v4 + -1 < (k : Int) by omega)]; simp
          · rw [decide_eq_false ck2, decide_eq_false (show ¬ v4 + -1 < (k : Int) by omega)]; rfl
      refine pc_ite (fun z => nx _ (b10_w (b10_1 (i := v4) (by omega)) (fun k _ => ?_))) (fun z => nx 0 (b10_w b10_0 (fun k _ => ?_)))
      · by_cases ck : k = v4.toNat
        · rw [ck, egs, z, decide_eq_true rfl]; rfl
        · rw [decide_eq_false ck]; rfl
      · by_cases ck : k = v4.toNat
        · rw [ck, egs, beq_eq_false_iff_ne.mpr z]; simp
        · rw [decide_eq_false ck]; rfl
  unfold f_R_strangersIn
  rw [show ((t : Nat) : Int).toNat = t by omega, h0, hc, w32_id (by omega)]
  refine pc_gd (fun _ => pc_let (fun x1 e1 => pc_let (fun x2 e2 => ?_)))
  rw [e1, e2]
  refine l17 FU (by omega) (by omega) (by rw [show (P - 1 + 1).toNat = P.toNat by omega]) (b10_w b10_0 (fun k _ => ?_))
  by_cases ck : P - 1 < (k : Int)
  · unfold sr
    rw [show inP P k = false from decide_eq_false (by omega)]; simp
  · rw [decide_eq_false ck]; rfl
theorem cnow_pc {P : Int} {s : Nat → Int} {w : Wd} (hP : 0 ≤ P ∧ P ≤ 10) (h0 : w 43 0 = P) (h47 : ∀ k : Nat, (k : Int) < P → w 47 k = s k) (hs : ∀ k : Nat, (k : Int) < P → 0 ≤ s k ∧ s k ≤ 4) : PC (f_R_codeNow w) (fun r u => u = w ∧ r = cdf s P.toNat) := by
  have l4 : ∀ (n : Nat) {v1 v2 : Int}, 0 ≤ v2 → v2 ≤ P → v1 = cdf s v2.toNat → PC (f_R_codeNow_4 n v1 v2 w) (fun r u => u = w ∧ r = cdf s P.toNat) := by
    intro n
    induction n with
    | zero => intros; exact pc_none
    | succ n ih =>
      intro v1 v2 i2 i2' e1
      rw [f_R_codeNow_4, h0]
      refine pc_ite (fun c => pc_some ⟨rfl, by rw [e1, show v2 = P by omega]⟩) (fun c => ?_)
      have h1 := cdf_rg (s := s) (n := v2.toNat) (fun k hk => hs k (by omega))
      have h2 := p5_le v2.toNat (by omega)
      have h3 := hs v2.toNat (by omega)
      rw [h47 v2.toNat (by omega), e1, w32_id (show -2147483648 ≤ 5 * cdf s v2.toNat ∧ 5 * cdf s v2.toNat ≤ 2147483647 by omega), w32_id (show -2147483648 ≤ 5 * cdf s v2.toNat + s v2.toNat ∧ 5 * cdf s v2.toNat + s v2.toNat ≤ 2147483647 by omega)]
      refine pc_gd (fun _ => pc_let (fun x1 ex1 => pc_let (fun x2 ex2 => ?_)))
      rw [w32_id (by omega)] at ex2
      rw [ex1, ex2]
      exact ih (by omega) (by omega) (by rw [show (v2 + 1).toNat = v2.toNat + 1 by omega, cdf])
  unfold f_R_codeNow
  exact l4 FU (by decide) hP.1 rfl
/-! what is paid on the way from one STATE to another -/
def cst (pr : Nat → Int) (f : Nat → Bool) : Nat → Int
  | 0 => 0
  | n + 1 => cst pr f n + (if f n = true then pr n else 0)
theorem cst_rg {pr : Nat → Int} {f : Nat → Bool} : ∀ {n : Nat}, (∀ k, k < n → 0 ≤ pr k ∧ pr k ≤ 9) → 0 ≤ cst pr f n ∧ cst pr f n ≤ 9 * n := by
  intro n
  induction n with
  | zero => intro _; exact ⟨Int.le_refl _, Int.le_refl _⟩
  | succ n ih =>
    intro h
    have h1 := ih (fun k hk => h k (by omega))
    have h2 := h n (by omega)
    rw [cst]
    split <;> omega
theorem cst_eq {pr pr' : Nat → Int} {f f' : Nat → Bool} : ∀ {n : Nat}, (∀ k, k < n → pr k = pr' k ∧ f k = f' k) → cst pr f n = cst pr' f' n := by
  intro n
  induction n with
  | zero => intro _; rfl
  | succ n ih => intro h; rw [cst, cst, ih (fun k hk => h k (by omega)), (h n (by omega)).1, (h n (by omega)).2]
theorem cst_add {pr : Nat → Int} {f f1 f2 : Nat → Bool} : ∀ {n : Nat}, (∀ k, k < n → f k = (f1 k || f2 k) ∧ (f1 k && f2 k) = false) → cst pr f n = cst pr f1 n + cst pr f2 n := by
  intro n
  induction n with
  | zero => intro _; rfl
  | succ n ih =>
    intro h
    obtain ⟨h1, h2⟩ := h n (by omega)
    rw [cst, cst, cst, ih (fun k hk => h k (by omega)), h1]
    cases hf1 : f1 n <;> cases hf2 : f2 n
    · simp
    · simp; omega
    · simp; omega
    · rw [hf1, hf2] at h2; cases h2
theorem cost_pc {P : Int} {s s' : Nat → Int} {w : Wd} {t t' : Nat} (hP : 0 ≤ P ∧ P ≤ 10) (h0 : w 43 0 = P) (hpr : ∀ k, 0 ≤ w 44 k ∧ w 44 k ≤ 9) (hs : ∀ k : Nat, (k : Int) < P → 0 ≤ s k ∧ s k ≤ 4) (hs' : ∀ k : Nat, (k : Int) < P → 0 ≤ s' k ∧ s' k ≤ 4) (hc : w 63 t = cdf s P.toNat) (hc' : w 63 t' = cdf s' P.toNat) : PC (f_R_costOf (t : Int) (t' : Int) w) (fun r u => u = w ∧ r = cst (w 44) (fun k => sr P s k && !sr P s' k) P.toNat) := by
  unfold f_R_costOf
  refine pc_call (stIn_pc hP h0 hs hc) (fun r1 u2 q1 => ?_)
  rw [q1.1]
  refine pc_call (stIn_pc hP h0 hs' hc') (fun r3 u4 q2 => ?_)
  rw [q2.1]
  have hB := b10_andn q1.2 q2.2.2
  refine pc_let (fun v3 e5 => ?_)
  rw [← e5] at hB
  have l20 : ∀ (n : Nat) {v4 v5 : Int}, 0 ≤ v5 → v5 ≤ P → v4 = cst (w 44) (fun k => sr P s k && !sr P s' k) v5.toNat → PC (f_R_costOf_20 n v3 v4 v5 w) (fun r u => u = w ∧ r = cst (w 44) (fun k => sr P s k && !sr P s' k) P.toNat) := by
    intro n
    induction n with
    | zero => intros; exact pc_none
    | succ n ih =>
      intro v4 v5 i5 i5' e4
      rw [f_R_costOf_20, h0]
      refine pc_ite (fun c => pc_some ⟨rfl, by rw [e4, show v5 = P by omega]⟩) (fun c => ?_)
      have hr := cst_rg (pr := w 44) (f := fun k => sr P s k && !sr P s' k) (n := v5.toNat) (fun k _ => hpr k)
      have hp := hpr v5.toNat
      have nx : ∀ z : Int, (0 ≤ z ∧ z ≤ 9) → v4 + z = cst (w 44) (fun k => sr P s k && !sr P s' k) (v5.toNat + 1) → PC (f_R_costOf_51 (f_R_costOf_20 n) v3 v5 v4 z w) (fun r u => u = w ∧ r = cst (w 44) (fun k => sr P s k && !sr P s' k) P.toNat) := fun z hz ez => by
        unfold f_R_costOf_51
        refine pc_let (fun x8 e8 => pc_let (fun x9 e9 => ?_))
        rw [w32_id (by omega)] at e8
        rw [w32_id (by omega)] at e9
        rw [e8, e9]
        exact ih (by omega) (by omega) (by rw [ez, show (v5 + 1).toNat = v5.toNat + 1 by omega])
      rw [hasR_10 w hB (by omega), jc_s]
      cases hf : (sr P s v5.toNat && !sr P s' v5.toNat) with
      | false =>
        refine pc_ite (fun _ => nx 0 (by decide) ?_) (fun e => absurd rfl e)
        rw [cst, hf, e4]; rfl
      | true =>
        refine pc_ite (fun e => absurd e (by decide)) (fun _ => pc_gd (fun _ => nx _ hp ?_))
        rw [cst, hf, e4]; rfl
  exact l20 FU (by decide) hP.1 rfl
