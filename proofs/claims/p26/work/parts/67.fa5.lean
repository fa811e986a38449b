/-! MANY COME: to the class -/
def EAN (a n : Nat) (pr kn : Nat → Int) (w u : Wd) : Prop := u 5 3 = (a : Int) + n ∧ (∀ j, j < a → u 6 j = w 6 j ∧ u 8 j = w 8 j) ∧ (∀ i, i < n → u 6 (a + i) = pr i ∧ u 8 (a + i) = -1) ∧ (∀ j, j < a + n → u 7 j = ads (w 7) a kn n j) ∧ ∀ c k, c ≠ 6 → c ≠ 7 → c ≠ 8 → ¬ (c = 5 ∧ k = 3) → u c k = w c k
theorem ean_0 {a : Nat} {pr kn : Nat → Int} {w : Wd} (h : w 5 3 = a) : EAN a 0 pr kn w w := ⟨by omega, fun _ _ => ⟨rfl, rfl⟩, fun i hi => by omega, fun _ _ => rfl, fun _ _ _ _ _ _ => rfl⟩
theorem ean_s {a n : Nat} {pr kn : Nat → Int} {w u v : Wd} (h : EAN a n pr kn w u) (h1 : EA1 (a + n) (pr n) (kn n) u v) : EAN a (n + 1) pr kn w v := by
  obtain ⟨a1, a2, a3, a4, a5⟩ := h
  obtain ⟨b1, b2, b3, b4, b5⟩ := h1
  refine ⟨by omega, fun j hj => ?_, fun i hi => ?_, fun j hj => ?_, fun c k h6 h7 h8 h5 => (b5 c k h6 h7 h8 h5).trans (a5 c k h6 h7 h8 h5)⟩
  · rw [b2, b4, if_neg (by omega), if_neg (by omega)]; exact a2 j hj
  · rw [b2, b4]
    by_cases c : i = n
    · rw [c, if_pos rfl, if_pos rfl]; exact ⟨rfl, rfl⟩
    · rw [if_neg (by omega), if_neg (by omega)]; exact a3 i (by omega)
  · rw [b3 j (by omega)]
    show adk _ _ _ _ = adk _ _ _ _
    unfold adk
    by_cases c : j = a + n
    · rw [if_pos c, if_pos c]
    · rw [if_neg c, if_neg c, a4 j (by omega)]
theorem et2 {a m : Nat} {pr kn : Nat → Int} (x : Wd) (ham : a + m ≤ 10) (hK : KNW a (x 7)) (hk : ∀ i, i < m → (0 ≤ kn i ∧ kn i ≤ 1023) ∧ ∀ q, q < 10 → bt (kn i) q = true → q < a + i) (h9 : x 9 4 = m) (h10 : ∀ i, i < m → x 10 i = pr i ∧ x 11 i = kn i) : ∀ (n : Nat) {w : Wd} (i : Nat), i ≤ m → EAN a i pr kn x w → PC (f_L_settle_2 n i w) (fun _ u => ∃ v, EAN a m pr kn x v ∧ u 5 4 = ior (x 5 4) (x 9 2) ∧ u 5 5 = ior (x 5 5) (x 9 3) ∧ ∀ c k, ¬ (c = 5 ∧ (k = 4 ∨ k = 5)) → u c k = v c k) := by
  intro n
  induction n with
  | zero => intros; exact pc_none
  | succ n ih =>
    intro w i hi hE
    rw [f_L_settle_2]
    obtain ⟨a1, a2, a3, a4, a5⟩ := hE
    have y9 : w 9 4 = m := (a5 9 4 (by decide) (by decide) (by decide) (by omega)).trans h9
    rw [y9]
    refine pc_ite (fun c => ?_) (fun c => ?_)
    · have e : i = m := by omega
      subst e
      refine pc_lw (fun u1 e1 => ?_)
      refine pc_lw (fun u2 e2 => pc_some ⟨w, ⟨a1, a2, a3, a4, a5⟩, ?_, ?_, fun c k hc => ?_⟩)
      · rw [e2, st_k (by decide), e1, st_eq, a5 5 4 (by decide) (by decide) (by decide) (by omega), a5 9 2 (by decide) (by decide) (by decide) (by omega)]
      · rw [e2, st_eq, e1, st_k (by decide), st_c (by decide), a5 5 5 (by decide) (by decide) (by decide) (by omega), a5 9 3 (by decide) (by decide) (by decide) (by omega)]
      · rw [e2]; unfold st; rw [if_neg (by omega), e1]; unfold st; rw [if_neg (by omega)]
    · have ei : ((i : Nat) : Int).toNat = i := by omega
      refine pc_gd (fun _ => ?_)
      refine pc_gd (fun _ => ?_)
      rw [ei, a5 10 i (by decide) (by decide) (by decide) (by omega), a5 11 i (by decide) (by decide) (by decide) (by omega), (h10 i (by omega)).1, (h10 i (by omega)).2]
      have kw : KNW (a + i) (w 7) := by
        intro j hj
        rw [a4 j hj]
        exact kw_ads hK (by omega) (fun i2 h2 => hk i2 (by omega)) j hj
      refine pc_call (ea_pc (i := a + i) (by omega) (by omega) kw) (fun r3 u4 q => ?_)
      refine pc_let (fun x5 e5 => ?_)
      rw [wsucc (P := 10) (by omega) (by decide)] at e5
      have ex : x5 = ((i + 1 : Nat) : Int) := by omega
      rw [ex]
      exact ih (i + 1) (by omega) (ean_s ⟨a1, a2, a3, a4, a5⟩ q)
theorem wh_eq {x P : Int} {s t : Nat → Int} (h : WH x s P) (e : ∀ k : Nat, (k : Int) < P → s k = t k) : WH x t P := by
  obtain ⟨h1, h2, h3⟩ := h
  refine ⟨h1, fun k hk => ?_, fun k hk => by rw [← e k hk]; exact h3 k hk⟩
  have := h2 k hk
  cases hp : inP P k with
  | false => rw [hp] at this; exact this
  | true => rw [hp] at this; rw [← e k (inP_t hp)]; exact this
theorem gs_eq {P : Int} {s t : Nat → Int} (e : ∀ k : Nat, (k : Int) < P → s k = t k) (k : Nat) : gs P s k = gs P t k := by
  unfold gs
  cases hp : inP P k with
  | false => rfl
  | true => rw [e k (inP_t hp)]
theorem hB_eq {P : Int} {s t : Nat → Int} (e : ∀ k : Nat, (k : Int) < P → s k = t k) (k : Nat) : hB P s k = hB P t k := by
  unfold hB
  cases hp : inP P k with
  | false => rfl
  | true => rw [e k (inP_t hp)]
/-- new ones among who is what: bits are joined -/
theorem wh_come {x g : Int} {s : Nat → Int} {a n : Nat} {gf : Nat → Bool} (han : a + n ≤ 10) (h : WH x s a) (hg : B10 g (fun k => decide ((a : Int) ≤ k ∧ (k : Int) < a + n) && gf ((k : Int) - a).toNat)) : WH (ior x g) (fun j => if j < a then s j else if gf (j - a) = true then 1 else 0) ((a : Int) + n) := by
  obtain ⟨h1, h2, h3⟩ := h
  have o := ior_n 30 (x := x) (y := g) (m := 1073741823) (by decide) (by decide) (by omega) (by have := hg.1; omega)
  refine ⟨by omega, fun k hk => ?_, fun k hk => ?_⟩
  · obtain ⟨b1, b2, b3⟩ := h2 k hk
    rw [bt_or, bt_or, bt_or, b1, b2, b3, hg.2 k hk, bt_hi hg.1 (by omega), bt_hi hg.1 (by omega)]
    dsimp only
    by_cases c : k < a
    · rw [show inP (a : Int) k = true from decide_eq_true (by omega), show inP ((a : Int) + n) k = true from decide_eq_true (by omega), if_pos c, decide_eq_false (show ¬ ((a : Int) ≤ k ∧ (k : Int) < a + n) by omega)]
      simp
    · rw [show inP (a : Int) k = false from decide_eq_false (by omega), if_neg c]
      by_cases c2 : k < a + n
      · rw [show inP ((a : Int) + n) k = true from decide_eq_true (by omega), decide_eq_true (show (a : Int) ≤ k ∧ (k : Int) < a + n by omega), show ((k : Int) - a).toNat = k - a by omega]
        cases gf (k - a) <;> simp
      · rw [show inP ((a : Int) + n) k = false from decide_eq_false (by omega), decide_eq_false (show ¬ ((a : Int) ≤ k ∧ (k : Int) < a + n) by omega)]
        simp
  · dsimp only
    by_cases c : k < a
    · rw [if_pos c]; exact h3 k (by omega)
    · rw [if_neg c]; split <;> decide
theorem hB_come {x g : Int} {s : Nat → Int} {a n : Nat} {gf : Nat → Bool} (han : a + n ≤ 10) (h : B10 x (hB a s)) (hg : B10 g (fun k => decide ((a : Int) ≤ k ∧ (k : Int) < a + n) && gf ((k : Int) - a).toNat)) : B10 (ior x g) (hB ((a : Int) + n) (fun j => if j < a then s j else if gf (j - a) = true then 1 else 0)) := by
  refine b10_w (b10_or h hg) (fun k hk => ?_)
  unfold hB
  dsimp only
  by_cases c : k < a
  · rw [show inP (a : Int) k = true from decide_eq_true (by omega), show inP ((a : Int) + n) k = true from decide_eq_true (by omega), if_pos c, decide_eq_false (show ¬ ((a : Int) ≤ k ∧ (k : Int) < a + n) by omega)]
    simp
  · rw [show inP (a : Int) k = false from decide_eq_false (by omega), if_neg c]
    by_cases c2 : k < a + n
    · rw [show inP ((a : Int) + n) k = true from decide_eq_true (by omega), decide_eq_true (show (a : Int) ≤ k ∧ (k : Int) < a + n by omega), show ((k : Int) - a).toNat = k - a by omega]
      cases gf (k - a) <;> simp
    · rw [show inP ((a : Int) + n) k = false from decide_eq_false (by omega), decide_eq_false (show ¬ ((a : Int) ≤ k ∧ (k : Int) < a + n) by omega)]
      simp
/-- who were GUESTS is noted -/
theorem ng_pc {v1 : Int} {w : Wd} (h : 0 ≤ w 15 3 ∧ w 15 3 ≤ 60) : PC (f_D_noteGuests v1 w) (fun _ u => u = st w 16 (w 15 3).toNat v1) := by
  unfold f_D_noteGuests f_D_isOne
  rw [if_neg (by omega), if_neg (by omega), if_neg (by omega), jc_s, if_neg (by decide)]
  exact pc_gd (fun _ => pc_lw (fun u3 e3 => pc_some e3))
theorem pcm_pc {w : Wd} {P : Int} {s : Nat → Int} (hw : WH (w 5 4) s P) (h : 0 ≤ w 15 3 ∧ w 15 3 ≤ 60) : PC (f_E_peopleCame w) (fun _ u => B10 (u 16 (w 15 3).toNat) (gs P s) ∧ u 15 4 = 0 ∧ (∀ t, t ≠ (w 15 3).toNat → u 16 t = w 16 t) ∧ ∀ c k, c ≠ 16 → c ≠ 28 → ¬ (c = 15 ∧ k = 4) → u c k = w c k) := by
  unfold f_E_peopleCame
  refine pc_call (eg_e hw) (fun r1 u2 q => ?_)
  rw [q.1]
  refine pc_call (ng_pc h) (fun r3 u4 p => ?_)
  refine pc_lw (fun u5 e5 => ?_)
  refine pc_call (sf_pc u5) (fun r6 u7 y => pc_some ⟨?_, ?_, fun t ht => ?_, fun c k h1 h2 h3 => ?_⟩)
  · rw [y 16 (by decide), e5, st_c (by decide), p, st_eq]; exact q.2
  · rw [y 15 (by decide), e5, st_eq]
  · rw [y 16 (by decide), e5, st_c (by decide), p, st_k ht]
  · rw [y c h2, e5]; unfold st; rw [if_neg h3, p]; unfold st; rw [if_neg (fun e => h1 e.1)]
/-- the class's side when so many came -/
def ECM (a n : Nat) (pr kn : Nat → Int) (gf hf : Nat → Bool) (s h : Nat → Int) (w u : Wd) : Prop := EAN a n pr kn w u ∧ WH (u 5 4) (fun j => if j < a then s j else if gf (j - a) = true then 1 else 0) ((a : Int) + n) ∧ B10 (u 5 5) (hB ((a : Int) + n) (fun j => if j < a then h j else if hf (j - a) = true then 1 else 0)) ∧ B10 (u 16 (w 15 3).toNat) (gs ((a : Int) + n) (fun j => if j < a then s j else if gf (j - a) = true then 1 else 0)) ∧ u 15 4 = 0 ∧ (∀ t, t ≠ (w 15 3).toNat → u 16 t = w 16 t) ∧ (u 5 6 = w 5 6 ∧ u 5 7 = w 5 7 ∧ u 5 8 = w 5 8 ∧ u 15 3 = w 15 3)
/-- as EAN, but who, hidden and the diary too may be others -/
def EAW (a n : Nat) (pr kn : Nat → Int) (w u : Wd) : Prop := u 5 3 = (a : Int) + n ∧ (∀ j, j < a → u 6 j = w 6 j ∧ u 8 j = w 8 j) ∧ (∀ i, i < n → u 6 (a + i) = pr i ∧ u 8 (a + i) = -1) ∧ (∀ j, j < a + n → u 7 j = ads (w 7) a kn n j)
theorem eaw_eq {a n : Nat} {pr kn : Nat → Int} {w v u : Wd} (h : EAN a n pr kn w v) (e3 : u 5 3 = v 5 3) (e6 : u 6 = v 6) (e7 : u 7 = v 7) (e8 : u 8 = v 8) : EAW a n pr kn w u := by
  obtain ⟨a1, a2, a3, a4, _⟩ := h
  unfold EAW
  rw [e3, e6, e7, e8]
  exact ⟨a1, a2, a3, a4⟩
def ECN (a n : Nat) (pr kn : Nat → Int) (gf hf : Nat → Bool) (s h : Nat → Int) (w u : Wd) : Prop := EAW a n pr kn w u ∧ WH (u 5 4) (fun j => if j < a then s j else if gf (j - a) = true then 1 else 0) ((a : Int) + n) ∧ B10 (u 5 5) (hB ((a : Int) + n) (fun j => if j < a then h j else if hf (j - a) = true then 1 else 0)) ∧ B10 (u 16 (w 15 3).toNat) (gs ((a : Int) + n) (fun j => if j < a then s j else if gf (j - a) = true then 1 else 0)) ∧ u 15 4 = 0 ∧ (∀ t, t ≠ (w 15 3).toNat → u 16 t = w 16 t) ∧ (u 5 6 = w 5 6 ∧ u 15 3 = w 15 3)
theorem lf_E {w : Wd} {a : Nat} {s h : Nat → Int} (hG : G md_E_land w w) (ha : w 5 3 = a) (hw : WH (w 5 4) s a) (hh : B10 (w 5 5) (hB a h)) (hK : KNW a (w 7)) (hd : 0 ≤ w 15 3 ∧ w 15 3 ≤ 60) : PC (f_E_land w) (fun r u => (¬ 0 < r ∧ ∀ c k, c ≠ 9 → c ≠ 10 → c ≠ 11 → ¬ (c = 1 ∧ k = 1) → u c k = w c k) ∨ (0 < r ∧ (a : Int) + r ≤ 10 ∧ ECN a r.toNat (lpr (sE (w 1 1) (w 2)) a) (lkn (sE (w 1 1) (w 2)) a) (lgs (sE (w 1 1) (w 2)) a) (lhi (sE (w 1 1) (w 2)) a) s h w u)) := by
  unfold f_E_land
  have a0 : (0 : Int) ≤ w 5 3 ∧ w 5 3 ≤ 10 := hG.1 5 3
  have hf : ∀ k, 0 ≤ w 2 k := fun k => (hG.1 2 k).1
  refine pc_call (pc_and (pc_ok (s_L_read (g_self hG) (by omega))) (pc_and (lread hf a0 ⟨rfl, rfl, rfl⟩) (mread hf a0 ⟨rfl, rfl, rfl⟩))) (fun r1 u2 q => ?_)
  obtain ⟨⟨_, gy⟩, ⟨_, q1, q2⟩, q3⟩ := q
  have f2 : ∀ c k, c ≠ 9 → c ≠ 10 → c ≠ 11 → u2 c k = w c k := fun c k h9 h10 h11 => gy.2.1 c k (by
    have e : md_L_read = [902, 903, 904, 905, 1099, 1199] := rfl
    rw [e]
    refine mS_ar ?_ k
    simp [Nat.blt_eq]
    omega)
  unfold f_T_clear
  rw [show (jlw (st u2 1 1 0) fun u1 => some ((0 : Int), u1)) = some (0, st u2 1 1 0) from rfl, jc_s]
  have f4 : ∀ c k, c ≠ 9 → c ≠ 10 → c ≠ 11 → ¬ (c = 1 ∧ k = 1) → st u2 1 1 0 c k = w c k := fun c k h9 h10 h11 h1 => by
    unfold st
    rw [if_neg h1]; exact f2 c k h9 h10 h11
  refine pc_ite (fun c => pc_some (Or.inl ⟨by omega, f4⟩)) (fun c => ?_)
  have hle : r1 ≤ 10 - w 5 3 := by
    rw [q1]
    unfold landA
    split
    · omega
    · exact lan_le _ _ _ a0.2 _ _ _ (Int.le_refl 0)
  have hc := q3 (by omega)
  rw [ha] at hc
  obtain ⟨c1, c2, c3⟩ := hc
  generalize e4 : st u2 1 1 0 = u4 at f4 ⊢
  have t9 : ∀ k, u4 9 k = u2 9 k := fun k => by rw [← e4, st_c (by decide)]
  have t10 : u4 10 = u2 10 := by rw [← e4]; exact st_row (by decide)
  have t11 : u4 11 = u2 11 := by rw [← e4]; exact st_row (by decide)
  have k7 : u4 7 = w 7 := funext fun k => f4 7 k (by decide) (by decide) (by decide) (by omega)
  have hr : ((r1.toNat : Nat) : Int) = r1 := by omega
  have hkn : ∀ i, i < r1.toNat → (0 ≤ lkn (sE (w 1 1) (w 2)) a i ∧ lkn (sE (w 1 1) (w 2)) a i ≤ 1023) ∧ ∀ q, q < 10 → bt (lkn (sE (w 1 1) (w 2)) a i) q = true → q < a + i := fun i hi => by
    obtain ⟨y1, y2⟩ := lkn_rg (s := sE (w 1 1) (w 2)) (a := (a : Int)) (i := i) (by omega)
    exact ⟨y1, fun q hq hb => by have := y2 q hq hb; omega⟩
  have hs : PC (f_L_settle u4) (fun _ u => ∃ v, EAN a r1.toNat (lpr (sE (w 1 1) (w 2)) a) (lkn (sE (w 1 1) (w 2)) a) u4 v ∧ u 5 4 = ior (u4 5 4) (u4 9 2) ∧ u 5 5 = ior (u4 5 5) (u4 9 3) ∧ ∀ c k, ¬ (c = 5 ∧ (k = 4 ∨ k = 5)) → u c k = v c k) := by
    unfold f_L_settle
    refine et2 u4 (m := r1.toNat) (by omega) (by rw [k7]; exact hK) hkn ?_ (fun i hi => ?_) FU 0 (by omega) (ean_0 ?_)
    · rw [t9, q2 (by omega), hr]
    · rw [t10, t11]; exact c1 i hi
    · rw [f4 5 3 (by decide) (by decide) (by decide) (by omega)]; exact ha
  refine pc_call hs (fun r5 u6 q => ?_)
  obtain ⟨v, hE, y4, y5, yo⟩ := q
  have o4 := f4 5 4 (by decide) (by decide) (by decide) (by omega)
  have o5 := f4 5 5 (by decide) (by decide) (by decide) (by omega)
  rw [o4, t9] at y4
  rw [o5, t9] at y5
  have w6 : WH (u6 5 4) (fun j => if j < a then s j else if lgs (sE (w 1 1) (w 2)) a (j - a) = true then 1 else 0) ((a : Int) + r1.toNat) := by
    rw [y4]
    exact wh_come (by omega) hw (by rw [hr]; rw [hr] at c2; exact c2)
  have d15 : u6 15 3 = w 15 3 := by
    rw [yo 15 3 (by omega), hE.2.2.2.2 15 3 (by decide) (by decide) (by decide) (by omega)]
    exact f4 15 3 (by decide) (by decide) (by decide) (by omega)
  refine pc_call (pcm_pc w6 (by omega)) (fun r7 u8 q => ?_)
  obtain ⟨z1, z2, z3, z4⟩ := q
  have row : ∀ c, c ≠ 16 → c ≠ 28 → c ≠ 15 → c ≠ 5 → u8 c = v c := fun c h16 h28 h15 h5 => funext fun k => (z4 c k h16 h28 (fun e => h15 e.1)).trans (yo c k (fun e => h5 e.1))
  have E8 : EAW a r1.toNat (lpr (sE (w 1 1) (w 2)) a) (lkn (sE (w 1 1) (w 2)) a) u4 u8 := eaw_eq hE ((z4 5 3 (by decide) (by decide) (by decide)).trans (yo 5 3 (by decide))) (row 6 (by decide) (by decide) (by decide) (by omega)) (row 7 (by decide) (by decide) (by decide) (by omega)) (row 8 (by decide) (by decide) (by decide) (by omega))
  refine pc_some (Or.inr ⟨by omega, by omega, ?_, ?_, ?_, ?_, z2, fun t ht => ?_, ?_, ?_⟩)
  · unfold EAW at E8 ⊢
    rw [show u4 6 = w 6 from funext fun k => f4 6 k (by decide) (by decide) (by decide) (by omega), show u4 8 = w 8 from funext fun k => f4 8 k (by decide) (by decide) (by decide) (by omega), k7] at E8
    exact E8
  · rw [z4 5 4 (by decide) (by decide) (by decide)]; exact w6
  · rw [z4 5 5 (by decide) (by decide) (by decide), y5]
    exact hB_come (by omega) hh (by rw [hr]; rw [hr] at c3; exact c3)
  · rw [← d15]; exact z1
  · rw [z3 t (by rw [d15]; exact ht), yo 16 t (by omega), hE.2.2.2.2 16 t (by decide) (by decide) (by decide) (by omega)]
    exact f4 16 t (by decide) (by decide) (by decide) (by omega)
  · rw [z4 5 6 (by decide) (by decide) (by decide), yo 5 6 (by omega), hE.2.2.2.2 5 6 (by decide) (by decide) (by decide) (by omega)]
    exact f4 5 6 (by decide) (by decide) (by decide) (by omega)
  · rw [z4 15 3 (by decide) (by decide) (by decide)]; exact d15
