/-! MANY COME: to the reference -/
def RAN (a n : Nat) (pr kn g h : Nat → Int) (w u : Wd) : Prop := (∀ j, j < a → u 44 j = w 44 j ∧ u 46 j = w 46 j ∧ u 47 j = w 47 j ∧ u 48 j = w 48 j ∧ u 49 j = w 49 j) ∧ (∀ i, i < n → u 44 (a + i) = pr i ∧ u 46 (a + i) = h i ∧ u 47 (a + i) = g i ∧ u 48 (a + i) = -1 ∧ u 49 (a + i) = if g i = 1 then w 43 8 else -1) ∧ (∀ j, j < a + n → u 45 j = ads (w 45) a kn n j) ∧ ∀ c k, c ≠ 44 → c ≠ 45 → c ≠ 46 → c ≠ 47 → c ≠ 48 → c ≠ 49 → u c k = w c k
theorem ran_0 {a : Nat} {pr kn g h : Nat → Int} {w : Wd} : RAN a 0 pr kn g h w w := ⟨fun _ _ => ⟨rfl, rfl, rfl, rfl, rfl⟩, fun i hi => by omega, fun _ _ => rfl, fun _ _ _ _ _ _ _ _ => rfl⟩
theorem ran_s {a n : Nat} {pr kn g h : Nat → Int} {w u v : Wd} (hr : RAN a n pr kn g h w u) (h1 : RA1 (a + n) (pr n) (kn n) (g n) (h n) u v) : RAN a (n + 1) pr kn g h w v := by
  obtain ⟨a2, a3, a4, a5⟩ := hr
  obtain ⟨b44, b45, b47, b46, b48, b49, bo⟩ := h1
  have y8 : u 43 8 = w 43 8 := a5 43 8 (by decide) (by decide) (by decide) (by decide) (by decide) (by decide)
  refine ⟨fun j hj => ?_, fun i hi => ?_, fun j hj => ?_, fun c k h1 h2 h3 h4 h5 h6 => (bo c k h1 h2 h3 h4 h5 h6).trans (a5 c k h1 h2 h3 h4 h5 h6)⟩
  · rw [b44, b46, b47, b48, b49, if_neg (by omega), if_neg (by omega), if_neg (by omega), if_neg (by omega), if_neg (by omega)]; exact a2 j hj
  · rw [b44, b46, b47, b48, b49, y8]
    by_cases c : i = n
    · rw [c, if_pos rfl, if_pos rfl, if_pos rfl, if_pos rfl, if_pos rfl]; exact ⟨rfl, rfl, rfl, rfl, rfl⟩
    · rw [if_neg (by omega), if_neg (by omega), if_neg (by omega), if_neg (by omega), if_neg (by omega)]; exact a3 i (by omega)
  · rw [b45 j]
    show adk _ _ _ _ = adk _ _ _ _
    unfold adk
    by_cases c : j = a + n
    · rw [if_pos c, if_pos c]
    · rw [if_neg c, if_neg c, a4 j (by omega)]
theorem tdq_pc {w : Wd} (hP : 0 ≤ w 43 0 ∧ w 43 0 ≤ 10) (h56 : 0 ≤ w 43 56 ∧ w 43 56 ≤ 10) : PC (f_R_told w) (fun _ u => B10 (u 50 (w 43 8).toNat) (gs (w 43 0) (w 47)) ∧ (∀ t, t ≠ (w 43 8).toNat → u 50 t = w 50 t) ∧ u 43 32 = 0 ∧ u 43 56 = w 43 56 + 1 ∧ ∀ c k, c ≠ 50 → ¬ (c = 43 ∧ (k = 32 ∨ k = 56)) → u c k = w c k) := by
  unfold f_R_told
  refine pc_call (rg_e hP) (fun r1 u2 q => ?_)
  rw [q.1]
  refine pc_gd (fun _ => ?_)
  refine pc_lw (fun u3 e3 => ?_)
  refine pc_lw (fun u4 e4 => ?_)
  refine pc_lw (fun u5 e5 => ?_)
  have t : u4 43 56 = w 43 56 := by rw [e4, st_k (by decide), e3, st_c (by decide)]
  have w1 := w32_sp (u4 43 56 + 1)
  refine pc_some ⟨?_, fun t ht => ?_, ?_, ?_, fun c k h1 h2 => ?_⟩
  · rw [e5, st_c (by decide), e4, st_c (by decide), e3, st_eq]; exact q.2
  · rw [e5, st_c (by decide), e4, st_c (by decide), e3, st_k ht]
  · rw [e5, st_k (by decide), e4, st_eq]
  · rw [e5, st_eq]; omega
  · rw [e5]; unfold st; rw [if_neg (by omega), e4]; unfold st; rw [if_neg (by omega), e3]; unfold st; rw [if_neg (fun e => h1 e.1)]
/-- the reference's side when so many came -/
def RCN (a n : Nat) (pr kn g h : Nat → Int) (w u : Wd) : Prop := (∃ v, RAN a n pr kn g h w v ∧ ∀ c, c = 44 ∨ c = 45 ∨ c = 46 ∨ c = 47 ∨ c = 48 ∨ c = 49 → u c = v c) ∧ u 43 0 = (a : Int) + n ∧ B10 (u 50 (w 43 8).toNat) (gs ((a : Int) + n) (u 47)) ∧ (∀ t, t ≠ (w 43 8).toNat → u 50 t = w 50 t) ∧ u 43 32 = 0 ∧ u 43 56 = w 43 56 + 1 ∧ (u 43 7 = w 43 7 ∧ u 43 8 = w 43 8 ∧ u 43 10 = w 43 10 ∧ u 43 11 = w 43 11) ∧ ∀ c, c = 79 ∨ c = 80 ∨ c = 81 → u c = w c
theorem rcn_fin {a n : Nat} (han : a + n ≤ 10) {pr kn g h : Nat → Int} {w v v2 u : Wd} (hv : RAN a n pr kn g h w v) (e2 : v2 = st v 43 0 ((a : Int) + n)) (q : B10 (u 50 (v2 43 8).toNat) (gs (v2 43 0) (v2 47)) ∧ (∀ t, t ≠ (v2 43 8).toNat → u 50 t = v2 50 t) ∧ u 43 32 = 0 ∧ u 43 56 = v2 43 56 + 1 ∧ ∀ c k, c ≠ 50 → ¬ (c = 43 ∧ (k = 32 ∨ k = 56)) → u c k = v2 c k) : RCN a n pr kn g h w u := by
  have f : ∀ c k, c ≠ 44 → c ≠ 45 → c ≠ 46 → c ≠ 47 → c ≠ 48 → c ≠ 49 → ¬ (c = 43 ∧ k = 0) → v2 c k = w c k := fun c k h1 h2 h3 h4 h5 h6 h7 => by
    rw [e2]; unfold st; rw [if_neg h7]; exact hv.2.2.2 c k h1 h2 h3 h4 h5 h6
  obtain ⟨q1, q2, q3, q4, q5⟩ := q
  have y8 : v2 43 8 = w 43 8 := f 43 8 (by decide) (by decide) (by decide) (by decide) (by decide) (by decide) (by decide)
  have y0 : v2 43 0 = (a : Int) + n := by rw [e2, st_eq]
  have y47 : u 47 = v2 47 := funext fun k => q5 47 k (by decide) (by omega)
  rw [y8] at q1 q2
  rw [y0, ← y47] at q1
  refine ⟨⟨v, hv, fun c hc => funext fun k => ?_⟩, ?_, q1, fun t ht => ?_, q3, ?_, ⟨?_, ?_, ?_, ?_⟩, fun c hc => funext fun k => ?_⟩
  · rw [q5 c k (by omega) (by omega), e2, st_c (by omega)]
  · rw [q5 43 0 (by decide) (by decide)]; exact y0
  · rw [q2 t ht, f 50 t (by decide) (by decide) (by decide) (by decide) (by decide) (by decide) (by omega)]
  · rw [q4, f 43 56 (by decide) (by decide) (by decide) (by decide) (by decide) (by decide) (by decide)]
  · rw [q5 43 7 (by decide) (by decide), f 43 7 (by decide) (by decide) (by decide) (by decide) (by decide) (by decide) (by decide)]
  · rw [q5 43 8 (by decide) (by decide)]; exact y8
  · rw [q5 43 10 (by decide) (by decide), f 43 10 (by decide) (by decide) (by decide) (by decide) (by decide) (by decide) (by decide)]
  · rw [q5 43 11 (by decide) (by decide), f 43 11 (by decide) (by decide) (by decide) (by decide) (by decide) (by decide) (by decide)]
  · rw [q5 c k (by omega) (by omega), f c k (by omega) (by omega) (by omega) (by omega) (by omega) (by omega) (by omega)]
/-- what the reading of lines leaves as it was -/
def KF0 (w0 w : Wd) : Prop := (∀ c k, c ≠ 43 → c ≠ 53 → c ≠ 54 → c ≠ 55 → c ≠ 56 → w c k = w0 c k) ∧ ∀ k, k ≠ 13 → k ≠ 16 → k ≠ 17 → k ≠ 18 → k ≠ 19 → k ≠ 20 → k ≠ 21 → w 43 k = w0 43 k
theorem kf_st {w0 w u : Wd} {c k : Nat} {z : Int} (h : KF0 w0 w) (e : u = st w c k z) (hc : c = 43 ∧ (k = 13 ∨ k = 16 ∨ k = 17 ∨ k = 18 ∨ k = 19 ∨ k = 20 ∨ k = 21)) : KF0 w0 u := by
  refine ⟨fun c' k' h1 h2 h3 h4 h5 => ?_, fun k' h1 h2 h3 h4 h5 h6 h7 => ?_⟩
  · rw [e, st_c (by omega)]; exact h.1 c' k' h1 h2 h3 h4 h5
  · rw [e, hc.1, st_k (by omega)]; exact h.2 k' h1 h2 h3 h4 h5 h6 h7
theorem mS_mem {S : List Nat} {c k : Nat} (h : mS S c k = true) : ∃ x ∈ S, x = c * 100 + 99 ∨ (k < 99 ∧ x = c * 100 + k) := by
  unfold mS at h
  rw [Bool.or_eq_true, Bool.and_eq_true, Nat.blt_eq] at h
  rcases h with h | h
  · exact ⟨_, List.contains_iff_mem.mp h, Or.inl rfl⟩
  · exact ⟨_, List.contains_iff_mem.mp h.2, Or.inr ⟨h.1, rfl⟩⟩
theorem kf_ro {w0 w u : Wd} (h : KF0 w0 w) (g : G md_R_readOne w u) : KF0 w0 u := by
  have key : ∀ c k, ¬ (c = 43 ∧ (k = 20 ∨ k = 21)) → c ≠ 53 → c ≠ 54 → c ≠ 55 → c ≠ 56 → u c k = w c k := by
    intro c k h1 h2 h3 h4 h5
    refine g.2.1 c k ?_
    cases hm : mS md_R_readOne c k with
    | false => rfl
    | true =>
      obtain ⟨x, hx, hx2⟩ := mS_mem hm
      have e : md_R_readOne = [4320, 4321, 5399, 5499, 5599, 5699] := rfl
      rw [e] at hx
      simp only [List.mem_cons, List.not_mem_nil, or_false] at hx
      exfalso
      omega
  refine ⟨fun c k h1 h2 h3 h4 h5 => ?_, fun k h1 h2 h3 h4 h5 h6 h7 => ?_⟩
  · rw [key c k (by omega) h2 h3 h4 h5]; exact h.1 c k h1 h2 h3 h4 h5
  · rw [key 43 k (by omega) (by decide) (by decide) (by decide) (by decide)]; exact h.2 k h1 h2 h3 h4 h5 h6 h7
theorem n132 {a m : Nat} (ham : a + m ≤ 10) {h : Int → Int} {v3 : Int} (x : Wd) (hx : RCt h a m x) (h56 : 0 ≤ x 43 56 ∧ x 43 56 ≤ 10) : ∀ (n : Nat) {w : Wd} (i : Nat), i ≤ m → RAN a i (lpr h a) (lkn h a) (fun i => if lgs h a i = true then 1 else 0) (fun i => if lhi h a i = true then 1 else 0) x w → PC (f_R_land_132 n ((a : Int) + m) v3 ((a : Int) + i) w) (fun _ u => RCN a m (lpr h a) (lkn h a) (fun i => if lgs h a i = true then 1 else 0) (fun i => if lhi h a i = true then 1 else 0) x u) := by
  intro n
  induction n with
  | zero => intros; exact pc_none
  | succ n ih =>
    intro w i hi hR
    rw [f_R_land_132]
    have fo := hR.2.2.2
    refine pc_ite (fun c => ?_) (fun c => ?_)
    · have e : i = m := by omega
      subst e
      refine pc_lw (fun u10 e10 => ?_)
      have y0 : u10 43 0 = (a : Int) + i := by rw [e10, st_eq]
      have y56 : u10 43 56 = x 43 56 := by rw [e10, st_k (by decide)]; exact fo 43 56 (by decide) (by decide) (by decide) (by decide) (by decide) (by decide)
      refine pc_call (tdq_pc (w := u10) (by omega) (by omega)) (fun r11 u12 q => pc_some ?_)
      exact rcn_fin ham hR e10 q
    · have ei : ((a : Int) + i).toNat = a + i := by omega
      refine pc_gd (fun _ => ?_)
      refine pc_gd (fun _ => ?_)
      refine pc_gd (fun _ => ?_)
      refine pc_gd (fun _ => ?_)
      obtain ⟨x1, x2, x3, x4⟩ := hx i (by omega)
      rw [ei] at x1 x2 x3 x4 ⊢
      rw [fo 53 _ (by decide) (by decide) (by decide) (by decide) (by decide) (by decide), fo 54 _ (by decide) (by decide) (by decide) (by decide) (by decide) (by decide), fo 55 _ (by decide) (by decide) (by decide) (by decide) (by decide) (by decide), fo 56 _ (by decide) (by decide) (by decide) (by decide) (by decide) (by decide), x1, x2, x3, x4]
      refine pc_call (ra_pc (i := a + i) (by omega) (by omega) (by cases lhi h a i <;> decide)) (fun r13 u14 q => ?_)
      refine pc_let (fun x15 e15 => ?_)
      rw [wsucc (P := 10) (by omega) (by decide)] at e15
      have ex : x15 = (a : Int) + ((i + 1 : Nat) : Int) := by omega
      rw [ex]
      exact ih (i + 1) (by omega) (ran_s hR q)
theorem rcn_tr {a n : Nat} {pr kn g h : Nat → Int} {w0 x u : Wd} (k : KF0 w0 x) (hr : RCN a n pr kn g h x u) : RCN a n pr kn g h w0 u := by
  obtain ⟨⟨v, ⟨a2, a3, a4, a5⟩, hv⟩, r0, r50, r50o, r32, r56, ⟨r7, r8, r10, r11⟩, rk⟩ := hr
  have k8 : x 43 8 = w0 43 8 := k.2 8 (by decide) (by decide) (by decide) (by decide) (by decide) (by decide) (by decide)
  have row : ∀ c, c ≠ 43 → c ≠ 53 → c ≠ 54 → c ≠ 55 → c ≠ 56 → x c = w0 c := fun c h1 h2 h3 h4 h5 => funext fun j => k.1 c j h1 h2 h3 h4 h5
  -- v is not what it is against w0 in the reader's own cells: make it so
  refine ⟨⟨fun c j => if c = 43 ∨ c = 53 ∨ c = 54 ∨ c = 55 ∨ c = 56 then w0 c j else v c j, ⟨fun j hj => ?_, fun i hi => ?_, fun j hj => ?_, fun c j h1 h2 h3 h4 h5 h6 => ?_⟩, fun c hc => ?_⟩, r0, by rw [← k8]; exact r50, fun t ht => ?_, r32, ?_, ⟨?_, ?_, ?_, ?_⟩, fun c hc => ?_⟩
  · have := a2 j hj
    rw [row 44 (by decide) (by decide) (by decide) (by decide) (by decide), row 46 (by decide) (by decide) (by decide) (by decide) (by decide), row 47 (by decide) (by decide) (by decide) (by decide) (by decide), row 48 (by decide) (by decide) (by decide) (by decide) (by decide), row 49 (by decide) (by decide) (by decide) (by decide) (by decide)] at this
    exact this
  · have := a3 i hi
    rw [k8] at this
    exact this
  · have := a4 j hj
    rw [row 45 (by decide) (by decide) (by decide) (by decide) (by decide)] at this
    exact this
  · dsimp only
    by_cases c1 : c = 43 ∨ c = 53 ∨ c = 54 ∨ c = 55 ∨ c = 56
    · rw [if_pos c1]
    · rw [if_neg c1, a5 c j h1 h2 h3 h4 h5 h6]; exact k.1 c j (by omega) (by omega) (by omega) (by omega) (by omega)
  · rw [hv c hc]
    funext j
    dsimp only
    rw [if_neg (by omega)]
  · rw [r50o t (by rw [k8]; exact ht)]; exact k.1 50 t (by decide) (by decide) (by decide) (by decide) (by decide)
  · rw [r56, k.2 56 (by decide) (by decide) (by decide) (by decide) (by decide) (by decide) (by decide)]
  · rw [r7, k.2 7 (by decide) (by decide) (by decide) (by decide) (by decide) (by decide) (by decide)]
  · rw [r8]; exact k8
  · rw [r10, k.2 10 (by decide) (by decide) (by decide) (by decide) (by decide) (by decide) (by decide)]
  · rw [r11, k.2 11 (by decide) (by decide) (by decide) (by decide) (by decide) (by decide) (by decide)]
  · rw [rk c hc]; exact row c (by omega) (by omega) (by omega) (by omega) (by omega)
/-- so many lines were read: they come, or there is a fault -/
theorem n40z {b w0 : Wd} {a m : Nat} {n0 : Int} {f0 : Nat → Int} (ham : a + m ≤ 10) (n : Nat) {w : Wd} (hG : G md_R_land b w) (hV : RV n0 f0 (a : Int) w) (h21 : w 43 21 = -1) (h56 : 0 ≤ w 43 56 ∧ w 43 56 ≤ 10) (hc : RCt (hR n0 f0) a m w) (hk : KF0 w0 w) : PC (f_R_land_40 n ((a : Int) + m) 0 w) (fun r u => 0 < r → RCN a m (lpr (hR n0 f0) a) (lkn (hR n0 f0) a) (fun i => if lgs (hR n0 f0) a i = true then 1 else 0) (fun i => if lhi (hR n0 f0) a i = true then 1 else 0) w0 u) := by
  cases n with
  | zero => exact pc_none
  | succ n =>
    rw [f_R_land_40]
    refine pc_ite (fun _ => ?_) (fun h => absurd rfl h)
    have a20 : (0 : Int) ≤ w 43 20 ∧ w 43 20 ≤ 80 := hG.1 43 20
    by_cases cc : w 43 18 ≤ w 43 20
    · unfold f_R_land_86
      rw [if_pos cc]
      unfold f_R_land_105
      rw [fine_e, jc_s, if_pos h21]
      refine pc_ite (fun h => absurd h (by decide)) (fun _ => ?_)
      refine pc_let (fun x8 e8 => ?_)
      refine pc_let (fun x9 e9 => ?_)
      have e : x9 = (a : Int) + ((0 : Nat) : Int) := by rw [e9, hV.2.2.2.2]; omega
      rw [e]
      exact pc_w (n132 ham w hc h56 FU 0 (by omega) ran_0) (fun r u q _ => rcn_tr hk q)
    · refine pc_w (r86 (v1 := (a : Int) + m) (by omega) hG h56 (Or.inl (by omega))) (fun r u q h0 => ?_)
      rw [if_pos h21, if_neg cc] at q
      exfalso; omega
theorem n40 {b w0 : Wd} {a : Nat} {n0 : Int} {f0 : Nat → Int} {C0 : Int} (hC : 0 ≤ C0 ∧ C0 ≤ 10) : ∀ (n : Nat) {w : Wd} (j : Nat), a + j ≤ 10 → G md_R_land b w → RV n0 f0 (a : Int) w → w 43 21 = -1 → (0 ≤ w 43 20 ∧ w 43 20 ≤ 76) → w 43 56 = C0 → w 43 20 = lp (hR n0 f0) a j → RCt (hR n0 f0) a j w → KF0 w0 w → PC (f_R_land_40 n ((a : Int) + j) 1 w) (fun r u => 0 < r → (a : Int) + r ≤ 10 ∧ RCN a r.toNat (lpr (hR n0 f0) a) (lkn (hR n0 f0) a) (fun i => if lgs (hR n0 f0) a i = true then 1 else 0) (fun i => if lhi (hR n0 f0) a i = true then 1 else 0) w0 u) := by
  intro n
  induction n with
  | zero => intros; exact pc_none
  | succ n ih =>
    intro w j haj hG h h21 h20 h56 hl hc hk
    rw [f_R_land_40]
    have w1 := w32_sp ((a : Int) + j + 1)
    refine pc_ite (fun h => absurd h (by decide)) (fun _ => ?_)
    rw [fine_e, jc_s, if_pos h21]
    refine pc_ite (fun h => absurd h (by decide)) (fun _ => ?_)
    have stop : ∀ {u : Wd} {x : Int}, G md_R_land b u → RV n0 f0 (a : Int) u → u 43 21 = x → 0 ≤ x → (0 ≤ u 43 20 ∧ u 43 20 ≤ 76) → u 43 56 = C0 → PC (f_R_land_73 (f_R_land_40 n) ((a : Int) + j) u) (fun r u' => 0 < r → (a : Int) + r ≤ 10 ∧ RCN a r.toNat (lpr (hR n0 f0) a) (lkn (hR n0 f0) a) (fun i => if lgs (hR n0 f0) a i = true then 1 else 0) (fun i => if lhi (hR n0 f0) a i = true then 1 else 0) w0 u') := by
      intro u x gu hu ux x0 u20 u56
      unfold f_R_land_73
      refine pc_let (fun x22 e22 => ?_)
      refine pc_call (ps_pc hu 59 u20) (fun r23 u24 q => ?_)
      rcases q with ⟨q0, _⟩ | ⟨_, q2, q3⟩
      · exfalso; omega
      · rw [q2, q3]
        have hne : ¬ u 43 21 = -1 := by omega
        refine pc_w (r40z (v1 := x22) (by omega) n gu (by omega) (Or.inr hne)) (fun r u' p h0 => ?_)
        rw [if_neg hne, ux] at p
        exfalso; omega
    refine pc_ite (fun c1 => ?_) (fun c1 => ?_)
    · refine pc_call (pc_and (pc_ok (s_R_fault (g_self hG) (by omega) h20.1)) (fl_pc w (w 43 20))) (fun r25 u26 q => ?_)
      obtain ⟨⟨_, gy, _⟩, q⟩ := q
      rw [if_pos h21] at q
      have t20 : u26 43 20 = w 43 20 := by rw [q, st_k (by decide)]
      exact stop (g_tr hG gy rfl) (rv_st h q (by decide) (Or.inr (by decide))) (by rw [q, st_eq]) h20.1 (by omega) (by rw [q, st_k (by decide)]; exact h56)
    · refine pc_call (pc_and (pc_ok (s_R_readOne (g_self hG) (by omega) h.1)) (pc_and (rrl (by omega) h h21 h20) (nrl (by omega) (by omega) h h21 h20 hl hc))) (fun r20 u21 q => ?_)
      obtain ⟨⟨_, gy⟩, ⟨hu, q⟩, qc⟩ := q
      have gu : G md_R_land b u21 := g_tr hG gy rfl
      have ku := kf_ro hk gy
      have t56 : u21 43 56 = C0 := (gy.2.1 43 56 rfl).trans h56
      rcases q with ⟨q1, q2, q3⟩ | ⟨q1, q⟩
      · exact stop gu hu q2 h20.1 (by omega) t56
      · have l5 := hR_lt (n := n0) (f := f0) (p := w 43 20) (by omega)
        have b1 := lt_ge (hR n0 f0) ((a : Int) + j) ((a : Int) + j).toNat (w 43 20 + 1)
        have b2 := lt_le (hR_76 n0 f0) (num := (a : Int) + j) ((a : Int) + j).toNat (p := w 43 20 + 1) (by omega) (by omega)
        have b3 := fnl_le (hR_76 n0 f0) (p := lt (hR n0 f0) ((a : Int) + j) ((a : Int) + j).toNat (w 43 20 + 1)) (by omega)
        have b4 := fnl_ge (hR n0 f0) (lt (hR n0 f0) ((a : Int) + j) ((a : Int) + j).toNat (w 43 20 + 1))
        have ee : en (hR n0 f0) ((a : Int) + j) (w 43 20) = fnl (hR n0 f0) (lt (hR n0 f0) ((a : Int) + j) ((a : Int) + j).toNat (w 43 20 + 1)) := rfl
        generalize lt (hR n0 f0) ((a : Int) + j) ((a : Int) + j).toNat (w 43 20 + 1) = x at *
        rcases q with ⟨p1, p2, p3⟩ | ⟨p1, p2, p3⟩
        · have l6 := hR_lt (n := n0) (f := f0) (p := x) (by omega)
          exact stop gu hu p2 (by omega) (by omega) t56
        · have qc2 := qc p2
          unfold f_R_land_73
          refine pc_let (fun x22 e22 => ?_)
          have e22' : x22 = (a : Int) + ((j + 1 : Nat) : Int) := by omega
          rw [e22']
          have y20 : u21 43 20 = en (hR n0 f0) ((a : Int) + j) (w 43 20) := by rw [ee]; exact p3
          refine pc_call (pc_and (pc_ok (s_R_passes (g_self gu) (by decide) (Or.inl hu.1) (by decide))) (ps_pc hu 59 (by omega))) (fun r23 u24 q => ?_)
          obtain ⟨⟨_, gy2, _⟩, q⟩ := q
          rcases q with ⟨_, c2, q2, q3⟩ | ⟨q1', q2, q3⟩
          · have l6 := hR_lt (n := n0) (f := f0) (p := u21 43 20) (by omega)
            rw [q2]
            have t20 : u24 43 20 = u21 43 20 + 1 := by rw [q3, st_eq]
            refine ih (j + 1) (by omega) (g_tr gu gy2 rfl) (rv_st hu q3 (by decide) (Or.inr (by decide))) (by rw [q3, st_k (by decide)]; exact p2) (by omega) (by rw [q3, st_k (by decide)]; exact t56) ?_ ?_ (kf_st ku q3 (by omega))
            · rw [t20, y20, hl]; rfl
            · intro i hi
              rw [q3, st_c (by decide), st_c (by decide), st_c (by decide), st_c (by decide)]
              exact qc2 i hi
          · rw [q2, q3]
            refine pc_w (pc_and (n40z (a := a) (m := j + 1) (by omega) n gu hu p2 (by omega) qc2 ku) (r40z (v1 := (a : Int) + ((j + 1 : Nat) : Int)) (by omega) n gu (by omega) (Or.inl (by omega)))) (fun r u' p h0 => ?_)
            obtain ⟨p1', p2'⟩ := p
            rw [if_pos p2, hu.2.2.2.2] at p2'
            by_cases c3 : u21 43 18 ≤ u21 43 20
            · rw [if_pos c3] at p2'
              have er : r = ((j + 1 : Nat) : Int) := by omega
              have er2 : r.toNat = j + 1 := by omega
              rw [er2]
              exact ⟨by omega, p1' h0⟩
            · rw [if_neg c3] at p2'
              exfalso; omega
theorem lf_R {w : Wd} {a : Nat} (hG : G md_R_land w w) (ha : w 43 0 = a) (h56 : 0 ≤ w 43 56 ∧ w 43 56 ≤ 10) : PC (f_R_land w) (fun r u => 0 < r → (a : Int) + r ≤ 10 ∧ RCN a r.toNat (lpr (hR (w 43 13) (w 51)) a) (lkn (hR (w 43 13) (w 51)) a) (fun i => if lgs (hR (w 43 13) (w 51)) a i = true then 1 else 0) (fun i => if lhi (hR (w 43 13) (w 51)) a i = true then 1 else 0) w u) := by
  unfold f_R_land
  have a0 : (0 : Int) ≤ w 43 0 ∧ w 43 0 ≤ 10 := hG.1 43 0
  refine pc_lw (fun u1 e1 => ?_)
  have g1 : G md_R_land w u1 := g_st hG e1 rfl rfl (show (0 : Int) ≤ 0 ∧ (0 : Int) ≤ 1 by decide)
  have a13 : (0 : Int) ≤ u1 43 13 ∧ u1 43 13 ≤ 80 := g1.1 43 13
  have t13 : u1 43 13 = w 43 13 := by rw [e1, st_k (by decide)]
  have t0 : u1 43 0 = w 43 0 := by rw [e1, st_k (by decide)]
  have t51 : u1 51 = w 51 := by rw [e1]; exact st_row (by decide)
  have k1 : KF0 w u1 := kf_st ⟨fun _ _ _ _ _ _ _ => rfl, fun _ _ _ _ _ _ _ _ => rfl⟩ e1 (by omega)
  have q1 : PC (f_R_begin1_43_51 (u1 43 13) 76 u1) (fun _ u => RV (w 43 13) (w 51) (a : Int) u ∧ u 43 20 = 0 ∧ u 43 21 = -1 ∧ KF0 w u) := by
    unfold f_R_begin1_43_51
    refine pc_lw (fun x1 y1 => ?_)
    refine pc_lw (fun x2 y2 => ?_)
    refine pc_lw (fun x3 y3 => ?_)
    refine pc_lw (fun x4 y4 => ?_)
    refine pc_lw (fun x5 y5 => ?_)
    refine pc_some ⟨⟨?_, ?_, ?_, ?_, ?_⟩, ?_, ?_, ?_⟩
    · rw [y5, st_k (by decide), y4, st_k (by decide), y3, st_k (by decide), y2, st_k (by decide), y1, st_eq]
    · rw [y5, st_k (by decide), y4, st_k (by decide), y3, st_k (by decide), y2, st_eq]; exact t13
    · rw [y5, st_k (by decide), y4, st_k (by decide), y3, st_eq]
    · rw [y5, st_row (by decide), y4, st_row (by decide), y3, st_row (by decide), y2, st_row (by decide), y1, st_row (by decide)]; exact t51
    · rw [y5, st_k (by decide), y4, st_k (by decide), y3, st_k (by decide), y2, st_k (by decide), y1, st_k (by decide), t0]; exact ha
    · rw [y5, st_k (by decide), y4, st_eq]
    · rw [y5, st_eq]
    · exact kf_st (kf_st (kf_st (kf_st (kf_st k1 y1 (by omega)) y2 (by omega)) y3 (by omega)) y4 (by omega)) y5 (by omega)
  refine pc_call (pc_and (pc_ok (s_R_begin1_43_51 (g_self g1) (by omega) (by omega))) q1) (fun r2 u3 q => ?_)
  obtain ⟨⟨_, gy, _⟩, hu, q20, q21, k3⟩ := q
  have g3 : G md_R_land w u3 := g_tr g1 gy rfl
  refine pc_lw (fun u4 e4 => ?_)
  have g4 : G md_R_land w u4 := g_st g3 e4 rfl rfl (show (0 : Int) ≤ 0 ∧ (0 : Int) ≤ 80 by decide)
  have h4 := rv_st hu e4 (by decide) (Or.inr (by decide))
  have t20 : u4 43 20 = 0 := by rw [e4, st_k (by decide)]; exact q20
  have t21 : u4 43 21 = -1 := by rw [e4, st_k (by decide)]; exact q21
  have t56 : u4 43 56 = w 43 56 := by rw [e4, st_k (by decide), gy.2.1 43 56 rfl, e1, st_k (by decide)]
  refine pc_ite (fun c => pc_some (fun h0 => by omega)) (fun c => ?_)
  refine pc_let (fun x5 e5 => ?_)
  have ex : x5 = (a : Int) + ((0 : Nat) : Int) := by rw [e5, h4.2.2.2.2]; omega
  rw [ex]
  exact n40 h56 FU 0 (by omega) g4 h4 t21 (by omega) t56 t20 (fun i hi => by omega) (kf_st k3 e4 (by omega))
