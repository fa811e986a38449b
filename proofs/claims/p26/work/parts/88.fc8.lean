/-! WEEKS: both answer alike -/
def tcc (c k : Nat) : Bool := !(c == 3 || c == 4 || c == 52 || (c == 43 && (k == 15 || k == 16)))
def tcr (c : Nat) : Bool := !(c == 3 || c == 4 || c == 52 || c == 43)
theorem tcc_t {c k : Nat} (h : tcc c k = true) : (c ≠ 3 ∧ c ≠ 4) ∧ c ≠ 52 ∧ ¬ (c = 43 ∧ (k = 15 ∨ k = 16)) := by
  unfold tcc at h
  simp only [Bool.not_eq_true', Bool.or_eq_false_iff, Bool.and_eq_false_iff, beq_eq_false_iff_ne] at h
  obtain ⟨⟨⟨h1, h2⟩, h3⟩, h4⟩ := h
  refine ⟨⟨h1, h2⟩, h3, fun ⟨e, hk⟩ => ?_⟩
  rcases h4 with e2 | e2
  · exact e2 e
  · rcases hk with hk | hk
    · exact e2.1 hk
    · exact e2.2 hk
theorem tcr_t {c : Nat} (h : tcr c = true) (k : Nat) : tcc c k = true := by
  unfold tcr at h
  unfold tcc
  simp only [Bool.not_eq_true', Bool.or_eq_false_iff, beq_eq_false_iff_ne] at h
  obtain ⟨⟨⟨h1, h2⟩, h3⟩, h4⟩ := h
  simp only [Bool.not_eq_true', Bool.or_eq_false_iff, Bool.and_eq_false_iff, beq_eq_false_iff_ne]
  exact ⟨⟨⟨h1, h2⟩, h3⟩, Or.inl h4⟩
theorem er_tell {a w a' u : Wd} (h : ER a w) (hE : ∀ c, c ≠ 3 → c ≠ 4 → u c = w c) (hR : ∀ c k, c ≠ 52 → ¬ (c = 43 ∧ (k = 15 ∨ k = 16)) → a' c k = a c k) : ER a' u := by
  have hc : ∀ c k, tcc c k = true → mx u a' c k = mx w a c k := fun c k hk => by
    have := tcc_t hk
    unfold mx
    by_cases z : c < 43
    · rw [if_pos z, if_pos z, hE c this.1.1 this.1.2]
    · rw [if_neg z, if_neg z, hR c k this.2.1 this.2.2]
  have hr : ∀ c, tcr c = true → mx u a' c = mx w a c := fun c hk => funext fun k => hc c k (tcr_t hk k)
  exact ⟨fc_fr h.1 (fr_of tcc hc tcr hr (by decide) (by decide)), ru_fr h.2.1 (fr_of tcc hc tcr hr (by decide) (by decide)), cb_fr h.2.2 (fr_of tcc hc tcr hr (by decide) (by decide))⟩
theorem pc_eq (o : Option (Int × Wd)) : PC o (fun r u => o = some (r, u)) := fun _ _ e => e
/-- nothing of the reference's part is changed, nothing of the class's -/
theorem g_hi {S : List Nat} {b u : Wd} (h : G S b u) (hS : (S.all fun x => Nat.blt x 4300) = true) : ∀ c, 43 ≤ c → u c = b c := by
  intro c hc
  funext k
  refine h.2.1 c k (mS_ar ?_ k)
  rw [List.all_eq_true]
  intro x hx
  have := List.all_eq_true.mp hS x hx
  have h2 : x < 4300 := Nat.le_of_ble_eq_true this
  rw [Bool.or_eq_true]
  exact Or.inl (Nat.ble_eq_true_of_le (by omega))
theorem g_lo {S : List Nat} {b u : Wd} (h : G S b u) (hS : (S.all fun x => Nat.blt 4299 x) = true) : ∀ c, c < 43 → u c = b c := by
  intro c hc
  funext k
  refine h.2.1 c k (mS_ar ?_ k)
  rw [List.all_eq_true]
  intro x hx
  have := List.all_eq_true.mp hS x hx
  have h2 : 4299 < x := Nat.le_of_ble_eq_true this
  rw [Bool.or_eq_true]
  exact Or.inr (Nat.ble_eq_true_of_le (by omega))
theorem mx_e {w u : Wd} (h : ∀ c, 43 ≤ c → u c = w c) : mx w u = w := by
  funext c
  unfold mx
  by_cases z : c < 43
  · rw [if_pos z]
  · rw [if_neg z, h c (by omega)]
theorem mx_r {w u : Wd} (h : ∀ c, c < 43 → u c = w c) : mx w u = u := by
  funext c
  unfold mx
  by_cases z : c < 43
  · rw [if_pos z, h c z]
  · rw [if_neg z]
theorem rs_cb {w : Wd} (h : RS w) : CBd w := by
  have k := rs_kn h
  refine ⟨h.1.1 43 0, fun j => h.1.1 44 j, fun j => h.1.1 6 j, fun j hj => ?_, h.1.1 43 8, (h.1.1 43 32).1, h.2.1.2.2.2.2⟩
  exact h.1.1 45 j
def LU (w : Wd) : Prop := LF w ∧ RU w
theorem lu_er {w u : Wd} (h : LU w) (hR : ∀ c, 43 ≤ c → u c = w c) : ER u w := by
  unfold ER
  rw [mx_e hR]
  exact ⟨h.1.2, h.2, rs_cb h.1.1⟩
theorem er_lu {w u : Wd} (h : ER u w) (hE : ∀ c, c < 43 → u c = w c) (hS : RS u) : LU u := by
  unfold ER at h
  rw [mx_r hE] at h
  exact ⟨⟨hS, h.1⟩, h.2.1⟩
/-- who is there: the same for both -/
theorem er_gs {a w : Wd} (h : ER a w) : PC (f_F_guests w) (fun r u => u = w ∧ PC (f_R_guests a) (fun r' u' => u' = a ∧ r = r' ∧ B10 r (gs (a 43 0) (a 47)))) := by
  have xW : WH (w 5 4) (a 47) (a 43 0) := h.1.2.2.2.1
  refine pc_w (eg_e xW) (fun r u q => ⟨q.1, ?_⟩)
  exact pc_w (rg_e h.2.2.1) (fun r' u' q' => ⟨q'.1, b10_eq q.2 q'.2 (fun _ _ => rfl), q.2⟩)
theorem nt2 (r v : Int) (w : Wd) : PC (f_N_tell2 r v w) (fun _ u => ∀ c, c ≠ 3 → c ≠ 4 → u c = w c) := by
  have put1 : ∀ (x : Int) (w : Wd), PC (f_N_put x w) (fun _ u => ∀ c, c ≠ 3 → c ≠ 4 → u c = w c) := fun x w => by
    unfold f_N_put
    refine pc_ite (fun _ => pc_some (fun _ _ _ => rfl)) (fun _ => pc_gd (fun _ => pc_lw (fun u1 e1 => pc_lw (fun u2 e2 => pc_some (fun c h3 h4 => by rw [e2, st_row h3, e1, st_row h4])))))
  unfold f_N_tell2 f_N_tell1 f_N_clear
  refine pc_call (P := fun _ u => ∀ c, c ≠ 3 → c ≠ 4 → u c = w c) ?_ (fun r1 u2 q => ?_)
  · refine pc_call (P := fun _ u => ∀ c, c ≠ 3 → c ≠ 4 → u c = w c) (pc_lw (fun u1 e1 => pc_some (fun c h3 _ => by rw [e1, st_row h3]))) (fun r1 u2 q => ?_)
    refine pc_call (put1 r u2) (fun r3 u4 q2 => pc_some (fun c h3 h4 => (q2 c h3 h4).trans (q c h3 h4)))
  · refine pc_call (put1 v u2) (fun r3 u4 q2 => pc_some (fun c h3 h4 => (q2 c h3 h4).trans (q c h3 h4)))
theorem rt1 (v : Int) (w : Wd) : PC (f_R_tell v w) (fun _ u => ∀ c k, c ≠ 52 → ¬ (c = 43 ∧ (k = 15 ∨ k = 16)) → u c k = w c k) := by
  unfold f_R_tell
  refine pc_gd (fun _ => pc_lw (fun u1 e1 => pc_lw (fun u2 e2 => pc_some (fun c k h52 h => ?_))))
  rw [e2]; unfold st; rw [if_neg (by omega), e1]; unfold st; rw [if_neg (fun e => h52 e.1)]
theorem goes_end {a w : Wd} {k v3 v2 : Int} (h : ER a w) : PC (f_E_goes_75 k v3 w) (fun r u => PC (f_R_goes_60 v2 k a) (fun r' a' => r = r' ∧ ER a' u)) := by
  unfold f_E_goes_75
  refine pc_call (er_gs h) (fun r3 u4 q => ?_)
  rw [q.1]
  refine pc_call (nt2 r3 v3 w) (fun r5 u6 y => pc_some ?_)
  unfold f_R_goes_60
  refine pc_lw (fun u5 e5 => ?_)
  have o5 : ∀ c k, c ≠ 52 → ¬ (c = 43 ∧ (k = 15 ∨ k = 16)) → u5 c k = a c k := fun c k _ hk => by
    rw [e5]; unfold st; rw [if_neg (by omega)]
  refine pc_call (rg_e (w := u5) (by rw [o5 43 0 (by decide) (by decide)]; exact h.2.2.1)) (fun r6 u7 z => ?_)
  rw [z.1]
  refine pc_call (rt1 r6 u5) (fun r8 u9 z2 => ?_)
  refine pc_call (rt1 _ u9) (fun r10 u11 z3 => pc_some ⟨rfl, ?_⟩)
  exact er_tell h y (fun c k h52 hk => (z3 c k h52 hk).trans ((z2 c k h52 hk).trans (o5 c k h52 hk)))
theorem goes_2 {v1 V : Int} (hv : v1 ≤ 60) : ∀ (n m : Nat) {w a : Wd} {k v3 : Int}, ER a w → v3 = w32 (a 43 7 - V) → 0 ≤ k → PC (f_E_goes_13 n v1 k v3 w) (fun r u => PC (f_R_goes_24 m v1 V k a) (fun r' a' => r = r' ∧ ER a' u)) := by
  intro n
  induction n with
  | zero => intros; exact pc_none
  | succ n ih =>
    intro m w a k v3 h e3 h0
    have x15 : w 15 3 = a 43 8 := h.1.2.2.2.2.1.2.1
    have x8 : 0 ≤ a 43 8 ∧ a 43 8 ≤ 60 := h.2.2.2.2.2.2.1
    cases m with
    | zero =>
      intro r u _
      exact pc_none
    | succ m =>
      rw [f_E_goes_13, f_R_goes_24, x15]
      refine pc_ite (fun z => ?_) (fun z => ?_)
      · refine pc_w (goes_end (v2 := V) h) (fun r u q => ?_)
        exact pc_ite (fun _ => q) (fun z2 => absurd z z2)
      refine pc_ite (fun z1 => ?_) (fun z1 => ?_)
      · refine pc_w (goes_end (v2 := V) h) (fun r u q => ?_)
        refine pc_ite (fun z2 => absurd z2 z) (fun _ => ?_)
        exact pc_ite (fun _ => q) (fun z2 => absurd z1 z2)
      refine pc_call (er_gs h) (fun r7 u8 q => ?_)
      rw [q.1]
      have hin : ∀ {Q : Int → Wd → Prop}, (r7 = 0 → PC (f_R_goes_60 V k a) Q) → (r7 ≠ 0 → PC (jcall (f_R_findChoices a) fun r14 u15 => jcall (f_R_goWeek u15) fun r16 u17 => jlet (w32 (k + 1)) fun x18 => f_R_goes_24 m v1 V x18 u17) Q) → PC (if v1 ≤ k then f_R_goes_60 V k a else if (60 : Int) ≤ (a 43 8) then f_R_goes_60 V k a else jcall (f_R_guests a) fun r12 u13 => if r12 = 0 then f_R_goes_60 V k u13 else jcall (f_R_findChoices u13) fun r14 u15 => jcall (f_R_goWeek u15) fun r16 u17 => jlet (w32 (k + 1)) fun x18 => f_R_goes_24 m v1 V x18 u17) Q := by
        intro Q q1 q2
        refine pc_ite (fun z2 => absurd z2 z) (fun _ => ?_)
        refine pc_ite (fun z2 => absurd z2 z1) (fun _ => ?_)
        refine pc_call q.2 (fun r12 u13 y => ?_)
        rw [y.1, ← y.2.1]
        exact pc_ite q1 q2
      refine pc_ite (fun z2 => ?_) (fun z2 => ?_)
      · refine pc_w (goes_end (v2 := V) h) (fun r u q3 => ?_)
        exact hin (fun _ => q3) (fun c => absurd z2 c)
      · refine pc_call (pc_eq (f_P_follow (w 15 3) w)) (fun r9 u10 eF => ?_)
        refine pc_call (pc_eq (f_E_pass u10)) (fun r11 u12 eP => ?_)
        refine pc_let (fun x13 e13 => ?_)
        refine pc_let (fun x14 e14 => ?_)
        intro r u eL
        refine hin (fun c => absurd c z2) (fun _ => ?_)
        refine pc_call (pc_eq (f_R_findChoices a)) (fun r14 u15 eC => ?_)
        refine pc_call (pc_eq (f_R_goWeek u15)) (fun r16 u17 eG => ?_)
        refine pc_let (fun x18 e18 => ?_)
        obtain ⟨hp1, hp2, hp3, _⟩ := er_plan h _ _ _ _ eF eC
        have g8 : u15 43 8 = a 43 8 := hp3 43 8 (by decide) (by decide)
        have g7 : u15 43 7 = a 43 7 := hp3 43 7 (by decide) (by decide)
        obtain ⟨er, hq1, hq2, hq3⟩ := er_pass hp1 hp2 (by omega) _ _ _ _ eP eG
        have ek : w32 (k + 1) = k + 1 := w32_id (by omega)
        rw [ek] at e14 e18
        rw [e18]
        rw [e14] at eL
        refine ih m hq1 ?_ (by omega) r u eL
        rw [e13, e3, hq2, g7, er, w32_w]
        have := w32_w (a 43 7 + r16) (-V)
        rw [show w32 (a 43 7 + r16) - V = w32 (a 43 7 + r16) + -V by omega, this]
        congr 1
        omega
theorem k_goes {w : Wd} {v1 : Int} (h : LU w) (i_v1 : ((-2147483648 : Int) ≤ v1 ∧ v1 ≤ 2147483647)) : OK (f_E_goes v1 w) (fun r1 u1 => OK (f_R_goes v1 u1) (fun r2 u2 => LU u2 ∧ r1 = r2)) := by
  obtain ⟨r1, u1, eE, g1, s1⟩ := e_E_goes h.1.1 i_v1
  refine ⟨r1, u1, eE, ?_⟩
  obtain ⟨r2, u2, eR, g2, s2, _⟩ := e_R_goes s1 i_v1
  refine ⟨r2, u2, eR, ?_⟩
  have h1 := lu_er h (g_hi g1 (by decide))
  have key : PC (f_E_goes v1 w) (fun r u => PC (f_R_goes v1 u1) (fun r' a' => r = r' ∧ ER a' u)) := by
    unfold f_E_goes f_R_goes
    have hst : ER (st u1 43 16 0) w := er_tell h1 (fun _ _ _ => rfl) (fun c k _ hk => by unfold st; rw [if_neg (by omega)])
    unfold f_E_isWeek f_R_in
    by_cases c1 : v1 < 0
    · rw [if_pos c1, jc_s, if_pos rfl]
      refine pc_some (pc_lw (fun y1 ey => ?_))
      rw [if_pos c1, jc_s, if_pos rfl, ey]
      exact pc_some ⟨rfl, hst⟩
    · rw [if_neg c1]
      by_cases c2 : 60 < v1
      · rw [if_pos c2, jc_s, if_pos rfl]
        refine pc_some (pc_lw (fun y1 ey => ?_))
        rw [if_neg c1, if_pos c2, jc_s, if_pos rfl, ey]
        exact pc_some ⟨rfl, hst⟩
      · rw [if_neg c2, jc_s, if_neg (by decide)]
        refine pc_w (goes_2 (v1 := v1) (V := u1 43 7) (by omega) FU FU (k := 0) (v3 := 0) hst ?_ (by decide)) (fun r u q => ?_)
        · show (0 : Int) = w32 (u1 43 7 - u1 43 7)
          rw [show u1 43 7 - u1 43 7 = 0 by omega]
          exact (w32_id (by decide)).symm
        · refine pc_lw (fun y1 ey => ?_)
          rw [if_neg c1, if_neg c2, jc_s, if_neg (by decide), ey]
          refine pc_let (fun x4 e4 => ?_)
          rw [e4]
          exact q
  obtain ⟨er, hf⟩ := key r1 u1 eE r2 u2 eR
  exact ⟨er_lu hf (g_lo g2 (by decide)) s2, er⟩
/-! ONE's choice -/
theorem who_pc {P v1 : Int} {bg : Nat → Int} {m : Nat} {w : Wd} (hL : PLm P bg m w) (hm : m ≤ 10) (hv : 0 ≤ v1 ∧ v1 < P) : ∀ (n : Nat) {v2 : Int}, 0 ≤ v2 → v2 ≤ m → (∀ i : Nat, (i : Int) < v2 → w 13 i ≠ v1) → PC (f_P_whom_2 n v1 v2 w) (fun r u => u = w ∧ r = bg v1.toNat) := by
  intro n
  induction n with
  | zero => intros; exact pc_none
  | succ n ih =>
    intro v2 i0 i1 hn
    rw [f_P_whom_2, hL.1]
    refine pc_ite (fun z => pc_some ⟨rfl, ?_⟩) (fun z => ?_)
    · by_cases c : bg v1.toNat = -1
      · exact c.symm
      · obtain ⟨i, hi, e⟩ := hL.2.2.2.1 v1.toNat (by omega) c
        exact absurd (by omega) (hn i (by omega))
    · refine pc_gd (fun _ => ?_)
      refine pc_ite (fun e => ?_) (fun e => ?_)
      · refine pc_gd (fun _ => pc_some ⟨rfl, ?_⟩)
        have := (hL.2.2.1 v2.toNat (by omega)).2.2
        rw [e] at this
        exact this.symm
      · refine pc_let (fun x1 e1 => ?_)
        rw [wsucc (P := 10) (by omega) (by omega)] at e1
        rw [e1]
        refine ih (by omega) (by omega) (fun i hi => ?_)
        by_cases c : i = v2.toNat
        · rw [c]; exact e
        · exact hn i (by omega)
theorem k_picks {w : Wd} {v1 : Int} (h : LU w) (i_v1 : ((-2147483648 : Int) ≤ v1 ∧ v1 ≤ 2147483647)) : OK (f_E_picks v1 w) (fun r1 u1 => OK (f_R_picks v1 u1) (fun r2 u2 => LU u2 ∧ r1 = r2)) := by
  obtain ⟨r1, u1, eE, g1, s1⟩ := e_E_picks h.1.1 i_v1
  refine ⟨r1, u1, eE, ?_⟩
  obtain ⟨r2, u2, eR, g2, s2⟩ := e_R_picks s1 i_v1
  refine ⟨r2, u2, eR, ?_⟩
  have h1 := lu_er h (g_hi g1 (by decide))
  have hst : ER (st u1 43 16 0) w := er_tell h1 (fun _ _ _ => rfl) (fun c k _ hk => by unfold st; rw [if_neg (by omega)])
  have x0 : 0 ≤ st u1 43 16 0 43 0 ∧ st u1 43 16 0 43 0 ≤ 10 := hst.2.2.1
  have key : PC (f_E_picks v1 w) (fun r u => PC (f_R_picks v1 u1) (fun r' a' => r = r' ∧ ER a' u)) := by
    unfold f_E_picks f_R_picks
    have xW : WH (w 5 4) (st u1 43 16 0 47) (st u1 43 16 0 43 0) := hst.1.2.2.2.1
    -- the reference finds no GUEST
    have no : ¬ (0 ≤ v1 ∧ v1 < st u1 43 16 0 43 0 ∧ gst (st u1 43 16 0 47 v1.toNat) = true) → PC (jlw (st u1 43 16 0) fun u1 => jcall (f_R_isOne v1 u1) fun r2 u3 => if r2 = 0 then some ((-1), u3) else jgd ((0 : Int) ≤ v1 ∧ v1 < 10) <| jcall (f_R_isGuest (u3 47 v1.toNat) u3) fun r4 u5 => if r4 = 0 then some ((-1), u5) else jcall (f_R_findChoices u5) fun r6 u7 => jgd ((0 : Int) ≤ v1 ∧ v1 < 10) <| if (u7 58 v1.toNat) = (-1) then some ((-2), u7) else jgd ((0 : Int) ≤ v1 ∧ v1 < 10) <| some (u7 58 v1.toNat, u7)) (fun r' a' => -1 = r' ∧ ER a' w) := fun hn => by
      refine pc_lw (fun y1 ey => ?_)
      rw [ey]
      refine pc_call (io_pc v1 (st u1 43 16 0) x0) (fun q3 q4 z => ?_)
      rw [z.1, z.2]
      unfold hd
      by_cases c : 0 ≤ v1 ∧ v1 < st u1 43 16 0 43 0
      · rw [if_pos c]
        refine pc_ite (fun e => absurd e (by decide)) (fun _ => ?_)
        refine pc_gd (fun _ => ?_)
        rw [isG_e, jc_s]
        cases hb : gst (st u1 43 16 0 47 v1.toNat) with
        | true => exact absurd ⟨c.1, c.2, hb⟩ hn
        | false =>
          refine pc_ite (fun _ => pc_some ⟨rfl, hst⟩) (fun e => absurd rfl e)
      · rw [if_neg c]
        exact pc_ite (fun _ => pc_some ⟨rfl, hst⟩) (fun e => absurd rfl e)
    refine pc_call (eg_e xW) (fun q1 q2 y => ?_)
    rw [y.1]
    by_cases c0 : 0 ≤ v1 ∧ v1 < st u1 43 16 0 43 0 ∧ gst (st u1 43 16 0 47 v1.toNat) = true
    · have hin : inP (st u1 43 16 0 43 0) v1.toNat = true := decide_eq_true (by omega)
      rw [has_10 w y.2 (by omega), show gs (st u1 43 16 0 43 0) (st u1 43 16 0 47) v1.toNat = true from by unfold gs; rw [hin, c0.2.2]; rfl, jc_s]
      refine pc_ite (fun e => absurd e (by decide)) (fun _ => ?_)
      refine pc_call (pc_eq (f_P_follow (w 15 3) w)) (fun q3 q4 eF => ?_)
      intro r u eL
      refine pc_lw (fun y1 ey => ?_)
      rw [ey]
      refine pc_call (io_pc v1 (st u1 43 16 0) x0) (fun q5 q6 z => ?_)
      rw [z.1, z.2, show hd (st u1 43 16 0 43 0) v1 = 1 from if_pos ⟨c0.1, c0.2.1⟩]
      refine pc_ite (fun e => absurd e (by decide)) (fun _ => ?_)
      refine pc_gd (fun _ => ?_)
      rw [isG_e, c0.2.2, jc_s]
      refine pc_ite (fun e => absurd e (by decide)) (fun _ => ?_)
      refine pc_call (pc_eq (f_R_findChoices (st u1 43 16 0))) (fun q7 q8 eC => ?_)
      obtain ⟨p1, ⟨m, p2, p3, p4⟩, p5, _⟩ := er_plan hst _ _ _ _ eF eC
      have e0 : q8 43 0 = st u1 43 16 0 43 0 := p5 43 0 (by decide) (by decide)
      have hw : PC (f_P_whom v1 q4) (fun r u => u = q4 ∧ r = q8 58 v1.toNat) := by
        unfold f_P_whom
        exact who_pc p3 p2 (by rw [e0]; exact ⟨c0.1, c0.2.1⟩) FU (by decide) (by omega) (fun i hi => by omega)
      have := pc_call (Q := fun r u => u = q4 ∧ r = if q8 58 v1.toNat = -1 then -2 else q8 58 v1.toNat) hw (fun a1 a2 a3 => by
        rw [a3.1, a3.2]
        by_cases cc : q8 58 v1.toNat = -1
        · rw [if_pos cc, if_pos cc]; exact pc_some ⟨rfl, rfl⟩
        · rw [if_neg cc, if_neg cc]; exact pc_some ⟨rfl, rfl⟩) r u eL
      rw [this.1, this.2]
      refine pc_gd (fun _ => ?_)
      by_cases cc : q8 58 v1.toNat = -1
      · rw [if_pos cc, if_pos cc]; exact pc_some ⟨rfl, p1⟩
      · rw [if_neg cc, if_neg cc]
        exact pc_gd (fun _ => pc_some ⟨rfl, p1⟩)
    · have hz : f_E_has q1 v1 w = some (0, w) := by
        by_cases c1 : 0 ≤ v1 ∧ v1 < 10
        · rw [has_10 w y.2 c1]
          have : gs (st u1 43 16 0 43 0) (st u1 43 16 0 47) v1.toNat = false := by
            cases cg : gs (st u1 43 16 0 43 0) (st u1 43 16 0 47) v1.toNat with
            | false => rfl
            | true =>
              unfold gs at cg
              rw [Bool.and_eq_true] at cg
              have := inP_t cg.1
              exact absurd ⟨c1.1, by omega, cg.2⟩ c0
          rw [this]; rfl
        · exact has_o w c1
      rw [hz, jc_s, if_pos rfl]
      exact pc_some (no c0)
  obtain ⟨er, hf⟩ := key r1 u1 eE r2 u2 eR
  exact ⟨er_lu hf (g_lo g2 (by decide)) s2, er⟩
