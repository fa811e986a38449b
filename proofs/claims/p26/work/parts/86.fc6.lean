/-! BOTH, SIDE BY SIDE: the class's part of one world and the reference's of another -/
def mx (w a : Wd) (c : Nat) : Nat → Int := if c < 43 then w c else a c
def CBd (m : Wd) : Prop := (0 ≤ m 43 0 ∧ m 43 0 ≤ 10) ∧ (∀ j, 0 ≤ m 44 j ∧ m 44 j ≤ 9) ∧ (∀ j, 0 ≤ m 6 j ∧ m 6 j ≤ 9) ∧ (∀ j : Nat, (j : Int) < m 43 0 → 0 ≤ m 45 j ∧ m 45 j ≤ 1023) ∧ (0 ≤ m 43 8 ∧ m 43 8 ≤ 60) ∧ 0 ≤ m 43 32 ∧ m 43 32 ≤ m 43 8
def ER (a w : Wd) : Prop := FC (mx w a) ∧ RU (mx w a) ∧ CBd (mx w a)
theorem fr_of {P : List (Nat × Nat)} {A : List Nat} {w u : Wd} (cc : Nat → Nat → Bool) (h : ∀ c k, cc c k = true → u c k = w c k) (cr : Nat → Bool) (hr : ∀ c, cr c = true → u c = w c) (hP : P.all (fun p => cc p.1 p.2) = true) (hA : A.all (fun c => cr c) = true) : FR P A w u :=
  ⟨fun p hp => h p.1 p.2 (List.all_eq_true.mp hP p hp), fun c hc => hr c (List.all_eq_true.mp hA c hc)⟩
def cbP : List (Nat × Nat) := [(43, 0), (43, 8), (43, 32)]
def cbA : List Nat := [6, 44, 45]
theorem cb_fr {w u : Wd} (h : CBd w) (f : FR cbP cbA w u) : CBd u := by
  have q0 : u 43 0 = w 43 0 := f.1 (43, 0) (by decide)
  have q8 : u 43 8 = w 43 8 := f.1 (43, 8) (by decide)
  have q32 : u 43 32 = w 43 32 := f.1 (43, 32) (by decide)
  unfold CBd
  rw [q0, q8, q32, f.2 6 (by decide), f.2 44 (by decide), f.2 45 (by decide)]
  exact h
/-- the plain frame of choosing -/
def pcc (c k : Nat) : Bool := !(c == 12 || c == 13 || c == 14 || c == 23 || c == 58 || (c == 43 && ((Nat.ble 17 k && Nat.ble k 21) || k == 28 || k == 29)))
def pcr (c : Nat) : Bool := !(c == 12 || c == 13 || c == 14 || c == 23 || c == 58 || c == 43)
theorem pcc_t {c k : Nat} (h : pcc c k = true) : (c ≠ 12 ∧ c ≠ 13 ∧ c ≠ 14 ∧ c ≠ 23) ∧ c ≠ 58 ∧ ¬ (c = 43 ∧ ((17 ≤ k ∧ k ≤ 21) ∨ k = 28 ∨ k = 29)) := by
  unfold pcc at h
  simp only [Bool.not_eq_true', Bool.or_eq_false_iff, Bool.and_eq_false_iff, beq_eq_false_iff_ne] at h
  obtain ⟨⟨⟨⟨⟨h1, h2⟩, h3⟩, h4⟩, h5⟩, h6⟩ := h
  refine ⟨⟨h1, h2, h3, h4⟩, h5, fun ⟨e, hk⟩ => ?_⟩
  rcases h6 with e2 | e2
  · exact e2 e
  · obtain ⟨⟨e3, e4⟩, e5⟩ := e2
    rcases hk with hk | hk | hk
    · rcases e3 with e3 | e3
      · rw [Nat.ble_eq_true_of_le hk.1] at e3; cases e3
      · rw [Nat.ble_eq_true_of_le hk.2] at e3; cases e3
    · exact e4 hk
    · exact e5 hk
theorem pcr_t {c : Nat} (h : pcr c = true) : (c ≠ 12 ∧ c ≠ 13 ∧ c ≠ 14 ∧ c ≠ 23) ∧ c ≠ 58 ∧ c ≠ 43 := by
  unfold pcr at h
  simp only [Bool.not_eq_true', Bool.or_eq_false_iff, beq_eq_false_iff_ne] at h
  obtain ⟨⟨⟨⟨⟨h1, h2⟩, h3⟩, h4⟩, h5⟩, h6⟩ := h
  exact ⟨⟨h1, h2, h3, h4⟩, h5, h6⟩
theorem er_choose {a w a' u : Wd} (h : ER a w) (hE : EXp w u) (hR : RXp a a') : ER a' u := by
  have hc : ∀ c k, pcc c k = true → mx u a' c k = mx w a c k := fun c k hk => by
    have := pcc_t hk
    unfold mx
    by_cases z : c < 43
    · rw [if_pos z, if_pos z, hE c this.1.1 this.1.2.1 this.1.2.2.1 this.1.2.2.2]
    · rw [if_neg z, if_neg z, hR c k this.2.1 this.2.2]
  have hr : ∀ c, pcr c = true → mx u a' c = mx w a c := fun c hk => by
    have := pcr_t hk
    unfold mx
    by_cases z : c < 43
    · rw [if_pos z, if_pos z, hE c this.1.1 this.1.2.1 this.1.2.2.1 this.1.2.2.2]
    · rw [if_neg z, if_neg z]
      exact funext fun k => hR c k this.2.1 (fun e => this.2.2 e.1)
  exact ⟨fc_fr h.1 (fr_of pcc hc pcr hr (by decide) (by decide)), ru_fr h.2.1 (fr_of pcc hc pcr hr (by decide) (by decide)), cb_fr h.2.2 (fr_of pcc hc pcr hr (by decide) (by decide))⟩
/-- a plan as both have it -/
def PLN (a w : Wd) : Prop := ∃ m : Nat, m ≤ 10 ∧ PLm (a 43 0) (a 58) m w ∧ GWK (a 43 0) (a 47) (a 46) (a 45) (a 58)
theorem mvs_eq {P : Int} {b1 b2 : Nat → Int} (e : ∀ k : Nat, (k : Int) < P → b1 k = b2 k) (q : Nat) : mvs P b1 q = mvs P b2 q := by
  unfold mvs bng
  rw [brn_eq (fun k hk => e k (by omega))]
  by_cases c : (q : Int) < P
  · rw [e q c]
  · rw [show inP P q = false from decide_eq_false c]; rfl
theorem plm_bg {P : Int} {b1 b2 : Nat → Int} {m : Nat} {w : Wd} (h : PLm P b1 m w) (e : ∀ k : Nat, (k : Int) < P → b1 k = b2 k) : PLm P b2 m w := by
  refine ⟨h.1, b10_w h.2.1 (fun k _ => mvs_eq e k), fun i hi => ?_, fun a ha hn => ?_, h.2.2.2.2⟩
  · have := h.2.2.1 i hi
    refine ⟨this.1, this.2.1, ?_⟩
    rw [← e (w 13 i).toNat (by omega)]
    exact this.2.2
  · rw [← e a ha] at hn
    exact h.2.2.2.1 a ha hn
theorem gwk_bg {P : Int} {s h kn b1 b2 : Nat → Int} (hg : GWK P s h kn b1) (e : ∀ k : Nat, (k : Int) < P → b1 k = b2 k) : GWK P s h kn b2 := by
  refine ⟨fun i j hi hj e2 hn => ?_, fun i hi => ?_⟩
  · rw [← e i (by omega), ← e j (by omega)] at e2
    rw [← e i (by omega)] at hn
    exact hg.1 i j hi hj e2 hn
  · rw [← e i hi]; exact hg.2 i hi
theorem er_plan {a w : Wd} (h : ER a w) : ∀ r u r' a', f_P_follow (w 15 3) w = some (r, u) → f_R_findChoices a = some (r', a') → ER a' u ∧ PLN a' u ∧ RXp a a' ∧ EXp w u := by
  intro r u r' a' hE hR
  obtain ⟨hF, hU, hC⟩ := h
  obtain ⟨fCO, fPP, fHB, fWH, fN, f16, fSN, fUB, fK1, fK2, fg, fs⟩ := hF
  obtain ⟨c, hc1, hc2, hc3, hc4⟩ := ruc_e hU
  have x0 : 0 ≤ a 43 0 ∧ a 43 0 ≤ 10 := hC.1
  have x3 : w 5 3 = a 43 0 := fCO.2.1
  have x7 : w 5 7 = a 43 10 := fCO.2.2.1.1
  have x8 : w 5 8 = a 43 11 := fCO.2.2.1.2
  have xg : 1 ≤ a 43 10 ∧ a 43 10 ≤ 3 := fg
  have xW : WH (w 5 4) (a 47) (a 43 0) := fWH
  have xH : B10 (w 5 5) (hB (a 43 0) (a 46)) := fHB
  have xp : ∀ j : Nat, (j : Int) < a 43 0 → w 6 j = a 44 j ∧ w 7 j = a 45 j ∧ w 8 j = a 48 j := fPP
  have x15 : w 15 3 = a 43 8 := fN.2.1
  have x6 : ∀ j, 0 ≤ w 6 j ∧ w 6 j ≤ 9 := hC.2.2.1
  have xk : ∀ j : Nat, (j : Int) < a 43 0 → 0 ≤ a 45 j ∧ a 45 j ≤ 1023 := hC.2.2.2.1
  have xc : RUC c (a 43 27) (a 57) := hc1
  have x19 : w 19 4 = (c.length : Int) := hc2
  have x20 : SR (w 20) c := hc3
  obtain ⟨e1, m, e2, e3⟩ := follow_pc (wk := w 15 3) (g := a 43 10) (seats := a 43 11) (s := a 47) (h := a 46) (pr := a 44) (kn := a 45) x19 hc4 x20 x0 x3 x7 xg.2 x8 xW xH (fun j hj => (xp j hj).1) (fun j hj => (xp j hj).2.1) x6 xk r u hE
  obtain ⟨d1, d2⟩ := choices_pc (g := a 43 10) (seats := a 43 11) (wk := w 15 3) (s := a 47) (h := a 46) (pr := a 44) (kn := a 45) xc x0 rfl rfl rfl x15.symm rfl rfl rfl rfl xW.2.2 xk r' a' hR
  refine ⟨er_choose ⟨⟨fCO, fPP, fHB, fWH, fN, f16, fSN, fUB, fK1, fK2, fg, fs⟩, hU, hC⟩ e1 d1, ⟨m, by omega, ?_, ?_⟩, d1, e1⟩
  · rw [d1 43 0 (by decide) (by decide)]
    exact plm_bg e3 (fun k hk => (d2 k hk).symm)
  · rw [d1 43 0 (by decide) (by decide), show a' 47 = a 47 from funext fun k => d1 47 k (by decide) (by omega), show a' 46 = a 46 from funext fun k => d1 46 k (by decide) (by omega), show a' 45 = a 45 from funext fun k => d1 45 k (by decide) (by omega)]
    exact gwk_bg (plf_gwk x0.1 (a 43 0).toNat (by omega)) (fun k hk => (d2 k hk).symm)
/-! the next WEEK keeps what both have in common -/
theorem fw_ne {f : Nat → Int} {j t : Nat} (h : bt (f t) j = true) : ∀ {n : Nat}, t < n → fw f j n ≠ -1 := by
  intro n
  induction n with
  | zero => intro h; omega
  | succ n ih =>
    intro ht
    by_cases c : t = n
    · subst c
      rw [fw_s h]
      by_cases c2 : fw f j t = -1
      · rw [if_pos c2]; omega
      · rw [if_neg c2]; exact c2
    · have := ih (by omega)
      rw [fw, if_neg this]; exact this
theorem nis_0 {P g : Int} {s : Nat → Int} {mv : Nat → Bool} {j : Nat} (hs : 0 ≤ s j) (h : nis P s g mv j = 0) : mv j = false ∧ s j = 0 := by
  unfold nis at h
  cases c : mv j with
  | true => rw [c, if_pos rfl] at h; omega
  | false =>
    rw [c, if_neg (by decide)] at h
    refine ⟨rfl, ?_⟩
    cases c2 : gst (s j) with
    | true =>
      rw [c2, if_pos rfl] at h
      by_cases c3 : s j < g
      · rw [if_pos c3] at h; omega
      · rw [if_neg c3] at h; omega
    | false => rw [c2, if_neg (by decide)] at h; exact h
theorem nis_n {P g : Int} {s : Nat → Int} {mv : Nat → Bool} {j : Nat} (hs : 0 ≤ s j) (h : s j ≠ 0) : nis P s g mv j ≠ 0 := fun e => h (nis_0 hs e).2
theorem nis_g {P g : Int} {s : Nat → Int} {mv : Nat → Bool} {j : Nat} (h : gst (nis P s g mv j) = true) : mv j = true ∨ gst (s j) = true := by
  unfold nis at h
  cases c : mv j with
  | true => exact Or.inl rfl
  | false =>
    rw [c, if_neg (by decide)] at h
    cases c2 : gst (s j) with
    | true => exact Or.inr rfl
    | false => rw [c2, if_neg (by decide), c2] at h; cases h
theorem nis_m {P g : Int} {s : Nat → Int} {mv : Nat → Bool} {j : Nat} (h : mv j = true) : nis P s g mv j = 1 := if_pos h
theorem sn_week {P wk g : Int} {s b f wr s' b' f' wr' hd0 kn bg : Nat → Int} (h : SN P s b f wr wk) (h0 : 0 ≤ wk) (hP : P ≤ 10) (hs : ∀ j : Nat, (j : Int) < P → 0 ≤ s j ∧ s j ≤ 4) (hW : GWK P s hd0 kn bg) (e1 : ∀ j : Nat, (j : Int) < P → s' j = nis P s g (mvs P bg) j) (e2 : ∀ j : Nat, (j : Int) < P → b' j = if brn bg P.toNat j = true then byo bg P.toNat j else b j) (e3 : ∀ j : Nat, (j : Int) < P → f' j = if brn bg P.toNat j = true then wk + 1 else f j) (e4 : B10 (wr' (wk + 1).toNat) (gs P s')) (e5 : ∀ t, t ≠ (wk + 1).toNat → wr' t = wr t) : SN P s' b' f' wr' (wk + 1) := by
  obtain ⟨n1, n2, n3, n4⟩ := h
  have eq1 : (wk + 1).toNat = wk.toNat + 1 := by omega
  have eq2 : (wk + 1 + 1).toNat = wk.toNat + 1 + 1 := by omega
  have old : ∀ t : Nat, (t : Int) ≤ wk → wr' t = wr t := fun t ht => e5 t (by omega)
  refine ⟨fun j hj hz => ?_, fun j hj => ?_, e4, fun t ht => ?_⟩
  · rw [e1 j hj] at hz
    obtain ⟨z1, z2⟩ := nis_0 (hs j hj).1 hz
    obtain ⟨m1, m2⟩ := n1 j hj z2
    have nb : brn bg P.toNat j = false := by
      unfold mvs at z1
      rw [Bool.or_eq_false_iff] at z1
      exact z1.2
    refine ⟨by rw [e2 j hj, nb, if_neg (by decide)]; exact m1, fun t ht => ?_⟩
    by_cases c : t = (wk + 1).toNat
    · rw [c, e4.2 j (by omega)]
      unfold gs
      rw [e1 j hj, hz]
      cases inP P j <;> rfl
    · rw [e5 t c]; exact m2 t (by omega)
  · have hfw : fw wr' j (wk.toNat + 1) = fw wr j (wk.toNat + 1) := fw_eq (fun t ht => old t (by omega))
    have hfo : f j = fw wr j (wk.toNat + 1) := by rw [n2 j hj, eq1]
    have hbt : bt (wr' (wk.toNat + 1)) j = gst (s' j) := by
      rw [← eq1, e4.2 j (by omega)]
      unfold gs
      rw [show inP P j = true from decide_eq_true hj]; rfl
    rw [e3 j hj, eq2]
    cases hb : brn bg P.toNat j with
    | true =>
      rw [if_pos rfl]
      have hsz := (brn_sr hW hb).2.1
      have hno : fw wr' j (wk.toNat + 1) = -1 := fw_no (fun t ht => by rw [old t (by omega)]; exact (n1 j hj hsz).2 t (by omega))
      have hg1 : bt (wr' (wk.toNat + 1)) j = true := by
        rw [hbt, e1 j hj, nis_m (by unfold mvs; rw [hb, Bool.or_true])]
        rfl
      rw [fw_s hg1, hno, if_pos rfl]
      omega
    | false =>
      rw [if_neg (by decide), hfo]
      cases hg : gst (s' j) with
      | false =>
        rw [hg] at hbt
        rw [fw_sf hbt, hfw]
      | true =>
        rw [hg] at hbt
        have was : gst (s j) = true := by
          rw [e1 j hj] at hg
          rcases nis_g hg with e | e
          · unfold mvs at e
            rw [hb, Bool.or_false] at e
            exact gwk_gs hW e
          · exact e
        have hne : fw wr' j (wk.toNat + 1) ≠ -1 := fw_ne (t := wk.toNat) (by
          rw [old wk.toNat (by omega), n3.2 j (by omega)]
          unfold gs
          rw [was, show inP P j = true from decide_eq_true hj]; rfl) (by omega)
        rw [fw_s hbt, if_neg hne, hfw]
  · by_cases c : t = (wk + 1).toNat
    · rw [c]
      refine ⟨e4.1, fun j hj hb => ?_⟩
      rw [e4.2 j hj] at hb
      unfold gs at hb
      rw [Bool.and_eq_true] at hb
      exact inP_t hb.1
    · rw [e5 t c]; exact n4 t (by omega)
