/-! GATHER: the list of all WEEKS that may be -/
def ROK (w : Wd) : Prop := 0 ≤ w 24 4 ∧ ∀ k : Nat, k < 1024 → w 27 k ≤ w 24 4
def FXx (w u : Wd) : Prop := ∀ c, c ≠ 24 → c ≠ 25 → c ≠ 26 → c ≠ 27 → u c = w c
def GA (P se : Int) (kn : Nat → Int) (br fr sy : Nat → Bool) (w u : Wd) : Prop := FXx w u ∧ (u 24 4 = w 24 4 + 1 ∧ ROK u) ∧ (B10 (u 24 6) br ∧ B10 (u 24 7) fr ∧ B10 (u 24 8) sy ∧ u 24 9 = se) ∧ LSx (u 24 4) (MOV P se kn br fr sy) u ∧ ∀ m, MOV P se kn br fr sy m → ∃ k : Nat, (k : Int) < u 24 3 ∧ u 25 k = m
theorem gs_fre {P : Int} {s h : Nat → Int} : ∀ k, k < 10 → gs P s k = true → fre P s h k = false := by
  intro k _ hg
  cases hf : fre P s h k with
  | false => rfl
  | true =>
    have := fre_sr hf
    unfold gs at hg
    rw [this.2.1] at hg
    cases hp : inP P k <;> rw [hp] at hg <;> cases hg
theorem prep_pc {P g x v3 v4 : Int} {s h : Nat → Int} {br : Nat → Bool} {w : Wd} (hP : 0 ≤ P ∧ P ≤ 10) (hW : WH x s P) (h3 : w 5 3 = P) (h5 : B10 (w 5 5) (hB P h)) (hg : 1 ≤ g ∧ g ≤ 3) (h7 : w 5 7 = g) (hb : B10 v3 br) (hr : ROK w) (hlt : w 24 4 < 2147483647) : PC (f_M_prepare x v3 v4 w) (fun _ u => FXx w u ∧ (u 24 4 = w 24 4 + 1 ∧ u 27 = w 27) ∧ (B10 (u 24 6) br ∧ B10 (u 24 7) (fre P s h) ∧ B10 (u 24 8) (sty P s g) ∧ u 24 9 = v4) ∧ u 24 3 = 0 ∧ u 24 5 = 6) := by
  unfold f_M_prepare
  refine pc_lw (fun u1 e1 => pc_lw (fun u2 e2 => ?_))
  have r2 : ∀ c, c ≠ 24 → u2 c = w c := fun c hc => by rw [e2, st_row hc, e1, st_row hc]
  obtain ⟨r3, e3, b3⟩ := eall_e (w := u2) (by rw [r2 5 (by decide)]; omega)
  rw [e3, jc_s]
  unfold f_O_known
  rw [jc_s]
  refine pc_lw (fun u7 e7 => ?_)
  have r7 : ∀ c, c ≠ 24 → u7 c = w c := fun c hc => by rw [e7, st_row hc, r2 c hc]
  obtain ⟨r8, e8, b8⟩ := stay_e (g := u7 5 7) hW (by rw [r7 5 (by decide)]; omega) u7
  rw [e8, jc_s]
  refine pc_lw (fun u10 e10 => pc_lw (fun u11 e11 => pc_lw (fun u12 e12 => pc_lw (fun u13 e13 => pc_some ?_))))
  rw [r2 5 (by decide), h3] at b3
  rw [r7 5 (by decide), h7] at b8
  have a24 : ∀ k, u13 24 k = if k = 4 then w 24 4 + 1 else if k = 3 then 0 else if k = 9 then v4 else if k = 8 then r8 else u7 24 k := fun k => by
    have x4 : u12 24 4 = w 24 4 := by rw [e12, st_k (by decide), e11, st_k (by decide), e10, st_k (by decide), e7, st_k (by decide), e2, st_k (by decide), e1, st_k (by decide)]
    rw [e13]
    by_cases c4 : k = 4
    · rw [if_pos c4, c4, st_eq, x4]; exact w32_id (by have := hr.1; omega)
    · rw [if_neg c4, st_k c4, e12]
      by_cases c3 : k = 3
      · rw [if_pos c3, c3, st_eq]
      · rw [if_neg c3, st_k c3, e11]
        by_cases c9 : k = 9
        · rw [if_pos c9, c9, st_eq]
        · rw [if_neg c9, st_k c9, e10]
          by_cases c8 : k = 8
          · rw [if_pos c8, c8, st_eq]
          · rw [if_neg c8, st_k c8]
  refine ⟨fun c c1 _ _ _ => ?_, ⟨?_, ?_⟩, ⟨?_, ?_, ?_, ?_⟩, ?_, ?_⟩
  · rw [e13, st_row c1, e12, st_row c1, e11, st_row c1, e10, st_row c1, r7 c c1]
  · rw [a24, if_pos rfl]
  · rw [e13, st_row (by decide), e12, st_row (by decide), e11, st_row (by decide), e10, st_row (by decide), r7 27 (by decide)]
  · rw [a24, if_neg (by decide), if_neg (by decide), if_neg (by decide), if_neg (by decide), e7, st_k (by decide), e2, st_eq]; exact hb
  · rw [a24, if_neg (by decide), if_neg (by decide), if_neg (by decide), if_neg (by decide), e7, st_eq]
    rw [r2 5 (by decide)]
    refine b10_w (b10_andn (b10_andn b3 (wh_kn hW).2) h5.2) (fun k _ => ?_)
    unfold fre sr
    cases inP P k with
    | false => rfl
    | true => cases (s k == 0) <;> rfl
  · rw [a24, if_neg (by decide), if_neg (by decide), if_neg (by decide), if_pos rfl]; exact b8
  · rw [a24, if_neg (by decide), if_neg (by decide), if_pos rfl]
  · rw [a24, if_neg (by decide), if_pos rfl]
  · rw [a24, if_neg (by decide), if_neg (by decide), if_neg (by decide), if_neg (by decide), e7, st_k (by decide), e2, st_k (by decide), e1, st_eq]
theorem gat_pc {P g x se : Int} {s h kn : Nat → Int} {w : Wd} (hP : 0 ≤ P ∧ P ≤ 10) (hW : WH x s P) (h3 : w 5 3 = P) (h5 : B10 (w 5 5) (hB P h)) (hg : 1 ≤ g ∧ g ≤ 3) (h7 : w 5 7 = g) (hkn : ∀ j : Nat, (j : Int) < P → w 7 j = kn j ∧ 0 ≤ kn j ∧ kn j ≤ 1023) (hr : ROK w) (hlt : w 24 4 < 2147483647) : PC (f_M_gather x se w) (fun _ u => GA P se kn (gs P s) (fre P s h) (sty P s g) w u) := by
  unfold f_M_gather
  obtain ⟨r1, e1, b1⟩ := og_e hW w
  rw [e1, jc_s]
  refine pc_call (prep_pc hP hW h3 h5 hg h7 b1 hr hlt) (fun r3 u q => ?_)
  obtain ⟨q1, ⟨q2, q3⟩, ⟨q4, q5, q6, q7⟩, q8, q9⟩ := q
  have novis : ∀ m, ¬ vis (u 24 4) u m := fun m hv => by
    have h1 := hv.2
    rw [q3, q2] at h1
    have := hr.2 m.toNat (by have := hv.1; omega)
    omega
  have hM : MCx P se (u 24 4) kn (gs P s) (fre P s h) (sty P s g) u := ⟨by rw [q1 5 (by decide) (by decide) (by decide) (by decide)]; exact h3, fun j hj => by rw [q1 7 (by decide) (by decide) (by decide) (by decide)]; exact (hkn j hj).1, q4, q5, q6, q7, rfl⟩
  have hL : LSx (u 24 4) (MOV P se kn (gs P s) (fre P s h) (sty P s g)) u := ⟨by omega, fun k hk => by omega, fun i j hi hj => by omega, fun m hm => absurd hm (novis m), fun k hk => by omega⟩
  refine pc_call (spr_pc hP gs_fre (fun j hj => (hkn j hj).2) 16 (d := 0) (f := 0) (m := 0) (b := -1) hM hL ⟨rfl, rfl⟩ (Or.inl ⟨q8, rfl⟩)) (fun r5 v q' => pc_some ?_)
  obtain ⟨p1, p2, p3, p4, p5, p6⟩ := q'
  have v4 : v 24 4 = u 24 4 := p1.2.1 4 (by decide)
  have all : ∀ (d : Nat) (f m : Int), DRC P se kn (gs P s) (fre P s h) (sty P s g) d f m → vis (u 24 4) v m := by
    intro d
    induction d with
    | zero => rintro f m ⟨_, e⟩; rw [e]; exact p5
    | succ d ih =>
      rintro f m ⟨f0, m0, h0, hc⟩
      rcases p6 m0 (ih f0 m0 h0) with h1 | h1
      · exact absurd h1 (novis m0)
      · exact h1 d f0 f m h0 hc
  refine ⟨fun c a1 a2 a3 a4 => (p1.1 c a1 a2 a3 a4).trans (q1 c a1 a2 a3 a4), ⟨by rw [v4, q2], ?_⟩, ⟨by rw [p1.2.1 6 (by decide)]; exact q4, by rw [p1.2.1 7 (by decide)]; exact q5, by rw [p1.2.1 8 (by decide)]; exact q6, by rw [p1.2.1 9 (by decide)]; exact q7⟩, by rw [v4]; exact p2, fun m hm => ?_⟩
  · unfold ROK
    rw [v4, q2]
    have := hr.1
    refine ⟨by omega, fun k hk => ?_⟩
    rcases p1.2.2 k with e | e
    · rw [e, q3]; have := hr.2 k hk; omega
    · rw [e, q2]; exact Int.le_refl _
  · obtain ⟨d, f, h0⟩ := hm
    exact p2.2.2.2.1 m (all d f m h0)
/-- whatever it starts from: what stays as it was -/
theorem spf_pc : ∀ (D : Nat) {f m b : Int} {w : Wd}, PC (f_M_spread D f m b w) (fun _ u => FM w u) := by
  intro D
  induction D with
  | zero => intros; exact pc_none
  | succ D ih =>
    intro f m b w
    rw [f_M_spread]
    unfold f_M_spread_b
    have s135 : ∀ {k83 : Int → Int → Int → Wd → Option (Int × Wd)} {v2 v4 v5 : Int}, (∀ u, FM w u → PC (k83 v2 v4 (w32 (v5 + 1)) u) (fun _ u => FM w u)) → ∀ (n : Nat) {v6 v7 : Int} {u : Wd}, FM w u → PC (f_M_spread_135 (f_M_spread D) k83 n v2 v4 v5 v6 v7 u) (fun _ u => FM w u) := by
      intro k83 v2 v4 v5 hk n
      induction n with
      | zero => intros; exact pc_none
      | succ n ihn =>
        intro v6 v7 u hu
        rw [f_M_spread_135]
        refine pc_ite (fun _ => pc_let (fun x e => by rw [e]; exact hk u hu)) (fun _ => ?_)
        refine pc_ite (fun _ => pc_let (fun x e => by rw [e]; exact hk u hu)) (fun _ => ?_)
        refine pc_let (fun x9 _ => pc_let (fun x10 _ => ?_))
        have hbc : ∀ z : Int, PC (f_JI_bitCount z u) (fun _ u' => u' = u) := fun z => by
          show PC (some (bcI z, u)) _
          exact pc_some rfl
        refine pc_call (hbc _) (fun r11 u12 q => ?_)
        rw [q]
        refine pc_ite (fun _ => pc_let (fun x _ => ihn hu)) (fun _ => ?_)
        exact pc_call ih (fun r14 u15 q2 => pc_let (fun x _ => ihn (fm_tr hu q2)))
    have s83 : ∀ (n : Nat) {v2 v4 v5 : Int} {u : Wd}, FM w u → PC (f_M_spread_83 (f_M_spread D) n v2 v4 v5 u) (fun _ u => FM w u) := by
      intro n
      induction n with
      | zero => intros; exact pc_none
      | succ n ihn =>
        intro v2 v4 v5 u hu
        rw [f_M_spread_83]
        refine pc_gd (fun _ => pc_ite (fun _ => pc_some hu) (fun _ => ?_))
        have hhas : ∀ x k : Int, PC (f_E_has x k u) (fun _ u' => u' = u) := fun x k => by
          unfold f_E_has
          refine pc_ite (fun _ => pc_some rfl) (fun _ => pc_ite (fun _ => pc_some rfl) (fun _ => pc_ite (fun _ => pc_some rfl) (fun _ => pc_some rfl)))
        refine pc_call (hhas _ _) (fun r6 u7 q => ?_)
        rw [q]
        refine pc_ite (fun _ => s135 (fun y hy => ihn hy) FU hu) (fun _ => pc_gd (fun _ => pc_gd (fun _ => s135 (fun y hy => ihn hy) FU hu)))
    refine pc_ite (fun _ => pc_some (fm_self w)) (fun _ => ?_)
    refine pc_ite (fun _ => pc_some (fm_self w)) (fun _ => ?_)
    refine pc_ite (fun _ => ?_) (fun _ => pc_some (fm_self w))
    refine pc_gd (fun _ => pc_ite (fun _ => pc_some (fm_self w)) (fun _ => ?_))
    refine pc_let (fun x1 e1 => pc_gd (fun _ => pc_lw (fun u2 e2 => pc_gd (fun _ => pc_lw (fun u3 e3 => pc_gd (fun _ => pc_lw (fun u4 e4 => pc_lw (fun u5 e5 => s83 FU ?_))))))))
    refine ⟨fun c a1 a2 a3 a4 => ?_, fun k hk => ?_, fun k => ?_⟩
    · rw [e5, st_row a1, e4, st_row a3, e3, st_row a2, e2, st_row a4]
    · rw [e5, st_k hk, e4, st_c (by decide), e3, st_c (by decide), e2, st_c (by decide)]
    · rw [e5, st_c (by decide), e4, st_c (by decide), e3, st_c (by decide), e2]
      by_cases ck : k = m.toNat
      · rw [ck, st_eq]; exact Or.inr rfl
      · rw [st_k ck]; exact Or.inl rfl
/-! PAIRS: the class -/
theorem mo_pc {k : Int} {u : Wd} (h : 0 ≤ k ∧ k < u 24 3) : PC (f_M_moversOf k u) (fun r v => v = u ∧ r = u 25 k.toNat) := by
  unfold f_M_moversOf
  rw [if_neg (by omega), if_neg (by omega)]
  exact pc_gd (fun _ => pc_some ⟨rfl, rfl⟩)
theorem ls_rg {rd : Int} {M : Int → Prop} {u : Wd} (h : LSx rd M u) {k : Nat} (hk : (k : Int) < u 24 3) : 0 ≤ u 25 k ∧ u 25 k ≤ 1023 := (h.2.1 k hk).1.1
theorem lw24 {rd : Int} {M : Int → Prop} {u : Wd} (hL : LSx rd M u) (h256 : u 24 3 ≤ 256) : ∀ (n : Nat) {v1 v2 : Int}, 0 ≤ v1 → v1 < u 24 3 → 0 ≤ v2 → (∀ k : Nat, (k : Int) < u 24 3 → (k : Int) < v2 → pn (bt (u 25 k)) 10 ≤ pn (bt (u 25 v1.toNat)) 10) → PC (f_E_largestWeek_24 n v1 v2 u) (fun r v => v = u ∧ (0 ≤ r ∧ r < u 24 3) ∧ ∀ k : Nat, (k : Int) < u 24 3 → pn (bt (u 25 k)) 10 ≤ pn (bt (u 25 r.toNat)) 10) := by
  intro n
  induction n with
  | zero => intros; exact pc_none
  | succ n ih =>
    intro v1 v2 i1 i2 i3 hm
    rw [f_E_largestWeek_24]
    refine pc_ite (fun c => pc_some ⟨rfl, ⟨i1, i2⟩, fun k hk => hm k hk (by omega)⟩) (fun c => ?_)
    refine pc_call (mo_pc (k := v2) (u := u) (by omega)) (fun r3 u4 q => ?_)
    rw [q.1, q.2, bc_self (ls_rg hL (k := v2.toNat) (by omega)), jc_s]
    refine pc_call (mo_pc (k := v1) (u := u) (by omega)) (fun r7 u8 q2 => ?_)
    rw [q2.1, q2.2, bc_self (ls_rg hL (k := v1.toNat) (by omega)), jc_s]
    unfold f_E_largestWeek_62
    refine pc_ite (fun c2 => ?_) (fun c2 => ?_)
    · refine pc_let (fun x e => ?_)
      rw [w32_id (by omega)] at e
      rw [e]
      refine ih i1 i2 (by omega) (fun k hk hlt => ?_)
      by_cases ck : (k : Int) < v2
      · exact hm k hk ck
      · rw [show k = v2.toNat by omega]; omega
    · refine pc_let (fun x e => ?_)
      rw [w32_id (by omega)] at e
      rw [e]
      refine ih i3 (by omega) (by omega) (fun k hk hlt => ?_)
      by_cases ck : (k : Int) < v2
      · have := hm k hk ck; omega
      · rw [show k = v2.toNat by omega]; exact Nat.le_refl _
theorem pf1_pc {x : Int} {w : Wd} (h : 0 ≤ w 3 1 ∧ w 3 1 < 20) : PC (f_N_putFirst x w) (fun _ u => u 3 1 = w 3 1 + 1 ∧ ∀ c, c ≠ 3 → c ≠ 4 → u c = w c) := pf_pc h
theorem lwst_pc (x : Int) (u : Wd) : PC (f_E_lowest x u) (fun _ v => v = u) := by
  unfold f_E_lowest
  refine pc_ite (fun _ => pc_some rfl) (fun _ => ?_)
  have : ∀ z : Int, PC (f_JI_bitCount z u) (fun _ u' => u' = u) := fun z => by
    show PC (some (bcI z, u)) _
    exact pc_some rfl
  exact pc_call (this _) (fun r v q => pc_some q)
/-- how many PAIRS are told -/
theorem tp9 {rd : Int} {M : Int → Prop} {u0 : Wd} (hL : LSx rd M u0) (h256 : u0 24 3 ≤ 256) : ∀ (n : Nat) {v3 v4 : Int} {u : Wd}, 0 ≤ v3 → v3 < u0 24 3 → 0 ≤ v4 → u 3 1 = v4 → (∀ c, c ≠ 3 → c ≠ 4 → u c = u0 c) → 2 * v4 + ((pn (bt (u0 25 v3.toNat)) 10 : Nat) : Int) ≤ 10 → PC (f_M_tellPairs_9 n v3 v4 u) (fun _ v => 2 * v 3 1 = 2 * v4 + ((pn (bt (u0 25 v3.toNat)) 10 : Nat) : Int) ∧ ∀ c, c ≠ 3 → c ≠ 4 → v c = u0 c) := by
  intro n
  induction n with
  | zero => intros; exact pc_none
  | succ n ih =>
    intro v3 v4 u i3 i3' i4 h3 hr hle
    rw [f_M_tellPairs_9, hr 24 (by decide) (by decide)]
    have p0 : (v3.toNat = 0 ∧ u0 25 v3.toNat = 0) → pn (bt (u0 25 v3.toNat)) 10 = 0 := fun e => by rw [e.2]; exact pn_0 (fun k _ => bt_0 k)
    have hp := hL.2.2.2.2 v3.toNat (by omega)
    have fin : pn (bt (u0 25 v3.toNat)) 10 = 0 → PC (some (0, u)) (fun (_ : Int) (v : Wd) => 2 * v 3 1 = 2 * v4 + ((pn (bt (u0 25 v3.toNat)) 10 : Nat) : Int) ∧ ∀ c, c ≠ 3 → c ≠ 4 → v c = u0 c) := fun e => pc_some ⟨by rw [h3, e]; omega, hr⟩
    refine pc_ite (fun c => fin (by omega)) (fun c => ?_)
    refine pc_ite (fun c2 => fin ?_) (fun c2 => ?_)
    · rcases hp with h1 | h1
      · exact p0 h1
      · omega
    refine pc_ite (fun c3 => by omega) (fun _ => ?_)
    refine pc_gd (fun _ => pc_gd (fun _ => ?_))
    rw [hr 26 (by decide) (by decide), hr 25 (by decide) (by decide)]
    have hp2 : 0 < v3.toNat ∧ 0 ≤ u0 26 v3.toNat ∧ u0 26 v3.toNat < ((v3.toNat : Nat) : Int) ∧ pn (bt (u0 25 v3.toNat)) 10 = pn (bt (u0 25 (u0 26 v3.toNat).toNat)) 10 + 2 := by
      rcases hp with h1 | h1
      · exfalso; omega
      · exact h1
    refine pc_call (mo_pc (k := u0 26 v3.toNat) (u := u) (by rw [hr 24 (by decide) (by decide)]; omega)) (fun r3 u4 q => ?_)
    rw [q.1]
    refine pc_let (fun x5 _ => ?_)
    refine pc_call (lwst_pc _ _) (fun r6 u7 q6 => ?_)
    rw [q6]
    refine pc_call (lwst_pc _ _) (fun r8 u9 q8 => ?_)
    rw [q8]
    refine pc_call (pf_pc (w := u) (by omega)) (fun r10 u11 q10 => ?_)
    refine pc_gd (fun _ => pc_let (fun x12 e12 => pc_let (fun x13 e13 => ?_)))
    rw [w32_id (by omega)] at e13
    have r11 : ∀ c, c ≠ 3 → c ≠ 4 → u11 c = u0 c := fun c a b => (q10.2 c a b).trans (hr c a b)
    rw [r11 26 (by decide) (by decide)] at e12
    rw [e12, e13]
    refine pc_w (ih (v3 := u0 26 v3.toNat) (v4 := v4 + 1) (u := u11) hp2.2.1 (by omega) (by omega) (by rw [q10.1, h3]) r11 (by omega)) (fun _ v z => ⟨by omega, z.2⟩)
theorem tp_pc {rd : Int} {M : Int → Prop} {u : Wd} (hL : LSx rd M u) (h256 : u 24 3 ≤ 256) {k : Int} (hk : 0 ≤ k ∧ k < u 24 3) : PC (f_M_tellPairs k u) (fun _ v => 2 * v 3 1 = ((pn (bt (u 25 k.toNat)) 10 : Nat) : Int) ∧ ∀ c, c ≠ 3 → c ≠ 4 → v c = u c) := by
  unfold f_M_tellPairs f_N_clear
  refine pc_call (P := fun _ v => v = st u 3 1 0) (pc_lw (fun u1 e1 => pc_some e1)) (fun r v e => ?_)
  have hle := pn_le (bt (u 25 k.toNat)) 10
  refine pc_w (tp9 hL h256 FU (v3 := k) (v4 := 0) (u := v) hk.1 hk.2 (by decide) (by rw [e, st_eq]) (fun c a b => by rw [e, st_row a]) (by omega)) (fun _ v z => ⟨by omega, z.2⟩)
