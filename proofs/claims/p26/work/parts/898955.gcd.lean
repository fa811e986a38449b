/-! BARS: by both -/
def sur (P : Int) (kn : Nat → Int) (fr : Nat → Bool) (v : Int) : Int := ((pn (bt v) 10 : Nat) : Int) - ((pn (nbh P kn fr 0 (bt v)) 10 : Nat) : Int)
def SBG (br : Nat → Bool) (v : Int) : Prop := ∀ k, k < 10 → bt v k = true → br k = true
def BRQ (P : Int) (kn : Nat → Int) (br fr : Nat → Bool) (r : Int) : Prop := (0 ≤ r ∧ r ≤ 1023) ∧ SBG br r ∧ sur P kn fr r = ((pn br 10 : Nat) : Int) - mpv P kn br fr P.toNat 0 ∧ ∀ v, 0 ≤ v → v < r → SBG br v → sur P kn fr v ≠ ((pn br 10 : Nat) : Int) - mpv P kn br fr P.toNat 0
theorem brq_one {P : Int} {kn : Nat → Int} {br fr : Nat → Bool} {r r' : Int} (a : BRQ P kn br fr r) (b : BRQ P kn br fr r') : r = r' := by
  obtain ⟨a1, a2, a3, a4⟩ := a
  obtain ⟨b1, b2, b3, b4⟩ := b
  rcases Int.lt_trichotomy r r' with c | c | c
  · exact absurd a3 (b4 r a1.1 c a2)
  · exact c
  · exact absurd b3 (a4 r' b1.1 c b2)
theorem bcn_P {P : Int} {br : Nat → Bool} (hP : 0 ≤ P ∧ P ≤ 10) (hb : ∀ k, k < 10 → br k = true → (k : Int) < P) : bcn P br P.toNat = ((pn br 10 : Nat) : Int) := by
  unfold bcn
  have e := pn_P (f := br) (p := P.toNat) (m := 10) (by omega) (fun k hk h => by have := hb k hk h; omega)
  rw [Nat.sub_self, e, pn]
  omega
theorem sur_max {P : Int} {kn : Nat → Int} {br fr : Nat → Bool} {v : Int} (hP : 0 ≤ P ∧ P ≤ 10) (hb : ∀ k, k < 10 → br k = true → (k : Int) < P) (hs : SBG br v) : sur P kn fr v ≤ ((pn br 10 : Nat) : Int) - mpv P kn br fr P.toNat 0 := by
  have w := bar_wk (kn := kn) (fr := fr) (br := br) hP P.toNat (Nat.le_refl _) (u := 0) (S := bt v) (by decide) (fun k hk h => by
    have a := hs k hk h
    have := hb k hk a
    exact ⟨a, by omega, by omega⟩)
  rw [bcn_P hP hb] at w
  unfold sur
  omega
theorem int_of {P : Int} (hP : 0 ≤ P ∧ P ≤ 10) (S : Nat → Bool) (hS : ∀ k, k < 10 → S k = true → (k : Int) < P) : ∀ n, n ≤ 10 → ∃ v, (0 ≤ v ∧ v < ((2 ^ P.toNat : Nat) : Int)) ∧ B10 v (fun k => S k && decide (k < n)) := by
  have p2 := p2_1024 hP
  intro n
  induction n with
  | zero => intro _; exact ⟨0, ⟨Int.le_refl _, by omega⟩, b10_w b10_0 (fun k _ => by simp)⟩
  | succ n ih =>
    intro hn
    obtain ⟨v, hv, hb⟩ := ih (by omega)
    cases e : S n with
    | false =>
      refine ⟨v, hv, b10_w hb (fun k _ => ?_)⟩
      by_cases c : k = n
      · rw [c, e]; rfl
      · have : decide (k < n) = decide (k < n + 1) := by
          by_cases c2 : k < n
          · rw [decide_eq_true c2, decide_eq_true (show k < n + 1 by omega)]
          · rw [decide_eq_false c2, decide_eq_false (show ¬ k < n + 1 by omega)]
        show (S k && decide (k < n)) = (S k && decide (k < n + 1))
        rw [this]
    | true =>
      have hnP := hS n (by omega) e
      refine ⟨ior v (ishl 1 (n : Int)), or_lt2 hP hv hnP, b10_w (or1_b (by omega) (by omega)) (fun k hk => ?_)⟩
      show (bt v k || decide (k = n)) = (S k && decide (k < n + 1))
      rw [hb.2 k hk]
      show (S k && decide (k < n) || decide (k = n)) = (S k && decide (k < n + 1))
      by_cases c : k = n
      · rw [c, e]; simp
      · rw [decide_eq_false c, Bool.or_false]
        have : decide (k < n) = decide (k < n + 1) := by
          by_cases c2 : k < n
          · rw [decide_eq_true c2, decide_eq_true (show k < n + 1 by omega)]
          · rw [decide_eq_false c2, decide_eq_false (show ¬ k < n + 1 by omega)]
        rw [this]
theorem sur_ex {P : Int} {kn : Nat → Int} {br fr : Nat → Bool} (hP : 0 ≤ P ∧ P ≤ 10) (hb : ∀ k, k < 10 → br k = true → (k : Int) < P) (hf : ∀ k : Nat, k < 10 → fr k = true → (k : Int) < P) : ∃ v, (0 ≤ v ∧ v < ((2 ^ P.toNat : Nat) : Int)) ∧ SBG br v ∧ sur P kn fr v = ((pn br 10 : Nat) : Int) - mpv P kn br fr P.toNat 0 := by
  obtain ⟨S, hS, he⟩ := bar_st (kn := kn) (br := br) (fr := fr) hP hf P.toNat (Nat.le_refl _) (u := 0) (by decide)
  rw [bcn_P hP hb] at he
  obtain ⟨v, hv, hbv⟩ := int_of hP S (fun k hk h => by have := (hS k hk h).2.2; omega) 10 (Nat.le_refl _)
  have e : ∀ k, k < 10 → bt v k = S k := fun k hk => by
    rw [hbv.2 k hk]
    show (S k && decide (k < 10)) = S k
    rw [decide_eq_true hk, Bool.and_true]
  refine ⟨v, hv, fun k hk h => (hS k hk (by rw [← e k hk]; exact h)).1, ?_⟩
  have e1 : pn (bt v) 10 = pn S 10 := pn_eq e
  have e2 : pn (nbh P kn fr 0 (bt v)) 10 = pn (nbh P kn fr 0 S) 10 :=
    Nat.le_antisymm (nbh_w hP (fun k hk h => by rw [← e k hk]; exact h)) (nbh_w hP (fun k hk h => by rw [e k hk]; exact h))
  unfold sur
  rw [e1, e2]
  omega
theorem sub_i {v r : Int} {F H : Nat → Bool} (hv : B10 v F) (hr : B10 r H) : iand v (ixor r (-1)) = 0 ↔ ∀ q, q < 10 → F q = true → H q = true := by
  have h := b10_andn hv hr.2
  constructor
  · intro e q hq hF
    have := h.2 q hq
    rw [e, bt_0] at this
    have t2 : false = (F q && !H q) := this
    rw [hF] at t2
    cases hg : H q with
    | true => rfl
    | false => rw [hg] at t2; cases t2
  · intro hA
    refine b10_eq h b10_0 (fun q hq => ?_)
    cases hF : F q with
    | false => rfl
    | true => rw [hA q hq hF]; rfl
theorem sub_le {v r : Int} (hv : 0 ≤ v ∧ v ≤ 1023) (hr : 0 ≤ r ∧ r ≤ 1023) (h : ∀ q, q < 10 → bt v q = true → bt r q = true) : v ≤ r := by
  have a := b10_and (b10_self hv) (b10_self hr).2
  have e : iand v r = v := b10_eq a (b10_self hv) (fun k hk => by
    cases c : bt v k with
    | false => rfl
    | true => rw [h k hk c]; rfl)
  have := (iand_r (x := v) (y := r) (by omega)).2
  omega
theorem kbn_w {kn kn' : Nat → Int} {f : Nat → Bool} {n q : Nat} (h : ∀ i, i < n → kn i = kn' i) : kbn kn f n q = kbn kn' f n q := by
  have : kbn kn f n q = true ↔ kbn kn' f n q = true := by
    rw [kbn_t, kbn_t]
    constructor
    · rintro ⟨i, hi, a, b⟩; exact ⟨i, hi, a, by rw [← h i hi]; exact b⟩
    · rintro ⟨i, hi, a, b⟩; exact ⟨i, hi, a, by rw [h i hi]; exact b⟩
  cases a : kbn kn f n q <;> cases b : kbn kn' f n q <;> simp [a, b] at this ⊢
theorem shl_p : ∀ p : Nat, p ≤ 10 → ishl 1 (p : Int) = ((2 ^ p : Nat) : Int) := by decide +kernel
theorem gs_P {P : Int} {s : Nat → Int} {k : Nat} (h : gs P s k = true) : (k : Int) < P := by
  unfold gs at h; rw [Bool.and_eq_true] at h; exact inP_t h.1
theorem ebars_pc {P g : Int} {s h kn : Nat → Int} {w : Wd} (hP : 0 ≤ P ∧ P ≤ 10) (hW : WH (w 5 4) s P) (h3 : w 5 3 = P) (h5 : B10 (w 5 5) (hB P h)) (hg : 1 ≤ g ∧ g ≤ 3) (h7 : w 5 7 = g) (hkn : ∀ j : Nat, (j : Int) < P → w 7 j = kn j ∧ 0 ≤ kn j ∧ kn j ≤ 1023) (hr : ROK w) (hlt : w 24 4 < 2147483647) : PC (f_E_bars w) (fun r _ => BRQ P kn (gs P s) (fre P s h) r) := by
  have hgb : ∀ k, k < 10 → gs P s k = true → (k : Int) < P := fun k _ h => gs_P h
  have hfb : ∀ k : Nat, k < 10 → fre P s h k = true → (k : Int) < P := fun k _ hf => (fre_0 hf).1
  have p2 := p2_1024 hP
  unfold f_E_bars
  refine pc_call (eg_e hW) (fun r1 u2 q => ?_)
  rw [q.1, bcs_e q.2, jc_s]
  refine pc_call (epairs_pc (kn := kn) hP hW h3 h5 hg h7 hkn hr hlt) (fun k u z => ?_)
  obtain ⟨z1, z2, z3, z4⟩ := z
  have u5 : u 5 = w 5 := z1.1 5 (by decide) (by decide) (by decide) (by decide)
  have u7 : u 7 = w 7 := z1.1 7 (by decide) (by decide) (by decide) (by decide)
  refine pc_call (mo_pc z3) (fun r7 u8 q8 => ?_)
  rw [q8.1, q8.2, bcs_e (b10_self (ls_rg z1.2.2.2.1 (k := k.toNat) (by omega))), jc_s, if_neg (by decide)]
  have m0 := mpv_rg P kn (gs P s) (fre P s h) P.toNat 0
  have g10 := pn_le (gs P s) 10
  rw [z4, idiv_k (by decide) (by omega), show 2 * mpv P kn (gs P s) (fre P s h) P.toNat 0 / 2 = mpv P kn (gs P s) (fre P s h) P.toNat 0 by omega, w32_id (by omega)]
  refine pc_let (fun x11 e11 => ?_)
  rw [e11]
  obtain ⟨v0, hv0, hs0, hd0⟩ := sur_ex (kn := kn) (br := gs P s) (fr := fre P s h) hP hgb hfb
  have hv0r : v0 ≤ r1 := sub_le (by omega) q.2.1 (fun k hk hb => by rw [q.2.2 k hk]; exact hs0 k hk hb)
  have pcT : ∀ o : Option (Int × Wd), PC o (fun _ _ => True) := fun _ _ _ _ => trivial
  have l32 : ∀ (n : Nat) {v3 : Int}, 0 ≤ v3 → (∀ v, 0 ≤ v → v < v3 → SBG (gs P s) v → sur P kn (fre P s h) v ≠ ((pn (gs P s) 10 : Nat) : Int) - mpv P kn (gs P s) (fre P s h) P.toNat 0) → PC (f_E_bars_32 n r1 (((pn (gs P s) 10 : Nat) : Int) - mpv P kn (gs P s) (fre P s h) P.toNat 0) v3 u) (fun r _ => BRQ P kn (gs P s) (fre P s h) r) := by
    intro n
    induction n with
    | zero => intros; exact pc_none
    | succ n ih =>
      intro v3 i3 hN
      have r1b := q.2.1
      rw [f_E_bars_32]
      unfold f_E_bars_89
      refine pc_ite (fun c => absurd hd0 (hN v0 hv0.1 (by omega) hs0)) (fun c => ?_)
      have v3b : 0 ≤ v3 ∧ v3 ≤ 1023 := by omega
      refine pc_call (knb_e (w := u) (x := v3) (f := bt v3) (by rw [u5, h3]; exact hP) (fun _ _ => rfl) (fun j hj => by rw [u5, h3] at hj; rw [u7, (hkn j hj).1]; exact (hkn j hj).2)) (fun r12 u13 q12 => ?_)
      rw [q12.1]
      have b12 := q12.2
      rw [u5, u7, h3] at b12
      refine pc_call (ef_e (w := u) (by rw [u5]; exact hW) hP (by rw [u5]; exact h3) (by rw [u5]; exact h5)) (fun r14 u15 q14 => pc_let (fun x16 e16 => ?_))
      rw [q14.1]
      have b16 := b10_and b12 q14.2.2
      rw [← e16] at b16
      have nx : (SBG (gs P s) v3 → sur P kn (fre P s h) v3 ≠ ((pn (gs P s) 10 : Nat) : Int) - mpv P kn (gs P s) (fre P s h) P.toNat 0) → PC (jlet (w32 (v3 + 1)) fun x17 => f_E_bars_32 n r1 (((pn (gs P s) 10 : Nat) : Int) - mpv P kn (gs P s) (fre P s h) P.toNat 0) x17 u) (fun r _ => BRQ P kn (gs P s) (fre P s h) r) := fun hne => pc_let (fun x17 e17 => by
        rw [w32_id (by omega)] at e17
        rw [e17]
        refine ih (by omega) (fun v h0 hlt hs => ?_)
        by_cases c : v < v3
        · exact hN v h0 c hs
        · have ev : v = v3 := by omega
          rw [ev] at hs ⊢
          exact hne hs)
      refine pc_ite (fun cs => ?_) (fun cs => nx (fun hs => absurd ((sub_i (b10_self v3b) q.2).mpr hs) cs))
      have hs := (sub_i (b10_self v3b) q.2).mp cs
      rw [bcs_e (b10_self v3b), jc_s, bcs_e b16, jc_s]
      have e2 : pn (fun k => kbn (w 7) (bt v3) P.toNat k && fre P s h k) 10 = pn (nbh P kn (fre P s h) 0 (bt v3)) 10 := pn_eq (fun k _ => by
        show (kbn (w 7) (bt v3) P.toNat k && fre P s h k) = (fre P s h k && !bt 0 k && kbn kn (bt v3) P.toNat k)
        rw [bt_0, Bool.not_false, Bool.and_true, Bool.and_comm, kbn_w (kn' := kn) (fun i hi => (hkn i (by omega)).1)])
      have es : ((pn (bt v3) 10 : Nat) : Int) - ((pn (fun k => kbn (w 7) (bt v3) P.toNat k && fre P s h k) 10 : Nat) : Int) = sur P kn (fre P s h) v3 := by
        rw [e2]; rfl
      have a1 := pn_le (bt v3) 10
      have a2 := pn_le (fun k => kbn (w 7) (bt v3) P.toNat k && fre P s h k) 10
      rw [w32_id (by omega), es]
      refine pc_ite (fun cd => pc_call (pcT _) (fun _ _ _ => pc_some ⟨v3b, hs, cd, hN⟩)) (fun cd => nx (fun _ => cd))
  exact l32 FU (by decide) (fun v h0 hlt _ => by omega)
theorem rbars_pc {P : Int} {w : Wd} (hP : 0 ≤ P ∧ P ≤ 10) (h0 : w 43 0 = P) (h45 : ∀ j : Nat, (j : Int) < P → 0 ≤ w 45 j ∧ w 45 j ≤ 1023) : PC (f_R_bars w) (fun r _ => BRQ P (w 45) (gs P (w 47)) (fre P (w 47) (w 46)) r) := by
  have hgb : ∀ k, k < 10 → gs P (w 47) k = true → (k : Int) < P := fun k _ h => gs_P h
  have hfb : ∀ k : Nat, k < 10 → fre P (w 47) (w 46) k = true → (k : Int) < P := fun k _ hf => (fre_0 hf).1
  have p2 := p2_1024 hP
  unfold f_R_bars
  refine pc_lw (fun y ey => ?_)
  have y0 : y 43 0 = P := by rw [ey, st_k (by decide)]; exact h0
  have yr : ∀ c, c ≠ 43 → y c = w c := fun c hc => by rw [ey, st_row hc]
  refine pc_call (rg_e (w := y) (by rw [y0]; exact hP)) (fun r2 u3 q => ?_)
  rw [q.1]
  have qb := q.2
  rw [y0, yr 47 (by decide)] at qb
  obtain ⟨v0, hv0, hs0, hd0⟩ := sur_ex (kn := w 45) (br := gs P (w 47)) (fr := fre P (w 47) (w 46)) hP hgb hfb
  have e2P : ishl 1 P = ((2 ^ P.toNat : Nat) : Int) := by
    have := shl_p P.toNat (by omega)
    rw [show ((P.toNat : Nat) : Int) = P by omega] at this
    exact this
  have pcT : ∀ o : Option (Int × Wd), PC o (fun _ _ => True) := fun _ _ _ _ => trivial
  have l20 : ∀ (n : Nat) {v2 v3 v4 v5 : Int}, (0 ≤ v2 ∧ v2 < v5) → v5 ≤ ((2 ^ P.toNat : Nat) : Int) → SBG (gs P (w 47)) v2 → sur P (w 45) (fre P (w 47) (w 46)) v2 = v3 → (∀ v, 0 ≤ v → v < v5 → SBG (gs P (w 47)) v → sur P (w 45) (fre P (w 47) (w 46)) v ≤ v3) → (∀ v, 0 ≤ v → v < v2 → SBG (gs P (w 47)) v → sur P (w 45) (fre P (w 47) (w 46)) v < v3) → PC (f_R_bars_20 n r2 v2 v3 v4 v5 y) (fun r _ => BRQ P (w 45) (gs P (w 47)) (fre P (w 47) (w 46)) r) := by
    intro n
    induction n with
    | zero => intros; exact pc_none
    | succ n ih =>
      intro v2 v3 v4 v5 i2 i5 hS2 hS3 hM hL
      rw [f_R_bars_20, y0, e2P]
      refine pc_ite (fun c => ?_) (fun c => ?_)
      · have d1 := sur_max (kn := w 45) (fr := fre P (w 47) (w 46)) hP hgb hS2
        have d2 := hM v0 hv0.1 (by omega) hs0
        have d3 : BRQ P (w 45) (gs P (w 47)) (fre P (w 47) (w 46)) v2 := ⟨by omega, hS2, by omega, fun v hv0 hlt hs => by
          have := hL v hv0 hlt hs
          omega⟩
        exact pc_lw (fun _ _ => pc_call (pcT _) (fun _ _ _ => pc_call (pcT _) (fun _ _ _ => pc_some d3)))
      · have v5b : 0 ≤ v5 ∧ v5 ≤ 1023 := by omega
        have w5 : w32 (v5 + 1) = v5 + 1 := w32_id (by omega)
        unfold f_R_bars_127
        refine pc_ite (fun cs => ?_) (fun cs => pc_let (fun x14 e14 => ?_))
        · have hs := (sub_i (b10_self v5b) qb).mp cs
          have l49 : ∀ (m : Nat) {v6 v7 : Int}, 0 ≤ v7 → v7 ≤ P → B10 v6 (fun o => kbn (w 45) (bt v5) v7.toNat o && fre P (w 47) (w 46) o) → PC (f_R_bars_49 (f_R_bars_20 n) m r2 v2 v3 v4 v5 v6 v7 y) (fun r _ => BRQ P (w 45) (gs P (w 47)) (fre P (w 47) (w 46)) r) := by
            intro m
            induction m with
            | zero => intros; exact pc_none
            | succ m ihm =>
              intro v6 v7 i7 i7' hB6
              rw [f_R_bars_49, y0]
              unfold f_R_bars_127 f_R_bars_86
              have w7 : w32 (v7 + 1) = v7 + 1 := w32_id (by omega)
              refine pc_ite (fun c7 => ?_) (fun c7 => ?_)
              · rw [bcs_e (b10_self v5b), jc_s, bcs_e hB6, jc_s]
                have e7 : v7 = P := by omega
                have e2 : pn (fun o => kbn (w 45) (bt v5) v7.toNat o && fre P (w 47) (w 46) o) 10 = pn (nbh P (w 45) (fre P (w 47) (w 46)) 0 (bt v5)) 10 := pn_eq (fun k _ => by
                  show (kbn (w 45) (bt v5) v7.toNat k && fre P (w 47) (w 46) k) = (fre P (w 47) (w 46) k && !bt 0 k && kbn (w 45) (bt v5) P.toNat k)
                  rw [bt_0, Bool.not_false, Bool.and_true, Bool.and_comm, e7])
                have es : ((pn (bt v5) 10 : Nat) : Int) - ((pn (fun o => kbn (w 45) (bt v5) v7.toNat o && fre P (w 47) (w 46) o) 10 : Nat) : Int) = sur P (w 45) (fre P (w 47) (w 46)) v5 := by
                  rw [e2]; rfl
                have a1 := pn_le (bt v5) 10
                have a2 := pn_le (fun o => kbn (w 45) (bt v5) v7.toNat o && fre P (w 47) (w 46) o) 10
                rw [w32_id (by omega), es, w5]
                refine pc_let (fun x13 e13 => pc_ite (fun c13 => pc_let (fun x14 e14 => ?_)) (fun c13 => pc_let (fun x14 e14 => ?_)))
                · rw [e14]
                  rw [e13] at c13 ⊢
                  refine ih (by omega) (by omega) hs rfl (fun v h0 hlt hsv => ?_) (fun v h0 hlt hsv => ?_)
                  · by_cases c : v < v5
                    · have := hM v h0 c hsv; omega
                    · rw [show v = v5 by omega]; exact Int.le_refl _
                  · have := hM v h0 hlt hsv; omega
                · rw [e14]
                  rw [e13] at c13
                  refine ih (by omega) (by omega) hS2 hS3 (fun v h0 hlt hsv => ?_) hL
                  by_cases c : v < v5
                  · exact hM v h0 c hsv
                  · rw [show v = v5 by omega]; omega
              · rw [hasR_10 y (b10_self v5b) (by omega), jc_s]
                have t7 : (v7 + 1).toNat = v7.toNat + 1 := by omega
                by_cases hb : bt v5 v7.toNat = true
                · rw [if_pos hb, if_neg (by decide)]
                  refine pc_gd (fun _ => pc_call (rfree_e (w := y) (by rw [y0]; exact hP)) (fun r19 u20 q19 => ?_))
                  rw [q19.1, w7, yr 45 (by decide)]
                  have q2 := q19.2
                  rw [y0, yr 47 (by decide), yr 46 (by decide)] at q2
                  refine pc_let (fun x17 e17 => pc_let (fun x18 e18 => ?_))
                  rw [e17, e18]
                  refine ihm (by omega) (by omega) (b10_w (b10_or hB6 (b10_and (b10_self (h45 v7.toNat (by omega))) q2.2)) (fun o _ => ?_))
                  rw [t7]
                  show (kbn (w 45) (bt v5) v7.toNat o && fre P (w 47) (w 46) o || bt (w 45 v7.toNat) o && fre P (w 47) (w 46) o) = ((kbn (w 45) (bt v5) v7.toNat o || bt v5 v7.toNat && bt (w 45 v7.toNat) o) && fre P (w 47) (w 46) o)
                  rw [hb, Bool.true_and, Bool.and_or_distrib_right]
                · rw [if_neg hb, if_pos rfl, w7]
                  refine pc_let (fun x17 e17 => pc_let (fun x18 e18 => ?_))
                  rw [e17, e18]
                  refine ihm (by omega) (by omega) (b10_w (b10_or hB6 b10_0) (fun o _ => ?_))
                  rw [t7]
                  have hb2 : bt v5 v7.toNat = false := by
                    cases e : bt v5 v7.toNat with
                    | false => rfl
                    | true => exact absurd e hb
                  show (kbn (w 45) (bt v5) v7.toNat o && fre P (w 47) (w 46) o || false) = ((kbn (w 45) (bt v5) v7.toNat o || bt v5 v7.toNat && bt (w 45 v7.toNat) o) && fre P (w 47) (w 46) o)
                  rw [hb2, Bool.false_and, Bool.or_false, Bool.or_false]
          exact l49 FU (by decide) hP.1 (b10_w b10_0 (fun _ _ => rfl))
        · rw [w5] at e14
          rw [e14]
          refine ih (by omega) (by omega) hS2 hS3 (fun v h0 hlt hsv => ?_) hL
          by_cases c : v < v5
          · exact hM v h0 c hsv
          · rw [show v = v5 by omega] at hsv
            exact absurd ((sub_i (b10_self v5b) qb).mpr hsv) cs
  have z0 : SBG (gs P (w 47)) 0 := fun k _ hb => by rw [bt_0] at hb; cases hb
  have s0 : sur P (w 45) (fre P (w 47) (w 46)) 0 = 0 := by
    unfold sur
    rw [pn_0 (f := bt 0) (fun k _ => bt_0 k), pn_0 (f := nbh P (w 45) (fre P (w 47) (w 46)) 0 (bt 0)) (fun o _ => by
      cases e : nbh P (w 45) (fre P (w 47) (w 46)) 0 (bt 0) o with
      | false => rfl
      | true => rw [nbh_t] at e; obtain ⟨_, _, i, _, c, _⟩ := e; rw [bt_0] at c; cases c)]
    rfl
  exact l20 FU (by decide) (by omega) z0 s0 (fun v h0 hlt _ => by rw [show v = 0 by omega, s0]; exact Int.le_refl _) (fun v h0 hlt _ => by omega)
theorem er_bars {a w : Wd} (h : ER a w) (hr : ROK w) (hlt : w 24 4 < 2147483647) : PC (f_E_bars w) (fun r _ => PC (f_R_bars a) (fun r' _ => r = r')) := by
  have x0 : 0 ≤ a 43 0 ∧ a 43 0 ≤ 10 := h.2.2.1
  have x3 : w 5 3 = a 43 0 := h.1.1.2.1
  have xp : ∀ j : Nat, (j : Int) < a 43 0 → w 6 j = a 44 j ∧ w 7 j = a 45 j ∧ w 8 j = a 48 j := h.1.2.1
  have xh : B10 (w 5 5) (hB (a 43 0) (a 46)) := h.1.2.2.1
  have xw : WH (w 5 4) (a 47) (a 43 0) := h.1.2.2.2.1
  have x7 : w 5 7 = a 43 10 := h.1.1.2.2.1.1
  have x45 : ∀ j : Nat, (j : Int) < a 43 0 → 0 ≤ a 45 j ∧ a 45 j ≤ 1023 := h.2.2.2.2.2.1
  have xg : 1 ≤ a 43 10 ∧ a 43 10 ≤ 3 := h.1.2.2.2.2.2.2.2.2.2.2.1
  refine pc_w (ebars_pc (kn := a 45) x0 xw x3 xh xg x7 (fun j hj => ⟨(xp j hj).2.1, x45 j hj⟩) hr hlt) (fun r _ e => ?_)
  exact pc_w (rbars_pc x0 rfl x45) (fun r' _ e' => brq_one e e')
