/-! BARS: by both -/
def sur (P : Int) (kn : Nat → Int) (fr : Nat → Bool) (v : Int) : Int := ((pn (bt v) 10 : Nat) : Int) - ((pn (nbh P kn fr 0 (bt v)) 10 : Nat) : Int)
def SBG (br : Nat → Bool) (v : Int) : Prop := ∀ k, k < 10 → bt v k = true → br k = true
def BRQ (P : Int) (kn : Nat → Int) (br fr : Nat → Bool) (r : Int) : Prop := (0 ≤ r ∧ r ≤ 1023) ∧ SBG br r ∧ sur P kn fr r = ((pn br 10 : Nat) : Int) - mpv P kn br fr P.toNat 0 ∧ ∀ v, 0 ≤ v → v < r → SBG br v → sur P kn fr v ≠ ((pn br 10 : Nat) : Int) - mpv P kn br fr P.toNat 0
theorem brq_one {P : Int} {kn : Nat → Int} {br fr : Nat → Bool} {r r' : Int} (a : BRQ P kn br fr r) (b : BRQ P kn br fr r') : r = r' := by
  obtain ⟨a1, a2, a3, a4⟩ := a
  obtain ⟨b1, b2, b3, b4⟩ := b
  rcases Int.lt_trichotomy r r' with c | c | c
  · exact absurd a3 (b4 r a1.1 c a2)
  · exact c
  · exact absurd b3 (a4 r' b1.1 c b2)
theorem bcn_P {P : Int} {br : Nat → Bool} (hP : 0 ≤ P ∧ P ≤ 10) (hb : ∀ k, k < 10 → br k = true → (k : Int) < P) : bcn P br P.toNat = ((pn br 10 : Nat) : Int) := by
  unfold bcn
  have e := pn_P (f := br) (p := P.toNat) (m := 10) (by omega) (fun k hk h => by have := hb k hk h; omega)
  rw [Nat.sub_self, e, pn]
  omega
theorem sur_max {P : Int} {kn : Nat → Int} {br fr : Nat → Bool} {v : Int} (hP : 0 ≤ P ∧ P ≤ 10) (hb : ∀ k, k < 10 → br k = true → (k : Int) < P) (hs : SBG br v) : sur P kn fr v ≤ ((pn br 10 : Nat) : Int) - mpv P kn br fr P.toNat 0 := by
  have w := bar_wk (kn := kn) (fr := fr) (br := br) hP P.toNat (Nat.le_refl _) (u := 0) (S := bt v) (by decide) (fun k hk h => by
    have a := hs k hk h
    have := hb k hk a
    exact ⟨a, by omega, by omega⟩)
  rw [bcn_P hP hb] at w
  unfold sur
  omega
theorem int_of {P : Int} (hP : 0 ≤ P ∧ P ≤ 10) (S : Nat → Bool) (hS : ∀ k, k < 10 → S k = true → (k : Int) < P) : ∀ n, n ≤ 10 → ∃ v, (0 ≤ v ∧ v < ((2 ^ P.toNat : Nat) : Int)) ∧ B10 v (fun k => S k && decide (k < n)) := by
  have p2 := p2_1024 hP
  intro n
  induction n with
  | zero => intro _; exact ⟨0, ⟨Int.le_refl _, by omega⟩, b10_w b10_0 (fun k _ => by simp)⟩
  | succ n ih =>
    intro hn
    obtain ⟨v, hv, hb⟩ := ih (by omega)
    cases e : S n with
    | false =>
      refine ⟨v, hv, b10_w hb (fun k _ => ?_)⟩
      by_cases c : k = n
      · rw [c, e]; rfl
      · have : decide (k < n) = decide (k < n + 1) := by
          by_cases c2 : k < n
          · rw [decide_eq_true c2, decide_eq_true (show k < n + 1 by omega)]
          · rw [decide_eq_false c2, decide_eq_false (show ¬ k < n + 1 by omega)]
        show (S k && decide (k < n)) = (S k && decide (k < n + 1))
        rw [this]
    | true =>
      have hnP := hS n (by omega) e
      refine ⟨ior v (ishl 1 (n : Int)), or_lt2 hP hv hnP, b10_w (or1_b (by omega) (by omega)) (fun k hk => ?_)⟩
      show (bt v k || decide (k = n)) = (S k && decide (k < n + 1))
      rw [hb.2 k hk]
      show (S k && decide (k < n) || decide (k = n)) = (S k && decide (k < n + 1))
      by_cases c : k = n
      · rw [c, e]; simp
      · rw [decide_eq_false c, Bool.or_false]
        have : decide (k < n) = decide (k < n + 1) := by
          by_cases c2 : k < n
          · rw [decide_eq_true c2, decide_eq_true (show k < n + 1 by omega)]
          · rw [decide_eq_false c2, decide_eq_false (show ¬ k < n + 1 by omega)]
        rw [this]
theorem sur_ex {P : Int} {kn : Nat → Int} {br fr : Nat → Bool} (hP : 0 ≤ P ∧ P ≤ 10) (hb : ∀ k, k < 10 → br k = true → (k : Int) < P) (hf : ∀ k : Nat, k < 10 → fr k = true → (k : Int) < P) : ∃ v, (0 ≤ v ∧ v < ((2 ^ P.toNat : Nat) : Int)) ∧ SBG br v ∧ sur P kn fr v = ((pn br 10 : Nat) : Int) - mpv P kn br fr P.toNat 0 := by
  obtain ⟨S, hS, he⟩ := bar_st (kn := kn) (br := br) (fr := fr) hP hf P.toNat (Nat.le_refl _) (u := 0) (by decide)
  rw [bcn_P hP hb] at he
  obtain ⟨v, hv, hbv⟩ := int_of hP S (fun k hk h => by have := (hS k hk h).2.2; omega) 10 (Nat.le_refl _)
  have e : ∀ k, k < 10 → bt v k = S k := fun k hk => by
    rw [hbv.2 k hk]
    show (S k && decide (k < 10)) = S k
    rw [decide_eq_true hk, Bool.and_true]
  refine ⟨v, hv, fun k hk h => (hS k hk (by rw [← e k hk]; exact h)).1, ?_⟩
  have e1 : pn (bt v) 10 = pn S 10 := pn_eq e
  have e2 : pn (nbh P kn fr 0 (bt v)) 10 = pn (nbh P kn fr 0 S) 10 :=
    Nat.le_antisymm (nbh_w hP (fun k hk h => by rw [← e k hk]; exact h)) (nbh_w hP (fun k hk h => by rw [e k hk]; exact h))
  unfold sur
  rw [e1, e2]
  omega
theorem sub_i {v r : Int} {F H : Nat → Bool} (hv : B10 v F) (hr : B10 r H) : iand v (ixor r (-1)) = 0 ↔ ∀ q, q < 10 → F q = true → H q = true := by
  have h := b10_andn hv hr.2
  constructor
  · intro e q hq hF
    have := h.2 q hq
    rw [e, bt_0] at this
    have t2 : false = (F q && !H q) := this
    rw [hF] at t2
    cases hg : H q with
    | true => rfl
    | false => rw [hg] at t2; cases t2
  · intro hA
    refine b10_eq h b10_0 (fun q hq => ?_)
    cases hF : F q with
    | false => rfl
    | true => rw [hA q hq hF]; rfl
theorem sub_le {v r : Int} (hv : 0 ≤ v ∧ v ≤ 1023) (hr : 0 ≤ r ∧ r ≤ 1023) (h : ∀ q, q < 10 → bt v q = true → bt r q = true) : v ≤ r := by
  have a := b10_and (b10_self hv) (b10_self hr).2
  have e : iand v r = v := b10_eq a (b10_self hv) (fun k hk => by
    cases c : bt v k with
    | false => rfl
    | true => rw [h k hk c]; rfl)
  have := (iand_r (x := v) (y := r) (by omega)).2
  omega
theorem kbn_w {kn kn' : Nat → Int} {f : Nat → Bool} {n q : Nat} (h : ∀ i, i < n → kn i = kn' i) : kbn kn f n q = kbn kn' f n q := by
  have : kbn kn f n q = true ↔ kbn kn' f n q = true := by
    rw [kbn_t, kbn_t]
    constructor
    · rintro ⟨i, hi, a, b⟩; exact ⟨i, hi, a, by rw [← h i hi]; exact b⟩
    · rintro ⟨i, hi, a, b⟩; exact ⟨i, hi, a, by rw [h i hi]; exact b⟩
  cases a : kbn kn f n q <;> cases b : kbn kn' f n q <;> simp [a, b] at this ⊢
theorem shl_p : ∀ p : Nat, p ≤ 10 → ishl 1 (p : Int) = ((2 ^ p : Nat) : Int) := by decide +kernel
theorem gs_P {P : Int} {s : Nat → Int} {k : Nat} (h : gs P s k = true) : (k : Int) < P := by
  unfold gs at h; rw [Bool.and_eq_true] at h; exact inP_t h.1
theorem ebars_pc {P g : Int} {s h kn : Nat → Int} {w : Wd} (hP : 0 ≤ P ∧ P ≤ 10) (hW : WH (w 5 4) s P) (h3 : w 5 3 = P) (h5 : B10 (w 5 5) (hB P h)) (hg : 1 ≤ g ∧ g ≤ 3) (h7 : w 5 7 = g) (hkn : ∀ j : Nat, (j : Int) < P → w 7 j = kn j ∧ 0 ≤ kn j ∧ kn j ≤ 1023) (hr : ROK w) (hlt : w 24 4 < 2147483647) : PC (f_E_bars w) (fun r _ => BRQ P kn (gs P s) (fre P s h) r) := by
  have hgb : ∀ k, k < 10 → gs P s k = true → (k : Int) < P := fun k _ h => gs_P h
  have hfb : ∀ k : Nat, k < 10 → fre P s h k = true → (k : Int) < P := fun k _ hf => (fre_0 hf).1
  have p2 := p2_1024 hP
  unfold f_E_bars
  refine pc_call (eg_e hW) (fun r1 u2 q => ?_)
  rw [q.1, bcs_e q.2, jc_s]
  refine pc_call (epairs_pc (kn := kn) hP hW h3 h5 hg h7 hkn hr hlt) (fun k u z => ?_)
  obtain ⟨z1, z2, z3, z4⟩ := z
  have u5 : u 5 = w 5 := z1.1 5 (by decide) (by decide) (by decide) (by decide)
  have u7 : u 7 = w 7 := z1.1 7 (by decide) (by decide) (by decide) (by decide)
  refine pc_call (mo_pc z3) (fun r7 u8 q8 => ?_)
  rw [q8.1, q8.2, bcs_e (b10_self (ls_rg z1.2.2.2.1 (k := k.toNat) (by omega))), jc_s, if_neg (by decide)]
  have m0 := mpv_rg P kn (gs P s) (fre P s h) P.toNat 0
  have g10 := pn_le (gs P s) 10
  rw [z4, idiv_k (by decide) (by omega), show 2 * mpv P kn (gs P s) (fre P s h) P.toNat 0 / 2 = mpv P kn (gs P s) (fre P s h) P.toNat 0 by omega, w32_id (by omega)]
  refine pc_let (fun x11 e11 => ?_)
  rw [e11]
  obtain ⟨v0, hv0, hs0, hd0⟩ := sur_ex (kn := kn) (br := gs P s) (fr := fre P s h) hP hgb hfb
  have hv0r : v0 ≤ r1 := sub_le (by omega) q.2.1 (fun k hk hb => by rw [q.2.2 k hk]; exact hs0 k hk hb)
  have pcT : ∀ o : Option (Int × Wd), PC o (fun _ _ => True) := fun _ _ _ _ => trivial
  have l32 : ∀ (n : Nat) {v3 : Int}, 0 ≤ v3 → (∀ v, 0 ≤ v → v < v3 → SBG (gs P s) v → sur P kn (fre P s h) v ≠ ((pn (gs P s) 10 : Nat) : Int) - mpv P kn (gs P s) (fre P s h) P.toNat 0) → PC (f_E_bars_32 n r1 (((pn (gs P s) 10 : Nat) : Int) - mpv P kn (gs P s) (fre P s h) P.toNat 0) v3 u) (fun r _ => BRQ P kn (gs P s) (fre P s h) r) := by
    intro n
    induction n with
    | zero => intros; exact pc_none
    | succ n ih =>
      intro v3 i3 hN
      have r1b := q.2.1
      rw [f_E_bars_32]
      unfold f_E_bars_89
      refine pc_ite (fun c => absurd hd0 (hN v0 hv0.1 (by omega) hs0)) (fun c => ?_)
      have v3b : 0 ≤ v3 ∧ v3 ≤ 1023 := by omega
      refine pc_call (knb_e (w := u) (x := v3) (f := bt v3) (by rw [u5, h3]; exact hP) (fun _ _ => rfl) (fun j hj => by rw [u5, h3] at hj; rw [u7, (hkn j hj).1]; exact (hkn j hj).2)) (fun r12 u13 q12 => ?_)
      rw [q12.1]
      have b12 := q12.2
      rw [u5, u7, h3] at b12
      refine pc_call (ef_e (w := u) (by rw [u5]; exact hW) hP (by rw [u5]; exact h3) (by rw [u5]; exact h5)) (fun r14 u15 q14 => pc_let (fun x16 e16 => ?_))
      rw [q14.1]
      have b16 := b10_and b12 q14.2.2
      rw [← e16] at b16
      have nx : (SBG (gs P s) v3 → sur P kn (fre P s h) v3 ≠ ((pn (gs P s) 10 : Nat) : Int) - mpv P kn (gs P s) (fre P s h) P.toNat 0) → PC (jlet (w32 (v3 + 1)) fun x17 => f_E_bars_32 n r1 (((pn (gs P s) 10 : Nat) : Int) - mpv P kn (gs P s) (fre P s h) P.toNat 0) x17 u) (fun r _ => BRQ P kn (gs P s) (fre P s h) r) := fun hne => pc_let (fun x17 e17 => by
        rw [w32_id (by omega)] at e17
        rw [e17]
        refine ih (by omega) (fun v h0 hlt hs => ?_)
        by_cases c : v < v3
        · exact hN v h0 c hs
        · have ev : v = v3 := by omega
          rw [ev] at hs ⊢
          exact hne hs)
      refine pc_ite (fun cs => ?_) (fun cs => nx (fun hs => absurd ((sub_i (b10_self v3b) q.2).mpr hs) cs))
      have hs := (sub_i (b10_self v3b) q.2).mp cs
      rw [bcs_e (b10_self v3b), jc_s, bcs_e b16, jc_s]
      have e2 : pn (fun k => kbn (w 7) (bt v3) P.toNat k && fre P s h k) 10 = pn (nbh P kn (fre P s h) 0 (bt v3)) 10 := pn_eq (fun k _ => by
        show (kbn (w 7) (bt v3) P.toNat k && fre P s h k) = (fre P s h k && !bt 0 k && kbn kn (bt v3) P.toNat k)
        rw [bt_0, Bool.not_false, Bool.and_true, Bool.and_comm, kbn_w (kn' := kn) (fun i hi => (hkn i (by omega)).1)])
      have es : ((pn (bt v3) 10 : Nat) : Int) - ((pn (fun k => kbn (w 7) (bt v3) P.toNat k && fre P s h k) 10 : Nat) : Int) = sur P kn (fre P s h) v3 := by
        rw [e2]; rfl
      have a1 := pn_le (bt v3) 10
      have a2 := pn_le (fun k => kbn (w 7) (bt v3) P.toNat k && fre P s h k) 10
      rw [w32_id (by omega), es]
      refine pc_ite (fun cd => pc_call (pcT _) (fun _ _ _ => pc_some ⟨v3b, hs, cd, hN⟩)) (fun cd => nx (fun _ => cd))
  exact l32 FU (by decide) (fun v h0 hlt _ => by omega)
theorem rbars_pc {P : Int} {w : Wd} (hP : 0 ≤ P ∧ P ≤ 10) (h0 : w 43 0 = P) (h45 : ∀ j : Nat, (j : Int) < P → 0 ≤ w 45 j ∧ w 45 j ≤ 1023) : PC (f_R_bars w) (fun r _ => BRQ P (w 45) (gs P (w 47)) (fre P (w 47) (w 46)) r) := by
  have hgb : ∀ k, k < 10 → gs P (w 47) k = true → (k : Int) < P := fun k _ h => gs_P h
  have hfb : ∀ k : Nat, k < 10 → fre P (w 47) (w 46) k = true → (k : Int) < P := fun k _ hf => (fre_0 hf).1
  have p2 := p2_1024 hP
  unfold f_R_bars
  refine pc_lw (fun y ey => ?_)
  have y0 : y 43 0 = P := by rw [ey, st_k (by decide)]; exact h0
  have yr : ∀ c, c ≠ 43 → y c = w c := fun c hc => by rw [ey, st_row hc]
  refine pc_call (rg_e (w := y) (by rw [y0]; exact hP)) (fun r2 u3 q => ?_)
  rw [q.1]
  have qb := q.2
  rw [y0, yr 47 (by decide)] at qb
  obtain ⟨v0, hv0, hs0, hd0⟩ := sur_ex (kn := w 45) (br := gs P (w 47)) (fr := fre P (w 47) (w 46)) hP hgb hfb
  have e2P : ishl 1 P = ((2 ^ P.toNat : Nat) : Int) := by
    have := shl_p P.toNat (by omega)
    rw [show ((P.toNat : Nat) : Int) = P by omega] at this
    exact this
  have pcT : ∀ o : Option (Int × Wd), PC o (fun _ _ => True) := fun _ _ _ _ => trivial
  have l20 : ∀ (n : Nat) {v2 v3 v4 v5 : Int}, (0 ≤ v2 ∧ v2 < v5) → v5 ≤ ((2 ^ P.toNat : Nat) : Int) → SBG (gs P (w 47)) v2 → sur P (w 45) (fre P (w 47) (w 46)) v2 = v3 → (∀ v, 0 ≤ v → v < v5 → SBG (gs P (w 47)) v → sur P (w 45) (fre P (w 47) (w 46)) v ≤ v3) → (∀ v, 0 ≤ v → v < v2 → SBG (gs P (w 47)) v → sur P (w 45) (fre P (w 47) (w 46)) v < v3) → PC (f_R_bars_20 n r2 v2 v3 v4 v5 y) (fun r _ => BRQ P (w 45) (gs P (w 47)) (fre P (w 47) (w 46)) r) := by
    intro n
    induction n with
    | zero => intros; exact pc_none
    | succ n ih =>
      intro v2 v3 v4 v5 i2 i5 hS2 hS3 hM hL
      rw [f_R_bars_20, y0, e2P]
      refine pc_ite (fun c => ?_) (fun c => ?_)
      · have d1 := sur_max (kn := w 45) (fr := fre P (w 47) (w 46)) hP hgb hS2
        have d2 := hM v0 hv0.1 (by omega) hs0
        have d3 : BRQ P (w 45) (gs P (w 47)) (fre P (w 47) (w 46)) v2 := ⟨by omega, hS2, by omega, fun v hv0 hlt hs => by
          have := hL v hv0 hlt hs
          omega⟩
        exact pc_lw (fun _ _ => pc_call (pcT _) (fun _ _ _ => pc_call (pcT _) (fun _ _ _ => pc_some d3)))
      · have v5b : 0 ≤ v5 ∧ v5 ≤ 1023 := by omega
        have w5 : w32 (v5 + 1) = v5 + 1 := w32_id (by omega)
        unfold f_R_bars_127
        refine pc_ite (fun cs => ?_) (fun cs => pc_let (fun x14 e14 => ?_))
        · have hs := (sub_i (b10_self v5b) qb).mp cs
          have l49 : ∀ (m : Nat) {v6 v7 : Int}, 0 ≤ v7 → v7 ≤ P → B10 v6 (fun o => kbn (w 45) (bt v5) v7.toNat o && fre P (w 47) (w 46) o) → PC (f_R_bars_49 (f_R_bars_20 n) m r2 v2 v3 v4 v5 v6 v7 y) (fun r _ => BRQ P (w 45) (gs P (w 47)) (fre P (w 47) (w 46)) r) := by
            intro m
            induction m with
            | zero => intros; exact pc_none
            | succ m ihm =>
              intro v6 v7 i7 i7' hB6
              rw [f_R_bars_49, y0]
              unfold f_R_bars_127 f_R_bars_86
              have w7 : w32 (v7 + 1) = v7 + 1 := w32_id (by omega)
              refine pc_ite (fun c7 => ?_) (fun c7 => ?_)
              · rw [bcs_e (b10_self v5b), jc_s, bcs_e hB6, jc_s]
                have e7 : v7 = P := by omega
                have e2 : pn (fun o => kbn (w 45) (bt v5) v7.toNat o && fre P (w 47) (w 46) o) 10 = pn (nbh P (w 45) (fre P (w 47) (w 46)) 0 (bt v5)) 10 := pn_eq (fun k _ => by
                  show (kbn (w 45) (bt v5) v7.toNat k && fre P (w 47) (w 46) k) = (fre P (w 47) (w 46) k && !bt 0 k && kbn (w 45) (bt v5) P.toNat k)
                  rw [bt_0, Bool.not_false, Bool.and_true, Bool.and_comm, e7])
                have es : ((pn (bt v5) 10 : Nat) : Int) - ((pn (fun o => kbn (w 45) (bt v5) v7.toNat o && fre P (w 47) (w 46) o) 10 : Nat) : Int) = sur P (w 45) (fre P (w 47) (w 46)) v5 := by
                  rw [e2]; rfl
                have a1 := pn_le (bt v5) 10
                have a2 := pn_le (fun o => kbn (w 45) (bt v5) v7.toNat o && fre P (w 47) (w 46) o) 10
                rw [w32_id (by omega), es, w5]
                refine pc_let (fun x13 e13 => pc_ite (fun c13 => pc_let (fun x14 e14 => ?_)) (fun c13 => pc_let (fun x14 e14 => ?_)))
                · rw [e14]
                  rw [e13] at c13 ⊢
                  refine ih (by omega) (by omega) hs rfl (fun v h0 hlt hsv => ?_) (fun v h0 hlt hsv => ?_)
                  · by_cases c : v < v5
                    · have := hM v h0 c hsv; omega
                    · rw [show v = v5 by omega]; exact Int.le_refl _
                  · have := hM v h0 hlt hsv; omega
                · rw [e14]
                  rw [e13] at c13
                  refine ih (by omega) (by omega) hS2 hS3 (fun v h0 hlt hsv => ?_) hL
                  by_cases c : v < v5
                  · exact hM v h0 c hsv
                  · rw [show v = v5 by omega]; omega
              · rw [hasR_10 y (b10_self v5b) (by omega), jc_s]
                have t7 : (v7 + 1).toNat = v7.toNat + 1 := by omega
                by_cases hb : bt v5 v7.toNat = true
                · rw [if_pos hb, if_neg (by decide)]
                  refine pc_gd (fun _ => pc_call (rfree_e (w := y) (by rw [y0]; exact hP)) (fun r19 u20 q19 => ?_))
                  rw [q19.1, w7, yr 45 (by decide)]
                  have q2 := q19.2
                  rw [y0, yr 47 (by decide), yr 46 (by decide)] at q2
                  refine pc_let (fun x17 e17 => pc_let (fun x18 e18 => ?_))
                  rw [e17, e18]
                  refine ihm (by omega) (by omega) (b10_w (b10_or hB6 (b10_and (b10_self (h45 v7.toNat (by omega))) q2.2)) (fun o _ => ?_))
                  rw [t7]
                  show (kbn (w 45) (bt v5) v7.toNat o && fre P (w 47) (w 46) o || bt (w 45 v7.toNat) o && fre P (w 47) (w 46) o) = ((kbn (w 45) (bt v5) v7.toNat o || bt v5 v7.toNat && bt (w 45 v7.toNat) o) && fre P (w 47) (w 46) o)
                  rw [hb, Bool.true_and, Bool.and_or_distrib_right]
                · rw [if_neg hb, if_pos rfl, w7]
                  refine pc_let (fun x17 e17 => pc_let (fun x18 e18 => ?_))
                  rw [e17, e18]
                  refine ihm (by omega) (by omega) (b10_w (b10_or hB6 b10_0) (fun o _ => ?_))
                  rw [t7]
                  have hb2 : bt v5 v7.toNat = false := by
                    cases e : bt v5 v7.toNat with
                    | false => rfl
                    | true => exact absurd e hb
                  show (kbn (w 45) (bt v5) v7.toNat o && fre P (w 47) (w 46) o || false) = ((kbn (w 45) (bt v5) v7.toNat o || bt v5 v7.toNat && bt (w 45 v7.toNat) o) && fre P (w 47) (w 46) o)
                  rw [hb2, Bool.false_and, Bool.or_false, Bool.or_false]
          exact l49 FU (by decide) hP.1 (b10_w b10_0 (fun _ _ => rfl))
        · rw [w5] at e14
          rw [e14]
          refine ih (by omega) (by omega) hS2 hS3 (fun v h0 hlt hsv => ?_) hL
          by_cases c : v < v5
          · exact hM v h0 c hsv
          · rw [show v = v5 by omega] at hsv
            exact absurd ((sub_i (b10_self v5b) qb).mpr hsv) cs
  have z0 : SBG (gs P (w 47)) 0 := fun k _ hb => by rw [bt_0] at hb; cases hb
  have s0 : sur P (w 45) (fre P (w 47) (w 46)) 0 = 0 := by
    unfold sur
    rw [pn_0 (f := bt 0) (fun k _ => bt_0 k), pn_0 (f := nbh P (w 45) (fre P (w 47) (w 46)) 0 (bt 0)) (fun o _ => by
      cases e : nbh P (w 45) (fre P (w 47) (w 46)) 0 (bt 0) o with
      | false => rfl
      | true => rw [nbh_t] at e; obtain ⟨_, _, i, _, c, _⟩ := e; rw [bt_0] at c; cases c)]
    rfl
  exact l20 FU (by decide) (by omega) z0 s0 (fun v h0 hlt _ => by rw [show v = 0 by omega, s0]; exact Int.le_refl _) (fun v h0 hlt _ => by omega)
theorem er_bars {a w : Wd} (h : ER a w) (hr : ROK w) (hlt : w 24 4 < 2147483647) : PC (f_E_bars w) (fun r _ => PC (f_R_bars a) (fun r' _ => r = r')) := by
  have x0 : 0 ≤ a 43 0 ∧ a 43 0 ≤ 10 := h.2.2.1
  have x3 : w 5 3 = a 43 0 := h.1.1.2.1
  have xp : ∀ j : Nat, (j : Int) < a 43 0 → w 6 j = a 44 j ∧ w 7 j = a 45 j ∧ w 8 j = a 48 j := h.1.2.1
  have xh : B10 (w 5 5) (hB (a 43 0) (a 46)) := h.1.2.2.1
  have xw : WH (w 5 4) (a 47) (a 43 0) := h.1.2.2.2.1
  have x7 : w 5 7 = a 43 10 := h.1.1.2.2.1.1
  have x45 : ∀ j : Nat, (j : Int) < a 43 0 → 0 ≤ a 45 j ∧ a 45 j ≤ 1023 := h.2.2.2.2.2.1
  have xg : 1 ≤ a 43 10 ∧ a 43 10 ≤ 3 := h.1.2.2.2.2.2.2.2.2.2.2.1
  refine pc_w (ebars_pc (kn := a 45) x0 xw x3 xh xg x7 (fun j hj => ⟨(xp j hj).2.1, x45 j hj⟩) hr hlt) (fun r _ e => ?_)
  exact pc_w (rbars_pc x0 rfl x45) (fun r' _ e' => brq_one e e')
/-! FAR: steps of KNOWING, by both -/
def kst (P : Int) (kn : Nat → Int) (F H : Nat → Bool) (i : Nat) : Nat → Nat → Bool
  | 0, o => decide (o = i)
  | d + 1, o => kst P kn F H i d o || (kbn kn (fun x => kst P kn F H i d x && !H x) P.toNat o && (F o || H o))
theorem kst_m {P : Int} {kn : Nat → Int} {F H : Nat → Bool} {i d e o : Nat} (h : kst P kn F H i d o = true) (hd : d ≤ e) : kst P kn F H i e o = true := by
  induction e with
  | zero => rw [show d = 0 by omega] at h; exact h
  | succ e ih =>
    by_cases c : d = e + 1
    · rw [← c]; exact h
    · rw [kst, ih (by omega)]; rfl
theorem kst_s {P : Int} {kn : Nat → Int} {F H : Nat → Bool} {i d o : Nat} : kst P kn F H i (d + 1) o = true ↔ kst P kn F H i d o = true ∨ (∃ x, x < P.toNat ∧ (kst P kn F H i d x = true ∧ H x = false) ∧ bt (kn x) o = true) ∧ (F o = true ∨ H o = true) := by
  rw [kst, Bool.or_eq_true, Bool.and_eq_true, Bool.or_eq_true, kbn_t]
  have hb : ∀ x, (kst P kn F H i d x && !H x) = true ↔ (kst P kn F H i d x = true ∧ H x = false) := fun x => by
    cases kst P kn F H i d x <;> cases H x <;> simp
  constructor
  · rintro (a | ⟨⟨x, hx, a, b⟩, c⟩)
    · exact Or.inl a
    · exact Or.inr ⟨⟨x, hx, (hb x).mp a, b⟩, c⟩
  · rintro (a | ⟨⟨x, hx, a, b⟩, c⟩)
    · exact Or.inl a
    · exact Or.inr ⟨⟨x, hx, (hb x).mpr a, b⟩, c⟩
def FTD (P : Int) (kn : Nat → Int) (F H : Nat → Bool) (i d : Nat) : Prop := ∃ q : Nat, (q : Int) < P ∧ H q = true ∧ kst P kn F H i d q = true
def FAQ (P : Int) (kn : Nat → Int) (F H : Nat → Bool) (i : Nat) (r : Int) : Prop := (r = -2 ∧ ∀ d : Nat, (d : Int) ≤ P → ¬ FTD P kn F H i d) ∨ ((0 ≤ r ∧ r ≤ P) ∧ FTD P kn F H i r.toNat ∧ ∀ d : Nat, (d : Int) < r → ¬ FTD P kn F H i d)
theorem faq_one {P : Int} {kn : Nat → Int} {F H : Nat → Bool} {i : Nat} {r r' : Int} (a : FAQ P kn F H i r) (b : FAQ P kn F H i r') : r = r' := by
  rcases a with ⟨a1, a2⟩ | ⟨a1, a2, a3⟩
  · rcases b with ⟨b1, _⟩ | ⟨b1, b2, _⟩
    · omega
    · exact absurd b2 (a2 _ (by omega))
  · rcases b with ⟨_, b2⟩ | ⟨b1, b2, b3⟩
    · exact absurd a2 (b2 _ (by omega))
    · rcases Int.lt_trichotomy r r' with c | c | c
      · exact absurd a2 (b3 _ (by omega))
      · exact c
      · exact absurd b2 (a3 _ (by omega))
/-- the class: who is within so many steps -/
def wthn (P : Int) (kn : Nat → Int) (F H : Nat → Bool) (i d o : Nat) : Bool := kst P kn F H i d o && !H o
theorem win_pc {P : Int} {s h kn : Nat → Int} {w : Wd} {v1 k : Int} (hP : 0 ≤ P ∧ P ≤ 10) (hW : WH (w 5 4) s P) (h3 : w 5 3 = P) (h5 : B10 (w 5 5) (hB P h)) (hkn : ∀ j : Nat, (j : Int) < P → w 7 j = kn j ∧ 0 ≤ kn j ∧ kn j ≤ 1023) (hv : 0 ≤ v1 ∧ v1 < P) (hf : fre P s h v1.toNat = true) (hk : 0 ≤ k ∧ k ≤ 20) : PC (f_F_within v1 k w) (fun r u => u = w ∧ B10 r (wthn P kn (fre P s h) (gs P s) v1.toNat k.toNat)) := by
  have nofg : ∀ o, o < 10 → fre P s h o = true → gs P s o = false := fun o ho e => by
    cases c : gs P s o with
    | false => rfl
    | true => rw [gs_fre (h := h) o ho c] at e; cases e
  have l12 : ∀ (n : Nat) {v3 v4 : Int}, 0 ≤ v4 → v4 ≤ k → B10 v3 (wthn P kn (fre P s h) (gs P s) v1.toNat v4.toNat) → PC (f_F_within_12 n k v3 v4 w) (fun r u => u = w ∧ B10 r (wthn P kn (fre P s h) (gs P s) v1.toNat k.toNat)) := by
    intro n
    induction n with
    | zero => intros; exact pc_none
    | succ n ih =>
      intro v3 v4 i4 i4' hB3
      rw [f_F_within_12]
      refine pc_ite (fun c => pc_some ⟨rfl, by rw [show k = v4 by omega]; exact hB3⟩) (fun c => ?_)
      refine pc_call (knb_e (w := w) (x := v3) (f := wthn P kn (fre P s h) (gs P s) v1.toNat v4.toNat) (by rw [h3]; exact hP) hB3.2 (fun j hj => by rw [h3] at hj; rw [(hkn j hj).1]; exact (hkn j hj).2)) (fun r4 u5 q => ?_)
      rw [q.1]
      have q2 := q.2
      rw [h3] at q2
      refine pc_call (ef_e hW hP h3 h5) (fun r6 u7 z => pc_let (fun x8 e8 => pc_let (fun x9 e9 => ?_)))
      rw [w32_id (by omega)] at e9
      rw [z.1, e8, e9]
      refine ih (by omega) (by omega) (b10_w (b10_or hB3 (b10_and q2 z.2.2)) (fun o ho => ?_))
      rw [show (v4 + 1).toNat = v4.toNat + 1 by omega]
      show (wthn P kn (fre P s h) (gs P s) v1.toNat v4.toNat o || (kbn (w 7) (wthn P kn (fre P s h) (gs P s) v1.toNat v4.toNat) P.toNat o && fre P s h o)) = ((kst P kn (fre P s h) (gs P s) v1.toNat v4.toNat o || (kbn kn (fun x => kst P kn (fre P s h) (gs P s) v1.toNat v4.toNat x && !gs P s x) P.toNat o && (fre P s h o || gs P s o))) && !gs P s o)
      rw [kbn_w (kn' := kn) (fun i hi => (hkn i (by omega)).1)]
      show ((kst P kn (fre P s h) (gs P s) v1.toNat v4.toNat o && !gs P s o) || (kbn kn (fun x => kst P kn (fre P s h) (gs P s) v1.toNat v4.toNat x && !gs P s x) P.toNat o && fre P s h o)) = _
      have nf := nofg o ho
      cases a : kst P kn (fre P s h) (gs P s) v1.toNat v4.toNat o <;> cases b : kbn kn (fun x => kst P kn (fre P s h) (gs P s) v1.toNat v4.toNat x && !gs P s x) P.toNat o <;> cases c1 : fre P s h o <;> cases c2 : gs P s o <;> simp [c1, c2] at nf ⊢
  unfold f_F_within
  refine pc_call (ef_e hW hP h3 h5) (fun r1 u2 z => pc_let (fun x3 e3 => ?_))
  rw [z.1, e3]
  refine l12 FU (by decide) hk.1 (b10_w (b10_and (b10_1 (i := v1) (by omega)) z.2.2) (fun o ho => ?_))
  show (decide (o = v1.toNat) && fre P s h o) = (decide (o = v1.toNat) && !gs P s o)
  by_cases c : o = v1.toNat
  · rw [c, hf, nofg v1.toNat (by omega) hf]; rfl
  · rw [decide_eq_false c]; rfl
theorem efar_pc {P : Int} {s h kn : Nat → Int} {w : Wd} {v1 : Int} (hP : 0 ≤ P ∧ P ≤ 10) (hW : WH (w 5 4) s P) (h3 : w 5 3 = P) (h5 : B10 (w 5 5) (hB P h)) (hkn : ∀ j : Nat, (j : Int) < P → w 7 j = kn j ∧ 0 ≤ kn j ∧ kn j ≤ 1023) (hsy : ∀ i j : Nat, (i : Int) < P → (j : Int) < P → bt (kn i) j = bt (kn j) i) : PC (f_E_far v1 w) (fun r _ => (¬ (0 ≤ v1 ∧ v1 < P) ∧ r = -1) ∨ ((0 ≤ v1 ∧ v1 < P) ∧ ((gs P s v1.toNat = false ∧ fre P s h v1.toNat = false ∧ r = -2) ∨ ((gs P s v1.toNat = true ∨ fre P s h v1.toNat = true) ∧ FAQ P kn (fre P s h) (gs P s) v1.toNat r)))) := by
  have pcT : ∀ o : Option (Int × Wd), PC o (fun _ _ => True) := fun _ _ _ _ => trivial
  unfold f_E_far
  refine pc_call (it_pc v1 w) (fun r1 u2 z => ?_)
  rw [z.1, z.2, h3]
  by_cases cv : 0 ≤ v1 ∧ v1 < P
  · rw [show hd P v1 = 1 from if_pos cv, if_neg (by decide)]
    have v10 : 0 ≤ v1 ∧ v1 < 10 := by omega
    have ev : ((v1.toNat : Nat) : Int) = v1 := by omega
    refine pc_call (eg_e hW) (fun r3 u4 q => ?_)
    rw [q.1, has_10 w q.2 v10, jc_s]
    by_cases cg : gs P s v1.toNat = true
    · rw [if_pos cg, if_neg (by decide)]
      refine pc_call (pcT _) (fun _ _ _ => pc_some (Or.inr ⟨cv, Or.inr ⟨Or.inl cg, Or.inr ⟨by omega, ⟨v1.toNat, by omega, cg, decide_eq_true rfl⟩, fun d hd => by omega⟩⟩⟩))
    · rw [if_neg cg, if_pos rfl]
      have cg2 : gs P s v1.toNat = false := by
        cases e : gs P s v1.toNat with
        | false => rfl
        | true => exact absurd e cg
      refine pc_call (ef_e hW hP h3 h5) (fun r7 u8 q7 => ?_)
      rw [q7.1, has_10 w q7.2 v10, jc_s]
      by_cases cf : fre P s h v1.toNat = true
      · rw [if_pos cf, if_neg (by decide)]
        refine pc_call (eg_e hW) (fun r11 u12 q11 => ?_)
        rw [q11.1]
        refine pc_call (knb_e (w := w) (x := r11) (f := gs P s) (by rw [h3]; exact hP) q11.2.2 (fun j hj => by rw [h3] at hj; rw [(hkn j hj).1]; exact (hkn j hj).2)) (fun r13 u14 q13 => ?_)
        rw [q13.1]
        have b13 := q13.2
        rw [h3] at b13
        -- whom a GUEST KNOWS within so many steps: one more leads to a GUEST
        have hit : ∀ k : Nat, (∃ q, q < 10 ∧ (wthn P kn (fre P s h) (gs P s) v1.toNat k q && kbn (w 7) (gs P s) P.toNat q) = true) ↔ FTD P kn (fre P s h) (gs P s) v1.toNat (k + 1) ∨ FTD P kn (fre P s h) (gs P s) v1.toNat k := fun k => by
          have wP : ∀ d q, kst P kn (fre P s h) (gs P s) v1.toNat d q = true → (q : Int) < P := fun d => by
            induction d with
            | zero => intro q e; rw [of_decide_eq_true e]; omega
            | succ d ih =>
              intro q e
              rcases kst_s.mp e with e | ⟨_, e | e⟩
              · exact ih q e
              · exact (fre_0 e).1
              · exact gs_P e
          have frm : ∀ d g, kst P kn (fre P s h) (gs P s) v1.toNat d g = true → gs P s g = true → ∃ d' x, d = d' + 1 ∧ (x < P.toNat ∧ (kst P kn (fre P s h) (gs P s) v1.toNat d' x = true ∧ gs P s x = false) ∧ bt (kn x) g = true) ∨ False := fun d => by
            induction d with
            | zero => intro g e hg; rw [of_decide_eq_true e, cg2] at hg; cases hg
            | succ d ih =>
              intro g e hg
              rcases kst_s.mp e with e2 | ⟨⟨x, hx, a, b⟩, _⟩
              · obtain ⟨d', x, hh⟩ := ih g e2 hg
                rcases hh with ⟨h1, h2, h3', h4⟩ | hh
                · exact ⟨d, x, Or.inl ⟨rfl, h2, ⟨kst_m h3'.1 (by omega), h3'.2⟩, h4⟩⟩
                · exact hh.elim
              · exact ⟨d, x, Or.inl ⟨rfl, hx, a, b⟩⟩
          have bw : ∀ d g, d ≤ k + 1 → kst P kn (fre P s h) (gs P s) v1.toNat d g = true → gs P s g = true → ∃ q, q < 10 ∧ (wthn P kn (fre P s h) (gs P s) v1.toNat k q && kbn (w 7) (gs P s) P.toNat q) = true := fun d g hd e hg => by
            obtain ⟨d', x, hh⟩ := frm d g e hg
            rcases hh with ⟨h1, h2, h3', h4⟩ | hh
            · refine ⟨x, by omega, ?_⟩
              rw [Bool.and_eq_true]
              refine ⟨?_, ?_⟩
              · unfold wthn; rw [kst_m h3'.1 (show d' ≤ k by omega), h3'.2]; rfl
              · rw [kbn_t]
                have hgP := gs_P hg
                exact ⟨g, by omega, hg, by rw [(hkn g hgP).1, ← hsy x g (by omega) hgP]; exact h4⟩
            · exact hh.elim
          constructor
          · rintro ⟨q, hq, e⟩
            rw [Bool.and_eq_true] at e
            have e1 := e.1
            unfold wthn at e1
            rw [Bool.and_eq_true] at e1
            have hqP := wP _ _ e1.1
            obtain ⟨g, hg, a, b⟩ := kbn_t.mp e.2
            have hgq : gs P s q = false := by
              cases c : gs P s q with
              | false => rfl
              | true => have := e1.2; rw [c] at this; cases this
            refine Or.inl ⟨g, by omega, a, kst_s.mpr (Or.inr ⟨⟨q, by omega, ⟨e1.1, hgq⟩, ?_⟩, Or.inr a⟩)⟩
            rw [(hkn g (by omega)).1] at b
            rw [hsy q g hqP (by omega)]; exact b
          · rintro (⟨g, _, a, b⟩ | ⟨g, _, a, b⟩)
            · exact bw (k + 1) g (Nat.le_refl _) b a
            · exact bw k g (by omega) b a
        have n0 : ¬ FTD P kn (fre P s h) (gs P s) v1.toNat 0 := fun ⟨g, _, a, b⟩ => by
          rw [of_decide_eq_true b, cg2] at a; cases a
        have l118 : ∀ {v3 : Int}, ((v3 = -1 ∧ ∀ d : Nat, (d : Int) ≤ P → ¬ FTD P kn (fre P s h) (gs P s) v1.toNat d) ∨ ((0 ≤ v3 ∧ v3 < P) ∧ FTD P kn (fre P s h) (gs P s) v1.toNat (v3.toNat + 1) ∧ ∀ d : Nat, (d : Int) ≤ v3 → ¬ FTD P kn (fre P s h) (gs P s) v1.toNat d)) → PC (f_E_far_118 v1 r13 v3 w) (fun r _ => FAQ P kn (fre P s h) (gs P s) v1.toNat r) := fun {v3} hh => by
          unfold f_E_far_118
          rcases hh with ⟨e, hn⟩ | ⟨hr, ht, hn⟩
          · exact pc_ite (fun _ => pc_some (Or.inl ⟨rfl, hn⟩)) (fun c => absurd e c)
          · refine pc_ite (fun c => by omega) (fun _ => pc_call (pcT _) (fun _ _ _ => pc_some (Or.inr ?_)))
            rw [w32_id (by omega), show (v3 + 1).toNat = v3.toNat + 1 by omega]
            exact ⟨by omega, ht, fun d hd => hn d (by omega)⟩
        have l73 : ∀ (n : Nat) {v3 v4 : Int}, 0 ≤ v4 → v4 ≤ P → ((v3 = -1 ∧ ∀ d : Nat, (d : Int) ≤ v4 → ¬ FTD P kn (fre P s h) (gs P s) v1.toNat d) ∨ ((0 ≤ v3 ∧ v3 < P) ∧ FTD P kn (fre P s h) (gs P s) v1.toNat (v3.toNat + 1) ∧ ∀ d : Nat, (d : Int) ≤ v3 → ¬ FTD P kn (fre P s h) (gs P s) v1.toNat d)) → PC (f_E_far_73 n v1 r13 v3 v4 w) (fun r _ => FAQ P kn (fre P s h) (gs P s) v1.toNat r) := by
          intro n
          induction n with
          | zero => intros; exact pc_none
          | succ n ih =>
            intro v3 v4 i4 i4' hh
            rw [f_E_far_73, h3]
            unfold f_E_far_111
            refine pc_ite (fun c => l118 ?_) (fun c => pc_ite (fun c3 => ?_) (fun c3 => l118 ?_))
            · rw [show v4 = P by omega] at hh; exact hh
            · have hn : ∀ d : Nat, (d : Int) ≤ v4 → ¬ FTD P kn (fre P s h) (gs P s) v1.toNat d := by
                rcases hh with ⟨_, hn⟩ | ⟨hr, _⟩
                · exact hn
                · omega
              refine pc_call (win_pc hP hW h3 h5 hkn cv cf ⟨i4, by omega⟩) (fun r17 u18 q17 => ?_)
              rw [q17.1, w32_id (by omega)]
              have hand := b10_and q17.2 b13.2
              have hv4 := hn v4.toNat (by omega)
              refine pc_ite (fun c0 => pc_let (fun x19 e19 => ?_)) (fun c0 => pc_let (fun x19 e19 => ?_))
              · rw [e19]
                refine ih (by omega) (by omega) (Or.inl ⟨rfl, fun d hd hT => ?_⟩)
                by_cases cd : (d : Int) ≤ v4
                · exact hn d cd hT
                · rw [show d = v4.toNat + 1 by omega] at hT
                  obtain ⟨q, hq, e⟩ := (hit v4.toNat).mpr (Or.inl hT)
                  rcases b10_some hand with ⟨_, hz⟩ | ⟨hne, _⟩
                  · have := hz q hq
                    rw [e] at this; cases this
                  · exact hne c0
              · rw [e19]
                refine ih (by omega) (by omega) (Or.inr ⟨by omega, ?_, hn⟩)
                rcases b10_some hand with ⟨e, _⟩ | ⟨_, q, hq, e⟩
                · exact absurd e c0
                · rcases (hit v4.toNat).mp ⟨q, hq, e⟩ with hT | hT
                  · exact hT
                  · exact absurd hT hv4
            · rcases hh with ⟨e, _⟩ | hh
              · exact absurd e c3
              · exact Or.inr hh
        refine pc_w (l73 FU (by decide) hP.1 (Or.inl ⟨rfl, fun d hd => by rw [show d = 0 by omega]; exact n0⟩)) (fun r _ hq => Or.inr ⟨cv, Or.inr ⟨Or.inr cf, hq⟩⟩)
      · rw [if_neg cf, if_pos rfl]
        have cf2 : fre P s h v1.toNat = false := by
          cases e : fre P s h v1.toNat with
          | false => rfl
          | true => exact absurd e cf
        exact pc_some (Or.inr ⟨cv, Or.inl ⟨cg2, cf2, rfl⟩⟩)
  · rw [show hd P v1 = 0 from if_neg cv, if_pos rfl]
    exact pc_some (Or.inl ⟨cv, rfl⟩)
/-! FAR: the reference, and both -/
def KIN (P : Int) (kn : Nat → Int) (F H : Nat → Bool) (i : Nat) (L : Int) (u : Wd) : Prop := ∀ o : Nat, (o : Int) < P → (u 78 o = 1000000 ∧ kst P kn F H i L.toNat o = false) ∨ ∃ d : Nat, (d : Int) ≤ L ∧ u 78 o = (d : Int) ∧ kst P kn F H i d o = true ∧ ∀ d', d' < d → kst P kn F H i d' o = false
def KQX (kn : Nat → Int) (F H : Nat → Bool) (L : Int) (b : Wd) (x o : Nat) : Prop := b 78 x = L ∧ H x = false ∧ bt (kn x) o = true ∧ (F o = true ∨ H o = true)
def KQR (kn : Nat → Int) (F H : Nat → Bool) (L : Int) (b : Wd) (v4 v5 : Int) (o : Nat) : Prop := (∃ x : Nat, (x : Int) < v4 ∧ KQX kn F H L b x o) ∨ (KQX kn F H L b v4.toNat o ∧ (o : Int) < v5)
def KIM (P : Int) (kn : Nat → Int) (F H : Nat → Bool) (L : Int) (b : Wd) (v4 v5 : Int) (u : Wd) : Prop := ∀ o : Nat, (o : Int) < P → (b 78 o ≠ 1000000 → u 78 o = b 78 o) ∧ (b 78 o = 1000000 → (KQR kn F H L b v4 v5 o → u 78 o = L + 1) ∧ (¬ KQR kn F H L b v4 v5 o → u 78 o = 1000000))
theorem kim_w {P : Int} {kn : Nat → Int} {F H : Nat → Bool} {L : Int} {b : Wd} {v4 v5 v4' v5' : Int} {u : Wd} (h : KIM P kn F H L b v4 v5 u) (hR : ∀ o : Nat, (o : Int) < P → (KQR kn F H L b v4' v5' o ↔ KQR kn F H L b v4 v5 o)) : KIM P kn F H L b v4' v5' u := by
  intro o ho
  have := h o ho
  rw [hR o ho]
  exact this
theorem kin_s {P : Int} {kn : Nat → Int} {F H : Nat → Bool} {i : Nat} {L : Int} {b u : Wd} (hP : 0 ≤ P ∧ P ≤ 10) (hL : 0 ≤ L ∧ L < P) (hb : KIN P kn F H i L b) (hm : KIM P kn F H L b P 0 u) : KIN P kn F H i (L + 1) u := by
  intro o ho
  have hmo := hm o ho
  have eL : (L + 1).toNat = L.toNat + 1 := by omega
  rw [eL]
  rcases hb o ho with ⟨b1, b2⟩ | ⟨d, b1, b2, b3, b4⟩
  · have m := hmo.2 b1
    by_cases hR : KQR kn F H L b P 0 o
    · refine Or.inr ⟨L.toNat + 1, by omega, by rw [m.1 hR]; omega, ?_, fun d' hd' => ?_⟩
      · rcases hR with ⟨x, hx, x1, x2, x3, x4⟩ | ⟨_, c⟩
        · rcases hb x hx with ⟨y1, _⟩ | ⟨d, y1, y2, y3, _⟩
          · omega
          · have : d = L.toNat := by omega
            rw [this] at y3
            exact kst_s.mpr (Or.inr ⟨⟨x, by omega, ⟨y3, x2⟩, x3⟩, x4⟩)
        · omega
      · cases e : kst P kn F H i d' o with
        | false => rfl
        | true => rw [kst_m e (show d' ≤ L.toNat by omega)] at b2; cases b2
    · refine Or.inl ⟨m.2 hR, ?_⟩
      cases e : kst P kn F H i (L.toNat + 1) o with
      | false => rfl
      | true =>
        rcases kst_s.mp e with e2 | ⟨⟨x, hx, ⟨x1, x2⟩, x3⟩, x4⟩
        · rw [e2] at b2; cases b2
        · refine absurd (Or.inl ⟨x, by omega, ?_, x2, x3, x4⟩) hR
          rcases hb x (by omega) with ⟨_, y2⟩ | ⟨d, y1, y2, y3, _⟩
          · rw [x1] at y2; cases y2
          · by_cases c : (d : Int) = L
            · rw [y2]; exact c
            · have k1 : kst P kn F H i (d + 1) o = true := kst_s.mpr (Or.inr ⟨⟨x, hx, ⟨y3, x2⟩, x3⟩, x4⟩)
              rw [kst_m k1 (show d + 1 ≤ L.toNat by omega)] at b2
              cases b2
  · have m := hmo.1 (by rw [b2]; omega)
    exact Or.inr ⟨d, by omega, by rw [m]; exact b2, b3, b4⟩
theorem rfar_pc {P : Int} {w : Wd} {v1 : Int} (hP : 0 ≤ P ∧ P ≤ 10) (h0 : w 43 0 = P) (h45 : ∀ j : Nat, (j : Int) < P → 0 ≤ w 45 j ∧ w 45 j ≤ 1023) : PC (f_R_far v1 w) (fun r _ => (¬ (0 ≤ v1 ∧ v1 < P) ∧ r = -1) ∨ ((0 ≤ v1 ∧ v1 < P) ∧ ((gs P (w 47) v1.toNat = false ∧ fre P (w 47) (w 46) v1.toNat = false ∧ r = -2) ∨ ((gs P (w 47) v1.toNat = true ∨ fre P (w 47) (w 46) v1.toNat = true) ∧ FAQ P (w 45) (fre P (w 47) (w 46)) (gs P (w 47)) v1.toNat r)))) := by
  have pcT : ∀ o : Option (Int × Wd), PC o (fun _ _ => True) := fun _ _ _ _ => trivial
  unfold f_R_far
  refine pc_lw (fun y ey => ?_)
  have y0 : y 43 0 = P := by rw [ey, st_k (by decide)]; exact h0
  have yr : ∀ c, c ≠ 43 → y c = w c := fun c hc => by rw [ey, st_row hc]
  refine pc_call (io_pc v1 y (by rw [y0]; exact hP)) (fun r2 u3 z => ?_)
  rw [z.1, z.2, y0]
  by_cases cv : 0 ≤ v1 ∧ v1 < P
  · rw [show hd P v1 = 1 from if_pos cv, if_neg (by decide)]
    have v10 : 0 ≤ v1 ∧ v1 < 10 := by omega
    refine pc_call (rfree_e (w := y) (by rw [y0]; exact hP)) (fun r4 u5 q4 => pc_gd (fun _ => ?_))
    rw [q4.1, isG_e, jc_s, yr 47 (by decide)]
    have b4 := q4.2
    rw [y0, yr 47 (by decide), yr 46 (by decide)] at b4
    have gsv : ∀ o : Nat, (o : Int) < P → gs P (w 47) o = gst (w 47 o) := fun o ho => by
      unfold gs; rw [show inP P o = true from decide_eq_true ho]; rfl
    -- all that follows tells the way: the answer stands
    have l341 : ∀ (n : Nat) {v2 v3 v4 v5 : Int} {v : Wd}, PC (f_R_far_341 n v2 v3 v4 v5 v) (fun r _ => r = v3) := by
      intro n
      induction n with
      | zero => intros; exact pc_none
      | succ n ih =>
        intro v2 v3 v4 v5 v
        rw [f_R_far_341]
        refine pc_ite (fun _ => pc_some rfl) (fun _ => ?_)
        have l396 : ∀ (m : Nat) {v6 v7 : Int} {v : Wd}, PC (f_R_far_396 (f_R_far_341 n) m v2 v3 v5 v6 v7 v) (fun r _ => r = v3) := by
          intro m
          induction m with
          | zero => intros; exact pc_none
          | succ m ihm =>
            intro v6 v7 v
            rw [f_R_far_396]
            unfold f_R_far_427
            exact pc_call (pcT _) (fun _ _ _ => pc_ite (fun _ => pc_let (fun _ _ => ihm)) (fun _ => pc_gd (fun _ => pc_ite (fun _ => pc_call (pcT _) (fun _ _ _ => pc_ite (fun _ => pc_let (fun _ _ => ihm)) (fun _ => pc_call (pcT _) (fun _ _ _ => pc_let (fun _ _ => pc_let (fun _ _ => ih)))))) (fun _ => pc_let (fun _ _ => ihm)))))
        have l352 : ∀ (m : Nat) {v6 v7 : Int} {v : Wd}, PC (f_R_far_352 (f_R_far_341 n) m v2 v3 v4 v5 v6 v7 v) (fun r _ => r = v3) := by
          intro m
          induction m with
          | zero => intros; exact pc_none
          | succ m ihm =>
            intro v6 v7 v
            rw [f_R_far_352]
            unfold f_R_far_384
            exact pc_ite (fun _ => l396 FU) (fun _ => pc_call (pcT _) (fun _ _ _ => pc_ite (fun _ => pc_let (fun _ _ => pc_let (fun _ _ => ihm))) (fun _ => pc_gd (fun _ => pc_let (fun _ _ => pc_let (fun _ _ => ihm))))))
        exact l352 FU
    have l284 : ∀ (n : Nat) {v2 v3 v4 v5 : Int} {v : Wd}, PC (f_R_far_284 n v2 v3 v4 v5 v) (fun r _ => r = v3) := by
      intro n
      induction n with
      | zero => intros; exact pc_none
      | succ n ih =>
        intro v2 v3 v4 v5 v
        rw [f_R_far_284]
        unfold f_R_far_326 f_R_far_327
        exact pc_ite (fun _ => pc_let (fun _ _ => l341 FU)) (fun _ => pc_gd (fun _ => pc_call (pcT _) (fun _ _ _ => pc_ite (fun _ => pc_let (fun _ _ => pc_let (fun _ _ => ih))) (fun _ => pc_gd (fun _ => pc_ite (fun _ => pc_let (fun _ _ => pc_let (fun _ _ => ih))) (fun _ => pc_let (fun _ _ => pc_let (fun _ _ => ih))))))))
    -- the nearest GUEST
    have l223 : ∀ (n : Nat) {v3 v4 : Int} {u : Wd}, 0 ≤ v4 → v4 ≤ P → (∀ c, c ≠ 78 → u c = y c) → KIN P (w 45) (fre P (w 47) (w 46)) (gs P (w 47)) v1.toNat P u → ((0 ≤ v3 ∧ v3 ≤ 1000000) ∧ (∀ q : Nat, (q : Int) < v4 → gs P (w 47) q = true → v3 ≤ u 78 q) ∧ (v3 = 1000000 ∨ ∃ q : Nat, (q : Int) < v4 ∧ gs P (w 47) q = true ∧ u 78 q = v3)) → PC (f_R_far_223 n r4 v3 v4 u) (fun r _ => FAQ P (w 45) (fre P (w 47) (w 46)) (gs P (w 47)) v1.toNat r) := by
      intro n
      induction n with
      | zero => intros; exact pc_none
      | succ n ih =>
        intro v3 v4 u i4 i4' hu hI hM
        obtain ⟨m1, m2, m3⟩ := hM
        rw [f_R_far_223, hu 43 (by decide), y0]
        unfold f_R_far_257
        refine pc_ite (fun c => ?_) (fun c => pc_gd (fun _ => ?_))
        · have e4 : v4 = P := by omega
          have pT : (P.toNat : Int) = P := by omega
          refine pc_ite (fun c3 => pc_some (Or.inl ⟨rfl, fun d hd hT => ?_⟩)) (fun c3 => pc_lw (fun u8 _ => pc_w (l284 FU) (fun r _ e => ?_)))
          · obtain ⟨q, q1, q2, q3⟩ := hT
            have := m2 q (by omega) q2
            rcases hI q q1 with ⟨_, e⟩ | ⟨d', e1, e2, _⟩
            · rw [kst_m q3 (show d ≤ P.toNat by omega)] at e; cases e
            · omega
          · rw [e]
            rcases m3 with e3 | ⟨q, q1, q2, q3⟩
            · exact absurd e3 c3
            · rcases hI q (by omega) with ⟨e1, _⟩ | ⟨d, e1, e2, e3', e4'⟩
              · omega
              · refine Or.inr ⟨by omega, ⟨q, by omega, q2, by rw [show v3.toNat = d by omega]; exact e3'⟩, fun d' hd' hT => ?_⟩
                obtain ⟨p, p1, p2, p3⟩ := hT
                have a1 := m2 p (by omega) p2
                rcases hI p p1 with ⟨_, e⟩ | ⟨d2, f1, f2, _, f4⟩
                · rw [kst_m p3 (show d' ≤ P.toNat by omega)] at e; cases e
                · by_cases c2 : d' < d2
                  · rw [f4 d' c2] at p3; cases p3
                  · omega
        · rw [isG_e, jc_s, hu 47 (by decide), yr 47 (by decide), ← gsv v4.toNat (by omega)]
          have w4 : w32 (v4 + 1) = v4 + 1 := w32_id (by omega)
          rw [w4]
          by_cases cg : gs P (w 47) v4.toNat = true
          · rw [if_pos cg]
            refine pc_ite (fun e => absurd e (by decide)) (fun _ => pc_gd (fun _ => pc_let (fun x30 e30 => pc_let (fun x29 e29 => ?_))))
            rw [e29]
            have u78 : 0 ≤ u 78 v4.toNat ∧ u 78 v4.toNat ≤ 1000000 := by
              rcases hI v4.toNat (by omega) with ⟨e1, _⟩ | ⟨d, e1, e2, _⟩ <;> omega
            have im := imin_sp v3 (u 78 v4.toNat)
            refine ih (by omega) (by omega) hu hI ⟨?_, fun q hq hg => ?_, ?_⟩
            · rcases im with ⟨_, e⟩ | ⟨_, e⟩ <;> rw [e30, e] <;> omega
            · by_cases cq : (q : Int) < v4
              · have := m2 q cq hg
                rcases im with ⟨_, e⟩ | ⟨_, e⟩ <;> rw [e30, e] <;> omega
              · rw [show q = v4.toNat by omega]
                rcases im with ⟨_, e⟩ | ⟨_, e⟩ <;> rw [e30, e] <;> omega
            · rcases im with ⟨_, e⟩ | ⟨_, e⟩
              · exact Or.inr ⟨v4.toNat, by omega, cg, by rw [e30, e]⟩
              · rw [e30, e]
                rcases m3 with e3 | ⟨q, q1, q2, q3⟩
                · exact Or.inl e3
                · exact Or.inr ⟨q, by omega, q2, q3⟩
          · rw [if_neg cg]
            refine pc_ite (fun _ => pc_let (fun x29 e29 => ?_)) (fun e => absurd rfl e)
            rw [e29]
            refine ih (by omega) (by omega) hu hI ⟨m1, fun q hq hg => ?_, ?_⟩
            · by_cases cq : (q : Int) < v4
              · exact m2 q cq hg
              · rw [show q = v4.toNat by omega] at hg; exact absurd hg cg
            · rcases m3 with e3 | ⟨q, q1, q2, q3⟩
              · exact Or.inl e3
              · exact Or.inr ⟨q, by omega, q2, q3⟩
    -- one step after the other
    have l79 : ∀ (n : Nat) {L : Int} {b : Wd}, 0 ≤ L → L ≤ P → (∀ c, c ≠ 78 → b c = y c) → KIN P (w 45) (fre P (w 47) (w 46)) (gs P (w 47)) v1.toNat L b → PC (f_R_far_79 n r4 L b) (fun r _ => FAQ P (w 45) (fre P (w 47) (w 46)) (gs P (w 47)) v1.toNat r) := by
      intro n
      induction n with
      | zero => intros; exact pc_none
      | succ n ih =>
        intro L b iL iL' hbu hI
        rw [f_R_far_79, hbu 43 (by decide), y0]
        refine pc_ite (fun c => ?_) (fun c => ?_)
        · rw [show L = P by omega] at hI
          exact l223 FU (by decide) hP.1 hbu hI ⟨by decide, fun q hq => by omega, Or.inl rfl⟩
        · have l90 : ∀ (m : Nat) {v4 : Int} {u : Wd}, 0 ≤ v4 → v4 ≤ P → (∀ c, c ≠ 78 → u c = y c) → KIM P (w 45) (fre P (w 47) (w 46)) (gs P (w 47)) L b v4 0 u → PC (f_R_far_90 (f_R_far_79 n) m r4 L v4 u) (fun r _ => FAQ P (w 45) (fre P (w 47) (w 46)) (gs P (w 47)) v1.toNat r) := by
            intro m
            induction m with
            | zero => intros; exact pc_none
            | succ m ihm =>
              intro v4 u i4 i4' hu hM
              rw [f_R_far_90, hu 43 (by decide), y0]
              have w4 : w32 (v4 + 1) = v4 + 1 := w32_id (by omega)
              -- on to the next
              have nx : ∀ {v5 : Int} {u : Wd}, v4 < P → (∀ c, c ≠ 78 → u c = y c) → KIM P (w 45) (fre P (w 47) (w 46)) (gs P (w 47)) L b v4 v5 u → (∀ o : Nat, (o : Int) < P → KQX (w 45) (fre P (w 47) (w 46)) (gs P (w 47)) L b v4.toNat o → (o : Int) < v5) → PC (f_R_far_204 (f_R_far_79 n) (f_R_far_90 (f_R_far_79 n) m) r4 L v4 u) (fun r _ => FAQ P (w 45) (fre P (w 47) (w 46)) (gs P (w 47)) v1.toNat r) := fun {v5 u} h4 hu hM hq => by
                unfold f_R_far_204
                rw [w4]
                refine pc_let (fun x32 e32 => ?_)
                rw [e32]
                refine ihm (by omega) (by omega) hu (kim_w hM (fun o ho => ?_))
                constructor
                · rintro (⟨x, hx, hh⟩ | ⟨_, c⟩)
                  · by_cases cx : (x : Int) < v4
                    · exact Or.inl ⟨x, cx, hh⟩
                    · rw [show x = v4.toNat by omega] at hh
                      exact Or.inr ⟨hh, hq o ho hh⟩
                  · omega
                · rintro (⟨x, hx, hh⟩ | ⟨hh, _⟩)
                  · exact Or.inl ⟨x, by omega, hh⟩
                  · exact Or.inl ⟨v4.toNat, by omega, hh⟩
              refine pc_ite (fun c4 => pc_let (fun x31 e31 => ?_)) (fun c4 => pc_gd (fun _ => ?_))
              · rw [w32_id (by omega)] at e31
                rw [e31]
                rw [show v4 = P by omega] at hM
                exact ih (by omega) (by omega) hu (kin_s hP ⟨iL, by omega⟩ hI hM)
              · -- its own number: as at the step's beginning
                have own : u 78 v4.toNat = L ↔ b 78 v4.toNat = L := by
                  have hm := hM v4.toNat (by omega)
                  by_cases cb : b 78 v4.toNat = 1000000
                  · have := hm.2 cb
                    by_cases hR : KQR (w 45) (fre P (w 47) (w 46)) (gs P (w 47)) L b v4 0 v4.toNat
                    · have := this.1 hR; omega
                    · have := this.2 hR; omega
                  · rw [hm.1 cb]
                refine pc_ite (fun cL => pc_gd (fun _ => ?_)) (fun cL => nx (by omega) hu hM (fun o _ hh => absurd (own.mpr hh.1) cL))
                rw [isG_e, jc_s, hu 47 (by decide), yr 47 (by decide), ← gsv v4.toNat (by omega)]
                by_cases cg : gs P (w 47) v4.toNat = true
                · rw [if_pos cg]
                  exact pc_ite (fun e => absurd e (by decide)) (fun _ => nx (by omega) hu hM (fun o _ hh => by have h2 := hh.2.1; rw [cg] at h2; cases h2))
                · rw [if_neg cg]
                  have cg2 : gs P (w 47) v4.toNat = false := by
                    cases e : gs P (w 47) v4.toNat with
                    | false => rfl
                    | true => exact absurd e cg
                  refine pc_ite (fun _ => ?_) (fun e => absurd rfl e)
                  have bL := own.mp cL
                  have l129 : ∀ (k : Nat) {v5 : Int} {u : Wd}, 0 ≤ v5 → v5 ≤ P → (∀ c, c ≠ 78 → u c = y c) → KIM P (w 45) (fre P (w 47) (w 46)) (gs P (w 47)) L b v4 v5 u → PC (f_R_far_129 (f_R_far_79 n) (f_R_far_90 (f_R_far_79 n) m) k r4 L v4 v5 u) (fun r _ => FAQ P (w 45) (fre P (w 47) (w 46)) (gs P (w 47)) v1.toNat r) := by
                    intro k
                    induction k with
                    | zero => intros; exact pc_none
                    | succ k ihk =>
                      intro v5 u i5 i5' hu hM
                      rw [f_R_far_129, hu 43 (by decide), y0]
                      have w5 : w32 (v5 + 1) = v5 + 1 := w32_id (by omega)
                      refine pc_ite (fun c5 => nx (by omega) hu hM (fun o ho _ => by omega)) (fun c5 => pc_gd (fun _ => ?_))
                      -- nothing is written
                      have no : (KQX (w 45) (fre P (w 47) (w 46)) (gs P (w 47)) L b v4.toNat v5.toNat → u 78 v5.toNat ≠ 1000000) → PC (f_R_far_198 (f_R_far_79 n) (f_R_far_90 (f_R_far_79 n) m) (f_R_far_129 (f_R_far_79 n) (f_R_far_90 (f_R_far_79 n) m) k) r4 L v4 v5 u) (fun r _ => FAQ P (w 45) (fre P (w 47) (w 46)) (gs P (w 47)) v1.toNat r) := fun hne => by
                        unfold f_R_far_198
                        rw [w5]
                        refine pc_let (fun x37 e37 => ?_)
                        rw [e37]
                        refine ihk (by omega) (by omega) hu (fun o ho => ⟨(hM o ho).1, fun hb => ?_⟩)
                        have hm := (hM o ho).2 hb
                        refine ⟨fun hR => ?_, fun hR => hm.2 (fun hR0 => hR ?_)⟩
                        · by_cases hR0 : KQR (w 45) (fre P (w 47) (w 46)) (gs P (w 47)) L b v4 v5 o
                          · exact hm.1 hR0
                          · rcases hR with hx | ⟨hh, hlt⟩
                            · exact absurd (Or.inl hx) hR0
                            · by_cases co : (o : Int) < v5
                              · exact absurd (Or.inr ⟨hh, co⟩) hR0
                              · have eo : o = v5.toNat := by omega
                                rw [eo] at hh hm hR0
                                exact absurd (hm.2 hR0) (hne hh)
                        · rcases hR0 with hx | ⟨hh, hlt⟩
                          · exact Or.inl hx
                          · exact Or.inr ⟨hh, by omega⟩
                      -- it is written
                      have yes : KQX (w 45) (fre P (w 47) (w 46)) (gs P (w 47)) L b v4.toNat v5.toNat → u 78 v5.toNat = 1000000 → PC (f_R_far_188 (f_R_far_79 n) (f_R_far_90 (f_R_far_79 n) m) (f_R_far_129 (f_R_far_79 n) (f_R_far_90 (f_R_far_79 n) m) k) r4 L v4 v5 u) (fun r _ => FAQ P (w 45) (fre P (w 47) (w 46)) (gs P (w 47)) v1.toNat r) := fun hq h78 => by
                        unfold f_R_far_188 f_R_far_198
                        rw [w5, w32_id (show -2147483648 ≤ L + 1 ∧ L + 1 ≤ 2147483647 by omega)]
                        refine pc_gd (fun _ => pc_lw (fun u40 e40 => pc_let (fun x37 e37 => ?_)))
                        rw [e37]
                        refine ihk (by omega) (by omega) (fun c hc => by rw [e40, st_row hc, hu c hc]) (fun o ho => ?_)
                        by_cases co : o = v5.toNat
                        · have e78 : u40 78 o = L + 1 := by rw [e40, co, st_eq]
                          have hm := hM o ho
                          rw [co] at hm
                          have hb : b 78 v5.toNat = 1000000 := Classical.byContradiction fun hh => by
                            have := hm.1 hh
                            rw [h78] at this
                            exact hh this.symm
                          rw [co] at e78 ⊢
                          refine ⟨fun hh => absurd hb hh, fun _ => ⟨fun _ => e78, fun hR => absurd (Or.inr ⟨hq, by omega⟩) hR⟩⟩
                        · have e78 : u40 78 o = u 78 o := by rw [e40, st_k co]
                          rw [e78]
                          have hm := hM o ho
                          refine ⟨hm.1, fun hb => ⟨fun hR => (hm.2 hb).1 ?_, fun hR => (hm.2 hb).2 (fun hR0 => hR ?_)⟩⟩
                          · rcases hR with hx | ⟨hh, hlt⟩
                            · exact Or.inl hx
                            · exact Or.inr ⟨hh, by omega⟩
                          · rcases hR0 with hx | ⟨hh, hlt⟩
                            · exact Or.inl hx
                            · exact Or.inr ⟨hh, by omega⟩
                      rw [hu 45 (by decide), yr 45 (by decide), hasR_10 u (b10_self (h45 v4.toNat (by omega))) (by omega), jc_s]
                      by_cases cb : bt (w 45 v4.toNat) v5.toNat = true
                      · rw [if_pos cb]
                        refine pc_ite (fun e => absurd e (by decide)) (fun _ => pc_gd (fun _ => pc_ite (fun c78 => ?_) (fun c78 => no (fun _ => c78))))
                        rw [hasR_10 u b4 (by omega), jc_s]
                        by_cases cf : fre P (w 47) (w 46) v5.toNat = true
                        · rw [if_pos cf]
                          exact pc_ite (fun e => absurd e (by decide)) (fun _ => yes ⟨bL, cg2, cb, Or.inl cf⟩ c78)
                        · rw [if_neg cf]
                          refine pc_ite (fun _ => pc_gd (fun _ => ?_)) (fun e => absurd rfl e)
                          rw [isG_e, jc_s, hu 47 (by decide), yr 47 (by decide), ← gsv v5.toNat (by omega)]
                          by_cases cgo : gs P (w 47) v5.toNat = true
                          · rw [if_pos cgo]
                            exact pc_ite (fun e => absurd e (by decide)) (fun _ => yes ⟨bL, cg2, cb, Or.inr cgo⟩ c78)
                          · rw [if_neg cgo]
                            refine pc_ite (fun _ => no (fun hh => ?_)) (fun e => absurd rfl e)
                            rcases hh.2.2.2 with e | e
                            · exact absurd e cf
                            · exact absurd e cgo
                      · rw [if_neg cb]
                        exact pc_ite (fun _ => no (fun hh => absurd hh.2.2.1 cb)) (fun e => absurd rfl e)
                  exact l129 FU (by decide) hP.1 hu hM
          refine l90 FU (by decide) hP.1 hbu (fun o ho => ⟨fun _ => rfl, fun hb => ⟨fun hR => ?_, fun _ => hb⟩⟩)
          rcases hR with ⟨x, hx, _⟩ | ⟨_, c⟩
          · omega
          · omega
    -- the beginning
    have l45 : ∀ (n : Nat) {v3 : Int} {u : Wd}, 0 ≤ v3 → v3 ≤ P → (∀ c, c ≠ 78 → u c = y c) → (∀ o : Nat, (o : Int) < v3 → u 78 o = if o = v1.toNat then 0 else 1000000) → PC (f_R_far_45 n v1 r4 v3 u) (fun r _ => FAQ P (w 45) (fre P (w 47) (w 46)) (gs P (w 47)) v1.toNat r) := by
      intro n
      induction n with
      | zero => intros; exact pc_none
      | succ n ih =>
        intro v3 u i3 i3' hu hM
        rw [f_R_far_45, hu 43 (by decide), y0]
        unfold f_R_far_70
        refine pc_ite (fun c => ?_) (fun c => ?_)
        · refine l79 FU (by decide) hP.1 hu (fun o ho => ?_)
          have := hM o (by omega)
          by_cases co : o = v1.toNat
          · rw [if_pos co] at this
            exact Or.inr ⟨0, by decide, this, decide_eq_true co, fun d' hd' => by omega⟩
          · rw [if_neg co] at this
            exact Or.inl ⟨this, decide_eq_false co⟩
        · have w3 : w32 (v3 + 1) = v3 + 1 := w32_id (by omega)
          rw [w3]
          have go : ∀ {z : Int}, z = (if v3.toNat = v1.toNat then 0 else 1000000) → PC (jgd ((0 : Int) ≤ v3 ∧ v3 < 10) <| jlw (st u 78 v3.toNat z) fun u43 => jlet (v3 + 1) fun x44 => f_R_far_45 n v1 r4 x44 u43) (fun r _ => FAQ P (w 45) (fre P (w 47) (w 46)) (gs P (w 47)) v1.toNat r) := fun {z} hz => by
            refine pc_gd (fun _ => pc_lw (fun u43 e43 => pc_let (fun x44 e44 => ?_)))
            rw [e44]
            refine ih (by omega) (by omega) (fun c hc => by rw [e43, st_row hc, hu c hc]) (fun o ho => ?_)
            by_cases co : o = v3.toNat
            · rw [e43, co, st_eq, hz]
            · rw [e43, st_k co]; exact hM o (by omega)
          refine pc_ite (fun c3 => go (by rw [if_pos (by omega)])) (fun c3 => go (by rw [if_neg (by omega)]))
    have done : PC (f_R_far_43 v1 r4 y) (fun r _ => FAQ P (w 45) (fre P (w 47) (w 46)) (gs P (w 47)) v1.toNat r) := by
      unfold f_R_far_43
      exact l45 FU (by decide) hP.1 (fun _ _ => rfl) (fun o ho => by omega)
    rw [← gsv v1.toNat (by omega)]
    by_cases cg : gs P (w 47) v1.toNat = true
    · rw [if_pos cg]
      exact pc_ite (fun e => absurd e (by decide)) (fun _ => pc_w done (fun r _ q => Or.inr ⟨cv, Or.inr ⟨Or.inl cg, q⟩⟩))
    · rw [if_neg cg]
      have cg2 : gs P (w 47) v1.toNat = false := by
        cases e : gs P (w 47) v1.toNat with
        | false => rfl
        | true => exact absurd e cg
      refine pc_ite (fun _ => ?_) (fun e => absurd rfl e)
      rw [hasR_10 y b4 v10, jc_s]
      by_cases cf : fre P (w 47) (w 46) v1.toNat = true
      · rw [if_pos cf]
        exact pc_ite (fun e => absurd e (by decide)) (fun _ => pc_w done (fun r _ q => Or.inr ⟨cv, Or.inr ⟨Or.inr cf, q⟩⟩))
      · rw [if_neg cf]
        have cf2 : fre P (w 47) (w 46) v1.toNat = false := by
          cases e : fre P (w 47) (w 46) v1.toNat with
          | false => rfl
          | true => exact absurd e cf
        exact pc_ite (fun _ => pc_some (Or.inr ⟨cv, Or.inl ⟨cg2, cf2, rfl⟩⟩)) (fun e => absurd rfl e)
  · rw [show hd P v1 = 0 from if_neg cv, if_pos rfl]
    exact pc_some (Or.inl ⟨cv, rfl⟩)
theorem er_far {a w : Wd} {v1 : Int} (h : ER a w) (hk : Ks a) : PC (f_E_far v1 w) (fun r _ => PC (f_R_far v1 a) (fun r' _ => r = r')) := by
  have x0 : 0 ≤ a 43 0 ∧ a 43 0 ≤ 10 := h.2.2.1
  have x3 : w 5 3 = a 43 0 := h.1.1.2.1
  have xp : ∀ j : Nat, (j : Int) < a 43 0 → w 6 j = a 44 j ∧ w 7 j = a 45 j ∧ w 8 j = a 48 j := h.1.2.1
  have xh : B10 (w 5 5) (hB (a 43 0) (a 46)) := h.1.2.2.1
  have xw : WH (w 5 4) (a 47) (a 43 0) := h.1.2.2.2.1
  have x45 : ∀ j : Nat, (j : Int) < a 43 0 → 0 ≤ a 45 j ∧ a 45 j ≤ 1023 := h.2.2.2.2.2.1
  refine pc_w (efar_pc (kn := a 45) x0 xw x3 xh (fun j hj => ⟨(xp j hj).2.1, x45 j hj⟩) hk) (fun r _ e => ?_)
  refine pc_w (rfar_pc x0 rfl x45) (fun r' _ e' => ?_)
  rcases e with ⟨c, e⟩ | ⟨c, e⟩
  · rcases e' with ⟨_, e'⟩ | ⟨c', _⟩
    · rw [e, e']
    · exact absurd c' c
  · rcases e' with ⟨c', _⟩ | ⟨_, e'⟩
    · exact absurd c c'
    · rcases e with ⟨g1, g2, e⟩ | ⟨g, e⟩
      · rcases e' with ⟨_, _, e'⟩ | ⟨g', _⟩
        · rw [e, e']
        · rcases g' with g' | g'
          · rw [g1] at g'; cases g'
          · rw [g2] at g'; cases g'
      · rcases e' with ⟨g1, g2, _⟩ | ⟨_, e'⟩
        · rcases g with g | g
          · rw [g1] at g; cases g
          · rw [g2] at g; cases g
        · exact faq_one e e'
/-! THE ORDER IN WHICH THE CLASS FINDS WEEKS: the first hit -/
def fdo (g : Nat → Option Int) : Nat → Option Int
  | 0 => none
  | n + 1 => match fdo g n with
    | some x => some x
    | none => g n
theorem fdo_none {g : Nat → Option Int} : ∀ {n : Nat}, (∀ k, k < n → g k = none) → fdo g n = none := by
  intro n
  induction n with
  | zero => intro _; rfl
  | succ n ih =>
    intro h
    rw [fdo, ih (fun k hk => h k (by omega))]
    exact h n (by omega)
theorem fdo_hit {g : Nat → Option Int} {n : Nat} {x : Int} (h : ∀ k, k < n → g k = none) (hx : g n = some x) : ∀ {N : Nat}, n < N → fdo g N = some x := by
  intro N
  induction N with
  | zero => intro hn; omega
  | succ N ih =>
    intro hn
    by_cases c : n = N
    · rw [fdo, ← c, fdo_none h]; exact hx
    · rw [fdo, ih (by omega)]
theorem fdo_of {g : Nat → Option Int} : ∀ {n : Nat}, fdo g n = none → ∀ k, k < n → g k = none := by
  intro n
  induction n with
  | zero => intro _ k hk; omega
  | succ n ih =>
    intro h k hk
    rw [fdo] at h
    cases e : fdo g n with
    | some x => rw [e] at h; cases h
    | none =>
      rw [e] at h
      by_cases c : k = n
      · rw [c]; exact h
      · exact ih e k (by omega)
/-- whom i may bring next -/
def cnd1 (se : Int) (kn : Nat → Int) (br fr sy : Nat → Bool) (m : Int) (i o : Nat) : Bool := br i && fr o && bt (kn i) o && !bt m o && decide (((pn (fun k => sy k || bt (sq m i o) k) 10 : Nat) : Int) ≤ se)
def fdf (P se : Int) (kn : Nat → Int) (br fr sy : Nat → Bool) (hit : Int → Bool) : Nat → Int → Int → Option Int
  | 0, _, _ => none
  | n + 1, f, m => if hit m = true then some m else fdo (fun i => if f ≤ (i : Int) then fdo (fun o => if cnd1 se kn br fr sy m i o = true then fdf P se kn br fr sy hit n ((i : Int) + 1) (sq m i o) else none) 10 else none) P.toNat
def fgo (P se : Int) (kn : Nat → Int) (br fr sy : Nat → Bool) (hit : Int → Bool) (n : Nat) (m : Int) (i o : Nat) : Option Int := if cnd1 se kn br fr sy m i o = true then fdf P se kn br fr sy hit n ((i : Int) + 1) (sq m i o) else none
def fgi (P se : Int) (kn : Nat → Int) (br fr sy : Nat → Bool) (hit : Int → Bool) (n : Nat) (f m : Int) (i : Nat) : Option Int := if f ≤ (i : Int) then fdo (fgo P se kn br fr sy hit n m i) 10 else none
theorem fdf_s (P se : Int) (kn : Nat → Int) (br fr sy : Nat → Bool) (hit : Int → Bool) (n : Nat) (f m : Int) : fdf P se kn br fr sy hit (n + 1) f m = if hit m = true then some m else fdo (fgi P se kn br fr sy hit n f m) P.toNat := rfl
theorem cnd1_t {se : Int} {kn : Nat → Int} {br fr sy : Nat → Bool} {m : Int} {i o : Nat} : cnd1 se kn br fr sy m i o = true ↔ br i = true ∧ fr o = true ∧ bt (kn i) o = true ∧ bt m o = false ∧ ((pn (fun k => sy k || bt (sq m i o) k) 10 : Nat) : Int) ≤ se := by
  unfold cnd1
  rw [Bool.and_eq_true, Bool.and_eq_true, Bool.and_eq_true, Bool.and_eq_true, decide_eq_true_iff, Bool.not_eq_true']
  constructor
  · rintro ⟨⟨⟨⟨a, b⟩, c⟩, d⟩, e⟩; exact ⟨a, b, c, d, e⟩
  · rintro ⟨a, b, c, d, e⟩; exact ⟨⟨⟨⟨a, b⟩, c⟩, d⟩, e⟩
def NH (hit : Int → Bool) (u : Wd) : Prop := ∀ k : Nat, (k : Int) < u 24 3 → hit (u 25 k) = false
def FHx (hit : Int → Bool) (u : Wd) (x : Int) : Prop := hit x = true ∧ ∃ k : Nat, (k : Int) < u 24 3 ∧ u 25 k = x ∧ ∀ j, j < k → hit (u 25 j) = false
def STx (hit : Int → Bool) (u : Wd) (r : Option Int) : Prop := (r = none ∧ NH hit u) ∨ ∃ x, r = some x ∧ FHx hit u x
theorem fh_ext {hit : Int → Bool} {w u : Wd} {x : Int} (h : FHx hit w x) (e : w 24 3 ≤ u 24 3 ∧ ∀ k : Nat, (k : Int) < w 24 3 → u 25 k = w 25 k) : FHx hit u x := by
  obtain ⟨h1, k, hk, h2, h3⟩ := h
  exact ⟨h1, k, by omega, by rw [e.2 k hk]; exact h2, fun j hj => by rw [e.2 j (by omega)]; exact h3 j hj⟩
/-- all that has as many and is found has its children found -/
def CIx (P se rd : Int) (kn : Nat → Int) (br fr sy : Nat → Bool) (u : Wd) (m : Int) : Prop := ∀ x, vis rd u x → pn (bt m) 10 ≤ pn (bt x) 10 → CLO P se rd kn br fr sy u x
theorem fdf_cl {P se rd : Int} {kn : Nat → Int} {br fr sy : Nat → Bool} {hit : Int → Bool} {w : Wd} (hP : 0 ≤ P ∧ P ≤ 10) (hd : ∀ k, k < 10 → br k = true → fr k = false) (hL : LSx rd (MOV P se kn br fr sy) w) (hN : NH hit w) : ∀ (n : Nat) {d : Nat} {f m : Int}, DRC P se kn br fr sy d f m → vis rd w m → CIx P se rd kn br fr sy w m → fdf P se kn br fr sy hit n f m = none := by
  intro n
  induction n with
  | zero => intros; rfl
  | succ n ih =>
    intro d f m hm hv hC
    obtain ⟨k, hk, ek⟩ := hL.2.2.2.1 m hv
    have hh : hit m = false := by rw [← ek]; exact hN k hk
    rw [fdf_s, if_neg (by rw [hh]; decide)]
    refine fdo_none (fun i hi => ?_)
    unfold fgi
    by_cases c : f ≤ (i : Int)
    · rw [if_pos c]
      refine fdo_none (fun o ho => ?_)
      unfold fgo
      by_cases c2 : cnd1 se kn br fr sy m i o = true
      · rw [if_pos c2]
        obtain ⟨a, b, c3, d3, e⟩ := cnd1_t.mp c2
        have hc : CHD P se kn br fr sy f m ((i : Int) + 1) (sq m i o) := ⟨i, o, c, by omega, ho, a, b, c3, d3, rfl, e, rfl⟩
        have hD : DRC P se kn br fr sy (d + 1) ((i : Int) + 1) (sq m i o) := ⟨f, m, hm, hc⟩
        have p1 := (drc_pn hP hd hm).1
        have p2 := (drc_pn hP hd hD).1
        exact ih hD (hC m hv (Nat.le_refl _) d f _ _ hm hc) (fun x hx hp => hC x hx (by omega))
      · rw [if_neg c2]
    · rw [if_neg c]
def WSx (P se : Int) (kn : Nat → Int) (br fr sy : Nat → Bool) (hit : Int → Bool) (R : Option Int) (n : Nat) (f m : Int) (u : Wd) (v5 : Int) (oo : Nat → Bool) : Prop := (NH hit u ∧ (∀ i : Nat, (i : Int) < v5 → fgi P se kn br fr sy hit n f m i = none) ∧ (∀ o, o < 10 → oo o = false → fgo P se kn br fr sy hit n m v5.toNat o = none) ∧ R = fdo (fgi P se kn br fr sy hit n f m) P.toNat) ∨ ∃ x, FHx hit u x ∧ R = some x
theorem so135 {P se rd : Int} {kn : Nat → Int} {br fr sy : Nat → Bool} {hit : Int → Bool} {R : Option Int} {N : Nat} (hP : 0 ≤ P ∧ P ≤ 10) (hd : ∀ k, k < 10 → br k = true → fr k = false) {rec : Int → Int → Int → Wd → Option (Int × Wd)} {k83 : Int → Int → Int → Wd → Option (Int × Wd)} {w0 : Wd} {d : Nat} {f m v4 v5 : Int} {Q : Int → Wd → Prop} (hm : DRC P se kn br fr sy d f m) (h5 : f ≤ v5 ∧ v5 < P) (hf : 0 ≤ f) (hN : P - v5 ≤ (N : Int)) (hci : CIx P se rd kn br fr sy w0 m)
    (hrec : ∀ {d' : Nat} {f' m' b : Int} {u : Wd}, MCx P se rd kn br fr sy u → LSx rd (MOV P se kn br fr sy) u → DRC P se kn br fr sy d' f' m' → (0 ≤ b ∧ b < u 24 3 ∧ pn (bt m') 10 = pn (bt (u 25 b.toNat)) 10 + 2) → CIx P se rd kn br fr sy u m' → P - f' < (N : Int) → PC (rec f' m' b u) (fun _ v => DN P se rd kn br fr sy u v m' ∧ (NH hit u → STx hit v (fdf P se kn br fr sy hit N f' m'))))
    (hk : ∀ u, MCx P se rd kn br fr sy u → DL P se rd kn br fr sy w0 u m → (0 ≤ v4 ∧ v4 < u 24 3 ∧ u 25 v4.toNat = m) → WSx P se kn br fr sy hit R N f m u (v5 + 1) (fun _ => true) → PC (k83 m v4 (v5 + 1) u) Q) :
    ∀ (n : Nat) {v6 v7 : Int} {u : Wd} {oo : Nat → Bool}, 0 ≤ v7 → v7 + ((pn oo 10 : Nat) : Int) ≤ 10 → B10 v6 oo → (∀ o, o < 10 → oo o = true → br v5.toNat = true ∧ fr o = true ∧ bt (kn v5.toNat) o = true ∧ bt m o = false) → MCx P se rd kn br fr sy u → DL P se rd kn br fr sy w0 u m → (0 ≤ v4 ∧ v4 < u 24 3 ∧ u 25 v4.toNat = m) → WSx P se kn br fr sy hit R N f m u v5 oo → PC (f_M_spread_135 rec k83 n m v4 v5 v6 v7 u) Q := by
  intro n
  induction n with
  | zero => intros; exact pc_none
  | succ n ih =>
    intro v6 v7 u oo i7 i8 hB ho hM hL h4 hC
    rw [f_M_spread_135]
    have e5 : v5 = ((v5.toNat : Nat) : Int) := by omega
    have fin : (∀ o, o < 10 → oo o = false) → PC (f_M_spread_206 rec k83 m v4 v5 u) Q := fun hz => by
      unfold f_M_spread_206
      refine pc_let (fun x e => ?_)
      rw [w32_id (by omega)] at e
      rw [e]
      refine hk u hM hL h4 ?_
      rcases hC with ⟨c1, c2, c3, c4⟩ | hx
      · refine Or.inl ⟨c1, fun i hi => ?_, (fun o _ h => by cases h), c4⟩
        by_cases c : (i : Int) < v5
        · exact c2 i c
        · rw [show i = v5.toNat by omega]
          unfold fgi
          rw [if_pos (by omega)]
          exact fdo_none (fun o h10 => c3 o h10 (hz o h10))
      · exact Or.inr hx
    refine pc_ite (fun c => fin (fun o h10 => ?_)) (fun c => ?_)
    · cases hb : oo o with
      | false => rfl
      | true => have := pn_pos (f := oo) h10 hb; omega
    refine pc_ite (fun c0 => fin (fun o h10 => ?_)) (fun c0 => ?_)
    · rw [← hB.2 o h10, c0, bt_0]
    obtain ⟨o, ho10, e1, e2, e3, e4⟩ := lw_sp hB.1 c0
    rw [e3]
    have hoo : oo o = true := by rw [← hB.2 o ho10]; exact e1
    have hlow : ∀ o', o' < o → oo o' = false := fun o' h => by rw [← hB.2 o' (by omega)]; exact e2 o' h
    obtain ⟨b1, b2, b3, b4⟩ := ho o ho10 hoo
    have hmr := (drc_rg hP hm).1
    refine pc_let (fun x9 e9 => pc_let (fun x10 e10 => ?_))
    have e9' : x9 = sq m v5.toNat o := by rw [e9]; unfold sq; rw [← e5]
    have r9 : 0 ≤ x9 ∧ x9 ≤ 1023 := by rw [e9']; exact sq_rg hmr (by omega) ho10
    rw [← e10] at e4
    rw [bcs_e (b10_or hM.2.2.2.2.1 (b10_self r9)) u, jc_s, hM.2.2.2.2.2.1]
    have hB' : B10 x10 (fun k => oo k && !decide (k = o)) := b10_w e4 (fun k hk => by rw [hB.2 k hk])
    have hpn : pn oo 10 = pn (fun k => oo k && !decide (k = o)) 10 + 1 := pn_up (f := fun k => oo k && !decide (k = o)) (f' := oo) (i := o) ho10 (fun k _ hn => by rw [decide_eq_false hn]; simp) (by simp) hoo
    have ho' : ∀ o', o' < 10 → (oo o' && !decide (o' = o)) = true → br v5.toNat = true ∧ fr o' = true ∧ bt (kn v5.toNat) o' = true ∧ bt m o' = false := fun o' h10 e => ho o' h10 (by rw [Bool.and_eq_true] at e; exact e.1)
    have f200 : ∀ v, MCx P se rd kn br fr sy v → DL P se rd kn br fr sy w0 v m → (0 ≤ v4 ∧ v4 < v 24 3 ∧ v 25 v4.toNat = m) → WSx P se kn br fr sy hit R N f m v v5 (fun k => oo k && !decide (k = o)) → PC (f_M_spread_200 rec k83 (f_M_spread_135 rec k83 n) m v4 v5 x10 v7 v) Q := fun v hMv hLv h4v hCv => by
      unfold f_M_spread_200
      refine pc_let (fun x e => ?_)
      rw [w32_id (by omega)] at e
      rw [e]
      exact ih (by omega) (by omega) hB' ho' hMv hLv h4v hCv
    -- what was not left, or o itself
    have oth : ∀ o', (oo o' && !decide (o' = o)) = false → o' ≠ o → oo o' = false := fun o' h hne => by
      rw [decide_eq_false hne] at h
      simpa using h
    refine pc_ite (fun hs => f200 u hM hL h4 ?_) (fun hs => ?_)
    · rcases hC with ⟨c1, c2, c3, c4⟩ | hx
      · refine Or.inl ⟨c1, c2, fun o' h10 h => ?_, c4⟩
        by_cases c9 : o' = o
        · rw [c9]
          unfold fgo
          rw [if_neg (fun hc => ?_)]
          have := (cnd1_t.mp hc).2.2.2.2
          rw [← e9'] at this
          omega
        · exact c3 o' h10 (oth o' h c9)
      · exact Or.inr hx
    · have hch : CHD P se kn br fr sy f m (v5 + 1) x9 := ⟨v5.toNat, o, by omega, by omega, ho10, b1, b2, b3, b4, e9', by omega, by omega⟩
      have hD : DRC P se kn br fr sy (d + 1) (v5 + 1) x9 := ⟨f, m, hm, hch⟩
      have hpm := (drc_pn hP hd hm).1
      have hpx := (drc_pn hP hd hD).1
      rw [w32_id (by omega)]
      have hciu : CIx P se rd kn br fr sy u x9 := fun x hx hp => by
        rcases hL.2.2.2.2.2 x hx with h1 | h1 | h1
        · exact fun d' f1 f' m' a1 a2 => hL.2.2.2.1 m' (hci x h1 (by omega) d' f1 f' m' a1 a2)
        · rw [h1] at hp; omega
        · exact h1
      refine pc_call (hrec hM hL.2.1 hD (b := v4) ⟨h4.1, h4.2.1, by rw [h4.2.2]; omega⟩ hciu (by omega)) (fun r14 v q0 => ?_)
      obtain ⟨q, qs⟩ := q0
      have hMv := mc_fm hM q.1
      have hLv := dl_dn hL q
      refine f200 v hMv hLv ⟨h4.1, by have := q.2.2.1.1; omega, by rw [q.2.2.1.2 v4.toNat (by omega)]; exact h4.2.2⟩ ?_
      rcases hC with ⟨c1, c2, c3, c4⟩ | ⟨x, hx1, hx2⟩
      · have hgo : fgo P se kn br fr sy hit N m v5.toNat o = fdf P se kn br fr sy hit N (v5 + 1) x9 := by
          unfold fgo
          rw [if_pos (cnd1_t.mpr ⟨b1, b2, b3, b4, by rw [← e9']; omega⟩), ← e9', ← e5]
        rcases qs c1 with ⟨a1, a2⟩ | ⟨x, a1, a2⟩
        · refine Or.inl ⟨a2, c2, fun o' h10 h => ?_, c4⟩
          by_cases c9 : o' = o
          · rw [c9, hgo]; exact a1
          · exact c3 o' h10 (oth o' h c9)
        · refine Or.inr ⟨x, a2, c4.trans (fdo_hit (n := v5.toNat) (fun k hk => c2 k (by omega)) ?_ (by omega))⟩
          unfold fgi
          rw [if_pos (by omega)]
          exact fdo_hit (n := o) (fun o' h => c3 o' (by omega) (hlow o' h)) (by rw [hgo]; exact a1) ho10
      · exact Or.inr ⟨x, fh_ext hx1 q.2.2.1, hx2⟩
theorem so83 {P se rd : Int} {kn : Nat → Int} {br fr sy : Nat → Bool} {hit : Int → Bool} {R : Option Int} {N : Nat} (hP : 0 ≤ P ∧ P ≤ 10) (hd : ∀ k, k < 10 → br k = true → fr k = false) (hkn : ∀ j : Nat, (j : Int) < P → 0 ≤ kn j ∧ kn j ≤ 1023) {rec : Int → Int → Int → Wd → Option (Int × Wd)} {w0 : Wd} {d : Nat} {f m v4 : Int} (hm : DRC P se kn br fr sy d f m) (hf : 0 ≤ f) (hN : P - f ≤ (N : Int)) (hci : CIx P se rd kn br fr sy w0 m)
    (hrec : ∀ {d' : Nat} {f' m' b : Int} {u : Wd}, MCx P se rd kn br fr sy u → LSx rd (MOV P se kn br fr sy) u → DRC P se kn br fr sy d' f' m' → (0 ≤ b ∧ b < u 24 3 ∧ pn (bt m') 10 = pn (bt (u 25 b.toNat)) 10 + 2) → CIx P se rd kn br fr sy u m' → P - f' < (N : Int) → PC (rec f' m' b u) (fun _ v => DN P se rd kn br fr sy u v m' ∧ (NH hit u → STx hit v (fdf P se kn br fr sy hit N f' m')))) :
    ∀ (n : Nat) {v5 : Int} {u : Wd}, f ≤ v5 → v5 ≤ P → MCx P se rd kn br fr sy u → DL P se rd kn br fr sy w0 u m → (0 ≤ v4 ∧ v4 < u 24 3 ∧ u 25 v4.toNat = m) → WSx P se kn br fr sy hit R N f m u v5 (fun _ => true) → PC (f_M_spread_83 rec n m v4 v5 u) (fun _ v => STx hit v R) := by
  intro n
  induction n with
  | zero => intros; exact pc_none
  | succ n ih =>
    intro v5 u i5 i6 hM hL h4 hC
    rw [f_M_spread_83]
    refine pc_gd (fun _ => ?_)
    have hmr := (drc_rg hP hm).1
    rw [hM.1]
    refine pc_ite (fun c => pc_some ?_) (fun c => ?_)
    · rcases hC with ⟨c1, c2, _, c4⟩ | ⟨x, hx1, hx2⟩
      · exact Or.inl ⟨c4.trans (fdo_none (fun i hi => c2 i (by omega))), c1⟩
      · exact Or.inr ⟨x, hx2, hx1⟩
    · have nx : ∀ (v6 : Int) (oo : Nat → Bool), B10 v6 oo → (∀ o, o < 10 → oo o = true → br v5.toNat = true ∧ fr o = true ∧ bt (kn v5.toNat) o = true ∧ bt m o = false) → (∀ o, o < 10 → oo o = false → cnd1 se kn br fr sy m v5.toNat o = false) → PC (f_M_spread_130 rec (f_M_spread_83 rec n) m v4 v5 v6 u) (fun _ v => STx hit v R) := fun v6 oo hB ho hz => by
        unfold f_M_spread_130
        have := pn_le oo 10
        refine so135 hP hd hm ⟨i5, by omega⟩ hf (by omega) hci hrec (fun v hMv hLv h4v hCv => ih (by omega) (by omega) hMv hLv h4v hCv) FU (by decide) (by omega) hB ho hM hL h4 ?_
        rcases hC with ⟨c1, c2, _, c4⟩ | hx
        · refine Or.inl ⟨c1, c2, fun o h10 h => ?_, c4⟩
          unfold fgo
          rw [hz o h10 h, if_neg (by decide)]
        · exact Or.inr hx
      rw [has_10 u hM.2.2.1 (by omega), jc_s]
      cases hb : br v5.toNat with
      | false =>
        refine pc_ite (fun _ => nx 0 (fun _ => false) b10_0 (fun o _ e => by cases e) (fun o _ _ => ?_)) (fun e => absurd rfl e)
        unfold cnd1
        rw [hb]; rfl
      | true =>
        refine pc_ite (fun e => absurd e (by decide)) (fun _ => ?_)
        refine pc_gd (fun _ => pc_gd (fun _ => ?_))
        have hj := hkn v5.toNat (by omega)
        rw [hM.2.1 v5.toNat (by omega)]
        have hB := b10_andn (b10_and (b10_self hj) hM.2.2.2.1.2) (b10_self hmr).2
        refine nx _ _ hB (fun o h10 e => ?_) (fun o h10 e => ?_)
        · rw [Bool.and_eq_true, Bool.and_eq_true, Bool.not_eq_true'] at e
          exact ⟨hb, e.1.2, e.1.1, e.2⟩
        · cases e2 : cnd1 se kn br fr sy m v5.toNat o with
          | false => rfl
          | true =>
            obtain ⟨_, a2, a3, a4, _⟩ := cnd1_t.mp e2
            have e' : (bt (kn v5.toNat) o && fr o && !bt m o) = false := e
            rw [a2, a3, a4] at e'
            cases e'
theorem spo_pc {P se rd : Int} {kn : Nat → Int} {br fr sy : Nat → Bool} {hit : Int → Bool} (hP : 0 ≤ P ∧ P ≤ 10) (hd : ∀ k, k < 10 → br k = true → fr k = false) (hkn : ∀ j : Nat, (j : Int) < P → 0 ≤ kn j ∧ kn j ≤ 1023) : ∀ (D : Nat) {d : Nat} {f m b : Int} {w : Wd} (N : Nat), MCx P se rd kn br fr sy w → LSx rd (MOV P se kn br fr sy) w → DRC P se kn br fr sy d f m → ((w 24 3 = 0 ∧ m = 0) ∨ (0 ≤ b ∧ b < w 24 3 ∧ pn (bt m) 10 = pn (bt (w 25 b.toNat)) 10 + 2)) → CIx P se rd kn br fr sy w m → P - f < (N : Int) → PC (f_M_spread D f m b w) (fun _ u => NH hit w → STx hit u (fdf P se kn br fr sy hit N f m)) := by
  intro D
  induction D with
  | zero => intros; exact pc_none
  | succ D ih =>
    intro d f m b w N hM hL hm hb hci hNN
    rw [f_M_spread]
    unfold f_M_spread_b
    obtain ⟨hmr, hf0, hfP⟩ := drc_rg hP hm
    have hw252 : w 24 3 ≤ 252 := by
      have := mov_few hP hd (n := (w 24 3).toNat) (F := w 25) (fun j hj => (hL.2.1 j (by omega)).2) (fun i j hi hj e => hL.2.2.1 i j (by omega) (by omega) e)
      omega
    have h0 := hL.1
    refine pc_ite (fun c => by omega) (fun _ => ?_)
    refine pc_ite (fun c => by omega) (fun _ => ?_)
    refine pc_ite (fun _ => ?_) (fun c => absurd (hiz hmr) c)
    refine pc_gd (fun _ => ?_)
    rw [hM.2.2.2.2.2.2]
    refine pc_ite (fun c => pc_some ?_) (fun c => ?_)
    · exact fun hN => Or.inl ⟨fdf_cl hP hd hL hN N hm ⟨hmr, c⟩ hci, hN⟩
    · refine pc_let (fun x1 e1 => pc_gd (fun _ => pc_lw (fun u2 e2 => pc_gd (fun _ => pc_lw (fun u3 e3 => pc_gd (fun _ => pc_lw (fun u4 e4 => pc_lw (fun u5 e5 => ?_))))))))
      have s4 : u4 24 3 = w 24 3 := by rw [e4, st_c (by decide), e3, st_c (by decide), e2, st_c (by decide)]
      have z5 : u5 24 3 = w 24 3 + 1 := by rw [e5, st_eq, s4, w32_id (by omega)]
      have z27 : ∀ k, u5 27 k = if k = m.toNat then rd else w 27 k := fun k => by
        rw [e5, st_c (by decide), e4, st_c (by decide), e3, st_c (by decide), e2]
        by_cases ck : k = m.toNat
        · rw [if_pos ck, ck, st_eq]
        · rw [if_neg ck, st_k ck]
      have z25 : ∀ k, u5 25 k = if k = (w 24 3).toNat then m else w 25 k := fun k => by
        rw [e5, st_c (by decide), e4, st_c (by decide), e3, e1]
        by_cases ck : k = (w 24 3).toNat
        · rw [if_pos ck, ck, st_eq]
        · rw [if_neg ck, st_k ck, e2, st_c (by decide)]
      have z26 : ∀ k, u5 26 k = if k = (w 24 3).toNat then b else w 26 k := fun k => by
        rw [e5, st_c (by decide), e4, e1]
        by_cases ck : k = (w 24 3).toNat
        · rw [if_pos ck, ck, st_eq]
        · rw [if_neg ck, st_k ck, e3, st_c (by decide), e2, st_c (by decide)]
      have f5 : FM w u5 := by
        refine ⟨fun c a1 a2 a3 a4 => ?_, fun k hk => ?_, fun k => ?_⟩
        · rw [e5, st_row a1, e4, st_row a3, e3, st_row a2, e2, st_row a4]
        · rw [e5, st_k hk, e4, st_c (by decide), e3, st_c (by decide), e2, st_c (by decide)]
        · rw [z27, hM.2.2.2.2.2.2]
          by_cases ck : k = m.toNat
          · rw [if_pos ck]; exact Or.inr rfl
          · rw [if_neg ck]; exact Or.inl rfl
      have vnew : vis rd u5 m := ⟨hmr, by rw [z27, if_pos rfl]⟩
      have vold : ∀ x, vis rd w x → vis rd u5 x := fun x hx => ⟨hx.1, by
        rw [z27]
        split
        · rfl
        · exact hx.2⟩
      have vback : ∀ x, vis rd u5 x → vis rd w x ∨ x = m := fun x hx => by
        by_cases ck : x.toNat = m.toNat
        · have := hx.1; exact Or.inr (by omega)
        · have h2 := hx.2
          rw [z27, if_neg ck] at h2
          exact Or.inl ⟨hx.1, h2⟩
      have nvm : ¬ vis rd w m := fun hv => c hv.2
      have z25o : ∀ k : Nat, (k : Int) < w 24 3 → u5 25 k = w 25 k := fun k hk => by rw [z25, if_neg (by omega)]
      have z25n : u5 25 (w 24 3).toNat = m := by rw [z25, if_pos rfl]
      have L5 : LSx rd (MOV P se kn br fr sy) u5 := by
        refine ⟨by omega, fun k hk => ?_, fun i j hi hj e => ?_, fun x hx => ?_, fun k hk => ?_⟩
        · by_cases ck : (k : Int) < w 24 3
          · rw [z25o k ck]
            exact ⟨vold _ (hL.2.1 k ck).1, (hL.2.1 k ck).2⟩
          · rw [show k = (w 24 3).toNat by omega, z25n]
            exact ⟨vnew, d, f, hm⟩
        · by_cases ci : (i : Int) < w 24 3
          · by_cases cj : (j : Int) < w 24 3
            · rw [z25o i ci, z25o j cj] at e
              exact hL.2.2.1 i j ci cj e
            · rw [z25o i ci, show j = (w 24 3).toNat by omega, z25n] at e
              have := (hL.2.1 i ci).1
              rw [e] at this
              exact absurd this nvm
          · by_cases cj : (j : Int) < w 24 3
            · rw [z25o j cj, show i = (w 24 3).toNat by omega, z25n] at e
              have := (hL.2.1 j cj).1
              rw [← e] at this
              exact absurd this nvm
            · omega
        · rcases vback x hx with h1 | h1
          · obtain ⟨k, hk, ek⟩ := hL.2.2.2.1 x h1
            exact ⟨k, by omega, by rw [z25o k hk]; exact ek⟩
          · exact ⟨(w 24 3).toNat, by omega, by rw [z25n, h1]⟩
        · by_cases ck : (k : Int) < w 24 3
          · rw [z25o k ck, z26, if_neg (by omega)]
            rcases hL.2.2.2.2 k ck with h1 | ⟨h1, h2, h3, h4⟩
            · exact Or.inl h1
            · refine Or.inr ⟨h1, h2, h3, ?_⟩
              rw [z25o (w 26 k).toNat (by omega)]
              exact h4
          · have ek : k = (w 24 3).toNat := by omega
            rw [ek, z25n, z26, if_pos rfl]
            rcases hb with ⟨h1, h2⟩ | ⟨h1, h2, h3⟩
            · exact Or.inl ⟨by omega, h2⟩
            · refine Or.inr ⟨by omega, h1, by omega, ?_⟩
              rw [z25o b.toNat (by omega)]
              exact h3
      have D5 : DL P se rd kn br fr sy w u5 m := ⟨f5, L5, ⟨by omega, z25o⟩, vold, vnew, fun x hx => (vback x hx).elim Or.inl (fun e => Or.inr (Or.inl e))⟩
      rw [e1]
      obtain ⟨N', hN'⟩ : ∃ N' : Nat, N = N' + 1 := ⟨N - 1, by omega⟩
      rw [hN', fdf_s]
      have hrec : ∀ {d' : Nat} {f' m' b : Int} {u : Wd}, MCx P se rd kn br fr sy u → LSx rd (MOV P se kn br fr sy) u → DRC P se kn br fr sy d' f' m' → (0 ≤ b ∧ b < u 24 3 ∧ pn (bt m') 10 = pn (bt (u 25 b.toNat)) 10 + 2) → CIx P se rd kn br fr sy u m' → P - f' < (N' : Int) → PC (f_M_spread D f' m' b u) (fun _ v => DN P se rd kn br fr sy u v m' ∧ (NH hit u → STx hit v (fdf P se kn br fr sy hit N' f' m'))) := fun hM' hL' hD' hb' hc' hn' =>
        pc_and (spr_pc hP hd hkn D hM' hL' hD' (Or.inr hb')) (ih N' hM' hL' hD' (Or.inr hb') hc' hn')
      have main : NH hit w → PC (f_M_spread_83 (f_M_spread D) FU m (w 24 3) f u5) (fun _ v => STx hit v (if hit m = true then some m else fdo (fgi P se kn br fr sy hit N' f m) P.toNat)) := fun hN => by
        refine so83 hP hd hkn hm hf0 (by omega) hci hrec FU (Int.le_refl f) hfP (mc_fm hM f5) D5 ⟨h0, by omega, z25n⟩ ?_
        by_cases hh : hit m = true
        · rw [if_pos hh]
          refine Or.inr ⟨m, ⟨hh, (w 24 3).toNat, by omega, z25n, fun j hj => ?_⟩, rfl⟩
          rw [z25o j (by omega)]
          exact hN j (by omega)
        · rw [if_neg hh]
          refine Or.inl ⟨fun k hk => ?_, fun i hi => ?_, (fun o _ h => by cases h), rfl⟩
          · by_cases ck : (k : Int) < w 24 3
            · rw [z25o k ck]; exact hN k ck
            · rw [show k = (w 24 3).toNat by omega, z25n]
              cases e : hit m with
              | false => rfl
              | true => exact absurd e hh
          · unfold fgi
            rw [if_neg (by omega)]
      exact fun r u e hN => main hN r u e
/-! THE FIRST HIT AMONG ALL THAT IS GATHERED -/
theorem gao_pc {P g x se : Int} {s h kn : Nat → Int} {w : Wd} {hit : Int → Bool} (hP : 0 ≤ P ∧ P ≤ 10) (hW : WH x s P) (h3 : w 5 3 = P) (h5 : B10 (w 5 5) (hB P h)) (hg : 1 ≤ g ∧ g ≤ 3) (h7 : w 5 7 = g) (hkn : ∀ j : Nat, (j : Int) < P → w 7 j = kn j ∧ 0 ≤ kn j ∧ kn j ≤ 1023) (hr : ROK w) (hlt : w 24 4 < 2147483647) : PC (f_M_gather x se w) (fun _ u => STx hit u (fdf P se kn (gs P s) (fre P s h) (sty P s g) hit 12 0 0)) := by
  unfold f_M_gather
  obtain ⟨r1, e1, b1⟩ := og_e hW w
  rw [e1, jc_s]
  refine pc_call (prep_pc hP hW h3 h5 hg h7 b1 hr hlt) (fun r3 u q => ?_)
  obtain ⟨q1, ⟨q2, q3⟩, ⟨q4, q5, q6, q7⟩, q8, q9⟩ := q
  have novis : ∀ m, ¬ vis (u 24 4) u m := fun m hv => by
    have h1 := hv.2
    rw [q3, q2] at h1
    have := hr.2 m.toNat (by have := hv.1; omega)
    omega
  have hM : MCx P se (u 24 4) kn (gs P s) (fre P s h) (sty P s g) u := ⟨by rw [q1 5 (by decide) (by decide) (by decide) (by decide)]; exact h3, fun j hj => by rw [q1 7 (by decide) (by decide) (by decide) (by decide)]; exact (hkn j hj).1, q4, q5, q6, q7, rfl⟩
  have hL : LSx (u 24 4) (MOV P se kn (gs P s) (fre P s h) (sty P s g)) u := ⟨by omega, fun k hk => by omega, fun i j hi hj => by omega, fun m hm => absurd hm (novis m), fun k hk => by omega⟩
  refine pc_call (spo_pc (hit := hit) hP gs_fre (fun j hj => (hkn j hj).2) 16 (d := 0) (f := 0) (m := 0) (b := -1) 12 hM hL ⟨rfl, rfl⟩ (Or.inl ⟨q8, rfl⟩) (fun x hx _ => absurd hx (novis x)) (by omega)) (fun r5 v q' => pc_some (q' (fun k hk => by omega)))
/-- the same hit by both: only WEEKS that may be are asked -/
theorem fdo_w {g g' : Nat → Option Int} : ∀ {n : Nat}, (∀ k, k < n → g k = g' k) → fdo g n = fdo g' n := by
  intro n
  induction n with
  | zero => intro _; rfl
  | succ n ih =>
    intro h
    rw [fdo, fdo, ih (fun k hk => h k (by omega)), h n (by omega)]
theorem fdf_w {P se : Int} {kn : Nat → Int} {br fr sy : Nat → Bool} {hit hit' : Int → Bool} (h : ∀ m, MOV P se kn br fr sy m → hit m = hit' m) : ∀ (n : Nat) {d : Nat} {f m : Int}, DRC P se kn br fr sy d f m → fdf P se kn br fr sy hit n f m = fdf P se kn br fr sy hit' n f m := by
  intro n
  induction n with
  | zero => intros; rfl
  | succ n ih =>
    intro d f m hm
    rw [fdf_s, fdf_s, h m ⟨d, f, hm⟩]
    have e : fdo (fgi P se kn br fr sy hit n f m) P.toNat = fdo (fgi P se kn br fr sy hit' n f m) P.toNat := fdo_w (fun i hi => by
      unfold fgi
      by_cases c : f ≤ (i : Int)
      · rw [if_pos c, if_pos c]
        refine fdo_w (fun o ho => ?_)
        unfold fgo
        by_cases c2 : cnd1 se kn br fr sy m i o = true
        · rw [if_pos c2, if_pos c2]
          obtain ⟨a, b, c3, d3, e⟩ := cnd1_t.mp c2
          exact ih (d := d + 1) ⟨f, m, hm, i, o, c, by omega, ho, a, b, c3, d3, rfl, e, rfl⟩
        · rw [if_neg c2, if_neg c2]
      · rw [if_neg c, if_neg c])
    rw [e]
/-- what is found is a WEEK that may be, and is hit -/
theorem fdo_some {g : Nat → Option Int} {x : Int} : ∀ {n : Nat}, fdo g n = some x → ∃ k, k < n ∧ g k = some x := by
  intro n
  induction n with
  | zero => intro h; cases h
  | succ n ih =>
    intro h
    rw [fdo] at h
    cases e : fdo g n with
    | some y =>
      rw [e] at h
      obtain ⟨k, hk, e2⟩ := ih (e.trans h)
      exact ⟨k, by omega, e2⟩
    | none => rw [e] at h; exact ⟨n, by omega, h⟩
theorem fdf_some {P se : Int} {kn : Nat → Int} {br fr sy : Nat → Bool} {hit : Int → Bool} : ∀ (n : Nat) {d : Nat} {f m x : Int}, DRC P se kn br fr sy d f m → fdf P se kn br fr sy hit n f m = some x → hit x = true ∧ MOV P se kn br fr sy x := by
  intro n
  induction n with
  | zero => intro d f m x _ h; cases h
  | succ n ih =>
    intro d f m x hm h
    rw [fdf_s] at h
    by_cases c : hit m = true
    · rw [if_pos c] at h
      have e : m = x := by injection h
      rw [← e]; exact ⟨c, d, f, hm⟩
    · rw [if_neg c] at h
      obtain ⟨i, hi, h2⟩ := fdo_some h
      unfold fgi at h2
      by_cases c1 : f ≤ (i : Int)
      · rw [if_pos c1] at h2
        obtain ⟨o, ho, h3⟩ := fdo_some h2
        unfold fgo at h3
        by_cases c2 : cnd1 se kn br fr sy m i o = true
        · rw [if_pos c2] at h3
          obtain ⟨a, b, c3, d3, e⟩ := cnd1_t.mp c2
          exact ih (d := d + 1) ⟨f, m, hm, i, o, c1, by omega, ho, a, b, c3, d3, rfl, e, rfl⟩ h3
        · rw [if_neg c2] at h3; cases h3
      · rw [if_neg c1] at h2; cases h2
/-! THE FIRST HIT: SEATS asked at each, or at the hit alone -/
theorem fdf_no {P se : Int} {kn : Nat → Int} {br fr sy : Nat → Bool} {hit : Int → Bool} (hP : 0 ≤ P ∧ P ≤ 10) (hh : ∀ (d : Nat) (f m : Int), DRC P 20 kn br fr sy d f m → d ≠ 0 → hit m = true → ((pn (fun k => sy k || bt m k) 10 : Nat) : Int) ≤ se) : ∀ (n : Nat) {d : Nat} {f m : Int}, DRC P 20 kn br fr sy d f m → d ≠ 0 → ¬ ((pn (fun k => sy k || bt m k) 10 : Nat) : Int) ≤ se → fdf P 20 kn br fr sy hit n f m = none := by
  intro n
  induction n with
  | zero => intros; rfl
  | succ n ih =>
    intro d f m hm hd hs
    rw [fdf_s, if_neg (fun h => hs (hh d f m hm hd h))]
    refine fdo_none (fun i hi => ?_)
    unfold fgi
    by_cases c : f ≤ (i : Int)
    · rw [if_pos c]
      refine fdo_none (fun o ho => ?_)
      unfold fgo
      by_cases c2 : cnd1 20 kn br fr sy m i o = true
      · rw [if_pos c2]
        obtain ⟨a, b, c3, d3, e⟩ := cnd1_t.mp c2
        refine ih (d := d + 1) ⟨f, m, hm, i, o, c, by omega, ho, a, b, c3, d3, rfl, e, rfl⟩ (by omega) (fun h => hs ?_)
        have r := drc_rg hP hm
        have : pn (fun k => sy k || bt m k) 10 ≤ pn (fun k => sy k || bt (sq m i o) k) 10 := pn_mono (fun k hk h => by
          have h' : (sy k || bt m k) = true := h
          show (sy k || bt (sq m i o) k) = true
          rw [sq_t r.1 (by omega) ho hk]
          cases h1 : sy k with
          | true => rfl
          | false => rw [h1, Bool.false_or] at h'; rw [h']; rfl)
        omega
      · rw [if_neg c2]
    · rw [if_neg c]
theorem fdf_se {P se : Int} {kn : Nat → Int} {br fr sy : Nat → Bool} {hit : Int → Bool} (hP : 0 ≤ P ∧ P ≤ 10) (hh : ∀ (d : Nat) (f m : Int), DRC P 20 kn br fr sy d f m → d ≠ 0 → hit m = true → ((pn (fun k => sy k || bt m k) 10 : Nat) : Int) ≤ se) : ∀ (n : Nat) {d : Nat} {f m : Int}, DRC P 20 kn br fr sy d f m → fdf P 20 kn br fr sy hit n f m = (if d = 0 ∨ ((pn (fun k => sy k || bt m k) 10 : Nat) : Int) ≤ se then fdf P se kn br fr sy hit n f m else none) := by
  intro n
  induction n with
  | zero => intro d f m _; split <;> rfl
  | succ n ih =>
    intro d f m hm
    by_cases cs : d = 0 ∨ ((pn (fun k => sy k || bt m k) 10 : Nat) : Int) ≤ se
    · rw [if_pos cs, fdf_s, fdf_s]
      have e : fdo (fgi P 20 kn br fr sy hit n f m) P.toNat = fdo (fgi P se kn br fr sy hit n f m) P.toNat := fdo_w (fun i hi => by
        unfold fgi
        by_cases c : f ≤ (i : Int)
        · rw [if_pos c, if_pos c]
          refine fdo_w (fun o ho => ?_)
          unfold fgo
          by_cases c2 : cnd1 20 kn br fr sy m i o = true
          · rw [if_pos c2]
            obtain ⟨a, b, c3, d3, e⟩ := cnd1_t.mp c2
            have hD : DRC P 20 kn br fr sy (d + 1) ((i : Int) + 1) (sq m i o) := ⟨f, m, hm, i, o, c, by omega, ho, a, b, c3, d3, rfl, e, rfl⟩
            rw [ih hD]
            by_cases c4 : ((pn (fun k => sy k || bt (sq m i o) k) 10 : Nat) : Int) ≤ se
            · rw [if_pos (Or.inr c4), if_pos (cnd1_t.mpr ⟨a, b, c3, d3, c4⟩)]
            · rw [if_neg (fun h => h.elim (by omega) c4), if_neg (fun h => c4 (cnd1_t.mp h).2.2.2.2)]
          · rw [if_neg c2, if_neg (fun h => c2 (cnd1_t.mpr ⟨(cnd1_t.mp h).1, (cnd1_t.mp h).2.1, (cnd1_t.mp h).2.2.1, (cnd1_t.mp h).2.2.2.1, by have := pn_le (fun k => sy k || bt (sq m i o) k) 10; omega⟩))]
        · rw [if_neg c, if_neg c])
      rw [e]
    · rw [if_neg cs]
      exact fdf_no hP hh (n + 1) hm (fun h => cs (Or.inl h)) (fun h => cs (Or.inr h))
/-! LOOKING BACK: how many WEEKS on, from each STATE (begin: nobody asked for, nothing paid asked for) -/
def OKL (P g se : Int) (h kn : Nat → Int) (x word : Int) : Prop := ∀ n, n < 61 → (b6 word n = true ↔ ∃ y, RCX P g se h kn x n y ∧ sbg P y)
theorem lof_pc {u : Wd} {z : Int} (hT : TC u) : PC (f_S_leftOf z u) (fun r v => v = u ∧ ((∃ j : Nat, (j : Int) < u 28 7 ∧ u 30 j = z) → ∃ j : Nat, (j : Int) < u 28 7 ∧ u 30 j = z ∧ r = u 32 j)) := by
  unfold f_S_leftOf
  refine pc_call (slo_pc hT) (fun r1 u2 q => ?_)
  obtain ⟨q1, q2, d, hd, e1, hm, hq⟩ := q
  rw [q1]
  have b29 := hT.2.1 r1.toNat (by omega)
  have b7 := hT.2.2.1
  refine pc_gd (fun _ => pc_let (fun x3 e3 => ?_))
  rw [w32_id (by omega)] at e3
  refine pc_ite (fun c => pc_some ⟨rfl, fun hj => ?_⟩) (fun c => pc_ite (fun c2 => by omega) (fun c2 => pc_gd (fun _ => pc_some ⟨rfl, fun _ => ?_⟩)))
  · obtain ⟨j, hj1, hj2⟩ := hj
    obtain ⟨d', hd', hm', f1, f2⟩ := hT.2.2.2 j hj1
    rw [hj2] at hm' f1
    have z0 : u 29 (slCx z d) = 0 := by rw [← e1]; omega
    rcases Nat.lt_trichotomy d d' with c1 | c1 | c1
    · exact absurd z0 (hm' d c1).1
    · rw [c1] at z0; omega
    · have := (hm d' c1).2
      rw [f1, show ((j : Int) + 1 - 1).toNat = j by omega] at this
      exact absurd hj2 this
  · rcases hq with hq | ⟨_, hq⟩
    · omega
    · exact ⟨x3.toNat, by omega, by rw [e3]; exact hq, rfl⟩
theorem lbh_pc {P g se : Int} {h kn : Nat → Int} {x0 : Int} {u : Wd} {k : Int} (hP : 0 ≤ P ∧ P ≤ 10) (hg : 1 ≤ g ∧ g ≤ 3) (hw : CW P g se h kn x0 u) (hT : TC u) (hk : 0 ≤ k ∧ k < u 28 7) (hx : WH (u 30 k.toNat) (sof (u 30 k.toNat)) P) (hcl : ∀ y, SUX P g se h kn (u 30 k.toNat) y → ∃ j : Nat, (j : Int) < u 28 7 ∧ u 30 j = y) (hpr : sbg P (u 30 k.toNat) → ∀ j : Nat, (j : Int) < u 28 7 → SUX P g se h kn (u 30 k.toNat) (u 30 j) → OKL P g se h kn (u 30 j) (u 32 j)) (hr : ROK u) (hlt : u 24 4 < 2147483647) : PC (f_S_leftBehind k u) (fun r v => (FXx u v ∧ ROK v ∧ v 24 4 ≤ u 24 4 + 1) ∧ ((¬ sbg P (u 30 k.toNat) ∧ r = 0) ∨ (sbg P (u 30 k.toNat) ∧ ∀ n, n < 61 → (b6 r n = true ↔ ∃ z, SUX P g se h kn (u 30 k.toNat) z ∧ ∃ y, RCX P g se h kn z n y ∧ sbg P y)))) := by
  unfold f_S_leftBehind
  refine pc_call (sgu_pc hk hx) (fun r1 u2 q => ?_)
  rw [q.1]
  have sb := sbg_0 q.2
  refine pc_ite (fun c => pc_some ⟨⟨fun _ _ _ _ _ => rfl, hr, by omega⟩, Or.inl ⟨fun hh => sb.mpr hh c, rfl⟩⟩) (fun c => pc_gd (fun _ => ?_))
  have hsb := sb.mp c
  obtain ⟨w3, w5, w7, w8, w4, wk⟩ := hw
  rw [w8]
  refine pc_call (gat_pc (kn := kn) hP hx w3 w5 hg w7 wk hr hlt) (fun r3 u4 z => ?_)
  obtain ⟨z1, ⟨z2, z3⟩, z4, z5, z6⟩ := z
  have y28 : u4 28 = u 28 := z1 28 (by decide) (by decide) (by decide) (by decide)
  have y29 : u4 29 = u 29 := z1 29 (by decide) (by decide) (by decide) (by decide)
  have y30 : u4 30 = u 30 := z1 30 (by decide) (by decide) (by decide) (by decide)
  have y32 : u4 32 = u 32 := z1 32 (by decide) (by decide) (by decide) (by decide)
  have y5 : u4 5 = u 5 := z1 5 (by decide) (by decide) (by decide) (by decide)
  have hT4 : TC u4 := tc_eq hT y29 y30 (by rw [y28])
  have h252 : u4 24 3 ≤ 256 := by
    have hz := z5.1
    have := mov_few hP (gs_fre (P := P) (s := sof (u 30 k.toNat)) (h := h)) (n := (u4 24 3).toNat) (F := u4 25) (fun j hj => (z5.2.1 j (by omega)).2) (fun i j hi hj e => z5.2.2.1 i j (by omega) (by omega) e)
    omega
  have l29 : ∀ (n : Nat) {v4 v6 : Int}, 0 ≤ v6 → v6 ≤ u4 24 3 → (∀ t, t < 61 → (b6 v4 t = true ↔ ∃ i : Nat, (i : Int) < v6 ∧ ∃ z, WH z (nis P (sof (u 30 k.toNat)) g (bt (u4 25 i))) P ∧ ∃ y, RCX P g se h kn z t y ∧ sbg P y)) → PC (f_S_leftBehind_29 n k v4 v6 u4) (fun r v => (FXx u v ∧ ROK v ∧ v 24 4 ≤ u 24 4 + 1) ∧ ((¬ sbg P (u 30 k.toNat) ∧ r = 0) ∨ (sbg P (u 30 k.toNat) ∧ ∀ n, n < 61 → (b6 r n = true ↔ ∃ z, SUX P g se h kn (u 30 k.toNat) z ∧ ∃ y, RCX P g se h kn z n y ∧ sbg P y)))) := by
    intro n
    induction n with
    | zero => intros; exact pc_none
    | succ n ih =>
      intro v4 v6 i6 i6' hA
      rw [f_S_leftBehind_29]
      refine pc_ite (fun c6 => pc_some ⟨⟨z1, z3, by omega⟩, Or.inr ⟨hsb, fun t ht => ?_⟩⟩) (fun c6 => pc_gd (fun _ => ?_))
      · rw [hA t ht]
        constructor
        · rintro ⟨i, hi, z', hz, y, hy⟩
          exact ⟨z', ⟨_, (z5.2.1 i (by omega)).2, hz⟩, y, hy⟩
        · rintro ⟨z', ⟨m, hm, hz⟩, y, hy⟩
          obtain ⟨i, hi, ei⟩ := z6 m hm
          exact ⟨i, by omega, z', by rw [ei]; exact hz, y, hy⟩
      · refine pc_call (mo_pc (k := v6) (u := u4) (by omega)) (fun r5 u6 q5 => ?_)
        rw [q5.1, q5.2, y5, w7, y30]
        have hm := (z5.2.1 v6.toNat (by omega)).2
        obtain ⟨y, ey, hy⟩ := after_e (v := u4 25 v6.toNat) hx hP hg (b10_self (mvs_who hP hm).1) (mvs_ok hP hm) u4
        rw [ey, jc_s]
        refine pc_call (lof_pc (z := y) hT4) (fun r9 u10 q9 => pc_let (fun x11 e11 => pc_let (fun x12 e12 => ?_)))
        rw [w32_id (by omega)] at e12
        rw [q9.1, e11, e12]
        have hsx : SUX P g se h kn (u 30 k.toNat) y := ⟨_, hm, hy⟩
        have hex := q9.2 (by rw [y28, y30]; exact hcl y hsx)
        obtain ⟨j, j1, j2, j3⟩ := hex
        rw [y28] at j1
        rw [y30] at j2
        rw [y32] at j3
        have ok := hpr hsb j j1 (by rw [j2]; exact hsx)
        rw [j2, ← j3] at ok
        refine ih (by omega) (by omega) (fun t ht => ?_)
        rw [b6_or, Bool.or_eq_true, hA t ht, ok t ht]
        constructor
        · rintro (⟨i, hi, hh⟩ | hh)
          · exact ⟨i, by omega, hh⟩
          · exact ⟨v6.toNat, by omega, y, hy, hh⟩
        · rintro ⟨i, hi, z', hz, hh⟩
          by_cases ci : (i : Int) < v6
          · exact Or.inl ⟨i, ci, z', hz, hh⟩
          · rw [show i = v6.toNat by omega] at hz
            rw [wh_inj hz hy (fun _ _ => rfl)] at hh
            exact Or.inr hh
  exact l29 FU (by decide) z5.1 (fun t _ => by
    rw [b6_0]
    exact ⟨(fun hh => by cases hh), (fun ⟨i, hi, _⟩ => by omega)⟩)
theorem okl_b {P g se : Int} {h kn : Nat → Int} {x r : Int} (hP : 0 ≤ P ∧ P ≤ 10) (hx : WH x (sof x) P) (hs : sbg P x) (hr : ∀ n, n < 61 → (b6 r n = true ↔ ∃ z, SUX P g se h kn x z ∧ ∃ y, RCX P g se h kn z n y ∧ sbg P y)) : OKL P g se h kn x (lor 1 (lshl r 1)) := by
  intro n hn
  rw [b6_or, b6_1 (by omega), b6_shl (by omega)]
  cases n with
  | zero =>
    constructor
    · intro _; exact ⟨x, rfl, hs⟩
    · intro _; rfl
  | succ n =>
    rw [decide_eq_false (show ¬ n + 1 = 0 by omega), decide_eq_true (show 1 ≤ n + 1 by omega), Bool.false_or, Bool.true_and, show n + 1 - 1 = n by omega, hr n (by omega)]
    constructor
    · rintro ⟨z, hz, y, hy, hsy⟩; exact ⟨y, rcx_first.mpr ⟨z, hz, hy⟩, hsy⟩
    · rintro ⟨y, hy, hsy⟩
      obtain ⟨z, hz, hy2⟩ := rcx_first.mp hy
      exact ⟨z, hz, y, hy2, hsy⟩
theorem okl_no {P g se : Int} {h kn : Nat → Int} {x : Int} (hP : 0 ≤ P ∧ P ≤ 10) (hx : WH x (sof x) P) (hs : ¬ sbg P x) : OKL P g se h kn x (lor 0 (lshl 0 1)) := by
  intro n hn
  rw [b6_or, b6_0, b6_shl (by omega), b6_0, Bool.and_false, Bool.or_false]
  exact ⟨(fun hh => by cases hh), fun ⟨y, hy, hsy⟩ => absurd (sbg_back hP hx hy hsy) hs⟩
theorem lkb_pc {P g se : Int} {h kn : Nat → Int} {x0 : Int} {u0 : Wd} (hP : 0 ≤ P ∧ P ≤ 10) (hg : 1 ≤ g ∧ g ≤ 3) (h0 : WH x0 (sof x0) P) (hS : SRC P g se h kn x0 u0) (hw : CW P g se h kn x0 u0) (hr : ROK u0) (hlt : u0 24 4 ≤ 2147470000) : PC (f_S_lookBack 0 (-1) u0) (fun _ u => (∀ c, c ≠ 24 → c ≠ 25 → c ≠ 26 → c ≠ 27 → c ≠ 32 → u c = u0 c) ∧ (ROK u ∧ u 24 4 ≤ u0 24 4 + 3000) ∧ ∀ k : Nat, (k : Int) < u0 28 7 → OKL P g se h kn (u0 30 k) (u 32 k)) := by
  obtain ⟨⟨hT, hre⟩, hX, hC, hO, hPr, hK⟩ := hS
  obtain ⟨⟨o0, o1⟩, o2, o3⟩ := hO
  have b7 := hT.2.2.1
  have whk : ∀ k : Nat, (k : Int) < u0 28 7 → WH (u0 30 k) (sof (u0 30 k)) P := fun k hk => by
    obtain ⟨t, ht⟩ := (hre k hk).1
    exact rx_wh hP h0 ht
  have l8 : ∀ (n : Nat) {v5 : Int} {u : Wd}, -1 ≤ v5 → v5 < u0 28 8 → (∀ c, c ≠ 24 → c ≠ 25 → c ≠ 26 → c ≠ 27 → c ≠ 32 → u c = u0 c) → ROK u → u 24 4 ≤ u0 24 4 + (u0 28 8 - 1 - v5) → (∀ j : Nat, v5 < (j : Int) → (j : Int) < u0 28 8 → OKL P g se h kn (u0 30 (u0 35 j).toNat) (u 32 (u0 35 j).toNat)) → PC (f_S_lookBack_8 n 0 (-1) v5 u) (fun _ u => (∀ c, c ≠ 24 → c ≠ 25 → c ≠ 26 → c ≠ 27 → c ≠ 32 → u c = u0 c) ∧ (ROK u ∧ u 24 4 ≤ u0 24 4 + 3000) ∧ ∀ k : Nat, (k : Int) < u0 28 7 → OKL P g se h kn (u0 30 k) (u 32 k)) := by
    intro n
    induction n with
    | zero => intros; exact pc_none
    | succ n ih =>
      intro v5 u i5 i5' hu hru hlu hA
      rw [f_S_lookBack_8]
      refine pc_ite (fun c => pc_some ⟨hu, ⟨hru, by omega⟩, fun k hk => ?_⟩) (fun c => pc_gd (fun _ => pc_let (fun x2 e2 => ?_)))
      · obtain ⟨j, hj, ej⟩ := hPr k hk
        have := hA j (by omega) hj
        rw [ej, show ((k : Nat) : Int).toNat = k by omega] at this
        exact this
      · rw [hu 35 (by decide) (by decide) (by decide) (by decide) (by decide)] at e2
        have b2 := o2 v5.toNat (by omega)
        rw [← e2] at b2
        have hx := whk x2.toNat (by omega)
        have u28 : u 28 = u0 28 := hu 28 (by decide) (by decide) (by decide) (by decide) (by decide)
        have u30 : u 30 = u0 30 := hu 30 (by decide) (by decide) (by decide) (by decide) (by decide)
        have u5 : u 5 = u0 5 := hu 5 (by decide) (by decide) (by decide) (by decide) (by decide)
        have u7 : u 7 = u0 7 := hu 7 (by decide) (by decide) (by decide) (by decide) (by decide)
        have hTu : TC u := tc_eq hT (hu 29 (by decide) (by decide) (by decide) (by decide) (by decide)) u30 (by rw [u28])
        have hwu : CW P g se h kn x0 u := by unfold CW at hw ⊢; rw [u5, u7]; exact hw
        have hxu : WH (u 30 x2.toNat) (sof (u 30 x2.toNat)) P := by rw [u30]; exact hx
        -- what is written
        have w79 : ∀ {s0 : Int}, ((s0 = 0 ∧ ¬ sbg P (u0 30 x2.toNat)) ∨ (s0 = 1 ∧ sbg P (u0 30 x2.toNat))) → PC (f_S_lookBack_79 (f_S_lookBack_8 n) 0 (-1) v5 x2 s0 u) (fun _ u => (∀ c, c ≠ 24 → c ≠ 25 → c ≠ 26 → c ≠ 27 → c ≠ 32 → u c = u0 c) ∧ (ROK u ∧ u 24 4 ≤ u0 24 4 + 3000) ∧ ∀ k : Nat, (k : Int) < u0 28 7 → OKL P g se h kn (u0 30 k) (u 32 k)) := fun {s0} hs0 => by
          unfold f_S_lookBack_79
          refine pc_call (lbh_pc (x0 := x0) hP hg hwu hTu (by rw [u28]; exact b2) hxu (fun y hy => ?_) (fun hsb j hj hsj => ?_) hru (by omega)) (fun r5 u6 q => ?_)
          · rw [u30] at hy
            obtain ⟨j, j1, j2, _⟩ := hC x2.toNat (by omega) y hy
            exact ⟨j, by rw [u28]; exact j1, by rw [u30]; exact j2⟩
          · rw [u28] at hj
            rw [u30] at hsj hsb ⊢
            obtain ⟨p, hp, ep⟩ := hPr j hj
            have rk := sx_rank hP hg hx hsj hsb
            have hpv : v5 < (p : Int) := by
              refine Classical.byContradiction fun hh => ?_
              by_cases c1 : p = v5.toNat
              · rw [c1, ← e2] at ep
                rw [show j = x2.toNat by omega] at rk
                omega
              · have := hK p v5.toNat (by omega) (by omega)
                rw [ep, ← e2, show ((j : Nat) : Int).toNat = j by omega] at this
                unfold rkx at this
                omega
            have := hA p hpv hp
            rw [ep, show ((j : Nat) : Int).toNat = j by omega] at this
            exact this
          · obtain ⟨⟨q1, q2, q3⟩, q4⟩ := q
            refine pc_gd (fun _ => pc_lw (fun u7' e7 => pc_let (fun x8 e8 => ?_)))
            rw [w32_id (by omega)] at e8
            rw [e8]
            rw [u30] at q4
            have fr : ∀ c, c ≠ 24 → c ≠ 25 → c ≠ 26 → c ≠ 27 → c ≠ 32 → u7' c = u0 c := fun c a1 a2 a3 a4 a5 => by rw [e7, st_row a5, q1 c a1 a2 a3 a4, hu c a1 a2 a3 a4 a5]
            have r24 : u7' 24 = u6 24 := by rw [e7, st_row (by decide)]
            have r27 : u7' 27 = u6 27 := by rw [e7, st_row (by decide)]
            have r32 : u6 32 = u 32 := q1 32 (by decide) (by decide) (by decide) (by decide)
            refine ih (by omega) (by omega) fr (by unfold ROK; rw [r24, r27]; exact q2) (by rw [r24]; omega) (fun j hj1 hj2 => ?_)
            by_cases cj : (j : Int) = v5
            · rw [show j = v5.toNat by omega, ← e2, e7, st_eq]
              rcases q4 with ⟨a1, a2⟩ | ⟨a1, a2⟩
              · rcases hs0 with ⟨b1, _⟩ | ⟨_, b2'⟩
                · rw [b1, a2]; exact okl_no hP hx a1
                · exact absurd b2' a1
              · rcases hs0 with ⟨_, b2'⟩ | ⟨b1, _⟩
                · exact absurd a1 b2'
                · rw [b1]; exact okl_b hP hx a1 a2
            · have ne : (u0 35 j).toNat ≠ x2.toNat := fun hh => by
                have b3 := o2 j hj2
                have := o3 j v5.toNat hj2 (by omega) (by rw [← e2]; omega)
                omega
              rw [e7, st_k ne, r32]
              exact hA j (by omega) hj2
        refine pc_call (sgu_pc (w := u) (s := x2) (by rw [u28]; exact b2) hxu) (fun r3 u4 q => ?_)
        rw [q.1]
        have sb := sbg_0 q.2
        rw [u30] at sb
        unfold f_S_lookBack_48 f_S_lookBack_49 f_S_lookBack_78 f_S_lookBack_74
        refine pc_ite (fun c3 => pc_ite (fun _ => w79 (Or.inl ⟨rfl, fun hh => sb.mpr hh c3⟩)) (fun e => absurd rfl e)) (fun c3 => ?_)
        refine pc_call (sgu_pc (w := u) (s := x2) (by rw [u28]; exact b2) hxu) (fun r11 u12 q' => ?_)
        rw [q'.1]
        have iz : iand 0 (ixor r11 (-1)) = 0 := by have := iand_l (x := 0) (y := ixor r11 (-1)) (by decide); omega
        refine pc_ite (fun _ => pc_ite (fun e => absurd e (by decide)) (fun _ => pc_ite (fun _ => w79 (Or.inr ⟨rfl, sb.mp c3⟩)) (fun e => absurd rfl e))) (fun e => absurd iz e)
  unfold f_S_lookBack
  refine pc_let (fun x1 e1 => ?_)
  rw [w32_id (by omega)] at e1
  rw [e1]
  exact l8 FU (by omega) (by omega) (fun _ _ _ _ _ _ => rfl) hr (by omega) (fun j h1 h2 => by omega)
/-! THE REFERENCE'S SEARCH, once more: the table of its STATES stands too, and who is HIDDEN -/
def RLC (P g se : Int) (h kn : Nat → Int) (x0 : Int) (u : Wd) : Prop := RLI P g se h kn x0 u ∧ COD P g se h kn x0 u ∧ ∃ nm, B10 (u 43 44) nm ∧ ∀ k : Nat, (k : Int) < P → nm k = hB P h k
theorem fs53c {P g se : Int} {h kn : Nat → Int} {x0 : Int} {b : Wd} (hP : 0 ≤ P ∧ P ≤ 10) (hg : 1 ≤ g ∧ g ≤ 3) (h0 : WH x0 (sof x0) P) : ∀ (n : Nat) {v2 : Int} {w : Wd}, FRY b w → w 43 0 = P → w 43 10 = g → w 43 11 = se → (∀ j : Nat, (j : Int) < P → w 45 j = kn j ∧ 0 ≤ kn j ∧ kn j ≤ 1023) → (∃ nm, B10 (w 43 44) nm ∧ ∀ k : Nat, (k : Int) < P → nm k = hB P h k) → RSI P g se h kn x0 v2 w → PC (f_R_findStates_53 n v2 w) (fun r u => FRY b u ∧ G [] u u ∧ ((r = 0 ∧ MNY P g se h kn x0) ∨ (r = 1 ∧ RLC P g se h kn x0 u))) := by
  intro n
  induction n with
  | zero => intros; exact pc_none
  | succ n ih =>
    intro v2 w hF c0 c10 c11 c45 c44 hI
    obtain ⟨hG, hC, hv, h1, hz, hU, hE⟩ := hI
    rw [f_R_findStates_53]
    have a40 : (0 : Int) ≤ w 43 40 ∧ w 43 40 ≤ 3000 := hG.1 43 40
    have a41 : (0 : Int) ≤ w 43 41 ∧ w 43 41 ≤ 756000 := hG.1 43 41
    refine pc_ite (fun c => ?_) (fun c => ?_)
    · refine pc_gd (fun _ => pc_lw (fun u e => pc_some ?_))
      have ev : v2 = w 43 40 := by omega
      have G1 : G [6499] w u := g_st (g_self hG) e rfl rfl (show (0 : Int) ≤ w 43 41 ∧ w 43 41 ≤ 756000 by omega)
      have ro : ∀ c, c ≠ 64 → u c = w c := fun c hc => by rw [e, st_row hc]
      have z64 : ∀ k, u 64 k = if k = (w 43 40).toNat then w 43 41 else w 64 k := fun k => by
        rw [e]
        by_cases ck : k = (w 43 40).toNat
        · rw [if_pos ck, ck, st_eq]
        · rw [if_neg ck, st_k ck]
      have r43 := ro 43 (by decide)
      have nx : ∀ s : Nat, (s : Int) < w 43 40 → u 64 (s + 1) = nxe w v2 s := fun s hs => by
        unfold nxe
        rw [z64]
        by_cases cs : (s : Int) + 1 < v2
        · rw [if_pos cs, if_neg (by omega)]
        · rw [if_neg cs, if_pos (by omega)]
      have closed : ∀ (t : Nat) (x : Int), RCX P g se h kn x0 t x → ∃ i : Nat, (i : Int) < w 43 40 ∧ w 63 i = cdx P x := by
        intro t
        induction t with
        | zero => intro x ex; exact ⟨0, by omega, by rw [show x = x0 from ex]; exact hz⟩
        | succ t iht =>
          rintro x ⟨y, hy, hs⟩
          obtain ⟨i, hi, ei⟩ := iht y hy
          obtain ⟨e', _, _, h3, h4⟩ := ((hE i (by omega)).2 y ⟨rx_wh hP h0 hy, t, hy⟩ ei).2 x hs
          exact ⟨(w 65 e').toNat, by omega, h4⟩
      have hcod : COD P g se h kn x0 u := by
        unfold COD Fnd Miss
        rw [r43, ro 63 (by decide), ro 67 (by decide)]
        exact hC
      refine ⟨⟨fun c a1 a2 a3 a4 a5 a6 a7 => (ro c a3).trans (hF.1 c a1 a2 a3 a4 a5 a6 a7), fun k a b c => by rw [r43]; exact hF.2 k a b c⟩, g_self G1, Or.inr ⟨rfl, ?_, hcod, by rw [r43]; exact c44⟩⟩
      unfold RLI
      rw [r43, ro 63 (by decide)]
      refine ⟨⟨h1, a40.2⟩, fun i j hi hj e2 => ?_, hC.2, fun x hx => ?_, hz, fun s hs => ?_⟩
      · have f1 := hC.1 i hi
        rw [e2] at f1
        exact fnd_one f1 (hC.1 j hj)
      · obtain ⟨t, ht⟩ := hx.2
        exact closed t x ht
      · obtain ⟨e1, e2⟩ := hE s (by omega)
        have es : u 64 s = w 64 s := by rw [z64, if_neg (by omega)]
        rw [nx s hs, es]
        refine ⟨by omega, ?_⟩
        unfold EDS
        rw [es, r43, ro 63 (by decide), ro 65 (by decide)]
        exact e2
    · refine pc_gd (fun _ => pc_lw (fun u11 e11 => ?_))
      have G1 : G [6499] w u11 := g_st (g_self hG) e11 rfl rfl (show (0 : Int) ≤ w 43 41 ∧ w 43 41 ≤ 756000 by omega)
      have ro : ∀ c, c ≠ 64 → u11 c = w c := fun c hc => by rw [e11, st_row hc]
      have z64 : ∀ k, u11 64 k = if k = v2.toNat then w 43 41 else w 64 k := fun k => by
        rw [e11]
        by_cases ck : k = v2.toNat
        · rw [if_pos ck, ck, st_eq]
        · rw [if_neg ck, st_k ck]
      have ev : v2 = ((v2.toNat : Nat) : Int) := by omega
      obtain ⟨x, hx, ex⟩ := hC.2 v2.toNat (by omega)
      have hld := load_pc (P := P) (s := sof x) (w := u11) (t := v2.toNat) hP (by rw [ro 43 (by decide)]; exact c0) hx.1.2.2 (by rw [ro 63 (by decide)]; exact ex)
      rw [← ev] at hld
      refine pc_call (pc_and hld (pc_ok (s_R_load (g_self G1) (by omega)))) (fun r12 u13 q => ?_)
      obtain ⟨⟨q1, q2⟩, _, q3⟩ := q
      have G13 : G [] u13 u13 := g_self q3
      have rr : ∀ c, c ≠ 64 → c ≠ 68 → u13 c = w c := fun c a b => (q2 c b).trans (ro c a)
      have r43 := rr 43 (by decide) (by decide)
      have r63 := rr 63 (by decide) (by decide)
      have r65 := rr 65 (by decide) (by decide)
      have r66 := rr 66 (by decide) (by decide)
      have r67 := rr 67 (by decide) (by decide)
      have hR : RCx P g se h kn (sof x) u13 := by
        refine ⟨by rw [r43]; exact c0, by rw [r43]; exact c10, by rw [r43]; exact c11, q1, fun j hj => ?_, ?_⟩
        · rw [rr 45 (by decide) (by decide)]; exact c45 j hj
        · rw [r43]; exact c44
      have cod13 : COD P g se h kn x0 u13 := by
        unfold COD
        rw [r43, r63]
        exact ⟨fun t ht => fnd_congr (fun k => by rw [r67]) (fun k => by rw [r63]) (hC.1 t ht), hC.2⟩
      have hJ : JIx P g se h kn x0 x v2 (w 43 41) u13 := by
        refine ⟨G13, cod13, by rw [r43]; omega, fun e h1 h2 => ?_, fun t ht hs => ?_, fun t ht => ?_⟩
        · rw [r43] at h2; omega
        · rw [r43] at ht
          rw [r66] at hs
          have := hU t ht; omega
        · rw [r43] at ht
          rw [r66]
          have := hU t ht; omega
      refine pc_call (gp_pc hP hg h0 hx (by omega) 16 (m := 0) (d := 0) (f := 0) hR hJ ⟨rfl, rfl⟩ (by decide) hP.1 (b10_w b10_0 (fun k _ => by rw [bt_0]; rfl)) (b10_w b10_0 (fun k _ => by rw [bt_0]; rfl))) (fun r14 u15 q => ?_)
      obtain ⟨q4, q5, q6⟩ := q
      have f13 : FRY b u13 := ⟨fun c a1 a2 a3 a4 a5 a6 a7 => (rr c a3 a7).trans (hF.1 c a1 a2 a3 a4 a5 a6 a7), fun k a b c => by rw [r43]; exact hF.2 k a b c⟩
      have f15 : FRY b u15 := ⟨fun c a1 a2 a3 a4 a5 a6 a7 => (q5.1.1 c a1 a2 a4 a5 a6).trans (f13.1 c a1 a2 a3 a4 a5 a6 a7), fun k a b c => (q5.1.2 k a b).trans (f13.2 k a b c)⟩
      rcases q6 with ⟨q6, q7⟩ | ⟨q6, q7⟩
      · refine pc_ite (fun _ => pc_some ⟨f15, q4.1, Or.inl ⟨rfl, q7⟩⟩) (fun e => absurd q6 e)
      · refine pc_ite (fun e => by omega) (fun _ => pc_let (fun x16 e16 => ?_))
        rw [w32_id (by omega)] at e16
        rw [e16]
        obtain ⟨g1, g2, g3, g4, g5⟩ := q5
        rw [r43] at g2 g3 g4 g5
        rw [r63] at g3
        rw [r65] at g5
        have u64 : u15 64 = u11 64 := (g1.1 64 (by decide) (by decide) (by decide) (by decide) (by decide)).trans (q2 64 (by decide))
        have b40 : (0 : Int) ≤ u15 43 40 ∧ u15 43 40 ≤ 3000 := q4.1.1 43 40
        refine ih f15 (by rw [g1.2 0 (by decide) (by decide), r43]; exact c0) (by rw [g1.2 10 (by decide) (by decide), r43]; exact c10) (by rw [g1.2 11 (by decide) (by decide), r43]; exact c11) (fun j hj => by rw [g1.1 45 (by decide) (by decide) (by decide) (by decide) (by decide), rr 45 (by decide) (by decide)]; exact c45 j hj) (by rw [g1.2 44 (by decide) (by decide), r43]; exact c44) ⟨q4.1, q4.2.1, by omega, by omega, by rw [g3 0 (by omega)]; exact hz, fun t ht => by have := q4.2.2.2.2.2 t ht; omega, fun s hs => ?_⟩
        by_cases cs : (s : Int) < v2
        · obtain ⟨e1, e2⟩ := hE s cs
          have es : u15 64 s = w 64 s := by rw [u64, z64, if_neg (by omega)]
          have en : nxe u15 (v2 + 1) s = nxe w v2 s := by
            unfold nxe
            rw [if_pos (by omega), u64, z64]
            by_cases cs2 : (s : Int) + 1 < v2
            · rw [if_pos cs2, if_neg (by omega)]
            · rw [if_neg cs2, if_pos (by omega)]
          rw [en, es]
          refine ⟨by omega, fun y hy ey => ?_⟩
          rw [g3 s (by omega)] at ey
          obtain ⟨b1, b2⟩ := e2 y hy ey
          rw [es]
          refine ⟨fun e h1 h2 => ?_, fun z hz' => ?_⟩
          · obtain ⟨b3, z, b4, b5⟩ := b1 e h1 h2
            rw [g5 e (by omega), g3 _ (by omega)]
            exact ⟨by omega, z, b4, b5⟩
          · obtain ⟨e, b3, b4, b5, b6'⟩ := b2 z hz'
            exact ⟨e, b3, b4, by rw [g5 e (by omega)]; omega, by rw [g5 e (by omega), g3 _ (by omega)]; exact b6'⟩
        · have es : s = v2.toNat := by omega
          have e64 : u15 64 s = w 43 41 := by rw [u64, z64, if_pos es]
          have en : nxe u15 (v2 + 1) s = u15 43 41 := by unfold nxe; rw [if_neg (by omega)]
          rw [en, e64]
          refine ⟨by omega, fun y hy ey => ?_⟩
          have eyx : y = x := cdx_inj hP hy.1 hx.1 (by rw [← ey, es, g3 _ (by omega)]; exact ex)
          rw [eyx, e64]
          refine ⟨fun e h1 h2 => ?_, fun z hz' => ?_⟩
          · obtain ⟨b3, _, b4⟩ := q4.2.2.2.1 e h1 h2
            exact ⟨b3, b4⟩
          · obtain ⟨m, ⟨d, f, hD⟩, hwz⟩ := hz'
            obtain ⟨hD2, hso⟩ := (drc_se hP).mp hD
            have hso2 : m = 0 ∨ ((pn (fun k => sty P (sof x) g k || bt m k) 10 : Nat) : Int) ≤ se := by
              rcases hso with e | e
              · left; rw [e] at hD2; exact hD2.2
              · exact Or.inr e
            have := q7 m (by rw [show (P - 0).toNat = P.toNat by omega]; exact ext_all hP hD2) hso2
            obtain ⟨e, b3, b4, b5, b6'⟩ := this
            exact ⟨e, b3, b4, b5, by rw [b6']; exact (cdx_wh hP hwz).symm⟩
theorem fs12c {P g se : Int} {h kn : Nat → Int} {x0 : Int} {b : Wd} (hP : 0 ≤ P ∧ P ≤ 10) (hg : 1 ≤ g ∧ g ≤ 3) (h0 : WH x0 (sof x0) P) : ∀ (n : Nat) {v2 : Int} {w : Wd}, FRY b w → G [] w w → (0 ≤ v2 ∧ v2 ≤ 8192) → (∀ p : Nat, (p : Int) < v2 → w 67 p = 0) → w 43 0 = P → w 43 10 = g → w 43 11 = se → (∀ k : Nat, (k : Int) < P → w 47 k = sof x0 k) → (∀ j : Nat, (j : Int) < P → w 45 j = kn j ∧ 0 ≤ kn j ∧ kn j ≤ 1023) → (∃ nm, B10 (w 43 44) nm ∧ ∀ k : Nat, (k : Int) < P → nm k = hB P h k) → PC (f_R_findStates_12 n v2 w) (fun r u => FRY b u ∧ G [] u u ∧ ((r = 0 ∧ MNY P g se h kn x0) ∨ (r = 1 ∧ RLC P g se h kn x0 u))) := by
  intro n
  induction n with
  | zero => intros; exact pc_none
  | succ n ih =>
    intro v2 w hF hG i2 hz c0 c10 c11 c47 c45 c44
    rw [f_R_findStates_12]
    refine pc_ite (fun c => ?_) (fun c => ?_)
    · have hz' : ∀ p, p < 8192 → w 67 p = 0 := fun p hp => hz p (by omega)
      refine pc_lw (fun u4 e4 => pc_lw (fun u5 e5 => ?_))
      have t67 : ∀ p, u4 67 p = w 67 p := fun p => by rw [e4, st_c (by decide)]
      have t40 : u4 43 40 = 0 := by rw [e4, st_eq]
      have g4 : G [4340] w u4 := by
        refine g_st0 (g_self hG) e4 rfl ⟨?_, ?_⟩ (show (0 : Int) ≤ 0 ∧ (0 : Int) ≤ 3000 by decide)
        · intro p q hp hq e hn
          rw [t67, hz' p hp] at hn
          exact absurd rfl hn
        · intro p hp
          rw [t67, hz' p hp, t40]; exact Int.le_refl _
      have g5 : G [4341] u4 u5 := g_st (g_self g4) e5 rfl rfl (show (0 : Int) ≤ 0 ∧ (0 : Int) ≤ 756000 by decide)
      have ro : ∀ c, c ≠ 43 → u5 c = w c := fun c hc => by rw [e5, st_row hc, e4, st_row hc]
      have rk : ∀ k, k ≠ 40 → k ≠ 41 → u5 43 k = w 43 k := fun k a b => by rw [e5, st_k b, e4, st_k a]
      have f40 : u5 43 40 = 0 := by rw [e5, st_k (by decide)]; exact t40
      have f41 : u5 43 41 = 0 := by rw [e5, st_eq]
      refine pc_call (cnow_pc (s := sof x0) hP (by rw [rk 0 (by decide) (by decide)]; exact c0) (fun k hk => by rw [ro 47 (by decide)]; exact c47 k hk) h0.2.2) (fun r6 u7 q => ?_)
      rw [q.1, q.2]
      have cr := cdx_rg hP h0
      have ecd : cdf (sof x0) P.toNat = cdx P x0 := rfl
      rw [ecd]
      refine pc_call (so_pc (g_self g5) (by omega)) (fun r8 u9 z => ?_)
      obtain ⟨⟨z1, z2, z3, z4⟩, ⟨s1, s2, s3⟩, z6⟩ := z
      rw [f40] at s2 s3
      rw [f41] at z4
      have s3' : r8 = 0 ∧ u9 43 40 = 0 + 1 ∧ u9 66 r8.toNat = -1 ∧ Fnd u9 (cdx P x0) r8.toNat := by
        rcases s3 with h1 | h1 | h1
        · exfalso; have := h1.2.2; omega
        · exfalso; omega
        · exact h1
      obtain ⟨y1, y2, y3, y4⟩ := s3'
      rw [y1] at y3 y4
      have y5 : u9 63 0 = cdx P x0 := by
        obtain ⟨_, _, _, _, e⟩ := y4
        exact e
      have f9 : FRY b u9 := ⟨fun c a1 a2 a3 a4 a5 a6 a7 => ((z2.1 c a1 a2 a4 a5 a6).trans (ro c a1)).trans (hF.1 c a1 a2 a3 a4 a5 a6 a7), fun k a b c => ((z2.2 k a b).trans (rk k a b)).trans (hF.2 k a b c)⟩
      refine fs53c hP hg h0 FU f9 (by rw [z2.2 0 (by decide) (by decide), rk 0 (by decide) (by decide)]; exact c0) (by rw [z2.2 10 (by decide) (by decide), rk 10 (by decide) (by decide)]; exact c10) (by rw [z2.2 11 (by decide) (by decide), rk 11 (by decide) (by decide)]; exact c11) (fun j hj => by rw [z2.1 45 (by decide) (by decide) (by decide) (by decide) (by decide), ro 45 (by decide)]; exact c45 j hj) (by rw [z2.2 44 (by decide) (by decide), rk 44 (by decide) (by decide)]; exact c44) ⟨z1, ⟨fun t ht => ?_, fun t ht => ?_⟩, by omega, by omega, y5, fun t ht => ?_, fun s hs => by omega⟩
      · rw [show t = 0 by omega, y5]; exact y4
      · rw [show t = 0 by omega, y5]; exact ⟨x0, ⟨h0, 0, rfl⟩, rfl⟩
      · rw [show t = 0 by omega]
        have e : u9 66 0 = -1 := y3
        rw [e]; decide
    · refine pc_gd (fun _ => pc_lw (fun u17 e17 => pc_let (fun x18 e18 => ?_)))
      rw [w32_id (by omega)] at e18
      rw [e18]
      have ro : ∀ c, c ≠ 67 → u17 c = w c := fun c hc => by rw [e17, st_row hc]
      have t67 : ∀ p, u17 67 p = if p = v2.toNat then 0 else w 67 p := fun p => by
        rw [e17]
        by_cases hp : p = v2.toNat
        · rw [if_pos hp, hp, st_eq]
        · rw [if_neg hp, st_k hp]
      have a40 : (0 : Int) ≤ w 43 40 ∧ w 43 40 ≤ 3000 := hG.1 43 40
      have g17 : G [6799] w u17 := by
        refine g_st0 (g_self hG) e17 rfl ⟨?_, ?_⟩ (show (0 : Int) ≤ 0 ∧ (0 : Int) ≤ 3000 by decide)
        · intro p q hp hq e hn
          rw [t67] at hn
          rw [t67, t67] at e
          by_cases h1 : p = v2.toNat
          · rw [if_pos h1] at hn; exact absurd rfl hn
          · rw [if_neg h1] at hn e
            by_cases h2 : q = v2.toNat
            · rw [if_pos h2] at e; exact absurd e hn
            · rw [if_neg h2] at e
              exact hG.2.2.1 p q hp hq e hn
        · intro p hp
          rw [t67, ro 43 (by decide)]
          split
          · omega
          · exact hG.2.2.2 p hp
      have r43 := ro 43 (by decide)
      refine ih ⟨fun c a1 a2 a3 a4 a5 a6 a7 => (ro c a6).trans (hF.1 c a1 a2 a3 a4 a5 a6 a7), fun k a b c => by rw [r43]; exact hF.2 k a b c⟩ (g_self g17) (by omega) (fun p hp => ?_) (by rw [r43]; exact c0) (by rw [r43]; exact c10) (by rw [r43]; exact c11) (fun k hk => by rw [ro 47 (by decide)]; exact c47 k hk) (fun j hj => by rw [ro 45 (by decide)]; exact c45 j hj) (by rw [r43]; exact c44)
      rw [t67]
      split
      · rfl
      · exact hz p (by omega)
/-- the search of the reference, some more being HIDDEN -/
theorem fstc_pc {P g se : Int} {h kn : Nat → Int} {x0 v1 : Int} {w : Wd} (hP : 0 ≤ P ∧ P ≤ 10) (hg : 1 ≤ g ∧ g ≤ 3) (h0 : WH x0 (sof x0) P) (hG : G [] w w) (c0 : w 43 0 = P) (c10 : w 43 10 = g) (c11 : w 43 11 = se) (c47 : ∀ k : Nat, (k : Int) < P → w 47 k = sof x0 k) (c45 : ∀ j : Nat, (j : Int) < P → w 45 j = kn j ∧ 0 ≤ kn j ∧ kn j ≤ 1023) (hv : 0 ≤ v1 ∧ v1 ≤ 1023) (hh : ∀ k : Nat, (k : Int) < P → (hB P (w 46) k || bt v1 k) = hB P h k) : PC (f_R_findStates v1 w) (fun r u => FRY w u ∧ G [] u u ∧ ((r = 0 ∧ MNY P g se h kn x0) ∨ (r = 1 ∧ RLC P g se h kn x0 u))) := by
  unfold f_R_findStates
  refine pc_call (hidden_e (w := w) (by omega)) (fun r1 u2 q => ?_)
  rw [q.1]
  have q2 := q.2
  rw [c0] at q2
  refine pc_lw (fun u3 e3 => ?_)
  have hB1 := b10_or q2 (b10_self hv)
  have hr := hB1.1
  have g3 : G [4344] w u3 := g_st (g_self hG) e3 rfl rfl (show (0 : Int) ≤ ior r1 v1 ∧ ior r1 v1 ≤ 1023 by omega)
  have ro : ∀ c, c ≠ 43 → u3 c = w c := fun c hc => by rw [e3, st_row hc]
  have rk : ∀ k, k ≠ 44 → u3 43 k = w 43 k := fun k hk => by rw [e3, st_k hk]
  refine fs12c hP hg h0 FU ⟨fun c a1 _ _ _ _ _ _ => ro c a1, fun k _ _ c => rk k c⟩ (g_self g3) (by decide) (fun p hp => by omega) (by rw [rk 0 (by decide)]; exact c0) (by rw [rk 10 (by decide)]; exact c10) (by rw [rk 11 (by decide)]; exact c11) (fun k hk => by rw [ro 47 (by decide)]; exact c47 k hk) (fun j hj => by rw [ro 45 (by decide)]; exact c45 j hj) ⟨fun k => hB P (w 46) k || bt v1 k, by rw [e3, st_eq]; exact hB1, hh⟩
/-! THE FIRST HIT: the reference's PAIRS told -/
def WT (b u : Wd) : Prop := G [] u u ∧ (∀ c, c ≠ 43 → c ≠ 52 → c ≠ 75 → u c = b c) ∧ ∀ k, k ≠ 15 → k ≠ 52 → u 43 k = b 43 k
theorem fnd_w {w u : Wd} {c : Int} {t : Nat} (h63 : u 63 = w 63) (h67 : u 67 = w 67) : Fnd u c t ↔ Fnd w c t := by
  unfold Fnd Miss
  rw [h63, h67]
theorem rtp_pc {P g se : Int} {s h kn : Nat → Int} {b : Wd} {hit : Int → Bool} (hP : 0 ≤ P ∧ P ≤ 10) (hg3 : g ≤ 3) (b0 : b 43 0 = P) (b10 : b 43 10 = g) (b11 : b 43 11 = se) (bkn : ∀ j : Nat, (j : Int) < P → b 45 j = kn j ∧ 0 ≤ kn j ∧ kn j ≤ 1023) (bnm : ∃ nm, B10 (b 43 44) nm ∧ ∀ k : Nat, (k : Int) < P → nm k = hB P h k) (b68 : ∀ k : Nat, (k : Int) < P → b 68 k = s k) (hs : ∀ k : Nat, (k : Int) < P → 0 ≤ s k ∧ s k ≤ 4)
    (hF : ∀ m, MOV P se kn (gs P s) (fre P s h) (sty P s g) m → ∃ t : Nat, (t : Int) < b 43 40 ∧ Fnd b (cdf (nis P s g (bt m)) P.toNat) t)
    (hyes : ∀ m, MOV P se kn (gs P s) (fre P s h) (sty P s g) m → ∀ t : Nat, Fnd b (cdf (nis P s g (bt m)) P.toNat) t → (hit m = true ↔ b 74 t ≠ 0))
    (hno : ∀ (d : Nat) (f m : Int), DRC P 20 kn (gs P s) (fre P s h) (sty P s g) d f m → d ≠ 0 → ¬ ((pn (fun k => sty P s g k || bt m k) 10 : Nat) : Int) ≤ se → hit m = false) :
    ∀ (D : Nat) {d : Nat} {f v2 v3 m : Int} {u : Wd} (N : Nat), WT b u → DRC P 20 kn (gs P s) (fre P s h) (sty P s g) d f m → ior v2 v3 = m → (0 ≤ v2 ∧ v2 ≤ 1023) → (0 ≤ v3 ∧ v3 ≤ 1023) → (v2 = 0 ↔ d = 0) → (∀ o, o < 10 → fre P s h o = true → bt v3 o = bt m o) → P - f < (N : Int) → u 43 52 = (d : Int) → PC (f_R_tellPairs D f v2 v3 u) (fun r u' => (fdf P 20 kn (gs P s) (fre P s h) (sty P s g) hit N f m = none ∧ r = 0 ∧ WT b u' ∧ u' 43 52 = (d : Int)) ∨ ∃ x, fdf P 20 kn (gs P s) (fre P s h) (sty P s g) hit N f m = some x ∧ r = 1 ∧ 2 * u' 43 52 = ((pn (bt x) 10 : Nat) : Int)) := by
  obtain ⟨nm, hnm, hnB⟩ := bnm
  have gsv : ∀ o : Nat, (o : Int) < P → gs P s o = gst (s o) := fun o ho => by
    unfold gs; rw [show inP P o = true from decide_eq_true ho]; rfl
  have l31 : ∀ (rec : Int → Int → Int → Wd → Option (Int × Wd)) (n : Nat) {v5 : Int} {u : Wd}, PC (f_R_tellPairs_31 rec n v5 u) (fun r u' => r = 1 ∧ u' 43 52 = u 43 52) := by
    intro rec n
    induction n with
    | zero => intros; exact pc_none
    | succ n ih =>
      intro v5 u
      rw [f_R_tellPairs_31]
      refine pc_ite (fun _ => pc_some ⟨rfl, rfl⟩) (fun _ => pc_gd (fun _ => ?_))
      have ht : PC (f_R_tell (u 75 v5.toNat) u) (fun _ v => v 43 52 = u 43 52) := by
        unfold f_R_tell
        refine pc_gd (fun _ => pc_lw (fun u1 e1 => pc_lw (fun u2 e2 => pc_some ?_)))
        rw [e2, st_k (by decide), e1, st_c (by decide)]
      refine pc_call ht (fun r15 u16 q => pc_let (fun x17 _ => pc_w ih (fun r u' q' => ⟨q'.1, q'.2.trans q⟩)))
  intro D
  induction D with
  | zero => intros; exact pc_none
  | succ D ih =>
    intro d f v2 v3 m u N hW hm hor hv2 hv3 hv20 hv3m hN h52
    obtain ⟨gu, wr, wk⟩ := hW
    obtain ⟨hmr, hf0, hfP⟩ := drc_rg hP hm
    obtain ⟨N', hN'⟩ : ∃ N' : Nat, N = N' + 1 := ⟨N - 1, by omega⟩
    have hpm := (drc_pn hP gs_fre hm).1
    have hin : ∀ k, k < 10 → bt m k = true → (k : Int) < P := fun k hk hb => by
      rcases (drc_fr hP gs_fre hm).2.2 k hk hb with ⟨e, _⟩ | e
      · exact e
      · exact (fre_0 e).1
    have u0 : u 43 0 = P := by rw [wk 0 (by decide) (by decide)]; exact b0
    rw [f_R_tellPairs]
    unfold f_R_tellPairs_b f_R_tellPairs_59
    have bp := be_pc (P := P) (g := g) (se := se) (s := s) (w := u) (v1 := v2) (v2 := v3) (m := m) gu hP u0 (by rw [wk 10 (by decide) (by decide)]; exact b10) (by rw [wk 11 (by decide) (by decide)]; exact b11) hg3 (fun k hk => by rw [wr 68 (by decide) (by decide) (by decide)]; exact b68 k hk) hs hor hmr hin
    -- the loops: nobody hit here
    have loops : hit m = false → PC (f_R_tellPairs_62 (f_R_tellPairs D) FU v2 v3 f u) (fun r u' => (fdf P 20 kn (gs P s) (fre P s h) (sty P s g) hit N f m = none ∧ r = 0 ∧ WT b u' ∧ u' 43 52 = (d : Int)) ∨ ∃ x, fdf P 20 kn (gs P s) (fre P s h) (sty P s g) hit N f m = some x ∧ r = 1 ∧ 2 * u' 43 52 = ((pn (bt x) 10 : Nat) : Int)) := fun hh => by
      rw [hN', fdf_s, if_neg (by rw [hh]; decide)]
      have l62 : ∀ (n : Nat) {v5 : Int} {u : Wd}, f ≤ v5 → v5 ≤ P → WT b u → u 43 52 = (d : Int) → (∀ i : Nat, (i : Int) < v5 → fgi P 20 kn (gs P s) (fre P s h) (sty P s g) hit N' f m i = none) → PC (f_R_tellPairs_62 (f_R_tellPairs D) n v2 v3 v5 u) (fun r u' => (fdo (fgi P 20 kn (gs P s) (fre P s h) (sty P s g) hit N' f m) P.toNat = none ∧ r = 0 ∧ WT b u' ∧ u' 43 52 = (d : Int)) ∨ ∃ x, fdo (fgi P 20 kn (gs P s) (fre P s h) (sty P s g) hit N' f m) P.toNat = some x ∧ r = 1 ∧ 2 * u' 43 52 = ((pn (bt x) 10 : Nat) : Int)) := by
        intro n
        induction n with
        | zero => intros; exact pc_none
        | succ n ihn =>
          intro v5 u i5 i5' hW h52 hI
          have u0 : u 43 0 = P := by rw [hW.2.2 0 (by decide) (by decide)]; exact b0
          rw [f_R_tellPairs_62, u0]
          unfold f_R_tellPairs_206
          have w5 : w32 (v5 + 1) = v5 + 1 := w32_id (by omega)
          refine pc_ite (fun c => pc_some (Or.inl ⟨fdo_none (fun i hi => hI i (by omega)), rfl, hW, h52⟩)) (fun c => pc_gd (fun _ => ?_))
          have e5 : ((v5.toNat : Nat) : Int) = v5 := by omega
          have u68 : ∀ k : Nat, (k : Int) < P → u 68 k = s k := fun k hk => by rw [hW.2.1 68 (by decide) (by decide) (by decide)]; exact b68 k hk
          rw [isG_e, jc_s, u68 v5.toNat (by omega), ← gsv v5.toNat (by omega)]
          -- on to the next who brings
          have nx : ∀ {u : Wd}, WT b u → u 43 52 = (d : Int) → (∀ o, o < 10 → fgo P 20 kn (gs P s) (fre P s h) (sty P s g) hit N' m v5.toNat o = none) → PC (jlet (w32 (v5 + 1)) fun x5 => f_R_tellPairs_62 (f_R_tellPairs D) n v2 v3 x5 u) (fun r u' => (fdo (fgi P 20 kn (gs P s) (fre P s h) (sty P s g) hit N' f m) P.toNat = none ∧ r = 0 ∧ WT b u' ∧ u' 43 52 = (d : Int)) ∨ ∃ x, fdo (fgi P 20 kn (gs P s) (fre P s h) (sty P s g) hit N' f m) P.toNat = some x ∧ r = 1 ∧ 2 * u' 43 52 = ((pn (bt x) 10 : Nat) : Int)) := fun {u} hW h52 hz => by
            rw [w5]
            refine pc_let (fun x5 e => ?_)
            rw [e]
            refine ihn (by omega) (by omega) hW h52 (fun i hi => ?_)
            by_cases ci : (i : Int) < v5
            · exact hI i ci
            · rw [show i = v5.toNat by omega]
              unfold fgi
              rw [if_pos (by omega)]
              exact fdo_none hz
          by_cases cg : gs P s v5.toNat = true
          · rw [if_pos cg]
            refine pc_ite (fun e => absurd e (by decide)) (fun _ => ?_)
            have l90 : ∀ (k : Nat) {v6 : Int} {u : Wd}, 0 ≤ v6 → v6 ≤ P → WT b u → u 43 52 = (d : Int) → (∀ o : Nat, (o : Int) < v6 → fgo P 20 kn (gs P s) (fre P s h) (sty P s g) hit N' m v5.toNat o = none) → PC (f_R_tellPairs_90 (f_R_tellPairs D) (f_R_tellPairs_62 (f_R_tellPairs D) n) k v2 v3 v5 v6 u) (fun r u' => (fdo (fgi P 20 kn (gs P s) (fre P s h) (sty P s g) hit N' f m) P.toNat = none ∧ r = 0 ∧ WT b u' ∧ u' 43 52 = (d : Int)) ∨ ∃ x, fdo (fgi P 20 kn (gs P s) (fre P s h) (sty P s g) hit N' f m) P.toNat = some x ∧ r = 1 ∧ 2 * u' 43 52 = ((pn (bt x) 10 : Nat) : Int)) := by
              intro k
              induction k with
              | zero => intros; exact pc_none
              | succ k ihk =>
                intro v6 u i6 i6' hW h52 hO
                have u0 : u 43 0 = P := by rw [hW.2.2 0 (by decide) (by decide)]; exact b0
                rw [f_R_tellPairs_90, u0]
                unfold f_R_tellPairs_206 f_R_tellPairs_200
                have w6 : w32 (v6 + 1) = v6 + 1 := w32_id (by omega)
                have e6 : ((v6.toNat : Nat) : Int) = v6 := by omega
                refine pc_ite (fun c6 => nx hW h52 (fun o ho => ?_)) (fun c6 => pc_gd (fun _ => ?_))
                · by_cases co : (o : Int) < v6
                  · exact hO o co
                  · unfold fgo
                    rw [if_neg (fun hc => ?_)]
                    have := (fre_0 (cnd1_t.mp hc).2.1).1
                    omega
                · have v6x : ∀ {u : Wd}, WT b u → u 43 52 = (d : Int) → fgo P 20 kn (gs P s) (fre P s h) (sty P s g) hit N' m v5.toNat v6.toNat = none → PC (jlet (w32 (v6 + 1)) fun x8 => f_R_tellPairs_90 (f_R_tellPairs D) (f_R_tellPairs_62 (f_R_tellPairs D) n) k v2 v3 v5 x8 u) (fun r u' => (fdo (fgi P 20 kn (gs P s) (fre P s h) (sty P s g) hit N' f m) P.toNat = none ∧ r = 0 ∧ WT b u' ∧ u' 43 52 = (d : Int)) ∨ ∃ x, fdo (fgi P 20 kn (gs P s) (fre P s h) (sty P s g) hit N' f m) P.toNat = some x ∧ r = 1 ∧ 2 * u' 43 52 = ((pn (bt x) 10 : Nat) : Int)) := fun {u} hW h52 hz => by
                    rw [w6]
                    refine pc_let (fun x8 e => ?_)
                    rw [e]
                    refine ihk (by omega) (by omega) hW h52 (fun o ho => ?_)
                    by_cases co : (o : Int) < v6
                    · exact hO o co
                    · rw [show o = v6.toNat by omega]; exact hz
                  have none' : cnd1 20 kn (gs P s) (fre P s h) (sty P s g) m v5.toNat v6.toNat = false → fgo P 20 kn (gs P s) (fre P s h) (sty P s g) hit N' m v5.toNat v6.toNat = none := fun e => by
                    unfold fgo
                    rw [if_neg (by rw [e]; decide)]
                  have bk := bkn v5.toNat (by omega)
                  have k45 : u 45 v5.toNat = kn v5.toNat := by rw [hW.2.1 45 (by decide) (by decide) (by decide)]; exact bk.1
                  have k44 : u 43 44 = b 43 44 := hW.2.2 44 (by decide) (by decide)
                  have hB := b10_andn (b10_andn (b10_self bk.2) (b10_self hv3).2) hnm.2
                  rw [k45, k44, hasR_10 u hB (by omega), jc_s]
                  have u68 : ∀ k : Nat, (k : Int) < P → u 68 k = s k := fun k hk => by rw [hW.2.1 68 (by decide) (by decide) (by decide)]; exact b68 k hk
                  have hnv := hnB v6.toNat (by omega)
                  by_cases cb : (bt (kn v5.toNat) v6.toNat && !bt v3 v6.toNat && !nm v6.toNat) = true
                  · rw [if_pos cb]
                    refine pc_ite (fun e => absurd e (by decide)) (fun _ => pc_gd (fun _ => ?_))
                    rw [Bool.and_eq_true, Bool.and_eq_true, Bool.not_eq_true', Bool.not_eq_true'] at cb
                    obtain ⟨⟨cb1, cb2⟩, cb3⟩ := cb
                    rw [u68 v6.toNat (by omega)]
                    refine pc_ite (fun c68 => ?_) (fun c68 => v6x hW h52 (none' ?_))
                    · have cf : fre P s h v6.toNat = true := by
                        unfold fre sr
                        rw [show inP P v6.toNat = true from decide_eq_true (by omega), c68, ← hnv, cb3]; rfl
                      have cm : bt m v6.toNat = false := by rw [← hv3m v6.toNat (by omega) cf]; exact cb2
                      have p10 := pn_le (fun k => sty P s g k || bt (sq m v5.toNat v6.toNat) k) 10
                      have hc1 : cnd1 20 kn (gs P s) (fre P s h) (sty P s g) m v5.toNat v6.toNat = true := cnd1_t.mpr ⟨cg, cf, cb1, cm, by omega⟩
                      have hgo : fgo P 20 kn (gs P s) (fre P s h) (sty P s g) hit N' m v5.toNat v6.toNat = fdf P 20 kn (gs P s) (fre P s h) (sty P s g) hit N' (v5 + 1) (sq m v5.toNat v6.toNat) := by
                        unfold fgo
                        rw [if_pos hc1, e5]
                      have hD : DRC P 20 kn (gs P s) (fre P s h) (sty P s g) (d + 1) (v5 + 1) (sq m v5.toNat v6.toNat) := ⟨f, m, hm, v5.toNat, v6.toNat, by omega, by omega, by omega, cg, cf, cb1, cm, rfl, by omega, by omega⟩
                      have hpx := (drc_pn hP gs_fre hD).1
                      have d10 := pn_le (bt (sq m v5.toNat v6.toNat)) 10
                      refine pc_gd (fun _ => pc_lw (fun u9 e9 => pc_lw (fun u10 e10 => ?_)))
                      rw [w32_id (show -2147483648 ≤ 10 * v5 ∧ 10 * v5 ≤ 2147483647 by omega), w32_id (show -2147483648 ≤ 10 * v5 + v6 ∧ 10 * v5 + v6 ≤ 2147483647 by omega)] at e9
                      have g9 : G [7599] u u9 := g_st (g_self hW.1) e9 rfl rfl (show (0 : Int) ≤ 10 * v5 + v6 ∧ 10 * v5 + v6 ≤ 100 by omega)
                      have u9k : u9 43 = u 43 := by rw [e9, st_row (by decide)]
                      rw [u9k, h52, w32_id (by omega)] at e10
                      have g10 : G [4352] u9 u10 := g_st (g_self g9) e10 rfl rfl (show (0 : Int) ≤ (d : Int) + 1 ∧ (d : Int) + 1 ≤ 10 by omega)
                      have hW10 : WT b u10 := ⟨g_self g10, fun c a1 a2 a3 => by rw [e10, st_row a1, e9, st_row a3]; exact hW.2.1 c a1 a2 a3, fun k a1 a2 => by rw [e10, st_k a2, u9k]; exact hW.2.2 k a1 a2⟩
                      rw [w5]
                      have ob := or1_b (u := v3) (o := v6.toNat) hv3 (by omega)
                      have ib := or1_b (u := v2) (o := v5.toNat) hv2 (by omega)
                      rw [e6] at ob
                      rw [e5] at ib
                      have hnew := ih (d := d + 1) (f := v5 + 1) (v2 := ior v2 (ishl 1 v5)) (v3 := ior v3 (ishl 1 v6)) (m := sq m v5.toNat v6.toNat) (u := u10) N' hW10 hD (by
                        refine b10_eq (b10_or ib ob) (b10_self (sq_rg hmr (by omega) (by omega))) (fun q hq => ?_)
                        rw [sq_t hmr (by omega) (by omega) hq]
                        have om := (b10_or (b10_self hv2) (b10_self hv3)).2 q hq
                        rw [hor] at om
                        have om' : bt m q = (bt v2 q || bt v3 q) := om
                        show ((bt v2 q || decide (q = v5.toNat)) || (bt v3 q || decide (q = v6.toNat))) = (bt m q || decide (q = v5.toNat) || decide (q = v6.toNat))
                        rw [om']
                        cases bt v2 q <;> cases bt v3 q <;> cases decide (q = v5.toNat) <;> cases decide (q = v6.toNat) <;> rfl) ib.1 ob.1 (by
                        constructor
                        · intro e
                          have := ib.2 v5.toNat (by omega)
                          rw [e, bt_0] at this
                          have t2 : false = (bt v2 v5.toNat || decide (v5.toNat = v5.toNat)) := this
                          simp at t2
                        · intro e; omega) (fun q hq hfq => by
                        rw [ob.2 q hq, sq_t hmr (by omega) (by omega) hq]
                        show (bt v3 q || decide (q = v6.toNat)) = (bt m q || decide (q = v5.toNat) || decide (q = v6.toNat))
                        have ne : q ≠ v5.toNat := fun e => by rw [e, gs_fre (h := h) v5.toNat (by omega) cg] at hfq; cases hfq
                        rw [hv3m q hq hfq, decide_eq_false ne, Bool.or_false]) (by omega) (by rw [e10, st_eq]; omega)
                      refine pc_call hnew (fun r11 u12 q => ?_)
                      rcases q with ⟨q1, q2, q3, q4⟩ | ⟨x, q1, q2, q3⟩
                      · refine pc_ite (fun _ => pc_lw (fun u13 e13 => ?_)) (fun c => absurd q2 c)
                        rw [q4, w32_id (by omega)] at e13
                        have g13 : G [4352] u12 u13 := g_st (g_self q3.1) e13 rfl rfl (show (0 : Int) ≤ ((d + 1 : Nat) : Int) - 1 ∧ ((d + 1 : Nat) : Int) - 1 ≤ 10 by omega)
                        exact v6x ⟨g_self g13, fun c a1 a2 a3 => by rw [e13, st_row a1]; exact q3.2.1 c a1 a2 a3, fun k a1 a2 => by rw [e13, st_k a2]; exact q3.2.2 k a1 a2⟩ (by rw [e13, st_eq]; omega) (by rw [hgo]; exact q1)
                      · refine pc_ite (fun c => by omega) (fun _ => pc_some (Or.inr ⟨x, fdo_hit (n := v5.toNat) (fun i hi => hI i (by omega)) ?_ (by omega), rfl, q3⟩))
                        unfold fgi
                        rw [if_pos (by omega)]
                        exact fdo_hit (n := v6.toNat) (fun o ho => hO o (by omega)) (by rw [hgo]; exact q1) (by omega)
                    · cases e2 : cnd1 20 kn (gs P s) (fre P s h) (sty P s g) m v5.toNat v6.toNat with
                      | false => rfl
                      | true => exact absurd (fre_0 (cnd1_t.mp e2).2.1).2.1 c68
                  · rw [if_neg cb]
                    refine pc_ite (fun _ => v6x hW h52 (none' ?_)) (fun e => absurd rfl e)
                    cases e2 : cnd1 20 kn (gs P s) (fre P s h) (sty P s g) m v5.toNat v6.toNat with
                    | false => rfl
                    | true =>
                      obtain ⟨_, a2, a3, a4, _⟩ := cnd1_t.mp e2
                      have a5 := hv3m v6.toNat (by omega) a2
                      have a6 := (fre_0 a2).2.2
                      exact absurd (by rw [a3, a5, a4, hnv, a6]; rfl) cb
            exact l90 FU (by decide) hP.1 hW h52 (fun o ho => by omega)
          · rw [if_neg cg]
            refine pc_ite (fun _ => nx hW h52 (fun o _ => ?_)) (fun e => absurd rfl e)
            unfold fgo
            rw [if_neg (fun hc => cg (cnd1_t.mp hc).1)]
      exact l62 FU (Int.le_refl f) hfP ⟨gu, wr, wk⟩ h52 (fun i hi => by unfold fgi; rw [if_neg (by omega)])
    refine pc_call bp (fun r1 u2 q => ?_)
    obtain ⟨_, q⟩ := q
    by_cases cs : d = 0 ∨ ((pn (fun k => sty P s g k || bt m k) 10 : Nat) : Int) ≤ se
    · have hok : v2 = 0 ∨ ((pn (fun k => sty P s g k || bt m k) 10 : Nat) : Int) ≤ se := cs.imp hv20.mpr id
      have hM : MOV P se kn (gs P s) (fre P s h) (sty P s g) m := ⟨d, f, (drc_se hP).mpr ⟨hm, cs⟩⟩
      obtain ⟨t, ht, hft⟩ := hF m hM
      have u63 : u 63 = b 63 := wr 63 (by decide) (by decide) (by decide)
      have u67 : u 67 = b 67 := wr 67 (by decide) (by decide) (by decide)
      have hfu : Fnd u (cdf (nis P s g (bt m)) P.toNat) t := (fnd_w u63 u67).mpr hft
      have u40 : u 43 40 = b 43 40 := wk 40 (by decide) (by decide)
      rcases q with ⟨q1, _⟩ | ⟨_, _, _, _, q5⟩ | ⟨_, q2, q3⟩
      · exact absurd hok q1
      · exact absurd hfu (q5 t)
      · have found : u2 = u ∧ r1 = (t : Int) := by
          rcases q3.2.2 with ⟨a1, _⟩ | ⟨_, _, a3, a4⟩ | ⟨a1, _, _, a4⟩
          · omega
          · rw [a3] at a4
            exact ⟨a3, by have := fnd_one hfu a4; omega⟩
          · have := fnd_one (q3.1 _ _ hfu) a4
            omega
        rw [found.1, found.2]
        have hy := hyes m hM t hft
        have u74 : u 74 = b 74 := wr 74 (by decide) (by decide) (by decide)
        refine pc_ite (fun c => by omega) (fun _ => pc_gd (fun _ => ?_))
        rw [u74, show ((t : Nat) : Int).toNat = t by omega]
        refine pc_ite (fun c74 => loops ?_) (fun c74 => pc_lw (fun u14 e14 => pc_w (l31 _ FU) (fun r u' q' => Or.inr ⟨m, ?_, q'.1, ?_⟩)))
        · cases e : hit m with
          | false => rfl
          | true => exact absurd c74 (hy.mp e)
        · rw [hN', fdf_s, if_pos (hy.mpr c74)]
        · rw [q'.2, e14, st_k (by decide), h52, hpm]; omega
    · rcases q with ⟨_, q2, q3⟩ | ⟨q1, _⟩ | ⟨q1, _⟩
      · rw [q3]
        refine pc_ite (fun _ => loops (hno d f m hm (fun e => cs (Or.inl e)) (fun e => cs (Or.inr e)))) (fun c => by omega)
      · exact absurd (q1.imp hv20.mp id) cs
      · exact absurd (q1.imp hv20.mp id) cs
/-! BEGIN: the reference's flags -/
theorem lfq_lwq {P g se : Int} {h kn : Nat → Int} {x r : Int} (hl : LFQ P g se h kn (sbg P) x r) : LWQ P g se h kn x r := by
  rcases hl with ⟨a, b⟩ | ⟨_, b, c, d⟩
  · exact Or.inl ⟨b, a⟩
  · exact Or.inr ⟨b, c, d⟩
/-- from what follows one can stay a WEEK less, where it is on the way to the last one -/
theorem lwq_on {P g se : Int} {h kn : Nat → Int} {x y L r : Int} (hP : 0 ≤ P ∧ P ≤ 10) (hx : WH x (sof x) P) (hL : LWQ P g se h kn x L) (h1 : 1 ≤ L) (hs : SUX P g se h kn x y) (hr : LWQ P g se h kn y r) : r = L - 1 ↔ ∃ z, RCX P g se h kn y (L - 1).toNat z ∧ sbg P z := by
  have hy : WH y (sof y) P := rx_wh hP hx (t := 1) (x := y) ⟨x, rfl, hs⟩
  constructor
  · intro e
    rcases hr with ⟨a, _⟩ | ⟨_, a, _⟩
    · omega
    · rw [← e]; exact a
  · rintro ⟨z, z1, z2⟩
    rcases hr with ⟨_, a⟩ | ⟨a, ⟨y', b1, b2⟩, c⟩
    · exact absurd (sbg_back hP hy z1 z2) a
    · have c1 := c _ z z1 z2
      rcases hL with ⟨e, _⟩ | ⟨_, _, d⟩
      · omega
      · have := d (r.toNat + 1) y' (rcx_first.mpr ⟨y, hs, b1⟩) b2
        omega
theorem fnx_pc {P g se : Int} {h kn : Nat → Int} {x0 : Int} {w : Wd} (h0 : WH x0 (sof x0) P) (hr : RLI P g se h kn x0 w) : PC (f_R_findNext w) (fun _ u => (∀ c, c ≠ 76 → u c = w c) ∧ ∀ t : Nat, (t : Int) < w 43 40 → (u 76 t = 1 ∧ ∃ y, SUX P g se h kn x0 y ∧ w 63 t = cdx P y) ∨ (u 76 t = 0 ∧ ∀ y, SUX P g se h kn x0 y → w 63 t ≠ cdx P y)) := by
  unfold f_R_findNext
  have hX0 : VLS P g se h kn x0 x0 := ⟨h0, 0, rfl⟩
  obtain ⟨⟨n1, n2⟩, hinj, hv, hc, hz, hE⟩ := hr
  obtain ⟨⟨lo, hi⟩, hE0⟩ := hE 0 (by omega)
  have hi' : w 64 0 ≤ w 64 1 := hi
  have hE0' : EDS P g se h kn x0 w 0 (w 64 1) := hE0
  obtain ⟨hE1, hE2⟩ := hE0' x0 hX0 hz
  have nz1 : nz 1 = 1 := by decide
  have nz0 : nz 0 = 0 := by decide
  have l30 : ∀ (n : Nat) {v1 : Int} {u : Wd}, w 64 0 ≤ v1 → v1 ≤ w 64 1 → (∀ c, c ≠ 76 → u c = w c) → (∀ t : Nat, (t : Int) < w 43 40 → (u 76 t = 1 ∧ ∃ e : Nat, w 64 0 ≤ (e : Int) ∧ (e : Int) < v1 ∧ w 65 e = (t : Int)) ∨ (u 76 t = 0 ∧ ∀ e : Nat, w 64 0 ≤ (e : Int) → (e : Int) < v1 → w 65 e ≠ (t : Int))) → PC (f_R_findNext_30 n v1 u) (fun _ u => (∀ c, c ≠ 76 → u c = w c) ∧ ∀ t : Nat, (t : Int) < w 43 40 → (u 76 t = 1 ∧ ∃ y, SUX P g se h kn x0 y ∧ w 63 t = cdx P y) ∨ (u 76 t = 0 ∧ ∀ y, SUX P g se h kn x0 y → w 63 t ≠ cdx P y)) := by
    intro n
    induction n with
    | zero => intros; exact pc_none
    | succ n ih =>
      intro v1 u i1 i1' hu hA
      rw [f_R_findNext_30, hu 64 (by decide), hu 65 (by decide)]
      refine pc_gd (fun _ => pc_ite (fun c => pc_some ⟨hu, fun t ht => ?_⟩) (fun c => ?_))
      · have c' : w 64 1 ≤ v1 := c
        rcases hA t ht with ⟨a, e, e1, e2, e3⟩ | ⟨a, hno⟩
        · obtain ⟨_, y, hy, ey⟩ := hE1 e e1 (by omega)
          rw [e3, show ((t : Nat) : Int).toNat = t by omega] at ey
          exact Or.inl ⟨a, y, hy, ey⟩
        · refine Or.inr ⟨a, fun y hy hcy => ?_⟩
          obtain ⟨e, e1, e2, e3, e4⟩ := hE2 y hy
          have := hinj (w 65 e).toNat t (by omega) ht (by rw [e4, hcy])
          exact hno e e1 (by omega) (by omega)
      · have c' : ¬ w 64 1 ≤ v1 := c
        obtain ⟨g4, _⟩ := hE1 v1.toNat (by omega) (by omega)
        refine pc_gd (fun hg1 => pc_gd (fun _ => pc_lw (fun u2 e2 => pc_let (fun x3 e3 => ?_))))
        rw [w32_id (by omega)] at e3
        rw [nz1] at e2
        rw [e3]
        have z76 : ∀ k, u2 76 k = if k = (w 65 v1.toNat).toNat then 1 else u 76 k := fun k => by
          rw [e2]
          by_cases ck : k = (w 65 v1.toNat).toNat
          · rw [if_pos ck, ck, st_eq]
          · rw [if_neg ck, st_k ck]
        refine ih (by omega) (by omega) (fun c hc => by rw [e2, st_row hc]; exact hu c hc) (fun t ht => ?_)
        rw [z76]
        by_cases ct : t = (w 65 v1.toNat).toNat
        · rw [if_pos ct]
          exact Or.inl ⟨rfl, v1.toNat, by omega, by omega, by omega⟩
        · rw [if_neg ct]
          rcases hA t ht with ⟨a, e, e1, e2', e3'⟩ | ⟨a, hno⟩
          · exact Or.inl ⟨a, e, e1, by omega, e3'⟩
          · refine Or.inr ⟨a, fun e h1 h2 => ?_⟩
            by_cases ce : (e : Int) < v1
            · exact hno e h1 ce
            · rw [show e = v1.toNat by omega]; omega
  have l2 : ∀ (n : Nat) {v1 : Int} {u : Wd}, 0 ≤ v1 → (∀ c, c ≠ 76 → u c = w c) → (∀ t : Nat, (t : Int) < v1 → u 76 t = 0) → PC (f_R_findNext_2 n v1 u) (fun _ u => (∀ c, c ≠ 76 → u c = w c) ∧ ∀ t : Nat, (t : Int) < w 43 40 → (u 76 t = 1 ∧ ∃ y, SUX P g se h kn x0 y ∧ w 63 t = cdx P y) ∨ (u 76 t = 0 ∧ ∀ y, SUX P g se h kn x0 y → w 63 t ≠ cdx P y)) := by
    intro n
    induction n with
    | zero => intros; exact pc_none
    | succ n ih =>
      intro v1 u i1 hu hA
      rw [f_R_findNext_2, hu 43 (by decide), hu 64 (by decide)]
      refine pc_ite (fun c => pc_gd (fun _ => pc_let (fun x1 e1 => ?_))) (fun c => pc_gd (fun hg1 => pc_lw (fun u4 e4 => pc_let (fun x5 e5 => ?_))))
      · have e1' : x1 = w 64 0 := e1
        rw [e1']
        exact l30 FU (Int.le_refl _) hi' hu (fun t ht => Or.inr ⟨hA t (by omega), fun e h1 h2 => by omega⟩)
      · rw [w32_id (by omega)] at e5
        rw [nz0] at e4
        rw [e5]
        refine ih (by omega) (fun c hc => by rw [e4, st_row hc]; exact hu c hc) (fun t ht => ?_)
        by_cases ct : t = v1.toNat
        · rw [e4, ct, st_eq]
        · rw [e4, st_k ct]; exact hA t (by omega)
  exact l2 FU (by decide) (fun _ _ => rfl) (fun t ht => by omega)
theorem isn_pc {v1 : Int} {u : Wd} : PC (f_R_isNext v1 u) (fun r v => v = u ∧ r = u 76 v1.toNat) := by
  unfold f_R_isNext
  exact pc_gd (fun _ => pc_let (fun x1 e1 => pc_ite (fun _ => pc_some ⟨rfl, e1⟩) (fun _ => pc_none)))
theorem b43_pc {b : Wd} {Q : Int → Wd → Prop} (h76 : ∀ t : Nat, (t : Int) < b 43 40 → b 76 t = 0 ∨ b 76 t = 1) (hk : ∀ v, (∀ c, c ≠ 74 → v c = b c) → G [] v v → (∀ t : Nat, (t : Int) < b 43 40 → (v 74 t ≠ 0 ↔ b 71 t = w32 (b 71 0 - 1) ∧ b 76 t = 1)) → PC (f_R_tellFirst v) Q) : ∀ (n : Nat) {v1 : Int} {u : Wd}, 0 ≤ v1 → G [] u u → (∀ c, c ≠ 74 → u c = b c) → (∀ t : Nat, (t : Int) < v1 → (u 74 t ≠ 0 ↔ b 71 t = w32 (b 71 0 - 1) ∧ b 76 t = 1)) → PC (f_R_begin2_43 n v1 u) Q := by
  intro n
  induction n with
  | zero => intros; exact pc_none
  | succ n ih =>
    intro v1 u i1 hG hu hA
    rw [f_R_begin2_43, hu 43 (by decide), hu 71 (by decide)]
    refine pc_ite (fun c => pc_call (hk u hu hG (fun t ht => hA t (by omega))) (fun r v q => pc_some q)) (fun c => pc_gd (fun hg1 => pc_gd (fun _ => ?_)))
    have wr : ∀ s : Int, s = 0 ∨ s = 1 → (s ≠ 0 ↔ b 71 v1.toNat = w32 (b 71 0 - 1) ∧ b 76 v1.toNat = 1) → PC (f_R_begin2_86 (f_R_begin2_43 n) v1 v1 s u) Q := fun s hs hcs => by
      unfold f_R_begin2_86
      refine pc_gd (fun _ => pc_lw (fun u12 e12 => pc_let (fun x13 e13 => ?_)))
      rw [w32_id (by omega)] at e13
      rw [e13]
      have hnz : nz s = s := by rcases hs with e | e <;> rw [e] <;> decide
      rw [hnz] at e12
      have g12 : G [7499] u u12 := g_st (g_self hG) e12 rfl rfl (show (0 : Int) ≤ s ∧ s ≤ 1 by omega)
      refine ih (by omega) (g_self g12) (fun c hc => by rw [e12, st_row hc]; exact hu c hc) (fun t ht => ?_)
      by_cases ct : t = v1.toNat
      · rw [ct, e12, st_eq]; exact hcs
      · rw [e12, st_k ct]; exact hA t (by omega)
    refine pc_ite (fun c71 => ?_) (fun c71 => ?_)
    · have c71' : b 71 v1.toNat = w32 (b 71 0 - 1) := c71
      refine pc_call (isn_pc (v1 := v1) (u := u)) (fun r14 u15 q => ?_)
      have e76 : r14 = b 76 v1.toNat := by rw [q.2, hu 76 (by decide)]
      rw [q.1]
      unfold f_R_begin2_85
      refine pc_ite (fun cr => wr 0 (Or.inl rfl) ⟨fun hh => absurd rfl hh, fun hh => by have := hh.2; omega⟩) (fun cr => wr 1 (Or.inr rfl) ⟨fun _ => ⟨c71', ?_⟩, fun _ => by decide⟩)
      rcases h76 v1.toNat (by omega) with e | e
      · omega
      · exact e
    · have c71' : ¬ b 71 v1.toNat = w32 (b 71 0 - 1) := c71
      unfold f_R_begin2_85
      exact wr 0 (Or.inl rfl) ⟨fun hh => absurd rfl hh, fun hh => absurd hh.1 c71'⟩
