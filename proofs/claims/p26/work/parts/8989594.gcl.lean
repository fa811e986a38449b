/-! THE FIRST HIT: the reference's PAIRS told -/
def WT (b u : Wd) : Prop := G [] u u ∧ (∀ c, c ≠ 43 → c ≠ 52 → c ≠ 75 → u c = b c) ∧ ∀ k, k ≠ 15 → k ≠ 52 → u 43 k = b 43 k
theorem fnd_w {w u : Wd} {c : Int} {t : Nat} (h63 : u 63 = w 63) (h67 : u 67 = w 67) : Fnd u c t ↔ Fnd w c t := by
  unfold Fnd Miss
  rw [h63, h67]
theorem rtp_pc {P g se : Int} {s h kn : Nat → Int} {b : Wd} {hit : Int → Bool} (hP : 0 ≤ P ∧ P ≤ 10) (hg3 : g ≤ 3) (b0 : b 43 0 = P) (b10 : b 43 10 = g) (b11 : b 43 11 = se) (bkn : ∀ j : Nat, (j : Int) < P → b 45 j = kn j ∧ 0 ≤ kn j ∧ kn j ≤ 1023) (bnm : ∃ nm, B10 (b 43 44) nm ∧ ∀ k : Nat, (k : Int) < P → nm k = hB P h k) (b68 : ∀ k : Nat, (k : Int) < P → b 68 k = s k) (hs : ∀ k : Nat, (k : Int) < P → 0 ≤ s k ∧ s k ≤ 4)
    (hF : ∀ m, MOV P se kn (gs P s) (fre P s h) (sty P s g) m → ∃ t : Nat, (t : Int) < b 43 40 ∧ Fnd b (cdf (nis P s g (bt m)) P.toNat) t)
    (hyes : ∀ m, MOV P se kn (gs P s) (fre P s h) (sty P s g) m → ∀ t : Nat, Fnd b (cdf (nis P s g (bt m)) P.toNat) t → (hit m = true ↔ b 74 t ≠ 0))
    (hno : ∀ (d : Nat) (f m : Int), DRC P 20 kn (gs P s) (fre P s h) (sty P s g) d f m → d ≠ 0 → ¬ ((pn (fun k => sty P s g k || bt m k) 10 : Nat) : Int) ≤ se → hit m = false) :
    ∀ (D : Nat) {d : Nat} {f v2 v3 m : Int} {u : Wd} (N : Nat), WT b u → DRC P 20 kn (gs P s) (fre P s h) (sty P s g) d f m → ior v2 v3 = m → (0 ≤ v2 ∧ v2 ≤ 1023) → (0 ≤ v3 ∧ v3 ≤ 1023) → (v2 = 0 ↔ d = 0) → (∀ o, o < 10 → fre P s h o = true → bt v3 o = bt m o) → P - f < (N : Int) → u 43 52 = (d : Int) → PC (f_R_tellPairs D f v2 v3 u) (fun r u' => (fdf P 20 kn (gs P s) (fre P s h) (sty P s g) hit N f m = none ∧ r = 0 ∧ WT b u' ∧ u' 43 52 = (d : Int)) ∨ ∃ x, fdf P 20 kn (gs P s) (fre P s h) (sty P s g) hit N f m = some x ∧ r = 1 ∧ 2 * u' 43 52 = ((pn (bt x) 10 : Nat) : Int)) := by
  obtain ⟨nm, hnm, hnB⟩ := bnm
  have gsv : ∀ o : Nat, (o : Int) < P → gs P s o = gst (s o) := fun o ho => by
    unfold gs; rw [show inP P o = true from decide_eq_true ho]; rfl
  have l31 : ∀ (rec : Int → Int → Int → Wd → Option (Int × Wd)) (n : Nat) {v5 : Int} {u : Wd}, PC (f_R_tellPairs_31 rec n v5 u) (fun r u' => r = 1 ∧ u' 43 52 = u 43 52) := by
    intro rec n
    induction n with
    | zero => intros; exact pc_none
    | succ n ih =>
      intro v5 u
      rw [f_R_tellPairs_31]
      refine pc_ite (fun _ => pc_some ⟨rfl, rfl⟩) (fun _ => pc_gd (fun _ => ?_))
      have ht : PC (f_R_tell (u 75 v5.toNat) u) (fun _ v => v 43 52 = u 43 52) := by
        unfold f_R_tell
        refine pc_gd (fun _ => pc_lw (fun u1 e1 => pc_lw (fun u2 e2 => pc_some ?_)))
        rw [e2, st_k (by decide), e1, st_c (by decide)]
      refine pc_call ht (fun r15 u16 q => pc_let (fun x17 _ => pc_w ih (fun r u' q' => ⟨q'.1, q'.2.trans q⟩)))
  intro D
  induction D with
  | zero => intros; exact pc_none
  | succ D ih =>
    intro d f v2 v3 m u N hW hm hor hv2 hv3 hv20 hv3m hN h52
    obtain ⟨gu, wr, wk⟩ := hW
    obtain ⟨hmr, hf0, hfP⟩ := drc_rg hP hm
    obtain ⟨N', hN'⟩ : ∃ N' : Nat, N = N' + 1 := ⟨N - 1, by omega⟩
    have hpm := (drc_pn hP gs_fre hm).1
    have hin : ∀ k, k < 10 → bt m k = true → (k : Int) < P := fun k hk hb => by
      rcases (drc_fr hP gs_fre hm).2.2 k hk hb with ⟨e, _⟩ | e
      · exact e
      · exact (fre_0 e).1
    have u0 : u 43 0 = P := by rw [wk 0 (by decide) (by decide)]; exact b0
    rw [f_R_tellPairs]
    unfold f_R_tellPairs_b f_R_tellPairs_59
    have bp := be_pc (P := P) (g := g) (se := se) (s := s) (w := u) (v1 := v2) (v2 := v3) (m := m) gu hP u0 (by rw [wk 10 (by decide) (by decide)]; exact b10) (by rw [wk 11 (by decide) (by decide)]; exact b11) hg3 (fun k hk => by rw [wr 68 (by decide) (by decide) (by decide)]; exact b68 k hk) hs hor hmr hin
    -- the loops: nobody hit here
    have loops : hit m = false → PC (f_R_tellPairs_62 (f_R_tellPairs D) FU v2 v3 f u) (fun r u' => (fdf P 20 kn (gs P s) (fre P s h) (sty P s g) hit N f m = none ∧ r = 0 ∧ WT b u' ∧ u' 43 52 = (d : Int)) ∨ ∃ x, fdf P 20 kn (gs P s) (fre P s h) (sty P s g) hit N f m = some x ∧ r = 1 ∧ 2 * u' 43 52 = ((pn (bt x) 10 : Nat) : Int)) := fun hh => by
      rw [hN', fdf_s, if_neg (by rw [hh]; decide)]
      have l62 : ∀ (n : Nat) {v5 : Int} {u : Wd}, f ≤ v5 → v5 ≤ P → WT b u → u 43 52 = (d : Int) → (∀ i : Nat, (i : Int) < v5 → fgi P 20 kn (gs P s) (fre P s h) (sty P s g) hit N' f m i = none) → PC (f_R_tellPairs_62 (f_R_tellPairs D) n v2 v3 v5 u) (fun r u' => (fdo (fgi P 20 kn (gs P s) (fre P s h) (sty P s g) hit N' f m) P.toNat = none ∧ r = 0 ∧ WT b u' ∧ u' 43 52 = (d : Int)) ∨ ∃ x, fdo (fgi P 20 kn (gs P s) (fre P s h) (sty P s g) hit N' f m) P.toNat = some x ∧ r = 1 ∧ 2 * u' 43 52 = ((pn (bt x) 10 : Nat) : Int)) := by
        intro n
        induction n with
        | zero => intros; exact pc_none
        | succ n ihn =>
          intro v5 u i5 i5' hW h52 hI
          have u0 : u 43 0 = P := by rw [hW.2.2 0 (by decide) (by decide)]; exact b0
          rw [f_R_tellPairs_62, u0]
          unfold f_R_tellPairs_206
          have w5 : w32 (v5 + 1) = v5 + 1 := w32_id (by omega)
          refine pc_ite (fun c => pc_some (Or.inl ⟨fdo_none (fun i hi => hI i (by omega)), rfl, hW, h52⟩)) (fun c => pc_gd (fun _ => ?_))
          have e5 : ((v5.toNat : Nat) : Int) = v5 := by omega
          have u68 : ∀ k : Nat, (k : Int) < P → u 68 k = s k := fun k hk => by rw [hW.2.1 68 (by decide) (by decide) (by decide)]; exact b68 k hk
          rw [isG_e, jc_s, u68 v5.toNat (by omega), ← gsv v5.toNat (by omega)]
          -- on to the next who brings
          have nx : ∀ {u : Wd}, WT b u → u 43 52 = (d : Int) → (∀ o, o < 10 → fgo P 20 kn (gs P s) (fre P s h) (sty P s g) hit N' m v5.toNat o = none) → PC (jlet (w32 (v5 + 1)) fun x5 => f_R_tellPairs_62 (f_R_tellPairs D) n v2 v3 x5 u) (fun r u' => (fdo (fgi P 20 kn (gs P s) (fre P s h) (sty P s g) hit N' f m) P.toNat = none ∧ r = 0 ∧ WT b u' ∧ u' 43 52 = (d : Int)) ∨ ∃ x, fdo (fgi P 20 kn (gs P s) (fre P s h) (sty P s g) hit N' f m) P.toNat = some x ∧ r = 1 ∧ 2 * u' 43 52 = ((pn (bt x) 10 : Nat) : Int)) := fun {u} hW h52 hz => by
            rw [w5]
            refine pc_let (fun x5 e => ?_)
            rw [e]
            refine ihn (by omega) (by omega) hW h52 (fun i hi => ?_)
            by_cases ci : (i : Int) < v5
            · exact hI i ci
            · rw [show i = v5.toNat by omega]
              unfold fgi
              rw [if_pos (by omega)]
              exact fdo_none hz
          by_cases cg : gs P s v5.toNat = true
          · rw [if_pos cg]
            refine pc_ite (fun e => absurd e (by decide)) (fun _ => ?_)
            have l90 : ∀ (k : Nat) {v6 : Int} {u : Wd}, 0 ≤ v6 → v6 ≤ P → WT b u → u 43 52 = (d : Int) → (∀ o : Nat, (o : Int) < v6 → fgo P 20 kn (gs P s) (fre P s h) (sty P s g) hit N' m v5.toNat o = none) → PC (f_R_tellPairs_90 (f_R_tellPairs D) (f_R_tellPairs_62 (f_R_tellPairs D) n) k v2 v3 v5 v6 u) (fun r u' => (fdo (fgi P 20 kn (gs P s) (fre P s h) (sty P s g) hit N' f m) P.toNat = none ∧ r = 0 ∧ WT b u' ∧ u' 43 52 = (d : Int)) ∨ ∃ x, fdo (fgi P 20 kn (gs P s) (fre P s h) (sty P s g) hit N' f m) P.toNat = some x ∧ r = 1 ∧ 2 * u' 43 52 = ((pn (bt x) 10 : Nat) : Int)) := by
              intro k
              induction k with
              | zero => intros; exact pc_none
              | succ k ihk =>
                intro v6 u i6 i6' hW h52 hO
                have u0 : u 43 0 = P := by rw [hW.2.2 0 (by decide) (by decide)]; exact b0
                rw [f_R_tellPairs_90, u0]
                unfold f_R_tellPairs_206 f_R_tellPairs_200
                have w6 : w32 (v6 + 1) = v6 + 1 := w32_id (by omega)
                have e6 : ((v6.toNat : Nat) : Int) = v6 := by omega
                refine pc_ite (fun c6 => nx hW h52 (fun o ho => ?_)) (fun c6 => pc_gd (fun _ => ?_))
                · by_cases co : (o : Int) < v6
                  · exact hO o co
                  · unfold fgo
                    rw [if_neg (fun hc => ?_)]
                    have := (fre_0 (cnd1_t.mp hc).2.1).1
                    omega
                · have v6x : ∀ {u : Wd}, WT b u → u 43 52 = (d : Int) → fgo P 20 kn (gs P s) (fre P s h) (sty P s g) hit N' m v5.toNat v6.toNat = none → PC (jlet (w32 (v6 + 1)) fun x8 => f_R_tellPairs_90 (f_R_tellPairs D) (f_R_tellPairs_62 (f_R_tellPairs D) n) k v2 v3 v5 x8 u) (fun r u' => (fdo (fgi P 20 kn (gs P s) (fre P s h) (sty P s g) hit N' f m) P.toNat = none ∧ r = 0 ∧ WT b u' ∧ u' 43 52 = (d : Int)) ∨ ∃ x, fdo (fgi P 20 kn (gs P s) (fre P s h) (sty P s g) hit N' f m) P.toNat = some x ∧ r = 1 ∧ 2 * u' 43 52 = ((pn (bt x) 10 : Nat) : Int)) := fun {u} hW h52 hz => by
                    rw [w6]
                    refine pc_let (fun x8 e => ?_)
                    rw [e]
                    refine ihk (by omega) (by omega) hW h52 (fun o ho => ?_)
                    by_cases co : (o : Int) < v6
                    · exact hO o co
                    · rw [show o = v6.toNat by omega]; exact hz
                  have none' : cnd1 20 kn (gs P s) (fre P s h) (sty P s g) m v5.toNat v6.toNat = false → fgo P 20 kn (gs P s) (fre P s h) (sty P s g) hit N' m v5.toNat v6.toNat = none := fun e => by
                    unfold fgo
                    rw [if_neg (by rw [e]; decide)]
                  have bk := bkn v5.toNat (by omega)
                  have k45 : u 45 v5.toNat = kn v5.toNat := by rw [hW.2.1 45 (by decide) (by decide) (by decide)]; exact bk.1
                  have k44 : u 43 44 = b 43 44 := hW.2.2 44 (by decide) (by decide)
                  have hB := b10_andn (b10_andn (b10_self bk.2) (b10_self hv3).2) hnm.2
                  rw [k45, k44, hasR_10 u hB (by omega), jc_s]
                  have u68 : ∀ k : Nat, (k : Int) < P → u 68 k = s k := fun k hk => by rw [hW.2.1 68 (by decide) (by decide) (by decide)]; exact b68 k hk
                  have hnv := hnB v6.toNat (by omega)
                  by_cases cb : (bt (kn v5.toNat) v6.toNat && !bt v3 v6.toNat && !nm v6.toNat) = true
                  · rw [if_pos cb]
                    refine pc_ite (fun e => absurd e (by decide)) (fun _ => pc_gd (fun _ => ?_))
                    rw [Bool.and_eq_true, Bool.and_eq_true, Bool.not_eq_true', Bool.not_eq_true'] at cb
                    obtain ⟨⟨cb1, cb2⟩, cb3⟩ := cb
                    rw [u68 v6.toNat (by omega)]
                    refine pc_ite (fun c68 => ?_) (fun c68 => v6x hW h52 (none' ?_))
                    · have cf : fre P s h v6.toNat = true := by
                        unfold fre sr
                        rw [show inP P v6.toNat = true from decide_eq_true (by omega), c68, ← hnv, cb3]; rfl
                      have cm : bt m v6.toNat = false := by rw [← hv3m v6.toNat (by omega) cf]; exact cb2
                      have p10 := pn_le (fun k => sty P s g k || bt (sq m v5.toNat v6.toNat) k) 10
                      have hc1 : cnd1 20 kn (gs P s) (fre P s h) (sty P s g) m v5.toNat v6.toNat = true := cnd1_t.mpr ⟨cg, cf, cb1, cm, by omega⟩
                      have hgo : fgo P 20 kn (gs P s) (fre P s h) (sty P s g) hit N' m v5.toNat v6.toNat = fdf P 20 kn (gs P s) (fre P s h) (sty P s g) hit N' (v5 + 1) (sq m v5.toNat v6.toNat) := by
                        unfold fgo
                        rw [if_pos hc1, e5]
                      have hD : DRC P 20 kn (gs P s) (fre P s h) (sty P s g) (d + 1) (v5 + 1) (sq m v5.toNat v6.toNat) := ⟨f, m, hm, v5.toNat, v6.toNat, by omega, by omega, by omega, cg, cf, cb1, cm, rfl, by omega, by omega⟩
                      have hpx := (drc_pn hP gs_fre hD).1
                      have d10 := pn_le (bt (sq m v5.toNat v6.toNat)) 10
                      refine pc_gd (fun _ => pc_lw (fun u9 e9 => pc_lw (fun u10 e10 => ?_)))
                      rw [w32_id (show -2147483648 ≤ 10 * v5 ∧ 10 * v5 ≤ 2147483647 by omega), w32_id (show -2147483648 ≤ 10 * v5 + v6 ∧ 10 * v5 + v6 ≤ 2147483647 by omega)] at e9
                      have g9 : G [7599] u u9 := g_st (g_self hW.1) e9 rfl rfl (show (0 : Int) ≤ 10 * v5 + v6 ∧ 10 * v5 + v6 ≤ 100 by omega)
                      have u9k : u9 43 = u 43 := by rw [e9, st_row (by decide)]
                      rw [u9k, h52, w32_id (by omega)] at e10
                      have g10 : G [4352] u9 u10 := g_st (g_self g9) e10 rfl rfl (show (0 : Int) ≤ (d : Int) + 1 ∧ (d : Int) + 1 ≤ 10 by omega)
                      have hW10 : WT b u10 := ⟨g_self g10, fun c a1 a2 a3 => by rw [e10, st_row a1, e9, st_row a3]; exact hW.2.1 c a1 a2 a3, fun k a1 a2 => by rw [e10, st_k a2, u9k]; exact hW.2.2 k a1 a2⟩
                      rw [w5]
                      have ob := or1_b (u := v3) (o := v6.toNat) hv3 (by omega)
                      have ib := or1_b (u := v2) (o := v5.toNat) hv2 (by omega)
                      rw [e6] at ob
                      rw [e5] at ib
                      have hnew := ih (d := d + 1) (f := v5 + 1) (v2 := ior v2 (ishl 1 v5)) (v3 := ior v3 (ishl 1 v6)) (m := sq m v5.toNat v6.toNat) (u := u10) N' hW10 hD (by
                        refine b10_eq (b10_or ib ob) (b10_self (sq_rg hmr (by omega) (by omega))) (fun q hq => ?_)
                        rw [sq_t hmr (by omega) (by omega) hq]
                        have om := (b10_or (b10_self hv2) (b10_self hv3)).2 q hq
                        rw [hor] at om
                        have om' : bt m q = (bt v2 q || bt v3 q) := om
                        show ((bt v2 q || decide (q = v5.toNat)) || (bt v3 q || decide (q = v6.toNat))) = (bt m q || decide (q = v5.toNat) || decide (q = v6.toNat))
                        rw [om']
                        cases bt v2 q <;> cases bt v3 q <;> cases decide (q = v5.toNat) <;> cases decide (q = v6.toNat) <;> rfl) ib.1 ob.1 (by
                        constructor
                        · intro e
                          have := ib.2 v5.toNat (by omega)
                          rw [e, bt_0] at this
                          have t2 : false = (bt v2 v5.toNat || decide (v5.toNat = v5.toNat)) := this
                          simp at t2
                        · intro e; omega) (fun q hq hfq => by
                        rw [ob.2 q hq, sq_t hmr (by omega) (by omega) hq]
                        show (bt v3 q || decide (q = v6.toNat)) = (bt m q || decide (q = v5.toNat) || decide (q = v6.toNat))
                        have ne : q ≠ v5.toNat := fun e => by rw [e, gs_fre (h := h) v5.toNat (by omega) cg] at hfq; cases hfq
                        rw [hv3m q hq hfq, decide_eq_false ne, Bool.or_false]) (by omega) (by rw [e10, st_eq]; omega)
                      refine pc_call hnew (fun r11 u12 q => ?_)
                      rcases q with ⟨q1, q2, q3, q4⟩ | ⟨x, q1, q2, q3⟩
                      · refine pc_ite (fun _ => pc_lw (fun u13 e13 => ?_)) (fun c => absurd q2 c)
                        rw [q4, w32_id (by omega)] at e13
                        have g13 : G [4352] u12 u13 := g_st (g_self q3.1) e13 rfl rfl (show (0 : Int) ≤ ((d + 1 : Nat) : Int) - 1 ∧ ((d + 1 : Nat) : Int) - 1 ≤ 10 by omega)
                        exact v6x ⟨g_self g13, fun c a1 a2 a3 => by rw [e13, st_row a1]; exact q3.2.1 c a1 a2 a3, fun k a1 a2 => by rw [e13, st_k a2]; exact q3.2.2 k a1 a2⟩ (by rw [e13, st_eq]; omega) (by rw [hgo]; exact q1)
                      · refine pc_ite (fun c => by omega) (fun _ => pc_some (Or.inr ⟨x, fdo_hit (n := v5.toNat) (fun i hi => hI i (by omega)) ?_ (by omega), rfl, q3⟩))
                        unfold fgi
                        rw [if_pos (by omega)]
                        exact fdo_hit (n := v6.toNat) (fun o ho => hO o (by omega)) (by rw [hgo]; exact q1) (by omega)
                    · cases e2 : cnd1 20 kn (gs P s) (fre P s h) (sty P s g) m v5.toNat v6.toNat with
                      | false => rfl
                      | true => exact absurd (fre_0 (cnd1_t.mp e2).2.1).2.1 c68
                  · rw [if_neg cb]
                    refine pc_ite (fun _ => v6x hW h52 (none' ?_)) (fun e => absurd rfl e)
                    cases e2 : cnd1 20 kn (gs P s) (fre P s h) (sty P s g) m v5.toNat v6.toNat with
                    | false => rfl
                    | true =>
                      obtain ⟨_, a2, a3, a4, _⟩ := cnd1_t.mp e2
                      have a5 := hv3m v6.toNat (by omega) a2
                      have a6 := (fre_0 a2).2.2
                      exact absurd (by rw [a3, a5, a4, hnv, a6]; rfl) cb
            exact l90 FU (by decide) hP.1 hW h52 (fun o ho => by omega)
          · rw [if_neg cg]
            refine pc_ite (fun _ => nx hW h52 (fun o _ => ?_)) (fun e => absurd rfl e)
            unfold fgo
            rw [if_neg (fun hc => cg (cnd1_t.mp hc).1)]
      exact l62 FU (Int.le_refl f) hfP ⟨gu, wr, wk⟩ h52 (fun i hi => by unfold fgi; rw [if_neg (by omega)])
    refine pc_call bp (fun r1 u2 q => ?_)
    obtain ⟨_, q⟩ := q
    by_cases cs : d = 0 ∨ ((pn (fun k => sty P s g k || bt m k) 10 : Nat) : Int) ≤ se
    · have hok : v2 = 0 ∨ ((pn (fun k => sty P s g k || bt m k) 10 : Nat) : Int) ≤ se := cs.imp hv20.mpr id
      have hM : MOV P se kn (gs P s) (fre P s h) (sty P s g) m := ⟨d, f, (drc_se hP).mpr ⟨hm, cs⟩⟩
      obtain ⟨t, ht, hft⟩ := hF m hM
      have u63 : u 63 = b 63 := wr 63 (by decide) (by decide) (by decide)
      have u67 : u 67 = b 67 := wr 67 (by decide) (by decide) (by decide)
      have hfu : Fnd u (cdf (nis P s g (bt m)) P.toNat) t := (fnd_w u63 u67).mpr hft
      have u40 : u 43 40 = b 43 40 := wk 40 (by decide) (by decide)
      rcases q with ⟨q1, _⟩ | ⟨_, _, _, _, q5⟩ | ⟨_, q2, q3⟩
      · exact absurd hok q1
      · exact absurd hfu (q5 t)
      · have found : u2 = u ∧ r1 = (t : Int) := by
          rcases q3.2.2 with ⟨a1, _⟩ | ⟨_, _, a3, a4⟩ | ⟨a1, _, _, a4⟩
          · omega
          · rw [a3] at a4
            exact ⟨a3, by have := fnd_one hfu a4; omega⟩
          · have := fnd_one (q3.1 _ _ hfu) a4
            omega
        rw [found.1, found.2]
        have hy := hyes m hM t hft
        have u74 : u 74 = b 74 := wr 74 (by decide) (by decide) (by decide)
        refine pc_ite (fun c => by omega) (fun _ => pc_gd (fun _ => ?_))
        rw [u74, show ((t : Nat) : Int).toNat = t by omega]
        refine pc_ite (fun c74 => loops ?_) (fun c74 => pc_lw (fun u14 e14 => pc_w (l31 _ FU) (fun r u' q' => Or.inr ⟨m, ?_, q'.1, ?_⟩)))
        · cases e : hit m with
          | false => rfl
          | true => exact absurd c74 (hy.mp e)
        · rw [hN', fdf_s, if_pos (hy.mpr c74)]
        · rw [q'.2, e14, st_k (by decide), h52, hpm]; omega
    · rcases q with ⟨_, q2, q3⟩ | ⟨q1, _⟩ | ⟨q1, _⟩
      · rw [q3]
        refine pc_ite (fun _ => loops (hno d f m hm (fun e => cs (Or.inl e)) (fun e => cs (Or.inr e)))) (fun c => by omega)
      · exact absurd (q1.imp hv20.mp id) cs
      · exact absurd (q1.imp hv20.mp id) cs
