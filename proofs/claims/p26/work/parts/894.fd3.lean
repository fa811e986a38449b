/-! A WEEK TOLD: both answer alike -/
def wcc (c k : Nat) : Bool := !(c == 1 || c == 12 || c == 13 || c == 14 || c == 58 || c == 60 || c == 61 || (c == 43 && (k == 13 || (Nat.ble 16 k && Nat.ble k 21))))
def wcr (c : Nat) : Bool := !(c == 1 || c == 12 || c == 13 || c == 14 || c == 58 || c == 60 || c == 61 || c == 43)
theorem wcc_t {c k : Nat} (h : wcc c k = true) : (c ≠ 1 ∧ c ≠ 12 ∧ c ≠ 13 ∧ c ≠ 14) ∧ c ≠ 58 ∧ c ≠ 60 ∧ c ≠ 61 ∧ ¬ (c = 43 ∧ (k = 13 ∨ (16 ≤ k ∧ k ≤ 21))) := by
  unfold wcc at h
  simp only [Bool.not_eq_true', Bool.or_eq_false_iff, Bool.and_eq_false_iff, beq_eq_false_iff_ne] at h
  obtain ⟨⟨⟨⟨⟨⟨⟨h1, h2⟩, h3⟩, h4⟩, h5⟩, h6⟩, h7⟩, h8⟩ := h
  refine ⟨⟨h1, h2, h3, h4⟩, h5, h6, h7, fun ⟨e, hk⟩ => ?_⟩
  rcases h8 with e2 | e2
  · exact e2 e
  · rcases hk with hk | hk
    · exact e2.1 hk
    · rcases e2.2 with e3 | e3
      · rw [Nat.ble_eq_true_of_le hk.1] at e3; cases e3
      · rw [Nat.ble_eq_true_of_le hk.2] at e3; cases e3
theorem wcr_t {c : Nat} (h : wcr c = true) (k : Nat) : wcc c k = true := by
  unfold wcr at h
  unfold wcc
  simp only [Bool.not_eq_true', Bool.or_eq_false_iff, beq_eq_false_iff_ne] at h
  obtain ⟨⟨⟨⟨⟨⟨⟨h1, h2⟩, h3⟩, h4⟩, h5⟩, h6⟩, h7⟩, h8⟩ := h
  simp only [Bool.not_eq_true', Bool.or_eq_false_iff, Bool.and_eq_false_iff, beq_eq_false_iff_ne]
  exact ⟨⟨⟨⟨⟨⟨⟨h1, h2⟩, h3⟩, h4⟩, h5⟩, h6⟩, h7⟩, Or.inl h8⟩
theorem er_week0 {a w a' u : Wd} (h : ER a w) (hE : ∀ c, c ≠ 1 → c ≠ 12 → c ≠ 13 → c ≠ 14 → u c = w c) (h1 : u 1 1 = 0) (hR : ∀ c k, c ≠ 58 → c ≠ 60 → c ≠ 61 → ¬ (c = 43 ∧ (k = 13 ∨ (16 ≤ k ∧ k ≤ 21))) → a' c k = a c k) (h13 : a' 43 13 = 0) : ER a' u := by
  have hc : ∀ c k, wcc c k = true → mx u a' c k = mx w a c k := fun c k hk => by
    have := wcc_t hk
    unfold mx
    by_cases z : c < 43
    · rw [if_pos z, if_pos z, hE c this.1.1 this.1.2.1 this.1.2.2.1 this.1.2.2.2]
    · rw [if_neg z, if_neg z, hR c k this.2.1 this.2.2.1 this.2.2.2.1 this.2.2.2.2]
  have hr : ∀ c, wcr c = true → mx u a' c = mx w a c := fun c hk => funext fun k => hc c k (wcr_t hk k)
  have hco : CO (mx u a') := ct_fr h.1.1 (fr_of wcc hc wcr hr (by decide) (by decide)) (tx_0 h1 h13)
  exact ⟨fc_fr2 h.1 hco (fr_of wcc hc wcr hr (by decide) (by decide)), ru_fr h.2.1 (fr_of wcc hc wcr hr (by decide) (by decide)), cb_fr h.2.2 (fr_of wcc hc wcr hr (by decide) (by decide))⟩
/-- where the reference's reading begins -/
def YP (N : Int) (b y : Wd) : Prop := RW N (b 51) y ∧ y 43 20 = 0 ∧ y 43 21 = -1 ∧ y 43 13 = 0 ∧ ∀ c k, ¬ (c = 43 ∧ (k = 13 ∨ (16 ≤ k ∧ k ≤ 21))) → y c k = b c k
theorem wkR {b : Wd} {Q : Int → Wd → Prop} (hQ : ∀ y, YP (b 43 13) b y → PC (if (y 43 18) ≤ 0 then f_R_week_38 0 0 y else f_R_week_38 0 1 y) Q) : PC (f_R_week b) Q := by
  unfold f_R_week
  refine pc_lw (fun y1 e1 => ?_)
  have y13 : y1 43 13 = b 43 13 := by rw [e1, st_k (by decide)]
  rw [y13]
  unfold f_R_begin1_43_51
  have hbg : PC (jlw (st y1 43 17 52) fun u1 => jlw (st u1 43 18 (b 43 13)) fun u2 => jlw (st u2 43 19 40) fun u3 => jlw (st u3 43 20 0) fun u4 => jlw (st u4 43 21 (-1)) fun u5 => some ((0 : Int), u5)) (fun _ u => u 43 17 = 52 ∧ u 43 18 = b 43 13 ∧ u 43 19 = 40 ∧ u 43 20 = 0 ∧ u 43 21 = -1 ∧ ∀ c k, ¬ (c = 43 ∧ 16 ≤ k ∧ k ≤ 21) → u c k = b c k) := by
    refine pc_lw (fun x1 z1 => ?_)
    refine pc_lw (fun x3 z3 => ?_)
    refine pc_lw (fun x4 z4 => ?_)
    refine pc_lw (fun x5 z5 => ?_)
    refine pc_lw (fun x6 z6 => pc_some ⟨?_, ?_, ?_, ?_, ?_, fun c k hc => ?_⟩)
    · rw [z6, st_k (by decide), z5, st_k (by decide), z4, st_k (by decide), z3, st_k (by decide), z1, st_eq]
    · rw [z6, st_k (by decide), z5, st_k (by decide), z4, st_k (by decide), z3, st_eq]
    · rw [z6, st_k (by decide), z5, st_k (by decide), z4, st_eq]
    · rw [z6, st_k (by decide), z5, st_eq]
    · rw [z6, st_eq]
    · rw [z6]; unfold st; rw [if_neg (by omega), z5]; unfold st; rw [if_neg (by omega), z4]; unfold st; rw [if_neg (by omega), z3]; unfold st; rw [if_neg (by omega), z1]; unfold st; rw [if_neg (by omega), e1]; unfold st; rw [if_neg (by omega)]
  refine pc_call hbg (fun r3 u2 q => ?_)
  obtain ⟨q17, q18, q19, q20, q21, qo⟩ := q
  refine pc_lw (fun y ey => ?_)
  refine hQ y ⟨⟨?_, ?_, ?_, ?_⟩, ?_, ?_, ?_, fun c k hc => ?_⟩
  · rw [ey, st_k (by decide)]; exact q17
  · rw [ey, st_k (by decide)]; exact q18
  · rw [ey, st_k (by decide)]; exact q19
  · rw [ey, st_row (by decide)]; exact funext fun k => qo 51 k (by omega)
  · rw [ey, st_k (by decide)]; exact q20
  · rw [ey, st_k (by decide)]; exact q21
  · rw [ey, st_eq]
  · rw [ey]; unfold st; rw [if_neg (by omega)]; exact qo c k (by omega)
theorem rd_2 {N : Int} {w b : Wd} (hN : 0 ≤ N) (h1 : w 1 1 = N) (h13 : b 43 13 = N) (hSH : SH (sL N (w 2)) (hx N (b 51)) N) (hf0 : ∀ k : Nat, (k : Int) < N → 0 ≤ w 2 k) : PC (f_P_read w) (fun r u => ∀ y, YP N b y → ∀ Q : Int → Wd → Prop, (∀ i' a', WR w y N r u i' a' → PC (f_R_week_100 i' a') Q) → PC (if (y 43 18) ≤ 0 then f_R_week_38 0 0 y else f_R_week_38 0 1 y) Q) := by
  unfold f_P_read f_P_clear
  refine pc_call (P := fun _ u => u 12 2 = 0 ∧ u 12 3 = 0 ∧ ∀ d, d ≠ 12 → u d = w d) ?_ (fun r1 x q => ?_)
  · refine pc_lw (fun u1 e1 => ?_)
    refine pc_lw (fun u2 e2 => pc_some ⟨?_, ?_, fun d hd => ?_⟩)
    · rw [e2, st_k (by decide), e1, st_eq]
    · rw [e2, st_eq]
    · rw [e2, st_row hd, e1, st_row hd]
  obtain ⟨x2, x3, xo⟩ := q
  have hxx : EXr w x := fun d d1 _ _ => xo d d1
  have arr0 : ∀ y, ARR 0 x y := fun y => ⟨x2, by rw [x3]; exact b10_0, fun j hj => by omega⟩
  rw [xo 1 (by decide), h1]
  refine pc_ite (fun z => pc_some (fun y hy Q hQ => ?_)) (fun z => ?_)
  · have e18 : y 43 18 = N := hy.1.2.1
    refine pc_ite (fun _ => ?_) (fun c => absurd (by omega) c)
    have hh := hQ 0 y ⟨hxx, fun _ _ _ _ _ => rfl, Or.inl ⟨rfl, hy.2.2.1, by rw [hy.2.1]; omega, 0, rfl, by decide, arr0 y⟩⟩
    unfold f_R_week_38
    have any : ∀ m : Nat, PC (f_R_week_39 m 0 0 y) Q := fun m => by
      cases m with
      | zero => exact pc_none
      | succ m => rw [f_R_week_39, if_pos rfl]; exact hh
    exact any FU
  · intro r u eL y hy Q hQ
    have e18 : y 43 18 = N := hy.1.2.1
    refine pc_ite (fun c => absurd c (by omega)) (fun _ => ?_)
    have := wk_read (N := N) (f0 := w 2) (f1 := b 51) x y hN hSH hf0 (by rw [xo 1 (by decide)]; exact h1) (xo 2 (by decide)) hy.1 FU FU (i := 0) (w := x) (a := y) (by decide) (fun _ _ _ _ => rfl) (fun _ _ _ _ _ => rfl) hy.2.1 hy.2.2.1 (arr0 y) r u eL Q
    unfold f_R_week_38
    refine this (fun i' a' hW => hQ i' a' ⟨fun d d1 d2 d3 => (hW.1 d d1 d2 d3).trans (hxx d d1 d2 d3), hW.2⟩)
theorem k_week {w : Wd} (h : LU w) : OK (f_E_week w) (fun r1 u1 => OK (f_R_week u1) (fun r2 u2 => LU u2 ∧ r1 = r2)) := by
  obtain ⟨r1, u1, eE, g1, s1, _⟩ := e_E_week h.1.1
  refine ⟨r1, u1, eE, ?_⟩
  obtain ⟨r2, u2, eR, g2, s2, _, _⟩ := e_R_week s1
  refine ⟨r2, u2, eR, ?_⟩
  have h1 := lu_er h (g_hi g1 (by decide))
  have a11 : (0 : Int) ≤ w 1 1 ∧ w 1 1 ≤ 80 := h.1.1.1.1 1 1
  have a2 : ∀ k, (0 : Int) ≤ w 2 k ∧ w 2 k ≤ 65535 := fun k => h.1.1.1.1 2 k
  have hTX : TX (mx w u1) := h1.1.1.1
  have tN : w 1 1 = u1 43 13 := hTX.1
  have tK : ∀ k : Nat, (k : Int) < u1 43 13 → w 2 k ≤ 255 ∧ u1 51 k = (if w 2 k ≤ 127 then w 2 k else w 2 k - 256) := hTX.2
  have hSH : SH (sL (u1 43 13) (w 2)) (hx (u1 43 13) (u1 51)) (u1 43 13) := sh_tx (fun k hk => ⟨(a2 k).1, (tK k hk).1⟩) (fun k hk => (tK k hk).2)
  have key : PC (f_E_week w) (fun r u => PC (f_R_week u1) (fun r' a' => r = r' ∧ ER a' u)) := by
    unfold f_E_week
    refine pc_call (rd_2 (w := w) (b := u1) (by omega) tN rfl hSH (fun k _ => (a2 k).1)) (fun q1 q2 hRd => ?_)
    unfold f_T_clear
    refine pc_call (P := fun _ u => u = st q2 1 1 0) (pc_lw (fun u1 e1 => pc_some e1)) (fun q3 q4 e4 => ?_)
    -- what stays, in whichever way it goes
    have stay : ∀ {y a'' : Wd}, YP (u1 43 13) u1 y → EXr w q2 → (∀ c k, c ≠ 58 → c ≠ 60 → c ≠ 61 → ¬ (c = 43 ∧ (k = 20 ∨ k = 21)) → a'' c k = y c k) → ER a'' q4 := fun hy hx1 hx2 => by
      refine er_week0 h1 (fun c c1 c2 c3 c4 => by rw [e4, st_row c1]; exact hx1 c c2 c3 c4) (by rw [e4, st_eq]) (fun c k c1 c2 c3 hc => ?_) ?_
      · rw [hx2 c k c1 c2 c3 (by omega)]
        exact hy.2.2.2.2 c k hc
      · rw [hx2 43 13 (by decide) (by decide) (by decide) (by decide)]
        exact hy.2.2.2.1
    by_cases hneg : 0 ≤ q1
    · rw [if_pos hneg]
      have x15 : ∀ {y a'' : Wd}, ER a'' q4 → q4 15 3 = a'' 43 8 := fun hh => hh.1.2.2.2.2.1.2.1
      by_cases h60 : q4 15 3 < 60
      · rw [if_pos h60]
        refine pc_call (pc_eq (f_P_firstWrongPair q4)) (fun r5 u6 eW => ?_)
        intro r u eL
        refine wkR (fun y hy => hRd y hy _ (fun i' a' hWR => ?_))
        obtain ⟨hx1, hx2, hcase⟩ := hWR
        rcases hcase with ⟨_, e21, e20, I, eI, hI, hARR⟩ | ⟨hlt, _⟩
        · have h18 : a' 43 18 = u1 43 13 := by
            rw [hx2 43 18 (by decide) (by decide) (by decide)]; exact hy.1.2.1
          have er1 : ER a' q4 := stay hy hx1 (fun c k _ c2 c3 c4 => hx2 c k c2 c3 c4)
          have e8 : q4 15 3 = a' 43 8 := er1.1.2.2.2.2.1.2.1
          rw [eI]
          unfold f_R_week_100
          rw [if_pos (by omega)]
          unfold f_R_week_119
          rw [fine_e, if_pos e21, jc_s, if_neg (by decide), if_neg (show ¬ a' 43 8 = 60 by omega)]
          unfold f_R_nobody
          refine pc_call (nob_pc a' FU (v1 := 0) (by decide) (by decide) (fun _ _ _ => rfl) (fun k hk => by omega)) (fun r7 y2 hn => ?_)
          have er2 : ER y2 q4 := stay hy hx1 (fun c k c1 c2 c3 c4 => (hn.1 c k c1).trans (hx2 c k c2 c3 c4))
          obtain ⟨hF, hU, hC⟩ := er2
          obtain ⟨fCO, fPP, fHB, fWH, fN, f16, fSN, fUB, fK1, fK2, fg, fs⟩ := hF
          have x0 : 0 ≤ y2 43 0 ∧ y2 43 0 ≤ 10 := hC.1
          have x3 : q4 5 3 = y2 43 0 := fCO.2.1
          have x7g : q4 5 7 = y2 43 10 := fCO.2.2.1.1
          have x8 : q4 5 8 = y2 43 11 := fCO.2.2.1.2
          have xg : 1 ≤ y2 43 10 ∧ y2 43 10 ≤ 3 := fg
          have xW : WH (q4 5 4) (y2 47) (y2 43 0) := fWH
          have xH : B10 (q4 5 5) (hB (y2 43 0) (y2 46)) := fHB
          have xp : ∀ j : Nat, (j : Int) < y2 43 0 → q4 6 j = y2 44 j ∧ q4 7 j = y2 45 j ∧ q4 8 j = y2 48 j := fPP
          have xk : ∀ j : Nat, (j : Int) < y2 43 0 → 0 ≤ y2 45 j ∧ y2 45 j ≤ 1023 := hC.2.2.2.1
          have r60 : y2 60 = a' 60 := funext fun k => hn.1 60 k (by decide)
          have r61 : y2 61 = a' 61 := funext fun k => hn.1 61 k (by decide)
          have hg0 : GWK (y2 43 0) (y2 47) (y2 46) (y2 45) (y2 58) := gwk_0 (fun i hi => hn.2 i (by omega))
          obtain ⟨A1, A2, A3⟩ := hARR
          have q12 : q4 12 = q2 12 := by rw [e4, st_row (by decide)]
          have q13 : q4 13 = q2 13 := by rw [e4, st_row (by decide)]
          have q14 : q4 14 = q2 14 := by rw [e4, st_row (by decide)]
          have chk := wk_chk (w := q4) (y := y2) (I := I) hI x0 rfl rfl rfl rfl xW x3 xH (fun j hj => (xp j hj).2.1) xk (by rw [q12]; exact A1) (fun j hj => by rw [q13, q14, r60, r61]; exact A3 j hj) FU FU (i := 0) (v2 := 0) (a := y2) (by omega) (fun _ _ => rfl) hg0 b10_0 (fun k hk => by
            have e1 : brn (y2 58) (y2 43 0).toNat k = false := brn_f (fun i hi e => by
              rw [hn.2 i (by omega)] at e
              omega)
            unfold mvs bng
            rw [e1]
            by_cases ck : (k : Int) < y2 43 0
            · rw [hn.2 k (by omega)]
              cases inP (y2 43 0) k <;> rfl
            · rw [show inP (y2 43 0) k = false from decide_eq_false ck]; rfl) ⟨fun j hj => by omega, fun a ha hv => absurd (hn.2 a (by omega)) hv, fun j l hj => by omega⟩ r5 u6 eW
          obtain ⟨eu6, hr5, hC2⟩ := chk
          subst eu6
          have erOf : ∀ a3, FR58 y2 a3 → ER a3 u6 := fun a3 hf => er_choose ⟨⟨fCO, fPP, fHB, fWH, fN, f16, fSN, fUB, fK1, fK2, fg, fs⟩, hU, hC⟩ (fun _ _ _ _ _ => rfl) (fun c k c1 _ => by rw [hf c c1])
          refine hC2 _ (fun em a3 hf hg3 hmv hpre => ?_) (fun e0 a3 hf => ?_)
          · have er3 := erOf a3 hf
            have z0 : a3 43 0 = y2 43 0 := by rw [hf 43 (by decide)]
            have z43 : a3 43 = y2 43 := hf 43 (by decide)
            rw [r60, r61] at hmv hpre
            have hPL : PLm (a3 43 0) (a3 58) I u6 := by
              rw [z0]
              refine ⟨by rw [q12]; exact A1, by rw [q12]; exact b10_w A2 hmv, fun i hi => ?_, fun a ha hv => ?_, fun i j hi hj e => ?_⟩
              · rw [q13, q14, (A3 i hi).1.1, (A3 i hi).1.2]; exact hpre.1 i hi
              · obtain ⟨j, hj, e⟩ := hpre.2.1 a ha hv
                exact ⟨j, hj, by rw [q13, (A3 j hj).1.1]; exact e⟩
              · rw [q13, (A3 i hi).1.1, (A3 j hj).1.1] at e
                exact hpre.2.2 i j hi hj e
            have hGW : GWK (a3 43 0) (a3 47) (a3 46) (a3 45) (a3 58) := by
              rw [z0, hf 47 (by decide), hf 46 (by decide), hf 45 (by decide)]; exact hg3
            have hPN : PLN a3 u6 := ⟨I, hI, hPL, hGW⟩
            have h59 : a3 43 8 ≤ 59 := by
              have : u6 15 3 = a3 43 8 := er3.1.2.2.2.2.1.2.1
              omega
            rw [if_pos (show r5 < 0 by omega), hPL.1] at eL
            have fin : ∀ {r u : _}, f_E_week_100 u6 = some (r, u) → PC (f_R_week_305 a3) (fun r' a' => r = r' ∧ ER a' u) := fun {r u} e => by
              unfold f_R_week_305
              have e2 : f_E_pass u6 = some (r, u) := by
                unfold f_E_week_100 at e
                cases c : f_E_pass u6 with
                | none => rw [c] at e; cases e
                | some o => rw [c] at e; exact e
              refine pc_call (pc_eq (f_R_goWeek a3)) (fun r9 u10 e3 => pc_some ?_)
              have := er_pass er3 hPN h59 _ _ _ _ e2 e3
              exact ⟨this.1, this.2.1⟩
            by_cases cI : (I : Int) ≤ 0
            · rw [if_pos cI] at eL
              rw [if_pos cI]
              exact fin eL
            · rw [if_neg cI] at eL
              rw [if_neg cI]
              have hga := ega_e (w := u6) (P := y2 43 0) (s := y2 47) (mv := mvs (y2 43 0) (a3 58)) xW (by rw [x7g]; exact xg.2) (by rw [← z0]; exact hPL.2.1)
              have hgp := gth_pn (g := y2 43 10) x0 hg3
              have hgt := gthen_pc (w := a3) (by rw [z0]; exact x0) (fun i hi => by rw [hf 47 (by decide)]; exact xW.2.2 i (by rw [z0] at hi; exact hi))
              refine pc_call hgt (fun r11 u12 y3 => ?_)
              rw [y3.1, y3.2, z43, hf 47 (by decide), ← hgp]
              have main : PC (jcall (f_F_guestsAfter (u6 12 3) u6) fun r9 u10 => if r9 ≤ (u10 5 8) then f_E_week_100 u10 else some ((-200), u10)) (fun r u => PC (if ((pn (fun k => sty (y2 43 0) (y2 47) (y2 43 10) k || mvs (y2 43 0) (a3 58) k) 10 : Nat) : Int) ≤ y2 43 11 then f_R_week_305 a3 else some ((-200), a3)) (fun r' a' => r = r' ∧ ER a' u)) := by
                refine pc_call hga (fun r9 u10 y4 => ?_)
                rw [y4.1, y4.2, x7g, x8]
                by_cases cc : ((pn (fun k => sty (y2 43 0) (y2 47) (y2 43 10) k || mvs (y2 43 0) (a3 58) k) 10 : Nat) : Int) ≤ y2 43 11
                · rw [if_pos cc, if_pos cc]
                  intro r u e
                  exact fin e
                · rw [if_neg cc, if_neg cc]
                  exact pc_some (pc_some ⟨rfl, er3⟩)
              exact main r u eL
          · rw [if_neg (show ¬ r5 < 0 by omega)] at eL
            cases eL
            exact ⟨rfl, erOf a3 hf⟩
        · omega
      · rw [if_neg h60]
        refine pc_some (wkR (fun y hy => hRd y hy _ (fun i' a' hWR => ?_)))
        obtain ⟨hx1, hx2, hcase⟩ := hWR
        rcases hcase with ⟨_, e21, e20, I, eI, hI, hARR⟩ | ⟨hlt, _⟩
        · have h18 : a' 43 18 = u1 43 13 := by
            rw [hx2 43 18 (by decide) (by decide) (by decide)]; exact hy.1.2.1
          have er1 : ER a' q4 := stay hy hx1 (fun c k _ c2 c3 c4 => hx2 c k c2 c3 c4)
          have e8 : q4 15 3 = a' 43 8 := er1.1.2.2.2.2.1.2.1
          have e8r : 0 ≤ a' 43 8 ∧ a' 43 8 ≤ 60 := er1.2.2.2.2.2.2.1
          unfold f_R_week_100
          rw [if_pos (by omega)]
          unfold f_R_week_119
          rw [fine_e, if_pos e21, jc_s, if_neg (by decide), if_pos (show a' 43 8 = 60 by omega)]
          exact pc_some ⟨rfl, er1⟩
        · omega
    · rw [if_neg hneg]
      refine pc_some (wkR (fun y hy => hRd y hy _ (fun i' a' hWR => ?_)))
      obtain ⟨hx1, hx2, hcase⟩ := hWR
      rcases hcase with ⟨e0, _⟩ | ⟨hlt, hb1, hb2, hc⟩
      · omega
      · have h18 : a' 43 18 = u1 43 13 := by
          rw [hx2 43 18 (by decide) (by decide) (by decide)]; exact hy.1.2.1
        have er1 : ER a' q4 := stay hy hx1 (fun c k _ c2 c3 c4 => hx2 c k c2 c3 c4)
        have fin : ∀ a3 : Wd, a3 43 21 = -1 - q1 → ER a3 q4 → PC (f_R_week_119 i' a3) (fun r' a' => q1 = r' ∧ ER a' q4) := fun a3 e21 her => by
          unfold f_R_week_119
          rw [fine_e, if_neg (by omega), jc_s, if_pos rfl, e21]
          exact pc_some ⟨by rw [w32_id (by omega)]; omega, her⟩
        unfold f_R_week_100
        refine pc_ite (fun c => ?_) (fun c => ?_)
        · rcases hc with e | ⟨e1, e2, e3⟩
          · exact fin a' e er1
          · omega
        · refine pc_call (fl_pc a' _) (fun r33 u34 e34 => ?_)
          rcases hc with e | ⟨e1, e2, e3⟩
          · rw [if_neg (by omega)] at e34
            rw [e34]; exact fin a' e er1
          · rw [if_pos e1] at e34
            refine fin u34 (by rw [e34, st_eq]; exact e3) (stay hy hx1 (fun c k _ c2 c3 c4 => ?_))
            rw [e34]; unfold st; rw [if_neg (by omega)]
            exact hx2 c k c2 c3 c4
  obtain ⟨er, hf⟩ := key r1 u1 eE r2 u2 eR
  exact ⟨er_lu hf (g_lo g2 (by decide)) s2, er⟩
