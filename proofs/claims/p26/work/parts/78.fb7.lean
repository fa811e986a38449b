/-! RULE: both answer alike, and what is to be done is the same -/
theorem nb_id {z : Int} (h : -128 ≤ z ∧ z ≤ 127) : nb z = z := by
  rw [nb_e (by omega)]
  unfold Int.bmod
  simp only
  split <;> omega
theorem sh_tx {n : Int} {f f2 : Nat → Int} (hf : ∀ k : Nat, (k : Int) < n → 0 ≤ f k ∧ f k ≤ 255) (h2 : ∀ k : Nat, (k : Int) < n → f2 k = (if f k ≤ 127 then f k else f k - 256)) : SH (sL n f) (hx n f2) n := by
  intro p hp
  unfold sL hx
  rw [if_neg (show ¬ p < 0 by omega)]
  by_cases c1 : p < n
  · rw [if_pos c1, if_neg (show ¬ n ≤ p by omega)]
    by_cases c2 : p < 40
    · rw [if_pos c2, if_neg (show ¬ (40 : Int) ≤ p by omega), h2 p.toNat (by omega)]
      have b := hf p.toNat (by omega)
      by_cases c3 : f p.toNat ≤ 127
      · rw [if_pos c3]; exact ⟨Or.inr ⟨by omega, c1, c2⟩, fun c _ _ => Iff.rfl, by omega, fun _ => by omega⟩
      · rw [if_neg c3]; exact ⟨Or.inl (by omega), fun c h0 h1 => ⟨fun e => by omega, fun e => by omega⟩, by omega, fun _ => by omega⟩
    · rw [if_neg c2, if_pos (show (40 : Int) ≤ p by omega)]
      exact ⟨Or.inl (by decide), fun c h0 h1 => ⟨fun e => by omega, fun e => by omega⟩, by decide, fun _ => by decide⟩
  · rw [if_neg c1, if_pos (show n ≤ p by omega)]
    exact ⟨Or.inl (by decide), fun c h0 h1 => ⟨fun e => by omega, fun e => by omega⟩, by decide, fun _ => by decide⟩
theorem cp57 {n0 : Int} (hn : 0 ≤ n0 ∧ n0 ≤ 40) (x : Wd) (hb : ∀ k, -128 ≤ x 51 k ∧ x 51 k ≤ 127) : ∀ (m : Nat) {w : Wd} {v2 : Int}, 0 ≤ v2 → v2 ≤ n0 → (∀ c k, c ≠ 57 → w c k = x c k) → (∀ k : Nat, (k : Int) < v2 → w 57 k = x 51 k) → PC (f_R_rule_73 m n0 v2 w) (fun r u => r = 0 ∧ u 43 27 = n0 ∧ (∀ k : Nat, (k : Int) < n0 → u 57 k = x 51 k) ∧ ∀ c k, c ≠ 57 → ¬ (c = 43 ∧ k = 27) → u c k = x c k) := by
  intro m
  induction m with
  | zero => intros; exact pc_none
  | succ m ih =>
    intro w v2 i0 i1 hx hd
    rw [f_R_rule_73]
    refine pc_ite (fun c => ?_) (fun c => ?_)
    · refine pc_lw (fun u7 e7 => pc_some ⟨rfl, ?_, fun k hk => ?_, fun c k h57 h27 => ?_⟩)
      · rw [e7, st_eq]
      · rw [e7, st_c (by decide)]; exact hd k (by omega)
      · rw [e7]; unfold st; rw [if_neg h27]; exact hx c k h57
    · refine pc_gd (fun _ => ?_)
      refine pc_gd (fun _ => ?_)
      rw [hx 51 _ (by decide), nb_id (hb _)]
      refine pc_lw (fun u8 e8 => ?_)
      refine pc_let (fun x9 e9 => ?_)
      rw [wsucc (P := n0) (by omega) (by omega)] at e9
      refine ih (by omega) (by omega) (fun c k h57 => by rw [e8, st_c h57]; exact hx c k h57) (fun k hk => ?_)
      rw [e8]
      by_cases ck : k = v2.toNat
      · rw [ck, st_eq]
      · rw [st_k ck]; exact hd k (by omega)
def RRq (w : Wd) (r : Int) (u : Wd) : Prop := (w 43 13 = 0 ∧ r = 0 ∧ u 43 27 = 0) ∨ (0 < w 43 13 ∧ ∃ ok q c, pg (hx (w 43 13) (w 51)) 100 0 0 0 = some (ok, q, c) ∧ ((ok = true ∧ w 43 13 ≤ q) → r = 0 ∧ u 43 27 = w 43 13 ∧ w 43 13 ≤ 40 ∧ ∀ k : Nat, (k : Int) < w 43 13 → u 57 k = w 51 k) ∧ (¬ (ok = true ∧ w 43 13 ≤ q) → r = -1 - q ∧ u 43 27 = w 43 27 ∧ u 57 = w 57))
theorem rr_pc {w : Wd} (hn : 0 ≤ w 43 13 ∧ w 43 13 ≤ 80) (hb : ∀ k, -128 ≤ w 51 k ∧ w 51 k ≤ 127) : PC (f_R_rule w) (fun r u => RRq w r u) := by
  unfold f_R_rule
  refine pc_lw (fun u1 e1 => ?_)
  refine pc_let (fun x2 e2 => ?_)
  have y13 : x2 = w 43 13 := by rw [e2, e1, st_k (by decide)]
  unfold f_R_begin1_43_51
  have hbg : PC (jlw (st u1 43 17 52) fun u1 => jlw (st u1 43 18 x2) fun u2 => jlw (st u2 43 19 40) fun u3 => jlw (st u3 43 20 0) fun u4 => jlw (st u4 43 21 (-1)) fun u5 => some ((0 : Int), u5)) (fun _ u => u 43 17 = 52 ∧ u 43 18 = w 43 13 ∧ u 43 19 = 40 ∧ u 43 20 = 0 ∧ u 43 21 = -1 ∧ ∀ c k, ¬ (c = 43 ∧ (k = 16 ∨ k = 17 ∨ k = 18 ∨ k = 19 ∨ k = 20 ∨ k = 21)) → u c k = w c k) := by
    refine pc_lw (fun x1 z1 => ?_)
    refine pc_lw (fun x3 z3 => ?_)
    refine pc_lw (fun x4 z4 => ?_)
    refine pc_lw (fun x5 z5 => ?_)
    refine pc_lw (fun x6 z6 => pc_some ⟨?_, ?_, ?_, ?_, ?_, fun c k hc => ?_⟩)
    · rw [z6, st_k (by decide), z5, st_k (by decide), z4, st_k (by decide), z3, st_k (by decide), z1, st_eq]
    · rw [z6, st_k (by decide), z5, st_k (by decide), z4, st_k (by decide), z3, st_eq]; exact y13
    · rw [z6, st_k (by decide), z5, st_k (by decide), z4, st_eq]
    · rw [z6, st_k (by decide), z5, st_eq]
    · rw [z6, st_eq]
    · rw [z6]; unfold st; rw [if_neg (by omega), z5]; unfold st; rw [if_neg (by omega), z4]; unfold st; rw [if_neg (by omega), z3]; unfold st; rw [if_neg (by omega), z1]; unfold st; rw [if_neg (by omega), e1]; unfold st; rw [if_neg (by omega)]
  refine pc_call hbg (fun r3 u4 q => ?_)
  obtain ⟨q17, q18, q19, q20, q21, qo⟩ := q
  refine pc_lw (fun u5 e5 => ?_)
  refine pc_lw (fun u6 e6 => ?_)
  have f6 : ∀ c k, ¬ (c = 43 ∧ (k = 13 ∨ k = 28)) → u6 c k = u4 c k := fun c k hc => by
    rw [e6]; unfold st; rw [if_neg (by omega), e5]; unfold st; rw [if_neg (by omega)]
  have g6 : ∀ c k, ¬ (c = 43 ∧ (k = 13 ∨ k = 28 ∨ k = 16 ∨ k = 17 ∨ k = 18 ∨ k = 19 ∨ k = 20 ∨ k = 21)) → u6 c k = w c k := fun c k hc => by
    rw [f6 c k (by omega)]; exact qo c k (by omega)
  have b6 : ∀ k, -128 ≤ u6 51 k ∧ u6 51 k ≤ 127 := fun k => by rw [g6 51 k (by omega)]; exact hb k
  rw [y13]
  have row51 : u6 51 = w 51 := funext fun k => g6 51 k (by omega)
  refine pc_ite (fun c => ?_) (fun c => ?_)
  · unfold f_R_rule_71
    exact pc_w (cp57 (n0 := w 43 13) (by omega) u6 b6 FU (by decide) hn.1 (fun _ _ _ => rfl) (fun k hk => by omega)) (fun r u y => Or.inl ⟨by omega, y.1, by rw [y.2.1]; omega⟩)
  · have hX : RRX (w 43 13) (w 51) u6 := by
      refine ⟨?_, ?_, Or.inl ⟨?_, row51⟩⟩
      · rw [f6 43 18 (by decide)]; exact q18
      · rw [f6 43 19 (by decide)]; exact q19
      · rw [f6 43 17 (by decide)]; exact q17
    have hE : EL (fun _ => 0) u6 := Or.inl ⟨by rw [e6, st_eq], fun _ => rfl⟩
    have e7 : u6 = xw u6 0 (-1) := by
      have := xw_self u6
      rw [f6 43 20 (by decide), q20, f6 43 21 (by decide), q21] at this
      exact this.symm
    have hg := grp_pc hX hE 100 0 0 0 (by decide) (by decide) (by decide) (by decide)
    rw [← e7] at hg
    refine pc_call hg (fun r10 u11 y => ?_)
    cases ho : pg (hx (w 43 13) (w 51)) 100 0 0 0 with
    | none => rw [ho] at y; exact y.elim
    | some o =>
      obtain ⟨ok, q, cl⟩ := o
      rw [ho] at y
      -- the end: with place q and fault f
      have fin57 : ∀ f : Int, (¬ f = -1 → f = q) → (f = -1 ↔ (ok = true ∧ w 43 13 ≤ q)) → (ok = true → q ≤ 40) → 0 ≤ q → PC (f_R_rule_57 (w 43 13) (xw u6 q f)) (fun r u => RRq w r u) := by
        intro f h1 h2 h3 h0
        unfold f_R_rule_57
        rw [fine_e, jc_s, xw_f]
        by_cases cf : f = -1
        · rw [if_pos cf]
          refine pc_ite (fun e => absurd e (by decide)) (fun _ => ?_)
          have hq := h2.mp cf
          have h40 := h3 hq.1
          unfold f_R_rule_71
          refine pc_w (cp57 (n0 := w 43 13) (by omega) (xw u6 q f) (fun k => by rw [xw_o u6 q f (by omega)]; exact b6 k) FU (by decide) hn.1 (fun _ _ _ => rfl) (fun k hk => by omega)) (fun r u y => Or.inr ⟨by omega, ok, q, cl, ho, fun _ => ⟨y.1, y.2.1, by omega, fun k hk => ?_⟩, fun n => absurd hq n⟩)
          rw [y.2.2.1 k hk, xw_o u6 q f (by omega), row51]
        · rw [if_neg cf]
          refine pc_ite (fun _ => ?_) (fun e => absurd rfl e)
          have w1 := w32_sp (-1 - f)
          have eq := h1 cf
          refine pc_some (Or.inr ⟨by omega, ok, q, cl, ho, fun n => absurd (h2.mpr n) cf, fun _ => ⟨?_, ?_, ?_⟩⟩)
          · by_cases h80 : q ≤ 2147483000
            · omega
            · exfalso; exact h80 (by
                cases ok with
                | true => have := h3 rfl; omega
                | false => have := y.2; omega)
          · rw [xw_o u6 q f (by omega)]; exact g6 43 27 (by omega)
          · exact funext fun k => by rw [xw_o u6 q f (by omega)]; exact g6 57 k (by omega)
      cases ok with
      | false =>
        obtain ⟨y1, y2, y3⟩ := y
        rw [y1, xw_p]
        have nf : ¬ (q = -1) := by omega
        refine pc_ite (fun _ => fin57 q (fun _ => rfl) ⟨fun e => absurd e nf, fun h => by cases h.1⟩ (fun h => by cases h) y2) (fun _ => ?_)
        refine pc_call fx_pc (fun r14 u15 z => ?_)
        rw [z, if_neg nf]
        exact fin57 q (fun _ => rfl) ⟨fun e => absurd e nf, fun h => by cases h.1⟩ (fun h => by cases h) y2
      | true =>
        obtain ⟨y1, _, y3, y4⟩ := y
        rw [y1, xw_p]
        refine pc_ite (fun c2 => fin57 (-1) (fun h => absurd rfl h) ⟨fun _ => ⟨rfl, c2⟩, fun _ => rfl⟩ (fun _ => y4) (by omega)) (fun c2 => ?_)
        refine pc_call fx_pc (fun r14 u15 z => ?_)
        rw [z, if_pos rfl]
        exact fin57 q (fun _ => rfl) ⟨fun e => by omega, fun h => absurd h.2 c2⟩ (fun _ => y4) (by omega)
/-- what THE RULE is, by both -/
def RU (w : Wd) : Prop := (w 19 4 = 0 ∧ w 43 27 = 0) ∨ (0 < w 43 27 ∧ w 43 27 ≤ 40 ∧ ∃ c : List Int, pg (hx (w 43 27) (w 57)) 100 0 0 0 = some (true, w 43 27, c) ∧ w 19 4 = (c.length : Int) ∧ SR (w 20) c ∧ c.length ≤ 40)
theorem ru_fr {w u : Wd} (h : RU w) (f : FR [(19, 4), (43, 27)] [20, 57] w u) : RU u := by
  have q1 : u 19 4 = w 19 4 := f.1 (19, 4) (by decide)
  have q2 : u 43 27 = w 43 27 := f.1 (43, 27) (by decide)
  unfold RU
  rw [q1, q2, f.2 20 (by decide), f.2 57 (by decide)]
  exact h
theorem hx_ext {n : Int} (hn : 0 < n) {f g : Nat → Int} (h : ∀ k : Nat, (k : Int) < n → f k = g k) : hx n f = hx n g := by
  funext p
  unfold hx
  by_cases c : n ≤ p
  · rw [if_pos c, if_pos c]
  · rw [if_neg c, if_neg c, h p.toNat (by omega)]
theorem er_pc {w : Wd} (hN : 0 ≤ w 1 1 ∧ w 1 1 ≤ 80) (hf : ∀ k : Nat, (k : Int) < w 1 1 → 0 ≤ w 2 k ∧ w 2 k ≤ 255) : PC (f_E_rule w) (fun r u => (w 1 1 = 0 ∧ r = 0 ∧ u 19 4 = 0) ∨ (w 1 1 ≠ 0 ∧ ((cat (sL (w 1 1) (w 2)) (w 1 1) 0 [] [] 0 0 0 true).1 = true → r = 0 ∧ u 19 4 = ((cat (sL (w 1 1) (w 2)) (w 1 1) 0 [] [] 0 0 0 true).2.2.length : Int) ∧ SR (u 20) (cat (sL (w 1 1) (w 2)) (w 1 1) 0 [] [] 0 0 0 true).2.2) ∧ ((cat (sL (w 1 1) (w 2)) (w 1 1) 0 [] [] 0 0 0 true).1 = false → r = -1 - (cat (sL (w 1 1) (w 2)) (w 1 1) 0 [] [] 0 0 0 true).2.1 ∧ u 19 4 = w 19 4 ∧ u 20 = w 20))) := by
  unfold f_E_rule
  refine pc_call (rd_pc hN hf) (fun r1 u2 q => ?_)
  unfold f_T_clear
  refine pc_call (P := fun _ u => ∀ c, c ≠ 1 → u c = u2 c) (pc_lw (fun u1 e1 => pc_some (fun c hc => by rw [e1]; exact st_row hc))) (fun r3 u4 y => pc_some ?_)
  rcases q with ⟨c1, c2, c3⟩ | ⟨c1, c2, c3, c4⟩
  · refine Or.inl ⟨c1, c2, ?_⟩
    rw [y 19 (by decide), c3, st_eq]
  · refine Or.inr ⟨c1, ?_, ?_⟩
    · rw [y 19 (by decide), y 20 (by decide)]; exact c3
    · rw [y 19 (by decide), y 20 (by decide)]; exact c4
theorem k_rule {w : Wd} (h : LF w) (hu : RU w) : OK (f_E_rule w) (fun r1 u1 => OK (f_R_rule u1) (fun r2 u2 => (LF u2 ∧ RU u2) ∧ r1 = r2)) := by
  have a11 : (0 : Int) ≤ w 1 1 ∧ w 1 1 ≤ 80 := h.1.1.1 1 1
  have hTX := h.2.1.1
  have h2 : ∀ k, (0 : Int) ≤ w 2 k ∧ w 2 k ≤ 65535 := fun k => h.1.1.1 2 k
  have hf : ∀ k : Nat, (k : Int) < w 1 1 → 0 ≤ w 2 k ∧ w 2 k ≤ 255 := fun k hk => ⟨(h2 k).1, (hTX.2 k (by have := hTX.1; omega)).1⟩
  refine ok_w (ok_pc (c_rule0 (lf_li h)) (pc_and (pc_ok (e_E_rule h.1)) (er_pc a11 hf))) (fun r1 u1 q1 => ?_)
  obtain ⟨o1, ⟨g1, s1, _⟩, x1⟩ := q1
  have a13 : (0 : Int) ≤ u1 43 13 ∧ u1 43 13 ≤ 80 := s1.1.1 43 13
  refine ok_w (ok_pc o1 (pc_and (pc_ok (e_R_rule s1)) (rr_pc a13 (fun k => s1.1.1 51 k)))) (fun r2 u2 q2 => ?_)
  obtain ⟨hL, ⟨g2, s2, _⟩, x2⟩ := q2
  have f1 := fr_g (P := [(43, 13), (43, 27)]) (A := [51, 57]) g1 rfl
  have f2 := fr_g (P := [(19, 4)]) (A := [20]) g2 rfl
  have y13 : u1 43 13 = w 1 1 := (f1.1 (43, 13) (by decide)).trans hTX.1.symm
  have y27 : u1 43 27 = w 43 27 := f1.1 (43, 27) (by decide)
  have y51 := f1.2 51 (by decide)
  have y57 := f1.2 57 (by decide)
  have y194 : u2 19 4 = u1 19 4 := f2.1 (19, 4) (by decide)
  have y20 := f2.2 20 (by decide)
  have fc : FC u2 := fc_fr2 h.2 hL.2 (fr_tr (fr_g g1 rfl) (fr_g g2 rfl))
  unfold RRq at x2
  rw [y13, y51, y27, y57] at x2
  rcases x1 with ⟨n1, a1, b1⟩ | ⟨n1, b1, b2⟩
  · rcases x2 with ⟨n2, a2, c2⟩ | ⟨n2, _⟩
    · exact ⟨⟨⟨s2, fc⟩, Or.inl ⟨by rw [y194]; exact b1, c2⟩⟩, by omega⟩
    · omega
  · rcases x2 with ⟨n2, _⟩ | ⟨n2, ok, q, c, ho, c1, c2⟩
    · omega
    · have hsh := sh_tx (f2 := w 51) hf (fun k hk => (hTX.2 k (by have := hTX.1; omega)).2)
      rcases pg_top hsh (by omega) ho with ⟨t1, t2, t3, t4⟩ | ⟨t1, t2, t3, t4⟩
      · rw [t4] at b1
        obtain ⟨d1, d2, d3⟩ := b1 rfl
        obtain ⟨e1, e2, e3, e4⟩ := c1 ⟨t1, by omega⟩
        refine ⟨⟨⟨s2, fc⟩, Or.inr ⟨by omega, by omega, c, ?_, ?_, ?_, by omega⟩⟩, by omega⟩
        · rw [e2, hx_ext (by omega) e4, ho, t1, t2]
        · rw [y194]; exact d2
        · rw [y20]; exact d3
      · rw [t4] at b2
        obtain ⟨d1, d2, d3⟩ := b2 rfl
        obtain ⟨e1, e2, e3⟩ := c2 t1
        refine ⟨⟨⟨s2, fc⟩, ?_⟩, ?_⟩
        · unfold RU
          rw [y194, y20, e2, e3, d2, d3]
          exact hu
        · rw [d1, e1]
