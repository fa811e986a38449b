/-! THE CLASS READS THE RULE -/
def pre (f : Nat → Int) : Nat → List Int
  | 0 => []
  | n + 1 => f n :: pre f n
theorem pre_len (f : Nat → Int) : ∀ n, (pre f n).length = n := by
  intro n
  induction n with
  | zero => rfl
  | succ n ih => rw [pre, List.length_cons, ih]
theorem pre_eq {f g : Nat → Int} : ∀ {n : Nat}, (∀ i, i < n → f i = g i) → pre f n = pre g n := by
  intro n
  induction n with
  | zero => intro _; rfl
  | succ n ih => intro h; rw [pre, pre, h n (by omega), ih (fun i hi => h i (by omega))]
/-- the list stands in a row -/
def SR (f : Nat → Int) (D : List Int) : Prop := D = pre f D.length
theorem sr_c {f : Nat → Int} {x : Int} {D : List Int} (h : SR f (x :: D)) : f D.length = x ∧ SR f D := by
  unfold SR at h
  rw [List.length_cons, pre] at h
  exact ⟨((List.cons.inj h).1).symm, (List.cons.inj h).2⟩
theorem sr_push {w u : Wd} {c : Nat} {v : Int} {D : List Int} (h : SR (w c) D) (e : u = st w c D.length v) : SR (u c) (v :: D) := by
  unfold SR
  rw [List.length_cons, pre, e, st_eq]
  congr 1
  rw [show pre (st w c D.length v c) D.length = pre (w c) D.length from pre_eq (fun i hi => st_k (by omega))]
  exact h
def WS0 (w : Wd) (D W : List Int) (d K : Int) (wt : Bool) : Prop := (w 19 5 = D.length ∧ SR (w 21) D) ∧ (w 19 6 = W.length ∧ SR (w 22) W) ∧ (w 19 7 = d ∧ w 19 9 = K ∧ w 19 10 = (if wt = true then 1 else 0)) ∧ (∀ x ∈ W, 0 ≤ x ∧ x ≤ 256) ∧ 0 ≤ d ∧ d ≤ 4
def NB (D : List Int) (g : Int) : Prop := (g = 1 → ∃ x D', D = x :: D' ∧ 0 ≤ x ∧ x ≤ 9) ∧ (g = 2 → ∃ x D', D = x :: D' ∧ 0 ≤ x ∧ x ≤ 99) ∧ 0 ≤ g ∧ g ≤ 3
theorem nb_0 (D : List Int) : NB D 0 := ⟨(fun e => by omega), (fun e => by omega), by decide, by decide⟩
def WS (w : Wd) (D W : List Int) (d g K : Int) (wt : Bool) : Prop := WS0 w D W d K wt ∧ w 19 8 = g ∧ NB D g
/-- cells of the reader alone are others -/
def WX (x w : Wd) : Prop := (∀ c k, c ≠ 19 → c ≠ 21 → c ≠ 22 → w c k = x c k) ∧ ∀ k, k ≤ 4 → w 19 k = x 19 k
theorem wx_st {x w u : Wd} {c k : Nat} {z : Int} (h : WX x w) (e : u = st w c k z) (hc : c = 21 ∨ c = 22 ∨ (c = 19 ∧ 5 ≤ k)) : WX x u := by
  refine ⟨fun c' k' h1 h2 h3 => ?_, fun k' hk => ?_⟩
  · rw [e, st_c (by omega)]; exact h.1 c' k' h1 h2 h3
  · rw [e]; unfold st; rw [if_neg (by omega)]; exact h.2 k' hk
theorem wx_tr {x w u : Wd} (h : WX x w) (h2 : WX w u) : WX x u := ⟨fun c k h1 h3 h4 => (h2.1 c k h1 h3 h4).trans (h.1 c k h1 h3 h4), fun k hk => (h2.2 k hk).trans (h.2 k hk)⟩
theorem wx_r (w : Wd) : WX w w := ⟨fun _ _ _ _ _ => rfl, fun _ _ => rfl⟩
theorem stg_e (c : Int) (w : Wd) : f_W_strength c w = some (stg c, w) := by
  unfold f_W_strength stg
  by_cases h1 : c = 42
  · rw [if_pos h1, if_pos h1]
  · rw [if_neg h1, if_neg h1]
    by_cases h2 : c = 43
    · rw [if_pos h2, if_pos h2]
    · rw [if_neg h2, if_neg h2]
      by_cases h3 : c = 45
      · rw [if_pos h3, if_pos h3]
      · rw [if_neg h3, if_neg h3]
        by_cases h4 : c = 47
        · rw [if_pos h4, if_pos h4]
        · rw [if_neg h4, if_neg h4]
          by_cases h5 : c = 60
          · rw [if_pos h5, if_pos h5]
          · rw [if_neg h5, if_neg h5]
            by_cases h6 : c = 61
            · rw [if_pos h6, if_pos h6]
            · rw [if_neg h6, if_neg h6]
              by_cases h7 : c = 62
              · rw [if_pos h7, if_pos h7]
              · rw [if_neg h7, if_neg h7]
                by_cases h8 : c = 256
                · rw [if_pos h8, if_pos h8]
                · rw [if_neg h8, if_neg h8]
theorem ltr_pc (c : Int) (w : Wd) : PC (f_W_isLetter c w) (fun r u => u = w ∧ r = if c = 105 ∨ c = 112 ∨ c = 107 ∨ c = 115 ∨ c = 103 ∨ c = 108 ∨ c = 110 ∨ c = 119 then 1 else 0) := by
  unfold f_W_isLetter
  have y : ∀ {c : Int}, (c = 105 ∨ c = 112 ∨ c = 107 ∨ c = 115 ∨ c = 103 ∨ c = 108 ∨ c = 110 ∨ c = 119) → PC (some ((1 : Int), w)) (fun r u => u = w ∧ r = if c = 105 ∨ c = 112 ∨ c = 107 ∨ c = 115 ∨ c = 103 ∨ c = 108 ∨ c = 110 ∨ c = 119 then 1 else 0) := fun h => pc_some ⟨rfl, by rw [if_pos h]⟩
  have z : ∀ {c : Int}, ¬ (c = 105 ∨ c = 112 ∨ c = 107 ∨ c = 115 ∨ c = 103 ∨ c = 108 ∨ c = 110 ∨ c = 119) → PC (some ((0 : Int), w)) (fun r u => u = w ∧ r = if c = 105 ∨ c = 112 ∨ c = 107 ∨ c = 115 ∨ c = 103 ∨ c = 108 ∨ c = 110 ∨ c = 119 then 1 else 0) := fun h => pc_some ⟨rfl, by rw [if_neg h]⟩
  refine pc_ite (fun h => z (by omega)) (fun _ => ?_)
  refine pc_ite (fun h => y (by omega)) (fun _ => ?_)
  refine pc_ite (fun h => z (by omega)) (fun _ => ?_)
  refine pc_ite (fun h => y (by omega)) (fun _ => ?_)
  refine pc_ite (fun h => z (by omega)) (fun _ => ?_)
  refine pc_ite (fun h => y (by omega)) (fun _ => ?_)
  refine pc_ite (fun h => y (by omega)) (fun _ => ?_)
  refine pc_ite (fun h => z (by omega)) (fun _ => ?_)
  refine pc_ite (fun h => y (by omega)) (fun _ => ?_)
  refine pc_ite (fun h => z (by omega)) (fun _ => ?_)
  refine pc_ite (fun h => y (by omega)) (fun _ => ?_)
  refine pc_ite (fun h => z (by omega)) (fun _ => ?_)
  refine pc_ite (fun h => z (by omega)) (fun _ => ?_)
  refine pc_ite (fun h => y (by omega)) (fun _ => ?_)
  refine pc_ite (fun h => z (by omega)) (fun _ => ?_)
  refine pc_ite (fun h => z (by omega)) (fun _ => ?_)
  refine pc_ite (fun h => z (by omega)) (fun _ => ?_)
  exact pc_ite (fun h => y (by omega)) (fun _ => pc_none)
theorem wr_pc {w : Wd} {D W : List Int} {d K v : Int} {wt : Bool} (h : WS0 w D W d K wt) (hl : D.length < 40) : PC (f_W_write v w) (fun _ u => (u 19 5 = ((v :: D).length : Int) ∧ SR (u 21) (v :: D)) ∧ WX w u ∧ ∀ c k, c ≠ 21 → ¬ (c = 19 ∧ k = 5) → u c k = w c k) := by
  unfold f_W_write
  obtain ⟨⟨h1, h2⟩, _⟩ := h
  have w1 := w32_sp ((D.length : Int) + 1)
  refine pc_ite (fun c => by exfalso; omega) (fun c => ?_)
  refine pc_gd (fun _ => ?_)
  rw [h1]
  have el : ((D.length : Int)).toNat = D.length := by omega
  rw [el]
  refine pc_lw (fun u1 e1 => ?_)
  have y5 : u1 19 5 = D.length := by rw [e1, st_c (by decide)]; exact h1
  rw [y5]
  refine pc_lw (fun u2 e2 => pc_some ⟨⟨?_, ?_⟩, wx_st (wx_st (wx_r w) e1 (Or.inl rfl)) e2 (by omega), fun c k hc hk => ?_⟩)
  · rw [e2, st_eq, w32_id (by omega)]; rfl
  · rw [e2, st_row (by decide)]; exact sr_push h2 e1
  · rw [e2]; unfold st; rw [if_neg hk, e1]; unfold st; rw [if_neg (fun e => hc e.1)]
theorem aw_pc {w : Wd} {D W : List Int} {d g K v : Int} {wt : Bool} (h : WS w D W d g K wt) (hl : W.length < 40) (hv : 0 ≤ v ∧ v ≤ 256) : PC (f_W_await v w) (fun _ u => WS u D (v :: W) d g K wt ∧ WX w u) := by
  unfold f_W_await
  obtain ⟨⟨⟨h1, h2⟩, ⟨h3, h4⟩, ⟨h5, h7, h8⟩, h9, h10⟩, h6, hnb⟩ := h
  have w1 := w32_sp ((W.length : Int) + 1)
  refine pc_ite (fun c => by exfalso; omega) (fun c => ?_)
  refine pc_gd (fun _ => ?_)
  rw [h3]
  have el : ((W.length : Int)).toNat = W.length := by omega
  rw [el]
  refine pc_lw (fun u1 e1 => ?_)
  have y6 : u1 19 6 = W.length := by rw [e1, st_c (by decide)]; exact h3
  rw [y6]
  refine pc_lw (fun u2 e2 => pc_some ⟨⟨⟨⟨?_, ?_⟩, ⟨?_, ?_⟩, ⟨?_, ?_, ?_⟩, fun x hx => ?_, h10⟩, ?_, hnb⟩, wx_st (wx_st (wx_r w) e1 (Or.inr (Or.inl rfl))) e2 (by omega)⟩)
  · rw [e2, st_k (by decide), e1, st_c (by decide)]; exact h1
  · rw [e2, st_row (by decide), e1, st_row (by decide)]; exact h2
  · rw [e2, st_eq, w32_id (by omega)]; rfl
  · rw [e2, st_row (by decide)]; exact sr_push h4 e1
  · rw [e2, st_k (by decide), e1, st_c (by decide)]; exact h5
  · rw [e2, st_k (by decide), e1, st_c (by decide)]; exact h7
  · rw [e2, st_k (by decide), e1, st_c (by decide)]; exact h8
  · rw [List.mem_cons] at hx
    rcases hx with e | hx
    · rw [e]; exact hv
    · exact h9 x hx
  · rw [e2, st_k (by decide), e1, st_c (by decide)]; exact h6
theorem rel_len (v : Int) : ∀ (W D : List Int), (rel v D W).1.length + (rel v D W).2.length = D.length + W.length := by
  intro W
  induction W with
  | nil => intro D; rfl
  | cons x W ih =>
    intro D
    rw [rel]
    by_cases c : v ≤ stg x
    · rw [if_pos c, ih]; simp only [List.length_cons]; omega
    · rw [if_neg c]
theorem rel_mem {v : Int} {P : Int → Prop} : ∀ (W D : List Int), (∀ x ∈ W, P x) → ∀ x ∈ (rel v D W).2, P x := by
  intro W
  induction W with
  | nil => intro D h; exact h
  | cons y W ih =>
    intro D h
    rw [rel]
    by_cases c : v ≤ stg y
    · rw [if_pos c]; exact ih _ (fun x hx => h x (List.mem_cons_of_mem _ hx))
    · rw [if_neg c]; exact h
theorem rl_pc {v d K : Int} {wt : Bool} : ∀ (n : Nat) (W D : List Int) {w : Wd} {v2 : Int}, v2 = (W.length : Int) - 1 → WS0 w D W d K wt → D.length + W.length ≤ 40 → PC (f_W_release_7 n v v2 w) (fun _ u => WS0 u (rel v D W).1 (rel v D W).2 d K wt ∧ WX w u ∧ u 19 8 = w 19 8) := by
  intro n
  induction n with
  | zero => intros; exact pc_none
  | succ n ih =>
    intro W D w v2 hv h hl
    rw [f_W_release_7]
    cases W with
    | nil =>
      simp only [List.length_nil] at hv
      exact pc_ite (fun _ => pc_some ⟨h, wx_r w, rfl⟩) (fun c => by exfalso; omega)
    | cons x W =>
      simp only [List.length_cons] at hl hv
      have h' := h
      obtain ⟨⟨h1, h2⟩, ⟨h3, h4⟩, ⟨h5, h7, h8⟩, h9, h10⟩ := h
      obtain ⟨hx, hW⟩ := sr_c h4
      refine pc_ite (fun c => by exfalso; omega) (fun c => ?_)
      refine pc_gd (fun _ => ?_)
      have e2 : v2.toNat = W.length := by omega
      rw [e2, hx, stg_e, jc_s, rel]
      refine pc_ite (fun c1 => ?_) (fun c1 => ?_)
      · rw [if_neg (by omega)]
        exact pc_some ⟨h', wx_r w, rfl⟩
      · rw [if_pos (by omega)]
        refine pc_gd (fun _ => ?_)
        have bx := h9 x List.mem_cons_self
        have w1 := w32_sp (-x)
        rw [hx, show w32 (-x) = -x by omega]
        refine pc_call (wr_pc (v := -x) h' (by omega)) (fun r4 u5 q => ?_)
        obtain ⟨⟨q1, q2⟩, q3, q4⟩ := q
        refine pc_lw (fun u6 e6 => ?_)
        have w2 := w32_sp (v2 + -1)
        refine pc_let (fun x7 e7 => ?_)
        have e8 : x7 = (W.length : Int) - 1 := by omega
        have f : ∀ c k, c ≠ 21 → ¬ (c = 19 ∧ (k = 5 ∨ k = 6)) → u6 c k = w c k := fun c k hc hk => by
          rw [e6]; unfold st; rw [if_neg (by omega)]; exact q4 c k hc (by omega)
        refine pc_w (ih W (-x :: D) (w := u6) e8 ⟨⟨?_, ?_⟩, ⟨?_, ?_⟩, ⟨?_, ?_, ?_⟩, fun y hy => h9 y (List.mem_cons_of_mem _ hy), h10⟩ ?_) (fun r u p => ⟨p.1, wx_tr (wx_st q3 e6 (by omega)) p.2.1, p.2.2.trans (f 19 8 (by decide) (by decide))⟩)
        · rw [e6, st_k (by decide)]; exact q1
        · rw [e6, st_row (by decide)]; exact q2
        · rw [e6, st_eq]; omega
        · rw [show u6 22 = w 22 from funext fun k => f 22 k (by decide) (by omega)]; exact hW
        · rw [f 19 7 (by decide) (by decide)]; exact h5
        · rw [f 19 9 (by decide) (by decide)]; exact h7
        · rw [f 19 10 (by decide) (by decide)]; exact h8
        · simp only [List.length_cons]; omega
theorem rel_pc {v d K : Int} {wt : Bool} {W D : List Int} {w : Wd} (h : WS0 w D W d K wt) (hl : D.length + W.length ≤ 40) : PC (f_W_release v w) (fun _ u => WS0 u (rel v D W).1 (rel v D W).2 d K wt ∧ WX w u ∧ u 19 8 = w 19 8) := by
  unfold f_W_release
  have w1 := w32_sp (w 19 6 - 1)
  refine pc_let (fun x1 e1 => ?_)
  have e : x1 = (W.length : Int) - 1 := by have := h.2.1.1; omega
  exact rl_pc FU W D e h hl
def stO (o : Option (List Int × List Int × Int × Int × Int × Bool)) (w : Wd) (r : Int) (u : Wd) : Prop := match o with
  | none => r = 0 ∧ WX w u
  | some (D, W, d, g, K, wt) => r = 1 ∧ WS u D W d g K wt ∧ WX w u
theorem tt_pc {c : Int} {w : Wd} {D W : List Int} {d g K : Int} (h : WS w D W d g K true) (hl : 0 ≤ c → D.length + W.length < 40) (hc : -2 ≤ c ∧ c ≤ 255) : PC (f_W_takeThing c w) (fun r u => stO (stc c D W d g K true) w r u) := by
  have h' := h
  obtain ⟨⟨⟨h1, h2⟩, ⟨h3, h4⟩, ⟨h5, h7, h8⟩, h9, h10⟩, h6, hnb⟩ := h
  -- a number's digit or a letter
  have fin : ∀ (v2 v : Int), ¬ c = 45 → ¬ (c = 40 ∧ d < 4) → (48 ≤ c ∧ c ≤ 57 ∧ v2 = 1 ∧ v = c - 48) ∨ (¬ (48 ≤ c ∧ c ≤ 57) ∧ (c = 105 ∨ c = 112 ∨ c = 107 ∨ c = 115 ∨ c = 103 ∨ c = 108 ∨ c = 110 ∨ c = 119) ∧ v2 = 0 ∧ v = -c) → PC (f_W_takeThing_108 v2 v w) (fun r u => stO (stc c D W d g K true) w r u) := by
    intro v2 v n45 n40 hv
    have hl2 := hl (by omega)
    have es : stc c D W d g K true = some (v :: D, W, d, v2, K, false) := by
      unfold stc
      rw [if_pos rfl, if_neg n45, if_neg n40]
      rcases hv with ⟨a1, a2, a3, a4⟩ | ⟨a1, a2, a3, a4⟩
      · rw [if_pos ⟨a1, a2⟩, a3, a4]
      · rw [if_neg a1, if_pos a2, a3, a4]
    rw [es]
    unfold f_W_takeThing_108
    refine pc_call (wr_pc (v := v) h'.1 (by omega)) (fun r1 u2 q => ?_)
    obtain ⟨⟨q1, q2⟩, q3, q4⟩ := q
    have nx : PC (f_W_takeThing_121 v2 u2) (fun r u => stO (some (v :: D, W, d, v2, K, false)) w r u) := by
      unfold f_W_takeThing_121
      refine pc_lw (fun u3 e3 => ?_)
      refine pc_lw (fun u4 e4 => ?_)
      have f : ∀ c k, c ≠ 21 → ¬ (c = 19 ∧ (k = 5 ∨ k = 8 ∨ k = 10)) → u4 c k = w c k := fun c k hc hk => by
        rw [e4]; unfold st; rw [if_neg (by omega), e3]; unfold st; rw [if_neg (by omega)]; exact q4 c k hc (by omega)
      refine pc_some ⟨rfl, ⟨⟨⟨?_, ?_⟩, ⟨?_, ?_⟩, ⟨?_, ?_, ?_⟩, h9, h10⟩, ?_, fun e => ?_, fun e => ?_, ?_, ?_⟩, wx_st (wx_st q3 e3 (by omega)) e4 (by omega)⟩
      · rw [e4, st_k (by decide), e3, st_k (by decide)]; exact q1
      · rw [e4, st_row (by decide), e3, st_row (by decide)]; exact q2
      · rw [f 19 6 (by decide) (by decide)]; exact h3
      · rw [show u4 22 = w 22 from funext fun k => f 22 k (by decide) (by omega)]; exact h4
      · rw [f 19 7 (by decide) (by decide)]; exact h5
      · rw [f 19 9 (by decide) (by decide)]; exact h7
      · rw [e4, st_eq]; rfl
      · rw [e4, st_k (by decide), e3, st_eq]
      · exact ⟨v, D, rfl, by omega, by omega⟩
      · omega
      · omega
      · omega
    rcases hv with ⟨a1, a2, a3, a4⟩ | ⟨a1, a2, a3, a4⟩
    · rw [a3] at nx ⊢
      exact pc_ite (fun e => absurd e (by decide)) (fun _ => nx)
    · rw [a3] at nx ⊢
      exact pc_ite (fun _ => nx) (fun e => absurd rfl e)
  have w1 := w32_sp (-c)
  have w2 := w32_sp (c - 48)
  have k63 : ¬ c = 45 → ¬ (c = 40 ∧ d < 4) → PC (f_W_takeThing_63 c w) (fun r u => stO (stc c D W d g K true) w r u) := by
    intro n45 n40
    have k79 : ¬ (48 ≤ c ∧ c ≤ 57) → PC (f_W_takeThing_79 c w) (fun r u => stO (stc c D W d g K true) w r u) := by
      intro nd
      unfold f_W_takeThing_79 f_W_takeThing_80
      refine pc_ite (fun _ => ?_) (fun e => absurd rfl e)
      refine pc_call (ltr_pc c w) (fun r5 u6 q => ?_)
      rw [q.1]
      by_cases cl : c = 105 ∨ c = 112 ∨ c = 107 ∨ c = 115 ∨ c = 103 ∨ c = 108 ∨ c = 110 ∨ c = 119
      · rw [if_pos cl] at q
        refine pc_ite (fun e => absurd (q.2.symm.trans e) (by decide)) (fun _ => ?_)
        unfold f_W_takeThing_94
        refine pc_ite (fun _ => ?_) (fun e => absurd rfl e)
        rw [show w32 (-c) = -c by omega]
        exact fin 0 (-c) n45 n40 (Or.inr ⟨nd, cl, rfl, rfl⟩)
      · rw [if_neg cl] at q
        refine pc_ite (fun _ => ?_) (fun e => absurd q.2 e)
        have es : stc c D W d g K true = none := by
          unfold stc
          rw [if_pos rfl, if_neg n45, if_neg n40, if_neg nd, if_neg cl]
        rw [es]
        exact pc_some ⟨rfl, wx_r w⟩
    unfold f_W_takeThing_63
    refine pc_ite (fun c1 => k79 (by omega)) (fun c1 => ?_)
    refine pc_ite (fun c2 => k79 (by omega)) (fun c2 => ?_)
    unfold f_W_takeThing_80
    refine pc_ite (fun e => absurd e (by decide)) (fun _ => ?_)
    unfold f_W_takeThing_94
    refine pc_ite (fun e => absurd e (by decide)) (fun _ => ?_)
    rw [show w32 (c - 48) = c - 48 by omega]
    exact fin 1 (c - 48) n45 n40 (Or.inl ⟨by omega, by omega, rfl, rfl⟩)
  unfold f_W_takeThing
  refine pc_ite (fun c1 => ?_) (fun c1 => ?_)
  · have es : stc c D W d g K true = some (D, 256 :: W, d, g, K, true) := by
      unfold stc
      rw [if_pos rfl, if_pos c1]
    have hl2 := hl (by omega)
    rw [es]
    exact pc_call (aw_pc (v := 256) h' (by omega) (by decide)) (fun r11 u12 q => pc_some ⟨rfl, q⟩)
  · refine pc_ite (fun c2 => ?_) (fun c2 => k63 c1 (fun e => c2 e.1))
    rw [h5]
    refine pc_ite (fun c3 => k63 c1 (fun e => by omega)) (fun c3 => ?_)
    have es : stc c D W d g K true = some (D, 40 :: W, d + 1, g, iand K (ixor (ishl 1 (d + 1)) (-1)), true) := by
      unfold stc
      rw [if_pos rfl, if_neg c1, if_pos ⟨c2, by omega⟩]
    have hl2 := hl (by omega)
    have w3 := w32_sp (d + 1)
    rw [es, c2, show w32 (d + 1) = d + 1 by omega]
    refine pc_lw (fun u7 e7 => ?_)
    have y7 : u7 19 7 = d + 1 := by rw [e7, st_eq]
    have y9 : u7 19 9 = K := by rw [e7, st_k (by decide)]; exact h7
    rw [y7, y9]
    refine pc_lw (fun u8 e8 => ?_)
    have f : ∀ c k, ¬ (c = 19 ∧ (k = 7 ∨ k = 9)) → u8 c k = w c k := fun c k hk => by
      rw [e8]; unfold st; rw [if_neg (by omega), e7]; unfold st; rw [if_neg (by omega)]
    have h8' : WS u8 D W (d + 1) g (iand K (ixor (ishl 1 (d + 1)) (-1))) true := by
      refine ⟨⟨⟨?_, ?_⟩, ⟨?_, ?_⟩, ⟨?_, ?_, ?_⟩, h9, by omega, by omega⟩, ?_, hnb⟩
      · rw [f 19 5 (by decide)]; exact h1
      · rw [show u8 21 = w 21 from funext fun k => f 21 k (by omega)]; exact h2
      · rw [f 19 6 (by decide)]; exact h3
      · rw [show u8 22 = w 22 from funext fun k => f 22 k (by omega)]; exact h4
      · rw [e8, st_k (by decide)]; exact y7
      · rw [e8, st_eq]
      · rw [f 19 10 (by decide)]; exact h8
      · rw [f 19 8 (by decide)]; exact h6
    refine pc_call (aw_pc (v := 40) h8' (by omega) (by decide)) (fun r9 u10 q => pc_some ⟨rfl, q.1, wx_tr (wx_st (wx_st (wx_r w) e7 (by omega)) e8 (by omega)) q.2⟩)
theorem tb_pc {c : Int} {w : Wd} {D W : List Int} {d g K : Int} (hKr : -2147483648 ≤ K ∧ K ≤ 2147483647) (h : WS w D W d g K false) (hl : 0 ≤ c → D.length + W.length < 40) (hc : -2 ≤ c ∧ c ≤ 255) : PC (f_W_takeBehindThing c w) (fun r u => stO (stc c D W d g K false) w r u) := by
  have h' := h
  obtain ⟨⟨⟨h1, h2⟩, ⟨h3, h4⟩, ⟨h5, h7, h8⟩, h9, h10⟩, h6, hnb⟩ := h
  have k21 : ¬ (48 ≤ c ∧ c ≤ 57) → PC (f_W_takeBehindThing_21 c w) (fun r u => stO (stc c D W d g K false) w r u) := by
    intro nd
    unfold f_W_takeBehindThing_21
    refine pc_lw (fun u1 e1 => ?_)
    have f1 : ∀ c k, ¬ (c = 19 ∧ k = 8) → u1 c k = w c k := fun c k hk => by
      rw [e1]; unfold st; rw [if_neg hk]
    have s1 : WS0 u1 D W d K false := by
      refine ⟨⟨?_, ?_⟩, ⟨?_, ?_⟩, ⟨?_, ?_, ?_⟩, h9, h10⟩
      · rw [f1 19 5 (by decide)]; exact h1
      · rw [show u1 21 = w 21 from funext fun k => f1 21 k (by omega)]; exact h2
      · rw [f1 19 6 (by decide)]; exact h3
      · rw [show u1 22 = w 22 from funext fun k => f1 22 k (by omega)]; exact h4
      · rw [f1 19 7 (by decide)]; exact h5
      · rw [f1 19 9 (by decide)]; exact h7
      · rw [f1 19 10 (by decide)]; exact h8
    have x1 : WX w u1 := wx_st (wx_r w) e1 (by omega)
    have k77 : ¬ (c = 41 ∧ 0 < d) → PC (f_W_takeBehindThing_77 c u1) (fun r u => stO (stc c D W d g K false) w r u) := by
      intro n41
      unfold f_W_takeBehindThing_77
      rw [stg_e, jc_s]
      refine pc_ite (fun c0 => ?_) (fun c0 => ?_)
      · have es : stc c D W d g K false = none := by
          unfold stc
          rw [if_neg (by decide), if_neg nd, if_neg n41, if_pos (Or.inl c0)]
        rw [es]
        exact pc_some ⟨rfl, x1⟩
      · have cpos : 0 ≤ c := by
          by_cases c9 : 0 ≤ c
          · exact c9
          · exfalso
            apply c0
            unfold stg
            rw [if_neg (by omega), if_neg (by omega), if_neg (by omega), if_neg (by omega), if_neg (by omega), if_neg (by omega), if_neg (by omega), if_neg (by omega)]
        have hl2 := hl cpos
        have k127 : ∀ s2 K2 : Int, ior K s2 = K2 → stc c D W d g K false = some ((rel (stg c) D W).1, c :: (rel (stg c) D W).2, d, 0, K2, true) → PC (f_W_takeBehindThing_127 c (stg c) (u1 19 9) s2 u1) (fun r u => stO (stc c D W d g K false) w r u) := by
          intro s2 K2 eK es
          rw [es]
          unfold f_W_takeBehindThing_127
          rw [s1.2.2.1.2.1, eK]
          refine pc_lw (fun u4 e4 => ?_)
          have f4 : ∀ c k, ¬ (c = 19 ∧ k = 9) → u4 c k = u1 c k := fun c k hk => by
            rw [e4]; unfold st; rw [if_neg hk]
          have s4 : WS0 u4 D W d K2 false := by
            obtain ⟨⟨a1, a2⟩, ⟨a3, a4⟩, ⟨a5, a7, a8⟩, a9, a10⟩ := s1
            refine ⟨⟨?_, ?_⟩, ⟨?_, ?_⟩, ⟨?_, ?_, ?_⟩, a9, a10⟩
            · rw [f4 19 5 (by decide)]; exact a1
            · rw [show u4 21 = u1 21 from funext fun k => f4 21 k (by omega)]; exact a2
            · rw [f4 19 6 (by decide)]; exact a3
            · rw [show u4 22 = u1 22 from funext fun k => f4 22 k (by omega)]; exact a4
            · rw [f4 19 7 (by decide)]; exact a5
            · rw [e4, st_eq]
            · rw [f4 19 10 (by decide)]; exact a8
          refine pc_call (rel_pc (v := stg c) s4 (by omega)) (fun r5 u6 q => ?_)
          obtain ⟨q1, q2, q3⟩ := q
          have q8 : u6 19 8 = 0 := by rw [q3, f4 19 8 (by decide), e1, st_eq]
          have hln := rel_len (stg c) W D
          refine pc_call (aw_pc (v := c) (g := 0) ⟨q1, q8, nb_0 _⟩ (by omega) (by omega)) (fun r7 u8 p => ?_)
          obtain ⟨⟨⟨⟨b1, b2⟩, ⟨b3, b4⟩, ⟨b5, b7, b8⟩, b9, b10⟩, b6, bnb⟩, p2⟩ := p
          refine pc_lw (fun u9 e9 => ?_)
          have f9 : ∀ c k, ¬ (c = 19 ∧ k = 10) → u9 c k = u8 c k := fun c k hk => by
            rw [e9]; unfold st; rw [if_neg hk]
          refine pc_some ⟨rfl, ⟨⟨⟨?_, ?_⟩, ⟨?_, ?_⟩, ⟨?_, ?_, ?_⟩, b9, b10⟩, ?_, bnb⟩, wx_st (wx_tr (wx_tr (wx_st x1 e4 (by omega)) q2) p2) e9 (by omega)⟩
          · rw [f9 19 5 (by decide)]; exact b1
          · rw [show u9 21 = u8 21 from funext fun k => f9 21 k (by omega)]; exact b2
          · rw [f9 19 6 (by decide)]; exact b3
          · rw [show u9 22 = u8 22 from funext fun k => f9 22 k (by omega)]; exact b4
          · rw [f9 19 7 (by decide)]; exact b5
          · rw [f9 19 9 (by decide)]; exact b7
          · rw [e9, st_eq]; rfl
          · rw [f9 19 8 (by decide)]; exact b6
        have y7 : u1 19 7 = d := s1.2.2.1.1
        have y9 : u1 19 9 = K := s1.2.2.1.2.1
        have k107 : ¬ (stg c = 1 ∧ bt K d.toNat = true) → PC (f_W_takeBehindThing_107 c (stg c) u1) (fun r u => stO (stc c D W d g K false) w r u) := by
          intro ncmp
          have es : stc c D W d g K false = some ((rel (stg c) D W).1, c :: (rel (stg c) D W).2, d, 0, (if stg c = 1 then ior K (ishl 1 d) else K), true) := by
            unfold stc
            rw [if_neg (by decide), if_neg nd, if_neg n41, if_neg (fun hh => hh.elim c0 ncmp)]
          unfold f_W_takeBehindThing_107
          refine pc_ite (fun c1 => ?_) (fun c1 => ?_)
          · rw [if_pos c1] at es
            rw [y7]
            exact k127 _ _ rfl es
          · rw [if_neg c1] at es
            exact k127 0 K (ior0 hKr) es
        refine pc_ite (fun c1 => ?_) (fun c1 => k107 (fun hh => c1 hh.1))
        rw [y9, y7, bit_i (by omega)]
        cases hb : bt K d.toNat with
        | true =>
          rw [if_pos (show true = true from rfl)]
          refine pc_ite (fun e => absurd e (by decide)) (fun _ => ?_)
          have es : stc c D W d g K false = none := by
            unfold stc
            rw [if_neg (by decide), if_neg nd, if_neg n41, if_pos (Or.inr ⟨c1, hb⟩)]
          rw [es]
          exact pc_some ⟨rfl, x1⟩
        | false =>
          rw [if_neg (show ¬ false = true by decide)]
          exact pc_ite (fun _ => k107 (fun hh => by rw [hb] at hh; cases hh.2)) (fun e => absurd rfl e)
    refine pc_ite (fun c1 => ?_) (fun c1 => k77 (fun hh => c1 hh.1))
    have y7 : u1 19 7 = d := s1.2.2.1.1
    rw [y7]
    refine pc_ite (fun c2 => k77 (fun hh => by omega)) (fun c2 => ?_)
    have hl2 := hl (by omega)
    have es : stc c D W d g K false = some ((rel 1 D W).1, (rel 1 D W).2.tail, d - 1, 0, K, false) := by
      unfold stc
      rw [if_neg (by decide), if_neg nd, if_pos ⟨c1, by omega⟩]
    rw [es]
    have w1 := w32_sp (d - 1)
    rw [show w32 (d - 1) = d - 1 by omega]
    refine pc_lw (fun u10 e10 => ?_)
    have f10 : ∀ c k, ¬ (c = 19 ∧ k = 7) → u10 c k = u1 c k := fun c k hk => by
      rw [e10]; unfold st; rw [if_neg hk]
    have s10 : WS0 u10 D W (d - 1) K false := by
      obtain ⟨⟨a1, a2⟩, ⟨a3, a4⟩, ⟨a5, a7, a8⟩, a9, a10⟩ := s1
      refine ⟨⟨?_, ?_⟩, ⟨?_, ?_⟩, ⟨?_, ?_, ?_⟩, a9, by omega, by omega⟩
      · rw [f10 19 5 (by decide)]; exact a1
      · rw [show u10 21 = u1 21 from funext fun k => f10 21 k (by omega)]; exact a2
      · rw [f10 19 6 (by decide)]; exact a3
      · rw [show u10 22 = u1 22 from funext fun k => f10 22 k (by omega)]; exact a4
      · rw [e10, st_eq]
      · rw [f10 19 9 (by decide)]; exact a7
      · rw [f10 19 10 (by decide)]; exact a8
    refine pc_call (rel_pc (v := 1) s10 (by omega)) (fun r11 u12 q => ?_)
    obtain ⟨⟨⟨a1, a2⟩, ⟨a3, a4⟩, ⟨a5, a7, a8⟩, a9, a10⟩, q2, q3⟩ := q
    have q8 : u12 19 8 = 0 := by rw [q3, f10 19 8 (by decide), e1, st_eq]
    have x12 : WX w u12 := wx_tr (wx_st x1 e10 (by omega)) q2
    have hln := rel_len 1 W D
    generalize (rel 1 D W).2 = W2 at *
    generalize (rel 1 D W).1 = D2 at *
    have k71 : ∀ s : Int, u12 19 6 - s = (W2.tail.length : Int) → (0 ≤ s ∧ s ≤ 1) → PC (f_W_takeBehindThing_71 (u12 19 6) s u12) (fun r u => stO (some (D2, W2.tail, d - 1, 0, K, false)) w r u) := by
      intro s e s01
      unfold f_W_takeBehindThing_71
      have w2 := w32_sp (u12 19 6 - s)
      refine pc_lw (fun u13 e13 => ?_)
      have f13 : ∀ c k, ¬ (c = 19 ∧ k = 6) → u13 c k = u12 c k := fun c k hk => by
        rw [e13]; unfold st; rw [if_neg hk]
      refine pc_some ⟨rfl, ⟨⟨⟨?_, ?_⟩, ⟨?_, ?_⟩, ⟨?_, ?_, ?_⟩, fun x hx => a9 x (List.mem_of_mem_tail hx), a10⟩, ?_, nb_0 _⟩, wx_st x12 e13 (by omega)⟩
      · rw [f13 19 5 (by decide)]; exact a1
      · rw [show u13 21 = u12 21 from funext fun k => f13 21 k (by omega)]; exact a2
      · rw [e13, st_eq]; omega
      · rw [show u13 22 = u12 22 from funext fun k => f13 22 k (by omega)]
        cases W2 with
        | nil => exact a4
        | cons y W2 => exact (sr_c a4).2
      · rw [f13 19 7 (by decide)]; exact a5
      · rw [f13 19 9 (by decide)]; exact a7
      · rw [f13 19 10 (by decide)]; exact a8
      · rw [f13 19 8 (by decide)]; exact q8
    have htl : W2.tail.length = W2.length - 1 := List.length_tail
    refine pc_ite (fun c3 => k71 0 (by omega) (by decide)) (fun c3 => k71 1 (by omega) (by decide))
  unfold f_W_takeBehindThing
  refine pc_ite (fun c1 => k21 (by omega)) (fun c1 => ?_)
  refine pc_ite (fun c2 => k21 (by omega)) (fun c2 => ?_)
  have hd : 48 ≤ c ∧ c ≤ 57 := by omega
  have w1 := w32_sp (c - 48)
  rw [show w32 (c - 48) = c - 48 by omega]
  have hdig : PC (f_W_takeDigit (c - 48) w) (fun r u => (r = 0 ∨ r = 1) ∧ stO (stc c D W d g K false) w r u) := by
    unfold f_W_takeDigit
    rw [h6]
    refine pc_ite (fun c3 => ?_) (fun c3 => ?_)
    · have es : stc c D W d g K false = none := by
        unfold stc
        rw [if_neg (by decide), if_pos hd, if_pos (Or.inl c3)]
      rw [es]; exact pc_some ⟨Or.inl rfl, rfl, wx_r w⟩
    · refine pc_ite (fun c4 => ?_) (fun c4 => ?_)
      · have es : stc c D W d g K false = none := by
          unfold stc
          rw [if_neg (by decide), if_pos hd, if_pos (Or.inr c4)]
        rw [es]; exact pc_some ⟨Or.inl rfl, rfl, wx_r w⟩
      · have hx : ∃ x D', D = x :: D' ∧ 0 ≤ x ∧ x ≤ 99 ∧ (g = 1 → x ≤ 9) := by
          have hg := hnb.2.2
          by_cases g1 : g = 1
          · obtain ⟨x, D', e, e1, e2⟩ := hnb.1 g1
            exact ⟨x, D', e, e1, by omega, fun _ => e2⟩
          · obtain ⟨x, D', e, e1, e2⟩ := hnb.2.1 (by omega)
            exact ⟨x, D', e, e1, e2, fun h => absurd h g1⟩
        obtain ⟨x, D', eD, x0, x99, xg⟩ := hx
        subst eD
        obtain ⟨hy, hD'⟩ := sr_c h2
        have es : stc c (x :: D') W d g K false = some ((x * 10 + (c - 48)) :: D', W, d, g + 1, K, false) := by
          unfold stc
          rw [if_neg (by decide), if_pos hd, if_neg (by omega)]
        rw [es]
        have hl2 := hl (by omega)
        simp only [List.length_cons] at h1 hl2
        have w2 := w32_sp (w 19 5 - 1)
        have w3 := w32_sp (x * 10)
        have w4 := w32_sp (w32 (x * 10) + (c - 48))
        have w5 := w32_sp (g + 1)
        have hg := hnb.2.2
        have ei : (w32 (w 19 5 - 1)).toNat = D'.length := by omega
        refine pc_ite (fun c5 => by exfalso; omega) (fun c5 => ?_)
        refine pc_gd (fun _ => ?_)
        refine pc_gd (fun _ => ?_)
        rw [ei, hy, show w32 (w32 (x * 10) + (c - 48)) = x * 10 + (c - 48) by omega]
        refine pc_lw (fun u1 e1 => ?_)
        have y8 : u1 19 8 = g := by rw [e1, st_c (by decide)]; exact h6
        rw [y8, show w32 (g + 1) = g + 1 by omega]
        refine pc_lw (fun u2 e2 => ?_)
        have f : ∀ c k, c ≠ 21 → ¬ (c = 19 ∧ k = 8) → u2 c k = w c k := fun c k hc hk => by
          rw [e2]; unfold st; rw [if_neg hk, e1]; unfold st; rw [if_neg (fun e => hc e.1)]
        refine pc_some ⟨Or.inr rfl, rfl, ⟨⟨⟨?_, ?_⟩, ⟨?_, ?_⟩, ⟨?_, ?_, ?_⟩, h9, h10⟩, ?_, fun e => ?_, fun e => ?_, ?_, ?_⟩, wx_st (wx_st (wx_r w) e1 (Or.inl rfl)) e2 (by omega)⟩
        · rw [f 19 5 (by decide) (by decide)]; exact h1
        · rw [e2, st_row (by decide)]; exact sr_push hD' e1
        · rw [f 19 6 (by decide) (by decide)]; exact h3
        · rw [show u2 22 = w 22 from funext fun k => f 22 k (by decide) (by omega)]; exact h4
        · rw [f 19 7 (by decide) (by decide)]; exact h5
        · rw [f 19 9 (by decide) (by decide)]; exact h7
        · rw [f 19 10 (by decide) (by decide)]; exact h8
        · rw [e2, st_eq]
        · omega
        · have := xg (by omega)
          exact ⟨x * 10 + (c - 48), D', rfl, by omega, by omega⟩
        · omega
        · omega
  refine pc_call hdig (fun r14 u15 q => ?_)
  exact pc_ite (fun _ => pc_some q.2) (fun hn => absurd q.1 hn)
