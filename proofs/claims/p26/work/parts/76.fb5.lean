theorem stc_m2 (D W : List Int) (d g K : Int) (wt : Bool) : stc (-2) D W d g K wt = none := by
  unfold stc
  cases wt with
  | true => rw [if_pos rfl, if_neg (by decide), if_neg (fun h => absurd h.1 (by decide)), if_neg (by decide), if_neg (by decide)]
  | false => rw [if_neg (by decide), if_neg (by decide), if_neg (fun h => absurd h.1 (by decide)), if_pos (Or.inl (by decide))]
theorem stc_K {c : Int} {D W : List Int} {d g K : Int} {wt : Bool} {D' W' : List Int} {d' g' K' : Int} {wt' : Bool} (h : stc c D W d g K wt = some (D', W', d', g', K', wt')) (hK : -2147483648 ≤ K ∧ K ≤ 2147483647) : (-2147483648 ≤ K' ∧ K' ≤ 2147483647) ∧ D'.length + W'.length ≤ D.length + W.length + 1 := by
  unfold stc at h
  have l1 := rel_len 1 W D
  have l2 := rel_len (stg c) W D
  have lt : (rel 1 D W).2.tail.length ≤ (rel 1 D W).2.length := by rw [List.length_tail]; omega
  by_cases c0 : wt = true
  · rw [if_pos c0] at h
    by_cases c1 : c = 45
    · rw [if_pos c1] at h; cases h; exact ⟨hK, by simp only [List.length_cons]; omega⟩
    · rw [if_neg c1] at h
      by_cases c2 : c = 40 ∧ d < 4
      · rw [if_pos c2] at h; cases h; exact ⟨iand_rg _ _, by simp only [List.length_cons]; omega⟩
      · rw [if_neg c2] at h
        by_cases c3 : 48 ≤ c ∧ c ≤ 57
        · rw [if_pos c3] at h; cases h; exact ⟨hK, by simp only [List.length_cons]; omega⟩
        · rw [if_neg c3] at h
          by_cases c4 : c = 105 ∨ c = 112 ∨ c = 107 ∨ c = 115 ∨ c = 103 ∨ c = 108 ∨ c = 110 ∨ c = 119
          · rw [if_pos c4] at h; cases h; exact ⟨hK, by simp only [List.length_cons]; omega⟩
          · rw [if_neg c4] at h; cases h
  · rw [if_neg c0] at h
    by_cases c1 : 48 ≤ c ∧ c ≤ 57
    · rw [if_pos c1] at h
      by_cases c2 : g = 0 ∨ g = 3
      · rw [if_pos c2] at h; cases h
      · rw [if_neg c2] at h
        cases D with
        | nil => cases h
        | cons x D => cases h; exact ⟨hK, by simp only [List.length_cons]; omega⟩
    · rw [if_neg c1] at h
      by_cases c2 : c = 41 ∧ 0 < d
      · rw [if_pos c2] at h; cases h; exact ⟨hK, by omega⟩
      · rw [if_neg c2] at h
        by_cases c3 : stg c = 0 ∨ (stg c = 1 ∧ bt K d.toNat = true)
        · rw [if_pos c3] at h; cases h
        · rw [if_neg c3] at h
          cases h
          refine ⟨?_, by simp only [List.length_cons]; omega⟩
          by_cases c4 : stg c = 1
          · rw [if_pos c4]; exact ior_rg _ _
          · rw [if_neg c4]; exact hK
def sL (n : Int) (f : Nat → Int) (p : Int) : Int := if p < 0 then -1 else if p < n then (if p < 40 then f p.toNat else -2) else -1
theorem sl_pc {w : Wd} (p : Int) : PC (f_T_signAt p 40 w) (fun r u => u = w ∧ r = sL (w 1 1) (w 2) p) := by
  unfold f_T_signAt sL
  refine pc_ite (fun h => ?_) (fun h => ?_)
  · rw [if_pos h]; exact pc_some ⟨rfl, rfl⟩
  · rw [if_neg h]
    refine pc_ite (fun h1 => ?_) (fun h1 => ?_)
    · rw [if_pos h1]
      refine pc_ite (fun h2 => ?_) (fun h2 => ?_)
      · rw [if_pos h2]; exact pc_gd (fun _ => pc_some ⟨rfl, rfl⟩)
      · rw [if_neg h2]; exact pc_some ⟨rfl, rfl⟩
    · rw [if_neg h1]; exact pc_some ⟨rfl, rfl⟩
/-- what reading the rule does to the class -/
def RDq (x : Wd) (R : Bool × Int × List Int) (r : Int) (u : Wd) : Prop := (∀ c, c ≠ 19 → c ≠ 20 → c ≠ 21 → c ≠ 22 → u c = x c) ∧ (R.1 = true → r = 0 ∧ u 19 4 = (R.2.2.length : Int) ∧ SR (u 20) R.2.2) ∧ (R.1 = false → r = -1 - R.2.1 ∧ u 19 4 = x 19 4 ∧ u 20 = x 20)
theorem wx_row {x w : Wd} (h : WX x w) : ∀ c, c ≠ 19 → c ≠ 20 → c ≠ 21 → c ≠ 22 → w c = x c := fun c h1 _ h3 h4 => funext fun k => h.1 c k h1 h3 h4
theorem rd_46 {N : Int} {f0 : Nat → Int} (x : Wd) (hN : 0 ≤ N ∧ N ≤ 80) (h11 : x 1 1 = N) (h2 : x 2 = f0) (hf : ∀ k : Nat, (k : Int) < N → 0 ≤ f0 k ∧ f0 k ≤ 255) : ∀ (n : Nat) {w : Wd} {p : Int} {D W : List Int} {d g K : Int} {wt : Bool}, (0 ≤ p ∧ p ≤ N) → WX x w → WS w D W d g K wt → ((D.length + W.length : Nat) : Int) ≤ p → D.length + W.length ≤ 40 → (-2147483648 ≤ K ∧ K ≤ 2147483647) → PC (f_W_read_46 n p w) (fun r u => RDq x (cat (sL N f0) N p D W d g K wt) r u) := by
  intro n
  induction n with
  | zero => intros; exact pc_none
  | succ n ih =>
    intro w p D W d g K wt hp hx hs hl hl40 hK
    rw [f_W_read_46]
    have y11 : w 1 1 = N := (hx.1 1 1 (by decide) (by decide) (by decide)).trans h11
    have y2 : w 2 = f0 := (funext fun k => hx.1 2 k (by decide) (by decide) (by decide)).trans h2
    have hs' := hs
    obtain ⟨⟨⟨a1, a2⟩, ⟨a3, a4⟩, ⟨a5, a7, a8⟩, a9, a10⟩, a6, anb⟩ := hs
    rw [y11]
    refine pc_ite (fun c => ?_) (fun c => ?_)
    · have e : p = N := by omega
      subst e
      rw [cat_n]
      have k112 : (wt = true ∨ 0 < d) → PC (f_W_read_112 w) (fun r u => RDq x (if wt = true ∨ 0 < d then (false, p, []) else (true, p, (rel 1 D W).1)) r u) := by
        intro h
        rw [if_pos h]
        unfold f_W_read_112
        have w1 := w32_sp (-1 - w 1 1)
        refine pc_some ⟨wx_row hx, (fun e => by cases e), fun _ => ⟨?_, hx.2 4 (by decide), ?_⟩⟩
        · show w32 (-1 - w 1 1) = -1 - p
          omega
        · exact funext fun k => hx.1 20 k (by decide) (by decide) (by decide)
      rw [a8]
      cases wt with
      | true => exact pc_ite (fun e => absurd e (by decide)) (fun _ => k112 (Or.inl rfl))
      | false =>
        refine pc_ite (fun _ => ?_) (fun e => absurd rfl e)
        rw [a5]
        refine pc_ite (fun c2 => ?_) (fun c2 => k112 (Or.inr (by omega)))
        rw [if_neg (fun h => h.elim (fun h => by cases h) (fun h => by omega))]
        refine pc_call (rel_pc (v := 1) hs'.1 hl40) (fun r7 u8 q => ?_)
        obtain ⟨⟨⟨b1, b2⟩, _⟩, q2, _⟩ := q
        have x8 := wx_tr hx q2
        refine pc_gd (fun _ => ?_)
        refine pc_lw (fun u9 e9 => ?_)
        refine pc_lw (fun u10 e10 => pc_some ⟨fun c h19 h20 h21 h22 => ?_, fun _ => ⟨rfl, ?_, ?_⟩, (fun e => by cases e)⟩)
        · rw [e10, st_row h19, e9]
          funext k
          unfold cpy
          rw [if_neg (fun e => h20 e.1)]
          exact x8.1 c k h19 h21 h22
        · have y : u9 19 5 = u8 19 5 := by rw [e9]; unfold cpy; rw [if_neg (fun e => absurd e.1 (by decide))]
          rw [e10, st_eq, y]; exact b1
        · show SR (u10 20) (rel 1 D W).1
          unfold SR at b2 ⊢
          rw [b2.trans (pre_eq (g := u10 20) (fun i hi => ?_)), pre_len]
          rw [e10, st_c (by decide), e9]
          unfold cpy
          rw [b1, if_pos ⟨rfl, by simp, by simp; omega⟩]
          simp
    · refine pc_call (sl_pc p) (fun r11 u12 q => ?_)
      obtain ⟨q1, q2⟩ := q
      rw [y11, y2] at q2
      rw [q1, cat_s (by omega), a8]
      have hc : (-2 ≤ r11 ∧ r11 ≤ 255) ∧ (0 ≤ r11 → D.length + W.length < 40) := by
        rw [q2]
        unfold sL
        rw [if_neg (by omega), if_pos (by omega)]
        by_cases c4 : p < 40
        · rw [if_pos c4]
          have := hf p.toNat (by omega)
          exact ⟨by omega, fun _ => by omega⟩
        · rw [if_neg c4]
          exact ⟨by decide, fun h => absurd h (by decide)⟩
      rw [← q2]
      have w1 := w32_sp (-1 - p)
      have w2 := w32_sp (p + 1)
      have nx : ∀ (r : Int) (u : Wd), stO (stc r11 D W d g K wt) w r u → PC (if r = 0 then f_W_read_88 p u else f_W_read_92 (f_W_read_46 n) p u) (fun r u => RDq x (match stc r11 D W d g K wt with
          | none => (false, p, [])
          | some (D', W', d', g', K', wt') => cat (sL N f0) N (p + 1) D' W' d' g' K' wt') r u) := by
        intro r u h
        cases ho : stc r11 D W d g K wt with
        | none =>
          rw [ho] at h
          obtain ⟨h1, h2⟩ := h
          have hx2 := wx_tr hx h2
          refine pc_ite (fun _ => ?_) (fun e => absurd h1 e)
          unfold f_W_read_88
          refine pc_some ⟨wx_row hx2, (fun e => by cases e), fun _ => ⟨?_, hx2.2 4 (by decide), ?_⟩⟩
          · show w32 (-1 - p) = -1 - p
            omega
          · exact funext fun k => hx2.1 20 k (by decide) (by decide) (by decide)
        | some o =>
          obtain ⟨D', W', d', g', K', wt'⟩ := o
          rw [ho] at h
          obtain ⟨h1, h2, h3⟩ := h
          obtain ⟨k1, k2⟩ := stc_K ho hK
          refine pc_ite (fun e => absurd (h1.symm.trans e) (by decide)) (fun _ => ?_)
          unfold f_W_read_92
          refine pc_let (fun x15 e15 => ?_)
          have e : x15 = p + 1 := by omega
          rw [e]
          have l40 : D.length + W.length < 40 := by
            refine hc.2 ?_
            by_cases c9 : 0 ≤ r11
            · exact c9
            · exfalso
              have em : r11 = -2 := by
                rw [q2]
                unfold sL
                rw [if_neg (by omega), if_pos (by omega)]
                by_cases c4 : p < 40
                · have := hf p.toNat (by omega)
                  rw [q2] at c9
                  unfold sL at c9
                  rw [if_neg (by omega), if_pos (by omega), if_pos c4] at c9
                  omega
                · rw [if_neg c4]
              rw [em, stc_m2] at ho
              cases ho
          exact ih (by omega) (wx_tr hx h3) h2 (by omega) (by omega) k1
      cases wt with
      | true =>
        refine pc_ite (fun e => absurd e (by decide)) (fun _ => ?_)
        exact pc_call (tt_pc hs' hc.2 hc.1) (fun r16 u17 p => nx r16 u17 p)
      | false =>
        refine pc_ite (fun _ => ?_) (fun e => absurd rfl e)
        exact pc_call (tb_pc hK hs' hc.2 hc.1) (fun r13 u14 p => nx r13 u14 p)
theorem rd_pc {w : Wd} (hN : 0 ≤ w 1 1 ∧ w 1 1 ≤ 80) (hf : ∀ k : Nat, (k : Int) < w 1 1 → 0 ≤ w 2 k ∧ w 2 k ≤ 255) : PC (f_W_read w) (fun r u => (w 1 1 = 0 ∧ r = 0 ∧ u = st w 19 4 0) ∨ (w 1 1 ≠ 0 ∧ RDq w (cat (sL (w 1 1) (w 2)) (w 1 1) 0 [] [] 0 0 0 true) r u)) := by
  unfold f_W_read
  refine pc_ite (fun c => pc_lw (fun u18 e18 => pc_some (Or.inl ⟨c, rfl, e18⟩))) (fun c => ?_)
  refine pc_lw (fun u1 e1 => ?_)
  refine pc_lw (fun u2 e2 => ?_)
  refine pc_lw (fun u3 e3 => ?_)
  refine pc_lw (fun u4 e4 => ?_)
  refine pc_lw (fun u5 e5 => ?_)
  refine pc_lw (fun u6 e6 => ?_)
  have hx : WX w u6 := wx_st (wx_st (wx_st (wx_st (wx_st (wx_st (wx_r w) e1 (by omega)) e2 (by omega)) e3 (by omega)) e4 (by omega)) e5 (by omega)) e6 (by omega)
  have hs : WS u6 [] [] 0 0 0 true := by
    refine ⟨⟨⟨?_, rfl⟩, ⟨?_, rfl⟩, ⟨?_, ?_, ?_⟩, (fun x hx => by cases hx), by decide, by decide⟩, ?_, nb_0 _⟩
    · rw [e6, st_k (by decide), e5, st_k (by decide), e4, st_k (by decide), e3, st_k (by decide), e2, st_k (by decide), e1, st_eq]; rfl
    · rw [e6, st_k (by decide), e5, st_k (by decide), e4, st_k (by decide), e3, st_k (by decide), e2, st_eq]; rfl
    · rw [e6, st_k (by decide), e5, st_k (by decide), e4, st_k (by decide), e3, st_eq]
    · rw [e6, st_k (by decide), e5, st_eq]
    · rw [e6, st_eq]; rfl
    · rw [e6, st_k (by decide), e5, st_k (by decide), e4, st_eq]
  exact pc_w (rd_46 w hN rfl rfl hf FU ⟨by decide, hN.1⟩ hx hs (by decide) (by decide) (by decide)) (fun r u q => Or.inr ⟨c, q⟩)
/-! THE REFERENCE GOES DOWN THE RULE -/
def xw (x : Wd) (p f : Int) : Wd := st (st x 43 20 p) 43 21 f
theorem xw_self (x : Wd) : xw x (x 43 20) (x 43 21) = x := by
  unfold xw
  rw [st_self]
  exact st_self x 43 21
theorem xw_p (x : Wd) (p f : Int) : xw x p f 43 20 = p := by unfold xw; rw [st_k (by decide), st_eq]
theorem xw_f (x : Wd) (p f : Int) : xw x p f 43 21 = f := by unfold xw; rw [st_eq]
theorem xw_o (x : Wd) (p f : Int) {c k : Nat} (h : ¬ (c = 43 ∧ (k = 20 ∨ k = 21))) : xw x p f c k = x c k := by
  unfold xw st
  rw [if_neg (by omega), if_neg (by omega)]
theorem xw_sp (x : Wd) (p f p2 : Int) : st (xw x p f) 43 20 p2 = xw x p2 f := by
  funext c k
  unfold xw st
  by_cases h1 : c = 43 ∧ k = 20
  · rw [if_pos h1, if_neg (by omega), if_pos h1]
  · rw [if_neg h1, if_neg h1, if_neg h1]
theorem xw_sf (x : Wd) (p f f2 : Int) : st (xw x p f) 43 21 f2 = xw x p f2 := by
  funext c k
  unfold xw st
  by_cases h1 : c = 43 ∧ k = 21
  · rw [if_pos h1, if_pos h1]
  · rw [if_neg h1, if_neg h1, if_neg h1]
def hx (n : Int) (f : Nat → Int) (p : Int) : Int := if n ≤ p then -1 else if (40 : Int) ≤ p then -1 else f p.toNat
def RRX (n : Int) (f : Nat → Int) (x : Wd) : Prop := x 43 18 = n ∧ x 43 19 = 40 ∧ ((x 43 17 = 52 ∧ x 51 = f) ∨ (x 43 17 = 58 ∧ x 57 = f))
theorem hx_pc {n : Int} {f0 : Nat → Int} {x : Wd} (h : RRX n f0 x) (p f : Int) : PC (f_R_here (xw x p f)) (fun r u => u = xw x p f ∧ r = hx n f0 p) := by
  unfold f_R_here hx
  obtain ⟨h1, h2, h3⟩ := h
  rw [xw_p, xw_o x p f (c := 43) (k := 18) (by omega), xw_o x p f (c := 43) (k := 19) (by omega), xw_o x p f (c := 43) (k := 17) (by omega), h1, h2]
  refine pc_ite (fun c => ?_) (fun c => ?_)
  · rw [if_pos c]; exact pc_some ⟨rfl, rfl⟩
  · rw [if_neg c]
    refine pc_ite (fun c2 => ?_) (fun c2 => ?_)
    · rw [if_pos c2]; exact pc_some ⟨rfl, rfl⟩
    · rw [if_neg c2]
      rcases h3 with ⟨h3, h4⟩ | ⟨h3, h4⟩
      · rw [h3, xw_o x p f (c := 51) (by omega), h4]
        exact pc_ite (fun _ => pc_gd (fun _ => pc_some ⟨rfl, rfl⟩)) (fun h => absurd rfl h)
      · rw [h3, xw_o x p f (c := 57) (by omega), h4]
        refine pc_ite (fun h => absurd h (by decide)) (fun _ => ?_)
        exact pc_ite (fun _ => pc_gd (fun _ => pc_some ⟨rfl, rfl⟩)) (fun h => absurd rfl h)
theorem hx_lt {n : Int} {f0 : Nat → Int} {p : Int} (h : 0 ≤ hx n f0 p) : p < n ∧ p < 40 := by
  unfold hx at h
  by_cases h1 : n ≤ p
  · rw [if_pos h1] at h; omega
  · rw [if_neg h1] at h
    by_cases h2 : (40 : Int) ≤ p
    · rw [if_pos h2] at h; omega
    · omega
theorem px_pc {n : Int} {f0 : Nat → Int} {x : Wd} (h : RRX n f0 x) {p f c : Int} (hp : 0 ≤ p ∧ p ≤ 40) : PC (f_R_passes c (xw x p f)) (fun r u => (f = -1 ∧ hx n f0 p = c ∧ r = 1 ∧ u = xw x (p + 1) f) ∨ (¬ (f = -1 ∧ hx n f0 p = c) ∧ r = 0 ∧ u = xw x p f)) := by
  unfold f_R_passes
  rw [fine_e, jc_s, xw_f]
  have w1 := w32_sp (p + 1)
  by_cases hf : f = -1
  · rw [if_pos hf]
    refine pc_ite (fun e => absurd e (by decide)) (fun _ => ?_)
    refine pc_call (hx_pc h p f) (fun r3 u4 q => ?_)
    obtain ⟨q1, q2⟩ := q
    rw [q1, xw_p]
    refine pc_ite (fun c1 => ?_) (fun c1 => ?_)
    · refine pc_lw (fun u5 e5 => ?_)
      rw [xw_sp, show w32 (p + 1) = p + 1 by omega] at e5
      exact pc_some (Or.inl ⟨hf, q2.symm.trans c1, rfl, e5⟩)
    · exact pc_some (Or.inr ⟨fun h2 => c1 (q2.trans h2.2), rfl, rfl⟩)
  · rw [if_neg hf]
    exact pc_ite (fun _ => pc_some (Or.inr ⟨fun h2 => hf h2.1, rfl, rfl⟩)) (fun e => absurd rfl e)
theorem fx_pc {x : Wd} {p f v : Int} : PC (f_R_fault v (xw x p f)) (fun _ u => u = xw x p (if f = -1 then v else f)) := by
  refine pc_w (fl_pc (xw x p f) v) (fun r u q => ?_)
  rw [q, xw_f]
  by_cases h : f = -1
  · rw [if_pos h, if_pos h, xw_sf]
  · rw [if_neg h, if_neg h]
/-! what is to be done, reckoned -/
def opr (k a b : Int) : Int := if k = 60 then (if a < b then 1 else 0) else if k = 62 then (if b < a then 1 else 0) else if k = 61 then (if a = b then 1 else 0) else if k = 43 then w32 (a + b) else if k = 45 then w32 (a - b) else if k = 42 then w32 (a * b) else (if b = 0 then 0 else idiv a b)
def sgn (k : Int) : Int := w32 (-k)
def psh (env : Int → Int) (k : Int) : Int := if 0 < sgn k then env (sgn k) else w32 (-(sgn k))
def stp (env : Int → Int) (k : Int) : List Int → List Int
  | [] => [psh env k]
  | [a] => if sgn k = 256 then [w32 (-a)] else [psh env k, a]
  | b :: a :: t => if sgn k = 256 then w32 (-b) :: a :: t else if 0 < stg (sgn k) then opr (sgn k) a b :: t else if t.length + 2 < 40 then psh env k :: b :: a :: t else b :: a :: t
def rnr (env : Int → Int) : List Int → List Int → List Int
  | [], s => s
  | k :: c, s => stp env k (rnr env c s)
theorem rnr_app (env : Int → Int) : ∀ (c1 c2 s : List Int), rnr env (c1 ++ c2) s = rnr env c1 (rnr env c2 s) := by
  intro c1
  induction c1 with
  | nil => intro c2 s; rfl
  | cons k c1 ih => intro c2 s; show stp env k (rnr env (c1 ++ c2) s) = stp env k (rnr env c1 (rnr env c2 s)); rw [ih]
/-- so much comes of it, whatever lies below -/
def VAL (env : Int → Int) (c : List Int) (v : Int) : Prop := 1 ≤ c.length ∧ ∀ s : List Int, s.length + c.length ≤ 40 → rnr env c s = v :: s
theorem val_op {env : Int → Int} {c1 c2 : List Int} {v1 v2 k : Int} (h1 : VAL env c1 v1) (h2 : VAL env c2 v2) (hk : k = 60 ∨ k = 62 ∨ k = 61 ∨ k = 43 ∨ k = 45 ∨ k = 42 ∨ k = 47) : VAL env (-k :: (c2 ++ c1)) (opr k v1 v2) := by
  refine ⟨by simp, fun s hs => ?_⟩
  simp only [List.length_cons, List.length_append] at hs
  have hl := h1.1
  show stp env (-k) (rnr env (c2 ++ c1) s) = _
  rw [rnr_app, h1.2 s (by omega), h2.2 (v1 :: s) (by simp only [List.length_cons]; omega)]
  show (if sgn (-k) = 256 then _ else if 0 < stg (sgn (-k)) then _ else _) = _
  have st : 0 < stg k := by rcases hk with e | e | e | e | e | e | e <;> rw [e] <;> decide
  have e0 : sgn (-k) = k := by
    unfold sgn
    rw [show - -k = k by omega]
    exact w32_id (by omega)
  rw [e0, if_neg (by omega), if_pos st]
theorem val_neg {env : Int → Int} {c : List Int} {v : Int} (h : VAL env c v) : VAL env (-256 :: c) (w32 (-v)) := by
  refine ⟨by simp, fun s hs => ?_⟩
  simp only [List.length_cons] at hs
  show stp env (-256) (rnr env c s) = _
  rw [h.2 s (by omega)]
  cases s with
  | nil => rfl
  | cons a t => rfl
theorem val_push {env : Int → Int} {k : Int} (hr : -2000 ≤ k ∧ k ≤ 2000) (hk : ¬ k = -256) (hs : ¬ 0 < stg (-k)) : VAL env [k] (if 0 ≤ k then k else env (-k)) := by
  have e0 : sgn k = -k := by
    unfold sgn
    exact w32_id (by omega)
  have e1 : psh env k = if 0 ≤ k then k else env (-k) := by
    unfold psh
    rw [e0]
    by_cases c : 0 ≤ k
    · rw [if_pos c, if_neg (by omega), show - -k = k by omega]; exact w32_id (by omega)
    · rw [if_neg c, if_pos (by omega)]
  refine ⟨by simp, fun s hl => ?_⟩
  simp only [List.length_cons, List.length_nil] at hl
  rw [← e1]
  show stp env k s = _
  match s with
  | [] => rfl
  | [a] => show (if sgn k = 256 then _ else _) = _; rw [e0, if_neg (by omega)]
  | b :: a :: t =>
    simp only [List.length_cons] at hl
    show (if sgn k = 256 then _ else if 0 < stg (sgn k) then _ else if t.length + 2 < 40 then _ else _) = _
    rw [e0, if_neg (by omega), if_neg hs, if_pos (by omega)]
