theorem stc_m2 (D W : List Int) (d g K : Int) (wt : Bool) : stc (-2) D W d g K wt = none := by
  unfold stc
  cases wt with
  | true => rw [if_pos rfl, if_neg (by decide), if_neg (fun h => absurd h.1 (by decide)), if_neg (by decide), if_neg (by decide)]
  | false => rw [if_neg (by decide), if_neg (by decide), if_neg (fun h => absurd h.1 (by decide)), if_pos (Or.inl (by decide))]
theorem stc_K {c : Int} {D W : List Int} {d g K : Int} {wt : Bool} {D' W' : List Int} {d' g' K' : Int} {wt' : Bool} (h : stc c D W d g K wt = some (D', W', d', g', K', wt')) (hK : -2147483648 ≤ K ∧ K ≤ 2147483647) : (-2147483648 ≤ K' ∧ K' ≤ 2147483647) ∧ D'.length + W'.length ≤ D.length + W.length + 1 := by
  unfold stc at h
  have l1 := rel_len 1 W D
  have l2 := rel_len (stg c) W D
  have lt : (rel 1 D W).2.tail.length ≤ (rel 1 D W).2.length := by rw [List.length_tail]; omega
  by_cases c0 : wt = true
  · rw [if_pos c0] at h
    by_cases c1 : c = 45
    · rw [if_pos c1] at h; cases h; exact ⟨hK, by simp only [List.length_cons]; omega⟩
    · rw [if_neg c1] at h
      by_cases c2 : c = 40 ∧ d < 4
      · rw [if_pos c2] at h; cases h; exact ⟨iand_rg _ _, by simp only [List.length_cons]; omega⟩
      · rw [if_neg c2] at h
        by_cases c3 : 48 ≤ c ∧ c ≤ 57
        · rw [if_pos c3] at h; cases h; exact ⟨hK, by simp only [List.length_cons]; omega⟩
        · rw [if_neg c3] at h
          by_cases c4 : c = 105 ∨ c = 112 ∨ c = 107 ∨ c = 115 ∨ c = 103 ∨ c = 108 ∨ c = 110 ∨ c = 119
          · rw [if_pos c4] at h; cases h; exact ⟨hK, by simp only [List.length_cons]; omega⟩
          · rw [if_neg c4] at h; cases h
  · rw [if_neg c0] at h
    by_cases c1 : 48 ≤ c ∧ c ≤ 57
    · rw [if_pos c1] at h
      by_cases c2 : g = 0 ∨ g = 3
      · rw [if_pos c2] at h; cases h
      · rw [if_neg c2] at h
        cases D with
        | nil => cases h
        | cons x D => cases h; exact ⟨hK, by simp only [List.length_cons]; omega⟩
    · rw [if_neg c1] at h
      by_cases c2 : c = 41 ∧ 0 < d
      · rw [if_pos c2] at h; cases h; exact ⟨hK, by omega⟩
      · rw [if_neg c2] at h
        by_cases c3 : stg c = 0 ∨ (stg c = 1 ∧ bt K d.toNat = true)
        · rw [if_pos c3] at h; cases h
        · rw [if_neg c3] at h
          cases h
          refine ⟨?_, by simp only [List.length_cons]; omega⟩
          by_cases c4 : stg c = 1
          · rw [if_pos c4]; exact ior_rg _ _
          · rw [if_neg c4]; exact hK
def sL (n : Int) (f : Nat → Int) (p : Int) : Int := if p < 0 then -1 else if p < n then (if p < 40 then f p.toNat else -2) else -1
theorem sl_pc {w : Wd} (p : Int) : PC (f_T_signAt p 40 w) (fun r u => u = w ∧ r = sL (w 1 1) (w 2) p) := by
  unfold f_T_signAt sL
  refine pc_ite (fun h => ?_) (fun h => ?_)
  · rw [if_pos h]; exact pc_some ⟨rfl, rfl⟩
  · rw [if_neg h]
    refine pc_ite (fun h1 => ?_) (fun h1 => ?_)
    · rw [if_pos h1]
      refine pc_ite (fun h2 => ?_) (fun h2 => ?_)
      · rw [if_pos h2]; exact pc_gd (fun _ => pc_some ⟨rfl, rfl⟩)
      · rw [if_neg h2]; exact pc_some ⟨rfl, rfl⟩
    · rw [if_neg h1]; exact pc_some ⟨rfl, rfl⟩
/-- what reading the rule does to the class -/
def RDq (x : Wd) (R : Bool × Int × List Int) (r : Int) (u : Wd) : Prop := (∀ c, c ≠ 19 → c ≠ 20 → c ≠ 21 → c ≠ 22 → u c = x c) ∧ (R.1 = true → r = 0 ∧ u 19 4 = (R.2.2.length : Int) ∧ SR (u 20) R.2.2) ∧ (R.1 = false → r = -1 - R.2.1 ∧ u 19 4 = x 19 4 ∧ u 20 = x 20)
theorem wx_row {x w : Wd} (h : WX x w) : ∀ c, c ≠ 19 → c ≠ 20 → c ≠ 21 → c ≠ 22 → w c = x c := fun c h1 _ h3 h4 => funext fun k => h.1 c k h1 h3 h4
theorem rd_46 {N : Int} {f0 : Nat → Int} (x : Wd) (hN : 0 ≤ N ∧ N ≤ 80) (h11 : x 1 1 = N) (h2 : x 2 = f0) (hf : ∀ k : Nat, (k : Int) < N → 0 ≤ f0 k ∧ f0 k ≤ 255) : ∀ (n : Nat) {w : Wd} {p : Int} {D W : List Int} {d g K : Int} {wt : Bool}, (0 ≤ p ∧ p ≤ N) → WX x w → WS w D W d g K wt → ((D.length + W.length : Nat) : Int) ≤ p → D.length + W.length ≤ 40 → (-2147483648 ≤ K ∧ K ≤ 2147483647) → PC (f_W_read_46 n p w) (fun r u => RDq x (cat (sL N f0) N p D W d g K wt) r u) := by
  intro n
  induction n with
  | zero => intros; exact pc_none
  | succ n ih =>
    intro w p D W d g K wt hp hx hs hl hl40 hK
    rw [f_W_read_46]
    have y11 : w 1 1 = N := (hx.1 1 1 (by decide) (by decide) (by decide)).trans h11
    have y2 : w 2 = f0 := (funext fun k => hx.1 2 k (by decide) (by decide) (by decide)).trans h2
    have hs' := hs
    obtain ⟨⟨⟨a1, a2⟩, ⟨a3, a4⟩, ⟨a5, a7, a8⟩, a9, a10⟩, a6, anb⟩ := hs
    rw [y11]
    refine pc_ite (fun c => ?_) (fun c => ?_)
    · have e : p = N := by omega
      subst e
      rw [cat_n]
      have k112 : (wt = true ∨ 0 < d) → PC (f_W_read_112 w) (fun r u => RDq x (if wt = true ∨ 0 < d then (false, p, []) else (true, p, (rel 1 D W).1)) r u) := by
        intro h
        rw [if_pos h]
        unfold f_W_read_112
        have w1 := w32_sp (-1 - w 1 1)
        refine pc_some ⟨wx_row hx, (fun e => by cases e), fun _ => ⟨?_, hx.2 4 (by decide), ?_⟩⟩
        · show w32 (-1 - w 1 1) = -1 - p
          omega
        · exact funext fun k => hx.1 20 k (by decide) (by decide) (by decide)
      rw [a8]
      cases wt with
      | true => exact pc_ite (fun e => absurd e (by decide)) (fun _ => k112 (Or.inl rfl))
      | false =>
        refine pc_ite (fun _ => ?_) (fun e => absurd rfl e)
        rw [a5]
        refine pc_ite (fun c2 => ?_) (fun c2 => k112 (Or.inr (by omega)))
        rw [if_neg (fun h => h.elim (fun h => by cases h) (fun h => by omega))]
        refine pc_call (rel_pc (v := 1) hs'.1 hl40) (fun r7 u8 q => ?_)
        obtain ⟨⟨⟨b1, b2⟩, _⟩, q2, _⟩ := q
        have x8 := wx_tr hx q2
        refine pc_gd (fun _ => ?_)
        refine pc_lw (fun u9 e9 => ?_)
        refine pc_lw (fun u10 e10 => pc_some ⟨fun c h19 h20 h21 h22 => ?_, fun _ => ⟨rfl, ?_, ?_⟩, (fun e => by cases e)⟩)
        · rw [e10, st_row h19, e9]
          funext k
          unfold cpy
          rw [if_neg (fun e => h20 e.1)]
          exact x8.1 c k h19 h21 h22
        · have y : u9 19 5 = u8 19 5 := by rw [e9]; unfold cpy; rw [if_neg (fun e => absurd e.1 (by decide))]
          rw [e10, st_eq, y]; exact b1
        · show SR (u10 20) (rel 1 D W).1
          unfold SR at b2 ⊢
          rw [b2.trans (pre_eq (g := u10 20) (fun i hi => ?_)), pre_len]
          rw [e10, st_c (by decide), e9]
          unfold cpy
          rw [b1, if_pos ⟨rfl, by simp, by simp; omega⟩]
          simp
    · refine pc_call (sl_pc p) (fun r11 u12 q => ?_)
      obtain ⟨q1, q2⟩ := q
      rw [y11, y2] at q2
      rw [q1, cat_s (by omega), a8]
      have hc : (-2 ≤ r11 ∧ r11 ≤ 255) ∧ (0 ≤ r11 → D.length + W.length < 40) := by
        rw [q2]
        unfold sL
        rw [if_neg (by omega), if_pos (by omega)]
        by_cases c4 : p < 40
        · rw [if_pos c4]
          have := hf p.toNat (by omega)
          exact ⟨by omega, fun _ => by omega⟩
        · rw [if_neg c4]
          exact ⟨by decide, fun h => absurd h (by decide)⟩
      rw [← q2]
      have w1 := w32_sp (-1 - p)
      have w2 := w32_sp (p + 1)
      have nx : ∀ (r : Int) (u : Wd), stO (stc r11 D W d g K wt) w r u → PC (if r = 0 then f_W_read_88 p u else f_W_read_92 (f_W_read_46 n) p u) (fun r u => RDq x (match stc r11 D W d g K wt with
          | none => (false, p, [])
          | some (D', W', d', g', K', wt') => cat (sL N f0) N (p + 1) D' W' d' g' K' wt') r u) := by
        intro r u h
        cases ho : stc r11 D W d g K wt with
        | none =>
          rw [ho] at h
          obtain ⟨h1, h2⟩ := h
          have hx2 := wx_tr hx h2
          refine pc_ite (fun _ => ?_) (fun e => absurd h1 e)
          unfold f_W_read_88
          refine pc_some ⟨wx_row hx2, (fun e => by cases e), fun _ => ⟨?_, hx2.2 4 (by decide), ?_⟩⟩
          · show w32 (-1 - p) = -1 - p
            omega
          · exact funext fun k => hx2.1 20 k (by decide) (by decide) (by decide)
        | some o =>
          obtain ⟨D', W', d', g', K', wt'⟩ := o
          rw [ho] at h
          obtain ⟨h1, h2, h3⟩ := h
          obtain ⟨k1, k2⟩ := stc_K ho hK
          refine pc_ite (fun e => absurd (h1.symm.trans e) (by decide)) (fun _ => ?_)
          unfold f_W_read_92
          refine pc_let (fun x15 e15 => ?_)
          have e : x15 = p + 1 := by omega
          rw [e]
          have l40 : D.length + W.length < 40 := by
            refine hc.2 ?_
            by_cases c9 : 0 ≤ r11
            · exact c9
            · exfalso
              have em : r11 = -2 := by
                rw [q2]
                unfold sL
                rw [if_neg (by omega), if_pos (by omega)]
                by_cases c4 : p < 40
                · have := hf p.toNat (by omega)
                  rw [q2] at c9
                  unfold sL at c9
                  rw [if_neg (by omega), if_pos (by omega), if_pos c4] at c9
                  omega
                · rw [if_neg c4]
              rw [em, stc_m2] at ho
              cases ho
          exact ih (by omega) (wx_tr hx h3) h2 (by omega) (by omega) k1
      cases wt with
      | true =>
        refine pc_ite (fun e => absurd e (by decide)) (fun _ => ?_)
        exact pc_call (tt_pc hs' hc.2 hc.1) (fun r16 u17 p => nx r16 u17 p)
      | false =>
        refine pc_ite (fun _ => ?_) (fun e => absurd rfl e)
        exact pc_call (tb_pc hK hs' hc.2 hc.1) (fun r13 u14 p => nx r13 u14 p)
theorem rd_pc {w : Wd} (hN : 0 ≤ w 1 1 ∧ w 1 1 ≤ 80) (hf : ∀ k : Nat, (k : Int) < w 1 1 → 0 ≤ w 2 k ∧ w 2 k ≤ 255) : PC (f_W_read w) (fun r u => (w 1 1 = 0 ∧ r = 0 ∧ u = st w 19 4 0) ∨ (w 1 1 ≠ 0 ∧ RDq w (cat (sL (w 1 1) (w 2)) (w 1 1) 0 [] [] 0 0 0 true) r u)) := by
  unfold f_W_read
  refine pc_ite (fun c => pc_lw (fun u18 e18 => pc_some (Or.inl ⟨c, rfl, e18⟩))) (fun c => ?_)
  refine pc_lw (fun u1 e1 => ?_)
  refine pc_lw (fun u2 e2 => ?_)
  refine pc_lw (fun u3 e3 => ?_)
  refine pc_lw (fun u4 e4 => ?_)
  refine pc_lw (fun u5 e5 => ?_)
  refine pc_lw (fun u6 e6 => ?_)
  have hx : WX w u6 := wx_st (wx_st (wx_st (wx_st (wx_st (wx_st (wx_r w) e1 (by omega)) e2 (by omega)) e3 (by omega)) e4 (by omega)) e5 (by omega)) e6 (by omega)
  have hs : WS u6 [] [] 0 0 0 true := by
    refine ⟨⟨⟨?_, rfl⟩, ⟨?_, rfl⟩, ⟨?_, ?_, ?_⟩, (fun x hx => by cases hx), by decide, by decide⟩, ?_, nb_0 _⟩
    · rw [e6, st_k (by decide), e5, st_k (by decide), e4, st_k (by decide), e3, st_k (by decide), e2, st_k (by decide), e1, st_eq]; rfl
    · rw [e6, st_k (by decide), e5, st_k (by decide), e4, st_k (by decide), e3, st_k (by decide), e2, st_eq]; rfl
    · rw [e6, st_k (by decide), e5, st_k (by decide), e4, st_k (by decide), e3, st_eq]
    · rw [e6, st_k (by decide), e5, st_eq]
    · rw [e6, st_eq]; rfl
    · rw [e6, st_k (by decide), e5, st_k (by decide), e4, st_eq]
  exact pc_w (rd_46 w hN rfl rfl hf FU ⟨by decide, hN.1⟩ hx hs (by decide) (by decide) (by decide)) (fun r u q => Or.inr ⟨c, q⟩)
/-! THE REFERENCE GOES DOWN THE RULE -/
def xw (x : Wd) (p f : Int) : Wd := st (st x 43 20 p) 43 21 f
theorem xw_self (x : Wd) : xw x (x 43 20) (x 43 21) = x := by
  unfold xw
  rw [st_self]
  exact st_self x 43 21
theorem xw_p (x : Wd) (p f : Int) : xw x p f 43 20 = p := by unfold xw; rw [st_k (by decide), st_eq]
theorem xw_f (x : Wd) (p f : Int) : xw x p f 43 21 = f := by unfold xw; rw [st_eq]
theorem xw_o (x : Wd) (p f : Int) {c k : Nat} (h : ¬ (c = 43 ∧ (k = 20 ∨ k = 21))) : xw x p f c k = x c k := by
  unfold xw st
  rw [if_neg (by omega), if_neg (by omega)]
theorem xw_sp (x : Wd) (p f p2 : Int) : st (xw x p f) 43 20 p2 = xw x p2 f := by
  funext c k
  unfold xw st
  by_cases h1 : c = 43 ∧ k = 20
  · rw [if_pos h1, if_neg (by omega), if_pos h1]
  · rw [if_neg h1, if_neg h1, if_neg h1]
theorem xw_sf (x : Wd) (p f f2 : Int) : st (xw x p f) 43 21 f2 = xw x p f2 := by
  funext c k
  unfold xw st
  by_cases h1 : c = 43 ∧ k = 21
  · rw [if_pos h1, if_pos h1]
  · rw [if_neg h1, if_neg h1, if_neg h1]
def hx (n : Int) (f : Nat → Int) (p : Int) : Int := if n ≤ p then -1 else if (40 : Int) ≤ p then -1 else f p.toNat
def RRX (n : Int) (f : Nat → Int) (x : Wd) : Prop := x 43 18 = n ∧ x 43 19 = 40 ∧ ((x 43 17 = 52 ∧ x 51 = f) ∨ (x 43 17 = 58 ∧ x 57 = f))
theorem hx_pc {n : Int} {f0 : Nat → Int} {x : Wd} (h : RRX n f0 x) (p f : Int) : PC (f_R_here (xw x p f)) (fun r u => u = xw x p f ∧ r = hx n f0 p) := by
  unfold f_R_here hx
  obtain ⟨h1, h2, h3⟩ := h
  rw [xw_p, xw_o x p f (c := 43) (k := 18) (by omega), xw_o x p f (c := 43) (k := 19) (by omega), xw_o x p f (c := 43) (k := 17) (by omega), h1, h2]
  refine pc_ite (fun c => ?_) (fun c => ?_)
  · rw [if_pos c]; exact pc_some ⟨rfl, rfl⟩
  · rw [if_neg c]
    refine pc_ite (fun c2 => ?_) (fun c2 => ?_)
    · rw [if_pos c2]; exact pc_some ⟨rfl, rfl⟩
    · rw [if_neg c2]
      rcases h3 with ⟨h3, h4⟩ | ⟨h3, h4⟩
      · rw [h3, xw_o x p f (c := 51) (by omega), h4]
        exact pc_ite (fun _ => pc_gd (fun _ => pc_some ⟨rfl, rfl⟩)) (fun h => absurd rfl h)
      · rw [h3, xw_o x p f (c := 57) (by omega), h4]
        refine pc_ite (fun h => absurd h (by decide)) (fun _ => ?_)
        exact pc_ite (fun _ => pc_gd (fun _ => pc_some ⟨rfl, rfl⟩)) (fun h => absurd rfl h)
theorem hx_lt {n : Int} {f0 : Nat → Int} {p : Int} (h : 0 ≤ hx n f0 p) : p < n ∧ p < 40 := by
  unfold hx at h
  by_cases h1 : n ≤ p
  · rw [if_pos h1] at h; omega
  · rw [if_neg h1] at h
    by_cases h2 : (40 : Int) ≤ p
    · rw [if_pos h2] at h; omega
    · omega
theorem px_pc {n : Int} {f0 : Nat → Int} {x : Wd} (h : RRX n f0 x) {p f c : Int} (hp : 0 ≤ p ∧ p ≤ 40) : PC (f_R_passes c (xw x p f)) (fun r u => (f = -1 ∧ hx n f0 p = c ∧ r = 1 ∧ u = xw x (p + 1) f) ∨ (¬ (f = -1 ∧ hx n f0 p = c) ∧ r = 0 ∧ u = xw x p f)) := by
  unfold f_R_passes
  rw [fine_e, jc_s, xw_f]
  have w1 := w32_sp (p + 1)
  by_cases hf : f = -1
  · rw [if_pos hf]
    refine pc_ite (fun e => absurd e (by decide)) (fun _ => ?_)
    refine pc_call (hx_pc h p f) (fun r3 u4 q => ?_)
    obtain ⟨q1, q2⟩ := q
    rw [q1, xw_p]
    refine pc_ite (fun c1 => ?_) (fun c1 => ?_)
    · refine pc_lw (fun u5 e5 => ?_)
      rw [xw_sp, show w32 (p + 1) = p + 1 by omega] at e5
      exact pc_some (Or.inl ⟨hf, q2.symm.trans c1, rfl, e5⟩)
    · exact pc_some (Or.inr ⟨fun h2 => c1 (q2.trans h2.2), rfl, rfl⟩)
  · rw [if_neg hf]
    exact pc_ite (fun _ => pc_some (Or.inr ⟨fun h2 => hf h2.1, rfl, rfl⟩)) (fun e => absurd rfl e)
theorem fx_pc {x : Wd} {p f v : Int} : PC (f_R_fault v (xw x p f)) (fun _ u => u = xw x p (if f = -1 then v else f)) := by
  refine pc_w (fl_pc (xw x p f) v) (fun r u q => ?_)
  rw [q, xw_f]
  by_cases h : f = -1
  · rw [if_pos h, if_pos h, xw_sf]
  · rw [if_neg h, if_neg h]
/-! what is to be done, reckoned -/
def opr (k a b : Int) : Int := if k = 60 then (if a < b then 1 else 0) else if k = 62 then (if b < a then 1 else 0) else if k = 61 then (if a = b then 1 else 0) else if k = 43 then w32 (a + b) else if k = 45 then w32 (a - b) else if k = 42 then w32 (a * b) else (if b = 0 then 0 else idiv a b)
def sgn (k : Int) : Int := w32 (-k)
def psh (env : Int → Int) (k : Int) : Int := if 0 < sgn k then env (sgn k) else w32 (-(sgn k))
def stp (env : Int → Int) (k : Int) : List Int → List Int
  | [] => [psh env k]
  | [a] => if sgn k = 256 then [w32 (-a)] else [psh env k, a]
  | b :: a :: t => if sgn k = 256 then w32 (-b) :: a :: t else if 0 < stg (sgn k) then opr (sgn k) a b :: t else if t.length + 2 < 40 then psh env k :: b :: a :: t else b :: a :: t
def rnr (env : Int → Int) : List Int → List Int → List Int
  | [], s => s
  | k :: c, s => stp env k (rnr env c s)
theorem rnr_app (env : Int → Int) : ∀ (c1 c2 s : List Int), rnr env (c1 ++ c2) s = rnr env c1 (rnr env c2 s) := by
  intro c1
  induction c1 with
  | nil => intro c2 s; rfl
  | cons k c1 ih => intro c2 s; show stp env k (rnr env (c1 ++ c2) s) = stp env k (rnr env c1 (rnr env c2 s)); rw [ih]
/-- so much comes of it, whatever lies below -/
def VAL (env : Int → Int) (c : List Int) (v : Int) : Prop := 1 ≤ c.length ∧ ∀ s : List Int, s.length + c.length ≤ 40 → rnr env c s = v :: s
theorem val_op {env : Int → Int} {c1 c2 : List Int} {v1 v2 k : Int} (h1 : VAL env c1 v1) (h2 : VAL env c2 v2) (hk : k = 60 ∨ k = 62 ∨ k = 61 ∨ k = 43 ∨ k = 45 ∨ k = 42 ∨ k = 47) : VAL env (-k :: (c2 ++ c1)) (opr k v1 v2) := by
  refine ⟨by simp, fun s hs => ?_⟩
  simp only [List.length_cons, List.length_append] at hs
  have hl := h1.1
  show stp env (-k) (rnr env (c2 ++ c1) s) = _
  rw [rnr_app, h1.2 s (by omega), h2.2 (v1 :: s) (by simp only [List.length_cons]; omega)]
  show (if sgn (-k) = 256 then _ else if 0 < stg (sgn (-k)) then _ else _) = _
  have st : 0 < stg k := by rcases hk with e | e | e | e | e | e | e <;> rw [e] <;> decide
  have e0 : sgn (-k) = k := by
    unfold sgn
    rw [show - -k = k by omega]
    exact w32_id (by omega)
  rw [e0, if_neg (by omega), if_pos st]
theorem val_neg {env : Int → Int} {c : List Int} {v : Int} (h : VAL env c v) : VAL env (-256 :: c) (w32 (-v)) := by
  refine ⟨by simp, fun s hs => ?_⟩
  simp only [List.length_cons] at hs
  show stp env (-256) (rnr env c s) = _
  rw [h.2 s (by omega)]
  cases s with
  | nil => rfl
  | cons a t => rfl
theorem val_push {env : Int → Int} {k : Int} (hr : -2000 ≤ k ∧ k ≤ 2000) (hk : ¬ k = -256) (hs : ¬ 0 < stg (-k)) : VAL env [k] (if 0 ≤ k then k else env (-k)) := by
  have e0 : sgn k = -k := by
    unfold sgn
    exact w32_id (by omega)
  have e1 : psh env k = if 0 ≤ k then k else env (-k) := by
    unfold psh
    rw [e0]
    by_cases c : 0 ≤ k
    · rw [if_pos c, if_neg (by omega), show - -k = k by omega]; exact w32_id (by omega)
    · rw [if_neg c, if_pos (by omega)]
  refine ⟨by simp, fun s hl => ?_⟩
  simp only [List.length_cons, List.length_nil] at hl
  rw [← e1]
  show stp env k s = _
  match s with
  | [] => rfl
  | [a] => show (if sgn k = 256 then _ else _) = _; rw [e0, if_neg (by omega)]
  | b :: a :: t =>
    simp only [List.length_cons] at hl
    show (if sgn k = 256 then _ else if 0 < stg (sgn k) then _ else if t.length + 2 < 40 then _ else _) = _
    rw [e0, if_neg (by omega), if_neg hs, if_pos (by omega)]
def GO (x : Wd) (env : Int → Int) (p : Int) (o : Par) (r : Int) (u : Wd) : Prop := match o with
  | none => False
  | some (true, q, c) => u = xw x q (-1) ∧ VAL env c r ∧ p < q ∧ q ≤ 40
  | some (false, q, _) => u = xw x q q ∧ 0 ≤ q ∧ q ≤ 40
def LTR (c : Int) : Prop := c = 105 ∨ c = 112 ∨ c = 107 ∨ c = 115 ∨ c = 103 ∨ c = 108 ∨ c = 110 ∨ c = 119
def EL (env : Int → Int) (x : Wd) : Prop := (x 43 28 = -1 ∧ ∀ c, env c = 0) ∨ (x 43 28 ≠ -1 ∧ ∀ c p, LTR c → PC (f_R_letter c (xw x p (-1))) (fun r u => u = xw x p (-1) ∧ r = env c))
theorem go_f {x : Wd} {env : Int → Int} {p q : Int} {l : List Int} {r : Int} (hq : 0 ≤ q ∧ q ≤ 40) : GO x env p (some (false, q, l)) r (xw x q q) := ⟨rfl, hq⟩
/-- digits: as many as three -/
theorem num_pc {n : Int} {f0 : Nat → Int} {x : Wd} (hr : RRX n f0 x) (rec : Nat → Int → Wd → Option (Int × Wd)) (env : Int → Int) {p : Int} (hp : 0 ≤ p ∧ p ≤ 40) (hd : 48 ≤ hx n f0 p ∧ hx n f0 p ≤ 57) : ∀ m : Nat, PC (f_R_thing_94 rec m 0 0 (xw x p (-1))) (fun r u => GO x env p (some (true, (pnm (hx n f0) p).1, [(pnm (hx n f0) p).2])) r u) := by
  have vp : ∀ v : Int, 0 ≤ v ∧ v ≤ 999 → VAL env [v] v := fun v hv => by
    have := val_push (env := env) (k := v) (by omega) (by omega) (by
      have : stg (-v) = 0 := by
        unfold stg
        rw [if_neg (by omega), if_neg (by omega), if_neg (by omega), if_neg (by omega), if_neg (by omega), if_neg (by omega), if_neg (by omega), if_neg (by omega)]
      omega)
    rw [if_pos hv.1] at this
    exact this
  have stop : ∀ (m : Nat) (v v4 q : Int), (3 ≤ v4 ∨ ¬ (48 ≤ hx n f0 q ∧ hx n f0 q ≤ 57)) → PC (f_R_thing_94 rec m v v4 (xw x q (-1))) (fun r u => r = v ∧ u = xw x q (-1)) := by
    intro m v v4 q h
    cases m with
    | zero => exact pc_none
    | succ m =>
      rw [f_R_thing_94]
      refine pc_ite (fun _ => pc_some ⟨rfl, rfl⟩) (fun c => ?_)
      have h2 := h.resolve_left c
      refine pc_call (hx_pc hr q (-1)) (fun r u y => ?_)
      rw [y.1, y.2, in_e, jc_s, if_neg h2]
      exact pc_ite (fun _ => pc_some ⟨rfl, rfl⟩) (fun e => absurd rfl e)
  have go1 : ∀ (m : Nat) (v v4 q : Int) (Q : Int → Wd → Prop), ¬ 3 ≤ v4 → 0 ≤ v4 → (0 ≤ v ∧ v ≤ 99) → (0 ≤ q ∧ q ≤ 40) → (48 ≤ hx n f0 q ∧ hx n f0 q ≤ 57) → (∀ m2, PC (f_R_thing_94 rec m2 (10 * v + (hx n f0 q - 48)) (v4 + 1) (xw x (q + 1) (-1))) Q) → PC (f_R_thing_94 rec m v v4 (xw x q (-1))) Q := by
    intro m v v4 q Q h4 h0 hv hq hd hn
    cases m with
    | zero => exact pc_none
    | succ m =>
      rw [f_R_thing_94]
      refine pc_ite (fun c => absurd c h4) (fun c => ?_)
      refine pc_call (hx_pc hr q (-1)) (fun r u y => ?_)
      rw [y.1, y.2, in_e, jc_s, if_pos hd]
      refine pc_ite (fun e => absurd e (by decide)) (fun _ => ?_)
      refine pc_call (hx_pc hr q (-1)) (fun r2 u2 y2 => ?_)
      rw [y2.1, y2.2, xw_p]
      have w1 := w32_sp (10 * v)
      have w2 := w32_sp (w32 (10 * v) + hx n f0 q)
      have w3 := w32_sp (w32 (w32 (10 * v) + hx n f0 q) - 48)
      have w4 := w32_sp (q + 1)
      have w5 := w32_sp (v4 + 1)
      refine pc_let (fun x20 e20 => ?_)
      refine pc_lw (fun u21 e21 => ?_)
      refine pc_let (fun x22 e22 => ?_)
      rw [xw_sp, show w32 (q + 1) = q + 1 by omega] at e21
      have e1 : x20 = 10 * v + (hx n f0 q - 48) := by omega
      have e2 : x22 = v4 + 1 := by omega
      rw [e1, e2, e21]
      exact hn m
  intro m
  have l0 := hx_lt (n := n) (f0 := f0) (p := p) (by omega)
  refine go1 m 0 0 p _ (by decide) (by decide) (by decide) hp hd (fun m2 => ?_)
  have e1 : 10 * 0 + (hx n f0 p - 48) = hx n f0 p - 48 := by omega
  rw [e1]
  unfold pnm
  by_cases c1 : 48 ≤ hx n f0 (p + 1) ∧ hx n f0 (p + 1) ≤ 57
  · rw [if_pos c1]
    have l1 := hx_lt (n := n) (f0 := f0) (p := p + 1) (by omega)
    refine go1 m2 _ (0 + 1) (p + 1) _ (by decide) (by decide) (by omega) (by omega) c1 (fun m3 => ?_)
    rw [show p + 1 + 1 = p + 2 by omega]
    by_cases c2 : 48 ≤ hx n f0 (p + 2) ∧ hx n f0 (p + 2) ≤ 57
    · rw [if_pos c2]
      have l2 := hx_lt (n := n) (f0 := f0) (p := p + 2) (by omega)
      refine go1 m3 _ (0 + 1 + 1) (p + 2) _ (by decide) (by decide) (by omega) (by omega) c2 (fun m4 => ?_)
      rw [show p + 2 + 1 = p + 3 by omega]
      refine pc_w (stop m4 _ _ _ (Or.inl (by decide))) (fun r u y => ⟨y.2, ?_, by show p < p + 3; omega, by show p + 3 ≤ 40; omega⟩)
      rw [y.1]; exact vp _ (by omega)
    · rw [if_neg c2]
      refine pc_w (stop m3 _ _ _ (Or.inr c2)) (fun r u y => ⟨y.2, ?_, by show p < p + 2; omega, by show p + 2 ≤ 40; omega⟩)
      rw [y.1]; exact vp _ (by omega)
  · rw [if_neg c1]
    refine pc_w (stop m2 _ _ _ (Or.inr c1)) (fun r u y => ⟨y.2, ?_, by show p < p + 1; omega, by show p + 1 ≤ 40; omega⟩)
    rw [y.1]; exact vp _ (by omega)
theorem xw_nf {x : Wd} {q : Int} (hq : 0 ≤ q) : ¬ xw x q q 43 21 = -1 := by rw [xw_f]; omega
/-- a thing -/
theorem thg_pc {n : Int} {f0 : Nat → Int} {x : Wd} {env : Int → Int} (hr : RRX n f0 x) (hE : EL env x) {rec : Nat → Int → Wd → Option (Int × Wd)} {v : Int} (hv : 0 ≤ v ∧ v ≤ 4) {rT rH : Int → Par} (hT : ∀ p, 0 ≤ p → p ≤ 40 → PC (rec 3 v (xw x p (-1))) (fun r u => GO x env p (rT p) r u)) (hH : v < 4 → ∀ p, 0 ≤ p → p ≤ 40 → PC (rec 0 (v + 1) (xw x p (-1))) (fun r u => GO x env p (rH p) r u)) {p : Int} (hp : 0 ≤ p ∧ p ≤ 40) : PC (f_R_thing_b rec v (xw x p (-1))) (fun r u => GO x env p (pth (hx n f0) rT rH v p) r u) := by
  unfold f_R_thing_b pth
  have k78 : ¬ hx n f0 p = 45 → ¬ (hx n f0 p = 40 ∧ v < 4) → PC (f_R_thing_78 rec (hx n f0 p) (xw x p (-1))) (fun r u => GO x env p (if 48 ≤ hx n f0 p ∧ hx n f0 p ≤ 57 then some (true, (pnm (hx n f0) p).1, [(pnm (hx n f0) p).2]) else if hx n f0 p = 105 ∨ hx n f0 p = 112 ∨ hx n f0 p = 107 ∨ hx n f0 p = 115 ∨ hx n f0 p = 103 ∨ hx n f0 p = 108 ∨ hx n f0 p = 110 ∨ hx n f0 p = 119 then some (true, p + 1, [-(hx n f0 p)]) else some (false, p, [])) r u) := by
    intro n45 n40
    unfold f_R_thing_78
    rw [in_e, jc_s]
    by_cases cd : 48 ≤ hx n f0 p ∧ hx n f0 p ≤ 57
    · rw [if_pos cd, if_pos cd]
      refine pc_ite (fun e => absurd e (by decide)) (fun _ => ?_)
      exact num_pc hr rec env hp cd FU
    · rw [if_neg cd, if_neg cd]
      refine pc_ite (fun _ => ?_) (fun e => absurd rfl e)
      have l203 : LTR (hx n f0 p) → PC (f_R_thing_203 rec (hx n f0 p) (xw x p (-1))) (fun r u => GO x env p (if hx n f0 p = 105 ∨ hx n f0 p = 112 ∨ hx n f0 p = 107 ∨ hx n f0 p = 115 ∨ hx n f0 p = 103 ∨ hx n f0 p = 108 ∨ hx n f0 p = 110 ∨ hx n f0 p = 119 then some (true, p + 1, [-(hx n f0 p)]) else some (false, p, [])) r u) := by
        intro hl
        have hl' := hl
        unfold LTR at hl'
        rw [if_pos hl']
        have l0 := hx_lt (n := n) (f0 := f0) (p := p) (by omega)
        have vv : VAL env [-(hx n f0 p)] (env (hx n f0 p)) := by
          have s0 : stg (- -(hx n f0 p)) = 0 := by
            rw [show - -(hx n f0 p) = hx n f0 p by omega]
            rcases hl' with e | e | e | e | e | e | e | e <;> rw [e] <;> decide
          have := val_push (env := env) (k := -(hx n f0 p)) (by omega) (by omega) (by omega)
          rw [if_neg (by omega), show - -(hx n f0 p) = hx n f0 p by omega] at this
          exact this
        unfold f_R_thing_203
        have w1 := w32_sp (p + 1)
        rw [xw_p]
        refine pc_lw (fun u9 e9 => ?_)
        rw [xw_sp, show w32 (p + 1) = p + 1 by omega] at e9
        rw [e9, xw_o x (p + 1) (-1) (c := 43) (k := 28) (by omega)]
        rcases hE with ⟨h28, hz⟩ | ⟨h28, hl2⟩
        · refine pc_ite (fun _ => pc_some ⟨rfl, ?_, by omega, by omega⟩) (fun e => absurd h28 e)
          rw [hz] at vv; exact vv
        · refine pc_ite (fun e => absurd e h28) (fun _ => ?_)
          refine pc_call (hl2 _ (p + 1) hl) (fun r10 u11 y => pc_some ⟨y.1, ?_, by omega, by omega⟩)
          rw [y.2]; exact vv
      refine pc_ite (fun e => l203 (Or.inl e)) (fun e1 => ?_)
      refine pc_ite (fun e => l203 (Or.inr (Or.inl e))) (fun e2 => ?_)
      refine pc_ite (fun e => l203 (Or.inr (Or.inr (Or.inl e)))) (fun e3 => ?_)
      refine pc_ite (fun e => l203 (Or.inr (Or.inr (Or.inr (Or.inl e))))) (fun e4 => ?_)
      refine pc_ite (fun e => l203 (Or.inr (Or.inr (Or.inr (Or.inr (Or.inl e)))))) (fun e5 => ?_)
      refine pc_ite (fun e => l203 (Or.inr (Or.inr (Or.inr (Or.inr (Or.inr (Or.inl e))))))) (fun e6 => ?_)
      refine pc_ite (fun e => l203 (Or.inr (Or.inr (Or.inr (Or.inr (Or.inr (Or.inr (Or.inl e)))))))) (fun e7 => ?_)
      refine pc_ite (fun e => l203 (Or.inr (Or.inr (Or.inr (Or.inr (Or.inr (Or.inr (Or.inr e)))))))) (fun e8 => ?_)
      rw [if_neg (by omega), xw_p]
      refine pc_call fx_pc (fun r12 u13 y => pc_some ?_)
      rw [y, if_pos rfl]
      exact go_f hp
  refine pc_call (px_pc hr hp (c := 45)) (fun r1 u2 q => ?_)
  rcases q with ⟨_, q1, q2, q3⟩ | ⟨q1, q2, q3⟩
  · refine pc_ite (fun e => absurd (q2.symm.trans e) (by decide)) (fun _ => ?_)
    rw [if_pos q1, q3]
    have l0 := hx_lt (n := n) (f0 := f0) (p := p) (by omega)
    refine pc_call (hT (p + 1) (by omega) (by omega)) (fun r30 u31 y => pc_some ?_)
    cases ho : rT (p + 1) with
    | none => rw [ho] at y; exact y.elim
    | some o =>
      obtain ⟨ok, q, c⟩ := o
      rw [ho] at y
      cases ok with
      | false => exact y
      | true =>
        obtain ⟨y1, y2, y3, y4⟩ := y
        exact ⟨y1, val_neg y2, by omega, y4⟩
  · have n45 : ¬ hx n f0 p = 45 := fun e => q1 ⟨rfl, e⟩
    refine pc_ite (fun _ => ?_) (fun e => absurd q2 e)
    rw [if_neg n45, q3, fine_e, jc_s, xw_f, if_pos rfl]
    refine pc_ite (fun e => absurd e (by decide)) (fun _ => ?_)
    refine pc_call (hx_pc hr p (-1)) (fun r5 u6 y => ?_)
    rw [y.1, y.2]
    refine pc_ite (fun c40 => ?_) (fun c40 => ?_)
    · refine pc_ite (fun c4 => ?_) (fun c4 => ?_)
      · rw [if_neg (fun h => by omega)]
        exact k78 n45 (fun h => by omega)
      · rw [if_pos ⟨c40, by omega⟩]
        have l0 := hx_lt (n := n) (f0 := f0) (p := p) (by omega)
        have w1 := w32_sp (p + 1)
        have w2 := w32_sp (v + 1)
        rw [xw_p]
        refine pc_lw (fun u23 e23 => ?_)
        rw [xw_sp, show w32 (p + 1) = p + 1 by omega] at e23
        rw [e23, show w32 (v + 1) = v + 1 by omega]
        refine pc_call (hH (by omega) (p + 1) (by omega) (by omega)) (fun r24 u25 y => ?_)
        cases ho : rH (p + 1) with
        | none => rw [ho] at y; exact y.elim
        | some o =>
          obtain ⟨ok, q, c⟩ := o
          rw [ho] at y
          cases ok with
          | false =>
            obtain ⟨y1, y2, y3⟩ := y
            rw [y1]
            refine pc_call (px_pc hr ⟨y2, y3⟩ (c := 41)) (fun r26 u27 z => ?_)
            rcases z with ⟨z1, _⟩ | ⟨_, z2, z3⟩
            · exfalso; omega
            · refine pc_ite (fun _ => ?_) (fun e => absurd z2 e)
              rw [z3, xw_p]
              refine pc_call fx_pc (fun r28 u29 z => pc_some ?_)
              rw [z, if_neg (by omega)]
              exact go_f ⟨y2, y3⟩
          | true =>
            obtain ⟨y1, y2, y3, y4⟩ := y
            rw [y1]
            dsimp only
            refine pc_call (px_pc hr ⟨by omega, y4⟩ (c := 41)) (fun r26 u27 z => ?_)
            rcases z with ⟨_, z1, z2, z3⟩ | ⟨z1, z2, z3⟩
            · refine pc_ite (fun e => absurd (z2.symm.trans e) (by decide)) (fun _ => ?_)
              have l1 := hx_lt (n := n) (f0 := f0) (p := q) (by omega)
              rw [if_pos z1]
              exact pc_some ⟨z3, y2, by omega, by omega⟩
            · refine pc_ite (fun _ => ?_) (fun e => absurd z2 e)
              rw [if_neg (fun e => z1 ⟨rfl, e⟩), z3, xw_p]
              refine pc_call fx_pc (fun r28 u29 z => pc_some ?_)
              rw [z, if_pos rfl]
              exact go_f ⟨by omega, y4⟩
    · rw [if_neg (fun h => c40 h.1)]
      exact k78 n45 (fun h => c40 h.1)
/-- a product -/
theorem prd_pc {n : Int} {f0 : Nat → Int} {x : Wd} {env : Int → Int} (hr : RRX n f0 x) {rec : Nat → Int → Wd → Option (Int × Wd)} {v : Int} {r3 : Int → Par} (h3 : ∀ p, 0 ≤ p → p ≤ 40 → PC (rec 3 v (xw x p (-1))) (fun r u => GO x env p (r3 p) r u)) {p : Int} (hp : 0 ≤ p ∧ p ≤ 40) : PC (f_R_product_b rec v (xw x p (-1))) (fun r u => GO x env p (pst (hx n f0) 42 47 r3 p) r u) := by
  have lpf : ∀ (m : Nat) (a q : Int), (0 ≤ q ∧ q ≤ 40) → PC (f_R_product_6 rec m v a (xw x q q)) (fun r u => GO x env p (some (false, q, [])) r u) := by
    intro m a q hq
    cases m with
    | zero => exact pc_none
    | succ m =>
      rw [f_R_product_6, fine_e, jc_s, if_neg (xw_nf hq.1)]
      exact pc_ite (fun _ => pc_some (go_f hq)) (fun e => absurd rfl e)
  have lp : ∀ (m f : Nat) (a q : Int) (c : List Int), (p < q ∧ q ≤ 40) → VAL env c a → 40 < q + f → PC (f_R_product_6 rec m v a (xw x q (-1))) (fun r u => GO x env p (plp (hx n f0) 42 47 r3 f q c) r u) := by
    intro m
    induction m with
    | zero => intros; exact pc_none
    | succ m ih =>
      intro f a q c hq hc hf
      cases f with
      | zero => exfalso; omega
      | succ f =>
        rw [f_R_product_6, fine_e, jc_s, xw_f, if_pos rfl, plp]
        refine pc_ite (fun e => absurd e (by decide)) (fun _ => ?_)
        have nx : ∀ s0 : Int, (hx n f0 q = 42 ∧ s0 = 1) ∨ (hx n f0 q = 47 ∧ s0 = 0) → PC (f_R_product_45 rec (f_R_product_6 rec m) v a s0 (xw x q (-1))) (fun r u => GO x env p (match r3 (q + 1) with
            | none => none
            | some (false, q2, _) => some (false, q2, [])
            | some (true, q2, c2) => plp (hx n f0) 42 47 r3 f q2 (-(hx n f0 q) :: (c2 ++ c))) r u) := by
          intro s0 hs
          unfold f_R_product_45
          have l0 := hx_lt (n := n) (f0 := f0) (p := q) (by omega)
          have w1 := w32_sp (q + 1)
          rw [xw_p]
          refine pc_lw (fun u9 e9 => ?_)
          rw [xw_sp, show w32 (q + 1) = q + 1 by omega] at e9
          rw [e9]
          refine pc_call (h3 (q + 1) (by omega) (by omega)) (fun r10 u11 y => ?_)
          have fin : ∀ z : Int, (∀ q2 c2, r3 (q + 1) = some (true, q2, c2) → z = opr (hx n f0 q) a r10) → PC (f_R_product_87 rec (f_R_product_6 rec m) v z u11) (fun r u => GO x env p (match r3 (q + 1) with
              | none => none
              | some (false, q2, _) => some (false, q2, [])
              | some (true, q2, c2) => plp (hx n f0) 42 47 r3 f q2 (-(hx n f0 q) :: (c2 ++ c))) r u) := by
            intro z hz
            unfold f_R_product_87
            cases ho : r3 (q + 1) with
            | none => rw [ho] at y; exact y.elim
            | some o =>
              obtain ⟨ok, q2, c2⟩ := o
              rw [ho] at y
              cases ok with
              | false =>
                obtain ⟨y1, y2⟩ := y
                rw [y1]; exact lpf m z q2 y2
              | true =>
                obtain ⟨y1, y2, y3⟩ := y
                rw [y1, hz q2 c2 ho]
                exact ih f _ q2 _ (by omega) (val_op hc y2 (by rcases hs with h | h <;> omega)) (by omega)
          refine pc_ite (fun c0 => ?_) (fun c0 => ?_)
          · have h47 : hx n f0 q = 47 := by rcases hs with h | h <;> omega
            refine pc_ite (fun cz => fin 0 (fun _ _ _ => ?_)) (fun cz => ?_)
            · rw [h47, cz]; unfold opr
              rw [if_neg (by decide), if_neg (by decide), if_neg (by decide), if_neg (by decide), if_neg (by decide), if_neg (by decide), if_pos rfl]
            · refine pc_ite (fun e => absurd e cz) (fun _ => fin _ (fun _ _ _ => ?_))
              rw [h47]; unfold opr
              rw [if_neg (by decide), if_neg (by decide), if_neg (by decide), if_neg (by decide), if_neg (by decide), if_neg (by decide), if_neg cz]
          · have h42 : hx n f0 q = 42 := by rcases hs with h | h <;> omega
            refine fin _ (fun _ _ _ => ?_)
            rw [h42]; unfold opr
            rw [if_neg (by decide), if_neg (by decide), if_neg (by decide), if_neg (by decide), if_neg (by decide), if_pos rfl]
        refine pc_call (hx_pc hr q (-1)) (fun r5 u6 y => ?_)
        rw [y.1, y.2]
        have k31 : (hx n f0 q = 42 ∨ hx n f0 q = 47) → PC (f_R_product_31 rec (f_R_product_6 rec m) v a (xw x q (-1))) (fun r u => GO x env p (match r3 (q + 1) with
            | none => none
            | some (false, q2, _) => some (false, q2, [])
            | some (true, q2, c2) => plp (hx n f0) 42 47 r3 f q2 (-(hx n f0 q) :: (c2 ++ c))) r u) := by
          intro ho
          unfold f_R_product_31
          refine pc_call (hx_pc hr q (-1)) (fun r7 u8 z => ?_)
          rw [z.1, z.2]
          exact pc_ite (fun e => nx 1 (Or.inl ⟨e, rfl⟩)) (fun e => nx 0 (Or.inr ⟨ho.resolve_left e, rfl⟩))
        refine pc_ite (fun e => ?_) (fun e => ?_)
        · rw [if_pos (Or.inl e)]; exact k31 (Or.inl e)
        · refine pc_call (hx_pc hr q (-1)) (fun r12 u13 z => ?_)
          rw [z.1, z.2]
          refine pc_ite (fun e2 => ?_) (fun e2 => ?_)
          · rw [if_pos (Or.inr e2)]; exact k31 (Or.inr e2)
          · rw [if_neg (fun h => h.elim e e2)]
            exact pc_some ⟨rfl, hc, hq⟩
  unfold f_R_product_b pst
  refine pc_call (h3 p hp.1 hp.2) (fun r1 u2 y => ?_)
  cases ho : r3 p with
  | none => rw [ho] at y; exact y.elim
  | some o =>
    obtain ⟨ok, q, c⟩ := o
    rw [ho] at y
    cases ok with
    | false => obtain ⟨y1, y2⟩ := y; rw [y1]; exact lpf FU r1 q y2
    | true =>
      obtain ⟨y1, y2, y3⟩ := y
      rw [y1]
      exact lp FU 50 r1 q c y3 y2 (by omega)
/-- a sum -/
theorem smm_pc {n : Int} {f0 : Nat → Int} {x : Wd} {env : Int → Int} (hr : RRX n f0 x) {rec : Nat → Int → Wd → Option (Int × Wd)} {v : Int} {r3 : Int → Par} (h3 : ∀ p, 0 ≤ p → p ≤ 40 → PC (rec 2 v (xw x p (-1))) (fun r u => GO x env p (r3 p) r u)) {p : Int} (hp : 0 ≤ p ∧ p ≤ 40) : PC (f_R_sum_b rec v (xw x p (-1))) (fun r u => GO x env p (pst (hx n f0) 43 45 r3 p) r u) := by
  have lpf : ∀ (m : Nat) (a q : Int), (0 ≤ q ∧ q ≤ 40) → PC (f_R_sum_6 rec m v a (xw x q q)) (fun r u => GO x env p (some (false, q, [])) r u) := by
    intro m a q hq
    cases m with
    | zero => exact pc_none
    | succ m =>
      rw [f_R_sum_6, fine_e, jc_s, if_neg (xw_nf hq.1)]
      exact pc_ite (fun _ => pc_some (go_f hq)) (fun e => absurd rfl e)
  have lp : ∀ (m f : Nat) (a q : Int) (c : List Int), (p < q ∧ q ≤ 40) → VAL env c a → 40 < q + f → PC (f_R_sum_6 rec m v a (xw x q (-1))) (fun r u => GO x env p (plp (hx n f0) 43 45 r3 f q c) r u) := by
    intro m
    induction m with
    | zero => intros; exact pc_none
    | succ m ih =>
      intro f a q c hq hc hf
      cases f with
      | zero => exfalso; omega
      | succ f =>
        rw [f_R_sum_6, fine_e, jc_s, xw_f, if_pos rfl, plp]
        refine pc_ite (fun e => absurd e (by decide)) (fun _ => ?_)
        have nx : ∀ s0 : Int, (hx n f0 q = 43 ∧ s0 = 1) ∨ (hx n f0 q = 45 ∧ s0 = 0) → PC (f_R_sum_45 rec (f_R_sum_6 rec m) v a s0 (xw x q (-1))) (fun r u => GO x env p (match r3 (q + 1) with
            | none => none
            | some (false, q2, _) => some (false, q2, [])
            | some (true, q2, c2) => plp (hx n f0) 43 45 r3 f q2 (-(hx n f0 q) :: (c2 ++ c))) r u) := by
          intro s0 hs
          unfold f_R_sum_45
          have l0 := hx_lt (n := n) (f0 := f0) (p := q) (by omega)
          have w1 := w32_sp (q + 1)
          rw [xw_p]
          refine pc_lw (fun u9 e9 => ?_)
          rw [xw_sp, show w32 (q + 1) = q + 1 by omega] at e9
          rw [e9]
          refine pc_call (h3 (q + 1) (by omega) (by omega)) (fun r10 u11 y => ?_)
          have fin : ∀ z : Int, (∀ q2 c2, r3 (q + 1) = some (true, q2, c2) → z = opr (hx n f0 q) a r10) → PC (f_R_sum_78 rec (f_R_sum_6 rec m) v z u11) (fun r u => GO x env p (match r3 (q + 1) with
              | none => none
              | some (false, q2, _) => some (false, q2, [])
              | some (true, q2, c2) => plp (hx n f0) 43 45 r3 f q2 (-(hx n f0 q) :: (c2 ++ c))) r u) := by
            intro z hz
            unfold f_R_sum_78
            cases ho : r3 (q + 1) with
            | none => rw [ho] at y; exact y.elim
            | some o =>
              obtain ⟨ok, q2, c2⟩ := o
              rw [ho] at y
              cases ok with
              | false =>
                obtain ⟨y1, y2⟩ := y
                rw [y1]; exact lpf m z q2 y2
              | true =>
                obtain ⟨y1, y2, y3⟩ := y
                rw [y1, hz q2 c2 ho]
                exact ih f _ q2 _ (by omega) (val_op hc y2 (by rcases hs with h | h <;> omega)) (by omega)
          refine pc_ite (fun c0 => ?_) (fun c0 => ?_)
          · have h45 : hx n f0 q = 45 := by rcases hs with h | h <;> omega
            refine fin _ (fun _ _ _ => ?_)
            rw [h45]; unfold opr
            rw [if_neg (by decide), if_neg (by decide), if_neg (by decide), if_neg (by decide), if_pos rfl]
          · have h43 : hx n f0 q = 43 := by rcases hs with h | h <;> omega
            refine fin _ (fun _ _ _ => ?_)
            rw [h43]; unfold opr
            rw [if_neg (by decide), if_neg (by decide), if_neg (by decide), if_pos rfl]
        refine pc_call (hx_pc hr q (-1)) (fun r5 u6 y => ?_)
        rw [y.1, y.2]
        have k31 : (hx n f0 q = 43 ∨ hx n f0 q = 45) → PC (f_R_sum_31 rec (f_R_sum_6 rec m) v a (xw x q (-1))) (fun r u => GO x env p (match r3 (q + 1) with
            | none => none
            | some (false, q2, _) => some (false, q2, [])
            | some (true, q2, c2) => plp (hx n f0) 43 45 r3 f q2 (-(hx n f0 q) :: (c2 ++ c))) r u) := by
          intro ho
          unfold f_R_sum_31
          refine pc_call (hx_pc hr q (-1)) (fun r7 u8 z => ?_)
          rw [z.1, z.2]
          exact pc_ite (fun e => nx 1 (Or.inl ⟨e, rfl⟩)) (fun e => nx 0 (Or.inr ⟨ho.resolve_left e, rfl⟩))
        refine pc_ite (fun e => ?_) (fun e => ?_)
        · rw [if_pos (Or.inl e)]; exact k31 (Or.inl e)
        · refine pc_call (hx_pc hr q (-1)) (fun r12 u13 z => ?_)
          rw [z.1, z.2]
          refine pc_ite (fun e2 => ?_) (fun e2 => ?_)
          · rw [if_pos (Or.inr e2)]; exact k31 (Or.inr e2)
          · rw [if_neg (fun h => h.elim e e2)]
            exact pc_some ⟨rfl, hc, hq⟩
  unfold f_R_sum_b pst
  refine pc_call (h3 p hp.1 hp.2) (fun r1 u2 y => ?_)
  cases ho : r3 p with
  | none => rw [ho] at y; exact y.elim
  | some o =>
    obtain ⟨ok, q, c⟩ := o
    rw [ho] at y
    cases ok with
    | false => obtain ⟨y1, y2⟩ := y; rw [y1]; exact lpf FU r1 q y2
    | true =>
      obtain ⟨y1, y2, y3⟩ := y
      rw [y1]
      exact lp FU 50 r1 q c y3 y2 (by omega)
theorem opr62 (a b : Int) : opr 62 a b = if b < a then 1 else 0 := by
  unfold opr
  rw [if_neg (show ¬ (62 : Int) = 60 by decide), if_pos (show (62 : Int) = 62 from rfl)]
theorem opr61 (a b : Int) : opr 61 a b = if a = b then 1 else 0 := by
  unfold opr
  rw [if_neg (show ¬ (61 : Int) = 60 by decide), if_neg (show ¬ (61 : Int) = 62 by decide), if_pos (show (61 : Int) = 61 from rfl)]
/-- a comparison -/
theorem hld_pc {n : Int} {f0 : Nat → Int} {x : Wd} {env : Int → Int} (hr : RRX n f0 x) {rec : Nat → Int → Wd → Option (Int × Wd)} {v : Int} {r1 : Int → Par} (h1 : ∀ p, 0 ≤ p → p ≤ 40 → PC (rec 1 v (xw x p (-1))) (fun r u => GO x env p (r1 p) r u)) {p : Int} (hp : 0 ≤ p ∧ p ≤ 40) : PC (f_R_held_b rec v (xw x p (-1))) (fun r u => GO x env p (phd (hx n f0) r1 p) r u) := by
  unfold f_R_held_b phd
  refine pc_call (h1 p hp.1 hp.2) (fun ra u2 y => ?_)
  cases ho : r1 p with
  | none => rw [ho] at y; exact y.elim
  | some o =>
    obtain ⟨ok, q, c⟩ := o
    rw [ho] at y
    cases ok with
    | false =>
      obtain ⟨y1, y2, y3⟩ := y
      rw [y1]
      have np : ∀ c, PC (f_R_passes c (xw x q q)) (fun r u => r = 0 ∧ u = xw x q q) := fun c => by
        refine pc_w (px_pc hr ⟨y2, y3⟩ (c := c)) (fun r u z => ?_)
        rcases z with ⟨z1, _⟩ | ⟨_, z2, z3⟩
        · exfalso; omega
        · exact ⟨z2, z3⟩
      refine pc_call (np 60) (fun r3 u4 z => ?_)
      refine pc_ite (fun _ => ?_) (fun e => absurd z.1 e)
      rw [z.2]
      refine pc_call (np 62) (fun r5 u6 z => ?_)
      refine pc_ite (fun _ => ?_) (fun e => absurd z.1 e)
      rw [z.2]
      refine pc_call (np 61) (fun r7 u8 z => ?_)
      refine pc_ite (fun _ => ?_) (fun e => absurd z.1 e)
      rw [z.2]
      exact pc_some (go_f ⟨y2, y3⟩)
    | true =>
      obtain ⟨y1, y2, y3, y4⟩ := y
      rw [y1]
      dsimp only
      -- behind the sign
      have nx : ∀ {g : Int → Wd → Option (Int × Wd)}, (hx n f0 q = 60 ∨ hx n f0 q = 62 ∨ hx n f0 q = 61) → (∀ r u, g r u = some (opr (hx n f0 q) ra r, u)) → PC (jcall (rec 1 v (xw x (q + 1) (-1))) g) (fun r u => GO x env p (match r1 (q + 1) with
          | none => none
          | some (false, q2, _) => some (false, q2, [])
          | some (true, q2, c2) => some (true, q2, -(hx n f0 q) :: (c2 ++ c))) r u) := by
        intro g hq hg
        have l0 := hx_lt (n := n) (f0 := f0) (p := q) (by omega)
        refine pc_call (h1 (q + 1) (by omega) (by omega)) (fun r9 u10 z => ?_)
        rw [hg]
        refine pc_some ?_
        cases ho2 : r1 (q + 1) with
        | none => rw [ho2] at z; exact z.elim
        | some o2 =>
          obtain ⟨ok2, q2, c2⟩ := o2
          rw [ho2] at z
          cases ok2 with
          | false => exact z
          | true =>
            obtain ⟨z1, z2, z3, z4⟩ := z
            exact ⟨z1, val_op y2 z2 (by omega), by omega, z4⟩
      refine pc_call (px_pc hr ⟨by omega, y4⟩ (c := 60)) (fun r3 u4 z => ?_)
      rcases z with ⟨_, z1, z2, z3⟩ | ⟨z1, z2, z3⟩
      · refine pc_ite (fun e => absurd (z2.symm.trans e) (by decide)) (fun _ => ?_)
        rw [z3, if_pos (Or.inl z1)]
        refine nx (Or.inl z1) (fun r u => ?_)
        rw [z1]
        unfold opr
        rw [if_pos rfl]
        by_cases c1 : r ≤ ra
        · rw [if_pos c1, if_neg (by omega)]
        · rw [if_neg c1, if_pos (by omega)]
      · refine pc_ite (fun _ => ?_) (fun e => absurd z2 e)
        have n60 : ¬ hx n f0 q = 60 := fun e => z1 ⟨rfl, e⟩
        rw [z3]
        refine pc_call (px_pc hr ⟨by omega, y4⟩ (c := 62)) (fun r5 u6 z => ?_)
        rcases z with ⟨_, z1, z2, z3⟩ | ⟨z1, z2, z3⟩
        · refine pc_ite (fun e => absurd (z2.symm.trans e) (by decide)) (fun _ => ?_)
          rw [z3, if_pos (Or.inr (Or.inl z1))]
          refine nx (Or.inr (Or.inl z1)) (fun r u => ?_)
          rw [z1]
          rw [opr62]
          by_cases c1 : ra ≤ r
          · rw [if_pos c1, if_neg (by omega)]
          · rw [if_neg c1, if_pos (by omega)]
        · refine pc_ite (fun _ => ?_) (fun e => absurd z2 e)
          have n62 : ¬ hx n f0 q = 62 := fun e => z1 ⟨rfl, e⟩
          rw [z3]
          refine pc_call (px_pc hr ⟨by omega, y4⟩ (c := 61)) (fun r7 u8 z => ?_)
          rcases z with ⟨_, z1, z2, z3⟩ | ⟨z1, z2, z3⟩
          · refine pc_ite (fun e => absurd (z2.symm.trans e) (by decide)) (fun _ => ?_)
            rw [z3, if_pos (Or.inr (Or.inr z1))]
            refine nx (Or.inr (Or.inr z1)) (fun r u => ?_)
            rw [z1]
            rw [opr61]
            by_cases c1 : ra = r
            · rw [if_pos c1, if_pos c1]
            · rw [if_neg c1, if_neg c1]
          · refine pc_ite (fun _ => ?_) (fun e => absurd z2 e)
            have n61 : ¬ hx n f0 q = 61 := fun e => z1 ⟨rfl, e⟩
            rw [z3, if_neg (fun h => h.elim n60 (fun h => h.elim n62 n61))]
            exact pc_some ⟨rfl, y2, y3, y4⟩
/-- all of it -/
theorem grp_pc {n : Int} {f0 : Nat → Int} {x : Wd} {env : Int → Int} (hr : RRX n f0 x) (hE : EL env x) : ∀ (d k : Nat) (v p : Int), k ≤ 3 → (0 ≤ v ∧ v ≤ 4) → 0 ≤ p → p ≤ 40 → PC (f_R_grp d k v (xw x p (-1))) (fun r u => GO x env p (pg (hx n f0) d k v p) r u) := by
  intro d
  induction d with
  | zero => intros; exact pc_none
  | succ d ih =>
    intro k v p hk hv h0 h40
    match k, hk with
    | 0, _ => exact hld_pc hr (rec := f_R_grp d) (r1 := pg (hx n f0) d 1 v) (fun p a b => ih 1 v p (by decide) hv a b) ⟨h0, h40⟩
    | 1, _ => exact smm_pc hr (rec := f_R_grp d) (r3 := pg (hx n f0) d 2 v) (fun p a b => ih 2 v p (by decide) hv a b) ⟨h0, h40⟩
    | 2, _ => exact prd_pc hr (rec := f_R_grp d) (r3 := pg (hx n f0) d 3 v) (fun p a b => ih 3 v p (by decide) hv a b) ⟨h0, h40⟩
    | 3, _ => exact thg_pc hr hE (rec := f_R_grp d) hv (rT := pg (hx n f0) d 3 v) (rH := pg (hx n f0) d 0 (v + 1)) (fun p a b => ih 3 v p (by decide) hv a b) (fun h4 p a b => ih 0 (v + 1) p (by decide) (by omega) a b) ⟨h0, h40⟩
/-! RULE: both answer alike, and what is to be done is the same -/
theorem nb_id {z : Int} (h : -128 ≤ z ∧ z ≤ 127) : nb z = z := by
  rw [nb_e (by omega)]
  unfold Int.bmod
  simp only
  split <;> omega
theorem sh_tx {n : Int} {f f2 : Nat → Int} (hf : ∀ k : Nat, (k : Int) < n → 0 ≤ f k ∧ f k ≤ 255) (h2 : ∀ k : Nat, (k : Int) < n → f2 k = (if f k ≤ 127 then f k else f k - 256)) : SH (sL n f) (hx n f2) n := by
  intro p hp
  unfold sL hx
  rw [if_neg (show ¬ p < 0 by omega)]
  by_cases c1 : p < n
  · rw [if_pos c1, if_neg (show ¬ n ≤ p by omega)]
    by_cases c2 : p < 40
    · rw [if_pos c2, if_neg (show ¬ (40 : Int) ≤ p by omega), h2 p.toNat (by omega)]
      have b := hf p.toNat (by omega)
      by_cases c3 : f p.toNat ≤ 127
      · rw [if_pos c3]; exact ⟨Or.inr ⟨by omega, c1, c2⟩, fun c _ _ => Iff.rfl, by omega, fun _ => by omega⟩
      · rw [if_neg c3]; exact ⟨Or.inl (by omega), fun c h0 h1 => ⟨fun e => by omega, fun e => by omega⟩, by omega, fun _ => by omega⟩
    · rw [if_neg c2, if_pos (show (40 : Int) ≤ p by omega)]
      exact ⟨Or.inl (by decide), fun c h0 h1 => ⟨fun e => by omega, fun e => by omega⟩, by decide, fun _ => by decide⟩
  · rw [if_neg c1, if_pos (show n ≤ p by omega)]
    exact ⟨Or.inl (by decide), fun c h0 h1 => ⟨fun e => by omega, fun e => by omega⟩, by decide, fun _ => by decide⟩
theorem cp57 {n0 : Int} (hn : 0 ≤ n0 ∧ n0 ≤ 40) (x : Wd) (hb : ∀ k, -128 ≤ x 51 k ∧ x 51 k ≤ 127) : ∀ (m : Nat) {w : Wd} {v2 : Int}, 0 ≤ v2 → v2 ≤ n0 → (∀ c k, c ≠ 57 → w c k = x c k) → (∀ k : Nat, (k : Int) < v2 → w 57 k = x 51 k) → PC (f_R_rule_73 m n0 v2 w) (fun r u => r = 0 ∧ u 43 27 = n0 ∧ (∀ k : Nat, (k : Int) < n0 → u 57 k = x 51 k) ∧ ∀ c k, c ≠ 57 → ¬ (c = 43 ∧ k = 27) → u c k = x c k) := by
  intro m
  induction m with
  | zero => intros; exact pc_none
  | succ m ih =>
    intro w v2 i0 i1 hx hd
    rw [f_R_rule_73]
    refine pc_ite (fun c => ?_) (fun c => ?_)
    · refine pc_lw (fun u7 e7 => pc_some ⟨rfl, ?_, fun k hk => ?_, fun c k h57 h27 => ?_⟩)
      · rw [e7, st_eq]
      · rw [e7, st_c (by decide)]; exact hd k (by omega)
      · rw [e7]; unfold st; rw [if_neg h27]; exact hx c k h57
    · refine pc_gd (fun _ => ?_)
      refine pc_gd (fun _ => ?_)
      rw [hx 51 _ (by decide), nb_id (hb _)]
      refine pc_lw (fun u8 e8 => ?_)
      refine pc_let (fun x9 e9 => ?_)
      rw [wsucc (P := n0) (by omega) (by omega)] at e9
      refine ih (by omega) (by omega) (fun c k h57 => by rw [e8, st_c h57]; exact hx c k h57) (fun k hk => ?_)
      rw [e8]
      by_cases ck : k = v2.toNat
      · rw [ck, st_eq]
      · rw [st_k ck]; exact hd k (by omega)
def RRq (w : Wd) (r : Int) (u : Wd) : Prop := (w 43 13 = 0 ∧ r = 0 ∧ u 43 27 = 0) ∨ (0 < w 43 13 ∧ ∃ ok q c, pg (hx (w 43 13) (w 51)) 100 0 0 0 = some (ok, q, c) ∧ ((ok = true ∧ w 43 13 ≤ q) → r = 0 ∧ u 43 27 = w 43 13 ∧ w 43 13 ≤ 40 ∧ ∀ k : Nat, (k : Int) < w 43 13 → u 57 k = w 51 k) ∧ (¬ (ok = true ∧ w 43 13 ≤ q) → r = -1 - q ∧ u 43 27 = w 43 27 ∧ u 57 = w 57))
theorem rr_pc {w : Wd} (hn : 0 ≤ w 43 13 ∧ w 43 13 ≤ 80) (hb : ∀ k, -128 ≤ w 51 k ∧ w 51 k ≤ 127) : PC (f_R_rule w) (fun r u => RRq w r u) := by
  unfold f_R_rule
  refine pc_lw (fun u1 e1 => ?_)
  refine pc_let (fun x2 e2 => ?_)
  have y13 : x2 = w 43 13 := by rw [e2, e1, st_k (by decide)]
  unfold f_R_begin1_43_51
  have hbg : PC (jlw (st u1 43 17 52) fun u1 => jlw (st u1 43 18 x2) fun u2 => jlw (st u2 43 19 40) fun u3 => jlw (st u3 43 20 0) fun u4 => jlw (st u4 43 21 (-1)) fun u5 => some ((0 : Int), u5)) (fun _ u => u 43 17 = 52 ∧ u 43 18 = w 43 13 ∧ u 43 19 = 40 ∧ u 43 20 = 0 ∧ u 43 21 = -1 ∧ ∀ c k, ¬ (c = 43 ∧ (k = 16 ∨ k = 17 ∨ k = 18 ∨ k = 19 ∨ k = 20 ∨ k = 21)) → u c k = w c k) := by
    refine pc_lw (fun x1 z1 => ?_)
    refine pc_lw (fun x3 z3 => ?_)
    refine pc_lw (fun x4 z4 => ?_)
    refine pc_lw (fun x5 z5 => ?_)
    refine pc_lw (fun x6 z6 => pc_some ⟨?_, ?_, ?_, ?_, ?_, fun c k hc => ?_⟩)
    · rw [z6, st_k (by decide), z5, st_k (by decide), z4, st_k (by decide), z3, st_k (by decide), z1, st_eq]
    · rw [z6, st_k (by decide), z5, st_k (by decide), z4, st_k (by decide), z3, st_eq]; exact y13
    · rw [z6, st_k (by decide), z5, st_k (by decide), z4, st_eq]
    · rw [z6, st_k (by decide), z5, st_eq]
    · rw [z6, st_eq]
    · rw [z6]; unfold st; rw [if_neg (by omega), z5]; unfold st; rw [if_neg (by omega), z4]; unfold st; rw [if_neg (by omega), z3]; unfold st; rw [if_neg (by omega), z1]; unfold st; rw [if_neg (by omega), e1]; unfold st; rw [if_neg (by omega)]
  refine pc_call hbg (fun r3 u4 q => ?_)
  obtain ⟨q17, q18, q19, q20, q21, qo⟩ := q
  refine pc_lw (fun u5 e5 => ?_)
  refine pc_lw (fun u6 e6 => ?_)
  have f6 : ∀ c k, ¬ (c = 43 ∧ (k = 13 ∨ k = 28)) → u6 c k = u4 c k := fun c k hc => by
    rw [e6]; unfold st; rw [if_neg (by omega), e5]; unfold st; rw [if_neg (by omega)]
  have g6 : ∀ c k, ¬ (c = 43 ∧ (k = 13 ∨ k = 28 ∨ k = 16 ∨ k = 17 ∨ k = 18 ∨ k = 19 ∨ k = 20 ∨ k = 21)) → u6 c k = w c k := fun c k hc => by
    rw [f6 c k (by omega)]; exact qo c k (by omega)
  have b6 : ∀ k, -128 ≤ u6 51 k ∧ u6 51 k ≤ 127 := fun k => by rw [g6 51 k (by omega)]; exact hb k
  rw [y13]
  have row51 : u6 51 = w 51 := funext fun k => g6 51 k (by omega)
  refine pc_ite (fun c => ?_) (fun c => ?_)
  · unfold f_R_rule_71
    exact pc_w (cp57 (n0 := w 43 13) (by omega) u6 b6 FU (by decide) hn.1 (fun _ _ _ => rfl) (fun k hk => by omega)) (fun r u y => Or.inl ⟨by omega, y.1, by rw [y.2.1]; omega⟩)
  · have hX : RRX (w 43 13) (w 51) u6 := by
      refine ⟨?_, ?_, Or.inl ⟨?_, row51⟩⟩
      · rw [f6 43 18 (by decide)]; exact q18
      · rw [f6 43 19 (by decide)]; exact q19
      · rw [f6 43 17 (by decide)]; exact q17
    have hE : EL (fun _ => 0) u6 := Or.inl ⟨by rw [e6, st_eq], fun _ => rfl⟩
    have e7 : u6 = xw u6 0 (-1) := by
      have := xw_self u6
      rw [f6 43 20 (by decide), q20, f6 43 21 (by decide), q21] at this
      exact this.symm
    have hg := grp_pc hX hE 100 0 0 0 (by decide) (by decide) (by decide) (by decide)
    rw [← e7] at hg
    refine pc_call hg (fun r10 u11 y => ?_)
    cases ho : pg (hx (w 43 13) (w 51)) 100 0 0 0 with
    | none => rw [ho] at y; exact y.elim
    | some o =>
      obtain ⟨ok, q, cl⟩ := o
      rw [ho] at y
      -- the end: with place q and fault f
      have fin57 : ∀ f : Int, (¬ f = -1 → f = q) → (f = -1 ↔ (ok = true ∧ w 43 13 ≤ q)) → (ok = true → q ≤ 40) → 0 ≤ q → PC (f_R_rule_57 (w 43 13) (xw u6 q f)) (fun r u => RRq w r u) := by
        intro f h1 h2 h3 h0
        unfold f_R_rule_57
        rw [fine_e, jc_s, xw_f]
        by_cases cf : f = -1
        · rw [if_pos cf]
          refine pc_ite (fun e => absurd e (by decide)) (fun _ => ?_)
          have hq := h2.mp cf
          have h40 := h3 hq.1
          unfold f_R_rule_71
          refine pc_w (cp57 (n0 := w 43 13) (by omega) (xw u6 q f) (fun k => by rw [xw_o u6 q f (by omega)]; exact b6 k) FU (by decide) hn.1 (fun _ _ _ => rfl) (fun k hk => by omega)) (fun r u y => Or.inr ⟨by omega, ok, q, cl, ho, fun _ => ⟨y.1, y.2.1, by omega, fun k hk => ?_⟩, fun n => absurd hq n⟩)
          rw [y.2.2.1 k hk, xw_o u6 q f (by omega), row51]
        · rw [if_neg cf]
          refine pc_ite (fun _ => ?_) (fun e => absurd rfl e)
          have w1 := w32_sp (-1 - f)
          have eq := h1 cf
          refine pc_some (Or.inr ⟨by omega, ok, q, cl, ho, fun n => absurd (h2.mpr n) cf, fun _ => ⟨?_, ?_, ?_⟩⟩)
          · by_cases h80 : q ≤ 2147483000
            · omega
            · exfalso; exact h80 (by
                cases ok with
                | true => have := h3 rfl; omega
                | false => have := y.2; omega)
          · rw [xw_o u6 q f (by omega)]; exact g6 43 27 (by omega)
          · exact funext fun k => by rw [xw_o u6 q f (by omega)]; exact g6 57 k (by omega)
      cases ok with
      | false =>
        obtain ⟨y1, y2, y3⟩ := y
        rw [y1, xw_p]
        have nf : ¬ (q = -1) := by omega
        refine pc_ite (fun _ => fin57 q (fun _ => rfl) ⟨fun e => absurd e nf, fun h => by cases h.1⟩ (fun h => by cases h) y2) (fun _ => ?_)
        refine pc_call fx_pc (fun r14 u15 z => ?_)
        rw [z, if_neg nf]
        exact fin57 q (fun _ => rfl) ⟨fun e => absurd e nf, fun h => by cases h.1⟩ (fun h => by cases h) y2
      | true =>
        obtain ⟨y1, _, y3, y4⟩ := y
        rw [y1, xw_p]
        refine pc_ite (fun c2 => fin57 (-1) (fun h => absurd rfl h) ⟨fun _ => ⟨rfl, c2⟩, fun _ => rfl⟩ (fun _ => y4) (by omega)) (fun c2 => ?_)
        refine pc_call fx_pc (fun r14 u15 z => ?_)
        rw [z, if_pos rfl]
        exact fin57 q (fun _ => rfl) ⟨fun e => by omega, fun h => absurd h.2 c2⟩ (fun _ => y4) (by omega)
/-- what THE RULE is, by both -/
def RU (w : Wd) : Prop := (w 19 4 = 0 ∧ w 43 27 = 0) ∨ (0 < w 43 27 ∧ w 43 27 ≤ 40 ∧ ∃ c : List Int, pg (hx (w 43 27) (w 57)) 100 0 0 0 = some (true, w 43 27, c) ∧ w 19 4 = (c.length : Int) ∧ SR (w 20) c ∧ c.length ≤ 40)
theorem ru_fr {w u : Wd} (h : RU w) (f : FR [(19, 4), (43, 27)] [20, 57] w u) : RU u := by
  have q1 : u 19 4 = w 19 4 := f.1 (19, 4) (by decide)
  have q2 : u 43 27 = w 43 27 := f.1 (43, 27) (by decide)
  unfold RU
  rw [q1, q2, f.2 20 (by decide), f.2 57 (by decide)]
  exact h
theorem hx_ext {n : Int} (hn : 0 < n) {f g : Nat → Int} (h : ∀ k : Nat, (k : Int) < n → f k = g k) : hx n f = hx n g := by
  funext p
  unfold hx
  by_cases c : n ≤ p
  · rw [if_pos c, if_pos c]
  · rw [if_neg c, if_neg c, h p.toNat (by omega)]
theorem er_pc {w : Wd} (hN : 0 ≤ w 1 1 ∧ w 1 1 ≤ 80) (hf : ∀ k : Nat, (k : Int) < w 1 1 → 0 ≤ w 2 k ∧ w 2 k ≤ 255) : PC (f_E_rule w) (fun r u => (w 1 1 = 0 ∧ r = 0 ∧ u 19 4 = 0) ∨ (w 1 1 ≠ 0 ∧ ((cat (sL (w 1 1) (w 2)) (w 1 1) 0 [] [] 0 0 0 true).1 = true → r = 0 ∧ u 19 4 = ((cat (sL (w 1 1) (w 2)) (w 1 1) 0 [] [] 0 0 0 true).2.2.length : Int) ∧ SR (u 20) (cat (sL (w 1 1) (w 2)) (w 1 1) 0 [] [] 0 0 0 true).2.2) ∧ ((cat (sL (w 1 1) (w 2)) (w 1 1) 0 [] [] 0 0 0 true).1 = false → r = -1 - (cat (sL (w 1 1) (w 2)) (w 1 1) 0 [] [] 0 0 0 true).2.1 ∧ u 19 4 = w 19 4 ∧ u 20 = w 20))) := by
  unfold f_E_rule
  refine pc_call (rd_pc hN hf) (fun r1 u2 q => ?_)
  unfold f_T_clear
  refine pc_call (P := fun _ u => ∀ c, c ≠ 1 → u c = u2 c) (pc_lw (fun u1 e1 => pc_some (fun c hc => by rw [e1]; exact st_row hc))) (fun r3 u4 y => pc_some ?_)
  rcases q with ⟨c1, c2, c3⟩ | ⟨c1, c2, c3, c4⟩
  · refine Or.inl ⟨c1, c2, ?_⟩
    rw [y 19 (by decide), c3, st_eq]
  · refine Or.inr ⟨c1, ?_, ?_⟩
    · rw [y 19 (by decide), y 20 (by decide)]; exact c3
    · rw [y 19 (by decide), y 20 (by decide)]; exact c4
theorem k_rule {w : Wd} (h : LF w) (hu : RU w) : OK (f_E_rule w) (fun r1 u1 => OK (f_R_rule u1) (fun r2 u2 => (LF u2 ∧ RU u2) ∧ r1 = r2)) := by
  have a11 : (0 : Int) ≤ w 1 1 ∧ w 1 1 ≤ 80 := h.1.1.1 1 1
  have hTX := h.2.1.1
  have h2 : ∀ k, (0 : Int) ≤ w 2 k ∧ w 2 k ≤ 65535 := fun k => h.1.1.1 2 k
  have hf : ∀ k : Nat, (k : Int) < w 1 1 → 0 ≤ w 2 k ∧ w 2 k ≤ 255 := fun k hk => ⟨(h2 k).1, (hTX.2 k (by have := hTX.1; omega)).1⟩
  refine ok_w (ok_pc (c_rule0 (lf_li h)) (pc_and (pc_ok (e_E_rule h.1)) (er_pc a11 hf))) (fun r1 u1 q1 => ?_)
  obtain ⟨o1, ⟨g1, s1, _⟩, x1⟩ := q1
  have a13 : (0 : Int) ≤ u1 43 13 ∧ u1 43 13 ≤ 80 := s1.1.1 43 13
  refine ok_w (ok_pc o1 (pc_and (pc_ok (e_R_rule s1)) (rr_pc a13 (fun k => s1.1.1 51 k)))) (fun r2 u2 q2 => ?_)
  obtain ⟨hL, ⟨g2, s2, _⟩, x2⟩ := q2
  have f1 := fr_g (P := [(43, 13), (43, 27)]) (A := [51, 57]) g1 rfl
  have f2 := fr_g (P := [(19, 4)]) (A := [20]) g2 rfl
  have y13 : u1 43 13 = w 1 1 := (f1.1 (43, 13) (by decide)).trans hTX.1.symm
  have y27 : u1 43 27 = w 43 27 := f1.1 (43, 27) (by decide)
  have y51 := f1.2 51 (by decide)
  have y57 := f1.2 57 (by decide)
  have y194 : u2 19 4 = u1 19 4 := f2.1 (19, 4) (by decide)
  have y20 := f2.2 20 (by decide)
  have fc : FC u2 := fc_fr2 h.2 hL.2 (fr_tr (fr_g g1 rfl) (fr_g g2 rfl))
  unfold RRq at x2
  rw [y13, y51, y27, y57] at x2
  rcases x1 with ⟨n1, a1, b1⟩ | ⟨n1, b1, b2⟩
  · rcases x2 with ⟨n2, a2, c2⟩ | ⟨n2, _⟩
    · exact ⟨⟨⟨s2, fc⟩, Or.inl ⟨by rw [y194]; exact b1, c2⟩⟩, by omega⟩
    · omega
  · rcases x2 with ⟨n2, _⟩ | ⟨n2, ok, q, c, ho, c1, c2⟩
    · omega
    · have hsh := sh_tx (f2 := w 51) hf (fun k hk => (hTX.2 k (by have := hTX.1; omega)).2)
      rcases pg_top hsh (by omega) ho with ⟨t1, t2, t3, t4⟩ | ⟨t1, t2, t3, t4⟩
      · rw [t4] at b1
        obtain ⟨d1, d2, d3⟩ := b1 rfl
        obtain ⟨e1, e2, e3, e4⟩ := c1 ⟨t1, by omega⟩
        refine ⟨⟨⟨s2, fc⟩, Or.inr ⟨by omega, by omega, c, ?_, ?_, ?_, by omega⟩⟩, by omega⟩
        · rw [e2, hx_ext (by omega) e4, ho, t1, t2]
        · rw [y194]; exact d2
        · rw [y20]; exact d3
      · rw [t4] at b2
        obtain ⟨d1, d2, d3⟩ := b2 rfl
        obtain ⟨e1, e2, e3⟩ := c2 t1
        refine ⟨⟨⟨s2, fc⟩, ?_⟩, ?_⟩
        · unfold RU
          rw [y194, y20, e2, e3, d2, d3]
          exact hu
        · rw [d1, e1]
/-! A WEEK: who brings whom -/
def brn (bg : Nat → Int) : Nat → Nat → Bool
  | 0, _ => false
  | n + 1, q => brn bg n q || (bg n == (q : Int))
def byo (bg : Nat → Int) : Nat → Nat → Int
  | 0, _ => -1
  | n + 1, q => if bg n = (q : Int) then (n : Int) else byo bg n q
theorem brn_t {bg : Nat → Int} {q : Nat} : ∀ {n : Nat}, brn bg n q = true ↔ ∃ i, i < n ∧ bg i = q := by
  intro n
  induction n with
  | zero => exact ⟨(fun h => by cases h), (fun h => by obtain ⟨i, hi, _⟩ := h; omega)⟩
  | succ n ih =>
    rw [brn, Bool.or_eq_true, ih, beq_iff_eq]
    constructor
    · rintro (⟨i, hi, e⟩ | e)
      · exact ⟨i, by omega, e⟩
      · exact ⟨n, by omega, e⟩
    · rintro ⟨i, hi, e⟩
      by_cases c : i = n
      · rw [c] at e; exact Or.inr e
      · exact Or.inl ⟨i, by omega, e⟩
theorem brn_f {bg : Nat → Int} {q n : Nat} (h : ∀ i, i < n → bg i ≠ q) : brn bg n q = false := by
  cases hb : brn bg n q with
  | false => rfl
  | true =>
    obtain ⟨i, hi, e⟩ := brn_t.mp hb
    exact absurd e (h i hi)
theorem brn_eq {bg bg2 : Nat → Int} {q : Nat} : ∀ {n : Nat}, (∀ i, i < n → bg i = bg2 i) → brn bg n q = brn bg2 n q := by
  intro n
  induction n with
  | zero => intro _; rfl
  | succ n ih => intro h; rw [brn, brn, ih (fun i hi => h i (by omega)), h n (by omega)]
/-- nobody is brought by two -/
def INJ (n : Nat) (bg : Nat → Int) : Prop := ∀ i j, i < n → j < n → bg i = bg j → bg i ≠ -1 → i = j
theorem byo_e {bg : Nat → Int} {q : Nat} : ∀ {n i : Nat}, INJ n bg → i < n → bg i = q → byo bg n q = i := by
  intro n
  induction n with
  | zero => intro i _ h; omega
  | succ n ih =>
    intro i hI hi e
    rw [byo]
    by_cases c : bg n = (q : Int)
    · rw [if_pos c]
      have := hI i n hi (by omega) (e.trans c.symm) (by rw [e]; omega)
      omega
    · rw [if_neg c]
      refine ih (fun a b ha hb => hI a b (by omega) (by omega)) ?_ e
      by_cases c2 : i = n
      · rw [c2] at e; exact absurd e c
      · omega
theorem pn_1 {f : Nat → Bool} {c : Nat} : ∀ {n : Nat}, c < n → f c = false → pn (fun q => f q || ((c : Int) == (q : Int))) n = pn f n + 1 := by
  intro n
  induction n with
  | zero => intro h; omega
  | succ n ih =>
    intro hc hf
    rw [pn, pn]
    by_cases e : n = c
    · subst e
      have h0 : pn (fun q => f q || ((n : Int) == (q : Int))) n = pn f n := pn_eq (fun k hk => by
        rw [beq_eq_false_iff_ne.mpr (show ¬ (n : Int) = (k : Int) by omega), Bool.or_false])
      rw [h0, hf]
      simp
    · rw [ih (by omega) hf]
      have h1 : (f n || ((c : Int) == (n : Int))) = f n := by
        rw [beq_eq_false_iff_ne.mpr (show ¬ (c : Int) = (n : Int) by omega), Bool.or_false]
      rw [h1]; omega
/-- as many are brought as bring -/
theorem pn_brn {bg : Nat → Int} : ∀ {n : Nat}, INJ n bg → (∀ i, i < n → bg i = -1 ∨ (0 ≤ bg i ∧ bg i ≤ 9)) → pn (brn bg n) 10 = pn (fun i => !(bg i == -1)) n := by
  intro n
  induction n with
  | zero => intro _ _; exact pn_0 (fun k _ => rfl)
  | succ n ih =>
    intro hI hr
    have ih2 := ih (fun a b ha hb => hI a b (by omega) (by omega)) (fun i hi => hr i (by omega))
    rw [show pn (fun i => !(bg i == -1)) (n + 1) = pn (fun i => !(bg i == -1)) n + (if (!(bg n == -1)) = true then 1 else 0) from rfl]
    rcases hr n (by omega) with e | e
    · rw [show (!(bg n == -1)) = false from by rw [e]; rfl, if_neg (by decide), Nat.add_zero, ← ih2]
      refine pn_eq (f := brn bg (n + 1)) (g := brn bg n) (n := 10) (fun k hk => ?_)
      rw [brn, e, beq_eq_false_iff_ne.mpr (show ¬ (-1 : Int) = (k : Int) by omega), Bool.or_false]
    · have en : bg n = (((bg n).toNat : Nat) : Int) := by omega
      have hf : brn bg n (bg n).toNat = false := brn_f (fun i hi e2 => by
        have := hI i n (by omega) (by omega) (e2.trans en.symm) (by omega)
        omega)
      have h1 := pn_1 (f := brn bg n) (c := (bg n).toNat) (n := 10) (by omega) hf
      have hb : (!(bg n == -1)) = true := by rw [beq_eq_false_iff_ne.mpr (show ¬ bg n = -1 by omega)]; rfl
      rw [hb, if_pos rfl, ← ih2, ← h1]
      refine pn_eq (f := brn bg (n + 1)) (g := fun q => brn bg n q || (((bg n).toNat : Int) == (q : Int))) (n := 10) (fun k hk => ?_)
      rw [brn, ← en]
theorem bnow_pc {P : Int} {w : Wd} (hP : 0 ≤ P ∧ P ≤ 10) (h0 : w 43 0 = P) (hb : ∀ i : Nat, (i : Int) < P → w 58 i = -1 ∨ (0 ≤ w 58 i ∧ w 58 i ≤ 9)) : ∀ (n : Nat) {v1 v2 : Int}, 0 ≤ v2 → v2 ≤ P → B10 v1 (brn (w 58) v2.toNat) → PC (f_R_broughtNow_4 n v1 v2 w) (fun r u => u = w ∧ B10 r (brn (w 58) P.toNat)) := by
  intro n
  induction n with
  | zero => intros; exact pc_none
  | succ n ih =>
    intro v1 v2 i0 i1 hB1
    rw [f_R_broughtNow_4, h0]
    refine pc_ite (fun c => ?_) (fun c => ?_)
    · have e : v2 = P := by omega
      subst e
      exact pc_some ⟨rfl, hB1⟩
    · refine pc_gd (fun _ => ?_)
      have hv := hb v2.toNat (by omega)
      have nx : ∀ s : Int, B10 s (fun q => w 58 v2.toNat == (q : Int)) → PC (f_R_broughtNow_35 (f_R_broughtNow_4 n) v2 v1 s w) (fun r u => u = w ∧ B10 r (brn (w 58) P.toNat)) := by
        intro s e
        unfold f_R_broughtNow_35
        refine pc_let (fun x3 e3 => ?_)
        refine pc_let (fun x4 e4 => ?_)
        rw [wsucc (P := P) (by omega) (by omega)] at e4
        refine ih (by omega) (by omega) ?_
        rw [e3, e4, show (v2 + 1).toNat = v2.toNat + 1 by omega]
        exact b10_or hB1 e
      refine pc_ite (fun c2 => nx 0 ?_) (fun c2 => ?_)
      · refine b10_w b10_0 (fun k _ => ?_)
        rw [c2, beq_eq_false_iff_ne.mpr (show ¬ (-1 : Int) = (k : Int) by omega)]
      · refine pc_gd (fun _ => nx _ ?_)
        refine b10_w (b10_1 (i := w 58 v2.toNat) (by omega)) (fun k _ => ?_)
        by_cases ck : k = (w 58 v2.toNat).toNat
        · rw [decide_eq_true ck]
          exact (beq_iff_eq.mpr (by omega)).symm
        · rw [decide_eq_false ck]
          exact (beq_eq_false_iff_ne.mpr (by omega)).symm
theorem bn_pc {w : Wd} (hP : 0 ≤ w 43 0 ∧ w 43 0 ≤ 10) (hb : ∀ i : Nat, (i : Int) < w 43 0 → w 58 i = -1 ∨ (0 ≤ w 58 i ∧ w 58 i ≤ 9)) : PC (f_R_broughtNow w) (fun r u => u = w ∧ B10 r (brn (w 58) (w 43 0).toNat)) := by
  unfold f_R_broughtNow
  exact bnow_pc hP rfl hb FU (by decide) hP.1 b10_0
/-- brings -/
def bng (P : Int) (bg : Nat → Int) (q : Nat) : Bool := inP P q && !(bg q == -1)
def mvs (P : Int) (bg : Nat → Int) (q : Nat) : Bool := bng P bg q || brn bg P.toNat q
/-- a WEEK that may be, but for SEATS -/
def GWK (P : Int) (s h kn bg : Nat → Int) : Prop := INJ P.toNat bg ∧ ∀ i : Nat, (i : Int) < P → bg i = -1 ∨ ((0 ≤ bg i ∧ bg i < P) ∧ gst (s i) = true ∧ fre P s h (bg i).toNat = true ∧ bt (kn i) (bg i).toNat = true)
theorem fre_sr {P : Int} {s h : Nat → Int} {q : Nat} (hf : fre P s h q = true) : (q : Int) < P ∧ s q = 0 ∧ hB P h q = false := by
  unfold fre sr at hf
  rw [Bool.and_eq_true, Bool.and_eq_true, Bool.not_eq_true'] at hf
  exact ⟨inP_t hf.1.1, beq_iff_eq.mp hf.1.2, hf.2⟩
theorem gwk_r {P : Int} {s h kn bg : Nat → Int} (hg : GWK P s h kn bg) (hP : P ≤ 10) (i : Nat) (hi : (i : Int) < P) : bg i = -1 ∨ (0 ≤ bg i ∧ bg i ≤ 9) := by
  rcases hg.2 i hi with e | e
  · exact Or.inl e
  · exact Or.inr (by omega)
theorem brn_sr {P : Int} {s h kn bg : Nat → Int} (hg : GWK P s h kn bg) {q : Nat} (hb : brn bg P.toNat q = true) : (q : Int) < P ∧ s q = 0 ∧ fre P s h q = true := by
  obtain ⟨i, hi, e⟩ := brn_t.mp hb
  rcases hg.2 i (by omega) with e2 | ⟨_, _, e3, _⟩
  · omega
  · have e4 : (bg i).toNat = q := by omega
    rw [e4] at e3
    have := fre_sr e3
    exact ⟨this.1, this.2.1, e3⟩
theorem gwk_gs {P : Int} {s h kn bg : Nat → Int} (hg : GWK P s h kn bg) {q : Nat} (hb : bng P bg q = true) : gst (s q) = true := by
  unfold bng at hb
  rw [Bool.and_eq_true, Bool.not_eq_true', beq_eq_false_iff_ne] at hb
  rcases hg.2 q (inP_t hb.1) with e | e
  · exact absurd e hb.2
  · exact e.2.1
/-- how many are GUESTS then -/
def gth (P : Int) (s bg : Nat → Int) (g : Int) : Nat → Int
  | 0 => 0
  | n + 1 => gth P s bg g n + (if gst (s n) = true then (if bg n = -1 then (if g ≤ s n then 0 else 1) else 2) else 0)
theorem gth_e {P g : Int} {s h kn bg : Nat → Int} (hP : P ≤ 10) (hg : GWK P s h kn bg) : ∀ n : Nat, (n : Int) ≤ P → gth P s bg g n = ((2 * pn (fun i => !(bg i == -1)) n + pn (fun i => sty P s g i && (bg i == -1)) n : Nat) : Int) := by
  intro n
  induction n with
  | zero => intro _; rfl
  | succ n ih =>
    intro hn
    rw [gth, pn, pn, ih (by omega)]
    have hp : inP P n = true := decide_eq_true (by omega)
    have hsty : sty P s g n = (gst (s n) && decide (s n < g)) := by unfold sty gs; rw [hp]; rfl
    rcases hg.2 n (by omega) with e | ⟨e1, e2, _⟩
    · rw [e, hsty]
      cases hgs : gst (s n) with
      | false => simp
      | true =>
        by_cases c : g ≤ s n
        · rw [if_pos rfl, if_pos rfl, if_pos c, decide_eq_false (show ¬ s n < g by omega)]; simp
        · rw [if_pos rfl, if_pos rfl, if_neg c, decide_eq_true (show s n < g by omega)]
          simp
          omega
    · have ne : ¬ bg n = -1 := by omega
      rw [e2, if_pos rfl, if_neg ne, beq_eq_false_iff_ne.mpr ne]
      simp
      omega
theorem pn_cut {f : Nat → Bool} {n : Nat} : ∀ {m : Nat}, n ≤ m → (∀ k, n ≤ k → k < m → f k = false) → pn f m = pn f n := by
  intro m
  induction m with
  | zero => intro h _; rw [show n = 0 by omega]
  | succ m ih =>
    intro h hf
    by_cases c : n = m + 1
    · rw [c]
    · rw [pn, ih (by omega) (fun k h1 h2 => hf k h1 (by omega)), hf m (by omega) (by omega)]; rfl
/-- the class counts the same -/
theorem gth_pn {P g : Int} {s h kn bg : Nat → Int} (hP : 0 ≤ P ∧ P ≤ 10) (hg : GWK P s h kn bg) : ((pn (fun k => sty P s g k || mvs P bg k) 10 : Nat) : Int) = gth P s bg g P.toNat := by
  rw [gth_e hP.2 hg P.toNat (by omega), ← pn_brn hg.1 (fun i hi => gwk_r hg hP.2 i (by omega))]
  have e1 : pn (fun i => !(bg i == -1)) P.toNat = pn (bng P bg) 10 := by
    rw [pn_cut (f := bng P bg) (n := P.toNat) (m := 10) (by omega) (fun k h1 h2 => by
      unfold bng
      rw [show inP P k = false from decide_eq_false (by omega)]; rfl)]
    refine pn_eq (fun k hk => ?_)
    unfold bng
    rw [show inP P k = true from decide_eq_true (by omega)]; rfl
  have e2 : pn (fun i => sty P s g i && (bg i == -1)) P.toNat = pn (fun i => sty P s g i && !bng P bg i) 10 := by
    rw [pn_cut (f := fun i => sty P s g i && !bng P bg i) (n := P.toNat) (m := 10) (by omega) (fun k h1 h2 => by
      unfold sty gs
      rw [show inP P k = false from decide_eq_false (by omega)]; rfl)]
    refine pn_eq (fun k hk => ?_)
    unfold bng
    rw [show inP P k = true from decide_eq_true (by omega)]
    cases (bg k == -1) <;> simp
  have e3 : pn (fun k => sty P s g k || mvs P bg k) 10 = pn (fun k => (sty P s g k && !bng P bg k) || (bng P bg k || brn bg P.toNat k)) 10 := pn_eq (fun k _ => by
    unfold mvs
    cases sty P s g k <;> cases bng P bg k <;> cases brn bg P.toNat k <;> rfl)
  have d1 : ∀ k, k < 10 → (bng P bg k && brn bg P.toNat k) = false := fun k _ => by
    cases hb : bng P bg k with
    | false => rfl
    | true =>
      cases hr : brn bg P.toNat k with
      | false => rfl
      | true =>
        have h1 := gwk_gs hg hb
        rw [(brn_sr hg hr).2.1] at h1
        cases h1
  have d2 : ∀ k, k < 10 → ((sty P s g k && !bng P bg k) && (bng P bg k || brn bg P.toNat k)) = false := fun k _ => by
    cases hb : bng P bg k with
    | true => simp
    | false =>
      cases hr : brn bg P.toNat k with
      | false => simp
      | true =>
        have : sty P s g k = false := by
          unfold sty gs
          rw [(brn_sr hg hr).2.1]
          cases inP P k <;> rfl
        rw [this]; rfl
  have e4 : pn (fun k => (sty P s g k && !bng P bg k) || (bng P bg k || brn bg P.toNat k)) 10 = pn (fun k => sty P s g k && !bng P bg k) 10 + pn (fun k => bng P bg k || brn bg P.toNat k) 10 := pn_or d2
  have e5 : pn (fun k => bng P bg k || brn bg P.toNat k) 10 = pn (bng P bg) 10 + pn (brn bg P.toNat) 10 := pn_or d1
  have e6 := pn_brn hg.1 (fun i hi => gwk_r hg hP.2 i (by omega))
  rw [e3, e4, e5, e2]
  omega
theorem gt_pc {P g : Int} {w : Wd} (hP : 0 ≤ P ∧ P ≤ 10) (h0 : w 43 0 = P) (hgr : w 43 10 = g) (hs : ∀ i : Nat, (i : Int) < P → 0 ≤ w 47 i ∧ w 47 i ≤ 4) : ∀ (n : Nat) {v1 v2 : Int}, 0 ≤ v2 → v2 ≤ P → v1 = gth P (w 47) (w 58) g v2.toNat → (0 ≤ v1 ∧ v1 ≤ 2 * v2) → PC (f_R_guestsThen_4 n v1 v2 w) (fun r u => u = w ∧ r = gth P (w 47) (w 58) g P.toNat) := by
  intro n
  induction n with
  | zero => intros; exact pc_none
  | succ n ih =>
    intro v1 v2 i0 i1 h1 hr
    rw [f_R_guestsThen_4, h0]
    refine pc_ite (fun c => ?_) (fun c => ?_)
    · have e : v2 = P := by omega
      subst e
      exact pc_some ⟨rfl, h1⟩
    · refine pc_gd (fun _ => ?_)
      rw [isG_e, jc_s]
      have es := wsucc (v := v2) (P := P) (by omega) (by omega)
      have hgs : gth P (w 47) (w 58) g (v2.toNat + 1) = gth P (w 47) (w 58) g v2.toNat + (if gst (w 47 v2.toNat) = true then (if w 58 v2.toNat = -1 then (if g ≤ w 47 v2.toNat then 0 else 1) else 2) else 0) := rfl
      have fin : ∀ x : Int, x = gth P (w 47) (w 58) g (v2.toNat + 1) → (0 ≤ x ∧ x ≤ 2 * v2 + 2) → PC (f_R_guestsThen_66 (f_R_guestsThen_4 n) x v2 w) (fun r u => u = w ∧ r = gth P (w 47) (w 58) g P.toNat) := by
        intro x e hx
        unfold f_R_guestsThen_66
        refine pc_let (fun x4 e4 => ?_)
        rw [es] at e4
        rw [e4]
        exact ih (by omega) (by omega) (by rw [show (v2 + 1).toNat = v2.toNat + 1 by omega]; exact e) (by omega)
      have f64 : ∀ s : Int, (0 ≤ s ∧ s ≤ 2) → s = (if gst (w 47 v2.toNat) = true then (if w 58 v2.toNat = -1 then (if g ≤ w 47 v2.toNat then 0 else 1) else 2) else 0) → PC (f_R_guestsThen_64 (f_R_guestsThen_4 n) v2 v1 s w) (fun r u => u = w ∧ r = gth P (w 47) (w 58) g P.toNat) := by
        intro s s2 e
        unfold f_R_guestsThen_64
        have w1 := w32_sp (v1 + s)
        refine pc_let (fun x3 e3 => ?_)
        exact fin x3 (by rw [hgs, ← h1, ← e]; omega) (by omega)
      have sr := hs v2.toNat (by omega)
      cases hb : gst (w 47 v2.toNat) with
      | false =>
        refine pc_ite (fun _ => fin v1 ?_ (by omega)) (fun e => absurd rfl e)
        rw [hgs, hb, ← h1]; simp
      | true =>
        rw [hb] at f64
        refine pc_ite (fun e => absurd e (by decide)) (fun _ => ?_)
        refine pc_gd (fun _ => ?_)
        refine pc_ite (fun c1 => ?_) (fun c1 => ?_)
        · refine pc_gd (fun _ => ?_)
          have w1 := w32_sp (w 47 v2.toNat - 1)
          have w2 := w32_sp (w32 (w 47 v2.toNat - 1) + 1)
          rw [show w32 (w32 (w 47 v2.toNat - 1) + 1) = w 47 v2.toNat by omega, hgr]
          refine pc_ite (fun c2 => f64 0 (by decide) ?_) (fun c2 => f64 1 (by decide) ?_)
          · rw [if_pos rfl, if_pos c1, if_pos c2]
          · rw [if_pos rfl, if_pos c1, if_neg c2]
        · refine f64 2 (by decide) ?_
          rw [if_pos rfl, if_neg c1]
theorem gthen_pc {w : Wd} (hP : 0 ≤ w 43 0 ∧ w 43 0 ≤ 10) (hs : ∀ i : Nat, (i : Int) < w 43 0 → 0 ≤ w 47 i ∧ w 47 i ≤ 4) : PC (f_R_guestsThen w) (fun r u => u = w ∧ r = gth (w 43 0) (w 47) (w 58) (w 43 10) (w 43 0).toNat) := by
  unfold f_R_guestsThen
  exact gt_pc hP rfl rfl hs FU (by decide) hP.1 rfl (by decide)
/-! RULE'S VALUE: what the class's loop makes of the code -/
theorem ex_last : ∀ l : List Int, l = [] ∨ ∃ d k, l = d ++ [k]
  | [] => Or.inl rfl
  | a :: t => by
    rcases ex_last t with e | ⟨d, k, e⟩
    · rw [e]; exact Or.inr ⟨[], a, rfl⟩
    · rw [e]; exact Or.inr ⟨a :: d, k, rfl⟩
theorem sr_mid {f : Nat → Int} : ∀ {c1 c2 : List Int}, SR f (c1 ++ c2) → SR f c2
  | [], _, h => h
  | _ :: t, _, h => sr_mid (c1 := t) (sr_c h).2
def lst : List Int → Int
  | [] => 0
  | [a] => a
  | _ :: b :: t => lst (b :: t)
theorem sr_last {f : Nat → Int} : ∀ {l : List Int}, SR f l → l ≠ [] → f 0 = lst l
  | [], _, h => absurd rfl h
  | [_], h, _ => (sr_c h).1
  | _ :: b :: t, h, _ => sr_last (l := b :: t) (sr_c h).2 (by intro e; cases e)
theorem stp_ne (env : Int → Int) (k : Int) : ∀ s : List Int, stp env k s ≠ []
  | [] => by intro e; cases e
  | [a] => by
    show (if sgn k = 256 then [w32 (-a)] else [psh env k, a]) ≠ []
    by_cases c : sgn k = 256
    · rw [if_pos c]; intro e; cases e
    · rw [if_neg c]; intro e; cases e
  | b :: a :: t => by
    show (if sgn k = 256 then w32 (-b) :: a :: t else if 0 < stg (sgn k) then opr (sgn k) a b :: t else if t.length + 2 < 40 then psh env k :: b :: a :: t else b :: a :: t) ≠ []
    by_cases c : sgn k = 256
    · rw [if_pos c]; intro e; cases e
    · rw [if_neg c]
      by_cases c2 : 0 < stg (sgn k)
      · rw [if_pos c2]; intro e; cases e
      · rw [if_neg c2]
        by_cases c3 : t.length + 2 < 40
        · rw [if_pos c3]; intro e; cases e
        · rw [if_neg c3]; intro e; cases e
theorem stp_len (env : Int → Int) (k : Int) : ∀ s : List Int, s.length ≤ 40 → (stp env k s).length ≤ 40
  | [], _ => by show (1 : Nat) ≤ 40; decide
  | [a], _ => by
    show (if sgn k = 256 then [w32 (-a)] else [psh env k, a]).length ≤ 40
    by_cases c : sgn k = 256
    · rw [if_pos c]; show (1 : Nat) ≤ 40; decide
    · rw [if_neg c]; show (2 : Nat) ≤ 40; decide
  | b :: a :: t, h => by
    simp only [List.length_cons] at h
    show (if sgn k = 256 then w32 (-b) :: a :: t else if 0 < stg (sgn k) then opr (sgn k) a b :: t else if t.length + 2 < 40 then psh env k :: b :: a :: t else b :: a :: t).length ≤ 40
    by_cases c : sgn k = 256
    · rw [if_pos c]; simp only [List.length_cons]; omega
    · rw [if_neg c]
      by_cases c2 : 0 < stg (sgn k)
      · rw [if_pos c2]; simp only [List.length_cons]; omega
      · rw [if_neg c2]
        by_cases c3 : t.length + 2 < 40
        · rw [if_pos c3]; simp only [List.length_cons]; omega
        · rw [if_neg c3]; simp only [List.length_cons]; omega
theorem stp_256 {env : Int → Int} {k : Int} (z : sgn k = 256) (b : Int) : ∀ t : List Int, stp env k (b :: t) = w32 (-b) :: t
  | [] => if_pos z
  | _ :: _ => if_pos z
theorem rnr_len (env : Int → Int) : ∀ c : List Int, (rnr env c []).length ≤ 40
  | [] => by show (0 : Nat) ≤ 40; decide
  | k :: c => stp_len env k _ (rnr_len env c)
theorem op_e (k a b : Int) (w : Wd) : f_W_operate k a b w = some (opr k a b, w) := by
  unfold f_W_operate opr
  by_cases c1 : k = 42
  · rw [c1]; rfl
  · rw [if_neg c1]
    by_cases c2 : k = 43
    · rw [c2]; rfl
    · rw [if_neg c2]
      by_cases c3 : k = 45
      · rw [c3]; rfl
      · rw [if_neg c3]
        by_cases c4 : k = 60
        · rw [if_pos c4, if_pos c4]
          by_cases d : a < b
          · rw [if_neg (show ¬ b ≤ a by omega), if_pos d]
          · rw [if_pos (show b ≤ a by omega), if_neg d]
        · rw [if_neg c4, if_neg c4]
          by_cases c5 : k = 61
          · rw [if_pos c5, if_neg (show ¬ k = 62 by omega), if_pos c5]
            by_cases d : a = b
            · rw [if_pos d, if_pos d]
            · rw [if_neg d, if_neg d]
          · rw [if_neg c5]
            by_cases c6 : k = 62
            · rw [if_pos c6, if_pos c6]
              by_cases d : b < a
              · rw [if_neg (show ¬ a ≤ b by omega), if_pos d]
              · rw [if_pos (show a ≤ b by omega), if_neg d]
            · rw [if_neg c6, if_neg c6, if_neg c5, if_neg c2, if_neg c3, if_neg c1]
              by_cases d : b = 0
              · rw [if_pos d, if_pos d]
              · rw [if_neg d, if_neg d, if_neg d]
/-- the loop -/
theorem vl_pc {one other wk : Int} {env : Int → Int} {c : List Int} (x : Wd) (h4 : x 19 4 = c.length) (hc : c.length ≤ 40) (hS : SR (x 20) c) (hT : ∀ (v : Int) (y : Wd), (∀ d, d ≠ 23 → y d = x d) → PC (f_W_thing v one other wk y) (fun r u => u = y ∧ r = env v)) : ∀ (n : Nat) {w : Wd} {c1 c2 : List Int}, c = c1 ++ c2 → (∀ d, d ≠ 23 → w d = x d) → SR (w 23) (rnr env c2 []) → (rnr env c2 [] = [] → w 23 0 = 0) → PC (f_W_value_13 n one other wk ((rnr env c2 []).length : Int) (c2.length : Int) w) (fun r u => (∀ d, d ≠ 23 → u d = x d) ∧ r = lst (rnr env c [])) := by
  intro n
  induction n with
  | zero => intros; exact pc_none
  | succ n ih =>
    intro w c1 c2 hcc hx hR h0
    have hlen : c.length = c1.length + c2.length := by rw [hcc, List.length_append]
    have hl40 := rnr_len env c2
    rw [f_W_value_13, hx 19 (by decide), h4]
    rcases ex_last c1 with e | ⟨d, k, e⟩
    · rw [e] at hlen
      simp only [List.length_nil] at hlen
      refine pc_ite (fun _ => ?_) (fun z => absurd (by omega) z)
      refine pc_gd (fun _ => pc_some ⟨hx, ?_⟩)
      have ec : c = c2 := by rw [hcc, e]; rfl
      rw [ec]
      by_cases z : rnr env c2 [] = []
      · rw [z]; exact h0 z
      · exact sr_last hR z
    · rw [e] at hlen
      simp only [List.length_append, List.length_cons, List.length_nil] at hlen
      refine pc_ite (fun z => by omega) (fun _ => ?_)
      refine pc_gd (fun _ => ?_)
      have ec : c = d ++ (k :: c2) := by rw [hcc, e, List.append_assoc]; rfl
      have hk : x 20 c2.length = k := by
        have := hS
        rw [ec] at this
        exact (sr_c (sr_mid this)).1
      rw [hx 20 (by decide), show ((c2.length : Int)).toNat = c2.length from rfl, hk]
      refine pc_let (fun x2 e2 => ?_)
      have e2' : x2 = sgn k := e2
      subst e2'
      -- to the next
      have nxt : ∀ {u : Wd} {v5 : Int}, (∀ d, d ≠ 23 → u d = x d) → SR (u 23) (stp env k (rnr env c2 [])) → v5 = ((stp env k (rnr env c2 [])).length : Int) → PC (f_W_value_158 (f_W_value_13 n) one other wk v5 (c2.length : Int) u) (fun r u => (∀ d, d ≠ 23 → u d = x d) ∧ r = lst (rnr env c [])) := by
        intro u v5 hu hs hv
        unfold f_W_value_158
        refine pc_let (fun x5 e5 => ?_)
        have e6 : x5 = ((k :: c2).length : Int) := by
          rw [e5]
          exact (w32_id (by omega)).trans rfl
        rw [e6, hv]
        exact ih (c1 := d) (c2 := k :: c2) ec hu hs (fun z => absurd z (stp_ne env k _))
      -- one more
      have p117 : (rnr env c2 []).length < 40 → stp env k (rnr env c2 []) = psh env k :: rnr env c2 [] → ∀ {u : Wd}, (∀ d, u d = w d) → PC (f_W_value_117 (f_W_value_13 n) one other wk ((rnr env c2 []).length : Int) (c2.length : Int) (sgn k) u) (fun r u => (∀ d, d ≠ 23 → u d = x d) ∧ r = lst (rnr env c [])) := by
        intro hlt hst u hu
        unfold f_W_value_117
        refine pc_ite (fun z => by omega) (fun _ => ?_)
        have f154 : ∀ {u2 : Wd}, (∀ d, u2 d = w d) → PC (f_W_value_154 (f_W_value_13 n) one other wk ((rnr env c2 []).length : Int) (c2.length : Int) ((rnr env c2 []).length : Int) (psh env k) u2) (fun r u => (∀ d, d ≠ 23 → u d = x d) ∧ r = lst (rnr env c [])) := by
          intro u2 hu2
          unfold f_W_value_154
          refine pc_gd (fun _ => ?_)
          refine pc_lw (fun u8 e8 => ?_)
          refine pc_let (fun x9 e9 => ?_)
          refine nxt (fun d hd => ?_) ?_ ?_
          · rw [e8, st_row hd, hu2 d]; exact hx d hd
          · rw [hst]
            exact sr_push (w := u2) (c := 23) (by rw [hu2 23]; exact hR) e8
          · rw [e9, hst]
            exact (w32_id (by omega)).trans rfl
        refine pc_ite (fun z => ?_) (fun z => ?_)
        · refine pc_call (hT (sgn k) u (fun d hd => by rw [hu d]; exact hx d hd)) (fun r6 u7 y => ?_)
          rw [y.1, y.2, show env (sgn k) = psh env k from (if_pos z).symm]
          exact f154 hu
        · rw [show w32 (-(sgn k)) = psh env k from (if_neg z).symm]
          exact f154 hu
      have q67 : ¬ (sgn k = 256 ∧ rnr env c2 [] ≠ []) → PC (f_W_value_67 (f_W_value_13 n) one other wk ((rnr env c2 []).length : Int) (c2.length : Int) (sgn k) w) (fun r u => (∀ d, d ≠ 23 → u d = x d) ∧ r = lst (rnr env c [])) := by
        intro hn
        unfold f_W_value_67
        rw [stg_e, jc_s]
        generalize hs : rnr env c2 [] = s at *
        match s with
        | [] =>
          refine pc_ite (fun _ => p117 (by decide) rfl (fun _ => rfl)) (fun _ => ?_)
          refine pc_ite (fun _ => p117 (by decide) rfl (fun _ => rfl)) (fun z => absurd (by decide) z)
        | [a] =>
          have hst : stp env k [a] = psh env k :: [a] := by
            show (if sgn k = 256 then [w32 (-a)] else [psh env k, a]) = _
            rw [if_neg (fun z => hn ⟨z, by intro e; cases e⟩)]
          refine pc_ite (fun _ => p117 (show (1 : Nat) < 40 by decide) hst (fun _ => rfl)) (fun _ => ?_)
          refine pc_ite (fun _ => p117 (show (1 : Nat) < 40 by decide) hst (fun _ => rfl)) (fun z => absurd (show ((1 : Nat) : Int) ≤ 1 by decide) z)
        | b :: a :: t =>
          have n256 : ¬ sgn k = 256 := fun z => hn ⟨z, by intro e; cases e⟩
          simp only [List.length_cons] at hl40
          have eL : (((b :: a :: t).length : Nat) : Int) = (t.length : Int) + 2 := by simp only [List.length_cons]; omega
          have hst0 : stp env k (b :: a :: t) = if 0 < stg (sgn k) then opr (sgn k) a b :: t else if t.length + 2 < 40 then psh env k :: b :: a :: t else b :: a :: t := by
            show (if sgn k = 256 then _ else _) = _
            rw [if_neg n256]
          refine pc_ite (fun z => ?_) (fun z => ?_)
          · rw [if_neg (show ¬ 0 < stg (sgn k) by omega)] at hst0
            by_cases c3 : t.length + 2 < 40
            · rw [if_pos c3] at hst0
              exact p117 (by simp only [List.length_cons]; omega) hst0 (fun _ => rfl)
            · rw [if_neg c3] at hst0
              unfold f_W_value_117
              refine pc_ite (fun _ => ?_) (fun z => absurd (by rw [eL]; omega) z)
              refine nxt hx ?_ ?_
              · rw [hst0]; exact hR
              · rw [hst0]
          · rw [if_pos (show 0 < stg (sgn k) by omega)] at hst0
            refine pc_ite (fun z => by omega) (fun _ => ?_)
            refine pc_let (fun x10 e10 => ?_)
            rw [eL] at e10
            have w1 := w32_sp ((t.length : Int) + 2 + (-1))
            have e11 : x10 = (t.length : Int) + 1 := by omega
            have w2 := w32_sp (x10 - 1)
            rw [show w32 (x10 - 1) = (t.length : Int) by omega, e11, op_e, jc_s, show ((t.length : Int)).toNat = t.length from rfl, show ((t.length : Int) + 1).toNat = t.length + 1 from rfl]
            refine pc_gd (fun _ => ?_)
            refine pc_gd (fun _ => ?_)
            refine pc_gd (fun _ => ?_)
            refine pc_lw (fun u13 e13 => ?_)
            have rb := sr_c hR
            have ra := sr_c rb.2
            have rb1 : w 23 (t.length + 1) = b := rb.1
            rw [rb1, ra.1] at e13
            refine nxt (fun d hd => ?_) ?_ ?_
            · rw [e13, st_row hd]; exact hx d hd
            · rw [hst0]
              exact sr_push (w := w) (c := 23) ra.2 e13
            · rw [hst0, List.length_cons]; omega
      refine pc_ite (fun z => ?_) (fun z => q67 (fun h => z h.1))
      refine pc_ite (fun z2 => q67 (fun h => h.2 (List.eq_nil_of_length_eq_zero (by omega)))) (fun z2 => ?_)
      generalize hs : rnr env c2 [] = s at *
      match s with
      | [] => exact absurd (by decide) z2
      | b :: t =>
        have eL : (((b :: t).length : Nat) : Int) = (t.length : Int) + 1 := by simp only [List.length_cons]; omega
        have w1 := w32_sp ((t.length : Int) + 1 - 1)
        simp only [List.length_cons] at hl40
        have e1 : w32 ((((b :: t).length : Nat) : Int) - 1) = (t.length : Int) := by rw [eL]; omega
        rw [e1, show ((t.length : Int)).toNat = t.length from rfl]
        refine pc_gd (fun _ => ?_)
        refine pc_gd (fun _ => ?_)
        refine pc_lw (fun u14 e14 => ?_)
        have rb := sr_c hR
        rw [rb.1] at e14
        have hst : stp env k (b :: t) = w32 (-b) :: t := stp_256 z b t
        refine nxt (fun d hd => ?_) ?_ ?_
        · rw [e14, st_row hd]; exact hx d hd
        · rw [hst]
          exact sr_push (w := w) (c := 23) rb.2 e14
        · rw [hst, List.length_cons, List.length_cons]
theorem val_E {one other wk : Int} {env : Int → Int} {c : List Int} {w : Wd} (h4 : w 19 4 = c.length) (hc : c.length ≤ 40) (hS : SR (w 20) c) (hT : ∀ (v : Int) (y : Wd), (∀ d, d ≠ 23 → y d = w d) → PC (f_W_thing v one other wk y) (fun r u => u = y ∧ r = env v)) : PC (f_W_value one other wk w) (fun r u => (∀ d, d ≠ 23 → u d = w d) ∧ r = lst (rnr env c [])) := by
  unfold f_W_value
  refine pc_gd (fun _ => ?_)
  refine pc_lw (fun u1 e1 => ?_)
  exact vl_pc (c := c) w h4 hc hS hT FU (w := u1) (c1 := c) (c2 := []) (List.append_nil c).symm (fun d hd => by rw [e1, st_row hd]) rfl (fun _ => by rw [e1]; exact st_eq _ _ _ _)
theorem sms_0 {g : Nat → Int} : ∀ {n : Nat}, (∀ j, j < n → g j = 0) → sms g n = 0 := by
  intro n
  induction n with
  | zero => intro _; rfl
  | succ n ih => intro h; rw [sms, ih (fun j hj => h j (by omega)), h n (by omega)]; rfl
/-- one of them alone -/
theorem sms_1 {f : Nat → Bool} {g : Nat → Int} {i : Nat} : ∀ {n : Nat}, i < n → (∀ j, j < n → f j = decide (j = i)) → sms (fun j => if f j then g j else 0) n = g i := by
  intro n
  induction n with
  | zero => intro h; omega
  | succ n ih =>
    intro hi hf
    rw [sms]
    by_cases e : n = i
    · subst e
      rw [sms_0 (fun j hj => by rw [hf j (by omega), decide_eq_false (by omega)]; rfl), hf n (by omega), decide_eq_true rfl]
      simp
    · rw [ih (by omega) (fun j hj => hf j (by omega)), hf n (by omega), decide_eq_false e]
      simp
/-- the price of one -/
theorem pr1_e {i : Int} {w : Wd} (hP : 0 ≤ w 5 3 ∧ w 5 3 ≤ 10) (hi : 0 ≤ i ∧ i < w 5 3) (h6 : ∀ j : Nat, (0 : Int) ≤ w 6 j ∧ w 6 j ≤ 9) : PC (f_F_pricesOf (ishl 1 i) w) (fun r u => u = w ∧ r = w 6 i.toNat) := by
  refine pc_w (prs_pc hP h6) (fun r u q => ⟨q.1, ?_⟩)
  rw [q.2]
  exact sms_1 (by omega) (fun j hj => by rw [(b10_1 (i := i) (by omega)).2 j (by omega)])
theorem sr_eq {P : Int} {s t : Nat → Int} (e : ∀ k : Nat, (k : Int) < P → s k = t k) (k : Nat) : sr P s k = sr P t k := by
  unfold sr
  by_cases c : (k : Int) < P
  · rw [e k c]
  · rw [show inP P k = false from decide_eq_false c]; rfl
/-! WHAT A LETTER IS -/
def ENV (P : Int) (s pr kn : Nat → Int) (wk one other c : Int) : Int :=
  if c = 103 then ((pn (fun q => bt (kn other.toNat) q && gs P s q) 10 : Nat) : Int)
  else if c = 105 then other
  else if c = 107 then ((pn (bt (kn other.toNat)) 10 : Nat) : Int)
  else if c = 108 then s one.toNat - 1
  else if c = 110 then one
  else if c = 112 then pr other.toNat
  else if c = 115 then ((pn (fun q => bt (kn other.toNat) q && sr P s q) 10 : Nat) : Int)
  else wk
theorem thing_pc {P : Int} {s pr kn : Nat → Int} {wk one other c : Int} {w : Wd} (hP : 0 ≤ P ∧ P ≤ 10) (h3 : w 5 3 = P) (hw : WH (w 5 4) s P) (h6 : ∀ j : Nat, (j : Int) < P → w 6 j = pr j) (h7 : ∀ j : Nat, (j : Int) < P → w 7 j = kn j) (h6r : ∀ j : Nat, (0 : Int) ≤ w 6 j ∧ w 6 j ≤ 9) (hk : ∀ j : Nat, (j : Int) < P → 0 ≤ kn j ∧ kn j ≤ 1023) (h1 : 0 ≤ one ∧ one < P ∧ gst (s one.toNat) = true) (ho : 0 ≤ other ∧ other < P) : PC (f_W_thing c one other wk w) (fun r u => u = w ∧ r = ENV P s pr kn wk one other c) := by
  have bo : ((other.toNat : Nat) : Int) < P := by omega
  have b7 := b10_self (hk other.toNat bo)
  unfold f_W_thing
  refine pc_call (kn1_e (by omega) (by omega) (fun j hj => by rw [h7 j (by omega)]; exact hk j (by omega))) (fun r1 u2 y => ?_)
  rw [y.1, y.2, h7 other.toNat bo]
  unfold ENV
  refine pc_ite (fun z => pc_some ⟨rfl, ?_⟩) (fun z => ?_)
  · rw [if_neg (by omega), if_neg (by omega), if_neg (by omega), if_neg (by omega), if_neg (by omega), if_neg (by omega), if_neg (by omega)]
  refine pc_ite (fun z1 => ?_) (fun z1 => ?_)
  · refine pc_call (eg_e hw) (fun r3 u4 q => ?_)
    rw [q.1, bcs_e (b10_and b7 q.2.2), jc_s, if_pos z1]
    exact pc_some ⟨rfl, rfl⟩
  rw [if_neg z1]
  refine pc_ite (fun z2 => pc_some ⟨rfl, ?_⟩) (fun z2 => ?_)
  · rw [if_neg (by omega), if_neg (by omega), if_neg (by omega), if_neg (by omega), if_neg (by omega), if_neg (by omega)]
  refine pc_ite (fun z3 => pc_some ⟨rfl, ?_⟩) (fun z3 => ?_)
  · rw [if_pos z3]
  rw [if_neg z3]
  refine pc_ite (fun z4 => pc_some ⟨rfl, ?_⟩) (fun z4 => ?_)
  · rw [if_neg (by omega), if_neg (by omega), if_neg (by omega), if_neg (by omega), if_neg (by omega)]
  refine pc_ite (fun z5 => ?_) (fun z5 => ?_)
  · rw [bcs_e b7, jc_s, if_pos z5]
    exact pc_some ⟨rfl, rfl⟩
  rw [if_neg z5]
  refine pc_ite (fun z6 => ?_) (fun z6 => ?_)
  · rw [late_e hw, jc_s, if_pos z6, if_pos ⟨h1.1, by omega, by unfold gs; rw [h1.2.2, show inP P one.toNat = true from decide_eq_true (by omega)]; rfl⟩]
    exact pc_some ⟨rfl, rfl⟩
  rw [if_neg z6]
  refine pc_ite (fun z7 => pc_some ⟨rfl, ?_⟩) (fun z7 => ?_)
  · rw [if_neg (by omega), if_neg (by omega), if_neg (by omega)]
  refine pc_ite (fun z8 => pc_some ⟨rfl, ?_⟩) (fun z8 => ?_)
  · rw [if_pos z8]
  rw [if_neg z8]
  refine pc_ite (fun z9 => pc_some ⟨rfl, ?_⟩) (fun z9 => ?_)
  · rw [if_neg (by omega), if_neg (by omega)]
  refine pc_ite (fun za => ?_) (fun za => ?_)
  · refine pc_call (pr1_e (by omega) (by omega) h6r) (fun r11 u12 q => pc_some ?_)
    rw [if_pos za]
    exact ⟨q.1, by rw [q.2, h6 other.toNat bo]⟩
  rw [if_neg za]
  refine pc_ite (fun zb => pc_some ⟨rfl, ?_⟩) (fun zb => ?_)
  · rw [if_neg (by omega)]
  refine pc_ite (fun zc => pc_some ⟨rfl, ?_⟩) (fun zc => ?_)
  · rw [if_neg (by omega)]
  refine pc_ite (fun zd => ?_) (fun zd => pc_none)
  refine pc_call (es_e hw hP h3) (fun r13 u14 q => ?_)
  rw [q.1, bcs_e (b10_and b7 q.2.2), jc_s, if_pos zd]
  exact pc_some ⟨rfl, rfl⟩
theorem letter_pc {P : Int} {s pr kn : Nat → Int} {wk one other c : Int} {w : Wd} (hP : 0 ≤ P ∧ P ≤ 10) (h0 : w 43 0 = P) (hs : ∀ j : Nat, (j : Int) < P → w 47 j = s j) (h44 : ∀ j : Nat, (j : Int) < P → w 44 j = pr j) (h45 : ∀ j : Nat, (j : Int) < P → w 45 j = kn j) (h8 : w 43 8 = wk) (h28 : w 43 28 = other) (h29 : w 43 29 = one) (hk : ∀ j : Nat, (j : Int) < P → 0 ≤ kn j ∧ kn j ≤ 1023) (h1 : 0 ≤ one ∧ one < P) (hr : 0 ≤ s one.toNat ∧ s one.toNat ≤ 4) (ho : 0 ≤ other ∧ other < P) : PC (f_R_letter c w) (fun r u => u = w ∧ r = ENV P s pr kn wk one other c) := by
  have bo : ((other.toNat : Nat) : Int) < P := by omega
  have b7 := b10_self (hk other.toNat bo)
  have wkk : ENV P s pr kn wk one other c = wk → PC (f_R_letter_151 w) (fun r u => u = w ∧ r = ENV P s pr kn wk one other c) := by
    intro e
    rw [e]
    exact pc_some ⟨rfl, h8⟩
  unfold f_R_letter
  refine pc_ite (fun z => wkk ?_) (fun z => ?_)
  · unfold ENV
    rw [if_neg (by omega), if_neg (by omega), if_neg (by omega), if_neg (by omega), if_neg (by omega), if_neg (by omega), if_neg (by omega)]
  refine pc_ite (fun z1 => ?_) (fun z1 => ?_)
  · refine pc_gd (fun _ => ?_)
    refine pc_call (rg_e (by omega)) (fun r1 u2 q => ?_)
    rw [h28, h45 other.toNat bo, bcs_e (b10_and b7 q.2.2), jc_s]
    refine pc_some ⟨q.1, ?_⟩
    unfold ENV
    rw [if_pos z1]
    rw [h0]
    rw [pn_eq (fun k _ => by rw [gs_eq hs k])]
  refine pc_ite (fun z2 => wkk ?_) (fun z2 => ?_)
  · unfold ENV
    rw [if_neg (by omega), if_neg (by omega), if_neg (by omega), if_neg (by omega), if_neg (by omega), if_neg (by omega), if_neg (by omega)]
  refine pc_ite (fun z3 => pc_some ⟨rfl, ?_⟩) (fun z3 => ?_)
  · unfold ENV
    rw [if_neg z1, if_pos z3]; exact h28
  refine pc_ite (fun z4 => wkk ?_) (fun z4 => ?_)
  · unfold ENV
    rw [if_neg (by omega), if_neg (by omega), if_neg (by omega), if_neg (by omega), if_neg (by omega), if_neg (by omega), if_neg (by omega)]
  refine pc_ite (fun z5 => ?_) (fun z5 => ?_)
  · refine pc_gd (fun _ => ?_)
    rw [h28, h45 other.toNat bo, bcs_e b7, jc_s]
    refine pc_some ⟨rfl, ?_⟩
    unfold ENV
    rw [if_neg z1, if_neg z3, if_pos z5]
  refine pc_ite (fun z6 => ?_) (fun z6 => ?_)
  · refine pc_gd (fun _ => pc_some ⟨rfl, ?_⟩)
    unfold ENV
    rw [if_neg z1, if_neg z3, if_neg z5, if_pos z6, h29, hs one.toNat (by omega)]
    have := w32_sp (s one.toNat - 1)
    omega
  refine pc_ite (fun z7 => wkk ?_) (fun z7 => ?_)
  · unfold ENV
    rw [if_neg (by omega), if_neg (by omega), if_neg (by omega), if_neg (by omega), if_neg (by omega), if_neg (by omega), if_neg (by omega)]
  refine pc_ite (fun z8 => pc_some ⟨rfl, ?_⟩) (fun z8 => ?_)
  · unfold ENV
    rw [if_neg z1, if_neg z3, if_neg z5, if_neg z6, if_pos z8]; exact h29
  refine pc_ite (fun z9 => wkk ?_) (fun z9 => ?_)
  · unfold ENV
    rw [if_neg (by omega), if_neg (by omega), if_neg (by omega), if_neg (by omega), if_neg (by omega), if_neg (by omega), if_neg (by omega)]
  refine pc_ite (fun za => ?_) (fun za => ?_)
  · refine pc_gd (fun _ => pc_some ⟨rfl, ?_⟩)
    unfold ENV
    rw [if_neg z1, if_neg z3, if_neg z5, if_neg z6, if_neg z8, if_pos za, h28, h44 other.toNat bo]
  refine pc_ite (fun zb => wkk ?_) (fun zb => ?_)
  · unfold ENV
    rw [if_neg (by omega), if_neg (by omega), if_neg (by omega), if_neg (by omega), if_neg (by omega), if_neg (by omega), if_neg (by omega)]
  refine pc_ite (fun zc => wkk ?_) (fun zc => ?_)
  · unfold ENV
    rw [if_neg (by omega), if_neg (by omega), if_neg (by omega), if_neg (by omega), if_neg (by omega), if_neg (by omega), if_neg (by omega)]
  refine pc_ite (fun zd => ?_) (fun zd => pc_none)
  refine pc_gd (fun _ => ?_)
  refine pc_call (rs0_e (by omega)) (fun r7 u8 q => ?_)
  rw [h28, h45 other.toNat bo, bcs_e (b10_and b7 q.2.2), jc_s]
  refine pc_some ⟨q.1, ?_⟩
  unfold ENV
  rw [if_neg z1, if_neg z3, if_neg z5, if_neg z6, if_neg z8, if_neg za, if_pos zd, h0]
  rw [pn_eq (fun k _ => by rw [sr_eq hs k])]
/-! RULE'S VALUE BY BOTH -/
def RUC (c : List Int) (n : Int) (f : Nat → Int) : Prop := (c = [] ∧ n = 0) ∨ (0 < n ∧ n ≤ 40 ∧ pg (hx n f) 100 0 0 0 = some (true, n, c) ∧ c.length ≤ 40)
theorem ruc_e {w : Wd} (h : RU w) : ∃ c, RUC c (w 43 27) (w 57) ∧ w 19 4 = (c.length : Int) ∧ SR (w 20) c ∧ c.length ≤ 40 := by
  rcases h with ⟨e1, e2⟩ | ⟨e1, e2, c, e3, e4, e5, e6⟩
  · exact ⟨[], Or.inl ⟨rfl, e2⟩, e1, rfl, by decide⟩
  · exact ⟨c, Or.inr ⟨e1, e2, e3, e6⟩, e4, e5, e6⟩
def vlu (P : Int) (s pr kn : Nat → Int) (wk : Int) (c : List Int) (one : Int) (q : Nat) : Int := lst (rnr (ENV P s pr kn wk one (q : Int)) c [])
/-- what the reference's reading of a rule may change -/
def RXq (x u : Wd) : Prop := ∀ c k, ¬ (c = 43 ∧ ((17 ≤ k ∧ k ≤ 21) ∨ k = 28 ∨ k = 29)) → u c k = x c k
theorem rx_self (x : Wd) : RXq x x := fun _ _ _ => rfl
theorem rfor_pc {P : Int} {s pr kn : Nat → Int} {wk one other : Int} {c : List Int} {w : Wd} (hR : RUC c (w 43 27) (w 57)) (hP : 0 ≤ P ∧ P ≤ 10) (h0 : w 43 0 = P) (hs : ∀ j : Nat, (j : Int) < P → w 47 j = s j) (h44 : ∀ j : Nat, (j : Int) < P → w 44 j = pr j) (h45 : ∀ j : Nat, (j : Int) < P → w 45 j = kn j) (h8 : w 43 8 = wk) (hk : ∀ j : Nat, (j : Int) < P → 0 ≤ kn j ∧ kn j ≤ 1023) (h1 : 0 ≤ one ∧ one < P) (hr : 0 ≤ s one.toNat ∧ s one.toNat ≤ 4) (ho : 0 ≤ other ∧ other < P) : PC (f_R_ruleFor other one w) (fun r u => RXq w u ∧ r = vlu P s pr kn wk c one other.toNat) := by
  have eo : ((other.toNat : Nat) : Int) = other := by omega
  unfold f_R_ruleFor
  refine pc_ite (fun z => ?_) (fun z => ?_)
  · rcases hR with ⟨e1, e2⟩ | ⟨e1, e2, _⟩
    · refine pc_some ⟨rx_self w, ?_⟩
      unfold vlu
      rw [e1]
      rfl
    · omega
  rcases hR with ⟨e1, e2⟩ | ⟨e1, e2, e3, e4⟩
  · exact absurd e2 z
  unfold f_R_begin1_43_57
  have hbg : PC (jlw (st w 43 17 58) fun u1 => jlw (st u1 43 18 (w 43 27)) fun u2 => jlw (st u2 43 19 40) fun u3 => jlw (st u3 43 20 0) fun u4 => jlw (st u4 43 21 (-1)) fun u5 => some ((0 : Int), u5)) (fun _ u => u 43 17 = 58 ∧ u 43 18 = w 43 27 ∧ u 43 19 = 40 ∧ u 43 20 = 0 ∧ u 43 21 = -1 ∧ ∀ c k, ¬ (c = 43 ∧ 17 ≤ k ∧ k ≤ 21) → u c k = w c k) := by
    refine pc_lw (fun x1 z1 => ?_)
    refine pc_lw (fun x3 z3 => ?_)
    refine pc_lw (fun x4 z4 => ?_)
    refine pc_lw (fun x5 z5 => ?_)
    refine pc_lw (fun x6 z6 => pc_some ⟨?_, ?_, ?_, ?_, ?_, fun c k hc => ?_⟩)
    · rw [z6, st_k (by decide), z5, st_k (by decide), z4, st_k (by decide), z3, st_k (by decide), z1, st_eq]
    · rw [z6, st_k (by decide), z5, st_k (by decide), z4, st_k (by decide), z3, st_eq]
    · rw [z6, st_k (by decide), z5, st_k (by decide), z4, st_eq]
    · rw [z6, st_k (by decide), z5, st_eq]
    · rw [z6, st_eq]
    · rw [z6]; unfold st; rw [if_neg (by omega), z5]; unfold st; rw [if_neg (by omega), z4]; unfold st; rw [if_neg (by omega), z3]; unfold st; rw [if_neg (by omega), z1]; unfold st; rw [if_neg (by omega)]
  refine pc_call hbg (fun r3 u2 q => ?_)
  obtain ⟨q17, q18, q19, q20, q21, qo⟩ := q
  refine pc_lw (fun u3 e3' => ?_)
  refine pc_lw (fun u4 e4' => ?_)
  have f4 : ∀ c k, ¬ (c = 43 ∧ (k = 28 ∨ k = 29)) → u4 c k = u2 c k := fun c k hc => by
    rw [e4']; unfold st; rw [if_neg (by omega), e3']; unfold st; rw [if_neg (by omega)]
  have g4 : RXq w u4 := fun c k hc => by
    rw [f4 c k (by omega)]; exact qo c k (by omega)
  have g28 : u4 43 28 = other := by rw [e4', st_k (by decide), e3', st_eq]
  have g29 : u4 43 29 = one := by rw [e4', st_eq]
  have hX : RRX (w 43 27) (w 57) u4 := by
    refine ⟨?_, ?_, Or.inr ⟨?_, funext fun k => g4 57 k (by omega)⟩⟩
    · rw [f4 43 18 (by decide)]; exact q18
    · rw [f4 43 19 (by decide)]; exact q19
    · rw [f4 43 17 (by decide)]; exact q17
  have hE : EL (ENV P s pr kn wk one other) u4 := by
    refine Or.inr ⟨by omega, fun c p _ => ?_⟩
    have gy : ∀ c k, ¬ (c = 43 ∧ (17 ≤ k ∧ k ≤ 21 ∨ k = 28 ∨ k = 29)) → xw u4 p (-1) c k = w c k := fun c k hc => by
      rw [xw_o u4 p (-1) (by omega)]; exact g4 c k hc
    refine letter_pc hP (by rw [gy 43 0 (by decide)]; exact h0) (fun j hj => by rw [gy 47 j (by omega)]; exact hs j hj) (fun j hj => by rw [gy 44 j (by omega)]; exact h44 j hj) (fun j hj => by rw [gy 45 j (by omega)]; exact h45 j hj) (by rw [gy 43 8 (by decide)]; exact h8) ?_ ?_ hk h1 hr ho
    · rw [xw_o u4 p (-1) (by decide)]; exact g28
    · rw [xw_o u4 p (-1) (by decide)]; exact g29
  have e7 : u4 = xw u4 0 (-1) := by
    have := xw_self u4
    rw [f4 43 20 (by decide), q20, f4 43 21 (by decide), q21] at this
    exact this.symm
  have hg := grp_pc hX hE 100 0 0 0 (by decide) (by decide) (by decide) (by decide)
  rw [← e7, e3] at hg
  refine pc_call hg (fun r5 u6 y => pc_some ⟨fun c k hc => ?_, ?_⟩)
  · rw [y.1, xw_o u4 _ _ (by omega)]; exact g4 c k hc
  · have := y.2.1.2 [] (by simp only [List.length_nil]; omega)
    unfold vlu
    rw [eo, this]
    rfl
/-- the class's -/
theorem vfor_pc {P : Int} {s pr kn : Nat → Int} {wk one other : Int} {c : List Int} {w : Wd} (h4 : w 19 4 = c.length) (hc : c.length ≤ 40) (hS : SR (w 20) c) (hP : 0 ≤ P ∧ P ≤ 10) (h3 : w 5 3 = P) (hw : WH (w 5 4) s P) (h6 : ∀ j : Nat, (j : Int) < P → w 6 j = pr j) (h7 : ∀ j : Nat, (j : Int) < P → w 7 j = kn j) (h6r : ∀ j : Nat, (0 : Int) ≤ w 6 j ∧ w 6 j ≤ 9) (hk : ∀ j : Nat, (j : Int) < P → 0 ≤ kn j ∧ kn j ≤ 1023) (h1 : 0 ≤ one ∧ one < P ∧ gst (s one.toNat) = true) (ho : 0 ≤ other ∧ other < P) : PC (f_W_value one other wk w) (fun r u => (∀ d, d ≠ 23 → u d = w d) ∧ r = vlu P s pr kn wk c one other.toNat) := by
  have eo : ((other.toNat : Nat) : Int) = other := by omega
  unfold vlu
  rw [eo]
  refine val_E h4 hc hS (fun v y hy => ?_)
  refine thing_pc hP (by rw [hy 5 (by decide)]; exact h3) (by rw [hy 5 (by decide)]; exact hw) (fun j hj => by rw [hy 6 (by decide)]; exact h6 j hj) (fun j hj => by rw [hy 7 (by decide)]; exact h7 j hj) (fun j => by rw [hy 6 (by decide)]; exact h6r j) hk h1 ho
/-! THE FAVOURITE -/
def fvt (ok : Nat → Bool) (val : Nat → Int) : Nat → Int × Int
  | 0 => (-1, -1)
  | n + 1 => if ok n = true ∧ (fvt ok val n).2 < val n then ((n : Int), val n) else fvt ok val n
theorem fvt_rg (ok : Nat → Bool) (val : Nat → Int) : ∀ n : Nat, ((fvt ok val n).1 = -1 ∧ (fvt ok val n).2 = -1) ∨ ((0 ≤ (fvt ok val n).1 ∧ (fvt ok val n).1 < n) ∧ 0 ≤ (fvt ok val n).2 ∧ ok (fvt ok val n).1.toNat = true) := by
  intro n
  induction n with
  | zero => exact Or.inl ⟨rfl, rfl⟩
  | succ n ih =>
    rw [fvt]
    by_cases c : ok n = true ∧ (fvt ok val n).2 < val n
    · rw [if_pos c]
      refine Or.inr ⟨⟨Int.natCast_nonneg n, by show (n : Int) < ((n + 1 : Nat) : Int); omega⟩, ?_, c.1⟩
      show 0 ≤ val n
      have := c.2
      rcases ih with e | e
      · omega
      · omega
    · rw [if_neg c]
      rcases ih with e | e
      · exact Or.inl e
      · exact Or.inr ⟨by omega, e.2⟩
theorem fvt_no {ok : Nat → Bool} {val : Nat → Int} : ∀ {n : Nat}, (∀ q, q < n → ok q = false) → fvt ok val n = (-1, -1) := by
  intro n
  induction n with
  | zero => intro _; rfl
  | succ n ih =>
    intro h
    rw [fvt, if_neg (fun c => by rw [h n (by omega)] at c; cases c.1)]
    exact ih (fun q hq => h q (by omega))
/-- the class's -/
theorem fav_pc {P v3 wk one : Int} {ok : Nat → Bool} {val : Nat → Int} (x : Wd) (hP : 0 ≤ P ∧ P ≤ 10) (h3 : x 5 3 = P) (hB : B10 v3 ok) (hV : ∀ (q : Nat) (y : Wd), (q : Int) < P → ok q = true → (∀ d, d ≠ 23 → y d = x d) → PC (f_W_value one (q : Int) wk y) (fun r u => (∀ d, d ≠ 23 → u d = y d) ∧ r = val q)) : ∀ (n : Nat) {w : Wd} {v5 v6 v7 : Int}, 0 ≤ v7 → v7 ≤ P → (∀ d, d ≠ 23 → w d = x d) → v5 = (fvt ok val v7.toNat).1 → v6 = (fvt ok val v7.toNat).2 → PC (f_W_favourite_9 n one v3 wk v5 v6 v7 w) (fun r u => (∀ d, d ≠ 23 → u d = x d) ∧ r = (fvt ok val P.toNat).1) := by
  intro n
  induction n with
  | zero => intros; exact pc_none
  | succ n ih =>
    intro w v5 v6 v7 i0 i1 hx h5 h6
    rw [f_W_favourite_9, hx 5 (by decide), h3]
    refine pc_ite (fun z => ?_) (fun z => ?_)
    · have e : v7 = P := by omega
      rw [e] at h5
      exact pc_some ⟨hx, h5⟩
    · rw [has_10 w hB (by omega), jc_s]
      have w1 := wsucc (v := v7) (P := P) (by omega) (by omega)
      have nx : ∀ {u : Wd} {a b : Int}, (∀ d, d ≠ 23 → u d = x d) → a = (fvt ok val (v7.toNat + 1)).1 → b = (fvt ok val (v7.toNat + 1)).2 → PC (f_W_favourite_54 (f_W_favourite_9 n) one v3 wk a b v7 u) (fun r u => (∀ d, d ≠ 23 → u d = x d) ∧ r = (fvt ok val P.toNat).1) := by
        intro u a b hu ha hb
        unfold f_W_favourite_54
        refine pc_let (fun x3 e3 => ?_)
        rw [w1] at e3
        rw [e3]
        have e4 : (v7 + 1).toNat = v7.toNat + 1 := by omega
        exact ih (by omega) (by omega) hu (by rw [e4]; exact ha) (by rw [e4]; exact hb)
      have ef : fvt ok val (v7.toNat + 1) = if ok v7.toNat = true ∧ (fvt ok val v7.toNat).2 < val v7.toNat then (((v7.toNat : Nat) : Int), val v7.toNat) else fvt ok val v7.toNat := rfl
      cases hb : ok v7.toNat with
      | false =>
        refine pc_ite (fun _ => ?_) (fun c => absurd rfl c)
        rw [hb, if_neg (fun c => by cases c.1)] at ef
        exact nx hx (by rw [ef]; exact h5) (by rw [ef]; exact h6)
      | true =>
        refine pc_ite (fun c => absurd c (by decide)) (fun _ => ?_)
        have hv := hV v7.toNat w (by omega) hb hx
        rw [show ((v7.toNat : Nat) : Int) = v7 by omega] at hv
        refine pc_call hv (fun r4 u5 y => ?_)
        have hu : ∀ d, d ≠ 23 → u5 d = x d := fun d hd => (y.1 d hd).trans (hx d hd)
        rw [hb] at ef
        refine pc_ite (fun c => ?_) (fun c => ?_)
        · rw [if_neg (fun c2 => by have := c2.2; omega)] at ef
          exact nx hu (by rw [ef]; exact h5) (by rw [ef]; exact h6)
        · rw [if_pos ⟨rfl, by omega⟩] at ef
          exact nx hu (by rw [ef]; show v7 = ((v7.toNat : Nat) : Int); omega) (by rw [ef]; exact y.2)
theorem fav_E {P v3 wk one : Int} {ok : Nat → Bool} {val : Nat → Int} {x : Wd} (hP : 0 ≤ P ∧ P ≤ 10) (h3 : x 5 3 = P) (hB : B10 v3 ok) (hV : ∀ (q : Nat) (y : Wd), (q : Int) < P → ok q = true → (∀ d, d ≠ 23 → y d = x d) → PC (f_W_value one (q : Int) wk y) (fun r u => (∀ d, d ≠ 23 → u d = y d) ∧ r = val q)) : PC (f_W_favourite one v3 wk x) (fun r u => (∀ d, d ≠ 23 → u d = x d) ∧ r = (fvt ok val P.toNat).1) := by
  unfold f_W_favourite
  exact fav_pc x hP h3 hB hV FU (by decide) hP.1 (fun _ _ => rfl) rfl rfl
/-! WHO CHOOSES WHOM -/
def put (bg : Nat → Int) (i : Nat) (v : Int) (j : Nat) : Int := if j = i then v else bg j
theorem put_i (bg : Nat → Int) (i : Nat) (v : Int) : put bg i v i = v := if_pos rfl
theorem put_n {bg : Nat → Int} {i j : Nat} {v : Int} (h : j ≠ i) : put bg i v j = bg j := if_neg h
theorem put_id {bg : Nat → Int} {i : Nat} {v : Int} (h : bg i = v) : put bg i v = bg := by
  funext j
  by_cases c : j = i
  · rw [c, put_i, h]
  · rw [put_n c]
theorem brn_put {bg : Nat → Int} {i q : Nat} {v : Int} (hb : bg i = -1) : ∀ {n : Nat}, i < n → brn (put bg i v) n q = (brn bg n q || (v == (q : Int))) := by
  intro n
  induction n with
  | zero => intro h; omega
  | succ n ih =>
    intro h
    rw [brn, brn]
    by_cases c : n = i
    · subst c
      rw [put_i, hb, beq_eq_false_iff_ne.mpr (show ¬ (-1 : Int) = (q : Int) by omega), Bool.or_false, brn_eq (fun k hk => put_n (by omega))]
    · rw [ih (by omega), put_n c, Bool.or_assoc, Bool.or_assoc, Bool.or_comm (v == (q : Int))]
theorem bng_put {P : Int} {bg : Nat → Int} {i : Nat} {v : Int} (hi : (i : Int) < P) (hv : 0 ≤ v) (k : Nat) : bng P (put bg i v) k = (bng P bg k || decide (k = i)) := by
  unfold bng
  by_cases c : k = i
  · subst c
    rw [put_i, decide_eq_true rfl, Bool.or_true, beq_eq_false_iff_ne.mpr (show ¬ v = -1 by omega), show inP P k = true from decide_eq_true hi]; rfl
  · rw [put_n c, decide_eq_false c, Bool.or_false]
theorem mvs_put {P : Int} {bg : Nat → Int} {i : Nat} {v : Int} (hi : (i : Int) < P) (hv : 0 ≤ v) (hb : bg i = -1) (k : Nat) : mvs P (put bg i v) k = (mvs P bg k || (decide (k = i) || decide (k = v.toNat))) := by
  unfold mvs
  rw [bng_put hi hv, brn_put hb (show i < P.toNat by omega)]
  have : (v == (k : Int)) = decide (k = v.toNat) := by
    by_cases c : k = v.toNat
    · rw [decide_eq_true c]; exact beq_iff_eq.mpr (by omega)
    · rw [decide_eq_false c]; exact beq_eq_false_iff_ne.mpr (by omega)
  rw [this]
  cases bng P bg k <;> cases brn bg P.toNat k <;> cases decide (k = i) <;> cases decide (k = v.toNat) <;> rfl
theorem gth_eq {P g : Int} {s b1 b2 : Nat → Int} : ∀ {n : Nat}, (∀ k, k < n → b1 k = b2 k) → gth P s b1 g n = gth P s b2 g n := by
  intro n
  induction n with
  | zero => intro _; rfl
  | succ n ih => intro h; rw [gth, gth, ih (fun k hk => h k (by omega)), h n (by omega)]
/-- whom one may bring -/
def okc (P : Int) (s h kn bg : Nat → Int) (i q : Nat) : Bool := (fre P s h q && bt (kn i) q) && !brn bg P.toNat q
def chs (P g seats : Int) (s h pr kn : Nat → Int) (wk : Int) (c : List Int) (bg : Nat → Int) (i : Nat) : Int :=
  if (fvt (okc P s h kn bg i) (vlu P s pr kn wk c (i : Int)) P.toNat).1 = -1 then -1
  else if gth P s (put bg i (fvt (okc P s h kn bg i) (vlu P s pr kn wk c (i : Int)) P.toNat).1) g P.toNat ≤ seats then (fvt (okc P s h kn bg i) (vlu P s pr kn wk c (i : Int)) P.toNat).1 else -1
theorem chs_eq {P g seats : Int} {s h pr kn : Nat → Int} {wk : Int} {c : List Int} {b1 b2 : Nat → Int} {i : Nat} (e : ∀ k : Nat, (k : Int) < P → b1 k = b2 k) : chs P g seats s h pr kn wk c b1 i = chs P g seats s h pr kn wk c b2 i := by
  have e1 : okc P s h kn b1 i = okc P s h kn b2 i := by
    funext q
    unfold okc
    rw [brn_eq (fun k hk => e k (by omega))]
  have e2 : ∀ v : Int, gth P s (put b1 i v) g P.toNat = gth P s (put b2 i v) g P.toNat := fun v => gth_eq (fun k hk => by
    by_cases ck : k = i
    · rw [ck, put_i, put_i]
    · rw [put_n ck, put_n ck, e k (by omega)])
  unfold chs
  rw [e1, e2]
/-- all of them in their order -/
def plf (P g seats : Int) (s h pr kn : Nat → Int) (wk : Int) (c : List Int) : Nat → Nat → Int
  | 0 => fun _ => -1
  | n + 1 => if gst (s n) = true then put (plf P g seats s h pr kn wk c n) n (chs P g seats s h pr kn wk c (plf P g seats s h pr kn wk c n) n) else plf P g seats s h pr kn wk c n
theorem plf_m {P g seats : Int} {s h pr kn : Nat → Int} {wk : Int} {c : List Int} : ∀ (n : Nat) {j : Nat}, n ≤ j → plf P g seats s h pr kn wk c n j = -1 := by
  intro n
  induction n with
  | zero => intro j _; rfl
  | succ n ih =>
    intro j hj
    rw [plf]
    by_cases c1 : gst (s n) = true
    · rw [if_pos c1, put_n (by omega)]; exact ih (by omega)
    · rw [if_neg c1]; exact ih (by omega)
theorem gwk_0 {P : Int} {s h kn bg : Nat → Int} (hb : ∀ i : Nat, (i : Int) < P → bg i = -1) : GWK P s h kn bg :=
  ⟨fun i j hi _ _ hn => absurd (hb i (by omega)) hn, fun i hi => Or.inl (hb i hi)⟩
theorem gwk_put {P : Int} {s h kn bg : Nat → Int} {i : Nat} {v : Int} (hg : GWK P s h kn bg) (hi : (i : Int) < P) (hb : bg i = -1) (hs : gst (s i) = true) (hv : 0 ≤ v ∧ v < P) (ho : okc P s h kn bg i v.toNat = true) : GWK P s h kn (put bg i v) := by
  unfold okc at ho
  rw [Bool.and_eq_true, Bool.and_eq_true, Bool.not_eq_true'] at ho
  have nb : ∀ j : Nat, j < P.toNat → bg j ≠ v := fun j hj e => by
    have : brn bg P.toNat v.toNat = true := brn_t.mpr ⟨j, hj, by omega⟩
    rw [ho.2] at this; cases this
  refine ⟨fun a b ha hb2 e hn => ?_, fun a ha => ?_⟩
  · by_cases c1 : a = i
    · by_cases c2 : b = i
      · omega
      · rw [c1, put_i, put_n c2] at e
        exact absurd e.symm (nb b hb2)
    · by_cases c2 : b = i
      · rw [c2, put_i, put_n c1] at e
        exact absurd e (nb a ha)
      · rw [put_n c1, put_n c2] at e
        rw [put_n c1] at hn
        exact hg.1 a b ha hb2 e hn
  · by_cases c1 : a = i
    · rw [c1, put_i]; exact Or.inr ⟨hv, hs, ho.1.1, ho.1.2⟩
    · rw [put_n c1]; exact hg.2 a ha
theorem chs_rg {P g seats : Int} {s h pr kn : Nat → Int} {wk : Int} {c : List Int} {bg : Nat → Int} {i : Nat} (hP : 0 ≤ P) : chs P g seats s h pr kn wk c bg i = -1 ∨ ((0 ≤ chs P g seats s h pr kn wk c bg i ∧ chs P g seats s h pr kn wk c bg i < P) ∧ okc P s h kn bg i (chs P g seats s h pr kn wk c bg i).toNat = true) := by
  have hr := fvt_rg (okc P s h kn bg i) (vlu P s pr kn wk c (i : Int)) P.toNat
  unfold chs
  by_cases c1 : (fvt (okc P s h kn bg i) (vlu P s pr kn wk c (i : Int)) P.toNat).1 = -1
  · rw [if_pos c1]; exact Or.inl rfl
  · rw [if_neg c1]
    rcases hr with e | e
    · exact absurd e.1 c1
    · by_cases c2 : gth P s (put bg i (fvt (okc P s h kn bg i) (vlu P s pr kn wk c (i : Int)) P.toNat).1) g P.toNat ≤ seats
      · rw [if_pos c2]; exact Or.inr ⟨by omega, e.2.2⟩
      · rw [if_neg c2]; exact Or.inl rfl
theorem plf_gwk {P g seats : Int} {s h pr kn : Nat → Int} {wk : Int} {c : List Int} (hP : 0 ≤ P) : ∀ n : Nat, (n : Int) ≤ P → GWK P s h kn (plf P g seats s h pr kn wk c n) := by
  intro n
  induction n with
  | zero => intro _; exact gwk_0 (fun _ _ => rfl)
  | succ n ih =>
    intro hn
    have hi := ih (by omega)
    have hm := plf_m (P := P) (g := g) (seats := seats) (s := s) (h := h) (pr := pr) (kn := kn) (wk := wk) (c := c) n (Nat.le_refl n)
    rw [plf]
    by_cases c1 : gst (s n) = true
    · rw [if_pos c1]
      rcases chs_rg (P := P) (g := g) (seats := seats) (s := s) (h := h) (pr := pr) (kn := kn) (wk := wk) (c := c) (bg := plf P g seats s h pr kn wk c n) (i := n) hP with e | e
      · rw [e, put_id hm]; exact hi
      · exact gwk_put hi (by omega) hm c1 e.1 e.2
    · rw [if_neg c1]; exact hi
/-! THE REFERENCE CHOOSES -/
theorem hasR_10 {x k : Int} {f : Nat → Bool} (w : Wd) (h : B10 x f) (hk : 0 ≤ k ∧ k < 10) : f_R_has x k w = some (if f k.toNat then 1 else 0, w) := by
  unfold f_R_has
  rw [bit_i (by omega), h.2 k.toNat (by omega)]
  cases f k.toNat <;> rfl
theorem cho_pc {P v2 one g seats : Int} {ok : Nat → Bool} {val : Nat → Int} (x : Wd) (hP : 0 ≤ P ∧ P ≤ 10) (h0 : x 43 0 = P) (h10 : x 43 10 = g) (h11 : x 43 11 = seats) (hs : ∀ j : Nat, (j : Int) < P → 0 ≤ x 47 j ∧ x 47 j ≤ 4) (h58 : x 58 one.toNat = -1) (hB : B10 v2 ok) (hV : ∀ (q : Nat) (y : Wd), (q : Int) < P → ok q = true → RXq x y → PC (f_R_ruleFor (q : Int) one y) (fun r u => RXq y u ∧ r = val q)) : ∀ (n : Nat) {w : Wd} {v3 v4 v5 : Int}, 0 ≤ v5 → v5 ≤ P → RXq x w → v3 = (fvt ok val v5.toNat).1 → (v3 = -1 ∨ v4 = (fvt ok val v5.toNat).2) → PC (f_R_choice_27 n one v2 v3 v4 v5 w) (fun r u => RXq x u ∧ r = if (fvt ok val P.toNat).1 = -1 then -1 else if gth P (x 47) (put (x 58) one.toNat (fvt ok val P.toNat).1) g P.toNat ≤ seats then (fvt ok val P.toNat).1 else -1) := by
  intro n
  induction n with
  | zero => intros; exact pc_none
  | succ n ih =>
    intro w v3 v4 v5 i0 i1 hx h3 h4
    rw [f_R_choice_27, hx 43 0 (by decide), h0]
    refine pc_ite (fun z => ?_) (fun z => ?_)
    · have e : v5 = P := by omega
      rw [e] at h3
      rw [← h3]
      refine pc_ite (fun c => ?_) (fun c => ?_)
      · rw [if_pos c]; exact pc_some ⟨hx, rfl⟩
      · rw [if_neg c]
        refine pc_gd (fun _ => ?_)
        refine pc_lw (fun u6 e6 => ?_)
        have o6 : ∀ c k, c ≠ 58 → u6 c k = w c k := fun c k hc => by rw [e6, st_c hc]
        have r47 : u6 47 = x 47 := funext fun k => (o6 47 k (by decide)).trans (hx 47 k (by omega))
        have r58 : u6 58 = put (x 58) one.toNat v3 := funext fun k => by
          by_cases ck : k = one.toNat
          · rw [ck, put_i, e6, st_eq]
          · rw [put_n ck, e6, st_k ck]; exact hx 58 k (by omega)
        have q0 : u6 43 0 = P := (o6 43 0 (by decide)).trans ((hx 43 0 (by decide)).trans h0)
        have q10 : u6 43 10 = g := (o6 43 10 (by decide)).trans ((hx 43 10 (by decide)).trans h10)
        have hgt := gthen_pc (w := u6) (by omega) (fun i hi => by rw [r47]; exact hs i (by omega))
        rw [q0, q10, r47, r58] at hgt
        refine pc_call hgt (fun r7 u8 y => ?_)
        refine pc_gd (fun _ => ?_)
        refine pc_lw (fun u9 e9 => ?_)
        have hx9 : RXq x u9 := fun c k hc => by
          rw [e9, y.1]
          by_cases c1 : c = 58
          · subst c1
            by_cases ck : k = one.toNat
            · rw [ck, st_eq]; exact h58.symm
            · rw [st_k ck, e6, st_k ck]; exact hx 58 k (by omega)
          · rw [st_c c1, o6 c k c1]; exact hx c k hc
        rw [hx9 43 11 (by decide), h11, y.2]
        refine pc_ite (fun c2 => ?_) (fun c2 => ?_)
        · rw [if_pos c2]; exact pc_some ⟨hx9, rfl⟩
        · rw [if_neg c2]; exact pc_some ⟨hx9, rfl⟩
    · rw [hasR_10 w hB (by omega), jc_s]
      have w1 := wsucc (v := v5) (P := P) (by omega) (by omega)
      have nx : ∀ {u : Wd} {a b : Int}, RXq x u → a = (fvt ok val (v5.toNat + 1)).1 → (a = -1 ∨ b = (fvt ok val (v5.toNat + 1)).2) → PC (f_R_choice_84 (f_R_choice_27 n) one v2 a b v5 u) (fun r u => RXq x u ∧ r = if (fvt ok val P.toNat).1 = -1 then -1 else if gth P (x 47) (put (x 58) one.toNat (fvt ok val P.toNat).1) g P.toNat ≤ seats then (fvt ok val P.toNat).1 else -1) := by
        intro u a b hu ha hb
        unfold f_R_choice_84
        refine pc_let (fun x3 e3 => ?_)
        rw [w1] at e3
        rw [e3]
        have e4 : (v5 + 1).toNat = v5.toNat + 1 := by omega
        exact ih (by omega) (by omega) hu (by rw [e4]; exact ha) (by rw [e4]; exact hb)
      have ef : fvt ok val (v5.toNat + 1) = if ok v5.toNat = true ∧ (fvt ok val v5.toNat).2 < val v5.toNat then (((v5.toNat : Nat) : Int), val v5.toNat) else fvt ok val v5.toNat := rfl
      have hrg := fvt_rg ok val v5.toNat
      cases hb : ok v5.toNat with
      | false =>
        refine pc_ite (fun _ => ?_) (fun c => absurd rfl c)
        rw [hb, if_neg (fun c => by cases c.1)] at ef
        exact nx hx (by rw [ef]; exact h3) (by rw [ef]; exact h4)
      | true =>
        refine pc_ite (fun c => absurd c (by decide)) (fun _ => ?_)
        have hv := hV v5.toNat w (by omega) hb hx
        rw [show ((v5.toNat : Nat) : Int) = v5 by omega] at hv
        refine pc_call hv (fun r4 u5 y => ?_)
        have hu : RXq x u5 := fun c k hc => (y.1 c k hc).trans (hx c k hc)
        rw [hb] at ef
        have keep : ¬ (fvt ok val v5.toNat).2 < val v5.toNat → PC (f_R_choice_84 (f_R_choice_27 n) one v2 v3 v4 v5 u5) (fun r u => RXq x u ∧ r = if (fvt ok val P.toNat).1 = -1 then -1 else if gth P (x 47) (put (x 58) one.toNat (fvt ok val P.toNat).1) g P.toNat ≤ seats then (fvt ok val P.toNat).1 else -1) := fun c2 => by
          rw [if_neg (fun c3 => c2 c3.2)] at ef
          exact nx hu (by rw [ef]; exact h3) (by rw [ef]; exact h4)
        have take : (fvt ok val v5.toNat).2 < val v5.toNat → PC (f_R_choice_77 (f_R_choice_27 n) one v2 v5 r4 u5) (fun r u => RXq x u ∧ r = if (fvt ok val P.toNat).1 = -1 then -1 else if gth P (x 47) (put (x 58) one.toNat (fvt ok val P.toNat).1) g P.toNat ≤ seats then (fvt ok val P.toNat).1 else -1) := fun c2 => by
          rw [if_pos ⟨rfl, c2⟩] at ef
          unfold f_R_choice_77
          exact nx hu (by rw [ef]; show v5 = ((v5.toNat : Nat) : Int); omega) (Or.inr (by rw [ef]; exact y.2))
        refine pc_ite (fun c => keep (by omega)) (fun c => ?_)
        refine pc_ite (fun c2 => take (by omega)) (fun c2 => ?_)
        have h4' : v4 = (fvt ok val v5.toNat).2 := h4.resolve_left c2
        refine pc_ite (fun c3 => take (by omega)) (fun c3 => keep (by omega))
theorem choice_pc {P one g seats wk : Int} {s h pr kn : Nat → Int} {c : List Int} {w : Wd} (hR : RUC c (w 43 27) (w 57)) (hP : 0 ≤ P ∧ P ≤ 10) (h0 : w 43 0 = P) (h10 : w 43 10 = g) (h11 : w 43 11 = seats) (h8 : w 43 8 = wk) (es : w 47 = s) (eh : w 46 = h) (e44 : w 44 = pr) (e45 : w 45 = kn) (hs : ∀ j : Nat, (j : Int) < P → 0 ≤ s j ∧ s j ≤ 4) (hk : ∀ j : Nat, (j : Int) < P → 0 ≤ kn j ∧ kn j ≤ 1023) (h1 : 0 ≤ one ∧ one < P) (h58 : w 58 one.toNat = -1) (hb : ∀ i : Nat, (i : Int) < P → w 58 i = -1 ∨ (0 ≤ w 58 i ∧ w 58 i ≤ 9)) : PC (f_R_choice one w) (fun r u => RXq w u ∧ r = chs P g seats s h pr kn wk c (w 58) one.toNat) := by
  have eo : ((one.toNat : Nat) : Int) = one := by omega
  unfold f_R_choice
  refine pc_call (rfree_e (w := w) (by omega)) (fun r1 u2 q => ?_)
  rw [q.1]
  refine pc_gd (fun _ => ?_)
  refine pc_call (bn_pc (w := w) (by omega) (fun i hi => hb i (by omega))) (fun r3 u4 q2 => ?_)
  rw [q2.1]
  refine pc_let (fun x5 e5 => ?_)
  have b5 : B10 x5 (okc P s h kn (w 58) one.toNat) := by
    have q1 := q.2
    have q3 := q2.2
    rw [h0, es, eh] at q1
    rw [h0] at q3
    rw [e5, e45]
    exact b10_andn (b10_and q1 (fun k _ => rfl)) q3.2
  have hc := cho_pc (val := vlu P s pr kn wk c one) w hP h0 h10 h11 (fun j hj => by rw [es]; exact hs j hj) h58 b5 (fun q y hq _ hy => by
    have r57 : y 57 = w 57 := funext fun k => hy 57 k (by omega)
    have := rfor_pc (w := y) (P := P) (s := s) (pr := pr) (kn := kn) (wk := wk) (one := one) (other := (q : Int)) (c := c) (by rw [r57, hy 43 27 (by decide)]; exact hR) hP (by rw [hy 43 0 (by decide)]; exact h0) (fun j _ => by rw [hy 47 j (by omega), es]) (fun j _ => by rw [hy 44 j (by omega), e44]) (fun j _ => by rw [hy 45 j (by omega), e45]) (by rw [hy 43 8 (by decide)]; exact h8) hk h1 (hs one.toNat (by omega)) (by omega)
    exact this) FU (w := w) (v3 := -1) (v4 := 0) (v5 := 0) (by decide) hP.1 (rx_self w) rfl (Or.inl rfl)
  refine pc_w hc (fun r u y => ⟨y.1, ?_⟩)
  rw [y.2, es]
  unfold chs
  rw [eo]
theorem nob_pc (x : Wd) : ∀ (n : Nat) {w : Wd} {v1 : Int}, 0 ≤ v1 → v1 ≤ 10 → (∀ c k, c ≠ 58 → w c k = x c k) → (∀ k : Nat, (k : Int) < v1 → w 58 k = -1) → PC (f_R_nobody_2 n v1 w) (fun _ u => (∀ c k, c ≠ 58 → u c k = x c k) ∧ ∀ k : Nat, (k : Int) < 10 → u 58 k = -1) := by
  intro n
  induction n with
  | zero => intros; exact pc_none
  | succ n ih =>
    intro w v1 i0 i1 hx hd
    rw [f_R_nobody_2]
    refine pc_ite (fun c => pc_some ⟨hx, fun k hk => hd k (by omega)⟩) (fun c => ?_)
    refine pc_gd (fun _ => ?_)
    refine pc_lw (fun u1 e1 => ?_)
    refine pc_let (fun x2 e2 => ?_)
    rw [wsucc (P := 10) (by omega) (by omega)] at e2
    rw [e2]
    refine ih (by omega) (by omega) (fun c k hc => by rw [e1, st_c hc]; exact hx c k hc) (fun k hk => ?_)
    rw [e1]
    by_cases ck : k = v1.toNat
    · rw [ck, st_eq]
    · rw [st_k ck]; exact hd k (by omega)
/-- what choosing may change -/
def RXp (x u : Wd) : Prop := ∀ c k, c ≠ 58 → ¬ (c = 43 ∧ ((17 ≤ k ∧ k ≤ 21) ∨ k = 28 ∨ k = 29)) → u c k = x c k
theorem fch_pc {P g seats wk : Int} {s h pr kn : Nat → Int} {c : List Int} (x : Wd) (hR : RUC c (x 43 27) (x 57)) (hP : 0 ≤ P ∧ P ≤ 10) (h0 : x 43 0 = P) (h10 : x 43 10 = g) (h11 : x 43 11 = seats) (h8 : x 43 8 = wk) (es : x 47 = s) (eh : x 46 = h) (e44 : x 44 = pr) (e45 : x 45 = kn) (hs : ∀ j : Nat, (j : Int) < P → 0 ≤ s j ∧ s j ≤ 4) (hk : ∀ j : Nat, (j : Int) < P → 0 ≤ kn j ∧ kn j ≤ 1023) : ∀ (n : Nat) {w : Wd} {v1 : Int}, 0 ≤ v1 → v1 ≤ P → RXp x w → (∀ k : Nat, (k : Int) < P → w 58 k = plf P g seats s h pr kn wk c v1.toNat k) → PC (f_R_findChoices_6 n v1 w) (fun _ u => RXp x u ∧ ∀ k : Nat, (k : Int) < P → u 58 k = plf P g seats s h pr kn wk c P.toNat k) := by
  intro n
  induction n with
  | zero => intros; exact pc_none
  | succ n ih =>
    intro w v1 i0 i1 hx hd
    have r57 : w 57 = x 57 := funext fun k => hx 57 k (by decide) (by omega)
    have r47 : w 47 = s := (funext fun k => hx 47 k (by decide) (by omega)).trans es
    have r46 : w 46 = h := (funext fun k => hx 46 k (by decide) (by omega)).trans eh
    have r44 : w 44 = pr := (funext fun k => hx 44 k (by decide) (by omega)).trans e44
    have r45 : w 45 = kn := (funext fun k => hx 45 k (by decide) (by omega)).trans e45
    rw [f_R_findChoices_6, hx 43 0 (by decide) (by decide), h0]
    refine pc_ite (fun z => ?_) (fun z => ?_)
    · have e : v1 = P := by omega
      rw [e] at hd
      exact pc_some ⟨hx, hd⟩
    · refine pc_gd (fun _ => ?_)
      rw [isG_e, jc_s, r47]
      have nx : ∀ {u : Wd}, RXp x u → (∀ k : Nat, (k : Int) < P → u 58 k = plf P g seats s h pr kn wk c (v1.toNat + 1) k) → PC (f_R_findChoices_37 (f_R_findChoices_6 n) v1 u) (fun _ u => RXp x u ∧ ∀ k : Nat, (k : Int) < P → u 58 k = plf P g seats s h pr kn wk c P.toNat k) := by
        intro u hu hd2
        unfold f_R_findChoices_37
        refine pc_let (fun x5 e5 => ?_)
        rw [wsucc (P := P) (by omega) (by omega)] at e5
        rw [e5]
        exact ih (by omega) (by omega) hu (by rw [show (v1 + 1).toNat = v1.toNat + 1 by omega]; exact hd2)
      have ep : plf P g seats s h pr kn wk c (v1.toNat + 1) = if gst (s v1.toNat) = true then put (plf P g seats s h pr kn wk c v1.toNat) v1.toNat (chs P g seats s h pr kn wk c (plf P g seats s h pr kn wk c v1.toNat) v1.toNat) else plf P g seats s h pr kn wk c v1.toNat := rfl
      cases hb : gst (s v1.toNat) with
      | false =>
        refine pc_ite (fun _ => ?_) (fun c => absurd rfl c)
        rw [hb, if_neg (by decide)] at ep
        exact nx hx (by rw [ep]; exact hd)
      | true =>
        refine pc_ite (fun c => absurd c (by decide)) (fun _ => ?_)
        rw [hb, if_pos rfl] at ep
        have hg := plf_gwk (P := P) (g := g) (seats := seats) (s := s) (h := h) (pr := pr) (kn := kn) (wk := wk) (c := c) hP.1 v1.toNat (by omega)
        have hch := choice_pc (w := w) (one := v1) (c := c) (P := P) (g := g) (seats := seats) (wk := wk) (s := s) (h := h) (pr := pr) (kn := kn) (by rw [r57, hx 43 27 (by decide) (by decide)]; exact hR) hP (by rw [hx 43 0 (by decide) (by decide)]; exact h0) (by rw [hx 43 10 (by decide) (by decide)]; exact h10) (by rw [hx 43 11 (by decide) (by decide)]; exact h11) (by rw [hx 43 8 (by decide) (by decide)]; exact h8) r47 r46 r44 r45 hs hk (by omega) (by rw [hd v1.toNat (by omega)]; exact plf_m _ (Nat.le_refl _)) (fun i hi => by rw [hd i hi]; exact gwk_r hg hP.2 i hi)
        refine pc_call hch (fun r6 u7 y => ?_)
        refine pc_gd (fun _ => ?_)
        refine pc_lw (fun u8 e8 => ?_)
        refine nx (fun c k h58 hc => by rw [e8, st_c h58, y.1 c k hc]; exact hx c k h58 hc) (fun k hk2 => ?_)
        rw [ep, e8]
        by_cases ck : k = v1.toNat
        · rw [ck, st_eq, put_i, y.2]
          exact chs_eq hd
        · rw [st_k ck, put_n ck, y.1 58 k (by omega)]
          exact hd k hk2
theorem choices_pc {P g seats wk : Int} {s h pr kn : Nat → Int} {c : List Int} {x : Wd} (hR : RUC c (x 43 27) (x 57)) (hP : 0 ≤ P ∧ P ≤ 10) (h0 : x 43 0 = P) (h10 : x 43 10 = g) (h11 : x 43 11 = seats) (h8 : x 43 8 = wk) (es : x 47 = s) (eh : x 46 = h) (e44 : x 44 = pr) (e45 : x 45 = kn) (hs : ∀ j : Nat, (j : Int) < P → 0 ≤ s j ∧ s j ≤ 4) (hk : ∀ j : Nat, (j : Int) < P → 0 ≤ kn j ∧ kn j ≤ 1023) : PC (f_R_findChoices x) (fun _ u => RXp x u ∧ ∀ k : Nat, (k : Int) < P → u 58 k = plf P g seats s h pr kn wk c P.toNat k) := by
  unfold f_R_findChoices f_R_nobody
  refine pc_call (nob_pc x FU (v1 := 0) (by decide) (by decide) (fun _ _ _ => rfl) (fun k hk => by omega)) (fun r1 u2 q => ?_)
  refine fch_pc x hR hP h0 h10 h11 h8 es eh e44 e45 hs hk FU (by decide) hP.1 (fun c k h58 _ => q.1 c k h58) (fun k hk2 => ?_)
  exact q.2 k (by omega)
/-! THE CLASS CHOOSES -/
/-- so a WEEK stands in the class's rows -/
def PLm (P : Int) (bg : Nat → Int) (m : Nat) (w : Wd) : Prop := w 12 2 = (m : Int) ∧ B10 (w 12 3) (mvs P bg) ∧ (∀ i, i < m → (0 ≤ w 13 i ∧ w 13 i < P) ∧ (0 ≤ w 14 i ∧ w 14 i < P) ∧ bg (w 13 i).toNat = w 14 i) ∧ (∀ a : Nat, (a : Int) < P → bg a ≠ -1 → ∃ i, i < m ∧ w 13 i = (a : Int)) ∧ ∀ i j, i < m → j < m → w 13 i = w 13 j → i = j
theorem plm_0 {P : Int} {w : Wd} (h2 : w 12 2 = 0) (h3 : w 12 3 = 0) : PLm P (fun _ => -1) 0 w := by
  refine ⟨h2, ?_, fun i hi => by omega, fun a _ h => absurd rfl h, fun i j hi => by omega⟩
  rw [h3]
  refine b10_w b10_0 (fun k _ => ?_)
  have : brn (fun _ => (-1 : Int)) P.toNat k = false := brn_f (fun i _ e => by
    have e2 : (-1 : Int) = (k : Int) := e
    omega)
  unfold mvs bng
  rw [this]
  simp
theorem plm_eq {P : Int} {bg : Nat → Int} {m : Nat} {w u : Wd} (h : PLm P bg m w) (e12 : u 12 2 = w 12 2 ∧ u 12 3 = w 12 3) (e13 : u 13 = w 13) (e14 : u 14 = w 14) : PLm P bg m u := by
  unfold PLm
  rw [e12.1, e12.2, e13, e14]
  exact h
theorem pad_pc {P i q : Int} {bg : Nat → Int} {m : Nat} {w : Wd} (h : PLm P bg m w) (hP : P ≤ 10) (hm : m < 10) (hi : 0 ≤ i ∧ i < P) (hq : 0 ≤ q ∧ q < P) (hb : bg i.toNat = -1) : PC (f_P_add i q w) (fun _ u => PLm P (put bg i.toNat q) (m + 1) u ∧ ∀ d, d ≠ 12 → d ≠ 13 → d ≠ 14 → u d = w d) := by
  obtain ⟨h1, h2, h3, h4, h5⟩ := h
  have eo : ((i.toNat : Nat) : Int) = i := by omega
  unfold f_P_add
  rw [h1, show ((m : Int)).toNat = m from rfl]
  refine pc_ite (fun z => by omega) (fun _ => ?_)
  refine pc_gd (fun _ => ?_)
  refine pc_lw (fun u2 e2 => ?_)
  have a2 : u2 12 2 = (m : Int) := by rw [e2, st_c (by decide)]; exact h1
  rw [a2, show ((m : Int)).toNat = m from rfl]
  refine pc_gd (fun _ => ?_)
  refine pc_lw (fun u3 e3 => ?_)
  have a3 : u3 12 2 = (m : Int) := by rw [e3, st_c (by decide)]; exact a2
  rw [a3]
  refine pc_lw (fun u4 e4 => ?_)
  unfold f_P_add_39
  refine pc_lw (fun u5 e5 => pc_some ⟨⟨?_, ?_, ?_, ?_, ?_⟩, ?_⟩)
  · rw [e5, st_k (by decide), e4, st_eq]
    exact (w32_id (by omega)).trans rfl
  · have e12 : u4 12 3 = w 12 3 := by rw [e4, st_k (by decide), e3, st_c (by decide), e2, st_c (by decide)]
    rw [e5, st_eq, e12]
    refine b10_w (b10_or h2 (b10_or (b10_1 (i := i) (by omega)) (b10_1 (i := q) (by omega)))) (fun k _ => ?_)
    rw [mvs_put (by omega) hq.1 hb k]
  · intro j hj
    have r13 : u5 13 j = if j = m then i else w 13 j := by
      rw [e5, st_c (by decide), e4, st_c (by decide), e3, st_c (by decide), e2]
      by_cases c : j = m
      · rw [if_pos c, c, st_eq]
      · rw [if_neg c, st_k c]
    have r14 : u5 14 j = if j = m then q else w 14 j := by
      rw [e5, st_c (by decide), e4, st_c (by decide), e3]
      by_cases c : j = m
      · rw [if_pos c, c, st_eq]
      · rw [if_neg c, st_k c, e2, st_c (by decide)]
    rw [r13, r14]
    by_cases c : j = m
    · rw [if_pos c, if_pos c]
      exact ⟨hi, hq, put_i _ _ _⟩
    · rw [if_neg c, if_neg c]
      have := h3 j (by omega)
      refine ⟨this.1, this.2.1, ?_⟩
      rw [put_n (fun e => ?_)]
      · exact this.2.2
      · have := this.2.2
        rw [e, hb] at this
        omega
  · intro a ha hn
    have r13 : ∀ j, u5 13 j = if j = m then i else w 13 j := fun j => by
      rw [e5, st_c (by decide), e4, st_c (by decide), e3, st_c (by decide), e2]
      by_cases c : j = m
      · rw [if_pos c, c, st_eq]
      · rw [if_neg c, st_k c]
    by_cases c : a = i.toNat
    · exact ⟨m, by omega, by rw [r13, if_pos rfl]; omega⟩
    · rw [put_n c] at hn
      obtain ⟨k, hk, e⟩ := h4 a ha hn
      exact ⟨k, by omega, by rw [r13, if_neg (by omega)]; exact e⟩
  · intro a b ha hb2 e
    have r13 : ∀ j, u5 13 j = if j = m then i else w 13 j := fun j => by
      rw [e5, st_c (by decide), e4, st_c (by decide), e3, st_c (by decide), e2]
      by_cases c : j = m
      · rw [if_pos c, c, st_eq]
      · rw [if_neg c, st_k c]
    rw [r13, r13] at e
    have no : ∀ k, k < m → w 13 k ≠ i := fun k hk e2 => by
      have := h3 k hk
      rw [e2, hb] at this
      omega
    by_cases c1 : a = m
    · by_cases c2 : b = m
      · omega
      · rw [if_pos c1, if_neg c2] at e
        exact absurd e.symm (no b (by omega))
    · by_cases c2 : b = m
      · rw [if_neg c1, if_pos c2] at e
        exact absurd e (no a (by omega))
      · rw [if_neg c1, if_neg c2] at e
        exact h5 a b (by omega) (by omega) e
  · intro d h12 h13 h14
    rw [e5, st_row h12, e4, st_row h12, e3, st_row h14, e2, st_row h13]
/-- what choosing may change -/
def EXp (x u : Wd) : Prop := ∀ d, d ≠ 12 → d ≠ 13 → d ≠ 14 → d ≠ 23 → u d = x d
theorem okc_b10 {P v : Int} {s h kn bg : Nat → Int} {i : Nat} {x y z : Int} (hx : B10 x (bt (kn i))) (hy : B10 y (fre P s h)) (hz : B10 z (mvs P bg)) (hg : GWK P s h kn bg) : B10 (iand (iand x y) (ixor z (-1))) (okc P s h kn bg i) := by
  refine b10_w (b10_andn (b10_and hx hy.2) hz.2) (fun k _ => ?_)
  unfold okc mvs
  cases hf : fre P s h k with
  | false => simp
  | true =>
    have : bng P bg k = false := by
      cases hb : bng P bg k with
      | false => rfl
      | true =>
        have h1 := gwk_gs hg hb
        rw [(fre_sr hf).2.1] at h1
        cases h1
    rw [this]
    cases bt (kn i) k <;> cases brn bg P.toNat k <;> rfl
theorem fol_pc {P g seats wk : Int} {s h pr kn : Nat → Int} {c : List Int} (x : Wd) (h4 : x 19 4 = c.length) (hc : c.length ≤ 40) (hS : SR (x 20) c) (hP : 0 ≤ P ∧ P ≤ 10) (h3 : x 5 3 = P) (h7g : x 5 7 = g) (hg3 : g ≤ 3) (h8s : x 5 8 = seats) (hw : WH (x 5 4) s P) (hh : B10 (x 5 5) (hB P h)) (h6 : ∀ j : Nat, (j : Int) < P → x 6 j = pr j) (h7 : ∀ j : Nat, (j : Int) < P → x 7 j = kn j) (h6r : ∀ j : Nat, (0 : Int) ≤ x 6 j ∧ x 6 j ≤ 9) (hk : ∀ j : Nat, (j : Int) < P → 0 ≤ kn j ∧ kn j ≤ 1023) : ∀ (n : Nat) {w : Wd} {v4 : Int} {m : Nat}, 0 ≤ v4 → v4 ≤ P → (m : Int) ≤ v4 → EXp x w → PLm P (plf P g seats s h pr kn wk c v4.toNat) m w → PC (f_P_follow_7 n wk v4 w) (fun _ u => EXp x u ∧ ∃ m : Nat, (m : Int) ≤ P ∧ PLm P (plf P g seats s h pr kn wk c P.toNat) m u) := by
  intro n
  induction n with
  | zero => intros; exact pc_none
  | succ n ih =>
    intro w v4 m i0 i1 im hx hL
    have r5 : w 5 = x 5 := hx 5 (by decide) (by decide) (by decide) (by decide)
    rw [f_P_follow_7, r5, h3]
    refine pc_ite (fun z => ?_) (fun z => ?_)
    · have e : v4 = P := by omega
      subst e
      exact pc_some ⟨hx, m, im, hL⟩
    · refine pc_call (eg_e (w := w) (by rw [r5]; exact hw)) (fun r3 u4 q => ?_)
      rw [q.1, has_10 w q.2 (by omega), jc_s]
      have hgk := plf_gwk (P := P) (g := g) (seats := seats) (s := s) (h := h) (pr := pr) (kn := kn) (wk := wk) (c := c) hP.1 v4.toNat (by omega)
      have hm1 := plf_m (P := P) (g := g) (seats := seats) (s := s) (h := h) (pr := pr) (kn := kn) (wk := wk) (c := c) v4.toNat (Nat.le_refl _)
      have ep : plf P g seats s h pr kn wk c (v4.toNat + 1) = if gst (s v4.toNat) = true then put (plf P g seats s h pr kn wk c v4.toNat) v4.toNat (chs P g seats s h pr kn wk c (plf P g seats s h pr kn wk c v4.toNat) v4.toNat) else plf P g seats s h pr kn wk c v4.toNat := rfl
      have nx : ∀ {u : Wd} {m2 : Nat}, (m2 : Int) ≤ v4 + 1 → EXp x u → PLm P (plf P g seats s h pr kn wk c (v4.toNat + 1)) m2 u → PC (f_P_follow_104 (f_P_follow_7 n) wk v4 u) (fun _ u => EXp x u ∧ ∃ m : Nat, (m : Int) ≤ P ∧ PLm P (plf P g seats s h pr kn wk c P.toNat) m u) := by
        intro u m2 hm2 hu hL2
        unfold f_P_follow_104
        refine pc_let (fun x9 e9 => ?_)
        rw [wsucc (P := P) (by omega) (by omega)] at e9
        rw [e9]
        exact ih (by omega) (by omega) hm2 hu (by rw [show (v4 + 1).toNat = v4.toNat + 1 by omega]; exact hL2)
      have ei : inP P v4.toNat = true := decide_eq_true (by omega)
      have egs : gs P s v4.toNat = gst (s v4.toNat) := by unfold gs; rw [ei]; rfl
      rw [egs]
      cases hb : gst (s v4.toNat) with
      | false =>
        refine pc_ite (fun _ => ?_) (fun c => absurd rfl c)
        rw [hb, if_neg (by decide)] at ep
        unfold f_P_follow_51
        refine pc_call (fav_E (x := w) (wk := wk) (one := v4) (ok := fun _ => false) (val := fun _ => 0) hP (by rw [r5]; exact h3) b10_0 (fun q y _ c _ => by cases c)) (fun r7 u8 y => ?_)
        rw [fvt_no (fun _ _ => rfl)] at y
        refine pc_ite (fun _ => ?_) (fun z2 => absurd y.2 z2)
        refine nx (m2 := m) (by omega) (fun d d1 d2 d3 d4 => (y.1 d d4).trans (hx d d1 d2 d3 d4)) ?_
        rw [ep]
        exact plm_eq hL ⟨by rw [y.1 12 (by decide)], by rw [y.1 12 (by decide)]⟩ (y.1 13 (by decide)) (y.1 14 (by decide))
      | true =>
        refine pc_ite (fun c => absurd c (by decide)) (fun _ => ?_)
        rw [hb, if_pos rfl] at ep
        refine pc_gd (fun _ => ?_)
        refine pc_call (ef_e (w := w) (h := h) (by rw [r5]; exact hw) hP (by rw [r5]; exact h3) (by rw [r5]; exact hh)) (fun r14 u15 q2 => ?_)
        rw [q2.1]
        have r7 : w 7 v4.toNat = kn v4.toNat := by rw [hx 7 (by decide) (by decide) (by decide) (by decide)]; exact h7 v4.toNat (by omega)
        rw [r7]
        have bS := okc_b10 (v := 0) (i := v4.toNat) (b10_self (hk v4.toNat (by omega))) q2.2 hL.2.1 hgk
        unfold f_P_follow_51
        have hfv := fav_E (x := w) (wk := wk) (one := v4) (P := P) (val := vlu P s pr kn wk c v4) hP (by rw [r5]; exact h3) bS (fun q y hq _ hy => by
          have a : ∀ d, d ≠ 12 → d ≠ 13 → d ≠ 14 → d ≠ 23 → y d = x d := fun d d1 d2 d3 d4 => (hy d d4).trans (hx d d1 d2 d3 d4)
          have := vfor_pc (w := y) (P := P) (s := s) (pr := pr) (kn := kn) (wk := wk) (one := v4) (other := (q : Int)) (c := c) (by rw [a 19 (by decide) (by decide) (by decide) (by decide)]; exact h4) hc (by rw [a 20 (by decide) (by decide) (by decide) (by decide)]; exact hS) hP (by rw [a 5 (by decide) (by decide) (by decide) (by decide)]; exact h3) (by rw [a 5 (by decide) (by decide) (by decide) (by decide)]; exact hw) (fun j hj => by rw [a 6 (by decide) (by decide) (by decide) (by decide)]; exact h6 j hj) (fun j hj => by rw [a 7 (by decide) (by decide) (by decide) (by decide)]; exact h7 j hj) (fun j => by rw [a 6 (by decide) (by decide) (by decide) (by decide)]; exact h6r j) hk ⟨i0, by omega, hb⟩ (by omega)
          exact this)
        refine pc_call hfv (fun r7 u8 y => ?_)
        have ec : chs P g seats s h pr kn wk c (plf P g seats s h pr kn wk c v4.toNat) v4.toNat = if r7 = -1 then -1 else if gth P s (put (plf P g seats s h pr kn wk c v4.toNat) v4.toNat r7) g P.toNat ≤ seats then r7 else -1 := by
          rw [y.2]
          unfold chs
          rw [show ((v4.toNat : Nat) : Int) = v4 by omega]
        have hx8 : EXp x u8 := fun d d1 d2 d3 d4 => (y.1 d d4).trans (hx d d1 d2 d3 d4)
        have hL8 : PLm P (plf P g seats s h pr kn wk c v4.toNat) m u8 := plm_eq hL ⟨by rw [y.1 12 (by decide)], by rw [y.1 12 (by decide)]⟩ (y.1 13 (by decide)) (y.1 14 (by decide))
        refine pc_ite (fun z1 => ?_) (fun z1 => ?_)
        · rw [if_pos z1] at ec
          rw [ec, put_id hm1] at ep
          exact nx (m2 := m) (by omega) hx8 (by rw [ep]; exact hL8)
        · rw [if_neg z1] at ec
          have hrg := fvt_rg (okc P s h kn (plf P g seats s h pr kn wk c v4.toNat) v4.toNat) (vlu P s pr kn wk c v4) P.toNat
          rw [← y.2] at hrg
          have hr7 : (0 ≤ r7 ∧ r7 < P) ∧ okc P s h kn (plf P g seats s h pr kn wk c v4.toNat) v4.toNat r7.toNat = true := by
            rcases hrg with e | e
            · exact absurd e.1 z1
            · exact ⟨by omega, e.2.2⟩
          have hgp := gwk_put hgk (by omega) hm1 hb hr7.1 hr7.2
          have r58 : u8 5 = x 5 := hx8 5 (by decide) (by decide) (by decide) (by decide)
          have bM : B10 (ior (ior (u8 12 3) (ishl 1 v4)) (ishl 1 r7)) (mvs P (put (plf P g seats s h pr kn wk c v4.toNat) v4.toNat r7)) := by
            refine b10_w (b10_or (b10_or hL8.2.1 (b10_1 (i := v4) (by omega))) (b10_1 (i := r7) (by omega))) (fun k _ => ?_)
            rw [mvs_put (by omega) hr7.1.1 hm1 k, Bool.or_assoc]
          refine pc_call (ega_e (w := u8) (by rw [r58]; exact hw) (by rw [r58, h7g]; exact hg3) bM) (fun r10 u11 q3 => ?_)
          rw [q3.1, r58, h8s]
          have e10 : r10 = gth P s (put (plf P g seats s h pr kn wk c v4.toNat) v4.toNat r7) g P.toNat := by
            rw [q3.2, r58, h7g]
            exact gth_pn hP hgp
          refine pc_ite (fun z2 => ?_) (fun z2 => ?_)
          · rw [if_neg (by omega)] at ec
            rw [ec, put_id hm1] at ep
            exact nx (m2 := m) (by omega) hx8 (by rw [ep]; exact hL8)
          · rw [if_pos (by omega)] at ec
            rw [ec] at ep
            refine pc_call (pad_pc hL8 hP.2 (by omega) ⟨i0, by omega⟩ hr7.1 hm1) (fun r12 u13 q4 => ?_)
            refine nx (m2 := m + 1) (by omega) (fun d d1 d2 d3 d4 => (q4.2 d d1 d2 d3).trans (hx8 d d1 d2 d3 d4)) ?_
            rw [ep]
            exact q4.1
theorem follow_pc {P g seats wk : Int} {s h pr kn : Nat → Int} {c : List Int} {x : Wd} (h4 : x 19 4 = c.length) (hc : c.length ≤ 40) (hS : SR (x 20) c) (hP : 0 ≤ P ∧ P ≤ 10) (h3 : x 5 3 = P) (h7g : x 5 7 = g) (hg3 : g ≤ 3) (h8s : x 5 8 = seats) (hw : WH (x 5 4) s P) (hh : B10 (x 5 5) (hB P h)) (h6 : ∀ j : Nat, (j : Int) < P → x 6 j = pr j) (h7 : ∀ j : Nat, (j : Int) < P → x 7 j = kn j) (h6r : ∀ j : Nat, (0 : Int) ≤ x 6 j ∧ x 6 j ≤ 9) (hk : ∀ j : Nat, (j : Int) < P → 0 ≤ kn j ∧ kn j ≤ 1023) : PC (f_P_follow wk x) (fun _ u => EXp x u ∧ ∃ m : Nat, (m : Int) ≤ P ∧ PLm P (plf P g seats s h pr kn wk c P.toNat) m u) := by
  unfold f_P_follow f_P_clear
  refine pc_call (P := fun _ u => u 12 2 = 0 ∧ u 12 3 = 0 ∧ ∀ d, d ≠ 12 → u d = x d) ?_ (fun r1 u2 q => ?_)
  · refine pc_lw (fun u1 e1 => ?_)
    refine pc_lw (fun u2 e2 => pc_some ⟨?_, ?_, fun d hd => ?_⟩)
    · rw [e2, st_k (by decide), e1, st_eq]
    · rw [e2, st_eq]
    · rw [e2, st_row hd, e1, st_row hd]
  · exact fol_pc x h4 hc hS hP h3 h7g hg3 h8s hw hh h6 h7 h6r hk FU (m := 0) (by decide) hP.1 (by decide) (fun d d1 _ _ _ => q.2.2 d d1) (plm_0 q.1 q.2.1)
/-! A WEEK GOES BY: the reference -/
theorem sms_add {f : Nat → Bool} {g : Nat → Int} {v : Int} : ∀ {n : Nat}, v.toNat < n → 0 ≤ v → f v.toNat = false → sms (fun q => if (f q || (v == (q : Int))) = true then g q else 0) n = sms (fun q => if f q = true then g q else 0) n + g v.toNat := by
  intro n
  induction n with
  | zero => intro h; omega
  | succ n ih =>
    intro hv h0 hf
    rw [sms, sms]
    by_cases c : n = v.toNat
    · have h1 : sms (fun q => if (f q || (v == (q : Int))) = true then g q else 0) n = sms (fun q => if f q = true then g q else 0) n := sms_eq (fun j hj => by
        rw [beq_eq_false_iff_ne.mpr (show ¬ v = (j : Int) by omega), Bool.or_false])
      have h2 : (v == (n : Int)) = true := beq_iff_eq.mpr (by omega)
      rw [h1, h2, c, hf]
      simp
    · rw [ih (by omega) h0 hf, beq_eq_false_iff_ne.mpr (show ¬ v = (n : Int) by omega), Bool.or_false]
      omega
theorem sms_rg2 {f : Nat → Bool} {g : Nat → Int} (h : ∀ j, 0 ≤ g j ∧ g j ≤ 9) (n : Nat) : 0 ≤ sms (fun q => if f q = true then g q else 0) n ∧ sms (fun q => if f q = true then g q else 0) n ≤ 9 * n := by
  refine sms_rg (fun j => ?_) n
  by_cases c : f j = true
  · rw [if_pos c]; exact h j
  · rw [if_neg c]; omega
theorem lay_fr {v2 : Int} : ∀ (n : Nat) {w : Wd} {v3 : Int}, PC (f_R_lay_43_59_2 n v2 v3 w) (fun _ u => ∀ c, c ≠ 59 → u c = w c) := by
  intro n
  induction n with
  | zero => intros; exact pc_none
  | succ n ih =>
    intro w v3
    rw [f_R_lay_43_59_2]
    refine pc_ite (fun _ => ?_) (fun _ => ?_)
    · refine pc_gd (fun _ => pc_lw (fun u1 e1 => pc_some (fun c hc => by rw [e1, st_row hc])))
    · refine pc_gd (fun _ => pc_gd (fun _ => pc_lw (fun u2 e2 => ?_)))
      refine pc_gd (fun _ => pc_gd (fun _ => pc_lw (fun u3 e3 => ?_)))
      refine pc_gd (fun _ => pc_gd (fun _ => pc_lw (fun u4 e4 => ?_)))
      refine pc_let (fun x5 _ => ?_)
      exact pc_w ih (fun _ u y c hc => by rw [y c hc, e4, st_row hc, e3, st_row hc, e2, st_row hc])
/-- who stays one more week, who goes home, who is busy -/
def mid (s bg : Nat → Int) (g : Int) (i j : Nat) : Int := if j < i ∧ gst (s j) = true then (if bg j = -1 then (if s j < g then s j + 1 else 4) else 1) else s j
theorem mid_nis {P g : Int} {s bg : Nat → Int} {j : Nat} (hj : (j : Int) < P) (hg : ∀ i : Nat, (i : Int) < P → bg i ≠ -1 → gst (s i) = true) : (if brn bg P.toNat j = true then 1 else mid s bg g P.toNat j) = nis P s g (mvs P bg) j := by
  unfold nis mvs bng mid
  rw [show inP P j = true from decide_eq_true hj]
  cases hb : brn bg P.toNat j with
  | true =>
    rw [if_pos rfl, if_pos (by simp)]
  | false =>
    rw [if_neg (by decide)]
    by_cases c : bg j = -1
    · have e1 : ((true && !(bg j == -1)) || false) = false := by rw [c]; rfl
      rw [if_neg (show ¬ ((true && !(bg j == -1)) || false) = true by rw [e1]; decide)]
      cases hs : gst (s j) with
      | true => rw [if_pos ⟨by omega, rfl⟩, if_pos c, if_pos rfl]
      | false => rw [if_neg (fun h => by cases h.2), if_neg (by decide)]
    · have e1 : ((true && !(bg j == -1)) || false) = true := by rw [beq_eq_false_iff_ne.mpr c]; rfl
      rw [if_pos e1, if_pos ⟨by omega, hg j hj c⟩, if_neg c]
/-- the second half -/
theorem gy164 {P v1 v2 : Int} {s : Nat → Int} {f : Nat → Bool} (x : Wd) (hP : 0 ≤ P ∧ P ≤ 10) (h0 : x 43 0 = P) (hB : B10 v2 f) : ∀ (n : Nat) {w : Wd} {v3 : Int}, 0 ≤ v3 → v3 ≤ P → (∀ c, c ≠ 47 → w c = x c) → (∀ j : Nat, (j : Int) < P → w 47 j = if (j : Int) < v3 ∧ f j = true then 1 else s j) → PC (f_R_goWeek_164 n v1 v2 v3 w) (fun r u => r = v1 ∧ (∀ j : Nat, (j : Int) < P → u 47 j = if f j = true then 1 else s j) ∧ B10 (u 50 (x 43 8).toNat) (gs P (u 47)) ∧ (∀ t, t ≠ (x 43 8).toNat → u 50 t = x 50 t) ∧ u 43 7 = w32 (x 43 7 + v1) ∧ ∀ c k, c ≠ 47 → c ≠ 50 → ¬ (c = 43 ∧ k = 7) → u c k = x c k) := by
  intro n
  induction n with
  | zero => intros; exact pc_none
  | succ n ih =>
    intro w v3 i0 i1 hx hd
    have r43 : w 43 = x 43 := hx 43 (by decide)
    rw [f_R_goWeek_164, r43, h0]
    refine pc_ite (fun z => ?_) (fun z => ?_)
    · have e : v3 = P := by omega
      refine pc_call (rg_e (w := w) (by rw [r43]; omega)) (fun r7 u8 q => ?_)
      rw [q.1]
      refine pc_gd (fun _ => ?_)
      refine pc_lw (fun u9 e9 => ?_)
      refine pc_lw (fun u10 e10 => pc_some ⟨rfl, fun j hj => ?_, ?_, fun t ht => ?_, ?_, fun c k h47 h50 h7 => ?_⟩)
      · rw [e10, st_c (by decide), e9, st_c (by decide), hd j hj, e]
        by_cases c : f j = true
        · rw [if_pos ⟨hj, c⟩, if_pos c]
        · rw [if_neg (fun h => c h.2), if_neg c]
      · have e47 : u10 47 = w 47 := by rw [e10, st_row (by decide), e9, st_row (by decide)]
        have := q.2
        rw [r43, h0] at this
        rw [e47, e10, st_c (by decide), e9, st_eq]
        exact this
      · rw [e10, st_c (by decide), e9, st_k ht, hx 50 (by decide)]
      · rw [e10, st_eq, e9, st_c (by decide), r43]
      · rw [e10]; unfold st; rw [if_neg h7, e9]; unfold st; rw [if_neg (fun h => h50 h.1), hx c h47]
    · rw [hasR_10 w hB (by omega), jc_s]
      have nx : ∀ {u : Wd}, (∀ c, c ≠ 47 → u c = x c) → (∀ j : Nat, (j : Int) < P → u 47 j = if (j : Int) < v3 + 1 ∧ f j = true then 1 else s j) → PC (f_R_goWeek_187 (f_R_goWeek_164 n) v1 v2 v3 u) (fun r u => r = v1 ∧ (∀ j : Nat, (j : Int) < P → u 47 j = if f j = true then 1 else s j) ∧ B10 (u 50 (x 43 8).toNat) (gs P (u 47)) ∧ (∀ t, t ≠ (x 43 8).toNat → u 50 t = x 50 t) ∧ u 43 7 = w32 (x 43 7 + v1) ∧ ∀ c k, c ≠ 47 → c ≠ 50 → ¬ (c = 43 ∧ k = 7) → u c k = x c k) := by
        intro u hu hd2
        unfold f_R_goWeek_187
        refine pc_let (fun x5 e5 => ?_)
        rw [wsucc (P := P) (by omega) (by omega)] at e5
        rw [e5]
        exact ih (by omega) (by omega) hu hd2
      cases hb : f v3.toNat with
      | false =>
        refine pc_ite (fun _ => ?_) (fun c => absurd rfl c)
        refine nx hx (fun j hj => ?_)
        rw [hd j hj]
        by_cases c : f j = true
        · have : (j : Int) ≠ v3 := fun e => by
            rw [show j = v3.toNat by omega, hb] at c; cases c
          by_cases c2 : (j : Int) < v3
          · rw [if_pos ⟨c2, c⟩, if_pos ⟨by omega, c⟩]
          · rw [if_neg (fun h => c2 h.1), if_neg (fun h => by have := h.1; omega)]
        · rw [if_neg (fun h => c h.2), if_neg (fun h => c h.2)]
      | true =>
        refine pc_ite (fun c => absurd c (by decide)) (fun _ => ?_)
        refine pc_gd (fun _ => ?_)
        refine pc_lw (fun u14 e14 => ?_)
        refine nx (fun c hc => by rw [e14, st_row hc]; exact hx c hc) (fun j hj => ?_)
        rw [e14]
        by_cases ck : j = v3.toNat
        · rw [ck, st_eq, if_pos ⟨by omega, hb⟩]
        · rw [st_k ck, hd j hj]
          by_cases c2 : (j : Int) < v3
          · by_cases c : f j = true
            · rw [if_pos ⟨c2, c⟩, if_pos ⟨by omega, c⟩]
            · rw [if_neg (fun h => c h.2), if_neg (fun h => c h.2)]
          · rw [if_neg (fun h => c2 h.1), if_neg (fun h => by have := h.1; omega)]
/-- what a WEEK makes of the reference's world -/
def GQ (P : Int) (x : Wd) (r : Int) (u : Wd) : Prop := r = sms (fun q => if brn (x 58) P.toNat q = true then x 44 q else 0) P.toNat ∧ (∀ j : Nat, (j : Int) < P → u 47 j = nis P (x 47) (x 43 10) (mvs P (x 58)) j) ∧ (∀ q : Nat, u 48 q = (if brn (x 58) P.toNat q = true then byo (x 58) P.toNat q else x 48 q) ∧ u 49 q = if brn (x 58) P.toNat q = true then x 43 8 else x 49 q) ∧ B10 (u 50 (x 43 8).toNat) (gs P (u 47)) ∧ (∀ t, t ≠ (x 43 8).toNat → u 50 t = x 50 t) ∧ u 43 7 = w32 (x 43 7 + r) ∧ ∀ c k, c ≠ 47 → c ≠ 48 → c ≠ 49 → c ≠ 50 → ¬ (c = 43 ∧ k = 7) → u c k = x c k
theorem gy44 {P v2 : Int} (x : Wd) (hP : 0 ≤ P ∧ P ≤ 10) (h0 : x 43 0 = P) (hB : B10 v2 (brn (x 58) P.toNat)) (hI : INJ P.toNat (x 58)) (hg : ∀ i : Nat, (i : Int) < P → x 58 i = -1 ∨ ((0 ≤ x 58 i ∧ x 58 i < P) ∧ gst (x 47 i) = true)) (hs : ∀ j : Nat, (j : Int) < P → 0 ≤ x 47 j ∧ x 47 j ≤ 4) (h44 : ∀ j, 0 ≤ x 44 j ∧ x 44 j ≤ 9) : ∀ (n : Nat) {w : Wd} {v1 v3 : Int}, 0 ≤ v3 → v3 ≤ P → (∀ c, c ≠ 47 → c ≠ 48 → c ≠ 49 → w c = x c) → (∀ j : Nat, w 47 j = mid (x 47) (x 58) (x 43 10) v3.toNat j) → (∀ q : Nat, w 48 q = (if brn (x 58) v3.toNat q = true then byo (x 58) v3.toNat q else x 48 q) ∧ w 49 q = if brn (x 58) v3.toNat q = true then x 43 8 else x 49 q) → v1 = sms (fun q => if brn (x 58) v3.toNat q = true then x 44 q else 0) P.toNat → PC (f_R_goWeek_44 n v1 v2 v3 w) (fun r u => GQ P x r u) := by
  intro n
  induction n with
  | zero => intros; exact pc_none
  | succ n ih =>
    intro w v1 v3 i0 i1 hx h47 h48 hv
    have r43 : w 43 = x 43 := hx 43 (by decide) (by decide) (by decide)
    have r58 : w 58 = x 58 := hx 58 (by decide) (by decide) (by decide)
    have r44 : w 44 = x 44 := hx 44 (by decide) (by decide) (by decide)
    rw [f_R_goWeek_44, r43, h0]
    refine pc_ite (fun z => ?_) (fun z => ?_)
    · have e : v3 = P := by omega
      subst e
      refine pc_w (gy164 (s := fun j => mid (x 47) (x 58) (x 43 10) v3.toNat j) w hP (by rw [r43]; exact h0) hB FU (v3 := 0) (by decide) hP.1 (fun _ _ => rfl) (fun j hj => by rw [if_neg (fun h => by have := h.1; omega)]; exact h47 j)) (fun r u y => ?_)
      obtain ⟨y1, y2, y3, y4, y5, y6⟩ := y
      rw [r43] at y3 y4 y5
      refine ⟨by rw [y1]; exact hv, fun j hj => ?_, fun q => ?_, y3, fun t ht => by rw [y4 t ht, hx 50 (by decide) (by decide) (by decide)], by rw [y5, y1], fun c k c1 c2 c3 c4 c5 => by rw [y6 c k c1 c4 c5, hx c c1 c2 c3]⟩
      · rw [y2 j hj]
        exact mid_nis hj (fun i hi hn => by
          rcases hg i hi with e | e
          · exact absurd e hn
          · exact e.2)
      · rw [y6 48 q (by decide) (by decide) (by omega), y6 49 q (by decide) (by decide) (by omega)]
        exact h48 q
    · refine pc_gd (fun _ => ?_)
      have em : mid (x 47) (x 58) (x 43 10) v3.toNat v3.toNat = x 47 v3.toNat := by
        unfold mid
        rw [if_neg (fun h => by have := h.1; omega)]
      rw [isG_e, jc_s, h47, em, r58]
      have e3 : (v3 + 1).toNat = v3.toNat + 1 := by omega
      have ems : ∀ j, j ≠ v3.toNat → mid (x 47) (x 58) (x 43 10) (v3.toNat + 1) j = mid (x 47) (x 58) (x 43 10) v3.toNat j := fun j hj => by
        unfold mid
        by_cases c : j < v3.toNat ∧ gst (x 47 j) = true
        · rw [if_pos c, if_pos ⟨by omega, c.2⟩]
        · rw [if_neg c, if_neg (fun h => c ⟨by omega, h.2⟩)]
      have nx : ∀ {u : Wd} {a : Int}, (∀ c, c ≠ 47 → c ≠ 48 → c ≠ 49 → u c = x c) → (∀ j : Nat, u 47 j = mid (x 47) (x 58) (x 43 10) (v3.toNat + 1) j) → (∀ q : Nat, u 48 q = (if brn (x 58) (v3.toNat + 1) q = true then byo (x 58) (v3.toNat + 1) q else x 48 q) ∧ u 49 q = if brn (x 58) (v3.toNat + 1) q = true then x 43 8 else x 49 q) → a = sms (fun q => if brn (x 58) (v3.toNat + 1) q = true then x 44 q else 0) P.toNat → PC (f_R_goWeek_156 (f_R_goWeek_44 n) a v2 v3 u) (fun r u => GQ P x r u) := by
        intro u a a1 a2 a3 a4
        unfold f_R_goWeek_156
        refine pc_let (fun x5 e5 => ?_)
        rw [wsucc (P := P) (by omega) (by omega)] at e5
        rw [e5]
        exact ih (by omega) (by omega) a1 (by rw [e3]; exact a2) (by rw [e3]; exact a3) (by rw [e3]; exact a4)
      have hgi := hg v3.toNat (by omega)
      -- nobody is brought by this one
      have none1 : x 58 v3.toNat = -1 → (∀ q : Nat, brn (x 58) (v3.toNat + 1) q = brn (x 58) v3.toNat q) ∧ ∀ q : Nat, byo (x 58) (v3.toNat + 1) q = byo (x 58) v3.toNat q := fun e => by
        refine ⟨fun q => ?_, fun q => ?_⟩
        · rw [brn, e, beq_eq_false_iff_ne.mpr (show ¬ (-1 : Int) = (q : Int) by omega), Bool.or_false]
        · rw [byo, if_neg (by rw [e]; omega)]
      cases hb : gst (x 47 v3.toNat) with
      | false =>
        have e1 : x 58 v3.toNat = -1 := by
          rcases hgi with e | e
          · exact e
          · rw [hb] at e; cases e.2
        refine pc_ite (fun _ => ?_) (fun c => absurd rfl c)
        obtain ⟨n1, n2⟩ := none1 e1
        refine nx hx (fun j => ?_) (fun q => ?_) ?_
        · by_cases c : j = v3.toNat
          · rw [h47, c, em]
            unfold mid
            rw [if_neg (fun h => by rw [hb] at h; cases h.2)]
          · rw [ems j c]; exact h47 j
        · rw [n1, n2]; exact h48 q
        · rw [hv]; exact sms_eq (fun j _ => by rw [n1])
      | true =>
        refine pc_ite (fun c => absurd c (by decide)) (fun _ => ?_)
        refine pc_gd (fun _ => ?_)
        have sr := hs v3.toNat (by omega)
        refine pc_ite (fun e1 => ?_) (fun e1 => ?_)
        · obtain ⟨n1, n2⟩ := none1 e1
          refine pc_gd (fun _ => pc_gd (fun _ => pc_lw (fun u23 e23 => pc_gd (fun _ => ?_))))
          have w1 := w32_sp (x 47 v3.toNat + 1)
          have w2 := w32_sp (w32 (x 47 v3.toNat + 1) - 1)
          have ek : u23 47 v3.toNat = x 47 v3.toNat + 1 := by rw [e23, st_eq]; omega
          have e10 : u23 43 10 = x 43 10 := by rw [e23, st_c (by decide), r43]
          have w3 := w32_sp (u23 47 v3.toNat - 1)
          have hmi : mid (x 47) (x 58) (x 43 10) (v3.toNat + 1) v3.toNat = if x 47 v3.toNat < x 43 10 then x 47 v3.toNat + 1 else 4 := by
            unfold mid
            rw [if_pos ⟨by omega, hb⟩, if_pos e1]
          refine pc_ite (fun c => ?_) (fun c => ?_)
          · refine nx (fun c a1 a2 a3 => by rw [e23, st_row a1]; exact hx c a1 a2 a3) (fun j => ?_) (fun q => ?_) ?_
            · by_cases cj : j = v3.toNat
              · rw [cj, ek, hmi, if_pos (by omega)]
              · rw [ems j cj, e23, st_k cj]; exact h47 j
            · rw [n1, n2, e23, st_c (by decide), st_c (by decide)]; exact h48 q
            · rw [hv]; exact sms_eq (fun j _ => by rw [n1])
          · refine pc_gd (fun _ => pc_lw (fun u24 e24 => ?_))
            refine nx (fun c a1 a2 a3 => by rw [e24, st_row a1, e23, st_row a1]; exact hx c a1 a2 a3) (fun j => ?_) (fun q => ?_) ?_
            · by_cases cj : j = v3.toNat
              · rw [cj, e24, st_eq, hmi, if_neg (by omega)]
              · rw [ems j cj, e24, st_k cj, e23, st_k cj]; exact h47 j
            · rw [n1, n2, e24, st_c (by decide), st_c (by decide), e23, st_c (by decide), st_c (by decide)]; exact h48 q
            · rw [hv]; exact sms_eq (fun j _ => by rw [n1])
        · have hq := (hgi.resolve_left e1).1
          have ebg : (((x 58 v3.toNat).toNat : Nat) : Int) = x 58 v3.toNat := by omega
          have hnb : brn (x 58) v3.toNat (x 58 v3.toNat).toNat = false := brn_f (fun i hi e2 => by
            have := hI i v3.toNat (by omega) (by omega) (by rw [e2]; omega) (by rw [e2]; omega)
            omega)
          have hmi : mid (x 47) (x 58) (x 43 10) (v3.toNat + 1) v3.toNat = 1 := by
            unfold mid
            rw [if_pos ⟨by omega, hb⟩, if_neg e1]
          refine pc_gd (fun _ => pc_let (fun x17 e17 => pc_gd (fun _ => pc_lw (fun u18 e18 => pc_gd (fun _ => pc_let (fun x19 e19 => pc_gd (fun _ => pc_lw (fun u20 e20 => pc_gd (fun _ => pc_lw (fun u21 e21 => ?_))))))))))
          have e44' : u18 44 x17.toNat = x 44 (x 58 v3.toNat).toNat := by rw [e18, st_c (by decide), r44, e17]
          have rg := sms_rg2 (f := brn (x 58) v3.toNat) h44 P.toNat
          have p4 := h44 (x 58 v3.toNat).toNat
          have ex19 : x19 = v1 + x 44 (x 58 v3.toNat).toNat := by
            rw [e19, e44']
            have := w32_sp (v1 + x 44 (x 58 v3.toNat).toNat)
            omega
          refine nx (fun c a1 a2 a3 => by rw [e21, st_row a3, e20, st_row a2, e18, st_row a1]; exact hx c a1 a2 a3) (fun j => ?_) (fun q => ?_) ?_
          · rw [e21, st_c (by decide), e20, st_c (by decide), e18]
            by_cases cj : j = v3.toNat
            · rw [cj, st_eq, hmi]
            · rw [ems j cj, st_k cj]; exact h47 j
          · rw [brn, byo]
            have e8 : u20 43 8 = x 43 8 := by rw [e20, st_c (by decide), e18, st_c (by decide), r43]
            by_cases cq : x 58 v3.toNat = (q : Int)
            · have cq2 : x17.toNat = q := by rw [e17]; omega
              rw [beq_iff_eq.mpr cq, Bool.or_true, if_pos rfl, if_pos rfl, if_pos cq]
              refine ⟨?_, ?_⟩
              · rw [e21, st_c (by decide), e20, cq2, st_eq]; omega
              · rw [e21, cq2, st_eq]; exact e8
            · have cq2 : q ≠ x17.toNat := by rw [e17]; omega
              rw [beq_eq_false_iff_ne.mpr cq, Bool.or_false, if_neg cq]
              refine ⟨?_, ?_⟩
              · rw [e21, st_c (by decide), e20, st_k cq2, e18, st_c (by decide)]; exact (h48 q).1
              · rw [e21, st_k cq2, e20, st_c (by decide), e18, st_c (by decide)]; exact (h48 q).2
          · rw [ex19, hv]
            have := sms_add (f := brn (x 58) v3.toNat) (g := x 44) (v := x 58 v3.toNat) (n := P.toNat) (by omega) hq.1 hnb
            rw [← this]
            exact sms_eq (fun j _ => by rw [brn])
def GWq (P : Int) (w : Wd) (r : Int) (u : Wd) : Prop := (u 43 8 = w 43 8 + 1 ∧ u 43 32 = w 43 32 + 1 ∧ u 43 7 = w32 (w 43 7 + r)) ∧ r = sms (fun q => if brn (w 58) P.toNat q = true then w 44 q else 0) P.toNat ∧ (∀ j : Nat, (j : Int) < P → u 47 j = nis P (w 47) (w 43 10) (mvs P (w 58)) j) ∧ (∀ q : Nat, u 48 q = (if brn (w 58) P.toNat q = true then byo (w 58) P.toNat q else w 48 q) ∧ u 49 q = if brn (w 58) P.toNat q = true then w 43 8 + 1 else w 49 q) ∧ B10 (u 50 (w 43 8 + 1).toNat) (gs P (u 47)) ∧ (∀ t, t ≠ (w 43 8 + 1).toNat → u 50 t = w 50 t) ∧ (∀ j : Nat, j < 10 → u 59 (31 * (w 43 32).toNat + 3 * j) = w 47 j ∧ u 59 (31 * (w 43 32).toNat + 3 * j + 1) = w 48 j ∧ u 59 (31 * (w 43 32).toNat + 3 * j + 2) = w 49 j) ∧ u 59 (31 * (w 43 32).toNat + 30) = w 43 7 ∧ (∀ i, i < 31 * (w 43 32).toNat → u 59 i = w 59 i) ∧ ∀ c k, c ≠ 47 → c ≠ 48 → c ≠ 49 → c ≠ 50 → c ≠ 59 → ¬ (c = 43 ∧ (k = 7 ∨ k = 8 ∨ k = 32)) → u c k = w c k
theorem goweek_pc {P : Int} {w : Wd} (hP : 0 ≤ P ∧ P ≤ 10) (h0 : w 43 0 = P) (h8 : 0 ≤ w 43 8 ∧ w 43 8 ≤ 59) (h32 : 0 ≤ w 43 32 ∧ w 43 32 ≤ 59) (hI : INJ P.toNat (w 58)) (hg : ∀ i : Nat, (i : Int) < P → w 58 i = -1 ∨ ((0 ≤ w 58 i ∧ w 58 i < P) ∧ gst (w 47 i) = true)) (hs : ∀ j : Nat, (j : Int) < P → 0 ≤ w 47 j ∧ w 47 j ≤ 4) (h44 : ∀ j, 0 ≤ w 44 j ∧ w 44 j ≤ 9) : PC (f_R_goWeek w) (fun r u => GWq P w r u) := by
  unfold f_R_goWeek
  have e31 : w32 (31 * w 43 32) = ((31 * (w 43 32).toNat : Nat) : Int) := by
    have := w32_sp (31 * w 43 32)
    omega
  refine pc_call (pc_and (layq59 (k := 31 * (w 43 32).toNat) e31 (by omega) w) (by unfold f_R_lay_43_59; exact lay_fr FU)) (fun r1 u2 q => ?_)
  obtain ⟨⟨q1, q2, q3⟩, q4⟩ := q
  refine pc_lw (fun u3 e3 => ?_)
  refine pc_lw (fun u4 e4 => ?_)
  have r43 : u2 43 = w 43 := q4 43 (by decide)
  have o4 : ∀ c k, c ≠ 59 → ¬ (c = 43 ∧ (k = 8 ∨ k = 32)) → u4 c k = w c k := fun c k h59 hc => by
    rw [e4]; unfold st; rw [if_neg (by omega), e3]; unfold st; rw [if_neg (by omega), q4 c h59]
  have ro : ∀ c, c ≠ 59 → c ≠ 43 → u4 c = w c := fun c h59 h43 => funext fun k => o4 c k h59 (by omega)
  have w1 := w32_sp (w 43 8 + 1)
  have w2 := w32_sp (w 43 32 + 1)
  have e8 : u4 43 8 = w 43 8 + 1 := by rw [e4, st_eq, e3, st_k (by decide), r43]; omega
  have e32 : u4 43 32 = w 43 32 + 1 := by rw [e4, st_k (by decide), e3, st_eq, r43]; omega
  have h0' : u4 43 0 = P := by rw [o4 43 0 (by decide) (by decide)]; exact h0
  have r58 : u4 58 = w 58 := ro 58 (by decide) (by decide)
  have r47 : u4 47 = w 47 := ro 47 (by decide) (by decide)
  have hbn := bn_pc (w := u4) (by omega) (fun i hi => by
    rw [r58]
    rcases hg i (by omega) with e | e
    · exact Or.inl e
    · exact Or.inr (by omega))
  rw [h0'] at hbn
  refine pc_call hbn (fun r5 u6 y => ?_)
  rw [y.1]
  refine pc_w (gy44 u4 hP h0' y.2 (by rw [r58]; exact hI) (by rw [r58, r47]; exact hg) (by rw [r47]; exact hs) (by rw [ro 44 (by decide) (by decide)]; exact h44) FU (v3 := 0) (by decide) hP.1 (fun _ _ _ _ => rfl) (fun j => ?_) (fun q => ?_) ?_) (fun r u z => ?_)
  · unfold mid
    rw [if_neg (fun h => by have := h.1; omega)]
  · exact ⟨rfl, rfl⟩
  · exact (sms_0 (fun j _ => rfl)).symm
  · obtain ⟨z1, z2, z3, z4, z5, z6, z7⟩ := z
    rw [r58, ro 44 (by decide) (by decide)] at z1
    rw [r58, r47, o4 43 10 (by decide) (by decide)] at z2
    rw [e8] at z4 z5
    have r59 : ∀ i, u 59 i = u2 59 i := fun i => by
      rw [z7 59 i (by decide) (by decide) (by decide) (by decide) (by omega), e4, st_c (by decide), e3, st_c (by decide)]
    refine ⟨⟨?_, ?_, ?_⟩, z1, z2, fun q => ?_, z4, fun t ht => ?_, fun j hj => ?_, ?_, fun i hi => ?_, fun c k c1 c2 c3 c4 c5 c6 => ?_⟩
    · rw [z7 43 8 (by decide) (by decide) (by decide) (by decide) (by decide)]; exact e8
    · rw [z7 43 32 (by decide) (by decide) (by decide) (by decide) (by decide)]; exact e32
    · rw [z6, o4 43 7 (by decide) (by decide)]
    · have := z3 q
      rw [r58, e8, ro 48 (by decide) (by decide), ro 49 (by decide) (by decide)] at this
      exact this
    · rw [z5 t ht, ro 50 (by decide) (by decide)]
    · rw [r59, r59, r59]; exact q1 j hj
    · rw [r59]; exact q2
    · rw [r59]; exact q3 i (Or.inl hi)
    · rw [z7 c k c1 c2 c3 c4 (by omega)]; exact o4 c k c5 (by omega)
/-! A WEEK GOES BY: the class -/
def EPq (P : Int) (bg s : Nat → Int) (g : Int) (w : Wd) (r : Int) (u : Wd) : Prop := (u 15 3 = w 15 3 + 1 ∧ u 15 4 = w 15 4 + 1 ∧ u 5 6 = w32 (w 5 6 + r)) ∧ r = sms (fun q => if brn bg P.toNat q = true then w 6 q else 0) P.toNat ∧ WH (u 5 4) (nis P s g (mvs P bg)) P ∧ B10 (u 16 (w 15 3 + 1).toNat) (gs P (nis P s g (mvs P bg))) ∧ (∀ t, t ≠ (w 15 3 + 1).toNat → u 16 t = w 16 t) ∧ (∀ q : Nat, (q : Int) < P → u 8 q = if brn bg P.toNat q = true then byo bg P.toNat q else w 8 q) ∧ (u 17 (w 15 3).toNat = w 5 4 ∧ u 18 (w 15 3).toNat = w 5 6 ∧ ∀ t, t ≠ (w 15 3).toNat → u 17 t = w 17 t ∧ u 18 t = w 18 t) ∧ ∀ c k, c ≠ 8 → c ≠ 16 → c ≠ 17 → c ≠ 18 → c ≠ 28 → ¬ (c = 5 ∧ (k = 4 ∨ k = 6)) → ¬ (c = 15 ∧ (k = 3 ∨ k = 4)) → u c k = w c k
theorem pbr_pc {P i : Int} {bg : Nat → Int} {m : Nat} {w : Wd} (h : PLm P bg m w) (hi : 0 ≤ i ∧ i < m) : PC (f_P_bringer i w) (fun r u => u = w ∧ r = w 13 i.toNat) := by
  unfold f_P_bringer
  rw [h.1]
  refine pc_ite (fun z => by omega) (fun _ => ?_)
  refine pc_ite (fun z => by omega) (fun _ => ?_)
  exact pc_gd (fun _ => pc_some ⟨rfl, rfl⟩)
theorem pwo_pc {P i : Int} {bg : Nat → Int} {m : Nat} {w : Wd} (h : PLm P bg m w) (hi : 0 ≤ i ∧ i < m) : PC (f_P_whomOf i w) (fun r u => u = w ∧ r = w 14 i.toNat) := by
  unfold f_P_whomOf
  rw [h.1]
  refine pc_ite (fun z => by omega) (fun _ => ?_)
  refine pc_ite (fun z => by omega) (fun _ => ?_)
  exact pc_gd (fun _ => pc_some ⟨rfl, rfl⟩)
theorem fbr_pc {P a q : Int} {w : Wd} (h3 : w 5 3 = P) (ha : 0 ≤ a ∧ a < P) (hq : 0 ≤ q ∧ q < P) : PC (f_F_bring a q w) (fun r u => r = w 6 q.toNat ∧ u = st w 8 q.toNat a) := by
  unfold f_F_bring
  refine pc_call (it_pc a w) (fun r1 u2 y => ?_)
  rw [y.1, y.2, h3, show hd P a = 1 from if_pos ha]
  refine pc_ite (fun e => absurd e (by decide)) (fun _ => ?_)
  refine pc_call (it_pc q w) (fun r3 u4 y2 => ?_)
  rw [y2.1, y2.2, h3, show hd P q = 1 from if_pos hq]
  refine pc_ite (fun e => absurd e (by decide)) (fun _ => ?_)
  refine pc_gd (fun _ => pc_lw (fun u5 e5 => pc_gd (fun _ => pc_some ⟨?_, e5⟩)))
  rw [e5, st_c (by decide)]
/-- the rows of a WEEK are its pairs -/
theorem plm_inj {P : Int} {bg : Nat → Int} {m : Nat} {w : Wd} (h : PLm P bg m w) (hI : INJ P.toNat bg) : INJ m (w 14) := by
  intro i j hi hj e _
  have a := h.2.2.1 i hi
  have b := h.2.2.1 j hj
  have : (w 13 i).toNat = (w 13 j).toNat := hI _ _ (by omega) (by omega) (by rw [a.2.2, b.2.2]; exact e) (by rw [a.2.2]; omega)
  exact h.2.2.2.2 i j hi hj (by omega)
theorem plm_brn {P : Int} {bg : Nat → Int} {m : Nat} {w : Wd} (h : PLm P bg m w) (q : Nat) : brn (w 14) m q = brn bg P.toNat q := by
  have h1 : brn (w 14) m q = true → brn bg P.toNat q = true := fun e => by
    obtain ⟨i, hi, e2⟩ := brn_t.mp e
    have a := h.2.2.1 i hi
    exact brn_t.mpr ⟨(w 13 i).toNat, by omega, by rw [a.2.2]; exact e2⟩
  have h2 : brn bg P.toNat q = true → brn (w 14) m q = true := fun e => by
    obtain ⟨a, ha, e2⟩ := brn_t.mp e
    obtain ⟨i, hi, e3⟩ := h.2.2.2.1 a (by omega) (by rw [e2]; omega)
    have b := h.2.2.1 i hi
    refine brn_t.mpr ⟨i, hi, ?_⟩
    rw [← b.2.2, e3]
    exact e2
  cases c1 : brn (w 14) m q with
  | true => exact (h1 c1).symm
  | false =>
    cases c2 : brn bg P.toNat q with
    | false => rfl
    | true => rw [h2 c2] at c1; cases c1
theorem plm_byo {P : Int} {bg : Nat → Int} {m : Nat} {w : Wd} (h : PLm P bg m w) (hI : INJ P.toNat bg) {q : Nat} (e : brn bg P.toNat q = true) : w 13 (byo (w 14) m q).toNat = byo bg P.toNat q := by
  obtain ⟨a, ha, e2⟩ := brn_t.mp e
  obtain ⟨i, hi, e3⟩ := h.2.2.2.1 a (by omega) (by rw [e2]; omega)
  have b := h.2.2.1 i hi
  have e4 : w 14 i = q := by rw [← b.2.2, e3]; exact e2
  rw [byo_e (plm_inj h hI) hi e4, byo_e hI ha e2]
  exact e3
theorem mv_ok {P : Int} {s h kn bg : Nat → Int} (hg : GWK P s h kn bg) (k : Nat) (hm : mvs P bg k = true) : (k : Int) < P ∧ s k ≠ 4 := by
  unfold mvs at hm
  rw [Bool.or_eq_true] at hm
  rcases hm with e | e
  · have h1 := gwk_gs hg e
    unfold bng at e
    rw [Bool.and_eq_true] at e
    refine ⟨inP_t e.1, fun e4 => ?_⟩
    rw [e4] at h1
    cases h1
  · have := brn_sr hg e
    exact ⟨this.1, by rw [this.2.1]; decide⟩
theorem ep15 {P g : Int} {bg s h kn : Nat → Int} {m : Nat} (x : Wd) (hP : 0 ≤ P ∧ P ≤ 10) (h3 : x 5 3 = P) (h7 : x 5 7 = g) (hg : 1 ≤ g ∧ g ≤ 3) (hw : WH (x 5 4) s P) (hL : PLm P bg m x) (hm : m ≤ 10) (hW : GWK P s h kn bg) (h15 : 0 ≤ x 15 3 ∧ x 15 3 ≤ 59) (h6 : ∀ j, 0 ≤ x 6 j ∧ x 6 j ≤ 9) : ∀ (n : Nat) {w : Wd} {v1 v2 : Int}, 0 ≤ v2 → v2 ≤ m → (∀ c, c ≠ 8 → w c = x c) → (∀ q : Nat, w 8 q = if brn (x 14) v2.toNat q = true then x 13 (byo (x 14) v2.toNat q).toNat else x 8 q) → v1 = sms (fun q => if brn (x 14) v2.toNat q = true then x 6 q else 0) P.toNat → PC (f_E_pass_15 n v1 v2 w) (fun r u => r = sms (fun q => if brn (x 14) m q = true then x 6 q else 0) P.toNat ∧ (u 15 3 = x 15 3 + 1 ∧ u 5 6 = w32 (x 5 6 + r)) ∧ WH (u 5 4) (nis P s g (mvs P bg)) P ∧ B10 (u 16 (x 15 3 + 1).toNat) (gs P (nis P s g (mvs P bg))) ∧ (∀ t, t ≠ (x 15 3 + 1).toNat → u 16 t = x 16 t) ∧ (∀ q : Nat, u 8 q = if brn (x 14) m q = true then x 13 (byo (x 14) m q).toNat else x 8 q) ∧ ∀ c k, c ≠ 8 → c ≠ 16 → c ≠ 28 → ¬ (c = 5 ∧ (k = 4 ∨ k = 6)) → ¬ (c = 15 ∧ k = 3) → u c k = x c k) := by
  intro n
  induction n with
  | zero => intros; exact pc_none
  | succ n ih =>
    intro w v1 v2 i0 i1 hx h8 hv
    have r12 : w 12 = x 12 := hx 12 (by decide)
    rw [f_E_pass_15, r12, hL.1]
    have hLw : PLm P bg m w := plm_eq hL ⟨by rw [r12], by rw [r12]⟩ (hx 13 (by decide)) (hx 14 (by decide))
    refine pc_ite (fun z => ?_) (fun z => ?_)
    · have e : v2.toNat = m := by omega
      rw [e] at h8 hv
      refine pc_lw (fun u3 e3 => ?_)
      have r5 : ∀ k, k ≠ 6 → u3 5 k = x 5 k := fun k hk => by rw [e3, st_k hk, hx 5 (by decide)]
      have r12' : u3 12 = x 12 := by rw [e3, st_row (by decide)]; exact r12
      rw [r5 4 (by decide), r5 7 (by decide), r12', h7]
      obtain ⟨ra, ea, ewh⟩ := after_e (g := g) (v := x 12 3) hw hP hg hL.2.1 (fun k _ hk => mv_ok hW k hk) u3
      rw [ea, jc_s]
      refine pc_lw (fun u6 e6 => ?_)
      refine pc_lw (fun u7 e7 => ?_)
      have e15 : u7 15 3 = x 15 3 + 1 := by
        rw [e7, st_eq, e6, st_c (by decide), e3, st_c (by decide), hx 15 (by decide)]
        exact w32_id (by omega)
      have e54 : u7 5 4 = ra := by rw [e7, st_c (by decide), e6, st_eq]
      refine pc_call (eg_e (w := u7) (P := P) (s := nis P s g (mvs P bg)) (by rw [e54]; exact ewh)) (fun r8 u9 q => ?_)
      rw [q.1]
      refine pc_call (ng_pc (v1 := r8) (w := u7) (by rw [e15]; omega)) (fun r10 u11 q2 => ?_)
      refine pc_call (sf_pc u11) (fun r12 u13 y => pc_some ⟨hv, ⟨?_, ?_⟩, ?_, ?_, fun t ht => ?_, fun q3 => ?_, fun c k c1 c2 c3 c4 c5 => ?_⟩)
      · rw [y 15 (by decide), q2, st_c (by decide)]; exact e15
      · rw [y 5 (by decide), q2, st_c (by decide), e7, st_c (by decide), e6, st_k (by decide), e3, st_eq, hx 5 (by decide)]
      · rw [y 5 (by decide), q2, st_c (by decide), e54]; exact ewh
      · rw [y 16 (by decide), q2, e15, st_eq]; exact q.2
      · rw [y 16 (by decide), q2, e15, st_k ht, e7, st_c (by decide), e6, st_c (by decide), e3, st_c (by decide), hx 16 (by decide)]
      · rw [y 8 (by decide), q2, st_c (by decide), e7, st_c (by decide), e6, st_c (by decide), e3, st_c (by decide)]; exact h8 q3
      · rw [y c c3, q2]; unfold st; rw [if_neg (fun h => c2 h.1), e7]; unfold st; rw [if_neg c5, e6]; unfold st; rw [if_neg (by omega), e3]; unfold st; rw [if_neg (by omega), hx c c1]
    · have hi : 0 ≤ v2 ∧ v2 < m := by omega
      have hr := hL.2.2.1 v2.toNat (by omega)
      refine pc_call (pbr_pc hLw hi) (fun r14 u15 y1 => ?_)
      rw [y1.1]
      refine pc_call (pwo_pc hLw hi) (fun r16 u17 y2 => ?_)
      rw [y2.1, y1.2, y2.2, hx 13 (by decide), hx 14 (by decide)]
      refine pc_call (fbr_pc (w := w) (P := P) (by rw [hx 5 (by decide)]; exact h3) hr.1 hr.2.1) (fun r18 u19 y3 => ?_)
      have r6 : w 6 = x 6 := hx 6 (by decide)
      have ei := plm_inj hL hW.1
      have hnb : brn (x 14) v2.toNat (x 14 v2.toNat).toNat = false := brn_f (fun i hi2 e2 => by
        have := ei i v2.toNat (by omega) (by omega) (by omega) (by omega)
        omega)
      refine pc_let (fun x20 e20 => ?_)
      refine pc_let (fun x21 e21 => ?_)
      rw [wsucc (P := 10) (by omega) (by omega)] at e21
      rw [e21]
      have e3 : (v2 + 1).toNat = v2.toNat + 1 := by omega
      have rg := sms_rg2 (f := brn (x 14) v2.toNat) h6 P.toNat
      have p6 := h6 (x 14 v2.toNat).toNat
      have ex20 : x20 = v1 + x 6 (x 14 v2.toNat).toNat := by
        rw [e20, y3.1, r6]
        have := w32_sp (v1 + x 6 (x 14 v2.toNat).toNat)
        omega
      refine ih (by omega) (by omega) (fun c hc => by rw [y3.2, st_row hc]; exact hx c hc) (fun q => ?_) ?_
      · rw [y3.2, e3, brn, byo]
        by_cases cq : x 14 v2.toNat = (q : Int)
        · have cq2 : (x 14 v2.toNat).toNat = q := by omega
          rw [beq_iff_eq.mpr cq, Bool.or_true, if_pos rfl, if_pos cq, cq2, st_eq]
          rfl
        · have cq2 : q ≠ (x 14 v2.toNat).toNat := by omega
          rw [beq_eq_false_iff_ne.mpr cq, Bool.or_false, if_neg cq, st_k cq2]
          exact h8 q
      · rw [ex20, hv, e3]
        have := sms_add (f := brn (x 14) v2.toNat) (g := x 6) (v := x 14 v2.toNat) (n := P.toNat) (by omega) hr.2.1.1 hnb
        rw [← this]
        exact sms_eq (fun j _ => by rw [brn])
theorem pass_pc {P g : Int} {bg s h kn : Nat → Int} {m : Nat} {w : Wd} (hP : 0 ≤ P ∧ P ≤ 10) (h3 : w 5 3 = P) (h7 : w 5 7 = g) (hg : 1 ≤ g ∧ g ≤ 3) (hw : WH (w 5 4) s P) (hL : PLm P bg m w) (hm : m ≤ 10) (hW : GWK P s h kn bg) (h15 : 0 ≤ w 15 3 ∧ w 15 3 ≤ 59) (hu : 0 ≤ w 15 4 ∧ w 15 4 ≤ 60) (h6 : ∀ j, 0 ≤ w 6 j ∧ w 6 j ≤ 9) : PC (f_E_pass w) (fun r u => EPq P bg s g w r u) := by
  unfold f_E_pass
  have hna : PC (f_D_noteAhead w) (fun _ u => u = st (st (st w 17 (w 15 3).toNat (w 5 4)) 18 (w 15 3).toNat (w 5 6)) 15 4 (w 15 4 + 1)) := by
    unfold f_D_noteAhead f_D_isOne
    rw [if_neg (by omega), if_neg (by omega), if_neg (by omega), jc_s, if_neg (by decide)]
    refine pc_gd (fun _ => pc_lw (fun u3 e3 => pc_gd (fun _ => pc_lw (fun u4 e4 => pc_lw (fun u5 e5 => pc_some ?_)))))
    have a1 : u3 15 3 = w 15 3 := by rw [e3, st_c (by decide)]
    have a2 : u3 5 6 = w 5 6 := by rw [e3, st_c (by decide)]
    have a3 : u4 15 4 = w 15 4 := by rw [e4, st_c (by decide), e3, st_c (by decide)]
    rw [e5, a3, e4, a1, a2, e3, w32_id (by omega)]
  refine pc_call hna (fun r1 x ex => ?_)
  have ro : ∀ c, c ≠ 17 → c ≠ 18 → c ≠ 15 → x c = w c := fun c c1 c2 c3 => by rw [ex, st_row c3, st_row c2, st_row c1]
  have r153 : x 15 3 = w 15 3 := by rw [ex, st_k (by decide), st_c (by decide), st_c (by decide)]
  have hLx : PLm P bg m x := plm_eq hL ⟨by rw [ro 12 (by decide) (by decide) (by decide)], by rw [ro 12 (by decide) (by decide) (by decide)]⟩ (ro 13 (by decide) (by decide) (by decide)) (ro 14 (by decide) (by decide) (by decide))
  have r5 := ro 5 (by decide) (by decide) (by decide)
  have r6 := ro 6 (by decide) (by decide) (by decide)
  refine pc_w (ep15 x hP (by rw [r5]; exact h3) (by rw [r5]; exact h7) hg (by rw [r5]; exact hw) hLx hm hW (by omega) (by rw [r6]; exact h6) FU (v1 := 0) (v2 := 0) (by decide) (by omega) (fun _ _ => rfl) (fun q => rfl) (sms_0 (fun _ _ => rfl)).symm) (fun r u y => ?_)
  obtain ⟨y1, ⟨y2, y3⟩, y4, y5, y6, y7, y8⟩ := y
  rw [r153] at y2 y5 y6
  rw [r5] at y3
  refine ⟨⟨y2, ?_, y3⟩, ?_, y4, y5, fun t ht => ?_, fun q hq => ?_, ⟨?_, ?_, fun t ht => ⟨?_, ?_⟩⟩, fun c k c1 c2 c3 c4 c5 c6 c7 => ?_⟩
  · rw [y8 15 4 (by decide) (by decide) (by decide) (by decide) (by decide), ex, st_eq]
  · rw [y1, r6]
    exact sms_eq (fun j _ => by rw [plm_brn hLx])
  · rw [y6 t ht, ro 16 (by decide) (by decide) (by decide)]
  · rw [y7 q, plm_brn hLx]
    by_cases c : brn bg P.toNat q = true
    · rw [if_pos c, if_pos c]; exact plm_byo hLx hW.1 c
    · rw [if_neg c, if_neg c, ro 8 (by decide) (by decide) (by decide)]
  · rw [y8 17 _ (by decide) (by decide) (by decide) (by omega) (by omega), ex, st_c (by decide), st_c (by decide), st_eq]
  · rw [y8 18 _ (by decide) (by decide) (by decide) (by omega) (by omega), ex, st_c (by decide), st_eq]
  · rw [y8 17 _ (by decide) (by decide) (by decide) (by omega) (by omega), ex, st_c (by decide), st_c (by decide), st_k ht]
  · rw [y8 18 _ (by decide) (by decide) (by decide) (by omega) (by omega), ex, st_c (by decide), st_k ht, st_c (by decide)]
  · rw [y8 c k c1 c2 c5 c6 (by omega), ex]; unfold st; rw [if_neg (by omega), if_neg (fun h => c4 h.1), if_neg (fun h => c3 h.1)]
/-! BOTH, SIDE BY SIDE: the class's part of one world and the reference's of another -/
def mx (w a : Wd) (c : Nat) : Nat → Int := if c < 43 then w c else a c
def CBd (m : Wd) : Prop := (0 ≤ m 43 0 ∧ m 43 0 ≤ 10) ∧ (∀ j, 0 ≤ m 44 j ∧ m 44 j ≤ 9) ∧ (∀ j, 0 ≤ m 6 j ∧ m 6 j ≤ 9) ∧ (∀ j : Nat, (j : Int) < m 43 0 → 0 ≤ m 45 j ∧ m 45 j ≤ 1023) ∧ (0 ≤ m 43 8 ∧ m 43 8 ≤ 60) ∧ 0 ≤ m 43 32 ∧ m 43 32 ≤ m 43 8
def ER (a w : Wd) : Prop := FC (mx w a) ∧ RU (mx w a) ∧ CBd (mx w a)
theorem fr_of {P : List (Nat × Nat)} {A : List Nat} {w u : Wd} (cc : Nat → Nat → Bool) (h : ∀ c k, cc c k = true → u c k = w c k) (cr : Nat → Bool) (hr : ∀ c, cr c = true → u c = w c) (hP : P.all (fun p => cc p.1 p.2) = true) (hA : A.all (fun c => cr c) = true) : FR P A w u :=
  ⟨fun p hp => h p.1 p.2 (List.all_eq_true.mp hP p hp), fun c hc => hr c (List.all_eq_true.mp hA c hc)⟩
def cbP : List (Nat × Nat) := [(43, 0), (43, 8), (43, 32)]
def cbA : List Nat := [6, 44, 45]
theorem cb_fr {w u : Wd} (h : CBd w) (f : FR cbP cbA w u) : CBd u := by
  have q0 : u 43 0 = w 43 0 := f.1 (43, 0) (by decide)
  have q8 : u 43 8 = w 43 8 := f.1 (43, 8) (by decide)
  have q32 : u 43 32 = w 43 32 := f.1 (43, 32) (by decide)
  unfold CBd
  rw [q0, q8, q32, f.2 6 (by decide), f.2 44 (by decide), f.2 45 (by decide)]
  exact h
/-- the plain frame of choosing -/
def pcc (c k : Nat) : Bool := !(c == 12 || c == 13 || c == 14 || c == 23 || c == 58 || (c == 43 && ((Nat.ble 17 k && Nat.ble k 21) || k == 28 || k == 29)))
def pcr (c : Nat) : Bool := !(c == 12 || c == 13 || c == 14 || c == 23 || c == 58 || c == 43)
theorem pcc_t {c k : Nat} (h : pcc c k = true) : (c ≠ 12 ∧ c ≠ 13 ∧ c ≠ 14 ∧ c ≠ 23) ∧ c ≠ 58 ∧ ¬ (c = 43 ∧ ((17 ≤ k ∧ k ≤ 21) ∨ k = 28 ∨ k = 29)) := by
  unfold pcc at h
  simp only [Bool.not_eq_true', Bool.or_eq_false_iff, Bool.and_eq_false_iff, beq_eq_false_iff_ne] at h
  obtain ⟨⟨⟨⟨⟨h1, h2⟩, h3⟩, h4⟩, h5⟩, h6⟩ := h
  refine ⟨⟨h1, h2, h3, h4⟩, h5, fun ⟨e, hk⟩ => ?_⟩
  rcases h6 with e2 | e2
  · exact e2 e
  · obtain ⟨⟨e3, e4⟩, e5⟩ := e2
    rcases hk with hk | hk | hk
    · rcases e3 with e3 | e3
      · rw [Nat.ble_eq_true_of_le hk.1] at e3; cases e3
      · rw [Nat.ble_eq_true_of_le hk.2] at e3; cases e3
    · exact e4 hk
    · exact e5 hk
theorem pcr_t {c : Nat} (h : pcr c = true) : (c ≠ 12 ∧ c ≠ 13 ∧ c ≠ 14 ∧ c ≠ 23) ∧ c ≠ 58 ∧ c ≠ 43 := by
  unfold pcr at h
  simp only [Bool.not_eq_true', Bool.or_eq_false_iff, beq_eq_false_iff_ne] at h
  obtain ⟨⟨⟨⟨⟨h1, h2⟩, h3⟩, h4⟩, h5⟩, h6⟩ := h
  exact ⟨⟨h1, h2, h3, h4⟩, h5, h6⟩
theorem er_choose {a w a' u : Wd} (h : ER a w) (hE : EXp w u) (hR : RXp a a') : ER a' u := by
  have hc : ∀ c k, pcc c k = true → mx u a' c k = mx w a c k := fun c k hk => by
    have := pcc_t hk
    unfold mx
    by_cases z : c < 43
    · rw [if_pos z, if_pos z, hE c this.1.1 this.1.2.1 this.1.2.2.1 this.1.2.2.2]
    · rw [if_neg z, if_neg z, hR c k this.2.1 this.2.2]
  have hr : ∀ c, pcr c = true → mx u a' c = mx w a c := fun c hk => by
    have := pcr_t hk
    unfold mx
    by_cases z : c < 43
    · rw [if_pos z, if_pos z, hE c this.1.1 this.1.2.1 this.1.2.2.1 this.1.2.2.2]
    · rw [if_neg z, if_neg z]
      exact funext fun k => hR c k this.2.1 (fun e => this.2.2 e.1)
  exact ⟨fc_fr h.1 (fr_of pcc hc pcr hr (by decide) (by decide)), ru_fr h.2.1 (fr_of pcc hc pcr hr (by decide) (by decide)), cb_fr h.2.2 (fr_of pcc hc pcr hr (by decide) (by decide))⟩
/-- a plan as both have it -/
def PLN (a w : Wd) : Prop := ∃ m : Nat, m ≤ 10 ∧ PLm (a 43 0) (a 58) m w ∧ GWK (a 43 0) (a 47) (a 46) (a 45) (a 58)
theorem mvs_eq {P : Int} {b1 b2 : Nat → Int} (e : ∀ k : Nat, (k : Int) < P → b1 k = b2 k) (q : Nat) : mvs P b1 q = mvs P b2 q := by
  unfold mvs bng
  rw [brn_eq (fun k hk => e k (by omega))]
  by_cases c : (q : Int) < P
  · rw [e q c]
  · rw [show inP P q = false from decide_eq_false c]; rfl
theorem plm_bg {P : Int} {b1 b2 : Nat → Int} {m : Nat} {w : Wd} (h : PLm P b1 m w) (e : ∀ k : Nat, (k : Int) < P → b1 k = b2 k) : PLm P b2 m w := by
  refine ⟨h.1, b10_w h.2.1 (fun k _ => mvs_eq e k), fun i hi => ?_, fun a ha hn => ?_, h.2.2.2.2⟩
  · have := h.2.2.1 i hi
    refine ⟨this.1, this.2.1, ?_⟩
    rw [← e (w 13 i).toNat (by omega)]
    exact this.2.2
  · rw [← e a ha] at hn
    exact h.2.2.2.1 a ha hn
theorem gwk_bg {P : Int} {s h kn b1 b2 : Nat → Int} (hg : GWK P s h kn b1) (e : ∀ k : Nat, (k : Int) < P → b1 k = b2 k) : GWK P s h kn b2 := by
  refine ⟨fun i j hi hj e2 hn => ?_, fun i hi => ?_⟩
  · rw [← e i (by omega), ← e j (by omega)] at e2
    rw [← e i (by omega)] at hn
    exact hg.1 i j hi hj e2 hn
  · rw [← e i hi]; exact hg.2 i hi
theorem er_plan {a w : Wd} (h : ER a w) : ∀ r u r' a', f_P_follow (w 15 3) w = some (r, u) → f_R_findChoices a = some (r', a') → ER a' u ∧ PLN a' u ∧ RXp a a' ∧ EXp w u := by
  intro r u r' a' hE hR
  obtain ⟨hF, hU, hC⟩ := h
  obtain ⟨fCO, fPP, fHB, fWH, fN, f16, fSN, fUB, fK1, fK2, fg, fs⟩ := hF
  obtain ⟨c, hc1, hc2, hc3, hc4⟩ := ruc_e hU
  have x0 : 0 ≤ a 43 0 ∧ a 43 0 ≤ 10 := hC.1
  have x3 : w 5 3 = a 43 0 := fCO.2.1
  have x7 : w 5 7 = a 43 10 := fCO.2.2.1.1
  have x8 : w 5 8 = a 43 11 := fCO.2.2.1.2
  have xg : 1 ≤ a 43 10 ∧ a 43 10 ≤ 3 := fg
  have xW : WH (w 5 4) (a 47) (a 43 0) := fWH
  have xH : B10 (w 5 5) (hB (a 43 0) (a 46)) := fHB
  have xp : ∀ j : Nat, (j : Int) < a 43 0 → w 6 j = a 44 j ∧ w 7 j = a 45 j ∧ w 8 j = a 48 j := fPP
  have x15 : w 15 3 = a 43 8 := fN.2.1
  have x6 : ∀ j, 0 ≤ w 6 j ∧ w 6 j ≤ 9 := hC.2.2.1
  have xk : ∀ j : Nat, (j : Int) < a 43 0 → 0 ≤ a 45 j ∧ a 45 j ≤ 1023 := hC.2.2.2.1
  have xc : RUC c (a 43 27) (a 57) := hc1
  have x19 : w 19 4 = (c.length : Int) := hc2
  have x20 : SR (w 20) c := hc3
  obtain ⟨e1, m, e2, e3⟩ := follow_pc (wk := w 15 3) (g := a 43 10) (seats := a 43 11) (s := a 47) (h := a 46) (pr := a 44) (kn := a 45) x19 hc4 x20 x0 x3 x7 xg.2 x8 xW xH (fun j hj => (xp j hj).1) (fun j hj => (xp j hj).2.1) x6 xk r u hE
  obtain ⟨d1, d2⟩ := choices_pc (g := a 43 10) (seats := a 43 11) (wk := w 15 3) (s := a 47) (h := a 46) (pr := a 44) (kn := a 45) xc x0 rfl rfl rfl x15.symm rfl rfl rfl rfl xW.2.2 xk r' a' hR
  refine ⟨er_choose ⟨⟨fCO, fPP, fHB, fWH, fN, f16, fSN, fUB, fK1, fK2, fg, fs⟩, hU, hC⟩ e1 d1, ⟨m, by omega, ?_, ?_⟩, d1, e1⟩
  · rw [d1 43 0 (by decide) (by decide)]
    exact plm_bg e3 (fun k hk => (d2 k hk).symm)
  · rw [d1 43 0 (by decide) (by decide), show a' 47 = a 47 from funext fun k => d1 47 k (by decide) (by omega), show a' 46 = a 46 from funext fun k => d1 46 k (by decide) (by omega), show a' 45 = a 45 from funext fun k => d1 45 k (by decide) (by omega)]
    exact gwk_bg (plf_gwk x0.1 (a 43 0).toNat (by omega)) (fun k hk => (d2 k hk).symm)
/-! the next WEEK keeps what both have in common -/
theorem fw_ne {f : Nat → Int} {j t : Nat} (h : bt (f t) j = true) : ∀ {n : Nat}, t < n → fw f j n ≠ -1 := by
  intro n
  induction n with
  | zero => intro h; omega
  | succ n ih =>
    intro ht
    by_cases c : t = n
    · subst c
      rw [fw_s h]
      by_cases c2 : fw f j t = -1
      · rw [if_pos c2]; omega
      · rw [if_neg c2]; exact c2
    · have := ih (by omega)
      rw [fw, if_neg this]; exact this
theorem nis_0 {P g : Int} {s : Nat → Int} {mv : Nat → Bool} {j : Nat} (hs : 0 ≤ s j) (h : nis P s g mv j = 0) : mv j = false ∧ s j = 0 := by
  unfold nis at h
  cases c : mv j with
  | true => rw [c, if_pos rfl] at h; omega
  | false =>
    rw [c, if_neg (by decide)] at h
    refine ⟨rfl, ?_⟩
    cases c2 : gst (s j) with
    | true =>
      rw [c2, if_pos rfl] at h
      by_cases c3 : s j < g
      · rw [if_pos c3] at h; omega
      · rw [if_neg c3] at h; omega
    | false => rw [c2, if_neg (by decide)] at h; exact h
theorem nis_n {P g : Int} {s : Nat → Int} {mv : Nat → Bool} {j : Nat} (hs : 0 ≤ s j) (h : s j ≠ 0) : nis P s g mv j ≠ 0 := fun e => h (nis_0 hs e).2
theorem nis_g {P g : Int} {s : Nat → Int} {mv : Nat → Bool} {j : Nat} (h : gst (nis P s g mv j) = true) : mv j = true ∨ gst (s j) = true := by
  unfold nis at h
  cases c : mv j with
  | true => exact Or.inl rfl
  | false =>
    rw [c, if_neg (by decide)] at h
    cases c2 : gst (s j) with
    | true => exact Or.inr rfl
    | false => rw [c2, if_neg (by decide), c2] at h; cases h
theorem nis_m {P g : Int} {s : Nat → Int} {mv : Nat → Bool} {j : Nat} (h : mv j = true) : nis P s g mv j = 1 := if_pos h
theorem sn_week {P wk g : Int} {s b f wr s' b' f' wr' hd0 kn bg : Nat → Int} (h : SN P s b f wr wk) (h0 : 0 ≤ wk) (hP : P ≤ 10) (hs : ∀ j : Nat, (j : Int) < P → 0 ≤ s j ∧ s j ≤ 4) (hW : GWK P s hd0 kn bg) (e1 : ∀ j : Nat, (j : Int) < P → s' j = nis P s g (mvs P bg) j) (e2 : ∀ j : Nat, (j : Int) < P → b' j = if brn bg P.toNat j = true then byo bg P.toNat j else b j) (e3 : ∀ j : Nat, (j : Int) < P → f' j = if brn bg P.toNat j = true then wk + 1 else f j) (e4 : B10 (wr' (wk + 1).toNat) (gs P s')) (e5 : ∀ t, t ≠ (wk + 1).toNat → wr' t = wr t) : SN P s' b' f' wr' (wk + 1) := by
  obtain ⟨n1, n2, n3, n4⟩ := h
  have eq1 : (wk + 1).toNat = wk.toNat + 1 := by omega
  have eq2 : (wk + 1 + 1).toNat = wk.toNat + 1 + 1 := by omega
  have old : ∀ t : Nat, (t : Int) ≤ wk → wr' t = wr t := fun t ht => e5 t (by omega)
  refine ⟨fun j hj hz => ?_, fun j hj => ?_, e4, fun t ht => ?_⟩
  · rw [e1 j hj] at hz
    obtain ⟨z1, z2⟩ := nis_0 (hs j hj).1 hz
    obtain ⟨m1, m2⟩ := n1 j hj z2
    have nb : brn bg P.toNat j = false := by
      unfold mvs at z1
      rw [Bool.or_eq_false_iff] at z1
      exact z1.2
    refine ⟨by rw [e2 j hj, nb, if_neg (by decide)]; exact m1, fun t ht => ?_⟩
    by_cases c : t = (wk + 1).toNat
    · rw [c, e4.2 j (by omega)]
      unfold gs
      rw [e1 j hj, hz]
      cases inP P j <;> rfl
    · rw [e5 t c]; exact m2 t (by omega)
  · have hfw : fw wr' j (wk.toNat + 1) = fw wr j (wk.toNat + 1) := fw_eq (fun t ht => old t (by omega))
    have hfo : f j = fw wr j (wk.toNat + 1) := by rw [n2 j hj, eq1]
    have hbt : bt (wr' (wk.toNat + 1)) j = gst (s' j) := by
      rw [← eq1, e4.2 j (by omega)]
      unfold gs
      rw [show inP P j = true from decide_eq_true hj]; rfl
    rw [e3 j hj, eq2]
    cases hb : brn bg P.toNat j with
    | true =>
      rw [if_pos rfl]
      have hsz := (brn_sr hW hb).2.1
      have hno : fw wr' j (wk.toNat + 1) = -1 := fw_no (fun t ht => by rw [old t (by omega)]; exact (n1 j hj hsz).2 t (by omega))
      have hg1 : bt (wr' (wk.toNat + 1)) j = true := by
        rw [hbt, e1 j hj, nis_m (by unfold mvs; rw [hb, Bool.or_true])]
        rfl
      rw [fw_s hg1, hno, if_pos rfl]
      omega
    | false =>
      rw [if_neg (by decide), hfo]
      cases hg : gst (s' j) with
      | false =>
        rw [hg] at hbt
        rw [fw_sf hbt, hfw]
      | true =>
        rw [hg] at hbt
        have was : gst (s j) = true := by
          rw [e1 j hj] at hg
          rcases nis_g hg with e | e
          · unfold mvs at e
            rw [hb, Bool.or_false] at e
            exact gwk_gs hW e
          · exact e
        have hne : fw wr' j (wk.toNat + 1) ≠ -1 := fw_ne (t := wk.toNat) (by
          rw [old wk.toNat (by omega), n3.2 j (by omega)]
          unfold gs
          rw [was, show inP P j = true from decide_eq_true hj]; rfl) (by omega)
        rw [fw_s hbt, if_neg hne, hfw]
  · by_cases c : t = (wk + 1).toNat
    · rw [c]
      refine ⟨e4.1, fun j hj hb => ?_⟩
      rw [e4.2 j hj] at hb
      unfold gs at hb
      rw [Bool.and_eq_true] at hb
      exact inP_t hb.1
    · rw [e5 t c]; exact n4 t (by omega)
def pwc (c k : Nat) : Bool := !(c == 8 || c == 16 || c == 17 || c == 18 || c == 28 || c == 47 || c == 48 || c == 49 || c == 50 || c == 59 || (c == 5 && (k == 4 || k == 6)) || (c == 15 && (k == 3 || k == 4)) || (c == 43 && (k == 7 || k == 8 || k == 32)))
def pwr (c : Nat) : Bool := !(c == 8 || c == 16 || c == 17 || c == 18 || c == 28 || c == 47 || c == 48 || c == 49 || c == 50 || c == 59 || c == 5 || c == 15 || c == 43)
theorem pwc_t {c k : Nat} (h : pwc c k = true) : (c ≠ 8 ∧ c ≠ 16 ∧ c ≠ 17 ∧ c ≠ 18 ∧ c ≠ 28 ∧ ¬ (c = 5 ∧ (k = 4 ∨ k = 6)) ∧ ¬ (c = 15 ∧ (k = 3 ∨ k = 4))) ∧ c ≠ 47 ∧ c ≠ 48 ∧ c ≠ 49 ∧ c ≠ 50 ∧ c ≠ 59 ∧ ¬ (c = 43 ∧ (k = 7 ∨ k = 8 ∨ k = 32)) := by
  unfold pwc at h
  simp only [Bool.not_eq_true', Bool.or_eq_false_iff, Bool.and_eq_false_iff, beq_eq_false_iff_ne] at h
  obtain ⟨⟨⟨⟨⟨⟨⟨⟨⟨⟨⟨⟨h1, h2⟩, h3⟩, h4⟩, h5⟩, h6⟩, h7⟩, h8⟩, h9⟩, ha⟩, hb⟩, hc⟩, hd⟩ := h
  refine ⟨⟨h1, h2, h3, h4, h5, fun ⟨e, hk⟩ => ?_, fun ⟨e, hk⟩ => ?_⟩, h6, h7, h8, h9, ha, fun ⟨e, hk⟩ => ?_⟩
  · rcases hb with e2 | e2
    · exact e2 e
    · rcases hk with hk | hk
      · exact e2.1 hk
      · exact e2.2 hk
  · rcases hc with e2 | e2
    · exact e2 e
    · rcases hk with hk | hk
      · exact e2.1 hk
      · exact e2.2 hk
  · rcases hd with e2 | e2
    · exact e2 e
    · rcases hk with hk | hk | hk
      · exact e2.1.1 hk
      · exact e2.1.2 hk
      · exact e2.2 hk
theorem pwr_t {c : Nat} (h : pwr c = true) (k : Nat) : pwc c k = true := by
  unfold pwr at h
  unfold pwc
  simp only [Bool.not_eq_true', Bool.or_eq_false_iff, beq_eq_false_iff_ne] at h
  obtain ⟨⟨⟨⟨⟨⟨⟨⟨⟨⟨⟨⟨h1, h2⟩, h3⟩, h4⟩, h5⟩, h6⟩, h7⟩, h8⟩, h9⟩, ha⟩, hb⟩, hc⟩, hd⟩ := h
  simp only [Bool.not_eq_true', Bool.or_eq_false_iff, Bool.and_eq_false_iff, beq_eq_false_iff_ne]
  exact ⟨⟨⟨⟨⟨⟨⟨⟨⟨⟨⟨⟨h1, h2⟩, h3⟩, h4⟩, h5⟩, h6⟩, h7⟩, h8⟩, h9⟩, ha⟩, Or.inl hb⟩, Or.inl hc⟩, Or.inl hd⟩
/-- A WEEK: both answer alike, and what both have in common stays so -/
theorem er_pass {a w : Wd} (h : ER a w) (hL : PLN a w) (h59 : a 43 8 ≤ 59) : ∀ r u r' a', f_E_pass w = some (r, u) → f_R_goWeek a = some (r', a') → r = r' ∧ ER a' u ∧ a' 43 7 = w32 (a 43 7 + r') ∧ a' 43 8 = a 43 8 + 1 := by
  intro r u r' a' hE hR
  obtain ⟨hF, hU, hC⟩ := h
  obtain ⟨fCO, fPP, fHB, fWH, fN, f16, fSN, fUB, fK1, fK2, fg, fs⟩ := hF
  obtain ⟨m, hm, hP, hW⟩ := hL
  have x0 : 0 ≤ a 43 0 ∧ a 43 0 ≤ 10 := hC.1
  have x3 : w 5 3 = a 43 0 := fCO.2.1
  have x7 : w 5 7 = a 43 10 := fCO.2.2.1.1
  have xg : 1 ≤ a 43 10 ∧ a 43 10 ≤ 3 := fg
  have xW : WH (w 5 4) (a 47) (a 43 0) := fWH
  have xp : ∀ j : Nat, (j : Int) < a 43 0 → w 6 j = a 44 j ∧ w 7 j = a 45 j ∧ w 8 j = a 48 j := fPP
  have x56 : w 5 6 = a 43 7 := fN.1
  have x15 : w 15 3 = a 43 8 := fN.2.1
  have x154 : w 15 4 = a 43 32 := fN.2.2
  have x44 : ∀ j, 0 ≤ a 44 j ∧ a 44 j ≤ 9 := hC.2.1
  have x6 : ∀ j, 0 ≤ w 6 j ∧ w 6 j ≤ 9 := hC.2.2.1
  have x8 : 0 ≤ a 43 8 ∧ a 43 8 ≤ 60 := hC.2.2.2.2.1
  have x32 : 0 ≤ a 43 32 ∧ a 43 32 ≤ a 43 8 := hC.2.2.2.2.2
  have x16 : ∀ t : Nat, (t : Int) ≤ a 43 8 → w 16 t = a 50 t := f16
  have xSN : SN (a 43 0) (a 47) (a 48) (a 49) (a 50) (a 43 8) := fSN
  obtain ⟨⟨p1, p2, p3⟩, p4, p5, p6, p7, p8, ⟨p9, pa, pb⟩, pc⟩ := pass_pc x0 x3 x7 xg xW hP hm hW (by omega) (by omega) x6 r u hE
  obtain ⟨⟨q1, q2, q3⟩, q4, q5, q6, q7, q8, q9, qa, qb, qc⟩ := goweek_pc x0 rfl ⟨x8.1, h59⟩ (by omega) hW.1 (fun i hi => by
    rcases hW.2 i hi with e | e
    · exact Or.inl e
    · exact Or.inr ⟨e.1, e.2.1⟩) xW.2.2 x44 r' a' hR
  have er : r = r' := by
    rw [p4, q4]
    refine sms_eq (fun j hj => ?_)
    rw [(xp j (by omega)).1]
  have hc : ∀ c k, pwc c k = true → mx u a' c k = mx w a c k := fun c k hk => by
    have := pwc_t hk
    unfold mx
    by_cases z : c < 43
    · rw [if_pos z, if_pos z, pc c k this.1.1 this.1.2.1 this.1.2.2.1 this.1.2.2.2.1 this.1.2.2.2.2.1 this.1.2.2.2.2.2.1 this.1.2.2.2.2.2.2]
    · rw [if_neg z, if_neg z, qc c k this.2.1 this.2.2.1 this.2.2.2.1 this.2.2.2.2.1 this.2.2.2.2.2.1 this.2.2.2.2.2.2]
  have hr : ∀ c, pwr c = true → mx u a' c = mx w a c := fun c hk => funext fun k => hc c k (pwr_t hk k)
  have r430 : a' 43 0 = a 43 0 := hc 43 0 (by decide)
  have r4310 : a' 43 10 = a 43 10 := hc 43 10 (by decide)
  have r4311 : a' 43 11 = a 43 11 := hc 43 11 (by decide)
  have r44 : a' 44 = a 44 := hr 44 (by decide)
  have r45 : a' 45 = a 45 := hr 45 (by decide)
  have r46 : a' 46 = a 46 := hr 46 (by decide)
  have r6 : u 6 = w 6 := hr 6 (by decide)
  have r7 : u 7 = w 7 := hr 7 (by decide)
  have r55 : u 5 5 = w 5 5 := hc 5 5 (by decide)
  have whu : WH (u 5 4) (a' 47) (a 43 0) := wh_eq p5 (fun k hk => (q5 k hk).symm)
  have e8p : (a 43 8 + 1).toNat = (a 43 8).toNat + 1 := by omega
  rw [x15] at p6 p7
  refine ⟨er, ⟨⟨?_, ?_, ?_, ?_, ?_, ?_, ?_, ?_, ?_, ?_, ?_, ?_⟩, ?_, ?_⟩, q3, q1⟩
  · exact co_fr fCO (fr_of pwc hc pwr hr (by decide) (by decide))
  · intro j hj
    have hj2 : (j : Int) < a 43 0 := by rw [← r430]; exact hj
    show u 6 j = a' 44 j ∧ u 7 j = a' 45 j ∧ u 8 j = a' 48 j
    rw [r6, r44, r7, r45, p8 j hj2, (q6 j).1, (xp j hj2).2.2]
    exact ⟨(xp j hj2).1, (xp j hj2).2.1, rfl⟩
  · show B10 (u 5 5) (hB (a' 43 0) (a' 46))
    rw [r55, r430, r46]; exact fHB
  · show WH (u 5 4) (a' 47) (a' 43 0)
    rw [r430]; exact whu
  · show u 5 6 = a' 43 7 ∧ u 15 3 = a' 43 8 ∧ u 15 4 = a' 43 32
    rw [p1, p2, p3, q1, q2, q3, x56, x15, x154, er]
    exact ⟨rfl, rfl, rfl⟩
  · intro t ht
    have ht2 : (t : Int) ≤ a 43 8 + 1 := by rw [← q1]; exact ht
    show u 16 t = a' 50 t
    by_cases c : t = (a 43 8 + 1).toNat
    · rw [c]
      refine b10_eq p6 q7 (fun k _ => ?_)
      exact gs_eq (fun j hj => (q5 j hj).symm) k
    · rw [p7 t c, q8 t c]; exact x16 t (by omega)
  · show SN (a' 43 0) (a' 47) (a' 48) (a' 49) (a' 50) (a' 43 8)
    rw [r430, q1]
    exact sn_week xSN x8.1 x0.2 xW.2.2 hW q5 (fun j _ => (q6 j).1) (fun j _ => (q6 j).2) q7 q8
  · intro t ht
    have ht2 : (t : Int) < a 43 32 + 1 := by rw [← q2]; exact ht
    have ek : (wki (mx u a') t).toNat = (a 43 8 - a 43 32 + t).toNat := by
      show (a' 43 8 - a' 43 32 + t).toNat = _
      rw [q1, q2]; congr 1; omega
    have ek2 : wki (mx u a') t = a 43 8 - a 43 32 + t := by
      show a' 43 8 - a' 43 32 + t = _
      rw [q1, q2]; omega
    rw [ek, ek2]
    show WH (u 17 (a 43 8 - a 43 32 + t).toNat) (fun j => a' 59 (31 * t + 3 * j)) (a' 43 0) ∧ u 18 (a 43 8 - a 43 32 + t).toNat = a' 59 (31 * t + 30) ∧ SN (a' 43 0) (fun j => a' 59 (31 * t + 3 * j)) (fun j => a' 59 (31 * t + 3 * j + 1)) (fun j => a' 59 (31 * t + 3 * j + 2)) (a' 50) (a 43 8 - a 43 32 + t) ∧ (∀ j : Nat, (j : Int) < a' 43 0 → a' 59 (31 * t + 3 * j) ≠ 0 → a' 59 (31 * t + 3 * j + 1) = a' 48 j ∧ a' 47 j ≠ 0) ∧ ∀ t2 : Nat, t ≤ t2 → (t2 : Int) < a' 43 32 → ∀ j : Nat, (j : Int) < a' 43 0 → a' 59 (31 * t + 3 * j) ≠ 0 → a' 59 (31 * t2 + 3 * j) ≠ 0
    rw [r430, q2]
    have old50 : ∀ s : Nat, (s : Int) ≤ a 43 8 → a 50 s = a' 50 s := fun s hs => (q8 s (by omega)).symm
    have now : ∀ j : Nat, (j : Int) < a 43 0 → a 47 j ≠ 0 → a 48 j = a' 48 j ∧ a' 47 j ≠ 0 := fun j hj hn => by
      refine ⟨?_, ?_⟩
      · rw [(q6 j).1]
        have : brn (a 58) (a 43 0).toNat j = false := by
          cases c : brn (a 58) (a 43 0).toNat j with
          | false => rfl
          | true => exact absurd (brn_sr hW c).2.1 hn
        rw [this, if_neg (by decide)]
      · rw [q5 j hj]; exact nis_n (xW.2.2 j hj).1 hn
    by_cases c : t = (a 43 32).toNat
    · have ew : (a 43 8 - a 43 32 + t).toNat = (w 15 3).toNat := by rw [x15]; congr 1; omega
      have ew2 : a 43 8 - a 43 32 + t = a 43 8 := by omega
      have row : ∀ j : Nat, (j : Int) < a 43 0 → a' 59 (31 * t + 3 * j) = a 47 j ∧ a' 59 (31 * t + 3 * j + 1) = a 48 j ∧ a' 59 (31 * t + 3 * j + 2) = a 49 j := fun j hj => by rw [c]; exact q9 j (by omega)
      rw [ew, p9, pa, ew2]
      refine ⟨wh_eq xW (fun k hk => (row k hk).1.symm), ?_, ?_, fun j hj hn => ?_, fun t2 h1 h2 j hj hn => ?_⟩
      · rw [c, qa]; exact x56
      · exact sn_eq xSN x8.1 (fun j hj => ⟨(row j hj).1.symm, (row j hj).2.1.symm, (row j hj).2.2.symm⟩) old50
      · rw [(row j hj).1] at hn
        rw [(row j hj).2.1]
        exact now j hj hn
      · rw [show t2 = t by omega]; exact hn
    · have ht3 : (t : Int) < a 43 32 := by omega
      obtain ⟨u1, u2, u3, u4, u5⟩ := fUB t ht3
      have v1 : WH (w 17 (a 43 8 - a 43 32 + t).toNat) (fun j => a 59 (31 * t + 3 * j)) (a 43 0) := u1
      have v2 : w 18 (a 43 8 - a 43 32 + t).toNat = a 59 (31 * t + 30) := u2
      have v3 : SN (a 43 0) (fun j => a 59 (31 * t + 3 * j)) (fun j => a 59 (31 * t + 3 * j + 1)) (fun j => a 59 (31 * t + 3 * j + 2)) (a 50) (a 43 8 - a 43 32 + t) := u3
      have v4 : ∀ j : Nat, (j : Int) < a 43 0 → a 59 (31 * t + 3 * j) ≠ 0 → a 59 (31 * t + 3 * j + 1) = a 48 j ∧ a 47 j ≠ 0 := u4
      have v5 : ∀ t2 : Nat, t ≤ t2 → (t2 : Int) < a 43 32 → ∀ j : Nat, (j : Int) < a 43 0 → a 59 (31 * t + 3 * j) ≠ 0 → a 59 (31 * t2 + 3 * j) ≠ 0 := u5
      have lo : ∀ i, i ≤ 30 → a' 59 (31 * t + i) = a 59 (31 * t + i) := fun i hi => qb _ (by omega)
      have row : ∀ j : Nat, (j : Int) < a 43 0 → a' 59 (31 * t + 3 * j) = a 59 (31 * t + 3 * j) ∧ a' 59 (31 * t + 3 * j + 1) = a 59 (31 * t + 3 * j + 1) ∧ a' 59 (31 * t + 3 * j + 2) = a 59 (31 * t + 3 * j + 2) := fun j hj => ⟨qb _ (by omega), qb _ (by omega), qb _ (by omega)⟩
      have nw := pb (a 43 8 - a 43 32 + t).toNat (by rw [x15]; omega)
      rw [nw.1, nw.2, lo 30 (by omega)]
      refine ⟨wh_eq v1 (fun k hk => (row k hk).1.symm), v2, ?_, fun j hj hn => ?_, fun t2 h1 h2 j hj hn => ?_⟩
      · exact sn_eq v3 (by omega) (fun j hj => ⟨(row j hj).1.symm, (row j hj).2.1.symm, (row j hj).2.2.symm⟩) (fun s hs => old50 s (by omega))
      · rw [(row j hj).1] at hn
        rw [(row j hj).2.1]
        obtain ⟨z1, z2⟩ := v4 j hj hn
        obtain ⟨z3, z4⟩ := now j hj z2
        exact ⟨z1.trans z3, z4⟩
      · rw [(row j hj).1] at hn
        by_cases c2 : t2 = (a 43 32).toNat
        · rw [c2, (q9 j (by omega)).1]
          exact (v4 j hj hn).2
        · rw [qb (31 * t2 + 3 * j) (by omega)]
          exact v5 t2 h1 (by omega) j hj hn
  · exact kbf_ag fK1 (fr_of pwc hc pwr hr (by decide) (by decide))
  · exact kbf_ag fK2 (fr_of pwc hc pwr hr (by decide) (by decide))
  · show 1 ≤ a' 43 10 ∧ a' 43 10 ≤ 3
    rw [r4310]; exact fg
  · show 1 ≤ a' 43 11 ∧ a' 43 11 ≤ 10
    rw [r4311]; exact fs
  · exact ru_fr hU (fr_of pwc hc pwr hr (by decide) (by decide))
  · refine ⟨?_, ?_, ?_, ?_, ?_, ?_⟩
    · show 0 ≤ a' 43 0 ∧ a' 43 0 ≤ 10
      rw [r430]; exact x0
    · show ∀ j, 0 ≤ a' 44 j ∧ a' 44 j ≤ 9
      rw [r44]; exact x44
    · show ∀ j, 0 ≤ u 6 j ∧ u 6 j ≤ 9
      rw [r6]; exact x6
    · show ∀ j : Nat, (j : Int) < a' 43 0 → 0 ≤ a' 45 j ∧ a' 45 j ≤ 1023
      rw [r430, r45]; exact hC.2.2.2.1
    · show 0 ≤ a' 43 8 ∧ a' 43 8 ≤ 60
      rw [q1]; omega
    · show 0 ≤ a' 43 32 ∧ a' 43 32 ≤ a' 43 8
      rw [q1, q2]; omega
/-! WEEKS: both answer alike -/
def tcc (c k : Nat) : Bool := !(c == 3 || c == 4 || c == 52 || (c == 43 && (k == 15 || k == 16)))
def tcr (c : Nat) : Bool := !(c == 3 || c == 4 || c == 52 || c == 43)
theorem tcc_t {c k : Nat} (h : tcc c k = true) : (c ≠ 3 ∧ c ≠ 4) ∧ c ≠ 52 ∧ ¬ (c = 43 ∧ (k = 15 ∨ k = 16)) := by
  unfold tcc at h
  simp only [Bool.not_eq_true', Bool.or_eq_false_iff, Bool.and_eq_false_iff, beq_eq_false_iff_ne] at h
  obtain ⟨⟨⟨h1, h2⟩, h3⟩, h4⟩ := h
  refine ⟨⟨h1, h2⟩, h3, fun ⟨e, hk⟩ => ?_⟩
  rcases h4 with e2 | e2
  · exact e2 e
  · rcases hk with hk | hk
    · exact e2.1 hk
    · exact e2.2 hk
theorem tcr_t {c : Nat} (h : tcr c = true) (k : Nat) : tcc c k = true := by
  unfold tcr at h
  unfold tcc
  simp only [Bool.not_eq_true', Bool.or_eq_false_iff, beq_eq_false_iff_ne] at h
  obtain ⟨⟨⟨h1, h2⟩, h3⟩, h4⟩ := h
  simp only [Bool.not_eq_true', Bool.or_eq_false_iff, Bool.and_eq_false_iff, beq_eq_false_iff_ne]
  exact ⟨⟨⟨h1, h2⟩, h3⟩, Or.inl h4⟩
theorem er_tell {a w a' u : Wd} (h : ER a w) (hE : ∀ c, c ≠ 3 → c ≠ 4 → u c = w c) (hR : ∀ c k, c ≠ 52 → ¬ (c = 43 ∧ (k = 15 ∨ k = 16)) → a' c k = a c k) : ER a' u := by
  have hc : ∀ c k, tcc c k = true → mx u a' c k = mx w a c k := fun c k hk => by
    have := tcc_t hk
    unfold mx
    by_cases z : c < 43
    · rw [if_pos z, if_pos z, hE c this.1.1 this.1.2]
    · rw [if_neg z, if_neg z, hR c k this.2.1 this.2.2]
  have hr : ∀ c, tcr c = true → mx u a' c = mx w a c := fun c hk => funext fun k => hc c k (tcr_t hk k)
  exact ⟨fc_fr h.1 (fr_of tcc hc tcr hr (by decide) (by decide)), ru_fr h.2.1 (fr_of tcc hc tcr hr (by decide) (by decide)), cb_fr h.2.2 (fr_of tcc hc tcr hr (by decide) (by decide))⟩
theorem pc_eq (o : Option (Int × Wd)) : PC o (fun r u => o = some (r, u)) := fun _ _ e => e
/-- nothing of the reference's part is changed, nothing of the class's -/
theorem g_hi {S : List Nat} {b u : Wd} (h : G S b u) (hS : (S.all fun x => Nat.blt x 4300) = true) : ∀ c, 43 ≤ c → u c = b c := by
  intro c hc
  funext k
  refine h.2.1 c k (mS_ar ?_ k)
  rw [List.all_eq_true]
  intro x hx
  have := List.all_eq_true.mp hS x hx
  have h2 : x < 4300 := Nat.le_of_ble_eq_true this
  rw [Bool.or_eq_true]
  exact Or.inl (Nat.ble_eq_true_of_le (by omega))
theorem g_lo {S : List Nat} {b u : Wd} (h : G S b u) (hS : (S.all fun x => Nat.blt 4299 x) = true) : ∀ c, c < 43 → u c = b c := by
  intro c hc
  funext k
  refine h.2.1 c k (mS_ar ?_ k)
  rw [List.all_eq_true]
  intro x hx
  have := List.all_eq_true.mp hS x hx
  have h2 : 4299 < x := Nat.le_of_ble_eq_true this
  rw [Bool.or_eq_true]
  exact Or.inr (Nat.ble_eq_true_of_le (by omega))
theorem mx_e {w u : Wd} (h : ∀ c, 43 ≤ c → u c = w c) : mx w u = w := by
  funext c
  unfold mx
  by_cases z : c < 43
  · rw [if_pos z]
  · rw [if_neg z, h c (by omega)]
theorem mx_r {w u : Wd} (h : ∀ c, c < 43 → u c = w c) : mx w u = u := by
  funext c
  unfold mx
  by_cases z : c < 43
  · rw [if_pos z, h c z]
  · rw [if_neg z]
theorem rs_cb {w : Wd} (h : RS w) : CBd w := by
  have k := rs_kn h
  refine ⟨h.1.1 43 0, fun j => h.1.1 44 j, fun j => h.1.1 6 j, fun j hj => ?_, h.1.1 43 8, (h.1.1 43 32).1, h.2.1.2.2.2.2⟩
  exact h.1.1 45 j
def LU (w : Wd) : Prop := LF w ∧ RU w
theorem lu_er {w u : Wd} (h : LU w) (hR : ∀ c, 43 ≤ c → u c = w c) : ER u w := by
  unfold ER
  rw [mx_e hR]
  exact ⟨h.1.2, h.2, rs_cb h.1.1⟩
theorem er_lu {w u : Wd} (h : ER u w) (hE : ∀ c, c < 43 → u c = w c) (hS : RS u) : LU u := by
  unfold ER at h
  rw [mx_r hE] at h
  exact ⟨⟨hS, h.1⟩, h.2.1⟩
/-- who is there: the same for both -/
theorem er_gs {a w : Wd} (h : ER a w) : PC (f_F_guests w) (fun r u => u = w ∧ PC (f_R_guests a) (fun r' u' => u' = a ∧ r = r' ∧ B10 r (gs (a 43 0) (a 47)))) := by
  have xW : WH (w 5 4) (a 47) (a 43 0) := h.1.2.2.2.1
  refine pc_w (eg_e xW) (fun r u q => ⟨q.1, ?_⟩)
  exact pc_w (rg_e h.2.2.1) (fun r' u' q' => ⟨q'.1, b10_eq q.2 q'.2 (fun _ _ => rfl), q.2⟩)
theorem nt2 (r v : Int) (w : Wd) : PC (f_N_tell2 r v w) (fun _ u => ∀ c, c ≠ 3 → c ≠ 4 → u c = w c) := by
  have put1 : ∀ (x : Int) (w : Wd), PC (f_N_put x w) (fun _ u => ∀ c, c ≠ 3 → c ≠ 4 → u c = w c) := fun x w => by
    unfold f_N_put
    refine pc_ite (fun _ => pc_some (fun _ _ _ => rfl)) (fun _ => pc_gd (fun _ => pc_lw (fun u1 e1 => pc_lw (fun u2 e2 => pc_some (fun c h3 h4 => by rw [e2, st_row h3, e1, st_row h4])))))
  unfold f_N_tell2 f_N_tell1 f_N_clear
  refine pc_call (P := fun _ u => ∀ c, c ≠ 3 → c ≠ 4 → u c = w c) ?_ (fun r1 u2 q => ?_)
  · refine pc_call (P := fun _ u => ∀ c, c ≠ 3 → c ≠ 4 → u c = w c) (pc_lw (fun u1 e1 => pc_some (fun c h3 _ => by rw [e1, st_row h3]))) (fun r1 u2 q => ?_)
    refine pc_call (put1 r u2) (fun r3 u4 q2 => pc_some (fun c h3 h4 => (q2 c h3 h4).trans (q c h3 h4)))
  · refine pc_call (put1 v u2) (fun r3 u4 q2 => pc_some (fun c h3 h4 => (q2 c h3 h4).trans (q c h3 h4)))
theorem rt1 (v : Int) (w : Wd) : PC (f_R_tell v w) (fun _ u => ∀ c k, c ≠ 52 → ¬ (c = 43 ∧ (k = 15 ∨ k = 16)) → u c k = w c k) := by
  unfold f_R_tell
  refine pc_gd (fun _ => pc_lw (fun u1 e1 => pc_lw (fun u2 e2 => pc_some (fun c k h52 h => ?_))))
  rw [e2]; unfold st; rw [if_neg (by omega), e1]; unfold st; rw [if_neg (fun e => h52 e.1)]
theorem goes_end {a w : Wd} {k v3 v2 : Int} (h : ER a w) : PC (f_E_goes_75 k v3 w) (fun r u => PC (f_R_goes_60 v2 k a) (fun r' a' => r = r' ∧ ER a' u)) := by
  unfold f_E_goes_75
  refine pc_call (er_gs h) (fun r3 u4 q => ?_)
  rw [q.1]
  refine pc_call (nt2 r3 v3 w) (fun r5 u6 y => pc_some ?_)
  unfold f_R_goes_60
  refine pc_lw (fun u5 e5 => ?_)
  have o5 : ∀ c k, c ≠ 52 → ¬ (c = 43 ∧ (k = 15 ∨ k = 16)) → u5 c k = a c k := fun c k _ hk => by
    rw [e5]; unfold st; rw [if_neg (by omega)]
  refine pc_call (rg_e (w := u5) (by rw [o5 43 0 (by decide) (by decide)]; exact h.2.2.1)) (fun r6 u7 z => ?_)
  rw [z.1]
  refine pc_call (rt1 r6 u5) (fun r8 u9 z2 => ?_)
  refine pc_call (rt1 _ u9) (fun r10 u11 z3 => pc_some ⟨rfl, ?_⟩)
  exact er_tell h y (fun c k h52 hk => (z3 c k h52 hk).trans ((z2 c k h52 hk).trans (o5 c k h52 hk)))
theorem goes_2 {v1 V : Int} (hv : v1 ≤ 60) : ∀ (n m : Nat) {w a : Wd} {k v3 : Int}, ER a w → v3 = w32 (a 43 7 - V) → 0 ≤ k → PC (f_E_goes_13 n v1 k v3 w) (fun r u => PC (f_R_goes_24 m v1 V k a) (fun r' a' => r = r' ∧ ER a' u)) := by
  intro n
  induction n with
  | zero => intros; exact pc_none
  | succ n ih =>
    intro m w a k v3 h e3 h0
    have x15 : w 15 3 = a 43 8 := h.1.2.2.2.2.1.2.1
    have x8 : 0 ≤ a 43 8 ∧ a 43 8 ≤ 60 := h.2.2.2.2.2.2.1
    cases m with
    | zero =>
      intro r u _
      exact pc_none
    | succ m =>
      rw [f_E_goes_13, f_R_goes_24, x15]
      refine pc_ite (fun z => ?_) (fun z => ?_)
      · refine pc_w (goes_end (v2 := V) h) (fun r u q => ?_)
        exact pc_ite (fun _ => q) (fun z2 => absurd z z2)
      refine pc_ite (fun z1 => ?_) (fun z1 => ?_)
      · refine pc_w (goes_end (v2 := V) h) (fun r u q => ?_)
        refine pc_ite (fun z2 => absurd z2 z) (fun _ => ?_)
        exact pc_ite (fun _ => q) (fun z2 => absurd z1 z2)
      refine pc_call (er_gs h) (fun r7 u8 q => ?_)
      rw [q.1]
      have hin : ∀ {Q : Int → Wd → Prop}, (r7 = 0 → PC (f_R_goes_60 V k a) Q) → (r7 ≠ 0 → PC (jcall (f_R_findChoices a) fun r14 u15 => jcall (f_R_goWeek u15) fun r16 u17 => jlet (w32 (k + 1)) fun x18 => f_R_goes_24 m v1 V x18 u17) Q) → PC (if v1 ≤ k then f_R_goes_60 V k a else if (60 : Int) ≤ (a 43 8) then f_R_goes_60 V k a else jcall (f_R_guests a) fun r12 u13 => if r12 = 0 then f_R_goes_60 V k u13 else jcall (f_R_findChoices u13) fun r14 u15 => jcall (f_R_goWeek u15) fun r16 u17 => jlet (w32 (k + 1)) fun x18 => f_R_goes_24 m v1 V x18 u17) Q := by
        intro Q q1 q2
        refine pc_ite (fun z2 => absurd z2 z) (fun _ => ?_)
        refine pc_ite (fun z2 => absurd z2 z1) (fun _ => ?_)
        refine pc_call q.2 (fun r12 u13 y => ?_)
        rw [y.1, ← y.2.1]
        exact pc_ite q1 q2
      refine pc_ite (fun z2 => ?_) (fun z2 => ?_)
      · refine pc_w (goes_end (v2 := V) h) (fun r u q3 => ?_)
        exact hin (fun _ => q3) (fun c => absurd z2 c)
      · refine pc_call (pc_eq (f_P_follow (w 15 3) w)) (fun r9 u10 eF => ?_)
        refine pc_call (pc_eq (f_E_pass u10)) (fun r11 u12 eP => ?_)
        refine pc_let (fun x13 e13 => ?_)
        refine pc_let (fun x14 e14 => ?_)
        intro r u eL
        refine hin (fun c => absurd c z2) (fun _ => ?_)
        refine pc_call (pc_eq (f_R_findChoices a)) (fun r14 u15 eC => ?_)
        refine pc_call (pc_eq (f_R_goWeek u15)) (fun r16 u17 eG => ?_)
        refine pc_let (fun x18 e18 => ?_)
        obtain ⟨hp1, hp2, hp3, _⟩ := er_plan h _ _ _ _ eF eC
        have g8 : u15 43 8 = a 43 8 := hp3 43 8 (by decide) (by decide)
        have g7 : u15 43 7 = a 43 7 := hp3 43 7 (by decide) (by decide)
        obtain ⟨er, hq1, hq2, hq3⟩ := er_pass hp1 hp2 (by omega) _ _ _ _ eP eG
        have ek : w32 (k + 1) = k + 1 := w32_id (by omega)
        rw [ek] at e14 e18
        rw [e18]
        rw [e14] at eL
        refine ih m hq1 ?_ (by omega) r u eL
        rw [e13, e3, hq2, g7, er, w32_w]
        have := w32_w (a 43 7 + r16) (-V)
        rw [show w32 (a 43 7 + r16) - V = w32 (a 43 7 + r16) + -V by omega, this]
        congr 1
        omega
theorem k_goes {w : Wd} {v1 : Int} (h : LU w) (i_v1 : ((-2147483648 : Int) ≤ v1 ∧ v1 ≤ 2147483647)) : OK (f_E_goes v1 w) (fun r1 u1 => OK (f_R_goes v1 u1) (fun r2 u2 => LU u2 ∧ r1 = r2)) := by
  obtain ⟨r1, u1, eE, g1, s1⟩ := e_E_goes h.1.1 i_v1
  refine ⟨r1, u1, eE, ?_⟩
  obtain ⟨r2, u2, eR, g2, s2, _⟩ := e_R_goes s1 i_v1
  refine ⟨r2, u2, eR, ?_⟩
  have h1 := lu_er h (g_hi g1 (by decide))
  have key : PC (f_E_goes v1 w) (fun r u => PC (f_R_goes v1 u1) (fun r' a' => r = r' ∧ ER a' u)) := by
    unfold f_E_goes f_R_goes
    have hst : ER (st u1 43 16 0) w := er_tell h1 (fun _ _ _ => rfl) (fun c k _ hk => by unfold st; rw [if_neg (by omega)])
    unfold f_E_isWeek f_R_in
    by_cases c1 : v1 < 0
    · rw [if_pos c1, jc_s, if_pos rfl]
      refine pc_some (pc_lw (fun y1 ey => ?_))
      rw [if_pos c1, jc_s, if_pos rfl, ey]
      exact pc_some ⟨rfl, hst⟩
    · rw [if_neg c1]
      by_cases c2 : 60 < v1
      · rw [if_pos c2, jc_s, if_pos rfl]
        refine pc_some (pc_lw (fun y1 ey => ?_))
        rw [if_neg c1, if_pos c2, jc_s, if_pos rfl, ey]
        exact pc_some ⟨rfl, hst⟩
      · rw [if_neg c2, jc_s, if_neg (by decide)]
        refine pc_w (goes_2 (v1 := v1) (V := u1 43 7) (by omega) FU FU (k := 0) (v3 := 0) hst ?_ (by decide)) (fun r u q => ?_)
        · show (0 : Int) = w32 (u1 43 7 - u1 43 7)
          rw [show u1 43 7 - u1 43 7 = 0 by omega]
          exact (w32_id (by decide)).symm
        · refine pc_lw (fun y1 ey => ?_)
          rw [if_neg c1, if_neg c2, jc_s, if_neg (by decide), ey]
          refine pc_let (fun x4 e4 => ?_)
          rw [e4]
          exact q
  obtain ⟨er, hf⟩ := key r1 u1 eE r2 u2 eR
  exact ⟨er_lu hf (g_lo g2 (by decide)) s2, er⟩
/-! ONE's choice -/
theorem who_pc {P v1 : Int} {bg : Nat → Int} {m : Nat} {w : Wd} (hL : PLm P bg m w) (hm : m ≤ 10) (hv : 0 ≤ v1 ∧ v1 < P) : ∀ (n : Nat) {v2 : Int}, 0 ≤ v2 → v2 ≤ m → (∀ i : Nat, (i : Int) < v2 → w 13 i ≠ v1) → PC (f_P_whom_2 n v1 v2 w) (fun r u => u = w ∧ r = bg v1.toNat) := by
  intro n
  induction n with
  | zero => intros; exact pc_none
  | succ n ih =>
    intro v2 i0 i1 hn
    rw [f_P_whom_2, hL.1]
    refine pc_ite (fun z => pc_some ⟨rfl, ?_⟩) (fun z => ?_)
    · by_cases c : bg v1.toNat = -1
      · exact c.symm
      · obtain ⟨i, hi, e⟩ := hL.2.2.2.1 v1.toNat (by omega) c
        exact absurd (by omega) (hn i (by omega))
    · refine pc_gd (fun _ => ?_)
      refine pc_ite (fun e => ?_) (fun e => ?_)
      · refine pc_gd (fun _ => pc_some ⟨rfl, ?_⟩)
        have := (hL.2.2.1 v2.toNat (by omega)).2.2
        rw [e] at this
        exact this.symm
      · refine pc_let (fun x1 e1 => ?_)
        rw [wsucc (P := 10) (by omega) (by omega)] at e1
        rw [e1]
        refine ih (by omega) (by omega) (fun i hi => ?_)
        by_cases c : i = v2.toNat
        · rw [c]; exact e
        · exact hn i (by omega)
theorem k_picks {w : Wd} {v1 : Int} (h : LU w) (i_v1 : ((-2147483648 : Int) ≤ v1 ∧ v1 ≤ 2147483647)) : OK (f_E_picks v1 w) (fun r1 u1 => OK (f_R_picks v1 u1) (fun r2 u2 => LU u2 ∧ r1 = r2)) := by
  obtain ⟨r1, u1, eE, g1, s1⟩ := e_E_picks h.1.1 i_v1
  refine ⟨r1, u1, eE, ?_⟩
  obtain ⟨r2, u2, eR, g2, s2⟩ := e_R_picks s1 i_v1
  refine ⟨r2, u2, eR, ?_⟩
  have h1 := lu_er h (g_hi g1 (by decide))
  have hst : ER (st u1 43 16 0) w := er_tell h1 (fun _ _ _ => rfl) (fun c k _ hk => by unfold st; rw [if_neg (by omega)])
  have x0 : 0 ≤ st u1 43 16 0 43 0 ∧ st u1 43 16 0 43 0 ≤ 10 := hst.2.2.1
  have key : PC (f_E_picks v1 w) (fun r u => PC (f_R_picks v1 u1) (fun r' a' => r = r' ∧ ER a' u)) := by
    unfold f_E_picks f_R_picks
    have xW : WH (w 5 4) (st u1 43 16 0 47) (st u1 43 16 0 43 0) := hst.1.2.2.2.1
    -- the reference finds no GUEST
    have no : ¬ (0 ≤ v1 ∧ v1 < st u1 43 16 0 43 0 ∧ gst (st u1 43 16 0 47 v1.toNat) = true) → PC (jlw (st u1 43 16 0) fun u1 => jcall (f_R_isOne v1 u1) fun r2 u3 => if r2 = 0 then some ((-1), u3) else jgd ((0 : Int) ≤ v1 ∧ v1 < 10) <| jcall (f_R_isGuest (u3 47 v1.toNat) u3) fun r4 u5 => if r4 = 0 then some ((-1), u5) else jcall (f_R_findChoices u5) fun r6 u7 => jgd ((0 : Int) ≤ v1 ∧ v1 < 10) <| if (u7 58 v1.toNat) = (-1) then some ((-2), u7) else jgd ((0 : Int) ≤ v1 ∧ v1 < 10) <| some (u7 58 v1.toNat, u7)) (fun r' a' => -1 = r' ∧ ER a' w) := fun hn => by
      refine pc_lw (fun y1 ey => ?_)
      rw [ey]
      refine pc_call (io_pc v1 (st u1 43 16 0) x0) (fun q3 q4 z => ?_)
      rw [z.1, z.2]
      unfold hd
      by_cases c : 0 ≤ v1 ∧ v1 < st u1 43 16 0 43 0
      · rw [if_pos c]
        refine pc_ite (fun e => absurd e (by decide)) (fun _ => ?_)
        refine pc_gd (fun _ => ?_)
        rw [isG_e, jc_s]
        cases hb : gst (st u1 43 16 0 47 v1.toNat) with
        | true => exact absurd ⟨c.1, c.2, hb⟩ hn
        | false =>
          refine pc_ite (fun _ => pc_some ⟨rfl, hst⟩) (fun e => absurd rfl e)
      · rw [if_neg c]
        exact pc_ite (fun _ => pc_some ⟨rfl, hst⟩) (fun e => absurd rfl e)
    refine pc_call (eg_e xW) (fun q1 q2 y => ?_)
    rw [y.1]
    by_cases c0 : 0 ≤ v1 ∧ v1 < st u1 43 16 0 43 0 ∧ gst (st u1 43 16 0 47 v1.toNat) = true
    · have hin : inP (st u1 43 16 0 43 0) v1.toNat = true := decide_eq_true (by omega)
      rw [has_10 w y.2 (by omega), show gs (st u1 43 16 0 43 0) (st u1 43 16 0 47) v1.toNat = true from by unfold gs; rw [hin, c0.2.2]; rfl, jc_s]
      refine pc_ite (fun e => absurd e (by decide)) (fun _ => ?_)
      refine pc_call (pc_eq (f_P_follow (w 15 3) w)) (fun q3 q4 eF => ?_)
      intro r u eL
      refine pc_lw (fun y1 ey => ?_)
      rw [ey]
      refine pc_call (io_pc v1 (st u1 43 16 0) x0) (fun q5 q6 z => ?_)
      rw [z.1, z.2, show hd (st u1 43 16 0 43 0) v1 = 1 from if_pos ⟨c0.1, c0.2.1⟩]
      refine pc_ite (fun e => absurd e (by decide)) (fun _ => ?_)
      refine pc_gd (fun _ => ?_)
      rw [isG_e, c0.2.2, jc_s]
      refine pc_ite (fun e => absurd e (by decide)) (fun _ => ?_)
      refine pc_call (pc_eq (f_R_findChoices (st u1 43 16 0))) (fun q7 q8 eC => ?_)
      obtain ⟨p1, ⟨m, p2, p3, p4⟩, p5, _⟩ := er_plan hst _ _ _ _ eF eC
      have e0 : q8 43 0 = st u1 43 16 0 43 0 := p5 43 0 (by decide) (by decide)
      have hw : PC (f_P_whom v1 q4) (fun r u => u = q4 ∧ r = q8 58 v1.toNat) := by
        unfold f_P_whom
        exact who_pc p3 p2 (by rw [e0]; exact ⟨c0.1, c0.2.1⟩) FU (by decide) (by omega) (fun i hi => by omega)
      have := pc_call (Q := fun r u => u = q4 ∧ r = if q8 58 v1.toNat = -1 then -2 else q8 58 v1.toNat) hw (fun a1 a2 a3 => by
        rw [a3.1, a3.2]
        by_cases cc : q8 58 v1.toNat = -1
        · rw [if_pos cc, if_pos cc]; exact pc_some ⟨rfl, rfl⟩
        · rw [if_neg cc, if_neg cc]; exact pc_some ⟨rfl, rfl⟩) r u eL
      rw [this.1, this.2]
      refine pc_gd (fun _ => ?_)
      by_cases cc : q8 58 v1.toNat = -1
      · rw [if_pos cc, if_pos cc]; exact pc_some ⟨rfl, p1⟩
      · rw [if_neg cc, if_neg cc]
        exact pc_gd (fun _ => pc_some ⟨rfl, p1⟩)
    · have hz : f_E_has q1 v1 w = some (0, w) := by
        by_cases c1 : 0 ≤ v1 ∧ v1 < 10
        · rw [has_10 w y.2 c1]
          have : gs (st u1 43 16 0 43 0) (st u1 43 16 0 47) v1.toNat = false := by
            cases cg : gs (st u1 43 16 0 43 0) (st u1 43 16 0 47) v1.toNat with
            | false => rfl
            | true =>
              unfold gs at cg
              rw [Bool.and_eq_true] at cg
              have := inP_t cg.1
              exact absurd ⟨c1.1, by omega, cg.2⟩ c0
          rw [this]; rfl
        · exact has_o w c1
      rw [hz, jc_s, if_pos rfl]
      exact pc_some (no c0)
  obtain ⟨er, hf⟩ := key r1 u1 eE r2 u2 eR
  exact ⟨er_lu hf (g_lo g2 (by decide)) s2, er⟩
