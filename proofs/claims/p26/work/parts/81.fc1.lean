/-! RULE'S VALUE BY BOTH -/
def RUC (c : List Int) (n : Int) (f : Nat → Int) : Prop := (c = [] ∧ n = 0) ∨ (0 < n ∧ n ≤ 40 ∧ pg (hx n f) 100 0 0 0 = some (true, n, c) ∧ c.length ≤ 40)
theorem ruc_e {w : Wd} (h : RU w) : ∃ c, RUC c (w 43 27) (w 57) ∧ w 19 4 = (c.length : Int) ∧ SR (w 20) c ∧ c.length ≤ 40 := by
  rcases h with ⟨e1, e2⟩ | ⟨e1, e2, c, e3, e4, e5, e6⟩
  · exact ⟨[], Or.inl ⟨rfl, e2⟩, e1, rfl, by decide⟩
  · exact ⟨c, Or.inr ⟨e1, e2, e3, e6⟩, e4, e5, e6⟩
def vlu (P : Int) (s pr kn : Nat → Int) (wk : Int) (c : List Int) (one : Int) (q : Nat) : Int := lst (rnr (ENV P s pr kn wk one (q : Int)) c [])
/-- what the reference's reading of a rule may change -/
def RXq (x u : Wd) : Prop := ∀ c k, ¬ (c = 43 ∧ ((17 ≤ k ∧ k ≤ 21) ∨ k = 28 ∨ k = 29)) → u c k = x c k
theorem rx_self (x : Wd) : RXq x x := fun _ _ _ => rfl
theorem rx_tr {x u v : Wd} (h : RXq x u) (h2 : RXq u v) : RXq x v := fun c k hc => (h2 c k hc).trans (h c k hc)
theorem rfor_pc {P : Int} {s pr kn : Nat → Int} {wk one other : Int} {c : List Int} {w : Wd} (hR : RUC c (w 43 27) (w 57)) (hP : 0 ≤ P ∧ P ≤ 10) (h0 : w 43 0 = P) (hs : ∀ j : Nat, (j : Int) < P → w 47 j = s j) (h44 : ∀ j : Nat, (j : Int) < P → w 44 j = pr j) (h45 : ∀ j : Nat, (j : Int) < P → w 45 j = kn j) (h8 : w 43 8 = wk) (hk : ∀ j : Nat, (j : Int) < P → 0 ≤ kn j ∧ kn j ≤ 1023) (h1 : 0 ≤ one ∧ one < P) (hr : 0 ≤ s one.toNat ∧ s one.toNat ≤ 4) (ho : 0 ≤ other ∧ other < P) : PC (f_R_ruleFor other one w) (fun r u => RXq w u ∧ r = vlu P s pr kn wk c one other.toNat) := by
  have eo : ((other.toNat : Nat) : Int) = other := by omega
  unfold f_R_ruleFor
  refine pc_ite (fun z => ?_) (fun z => ?_)
  · rcases hR with ⟨e1, e2⟩ | ⟨e1, e2, _⟩
    · refine pc_some ⟨rx_self w, ?_⟩
      unfold vlu
      rw [e1]
      rfl
    · omega
  rcases hR with ⟨e1, e2⟩ | ⟨e1, e2, e3, e4⟩
  · exact absurd e2 z
  unfold f_R_begin1_43_57
  have hbg : PC (jlw (st w 43 17 58) fun u1 => jlw (st u1 43 18 (w 43 27)) fun u2 => jlw (st u2 43 19 40) fun u3 => jlw (st u3 43 20 0) fun u4 => jlw (st u4 43 21 (-1)) fun u5 => some ((0 : Int), u5)) (fun _ u => u 43 17 = 58 ∧ u 43 18 = w 43 27 ∧ u 43 19 = 40 ∧ u 43 20 = 0 ∧ u 43 21 = -1 ∧ ∀ c k, ¬ (c = 43 ∧ 17 ≤ k ∧ k ≤ 21) → u c k = w c k) := by
    refine pc_lw (fun x1 z1 => ?_)
    refine pc_lw (fun x3 z3 => ?_)
    refine pc_lw (fun x4 z4 => ?_)
    refine pc_lw (fun x5 z5 => ?_)
    refine pc_lw (fun x6 z6 => pc_some ⟨?_, ?_, ?_, ?_, ?_, fun c k hc => ?_⟩)
    · rw [z6, st_k (by decide), z5, st_k (by decide), z4, st_k (by decide), z3, st_k (by decide), z1, st_eq]
    · rw [z6, st_k (by decide), z5, st_k (by decide), z4, st_k (by decide), z3, st_eq]
    · rw [z6, st_k (by decide), z5, st_k (by decide), z4, st_eq]
    · rw [z6, st_k (by decide), z5, st_eq]
    · rw [z6, st_eq]
    · rw [z6]; unfold st; rw [if_neg (by omega), z5]; unfold st; rw [if_neg (by omega), z4]; unfold st; rw [if_neg (by omega), z3]; unfold st; rw [if_neg (by omega), z1]; unfold st; rw [if_neg (by omega)]
  refine pc_call hbg (fun r3 u2 q => ?_)
  obtain ⟨q17, q18, q19, q20, q21, qo⟩ := q
  refine pc_lw (fun u3 e3' => ?_)
  refine pc_lw (fun u4 e4' => ?_)
  have f4 : ∀ c k, ¬ (c = 43 ∧ (k = 28 ∨ k = 29)) → u4 c k = u2 c k := fun c k hc => by
    rw [e4']; unfold st; rw [if_neg (by omega), e3']; unfold st; rw [if_neg (by omega)]
  have g4 : RXq w u4 := fun c k hc => by
    rw [f4 c k (by omega)]; exact qo c k (by omega)
  have g28 : u4 43 28 = other := by rw [e4', st_k (by decide), e3', st_eq]
  have g29 : u4 43 29 = one := by rw [e4', st_eq]
  have hX : RRX (w 43 27) (w 57) u4 := by
    refine ⟨?_, ?_, Or.inr ⟨?_, funext fun k => g4 57 k (by omega)⟩⟩
    · rw [f4 43 18 (by decide)]; exact q18
    · rw [f4 43 19 (by decide)]; exact q19
    · rw [f4 43 17 (by decide)]; exact q17
  have hE : EL (ENV P s pr kn wk one other) u4 := by
    refine Or.inr ⟨by omega, fun c p _ => ?_⟩
    have gy : ∀ c k, ¬ (c = 43 ∧ (17 ≤ k ∧ k ≤ 21 ∨ k = 28 ∨ k = 29)) → xw u4 p (-1) c k = w c k := fun c k hc => by
      rw [xw_o u4 p (-1) (by omega)]; exact g4 c k hc
    refine letter_pc hP (by rw [gy 43 0 (by decide)]; exact h0) (fun j hj => by rw [gy 47 j (by omega)]; exact hs j hj) (fun j hj => by rw [gy 44 j (by omega)]; exact h44 j hj) (fun j hj => by rw [gy 45 j (by omega)]; exact h45 j hj) (by rw [gy 43 8 (by decide)]; exact h8) ?_ ?_ hk h1 hr ho
    · rw [xw_o u4 p (-1) (by decide)]; exact g28
    · rw [xw_o u4 p (-1) (by decide)]; exact g29
  have e7 : u4 = xw u4 0 (-1) := by
    have := xw_self u4
    rw [f4 43 20 (by decide), q20, f4 43 21 (by decide), q21] at this
    exact this.symm
  have hg := grp_pc hX hE 100 0 0 0 (by decide) (by decide) (by decide) (by decide)
  rw [← e7, e3] at hg
  refine pc_call hg (fun r5 u6 y => pc_some ⟨fun c k hc => ?_, ?_⟩)
  · rw [y.1, xw_o u4 _ _ (by omega)]; exact g4 c k hc
  · have := y.2.1.2 [] (by simp only [List.length_nil]; omega)
    unfold vlu
    rw [eo, this]
    rfl
/-- the class's -/
theorem vfor_pc {P : Int} {s pr kn : Nat → Int} {wk one other : Int} {c : List Int} {w : Wd} (h4 : w 19 4 = c.length) (hc : c.length ≤ 40) (hS : SR (w 20) c) (hP : 0 ≤ P ∧ P ≤ 10) (h3 : w 5 3 = P) (hw : WH (w 5 4) s P) (h6 : ∀ j : Nat, (j : Int) < P → w 6 j = pr j) (h7 : ∀ j : Nat, (j : Int) < P → w 7 j = kn j) (h6r : ∀ j : Nat, (0 : Int) ≤ w 6 j ∧ w 6 j ≤ 9) (hk : ∀ j : Nat, (j : Int) < P → 0 ≤ kn j ∧ kn j ≤ 1023) (h1 : 0 ≤ one ∧ one < P ∧ gst (s one.toNat) = true) (ho : 0 ≤ other ∧ other < P) : PC (f_W_value one other wk w) (fun r u => (∀ d, d ≠ 23 → u d = w d) ∧ r = vlu P s pr kn wk c one other.toNat) := by
  have eo : ((other.toNat : Nat) : Int) = other := by omega
  unfold vlu
  rw [eo]
  refine val_E h4 hc hS (fun v y hy => ?_)
  refine thing_pc hP (by rw [hy 5 (by decide)]; exact h3) (by rw [hy 5 (by decide)]; exact hw) (fun j hj => by rw [hy 6 (by decide)]; exact h6 j hj) (fun j hj => by rw [hy 7 (by decide)]; exact h7 j hj) (fun j => by rw [hy 6 (by decide)]; exact h6r j) hk h1 ho
/-! THE FAVOURITE -/
def fvt (ok : Nat → Bool) (val : Nat → Int) : Nat → Int × Int
  | 0 => (-1, -1)
  | n + 1 => if ok n = true ∧ (fvt ok val n).2 < val n then ((n : Int), val n) else fvt ok val n
theorem fvt_rg (ok : Nat → Bool) (val : Nat → Int) : ∀ n : Nat, ((fvt ok val n).1 = -1 ∧ (fvt ok val n).2 = -1) ∨ ((0 ≤ (fvt ok val n).1 ∧ (fvt ok val n).1 < n) ∧ 0 ≤ (fvt ok val n).2 ∧ ok (fvt ok val n).1.toNat = true) := by
  intro n
  induction n with
  | zero => exact Or.inl ⟨rfl, rfl⟩
  | succ n ih =>
    rw [fvt]
    by_cases c : ok n = true ∧ (fvt ok val n).2 < val n
    · rw [if_pos c]
      refine Or.inr ⟨⟨Int.natCast_nonneg n, by show (n : Int) < ((n + 1 : Nat) : Int); omega⟩, ?_, c.1⟩
      show 0 ≤ val n
      have := c.2
      rcases ih with e | e
      · omega
      · omega
    · rw [if_neg c]
      rcases ih with e | e
      · exact Or.inl e
      · exact Or.inr ⟨by omega, e.2⟩
theorem fvt_no {ok : Nat → Bool} {val : Nat → Int} : ∀ {n : Nat}, (∀ q, q < n → ok q = false) → fvt ok val n = (-1, -1) := by
  intro n
  induction n with
  | zero => intro _; rfl
  | succ n ih =>
    intro h
    rw [fvt, if_neg (fun c => by rw [h n (by omega)] at c; cases c.1)]
    exact ih (fun q hq => h q (by omega))
theorem fvt_eq {ok ok2 : Nat → Bool} {val : Nat → Int} : ∀ {n : Nat}, (∀ q, q < n → ok q = ok2 q) → fvt ok val n = fvt ok2 val n := by
  intro n
  induction n with
  | zero => intro _; rfl
  | succ n ih => intro h; rw [fvt, fvt, ih (fun q hq => h q (by omega)), h n (by omega)]
/-- the class's -/
theorem fav_pc {P v3 wk one : Int} {ok : Nat → Bool} {val : Nat → Int} (x : Wd) (hP : 0 ≤ P ∧ P ≤ 10) (h3 : x 5 3 = P) (hB : B10 v3 ok) (hV : ∀ (q : Nat) (y : Wd), (q : Int) < P → ok q = true → (∀ d, d ≠ 23 → y d = x d) → PC (f_W_value one (q : Int) wk y) (fun r u => (∀ d, d ≠ 23 → u d = y d) ∧ r = val q)) : ∀ (n : Nat) {w : Wd} {v5 v6 v7 : Int}, 0 ≤ v7 → v7 ≤ P → (∀ d, d ≠ 23 → w d = x d) → v5 = (fvt ok val v7.toNat).1 → v6 = (fvt ok val v7.toNat).2 → PC (f_W_favourite_9 n one v3 wk v5 v6 v7 w) (fun r u => (∀ d, d ≠ 23 → u d = x d) ∧ r = (fvt ok val P.toNat).1) := by
  intro n
  induction n with
  | zero => intros; exact pc_none
  | succ n ih =>
    intro w v5 v6 v7 i0 i1 hx h5 h6
    rw [f_W_favourite_9, hx 5 (by decide), h3]
    refine pc_ite (fun z => ?_) (fun z => ?_)
    · have e : v7 = P := by omega
      rw [e] at h5
      exact pc_some ⟨hx, h5⟩
    · rw [has_10 w hB (by omega), jc_s]
      have w1 := wsucc (v := v7) (P := P) (by omega) (by omega)
      have nx : ∀ {u : Wd} {a b : Int}, (∀ d, d ≠ 23 → u d = x d) → a = (fvt ok val (v7.toNat + 1)).1 → b = (fvt ok val (v7.toNat + 1)).2 → PC (f_W_favourite_54 (f_W_favourite_9 n) one v3 wk a b v7 u) (fun r u => (∀ d, d ≠ 23 → u d = x d) ∧ r = (fvt ok val P.toNat).1) := by
        intro u a b hu ha hb
        unfold f_W_favourite_54
        refine pc_let (fun x3 e3 => ?_)
        rw [w1] at e3
        rw [e3]
        have e4 : (v7 + 1).toNat = v7.toNat + 1 := by omega
        exact ih (by omega) (by omega) hu (by rw [e4]; exact ha) (by rw [e4]; exact hb)
      have ef : fvt ok val (v7.toNat + 1) = if ok v7.toNat = true ∧ (fvt ok val v7.toNat).2 < val v7.toNat then (((v7.toNat : Nat) : Int), val v7.toNat) else fvt ok val v7.toNat := rfl
      cases hb : ok v7.toNat with
      | false =>
        refine pc_ite (fun _ => ?_) (fun c => absurd rfl c)
        rw [hb, if_neg (fun c => by cases c.1)] at ef
        exact nx hx (by rw [ef]; exact h5) (by rw [ef]; exact h6)
      | true =>
        refine pc_ite (fun c => absurd c (by decide)) (fun _ => ?_)
        have hv := hV v7.toNat w (by omega) hb hx
        rw [show ((v7.toNat : Nat) : Int) = v7 by omega] at hv
        refine pc_call hv (fun r4 u5 y => ?_)
        have hu : ∀ d, d ≠ 23 → u5 d = x d := fun d hd => (y.1 d hd).trans (hx d hd)
        rw [hb] at ef
        refine pc_ite (fun c => ?_) (fun c => ?_)
        · rw [if_neg (fun c2 => by have := c2.2; omega)] at ef
          exact nx hu (by rw [ef]; exact h5) (by rw [ef]; exact h6)
        · rw [if_pos ⟨rfl, by omega⟩] at ef
          exact nx hu (by rw [ef]; show v7 = ((v7.toNat : Nat) : Int); omega) (by rw [ef]; exact y.2)
theorem fav_E {P v3 wk one : Int} {ok : Nat → Bool} {val : Nat → Int} {x : Wd} (hP : 0 ≤ P ∧ P ≤ 10) (h3 : x 5 3 = P) (hB : B10 v3 ok) (hV : ∀ (q : Nat) (y : Wd), (q : Int) < P → ok q = true → (∀ d, d ≠ 23 → y d = x d) → PC (f_W_value one (q : Int) wk y) (fun r u => (∀ d, d ≠ 23 → u d = y d) ∧ r = val q)) : PC (f_W_favourite one v3 wk x) (fun r u => (∀ d, d ≠ 23 → u d = x d) ∧ r = (fvt ok val P.toNat).1) := by
  unfold f_W_favourite
  exact fav_pc x hP h3 hB hV FU (by decide) hP.1 (fun _ _ => rfl) rfl rfl
