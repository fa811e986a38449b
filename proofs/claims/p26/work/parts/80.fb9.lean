/-! RULE'S VALUE: what the class's loop makes of the code -/
theorem ex_last : ∀ l : List Int, l = [] ∨ ∃ d k, l = d ++ [k]
  | [] => Or.inl rfl
  | a :: t => by
    rcases ex_last t with e | ⟨d, k, e⟩
    · rw [e]; exact Or.inr ⟨[], a, rfl⟩
    · rw [e]; exact Or.inr ⟨a :: d, k, rfl⟩
theorem sr_mid {f : Nat → Int} : ∀ {c1 c2 : List Int}, SR f (c1 ++ c2) → SR f c2
  | [], _, h => h
  | _ :: t, _, h => sr_mid (c1 := t) (sr_c h).2
def lst : List Int → Int
  | [] => 0
  | [a] => a
  | _ :: b :: t => lst (b :: t)
theorem sr_last {f : Nat → Int} : ∀ {l : List Int}, SR f l → l ≠ [] → f 0 = lst l
  | [], _, h => absurd rfl h
  | [_], h, _ => (sr_c h).1
  | _ :: b :: t, h, _ => sr_last (l := b :: t) (sr_c h).2 (by intro e; cases e)
theorem stp_ne (env : Int → Int) (k : Int) : ∀ s : List Int, stp env k s ≠ []
  | [] => by intro e; cases e
  | [a] => by
    show (if sgn k = 256 then [w32 (-a)] else [psh env k, a]) ≠ []
    by_cases c : sgn k = 256
    · rw [if_pos c]; intro e; cases e
    · rw [if_neg c]; intro e; cases e
  | b :: a :: t => by
    show (if sgn k = 256 then w32 (-b) :: a :: t else if 0 < stg (sgn k) then opr (sgn k) a b :: t else if t.length + 2 < 40 then psh env k :: b :: a :: t else b :: a :: t) ≠ []
    by_cases c : sgn k = 256
    · rw [if_pos c]; intro e; cases e
    · rw [if_neg c]
      by_cases c2 : 0 < stg (sgn k)
      · rw [if_pos c2]; intro e; cases e
      · rw [if_neg c2]
        by_cases c3 : t.length + 2 < 40
        · rw [if_pos c3]; intro e; cases e
        · rw [if_neg c3]; intro e; cases e
theorem stp_len (env : Int → Int) (k : Int) : ∀ s : List Int, s.length ≤ 40 → (stp env k s).length ≤ 40
  | [], _ => by show (1 : Nat) ≤ 40; decide
  | [a], _ => by
    show (if sgn k = 256 then [w32 (-a)] else [psh env k, a]).length ≤ 40
    by_cases c : sgn k = 256
    · rw [if_pos c]; show (1 : Nat) ≤ 40; decide
    · rw [if_neg c]; show (2 : Nat) ≤ 40; decide
  | b :: a :: t, h => by
    simp only [List.length_cons] at h
    show (if sgn k = 256 then w32 (-b) :: a :: t else if 0 < stg (sgn k) then opr (sgn k) a b :: t else if t.length + 2 < 40 then psh env k :: b :: a :: t else b :: a :: t).length ≤ 40
    by_cases c : sgn k = 256
    · rw [if_pos c]; simp only [List.length_cons]; omega
    · rw [if_neg c]
      by_cases c2 : 0 < stg (sgn k)
      · rw [if_pos c2]; simp only [List.length_cons]; omega
      · rw [if_neg c2]
        by_cases c3 : t.length + 2 < 40
        · rw [if_pos c3]; simp only [List.length_cons]; omega
        · rw [if_neg c3]; simp only [List.length_cons]; omega
theorem stp_256 {env : Int → Int} {k : Int} (z : sgn k = 256) (b : Int) : ∀ t : List Int, stp env k (b :: t) = w32 (-b) :: t
  | [] => if_pos z
  | _ :: _ => if_pos z
theorem rnr_len (env : Int → Int) : ∀ c : List Int, (rnr env c []).length ≤ 40
  | [] => by show (0 : Nat) ≤ 40; decide
  | k :: c => stp_len env k _ (rnr_len env c)
theorem op_e (k a b : Int) (w : Wd) : f_W_operate k a b w = some (opr k a b, w) := by
  unfold f_W_operate opr
  by_cases c1 : k = 42
  · rw [c1]; rfl
  · rw [if_neg c1]
    by_cases c2 : k = 43
    · rw [c2]; rfl
    · rw [if_neg c2]
      by_cases c3 : k = 45
      · rw [c3]; rfl
      · rw [if_neg c3]
        by_cases c4 : k = 60
        · rw [if_pos c4, if_pos c4]
          by_cases d : a < b
          · rw [if_neg (show ¬ b ≤ a by omega), if_pos d]
          · rw [if_pos (show b ≤ a by omega), if_neg d]
        · rw [if_neg c4, if_neg c4]
          by_cases c5 : k = 61
          · rw [if_pos c5, if_neg (show ¬ k = 62 by omega), if_pos c5]
            by_cases d : a = b
            · rw [if_pos d, if_pos d]
            · rw [if_neg d, if_neg d]
          · rw [if_neg c5]
            by_cases c6 : k = 62
            · rw [if_pos c6, if_pos c6]
              by_cases d : b < a
              · rw [if_neg (show ¬ a ≤ b by omega), if_pos d]
              · rw [if_pos (show a ≤ b by omega), if_neg d]
            · rw [if_neg c6, if_neg c6, if_neg c5, if_neg c2, if_neg c3, if_neg c1]
              by_cases d : b = 0
              · rw [if_pos d, if_pos d]
              · rw [if_neg d, if_neg d, if_neg d]
/-- the loop -/
theorem vl_pc {one other wk : Int} {env : Int → Int} {c : List Int} (x : Wd) (h4 : x 19 4 = c.length) (hc : c.length ≤ 40) (hS : SR (x 20) c) (hT : ∀ (v : Int) (y : Wd), (∀ d, d ≠ 23 → y d = x d) → PC (f_W_thing v one other wk y) (fun r u => u = y ∧ r = env v)) : ∀ (n : Nat) {w : Wd} {c1 c2 : List Int}, c = c1 ++ c2 → (∀ d, d ≠ 23 → w d = x d) → SR (w 23) (rnr env c2 []) → (rnr env c2 [] = [] → w 23 0 = 0) → PC (f_W_value_13 n one other wk ((rnr env c2 []).length : Int) (c2.length : Int) w) (fun r u => (∀ d, d ≠ 23 → u d = x d) ∧ r = lst (rnr env c [])) := by
  intro n
  induction n with
  | zero => intros; exact pc_none
  | succ n ih =>
    intro w c1 c2 hcc hx hR h0
    have hlen : c.length = c1.length + c2.length := by rw [hcc, List.length_append]
    have hl40 := rnr_len env c2
    rw [f_W_value_13, hx 19 (by decide), h4]
    rcases ex_last c1 with e | ⟨d, k, e⟩
    · rw [e] at hlen
      simp only [List.length_nil] at hlen
      refine pc_ite (fun _ => ?_) (fun z => absurd (by omega) z)
      refine pc_gd (fun _ => pc_some ⟨hx, ?_⟩)
      have ec : c = c2 := by rw [hcc, e]; rfl
      rw [ec]
      by_cases z : rnr env c2 [] = []
      · rw [z]; exact h0 z
      · exact sr_last hR z
    · rw [e] at hlen
      simp only [List.length_append, List.length_cons, List.length_nil] at hlen
      refine pc_ite (fun z => by omega) (fun _ => ?_)
      refine pc_gd (fun _ => ?_)
      have ec : c = d ++ (k :: c2) := by rw [hcc, e, List.append_assoc]; rfl
      have hk : x 20 c2.length = k := by
        have := hS
        rw [ec] at this
        exact (sr_c (sr_mid this)).1
      rw [hx 20 (by decide), show ((c2.length : Int)).toNat = c2.length from rfl, hk]
      refine pc_let (fun x2 e2 => ?_)
      have e2' : x2 = sgn k := e2
      subst e2'
      -- to the next
      have nxt : ∀ {u : Wd} {v5 : Int}, (∀ d, d ≠ 23 → u d = x d) → SR (u 23) (stp env k (rnr env c2 [])) → v5 = ((stp env k (rnr env c2 [])).length : Int) → PC (f_W_value_158 (f_W_value_13 n) one other wk v5 (c2.length : Int) u) (fun r u => (∀ d, d ≠ 23 → u d = x d) ∧ r = lst (rnr env c [])) := by
        intro u v5 hu hs hv
        unfold f_W_value_158
        refine pc_let (fun x5 e5 => ?_)
        have e6 : x5 = ((k :: c2).length : Int) := by
          rw [e5]
          exact (w32_id (by omega)).trans rfl
        rw [e6, hv]
        exact ih (c1 := d) (c2 := k :: c2) ec hu hs (fun z => absurd z (stp_ne env k _))
      -- one more
      have p117 : (rnr env c2 []).length < 40 → stp env k (rnr env c2 []) = psh env k :: rnr env c2 [] → ∀ {u : Wd}, (∀ d, u d = w d) → PC (f_W_value_117 (f_W_value_13 n) one other wk ((rnr env c2 []).length : Int) (c2.length : Int) (sgn k) u) (fun r u => (∀ d, d ≠ 23 → u d = x d) ∧ r = lst (rnr env c [])) := by
        intro hlt hst u hu
        unfold f_W_value_117
        refine pc_ite (fun z => by omega) (fun _ => ?_)
        have f154 : ∀ {u2 : Wd}, (∀ d, u2 d = w d) → PC (f_W_value_154 (f_W_value_13 n) one other wk ((rnr env c2 []).length : Int) (c2.length : Int) ((rnr env c2 []).length : Int) (psh env k) u2) (fun r u => (∀ d, d ≠ 23 → u d = x d) ∧ r = lst (rnr env c [])) := by
          intro u2 hu2
          unfold f_W_value_154
          refine pc_gd (fun _ => ?_)
          refine pc_lw (fun u8 e8 => ?_)
          refine pc_let (fun x9 e9 => ?_)
          refine nxt (fun d hd => ?_) ?_ ?_
          · rw [e8, st_row hd, hu2 d]; exact hx d hd
          · rw [hst]
            exact sr_push (w := u2) (c := 23) (by rw [hu2 23]; exact hR) e8
          · rw [e9, hst]
            exact (w32_id (by omega)).trans rfl
        refine pc_ite (fun z => ?_) (fun z => ?_)
        · refine pc_call (hT (sgn k) u (fun d hd => by rw [hu d]; exact hx d hd)) (fun r6 u7 y => ?_)
          rw [y.1, y.2, show env (sgn k) = psh env k from (if_pos z).symm]
          exact f154 hu
        · rw [show w32 (-(sgn k)) = psh env k from (if_neg z).symm]
          exact f154 hu
      have q67 : ¬ (sgn k = 256 ∧ rnr env c2 [] ≠ []) → PC (f_W_value_67 (f_W_value_13 n) one other wk ((rnr env c2 []).length : Int) (c2.length : Int) (sgn k) w) (fun r u => (∀ d, d ≠ 23 → u d = x d) ∧ r = lst (rnr env c [])) := by
        intro hn
        unfold f_W_value_67
        rw [stg_e, jc_s]
        generalize hs : rnr env c2 [] = s at *
        match s with
        | [] =>
          refine pc_ite (fun _ => p117 (by decide) rfl (fun _ => rfl)) (fun _ => ?_)
          refine pc_ite (fun _ => p117 (by decide) rfl (fun _ => rfl)) (fun z => absurd (by decide) z)
        | [a] =>
          have hst : stp env k [a] = psh env k :: [a] := by
            show (if sgn k = 256 then [w32 (-a)] else [psh env k, a]) = _
            rw [if_neg (fun z => hn ⟨z, by intro e; cases e⟩)]
          refine pc_ite (fun _ => p117 (show (1 : Nat) < 40 by decide) hst (fun _ => rfl)) (fun _ => ?_)
          refine pc_ite (fun _ => p117 (show (1 : Nat) < 40 by decide) hst (fun _ => rfl)) (fun z => absurd (show ((1 : Nat) : Int) ≤ 1 by decide) z)
        | b :: a :: t =>
          have n256 : ¬ sgn k = 256 := fun z => hn ⟨z, by intro e; cases e⟩
          simp only [List.length_cons] at hl40
          have eL : (((b :: a :: t).length : Nat) : Int) = (t.length : Int) + 2 := by simp only [List.length_cons]; omega
          have hst0 : stp env k (b :: a :: t) = if 0 < stg (sgn k) then opr (sgn k) a b :: t else if t.length + 2 < 40 then psh env k :: b :: a :: t else b :: a :: t := by
            show (if sgn k = 256 then _ else _) = _
            rw [if_neg n256]
          refine pc_ite (fun z => ?_) (fun z => ?_)
          · rw [if_neg (show ¬ 0 < stg (sgn k) by omega)] at hst0
            by_cases c3 : t.length + 2 < 40
            · rw [if_pos c3] at hst0
              exact p117 (by simp only [List.length_cons]; omega) hst0 (fun _ => rfl)
            · rw [if_neg c3] at hst0
              unfold f_W_value_117
              refine pc_ite (fun _ => ?_) (fun z => absurd (by rw [eL]; omega) z)
              refine nxt hx ?_ ?_
              · rw [hst0]; exact hR
              · rw [hst0]
          · rw [if_pos (show 0 < stg (sgn k) by omega)] at hst0
            refine pc_ite (fun z => by omega) (fun _ => ?_)
            refine pc_let (fun x10 e10 => ?_)
            rw [eL] at e10
            have w1 := w32_sp ((t.length : Int) + 2 + (-1))
            have e11 : x10 = (t.length : Int) + 1 := by omega
            have w2 := w32_sp (x10 - 1)
            rw [show w32 (x10 - 1) = (t.length : Int) by omega, e11, op_e, jc_s, show ((t.length : Int)).toNat = t.length from rfl, show ((t.length : Int) + 1).toNat = t.length + 1 from rfl]
            refine pc_gd (fun _ => ?_)
            refine pc_gd (fun _ => ?_)
            refine pc_gd (fun _ => ?_)
            refine pc_lw (fun u13 e13 => ?_)
            have rb := sr_c hR
            have ra := sr_c rb.2
            have rb1 : w 23 (t.length + 1) = b := rb.1
            rw [rb1, ra.1] at e13
            refine nxt (fun d hd => ?_) ?_ ?_
            · rw [e13, st_row hd]; exact hx d hd
            · rw [hst0]
              exact sr_push (w := w) (c := 23) ra.2 e13
            · rw [hst0, List.length_cons]; omega
      refine pc_ite (fun z => ?_) (fun z => q67 (fun h => z h.1))
      refine pc_ite (fun z2 => q67 (fun h => h.2 (List.eq_nil_of_length_eq_zero (by omega)))) (fun z2 => ?_)
      generalize hs : rnr env c2 [] = s at *
      match s with
      | [] => exact absurd (by decide) z2
      | b :: t =>
        have eL : (((b :: t).length : Nat) : Int) = (t.length : Int) + 1 := by simp only [List.length_cons]; omega
        have w1 := w32_sp ((t.length : Int) + 1 - 1)
        simp only [List.length_cons] at hl40
        have e1 : w32 ((((b :: t).length : Nat) : Int) - 1) = (t.length : Int) := by rw [eL]; omega
        rw [e1, show ((t.length : Int)).toNat = t.length from rfl]
        refine pc_gd (fun _ => ?_)
        refine pc_gd (fun _ => ?_)
        refine pc_lw (fun u14 e14 => ?_)
        have rb := sr_c hR
        rw [rb.1] at e14
        have hst : stp env k (b :: t) = w32 (-b) :: t := stp_256 z b t
        refine nxt (fun d hd => ?_) ?_ ?_
        · rw [e14, st_row hd]; exact hx d hd
        · rw [hst]
          exact sr_push (w := w) (c := 23) rb.2 e14
        · rw [hst, List.length_cons, List.length_cons]
theorem val_E {one other wk : Int} {env : Int → Int} {c : List Int} {w : Wd} (h4 : w 19 4 = c.length) (hc : c.length ≤ 40) (hS : SR (w 20) c) (hT : ∀ (v : Int) (y : Wd), (∀ d, d ≠ 23 → y d = w d) → PC (f_W_thing v one other wk y) (fun r u => u = y ∧ r = env v)) : PC (f_W_value one other wk w) (fun r u => (∀ d, d ≠ 23 → u d = w d) ∧ r = lst (rnr env c [])) := by
  unfold f_W_value
  refine pc_gd (fun _ => ?_)
  refine pc_lw (fun u1 e1 => ?_)
  exact vl_pc (c := c) w h4 hc hS hT FU (w := u1) (c1 := c) (c2 := []) (List.append_nil c).symm (fun d hd => by rw [e1, st_row hd]) rfl (fun _ => by rw [e1]; exact st_eq _ _ _ _)
theorem sms_0 {g : Nat → Int} : ∀ {n : Nat}, (∀ j, j < n → g j = 0) → sms g n = 0 := by
  intro n
  induction n with
  | zero => intro _; rfl
  | succ n ih => intro h; rw [sms, ih (fun j hj => h j (by omega)), h n (by omega)]; rfl
/-- one of them alone -/
theorem sms_1 {f : Nat → Bool} {g : Nat → Int} {i : Nat} : ∀ {n : Nat}, i < n → (∀ j, j < n → f j = decide (j = i)) → sms (fun j => if f j then g j else 0) n = g i := by
  intro n
  induction n with
  | zero => intro h; omega
  | succ n ih =>
    intro hi hf
    rw [sms]
    by_cases e : n = i
    · subst e
      rw [sms_0 (fun j hj => by rw [hf j (by omega), decide_eq_false (by omega)]; rfl), hf n (by omega), decide_eq_true rfl]
      simp
    · rw [ih (by omega) (fun j hj => hf j (by omega)), hf n (by omega), decide_eq_false e]
      simp
/-- the price of one -/
theorem pr1_e {i : Int} {w : Wd} (hP : 0 ≤ w 5 3 ∧ w 5 3 ≤ 10) (hi : 0 ≤ i ∧ i < w 5 3) (h6 : ∀ j : Nat, (0 : Int) ≤ w 6 j ∧ w 6 j ≤ 9) : PC (f_F_pricesOf (ishl 1 i) w) (fun r u => u = w ∧ r = w 6 i.toNat) := by
  refine pc_w (prs_pc hP h6) (fun r u q => ⟨q.1, ?_⟩)
  rw [q.2]
  exact sms_1 (by omega) (fun j hj => by rw [(b10_1 (i := i) (by omega)).2 j (by omega)])
theorem sr_eq {P : Int} {s t : Nat → Int} (e : ∀ k : Nat, (k : Int) < P → s k = t k) (k : Nat) : sr P s k = sr P t k := by
  unfold sr
  by_cases c : (k : Int) < P
  · rw [e k c]
  · rw [show inP P k = false from decide_eq_false c]; rfl
/-! WHAT A LETTER IS -/
def ENV (P : Int) (s pr kn : Nat → Int) (wk one other c : Int) : Int :=
  if c = 103 then ((pn (fun q => bt (kn other.toNat) q && gs P s q) 10 : Nat) : Int)
  else if c = 105 then other
  else if c = 107 then ((pn (bt (kn other.toNat)) 10 : Nat) : Int)
  else if c = 108 then s one.toNat - 1
  else if c = 110 then one
  else if c = 112 then pr other.toNat
  else if c = 115 then ((pn (fun q => bt (kn other.toNat) q && sr P s q) 10 : Nat) : Int)
  else wk
theorem thing_pc {P : Int} {s pr kn : Nat → Int} {wk one other c : Int} {w : Wd} (hP : 0 ≤ P ∧ P ≤ 10) (h3 : w 5 3 = P) (hw : WH (w 5 4) s P) (h6 : ∀ j : Nat, (j : Int) < P → w 6 j = pr j) (h7 : ∀ j : Nat, (j : Int) < P → w 7 j = kn j) (h6r : ∀ j : Nat, (0 : Int) ≤ w 6 j ∧ w 6 j ≤ 9) (hk : ∀ j : Nat, (j : Int) < P → 0 ≤ kn j ∧ kn j ≤ 1023) (h1 : 0 ≤ one ∧ one < P ∧ gst (s one.toNat) = true) (ho : 0 ≤ other ∧ other < P) : PC (f_W_thing c one other wk w) (fun r u => u = w ∧ r = ENV P s pr kn wk one other c) := by
  have bo : ((other.toNat : Nat) : Int) < P := by omega
  have b7 := b10_self (hk other.toNat bo)
  unfold f_W_thing
  refine pc_call (kn1_e (by omega) (by omega) (fun j hj => by rw [h7 j (by omega)]; exact hk j (by omega))) (fun r1 u2 y => ?_)
  rw [y.1, y.2, h7 other.toNat bo]
  unfold ENV
  refine pc_ite (fun z => pc_some ⟨rfl, ?_⟩) (fun z => ?_)
  · rw [if_neg (by omega), if_neg (by omega), if_neg (by omega), if_neg (by omega), if_neg (by omega), if_neg (by omega), if_neg (by omega)]
  refine pc_ite (fun z1 => ?_) (fun z1 => ?_)
  · refine pc_call (eg_e hw) (fun r3 u4 q => ?_)
    rw [q.1, bcs_e (b10_and b7 q.2.2), jc_s, if_pos z1]
    exact pc_some ⟨rfl, rfl⟩
  rw [if_neg z1]
  refine pc_ite (fun z2 => pc_some ⟨rfl, ?_⟩) (fun z2 => ?_)
  · rw [if_neg (by omega), if_neg (by omega), if_neg (by omega), if_neg (by omega), if_neg (by omega), if_neg (by omega)]
  refine pc_ite (fun z3 => pc_some ⟨rfl, ?_⟩) (fun z3 => ?_)
  · rw [if_pos z3]
  rw [if_neg z3]
  refine pc_ite (fun z4 => pc_some ⟨rfl, ?_⟩) (fun z4 => ?_)
  · rw [if_neg (by omega), if_neg (by omega), if_neg (by omega), if_neg (by omega), if_neg (by omega)]
  refine pc_ite (fun z5 => ?_) (fun z5 => ?_)
  · rw [bcs_e b7, jc_s, if_pos z5]
    exact pc_some ⟨rfl, rfl⟩
  rw [if_neg z5]
  refine pc_ite (fun z6 => ?_) (fun z6 => ?_)
  · rw [late_e hw, jc_s, if_pos z6, if_pos ⟨h1.1, by omega, by unfold gs; rw [h1.2.2, show inP P one.toNat = true from decide_eq_true (by omega)]; rfl⟩]
    exact pc_some ⟨rfl, rfl⟩
  rw [if_neg z6]
  refine pc_ite (fun z7 => pc_some ⟨rfl, ?_⟩) (fun z7 => ?_)
  · rw [if_neg (by omega), if_neg (by omega), if_neg (by omega)]
  refine pc_ite (fun z8 => pc_some ⟨rfl, ?_⟩) (fun z8 => ?_)
  · rw [if_pos z8]
  rw [if_neg z8]
  refine pc_ite (fun z9 => pc_some ⟨rfl, ?_⟩) (fun z9 => ?_)
  · rw [if_neg (by omega), if_neg (by omega)]
  refine pc_ite (fun za => ?_) (fun za => ?_)
  · refine pc_call (pr1_e (by omega) (by omega) h6r) (fun r11 u12 q => pc_some ?_)
    rw [if_pos za]
    exact ⟨q.1, by rw [q.2, h6 other.toNat bo]⟩
  rw [if_neg za]
  refine pc_ite (fun zb => pc_some ⟨rfl, ?_⟩) (fun zb => ?_)
  · rw [if_neg (by omega)]
  refine pc_ite (fun zc => pc_some ⟨rfl, ?_⟩) (fun zc => ?_)
  · rw [if_neg (by omega)]
  refine pc_ite (fun zd => ?_) (fun zd => pc_none)
  refine pc_call (es_e hw hP h3) (fun r13 u14 q => ?_)
  rw [q.1, bcs_e (b10_and b7 q.2.2), jc_s, if_pos zd]
  exact pc_some ⟨rfl, rfl⟩
theorem letter_pc {P : Int} {s pr kn : Nat → Int} {wk one other c : Int} {w : Wd} (hP : 0 ≤ P ∧ P ≤ 10) (h0 : w 43 0 = P) (hs : ∀ j : Nat, (j : Int) < P → w 47 j = s j) (h44 : ∀ j : Nat, (j : Int) < P → w 44 j = pr j) (h45 : ∀ j : Nat, (j : Int) < P → w 45 j = kn j) (h8 : w 43 8 = wk) (h28 : w 43 28 = other) (h29 : w 43 29 = one) (hk : ∀ j : Nat, (j : Int) < P → 0 ≤ kn j ∧ kn j ≤ 1023) (h1 : 0 ≤ one ∧ one < P) (hr : 0 ≤ s one.toNat ∧ s one.toNat ≤ 4) (ho : 0 ≤ other ∧ other < P) : PC (f_R_letter c w) (fun r u => u = w ∧ r = ENV P s pr kn wk one other c) := by
  have bo : ((other.toNat : Nat) : Int) < P := by omega
  have b7 := b10_self (hk other.toNat bo)
  have wkk : ENV P s pr kn wk one other c = wk → PC (f_R_letter_151 w) (fun r u => u = w ∧ r = ENV P s pr kn wk one other c) := by
    intro e
    rw [e]
    exact pc_some ⟨rfl, h8⟩
  unfold f_R_letter
  refine pc_ite (fun z => wkk ?_) (fun z => ?_)
  · unfold ENV
    rw [if_neg (by omega), if_neg (by omega), if_neg (by omega), if_neg (by omega), if_neg (by omega), if_neg (by omega), if_neg (by omega)]
  refine pc_ite (fun z1 => ?_) (fun z1 => ?_)
  · refine pc_gd (fun _ => ?_)
    refine pc_call (rg_e (by omega)) (fun r1 u2 q => ?_)
    rw [h28, h45 other.toNat bo, bcs_e (b10_and b7 q.2.2), jc_s]
    refine pc_some ⟨q.1, ?_⟩
    unfold ENV
    rw [if_pos z1]
    rw [h0]
    rw [pn_eq (fun k _ => by rw [gs_eq hs k])]
  refine pc_ite (fun z2 => wkk ?_) (fun z2 => ?_)
  · unfold ENV
    rw [if_neg (by omega), if_neg (by omega), if_neg (by omega), if_neg (by omega), if_neg (by omega), if_neg (by omega), if_neg (by omega)]
  refine pc_ite (fun z3 => pc_some ⟨rfl, ?_⟩) (fun z3 => ?_)
  · unfold ENV
    rw [if_neg z1, if_pos z3]; exact h28
  refine pc_ite (fun z4 => wkk ?_) (fun z4 => ?_)
  · unfold ENV
    rw [if_neg (by omega), if_neg (by omega), if_neg (by omega), if_neg (by omega), if_neg (by omega), if_neg (by omega), if_neg (by omega)]
  refine pc_ite (fun z5 => ?_) (fun z5 => ?_)
  · refine pc_gd (fun _ => ?_)
    rw [h28, h45 other.toNat bo, bcs_e b7, jc_s]
    refine pc_some ⟨rfl, ?_⟩
    unfold ENV
    rw [if_neg z1, if_neg z3, if_pos z5]
  refine pc_ite (fun z6 => ?_) (fun z6 => ?_)
  · refine pc_gd (fun _ => pc_some ⟨rfl, ?_⟩)
    unfold ENV
    rw [if_neg z1, if_neg z3, if_neg z5, if_pos z6, h29, hs one.toNat (by omega)]
    have := w32_sp (s one.toNat - 1)
    omega
  refine pc_ite (fun z7 => wkk ?_) (fun z7 => ?_)
  · unfold ENV
    rw [if_neg (by omega), if_neg (by omega), if_neg (by omega), if_neg (by omega), if_neg (by omega), if_neg (by omega), if_neg (by omega)]
  refine pc_ite (fun z8 => pc_some ⟨rfl, ?_⟩) (fun z8 => ?_)
  · unfold ENV
    rw [if_neg z1, if_neg z3, if_neg z5, if_neg z6, if_pos z8]; exact h29
  refine pc_ite (fun z9 => wkk ?_) (fun z9 => ?_)
  · unfold ENV
    rw [if_neg (by omega), if_neg (by omega), if_neg (by omega), if_neg (by omega), if_neg (by omega), if_neg (by omega), if_neg (by omega)]
  refine pc_ite (fun za => ?_) (fun za => ?_)
  · refine pc_gd (fun _ => pc_some ⟨rfl, ?_⟩)
    unfold ENV
    rw [if_neg z1, if_neg z3, if_neg z5, if_neg z6, if_neg z8, if_pos za, h28, h44 other.toNat bo]
  refine pc_ite (fun zb => wkk ?_) (fun zb => ?_)
  · unfold ENV
    rw [if_neg (by omega), if_neg (by omega), if_neg (by omega), if_neg (by omega), if_neg (by omega), if_neg (by omega), if_neg (by omega)]
  refine pc_ite (fun zc => wkk ?_) (fun zc => ?_)
  · unfold ENV
    rw [if_neg (by omega), if_neg (by omega), if_neg (by omega), if_neg (by omega), if_neg (by omega), if_neg (by omega), if_neg (by omega)]
  refine pc_ite (fun zd => ?_) (fun zd => pc_none)
  refine pc_gd (fun _ => ?_)
  refine pc_call (rs0_e (by omega)) (fun r7 u8 q => ?_)
  rw [h28, h45 other.toNat bo, bcs_e (b10_and b7 q.2.2), jc_s]
  refine pc_some ⟨q.1, ?_⟩
  unfold ENV
  rw [if_neg z1, if_neg z3, if_neg z5, if_neg z6, if_neg z8, if_neg za, if_pos zd, h0]
  rw [pn_eq (fun k _ => by rw [sr_eq hs k])]
