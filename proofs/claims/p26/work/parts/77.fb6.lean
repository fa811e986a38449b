def GO (x : Wd) (env : Int → Int) (p : Int) (o : Par) (r : Int) (u : Wd) : Prop := match o with
  | none => False
  | some (true, q, c) => u = xw x q (-1) ∧ VAL env c r ∧ p < q ∧ q ≤ 40
  | some (false, q, _) => u = xw x q q ∧ 0 ≤ q ∧ q ≤ 40
def LTR (c : Int) : Prop := c = 105 ∨ c = 112 ∨ c = 107 ∨ c = 115 ∨ c = 103 ∨ c = 108 ∨ c = 110 ∨ c = 119
def EL (env : Int → Int) (x : Wd) : Prop := (x 43 28 = -1 ∧ ∀ c, env c = 0) ∨ (x 43 28 ≠ -1 ∧ ∀ c p, LTR c → PC (f_R_letter c (xw x p (-1))) (fun r u => u = xw x p (-1) ∧ r = env c))
theorem go_f {x : Wd} {env : Int → Int} {p q : Int} {l : List Int} {r : Int} (hq : 0 ≤ q ∧ q ≤ 40) : GO x env p (some (false, q, l)) r (xw x q q) := ⟨rfl, hq⟩
/-- digits: as many as three -/
theorem num_pc {n : Int} {f0 : Nat → Int} {x : Wd} (hr : RRX n f0 x) (rec : Nat → Int → Wd → Option (Int × Wd)) (env : Int → Int) {p : Int} (hp : 0 ≤ p ∧ p ≤ 40) (hd : 48 ≤ hx n f0 p ∧ hx n f0 p ≤ 57) : ∀ m : Nat, PC (f_R_thing_94 rec m 0 0 (xw x p (-1))) (fun r u => GO x env p (some (true, (pnm (hx n f0) p).1, [(pnm (hx n f0) p).2])) r u) := by
  have vp : ∀ v : Int, 0 ≤ v ∧ v ≤ 999 → VAL env [v] v := fun v hv => by
    have := val_push (env := env) (k := v) (by omega) (by omega) (by
      have : stg (-v) = 0 := by
        unfold stg
        rw [if_neg (by omega), if_neg (by omega), if_neg (by omega), if_neg (by omega), if_neg (by omega), if_neg (by omega), if_neg (by omega), if_neg (by omega)]
      omega)
    rw [if_pos hv.1] at this
    exact this
  have stop : ∀ (m : Nat) (v v4 q : Int), (3 ≤ v4 ∨ ¬ (48 ≤ hx n f0 q ∧ hx n f0 q ≤ 57)) → PC (f_R_thing_94 rec m v v4 (xw x q (-1))) (fun r u => r = v ∧ u = xw x q (-1)) := by
    intro m v v4 q h
    cases m with
    | zero => exact pc_none
    | succ m =>
      rw [f_R_thing_94]
      refine pc_ite (fun _ => pc_some ⟨rfl, rfl⟩) (fun c => ?_)
      have h2 := h.resolve_left c
      refine pc_call (hx_pc hr q (-1)) (fun r u y => ?_)
      rw [y.1, y.2, in_e, jc_s, if_neg h2]
      exact pc_ite (fun _ => pc_some ⟨rfl, rfl⟩) (fun e => absurd rfl e)
  have go1 : ∀ (m : Nat) (v v4 q : Int) (Q : Int → Wd → Prop), ¬ 3 ≤ v4 → 0 ≤ v4 → (0 ≤ v ∧ v ≤ 99) → (0 ≤ q ∧ q ≤ 40) → (48 ≤ hx n f0 q ∧ hx n f0 q ≤ 57) → (∀ m2, PC (f_R_thing_94 rec m2 (10 * v + (hx n f0 q - 48)) (v4 + 1) (xw x (q + 1) (-1))) Q) → PC (f_R_thing_94 rec m v v4 (xw x q (-1))) Q := by
    intro m v v4 q Q h4 h0 hv hq hd hn
    cases m with
    | zero => exact pc_none
    | succ m =>
      rw [f_R_thing_94]
      refine pc_ite (fun c => absurd c h4) (fun c => ?_)
      refine pc_call (hx_pc hr q (-1)) (fun r u y => ?_)
      rw [y.1, y.2, in_e, jc_s, if_pos hd]
      refine pc_ite (fun e => absurd e (by decide)) (fun _ => ?_)
      refine pc_call (hx_pc hr q (-1)) (fun r2 u2 y2 => ?_)
      rw [y2.1, y2.2, xw_p]
      have w1 := w32_sp (10 * v)
      have w2 := w32_sp (w32 (10 * v) + hx n f0 q)
      have w3 := w32_sp (w32 (w32 (10 * v) + hx n f0 q) - 48)
      have w4 := w32_sp (q + 1)
      have w5 := w32_sp (v4 + 1)
      refine pc_let (fun x20 e20 => ?_)
      refine pc_lw (fun u21 e21 => ?_)
      refine pc_let (fun x22 e22 => ?_)
      rw [xw_sp, show w32 (q + 1) = q + 1 by omega] at e21
      have e1 : x20 = 10 * v + (hx n f0 q - 48) := by omega
      have e2 : x22 = v4 + 1 := by omega
      rw [e1, e2, e21]
      exact hn m
  intro m
  have l0 := hx_lt (n := n) (f0 := f0) (p := p) (by omega)
  refine go1 m 0 0 p _ (by decide) (by decide) (by decide) hp hd (fun m2 => ?_)
  have e1 : 10 * 0 + (hx n f0 p - 48) = hx n f0 p - 48 := by omega
  rw [e1]
  unfold pnm
  by_cases c1 : 48 ≤ hx n f0 (p + 1) ∧ hx n f0 (p + 1) ≤ 57
  · rw [if_pos c1]
    have l1 := hx_lt (n := n) (f0 := f0) (p := p + 1) (by omega)
    refine go1 m2 _ (0 + 1) (p + 1) _ (by decide) (by decide) (by omega) (by omega) c1 (fun m3 => ?_)
    rw [show p + 1 + 1 = p + 2 by omega]
    by_cases c2 : 48 ≤ hx n f0 (p + 2) ∧ hx n f0 (p + 2) ≤ 57
    · rw [if_pos c2]
      have l2 := hx_lt (n := n) (f0 := f0) (p := p + 2) (by omega)
      refine go1 m3 _ (0 + 1 + 1) (p + 2) _ (by decide) (by decide) (by omega) (by omega) c2 (fun m4 => ?_)
      rw [show p + 2 + 1 = p + 3 by omega]
      refine pc_w (stop m4 _ _ _ (Or.inl (by decide))) (fun r u y => ⟨y.2, ?_, by show p < p + 3; omega, by show p + 3 ≤ 40; omega⟩)
      rw [y.1]; exact vp _ (by omega)
    · rw [if_neg c2]
      refine pc_w (stop m3 _ _ _ (Or.inr c2)) (fun r u y => ⟨y.2, ?_, by show p < p + 2; omega, by show p + 2 ≤ 40; omega⟩)
      rw [y.1]; exact vp _ (by omega)
  · rw [if_neg c1]
    refine pc_w (stop m2 _ _ _ (Or.inr c1)) (fun r u y => ⟨y.2, ?_, by show p < p + 1; omega, by show p + 1 ≤ 40; omega⟩)
    rw [y.1]; exact vp _ (by omega)
theorem xw_nf {x : Wd} {q : Int} (hq : 0 ≤ q) : ¬ xw x q q 43 21 = -1 := by rw [xw_f]; omega
/-- a thing -/
theorem thg_pc {n : Int} {f0 : Nat → Int} {x : Wd} {env : Int → Int} (hr : RRX n f0 x) (hE : EL env x) {rec : Nat → Int → Wd → Option (Int × Wd)} {v : Int} (hv : 0 ≤ v ∧ v ≤ 4) {rT rH : Int → Par} (hT : ∀ p, 0 ≤ p → p ≤ 40 → PC (rec 3 v (xw x p (-1))) (fun r u => GO x env p (rT p) r u)) (hH : v < 4 → ∀ p, 0 ≤ p → p ≤ 40 → PC (rec 0 (v + 1) (xw x p (-1))) (fun r u => GO x env p (rH p) r u)) {p : Int} (hp : 0 ≤ p ∧ p ≤ 40) : PC (f_R_thing_b rec v (xw x p (-1))) (fun r u => GO x env p (pth (hx n f0) rT rH v p) r u) := by
  unfold f_R_thing_b pth
  have k78 : ¬ hx n f0 p = 45 → ¬ (hx n f0 p = 40 ∧ v < 4) → PC (f_R_thing_78 rec (hx n f0 p) (xw x p (-1))) (fun r u => GO x env p (if 48 ≤ hx n f0 p ∧ hx n f0 p ≤ 57 then some (true, (pnm (hx n f0) p).1, [(pnm (hx n f0) p).2]) else if hx n f0 p = 105 ∨ hx n f0 p = 112 ∨ hx n f0 p = 107 ∨ hx n f0 p = 115 ∨ hx n f0 p = 103 ∨ hx n f0 p = 108 ∨ hx n f0 p = 110 ∨ hx n f0 p = 119 then some (true, p + 1, [-(hx n f0 p)]) else some (false, p, [])) r u) := by
    intro n45 n40
    unfold f_R_thing_78
    rw [in_e, jc_s]
    by_cases cd : 48 ≤ hx n f0 p ∧ hx n f0 p ≤ 57
    · rw [if_pos cd, if_pos cd]
      refine pc_ite (fun e => absurd e (by decide)) (fun _ => ?_)
      exact num_pc hr rec env hp cd FU
    · rw [if_neg cd, if_neg cd]
      refine pc_ite (fun _ => ?_) (fun e => absurd rfl e)
      have l203 : LTR (hx n f0 p) → PC (f_R_thing_203 rec (hx n f0 p) (xw x p (-1))) (fun r u => GO x env p (if hx n f0 p = 105 ∨ hx n f0 p = 112 ∨ hx n f0 p = 107 ∨ hx n f0 p = 115 ∨ hx n f0 p = 103 ∨ hx n f0 p = 108 ∨ hx n f0 p = 110 ∨ hx n f0 p = 119 then some (true, p + 1, [-(hx n f0 p)]) else some (false, p, [])) r u) := by
        intro hl
        have hl' := hl
        unfold LTR at hl'
        rw [if_pos hl']
        have l0 := hx_lt (n := n) (f0 := f0) (p := p) (by omega)
        have vv : VAL env [-(hx n f0 p)] (env (hx n f0 p)) := by
          have s0 : stg (- -(hx n f0 p)) = 0 := by
            rw [show - -(hx n f0 p) = hx n f0 p by omega]
            rcases hl' with e | e | e | e | e | e | e | e <;> rw [e] <;> decide
          have := val_push (env := env) (k := -(hx n f0 p)) (by omega) (by omega) (by omega)
          rw [if_neg (by omega), show - -(hx n f0 p) = hx n f0 p by omega] at this
          exact this
        unfold f_R_thing_203
        have w1 := w32_sp (p + 1)
        rw [xw_p]
        refine pc_lw (fun u9 e9 => ?_)
        rw [xw_sp, show w32 (p + 1) = p + 1 by omega] at e9
        rw [e9, xw_o x (p + 1) (-1) (c := 43) (k := 28) (by omega)]
        rcases hE with ⟨h28, hz⟩ | ⟨h28, hl2⟩
        · refine pc_ite (fun _ => pc_some ⟨rfl, ?_, by omega, by omega⟩) (fun e => absurd h28 e)
          rw [hz] at vv; exact vv
        · refine pc_ite (fun e => absurd e h28) (fun _ => ?_)
          refine pc_call (hl2 _ (p + 1) hl) (fun r10 u11 y => pc_some ⟨y.1, ?_, by omega, by omega⟩)
          rw [y.2]; exact vv
      refine pc_ite (fun e => l203 (Or.inl e)) (fun e1 => ?_)
      refine pc_ite (fun e => l203 (Or.inr (Or.inl e))) (fun e2 => ?_)
      refine pc_ite (fun e => l203 (Or.inr (Or.inr (Or.inl e)))) (fun e3 => ?_)
      refine pc_ite (fun e => l203 (Or.inr (Or.inr (Or.inr (Or.inl e))))) (fun e4 => ?_)
      refine pc_ite (fun e => l203 (Or.inr (Or.inr (Or.inr (Or.inr (Or.inl e)))))) (fun e5 => ?_)
      refine pc_ite (fun e => l203 (Or.inr (Or.inr (Or.inr (Or.inr (Or.inr (Or.inl e))))))) (fun e6 => ?_)
      refine pc_ite (fun e => l203 (Or.inr (Or.inr (Or.inr (Or.inr (Or.inr (Or.inr (Or.inl e)))))))) (fun e7 => ?_)
      refine pc_ite (fun e => l203 (Or.inr (Or.inr (Or.inr (Or.inr (Or.inr (Or.inr (Or.inr e)))))))) (fun e8 => ?_)
      rw [if_neg (by omega), xw_p]
      refine pc_call fx_pc (fun r12 u13 y => pc_some ?_)
      rw [y, if_pos rfl]
      exact go_f hp
  refine pc_call (px_pc hr hp (c := 45)) (fun r1 u2 q => ?_)
  rcases q with ⟨_, q1, q2, q3⟩ | ⟨q1, q2, q3⟩
  · refine pc_ite (fun e => absurd (q2.symm.trans e) (by decide)) (fun _ => ?_)
    rw [if_pos q1, q3]
    have l0 := hx_lt (n := n) (f0 := f0) (p := p) (by omega)
    refine pc_call (hT (p + 1) (by omega) (by omega)) (fun r30 u31 y => pc_some ?_)
    cases ho : rT (p + 1) with
    | none => rw [ho] at y; exact y.elim
    | some o =>
      obtain ⟨ok, q, c⟩ := o
      rw [ho] at y
      cases ok with
      | false => exact y
      | true =>
        obtain ⟨y1, y2, y3, y4⟩ := y
        exact ⟨y1, val_neg y2, by omega, y4⟩
  · have n45 : ¬ hx n f0 p = 45 := fun e => q1 ⟨rfl, e⟩
    refine pc_ite (fun _ => ?_) (fun e => absurd q2 e)
    rw [if_neg n45, q3, fine_e, jc_s, xw_f, if_pos rfl]
    refine pc_ite (fun e => absurd e (by decide)) (fun _ => ?_)
    refine pc_call (hx_pc hr p (-1)) (fun r5 u6 y => ?_)
    rw [y.1, y.2]
    refine pc_ite (fun c40 => ?_) (fun c40 => ?_)
    · refine pc_ite (fun c4 => ?_) (fun c4 => ?_)
      · rw [if_neg (fun h => by omega)]
        exact k78 n45 (fun h => by omega)
      · rw [if_pos ⟨c40, by omega⟩]
        have l0 := hx_lt (n := n) (f0 := f0) (p := p) (by omega)
        have w1 := w32_sp (p + 1)
        have w2 := w32_sp (v + 1)
        rw [xw_p]
        refine pc_lw (fun u23 e23 => ?_)
        rw [xw_sp, show w32 (p + 1) = p + 1 by omega] at e23
        rw [e23, show w32 (v + 1) = v + 1 by omega]
        refine pc_call (hH (by omega) (p + 1) (by omega) (by omega)) (fun r24 u25 y => ?_)
        cases ho : rH (p + 1) with
        | none => rw [ho] at y; exact y.elim
        | some o =>
          obtain ⟨ok, q, c⟩ := o
          rw [ho] at y
          cases ok with
          | false =>
            obtain ⟨y1, y2, y3⟩ := y
            rw [y1]
            refine pc_call (px_pc hr ⟨y2, y3⟩ (c := 41)) (fun r26 u27 z => ?_)
            rcases z with ⟨z1, _⟩ | ⟨_, z2, z3⟩
            · exfalso; omega
            · refine pc_ite (fun _ => ?_) (fun e => absurd z2 e)
              rw [z3, xw_p]
              refine pc_call fx_pc (fun r28 u29 z => pc_some ?_)
              rw [z, if_neg (by omega)]
              exact go_f ⟨y2, y3⟩
          | true =>
            obtain ⟨y1, y2, y3, y4⟩ := y
            rw [y1]
            dsimp only
            refine pc_call (px_pc hr ⟨by omega, y4⟩ (c := 41)) (fun r26 u27 z => ?_)
            rcases z with ⟨_, z1, z2, z3⟩ | ⟨z1, z2, z3⟩
            · refine pc_ite (fun e => absurd (z2.symm.trans e) (by decide)) (fun _ => ?_)
              have l1 := hx_lt (n := n) (f0 := f0) (p := q) (by omega)
              rw [if_pos z1]
              exact pc_some ⟨z3, y2, by omega, by omega⟩
            · refine pc_ite (fun _ => ?_) (fun e => absurd z2 e)
              rw [if_neg (fun e => z1 ⟨rfl, e⟩), z3, xw_p]
              refine pc_call fx_pc (fun r28 u29 z => pc_some ?_)
              rw [z, if_pos rfl]
              exact go_f ⟨by omega, y4⟩
    · rw [if_neg (fun h => c40 h.1)]
      exact k78 n45 (fun h => c40 h.1)
/-- a product -/
theorem prd_pc {n : Int} {f0 : Nat → Int} {x : Wd} {env : Int → Int} (hr : RRX n f0 x) {rec : Nat → Int → Wd → Option (Int × Wd)} {v : Int} {r3 : Int → Par} (h3 : ∀ p, 0 ≤ p → p ≤ 40 → PC (rec 3 v (xw x p (-1))) (fun r u => GO x env p (r3 p) r u)) {p : Int} (hp : 0 ≤ p ∧ p ≤ 40) : PC (f_R_product_b rec v (xw x p (-1))) (fun r u => GO x env p (pst (hx n f0) 42 47 r3 p) r u) := by
  have lpf : ∀ (m : Nat) (a q : Int), (0 ≤ q ∧ q ≤ 40) → PC (f_R_product_6 rec m v a (xw x q q)) (fun r u => GO x env p (some (false, q, [])) r u) := by
    intro m a q hq
    cases m with
    | zero => exact pc_none
    | succ m =>
      rw [f_R_product_6, fine_e, jc_s, if_neg (xw_nf hq.1)]
      exact pc_ite (fun _ => pc_some (go_f hq)) (fun e => absurd rfl e)
  have lp : ∀ (m f : Nat) (a q : Int) (c : List Int), (p < q ∧ q ≤ 40) → VAL env c a → 40 < q + f → PC (f_R_product_6 rec m v a (xw x q (-1))) (fun r u => GO x env p (plp (hx n f0) 42 47 r3 f q c) r u) := by
    intro m
    induction m with
    | zero => intros; exact pc_none
    | succ m ih =>
      intro f a q c hq hc hf
      cases f with
      | zero => exfalso; omega
      | succ f =>
        rw [f_R_product_6, fine_e, jc_s, xw_f, if_pos rfl, plp]
        refine pc_ite (fun e => absurd e (by decide)) (fun _ => ?_)
        have nx : ∀ s0 : Int, (hx n f0 q = 42 ∧ s0 = 1) ∨ (hx n f0 q = 47 ∧ s0 = 0) → PC (f_R_product_45 rec (f_R_product_6 rec m) v a s0 (xw x q (-1))) (fun r u => GO x env p (match r3 (q + 1) with
            | none => none
            | some (false, q2, _) => some (false, q2, [])
            | some (true, q2, c2) => plp (hx n f0) 42 47 r3 f q2 (-(hx n f0 q) :: (c2 ++ c))) r u) := by
          intro s0 hs
          unfold f_R_product_45
          have l0 := hx_lt (n := n) (f0 := f0) (p := q) (by omega)
          have w1 := w32_sp (q + 1)
          rw [xw_p]
          refine pc_lw (fun u9 e9 => ?_)
          rw [xw_sp, show w32 (q + 1) = q + 1 by omega] at e9
          rw [e9]
          refine pc_call (h3 (q + 1) (by omega) (by omega)) (fun r10 u11 y => ?_)
          have fin : ∀ z : Int, (∀ q2 c2, r3 (q + 1) = some (true, q2, c2) → z = opr (hx n f0 q) a r10) → PC (f_R_product_87 rec (f_R_product_6 rec m) v z u11) (fun r u => GO x env p (match r3 (q + 1) with
              | none => none
              | some (false, q2, _) => some (false, q2, [])
              | some (true, q2, c2) => plp (hx n f0) 42 47 r3 f q2 (-(hx n f0 q) :: (c2 ++ c))) r u) := by
            intro z hz
            unfold f_R_product_87
            cases ho : r3 (q + 1) with
            | none => rw [ho] at y; exact y.elim
            | some o =>
              obtain ⟨ok, q2, c2⟩ := o
              rw [ho] at y
              cases ok with
              | false =>
                obtain ⟨y1, y2⟩ := y
                rw [y1]; exact lpf m z q2 y2
              | true =>
                obtain ⟨y1, y2, y3⟩ := y
                rw [y1, hz q2 c2 ho]
                exact ih f _ q2 _ (by omega) (val_op hc y2 (by rcases hs with h | h <;> omega)) (by omega)
          refine pc_ite (fun c0 => ?_) (fun c0 => ?_)
          · have h47 : hx n f0 q = 47 := by rcases hs with h | h <;> omega
            refine pc_ite (fun cz => fin 0 (fun _ _ _ => ?_)) (fun cz => ?_)
            · rw [h47, cz]; unfold opr
              rw [if_neg (by decide), if_neg (by decide), if_neg (by decide), if_neg (by decide), if_neg (by decide), if_neg (by decide), if_pos rfl]
            · refine pc_ite (fun e => absurd e cz) (fun _ => fin _ (fun _ _ _ => ?_))
              rw [h47]; unfold opr
              rw [if_neg (by decide), if_neg (by decide), if_neg (by decide), if_neg (by decide), if_neg (by decide), if_neg (by decide), if_neg cz]
          · have h42 : hx n f0 q = 42 := by rcases hs with h | h <;> omega
            refine fin _ (fun _ _ _ => ?_)
            rw [h42]; unfold opr
            rw [if_neg (by decide), if_neg (by decide), if_neg (by decide), if_neg (by decide), if_neg (by decide), if_pos rfl]
        refine pc_call (hx_pc hr q (-1)) (fun r5 u6 y => ?_)
        rw [y.1, y.2]
        have k31 : (hx n f0 q = 42 ∨ hx n f0 q = 47) → PC (f_R_product_31 rec (f_R_product_6 rec m) v a (xw x q (-1))) (fun r u => GO x env p (match r3 (q + 1) with
            | none => none
            | some (false, q2, _) => some (false, q2, [])
            | some (true, q2, c2) => plp (hx n f0) 42 47 r3 f q2 (-(hx n f0 q) :: (c2 ++ c))) r u) := by
          intro ho
          unfold f_R_product_31
          refine pc_call (hx_pc hr q (-1)) (fun r7 u8 z => ?_)
          rw [z.1, z.2]
          exact pc_ite (fun e => nx 1 (Or.inl ⟨e, rfl⟩)) (fun e => nx 0 (Or.inr ⟨ho.resolve_left e, rfl⟩))
        refine pc_ite (fun e => ?_) (fun e => ?_)
        · rw [if_pos (Or.inl e)]; exact k31 (Or.inl e)
        · refine pc_call (hx_pc hr q (-1)) (fun r12 u13 z => ?_)
          rw [z.1, z.2]
          refine pc_ite (fun e2 => ?_) (fun e2 => ?_)
          · rw [if_pos (Or.inr e2)]; exact k31 (Or.inr e2)
          · rw [if_neg (fun h => h.elim e e2)]
            exact pc_some ⟨rfl, hc, hq⟩
  unfold f_R_product_b pst
  refine pc_call (h3 p hp.1 hp.2) (fun r1 u2 y => ?_)
  cases ho : r3 p with
  | none => rw [ho] at y; exact y.elim
  | some o =>
    obtain ⟨ok, q, c⟩ := o
    rw [ho] at y
    cases ok with
    | false => obtain ⟨y1, y2⟩ := y; rw [y1]; exact lpf FU r1 q y2
    | true =>
      obtain ⟨y1, y2, y3⟩ := y
      rw [y1]
      exact lp FU 50 r1 q c y3 y2 (by omega)
/-- a sum -/
theorem smm_pc {n : Int} {f0 : Nat → Int} {x : Wd} {env : Int → Int} (hr : RRX n f0 x) {rec : Nat → Int → Wd → Option (Int × Wd)} {v : Int} {r3 : Int → Par} (h3 : ∀ p, 0 ≤ p → p ≤ 40 → PC (rec 2 v (xw x p (-1))) (fun r u => GO x env p (r3 p) r u)) {p : Int} (hp : 0 ≤ p ∧ p ≤ 40) : PC (f_R_sum_b rec v (xw x p (-1))) (fun r u => GO x env p (pst (hx n f0) 43 45 r3 p) r u) := by
  have lpf : ∀ (m : Nat) (a q : Int), (0 ≤ q ∧ q ≤ 40) → PC (f_R_sum_6 rec m v a (xw x q q)) (fun r u => GO x env p (some (false, q, [])) r u) := by
    intro m a q hq
    cases m with
    | zero => exact pc_none
    | succ m =>
      rw [f_R_sum_6, fine_e, jc_s, if_neg (xw_nf hq.1)]
      exact pc_ite (fun _ => pc_some (go_f hq)) (fun e => absurd rfl e)
  have lp : ∀ (m f : Nat) (a q : Int) (c : List Int), (p < q ∧ q ≤ 40) → VAL env c a → 40 < q + f → PC (f_R_sum_6 rec m v a (xw x q (-1))) (fun r u => GO x env p (plp (hx n f0) 43 45 r3 f q c) r u) := by
    intro m
    induction m with
    | zero => intros; exact pc_none
    | succ m ih =>
      intro f a q c hq hc hf
      cases f with
      | zero => exfalso; omega
      | succ f =>
        rw [f_R_sum_6, fine_e, jc_s, xw_f, if_pos rfl, plp]
        refine pc_ite (fun e => absurd e (by decide)) (fun _ => ?_)
        have nx : ∀ s0 : Int, (hx n f0 q = 43 ∧ s0 = 1) ∨ (hx n f0 q = 45 ∧ s0 = 0) → PC (f_R_sum_45 rec (f_R_sum_6 rec m) v a s0 (xw x q (-1))) (fun r u => GO x env p (match r3 (q + 1) with
            | none => none
            | some (false, q2, _) => some (false, q2, [])
            | some (true, q2, c2) => plp (hx n f0) 43 45 r3 f q2 (-(hx n f0 q) :: (c2 ++ c))) r u) := by
          intro s0 hs
          unfold f_R_sum_45
          have l0 := hx_lt (n := n) (f0 := f0) (p := q) (by omega)
          have w1 := w32_sp (q + 1)
          rw [xw_p]
          refine pc_lw (fun u9 e9 => ?_)
          rw [xw_sp, show w32 (q + 1) = q + 1 by omega] at e9
          rw [e9]
          refine pc_call (h3 (q + 1) (by omega) (by omega)) (fun r10 u11 y => ?_)
          have fin : ∀ z : Int, (∀ q2 c2, r3 (q + 1) = some (true, q2, c2) → z = opr (hx n f0 q) a r10) → PC (f_R_sum_78 rec (f_R_sum_6 rec m) v z u11) (fun r u => GO x env p (match r3 (q + 1) with
              | none => none
              | some (false, q2, _) => some (false, q2, [])
              | some (true, q2, c2) => plp (hx n f0) 43 45 r3 f q2 (-(hx n f0 q) :: (c2 ++ c))) r u) := by
            intro z hz
            unfold f_R_sum_78
            cases ho : r3 (q + 1) with
            | none => rw [ho] at y; exact y.elim
            | some o =>
              obtain ⟨ok, q2, c2⟩ := o
              rw [ho] at y
              cases ok with
              | false =>
                obtain ⟨y1, y2⟩ := y
                rw [y1]; exact lpf m z q2 y2
              | true =>
                obtain ⟨y1, y2, y3⟩ := y
                rw [y1, hz q2 c2 ho]
                exact ih f _ q2 _ (by omega) (val_op hc y2 (by rcases hs with h | h <;> omega)) (by omega)
          refine pc_ite (fun c0 => ?_) (fun c0 => ?_)
          · have h45 : hx n f0 q = 45 := by rcases hs with h | h <;> omega
            refine fin _ (fun _ _ _ => ?_)
            rw [h45]; unfold opr
            rw [if_neg (by decide), if_neg (by decide), if_neg (by decide), if_neg (by decide), if_pos rfl]
          · have h43 : hx n f0 q = 43 := by rcases hs with h | h <;> omega
            refine fin _ (fun _ _ _ => ?_)
            rw [h43]; unfold opr
            rw [if_neg (by decide), if_neg (by decide), if_neg (by decide), if_pos rfl]
        refine pc_call (hx_pc hr q (-1)) (fun r5 u6 y => ?_)
        rw [y.1, y.2]
        have k31 : (hx n f0 q = 43 ∨ hx n f0 q = 45) → PC (f_R_sum_31 rec (f_R_sum_6 rec m) v a (xw x q (-1))) (fun r u => GO x env p (match r3 (q + 1) with
            | none => none
            | some (false, q2, _) => some (false, q2, [])
            | some (true, q2, c2) => plp (hx n f0) 43 45 r3 f q2 (-(hx n f0 q) :: (c2 ++ c))) r u) := by
          intro ho
          unfold f_R_sum_31
          refine pc_call (hx_pc hr q (-1)) (fun r7 u8 z => ?_)
          rw [z.1, z.2]
          exact pc_ite (fun e => nx 1 (Or.inl ⟨e, rfl⟩)) (fun e => nx 0 (Or.inr ⟨ho.resolve_left e, rfl⟩))
        refine pc_ite (fun e => ?_) (fun e => ?_)
        · rw [if_pos (Or.inl e)]; exact k31 (Or.inl e)
        · refine pc_call (hx_pc hr q (-1)) (fun r12 u13 z => ?_)
          rw [z.1, z.2]
          refine pc_ite (fun e2 => ?_) (fun e2 => ?_)
          · rw [if_pos (Or.inr e2)]; exact k31 (Or.inr e2)
          · rw [if_neg (fun h => h.elim e e2)]
            exact pc_some ⟨rfl, hc, hq⟩
  unfold f_R_sum_b pst
  refine pc_call (h3 p hp.1 hp.2) (fun r1 u2 y => ?_)
  cases ho : r3 p with
  | none => rw [ho] at y; exact y.elim
  | some o =>
    obtain ⟨ok, q, c⟩ := o
    rw [ho] at y
    cases ok with
    | false => obtain ⟨y1, y2⟩ := y; rw [y1]; exact lpf FU r1 q y2
    | true =>
      obtain ⟨y1, y2, y3⟩ := y
      rw [y1]
      exact lp FU 50 r1 q c y3 y2 (by omega)
theorem opr62 (a b : Int) : opr 62 a b = if b < a then 1 else 0 := by
  unfold opr
  rw [if_neg (show ¬ (62 : Int) = 60 by decide), if_pos (show (62 : Int) = 62 from rfl)]
theorem opr61 (a b : Int) : opr 61 a b = if a = b then 1 else 0 := by
  unfold opr
  rw [if_neg (show ¬ (61 : Int) = 60 by decide), if_neg (show ¬ (61 : Int) = 62 by decide), if_pos (show (61 : Int) = 61 from rfl)]
/-- a comparison -/
theorem hld_pc {n : Int} {f0 : Nat → Int} {x : Wd} {env : Int → Int} (hr : RRX n f0 x) {rec : Nat → Int → Wd → Option (Int × Wd)} {v : Int} {r1 : Int → Par} (h1 : ∀ p, 0 ≤ p → p ≤ 40 → PC (rec 1 v (xw x p (-1))) (fun r u => GO x env p (r1 p) r u)) {p : Int} (hp : 0 ≤ p ∧ p ≤ 40) : PC (f_R_held_b rec v (xw x p (-1))) (fun r u => GO x env p (phd (hx n f0) r1 p) r u) := by
  unfold f_R_held_b phd
  refine pc_call (h1 p hp.1 hp.2) (fun ra u2 y => ?_)
  cases ho : r1 p with
  | none => rw [ho] at y; exact y.elim
  | some o =>
    obtain ⟨ok, q, c⟩ := o
    rw [ho] at y
    cases ok with
    | false =>
      obtain ⟨y1, y2, y3⟩ := y
      rw [y1]
      have np : ∀ c, PC (f_R_passes c (xw x q q)) (fun r u => r = 0 ∧ u = xw x q q) := fun c => by
        refine pc_w (px_pc hr ⟨y2, y3⟩ (c := c)) (fun r u z => ?_)
        rcases z with ⟨z1, _⟩ | ⟨_, z2, z3⟩
        · exfalso; omega
        · exact ⟨z2, z3⟩
      refine pc_call (np 60) (fun r3 u4 z => ?_)
      refine pc_ite (fun _ => ?_) (fun e => absurd z.1 e)
      rw [z.2]
      refine pc_call (np 62) (fun r5 u6 z => ?_)
      refine pc_ite (fun _ => ?_) (fun e => absurd z.1 e)
      rw [z.2]
      refine pc_call (np 61) (fun r7 u8 z => ?_)
      refine pc_ite (fun _ => ?_) (fun e => absurd z.1 e)
      rw [z.2]
      exact pc_some (go_f ⟨y2, y3⟩)
    | true =>
      obtain ⟨y1, y2, y3, y4⟩ := y
      rw [y1]
      dsimp only
      -- behind the sign
      have nx : ∀ {g : Int → Wd → Option (Int × Wd)}, (hx n f0 q = 60 ∨ hx n f0 q = 62 ∨ hx n f0 q = 61) → (∀ r u, g r u = some (opr (hx n f0 q) ra r, u)) → PC (jcall (rec 1 v (xw x (q + 1) (-1))) g) (fun r u => GO x env p (match r1 (q + 1) with
          | none => none
          | some (false, q2, _) => some (false, q2, [])
          | some (true, q2, c2) => some (true, q2, -(hx n f0 q) :: (c2 ++ c))) r u) := by
        intro g hq hg
        have l0 := hx_lt (n := n) (f0 := f0) (p := q) (by omega)
        refine pc_call (h1 (q + 1) (by omega) (by omega)) (fun r9 u10 z => ?_)
        rw [hg]
        refine pc_some ?_
        cases ho2 : r1 (q + 1) with
        | none => rw [ho2] at z; exact z.elim
        | some o2 =>
          obtain ⟨ok2, q2, c2⟩ := o2
          rw [ho2] at z
          cases ok2 with
          | false => exact z
          | true =>
            obtain ⟨z1, z2, z3, z4⟩ := z
            exact ⟨z1, val_op y2 z2 (by omega), by omega, z4⟩
      refine pc_call (px_pc hr ⟨by omega, y4⟩ (c := 60)) (fun r3 u4 z => ?_)
      rcases z with ⟨_, z1, z2, z3⟩ | ⟨z1, z2, z3⟩
      · refine pc_ite (fun e => absurd (z2.symm.trans e) (by decide)) (fun _ => ?_)
        rw [z3, if_pos (Or.inl z1)]
        refine nx (Or.inl z1) (fun r u => ?_)
        rw [z1]
        unfold opr
        rw [if_pos rfl]
        by_cases c1 : r ≤ ra
        · rw [if_pos c1, if_neg (by omega)]
        · rw [if_neg c1, if_pos (by omega)]
      · refine pc_ite (fun _ => ?_) (fun e => absurd z2 e)
        have n60 : ¬ hx n f0 q = 60 := fun e => z1 ⟨rfl, e⟩
        rw [z3]
        refine pc_call (px_pc hr ⟨by omega, y4⟩ (c := 62)) (fun r5 u6 z => ?_)
        rcases z with ⟨_, z1, z2, z3⟩ | ⟨z1, z2, z3⟩
        · refine pc_ite (fun e => absurd (z2.symm.trans e) (by decide)) (fun _ => ?_)
          rw [z3, if_pos (Or.inr (Or.inl z1))]
          refine nx (Or.inr (Or.inl z1)) (fun r u => ?_)
          rw [z1]
          rw [opr62]
          by_cases c1 : ra ≤ r
          · rw [if_pos c1, if_neg (by omega)]
          · rw [if_neg c1, if_pos (by omega)]
        · refine pc_ite (fun _ => ?_) (fun e => absurd z2 e)
          have n62 : ¬ hx n f0 q = 62 := fun e => z1 ⟨rfl, e⟩
          rw [z3]
          refine pc_call (px_pc hr ⟨by omega, y4⟩ (c := 61)) (fun r7 u8 z => ?_)
          rcases z with ⟨_, z1, z2, z3⟩ | ⟨z1, z2, z3⟩
          · refine pc_ite (fun e => absurd (z2.symm.trans e) (by decide)) (fun _ => ?_)
            rw [z3, if_pos (Or.inr (Or.inr z1))]
            refine nx (Or.inr (Or.inr z1)) (fun r u => ?_)
            rw [z1]
            rw [opr61]
            by_cases c1 : ra = r
            · rw [if_pos c1, if_pos c1]
            · rw [if_neg c1, if_neg c1]
          · refine pc_ite (fun _ => ?_) (fun e => absurd z2 e)
            have n61 : ¬ hx n f0 q = 61 := fun e => z1 ⟨rfl, e⟩
            rw [z3, if_neg (fun h => h.elim n60 (fun h => h.elim n62 n61))]
            exact pc_some ⟨rfl, y2, y3, y4⟩
/-- all of it -/
theorem grp_pc {n : Int} {f0 : Nat → Int} {x : Wd} {env : Int → Int} (hr : RRX n f0 x) (hE : EL env x) : ∀ (d k : Nat) (v p : Int), k ≤ 3 → (0 ≤ v ∧ v ≤ 4) → 0 ≤ p → p ≤ 40 → PC (f_R_grp d k v (xw x p (-1))) (fun r u => GO x env p (pg (hx n f0) d k v p) r u) := by
  intro d
  induction d with
  | zero => intros; exact pc_none
  | succ d ih =>
    intro k v p hk hv h0 h40
    match k, hk with
    | 0, _ => exact hld_pc hr (rec := f_R_grp d) (r1 := pg (hx n f0) d 1 v) (fun p a b => ih 1 v p (by decide) hv a b) ⟨h0, h40⟩
    | 1, _ => exact smm_pc hr (rec := f_R_grp d) (r3 := pg (hx n f0) d 2 v) (fun p a b => ih 2 v p (by decide) hv a b) ⟨h0, h40⟩
    | 2, _ => exact prd_pc hr (rec := f_R_grp d) (r3 := pg (hx n f0) d 3 v) (fun p a b => ih 3 v p (by decide) hv a b) ⟨h0, h40⟩
    | 3, _ => exact thg_pc hr hE (rec := f_R_grp d) hv (rT := pg (hx n f0) d 3 v) (rH := pg (hx n f0) d 0 (v + 1)) (fun p a b => ih 3 v p (by decide) hv a b) (fun h4 p a b => ih 0 (v + 1) p (by decide) (by omega) a b) ⟨h0, h40⟩
