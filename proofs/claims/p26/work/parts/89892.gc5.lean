/-! WHAT IS PAID, WEEKS OF SOME: the class -/
theorem prc_pc {P x : Int} {f : Nat → Bool} {u : Wd} (hP : 0 ≤ P ∧ P ≤ 10) (h3 : u 5 3 = P) (hx : ∀ k, k < 10 → bt x k = f k) (h6 : ∀ j : Nat, (j : Int) < P → 0 ≤ u 6 j ∧ u 6 j ≤ 9) : PC (f_F_pricesOf x u) (fun r v => v = u ∧ r = cst (u 6) f P.toNat) := by
  have l4 : ∀ (n : Nat) {v2 v3 : Int}, 0 ≤ v3 → v3 ≤ P → v2 = cst (u 6) f v3.toNat → PC (f_F_pricesOf_4 n x v2 v3 u) (fun r v => v = u ∧ r = cst (u 6) f P.toNat) := by
    intro n
    induction n with
    | zero => intros; exact pc_none
    | succ n ih =>
      intro v2 v3 i3 i3' e2
      rw [f_F_pricesOf_4, h3]
      refine pc_ite (fun c => pc_some ⟨rfl, by rw [e2, show v3 = P by omega]⟩) (fun c => ?_)
      have hr := cst_rg (pr := u 6) (f := f) (n := v3.toNat) (fun k hk => h6 k (by omega))
      have hp := h6 v3.toNat (by omega)
      have nx : ∀ z : Int, (0 ≤ z ∧ z ≤ 9) → v2 + z = cst (u 6) f (v3.toNat + 1) → PC (f_F_pricesOf_31 (f_F_pricesOf_4 n) x v3 v2 z u) (fun r v => v = u ∧ r = cst (u 6) f P.toNat) := fun z hz ez => by
        unfold f_F_pricesOf_31
        refine pc_let (fun x3 e3 => pc_let (fun x4 e4 => ?_))
        rw [w32_id (by omega)] at e3
        rw [w32_id (by omega)] at e4
        rw [e3, e4]
        exact ih (by omega) (by omega) (by rw [ez, show (v3 + 1).toNat = v3.toNat + 1 by omega])
      rw [hasE_e u (by omega), jc_s, hx v3.toNat (by omega)]
      cases hf : f v3.toNat with
      | false =>
        refine pc_ite (fun _ => nx 0 (by decide) ?_) (fun e => absurd rfl e)
        rw [cst, hf, e2]; rfl
      | true =>
        refine pc_ite (fun e => absurd e (by decide)) (fun _ => pc_gd (fun _ => nx _ hp ?_))
        rw [cst, hf, e2]; rfl
  unfold f_F_pricesOf
  exact l4 FU (by decide) hP.1 rfl
theorem cpf_pc {P g se : Int} {h kn : Nat → Int} {x0 : Int} {pr : Nat → Int} {u : Wd} (hP : 0 ≤ P ∧ P ≤ 10) (h0 : WH x0 (sof x0) P) (hc : CLI P g se h kn x0 u) (h3 : u 5 3 = P) (h4 : u 5 4 = x0) (h6 : ∀ j : Nat, (j : Int) < P → u 6 j = pr j ∧ 0 ≤ pr j ∧ pr j ≤ 9) {k : Int} (hk : 0 ≤ k ∧ k < u 28 7) : PC (f_S_paidFor k u) (fun r v => v = u ∧ r = csf P pr x0 (u 30 k.toNat)) := by
  unfold f_S_paidFor
  rw [if_neg (by omega), if_neg (by omega)]
  refine pc_call (es_e (P := P) (s := sof x0) (by rw [h4]; exact h0) hP h3) (fun r1 u2 q => ?_)
  rw [q.1]
  refine pc_gd (fun _ => ?_)
  have hx := (hc.2.2.1 k.toNat (by omega)).1
  unfold f_O_known
  rw [jc_s]
  have hb := b10_and q.2 (wh_kn hx).2
  refine pc_call (prc_pc hP h3 hb.2 (fun j hj => by rw [(h6 j hj).1]; exact (h6 j hj).2)) (fun r5 u6 z => pc_some ⟨z.1, ?_⟩)
  rw [z.2]
  unfold csf
  refine cst_eq (fun j hj => ⟨(h6 j (by omega)).1, ?_⟩)
  unfold sr
  rw [show inP P j = true from decide_eq_true (by omega)]
  cases (sof x0 j == 0) <;> cases (sof (u 30 k.toNat) j == 0) <;> rfl
/-- some are all GUESTS, somebody is one -/
def SUB (P : Int) (F : Nat → Bool) (x : Int) : Prop := sbg P x ∧ ∀ q, q < 10 → F q = true → gs P (sof x) q = true
theorem sub_0 {P v r x : Int} {F : Nat → Bool} (hb : B10 r (gs P (sof x))) (hv : B10 v F) : iand v (ixor r (-1)) = 0 ↔ ∀ q, q < 10 → F q = true → gs P (sof x) q = true := by
  have h := b10_andn hv hb.2
  constructor
  · intro e q hq hF
    have := h.2 q hq
    rw [e, bt_0] at this
    have t2 : false = (F q && !gs P (sof x) q) := this
    rw [hF] at t2
    cases hg : gs P (sof x) q with
    | true => rfl
    | false => rw [hg] at t2; cases t2
  · intro hA
    refine b10_eq h b10_0 (fun q hq => ?_)
    cases hF : F q with
    | false => rfl
    | true => rw [hA q hq hF]; rfl
theorem clp_pc {P g se : Int} {h kn : Nat → Int} {x0 : Int} {pr : Nat → Int} {u : Wd} {some' t : Int} {F : Nat → Bool} (hP : 0 ≤ P ∧ P ≤ 10) (h0 : WH x0 (sof x0) P) (hc : CLI P g se h kn x0 u) (h3 : u 5 3 = P) (h4 : u 5 4 = x0) (h6 : ∀ j : Nat, (j : Int) < P → u 6 j = pr j ∧ 0 ≤ pr j ∧ pr j ≤ 9) (hpr : ∀ k, 0 ≤ pr k ∧ pr k ≤ 9) (ht : 0 ≤ t ∧ t ≤ 60) (hF : B10 some' F) : PC (f_S_leastPaid some' t u) (fun r v => v = u ∧ MinQ (fun x => VLS P g se h kn x0 x ∧ RCX P g se h kn x0 t.toNat x ∧ SUB P F x) (csf P pr x0) (-1) r) := by
  have l6 : ∀ (n : Nat) {v4 v5 : Int}, 0 ≤ v5 → v5 ≤ u 28 7 → MinI (u 30) v5 (fun x => RCX P g se h kn x0 t.toNat x ∧ SUB P F x) (csf P pr x0) (-1) v4 → PC (f_S_leastPaid_6 n some' t v4 v5 u) (fun r v => v = u ∧ MinQ (fun x => VLS P g se h kn x0 x ∧ RCX P g se h kn x0 t.toNat x ∧ SUB P F x) (csf P pr x0) (-1) r) := by
    intro n
    induction n with
    | zero => intros; exact pc_none
    | succ n ih =>
      intro v4 v5 i5 i5' hM
      rw [f_S_leastPaid_6]
      have h3000 := hc.1
      unfold f_S_leastPaid_61
      refine pc_ite (fun c => pc_some ⟨rfl, ?_⟩) (fun c => ?_)
      · rw [show v5 = u 28 7 by omega] at hM
        exact mini_q hM hc.2.2.1 hc.2.2.2.1
      · refine pc_call (cbe_pc hc rfl rfl ⟨i5, by omega⟩ ht) (fun r1 u2 q => ?_)
        rw [q.1]
        rcases q.2 with ⟨e, hR⟩ | ⟨e, hR⟩
        · refine pc_ite (fun c => by omega) (fun _ => ?_)
          refine pc_call (cg_pc hc rfl rfl ⟨i5, by omega⟩) (fun r4 u5 z => ?_)
          rw [z.1]
          have sb := sbg_0 z.2
          refine pc_ite (fun cz => pc_let (fun x9 e9 => ?_)) (fun cz => ?_)
          · rw [w32_id (by omega)] at e9
            rw [e9]
            exact ih (by omega) (by omega) (mini_n hM i5 (fun hh => absurd cz (sb.mpr hh.2.1)))
          · refine pc_call (cg_pc hc rfl rfl ⟨i5, by omega⟩) (fun r6 u7 z2 => ?_)
            rw [z2.1]
            have s0 := sub_0 z2.2 hF
            refine pc_ite (fun c2 => ?_) (fun c2 => pc_let (fun x9 e9 => ?_))
            · refine pc_call (cpf_pc hP h0 hc h3 h4 h6 ⟨i5, by omega⟩) (fun r8 u9 z3 => ?_)
              rw [z3.1, z3.2, lss_e, jc_s]
              refine pc_let (fun x9 e9 => ?_)
              rw [w32_id (by omega)] at e9
              rw [e9]
              refine ih (by omega) (by omega) (mini_y hM i5 ⟨hR, sb.mp cz, s0.mp c2⟩ (fun k _ _ => by have := csf_rg (P := P) (pr := pr) hP hpr x0 (u 30 k); omega) ⟨fun e2 => by rw [if_pos e2], fun e2 => by rw [if_neg e2]⟩)
            · rw [w32_id (by omega)] at e9
              rw [e9]
              exact ih (by omega) (by omega) (mini_n hM i5 (fun hh => c2 (s0.mpr hh.2.2)))
        · refine pc_ite (fun _ => pc_let (fun x9 e9 => ?_)) (fun c => absurd e c)
          rw [w32_id (by omega)] at e9
          rw [e9]
          exact ih (by omega) (by omega) (mini_n hM i5 (fun hh => hR hh.1))
  unfold f_S_leastPaid
  exact l6 FU (by decide) hc.1.1 mini_0
/-- in which WEEKS some are all GUESTS, and some others all STRANGERS still -/
def WKT (P g se : Int) (h kn : Nat → Int) (x0 : Int) (F H : Nat → Bool) (t : Nat) : Prop := ∃ x, RCX P g se h kn x0 t x ∧ SUB P F x ∧ ∀ q, q < 10 → H q = true → kno P (sof x) q = false
theorem kno_0 {P v r x : Int} {H : Nat → Bool} (hb : B10 r (fun k => inP P k && !(sof x k == 0))) (hv : B10 v H) : iand r v = 0 ↔ ∀ q, q < 10 → H q = true → kno P (sof x) q = false := by
  have h := b10_and hb hv.2
  constructor
  · intro e q hq hH
    have := h.2 q hq
    rw [e, bt_0] at this
    have t2 : false = ((inP P q && !(sof x q == 0)) && H q) := this
    rw [hH, Bool.and_true] at t2
    exact t2.symm
  · intro hA
    refine b10_eq h b10_0 (fun q hq => ?_)
    cases hH : H q with
    | false => simp
    | true =>
      have := hA q hq hH
      unfold kno at this
      rw [this]; rfl
theorem cww_pc {P g se : Int} {h kn : Nat → Int} {x0 : Int} {u : Wd} {v1 v2 : Int} {F H : Nat → Bool} (hc : CLI P g se h kn x0 u) (hP : 0 ≤ P ∧ P ≤ 10) (h0 : WH x0 (sof x0) P) (hF : B10 v1 F) (hH : B10 v2 H) : PC (f_S_weeksWith v1 v2 u) (fun r v => v = u ∧ ∀ t, t < 61 → (b6 r t = true ↔ WKT P g se h kn x0 F H t)) := by
  have l5 : ∀ (n : Nat) {v3 v5 : Int}, 0 ≤ v5 → v5 ≤ u 28 7 → (∀ t, t < 61 → (b6 v3 t = true ↔ ∃ k : Nat, (k : Int) < v5 ∧ RCX P g se h kn x0 t (u 30 k) ∧ SUB P F (u 30 k) ∧ ∀ q, q < 10 → H q = true → kno P (sof (u 30 k)) q = false)) → PC (f_S_weeksWith_5 n v1 v2 v3 v5 u) (fun r v => v = u ∧ ∀ t, t < 61 → (b6 r t = true ↔ WKT P g se h kn x0 F H t)) := by
    intro n
    induction n with
    | zero => intros; exact pc_none
    | succ n ih =>
      intro v3 v5 i5 i5' hM
      rw [f_S_weeksWith_5]
      have h3000 := hc.1
      unfold f_S_weeksWith_61
      have skip : ¬ (SUB P F (u 30 v5.toNat) ∧ ∀ q, q < 10 → H q = true → kno P (sof (u 30 v5.toNat)) q = false) → ∀ t, t < 61 → (b6 v3 t = true ↔ ∃ k : Nat, (k : Int) < v5 + 1 ∧ RCX P g se h kn x0 t (u 30 k) ∧ SUB P F (u 30 k) ∧ ∀ q, q < 10 → H q = true → kno P (sof (u 30 k)) q = false) := fun hn t ht => by
        rw [hM t ht]
        constructor
        · rintro ⟨k, hk, a⟩; exact ⟨k, by omega, a⟩
        · rintro ⟨k, hk, a, b⟩
          by_cases c : (k : Int) < v5
          · exact ⟨k, c, a, b⟩
          · rw [show k = v5.toNat by omega] at b; exact absurd b hn
      refine pc_ite (fun c => pc_some ⟨rfl, fun t ht => ?_⟩) (fun c => ?_)
      · rw [hM t ht]
        constructor
        · rintro ⟨k, hk, a, b⟩; exact ⟨u 30 k, a, b⟩
        · rintro ⟨x, a, b⟩
          obtain ⟨k, hk, e⟩ := hc.2.2.2.1 x ⟨rx_wh hP h0 a, t, a⟩
          exact ⟨k, by omega, by rw [e]; exact a, by rw [e]; exact b⟩
      · refine pc_call (cg_pc hc rfl rfl ⟨i5, by omega⟩) (fun r1 u2 z => ?_)
        rw [z.1]
        have sb := sbg_0 z.2
        refine pc_ite (fun cz => pc_let (fun x9 e9 => ?_)) (fun cz => ?_)
        · rw [w32_id (by omega)] at e9
          rw [e9]
          exact ih (by omega) (by omega) (skip (fun hh => absurd cz (sb.mpr hh.1.1)))
        · refine pc_call (cg_pc hc rfl rfl ⟨i5, by omega⟩) (fun r4 u5 z2 => ?_)
          rw [z2.1]
          have s0 := sub_0 z2.2 hF
          refine pc_ite (fun c2 => pc_gd (fun _ => ?_)) (fun c2 => pc_let (fun x9 e9 => ?_))
          · have hx := (hc.2.2.1 v5.toNat (by omega)).1
            unfold f_O_known
            rw [jc_s]
            have k0 := kno_0 (wh_kn hx) hH
            refine pc_ite (fun c3 => pc_gd (fun _ => pc_let (fun x8 e8 => pc_let (fun x9 e9 => ?_)))) (fun c3 => pc_let (fun x9 e9 => ?_))
            · rw [w32_id (by omega)] at e9
              rw [e8, e9]
              refine ih (by omega) (by omega) (fun t ht => ?_)
              rw [b6_or, Bool.or_eq_true, hM t ht, hc.2.2.2.2 v5.toNat (by omega) t ht]
              constructor
              · rintro (⟨k, hk, a⟩ | a)
                · exact ⟨k, by omega, a⟩
                · exact ⟨v5.toNat, by omega, a, ⟨sb.mp cz, s0.mp c2⟩, k0.mp c3⟩
              · rintro ⟨k, hk, a, b⟩
                by_cases ck : (k : Int) < v5
                · exact Or.inl ⟨k, ck, a, b⟩
                · rw [show k = v5.toNat by omega] at a; exact Or.inr a
            · rw [w32_id (by omega)] at e9
              rw [e9]
              exact ih (by omega) (by omega) (skip (fun hh => c3 (k0.mpr hh.2)))
          · rw [w32_id (by omega)] at e9
            rw [e9]
            exact ih (by omega) (by omega) (skip (fun hh => c2 (s0.mpr hh.1.2)))
  unfold f_S_weeksWith
  exact l5 FU (by decide) hc.1.1 (fun t _ => by rw [b6_0]; exact ⟨(fun e => by cases e), (fun e => by obtain ⟨k, hk, _⟩ := e; omega)⟩)
def LstQ (T : Nat → Prop) (r : Int) : Prop := (r = -1 ∧ ∀ t, t < 61 → ¬ T t) ∨ ((0 ≤ r ∧ r ≤ 60) ∧ T r.toNat ∧ ∀ t, t < 61 → T t → (t : Int) ≤ r)
def FstQ (T : Nat → Prop) (r : Int) : Prop := (r = -1 ∧ ∀ t, t < 61 → ¬ T t) ∨ ((0 ≤ r ∧ r ≤ 60) ∧ T r.toNat ∧ ∀ t, T t → r ≤ (t : Int))
theorem clw_pc {P g se : Int} {h kn : Nat → Int} {x0 : Int} {u : Wd} {v1 v2 : Int} {F H : Nat → Bool} (hc : CLI P g se h kn x0 u) (hP : 0 ≤ P ∧ P ≤ 10) (h0 : WH x0 (sof x0) P) (hF : B10 v1 F) (hH : B10 v2 H) : PC (f_S_lastWeek v1 v2 u) (fun r v => v = u ∧ LstQ (WKT P g se h kn x0 F H) r) := by
  unfold f_S_lastWeek
  refine pc_call (cww_pc hc hP h0 hF hH) (fun r1 u2 q => ?_)
  rw [q.1]
  have l11 : ∀ (n : Nat) {v5 : Int}, -1 ≤ v5 → v5 ≤ 60 → (∀ t : Nat, v5 < (t : Int) → t < 61 → ¬ WKT P g se h kn x0 F H t) → PC (f_S_lastWeek_11 n r1 v5 u) (fun r v => v = u ∧ LstQ (WKT P g se h kn x0 F H) r) := by
    intro n
    induction n with
    | zero => intros; exact pc_none
    | succ n ih =>
      intro v5 i5 i5' hn
      rw [f_S_lastWeek_11]
      refine pc_ite (fun c => pc_some ⟨rfl, Or.inl ⟨rfl, fun t ht => hn t (by omega) ht⟩⟩) (fun c => ?_)
      rw [b6_ask (by omega)]
      have hb := q.2 v5.toNat (by omega)
      cases e : b6 r1 v5.toNat with
      | true =>
        refine pc_ite (fun c => absurd c (by decide)) (fun _ => pc_some ⟨rfl, Or.inr ⟨by omega, hb.mp e, fun t ht hT => ?_⟩⟩)
        refine Classical.byContradiction fun hh => hn t (by omega) ht hT
      | false =>
        refine pc_ite (fun _ => pc_let (fun x3 e3 => ?_)) (fun c => absurd rfl c)
        rw [w32_id (by omega)] at e3
        rw [e3]
        refine ih (by omega) (by omega) (fun t ht h61 hT => ?_)
        by_cases ct : v5 < (t : Int)
        · exact hn t ct h61 hT
        · rw [show t = v5.toNat by omega] at hT
          rw [hb.mpr hT] at e; cases e
  exact l11 FU (by decide) (by decide) (fun t ht h61 => by omega)
theorem fwk1_pc {T : Nat → Prop} {r1 : Int} (u : Wd) (h : ∀ t, t < 61 → (b6 r1 t = true ↔ T t)) : PC (f_E_firstWeek r1 u) (fun r v => v = u ∧ FstQ T r) := by
  have l2 : ∀ (n : Nat) {v2 : Int}, 0 ≤ v2 → v2 ≤ 61 → (∀ t : Nat, (t : Int) < v2 → ¬ T t) → PC (f_E_firstWeek_2 n r1 v2 u) (fun r v => v = u ∧ FstQ T r) := by
    intro n
    induction n with
    | zero => intros; exact pc_none
    | succ n ih =>
      intro v2 i2 i2' hn
      rw [f_E_firstWeek_2]
      refine pc_ite (fun c => pc_some ⟨rfl, Or.inl ⟨rfl, fun t ht => hn t (by omega)⟩⟩) (fun c => ?_)
      rw [b6_ask (by omega)]
      have hb := h v2.toNat (by omega)
      cases e : b6 r1 v2.toNat with
      | true =>
        refine pc_ite (fun c => absurd c (by decide)) (fun _ => pc_some ⟨rfl, Or.inr ⟨by omega, hb.mp e, fun t hT => ?_⟩⟩)
        refine Classical.byContradiction fun hh => hn t (by omega) hT
      | false =>
        refine pc_ite (fun _ => pc_let (fun x1 e1 => ?_)) (fun c => absurd rfl c)
        rw [w32_id (by omega)] at e1
        rw [e1]
        refine ih (by omega) (by omega) (fun t ht hT => ?_)
        by_cases ct : (t : Int) < v2
        · exact hn t ct hT
        · rw [show t = v2.toNat by omega] at hT
          rw [hb.mpr hT] at e; cases e
  unfold f_E_firstWeek
  exact l2 FU (by decide) (by decide) (fun t ht => by omega)
/-! NOT FOR LONG: in 29 WEEKS nobody is a GUEST any more -/
def phi (P : Int) (s : Nat → Int) (L : Int) : Int := 3 * ((pn (sr P s) 10 : Nat) : Int) + 3 - L
/-- the least value of a GUEST -/
def LEA (P : Int) (s : Nat → Int) (L : Int) : Prop := (1 ≤ L ∧ L ≤ 3) ∧ ∀ k, k < 10 → gs P s k = true → L ≤ s k
theorem sx_phi {P g se : Int} {h kn : Nat → Int} {x y : Int} (hP : 0 ≤ P ∧ P ≤ 10) (hg : 1 ≤ g ∧ g ≤ 3) (hx : WH x (sof x) P) (hs : SUX P g se h kn x y) {L : Int} (hL : LEA P (sof x) L) (hy : sbg P y) : ∃ L', LEA P (sof y) L' ∧ phi P (sof y) L' + 1 ≤ phi P (sof x) L := by
  have hs' := hs
  obtain ⟨m, hm, hw⟩ := hs
  have ek : ∀ k : Nat, (k : Int) < P → sof y k = nis P (sof x) g (bt m) k := fun k hk => sof_e hw hP.2 hk
  have srm : ∀ k, k < 10 → sr P (sof y) k = true → sr P (sof x) k = true := fun k _ e => sr_step hP hs' e
  have gin : ∀ (s : Nat → Int) k, gs P s k = true → (k : Int) < P ∧ 1 ≤ s k ∧ s k < 4 := fun s k e => by
    unfold gs at e
    rw [Bool.and_eq_true] at e
    have := of_decide_eq_true e.2
    exact ⟨inP_t e.1, this⟩
  rcases mvs_some hP hm with e | ⟨⟨o, ho, hb, hf⟩, _⟩
  · -- nobody brings anybody: all GUESTS are later
    have key : ∀ k, k < 10 → gs P (sof y) k = true → L + 1 ≤ sof y k := fun k hk hgk => by
      obtain ⟨h1, h2, h3⟩ := gin _ k hgk
      have e2 := ek k h1
      rw [e] at e2
      unfold nis at e2
      rw [bt_0] at e2
      by_cases c : gst (sof x k) = true
      · rw [if_neg (by decide), if_pos c] at e2
        have gx : gs P (sof x) k = true := by unfold gs; rw [show inP P k = true from decide_eq_true h1, c]; rfl
        have := hL.2 k hk gx
        split at e2 <;> omega
      · rw [if_neg (by decide), if_neg c] at e2
        exact absurd (decide_eq_true (by omega)) c
    obtain ⟨k0, hk0, hgk0⟩ := hy
    have b := key k0 hk0 hgk0
    have b2 := gin _ k0 hgk0
    refine ⟨L + 1, ⟨by have := hL.1; omega, key⟩, ?_⟩
    have := pn_mono (f := sr P (sof y)) (g := sr P (sof x)) (n := 10) srm
    unfold phi; omega
  · have hfo := fre_sr hf
    have lt := pn_lt (f := sr P (sof y)) (g := sr P (sof x)) (n := 10) srm ⟨o, ho, by
      unfold sr
      rw [ek o hfo.1]
      unfold nis
      rw [hb]; simp, by unfold sr; rw [show inP P o = true from decide_eq_true hfo.1, hfo.2.1]; rfl⟩
    refine ⟨1, ⟨by decide, fun k hk hgk => (gin _ k hgk).2.1⟩, ?_⟩
    have := hL.1
    unfold phi; omega
theorem few_wk {P g se : Int} {h kn : Nat → Int} {x0 : Int} (hP : 0 ≤ P ∧ P ≤ 10) (hg : 1 ≤ g ∧ g ≤ 3) (h0 : WH x0 (sof x0) P) : ∀ {t : Nat} {x : Int}, RCX P g se h kn x0 t x → sbg P x → ∃ L, LEA P (sof x) L ∧ (t : Int) + phi P (sof x) L ≤ 29 := by
  intro t
  induction t with
  | zero =>
    intro x e hs
    have e' : x = x0 := e
    rw [e'] at hs ⊢
    obtain ⟨k, hk, hgk⟩ := hs
    refine ⟨1, ⟨by decide, fun k hk hgk => ?_⟩, ?_⟩
    · unfold gs at hgk
      rw [Bool.and_eq_true] at hgk
      have := of_decide_eq_true hgk.2
      omega
    · have := pn_lt (f := sr P (sof x0)) (g := fun _ => true) (n := 10) (fun _ _ _ => rfl) ⟨k, hk, by
        unfold gs at hgk
        rw [Bool.and_eq_true] at hgk
        have h2 := of_decide_eq_true hgk.2
        unfold sr
        rw [beq_eq_false_iff_ne.mpr (show ¬ sof x0 k = 0 by omega)]; simp, rfl⟩
      have := pn_le (fun _ : Nat => true) 10
      unfold phi
      omega
  | succ t ih =>
    rintro x ⟨y, hy, hs⟩ hsx
    have hwy := rx_wh hP h0 hy
    have sy : sbg P y := by
      refine Classical.byContradiction fun hn => ?_
      have h1 : ∀ k, k < 10 → gs P (sof y) k = false := fun k hk => by
        cases e : gs P (sof y) k with
        | false => rfl
        | true => exact absurd ⟨k, hk, e⟩ hn
      have := (sx_no (g := g) (se := se) (h := h) (kn := kn) hP hwy h1).mp hs
      rw [this] at hsx
      exact hn hsx
    obtain ⟨L, hL, hb⟩ := ih hy sy
    obtain ⟨L', hL', hb'⟩ := sx_phi hP hg hwy hs hL hsx
    exact ⟨L', hL', by omega⟩
theorem wk_29 {P g se : Int} {h kn : Nat → Int} {x0 : Int} (hP : 0 ≤ P ∧ P ≤ 10) (hg : 1 ≤ g ∧ g ≤ 3) (h0 : WH x0 (sof x0) P) {t : Nat} {x : Int} (hr : RCX P g se h kn x0 t x) (hs : sbg P x) : t ≤ 29 := by
  obtain ⟨L, hL, hb⟩ := few_wk hP hg h0 hr hs
  have := hL.1
  unfold phi at hb
  omega
