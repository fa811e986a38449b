/-! THE ORDER IN WHICH THE CLASS FINDS WEEKS: the first hit -/
def fdo (g : Nat → Option Int) : Nat → Option Int
  | 0 => none
  | n + 1 => match fdo g n with
    | some x => some x
    | none => g n
theorem fdo_none {g : Nat → Option Int} : ∀ {n : Nat}, (∀ k, k < n → g k = none) → fdo g n = none := by
  intro n
  induction n with
  | zero => intro _; rfl
  | succ n ih =>
    intro h
    rw [fdo, ih (fun k hk => h k (by omega))]
    exact h n (by omega)
theorem fdo_hit {g : Nat → Option Int} {n : Nat} {x : Int} (h : ∀ k, k < n → g k = none) (hx : g n = some x) : ∀ {N : Nat}, n < N → fdo g N = some x := by
  intro N
  induction N with
  | zero => intro hn; omega
  | succ N ih =>
    intro hn
    by_cases c : n = N
    · rw [fdo, ← c, fdo_none h]; exact hx
    · rw [fdo, ih (by omega)]
theorem fdo_of {g : Nat → Option Int} : ∀ {n : Nat}, fdo g n = none → ∀ k, k < n → g k = none := by
  intro n
  induction n with
  | zero => intro _ k hk; omega
  | succ n ih =>
    intro h k hk
    rw [fdo] at h
    cases e : fdo g n with
    | some x => rw [e] at h; cases h
    | none =>
      rw [e] at h
      by_cases c : k = n
      · rw [c]; exact h
      · exact ih e k (by omega)
/-- whom i may bring next -/
def cnd1 (se : Int) (kn : Nat → Int) (br fr sy : Nat → Bool) (m : Int) (i o : Nat) : Bool := br i && fr o && bt (kn i) o && !bt m o && decide (((pn (fun k => sy k || bt (sq m i o) k) 10 : Nat) : Int) ≤ se)
def fdf (P se : Int) (kn : Nat → Int) (br fr sy : Nat → Bool) (hit : Int → Bool) : Nat → Int → Int → Option Int
  | 0, _, _ => none
  | n + 1, f, m => if hit m = true then some m else fdo (fun i => if f ≤ (i : Int) then fdo (fun o => if cnd1 se kn br fr sy m i o = true then fdf P se kn br fr sy hit n ((i : Int) + 1) (sq m i o) else none) 10 else none) P.toNat
def fgo (P se : Int) (kn : Nat → Int) (br fr sy : Nat → Bool) (hit : Int → Bool) (n : Nat) (m : Int) (i o : Nat) : Option Int := if cnd1 se kn br fr sy m i o = true then fdf P se kn br fr sy hit n ((i : Int) + 1) (sq m i o) else none
def fgi (P se : Int) (kn : Nat → Int) (br fr sy : Nat → Bool) (hit : Int → Bool) (n : Nat) (f m : Int) (i : Nat) : Option Int := if f ≤ (i : Int) then fdo (fgo P se kn br fr sy hit n m i) 10 else none
theorem fdf_s (P se : Int) (kn : Nat → Int) (br fr sy : Nat → Bool) (hit : Int → Bool) (n : Nat) (f m : Int) : fdf P se kn br fr sy hit (n + 1) f m = if hit m = true then some m else fdo (fgi P se kn br fr sy hit n f m) P.toNat := rfl
theorem cnd1_t {se : Int} {kn : Nat → Int} {br fr sy : Nat → Bool} {m : Int} {i o : Nat} : cnd1 se kn br fr sy m i o = true ↔ br i = true ∧ fr o = true ∧ bt (kn i) o = true ∧ bt m o = false ∧ ((pn (fun k => sy k || bt (sq m i o) k) 10 : Nat) : Int) ≤ se := by
  unfold cnd1
  rw [Bool.and_eq_true, Bool.and_eq_true, Bool.and_eq_true, Bool.and_eq_true, decide_eq_true_iff, Bool.not_eq_true']
  constructor
  · rintro ⟨⟨⟨⟨a, b⟩, c⟩, d⟩, e⟩; exact ⟨a, b, c, d, e⟩
  · rintro ⟨a, b, c, d, e⟩; exact ⟨⟨⟨⟨a, b⟩, c⟩, d⟩, e⟩
def NH (hit : Int → Bool) (u : Wd) : Prop := ∀ k : Nat, (k : Int) < u 24 3 → hit (u 25 k) = false
def FHx (hit : Int → Bool) (u : Wd) (x : Int) : Prop := hit x = true ∧ ∃ k : Nat, (k : Int) < u 24 3 ∧ u 25 k = x ∧ ∀ j, j < k → hit (u 25 j) = false
def STx (hit : Int → Bool) (u : Wd) (r : Option Int) : Prop := (r = none ∧ NH hit u) ∨ ∃ x, r = some x ∧ FHx hit u x
theorem fh_ext {hit : Int → Bool} {w u : Wd} {x : Int} (h : FHx hit w x) (e : w 24 3 ≤ u 24 3 ∧ ∀ k : Nat, (k : Int) < w 24 3 → u 25 k = w 25 k) : FHx hit u x := by
  obtain ⟨h1, k, hk, h2, h3⟩ := h
  exact ⟨h1, k, by omega, by rw [e.2 k hk]; exact h2, fun j hj => by rw [e.2 j (by omega)]; exact h3 j hj⟩
/-- all that has as many and is found has its children found -/
def CIx (P se rd : Int) (kn : Nat → Int) (br fr sy : Nat → Bool) (u : Wd) (m : Int) : Prop := ∀ x, vis rd u x → pn (bt m) 10 ≤ pn (bt x) 10 → CLO P se rd kn br fr sy u x
theorem fdf_cl {P se rd : Int} {kn : Nat → Int} {br fr sy : Nat → Bool} {hit : Int → Bool} {w : Wd} (hP : 0 ≤ P ∧ P ≤ 10) (hd : ∀ k, k < 10 → br k = true → fr k = false) (hL : LSx rd (MOV P se kn br fr sy) w) (hN : NH hit w) : ∀ (n : Nat) {d : Nat} {f m : Int}, DRC P se kn br fr sy d f m → vis rd w m → CIx P se rd kn br fr sy w m → fdf P se kn br fr sy hit n f m = none := by
  intro n
  induction n with
  | zero => intros; rfl
  | succ n ih =>
    intro d f m hm hv hC
    obtain ⟨k, hk, ek⟩ := hL.2.2.2.1 m hv
    have hh : hit m = false := by rw [← ek]; exact hN k hk
    rw [fdf_s, if_neg (by rw [hh]; decide)]
    refine fdo_none (fun i hi => ?_)
    unfold fgi
    by_cases c : f ≤ (i : Int)
    · rw [if_pos c]
      refine fdo_none (fun o ho => ?_)
      unfold fgo
      by_cases c2 : cnd1 se kn br fr sy m i o = true
      · rw [if_pos c2]
        obtain ⟨a, b, c3, d3, e⟩ := cnd1_t.mp c2
        have hc : CHD P se kn br fr sy f m ((i : Int) + 1) (sq m i o) := ⟨i, o, c, by omega, ho, a, b, c3, d3, rfl, e, rfl⟩
        have hD : DRC P se kn br fr sy (d + 1) ((i : Int) + 1) (sq m i o) := ⟨f, m, hm, hc⟩
        have p1 := (drc_pn hP hd hm).1
        have p2 := (drc_pn hP hd hD).1
        exact ih hD (hC m hv (Nat.le_refl _) d f _ _ hm hc) (fun x hx hp => hC x hx (by omega))
      · rw [if_neg c2]
    · rw [if_neg c]
def WSx (P se : Int) (kn : Nat → Int) (br fr sy : Nat → Bool) (hit : Int → Bool) (R : Option Int) (n : Nat) (f m : Int) (u : Wd) (v5 : Int) (oo : Nat → Bool) : Prop := (NH hit u ∧ (∀ i : Nat, (i : Int) < v5 → fgi P se kn br fr sy hit n f m i = none) ∧ (∀ o, o < 10 → oo o = false → fgo P se kn br fr sy hit n m v5.toNat o = none) ∧ R = fdo (fgi P se kn br fr sy hit n f m) P.toNat) ∨ ∃ x, FHx hit u x ∧ R = some x
theorem so135 {P se rd : Int} {kn : Nat → Int} {br fr sy : Nat → Bool} {hit : Int → Bool} {R : Option Int} {N : Nat} (hP : 0 ≤ P ∧ P ≤ 10) (hd : ∀ k, k < 10 → br k = true → fr k = false) {rec : Int → Int → Int → Wd → Option (Int × Wd)} {k83 : Int → Int → Int → Wd → Option (Int × Wd)} {w0 : Wd} {d : Nat} {f m v4 v5 : Int} {Q : Int → Wd → Prop} (hm : DRC P se kn br fr sy d f m) (h5 : f ≤ v5 ∧ v5 < P) (hf : 0 ≤ f) (hN : P - v5 ≤ (N : Int)) (hci : CIx P se rd kn br fr sy w0 m)
    (hrec : ∀ {d' : Nat} {f' m' b : Int} {u : Wd}, MCx P se rd kn br fr sy u → LSx rd (MOV P se kn br fr sy) u → DRC P se kn br fr sy d' f' m' → (0 ≤ b ∧ b < u 24 3 ∧ pn (bt m') 10 = pn (bt (u 25 b.toNat)) 10 + 2) → CIx P se rd kn br fr sy u m' → P - f' < (N : Int) → PC (rec f' m' b u) (fun _ v => DN P se rd kn br fr sy u v m' ∧ (NH hit u → STx hit v (fdf P se kn br fr sy hit N f' m'))))
    (hk : ∀ u, MCx P se rd kn br fr sy u → DL P se rd kn br fr sy w0 u m → (0 ≤ v4 ∧ v4 < u 24 3 ∧ u 25 v4.toNat = m) → WSx P se kn br fr sy hit R N f m u (v5 + 1) (fun _ => true) → PC (k83 m v4 (v5 + 1) u) Q) :
    ∀ (n : Nat) {v6 v7 : Int} {u : Wd} {oo : Nat → Bool}, 0 ≤ v7 → v7 + ((pn oo 10 : Nat) : Int) ≤ 10 → B10 v6 oo → (∀ o, o < 10 → oo o = true → br v5.toNat = true ∧ fr o = true ∧ bt (kn v5.toNat) o = true ∧ bt m o = false) → MCx P se rd kn br fr sy u → DL P se rd kn br fr sy w0 u m → (0 ≤ v4 ∧ v4 < u 24 3 ∧ u 25 v4.toNat = m) → WSx P se kn br fr sy hit R N f m u v5 oo → PC (f_M_spread_135 rec k83 n m v4 v5 v6 v7 u) Q := by
  intro n
  induction n with
  | zero => intros; exact pc_none
  | succ n ih =>
    intro v6 v7 u oo i7 i8 hB ho hM hL h4 hC
    rw [f_M_spread_135]
    have e5 : v5 = ((v5.toNat : Nat) : Int) := by omega
    have fin : (∀ o, o < 10 → oo o = false) → PC (f_M_spread_206 rec k83 m v4 v5 u) Q := fun hz => by
      unfold f_M_spread_206
      refine pc_let (fun x e => ?_)
      rw [w32_id (by omega)] at e
      rw [e]
      refine hk u hM hL h4 ?_
      rcases hC with ⟨c1, c2, c3, c4⟩ | hx
      · refine Or.inl ⟨c1, fun i hi => ?_, (fun o _ h => by cases h), c4⟩
        by_cases c : (i : Int) < v5
        · exact c2 i c
        · rw [show i = v5.toNat by omega]
          unfold fgi
          rw [if_pos (by omega)]
          exact fdo_none (fun o h10 => c3 o h10 (hz o h10))
      · exact Or.inr hx
    refine pc_ite (fun c => fin (fun o h10 => ?_)) (fun c => ?_)
    · cases hb : oo o with
      | false => rfl
      | true => have := pn_pos (f := oo) h10 hb; omega
    refine pc_ite (fun c0 => fin (fun o h10 => ?_)) (fun c0 => ?_)
    · rw [← hB.2 o h10, c0, bt_0]
    obtain ⟨o, ho10, e1, e2, e3, e4⟩ := lw_sp hB.1 c0
    rw [e3]
    have hoo : oo o = true := by rw [← hB.2 o ho10]; exact e1
    have hlow : ∀ o', o' < o → oo o' = false := fun o' h => by rw [← hB.2 o' (by omega)]; exact e2 o' h
    obtain ⟨b1, b2, b3, b4⟩ := ho o ho10 hoo
    have hmr := (drc_rg hP hm).1
    refine pc_let (fun x9 e9 => pc_let (fun x10 e10 => ?_))
    have e9' : x9 = sq m v5.toNat o := by rw [e9]; unfold sq; rw [← e5]
    have r9 : 0 ≤ x9 ∧ x9 ≤ 1023 := by rw [e9']; exact sq_rg hmr (by omega) ho10
    rw [← e10] at e4
    rw [bcs_e (b10_or hM.2.2.2.2.1 (b10_self r9)) u, jc_s, hM.2.2.2.2.2.1]
    have hB' : B10 x10 (fun k => oo k && !decide (k = o)) := b10_w e4 (fun k hk => by rw [hB.2 k hk])
    have hpn : pn oo 10 = pn (fun k => oo k && !decide (k = o)) 10 + 1 := pn_up (f := fun k => oo k && !decide (k = o)) (f' := oo) (i := o) ho10 (fun k _ hn => by rw [decide_eq_false hn]; simp) (by simp) hoo
    have ho' : ∀ o', o' < 10 → (oo o' && !decide (o' = o)) = true → br v5.toNat = true ∧ fr o' = true ∧ bt (kn v5.toNat) o' = true ∧ bt m o' = false := fun o' h10 e => ho o' h10 (by rw [Bool.and_eq_true] at e; exact e.1)
    have f200 : ∀ v, MCx P se rd kn br fr sy v → DL P se rd kn br fr sy w0 v m → (0 ≤ v4 ∧ v4 < v 24 3 ∧ v 25 v4.toNat = m) → WSx P se kn br fr sy hit R N f m v v5 (fun k => oo k && !decide (k = o)) → PC (f_M_spread_200 rec k83 (f_M_spread_135 rec k83 n) m v4 v5 x10 v7 v) Q := fun v hMv hLv h4v hCv => by
      unfold f_M_spread_200
      refine pc_let (fun x e => ?_)
      rw [w32_id (by omega)] at e
      rw [e]
      exact ih (by omega) (by omega) hB' ho' hMv hLv h4v hCv
    -- what was not left, or o itself
    have oth : ∀ o', (oo o' && !decide (o' = o)) = false → o' ≠ o → oo o' = false := fun o' h hne => by
      rw [decide_eq_false hne] at h
      simpa using h
    refine pc_ite (fun hs => f200 u hM hL h4 ?_) (fun hs => ?_)
    · rcases hC with ⟨c1, c2, c3, c4⟩ | hx
      · refine Or.inl ⟨c1, c2, fun o' h10 h => ?_, c4⟩
        by_cases c9 : o' = o
        · rw [c9]
          unfold fgo
          rw [if_neg (fun hc => ?_)]
          have := (cnd1_t.mp hc).2.2.2.2
          rw [← e9'] at this
          omega
        · exact c3 o' h10 (oth o' h c9)
      · exact Or.inr hx
    · have hch : CHD P se kn br fr sy f m (v5 + 1) x9 := ⟨v5.toNat, o, by omega, by omega, ho10, b1, b2, b3, b4, e9', by omega, by omega⟩
      have hD : DRC P se kn br fr sy (d + 1) (v5 + 1) x9 := ⟨f, m, hm, hch⟩
      have hpm := (drc_pn hP hd hm).1
      have hpx := (drc_pn hP hd hD).1
      rw [w32_id (by omega)]
      have hciu : CIx P se rd kn br fr sy u x9 := fun x hx hp => by
        rcases hL.2.2.2.2.2 x hx with h1 | h1 | h1
        · exact fun d' f1 f' m' a1 a2 => hL.2.2.2.1 m' (hci x h1 (by omega) d' f1 f' m' a1 a2)
        · rw [h1] at hp; omega
        · exact h1
      refine pc_call (hrec hM hL.2.1 hD (b := v4) ⟨h4.1, h4.2.1, by rw [h4.2.2]; omega⟩ hciu (by omega)) (fun r14 v q0 => ?_)
      obtain ⟨q, qs⟩ := q0
      have hMv := mc_fm hM q.1
      have hLv := dl_dn hL q
      refine f200 v hMv hLv ⟨h4.1, by have := q.2.2.1.1; omega, by rw [q.2.2.1.2 v4.toNat (by omega)]; exact h4.2.2⟩ ?_
      rcases hC with ⟨c1, c2, c3, c4⟩ | ⟨x, hx1, hx2⟩
      · have hgo : fgo P se kn br fr sy hit N m v5.toNat o = fdf P se kn br fr sy hit N (v5 + 1) x9 := by
          unfold fgo
          rw [if_pos (cnd1_t.mpr ⟨b1, b2, b3, b4, by rw [← e9']; omega⟩), ← e9', ← e5]
        rcases qs c1 with ⟨a1, a2⟩ | ⟨x, a1, a2⟩
        · refine Or.inl ⟨a2, c2, fun o' h10 h => ?_, c4⟩
          by_cases c9 : o' = o
          · rw [c9, hgo]; exact a1
          · exact c3 o' h10 (oth o' h c9)
        · refine Or.inr ⟨x, a2, c4.trans (fdo_hit (n := v5.toNat) (fun k hk => c2 k (by omega)) ?_ (by omega))⟩
          unfold fgi
          rw [if_pos (by omega)]
          exact fdo_hit (n := o) (fun o' h => c3 o' (by omega) (hlow o' h)) (by rw [hgo]; exact a1) ho10
      · exact Or.inr ⟨x, fh_ext hx1 q.2.2.1, hx2⟩
theorem so83 {P se rd : Int} {kn : Nat → Int} {br fr sy : Nat → Bool} {hit : Int → Bool} {R : Option Int} {N : Nat} (hP : 0 ≤ P ∧ P ≤ 10) (hd : ∀ k, k < 10 → br k = true → fr k = false) (hkn : ∀ j : Nat, (j : Int) < P → 0 ≤ kn j ∧ kn j ≤ 1023) {rec : Int → Int → Int → Wd → Option (Int × Wd)} {w0 : Wd} {d : Nat} {f m v4 : Int} (hm : DRC P se kn br fr sy d f m) (hf : 0 ≤ f) (hN : P - f ≤ (N : Int)) (hci : CIx P se rd kn br fr sy w0 m)
    (hrec : ∀ {d' : Nat} {f' m' b : Int} {u : Wd}, MCx P se rd kn br fr sy u → LSx rd (MOV P se kn br fr sy) u → DRC P se kn br fr sy d' f' m' → (0 ≤ b ∧ b < u 24 3 ∧ pn (bt m') 10 = pn (bt (u 25 b.toNat)) 10 + 2) → CIx P se rd kn br fr sy u m' → P - f' < (N : Int) → PC (rec f' m' b u) (fun _ v => DN P se rd kn br fr sy u v m' ∧ (NH hit u → STx hit v (fdf P se kn br fr sy hit N f' m')))) :
    ∀ (n : Nat) {v5 : Int} {u : Wd}, f ≤ v5 → v5 ≤ P → MCx P se rd kn br fr sy u → DL P se rd kn br fr sy w0 u m → (0 ≤ v4 ∧ v4 < u 24 3 ∧ u 25 v4.toNat = m) → WSx P se kn br fr sy hit R N f m u v5 (fun _ => true) → PC (f_M_spread_83 rec n m v4 v5 u) (fun _ v => STx hit v R) := by
  intro n
  induction n with
  | zero => intros; exact pc_none
  | succ n ih =>
    intro v5 u i5 i6 hM hL h4 hC
    rw [f_M_spread_83]
    refine pc_gd (fun _ => ?_)
    have hmr := (drc_rg hP hm).1
    rw [hM.1]
    refine pc_ite (fun c => pc_some ?_) (fun c => ?_)
    · rcases hC with ⟨c1, c2, _, c4⟩ | ⟨x, hx1, hx2⟩
      · exact Or.inl ⟨c4.trans (fdo_none (fun i hi => c2 i (by omega))), c1⟩
      · exact Or.inr ⟨x, hx2, hx1⟩
    · have nx : ∀ (v6 : Int) (oo : Nat → Bool), B10 v6 oo → (∀ o, o < 10 → oo o = true → br v5.toNat = true ∧ fr o = true ∧ bt (kn v5.toNat) o = true ∧ bt m o = false) → (∀ o, o < 10 → oo o = false → cnd1 se kn br fr sy m v5.toNat o = false) → PC (f_M_spread_130 rec (f_M_spread_83 rec n) m v4 v5 v6 u) (fun _ v => STx hit v R) := fun v6 oo hB ho hz => by
        unfold f_M_spread_130
        have := pn_le oo 10
        refine so135 hP hd hm ⟨i5, by omega⟩ hf (by omega) hci hrec (fun v hMv hLv h4v hCv => ih (by omega) (by omega) hMv hLv h4v hCv) FU (by decide) (by omega) hB ho hM hL h4 ?_
        rcases hC with ⟨c1, c2, _, c4⟩ | hx
        · refine Or.inl ⟨c1, c2, fun o h10 h => ?_, c4⟩
          unfold fgo
          rw [hz o h10 h, if_neg (by decide)]
        · exact Or.inr hx
      rw [has_10 u hM.2.2.1 (by omega), jc_s]
      cases hb : br v5.toNat with
      | false =>
        refine pc_ite (fun _ => nx 0 (fun _ => false) b10_0 (fun o _ e => by cases e) (fun o _ _ => ?_)) (fun e => absurd rfl e)
        unfold cnd1
        rw [hb]; rfl
      | true =>
        refine pc_ite (fun e => absurd e (by decide)) (fun _ => ?_)
        refine pc_gd (fun _ => pc_gd (fun _ => ?_))
        have hj := hkn v5.toNat (by omega)
        rw [hM.2.1 v5.toNat (by omega)]
        have hB := b10_andn (b10_and (b10_self hj) hM.2.2.2.1.2) (b10_self hmr).2
        refine nx _ _ hB (fun o h10 e => ?_) (fun o h10 e => ?_)
        · rw [Bool.and_eq_true, Bool.and_eq_true, Bool.not_eq_true'] at e
          exact ⟨hb, e.1.2, e.1.1, e.2⟩
        · cases e2 : cnd1 se kn br fr sy m v5.toNat o with
          | false => rfl
          | true =>
            obtain ⟨_, a2, a3, a4, _⟩ := cnd1_t.mp e2
            have e' : (bt (kn v5.toNat) o && fr o && !bt m o) = false := e
            rw [a2, a3, a4] at e'
            cases e'
theorem spo_pc {P se rd : Int} {kn : Nat → Int} {br fr sy : Nat → Bool} {hit : Int → Bool} (hP : 0 ≤ P ∧ P ≤ 10) (hd : ∀ k, k < 10 → br k = true → fr k = false) (hkn : ∀ j : Nat, (j : Int) < P → 0 ≤ kn j ∧ kn j ≤ 1023) : ∀ (D : Nat) {d : Nat} {f m b : Int} {w : Wd} (N : Nat), MCx P se rd kn br fr sy w → LSx rd (MOV P se kn br fr sy) w → DRC P se kn br fr sy d f m → ((w 24 3 = 0 ∧ m = 0) ∨ (0 ≤ b ∧ b < w 24 3 ∧ pn (bt m) 10 = pn (bt (w 25 b.toNat)) 10 + 2)) → CIx P se rd kn br fr sy w m → P - f < (N : Int) → PC (f_M_spread D f m b w) (fun _ u => NH hit w → STx hit u (fdf P se kn br fr sy hit N f m)) := by
  intro D
  induction D with
  | zero => intros; exact pc_none
  | succ D ih =>
    intro d f m b w N hM hL hm hb hci hNN
    rw [f_M_spread]
    unfold f_M_spread_b
    obtain ⟨hmr, hf0, hfP⟩ := drc_rg hP hm
    have hw252 : w 24 3 ≤ 252 := by
      have := mov_few hP hd (n := (w 24 3).toNat) (F := w 25) (fun j hj => (hL.2.1 j (by omega)).2) (fun i j hi hj e => hL.2.2.1 i j (by omega) (by omega) e)
      omega
    have h0 := hL.1
    refine pc_ite (fun c => by omega) (fun _ => ?_)
    refine pc_ite (fun c => by omega) (fun _ => ?_)
    refine pc_ite (fun _ => ?_) (fun c => absurd (hiz hmr) c)
    refine pc_gd (fun _ => ?_)
    rw [hM.2.2.2.2.2.2]
    refine pc_ite (fun c => pc_some ?_) (fun c => ?_)
    · exact fun hN => Or.inl ⟨fdf_cl hP hd hL hN N hm ⟨hmr, c⟩ hci, hN⟩
    · refine pc_let (fun x1 e1 => pc_gd (fun _ => pc_lw (fun u2 e2 => pc_gd (fun _ => pc_lw (fun u3 e3 => pc_gd (fun _ => pc_lw (fun u4 e4 => pc_lw (fun u5 e5 => ?_))))))))
      have s4 : u4 24 3 = w 24 3 := by rw [e4, st_c (by decide), e3, st_c (by decide), e2, st_c (by decide)]
      have z5 : u5 24 3 = w 24 3 + 1 := by rw [e5, st_eq, s4, w32_id (by omega)]
      have z27 : ∀ k, u5 27 k = if k = m.toNat then rd else w 27 k := fun k => by
        rw [e5, st_c (by decide), e4, st_c (by decide), e3, st_c (by decide), e2]
        by_cases ck : k = m.toNat
        · rw [if_pos ck, ck, st_eq]
        · rw [if_neg ck, st_k ck]
      have z25 : ∀ k, u5 25 k = if k = (w 24 3).toNat then m else w 25 k := fun k => by
        rw [e5, st_c (by decide), e4, st_c (by decide), e3, e1]
        by_cases ck : k = (w 24 3).toNat
        · rw [if_pos ck, ck, st_eq]
        · rw [if_neg ck, st_k ck, e2, st_c (by decide)]
      have z26 : ∀ k, u5 26 k = if k = (w 24 3).toNat then b else w 26 k := fun k => by
        rw [e5, st_c (by decide), e4, e1]
        by_cases ck : k = (w 24 3).toNat
        · rw [if_pos ck, ck, st_eq]
        · rw [if_neg ck, st_k ck, e3, st_c (by decide), e2, st_c (by decide)]
      have f5 : FM w u5 := by
        refine ⟨fun c a1 a2 a3 a4 => ?_, fun k hk => ?_, fun k => ?_⟩
        · rw [e5, st_row a1, e4, st_row a3, e3, st_row a2, e2, st_row a4]
        · rw [e5, st_k hk, e4, st_c (by decide), e3, st_c (by decide), e2, st_c (by decide)]
        · rw [z27, hM.2.2.2.2.2.2]
          by_cases ck : k = m.toNat
          · rw [if_pos ck]; exact Or.inr rfl
          · rw [if_neg ck]; exact Or.inl rfl
      have vnew : vis rd u5 m := ⟨hmr, by rw [z27, if_pos rfl]⟩
      have vold : ∀ x, vis rd w x → vis rd u5 x := fun x hx => ⟨hx.1, by
        rw [z27]
        split
        · rfl
        · exact hx.2⟩
      have vback : ∀ x, vis rd u5 x → vis rd w x ∨ x = m := fun x hx => by
        by_cases ck : x.toNat = m.toNat
        · have := hx.1; exact Or.inr (by omega)
        · have h2 := hx.2
          rw [z27, if_neg ck] at h2
          exact Or.inl ⟨hx.1, h2⟩
      have nvm : ¬ vis rd w m := fun hv => c hv.2
      have z25o : ∀ k : Nat, (k : Int) < w 24 3 → u5 25 k = w 25 k := fun k hk => by rw [z25, if_neg (by omega)]
      have z25n : u5 25 (w 24 3).toNat = m := by rw [z25, if_pos rfl]
      have L5 : LSx rd (MOV P se kn br fr sy) u5 := by
        refine ⟨by omega, fun k hk => ?_, fun i j hi hj e => ?_, fun x hx => ?_, fun k hk => ?_⟩
        · by_cases ck : (k : Int) < w 24 3
          · rw [z25o k ck]
            exact ⟨vold _ (hL.2.1 k ck).1, (hL.2.1 k ck).2⟩
          · rw [show k = (w 24 3).toNat by omega, z25n]
            exact ⟨vnew, d, f, hm⟩
        · by_cases ci : (i : Int) < w 24 3
          · by_cases cj : (j : Int) < w 24 3
            · rw [z25o i ci, z25o j cj] at e
              exact hL.2.2.1 i j ci cj e
            · rw [z25o i ci, show j = (w 24 3).toNat by omega, z25n] at e
              have := (hL.2.1 i ci).1
              rw [e] at this
              exact absurd this nvm
          · by_cases cj : (j : Int) < w 24 3
            · rw [z25o j cj, show i = (w 24 3).toNat by omega, z25n] at e
              have := (hL.2.1 j cj).1
              rw [← e] at this
              exact absurd this nvm
            · omega
        · rcases vback x hx with h1 | h1
          · obtain ⟨k, hk, ek⟩ := hL.2.2.2.1 x h1
            exact ⟨k, by omega, by rw [z25o k hk]; exact ek⟩
          · exact ⟨(w 24 3).toNat, by omega, by rw [z25n, h1]⟩
        · by_cases ck : (k : Int) < w 24 3
          · rw [z25o k ck, z26, if_neg (by omega)]
            rcases hL.2.2.2.2 k ck with h1 | ⟨h1, h2, h3, h4⟩
            · exact Or.inl h1
            · refine Or.inr ⟨h1, h2, h3, ?_⟩
              rw [z25o (w 26 k).toNat (by omega)]
              exact h4
          · have ek : k = (w 24 3).toNat := by omega
            rw [ek, z25n, z26, if_pos rfl]
            rcases hb with ⟨h1, h2⟩ | ⟨h1, h2, h3⟩
            · exact Or.inl ⟨by omega, h2⟩
            · refine Or.inr ⟨by omega, h1, by omega, ?_⟩
              rw [z25o b.toNat (by omega)]
              exact h3
      have D5 : DL P se rd kn br fr sy w u5 m := ⟨f5, L5, ⟨by omega, z25o⟩, vold, vnew, fun x hx => (vback x hx).elim Or.inl (fun e => Or.inr (Or.inl e))⟩
      rw [e1]
      obtain ⟨N', hN'⟩ : ∃ N' : Nat, N = N' + 1 := ⟨N - 1, by omega⟩
      rw [hN', fdf_s]
      have hrec : ∀ {d' : Nat} {f' m' b : Int} {u : Wd}, MCx P se rd kn br fr sy u → LSx rd (MOV P se kn br fr sy) u → DRC P se kn br fr sy d' f' m' → (0 ≤ b ∧ b < u 24 3 ∧ pn (bt m') 10 = pn (bt (u 25 b.toNat)) 10 + 2) → CIx P se rd kn br fr sy u m' → P - f' < (N' : Int) → PC (f_M_spread D f' m' b u) (fun _ v => DN P se rd kn br fr sy u v m' ∧ (NH hit u → STx hit v (fdf P se kn br fr sy hit N' f' m'))) := fun hM' hL' hD' hb' hc' hn' =>
        pc_and (spr_pc hP hd hkn D hM' hL' hD' (Or.inr hb')) (ih N' hM' hL' hD' (Or.inr hb') hc' hn')
      have main : NH hit w → PC (f_M_spread_83 (f_M_spread D) FU m (w 24 3) f u5) (fun _ v => STx hit v (if hit m = true then some m else fdo (fgi P se kn br fr sy hit N' f m) P.toNat)) := fun hN => by
        refine so83 hP hd hkn hm hf0 (by omega) hci hrec FU (Int.le_refl f) hfP (mc_fm hM f5) D5 ⟨h0, by omega, z25n⟩ ?_
        by_cases hh : hit m = true
        · rw [if_pos hh]
          refine Or.inr ⟨m, ⟨hh, (w 24 3).toNat, by omega, z25n, fun j hj => ?_⟩, rfl⟩
          rw [z25o j (by omega)]
          exact hN j (by omega)
        · rw [if_neg hh]
          refine Or.inl ⟨fun k hk => ?_, fun i hi => ?_, (fun o _ h => by cases h), rfl⟩
          · by_cases ck : (k : Int) < w 24 3
            · rw [z25o k ck]; exact hN k ck
            · rw [show k = (w 24 3).toNat by omega, z25n]
              cases e : hit m with
              | false => rfl
              | true => exact absurd e hh
          · unfold fgi
            rw [if_neg (by omega)]
      exact fun r u e hN => main hN r u e
