/-! ALL WEEKS THAT MAY BE, AS THE CLASS FINDS THEM -/
def FM (w u : Wd) : Prop := (∀ c, c ≠ 24 → c ≠ 25 → c ≠ 26 → c ≠ 27 → u c = w c) ∧ (∀ k, k ≠ 3 → u 24 k = w 24 k) ∧ ∀ k, u 27 k = w 27 k ∨ u 27 k = w 24 4
theorem fm_self (w : Wd) : FM w w := ⟨fun _ _ _ _ _ => rfl, fun _ _ => rfl, fun _ => Or.inl rfl⟩
theorem fm_tr {w u v : Wd} (h : FM w u) (h2 : FM u v) : FM w v := ⟨fun c a b d e => (h2.1 c a b d e).trans (h.1 c a b d e), fun k hk => (h2.2.1 k hk).trans (h.2.1 k hk), fun k => by
  have e4 := h.2.1 4 (by decide)
  rcases h2.2.2 k with e | e
  · rw [e]; exact h.2.2 k
  · exact Or.inr (e.trans e4)⟩
def MCx (P se rd : Int) (kn : Nat → Int) (br fr sy : Nat → Bool) (w : Wd) : Prop := w 5 3 = P ∧ (∀ j : Nat, (j : Int) < P → w 7 j = kn j) ∧ B10 (w 24 6) br ∧ B10 (w 24 7) fr ∧ B10 (w 24 8) sy ∧ w 24 9 = se ∧ w 24 4 = rd
theorem mc_fm {P se rd : Int} {kn : Nat → Int} {br fr sy : Nat → Bool} {w u : Wd} (h : MCx P se rd kn br fr sy w) (f : FM w u) : MCx P se rd kn br fr sy u := by
  unfold MCx
  rw [f.1 5 (by decide) (by decide) (by decide) (by decide), f.1 7 (by decide) (by decide) (by decide) (by decide), f.2.1 6 (by decide), f.2.1 7 (by decide), f.2.1 8 (by decide), f.2.1 9 (by decide), f.2.1 4 (by decide)]
  exact h
def vis (rd : Int) (w : Wd) (m : Int) : Prop := (0 ≤ m ∧ m ≤ 1023) ∧ w 27 m.toNat = rd
def LSx (rd : Int) (M : Int → Prop) (w : Wd) : Prop := 0 ≤ w 24 3 ∧ (∀ k : Nat, (k : Int) < w 24 3 → vis rd w (w 25 k) ∧ M (w 25 k)) ∧ (∀ i j : Nat, (i : Int) < w 24 3 → (j : Int) < w 24 3 → w 25 i = w 25 j → i = j) ∧ (∀ m, vis rd w m → ∃ k : Nat, (k : Int) < w 24 3 ∧ w 25 k = m) ∧ ∀ k : Nat, (k : Int) < w 24 3 → (k = 0 ∧ w 25 k = 0) ∨ (0 < k ∧ 0 ≤ w 26 k ∧ w 26 k < (k : Int) ∧ pn (bt (w 25 k)) 10 = pn (bt (w 25 (w 26 k).toNat)) 10 + 2)
def CLO (P se rd : Int) (kn : Nat → Int) (br fr sy : Nat → Bool) (u : Wd) (x : Int) : Prop := ∀ (d : Nat) (f f' m' : Int), DRC P se kn br fr sy d f x → CHD P se kn br fr sy f x f' m' → vis rd u m'
/-- from w on, all that is new but m has all its children -/
def DL (P se rd : Int) (kn : Nat → Int) (br fr sy : Nat → Bool) (w u : Wd) (m : Int) : Prop := FM w u ∧ LSx rd (MOV P se kn br fr sy) u ∧ (w 24 3 ≤ u 24 3 ∧ (∀ k : Nat, (k : Int) < w 24 3 → u 25 k = w 25 k)) ∧ (∀ x, vis rd w x → vis rd u x) ∧ vis rd u m ∧ ∀ x, vis rd u x → vis rd w x ∨ x = m ∨ CLO P se rd kn br fr sy u x
def DN (P se rd : Int) (kn : Nat → Int) (br fr sy : Nat → Bool) (w u : Wd) (m : Int) : Prop := FM w u ∧ LSx rd (MOV P se kn br fr sy) u ∧ (w 24 3 ≤ u 24 3 ∧ (∀ k : Nat, (k : Int) < w 24 3 → u 25 k = w 25 k)) ∧ (∀ x, vis rd w x → vis rd u x) ∧ vis rd u m ∧ ∀ x, vis rd u x → vis rd w x ∨ CLO P se rd kn br fr sy u x
theorem dl_dn {P se rd : Int} {kn : Nat → Int} {br fr sy : Nat → Bool} {w u v : Wd} {m x : Int} (h : DL P se rd kn br fr sy w u m) (h2 : DN P se rd kn br fr sy u v x) : DL P se rd kn br fr sy w v m := by
  obtain ⟨a1, a2, a3, a4, a5, a6⟩ := h
  obtain ⟨b1, b2, b3, b4, b5, b6⟩ := h2
  refine ⟨fm_tr a1 b1, b2, ⟨by omega, fun k hk => (b3.2 k (by omega)).trans (a3.2 k hk)⟩, fun y hy => b4 y (a4 y hy), b4 m a5, fun y hy => ?_⟩
  rcases b6 y hy with h1 | h1
  · rcases a6 y h1 with h2 | h2 | h2
    · exact Or.inl h2
    · exact Or.inr (Or.inl h2)
    · exact Or.inr (Or.inr (fun d f f' m' e1 e2 => b4 m' (h2 d f f' m' e1 e2)))
  · exact Or.inr (Or.inr h1)
def CDN (P se rd : Int) (kn : Nat → Int) (br fr sy : Nat → Bool) (f m : Int) (u : Wd) (one : Int) (oo : Nat → Bool) : Prop := ∀ i o : Nat, f ≤ (i : Int) → (i : Int) < P → o < 10 → br i = true → fr o = true → bt (kn i) o = true → bt m o = false → ((pn (fun k => sy k || bt (sq m i o) k) 10 : Nat) : Int) ≤ se → ((i : Int) < one ∨ ((i : Int) = one ∧ oo o = false)) → vis rd u (sq m i o)
theorem sp135 {P se rd : Int} {kn : Nat → Int} {br fr sy : Nat → Bool} (hP : 0 ≤ P ∧ P ≤ 10) (hd : ∀ k, k < 10 → br k = true → fr k = false) {rec : Int → Int → Int → Wd → Option (Int × Wd)} {k83 : Int → Int → Int → Wd → Option (Int × Wd)} {w0 : Wd} {d : Nat} {f m v4 v5 : Int} {Q : Int → Wd → Prop} (hm : DRC P se kn br fr sy d f m) (h5 : f ≤ v5 ∧ v5 < P) (hf : 0 ≤ f)
    (hrec : ∀ {d' : Nat} {f' m' b : Int} {u : Wd}, MCx P se rd kn br fr sy u → LSx rd (MOV P se kn br fr sy) u → DRC P se kn br fr sy d' f' m' → (0 ≤ b ∧ b < u 24 3 ∧ pn (bt m') 10 = pn (bt (u 25 b.toNat)) 10 + 2) → PC (rec f' m' b u) (fun _ v => DN P se rd kn br fr sy u v m'))
    (hk : ∀ u, MCx P se rd kn br fr sy u → DL P se rd kn br fr sy w0 u m → (0 ≤ v4 ∧ v4 < u 24 3 ∧ u 25 v4.toNat = m) → CDN P se rd kn br fr sy f m u (v5 + 1) (fun _ => true) → PC (k83 m v4 (v5 + 1) u) Q) :
    ∀ (n : Nat) {v6 v7 : Int} {u : Wd} {oo : Nat → Bool}, 0 ≤ v7 → v7 + ((pn oo 10 : Nat) : Int) ≤ 10 → B10 v6 oo → (∀ o, o < 10 → oo o = true → br v5.toNat = true ∧ fr o = true ∧ bt (kn v5.toNat) o = true ∧ bt m o = false) → MCx P se rd kn br fr sy u → DL P se rd kn br fr sy w0 u m → (0 ≤ v4 ∧ v4 < u 24 3 ∧ u 25 v4.toNat = m) → CDN P se rd kn br fr sy f m u v5 oo → PC (f_M_spread_135 rec k83 n m v4 v5 v6 v7 u) Q := by
  intro n
  induction n with
  | zero => intros; exact pc_none
  | succ n ih =>
    intro v6 v7 u oo i7 i8 hB ho hM hL h4 hC
    rw [f_M_spread_135]
    have fin : (∀ o, o < 10 → oo o = false) → PC (f_M_spread_206 rec k83 m v4 v5 u) Q := fun hz => by
      unfold f_M_spread_206
      refine pc_let (fun x e => ?_)
      rw [w32_id (by omega)] at e
      rw [e]
      refine hk u hM hL h4 (fun i o a1 a2 a3 a4 a5 a6 a7 a8 a9 => hC i o a1 a2 a3 a4 a5 a6 a7 a8 ?_)
      rcases a9 with a9 | a9
      · by_cases c : (i : Int) < v5
        · exact Or.inl c
        · exact Or.inr ⟨by omega, hz o a3⟩
      · cases a9.2
    refine pc_ite (fun c => fin (fun o h10 => ?_)) (fun c => ?_)
    · cases hb : oo o with
      | false => rfl
      | true => have := pn_pos (f := oo) h10 hb; omega
    refine pc_ite (fun c0 => fin (fun o h10 => ?_)) (fun c0 => ?_)
    · rw [← hB.2 o h10, c0, bt_0]
    obtain ⟨o, ho10, e1, e2, e3, e4⟩ := lw_sp hB.1 c0
    rw [e3]
    have hoo : oo o = true := by rw [← hB.2 o ho10]; exact e1
    obtain ⟨b1, b2, b3, b4⟩ := ho o ho10 hoo
    have hmr := (drc_rg hP hm).1
    have e5 : v5 = ((v5.toNat : Nat) : Int) := by omega
    refine pc_let (fun x9 e9 => pc_let (fun x10 e10 => ?_))
    have e9' : x9 = sq m v5.toNat o := by rw [e9]; unfold sq; rw [← e5]
    have r9 : 0 ≤ x9 ∧ x9 ≤ 1023 := by rw [e9']; exact sq_rg hmr (by omega) ho10
    rw [← e10] at e4
    rw [bcs_e (b10_or hM.2.2.2.2.1 (b10_self r9)) u, jc_s, hM.2.2.2.2.2.1]
    have hB' : B10 x10 (fun k => oo k && !decide (k = o)) := b10_w e4 (fun k hk => by rw [hB.2 k hk])
    have hpn : pn oo 10 = pn (fun k => oo k && !decide (k = o)) 10 + 1 := pn_up (f := fun k => oo k && !decide (k = o)) (f' := oo) (i := o) ho10 (fun k _ hn => by rw [decide_eq_false hn]; simp) (by simp) hoo
    have ho' : ∀ o', o' < 10 → (oo o' && !decide (o' = o)) = true → br v5.toNat = true ∧ fr o' = true ∧ bt (kn v5.toNat) o' = true ∧ bt m o' = false := fun o' h10 e => ho o' h10 (by rw [Bool.and_eq_true] at e; exact e.1)
    have f200 : ∀ v, MCx P se rd kn br fr sy v → DL P se rd kn br fr sy w0 v m → (0 ≤ v4 ∧ v4 < v 24 3 ∧ v 25 v4.toNat = m) → CDN P se rd kn br fr sy f m v v5 (fun k => oo k && !decide (k = o)) → PC (f_M_spread_200 rec k83 (f_M_spread_135 rec k83 n) m v4 v5 x10 v7 v) Q := fun v hMv hLv h4v hCv => by
      unfold f_M_spread_200
      refine pc_let (fun x e => ?_)
      rw [w32_id (by omega)] at e
      rw [e]
      exact ih (by omega) (by omega) hB' ho' hMv hLv h4v hCv
    refine pc_ite (fun hs => f200 u hM hL h4 (fun i o' a1 a2 a3 a4 a5 a6 a7 a8 a9 => ?_)) (fun hs => ?_)
    · by_cases c9 : (i : Int) = v5 ∧ o' = o
      · exfalso
        rw [show i = v5.toNat by omega, c9.2, ← e9'] at a8
        omega
      · refine hC i o' a1 a2 a3 a4 a5 a6 a7 a8 ?_
        rcases a9 with a9 | a9
        · exact Or.inl a9
        · refine Or.inr ⟨a9.1, ?_⟩
          have a92 : (oo o' && !decide (o' = o)) = false := a9.2
          rw [decide_eq_false (fun e => c9 ⟨a9.1, e⟩)] at a92
          simpa using a92
    · have hD : DRC P se kn br fr sy (d + 1) (v5 + 1) x9 := ⟨f, m, hm, v5.toNat, o, by omega, by omega, ho10, b1, b2, b3, b4, e9', by omega, by omega⟩
      have hpm := (drc_pn hP hd hm).1
      have hpx := (drc_pn hP hd hD).1
      rw [w32_id (by omega)]
      refine pc_call (hrec hM hL.2.1 hD (b := v4) ⟨h4.1, h4.2.1, by rw [h4.2.2]; omega⟩) (fun r14 v q => ?_)
      have hMv := mc_fm hM q.1
      have hLv := dl_dn hL q
      refine f200 v hMv hLv ⟨h4.1, by have := q.2.2.1.1; omega, by rw [q.2.2.1.2 v4.toNat (by omega)]; exact h4.2.2⟩ (fun i o' a1 a2 a3 a4 a5 a6 a7 a8 a9 => ?_)
      by_cases c9 : (i : Int) = v5 ∧ o' = o
      · rw [show i = v5.toNat by omega, c9.2, ← e9']
        exact q.2.2.2.2.1
      · refine q.2.2.2.1 _ (hC i o' a1 a2 a3 a4 a5 a6 a7 a8 ?_)
        rcases a9 with a9 | a9
        · exact Or.inl a9
        · refine Or.inr ⟨a9.1, ?_⟩
          have a92 : (oo o' && !decide (o' = o)) = false := a9.2
          rw [decide_eq_false (fun e => c9 ⟨a9.1, e⟩)] at a92
          simpa using a92
theorem sp83 {P se rd : Int} {kn : Nat → Int} {br fr sy : Nat → Bool} (hP : 0 ≤ P ∧ P ≤ 10) (hd : ∀ k, k < 10 → br k = true → fr k = false) (hkn : ∀ j : Nat, (j : Int) < P → 0 ≤ kn j ∧ kn j ≤ 1023) {rec : Int → Int → Int → Wd → Option (Int × Wd)} {w0 : Wd} {d : Nat} {f m v4 : Int} (hm : DRC P se kn br fr sy d f m) (hf : 0 ≤ f)
    (hrec : ∀ {d' : Nat} {f' m' b : Int} {u : Wd}, MCx P se rd kn br fr sy u → LSx rd (MOV P se kn br fr sy) u → DRC P se kn br fr sy d' f' m' → (0 ≤ b ∧ b < u 24 3 ∧ pn (bt m') 10 = pn (bt (u 25 b.toNat)) 10 + 2) → PC (rec f' m' b u) (fun _ v => DN P se rd kn br fr sy u v m')) :
    ∀ (n : Nat) {v5 : Int} {u : Wd}, f ≤ v5 → v5 ≤ P → MCx P se rd kn br fr sy u → DL P se rd kn br fr sy w0 u m → (0 ≤ v4 ∧ v4 < u 24 3 ∧ u 25 v4.toNat = m) → CDN P se rd kn br fr sy f m u v5 (fun _ => true) → PC (f_M_spread_83 rec n m v4 v5 u) (fun _ v => DN P se rd kn br fr sy w0 v m) := by
  intro n
  induction n with
  | zero => intros; exact pc_none
  | succ n ih =>
    intro v5 u i5 i6 hM hL h4 hC
    rw [f_M_spread_83]
    refine pc_gd (fun _ => ?_)
    have hmr := (drc_rg hP hm).1
    rw [hM.1]
    refine pc_ite (fun c => pc_some ?_) (fun c => ?_)
    · obtain ⟨a1, a2, a3, a4, a5, a6⟩ := hL
      refine ⟨a1, a2, a3, a4, a5, fun x hx => ?_⟩
      rcases a6 x hx with e | e | e
      · exact Or.inl e
      · refine Or.inr (fun d' f1 f' m' e1 e2 => ?_)
        rw [e] at e1 e2
        obtain ⟨i, o, h1, h2, h3, g4, h5, h6, h7, h8, h9, h10⟩ := e2
        have ef := drc_one hP hd e1 hm
        rw [h8]
        rw [h8] at h9
        exact hC i o (by omega) h2 h3 g4 h5 h6 h7 h9 (Or.inl (by omega))
      · exact Or.inr e
    · have nx : ∀ (v6 : Int) (oo : Nat → Bool), B10 v6 oo → (∀ o, o < 10 → oo o = true → br v5.toNat = true ∧ fr o = true ∧ bt (kn v5.toNat) o = true ∧ bt m o = false) → CDN P se rd kn br fr sy f m u v5 oo → PC (f_M_spread_130 rec (f_M_spread_83 rec n) m v4 v5 v6 u) (fun _ v => DN P se rd kn br fr sy w0 v m) := fun v6 oo hB ho hC2 => by
        unfold f_M_spread_130
        have := pn_le oo 10
        exact sp135 hP hd hm ⟨i5, by omega⟩ hf hrec (fun v hMv hLv h4v hCv => ih (by omega) (by omega) hMv hLv h4v hCv) FU (by decide) (by omega) hB ho hM hL h4 hC2
      rw [has_10 u hM.2.2.1 (by omega), jc_s]
      cases hb : br v5.toNat with
      | false =>
        refine pc_ite (fun _ => nx 0 (fun _ => false) b10_0 (fun o _ e => by cases e) (fun i o a1 a2 a3 a4 a5 a6 a7 a8 a9 => ?_)) (fun e => absurd rfl e)
        rcases a9 with a9 | a9
        · exact hC i o a1 a2 a3 a4 a5 a6 a7 a8 (Or.inl a9)
        · rw [show i = v5.toNat by omega, hb] at a4; cases a4
      | true =>
        refine pc_ite (fun e => absurd e (by decide)) (fun _ => ?_)
        refine pc_gd (fun _ => pc_gd (fun _ => ?_))
        have hj := hkn v5.toNat (by omega)
        rw [hM.2.1 v5.toNat (by omega)]
        have hB := b10_andn (b10_and (b10_self hj) hM.2.2.2.1.2) (b10_self hmr).2
        refine nx _ _ hB (fun o h10 e => ?_) (fun i o a1 a2 a3 a4 a5 a6 a7 a8 a9 => ?_)
        · rw [Bool.and_eq_true, Bool.and_eq_true, Bool.not_eq_true'] at e
          exact ⟨hb, e.1.2, e.1.1, e.2⟩
        · rcases a9 with a9 | a9
          · exact hC i o a1 a2 a3 a4 a5 a6 a7 a8 (Or.inl a9)
          · exfalso
            have a92 : (bt (kn v5.toNat) o && fr o && !bt m o) = false := a9.2
            rw [show v5.toNat = i by omega, a6, a5, a7] at a92
            cases a92
theorem spr_pc {P se rd : Int} {kn : Nat → Int} {br fr sy : Nat → Bool} (hP : 0 ≤ P ∧ P ≤ 10) (hd : ∀ k, k < 10 → br k = true → fr k = false) (hkn : ∀ j : Nat, (j : Int) < P → 0 ≤ kn j ∧ kn j ≤ 1023) : ∀ (D : Nat) {d : Nat} {f m b : Int} {w : Wd}, MCx P se rd kn br fr sy w → LSx rd (MOV P se kn br fr sy) w → DRC P se kn br fr sy d f m → ((w 24 3 = 0 ∧ m = 0) ∨ (0 ≤ b ∧ b < w 24 3 ∧ pn (bt m) 10 = pn (bt (w 25 b.toNat)) 10 + 2)) → PC (f_M_spread D f m b w) (fun _ u => DN P se rd kn br fr sy w u m) := by
  intro D
  induction D with
  | zero => intros; exact pc_none
  | succ D ih =>
    intro d f m b w hM hL hm hb
    rw [f_M_spread]
    unfold f_M_spread_b
    obtain ⟨hmr, hf0, hfP⟩ := drc_rg hP hm
    have hw252 : w 24 3 ≤ 252 := by
      have := mov_few hP hd (n := (w 24 3).toNat) (F := w 25) (fun j hj => (hL.2.1 j (by omega)).2) (fun i j hi hj e => hL.2.2.1 i j (by omega) (by omega) e)
      omega
    have h0 := hL.1
    refine pc_ite (fun c => by omega) (fun _ => ?_)
    refine pc_ite (fun c => by omega) (fun _ => ?_)
    refine pc_ite (fun _ => ?_) (fun c => absurd (hiz hmr) c)
    refine pc_gd (fun _ => ?_)
    rw [hM.2.2.2.2.2.2]
    refine pc_ite (fun c => pc_some ?_) (fun c => ?_)
    · exact ⟨fm_self w, hL, ⟨Int.le_refl _, fun _ _ => rfl⟩, fun _ h => h, ⟨hmr, c⟩, fun _ h => Or.inl h⟩
    · refine pc_let (fun x1 e1 => pc_gd (fun _ => pc_lw (fun u2 e2 => pc_gd (fun _ => pc_lw (fun u3 e3 => pc_gd (fun _ => pc_lw (fun u4 e4 => pc_lw (fun u5 e5 => ?_))))))))
      have s4 : u4 24 3 = w 24 3 := by rw [e4, st_c (by decide), e3, st_c (by decide), e2, st_c (by decide)]
      have z5 : u5 24 3 = w 24 3 + 1 := by rw [e5, st_eq, s4, w32_id (by omega)]
      have z27 : ∀ k, u5 27 k = if k = m.toNat then rd else w 27 k := fun k => by
        rw [e5, st_c (by decide), e4, st_c (by decide), e3, st_c (by decide), e2]
        by_cases ck : k = m.toNat
        · rw [if_pos ck, ck, st_eq]
        · rw [if_neg ck, st_k ck]
      have z25 : ∀ k, u5 25 k = if k = (w 24 3).toNat then m else w 25 k := fun k => by
        rw [e5, st_c (by decide), e4, st_c (by decide), e3, e1]
        by_cases ck : k = (w 24 3).toNat
        · rw [if_pos ck, ck, st_eq]
        · rw [if_neg ck, st_k ck, e2, st_c (by decide)]
      have z26 : ∀ k, u5 26 k = if k = (w 24 3).toNat then b else w 26 k := fun k => by
        rw [e5, st_c (by decide), e4, e1]
        by_cases ck : k = (w 24 3).toNat
        · rw [if_pos ck, ck, st_eq]
        · rw [if_neg ck, st_k ck, e3, st_c (by decide), e2, st_c (by decide)]
      have f5 : FM w u5 := by
        refine ⟨fun c a1 a2 a3 a4 => ?_, fun k hk => ?_, fun k => ?_⟩
        · rw [e5, st_row a1, e4, st_row a3, e3, st_row a2, e2, st_row a4]
        · rw [e5, st_k hk, e4, st_c (by decide), e3, st_c (by decide), e2, st_c (by decide)]
        · rw [z27, hM.2.2.2.2.2.2]
          by_cases ck : k = m.toNat
          · rw [if_pos ck]; exact Or.inr rfl
          · rw [if_neg ck]; exact Or.inl rfl
      have vnew : vis rd u5 m := ⟨hmr, by rw [z27, if_pos rfl]⟩
      have vold : ∀ x, vis rd w x → vis rd u5 x := fun x hx => ⟨hx.1, by
        rw [z27]
        split
        · rfl
        · exact hx.2⟩
      have vback : ∀ x, vis rd u5 x → vis rd w x ∨ x = m := fun x hx => by
        by_cases ck : x.toNat = m.toNat
        · have := hx.1; exact Or.inr (by omega)
        · have h2 := hx.2
          rw [z27, if_neg ck] at h2
          exact Or.inl ⟨hx.1, h2⟩
      have nvm : ¬ vis rd w m := fun hv => c hv.2
      have z25o : ∀ k : Nat, (k : Int) < w 24 3 → u5 25 k = w 25 k := fun k hk => by rw [z25, if_neg (by omega)]
      have z25n : u5 25 (w 24 3).toNat = m := by rw [z25, if_pos rfl]
      have L5 : LSx rd (MOV P se kn br fr sy) u5 := by
        refine ⟨by omega, fun k hk => ?_, fun i j hi hj e => ?_, fun x hx => ?_, fun k hk => ?_⟩
        · by_cases ck : (k : Int) < w 24 3
          · rw [z25o k ck]
            exact ⟨vold _ (hL.2.1 k ck).1, (hL.2.1 k ck).2⟩
          · rw [show k = (w 24 3).toNat by omega, z25n]
            exact ⟨vnew, d, f, hm⟩
        · by_cases ci : (i : Int) < w 24 3
          · by_cases cj : (j : Int) < w 24 3
            · rw [z25o i ci, z25o j cj] at e
              exact hL.2.2.1 i j ci cj e
            · rw [z25o i ci, show j = (w 24 3).toNat by omega, z25n] at e
              have := (hL.2.1 i ci).1
              rw [e] at this
              exact absurd this nvm
          · by_cases cj : (j : Int) < w 24 3
            · rw [z25o j cj, show i = (w 24 3).toNat by omega, z25n] at e
              have := (hL.2.1 j cj).1
              rw [← e] at this
              exact absurd this nvm
            · omega
        · rcases vback x hx with h1 | h1
          · obtain ⟨k, hk, ek⟩ := hL.2.2.2.1 x h1
            exact ⟨k, by omega, by rw [z25o k hk]; exact ek⟩
          · exact ⟨(w 24 3).toNat, by omega, by rw [z25n, h1]⟩
        · by_cases ck : (k : Int) < w 24 3
          · rw [z25o k ck, z26, if_neg (by omega)]
            rcases hL.2.2.2.2 k ck with h1 | ⟨h1, h2, h3, h4⟩
            · exact Or.inl h1
            · refine Or.inr ⟨h1, h2, h3, ?_⟩
              rw [z25o (w 26 k).toNat (by omega)]
              exact h4
          · have ek : k = (w 24 3).toNat := by omega
            rw [ek, z25n, z26, if_pos rfl]
            rcases hb with ⟨h1, h2⟩ | ⟨h1, h2, h3⟩
            · exact Or.inl ⟨by omega, h2⟩
            · refine Or.inr ⟨by omega, h1, by omega, ?_⟩
              rw [z25o b.toNat (by omega)]
              exact h3
      have D5 : DL P se rd kn br fr sy w u5 m := ⟨f5, L5, ⟨by omega, z25o⟩, vold, vnew, fun x hx => (vback x hx).elim Or.inl (fun e => Or.inr (Or.inl e))⟩
      rw [e1]
      refine sp83 hP hd hkn hm hf0 (fun hM' hL' hD' hb' => ih hM' hL' hD' (Or.inr hb')) FU (Int.le_refl f) hfP (mc_fm hM f5) D5 ⟨h0, by omega, z25n⟩ (fun i o a1 _ _ _ _ _ _ _ a9 => ?_)
      rcases a9 with a9 | a9
      · omega
      · cases a9.2
