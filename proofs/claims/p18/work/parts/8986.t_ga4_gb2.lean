/-! THE MOST PAIRS: the reference -/
def mpo (v : Int → Int) (kni : Int) (fr : Nat → Bool) (u base : Int) : Nat → Int
  | 0 => base
  | k + 1 => if (bt kni k && fr k && !bt u k) = true then imax (mpo v kni fr u base k) (1 + v (ior u (ishl 1 (k : Int)))) else mpo v kni fr u base k
def mpv (P : Int) (kn : Nat → Int) (br fr : Nat → Bool) : Nat → Int → Int
  | 0, _ => 0
  | n + 1, u => if br (P.toNat - (n + 1)) = true then mpo (mpv P kn br fr n) (kn (P.toNat - (n + 1))) fr u (mpv P kn br fr n u) P.toNat else mpv P kn br fr n u
theorem mpo_b (v : Int → Int) (kni : Int) (fr : Nat → Bool) (u base : Int) : ∀ k, base ≤ mpo v kni fr u base k := by
  intro k
  induction k with
  | zero => exact Int.le_refl _
  | succ k ih =>
    rw [mpo]
    have := imax_sp (mpo v kni fr u base k) (1 + v (ior u (ishl 1 (k : Int))))
    split <;> omega
theorem mpo_c {v : Int → Int} {kni : Int} {fr : Nat → Bool} {u base : Int} : ∀ {k o : Nat}, o < k → (bt kni o && fr o && !bt u o) = true → 1 + v (ior u (ishl 1 (o : Int))) ≤ mpo v kni fr u base k := by
  intro k
  induction k with
  | zero => intro o h; omega
  | succ k ih =>
    intro o ho hc
    rw [mpo]
    have := imax_sp (mpo v kni fr u base k) (1 + v (ior u (ishl 1 (k : Int))))
    by_cases c : o = k
    · subst c
      rw [if_pos hc]; omega
    · have := ih (show o < k by omega) hc
      split <;> omega
theorem mpo_w {v : Int → Int} {kni : Int} {fr : Nat → Bool} {u base : Int} : ∀ k : Nat, mpo v kni fr u base k = base ∨ ∃ o : Nat, o < k ∧ (bt kni o && fr o && !bt u o) = true ∧ mpo v kni fr u base k = 1 + v (ior u (ishl 1 (o : Int))) := by
  intro k
  induction k with
  | zero => exact Or.inl rfl
  | succ k ih =>
    rw [mpo]
    have := imax_sp (mpo v kni fr u base k) (1 + v (ior u (ishl 1 (k : Int))))
    by_cases hc : (bt kni k && fr k && !bt u k) = true
    · rw [if_pos hc]
      rcases this with ⟨_, e⟩ | ⟨_, e⟩
      · exact Or.inr ⟨k, by omega, hc, e⟩
      · rw [e]
        rcases ih with h | ⟨o, h1, h2, h3⟩
        · exact Or.inl h
        · exact Or.inr ⟨o, by omega, h2, h3⟩
    · rw [if_neg hc]
      rcases ih with h | ⟨o, h1, h2, h3⟩
      · exact Or.inl h
      · exact Or.inr ⟨o, by omega, h2, h3⟩
theorem mpv_rg (P : Int) (kn : Nat → Int) (br fr : Nat → Bool) : ∀ (n : Nat) (u : Int), 0 ≤ mpv P kn br fr n u ∧ mpv P kn br fr n u ≤ n := by
  intro n
  induction n with
  | zero => intro u; rw [mpv]; exact ⟨Int.le_refl _, Int.le_refl _⟩
  | succ n ih =>
    intro u
    rw [mpv]
    have h1 := ih u
    split
    · have h2 := mpo_b (mpv P kn br fr n) (kn (P.toNat - (n + 1))) fr u (mpv P kn br fr n u) P.toNat
      rcases mpo_w (v := mpv P kn br fr n) (kni := kn (P.toNat - (n + 1))) (fr := fr) (u := u) (base := mpv P kn br fr n u) P.toNat with e | ⟨o, _, _, e⟩
      · omega
      · have := ih (ior u (ishl 1 (o : Int)))
        omega
    · omega
theorem or1_b {u : Int} {o : Nat} (hu : 0 ≤ u ∧ u ≤ 1023) (ho : o < 10) : B10 (ior u (ishl 1 (o : Int))) (fun k => bt u k || decide (k = o)) := by
  have b := b10_1 (i := (o : Int)) (by omega)
  rw [show ((o : Nat) : Int).toNat = o by omega] at b
  exact b10_or (b10_self hu) b
theorem or1_t {u : Int} {o j : Nat} (hu : 0 ≤ u ∧ u ≤ 1023) (ho : o < 10) (hj : j < 10) : bt (ior u (ishl 1 (o : Int))) j = (bt u j || decide (j = o)) := (or1_b hu ho).2 j hj
/-- by those that are free alone -/
theorem mpv_eq {P : Int} {kn : Nat → Int} {br fr : Nat → Bool} (hP : 0 ≤ P ∧ P ≤ 10) : ∀ (n : Nat) {u u' : Int}, (0 ≤ u ∧ u ≤ 1023) → (0 ≤ u' ∧ u' ≤ 1023) → (∀ k, k < 10 → fr k = true → bt u k = bt u' k) → mpv P kn br fr n u = mpv P kn br fr n u' := by
  intro n
  induction n with
  | zero => intros; rfl
  | succ n ih =>
    intro u u' hu hu' h
    rw [mpv, mpv, ih hu hu' h]
    split
    · have key : ∀ k : Nat, k ≤ 10 → mpo (mpv P kn br fr n) (kn (P.toNat - (n + 1))) fr u (mpv P kn br fr n u') k = mpo (mpv P kn br fr n) (kn (P.toNat - (n + 1))) fr u' (mpv P kn br fr n u') k := by
        intro k
        induction k with
        | zero => intro _; rfl
        | succ k ihk =>
          intro hk
          rw [mpo, mpo, ihk (by omega)]
          have e1 : (bt (kn (P.toNat - (n + 1))) k && fr k && !bt u k) = (bt (kn (P.toNat - (n + 1))) k && fr k && !bt u' k) := by
            cases hf : fr k with
            | false => simp
            | true => rw [h k (by omega) hf]
          rw [e1, ih (or1_b hu (o := k) (by omega)).1 (or1_b hu' (o := k) (by omega)).1 (fun j hj hf => by rw [or1_t hu (o := k) (by omega) hj, or1_t hu' (o := k) (by omega) hj, h j hj hf])]
      exact key P.toNat (by omega)
    · rfl
theorem mpv_s (P : Int) (kn : Nat → Int) (br fr : Nat → Bool) (n : Nat) (u : Int) : mpv P kn br fr n u ≤ mpv P kn br fr (n + 1) u := by
  rw [mpv]
  split
  · exact mpo_b _ _ _ _ _ _
  · exact Int.le_refl _
/-- no more PAIRS than that -/
theorem mpv_up {P : Int} {kn : Nat → Int} {br fr sy : Nat → Bool} (hP : 0 ≤ P ∧ P ≤ 10) (hd : ∀ k, k < 10 → br k = true → fr k = false) (hf : ∀ k : Nat, k < 10 → fr k = true → (k : Int) < P) : ∀ (i : Nat), (i : Int) ≤ P → ∀ {d : Nat} {f m : Int}, DRC P 20 kn br fr sy d f m → f ≤ (i : Int) → (d : Int) + mpv P kn br fr (P.toNat - i) m ≤ mpv P kn br fr P.toNat 0 := by
  intro i
  induction i with
  | zero =>
    intro _ d f m h hfi
    cases d with
    | zero =>
      obtain ⟨_, e⟩ := h
      rw [e]
      show ((0 : Nat) : Int) + mpv P kn br fr P.toNat 0 ≤ _
      omega
    | succ d =>
      obtain ⟨f0, m0, h0, j, o, h1, h2, h3, h4, h5, h6, h7, h8, h9, h10⟩ := h
      omega
  | succ i ih =>
    intro hi d f m h hfi
    have en : P.toNat - i = (P.toNat - (i + 1)) + 1 := by omega
    by_cases c : f ≤ (i : Int)
    · have := ih (by omega) h c
      rw [en] at this
      have := mpv_s P kn br fr (P.toNat - (i + 1)) m
      omega
    · cases d with
      | zero => obtain ⟨e, _⟩ := h; omega
      | succ d =>
        obtain ⟨f0, m0, h0, j, o, h1, h2, h3, h4, h5, h6, h7, h8, h9, h10⟩ := h
        have ej : j = i := by omega
        subst ej
        have r := drc_rg hP h0
        have := ih (by omega) h0 (by omega)
        rw [en, mpv, show P.toNat - (P.toNat - (j + 1) + 1) = j by omega, if_pos h4] at this
        have c1 := mpo_c (v := mpv P kn br fr (P.toNat - (j + 1))) (kni := kn j) (fr := fr) (u := m0) (base := mpv P kn br fr (P.toNat - (j + 1)) m0) (k := P.toNat) (o := o) (by have := hf o h3 h5; omega) (by rw [h6, h5, h7]; rfl)
        have c2 := mpv_eq (kn := kn) (br := br) (fr := fr) hP (P.toNat - (j + 1)) (u := m) (u' := ior m0 (ishl 1 (o : Int))) (by rw [h8]; exact sq_rg r.1 (by omega) h3) (or1_b r.1 h3).1 (fun k hk hfk => by
          rw [h8, sq_t r.1 (by omega) h3 hk, (or1_b r.1 h3).2 k hk, decide_eq_false (fun e => by rw [e] at hfk; rw [hd j (by omega) h4] at hfk; cases hfk), Bool.or_false])
        omega
/-- and so many there are -/
theorem mpv_at {P : Int} {kn : Nat → Int} {br fr sy : Nat → Bool} (hP : 0 ≤ P ∧ P ≤ 10) (hd : ∀ k, k < 10 → br k = true → fr k = false) : ∀ (n : Nat), (n : Int) ≤ P → ∀ {d : Nat} {f m : Int}, DRC P 20 kn br fr sy d f m → f ≤ P - (n : Int) → ∃ f' m', DRC P 20 kn br fr sy (d + (mpv P kn br fr n m).toNat) f' m' := by
  intro n
  induction n with
  | zero => intro _ d f m h _; exact ⟨f, m, h⟩
  | succ n ih =>
    intro hn d f m h hfi
    have r := drc_rg hP h
    rw [mpv]
    by_cases hb : br (P.toNat - (n + 1)) = true
    · rw [if_pos hb]
      rcases mpo_w (v := mpv P kn br fr n) (kni := kn (P.toNat - (n + 1))) (fr := fr) (u := m) (base := mpv P kn br fr n m) P.toNat with e | ⟨o, ho, hc, e⟩
      · rw [e]; exact ih (by omega) h (by omega)
      · rw [e]
        rw [Bool.and_eq_true, Bool.and_eq_true, Bool.not_eq_true'] at hc
        have hD : DRC P 20 kn br fr sy (d + 1) (((P.toNat - (n + 1) : Nat) : Int) + 1) (sq m (P.toNat - (n + 1)) o) := ⟨f, m, h, P.toNat - (n + 1), o, by omega, by omega, by omega, hb, hc.1.2, hc.1.1, hc.2, rfl, by have := pn_le (fun k => sy k || bt (sq m (P.toNat - (n + 1)) o) k) 10; omega, rfl⟩
        have c2 := mpv_eq (kn := kn) (br := br) (fr := fr) hP n (u := sq m (P.toNat - (n + 1)) o) (u' := ior m (ishl 1 (o : Int))) (sq_rg r.1 (by omega) (by omega)) (or1_b r.1 (by omega)).1 (fun k hk hfk => by
          rw [sq_t r.1 (by omega) (by omega) hk, (or1_b r.1 (o := o) (by omega)).2 k hk, decide_eq_false (fun e => by rw [e] at hfk; rw [hd _ (by omega) hb] at hfk; cases hfk), Bool.or_false])
        obtain ⟨f', m', h'⟩ := ih (by omega) hD (by omega)
        rw [c2] at h'
        have := mpv_rg P kn br fr n (ior m (ishl 1 (o : Int)))
        refine ⟨f', m', ?_⟩
        rw [show d + (1 + mpv P kn br fr n (ior m (ishl 1 (o : Int)))).toNat = d + 1 + (mpv P kn br fr n (ior m (ishl 1 (o : Int)))).toNat by omega]
        exact h'
    · rw [if_neg hb]; exact ih (by omega) h (by omega)
theorem mpv_max {P : Int} {kn : Nat → Int} {br fr sy : Nat → Bool} (hP : 0 ≤ P ∧ P ≤ 10) (hd : ∀ k, k < 10 → br k = true → fr k = false) (hf : ∀ k : Nat, k < 10 → fr k = true → (k : Int) < P) : (∀ (d : Nat) (f m : Int), DRC P 20 kn br fr sy d f m → (d : Int) ≤ mpv P kn br fr P.toNat 0) ∧ ∃ f m, DRC P 20 kn br fr sy (mpv P kn br fr P.toNat 0).toNat f m := by
  constructor
  · intro d f m h
    have r := drc_rg hP h
    have := mpv_up hP hd hf P.toNat (by omega) h (by omega)
    have := mpv_rg P kn br fr (P.toNat - P.toNat) m
    omega
  · obtain ⟨f', m', h'⟩ := mpv_at (P := P) (kn := kn) (br := br) (fr := fr) (sy := sy) hP hd P.toNat (by omega) (d := 0) (f := 0) (m := 0) ⟨rfl, rfl⟩ (by omega)
    rw [Nat.zero_add] at h'
    exact ⟨f', m', h'⟩
/-! the reference's table -/
def TBL (P : Int) (kn : Nat → Int) (br fr : Nat → Bool) (u : Wd) (i : Int) : Prop := ∀ i' x : Nat, i < (i' : Int) → (i' : Int) ≤ P → x < 2 ^ P.toNat → u 62 (1024 * i' + x) = mpv P kn br fr (P.toNat - i') (x : Int)
theorem ix62 {i x : Int} (hi : 0 ≤ i ∧ i ≤ 10) (hx : 0 ≤ x ∧ x < 1024) : w32 (ishl i 10 + x) = 1024 * i + x := by
  rw [ish10 (by omega), w32_id (by omega)]
  omega
theorem p2_1024 {P : Int} (hP : 0 ≤ P ∧ P ≤ 10) : 2 ^ P.toNat ≤ 1024 ∧ 1 ≤ 2 ^ P.toNat := by
  have h1 : 2 ^ P.toNat ≤ 2 ^ 10 := Nat.pow_le_pow_right (by decide) (by omega)
  have h2 : 1 ≤ 2 ^ P.toNat := Nat.one_le_two_pow
  omega
theorem or_lt2 {P x : Int} {o : Nat} (hP : 0 ≤ P ∧ P ≤ 10) (hx : 0 ≤ x ∧ x < ((2 ^ P.toNat : Nat) : Int)) (ho : (o : Int) < P) : 0 ≤ ior x (ishl 1 (o : Int)) ∧ ior x (ishl 1 (o : Int)) < ((2 ^ P.toNat : Nat) : Int) := by
  have e := ishl1 (i := (o : Int)) (by omega)
  rw [show ((o : Nat) : Int).toNat = o by omega] at e
  have h1 : 2 ^ o < 2 ^ P.toNat := Nat.pow_lt_pow_right (by decide) (by omega)
  have h3 : 1 ≤ 2 ^ o := Nat.one_le_two_pow
  have h2 := ior_n P.toNat (x := x) (y := ishl 1 (o : Int)) (m := ((2 ^ P.toNat : Nat) : Int) - 1) (by omega) (by omega) (by omega) (by omega)
  omega
/-- what both read: nothing of it changes -/
def SM62 (w u : Wd) : Prop := ∀ c, c ≠ 62 → u c = w c
theorem fp_pc {P v1 : Int} {kn : Nat → Int} {s : Nat → Int} {fr : Nat → Bool} {w : Wd} (hP : 0 ≤ P ∧ P ≤ 10) (h0 : w 43 0 = P) (h45 : ∀ j : Nat, (j : Int) < P → w 45 j = kn j ∧ 0 ≤ kn j ∧ kn j ≤ 1023) (h47 : w 47 = s) (h1 : B10 v1 fr) : ∀ (n : Nat) {v2 : Int} {u : Wd}, -1 ≤ v2 → v2 ≤ P → SM62 w u → TBL P kn (gs P s) fr u v2 → PC (f_R_findPairs_10 n v1 v2 u) (fun _ v => SM62 w v ∧ TBL P kn (gs P s) fr v (-1)) := by
  have pw := p2_1024 hP
  have ep : ishl 1 P = ((2 ^ P.toNat : Nat) : Int) := ishl1 (by omega)
  intro n
  induction n with
  | zero => intros; exact pc_none
  | succ n ih =>
    intro v2 u i2 i2' hs hT
    rw [f_R_findPairs_10]
    refine pc_ite (fun c => pc_some ⟨hs, by rw [show v2 = -1 by omega] at hT; exact hT⟩) (fun c => ?_)
    -- the sets in their order
    have s16 : ∀ (n' : Nat) {v3 : Int} {u : Wd}, 0 ≤ v3 → v3 ≤ ((2 ^ P.toNat : Nat) : Int) → SM62 w u → TBL P kn (gs P s) fr u v2 → (∀ x : Nat, (x : Int) < v3 → u 62 (1024 * v2.toNat + x) = mpv P kn (gs P s) fr (P.toNat - v2.toNat) (x : Int)) → PC (f_R_findPairs_16 (f_R_findPairs_10 n) n' v1 v2 v3 u) (fun _ v => SM62 w v ∧ TBL P kn (gs P s) fr v (-1)) := by
      intro n'
      induction n' with
      | zero => intros; exact pc_none
      | succ n' ih16 =>
        intro v3 u i3 i3' hs hT hx
        rw [f_R_findPairs_16, hs 43 (by decide), h0, ep]
        refine pc_ite (fun c3 => ?_) (fun c3 => ?_)
        · refine pc_let (fun x4 e4 => ?_)
          rw [w32_id (by omega)] at e4
          rw [e4]
          refine ih (by omega) (by omega) hs (fun i' x h1 h2 h3 => ?_)
          by_cases ci : v2 < (i' : Int)
          · exact hT i' x ci h2 h3
          · rw [show i' = v2.toNat by omega]
            exact hx x (by omega)
        · -- the value of one set, and its place
          have st138 : ∀ v4 : Int, v4 = mpv P kn (gs P s) fr (P.toNat - v2.toNat) v3 → PC (f_R_findPairs_138 (f_R_findPairs_10 n) (f_R_findPairs_16 (f_R_findPairs_10 n) n') v1 v2 v3 v4 u) (fun _ v => SM62 w v ∧ TBL P kn (gs P s) fr v (-1)) := fun v4 e4 => by
            unfold f_R_findPairs_138
            rw [ix62 (i := v2) (x := v3) (by omega) (by omega)]
            refine pc_gd (fun _ => pc_lw (fun u5 e5 => pc_let (fun x6 e6 => ?_)))
            rw [w32_id (by omega)] at e6
            rw [e6]
            have a5 : ∀ k, u5 62 k = if k = (1024 * v2 + v3).toNat then v4 else u 62 k := fun k => by
              rw [e5]
              by_cases ck : k = (1024 * v2 + v3).toNat
              · rw [if_pos ck, ck, st_eq]
              · rw [if_neg ck, st_k ck]
            refine ih16 (by omega) (by omega) (fun c hc => by rw [e5, st_row hc, hs c hc]) (fun i' x h1 h2 h3 => ?_) (fun x hlt => ?_)
            · rw [a5, if_neg (by omega)]; exact hT i' x h1 h2 h3
            · rw [a5]
              by_cases cx : (x : Int) = v3
              · rw [if_pos (by omega), e4, ← cx]
              · rw [if_neg (by omega)]; exact hx x (by omega)
          by_cases cP : v2 = P
          · rw [if_pos cP]
            unfold f_R_findPairs_51
            rw [hs 43 (by decide), h0]
            refine pc_ite (fun _ => st138 0 ?_) (fun e => by omega)
            rw [show P.toNat - v2.toNat = 0 by omega]; rfl
          · rw [if_neg cP]
            have en : P.toNat - v2.toNat = (P.toNat - (v2.toNat + 1)) + 1 := by omega
            have ei : P.toNat - (P.toNat - (v2.toNat + 1) + 1) = v2.toNat := by omega
            have w21 : w32 (v2 + 1) = v2 + 1 := w32_id (by omega)
            rw [w21, ix62 (i := v2 + 1) (x := v3) (by omega) (by omega)]
            refine pc_gd (fun _ => ?_)
            have rd : ∀ x : Int, 0 ≤ x → x < ((2 ^ P.toNat : Nat) : Int) → u 62 (1024 * (v2 + 1) + x).toNat = mpv P kn (gs P s) fr (P.toNat - (v2.toNat + 1)) x := fun x hx0 hx1 => by
              have := hT (v2.toNat + 1) x.toNat (by omega) (by omega) (by omega)
              rw [show ((x.toNat : Nat) : Int) = x by omega] at this
              rw [← this]
              congr 1
              omega
            rw [rd v3 i3 (by omega)]
            unfold f_R_findPairs_51
            rw [hs 43 (by decide), h0]
            refine pc_ite (fun e => by omega) (fun _ => pc_gd (fun _ => ?_))
            rw [isG_e, jc_s, hs 47 (by decide), h47]
            have egs : gs P s v2.toNat = gst (s v2.toNat) := by
              unfold gs
              rw [show inP P v2.toNat = true from decide_eq_true (by omega)]; rfl
            cases hg : gst (s v2.toNat) with
            | false =>
              refine pc_ite (fun _ => st138 _ ?_) (fun e => absurd rfl e)
              rw [en, mpv, ei, egs, hg]; rfl
            | true =>
              refine pc_ite (fun e => absurd e (by decide)) (fun _ => ?_)
              -- whom to bring
              have l76 : ∀ (k : Nat) {v4 v5 : Int}, 0 ≤ v5 → v5 ≤ P → v4 = mpo (mpv P kn (gs P s) fr (P.toNat - (v2.toNat + 1))) (kn v2.toNat) fr v3 (mpv P kn (gs P s) fr (P.toNat - (v2.toNat + 1)) v3) v5.toNat → PC (f_R_findPairs_76 (f_R_findPairs_10 n) (f_R_findPairs_16 (f_R_findPairs_10 n) n') k v1 v2 v3 v4 v5 u) (fun _ v => SM62 w v ∧ TBL P kn (gs P s) fr v (-1)) := by
                intro k
                induction k with
                | zero => intros; exact pc_none
                | succ k ihk =>
                  intro v4 v5 i5 i5' e4
                  rw [f_R_findPairs_76, hs 43 (by decide), h0]
                  have nx : ∀ x, x = mpo (mpv P kn (gs P s) fr (P.toNat - (v2.toNat + 1))) (kn v2.toNat) fr v3 (mpv P kn (gs P s) fr (P.toNat - (v2.toNat + 1)) v3) (v5.toNat + 1) → v5 < P → PC (f_R_findPairs_132 (f_R_findPairs_10 n) (f_R_findPairs_16 (f_R_findPairs_10 n) n') (f_R_findPairs_76 (f_R_findPairs_10 n) (f_R_findPairs_16 (f_R_findPairs_10 n) n') k) v1 v2 v3 x v5 u) (fun _ v => SM62 w v ∧ TBL P kn (gs P s) fr v (-1)) := fun x ex hlt => by
                    unfold f_R_findPairs_132
                    refine pc_let (fun y ey => ?_)
                    rw [w32_id (by omega)] at ey
                    rw [ey]
                    exact ihk (by omega) (by omega) (by rw [ex, show (v5 + 1).toNat = v5.toNat + 1 by omega])
                  refine pc_ite (fun c5 => st138 v4 ?_) (fun c5 => ?_)
                  · rw [e4, en, mpv, ei, egs, hg, if_pos rfl, show v5.toNat = P.toNat by omega]
                  · refine pc_gd (fun _ => ?_)
                    have hj := h45 v2.toNat (by omega)
                    rw [hs 45 (by decide), hj.1]
                    have hB := b10_andn (b10_and (b10_self hj.2) h1.2) (b10_self (x := v3) (by omega)).2
                    rw [hasR_10 u hB (by omega), jc_s]
                    cases hc : (bt (kn v2.toNat) v5.toNat && fr v5.toNat && !bt v3 v5.toNat) with
                    | false =>
                      refine pc_ite (fun _ => nx v4 ?_ (by omega)) (fun e => absurd rfl e)
                      rw [mpo, hc, e4]; rfl
                    | true =>
                      refine pc_ite (fun e => absurd e (by decide)) (fun _ => ?_)
                      have o5 := or_lt2 (P := P) (x := v3) (o := v5.toNat) hP (by omega) (by omega)
                      rw [show ((v5.toNat : Nat) : Int) = v5 by omega] at o5
                      rw [w21, ix62 (i := v2 + 1) (x := ior v3 (ishl 1 v5)) (by omega) (by omega)]
                      refine pc_gd (fun _ => pc_let (fun x12 e12 => nx x12 ?_ (by omega)))
                      rw [rd _ o5.1 o5.2] at e12
                      have hr := mpv_rg P kn (gs P s) fr (P.toNat - (v2.toNat + 1)) (ior v3 (ishl 1 v5))
                      rw [w32_id (by omega)] at e12
                      rw [mpo, hc, if_pos rfl, e12, e4, show ((v5.toNat : Nat) : Int) = v5 by omega]
              exact l76 FU (by decide) hP.1 rfl
    exact s16 FU (by decide) (by omega) hs hT (fun x hx => by omega)
theorem rpairs_pc {P : Int} {w : Wd} (hP : 0 ≤ P ∧ P ≤ 10) (h0 : w 43 0 = P) (h45 : ∀ j : Nat, (j : Int) < P → 0 ≤ w 45 j ∧ w 45 j ≤ 1023) : PC (f_R_pairs w) (fun r _ => r = mpv P (w 45) (gs P (w 47)) (fre P (w 47) (w 46)) P.toNat 0) := by
  unfold f_R_pairs
  refine pc_lw (fun y ey => ?_)
  have y0 : y 43 0 = P := by rw [ey, st_k (by decide)]; exact h0
  have yr : ∀ c, c ≠ 43 → y c = w c := fun c hc => by rw [ey, st_row hc]
  have hfp : PC (f_R_findPairs y) (fun _ v => SM62 y v ∧ TBL P (w 45) (gs P (w 47)) (fre P (w 47) (w 46)) v (-1)) := by
    unfold f_R_findPairs
    refine pc_call (rfree_e (w := y) (by omega)) (fun r1 u2 q => ?_)
    have q2 := q.2
    rw [y0, yr 47 (by decide), yr 46 (by decide)] at q2
    rw [q.1]
    refine pc_let (fun x3 e3 => ?_)
    rw [e3, y0]
    exact fp_pc (w := y) (kn := w 45) (s := w 47) hP y0 (fun j hj => ⟨by rw [yr 45 (by decide)], h45 j hj⟩) (yr 47 (by decide)) q2 FU (by omega) (Int.le_refl _) (fun _ _ => rfl) (fun i' x h1 h2 _ => by omega)
  refine pc_call hfp (fun r2 u3 q => ?_)
  have u0 : u3 43 0 = P := by rw [q.1 43 (by decide)]; exact y0
  refine pc_call (rfree_e (w := u3) (by omega)) (fun r4 u5 q4 => ?_)
  rw [q4.1]
  refine pc_lw (fun u6 e6 => ?_)
  have pw := p2_1024 hP
  have T0 : u6 62 0 = mpv P (w 45) (gs P (w 47)) (fre P (w 47) (w 46)) P.toNat 0 := by
    rw [e6, st_c (by decide)]
    have := q.2 0 0 (by decide) (by omega) (by omega)
    exact this
  have l23 : ∀ (n : Nat) {v2 v3 : Int} {u : Wd}, u 62 0 = u6 62 0 → PC (f_R_pairs_23 n r4 v2 v3 u) (fun r _ => r = u6 62 0) := by
    intro n
    induction n with
    | zero => intros; exact pc_none
    | succ n ih =>
      intro v2 v3 u hu
      rw [f_R_pairs_23]
      refine pc_ite (fun _ => pc_gd (fun _ => pc_some hu)) (fun _ => pc_gd (fun _ => ?_))
      rw [isG_e, jc_s]
      refine pc_ite (fun _ => pc_let (fun x _ => ih hu)) (fun _ => ?_)
      have l49 : ∀ (k : Nat) {v4 : Int}, PC (f_R_pairs_49 (f_R_pairs_23 n) k r4 v2 v3 v4 u) (fun r _ => r = u6 62 0) := by
        intro k
        induction k with
        | zero => intros; exact pc_none
        | succ k ihk =>
          intro v4
          rw [f_R_pairs_49]
          refine pc_ite (fun _ => pc_let (fun x _ => ih hu)) (fun _ => pc_gd (fun _ => ?_))
          rw [has_eq, jc_s]
          refine pc_ite (fun _ => pc_let (fun x _ => ihk)) (fun _ => pc_gd (fun _ => pc_gd (fun _ => ?_)))
          refine pc_ite (fun _ => ?_) (fun _ => pc_let (fun x _ => ihk))
          refine pc_call (rt1 _ u) (fun r13 u14 q13 => pc_let (fun x15 _ => pc_let (fun x _ => ih ?_)))
          rw [q13 62 0 (by decide) (by decide)]; exact hu
      exact l49 FU
  exact pc_w (l23 FU rfl) (fun r _ e => e.trans T0)
theorem epairs_pc {P g : Int} {s h kn : Nat → Int} {w : Wd} (hP : 0 ≤ P ∧ P ≤ 10) (hW : WH (w 5 4) s P) (h3 : w 5 3 = P) (h5 : B10 (w 5 5) (hB P h)) (hg : 1 ≤ g ∧ g ≤ 3) (h7 : w 5 7 = g) (hkn : ∀ j : Nat, (j : Int) < P → w 7 j = kn j ∧ 0 ≤ kn j ∧ kn j ≤ 1023) (hr : ROK w) (hlt : w 24 4 < 2147483647) : PC (f_E_largestWeek w) (fun k u => GA P 20 kn (gs P s) (fre P s h) (sty P s g) w u ∧ u 24 3 ≤ 256 ∧ (0 ≤ k ∧ k < u 24 3) ∧ ((pn (bt (u 25 k.toNat)) 10 : Nat) : Int) = 2 * mpv P kn (gs P s) (fre P s h) P.toNat 0) := by
  unfold f_E_largestWeek
  refine pc_call (gat_pc hP hW h3 h5 hg h7 hkn hr hlt) (fun r1 u q => ?_)
  obtain ⟨q1, q2, q3, q4, q5⟩ := q
  have h252 : u 24 3 ≤ 256 := by
    have h0 := q4.1
    have := mov_few hP (gs_fre (P := P) (s := s) (h := h)) (n := (u 24 3).toNat) (F := u 25) (fun j hj => (q4.2.1 j (by omega)).2) (fun i j hi hj e => q4.2.2.1 i j (by omega) (by omega) e)
    omega
  have one : 0 < u 24 3 := by
    obtain ⟨k, hk, _⟩ := q5 0 ⟨0, 0, rfl, rfl⟩
    omega
  refine pc_w (lw24 q4 h252 FU (v1 := 0) (v2 := 1) (Int.le_refl _) one (by decide) (fun k hk hlt => by rw [show k = (0 : Int).toNat by omega]; exact Nat.le_refl _)) (fun k v z => ?_)
  obtain ⟨z1, z2, z3⟩ := z
  rw [z1]
  refine ⟨⟨q1, q2, q3, q4, q5⟩, h252, z2, ?_⟩
  obtain ⟨d, f, hD⟩ := (q4.2.1 k.toNat (by omega)).2
  have hp := (drc_pn hP gs_fre hD).1
  obtain ⟨m1, f1, m2, hm⟩ := mpv_max (P := P) (kn := kn) (br := gs P s) (fr := fre P s h) (sy := sty P s g) hP gs_fre (fun k _ hf => (fre_sr hf).1)
  have a1 := m1 d f _ hD
  obtain ⟨j, hj, ej⟩ := q5 m2 ⟨_, _, hm⟩
  have a2 := z3 j hj
  rw [ej, (drc_pn hP gs_fre hm).1, hp] at a2
  have := (mpv_rg P kn (gs P s) (fre P s h) P.toNat 0).1
  omega
theorem er_pairs {a w : Wd} (h : ER a w) (hr : ROK w) (hlt : w 24 4 < 2147483647) : PC (f_E_pairs w) (fun r _ => PC (f_R_pairs a) (fun r' _ => r = r')) := by
  have x0 : 0 ≤ a 43 0 ∧ a 43 0 ≤ 10 := h.2.2.1
  have x3 : w 5 3 = a 43 0 := h.1.1.2.1
  have xp : ∀ j : Nat, (j : Int) < a 43 0 → w 6 j = a 44 j ∧ w 7 j = a 45 j ∧ w 8 j = a 48 j := h.1.2.1
  have xh : B10 (w 5 5) (hB (a 43 0) (a 46)) := h.1.2.2.1
  have xw : WH (w 5 4) (a 47) (a 43 0) := h.1.2.2.2.1
  have x7 : w 5 7 = a 43 10 := h.1.1.2.2.1.1
  have x45 : ∀ j : Nat, (j : Int) < a 43 0 → 0 ≤ a 45 j ∧ a 45 j ≤ 1023 := h.2.2.2.2.2.1
  have xg : 1 ≤ a 43 10 ∧ a 43 10 ≤ 3 := h.1.2.2.2.2.2.2.2.2.2.2.1
  unfold f_E_pairs
  refine pc_call (epairs_pc (kn := a 45) x0 xw x3 xh xg x7 (fun j hj => ⟨(xp j hj).2.1, x45 j hj⟩) hr hlt) (fun k u q => ?_)
  obtain ⟨q1, q2, q3, q4⟩ := q
  refine pc_call (tp_pc q1.2.2.2.1 q2 q3) (fun r3 u4 z => pc_some ?_)
  refine pc_w (rpairs_pc x0 rfl x45) (fun r' _ e => ?_)
  rw [e]
  have := z.1
  omega
/-! STATES THAT CAN COME -/
theorem bt_ext30 {x y : Int} (hx : 0 ≤ x ∧ x < 1073741824) (hy : 0 ≤ y ∧ y < 1073741824) (h : ∀ k, k < 30 → bt x k = bt y k) : x = y := by
  have ex := ofInt_toInt (z := x) (by omega) (by omega)
  have ey := ofInt_toInt (z := y) (by omega) (by omega)
  have hx' : (Int32.ofInt x).toBitVec.toInt = x := ex
  have hy' : (Int32.ofInt y).toBitVec.toInt = y := ey
  have bx := bv_nn (x := (Int32.ofInt x).toBitVec) (by omega)
  have bY := bv_nn (x := (Int32.ofInt y).toBitVec) (by omega)
  have e : (Int32.ofInt x).toBitVec = (Int32.ofInt y).toBitVec := by
    apply BitVec.eq_of_getLsbD_eq
    intro i hi
    by_cases h30 : i < 30
    · exact h i h30
    · have p30 : (2 : Nat) ^ 30 = 1073741824 := by decide
      have h1 : (Int32.ofInt x).toBitVec.getLsbD i = false := by
        rw [BitVec.getLsbD]
        refine Nat.testBit_lt_two_pow ?_
        have : 2 ^ 30 ≤ 2 ^ i := Nat.pow_le_pow_right (by decide) (by omega)
        omega
      have h2 : (Int32.ofInt y).toBitVec.getLsbD i = false := by
        rw [BitVec.getLsbD]
        refine Nat.testBit_lt_two_pow ?_
        have : 2 ^ 30 ≤ 2 ^ i := Nat.pow_le_pow_right (by decide) (by omega)
        omega
      rw [h1, h2]
  rw [← hx', ← hy', e]
theorem wh_inj {x y P : Int} {s t : Nat → Int} (hx : WH x s P) (hy : WH y t P) (h : ∀ k : Nat, (k : Int) < P → s k = t k) : x = y := by
  refine bt_ext30 hx.1 hy.1 (fun k hk => ?_)
  have key : ∀ j, j < 10 → bt x j = bt y j ∧ bt x (10 + j) = bt y (10 + j) ∧ bt x (20 + j) = bt y (20 + j) := fun j hj => by
    have a := hx.2.1 j hj
    have b := hy.2.1 j hj
    rw [a.1, a.2.1, a.2.2, b.1, b.2.1, b.2.2]
    cases hp : inP P j with
    | false => exact ⟨rfl, rfl, rfl⟩
    | true => rw [h j (inP_t hp)]; exact ⟨rfl, rfl, rfl⟩
  by_cases c1 : k < 10
  · exact (key k c1).1
  · by_cases c2 : k < 20
    · have := (key (k - 10) (by omega)).2.1
      rw [show 10 + (k - 10) = k by omega] at this
      exact this
    · have := (key (k - 20) (by omega)).2.2
      rw [show 20 + (k - 20) = k by omega] at this
      exact this
def sof (x : Int) (k : Nat) : Int := if bt x (20 + k) = true then 4 else (if bt x k = true then 1 else 0) + (if bt x (10 + k) = true then 2 else 0)
theorem sof_e {x P : Int} {s : Nat → Int} (h : WH x s P) (hP : P ≤ 10) {k : Nat} (hk : (k : Int) < P) : sof x k = s k := by
  have a := h.2.1 k (by omega)
  have r := h.2.2 k hk
  unfold sof
  rw [a.1, a.2.1, a.2.2, show inP P k = true from decide_eq_true hk]
  rcases v5 r with e | e | e | e | e <;> rw [e] <;> rfl
theorem wh_w {x P : Int} {s t : Nat → Int} (h : WH x s P) (he : ∀ k : Nat, (k : Int) < P → s k = t k) : WH x t P := by
  refine ⟨h.1, fun k hk => ?_, fun k hk => by rw [← he k hk]; exact h.2.2 k hk⟩
  have a := h.2.1 k hk
  rw [a.1, a.2.1, a.2.2]
  cases hp : inP P k with
  | false => exact ⟨rfl, rfl, rfl⟩
  | true => rw [he k (inP_t hp)]; exact ⟨rfl, rfl, rfl⟩
theorem wh_sof {x P : Int} {s : Nat → Int} (h : WH x s P) (hP : P ≤ 10) : WH x (sof x) P := wh_w h (fun _ hk => (sof_e h hP hk).symm)
theorem gs_w {P : Int} {s t : Nat → Int} (he : ∀ k : Nat, (k : Int) < P → s k = t k) (k : Nat) : gs P s k = gs P t k := by
  unfold gs
  cases hp : inP P k with
  | false => rfl
  | true => rw [he k (inP_t hp)]
theorem fre_w {P : Int} {s t h : Nat → Int} (he : ∀ k : Nat, (k : Int) < P → s k = t k) (k : Nat) : fre P s h k = fre P t h k := by
  unfold fre sr
  cases hp : inP P k with
  | false => rfl
  | true => rw [he k (inP_t hp)]
theorem sty_w {P g : Int} {s t : Nat → Int} (he : ∀ k : Nat, (k : Int) < P → s k = t k) (k : Nat) : sty P s g k = sty P t g k := by
  unfold sty
  rw [gs_w he k]
  by_cases hp : (k : Int) < P
  · rw [he k hp]
  · unfold gs
    rw [show inP P k = false from decide_eq_false hp]; rfl
/-- who moves in a WEEK that may be, from a STATE -/
def MVS (P g se : Int) (h kn s : Nat → Int) (m : Int) : Prop := MOV P se kn (gs P s) (fre P s h) (sty P s g) m
theorem mvs_w {P g se : Int} {h kn s t : Nat → Int} (hP : 0 ≤ P ∧ P ≤ 10) (he : ∀ k : Nat, (k : Int) < P → s k = t k) {m : Int} (hm : MVS P g se h kn s m) : MVS P g se h kn t m := by
  obtain ⟨d, f, h1⟩ := hm
  exact ⟨d, f, drc_eq hP (fun _ _ => rfl) (fun k _ => gs_w he k) (fun k _ => fre_w he k) (fun k _ => sty_w he k) h1⟩
/-- one STATE behind another -/
def SUX (P g se : Int) (h kn : Nat → Int) (x y : Int) : Prop := ∃ m, MVS P g se h kn (sof x) m ∧ WH y (nis P (sof x) g (bt m)) P
def RCX (P g se : Int) (h kn : Nat → Int) (x0 : Int) : Nat → Int → Prop
  | 0, x => x = x0
  | t + 1, x => ∃ y, RCX P g se h kn x0 t y ∧ SUX P g se h kn y x
theorem mvs_0 (P g se : Int) (h kn s : Nat → Int) : MVS P g se h kn s 0 := ⟨0, 0, rfl, rfl⟩
/-- who moves was a GUEST, or a STRANGER not HIDDEN -/
theorem mvs_who {P g se : Int} {h kn s : Nat → Int} (hP : 0 ≤ P ∧ P ≤ 10) {m : Int} (hm : MVS P g se h kn s m) : (0 ≤ m ∧ m ≤ 1023) ∧ ∀ k, k < 10 → bt m k = true → gs P s k = true ∨ fre P s h k = true := by
  obtain ⟨d, f, h1⟩ := hm
  refine ⟨(drc_rg hP h1).1, fun k hk hb => ?_⟩
  rcases (drc_fr hP gs_fre h1).2.2 k hk hb with ⟨_, e⟩ | e
  · exact Or.inl e
  · exact Or.inr e
theorem mvs_ok {P g se : Int} {h kn s : Nat → Int} (hP : 0 ≤ P ∧ P ≤ 10) {m : Int} (hm : MVS P g se h kn s m) : ∀ k, k < 10 → bt m k = true → (k : Int) < P ∧ s k ≠ 4 := by
  intro k hk hb
  rcases (mvs_who hP hm).2 k hk hb with e | e
  · unfold gs at e
    rw [Bool.and_eq_true] at e
    have e2 : 1 ≤ s k ∧ s k < 4 := of_decide_eq_true e.2
    exact ⟨inP_t e.1, by omega⟩
  · have := fre_sr e
    exact ⟨this.1, by omega⟩
/-- nobody moves, or some STRANGER does -/
theorem mvs_some {P g se : Int} {h kn s : Nat → Int} (hP : 0 ≤ P ∧ P ≤ 10) {m : Int} (hm : MVS P g se h kn s m) : m = 0 ∨ ((∃ o, o < 10 ∧ bt m o = true ∧ fre P s h o = true) ∧ ∃ i, i < 10 ∧ gs P s i = true) := by
  obtain ⟨d, f, h1⟩ := hm
  cases d with
  | zero => exact Or.inl h1.2
  | succ d =>
    obtain ⟨f0, m0, h0, i, o, a1, a2, a3, a4, a5, a6, a7, a8, a9, a10⟩ := h1
    have r := drc_rg hP h0
    refine Or.inr ⟨⟨o, a3, ?_, a5⟩, i, by omega, a4⟩
    rw [a8, sq_t r.1 (by omega) a3 a3, decide_eq_true rfl, Bool.or_true]
theorem rx_wh {P g se : Int} {h kn : Nat → Int} {x0 : Int} (hP : 0 ≤ P ∧ P ≤ 10) (h0 : WH x0 (sof x0) P) : ∀ {t : Nat} {x : Int}, RCX P g se h kn x0 t x → WH x (sof x) P := by
  intro t
  cases t with
  | zero => intro x e; rw [show x = x0 from e]; exact h0
  | succ t =>
    rintro x ⟨y, _, m, _, hw⟩
    exact wh_sof hw hP.2
/-- where nobody is a GUEST all stays as it is -/
theorem sx_no {P g se : Int} {h kn : Nat → Int} {x y : Int} (hP : 0 ≤ P ∧ P ≤ 10) (hx : WH x (sof x) P) (hn : ∀ k, k < 10 → gs P (sof x) k = false) : SUX P g se h kn x y ↔ y = x := by
  have same : ∀ k : Nat, (k : Int) < P → nis P (sof x) g (bt 0) k = sof x k := fun k hk => by
    have hg := hn k (by omega)
    unfold gs at hg
    rw [show inP P k = true from decide_eq_true hk, Bool.true_and] at hg
    unfold nis
    rw [bt_0, hg]; rfl
  constructor
  · rintro ⟨m, hm, hw⟩
    rcases mvs_some hP hm with e | ⟨_, i, hi, e⟩
    · rw [e] at hw
      exact wh_inj hw hx same
    · rw [hn i hi] at e; cases e
  · intro e
    rw [e]
    exact ⟨0, mvs_0 _ _ _ _ _ _, wh_w hx (fun k hk => (same k hk).symm)⟩
/-! RANKS -/
def lo1 (P : Int) (s : Nat → Int) (k : Nat) : Bool := inP P k && (s k == 1 || s k == 3)
def mi1 (P : Int) (s : Nat → Int) (k : Nat) : Bool := inP P k && (s k == 2 || s k == 3)
def kno (P : Int) (s : Nat → Int) (k : Nat) : Bool := inP P k && !(s k == 0)
def smv (P : Int) (s : Nat → Int) : Nat → Int
  | 0 => 0
  | n + 1 => smv P s n + (if inP P n = true then s n else 0)
def rkf (P : Int) (s : Nat → Int) : Int := 41 * ((pn (kno P s) 10 : Nat) : Int) + smv P s 10
theorem smv_e {P : Int} {s : Nat → Int} (h : ∀ k : Nat, (k : Int) < P → 0 ≤ s k ∧ s k ≤ 4) : ∀ n : Nat, smv P s n = ((pn (lo1 P s) n : Nat) : Int) + 2 * ((pn (mi1 P s) n : Nat) : Int) + 4 * ((pn (ou P s) n : Nat) : Int) := by
  intro n
  induction n with
  | zero => rfl
  | succ n ih =>
    rw [smv, pn, pn, pn, ih]
    unfold lo1 mi1 ou
    cases hp : inP P n with
    | false => simp
    | true =>
      rcases v5 (h n (inP_t hp)) with e | e | e | e | e <;> rw [e] <;> simp <;> omega
theorem smv_rg {P : Int} {s : Nat → Int} (h : ∀ k : Nat, (k : Int) < P → 0 ≤ s k ∧ s k ≤ 4) : ∀ n : Nat, 0 ≤ smv P s n ∧ smv P s n ≤ 4 * n := by
  intro n
  induction n with
  | zero => exact ⟨Int.le_refl _, Int.le_refl _⟩
  | succ n ih =>
    rw [smv]
    by_cases hp : inP P n = true
    · have := h n (inP_t hp)
      rw [if_pos hp]; omega
    · rw [if_neg hp]; omega
theorem smv_le {P : Int} {s t : Nat → Int} : ∀ {n : Nat}, (∀ k : Nat, k < n → (k : Int) < P → s k ≤ t k) → smv P s n ≤ smv P t n := by
  intro n
  induction n with
  | zero => intro _; exact Int.le_refl _
  | succ n ih =>
    intro h
    rw [smv, smv]
    have h1 := ih (fun k hk => h k (by omega))
    by_cases hp : inP P n = true
    · have := h n (by omega) (inP_t hp)
      rw [if_pos hp, if_pos hp]; omega
    · rw [if_neg hp, if_neg hp]; omega
theorem smv_lt {P : Int} {s t : Nat → Int} : ∀ {n : Nat}, (∀ k : Nat, k < n → (k : Int) < P → s k ≤ t k) → (∃ k : Nat, k < n ∧ (k : Int) < P ∧ s k < t k) → smv P s n < smv P t n := by
  intro n
  induction n with
  | zero => intro _ h; obtain ⟨k, hk, _⟩ := h; omega
  | succ n ih =>
    intro h he
    obtain ⟨k, hk, h1, h2⟩ := he
    rw [smv, smv]
    by_cases c : k = n
    · have h3 := smv_le (P := P) (s := s) (t := t) (n := n) (fun k hk => h k (by omega))
      have hp : inP P n = true := decide_eq_true (by omega)
      rw [c] at h2
      rw [if_pos hp, if_pos hp]; omega
    · have h3 := ih (fun k hk => h k (by omega)) ⟨k, by omega, h1, h2⟩
      by_cases hp : inP P n = true
      · have := h n (by omega) (inP_t hp)
        rw [if_pos hp, if_pos hp]; omega
      · rw [if_neg hp, if_neg hp]; omega
theorem orank_e {x P : Int} {s : Nat → Int} (h : WH x s P) (w : Wd) : f_O_rank x w = some (rkf P s, w) := by
  unfold f_O_rank
  have b1 : B10 (iand x 1023) (lo1 P s) := b10_m (fun k hk => (h.2.1 k hk).1)
  have b2 : B10 (iand (ishr x 10) 1023) (mi1 P s) := b10_m (fun k hk => wh_10 h hk)
  rw [bcs_e b1, jc_s, bcs_e b2, jc_s]
  obtain ⟨r, e, b⟩ := oo_e h w
  rw [e, jc_s, bcs_e b, jc_s, jl_e]
  unfold f_O_known
  rw [jc_s, bcs_e (wh_kn h), jc_s]
  have l1 := pn_le (lo1 P s) 10
  have l2 := pn_le (mi1 P s) 10
  have l3 := pn_le (ou P s) 10
  have l4 := pn_le (fun k => inP P k && !(s k == 0)) 10
  have es := smv_e h.2.2 10
  have ek : pn (kno P s) 10 = pn (fun k => inP P k && !(s k == 0)) 10 := rfl
  unfold rkf
  rw [es, ek]
  generalize pn (fun k => inP P k && !(s k == 0)) 10 = a at *
  generalize pn (lo1 P s) 10 = b1' at *
  generalize pn (mi1 P s) 10 = b2' at *
  generalize pn (ou P s) 10 = b3' at *
  have z1 : w32 (2 * (b2' : Int)) = 2 * (b2' : Int) := w32_id (by omega)
  have z2 : w32 ((b1' : Int) + 2 * (b2' : Int)) = (b1' : Int) + 2 * (b2' : Int) := w32_id (by omega)
  have z3 : w32 (4 * (b3' : Int)) = 4 * (b3' : Int) := w32_id (by omega)
  have z4 : w32 ((b1' : Int) + 2 * (b2' : Int) + 4 * (b3' : Int)) = (b1' : Int) + 2 * (b2' : Int) + 4 * (b3' : Int) := w32_id (by omega)
  have z5 : w32 ((a : Int) * 41) = (a : Int) * 41 := w32_id (by omega)
  have z6 : w32 ((a : Int) * 41 + ((b1' : Int) + 2 * (b2' : Int) + 4 * (b3' : Int))) = 41 * (a : Int) + ((b1' : Int) + 2 * (b2' : Int) + 4 * (b3' : Int)) := (w32_id (by omega)).trans (by omega)
  rw [z1, z2, z3, z4, z5, z6]
theorem rkf_rg {P : Int} {s : Nat → Int} (h : ∀ k : Nat, (k : Int) < P → 0 ≤ s k ∧ s k ≤ 4) : 0 ≤ rkf P s ∧ rkf P s ≤ 450 := by
  have l4 := pn_le (kno P s) 10
  have := smv_rg h 10
  unfold rkf
  omega
theorem rkf_w {P : Int} {s t : Nat → Int} (he : ∀ k : Nat, (k : Int) < P → s k = t k) : rkf P s = rkf P t := by
  have e1 : pn (kno P s) 10 = pn (kno P t) 10 := pn_eq (fun k _ => by
    unfold kno
    cases hp : inP P k with
    | false => rfl
    | true => rw [he k (inP_t hp)])
  have a := smv_le (P := P) (s := s) (t := t) (n := 10) (fun k _ hk => by rw [he k hk]; exact Int.le_refl _)
  have b := smv_le (P := P) (s := t) (t := s) (n := 10) (fun k _ hk => by rw [he k hk]; exact Int.le_refl _)
  unfold rkf
  rw [e1]; omega
/-- a rank grows while somebody is a GUEST -/
theorem sx_rank {P g se : Int} {h kn : Nat → Int} {x y : Int} (hP : 0 ≤ P ∧ P ≤ 10) (hg : 1 ≤ g ∧ g ≤ 3) (hx : WH x (sof x) P) (hs : SUX P g se h kn x y) (hgu : ∃ k, k < 10 ∧ gs P (sof x) k = true) : rkf P (sof x) < rkf P (sof y) := by
  obtain ⟨m, hm, hw⟩ := hs
  have ey : rkf P (sof y) = rkf P (nis P (sof x) g (bt m)) := rkf_w (fun k hk => sof_e hw hP.2 hk)
  rw [ey]
  have r1 := smv_rg hx.2.2 10
  have r2 := smv_rg hw.2.2 10
  have ok := mvs_ok hP hm
  have up : ∀ k : Nat, (k : Int) < P → kno P (sof x) k = true → kno P (nis P (sof x) g (bt m)) k = true := fun k hk hb => by
    unfold kno at *
    rw [Bool.and_eq_true, Bool.not_eq_true', beq_eq_false_iff_ne] at hb ⊢
    refine ⟨hb.1, ?_⟩
    unfold nis
    have := hx.2.2 k hk
    split
    · decide
    · split
      · split <;> omega
      · exact hb.2
  have kin : ∀ k, kno P (sof x) k = true → (k : Int) < P := fun k e => by unfold kno at e; rw [Bool.and_eq_true] at e; exact inP_t e.1
  rcases mvs_some hP hm with e | ⟨⟨o, ho, hb, hf⟩, _⟩
  · rw [e]
    rw [e] at up
    have gr : ∀ k : Nat, (k : Int) < P → gst (sof x k) = true → sof x k < nis P (sof x) g (bt 0) k := fun k hk hgk => by
      have h2 : 1 ≤ sof x k ∧ sof x k < 4 := of_decide_eq_true hgk
      unfold nis
      rw [bt_0, hgk]
      simp only [Bool.false_eq_true, if_false, if_true]
      split <;> omega
    have le : ∀ k : Nat, (k : Int) < P → sof x k ≤ nis P (sof x) g (bt 0) k := fun k hk => by
      cases hgk : gst (sof x k) with
      | true => have := gr k hk hgk; omega
      | false =>
        unfold nis
        rw [bt_0, hgk]
        simp
    obtain ⟨k, hk, hgk⟩ := hgu
    unfold gs at hgk
    rw [Bool.and_eq_true] at hgk
    have h1 := smv_lt (P := P) (s := sof x) (t := nis P (sof x) g (bt 0)) (n := 10) (fun k _ hk => le k hk) ⟨k, hk, inP_t hgk.1, gr k (inP_t hgk.1) hgk.2⟩
    have h2 := pn_mono (f := kno P (sof x)) (g := kno P (nis P (sof x) g (bt 0))) (n := 10) (fun k _ e => up k (kin k e) e)
    unfold rkf
    omega
  · have hfo := fre_sr hf
    have h2 := pn_lt (f := kno P (sof x)) (g := kno P (nis P (sof x) g (bt m))) (n := 10) (fun k _ e => up k (kin k e) e) ⟨o, ho, by unfold kno; rw [hfo.2.1]; simp, by
      unfold kno nis
      rw [hb, show inP P o = true from decide_eq_true hfo.1]; rfl⟩
    unfold rkf
    omega
/-! BITS OF A LONG -/
def b6 (x : Int) (k : Nat) : Bool := (Int64.ofInt x).toBitVec.getLsbD k
theorem b6_or (x y : Int) (k : Nat) : b6 (lor x y) k = (b6 x k || b6 y k) := by
  unfold b6 lor
  rw [Int64.ofInt_toInt, Int64.toBitVec_or, BitVec.getLsbD_or]
theorem b6_and (x y : Int) (k : Nat) : b6 (land x y) k = (b6 x k && b6 y k) := by
  unfold b6 land
  rw [Int64.ofInt_toInt, Int64.toBitVec_and, BitVec.getLsbD_and]
theorem b6_0 (k : Nat) : b6 0 k = false := by
  unfold b6
  rw [show (Int64.ofInt 0).toBitVec = 0#64 from by decide]
  exact BitVec.getLsbD_zero
theorem b6_1 {k : Nat} (hk : k < 64) : b6 1 k = decide (k = 0) := by
  have h1 : (List.range 64).all (fun k => b6 1 k == decide (k = 0)) = true := by decide +kernel
  exact eq_of_beq (List.all_eq_true.mp h1 k (List.mem_range.mpr hk))
theorem b6_all {k : Nat} (hk : k < 64) : b6 2305843009213693951 k = decide (k < 61) := by
  have h1 : (List.range 64).all (fun k => b6 2305843009213693951 k == decide (k < 61)) = true := by decide +kernel
  exact eq_of_beq (List.all_eq_true.mp h1 k (List.mem_range.mpr hk))
theorem b6_shl {x : Int} {k : Nat} (hk : k < 64) : b6 (lshl x 1) k = (decide (1 ≤ k) && b6 x (k - 1)) := by
  have h2 : (((Int32.ofInt 1).toInt64 &&& 63).toBitVec.smod 64) = 1#64 := by decide +kernel
  unfold b6 lshl
  rw [Int64.ofInt_toInt, Int64.toBitVec_shiftLeft, h2, BitVec.shiftLeft_eq', show (1#64).toNat = 1 from by decide, BitVec.getLsbD_shiftLeft, decide_eq_true hk, Bool.true_and]
  by_cases c : k < 1
  · rw [decide_eq_true c, decide_eq_false (show ¬ 1 ≤ k by omega)]; rfl
  · rw [decide_eq_false c, decide_eq_true (show 1 ≤ k by omega)]; rfl
theorem and1L (y : Int64) : (y &&& 1).toInt = if y.toBitVec.getLsbD 0 then 1 else 0 := by
  have e : (y &&& 1).toBitVec = BitVec.setWidth 64 (BitVec.ofBool (y.toBitVec.getLsbD 0)) := by
    rw [Int64.toBitVec_and]
    exact BitVec.and_one_eq_setWidth_ofBool_getLsbD
  have e2 : (y &&& 1).toInt = (y &&& 1).toBitVec.toInt := rfl
  rw [e2, e]
  cases y.toBitVec.getLsbD 0 <;> decide
/-- a bit asked for -/
theorem b6_ask {x t : Int} (ht : 0 ≤ t ∧ t < 64) : lcmp (land (lshr x t) 1) 0 = if b6 x t.toNat = true then 1 else 0 := by
  have hh : (List.range 64).all (fun k => decide ((((Int32.ofInt (k : Int)).toInt64 &&& 63).toBitVec.smod 64).toNat = k)) = true := by decide +kernel
  have h2 := of_decide_eq_true (List.all_eq_true.mp hh t.toNat (List.mem_range.mpr (by omega)))
  rw [Int.toNat_of_nonneg ht.1] at h2
  have h1 : land (lshr x t) 1 = if b6 x t.toNat then 1 else 0 := by
    unfold land lshr
    rw [Int64.ofInt_toInt, show Int64.ofInt 1 = 1 from by decide, and1L]
    have e : (Int64.ofInt x >>> ((Int32.ofInt t).toInt64 &&& 63)).toBitVec.getLsbD 0 = b6 x t.toNat := by
      rw [Int64.toBitVec_shiftRight, BitVec.sshiftRight', h2, BitVec.getLsbD_sshiftRight]
      unfold b6
      simp
      omega
    rw [e]
  rw [h1]
  unfold lcmp
  cases b6 x t.toNat <;> rfl
theorem b6_neg (x : Int) {k : Nat} (hk : k < 64) : b6 (w64 (-x)) k = (b6 x k ^^ decide (∃ j, j < k ∧ b6 x j = true)) := by
  unfold b6
  rw [i64_bmod, Int64.ofInt_neg, Int64.toBitVec_neg, BitVec.getLsbD_neg, decide_eq_true hk, Bool.true_and]
/-- from the lowest bit on -/
theorem b6_up (x : Int) {k : Nat} (hk : k < 61) : b6 (land (w64 (-(land x (w64 (-x))))) 2305843009213693951) k = decide (∃ j, j ≤ k ∧ b6 x j = true) := by
  rw [b6_and, b6_all (by omega), decide_eq_true hk, Bool.and_true, b6_neg _ (by omega)]
  have low : ∀ i, i < 64 → b6 (land x (w64 (-x))) i = (b6 x i && !decide (∃ j, j < i ∧ b6 x j = true)) := fun i hi => by
    rw [b6_and, b6_neg x hi]
    cases b6 x i <;> cases decide (∃ j, j < i ∧ b6 x j = true) <;> rfl
  -- the least of all, if there is one
  have least : ∀ n i, i ≤ n → b6 x i = true → ∃ j, j ≤ i ∧ b6 x j = true ∧ ∀ q, q < j → b6 x q = false := by
    intro n
    induction n with
    | zero => intro i hi hb; exact ⟨i, Nat.le_refl _, hb, fun q hq => by omega⟩
    | succ n ih =>
      intro i hi hb
      by_cases c : ∃ q, q < i ∧ b6 x q = true
      · obtain ⟨q, hq, e⟩ := c
        obtain ⟨j, hj, e2, e3⟩ := ih q (by omega) e
        exact ⟨j, by omega, e2, e3⟩
      · exact ⟨i, Nat.le_refl _, hb, fun q hq => by
          cases e : b6 x q with
          | false => rfl
          | true => exact absurd ⟨q, hq, e⟩ c⟩
  by_cases c : ∃ j, j ≤ k ∧ b6 x j = true
  · rw [decide_eq_true c]
    obtain ⟨i, hi, e⟩ := c
    obtain ⟨j, hj, e2, e3⟩ := least i i (Nat.le_refl _) e
    have nj : ¬ ∃ q, q < j ∧ b6 x q = true := fun ⟨q, hq, e4⟩ => by rw [e3 q hq] at e4; cases e4
    have lj : b6 (land x (w64 (-x))) j = true := by rw [low j (by omega), e2, decide_eq_false nj]; rfl
    by_cases cj : j = k
    · have : ¬ ∃ q, q < k ∧ b6 (land x (w64 (-x))) q = true := fun ⟨q, hq, e4⟩ => by
        rw [low q (by omega), e3 q (by omega)] at e4; cases e4
      rw [← cj] at this
      rw [← cj, lj, decide_eq_false this]; rfl
    · have : ∃ q, q < k ∧ b6 (land x (w64 (-x))) q = true := ⟨j, by omega, lj⟩
      rw [decide_eq_true this, low k (by omega), decide_eq_true (show ∃ q, q < k ∧ b6 x q = true from ⟨j, by omega, e2⟩)]
      simp
  · rw [decide_eq_false c]
    have f : ∀ i, i ≤ k → b6 x i = false := fun i hi => by
      cases e : b6 x i with
      | false => rfl
      | true => exact absurd ⟨i, hi, e⟩ c
    have : ¬ ∃ q, q < k ∧ b6 (land x (w64 (-x))) q = true := fun ⟨q, hq, e4⟩ => by
      rw [low q (by omega), f q (by omega)] at e4; cases e4
    rw [decide_eq_false this, low k (by omega), f k (Nat.le_refl _)]; rfl
/-! THE CLASS'S TABLE OF STATES -/
def shC (c : Int) : Nat := (irem (iush (w32 (c * (-1640531535))) 8) 8192).toNat
def slCx (c : Int) (j : Nat) : Nat := (shC c + j) % 8192
def MsC (w : Wd) (c : Int) (d : Nat) : Prop := ∀ j, j < d → w 29 (slCx c j) ≠ 0 ∧ w 30 (w 29 (slCx c j) - 1).toNat ≠ c
def FnC (w : Wd) (c : Int) (t : Nat) : Prop := ∃ d, d < 8192 ∧ MsC w c d ∧ w 29 (slCx c d) = (t : Int) + 1 ∧ w 30 t = c
def TC (w : Wd) : Prop := (∀ p q, p < 8192 → q < 8192 → w 29 p = w 29 q → w 29 p ≠ 0 → p = q) ∧ (∀ p, p < 8192 → 0 ≤ w 29 p ∧ w 29 p ≤ w 28 7) ∧ (0 ≤ w 28 7 ∧ w 28 7 ≤ 3000) ∧ ∀ k : Nat, (k : Int) < w 28 7 → FnC w (w 30 k) k
theorem slC_lt (c : Int) (j : Nat) : slCx c j < 8192 := Nat.mod_lt _ (by decide)
theorem fnC_one {w : Wd} {c : Int} {t t' : Nat} (h : FnC w c t) (h' : FnC w c t') : t = t' := by
  obtain ⟨d, hd, hm, e1, e2⟩ := h
  obtain ⟨d', hd', hm', e1', e2'⟩ := h'
  rcases Nat.lt_trichotomy d d' with h | h | h
  · have h1 := (hm' d h).2
    rw [e1] at h1
    exact absurd (by rw [show ((t : Int) + 1 - 1).toNat = t by omega]; exact e2) h1
  · subst h
    omega
  · have h1 := (hm d' h).2
    rw [e1'] at h1
    exact absurd (by rw [show ((t' : Int) + 1 - 1).toNat = t' by omega]; exact e2') h1
/-- no STATE stands twice -/
theorem tc_one {w : Wd} (h : TC w) {i j : Nat} (hi : (i : Int) < w 28 7) (hj : (j : Int) < w 28 7) (e : w 30 i = w 30 j) : i = j := by
  have h1 := h.2.2.2 i hi
  rw [e] at h1
  exact fnC_one h1 (h.2.2.2 j hj)
theorem tc_eq {w u : Wd} (h : TC w) (h29 : u 29 = w 29) (h30 : u 30 = w 30) (h7 : u 28 7 = w 28 7) : TC u := by
  unfold TC FnC MsC
  rw [h29, h30, h7]
  exact h
theorem tc_zero {w : Wd} (h : TC w) : ∃ p, p < 8192 ∧ w 29 p = 0 := by
  refine Classical.byContradiction fun hn => ?_
  have hnz : ∀ p, p < 8192 → w 29 p ≠ 0 := fun p hp e => hn ⟨p, hp, e⟩
  have h1 := php 3001 8192 (fun p => (w 29 p).toNat) (fun p hp => by
    have := h.2.1 p hp
    have := h.2.2.1
    show (w 29 p).toNat < 3001
    omega) (fun p q hp hq e => by
    have h1 := h.2.1 p hp
    have h2 := h.2.1 q hq
    exact h.1 p q hp hq (by have e' : (w 29 p).toNat = (w 29 q).toNat := e; omega) (hnz p hp))
  omega
theorem shC_lt (c : Int) : shC c < 8192 := by
  have r1 := iush_k 8 (x := w32 (c * (-1640531535))) (y := 8) (m := 16777215) rfl (by decide) (by decide) (by decide)
  have r2 := irem_rg2 (x := iush (w32 (c * (-1640531535))) 8) (c := 8192) (by decide) (by omega)
  unfold shC
  omega
theorem slo_pc {w : Wd} (h : TC w) {c : Int} : PC (f_S_slotOf c w) (fun r u => u = w ∧ (0 ≤ r ∧ r < 8192) ∧ ∃ d, d < 8192 ∧ r.toNat = slCx c d ∧ MsC w c d ∧ (w 29 r.toNat = 0 ∨ (w 29 r.toNat ≠ 0 ∧ w 30 (w 29 r.toNat - 1).toNat = c))) := by
  obtain ⟨p, hp, hz⟩ := tc_zero h
  have l14 : ∀ (n : Nat) {v2 v3 : Int}, (0 ≤ v2 ∧ v2 < 8192) → 0 ≤ v3 → v2.toNat = slCx c v3.toNat → MsC w c v3.toNat → PC (f_S_slotOf_14 n c v2 v3 w) (fun r u => u = w ∧ (0 ≤ r ∧ r < 8192) ∧ ∃ d, d < 8192 ∧ r.toNat = slCx c d ∧ MsC w c d ∧ (w 29 r.toNat = 0 ∨ (w 29 r.toNat ≠ 0 ∧ w 30 (w 29 r.toNat - 1).toNat = c))) := by
    intro n
    induction n with
    | zero => intros; exact pc_none
    | succ n ih =>
      intro v2 v3 i2 i3 e2 hm
      rw [f_S_slotOf_14]
      have hs : shC c < 8192 := shC_lt c
      have lt : v3 < 8192 := by
        refine Classical.byContradiction fun hn => ?_
        have := (hm ((p + 8192 - shC c) % 8192) (by omega)).1
        apply this
        rw [show slCx c ((p + 8192 - shC c) % 8192) = p by unfold slCx; omega]
        exact hz
      refine pc_ite (fun c0 => by omega) (fun _ => ?_)
      refine pc_gd (fun _ => pc_ite (fun c1 => pc_some ⟨rfl, i2, v3.toNat, by omega, e2, hm, Or.inl c1⟩) (fun c1 => ?_))
      have hr := h.2.1 v2.toNat (by omega)
      have h7 := h.2.2.1
      have z : w32 (w 29 v2.toNat - 1) = w 29 v2.toNat - 1 := w32_id (by omega)
      refine pc_gd (fun _ => pc_gd (fun _ => ?_))
      rw [z]
      refine pc_ite (fun c2 => pc_some ⟨rfl, i2, v3.toNat, by omega, e2, hm, Or.inr ⟨c1, c2⟩⟩) (fun c2 => ?_)
      rw [if_neg (by decide)]
      refine pc_let (fun x2 ex2 => pc_let (fun x3 ex3 => ?_))
      rw [w32_id (by omega)] at ex3
      rw [w32_id (show -2147483648 ≤ v2 + 1 ∧ v2 + 1 ≤ 2147483647 by omega), irem_k (by decide) (by omega)] at ex2
      rw [ex2, ex3]
      refine ih (by omega) (by omega) ?_ (fun j hj => ?_)
      · unfold slCx at *
        omega
      · by_cases cj : j < v3.toNat
        · exact hm j cj
        · rw [show j = v3.toNat by omega, ← e2]
          exact ⟨c1, c2⟩
  unfold f_S_slotOf
  rw [if_neg (by decide)]
  refine pc_let (fun x1 e1 => ?_)
  have r1 := iush_k 8 (x := w32 (c * (-1640531535))) (y := 8) (m := 16777215) rfl (by decide) (by decide) (by decide)
  have r2 := irem_rg2 (x := iush (w32 (c * (-1640531535))) 8) (c := 8192) (by decide) (by omega)
  refine l14 FU (v2 := x1) (v3 := 0) (by omega) (by decide) ?_ (fun j hj => by have : (0 : Int).toNat = 0 := rfl; omega)
  show x1.toNat = slCx c 0
  unfold slCx shC
  rw [← e1]
  omega
/-- a new STATE is laid -/
def NEWS (w u : Wd) (y wk rk : Int) : Prop := u 28 7 = w 28 7 + 1 ∧ (∀ k, k ≠ 7 → u 28 k = w 28 k) ∧ (∀ k, u 30 k = if k = (w 28 7).toNat then y else w 30 k) ∧ (∀ k, u 31 k = if k = (w 28 7).toNat then lor 0 wk else w 31 k) ∧ (∀ k, u 33 k = if k = (w 28 7).toNat then w 34 rk.toNat else w 33 k) ∧ (∀ k, u 34 k = if k = rk.toNat then w 28 7 else w 34 k) ∧ TC u ∧ ∀ c, c ≠ 28 → c ≠ 29 → c ≠ 30 → c ≠ 31 → c ≠ 33 → c ≠ 34 → u c = w c
def PLE (w u : Wd) (y wk rk : Int) : Prop := (u = st w 28 10 1 ∧ w 28 7 = 3000 ∧ ∀ t : Nat, (t : Int) < w 28 7 → w 30 t ≠ y) ∨ (∃ t : Nat, (t : Int) < w 28 7 ∧ w 30 t = y ∧ u = st w 31 t (lor (w 31 t) wk)) ∨ (w 28 7 < 3000 ∧ (∀ t : Nat, (t : Int) < w 28 7 → w 30 t ≠ y) ∧ NEWS w u y wk rk)
theorem place_pc {w : Wd} (h : TC w) {y wk rk : Int} (hr : f_O_rank y w = some (rk, w)) (hrk : 0 ≤ rk ∧ rk ≤ 450) : PC (f_S_place y wk w) (fun _ u => PLE w u y wk rk) := by
  unfold f_S_place
  refine pc_call (slo_pc h (c := y)) (fun r1 u2 q => ?_)
  obtain ⟨q1, q2, d, hd, q3, q4, q5⟩ := q
  rw [q1]
  refine pc_gd (fun _ => ?_)
  have h7 := h.2.2.1
  refine pc_ite (fun c => ?_) (fun c => ?_)
  · have nw : ∀ t : Nat, (t : Int) < w 28 7 → w 30 t ≠ y := fun t ht e => by
      have hf := h.2.2.2 t ht
      rw [e] at hf
      obtain ⟨d', hd', hm', e1', e2'⟩ := hf
      rcases Nat.lt_trichotomy d d' with h | h | h
      · have h1 := (hm' d h).1
        rw [← q3] at h1
        exact h1 c
      · subst h
        rw [← q3, c] at e1'
        omega
      · have h1 := (q4 d' h).2
        rw [e1'] at h1
        exact absurd (by rw [show ((t : Int) + 1 - 1).toNat = t by omega]; exact e2') h1
    rw [hr, jc_s]
    refine pc_ite (fun c3 => ?_) (fun c3 => ?_)
    · unfold f_S_place_46
      exact pc_lw (fun u7 e7 => pc_some (Or.inl ⟨e7, by omega, nw⟩))
    refine pc_ite (fun c4 => by omega) (fun _ => ?_)
    refine pc_ite (fun _ => ?_) (fun c5 => by omega)
    refine pc_gd (fun _ => pc_lw (fun u8 e8 => pc_gd (fun _ => pc_lw (fun u9 e9 => pc_gd (fun _ => pc_gd (fun _ => pc_lw (fun u10 e10 => pc_gd (fun _ => pc_lw (fun u11 e11 => pc_lw (fun u12 e12 => pc_gd (fun _ => pc_lw (fun u13 e13 => ?_))))))))))))
    have s8 : u8 28 7 = w 28 7 := by rw [e8, st_c (by decide)]
    have s9 : u9 28 7 = w 28 7 := by rw [e9, st_c (by decide)]; exact s8
    have s10 : u10 28 7 = w 28 7 := by rw [e10, st_c (by decide)]; exact s9
    have s11 : u11 28 7 = w 28 7 := by rw [e11, st_c (by decide)]; exact s10
    have s12 : u12 28 7 = w 28 7 + 1 := by rw [e12, st_eq, s11]; exact w32_id (by omega)
    have s13 : u13 28 7 = w 28 7 + 1 := by rw [e13, st_c (by decide)]; exact s12
    rw [s8] at e9
    rw [s9] at e10
    rw [s10] at e11
    rw [s12] at e13
    have a29 : ∀ k, u13 29 k = if k = r1.toNat then w 28 7 + 1 else w 29 k := fun k => by
      rw [e13]
      by_cases ck : k = r1.toNat
      · rw [if_pos ck, ck, st_eq]
      · rw [if_neg ck, st_k ck, e12, st_c (by decide), e11, st_c (by decide), e10, st_c (by decide), e9, st_c (by decide), e8, st_c (by decide)]
    have a30 : ∀ k, u13 30 k = if k = (w 28 7).toNat then y else w 30 k := fun k => by
      rw [e13, st_c (by decide), e12, st_c (by decide), e11, st_c (by decide), e10, st_c (by decide), e9, st_c (by decide), e8]
      by_cases ck : k = (w 28 7).toNat
      · rw [if_pos ck, ck, st_eq]
      · rw [if_neg ck, st_k ck]
    have a31 : ∀ k, u13 31 k = if k = (w 28 7).toNat then 0 else w 31 k := fun k => by
      rw [e13, st_c (by decide), e12, st_c (by decide), e11, st_c (by decide), e10, st_c (by decide), e9]
      by_cases ck : k = (w 28 7).toNat
      · rw [if_pos ck, ck, st_eq]
      · rw [if_neg ck, st_k ck, e8, st_c (by decide)]
    have a33 : ∀ k, u13 33 k = if k = (w 28 7).toNat then w 34 rk.toNat else w 33 k := fun k => by
      rw [e13, st_c (by decide), e12, st_c (by decide), e11, st_c (by decide), e10]
      by_cases ck : k = (w 28 7).toNat
      · rw [if_pos ck, ck, st_eq, e9, st_c (by decide), e8, st_c (by decide)]
      · rw [if_neg ck, st_k ck, e9, st_c (by decide), e8, st_c (by decide)]
    have a34 : ∀ k, u13 34 k = if k = rk.toNat then w 28 7 else w 34 k := fun k => by
      rw [e13, st_c (by decide), e12, st_c (by decide), e11]
      by_cases ck : k = rk.toNat
      · rw [if_pos ck, ck, st_eq]
      · rw [if_neg ck, st_k ck, e10, st_c (by decide), e9, st_c (by decide), e8, st_c (by decide)]
    have aot : ∀ c, c ≠ 28 → c ≠ 29 → c ≠ 30 → c ≠ 31 → c ≠ 33 → c ≠ 34 → u13 c = w c := fun c x1 x2 x3 x4 x5 x6 => by
      rw [e13, st_row x2, e12, st_row x1, e11, st_row x6, e10, st_row x5, e9, st_row x4, e8, st_row x3]
    have a28 : ∀ k, k ≠ 7 → u13 28 k = w 28 k := fun k hk => by
      rw [e13, st_c (by decide), e12, st_k hk, e11, st_c (by decide), e10, st_c (by decide), e9, st_c (by decide), e8, st_c (by decide)]
    have hms : ∀ c d, MsC w c d → MsC u13 c d := fun c' d' hm j hj => by
      obtain ⟨h1, h2⟩ := hm j hj
      have hne : slCx c' j ≠ r1.toNat := fun e => h1 (by rw [e]; exact c)
      have r3 := h.2.1 (slCx c' j) (slC_lt c' j)
      rw [a29, if_neg hne]
      refine ⟨h1, ?_⟩
      rw [a30, if_neg (by omega)]
      exact h2
    have hT : TC u13 := by
      refine ⟨fun p q hp hq e hn => ?_, fun p hp => ?_, by rw [s13]; omega, fun k hk => ?_⟩
      · rw [a29, a29] at e
        rw [a29] at hn
        have rp := h.2.1 p hp
        have rq := h.2.1 q hq
        by_cases h1 : p = r1.toNat <;> by_cases h2 : q = r1.toNat
        · rw [h1, h2]
        · rw [if_pos h1, if_neg h2] at e
          omega
        · rw [if_neg h1, if_pos h2] at e
          omega
        · rw [if_neg h1, if_neg h2] at e
          rw [if_neg h1] at hn
          exact h.1 p q hp hq e hn
      · rw [a29, s13]
        have rp := h.2.1 p hp
        split <;> omega
      · rw [s13] at hk
        by_cases ck : k = (w 28 7).toNat
        · rw [a30, if_pos ck]
          refine ⟨d, hd, hms y d q4, ?_, by rw [a30, if_pos ck]⟩
          rw [← q3, a29, if_pos rfl]; omega
        · have hk2 : (k : Int) < w 28 7 := by omega
          rw [a30, if_neg ck]
          obtain ⟨d', hd', hm', e1', e2'⟩ := h.2.2.2 k hk2
          have hne : slCx (w 30 k) d' ≠ r1.toNat := fun e => by rw [e, c] at e1'; omega
          exact ⟨d', hd', hms _ _ hm', by rw [a29, if_neg hne]; exact e1', by rw [a30, if_neg ck]⟩
    unfold f_S_place_120
    have b1 : u13 29 r1.toNat = w 28 7 + 1 := by rw [a29, if_pos rfl]
    rw [b1, show w32 (w 28 7 + 1 - 1) = w 28 7 from (w32_id (by omega)).trans (by omega)]
    refine pc_gd (fun _ => pc_let (fun x3 e3 => pc_gd (fun _ => pc_gd (fun _ => pc_lw (fun u4 e4 => pc_some (Or.inr (Or.inr ⟨by omega, nw, ?_⟩)))))))
    rw [e3] at e4
    rw [show u13 31 (w 28 7).toNat = 0 by rw [a31, if_pos rfl]] at e4
    refine ⟨by rw [e4, st_c (by decide)]; exact s13, fun k hk => by rw [e4, st_c (by decide)]; exact a28 k hk, fun k => by rw [e4, st_c (by decide)]; exact a30 k, fun k => ?_, fun k => by rw [e4, st_c (by decide)]; exact a33 k, fun k => by rw [e4, st_c (by decide)]; exact a34 k, tc_eq hT (by rw [e4, st_row (by decide)]) (by rw [e4, st_row (by decide)]) (by rw [e4, st_c (by decide)]), fun c x1 x2 x3 x4 x5 x6 => by rw [e4, st_row x4]; exact aot c x1 x2 x3 x4 x5 x6⟩
    rw [e4]
    by_cases ck : k = (w 28 7).toNat
    · rw [if_pos ck, ck, st_eq]
    · rw [if_neg ck, st_k ck, a31, if_neg ck]
  · obtain ⟨c1, c2⟩ := q5.resolve_left c
    have rr := h.2.1 r1.toNat (by omega)
    unfold f_S_place_120
    rw [show w32 (w 29 r1.toNat - 1) = w 29 r1.toNat - 1 from w32_id (by omega)]
    refine pc_gd (fun _ => pc_let (fun x3 e3 => pc_gd (fun _ => pc_gd (fun _ => pc_lw (fun u4 e4 => pc_some (Or.inr (Or.inl ⟨x3.toNat, by omega, by rw [e3]; exact c2, e4⟩)))))))
/-! THE CLASS'S SEARCH -/
def CW (P g se : Int) (h kn : Nat → Int) (x0 : Int) (w : Wd) : Prop := w 5 3 = P ∧ B10 (w 5 5) (hB P h) ∧ w 5 7 = g ∧ w 5 8 = se ∧ w 5 4 = x0 ∧ ∀ j : Nat, (j : Int) < P → w 7 j = kn j ∧ 0 ≤ kn j ∧ kn j ≤ 1023
theorem cw_eq {P g se : Int} {h kn : Nat → Int} {x0 : Int} {w u : Wd} (hw : CW P g se h kn x0 w) (h5 : u 5 = w 5) (h7 : u 7 = w 7) : CW P g se h kn x0 u := by
  unfold CW
  rw [h5, h7]; exact hw
def rkx (P x : Int) : Int := rkf P (sof x)
def SI0 (P g se : Int) (h kn : Nat → Int) (x0 : Int) (w : Wd) : Prop := TC w ∧ ∀ k : Nat, (k : Int) < w 28 7 → (∃ t, RCX P g se h kn x0 t (w 30 k)) ∧ ∀ t, t < 61 → b6 (w 31 k) t = true → RCX P g se h kn x0 t (w 30 k)
def PRO (w : Wd) (k : Nat) : Prop := ∃ j : Nat, (j : Int) < w 28 8 ∧ w 35 j = (k : Int)
def CLSx (P g se : Int) (h kn : Nat → Int) (w : Wd) (k : Nat) : Prop := ∀ y, SUX P g se h kn (w 30 k) y → ∃ j : Nat, (j : Int) < w 28 7 ∧ w 30 j = y ∧ ∀ t, t + 1 < 61 → b6 (w 31 k) t = true → b6 (w 31 j) (t + 1) = true
def chn (f : Nat → Int) : Int → List Nat → Prop
  | z, [] => z = -1
  | z, k :: l => z = (k : Int) ∧ chn f (f k) l
theorem chn_eq {f g : Nat → Int} : ∀ {l : List Nat} {z : Int}, (∀ k, k ∈ l → f k = g k) → chn f z l → chn g z l := by
  intro l
  induction l with
  | nil => intro z _ h; exact h
  | cons k l ih =>
    intro z he h
    refine ⟨h.1, ?_⟩
    rw [← he k List.mem_cons_self]
    exact ih (fun q hq => he q (List.mem_cons_of_mem _ hq)) h.2
def BKT (P : Int) (w : Wd) : Prop := ∀ r : Nat, r < 451 → ∃ l : List Nat, chn (w 33) (w 34 r) l ∧ l.Nodup ∧ ∀ k : Nat, k ∈ l ↔ ((k : Int) < w 28 7 ∧ rkx P (w 30 k) = (r : Int) ∧ ¬ PRO w k)
def ORD (w : Wd) : Prop := (0 ≤ w 28 8 ∧ w 28 8 ≤ w 28 7) ∧ (∀ j : Nat, (j : Int) < w 28 8 → 0 ≤ w 35 j ∧ w 35 j < w 28 7) ∧ ∀ i j : Nat, (i : Int) < w 28 8 → (j : Int) < w 28 8 → w 35 i = w 35 j → i = j
def MNY (P g se : Int) (h kn : Nat → Int) (x0 : Int) : Prop := ∃ F : Nat → Int, (∀ i, i < 3001 → ∃ t, RCX P g se h kn x0 t (F i)) ∧ ∀ i j, i < 3001 → j < 3001 → F i = F j → i = j
def COR (P g se : Int) (h kn : Nat → Int) (x0 v3 s : Int) (w : Wd) : Prop := SI0 P g se h kn x0 w ∧ ORD w ∧ BKT P w ∧ (∀ k, PRO w k → rkx P (w 30 k) ≤ v3 ∧ ((k : Int) ≠ s → CLSx P g se h kn w k)) ∧ ∀ k : Nat, (k : Int) < w 28 7 → rkx P (w 30 k) < v3 → PRO w k
/-- more is known, nothing is lost -/
def GRW (w u : Wd) (y : Int) : Prop := w 28 7 ≤ u 28 7 ∧ ∀ k : Nat, (k : Int) < w 28 7 → u 30 k = w 30 k ∧ (∀ t, t < 61 → b6 (w 31 k) t = true → b6 (u 31 k) t = true) ∧ (w 30 k ≠ y → u 31 k = w 31 k)
theorem cls_grw {P g se : Int} {h kn : Nat → Int} {w u : Wd} {y : Int} {k : Nat} (hk : (k : Int) < w 28 7) (hg : GRW w u y) (hn : w 30 k ≠ y) (hc : CLSx P g se h kn w k) : CLSx P g se h kn u k := by
  intro z hz
  obtain ⟨a1, _, a3⟩ := hg.2 k hk
  rw [a1] at hz
  obtain ⟨j, hj, ej, ht⟩ := hc z hz
  obtain ⟨b1, b2, _⟩ := hg.2 j hj
  have := hg.1
  refine ⟨j, by omega, by rw [b1]; exact ej, fun t h61 hb => b2 (t + 1) h61 (ht t h61 ?_)⟩
  rw [a3 hn] at hb; exact hb
theorem pro_eq {w u : Wd} (h8 : u 28 8 = w 28 8) (h35 : u 35 = w 35) (k : Nat) : PRO u k ↔ PRO w k := by
  unfold PRO
  rw [h8, h35]
theorem pro_lt {w : Wd} (ho : ORD w) {k : Nat} (hp : PRO w k) : (k : Int) < w 28 7 := by
  obtain ⟨j, hj, e⟩ := hp
  have := (ho.2.1 j hj).2
  omega
theorem cor_place {P g se : Int} {h kn : Nat → Int} {x0 v3 s : Int} {w u : Wd} {y wk : Int} (hc : COR P g se h kn x0 v3 s w) (hy : WH y (sof y) P) (hv : v3 < rkx P y) (hr : ∃ t, RCX P g se h kn x0 t y) (hb : ∀ t, t < 61 → b6 wk t = true → RCX P g se h kn x0 t y) (hp : PLE w u y wk (rkx P y)) : (u = st w 28 10 1 ∧ MNY P g se h kn x0) ∨ (COR P g se h kn x0 v3 s u ∧ u 28 10 = w 28 10 ∧ GRW w u y ∧ (∃ j : Nat, (j : Int) < u 28 7 ∧ u 30 j = y ∧ ∀ t, t < 61 → b6 wk t = true → b6 (u 31 j) t = true) ∧ (∀ c, c ≠ 28 → c ≠ 29 → c ≠ 30 → c ≠ 31 → c ≠ 33 → c ≠ 34 → u c = w c) ∧ u 28 8 = w 28 8 ∧ u 28 9 = w 28 9) := by
  obtain ⟨⟨c1, c2⟩, c3, c4, c5, c6⟩ := hc
  have h7 := c1.2.2.1
  rcases hp with ⟨e, e7, nw⟩ | ⟨t, ht, et, e⟩ | ⟨lt, nw, n7, n28, n30, n31, n33, n34, nT, not⟩
  · refine Or.inl ⟨e, fun i => if i < 3000 then w 30 i else y, fun i hi => ?_, fun i j hi hj e2 => ?_⟩
    · by_cases c : i < 3000
      · show ∃ t, RCX P g se h kn x0 t (if i < 3000 then w 30 i else y)
        rw [if_pos c]; exact (c2 i (by omega)).1
      · show ∃ t, RCX P g se h kn x0 t (if i < 3000 then w 30 i else y)
        rw [if_neg c]; exact hr
    · have e3 : (if i < 3000 then w 30 i else y) = (if j < 3000 then w 30 j else y) := e2
      by_cases ci : i < 3000 <;> by_cases cj : j < 3000
      · rw [if_pos ci, if_pos cj] at e3
        exact tc_one c1 (by omega) (by omega) e3
      · rw [if_pos ci, if_neg cj] at e3
        exact absurd e3 (nw i (by omega))
      · rw [if_neg ci, if_pos cj] at e3
        exact absurd e3.symm (nw j (by omega))
      · omega
  · have r7 : u 28 7 = w 28 7 := by rw [e, st_c (by decide)]
    have r8 : u 28 8 = w 28 8 := by rw [e, st_c (by decide)]
    have ro : ∀ c, c ≠ 31 → u c = w c := fun c hc => by rw [e, st_row hc]
    have a31 : ∀ k, u 31 k = if k = t then lor (w 31 t) wk else w 31 k := fun k => by
      rw [e]
      by_cases ck : k = t
      · rw [if_pos ck, ck, st_eq]
      · rw [if_neg ck, st_k ck]
    have hg : GRW w u y := ⟨by omega, fun k hk => ⟨by rw [ro 30 (by decide)], fun q _ hq => by
      rw [a31]
      by_cases ck : k = t
      · rw [if_pos ck, b6_or, ← ck, hq]; rfl
      · rw [if_neg ck]; exact hq, fun hn => by
      rw [a31, if_neg (fun ck => hn (by rw [ck]; exact et))]⟩⟩
    refine Or.inr ⟨⟨⟨tc_eq c1 (ro 29 (by decide)) (ro 30 (by decide)) r7, fun k hk => ?_⟩, ?_, ?_, fun k hk => ?_, fun k hk hlt => ?_⟩, by rw [e, st_c (by decide)], hg, ⟨t, by omega, by rw [ro 30 (by decide)]; exact et, fun q _ hq => by rw [a31, if_pos rfl, b6_or, hq, Bool.or_true]⟩, fun c _ _ _ x4 _ _ => ro c x4, r8, by rw [e, st_c (by decide)]⟩
    · rw [ro 30 (by decide)]
      rw [r7] at hk
      refine ⟨(c2 k hk).1, fun q h61 hq => ?_⟩
      rw [a31] at hq
      by_cases ck : k = t
      · rw [if_pos ck, b6_or, Bool.or_eq_true] at hq
        rcases hq with hq | hq
        · rw [ck]; exact (c2 t ht).2 q h61 hq
        · rw [ck, et]; exact hb q h61 hq
      · rw [if_neg ck] at hq
        exact (c2 k hk).2 q h61 hq
    · unfold ORD
      rw [r7, r8, ro 35 (by decide)]; exact c3
    · intro r hr'
      obtain ⟨l, l1, l2, l3⟩ := c4 r hr'
      refine ⟨l, by rw [ro 33 (by decide), ro 34 (by decide)]; exact l1, l2, fun k => ?_⟩
      rw [r7, ro 30 (by decide), pro_eq r8 (ro 35 (by decide))]
      exact l3 k
    · have hk' := (pro_eq r8 (ro 35 (by decide)) k).mp hk
      have q := c5 k hk'
      have hkl := pro_lt c3 hk'
      rw [ro 30 (by decide)]
      refine ⟨q.1, fun hn => cls_grw hkl hg (fun ey => ?_) (q.2 hn)⟩
      rw [ey] at q
      have := q.1
      omega
    · rw [pro_eq r8 (ro 35 (by decide))]
      rw [r7] at hk
      rw [ro 30 (by decide)] at hlt
      exact c6 k hk hlt
  · have r8 : u 28 8 = w 28 8 := n28 8 (by decide)
    have r35 : u 35 = w 35 := not 35 (by decide) (by decide) (by decide) (by decide) (by decide) (by decide)
    have o30 : ∀ k : Nat, (k : Int) < w 28 7 → u 30 k = w 30 k := fun k hk => by rw [n30, if_neg (by omega)]
    have o31 : ∀ k : Nat, (k : Int) < w 28 7 → u 31 k = w 31 k := fun k hk => by rw [n31, if_neg (by omega)]
    have z30 : u 30 (w 28 7).toNat = y := by rw [n30, if_pos rfl]
    have z31 : u 31 (w 28 7).toNat = lor 0 wk := by rw [n31, if_pos rfl]
    have hg : GRW w u y := ⟨by omega, fun k hk => ⟨o30 k hk, fun q _ hq => by rw [o31 k hk]; exact hq, fun _ => o31 k hk⟩⟩
    have pl : ∀ k, PRO u k ↔ PRO w k := pro_eq r8 r35
    refine Or.inr ⟨⟨⟨nT, fun k hk => ?_⟩, ?_, ?_, fun k hk => ?_, fun k hk hlt => ?_⟩, n28 10 (by decide), hg, ⟨(w 28 7).toNat, by omega, z30, fun q _ hq => by rw [z31, b6_or, hq, Bool.or_true]⟩, not, r8, n28 9 (by decide)⟩
    · by_cases ck : (k : Int) < w 28 7
      · rw [o30 k ck, o31 k ck]; exact c2 k ck
      · rw [show k = (w 28 7).toNat by omega, z30, z31]
        refine ⟨hr, fun q h61 hq => hb q h61 ?_⟩
        rw [b6_or, b6_0, Bool.false_or] at hq; exact hq
    · unfold ORD
      rw [r8, r35, n7]
      have c31 := c3.1
      exact ⟨by omega, fun j hj => by have := c3.2.1 j hj; omega, c3.2.2⟩
    · intro r hr'
      obtain ⟨l, l1, l2, l3⟩ := c4 r hr'
      have lm : ∀ k, k ∈ l → w 33 k = u 33 k := fun k hk => by
        have := ((l3 k).mp hk).1
        rw [n33, if_neg (by omega)]
      have nl : (w 28 7).toNat ∉ l := fun hm => by
        have := ((l3 _).mp hm).1
        omega
      have np : ¬ PRO w (w 28 7).toNat := fun hp => by
        have := pro_lt c3 hp
        omega
      by_cases cr : r = (rkx P y).toNat
      · have er : (r : Int) = rkx P y := by
          have := (rkf_rg hy.2.2).1
          have e : rkx P y = rkf P (sof y) := rfl
          omega
        refine ⟨(w 28 7).toNat :: l, ?_, List.nodup_cons.mpr ⟨nl, l2⟩, fun k => ?_⟩
        · refine ⟨by rw [n34, if_pos cr]; omega, ?_⟩
          rw [n33, if_pos rfl, ← cr]
          exact chn_eq lm l1
        · rw [List.mem_cons, pl, l3, n7]
          by_cases ck : k = (w 28 7).toNat
          · rw [ck, z30]
            exact ⟨fun _ => ⟨by omega, er.symm, np⟩, fun _ => Or.inl rfl⟩
          · constructor
            · rintro (e | ⟨h1, h2, h3⟩)
              · exact absurd e ck
              · rw [o30 k h1]; exact ⟨by omega, h2, h3⟩
            · rintro ⟨h1, h2, h3⟩
              have h1' : (k : Int) < w 28 7 := by omega
              rw [o30 k h1'] at h2
              exact Or.inr ⟨h1', h2, h3⟩
      · refine ⟨l, ?_, l2, fun k => ?_⟩
        · rw [n34, if_neg cr]; exact chn_eq lm l1
        · rw [pl, l3, n7]
          by_cases ck : k = (w 28 7).toNat
          · rw [ck, z30]
            constructor
            · rintro ⟨h1, _⟩; omega
            · rintro ⟨_, h2, _⟩
              exact absurd (by rw [h2]; omega) cr
          · constructor
            · rintro ⟨h1, h2, h3⟩
              rw [o30 k h1]; exact ⟨by omega, h2, h3⟩
            · rintro ⟨h1, h2, h3⟩
              have h1' : (k : Int) < w 28 7 := by omega
              rw [o30 k h1'] at h2
              exact ⟨h1', h2, h3⟩
    · have hk' := (pl k).mp hk
      have q := c5 k hk'
      have hkl := pro_lt c3 hk'
      rw [o30 k hkl]
      refine ⟨q.1, fun hn => cls_grw hkl hg (fun ey => ?_) (q.2 hn)⟩
      rw [ey] at q
      have := q.1
      omega
    · rw [pl]
      by_cases ck : (k : Int) < w 28 7
      · rw [o30 k ck] at hlt
        exact c6 k ck hlt
      · rw [show k = (w 28 7).toNat by omega, z30] at hlt
        omega
/-- one STATE's own loop: where nobody is a GUEST -/
theorem cor_no {P g se : Int} {h kn : Nat → Int} {x0 v3 : Int} {w u : Wd} {s : Nat} (hP : 0 ≤ P ∧ P ≤ 10) (h0 : WH x0 (sof x0) P) (hc : COR P g se h kn x0 v3 s w) (hs : (s : Int) < w 28 7) (hn : ∀ k, k < 10 → gs P (sof (w 30 s)) k = false) (e : u = st w 31 s (land (w64 (-(land (w 31 s) (w64 (-(w 31 s)))))) 2305843009213693951)) : COR P g se h kn x0 v3 (-1) u ∧ GRW w u (w 30 s) := by
  obtain ⟨⟨c1, c2⟩, c3, c4, c5, c6⟩ := hc
  have hx : WH (w 30 s) (sof (w 30 s)) P := by
    obtain ⟨t, ht⟩ := (c2 s hs).1
    exact rx_wh hP h0 ht
  have r7 : u 28 7 = w 28 7 := by rw [e, st_c (by decide)]
  have r8 : u 28 8 = w 28 8 := by rw [e, st_c (by decide)]
  have ro : ∀ c, c ≠ 31 → u c = w c := fun c hc => by rw [e, st_row hc]
  have a31 : ∀ k, k ≠ s → u 31 k = w 31 k := fun k hk => by rw [e, st_k hk]
  have s31 : ∀ t, t < 61 → b6 (u 31 s) t = decide (∃ j, j ≤ t ∧ b6 (w 31 s) j = true) := fun t ht => by rw [e, st_eq]; exact b6_up _ ht
  have hg : GRW w u (w 30 s) := ⟨by omega, fun k hk => ⟨by rw [ro 30 (by decide)], fun q h61 hq => by
    by_cases ck : k = s
    · rw [ck, s31 q h61]
      rw [ck] at hq
      exact decide_eq_true ⟨q, Nat.le_refl _, hq⟩
    · rw [a31 k ck]; exact hq, fun hn => a31 k (fun ck => hn (by rw [ck]))⟩⟩
  have pl := pro_eq r8 (ro 35 (by decide))
  have stay : ∀ (d t : Nat), RCX P g se h kn x0 t (w 30 s) → RCX P g se h kn x0 (t + d) (w 30 s) := by
    intro d
    induction d with
    | zero => intro t ht; exact ht
    | succ d ih => intro t ht; exact ⟨w 30 s, ih t ht, (sx_no hP hx hn).mpr rfl⟩
  refine ⟨⟨⟨tc_eq c1 (ro 29 (by decide)) (ro 30 (by decide)) r7, fun k hk => ?_⟩, ?_, ?_, fun k hk => ?_, fun k hk hlt => ?_⟩, hg⟩
  · rw [r7] at hk
    rw [ro 30 (by decide)]
    refine ⟨(c2 k hk).1, fun t h61 hq => ?_⟩
    by_cases ck : k = s
    · rw [ck, s31 t h61, decide_eq_true_iff] at hq
      obtain ⟨j, hj, hb⟩ := hq
      have := stay (t - j) j ((c2 s hs).2 j (by omega) hb)
      rw [show j + (t - j) = t by omega] at this
      rw [ck]; exact this
    · rw [a31 k ck] at hq
      exact (c2 k hk).2 t h61 hq
  · unfold ORD
    rw [r7, r8, ro 35 (by decide)]; exact c3
  · intro r hr'
    obtain ⟨l, l1, l2, l3⟩ := c4 r hr'
    refine ⟨l, by rw [ro 33 (by decide), ro 34 (by decide)]; exact l1, l2, fun k => ?_⟩
    rw [r7, ro 30 (by decide), pl]
    exact l3 k
  · have hk' := (pl k).mp hk
    have q := c5 k hk'
    have hkl := pro_lt c3 hk'
    rw [ro 30 (by decide)]
    refine ⟨q.1, fun _ => ?_⟩
    by_cases ck : k = s
    · intro z hz
      rw [ro 30 (by decide), ck, sx_no hP hx hn] at hz
      refine ⟨s, by omega, by rw [ro 30 (by decide)]; exact hz.symm, fun t h61 hb => ?_⟩
      rw [ck, s31 t (by omega), decide_eq_true_iff] at hb
      rw [s31 (t + 1) h61, decide_eq_true_iff]
      obtain ⟨j, hj, hb⟩ := hb
      exact ⟨j, by omega, hb⟩
    · have hne : w 30 k ≠ w 30 s := fun e2 => ck (tc_one c1 hkl hs e2)
      exact cls_grw hkl hg hne (q.2 (by omega))
  · rw [pl]
    rw [r7] at hk
    rw [ro 30 (by decide)] at hlt
    exact c6 k hk hlt
/-! ONE STATE AFTER THE OTHER -/
/-- what stays while the class searches -/
def FRS (w u : Wd) : Prop := (∀ c, c ≠ 24 → c ≠ 25 → c ≠ 26 → c ≠ 27 → c ≠ 28 → c ≠ 29 → c ≠ 30 → c ≠ 31 → c ≠ 33 → c ≠ 34 → c ≠ 35 → u c = w c) ∧ u 28 9 = w 28 9
theorem frs_tr {w u v : Wd} (h : FRS w u) (h2 : FRS u v) : FRS w v := ⟨fun c a1 a2 a3 a4 a5 a6 a7 a8 a9 a10 a11 => (h2.1 c a1 a2 a3 a4 a5 a6 a7 a8 a9 a10 a11).trans (h.1 c a1 a2 a3 a4 a5 a6 a7 a8 a9 a10 a11), h2.2.trans h.2⟩
theorem frs_self (w : Wd) : FRS w w := ⟨fun _ _ _ _ _ _ _ _ _ _ _ _ => rfl, rfl⟩
theorem frs_5 {w u : Wd} (h : FRS w u) : u 5 = w 5 := h.1 5 (by decide) (by decide) (by decide) (by decide) (by decide) (by decide) (by decide) (by decide) (by decide) (by decide) (by decide)
theorem frs_7 {w u : Wd} (h : FRS w u) : u 7 = w 7 := h.1 7 (by decide) (by decide) (by decide) (by decide) (by decide) (by decide) (by decide) (by decide) (by decide) (by decide) (by decide)
theorem cor_eq {P g se : Int} {h kn : Nat → Int} {x0 v3 s : Int} {w u : Wd} (hc : COR P g se h kn x0 v3 s w) (h7 : u 28 7 = w 28 7) (h8 : u 28 8 = w 28 8) (h29 : u 29 = w 29) (h30 : u 30 = w 30) (h31 : u 31 = w 31) (h33 : u 33 = w 33) (h34 : u 34 = w 34) (h35 : u 35 = w 35) : COR P g se h kn x0 v3 s u := by
  obtain ⟨⟨c1, c2⟩, c3, c4, c5, c6⟩ := hc
  refine ⟨⟨tc_eq c1 h29 h30 h7, ?_⟩, ?_, ?_, ?_, ?_⟩
  · rw [h7, h30, h31]; exact c2
  · unfold ORD; rw [h7, h8, h35]; exact c3
  · unfold BKT PRO; rw [h7, h8, h30, h33, h34, h35]; exact c4
  · unfold PRO CLSx; rw [h7, h8, h30, h31, h35]; exact c5
  · unfold PRO; rw [h7, h8, h30, h35]; exact c6
theorem sgu_pc {P : Int} {w : Wd} {s : Int} (hs : 0 ≤ s ∧ s < w 28 7) (hx : WH (w 30 s.toNat) (sof (w 30 s.toNat)) P) : PC (f_S_guests s w) (fun r u => u = w ∧ B10 r (gs P (sof (w 30 s.toNat)))) := by
  unfold f_S_guests
  rw [if_neg (by omega), if_neg (by omega)]
  refine pc_gd (fun _ => ?_)
  obtain ⟨r, e, b⟩ := og_e hx w
  rw [e, jc_s]
  exact pc_some ⟨rfl, b⟩
theorem b10_some {x : Int} {f : Nat → Bool} (h : B10 x f) : (x = 0 ∧ ∀ k, k < 10 → f k = false) ∨ (x ≠ 0 ∧ ∃ k, k < 10 ∧ f k = true) := by
  by_cases c : ∃ k, k < 10 ∧ f k = true
  · refine Or.inr ⟨fun e => ?_, c⟩
    obtain ⟨k, hk, e2⟩ := c
    have := h.2 k hk
    rw [e, bt_0, e2] at this; cases this
  · have f0 : ∀ k, k < 10 → f k = false := fun k hk => by
      cases e : f k with
      | false => rfl
      | true => exact absurd ⟨k, hk, e⟩ c
    exact Or.inl ⟨b10_eq h b10_0 f0, f0⟩
/-- the end of one STATE's turn -/
def TRN (P g se : Int) (h kn : Nat → Int) (x0 v3 : Int) (w u : Wd) : Prop := FRS w u ∧ (ROK u ∧ u 24 4 ≤ w 24 4 + 1) ∧ u 28 8 = w 28 8 ∧ u 35 = w 35 ∧ ((u 28 10 = 0 ∧ COR P g se h kn x0 v3 (-1) u ∧ w 28 7 ≤ u 28 7 ∧ ∀ k : Nat, (k : Int) < w 28 7 → u 30 k = w 30 k ∧ ∀ t, t < 61 → b6 (w 31 k) t = true → b6 (u 31 k) t = true) ∨ (u 28 10 = 1 ∧ MNY P g se h kn x0))
theorem goOn_pc {P g se : Int} {h kn : Nat → Int} {x0 v3 s : Int} {w : Wd} (hP : 0 ≤ P ∧ P ≤ 10) (hg : 1 ≤ g ∧ g ≤ 3) (h0 : WH x0 (sof x0) P) (hw : CW P g se h kn x0 w) (hc : COR P g se h kn x0 v3 s w) (hs : 0 ≤ s ∧ s < w 28 7) (hrk : rkx P (w 30 s.toNat) = v3) (hto : w 28 10 = 0) (hr : ROK w) (hlt : w 24 4 < 2147483647) : PC (f_S_goOn s w) (fun _ u => TRN P g se h kn x0 v3 w u) := by
  have es : ((s.toNat : Nat) : Int) = s := by omega
  have hre := (hc.1.2 s.toNat (by omega)).1
  have hx : WH (w 30 s.toNat) (sof (w 30 s.toNat)) P := by
    obtain ⟨t, ht⟩ := hre
    exact rx_wh hP h0 ht
  have hsz := hc.1.1.2.2.1
  unfold f_S_goOn
  refine pc_call (sgu_pc hs hx) (fun r1 u2 q => ?_)
  rw [q.1]
  rcases b10_some q.2 with ⟨e, hn⟩ | ⟨e, hgu⟩
  · refine pc_ite (fun _ => ?_) (fun c => absurd e c)
    refine pc_gd (fun _ => pc_gd (fun _ => pc_gd (fun _ => pc_lw (fun u e12 => pc_some ?_))))
    rw [← es] at hc
    obtain ⟨a1, a2⟩ := cor_no hP h0 hc (by omega) hn e12
    have r24 : u 24 = w 24 := by rw [e12, st_row (by decide)]
    have r27 : u 27 = w 27 := by rw [e12, st_row (by decide)]
    have r28 : u 28 = w 28 := by rw [e12, st_row (by decide)]
    refine ⟨⟨fun c _ _ _ _ _ _ _ x8 _ _ _ => by rw [e12, st_row x8], by rw [r28]⟩, ⟨by unfold ROK; rw [r24, r27]; exact hr, by rw [r24]; omega⟩, by rw [r28], by rw [e12, st_row (by decide)], Or.inl ⟨by rw [r28]; exact hto, a1, a2.1, fun k hk => ⟨(a2.2 k hk).1, (a2.2 k hk).2.1⟩⟩⟩
  · refine pc_ite (fun c => absurd c e) (fun _ => ?_)
    refine pc_gd (fun _ => ?_)
    obtain ⟨w3, w5, w7, w8, w4, wk⟩ := hw
    rw [w8]
    refine pc_call (gat_pc (kn := kn) hP hx w3 w5 hg w7 wk hr hlt) (fun r3 u4 z => ?_)
    obtain ⟨z1, ⟨z2, z3⟩, z4, z5, z6⟩ := z
    have h252 : u4 24 3 ≤ 256 := by
      have hz := z5.1
      have := mov_few hP (gs_fre (P := P) (s := sof (w 30 s.toNat)) (h := h)) (n := (u4 24 3).toNat) (F := u4 25) (fun j hj => (z5.2.1 j (by omega)).2) (fun i j hi hj e => z5.2.2.1 i j (by omega) (by omega) e)
      omega
    have y28 : u4 28 = w 28 := z1 28 (by decide) (by decide) (by decide) (by decide)
    have y31 : u4 31 = w 31 := z1 31 (by decide) (by decide) (by decide) (by decide)
    have y30 : u4 30 = w 30 := z1 30 (by decide) (by decide) (by decide) (by decide)
    have hc4 : COR P g se h kn x0 v3 s u4 := cor_eq hc (by rw [y28]) (by rw [y28]) (z1 29 (by decide) (by decide) (by decide) (by decide)) y30 y31 (z1 33 (by decide) (by decide) (by decide) (by decide)) (z1 34 (by decide) (by decide) (by decide) (by decide)) (z1 35 (by decide) (by decide) (by decide) (by decide))
    have fin : ∀ u : Wd, (∀ c, c ≠ 28 → c ≠ 29 → c ≠ 30 → c ≠ 31 → c ≠ 33 → c ≠ 34 → u c = u4 c) → u 28 8 = w 28 8 → u 28 9 = w 28 9 → FRS w u ∧ (ROK u ∧ u 24 4 ≤ w 24 4 + 1) ∧ u 28 8 = w 28 8 ∧ u 35 = w 35 := fun u hu h8 h9 => by
      refine ⟨⟨fun c x1 x2 x3 x4 x5 x6 x7 x8 x9 x10 x11 => ?_, h9⟩, ⟨?_, ?_⟩, h8, by rw [hu 35 (by decide) (by decide) (by decide) (by decide) (by decide) (by decide), z1 35 (by decide) (by decide) (by decide) (by decide)]⟩
      · rw [hu c x5 x6 x7 x8 x9 x10, z1 c x1 x2 x3 x4]
      · unfold ROK
        rw [hu 24 (by decide) (by decide) (by decide) (by decide) (by decide) (by decide), hu 27 (by decide) (by decide) (by decide) (by decide) (by decide) (by decide)]; exact z3
      · rw [hu 24 (by decide) (by decide) (by decide) (by decide) (by decide) (by decide), z2]; exact Int.le_refl _
    -- the moves in their order
    have loop : ∀ (n : Nat) {v4 : Int} {u : Wd}, 0 ≤ v4 → (∀ c, c ≠ 28 → c ≠ 29 → c ≠ 30 → c ≠ 31 → c ≠ 33 → c ≠ 34 → u c = u4 c) → u 28 8 = w 28 8 → u 28 9 = w 28 9 → ((u 28 10 = 1 ∧ MNY P g se h kn x0) ∨ (u 28 10 = 0 ∧ COR P g se h kn x0 v3 s u ∧ w 28 7 ≤ u 28 7 ∧ (∀ k : Nat, (k : Int) < w 28 7 → u 30 k = w 30 k ∧ ∀ t, t < 61 → b6 (w 31 k) t = true → b6 (u 31 k) t = true) ∧ u 31 s.toNat = w 31 s.toNat ∧ ∀ k : Nat, (k : Int) < v4 → (k : Int) < u4 24 3 → ∀ y, WH y (nis P (sof (w 30 s.toNat)) g (bt (u4 25 k))) P → ∃ j : Nat, (j : Int) < u 28 7 ∧ u 30 j = y ∧ ∀ t, t + 1 < 61 → b6 (w 31 s.toNat) t = true → b6 (u 31 j) (t + 1) = true)) → PC (f_S_goOn_52 n s v4 u) (fun _ u => TRN P g se h kn x0 v3 w u) := by
      intro n
      induction n with
      | zero => intros; exact pc_none
      | succ n ih =>
        intro v4 u i4 hu h8 h9 hd
        rw [f_S_goOn_52, hu 24 (by decide) (by decide) (by decide) (by decide) (by decide) (by decide)]
        obtain ⟨f1, f2, f3, f4⟩ := fin u hu h8 h9
        refine pc_ite (fun c => pc_some ⟨f1, f2, f3, f4, ?_⟩) (fun c => ?_)
        · rcases hd with d1 | ⟨d1, d2, d3, d4, d5, d6⟩
          · exact Or.inr d1
          · obtain ⟨k1, k2, k3, k4, k5⟩ := d2
            refine Or.inl ⟨d1, ⟨k1, k2, k3, fun k hk => ⟨(k4 k hk).1, fun _ => ?_⟩, k5⟩, d3, d4⟩
            by_cases ck : (k : Int) = s
            · intro y hy
              rw [show k = s.toNat by omega] at hy ⊢
              rw [(d4 s.toNat (by omega)).1] at hy
              obtain ⟨m, hm, hwy⟩ := hy
              obtain ⟨i, hi, ei⟩ := z6 m hm
              rw [← ei] at hwy
              obtain ⟨j, hj, ej, hb⟩ := d6 i (by omega) hi y hwy
              exact ⟨j, hj, ej, fun t h61 hbt => hb t h61 (by rw [d5] at hbt; exact hbt)⟩
            · exact (k4 k hk).2 ck
        · refine pc_ite (fun c0 => ?_) (fun c0 => pc_some ⟨f1, f2, f3, f4, ?_⟩)
          · rcases hd with ⟨d1, _⟩ | ⟨d1, d2, d3, d4, d5, d6⟩
            · omega
            refine pc_gd (fun _ => ?_)
            refine pc_call (mo_pc (k := v4) (u := u) (by rw [hu 24 (by decide) (by decide) (by decide) (by decide) (by decide) (by decide)]; omega)) (fun r5 u6 q5 => ?_)
            rw [q5.1, q5.2, hu 25 (by decide) (by decide) (by decide) (by decide) (by decide) (by decide), (d4 s.toNat (by omega)).1]
            have hm := (z5.2.1 v4.toNat (by omega)).2
            have u57 : u 5 7 = g := by rw [hu 5 (by decide) (by decide) (by decide) (by decide) (by decide) (by decide), z1 5 (by decide) (by decide) (by decide) (by decide)]; exact w7
            rw [u57]
            obtain ⟨y, ey, hy⟩ := after_e (v := u4 25 v4.toNat) hx hP hg (b10_self (mvs_who hP hm).1) (mvs_ok hP hm) u
            rw [ey, jc_s]
            refine pc_gd (fun _ => ?_)
            have hys := wh_sof hy hP.2
            have hsx : SUX P g se h kn (w 30 s.toNat) y := ⟨_, hm, hy⟩
            have hup : v3 < rkx P y := by
              have := sx_rank hP hg hx hsx hgu
              unfold rkx at hrk ⊢
              omega
            have hbits : ∀ t, t < 61 → b6 (land (lshl (u 31 s.toNat) 1) 2305843009213693951) t = true → 1 ≤ t ∧ b6 (w 31 s.toNat) (t - 1) = true := fun t h61 hb => by
              rw [b6_and, b6_shl (by omega), d5, Bool.and_eq_true, Bool.and_eq_true, decide_eq_true_iff] at hb
              exact hb.1
            have rs := hc.1.2 s.toNat (by omega)
            have hrt : ∀ t, t < 61 → b6 (land (lshl (u 31 s.toNat) 1) 2305843009213693951) t = true → RCX P g se h kn x0 t y := fun t h61 hb => by
              obtain ⟨b1, b2⟩ := hbits t h61 hb
              rw [show t = t - 1 + 1 by omega]
              exact ⟨_, rs.2 (t - 1) (by omega) b2, hsx⟩
            refine pc_call (place_pc d2.1.1 (orank_e hys u) (rkf_rg hys.2.2)) (fun r9 v pl => pc_let (fun x11 e11 => ?_))
            rw [w32_id (by omega)] at e11
            rw [e11]
            rcases cor_place d2 hys hup (by obtain ⟨t, ht⟩ := hre; exact ⟨t + 1, _, ht, hsx⟩) hrt pl with ⟨e2, hm2⟩ | ⟨p1, p2, p3, ⟨j, hj, ej, hb⟩, p5, p6, p7⟩
            · refine ih (by omega) (fun c a1 a2 a3 a4 a5 a6 => by rw [e2, st_row a1]; exact hu c a1 a2 a3 a4 a5 a6) (by rw [e2, st_k (by decide)]; exact h8) (by rw [e2, st_k (by decide)]; exact h9) (Or.inl ⟨by rw [e2, st_eq], hm2⟩)
            · have hne : ∀ k : Nat, (k : Int) < u 28 7 → rkx P (u 30 k) ≤ v3 → u 30 k ≠ y := fun k _ hle e => by rw [e] at hle; omega
              have s30 : u 30 s.toNat = w 30 s.toNat := (d4 s.toNat (by omega)).1
              refine ih (by omega) (fun c a1 a2 a3 a4 a5 a6 => (p5 c a1 a2 a3 a4 a5 a6).trans (hu c a1 a2 a3 a4 a5 a6)) (p6.trans h8) (p7.trans h9) (Or.inr ⟨p2.trans d1, p1, by have := p3.1; omega, fun k hk => ?_, ?_, fun k hk hk2 y' hy' => ?_⟩)
              · obtain ⟨g1, g2, _⟩ := p3.2 k (by omega)
                exact ⟨g1.trans (d4 k hk).1, fun t h61 hb => g2 t h61 ((d4 k hk).2 t h61 hb)⟩
              · obtain ⟨_, _, g3⟩ := p3.2 s.toNat (by omega)
                rw [g3 (hne _ (by omega) (by rw [s30]; omega)), d5]
              · by_cases ck : (k : Int) < v4
                · obtain ⟨j', hj', ej', hb'⟩ := d6 k ck hk2 y' hy'
                  obtain ⟨g1, g2, _⟩ := p3.2 j' hj'
                  have := p3.1
                  exact ⟨j', by omega, g1.trans ej', fun t h61 hbt => g2 (t + 1) h61 (hb' t h61 hbt)⟩
                · rw [show k = v4.toNat by omega] at hy'
                  have eyy : y' = y := wh_inj hy' hy (fun _ _ => rfl)
                  refine ⟨j, hj, by rw [eyy]; exact ej, fun t h61 hbt => hb (t + 1) h61 ?_⟩
                  rw [b6_and, b6_all (by omega), decide_eq_true h61, Bool.and_true, b6_shl (by omega), decide_eq_true (show 1 ≤ t + 1 by omega), d5, show t + 1 - 1 = t by omega, hbt]; rfl
          · rcases hd with d1 | ⟨d1, _⟩
            · exact Or.inr d1
            · omega
    refine loop FU (by decide) (fun c _ _ _ _ _ _ => rfl) (by rw [y28]) (by rw [y28]) (Or.inr ⟨by rw [y28]; exact hto, hc4, by rw [y28]; exact Int.le_refl _, fun k hk => ⟨by rw [y30], fun t _ hb => by rw [y31]; exact hb⟩, by rw [y31], fun k hk => by omega⟩)
/-! THE WHOLE SEARCH -/
def XST (x0 : Int) (w : Wd) : Prop := ∃ k : Nat, (k : Int) < w 28 7 ∧ w 30 k = x0 ∧ b6 (w 31 k) 0 = true
def ORK (P : Int) (w : Wd) : Prop := ∀ i j : Nat, i < j → (j : Int) < w 28 8 → rkx P (w 30 (w 35 i).toNat) ≤ rkx P (w 30 (w 35 j).toNat)
def RST (P g se : Int) (h kn : Nat → Int) (x0 v3 R : Int) (b w : Wd) : Prop := FRS b w ∧ (ROK w ∧ w 24 4 ≤ R + w 28 8) ∧ (0 ≤ w 28 8 ∧ w 28 8 ≤ 3000) ∧ ((w 28 10 = 1 ∧ MNY P g se h kn x0) ∨ (w 28 10 = 0 ∧ COR P g se h kn x0 v3 (-1) w ∧ XST x0 w ∧ ORK P w))
theorem rst_next {P g se : Int} {h kn : Nat → Int} {x0 R : Int} {v3 : Nat} {b w : Wd} (hs : RST P g se h kn x0 v3 R b w) (hv : v3 < 451) (he : (3000 : Int) ≤ w 28 8 ∨ w 34 v3 = -1 ∨ w 28 10 ≠ 0) : RST P g se h kn x0 ((v3 : Int) + 1) R b w := by
  obtain ⟨a1, a2, a3, a4⟩ := hs
  refine ⟨a1, a2, a3, ?_⟩
  rcases a4 with a4 | ⟨a4, a5, a6, a7⟩
  · exact Or.inl a4
  · refine Or.inr ⟨a4, ?_, a6, a7⟩
    obtain ⟨c1, c2, c3, c4, c5⟩ := a5
    obtain ⟨l, l1, l2, l3⟩ := c3 v3 hv
    have h7 := c1.1.2.2.1
    have hl : l = [] := by
      cases l with
      | nil => rfl
      | cons k l =>
        exfalso
        obtain ⟨k1, k2, k3⟩ := (l3 k).mp List.mem_cons_self
        rcases he with e | e | e
        · have h1 := php (w 28 7).toNat ((w 28 8).toNat + 1) (fun i => if i < (w 28 8).toNat then (w 35 i).toNat else k) (fun i hi => by
            show (if i < (w 28 8).toNat then (w 35 i).toNat else k) < (w 28 7).toNat
            by_cases ci : i < (w 28 8).toNat
            · rw [if_pos ci]; have := c2.2.1 i (by omega); omega
            · rw [if_neg ci]; omega) (fun i j hi hj e2 => by
            have e3 : (if i < (w 28 8).toNat then (w 35 i).toNat else k) = (if j < (w 28 8).toNat then (w 35 j).toNat else k) := e2
            by_cases ci : i < (w 28 8).toNat <;> by_cases cj : j < (w 28 8).toNat
            · rw [if_pos ci, if_pos cj] at e3
              have r1 := c2.2.1 i (by omega)
              have r2 := c2.2.1 j (by omega)
              exact c2.2.2 i j (by omega) (by omega) (by omega)
            · rw [if_pos ci, if_neg cj] at e3
              have r1 := c2.2.1 i (by omega)
              exact absurd ⟨i, by omega, by omega⟩ k3
            · rw [if_neg ci, if_pos cj] at e3
              have r1 := c2.2.1 j (by omega)
              exact absurd ⟨j, by omega, by omega⟩ k3
            · omega)
          omega
        · have := l1.1
          rw [e] at this; omega
        · exact e a4
    refine ⟨c1, c2, c3, fun k hk => ⟨by have := (c4 k hk).1; omega, (c4 k hk).2⟩, fun k hk hlt => ?_⟩
    by_cases c : rkx P (w 30 k) < (v3 : Int)
    · exact c5 k hk c
    · refine Classical.byContradiction fun hn => ?_
      have := (l3 k).mpr ⟨hk, by omega, hn⟩
      rw [hl] at this
      cases this
/-- the first of a rank is taken -/
theorem cor_pop {P g se : Int} {h kn : Nat → Int} {x0 : Int} {v3 : Nat} {w u7 u8 u9 : Wd} (hc : COR P g se h kn x0 v3 (-1) w) (ho : ORK P w) (hv : v3 < 451) (hne : w 34 v3 ≠ -1) (e7 : u7 = st w 34 v3 (w 33 (w 34 v3).toNat)) (e8 : u8 = st u7 35 (u7 28 8).toNat (w 34 v3)) (e9 : u9 = st u8 28 8 (w 28 8 + 1)) : COR P g se h kn x0 v3 (w 34 v3) u9 ∧ ORK P u9 ∧ (0 ≤ w 34 v3 ∧ w 34 v3 < w 28 7) ∧ rkx P (w 30 (w 34 v3).toNat) = (v3 : Int) ∧ u9 28 8 ≤ w 28 7 := by
  obtain ⟨c1, c2, c3, c4, c5⟩ := hc
  obtain ⟨l, l1, l2, l3⟩ := c3 v3 hv
  cases l with
  | nil => exact absurd l1 hne
  | cons s l =>
    obtain ⟨es, l1⟩ := l1
    obtain ⟨k1, k2, k3⟩ := (l3 s).mp List.mem_cons_self
    obtain ⟨nl, l2⟩ := List.nodup_cons.mp l2
    rw [es] at e7 e8 ⊢
    have ets : ((s : Nat) : Int).toNat = s := by omega
    rw [ets] at e7 ⊢
    have d7 : u7 28 8 = w 28 8 := by rw [e7, st_c (by decide)]
    rw [d7] at e8
    have z8 : u9 28 8 = w 28 8 + 1 := by rw [e9, st_eq]
    have z28 : ∀ k, k ≠ 8 → u9 28 k = w 28 k := fun k hk => by rw [e9, st_k hk, e8, st_c (by decide), e7, st_c (by decide)]
    have z35 : ∀ k, u9 35 k = if k = (w 28 8).toNat then (s : Int) else w 35 k := fun k => by
      rw [e9, st_c (by decide), e8]
      by_cases ck : k = (w 28 8).toNat
      · rw [if_pos ck, ck, st_eq]
      · rw [if_neg ck, st_k ck, e7, st_c (by decide)]
    have z34 : ∀ k, u9 34 k = if k = v3 then w 33 s else w 34 k := fun k => by
      rw [e9, st_c (by decide), e8, st_c (by decide), e7]
      by_cases ck : k = v3
      · rw [if_pos ck, ck, st_eq]
      · rw [if_neg ck, st_k ck]
    have zr : ∀ c, c ≠ 28 → c ≠ 34 → c ≠ 35 → u9 c = w c := fun c a1 a2 a3 => by rw [e9, st_row a1, e8, st_row a3, e7, st_row a2]
    have z7 : u9 28 7 = w 28 7 := z28 7 (by decide)
    have z30 : u9 30 = w 30 := zr 30 (by decide) (by decide) (by decide)
    have z31 : u9 31 = w 31 := zr 31 (by decide) (by decide) (by decide)
    have z33 : u9 33 = w 33 := zr 33 (by decide) (by decide) (by decide)
    have h8 := c2.1
    have pr : ∀ q, PRO u9 q ↔ (PRO w q ∨ q = s) := fun q => by
      constructor
      · rintro ⟨j, hj, e⟩
        rw [z35] at e
        by_cases cj : j = (w 28 8).toNat
        · rw [if_pos cj] at e; exact Or.inr (by omega)
        · rw [if_neg cj] at e; exact Or.inl ⟨j, by omega, e⟩
      · rintro (⟨j, hj, e⟩ | e)
        · exact ⟨j, by omega, by rw [z35, if_neg (by omega)]; exact e⟩
        · exact ⟨(w 28 8).toNat, by omega, by rw [z35, if_pos rfl, e]⟩
    have nd : ∀ j : Nat, (j : Int) < w 28 8 → w 35 j ≠ (s : Int) := fun j hj e => k3 ⟨j, hj, e⟩
    -- one more has its turn: no more than there are
    have cnt : w 28 8 + 1 ≤ w 28 7 := by
      have h1 := php (w 28 7).toNat ((w 28 8).toNat + 1) (fun i => if i < (w 28 8).toNat then (w 35 i).toNat else s) (fun i hi => by
        show (if i < (w 28 8).toNat then (w 35 i).toNat else s) < (w 28 7).toNat
        by_cases ci : i < (w 28 8).toNat
        · rw [if_pos ci]; have := c2.2.1 i (by omega); omega
        · rw [if_neg ci]; omega) (fun i j hi hj e2 => by
        have e3 : (if i < (w 28 8).toNat then (w 35 i).toNat else s) = (if j < (w 28 8).toNat then (w 35 j).toNat else s) := e2
        by_cases ci : i < (w 28 8).toNat <;> by_cases cj : j < (w 28 8).toNat
        · rw [if_pos ci, if_pos cj] at e3
          have r1 := c2.2.1 i (by omega)
          have r2 := c2.2.1 j (by omega)
          exact c2.2.2 i j (by omega) (by omega) (by omega)
        · rw [if_pos ci, if_neg cj] at e3
          have r1 := c2.2.1 i (by omega)
          exact absurd (by omega) (nd i (by omega))
        · rw [if_neg ci, if_pos cj] at e3
          have r1 := c2.2.1 j (by omega)
          exact absurd (by omega) (nd j (by omega))
        · omega)
      omega
    refine ⟨⟨⟨tc_eq c1.1 (zr 29 (by decide) (by decide) (by decide)) z30 z7, by rw [z7, z30, z31]; exact c1.2⟩, ⟨by omega, fun j hj => ?_, fun i j hi hj e => ?_⟩, fun r hr => ?_, fun k hk => ?_, fun k hk hlt => ?_⟩, fun i j hij hj => ?_, ⟨by omega, k1⟩, k2, by omega⟩
    · rw [z35, z7]
      by_cases cj : j = (w 28 8).toNat
      · rw [if_pos cj]; omega
      · rw [if_neg cj]; exact c2.2.1 j (by omega)
    · rw [z35, z35] at e
      by_cases ci : i = (w 28 8).toNat <;> by_cases cj : j = (w 28 8).toNat
      · omega
      · rw [if_pos ci, if_neg cj] at e
        exact absurd e.symm (nd j (by omega))
      · rw [if_neg ci, if_pos cj] at e
        exact absurd e (nd i (by omega))
      · rw [if_neg ci, if_neg cj] at e
        exact c2.2.2 i j (by omega) (by omega) e
    · by_cases cr : r = v3
      · refine ⟨l, by rw [z33, z34, if_pos cr]; exact l1, l2, fun k => ?_⟩
        have := l3 k
        rw [List.mem_cons] at this
        rw [z7, z30, pr, cr]
        constructor
        · intro hm
          obtain ⟨q1, q2, q3⟩ := this.mp (Or.inr hm)
          exact ⟨q1, q2, fun hp => hp.elim q3 (fun e => nl (by rw [← e]; exact hm))⟩
        · rintro ⟨q1, q2, q3⟩
          rcases this.mpr ⟨q1, q2, fun hp => q3 (Or.inl hp)⟩ with e | e
          · exact absurd (Or.inr e) q3
          · exact e
      · obtain ⟨l', m1, m2, m3⟩ := c3 r hr
        refine ⟨l', by rw [z33, z34, if_neg cr]; exact m1, m2, fun k => ?_⟩
        rw [m3, z7, z30, pr]
        constructor
        · rintro ⟨q1, q2, q3⟩
          refine ⟨q1, q2, fun hp => hp.elim q3 (fun e => ?_)⟩
          rw [e, k2] at q2
          omega
        · rintro ⟨q1, q2, q3⟩
          exact ⟨q1, q2, fun hp => q3 (Or.inl hp)⟩
    · rw [z30]
      rcases (pr k).mp hk with hp | e
      · have q := c4 k hp
        refine ⟨q.1, fun _ => ?_⟩
        unfold CLSx
        rw [z7, z30, z31]
        exact q.2 (by omega)
      · rw [e]
        exact ⟨by rw [k2]; exact Int.le_refl _, fun hn => absurd rfl hn⟩
    · rw [pr]
      rw [z7] at hk
      rw [z30] at hlt
      exact Or.inl (c5 k hk hlt)
    · rw [z30, z35, z35]
      by_cases cj : j = (w 28 8).toNat
      · rw [if_pos cj, if_neg (by omega), ets, k2]
        have r1 := c2.2.1 i (by omega)
        exact (c4 (w 35 i).toNat ⟨i, by omega, by omega⟩).1
      · rw [if_neg cj, if_neg (by omega)]
        exact ho i j hij (by omega)
theorem run42 {P g se : Int} {h kn : Nat → Int} {x0 R : Int} {b : Wd} {k35 : Int → Wd → Option (Int × Wd)} {Q : Int → Wd → Prop} {v3 : Nat} (hP : 0 ≤ P ∧ P ≤ 10) (hg : 1 ≤ g ∧ g ≤ 3) (h0 : WH x0 (sof x0) P) (hb : CW P g se h kn x0 b) (hR : 0 ≤ R ∧ R ≤ 2147480000) (hv : v3 < 451) (hk : ∀ w, RST P g se h kn x0 ((v3 : Int) + 1) R b w → PC (k35 ((v3 : Int) + 1) w) Q) : ∀ (n : Nat) {w : Wd}, RST P g se h kn x0 v3 R b w → PC (f_S_run_42 k35 n v3 w) Q := by
  intro n
  induction n with
  | zero => intros; exact pc_none
  | succ n ih =>
    intro w hs
    rw [f_S_run_42]
    have nx : ((3000 : Int) ≤ w 28 8 ∨ w 34 v3 = -1 ∨ w 28 10 ≠ 0) → PC (f_S_run_122 k35 v3 w) Q := fun he => by
      unfold f_S_run_122
      refine pc_let (fun x e => ?_)
      rw [w32_id (by omega)] at e
      rw [e]
      exact hk w (rst_next hs hv he)
    have ev : ((v3 : Nat) : Int).toNat = v3 := by omega
    rw [ev]
    refine pc_ite (fun c => nx (Or.inl c)) (fun c1 => pc_gd (fun _ => ?_))
    refine pc_ite (fun c => nx (Or.inr (Or.inl c))) (fun c2 => ?_)
    refine pc_ite (fun c3 => ?_) (fun c => nx (Or.inr (Or.inr c)))
    obtain ⟨a1, a2, a3, a4⟩ := hs
    obtain ⟨_, a5, a6, a7⟩ : w 28 10 = 0 ∧ COR P g se h kn x0 v3 (-1) w ∧ XST x0 w ∧ ORK P w := by
      rcases a4 with a4 | a4
      · have := a4.1; omega
      · exact a4
    refine pc_gd (fun _ => pc_let (fun x6 e6 => pc_gd (fun _ => pc_gd (fun _ => pc_lw (fun u7 e7 => pc_gd (fun _ => pc_lw (fun u8 e8 => pc_lw (fun u9 e9 => ?_))))))))
    rw [e6] at e7 e8 ⊢
    have d8 : u8 28 8 = w 28 8 := by rw [e8, st_c (by decide), e7, st_c (by decide)]
    rw [d8, w32_id (by omega)] at e9
    obtain ⟨p1, p2, p3, p4, p5⟩ := cor_pop a5 a7 hv c2 e7 e8 e9
    have zr : ∀ c, c ≠ 28 → c ≠ 34 → c ≠ 35 → u9 c = w c := fun c a1 a2 a3 => by rw [e9, st_row a1, e8, st_row a3, e7, st_row a2]
    have z28 : ∀ k, k ≠ 8 → u9 28 k = w 28 k := fun k hk => by rw [e9, st_k hk, e8, st_c (by decide), e7, st_c (by decide)]
    have z8 : u9 28 8 = w 28 8 + 1 := by rw [e9, st_eq]
    have f9 : FRS w u9 := ⟨fun c x1 x2 x3 x4 x5 x6 x7 x8 x9 x10 x11 => zr c x5 x10 x11, z28 9 (by decide)⟩
    have fb := frs_tr a1 f9
    have r24 : u9 24 = w 24 := zr 24 (by decide) (by decide) (by decide)
    have r27 : u9 27 = w 27 := zr 27 (by decide) (by decide) (by decide)
    refine pc_call (goOn_pc (s := w 34 v3) hP hg h0 (cw_eq hb (frs_5 fb) (frs_7 fb)) p1 (by rw [z28 7 (by decide)]; exact p3) (by rw [zr 30 (by decide) (by decide) (by decide)]; exact p4) (by rw [z28 10 (by decide)]; exact c3) (by unfold ROK; rw [r24, r27]; exact a2.1) (by rw [r24]; omega)) (fun r10 u11 t => ?_)
    obtain ⟨t1, t2, t3, t35, t4⟩ := t
    rw [r24] at t2
    refine ih ⟨frs_tr fb t1, ⟨t2.1, by omega⟩, by omega, ?_⟩
    rcases t4 with ⟨t4, t5, t6, t7⟩ | t4
    · refine Or.inr ⟨t4, t5, ?_, fun i j hij hj => ?_⟩
      · obtain ⟨k, k1, k2, k3⟩ := a6
        have e7' := z28 7 (by decide)
        obtain ⟨q1, q2⟩ := t7 k (by omega)
        refine ⟨k, by omega, ?_, q2 0 (by decide) ?_⟩
        · rw [q1, zr 30 (by decide) (by decide) (by decide)]; exact k2
        · rw [zr 31 (by decide) (by decide) (by decide)]; exact k3
      · rw [t35]
        have o1 := p1.2.1
        have ri := o1.2.1 i (by omega)
        have rj := o1.2.1 j (by omega)
        rw [(t7 (u9 35 i).toNat (by omega)).1, (t7 (u9 35 j).toNat (by omega)).1]
        exact p2 i j hij (by omega)
    · exact Or.inl t4
/-- what the class's search found, where it ended well -/
def SRC (P g se : Int) (h kn : Nat → Int) (x0 : Int) (w : Wd) : Prop := SI0 P g se h kn x0 w ∧ XST x0 w ∧ (∀ k : Nat, (k : Int) < w 28 7 → CLSx P g se h kn w k) ∧ ORD w ∧ (∀ k : Nat, (k : Int) < w 28 7 → PRO w k) ∧ ORK P w
theorem run35 {P g se : Int} {h kn : Nat → Int} {x0 R : Int} {b : Wd} (hP : 0 ≤ P ∧ P ≤ 10) (hg : 1 ≤ g ∧ g ≤ 3) (h0 : WH x0 (sof x0) P) (hb : CW P g se h kn x0 b) (hR : 0 ≤ R ∧ R ≤ 2147480000) : ∀ (n : Nat) {v3 : Int} {w : Wd}, 0 ≤ v3 → v3 ≤ 451 → RST P g se h kn x0 v3 R b w → PC (f_S_run_35 n v3 w) (fun r u => FRS b u ∧ (ROK u ∧ u 24 4 ≤ R + 3000) ∧ ((r = 1 ∧ u 28 10 = 0 ∧ SRC P g se h kn x0 u) ∨ (r = 0 ∧ u 28 10 = 1 ∧ MNY P g se h kn x0))) := by
  intro n
  induction n with
  | zero => intros; exact pc_none
  | succ n ih =>
    intro v3 w i3 i3' hs
    rw [f_S_run_35]
    refine pc_ite (fun c => ?_) (fun c => ?_)
    · obtain ⟨a1, a2, a3, a4⟩ := hs
      rcases a4 with a4 | ⟨a4, a5, a6, a7⟩
      · refine pc_ite (fun e => by have := a4.1; omega) (fun _ => pc_some ⟨a1, ⟨a2.1, by omega⟩, Or.inr ⟨rfl, a4⟩⟩)
      · refine pc_ite (fun _ => pc_some ⟨a1, ⟨a2.1, by omega⟩, Or.inl ⟨rfl, a4, ?_⟩⟩) (fun e => absurd a4 e)
        obtain ⟨c1, c2, c3, c4, c5⟩ := a5
        have all : ∀ k : Nat, (k : Int) < w 28 7 → PRO w k := fun k hk => c5 k hk (by
          obtain ⟨t, ht⟩ := (c1.2 k hk).1
          have := (rkf_rg (rx_wh hP h0 ht).2.2).2
          have e : rkx P (w 30 k) = rkf P (sof (w 30 k)) := rfl
          omega)
        exact ⟨c1, a6, fun k hk => (c4 k (all k hk)).2 (by omega), c2, all, a7⟩
    · have e : v3 = ((v3.toNat : Nat) : Int) := by omega
      rw [e] at hs ⊢
      exact run42 hP hg h0 hb hR (by omega) (fun w' hw' => ih (by omega) (by omega) hw') FU hs
/-- the table is emptied -/
theorem fill29 : ∀ (n : Nat) {v2 : Int} {w : Wd}, 0 ≤ v2 → v2 ≤ 8192 → (∀ k : Nat, (k : Int) < v2 → w 29 k = 0) → PC (f_JA_fill_29_5 n 0 v2 8192 w) (fun _ u => (∀ k : Nat, k < 8192 → u 29 k = 0) ∧ ∀ c, c ≠ 29 → u c = w c) := by
  intro n
  induction n with
  | zero => intros; exact pc_none
  | succ n ih =>
    intro v2 w i2 i2' hz
    rw [f_JA_fill_29_5]
    refine pc_ite (fun c => pc_some ⟨fun k hk => hz k (by omega), fun _ _ => rfl⟩) (fun c => ?_)
    refine pc_gd (fun _ => pc_lw (fun u1 e1 => pc_let (fun x2 e2 => ?_)))
    rw [w32_id (by omega)] at e2
    rw [e2]
    refine pc_w (ih (w := u1) (by omega) (by omega) (fun k hk => ?_)) (fun _ u q => ⟨q.1, fun c hc => (q.2 c hc).trans (by rw [e1, st_row hc])⟩)
    rw [e1]
    by_cases ck : k = v2.toNat
    · rw [ck, st_eq]
    · rw [st_k ck]; exact hz k (by omega)
theorem fill34 : ∀ (n : Nat) {v2 : Int} {w : Wd}, 0 ≤ v2 → v2 ≤ 451 → (∀ k : Nat, (k : Int) < v2 → w 34 k = -1) → PC (f_JA_fill_34_5 n (-1) v2 451 w) (fun _ u => (∀ k : Nat, k < 451 → u 34 k = -1) ∧ ∀ c, c ≠ 34 → u c = w c) := by
  intro n
  induction n with
  | zero => intros; exact pc_none
  | succ n ih =>
    intro v2 w i2 i2' hz
    rw [f_JA_fill_34_5]
    refine pc_ite (fun c => pc_some ⟨fun k hk => hz k (by omega), fun _ _ => rfl⟩) (fun c => ?_)
    refine pc_gd (fun _ => pc_lw (fun u1 e1 => pc_let (fun x2 e2 => ?_)))
    rw [w32_id (by omega)] at e2
    rw [e2]
    refine pc_w (ih (w := u1) (by omega) (by omega) (fun k hk => ?_)) (fun _ u q => ⟨q.1, fun c hc => (q.2 c hc).trans (by rw [e1, st_row hc])⟩)
    rw [e1]
    by_cases ck : k = v2.toNat
    · rw [ck, st_eq]
    · rw [st_k ck]; exact hz k (by omega)
/-- what is kept of a search -/
def KPT (P g se : Int) (h kn : Nat → Int) (x0 : Int) (w : Wd) : Prop := (w 28 10 = 0 ∧ SRC P g se h kn x0 w) ∨ (w 28 10 = 1 ∧ MNY P g se h kn x0)
theorem run_pc {P g se : Int} {h kn : Nat → Int} {x0 : Int} {w : Wd} (hP : 0 ≤ P ∧ P ≤ 10) (hg : 1 ≤ g ∧ g ≤ 3) (h0 : WH x0 (sof x0) P) (hw : CW P g se h kn x0 w) (hf : w 28 9 ≠ 0 → KPT P g se h kn x0 w) (hr : ROK w) (hlt : w 24 4 ≤ 2147480000) : PC (f_S_run w) (fun r u => (∀ c, c ≠ 24 → c ≠ 25 → c ≠ 26 → c ≠ 27 → c ≠ 28 → c ≠ 29 → c ≠ 30 → c ≠ 31 → c ≠ 33 → c ≠ 34 → c ≠ 35 → u c = w c) ∧ (ROK u ∧ u 24 4 ≤ w 24 4 + 3000) ∧ u 28 9 ≠ 0 ∧ ((r = 1 ∧ u 28 10 = 0 ∧ SRC P g se h kn x0 u) ∨ (r = 0 ∧ u 28 10 = 1 ∧ MNY P g se h kn x0))) := by
  have hr0 := hr.1
  unfold f_S_run
  refine pc_ite (fun c => ?_) (fun c => ?_)
  · have hcl : PC (f_S_clear w) (fun _ u => (∀ c, c ≠ 28 → c ≠ 29 → c ≠ 34 → u c = w c) ∧ (∀ k : Nat, k < 8192 → u 29 k = 0) ∧ (∀ k : Nat, k < 451 → u 34 k = -1) ∧ u 28 7 = 0 ∧ u 28 8 = 0 ∧ u 28 10 = 0 ∧ u 28 9 = 1) := by
      unfold f_S_clear f_JA_fill_29 f_JA_fill_34
      refine pc_call (fill29 FU (v2 := 0) (w := w) (by decide) (by decide) (fun k hk => by omega)) (fun r1 u2 q1 => ?_)
      refine pc_call (fill34 FU (v2 := 0) (w := u2) (by decide) (by decide) (fun k hk => by omega)) (fun r3 u4 q2 => ?_)
      refine pc_lw (fun u5 e5 => pc_lw (fun u6 e6 => pc_lw (fun u7 e7 => pc_lw (fun u8 e8 => pc_some ?_))))
      have ro : ∀ c, c ≠ 28 → u8 c = u4 c := fun c hc => by rw [e8, st_row hc, e7, st_row hc, e6, st_row hc, e5, st_row hc]
      refine ⟨fun c a1 a2 a3 => by rw [ro c a1, q2.2 c a3, q1.2 c a2], fun k hk => by rw [ro 29 (by decide), q2.2 29 (by decide)]; exact q1.1 k hk, fun k hk => by rw [ro 34 (by decide)]; exact q2.1 k hk, ?_, ?_, ?_, ?_⟩
      · rw [e8, st_k (by decide), e7, st_k (by decide), e6, st_k (by decide), e5, st_eq]
      · rw [e8, st_k (by decide), e7, st_k (by decide), e6, st_eq]
      · rw [e8, st_k (by decide), e7, st_eq]
      · rw [e8, st_eq]
    refine pc_call hcl (fun r1 u2 q => ?_)
    obtain ⟨q1, q2, q3, q4, q5, q6, q7⟩ := q
    have hw2 : CW P g se h kn x0 u2 := cw_eq hw (q1 5 (by decide) (by decide) (by decide)) (q1 7 (by decide) (by decide) (by decide))
    rw [hw2.2.2.2.2.1]
    have T2 : TC u2 := ⟨fun p q hp hq _ hn => absurd (q2 p hp) hn, fun p hp => by rw [q2 p hp, q4]; decide, by rw [q4]; decide, fun k hk => by rw [q4] at hk; omega⟩
    have np : ∀ k, ¬ PRO u2 k := fun k hp => by
      obtain ⟨j, hj, _⟩ := hp
      rw [q5] at hj; omega
    have C2 : COR P g se h kn x0 (-1) (-1) u2 := ⟨⟨T2, fun k hk => by rw [q4] at hk; omega⟩, ⟨by rw [q4, q5]; decide, fun j hj => by rw [q5] at hj; omega, fun i j hi => by rw [q5] at hi; omega⟩, fun r hr => ⟨[], q3 r hr, List.nodup_nil, fun k => ⟨(fun hm => by cases hm), (fun hm => by have := hm.1; rw [q4] at this; omega)⟩⟩, fun k hp => absurd hp (np k), fun k hk => by rw [q4] at hk; omega⟩
    have hrk := rkf_rg h0.2.2
    refine pc_call (place_pc T2 (orank_e h0 u2) hrk) (fun r3 u4 pl => ?_)
    have h1b : ∀ t, t < 61 → b6 1 t = true → RCX P g se h kn x0 t x0 := fun t h61 hb => by
      rw [b6_1 (by omega), decide_eq_true_iff] at hb
      rw [hb]; exact rfl
    have e24 : u2 24 = w 24 := q1 24 (by decide) (by decide) (by decide)
    have e27 : u2 27 = w 27 := q1 27 (by decide) (by decide) (by decide)
    have fin : RST P g se h kn x0 0 (w 24 4) u4 u4 := by
      rcases cor_place C2 h0 (by show (-1 : Int) < rkf P (sof x0); omega) ⟨0, rfl⟩ h1b pl with ⟨e2, hm2⟩ | ⟨p1, p2, p3, ⟨j, hj, ej, hb⟩, p5, p6, p7⟩
      · refine ⟨frs_self _, ⟨?_, ?_⟩, ?_, Or.inl ⟨by rw [e2, st_eq], hm2⟩⟩
        · unfold ROK; rw [e2, st_row (by decide), st_row (by decide), e24, e27]; exact hr
        · rw [e2, st_row (by decide), st_k (by decide), e24, q5]; omega
        · rw [e2, st_k (by decide), q5]; decide
      · have e24' : u4 24 = w 24 := by rw [p5 24 (by decide) (by decide) (by decide) (by decide) (by decide) (by decide), e24]
        have e27' : u4 27 = w 27 := by rw [p5 27 (by decide) (by decide) (by decide) (by decide) (by decide) (by decide), e27]
        have np4 : ∀ k, ¬ PRO u4 k := fun k hp => by
          obtain ⟨j, hj, _⟩ := hp
          rw [p6, q5] at hj; omega
        refine ⟨frs_self _, ⟨?_, ?_⟩, ?_, Or.inr ⟨p2.trans q6, ?_, ⟨j, hj, ej, hb 0 (by decide) (by decide +kernel)⟩, fun i j _ hj => by rw [p6, q5] at hj; omega⟩⟩
        · unfold ROK; rw [e24', e27']; exact hr
        · rw [e24', p6, q5]; omega
        · rw [p6, q5]; decide
        · obtain ⟨c1, c2, c3, c4, c5⟩ := p1
          refine ⟨c1, c2, c3, fun k hp => absurd hp (np4 k), fun k hk hlt => ?_⟩
          obtain ⟨t, ht⟩ := (c1.2 k hk).1
          have := (rkf_rg (rx_wh hP h0 ht).2.2).1
          have e : rkx P (u4 30 k) = rkf P (sof (u4 30 k)) := rfl
          omega
    have oth : ∀ c, c ≠ 28 → c ≠ 29 → c ≠ 30 → c ≠ 31 → c ≠ 33 → c ≠ 34 → u4 c = u2 c := by
      rcases pl with ⟨e, _⟩ | ⟨t, _, _, e⟩ | ⟨_, _, hn⟩
      · intro c a1 _ _ _ _ _; rw [e, st_row a1]
      · intro c _ _ _ a4 _ _; rw [e, st_row a4]
      · exact hn.2.2.2.2.2.2.2
    have n9 : u4 28 9 = 1 := by
      rcases pl with ⟨e, _⟩ | ⟨t, _, _, e⟩ | ⟨_, _, hn⟩
      · rw [e, st_k (by decide)]; exact q7
      · rw [e, st_c (by decide)]; exact q7
      · exact (hn.2.1 9 (by decide)).trans q7
    have hw4 : CW P g se h kn x0 u4 := cw_eq hw2 (oth 5 (by decide) (by decide) (by decide) (by decide) (by decide) (by decide)) (oth 7 (by decide) (by decide) (by decide) (by decide) (by decide) (by decide))
    refine pc_w (run35 hP hg h0 hw4 ⟨hr0, hlt⟩ FU (by decide) (by decide) fin) (fun r u z => ?_)
    obtain ⟨z1, z2, z3⟩ := z
    refine ⟨fun c x1 x2 x3 x4 x5 x6 x7 x8 x9 x10 x11 => ?_, z2, by rw [z1.2, n9]; decide, z3⟩
    rw [z1.1 c x1 x2 x3 x4 x5 x6 x7 x8 x9 x10 x11, oth c x5 x6 x7 x8 x9 x10, q1 c x5 x6 x10]
  · rcases hf c with ⟨e, hs⟩ | ⟨e, hm⟩
    · refine pc_ite (fun _ => pc_some ⟨fun _ _ _ _ _ _ _ _ _ _ _ _ => rfl, ⟨hr, by omega⟩, c, Or.inl ⟨rfl, e, hs⟩⟩) (fun c2 => absurd e c2)
    · refine pc_ite (fun c2 => by omega) (fun _ => pc_some ⟨fun _ _ _ _ _ _ _ _ _ _ _ _ => rfl, ⟨hr, by omega⟩, c, Or.inr ⟨rfl, e, hm⟩⟩)
/-! STATES AS NUMBERS: the reference's way to write them -/
def cdf (s : Nat → Int) : Nat → Int
  | 0 => 0
  | n + 1 => 5 * cdf s n + s n
def pw5 : Nat → Int
  | 0 => 1
  | n + 1 => 5 * pw5 n
theorem p5_le : ∀ n, n ≤ 10 → 1 ≤ pw5 n ∧ pw5 n ≤ 9765625 := by
  have h : (List.range 11).all (fun n => decide (1 ≤ pw5 n ∧ pw5 n ≤ 9765625)) = true := by decide +kernel
  intro n hn
  exact of_decide_eq_true (List.all_eq_true.mp h n (List.mem_range.mpr (by omega)))
theorem cdf_rg {s : Nat → Int} : ∀ {n : Nat}, (∀ k, k < n → 0 ≤ s k ∧ s k ≤ 4) → 0 ≤ cdf s n ∧ cdf s n < pw5 n := by
  intro n
  induction n with
  | zero => intro _; exact ⟨Int.le_refl _, by show (0 : Int) < 1; decide⟩
  | succ n ih =>
    intro h
    have h1 := ih (fun k hk => h k (by omega))
    have h2 := h n (by omega)
    rw [cdf, pw5]
    omega
theorem cdf_eq {s t : Nat → Int} : ∀ {n : Nat}, (∀ k, k < n → s k = t k) → cdf s n = cdf t n := by
  intro n
  induction n with
  | zero => intro _; rfl
  | succ n ih => intro h; rw [cdf, cdf, ih (fun k hk => h k (by omega)), h n (by omega)]
theorem cdf_inj {s t : Nat → Int} : ∀ {n : Nat}, (∀ k, k < n → 0 ≤ s k ∧ s k ≤ 4) → (∀ k, k < n → 0 ≤ t k ∧ t k ≤ 4) → cdf s n = cdf t n → ∀ k, k < n → s k = t k := by
  intro n
  induction n with
  | zero => intro _ _ _ k hk; omega
  | succ n ih =>
    intro hs ht e k hk
    rw [cdf, cdf] at e
    have h1 := hs n (by omega)
    have h2 := ht n (by omega)
    by_cases c : k = n
    · rw [c]; omega
    · exact ih (fun k hk => hs k (by omega)) (fun k hk => ht k (by omega)) (by omega) k (by omega)
def cdx (P x : Int) : Int := cdf (sof x) P.toNat
theorem cdx_rg {P x : Int} (hP : 0 ≤ P ∧ P ≤ 10) (h : WH x (sof x) P) : 0 ≤ cdx P x ∧ cdx P x < 9765625 := by
  have h1 := cdf_rg (s := sof x) (n := P.toNat) (fun k hk => h.2.2 k (by omega))
  have h2 := p5_le P.toNat (by omega)
  unfold cdx
  omega
theorem cdx_inj {P x y : Int} (hP : 0 ≤ P ∧ P ≤ 10) (hx : WH x (sof x) P) (hy : WH y (sof y) P) (e : cdx P x = cdx P y) : x = y := by
  have := cdf_inj (s := sof x) (t := sof y) (n := P.toNat) (fun k hk => hx.2.2 k (by omega)) (fun k hk => hy.2.2 k (by omega)) e
  exact wh_inj hx hy (fun k hk => this k (by omega))
theorem cdx_wh {P x : Int} {s : Nat → Int} (hP : 0 ≤ P ∧ P ≤ 10) (h : WH x s P) : cdx P x = cdf s P.toNat := cdf_eq (fun k hk => sof_e h hP.2 (by omega))
/-- the reference's own way to reckon it -/
theorem cd_cdf {b : Wd} {M : Int} {t : Nat → Int} : ∀ {n : Nat}, n ≤ 10 → (∀ k, k < n → nv b M k = t k ∧ 0 ≤ t k ∧ t k ≤ 4) → cd b M n = cdf t n := by
  intro n
  induction n with
  | zero => intro _ _; rfl
  | succ n ih =>
    intro hn h
    rw [cd, cdf, ih (by omega) (fun k hk => h k (by omega)), (h n (by omega)).1]
    have h1 := cdf_rg (s := t) (n := n) (fun k hk => (h k (by omega)).2)
    have h2 := p5_le n (by omega)
    have h3 := (h n (by omega)).2
    rw [w32_id (show -2147483648 ≤ 5 * cdf t n ∧ 5 * cdf t n ≤ 2147483647 by omega), w32_id (by omega)]
theorem nv_nis {b : Wd} {M P g : Int} {s : Nat → Int} {k : Nat} (hk : (k : Int) < P) (h68 : b 68 k = s k) (hs : 0 ≤ s k ∧ s k ≤ 4) (hg : b 43 10 = g) : nv b M k = nis P s g (bt M) k := by
  unfold nv nis
  rw [h68, hg]
  by_cases c : bt M k = true
  · rw [if_pos c, if_pos c]
  · rw [if_neg c, if_neg c]
    by_cases c2 : gst (s k) = true
    · rw [if_pos c2, if_pos c2]
      have e1 : w32 (s k + 1) = s k + 1 := w32_id (by omega)
      have e2 : w32 (s k + 1 - 1) = s k := (w32_id (by omega)).trans (by omega)
      rw [e1, e2]
    · rw [if_neg c2, if_neg c2]
/-- a number's signs, from the last on -/
theorem dg5 {s : Nat → Int} {n : Nat} (h : ∀ k, k < n + 1 → 0 ≤ s k ∧ s k ≤ 4) (hn : n < 10) : irem (cdf s (n + 1)) 5 = s n ∧ idiv (cdf s (n + 1)) 5 = cdf s n := by
  have h1 := cdf_rg (s := s) (n := n) (fun k hk => h k (by omega))
  have h2 := p5_le n (by omega)
  have h3 := h n (by omega)
  rw [cdf, irem_k (by decide) (by omega), idiv_k (by decide) (by omega)]
  constructor <;> omega
theorem load_pc {P : Int} {s : Nat → Int} {w : Wd} {t : Nat} (hP : 0 ≤ P ∧ P ≤ 10) (h0 : w 43 0 = P) (hs : ∀ k : Nat, (k : Int) < P → 0 ≤ s k ∧ s k ≤ 4) (hc : w 63 t = cdf s P.toNat) : PC (f_R_load (t : Int) w) (fun _ u => (∀ k : Nat, (k : Int) < P → u 68 k = s k) ∧ ∀ c, c ≠ 68 → u c = w c) := by
  have l14 : ∀ (n : Nat) {v2 v3 : Int} {u : Wd}, -1 ≤ v3 → v3 < P → v2 = cdf s (v3 + 1).toNat → (∀ k : Nat, v3 < (k : Int) → (k : Int) < P → u 68 k = s k) → (∀ c, c ≠ 68 → u c = w c) → PC (f_R_load_14 n v2 v3 u) (fun _ u => (∀ k : Nat, (k : Int) < P → u 68 k = s k) ∧ ∀ c, c ≠ 68 → u c = w c) := by
    intro n
    induction n with
    | zero => intros; exact pc_none
    | succ n ih =>
      intro v2 v3 u i3 i3' e2 h1 h2
      rw [f_R_load_14]
      refine pc_ite (fun c => pc_some ⟨fun k hk => h1 k (by omega) hk, h2⟩) (fun c => ?_)
      rw [if_neg (by decide)]
      have e : (v3 + 1).toNat = v3.toNat + 1 := by omega
      rw [e] at e2
      obtain ⟨d1, d2⟩ := dg5 (s := s) (n := v3.toNat) (fun k hk => hs k (by omega)) (by omega)
      rw [e2, d1]
      refine pc_gd (fun _ => pc_lw (fun u3 e3 => ?_))
      rw [if_neg (by decide), d2]
      refine pc_let (fun x4 e4 => pc_let (fun x5 e5 => ?_))
      rw [w32_id (by omega)] at e5
      rw [e4, e5]
      refine ih (by omega) (by omega) (by rw [show (v3 + -1 + 1).toNat = v3.toNat by omega]) (fun k hk hk2 => ?_) (fun c hc => by rw [e3, st_row hc, h2 c hc])
      rw [e3]
      by_cases ck : k = v3.toNat
      · rw [ck, st_eq]
      · rw [st_k ck]; exact h1 k (by omega) hk2
  unfold f_R_load
  rw [show ((t : Nat) : Int).toNat = t by omega, h0, hc, w32_id (by omega)]
  refine pc_gd (fun _ => pc_let (fun x1 e1 => pc_let (fun x2 e2 => ?_)))
  rw [e1, e2]
  exact l14 FU (by omega) (by omega) (by rw [show (P - 1 + 1).toNat = P.toNat by omega]) (fun k hk hk2 => by omega) (fun _ _ => rfl)
theorem gsIn_pc {P : Int} {s : Nat → Int} {w : Wd} {t : Nat} (hP : 0 ≤ P ∧ P ≤ 10) (h0 : w 43 0 = P) (hs : ∀ k : Nat, (k : Int) < P → 0 ≤ s k ∧ s k ≤ 4) (hc : w 63 t = cdf s P.toNat) : PC (f_R_guestsIn (t : Int) w) (fun r u => u = w ∧ B10 r (gs P s)) := by
  have l17 : ∀ (n : Nat) {v2 v3 v4 : Int}, -1 ≤ v4 → v4 < P → v3 = cdf s (v4 + 1).toNat → B10 v2 (fun k => decide (v4 < (k : Int)) && gs P s k) → PC (f_R_guestsIn_17 n v2 v3 v4 w) (fun r u => u = w ∧ B10 r (gs P s)) := by
    intro n
    induction n with
    | zero => intros; exact pc_none
    | succ n ih =>
      intro v2 v3 v4 i4 i4' e3 hB
      rw [f_R_guestsIn_17]
      refine pc_ite (fun c => pc_some ⟨rfl, b10_w hB (fun k _ => by rw [decide_eq_true (by omega)]; rfl)⟩) (fun c => ?_)
      rw [if_neg (by decide)]
      have e : (v4 + 1).toNat = v4.toNat + 1 := by omega
      rw [e] at e3
      obtain ⟨d1, d2⟩ := dg5 (s := s) (n := v4.toNat) (fun k hk => hs k (by omega)) (by omega)
      rw [e3, d1, isG_e, jc_s]
      have egs : gs P s v4.toNat = gst (s v4.toNat) := by
        unfold gs
        rw [show inP P v4.toNat = true from decide_eq_true (by omega)]; rfl
      have nx : ∀ z : Int, B10 z (fun k => decide (k = v4.toNat) && gs P s k) → PC (f_R_guestsIn_40 (f_R_guestsIn_17 n) (cdf s (v4.toNat + 1)) v4 v2 z w) (fun r u => u = w ∧ B10 r (gs P s)) := fun z hz => by
        unfold f_R_guestsIn_40
        refine pc_let (fun x5 e5 => ?_)
        rw [if_neg (by decide), d2]
        refine pc_let (fun x6 e6 => pc_let (fun x7 e7 => ?_))
        rw [w32_id (by omega)] at e7
        rw [e5, e6, e7]
        refine ih (by omega) (by omega) (by rw [show (v4 + -1 + 1).toNat = v4.toNat by omega]) ?_
        refine b10_w (b10_or hB hz) (fun k _ => ?_)
        by_cases ck : k = v4.toNat
        · rw [decide_eq_true ck, decide_eq_false (show ¬ v4 < (k : Int) by omega), decide_eq_true (show v4 + -1 < (k : Int) by omega)]; simp
        · rw [decide_eq_false ck]
          by_cases ck2 : v4 < (k : Int)
          · rw [decide_eq_true ck2, decide_eq_true (show v4 + -1 < (k : Int) by omega)]; simp
          · rw [decide_eq_false ck2, decide_eq_false (show ¬ v4 + -1 < (k : Int) by omega)]; rfl
      cases hg : gst (s v4.toNat) with
      | false =>
        refine pc_ite (fun _ => nx 0 (b10_w b10_0 (fun k _ => ?_))) (fun e => absurd rfl e)
        by_cases ck : k = v4.toNat
        · rw [ck, egs, hg]; simp
        · rw [decide_eq_false ck]; rfl
      | true =>
        refine pc_ite (fun e => absurd e (by decide)) (fun _ => nx _ (b10_w (b10_1 (i := v4) (by omega)) (fun k _ => ?_)))
        by_cases ck : k = v4.toNat
        · rw [ck, egs, hg, decide_eq_true rfl]; rfl
        · rw [decide_eq_false ck]; rfl
  unfold f_R_guestsIn
  rw [show ((t : Nat) : Int).toNat = t by omega, h0, hc, w32_id (by omega)]
  refine pc_gd (fun _ => pc_let (fun x1 e1 => pc_let (fun x2 e2 => ?_)))
  rw [e1, e2]
  refine l17 FU (by omega) (by omega) (by rw [show (P - 1 + 1).toNat = P.toNat by omega]) (b10_w b10_0 (fun k _ => ?_))
  by_cases ck : P - 1 < (k : Int)
  · unfold gs
    rw [show inP P k = false from decide_eq_false (by omega)]; simp
  · rw [decide_eq_false ck]; rfl
theorem stIn_pc {P : Int} {s : Nat → Int} {w : Wd} {t : Nat} (hP : 0 ≤ P ∧ P ≤ 10) (h0 : w 43 0 = P) (hs : ∀ k : Nat, (k : Int) < P → 0 ≤ s k ∧ s k ≤ 4) (hc : w 63 t = cdf s P.toNat) : PC (f_R_strangersIn (t : Int) w) (fun r u => u = w ∧ B10 r (sr P s)) := by
  have l17 : ∀ (n : Nat) {v2 v3 v4 : Int}, -1 ≤ v4 → v4 < P → v3 = cdf s (v4 + 1).toNat → B10 v2 (fun k => decide (v4 < (k : Int)) && sr P s k) → PC (f_R_strangersIn_17 n v2 v3 v4 w) (fun r u => u = w ∧ B10 r (sr P s)) := by
    intro n
    induction n with
    | zero => intros; exact pc_none
    | succ n ih =>
      intro v2 v3 v4 i4 i4' e3 hB
      rw [f_R_strangersIn_17]
      refine pc_ite (fun c => pc_some ⟨rfl, b10_w hB (fun k _ => by rw [decide_eq_true (by omega)]; rfl)⟩) (fun c => ?_)
      rw [if_neg (by decide)]
      have e : (v4 + 1).toNat = v4.toNat + 1 := by omega
      rw [e] at e3
      obtain ⟨d1, d2⟩ := dg5 (s := s) (n := v4.toNat) (fun k hk => hs k (by omega)) (by omega)
      rw [e3, d1]
      have egs : sr P s v4.toNat = (s v4.toNat == 0) := by
        unfold sr
        rw [show inP P v4.toNat = true from decide_eq_true (by omega)]; rfl
      have nx : ∀ z : Int, B10 z (fun k => decide (k = v4.toNat) && sr P s k) → PC (f_R_strangersIn_37 (f_R_strangersIn_17 n) (cdf s (v4.toNat + 1)) v4 v2 z w) (fun r u => u = w ∧ B10 r (sr P s)) := fun z hz => by
        unfold f_R_strangersIn_37
        refine pc_let (fun x5 e5 => ?_)
        rw [if_neg (by decide), d2]
        refine pc_let (fun x6 e6 => pc_let (fun x7 e7 => ?_))
        rw [w32_id (by omega)] at e7
        rw [e5, e6, e7]
        refine ih (by omega) (by omega) (by rw [show (v4 + -1 + 1).toNat = v4.toNat by omega]) ?_
        refine b10_w (b10_or hB hz) (fun k _ => ?_)
        by_cases ck : k = v4.toNat
        · rw [decide_eq_true ck, decide_eq_false (show ¬ v4 < (k : Int) by omega), decide_eq_true (show v4 + -1 < (k : Int) by omega)]; simp
        · rw [decide_eq_false ck]
          by_cases ck2 : v4 < (k : Int)
          · rw [decide_eq_true ck2, decide_eq_true (show v4 + -1 < (k : Int) by omega)]; simp
          · rw [decide_eq_false ck2, decide_eq_false (show ¬ v4 + -1 < (k : Int) by omega)]; rfl
      refine pc_ite (fun z => nx _ (b10_w (b10_1 (i := v4) (by omega)) (fun k _ => ?_))) (fun z => nx 0 (b10_w b10_0 (fun k _ => ?_)))
      · by_cases ck : k = v4.toNat
        · rw [ck, egs, z, decide_eq_true rfl]; rfl
        · rw [decide_eq_false ck]; rfl
      · by_cases ck : k = v4.toNat
        · rw [ck, egs, beq_eq_false_iff_ne.mpr z]; simp
        · rw [decide_eq_false ck]; rfl
  unfold f_R_strangersIn
  rw [show ((t : Nat) : Int).toNat = t by omega, h0, hc, w32_id (by omega)]
  refine pc_gd (fun _ => pc_let (fun x1 e1 => pc_let (fun x2 e2 => ?_)))
  rw [e1, e2]
  refine l17 FU (by omega) (by omega) (by rw [show (P - 1 + 1).toNat = P.toNat by omega]) (b10_w b10_0 (fun k _ => ?_))
  by_cases ck : P - 1 < (k : Int)
  · unfold sr
    rw [show inP P k = false from decide_eq_false (by omega)]; simp
  · rw [decide_eq_false ck]; rfl
theorem cnow_pc {P : Int} {s : Nat → Int} {w : Wd} (hP : 0 ≤ P ∧ P ≤ 10) (h0 : w 43 0 = P) (h47 : ∀ k : Nat, (k : Int) < P → w 47 k = s k) (hs : ∀ k : Nat, (k : Int) < P → 0 ≤ s k ∧ s k ≤ 4) : PC (f_R_codeNow w) (fun r u => u = w ∧ r = cdf s P.toNat) := by
  have l4 : ∀ (n : Nat) {v1 v2 : Int}, 0 ≤ v2 → v2 ≤ P → v1 = cdf s v2.toNat → PC (f_R_codeNow_4 n v1 v2 w) (fun r u => u = w ∧ r = cdf s P.toNat) := by
    intro n
    induction n with
    | zero => intros; exact pc_none
    | succ n ih =>
      intro v1 v2 i2 i2' e1
      rw [f_R_codeNow_4, h0]
      refine pc_ite (fun c => pc_some ⟨rfl, by rw [e1, show v2 = P by omega]⟩) (fun c => ?_)
      have h1 := cdf_rg (s := s) (n := v2.toNat) (fun k hk => hs k (by omega))
      have h2 := p5_le v2.toNat (by omega)
      have h3 := hs v2.toNat (by omega)
      rw [h47 v2.toNat (by omega), e1, w32_id (show -2147483648 ≤ 5 * cdf s v2.toNat ∧ 5 * cdf s v2.toNat ≤ 2147483647 by omega), w32_id (show -2147483648 ≤ 5 * cdf s v2.toNat + s v2.toNat ∧ 5 * cdf s v2.toNat + s v2.toNat ≤ 2147483647 by omega)]
      refine pc_gd (fun _ => pc_let (fun x1 ex1 => pc_let (fun x2 ex2 => ?_)))
      rw [w32_id (by omega)] at ex2
      rw [ex1, ex2]
      exact ih (by omega) (by omega) (by rw [show (v2 + 1).toNat = v2.toNat + 1 by omega, cdf])
  unfold f_R_codeNow
  exact l4 FU (by decide) hP.1 rfl
/-! what is paid on the way from one STATE to another -/
def cst (pr : Nat → Int) (f : Nat → Bool) : Nat → Int
  | 0 => 0
  | n + 1 => cst pr f n + (if f n = true then pr n else 0)
theorem cst_rg {pr : Nat → Int} {f : Nat → Bool} : ∀ {n : Nat}, (∀ k, k < n → 0 ≤ pr k ∧ pr k ≤ 9) → 0 ≤ cst pr f n ∧ cst pr f n ≤ 9 * n := by
  intro n
  induction n with
  | zero => intro _; exact ⟨Int.le_refl _, Int.le_refl _⟩
  | succ n ih =>
    intro h
    have h1 := ih (fun k hk => h k (by omega))
    have h2 := h n (by omega)
    rw [cst]
    split <;> omega
theorem cst_eq {pr pr' : Nat → Int} {f f' : Nat → Bool} : ∀ {n : Nat}, (∀ k, k < n → pr k = pr' k ∧ f k = f' k) → cst pr f n = cst pr' f' n := by
  intro n
  induction n with
  | zero => intro _; rfl
  | succ n ih => intro h; rw [cst, cst, ih (fun k hk => h k (by omega)), (h n (by omega)).1, (h n (by omega)).2]
theorem cst_add {pr : Nat → Int} {f f1 f2 : Nat → Bool} : ∀ {n : Nat}, (∀ k, k < n → f k = (f1 k || f2 k) ∧ (f1 k && f2 k) = false) → cst pr f n = cst pr f1 n + cst pr f2 n := by
  intro n
  induction n with
  | zero => intro _; rfl
  | succ n ih =>
    intro h
    obtain ⟨h1, h2⟩ := h n (by omega)
    rw [cst, cst, cst, ih (fun k hk => h k (by omega)), h1]
    cases hf1 : f1 n <;> cases hf2 : f2 n
    · simp
    · simp; omega
    · simp; omega
    · rw [hf1, hf2] at h2; cases h2
theorem cost_pc {P : Int} {s s' : Nat → Int} {w : Wd} {t t' : Nat} (hP : 0 ≤ P ∧ P ≤ 10) (h0 : w 43 0 = P) (hpr : ∀ k, 0 ≤ w 44 k ∧ w 44 k ≤ 9) (hs : ∀ k : Nat, (k : Int) < P → 0 ≤ s k ∧ s k ≤ 4) (hs' : ∀ k : Nat, (k : Int) < P → 0 ≤ s' k ∧ s' k ≤ 4) (hc : w 63 t = cdf s P.toNat) (hc' : w 63 t' = cdf s' P.toNat) : PC (f_R_costOf (t : Int) (t' : Int) w) (fun r u => u = w ∧ r = cst (w 44) (fun k => sr P s k && !sr P s' k) P.toNat) := by
  unfold f_R_costOf
  refine pc_call (stIn_pc hP h0 hs hc) (fun r1 u2 q1 => ?_)
  rw [q1.1]
  refine pc_call (stIn_pc hP h0 hs' hc') (fun r3 u4 q2 => ?_)
  rw [q2.1]
  have hB := b10_andn q1.2 q2.2.2
  refine pc_let (fun v3 e5 => ?_)
  rw [← e5] at hB
  have l20 : ∀ (n : Nat) {v4 v5 : Int}, 0 ≤ v5 → v5 ≤ P → v4 = cst (w 44) (fun k => sr P s k && !sr P s' k) v5.toNat → PC (f_R_costOf_20 n v3 v4 v5 w) (fun r u => u = w ∧ r = cst (w 44) (fun k => sr P s k && !sr P s' k) P.toNat) := by
    intro n
    induction n with
    | zero => intros; exact pc_none
    | succ n ih =>
      intro v4 v5 i5 i5' e4
      rw [f_R_costOf_20, h0]
      refine pc_ite (fun c => pc_some ⟨rfl, by rw [e4, show v5 = P by omega]⟩) (fun c => ?_)
      have hr := cst_rg (pr := w 44) (f := fun k => sr P s k && !sr P s' k) (n := v5.toNat) (fun k _ => hpr k)
      have hp := hpr v5.toNat
      have nx : ∀ z : Int, (0 ≤ z ∧ z ≤ 9) → v4 + z = cst (w 44) (fun k => sr P s k && !sr P s' k) (v5.toNat + 1) → PC (f_R_costOf_51 (f_R_costOf_20 n) v3 v5 v4 z w) (fun r u => u = w ∧ r = cst (w 44) (fun k => sr P s k && !sr P s' k) P.toNat) := fun z hz ez => by
        unfold f_R_costOf_51
        refine pc_let (fun x8 e8 => pc_let (fun x9 e9 => ?_))
        rw [w32_id (by omega)] at e8
        rw [w32_id (by omega)] at e9
        rw [e8, e9]
        exact ih (by omega) (by omega) (by rw [ez, show (v5 + 1).toNat = v5.toNat + 1 by omega])
      rw [hasR_10 w hB (by omega), jc_s]
      cases hf : (sr P s v5.toNat && !sr P s' v5.toNat) with
      | false =>
        refine pc_ite (fun _ => nx 0 (by decide) ?_) (fun e => absurd rfl e)
        rw [cst, hf, e4]; rfl
      | true =>
        refine pc_ite (fun e => absurd e (by decide)) (fun _ => pc_gd (fun _ => nx _ hp ?_))
        rw [cst, hf, e4]; rfl
  exact l20 FU (by decide) hP.1 rfl
/-! THE REFERENCE'S TABLE OF STATES -/
theorem g_fr {S : List Nat} {b u : Wd} (h : G S b u) (cs : List Nat) (hS : S.all (fun x => cs.contains (x / 100)) = true) : ∀ c, cs.contains c = false → u c = b c := by
  intro c hc
  funext k
  refine h.2.1 c k (mS_ar ?_ k)
  rw [List.all_eq_true]
  intro x hx
  have h1 := List.all_eq_true.mp hS x hx
  rw [Bool.or_eq_true, Nat.blt_eq, Nat.blt_eq]
  by_cases e : x / 100 = c
  · rw [e, hc] at h1; cases h1
  · omega
theorem g_43 {S : List Nat} {b u : Wd} (h : G S b u) (ks : List Nat) (hS : S.all (fun x => x / 100 != 43 || (x != 4399 && ks.contains (x - 4300))) = true) : ∀ k, ks.contains k = false → u 43 k = b 43 k := by
  intro k hk
  refine h.2.1 43 k ?_
  unfold mS
  have f : ∀ x, S.contains x = true → x / 100 ≠ 43 ∨ (x ≠ 4399 ∧ ks.contains (x - 4300) = true) := fun x hx => by
    have h1 := List.all_eq_true.mp hS x (List.contains_iff_mem.mp hx)
    rw [Bool.or_eq_true, Bool.and_eq_true, bne_iff_ne, bne_iff_ne] at h1
    exact h1
  cases h1 : S.contains (43 * 100 + 99) with
  | true =>
    rcases f _ h1 with e | e
    · exact absurd rfl e
    · exact absurd rfl e.1
  | false =>
    cases h2 : Nat.blt k 99 with
    | false => rfl
    | true =>
      rw [Nat.blt_eq] at h2
      cases h3 : S.contains (43 * 100 + k) with
      | false => rfl
      | true =>
        rcases f _ h3 with e | e
        · exact absurd (by omega) e
        · rw [show 43 * 100 + k - 4300 = k by omega, hk] at e
          cases e.2
theorem mfn {w : Wd} {c : Int} {e t : Nat} (hm : Miss w c e) (hz : w 67 (slot c e) = 0) : ¬ Fnd w c t := by
  rintro ⟨d', hd', hm', e1', e2'⟩
  rcases Nat.lt_trichotomy e d' with h | h | h
  · exact (hm' e h).1 hz
  · subst h
    rw [hz] at e1'
    omega
  · have h1 := (hm d' h).2
    rw [e1'] at h1
    exact absurd (by rw [show ((t : Int) + 1 - 1).toNat = t by omega]; exact e2') h1
theorem nf13 {c : Int} : ∀ (n : Nat) {v2 : Int} {w : Wd} {d : Nat}, (∀ p, 0 ≤ w 67 p ∧ w 67 p ≤ 3000) → (0 ≤ v2 ∧ v2 ≤ 8191) → v2.toNat = slot c d → Miss w c d → PC (f_R_stateOf_13 n c v2 w) (fun r _ => r = -1 → ∀ t, ¬ Fnd w c t) := by
  intro n
  induction n with
  | zero => intros; exact pc_none
  | succ n ih =>
    intro v2 w d hr i2 e2 hm
    rw [f_R_stateOf_13]
    have r2 := hr v2.toNat
    have z : w32 (w 67 v2.toNat - 1) = w 67 v2.toNat - 1 := w32_id (by omega)
    have f50 : (w 67 v2.toNat ≠ 0 ∨ Miss w c d) → PC (f_R_stateOf_50 c v2 w) (fun r _ => r = -1 → ∀ t, ¬ Fnd w c t) := fun _ => by
      unfold f_R_stateOf_50
      refine pc_gd (fun _ => pc_ite (fun c1 => ?_) (fun c1 => pc_gd (fun _ => pc_some (fun e => ?_))))
      · refine pc_ite (fun c2 => pc_some (fun _ t => mfn hm (by rw [← e2]; exact c1))) (fun c2 => ?_)
        refine pc_gd (fun g1 => pc_lw (fun u2 q2 => pc_gd (fun _ => pc_lw (fun u3 q3 => pc_lw (fun u4 q4 => pc_gd (fun _ => pc_lw (fun u5 q5 => pc_some (fun e => ?_))))))))
        exfalso
        have s3 : u3 43 40 = w 43 40 := by rw [q3, st_c (by decide), q2, st_c (by decide)]
        have s5 : u5 43 40 = w 43 40 + 1 := by rw [q5, st_c (by decide), q4, st_eq, s3]; exact w32_id (by omega)
        rw [s5, w32_id (by omega)] at e
        omega
      · exfalso
        rw [z] at e
        omega
    refine pc_gd (fun _ => pc_ite (fun c1 => f50 (Or.inr hm)) (fun c1 => pc_gd (fun _ => pc_gd (fun _ => ?_))))
    rw [z]
    refine pc_ite (fun c2 => f50 (Or.inl c1)) (fun c2 => pc_let (fun x6 e6 => ?_))
    obtain ⟨q1, q2⟩ := slot_s e2 i2
    rw [← e6] at q1 q2
    refine ih hr q2 q1 (fun j hj => ?_)
    by_cases cj : j < d
    · exact hm j cj
    · rw [show j = d by omega, ← e2]
      exact ⟨c1, c2⟩
/-- what a search of the reference leaves as it is -/
def FRX (w u : Wd) : Prop := (∀ c, c ≠ 43 → c ≠ 63 → c ≠ 65 → c ≠ 66 → c ≠ 67 → u c = w c) ∧ ∀ k, k ≠ 40 → k ≠ 41 → u 43 k = w 43 k
theorem frx_tr {w u v : Wd} (h : FRX w u) (h2 : FRX u v) : FRX w v := ⟨fun c a b d e f => (h2.1 c a b d e f).trans (h.1 c a b d e f), fun k a b => (h2.2 k a b).trans (h.2 k a b)⟩
theorem frx_self (w : Wd) : FRX w w := ⟨fun _ _ _ _ _ _ => rfl, fun _ _ _ => rfl⟩
theorem so_pc {w : Wd} {c : Int} (hG : G [] w w) (iv : -2147483648 ≤ c ∧ c ≤ 2147483647) : PC (f_R_stateOf c w) (fun r u => (G [] u u ∧ FRX w u ∧ u 65 = w 65 ∧ u 43 41 = w 43 41) ∧ SO w u c r ∧ (r = -1 → ∀ t, ¬ Fnd w c t)) := by
  have h2 : PC (f_R_stateOf c w) (fun r _ => r = -1 → ∀ t, ¬ Fnd w c t) := by
    unfold f_R_stateOf
    have hr := iand_r (x := iush (w32 (c * (-1640531535))) 19) (y := 8191) (by decide)
    refine pc_let (fun x1 e1 => nf13 FU (d := 0) (fun p => hG.1 67 p) (by rw [e1]; omega) ?_ (fun j hj => by omega))
    have hh : x1.toNat = hsh c := by rw [e1]; rfl
    rw [hh]
    unfold slot
    have hs : hsh c < 8192 := by rw [← hh, e1]; omega
    omega
  refine pc_w (pc_and (pc_ok (so (g_self hG) iv)) h2) (fun r u q => ?_)
  obtain ⟨⟨_, gu, hs⟩, hn⟩ := q
  refine ⟨⟨g_self gu, ⟨fun k a b d e f => ?_, fun k a b => ?_⟩, ?_, ?_⟩, hs, hn⟩
  · refine g_fr gu [43, 63, 66, 67] (by decide) k ?_
    simp [a, b, e, f]
  · refine g_43 gu [40] (by decide) k ?_
    simp [a]
  · exact g_fr gu [43, 63, 66, 67] (by decide) 65 (by decide)
  · exact g_43 gu [40] (by decide) 41 (by decide)
/-- behind a WEEK -/
def BEQ (w u : Wd) (c : Int) (ok : Prop) (r : Int) : Prop := (G [] u u ∧ FRX w u ∧ u 65 = w 65 ∧ u 43 41 = w 43 41) ∧ ((¬ ok ∧ r = -1 ∧ u = w) ∨ (ok ∧ r = -2 ∧ u = w ∧ w 43 40 = 3000 ∧ ∀ t, ¬ Fnd w c t) ∨ (ok ∧ 0 ≤ r ∧ SO w u c r))
theorem be120 {w : Wd} {c : Int} {ok : Prop} (hG : G [] w w) (iv : -2147483648 ≤ c ∧ c ≤ 2147483647) (hok : ok) : PC (f_R_behind_120 c w) (fun r u => BEQ w u c ok r) := by
  unfold f_R_behind_120
  refine pc_call (so_pc hG iv) (fun r1 u2 q => ?_)
  obtain ⟨q1, q2, q3⟩ := q
  have a40 : (0 : Int) ≤ w 43 40 ∧ w 43 40 ≤ 3000 := hG.1 43 40
  refine pc_ite (fun e => pc_some ⟨q1, Or.inr (Or.inl ⟨hok, rfl, ?_⟩)⟩) (fun e => pc_some ⟨q1, Or.inr (Or.inr ⟨hok, ?_, q2⟩)⟩)
  · rcases q2.2.2 with h1 | h1 | h1
    · exact ⟨h1.2.1, h1.2.2, q3 e⟩
    · exfalso; omega
    · exfalso; omega
  · rcases q2.2.2 with h1 | h1 | h1
    · exact absurd h1.1 e
    · exact h1.1
    · omega
theorem be_pc {P g se : Int} {s : Nat → Int} {w : Wd} {v1 v2 m : Int} (hG : G [] w w) (hP : 0 ≤ P ∧ P ≤ 10) (h0 : w 43 0 = P) (hg : w 43 10 = g) (hse : w 43 11 = se) (hg3 : g ≤ 3) (h68 : ∀ k : Nat, (k : Int) < P → w 68 k = s k) (hs : ∀ k : Nat, (k : Int) < P → 0 ≤ s k ∧ s k ≤ 4) (hm : ior v1 v2 = m) (hmr : 0 ≤ m ∧ m ≤ 1023) (hin : ∀ k, k < 10 → bt m k = true → (k : Int) < P) : PC (f_R_behind v1 v2 w) (fun r u => BEQ w u (cdf (nis P s g (bt m)) P.toNat) (v1 = 0 ∨ ((pn (fun k => sty P s g k || bt m k) 10 : Nat) : Int) ≤ se) r) := by
  have gn : ∀ k : Nat, (k : Int) < P → gst (nis P s g (bt m) k) = (sty P s g k || bt m k) := fun k hk => by
    unfold nis sty gs
    rw [show inP P k = true from decide_eq_true hk]
    cases hb : bt m k with
    | true => simp; decide
    | false =>
      cases hgs : gst (s k) with
      | false => simp [hgs]
      | true =>
        have h1 : 1 ≤ s k ∧ s k < 4 := of_decide_eq_true hgs
        by_cases c : s k < g
        · rw [decide_eq_true c]
          simp [c]
          exact decide_eq_true (by omega)
        · rw [decide_eq_false c]
          simp [c]
          exact decide_eq_false (by omega)
  have cnt : pn (fun k => gst (nis P s g (bt m) k)) P.toNat = pn (fun k => sty P s g k || bt m k) 10 := by
    rw [pn_cut (f := fun k => sty P s g k || bt m k) (n := P.toNat) (m := 10) (by omega) (fun k h1 h2 => ?_)]
    · exact pn_eq (fun k hk => gn k (by omega))
    · have ip : inP P k = false := decide_eq_false (by omega)
      have hb : bt m k = false := by
        cases hb : bt m k with
        | false => rfl
        | true => have := hin k h2 hb; omega
      show (sty P s g k || bt m k) = false
      unfold sty gs
      rw [ip, hb]; rfl
  have nr : ∀ k : Nat, (k : Int) < P → 0 ≤ nis P s g (bt m) k ∧ nis P s g (bt m) k ≤ 4 := fun k hk => nis_rg hg3 (hs k hk)
  have l8 : ∀ (n : Nat) {v3 v4 v5 : Int}, 0 ≤ v5 → v5 ≤ P → v3 = cdf (nis P s g (bt m)) v5.toNat → v4 = ((pn (fun k => gst (nis P s g (bt m) k)) v5.toNat : Nat) : Int) → PC (f_R_behind_8 n v1 v2 v3 v4 v5 w) (fun r u => BEQ w u (cdf (nis P s g (bt m)) P.toNat) (v1 = 0 ∨ ((pn (fun k => sty P s g k || bt m k) 10 : Nat) : Int) ≤ se) r) := by
    intro n
    induction n with
    | zero => intros; exact pc_none
    | succ n ih =>
      intro v3 v4 v5 i5 i5' e3 e4
      rw [f_R_behind_8, h0]
      have c1 := cdf_rg (s := nis P s g (bt m)) (n := v5.toNat) (fun k hk => nr k (by omega))
      have c2 := p5_le v5.toNat (by omega)
      refine pc_ite (fun c => ?_) (fun c => ?_)
      · have e5 : v5 = P := by omega
        rw [e5] at e3 e4 c1 c2
        rw [cnt] at e4
        rw [← e3]
        refine pc_ite (fun z => be120 hG (by rw [e3]; omega) (Or.inl z)) (fun z => ?_)
        rw [hse]
        refine pc_ite (fun z2 => be120 hG (by rw [e3]; omega) (Or.inr (by omega))) (fun z2 => pc_some ⟨⟨hG, frx_self w, rfl, rfl⟩, Or.inl ⟨fun ho => ?_, rfl, rfl⟩⟩)
        rcases ho with h1 | h1
        · exact z h1
        · omega
      · have k5 : (v5.toNat : Int) < P := by omega
        have nk := nr v5.toNat k5
        have pl := pn_le (fun k => gst (nis P s g (bt m) k)) v5.toNat
        have f89 : ∀ (x z : Int), x = nis P s g (bt m) v5.toNat → z = (if gst (nis P s g (bt m) v5.toNat) = true then 1 else 0) → PC (f_R_behind_89 (f_R_behind_8 n) v1 v2 v3 v5 x v4 z w) (fun r u => BEQ w u (cdf (nis P s g (bt m)) P.toNat) (v1 = 0 ∨ ((pn (fun k => sty P s g k || bt m k) 10 : Nat) : Int) ≤ se) r) := fun x z ex ez => by
          unfold f_R_behind_89
          have z01 : 0 ≤ z ∧ z ≤ 1 := by rw [ez]; split <;> decide
          refine pc_let (fun x10 e10 => pc_let (fun x11 e11 => pc_let (fun x12 e12 => ?_)))
          rw [w32_id (by omega)] at e12
          rw [w32_id (by omega)] at e10
          rw [e3, ex, w32_id (show -2147483648 ≤ 5 * cdf (nis P s g (bt m)) v5.toNat ∧ 5 * cdf (nis P s g (bt m)) v5.toNat ≤ 2147483647 by omega), w32_id (by omega)] at e11
          rw [e10, e11, e12]
          refine ih (by omega) (by omega) (by rw [show (v5 + 1).toNat = v5.toNat + 1 by omega, cdf]) ?_
          rw [show (v5 + 1).toNat = v5.toNat + 1 by omega, pn, e4, ez]
          cases gst (nis P s g (bt m) v5.toNat) <;> simp
        have f74 : ∀ x : Int, x = nis P s g (bt m) v5.toNat → PC (f_R_behind_74 (f_R_behind_8 n) v1 v2 v3 v4 v5 x w) (fun r u => BEQ w u (cdf (nis P s g (bt m)) P.toNat) (v1 = 0 ∨ ((pn (fun k => sty P s g k || bt m k) 10 : Nat) : Int) ≤ se) r) := fun x ex => by
          unfold f_R_behind_74
          rw [isG_e, jc_s, ex]
          cases hb : gst (nis P s g (bt m) v5.toNat) with
          | false => exact pc_ite (fun _ => f89 _ 0 rfl (by rw [hb]; rfl)) (fun e => absurd rfl e)
          | true => exact pc_ite (fun e => absurd e (by decide)) (fun _ => f89 _ 1 rfl (by rw [hb]; rfl))
        have sk := hs v5.toNat k5
        refine pc_gd (fun _ => pc_let (fun x3 ex3 => ?_))
        rw [h68 v5.toNat k5] at ex3
        rw [hm, hasR_10 w (b10_self hmr) (by omega), jc_s, ex3]
        cases hb : bt m v5.toNat with
        | true =>
          refine pc_ite (fun e => absurd e (by decide)) (fun _ => f74 1 ?_)
          unfold nis; rw [hb]; rfl
        | false =>
          refine pc_ite (fun _ => ?_) (fun e => absurd rfl e)
          rw [isG_e, jc_s]
          cases hgs : gst (s v5.toNat) with
          | false =>
            refine pc_ite (fun _ => f74 _ ?_) (fun e => absurd rfl e)
            unfold nis; rw [hb, hgs]; rfl
          | true =>
            refine pc_ite (fun e => absurd e (by decide)) (fun _ => ?_)
            have e1 : w32 (s v5.toNat + 1) = s v5.toNat + 1 := w32_id (by omega)
            have e2 : w32 (s v5.toNat + 1 - 1) = s v5.toNat := (w32_id (by omega)).trans (by omega)
            rw [e1, e2, hg]
            unfold f_R_behind_72
            refine pc_ite (fun z => f74 _ ?_) (fun z => f74 _ ?_)
            · unfold nis; rw [hb, hgs]; simp [z]
            · unfold nis; rw [hb, hgs]; simp [z]
  unfold f_R_behind
  exact l8 FU (by decide) hP.1 rfl rfl
