/-! THE MOST PAIRS: the reference -/
def mpo (v : Int → Int) (kni : Int) (fr : Nat → Bool) (u base : Int) : Nat → Int
  | 0 => base
  | k + 1 => if (bt kni k && fr k && !bt u k) = true then imax (mpo v kni fr u base k) (1 + v (ior u (ishl 1 (k : Int)))) else mpo v kni fr u base k
def mpv (P : Int) (kn : Nat → Int) (br fr : Nat → Bool) : Nat → Int → Int
  | 0, _ => 0
  | n + 1, u => if br (P.toNat - (n + 1)) = true then mpo (mpv P kn br fr n) (kn (P.toNat - (n + 1))) fr u (mpv P kn br fr n u) P.toNat else mpv P kn br fr n u
theorem mpo_b (v : Int → Int) (kni : Int) (fr : Nat → Bool) (u base : Int) : ∀ k, base ≤ mpo v kni fr u base k := by
  intro k
  induction k with
  | zero => exact Int.le_refl _
  | succ k ih =>
    rw [mpo]
    have := imax_sp (mpo v kni fr u base k) (1 + v (ior u (ishl 1 (k : Int))))
    split <;> omega
theorem mpo_c {v : Int → Int} {kni : Int} {fr : Nat → Bool} {u base : Int} : ∀ {k o : Nat}, o < k → (bt kni o && fr o && !bt u o) = true → 1 + v (ior u (ishl 1 (o : Int))) ≤ mpo v kni fr u base k := by
  intro k
  induction k with
  | zero => intro o h; omega
  | succ k ih =>
    intro o ho hc
    rw [mpo]
    have := imax_sp (mpo v kni fr u base k) (1 + v (ior u (ishl 1 (k : Int))))
    by_cases c : o = k
    · subst c
      rw [if_pos hc]; omega
    · have := ih (show o < k by omega) hc
      split <;> omega
theorem mpo_w {v : Int → Int} {kni : Int} {fr : Nat → Bool} {u base : Int} : ∀ k : Nat, mpo v kni fr u base k = base ∨ ∃ o : Nat, o < k ∧ (bt kni o && fr o && !bt u o) = true ∧ mpo v kni fr u base k = 1 + v (ior u (ishl 1 (o : Int))) := by
  intro k
  induction k with
  | zero => exact Or.inl rfl
  | succ k ih =>
    rw [mpo]
    have := imax_sp (mpo v kni fr u base k) (1 + v (ior u (ishl 1 (k : Int))))
    by_cases hc : (bt kni k && fr k && !bt u k) = true
    · rw [if_pos hc]
      rcases this with ⟨_, e⟩ | ⟨_, e⟩
      · exact Or.inr ⟨k, by omega, hc, e⟩
      · rw [e]
        rcases ih with h | ⟨o, h1, h2, h3⟩
        · exact Or.inl h
        · exact Or.inr ⟨o, by omega, h2, h3⟩
    · rw [if_neg hc]
      rcases ih with h | ⟨o, h1, h2, h3⟩
      · exact Or.inl h
      · exact Or.inr ⟨o, by omega, h2, h3⟩
theorem mpv_rg (P : Int) (kn : Nat → Int) (br fr : Nat → Bool) : ∀ (n : Nat) (u : Int), 0 ≤ mpv P kn br fr n u ∧ mpv P kn br fr n u ≤ n := by
  intro n
  induction n with
  | zero => intro u; rw [mpv]; exact ⟨Int.le_refl _, Int.le_refl _⟩
  | succ n ih =>
    intro u
    rw [mpv]
    have h1 := ih u
    split
    · have h2 := mpo_b (mpv P kn br fr n) (kn (P.toNat - (n + 1))) fr u (mpv P kn br fr n u) P.toNat
      rcases mpo_w (v := mpv P kn br fr n) (kni := kn (P.toNat - (n + 1))) (fr := fr) (u := u) (base := mpv P kn br fr n u) P.toNat with e | ⟨o, _, _, e⟩
      · omega
      · have := ih (ior u (ishl 1 (o : Int)))
        omega
    · omega
theorem or1_b {u : Int} {o : Nat} (hu : 0 ≤ u ∧ u ≤ 1023) (ho : o < 10) : B10 (ior u (ishl 1 (o : Int))) (fun k => bt u k || decide (k = o)) := by
  have b := b10_1 (i := (o : Int)) (by omega)
  rw [show ((o : Nat) : Int).toNat = o by omega] at b
  exact b10_or (b10_self hu) b
theorem or1_t {u : Int} {o j : Nat} (hu : 0 ≤ u ∧ u ≤ 1023) (ho : o < 10) (hj : j < 10) : bt (ior u (ishl 1 (o : Int))) j = (bt u j || decide (j = o)) := (or1_b hu ho).2 j hj
/-- by those that are free alone -/
theorem mpv_eq {P : Int} {kn : Nat → Int} {br fr : Nat → Bool} (hP : 0 ≤ P ∧ P ≤ 10) : ∀ (n : Nat) {u u' : Int}, (0 ≤ u ∧ u ≤ 1023) → (0 ≤ u' ∧ u' ≤ 1023) → (∀ k, k < 10 → fr k = true → bt u k = bt u' k) → mpv P kn br fr n u = mpv P kn br fr n u' := by
  intro n
  induction n with
  | zero => intros; rfl
  | succ n ih =>
    intro u u' hu hu' h
    rw [mpv, mpv, ih hu hu' h]
    split
    · have key : ∀ k : Nat, k ≤ 10 → mpo (mpv P kn br fr n) (kn (P.toNat - (n + 1))) fr u (mpv P kn br fr n u') k = mpo (mpv P kn br fr n) (kn (P.toNat - (n + 1))) fr u' (mpv P kn br fr n u') k := by
        intro k
        induction k with
        | zero => intro _; rfl
        | succ k ihk =>
          intro hk
          rw [mpo, mpo, ihk (by omega)]
          have e1 : (bt (kn (P.toNat - (n + 1))) k && fr k && !bt u k) = (bt (kn (P.toNat - (n + 1))) k && fr k && !bt u' k) := by
            cases hf : fr k with
            | false => simp
            | true => rw [h k (by omega) hf]
          rw [e1, ih (or1_b hu (o := k) (by omega)).1 (or1_b hu' (o := k) (by omega)).1 (fun j hj hf => by rw [or1_t hu (o := k) (by omega) hj, or1_t hu' (o := k) (by omega) hj, h j hj hf])]
      exact key P.toNat (by omega)
    · rfl
theorem mpv_s (P : Int) (kn : Nat → Int) (br fr : Nat → Bool) (n : Nat) (u : Int) : mpv P kn br fr n u ≤ mpv P kn br fr (n + 1) u := by
  rw [mpv]
  split
  · exact mpo_b _ _ _ _ _ _
  · exact Int.le_refl _
/-- no more PAIRS than that -/
theorem mpv_up {P : Int} {kn : Nat → Int} {br fr sy : Nat → Bool} (hP : 0 ≤ P ∧ P ≤ 10) (hd : ∀ k, k < 10 → br k = true → fr k = false) (hf : ∀ k : Nat, k < 10 → fr k = true → (k : Int) < P) : ∀ (i : Nat), (i : Int) ≤ P → ∀ {d : Nat} {f m : Int}, DRC P 20 kn br fr sy d f m → f ≤ (i : Int) → (d : Int) + mpv P kn br fr (P.toNat - i) m ≤ mpv P kn br fr P.toNat 0 := by
  intro i
  induction i with
  | zero =>
    intro _ d f m h hfi
    cases d with
    | zero =>
      obtain ⟨_, e⟩ := h
      rw [e]
      show ((0 : Nat) : Int) + mpv P kn br fr P.toNat 0 ≤ _
      omega
    | succ d =>
      obtain ⟨f0, m0, h0, j, o, h1, h2, h3, h4, h5, h6, h7, h8, h9, h10⟩ := h
      omega
  | succ i ih =>
    intro hi d f m h hfi
    have en : P.toNat - i = (P.toNat - (i + 1)) + 1 := by omega
    by_cases c : f ≤ (i : Int)
    · have := ih (by omega) h c
      rw [en] at this
      have := mpv_s P kn br fr (P.toNat - (i + 1)) m
      omega
    · cases d with
      | zero => obtain ⟨e, _⟩ := h; omega
      | succ d =>
        obtain ⟨f0, m0, h0, j, o, h1, h2, h3, h4, h5, h6, h7, h8, h9, h10⟩ := h
        have ej : j = i := by omega
        subst ej
        have r := drc_rg hP h0
        have := ih (by omega) h0 (by omega)
        rw [en, mpv, show P.toNat - (P.toNat - (j + 1) + 1) = j by omega, if_pos h4] at this
        have c1 := mpo_c (v := mpv P kn br fr (P.toNat - (j + 1))) (kni := kn j) (fr := fr) (u := m0) (base := mpv P kn br fr (P.toNat - (j + 1)) m0) (k := P.toNat) (o := o) (by have := hf o h3 h5; omega) (by rw [h6, h5, h7]; rfl)
        have c2 := mpv_eq (kn := kn) (br := br) (fr := fr) hP (P.toNat - (j + 1)) (u := m) (u' := ior m0 (ishl 1 (o : Int))) (by rw [h8]; exact sq_rg r.1 (by omega) h3) (or1_b r.1 h3).1 (fun k hk hfk => by
          rw [h8, sq_t r.1 (by omega) h3 hk, (or1_b r.1 h3).2 k hk, decide_eq_false (fun e => by rw [e] at hfk; rw [hd j (by omega) h4] at hfk; cases hfk), Bool.or_false])
        omega
/-- and so many there are -/
theorem mpv_at {P : Int} {kn : Nat → Int} {br fr sy : Nat → Bool} (hP : 0 ≤ P ∧ P ≤ 10) (hd : ∀ k, k < 10 → br k = true → fr k = false) : ∀ (n : Nat), (n : Int) ≤ P → ∀ {d : Nat} {f m : Int}, DRC P 20 kn br fr sy d f m → f ≤ P - (n : Int) → ∃ f' m', DRC P 20 kn br fr sy (d + (mpv P kn br fr n m).toNat) f' m' := by
  intro n
  induction n with
  | zero => intro _ d f m h _; exact ⟨f, m, h⟩
  | succ n ih =>
    intro hn d f m h hfi
    have r := drc_rg hP h
    rw [mpv]
    by_cases hb : br (P.toNat - (n + 1)) = true
    · rw [if_pos hb]
      rcases mpo_w (v := mpv P kn br fr n) (kni := kn (P.toNat - (n + 1))) (fr := fr) (u := m) (base := mpv P kn br fr n m) P.toNat with e | ⟨o, ho, hc, e⟩
      · rw [e]; exact ih (by omega) h (by omega)
      · rw [e]
        rw [Bool.and_eq_true, Bool.and_eq_true, Bool.not_eq_true'] at hc
        have hD : DRC P 20 kn br fr sy (d + 1) (((P.toNat - (n + 1) : Nat) : Int) + 1) (sq m (P.toNat - (n + 1)) o) := ⟨f, m, h, P.toNat - (n + 1), o, by omega, by omega, by omega, hb, hc.1.2, hc.1.1, hc.2, rfl, by have := pn_le (fun k => sy k || bt (sq m (P.toNat - (n + 1)) o) k) 10; omega, rfl⟩
        have c2 := mpv_eq (kn := kn) (br := br) (fr := fr) hP n (u := sq m (P.toNat - (n + 1)) o) (u' := ior m (ishl 1 (o : Int))) (sq_rg r.1 (by omega) (by omega)) (or1_b r.1 (by omega)).1 (fun k hk hfk => by
          rw [sq_t r.1 (by omega) (by omega) hk, (or1_b r.1 (o := o) (by omega)).2 k hk, decide_eq_false (fun e => by rw [e] at hfk; rw [hd _ (by omega) hb] at hfk; cases hfk), Bool.or_false])
        obtain ⟨f', m', h'⟩ := ih (by omega) hD (by omega)
        rw [c2] at h'
        have := mpv_rg P kn br fr n (ior m (ishl 1 (o : Int)))
        refine ⟨f', m', ?_⟩
        rw [show d + (1 + mpv P kn br fr n (ior m (ishl 1 (o : Int)))).toNat = d + 1 + (mpv P kn br fr n (ior m (ishl 1 (o : Int)))).toNat by omega]
        exact h'
    · rw [if_neg hb]; exact ih (by omega) h (by omega)
theorem mpv_max {P : Int} {kn : Nat → Int} {br fr sy : Nat → Bool} (hP : 0 ≤ P ∧ P ≤ 10) (hd : ∀ k, k < 10 → br k = true → fr k = false) (hf : ∀ k : Nat, k < 10 → fr k = true → (k : Int) < P) : (∀ (d : Nat) (f m : Int), DRC P 20 kn br fr sy d f m → (d : Int) ≤ mpv P kn br fr P.toNat 0) ∧ ∃ f m, DRC P 20 kn br fr sy (mpv P kn br fr P.toNat 0).toNat f m := by
  constructor
  · intro d f m h
    have r := drc_rg hP h
    have := mpv_up hP hd hf P.toNat (by omega) h (by omega)
    have := mpv_rg P kn br fr (P.toNat - P.toNat) m
    omega
  · obtain ⟨f', m', h'⟩ := mpv_at (P := P) (kn := kn) (br := br) (fr := fr) (sy := sy) hP hd P.toNat (by omega) (d := 0) (f := 0) (m := 0) ⟨rfl, rfl⟩ (by omega)
    rw [Nat.zero_add] at h'
    exact ⟨f', m', h'⟩
/-! the reference's table -/
def TBL (P : Int) (kn : Nat → Int) (br fr : Nat → Bool) (u : Wd) (i : Int) : Prop := ∀ i' x : Nat, i < (i' : Int) → (i' : Int) ≤ P → x < 2 ^ P.toNat → u 62 (1024 * i' + x) = mpv P kn br fr (P.toNat - i') (x : Int)
theorem ix62 {i x : Int} (hi : 0 ≤ i ∧ i ≤ 10) (hx : 0 ≤ x ∧ x < 1024) : w32 (ishl i 10 + x) = 1024 * i + x := by
  rw [ish10 (by omega), w32_id (by omega)]
  omega
theorem p2_1024 {P : Int} (hP : 0 ≤ P ∧ P ≤ 10) : 2 ^ P.toNat ≤ 1024 ∧ 1 ≤ 2 ^ P.toNat := by
  have h1 : 2 ^ P.toNat ≤ 2 ^ 10 := Nat.pow_le_pow_right (by decide) (by omega)
  have h2 : 1 ≤ 2 ^ P.toNat := Nat.one_le_two_pow
  omega
theorem or_lt2 {P x : Int} {o : Nat} (hP : 0 ≤ P ∧ P ≤ 10) (hx : 0 ≤ x ∧ x < ((2 ^ P.toNat : Nat) : Int)) (ho : (o : Int) < P) : 0 ≤ ior x (ishl 1 (o : Int)) ∧ ior x (ishl 1 (o : Int)) < ((2 ^ P.toNat : Nat) : Int) := by
  have e := ishl1 (i := (o : Int)) (by omega)
  rw [show ((o : Nat) : Int).toNat = o by omega] at e
  have h1 : 2 ^ o < 2 ^ P.toNat := Nat.pow_lt_pow_right (by decide) (by omega)
  have h3 : 1 ≤ 2 ^ o := Nat.one_le_two_pow
  have h2 := ior_n P.toNat (x := x) (y := ishl 1 (o : Int)) (m := ((2 ^ P.toNat : Nat) : Int) - 1) (by omega) (by omega) (by omega) (by omega)
  omega
/-- what both read: nothing of it changes -/
def SM62 (w u : Wd) : Prop := ∀ c, c ≠ 62 → u c = w c
theorem fp_pc {P v1 : Int} {kn : Nat → Int} {s : Nat → Int} {fr : Nat → Bool} {w : Wd} (hP : 0 ≤ P ∧ P ≤ 10) (h0 : w 43 0 = P) (h45 : ∀ j : Nat, (j : Int) < P → w 45 j = kn j ∧ 0 ≤ kn j ∧ kn j ≤ 1023) (h47 : w 47 = s) (h1 : B10 v1 fr) : ∀ (n : Nat) {v2 : Int} {u : Wd}, -1 ≤ v2 → v2 ≤ P → SM62 w u → TBL P kn (gs P s) fr u v2 → PC (f_R_findPairs_10 n v1 v2 u) (fun _ v => SM62 w v ∧ TBL P kn (gs P s) fr v (-1)) := by
  have pw := p2_1024 hP
  have ep : ishl 1 P = ((2 ^ P.toNat : Nat) : Int) := ishl1 (by omega)
  intro n
  induction n with
  | zero => intros; exact pc_none
  | succ n ih =>
    intro v2 u i2 i2' hs hT
    rw [f_R_findPairs_10]
    refine pc_ite (fun c => pc_some ⟨hs, by rw [show v2 = -1 by omega] at hT; exact hT⟩) (fun c => ?_)
    -- the sets in their order
    have s16 : ∀ (n' : Nat) {v3 : Int} {u : Wd}, 0 ≤ v3 → v3 ≤ ((2 ^ P.toNat : Nat) : Int) → SM62 w u → TBL P kn (gs P s) fr u v2 → (∀ x : Nat, (x : Int) < v3 → u 62 (1024 * v2.toNat + x) = mpv P kn (gs P s) fr (P.toNat - v2.toNat) (x : Int)) → PC (f_R_findPairs_16 (f_R_findPairs_10 n) n' v1 v2 v3 u) (fun _ v => SM62 w v ∧ TBL P kn (gs P s) fr v (-1)) := by
      intro n'
      induction n' with
      | zero => intros; exact pc_none
      | succ n' ih16 =>
        intro v3 u i3 i3' hs hT hx
        rw [f_R_findPairs_16, hs 43 (by decide), h0, ep]
        refine pc_ite (fun c3 => ?_) (fun c3 => ?_)
        · refine pc_let (fun x4 e4 => ?_)
          rw [w32_id (by omega)] at e4
          rw [e4]
          refine ih (by omega) (by omega) hs (fun i' x h1 h2 h3 => ?_)
          by_cases ci : v2 < (i' : Int)
          · exact hT i' x ci h2 h3
          · rw [show i' = v2.toNat by omega]
            exact hx x (by omega)
        · -- the value of one set, and its place
          have st138 : ∀ v4 : Int, v4 = mpv P kn (gs P s) fr (P.toNat - v2.toNat) v3 → PC (f_R_findPairs_138 (f_R_findPairs_10 n) (f_R_findPairs_16 (f_R_findPairs_10 n) n') v1 v2 v3 v4 u) (fun _ v => SM62 w v ∧ TBL P kn (gs P s) fr v (-1)) := fun v4 e4 => by
            unfold f_R_findPairs_138
            rw [ix62 (i := v2) (x := v3) (by omega) (by omega)]
            refine pc_gd (fun _ => pc_lw (fun u5 e5 => pc_let (fun x6 e6 => ?_)))
            rw [w32_id (by omega)] at e6
            rw [e6]
            have a5 : ∀ k, u5 62 k = if k = (1024 * v2 + v3).toNat then v4 else u 62 k := fun k => by
              rw [e5]
              by_cases ck : k = (1024 * v2 + v3).toNat
              · rw [if_pos ck, ck, st_eq]
              · rw [if_neg ck, st_k ck]
            refine ih16 (by omega) (by omega) (fun c hc => by rw [e5, st_row hc, hs c hc]) (fun i' x h1 h2 h3 => ?_) (fun x hlt => ?_)
            · rw [a5, if_neg (by omega)]; exact hT i' x h1 h2 h3
            · rw [a5]
              by_cases cx : (x : Int) = v3
              · rw [if_pos (by omega), e4, ← cx]
              · rw [if_neg (by omega)]; exact hx x (by omega)
          by_cases cP : v2 = P
          · rw [if_pos cP]
            unfold f_R_findPairs_51
            rw [hs 43 (by decide), h0]
            refine pc_ite (fun _ => st138 0 ?_) (fun e => by omega)
            rw [show P.toNat - v2.toNat = 0 by omega]; rfl
          · rw [if_neg cP]
            have en : P.toNat - v2.toNat = (P.toNat - (v2.toNat + 1)) + 1 := by omega
            have ei : P.toNat - (P.toNat - (v2.toNat + 1) + 1) = v2.toNat := by omega
            have w21 : w32 (v2 + 1) = v2 + 1 := w32_id (by omega)
            rw [w21, ix62 (i := v2 + 1) (x := v3) (by omega) (by omega)]
            refine pc_gd (fun _ => ?_)
            have rd : ∀ x : Int, 0 ≤ x → x < ((2 ^ P.toNat : Nat) : Int) → u 62 (1024 * (v2 + 1) + x).toNat = mpv P kn (gs P s) fr (P.toNat - (v2.toNat + 1)) x := fun x hx0 hx1 => by
              have := hT (v2.toNat + 1) x.toNat (by omega) (by omega) (by omega)
              rw [show ((x.toNat : Nat) : Int) = x by omega] at this
              rw [← this]
              congr 1
              omega
            rw [rd v3 i3 (by omega)]
            unfold f_R_findPairs_51
            rw [hs 43 (by decide), h0]
            refine pc_ite (fun e => by omega) (fun _ => pc_gd (fun _ => ?_))
            rw [isG_e, jc_s, hs 47 (by decide), h47]
            have egs : gs P s v2.toNat = gst (s v2.toNat) := by
              unfold gs
              rw [show inP P v2.toNat = true from decide_eq_true (by omega)]; rfl
            cases hg : gst (s v2.toNat) with
            | false =>
              refine pc_ite (fun _ => st138 _ ?_) (fun e => absurd rfl e)
              rw [en, mpv, ei, egs, hg]; rfl
            | true =>
              refine pc_ite (fun e => absurd e (by decide)) (fun _ => ?_)
              -- whom to bring
              have l76 : ∀ (k : Nat) {v4 v5 : Int}, 0 ≤ v5 → v5 ≤ P → v4 = mpo (mpv P kn (gs P s) fr (P.toNat - (v2.toNat + 1))) (kn v2.toNat) fr v3 (mpv P kn (gs P s) fr (P.toNat - (v2.toNat + 1)) v3) v5.toNat → PC (f_R_findPairs_76 (f_R_findPairs_10 n) (f_R_findPairs_16 (f_R_findPairs_10 n) n') k v1 v2 v3 v4 v5 u) (fun _ v => SM62 w v ∧ TBL P kn (gs P s) fr v (-1)) := by
                intro k
                induction k with
                | zero => intros; exact pc_none
                | succ k ihk =>
                  intro v4 v5 i5 i5' e4
                  rw [f_R_findPairs_76, hs 43 (by decide), h0]
                  have nx : ∀ x, x = mpo (mpv P kn (gs P s) fr (P.toNat - (v2.toNat + 1))) (kn v2.toNat) fr v3 (mpv P kn (gs P s) fr (P.toNat - (v2.toNat + 1)) v3) (v5.toNat + 1) → v5 < P → PC (f_R_findPairs_132 (f_R_findPairs_10 n) (f_R_findPairs_16 (f_R_findPairs_10 n) n') (f_R_findPairs_76 (f_R_findPairs_10 n) (f_R_findPairs_16 (f_R_findPairs_10 n) n') k) v1 v2 v3 x v5 u) (fun _ v => SM62 w v ∧ TBL P kn (gs P s) fr v (-1)) := fun x ex hlt => by
                    unfold f_R_findPairs_132
                    refine pc_let (fun y ey => ?_)
                    rw [w32_id (by omega)] at ey
                    rw [ey]
                    exact ihk (by omega) (by omega) (by rw [ex, show (v5 + 1).toNat = v5.toNat + 1 by omega])
                  refine pc_ite (fun c5 => st138 v4 ?_) (fun c5 => ?_)
                  · rw [e4, en, mpv, ei, egs, hg, if_pos rfl, show v5.toNat = P.toNat by omega]
                  · refine pc_gd (fun _ => ?_)
                    have hj := h45 v2.toNat (by omega)
                    rw [hs 45 (by decide), hj.1]
                    have hB := b10_andn (b10_and (b10_self hj.2) h1.2) (b10_self (x := v3) (by omega)).2
                    rw [hasR_10 u hB (by omega), jc_s]
                    cases hc : (bt (kn v2.toNat) v5.toNat && fr v5.toNat && !bt v3 v5.toNat) with
                    | false =>
                      refine pc_ite (fun _ => nx v4 ?_ (by omega)) (fun e => absurd rfl e)
                      rw [mpo, hc, e4]; rfl
                    | true =>
                      refine pc_ite (fun e => absurd e (by decide)) (fun _ => ?_)
                      have o5 := or_lt2 (P := P) (x := v3) (o := v5.toNat) hP (by omega) (by omega)
                      rw [show ((v5.toNat : Nat) : Int) = v5 by omega] at o5
                      rw [w21, ix62 (i := v2 + 1) (x := ior v3 (ishl 1 v5)) (by omega) (by omega)]
                      refine pc_gd (fun _ => pc_let (fun x12 e12 => nx x12 ?_ (by omega)))
                      rw [rd _ o5.1 o5.2] at e12
                      have hr := mpv_rg P kn (gs P s) fr (P.toNat - (v2.toNat + 1)) (ior v3 (ishl 1 v5))
                      rw [w32_id (by omega)] at e12
                      rw [mpo, hc, if_pos rfl, e12, e4, show ((v5.toNat : Nat) : Int) = v5 by omega]
              exact l76 FU (by decide) hP.1 rfl
    exact s16 FU (by decide) (by omega) hs hT (fun x hx => by omega)
theorem rpairs_pc {P : Int} {w : Wd} (hP : 0 ≤ P ∧ P ≤ 10) (h0 : w 43 0 = P) (h45 : ∀ j : Nat, (j : Int) < P → 0 ≤ w 45 j ∧ w 45 j ≤ 1023) : PC (f_R_pairs w) (fun r _ => r = mpv P (w 45) (gs P (w 47)) (fre P (w 47) (w 46)) P.toNat 0) := by
  unfold f_R_pairs
  refine pc_lw (fun y ey => ?_)
  have y0 : y 43 0 = P := by rw [ey, st_k (by decide)]; exact h0
  have yr : ∀ c, c ≠ 43 → y c = w c := fun c hc => by rw [ey, st_row hc]
  have hfp : PC (f_R_findPairs y) (fun _ v => SM62 y v ∧ TBL P (w 45) (gs P (w 47)) (fre P (w 47) (w 46)) v (-1)) := by
    unfold f_R_findPairs
    refine pc_call (rfree_e (w := y) (by omega)) (fun r1 u2 q => ?_)
    have q2 := q.2
    rw [y0, yr 47 (by decide), yr 46 (by decide)] at q2
    rw [q.1]
    refine pc_let (fun x3 e3 => ?_)
    rw [e3, y0]
    exact fp_pc (w := y) (kn := w 45) (s := w 47) hP y0 (fun j hj => ⟨by rw [yr 45 (by decide)], h45 j hj⟩) (yr 47 (by decide)) q2 FU (by omega) (Int.le_refl _) (fun _ _ => rfl) (fun i' x h1 h2 _ => by omega)
  refine pc_call hfp (fun r2 u3 q => ?_)
  have u0 : u3 43 0 = P := by rw [q.1 43 (by decide)]; exact y0
  refine pc_call (rfree_e (w := u3) (by omega)) (fun r4 u5 q4 => ?_)
  rw [q4.1]
  refine pc_lw (fun u6 e6 => ?_)
  have pw := p2_1024 hP
  have T0 : u6 62 0 = mpv P (w 45) (gs P (w 47)) (fre P (w 47) (w 46)) P.toNat 0 := by
    rw [e6, st_c (by decide)]
    have := q.2 0 0 (by decide) (by omega) (by omega)
    exact this
  have l23 : ∀ (n : Nat) {v2 v3 : Int} {u : Wd}, u 62 0 = u6 62 0 → PC (f_R_pairs_23 n r4 v2 v3 u) (fun r _ => r = u6 62 0) := by
    intro n
    induction n with
    | zero => intros; exact pc_none
    | succ n ih =>
      intro v2 v3 u hu
      rw [f_R_pairs_23]
      refine pc_ite (fun _ => pc_gd (fun _ => pc_some hu)) (fun _ => pc_gd (fun _ => ?_))
      rw [isG_e, jc_s]
      refine pc_ite (fun _ => pc_let (fun x _ => ih hu)) (fun _ => ?_)
      have l49 : ∀ (k : Nat) {v4 : Int}, PC (f_R_pairs_49 (f_R_pairs_23 n) k r4 v2 v3 v4 u) (fun r _ => r = u6 62 0) := by
        intro k
        induction k with
        | zero => intros; exact pc_none
        | succ k ihk =>
          intro v4
          rw [f_R_pairs_49]
          refine pc_ite (fun _ => pc_let (fun x _ => ih hu)) (fun _ => pc_gd (fun _ => ?_))
          rw [has_eq, jc_s]
          refine pc_ite (fun _ => pc_let (fun x _ => ihk)) (fun _ => pc_gd (fun _ => pc_gd (fun _ => ?_)))
          refine pc_ite (fun _ => ?_) (fun _ => pc_let (fun x _ => ihk))
          refine pc_call (rt1 _ u) (fun r13 u14 q13 => pc_let (fun x15 _ => pc_let (fun x _ => ih ?_)))
          rw [q13 62 0 (by decide) (by decide)]; exact hu
      exact l49 FU
  exact pc_w (l23 FU rfl) (fun r _ e => e.trans T0)
theorem epairs_pc {P g : Int} {s h kn : Nat → Int} {w : Wd} (hP : 0 ≤ P ∧ P ≤ 10) (hW : WH (w 5 4) s P) (h3 : w 5 3 = P) (h5 : B10 (w 5 5) (hB P h)) (hg : 1 ≤ g ∧ g ≤ 3) (h7 : w 5 7 = g) (hkn : ∀ j : Nat, (j : Int) < P → w 7 j = kn j ∧ 0 ≤ kn j ∧ kn j ≤ 1023) (hr : ROK w) (hlt : w 24 4 < 2147483647) : PC (f_E_largestWeek w) (fun k u => GA P 20 kn (gs P s) (fre P s h) (sty P s g) w u ∧ u 24 3 ≤ 256 ∧ (0 ≤ k ∧ k < u 24 3) ∧ ((pn (bt (u 25 k.toNat)) 10 : Nat) : Int) = 2 * mpv P kn (gs P s) (fre P s h) P.toNat 0) := by
  unfold f_E_largestWeek
  refine pc_call (gat_pc hP hW h3 h5 hg h7 hkn hr hlt) (fun r1 u q => ?_)
  obtain ⟨q1, q2, q3, q4, q5⟩ := q
  have h252 : u 24 3 ≤ 256 := by
    have h0 := q4.1
    have := mov_few hP (gs_fre (P := P) (s := s) (h := h)) (n := (u 24 3).toNat) (F := u 25) (fun j hj => (q4.2.1 j (by omega)).2) (fun i j hi hj e => q4.2.2.1 i j (by omega) (by omega) e)
    omega
  have one : 0 < u 24 3 := by
    obtain ⟨k, hk, _⟩ := q5 0 ⟨0, 0, rfl, rfl⟩
    omega
  refine pc_w (lw24 q4 h252 FU (v1 := 0) (v2 := 1) (Int.le_refl _) one (by decide) (fun k hk hlt => by rw [show k = (0 : Int).toNat by omega]; exact Nat.le_refl _)) (fun k v z => ?_)
  obtain ⟨z1, z2, z3⟩ := z
  rw [z1]
  refine ⟨⟨q1, q2, q3, q4, q5⟩, h252, z2, ?_⟩
  obtain ⟨d, f, hD⟩ := (q4.2.1 k.toNat (by omega)).2
  have hp := (drc_pn hP gs_fre hD).1
  obtain ⟨m1, f1, m2, hm⟩ := mpv_max (P := P) (kn := kn) (br := gs P s) (fr := fre P s h) (sy := sty P s g) hP gs_fre (fun k _ hf => (fre_sr hf).1)
  have a1 := m1 d f _ hD
  obtain ⟨j, hj, ej⟩ := q5 m2 ⟨_, _, hm⟩
  have a2 := z3 j hj
  rw [ej, (drc_pn hP gs_fre hm).1, hp] at a2
  have := (mpv_rg P kn (gs P s) (fre P s h) P.toNat 0).1
  omega
theorem er_pairs {a w : Wd} (h : ER a w) (hr : ROK w) (hlt : w 24 4 < 2147483647) : PC (f_E_pairs w) (fun r _ => PC (f_R_pairs a) (fun r' _ => r = r')) := by
  have x0 : 0 ≤ a 43 0 ∧ a 43 0 ≤ 10 := h.2.2.1
  have x3 : w 5 3 = a 43 0 := h.1.1.2.1
  have xp : ∀ j : Nat, (j : Int) < a 43 0 → w 6 j = a 44 j ∧ w 7 j = a 45 j ∧ w 8 j = a 48 j := h.1.2.1
  have xh : B10 (w 5 5) (hB (a 43 0) (a 46)) := h.1.2.2.1
  have xw : WH (w 5 4) (a 47) (a 43 0) := h.1.2.2.2.1
  have x7 : w 5 7 = a 43 10 := h.1.1.2.2.1.1
  have x45 : ∀ j : Nat, (j : Int) < a 43 0 → 0 ≤ a 45 j ∧ a 45 j ≤ 1023 := h.2.2.2.2.2.1
  have xg : 1 ≤ a 43 10 ∧ a 43 10 ≤ 3 := h.1.2.2.2.2.2.2.2.2.2.2.1
  unfold f_E_pairs
  refine pc_call (epairs_pc (kn := a 45) x0 xw x3 xh xg x7 (fun j hj => ⟨(xp j hj).2.1, x45 j hj⟩) hr hlt) (fun k u q => ?_)
  obtain ⟨q1, q2, q3, q4⟩ := q
  refine pc_call (tp_pc q1.2.2.2.1 q2 q3) (fun r3 u4 z => pc_some ?_)
  refine pc_w (rpairs_pc x0 rfl x45) (fun r' _ e => ?_)
  rw [e]
  have := z.1
  omega
