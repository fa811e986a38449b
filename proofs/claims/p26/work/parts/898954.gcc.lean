/-! BARS: the greatest surplus is what the most PAIRS leave over -/
def nbh (P : Int) (kn : Nat → Int) (fr : Nat → Bool) (u : Int) (S : Nat → Bool) (o : Nat) : Bool := fr o && !bt u o && kbn kn S P.toNat o
theorem nbh_t {P : Int} {kn : Nat → Int} {fr : Nat → Bool} {u : Int} {S : Nat → Bool} {o : Nat} : nbh P kn fr u S o = true ↔ fr o = true ∧ bt u o = false ∧ ∃ i, i < P.toNat ∧ S i = true ∧ bt (kn i) o = true := by
  unfold nbh
  rw [Bool.and_eq_true, Bool.and_eq_true, kbn_t]
  constructor
  · rintro ⟨⟨a, b⟩, i, hi, c⟩
    refine ⟨a, ?_, i, hi, c⟩
    cases e : bt u o with
    | false => rfl
    | true => rw [e] at b; cases b
  · rintro ⟨a, b, i, hi, c⟩
    exact ⟨⟨a, by rw [b]; rfl⟩, i, hi, c⟩
theorem pn_uni (f g : Nat → Bool) : ∀ n, pn (fun k => f k || g k) n + pn (fun k => f k && g k) n = pn f n + pn g n := by
  intro n
  induction n with
  | zero => rfl
  | succ n ih =>
    rw [pn, pn, pn, pn]
    cases f n <;> cases g n <;> simp <;> omega
theorem pn_P {f : Nat → Bool} {p : Nat} : ∀ {m : Nat}, p ≤ m → (∀ k, k < m → f k = true → k < p) → pn f m = pn f p := by
  intro m
  induction m with
  | zero => intro h _; rw [show p = 0 by omega]
  | succ m ih =>
    intro h hf
    by_cases c : p = m + 1
    · rw [c]
    · rw [pn, ih (by omega) (fun k hk => hf k (by omega))]
      cases e : f m with
      | false => simp
      | true => have := hf m (by omega) e; omega
def bcn (P : Int) (br : Nat → Bool) (n : Nat) : Int := ((pn br P.toNat : Nat) : Int) - ((pn br (P.toNat - n) : Nat) : Int)
theorem bcn_s {P : Int} {br : Nat → Bool} {n : Nat} (hn : n < P.toNat) : bcn P br (n + 1) = bcn P br n + (if br (P.toNat - (n + 1)) = true then 1 else 0) := by
  unfold bcn
  rw [show P.toNat - n = (P.toNat - (n + 1)) + 1 by omega, pn]
  split <;> omega
def SBS (P : Int) (br : Nat → Bool) (n : Nat) (S : Nat → Bool) : Prop := ∀ k, k < 10 → S k = true → br k = true ∧ P.toNat - n ≤ k ∧ k < P.toNat
theorem nbh_w {P : Int} {kn : Nat → Int} {fr : Nat → Bool} {u : Int} {S T : Nat → Bool} (hP : 0 ≤ P ∧ P ≤ 10) (h : ∀ k, k < 10 → S k = true → T k = true) : pn (nbh P kn fr u S) 10 ≤ pn (nbh P kn fr u T) 10 := by
  refine pn_mono (fun o _ ho => ?_)
  rw [nbh_t] at ho ⊢
  obtain ⟨a, b, i, hi, c, d⟩ := ho
  exact ⟨a, b, i, hi, h i (by omega) c, d⟩
/-- one more used -/
theorem nbh_u {P : Int} {kn : Nat → Int} {fr : Nat → Bool} {u : Int} {S : Nat → Bool} {o : Nat} (hu : 0 ≤ u ∧ u ≤ 1023) (ho : o < 10) : (∀ k, k < 10 → nbh P kn fr (ior u (ishl 1 (o : Int))) S k = true → nbh P kn fr u S k = true) ∧ nbh P kn fr (ior u (ishl 1 (o : Int))) S o = false ∧ (∀ k, k < 10 → k ≠ o → nbh P kn fr (ior u (ishl 1 (o : Int))) S k = nbh P kn fr u S k) := by
  refine ⟨fun k hk h => ?_, ?_, fun k hk hne => ?_⟩
  · rw [nbh_t, or1_t hu ho hk] at h
    rw [nbh_t]
    refine ⟨h.1, ?_, h.2.2⟩
    cases e : bt u k with
    | false => rfl
    | true => rw [e] at h; simp at h
  · unfold nbh
    rw [or1_t hu ho ho]
    simp
  · unfold nbh
    rw [or1_t hu ho hk, decide_eq_false hne, Bool.or_false]
theorem bar_wk {P : Int} {kn : Nat → Int} {br fr : Nat → Bool} (hP : 0 ≤ P ∧ P ≤ 10) : ∀ (n : Nat), n ≤ P.toNat → ∀ {u : Int} {S : Nat → Bool}, (0 ≤ u ∧ u ≤ 1023) → SBS P br n S → mpv P kn br fr n u + ((pn S 10 : Nat) : Int) ≤ bcn P br n + ((pn (nbh P kn fr u S) 10 : Nat) : Int) := by
  intro n
  induction n with
  | zero =>
    intro _ u S hu hS
    have e : pn S 10 = 0 := pn_0 (fun k hk => by
      cases e : S k with
      | false => rfl
      | true => have := hS k hk e; omega)
    rw [mpv, e]
    unfold bcn
    rw [Nat.sub_zero]
    omega
  | succ n ih =>
    intro hn u S hu hS
    have hb := bcn_s (br := br) (show n < P.toNat by omega)
    have i10 : P.toNat - (n + 1) < 10 := by omega
    have hsm : S (P.toNat - (n + 1)) = false → SBS P br n S := fun e k hk hk2 => by
      have := hS k hk hk2
      refine ⟨this.1, ?_, this.2.2⟩
      have ne : k ≠ P.toNat - (n + 1) := fun h => by rw [h, e] at hk2; cases hk2
      omega
    rw [mpv]
    by_cases hbr : br (P.toNat - (n + 1)) = true
    · rw [if_pos hbr] at hb
      rw [if_pos hbr]
      cases hSi : S (P.toNat - (n + 1)) with
      | true =>
        have hS' : SBS P br n (fun k => S k && !decide (k = P.toNat - (n + 1))) := fun k hk h => by
          rw [Bool.and_eq_true] at h
          have := hS k hk h.1
          have ne : k ≠ P.toNat - (n + 1) := fun hh => by have := h.2; rw [decide_eq_true hh] at this; cases this
          exact ⟨this.1, by omega, this.2.2⟩
        have e1 : pn S 10 = pn (fun k => S k && !decide (k = P.toNat - (n + 1))) 10 + 1 := pn_up i10 (fun k _ hk => by simp [hk]) (by simp) hSi
        have sub := fun v => nbh_w (kn := kn) (fr := fr) (u := v) (S := fun k => S k && !decide (k = P.toNat - (n + 1))) (T := S) hP (fun k _ h => by rw [Bool.and_eq_true] at h; exact h.1)
        rcases mpo_w (v := mpv P kn br fr n) (kni := kn (P.toNat - (n + 1))) (fr := fr) (u := u) (base := mpv P kn br fr n u) P.toNat with e | ⟨o, ho, hc, e⟩
        · rw [e]
          have a1 := ih (by omega) hu hS'
          have a2 := sub u
          omega
        · rw [e]
          have ho10 : o < 10 := by omega
          have a1 := ih (by omega) (or1_b hu ho10).1 hS'
          have a2 := sub (ior u (ishl 1 (o : Int)))
          have nu := nbh_u (P := P) (kn := kn) (fr := fr) (S := S) hu ho10
          rw [Bool.and_eq_true, Bool.and_eq_true] at hc
          have hbo : bt u o = false := by
            cases e : bt u o with
            | false => rfl
            | true => have := hc.2; rw [e] at this; cases this
          have a3 : pn (nbh P kn fr (ior u (ishl 1 (o : Int))) S) 10 + 1 ≤ pn (nbh P kn fr u S) 10 := pn_lt nu.1 ⟨o, ho10, nu.2.1, nbh_t.mpr ⟨hc.1.2, hbo, _, by omega, hSi, hc.1.1⟩⟩
          omega
      | false =>
        have hS0 := hsm hSi
        rcases mpo_w (v := mpv P kn br fr n) (kni := kn (P.toNat - (n + 1))) (fr := fr) (u := u) (base := mpv P kn br fr n u) P.toNat with e | ⟨o, ho, hc, e⟩
        · rw [e]
          have a1 := ih (by omega) hu hS0
          omega
        · rw [e]
          have ho10 : o < 10 := by omega
          have a1 := ih (by omega) (or1_b hu ho10).1 hS0
          have a3 := pn_mono (nbh_u (P := P) (kn := kn) (fr := fr) (S := S) hu ho10).1
          omega
    · rw [if_neg hbr] at hb
      rw [if_neg hbr]
      have hSi : S (P.toNat - (n + 1)) = false := by
        cases e : S (P.toNat - (n + 1)) with
        | false => rfl
        | true => exact absurd (hS _ i10 e).1 hbr
      have a1 := ih (by omega) hu (hsm hSi)
      omega
def TGT (P : Int) (kn : Nat → Int) (br fr : Nat → Bool) (n : Nat) (u : Int) (S : Nat → Bool) : Prop := SBS P br n S ∧ mpv P kn br fr n u + ((pn S 10 : Nat) : Int) = bcn P br n + ((pn (nbh P kn fr u S) 10 : Nat) : Int)
theorem tgt_uni {P : Int} {kn : Nat → Int} {br fr : Nat → Bool} {n : Nat} {u : Int} {S T : Nat → Bool} (hP : 0 ≤ P ∧ P ≤ 10) (hn : n ≤ P.toNat) (hu : 0 ≤ u ∧ u ≤ 1023) (a : TGT P kn br fr n u S) (b : TGT P kn br fr n u T) : TGT P kn br fr n u (fun k => S k || T k) := by
  obtain ⟨a1, a2⟩ := a
  obtain ⟨b1, b2⟩ := b
  have c1 : SBS P br n (fun k => S k || T k) := fun k hk h => by
    rcases Bool.or_eq_true _ _ ▸ h with h | h
    · exact a1 k hk h
    · exact b1 k hk h
  have c2 : SBS P br n (fun k => S k && T k) := fun k hk h => by
    rw [Bool.and_eq_true] at h
    exact a1 k hk h.1
  have w1 := bar_wk (kn := kn) (fr := fr) hP n hn hu c1
  have w2 := bar_wk (kn := kn) (fr := fr) hP n hn hu c2
  have s1 := pn_uni S T 10
  have s2 := pn_uni (nbh P kn fr u S) (nbh P kn fr u T) 10
  have m1 : pn (nbh P kn fr u (fun k => S k || T k)) 10 ≤ pn (fun k => nbh P kn fr u S k || nbh P kn fr u T k) 10 := pn_mono (fun o _ ho => by
    rw [nbh_t] at ho
    obtain ⟨x1, x2, i, hi, x3, x4⟩ := ho
    rw [Bool.or_eq_true, nbh_t, nbh_t]
    rcases Bool.or_eq_true _ _ ▸ x3 with h | h
    · exact Or.inl ⟨x1, x2, i, hi, h, x4⟩
    · exact Or.inr ⟨x1, x2, i, hi, h, x4⟩)
  have m2 : pn (nbh P kn fr u (fun k => S k && T k)) 10 ≤ pn (fun k => nbh P kn fr u S k && nbh P kn fr u T k) 10 := pn_mono (fun o _ ho => by
    rw [nbh_t] at ho
    obtain ⟨x1, x2, i, hi, x3, x4⟩ := ho
    rw [Bool.and_eq_true] at x3
    rw [Bool.and_eq_true, nbh_t, nbh_t]
    exact ⟨⟨x1, x2, i, hi, x3.1, x4⟩, ⟨x1, x2, i, hi, x3.2, x4⟩⟩)
  refine ⟨c1, ?_⟩
  omega
theorem bar_st {P : Int} {kn : Nat → Int} {br fr : Nat → Bool} (hP : 0 ≤ P ∧ P ≤ 10) (hf : ∀ k : Nat, k < 10 → fr k = true → (k : Int) < P) : ∀ (n : Nat), n ≤ P.toNat → ∀ {u : Int}, (0 ≤ u ∧ u ≤ 1023) → ∃ S, TGT P kn br fr n u S := by
  intro n
  induction n with
  | zero =>
    intro _ u hu
    refine ⟨fun _ => false, (fun k _ h => by cases h), ?_⟩
    have e : pn (fun _ => false) 10 = 0 := pn_0 (fun _ _ => rfl)
    have e2 : pn (nbh P kn fr u (fun _ => false)) 10 = 0 := pn_0 (fun o _ => by
      cases e : nbh P kn fr u (fun _ => false) o with
      | false => rfl
      | true => rw [nbh_t] at e; obtain ⟨_, _, i, _, c, _⟩ := e; cases c)
    rw [mpv, e, e2]
    unfold bcn
    rw [Nat.sub_zero]
    omega
  | succ n ih =>
    intro hn u hu
    have hb := bcn_s (br := br) (show n < P.toNat by omega)
    have i10 : P.toNat - (n + 1) < 10 := by omega
    obtain ⟨S0, hS0⟩ := ih (by omega) hu
    have up : ∀ {S : Nat → Bool}, SBS P br n S → SBS P br (n + 1) S := fun h k hk hk2 => by
      have := h k hk hk2
      exact ⟨this.1, by omega, this.2.2⟩
    by_cases hbr : br (P.toNat - (n + 1)) = true
    · rw [if_pos hbr] at hb
      by_cases hm : mpv P kn br fr (n + 1) u = mpv P kn br fr n u
      · -- nobody can be added: all whom i knows are taken by tight sets
        have hle : ∀ o, o < P.toNat → (bt (kn (P.toNat - (n + 1))) o && fr o && !bt u o) = true → 1 + mpv P kn br fr n (ior u (ishl 1 (o : Int))) ≤ mpv P kn br fr n u := fun o ho hc => by
          have := mpo_c (v := mpv P kn br fr n) (kni := kn (P.toNat - (n + 1))) (fr := fr) (u := u) (base := mpv P kn br fr n u) (k := P.toNat) ho hc
          rw [mpv, if_pos hbr] at hm
          omega
        have one : ∀ o, o < P.toNat → (bt (kn (P.toNat - (n + 1))) o && fr o && !bt u o) = true → ∃ T, TGT P kn br fr n u T ∧ nbh P kn fr u T o = true := fun o ho hc => by
          have ho10 : o < 10 := by omega
          obtain ⟨T, hT1, hT2⟩ := ih (by omega) (or1_b hu ho10).1
          have a1 := hle o ho hc
          have a2 := bar_wk (kn := kn) (fr := fr) hP n (by omega) hu hT1
          have nu := nbh_u (P := P) (kn := kn) (fr := fr) (S := T) hu ho10
          cases e : nbh P kn fr u T o with
          | true =>
            have a3 : pn (nbh P kn fr u T) 10 = pn (nbh P kn fr (ior u (ishl 1 (o : Int))) T) 10 + 1 := pn_up ho10 (fun k hk hne => (nu.2.2 k hk hne).symm) nu.2.1 e
            exact ⟨T, ⟨hT1, by omega⟩, e⟩
          | false =>
            have a3 : pn (nbh P kn fr u T) 10 = pn (nbh P kn fr (ior u (ishl 1 (o : Int))) T) 10 := pn_eq (fun k hk => by
              by_cases c : k = o
              · rw [c, e, nu.2.1]
              · exact (nu.2.2 k hk c).symm)
            omega
        have all : ∀ k, k ≤ P.toNat → ∃ T, TGT P kn br fr n u T ∧ ∀ o, o < k → (bt (kn (P.toNat - (n + 1))) o && fr o && !bt u o) = true → nbh P kn fr u T o = true := by
          intro k
          induction k with
          | zero => intro _; exact ⟨S0, hS0, fun o ho => by omega⟩
          | succ k ihk =>
            intro hk
            obtain ⟨T, hT, hA⟩ := ihk (by omega)
            by_cases hc : (bt (kn (P.toNat - (n + 1))) k && fr k && !bt u k) = true
            · obtain ⟨T2, hT2, hk2⟩ := one k (by omega) hc
              refine ⟨fun j => T j || T2 j, tgt_uni hP (by omega) hu hT hT2, fun o ho hco => ?_⟩
              have pick : nbh P kn fr u T o = true ∨ nbh P kn fr u T2 o = true := by
                by_cases c : o = k
                · rw [c]; exact Or.inr hk2
                · exact Or.inl (hA o (by omega) hco)
              rw [nbh_t]
              rcases pick with h | h
              · rw [nbh_t] at h
                obtain ⟨x1, x2, i, hi, x3, x4⟩ := h
                exact ⟨x1, x2, i, hi, by rw [x3]; rfl, x4⟩
              · rw [nbh_t] at h
                obtain ⟨x1, x2, i, hi, x3, x4⟩ := h
                exact ⟨x1, x2, i, hi, by rw [x3, Bool.or_true], x4⟩
            · refine ⟨T, hT, fun o ho hco => ?_⟩
              by_cases c : o = k
              · rw [c] at hco; exact absurd hco hc
              · exact hA o (by omega) hco
        obtain ⟨T, ⟨hT1, hT2⟩, hA⟩ := all P.toNat (Nat.le_refl _)
        have hTi : T (P.toNat - (n + 1)) = false := by
          cases e : T (P.toNat - (n + 1)) with
          | false => rfl
          | true => have := hT1 _ i10 e; omega
        refine ⟨fun k => T k || decide (k = P.toNat - (n + 1)), fun k hk h => ?_, ?_⟩
        · rcases Bool.or_eq_true _ _ ▸ h with h | h
          · exact up hT1 k hk h
          · rw [of_decide_eq_true h]; exact ⟨hbr, by omega, by omega⟩
        · have e1 : pn (fun k => T k || decide (k = P.toNat - (n + 1))) 10 = pn T 10 + 1 := pn_up i10 (fun k _ hk => by simp [hk]) hTi (by simp)
          have e2 : pn (nbh P kn fr u (fun k => T k || decide (k = P.toNat - (n + 1)))) 10 = pn (nbh P kn fr u T) 10 := by
            refine Nat.le_antisymm (pn_mono (fun o ho h => ?_)) (nbh_w hP (fun k _ h => by show (T k || _) = true; rw [h]; rfl))
            rw [nbh_t] at h
            obtain ⟨x1, x2, i, hi, x3, x4⟩ := h
            rcases Bool.or_eq_true _ _ ▸ x3 with h | h
            · exact nbh_t.mpr ⟨x1, x2, i, hi, h, x4⟩
            · rw [of_decide_eq_true h] at x4
              have := hf o ho x1
              exact hA o (by omega) (by rw [x4, x1, x2]; rfl)
          rw [e1, e2, hm]
          omega
      · -- somebody can: what was tight stays so
        refine ⟨S0, up hS0.1, ?_⟩
        have a1 := bar_wk (kn := kn) (fr := fr) hP (n + 1) hn hu (up hS0.1)
        have a2 := mpv_s P kn br fr n u
        have := hS0.2
        omega
    · rw [if_neg hbr] at hb
      refine ⟨S0, up hS0.1, ?_⟩
      rw [mpv, if_neg hbr]
      have := hS0.2
      omega
