/-! A WEEK READ, by both -/
theorem lt_sh {s h : Int → Int} {n p : Int} (hs : SH s h n) (hp : 0 ≤ p) : LT s p ↔ LT h p := by
  have b := (hs p hp).2.1
  constructor
  · intro ⟨h1, h2⟩
    have := (b (s p) (by omega) (by omega)).mp rfl
    exact ⟨by omega, by omega⟩
  · intro ⟨h1, h2⟩
    have := (b (h p) (by omega) (by omega)).mpr rfl
    exact ⟨by omega, by omega⟩
def ARR (i : Nat) (w a : Wd) : Prop := w 12 2 = (i : Int) ∧ B10 (w 12 3) (mvb (a 60) (a 61) i) ∧ ∀ j, j < i → (w 13 j = a 60 j ∧ w 14 j = a 61 j) ∧ (0 ≤ a 60 j ∧ a 60 j ≤ 9) ∧ 0 ≤ a 61 j ∧ a 61 j ≤ 9
def EXr (x u : Wd) : Prop := ∀ d, d ≠ 12 → d ≠ 13 → d ≠ 14 → u d = x d
def WR (x y : Wd) (N r : Int) (u : Wd) (i' : Int) (a' : Wd) : Prop := EXr x u ∧ RXr y a' ∧ ((r = 0 ∧ a' 43 21 = -1 ∧ N ≤ a' 43 20 ∧ ∃ i : Nat, i' = i ∧ i ≤ 10 ∧ ARR i u a') ∨ (r < 0 ∧ 0 ≤ -1 - r ∧ -1 - r ≤ 100 ∧ (a' 43 21 = -1 - r ∨ (a' 43 21 = -1 ∧ a' 43 20 < N ∧ a' 43 20 = -1 - r))))
theorem arr_add {i : Nat} {p q : Int} {w u a a' : Wd} (h : ARR i w a) (hp : 0 ≤ p ∧ p ≤ 9) (hq : 0 ≤ q ∧ q ≤ 9) (hu : ADq i p q w u) (h60 : ∀ j, a' 60 j = if j = i then p else a 60 j) (h61 : ∀ j, a' 61 j = if j = i then q else a 61 j) : ARR (i + 1) u a' := by
  obtain ⟨u1, u2, u3, u4, u5, _⟩ := hu
  obtain ⟨h1, h2, h3⟩ := h
  have o60 : ∀ j, j < i → a' 60 j = a 60 j := fun j hj => by rw [h60, if_neg (by omega)]
  have o61 : ∀ j, j < i → a' 61 j = a 61 j := fun j hj => by rw [h61, if_neg (by omega)]
  have n60 : a' 60 i = p := by rw [h60, if_pos rfl]
  have n61 : a' 61 i = q := by rw [h61, if_pos rfl]
  refine ⟨u1.trans rfl, ?_, fun j hj => ?_⟩
  · rw [u2]
    refine b10_w (b10_or h2 (b10_or (b10_1 hp) (b10_1 hq))) (fun k _ => ?_)
    rw [mvb, n60, n61, mvb_eq (fun j hj => ⟨(o60 j hj).symm, (o61 j hj).symm⟩)]
  · by_cases c : j = i
    · rw [c, n60, n61]
      exact ⟨⟨u3, u4⟩, hp, hq⟩
    · have := h3 j (by omega)
      rw [(u5 j (by omega)).1, (u5 j (by omega)).2, o60 j (by omega), o61 j (by omega)]
      exact this
theorem wk_read {N : Int} {f0 f1 : Nat → Int} (x y : Wd) (hN : 0 ≤ N) (hSH : SH (sL N f0) (hx N f1) N) (hf0 : ∀ k : Nat, (k : Int) < N → 0 ≤ f0 k) (x1 : x 1 1 = N) (x2 : x 2 = f0) (hy : RW N f1 y) : ∀ (n m : Nat) {i : Nat} {w a : Wd}, i ≤ 10 → EXr x w → RXr y a → a 43 20 = 4 * i → a 43 21 = -1 → ARR i w a → PC (f_P_read_15 n (4 * i) w) (fun r u => ∀ Q : Int → Wd → Prop, (∀ i' a', WR x y N r u i' a' → PC (f_R_week_100 i' a') Q) → PC (f_R_week_39 m (i : Int) 1 a) Q) := by
  intro n
  induction n with
  | zero => intros; exact pc_none
  | succ n ih =>
    intro m i w a hi hw ha hp h21 hA
    cases m with
    | zero => exact fun _ _ _ _ _ => pc_none
    | succ m =>
    have hR := rw_fr hy ha
    have ww1 : w 1 = x 1 := hw 1 (by decide) (by decide) (by decide)
    have ww2 : w 2 = x 2 := hw 2 (by decide) (by decide) (by decide)
    rw [f_P_read_15]
    refine pc_ite (fun c => pc_some (fun Q hQ => ?_)) (fun c => ?_)
    · have no : ¬ LT (hx N f1) (4 * i) := fun h => by
        have := hx_lt (n := N) (f0 := f1) (p := 4 * (i : Int)) (by have := h.1; omega)
        omega
      exact r39_pc hR hi hp h21 (fun _ a' b1 b2 => hQ _ a' ⟨hw, rxr_tr ha b1, Or.inr ⟨by decide, by decide, by decide, Or.inl (by rw [b2]; omega)⟩⟩) (fun h => absurd h no) (fun h => absurd h no) (fun h => absurd h no)
    · have e1 := lt_sh hSH (p := 4 * (i : Int)) (by omega)
      have e2 := lt_sh hSH (p := 4 * (i : Int) + 2) (by omega)
      have g1 := (hSH (4 * (i : Int) + 1) (by omega)).2.1 62 (by decide) (by decide)
      have g3 := (hSH (4 * (i : Int) + 3) (by omega)).2.1 59 (by decide) (by decide)
      refine r23_pc (N := N) (f0 := f0) (by rw [ww1]; exact x1) (ww2.trans x2) (by omega) hA.1 (fun z1 Q hQ => ?_) (fun z1 z2 Q hQ => ?_) (fun z1 z2 z3 Q hQ => ?_) (fun z1 z2 z3 u hu => ?_) FU
      · have no : ¬ LT (hx N f1) (4 * i) := fun h => z1 (e1.mpr h)
        exact r39_pc hR hi hp h21 (fun _ a' b1 b2 => hQ _ a' ⟨hw, rxr_tr ha b1, Or.inr ⟨by omega, by omega, by omega, Or.inl (by rw [b2]; omega)⟩⟩) (fun h => absurd h no) (fun h => absurd h no) (fun h => absurd h no)
      · have n62 : hx N f1 (4 * i + 1) ≠ 62 := fun h => z2 (g1.mpr h)
        exact r39_pc hR hi hp h21 (fun h => absurd (e1.mp z1) h) (fun _ _ a' b1 b2 => hQ _ a' ⟨hw, rxr_tr ha b1, Or.inr ⟨by omega, by omega, by omega, Or.inl (by rw [b2]; omega)⟩⟩) (fun _ h => absurd h n62) (fun _ h => absurd h n62)
      · have no : ¬ LT (hx N f1) (4 * i + 2) := fun h => z3 (e2.mpr h)
        exact r39_pc hR hi hp h21 (fun h => absurd (e1.mp z1) h) (fun _ h => absurd (g1.mp z2) h) (fun _ _ _ a' b1 b2 => hQ _ a' ⟨hw, rxr_tr ha b1, Or.inr ⟨by omega, by omega, by omega, Or.inl (by rw [b2]; omega)⟩⟩) (fun _ _ h => absurd h no)
      · have v1 := sh_e hSH (p := 4 * (i : Int)) (by omega) (by have := (e1.mp z1).1; omega)
        have v3 := sh_e hSH (p := 4 * (i : Int) + 2) (by omega) (by have := (e2.mp z3).1; omega)
        have hu' : ADq i (hx N f1 (4 * i) - 97) (hx N f1 (4 * i + 2) - 97) w u := by rw [← v1.1, ← v3.1]; exact hu
        have l1 := e1.mp z1
        have l3 := e2.mp z3
        have hwu : EXr x u := fun d d1 d2 d3 => (hu.2.2.2.2.2 d d1 d2 d3).trans (hw d d1 d2 d3)
        have arr : ∀ {a' : Wd}, (∀ j, a' 60 j = if j = i then hx N f1 (4 * i) - 97 else a 60 j) → (∀ j, a' 61 j = if j = i then hx N f1 (4 * i + 2) - 97 else a 61 j) → ARR (i + 1) u a' := fun b4 b5 => arr_add hA (by have := l1.1; have := l1.2; omega) (by have := l3.1; have := l3.2; omega) hu' b4 b5
        have sl3 : sL N f0 (4 * i + 3) = if 4 * (i : Int) + 3 < N then f0 (4 * (i : Int) + 3).toNat else -1 := by
          unfold sL
          rw [if_neg (by omega)]
          by_cases cn : 4 * (i : Int) + 3 < N
          · rw [if_pos cn, if_pos cn, if_pos (by omega)]
          · rw [if_neg cn, if_neg cn]
        refine ⟨fun y1 Q hQ => ?_, fun y1 => ?_, fun y1 y2 Q hQ => ?_⟩
        · have n59 : hx N f1 (4 * i + 3) ≠ 59 := fun h => by rw [g3.mpr h] at y1; omega
          have nN : N ≤ 4 * (i : Int) + 3 := by
            by_cases cn : 4 * (i : Int) + 3 < N
            · rw [sl3, if_pos cn] at y1
              have := hf0 (4 * (i : Int) + 3).toNat (by omega)
              omega
            · omega
          exact r39_pc hR hi hp h21 (fun h => absurd l1 h) (fun _ h => absurd (g1.mp z2) h) (fun _ _ h => absurd l3 h) (fun _ _ _ a' b1 b2 b4 b5 => ⟨fun h => absurd h n59, fun _ b3 => hQ _ a' ⟨hwu, rxr_tr ha b1, Or.inl ⟨rfl, b2, by rw [b3]; exact nN, i + 1, rfl, by omega, arr b4 b5⟩⟩⟩)
        · intro r u' eL Q hQ
          refine r39_pc hR hi hp h21 (fun h => absurd l1 h) (fun _ h => absurd (g1.mp z2) h) (fun _ _ h => absurd l3 h) (fun _ _ _ a' b1 b2 b4 b5 => ⟨fun _ b3 => ?_, fun h => absurd (g3.mp y1) h⟩)
          have := ih m (i := i + 1) (w := u) (a := a') (by omega) hwu (rxr_tr ha b1) (by rw [b3]; omega) b2 (arr b4 b5)
          rw [show 4 * ((i + 1 : Nat) : Int) = 4 * i + 4 by omega] at this
          exact this r u' eL Q hQ
        · have n59 : hx N f1 (4 * i + 3) ≠ 59 := fun h => y2 (g3.mpr h)
          have nN : 4 * (i : Int) + 3 < N := by
            by_cases cn : 4 * (i : Int) + 3 < N
            · exact cn
            · rw [sl3, if_neg cn] at y1
              exact absurd rfl y1
          exact r39_pc hR hi hp h21 (fun h => absurd l1 h) (fun _ h => absurd (g1.mp z2) h) (fun _ _ h => absurd l3 h) (fun _ _ _ a' b1 b2 b4 b5 => ⟨fun h => absurd h n59, fun _ b3 => hQ _ a' ⟨hwu, rxr_tr ha b1, Or.inr ⟨by omega, by omega, by omega, Or.inr ⟨b2, by rw [b3]; exact nN, by rw [b3]; omega⟩⟩⟩⟩)
