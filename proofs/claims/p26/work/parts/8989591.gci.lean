/-! THE FIRST HIT: SEATS asked at each, or at the hit alone -/
theorem fdf_no {P se : Int} {kn : Nat → Int} {br fr sy : Nat → Bool} {hit : Int → Bool} (hP : 0 ≤ P ∧ P ≤ 10) (hh : ∀ (d : Nat) (f m : Int), DRC P 20 kn br fr sy d f m → d ≠ 0 → hit m = true → ((pn (fun k => sy k || bt m k) 10 : Nat) : Int) ≤ se) : ∀ (n : Nat) {d : Nat} {f m : Int}, DRC P 20 kn br fr sy d f m → d ≠ 0 → ¬ ((pn (fun k => sy k || bt m k) 10 : Nat) : Int) ≤ se → fdf P 20 kn br fr sy hit n f m = none := by
  intro n
  induction n with
  | zero => intros; rfl
  | succ n ih =>
    intro d f m hm hd hs
    rw [fdf_s, if_neg (fun h => hs (hh d f m hm hd h))]
    refine fdo_none (fun i hi => ?_)
    unfold fgi
    by_cases c : f ≤ (i : Int)
    · rw [if_pos c]
      refine fdo_none (fun o ho => ?_)
      unfold fgo
      by_cases c2 : cnd1 20 kn br fr sy m i o = true
      · rw [if_pos c2]
        obtain ⟨a, b, c3, d3, e⟩ := cnd1_t.mp c2
        refine ih (d := d + 1) ⟨f, m, hm, i, o, c, by omega, ho, a, b, c3, d3, rfl, e, rfl⟩ (by omega) (fun h => hs ?_)
        have r := drc_rg hP hm
        have : pn (fun k => sy k || bt m k) 10 ≤ pn (fun k => sy k || bt (sq m i o) k) 10 := pn_mono (fun k hk h => by
          have h' : (sy k || bt m k) = true := h
          show (sy k || bt (sq m i o) k) = true
          rw [sq_t r.1 (by omega) ho hk]
          cases h1 : sy k with
          | true => rfl
          | false => rw [h1, Bool.false_or] at h'; rw [h']; rfl)
        omega
      · rw [if_neg c2]
    · rw [if_neg c]
theorem fdf_se {P se : Int} {kn : Nat → Int} {br fr sy : Nat → Bool} {hit : Int → Bool} (hP : 0 ≤ P ∧ P ≤ 10) (hh : ∀ (d : Nat) (f m : Int), DRC P 20 kn br fr sy d f m → d ≠ 0 → hit m = true → ((pn (fun k => sy k || bt m k) 10 : Nat) : Int) ≤ se) : ∀ (n : Nat) {d : Nat} {f m : Int}, DRC P 20 kn br fr sy d f m → fdf P 20 kn br fr sy hit n f m = (if d = 0 ∨ ((pn (fun k => sy k || bt m k) 10 : Nat) : Int) ≤ se then fdf P se kn br fr sy hit n f m else none) := by
  intro n
  induction n with
  | zero => intro d f m _; split <;> rfl
  | succ n ih =>
    intro d f m hm
    by_cases cs : d = 0 ∨ ((pn (fun k => sy k || bt m k) 10 : Nat) : Int) ≤ se
    · rw [if_pos cs, fdf_s, fdf_s]
      have e : fdo (fgi P 20 kn br fr sy hit n f m) P.toNat = fdo (fgi P se kn br fr sy hit n f m) P.toNat := fdo_w (fun i hi => by
        unfold fgi
        by_cases c : f ≤ (i : Int)
        · rw [if_pos c, if_pos c]
          refine fdo_w (fun o ho => ?_)
          unfold fgo
          by_cases c2 : cnd1 20 kn br fr sy m i o = true
          · rw [if_pos c2]
            obtain ⟨a, b, c3, d3, e⟩ := cnd1_t.mp c2
            have hD : DRC P 20 kn br fr sy (d + 1) ((i : Int) + 1) (sq m i o) := ⟨f, m, hm, i, o, c, by omega, ho, a, b, c3, d3, rfl, e, rfl⟩
            rw [ih hD]
            by_cases c4 : ((pn (fun k => sy k || bt (sq m i o) k) 10 : Nat) : Int) ≤ se
            · rw [if_pos (Or.inr c4), if_pos (cnd1_t.mpr ⟨a, b, c3, d3, c4⟩)]
            · rw [if_neg (fun h => h.elim (by omega) c4), if_neg (fun h => c4 (cnd1_t.mp h).2.2.2.2)]
          · rw [if_neg c2, if_neg (fun h => c2 (cnd1_t.mpr ⟨(cnd1_t.mp h).1, (cnd1_t.mp h).2.1, (cnd1_t.mp h).2.2.1, (cnd1_t.mp h).2.2.2.1, by have := pn_le (fun k => sy k || bt (sq m i o) k) 10; omega⟩))]
        · rw [if_neg c, if_neg c])
      rw [e]
    · rw [if_neg cs]
      exact fdf_no hP hh (n + 1) hm (fun h => cs (Or.inl h)) (fun h => cs (Or.inr h))
