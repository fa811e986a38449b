/-! THE FIRST HIT AMONG ALL THAT IS GATHERED -/
theorem gao_pc {P g x se : Int} {s h kn : Nat → Int} {w : Wd} {hit : Int → Bool} (hP : 0 ≤ P ∧ P ≤ 10) (hW : WH x s P) (h3 : w 5 3 = P) (h5 : B10 (w 5 5) (hB P h)) (hg : 1 ≤ g ∧ g ≤ 3) (h7 : w 5 7 = g) (hkn : ∀ j : Nat, (j : Int) < P → w 7 j = kn j ∧ 0 ≤ kn j ∧ kn j ≤ 1023) (hr : ROK w) (hlt : w 24 4 < 2147483647) : PC (f_M_gather x se w) (fun _ u => STx hit u (fdf P se kn (gs P s) (fre P s h) (sty P s g) hit 12 0 0)) := by
  unfold f_M_gather
  obtain ⟨r1, e1, b1⟩ := og_e hW w
  rw [e1, jc_s]
  refine pc_call (prep_pc hP hW h3 h5 hg h7 b1 hr hlt) (fun r3 u q => ?_)
  obtain ⟨q1, ⟨q2, q3⟩, ⟨q4, q5, q6, q7⟩, q8, q9⟩ := q
  have novis : ∀ m, ¬ vis (u 24 4) u m := fun m hv => by
    have h1 := hv.2
    rw [q3, q2] at h1
    have := hr.2 m.toNat (by have := hv.1; omega)
    omega
  have hM : MCx P se (u 24 4) kn (gs P s) (fre P s h) (sty P s g) u := ⟨by rw [q1 5 (by decide) (by decide) (by decide) (by decide)]; exact h3, fun j hj => by rw [q1 7 (by decide) (by decide) (by decide) (by decide)]; exact (hkn j hj).1, q4, q5, q6, q7, rfl⟩
  have hL : LSx (u 24 4) (MOV P se kn (gs P s) (fre P s h) (sty P s g)) u := ⟨by omega, fun k hk => by omega, fun i j hi hj => by omega, fun m hm => absurd hm (novis m), fun k hk => by omega⟩
  refine pc_call (spo_pc (hit := hit) hP gs_fre (fun j hj => (hkn j hj).2) 16 (d := 0) (f := 0) (m := 0) (b := -1) 12 hM hL ⟨rfl, rfl⟩ (Or.inl ⟨q8, rfl⟩) (fun x hx _ => absurd hx (novis x)) (by omega)) (fun r5 v q' => pc_some (q' (fun k hk => by omega)))
/-- the same hit by both: only WEEKS that may be are asked -/
theorem fdo_w {g g' : Nat → Option Int} : ∀ {n : Nat}, (∀ k, k < n → g k = g' k) → fdo g n = fdo g' n := by
  intro n
  induction n with
  | zero => intro _; rfl
  | succ n ih =>
    intro h
    rw [fdo, fdo, ih (fun k hk => h k (by omega)), h n (by omega)]
theorem fdf_w {P se : Int} {kn : Nat → Int} {br fr sy : Nat → Bool} {hit hit' : Int → Bool} (h : ∀ m, MOV P se kn br fr sy m → hit m = hit' m) : ∀ (n : Nat) {d : Nat} {f m : Int}, DRC P se kn br fr sy d f m → fdf P se kn br fr sy hit n f m = fdf P se kn br fr sy hit' n f m := by
  intro n
  induction n with
  | zero => intros; rfl
  | succ n ih =>
    intro d f m hm
    rw [fdf_s, fdf_s, h m ⟨d, f, hm⟩]
    have e : fdo (fgi P se kn br fr sy hit n f m) P.toNat = fdo (fgi P se kn br fr sy hit' n f m) P.toNat := fdo_w (fun i hi => by
      unfold fgi
      by_cases c : f ≤ (i : Int)
      · rw [if_pos c, if_pos c]
        refine fdo_w (fun o ho => ?_)
        unfold fgo
        by_cases c2 : cnd1 se kn br fr sy m i o = true
        · rw [if_pos c2, if_pos c2]
          obtain ⟨a, b, c3, d3, e⟩ := cnd1_t.mp c2
          exact ih (d := d + 1) ⟨f, m, hm, i, o, c, by omega, ho, a, b, c3, d3, rfl, e, rfl⟩
        · rw [if_neg c2, if_neg c2]
      · rw [if_neg c, if_neg c])
    rw [e]
/-- what is found is a WEEK that may be, and is hit -/
theorem fdo_some {g : Nat → Option Int} {x : Int} : ∀ {n : Nat}, fdo g n = some x → ∃ k, k < n ∧ g k = some x := by
  intro n
  induction n with
  | zero => intro h; cases h
  | succ n ih =>
    intro h
    rw [fdo] at h
    cases e : fdo g n with
    | some y =>
      rw [e] at h
      obtain ⟨k, hk, e2⟩ := ih (e.trans h)
      exact ⟨k, by omega, e2⟩
    | none => rw [e] at h; exact ⟨n, by omega, h⟩
theorem fdf_some {P se : Int} {kn : Nat → Int} {br fr sy : Nat → Bool} {hit : Int → Bool} : ∀ (n : Nat) {d : Nat} {f m x : Int}, DRC P se kn br fr sy d f m → fdf P se kn br fr sy hit n f m = some x → hit x = true ∧ MOV P se kn br fr sy x := by
  intro n
  induction n with
  | zero => intro d f m x _ h; cases h
  | succ n ih =>
    intro d f m x hm h
    rw [fdf_s] at h
    by_cases c : hit m = true
    · rw [if_pos c] at h
      have e : m = x := by injection h
      rw [← e]; exact ⟨c, d, f, hm⟩
    · rw [if_neg c] at h
      obtain ⟨i, hi, h2⟩ := fdo_some h
      unfold fgi at h2
      by_cases c1 : f ≤ (i : Int)
      · rw [if_pos c1] at h2
        obtain ⟨o, ho, h3⟩ := fdo_some h2
        unfold fgo at h3
        by_cases c2 : cnd1 se kn br fr sy m i o = true
        · rw [if_pos c2] at h3
          obtain ⟨a, b, c3, d3, e⟩ := cnd1_t.mp c2
          exact ih (d := d + 1) ⟨f, m, hm, i, o, c1, by omega, ho, a, b, c3, d3, rfl, e, rfl⟩ h3
        · rw [if_neg c2] at h3; cases h3
      · rw [if_neg c1] at h2; cases h2
