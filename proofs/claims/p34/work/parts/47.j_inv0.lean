section
/-! WHAT STAYS TRUE OF THE REFERENCE: partly (where it gives something), so no guards and no ends are to be shown again -/
def PC (o : Option (Int × Wd)) (Q : Int → Wd → Prop) : Prop := ∀ r u, o = some (r, u) → Q r u
theorem pc_ok {o : Option (Int × Wd)} {P : Int → Wd → Prop} (h : OK o P) : PC o P := by
  obtain ⟨r, u, e, h⟩ := h
  intro r' u' e'
  rw [e] at e'
  cases e'
  exact h
theorem pc_and {o : Option (Int × Wd)} {P Q : Int → Wd → Prop} (h : PC o P) (h2 : PC o Q) : PC o (fun r u => P r u ∧ Q r u) := fun r u e => ⟨h r u e, h2 r u e⟩
theorem pc_w {o : Option (Int × Wd)} {P Q : Int → Wd → Prop} (h : PC o P) (hq : ∀ r u, P r u → Q r u) : PC o Q := fun r u e => hq r u (h r u e)
theorem ok_pc {o : Option (Int × Wd)} {P Q : Int → Wd → Prop} (h : OK o P) (h2 : PC o Q) : OK o (fun r u => P r u ∧ Q r u) := by
  obtain ⟨r, u, e, h⟩ := h
  exact ⟨r, u, e, h, h2 r u e⟩
theorem pc_none {Q : Int → Wd → Prop} : PC none Q := fun _ _ e => by cases e
theorem pc_some {r : Int} {u : Wd} {Q : Int → Wd → Prop} (h : Q r u) : PC (some (r, u)) Q := fun r' u' e => by cases e; exact h
theorem pc_call {x : Option (Int × Wd)} {f : Int → Wd → Option (Int × Wd)} {P Q : Int → Wd → Prop} (h : PC x P) (hf : ∀ r u, P r u → PC (f r u) Q) : PC (jcall x f) Q := by
  cases x with
  | none => exact pc_none
  | some q => exact hf q.1 q.2 (h q.1 q.2 rfl)
theorem pc_ite {c : Prop} [d : Decidable c] {a b : Option (Int × Wd)} {Q : Int → Wd → Prop} (h1 : c → PC a Q) (h2 : ¬ c → PC b Q) : PC (@ite _ c d a b) Q := by
  by_cases h : c
  · rw [if_pos h]; exact h1 h
  · rw [if_neg h]; exact h2 h
theorem pc_gd {c : Prop} [d : Decidable c] {a : Option (Int × Wd)} {Q : Int → Wd → Prop} (h1 : c → PC a Q) : PC (@jgd _ c d a) Q := pc_ite h1 (fun _ => pc_none)
theorem pc_let {x : Int} {f : Int → Option (Int × Wd)} {Q : Int → Wd → Prop} (h : ∀ y, y = x → PC (f y) Q) : PC (jlet x f) Q := h x rfl
theorem pc_lw {x : Wd} {f : Wd → Option (Int × Wd)} {Q : Int → Wd → Prop} (h : ∀ y, y = x → PC (f y) Q) : PC (jlw x f) Q := h x rfl
theorem lay_pc59 {k : Nat} {v2 : Int} (hk : v2 = k) (i2 : 0 ≤ v2 ∧ v2 ≤ 1829) (i0 b0 f0 z0 : Nat → Int) : ∀ (n : Nat) {w : Wd} {v3 : Int}, (0 ≤ v3 ∧ v3 ≤ 10) → (∀ j, w 47 j = i0 j) → (∀ j, w 48 j = b0 j) → (∀ j, w 49 j = f0 j) → (∀ j : Nat, (j : Int) < v3 → w 59 (k + 3 * j) = i0 j ∧ w 59 (k + 3 * j + 1) = b0 j ∧ w 59 (k + 3 * j + 2) = f0 j) → (∀ i, (i < k ∨ k + 31 ≤ i) → w 59 i = z0 i) → PC (f_R_lay_43_59_2 n v2 v3 w) (fun _ u => (∀ j : Nat, j < 10 → u 59 (k + 3 * j) = i0 j ∧ u 59 (k + 3 * j + 1) = b0 j ∧ u 59 (k + 3 * j + 2) = f0 j) ∧ ∀ i, (i < k ∨ k + 31 ≤ i) → u 59 i = z0 i) := by
  intro n
  induction n with
  | zero => intros; exact pc_none
  | succ n ih =>
    intro w v3 i3 h47 h48 h49 hD hO
    rw [f_R_lay_43_59_2]
    have w1 := w32_sp (v2 + 30)
    have w2 := w32_sp (3 * v3)
    have w3 := w32_sp (v2 + w32 (3 * v3))
    have w4 := w32_sp (w32 (v2 + w32 (3 * v3)) + 1)
    have w5 := w32_sp (w32 (v2 + w32 (3 * v3)) + 2)
    have w6 := w32_sp (v3 + 1)
    refine pc_ite (fun h => ?_) (fun h => ?_)
    · refine pc_gd (fun _ => ?_)
      refine pc_lw (fun u1 e1 => ?_)
      refine pc_some ⟨fun j hj => ?_, fun i hi => ?_⟩
      · have h1 := hD j (by omega)
        rw [e1, st_k (by omega), st_k (by omega), st_k (by omega)]
        exact h1
      · rw [e1, st_k (by omega)]; exact hO i hi
    · refine pc_gd (fun _ => ?_)
      refine pc_gd (fun _ => ?_)
      refine pc_lw (fun u2 e2 => ?_)
      refine pc_gd (fun _ => ?_)
      refine pc_gd (fun _ => ?_)
      refine pc_lw (fun u3 e3 => ?_)
      refine pc_gd (fun _ => ?_)
      refine pc_gd (fun _ => ?_)
      refine pc_lw (fun u4 e4 => ?_)
      refine pc_let (fun x5 e5 => ?_)
      have q1 : (w32 (v2 + w32 (3 * v3))).toNat = k + 3 * v3.toNat := by omega
      have q2 : (w32 (w32 (v2 + w32 (3 * v3)) + 1)).toNat = k + 3 * v3.toNat + 1 := by omega
      have q3 : (w32 (w32 (v2 + w32 (3 * v3)) + 2)).toNat = k + 3 * v3.toNat + 2 := by omega
      rw [q1] at e2; rw [q2] at e3; rw [q3] at e4
      have a47 : ∀ j, u4 47 j = i0 j := fun j => by rw [e4, st_c (by decide), e3, st_c (by decide), e2, st_c (by decide)]; exact h47 j
      have a48 : ∀ j, u4 48 j = b0 j := fun j => by rw [e4, st_c (by decide), e3, st_c (by decide), e2, st_c (by decide)]; exact h48 j
      have a49 : ∀ j, u4 49 j = f0 j := fun j => by rw [e4, st_c (by decide), e3, st_c (by decide), e2, st_c (by decide)]; exact h49 j
      refine ih (by omega) a47 a48 a49 (fun j hj => ?_) (fun i hi => ?_)
      · by_cases hjv : j = v3.toNat
        · subst hjv
          refine ⟨?_, ?_, ?_⟩
          · rw [e4, st_k (by omega), e3, st_k (by omega), e2, st_eq]; exact h47 _
          · rw [e4, st_k (by omega), e3, st_eq, e2, st_c (by decide)]; exact h48 _
          · rw [e4, st_eq, e3, st_c (by decide), e2, st_c (by decide)]; exact h49 _
        · have h1 := hD j (by omega)
          rw [e4, st_k (by omega), st_k (by omega), st_k (by omega), e3, st_k (by omega), st_k (by omega), st_k (by omega), e2, st_k (by omega), st_k (by omega), st_k (by omega)]
          exact h1
      · rw [e4, st_k (by omega), e3, st_k (by omega), e2, st_k (by omega)]; exact hO i hi
theorem lay59 {k : Nat} {v2 : Int} (hk : v2 = k) (i2 : 0 ≤ v2 ∧ v2 ≤ 1829) (w : Wd) : PC (f_R_lay_43_59 v2 w) (fun _ u => (∀ j : Nat, j < 10 → u 59 (k + 3 * j) = w 47 j ∧ u 59 (k + 3 * j + 1) = w 48 j ∧ u 59 (k + 3 * j + 2) = w 49 j) ∧ ∀ i, (i < k ∨ k + 31 ≤ i) → u 59 i = w 59 i) := by
  unfold f_R_lay_43_59
  exact lay_pc59 hk i2 (w 47) (w 48) (w 49) (w 59) FU (by omega) (fun _ => rfl) (fun _ => rfl) (fun _ => rfl) (fun j hj => by omega) (fun _ _ => rfl)
theorem bring_pc59 {k : Nat} {v2 : Int} (hk : v2 = k) (i2 : 0 ≤ v2 ∧ v2 ≤ 1829) (P : Int) (hP : P ≤ 10) (z0 : Nat → Int) : ∀ (n : Nat) {w : Wd} {v3 : Int}, (0 ≤ v3 ∧ v3 ≤ 10) → w 43 0 = P → (∀ j, w 59 j = z0 j) → (∀ j : Nat, (j : Int) < v3 → w 47 j = z0 (k + 3 * j) ∧ w 48 j = z0 (k + 3 * j + 1) ∧ w 49 j = z0 (k + 3 * j + 2)) → PC (f_R_bring_43_59_2 n v2 v3 w) (fun _ u => ∀ j : Nat, (j : Int) < P → u 47 j = z0 (k + 3 * j) ∧ u 48 j = z0 (k + 3 * j + 1) ∧ u 49 j = z0 (k + 3 * j + 2)) := by
  intro n
  induction n with
  | zero => intros; exact pc_none
  | succ n ih =>
    intro w v3 i3 h0 hz hD
    rw [f_R_bring_43_59_2]
    have w2 := w32_sp (3 * v3)
    have w3 := w32_sp (v2 + w32 (3 * v3))
    have w4 := w32_sp (w32 (v2 + w32 (3 * v3)) + 1)
    have w5 := w32_sp (w32 (v2 + w32 (3 * v3)) + 2)
    have w6 := w32_sp (v3 + 1)
    refine pc_ite (fun h => ?_) (fun h => ?_)
    · refine pc_gd (fun _ => ?_)
      refine pc_lw (fun u1 e1 => ?_)
      refine pc_some (fun j hj => ?_)
      rw [e1, st_c (by decide), st_c (by decide), st_c (by decide)]
      exact hD j (by omega)
    · refine pc_gd (fun _ => ?_)
      refine pc_gd (fun _ => ?_)
      refine pc_lw (fun u2 e2 => ?_)
      refine pc_gd (fun _ => ?_)
      refine pc_gd (fun _ => ?_)
      refine pc_lw (fun u3 e3 => ?_)
      refine pc_gd (fun _ => ?_)
      refine pc_gd (fun _ => ?_)
      refine pc_lw (fun u4 e4 => ?_)
      refine pc_let (fun x5 e5 => ?_)
      have q1 : (w32 (v2 + w32 (3 * v3))).toNat = k + 3 * v3.toNat := by omega
      have q2 : (w32 (w32 (v2 + w32 (3 * v3)) + 1)).toNat = k + 3 * v3.toNat + 1 := by omega
      have q3 : (w32 (w32 (v2 + w32 (3 * v3)) + 2)).toNat = k + 3 * v3.toNat + 2 := by omega
      rw [q1] at e2; rw [q2] at e3; rw [q3] at e4
      have aZ2 : ∀ j, u2 59 j = z0 j := fun j => by rw [e2, st_c (by decide)]; exact hz j
      have aZ3 : ∀ j, u3 59 j = z0 j := fun j => by rw [e3, st_c (by decide)]; exact aZ2 j
      rw [hz] at e2; rw [aZ2] at e3; rw [aZ3] at e4
      refine ih (by omega) (by rw [e4, st_c (by decide), e3, st_c (by decide), e2, st_c (by decide)]; exact h0) (fun j => by rw [e4, st_c (by decide)]; exact aZ3 j) (fun j hj => ?_)
      by_cases hjv : j = v3.toNat
      · subst hjv
        refine ⟨?_, ?_, ?_⟩
        · rw [e4, st_c (by decide), e3, st_c (by decide), e2, st_eq]
        · rw [e4, st_c (by decide), e3, st_eq]
        · rw [e4, st_eq]
      · have h1 := hD j (by omega)
        rw [e4, st_c (by decide), st_c (by decide), st_k hjv, e3, st_c (by decide), st_k hjv, st_c (by decide), e2, st_k hjv, st_c (by decide), st_c (by decide)]
        exact h1
theorem bring59 {k : Nat} {v2 : Int} (hk : v2 = k) (i2 : 0 ≤ v2 ∧ v2 ≤ 1829) (w : Wd) (hP : w 43 0 ≤ 10) : PC (f_R_bring_43_59 v2 w) (fun _ u => ∀ j : Nat, (j : Int) < w 43 0 → u 47 j = w 59 (k + 3 * j) ∧ u 48 j = w 59 (k + 3 * j + 1) ∧ u 49 j = w 59 (k + 3 * j + 2)) := by
  unfold f_R_bring_43_59
  exact bring_pc59 hk i2 (w 43 0) hP (w 59) FU (by omega) rfl (fun _ => rfl) (fun j hj => by omega)
theorem lay_pc79 {k : Nat} {v2 : Int} (hk : v2 = k) (i2 : 0 ≤ v2 ∧ v2 ≤ 105) (i0 b0 f0 z0 : Nat → Int) : ∀ (n : Nat) {w : Wd} {v3 : Int}, (0 ≤ v3 ∧ v3 ≤ 10) → (∀ j, w 47 j = i0 j) → (∀ j, w 48 j = b0 j) → (∀ j, w 49 j = f0 j) → (∀ j : Nat, (j : Int) < v3 → w 79 (k + 3 * j) = i0 j ∧ w 79 (k + 3 * j + 1) = b0 j ∧ w 79 (k + 3 * j + 2) = f0 j) → (∀ i, (i < k ∨ k + 31 ≤ i) → w 79 i = z0 i) → PC (f_R_lay_43_79_2 n v2 v3 w) (fun _ u => (∀ j : Nat, j < 10 → u 79 (k + 3 * j) = i0 j ∧ u 79 (k + 3 * j + 1) = b0 j ∧ u 79 (k + 3 * j + 2) = f0 j) ∧ ∀ i, (i < k ∨ k + 31 ≤ i) → u 79 i = z0 i) := by
  intro n
  induction n with
  | zero => intros; exact pc_none
  | succ n ih =>
    intro w v3 i3 h47 h48 h49 hD hO
    rw [f_R_lay_43_79_2]
    have w1 := w32_sp (v2 + 30)
    have w2 := w32_sp (3 * v3)
    have w3 := w32_sp (v2 + w32 (3 * v3))
    have w4 := w32_sp (w32 (v2 + w32 (3 * v3)) + 1)
    have w5 := w32_sp (w32 (v2 + w32 (3 * v3)) + 2)
    have w6 := w32_sp (v3 + 1)
    refine pc_ite (fun h => ?_) (fun h => ?_)
    · refine pc_gd (fun _ => ?_)
      refine pc_lw (fun u1 e1 => ?_)
      refine pc_some ⟨fun j hj => ?_, fun i hi => ?_⟩
      · have h1 := hD j (by omega)
        rw [e1, st_k (by omega), st_k (by omega), st_k (by omega)]
        exact h1
      · rw [e1, st_k (by omega)]; exact hO i hi
    · refine pc_gd (fun _ => ?_)
      refine pc_gd (fun _ => ?_)
      refine pc_lw (fun u2 e2 => ?_)
      refine pc_gd (fun _ => ?_)
      refine pc_gd (fun _ => ?_)
      refine pc_lw (fun u3 e3 => ?_)
      refine pc_gd (fun _ => ?_)
      refine pc_gd (fun _ => ?_)
      refine pc_lw (fun u4 e4 => ?_)
      refine pc_let (fun x5 e5 => ?_)
      have q1 : (w32 (v2 + w32 (3 * v3))).toNat = k + 3 * v3.toNat := by omega
      have q2 : (w32 (w32 (v2 + w32 (3 * v3)) + 1)).toNat = k + 3 * v3.toNat + 1 := by omega
      have q3 : (w32 (w32 (v2 + w32 (3 * v3)) + 2)).toNat = k + 3 * v3.toNat + 2 := by omega
      rw [q1] at e2; rw [q2] at e3; rw [q3] at e4
      have a47 : ∀ j, u4 47 j = i0 j := fun j => by rw [e4, st_c (by decide), e3, st_c (by decide), e2, st_c (by decide)]; exact h47 j
      have a48 : ∀ j, u4 48 j = b0 j := fun j => by rw [e4, st_c (by decide), e3, st_c (by decide), e2, st_c (by decide)]; exact h48 j
      have a49 : ∀ j, u4 49 j = f0 j := fun j => by rw [e4, st_c (by decide), e3, st_c (by decide), e2, st_c (by decide)]; exact h49 j
      refine ih (by omega) a47 a48 a49 (fun j hj => ?_) (fun i hi => ?_)
      · by_cases hjv : j = v3.toNat
        · subst hjv
          refine ⟨?_, ?_, ?_⟩
          · rw [e4, st_k (by omega), e3, st_k (by omega), e2, st_eq]; exact h47 _
          · rw [e4, st_k (by omega), e3, st_eq, e2, st_c (by decide)]; exact h48 _
          · rw [e4, st_eq, e3, st_c (by decide), e2, st_c (by decide)]; exact h49 _
        · have h1 := hD j (by omega)
          rw [e4, st_k (by omega), st_k (by omega), st_k (by omega), e3, st_k (by omega), st_k (by omega), st_k (by omega), e2, st_k (by omega), st_k (by omega), st_k (by omega)]
          exact h1
      · rw [e4, st_k (by omega), e3, st_k (by omega), e2, st_k (by omega)]; exact hO i hi
theorem lay79 {k : Nat} {v2 : Int} (hk : v2 = k) (i2 : 0 ≤ v2 ∧ v2 ≤ 105) (w : Wd) : PC (f_R_lay_43_79 v2 w) (fun _ u => (∀ j : Nat, j < 10 → u 79 (k + 3 * j) = w 47 j ∧ u 79 (k + 3 * j + 1) = w 48 j ∧ u 79 (k + 3 * j + 2) = w 49 j) ∧ ∀ i, (i < k ∨ k + 31 ≤ i) → u 79 i = w 79 i) := by
  unfold f_R_lay_43_79
  exact lay_pc79 hk i2 (w 47) (w 48) (w 49) (w 79) FU (by omega) (fun _ => rfl) (fun _ => rfl) (fun _ => rfl) (fun j hj => by omega) (fun _ _ => rfl)
theorem bring_pc79 {k : Nat} {v2 : Int} (hk : v2 = k) (i2 : 0 ≤ v2 ∧ v2 ≤ 105) (P : Int) (hP : P ≤ 10) (z0 : Nat → Int) : ∀ (n : Nat) {w : Wd} {v3 : Int}, (0 ≤ v3 ∧ v3 ≤ 10) → w 43 0 = P → (∀ j, w 79 j = z0 j) → (∀ j : Nat, (j : Int) < v3 → w 47 j = z0 (k + 3 * j) ∧ w 48 j = z0 (k + 3 * j + 1) ∧ w 49 j = z0 (k + 3 * j + 2)) → PC (f_R_bring_43_79_2 n v2 v3 w) (fun _ u => ∀ j : Nat, (j : Int) < P → u 47 j = z0 (k + 3 * j) ∧ u 48 j = z0 (k + 3 * j + 1) ∧ u 49 j = z0 (k + 3 * j + 2)) := by
  intro n
  induction n with
  | zero => intros; exact pc_none
  | succ n ih =>
    intro w v3 i3 h0 hz hD
    rw [f_R_bring_43_79_2]
    have w2 := w32_sp (3 * v3)
    have w3 := w32_sp (v2 + w32 (3 * v3))
    have w4 := w32_sp (w32 (v2 + w32 (3 * v3)) + 1)
    have w5 := w32_sp (w32 (v2 + w32 (3 * v3)) + 2)
    have w6 := w32_sp (v3 + 1)
    refine pc_ite (fun h => ?_) (fun h => ?_)
    · refine pc_gd (fun _ => ?_)
      refine pc_lw (fun u1 e1 => ?_)
      refine pc_some (fun j hj => ?_)
      rw [e1, st_c (by decide), st_c (by decide), st_c (by decide)]
      exact hD j (by omega)
    · refine pc_gd (fun _ => ?_)
      refine pc_gd (fun _ => ?_)
      refine pc_lw (fun u2 e2 => ?_)
      refine pc_gd (fun _ => ?_)
      refine pc_gd (fun _ => ?_)
      refine pc_lw (fun u3 e3 => ?_)
      refine pc_gd (fun _ => ?_)
      refine pc_gd (fun _ => ?_)
      refine pc_lw (fun u4 e4 => ?_)
      refine pc_let (fun x5 e5 => ?_)
      have q1 : (w32 (v2 + w32 (3 * v3))).toNat = k + 3 * v3.toNat := by omega
      have q2 : (w32 (w32 (v2 + w32 (3 * v3)) + 1)).toNat = k + 3 * v3.toNat + 1 := by omega
      have q3 : (w32 (w32 (v2 + w32 (3 * v3)) + 2)).toNat = k + 3 * v3.toNat + 2 := by omega
      rw [q1] at e2; rw [q2] at e3; rw [q3] at e4
      have aZ2 : ∀ j, u2 79 j = z0 j := fun j => by rw [e2, st_c (by decide)]; exact hz j
      have aZ3 : ∀ j, u3 79 j = z0 j := fun j => by rw [e3, st_c (by decide)]; exact aZ2 j
      rw [hz] at e2; rw [aZ2] at e3; rw [aZ3] at e4
      refine ih (by omega) (by rw [e4, st_c (by decide), e3, st_c (by decide), e2, st_c (by decide)]; exact h0) (fun j => by rw [e4, st_c (by decide)]; exact aZ3 j) (fun j hj => ?_)
      by_cases hjv : j = v3.toNat
      · subst hjv
        refine ⟨?_, ?_, ?_⟩
        · rw [e4, st_c (by decide), e3, st_c (by decide), e2, st_eq]
        · rw [e4, st_c (by decide), e3, st_eq]
        · rw [e4, st_eq]
      · have h1 := hD j (by omega)
        rw [e4, st_c (by decide), st_c (by decide), st_k hjv, e3, st_c (by decide), st_k hjv, st_c (by decide), e2, st_k hjv, st_c (by decide), st_c (by decide)]
        exact h1
theorem bring79 {k : Nat} {v2 : Int} (hk : v2 = k) (i2 : 0 ≤ v2 ∧ v2 ≤ 105) (w : Wd) (hP : w 43 0 ≤ 10) : PC (f_R_bring_43_79 v2 w) (fun _ u => ∀ j : Nat, (j : Int) < w 43 0 → u 47 j = w 79 (k + 3 * j) ∧ u 48 j = w 79 (k + 3 * j + 1) ∧ u 49 j = w 79 (k + 3 * j + 2)) := by
  unfold f_R_bring_43_79
  exact bring_pc79 hk i2 (w 43 0) hP (w 79) FU (by omega) rfl (fun _ => rfl) (fun j hj => by omega)
/-- a snapshot: who was brought by whom, and since when -/
def Sn (P : Int) (isf bf ff : Nat → Int) (wk : Int) : Prop := (∀ j : Nat, (j : Int) < P → bf j ≠ -1 → 0 ≤ bf j ∧ bf j < P ∧ isf (bf j).toNat ≠ 0 ∧ ff (bf j).toNat < ff j) ∧ ∀ j : Nat, (j : Int) < P → ff j ≤ wk
def Un (w : Wd) : Prop := ∀ t : Nat, (t : Int) < w 43 32 → Sn (w 43 0) (fun j => w 59 (31 * t + 3 * j)) (fun j => w 59 (31 * t + 3 * j + 1)) (fun j => w 59 (31 * t + 3 * j + 2)) (w 43 8 - w 43 32 + t)
def Kp (w : Wd) : Prop := ∀ m : Nat, m < 2 → w 80 m ≠ 0 → w 81 m = w 43 56 → Sn (w 43 0) (fun j => w 79 (105 * m + 3 * j)) (fun j => w 79 (105 * m + 3 * j + 1)) (fun j => w 79 (105 * m + 3 * j + 2)) (w 79 (105 * m + 43))
def Cm (w : Wd) : Prop := 0 ≤ w 43 56 ∧ w 43 56 ≤ w 43 0 ∧ ∀ m : Nat, m < 2 → w 81 m ≤ w 43 56
def IV (w : Wd) : Prop := Sn (w 43 0) (w 47) (w 48) (w 49) (w 43 8) ∧ Un w ∧ Kp w ∧ Cm w ∧ w 43 32 ≤ w 43 8
def Kb (w : Wd) : Prop := (∀ a c : Nat, (a : Int) < w 43 0 → (c : Int) < w 43 0 → bt (w 45 a) c = bt (w 45 c) a) ∧ ∀ a q : Nat, (a : Int) < w 43 0 → q < 10 → bt (w 45 a) q = true → (q : Int) < w 43 0
def RS (w : Wd) : Prop := G [] w w ∧ IV w ∧ Kb w
def fvr (S : List Nat) : Bool := S.all fun x => [45, 47, 48, 49, 59, 79, 80, 81].all (fun c => Nat.blt x (c * 100) || Nat.blt (c * 100 + 99) x) && !([4300, 4308, 4332, 4356, 4399].contains x)
theorem fvr_ar {S : List Nat} (h : fvr S = true) {c : Nat} (hc : c ∈ [45, 47, 48, 49, 59, 79, 80, 81]) (k : Nat) : mS S c k = false := by
  refine mS_ar (List.all_eq_true.mpr fun x hx => ?_) k
  have h1 := List.all_eq_true.mp h x hx
  rw [Bool.and_eq_true] at h1
  exact List.all_eq_true.mp h1.1 c hc
theorem fvr_43 {S : List Nat} (h : fvr S = true) {k : Nat} (hc : k ∈ [0, 8, 32, 56]) : mS S 43 k = false := by
  have h1 : ∀ x, x ∈ [4300, 4308, 4332, 4356, 4399] → S.contains x = false := by
    intro x hx
    cases hs : S.contains x with
    | false => rfl
    | true =>
      have h2 := List.all_eq_true.mp h x (List.contains_iff_mem.mp hs)
      rw [Bool.and_eq_true] at h2
      rw [List.contains_iff_mem.mpr hx] at h2
      exact absurd h2.2 (by decide)
  unfold mS
  simp only [List.mem_cons, List.not_mem_nil, or_false] at hc
  rcases hc with rfl | rfl | rfl | rfl
  · rw [h1 _ (by decide), h1 _ (by decide)]; rfl
  · rw [h1 _ (by decide), h1 _ (by decide)]; rfl
  · rw [h1 _ (by decide), h1 _ (by decide)]; rfl
  · rw [h1 _ (by decide), h1 _ (by decide)]; rfl
theorem iv_eq {w u : Wd} (h : IV w) (h0 : u 43 0 = w 43 0) (h8 : u 43 8 = w 43 8) (h32 : u 43 32 = w 43 32) (h56 : u 43 56 = w 43 56) (h47 : u 47 = w 47) (h48 : u 48 = w 48) (h49 : u 49 = w 49) (h59 : u 59 = w 59) (h79 : u 79 = w 79) (h80 : u 80 = w 80) (h81 : u 81 = w 81) : IV u := by
  unfold IV Un Kp Cm at *
  rw [h0, h8, h32, h56, h47, h48, h49, h59, h79, h80, h81]
  exact h
theorem kb_eq {w u : Wd} (h : Kb w) (h0 : u 43 0 = w 43 0) (h45 : u 45 = w 45) : Kb u := by
  unfold Kb at *
  rw [h0, h45]
  exact h
theorem iv_g {S : List Nat} {w u : Wd} (h : IV w) (hG : G S w u) (hf : fvr S = true) : IV u :=
  iv_eq h (hG.2.1 43 0 (fvr_43 hf (by decide))) (hG.2.1 43 8 (fvr_43 hf (by decide))) (hG.2.1 43 32 (fvr_43 hf (by decide))) (hG.2.1 43 56 (fvr_43 hf (by decide))) (funext fun k => hG.2.1 47 k (fvr_ar hf (by decide) k)) (funext fun k => hG.2.1 48 k (fvr_ar hf (by decide) k)) (funext fun k => hG.2.1 49 k (fvr_ar hf (by decide) k)) (funext fun k => hG.2.1 59 k (fvr_ar hf (by decide) k)) (funext fun k => hG.2.1 79 k (fvr_ar hf (by decide) k)) (funext fun k => hG.2.1 80 k (fvr_ar hf (by decide) k)) (funext fun k => hG.2.1 81 k (fvr_ar hf (by decide) k))
theorem kb_g {S : List Nat} {w u : Wd} (h : Kb w) (hG : G S w u) (hf : fvr S = true) : Kb u :=
  kb_eq h (hG.2.1 43 0 (fvr_43 hf (by decide))) (funext fun k => hG.2.1 45 k (fvr_ar hf (by decide) k))
theorem rs_g {S : List Nat} {w u : Wd} (h : RS w) (hG : G S w u) (hf : fvr S = true) : RS u :=
  ⟨g_self hG, iv_g h.2.1 hG hf, kb_g h.2.2 hG hf⟩
/-- who has an earlier week -/
def ct (f : Nat → Int) (P x : Int) : Nat → Nat
  | 0 => 0
  | n + 1 => ct f P x n + if (n : Int) < P ∧ f n < x then 1 else 0
theorem ct_le (f : Nat → Int) (P x : Int) : ∀ n, ct f P x n ≤ n := by
  intro n
  induction n with
  | zero => exact Nat.le_refl _
  | succ n ih =>
    show ct f P x n + (if (n : Int) < P ∧ f n < x then 1 else 0) ≤ n + 1
    split <;> omega
theorem ct_mono (f : Nat → Int) (P : Int) {x y : Int} (h : x ≤ y) : ∀ n, ct f P x n ≤ ct f P y n := by
  intro n
  induction n with
  | zero => exact Nat.le_refl _
  | succ n ih =>
    show ct f P x n + (if (n : Int) < P ∧ f n < x then 1 else 0) ≤ ct f P y n + (if (n : Int) < P ∧ f n < y then 1 else 0)
    split <;> split <;> omega
theorem ct_lt (f : Nat → Int) (P : Int) {i : Nat} {y : Int} (hi : (i : Int) < P) (h : f i < y) : ∀ n, i < n → ct f P (f i) n < ct f P y n := by
  intro n
  induction n with
  | zero => intro h; omega
  | succ n ih =>
    intro hn
    show ct f P (f i) n + (if (n : Int) < P ∧ f n < f i then 1 else 0) < ct f P y n + (if (n : Int) < P ∧ f n < y then 1 else 0)
    by_cases hin : i < n
    · have := ih hin
      split <;> split <;> omega
    · have e : i = n := by omega
      subst e
      have := ct_mono f P (Int.le_of_lt h) i
      rw [if_neg (by omega), if_pos ⟨hi, h⟩]
      omega
theorem ct_9 (f : Nat → Int) (P : Int) {i : Nat} (hi : i < 10) : ∀ n, i < n → ct f P (f i) n ≤ n - 1 := by
  intro n
  induction n with
  | zero => intro h; omega
  | succ n ih =>
    intro hn
    show ct f P (f i) n + (if (n : Int) < P ∧ f n < f i then 1 else 0) ≤ n + 1 - 1
    by_cases hin : i < n
    · have := ih hin
      split <;> omega
    · have e : i = n := by omega
      subst e
      have := ct_le f P (f i) i
      rw [if_neg (by omega)]
      omega
theorem ad_iv {w : Wd} (h : IV w) (h10 : w 43 0 ≤ 10) : Ad w := by
  obtain ⟨⟨h1, h2⟩, _⟩ := h
  refine ⟨fun i => if i < 10 then ct (w 49) (w 43 0) (w 49 i) 10 else 0, fun i => ?_, fun i hi hn => ?_⟩
  · by_cases hi : i < 10
    · show (if i < 10 then ct (w 49) (w 43 0) (w 49 i) 10 else 0) ≤ 9
      rw [if_pos hi]
      exact ct_9 (w 49) (w 43 0) hi 10 hi
    · show (if i < 10 then ct (w 49) (w 43 0) (w 49 i) 10 else 0) ≤ 9
      rw [if_neg hi]; decide
  · obtain ⟨q0, q1, q2, q3⟩ := h1 i hi hn
    refine ⟨q1, ?_⟩
    show (if (w 48 i).toNat < 10 then ct (w 49) (w 43 0) (w 49 (w 48 i).toNat) 10 else 0) < (if i < 10 then ct (w 49) (w 43 0) (w 49 i) 10 else 0)
    rw [if_pos (by omega), if_pos (by omega)]
    exact ct_lt (w 49) (w 43 0) (by omega) q3 10 (by omega)
theorem ks_kb {w : Wd} (h : Kb w) : Ks w := h.1
theorem fine_e (w : Wd) : f_R_fine w = some (if w 43 21 = -1 then 1 else 0, w) := by
  unfold f_R_fine
  split <;> rfl
def AQ (w u : Wd) (i : Nat) (v3 v4 wk : Int) : Prop :=
  (∀ k, u 47 k = if k = i then v4 else w 47 k) ∧ (∀ k, u 48 k = if k = i then -1 else w 48 k) ∧ (∀ k, u 49 k = if k = i then (if v4 = 1 then wk else -1) else w 49 k) ∧
  ∀ k q : Nat, q < 10 → bt (u 45 k) q = if k = i then bt v3 q else if k < i ∧ bt v3 k = true then (bt (w 45 k) q || decide (q = i)) else bt (w 45 k) q
theorem add_pc {w0 : Wd} {i : Nat} {v1 v3 v4 v5 : Int} (h1 : v1 = i) (hi : i < 10) : ∀ (n : Nat) {w : Wd} {v6 : Int}, (0 ≤ v6 ∧ v6 ≤ v1) → (∀ k, w 47 k = w0 47 k) → (∀ k, w 48 k = w0 48 k) → (∀ k, w 49 k = w0 49 k) → w 43 8 = w0 43 8 → (∀ k q : Nat, q < 10 → bt (w 45 k) q = if k = i then bt v3 q else if (k : Int) < v6 ∧ bt v3 k = true then (bt (w0 45 k) q || decide (q = i)) else bt (w0 45 k) q) → PC (f_R_add_17 n v1 v3 v4 v5 v6 w) (fun _ u => AQ w0 u i v3 v4 (w0 43 8)) := by
  intro n
  induction n with
  | zero => intros; exact pc_none
  | succ n ih =>
    intro w v6 i6 h47 h48 h49 h8 hD
    rw [f_R_add_17]
    have w6 := w32_sp (v6 + 1)
    have e1 : v1.toNat = i := by omega
    refine pc_ite (fun h => ?_) (fun h => ?_)
    · have e6 : v6 = i := by omega
      refine pc_gd (fun _ => ?_)
      refine pc_lw (fun u3 e3 => ?_)
      refine pc_gd (fun _ => ?_)
      refine pc_lw (fun u4 e4 => ?_)
      refine pc_gd (fun _ => ?_)
      refine pc_lw (fun u5 e5 => ?_)
      rw [e1] at e3 e4 e5
      have fin : ∀ z : Int, z = (if v4 = 1 then w0 43 8 else -1) → PC (f_R_add_93 v1 z u5) (fun _ u => AQ w0 u i v3 v4 (w0 43 8)) := by
        intro z hz
        unfold f_R_add_93
        refine pc_gd (fun _ => ?_)
        rw [e1]
        refine pc_lw (fun u6 e7 => ?_)
        refine pc_some ⟨fun k => ?_, fun k => ?_, fun k => ?_, fun k q hq => ?_⟩
        · rw [e7, st_c (by decide), e5, st_c (by decide), e4, st_c (by decide), e3]
          by_cases hk : k = i
          · rw [if_pos hk, hk, st_eq]
          · rw [if_neg hk, st_k hk]; exact h47 k
        · rw [e7, st_c (by decide), e5]
          by_cases hk : k = i
          · rw [if_pos hk, hk, st_eq]
          · rw [if_neg hk, st_k hk, e4, st_c (by decide), e3, st_c (by decide)]; exact h48 k
        · rw [e7]
          by_cases hk : k = i
          · rw [if_pos hk, hk, st_eq]; exact hz
          · rw [if_neg hk, st_k hk, e5, st_c (by decide), e4, st_c (by decide), e3, st_c (by decide)]; exact h49 k
        · rw [e7, st_c (by decide), e5, st_c (by decide), e4, st_c (by decide), e3, st_c (by decide), hD k q hq]
          have : ((k : Int) < v6 ∧ bt v3 k = true) = (k < i ∧ bt v3 k = true) := by
            rw [e6]
            simp
          simp only [this]
      have h58 : u5 43 8 = w0 43 8 := by rw [e5, st_c (by decide), e4, st_c (by decide), e3, st_c (by decide)]; exact h8
      refine pc_ite (fun h2 => ?_) (fun h2 => ?_)
      · exact fin _ (by rw [if_pos h2]; exact h58)
      · exact fin _ (by rw [if_neg h2])
    · have hs : (v6 + 1).toNat = v6.toNat + 1 := by omega
      have z6 : w32 (v6 + 1) = v6 + 1 := by omega
      rw [has_e w (by omega), jc_s]
      cases hb : bt v3 v6.toNat with
      | false =>
        refine pc_ite (fun _ => ?_) (fun h => absurd rfl h)
        unfold f_R_add_45
        refine pc_let (fun x9 e9 => ?_)
        refine ih (by omega) h47 h48 h49 h8 (fun k q hq => ?_)
        rw [hD k q hq]
        by_cases hki : k = i
        · rw [if_pos hki, if_pos hki]
        · rw [if_neg hki, if_neg hki]
          by_cases hkv : k = v6.toNat
          · rw [hkv, hb]; simp
          · have : ((k : Int) < v6) = ((k : Int) < x9) := by
              apply propext
              constructor <;> intro h <;> omega
            simp only [this]
      | true =>
        refine pc_ite (fun h => absurd h (by simp)) (fun _ => ?_)
        refine pc_gd (fun _ => ?_)
        refine pc_gd (fun _ => ?_)
        refine pc_lw (fun u10 e10 => ?_)
        unfold f_R_add_45
        refine pc_let (fun x9 e9 => ?_)
        refine ih (by omega) (fun k => by rw [e10, st_c (by decide)]; exact h47 k) (fun k => by rw [e10, st_c (by decide)]; exact h48 k) (fun k => by rw [e10, st_c (by decide)]; exact h49 k) (by rw [e10, st_c (by decide)]; exact h8) (fun k q hq => ?_)
        by_cases hki : k = i
        · rw [if_pos hki, e10, st_k (by omega), hD k q hq, if_pos hki]
        · rw [if_neg hki]
          by_cases hkv : k = v6.toNat
          · subst hkv
            rw [if_pos ⟨by omega, hb⟩, e10, st_eq, bt_or, bt_shl (by omega) (by omega), hD _ q hq, if_neg hki, if_neg (by omega), h1]
            simp
          · have : ((k : Int) < v6) = ((k : Int) < x9) := by
              apply propext
              constructor <;> intro h <;> omega
            rw [e10, st_k hkv, hD k q hq, if_neg hki]
            simp only [this]
theorem add_q {w : Wd} {i : Nat} {v1 v2 v3 v4 v5 : Int} (h1 : v1 = i) (hi : i < 10) : PC (f_R_add v1 v2 v3 v4 v5 w) (fun _ u => AQ w u i v3 v4 (w 43 8)) := by
  unfold f_R_add
  have e1 : v1.toNat = i := by omega
  refine pc_gd (fun _ => ?_)
  refine pc_lw (fun u1 e2 => ?_)
  refine pc_gd (fun _ => ?_)
  refine pc_lw (fun u2 e3 => ?_)
  rw [e1] at e2 e3
  refine add_pc h1 hi FU (by omega) (fun k => ?_) (fun k => ?_) (fun k => ?_) ?_ (fun k q hq => ?_)
  · rw [e3, st_c (by decide), e2, st_c (by decide)]
  · rw [e3, st_c (by decide), e2, st_c (by decide)]
  · rw [e3, st_c (by decide), e2, st_c (by decide)]
  · rw [e3, st_c (by decide), e2, st_c (by decide)]
  · rw [e3]
    by_cases hk : k = i
    · rw [if_pos hk, hk, st_eq]
    · rw [if_neg hk, st_k hk, e2, st_c (by decide), if_neg (by omega)]
theorem told_pc {w : Wd} (hG : G md_R_told w w) (h56 : 0 ≤ w 43 56 ∧ w 43 56 ≤ 10) : PC (f_R_told w) (fun _ u => u 43 32 = 0 ∧ u 43 56 = w 43 56 + 1) := by
  unfold f_R_told
  refine pc_call (pc_ok (s_R_guests (g_self hG))) (fun r1 u2 q => ?_)
  have e2 : u2 = w := g_nil q.2
  subst e2
  refine pc_gd (fun _ => ?_)
  refine pc_lw (fun u3 e3 => ?_)
  refine pc_lw (fun u4 e4 => ?_)
  refine pc_lw (fun u5 e5 => ?_)
  have t : u4 43 56 = u2 43 56 := by rw [e4, st_k (by decide), e3, st_c (by decide)]
  have w1 := w32_sp (u4 43 56 + 1)
  refine pc_some ⟨?_, ?_⟩
  · rw [e5, st_k (by decide), e4, st_eq]
  · rw [e5, st_eq]; omega
/-- knows, among so many people -/
def KN (P : Int) (f : Nat → Int) : Prop := (∀ a c : Nat, (a : Int) < P → (c : Int) < P → bt (f a) c = bt (f c) a) ∧ ∀ a q : Nat, (a : Int) < P → q < 10 → bt (f a) q = true → (q : Int) < P
theorem kn_add {w u : Wd} {i : Nat} {v3 v4 wk : Int} (hi : i < 10) (h : KN (i : Int) (w 45)) (hA : AQ w u i v3 v4 wk) (hk : ∀ q : Nat, q < 10 → bt v3 q = true → q < i) : KN ((i : Int) + 1) (u 45) := by
  obtain ⟨_, _, _, hB⟩ := hA
  constructor
  · intro a c ha hc
    rw [hB a c (by omega), hB c a (by omega)]
    by_cases h1 : a = i <;> by_cases h2 : c = i
    · rw [if_pos h1, if_pos h2, h1, h2]
    · have hci : c < i := by omega
      rw [if_pos h1, if_neg h2]
      cases hb : bt v3 c with
      | true => rw [if_pos ⟨hci, rfl⟩]; simp [h1]
      | false =>
        rw [if_neg (by simp)]
        cases hx : bt (w 45 c) a with
        | false => rfl
        | true => have := h.2 c a (by omega) (by omega) hx; omega
    · have hai : a < i := by omega
      rw [if_neg h1, if_pos h2]
      cases hb : bt v3 a with
      | true => rw [if_pos ⟨hai, rfl⟩]; simp [h2]
      | false =>
        rw [if_neg (by simp)]
        cases hx : bt (w 45 a) c with
        | false => rfl
        | true => have := h.2 a c (by omega) (by omega) hx; omega
    · rw [if_neg h1, if_neg h2]
      have e := h.1 a c (by omega) (by omega)
      have f1 : decide (c = i) = false := decide_eq_false h2
      have f2 : decide (a = i) = false := decide_eq_false h1
      rw [f1, f2, Bool.or_false, Bool.or_false, ite_self, ite_self]
      exact e
  · intro a q ha hq hb
    rw [hB a q hq] at hb
    by_cases h1 : a = i
    · rw [if_pos h1] at hb
      have := hk q hq hb
      omega
    · rw [if_neg h1] at hb
      by_cases h2 : q = i
      · omega
      · have f1 : decide (q = i) = false := decide_eq_false h2
        rw [f1, Bool.or_false, ite_self] at hb
        have := h.2 a q (by omega) hq hb
        omega
theorem in_e (v a b : Int) (w : Wd) : f_R_in v a b w = some (if a ≤ v ∧ v ≤ b then 1 else 0, w) := by
  unfold f_R_in
  by_cases h1 : v < a
  · rw [if_pos h1, if_neg (by omega)]
  · by_cases h2 : b < v
    · rw [if_neg h1, if_pos h2, if_neg (by omega)]
    · rw [if_neg h1, if_neg h2, if_pos (by omega)]
def R54 (i : Nat) (z : Nat → Int) (u : Wd) : Prop := (∀ k, k ≠ i → u 54 k = z k) ∧ ∀ q : Nat, q < 10 → bt (u 54 i) q = true → q < i
theorem r54_eq {i : Nat} {z : Nat → Int} {w u : Wd} (h : R54 i z w) (e : ∀ k, u 54 k = w 54 k) : R54 i z u := ⟨fun k hk => by rw [e]; exact h.1 k hk, fun q hq hb => by rw [e] at hb; exact h.2 q hq hb⟩
theorem ro_142 {b w : Wd} {i : Nat} {z : Nat → Int} {v1 s1 s2 : Int} (hG : G md_R_readOne b w) (i1 : 0 ≤ v1 ∧ v1 ≤ 9) (is1 : 0 ≤ s1 ∧ s1 ≤ 9) (is2 : 0 ≤ s2 ∧ s2 ≤ 1) (h17 : w 43 17 = 52) (h : R54 i z w) : PC (f_R_readOne_142 v1 s1 s2 w) (fun _ u => R54 i z u) := by
  unfold f_R_readOne_142
  refine pc_gd (fun _ => ?_)
  refine pc_lw (fun u16 e16 => ?_)
  have g16 : G md_R_readOne b u16 := g_st hG e16 rfl rfl (show (0 : Int) ≤ s2 ∧ s2 ≤ 1 by omega)
  have t17 : u16 43 17 = 52 := by rw [e16, st_c (by decide)]; exact h17
  refine pc_call (pc_ok (s_R_passes (g_self g16) (by decide) (Or.inl t17) (by decide))) (fun r17 u18 q => ?_)
  refine pc_gd (fun _ => ?_)
  refine pc_lw (fun u19 e19 => ?_)
  exact pc_some (r54_eq h (fun k => by rw [e19, st_c (by decide), q.2.1.2.1 54 k (mS_ar rfl k), e16, st_c (by decide)]))
theorem flt_pc {S : List Nat} {b w : Wd} {f : Int → Wd → Option (Int × Wd)} {Q : Int → Wd → Prop} (hG : G S b w) (h : ∀ r u, G md_R_fault w u → ¬ u 43 21 = -1 → PC (f r u) Q) : PC (jcall (f_R_fault (w 43 20) w) f) Q := by
  have a20 : (0 : Int) ≤ w 43 20 ∧ w 43 20 ≤ 80 := hG.1 43 20
  exact pc_call (pc_ok (s_R_fault (g_self hG) a20 a20.1)) (fun r u q => h r u q.2.1 q.2.2)
theorem ro_55 {b : Wd} {i : Nat} {z : Nat → Int} {v1 : Int} (h1 : v1 = i) (i1 : 0 ≤ v1 ∧ v1 ≤ 9) : ∀ (n : Nat) {w : Wd} {v2 : Int}, G md_R_readOne b w → w 43 17 = 52 → R54 i z w → PC (f_R_readOne_55 n v1 v2 w) (fun _ u => R54 i z u) := by
  intro n
  induction n with
  | zero => intros; exact pc_none
  | succ n ih =>
    intro w v2 hG h17 hR
    rw [f_R_readOne_55]
    obtain ⟨r, e, p⟩ := here_e hG h17
    have a20 : (0 : Int) ≤ w 43 20 ∧ w 43 20 ≤ 80 := hG.1 43 20
    have a18 : (0 : Int) ≤ w 43 18 ∧ w 43 18 ≤ 80 := hG.1 43 18
    rw [e, jc_s, in_e, jc_s]
    refine pc_ite (fun h => ?_) (fun h => ?_)
    · refine pc_call (pc_ok (s_R_passes (g_self hG) (by decide) (Or.inl h17) (by decide))) (fun r14 u15 q => ?_)
      have g15 : G md_R_readOne b u15 := g_tr hG q.2.1 rfl
      have t17 : u15 43 17 = 52 := (q.2.1.2.1 43 17 rfl).trans h17
      have hR15 := r54_eq hR (fun k => q.2.1.2.1 54 k (mS_ar rfl k))
      refine pc_ite (fun _ => ?_) (fun _ => ?_)
      · exact ro_142 g15 i1 i1 (by decide) t17 hR15
      · exact ro_142 g15 i1 i1 (by decide) t17 hR15
    · have hr : 97 ≤ r ∧ r ≤ 106 := by
        by_cases h2 : 97 ≤ r ∧ r ≤ 106
        · exact h2
        · rw [if_neg h2] at h; exact absurd rfl h
      have x87 : PC (f_R_readOne_87 w) (fun _ u => R54 i z u) := by
        unfold f_R_readOne_87
        exact flt_pc hG (fun r23 u24 g24 _ => pc_some (r54_eq hR (fun k => g24.2.1 54 k (mS_ar rfl k))))
      rw [e, jc_s]
      have w1 := w32_sp (r - 97)
      refine pc_let (fun x22 e22 => ?_)
      refine pc_ite (fun _ => x87) (fun _ => ?_)
      refine pc_ite (fun hx => ?_) (fun _ => x87)
      refine pc_gd (fun _ => ?_)
      refine pc_gd (fun _ => ?_)
      have a54 : (0 : Int) ≤ w 54 v1.toNat ∧ w 54 v1.toNat ≤ 511 := hG.1 54 v1.toNat
      have s1 := ishl1_n 8 (i := x22) (j := 8) (m := 256) (by decide) (by decide) (by decide) (by omega)
      have s2 := ior_n 9 (x := w 54 v1.toNat) (y := ishl 1 x22) (m := 511) (by decide) (by decide) (by omega) (by omega)
      refine pc_lw (fun u25 e25 => ?_)
      have g25 : G md_R_readOne b u25 := g_st hG e25 rfl rfl (show (0 : Int) ≤ ior (w 54 v1.toNat) (ishl 1 x22) ∧ ior (w 54 v1.toNat) (ishl 1 x22) ≤ 511 by omega)
      have t20 : u25 43 20 = w 43 20 := by rw [e25, st_c (by decide)]
      have w2 := w32_sp (u25 43 20 + 1)
      refine pc_lw (fun u26 e26 => ?_)
      have g26 : G md_R_readOne b u26 := g_st g25 e26 rfl rfl (show (0 : Int) ≤ w32 (u25 43 20 + 1) ∧ w32 (u25 43 20 + 1) ≤ 80 by omega)
      have hv : v1.toNat = i := by omega
      rw [hv] at e25
      refine ih g26 (by rw [e26, st_k (by decide), e25, st_c (by decide)]; exact h17) ⟨fun k hk => ?_, fun q hq hb => ?_⟩
      · rw [e26, st_c (by decide), e25, st_k hk]; exact hR.1 k hk
      · rw [e26, st_c (by decide), e25, st_eq, bt_or, bt_shl (by omega) (by omega)] at hb
        cases hb2 : bt (w 54 i) q with
        | true => exact hR.2 q hq hb2
        | false =>
          rw [hb2, Bool.false_or] at hb
          have : q = x22.toNat := by simpa using hb
          omega
theorem ro_pc {w : Wd} {i : Nat} {v1 : Int} (h1 : v1 = i) (i1 : 0 ≤ v1 ∧ v1 ≤ 9) (hG : G md_R_readOne w w) (h17 : w 43 17 = 52) : PC (f_R_readOne v1 w) (fun _ u => (∀ k, k ≠ i → u 54 k = w 54 k) ∧ (u 43 21 = -1 → ∀ q : Nat, q < 10 → bt (u 54 i) q = true → q < i)) := by
  unfold f_R_readOne
  obtain ⟨r, e, p⟩ := here_e hG h17
  have a20 : (0 : Int) ≤ w 43 20 ∧ w 43 20 ≤ 80 := hG.1 43 20
  have a18 : (0 : Int) ≤ w 43 18 ∧ w 43 18 ≤ 80 := hG.1 43 18
  rw [e, jc_s, in_e, jc_s]
  refine pc_ite (fun h => ?_) (fun h => ?_)
  · exact flt_pc hG (fun r27 u28 g28 hn => pc_some ⟨fun k _ => g28.2.1 54 k (mS_ar rfl k), fun h => absurd h hn⟩)
  · have hr : 48 ≤ r ∧ r ≤ 57 := by
      by_cases h2 : 48 ≤ r ∧ r ≤ 57
      · exact h2
      · rw [if_neg h2] at h; exact absurd rfl h
    rw [e, jc_s]
    have w1 := w32_sp (r - 48)
    refine pc_gd (fun _ => ?_)
    refine pc_lw (fun u7 e7 => ?_)
    have g7 : G md_R_readOne w u7 := g_st hG e7 rfl rfl (show (0 : Int) ≤ w32 (r - 48) ∧ w32 (r - 48) ≤ 9 by omega)
    have t20 : u7 43 20 = w 43 20 := by rw [e7, st_c (by decide)]
    have w2 := w32_sp (u7 43 20 + 1)
    refine pc_lw (fun u8 e8 => ?_)
    have g8 : G md_R_readOne w u8 := g_st g7 e8 rfl rfl (show (0 : Int) ≤ w32 (u7 43 20 + 1) ∧ w32 (u7 43 20 + 1) ≤ 80 by omega)
    refine pc_gd (fun _ => ?_)
    refine pc_lw (fun u9 e9 => ?_)
    have g9 : G md_R_readOne w u9 := g_st g8 e9 rfl rfl (show (0 : Int) ≤ 0 ∧ (0 : Int) ≤ 511 by decide)
    have hv : v1.toNat = i := by omega
    rw [hv] at e9
    refine pc_w (ro_55 (i := i) (z := w 54) h1 i1 FU g9 (by rw [e9, st_c (by decide), e8, st_k (by decide), e7, st_c (by decide)]; exact h17) ⟨fun k hk => ?_, fun q hq hb => ?_⟩) (fun r u q => ⟨q.1, fun _ => q.2⟩)
    · rw [e9, st_k hk, e8, st_c (by decide), e7, st_c (by decide)]
    · rw [e9, st_eq, bt_0] at hb; cases hb
/-- what landing leaves of the feast: all as in w0 but for who comes -/
def Fz (w0 w : Wd) : Prop := w 43 0 = w0 43 0 ∧ w 43 8 = w0 43 8 ∧ w 43 56 = w0 43 56 ∧ (∀ k, w 81 k = w0 81 k)
theorem l132 {b w0 : Wd} {v1 v3 : Int} (hIV : IV w0) (hv1 : w0 43 0 < v1 ∧ v1 ≤ 10) (hNK : ∀ i : Nat, w0 43 0 ≤ i → (i : Int) < v1 → ∀ q : Nat, q < 10 → bt (w0 54 i) q = true → q < i) (h00 : 0 ≤ w0 43 0) : ∀ (n : Nat) {w : Wd} {v4 : Int}, (w0 43 0 ≤ v4 ∧ v4 ≤ v1) → G md_R_land b w → Fz w0 w → (∀ k, w 54 k = w0 54 k) → (∀ j : Nat, (j : Int) < w0 43 0 → w 47 j = w0 47 j ∧ w 48 j = w0 48 j ∧ w 49 j = w0 49 j) → (∀ j : Nat, w0 43 0 ≤ j → (j : Int) < v4 → w 48 j = -1 ∧ w 49 j ≤ w0 43 8) → KN v4 (w 45) → PC (f_R_land_132 n v1 v3 v4 w) (fun _ u => IV u ∧ Kb u) := by
  intro n
  induction n with
  | zero => intros; exact pc_none
  | succ n ih =>
    intro w v4 i4 hG hFz h54 hO hN hK
    rw [f_R_land_132]
    obtain ⟨⟨s1, s2⟩, hUn, hKp, ⟨c1, c2, c3⟩, hUI⟩ := hIV
    obtain ⟨z0, z8, z56, z81⟩ := hFz
    refine pc_ite (fun h => ?_) (fun h => ?_)
    · have e4 : v4 = v1 := by omega
      refine pc_lw (fun u10 e10 => ?_)
      have g10 : G md_R_land b u10 := g_st hG e10 rfl rfl (show (0 : Int) ≤ v1 ∧ v1 ≤ 10 by omega)
      have t56 : u10 43 56 = w0 43 56 := by rw [e10, st_k (by decide)]; exact z56
      refine pc_call (pc_and (pc_ok (s_R_told (g_self g10))) (told_pc (g_self g10) (by omega))) (fun r11 u12 q => ?_)
      obtain ⟨⟨_, gy, _⟩, q32, q56⟩ := q
      have y0 : u12 43 0 = v1 := (gy.2.1 43 0 rfl).trans (by rw [e10, st_eq])
      have y8 : u12 43 8 = w0 43 8 := (gy.2.1 43 8 rfl).trans (by rw [e10, st_k (by decide)]; exact z8)
      have a8 : (0 : Int) ≤ u12 43 8 ∧ u12 43 8 ≤ 60 := gy.1 43 8
      have y45 : ∀ k, u12 45 k = w 45 k := fun k => (gy.2.1 45 k (mS_ar rfl k)).trans (by rw [e10, st_c (by decide)])
      have y47 : ∀ k, u12 47 k = w 47 k := fun k => (gy.2.1 47 k (mS_ar rfl k)).trans (by rw [e10, st_c (by decide)])
      have y48 : ∀ k, u12 48 k = w 48 k := fun k => (gy.2.1 48 k (mS_ar rfl k)).trans (by rw [e10, st_c (by decide)])
      have y49 : ∀ k, u12 49 k = w 49 k := fun k => (gy.2.1 49 k (mS_ar rfl k)).trans (by rw [e10, st_c (by decide)])
      have y81 : ∀ k, u12 81 k = w0 81 k := fun k => (gy.2.1 81 k (mS_ar rfl k)).trans (by rw [e10, st_c (by decide)]; exact z81 k)
      refine pc_some ⟨⟨⟨fun j hj hn => ?_, fun j hj => ?_⟩, fun t ht => ?_, fun m hm _ h81 => ?_, ⟨by omega, by omega, fun m hm => ?_⟩, by omega⟩, ?_⟩
      · rw [y0] at hj
        rw [y48] at hn ⊢
        by_cases hjP : (j : Int) < w0 43 0
        · obtain ⟨o1, o2, o3⟩ := hO j hjP
          rw [o2] at hn ⊢
          obtain ⟨b0, b1, b2, b3⟩ := s1 j hjP hn
          obtain ⟨p1, p2, p3⟩ := hO (w0 48 j).toNat (by omega)
          refine ⟨b0, by omega, by rw [y47, p1]; exact b2, by rw [y49, y49, p3, o3]; exact b3⟩
        · exact absurd (hN j (by omega) (by omega)).1 hn
      · rw [y0] at hj
        rw [y49, y8]
        by_cases hjP : (j : Int) < w0 43 0
        · rw [(hO j hjP).2.2]; exact s2 j hjP
        · exact (hN j (by omega) (by omega)).2
      · rw [q32] at ht; omega
      · rw [y81, q56, t56] at h81
        have := c3 m hm
        omega
      · rw [y81]
        have := c3 m hm
        omega
      · unfold Kb
        have e : KN (u12 43 0) (u12 45) := by
          rw [y0, ← e4, show u12 45 = w 45 from funext y45]; exact hK
        exact e
    · refine pc_gd (fun _ => ?_)
      refine pc_gd (fun _ => ?_)
      refine pc_gd (fun _ => ?_)
      refine pc_gd (fun _ => ?_)
      have a53 : (0 : Int) ≤ (w 53 (v4).toNat) ∧ (w 53 (v4).toNat) ≤ 9 := hG.1 53 (v4).toNat
      have a54 : (0 : Int) ≤ (w 54 (v4).toNat) ∧ (w 54 (v4).toNat) ≤ 511 := hG.1 54 (v4).toNat
      have a55 : (0 : Int) ≤ (w 55 (v4).toNat) ∧ (w 55 (v4).toNat) ≤ 1 := hG.1 55 (v4).toNat
      have a56 : (0 : Int) ≤ (w 56 (v4).toNat) ∧ (w 56 (v4).toNat) ≤ 1 := hG.1 56 (v4).toNat
      refine pc_call (pc_and (pc_ok (s_R_add (g_self hG) (by omega) (by omega) (by omega) (by omega) (by omega))) (add_q (i := v4.toNat) (by omega) (by omega))) (fun r13 u14 q => ?_)
      obtain ⟨⟨_, gy⟩, hA⟩ := q
      have g14 : G md_R_land b u14 := g_tr hG gy rfl
      have w1 := w32_sp (v4 + 1)
      have hA' := hA
      obtain ⟨A47, A48, A49, _⟩ := hA'
      refine pc_let (fun x15 e15 => ?_)
      have z15 : x15 = v4 + 1 := by omega
      refine ih (by omega) g14 ⟨(gy.2.1 43 0 rfl).trans z0, (gy.2.1 43 8 rfl).trans z8, (gy.2.1 43 56 rfl).trans z56, fun k => (gy.2.1 81 k (mS_ar rfl k)).trans (z81 k)⟩ (fun k => (gy.2.1 54 k (mS_ar rfl k)).trans (h54 k)) (fun j hj => ?_) (fun j hj hj2 => ?_) ?_
      · rw [A47, A48, A49, if_neg (by omega), if_neg (by omega), if_neg (by omega)]
        exact hO j hj
      · rw [A48, A49]
        by_cases hjv : j = v4.toNat
        · rw [if_pos hjv, if_pos hjv]
          have a8 : (0 : Int) ≤ w 43 8 ∧ w 43 8 ≤ 60 := hG.1 43 8
          refine ⟨rfl, ?_⟩
          split <;> omega
        · rw [if_neg hjv, if_neg hjv]; exact hN j hj (by omega)
      · rw [z15, show v4 + 1 = ((v4.toNat : Nat) : Int) + 1 by omega]
        refine kn_add (by omega) (by rw [show ((v4.toNat : Nat) : Int) = v4 by omega]; exact hK) hA (fun q hq hb => ?_)
        rw [h54] at hb
        exact hNK v4.toNat (by omega) (by omega) q hq hb
theorem iv_ff {S : List Nat} {w u : Wd} (h : IV w ∧ Kb w) (hG : G S w u) (hf : fvr S = true) : IV u ∧ Kb u := ⟨iv_g h.1 hG hf, kb_g h.2 hG hf⟩
theorem iv_st {w u : Wd} {c k : Nat} {z : Int} (h : IV w ∧ Kb w) (e : u = st w c k z) (hc : (c ∉ [43, 45, 47, 48, 49, 59, 79, 80, 81]) ∨ (c = 43 ∧ k ∉ [0, 8, 32, 56])) : IV u ∧ Kb u := by
  have h1 : ∀ c' k', (c' ∈ [45, 47, 48, 49, 59, 79, 80, 81]) → u c' k' = w c' k' := by
    intro c' k' hc'
    rw [e]
    refine st_c (fun e2 => ?_)
    subst e2
    rcases hc with hc | hc
    · exact hc (List.mem_cons_of_mem _ hc')
    · rw [hc.1] at hc'; exact absurd hc' (by decide)
  have h2 : ∀ k', (k' ∈ [0, 8, 32, 56]) → u 43 k' = w 43 k' := by
    intro k' hk'
    rw [e]
    rcases hc with hc | hc
    · exact st_c (fun e2 => hc (by rw [← e2]; decide))
    · rw [hc.1]; exact st_k (fun e2 => hc.2 (by rw [← e2]; exact hk'))
  exact ⟨iv_eq h.1 (h2 0 (by decide)) (h2 8 (by decide)) (h2 32 (by decide)) (h2 56 (by decide)) (funext fun k => h1 47 k (by decide)) (funext fun k => h1 48 k (by decide)) (funext fun k => h1 49 k (by decide)) (funext fun k => h1 59 k (by decide)) (funext fun k => h1 79 k (by decide)) (funext fun k => h1 80 k (by decide)) (funext fun k => h1 81 k (by decide)), kb_eq h.2 (h2 0 (by decide)) (funext fun k => h1 45 k (by decide))⟩
theorem l86 {b w : Wd} {v1 : Int} (hG : G md_R_land b w) (hI : IV w ∧ Kb w) (hv : w 43 0 < v1 ∧ (v1 ≤ 10 ∨ ¬ w 43 21 = -1)) (hN : w 43 21 = -1 → ∀ i : Nat, w 43 0 ≤ i → (i : Int) < v1 → ∀ q : Nat, q < 10 → bt (w 54 i) q = true → q < i) : PC (f_R_land_86 v1 w) (fun _ u => IV u ∧ Kb u) := by
  have l105 : ∀ {u : Wd}, G md_R_land b u → IV u ∧ Kb u → (u 43 21 = -1 → u = w) → PC (f_R_land_105 v1 u) (fun _ u => IV u ∧ Kb u) := by
    intro u gu hu he
    unfold f_R_land_105
    rw [fine_e, jc_s]
    refine pc_ite (fun _ => pc_some hu) (fun h => ?_)
    have hf : u 43 21 = -1 := by
      by_cases h2 : u 43 21 = -1
      · exact h2
      · rw [if_neg h2] at h; exact absurd rfl h
    have e := he hf
    subst e
    refine pc_let (fun x8 e8 => ?_)
    refine pc_let (fun x9 e9 => ?_)
    have a0 : (0 : Int) ≤ u 43 0 ∧ u 43 0 ≤ 10 := gu.1 43 0
    have hv2 : v1 ≤ 10 := hv.2.resolve_right (fun h => h hf)
    exact l132 (w0 := u) hu.1 ⟨hv.1, hv2⟩ (hN hf) a0.1 FU (by omega) gu ⟨rfl, rfl, rfl, fun _ => rfl⟩ (fun _ => rfl) (fun _ _ => ⟨rfl, rfl, rfl⟩) (fun j h1 h2 => by omega) (by rw [e9]; exact hu.2)
  unfold f_R_land_86
  refine pc_ite (fun _ => l105 hG hI (fun _ => rfl)) (fun _ => ?_)
  exact flt_pc hG (fun r16 u17 g17 hn => l105 (g_tr hG g17 rfl) (iv_ff hI g17 rfl) (fun h => absurd h hn))
theorem l40 {b : Wd} : ∀ (n : Nat) {w : Wd} {v1 v2 : Int}, G md_R_land b w → w 43 17 = 52 → IV w ∧ Kb w → (w 43 0 ≤ v1 ∧ v1 ≤ 11) → (0 ≤ v2 ∧ v2 ≤ 1) → (v1 ≤ 10 ∨ (v2 = 0 ∧ ¬ w 43 21 = -1)) → (w 43 0 < v1 ∨ (v2 ≠ 0 ∧ w 43 21 = -1)) → (w 43 21 = -1 → ∀ i : Nat, w 43 0 ≤ i → (i : Int) < v1 → ∀ q : Nat, q < 10 → bt (w 54 i) q = true → q < i) → PC (f_R_land_40 n v1 v2 w) (fun _ u => IV u ∧ Kb u) := by
  intro n
  induction n with
  | zero => intros; exact pc_none
  | succ n ih =>
    intro w v1 v2 hG h17 hI i1 i2 h10 hgt hN
    rw [f_R_land_40]
    have a0 : (0 : Int) ≤ w 43 0 ∧ w 43 0 ≤ 10 := hG.1 43 0
    refine pc_ite (fun h => ?_) (fun h => ?_)
    · have h1 : w 43 0 < v1 := by
        rcases hgt with h2 | h2
        · exact h2
        · exact absurd h h2.1
      refine l86 hG hI ⟨h1, ?_⟩ hN
      rcases h10 with h2 | h2
      · exact Or.inl h2
      · exact Or.inr h2.2
    · rw [fine_e, jc_s]
      refine pc_ite (fun hf => ?_) (fun hf => ?_)
      · have hnf : ¬ w 43 21 = -1 := fun h2 => by rw [if_pos h2] at hf; exact absurd hf (by decide)
        have h1 : w 43 0 < v1 := by
          rcases hgt with h2 | h2
          · exact h2
          · exact absurd h2.2 hnf
        exact l86 hG hI ⟨h1, Or.inr hnf⟩ hN
      · have hff : w 43 21 = -1 := by
          by_cases h2 : w 43 21 = -1
          · exact h2
          · rw [if_neg h2] at hf; exact absurd rfl hf
        have hv10 : v1 ≤ 10 := by
          rcases h10 with h2 | h2
          · exact h2
          · exact absurd h2.1 h
        have w1 := w32_sp (v1 + 1)
        have nx : ∀ {u : Wd}, G md_R_land b u → u 43 17 = 52 → IV u ∧ Kb u → u 43 0 = w 43 0 → (v1 ≤ 9 ∨ ¬ u 43 21 = -1) → (u 43 21 = -1 → ∀ i : Nat, u 43 0 ≤ i → (i : Int) < v1 + 1 → ∀ q : Nat, q < 10 → bt (u 54 i) q = true → q < i) → PC (f_R_land_73 (f_R_land_40 n) v1 u) (fun _ u => IV u ∧ Kb u) := by
          intro u gu u17 hu u0 hu9 huN
          unfold f_R_land_73
          refine pc_let (fun x22 e22 => ?_)
          have z22 : x22 = v1 + 1 := by omega
          refine pc_call (pc_ok (s_R_passes (g_self gu) (by decide) (Or.inl u17) (by decide))) (fun r23 u24 q => ?_)
          obtain ⟨ir, gy, hp⟩ := q
          have t0 : u24 43 0 = w 43 0 := (gy.2.1 43 0 rfl).trans u0
          have t21 : u24 43 21 = u 43 21 := gy.2.1 43 21 rfl
          rw [z22]
          refine ih (g_tr gu gy rfl) ((gy.2.1 43 17 rfl).trans u17) (iv_ff hu gy rfl) (by omega) (by omega) ?_ (Or.inl (by omega)) (fun hf i h1 h2 q hq hb => ?_)
          · rcases hu9 with h1 | h1
            · exact Or.inl (by omega)
            · refine Or.inr ⟨?_, by rw [t21]; exact h1⟩
              rcases hp with hp | hp
              · exact hp.1
              · exact absurd hp.2.2.1 h1
          · rw [t21] at hf
            rw [gy.2.1 54 i (mS_ar rfl i)] at hb
            exact huN hf i (by omega) h2 q hq hb
        refine pc_ite (fun he => ?_) (fun he => ?_)
        · exact flt_pc hG (fun r25 u26 g26 hn => nx (g_tr hG g26 rfl) ((g26.2.1 43 17 rfl).trans h17) (iv_ff hI g26 rfl) (g26.2.1 43 0 rfl) (Or.inr hn) (fun h => absurd h hn))
        · refine pc_call (pc_and (pc_ok (s_R_readOne (g_self hG) (by omega) h17)) (ro_pc (i := v1.toNat) (by omega) (by omega) (g_self hG) h17)) (fun r20 u21 q => ?_)
          obtain ⟨⟨_, gy⟩, q1, q2⟩ := q
          refine nx (g_tr hG gy rfl) ((gy.2.1 43 17 rfl).trans h17) (iv_ff hI gy rfl) (gy.2.1 43 0 rfl) (Or.inl (by omega)) (fun hf i h1 h2 q hq hb => ?_)
          have t0 : u21 43 0 = w 43 0 := gy.2.1 43 0 rfl
          by_cases hiv : i = v1.toNat
          · rw [hiv] at hb ⊢
            exact q2 hf q hq hb
          · rw [q1 i hiv] at hb
            exact hN hff i (by omega) (by omega) q hq hb
theorem land_pc {w : Wd} (h : RS w) : PC (f_R_land w) (fun _ u => IV u ∧ Kb u) := by
  obtain ⟨hG0, hI⟩ := h
  have hG : G md_R_land w w := g_self hG0
  unfold f_R_land
  refine pc_lw (fun u1 e1 => ?_)
  have g1 : G md_R_land w u1 := g_st hG e1 rfl rfl (show (0 : Int) ≤ 0 ∧ (0 : Int) ≤ 1 by decide)
  have i1 := iv_st hI e1 (Or.inr ⟨rfl, by decide⟩)
  have a13 : (0 : Int) ≤ u1 43 13 ∧ u1 43 13 ≤ 80 := g1.1 43 13
  refine pc_call (pc_ok (s_R_begin1_43_51 (g_self g1) (by omega) (by omega))) (fun r2 u3 q => ?_)
  obtain ⟨_, gy, p17, p20, p21, p18, p19⟩ := q
  have g3 : G md_R_land w u3 := g_tr g1 gy rfl
  have i3 := iv_ff i1 gy rfl
  refine pc_lw (fun u4 e4 => ?_)
  have g4 : G md_R_land w u4 := g_st g3 e4 rfl rfl (show (0 : Int) ≤ 0 ∧ (0 : Int) ≤ 80 by decide)
  have i4 := iv_st i3 e4 (Or.inr ⟨rfl, by decide⟩)
  refine pc_ite (fun _ => pc_some i4) (fun _ => ?_)
  refine pc_let (fun x5 e5 => ?_)
  have a0 : (0 : Int) ≤ u4 43 0 ∧ u4 43 0 ≤ 10 := g4.1 43 0
  have t17 : u4 43 17 = 52 := by rw [e4, st_k (by decide)]; exact p17
  have t21 : u4 43 21 = -1 := by rw [e4, st_k (by decide)]; exact p21
  exact l40 FU g4 t17 i4 (by omega) (by decide) (Or.inl (by omega)) (Or.inr ⟨by decide, t21⟩) (fun _ i h1 h2 => by omega)
theorem bt_lt {x : Int} {n : Nat} (hn : n ≤ 31) (h : 0 ≤ x ∧ x < ((2 ^ n : Nat) : Int)) {q : Nat} (hb : bt x q = true) : q < n := by
  refine Classical.byContradiction fun hc => ?_
  have h31 : 2 ^ n ≤ 2 ^ 31 := Nat.pow_le_pow_right (by decide) hn
  have ex := ofInt_toInt (z := x) (by omega) (by omega)
  have hx' : (Int32.ofInt x).toBitVec.toInt = x := ex
  have bx := bv_nn (x := (Int32.ofInt x).toBitVec) (by omega)
  have h1 : bt x q = false := by
    unfold bt
    rw [BitVec.getLsbD]
    refine Nat.testBit_lt_two_pow ?_
    have : 2 ^ n ≤ 2 ^ q := Nat.pow_le_pow_right (by decide) (by omega)
    omega
  rw [h1] at hb; cases hb
theorem baby_pc {w : Wd} {v1 : Int} (iv : -2147483648 ≤ v1 ∧ v1 ≤ 2147483647) (h : RS w) : PC (f_R_baby v1 w) (fun _ u => IV u ∧ Kb u) := by
  obtain ⟨hG0, hI⟩ := h
  have hG : G md_R_baby w w := g_self hG0
  unfold f_R_baby
  refine pc_lw (fun u1 e1 => ?_)
  have g1 : G md_R_baby w u1 := g_st hG e1 rfl rfl (show (0 : Int) ≤ 0 ∧ (0 : Int) ≤ 1 by decide)
  have i1 := iv_st hI e1 (Or.inr ⟨rfl, by decide⟩)
  have a0 : (0 : Int) ≤ u1 43 0 ∧ u1 43 0 ≤ 10 := g1.1 43 0
  have s1 := ishl1 (i := u1 43 0) (by omega)
  have s2 := ishl1_n 10 (i := u1 43 0) (j := 10) (m := 1024) (by decide) (by decide) (by decide) (by omega)
  have w1 := w32_sp (ishl 1 (u1 43 0) - 1)
  rw [in_e, jc_s]
  refine pc_ite (fun _ => pc_some i1) (fun hr => ?_)
  have hr2 : 0 ≤ v1 ∧ v1 ≤ w32 (ishl 1 (u1 43 0) - 1) := by
    by_cases h2 : 0 ≤ v1 ∧ v1 ≤ w32 (ishl 1 (u1 43 0) - 1)
    · exact h2
    · rw [if_neg h2] at hr; exact absurd rfl hr
  refine pc_ite (fun _ => pc_some i1) (fun h10 => ?_)
  refine pc_call (pc_and (pc_ok (s_R_add (g_self g1) (by omega) (by omega) (by omega) (by omega) (by omega))) (add_q (i := (u1 43 0).toNat) (by omega) (by omega))) (fun r4 u5 q => ?_)
  obtain ⟨⟨_, gy⟩, hA⟩ := q
  have g5 : G md_R_baby w u5 := g_tr g1 gy rfl
  have t0 : u5 43 0 = u1 43 0 := gy.2.1 43 0 rfl
  have t8 : u5 43 8 = u1 43 8 := gy.2.1 43 8 rfl
  have t56 : u5 43 56 = u1 43 56 := gy.2.1 43 56 rfl
  have t81 : ∀ k, u5 81 k = u1 81 k := fun k => gy.2.1 81 k (mS_ar rfl k)
  have w2 := w32_sp (u5 43 0 + 1)
  have z2 : w32 (u5 43 0 + 1) = u1 43 0 + 1 := by omega
  rw [z2]
  refine pc_lw (fun u6 e6 => ?_)
  have g6 : G md_R_baby w u6 := g_st g5 e6 rfl rfl (show (0 : Int) ≤ u1 43 0 + 1 ∧ u1 43 0 + 1 ≤ 10 by omega)
  have s56 : u6 43 56 = u1 43 56 := by rw [e6, st_k (by decide)]; exact t56
  obtain ⟨⟨⟨n1, n2⟩, _, _, ⟨c1, c2, c3⟩, hUI⟩, hK⟩ := i1
  refine pc_call (pc_and (pc_ok (s_R_told (g_self g6))) (told_pc (g_self g6) (by omega))) (fun r7 u8 q => ?_)
  obtain ⟨⟨_, gz, _⟩, q32, q56⟩ := q
  obtain ⟨A47, A48, A49, _⟩ := id hA
  have y0 : u8 43 0 = u1 43 0 + 1 := (gz.2.1 43 0 rfl).trans (by rw [e6, st_eq])
  have y8 : u8 43 8 = u1 43 8 := (gz.2.1 43 8 rfl).trans (by rw [e6, st_k (by decide)]; exact t8)
  have a8 : (0 : Int) ≤ u8 43 8 ∧ u8 43 8 ≤ 60 := gz.1 43 8
  have y45 : ∀ k, u8 45 k = u5 45 k := fun k => (gz.2.1 45 k (mS_ar rfl k)).trans (by rw [e6, st_c (by decide)])
  have y47 : ∀ k, u8 47 k = u5 47 k := fun k => (gz.2.1 47 k (mS_ar rfl k)).trans (by rw [e6, st_c (by decide)])
  have y48 : ∀ k, u8 48 k = u5 48 k := fun k => (gz.2.1 48 k (mS_ar rfl k)).trans (by rw [e6, st_c (by decide)])
  have y49 : ∀ k, u8 49 k = u5 49 k := fun k => (gz.2.1 49 k (mS_ar rfl k)).trans (by rw [e6, st_c (by decide)])
  have y81 : ∀ k, u8 81 k = u1 81 k := fun k => (gz.2.1 81 k (mS_ar rfl k)).trans (by rw [e6, st_c (by decide)]; exact t81 k)
  refine pc_some ⟨⟨⟨fun j hj hn => ?_, fun j hj => ?_⟩, fun t ht => ?_, fun m hm _ h81 => ?_, ⟨by omega, by omega, fun m hm => ?_⟩, by omega⟩, ?_⟩
  · rw [y0] at hj
    rw [y48, A48] at hn
    by_cases hjv : j = (u1 43 0).toNat
    · rw [if_pos hjv] at hn; exact absurd rfl hn
    · rw [if_neg hjv] at hn
      obtain ⟨b0, b1, b2, b3⟩ := n1 j (by omega) hn
      rw [y48, A48, if_neg hjv, y47, A47, y49, A49, y49, A49, if_neg (by omega), if_neg (by omega), if_neg hjv]
      exact ⟨b0, by omega, b2, b3⟩
  · rw [y0] at hj
    rw [y49, A49, y8]
    by_cases hjv : j = (u1 43 0).toNat
    · rw [if_pos hjv]; split <;> omega
    · rw [if_neg hjv]; exact n2 j (by omega)
  · rw [q32] at ht; omega
  · rw [y81, q56, s56] at h81
    have := c3 m hm
    omega
  · rw [y81]
    have := c3 m hm
    omega
  · have e : KN (u8 43 0) (u8 45) := by
      rw [y0, show u8 45 = u5 45 from funext y45, show u1 43 0 + 1 = (((u1 43 0).toNat : Nat) : Int) + 1 by omega]
      refine kn_add (by omega) (by rw [show (((u1 43 0).toNat : Nat) : Int) = u1 43 0 by omega]; exact hK) hA (fun q hq hb => ?_)
      exact bt_lt (by omega) (by omega) hb
    exact e
theorem meet_85 {u4 : Wd} {v2 s : Int} : PC (f_R_meet_85 v2 s u4) (fun _ u => u = st u4 45 v2.toNat s) := by
  unfold f_R_meet_85
  refine pc_gd (fun _ => ?_)
  refine pc_lw (fun u5 e5 => ?_)
  exact pc_some e5
end
section
/-! meet, and a week that goes by -/
theorem one_pc {v : Int} {w : Wd} (h0 : 0 ≤ w 43 0 ∧ w 43 0 ≤ 10) : PC (f_R_isOne v w) (fun r u => u = w ∧ (r ≠ 0 → 0 ≤ v ∧ v < w 43 0)) := by
  unfold f_R_isOne
  have w1 := w32_sp (w 43 0 - 1)
  rw [in_e, jc_s]
  refine pc_ite (fun _ => pc_some ⟨rfl, fun h => ?_⟩) (fun _ => pc_none)
  by_cases h2 : 0 ≤ v ∧ v ≤ w32 (w 43 0 - 1)
  · omega
  · rw [if_neg h2] at h; exact absurd rfl h
theorem two_pc {a c : Int} {w : Wd} (h0 : 0 ≤ w 43 0 ∧ w 43 0 ≤ 10) : PC (f_R_areTwo a c w) (fun r u => u = w ∧ (r ≠ 0 → (0 ≤ a ∧ a < w 43 0) ∧ (0 ≤ c ∧ c < w 43 0) ∧ a ≠ c)) := by
  unfold f_R_areTwo
  refine pc_call (one_pc h0) (fun r1 u2 q => ?_)
  obtain ⟨e, q1⟩ := q
  subst e
  refine pc_ite (fun _ => pc_some ⟨rfl, fun h => absurd rfl h⟩) (fun h1 => ?_)
  refine pc_call (one_pc h0) (fun r3 u4 q => ?_)
  obtain ⟨e, q3⟩ := q
  subst e
  refine pc_ite (fun _ => pc_some ⟨rfl, fun h => absurd rfl h⟩) (fun h3 => ?_)
  refine pc_ite (fun _ => pc_some ⟨rfl, fun h => absurd rfl h⟩) (fun h5 => pc_some ⟨rfl, fun _ => ⟨q1 h1, q3 h3, h5⟩⟩)
theorem kn_meet {P : Int} {f g : Nat → Int} {a c : Nat} (hP : P ≤ 10) (ha : (a : Int) < P) (hc : (c : Int) < P) (op : Bool → Bool → Bool) (h : KN P f) (hop : ∀ x, op x false = x) (hg : ∀ k q : Nat, q < 10 → bt (g k) q = if k = a then op (bt (f k) q) (decide (q = c)) else if k = c then op (bt (f k) q) (decide (q = a)) else bt (f k) q) (hac : a ≠ c) : KN P g := by
  constructor
  · intro k q hk hq
    rw [hg k q (by omega), hg q k (by omega)]
    have e := h.1 k q hk hq
    by_cases h1 : k = a
    · have h2 : k ≠ c := fun e => hac (h1.symm.trans e)
      rw [if_pos h1]
      by_cases h3 : q = a
      · have h4 : q ≠ c := fun e => hac (h3.symm.trans e)
        rw [if_pos h3, decide_eq_false h4, decide_eq_false h2, e]
      · rw [if_neg h3]
        by_cases h4 : q = c
        · rw [if_pos h4, decide_eq_true h4, decide_eq_true h1, e]
        · rw [if_neg h4, decide_eq_false h4, hop, e]
    · rw [if_neg h1]
      by_cases h2 : k = c
      · rw [if_pos h2]
        by_cases h3 : q = a
        · rw [if_pos h3, decide_eq_true h3, decide_eq_true h2, e]
        · rw [if_neg h3, decide_eq_false h3, hop]
          by_cases h4 : q = c
          · rw [if_pos h4, decide_eq_false h1, hop, e]
          · rw [if_neg h4, e]
      · rw [if_neg h2]
        by_cases h3 : q = a
        · rw [if_pos h3, decide_eq_false h2, hop, e]
        · rw [if_neg h3]
          by_cases h4 : q = c
          · rw [if_pos h4, decide_eq_false h1, hop, e]
          · rw [if_neg h4, e]
  · intro k q hk hq hb
    rw [hg k q hq] at hb
    by_cases h1 : k = a
    · rw [if_pos h1] at hb
      by_cases h2 : q = c
      · omega
      · rw [decide_eq_false h2, hop] at hb
        exact h.2 k q hk hq hb
    · rw [if_neg h1] at hb
      by_cases h2 : k = c
      · rw [if_pos h2] at hb
        by_cases h3 : q = a
        · omega
        · rw [decide_eq_false h3, hop] at hb
          exact h.2 k q hk hq hb
      · rw [if_neg h2] at hb
        exact h.2 k q hk hq hb
theorem meet_pc {w : Wd} {v1 v2 v3 : Int} (h : RS w) : PC (f_R_meet v1 v2 v3 w) (fun _ u => IV u ∧ Kb u) := by
  obtain ⟨hG0, hI⟩ := h
  have hG : G md_R_meet w w := g_self hG0
  unfold f_R_meet
  refine pc_lw (fun u1 e1 => ?_)
  have g1 : G md_R_meet w u1 := g_st hG e1 rfl rfl (show (0 : Int) ≤ 0 ∧ (0 : Int) ≤ 1 by decide)
  have i1 := iv_st hI e1 (Or.inr ⟨rfl, by decide⟩)
  have a0 : (0 : Int) ≤ u1 43 0 ∧ u1 43 0 ≤ 10 := g1.1 43 0
  refine pc_call (two_pc a0) (fun r2 u3 q => ?_)
  obtain ⟨e, q2⟩ := q
  subst e
  refine pc_ite (fun _ => pc_some i1) (fun hr => ?_)
  obtain ⟨qa, qc, hne⟩ := q2 hr
  have hne' : v1.toNat ≠ v2.toNat := by omega
  have fin : ∀ (op : Bool → Bool → Bool) (s1 s2 : Int) (u4 u5 : Wd), (∀ x, op x false = x) → u4 = st u3 45 v1.toNat s1 → u5 = st u4 45 v2.toNat s2 → (∀ q : Nat, q < 10 → bt s1 q = op (bt (u3 45 v1.toNat) q) (decide (q = v2.toNat))) → (∀ q : Nat, q < 10 → bt s2 q = op (bt (u3 45 v2.toNat) q) (decide (q = v1.toNat))) → IV u5 ∧ Kb u5 := by
    intro op s1 s2 u4 u5 hop e4 e5 h1 h2
    have t : ∀ c k, c ≠ 45 → u5 c k = u3 c k := fun c k hc => by rw [e5, st_c hc, e4, st_c hc]
    refine ⟨iv_eq i1.1 (t 43 0 (by decide)) (t 43 8 (by decide)) (t 43 32 (by decide)) (t 43 56 (by decide)) (funext fun k => t 47 k (by decide)) (funext fun k => t 48 k (by decide)) (funext fun k => t 49 k (by decide)) (funext fun k => t 59 k (by decide)) (funext fun k => t 79 k (by decide)) (funext fun k => t 80 k (by decide)) (funext fun k => t 81 k (by decide)), ?_⟩
    have e : KN (u5 43 0) (u5 45) := by
      rw [t 43 0 (by decide)]
      refine kn_meet (a := v1.toNat) (c := v2.toNat) a0.2 (by omega) (by omega) op i1.2 hop (fun k q hq => ?_) hne'
      rw [e5]
      by_cases hk2 : k = v2.toNat
      · rw [if_neg (fun e => hne' (e.symm.trans hk2)), if_pos hk2, hk2, st_eq]; exact h2 q hq
      · rw [st_k hk2, e4]
        by_cases hk1 : k = v1.toNat
        · rw [if_pos hk1, hk1, st_eq]; exact h1 q hq
        · rw [if_neg hk1, if_neg hk2, st_k hk1]
    exact e
  refine pc_ite (fun h3 => ?_) (fun h3 => ?_)
  · refine pc_gd (fun _ => ?_)
    unfold f_R_meet_50
    refine pc_gd (fun _ => ?_)
    refine pc_lw (fun u4 e4 => ?_)
    refine pc_ite (fun _ => ?_) (fun h => absurd h3 h)
    refine pc_gd (fun _ => ?_)
    refine pc_w meet_85 (fun r u5 e5 => fin (fun x y => x && !y) _ _ u4 u5 (fun x => by simp) e4 e5 (fun q hq => ?_) (fun q hq => ?_))
    · rw [bt_and, bt_not _ (by omega), bt_shl (by omega) (by omega)]
    · rw [bt_and, bt_not _ (by omega), bt_shl (by omega) (by omega), e4, st_k (fun e => hne' e.symm)]
  · refine pc_gd (fun _ => ?_)
    unfold f_R_meet_50
    refine pc_gd (fun _ => ?_)
    refine pc_lw (fun u4 e4 => ?_)
    refine pc_ite (fun h => absurd h h3) (fun _ => ?_)
    refine pc_gd (fun _ => ?_)
    refine pc_w meet_85 (fun r u5 e5 => fin (fun x y => x || y) _ _ u4 u5 (fun x => by simp) e4 e5 (fun q hq => ?_) (fun q hq => ?_))
    · rw [bt_or, bt_shl (by omega) (by omega)]
    · rw [bt_or, bt_shl (by omega) (by omega), e4, st_k (fun e => hne' e.symm)]
def BR (w : Wd) : Prop := ∀ k : Nat, (k : Int) < w 43 0 → w 58 k ≠ -1 → 0 ≤ w 58 k ∧ w 58 k < w 43 0 ∧ w 47 (w 58 k).toNat = 0
def GI (P wk : Int) (i0 b0 f0 : Nat → Int) (w : Wd) : Prop := ∀ j, (w 48 j = b0 j ∧ w 49 j = f0 j) ∨ (i0 j = 0 ∧ ∃ i : Nat, (i : Int) < P ∧ w 48 j = (i : Int) ∧ i0 i ≠ 0 ∧ w 49 j = wk)
theorem gi_eq {P wk : Int} {i0 b0 f0 : Nat → Int} {w u : Wd} (h : GI P wk i0 b0 f0 w) (h1 : ∀ j, u 48 j = w 48 j) (h2 : ∀ j, u 49 j = w 49 j) : GI P wk i0 b0 f0 u := fun j => by rw [h1, h2]; exact h j
theorem gw164 {b : Wd} {P wk : Int} {i0 b0 f0 z59 : Nat → Int} {v2 : Int} : ∀ (n : Nat) {w : Wd} {v1 v3 : Int}, G md_R_goWeek b w → (∀ j, i0 j ≠ 0 → w 47 j ≠ 0) → GI P wk i0 b0 f0 w → (∀ k, w 59 k = z59 k) → PC (f_R_goWeek_164 n v1 v2 v3 w) (fun _ u => (∀ j, i0 j ≠ 0 → u 47 j ≠ 0) ∧ GI P wk i0 b0 f0 u ∧ ∀ k, u 59 k = z59 k) := by
  intro n
  induction n with
  | zero => intros; exact pc_none
  | succ n ih =>
    intro w v1 v3 hG h47 hGI h59
    rw [f_R_goWeek_164]
    refine pc_ite (fun _ => ?_) (fun _ => ?_)
    · refine pc_call (pc_ok (s_R_guests (g_self hG))) (fun r7 u8 q => ?_)
      have e := g_nil q.2
      subst e
      refine pc_gd (fun _ => ?_)
      refine pc_lw (fun u9 e9 => ?_)
      refine pc_lw (fun u10 e10 => ?_)
      refine pc_some ⟨fun j hj => ?_, gi_eq hGI (fun j => ?_) (fun j => ?_), fun k => ?_⟩
      · rw [e10, st_c (by decide), e9, st_c (by decide)]; exact h47 j hj
      · rw [e10, st_c (by decide), e9, st_c (by decide)]
      · rw [e10, st_c (by decide), e9, st_c (by decide)]
      · rw [e10, st_c (by decide), e9, st_c (by decide)]; exact h59 k
    · rw [has_eq, jc_s]
      refine pc_ite (fun _ => ?_) (fun _ => ?_)
      · unfold f_R_goWeek_187
        exact pc_let (fun x e => ih hG h47 hGI h59)
      · refine pc_gd (fun _ => ?_)
        refine pc_lw (fun u14 e14 => ?_)
        have g14 : G md_R_goWeek b u14 := g_st hG e14 rfl rfl (show (-2147483648 : Int) ≤ 1 ∧ (1 : Int) ≤ 2147483647 by decide)
        unfold f_R_goWeek_187
        refine pc_let (fun x e => ih g14 (fun j hj => ?_) (gi_eq hGI (fun j => ?_) (fun j => ?_)) (fun k => ?_))
        · rw [e14]
          by_cases hjv : j = v3.toNat
          · rw [hjv, st_eq]; decide
          · rw [st_k hjv]; exact h47 j hj
        · rw [e14, st_c (by decide)]
        · rw [e14, st_c (by decide)]
        · rw [e14, st_c (by decide)]; exact h59 k
theorem gw44 {b : Wd} {P wk : Int} {i0 b0 f0 z59 z58 : Nat → Int} {v2 : Int} (hP : P ≤ 10) (hB : ∀ k : Nat, (k : Int) < P → z58 k ≠ -1 → 0 ≤ z58 k ∧ z58 k < P ∧ i0 (z58 k).toNat = 0) : ∀ (n : Nat) {w : Wd} {v1 v3 : Int}, 0 ≤ v3 → G md_R_goWeek b w → w 43 0 = P → w 43 8 = wk → (∀ k, w 58 k = z58 k) → (∀ j, i0 j ≠ 0 ↔ w 47 j ≠ 0) → GI P wk i0 b0 f0 w → (∀ k, w 59 k = z59 k) → PC (f_R_goWeek_44 n v1 v2 v3 w) (fun _ u => (∀ j, i0 j ≠ 0 → u 47 j ≠ 0) ∧ GI P wk i0 b0 f0 u ∧ ∀ k, u 59 k = z59 k) := by
  intro n
  induction n with
  | zero => intros; exact pc_none
  | succ n ih =>
    intro w v1 v3 i3 hG h0 h8 h58 h47 hGI h59
    rw [f_R_goWeek_44]
    have w3 := w32_sp (v3 + 1)
    refine pc_ite (fun _ => ?_) (fun hlt => ?_)
    · exact gw164 FU hG (fun j hj => (h47 j).mp hj) hGI h59
    · have nx : ∀ {u : Wd} {c : Int}, G md_R_goWeek b u → u 43 0 = P → u 43 8 = wk → (∀ k, u 58 k = z58 k) → (∀ j, i0 j ≠ 0 ↔ u 47 j ≠ 0) → GI P wk i0 b0 f0 u → (∀ k, u 59 k = z59 k) → PC (f_R_goWeek_156 (f_R_goWeek_44 n) c v2 v3 u) (fun _ u => (∀ j, i0 j ≠ 0 → u 47 j ≠ 0) ∧ GI P wk i0 b0 f0 u ∧ ∀ k, u 59 k = z59 k) := by
        intro u c gu u0 u8 u58 u47 uGI u59
        unfold f_R_goWeek_156
        exact pc_let (fun x e => ih (by omega) gu u0 u8 u58 u47 uGI u59)
      refine pc_gd (fun _ => ?_)
      rw [isG_e, jc_s]
      cases hg : gst (w 47 v3.toNat) with
      | false =>
        refine pc_ite (fun _ => nx hG h0 h8 h58 h47 hGI h59) (fun h => absurd rfl h)
      | true =>
        refine pc_ite (fun h => absurd h (by simp)) (fun _ => ?_)
        have hgv : 1 ≤ w 47 v3.toNat ∧ w 47 v3.toNat < 4 := of_decide_eq_true hg
        have hi0 : i0 v3.toNat ≠ 0 := (h47 v3.toNat).mpr (by omega)
        have s47 : ∀ {u u' : Wd} {z : Int}, u' = st u 47 v3.toNat z → z ≠ 0 → (∀ j, i0 j ≠ 0 ↔ u 47 j ≠ 0) → ∀ j, i0 j ≠ 0 ↔ u' 47 j ≠ 0 := by
          intro u u' z e hz hu j
          rw [e]
          by_cases hjv : j = v3.toNat
          · rw [hjv, st_eq]; exact ⟨fun _ => hz, fun _ => hi0⟩
          · rw [st_k hjv]; exact hu j
        refine pc_gd (fun _ => ?_)
        refine pc_ite (fun _ => ?_) (fun hb => ?_)
        · refine pc_gd (fun _ => ?_)
          refine pc_gd (fun _ => ?_)
          have w1 := w32_sp (w 47 v3.toNat + 1)
          refine pc_lw (fun u23 e23 => ?_)
          have g23 : G md_R_goWeek b u23 := g_st hG e23 rfl rfl (show (-2147483648 : Int) ≤ w32 (w 47 v3.toNat + 1) ∧ w32 (w 47 v3.toNat + 1) ≤ 2147483647 by omega)
          have t47 := s47 e23 (by omega) h47
          have tc : ∀ c k, c ≠ 47 → u23 c k = w c k := fun c k hc => by rw [e23, st_c hc]
          refine pc_gd (fun _ => ?_)
          refine pc_ite (fun _ => ?_) (fun _ => ?_)
          · exact nx g23 ((tc 43 0 (by decide)).trans h0) ((tc 43 8 (by decide)).trans h8) (fun k => (tc 58 k (by decide)).trans (h58 k)) t47 (gi_eq hGI (fun j => tc 48 j (by decide)) (fun j => tc 49 j (by decide))) (fun k => (tc 59 k (by decide)).trans (h59 k))
          · refine pc_gd (fun _ => ?_)
            refine pc_lw (fun u24 e24 => ?_)
            have g24 : G md_R_goWeek b u24 := g_st g23 e24 rfl rfl (show (-2147483648 : Int) ≤ 4 ∧ (4 : Int) ≤ 2147483647 by decide)
            have td : ∀ c k, c ≠ 47 → u24 c k = w c k := fun c k hc => by rw [e24, st_c hc]; exact tc c k hc
            exact nx g24 ((td 43 0 (by decide)).trans h0) ((td 43 8 (by decide)).trans h8) (fun k => (td 58 k (by decide)).trans (h58 k)) (s47 e24 (by decide) t47) (gi_eq hGI (fun j => td 48 j (by decide)) (fun j => td 49 j (by decide))) (fun k => (td 59 k (by decide)).trans (h59 k))
        · refine pc_gd (fun _ => ?_)
          refine pc_let (fun x17 e17 => ?_)
          rw [h58] at hb e17
          obtain ⟨q1, q2, q3⟩ := hB v3.toNat (by omega) hb
          rw [← e17] at q1 q2 q3
          refine pc_gd (fun _ => ?_)
          refine pc_lw (fun u18 e18 => ?_)
          have g18 : G md_R_goWeek b u18 := g_st hG e18 rfl rfl (show (-2147483648 : Int) ≤ 1 ∧ (1 : Int) ≤ 2147483647 by decide)
          have t47 := s47 e18 (by decide) h47
          refine pc_gd (fun _ => ?_)
          refine pc_let (fun x19 e19 => ?_)
          refine pc_gd (fun _ => ?_)
          refine pc_lw (fun u20 e20 => ?_)
          have g20 : G md_R_goWeek b u20 := g_st g18 e20 rfl rfl (show (-1 : Int) ≤ v3 ∧ v3 ≤ 9 by omega)
          refine pc_gd (fun _ => ?_)
          have t8 : u20 43 8 = wk := by rw [e20, st_c (by decide), e18, st_c (by decide)]; exact h8
          have a8 : (0 : Int) ≤ u20 43 8 ∧ u20 43 8 ≤ 60 := g20.1 43 8
          refine pc_lw (fun u21 e21 => ?_)
          have g21 : G md_R_goWeek b u21 := g_st g20 e21 rfl rfl (show (-2147483648 : Int) ≤ u20 43 8 ∧ u20 43 8 ≤ 2147483647 by omega)
          refine nx g21 ?_ ?_ (fun k => ?_) (fun j => ?_) (fun j => ?_) (fun k => ?_)
          · rw [e21, st_c (by decide), e20, st_c (by decide), e18, st_c (by decide)]; exact h0
          · rw [e21, st_c (by decide)]; exact t8
          · rw [e21, st_c (by decide), e20, st_c (by decide), e18, st_c (by decide)]; exact h58 k
          · rw [e21, st_c (by decide), e20, st_c (by decide)]; exact t47 j
          · by_cases hj : j = x17.toNat
            · refine Or.inr ⟨by rw [hj]; exact q3, v3.toNat, by omega, ?_, hi0, ?_⟩
              · rw [e21, st_c (by decide), e20, hj, st_eq]; omega
              · rw [e21, hj, st_eq]; exact t8
            · rw [e21, st_c (by decide), st_k hj, e20, st_k hj, st_c (by decide), e18, st_c (by decide), st_c (by decide)]
              exact hGI j
          · rw [e21, st_c (by decide), e20, st_c (by decide), e18, st_c (by decide)]; exact h59 k
theorem gw_pc {w : Wd} (hG : G md_R_goWeek w w) (hI : IV w ∧ Kb w) (hB : BR w) (h8 : w 43 8 ≤ 59) : PC (f_R_goWeek w) (fun _ u => IV u ∧ Kb u) := by
  have a0 : (0 : Int) ≤ w 43 0 ∧ w 43 0 ≤ 10 := hG.1 43 0
  have a8 : (0 : Int) ≤ w 43 8 ∧ w 43 8 ≤ 60 := hG.1 43 8
  have a32 : (0 : Int) ≤ w 43 32 ∧ w 43 32 ≤ 60 := hG.1 43 32
  obtain ⟨⟨⟨n1, n2⟩, hUn, hKp, hCm, hUI⟩, hK⟩ := hI
  have key : PC (f_R_goWeek w) (fun _ u => (∀ j, w 47 j ≠ 0 → u 47 j ≠ 0) ∧ GI (w 43 0) (w 43 8 + 1) (w 47) (w 48) (w 49) u ∧ (∀ j : Nat, j < 10 → u 59 (31 * (w 43 32).toNat + 3 * j) = w 47 j ∧ u 59 (31 * (w 43 32).toNat + 3 * j + 1) = w 48 j ∧ u 59 (31 * (w 43 32).toNat + 3 * j + 2) = w 49 j) ∧ ∀ i, (i < 31 * (w 43 32).toNat ∨ 31 * (w 43 32).toNat + 31 ≤ i) → u 59 i = w 59 i) := by
    unfold f_R_goWeek
    have w1 := w32_sp (31 * w 43 32)
    refine pc_call (pc_and (pc_ok (s_R_lay_43_59 (v2 := w32 (31 * w 43 32)) (g_self hG) (by omega) (by omega) (by omega))) (lay59 (k := 31 * (w 43 32).toNat) (v2 := w32 (31 * w 43 32)) (by omega) (by omega) w)) (fun r1 u2 q => ?_)
    obtain ⟨⟨_, gy⟩, hD, hO⟩ := q
    have g2 : G md_R_goWeek w u2 := g_tr hG gy rfl
    have t32 : u2 43 32 = w 43 32 := gy.2.1 43 32 rfl
    have t8 : u2 43 8 = w 43 8 := gy.2.1 43 8 rfl
    have w2 := w32_sp (u2 43 32 + 1)
    refine pc_lw (fun u3 e3 => ?_)
    have g3 : G md_R_goWeek w u3 := g_st g2 e3 rfl rfl (show (0 : Int) ≤ w32 (u2 43 32 + 1) ∧ w32 (u2 43 32 + 1) ≤ 60 by omega)
    have t38 : u3 43 8 = w 43 8 := by rw [e3, st_k (by decide)]; exact t8
    have w3 := w32_sp (u3 43 8 + 1)
    refine pc_lw (fun u4 e4 => ?_)
    have g4 : G md_R_goWeek w u4 := g_st g3 e4 rfl rfl (show (0 : Int) ≤ w32 (u3 43 8 + 1) ∧ w32 (u3 43 8 + 1) ≤ 60 by omega)
    have tc : ∀ c k, c ≠ 43 → u4 c k = u2 c k := fun c k hc => by rw [e4, st_c hc, e3, st_c hc]
    refine pc_call (pc_ok (s_R_broughtNow (g_self g4))) (fun r5 u6 q => ?_)
    have e6 := g_nil q.2
    subst e6
    refine pc_w (gw44 (P := w 43 0) (wk := w 43 8 + 1) (i0 := w 47) (b0 := w 48) (f0 := w 49) (z59 := u2 59) (z58 := w 58) a0.2 hB FU (by decide) g4 (g4.2.1 43 0 rfl) (by rw [e4, st_eq]; omega) (fun k => (tc 58 k (by decide)).trans (gy.2.1 58 k (mS_ar rfl k))) (fun j => by rw [tc 47 j (by decide), gy.2.1 47 j (mS_ar rfl j)]) (fun j => Or.inl ⟨(tc 48 j (by decide)).trans (gy.2.1 48 j (mS_ar rfl j)), (tc 49 j (by decide)).trans (gy.2.1 49 j (mS_ar rfl j))⟩) (fun k => tc 59 k (by decide))) (fun r u q => ⟨q.1, q.2.1, fun j hj => ?_, fun i hi => ?_⟩)
    · rw [q.2.2, q.2.2, q.2.2]; exact hD j hj
    · rw [q.2.2]; exact hO i hi
  refine pc_w (pc_and (pc_ok (s_R_goWeek hG h8 hUI)) key) (fun r u q => ?_)
  obtain ⟨⟨_, gy, p8, p32⟩, q47, qGI, qD, qO⟩ := q
  have y0 : u 43 0 = w 43 0 := gy.2.1 43 0 rfl
  have y56 : u 43 56 = w 43 56 := gy.2.1 43 56 rfl
  refine ⟨⟨⟨fun j hj hn => ?_, fun j hj => ?_⟩, fun t ht => ?_, ?_, ?_, by omega⟩, kb_eq hK y0 (funext fun k => gy.2.1 45 k (mS_ar rfl k))⟩
  · rw [y0] at hj
    rcases qGI j with ⟨e1, e2⟩ | ⟨_, i, hi, e1, h3, e2⟩
    · rw [e1] at hn ⊢
      obtain ⟨b0, b1, b2, b3⟩ := n1 j hj hn
      have hf : u 49 (w 48 j).toNat = w 49 (w 48 j).toNat := by
        rcases qGI (w 48 j).toNat with ⟨_, e⟩ | ⟨h, _⟩
        · exact e
        · exact absurd h b2
      rw [y0, hf, e2]
      exact ⟨b0, b1, q47 _ b2, b3⟩
    · rw [e1, y0, e2, Int.toNat_natCast]
      have hf : u 49 i = w 49 i := by
        rcases qGI i with ⟨_, e⟩ | ⟨h, _⟩
        · exact e
        · exact absurd h h3
      rw [hf]
      have := n2 i hi
      exact ⟨by omega, hi, q47 _ h3, by omega⟩
  · rw [y0] at hj
    rw [p8]
    rcases qGI j with ⟨_, e2⟩ | ⟨_, i, hi, e1, h3, e2⟩
    · rw [e2]
      have := n2 j hj
      omega
    · rw [e2]; omega
  · rw [p32] at ht
    rw [y0, p8, p32]
    by_cases hto : (t : Int) < w 43 32
    · have h := hUn t hto
      have e : w 43 8 + 1 - (w 43 32 + 1) + (t : Int) = w 43 8 - w 43 32 + t := by omega
      rw [e]
      obtain ⟨m1, m2⟩ := h
      refine ⟨fun j hj hn => ?_, fun j hj => ?_⟩
      · simp only at hn ⊢
        rw [qO _ (by omega)] at hn
        obtain ⟨b0, b1, b2, b3⟩ := m1 j hj hn
        simp only at b0 b1 b2 b3
        have e1 : u 59 (31 * t + 3 * j + 1) = w 59 (31 * t + 3 * j + 1) := qO _ (by omega)
        rw [e1]
        rw [qO (31 * t + 3 * (w 59 (31 * t + 3 * j + 1)).toNat) (by omega), qO (31 * t + 3 * (w 59 (31 * t + 3 * j + 1)).toNat + 2) (by omega), qO (31 * t + 3 * j + 2) (by omega)]
        exact ⟨b0, b1, b2, b3⟩
      · simp only
        rw [qO _ (by omega)]
        exact m2 j hj
    · have et : t = (w 43 32).toNat := by omega
      subst et
      refine ⟨fun j hj hn => ?_, fun j hj => ?_⟩
      · simp only at hn ⊢
        rw [(qD j (by omega)).2.1] at hn ⊢
        obtain ⟨b0, b1, b2, b3⟩ := n1 j hj hn
        rw [(qD (w 48 j).toNat (by omega)).1, (qD (w 48 j).toNat (by omega)).2.2, (qD j (by omega)).2.2]
        exact ⟨b0, b1, b2, b3⟩
      · simp only
        rw [(qD j (by omega)).2.2]
        have := n2 j hj
        omega
  · intro m hm h80 h81
    rw [gy.2.1 80 m (mS_ar rfl m)] at h80
    rw [gy.2.1 81 m (mS_ar rfl m), y56] at h81
    have h := hKp m hm h80 h81
    rw [y0, show u 79 = w 79 from funext fun k => gy.2.1 79 k (mS_ar rfl k)]
    exact h
  · obtain ⟨c1, c2, c3⟩ := hCm
    exact ⟨by omega, by omega, fun m hm => by rw [gy.2.1 81 m (mS_ar rfl m), y56]; exact c3 m hm⟩
/-! who is chosen is a stranger -/
theorem th_pc {w : Wd} {v1 v2 : Int} (h0 : w 43 0 ≤ 10) : ∀ (n : Nat) {v3 v4 : Int}, (0 ≤ v4 ∧ v4 ≤ 10) → (∀ q : Nat, q < 10 → bt v3 q = true → (q : Int) < w 43 0 ∧ v1 ≤ w 47 q ∧ w 47 q ≤ v2) → PC (f_R_those_5 n v1 v2 v3 v4 w) (fun r u => u = w ∧ ∀ q : Nat, q < 10 → bt r q = true → (q : Int) < w 43 0 ∧ v1 ≤ w 47 q ∧ w 47 q ≤ v2) := by
  intro n
  induction n with
  | zero => intros; exact pc_none
  | succ n ih =>
    intro v3 v4 i4 hI
    rw [f_R_those_5]
    have w4 := w32_sp (v4 + 1)
    refine pc_ite (fun _ => pc_some ⟨rfl, hI⟩) (fun h => ?_)
    refine pc_gd (fun _ => ?_)
    have nx : ∀ z : Int, (∀ q : Nat, q < 10 → bt z q = true → (q : Int) < w 43 0 ∧ v1 ≤ w 47 q ∧ w 47 q ≤ v2) → PC (f_R_those_38 (f_R_those_5 n) v1 v2 v4 v3 z w) (fun r u => u = w ∧ ∀ q : Nat, q < 10 → bt r q = true → (q : Int) < w 43 0 ∧ v1 ≤ w 47 q ∧ w 47 q ≤ v2) := by
      intro z hz
      unfold f_R_those_38
      refine pc_let (fun x3 e3 => ?_)
      refine pc_let (fun x4 e4 => ?_)
      refine ih (by omega) (fun q hq hb => ?_)
      rw [e3, bt_or] at hb
      cases hb3 : bt v3 q with
      | true => exact hI q hq hb3
      | false =>
        rw [hb3, Bool.false_or] at hb
        exact hz q hq hb
    rw [in_e, jc_s]
    refine pc_ite (fun _ => ?_) (fun hc => ?_)
    · exact nx 0 (fun q _ hb => by rw [bt_0] at hb; cases hb)
    · refine nx _ (fun q hq hb => ?_)
      rw [bt_shl (by omega) (by omega)] at hb
      have e : q = v4.toNat := by simpa using hb
      have hv : v1 ≤ w 47 v4.toNat ∧ w 47 v4.toNat ≤ v2 := by
        by_cases h2 : v1 ≤ w 47 v4.toNat ∧ w 47 v4.toNat ≤ v2
        · exact h2
        · rw [if_neg h2] at hc; exact absurd rfl hc
      rw [e]
      exact ⟨by omega, hv⟩
theorem free_pc {S : List Nat} {b w : Wd} (hG : G S b w) : PC (f_R_free w) (fun r u => u = w ∧ ∀ q : Nat, q < 10 → bt r q = true → (q : Int) < w 43 0 ∧ w 47 q = 0) := by
  have a0 : (0 : Int) ≤ w 43 0 ∧ w 43 0 ≤ 10 := hG.1 43 0
  unfold f_R_free f_R_those
  refine pc_call (th_pc a0.2 FU (by decide) (fun q _ hb => by rw [bt_0] at hb; cases hb)) (fun r1 u2 q => ?_)
  obtain ⟨e, h1⟩ := q
  subst e
  refine pc_call (pc_ok (s_R_hidden (g_self hG))) (fun r3 u4 q => ?_)
  have e4 := g_nil q.2
  subst e4
  refine pc_some ⟨rfl, fun q hq hb => ?_⟩
  rw [bt_and] at hb
  cases hb1 : bt r1 q with
  | true => have := h1 q hq hb1; exact ⟨this.1, by omega⟩
  | false => rw [hb1] at hb; simp at hb
/-- the feast as in w0 -/
def CH (w0 u : Wd) (i : Nat) (r : Int) : Prop := (r = -1 ∨ (0 ≤ r ∧ r < w0 43 0 ∧ w0 47 r.toNat = 0)) ∧ ∀ k, k ≠ i → u 58 k = w0 58 k
theorem ch_27 {b w0 : Wd} {v1 v2 : Int} (i1 : 0 ≤ v1 ∧ v1 ≤ 9) (h2 : ∀ q : Nat, q < 10 → bt v2 q = true → (q : Int) < w0 43 0 ∧ w0 47 q = 0) : ∀ (n : Nat) {w : Wd} {v3 v4 v5 : Int}, (0 ≤ v5 ∧ v5 ≤ 10) → G md_R_choice b w → w 43 0 = w0 43 0 → (∀ k, k ≠ v1.toNat → w 58 k = w0 58 k) → (v3 = -1 ∨ (0 ≤ v3 ∧ v3 < w0 43 0 ∧ w0 47 v3.toNat = 0)) → PC (f_R_choice_27 n v1 v2 v3 v4 v5 w) (fun r u => CH w0 u v1.toNat r) := by
  intro n
  induction n with
  | zero => intros; exact pc_none
  | succ n ih =>
    intro w v3 v4 v5 i5 hG h0 h58 h3
    rw [f_R_choice_27]
    have a0 : (0 : Int) ≤ w 43 0 ∧ w 43 0 ≤ 10 := hG.1 43 0
    have w5 := w32_sp (v5 + 1)
    refine pc_ite (fun _ => ?_) (fun hlt => ?_)
    · refine pc_ite (fun _ => pc_some ⟨Or.inl rfl, h58⟩) (fun hn => ?_)
      have h3' := h3.resolve_left hn
      refine pc_gd (fun _ => ?_)
      refine pc_lw (fun u6 e6 => ?_)
      have iv3 : (-1 : Int) ≤ v3 ∧ v3 ≤ 9 := by omega
      have g6 : G md_R_choice b u6 := g_st hG e6 rfl rfl iv3
      refine pc_call (pc_ok (s_R_guestsThen (g_self g6))) (fun r7 u8 q => ?_)
      have e8 := g_nil q.2
      subst e8
      refine pc_gd (fun _ => ?_)
      refine pc_lw (fun u9 e9 => ?_)
      have t58 : ∀ k, k ≠ v1.toNat → u9 58 k = w0 58 k := fun k hk => by rw [e9, st_k hk, e6, st_k hk]; exact h58 k hk
      refine pc_ite (fun _ => pc_some ⟨Or.inr h3', t58⟩) (fun _ => pc_some ⟨Or.inl rfl, t58⟩)
    · rw [has_e w (by omega), jc_s]
      have nx : ∀ {u : Wd} {a c : Int}, G md_R_choice b u → u 43 0 = w0 43 0 → (∀ k, k ≠ v1.toNat → u 58 k = w0 58 k) → (a = -1 ∨ (0 ≤ a ∧ a < w0 43 0 ∧ w0 47 a.toNat = 0)) → PC (f_R_choice_84 (f_R_choice_27 n) v1 v2 a c v5 u) (fun r u => CH w0 u v1.toNat r) := by
        intro u a c gu u0 u58 ha
        unfold f_R_choice_84
        refine pc_let (fun x14 e14 => ?_)
        have i14 : 0 ≤ x14 ∧ x14 ≤ 10 := by clear ha h3; omega
        exact ih i14 gu u0 u58 ha
      cases hb : bt v2 v5.toNat with
      | false =>
        refine pc_ite (fun _ => nx hG h0 h58 h3) (fun h => absurd rfl h)
      | true =>
        refine pc_ite (fun h => absurd h (by simp)) (fun _ => ?_)
        refine pc_call (pc_ok (s_R_ruleFor (g_self hG) (by omega) (by omega))) (fun r12 u13 q => ?_)
        have gy := q.2
        have g13 : G md_R_choice b u13 := g_tr hG gy rfl
        have t0 : u13 43 0 = w0 43 0 := (gy.2.1 43 0 rfl).trans h0
        have t58 : ∀ k, k ≠ v1.toNat → u13 58 k = w0 58 k := fun k hk => (gy.2.1 58 k (mS_ar rfl k)).trans (h58 k hk)
        have h5 := h2 v5.toNat (by omega) hb
        have p77 : ∀ c : Int, PC (f_R_choice_77 (f_R_choice_27 n) v1 v2 v5 c u13) (fun r u => CH w0 u v1.toNat r) := by
          intro c
          unfold f_R_choice_77
          exact nx g13 t0 t58 (Or.inr ⟨by omega, by omega, h5.2⟩)
        refine pc_ite (fun _ => nx g13 t0 t58 h3) (fun _ => ?_)
        refine pc_ite (fun _ => p77 _) (fun _ => ?_)
        exact pc_ite (fun _ => p77 _) (fun _ => nx g13 t0 t58 h3)
theorem ch_pc {w : Wd} {v1 : Int} (i1 : 0 ≤ v1 ∧ v1 ≤ 9) (hG : G md_R_choice w w) : PC (f_R_choice v1 w) (fun r u => CH w u v1.toNat r) := by
  unfold f_R_choice
  refine pc_call (free_pc hG) (fun r1 u2 q => ?_)
  obtain ⟨e, h1⟩ := q
  subst e
  refine pc_gd (fun _ => ?_)
  refine pc_call (pc_ok (s_R_broughtNow (g_self hG))) (fun r3 u4 q => ?_)
  have e4 := g_nil q.2
  subst e4
  refine pc_let (fun x5 e5 => ?_)
  refine ch_27 i1 (fun q hq hb => ?_) FU (by decide) hG rfl (fun _ _ => rfl) (Or.inl rfl)
  rw [e5, bt_and, bt_and] at hb
  cases hb1 : bt r1 q with
  | true => exact h1 q hq hb1
  | false => rw [hb1] at hb; simp at hb
theorem nb_pc : ∀ (n : Nat) {w : Wd} {v1 : Int}, 0 ≤ v1 → (∀ k : Nat, (k : Int) < v1 → w 58 k = -1) → PC (f_R_nobody_2 n v1 w) (fun _ u => ∀ k : Nat, k < 10 → u 58 k = -1) := by
  intro n
  induction n with
  | zero => intros; exact pc_none
  | succ n ih =>
    intro w v1 i1 h
    rw [f_R_nobody_2]
    have w1 := w32_sp (v1 + 1)
    refine pc_ite (fun _ => pc_some (fun k hk => h k (by omega))) (fun _ => ?_)
    refine pc_gd (fun _ => ?_)
    refine pc_lw (fun u1 e1 => ?_)
    refine pc_let (fun x2 e2 => ?_)
    refine ih (by omega) (fun k hk => ?_)
    rw [e1]
    by_cases hkv : k = v1.toNat
    · rw [hkv, st_eq]
    · rw [st_k hkv]; exact h k (by omega)
theorem fc_pc {w : Wd} (hG : G md_R_findChoices w w) : PC (f_R_findChoices w) (fun _ u => BR u) := by
  have a0 : (0 : Int) ≤ w 43 0 ∧ w 43 0 ≤ 10 := hG.1 43 0
  unfold f_R_findChoices
  have nb : PC (f_R_nobody w) (fun _ u => ∀ k : Nat, k < 10 → u 58 k = -1) := by
    unfold f_R_nobody
    exact nb_pc FU (by decide) (fun k hk => by omega)
  refine pc_call (pc_and (pc_ok (s_R_nobody (g_self hG))) nb) (fun r1 u2 q => ?_)
  obtain ⟨⟨_, gy⟩, hn⟩ := q
  have g2 : G md_R_findChoices w u2 := g_tr hG gy rfl
  have lp : ∀ (n : Nat) {u : Wd} {v1 : Int}, 0 ≤ v1 → G md_R_findChoices w u → BR u → PC (f_R_findChoices_6 n v1 u) (fun _ u => BR u) := by
    intro n
    induction n with
    | zero => intros; exact pc_none
    | succ n ih =>
      intro u v1 i1 gu hB
      rw [f_R_findChoices_6]
      have b0 : (0 : Int) ≤ u 43 0 ∧ u 43 0 ≤ 10 := gu.1 43 0
      have w1 := w32_sp (v1 + 1)
      refine pc_ite (fun _ => pc_some hB) (fun hlt => ?_)
      have nx : ∀ {x : Wd}, G md_R_findChoices w x → BR x → PC (f_R_findChoices_37 (f_R_findChoices_6 n) v1 x) (fun _ u => BR u) := by
        intro x gx hx
        unfold f_R_findChoices_37
        exact pc_let (fun y e => ih (by omega) gx hx)
      refine pc_gd (fun _ => ?_)
      rw [isG_e, jc_s]
      refine pc_ite (fun _ => nx gu hB) (fun _ => ?_)
      refine pc_call (pc_and (pc_ok (s_R_choice (g_self gu) (by omega))) (ch_pc (by omega) (g_self gu))) (fun r6 u7 q => ?_)
      obtain ⟨⟨ir, gz⟩, hr, h58⟩ := q
      have g7 : G md_R_findChoices w u7 := g_tr gu gz rfl
      refine pc_gd (fun _ => ?_)
      have ir6 : (-1 : Int) ≤ r6 ∧ r6 ≤ 9 := by omega
      refine pc_lw (fun u8 e8 => ?_)
      have g8 : G md_R_findChoices w u8 := g_st g7 e8 rfl rfl ir6
      refine nx g8 (fun k hk hne => ?_)
      have t0 : u8 43 0 = u 43 0 := by rw [e8, st_c (by decide)]; exact gz.2.1 43 0 rfl
      have t47 : ∀ k, u8 47 k = u 47 k := fun k => by rw [e8, st_c (by decide)]; exact gz.2.1 47 k (mS_ar rfl k)
      rw [t0] at hk ⊢
      by_cases hkv : k = v1.toNat
      · have e58 : u8 58 k = r6 := by rw [e8, hkv, st_eq]
        rw [e58] at hne ⊢
        rw [t47]
        exact hr.resolve_left hne
      · have e58 : u8 58 k = u 58 k := by rw [e8, st_k hkv]; exact h58 k hkv
        rw [e58] at hne ⊢
        rw [t47]
        exact hB k hk hne
  refine lp FU (by decide) g2 (fun k hk hne => ?_)
  have e0 : u2 43 0 = w 43 0 := gy.2.1 43 0 rfl
  exact absurd (hn k (by omega)) hne
theorem tl_pc {w : Wd} {v : Int} (hI : IV w ∧ Kb w) : PC (f_R_tell v w) (fun _ u => IV u ∧ Kb u) := by
  unfold f_R_tell
  refine pc_gd (fun _ => ?_)
  refine pc_lw (fun u1 e1 => ?_)
  refine pc_lw (fun u2 e2 => ?_)
  exact pc_some (iv_st (iv_st hI e1 (Or.inl (by decide))) e2 (Or.inr ⟨rfl, by decide⟩))
theorem go_60 {b w : Wd} {v2 v3 : Int} (hG : G md_R_goes b w) (hI : IV w ∧ Kb w) : PC (f_R_goes_60 v2 v3 w) (fun _ u => IV u ∧ Kb u) := by
  unfold f_R_goes_60
  refine pc_lw (fun u5 e5 => ?_)
  have g5 : G md_R_goes b u5 := g_st hG e5 rfl rfl (show (0 : Int) ≤ 0 ∧ (0 : Int) ≤ 16 by decide)
  have i5 := iv_st hI e5 (Or.inr ⟨rfl, by decide⟩)
  refine pc_call (pc_ok (s_R_guests (g_self g5))) (fun r6 u7 q => ?_)
  have e := g_nil q.2
  subst e
  refine pc_call (tl_pc i5) (fun r8 u9 i9 => ?_)
  refine pc_call (tl_pc i9) (fun r10 u11 i11 => ?_)
  exact pc_some i11
theorem go_24 {b : Wd} {v1 v2 : Int} : ∀ (n : Nat) {w : Wd} {v3 : Int}, G md_R_goes b w → IV w ∧ Kb w → PC (f_R_goes_24 n v1 v2 v3 w) (fun _ u => IV u ∧ Kb u) := by
  intro n
  induction n with
  | zero => intros; exact pc_none
  | succ n ih =>
    intro w v3 hG hI
    rw [f_R_goes_24]
    refine pc_ite (fun _ => go_60 hG hI) (fun _ => ?_)
    refine pc_ite (fun _ => go_60 hG hI) (fun h8 => ?_)
    refine pc_call (pc_ok (s_R_guests (g_self hG))) (fun r12 u13 q => ?_)
    have e := g_nil q.2
    subst e
    refine pc_ite (fun _ => go_60 hG hI) (fun _ => ?_)
    refine pc_call (pc_and (pc_ok (s_R_findChoices (g_self hG))) (fc_pc (g_self hG))) (fun r14 u15 q => ?_)
    obtain ⟨⟨_, gy⟩, hB⟩ := q
    have g15 : G md_R_goes b u15 := g_tr hG gy rfl
    have i15 := iv_ff hI gy rfl
    have t8 : u15 43 8 = u13 43 8 := gy.2.1 43 8 rfl
    refine pc_call (pc_and (pc_ok (s_R_goWeek (g_self g15) (by omega) i15.1.2.2.2.2)) (gw_pc (g_self g15) i15 hB (by omega))) (fun r16 u17 q => ?_)
    obtain ⟨⟨_, gz, _⟩, i17⟩ := q
    refine pc_let (fun x18 e18 => ?_)
    exact ih (g_tr g15 gz rfl) i17
theorem goes_pc {w : Wd} {v1 : Int} (h : RS w) : PC (f_R_goes v1 w) (fun _ u => IV u ∧ Kb u) := by
  obtain ⟨hG0, hI⟩ := h
  have hG : G md_R_goes w w := g_self hG0
  unfold f_R_goes
  refine pc_lw (fun u1 e1 => ?_)
  have g1 : G md_R_goes w u1 := g_st hG e1 rfl rfl (show (0 : Int) ≤ 0 ∧ (0 : Int) ≤ 1 by decide)
  have i1 := iv_st hI e1 (Or.inr ⟨rfl, by decide⟩)
  rw [in_e, jc_s]
  refine pc_ite (fun _ => pc_some i1) (fun _ => ?_)
  exact pc_let (fun x4 e4 => go_24 FU g1 i1)
theorem undo_pc {w : Wd} (h : RS w) : PC (f_R_undo w) (fun _ u => IV u ∧ Kb u) := by
  obtain ⟨hG0, hI⟩ := h
  have hG : G md_R_undo w w := g_self hG0
  unfold f_R_undo
  refine pc_lw (fun u1 e1 => ?_)
  have g1 : G md_R_undo w u1 := g_st hG e1 rfl rfl (show (0 : Int) ≤ 0 ∧ (0 : Int) ≤ 1 by decide)
  have i1 := iv_st hI e1 (Or.inr ⟨rfl, by decide⟩)
  refine pc_ite (fun _ => pc_some i1) (fun hne => ?_)
  obtain ⟨⟨⟨n1, n2⟩, hUn, hKp, ⟨c1, c2, c3⟩, hUI⟩, hK⟩ := i1
  have a0 : (0 : Int) ≤ u1 43 0 ∧ u1 43 0 ≤ 10 := g1.1 43 0
  have a8 : (0 : Int) ≤ u1 43 8 ∧ u1 43 8 ≤ 60 := g1.1 43 8
  have a32 : (0 : Int) ≤ u1 43 32 ∧ u1 43 32 ≤ 60 := g1.1 43 32
  have w1 := w32_sp (u1 43 32 - 1)
  refine pc_lw (fun u2 e2 => ?_)
  have g2 : G md_R_undo w u2 := g_st g1 e2 rfl rfl (show (0 : Int) ≤ w32 (u1 43 32 - 1) ∧ w32 (u1 43 32 - 1) ≤ 60 by omega)
  have t8 : u2 43 8 = u1 43 8 := by rw [e2, st_k (by decide)]
  have w2 := w32_sp (u2 43 8 - 1)
  refine pc_lw (fun u3 e3 => ?_)
  have g3 : G md_R_undo w u3 := g_st g2 e3 rfl rfl (show (0 : Int) ≤ w32 (u2 43 8 - 1) ∧ w32 (u2 43 8 - 1) ≤ 60 by omega)
  have s32 : u3 43 32 = u1 43 32 - 1 := by rw [e3, st_k (by decide), e2, st_eq]; omega
  have s8 : u3 43 8 = u1 43 8 - 1 := by rw [e3, st_eq]; omega
  have s0 : u3 43 0 = u1 43 0 := by rw [e3, st_k (by decide), e2, st_k (by decide)]
  have s56 : u3 43 56 = u1 43 56 := by rw [e3, st_k (by decide), e2, st_k (by decide)]
  have sc : ∀ c k, c ≠ 43 → u3 c k = u1 c k := fun c k hc => by rw [e3, st_c hc, e2, st_c hc]
  have w3 := w32_sp (31 * u3 43 32)
  refine pc_call (pc_and (pc_ok (s_R_bring_43_59 (v2 := w32 (31 * u3 43 32)) (g_self g3) (by omega) (by omega) (by omega))) (bring59 (k := 31 * (u3 43 32).toNat) (v2 := w32 (31 * u3 43 32)) (by omega) (by omega) u3 (by omega))) (fun r4 u5 q => ?_)
  obtain ⟨⟨_, gy⟩, hD⟩ := q
  have y0 : u5 43 0 = u1 43 0 := (gy.2.1 43 0 rfl).trans s0
  have y8 : u5 43 8 = u1 43 8 - 1 := (gy.2.1 43 8 rfl).trans s8
  have y32 : u5 43 32 = u1 43 32 - 1 := (gy.2.1 43 32 rfl).trans s32
  have y56 : u5 43 56 = u1 43 56 := (gy.2.1 43 56 rfl).trans s56
  have y59 : ∀ k, u5 59 k = u1 59 k := fun k => (gy.2.1 59 k (mS_ar rfl k)).trans (sc 59 k (by decide))
  have hD' : ∀ j : Nat, (j : Int) < u1 43 0 → u5 47 j = u1 59 (31 * (u1 43 32 - 1).toNat + 3 * j) ∧ u5 48 j = u1 59 (31 * (u1 43 32 - 1).toNat + 3 * j + 1) ∧ u5 49 j = u1 59 (31 * (u1 43 32 - 1).toNat + 3 * j + 2) := fun j hj => by
    have h1 := hD j (by omega)
    rw [s32, sc 59 _ (by decide), sc 59 _ (by decide), sc 59 _ (by decide)] at h1
    exact h1
  obtain ⟨m1, m2⟩ := hUn (u1 43 32 - 1).toNat (by omega)
  simp only at m1 m2
  refine pc_some ⟨⟨⟨fun j hj hn => ?_, fun j hj => ?_⟩, fun t ht => ?_, ?_, ⟨by omega, by omega, fun m hm => ?_⟩, by omega⟩, ?_⟩
  · rw [y0] at hj
    rw [(hD' j hj).2.1] at hn ⊢
    obtain ⟨b0, b1, b2, b3⟩ := m1 j hj hn
    rw [y0, (hD' _ (show ((u1 59 (31 * (u1 43 32 - 1).toNat + 3 * j + 1)).toNat : Int) < u1 43 0 by omega)).1, (hD' _ (show ((u1 59 (31 * (u1 43 32 - 1).toNat + 3 * j + 1)).toNat : Int) < u1 43 0 by omega)).2.2, (hD' j hj).2.2]
    exact ⟨b0, b1, b2, b3⟩
  · rw [y0] at hj
    rw [(hD' j hj).2.2, y8]
    have := m2 j hj
    omega
  · rw [y32] at ht
    have h := hUn t (by omega)
    rw [y0, y8, y32, show u5 59 = u1 59 from funext y59, show u1 43 8 - 1 - (u1 43 32 - 1) + (t : Int) = u1 43 8 - u1 43 32 + t by omega]
    exact h
  · intro m hm h80 h81
    rw [gy.2.1 80 m (mS_ar rfl m), sc 80 m (by decide)] at h80
    rw [gy.2.1 81 m (mS_ar rfl m), sc 81 m (by decide), y56] at h81
    have h := hKp m hm h80 h81
    rw [y0, show u5 79 = u1 79 from funext fun k => (gy.2.1 79 k (mS_ar rfl k)).trans (sc 79 k (by decide))]
    exact h
  · rw [gy.2.1 81 m (mS_ar rfl m), sc 81 m (by decide), y56]
    exact c3 m hm
  · exact kb_eq hK y0 (funext fun k => (gy.2.1 45 k (mS_ar rfl k)).trans (sc 45 k (by decide)))
def E57 (x w : Wd) : Prop := ∀ c k, (c ≠ 46 ∧ c ≠ 50 ∧ ¬ (c = 43 ∧ (k = 8 ∨ k = 10 ∨ k = 11 ∨ k = 32))) → w c k = x c k
theorem e57_st {x w u : Wd} {c k : Nat} {z : Int} (h : E57 x w) (e : u = st w c k z) (hc : c = 46 ∨ c = 50 ∨ (c = 43 ∧ (k = 8 ∨ k = 10 ∨ k = 11 ∨ k = 32))) : E57 x u := by
  intro c' k' hc'
  rw [e]
  unfold st
  rw [if_neg (by omega)]
  exact h c' k' hc'
theorem ag_133 {x : Wd} {wk v2 : Int} : ∀ (n : Nat) {w : Wd} {v3 : Int}, E57 x w → w 43 8 = wk → PC (f_R_again_133 n v2 v3 w) (fun _ u => E57 x u ∧ u 43 8 = wk ∧ u 43 32 = 0) := by
  intro n
  induction n with
  | zero => intros; exact pc_none
  | succ n ih =>
    intro w v3 hE h8
    rw [f_R_again_133]
    refine pc_ite (fun _ => ?_) (fun _ => ?_)
    · refine pc_lw (fun u12 e12 => ?_)
      exact pc_some ⟨e57_st hE e12 (by omega), by rw [e12, st_k (by decide)]; exact h8, by rw [e12, st_eq]⟩
    · refine pc_gd (fun _ => ?_)
      refine pc_gd (fun _ => ?_)
      refine pc_lw (fun u13 e13 => ?_)
      refine pc_let (fun x14 e14 => ?_)
      exact ih (e57_st hE e13 (by omega)) (by rw [e13, st_c (by decide)]; exact h8)
theorem ag_57 {x : Wd} {i : Nat} {v2 : Int} (h2 : v2 = 105 * i + 31) (hi : i < 2) : ∀ (n : Nat) {w : Wd} {v3 : Int}, E57 x w → PC (f_R_again_57 n v2 v3 w) (fun _ u => E57 x u ∧ u 43 8 = x 79 (105 * i + 43) ∧ u 43 32 = 0) := by
  intro n
  induction n with
  | zero => intros; exact pc_none
  | succ n ih =>
    intro w v3 hE
    rw [f_R_again_57]
    refine pc_ite (fun _ => ?_) (fun _ => ?_)
    · have w1 := w32_sp (v2 + 10)
      refine pc_let (fun x8 e8 => ?_)
      have w2 := w32_sp (x8 + 2)
      refine pc_gd (fun _ => ?_)
      refine pc_lw (fun u9 e9 => ?_)
      refine pc_gd (fun _ => ?_)
      refine pc_lw (fun u10 e10 => ?_)
      refine pc_gd (fun _ => ?_)
      refine pc_lw (fun u11 e11 => ?_)
      have E9 := e57_st hE e9 (by omega)
      have E10 := e57_st E9 e10 (by omega)
      refine ag_133 FU (e57_st E10 e11 (by omega)) ?_
      rw [e11, st_eq, E10 79 _ (by omega)]
      congr 1
      omega
    · refine pc_gd (fun _ => ?_)
      have nx : ∀ s : Int, PC (f_R_again_87 (f_R_again_57 n) v2 v3 v3 s w) (fun _ u => E57 x u ∧ u 43 8 = x 79 (105 * i + 43) ∧ u 43 32 = 0) := by
        intro s
        unfold f_R_again_87
        refine pc_gd (fun _ => ?_)
        refine pc_lw (fun u15 e15 => ?_)
        refine pc_let (fun x16 e16 => ?_)
        exact ih (e57_st hE e15 (by omega))
      exact pc_ite (fun _ => nx 1) (fun _ => nx 0)
theorem again_pc {w : Wd} {v1 : Int} (h : RS w) : PC (f_R_again v1 w) (fun _ u => IV u ∧ Kb u) := by
  obtain ⟨hG0, hI⟩ := h
  have hG : G md_R_again w w := g_self hG0
  unfold f_R_again
  refine pc_lw (fun u1 e1 => ?_)
  have g1 : G md_R_again w u1 := g_st hG e1 rfl rfl (show (0 : Int) ≤ 0 ∧ (0 : Int) ≤ 1 by decide)
  have i1 := iv_st hI e1 (Or.inr ⟨rfl, by decide⟩)
  rw [in_e, jc_s]
  refine pc_ite (fun _ => pc_some i1) (fun hr => ?_)
  have hv : 0 ≤ v1 ∧ v1 ≤ 1 := by
    by_cases h2 : 0 ≤ v1 ∧ v1 ≤ 1
    · exact h2
    · rw [if_neg h2] at hr; exact absurd rfl hr
  refine pc_gd (fun _ => ?_)
  refine pc_ite (fun _ => pc_some i1) (fun h80 => ?_)
  refine pc_gd (fun _ => ?_)
  refine pc_ite (fun h81 => ?_) (fun _ => pc_some i1)
  obtain ⟨⟨⟨n1, n2⟩, hUn, hKp, ⟨c1, c2, c3⟩, hUI⟩, hK⟩ := i1
  have a0 : (0 : Int) ≤ u1 43 0 ∧ u1 43 0 ≤ 10 := g1.1 43 0
  have w1 := w32_sp (105 * v1)
  refine pc_let (fun x4 e4 => ?_)
  refine pc_call (pc_and (pc_ok (s_R_bring_43_79 (v2 := x4) (g_self g1) (by omega) (by omega))) (bring79 (k := 105 * v1.toNat) (v2 := x4) (by omega) (by omega) u1 (by omega))) (fun r5 u6 q => ?_)
  obtain ⟨⟨_, gy⟩, hD⟩ := q
  have w2 := w32_sp (x4 + 31)
  refine pc_let (fun x7 e7 => ?_)
  refine pc_w (ag_57 (x := u6) (i := v1.toNat) (by omega) (by omega) FU (fun _ _ _ => rfl)) (fun r u q => ?_)
  obtain ⟨hE, q8, q32⟩ := q
  have y0 : u 43 0 = u1 43 0 := (hE 43 0 (by omega)).trans (gy.2.1 43 0 rfl)
  have y56 : u 43 56 = u1 43 56 := (hE 43 56 (by omega)).trans (gy.2.1 43 56 rfl)
  have y79 : ∀ k, u6 79 k = u1 79 k := fun k => gy.2.1 79 k (mS_ar rfl k)
  have y81 : ∀ k, u 81 k = u1 81 k := fun k => (hE 81 k (by omega)).trans (gy.2.1 81 k (mS_ar rfl k))
  have y80 : ∀ k, u 80 k = u1 80 k := fun k => (hE 80 k (by omega)).trans (gy.2.1 80 k (mS_ar rfl k))
  have hD' : ∀ j : Nat, (j : Int) < u1 43 0 → u 47 j = u1 79 (105 * v1.toNat + 3 * j) ∧ u 48 j = u1 79 (105 * v1.toNat + 3 * j + 1) ∧ u 49 j = u1 79 (105 * v1.toNat + 3 * j + 2) := fun j hj => by
    have h1 := hD j hj
    rw [hE 47 j (by omega), hE 48 j (by omega), hE 49 j (by omega)]
    exact h1
  obtain ⟨m1, m2⟩ := hKp v1.toNat (by omega) h80 h81
  simp only at m1 m2
  rw [y79] at q8
  refine ⟨⟨⟨fun j hj hn => ?_, fun j hj => ?_⟩, fun t ht => ?_, ?_, ⟨by omega, by omega, fun m hm => ?_⟩, ?_⟩, ?_⟩
  · rw [y0] at hj
    rw [(hD' j hj).2.1] at hn ⊢
    obtain ⟨b0, b1, b2, b3⟩ := m1 j hj hn
    rw [y0, (hD' _ (show ((u1 79 (105 * v1.toNat + 3 * j + 1)).toNat : Int) < u1 43 0 by omega)).1, (hD' _ (show ((u1 79 (105 * v1.toNat + 3 * j + 1)).toNat : Int) < u1 43 0 by omega)).2.2, (hD' j hj).2.2]
    exact ⟨b0, b1, b2, b3⟩
  · rw [y0] at hj
    rw [(hD' j hj).2.2, q8]
    exact m2 j hj
  · rw [q32] at ht; omega
  · intro m hm k80 k81
    rw [y80] at k80
    rw [y81, y56] at k81
    have h := hKp m hm k80 k81
    rw [y0, show u 79 = u1 79 from funext fun k => (hE 79 k (by omega)).trans (y79 k)]
    exact h
  · rw [y81, y56]; exact c3 m hm
  · rw [q32, q8]
    have a79 := g1.1 79 (105 * v1.toNat + 43)
    rw [r79_w (by omega)] at a79
    exact a79.1
  · exact kb_eq hK y0 (funext fun k => (hE 45 k (by omega)).trans (gy.2.1 45 k (mS_ar rfl k)))
def Z79 (i : Nat) (z : Nat → Int) (w : Wd) : Prop := ∀ k, (k < 105 * i + 31 ∨ 105 * i + 105 ≤ k) → w 79 k = z k
def E79 (x w : Wd) : Prop := ∀ c k, c ≠ 79 → w c k = x c k
theorem kp_125 {x : Wd} {i : Nat} {z : Nat → Int} {wk v2 : Int} (h2 : v2 = 105 * i + 41) (hi : i < 2) : ∀ (n : Nat) {w : Wd} {v3 : Int}, 0 ≤ v3 → E79 x w → Z79 i z w → w 79 (105 * i + 43) = wk → PC (f_R_keep_125 n v2 v3 w) (fun _ u => E79 x u ∧ Z79 i z u ∧ u 79 (105 * i + 43) = wk) := by
  intro n
  induction n with
  | zero => intros; exact pc_none
  | succ n ih =>
    intro w v3 i3 hE hZ hk
    rw [f_R_keep_125]
    have w1 := w32_sp (v3 + 1)
    have w2 := w32_sp (v2 + 3)
    have w3 := w32_sp (w32 (v2 + 3) + v3)
    refine pc_ite (fun _ => pc_some ⟨hE, hZ, hk⟩) (fun h => ?_)
    refine pc_gd (fun _ => ?_)
    refine pc_gd (fun _ => ?_)
    refine pc_lw (fun u14 e14 => ?_)
    refine pc_let (fun x15 e15 => ?_)
    refine ih (by omega) (fun c k hc => ?_) (fun k hk2 => ?_) ?_
    · rw [e14, st_c hc]; exact hE c k hc
    · rw [e14, st_k (by omega)]; exact hZ k hk2
    · rw [e14, st_k (by omega)]; exact hk
theorem kp_52 {x : Wd} {i : Nat} {z : Nat → Int} {v2 : Int} (h2 : v2 = 105 * i + 31) (hi : i < 2) : ∀ (n : Nat) {w : Wd} {v3 : Int}, (0 ≤ v3 ∧ v3 ≤ 10) → E79 x w → Z79 i z w → PC (f_R_keep_52 n v2 v3 w) (fun _ u => E79 x u ∧ Z79 i z u ∧ u 79 (105 * i + 43) = x 43 8) := by
  intro n
  induction n with
  | zero => intros; exact pc_none
  | succ n ih =>
    intro w v3 i3 hE hZ
    rw [f_R_keep_52]
    have w1 := w32_sp (v2 + 10)
    have w2 := w32_sp (v2 + v3)
    have w3 := w32_sp (v3 + 1)
    refine pc_ite (fun _ => ?_) (fun h => ?_)
    · refine pc_let (fun x10 e10 => ?_)
      have w4 := w32_sp (x10 + 1)
      have w5 := w32_sp (x10 + 2)
      refine pc_gd (fun _ => ?_)
      refine pc_lw (fun u11 e11 => ?_)
      refine pc_gd (fun _ => ?_)
      refine pc_lw (fun u12 e12 => ?_)
      refine pc_gd (fun _ => ?_)
      refine pc_lw (fun u13 e13 => ?_)
      have hx : (w32 (x10 + 2)).toNat = 105 * i + 43 := by omega
      refine kp_125 (by omega) hi FU (by decide) (fun c k hc => ?_) (fun k hk => ?_) ?_
      · rw [e13, st_c hc, e12, st_c hc, e11, st_c hc]; exact hE c k hc
      · rw [e13, st_k (by omega), e12, st_k (by omega), e11, st_k (by omega)]; exact hZ k hk
      · rw [e13, hx, st_eq, e12, st_c (by decide), e11, st_c (by decide)]
        exact hE 43 8 (by decide)
    · refine pc_gd (fun _ => ?_)
      have nx : ∀ s : Int, PC (f_R_keep_79 (f_R_keep_52 n) v2 v3 (w32 (v2 + v3)) s w) (fun _ u => E79 x u ∧ Z79 i z u ∧ u 79 (105 * i + 43) = x 43 8) := by
        intro s
        unfold f_R_keep_79
        refine pc_gd (fun _ => ?_)
        refine pc_lw (fun u16 e16 => ?_)
        refine pc_let (fun x17 e17 => ?_)
        refine ih (by omega) (fun c k hc => ?_) (fun k hk => ?_)
        · rw [e16, st_c hc]; exact hE c k hc
        · rw [e16, st_k (by omega)]; exact hZ k hk
      exact pc_ite (fun _ => nx 0) (fun _ => nx 1)
theorem keep_pc {w : Wd} {v1 : Int} (h : RS w) : PC (f_R_keep v1 w) (fun _ u => IV u ∧ Kb u) := by
  obtain ⟨hG0, hI⟩ := h
  have hG : G md_R_keep w w := g_self hG0
  unfold f_R_keep
  refine pc_lw (fun u1 e1 => ?_)
  have g1 : G md_R_keep w u1 := g_st hG e1 rfl rfl (show (0 : Int) ≤ 0 ∧ (0 : Int) ≤ 1 by decide)
  have i1 := iv_st hI e1 (Or.inr ⟨rfl, by decide⟩)
  rw [in_e, jc_s]
  refine pc_ite (fun _ => pc_some i1) (fun hr => ?_)
  have hv : 0 ≤ v1 ∧ v1 ≤ 1 := by
    by_cases h2 : 0 ≤ v1 ∧ v1 ≤ 1
    · exact h2
    · rw [if_neg h2] at hr; exact absurd rfl hr
  obtain ⟨⟨⟨n1, n2⟩, hUn, hKp, ⟨c1, c2, c3⟩, hUI⟩, hK⟩ := i1
  have a0 : (0 : Int) ≤ u1 43 0 ∧ u1 43 0 ≤ 10 := g1.1 43 0
  refine pc_gd (fun _ => ?_)
  have nz1 := nz_rg 1
  refine pc_lw (fun u4 e4 => ?_)
  have g4 : G md_R_keep w u4 := g_st g1 e4 rfl rfl (show (0 : Int) ≤ nz 1 ∧ nz 1 ≤ 1 by omega)
  refine pc_gd (fun _ => ?_)
  have t56 : u4 43 56 = u1 43 56 := by rw [e4, st_c (by decide)]
  have a56 : (-2147483648 : Int) ≤ u4 43 56 ∧ u4 43 56 ≤ 2147483647 := g4.1 43 56
  refine pc_lw (fun u5 e5 => ?_)
  have g5 : G md_R_keep w u5 := g_st g4 e5 rfl rfl (show (-2147483648 : Int) ≤ u4 43 56 ∧ u4 43 56 ≤ 2147483647 by omega)
  have sc : ∀ c k, c ≠ 80 → c ≠ 81 → u5 c k = u1 c k := fun c k h1 h2 => by rw [e5, st_c h2, e4, st_c h1]
  have w1 := w32_sp (105 * v1)
  refine pc_let (fun x6 e6 => ?_)
  refine pc_call (pc_and (pc_ok (s_R_lay_43_79 (v2 := x6) (g_self g5) (by omega) (by omega))) (lay79 (k := 105 * v1.toNat) (v2 := x6) (by omega) (by omega) u5)) (fun r7 u8 q => ?_)
  obtain ⟨⟨_, gy⟩, hD, hO⟩ := q
  have w2 := w32_sp (x6 + 31)
  refine pc_let (fun x9 e9 => ?_)
  refine pc_w (kp_52 (x := u8) (i := v1.toNat) (z := u8 79) (by omega) (by omega) FU (by decide) (fun _ _ _ => rfl) (fun _ _ => rfl)) (fun r u q => ?_)
  obtain ⟨hE, hZ, hk⟩ := q
  have tc : ∀ c k, c ≠ 79 → c ≠ 80 → c ≠ 81 → mS md_R_lay_43_79 c k = false → u c k = u1 c k := fun c k h1 h2 h3 hm => (hE c k h1).trans ((gy.2.1 c k hm).trans (sc c k h2 h3))
  have y0 : u 43 0 = u1 43 0 := tc 43 0 (by decide) (by decide) (by decide) rfl
  have y8 : u 43 8 = u1 43 8 := tc 43 8 (by decide) (by decide) (by decide) rfl
  have y32 : u 43 32 = u1 43 32 := tc 43 32 (by decide) (by decide) (by decide) rfl
  have y56 : u 43 56 = u1 43 56 := tc 43 56 (by decide) (by decide) (by decide) rfl
  have y47 : u 47 = u1 47 := funext fun k => tc 47 k (by decide) (by decide) (by decide) (mS_ar rfl k)
  have y48 : u 48 = u1 48 := funext fun k => tc 48 k (by decide) (by decide) (by decide) (mS_ar rfl k)
  have y49 : u 49 = u1 49 := funext fun k => tc 49 k (by decide) (by decide) (by decide) (mS_ar rfl k)
  have y59 : u 59 = u1 59 := funext fun k => tc 59 k (by decide) (by decide) (by decide) (mS_ar rfl k)
  have y45 : u 45 = u1 45 := funext fun k => tc 45 k (by decide) (by decide) (by decide) (mS_ar rfl k)
  have y80 : ∀ k, k ≠ v1.toNat → u 80 k = u1 80 k := fun k hk2 => by rw [hE 80 k (by decide), gy.2.1 80 k (mS_ar rfl k), e5, st_c (by decide), e4, st_k hk2]
  have y81 : ∀ k, k ≠ v1.toNat → u 81 k = u1 81 k := fun k hk2 => by rw [hE 81 k (by decide), gy.2.1 81 k (mS_ar rfl k), e5, st_k hk2, e4, st_c (by decide)]
  have y81v : u 81 v1.toNat = u1 43 56 := by rw [hE 81 _ (by decide), gy.2.1 81 _ (mS_ar rfl _), e5, st_eq]; exact t56
  have z8 : u8 43 8 = u1 43 8 := (gy.2.1 43 8 rfl).trans (sc 43 8 (by decide) (by decide))
  refine ⟨⟨?_, ?_, fun m hm h80 h81 => ?_, ⟨by omega, by omega, fun m hm => ?_⟩, by omega⟩, kb_eq hK y0 y45⟩
  · rw [y0, y8, y47, y48, y49]; exact ⟨n1, n2⟩
  · intro t ht
    rw [y32] at ht
    rw [y0, y8, y32, y59]
    exact hUn t ht
  · rw [y0]
    by_cases hmv : m = v1.toNat
    · subst hmv
      have hB : ∀ j : Nat, j < 10 → u 79 (105 * v1.toNat + 3 * j) = u1 47 j ∧ u 79 (105 * v1.toNat + 3 * j + 1) = u1 48 j ∧ u 79 (105 * v1.toNat + 3 * j + 2) = u1 49 j := fun j hj => by
        have h1 := hD j hj
        rw [hZ _ (by omega), hZ _ (by omega), hZ _ (by omega), h1.1, h1.2.1, h1.2.2]
        exact ⟨sc 47 j (by decide) (by decide), sc 48 j (by decide) (by decide), sc 49 j (by decide) (by decide)⟩
      refine ⟨fun j hj hn => ?_, fun j hj => ?_⟩
      · simp only at hn ⊢
        rw [(hB j (by omega)).2.1] at hn ⊢
        obtain ⟨b0, b1, b2, b3⟩ := n1 j hj hn
        rw [(hB (u1 48 j).toNat (by omega)).1, (hB (u1 48 j).toNat (by omega)).2.2, (hB j (by omega)).2.2]
        exact ⟨b0, b1, b2, b3⟩
      · simp only
        rw [(hB j (by omega)).2.2, hk, z8]
        exact n2 j hj
    · rw [y80 m hmv] at h80
      rw [y81 m hmv, y56] at h81
      obtain ⟨m1, m2⟩ := hKp m hm h80 h81
      simp only at m1 m2
      have hB : ∀ k, 105 * m ≤ k → k < 105 * m + 105 → u 79 k = u1 79 k := fun k h1 h2 => by
        rw [hZ k (by omega), hO k (by omega)]
        exact sc 79 k (by decide) (by decide)
      refine ⟨fun j hj hn => ?_, fun j hj => ?_⟩
      · simp only at hn ⊢
        have e1 : u 79 (105 * m + 3 * j + 1) = u1 79 (105 * m + 3 * j + 1) := hB _ (by omega) (by omega)
        rw [e1] at hn ⊢
        obtain ⟨b0, b1, b2, b3⟩ := m1 j hj hn
        rw [hB (105 * m + 3 * (u1 79 (105 * m + 3 * j + 1)).toNat) (by omega) (by omega), hB (105 * m + 3 * (u1 79 (105 * m + 3 * j + 1)).toNat + 2) (by omega) (by omega), hB (105 * m + 3 * j + 2) (by omega) (by omega)]
        exact ⟨b0, b1, b2, b3⟩
      · simp only
        rw [hB (105 * m + 3 * j + 2) (by omega) (by omega), hB (105 * m + 43) (by omega) (by omega)]
        exact m2 j hj
  · by_cases hmv : m = v1.toNat
    · rw [hmv, y81v]; omega
    · rw [y81 m hmv, y56]; exact c3 m hm
/-! week -/
theorem wk_259 {b : Wd} {k152 : Int → Int → Wd → Option (Int × Wd)} {v1 v3 v4 v5 s0 : Int} {w : Wd} (hG : G md_R_week b w) (hI : IV w ∧ Kb w) (h : s0 ≠ 0 → ((0 ≤ v4 ∧ v4 ≤ 9) ∧ (0 ≤ v5 ∧ v5 ≤ 9) ∧ ∀ u : Wd, u = st w 58 v4.toNat v5 → G md_R_week b u → IV u ∧ Kb u → PC (k152 v1 (w32 (v3 + 1)) u) (fun _ u => IV u ∧ Kb u))) : PC (f_R_week_259 k152 v1 v3 v4 v5 s0 w) (fun _ u => IV u ∧ Kb u) := by
  unfold f_R_week_259
  refine pc_ite (fun _ => pc_some hI) (fun hs => ?_)
  obtain ⟨i4, i5, hk⟩ := h hs
  refine pc_gd (fun _ => ?_)
  refine pc_lw (fun u17 e17 => ?_)
  have g17 : G md_R_week b u17 := g_st hG e17 rfl rfl (show (-1 : Int) ≤ v5 ∧ v5 ≤ 9 by omega)
  refine pc_let (fun x18 e18 => ?_)
  rw [e18]
  exact hk u17 e17 g17 (iv_st hI e17 (Or.inl (by decide)))
theorem wk_152 {b : Wd} {v1 : Int} : ∀ (n : Nat) {w : Wd} {v3 : Int}, G md_R_week b w → IV w ∧ Kb w → BR w → w 43 8 ≤ 59 → PC (f_R_week_152 n v1 v3 w) (fun _ u => IV u ∧ Kb u) := by
  intro n
  induction n with
  | zero => intros; exact pc_none
  | succ n ih =>
    intro w v3 hG hI hB h8
    rw [f_R_week_152]
    have a0 : (0 : Int) ≤ w 43 0 ∧ w 43 0 ≤ 10 := hG.1 43 0
    have x305 : PC (f_R_week_305 w) (fun _ u => IV u ∧ Kb u) := by
      unfold f_R_week_305
      exact pc_call (gw_pc (g_self hG) hI hB h8) (fun r u q => pc_some q)
    refine pc_ite (fun _ => ?_) (fun _ => ?_)
    · refine pc_ite (fun _ => x305) (fun _ => ?_)
      refine pc_call (pc_ok (s_R_guestsThen (g_self hG))) (fun r11 u12 q => ?_)
      have e := g_nil q.2
      subst e
      exact pc_ite (fun _ => x305) (fun _ => pc_some hI)
    · refine pc_gd (fun _ => ?_)
      refine pc_let (fun x13 e13 => ?_)
      refine pc_gd (fun _ => ?_)
      refine pc_let (fun x14 e14 => ?_)
      have x258 : PC (f_R_week_258 (f_R_week_152 n) v1 v3 x13 x14 w) (fun _ u => IV u ∧ Kb u) := by
        unfold f_R_week_258
        exact wk_259 hG hI (fun h => absurd rfl h)
      refine pc_call (one_pc a0) (fun r15 u16 q => ?_)
      obtain ⟨e, q15⟩ := q
      subst e
      refine pc_ite (fun _ => x258) (fun h15 => ?_)
      have i13 := q15 h15
      refine pc_gd (fun _ => ?_)
      rw [isG_e, jc_s]
      refine pc_ite (fun _ => x258) (fun _ => ?_)
      refine pc_gd (fun _ => ?_)
      refine pc_ite (fun _ => ?_) (fun _ => x258)
      refine pc_call (one_pc a0) (fun r21 u22 q => ?_)
      obtain ⟨e, q21⟩ := q
      subst e
      refine pc_ite (fun _ => x258) (fun h21 => ?_)
      have i14 := q21 h21
      refine pc_call (free_pc hG) (fun r23 u24 q => ?_)
      obtain ⟨e, q23⟩ := q
      subst e
      rw [has_e _ (by omega), jc_s]
      cases hb : bt r23 x14.toNat with
      | false => exact pc_ite (fun _ => x258) (fun h => absurd rfl h)
      | true =>
        refine pc_ite (fun h => absurd h (by simp)) (fun _ => ?_)
        have hf := q23 x14.toNat (by omega) hb
        refine pc_gd (fun _ => ?_)
        rw [has_eq, jc_s]
        refine pc_ite (fun _ => x258) (fun _ => ?_)
        refine pc_call (pc_ok (s_R_broughtNow (g_self hG))) (fun r29 u30 q => ?_)
        have e := g_nil q.2
        subst e
        rw [has_eq, jc_s]
        refine pc_ite (fun _ => ?_) (fun _ => x258)
        refine wk_259 hG hI (fun _ => ⟨by omega, by omega, fun u e gu hu => ih gu hu (fun k hk hne => ?_) ?_⟩)
        · have t0 : u 43 0 = u30 43 0 := by rw [e, st_c (by decide)]
          have t47 : ∀ k, u 47 k = u30 47 k := fun k => by rw [e, st_c (by decide)]
          rw [t0] at hk ⊢
          by_cases hkv : k = x13.toNat
          · have e58 : u 58 k = x14 := by rw [e, hkv, st_eq]
            rw [e58, t47]
            exact ⟨i14.1, i14.2, hf.2⟩
          · have e58 : u 58 k = u30 58 k := by rw [e, st_k hkv]
            rw [e58] at hne ⊢
            rw [t47]
            exact hB k hk hne
        · rw [e, st_c (by decide)]; exact h8
theorem wk_119 {b w : Wd} {v1 : Int} (hG : G md_R_week b w) (hI : IV w ∧ Kb w) : PC (f_R_week_119 v1 w) (fun _ u => IV u ∧ Kb u) := by
  unfold f_R_week_119
  rw [fine_e, jc_s]
  refine pc_ite (fun _ => pc_some hI) (fun _ => ?_)
  have a8 : (0 : Int) ≤ w 43 8 ∧ w 43 8 ≤ 60 := hG.1 43 8
  have a0 : (0 : Int) ≤ w 43 0 ∧ w 43 0 ≤ 10 := hG.1 43 0
  refine pc_ite (fun _ => pc_some hI) (fun h => ?_)
  have nb : PC (f_R_nobody w) (fun _ u => ∀ k : Nat, k < 10 → u 58 k = -1) := by
    unfold f_R_nobody
    exact nb_pc FU (by decide) (fun k hk => by omega)
  refine pc_call (pc_and (pc_ok (s_R_nobody (g_self hG))) nb) (fun r7 u8 q => ?_)
  obtain ⟨⟨_, gy⟩, hn⟩ := q
  have t0 : u8 43 0 = w 43 0 := gy.2.1 43 0 rfl
  have t8 : u8 43 8 = w 43 8 := gy.2.1 43 8 rfl
  exact wk_152 FU (g_tr hG gy rfl) (iv_ff hI gy rfl) (fun k hk hne => absurd (hn k (by omega)) hne) (by omega)
theorem wk_39 {b : Wd} : ∀ (n : Nat) {w : Wd} {v1 v2 : Int}, G md_R_week b w → IV w ∧ Kb w → w 43 17 = 52 → PC (f_R_week_39 n v1 v2 w) (fun _ u => IV u ∧ Kb u) := by
  intro n
  induction n with
  | zero => intros; exact pc_none
  | succ n ih =>
    intro w v1 v2 hG hI h17
    rw [f_R_week_39]
    have x100 : PC (f_R_week_100 v1 w) (fun _ u => IV u ∧ Kb u) := by
      unfold f_R_week_100
      refine pc_ite (fun _ => wk_119 hG hI) (fun _ => ?_)
      exact flt_pc hG (fun r u gu _ => wk_119 (g_tr hG gu rfl) (iv_ff hI gu rfl))
    refine pc_ite (fun _ => x100) (fun _ => ?_)
    rw [fine_e, jc_s]
    refine pc_ite (fun _ => x100) (fun _ => ?_)
    refine pc_call (pc_ok (s_R_readLetter (g_self hG) (Or.inl h17))) (fun r37 u38 q => ?_)
    obtain ⟨ir, gy, _⟩ := q
    have g38 : G md_R_week b u38 := g_tr hG gy rfl
    have i38 := iv_ff hI gy rfl
    refine pc_gd (fun _ => ?_)
    refine pc_lw (fun u39 e39 => ?_)
    have g39 : G md_R_week b u39 := g_st g38 e39 rfl rfl (show (-225 : Int) ≤ r37 ∧ r37 ≤ 30 by omega)
    have i39 := iv_st i38 e39 (Or.inl (by decide))
    have t39 : u39 43 17 = 52 := by rw [e39, st_c (by decide)]; exact (gy.2.1 43 17 rfl).trans h17
    refine pc_call (pc_ok (s_R_passes (g_self g39) (by decide) (Or.inl t39) (by decide))) (fun r40 u41 q => ?_)
    have gz := q.2.1
    have g41 : G md_R_week b u41 := g_tr g39 gz rfl
    have i41 := iv_ff i39 gz rfl
    have t41 : u41 43 17 = 52 := (gz.2.1 43 17 rfl).trans t39
    have x77 : ∀ {u : Wd}, G md_R_week b u → IV u ∧ Kb u → u 43 17 = 52 → PC (f_R_week_77 (f_R_week_39 n) v1 u) (fun _ u => IV u ∧ Kb u) := by
      intro u gu hu u17
      unfold f_R_week_77
      refine pc_call (pc_ok (s_R_readLetter (g_self gu) (Or.inl u17))) (fun r42 u43 q => ?_)
      obtain ⟨ir2, gy2, _⟩ := q
      have g43 : G md_R_week b u43 := g_tr gu gy2 rfl
      refine pc_gd (fun _ => ?_)
      refine pc_lw (fun u44 e44 => ?_)
      have g44 : G md_R_week b u44 := g_st g43 e44 rfl rfl (show (-225 : Int) ≤ r42 ∧ r42 ≤ 30 by omega)
      have i44 := iv_st (iv_ff hu gy2 rfl) e44 (Or.inl (by decide))
      have t44 : u44 43 17 = 52 := by rw [e44, st_c (by decide)]; exact (gy2.2.1 43 17 rfl).trans u17
      refine pc_let (fun x45 e45 => ?_)
      refine pc_call (pc_ok (s_R_passes (g_self g44) (by decide) (Or.inl t44) (by decide))) (fun r46 u47 q => ?_)
      exact ih (g_tr g44 q.2.1 rfl) (iv_ff i44 q.2.1 rfl) ((q.2.1.2.1 43 17 rfl).trans t44)
    refine pc_ite (fun _ => ?_) (fun _ => x77 g41 i41 t41)
    exact flt_pc g41 (fun r u gu _ => x77 (g_tr g41 gu rfl) (iv_ff i41 gu rfl) ((gu.2.1 43 17 rfl).trans t41))
theorem week_pc {w : Wd} (h : RS w) : PC (f_R_week w) (fun _ u => IV u ∧ Kb u) := by
  obtain ⟨hG0, hI⟩ := h
  have hG : G md_R_week w w := g_self hG0
  unfold f_R_week
  refine pc_lw (fun u1 e1 => ?_)
  have g1 : G md_R_week w u1 := g_st hG e1 rfl rfl (show (0 : Int) ≤ 0 ∧ (0 : Int) ≤ 1 by decide)
  have i1 := iv_st hI e1 (Or.inr ⟨rfl, by decide⟩)
  have a13 : (0 : Int) ≤ u1 43 13 ∧ u1 43 13 ≤ 80 := g1.1 43 13
  refine pc_call (pc_ok (s_R_begin1_43_51 (g_self g1) (by omega) (by omega))) (fun r2 u3 q => ?_)
  obtain ⟨_, gy, p17, _⟩ := q
  have g3 : G md_R_week w u3 := g_tr g1 gy rfl
  have i3 := iv_ff i1 gy rfl
  refine pc_lw (fun u4 e4 => ?_)
  have g4 : G md_R_week w u4 := g_st g3 e4 rfl rfl (show (0 : Int) ≤ 0 ∧ (0 : Int) ≤ 80 by decide)
  have i4 := iv_st i3 e4 (Or.inr ⟨rfl, by decide⟩)
  have t4 : u4 43 17 = 52 := by rw [e4, st_k (by decide)]; exact p17
  have x38 : ∀ s : Int, PC (f_R_week_38 0 s u4) (fun _ u => IV u ∧ Kb u) := by
    intro s
    unfold f_R_week_38
    exact wk_39 FU g4 i4 t4
  exact pc_ite (fun _ => x38 0) (fun _ => x38 1)
end
section
/-! THE LAW, AS A PURE FUNCTION, over scripts of any calls -/
theorem z_st {w : Wd} {c k : Nat} {z : Int} (h : ∀ c k, (83 ≤ c ∨ 100 ≤ k) → w c k = 0) (hc : c < 83 ∧ k < 100) : ∀ c' k', (83 ≤ c' ∨ 100 ≤ k') → st w c k z c' k' = 0 := by
  intro c' k' h'
  unfold st
  rw [if_neg (by omega)]
  exact h c' k' h'
theorem w0_far : ∀ c k, (83 ≤ c ∨ 100 ≤ k) → w0 c k = 0 := by
  unfold w0 i_R i_E i_K_40 i_K_37 i_S i_M i_W i_D i_P i_L i_F i_N i_T
  repeat (refine z_st ?_ (by decide))
  intro c k _
  rfl
/-- the columns that the start writes -/
def w0C : List Nat := [0, 1, 3, 5, 9, 12, 15, 19, 24, 28, 36, 37, 40, 43]
theorem zc_st {w : Wd} {c k : Nat} {z : Int} (h : ∀ c', c' ∉ w0C → ∀ k', w c' k' = 0) (hc : c ∈ w0C) : ∀ c', c' ∉ w0C → ∀ k', st w c k z c' k' = 0 := fun c' h' k' => (st_c (fun e => h' (by rw [e]; exact hc))).trans (h c' h' k')
theorem w0_col : ∀ c', c' ∉ w0C → ∀ k', w0 c' k' = 0 := by
  unfold w0 i_R i_E i_K_40 i_K_37 i_S i_M i_W i_D i_P i_L i_F i_N i_T
  repeat (refine zc_st ?_ (by decide))
  intro c _ k
  rfl
theorem w0_67 : ∀ k, w0 67 k = 0 := w0_col 67 (by decide)
theorem rgT_all : rgT.all (fun x => match x with | .inl fs => Nat.ble fs.length 99 | .inr p => decide (p.1 ≤ 0 ∧ 0 ≤ p.2)) = true := by decide +kernel
theorem rg_far {c k : Nat} (h : 83 ≤ c ∨ 100 ≤ k) : (rg c k).1 ≤ 0 ∧ 0 ≤ (rg c k).2 := by
  unfold rg
  by_cases h1 : c = 59
  · rw [if_pos h1]; split <;> decide
  · rw [if_neg h1]
    by_cases h2 : c = 79
    · rw [if_pos h2]; split
      · decide
      · split <;> decide
    · rw [if_neg h2]
      cases hr : rgT[c]? with
      | none => exact (by decide : (-9223372036854775808 : Int) ≤ 0 ∧ (0 : Int) ≤ 9223372036854775807)
      | some x =>
        have hx := List.all_eq_true.mp rgT_all x (List.mem_of_getElem? hr)
        have hc : c < rgT.length := (List.getElem?_eq_some_iff.mp hr).1
        have hl : rgT.length = 83 := by decide +kernel
        match x, hx with
        | .inl fs, hx =>
          have h3 := Nat.le_of_ble_eq_true hx
          show (fs.getD k _).1 ≤ 0 ∧ 0 ≤ (fs.getD k _).2
          rw [List.getD_eq_getElem?_getD, List.getElem?_eq_none (by omega)]
          decide
        | .inr p, hx => exact of_decide_eq_true hx
theorem rgC_all : (List.range 83).all (fun c => decide (c ∈ w0C) || (match rgT[c]? with | some (.inr p) => decide (p.1 ≤ 0 ∧ 0 ≤ p.2) | _ => false)) = true := by decide +kernel
theorem rg_col {c k : Nat} (hc : c < 83) (h : c ∉ w0C) : (rg c k).1 ≤ 0 ∧ 0 ≤ (rg c k).2 := by
  unfold rg
  by_cases h1 : c = 59
  · rw [if_pos h1]; split <;> decide
  · rw [if_neg h1]
    by_cases h2 : c = 79
    · rw [if_pos h2]; split
      · decide
      · split <;> decide
    · rw [if_neg h2]
      have hx : (decide (c ∈ w0C) || (match rgT[c]? with | some (.inr p) => decide (p.1 ≤ 0 ∧ 0 ≤ p.2) | _ => false)) = true := List.all_eq_true.mp rgC_all c (List.mem_range.mpr hc)
      rw [decide_eq_false h, Bool.false_or] at hx
      cases hr : rgT[c]? with
      | none => rw [hr] at hx; cases hx
      | some x =>
        rw [hr] at hx
        cases x with
        | inl fs => cases hx
        | inr p => exact of_decide_eq_true hx
theorem w0_rgb : w0C.all (fun c => (List.range 100).all fun k => decide ((rg c k).1 ≤ w0 c k ∧ w0 c k ≤ (rg c k).2)) = true := by decide +kernel
theorem w0_G : G [] w0 w0 := by
  refine ⟨fun c k => ?_, fun _ _ _ => rfl, fun p q hp hq _ hn => absurd (w0_67 p) hn, fun p hp => by rw [w0_67]; exact Int.le_of_eq (by decide +kernel)⟩
  by_cases h : 83 ≤ c ∨ 100 ≤ k
  · rw [w0_far c k h]; exact rg_far h
  · by_cases hcc : c ∈ w0C
    · exact of_decide_eq_true (List.all_eq_true.mp (List.all_eq_true.mp w0_rgb c hcc) k (List.mem_range.mpr (by omega)))
    · rw [w0_col c hcc k]; exact rg_col (by omega) hcc
theorem w0_0 : w0 43 0 = 0 := by decide +kernel
theorem w0_8 : w0 43 8 = 0 := by decide +kernel
theorem w0_32 : w0 43 32 = 0 := by decide +kernel
theorem w0_56 : w0 43 56 = 0 := by decide +kernel
theorem w0_80 : ∀ m : Nat, m < 2 → w0 80 m = 0 ∧ w0 81 m = 0 := by
  intro m hm
  match m, hm with
  | 0, _ => decide +kernel
  | 1, _ => decide +kernel
  | m + 2, h => omega
theorem w0_RS : RS w0 := by
  refine ⟨w0_G, ⟨⟨fun j hj => ?_, fun j hj => ?_⟩, fun t ht => ?_, fun m hm h80 => absurd (w0_80 m hm).1 h80, ⟨by rw [w0_56]; decide, by rw [w0_56, w0_0]; decide, fun m hm => by rw [(w0_80 m hm).2, w0_56]; decide⟩, by rw [w0_32, w0_8]; decide⟩, fun a c ha => ?_, fun a q ha => ?_⟩
  · rw [w0_0] at hj; omega
  · rw [w0_0] at hj; omega
  · rw [w0_32] at ht; omega
  · rw [w0_0] at ha; omega
  · rw [w0_0] at ha; omega
theorem e_E_sign {w : Wd} {v1 : Int} (h : RS w) (i_v1 : ((-2147483648 : Int) ≤ v1 ∧ v1 ≤ 2147483647)) : OK (f_E_sign v1 w) (fun r u => G md_E_sign w u ∧ RS u ∧ ((((76 : Int) < (w 1 1)) ∧ ((r = (-1 : Int)) ∧ ((u 1 1) = (w 1 1)))) ∨ (((w 1 1) ≤ (76 : Int)) ∧ ((r = (u 1 1)) ∧ ((u 1 1) = ((w 1 1) + (4 : Int))))))) := ok_w (s_E_sign (g_self h.1) i_v1) (fun _ _ q => ⟨q.2.1, rs_g h q.2.1 rfl, q.2.2⟩)
theorem e_R_sign {w : Wd} {v1 : Int} (h : RS w) (i_v1 : ((-2147483648 : Int) ≤ v1 ∧ v1 ≤ 2147483647)) : OK (f_R_sign v1 w) (fun r u => G md_R_sign w u ∧ RS u ∧ ((((76 : Int) < (w 43 13)) ∧ ((r = (-1 : Int)) ∧ ((u 43 13) = (w 43 13)))) ∨ (((w 43 13) ≤ (76 : Int)) ∧ ((r = (u 43 13)) ∧ ((u 43 13) = ((w 43 13) + (4 : Int))))))) := ok_w (s_R_sign (g_self h.1) i_v1) (fun _ _ q => ⟨q.2.1, rs_g h q.2.1 rfl, q.2.2⟩)
theorem e_E_end {w : Wd} {v1 : Int} (h : RS w) (i_v1 : ((-2147483648 : Int) ≤ v1 ∧ v1 ≤ 2147483647)) : OK (f_E_end v1 w) (fun r u => G md_E_end w u ∧ RS u ∧ ((((v1 < (0 : Int)) ∨ ((w 1 1) < v1)) ∧ ((r = (0 : Int)) ∧ ((u 1 1) = (w 1 1)))) ∨ (((0 : Int) ≤ v1) ∧ ((v1 ≤ (w 1 1)) ∧ ((r = (1 : Int)) ∧ ((u 1 1) = v1)))))) := ok_w (s_E_end (g_self h.1) i_v1) (fun _ _ q => ⟨q.2.1, rs_g h q.2.1 rfl, q.2.2⟩)
theorem e_R_end {w : Wd} {v1 : Int} (h : RS w) (i_v1 : ((-2147483648 : Int) ≤ v1 ∧ v1 ≤ 2147483647)) : OK (f_R_end v1 w) (fun r u => G md_R_end w u ∧ RS u ∧ ((((v1 < (0 : Int)) ∨ ((w 43 13) < v1)) ∧ ((r = (0 : Int)) ∧ ((u 43 13) = (w 43 13)))) ∨ (((0 : Int) ≤ v1) ∧ ((v1 ≤ (w 43 13)) ∧ ((r = (1 : Int)) ∧ ((u 43 13) = v1)))))) := ok_w (s_R_end (g_self h.1) i_v1) (fun _ _ q => ⟨q.2.1, rs_g h q.2.1 rfl, q.2.2⟩)
theorem e_E_land {w : Wd} (h : RS w) : OK (f_E_land w) (fun r u => G md_E_land w u ∧ RS u ∧ ((u 1 1) = (0 : Int))) := ok_w (s_E_land (g_self h.1)) (fun _ _ q => ⟨q.2.1, rs_g h q.2.1 rfl, q.2.2⟩)
theorem e_R_land {w : Wd} (h : RS w) : OK (f_R_land w) (fun r u => G md_R_land w u ∧ RS u ∧ ((u 43 13) = (0 : Int))) := ok_w (ok_pc (s_R_land (g_self h.1)) (land_pc h)) (fun _ _ q => ⟨q.1.2.1, ⟨g_self q.1.2.1, q.2⟩, q.1.2.2⟩)
theorem e_E_rule {w : Wd} (h : RS w) : OK (f_E_rule w) (fun r u => G md_E_rule w u ∧ RS u ∧ ((u 1 1) = (0 : Int))) := ok_w (s_E_rule (g_self h.1)) (fun _ _ q => ⟨q.2.1, rs_g h q.2.1 rfl, q.2.2⟩)
theorem e_R_rule {w : Wd} (h : RS w) : OK (f_R_rule w) (fun r u => G md_R_rule w u ∧ RS u ∧ ((u 43 13) = (0 : Int))) := ok_w (s_R_rule (g_self h.1)) (fun _ _ q => ⟨q.2.1, rs_g h q.2.1 rfl, q.2.2⟩)
theorem e_E_of {w : Wd} {v1 v2 : Int} (h : RS w) (i_v1 : ((-2147483648 : Int) ≤ v1 ∧ v1 ≤ 2147483647)) (i_v2 : ((-2147483648 : Int) ≤ v2 ∧ v2 ≤ 2147483647)) : OK (f_E_of v1 v2 w) (fun r u => G md_E_of w u ∧ RS u) := ok_w (s_E_of (g_self h.1) i_v1 i_v2) (fun _ _ q => ⟨q.2, rs_g h q.2 rfl⟩)
theorem e_R_of {w : Wd} {v1 v2 : Int} (h : RS w) (i_v1 : ((-2147483648 : Int) ≤ v1 ∧ v1 ≤ 2147483647)) (i_v2 : ((-2147483648 : Int) ≤ v2 ∧ v2 ≤ 2147483647)) : OK (f_R_of v1 v2 w) (fun r u => G md_R_of w u ∧ RS u) := ok_w (s_R_of (g_self h.1) i_v1 i_v2) (fun _ _ q => ⟨q.2, rs_g h q.2 rfl⟩)
theorem e_E_law {w : Wd} {v1 v2 : Int} (h : RS w) (i_v1 : ((-2147483648 : Int) ≤ v1 ∧ v1 ≤ 2147483647)) (i_v2 : ((-2147483648 : Int) ≤ v2 ∧ v2 ≤ 2147483647)) : OK (f_E_law v1 v2 w) (fun r u => G md_E_law w u ∧ RS u) := ok_w (s_E_law (g_self h.1) i_v1 i_v2) (fun _ _ q => ⟨q.2, rs_g h q.2 rfl⟩)
theorem e_R_law {w : Wd} {v1 v2 : Int} (h : RS w) (i_v1 : ((-2147483648 : Int) ≤ v1 ∧ v1 ≤ 2147483647)) (i_v2 : ((-2147483648 : Int) ≤ v2 ∧ v2 ≤ 2147483647)) : OK (f_R_law v1 v2 w) (fun r u => G md_R_law w u ∧ RS u) := ok_w (s_R_law (g_self h.1) i_v1 i_v2) (fun _ _ q => ⟨q.2, rs_g h q.2 rfl⟩)
theorem e_E_meet {w : Wd} {v1 v2 v3 : Int} (h : RS w) (i_v1 : ((-2147483648 : Int) ≤ v1 ∧ v1 ≤ 2147483647)) (i_v2 : ((-2147483648 : Int) ≤ v2 ∧ v2 ≤ 2147483647)) (i_v3 : ((0 : Int) ≤ v3 ∧ v3 ≤ 1)) : OK (f_E_meet v1 v2 v3 w) (fun r u => G md_E_meet w u ∧ RS u) := ok_w (s_E_meet (g_self h.1) i_v1 i_v2 i_v3) (fun _ _ q => ⟨q.2, rs_g h q.2 rfl⟩)
theorem e_R_meet {w : Wd} {v1 v2 v3 : Int} (h : RS w) (i_v1 : ((-2147483648 : Int) ≤ v1 ∧ v1 ≤ 2147483647)) (i_v2 : ((-2147483648 : Int) ≤ v2 ∧ v2 ≤ 2147483647)) (i_v3 : ((0 : Int) ≤ v3 ∧ v3 ≤ 1)) : OK (f_R_meet v1 v2 v3 w) (fun r u => G md_R_meet w u ∧ RS u) := ok_w (ok_pc (s_R_meet (g_self h.1) i_v1 i_v2 i_v3) (meet_pc h)) (fun _ _ q => ⟨q.1.2, ⟨g_self q.1.2, q.2⟩⟩)
theorem e_E_hide {w : Wd} {v1 v2 : Int} (h : RS w) (i_v1 : ((-2147483648 : Int) ≤ v1 ∧ v1 ≤ 2147483647)) (i_v2 : ((0 : Int) ≤ v2 ∧ v2 ≤ 1)) : OK (f_E_hide v1 v2 w) (fun r u => G md_E_hide w u ∧ RS u) := ok_w (s_E_hide (g_self h.1) i_v1 i_v2) (fun _ _ q => ⟨q.2, rs_g h q.2 rfl⟩)
theorem e_R_hide {w : Wd} {v1 v2 : Int} (h : RS w) (i_v1 : ((-2147483648 : Int) ≤ v1 ∧ v1 ≤ 2147483647)) (i_v2 : ((0 : Int) ≤ v2 ∧ v2 ≤ 1)) : OK (f_R_hide v1 v2 w) (fun r u => G md_R_hide w u ∧ RS u) := ok_w (s_R_hide (g_self h.1) i_v1 i_v2) (fun _ _ q => ⟨q.2, rs_g h q.2 rfl⟩)
theorem e_E_baby {w : Wd} {v1 : Int} (h : RS w) (i_v1 : ((-2147483648 : Int) ≤ v1 ∧ v1 ≤ 2147483647)) : OK (f_E_baby v1 w) (fun r u => G md_E_baby w u ∧ RS u) := ok_w (s_E_baby (g_self h.1) i_v1) (fun _ _ q => ⟨q.2, rs_g h q.2 rfl⟩)
theorem e_R_baby {w : Wd} {v1 : Int} (h : RS w) (i_v1 : ((-2147483648 : Int) ≤ v1 ∧ v1 ≤ 2147483647)) : OK (f_R_baby v1 w) (fun r u => G md_R_baby w u ∧ RS u) := ok_w (ok_pc (s_R_baby (g_self h.1) i_v1) (baby_pc i_v1 h)) (fun _ _ q => ⟨q.1.2, ⟨g_self q.1.2, q.2⟩⟩)
theorem e_E_sheet {w : Wd} {v1 v2 v3 v4 : Int} (h : RS w) (i_v1 : ((-2147483648 : Int) ≤ v1 ∧ v1 ≤ 2147483647)) (i_v2 : ((-2147483648 : Int) ≤ v2 ∧ v2 ≤ 2147483647)) (i_v3 : ((-2147483648 : Int) ≤ v3 ∧ v3 ≤ 2147483647)) (i_v4 : ((-2147483648 : Int) ≤ v4 ∧ v4 ≤ 2147483647)) : OK (f_E_sheet v1 v2 v3 v4 w) (fun r u => G md_E_sheet w u ∧ RS u) := ok_w (s_E_sheet (g_self h.1) i_v1 i_v2 i_v3 i_v4) (fun _ _ q => ⟨q.2, rs_g h q.2 rfl⟩)
theorem e_R_sheet {w : Wd} {v1 v2 v3 v4 : Int} (h : RS w) (i_v1 : ((-2147483648 : Int) ≤ v1 ∧ v1 ≤ 2147483647)) (i_v2 : ((-2147483648 : Int) ≤ v2 ∧ v2 ≤ 2147483647)) (i_v3 : ((-2147483648 : Int) ≤ v3 ∧ v3 ≤ 2147483647)) (i_v4 : ((-2147483648 : Int) ≤ v4 ∧ v4 ≤ 2147483647)) : OK (f_R_sheet v1 v2 v3 v4 w) (fun r u => G md_R_sheet w u ∧ RS u) := ok_w (s_R_sheet (g_self h.1) i_v1 i_v2 i_v3 i_v4) (fun _ _ q => ⟨q.2, rs_g h q.2 rfl⟩)
theorem e_E_week {w : Wd} (h : RS w) : OK (f_E_week w) (fun r u => G md_E_week w u ∧ RS u ∧ ((u 1 1) = (0 : Int))) := ok_w (s_E_week (g_self h.1)) (fun _ _ q => ⟨q.2.1, rs_g h q.2.1 rfl, q.2.2⟩)
theorem e_R_week {w : Wd} (h : RS w) : OK (f_R_week w) (fun r u => G md_R_week w u ∧ RS u ∧ ((u 43 32) ≤ (u 43 8)) ∧ ((u 43 13) = (0 : Int))) := ok_w (ok_pc (s_R_week (g_self h.1) h.2.1.2.2.2.2) (week_pc h)) (fun _ _ q => ⟨q.1.2.1, ⟨g_self q.1.2.1, q.2⟩, q.1.2.2⟩)
theorem e_E_goes {w : Wd} {v1 : Int} (h : RS w) (i_v1 : ((-2147483648 : Int) ≤ v1 ∧ v1 ≤ 2147483647)) : OK (f_E_goes v1 w) (fun r u => G md_E_goes w u ∧ RS u) := ok_w (s_E_goes (g_self h.1) i_v1) (fun _ _ q => ⟨q.2, rs_g h q.2 rfl⟩)
theorem e_R_goes {w : Wd} {v1 : Int} (h : RS w) (i_v1 : ((-2147483648 : Int) ≤ v1 ∧ v1 ≤ 2147483647)) : OK (f_R_goes v1 w) (fun r u => G md_R_goes w u ∧ RS u ∧ ((u 43 32) ≤ (u 43 8))) := ok_w (ok_pc (s_R_goes (g_self h.1) i_v1 h.2.1.2.2.2.2) (goes_pc h)) (fun _ _ q => ⟨q.1.2.1, ⟨g_self q.1.2.1, q.2⟩, q.1.2.2⟩)
theorem e_E_undo {w : Wd} (h : RS w) : OK (f_E_undo w) (fun r u => G md_E_undo w u ∧ RS u) := ok_w (s_E_undo (g_self h.1)) (fun _ _ q => ⟨q.2, rs_g h q.2 rfl⟩)
theorem e_R_undo {w : Wd} (h : RS w) : OK (f_R_undo w) (fun r u => G md_R_undo w u ∧ RS u ∧ ((u 43 32) ≤ (u 43 8))) := ok_w (ok_pc (s_R_undo (g_self h.1) h.2.1.2.2.2.2) (undo_pc h)) (fun _ _ q => ⟨q.1.2.1, ⟨g_self q.1.2.1, q.2⟩, q.1.2.2⟩)
theorem e_E_can {w : Wd} (h : RS w) : OK (f_E_can w) (fun r u => G md_E_can w u ∧ RS u) := ok_w (s_E_can (g_self h.1)) (fun _ _ q => ⟨q.2, rs_g h q.2 rfl⟩)
theorem e_R_can {w : Wd} (h : RS w) : OK (f_R_can w) (fun r u => G md_R_can w u ∧ RS u) := ok_w (s_R_can (g_self h.1)) (fun _ _ q => ⟨q.2, rs_g h q.2 rfl⟩)
theorem e_E_picks {w : Wd} {v1 : Int} (h : RS w) (i_v1 : ((-2147483648 : Int) ≤ v1 ∧ v1 ≤ 2147483647)) : OK (f_E_picks v1 w) (fun r u => G md_E_picks w u ∧ RS u) := ok_w (s_E_picks (g_self h.1) i_v1) (fun _ _ q => ⟨q.2, rs_g h q.2 rfl⟩)
theorem e_R_picks {w : Wd} {v1 : Int} (h : RS w) (i_v1 : ((-2147483648 : Int) ≤ v1 ∧ v1 ≤ 2147483647)) : OK (f_R_picks v1 w) (fun r u => G md_R_picks w u ∧ RS u) := ok_w (s_R_picks (g_self h.1) i_v1) (fun _ _ q => ⟨q.2, rs_g h q.2 rfl⟩)
theorem e_E_pairs {w : Wd} (h : RS w) : OK (f_E_pairs w) (fun r u => G md_E_pairs w u ∧ RS u) := ok_w (s_E_pairs (g_self h.1)) (fun _ _ q => ⟨q.2, rs_g h q.2 rfl⟩)
theorem e_R_pairs {w : Wd} (h : RS w) : OK (f_R_pairs w) (fun r u => G md_R_pairs w u ∧ RS u) := ok_w (s_R_pairs (g_self h.1)) (fun _ _ q => ⟨q.2, rs_g h q.2 rfl⟩)
theorem e_E_bars {w : Wd} (h : RS w) : OK (f_E_bars w) (fun r u => G md_E_bars w u ∧ RS u) := ok_w (s_E_bars (g_self h.1)) (fun _ _ q => ⟨q.2, rs_g h q.2 rfl⟩)
theorem e_R_bars {w : Wd} (h : RS w) : OK (f_R_bars w) (fun r u => G md_R_bars w u ∧ RS u) := ok_w (s_R_bars (g_self h.1)) (fun _ _ q => ⟨q.2, rs_g h q.2 rfl⟩)
theorem e_E_states {w : Wd} (h : RS w) : OK (f_E_states w) (fun r u => G md_E_states w u ∧ RS u) := ok_w (s_E_states (g_self h.1)) (fun _ _ q => ⟨q.2, rs_g h q.2 rfl⟩)
theorem e_R_states {w : Wd} (h : RS w) : OK (f_R_states w) (fun r u => G md_R_states w u ∧ RS u) := ok_w (s_R_states (g_self h.1)) (fun _ _ q => ⟨q.2, rs_g h q.2 rfl⟩)
theorem e_E_most {w : Wd} {v1 : Int} (h : RS w) (i_v1 : ((-2147483648 : Int) ≤ v1 ∧ v1 ≤ 2147483647)) : OK (f_E_most v1 w) (fun r u => G md_E_most w u ∧ RS u) := ok_w (s_E_most (g_self h.1) i_v1) (fun _ _ q => ⟨q.2, rs_g h q.2 rfl⟩)
theorem e_R_most {w : Wd} {v1 : Int} (h : RS w) (i_v1 : ((-2147483648 : Int) ≤ v1 ∧ v1 ≤ 2147483647)) : OK (f_R_most v1 w) (fun r u => G md_R_most w u ∧ RS u) := ok_w (s_R_most (g_self h.1) i_v1) (fun _ _ q => ⟨q.2, rs_g h q.2 rfl⟩)
theorem e_E_reach {w : Wd} {v1 : Int} (h : RS w) (i_v1 : ((-2147483648 : Int) ≤ v1 ∧ v1 ≤ 2147483647)) : OK (f_E_reach v1 w) (fun r u => G md_E_reach w u ∧ RS u) := ok_w (s_E_reach (g_self h.1) i_v1) (fun _ _ q => ⟨q.2, rs_g h q.2 rfl⟩)
theorem e_R_reach {w : Wd} {v1 : Int} (h : RS w) (i_v1 : ((-2147483648 : Int) ≤ v1 ∧ v1 ≤ 2147483647)) : OK (f_R_reach v1 w) (fun r u => G md_R_reach w u ∧ RS u) := ok_w (s_R_reach (g_self h.1) i_v1) (fun _ _ q => ⟨q.2, rs_g h q.2 rfl⟩)
theorem e_E_fewest {w : Wd} {v1 : Int} (h : RS w) (i_v1 : ((-2147483648 : Int) ≤ v1 ∧ v1 ≤ 2147483647)) : OK (f_E_fewest v1 w) (fun r u => G md_E_fewest w u ∧ RS u) := ok_w (s_E_fewest (g_self h.1) i_v1) (fun _ _ q => ⟨q.2, rs_g h q.2 rfl⟩)
theorem e_R_fewest {w : Wd} {v1 : Int} (h : RS w) (i_v1 : ((-2147483648 : Int) ≤ v1 ∧ v1 ≤ 2147483647)) : OK (f_R_fewest v1 w) (fun r u => G md_R_fewest w u ∧ RS u) := ok_w (s_R_fewest (g_self h.1) i_v1) (fun _ _ q => ⟨q.2, rs_g h q.2 rfl⟩)
theorem e_E_crowd {w : Wd} (h : RS w) : OK (f_E_crowd w) (fun r u => G md_E_crowd w u ∧ RS u) := ok_w (s_E_crowd (g_self h.1)) (fun _ _ q => ⟨q.2, rs_g h q.2 rfl⟩)
theorem e_R_crowd {w : Wd} (h : RS w) : OK (f_R_crowd w) (fun r u => G md_R_crowd w u ∧ RS u) := ok_w (s_R_crowd (g_self h.1)) (fun _ _ q => ⟨q.2, rs_g h q.2 rfl⟩)
theorem e_E_both {w : Wd} {v1 v2 v3 : Int} (h : RS w) (i_v1 : ((-2147483648 : Int) ≤ v1 ∧ v1 ≤ 2147483647)) (i_v2 : ((-2147483648 : Int) ≤ v2 ∧ v2 ≤ 2147483647)) (i_v3 : ((-2147483648 : Int) ≤ v3 ∧ v3 ≤ 2147483647)) : OK (f_E_both v1 v2 v3 w) (fun r u => G md_E_both w u ∧ RS u) := ok_w (s_E_both (g_self h.1) i_v1 i_v2 i_v3) (fun _ _ q => ⟨q.2, rs_g h q.2 rfl⟩)
theorem e_R_both {w : Wd} {v1 v2 v3 : Int} (h : RS w) (i_v1 : ((-2147483648 : Int) ≤ v1 ∧ v1 ≤ 2147483647)) (i_v2 : ((-2147483648 : Int) ≤ v2 ∧ v2 ≤ 2147483647)) (i_v3 : ((-2147483648 : Int) ≤ v3 ∧ v3 ≤ 2147483647)) : OK (f_R_both v1 v2 v3 w) (fun r u => G md_R_both w u ∧ RS u) := ok_w (s_R_both (g_self h.1) i_v1 i_v2 i_v3) (fun _ _ q => ⟨q.2, rs_g h q.2 rfl⟩)
theorem e_E_last {w : Wd} (h : RS w) : OK (f_E_last w) (fun r u => G md_E_last w u ∧ RS u) := ok_w (s_E_last (g_self h.1)) (fun _ _ q => ⟨q.2, rs_g h q.2 rfl⟩)
theorem e_R_last {w : Wd} (h : RS w) : OK (f_R_last w) (fun r u => G md_R_last w u ∧ RS u) := ok_w (s_R_last (g_self h.1)) (fun _ _ q => ⟨q.2, rs_g h q.2 rfl⟩)
theorem e_E_begin {w : Wd} (h : RS w) : OK (f_E_begin w) (fun r u => G md_E_begin w u ∧ RS u) := ok_w (s_E_begin (g_self h.1)) (fun _ _ q => ⟨q.2, rs_g h q.2 rfl⟩)
theorem e_R_begin2 {w : Wd} (h : RS w) : OK (f_R_begin2 w) (fun r u => G md_R_begin2 w u ∧ RS u) := ok_w (s_R_begin2 (g_self h.1)) (fun _ _ q => ⟨q.2, rs_g h q.2 rfl⟩)
theorem e_E_cheap {w : Wd} {v1 : Int} (h : RS w) (i_v1 : ((-2147483648 : Int) ≤ v1 ∧ v1 ≤ 2147483647)) : OK (f_E_cheap v1 w) (fun r u => G md_E_cheap w u ∧ RS u) := ok_w (s_E_cheap (g_self h.1) i_v1) (fun _ _ q => ⟨q.2, rs_g h q.2 rfl⟩)
theorem e_R_cheap {w : Wd} {v1 : Int} (h : RS w) (i_v1 : ((-2147483648 : Int) ≤ v1 ∧ v1 ≤ 2147483647)) : OK (f_R_cheap v1 w) (fun r u => G md_R_cheap w u ∧ RS u) := ok_w (s_R_cheap (g_self h.1) i_v1) (fun _ _ q => ⟨q.2, rs_g h q.2 rfl⟩)
theorem e_E_stays {w : Wd} {v1 : Int} (h : RS w) (i_v1 : ((-2147483648 : Int) ≤ v1 ∧ v1 ≤ 2147483647)) : OK (f_E_stays v1 w) (fun r u => G md_E_stays w u ∧ RS u) := ok_w (s_E_stays (g_self h.1) i_v1) (fun _ _ q => ⟨q.2, rs_g h q.2 rfl⟩)
theorem e_R_stays {w : Wd} {v1 : Int} (h : RS w) (i_v1 : ((-2147483648 : Int) ≤ v1 ∧ v1 ≤ 2147483647)) : OK (f_R_stays v1 w) (fun r u => G md_R_stays w u ∧ RS u) := ok_w (s_R_stays (g_self h.1) i_v1) (fun _ _ q => ⟨q.2, rs_g h q.2 rfl⟩)
theorem e_E_soonest {w : Wd} {v1 : Int} (h : RS w) (i_v1 : ((-2147483648 : Int) ≤ v1 ∧ v1 ≤ 2147483647)) : OK (f_E_soonest v1 w) (fun r u => G md_E_soonest w u ∧ RS u) := ok_w (s_E_soonest (g_self h.1) i_v1) (fun _ _ q => ⟨q.2, rs_g h q.2 rfl⟩)
theorem e_R_soonest {w : Wd} {v1 : Int} (h : RS w) (i_v1 : ((-2147483648 : Int) ≤ v1 ∧ v1 ≤ 2147483647)) : OK (f_R_soonest v1 w) (fun r u => G md_R_soonest w u ∧ RS u) := ok_w (s_R_soonest (g_self h.1) i_v1) (fun _ _ q => ⟨q.2, rs_g h q.2 rfl⟩)
theorem e_E_worth {w : Wd} {v1 : Int} (h : RS w) (i_v1 : ((-2147483648 : Int) ≤ v1 ∧ v1 ≤ 2147483647)) : OK (f_E_worth v1 w) (fun r u => G md_E_worth w u ∧ RS u) := ok_w (s_E_worth (g_self h.1) i_v1) (fun _ _ q => ⟨q.2, rs_g h q.2 rfl⟩)
theorem e_R_worth {w : Wd} {v1 : Int} (h : RS w) (i_v1 : ((-2147483648 : Int) ≤ v1 ∧ v1 ≤ 2147483647)) : OK (f_R_worth v1 w) (fun r u => G md_R_worth w u ∧ RS u) := ok_w (s_R_worth (g_self h.1) i_v1) (fun _ _ q => ⟨q.2, rs_g h q.2 rfl⟩)
theorem e_E_needed {w : Wd} (h : RS w) : OK (f_E_needed w) (fun r u => G md_E_needed w u ∧ RS u) := ok_w (s_E_needed (g_self h.1)) (fun _ _ q => ⟨q.2, rs_g h q.2 rfl⟩)
theorem e_R_needed {w : Wd} (h : RS w) : OK (f_R_needed w) (fun r u => G md_R_needed w u ∧ RS u) := ok_w (s_R_needed (g_self h.1)) (fun _ _ q => ⟨q.2, rs_g h q.2 rfl⟩)
theorem e_E_never {w : Wd} (h : RS w) : OK (f_E_never w) (fun r u => G md_E_never w u ∧ RS u) := ok_w (s_E_never (g_self h.1)) (fun _ _ q => ⟨q.2, rs_g h q.2 rfl⟩)
theorem e_R_never {w : Wd} (h : RS w) : OK (f_R_never w) (fun r u => G md_R_never w u ∧ RS u) := ok_w (s_R_never (g_self h.1)) (fun _ _ q => ⟨q.2, rs_g h q.2 rfl⟩)
theorem e_E_bound {w : Wd} (h : RS w) : OK (f_E_bound w) (fun r u => G md_E_bound w u ∧ RS u) := ok_w (s_E_bound (g_self h.1)) (fun _ _ q => ⟨q.2, rs_g h q.2 rfl⟩)
theorem e_R_bound {w : Wd} (h : RS w) : OK (f_R_bound w) (fun r u => G md_R_bound w u ∧ RS u) := ok_w (s_R_bound (g_self h.1)) (fun _ _ q => ⟨q.2, rs_g h q.2 rfl⟩)
theorem e_E_far {w : Wd} {v1 : Int} (h : RS w) (i_v1 : ((-2147483648 : Int) ≤ v1 ∧ v1 ≤ 2147483647)) : OK (f_E_far v1 w) (fun r u => G md_E_far w u ∧ RS u) := ok_w (s_E_far (g_self h.1) i_v1) (fun _ _ q => ⟨q.2, rs_g h q.2 rfl⟩)
theorem e_R_far {w : Wd} {v1 : Int} (h : RS w) (i_v1 : ((-2147483648 : Int) ≤ v1 ∧ v1 ≤ 2147483647)) : OK (f_R_far v1 w) (fun r u => G md_R_far w u ∧ RS u) := ok_w (s_R_far (ks_kb h.2.2) (g_self h.1) i_v1) (fun _ _ q => ⟨q.2, rs_g h q.2 rfl⟩)
theorem e_E_line {w : Wd} {v1 : Int} (h : RS w) (i_v1 : ((-2147483648 : Int) ≤ v1 ∧ v1 ≤ 2147483647)) : OK (f_E_line v1 w) (fun r u => G md_E_line w u ∧ RS u) := ok_w (s_E_line (g_self h.1) i_v1) (fun _ _ q => ⟨q.2, rs_g h q.2 rfl⟩)
theorem e_R_line {w : Wd} {v1 : Int} (h : RS w) (i_v1 : ((-2147483648 : Int) ≤ v1 ∧ v1 ≤ 2147483647)) : OK (f_R_line v1 w) (fun r u => G md_R_line w u ∧ RS u) := ok_w (s_R_line (ad_iv h.2.1 (h.1.1 43 0).2) (g_self h.1) i_v1) (fun _ _ q => ⟨q.2, rs_g h q.2 rfl⟩)
theorem e_E_led {w : Wd} {v1 : Int} (h : RS w) (i_v1 : ((-2147483648 : Int) ≤ v1 ∧ v1 ≤ 2147483647)) : OK (f_E_led v1 w) (fun r u => G md_E_led w u ∧ RS u) := ok_w (s_E_led (g_self h.1) i_v1) (fun _ _ q => ⟨q.2, rs_g h q.2 rfl⟩)
theorem e_R_led {w : Wd} {v1 : Int} (h : RS w) (i_v1 : ((-2147483648 : Int) ≤ v1 ∧ v1 ≤ 2147483647)) : OK (f_R_led v1 w) (fun r u => G md_R_led w u ∧ RS u) := ok_w (s_R_led (ad_iv h.2.1 (h.1.1 43 0).2) (g_self h.1) i_v1) (fun _ _ q => ⟨q.2, rs_g h q.2 rfl⟩)
theorem e_E_was {w : Wd} {v1 : Int} (h : RS w) (i_v1 : ((-2147483648 : Int) ≤ v1 ∧ v1 ≤ 2147483647)) : OK (f_E_was v1 w) (fun r u => G md_E_was w u ∧ RS u) := ok_w (s_E_was (g_self h.1) i_v1) (fun _ _ q => ⟨q.2, rs_g h q.2 rfl⟩)
theorem e_R_was {w : Wd} {v1 : Int} (h : RS w) (i_v1 : ((-2147483648 : Int) ≤ v1 ∧ v1 ≤ 2147483647)) : OK (f_R_was v1 w) (fun r u => G md_R_was w u ∧ RS u) := ok_w (s_R_was (g_self h.1) i_v1) (fun _ _ q => ⟨q.2, rs_g h q.2 rfl⟩)
theorem e_E_common {w : Wd} {v1 v2 : Int} (h : RS w) (i_v1 : ((-2147483648 : Int) ≤ v1 ∧ v1 ≤ 2147483647)) (i_v2 : ((-2147483648 : Int) ≤ v2 ∧ v2 ≤ 2147483647)) : OK (f_E_common v1 v2 w) (fun r u => G md_E_common w u ∧ RS u) := ok_w (s_E_common (g_self h.1) i_v1 i_v2) (fun _ _ q => ⟨q.2, rs_g h q.2 rfl⟩)
theorem e_R_common {w : Wd} {v1 v2 : Int} (h : RS w) (i_v1 : ((-2147483648 : Int) ≤ v1 ∧ v1 ≤ 2147483647)) (i_v2 : ((-2147483648 : Int) ≤ v2 ∧ v2 ≤ 2147483647)) : OK (f_R_common v1 v2 w) (fun r u => G md_R_common w u ∧ RS u) := ok_w (s_R_common (ad_iv h.2.1 (h.1.1 43 0).2) (g_self h.1) i_v1 i_v2) (fun _ _ q => ⟨q.2, rs_g h q.2 rfl⟩)
theorem e_E_father {w : Wd} (h : RS w) : OK (f_E_father w) (fun r u => G md_E_father w u ∧ RS u) := ok_w (s_E_father (g_self h.1)) (fun _ _ q => ⟨q.2, rs_g h q.2 rfl⟩)
theorem e_R_father {w : Wd} (h : RS w) : OK (f_R_father w) (fun r u => G md_R_father w u ∧ RS u) := ok_w (s_R_father (g_self h.1)) (fun _ _ q => ⟨q.2, rs_g h q.2 rfl⟩)
theorem e_E_keep {w : Wd} {v1 : Int} (h : RS w) (i_v1 : ((-2147483648 : Int) ≤ v1 ∧ v1 ≤ 2147483647)) : OK (f_E_keep v1 w) (fun r u => G md_E_keep w u ∧ RS u) := ok_w (s_E_keep (g_self h.1) i_v1) (fun _ _ q => ⟨q.2, rs_g h q.2 rfl⟩)
theorem e_R_keep {w : Wd} {v1 : Int} (h : RS w) (i_v1 : ((-2147483648 : Int) ≤ v1 ∧ v1 ≤ 2147483647)) : OK (f_R_keep v1 w) (fun r u => G md_R_keep w u ∧ RS u) := ok_w (ok_pc (s_R_keep (g_self h.1) i_v1) (keep_pc h)) (fun _ _ q => ⟨q.1.2, ⟨g_self q.1.2, q.2⟩⟩)
theorem e_E_again {w : Wd} {v1 : Int} (h : RS w) (i_v1 : ((-2147483648 : Int) ≤ v1 ∧ v1 ≤ 2147483647)) : OK (f_E_again v1 w) (fun r u => G md_E_again w u ∧ RS u) := ok_w (s_E_again (g_self h.1) i_v1) (fun _ _ q => ⟨q.2, rs_g h q.2 rfl⟩)
theorem e_R_again {w : Wd} {v1 : Int} (h : RS w) (i_v1 : ((-2147483648 : Int) ≤ v1 ∧ v1 ≤ 2147483647)) : OK (f_R_again v1 w) (fun r u => G md_R_again w u ∧ RS u ∧ (((r = (0 : Int)) ∧ (((u 43 32) = (w 43 32)) ∧ ((u 43 8) = (w 43 8)))) ∨ ((u 43 32) = (0 : Int)))) := ok_w (ok_pc (s_R_again (g_self h.1) i_v1) (again_pc h)) (fun _ _ q => ⟨q.1.2.1, ⟨g_self q.1.2.1, q.2⟩, q.1.2.2⟩)
theorem e_E_count {w : Wd} {v1 : Int} (h : RS w) (i_v1 : ((-2147483648 : Int) ≤ v1 ∧ v1 ≤ 2147483647)) : OK (f_E_count v1 w) (fun r u => G md_E_count w u ∧ RS u) := ok_w (s_E_count (g_self h.1) i_v1) (fun _ _ q => ⟨q.2, rs_g h q.2 rfl⟩)
theorem e_R_count {w : Wd} {v1 : Int} (h : RS w) (i_v1 : ((-2147483648 : Int) ≤ v1 ∧ v1 ≤ 2147483647)) : OK (f_R_count v1 w) (fun r u => G md_R_count w u ∧ RS u) := ok_w (s_R_count (g_self h.1) i_v1) (fun _ _ q => ⟨q.2, rs_g h q.2 rfl⟩)
theorem e_E_row {w : Wd} {v1 : Int} (h : RS w) (i_v1 : ((-2147483648 : Int) ≤ v1 ∧ v1 ≤ 2147483647)) : OK (f_E_row v1 w) (fun r u => G md_E_row w u ∧ RS u) := ok_w (s_E_row (g_self h.1) i_v1) (fun _ _ q => ⟨q.2, rs_g h q.2 rfl⟩)
theorem e_R_row {w : Wd} {v1 : Int} (h : RS w) (i_v1 : ((-2147483648 : Int) ≤ v1 ∧ v1 ≤ 2147483647)) : OK (f_R_row v1 w) (fun r u => G md_R_row w u ∧ RS u) := ok_w (s_R_row (g_self h.1) i_v1) (fun _ _ q => ⟨q.2, rs_g h q.2 rfl⟩)
theorem e_A_of {w : Wd} {v1 v2 : Int} (h : RS w) (i_v1 : ((-2147483648 : Int) ≤ v1 ∧ v1 ≤ 2147483647)) (i_v2 : ((-2147483648 : Int) ≤ v2 ∧ v2 ≤ 2147483647)) : OK (f_A_of v1 v2 w) (fun _ u => RS u ∧ ∀ c, c ≠ 82 → u c = w c) := by
  unfold f_A_of
  refine ok_call (s_E_of (g_self h.1) i_v1 i_v2) (fun r w1 q => ?_)
  have e1 : w1 = w := g_nil q.2
  subst e1
  have ir := q.1
  refine ok_ite (fun _ => ok_some ⟨h, fun _ _ => rfl⟩) (fun _ => ?_)
  refine ok_gd (by decide) ?_
  refine ok_lw (fun w2 e2 => ?_)
  have g2 : G [8299] w1 w2 := g_st (g_self h.1) e2 rfl rfl (show (-9223372036854775808 : Int) ≤ r ∧ r ≤ 9223372036854775807 by omega)
  have i2 := iv_st h.2 e2 (Or.inl (by decide))
  exact ok_some ⟨⟨g_self g2, i2⟩, fun c hc => funext fun k => by rw [e2]; exact st_c hc⟩
theorem e_A_row {w : Wd} {v1 : Int} (h : RS w) (i_v1 : ((-2147483648 : Int) ≤ v1 ∧ v1 ≤ 2147483647)) : OK (f_A_row v1 w) (fun _ u => RS u ∧ ∀ c, c ≠ 82 → u c = w c) := by
  unfold f_A_row
  refine ok_call (s_E_row (g_self h.1) i_v1) (fun r w1 q => ?_)
  have e1 : w1 = w := g_nil q.2
  subst e1
  have ir := q.1
  refine ok_ite (fun _ => ok_some ⟨h, fun _ _ => rfl⟩) (fun _ => ?_)
  refine ok_gd (by decide) ?_
  refine ok_lw (fun w2 e2 => ?_)
  have g2 : G [8299] w1 w2 := g_st (g_self h.1) e2 rfl rfl (show (-9223372036854775808 : Int) ≤ r ∧ r ≤ 9223372036854775807 by omega)
  have i2 := iv_st h.2 e2 (Or.inl (by decide))
  exact ok_some ⟨⟨g_self g2, i2⟩, fun c hc => funext fun k => by rw [e2]; exact st_c hc⟩
end
