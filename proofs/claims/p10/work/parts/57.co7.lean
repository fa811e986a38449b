/-! LAYING ASIDE, BRINGING BACK: all of it -/
theorem lay_q79 {k : Nat} {v2 pd : Int} (hk : v2 = k) (i2 : 0 ≤ v2 ∧ v2 ≤ 105) (i0 b0 f0 z0 : Nat → Int) : ∀ (n : Nat) {w : Wd} {v3 : Int}, (0 ≤ v3 ∧ v3 ≤ 10) → (∀ j, w 47 j = i0 j) → (∀ j, w 48 j = b0 j) → (∀ j, w 49 j = f0 j) → w 43 7 = pd → (∀ j : Nat, (j : Int) < v3 → w 79 (k + 3 * j) = i0 j ∧ w 79 (k + 3 * j + 1) = b0 j ∧ w 79 (k + 3 * j + 2) = f0 j) → (∀ i, (i < k ∨ k + 31 ≤ i) → w 79 i = z0 i) → PC (f_R_lay_43_79_2 n v2 v3 w) (fun _ u => (∀ j : Nat, j < 10 → u 79 (k + 3 * j) = i0 j ∧ u 79 (k + 3 * j + 1) = b0 j ∧ u 79 (k + 3 * j + 2) = f0 j) ∧ u 79 (k + 30) = pd ∧ ∀ i, (i < k ∨ k + 31 ≤ i) → u 79 i = z0 i) := by
  intro n
  induction n with
  | zero => intros; exact pc_none
  | succ n ih =>
    intro w v3 i3 h47 h48 h49 h7 hD hO
    rw [f_R_lay_43_79_2]
    have w1 := w32_sp (v2 + 30)
    have w2 := w32_sp (3 * v3)
    have w3 := w32_sp (v2 + w32 (3 * v3))
    have w4 := w32_sp (w32 (v2 + w32 (3 * v3)) + 1)
    have w5 := w32_sp (w32 (v2 + w32 (3 * v3)) + 2)
    have w6 := w32_sp (v3 + 1)
    refine pc_ite (fun h => ?_) (fun h => ?_)
    · refine pc_gd (fun _ => ?_)
      refine pc_lw (fun u1 e1 => ?_)
      have q0 : (w32 (v2 + 30)).toNat = k + 30 := by omega
      refine pc_some ⟨fun j hj => ?_, ?_, fun i hi => ?_⟩
      · have h1 := hD j (by omega)
        rw [e1, st_k (by omega), st_k (by omega), st_k (by omega)]
        exact h1
      · rw [e1, q0, st_eq]; exact h7
      · rw [e1, st_k (by omega)]; exact hO i hi
    · refine pc_gd (fun _ => ?_)
      refine pc_gd (fun _ => ?_)
      refine pc_lw (fun u2 e2 => ?_)
      refine pc_gd (fun _ => ?_)
      refine pc_gd (fun _ => ?_)
      refine pc_lw (fun u3 e3 => ?_)
      refine pc_gd (fun _ => ?_)
      refine pc_gd (fun _ => ?_)
      refine pc_lw (fun u4 e4 => ?_)
      refine pc_let (fun x5 e5 => ?_)
      have q1 : (w32 (v2 + w32 (3 * v3))).toNat = k + 3 * v3.toNat := by omega
      have q2 : (w32 (w32 (v2 + w32 (3 * v3)) + 1)).toNat = k + 3 * v3.toNat + 1 := by omega
      have q3 : (w32 (w32 (v2 + w32 (3 * v3)) + 2)).toNat = k + 3 * v3.toNat + 2 := by omega
      rw [q1] at e2; rw [q2] at e3; rw [q3] at e4
      have a47 : ∀ j, u4 47 j = i0 j := fun j => by rw [e4, st_c (by decide), e3, st_c (by decide), e2, st_c (by decide)]; exact h47 j
      have a48 : ∀ j, u4 48 j = b0 j := fun j => by rw [e4, st_c (by decide), e3, st_c (by decide), e2, st_c (by decide)]; exact h48 j
      have a49 : ∀ j, u4 49 j = f0 j := fun j => by rw [e4, st_c (by decide), e3, st_c (by decide), e2, st_c (by decide)]; exact h49 j
      refine ih (by omega) a47 a48 a49 (by rw [e4, st_c (by decide), e3, st_c (by decide), e2, st_c (by decide)]; exact h7) (fun j hj => ?_) (fun i hi => ?_)
      · by_cases hjv : j = v3.toNat
        · subst hjv
          refine ⟨?_, ?_, ?_⟩
          · rw [e4, st_k (by omega), e3, st_k (by omega), e2, st_eq]; exact h47 _
          · rw [e4, st_k (by omega), e3, st_eq, e2, st_c (by decide)]; exact h48 _
          · rw [e4, st_eq, e3, st_c (by decide), e2, st_c (by decide)]; exact h49 _
        · have h1 := hD j (by omega)
          rw [e4, st_k (by omega), st_k (by omega), st_k (by omega), e3, st_k (by omega), st_k (by omega), st_k (by omega), e2, st_k (by omega), st_k (by omega), st_k (by omega)]
          exact h1
      · rw [e4, st_k (by omega), e3, st_k (by omega), e2, st_k (by omega)]; exact hO i hi
theorem layq79 {k : Nat} {v2 : Int} (hk : v2 = k) (i2 : 0 ≤ v2 ∧ v2 ≤ 105) (w : Wd) : PC (f_R_lay_43_79 v2 w) (fun _ u => (∀ j : Nat, j < 10 → u 79 (k + 3 * j) = w 47 j ∧ u 79 (k + 3 * j + 1) = w 48 j ∧ u 79 (k + 3 * j + 2) = w 49 j) ∧ u 79 (k + 30) = w 43 7 ∧ ∀ i, (i < k ∨ k + 31 ≤ i) → u 79 i = w 79 i) := by
  unfold f_R_lay_43_79
  exact lay_q79 hk i2 (w 47) (w 48) (w 49) (w 79) FU (by omega) (fun _ => rfl) (fun _ => rfl) (fun _ => rfl) rfl (fun j hj => by omega) (fun _ _ => rfl)
theorem bring_q79 {k : Nat} {v2 : Int} (hk : v2 = k) (i2 : 0 ≤ v2 ∧ v2 ≤ 105) (P : Int) (hP : P ≤ 10) (z0 : Nat → Int) : ∀ (n : Nat) {w : Wd} {v3 : Int}, (0 ≤ v3 ∧ v3 ≤ 10) → w 43 0 = P → (∀ j, w 79 j = z0 j) → (∀ j : Nat, (j : Int) < v3 → w 47 j = z0 (k + 3 * j) ∧ w 48 j = z0 (k + 3 * j + 1) ∧ w 49 j = z0 (k + 3 * j + 2)) → PC (f_R_bring_43_79_2 n v2 v3 w) (fun _ u => (∀ j : Nat, (j : Int) < P → u 47 j = z0 (k + 3 * j) ∧ u 48 j = z0 (k + 3 * j + 1) ∧ u 49 j = z0 (k + 3 * j + 2)) ∧ u 43 7 = z0 (k + 30)) := by
  intro n
  induction n with
  | zero => intros; exact pc_none
  | succ n ih =>
    intro w v3 i3 h0 hz hD
    rw [f_R_bring_43_79_2]
    have w1 := w32_sp (v2 + 30)
    have w2 := w32_sp (3 * v3)
    have w3 := w32_sp (v2 + w32 (3 * v3))
    have w4 := w32_sp (w32 (v2 + w32 (3 * v3)) + 1)
    have w5 := w32_sp (w32 (v2 + w32 (3 * v3)) + 2)
    have w6 := w32_sp (v3 + 1)
    refine pc_ite (fun h => ?_) (fun h => ?_)
    · refine pc_gd (fun _ => ?_)
      refine pc_lw (fun u1 e1 => ?_)
      have q0 : (w32 (v2 + 30)).toNat = k + 30 := by omega
      refine pc_some ⟨fun j hj => ?_, ?_⟩
      · rw [e1, st_c (by decide), st_c (by decide), st_c (by decide)]
        exact hD j (by omega)
      · rw [e1, q0, st_eq]; exact hz _
    · refine pc_gd (fun _ => ?_)
      refine pc_gd (fun _ => ?_)
      refine pc_lw (fun u2 e2 => ?_)
      refine pc_gd (fun _ => ?_)
      refine pc_gd (fun _ => ?_)
      refine pc_lw (fun u3 e3 => ?_)
      refine pc_gd (fun _ => ?_)
      refine pc_gd (fun _ => ?_)
      refine pc_lw (fun u4 e4 => ?_)
      refine pc_let (fun x5 e5 => ?_)
      have q1 : (w32 (v2 + w32 (3 * v3))).toNat = k + 3 * v3.toNat := by omega
      have q2 : (w32 (w32 (v2 + w32 (3 * v3)) + 1)).toNat = k + 3 * v3.toNat + 1 := by omega
      have q3 : (w32 (w32 (v2 + w32 (3 * v3)) + 2)).toNat = k + 3 * v3.toNat + 2 := by omega
      rw [q1] at e2; rw [q2] at e3; rw [q3] at e4
      have aZ2 : ∀ j, u2 79 j = z0 j := fun j => by rw [e2, st_c (by decide)]; exact hz j
      have aZ3 : ∀ j, u3 79 j = z0 j := fun j => by rw [e3, st_c (by decide)]; exact aZ2 j
      rw [hz] at e2; rw [aZ2] at e3; rw [aZ3] at e4
      refine ih (by omega) (by rw [e4, st_c (by decide), e3, st_c (by decide), e2, st_c (by decide)]; exact h0) (fun j => by rw [e4, st_c (by decide)]; exact aZ3 j) (fun j hj => ?_)
      by_cases hjv : j = v3.toNat
      · subst hjv
        refine ⟨?_, ?_, ?_⟩
        · rw [e4, st_c (by decide), e3, st_c (by decide), e2, st_eq]
        · rw [e4, st_c (by decide), e3, st_eq]
        · rw [e4, st_eq]
      · have h1 := hD j (by omega)
        rw [e4, st_c (by decide), st_c (by decide), st_k hjv, e3, st_c (by decide), st_k hjv, st_c (by decide), e2, st_k hjv, st_c (by decide), st_c (by decide)]
        exact h1
theorem bringq79 {k : Nat} {v2 : Int} (hk : v2 = k) (i2 : 0 ≤ v2 ∧ v2 ≤ 105) (w : Wd) (hP : w 43 0 ≤ 10) : PC (f_R_bring_43_79 v2 w) (fun _ u => (∀ j : Nat, (j : Int) < w 43 0 → u 47 j = w 79 (k + 3 * j) ∧ u 48 j = w 79 (k + 3 * j + 1) ∧ u 49 j = w 79 (k + 3 * j + 2)) ∧ u 43 7 = w 79 (k + 30)) := by
  unfold f_R_bring_43_79
  exact bring_q79 hk i2 (w 43 0) hP (w 79) FU (by omega) rfl (fun _ => rfl) (fun j hj => by omega)
theorem lay_q59 {k : Nat} {v2 pd : Int} (hk : v2 = k) (i2 : 0 ≤ v2 ∧ v2 ≤ 1829) (i0 b0 f0 z0 : Nat → Int) : ∀ (n : Nat) {w : Wd} {v3 : Int}, (0 ≤ v3 ∧ v3 ≤ 10) → (∀ j, w 47 j = i0 j) → (∀ j, w 48 j = b0 j) → (∀ j, w 49 j = f0 j) → w 43 7 = pd → (∀ j : Nat, (j : Int) < v3 → w 59 (k + 3 * j) = i0 j ∧ w 59 (k + 3 * j + 1) = b0 j ∧ w 59 (k + 3 * j + 2) = f0 j) → (∀ i, (i < k ∨ k + 31 ≤ i) → w 59 i = z0 i) → PC (f_R_lay_43_59_2 n v2 v3 w) (fun _ u => (∀ j : Nat, j < 10 → u 59 (k + 3 * j) = i0 j ∧ u 59 (k + 3 * j + 1) = b0 j ∧ u 59 (k + 3 * j + 2) = f0 j) ∧ u 59 (k + 30) = pd ∧ ∀ i, (i < k ∨ k + 31 ≤ i) → u 59 i = z0 i) := by
  intro n
  induction n with
  | zero => intros; exact pc_none
  | succ n ih =>
    intro w v3 i3 h47 h48 h49 h7 hD hO
    rw [f_R_lay_43_59_2]
    have w1 := w32_sp (v2 + 30)
    have w2 := w32_sp (3 * v3)
    have w3 := w32_sp (v2 + w32 (3 * v3))
    have w4 := w32_sp (w32 (v2 + w32 (3 * v3)) + 1)
    have w5 := w32_sp (w32 (v2 + w32 (3 * v3)) + 2)
    have w6 := w32_sp (v3 + 1)
    refine pc_ite (fun h => ?_) (fun h => ?_)
    · refine pc_gd (fun _ => ?_)
      refine pc_lw (fun u1 e1 => ?_)
      have q0 : (w32 (v2 + 30)).toNat = k + 30 := by omega
      refine pc_some ⟨fun j hj => ?_, ?_, fun i hi => ?_⟩
      · have h1 := hD j (by omega)
        rw [e1, st_k (by omega), st_k (by omega), st_k (by omega)]
        exact h1
      · rw [e1, q0, st_eq]; exact h7
      · rw [e1, st_k (by omega)]; exact hO i hi
    · refine pc_gd (fun _ => ?_)
      refine pc_gd (fun _ => ?_)
      refine pc_lw (fun u2 e2 => ?_)
      refine pc_gd (fun _ => ?_)
      refine pc_gd (fun _ => ?_)
      refine pc_lw (fun u3 e3 => ?_)
      refine pc_gd (fun _ => ?_)
      refine pc_gd (fun _ => ?_)
      refine pc_lw (fun u4 e4 => ?_)
      refine pc_let (fun x5 e5 => ?_)
      have q1 : (w32 (v2 + w32 (3 * v3))).toNat = k + 3 * v3.toNat := by omega
      have q2 : (w32 (w32 (v2 + w32 (3 * v3)) + 1)).toNat = k + 3 * v3.toNat + 1 := by omega
      have q3 : (w32 (w32 (v2 + w32 (3 * v3)) + 2)).toNat = k + 3 * v3.toNat + 2 := by omega
      rw [q1] at e2; rw [q2] at e3; rw [q3] at e4
      have a47 : ∀ j, u4 47 j = i0 j := fun j => by rw [e4, st_c (by decide), e3, st_c (by decide), e2, st_c (by decide)]; exact h47 j
      have a48 : ∀ j, u4 48 j = b0 j := fun j => by rw [e4, st_c (by decide), e3, st_c (by decide), e2, st_c (by decide)]; exact h48 j
      have a49 : ∀ j, u4 49 j = f0 j := fun j => by rw [e4, st_c (by decide), e3, st_c (by decide), e2, st_c (by decide)]; exact h49 j
      refine ih (by omega) a47 a48 a49 (by rw [e4, st_c (by decide), e3, st_c (by decide), e2, st_c (by decide)]; exact h7) (fun j hj => ?_) (fun i hi => ?_)
      · by_cases hjv : j = v3.toNat
        · subst hjv
          refine ⟨?_, ?_, ?_⟩
          · rw [e4, st_k (by omega), e3, st_k (by omega), e2, st_eq]; exact h47 _
          · rw [e4, st_k (by omega), e3, st_eq, e2, st_c (by decide)]; exact h48 _
          · rw [e4, st_eq, e3, st_c (by decide), e2, st_c (by decide)]; exact h49 _
        · have h1 := hD j (by omega)
          rw [e4, st_k (by omega), st_k (by omega), st_k (by omega), e3, st_k (by omega), st_k (by omega), st_k (by omega), e2, st_k (by omega), st_k (by omega), st_k (by omega)]
          exact h1
      · rw [e4, st_k (by omega), e3, st_k (by omega), e2, st_k (by omega)]; exact hO i hi
theorem layq59 {k : Nat} {v2 : Int} (hk : v2 = k) (i2 : 0 ≤ v2 ∧ v2 ≤ 1829) (w : Wd) : PC (f_R_lay_43_59 v2 w) (fun _ u => (∀ j : Nat, j < 10 → u 59 (k + 3 * j) = w 47 j ∧ u 59 (k + 3 * j + 1) = w 48 j ∧ u 59 (k + 3 * j + 2) = w 49 j) ∧ u 59 (k + 30) = w 43 7 ∧ ∀ i, (i < k ∨ k + 31 ≤ i) → u 59 i = w 59 i) := by
  unfold f_R_lay_43_59
  exact lay_q59 hk i2 (w 47) (w 48) (w 49) (w 59) FU (by omega) (fun _ => rfl) (fun _ => rfl) (fun _ => rfl) rfl (fun j hj => by omega) (fun _ _ => rfl)
theorem bring_q59 {k : Nat} {v2 : Int} (hk : v2 = k) (i2 : 0 ≤ v2 ∧ v2 ≤ 1829) (P : Int) (hP : P ≤ 10) (z0 : Nat → Int) : ∀ (n : Nat) {w : Wd} {v3 : Int}, (0 ≤ v3 ∧ v3 ≤ 10) → w 43 0 = P → (∀ j, w 59 j = z0 j) → (∀ j : Nat, (j : Int) < v3 → w 47 j = z0 (k + 3 * j) ∧ w 48 j = z0 (k + 3 * j + 1) ∧ w 49 j = z0 (k + 3 * j + 2)) → PC (f_R_bring_43_59_2 n v2 v3 w) (fun _ u => (∀ j : Nat, (j : Int) < P → u 47 j = z0 (k + 3 * j) ∧ u 48 j = z0 (k + 3 * j + 1) ∧ u 49 j = z0 (k + 3 * j + 2)) ∧ u 43 7 = z0 (k + 30)) := by
  intro n
  induction n with
  | zero => intros; exact pc_none
  | succ n ih =>
    intro w v3 i3 h0 hz hD
    rw [f_R_bring_43_59_2]
    have w1 := w32_sp (v2 + 30)
    have w2 := w32_sp (3 * v3)
    have w3 := w32_sp (v2 + w32 (3 * v3))
    have w4 := w32_sp (w32 (v2 + w32 (3 * v3)) + 1)
    have w5 := w32_sp (w32 (v2 + w32 (3 * v3)) + 2)
    have w6 := w32_sp (v3 + 1)
    refine pc_ite (fun h => ?_) (fun h => ?_)
    · refine pc_gd (fun _ => ?_)
      refine pc_lw (fun u1 e1 => ?_)
      have q0 : (w32 (v2 + 30)).toNat = k + 30 := by omega
      refine pc_some ⟨fun j hj => ?_, ?_⟩
      · rw [e1, st_c (by decide), st_c (by decide), st_c (by decide)]
        exact hD j (by omega)
      · rw [e1, q0, st_eq]; exact hz _
    · refine pc_gd (fun _ => ?_)
      refine pc_gd (fun _ => ?_)
      refine pc_lw (fun u2 e2 => ?_)
      refine pc_gd (fun _ => ?_)
      refine pc_gd (fun _ => ?_)
      refine pc_lw (fun u3 e3 => ?_)
      refine pc_gd (fun _ => ?_)
      refine pc_gd (fun _ => ?_)
      refine pc_lw (fun u4 e4 => ?_)
      refine pc_let (fun x5 e5 => ?_)
      have q1 : (w32 (v2 + w32 (3 * v3))).toNat = k + 3 * v3.toNat := by omega
      have q2 : (w32 (w32 (v2 + w32 (3 * v3)) + 1)).toNat = k + 3 * v3.toNat + 1 := by omega
      have q3 : (w32 (w32 (v2 + w32 (3 * v3)) + 2)).toNat = k + 3 * v3.toNat + 2 := by omega
      rw [q1] at e2; rw [q2] at e3; rw [q3] at e4
      have aZ2 : ∀ j, u2 59 j = z0 j := fun j => by rw [e2, st_c (by decide)]; exact hz j
      have aZ3 : ∀ j, u3 59 j = z0 j := fun j => by rw [e3, st_c (by decide)]; exact aZ2 j
      rw [hz] at e2; rw [aZ2] at e3; rw [aZ3] at e4
      refine ih (by omega) (by rw [e4, st_c (by decide), e3, st_c (by decide), e2, st_c (by decide)]; exact h0) (fun j => by rw [e4, st_c (by decide)]; exact aZ3 j) (fun j hj => ?_)
      by_cases hjv : j = v3.toNat
      · subst hjv
        refine ⟨?_, ?_, ?_⟩
        · rw [e4, st_c (by decide), e3, st_c (by decide), e2, st_eq]
        · rw [e4, st_c (by decide), e3, st_eq]
        · rw [e4, st_eq]
      · have h1 := hD j (by omega)
        rw [e4, st_c (by decide), st_c (by decide), st_k hjv, e3, st_c (by decide), st_k hjv, st_c (by decide), e2, st_k hjv, st_c (by decide), st_c (by decide)]
        exact h1
theorem bringq59 {k : Nat} {v2 : Int} (hk : v2 = k) (i2 : 0 ≤ v2 ∧ v2 ≤ 1829) (w : Wd) (hP : w 43 0 ≤ 10) : PC (f_R_bring_43_59 v2 w) (fun _ u => (∀ j : Nat, (j : Int) < w 43 0 → u 47 j = w 59 (k + 3 * j) ∧ u 48 j = w 59 (k + 3 * j + 1) ∧ u 49 j = w 59 (k + 3 * j + 2)) ∧ u 43 7 = w 59 (k + 30)) := by
  unfold f_R_bring_43_59
  exact bring_q59 hk i2 (w 43 0) hP (w 59) FU (by omega) rfl (fun _ => rfl) (fun j hj => by omega)
/-! keep: the class -/
def KTq (w u : Wd) (c d g : Nat) : Prop := u c 2 = 1 ∧ u c 3 = w 5 3 ∧ u c 4 = w 5 4 ∧ u c 5 = w 5 5 ∧ u c 6 = w 5 6 ∧ u c 7 = w 5 7 ∧ u c 8 = w 5 8 ∧ u c 9 = w 15 3 ∧ (∀ k : Nat, k < 10 → u d k = w 8 k) ∧ ∀ k : Nat, k < 61 → u g k = w 16 k
theorem kt0 (w : Wd) : PC (f_K_take w) (fun _ u => KTq w u 37 38 39) := by
  unfold f_K_take KTq
  refine pc_lw (fun u1 e1 => ?_)
  refine pc_lw (fun u2 e2 => ?_)
  refine pc_lw (fun u3 e3 => ?_)
  refine pc_lw (fun u4 e4 => ?_)
  refine pc_lw (fun u5 e5 => ?_)
  refine pc_lw (fun u6 e6 => ?_)
  refine pc_lw (fun u7 e7 => ?_)
  refine pc_lw (fun u8 e8 => ?_)
  refine pc_gd (fun _ => ?_)
  refine pc_lw (fun u9 e9 => ?_)
  refine pc_gd (fun _ => ?_)
  refine pc_lw (fun u10 e10 => ?_)
  subst e1; subst e2; subst e3; subst e4; subst e5; subst e6; subst e7; subst e8; subst e9; subst e10
  refine pc_some ⟨?_, ?_, ?_, ?_, ?_, ?_, ?_, ?_, fun k hk => ?_, fun k hk => ?_⟩ <;> simp [st, cpy]
  · omega
  · omega
theorem kt1 (w : Wd) : PC (f_K_take_40_5_15 w) (fun _ u => KTq w u 40 41 42) := by
  unfold f_K_take_40_5_15 KTq
  refine pc_lw (fun u1 e1 => ?_)
  refine pc_lw (fun u2 e2 => ?_)
  refine pc_lw (fun u3 e3 => ?_)
  refine pc_lw (fun u4 e4 => ?_)
  refine pc_lw (fun u5 e5 => ?_)
  refine pc_lw (fun u6 e6 => ?_)
  refine pc_lw (fun u7 e7 => ?_)
  refine pc_lw (fun u8 e8 => ?_)
  refine pc_gd (fun _ => ?_)
  refine pc_lw (fun u9 e9 => ?_)
  refine pc_gd (fun _ => ?_)
  refine pc_lw (fun u10 e10 => ?_)
  subst e1; subst e2; subst e3; subst e4; subst e5; subst e6; subst e7; subst e8; subst e9; subst e10
  refine pc_some ⟨?_, ?_, ?_, ?_, ?_, ?_, ?_, ?_, fun k hk => ?_, fun k hk => ?_⟩ <;> simp [st, cpy]
  · omega
  · omega
theorem kp_E {v1 : Int} {w : Wd} (hG : G md_E_keep w w) : PC (f_E_keep v1 w) (fun r u => (¬ (0 ≤ v1 ∧ v1 ≤ 1) ∧ r = 0 ∧ u = w) ∨ (v1 = 0 ∧ r = 1 ∧ KTq w u 37 38 39 ∧ u 40 = w 40 ∧ u 41 = w 41 ∧ u 42 = w 42) ∨ (v1 = 1 ∧ r = 1 ∧ KTq w u 40 41 42 ∧ u 37 = w 37 ∧ u 38 = w 38 ∧ u 39 = w 39)) := by
  unfold f_E_keep
  refine pc_ite (fun c => pc_some (Or.inl ⟨by omega, rfl, rfl⟩)) (fun c => ?_)
  refine pc_ite (fun c1 => ?_) (fun c1 => pc_some (Or.inl ⟨by omega, rfl, rfl⟩))
  refine pc_ite (fun c2 => ?_) (fun c2 => ?_)
  · refine pc_call (pc_and (pc_ok (s_K_take (g_self hG))) (kt0 w)) (fun r1 u2 q => ?_)
    obtain ⟨⟨_, gy⟩, q⟩ := q
    exact pc_some (Or.inr (Or.inl ⟨c2, rfl, q, funext fun k => gy.2.1 40 k (mS_ar rfl k), funext fun k => gy.2.1 41 k (mS_ar rfl k), funext fun k => gy.2.1 42 k (mS_ar rfl k)⟩))
  · refine pc_ite (fun c3 => ?_) (fun _ => pc_none)
    refine pc_call (pc_and (pc_ok (s_K_take_40_5_15 (g_self hG))) (kt1 w)) (fun r1 u2 q => ?_)
    obtain ⟨⟨_, gy⟩, q⟩ := q
    exact pc_some (Or.inr (Or.inr ⟨c3, rfl, q, funext fun k => gy.2.1 37 k (mS_ar rfl k), funext fun k => gy.2.1 38 k (mS_ar rfl k), funext fun k => gy.2.1 39 k (mS_ar rfl k)⟩))
/-! keep: the reference -/
theorem kq_125 {x : Wd} {i : Nat} {z : Nat → Int} {v2 : Int} (h2 : v2 = 105 * i + 41) (hi : i < 2) : ∀ (n : Nat) {w : Wd} {v3 : Int}, 0 ≤ v3 → v3 ≤ 61 → E79 x w → (∀ k : Nat, w 79 k = if 105 * i + 44 ≤ k ∧ (k : Int) < 105 * i + 44 + v3 then x 50 (k - (105 * i + 44)) else z k) → PC (f_R_keep_125 n v2 v3 w) (fun r u => r = 1 ∧ E79 x u ∧ ∀ k : Nat, u 79 k = if 105 * i + 44 ≤ k ∧ k < 105 * i + 105 then x 50 (k - (105 * i + 44)) else z k) := by
  intro n
  induction n with
  | zero => intros; exact pc_none
  | succ n ih =>
    intro w v3 i3 i4 hE hZ
    rw [f_R_keep_125]
    have w1 := w32_sp (v3 + 1)
    have w2 := w32_sp (v2 + 3)
    have w3 := w32_sp (w32 (v2 + 3) + v3)
    refine pc_ite (fun h => pc_some ⟨rfl, hE, fun k => ?_⟩) (fun h => ?_)
    · rw [hZ k]
      by_cases c : 105 * i + 44 ≤ k ∧ k < 105 * i + 105
      · rw [if_pos c, if_pos (by omega)]
      · rw [if_neg c, if_neg (by omega)]
    · refine pc_gd (fun _ => ?_)
      refine pc_gd (fun _ => ?_)
      refine pc_lw (fun u14 e14 => ?_)
      refine pc_let (fun x15 e15 => ?_)
      have q1 : (w32 (w32 (v2 + 3) + v3)).toNat = 105 * i + 44 + v3.toNat := by omega
      rw [q1] at e14
      refine ih (by omega) (by omega) (fun c k hc => ?_) (fun k => ?_)
      · rw [e14, st_c hc]; exact hE c k hc
      · rw [e14]
        by_cases hk : k = 105 * i + 44 + v3.toNat
        · rw [hk, st_eq, if_pos (by omega), hE 50 _ (by decide)]
          congr 1
          omega
        · rw [st_k hk, hZ k]
          by_cases c : 105 * i + 44 ≤ k ∧ (k : Int) < 105 * i + 44 + v3
          · rw [if_pos c, if_pos (by omega)]
          · rw [if_neg c, if_neg (by omega)]
def KF (x : Wd) (i : Nat) (z : Nat → Int) (k : Nat) : Int := if 105 * i + 44 ≤ k ∧ k < 105 * i + 105 then x 50 (k - (105 * i + 44)) else if k = 105 * i + 43 then x 43 8 else if k = 105 * i + 42 then x 43 11 else if k = 105 * i + 41 then x 43 10 else if 105 * i + 31 ≤ k ∧ k < 105 * i + 41 then (if x 46 (k - (105 * i + 31)) = 0 then 0 else 1) else z k
theorem kq_52 {x : Wd} {i : Nat} {z : Nat → Int} {v2 : Int} (h2 : v2 = 105 * i + 31) (hi : i < 2) : ∀ (n : Nat) {w : Wd} {v3 : Int}, (0 ≤ v3 ∧ v3 ≤ 10) → E79 x w → (∀ k : Nat, w 79 k = if 105 * i + 31 ≤ k ∧ (k : Int) < 105 * i + 31 + v3 then (if x 46 (k - (105 * i + 31)) = 0 then 0 else 1) else z k) → PC (f_R_keep_52 n v2 v3 w) (fun r u => r = 1 ∧ E79 x u ∧ ∀ k : Nat, u 79 k = KF x i z k) := by
  intro n
  induction n with
  | zero => intros; exact pc_none
  | succ n ih =>
    intro w v3 i3 hE hZ
    rw [f_R_keep_52]
    have w1 := w32_sp (v2 + 10)
    have w2 := w32_sp (v2 + v3)
    have w3 := w32_sp (v3 + 1)
    refine pc_ite (fun _ => ?_) (fun h => ?_)
    · refine pc_let (fun x10 e10 => ?_)
      have w4 := w32_sp (x10 + 1)
      have w5 := w32_sp (x10 + 2)
      refine pc_gd (fun _ => ?_)
      refine pc_lw (fun u11 e11 => ?_)
      refine pc_gd (fun _ => ?_)
      refine pc_lw (fun u12 e12 => ?_)
      refine pc_gd (fun _ => ?_)
      refine pc_lw (fun u13 e13 => ?_)
      have hx0 : x10.toNat = 105 * i + 41 := by omega
      have hx1 : (w32 (x10 + 1)).toNat = 105 * i + 42 := by omega
      have hx2 : (w32 (x10 + 2)).toNat = 105 * i + 43 := by omega
      have y10 : w 43 10 = x 43 10 := hE 43 10 (by decide)
      have y11 : u11 43 11 = x 43 11 := by rw [e11, st_c (by decide)]; exact hE 43 11 (by decide)
      have y8 : u12 43 8 = x 43 8 := by rw [e12, st_c (by decide), e11, st_c (by decide)]; exact hE 43 8 (by decide)
      rw [hx0, y10] at e11; rw [hx1, y11] at e12; rw [hx2, y8] at e13
      refine pc_w (kq_125 (x := x) (i := i) (z := u13 79) (by omega) hi FU (by decide) (by decide) (fun c k hc => ?_) (fun k => ?_)) (fun r u q => ⟨q.1, q.2.1, fun k => ?_⟩)
      · rw [e13, st_c hc, e12, st_c hc, e11, st_c hc]; exact hE c k hc
      · rw [if_neg (by omega)]
      · rw [q.2.2 k]
        unfold KF
        by_cases c1 : 105 * i + 44 ≤ k ∧ k < 105 * i + 105
        · rw [if_pos c1, if_pos c1]
        · rw [if_neg c1, if_neg c1]
          by_cases c2 : k = 105 * i + 43
          · rw [if_pos c2, e13, c2, st_eq]
          · rw [if_neg c2, e13, st_k c2]
            by_cases c3 : k = 105 * i + 42
            · rw [if_pos c3, e12, c3, st_eq]
            · rw [if_neg c3, e12, st_k c3]
              by_cases c4 : k = 105 * i + 41
              · rw [if_pos c4, e11, c4, st_eq]
              · rw [if_neg c4, e11, st_k c4, hZ k]
                by_cases c5 : 105 * i + 31 ≤ k ∧ k < 105 * i + 41
                · rw [if_pos c5, if_pos (by omega)]
                · rw [if_neg c5, if_neg (by omega)]
    · refine pc_gd (fun _ => ?_)
      have nx : ∀ s : Int, s = (if x 46 v3.toNat = 0 then 0 else 1) → PC (f_R_keep_79 (f_R_keep_52 n) v2 v3 (w32 (v2 + v3)) s w) (fun r u => r = 1 ∧ E79 x u ∧ ∀ k : Nat, u 79 k = KF x i z k) := by
        intro s hs
        unfold f_R_keep_79
        refine pc_gd (fun _ => ?_)
        refine pc_lw (fun u16 e16 => ?_)
        refine pc_let (fun x17 e17 => ?_)
        have q1 : (w32 (v2 + v3)).toNat = 105 * i + 31 + v3.toNat := by omega
        rw [q1] at e16
        refine ih (by omega) (fun c k hc => ?_) (fun k => ?_)
        · rw [e16, st_c hc]; exact hE c k hc
        · rw [e16]
          by_cases hk : k = 105 * i + 31 + v3.toNat
          · rw [hk, st_eq, if_pos (by omega), hs, show 105 * i + 31 + v3.toNat - (105 * i + 31) = v3.toNat by omega]
          · rw [st_k hk, hZ k]
            by_cases c : 105 * i + 31 ≤ k ∧ (k : Int) < 105 * i + 31 + v3
            · rw [if_pos c, if_pos (show 105 * i + 31 ≤ k ∧ (k : Int) < 105 * i + 31 + x17 by omega)]
            · rw [if_neg c, if_neg (by omega)]
      have e46 : w 46 v3.toNat = x 46 v3.toNat := hE 46 _ (by decide)
      rw [e46]
      exact pc_ite (fun c => nx 0 (by rw [if_pos c])) (fun c => nx 1 (by rw [if_neg c]))
def KRq (w u : Wd) (i : Nat) : Prop := u 80 i = 1 ∧ u 81 i = w 43 56 ∧ (∀ j : Nat, j < 10 → u 79 (105 * i + 3 * j) = w 47 j ∧ u 79 (105 * i + 3 * j + 1) = w 48 j ∧ u 79 (105 * i + 3 * j + 2) = w 49 j) ∧ u 79 (105 * i + 30) = w 43 7 ∧ (∀ k : Nat, 105 * i + 31 ≤ k → k < 105 * i + 105 → u 79 k = KF w i (w 79) k)
theorem kp_R {v1 : Int} {w : Wd} (hG : G md_R_keep w w) : PC (f_R_keep v1 w) (fun r u => (¬ (0 ≤ v1 ∧ v1 ≤ 1) ∧ r = 0 ∧ u 79 = w 79 ∧ u 80 = w 80 ∧ u 81 = w 81) ∨ ((0 ≤ v1 ∧ v1 ≤ 1) ∧ r = 1 ∧ KRq w u v1.toNat ∧ (∀ k, k ≠ v1.toNat → u 80 k = w 80 k ∧ u 81 k = w 81 k) ∧ ∀ k, (k < 105 * v1.toNat ∨ 105 * v1.toNat + 105 ≤ k) → u 79 k = w 79 k)) := by
  unfold f_R_keep
  refine pc_lw (fun u1 e1 => ?_)
  have g1 : G md_R_keep w u1 := g_st hG e1 rfl rfl (show (0 : Int) ≤ 0 ∧ (0 : Int) ≤ 1 by decide)
  rw [in_e, jc_s]
  refine pc_ite (fun hr => ?_) (fun hr => ?_)
  · refine pc_some (Or.inl ⟨fun h2 => ?_, rfl, ?_, ?_, ?_⟩)
    · rw [if_pos h2] at hr; exact absurd hr (by decide)
    · rw [e1]; exact st_row (by decide)
    · rw [e1]; exact st_row (by decide)
    · rw [e1]; exact st_row (by decide)
  · have hv : 0 ≤ v1 ∧ v1 ≤ 1 := by
      by_cases h2 : 0 ≤ v1 ∧ v1 ≤ 1
      · exact h2
      · rw [if_neg h2] at hr; exact absurd rfl hr
    have nz1 : nz 1 = 1 := by decide
    have c56 := g1.1 43 56
    refine pc_gd (fun _ => ?_)
    refine pc_lw (fun u4 e4 => ?_)
    refine pc_gd (fun _ => ?_)
    refine pc_lw (fun u5 e5 => ?_)
    have g4 : G md_R_keep w u4 := g_st g1 e4 rfl rfl (show (0 : Int) ≤ nz 1 ∧ nz 1 ≤ 1 by omega)
    have g5 : G md_R_keep w u5 := g_st g4 e5 rfl rfl (g4.1 43 56)
    have w1 := w32_sp (105 * v1)
    refine pc_let (fun x6 e6 => ?_)
    refine pc_call (pc_and (pc_ok (s_R_lay_43_79 (v2 := x6) (g_self g5) (by omega) (by omega))) (layq79 (k := 105 * v1.toNat) (v2 := x6) (by omega) (by omega) u5)) (fun r7 u8 q => ?_)
    obtain ⟨⟨_, gy⟩, hD, hp, hO⟩ := q
    have w2 := w32_sp (x6 + 31)
    refine pc_let (fun x9 e9 => ?_)
    have r1 : ∀ c, c ≠ 43 → c ≠ 80 → c ≠ 81 → c ≠ 79 → u8 c = w c := by
      intro c h43 h80 h81 h79
      have t : u8 c = u5 c := funext fun k => gy.2.1 c k (mS_ar (by
        unfold md_R_lay_43_79
        simp
        omega) k)
      rw [t, e5, st_row h81, e4, st_row h80, e1, st_row h43]
    have r43 : ∀ k, k ≠ 16 → u8 43 k = w 43 k := by
      intro k hk
      have t : u8 43 k = u5 43 k := gy.2.1 43 k (mS_ar rfl k)
      rw [t, e5, st_c (by decide), e4, st_c (by decide), e1, st_k hk]
    have t79 : u5 79 = w 79 := by rw [e5, st_row (by decide), e4, st_row (by decide), e1, st_row (by decide)]
    have t47 : u5 47 = w 47 := by rw [e5, st_row (by decide), e4, st_row (by decide), e1, st_row (by decide)]
    have t48 : u5 48 = w 48 := by rw [e5, st_row (by decide), e4, st_row (by decide), e1, st_row (by decide)]
    have t49 : u5 49 = w 49 := by rw [e5, st_row (by decide), e4, st_row (by decide), e1, st_row (by decide)]
    have t7 : u5 43 7 = w 43 7 := by rw [e5, st_c (by decide), e4, st_c (by decide), e1, st_k (by decide)]
    rw [t47, t48, t49] at hD
    rw [t7] at hp
    rw [t79] at hO
    have f80 : u8 80 = u4 80 := by
      have t : u8 80 = u5 80 := funext fun k => gy.2.1 80 k (mS_ar rfl k)
      rw [t, e5, st_row (by decide)]
    have f81 : u8 81 = u5 81 := funext fun k => gy.2.1 81 k (mS_ar rfl k)
    have t56 : u4 43 56 = w 43 56 := by rw [e4, st_c (by decide), e1, st_k (by decide)]
    refine pc_w (kq_52 (x := u8) (i := v1.toNat) (z := u8 79) (by omega) (by omega) FU (by omega) (fun _ _ _ => rfl) (fun k => by rw [if_neg (by omega)])) (fun r u q => Or.inr ⟨hv, q.1, ⟨?_, ?_, fun j hj => ?_, ?_, fun k k1 k2 => ?_⟩, fun k hk => ⟨?_, ?_⟩, fun k hk => ?_⟩)
    · rw [q.2.1 80 _ (by decide), f80, e4, st_eq]; exact nz1
    · rw [q.2.1 81 _ (by decide), f81, e5, st_eq]; exact t56
    · have h1 := hD j hj
      have y : ∀ a : Nat, a < 31 → u 79 (105 * v1.toNat + a) = u8 79 (105 * v1.toNat + a) := fun a ha => by
        rw [q.2.2]; unfold KF
        rw [if_neg (by omega), if_neg (by omega), if_neg (by omega), if_neg (by omega), if_neg (by omega)]
      rw [show 105 * v1.toNat + 3 * j + 1 = 105 * v1.toNat + (3 * j + 1) by omega, show 105 * v1.toNat + 3 * j + 2 = 105 * v1.toNat + (3 * j + 2) by omega] at h1 ⊢
      rw [y _ (by omega), y _ (by omega), y _ (by omega)]
      exact h1
    · rw [q.2.2]; unfold KF
      rw [if_neg (by omega), if_neg (by omega), if_neg (by omega), if_neg (by omega), if_neg (by omega)]
      exact hp
    · rw [q.2.2]; unfold KF
      rw [r1 50 (by decide) (by decide) (by decide) (by decide), r1 46 (by decide) (by decide) (by decide) (by decide), r43 8 (by decide), r43 10 (by decide), r43 11 (by decide)]
      by_cases c1 : 105 * v1.toNat + 44 ≤ k ∧ k < 105 * v1.toNat + 105
      · rw [if_pos c1, if_pos c1]
      · rw [if_neg c1, if_neg c1]
        by_cases c2 : k = 105 * v1.toNat + 43
        · rw [if_pos c2, if_pos c2]
        · rw [if_neg c2, if_neg c2]
          by_cases c3 : k = 105 * v1.toNat + 42
          · rw [if_pos c3, if_pos c3]
          · rw [if_neg c3, if_neg c3]
            by_cases c4 : k = 105 * v1.toNat + 41
            · rw [if_pos c4, if_pos c4]
            · rw [if_neg c4, if_neg c4, if_pos (show 105 * v1.toNat + 31 ≤ k ∧ k < 105 * v1.toNat + 41 by omega), if_pos (show 105 * v1.toNat + 31 ≤ k ∧ k < 105 * v1.toNat + 41 by omega)]
    · rw [q.2.1 80 _ (by decide), f80, e4, st_k hk, e1, st_c (by decide)]
    · rw [q.2.1 81 _ (by decide), f81, e5, st_k hk, e4, st_c (by decide), e1, st_c (by decide)]
    · rw [q.2.2]; unfold KF
      rw [if_neg (by omega), if_neg (by omega), if_neg (by omega), if_neg (by omega), if_neg (by omega)]
      exact hO k (by omega)
theorem c_keep {w : Wd} {v1 : Int} (h : LI w) (i_v1 : ((-2147483648 : Int) ≤ v1 ∧ v1 ≤ 2147483647)) : OK (f_E_keep v1 w) (fun r1 u1 => OK (f_R_keep v1 u1) (fun r2 u2 => LI u2 ∧ r1 = r2)) := by
  refine ok_w (ok_pc (e_E_keep h.1 i_v1) (kp_E (g_self h.1.1))) (fun r1 u1 q1 => ?_)
  obtain ⟨⟨g1, s1⟩, x1⟩ := q1
  refine ok_w (ok_pc (e_R_keep s1 i_v1) (kp_R (g_self s1.1))) (fun r2 u2 q2 => ?_)
  obtain ⟨⟨g2, s2⟩, x2⟩ := q2
  have f := fr_tr (fr_g (P := [(1, 1), (43, 13), (5, 3), (43, 0), (5, 7), (43, 10), (5, 8), (43, 11), (43, 56)]) (A := [2, 51]) g1 rfl) (fr_g g2 rfl)
  have p := f.1
  have q53 := p (5, 3) (by decide)
  have q56 := p (43, 56) (by decide)
  have r79 : u1 79 = w 79 := funext fun k => g1.2.1 79 k (mS_ar rfl k)
  have r80 : u1 80 = w 80 := funext fun k => g1.2.1 80 k (mS_ar rfl k)
  have r81 : u1 81 = w 81 := funext fun k => g1.2.1 81 k (mS_ar rfl k)
  have r37 : u2 37 = u1 37 := funext fun k => g2.2.1 37 k (mS_ar rfl k)
  have r40 : u2 40 = u1 40 := funext fun k => g2.2.1 40 k (mS_ar rfl k)
  have e10 : u1 43 10 = w 43 10 := g1.2.1 43 10 rfl
  have e11 : u1 43 11 = w 43 11 := g1.2.1 43 11 rfl
  have e56 : u1 43 56 = w 43 56 := g1.2.1 43 56 rfl
  obtain ⟨h1, h2, h3, h4, h5⟩ := h.2
  have fin : KM u2 37 0 ∧ KM u2 40 1 → LI u2 := fun k => ⟨s2, tx_eq h1 (p (1, 1) (by decide)) (p (43, 13) (by decide)) (f.2 2 (by decide)) (f.2 51 (by decide)), by rw [q53, p (43, 0) (by decide)]; exact h2, ⟨by rw [p (5, 7) (by decide), p (43, 10) (by decide)]; exact h3.1, by rw [p (5, 8) (by decide), p (43, 11) (by decide)]; exact h3.2⟩, k.1, k.2⟩
  -- what was kept under another number stays
  have old : ∀ {c m : Nat}, KM w c m → m < 2 → u2 c = w c → u2 80 m = w 80 m → u2 81 m = w 81 m → (∀ k, k < 105 → u2 79 (105 * m + k) = w 79 (105 * m + k)) → KM u2 c m := by
    intro c m hk hm y1 y2 y3 y4
    unfold KM
    rw [y1, y2, y3, y4 41 (by decide), y4 42 (by decide), q53, q56]
    exact hk
  -- what is kept now
  have new : ∀ {c d g m : Nat}, m < 2 → KTq w u1 c d g → u2 c = u1 c → KRq u1 u2 m → KM u2 c m := by
    intro c d g m hm y1 y2 y3
    obtain ⟨a1, a2, _, _, _, a3, a4, _⟩ := y1
    obtain ⟨b1, b2, _, _, b3⟩ := y3
    have b41 := b3 (105 * m + 41) (by omega) (by omega)
    have b42 := b3 (105 * m + 42) (by omega) (by omega)
    unfold KF at b41 b42
    rw [if_neg (by omega), if_neg (by omega), if_neg (by omega), if_pos rfl] at b41
    rw [if_neg (by omega), if_neg (by omega), if_pos rfl] at b42
    unfold KM
    rw [y2, b1, b2, b41, b42, a1, a2, a3, a4, e10, e11, e56, q53, q56]
    exact ⟨rfl, fun _ => ⟨h3.1, h3.2, Or.inl ⟨rfl, rfl⟩⟩⟩
  rw [r79, r80, r81] at x2
  rcases x1 with ⟨n1, a1, b1⟩ | ⟨n1, a1, b1, b2, _⟩ | ⟨n1, a1, b1, b2, _⟩
  · rcases x2 with ⟨_, a2, c1, c2, c3⟩ | ⟨n2, _⟩
    · exact ⟨fin ⟨old h4 (by decide) (by rw [r37, b1]) (by rw [c2]) (by rw [c3]) (fun k _ => by rw [c1]), old h5 (by decide) (by rw [r40, b1]) (by rw [c2]) (by rw [c3]) (fun k _ => by rw [c1])⟩, by omega⟩
    · exact absurd n2 n1
  · rcases x2 with ⟨n2, _⟩ | ⟨n2, a2, c1, c2, c3⟩
    · exfalso; omega
    · have hv : v1.toNat = 0 := by omega
      rw [hv] at c1 c2 c3
      exact ⟨fin ⟨new (by decide) b1 r37 c1, old h5 (by decide) (by rw [r40, b2]) (c2 1 (by decide)).1 (c2 1 (by decide)).2 (fun k _ => c3 _ (by omega))⟩, by omega⟩
  · rcases x2 with ⟨n2, _⟩ | ⟨n2, a2, c1, c2, c3⟩
    · exfalso; omega
    · have hv : v1.toNat = 1 := by omega
      rw [hv] at c1 c2 c3
      exact ⟨fin ⟨old h4 (by decide) (by rw [r37, b2]) (c2 0 (by decide)).1 (c2 0 (by decide)).2 (fun k _ => c3 _ (by omega)), new (by decide) b1 r40 c1⟩, by omega⟩
