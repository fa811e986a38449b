/-! WHAT STAYS TRUE OF THE REFERENCE: partly (where it gives something), so no guards and no ends are to be shown again -/
def PC (o : Option (Int × Wd)) (Q : Int → Wd → Prop) : Prop := ∀ r u, o = some (r, u) → Q r u
theorem pc_ok {o : Option (Int × Wd)} {P : Int → Wd → Prop} (h : OK o P) : PC o P := by
  obtain ⟨r, u, e, h⟩ := h
  intro r' u' e'
  rw [e] at e'
  cases e'
  exact h
theorem pc_and {o : Option (Int × Wd)} {P Q : Int → Wd → Prop} (h : PC o P) (h2 : PC o Q) : PC o (fun r u => P r u ∧ Q r u) := fun r u e => ⟨h r u e, h2 r u e⟩
theorem pc_w {o : Option (Int × Wd)} {P Q : Int → Wd → Prop} (h : PC o P) (hq : ∀ r u, P r u → Q r u) : PC o Q := fun r u e => hq r u (h r u e)
theorem ok_pc {o : Option (Int × Wd)} {P Q : Int → Wd → Prop} (h : OK o P) (h2 : PC o Q) : OK o (fun r u => P r u ∧ Q r u) := by
  obtain ⟨r, u, e, h⟩ := h
  exact ⟨r, u, e, h, h2 r u e⟩
theorem pc_none {Q : Int → Wd → Prop} : PC none Q := fun _ _ e => by cases e
theorem pc_some {r : Int} {u : Wd} {Q : Int → Wd → Prop} (h : Q r u) : PC (some (r, u)) Q := fun r' u' e => by cases e; exact h
theorem pc_call {x : Option (Int × Wd)} {f : Int → Wd → Option (Int × Wd)} {P Q : Int → Wd → Prop} (h : PC x P) (hf : ∀ r u, P r u → PC (f r u) Q) : PC (jcall x f) Q := by
  cases x with
  | none => exact pc_none
  | some q => exact hf q.1 q.2 (h q.1 q.2 rfl)
theorem pc_ite {c : Prop} [d : Decidable c] {a b : Option (Int × Wd)} {Q : Int → Wd → Prop} (h1 : c → PC a Q) (h2 : ¬ c → PC b Q) : PC (@ite _ c d a b) Q := by
  by_cases h : c
  · rw [if_pos h]; exact h1 h
  · rw [if_neg h]; exact h2 h
theorem pc_gd {c : Prop} [d : Decidable c] {a : Option (Int × Wd)} {Q : Int → Wd → Prop} (h1 : c → PC a Q) : PC (@jgd _ c d a) Q := pc_ite h1 (fun _ => pc_none)
theorem pc_let {x : Int} {f : Int → Option (Int × Wd)} {Q : Int → Wd → Prop} (h : ∀ y, y = x → PC (f y) Q) : PC (jlet x f) Q := h x rfl
theorem pc_lw {x : Wd} {f : Wd → Option (Int × Wd)} {Q : Int → Wd → Prop} (h : ∀ y, y = x → PC (f y) Q) : PC (jlw x f) Q := h x rfl
theorem lay_pc59 {k : Nat} {v2 : Int} (hk : v2 = k) (i2 : 0 ≤ v2 ∧ v2 ≤ 1829) (i0 b0 f0 z0 : Nat → Int) : ∀ (n : Nat) {w : Wd} {v3 : Int}, (0 ≤ v3 ∧ v3 ≤ 10) → (∀ j, w 47 j = i0 j) → (∀ j, w 48 j = b0 j) → (∀ j, w 49 j = f0 j) → (∀ j : Nat, (j : Int) < v3 → w 59 (k + 3 * j) = i0 j ∧ w 59 (k + 3 * j + 1) = b0 j ∧ w 59 (k + 3 * j + 2) = f0 j) → (∀ i, (i < k ∨ k + 31 ≤ i) → w 59 i = z0 i) → PC (f_R_lay_43_59_2 n v2 v3 w) (fun _ u => (∀ j : Nat, j < 10 → u 59 (k + 3 * j) = i0 j ∧ u 59 (k + 3 * j + 1) = b0 j ∧ u 59 (k + 3 * j + 2) = f0 j) ∧ ∀ i, (i < k ∨ k + 31 ≤ i) → u 59 i = z0 i) := by
  intro n
  induction n with
  | zero => intros; exact pc_none
  | succ n ih =>
    intro w v3 i3 h47 h48 h49 hD hO
    rw [f_R_lay_43_59_2]
    have w1 := w32_sp (v2 + 30)
    have w2 := w32_sp (3 * v3)
    have w3 := w32_sp (v2 + w32 (3 * v3))
    have w4 := w32_sp (w32 (v2 + w32 (3 * v3)) + 1)
    have w5 := w32_sp (w32 (v2 + w32 (3 * v3)) + 2)
    have w6 := w32_sp (v3 + 1)
    refine pc_ite (fun h => ?_) (fun h => ?_)
    · refine pc_gd (fun _ => ?_)
      refine pc_lw (fun u1 e1 => ?_)
      refine pc_some ⟨fun j hj => ?_, fun i hi => ?_⟩
      · have h1 := hD j (by omega)
        rw [e1, st_k (by omega), st_k (by omega), st_k (by omega)]
        exact h1
      · rw [e1, st_k (by omega)]; exact hO i hi
    · refine pc_gd (fun _ => ?_)
      refine pc_gd (fun _ => ?_)
      refine pc_lw (fun u2 e2 => ?_)
      refine pc_gd (fun _ => ?_)
      refine pc_gd (fun _ => ?_)
      refine pc_lw (fun u3 e3 => ?_)
      refine pc_gd (fun _ => ?_)
      refine pc_gd (fun _ => ?_)
      refine pc_lw (fun u4 e4 => ?_)
      refine pc_let (fun x5 e5 => ?_)
      have q1 : (w32 (v2 + w32 (3 * v3))).toNat = k + 3 * v3.toNat := by omega
      have q2 : (w32 (w32 (v2 + w32 (3 * v3)) + 1)).toNat = k + 3 * v3.toNat + 1 := by omega
      have q3 : (w32 (w32 (v2 + w32 (3 * v3)) + 2)).toNat = k + 3 * v3.toNat + 2 := by omega
      rw [q1] at e2; rw [q2] at e3; rw [q3] at e4
      have a47 : ∀ j, u4 47 j = i0 j := fun j => by rw [e4, st_c (by decide), e3, st_c (by decide), e2, st_c (by decide)]; exact h47 j
      have a48 : ∀ j, u4 48 j = b0 j := fun j => by rw [e4, st_c (by decide), e3, st_c (by decide), e2, st_c (by decide)]; exact h48 j
      have a49 : ∀ j, u4 49 j = f0 j := fun j => by rw [e4, st_c (by decide), e3, st_c (by decide), e2, st_c (by decide)]; exact h49 j
      refine ih (by omega) a47 a48 a49 (fun j hj => ?_) (fun i hi => ?_)
      · by_cases hjv : j = v3.toNat
        · subst hjv
          refine ⟨?_, ?_, ?_⟩
          · rw [e4, st_k (by omega), e3, st_k (by omega), e2, st_eq]; exact h47 _
          · rw [e4, st_k (by omega), e3, st_eq, e2, st_c (by decide)]; exact h48 _
          · rw [e4, st_eq, e3, st_c (by decide), e2, st_c (by decide)]; exact h49 _
        · have h1 := hD j (by omega)
          rw [e4, st_k (by omega), st_k (by omega), st_k (by omega), e3, st_k (by omega), st_k (by omega), st_k (by omega), e2, st_k (by omega), st_k (by omega), st_k (by omega)]
          exact h1
      · rw [e4, st_k (by omega), e3, st_k (by omega), e2, st_k (by omega)]; exact hO i hi
theorem lay59 {k : Nat} {v2 : Int} (hk : v2 = k) (i2 : 0 ≤ v2 ∧ v2 ≤ 1829) (w : Wd) : PC (f_R_lay_43_59 v2 w) (fun _ u => (∀ j : Nat, j < 10 → u 59 (k + 3 * j) = w 47 j ∧ u 59 (k + 3 * j + 1) = w 48 j ∧ u 59 (k + 3 * j + 2) = w 49 j) ∧ ∀ i, (i < k ∨ k + 31 ≤ i) → u 59 i = w 59 i) := by
  unfold f_R_lay_43_59
  exact lay_pc59 hk i2 (w 47) (w 48) (w 49) (w 59) FU (by omega) (fun _ => rfl) (fun _ => rfl) (fun _ => rfl) (fun j hj => by omega) (fun _ _ => rfl)
theorem bring_pc59 {k : Nat} {v2 : Int} (hk : v2 = k) (i2 : 0 ≤ v2 ∧ v2 ≤ 1829) (P : Int) (hP : P ≤ 10) (z0 : Nat → Int) : ∀ (n : Nat) {w : Wd} {v3 : Int}, (0 ≤ v3 ∧ v3 ≤ 10) → w 43 0 = P → (∀ j, w 59 j = z0 j) → (∀ j : Nat, (j : Int) < v3 → w 47 j = z0 (k + 3 * j) ∧ w 48 j = z0 (k + 3 * j + 1) ∧ w 49 j = z0 (k + 3 * j + 2)) → PC (f_R_bring_43_59_2 n v2 v3 w) (fun _ u => ∀ j : Nat, (j : Int) < P → u 47 j = z0 (k + 3 * j) ∧ u 48 j = z0 (k + 3 * j + 1) ∧ u 49 j = z0 (k + 3 * j + 2)) := by
  intro n
  induction n with
  | zero => intros; exact pc_none
  | succ n ih =>
    intro w v3 i3 h0 hz hD
    rw [f_R_bring_43_59_2]
    have w2 := w32_sp (3 * v3)
    have w3 := w32_sp (v2 + w32 (3 * v3))
    have w4 := w32_sp (w32 (v2 + w32 (3 * v3)) + 1)
    have w5 := w32_sp (w32 (v2 + w32 (3 * v3)) + 2)
    have w6 := w32_sp (v3 + 1)
    refine pc_ite (fun h => ?_) (fun h => ?_)
    · refine pc_gd (fun _ => ?_)
      refine pc_lw (fun u1 e1 => ?_)
      refine pc_some (fun j hj => ?_)
      rw [e1, st_c (by decide), st_c (by decide), st_c (by decide)]
      exact hD j (by omega)
    · refine pc_gd (fun _ => ?_)
      refine pc_gd (fun _ => ?_)
      refine pc_lw (fun u2 e2 => ?_)
      refine pc_gd (fun _ => ?_)
      refine pc_gd (fun _ => ?_)
      refine pc_lw (fun u3 e3 => ?_)
      refine pc_gd (fun _ => ?_)
      refine pc_gd (fun _ => ?_)
      refine pc_lw (fun u4 e4 => ?_)
      refine pc_let (fun x5 e5 => ?_)
      have q1 : (w32 (v2 + w32 (3 * v3))).toNat = k + 3 * v3.toNat := by omega
      have q2 : (w32 (w32 (v2 + w32 (3 * v3)) + 1)).toNat = k + 3 * v3.toNat + 1 := by omega
      have q3 : (w32 (w32 (v2 + w32 (3 * v3)) + 2)).toNat = k + 3 * v3.toNat + 2 := by omega
      rw [q1] at e2; rw [q2] at e3; rw [q3] at e4
      have aZ2 : ∀ j, u2 59 j = z0 j := fun j => by rw [e2, st_c (by decide)]; exact hz j
      have aZ3 : ∀ j, u3 59 j = z0 j := fun j => by rw [e3, st_c (by decide)]; exact aZ2 j
      rw [hz] at e2; rw [aZ2] at e3; rw [aZ3] at e4
      refine ih (by omega) (by rw [e4, st_c (by decide), e3, st_c (by decide), e2, st_c (by decide)]; exact h0) (fun j => by rw [e4, st_c (by decide)]; exact aZ3 j) (fun j hj => ?_)
      by_cases hjv : j = v3.toNat
      · subst hjv
        refine ⟨?_, ?_, ?_⟩
        · rw [e4, st_c (by decide), e3, st_c (by decide), e2, st_eq]
        · rw [e4, st_c (by decide), e3, st_eq]
        · rw [e4, st_eq]
      · have h1 := hD j (by omega)
        rw [e4, st_c (by decide), st_c (by decide), st_k hjv, e3, st_c (by decide), st_k hjv, st_c (by decide), e2, st_k hjv, st_c (by decide), st_c (by decide)]
        exact h1
theorem bring59 {k : Nat} {v2 : Int} (hk : v2 = k) (i2 : 0 ≤ v2 ∧ v2 ≤ 1829) (w : Wd) (hP : w 43 0 ≤ 10) : PC (f_R_bring_43_59 v2 w) (fun _ u => ∀ j : Nat, (j : Int) < w 43 0 → u 47 j = w 59 (k + 3 * j) ∧ u 48 j = w 59 (k + 3 * j + 1) ∧ u 49 j = w 59 (k + 3 * j + 2)) := by
  unfold f_R_bring_43_59
  exact bring_pc59 hk i2 (w 43 0) hP (w 59) FU (by omega) rfl (fun _ => rfl) (fun j hj => by omega)
theorem lay_pc79 {k : Nat} {v2 : Int} (hk : v2 = k) (i2 : 0 ≤ v2 ∧ v2 ≤ 105) (i0 b0 f0 z0 : Nat → Int) : ∀ (n : Nat) {w : Wd} {v3 : Int}, (0 ≤ v3 ∧ v3 ≤ 10) → (∀ j, w 47 j = i0 j) → (∀ j, w 48 j = b0 j) → (∀ j, w 49 j = f0 j) → (∀ j : Nat, (j : Int) < v3 → w 79 (k + 3 * j) = i0 j ∧ w 79 (k + 3 * j + 1) = b0 j ∧ w 79 (k + 3 * j + 2) = f0 j) → (∀ i, (i < k ∨ k + 31 ≤ i) → w 79 i = z0 i) → PC (f_R_lay_43_79_2 n v2 v3 w) (fun _ u => (∀ j : Nat, j < 10 → u 79 (k + 3 * j) = i0 j ∧ u 79 (k + 3 * j + 1) = b0 j ∧ u 79 (k + 3 * j + 2) = f0 j) ∧ ∀ i, (i < k ∨ k + 31 ≤ i) → u 79 i = z0 i) := by
  intro n
  induction n with
  | zero => intros; exact pc_none
  | succ n ih =>
    intro w v3 i3 h47 h48 h49 hD hO
    rw [f_R_lay_43_79_2]
    have w1 := w32_sp (v2 + 30)
    have w2 := w32_sp (3 * v3)
    have w3 := w32_sp (v2 + w32 (3 * v3))
    have w4 := w32_sp (w32 (v2 + w32 (3 * v3)) + 1)
    have w5 := w32_sp (w32 (v2 + w32 (3 * v3)) + 2)
    have w6 := w32_sp (v3 + 1)
    refine pc_ite (fun h => ?_) (fun h => ?_)
    · refine pc_gd (fun _ => ?_)
      refine pc_lw (fun u1 e1 => ?_)
      refine pc_some ⟨fun j hj => ?_, fun i hi => ?_⟩
      · have h1 := hD j (by omega)
        rw [e1, st_k (by omega), st_k (by omega), st_k (by omega)]
        exact h1
      · rw [e1, st_k (by omega)]; exact hO i hi
    · refine pc_gd (fun _ => ?_)
      refine pc_gd (fun _ => ?_)
      refine pc_lw (fun u2 e2 => ?_)
      refine pc_gd (fun _ => ?_)
      refine pc_gd (fun _ => ?_)
      refine pc_lw (fun u3 e3 => ?_)
      refine pc_gd (fun _ => ?_)
      refine pc_gd (fun _ => ?_)
      refine pc_lw (fun u4 e4 => ?_)
      refine pc_let (fun x5 e5 => ?_)
      have q1 : (w32 (v2 + w32 (3 * v3))).toNat = k + 3 * v3.toNat := by omega
      have q2 : (w32 (w32 (v2 + w32 (3 * v3)) + 1)).toNat = k + 3 * v3.toNat + 1 := by omega
      have q3 : (w32 (w32 (v2 + w32 (3 * v3)) + 2)).toNat = k + 3 * v3.toNat + 2 := by omega
      rw [q1] at e2; rw [q2] at e3; rw [q3] at e4
      have a47 : ∀ j, u4 47 j = i0 j := fun j => by rw [e4, st_c (by decide), e3, st_c (by decide), e2, st_c (by decide)]; exact h47 j
      have a48 : ∀ j, u4 48 j = b0 j := fun j => by rw [e4, st_c (by decide), e3, st_c (by decide), e2, st_c (by decide)]; exact h48 j
      have a49 : ∀ j, u4 49 j = f0 j := fun j => by rw [e4, st_c (by decide), e3, st_c (by decide), e2, st_c (by decide)]; exact h49 j
      refine ih (by omega) a47 a48 a49 (fun j hj => ?_) (fun i hi => ?_)
      · by_cases hjv : j = v3.toNat
        · subst hjv
          refine ⟨?_, ?_, ?_⟩
          · rw [e4, st_k (by omega), e3, st_k (by omega), e2, st_eq]; exact h47 _
          · rw [e4, st_k (by omega), e3, st_eq, e2, st_c (by decide)]; exact h48 _
          · rw [e4, st_eq, e3, st_c (by decide), e2, st_c (by decide)]; exact h49 _
        · have h1 := hD j (by omega)
          rw [e4, st_k (by omega), st_k (by omega), st_k (by omega), e3, st_k (by omega), st_k (by omega), st_k (by omega), e2, st_k (by omega), st_k (by omega), st_k (by omega)]
          exact h1
      · rw [e4, st_k (by omega), e3, st_k (by omega), e2, st_k (by omega)]; exact hO i hi
theorem lay79 {k : Nat} {v2 : Int} (hk : v2 = k) (i2 : 0 ≤ v2 ∧ v2 ≤ 105) (w : Wd) : PC (f_R_lay_43_79 v2 w) (fun _ u => (∀ j : Nat, j < 10 → u 79 (k + 3 * j) = w 47 j ∧ u 79 (k + 3 * j + 1) = w 48 j ∧ u 79 (k + 3 * j + 2) = w 49 j) ∧ ∀ i, (i < k ∨ k + 31 ≤ i) → u 79 i = w 79 i) := by
  unfold f_R_lay_43_79
  exact lay_pc79 hk i2 (w 47) (w 48) (w 49) (w 79) FU (by omega) (fun _ => rfl) (fun _ => rfl) (fun _ => rfl) (fun j hj => by omega) (fun _ _ => rfl)
theorem bring_pc79 {k : Nat} {v2 : Int} (hk : v2 = k) (i2 : 0 ≤ v2 ∧ v2 ≤ 105) (P : Int) (hP : P ≤ 10) (z0 : Nat → Int) : ∀ (n : Nat) {w : Wd} {v3 : Int}, (0 ≤ v3 ∧ v3 ≤ 10) → w 43 0 = P → (∀ j, w 79 j = z0 j) → (∀ j : Nat, (j : Int) < v3 → w 47 j = z0 (k + 3 * j) ∧ w 48 j = z0 (k + 3 * j + 1) ∧ w 49 j = z0 (k + 3 * j + 2)) → PC (f_R_bring_43_79_2 n v2 v3 w) (fun _ u => ∀ j : Nat, (j : Int) < P → u 47 j = z0 (k + 3 * j) ∧ u 48 j = z0 (k + 3 * j + 1) ∧ u 49 j = z0 (k + 3 * j + 2)) := by
  intro n
  induction n with
  | zero => intros; exact pc_none
  | succ n ih =>
    intro w v3 i3 h0 hz hD
    rw [f_R_bring_43_79_2]
    have w2 := w32_sp (3 * v3)
    have w3 := w32_sp (v2 + w32 (3 * v3))
    have w4 := w32_sp (w32 (v2 + w32 (3 * v3)) + 1)
    have w5 := w32_sp (w32 (v2 + w32 (3 * v3)) + 2)
    have w6 := w32_sp (v3 + 1)
    refine pc_ite (fun h => ?_) (fun h => ?_)
    · refine pc_gd (fun _ => ?_)
      refine pc_lw (fun u1 e1 => ?_)
      refine pc_some (fun j hj => ?_)
      rw [e1, st_c (by decide), st_c (by decide), st_c (by decide)]
      exact hD j (by omega)
    · refine pc_gd (fun _ => ?_)
      refine pc_gd (fun _ => ?_)
      refine pc_lw (fun u2 e2 => ?_)
      refine pc_gd (fun _ => ?_)
      refine pc_gd (fun _ => ?_)
      refine pc_lw (fun u3 e3 => ?_)
      refine pc_gd (fun _ => ?_)
      refine pc_gd (fun _ => ?_)
      refine pc_lw (fun u4 e4 => ?_)
      refine pc_let (fun x5 e5 => ?_)
      have q1 : (w32 (v2 + w32 (3 * v3))).toNat = k + 3 * v3.toNat := by omega
      have q2 : (w32 (w32 (v2 + w32 (3 * v3)) + 1)).toNat = k + 3 * v3.toNat + 1 := by omega
      have q3 : (w32 (w32 (v2 + w32 (3 * v3)) + 2)).toNat = k + 3 * v3.toNat + 2 := by omega
      rw [q1] at e2; rw [q2] at e3; rw [q3] at e4
      have aZ2 : ∀ j, u2 79 j = z0 j := fun j => by rw [e2, st_c (by decide)]; exact hz j
      have aZ3 : ∀ j, u3 79 j = z0 j := fun j => by rw [e3, st_c (by decide)]; exact aZ2 j
      rw [hz] at e2; rw [aZ2] at e3; rw [aZ3] at e4
      refine ih (by omega) (by rw [e4, st_c (by decide), e3, st_c (by decide), e2, st_c (by decide)]; exact h0) (fun j => by rw [e4, st_c (by decide)]; exact aZ3 j) (fun j hj => ?_)
      by_cases hjv : j = v3.toNat
      · subst hjv
        refine ⟨?_, ?_, ?_⟩
        · rw [e4, st_c (by decide), e3, st_c (by decide), e2, st_eq]
        · rw [e4, st_c (by decide), e3, st_eq]
        · rw [e4, st_eq]
      · have h1 := hD j (by omega)
        rw [e4, st_c (by decide), st_c (by decide), st_k hjv, e3, st_c (by decide), st_k hjv, st_c (by decide), e2, st_k hjv, st_c (by decide), st_c (by decide)]
        exact h1
theorem bring79 {k : Nat} {v2 : Int} (hk : v2 = k) (i2 : 0 ≤ v2 ∧ v2 ≤ 105) (w : Wd) (hP : w 43 0 ≤ 10) : PC (f_R_bring_43_79 v2 w) (fun _ u => ∀ j : Nat, (j : Int) < w 43 0 → u 47 j = w 79 (k + 3 * j) ∧ u 48 j = w 79 (k + 3 * j + 1) ∧ u 49 j = w 79 (k + 3 * j + 2)) := by
  unfold f_R_bring_43_79
  exact bring_pc79 hk i2 (w 43 0) hP (w 79) FU (by omega) rfl (fun _ => rfl) (fun j hj => by omega)
/-- a snapshot: who was brought by whom, and since when -/
def Sn (P : Int) (isf bf ff : Nat → Int) (wk : Int) : Prop := (∀ j : Nat, (j : Int) < P → bf j ≠ -1 → 0 ≤ bf j ∧ bf j < P ∧ isf (bf j).toNat ≠ 0 ∧ ff (bf j).toNat < ff j) ∧ ∀ j : Nat, (j : Int) < P → ff j ≤ wk
def Un (w : Wd) : Prop := ∀ t : Nat, (t : Int) < w 43 32 → Sn (w 43 0) (fun j => w 59 (31 * t + 3 * j)) (fun j => w 59 (31 * t + 3 * j + 1)) (fun j => w 59 (31 * t + 3 * j + 2)) (w 43 8 - w 43 32 + t)
def Kp (w : Wd) : Prop := ∀ m : Nat, m < 2 → w 80 m ≠ 0 → w 81 m = w 43 56 → Sn (w 43 0) (fun j => w 79 (105 * m + 3 * j)) (fun j => w 79 (105 * m + 3 * j + 1)) (fun j => w 79 (105 * m + 3 * j + 2)) (w 79 (105 * m + 43))
def Cm (w : Wd) : Prop := 0 ≤ w 43 56 ∧ w 43 56 ≤ w 43 0 ∧ ∀ m : Nat, m < 2 → w 81 m ≤ w 43 56
def IV (w : Wd) : Prop := Sn (w 43 0) (w 47) (w 48) (w 49) (w 43 8) ∧ Un w ∧ Kp w ∧ Cm w ∧ w 43 32 ≤ w 43 8
def Kb (w : Wd) : Prop := (∀ a c : Nat, (a : Int) < w 43 0 → (c : Int) < w 43 0 → bt (w 45 a) c = bt (w 45 c) a) ∧ ∀ a q : Nat, (a : Int) < w 43 0 → q < 10 → bt (w 45 a) q = true → (q : Int) < w 43 0
def RS (w : Wd) : Prop := G [] w w ∧ IV w ∧ Kb w
def fvr (S : List Nat) : Bool := S.all fun x => [45, 47, 48, 49, 59, 79, 80, 81].all (fun c => Nat.blt x (c * 100) || Nat.blt (c * 100 + 99) x) && !([4300, 4308, 4332, 4356, 4399].contains x)
theorem fvr_ar {S : List Nat} (h : fvr S = true) {c : Nat} (hc : c ∈ [45, 47, 48, 49, 59, 79, 80, 81]) (k : Nat) : mS S c k = false := by
  refine mS_ar (List.all_eq_true.mpr fun x hx => ?_) k
  have h1 := List.all_eq_true.mp h x hx
  rw [Bool.and_eq_true] at h1
  exact List.all_eq_true.mp h1.1 c hc
theorem fvr_43 {S : List Nat} (h : fvr S = true) {k : Nat} (hc : k ∈ [0, 8, 32, 56]) : mS S 43 k = false := by
  have h1 : ∀ x, x ∈ [4300, 4308, 4332, 4356, 4399] → S.contains x = false := by
    intro x hx
    cases hs : S.contains x with
    | false => rfl
    | true =>
      have h2 := List.all_eq_true.mp h x (List.contains_iff_mem.mp hs)
      rw [Bool.and_eq_true] at h2
      rw [List.contains_iff_mem.mpr hx] at h2
      exact absurd h2.2 (by decide)
  unfold mS
  simp only [List.mem_cons, List.not_mem_nil, or_false] at hc
  rcases hc with rfl | rfl | rfl | rfl
  · rw [h1 _ (by decide), h1 _ (by decide)]; rfl
  · rw [h1 _ (by decide), h1 _ (by decide)]; rfl
  · rw [h1 _ (by decide), h1 _ (by decide)]; rfl
  · rw [h1 _ (by decide), h1 _ (by decide)]; rfl
theorem iv_eq {w u : Wd} (h : IV w) (h0 : u 43 0 = w 43 0) (h8 : u 43 8 = w 43 8) (h32 : u 43 32 = w 43 32) (h56 : u 43 56 = w 43 56) (h47 : u 47 = w 47) (h48 : u 48 = w 48) (h49 : u 49 = w 49) (h59 : u 59 = w 59) (h79 : u 79 = w 79) (h80 : u 80 = w 80) (h81 : u 81 = w 81) : IV u := by
  unfold IV Un Kp Cm at *
  rw [h0, h8, h32, h56, h47, h48, h49, h59, h79, h80, h81]
  exact h
theorem kb_eq {w u : Wd} (h : Kb w) (h0 : u 43 0 = w 43 0) (h45 : u 45 = w 45) : Kb u := by
  unfold Kb at *
  rw [h0, h45]
  exact h
theorem iv_g {S : List Nat} {w u : Wd} (h : IV w) (hG : G S w u) (hf : fvr S = true) : IV u :=
  iv_eq h (hG.2.1 43 0 (fvr_43 hf (by decide))) (hG.2.1 43 8 (fvr_43 hf (by decide))) (hG.2.1 43 32 (fvr_43 hf (by decide))) (hG.2.1 43 56 (fvr_43 hf (by decide))) (funext fun k => hG.2.1 47 k (fvr_ar hf (by decide) k)) (funext fun k => hG.2.1 48 k (fvr_ar hf (by decide) k)) (funext fun k => hG.2.1 49 k (fvr_ar hf (by decide) k)) (funext fun k => hG.2.1 59 k (fvr_ar hf (by decide) k)) (funext fun k => hG.2.1 79 k (fvr_ar hf (by decide) k)) (funext fun k => hG.2.1 80 k (fvr_ar hf (by decide) k)) (funext fun k => hG.2.1 81 k (fvr_ar hf (by decide) k))
theorem kb_g {S : List Nat} {w u : Wd} (h : Kb w) (hG : G S w u) (hf : fvr S = true) : Kb u :=
  kb_eq h (hG.2.1 43 0 (fvr_43 hf (by decide))) (funext fun k => hG.2.1 45 k (fvr_ar hf (by decide) k))
theorem rs_g {S : List Nat} {w u : Wd} (h : RS w) (hG : G S w u) (hf : fvr S = true) : RS u :=
  ⟨g_self hG, iv_g h.2.1 hG hf, kb_g h.2.2 hG hf⟩
/-- who has an earlier week -/
def ct (f : Nat → Int) (P x : Int) : Nat → Nat
  | 0 => 0
  | n + 1 => ct f P x n + if (n : Int) < P ∧ f n < x then 1 else 0
theorem ct_le (f : Nat → Int) (P x : Int) : ∀ n, ct f P x n ≤ n := by
  intro n
  induction n with
  | zero => exact Nat.le_refl _
  | succ n ih =>
    show ct f P x n + (if (n : Int) < P ∧ f n < x then 1 else 0) ≤ n + 1
    split <;> omega
theorem ct_mono (f : Nat → Int) (P : Int) {x y : Int} (h : x ≤ y) : ∀ n, ct f P x n ≤ ct f P y n := by
  intro n
  induction n with
  | zero => exact Nat.le_refl _
  | succ n ih =>
    show ct f P x n + (if (n : Int) < P ∧ f n < x then 1 else 0) ≤ ct f P y n + (if (n : Int) < P ∧ f n < y then 1 else 0)
    split <;> split <;> omega
theorem ct_lt (f : Nat → Int) (P : Int) {i : Nat} {y : Int} (hi : (i : Int) < P) (h : f i < y) : ∀ n, i < n → ct f P (f i) n < ct f P y n := by
  intro n
  induction n with
  | zero => intro h; omega
  | succ n ih =>
    intro hn
    show ct f P (f i) n + (if (n : Int) < P ∧ f n < f i then 1 else 0) < ct f P y n + (if (n : Int) < P ∧ f n < y then 1 else 0)
    by_cases hin : i < n
    · have := ih hin
      split <;> split <;> omega
    · have e : i = n := by omega
      subst e
      have := ct_mono f P (Int.le_of_lt h) i
      rw [if_neg (by omega), if_pos ⟨hi, h⟩]
      omega
theorem ct_9 (f : Nat → Int) (P : Int) {i : Nat} (hi : i < 10) : ∀ n, i < n → ct f P (f i) n ≤ n - 1 := by
  intro n
  induction n with
  | zero => intro h; omega
  | succ n ih =>
    intro hn
    show ct f P (f i) n + (if (n : Int) < P ∧ f n < f i then 1 else 0) ≤ n + 1 - 1
    by_cases hin : i < n
    · have := ih hin
      split <;> omega
    · have e : i = n := by omega
      subst e
      have := ct_le f P (f i) i
      rw [if_neg (by omega)]
      omega
theorem ad_iv {w : Wd} (h : IV w) (h10 : w 43 0 ≤ 10) : Ad w := by
  obtain ⟨⟨h1, h2⟩, _⟩ := h
  refine ⟨fun i => if i < 10 then ct (w 49) (w 43 0) (w 49 i) 10 else 0, fun i => ?_, fun i hi hn => ?_⟩
  · by_cases hi : i < 10
    · show (if i < 10 then ct (w 49) (w 43 0) (w 49 i) 10 else 0) ≤ 9
      rw [if_pos hi]
      exact ct_9 (w 49) (w 43 0) hi 10 hi
    · show (if i < 10 then ct (w 49) (w 43 0) (w 49 i) 10 else 0) ≤ 9
      rw [if_neg hi]; decide
  · obtain ⟨q0, q1, q2, q3⟩ := h1 i hi hn
    refine ⟨q1, ?_⟩
    show (if (w 48 i).toNat < 10 then ct (w 49) (w 43 0) (w 49 (w 48 i).toNat) 10 else 0) < (if i < 10 then ct (w 49) (w 43 0) (w 49 i) 10 else 0)
    rw [if_pos (by omega), if_pos (by omega)]
    exact ct_lt (w 49) (w 43 0) (by omega) q3 10 (by omega)
theorem ks_kb {w : Wd} (h : Kb w) : Ks w := h.1
theorem fine_e (w : Wd) : f_R_fine w = some (if w 43 21 = -1 then 1 else 0, w) := by
  unfold f_R_fine
  split <;> rfl
def AQ (w u : Wd) (i : Nat) (v3 v4 wk : Int) : Prop :=
  (∀ k, u 47 k = if k = i then v4 else w 47 k) ∧ (∀ k, u 48 k = if k = i then -1 else w 48 k) ∧ (∀ k, u 49 k = if k = i then (if v4 = 1 then wk else -1) else w 49 k) ∧
  ∀ k q : Nat, q < 10 → bt (u 45 k) q = if k = i then bt v3 q else if k < i ∧ bt v3 k = true then (bt (w 45 k) q || decide (q = i)) else bt (w 45 k) q
theorem add_pc {w0 : Wd} {i : Nat} {v1 v3 v4 v5 : Int} (h1 : v1 = i) (hi : i < 10) : ∀ (n : Nat) {w : Wd} {v6 : Int}, (0 ≤ v6 ∧ v6 ≤ v1) → (∀ k, w 47 k = w0 47 k) → (∀ k, w 48 k = w0 48 k) → (∀ k, w 49 k = w0 49 k) → w 43 8 = w0 43 8 → (∀ k q : Nat, q < 10 → bt (w 45 k) q = if k = i then bt v3 q else if (k : Int) < v6 ∧ bt v3 k = true then (bt (w0 45 k) q || decide (q = i)) else bt (w0 45 k) q) → PC (f_R_add_17 n v1 v3 v4 v5 v6 w) (fun _ u => AQ w0 u i v3 v4 (w0 43 8)) := by
  intro n
  induction n with
  | zero => intros; exact pc_none
  | succ n ih =>
    intro w v6 i6 h47 h48 h49 h8 hD
    rw [f_R_add_17]
    have w6 := w32_sp (v6 + 1)
    have e1 : v1.toNat = i := by omega
    refine pc_ite (fun h => ?_) (fun h => ?_)
    · have e6 : v6 = i := by omega
      refine pc_gd (fun _ => ?_)
      refine pc_lw (fun u3 e3 => ?_)
      refine pc_gd (fun _ => ?_)
      refine pc_lw (fun u4 e4 => ?_)
      refine pc_gd (fun _ => ?_)
      refine pc_lw (fun u5 e5 => ?_)
      rw [e1] at e3 e4 e5
      have fin : ∀ z : Int, z = (if v4 = 1 then w0 43 8 else -1) → PC (f_R_add_93 v1 z u5) (fun _ u => AQ w0 u i v3 v4 (w0 43 8)) := by
        intro z hz
        unfold f_R_add_93
        refine pc_gd (fun _ => ?_)
        rw [e1]
        refine pc_lw (fun u6 e7 => ?_)
        refine pc_some ⟨fun k => ?_, fun k => ?_, fun k => ?_, fun k q hq => ?_⟩
        · rw [e7, st_c (by decide), e5, st_c (by decide), e4, st_c (by decide), e3]
          by_cases hk : k = i
          · rw [if_pos hk, hk, st_eq]
          · rw [if_neg hk, st_k hk]; exact h47 k
        · rw [e7, st_c (by decide), e5]
          by_cases hk : k = i
          · rw [if_pos hk, hk, st_eq]
          · rw [if_neg hk, st_k hk, e4, st_c (by decide), e3, st_c (by decide)]; exact h48 k
        · rw [e7]
          by_cases hk : k = i
          · rw [if_pos hk, hk, st_eq]; exact hz
          · rw [if_neg hk, st_k hk, e5, st_c (by decide), e4, st_c (by decide), e3, st_c (by decide)]; exact h49 k
        · rw [e7, st_c (by decide), e5, st_c (by decide), e4, st_c (by decide), e3, st_c (by decide), hD k q hq]
          have : ((k : Int) < v6 ∧ bt v3 k = true) = (k < i ∧ bt v3 k = true) := by
            rw [e6]
            simp
          simp only [this]
      have h58 : u5 43 8 = w0 43 8 := by rw [e5, st_c (by decide), e4, st_c (by decide), e3, st_c (by decide)]; exact h8
      refine pc_ite (fun h2 => ?_) (fun h2 => ?_)
      · exact fin _ (by rw [if_pos h2]; exact h58)
      · exact fin _ (by rw [if_neg h2])
    · have hs : (v6 + 1).toNat = v6.toNat + 1 := by omega
      have z6 : w32 (v6 + 1) = v6 + 1 := by omega
      rw [has_e w (by omega), jc_s]
      cases hb : bt v3 v6.toNat with
      | false =>
        refine pc_ite (fun _ => ?_) (fun h => absurd rfl h)
        unfold f_R_add_45
        refine pc_let (fun x9 e9 => ?_)
        refine ih (by omega) h47 h48 h49 h8 (fun k q hq => ?_)
        rw [hD k q hq]
        by_cases hki : k = i
        · rw [if_pos hki, if_pos hki]
        · rw [if_neg hki, if_neg hki]
          by_cases hkv : k = v6.toNat
          · rw [hkv, hb]; simp
          · have : ((k : Int) < v6) = ((k : Int) < x9) := by
              apply propext
              constructor <;> intro h <;> omega
            simp only [this]
      | true =>
        refine pc_ite (fun h => absurd h (by simp)) (fun _ => ?_)
        refine pc_gd (fun _ => ?_)
        refine pc_gd (fun _ => ?_)
        refine pc_lw (fun u10 e10 => ?_)
        unfold f_R_add_45
        refine pc_let (fun x9 e9 => ?_)
        refine ih (by omega) (fun k => by rw [e10, st_c (by decide)]; exact h47 k) (fun k => by rw [e10, st_c (by decide)]; exact h48 k) (fun k => by rw [e10, st_c (by decide)]; exact h49 k) (by rw [e10, st_c (by decide)]; exact h8) (fun k q hq => ?_)
        by_cases hki : k = i
        · rw [if_pos hki, e10, st_k (by omega), hD k q hq, if_pos hki]
        · rw [if_neg hki]
          by_cases hkv : k = v6.toNat
          · subst hkv
            rw [if_pos ⟨by omega, hb⟩, e10, st_eq, bt_or, bt_shl (by omega) (by omega), hD _ q hq, if_neg hki, if_neg (by omega), h1]
            simp
          · have : ((k : Int) < v6) = ((k : Int) < x9) := by
              apply propext
              constructor <;> intro h <;> omega
            rw [e10, st_k hkv, hD k q hq, if_neg hki]
            simp only [this]
theorem add_q {w : Wd} {i : Nat} {v1 v2 v3 v4 v5 : Int} (h1 : v1 = i) (hi : i < 10) : PC (f_R_add v1 v2 v3 v4 v5 w) (fun _ u => AQ w u i v3 v4 (w 43 8)) := by
  unfold f_R_add
  have e1 : v1.toNat = i := by omega
  refine pc_gd (fun _ => ?_)
  refine pc_lw (fun u1 e2 => ?_)
  refine pc_gd (fun _ => ?_)
  refine pc_lw (fun u2 e3 => ?_)
  rw [e1] at e2 e3
  refine add_pc h1 hi FU (by omega) (fun k => ?_) (fun k => ?_) (fun k => ?_) ?_ (fun k q hq => ?_)
  · rw [e3, st_c (by decide), e2, st_c (by decide)]
  · rw [e3, st_c (by decide), e2, st_c (by decide)]
  · rw [e3, st_c (by decide), e2, st_c (by decide)]
  · rw [e3, st_c (by decide), e2, st_c (by decide)]
  · rw [e3]
    by_cases hk : k = i
    · rw [if_pos hk, hk, st_eq]
    · rw [if_neg hk, st_k hk, e2, st_c (by decide), if_neg (by omega)]
theorem told_pc {w : Wd} (hG : G md_R_told w w) (h56 : 0 ≤ w 43 56 ∧ w 43 56 ≤ 10) : PC (f_R_told w) (fun _ u => u 43 32 = 0 ∧ u 43 56 = w 43 56 + 1) := by
  unfold f_R_told
  refine pc_call (pc_ok (s_R_guests (g_self hG))) (fun r1 u2 q => ?_)
  have e2 : u2 = w := g_nil q.2
  subst e2
  refine pc_gd (fun _ => ?_)
  refine pc_lw (fun u3 e3 => ?_)
  refine pc_lw (fun u4 e4 => ?_)
  refine pc_lw (fun u5 e5 => ?_)
  have t : u4 43 56 = u2 43 56 := by rw [e4, st_k (by decide), e3, st_c (by decide)]
  have w1 := w32_sp (u4 43 56 + 1)
  refine pc_some ⟨?_, ?_⟩
  · rw [e5, st_k (by decide), e4, st_eq]
  · rw [e5, st_eq]; omega
/-- knows, among so many people -/
def KN (P : Int) (f : Nat → Int) : Prop := (∀ a c : Nat, (a : Int) < P → (c : Int) < P → bt (f a) c = bt (f c) a) ∧ ∀ a q : Nat, (a : Int) < P → q < 10 → bt (f a) q = true → (q : Int) < P
theorem kn_add {w u : Wd} {i : Nat} {v3 v4 wk : Int} (hi : i < 10) (h : KN (i : Int) (w 45)) (hA : AQ w u i v3 v4 wk) (hk : ∀ q : Nat, q < 10 → bt v3 q = true → q < i) : KN ((i : Int) + 1) (u 45) := by
  obtain ⟨_, _, _, hB⟩ := hA
  constructor
  · intro a c ha hc
    rw [hB a c (by omega), hB c a (by omega)]
    by_cases h1 : a = i <;> by_cases h2 : c = i
    · rw [if_pos h1, if_pos h2, h1, h2]
    · have hci : c < i := by omega
      rw [if_pos h1, if_neg h2]
      cases hb : bt v3 c with
      | true => rw [if_pos ⟨hci, rfl⟩]; simp [h1]
      | false =>
        rw [if_neg (by simp)]
        cases hx : bt (w 45 c) a with
        | false => rfl
        | true => have := h.2 c a (by omega) (by omega) hx; omega
    · have hai : a < i := by omega
      rw [if_neg h1, if_pos h2]
      cases hb : bt v3 a with
      | true => rw [if_pos ⟨hai, rfl⟩]; simp [h2]
      | false =>
        rw [if_neg (by simp)]
        cases hx : bt (w 45 a) c with
        | false => rfl
        | true => have := h.2 a c (by omega) (by omega) hx; omega
    · rw [if_neg h1, if_neg h2]
      have e := h.1 a c (by omega) (by omega)
      have f1 : decide (c = i) = false := decide_eq_false h2
      have f2 : decide (a = i) = false := decide_eq_false h1
      rw [f1, f2, Bool.or_false, Bool.or_false, ite_self, ite_self]
      exact e
  · intro a q ha hq hb
    rw [hB a q hq] at hb
    by_cases h1 : a = i
    · rw [if_pos h1] at hb
      have := hk q hq hb
      omega
    · rw [if_neg h1] at hb
      by_cases h2 : q = i
      · omega
      · have f1 : decide (q = i) = false := decide_eq_false h2
        rw [f1, Bool.or_false, ite_self] at hb
        have := h.2 a q (by omega) hq hb
        omega
theorem in_e (v a b : Int) (w : Wd) : f_R_in v a b w = some (if a ≤ v ∧ v ≤ b then 1 else 0, w) := by
  unfold f_R_in
  by_cases h1 : v < a
  · rw [if_pos h1, if_neg (by omega)]
  · by_cases h2 : b < v
    · rw [if_neg h1, if_pos h2, if_neg (by omega)]
    · rw [if_neg h1, if_neg h2, if_pos (by omega)]
def R54 (i : Nat) (z : Nat → Int) (u : Wd) : Prop := (∀ k, k ≠ i → u 54 k = z k) ∧ ∀ q : Nat, q < 10 → bt (u 54 i) q = true → q < i
theorem r54_eq {i : Nat} {z : Nat → Int} {w u : Wd} (h : R54 i z w) (e : ∀ k, u 54 k = w 54 k) : R54 i z u := ⟨fun k hk => by rw [e]; exact h.1 k hk, fun q hq hb => by rw [e] at hb; exact h.2 q hq hb⟩
theorem ro_142 {b w : Wd} {i : Nat} {z : Nat → Int} {v1 s1 s2 : Int} (hG : G md_R_readOne b w) (i1 : 0 ≤ v1 ∧ v1 ≤ 9) (is1 : 0 ≤ s1 ∧ s1 ≤ 9) (is2 : 0 ≤ s2 ∧ s2 ≤ 1) (h17 : w 43 17 = 52) (h : R54 i z w) : PC (f_R_readOne_142 v1 s1 s2 w) (fun _ u => R54 i z u) := by
  unfold f_R_readOne_142
  refine pc_gd (fun _ => ?_)
  refine pc_lw (fun u16 e16 => ?_)
  have g16 : G md_R_readOne b u16 := g_st hG e16 rfl rfl (show (0 : Int) ≤ s2 ∧ s2 ≤ 1 by omega)
  have t17 : u16 43 17 = 52 := by rw [e16, st_c (by decide)]; exact h17
  refine pc_call (pc_ok (s_R_passes (g_self g16) (by decide) (Or.inl t17) (by decide))) (fun r17 u18 q => ?_)
  refine pc_gd (fun _ => ?_)
  refine pc_lw (fun u19 e19 => ?_)
  exact pc_some (r54_eq h (fun k => by rw [e19, st_c (by decide), q.2.1.2.1 54 k (mS_ar rfl k), e16, st_c (by decide)]))
theorem flt_pc {S : List Nat} {b w : Wd} {f : Int → Wd → Option (Int × Wd)} {Q : Int → Wd → Prop} (hG : G S b w) (h : ∀ r u, G md_R_fault w u → ¬ u 43 21 = -1 → PC (f r u) Q) : PC (jcall (f_R_fault (w 43 20) w) f) Q := by
  have a20 : (0 : Int) ≤ w 43 20 ∧ w 43 20 ≤ 80 := hG.1 43 20
  exact pc_call (pc_ok (s_R_fault (g_self hG) a20 a20.1)) (fun r u q => h r u q.2.1 q.2.2)
theorem ro_55 {b : Wd} {i : Nat} {z : Nat → Int} {v1 : Int} (h1 : v1 = i) (i1 : 0 ≤ v1 ∧ v1 ≤ 9) : ∀ (n : Nat) {w : Wd} {v2 : Int}, G md_R_readOne b w → w 43 17 = 52 → R54 i z w → PC (f_R_readOne_55 n v1 v2 w) (fun _ u => R54 i z u) := by
  intro n
  induction n with
  | zero => intros; exact pc_none
  | succ n ih =>
    intro w v2 hG h17 hR
    rw [f_R_readOne_55]
    obtain ⟨r, e, p⟩ := here_e hG h17
    have a20 : (0 : Int) ≤ w 43 20 ∧ w 43 20 ≤ 80 := hG.1 43 20
    have a18 : (0 : Int) ≤ w 43 18 ∧ w 43 18 ≤ 80 := hG.1 43 18
    rw [e, jc_s, in_e, jc_s]
    refine pc_ite (fun h => ?_) (fun h => ?_)
    · refine pc_call (pc_ok (s_R_passes (g_self hG) (by decide) (Or.inl h17) (by decide))) (fun r14 u15 q => ?_)
      have g15 : G md_R_readOne b u15 := g_tr hG q.2.1 rfl
      have t17 : u15 43 17 = 52 := (q.2.1.2.1 43 17 rfl).trans h17
      have hR15 := r54_eq hR (fun k => q.2.1.2.1 54 k (mS_ar rfl k))
      refine pc_ite (fun _ => ?_) (fun _ => ?_)
      · exact ro_142 g15 i1 i1 (by decide) t17 hR15
      · exact ro_142 g15 i1 i1 (by decide) t17 hR15
    · have hr : 97 ≤ r ∧ r ≤ 106 := by
        by_cases h2 : 97 ≤ r ∧ r ≤ 106
        · exact h2
        · rw [if_neg h2] at h; exact absurd rfl h
      have x87 : PC (f_R_readOne_87 w) (fun _ u => R54 i z u) := by
        unfold f_R_readOne_87
        exact flt_pc hG (fun r23 u24 g24 _ => pc_some (r54_eq hR (fun k => g24.2.1 54 k (mS_ar rfl k))))
      rw [e, jc_s]
      have w1 := w32_sp (r - 97)
      refine pc_let (fun x22 e22 => ?_)
      refine pc_ite (fun _ => x87) (fun _ => ?_)
      refine pc_ite (fun hx => ?_) (fun _ => x87)
      refine pc_gd (fun _ => ?_)
      refine pc_gd (fun _ => ?_)
      have a54 : (0 : Int) ≤ w 54 v1.toNat ∧ w 54 v1.toNat ≤ 511 := hG.1 54 v1.toNat
      have s1 := ishl1_n 8 (i := x22) (j := 8) (m := 256) (by decide) (by decide) (by decide) (by omega)
      have s2 := ior_n 9 (x := w 54 v1.toNat) (y := ishl 1 x22) (m := 511) (by decide) (by decide) (by omega) (by omega)
      refine pc_lw (fun u25 e25 => ?_)
      have g25 : G md_R_readOne b u25 := g_st hG e25 rfl rfl (show (0 : Int) ≤ ior (w 54 v1.toNat) (ishl 1 x22) ∧ ior (w 54 v1.toNat) (ishl 1 x22) ≤ 511 by omega)
      have t20 : u25 43 20 = w 43 20 := by rw [e25, st_c (by decide)]
      have w2 := w32_sp (u25 43 20 + 1)
      refine pc_lw (fun u26 e26 => ?_)
      have g26 : G md_R_readOne b u26 := g_st g25 e26 rfl rfl (show (0 : Int) ≤ w32 (u25 43 20 + 1) ∧ w32 (u25 43 20 + 1) ≤ 80 by omega)
      have hv : v1.toNat = i := by omega
      rw [hv] at e25
      refine ih g26 (by rw [e26, st_k (by decide), e25, st_c (by decide)]; exact h17) ⟨fun k hk => ?_, fun q hq hb => ?_⟩
      · rw [e26, st_c (by decide), e25, st_k hk]; exact hR.1 k hk
      · rw [e26, st_c (by decide), e25, st_eq, bt_or, bt_shl (by omega) (by omega)] at hb
        cases hb2 : bt (w 54 i) q with
        | true => exact hR.2 q hq hb2
        | false =>
          rw [hb2, Bool.false_or] at hb
          have : q = x22.toNat := by simpa using hb
          omega
theorem ro_pc {w : Wd} {i : Nat} {v1 : Int} (h1 : v1 = i) (i1 : 0 ≤ v1 ∧ v1 ≤ 9) (hG : G md_R_readOne w w) (h17 : w 43 17 = 52) : PC (f_R_readOne v1 w) (fun _ u => (∀ k, k ≠ i → u 54 k = w 54 k) ∧ (u 43 21 = -1 → ∀ q : Nat, q < 10 → bt (u 54 i) q = true → q < i)) := by
  unfold f_R_readOne
  obtain ⟨r, e, p⟩ := here_e hG h17
  have a20 : (0 : Int) ≤ w 43 20 ∧ w 43 20 ≤ 80 := hG.1 43 20
  have a18 : (0 : Int) ≤ w 43 18 ∧ w 43 18 ≤ 80 := hG.1 43 18
  rw [e, jc_s, in_e, jc_s]
  refine pc_ite (fun h => ?_) (fun h => ?_)
  · exact flt_pc hG (fun r27 u28 g28 hn => pc_some ⟨fun k _ => g28.2.1 54 k (mS_ar rfl k), fun h => absurd h hn⟩)
  · have hr : 48 ≤ r ∧ r ≤ 57 := by
      by_cases h2 : 48 ≤ r ∧ r ≤ 57
      · exact h2
      · rw [if_neg h2] at h; exact absurd rfl h
    rw [e, jc_s]
    have w1 := w32_sp (r - 48)
    refine pc_gd (fun _ => ?_)
    refine pc_lw (fun u7 e7 => ?_)
    have g7 : G md_R_readOne w u7 := g_st hG e7 rfl rfl (show (0 : Int) ≤ w32 (r - 48) ∧ w32 (r - 48) ≤ 9 by omega)
    have t20 : u7 43 20 = w 43 20 := by rw [e7, st_c (by decide)]
    have w2 := w32_sp (u7 43 20 + 1)
    refine pc_lw (fun u8 e8 => ?_)
    have g8 : G md_R_readOne w u8 := g_st g7 e8 rfl rfl (show (0 : Int) ≤ w32 (u7 43 20 + 1) ∧ w32 (u7 43 20 + 1) ≤ 80 by omega)
    refine pc_gd (fun _ => ?_)
    refine pc_lw (fun u9 e9 => ?_)
    have g9 : G md_R_readOne w u9 := g_st g8 e9 rfl rfl (show (0 : Int) ≤ 0 ∧ (0 : Int) ≤ 511 by decide)
    have hv : v1.toNat = i := by omega
    rw [hv] at e9
    refine pc_w (ro_55 (i := i) (z := w 54) h1 i1 FU g9 (by rw [e9, st_c (by decide), e8, st_k (by decide), e7, st_c (by decide)]; exact h17) ⟨fun k hk => ?_, fun q hq hb => ?_⟩) (fun r u q => ⟨q.1, fun _ => q.2⟩)
    · rw [e9, st_k hk, e8, st_c (by decide), e7, st_c (by decide)]
    · rw [e9, st_eq, bt_0] at hb; cases hb
/-- what landing leaves of the feast: all as in w0 but for who comes -/
def Fz (w0 w : Wd) : Prop := w 43 0 = w0 43 0 ∧ w 43 8 = w0 43 8 ∧ w 43 56 = w0 43 56 ∧ (∀ k, w 81 k = w0 81 k)
theorem l132 {b w0 : Wd} {v1 v3 : Int} (hIV : IV w0) (hv1 : w0 43 0 < v1 ∧ v1 ≤ 10) (hNK : ∀ i : Nat, w0 43 0 ≤ i → (i : Int) < v1 → ∀ q : Nat, q < 10 → bt (w0 54 i) q = true → q < i) (h00 : 0 ≤ w0 43 0) : ∀ (n : Nat) {w : Wd} {v4 : Int}, (w0 43 0 ≤ v4 ∧ v4 ≤ v1) → G md_R_land b w → Fz w0 w → (∀ k, w 54 k = w0 54 k) → (∀ j : Nat, (j : Int) < w0 43 0 → w 47 j = w0 47 j ∧ w 48 j = w0 48 j ∧ w 49 j = w0 49 j) → (∀ j : Nat, w0 43 0 ≤ j → (j : Int) < v4 → w 48 j = -1 ∧ w 49 j ≤ w0 43 8) → KN v4 (w 45) → PC (f_R_land_132 n v1 v3 v4 w) (fun _ u => IV u ∧ Kb u) := by
  intro n
  induction n with
  | zero => intros; exact pc_none
  | succ n ih =>
    intro w v4 i4 hG hFz h54 hO hN hK
    rw [f_R_land_132]
    obtain ⟨⟨s1, s2⟩, hUn, hKp, ⟨c1, c2, c3⟩, hUI⟩ := hIV
    obtain ⟨z0, z8, z56, z81⟩ := hFz
    refine pc_ite (fun h => ?_) (fun h => ?_)
    · have e4 : v4 = v1 := by omega
      refine pc_lw (fun u10 e10 => ?_)
      have g10 : G md_R_land b u10 := g_st hG e10 rfl rfl (show (0 : Int) ≤ v1 ∧ v1 ≤ 10 by omega)
      have t56 : u10 43 56 = w0 43 56 := by rw [e10, st_k (by decide)]; exact z56
      refine pc_call (pc_and (pc_ok (s_R_told (g_self g10))) (told_pc (g_self g10) (by omega))) (fun r11 u12 q => ?_)
      obtain ⟨⟨_, gy, _⟩, q32, q56⟩ := q
      have y0 : u12 43 0 = v1 := (gy.2.1 43 0 rfl).trans (by rw [e10, st_eq])
      have y8 : u12 43 8 = w0 43 8 := (gy.2.1 43 8 rfl).trans (by rw [e10, st_k (by decide)]; exact z8)
      have a8 : (0 : Int) ≤ u12 43 8 ∧ u12 43 8 ≤ 60 := gy.1 43 8
      have y45 : ∀ k, u12 45 k = w 45 k := fun k => (gy.2.1 45 k (mS_ar rfl k)).trans (by rw [e10, st_c (by decide)])
      have y47 : ∀ k, u12 47 k = w 47 k := fun k => (gy.2.1 47 k (mS_ar rfl k)).trans (by rw [e10, st_c (by decide)])
      have y48 : ∀ k, u12 48 k = w 48 k := fun k => (gy.2.1 48 k (mS_ar rfl k)).trans (by rw [e10, st_c (by decide)])
      have y49 : ∀ k, u12 49 k = w 49 k := fun k => (gy.2.1 49 k (mS_ar rfl k)).trans (by rw [e10, st_c (by decide)])
      have y81 : ∀ k, u12 81 k = w0 81 k := fun k => (gy.2.1 81 k (mS_ar rfl k)).trans (by rw [e10, st_c (by decide)]; exact z81 k)
      refine pc_some ⟨⟨⟨fun j hj hn => ?_, fun j hj => ?_⟩, fun t ht => ?_, fun m hm _ h81 => ?_, ⟨by omega, by omega, fun m hm => ?_⟩, by omega⟩, ?_⟩
      · rw [y0] at hj
        rw [y48] at hn ⊢
        by_cases hjP : (j : Int) < w0 43 0
        · obtain ⟨o1, o2, o3⟩ := hO j hjP
          rw [o2] at hn ⊢
          obtain ⟨b0, b1, b2, b3⟩ := s1 j hjP hn
          obtain ⟨p1, p2, p3⟩ := hO (w0 48 j).toNat (by omega)
          refine ⟨b0, by omega, by rw [y47, p1]; exact b2, by rw [y49, y49, p3, o3]; exact b3⟩
        · exact absurd (hN j (by omega) (by omega)).1 hn
      · rw [y0] at hj
        rw [y49, y8]
        by_cases hjP : (j : Int) < w0 43 0
        · rw [(hO j hjP).2.2]; exact s2 j hjP
        · exact (hN j (by omega) (by omega)).2
      · rw [q32] at ht; omega
      · rw [y81, q56, t56] at h81
        have := c3 m hm
        omega
      · rw [y81]
        have := c3 m hm
        omega
      · unfold Kb
        have e : KN (u12 43 0) (u12 45) := by
          rw [y0, ← e4, show u12 45 = w 45 from funext y45]; exact hK
        exact e
    · refine pc_gd (fun _ => ?_)
      refine pc_gd (fun _ => ?_)
      refine pc_gd (fun _ => ?_)
      refine pc_gd (fun _ => ?_)
      have a53 : (0 : Int) ≤ (w 53 (v4).toNat) ∧ (w 53 (v4).toNat) ≤ 9 := hG.1 53 (v4).toNat
      have a54 : (0 : Int) ≤ (w 54 (v4).toNat) ∧ (w 54 (v4).toNat) ≤ 511 := hG.1 54 (v4).toNat
      have a55 : (0 : Int) ≤ (w 55 (v4).toNat) ∧ (w 55 (v4).toNat) ≤ 1 := hG.1 55 (v4).toNat
      have a56 : (0 : Int) ≤ (w 56 (v4).toNat) ∧ (w 56 (v4).toNat) ≤ 1 := hG.1 56 (v4).toNat
      refine pc_call (pc_and (pc_ok (s_R_add (g_self hG) (by omega) (by omega) (by omega) (by omega) (by omega))) (add_q (i := v4.toNat) (by omega) (by omega))) (fun r13 u14 q => ?_)
      obtain ⟨⟨_, gy⟩, hA⟩ := q
      have g14 : G md_R_land b u14 := g_tr hG gy rfl
      have w1 := w32_sp (v4 + 1)
      have hA' := hA
      obtain ⟨A47, A48, A49, _⟩ := hA'
      refine pc_let (fun x15 e15 => ?_)
      have z15 : x15 = v4 + 1 := by omega
      refine ih (by omega) g14 ⟨(gy.2.1 43 0 rfl).trans z0, (gy.2.1 43 8 rfl).trans z8, (gy.2.1 43 56 rfl).trans z56, fun k => (gy.2.1 81 k (mS_ar rfl k)).trans (z81 k)⟩ (fun k => (gy.2.1 54 k (mS_ar rfl k)).trans (h54 k)) (fun j hj => ?_) (fun j hj hj2 => ?_) ?_
      · rw [A47, A48, A49, if_neg (by omega), if_neg (by omega), if_neg (by omega)]
        exact hO j hj
      · rw [A48, A49]
        by_cases hjv : j = v4.toNat
        · rw [if_pos hjv, if_pos hjv]
          have a8 : (0 : Int) ≤ w 43 8 ∧ w 43 8 ≤ 60 := hG.1 43 8
          refine ⟨rfl, ?_⟩
          split <;> omega
        · rw [if_neg hjv, if_neg hjv]; exact hN j hj (by omega)
      · rw [z15, show v4 + 1 = ((v4.toNat : Nat) : Int) + 1 by omega]
        refine kn_add (by omega) (by rw [show ((v4.toNat : Nat) : Int) = v4 by omega]; exact hK) hA (fun q hq hb => ?_)
        rw [h54] at hb
        exact hNK v4.toNat (by omega) (by omega) q hq hb
theorem iv_ff {S : List Nat} {w u : Wd} (h : IV w ∧ Kb w) (hG : G S w u) (hf : fvr S = true) : IV u ∧ Kb u := ⟨iv_g h.1 hG hf, kb_g h.2 hG hf⟩
theorem iv_st {w u : Wd} {c k : Nat} {z : Int} (h : IV w ∧ Kb w) (e : u = st w c k z) (hc : (c ∉ [43, 45, 47, 48, 49, 59, 79, 80, 81]) ∨ (c = 43 ∧ k ∉ [0, 8, 32, 56])) : IV u ∧ Kb u := by
  have h1 : ∀ c' k', (c' ∈ [45, 47, 48, 49, 59, 79, 80, 81]) → u c' k' = w c' k' := by
    intro c' k' hc'
    rw [e]
    refine st_c (fun e2 => ?_)
    subst e2
    rcases hc with hc | hc
    · exact hc (List.mem_cons_of_mem _ hc')
    · rw [hc.1] at hc'; exact absurd hc' (by decide)
  have h2 : ∀ k', (k' ∈ [0, 8, 32, 56]) → u 43 k' = w 43 k' := by
    intro k' hk'
    rw [e]
    rcases hc with hc | hc
    · exact st_c (fun e2 => hc (by rw [← e2]; decide))
    · rw [hc.1]; exact st_k (fun e2 => hc.2 (by rw [← e2]; exact hk'))
  exact ⟨iv_eq h.1 (h2 0 (by decide)) (h2 8 (by decide)) (h2 32 (by decide)) (h2 56 (by decide)) (funext fun k => h1 47 k (by decide)) (funext fun k => h1 48 k (by decide)) (funext fun k => h1 49 k (by decide)) (funext fun k => h1 59 k (by decide)) (funext fun k => h1 79 k (by decide)) (funext fun k => h1 80 k (by decide)) (funext fun k => h1 81 k (by decide)), kb_eq h.2 (h2 0 (by decide)) (funext fun k => h1 45 k (by decide))⟩
theorem l86 {b w : Wd} {v1 : Int} (hG : G md_R_land b w) (hI : IV w ∧ Kb w) (hv : w 43 0 < v1 ∧ (v1 ≤ 10 ∨ ¬ w 43 21 = -1)) (hN : w 43 21 = -1 → ∀ i : Nat, w 43 0 ≤ i → (i : Int) < v1 → ∀ q : Nat, q < 10 → bt (w 54 i) q = true → q < i) : PC (f_R_land_86 v1 w) (fun _ u => IV u ∧ Kb u) := by
  have l105 : ∀ {u : Wd}, G md_R_land b u → IV u ∧ Kb u → (u 43 21 = -1 → u = w) → PC (f_R_land_105 v1 u) (fun _ u => IV u ∧ Kb u) := by
    intro u gu hu he
    unfold f_R_land_105
    rw [fine_e, jc_s]
    refine pc_ite (fun _ => pc_some hu) (fun h => ?_)
    have hf : u 43 21 = -1 := by
      by_cases h2 : u 43 21 = -1
      · exact h2
      · rw [if_neg h2] at h; exact absurd rfl h
    have e := he hf
    subst e
    refine pc_let (fun x8 e8 => ?_)
    refine pc_let (fun x9 e9 => ?_)
    have a0 : (0 : Int) ≤ u 43 0 ∧ u 43 0 ≤ 10 := gu.1 43 0
    have hv2 : v1 ≤ 10 := hv.2.resolve_right (fun h => h hf)
    exact l132 (w0 := u) hu.1 ⟨hv.1, hv2⟩ (hN hf) a0.1 FU (by omega) gu ⟨rfl, rfl, rfl, fun _ => rfl⟩ (fun _ => rfl) (fun _ _ => ⟨rfl, rfl, rfl⟩) (fun j h1 h2 => by omega) (by rw [e9]; exact hu.2)
  unfold f_R_land_86
  refine pc_ite (fun _ => l105 hG hI (fun _ => rfl)) (fun _ => ?_)
  exact flt_pc hG (fun r16 u17 g17 hn => l105 (g_tr hG g17 rfl) (iv_ff hI g17 rfl) (fun h => absurd h hn))
theorem l40 {b : Wd} : ∀ (n : Nat) {w : Wd} {v1 v2 : Int}, G md_R_land b w → w 43 17 = 52 → IV w ∧ Kb w → (w 43 0 ≤ v1 ∧ v1 ≤ 11) → (0 ≤ v2 ∧ v2 ≤ 1) → (v1 ≤ 10 ∨ (v2 = 0 ∧ ¬ w 43 21 = -1)) → (w 43 0 < v1 ∨ (v2 ≠ 0 ∧ w 43 21 = -1)) → (w 43 21 = -1 → ∀ i : Nat, w 43 0 ≤ i → (i : Int) < v1 → ∀ q : Nat, q < 10 → bt (w 54 i) q = true → q < i) → PC (f_R_land_40 n v1 v2 w) (fun _ u => IV u ∧ Kb u) := by
  intro n
  induction n with
  | zero => intros; exact pc_none
  | succ n ih =>
    intro w v1 v2 hG h17 hI i1 i2 h10 hgt hN
    rw [f_R_land_40]
    have a0 : (0 : Int) ≤ w 43 0 ∧ w 43 0 ≤ 10 := hG.1 43 0
    refine pc_ite (fun h => ?_) (fun h => ?_)
    · have h1 : w 43 0 < v1 := by
        rcases hgt with h2 | h2
        · exact h2
        · exact absurd h h2.1
      refine l86 hG hI ⟨h1, ?_⟩ hN
      rcases h10 with h2 | h2
      · exact Or.inl h2
      · exact Or.inr h2.2
    · rw [fine_e, jc_s]
      refine pc_ite (fun hf => ?_) (fun hf => ?_)
      · have hnf : ¬ w 43 21 = -1 := fun h2 => by rw [if_pos h2] at hf; exact absurd hf (by decide)
        have h1 : w 43 0 < v1 := by
          rcases hgt with h2 | h2
          · exact h2
          · exact absurd h2.2 hnf
        exact l86 hG hI ⟨h1, Or.inr hnf⟩ hN
      · have hff : w 43 21 = -1 := by
          by_cases h2 : w 43 21 = -1
          · exact h2
          · rw [if_neg h2] at hf; exact absurd rfl hf
        have hv10 : v1 ≤ 10 := by
          rcases h10 with h2 | h2
          · exact h2
          · exact absurd h2.1 h
        have w1 := w32_sp (v1 + 1)
        have nx : ∀ {u : Wd}, G md_R_land b u → u 43 17 = 52 → IV u ∧ Kb u → u 43 0 = w 43 0 → (v1 ≤ 9 ∨ ¬ u 43 21 = -1) → (u 43 21 = -1 → ∀ i : Nat, u 43 0 ≤ i → (i : Int) < v1 + 1 → ∀ q : Nat, q < 10 → bt (u 54 i) q = true → q < i) → PC (f_R_land_73 (f_R_land_40 n) v1 u) (fun _ u => IV u ∧ Kb u) := by
          intro u gu u17 hu u0 hu9 huN
          unfold f_R_land_73
          refine pc_let (fun x22 e22 => ?_)
          have z22 : x22 = v1 + 1 := by omega
          refine pc_call (pc_ok (s_R_passes (g_self gu) (by decide) (Or.inl u17) (by decide))) (fun r23 u24 q => ?_)
          obtain ⟨ir, gy, hp⟩ := q
          have t0 : u24 43 0 = w 43 0 := (gy.2.1 43 0 rfl).trans u0
          have t21 : u24 43 21 = u 43 21 := gy.2.1 43 21 rfl
          rw [z22]
          refine ih (g_tr gu gy rfl) ((gy.2.1 43 17 rfl).trans u17) (iv_ff hu gy rfl) (by omega) (by omega) ?_ (Or.inl (by omega)) (fun hf i h1 h2 q hq hb => ?_)
          · rcases hu9 with h1 | h1
            · exact Or.inl (by omega)
            · refine Or.inr ⟨?_, by rw [t21]; exact h1⟩
              rcases hp with hp | hp
              · exact hp.1
              · exact absurd hp.2.2.1 h1
          · rw [t21] at hf
            rw [gy.2.1 54 i (mS_ar rfl i)] at hb
            exact huN hf i (by omega) h2 q hq hb
        refine pc_ite (fun he => ?_) (fun he => ?_)
        · exact flt_pc hG (fun r25 u26 g26 hn => nx (g_tr hG g26 rfl) ((g26.2.1 43 17 rfl).trans h17) (iv_ff hI g26 rfl) (g26.2.1 43 0 rfl) (Or.inr hn) (fun h => absurd h hn))
        · refine pc_call (pc_and (pc_ok (s_R_readOne (g_self hG) (by omega) h17)) (ro_pc (i := v1.toNat) (by omega) (by omega) (g_self hG) h17)) (fun r20 u21 q => ?_)
          obtain ⟨⟨_, gy⟩, q1, q2⟩ := q
          refine nx (g_tr hG gy rfl) ((gy.2.1 43 17 rfl).trans h17) (iv_ff hI gy rfl) (gy.2.1 43 0 rfl) (Or.inl (by omega)) (fun hf i h1 h2 q hq hb => ?_)
          have t0 : u21 43 0 = w 43 0 := gy.2.1 43 0 rfl
          by_cases hiv : i = v1.toNat
          · rw [hiv] at hb ⊢
            exact q2 hf q hq hb
          · rw [q1 i hiv] at hb
            exact hN hff i (by omega) (by omega) q hq hb
theorem land_pc {w : Wd} (h : RS w) : PC (f_R_land w) (fun _ u => IV u ∧ Kb u) := by
  obtain ⟨hG0, hI⟩ := h
  have hG : G md_R_land w w := g_self hG0
  unfold f_R_land
  refine pc_lw (fun u1 e1 => ?_)
  have g1 : G md_R_land w u1 := g_st hG e1 rfl rfl (show (0 : Int) ≤ 0 ∧ (0 : Int) ≤ 1 by decide)
  have i1 := iv_st hI e1 (Or.inr ⟨rfl, by decide⟩)
  have a13 : (0 : Int) ≤ u1 43 13 ∧ u1 43 13 ≤ 80 := g1.1 43 13
  refine pc_call (pc_ok (s_R_begin1_43_51 (g_self g1) (by omega) (by omega))) (fun r2 u3 q => ?_)
  obtain ⟨_, gy, p17, p20, p21, p18, p19⟩ := q
  have g3 : G md_R_land w u3 := g_tr g1 gy rfl
  have i3 := iv_ff i1 gy rfl
  refine pc_lw (fun u4 e4 => ?_)
  have g4 : G md_R_land w u4 := g_st g3 e4 rfl rfl (show (0 : Int) ≤ 0 ∧ (0 : Int) ≤ 80 by decide)
  have i4 := iv_st i3 e4 (Or.inr ⟨rfl, by decide⟩)
  refine pc_ite (fun _ => pc_some i4) (fun _ => ?_)
  refine pc_let (fun x5 e5 => ?_)
  have a0 : (0 : Int) ≤ u4 43 0 ∧ u4 43 0 ≤ 10 := g4.1 43 0
  have t17 : u4 43 17 = 52 := by rw [e4, st_k (by decide)]; exact p17
  have t21 : u4 43 21 = -1 := by rw [e4, st_k (by decide)]; exact p21
  exact l40 FU g4 t17 i4 (by omega) (by decide) (Or.inl (by omega)) (Or.inr ⟨by decide, t21⟩) (fun _ i h1 h2 => by omega)
theorem bt_lt {x : Int} {n : Nat} (hn : n ≤ 31) (h : 0 ≤ x ∧ x < ((2 ^ n : Nat) : Int)) {q : Nat} (hb : bt x q = true) : q < n := by
  refine Classical.byContradiction fun hc => ?_
  have h31 : 2 ^ n ≤ 2 ^ 31 := Nat.pow_le_pow_right (by decide) hn
  have ex := ofInt_toInt (z := x) (by omega) (by omega)
  have hx' : (Int32.ofInt x).toBitVec.toInt = x := ex
  have bx := bv_nn (x := (Int32.ofInt x).toBitVec) (by omega)
  have h1 : bt x q = false := by
    unfold bt
    rw [BitVec.getLsbD]
    refine Nat.testBit_lt_two_pow ?_
    have : 2 ^ n ≤ 2 ^ q := Nat.pow_le_pow_right (by decide) (by omega)
    omega
  rw [h1] at hb; cases hb
theorem baby_pc {w : Wd} {v1 : Int} (iv : -2147483648 ≤ v1 ∧ v1 ≤ 2147483647) (h : RS w) : PC (f_R_baby v1 w) (fun _ u => IV u ∧ Kb u) := by
  obtain ⟨hG0, hI⟩ := h
  have hG : G md_R_baby w w := g_self hG0
  unfold f_R_baby
  refine pc_lw (fun u1 e1 => ?_)
  have g1 : G md_R_baby w u1 := g_st hG e1 rfl rfl (show (0 : Int) ≤ 0 ∧ (0 : Int) ≤ 1 by decide)
  have i1 := iv_st hI e1 (Or.inr ⟨rfl, by decide⟩)
  have a0 : (0 : Int) ≤ u1 43 0 ∧ u1 43 0 ≤ 10 := g1.1 43 0
  have s1 := ishl1 (i := u1 43 0) (by omega)
  have s2 := ishl1_n 10 (i := u1 43 0) (j := 10) (m := 1024) (by decide) (by decide) (by decide) (by omega)
  have w1 := w32_sp (ishl 1 (u1 43 0) - 1)
  rw [in_e, jc_s]
  refine pc_ite (fun _ => pc_some i1) (fun hr => ?_)
  have hr2 : 0 ≤ v1 ∧ v1 ≤ w32 (ishl 1 (u1 43 0) - 1) := by
    by_cases h2 : 0 ≤ v1 ∧ v1 ≤ w32 (ishl 1 (u1 43 0) - 1)
    · exact h2
    · rw [if_neg h2] at hr; exact absurd rfl hr
  refine pc_ite (fun _ => pc_some i1) (fun h10 => ?_)
  refine pc_call (pc_and (pc_ok (s_R_add (g_self g1) (by omega) (by omega) (by omega) (by omega) (by omega))) (add_q (i := (u1 43 0).toNat) (by omega) (by omega))) (fun r4 u5 q => ?_)
  obtain ⟨⟨_, gy⟩, hA⟩ := q
  have g5 : G md_R_baby w u5 := g_tr g1 gy rfl
  have t0 : u5 43 0 = u1 43 0 := gy.2.1 43 0 rfl
  have t8 : u5 43 8 = u1 43 8 := gy.2.1 43 8 rfl
  have t56 : u5 43 56 = u1 43 56 := gy.2.1 43 56 rfl
  have t81 : ∀ k, u5 81 k = u1 81 k := fun k => gy.2.1 81 k (mS_ar rfl k)
  have w2 := w32_sp (u5 43 0 + 1)
  have z2 : w32 (u5 43 0 + 1) = u1 43 0 + 1 := by omega
  rw [z2]
  refine pc_lw (fun u6 e6 => ?_)
  have g6 : G md_R_baby w u6 := g_st g5 e6 rfl rfl (show (0 : Int) ≤ u1 43 0 + 1 ∧ u1 43 0 + 1 ≤ 10 by omega)
  have s56 : u6 43 56 = u1 43 56 := by rw [e6, st_k (by decide)]; exact t56
  obtain ⟨⟨⟨n1, n2⟩, _, _, ⟨c1, c2, c3⟩, hUI⟩, hK⟩ := i1
  refine pc_call (pc_and (pc_ok (s_R_told (g_self g6))) (told_pc (g_self g6) (by omega))) (fun r7 u8 q => ?_)
  obtain ⟨⟨_, gz, _⟩, q32, q56⟩ := q
  obtain ⟨A47, A48, A49, _⟩ := id hA
  have y0 : u8 43 0 = u1 43 0 + 1 := (gz.2.1 43 0 rfl).trans (by rw [e6, st_eq])
  have y8 : u8 43 8 = u1 43 8 := (gz.2.1 43 8 rfl).trans (by rw [e6, st_k (by decide)]; exact t8)
  have a8 : (0 : Int) ≤ u8 43 8 ∧ u8 43 8 ≤ 60 := gz.1 43 8
  have y45 : ∀ k, u8 45 k = u5 45 k := fun k => (gz.2.1 45 k (mS_ar rfl k)).trans (by rw [e6, st_c (by decide)])
  have y47 : ∀ k, u8 47 k = u5 47 k := fun k => (gz.2.1 47 k (mS_ar rfl k)).trans (by rw [e6, st_c (by decide)])
  have y48 : ∀ k, u8 48 k = u5 48 k := fun k => (gz.2.1 48 k (mS_ar rfl k)).trans (by rw [e6, st_c (by decide)])
  have y49 : ∀ k, u8 49 k = u5 49 k := fun k => (gz.2.1 49 k (mS_ar rfl k)).trans (by rw [e6, st_c (by decide)])
  have y81 : ∀ k, u8 81 k = u1 81 k := fun k => (gz.2.1 81 k (mS_ar rfl k)).trans (by rw [e6, st_c (by decide)]; exact t81 k)
  refine pc_some ⟨⟨⟨fun j hj hn => ?_, fun j hj => ?_⟩, fun t ht => ?_, fun m hm _ h81 => ?_, ⟨by omega, by omega, fun m hm => ?_⟩, by omega⟩, ?_⟩
  · rw [y0] at hj
    rw [y48, A48] at hn
    by_cases hjv : j = (u1 43 0).toNat
    · rw [if_pos hjv] at hn; exact absurd rfl hn
    · rw [if_neg hjv] at hn
      obtain ⟨b0, b1, b2, b3⟩ := n1 j (by omega) hn
      rw [y48, A48, if_neg hjv, y47, A47, y49, A49, y49, A49, if_neg (by omega), if_neg (by omega), if_neg hjv]
      exact ⟨b0, by omega, b2, b3⟩
  · rw [y0] at hj
    rw [y49, A49, y8]
    by_cases hjv : j = (u1 43 0).toNat
    · rw [if_pos hjv]; split <;> omega
    · rw [if_neg hjv]; exact n2 j (by omega)
  · rw [q32] at ht; omega
  · rw [y81, q56, s56] at h81
    have := c3 m hm
    omega
  · rw [y81]
    have := c3 m hm
    omega
  · have e : KN (u8 43 0) (u8 45) := by
      rw [y0, show u8 45 = u5 45 from funext y45, show u1 43 0 + 1 = (((u1 43 0).toNat : Nat) : Int) + 1 by omega]
      refine kn_add (by omega) (by rw [show (((u1 43 0).toNat : Nat) : Int) = u1 43 0 by omega]; exact hK) hA (fun q hq hb => ?_)
      exact bt_lt (by omega) (by omega) hb
    exact e
theorem meet_85 {u4 : Wd} {v2 s : Int} : PC (f_R_meet_85 v2 s u4) (fun _ u => u = st u4 45 v2.toNat s) := by
  unfold f_R_meet_85
  refine pc_gd (fun _ => ?_)
  refine pc_lw (fun u5 e5 => ?_)
  exact pc_some e5
