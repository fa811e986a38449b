/-! BEGIN: the reference's flags -/
theorem lfq_lwq {P g se : Int} {h kn : Nat → Int} {x r : Int} (hl : LFQ P g se h kn (sbg P) x r) : LWQ P g se h kn x r := by
  rcases hl with ⟨a, b⟩ | ⟨_, b, c, d⟩
  · exact Or.inl ⟨b, a⟩
  · exact Or.inr ⟨b, c, d⟩
/-- from what follows one can stay a WEEK less, where it is on the way to the last one -/
theorem lwq_on {P g se : Int} {h kn : Nat → Int} {x y L r : Int} (hP : 0 ≤ P ∧ P ≤ 10) (hx : WH x (sof x) P) (hL : LWQ P g se h kn x L) (h1 : 1 ≤ L) (hs : SUX P g se h kn x y) (hr : LWQ P g se h kn y r) : r = L - 1 ↔ ∃ z, RCX P g se h kn y (L - 1).toNat z ∧ sbg P z := by
  have hy : WH y (sof y) P := rx_wh hP hx (t := 1) (x := y) ⟨x, rfl, hs⟩
  constructor
  · intro e
    rcases hr with ⟨a, _⟩ | ⟨_, a, _⟩
    · omega
    · rw [← e]; exact a
  · rintro ⟨z, z1, z2⟩
    rcases hr with ⟨_, a⟩ | ⟨a, ⟨y', b1, b2⟩, c⟩
    · exact absurd (sbg_back hP hy z1 z2) a
    · have c1 := c _ z z1 z2
      rcases hL with ⟨e, _⟩ | ⟨_, _, d⟩
      · omega
      · have := d (r.toNat + 1) y' (rcx_first.mpr ⟨y, hs, b1⟩) b2
        omega
theorem fnx_pc {P g se : Int} {h kn : Nat → Int} {x0 : Int} {w : Wd} (h0 : WH x0 (sof x0) P) (hr : RLI P g se h kn x0 w) : PC (f_R_findNext w) (fun _ u => (∀ c, c ≠ 76 → u c = w c) ∧ ∀ t : Nat, (t : Int) < w 43 40 → (u 76 t = 1 ∧ ∃ y, SUX P g se h kn x0 y ∧ w 63 t = cdx P y) ∨ (u 76 t = 0 ∧ ∀ y, SUX P g se h kn x0 y → w 63 t ≠ cdx P y)) := by
  unfold f_R_findNext
  have hX0 : VLS P g se h kn x0 x0 := ⟨h0, 0, rfl⟩
  obtain ⟨⟨n1, n2⟩, hinj, hv, hc, hz, hE⟩ := hr
  obtain ⟨⟨lo, hi⟩, hE0⟩ := hE 0 (by omega)
  have hi' : w 64 0 ≤ w 64 1 := hi
  have hE0' : EDS P g se h kn x0 w 0 (w 64 1) := hE0
  obtain ⟨hE1, hE2⟩ := hE0' x0 hX0 hz
  have nz1 : nz 1 = 1 := by decide
  have nz0 : nz 0 = 0 := by decide
  have l30 : ∀ (n : Nat) {v1 : Int} {u : Wd}, w 64 0 ≤ v1 → v1 ≤ w 64 1 → (∀ c, c ≠ 76 → u c = w c) → (∀ t : Nat, (t : Int) < w 43 40 → (u 76 t = 1 ∧ ∃ e : Nat, w 64 0 ≤ (e : Int) ∧ (e : Int) < v1 ∧ w 65 e = (t : Int)) ∨ (u 76 t = 0 ∧ ∀ e : Nat, w 64 0 ≤ (e : Int) → (e : Int) < v1 → w 65 e ≠ (t : Int))) → PC (f_R_findNext_30 n v1 u) (fun _ u => (∀ c, c ≠ 76 → u c = w c) ∧ ∀ t : Nat, (t : Int) < w 43 40 → (u 76 t = 1 ∧ ∃ y, SUX P g se h kn x0 y ∧ w 63 t = cdx P y) ∨ (u 76 t = 0 ∧ ∀ y, SUX P g se h kn x0 y → w 63 t ≠ cdx P y)) := by
    intro n
    induction n with
    | zero => intros; exact pc_none
    | succ n ih =>
      intro v1 u i1 i1' hu hA
      rw [f_R_findNext_30, hu 64 (by decide), hu 65 (by decide)]
      refine pc_gd (fun _ => pc_ite (fun c => pc_some ⟨hu, fun t ht => ?_⟩) (fun c => ?_))
      · have c' : w 64 1 ≤ v1 := c
        rcases hA t ht with ⟨a, e, e1, e2, e3⟩ | ⟨a, hno⟩
        · obtain ⟨_, y, hy, ey⟩ := hE1 e e1 (by omega)
          rw [e3, show ((t : Nat) : Int).toNat = t by omega] at ey
          exact Or.inl ⟨a, y, hy, ey⟩
        · refine Or.inr ⟨a, fun y hy hcy => ?_⟩
          obtain ⟨e, e1, e2, e3, e4⟩ := hE2 y hy
          have := hinj (w 65 e).toNat t (by omega) ht (by rw [e4, hcy])
          exact hno e e1 (by omega) (by omega)
      · have c' : ¬ w 64 1 ≤ v1 := c
        obtain ⟨g4, _⟩ := hE1 v1.toNat (by omega) (by omega)
        refine pc_gd (fun hg1 => pc_gd (fun _ => pc_lw (fun u2 e2 => pc_let (fun x3 e3 => ?_))))
        rw [w32_id (by omega)] at e3
        rw [nz1] at e2
        rw [e3]
        have z76 : ∀ k, u2 76 k = if k = (w 65 v1.toNat).toNat then 1 else u 76 k := fun k => by
          rw [e2]
          by_cases ck : k = (w 65 v1.toNat).toNat
          · rw [if_pos ck, ck, st_eq]
          · rw [if_neg ck, st_k ck]
        refine ih (by omega) (by omega) (fun c hc => by rw [e2, st_row hc]; exact hu c hc) (fun t ht => ?_)
        rw [z76]
        by_cases ct : t = (w 65 v1.toNat).toNat
        · rw [if_pos ct]
          exact Or.inl ⟨rfl, v1.toNat, by omega, by omega, by omega⟩
        · rw [if_neg ct]
          rcases hA t ht with ⟨a, e, e1, e2', e3'⟩ | ⟨a, hno⟩
          · exact Or.inl ⟨a, e, e1, by omega, e3'⟩
          · refine Or.inr ⟨a, fun e h1 h2 => ?_⟩
            by_cases ce : (e : Int) < v1
            · exact hno e h1 ce
            · rw [show e = v1.toNat by omega]; omega
  have l2 : ∀ (n : Nat) {v1 : Int} {u : Wd}, 0 ≤ v1 → (∀ c, c ≠ 76 → u c = w c) → (∀ t : Nat, (t : Int) < v1 → u 76 t = 0) → PC (f_R_findNext_2 n v1 u) (fun _ u => (∀ c, c ≠ 76 → u c = w c) ∧ ∀ t : Nat, (t : Int) < w 43 40 → (u 76 t = 1 ∧ ∃ y, SUX P g se h kn x0 y ∧ w 63 t = cdx P y) ∨ (u 76 t = 0 ∧ ∀ y, SUX P g se h kn x0 y → w 63 t ≠ cdx P y)) := by
    intro n
    induction n with
    | zero => intros; exact pc_none
    | succ n ih =>
      intro v1 u i1 hu hA
      rw [f_R_findNext_2, hu 43 (by decide), hu 64 (by decide)]
      refine pc_ite (fun c => pc_gd (fun _ => pc_let (fun x1 e1 => ?_))) (fun c => pc_gd (fun hg1 => pc_lw (fun u4 e4 => pc_let (fun x5 e5 => ?_))))
      · have e1' : x1 = w 64 0 := e1
        rw [e1']
        exact l30 FU (Int.le_refl _) hi' hu (fun t ht => Or.inr ⟨hA t (by omega), fun e h1 h2 => by omega⟩)
      · rw [w32_id (by omega)] at e5
        rw [nz0] at e4
        rw [e5]
        refine ih (by omega) (fun c hc => by rw [e4, st_row hc]; exact hu c hc) (fun t ht => ?_)
        by_cases ct : t = v1.toNat
        · rw [e4, ct, st_eq]
        · rw [e4, st_k ct]; exact hA t (by omega)
  exact l2 FU (by decide) (fun _ _ => rfl) (fun t ht => by omega)
theorem isn_pc {v1 : Int} {u : Wd} : PC (f_R_isNext v1 u) (fun r v => v = u ∧ r = u 76 v1.toNat) := by
  unfold f_R_isNext
  exact pc_gd (fun _ => pc_let (fun x1 e1 => pc_ite (fun _ => pc_some ⟨rfl, e1⟩) (fun _ => pc_none)))
theorem b43_pc {b : Wd} {Q : Int → Wd → Prop} (h76 : ∀ t : Nat, (t : Int) < b 43 40 → b 76 t = 0 ∨ b 76 t = 1) (hk : ∀ v, (∀ c, c ≠ 74 → v c = b c) → G [] v v → (∀ t : Nat, (t : Int) < b 43 40 → (v 74 t ≠ 0 ↔ b 71 t = w32 (b 71 0 - 1) ∧ b 76 t = 1)) → PC (f_R_tellFirst v) Q) : ∀ (n : Nat) {v1 : Int} {u : Wd}, 0 ≤ v1 → G [] u u → (∀ c, c ≠ 74 → u c = b c) → (∀ t : Nat, (t : Int) < v1 → (u 74 t ≠ 0 ↔ b 71 t = w32 (b 71 0 - 1) ∧ b 76 t = 1)) → PC (f_R_begin2_43 n v1 u) Q := by
  intro n
  induction n with
  | zero => intros; exact pc_none
  | succ n ih =>
    intro v1 u i1 hG hu hA
    rw [f_R_begin2_43, hu 43 (by decide), hu 71 (by decide)]
    refine pc_ite (fun c => pc_call (hk u hu hG (fun t ht => hA t (by omega))) (fun r v q => pc_some q)) (fun c => pc_gd (fun hg1 => pc_gd (fun _ => ?_)))
    have wr : ∀ s : Int, s = 0 ∨ s = 1 → (s ≠ 0 ↔ b 71 v1.toNat = w32 (b 71 0 - 1) ∧ b 76 v1.toNat = 1) → PC (f_R_begin2_86 (f_R_begin2_43 n) v1 v1 s u) Q := fun s hs hcs => by
      unfold f_R_begin2_86
      refine pc_gd (fun _ => pc_lw (fun u12 e12 => pc_let (fun x13 e13 => ?_)))
      rw [w32_id (by omega)] at e13
      rw [e13]
      have hnz : nz s = s := by rcases hs with e | e <;> rw [e] <;> decide
      rw [hnz] at e12
      have g12 : G [7499] u u12 := g_st (g_self hG) e12 rfl rfl (show (0 : Int) ≤ s ∧ s ≤ 1 by omega)
      refine ih (by omega) (g_self g12) (fun c hc => by rw [e12, st_row hc]; exact hu c hc) (fun t ht => ?_)
      by_cases ct : t = v1.toNat
      · rw [ct, e12, st_eq]; exact hcs
      · rw [e12, st_k ct]; exact hA t (by omega)
    refine pc_ite (fun c71 => ?_) (fun c71 => ?_)
    · have c71' : b 71 v1.toNat = w32 (b 71 0 - 1) := c71
      refine pc_call (isn_pc (v1 := v1) (u := u)) (fun r14 u15 q => ?_)
      have e76 : r14 = b 76 v1.toNat := by rw [q.2, hu 76 (by decide)]
      rw [q.1]
      unfold f_R_begin2_85
      refine pc_ite (fun cr => wr 0 (Or.inl rfl) ⟨fun hh => absurd rfl hh, fun hh => by have := hh.2; omega⟩) (fun cr => wr 1 (Or.inr rfl) ⟨fun _ => ⟨c71', ?_⟩, fun _ => by decide⟩)
      rcases h76 v1.toNat (by omega) with e | e
      · omega
      · exact e
    · have c71' : ¬ b 71 v1.toNat = w32 (b 71 0 - 1) := c71
      unfold f_R_begin2_85
      exact wr 0 (Or.inl rfl) ⟨fun hh => absurd rfl hh, fun hh => absurd hh.1 c71'⟩
