/-! BOUND -/
theorem kbn_t {kn : Nat → Int} {f : Nat → Bool} {q : Nat} : ∀ {n : Nat}, kbn kn f n q = true ↔ ∃ i, i < n ∧ f i = true ∧ bt (kn i) q = true := by
  intro n
  induction n with
  | zero => exact ⟨(fun h => by cases h), (fun h => by obtain ⟨i, hi, _⟩ := h; omega)⟩
  | succ n ih =>
    rw [kbn, Bool.or_eq_true, Bool.and_eq_true, ih]
    constructor
    · rintro (⟨i, hi, e⟩ | e)
      · exact ⟨i, by omega, e⟩
      · exact ⟨n, by omega, e⟩
    · rintro ⟨i, hi, e⟩
      by_cases c : i = n
      · rw [c] at e; exact Or.inr e
      · exact Or.inl ⟨i, by omega, e⟩
theorem pn_mono {f g : Nat → Bool} : ∀ {n : Nat}, (∀ k, k < n → f k = true → g k = true) → pn f n ≤ pn g n := by
  intro n
  induction n with
  | zero => intro _; exact Nat.le_refl _
  | succ n ih =>
    intro h
    have h1 := ih (fun k hk => h k (by omega))
    have h2 := h n (by omega)
    rw [pn, pn]
    cases hf : f n with
    | false => simp; omega
    | true => rw [h2 hf]; simp; omega
theorem pn_lt {f g : Nat → Bool} : ∀ {n : Nat}, (∀ k, k < n → f k = true → g k = true) → (∃ k, k < n ∧ f k = false ∧ g k = true) → pn f n + 1 ≤ pn g n := by
  intro n
  induction n with
  | zero => intro _ h; obtain ⟨k, hk, _⟩ := h; omega
  | succ n ih =>
    intro h he
    obtain ⟨k, hk, e1, e2⟩ := he
    rw [pn, pn]
    have h2 := h n (by omega)
    by_cases c : k = n
    · rw [c] at e1 e2
      have h1 := pn_mono (n := n) (fun k hk => h k (by omega))
      rw [e1, e2]; simp; omega
    · have h1 := ih (fun k hk => h k (by omega)) ⟨k, by omega, e1, e2⟩
      cases hf : f n with
      | false => simp; omega
      | true => rw [h2 hf]; simp; omega
theorem pn_pos {f : Nat → Bool} {n k : Nat} (hk : k < n) (h : f k = true) : 1 ≤ pn f n := by
  have h0 : pn (fun _ => false) n = 0 := pn_0 (fun _ _ => rfl)
  have := pn_lt (f := fun _ => false) (g := f) (n := n) (fun k _ e => by cases e) ⟨k, hk, rfl, h⟩
  omega
/-- who hangs together -/
def tgr (kn : Nat → Int) (F g : Nat → Bool) (n : Nat) : Nat → Nat → Bool
  | 0, q => g q
  | k + 1, q => tgr kn F g n k q || (kbn kn (tgr kn F g n k) n q && F q)
theorem tgr_st {kn : Nat → Int} {F g : Nat → Bool} {n : Nat} (hn : n ≤ 10) (hg : ∃ q, q < 10 ∧ g q = true) : ∀ q, q < 10 → tgr kn F g n 11 q = tgr kn F g n 10 q := by
  have key : ∀ k, (∀ q, q < 10 → tgr kn F g n (k + 1) q = tgr kn F g n k q) ∨ k + 1 ≤ pn (tgr kn F g n k) 10 := by
    intro k
    induction k with
    | zero =>
      obtain ⟨q, hq, e⟩ := hg
      exact Or.inr (pn_pos hq (f := tgr kn F g n 0) e)
    | succ k ih =>
      by_cases c : ∀ q, q < 10 → tgr kn F g n (k + 1) q = tgr kn F g n k q
      · refine Or.inl (fun q hq => ?_)
        rw [tgr]
        have e : kbn kn (tgr kn F g n (k + 1)) n q = kbn kn (tgr kn F g n k) n q := kbn_eq (fun j hj => ⟨c j (by omega), rfl⟩)
        rw [e, c q hq]
        have := c q hq
        rw [tgr] at this
        exact this
      · have h1 := ih.resolve_left c
        refine Or.inr ?_
        have : ∃ q, q < 10 ∧ tgr kn F g n k q = false ∧ tgr kn F g n (k + 1) q = true := by
          refine Classical.byContradiction fun hn2 => c (fun q hq => ?_)
          cases h2 : tgr kn F g n k q with
          | true => rw [tgr, h2]; rfl
          | false =>
            cases h3 : tgr kn F g n (k + 1) q with
            | false => rfl
            | true => exact absurd ⟨q, hq, h2, h3⟩ hn2
        have := pn_lt (f := tgr kn F g n k) (g := tgr kn F g n (k + 1)) (n := 10) (fun q hq e => by rw [tgr, e]; rfl) this
        omega
  rcases key 10 with h | h
  · exact h
  · have := pn_le (tgr kn F g n 10) 10
    omega
/-- the least LATE, not above z -/
def mlt (P : Int) (s : Nat → Int) (z : Int) : Nat → Int
  | 0 => z
  | n + 1 => if gs P s n = true then imin (mlt P s z n) (s n - 1) else mlt P s z n
theorem mlt_e {P : Int} {s : Nat → Int} : ∀ n : Nat, ((∀ k, k < n → gs P s k = false) ∧ (∀ z, mlt P s z n = z)) ∨ (mlt P s 3 n = mlt P s 1000000 n ∧ (∃ k, k < n ∧ gs P s k = true) ∧ 0 ≤ mlt P s 3 n ∧ mlt P s 3 n ≤ 2) := by
  intro n
  induction n with
  | zero => exact Or.inl ⟨fun k hk => by omega, fun _ => rfl⟩
  | succ n ih =>
    cases hg : gs P s n with
    | false =>
      have e : ∀ z, mlt P s z (n + 1) = mlt P s z n := fun z => by rw [mlt, if_neg (by rw [hg]; decide)]
      rcases ih with ⟨h1, h2⟩ | ⟨h1, ⟨k, hk, h2⟩, h3⟩
      · refine Or.inl ⟨fun k hk => ?_, fun z => (e z).trans (h2 z)⟩
        by_cases c : k = n
        · rw [c]; exact hg
        · exact h1 k (by omega)
      · refine Or.inr ⟨by rw [e, e]; exact h1, ⟨k, by omega, h2⟩, by rw [e]; exact h3⟩
    | true =>
      have e : ∀ z, mlt P s z (n + 1) = imin (mlt P s z n) (s n - 1) := fun z => by rw [mlt, if_pos hg]
      have hs : 1 ≤ s n ∧ s n < 4 := by
        unfold gs at hg
        rw [Bool.and_eq_true] at hg
        exact of_decide_eq_true hg.2
      have m3 := imin_sp (mlt P s 3 n) (s n - 1)
      have m6 := imin_sp (mlt P s 1000000 n) (s n - 1)
      refine Or.inr ⟨?_, ⟨n, by omega, hg⟩, ?_⟩
      · rw [e, e]
        rcases ih with ⟨h1, h2⟩ | ⟨h1, _, h3⟩
        · have a := h2 3; have b := h2 1000000; omega
        · omega
      · rw [e]
        rcases ih with ⟨h1, h2⟩ | ⟨h1, _, h3⟩
        · have a := h2 3; omega
        · omega
def bnd (g c m : Int) : Int := w32 (w32 (w32 (g * c) + imax 1 (w32 (g - m))) - 1)
theorem bE55 {P v1 v2 : Int} {s : Nat → Int} {f : Nat → Bool} {w : Wd} (hP : 0 ≤ P ∧ P ≤ 10) (h3 : w 5 3 = P) (hW : WH (w 5 4) s P) (hv1 : B10 v1 (gs P s)) (hf : B10 (iand v2 (ixor v1 (-1))) f) : ∀ (n : Nat) {v3 v4 : Int}, 0 ≤ v4 → v4 ≤ P → v3 = mlt P s 3 v4.toNat → PC (f_E_bound_55 n v1 v2 v3 v4 w) (fun r _ => r = bnd (w 5 7) ((pn f 10 : Nat) : Int) (mlt P s 3 P.toNat)) := by
  intro n
  induction n with
  | zero => intros; exact pc_none
  | succ n ih =>
    intro v3 v4 i0 i1 e3
    rw [f_E_bound_55, h3]
    have nx : ∀ x, x = mlt P s 3 (v4.toNat + 1) → v4 < P → PC (f_E_bound_93 (f_E_bound_55 n) v1 v2 x v4 w) (fun r _ => r = bnd (w 5 7) ((pn f 10 : Nat) : Int) (mlt P s 3 P.toNat)) := fun x ex hlt => by
      unfold f_E_bound_93
      refine pc_let (fun x7 e7 => ?_)
      rw [w32_id (by omega)] at e7
      rw [e7]
      exact ih (by omega) (by omega) (by rw [ex, show (v4 + 1).toNat = v4.toNat + 1 by omega])
    refine pc_ite (fun c => ?_) (fun c => ?_)
    · have e : v4 = P := by omega
      rw [bcs_e hf, jc_s]
      refine pc_some ?_
      rw [e3, e]; rfl
    · rw [has_10 w hv1 (by omega), jc_s]
      cases hg : gs P s v4.toNat with
      | false =>
        refine pc_ite (fun _ => nx v3 ?_ (by omega)) (fun e => absurd rfl e)
        rw [mlt, hg, e3]; rfl
      | true =>
        refine pc_ite (fun e => absurd e (by decide)) (fun _ => ?_)
        rw [late_e hW w, jc_s, if_pos ⟨by omega, by omega, hg⟩]
        refine pc_let (fun x ex => nx x ?_ (by omega))
        rw [mlt, hg, ex, e3]; rfl
theorem bE19 {P v1 : Int} {s h kn : Nat → Int} {w : Wd} (hP : 0 ≤ P ∧ P ≤ 10) (h3 : w 5 3 = P) (hW : WH (w 5 4) s P) (h5 : B10 (w 5 5) (hB P h)) (h7 : ∀ j : Nat, (j : Int) < P → w 7 j = kn j ∧ (0 : Int) ≤ kn j ∧ kn j ≤ 1023) (hv1 : B10 v1 (gs P s)) : ∀ (n : Nat) {v2 v3 : Int}, 0 ≤ v3 → v3 ≤ 10 → B10 v2 (tgr kn (fre P s h) (gs P s) P.toNat v3.toNat) → PC (f_E_bound_19 n v1 v2 v3 w) (fun r _ => r = bnd (w 5 7) ((pn (fun k => tgr kn (fre P s h) (gs P s) P.toNat 10 k && !gs P s k) 10 : Nat) : Int) (mlt P s 3 P.toNat)) := by
  intro n
  induction n with
  | zero => intros; exact pc_none
  | succ n ih =>
    intro v2 v3 i0 i1 hB
    rw [f_E_bound_19]
    refine pc_ite (fun c => ?_) (fun c => ?_)
    · rw [show v3.toNat = 10 by omega] at hB
      exact bE55 hP h3 hW hv1 (b10_andn hB hv1.2) FU (by decide) hP.1 rfl
    · refine pc_call (knb_e (w := w) (by omega) hB.2 (fun j hj => by have := h7 j (by omega); omega)) (fun r11 u12 q => ?_)
      rw [q.1]
      refine pc_call (ef_e hW hP h3 h5) (fun r13 u14 q2 => ?_)
      rw [q2.1]
      refine pc_let (fun x15 e15 => pc_let (fun x16 e16 => ?_))
      rw [w32_id (by omega)] at e16
      rw [e16]
      refine ih (by omega) (by omega) ?_
      rw [show (v3 + 1).toNat = v3.toNat + 1 by omega, e15]
      refine b10_w (b10_or hB (b10_and q.2 q2.2.2)) (fun k hk => ?_)
      rw [tgr]
      have e : kbn (w 7) (tgr kn (fre P s h) (gs P s) P.toNat v3.toNat) (w 5 3).toNat k = kbn kn (tgr kn (fre P s h) (gs P s) P.toNat v3.toNat) P.toNat k := by
        rw [h3]
        exact kbn_eq (fun j hj => ⟨rfl, (h7 j (by omega)).1⟩)
      rw [e]
theorem bR86 {P v2 : Int} {s : Nat → Int} {f : Nat → Bool} {w : Wd} (hP : 0 ≤ P ∧ P ≤ 10) (h0 : w 43 0 = P) (h47 : w 47 = s) (hf : B10 v2 f) (hs : ∀ j : Nat, (j : Int) < P → 0 ≤ s j ∧ s j ≤ 4) : ∀ (n : Nat) {v4 v5 : Int}, 0 ≤ v5 → v5 ≤ P → v4 = mlt P s 1000000 v5.toNat → PC (f_R_bound_86 n v2 v4 v5 w) (fun r _ => r = bnd (w 43 10) ((pn f 10 : Nat) : Int) (mlt P s 1000000 P.toNat)) := by
  intro n
  induction n with
  | zero => intros; exact pc_none
  | succ n ih =>
    intro v4 v5 i0 i1 e4
    rw [f_R_bound_86, h0]
    have nx : ∀ x, x = mlt P s 1000000 (v5.toNat + 1) → v5 < P → PC (f_R_bound_124 (f_R_bound_86 n) v2 x v5 w) (fun r _ => r = bnd (w 43 10) ((pn f 10 : Nat) : Int) (mlt P s 1000000 P.toNat)) := fun x ex hlt => by
      unfold f_R_bound_124
      refine pc_let (fun x7 e7 => ?_)
      rw [w32_id (by omega)] at e7
      rw [e7]
      exact ih (by omega) (by omega) (by rw [ex, show (v5 + 1).toNat = v5.toNat + 1 by omega])
    refine pc_ite (fun c => ?_) (fun c => ?_)
    · have e : v5 = P := by omega
      rw [bcs_e hf, jc_s]
      refine pc_some ?_
      rw [e4, e]; rfl
    · refine pc_gd (fun _ => ?_)
      rw [isG_e, jc_s, h47]
      have ip : inP P v5.toNat = true := decide_eq_true (by omega)
      have eg : gs P s v5.toNat = gst (s v5.toNat) := by unfold gs; rw [ip]; rfl
      cases hg : gst (s v5.toNat) with
      | false =>
        refine pc_ite (fun _ => nx v4 ?_ (by omega)) (fun e => absurd rfl e)
        rw [mlt, eg, hg, e4]; rfl
      | true =>
        refine pc_ite (fun e => absurd e (by decide)) (fun _ => ?_)
        refine pc_gd (fun _ => pc_let (fun x ex => nx x ?_ (by omega)))
        have := hs v5.toNat (by omega)
        rw [w32_id (by omega)] at ex
        rw [mlt, eg, hg, ex, e4]; rfl
/-- all that hang together, so far: a set of the reference -/
theorem bR34 {P v1 v3 : Int} {s kn : Nat → Int} {F : Nat → Bool} {k24 : Int → Int → Int → Wd → Option (Int × Wd)} {w : Wd} {Q : Int → Wd → Prop} (hP : 0 ≤ P ∧ P ≤ 10) (h0 : w 43 0 = P) (h47 : w 47 = s) (h45 : ∀ j : Nat, (j : Int) < P → w 45 j = kn j ∧ (0 : Int) ≤ kn j ∧ kn j ≤ 1023) (h1 : B10 v1 F) (h3 : 0 ≤ v3 ∧ v3 ≤ 1023) (hk : ∀ v2', B10 v2' (fun q => bt v3 q || (kbn kn (fun i => gs P s i || bt v3 i) P.toNat q && F q)) → PC (k24 v1 v2' v3 w) Q) : ∀ (n : Nat) {v2 v4 : Int}, 0 ≤ v4 → v4 ≤ P → B10 v2 (fun q => bt v3 q || (kbn kn (fun i => gs P s i || bt v3 i) v4.toNat q && F q)) → PC (f_R_bound_34 k24 n v1 v2 v3 v4 w) Q := by
  intro n
  induction n with
  | zero => intros; exact pc_none
  | succ n ih =>
    intro v2 v4 i0 i1 hB
    rw [f_R_bound_34, h0]
    have nx : ∀ x, B10 x (fun q => bt v3 q || (kbn kn (fun i => gs P s i || bt v3 i) (v4.toNat + 1) q && F q)) → v4 < P → PC (f_R_bound_69 k24 (f_R_bound_34 k24 n) v1 x v3 v4 w) Q := fun x hx hlt => by
      unfold f_R_bound_69
      refine pc_let (fun x7 e7 => ?_)
      rw [w32_id (by omega)] at e7
      rw [e7]
      refine ih (by omega) (by omega) ?_
      rw [show (v4 + 1).toNat = v4.toNat + 1 by omega]
      exact hx
    refine pc_ite (fun c => ?_) (fun c => ?_)
    · have e : v4 = P := by omega
      rw [e] at hB
      exact hk v2 hB
    · refine pc_call (rg_e (w := w) (by omega)) (fun r12 u13 q => ?_)
      rw [q.1]
      have q2 := q.2
      rw [h0, h47] at q2
      have hor := b10_or q2 (b10_self h3)
      rw [hasR_10 w hor (by omega), jc_s]
      cases hg : (gs P s v4.toNat || bt v3 v4.toNat) with
      | false =>
        refine pc_ite (fun _ => nx v2 ?_ (by omega)) (fun e => absurd rfl e)
        refine b10_w hB (fun k _ => ?_)
        rw [kbn, hg]; simp
      | true =>
        refine pc_ite (fun e => absurd e (by decide)) (fun _ => ?_)
        refine pc_gd (fun _ => pc_let (fun x ex => nx x ?_ (by omega)))
        have hj := h45 v4.toNat (by omega)
        rw [ex, hj.1]
        refine b10_w (b10_or hB (b10_and (b10_self hj.2) h1.2)) (fun k _ => ?_)
        rw [kbn, hg]
        cases bt v3 k <;> cases kbn kn (fun i => gs P s i || bt v3 i) v4.toNat k <;> cases bt (kn v4.toNat) k <;> cases F k <;> rfl
theorem bR24 {P v1 : Int} {s h kn : Nat → Int} {w : Wd} (hP : 0 ≤ P ∧ P ≤ 10) (h0 : w 43 0 = P) (h47 : w 47 = s) (h45 : ∀ j : Nat, (j : Int) < P → w 45 j = kn j ∧ (0 : Int) ≤ kn j ∧ kn j ≤ 1023) (h1 : B10 v1 (fre P s h)) (hs : ∀ j : Nat, (j : Int) < P → 0 ≤ s j ∧ s j ≤ 4) (hg : ∃ q, q < 10 ∧ gs P s q = true) : ∀ (n : Nat) {v2 v3 : Int}, (0 ≤ v2 ∧ v2 ≤ 1023) → (∀ q, q < 10 → bt v2 q = true → tgr kn (fre P s h) (gs P s) P.toNat 10 q = true ∧ gs P s q = false) → (v3 = -1 ∨ ((0 ≤ v3 ∧ v3 ≤ 1023) ∧ B10 v2 (fun q => bt v3 q || (kbn kn (fun i => gs P s i || bt v3 i) P.toNat q && fre P s h q)))) → PC (f_R_bound_24 n v1 v2 v3 w) (fun r _ => r = bnd (w 43 10) ((pn (fun k => tgr kn (fre P s h) (gs P s) P.toNat 10 k && !gs P s k) 10 : Nat) : Int) (mlt P s 1000000 P.toNat)) := by
  intro n
  induction n with
  | zero => intros; exact pc_none
  | succ n ih =>
    intro v2 v3 hr hsub hv
    rw [f_R_bound_24]
    have fg : ∀ q, fre P s h q = true → gs P s q = false := fun q e => by
      have := fre_sr e
      unfold gs
      rw [this.2.1]
      cases inP P q <;> rfl
    refine pc_ite (fun c => ?_) (fun c => ?_)
    · have hv2 := (hv.resolve_left (by omega)).2
      rw [← c] at hv2
      have up : ∀ k q, q < 10 → tgr kn (fre P s h) (gs P s) P.toNat k q = true → gs P s q = true ∨ bt v2 q = true := by
        intro k
        induction k with
        | zero => intro q _ e; exact Or.inl e
        | succ k ihk =>
          intro q hq e
          rw [tgr, Bool.or_eq_true, Bool.and_eq_true] at e
          rcases e with e | ⟨e1, e2⟩
          · exact ihk q hq e
          · obtain ⟨i, hi, e3, e4⟩ := kbn_t.mp e1
            right
            rw [hv2.2 q hq, Bool.or_eq_true, Bool.and_eq_true]
            refine Or.inr ⟨kbn_t.mpr ⟨i, hi, ?_, e4⟩, e2⟩
            rw [Bool.or_eq_true]
            exact ihk i (by omega) e3
      refine bR86 hP h0 h47 (f := fun k => tgr kn (fre P s h) (gs P s) P.toNat 10 k && !gs P s k) ⟨hr, fun q hq => ?_⟩ hs FU (by decide) hP.1 rfl
      show bt v2 q = (tgr kn (fre P s h) (gs P s) P.toNat 10 q && !gs P s q)
      cases hb : bt v2 q with
      | true =>
        have := hsub q hq hb
        rw [this.1, this.2]; rfl
      | false =>
        cases ht : tgr kn (fre P s h) (gs P s) P.toNat 10 q with
        | false => rfl
        | true =>
          rcases up 10 q hq ht with e | e
          · rw [e]; rfl
          · rw [hb] at e; cases e
    · refine bR34 hP h0 h47 h45 h1 (v3 := v2) hr (fun v2' hB => ?_) FU (by decide) hP.1 (b10_w (b10_self hr) (fun k _ => ?_))
      · refine ih hB.1 (fun q hq hb => ?_) (Or.inr ⟨hr, hB⟩)
        rw [hB.2 q hq, Bool.or_eq_true, Bool.and_eq_true] at hb
        rcases hb with e | ⟨e1, e2⟩
        · exact hsub q hq e
        · refine ⟨?_, fg q e2⟩
          obtain ⟨i, hi, e3, e4⟩ := kbn_t.mp e1
          rw [← tgr_st (by omega) hg q hq, tgr, Bool.or_eq_true, Bool.and_eq_true]
          refine Or.inr ⟨kbn_t.mpr ⟨i, hi, ?_, e4⟩, e2⟩
          rw [Bool.or_eq_true] at e3
          rcases e3 with e5 | e5
          · have mono : ∀ k, tgr kn (fre P s h) (gs P s) P.toNat k i = true := fun k => by
              induction k with
              | zero => exact e5
              | succ k ihk => rw [tgr, ihk]; rfl
            exact mono 10
          · exact (hsub i (by omega) e5).1
      · simp [kbn]
theorem er_bound {a w : Wd} (h : ER a w) (hG : ∀ j : Nat, (j : Int) < a 43 0 → 0 ≤ a 45 j ∧ a 45 j ≤ 1023) : PC (f_E_bound w) (fun r _ => PC (f_R_bound a) (fun r' _ => r = r')) := by
  have x0 : 0 ≤ a 43 0 ∧ a 43 0 ≤ 10 := h.2.2.1
  have x3 : w 5 3 = a 43 0 := h.1.1.2.1
  have xp : ∀ j : Nat, (j : Int) < a 43 0 → w 6 j = a 44 j ∧ w 7 j = a 45 j ∧ w 8 j = a 48 j := h.1.2.1
  have xh : B10 (w 5 5) (hB (a 43 0) (a 46)) := h.1.2.2.1
  have xw : WH (w 5 4) (a 47) (a 43 0) := h.1.2.2.2.1
  have x7 : w 5 7 = a 43 10 := h.1.1.2.2.1.1
  unfold f_E_bound f_R_bound
  refine pc_call (eg_e xw) (fun r1 u2 q => ?_)
  rw [q.1]
  have hR : ∀ y : Wd, y 43 0 = a 43 0 → y 47 = a 47 → PC (f_R_guests y) (fun r u => u = y ∧ r = r1) := fun y y0 y47 => by
    refine pc_w (rg_e (w := y) (by omega)) (fun r u z => ⟨z.1, ?_⟩)
    have z2 := z.2
    rw [y0, y47] at z2
    exact b10_eq z2 q.2 (fun _ _ => rfl)
  refine pc_ite (fun c => pc_some ?_) (fun c => ?_)
  · refine pc_lw (fun y ey => ?_)
    refine pc_call (hR y (by rw [ey, st_k (by decide)]) (by rw [ey, st_row (by decide)])) (fun r2 u3 z => ?_)
    rw [z.2]
    exact pc_ite (fun _ => pc_some rfl) (fun e => absurd c e)
  · have hg : ∃ q, q < 10 ∧ gs (a 43 0) (a 47) q = true := by
      refine Classical.byContradiction fun hn => c ?_
      refine b10_eq q.2 b10_0 (fun k hk => ?_)
      cases hb : gs (a 43 0) (a 47) k with
      | false => rfl
      | true => exact absurd ⟨k, hk, hb⟩ hn
    refine pc_w (bE19 x0 x3 xw xh (kn := a 45) (fun j hj => ⟨(xp j hj).2.1, hG j hj⟩) q.2 FU (by decide) (by decide) q.2) (fun r _ z => ?_)
    refine pc_lw (fun y ey => ?_)
    have y0 : y 43 0 = a 43 0 := by rw [ey, st_k (by decide)]
    have y10 : y 43 10 = a 43 10 := by rw [ey, st_k (by decide)]
    have yr : ∀ c, c ≠ 43 → y c = a c := fun c hc => by rw [ey, st_row hc]
    refine pc_call (hR y y0 (yr 47 (by decide))) (fun r2 u3 z2 => ?_)
    rw [z2.1, z2.2]
    refine pc_ite (fun e => absurd e c) (fun _ => ?_)
    refine pc_call (rfree_e (w := y) (by omega)) (fun r4 u5 z4 => ?_)
    have b4 := z4.2
    rw [y0, yr 47 (by decide), yr 46 (by decide)] at b4
    rw [z4.1]
    refine pc_w (bR24 (kn := a 45) (h := a 46) (s := a 47) x0 y0 (yr 47 (by decide)) (fun j hj => ⟨by rw [yr 45 (by decide)], hG j hj⟩) b4 xw.2.2 hg FU (v2 := 0) (v3 := -1) (by decide) (fun q _ e => by rw [bt_0] at e; cases e) (Or.inl rfl)) (fun r' _ z5 => ?_)
    rw [z, z5, x7, y10]
    rcases mlt_e (P := a 43 0) (s := a 47) (a 43 0).toNat with ⟨h1, _⟩ | ⟨h1, _⟩
    · obtain ⟨q0, hq0, e0⟩ := hg
      have : (q0 : Int) < a 43 0 := by
        unfold gs at e0
        rw [Bool.and_eq_true] at e0
        exact inP_t e0.1
      rw [h1 q0 (by omega)] at e0
      cases e0
    · rw [h1]
theorem dq_bound {w : Wd} (h : LU w) : OK (f_E_bound w) (fun r1 u1 => OK (f_R_bound u1) (fun r2 u2 => LU u2 ∧ r1 = r2)) :=
  d_er (xR := fun u => f_R_bound u) h (d_bound h) (pc_w (pc_ok (e_E_bound h.1.1)) (fun _ _ q => g_hi q.1 (by decide))) (fun _ ha _ => er_bound ha ha.2.2.2.2.2.1)
