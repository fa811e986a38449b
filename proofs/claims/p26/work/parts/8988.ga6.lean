/-! THE CLASS'S TABLE OF STATES -/
def shC (c : Int) : Nat := (irem (iush (w32 (c * (-1640531535))) 8) 8192).toNat
def slCx (c : Int) (j : Nat) : Nat := (shC c + j) % 8192
def MsC (w : Wd) (c : Int) (d : Nat) : Prop := ∀ j, j < d → w 29 (slCx c j) ≠ 0 ∧ w 30 (w 29 (slCx c j) - 1).toNat ≠ c
def FnC (w : Wd) (c : Int) (t : Nat) : Prop := ∃ d, d < 8192 ∧ MsC w c d ∧ w 29 (slCx c d) = (t : Int) + 1 ∧ w 30 t = c
def TC (w : Wd) : Prop := (∀ p q, p < 8192 → q < 8192 → w 29 p = w 29 q → w 29 p ≠ 0 → p = q) ∧ (∀ p, p < 8192 → 0 ≤ w 29 p ∧ w 29 p ≤ w 28 7) ∧ (0 ≤ w 28 7 ∧ w 28 7 ≤ 3000) ∧ ∀ k : Nat, (k : Int) < w 28 7 → FnC w (w 30 k) k
theorem slC_lt (c : Int) (j : Nat) : slCx c j < 8192 := Nat.mod_lt _ (by decide)
theorem fnC_one {w : Wd} {c : Int} {t t' : Nat} (h : FnC w c t) (h' : FnC w c t') : t = t' := by
  obtain ⟨d, hd, hm, e1, e2⟩ := h
  obtain ⟨d', hd', hm', e1', e2'⟩ := h'
  rcases Nat.lt_trichotomy d d' with h | h | h
  · have h1 := (hm' d h).2
    rw [e1] at h1
    exact absurd (by rw [show ((t : Int) + 1 - 1).toNat = t by omega]; exact e2) h1
  · subst h
    omega
  · have h1 := (hm d' h).2
    rw [e1'] at h1
    exact absurd (by rw [show ((t' : Int) + 1 - 1).toNat = t' by omega]; exact e2') h1
/-- no STATE stands twice -/
theorem tc_one {w : Wd} (h : TC w) {i j : Nat} (hi : (i : Int) < w 28 7) (hj : (j : Int) < w 28 7) (e : w 30 i = w 30 j) : i = j := by
  have h1 := h.2.2.2 i hi
  rw [e] at h1
  exact fnC_one h1 (h.2.2.2 j hj)
theorem tc_eq {w u : Wd} (h : TC w) (h29 : u 29 = w 29) (h30 : u 30 = w 30) (h7 : u 28 7 = w 28 7) : TC u := by
  unfold TC FnC MsC
  rw [h29, h30, h7]
  exact h
theorem tc_zero {w : Wd} (h : TC w) : ∃ p, p < 8192 ∧ w 29 p = 0 := by
  refine Classical.byContradiction fun hn => ?_
  have hnz : ∀ p, p < 8192 → w 29 p ≠ 0 := fun p hp e => hn ⟨p, hp, e⟩
  have h1 := php 3001 8192 (fun p => (w 29 p).toNat) (fun p hp => by
    have := h.2.1 p hp
    have := h.2.2.1
    show (w 29 p).toNat < 3001
    omega) (fun p q hp hq e => by
    have h1 := h.2.1 p hp
    have h2 := h.2.1 q hq
    exact h.1 p q hp hq (by have e' : (w 29 p).toNat = (w 29 q).toNat := e; omega) (hnz p hp))
  omega
theorem shC_lt (c : Int) : shC c < 8192 := by
  have r1 := iush_k 8 (x := w32 (c * (-1640531535))) (y := 8) (m := 16777215) rfl (by decide) (by decide) (by decide)
  have r2 := irem_rg2 (x := iush (w32 (c * (-1640531535))) 8) (c := 8192) (by decide) (by omega)
  unfold shC
  omega
theorem slo_pc {w : Wd} (h : TC w) {c : Int} : PC (f_S_slotOf c w) (fun r u => u = w ∧ (0 ≤ r ∧ r < 8192) ∧ ∃ d, d < 8192 ∧ r.toNat = slCx c d ∧ MsC w c d ∧ (w 29 r.toNat = 0 ∨ (w 29 r.toNat ≠ 0 ∧ w 30 (w 29 r.toNat - 1).toNat = c))) := by
  obtain ⟨p, hp, hz⟩ := tc_zero h
  have l14 : ∀ (n : Nat) {v2 v3 : Int}, (0 ≤ v2 ∧ v2 < 8192) → 0 ≤ v3 → v2.toNat = slCx c v3.toNat → MsC w c v3.toNat → PC (f_S_slotOf_14 n c v2 v3 w) (fun r u => u = w ∧ (0 ≤ r ∧ r < 8192) ∧ ∃ d, d < 8192 ∧ r.toNat = slCx c d ∧ MsC w c d ∧ (w 29 r.toNat = 0 ∨ (w 29 r.toNat ≠ 0 ∧ w 30 (w 29 r.toNat - 1).toNat = c))) := by
    intro n
    induction n with
    | zero => intros; exact pc_none
    | succ n ih =>
      intro v2 v3 i2 i3 e2 hm
      rw [f_S_slotOf_14]
      have hs : shC c < 8192 := shC_lt c
      have lt : v3 < 8192 := by
        refine Classical.byContradiction fun hn => ?_
        have := (hm ((p + 8192 - shC c) % 8192) (by omega)).1
        apply this
        rw [show slCx c ((p + 8192 - shC c) % 8192) = p by unfold slCx; omega]
        exact hz
      refine pc_ite (fun c0 => by omega) (fun _ => ?_)
      refine pc_gd (fun _ => pc_ite (fun c1 => pc_some ⟨rfl, i2, v3.toNat, by omega, e2, hm, Or.inl c1⟩) (fun c1 => ?_))
      have hr := h.2.1 v2.toNat (by omega)
      have h7 := h.2.2.1
      have z : w32 (w 29 v2.toNat - 1) = w 29 v2.toNat - 1 := w32_id (by omega)
      refine pc_gd (fun _ => pc_gd (fun _ => ?_))
      rw [z]
      refine pc_ite (fun c2 => pc_some ⟨rfl, i2, v3.toNat, by omega, e2, hm, Or.inr ⟨c1, c2⟩⟩) (fun c2 => ?_)
      rw [if_neg (by decide)]
      refine pc_let (fun x2 ex2 => pc_let (fun x3 ex3 => ?_))
      rw [w32_id (by omega)] at ex3
      rw [w32_id (show -2147483648 ≤ v2 + 1 ∧ v2 + 1 ≤ 2147483647 by omega), irem_k (by decide) (by omega)] at ex2
      rw [ex2, ex3]
      refine ih (by omega) (by omega) ?_ (fun j hj => ?_)
      · unfold slCx at *
        omega
      · by_cases cj : j < v3.toNat
        · exact hm j cj
        · rw [show j = v3.toNat by omega, ← e2]
          exact ⟨c1, c2⟩
  unfold f_S_slotOf
  rw [if_neg (by decide)]
  refine pc_let (fun x1 e1 => ?_)
  have r1 := iush_k 8 (x := w32 (c * (-1640531535))) (y := 8) (m := 16777215) rfl (by decide) (by decide) (by decide)
  have r2 := irem_rg2 (x := iush (w32 (c * (-1640531535))) 8) (c := 8192) (by decide) (by omega)
  refine l14 FU (v2 := x1) (v3 := 0) (by omega) (by decide) ?_ (fun j hj => by have : (0 : Int).toNat = 0 := rfl; omega)
  show x1.toNat = slCx c 0
  unfold slCx shC
  rw [← e1]
  omega
/-- a new STATE is laid -/
def NEWS (w u : Wd) (y wk rk : Int) : Prop := u 28 7 = w 28 7 + 1 ∧ (∀ k, k ≠ 7 → u 28 k = w 28 k) ∧ (∀ k, u 30 k = if k = (w 28 7).toNat then y else w 30 k) ∧ (∀ k, u 31 k = if k = (w 28 7).toNat then lor 0 wk else w 31 k) ∧ (∀ k, u 33 k = if k = (w 28 7).toNat then w 34 rk.toNat else w 33 k) ∧ (∀ k, u 34 k = if k = rk.toNat then w 28 7 else w 34 k) ∧ TC u ∧ ∀ c, c ≠ 28 → c ≠ 29 → c ≠ 30 → c ≠ 31 → c ≠ 33 → c ≠ 34 → u c = w c
def PLE (w u : Wd) (y wk rk : Int) : Prop := (u = st w 28 10 1 ∧ w 28 7 = 3000 ∧ ∀ t : Nat, (t : Int) < w 28 7 → w 30 t ≠ y) ∨ (∃ t : Nat, (t : Int) < w 28 7 ∧ w 30 t = y ∧ u = st w 31 t (lor (w 31 t) wk)) ∨ (w 28 7 < 3000 ∧ (∀ t : Nat, (t : Int) < w 28 7 → w 30 t ≠ y) ∧ NEWS w u y wk rk)
theorem place_pc {w : Wd} (h : TC w) {y wk rk : Int} (hr : f_O_rank y w = some (rk, w)) (hrk : 0 ≤ rk ∧ rk ≤ 450) : PC (f_S_place y wk w) (fun _ u => PLE w u y wk rk) := by
  unfold f_S_place
  refine pc_call (slo_pc h (c := y)) (fun r1 u2 q => ?_)
  obtain ⟨q1, q2, d, hd, q3, q4, q5⟩ := q
  rw [q1]
  refine pc_gd (fun _ => ?_)
  have h7 := h.2.2.1
  refine pc_ite (fun c => ?_) (fun c => ?_)
  · have nw : ∀ t : Nat, (t : Int) < w 28 7 → w 30 t ≠ y := fun t ht e => by
      have hf := h.2.2.2 t ht
      rw [e] at hf
      obtain ⟨d', hd', hm', e1', e2'⟩ := hf
      rcases Nat.lt_trichotomy d d' with h | h | h
      · have h1 := (hm' d h).1
        rw [← q3] at h1
        exact h1 c
      · subst h
        rw [← q3, c] at e1'
        omega
      · have h1 := (q4 d' h).2
        rw [e1'] at h1
        exact absurd (by rw [show ((t : Int) + 1 - 1).toNat = t by omega]; exact e2') h1
    rw [hr, jc_s]
    refine pc_ite (fun c3 => ?_) (fun c3 => ?_)
    · unfold f_S_place_46
      exact pc_lw (fun u7 e7 => pc_some (Or.inl ⟨e7, by omega, nw⟩))
    refine pc_ite (fun c4 => by omega) (fun _ => ?_)
    refine pc_ite (fun _ => ?_) (fun c5 => by omega)
    refine pc_gd (fun _ => pc_lw (fun u8 e8 => pc_gd (fun _ => pc_lw (fun u9 e9 => pc_gd (fun _ => pc_gd (fun _ => pc_lw (fun u10 e10 => pc_gd (fun _ => pc_lw (fun u11 e11 => pc_lw (fun u12 e12 => pc_gd (fun _ => pc_lw (fun u13 e13 => ?_))))))))))))
    have s8 : u8 28 7 = w 28 7 := by rw [e8, st_c (by decide)]
    have s9 : u9 28 7 = w 28 7 := by rw [e9, st_c (by decide)]; exact s8
    have s10 : u10 28 7 = w 28 7 := by rw [e10, st_c (by decide)]; exact s9
    have s11 : u11 28 7 = w 28 7 := by rw [e11, st_c (by decide)]; exact s10
    have s12 : u12 28 7 = w 28 7 + 1 := by rw [e12, st_eq, s11]; exact w32_id (by omega)
    have s13 : u13 28 7 = w 28 7 + 1 := by rw [e13, st_c (by decide)]; exact s12
    rw [s8] at e9
    rw [s9] at e10
    rw [s10] at e11
    rw [s12] at e13
    have a29 : ∀ k, u13 29 k = if k = r1.toNat then w 28 7 + 1 else w 29 k := fun k => by
      rw [e13]
      by_cases ck : k = r1.toNat
      · rw [if_pos ck, ck, st_eq]
      · rw [if_neg ck, st_k ck, e12, st_c (by decide), e11, st_c (by decide), e10, st_c (by decide), e9, st_c (by decide), e8, st_c (by decide)]
    have a30 : ∀ k, u13 30 k = if k = (w 28 7).toNat then y else w 30 k := fun k => by
      rw [e13, st_c (by decide), e12, st_c (by decide), e11, st_c (by decide), e10, st_c (by decide), e9, st_c (by decide), e8]
      by_cases ck : k = (w 28 7).toNat
      · rw [if_pos ck, ck, st_eq]
      · rw [if_neg ck, st_k ck]
    have a31 : ∀ k, u13 31 k = if k = (w 28 7).toNat then 0 else w 31 k := fun k => by
      rw [e13, st_c (by decide), e12, st_c (by decide), e11, st_c (by decide), e10, st_c (by decide), e9]
      by_cases ck : k = (w 28 7).toNat
      · rw [if_pos ck, ck, st_eq]
      · rw [if_neg ck, st_k ck, e8, st_c (by decide)]
    have a33 : ∀ k, u13 33 k = if k = (w 28 7).toNat then w 34 rk.toNat else w 33 k := fun k => by
      rw [e13, st_c (by decide), e12, st_c (by decide), e11, st_c (by decide), e10]
      by_cases ck : k = (w 28 7).toNat
      · rw [if_pos ck, ck, st_eq, e9, st_c (by decide), e8, st_c (by decide)]
      · rw [if_neg ck, st_k ck, e9, st_c (by decide), e8, st_c (by decide)]
    have a34 : ∀ k, u13 34 k = if k = rk.toNat then w 28 7 else w 34 k := fun k => by
      rw [e13, st_c (by decide), e12, st_c (by decide), e11]
      by_cases ck : k = rk.toNat
      · rw [if_pos ck, ck, st_eq]
      · rw [if_neg ck, st_k ck, e10, st_c (by decide), e9, st_c (by decide), e8, st_c (by decide)]
    have aot : ∀ c, c ≠ 28 → c ≠ 29 → c ≠ 30 → c ≠ 31 → c ≠ 33 → c ≠ 34 → u13 c = w c := fun c x1 x2 x3 x4 x5 x6 => by
      rw [e13, st_row x2, e12, st_row x1, e11, st_row x6, e10, st_row x5, e9, st_row x4, e8, st_row x3]
    have a28 : ∀ k, k ≠ 7 → u13 28 k = w 28 k := fun k hk => by
      rw [e13, st_c (by decide), e12, st_k hk, e11, st_c (by decide), e10, st_c (by decide), e9, st_c (by decide), e8, st_c (by decide)]
    have hms : ∀ c d, MsC w c d → MsC u13 c d := fun c' d' hm j hj => by
      obtain ⟨h1, h2⟩ := hm j hj
      have hne : slCx c' j ≠ r1.toNat := fun e => h1 (by rw [e]; exact c)
      have r3 := h.2.1 (slCx c' j) (slC_lt c' j)
      rw [a29, if_neg hne]
      refine ⟨h1, ?_⟩
      rw [a30, if_neg (by omega)]
      exact h2
    have hT : TC u13 := by
      refine ⟨fun p q hp hq e hn => ?_, fun p hp => ?_, by rw [s13]; omega, fun k hk => ?_⟩
      · rw [a29, a29] at e
        rw [a29] at hn
        have rp := h.2.1 p hp
        have rq := h.2.1 q hq
        by_cases h1 : p = r1.toNat <;> by_cases h2 : q = r1.toNat
        · rw [h1, h2]
        · rw [if_pos h1, if_neg h2] at e
          omega
        · rw [if_neg h1, if_pos h2] at e
          omega
        · rw [if_neg h1, if_neg h2] at e
          rw [if_neg h1] at hn
          exact h.1 p q hp hq e hn
      · rw [a29, s13]
        have rp := h.2.1 p hp
        split <;> omega
      · rw [s13] at hk
        by_cases ck : k = (w 28 7).toNat
        · rw [a30, if_pos ck]
          refine ⟨d, hd, hms y d q4, ?_, by rw [a30, if_pos ck]⟩
          rw [← q3, a29, if_pos rfl]; omega
        · have hk2 : (k : Int) < w 28 7 := by omega
          rw [a30, if_neg ck]
          obtain ⟨d', hd', hm', e1', e2'⟩ := h.2.2.2 k hk2
          have hne : slCx (w 30 k) d' ≠ r1.toNat := fun e => by rw [e, c] at e1'; omega
          exact ⟨d', hd', hms _ _ hm', by rw [a29, if_neg hne]; exact e1', by rw [a30, if_neg ck]⟩
    unfold f_S_place_120
    have b1 : u13 29 r1.toNat = w 28 7 + 1 := by rw [a29, if_pos rfl]
    rw [b1, show w32 (w 28 7 + 1 - 1) = w 28 7 from (w32_id (by omega)).trans (by omega)]
    refine pc_gd (fun _ => pc_let (fun x3 e3 => pc_gd (fun _ => pc_gd (fun _ => pc_lw (fun u4 e4 => pc_some (Or.inr (Or.inr ⟨by omega, nw, ?_⟩)))))))
    rw [e3] at e4
    rw [show u13 31 (w 28 7).toNat = 0 by rw [a31, if_pos rfl]] at e4
    refine ⟨by rw [e4, st_c (by decide)]; exact s13, fun k hk => by rw [e4, st_c (by decide)]; exact a28 k hk, fun k => by rw [e4, st_c (by decide)]; exact a30 k, fun k => ?_, fun k => by rw [e4, st_c (by decide)]; exact a33 k, fun k => by rw [e4, st_c (by decide)]; exact a34 k, tc_eq hT (by rw [e4, st_row (by decide)]) (by rw [e4, st_row (by decide)]) (by rw [e4, st_c (by decide)]), fun c x1 x2 x3 x4 x5 x6 => by rw [e4, st_row x4]; exact aot c x1 x2 x3 x4 x5 x6⟩
    rw [e4]
    by_cases ck : k = (w 28 7).toNat
    · rw [if_pos ck, ck, st_eq]
    · rw [if_neg ck, st_k ck, a31, if_neg ck]
  · obtain ⟨c1, c2⟩ := q5.resolve_left c
    have rr := h.2.1 r1.toNat (by omega)
    unfold f_S_place_120
    rw [show w32 (w 29 r1.toNat - 1) = w 29 r1.toNat - 1 from w32_id (by omega)]
    refine pc_gd (fun _ => pc_let (fun x3 e3 => pc_gd (fun _ => pc_gd (fun _ => pc_lw (fun u4 e4 => pc_some (Or.inr (Or.inl ⟨x3.toNat, by omega, by rw [e3]; exact c2, e4⟩)))))))
