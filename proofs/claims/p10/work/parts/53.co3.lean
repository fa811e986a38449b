/-! SIGNS: what is typed, by both -/
theorem iand255 {x : Int} (h : -2147483648 ≤ x ∧ x ≤ 2147483647) : iand x 255 = x % 256 := by
  have ex := ofInt_toInt h.1 h.2
  have e0 : (Int32.ofInt 255).toBitVec.toNat = 255 := by decide
  have e1 : (Int32.ofInt x &&& Int32.ofInt 255).toBitVec.toNat = (Int32.ofInt x).toBitVec.toNat % 256 := by
    rw [Int32.toBitVec_and, BitVec.toNat_and, e0]
    exact Nat.and_two_pow_sub_one_eq_mod _ 8
  have e2 : (Int32.ofInt x &&& Int32.ofInt 255).toInt = (((Int32.ofInt x &&& Int32.ofInt 255).toBitVec.toNat : Nat) : Int) := bv_lt (by omega)
  have e3 := BitVec.toInt_eq_toNat_cond (Int32.ofInt x).toBitVec
  have e4 : (Int32.ofInt x).toBitVec.toInt = x := ex
  unfold iand
  rw [e4] at e3
  split at e3 <;> omega
theorem nci2c {z : Int} (h : 0 ≤ z ∧ z ≤ 255) : nc (i2c z) = z := by
  have h1 : (List.range 256).all (fun k => decide (nc (i2c (k : Int)) = (k : Int))) = true := by decide +kernel
  have h2 := of_decide_eq_true (List.all_eq_true.mp h1 z.toNat (List.mem_range.mpr (by omega)))
  rw [Int.toNat_of_nonneg h.1] at h2
  exact h2
theorem i2b_e {x : Int} (h : -2147483648 ≤ x ∧ x ≤ 2147483647) : i2b x = x.bmod 256 := by
  unfold i2b
  rw [Int8.toInt_toInt32, Int32.toInt_toInt8, ofInt_toInt h.1 h.2]
theorem nb_e {x : Int} (h : -2147483648 ≤ x ∧ x ≤ 2147483647) : nb x = x.bmod 256 := by
  show ((Int32.ofInt x).toInt8.toInt32).toInt = _
  rw [Int8.toInt_toInt32, Int32.toInt_toInt8, ofInt_toInt h.1 h.2]
theorem ch_rel {x : Int} (h : -2147483648 ≤ x ∧ x ≤ 2147483647) : nc (i2c (iand x 255)) = x % 256 ∧ nb (i2b x) = (if x % 256 ≤ 127 then x % 256 else x % 256 - 256) := by
  have e1 := iand255 h
  refine ⟨by rw [e1]; exact nci2c (by omega), ?_⟩
  have e2 : -128 ≤ i2b x ∧ i2b x ≤ 127 := by
    rw [i2b_e h]
    unfold Int.bmod
    simp only
    split <;> omega
  rw [nb_e (by omega), i2b_e h]
  unfold Int.bmod
  simp only
  split <;> split <;> split <;> omega
theorem ap_pc {L v1 : Int} {z : Nat → Int} (hL : 0 ≤ L) : ∀ (n : Nat) {w : Wd} {v2 : Int} (k : Nat), v2 = 24 - 8 * (k : Int) → k ≤ 4 → w 1 1 = L + k → (∀ j : Nat, w 2 j = if L ≤ j ∧ (j : Int) < L + k then ishr v1 (24 - 8 * ((j : Int) - L)) % 256 else z j) → PC (f_T_append_19 n v1 v2 w) (fun _ u => u 1 1 = L + 4 ∧ ∀ j : Nat, u 2 j = if L ≤ j ∧ (j : Int) < L + 4 then ishr v1 (24 - 8 * ((j : Int) - L)) % 256 else z j) := by
  intro n
  induction n with
  | zero => intros; exact pc_none
  | succ n ih =>
    intro w v2 k hk k4 h1 h2
    rw [f_T_append_19]
    refine pc_ite (fun c => ?_) (fun c => ?_)
    · have e : k = 4 := by omega
      subst e
      exact pc_some ⟨h1, h2⟩
    · refine pc_gd (fun g => ?_)
      refine pc_lw (fun u1 e1 => ?_)
      have t1 : u1 1 1 = w 1 1 := by rw [e1, st_c (by decide)]
      have w1 := w32_sp (u1 1 1 + 1)
      have w2 := w32_sp (v2 + -8)
      refine pc_lw (fun u2 e2 => ?_)
      refine pc_let (fun x3 e3 => ?_)
      refine ih (k + 1) (by omega) (by omega) (by rw [e2, st_eq]; omega) (fun j => ?_)
      have tj : u2 2 j = u1 2 j := by rw [e2, st_c (by decide)]
      rw [tj, e1]
      by_cases hj : j = (w 1 1).toNat
      · rw [hj, st_eq, (ch_rel (ishr_rg v1 v2)).1, if_pos (by omega)]
        rw [show 24 - 8 * ((((w 1 1).toNat : Nat) : Int) - L) = v2 by omega]
      · rw [st_k hj, h2 j]
        by_cases hc : L ≤ j ∧ (j : Int) < L + k
        · rw [if_pos hc, if_pos (by omega)]
        · rw [if_neg hc, if_neg (by omega)]
theorem sg_pc {L v1 : Int} {z : Nat → Int} (hL : 0 ≤ L) : ∀ (n : Nat) {w : Wd} {v2 : Int} (k : Nat), v2 = 3 - (k : Int) → k ≤ 4 → w 43 13 = L + k → (∀ j : Nat, w 51 j = if L ≤ j ∧ (j : Int) < L + k then nb (i2b (ishr v1 (24 - 8 * ((j : Int) - L)))) else z j) → PC (f_R_sign_20 n v1 v2 w) (fun _ u => u 43 13 = L + 4 ∧ ∀ j : Nat, u 51 j = if L ≤ j ∧ (j : Int) < L + 4 then nb (i2b (ishr v1 (24 - 8 * ((j : Int) - L)))) else z j) := by
  intro n
  induction n with
  | zero => intros; exact pc_none
  | succ n ih =>
    intro w v2 k hk k4 h1 h2
    rw [f_R_sign_20]
    refine pc_ite (fun c => ?_) (fun c => ?_)
    · have e : k = 4 := by omega
      subst e
      exact pc_some ⟨h1, h2⟩
    · refine pc_let (fun x2 y2 => ?_)
      have w1 := w32_sp (x2 + 1)
      have w2 := w32_sp (v2 + -1)
      have w3 := w32_sp (8 * v2)
      refine pc_lw (fun u3 e3 => ?_)
      refine pc_gd (fun g => ?_)
      refine pc_lw (fun u4 e4 => ?_)
      refine pc_let (fun x5 e5 => ?_)
      refine ih (k + 1) (by omega) (by omega) (by rw [e4, st_c (by decide), e3, st_eq]; omega) (fun j => ?_)
      rw [e4]
      by_cases hj : j = x2.toNat
      · rw [hj, st_eq, if_pos (by omega)]
        rw [show 24 - 8 * (((x2.toNat : Nat) : Int) - L) = w32 (8 * v2) by omega]
      · rw [st_k hj, e3, st_c (by decide), h2 j]
        by_cases hc : L ≤ j ∧ (j : Int) < L + k
        · rw [if_pos hc, if_pos (by omega)]
        · rw [if_neg hc, if_neg (by omega)]
theorem sgE_pc {w : Wd} {v1 : Int} (h : 0 ≤ w 1 1 ∧ w 1 1 ≤ 80) : PC (f_E_sign v1 w) (fun _ u => (76 < w 1 1 ∧ u = w) ∨ (w 1 1 ≤ 76 ∧ u 1 1 = w 1 1 + 4 ∧ ∀ j : Nat, u 2 j = if w 1 1 ≤ j ∧ (j : Int) < w 1 1 + 4 then ishr v1 (24 - 8 * ((j : Int) - w 1 1)) % 256 else w 2 j)) := by
  unfold f_E_sign f_T_append
  have w1 := w32_sp (w 1 1 + 4)
  have hp : PC (if w32 (w 1 1 + 4) ≤ 80 then f_T_append_19 FU v1 24 w else some (-1, w)) (fun _ u => (76 < w 1 1 ∧ u = w) ∨ (w 1 1 ≤ 76 ∧ u 1 1 = w 1 1 + 4 ∧ ∀ j : Nat, u 2 j = if w 1 1 ≤ j ∧ (j : Int) < w 1 1 + 4 then ishr v1 (24 - 8 * ((j : Int) - w 1 1)) % 256 else w 2 j)) := by
    refine pc_ite (fun c => ?_) (fun c => ?_)
    · refine pc_w (ap_pc (L := w 1 1) (z := w 2) h.1 FU 0 (by omega) (by decide) (by omega) (fun j => ?_)) (fun r u q => Or.inr ⟨by omega, q.1, q.2⟩)
      rw [if_neg (by omega)]
    · exact pc_some (Or.inl ⟨by omega, rfl⟩)
  exact pc_call hp (fun r u q => pc_some q)
theorem sgR_pc {w : Wd} {v1 : Int} (h : 0 ≤ w 43 13 ∧ w 43 13 ≤ 80) : PC (f_R_sign v1 w) (fun _ u => (76 < w 43 13 ∧ u 43 13 = w 43 13 ∧ u 51 = w 51) ∨ (w 43 13 ≤ 76 ∧ u 43 13 = w 43 13 + 4 ∧ ∀ j : Nat, u 51 j = if w 43 13 ≤ j ∧ (j : Int) < w 43 13 + 4 then nb (i2b (ishr v1 (24 - 8 * ((j : Int) - w 43 13)))) else w 51 j)) := by
  unfold f_R_sign
  refine pc_lw (fun u1 e1 => ?_)
  have t13 : u1 43 13 = w 43 13 := by rw [e1, st_k (by decide)]
  have t51 : u1 51 = w 51 := by rw [e1]; exact st_row (by decide)
  have w1 := w32_sp (u1 43 13 + 4)
  refine pc_ite (fun c => ?_) (fun c => ?_)
  · refine pc_w (sg_pc (L := w 43 13) (z := w 51) h.1 FU 0 (by omega) (by decide) (by omega) (fun j => ?_)) (fun r u q => Or.inr ⟨by omega, q.1, q.2⟩)
    rw [if_neg (by omega), t51]
  · exact pc_some (Or.inl ⟨by omega, t13, t51⟩)
/-- both texts after both have typed the same -/
theorem tx_sign {w u1 u2 : Wd} {v1 : Int} (h : TX w) (hb : 0 ≤ w 1 1)
    (hE : (76 < w 1 1 ∧ u1 = w) ∨ (w 1 1 ≤ 76 ∧ u1 1 1 = w 1 1 + 4 ∧ ∀ j : Nat, u1 2 j = if w 1 1 ≤ j ∧ (j : Int) < w 1 1 + 4 then ishr v1 (24 - 8 * ((j : Int) - w 1 1)) % 256 else w 2 j))
    (hR : (76 < u1 43 13 ∧ u2 43 13 = u1 43 13 ∧ u2 51 = u1 51) ∨ (u1 43 13 ≤ 76 ∧ u2 43 13 = u1 43 13 + 4 ∧ ∀ j : Nat, u2 51 j = if u1 43 13 ≤ j ∧ (j : Int) < u1 43 13 + 4 then nb (i2b (ishr v1 (24 - 8 * ((j : Int) - u1 43 13)))) else u1 51 j))
    (f1 : u1 43 13 = w 43 13) (f2 : u1 51 = w 51) (f3 : u2 1 1 = u1 1 1) (f4 : u2 2 = u1 2) : TX u2 := by
  obtain ⟨h1, h2⟩ := h
  unfold TX
  rw [f3, f4]
  rcases hE with ⟨a1, a2⟩ | ⟨a1, a2, a3⟩
  · rcases hR with ⟨b1, b2, b3⟩ | ⟨b1, b2, b3⟩
    · rw [b2, b3, f1, f2, a2]; exact ⟨h1, h2⟩
    · exfalso; omega
  · rcases hR with ⟨b1, b2, b3⟩ | ⟨b1, b2, b3⟩
    · exfalso; omega
    · refine ⟨by omega, fun k hk => ?_⟩
      rw [a3 k, b3 k, f1, ← h1, f2]
      by_cases hc : w 1 1 ≤ k ∧ (k : Int) < w 1 1 + 4
      · rw [if_pos hc, if_pos hc]
        exact ⟨by omega, (ch_rel (ishr_rg v1 _)).2⟩
      · rw [if_neg hc, if_neg hc]
        exact h2 k (by omega)
