/-! THE LAW, AS A PURE FUNCTION: class and reference answer alike -/
/-- both called, one behind the other: 1 where they answer alike -/
def two (a b : Wd → Option (Int × Wd)) (w : Wd) : Option Int := (jcall (a w) fun r u => jcall (b u) fun r2 u2 => some (if r = r2 then 1 else 0, u2)).map (·.1)
theorem two_ok {a b : Wd → Option (Int × Wd)} {w : Wd} (h : two a b w = some 1) : ∃ r u u2, a w = some (r, u) ∧ b u = some (r, u2) := by
  unfold two at h
  cases ha : a w with
  | none => rw [ha] at h; cases h
  | some q =>
    obtain ⟨r, u⟩ := q
    rw [ha] at h
    cases hb : b u with
    | none => simp [jcall, hb] at h
    | some q2 =>
      obtain ⟨r2, u2⟩ := q2
      simp only [jcall, hb, Option.map_some, Option.some.injEq] at h
      refine ⟨r, u, u2, rfl, ?_⟩
      split at h
      · rename_i e; rw [e]; exact hb
      · exact absurd h (by decide)
theorem two_in {a b : Wd → Option (Int × Wd)} {w u u2 : Wd} {r : Int} (ha : a w = some (r, u)) (hb : b u = some (r, u2)) : two a b w = some 1 := by
  simp [two, jcall, ha, hb]
/-- for all of a range, by one reckoning -/
theorem two_rng {a b : Int → Wd → Option (Int × Wd)} {w : Wd} {N : Nat} (h : (List.range N).all (fun n => decide (two (a (n : Int)) (b (n : Int)) w = some 1)) = true) {v : Int} (h0 : 0 ≤ v) (h1 : v < (N : Int)) : two (a v) (b v) w = some 1 := by
  have h2 := List.all_eq_true.mp h v.toNat (List.mem_range.mpr (by omega))
  have h3 := of_decide_eq_true h2
  have e : ((v.toNat : Nat) : Int) = v := by omega
  rw [e] at h3
  exact h3
theorem tail_1316 {xf : Nat → Int32} (w : Wd) : f_A_law_1316 5 xf (f_A_law 5 xf 2) 0 w = some (1, w) := by rfl
theorem z5_3 : w0 5 3 = 0 := by decide +kernel
theorem z43_0 : w0 43 0 = 0 := by decide +kernel
theorem y43_0 : st w0 43 16 0 43 0 = 0 := by decide +kernel
theorem m1 : w32 (0 - 1) = -1 := by decide +kernel
theorem in_lo {v a b : Int} {w : Wd} (h : v < a) : f_R_in v a b w = some (0, w) := by
  unfold f_R_in; rw [if_pos h]
theorem in_hi {v a b : Int} {w : Wd} (h : b < v) : f_R_in v a b w = some (0, w) := by
  unfold f_R_in
  rw [if_pos h, ite_self]
theorem jlw_eq {α : Type} {w : Wd} {f : Wd → α} : jlw w f = f w := rfl
theorem in_no {v a b : Int} {w : Wd} (h : v < a ∨ b < v) : f_R_in v a b w = some (0, w) := by
  rcases h with h | h
  · exact in_lo h
  · exact in_hi h
theorem isT (v : Int) {w : Wd} (h : w 5 3 = 0) : f_F_isThere v w = some (0, w) := by
  unfold f_F_isThere
  split
  · rfl
  · rw [h]
    split
    · rfl
    · omega
theorem isO (v : Int) {w : Wd} (h : w 43 0 = 0) : f_R_isOne v w = some (0, w) := by
  unfold f_R_isOne
  rw [h, m1, in_no (by omega)]
  rfl
theorem arE (a b : Int) {w : Wd} (h : w 5 3 = 0) : f_E_areTwo a b w = some (0, w) := by
  unfold f_E_areTwo
  split
  · rfl
  · rw [isT _ h]; rfl
theorem arR (a b : Int) {w : Wd} (h : w 43 0 = 0) : f_R_areTwo a b w = some (0, w) := by
  unfold f_R_areTwo
  rw [isO _ h]; rfl
theorem jc_some {r : Int} {u : Wd} {f : Int → Wd → Option (Int × Wd)} : jcall (some (r, u)) f = f r u := rfl
theorem two_meet (a b c : Int) : two (f_E_meet a b c) (f_R_meet a b c) w0 = some 1 := by
  refine two_in (r := 0) (u := w0) (u2 := st w0 43 16 0) ?_ ?_
  · unfold f_E_meet; rw [arE _ _ z5_3]; rfl
  · unfold f_R_meet; rw [jlw_eq, arR _ _ y43_0]; rfl
theorem two_hide (a b : Int) : two (f_E_hide a b) (f_R_hide a b) w0 = some 1 := by
  refine two_in (r := 0) (u := w0) (u2 := st w0 43 16 0) ?_ ?_
  · unfold f_E_hide; rw [isT _ z5_3]; rfl
  · unfold f_R_hide; rw [jlw_eq, isO _ y43_0]; rfl
theorem two_both (a b c : Int) : two (f_E_both a b c) (f_R_both a b c) w0 = some 1 := by
  refine two_in (r := -1) (u := w0) (u2 := st w0 43 16 0) ?_ ?_
  · unfold f_E_both; rw [arE _ _ z5_3]; rfl
  · unfold f_R_both; rw [jlw_eq, arR _ _ y43_0]; rfl
theorem two_common (a b : Int) : two (f_E_common a b) (f_R_common a b) w0 = some 1 := by
  refine two_in (r := -1) (u := w0) (u2 := st w0 43 16 0) ?_ ?_
  · unfold f_E_common; rw [arE _ _ z5_3]; rfl
  · unfold f_R_common; rw [jlw_eq, arR _ _ y43_0]; rfl
theorem two_stays (a : Int) : two (f_E_stays a) (f_R_stays a) w0 = some 1 := by
  refine two_in (r := -1) (u := w0) (u2 := st w0 43 16 0) ?_ ?_
  · unfold f_E_stays; rw [isT _ z5_3]; rfl
  · unfold f_R_stays; rw [jlw_eq, isO _ y43_0]; rfl
theorem two_soonest (a : Int) : two (f_E_soonest a) (f_R_soonest a) w0 = some 1 := by
  refine two_in (r := -1) (u := w0) (u2 := st w0 43 16 0) ?_ ?_
  · unfold f_E_soonest; rw [isT _ z5_3]; rfl
  · unfold f_R_soonest; rw [jlw_eq, isO _ y43_0]; rfl
theorem two_far (a : Int) : two (f_E_far a) (f_R_far a) w0 = some 1 := by
  refine two_in (r := -1) (u := w0) (u2 := st w0 43 16 0) ?_ ?_
  · unfold f_E_far; rw [isT _ z5_3]; rfl
  · unfold f_R_far; rw [jlw_eq, isO _ y43_0]; rfl
theorem two_line (a : Int) : two (f_E_line a) (f_R_line a) w0 = some 1 := by
  refine two_in (r := -1) (u := w0) (u2 := st w0 43 16 0) ?_ ?_
  · unfold f_E_line; rw [isT _ z5_3]; rfl
  · unfold f_R_line; rw [jlw_eq, isO _ y43_0]; rfl
theorem two_led (a : Int) : two (f_E_led a) (f_R_led a) w0 = some 1 := by
  refine two_in (r := -1) (u := w0) (u2 := st w0 43 16 0) ?_ ?_
  · unfold f_E_led; rw [isT _ z5_3]; rfl
  · unfold f_R_led; rw [jlw_eq, isO _ y43_0]; rfl
/-! with a number out of its range, or in it -/
theorem isW_no {v : Int} {w : Wd} (h : v < 0 ∨ 60 < v) : f_E_isWeek v w = some (0, w) := by
  unfold f_E_isWeek
  split
  · rfl
  · rw [if_pos (by omega)]
theorem isWs_no {v : Int} {w : Wd} (h : v < 0 ∨ 60 < v) : f_R_isWeeks v w = some (0, w) := by
  unfold f_R_isWeeks
  rw [in_no h]; rfl
theorem two_goes (v : Int) : two (f_E_goes v) (f_R_goes v) w0 = some 1 := by
  by_cases h : v < 0 ∨ 60 < v
  · refine two_in (r := -1) (u := w0) (u2 := st w0 43 16 0) ?_ ?_
    · unfold f_E_goes; rw [isW_no h]; rfl
    · unfold f_R_goes; rw [jlw_eq, in_no h]; rfl
  · exact two_rng (N := 61) (by decide +kernel) (by omega) (by omega)
theorem has_no {a v : Int} {w : Wd} (h : v < 0 ∨ 10 ≤ v) : f_E_has a v w = some (0, w) := by
  unfold f_E_has
  split
  · rfl
  · rw [if_pos (by omega)]
theorem gu0 : f_F_guests w0 = some (0, w0) := by
  unfold f_F_guests f_O_guests
  have e : iand (ior (w0 5 4) (ishr (w0 5 4) 10)) 1023 = 0 := by decide +kernel
  rw [e]; rfl
theorem fr0 : ∃ r, f_F_free w0 = some (r, w0) := ⟨_, rfl⟩
theorem two_picks (v : Int) : two (f_E_picks v) (f_R_picks v) w0 = some 1 := by
  by_cases h : v < 0 ∨ 10 ≤ v
  · refine two_in (r := -1) (u := w0) (u2 := st w0 43 16 0) ?_ ?_
    · unfold f_E_picks; rw [gu0, jc_some, has_no h]; rfl
    · unfold f_R_picks; rw [jlw_eq, isO _ y43_0]; rfl
  · exact two_rng (N := 10) (by decide +kernel) (by omega) (by omega)
theorem two_worth (v : Int) : two (f_E_worth v) (f_R_worth v) w0 = some 1 := by
  by_cases h : v < 0 ∨ 10 ≤ v
  · obtain ⟨r, hr⟩ := fr0
    refine two_in (r := -1) (u := w0) (u2 := st w0 43 16 0) ?_ ?_
    · unfold f_E_worth; rw [hr, jc_some, has_no h]; rfl
    · unfold f_R_worth; rw [jlw_eq, isO _ y43_0]; rfl
  · exact two_rng (N := 10) (by decide +kernel) (by omega) (by omega)
theorem two_was (v : Int) : two (f_E_was v) (f_R_was v) w0 = some 1 := by
  have e1 : w0 15 3 = 0 := by decide +kernel
  have e2 : st w0 43 16 0 43 8 = 0 := by decide +kernel
  by_cases h : v < 0 ∨ 0 < v
  · refine two_in (r := -1) (u := w0) (u2 := st w0 43 16 0) ?_ ?_
    · unfold f_E_was f_E_was_15; rw [e1]
      split
      · rfl
      · rw [if_neg (by omega)]
    · unfold f_R_was; rw [jlw_eq, e2, in_no h]; rfl
  · exact two_rng (N := 1) (by decide +kernel) (by omega) (by omega)
theorem two_count (v : Int) : two (f_E_count v) (f_R_count v) w0 = some 1 := by
  by_cases h : v < 0 ∨ 9 < v
  · refine two_in (r := -1) (u := w0) (u2 := st w0 43 16 0) ?_ ?_
    · unfold f_E_count; rw [if_pos h]
    · unfold f_R_count; rw [jlw_eq, if_pos h]
  · exact two_rng (N := 10) (by decide +kernel) (by omega) (by omega)
theorem two_keep (v : Int) : two (f_E_keep v) (f_R_keep v) w0 = some 1 := by
  by_cases h : v < 0 ∨ 1 < v
  · refine two_in (r := 0) (u := w0) (u2 := st w0 43 16 0) ?_ ?_
    · unfold f_E_keep
      split
      · rfl
      · rw [if_neg (by omega)]
    · unfold f_R_keep; rw [jlw_eq, in_no h]; rfl
  · exact two_rng (N := 2) (by decide +kernel) (by omega) (by omega)
theorem two_again (v : Int) : two (f_E_again v) (f_R_again v) w0 = some 1 := by
  by_cases h : v < 0 ∨ 1 < v
  · refine two_in (r := 0) (u := w0) (u2 := st w0 43 16 0) ?_ ?_
    · unfold f_E_again
      split
      · rfl
      · rw [if_pos (by omega)]
    · unfold f_R_again; rw [jlw_eq, in_no h]; rfl
  · exact two_rng (N := 2) (by decide +kernel) (by omega) (by omega)
theorem two_end (v : Int) : two (f_E_end v) (f_R_end v) w0 = some 1 := by
  have e1 : w0 1 1 = 0 := by decide +kernel
  have e2 : st w0 43 16 0 43 13 = 0 := by decide +kernel
  by_cases h : v < 0 ∨ 0 < v
  · refine two_in (r := 0) (u := w0) (u2 := st w0 43 16 0) ?_ ?_
    · have e : f_T_cut v w0 = some (0, w0) := by
        unfold f_T_cut; rw [e1]
        split
        · rfl
        · rw [if_neg (by omega)]
      unfold f_E_end; rw [e]; rfl
    · unfold f_R_end; rw [jlw_eq, e2, in_no h]; rfl
  · exact two_rng (N := 1) (by decide +kernel) (by omega) (by omega)
theorem iand_m1 {v : Int} (h : -2147483648 ≤ v ∧ v < 2147483648) : iand v (-1) = v := by
  unfold iand
  have e : Int32.ofInt (-1) = -1 := by decide
  rw [e]
  have e2 : Int32.ofInt v &&& -1 = Int32.ofInt v := by
    have : ∀ x : Int32, x &&& -1 = x := fun x => by
      apply Int32.toBitVec_inj.mp
      simp
    exact this _
  rw [e2]
  exact Int32.toInt_ofInt_of_le h.1 (by have := h.2; exact this)
theorem two_baby {v : Int} (hr : -2147483648 ≤ v ∧ v < 2147483648) : two (f_E_baby v) (f_R_baby v) w0 = some 1 := by
  by_cases h : v < 0 ∨ 0 < v
  · refine two_in (r := -1) (u := w0) (u2 := st w0 43 16 0) ?_ ?_
    · have e : f_F_everybody w0 = some (0, w0) := by
        unfold f_F_everybody
        have e : w32 (ishl 1 (w0 5 3) - 1) = 0 := by decide +kernel
        rw [e]
      have e2 : ixor 0 (-1) = -1 := by decide +kernel
      unfold f_E_baby
      rw [z5_3, if_neg (by decide), e, jc_some, e2, iand_m1 hr, if_neg (by omega)]
    · unfold f_R_baby; rw [jlw_eq]
      have e : w32 (ishl 1 (st w0 43 16 0 43 0) - 1) = 0 := by decide +kernel
      rw [e, in_no h]; rfl
  · exact two_rng (N := 1) (by decide +kernel) (by omega) (by omega)
theorem two_law (a b : Int) : two (f_E_law a b) (f_R_law a b) w0 = some 1 := by
  by_cases ha : a < 0 ∨ 1 < a
  · refine two_in (r := -1) (u := w0) (u2 := st w0 43 16 0) ?_ ?_
    · unfold f_E_law
      split
      · rfl
      · split
        · rfl
        · rw [if_pos (by omega)]
    · unfold f_R_law; rw [jlw_eq, in_no ha]; rfl
  · by_cases hb : b < 1 ∨ 10 < b
    · have h : a = 0 ∨ a = 1 := by omega
      rcases h with rfl | rfl
      · refine two_in (r := -1) (u := w0) (u2 := st w0 43 16 0) ?_ ?_
        · unfold f_E_law
          split
          · rfl
          · rw [if_neg (by decide), if_neg (by decide), if_pos rfl]
            unfold f_E_law_25
            rw [if_neg (by omega)]
        · unfold f_R_law; rw [jlw_eq]
          rw [show f_R_in 0 0 1 (st w0 43 16 0) = some (1, st w0 43 16 0) from rfl, jc_some, if_neg (by decide), if_pos rfl]
          unfold f_R_law_26
          rw [in_no (by omega)]; rfl
      · refine two_in (r := -1) (u := w0) (u2 := st w0 43 16 0) ?_ ?_
        · unfold f_E_law
          split
          · rfl
          · rw [if_neg (by decide), if_neg (by decide), if_neg (by decide)]
            unfold f_E_law_25
            rw [if_neg (by omega)]
        · unfold f_R_law; rw [jlw_eq]
          rw [show f_R_in 1 0 1 (st w0 43 16 0) = some (1, st w0 43 16 0) from rfl, jc_some, if_neg (by decide), if_neg (by decide)]
          unfold f_R_law_26
          rw [in_no (by omega)]; rfl
    · have h : a = 0 ∨ a = 1 := by omega
      rcases h with rfl | rfl
      · exact two_rng (a := fun v => f_E_law 0 v) (b := fun v => f_R_law 0 v) (N := 11) (by decide +kernel) (by omega) (by omega)
      · exact two_rng (a := fun v => f_E_law 1 v) (b := fun v => f_R_law 1 v) (N := 11) (by decide +kernel) (by omega) (by omega)
theorem eFU : FU = 3999999999 + 1 := rfl
theorem in_yes {v a b : Int} {w : Wd} (h1 : a ≤ v) (h2 : v ≤ b) : f_R_in v a b w = some (1, w) := by
  unfold f_R_in; rw [if_neg (by omega), if_neg (by omega)]
theorem sheet34 {k n f s : Int} {w : Wd} (h : w 43 0 = 0) : f_R_sheet_34 k n f s w = some (if k = 3 then -3 else 0, w) := by
  unfold f_R_sheet_34
  rw [eFU, f_R_sheet_43, h, if_pos (by decide)]
  split <;> rfl
theorem ev0 : f_F_everybody w0 = some (0, w0) := by
  unfold f_F_everybody
  have e : w32 (ishl 1 (w0 5 3) - 1) = 0 := by decide +kernel
  rw [e]
theorem po0 : f_F_pricesOf 0 w0 = some (0, w0) := by
  unfold f_F_pricesOf
  rw [eFU, f_F_pricesOf_4, z5_3, if_pos (by decide)]
theorem fill6 : ∃ r u, f_JA_fill_6 0 w0 = some (r, u) ∧ u 43 0 = 0 := by
  have h : (f_JA_fill_6 0 w0).map (fun q => q.2 43 0) = some 0 := by decide +kernel
  cases e : f_JA_fill_6 0 w0 with
  | none => rw [e] at h; cases h
  | some q =>
    rw [e] at h
    exact ⟨q.1, q.2, rfl, Option.some.inj h⟩
theorem two_sheet (k n f s : Int) : two (f_E_sheet k n f s) (f_R_sheet k n f s) w0 = some 1 := by
  by_cases hk : k < 0 ∨ 3 < k
  · refine two_in (r := -1) (u := w0) (u2 := st w0 43 16 0) ?_ ?_
    · unfold f_E_sheet
      split
      · rfl
      · rw [if_pos (by omega)]
    · unfold f_R_sheet; rw [jlw_eq, in_no hk]; rfl
  · by_cases hn : 10 < n
    · refine two_in (r := -1) (u := w0) (u2 := st w0 43 16 0) ?_ ?_
      · unfold f_E_sheet
        rw [if_neg (by omega), if_neg (by omega), if_neg (by omega)]
      · unfold f_R_sheet; rw [jlw_eq]
        rw [in_yes (by omega) (by omega), jc_some, if_neg (by decide), if_neg (by omega)]
    · by_cases h3 : k = 3
      · obtain ⟨r, u, hf, hz⟩ := fill6
        refine two_in (r := -3) (u := u) (u2 := st u 43 16 0) ?_ ?_
        · unfold f_E_sheet
          rw [if_neg (by omega), if_neg (by omega), if_pos (by omega), if_pos h3, hf]; rfl
        · unfold f_R_sheet; rw [jlw_eq]
          have hz2 : st u 43 16 0 43 0 = 0 := by rw [st_k (by decide)]; exact hz
          rw [in_yes (by omega) (by omega), jc_some, if_neg (by decide), if_pos (by omega), if_pos (by omega), sheet34 hz2, if_pos h3]
      · by_cases h0 : n < 0
        · refine two_in (r := -2) (u := w0) (u2 := st w0 43 16 0) ?_ ?_
          · unfold f_E_sheet
            rw [if_neg (by omega), if_neg (by omega), if_pos (by omega), if_neg h3, if_neg (by omega)]
          · unfold f_R_sheet; rw [jlw_eq]
            rw [in_yes (by omega) (by omega), jc_some, if_neg (by decide), if_pos (by omega), if_neg (by omega), if_neg (by omega)]
        · refine two_in (r := 0) (u := w0) (u2 := st w0 43 16 0) ?_ ?_
          · unfold f_E_sheet
            rw [if_neg (by omega), if_neg (by omega), if_pos (by omega), if_neg h3, if_pos (by omega), eFU, f_E_sheet_46, z5_3, if_pos (by decide), ev0, jc_some, po0]; rfl
          · unfold f_R_sheet; rw [jlw_eq]
            rw [in_yes (by omega) (by omega), jc_some, if_neg (by decide), if_pos (by omega), if_neg (by omega), if_pos (by omega), sheet34 y43_0, if_neg h3]
/-! sign -/
theorem apT {n : Nat} {v k c : Int} {w : Wd} (hk : 0 ≤ k) (h : w 1 1 = c) (hc : 0 ≤ c ∧ c < 80) : ∃ u : Wd, f_T_append_19 (n + 1) v k w = f_T_append_19 n v (w32 (k + (-8))) u ∧ u 1 1 = w32 (c + 1) ∧ ∀ c' k', 43 ≤ c' → u c' k' = w c' k' := by
  refine ⟨st (st w 2 (w 1 1).toNat (nc (i2c (iand (ishr v k) 255)))) 1 1 (w32 (c + 1)), ?_, st_eq _ _ _ _, ?_⟩
  · rw [f_T_append_19, if_neg (by omega), jgd, if_pos (by rw [h]; exact hc)]
    simp only [jlw, jlet]
    rw [st_c (w := w) (by decide), h]
  · intro c' k' h'
    rw [st_c (by omega), st_c (by omega)]
theorem apR {n : Nat} {v k c : Int} {w : Wd} (hk : 0 ≤ k) (h : w 43 13 = c) (hc : 0 ≤ c ∧ c < 80) : ∃ u : Wd, f_R_sign_20 (n + 1) v k w = f_R_sign_20 n v (w32 (k + (-1))) u ∧ u 43 13 = w32 (c + 1) := by
  refine ⟨st (st w 43 13 (w32 (c + 1))) 51 c.toNat (nb (i2b (ishr v (w32 (8 * k))))), ?_, by rw [st_c (by decide), st_eq]⟩
  rw [f_R_sign_20, if_neg (by omega)]
  simp only [jlw, jlet, h]
  rw [jgd, if_pos hc]
theorem eFU5 : FU = 3999999995 + 1 + 1 + 1 + 1 + 1 := rfl
theorem two_sign (v : Int) : two (f_E_sign v) (f_R_sign v) w0 = some 1 := by
  have e1 : w0 1 1 = 0 := by decide +kernel
  have e2 : st w0 43 16 0 43 13 = 0 := by decide +kernel
  have k1 : w32 (24 + (-8)) = 16 := by decide +kernel
  have k2 : w32 (16 + (-8)) = 8 := by decide +kernel
  have k3 : w32 (8 + (-8)) = 0 := by decide +kernel
  have k4 : w32 (0 + (-8)) = -8 := by decide +kernel
  have j1 : w32 (3 + (-1)) = 2 := by decide +kernel
  have j2 : w32 (2 + (-1)) = 1 := by decide +kernel
  have j3 : w32 (1 + (-1)) = 0 := by decide +kernel
  have j4 : w32 (0 + (-1)) = -1 := by decide +kernel
  have c1 : w32 (0 + 1) = 1 := by decide +kernel
  have c2 : w32 (1 + 1) = 2 := by decide +kernel
  have c3 : w32 (2 + 1) = 3 := by decide +kernel
  have c4 : w32 (3 + 1) = 4 := by decide +kernel
  have c5 : w32 (0 + 4) = 4 := by decide +kernel
  obtain ⟨u1, a1, b1, d1⟩ := apT (n := 3999999995 + 1 + 1 + 1 + 0 + 1) (v := v) (k := 24) (w := w0) (by decide) e1 (by decide)
  rw [k1] at a1; rw [c1] at b1
  obtain ⟨u2, a2, b2, d2⟩ := apT (n := 3999999995 + 1 + 1 + 1) (v := v) (k := 16) (w := u1) (by decide) b1 (by decide)
  rw [k2] at a2; rw [c2] at b2
  obtain ⟨u3, a3, b3, d3⟩ := apT (n := 3999999995 + 1 + 1) (v := v) (k := 8) (w := u2) (by decide) b2 (by decide)
  rw [k3] at a3; rw [c3] at b3
  obtain ⟨u4, a4, b4, d4⟩ := apT (n := 3999999995 + 1) (v := v) (k := 0) (w := u3) (by decide) b3 (by decide)
  rw [k4] at a4; rw [c4] at b4
  have hE : f_E_sign v w0 = some (4, u4) := by
    unfold f_E_sign f_T_append
    rw [e1, c5, if_pos (by decide), eFU5]
    rw [show f_T_append_19 (3999999995 + 1 + 1 + 1 + 1 + 1) v 24 w0 = _ from a1, a2, a3, a4, f_T_append_19, if_pos (by decide), b4]; rfl
  have g0 : st u4 43 16 0 43 13 = 0 := by
    rw [st_k (by decide), d4 _ _ (by decide), d3 _ _ (by decide), d2 _ _ (by decide), d1 _ _ (by decide), ← e2, st_k (by decide)]
  obtain ⟨v1, p1, q1⟩ := apR (n := 3999999995 + 1 + 1 + 1 + 1) (v := v) (k := 3) (w := st u4 43 16 0) (by decide) g0 (by decide)
  rw [j1] at p1; rw [c1] at q1
  obtain ⟨v2, p2, q2⟩ := apR (n := 3999999995 + 1 + 1 + 1) (v := v) (k := 2) (w := v1) (by decide) q1 (by decide)
  rw [j2] at p2; rw [c2] at q2
  obtain ⟨v3, p3, q3⟩ := apR (n := 3999999995 + 1 + 1) (v := v) (k := 1) (w := v2) (by decide) q2 (by decide)
  rw [j3] at p3; rw [c3] at q3
  obtain ⟨v4, p4, q4⟩ := apR (n := 3999999995 + 1) (v := v) (k := 0) (w := v3) (by decide) q3 (by decide)
  rw [j4] at p4; rw [c4] at q4
  have hR : f_R_sign v u4 = some (4, v4) := by
    unfold f_R_sign
    simp only [jlw]
    rw [g0, c5, if_pos (by decide), eFU5, p1, p2, p3, p4, f_R_sign_20, if_pos (by decide), q4]
  exact two_in hE hR
